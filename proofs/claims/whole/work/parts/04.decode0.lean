theorem dX0_init_0 : decode cX0_init 0 = .ok (.aload_n 0, 1) := by decide +kernel
theorem dX0_init_1 : decode cX0_init 1 = .ok (.invokespecial 3, 3) := by decide +kernel
theorem dX0_init_4 : decode cX0_init 4 = .ok (.aload_n 0, 1) := by decide +kernel
theorem dX0_init_5 : decode cX0_init 5 = .ok (.bipush 8, 2) := by decide +kernel
theorem dX0_init_7 : decode cX0_init 7 = .ok (.newarray .int, 2) := by decide +kernel
theorem dX0_init_9 : decode cX0_init 9 = .ok (.putfield 9, 3) := by decide +kernel
theorem dX0_init_12 : decode cX0_init 12 = .ok (.aload_n 0, 1) := by decide +kernel
theorem dX0_init_13 : decode cX0_init 13 = .ok (.bipush 8, 2) := by decide +kernel
theorem dX0_init_15 : decode cX0_init 15 = .ok (.newarray .int, 2) := by decide +kernel
theorem dX0_init_17 : decode cX0_init 17 = .ok (.putfield 15, 3) := by decide +kernel
theorem dX0_init_20 : decode cX0_init 20 = .ok (.aload_n 0, 1) := by decide +kernel
theorem dX0_init_21 : decode cX0_init 21 = .ok (.bipush 32, 2) := by decide +kernel
theorem dX0_init_23 : decode cX0_init 23 = .ok (.newarray .int, 2) := by decide +kernel
theorem dX0_init_25 : decode cX0_init 25 = .ok (.putfield 18, 3) := by decide +kernel
theorem dX0_init_28 : decode cX0_init 28 = .ok (.aload_n 0, 1) := by decide +kernel
theorem dX0_init_29 : decode cX0_init 29 = .ok (.iconst 4, 1) := by decide +kernel
theorem dX0_init_30 : decode cX0_init 30 = .ok (.newarray .int, 2) := by decide +kernel
theorem dX0_init_32 : decode cX0_init 32 = .ok (.putfield 21, 3) := by decide +kernel
theorem dX0_init_35 : decode cX0_init 35 = .ok (.aload_n 0, 1) := by decide +kernel
theorem dX0_init_36 : decode cX0_init 36 = .ok (.bipush 8, 2) := by decide +kernel
theorem dX0_init_38 : decode cX0_init 38 = .ok (.newarray .int, 2) := by decide +kernel
theorem dX0_init_40 : decode cX0_init 40 = .ok (.putfield 24, 3) := by decide +kernel
theorem dX0_init_43 : decode cX0_init 43 = .ok (.aload_n 0, 1) := by decide +kernel
theorem dX0_init_44 : decode cX0_init 44 = .ok (.bipush 8, 2) := by decide +kernel
theorem dX0_init_46 : decode cX0_init 46 = .ok (.newarray .int, 2) := by decide +kernel
theorem dX0_init_48 : decode cX0_init 48 = .ok (.putfield 27, 3) := by decide +kernel
theorem dX0_init_51 : decode cX0_init 51 = .ok (.aload_n 0, 1) := by decide +kernel
theorem dX0_init_52 : decode cX0_init 52 = .ok (.bipush 30, 2) := by decide +kernel
theorem dX0_init_54 : decode cX0_init 54 = .ok (.putfield 30, 3) := by decide +kernel
theorem dX0_init_57 : decode cX0_init 57 = .ok (.aload_n 0, 1) := by decide +kernel
theorem dX0_init_58 : decode cX0_init 58 = .ok (.aload_n 1, 1) := by decide +kernel
theorem dX0_init_59 : decode cX0_init 59 = .ok (.putfield 34, 3) := by decide +kernel
theorem dX0_init_62 : decode cX0_init 62 = .ok (.return_, 1) := by decide +kernel
theorem dX0_becomeLike_0 : decode cX0_becomeLike 0 = .ok (.aload_n 1, 1) := by decide +kernel
theorem dX0_becomeLike_1 : decode cX0_becomeLike 1 = .ok (.getfield 9, 3) := by decide +kernel
theorem dX0_becomeLike_4 : decode cX0_becomeLike 4 = .ok (.iconst 0, 1) := by decide +kernel
theorem dX0_becomeLike_5 : decode cX0_becomeLike 5 = .ok (.aload_n 0, 1) := by decide +kernel
theorem dX0_becomeLike_6 : decode cX0_becomeLike 6 = .ok (.getfield 9, 3) := by decide +kernel
theorem dX0_becomeLike_9 : decode cX0_becomeLike 9 = .ok (.iconst 0, 1) := by decide +kernel
theorem dX0_becomeLike_10 : decode cX0_becomeLike 10 = .ok (.iload_n 2, 1) := by decide +kernel
theorem dX0_becomeLike_11 : decode cX0_becomeLike 11 = .ok (.invokestatic 38, 3) := by decide +kernel
theorem dX0_becomeLike_14 : decode cX0_becomeLike 14 = .ok (.aload_n 1, 1) := by decide +kernel
theorem dX0_becomeLike_15 : decode cX0_becomeLike 15 = .ok (.getfield 15, 3) := by decide +kernel
theorem dX0_becomeLike_18 : decode cX0_becomeLike 18 = .ok (.iconst 0, 1) := by decide +kernel
theorem dX0_becomeLike_19 : decode cX0_becomeLike 19 = .ok (.aload_n 0, 1) := by decide +kernel
theorem dX0_becomeLike_20 : decode cX0_becomeLike 20 = .ok (.getfield 15, 3) := by decide +kernel
theorem dX0_becomeLike_23 : decode cX0_becomeLike 23 = .ok (.iconst 0, 1) := by decide +kernel
theorem dX0_becomeLike_24 : decode cX0_becomeLike 24 = .ok (.bipush 8, 2) := by decide +kernel
theorem dX0_becomeLike_26 : decode cX0_becomeLike 26 = .ok (.invokestatic 38, 3) := by decide +kernel
theorem dX0_becomeLike_29 : decode cX0_becomeLike 29 = .ok (.aload_n 1, 1) := by decide +kernel
theorem dX0_becomeLike_30 : decode cX0_becomeLike 30 = .ok (.getfield 18, 3) := by decide +kernel
theorem dX0_becomeLike_33 : decode cX0_becomeLike 33 = .ok (.iconst 0, 1) := by decide +kernel
theorem dX0_becomeLike_34 : decode cX0_becomeLike 34 = .ok (.aload_n 0, 1) := by decide +kernel
theorem dX0_becomeLike_35 : decode cX0_becomeLike 35 = .ok (.getfield 18, 3) := by decide +kernel
theorem dX0_becomeLike_38 : decode cX0_becomeLike 38 = .ok (.iconst 0, 1) := by decide +kernel
theorem dX0_becomeLike_39 : decode cX0_becomeLike 39 = .ok (.bipush 32, 2) := by decide +kernel
theorem dX0_becomeLike_41 : decode cX0_becomeLike 41 = .ok (.invokestatic 38, 3) := by decide +kernel
theorem dX0_becomeLike_44 : decode cX0_becomeLike 44 = .ok (.aload_n 1, 1) := by decide +kernel
theorem dX0_becomeLike_45 : decode cX0_becomeLike 45 = .ok (.getfield 21, 3) := by decide +kernel
theorem dX0_becomeLike_48 : decode cX0_becomeLike 48 = .ok (.iconst 0, 1) := by decide +kernel
theorem dX0_becomeLike_49 : decode cX0_becomeLike 49 = .ok (.aload_n 0, 1) := by decide +kernel
theorem dX0_becomeLike_50 : decode cX0_becomeLike 50 = .ok (.getfield 21, 3) := by decide +kernel
theorem dX0_becomeLike_53 : decode cX0_becomeLike 53 = .ok (.iconst 0, 1) := by decide +kernel
theorem dX0_becomeLike_54 : decode cX0_becomeLike 54 = .ok (.iconst 4, 1) := by decide +kernel
theorem dX0_becomeLike_55 : decode cX0_becomeLike 55 = .ok (.invokestatic 38, 3) := by decide +kernel
theorem dX0_becomeLike_58 : decode cX0_becomeLike 58 = .ok (.aload_n 0, 1) := by decide +kernel
theorem dX0_becomeLike_59 : decode cX0_becomeLike 59 = .ok (.aload_n 1, 1) := by decide +kernel
theorem dX0_becomeLike_60 : decode cX0_becomeLike 60 = .ok (.getfield 44, 3) := by decide +kernel
theorem dX0_becomeLike_63 : decode cX0_becomeLike 63 = .ok (.putfield 44, 3) := by decide +kernel
theorem dX0_becomeLike_66 : decode cX0_becomeLike 66 = .ok (.aload_n 0, 1) := by decide +kernel
theorem dX0_becomeLike_67 : decode cX0_becomeLike 67 = .ok (.aload_n 1, 1) := by decide +kernel
theorem dX0_becomeLike_68 : decode cX0_becomeLike 68 = .ok (.getfield 47, 3) := by decide +kernel
theorem dX0_becomeLike_71 : decode cX0_becomeLike 71 = .ok (.putfield 47, 3) := by decide +kernel
theorem dX0_becomeLike_74 : decode cX0_becomeLike 74 = .ok (.aload_n 0, 1) := by decide +kernel
theorem dX0_becomeLike_75 : decode cX0_becomeLike 75 = .ok (.aload_n 1, 1) := by decide +kernel
theorem dX0_becomeLike_76 : decode cX0_becomeLike 76 = .ok (.getfield 30, 3) := by decide +kernel
theorem dX0_becomeLike_79 : decode cX0_becomeLike 79 = .ok (.putfield 30, 3) := by decide +kernel
theorem dX0_becomeLike_82 : decode cX0_becomeLike 82 = .ok (.aload_n 0, 1) := by decide +kernel
theorem dX0_becomeLike_83 : decode cX0_becomeLike 83 = .ok (.aload_n 1, 1) := by decide +kernel
theorem dX0_becomeLike_84 : decode cX0_becomeLike 84 = .ok (.getfield 50, 3) := by decide +kernel
theorem dX0_becomeLike_87 : decode cX0_becomeLike 87 = .ok (.putfield 50, 3) := by decide +kernel
theorem dX0_becomeLike_90 : decode cX0_becomeLike 90 = .ok (.return_, 1) := by decide +kernel
theorem dX0_startAnew_0 : decode cX0_startAnew 0 = .ok (.aload_n 0, 1) := by decide +kernel
theorem dX0_startAnew_1 : decode cX0_startAnew 1 = .ok (.getfield 9, 3) := by decide +kernel
theorem dX0_startAnew_4 : decode cX0_startAnew 4 = .ok (.iconst 0, 1) := by decide +kernel
theorem dX0_startAnew_5 : decode cX0_startAnew 5 = .ok (.invokestatic 53, 3) := by decide +kernel
theorem dX0_startAnew_8 : decode cX0_startAnew 8 = .ok (.aload_n 0, 1) := by decide +kernel
theorem dX0_startAnew_9 : decode cX0_startAnew 9 = .ok (.getfield 15, 3) := by decide +kernel
theorem dX0_startAnew_12 : decode cX0_startAnew 12 = .ok (.iconst 0, 1) := by decide +kernel
theorem dX0_startAnew_13 : decode cX0_startAnew 13 = .ok (.invokestatic 53, 3) := by decide +kernel
theorem dX0_startAnew_16 : decode cX0_startAnew 16 = .ok (.aload_n 0, 1) := by decide +kernel
theorem dX0_startAnew_17 : decode cX0_startAnew 17 = .ok (.iconst 0, 1) := by decide +kernel
theorem dX0_startAnew_18 : decode cX0_startAnew 18 = .ok (.putfield 44, 3) := by decide +kernel
theorem dX0_startAnew_21 : decode cX0_startAnew 21 = .ok (.aload_n 0, 1) := by decide +kernel
theorem dX0_startAnew_22 : decode cX0_startAnew 22 = .ok (.iconst 0, 1) := by decide +kernel
theorem dX0_startAnew_23 : decode cX0_startAnew 23 = .ok (.putfield 47, 3) := by decide +kernel
theorem dX0_startAnew_26 : decode cX0_startAnew 26 = .ok (.aload_n 0, 1) := by decide +kernel
theorem dX0_startAnew_27 : decode cX0_startAnew 27 = .ok (.iload_n 1, 1) := by decide +kernel
theorem dX0_startAnew_28 : decode cX0_startAnew 28 = .ok (.putfield 30, 3) := by decide +kernel
theorem dX0_startAnew_31 : decode cX0_startAnew 31 = .ok (.aload_n 0, 1) := by decide +kernel
theorem dX0_startAnew_32 : decode cX0_startAnew 32 = .ok (.iload_n 2, 1) := by decide +kernel
theorem dX0_startAnew_33 : decode cX0_startAnew 33 = .ok (.putfield 50, 3) := by decide +kernel
theorem dX0_startAnew_36 : decode cX0_startAnew 36 = .ok (.return_, 1) := by decide +kernel
theorem dX0_allTrials_0 : decode cX0_allTrials 0 = .ok (.aload_n 0, 1) := by decide +kernel
theorem dX0_allTrials_1 : decode cX0_allTrials 1 = .ok (.getfield 21, 3) := by decide +kernel
theorem dX0_allTrials_4 : decode cX0_allTrials 4 = .ok (.iconst 0, 1) := by decide +kernel
theorem dX0_allTrials_5 : decode cX0_allTrials 5 = .ok (.iaload, 1) := by decide +kernel
theorem dX0_allTrials_6 : decode cX0_allTrials 6 = .ok (.aload_n 0, 1) := by decide +kernel
theorem dX0_allTrials_7 : decode cX0_allTrials 7 = .ok (.getfield 21, 3) := by decide +kernel
theorem dX0_allTrials_10 : decode cX0_allTrials 10 = .ok (.iconst 1, 1) := by decide +kernel
theorem dX0_allTrials_11 : decode cX0_allTrials 11 = .ok (.iaload, 1) := by decide +kernel
theorem dX0_allTrials_12 : decode cX0_allTrials 12 = .ok (.iadd, 1) := by decide +kernel
theorem dX0_allTrials_13 : decode cX0_allTrials 13 = .ok (.aload_n 0, 1) := by decide +kernel
theorem dX0_allTrials_14 : decode cX0_allTrials 14 = .ok (.getfield 21, 3) := by decide +kernel
theorem dX0_allTrials_17 : decode cX0_allTrials 17 = .ok (.iconst 2, 1) := by decide +kernel
theorem dX0_allTrials_18 : decode cX0_allTrials 18 = .ok (.iaload, 1) := by decide +kernel
theorem dX0_allTrials_19 : decode cX0_allTrials 19 = .ok (.iadd, 1) := by decide +kernel
theorem dX0_allTrials_20 : decode cX0_allTrials 20 = .ok (.aload_n 0, 1) := by decide +kernel
theorem dX0_allTrials_21 : decode cX0_allTrials 21 = .ok (.getfield 21, 3) := by decide +kernel
theorem dX0_allTrials_24 : decode cX0_allTrials 24 = .ok (.iconst 3, 1) := by decide +kernel
theorem dX0_allTrials_25 : decode cX0_allTrials 25 = .ok (.iaload, 1) := by decide +kernel
theorem dX0_allTrials_26 : decode cX0_allTrials 26 = .ok (.iadd, 1) := by decide +kernel
theorem dX0_allTrials_27 : decode cX0_allTrials 27 = .ok (.ireturn, 1) := by decide +kernel
theorem dX0_loudOf_0 : decode cX0_loudOf 0 = .ok (.bipush 20, 2) := by decide +kernel
theorem dX0_loudOf_2 : decode cX0_loudOf 2 = .ok (.istore_n 2, 1) := by decide +kernel
theorem dX0_loudOf_3 : decode cX0_loudOf 3 = .ok (.iload_n 2, 1) := by decide +kernel
theorem dX0_loudOf_4 : decode cX0_loudOf 4 = .ok (.bipush 10, 2) := by decide +kernel
theorem dX0_loudOf_6 : decode cX0_loudOf 6 = .ok (.iadd, 1) := by decide +kernel
theorem dX0_loudOf_7 : decode cX0_loudOf 7 = .ok (.istore_n 3, 1) := by decide +kernel
theorem dX0_loudOf_8 : decode cX0_loudOf 8 = .ok (.aload_n 0, 1) := by decide +kernel
theorem dX0_loudOf_9 : decode cX0_loudOf 9 = .ok (.getfield 34, 3) := by decide +kernel
theorem dX0_loudOf_12 : decode cX0_loudOf 12 = .ok (.getfield 59, 3) := by decide +kernel
theorem dX0_loudOf_15 : decode cX0_loudOf 15 = .ok (.iload_n 1, 1) := by decide +kernel
theorem dX0_loudOf_16 : decode cX0_loudOf 16 = .ok (.iaload, 1) := by decide +kernel
theorem dX0_loudOf_17 : decode cX0_loudOf 17 = .ok (.tableswitch 61 1 5 #[35, 61, 37, 41, 57], 35) := by decide +kernel
theorem dX0_loudOf_52 : decode cX0_loudOf 52 = .ok (.iload_n 3, 1) := by decide +kernel
theorem dX0_loudOf_53 : decode cX0_loudOf 53 = .ok (.ireturn, 1) := by decide +kernel
theorem dX0_loudOf_54 : decode cX0_loudOf 54 = .ok (.iload_n 3, 1) := by decide +kernel
theorem dX0_loudOf_55 : decode cX0_loudOf 55 = .ok (.iconst 2, 1) := by decide +kernel
theorem dX0_loudOf_56 : decode cX0_loudOf 56 = .ok (.idiv, 1) := by decide +kernel
theorem dX0_loudOf_57 : decode cX0_loudOf 57 = .ok (.ireturn, 1) := by decide +kernel
theorem dX0_loudOf_58 : decode cX0_loudOf 58 = .ok (.iload_n 3, 1) := by decide +kernel
theorem dX0_loudOf_59 : decode cX0_loudOf 59 = .ok (.aload_n 0, 1) := by decide +kernel
theorem dX0_loudOf_60 : decode cX0_loudOf 60 = .ok (.getfield 15, 3) := by decide +kernel
theorem dX0_loudOf_63 : decode cX0_loudOf 63 = .ok (.iload_n 1, 1) := by decide +kernel
theorem dX0_loudOf_64 : decode cX0_loudOf 64 = .ok (.iaload, 1) := by decide +kernel
theorem dX0_loudOf_65 : decode cX0_loudOf 65 = .ok (.iconst 4, 1) := by decide +kernel
theorem dX0_loudOf_66 : decode cX0_loudOf 66 = .ok (.idiv, 1) := by decide +kernel
theorem dX0_loudOf_67 : decode cX0_loudOf 67 = .ok (.isub, 1) := by decide +kernel
theorem dX0_loudOf_68 : decode cX0_loudOf 68 = .ok (.iconst 1, 1) := by decide +kernel
theorem dX0_loudOf_69 : decode cX0_loudOf 69 = .ok (.iload_n 3, 1) := by decide +kernel
theorem dX0_loudOf_70 : decode cX0_loudOf 70 = .ok (.invokestatic 64, 3) := by decide +kernel
theorem dX0_loudOf_73 : decode cX0_loudOf 73 = .ok (.ireturn, 1) := by decide +kernel
theorem dX0_loudOf_74 : decode cX0_loudOf 74 = .ok (.iload_n 2, 1) := by decide +kernel
theorem dX0_loudOf_75 : decode cX0_loudOf 75 = .ok (.iconst 4, 1) := by decide +kernel
theorem dX0_loudOf_76 : decode cX0_loudOf 76 = .ok (.idiv, 1) := by decide +kernel
theorem dX0_loudOf_77 : decode cX0_loudOf 77 = .ok (.ireturn, 1) := by decide +kernel
theorem dX0_loudOf_78 : decode cX0_loudOf 78 = .ok (.iload_n 2, 1) := by decide +kernel
theorem dX0_loudOf_79 : decode cX0_loudOf 79 = .ok (.ireturn, 1) := by decide +kernel
theorem dX0_fadesOf_0 : decode cX0_fadesOf 0 = .ok (.aload_n 0, 1) := by decide +kernel
theorem dX0_fadesOf_1 : decode cX0_fadesOf 1 = .ok (.iconst 1, 1) := by decide +kernel
theorem dX0_fadesOf_2 : decode cX0_fadesOf 2 = .ok (.iload_n 1, 1) := by decide +kernel
theorem dX0_fadesOf_3 : decode cX0_fadesOf 3 = .ok (.iconst 0, 1) := by decide +kernel
theorem dX0_fadesOf_4 : decode cX0_fadesOf 4 = .ok (.iconst 0, 1) := by decide +kernel
theorem dX0_fadesOf_5 : decode cX0_fadesOf 5 = .ok (.iconst 0, 1) := by decide +kernel
theorem dX0_fadesOf_6 : decode cX0_fadesOf 6 = .ok (.invokevirtual 68, 3) := by decide +kernel
theorem dX0_fadesOf_9 : decode cX0_fadesOf 9 = .ok (.iconst 0, 1) := by decide +kernel
theorem dX0_fadesOf_10 : decode cX0_fadesOf 10 = .ok (.bipush 100, 2) := by decide +kernel
theorem dX0_fadesOf_12 : decode cX0_fadesOf 12 = .ok (.invokestatic 64, 3) := by decide +kernel
theorem dX0_fadesOf_15 : decode cX0_fadesOf 15 = .ok (.istore_n 2, 1) := by decide +kernel
theorem dX0_fadesOf_16 : decode cX0_fadesOf 16 = .ok (.iload_n 2, 1) := by decide +kernel
theorem dX0_fadesOf_17 : decode cX0_fadesOf 17 = .ok (.iconst 2, 1) := by decide +kernel
theorem dX0_fadesOf_18 : decode cX0_fadesOf 18 = .ok (.idiv, 1) := by decide +kernel
theorem dX0_fadesOf_19 : decode cX0_fadesOf 19 = .ok (.istore_n 3, 1) := by decide +kernel
theorem dX0_fadesOf_20 : decode cX0_fadesOf 20 = .ok (.aload_n 0, 1) := by decide +kernel
theorem dX0_fadesOf_21 : decode cX0_fadesOf 21 = .ok (.getfield 34, 3) := by decide +kernel
theorem dX0_fadesOf_24 : decode cX0_fadesOf 24 = .ok (.getfield 59, 3) := by decide +kernel
theorem dX0_fadesOf_27 : decode cX0_fadesOf 27 = .ok (.iload_n 1, 1) := by decide +kernel
theorem dX0_fadesOf_28 : decode cX0_fadesOf 28 = .ok (.iaload, 1) := by decide +kernel
theorem dX0_fadesOf_29 : decode cX0_fadesOf 29 = .ok (.tableswitch 55 1 5 #[35, 37, 47, 51, 53], 35) := by decide +kernel
theorem dX0_fadesOf_64 : decode cX0_fadesOf 64 = .ok (.iload_n 3, 1) := by decide +kernel
theorem dX0_fadesOf_65 : decode cX0_fadesOf 65 = .ok (.ireturn, 1) := by decide +kernel
theorem dX0_fadesOf_66 : decode cX0_fadesOf 66 = .ok (.iload_n 2, 1) := by decide +kernel
theorem dX0_fadesOf_67 : decode cX0_fadesOf 67 = .ok (.iconst 2, 1) := by decide +kernel
theorem dX0_fadesOf_68 : decode cX0_fadesOf 68 = .ok (.iadd, 1) := by decide +kernel
theorem dX0_fadesOf_69 : decode cX0_fadesOf 69 = .ok (.iconst 0, 1) := by decide +kernel
theorem dX0_fadesOf_70 : decode cX0_fadesOf 70 = .ok (.bipush 100, 2) := by decide +kernel
theorem dX0_fadesOf_72 : decode cX0_fadesOf 72 = .ok (.invokestatic 64, 3) := by decide +kernel
theorem dX0_fadesOf_75 : decode cX0_fadesOf 75 = .ok (.ireturn, 1) := by decide +kernel
theorem dX0_fadesOf_76 : decode cX0_fadesOf 76 = .ok (.iload_n 3, 1) := by decide +kernel
theorem dX0_fadesOf_77 : decode cX0_fadesOf 77 = .ok (.iconst 1, 1) := by decide +kernel
theorem dX0_fadesOf_78 : decode cX0_fadesOf 78 = .ok (.iadd, 1) := by decide +kernel
theorem dX0_fadesOf_79 : decode cX0_fadesOf 79 = .ok (.ireturn, 1) := by decide +kernel
theorem dX0_fadesOf_80 : decode cX0_fadesOf 80 = .ok (.iload_n 3, 1) := by decide +kernel
theorem dX0_fadesOf_81 : decode cX0_fadesOf 81 = .ok (.ireturn, 1) := by decide +kernel
theorem dX0_fadesOf_82 : decode cX0_fadesOf 82 = .ok (.iconst 0, 1) := by decide +kernel
theorem dX0_fadesOf_83 : decode cX0_fadesOf 83 = .ok (.ireturn, 1) := by decide +kernel
theorem dX0_fadesOf_84 : decode cX0_fadesOf 84 = .ok (.iload_n 2, 1) := by decide +kernel
theorem dX0_fadesOf_85 : decode cX0_fadesOf 85 = .ok (.ireturn, 1) := by decide +kernel
theorem dX0_sumOf_0 : decode cX0_sumOf 0 = .ok (.iconst 0, 1) := by decide +kernel
theorem dX0_sumOf_1 : decode cX0_sumOf 1 = .ok (.istore_n 2, 1) := by decide +kernel
theorem dX0_sumOf_2 : decode cX0_sumOf 2 = .ok (.iconst 0, 1) := by decide +kernel
theorem dX0_sumOf_3 : decode cX0_sumOf 3 = .ok (.istore_n 3, 1) := by decide +kernel
theorem dX0_sumOf_4 : decode cX0_sumOf 4 = .ok (.iload_n 3, 1) := by decide +kernel
theorem dX0_sumOf_5 : decode cX0_sumOf 5 = .ok (.aload_n 0, 1) := by decide +kernel
theorem dX0_sumOf_6 : decode cX0_sumOf 6 = .ok (.getfield 34, 3) := by decide +kernel
theorem dX0_sumOf_9 : decode cX0_sumOf 9 = .ok (.getfield 72, 3) := by decide +kernel
theorem dX0_sumOf_12 : decode cX0_sumOf 12 = .ok (.if_icmp .ge 33, 3) := by decide +kernel
theorem dX0_sumOf_15 : decode cX0_sumOf 15 = .ok (.iload_n 1, 1) := by decide +kernel
theorem dX0_sumOf_16 : decode cX0_sumOf 16 = .ok (.iload_n 3, 1) := by decide +kernel
theorem dX0_sumOf_17 : decode cX0_sumOf 17 = .ok (.invokestatic 75, 3) := by decide +kernel
theorem dX0_sumOf_20 : decode cX0_sumOf 20 = .ok (.ifCond .eq 19, 3) := by decide +kernel
theorem dX0_sumOf_23 : decode cX0_sumOf 23 = .ok (.iload_n 2, 1) := by decide +kernel
theorem dX0_sumOf_24 : decode cX0_sumOf 24 = .ok (.aload_n 0, 1) := by decide +kernel
theorem dX0_sumOf_25 : decode cX0_sumOf 25 = .ok (.getfield 9, 3) := by decide +kernel
theorem dX0_sumOf_28 : decode cX0_sumOf 28 = .ok (.iload_n 3, 1) := by decide +kernel
theorem dX0_sumOf_29 : decode cX0_sumOf 29 = .ok (.iaload, 1) := by decide +kernel
theorem dX0_sumOf_30 : decode cX0_sumOf 30 = .ok (.aload_n 0, 1) := by decide +kernel
theorem dX0_sumOf_31 : decode cX0_sumOf 31 = .ok (.iload_n 3, 1) := by decide +kernel
theorem dX0_sumOf_32 : decode cX0_sumOf 32 = .ok (.iload_n 1, 1) := by decide +kernel
theorem dX0_sumOf_33 : decode cX0_sumOf 33 = .ok (.invokevirtual 79, 3) := by decide +kernel
theorem dX0_sumOf_36 : decode cX0_sumOf 36 = .ok (.iadd, 1) := by decide +kernel
theorem dX0_sumOf_37 : decode cX0_sumOf 37 = .ok (.iadd, 1) := by decide +kernel
theorem dX0_sumOf_38 : decode cX0_sumOf 38 = .ok (.istore_n 2, 1) := by decide +kernel
theorem dX0_sumOf_39 : decode cX0_sumOf 39 = .ok (.iinc 3 1, 3) := by decide +kernel
theorem dX0_sumOf_42 : decode cX0_sumOf 42 = .ok (.goto (-38), 3) := by decide +kernel
theorem dX0_sumOf_45 : decode cX0_sumOf 45 = .ok (.iload_n 2, 1) := by decide +kernel
theorem dX0_sumOf_46 : decode cX0_sumOf 46 = .ok (.ireturn, 1) := by decide +kernel
theorem dX0_lentTo_0 : decode cX0_lentTo 0 = .ok (.iconst 0, 1) := by decide +kernel
theorem dX0_lentTo_1 : decode cX0_lentTo 1 = .ok (.istore_n 3, 1) := by decide +kernel
theorem dX0_lentTo_2 : decode cX0_lentTo 2 = .ok (.iconst 0, 1) := by decide +kernel
theorem dX0_lentTo_3 : decode cX0_lentTo 3 = .ok (.istore 4, 2) := by decide +kernel
theorem dX0_lentTo_5 : decode cX0_lentTo 5 = .ok (.iload 4, 2) := by decide +kernel
theorem dX0_lentTo_7 : decode cX0_lentTo 7 = .ok (.aload_n 0, 1) := by decide +kernel
theorem dX0_lentTo_8 : decode cX0_lentTo 8 = .ok (.getfield 34, 3) := by decide +kernel
theorem dX0_lentTo_11 : decode cX0_lentTo 11 = .ok (.getfield 72, 3) := by decide +kernel
theorem dX0_lentTo_14 : decode cX0_lentTo 14 = .ok (.if_icmp .ge 47, 3) := by decide +kernel
theorem dX0_lentTo_17 : decode cX0_lentTo 17 = .ok (.iload_n 2, 1) := by decide +kernel
theorem dX0_lentTo_18 : decode cX0_lentTo 18 = .ok (.iload 4, 2) := by decide +kernel
theorem dX0_lentTo_20 : decode cX0_lentTo 20 = .ok (.invokestatic 75, 3) := by decide +kernel
theorem dX0_lentTo_23 : decode cX0_lentTo 23 = .ok (.ifCond .ne 32, 3) := by decide +kernel
theorem dX0_lentTo_26 : decode cX0_lentTo 26 = .ok (.iload_n 3, 1) := by decide +kernel
theorem dX0_lentTo_27 : decode cX0_lentTo 27 = .ok (.aload_n 0, 1) := by decide +kernel
theorem dX0_lentTo_28 : decode cX0_lentTo 28 = .ok (.getfield 9, 3) := by decide +kernel
theorem dX0_lentTo_31 : decode cX0_lentTo 31 = .ok (.iload 4, 2) := by decide +kernel
theorem dX0_lentTo_33 : decode cX0_lentTo 33 = .ok (.iaload, 1) := by decide +kernel
theorem dX0_lentTo_34 : decode cX0_lentTo 34 = .ok (.aload_n 0, 1) := by decide +kernel
theorem dX0_lentTo_35 : decode cX0_lentTo 35 = .ok (.getfield 34, 3) := by decide +kernel
theorem dX0_lentTo_38 : decode cX0_lentTo 38 = .ok (.getfield 83, 3) := by decide +kernel
theorem dX0_lentTo_41 : decode cX0_lentTo 41 = .ok (.iload_n 1, 1) := by decide +kernel
theorem dX0_lentTo_42 : decode cX0_lentTo 42 = .ok (.bipush 8, 2) := by decide +kernel
theorem dX0_lentTo_44 : decode cX0_lentTo 44 = .ok (.imul, 1) := by decide +kernel
theorem dX0_lentTo_45 : decode cX0_lentTo 45 = .ok (.iload 4, 2) := by decide +kernel
theorem dX0_lentTo_47 : decode cX0_lentTo 47 = .ok (.iadd, 1) := by decide +kernel
theorem dX0_lentTo_48 : decode cX0_lentTo 48 = .ok (.iaload, 1) := by decide +kernel
theorem dX0_lentTo_49 : decode cX0_lentTo 49 = .ok (.imul, 1) := by decide +kernel
theorem dX0_lentTo_50 : decode cX0_lentTo 50 = .ok (.bipush 100, 2) := by decide +kernel
theorem dX0_lentTo_52 : decode cX0_lentTo 52 = .ok (.idiv, 1) := by decide +kernel
theorem dX0_lentTo_53 : decode cX0_lentTo 53 = .ok (.iadd, 1) := by decide +kernel
theorem dX0_lentTo_54 : decode cX0_lentTo 54 = .ok (.istore_n 3, 1) := by decide +kernel
theorem dX0_lentTo_55 : decode cX0_lentTo 55 = .ok (.iinc 4 1, 3) := by decide +kernel
theorem dX0_lentTo_58 : decode cX0_lentTo 58 = .ok (.goto (-53), 3) := by decide +kernel
theorem dX0_lentTo_61 : decode cX0_lentTo 61 = .ok (.iload_n 3, 1) := by decide +kernel
theorem dX0_lentTo_62 : decode cX0_lentTo 62 = .ok (.ireturn, 1) := by decide +kernel
theorem dX0_dropsOf_0 : decode cX0_dropsOf 0 = .ok (.iload_n 1, 1) := by decide +kernel
theorem dX0_dropsOf_1 : decode cX0_dropsOf 1 = .ok (.ifCond .ne 5, 3) := by decide +kernel
theorem dX0_dropsOf_4 : decode cX0_dropsOf 4 = .ok (.iconst 0, 1) := by decide +kernel
theorem dX0_dropsOf_5 : decode cX0_dropsOf 5 = .ok (.ireturn, 1) := by decide +kernel
theorem dX0_dropsOf_6 : decode cX0_dropsOf 6 = .ok (.aload_n 0, 1) := by decide +kernel
theorem dX0_dropsOf_7 : decode cX0_dropsOf 7 = .ok (.iconst 2, 1) := by decide +kernel
theorem dX0_dropsOf_8 : decode cX0_dropsOf 8 = .ok (.iload_n 1, 1) := by decide +kernel
theorem dX0_dropsOf_9 : decode cX0_dropsOf 9 = .ok (.invokestatic 86, 3) := by decide +kernel
theorem dX0_dropsOf_12 : decode cX0_dropsOf 12 = .ok (.aload_n 0, 1) := by decide +kernel
theorem dX0_dropsOf_13 : decode cX0_dropsOf 13 = .ok (.iload_n 1, 1) := by decide +kernel
theorem dX0_dropsOf_14 : decode cX0_dropsOf 14 = .ok (.invokevirtual 90, 3) := by decide +kernel
theorem dX0_dropsOf_17 : decode cX0_dropsOf 17 = .ok (.iconst 0, 1) := by decide +kernel
theorem dX0_dropsOf_18 : decode cX0_dropsOf 18 = .ok (.iconst 0, 1) := by decide +kernel
theorem dX0_dropsOf_19 : decode cX0_dropsOf 19 = .ok (.invokevirtual 68, 3) := by decide +kernel
theorem dX0_dropsOf_22 : decode cX0_dropsOf 22 = .ok (.istore_n 2, 1) := by decide +kernel
theorem dX0_dropsOf_23 : decode cX0_dropsOf 23 = .ok (.iload_n 2, 1) := by decide +kernel
theorem dX0_dropsOf_24 : decode cX0_dropsOf 24 = .ok (.bipush 10, 2) := by decide +kernel
theorem dX0_dropsOf_26 : decode cX0_dropsOf 26 = .ok (.idiv, 1) := by decide +kernel
theorem dX0_dropsOf_27 : decode cX0_dropsOf 27 = .ok (.iconst 0, 1) := by decide +kernel
theorem dX0_dropsOf_28 : decode cX0_dropsOf 28 = .ok (.bipush 99, 2) := by decide +kernel
theorem dX0_dropsOf_30 : decode cX0_dropsOf 30 = .ok (.invokestatic 64, 3) := by decide +kernel
theorem dX0_dropsOf_33 : decode cX0_dropsOf 33 = .ok (.ireturn, 1) := by decide +kernel
theorem dX0_goThroughTrial_0 : decode cX0_goThroughTrial 0 = .ok (.aload_n 0, 1) := by decide +kernel
theorem dX0_goThroughTrial_1 : decode cX0_goThroughTrial 1 = .ok (.iload_n 1, 1) := by decide +kernel
theorem dX0_goThroughTrial_2 : decode cX0_goThroughTrial 2 = .ok (.invokevirtual 90, 3) := by decide +kernel
theorem dX0_goThroughTrial_5 : decode cX0_goThroughTrial 5 = .ok (.istore_n 3, 1) := by decide +kernel
theorem dX0_goThroughTrial_6 : decode cX0_goThroughTrial 6 = .ok (.aload_n 0, 1) := by decide +kernel
theorem dX0_goThroughTrial_7 : decode cX0_goThroughTrial 7 = .ok (.getfield 34, 3) := by decide +kernel
theorem dX0_goThroughTrial_10 : decode cX0_goThroughTrial 10 = .ok (.getfield 93, 3) := by decide +kernel
theorem dX0_goThroughTrial_13 : decode cX0_goThroughTrial 13 = .ok (.iload_n 2, 1) := by decide +kernel
theorem dX0_goThroughTrial_14 : decode cX0_goThroughTrial 14 = .ok (.iaload, 1) := by decide +kernel
theorem dX0_goThroughTrial_15 : decode cX0_goThroughTrial 15 = .ok (.iload_n 3, 1) := by decide +kernel
theorem dX0_goThroughTrial_16 : decode cX0_goThroughTrial 16 = .ok (.isub, 1) := by decide +kernel
theorem dX0_goThroughTrial_17 : decode cX0_goThroughTrial 17 = .ok (.istore 4, 2) := by decide +kernel
theorem dX0_goThroughTrial_19 : decode cX0_goThroughTrial 19 = .ok (.iconst 0, 1) := by decide +kernel
theorem dX0_goThroughTrial_20 : decode cX0_goThroughTrial 20 = .ok (.istore 5, 2) := by decide +kernel
theorem dX0_goThroughTrial_22 : decode cX0_goThroughTrial 22 = .ok (.iload 5, 2) := by decide +kernel
theorem dX0_goThroughTrial_24 : decode cX0_goThroughTrial 24 = .ok (.aload_n 0, 1) := by decide +kernel
theorem dX0_goThroughTrial_25 : decode cX0_goThroughTrial 25 = .ok (.getfield 34, 3) := by decide +kernel
theorem dX0_goThroughTrial_28 : decode cX0_goThroughTrial 28 = .ok (.getfield 72, 3) := by decide +kernel
theorem dX0_goThroughTrial_31 : decode cX0_goThroughTrial 31 = .ok (.if_icmp .ge 66, 3) := by decide +kernel
theorem dX0_goThroughTrial_34 : decode cX0_goThroughTrial 34 = .ok (.iload_n 1, 1) := by decide +kernel
theorem dX0_goThroughTrial_35 : decode cX0_goThroughTrial 35 = .ok (.iload 5, 2) := by decide +kernel
theorem dX0_goThroughTrial_37 : decode cX0_goThroughTrial 37 = .ok (.invokestatic 75, 3) := by decide +kernel
theorem dX0_goThroughTrial_40 : decode cX0_goThroughTrial 40 = .ok (.ifCond .eq 51, 3) := by decide +kernel
theorem dX0_goThroughTrial_43 : decode cX0_goThroughTrial 43 = .ok (.aload_n 0, 1) := by decide +kernel
theorem dX0_goThroughTrial_44 : decode cX0_goThroughTrial 44 = .ok (.iconst 0, 1) := by decide +kernel
theorem dX0_goThroughTrial_45 : decode cX0_goThroughTrial 45 = .ok (.iload 5, 2) := by decide +kernel
theorem dX0_goThroughTrial_47 : decode cX0_goThroughTrial 47 = .ok (.iload_n 3, 1) := by decide +kernel
theorem dX0_goThroughTrial_48 : decode cX0_goThroughTrial 48 = .ok (.aload_n 0, 1) := by decide +kernel
theorem dX0_goThroughTrial_49 : decode cX0_goThroughTrial 49 = .ok (.getfield 34, 3) := by decide +kernel
theorem dX0_goThroughTrial_52 : decode cX0_goThroughTrial 52 = .ok (.getfield 93, 3) := by decide +kernel
theorem dX0_goThroughTrial_55 : decode cX0_goThroughTrial 55 = .ok (.iload_n 2, 1) := by decide +kernel
theorem dX0_goThroughTrial_56 : decode cX0_goThroughTrial 56 = .ok (.iaload, 1) := by decide +kernel
theorem dX0_goThroughTrial_57 : decode cX0_goThroughTrial 57 = .ok (.aload_n 0, 1) := by decide +kernel
theorem dX0_goThroughTrial_58 : decode cX0_goThroughTrial 58 = .ok (.getfield 47, 3) := by decide +kernel
theorem dX0_goThroughTrial_61 : decode cX0_goThroughTrial 61 = .ok (.invokevirtual 68, 3) := by decide +kernel
theorem dX0_goThroughTrial_64 : decode cX0_goThroughTrial 64 = .ok (.istore 6, 2) := by decide +kernel
theorem dX0_goThroughTrial_66 : decode cX0_goThroughTrial 66 = .ok (.aload_n 0, 1) := by decide +kernel
theorem dX0_goThroughTrial_67 : decode cX0_goThroughTrial 67 = .ok (.getfield 24, 3) := by decide +kernel
theorem dX0_goThroughTrial_70 : decode cX0_goThroughTrial 70 = .ok (.iload 5, 2) := by decide +kernel
theorem dX0_goThroughTrial_72 : decode cX0_goThroughTrial 72 = .ok (.aload_n 0, 1) := by decide +kernel
theorem dX0_goThroughTrial_73 : decode cX0_goThroughTrial 73 = .ok (.iload 5, 2) := by decide +kernel
theorem dX0_goThroughTrial_75 : decode cX0_goThroughTrial 75 = .ok (.iload_n 2, 1) := by decide +kernel
theorem dX0_goThroughTrial_76 : decode cX0_goThroughTrial 76 = .ok (.iload 4, 2) := by decide +kernel
theorem dX0_goThroughTrial_78 : decode cX0_goThroughTrial 78 = .ok (.iload 6, 2) := by decide +kernel
theorem dX0_goThroughTrial_80 : decode cX0_goThroughTrial 80 = .ok (.iconst 0, 1) := by decide +kernel
theorem dX0_goThroughTrial_81 : decode cX0_goThroughTrial 81 = .ok (.sipush 400, 3) := by decide +kernel
theorem dX0_goThroughTrial_84 : decode cX0_goThroughTrial 84 = .ok (.invokestatic 64, 3) := by decide +kernel
theorem dX0_goThroughTrial_87 : decode cX0_goThroughTrial 87 = .ok (.invokevirtual 96, 3) := by decide +kernel
theorem dX0_goThroughTrial_90 : decode cX0_goThroughTrial 90 = .ok (.iastore, 1) := by decide +kernel
theorem dX0_goThroughTrial_91 : decode cX0_goThroughTrial 91 = .ok (.iinc 5 1, 3) := by decide +kernel
theorem dX0_goThroughTrial_94 : decode cX0_goThroughTrial 94 = .ok (.goto (-72), 3) := by decide +kernel
theorem dX0_goThroughTrial_97 : decode cX0_goThroughTrial 97 = .ok (.iconst 0, 1) := by decide +kernel
theorem dX0_goThroughTrial_98 : decode cX0_goThroughTrial 98 = .ok (.istore 5, 2) := by decide +kernel
theorem dX0_goThroughTrial_100 : decode cX0_goThroughTrial 100 = .ok (.iload 5, 2) := by decide +kernel
theorem dX0_goThroughTrial_102 : decode cX0_goThroughTrial 102 = .ok (.aload_n 0, 1) := by decide +kernel
theorem dX0_goThroughTrial_103 : decode cX0_goThroughTrial 103 = .ok (.getfield 34, 3) := by decide +kernel
theorem dX0_goThroughTrial_106 : decode cX0_goThroughTrial 106 = .ok (.getfield 72, 3) := by decide +kernel
theorem dX0_goThroughTrial_109 : decode cX0_goThroughTrial 109 = .ok (.if_icmp .ge 75, 3) := by decide +kernel
theorem dX0_goThroughTrial_112 : decode cX0_goThroughTrial 112 = .ok (.iload_n 1, 1) := by decide +kernel
theorem dX0_goThroughTrial_113 : decode cX0_goThroughTrial 113 = .ok (.iload 5, 2) := by decide +kernel
theorem dX0_goThroughTrial_115 : decode cX0_goThroughTrial 115 = .ok (.invokestatic 75, 3) := by decide +kernel
theorem dX0_goThroughTrial_118 : decode cX0_goThroughTrial 118 = .ok (.ifCond .eq 60, 3) := by decide +kernel
theorem dX0_goThroughTrial_121 : decode cX0_goThroughTrial 121 = .ok (.aload_n 0, 1) := by decide +kernel
theorem dX0_goThroughTrial_122 : decode cX0_goThroughTrial 122 = .ok (.getfield 9, 3) := by decide +kernel
theorem dX0_goThroughTrial_125 : decode cX0_goThroughTrial 125 = .ok (.iload 5, 2) := by decide +kernel
theorem dX0_goThroughTrial_127 : decode cX0_goThroughTrial 127 = .ok (.aload_n 0, 1) := by decide +kernel
theorem dX0_goThroughTrial_128 : decode cX0_goThroughTrial 128 = .ok (.getfield 9, 3) := by decide +kernel
theorem dX0_goThroughTrial_131 : decode cX0_goThroughTrial 131 = .ok (.iload 5, 2) := by decide +kernel
theorem dX0_goThroughTrial_133 : decode cX0_goThroughTrial 133 = .ok (.iaload, 1) := by decide +kernel
theorem dX0_goThroughTrial_134 : decode cX0_goThroughTrial 134 = .ok (.aload_n 0, 1) := by decide +kernel
theorem dX0_goThroughTrial_135 : decode cX0_goThroughTrial 135 = .ok (.getfield 24, 3) := by decide +kernel
theorem dX0_goThroughTrial_138 : decode cX0_goThroughTrial 138 = .ok (.iload 5, 2) := by decide +kernel
theorem dX0_goThroughTrial_140 : decode cX0_goThroughTrial 140 = .ok (.iaload, 1) := by decide +kernel
theorem dX0_goThroughTrial_141 : decode cX0_goThroughTrial 141 = .ok (.iadd, 1) := by decide +kernel
theorem dX0_goThroughTrial_142 : decode cX0_goThroughTrial 142 = .ok (.sipush (-9999), 3) := by decide +kernel
theorem dX0_goThroughTrial_145 : decode cX0_goThroughTrial 145 = .ok (.sipush 9999, 3) := by decide +kernel
theorem dX0_goThroughTrial_148 : decode cX0_goThroughTrial 148 = .ok (.invokestatic 64, 3) := by decide +kernel
theorem dX0_goThroughTrial_151 : decode cX0_goThroughTrial 151 = .ok (.iastore, 1) := by decide +kernel
theorem dX0_goThroughTrial_152 : decode cX0_goThroughTrial 152 = .ok (.aload_n 0, 1) := by decide +kernel
theorem dX0_goThroughTrial_153 : decode cX0_goThroughTrial 153 = .ok (.getfield 15, 3) := by decide +kernel
theorem dX0_goThroughTrial_156 : decode cX0_goThroughTrial 156 = .ok (.iload 5, 2) := by decide +kernel
theorem dX0_goThroughTrial_158 : decode cX0_goThroughTrial 158 = .ok (.dup2, 1) := by decide +kernel
theorem dX0_goThroughTrial_159 : decode cX0_goThroughTrial 159 = .ok (.iaload, 1) := by decide +kernel
theorem dX0_goThroughTrial_160 : decode cX0_goThroughTrial 160 = .ok (.iconst 1, 1) := by decide +kernel
theorem dX0_goThroughTrial_161 : decode cX0_goThroughTrial 161 = .ok (.iadd, 1) := by decide +kernel
theorem dX0_goThroughTrial_162 : decode cX0_goThroughTrial 162 = .ok (.iastore, 1) := by decide +kernel
theorem dX0_goThroughTrial_163 : decode cX0_goThroughTrial 163 = .ok (.aload_n 0, 1) := by decide +kernel
theorem dX0_goThroughTrial_164 : decode cX0_goThroughTrial 164 = .ok (.getfield 18, 3) := by decide +kernel
theorem dX0_goThroughTrial_167 : decode cX0_goThroughTrial 167 = .ok (.iload 5, 2) := by decide +kernel
theorem dX0_goThroughTrial_169 : decode cX0_goThroughTrial 169 = .ok (.iconst 4, 1) := by decide +kernel
theorem dX0_goThroughTrial_170 : decode cX0_goThroughTrial 170 = .ok (.imul, 1) := by decide +kernel
theorem dX0_goThroughTrial_171 : decode cX0_goThroughTrial 171 = .ok (.iload_n 2, 1) := by decide +kernel
theorem dX0_goThroughTrial_172 : decode cX0_goThroughTrial 172 = .ok (.iadd, 1) := by decide +kernel
theorem dX0_goThroughTrial_173 : decode cX0_goThroughTrial 173 = .ok (.dup2, 1) := by decide +kernel
theorem dX0_goThroughTrial_174 : decode cX0_goThroughTrial 174 = .ok (.iaload, 1) := by decide +kernel
theorem dX0_goThroughTrial_175 : decode cX0_goThroughTrial 175 = .ok (.iconst 1, 1) := by decide +kernel
theorem dX0_goThroughTrial_176 : decode cX0_goThroughTrial 176 = .ok (.iadd, 1) := by decide +kernel
theorem dX0_goThroughTrial_177 : decode cX0_goThroughTrial 177 = .ok (.iastore, 1) := by decide +kernel
theorem dX0_goThroughTrial_178 : decode cX0_goThroughTrial 178 = .ok (.iinc 5 1, 3) := by decide +kernel
theorem dX0_goThroughTrial_181 : decode cX0_goThroughTrial 181 = .ok (.goto (-81), 3) := by decide +kernel
theorem dX0_goThroughTrial_184 : decode cX0_goThroughTrial 184 = .ok (.aload_n 0, 1) := by decide +kernel
theorem dX0_goThroughTrial_185 : decode cX0_goThroughTrial 185 = .ok (.getfield 21, 3) := by decide +kernel
theorem dX0_goThroughTrial_188 : decode cX0_goThroughTrial 188 = .ok (.iload_n 2, 1) := by decide +kernel
theorem dX0_goThroughTrial_189 : decode cX0_goThroughTrial 189 = .ok (.dup2, 1) := by decide +kernel
theorem dX0_goThroughTrial_190 : decode cX0_goThroughTrial 190 = .ok (.iaload, 1) := by decide +kernel
theorem dX0_goThroughTrial_191 : decode cX0_goThroughTrial 191 = .ok (.iconst 1, 1) := by decide +kernel
theorem dX0_goThroughTrial_192 : decode cX0_goThroughTrial 192 = .ok (.iadd, 1) := by decide +kernel
theorem dX0_goThroughTrial_193 : decode cX0_goThroughTrial 193 = .ok (.iastore, 1) := by decide +kernel
theorem dX0_goThroughTrial_194 : decode cX0_goThroughTrial 194 = .ok (.aload_n 0, 1) := by decide +kernel
theorem dX0_goThroughTrial_195 : decode cX0_goThroughTrial 195 = .ok (.dup, 1) := by decide +kernel
theorem dX0_goThroughTrial_196 : decode cX0_goThroughTrial 196 = .ok (.getfield 47, 3) := by decide +kernel
theorem dX0_goThroughTrial_199 : decode cX0_goThroughTrial 199 = .ok (.iconst 1, 1) := by decide +kernel
theorem dX0_goThroughTrial_200 : decode cX0_goThroughTrial 200 = .ok (.iadd, 1) := by decide +kernel
theorem dX0_goThroughTrial_201 : decode cX0_goThroughTrial 201 = .ok (.putfield 47, 3) := by decide +kernel
theorem dX0_goThroughTrial_204 : decode cX0_goThroughTrial 204 = .ok (.iload 4, 2) := by decide +kernel
theorem dX0_goThroughTrial_206 : decode cX0_goThroughTrial 206 = .ok (.ireturn, 1) := by decide +kernel
theorem dX0_gainOf_0 : decode cX0_gainOf 0 = .ok (.iload_n 3, 1) := by decide +kernel
theorem dX0_gainOf_1 : decode cX0_gainOf 1 = .ok (.aload_n 0, 1) := by decide +kernel
theorem dX0_gainOf_2 : decode cX0_gainOf 2 = .ok (.iload_n 1, 1) := by decide +kernel
theorem dX0_gainOf_3 : decode cX0_gainOf 3 = .ok (.invokevirtual 100, 3) := by decide +kernel
theorem dX0_gainOf_6 : decode cX0_gainOf 6 = .ok (.imul, 1) := by decide +kernel
theorem dX0_gainOf_7 : decode cX0_gainOf 7 = .ok (.bipush 100, 2) := by decide +kernel
theorem dX0_gainOf_9 : decode cX0_gainOf 9 = .ok (.idiv, 1) := by decide +kernel
theorem dX0_gainOf_10 : decode cX0_gainOf 10 = .ok (.istore 5, 2) := by decide +kernel
theorem dX0_gainOf_12 : decode cX0_gainOf 12 = .ok (.iload 5, 2) := by decide +kernel
theorem dX0_gainOf_14 : decode cX0_gainOf 14 = .ok (.aload_n 0, 1) := by decide +kernel
theorem dX0_gainOf_15 : decode cX0_gainOf 15 = .ok (.getfield 30, 3) := by decide +kernel
theorem dX0_gainOf_18 : decode cX0_gainOf 18 = .ok (.imul, 1) := by decide +kernel
theorem dX0_gainOf_19 : decode cX0_gainOf 19 = .ok (.bipush 100, 2) := by decide +kernel
theorem dX0_gainOf_21 : decode cX0_gainOf 21 = .ok (.idiv, 1) := by decide +kernel
theorem dX0_gainOf_22 : decode cX0_gainOf 22 = .ok (.istore 5, 2) := by decide +kernel
theorem dX0_gainOf_24 : decode cX0_gainOf 24 = .ok (.iload 5, 2) := by decide +kernel
theorem dX0_gainOf_26 : decode cX0_gainOf 26 = .ok (.aload_n 0, 1) := by decide +kernel
theorem dX0_gainOf_27 : decode cX0_gainOf 27 = .ok (.getfield 34, 3) := by decide +kernel
theorem dX0_gainOf_30 : decode cX0_gainOf 30 = .ok (.getfield 103, 3) := by decide +kernel
theorem dX0_gainOf_33 : decode cX0_gainOf 33 = .ok (.aload_n 0, 1) := by decide +kernel
theorem dX0_gainOf_34 : decode cX0_gainOf 34 = .ok (.getfield 34, 3) := by decide +kernel
theorem dX0_gainOf_37 : decode cX0_gainOf 37 = .ok (.getfield 59, 3) := by decide +kernel
theorem dX0_gainOf_40 : decode cX0_gainOf 40 = .ok (.iload_n 1, 1) := by decide +kernel
theorem dX0_gainOf_41 : decode cX0_gainOf 41 = .ok (.iaload, 1) := by decide +kernel
theorem dX0_gainOf_42 : decode cX0_gainOf 42 = .ok (.iconst 4, 1) := by decide +kernel
theorem dX0_gainOf_43 : decode cX0_gainOf 43 = .ok (.imul, 1) := by decide +kernel
theorem dX0_gainOf_44 : decode cX0_gainOf 44 = .ok (.iload_n 2, 1) := by decide +kernel
theorem dX0_gainOf_45 : decode cX0_gainOf 45 = .ok (.iadd, 1) := by decide +kernel
theorem dX0_gainOf_46 : decode cX0_gainOf 46 = .ok (.iaload, 1) := by decide +kernel
theorem dX0_gainOf_47 : decode cX0_gainOf 47 = .ok (.imul, 1) := by decide +kernel
theorem dX0_gainOf_48 : decode cX0_gainOf 48 = .ok (.bipush 100, 2) := by decide +kernel
theorem dX0_gainOf_50 : decode cX0_gainOf 50 = .ok (.idiv, 1) := by decide +kernel
theorem dX0_gainOf_51 : decode cX0_gainOf 51 = .ok (.istore 5, 2) := by decide +kernel
theorem dX0_gainOf_53 : decode cX0_gainOf 53 = .ok (.iload 5, 2) := by decide +kernel
theorem dX0_gainOf_55 : decode cX0_gainOf 55 = .ok (.iload 4, 2) := by decide +kernel
theorem dX0_gainOf_57 : decode cX0_gainOf 57 = .ok (.imul, 1) := by decide +kernel
theorem dX0_gainOf_58 : decode cX0_gainOf 58 = .ok (.bipush 100, 2) := by decide +kernel
theorem dX0_gainOf_60 : decode cX0_gainOf 60 = .ok (.idiv, 1) := by decide +kernel
theorem dX0_gainOf_61 : decode cX0_gainOf 61 = .ok (.ireturn, 1) := by decide +kernel
theorem dX0_gainers_0 : decode cX0_gainers 0 = .ok (.iconst 0, 1) := by decide +kernel
theorem dX0_gainers_1 : decode cX0_gainers 1 = .ok (.istore_n 2, 1) := by decide +kernel
theorem dX0_gainers_2 : decode cX0_gainers 2 = .ok (.iconst 0, 1) := by decide +kernel
theorem dX0_gainers_3 : decode cX0_gainers 3 = .ok (.istore_n 3, 1) := by decide +kernel
theorem dX0_gainers_4 : decode cX0_gainers 4 = .ok (.iload_n 3, 1) := by decide +kernel
theorem dX0_gainers_5 : decode cX0_gainers 5 = .ok (.aload_n 0, 1) := by decide +kernel
theorem dX0_gainers_6 : decode cX0_gainers 6 = .ok (.getfield 34, 3) := by decide +kernel
theorem dX0_gainers_9 : decode cX0_gainers 9 = .ok (.getfield 72, 3) := by decide +kernel
theorem dX0_gainers_12 : decode cX0_gainers 12 = .ok (.if_icmp .ge 32, 3) := by decide +kernel
theorem dX0_gainers_15 : decode cX0_gainers 15 = .ok (.iload_n 1, 1) := by decide +kernel
theorem dX0_gainers_16 : decode cX0_gainers 16 = .ok (.iload_n 3, 1) := by decide +kernel
theorem dX0_gainers_17 : decode cX0_gainers 17 = .ok (.invokestatic 75, 3) := by decide +kernel
theorem dX0_gainers_20 : decode cX0_gainers 20 = .ok (.ifCond .eq 18, 3) := by decide +kernel
theorem dX0_gainers_23 : decode cX0_gainers 23 = .ok (.aload_n 0, 1) := by decide +kernel
theorem dX0_gainers_24 : decode cX0_gainers 24 = .ok (.getfield 24, 3) := by decide +kernel
theorem dX0_gainers_27 : decode cX0_gainers 27 = .ok (.iload_n 3, 1) := by decide +kernel
theorem dX0_gainers_28 : decode cX0_gainers 28 = .ok (.iaload, 1) := by decide +kernel
theorem dX0_gainers_29 : decode cX0_gainers 29 = .ok (.ifCond .eq 9, 3) := by decide +kernel
theorem dX0_gainers_32 : decode cX0_gainers 32 = .ok (.iload_n 2, 1) := by decide +kernel
theorem dX0_gainers_33 : decode cX0_gainers 33 = .ok (.iconst 1, 1) := by decide +kernel
theorem dX0_gainers_34 : decode cX0_gainers 34 = .ok (.iload_n 3, 1) := by decide +kernel
theorem dX0_gainers_35 : decode cX0_gainers 35 = .ok (.ishl, 1) := by decide +kernel
theorem dX0_gainers_36 : decode cX0_gainers 36 = .ok (.ior, 1) := by decide +kernel
theorem dX0_gainers_37 : decode cX0_gainers 37 = .ok (.istore_n 2, 1) := by decide +kernel
theorem dX0_gainers_38 : decode cX0_gainers 38 = .ok (.iinc 3 1, 3) := by decide +kernel
theorem dX0_gainers_41 : decode cX0_gainers 41 = .ok (.goto (-37), 3) := by decide +kernel
theorem dX0_gainers_44 : decode cX0_gainers 44 = .ok (.iload_n 2, 1) := by decide +kernel
theorem dX0_gainers_45 : decode cX0_gainers 45 = .ok (.ireturn, 1) := by decide +kernel
theorem dX0_goThroughDay_0 : decode cX0_goThroughDay 0 = .ok (.aload_n 1, 1) := by decide +kernel
theorem dX0_goThroughDay_1 : decode cX0_goThroughDay 1 = .ok (.ifnonnull 4, 3) := by decide +kernel
theorem dX0_goThroughDay_4 : decode cX0_goThroughDay 4 = .ok (.return_, 1) := by decide +kernel
theorem dX0_goThroughDay_5 : decode cX0_goThroughDay 5 = .ok (.iconst 0, 1) := by decide +kernel
theorem dX0_goThroughDay_6 : decode cX0_goThroughDay 6 = .ok (.istore_n 2, 1) := by decide +kernel
theorem dX0_goThroughDay_7 : decode cX0_goThroughDay 7 = .ok (.iload_n 2, 1) := by decide +kernel
theorem dX0_goThroughDay_8 : decode cX0_goThroughDay 8 = .ok (.aload_n 1, 1) := by decide +kernel
theorem dX0_goThroughDay_9 : decode cX0_goThroughDay 9 = .ok (.getfield 106, 3) := by decide +kernel
theorem dX0_goThroughDay_12 : decode cX0_goThroughDay 12 = .ok (.if_icmp .ge 26, 3) := by decide +kernel
theorem dX0_goThroughDay_15 : decode cX0_goThroughDay 15 = .ok (.aload_n 0, 1) := by decide +kernel
theorem dX0_goThroughDay_16 : decode cX0_goThroughDay 16 = .ok (.aload_n 1, 1) := by decide +kernel
theorem dX0_goThroughDay_17 : decode cX0_goThroughDay 17 = .ok (.getfield 111, 3) := by decide +kernel
theorem dX0_goThroughDay_20 : decode cX0_goThroughDay 20 = .ok (.iload_n 2, 1) := by decide +kernel
theorem dX0_goThroughDay_21 : decode cX0_goThroughDay 21 = .ok (.iaload, 1) := by decide +kernel
theorem dX0_goThroughDay_22 : decode cX0_goThroughDay 22 = .ok (.aload_n 1, 1) := by decide +kernel
theorem dX0_goThroughDay_23 : decode cX0_goThroughDay 23 = .ok (.getfield 114, 3) := by decide +kernel
theorem dX0_goThroughDay_26 : decode cX0_goThroughDay 26 = .ok (.iload_n 2, 1) := by decide +kernel
theorem dX0_goThroughDay_27 : decode cX0_goThroughDay 27 = .ok (.iaload, 1) := by decide +kernel
theorem dX0_goThroughDay_28 : decode cX0_goThroughDay 28 = .ok (.invokevirtual 117, 3) := by decide +kernel
theorem dX0_goThroughDay_31 : decode cX0_goThroughDay 31 = .ok (.pop, 1) := by decide +kernel
theorem dX0_goThroughDay_32 : decode cX0_goThroughDay 32 = .ok (.iinc 2 1, 3) := by decide +kernel
theorem dX0_goThroughDay_35 : decode cX0_goThroughDay 35 = .ok (.goto (-28), 3) := by decide +kernel
theorem dX0_goThroughDay_38 : decode cX0_goThroughDay 38 = .ok (.iconst 0, 1) := by decide +kernel
theorem dX0_goThroughDay_39 : decode cX0_goThroughDay 39 = .ok (.istore_n 2, 1) := by decide +kernel
theorem dX0_goThroughDay_40 : decode cX0_goThroughDay 40 = .ok (.iload_n 2, 1) := by decide +kernel
theorem dX0_goThroughDay_41 : decode cX0_goThroughDay 41 = .ok (.aload_n 0, 1) := by decide +kernel
theorem dX0_goThroughDay_42 : decode cX0_goThroughDay 42 = .ok (.getfield 34, 3) := by decide +kernel
theorem dX0_goThroughDay_45 : decode cX0_goThroughDay 45 = .ok (.getfield 72, 3) := by decide +kernel
theorem dX0_goThroughDay_48 : decode cX0_goThroughDay 48 = .ok (.if_icmp .ge 33, 3) := by decide +kernel
theorem dX0_goThroughDay_51 : decode cX0_goThroughDay 51 = .ok (.aload_n 0, 1) := by decide +kernel
theorem dX0_goThroughDay_52 : decode cX0_goThroughDay 52 = .ok (.getfield 9, 3) := by decide +kernel
theorem dX0_goThroughDay_55 : decode cX0_goThroughDay 55 = .ok (.iload_n 2, 1) := by decide +kernel
theorem dX0_goThroughDay_56 : decode cX0_goThroughDay 56 = .ok (.aload_n 0, 1) := by decide +kernel
theorem dX0_goThroughDay_57 : decode cX0_goThroughDay 57 = .ok (.getfield 9, 3) := by decide +kernel
theorem dX0_goThroughDay_60 : decode cX0_goThroughDay 60 = .ok (.iload_n 2, 1) := by decide +kernel
theorem dX0_goThroughDay_61 : decode cX0_goThroughDay 61 = .ok (.iaload, 1) := by decide +kernel
theorem dX0_goThroughDay_62 : decode cX0_goThroughDay 62 = .ok (.bipush 100, 2) := by decide +kernel
theorem dX0_goThroughDay_64 : decode cX0_goThroughDay 64 = .ok (.aload_n 0, 1) := by decide +kernel
theorem dX0_goThroughDay_65 : decode cX0_goThroughDay 65 = .ok (.iload_n 2, 1) := by decide +kernel
theorem dX0_goThroughDay_66 : decode cX0_goThroughDay 66 = .ok (.invokevirtual 120, 3) := by decide +kernel
theorem dX0_goThroughDay_69 : decode cX0_goThroughDay 69 = .ok (.isub, 1) := by decide +kernel
theorem dX0_goThroughDay_70 : decode cX0_goThroughDay 70 = .ok (.imul, 1) := by decide +kernel
theorem dX0_goThroughDay_71 : decode cX0_goThroughDay 71 = .ok (.bipush 100, 2) := by decide +kernel
theorem dX0_goThroughDay_73 : decode cX0_goThroughDay 73 = .ok (.idiv, 1) := by decide +kernel
theorem dX0_goThroughDay_74 : decode cX0_goThroughDay 74 = .ok (.iastore, 1) := by decide +kernel
theorem dX0_goThroughDay_75 : decode cX0_goThroughDay 75 = .ok (.iinc 2 1, 3) := by decide +kernel
theorem dX0_goThroughDay_78 : decode cX0_goThroughDay 78 = .ok (.goto (-38), 3) := by decide +kernel
theorem dX0_goThroughDay_81 : decode cX0_goThroughDay 81 = .ok (.aload_n 0, 1) := by decide +kernel
theorem dX0_goThroughDay_82 : decode cX0_goThroughDay 82 = .ok (.dup, 1) := by decide +kernel
theorem dX0_goThroughDay_83 : decode cX0_goThroughDay 83 = .ok (.getfield 44, 3) := by decide +kernel
theorem dX0_goThroughDay_86 : decode cX0_goThroughDay 86 = .ok (.iconst 1, 1) := by decide +kernel
theorem dX0_goThroughDay_87 : decode cX0_goThroughDay 87 = .ok (.iadd, 1) := by decide +kernel
theorem dX0_goThroughDay_88 : decode cX0_goThroughDay 88 = .ok (.putfield 44, 3) := by decide +kernel
theorem dX0_goThroughDay_91 : decode cX0_goThroughDay 91 = .ok (.aload_n 0, 1) := by decide +kernel
theorem dX0_goThroughDay_92 : decode cX0_goThroughDay 92 = .ok (.iconst 0, 1) := by decide +kernel
theorem dX0_goThroughDay_93 : decode cX0_goThroughDay 93 = .ok (.putfield 47, 3) := by decide +kernel
theorem dX0_goThroughDay_96 : decode cX0_goThroughDay 96 = .ok (.return_, 1) := by decide +kernel
theorem dX0_staysThroughDay_0 : decode cX0_staysThroughDay 0 = .ok (.aload_n 0, 1) := by decide +kernel
theorem dX0_staysThroughDay_1 : decode cX0_staysThroughDay 1 = .ok (.getfield 9, 3) := by decide +kernel
theorem dX0_staysThroughDay_4 : decode cX0_staysThroughDay 4 = .ok (.iconst 0, 1) := by decide +kernel
theorem dX0_staysThroughDay_5 : decode cX0_staysThroughDay 5 = .ok (.aload_n 0, 1) := by decide +kernel
theorem dX0_staysThroughDay_6 : decode cX0_staysThroughDay 6 = .ok (.getfield 27, 3) := by decide +kernel
theorem dX0_staysThroughDay_9 : decode cX0_staysThroughDay 9 = .ok (.iconst 0, 1) := by decide +kernel
theorem dX0_staysThroughDay_10 : decode cX0_staysThroughDay 10 = .ok (.bipush 8, 2) := by decide +kernel
theorem dX0_staysThroughDay_12 : decode cX0_staysThroughDay 12 = .ok (.invokestatic 38, 3) := by decide +kernel
theorem dX0_staysThroughDay_15 : decode cX0_staysThroughDay 15 = .ok (.aload_n 0, 1) := by decide +kernel
theorem dX0_staysThroughDay_16 : decode cX0_staysThroughDay 16 = .ok (.aload_n 1, 1) := by decide +kernel
theorem dX0_staysThroughDay_17 : decode cX0_staysThroughDay 17 = .ok (.invokevirtual 123, 3) := by decide +kernel
theorem dX0_staysThroughDay_20 : decode cX0_staysThroughDay 20 = .ok (.iconst 0, 1) := by decide +kernel
theorem dX0_staysThroughDay_21 : decode cX0_staysThroughDay 21 = .ok (.istore_n 2, 1) := by decide +kernel
theorem dX0_staysThroughDay_22 : decode cX0_staysThroughDay 22 = .ok (.iload_n 2, 1) := by decide +kernel
theorem dX0_staysThroughDay_23 : decode cX0_staysThroughDay 23 = .ok (.bipush 8, 2) := by decide +kernel
theorem dX0_staysThroughDay_25 : decode cX0_staysThroughDay 25 = .ok (.if_icmp .ge 26, 3) := by decide +kernel
theorem dX0_staysThroughDay_28 : decode cX0_staysThroughDay 28 = .ok (.aload_n 0, 1) := by decide +kernel
theorem dX0_staysThroughDay_29 : decode cX0_staysThroughDay 29 = .ok (.getfield 9, 3) := by decide +kernel
theorem dX0_staysThroughDay_32 : decode cX0_staysThroughDay 32 = .ok (.iload_n 2, 1) := by decide +kernel
theorem dX0_staysThroughDay_33 : decode cX0_staysThroughDay 33 = .ok (.iaload, 1) := by decide +kernel
theorem dX0_staysThroughDay_34 : decode cX0_staysThroughDay 34 = .ok (.aload_n 0, 1) := by decide +kernel
theorem dX0_staysThroughDay_35 : decode cX0_staysThroughDay 35 = .ok (.getfield 27, 3) := by decide +kernel
theorem dX0_staysThroughDay_38 : decode cX0_staysThroughDay 38 = .ok (.iload_n 2, 1) := by decide +kernel
theorem dX0_staysThroughDay_39 : decode cX0_staysThroughDay 39 = .ok (.iaload, 1) := by decide +kernel
theorem dX0_staysThroughDay_40 : decode cX0_staysThroughDay 40 = .ok (.if_icmp .eq 5, 3) := by decide +kernel
theorem dX0_staysThroughDay_43 : decode cX0_staysThroughDay 43 = .ok (.iconst 0, 1) := by decide +kernel
theorem dX0_staysThroughDay_44 : decode cX0_staysThroughDay 44 = .ok (.ireturn, 1) := by decide +kernel
theorem dX0_staysThroughDay_45 : decode cX0_staysThroughDay 45 = .ok (.iinc 2 1, 3) := by decide +kernel
theorem dX0_staysThroughDay_48 : decode cX0_staysThroughDay 48 = .ok (.goto (-26), 3) := by decide +kernel
theorem dX0_staysThroughDay_51 : decode cX0_staysThroughDay 51 = .ok (.iconst 1, 1) := by decide +kernel
theorem dX0_staysThroughDay_52 : decode cX0_staysThroughDay 52 = .ok (.ireturn, 1) := by decide +kernel
theorem dX0_says_0 : decode cX0_says 0 = .ok (.aload_n 0, 1) := by decide +kernel
theorem dX0_says_1 : decode cX0_says 1 = .ok (.getfield 34, 3) := by decide +kernel
theorem dX0_says_4 : decode cX0_says 4 = .ok (.getfield 127, 3) := by decide +kernel
theorem dX0_says_7 : decode cX0_says 7 = .ok (.astore 6, 2) := by decide +kernel
theorem dX0_says_9 : decode cX0_says 9 = .ok (.aload 6, 2) := by decide +kernel
theorem dX0_says_11 : decode cX0_says 11 = .ok (.iconst 0, 1) := by decide +kernel
theorem dX0_says_12 : decode cX0_says 12 = .ok (.aload_n 0, 1) := by decide +kernel
theorem dX0_says_13 : decode cX0_says 13 = .ok (.getfield 9, 3) := by decide +kernel
theorem dX0_says_16 : decode cX0_says 16 = .ok (.iload_n 2, 1) := by decide +kernel
theorem dX0_says_17 : decode cX0_says 17 = .ok (.iaload, 1) := by decide +kernel
theorem dX0_says_18 : decode cX0_says 18 = .ok (.iastore, 1) := by decide +kernel
theorem dX0_says_19 : decode cX0_says 19 = .ok (.aload 6, 2) := by decide +kernel
theorem dX0_says_21 : decode cX0_says 21 = .ok (.iconst 1, 1) := by decide +kernel
theorem dX0_says_22 : decode cX0_says 22 = .ok (.iload_n 3, 1) := by decide +kernel
theorem dX0_says_23 : decode cX0_says 23 = .ok (.iastore, 1) := by decide +kernel
theorem dX0_says_24 : decode cX0_says 24 = .ok (.aload 6, 2) := by decide +kernel
theorem dX0_says_26 : decode cX0_says 26 = .ok (.iconst 2, 1) := by decide +kernel
theorem dX0_says_27 : decode cX0_says 27 = .ok (.iload 4, 2) := by decide +kernel
theorem dX0_says_29 : decode cX0_says 29 = .ok (.iastore, 1) := by decide +kernel
theorem dX0_says_30 : decode cX0_says 30 = .ok (.aload 6, 2) := by decide +kernel
theorem dX0_says_32 : decode cX0_says 32 = .ok (.iconst 3, 1) := by decide +kernel
theorem dX0_says_33 : decode cX0_says 33 = .ok (.aload_n 0, 1) := by decide +kernel
theorem dX0_says_34 : decode cX0_says 34 = .ok (.getfield 34, 3) := by decide +kernel
theorem dX0_says_37 : decode cX0_says 37 = .ok (.getfield 59, 3) := by decide +kernel
theorem dX0_says_40 : decode cX0_says 40 = .ok (.iload_n 2, 1) := by decide +kernel
theorem dX0_says_41 : decode cX0_says 41 = .ok (.iaload, 1) := by decide +kernel
theorem dX0_says_42 : decode cX0_says 42 = .ok (.iastore, 1) := by decide +kernel
theorem dX0_says_43 : decode cX0_says 43 = .ok (.aload 6, 2) := by decide +kernel
theorem dX0_says_45 : decode cX0_says 45 = .ok (.iconst 4, 1) := by decide +kernel
theorem dX0_says_46 : decode cX0_says 46 = .ok (.aload_n 0, 1) := by decide +kernel
theorem dX0_says_47 : decode cX0_says 47 = .ok (.getfield 44, 3) := by decide +kernel
theorem dX0_says_50 : decode cX0_says 50 = .ok (.iastore, 1) := by decide +kernel
theorem dX0_says_51 : decode cX0_says 51 = .ok (.aload 6, 2) := by decide +kernel
theorem dX0_says_53 : decode cX0_says 53 = .ok (.iconst 5, 1) := by decide +kernel
theorem dX0_says_54 : decode cX0_says 54 = .ok (.iload 5, 2) := by decide +kernel
theorem dX0_says_56 : decode cX0_says 56 = .ok (.iastore, 1) := by decide +kernel
theorem dX0_says_57 : decode cX0_says 57 = .ok (.aload_n 0, 1) := by decide +kernel
theorem dX0_says_58 : decode cX0_says 58 = .ok (.getfield 34, 3) := by decide +kernel
theorem dX0_says_61 : decode cX0_says 61 = .ok (.getfield 130, 3) := by decide +kernel
theorem dX0_says_64 : decode cX0_says 64 = .ok (.aload_n 0, 1) := by decide +kernel
theorem dX0_says_65 : decode cX0_says 65 = .ok (.getfield 50, 3) := by decide +kernel
theorem dX0_says_68 : decode cX0_says 68 = .ok (.aaload, 1) := by decide +kernel
theorem dX0_says_69 : decode cX0_says 69 = .ok (.astore 7, 2) := by decide +kernel
theorem dX0_says_71 : decode cX0_says 71 = .ok (.aload 7, 2) := by decide +kernel
theorem dX0_says_73 : decode cX0_says 73 = .ok (.ifnonnull 7, 3) := by decide +kernel
theorem dX0_says_76 : decode cX0_says 76 = .ok (.iconst 0, 1) := by decide +kernel
theorem dX0_says_77 : decode cX0_says 77 = .ok (.goto 18, 3) := by decide +kernel
theorem dX0_says_80 : decode cX0_says 80 = .ok (.aload 7, 2) := by decide +kernel
theorem dX0_says_82 : decode cX0_says 82 = .ok (.iload_n 1, 1) := by decide +kernel
theorem dX0_says_83 : decode cX0_says 83 = .ok (.aload 6, 2) := by decide +kernel
theorem dX0_says_85 : decode cX0_says 85 = .ok (.aload_n 0, 1) := by decide +kernel
theorem dX0_says_86 : decode cX0_says 86 = .ok (.getfield 34, 3) := by decide +kernel
theorem dX0_says_89 : decode cX0_says 89 = .ok (.getfield 134, 3) := by decide +kernel
theorem dX0_says_92 : decode cX0_says 92 = .ok (.invokevirtual 137, 3) := by decide +kernel
theorem dX0_says_95 : decode cX0_says 95 = .ok (.ireturn, 1) := by decide +kernel
theorem dX1_init_0 : decode cX1_init 0 = .ok (.aload_n 0, 1) := by decide +kernel
theorem dX1_init_1 : decode cX1_init 1 = .ok (.invokespecial 1, 3) := by decide +kernel
theorem dX1_init_4 : decode cX1_init 4 = .ok (.aload_n 0, 1) := by decide +kernel
theorem dX1_init_5 : decode cX1_init 5 = .ok (.aload_n 1, 1) := by decide +kernel
theorem dX1_init_6 : decode cX1_init 6 = .ok (.iload_n 3, 1) := by decide +kernel
theorem dX1_init_7 : decode cX1_init 7 = .ok (.invokestatic 7, 3) := by decide +kernel
theorem dX1_init_10 : decode cX1_init 10 = .ok (.putfield 13, 3) := by decide +kernel
theorem dX1_init_13 : decode cX1_init 13 = .ok (.aload_n 0, 1) := by decide +kernel
theorem dX1_init_14 : decode cX1_init 14 = .ok (.aload_n 2, 1) := by decide +kernel
theorem dX1_init_15 : decode cX1_init 15 = .ok (.iload_n 3, 1) := by decide +kernel
theorem dX1_init_16 : decode cX1_init 16 = .ok (.invokestatic 7, 3) := by decide +kernel
theorem dX1_init_19 : decode cX1_init 19 = .ok (.putfield 19, 3) := by decide +kernel
theorem dX1_init_22 : decode cX1_init 22 = .ok (.aload_n 0, 1) := by decide +kernel
theorem dX1_init_23 : decode cX1_init 23 = .ok (.iload_n 3, 1) := by decide +kernel
theorem dX1_init_24 : decode cX1_init 24 = .ok (.putfield 22, 3) := by decide +kernel
theorem dX1_init_27 : decode cX1_init 27 = .ok (.return_, 1) := by decide +kernel
theorem dX2_init_0 : decode cX2_init 0 = .ok (.aload_n 0, 1) := by decide +kernel
theorem dX2_init_1 : decode cX2_init 1 = .ok (.invokespecial 3, 3) := by decide +kernel
theorem dX2_init_4 : decode cX2_init 4 = .ok (.aload_n 0, 1) := by decide +kernel
theorem dX2_init_5 : decode cX2_init 5 = .ok (.bipush 24, 2) := by decide +kernel
theorem dX2_init_7 : decode cX2_init 7 = .ok (.newarray .int, 2) := by decide +kernel
theorem dX2_init_9 : decode cX2_init 9 = .ok (.putfield 9, 3) := by decide +kernel
theorem dX2_init_12 : decode cX2_init 12 = .ok (.aload_n 0, 1) := by decide +kernel
theorem dX2_init_13 : decode cX2_init 13 = .ok (.bipush 24, 2) := by decide +kernel
theorem dX2_init_15 : decode cX2_init 15 = .ok (.newarray .int, 2) := by decide +kernel
theorem dX2_init_17 : decode cX2_init 17 = .ok (.putfield 15, 3) := by decide +kernel
theorem dX2_init_20 : decode cX2_init 20 = .ok (.return_, 1) := by decide +kernel
theorem dX2_read_0 : decode cX2_read 0 = .ok (.iconst 0, 1) := by decide +kernel
theorem dX2_read_1 : decode cX2_read 1 = .ok (.istore_n 3, 1) := by decide +kernel
theorem dX2_read_2 : decode cX2_read 2 = .ok (.iconst 0, 1) := by decide +kernel
theorem dX2_read_3 : decode cX2_read 3 = .ok (.istore 4, 2) := by decide +kernel
theorem dX2_read_5 : decode cX2_read 5 = .ok (.iconst 0, 1) := by decide +kernel
theorem dX2_read_6 : decode cX2_read 6 = .ok (.istore 5, 2) := by decide +kernel
theorem dX2_read_8 : decode cX2_read 8 = .ok (.iload 5, 2) := by decide +kernel
theorem dX2_read_10 : decode cX2_read 10 = .ok (.aload_n 1, 1) := by decide +kernel
theorem dX2_read_11 : decode cX2_read 11 = .ok (.getfield 18, 3) := by decide +kernel
theorem dX2_read_14 : decode cX2_read 14 = .ok (.if_icmp .ge 116, 3) := by decide +kernel
theorem dX2_read_17 : decode cX2_read 17 = .ok (.aload_n 1, 1) := by decide +kernel
theorem dX2_read_18 : decode cX2_read 18 = .ok (.iload 5, 2) := by decide +kernel
theorem dX2_read_20 : decode cX2_read 20 = .ok (.invokevirtual 24, 3) := by decide +kernel
theorem dX2_read_23 : decode cX2_read 23 = .ok (.bipush 97, 2) := by decide +kernel
theorem dX2_read_25 : decode cX2_read 25 = .ok (.isub, 1) := by decide +kernel
theorem dX2_read_26 : decode cX2_read 26 = .ok (.istore 6, 2) := by decide +kernel
theorem dX2_read_28 : decode cX2_read 28 = .ok (.aload_n 1, 1) := by decide +kernel
theorem dX2_read_29 : decode cX2_read 29 = .ok (.iload 5, 2) := by decide +kernel
theorem dX2_read_31 : decode cX2_read 31 = .ok (.invokevirtual 24, 3) := by decide +kernel
theorem dX2_read_34 : decode cX2_read 34 = .ok (.invokestatic 28, 3) := by decide +kernel
theorem dX2_read_37 : decode cX2_read 37 = .ok (.istore 7, 2) := by decide +kernel
theorem dX2_read_39 : decode cX2_read 39 = .ok (.iload_n 3, 1) := by decide +kernel
theorem dX2_read_40 : decode cX2_read 40 = .ok (.bipush 24, 2) := by decide +kernel
theorem dX2_read_42 : decode cX2_read 42 = .ok (.if_icmp .ne 10, 3) := by decide +kernel
theorem dX2_read_45 : decode cX2_read 45 = .ok (.aload_n 0, 1) := by decide +kernel
theorem dX2_read_46 : decode cX2_read 46 = .ok (.iload 5, 2) := by decide +kernel
theorem dX2_read_48 : decode cX2_read 48 = .ok (.invokevirtual 31, 3) := by decide +kernel
theorem dX2_read_51 : decode cX2_read 51 = .ok (.areturn, 1) := by decide +kernel
theorem dX2_read_52 : decode cX2_read 52 = .ok (.iload 6, 2) := by decide +kernel
theorem dX2_read_54 : decode cX2_read 54 = .ok (.iconst 0, 1) := by decide +kernel
theorem dX2_read_55 : decode cX2_read 55 = .ok (.iload_n 2, 1) := by decide +kernel
theorem dX2_read_56 : decode cX2_read 56 = .ok (.iconst 1, 1) := by decide +kernel
theorem dX2_read_57 : decode cX2_read 57 = .ok (.isub, 1) := by decide +kernel
theorem dX2_read_58 : decode cX2_read 58 = .ok (.invokestatic 35, 3) := by decide +kernel
theorem dX2_read_61 : decode cX2_read 61 = .ok (.ifCond .eq 25, 3) := by decide +kernel
theorem dX2_read_64 : decode cX2_read 64 = .ok (.iload 4, 2) := by decide +kernel
theorem dX2_read_66 : decode cX2_read 66 = .ok (.iload 6, 2) := by decide +kernel
theorem dX2_read_68 : decode cX2_read 68 = .ok (.invokestatic 39, 3) := by decide +kernel
theorem dX2_read_71 : decode cX2_read 71 = .ok (.ifCond .ne 15, 3) := by decide +kernel
theorem dX2_read_74 : decode cX2_read 74 = .ok (.iload 4, 2) := by decide +kernel
theorem dX2_read_76 : decode cX2_read 76 = .ok (.iconst 1, 1) := by decide +kernel
theorem dX2_read_77 : decode cX2_read 77 = .ok (.iload 6, 2) := by decide +kernel
theorem dX2_read_79 : decode cX2_read 79 = .ok (.ishl, 1) := by decide +kernel
theorem dX2_read_80 : decode cX2_read 80 = .ok (.ior, 1) := by decide +kernel
theorem dX2_read_81 : decode cX2_read 81 = .ok (.istore 4, 2) := by decide +kernel
theorem dX2_read_83 : decode cX2_read 83 = .ok (.goto 41, 3) := by decide +kernel
theorem dX2_read_86 : decode cX2_read 86 = .ok (.iload 7, 2) := by decide +kernel
theorem dX2_read_88 : decode cX2_read 88 = .ok (.iconst (-1), 1) := by decide +kernel
theorem dX2_read_89 : decode cX2_read 89 = .ok (.if_icmp .eq 28, 3) := by decide +kernel
theorem dX2_read_92 : decode cX2_read 92 = .ok (.aload_n 0, 1) := by decide +kernel
theorem dX2_read_93 : decode cX2_read 93 = .ok (.getfield 9, 3) := by decide +kernel
theorem dX2_read_96 : decode cX2_read 96 = .ok (.iload_n 3, 1) := by decide +kernel
theorem dX2_read_97 : decode cX2_read 97 = .ok (.iload 4, 2) := by decide +kernel
theorem dX2_read_99 : decode cX2_read 99 = .ok (.iastore, 1) := by decide +kernel
theorem dX2_read_100 : decode cX2_read 100 = .ok (.aload_n 0, 1) := by decide +kernel
theorem dX2_read_101 : decode cX2_read 101 = .ok (.getfield 15, 3) := by decide +kernel
theorem dX2_read_104 : decode cX2_read 104 = .ok (.iload_n 3, 1) := by decide +kernel
theorem dX2_read_105 : decode cX2_read 105 = .ok (.iload 7, 2) := by decide +kernel
theorem dX2_read_107 : decode cX2_read 107 = .ok (.iastore, 1) := by decide +kernel
theorem dX2_read_108 : decode cX2_read 108 = .ok (.iinc 3 1, 3) := by decide +kernel
theorem dX2_read_111 : decode cX2_read 111 = .ok (.iconst 0, 1) := by decide +kernel
theorem dX2_read_112 : decode cX2_read 112 = .ok (.istore 4, 2) := by decide +kernel
theorem dX2_read_114 : decode cX2_read 114 = .ok (.goto 10, 3) := by decide +kernel
theorem dX2_read_117 : decode cX2_read 117 = .ok (.aload_n 0, 1) := by decide +kernel
theorem dX2_read_118 : decode cX2_read 118 = .ok (.iload 5, 2) := by decide +kernel
theorem dX2_read_120 : decode cX2_read 120 = .ok (.invokevirtual 31, 3) := by decide +kernel
theorem dX2_read_123 : decode cX2_read 123 = .ok (.areturn, 1) := by decide +kernel
theorem dX2_read_124 : decode cX2_read 124 = .ok (.iinc 5 1, 3) := by decide +kernel
theorem dX2_read_127 : decode cX2_read 127 = .ok (.goto (-119), 3) := by decide +kernel
theorem dX2_read_130 : decode cX2_read 130 = .ok (.iload_n 3, 1) := by decide +kernel
theorem dX2_read_131 : decode cX2_read 131 = .ok (.ifCond .eq 8, 3) := by decide +kernel
theorem dX2_read_134 : decode cX2_read 134 = .ok (.iload 4, 2) := by decide +kernel
theorem dX2_read_136 : decode cX2_read 136 = .ok (.ifCond .eq 12, 3) := by decide +kernel
theorem dX2_read_139 : decode cX2_read 139 = .ok (.aload_n 0, 1) := by decide +kernel
theorem dX2_read_140 : decode cX2_read 140 = .ok (.aload_n 1, 1) := by decide +kernel
theorem dX2_read_141 : decode cX2_read 141 = .ok (.getfield 18, 3) := by decide +kernel
theorem dX2_read_144 : decode cX2_read 144 = .ok (.invokevirtual 31, 3) := by decide +kernel
theorem dX2_read_147 : decode cX2_read 147 = .ok (.areturn, 1) := by decide +kernel
theorem dX2_read_148 : decode cX2_read 148 = .ok (.new 43, 3) := by decide +kernel
theorem dX2_read_151 : decode cX2_read 151 = .ok (.dup, 1) := by decide +kernel
theorem dX2_read_152 : decode cX2_read 152 = .ok (.aload_n 0, 1) := by decide +kernel
theorem dX2_read_153 : decode cX2_read 153 = .ok (.getfield 9, 3) := by decide +kernel
theorem dX2_read_156 : decode cX2_read 156 = .ok (.aload_n 0, 1) := by decide +kernel
theorem dX2_read_157 : decode cX2_read 157 = .ok (.getfield 15, 3) := by decide +kernel
theorem dX2_read_160 : decode cX2_read 160 = .ok (.iload_n 3, 1) := by decide +kernel
theorem dX2_read_161 : decode cX2_read 161 = .ok (.invokespecial 45, 3) := by decide +kernel
theorem dX2_read_164 : decode cX2_read 164 = .ok (.areturn, 1) := by decide +kernel
theorem dX2_refused_0 : decode cX2_refused 0 = .ok (.aload_n 0, 1) := by decide +kernel
theorem dX2_refused_1 : decode cX2_refused 1 = .ok (.iload_n 1, 1) := by decide +kernel
theorem dX2_refused_2 : decode cX2_refused 2 = .ok (.putfield 48, 3) := by decide +kernel
theorem dX2_refused_5 : decode cX2_refused 5 = .ok (.aconst_null, 1) := by decide +kernel
theorem dX2_refused_6 : decode cX2_refused 6 = .ok (.areturn, 1) := by decide +kernel
theorem dX2_endOf_0 : decode cX2_endOf 0 = .ok (.iload_n 0, 1) := by decide +kernel
theorem dX2_endOf_1 : decode cX2_endOf 1 = .ok (.lookupswitch 51 #[(33, 47), (43, 45), (45, 43), (63, 49)], 43) := by decide +kernel
theorem dX2_endOf_44 : decode cX2_endOf 44 = .ok (.iconst 0, 1) := by decide +kernel
theorem dX2_endOf_45 : decode cX2_endOf 45 = .ok (.ireturn, 1) := by decide +kernel
theorem dX2_endOf_46 : decode cX2_endOf 46 = .ok (.iconst 1, 1) := by decide +kernel
theorem dX2_endOf_47 : decode cX2_endOf 47 = .ok (.ireturn, 1) := by decide +kernel
theorem dX2_endOf_48 : decode cX2_endOf 48 = .ok (.iconst 2, 1) := by decide +kernel
theorem dX2_endOf_49 : decode cX2_endOf 49 = .ok (.ireturn, 1) := by decide +kernel
theorem dX2_endOf_50 : decode cX2_endOf 50 = .ok (.iconst 3, 1) := by decide +kernel
theorem dX2_endOf_51 : decode cX2_endOf 51 = .ok (.ireturn, 1) := by decide +kernel
theorem dX2_endOf_52 : decode cX2_endOf 52 = .ok (.iconst (-1), 1) := by decide +kernel
theorem dX2_endOf_53 : decode cX2_endOf 53 = .ok (.ireturn, 1) := by decide +kernel
theorem dX3_init_0 : decode cX3_init 0 = .ok (.aload_n 0, 1) := by decide +kernel
theorem dX3_init_1 : decode cX3_init 1 = .ok (.invokespecial 3, 3) := by decide +kernel
theorem dX3_init_4 : decode cX3_init 4 = .ok (.aload_n 0, 1) := by decide +kernel
theorem dX3_init_5 : decode cX3_init 5 = .ok (.iconst (-1), 1) := by decide +kernel
theorem dX3_init_6 : decode cX3_init 6 = .ok (.putfield 11, 3) := by decide +kernel
theorem dX3_init_9 : decode cX3_init 9 = .ok (.aload_n 0, 1) := by decide +kernel
theorem dX3_init_10 : decode cX3_init 10 = .ok (.bipush 40, 2) := by decide +kernel
theorem dX3_init_12 : decode cX3_init 12 = .ok (.newarray .int, 2) := by decide +kernel
theorem dX3_init_14 : decode cX3_init 14 = .ok (.putfield 15, 3) := by decide +kernel
theorem dX3_init_17 : decode cX3_init 17 = .ok (.return_, 1) := by decide +kernel
theorem dX3_isMissing_0 : decode cX3_isMissing 0 = .ok (.aload_n 0, 1) := by decide +kernel
theorem dX3_isMissing_1 : decode cX3_isMissing 1 = .ok (.getfield 11, 3) := by decide +kernel
theorem dX3_isMissing_4 : decode cX3_isMissing 4 = .ok (.iconst (-1), 1) := by decide +kernel
theorem dX3_isMissing_5 : decode cX3_isMissing 5 = .ok (.if_icmp .ne 7, 3) := by decide +kernel
theorem dX3_isMissing_8 : decode cX3_isMissing 8 = .ok (.iconst 1, 1) := by decide +kernel
theorem dX3_isMissing_9 : decode cX3_isMissing 9 = .ok (.goto 4, 3) := by decide +kernel
theorem dX3_isMissing_12 : decode cX3_isMissing 12 = .ok (.iconst 0, 1) := by decide +kernel
theorem dX3_isMissing_13 : decode cX3_isMissing 13 = .ok (.ireturn, 1) := by decide +kernel
theorem dX3_become_0 : decode cX3_become 0 = .ok (.aload_n 0, 1) := by decide +kernel
theorem dX3_become_1 : decode cX3_become 1 = .ok (.iload_n 1, 1) := by decide +kernel
theorem dX3_become_2 : decode cX3_become 2 = .ok (.putfield 11, 3) := by decide +kernel
theorem dX3_become_5 : decode cX3_become 5 = .ok (.aload_n 0, 1) := by decide +kernel
theorem dX3_become_6 : decode cX3_become 6 = .ok (.iload_n 2, 1) := by decide +kernel
theorem dX3_become_7 : decode cX3_become 7 = .ok (.putfield 19, 3) := by decide +kernel
theorem dX3_become_10 : decode cX3_become 10 = .ok (.aload_n 0, 1) := by decide +kernel
theorem dX3_become_11 : decode cX3_become 11 = .ok (.getfield 15, 3) := by decide +kernel
theorem dX3_become_14 : decode cX3_become 14 = .ok (.iconst 0, 1) := by decide +kernel
theorem dX3_become_15 : decode cX3_become 15 = .ok (.invokestatic 22, 3) := by decide +kernel
theorem dX3_become_18 : decode cX3_become 18 = .ok (.return_, 1) := by decide +kernel
theorem dX3_has_0 : decode cX3_has 0 = .ok (.iload_n 1, 1) := by decide +kernel
theorem dX3_has_1 : decode cX3_has 1 = .ok (.iconst 0, 1) := by decide +kernel
theorem dX3_has_2 : decode cX3_has 2 = .ok (.aload_n 0, 1) := by decide +kernel
theorem dX3_has_3 : decode cX3_has 3 = .ok (.getfield 19, 3) := by decide +kernel
theorem dX3_has_6 : decode cX3_has 6 = .ok (.iconst 1, 1) := by decide +kernel
theorem dX3_has_7 : decode cX3_has 7 = .ok (.isub, 1) := by decide +kernel
theorem dX3_has_8 : decode cX3_has 8 = .ok (.invokestatic 28, 3) := by decide +kernel
theorem dX3_has_11 : decode cX3_has 11 = .ok (.ireturn, 1) := by decide +kernel
theorem dX3_hasRun_0 : decode cX3_hasRun 0 = .ok (.iload_n 1, 1) := by decide +kernel
theorem dX3_hasRun_1 : decode cX3_hasRun 1 = .ok (.ifCond .lt 25, 3) := by decide +kernel
theorem dX3_hasRun_4 : decode cX3_hasRun 4 = .ok (.iload_n 2, 1) := by decide +kernel
theorem dX3_hasRun_5 : decode cX3_hasRun 5 = .ok (.ifCond .lt 21, 3) := by decide +kernel
theorem dX3_hasRun_8 : decode cX3_hasRun 8 = .ok (.iload_n 1, 1) := by decide +kernel
theorem dX3_hasRun_9 : decode cX3_hasRun 9 = .ok (.i2l, 1) := by decide +kernel
theorem dX3_hasRun_10 : decode cX3_hasRun 10 = .ok (.iload_n 2, 1) := by decide +kernel
theorem dX3_hasRun_11 : decode cX3_hasRun 11 = .ok (.i2l, 1) := by decide +kernel
theorem dX3_hasRun_12 : decode cX3_hasRun 12 = .ok (.ladd, 1) := by decide +kernel
theorem dX3_hasRun_13 : decode cX3_hasRun 13 = .ok (.aload_n 0, 1) := by decide +kernel
theorem dX3_hasRun_14 : decode cX3_hasRun 14 = .ok (.getfield 19, 3) := by decide +kernel
theorem dX3_hasRun_17 : decode cX3_hasRun 17 = .ok (.i2l, 1) := by decide +kernel
theorem dX3_hasRun_18 : decode cX3_hasRun 18 = .ok (.lcmp, 1) := by decide +kernel
theorem dX3_hasRun_19 : decode cX3_hasRun 19 = .ok (.ifCond .gt 7, 3) := by decide +kernel
theorem dX3_hasRun_22 : decode cX3_hasRun 22 = .ok (.iconst 1, 1) := by decide +kernel
theorem dX3_hasRun_23 : decode cX3_hasRun 23 = .ok (.goto 4, 3) := by decide +kernel
theorem dX3_hasRun_26 : decode cX3_hasRun 26 = .ok (.iconst 0, 1) := by decide +kernel
theorem dX3_hasRun_27 : decode cX3_hasRun 27 = .ok (.ireturn, 1) := by decide +kernel
theorem dX3_put_0 : decode cX3_put 0 = .ok (.aload_n 0, 1) := by decide +kernel
theorem dX3_put_1 : decode cX3_put 1 = .ok (.getfield 11, 3) := by decide +kernel
theorem dX3_put_4 : decode cX3_put 4 = .ok (.ifCond .ne 14, 3) := by decide +kernel
theorem dX3_put_7 : decode cX3_put 7 = .ok (.aload_n 0, 1) := by decide +kernel
theorem dX3_put_8 : decode cX3_put 8 = .ok (.getfield 15, 3) := by decide +kernel
theorem dX3_put_11 : decode cX3_put 11 = .ok (.iload_n 1, 1) := by decide +kernel
theorem dX3_put_12 : decode cX3_put 12 = .ok (.iload_n 2, 1) := by decide +kernel
theorem dX3_put_13 : decode cX3_put 13 = .ok (.i2b, 1) := by decide +kernel
theorem dX3_put_14 : decode cX3_put 14 = .ok (.iastore, 1) := by decide +kernel
theorem dX3_put_15 : decode cX3_put 15 = .ok (.goto 29, 3) := by decide +kernel
theorem dX3_put_18 : decode cX3_put 18 = .ok (.aload_n 0, 1) := by decide +kernel
theorem dX3_put_19 : decode cX3_put 19 = .ok (.getfield 11, 3) := by decide +kernel
theorem dX3_put_22 : decode cX3_put 22 = .ok (.iconst 1, 1) := by decide +kernel
theorem dX3_put_23 : decode cX3_put 23 = .ok (.if_icmp .ne 14, 3) := by decide +kernel
theorem dX3_put_26 : decode cX3_put 26 = .ok (.aload_n 0, 1) := by decide +kernel
theorem dX3_put_27 : decode cX3_put 27 = .ok (.getfield 15, 3) := by decide +kernel
theorem dX3_put_30 : decode cX3_put 30 = .ok (.iload_n 1, 1) := by decide +kernel
theorem dX3_put_31 : decode cX3_put 31 = .ok (.iload_n 2, 1) := by decide +kernel
theorem dX3_put_32 : decode cX3_put 32 = .ok (.i2s, 1) := by decide +kernel
theorem dX3_put_33 : decode cX3_put 33 = .ok (.iastore, 1) := by decide +kernel
theorem dX3_put_34 : decode cX3_put 34 = .ok (.goto 10, 3) := by decide +kernel
theorem dX3_put_37 : decode cX3_put 37 = .ok (.aload_n 0, 1) := by decide +kernel
theorem dX3_put_38 : decode cX3_put 38 = .ok (.getfield 15, 3) := by decide +kernel
theorem dX3_put_41 : decode cX3_put 41 = .ok (.iload_n 1, 1) := by decide +kernel
theorem dX3_put_42 : decode cX3_put 42 = .ok (.iload_n 2, 1) := by decide +kernel
theorem dX3_put_43 : decode cX3_put 43 = .ok (.iastore, 1) := by decide +kernel
theorem dX3_put_44 : decode cX3_put 44 = .ok (.return_, 1) := by decide +kernel
theorem dX4_init_0 : decode cX4_init 0 = .ok (.aload_n 0, 1) := by decide +kernel
theorem dX4_init_1 : decode cX4_init 1 = .ok (.invokespecial 3, 3) := by decide +kernel
theorem dX4_init_4 : decode cX4_init 4 = .ok (.aload_n 0, 1) := by decide +kernel
theorem dX4_init_5 : decode cX4_init 5 = .ok (.sipush 160, 3) := by decide +kernel
theorem dX4_init_8 : decode cX4_init 8 = .ok (.newarray .int, 2) := by decide +kernel
theorem dX4_init_10 : decode cX4_init 10 = .ok (.putfield 9, 3) := by decide +kernel
theorem dX4_init_13 : decode cX4_init 13 = .ok (.return_, 1) := by decide +kernel
theorem dX4_take_0 : decode cX4_take 0 = .ok (.iconst 0, 1) := by decide +kernel
theorem dX4_take_1 : decode cX4_take 1 = .ok (.istore 4, 2) := by decide +kernel
theorem dX4_take_3 : decode cX4_take 3 = .ok (.iload 4, 2) := by decide +kernel
theorem dX4_take_5 : decode cX4_take 5 = .ok (.iload_n 1, 1) := by decide +kernel
theorem dX4_take_6 : decode cX4_take 6 = .ok (.if_icmp .ge 50, 3) := by decide +kernel
theorem dX4_take_9 : decode cX4_take 9 = .ok (.aload_n 0, 1) := by decide +kernel
theorem dX4_take_10 : decode cX4_take 10 = .ok (.getfield 15, 3) := by decide +kernel
theorem dX4_take_13 : decode cX4_take 13 = .ok (.sipush 160, 3) := by decide +kernel
theorem dX4_take_16 : decode cX4_take 16 = .ok (.if_icmp .ge 40, 3) := by decide +kernel
theorem dX4_take_19 : decode cX4_take 19 = .ok (.aload_n 0, 1) := by decide +kernel
theorem dX4_take_20 : decode cX4_take 20 = .ok (.getfield 9, 3) := by decide +kernel
theorem dX4_take_23 : decode cX4_take 23 = .ok (.aload_n 0, 1) := by decide +kernel
theorem dX4_take_24 : decode cX4_take 24 = .ok (.getfield 15, 3) := by decide +kernel
theorem dX4_take_27 : decode cX4_take 27 = .ok (.lload_n 2, 1) := by decide +kernel
theorem dX4_take_28 : decode cX4_take 28 = .ok (.bipush 8, 2) := by decide +kernel
theorem dX4_take_30 : decode cX4_take 30 = .ok (.iload 4, 2) := by decide +kernel
theorem dX4_take_32 : decode cX4_take 32 = .ok (.imul, 1) := by decide +kernel
theorem dX4_take_33 : decode cX4_take 33 = .ok (.lushr, 1) := by decide +kernel
theorem dX4_take_34 : decode cX4_take 34 = .ok (.ldc2_w 19, 3) := by decide +kernel
theorem dX4_take_37 : decode cX4_take 37 = .ok (.land, 1) := by decide +kernel
theorem dX4_take_38 : decode cX4_take 38 = .ok (.l2i, 1) := by decide +kernel
theorem dX4_take_39 : decode cX4_take 39 = .ok (.iastore, 1) := by decide +kernel
theorem dX4_take_40 : decode cX4_take 40 = .ok (.aload_n 0, 1) := by decide +kernel
theorem dX4_take_41 : decode cX4_take 41 = .ok (.dup, 1) := by decide +kernel
theorem dX4_take_42 : decode cX4_take 42 = .ok (.getfield 15, 3) := by decide +kernel
theorem dX4_take_45 : decode cX4_take 45 = .ok (.iconst 1, 1) := by decide +kernel
theorem dX4_take_46 : decode cX4_take 46 = .ok (.iadd, 1) := by decide +kernel
theorem dX4_take_47 : decode cX4_take 47 = .ok (.putfield 15, 3) := by decide +kernel
theorem dX4_take_50 : decode cX4_take 50 = .ok (.iinc 4 1, 3) := by decide +kernel
theorem dX4_take_53 : decode cX4_take 53 = .ok (.goto (-50), 3) := by decide +kernel
theorem dX4_take_56 : decode cX4_take 56 = .ok (.return_, 1) := by decide +kernel
theorem dX4_byteAt_0 : decode cX4_byteAt 0 = .ok (.iload_n 1, 1) := by decide +kernel
theorem dX4_byteAt_1 : decode cX4_byteAt 1 = .ok (.ifCond .lt 20, 3) := by decide +kernel
theorem dX4_byteAt_4 : decode cX4_byteAt 4 = .ok (.iload_n 1, 1) := by decide +kernel
theorem dX4_byteAt_5 : decode cX4_byteAt 5 = .ok (.aload_n 0, 1) := by decide +kernel
theorem dX4_byteAt_6 : decode cX4_byteAt 6 = .ok (.getfield 15, 3) := by decide +kernel
theorem dX4_byteAt_9 : decode cX4_byteAt 9 = .ok (.if_icmp .ge 12, 3) := by decide +kernel
theorem dX4_byteAt_12 : decode cX4_byteAt 12 = .ok (.aload_n 0, 1) := by decide +kernel
theorem dX4_byteAt_13 : decode cX4_byteAt 13 = .ok (.getfield 9, 3) := by decide +kernel
theorem dX4_byteAt_16 : decode cX4_byteAt 16 = .ok (.iload_n 1, 1) := by decide +kernel
theorem dX4_byteAt_17 : decode cX4_byteAt 17 = .ok (.iaload, 1) := by decide +kernel
theorem dX4_byteAt_18 : decode cX4_byteAt 18 = .ok (.goto 4, 3) := by decide +kernel
theorem dX4_byteAt_21 : decode cX4_byteAt 21 = .ok (.iconst (-1), 1) := by decide +kernel
theorem dX4_byteAt_22 : decode cX4_byteAt 22 = .ok (.ireturn, 1) := by decide +kernel
theorem dX5_init_0 : decode cX5_init 0 = .ok (.aload_n 0, 1) := by decide +kernel
theorem dX5_init_1 : decode cX5_init 1 = .ok (.invokespecial 3, 3) := by decide +kernel
theorem dX5_init_4 : decode cX5_init 4 = .ok (.aload_n 0, 1) := by decide +kernel
theorem dX5_init_5 : decode cX5_init 5 = .ok (.aload_n 1, 1) := by decide +kernel
theorem dX5_init_6 : decode cX5_init 6 = .ok (.putfield 9, 3) := by decide +kernel
theorem dX5_init_9 : decode cX5_init 9 = .ok (.aload_n 0, 1) := by decide +kernel
theorem dX5_init_10 : decode cX5_init 10 = .ok (.aload_n 2, 1) := by decide +kernel
theorem dX5_init_11 : decode cX5_init 11 = .ok (.putfield 15, 3) := by decide +kernel
theorem dX5_init_14 : decode cX5_init 14 = .ok (.return_, 1) := by decide +kernel
theorem dX5_reckon_0 : decode cX5_reckon 0 = .ok (.iconst 0, 1) := by decide +kernel
theorem dX5_reckon_1 : decode cX5_reckon 1 = .ok (.istore 4, 2) := by decide +kernel
theorem dX5_reckon_3 : decode cX5_reckon 3 = .ok (.aload_n 0, 1) := by decide +kernel
theorem dX5_reckon_4 : decode cX5_reckon 4 = .ok (.getfield 15, 3) := by decide +kernel
theorem dX5_reckon_7 : decode cX5_reckon 7 = .ok (.iload_n 1, 1) := by decide +kernel
theorem dX5_reckon_8 : decode cX5_reckon 8 = .ok (.iaload, 1) := by decide +kernel
theorem dX5_reckon_9 : decode cX5_reckon 9 = .ok (.istore 5, 2) := by decide +kernel
theorem dX5_reckon_11 : decode cX5_reckon 11 = .ok (.iload 5, 2) := by decide +kernel
theorem dX5_reckon_13 : decode cX5_reckon 13 = .ok (.aload_n 0, 1) := by decide +kernel
theorem dX5_reckon_14 : decode cX5_reckon 14 = .ok (.getfield 15, 3) := by decide +kernel
theorem dX5_reckon_17 : decode cX5_reckon 17 = .ok (.iload_n 1, 1) := by decide +kernel
theorem dX5_reckon_18 : decode cX5_reckon 18 = .ok (.iconst 1, 1) := by decide +kernel
theorem dX5_reckon_19 : decode cX5_reckon 19 = .ok (.iadd, 1) := by decide +kernel
theorem dX5_reckon_20 : decode cX5_reckon 20 = .ok (.iaload, 1) := by decide +kernel
theorem dX5_reckon_21 : decode cX5_reckon 21 = .ok (.if_icmp .ge 121, 3) := by decide +kernel
theorem dX5_reckon_24 : decode cX5_reckon 24 = .ok (.aload_n 0, 1) := by decide +kernel
theorem dX5_reckon_25 : decode cX5_reckon 25 = .ok (.getfield 9, 3) := by decide +kernel
theorem dX5_reckon_28 : decode cX5_reckon 28 = .ok (.iload 5, 2) := by decide +kernel
theorem dX5_reckon_30 : decode cX5_reckon 30 = .ok (.iaload, 1) := by decide +kernel
theorem dX5_reckon_31 : decode cX5_reckon 31 = .ok (.istore 6, 2) := by decide +kernel
theorem dX5_reckon_33 : decode cX5_reckon 33 = .ok (.iload 6, 2) := by decide +kernel
theorem dX5_reckon_35 : decode cX5_reckon 35 = .ok (.bipush (-6), 2) := by decide +kernel
theorem dX5_reckon_37 : decode cX5_reckon 37 = .ok (.if_icmp .lt 36, 3) := by decide +kernel
theorem dX5_reckon_40 : decode cX5_reckon 40 = .ok (.iload 4, 2) := by decide +kernel
theorem dX5_reckon_42 : decode cX5_reckon 42 = .ok (.aload_n 3, 1) := by decide +kernel
theorem dX5_reckon_43 : decode cX5_reckon 43 = .ok (.arraylength, 1) := by decide +kernel
theorem dX5_reckon_44 : decode cX5_reckon 44 = .ok (.if_icmp .ge 29, 3) := by decide +kernel
theorem dX5_reckon_47 : decode cX5_reckon 47 = .ok (.aload_n 3, 1) := by decide +kernel
theorem dX5_reckon_48 : decode cX5_reckon 48 = .ok (.iload 4, 2) := by decide +kernel
theorem dX5_reckon_50 : decode cX5_reckon 50 = .ok (.iload 6, 2) := by decide +kernel
theorem dX5_reckon_52 : decode cX5_reckon 52 = .ok (.ifCond .lt 8, 3) := by decide +kernel
theorem dX5_reckon_55 : decode cX5_reckon 55 = .ok (.iload 6, 2) := by decide +kernel
theorem dX5_reckon_57 : decode cX5_reckon 57 = .ok (.goto 9, 3) := by decide +kernel
theorem dX5_reckon_60 : decode cX5_reckon 60 = .ok (.aload_n 2, 1) := by decide +kernel
theorem dX5_reckon_61 : decode cX5_reckon 61 = .ok (.iconst (-1), 1) := by decide +kernel
theorem dX5_reckon_62 : decode cX5_reckon 62 = .ok (.iload 6, 2) := by decide +kernel
theorem dX5_reckon_64 : decode cX5_reckon 64 = .ok (.isub, 1) := by decide +kernel
theorem dX5_reckon_65 : decode cX5_reckon 65 = .ok (.iaload, 1) := by decide +kernel
theorem dX5_reckon_66 : decode cX5_reckon 66 = .ok (.iastore, 1) := by decide +kernel
theorem dX5_reckon_67 : decode cX5_reckon 67 = .ok (.iinc 4 1, 3) := by decide +kernel
theorem dX5_reckon_70 : decode cX5_reckon 70 = .ok (.goto 66, 3) := by decide +kernel
theorem dX5_reckon_73 : decode cX5_reckon 73 = .ok (.iload 6, 2) := by decide +kernel
theorem dX5_reckon_75 : decode cX5_reckon 75 = .ok (.bipush (-12), 2) := by decide +kernel
theorem dX5_reckon_77 : decode cX5_reckon 77 = .ok (.if_icmp .lt 29, 3) := by decide +kernel
theorem dX5_reckon_80 : decode cX5_reckon 80 = .ok (.iload 4, 2) := by decide +kernel
theorem dX5_reckon_82 : decode cX5_reckon 82 = .ok (.iconst 1, 1) := by decide +kernel
theorem dX5_reckon_83 : decode cX5_reckon 83 = .ok (.if_icmp .lt 23, 3) := by decide +kernel
theorem dX5_reckon_86 : decode cX5_reckon 86 = .ok (.aload_n 3, 1) := by decide +kernel
theorem dX5_reckon_87 : decode cX5_reckon 87 = .ok (.iload 4, 2) := by decide +kernel
theorem dX5_reckon_89 : decode cX5_reckon 89 = .ok (.iconst 1, 1) := by decide +kernel
theorem dX5_reckon_90 : decode cX5_reckon 90 = .ok (.isub, 1) := by decide +kernel
theorem dX5_reckon_91 : decode cX5_reckon 91 = .ok (.iload 6, 2) := by decide +kernel
theorem dX5_reckon_93 : decode cX5_reckon 93 = .ok (.aload_n 3, 1) := by decide +kernel
theorem dX5_reckon_94 : decode cX5_reckon 94 = .ok (.iload 4, 2) := by decide +kernel
theorem dX5_reckon_96 : decode cX5_reckon 96 = .ok (.iconst 1, 1) := by decide +kernel
theorem dX5_reckon_97 : decode cX5_reckon 97 = .ok (.isub, 1) := by decide +kernel
theorem dX5_reckon_98 : decode cX5_reckon 98 = .ok (.iaload, 1) := by decide +kernel
theorem dX5_reckon_99 : decode cX5_reckon 99 = .ok (.invokestatic 18, 3) := by decide +kernel
theorem dX5_reckon_102 : decode cX5_reckon 102 = .ok (.iastore, 1) := by decide +kernel
theorem dX5_reckon_103 : decode cX5_reckon 103 = .ok (.goto 33, 3) := by decide +kernel
theorem dX5_reckon_106 : decode cX5_reckon 106 = .ok (.iload 4, 2) := by decide +kernel
theorem dX5_reckon_108 : decode cX5_reckon 108 = .ok (.iconst 2, 1) := by decide +kernel
theorem dX5_reckon_109 : decode cX5_reckon 109 = .ok (.if_icmp .lt 27, 3) := by decide +kernel
theorem dX5_reckon_112 : decode cX5_reckon 112 = .ok (.iinc 4 (-1), 3) := by decide +kernel
theorem dX5_reckon_115 : decode cX5_reckon 115 = .ok (.aload_n 3, 1) := by decide +kernel
theorem dX5_reckon_116 : decode cX5_reckon 116 = .ok (.iload 4, 2) := by decide +kernel
theorem dX5_reckon_118 : decode cX5_reckon 118 = .ok (.iconst 1, 1) := by decide +kernel
theorem dX5_reckon_119 : decode cX5_reckon 119 = .ok (.isub, 1) := by decide +kernel
theorem dX5_reckon_120 : decode cX5_reckon 120 = .ok (.iload 6, 2) := by decide +kernel
theorem dX5_reckon_122 : decode cX5_reckon 122 = .ok (.aload_n 3, 1) := by decide +kernel
theorem dX5_reckon_123 : decode cX5_reckon 123 = .ok (.iload 4, 2) := by decide +kernel
theorem dX5_reckon_125 : decode cX5_reckon 125 = .ok (.iconst 1, 1) := by decide +kernel
theorem dX5_reckon_126 : decode cX5_reckon 126 = .ok (.isub, 1) := by decide +kernel
theorem dX5_reckon_127 : decode cX5_reckon 127 = .ok (.iaload, 1) := by decide +kernel
theorem dX5_reckon_128 : decode cX5_reckon 128 = .ok (.aload_n 3, 1) := by decide +kernel
theorem dX5_reckon_129 : decode cX5_reckon 129 = .ok (.iload 4, 2) := by decide +kernel
theorem dX5_reckon_131 : decode cX5_reckon 131 = .ok (.iaload, 1) := by decide +kernel
theorem dX5_reckon_132 : decode cX5_reckon 132 = .ok (.invokestatic 22, 3) := by decide +kernel
theorem dX5_reckon_135 : decode cX5_reckon 135 = .ok (.iastore, 1) := by decide +kernel
theorem dX5_reckon_136 : decode cX5_reckon 136 = .ok (.iinc 5 1, 3) := by decide +kernel
theorem dX5_reckon_139 : decode cX5_reckon 139 = .ok (.goto (-128), 3) := by decide +kernel
theorem dX5_reckon_142 : decode cX5_reckon 142 = .ok (.aload_n 3, 1) := by decide +kernel
theorem dX5_reckon_143 : decode cX5_reckon 143 = .ok (.iconst 0, 1) := by decide +kernel
theorem dX5_reckon_144 : decode cX5_reckon 144 = .ok (.iaload, 1) := by decide +kernel
theorem dX5_reckon_145 : decode cX5_reckon 145 = .ok (.ireturn, 1) := by decide +kernel
theorem dX5_byOne_0 : decode cX5_byOne 0 = .ok (.iload_n 0, 1) := by decide +kernel
theorem dX5_byOne_1 : decode cX5_byOne 1 = .ok (.bipush (-11), 2) := by decide +kernel
theorem dX5_byOne_3 : decode cX5_byOne 3 = .ok (.if_icmp .ne 6, 3) := by decide +kernel
theorem dX5_byOne_6 : decode cX5_byOne 6 = .ok (.iload_n 1, 1) := by decide +kernel
theorem dX5_byOne_7 : decode cX5_byOne 7 = .ok (.ineg, 1) := by decide +kernel
theorem dX5_byOne_8 : decode cX5_byOne 8 = .ok (.ireturn, 1) := by decide +kernel
theorem dX5_byOne_9 : decode cX5_byOne 9 = .ok (.iload_n 1, 1) := by decide +kernel
theorem dX5_byOne_10 : decode cX5_byOne 10 = .ok (.ifCond .ne 7, 3) := by decide +kernel
theorem dX5_byOne_13 : decode cX5_byOne 13 = .ok (.iconst 1, 1) := by decide +kernel
theorem dX5_byOne_14 : decode cX5_byOne 14 = .ok (.goto 4, 3) := by decide +kernel
theorem dX5_byOne_17 : decode cX5_byOne 17 = .ok (.iconst 0, 1) := by decide +kernel
theorem dX5_byOne_18 : decode cX5_byOne 18 = .ok (.ireturn, 1) := by decide +kernel
theorem dX5_byTwo_0 : decode cX5_byTwo 0 = .ok (.iload_n 0, 1) := by decide +kernel
theorem dX5_byTwo_1 : decode cX5_byTwo 1 = .ok (.tableswitch 97 (-26) (-21) #[93, 89, 78, 67, 53, 39], 39) := by decide +kernel
theorem dX5_byTwo_40 : decode cX5_byTwo 40 = .ok (.iload_n 1, 1) := by decide +kernel
theorem dX5_byTwo_41 : decode cX5_byTwo 41 = .ok (.ifCond .ne 7, 3) := by decide +kernel
theorem dX5_byTwo_44 : decode cX5_byTwo 44 = .ok (.iload_n 2, 1) := by decide +kernel
theorem dX5_byTwo_45 : decode cX5_byTwo 45 = .ok (.ifCond .eq 7, 3) := by decide +kernel
theorem dX5_byTwo_48 : decode cX5_byTwo 48 = .ok (.iconst 1, 1) := by decide +kernel
theorem dX5_byTwo_49 : decode cX5_byTwo 49 = .ok (.goto 4, 3) := by decide +kernel
theorem dX5_byTwo_52 : decode cX5_byTwo 52 = .ok (.iconst 0, 1) := by decide +kernel
theorem dX5_byTwo_53 : decode cX5_byTwo 53 = .ok (.ireturn, 1) := by decide +kernel
theorem dX5_byTwo_54 : decode cX5_byTwo 54 = .ok (.iload_n 1, 1) := by decide +kernel
theorem dX5_byTwo_55 : decode cX5_byTwo 55 = .ok (.ifCond .eq 11, 3) := by decide +kernel
theorem dX5_byTwo_58 : decode cX5_byTwo 58 = .ok (.iload_n 2, 1) := by decide +kernel
theorem dX5_byTwo_59 : decode cX5_byTwo 59 = .ok (.ifCond .eq 7, 3) := by decide +kernel
theorem dX5_byTwo_62 : decode cX5_byTwo 62 = .ok (.iconst 1, 1) := by decide +kernel
theorem dX5_byTwo_63 : decode cX5_byTwo 63 = .ok (.goto 4, 3) := by decide +kernel
theorem dX5_byTwo_66 : decode cX5_byTwo 66 = .ok (.iconst 0, 1) := by decide +kernel
theorem dX5_byTwo_67 : decode cX5_byTwo 67 = .ok (.ireturn, 1) := by decide +kernel
theorem dX5_byTwo_68 : decode cX5_byTwo 68 = .ok (.iload_n 1, 1) := by decide +kernel
theorem dX5_byTwo_69 : decode cX5_byTwo 69 = .ok (.iload_n 2, 1) := by decide +kernel
theorem dX5_byTwo_70 : decode cX5_byTwo 70 = .ok (.if_icmp .ge 7, 3) := by decide +kernel
theorem dX5_byTwo_73 : decode cX5_byTwo 73 = .ok (.iconst 1, 1) := by decide +kernel
theorem dX5_byTwo_74 : decode cX5_byTwo 74 = .ok (.goto 4, 3) := by decide +kernel
theorem dX5_byTwo_77 : decode cX5_byTwo 77 = .ok (.iconst 0, 1) := by decide +kernel
theorem dX5_byTwo_78 : decode cX5_byTwo 78 = .ok (.ireturn, 1) := by decide +kernel
theorem dX5_byTwo_79 : decode cX5_byTwo 79 = .ok (.iload_n 1, 1) := by decide +kernel
theorem dX5_byTwo_80 : decode cX5_byTwo 80 = .ok (.iload_n 2, 1) := by decide +kernel
theorem dX5_byTwo_81 : decode cX5_byTwo 81 = .ok (.if_icmp .ne 7, 3) := by decide +kernel
theorem dX5_byTwo_84 : decode cX5_byTwo 84 = .ok (.iconst 1, 1) := by decide +kernel
theorem dX5_byTwo_85 : decode cX5_byTwo 85 = .ok (.goto 4, 3) := by decide +kernel
theorem dX5_byTwo_88 : decode cX5_byTwo 88 = .ok (.iconst 0, 1) := by decide +kernel
theorem dX5_byTwo_89 : decode cX5_byTwo 89 = .ok (.ireturn, 1) := by decide +kernel
theorem dX5_byTwo_90 : decode cX5_byTwo 90 = .ok (.iload_n 1, 1) := by decide +kernel
theorem dX5_byTwo_91 : decode cX5_byTwo 91 = .ok (.iload_n 2, 1) := by decide +kernel
theorem dX5_byTwo_92 : decode cX5_byTwo 92 = .ok (.iadd, 1) := by decide +kernel
theorem dX5_byTwo_93 : decode cX5_byTwo 93 = .ok (.ireturn, 1) := by decide +kernel
theorem dX5_byTwo_94 : decode cX5_byTwo 94 = .ok (.iload_n 1, 1) := by decide +kernel
theorem dX5_byTwo_95 : decode cX5_byTwo 95 = .ok (.iload_n 2, 1) := by decide +kernel
theorem dX5_byTwo_96 : decode cX5_byTwo 96 = .ok (.isub, 1) := by decide +kernel
theorem dX5_byTwo_97 : decode cX5_byTwo 97 = .ok (.ireturn, 1) := by decide +kernel
theorem dX5_byTwo_98 : decode cX5_byTwo 98 = .ok (.iload_n 1, 1) := by decide +kernel
theorem dX5_byTwo_99 : decode cX5_byTwo 99 = .ok (.iload_n 2, 1) := by decide +kernel
theorem dX5_byTwo_100 : decode cX5_byTwo 100 = .ok (.imul, 1) := by decide +kernel
theorem dX5_byTwo_101 : decode cX5_byTwo 101 = .ok (.ireturn, 1) := by decide +kernel
theorem dX6_init_0 : decode cX6_init 0 = .ok (.aload_n 0, 1) := by decide +kernel
theorem dX6_init_1 : decode cX6_init 1 = .ok (.invokespecial 3, 3) := by decide +kernel
theorem dX6_init_4 : decode cX6_init 4 = .ok (.aload_n 0, 1) := by decide +kernel
theorem dX6_init_5 : decode cX6_init 5 = .ok (.sipush 160, 3) := by decide +kernel
theorem dX6_init_8 : decode cX6_init 8 = .ok (.newarray .int, 2) := by decide +kernel
theorem dX6_init_10 : decode cX6_init 10 = .ok (.putfield 9, 3) := by decide +kernel
theorem dX6_init_13 : decode cX6_init 13 = .ok (.return_, 1) := by decide +kernel
theorem dX6_read_0 : decode cX6_read 0 = .ok (.aload_n 0, 1) := by decide +kernel
theorem dX6_read_1 : decode cX6_read 1 = .ok (.aload_n 1, 1) := by decide +kernel
theorem dX6_read_2 : decode cX6_read 2 = .ok (.putfield 15, 3) := by decide +kernel
theorem dX6_read_5 : decode cX6_read 5 = .ok (.aload_n 0, 1) := by decide +kernel
theorem dX6_read_6 : decode cX6_read 6 = .ok (.iconst 0, 1) := by decide +kernel
theorem dX6_read_7 : decode cX6_read 7 = .ok (.putfield 19, 3) := by decide +kernel
theorem dX6_read_10 : decode cX6_read 10 = .ok (.aload_n 0, 1) := by decide +kernel
theorem dX6_read_11 : decode cX6_read 11 = .ok (.iconst 0, 1) := by decide +kernel
theorem dX6_read_12 : decode cX6_read 12 = .ok (.putfield 23, 3) := by decide +kernel
theorem dX6_read_15 : decode cX6_read 15 = .ok (.aload_n 0, 1) := by decide +kernel
theorem dX6_read_16 : decode cX6_read 16 = .ok (.iconst (-1), 1) := by decide +kernel
theorem dX6_read_17 : decode cX6_read 17 = .ok (.putfield 26, 3) := by decide +kernel
theorem dX6_read_20 : decode cX6_read 20 = .ok (.iconst 4, 1) := by decide +kernel
theorem dX6_read_21 : decode cX6_read 21 = .ok (.newarray .int, 2) := by decide +kernel
theorem dX6_read_23 : decode cX6_read 23 = .ok (.astore_n 2, 1) := by decide +kernel
theorem dX6_read_24 : decode cX6_read 24 = .ok (.aload_n 0, 1) := by decide +kernel
theorem dX6_read_25 : decode cX6_read 25 = .ok (.invokevirtual 29, 3) := by decide +kernel
theorem dX6_read_28 : decode cX6_read 28 = .ok (.iconst 0, 1) := by decide +kernel
theorem dX6_read_29 : decode cX6_read 29 = .ok (.istore_n 3, 1) := by decide +kernel
theorem dX6_read_30 : decode cX6_read 30 = .ok (.iload_n 3, 1) := by decide +kernel
theorem dX6_read_31 : decode cX6_read 31 = .ok (.iconst 3, 1) := by decide +kernel
theorem dX6_read_32 : decode cX6_read 32 = .ok (.if_icmp .ge 34, 3) := by decide +kernel
theorem dX6_read_35 : decode cX6_read 35 = .ok (.aload_n 2, 1) := by decide +kernel
theorem dX6_read_36 : decode cX6_read 36 = .ok (.iload_n 3, 1) := by decide +kernel
theorem dX6_read_37 : decode cX6_read 37 = .ok (.aload_n 0, 1) := by decide +kernel
theorem dX6_read_38 : decode cX6_read 38 = .ok (.getfield 23, 3) := by decide +kernel
theorem dX6_read_41 : decode cX6_read 41 = .ok (.iastore, 1) := by decide +kernel
theorem dX6_read_42 : decode cX6_read 42 = .ok (.aload_n 0, 1) := by decide +kernel
theorem dX6_read_43 : decode cX6_read 43 = .ok (.iconst 4, 1) := by decide +kernel
theorem dX6_read_44 : decode cX6_read 44 = .ok (.iload_n 3, 1) := by decide +kernel
theorem dX6_read_45 : decode cX6_read 45 = .ok (.iadd, 1) := by decide +kernel
theorem dX6_read_46 : decode cX6_read 46 = .ok (.invokevirtual 32, 3) := by decide +kernel
theorem dX6_read_49 : decode cX6_read 49 = .ok (.aload_n 0, 1) := by decide +kernel
theorem dX6_read_50 : decode cX6_read 50 = .ok (.iconst 0, 1) := by decide +kernel
theorem dX6_read_51 : decode cX6_read 51 = .ok (.invokevirtual 36, 3) := by decide +kernel
theorem dX6_read_54 : decode cX6_read 54 = .ok (.aload_n 0, 1) := by decide +kernel
theorem dX6_read_55 : decode cX6_read 55 = .ok (.bipush 59, 2) := by decide +kernel
theorem dX6_read_57 : decode cX6_read 57 = .ok (.invokevirtual 32, 3) := by decide +kernel
theorem dX6_read_60 : decode cX6_read 60 = .ok (.iinc 3 1, 3) := by decide +kernel
theorem dX6_read_63 : decode cX6_read 63 = .ok (.goto (-33), 3) := by decide +kernel
theorem dX6_read_66 : decode cX6_read 66 = .ok (.aload_n 2, 1) := by decide +kernel
theorem dX6_read_67 : decode cX6_read 67 = .ok (.iconst 3, 1) := by decide +kernel
theorem dX6_read_68 : decode cX6_read 68 = .ok (.aload_n 0, 1) := by decide +kernel
theorem dX6_read_69 : decode cX6_read 69 = .ok (.getfield 23, 3) := by decide +kernel
theorem dX6_read_72 : decode cX6_read 72 = .ok (.iastore, 1) := by decide +kernel
theorem dX6_read_73 : decode cX6_read 73 = .ok (.aload_n 0, 1) := by decide +kernel
theorem dX6_read_74 : decode cX6_read 74 = .ok (.getfield 39, 3) := by decide +kernel
theorem dX6_read_77 : decode cX6_read 77 = .ok (.ifCond .eq 7, 3) := by decide +kernel
theorem dX6_read_80 : decode cX6_read 80 = .ok (.aload_n 0, 1) := by decide +kernel
theorem dX6_read_81 : decode cX6_read 81 = .ok (.invokevirtual 42, 3) := by decide +kernel
theorem dX6_read_84 : decode cX6_read 84 = .ok (.aload_n 0, 1) := by decide +kernel
theorem dX6_read_85 : decode cX6_read 85 = .ok (.getfield 26, 3) := by decide +kernel
theorem dX6_read_88 : decode cX6_read 88 = .ok (.iconst (-1), 1) := by decide +kernel
theorem dX6_read_89 : decode cX6_read 89 = .ok (.if_icmp .ne 25, 3) := by decide +kernel
theorem dX6_read_92 : decode cX6_read 92 = .ok (.new 45, 3) := by decide +kernel
theorem dX6_read_95 : decode cX6_read 95 = .ok (.dup, 1) := by decide +kernel
theorem dX6_read_96 : decode cX6_read 96 = .ok (.aload_n 0, 1) := by decide +kernel
theorem dX6_read_97 : decode cX6_read 97 = .ok (.getfield 9, 3) := by decide +kernel
theorem dX6_read_100 : decode cX6_read 100 = .ok (.aload_n 0, 1) := by decide +kernel
theorem dX6_read_101 : decode cX6_read 101 = .ok (.getfield 23, 3) := by decide +kernel
theorem dX6_read_104 : decode cX6_read 104 = .ok (.invokestatic 47, 3) := by decide +kernel
theorem dX6_read_107 : decode cX6_read 107 = .ok (.aload_n 2, 1) := by decide +kernel
theorem dX6_read_108 : decode cX6_read 108 = .ok (.invokespecial 53, 3) := by decide +kernel
theorem dX6_read_111 : decode cX6_read 111 = .ok (.goto 4, 3) := by decide +kernel
theorem dX6_read_114 : decode cX6_read 114 = .ok (.aconst_null, 1) := by decide +kernel
theorem dX6_read_115 : decode cX6_read 115 = .ok (.areturn, 1) := by decide +kernel
theorem dX6_refuse_0 : decode cX6_refuse 0 = .ok (.aload_n 0, 1) := by decide +kernel
theorem dX6_refuse_1 : decode cX6_refuse 1 = .ok (.getfield 26, 3) := by decide +kernel
theorem dX6_refuse_4 : decode cX6_refuse 4 = .ok (.iconst (-1), 1) := by decide +kernel
theorem dX6_refuse_5 : decode cX6_refuse 5 = .ok (.if_icmp .ne 11, 3) := by decide +kernel
theorem dX6_refuse_8 : decode cX6_refuse 8 = .ok (.aload_n 0, 1) := by decide +kernel
theorem dX6_refuse_9 : decode cX6_refuse 9 = .ok (.aload_n 0, 1) := by decide +kernel
theorem dX6_refuse_10 : decode cX6_refuse 10 = .ok (.getfield 56, 3) := by decide +kernel
theorem dX6_refuse_13 : decode cX6_refuse 13 = .ok (.putfield 26, 3) := by decide +kernel
theorem dX6_refuse_16 : decode cX6_refuse 16 = .ok (.aload_n 0, 1) := by decide +kernel
theorem dX6_refuse_17 : decode cX6_refuse 17 = .ok (.iconst 1, 1) := by decide +kernel
theorem dX6_refuse_18 : decode cX6_refuse 18 = .ok (.putfield 39, 3) := by decide +kernel
theorem dX6_refuse_21 : decode cX6_refuse 21 = .ok (.return_, 1) := by decide +kernel
theorem dX6_expect_0 : decode cX6_expect 0 = .ok (.aload_n 0, 1) := by decide +kernel
theorem dX6_expect_1 : decode cX6_expect 1 = .ok (.getfield 39, 3) := by decide +kernel
theorem dX6_expect_4 : decode cX6_expect 4 = .ok (.iload_n 1, 1) := by decide +kernel
theorem dX6_expect_5 : decode cX6_expect 5 = .ok (.if_icmp .ne 10, 3) := by decide +kernel
theorem dX6_expect_8 : decode cX6_expect 8 = .ok (.aload_n 0, 1) := by decide +kernel
theorem dX6_expect_9 : decode cX6_expect 9 = .ok (.invokevirtual 29, 3) := by decide +kernel
theorem dX6_expect_12 : decode cX6_expect 12 = .ok (.goto 7, 3) := by decide +kernel
theorem dX6_expect_15 : decode cX6_expect 15 = .ok (.aload_n 0, 1) := by decide +kernel
theorem dX6_expect_16 : decode cX6_expect 16 = .ok (.invokevirtual 42, 3) := by decide +kernel
theorem dX6_expect_19 : decode cX6_expect 19 = .ok (.return_, 1) := by decide +kernel
theorem dX6_write_0 : decode cX6_write 0 = .ok (.aload_n 0, 1) := by decide +kernel
theorem dX6_write_1 : decode cX6_write 1 = .ok (.getfield 23, 3) := by decide +kernel
theorem dX6_write_4 : decode cX6_write 4 = .ok (.aload_n 0, 1) := by decide +kernel
theorem dX6_write_5 : decode cX6_write 5 = .ok (.getfield 9, 3) := by decide +kernel
theorem dX6_write_8 : decode cX6_write 8 = .ok (.arraylength, 1) := by decide +kernel
theorem dX6_write_9 : decode cX6_write 9 = .ok (.if_icmp .ge 23, 3) := by decide +kernel
theorem dX6_write_12 : decode cX6_write 12 = .ok (.aload_n 0, 1) := by decide +kernel
theorem dX6_write_13 : decode cX6_write 13 = .ok (.getfield 9, 3) := by decide +kernel
theorem dX6_write_16 : decode cX6_write 16 = .ok (.aload_n 0, 1) := by decide +kernel
theorem dX6_write_17 : decode cX6_write 17 = .ok (.getfield 23, 3) := by decide +kernel
theorem dX6_write_20 : decode cX6_write 20 = .ok (.iload_n 1, 1) := by decide +kernel
theorem dX6_write_21 : decode cX6_write 21 = .ok (.iastore, 1) := by decide +kernel
theorem dX6_write_22 : decode cX6_write 22 = .ok (.aload_n 0, 1) := by decide +kernel
theorem dX6_write_23 : decode cX6_write 23 = .ok (.dup, 1) := by decide +kernel
theorem dX6_write_24 : decode cX6_write 24 = .ok (.getfield 23, 3) := by decide +kernel
theorem dX6_write_27 : decode cX6_write 27 = .ok (.iconst 1, 1) := by decide +kernel
theorem dX6_write_28 : decode cX6_write 28 = .ok (.iadd, 1) := by decide +kernel
theorem dX6_write_29 : decode cX6_write 29 = .ok (.putfield 23, 3) := by decide +kernel
theorem dX6_write_32 : decode cX6_write 32 = .ok (.return_, 1) := by decide +kernel
theorem dX6_readOr_0 : decode cX6_readOr 0 = .ok (.aload_n 0, 1) := by decide +kernel
theorem dX6_readOr_1 : decode cX6_readOr 1 = .ok (.iload_n 1, 1) := by decide +kernel
theorem dX6_readOr_2 : decode cX6_readOr 2 = .ok (.invokevirtual 59, 3) := by decide +kernel
theorem dX6_readOr_5 : decode cX6_readOr 5 = .ok (.iconst 0, 1) := by decide +kernel
theorem dX6_readOr_6 : decode cX6_readOr 6 = .ok (.istore_n 2, 1) := by decide +kernel
theorem dX6_readOr_7 : decode cX6_readOr 7 = .ok (.iload_n 2, 1) := by decide +kernel
theorem dX6_readOr_8 : decode cX6_readOr 8 = .ok (.sipush 160, 3) := by decide +kernel
theorem dX6_readOr_11 : decode cX6_readOr 11 = .ok (.if_icmp .ge 33, 3) := by decide +kernel
theorem dX6_readOr_14 : decode cX6_readOr 14 = .ok (.aload_n 0, 1) := by decide +kernel
theorem dX6_readOr_15 : decode cX6_readOr 15 = .ok (.getfield 39, 3) := by decide +kernel
theorem dX6_readOr_18 : decode cX6_readOr 18 = .ok (.bipush 7, 2) := by decide +kernel
theorem dX6_readOr_20 : decode cX6_readOr 20 = .ok (.if_icmp .ne 24, 3) := by decide +kernel
theorem dX6_readOr_23 : decode cX6_readOr 23 = .ok (.aload_n 0, 1) := by decide +kernel
theorem dX6_readOr_24 : decode cX6_readOr 24 = .ok (.invokevirtual 29, 3) := by decide +kernel
theorem dX6_readOr_27 : decode cX6_readOr 27 = .ok (.aload_n 0, 1) := by decide +kernel
theorem dX6_readOr_28 : decode cX6_readOr 28 = .ok (.iload_n 1, 1) := by decide +kernel
theorem dX6_readOr_29 : decode cX6_readOr 29 = .ok (.invokevirtual 59, 3) := by decide +kernel
theorem dX6_readOr_32 : decode cX6_readOr 32 = .ok (.aload_n 0, 1) := by decide +kernel
theorem dX6_readOr_33 : decode cX6_readOr 33 = .ok (.bipush (-21), 2) := by decide +kernel
theorem dX6_readOr_35 : decode cX6_readOr 35 = .ok (.invokevirtual 62, 3) := by decide +kernel
theorem dX6_readOr_38 : decode cX6_readOr 38 = .ok (.iinc 2 1, 3) := by decide +kernel
theorem dX6_readOr_41 : decode cX6_readOr 41 = .ok (.goto (-34), 3) := by decide +kernel
theorem dX6_readOr_44 : decode cX6_readOr 44 = .ok (.return_, 1) := by decide +kernel
theorem dX6_readAnd_0 : decode cX6_readAnd 0 = .ok (.aload_n 0, 1) := by decide +kernel
theorem dX6_readAnd_1 : decode cX6_readAnd 1 = .ok (.iload_n 1, 1) := by decide +kernel
theorem dX6_readAnd_2 : decode cX6_readAnd 2 = .ok (.invokevirtual 65, 3) := by decide +kernel
theorem dX6_readAnd_5 : decode cX6_readAnd 5 = .ok (.iconst 0, 1) := by decide +kernel
theorem dX6_readAnd_6 : decode cX6_readAnd 6 = .ok (.istore_n 2, 1) := by decide +kernel
theorem dX6_readAnd_7 : decode cX6_readAnd 7 = .ok (.iload_n 2, 1) := by decide +kernel
theorem dX6_readAnd_8 : decode cX6_readAnd 8 = .ok (.sipush 160, 3) := by decide +kernel
theorem dX6_readAnd_11 : decode cX6_readAnd 11 = .ok (.if_icmp .ge 33, 3) := by decide +kernel
theorem dX6_readAnd_14 : decode cX6_readAnd 14 = .ok (.aload_n 0, 1) := by decide +kernel
theorem dX6_readAnd_15 : decode cX6_readAnd 15 = .ok (.getfield 39, 3) := by decide +kernel
theorem dX6_readAnd_18 : decode cX6_readAnd 18 = .ok (.bipush 8, 2) := by decide +kernel
theorem dX6_readAnd_20 : decode cX6_readAnd 20 = .ok (.if_icmp .ne 24, 3) := by decide +kernel
theorem dX6_readAnd_23 : decode cX6_readAnd 23 = .ok (.aload_n 0, 1) := by decide +kernel
theorem dX6_readAnd_24 : decode cX6_readAnd 24 = .ok (.invokevirtual 29, 3) := by decide +kernel
theorem dX6_readAnd_27 : decode cX6_readAnd 27 = .ok (.aload_n 0, 1) := by decide +kernel
theorem dX6_readAnd_28 : decode cX6_readAnd 28 = .ok (.iload_n 1, 1) := by decide +kernel
theorem dX6_readAnd_29 : decode cX6_readAnd 29 = .ok (.invokevirtual 65, 3) := by decide +kernel
theorem dX6_readAnd_32 : decode cX6_readAnd 32 = .ok (.aload_n 0, 1) := by decide +kernel
theorem dX6_readAnd_33 : decode cX6_readAnd 33 = .ok (.bipush (-22), 2) := by decide +kernel
theorem dX6_readAnd_35 : decode cX6_readAnd 35 = .ok (.invokevirtual 62, 3) := by decide +kernel
theorem dX6_readAnd_38 : decode cX6_readAnd 38 = .ok (.iinc 2 1, 3) := by decide +kernel
theorem dX6_readAnd_41 : decode cX6_readAnd 41 = .ok (.goto (-34), 3) := by decide +kernel
theorem dX6_readAnd_44 : decode cX6_readAnd 44 = .ok (.return_, 1) := by decide +kernel
theorem dX6_readNot_0 : decode cX6_readNot 0 = .ok (.aload_n 0, 1) := by decide +kernel
theorem dX6_readNot_1 : decode cX6_readNot 1 = .ok (.getfield 39, 3) := by decide +kernel
theorem dX6_readNot_4 : decode cX6_readNot 4 = .ok (.bipush 9, 2) := by decide +kernel
theorem dX6_readNot_6 : decode cX6_readNot 6 = .ok (.if_icmp .ne 26, 3) := by decide +kernel
theorem dX6_readNot_9 : decode cX6_readNot 9 = .ok (.iload_n 1, 1) := by decide +kernel
theorem dX6_readNot_10 : decode cX6_readNot 10 = .ok (.iconst 5, 1) := by decide +kernel
theorem dX6_readNot_11 : decode cX6_readNot 11 = .ok (.if_icmp .ge 21, 3) := by decide +kernel
theorem dX6_readNot_14 : decode cX6_readNot 14 = .ok (.aload_n 0, 1) := by decide +kernel
theorem dX6_readNot_15 : decode cX6_readNot 15 = .ok (.invokevirtual 29, 3) := by decide +kernel
theorem dX6_readNot_18 : decode cX6_readNot 18 = .ok (.aload_n 0, 1) := by decide +kernel
theorem dX6_readNot_19 : decode cX6_readNot 19 = .ok (.iload_n 1, 1) := by decide +kernel
theorem dX6_readNot_20 : decode cX6_readNot 20 = .ok (.iconst 1, 1) := by decide +kernel
theorem dX6_readNot_21 : decode cX6_readNot 21 = .ok (.iadd, 1) := by decide +kernel
theorem dX6_readNot_22 : decode cX6_readNot 22 = .ok (.invokevirtual 65, 3) := by decide +kernel
theorem dX6_readNot_25 : decode cX6_readNot 25 = .ok (.aload_n 0, 1) := by decide +kernel
theorem dX6_readNot_26 : decode cX6_readNot 26 = .ok (.bipush (-12), 2) := by decide +kernel
theorem dX6_readNot_28 : decode cX6_readNot 28 = .ok (.invokevirtual 62, 3) := by decide +kernel
theorem dX6_readNot_31 : decode cX6_readNot 31 = .ok (.return_, 1) := by decide +kernel
theorem dX6_readNot_32 : decode cX6_readNot 32 = .ok (.aload_n 0, 1) := by decide +kernel
theorem dX6_readNot_33 : decode cX6_readNot 33 = .ok (.iload_n 1, 1) := by decide +kernel
theorem dX6_readNot_34 : decode cX6_readNot 34 = .ok (.invokevirtual 68, 3) := by decide +kernel
theorem dX6_readNot_37 : decode cX6_readNot 37 = .ok (.aload_n 0, 1) := by decide +kernel
theorem dX6_readNot_38 : decode cX6_readNot 38 = .ok (.getfield 39, 3) := by decide +kernel
theorem dX6_readNot_41 : decode cX6_readNot 41 = .ok (.bipush 60, 2) := by decide +kernel
theorem dX6_readNot_43 : decode cX6_readNot 43 = .ok (.if_icmp .eq 12, 3) := by decide +kernel
theorem dX6_readNot_46 : decode cX6_readNot 46 = .ok (.aload_n 0, 1) := by decide +kernel
theorem dX6_readNot_47 : decode cX6_readNot 47 = .ok (.getfield 39, 3) := by decide +kernel
theorem dX6_readNot_50 : decode cX6_readNot 50 = .ok (.bipush 61, 2) := by decide +kernel
theorem dX6_readNot_52 : decode cX6_readNot 52 = .ok (.if_icmp .ne 34, 3) := by decide +kernel
theorem dX6_readNot_55 : decode cX6_readNot 55 = .ok (.aload_n 0, 1) := by decide +kernel
theorem dX6_readNot_56 : decode cX6_readNot 56 = .ok (.getfield 39, 3) := by decide +kernel
theorem dX6_readNot_59 : decode cX6_readNot 59 = .ok (.bipush 60, 2) := by decide +kernel
theorem dX6_readNot_61 : decode cX6_readNot 61 = .ok (.if_icmp .ne 8, 3) := by decide +kernel
theorem dX6_readNot_64 : decode cX6_readNot 64 = .ok (.bipush (-23), 2) := by decide +kernel
theorem dX6_readNot_66 : decode cX6_readNot 66 = .ok (.goto 5, 3) := by decide +kernel
theorem dX6_readNot_69 : decode cX6_readNot 69 = .ok (.bipush (-24), 2) := by decide +kernel
theorem dX6_readNot_71 : decode cX6_readNot 71 = .ok (.istore_n 2, 1) := by decide +kernel
theorem dX6_readNot_72 : decode cX6_readNot 72 = .ok (.aload_n 0, 1) := by decide +kernel
theorem dX6_readNot_73 : decode cX6_readNot 73 = .ok (.invokevirtual 29, 3) := by decide +kernel
theorem dX6_readNot_76 : decode cX6_readNot 76 = .ok (.aload_n 0, 1) := by decide +kernel
theorem dX6_readNot_77 : decode cX6_readNot 77 = .ok (.iload_n 1, 1) := by decide +kernel
theorem dX6_readNot_78 : decode cX6_readNot 78 = .ok (.invokevirtual 68, 3) := by decide +kernel
theorem dX6_readNot_81 : decode cX6_readNot 81 = .ok (.aload_n 0, 1) := by decide +kernel
theorem dX6_readNot_82 : decode cX6_readNot 82 = .ok (.iload_n 2, 1) := by decide +kernel
theorem dX6_readNot_83 : decode cX6_readNot 83 = .ok (.invokevirtual 62, 3) := by decide +kernel
theorem dX6_readNot_86 : decode cX6_readNot 86 = .ok (.return_, 1) := by decide +kernel
theorem dX6_readSum_0 : decode cX6_readSum 0 = .ok (.aload_n 0, 1) := by decide +kernel
theorem dX6_readSum_1 : decode cX6_readSum 1 = .ok (.iload_n 1, 1) := by decide +kernel
theorem dX6_readSum_2 : decode cX6_readSum 2 = .ok (.invokevirtual 71, 3) := by decide +kernel
theorem dX6_readSum_5 : decode cX6_readSum 5 = .ok (.iconst 0, 1) := by decide +kernel
theorem dX6_readSum_6 : decode cX6_readSum 6 = .ok (.istore_n 2, 1) := by decide +kernel
theorem dX6_readSum_7 : decode cX6_readSum 7 = .ok (.iload_n 2, 1) := by decide +kernel
theorem dX6_readSum_8 : decode cX6_readSum 8 = .ok (.sipush 160, 3) := by decide +kernel
theorem dX6_readSum_11 : decode cX6_readSum 11 = .ok (.if_icmp .ge 58, 3) := by decide +kernel
theorem dX6_readSum_14 : decode cX6_readSum 14 = .ok (.aload_n 0, 1) := by decide +kernel
theorem dX6_readSum_15 : decode cX6_readSum 15 = .ok (.getfield 39, 3) := by decide +kernel
theorem dX6_readSum_18 : decode cX6_readSum 18 = .ok (.bipush 43, 2) := by decide +kernel
theorem dX6_readSum_20 : decode cX6_readSum 20 = .ok (.if_icmp .eq 12, 3) := by decide +kernel
theorem dX6_readSum_23 : decode cX6_readSum 23 = .ok (.aload_n 0, 1) := by decide +kernel
theorem dX6_readSum_24 : decode cX6_readSum 24 = .ok (.getfield 39, 3) := by decide +kernel
theorem dX6_readSum_27 : decode cX6_readSum 27 = .ok (.bipush 45, 2) := by decide +kernel
theorem dX6_readSum_29 : decode cX6_readSum 29 = .ok (.if_icmp .ne 40, 3) := by decide +kernel
theorem dX6_readSum_32 : decode cX6_readSum 32 = .ok (.aload_n 0, 1) := by decide +kernel
theorem dX6_readSum_33 : decode cX6_readSum 33 = .ok (.getfield 39, 3) := by decide +kernel
theorem dX6_readSum_36 : decode cX6_readSum 36 = .ok (.bipush 43, 2) := by decide +kernel
theorem dX6_readSum_38 : decode cX6_readSum 38 = .ok (.if_icmp .ne 8, 3) := by decide +kernel
theorem dX6_readSum_41 : decode cX6_readSum 41 = .ok (.bipush (-25), 2) := by decide +kernel
theorem dX6_readSum_43 : decode cX6_readSum 43 = .ok (.goto 5, 3) := by decide +kernel
theorem dX6_readSum_46 : decode cX6_readSum 46 = .ok (.bipush (-26), 2) := by decide +kernel
theorem dX6_readSum_48 : decode cX6_readSum 48 = .ok (.istore_n 3, 1) := by decide +kernel
theorem dX6_readSum_49 : decode cX6_readSum 49 = .ok (.aload_n 0, 1) := by decide +kernel
theorem dX6_readSum_50 : decode cX6_readSum 50 = .ok (.invokevirtual 29, 3) := by decide +kernel
theorem dX6_readSum_53 : decode cX6_readSum 53 = .ok (.aload_n 0, 1) := by decide +kernel
theorem dX6_readSum_54 : decode cX6_readSum 54 = .ok (.iload_n 1, 1) := by decide +kernel
theorem dX6_readSum_55 : decode cX6_readSum 55 = .ok (.invokevirtual 71, 3) := by decide +kernel
theorem dX6_readSum_58 : decode cX6_readSum 58 = .ok (.aload_n 0, 1) := by decide +kernel
theorem dX6_readSum_59 : decode cX6_readSum 59 = .ok (.iload_n 3, 1) := by decide +kernel
theorem dX6_readSum_60 : decode cX6_readSum 60 = .ok (.invokevirtual 62, 3) := by decide +kernel
theorem dX6_readSum_63 : decode cX6_readSum 63 = .ok (.iinc 2 1, 3) := by decide +kernel
theorem dX6_readSum_66 : decode cX6_readSum 66 = .ok (.goto (-59), 3) := by decide +kernel
theorem dX6_readSum_69 : decode cX6_readSum 69 = .ok (.return_, 1) := by decide +kernel
theorem dX6_readTerm_0 : decode cX6_readTerm 0 = .ok (.aload_n 0, 1) := by decide +kernel
theorem dX6_readTerm_1 : decode cX6_readTerm 1 = .ok (.iload_n 1, 1) := by decide +kernel
theorem dX6_readTerm_2 : decode cX6_readTerm 2 = .ok (.invokevirtual 74, 3) := by decide +kernel
theorem dX6_readTerm_5 : decode cX6_readTerm 5 = .ok (.iconst 0, 1) := by decide +kernel
theorem dX6_readTerm_6 : decode cX6_readTerm 6 = .ok (.istore_n 2, 1) := by decide +kernel
theorem dX6_readTerm_7 : decode cX6_readTerm 7 = .ok (.iload_n 2, 1) := by decide +kernel
theorem dX6_readTerm_8 : decode cX6_readTerm 8 = .ok (.sipush 160, 3) := by decide +kernel
theorem dX6_readTerm_11 : decode cX6_readTerm 11 = .ok (.if_icmp .ge 33, 3) := by decide +kernel
theorem dX6_readTerm_14 : decode cX6_readTerm 14 = .ok (.aload_n 0, 1) := by decide +kernel
theorem dX6_readTerm_15 : decode cX6_readTerm 15 = .ok (.getfield 39, 3) := by decide +kernel
theorem dX6_readTerm_18 : decode cX6_readTerm 18 = .ok (.bipush 42, 2) := by decide +kernel
theorem dX6_readTerm_20 : decode cX6_readTerm 20 = .ok (.if_icmp .ne 24, 3) := by decide +kernel
theorem dX6_readTerm_23 : decode cX6_readTerm 23 = .ok (.aload_n 0, 1) := by decide +kernel
theorem dX6_readTerm_24 : decode cX6_readTerm 24 = .ok (.invokevirtual 29, 3) := by decide +kernel
theorem dX6_readTerm_27 : decode cX6_readTerm 27 = .ok (.aload_n 0, 1) := by decide +kernel
theorem dX6_readTerm_28 : decode cX6_readTerm 28 = .ok (.iload_n 1, 1) := by decide +kernel
theorem dX6_readTerm_29 : decode cX6_readTerm 29 = .ok (.invokevirtual 74, 3) := by decide +kernel
theorem dX6_readTerm_32 : decode cX6_readTerm 32 = .ok (.aload_n 0, 1) := by decide +kernel
theorem dX6_readTerm_33 : decode cX6_readTerm 33 = .ok (.bipush (-27), 2) := by decide +kernel
theorem dX6_readTerm_35 : decode cX6_readTerm 35 = .ok (.invokevirtual 62, 3) := by decide +kernel
theorem dX6_readTerm_38 : decode cX6_readTerm 38 = .ok (.iinc 2 1, 3) := by decide +kernel
theorem dX6_readTerm_41 : decode cX6_readTerm 41 = .ok (.goto (-34), 3) := by decide +kernel
theorem dX6_readTerm_44 : decode cX6_readTerm 44 = .ok (.return_, 1) := by decide +kernel
theorem dX6_readOne_0 : decode cX6_readOne 0 = .ok (.aload_n 0, 1) := by decide +kernel
theorem dX6_readOne_1 : decode cX6_readOne 1 = .ok (.getfield 39, 3) := by decide +kernel
theorem dX6_readOne_4 : decode cX6_readOne 4 = .ok (.iconst 2, 1) := by decide +kernel
theorem dX6_readOne_5 : decode cX6_readOne 5 = .ok (.if_icmp .eq 11, 3) := by decide +kernel
theorem dX6_readOne_8 : decode cX6_readOne 8 = .ok (.aload_n 0, 1) := by decide +kernel
theorem dX6_readOne_9 : decode cX6_readOne 9 = .ok (.getfield 39, 3) := by decide +kernel
theorem dX6_readOne_12 : decode cX6_readOne 12 = .ok (.iconst 3, 1) := by decide +kernel
theorem dX6_readOne_13 : decode cX6_readOne 13 = .ok (.if_icmp .ne 18, 3) := by decide +kernel
theorem dX6_readOne_16 : decode cX6_readOne 16 = .ok (.aload_n 0, 1) := by decide +kernel
theorem dX6_readOne_17 : decode cX6_readOne 17 = .ok (.aload_n 0, 1) := by decide +kernel
theorem dX6_readOne_18 : decode cX6_readOne 18 = .ok (.getfield 77, 3) := by decide +kernel
theorem dX6_readOne_21 : decode cX6_readOne 21 = .ok (.invokevirtual 62, 3) := by decide +kernel
theorem dX6_readOne_24 : decode cX6_readOne 24 = .ok (.aload_n 0, 1) := by decide +kernel
theorem dX6_readOne_25 : decode cX6_readOne 25 = .ok (.invokevirtual 29, 3) := by decide +kernel
theorem dX6_readOne_28 : decode cX6_readOne 28 = .ok (.goto 75, 3) := by decide +kernel
theorem dX6_readOne_31 : decode cX6_readOne 31 = .ok (.aload_n 0, 1) := by decide +kernel
theorem dX6_readOne_32 : decode cX6_readOne 32 = .ok (.getfield 39, 3) := by decide +kernel
theorem dX6_readOne_35 : decode cX6_readOne 35 = .ok (.bipush 45, 2) := by decide +kernel
theorem dX6_readOne_37 : decode cX6_readOne 37 = .ok (.if_icmp .ne 28, 3) := by decide +kernel
theorem dX6_readOne_40 : decode cX6_readOne 40 = .ok (.iload_n 1, 1) := by decide +kernel
theorem dX6_readOne_41 : decode cX6_readOne 41 = .ok (.iconst 5, 1) := by decide +kernel
theorem dX6_readOne_42 : decode cX6_readOne 42 = .ok (.if_icmp .ge 23, 3) := by decide +kernel
theorem dX6_readOne_45 : decode cX6_readOne 45 = .ok (.aload_n 0, 1) := by decide +kernel
theorem dX6_readOne_46 : decode cX6_readOne 46 = .ok (.invokevirtual 29, 3) := by decide +kernel
theorem dX6_readOne_49 : decode cX6_readOne 49 = .ok (.aload_n 0, 1) := by decide +kernel
theorem dX6_readOne_50 : decode cX6_readOne 50 = .ok (.iload_n 1, 1) := by decide +kernel
theorem dX6_readOne_51 : decode cX6_readOne 51 = .ok (.iconst 1, 1) := by decide +kernel
theorem dX6_readOne_52 : decode cX6_readOne 52 = .ok (.iadd, 1) := by decide +kernel
theorem dX6_readOne_53 : decode cX6_readOne 53 = .ok (.invokevirtual 74, 3) := by decide +kernel
theorem dX6_readOne_56 : decode cX6_readOne 56 = .ok (.aload_n 0, 1) := by decide +kernel
theorem dX6_readOne_57 : decode cX6_readOne 57 = .ok (.bipush (-11), 2) := by decide +kernel
theorem dX6_readOne_59 : decode cX6_readOne 59 = .ok (.invokevirtual 62, 3) := by decide +kernel
theorem dX6_readOne_62 : decode cX6_readOne 62 = .ok (.goto 41, 3) := by decide +kernel
theorem dX6_readOne_65 : decode cX6_readOne 65 = .ok (.aload_n 0, 1) := by decide +kernel
theorem dX6_readOne_66 : decode cX6_readOne 66 = .ok (.getfield 39, 3) := by decide +kernel
theorem dX6_readOne_69 : decode cX6_readOne 69 = .ok (.bipush 40, 2) := by decide +kernel
theorem dX6_readOne_71 : decode cX6_readOne 71 = .ok (.if_icmp .ne 28, 3) := by decide +kernel
theorem dX6_readOne_74 : decode cX6_readOne 74 = .ok (.iload_n 1, 1) := by decide +kernel
theorem dX6_readOne_75 : decode cX6_readOne 75 = .ok (.iconst 5, 1) := by decide +kernel
theorem dX6_readOne_76 : decode cX6_readOne 76 = .ok (.if_icmp .ge 23, 3) := by decide +kernel
theorem dX6_readOne_79 : decode cX6_readOne 79 = .ok (.aload_n 0, 1) := by decide +kernel
theorem dX6_readOne_80 : decode cX6_readOne 80 = .ok (.invokevirtual 29, 3) := by decide +kernel
theorem dX6_readOne_83 : decode cX6_readOne 83 = .ok (.aload_n 0, 1) := by decide +kernel
theorem dX6_readOne_84 : decode cX6_readOne 84 = .ok (.iload_n 1, 1) := by decide +kernel
theorem dX6_readOne_85 : decode cX6_readOne 85 = .ok (.iconst 1, 1) := by decide +kernel
theorem dX6_readOne_86 : decode cX6_readOne 86 = .ok (.iadd, 1) := by decide +kernel
theorem dX6_readOne_87 : decode cX6_readOne 87 = .ok (.invokevirtual 36, 3) := by decide +kernel
theorem dX6_readOne_90 : decode cX6_readOne 90 = .ok (.aload_n 0, 1) := by decide +kernel
theorem dX6_readOne_91 : decode cX6_readOne 91 = .ok (.bipush 41, 2) := by decide +kernel
theorem dX6_readOne_93 : decode cX6_readOne 93 = .ok (.invokevirtual 32, 3) := by decide +kernel
theorem dX6_readOne_96 : decode cX6_readOne 96 = .ok (.goto 7, 3) := by decide +kernel
theorem dX6_readOne_99 : decode cX6_readOne 99 = .ok (.aload_n 0, 1) := by decide +kernel
theorem dX6_readOne_100 : decode cX6_readOne 100 = .ok (.invokevirtual 42, 3) := by decide +kernel
theorem dX6_readOne_103 : decode cX6_readOne 103 = .ok (.return_, 1) := by decide +kernel
theorem dX6_advance_0 : decode cX6_advance 0 = .ok (.aload_n 0, 1) := by decide +kernel
theorem dX6_advance_1 : decode cX6_advance 1 = .ok (.getfield 26, 3) := by decide +kernel
theorem dX6_advance_4 : decode cX6_advance 4 = .ok (.iconst (-1), 1) := by decide +kernel
theorem dX6_advance_5 : decode cX6_advance 5 = .ok (.if_icmp .eq 4, 3) := by decide +kernel
theorem dX6_advance_8 : decode cX6_advance 8 = .ok (.return_, 1) := by decide +kernel
theorem dX6_advance_9 : decode cX6_advance 9 = .ok (.iconst 0, 1) := by decide +kernel
theorem dX6_advance_10 : decode cX6_advance 10 = .ok (.istore_n 1, 1) := by decide +kernel
theorem dX6_advance_11 : decode cX6_advance 11 = .ok (.iload_n 1, 1) := by decide +kernel
theorem dX6_advance_12 : decode cX6_advance 12 = .ok (.sipush 160, 3) := by decide +kernel
theorem dX6_advance_15 : decode cX6_advance 15 = .ok (.if_icmp .ge 36, 3) := by decide +kernel
theorem dX6_advance_18 : decode cX6_advance 18 = .ok (.aload_n 0, 1) := by decide +kernel
theorem dX6_advance_19 : decode cX6_advance 19 = .ok (.getfield 15, 3) := by decide +kernel
theorem dX6_advance_22 : decode cX6_advance 22 = .ok (.aload_n 0, 1) := by decide +kernel
theorem dX6_advance_23 : decode cX6_advance 23 = .ok (.getfield 19, 3) := by decide +kernel
theorem dX6_advance_26 : decode cX6_advance 26 = .ok (.invokevirtual 80, 3) := by decide +kernel
theorem dX6_advance_29 : decode cX6_advance 29 = .ok (.invokestatic 86, 3) := by decide +kernel
theorem dX6_advance_32 : decode cX6_advance 32 = .ok (.ifCond .eq 19, 3) := by decide +kernel
theorem dX6_advance_35 : decode cX6_advance 35 = .ok (.aload_n 0, 1) := by decide +kernel
theorem dX6_advance_36 : decode cX6_advance 36 = .ok (.dup, 1) := by decide +kernel
theorem dX6_advance_37 : decode cX6_advance 37 = .ok (.getfield 19, 3) := by decide +kernel
theorem dX6_advance_40 : decode cX6_advance 40 = .ok (.iconst 1, 1) := by decide +kernel
theorem dX6_advance_41 : decode cX6_advance 41 = .ok (.iadd, 1) := by decide +kernel
theorem dX6_advance_42 : decode cX6_advance 42 = .ok (.putfield 19, 3) := by decide +kernel
theorem dX6_advance_45 : decode cX6_advance 45 = .ok (.iinc 1 1, 3) := by decide +kernel
theorem dX6_advance_48 : decode cX6_advance 48 = .ok (.goto (-37), 3) := by decide +kernel
theorem dX6_advance_51 : decode cX6_advance 51 = .ok (.aload_n 0, 1) := by decide +kernel
theorem dX6_advance_52 : decode cX6_advance 52 = .ok (.aload_n 0, 1) := by decide +kernel
theorem dX6_advance_53 : decode cX6_advance 53 = .ok (.getfield 19, 3) := by decide +kernel
theorem dX6_advance_56 : decode cX6_advance 56 = .ok (.putfield 56, 3) := by decide +kernel
theorem dX6_advance_59 : decode cX6_advance 59 = .ok (.aload_n 0, 1) := by decide +kernel
theorem dX6_advance_60 : decode cX6_advance 60 = .ok (.getfield 15, 3) := by decide +kernel
theorem dX6_advance_63 : decode cX6_advance 63 = .ok (.aload_n 0, 1) := by decide +kernel
theorem dX6_advance_64 : decode cX6_advance 64 = .ok (.getfield 19, 3) := by decide +kernel
theorem dX6_advance_67 : decode cX6_advance 67 = .ok (.invokevirtual 80, 3) := by decide +kernel
theorem dX6_advance_70 : decode cX6_advance 70 = .ok (.istore_n 1, 1) := by decide +kernel
theorem dX6_advance_71 : decode cX6_advance 71 = .ok (.iload_n 1, 1) := by decide +kernel
theorem dX6_advance_72 : decode cX6_advance 72 = .ok (.iconst (-1), 1) := by decide +kernel
theorem dX6_advance_73 : decode cX6_advance 73 = .ok (.if_icmp .ne 11, 3) := by decide +kernel
theorem dX6_advance_76 : decode cX6_advance 76 = .ok (.aload_n 0, 1) := by decide +kernel
theorem dX6_advance_77 : decode cX6_advance 77 = .ok (.iconst 0, 1) := by decide +kernel
theorem dX6_advance_78 : decode cX6_advance 78 = .ok (.putfield 39, 3) := by decide +kernel
theorem dX6_advance_81 : decode cX6_advance 81 = .ok (.goto 68, 3) := by decide +kernel
theorem dX6_advance_84 : decode cX6_advance 84 = .ok (.iload_n 1, 1) := by decide +kernel
theorem dX6_advance_85 : decode cX6_advance 85 = .ok (.invokestatic 90, 3) := by decide +kernel
theorem dX6_advance_88 : decode cX6_advance 88 = .ok (.ifCond .eq 14, 3) := by decide +kernel
theorem dX6_advance_91 : decode cX6_advance 91 = .ok (.aload_n 0, 1) := by decide +kernel
theorem dX6_advance_92 : decode cX6_advance 92 = .ok (.aload_n 0, 1) := by decide +kernel
theorem dX6_advance_93 : decode cX6_advance 93 = .ok (.invokevirtual 93, 3) := by decide +kernel
theorem dX6_advance_96 : decode cX6_advance 96 = .ok (.putfield 39, 3) := by decide +kernel
theorem dX6_advance_99 : decode cX6_advance 99 = .ok (.goto 50, 3) := by decide +kernel
theorem dX6_advance_102 : decode cX6_advance 102 = .ok (.iload_n 1, 1) := by decide +kernel
theorem dX6_advance_103 : decode cX6_advance 103 = .ok (.invokestatic 97, 3) := by decide +kernel
theorem dX6_advance_106 : decode cX6_advance 106 = .ok (.ifCond .eq 14, 3) := by decide +kernel
theorem dX6_advance_109 : decode cX6_advance 109 = .ok (.aload_n 0, 1) := by decide +kernel
theorem dX6_advance_110 : decode cX6_advance 110 = .ok (.aload_n 0, 1) := by decide +kernel
theorem dX6_advance_111 : decode cX6_advance 111 = .ok (.invokevirtual 100, 3) := by decide +kernel
theorem dX6_advance_114 : decode cX6_advance 114 = .ok (.putfield 39, 3) := by decide +kernel
theorem dX6_advance_117 : decode cX6_advance 117 = .ok (.goto 32, 3) := by decide +kernel
theorem dX6_advance_120 : decode cX6_advance 120 = .ok (.aload_n 0, 1) := by decide +kernel
theorem dX6_advance_121 : decode cX6_advance 121 = .ok (.dup, 1) := by decide +kernel
theorem dX6_advance_122 : decode cX6_advance 122 = .ok (.getfield 19, 3) := by decide +kernel
theorem dX6_advance_125 : decode cX6_advance 125 = .ok (.iconst 1, 1) := by decide +kernel
theorem dX6_advance_126 : decode cX6_advance 126 = .ok (.iadd, 1) := by decide +kernel
theorem dX6_advance_127 : decode cX6_advance 127 = .ok (.putfield 19, 3) := by decide +kernel
theorem dX6_advance_130 : decode cX6_advance 130 = .ok (.aload_n 0, 1) := by decide +kernel
theorem dX6_advance_131 : decode cX6_advance 131 = .ok (.ldc 103, 2) := by decide +kernel
theorem dX6_advance_133 : decode cX6_advance 133 = .ok (.iload_n 1, 1) := by decide +kernel
theorem dX6_advance_134 : decode cX6_advance 134 = .ok (.i2c, 1) := by decide +kernel
theorem dX6_advance_135 : decode cX6_advance 135 = .ok (.invokevirtual 105, 3) := by decide +kernel
theorem dX6_advance_138 : decode cX6_advance 138 = .ok (.ifCond .lt 7, 3) := by decide +kernel
theorem dX6_advance_141 : decode cX6_advance 141 = .ok (.iload_n 1, 1) := by decide +kernel
theorem dX6_advance_142 : decode cX6_advance 142 = .ok (.goto 4, 3) := by decide +kernel
theorem dX6_advance_145 : decode cX6_advance 145 = .ok (.iconst 1, 1) := by decide +kernel
theorem dX6_advance_146 : decode cX6_advance 146 = .ok (.putfield 39, 3) := by decide +kernel
theorem dX6_advance_149 : decode cX6_advance 149 = .ok (.return_, 1) := by decide +kernel
theorem dX6_numberToken_0 : decode cX6_numberToken 0 = .ok (.aload_n 0, 1) := by decide +kernel
theorem dX6_numberToken_1 : decode cX6_numberToken 1 = .ok (.iconst 0, 1) := by decide +kernel
theorem dX6_numberToken_2 : decode cX6_numberToken 2 = .ok (.putfield 77, 3) := by decide +kernel
theorem dX6_numberToken_5 : decode cX6_numberToken 5 = .ok (.iconst 0, 1) := by decide +kernel
theorem dX6_numberToken_6 : decode cX6_numberToken 6 = .ok (.istore_n 1, 1) := by decide +kernel
theorem dX6_numberToken_7 : decode cX6_numberToken 7 = .ok (.iload_n 1, 1) := by decide +kernel
theorem dX6_numberToken_8 : decode cX6_numberToken 8 = .ok (.iconst 4, 1) := by decide +kernel
theorem dX6_numberToken_9 : decode cX6_numberToken 9 = .ok (.if_icmp .ge 62, 3) := by decide +kernel
theorem dX6_numberToken_12 : decode cX6_numberToken 12 = .ok (.aload_n 0, 1) := by decide +kernel
theorem dX6_numberToken_13 : decode cX6_numberToken 13 = .ok (.getfield 15, 3) := by decide +kernel
theorem dX6_numberToken_16 : decode cX6_numberToken 16 = .ok (.aload_n 0, 1) := by decide +kernel
theorem dX6_numberToken_17 : decode cX6_numberToken 17 = .ok (.getfield 19, 3) := by decide +kernel
theorem dX6_numberToken_20 : decode cX6_numberToken 20 = .ok (.invokevirtual 80, 3) := by decide +kernel
theorem dX6_numberToken_23 : decode cX6_numberToken 23 = .ok (.invokestatic 97, 3) := by decide +kernel
theorem dX6_numberToken_26 : decode cX6_numberToken 26 = .ok (.ifCond .eq 45, 3) := by decide +kernel
theorem dX6_numberToken_29 : decode cX6_numberToken 29 = .ok (.aload_n 0, 1) := by decide +kernel
theorem dX6_numberToken_30 : decode cX6_numberToken 30 = .ok (.aload_n 0, 1) := by decide +kernel
theorem dX6_numberToken_31 : decode cX6_numberToken 31 = .ok (.getfield 77, 3) := by decide +kernel
theorem dX6_numberToken_34 : decode cX6_numberToken 34 = .ok (.bipush 10, 2) := by decide +kernel
theorem dX6_numberToken_36 : decode cX6_numberToken 36 = .ok (.imul, 1) := by decide +kernel
theorem dX6_numberToken_37 : decode cX6_numberToken 37 = .ok (.aload_n 0, 1) := by decide +kernel
theorem dX6_numberToken_38 : decode cX6_numberToken 38 = .ok (.getfield 15, 3) := by decide +kernel
theorem dX6_numberToken_41 : decode cX6_numberToken 41 = .ok (.aload_n 0, 1) := by decide +kernel
theorem dX6_numberToken_42 : decode cX6_numberToken 42 = .ok (.getfield 19, 3) := by decide +kernel
theorem dX6_numberToken_45 : decode cX6_numberToken 45 = .ok (.invokevirtual 80, 3) := by decide +kernel
theorem dX6_numberToken_48 : decode cX6_numberToken 48 = .ok (.iadd, 1) := by decide +kernel
theorem dX6_numberToken_49 : decode cX6_numberToken 49 = .ok (.bipush 48, 2) := by decide +kernel
theorem dX6_numberToken_51 : decode cX6_numberToken 51 = .ok (.isub, 1) := by decide +kernel
theorem dX6_numberToken_52 : decode cX6_numberToken 52 = .ok (.putfield 77, 3) := by decide +kernel
theorem dX6_numberToken_55 : decode cX6_numberToken 55 = .ok (.aload_n 0, 1) := by decide +kernel
theorem dX6_numberToken_56 : decode cX6_numberToken 56 = .ok (.dup, 1) := by decide +kernel
theorem dX6_numberToken_57 : decode cX6_numberToken 57 = .ok (.getfield 19, 3) := by decide +kernel
theorem dX6_numberToken_60 : decode cX6_numberToken 60 = .ok (.iconst 1, 1) := by decide +kernel
theorem dX6_numberToken_61 : decode cX6_numberToken 61 = .ok (.iadd, 1) := by decide +kernel
theorem dX6_numberToken_62 : decode cX6_numberToken 62 = .ok (.putfield 19, 3) := by decide +kernel
theorem dX6_numberToken_65 : decode cX6_numberToken 65 = .ok (.iinc 1 1, 3) := by decide +kernel
theorem dX6_numberToken_68 : decode cX6_numberToken 68 = .ok (.goto (-61), 3) := by decide +kernel
theorem dX6_numberToken_71 : decode cX6_numberToken 71 = .ok (.aload_n 0, 1) := by decide +kernel
theorem dX6_numberToken_72 : decode cX6_numberToken 72 = .ok (.getfield 15, 3) := by decide +kernel
theorem dX6_numberToken_75 : decode cX6_numberToken 75 = .ok (.aload_n 0, 1) := by decide +kernel
theorem dX6_numberToken_76 : decode cX6_numberToken 76 = .ok (.getfield 19, 3) := by decide +kernel
theorem dX6_numberToken_79 : decode cX6_numberToken 79 = .ok (.invokevirtual 80, 3) := by decide +kernel
theorem dX6_numberToken_82 : decode cX6_numberToken 82 = .ok (.invokestatic 97, 3) := by decide +kernel
theorem dX6_numberToken_85 : decode cX6_numberToken 85 = .ok (.ifCond .eq 7, 3) := by decide +kernel
theorem dX6_numberToken_88 : decode cX6_numberToken 88 = .ok (.iconst 1, 1) := by decide +kernel
theorem dX6_numberToken_89 : decode cX6_numberToken 89 = .ok (.goto 4, 3) := by decide +kernel
theorem dX6_numberToken_92 : decode cX6_numberToken 92 = .ok (.iconst 2, 1) := by decide +kernel
theorem dX6_numberToken_93 : decode cX6_numberToken 93 = .ok (.ireturn, 1) := by decide +kernel
theorem dX6_wordToken_0 : decode cX6_wordToken 0 = .ok (.iconst 0, 1) := by decide +kernel
theorem dX6_wordToken_1 : decode cX6_wordToken 1 = .ok (.istore_n 1, 1) := by decide +kernel
theorem dX6_wordToken_2 : decode cX6_wordToken 2 = .ok (.iload_n 1, 1) := by decide +kernel
theorem dX6_wordToken_3 : decode cX6_wordToken 3 = .ok (.sipush 160, 3) := by decide +kernel
theorem dX6_wordToken_6 : decode cX6_wordToken 6 = .ok (.if_icmp .ge 36, 3) := by decide +kernel
theorem dX6_wordToken_9 : decode cX6_wordToken 9 = .ok (.aload_n 0, 1) := by decide +kernel
theorem dX6_wordToken_10 : decode cX6_wordToken 10 = .ok (.getfield 15, 3) := by decide +kernel
theorem dX6_wordToken_13 : decode cX6_wordToken 13 = .ok (.aload_n 0, 1) := by decide +kernel
theorem dX6_wordToken_14 : decode cX6_wordToken 14 = .ok (.getfield 19, 3) := by decide +kernel
theorem dX6_wordToken_17 : decode cX6_wordToken 17 = .ok (.invokevirtual 80, 3) := by decide +kernel
theorem dX6_wordToken_20 : decode cX6_wordToken 20 = .ok (.invokestatic 90, 3) := by decide +kernel
theorem dX6_wordToken_23 : decode cX6_wordToken 23 = .ok (.ifCond .eq 19, 3) := by decide +kernel
theorem dX6_wordToken_26 : decode cX6_wordToken 26 = .ok (.aload_n 0, 1) := by decide +kernel
theorem dX6_wordToken_27 : decode cX6_wordToken 27 = .ok (.dup, 1) := by decide +kernel
theorem dX6_wordToken_28 : decode cX6_wordToken 28 = .ok (.getfield 19, 3) := by decide +kernel
theorem dX6_wordToken_31 : decode cX6_wordToken 31 = .ok (.iconst 1, 1) := by decide +kernel
theorem dX6_wordToken_32 : decode cX6_wordToken 32 = .ok (.iadd, 1) := by decide +kernel
theorem dX6_wordToken_33 : decode cX6_wordToken 33 = .ok (.putfield 19, 3) := by decide +kernel
theorem dX6_wordToken_36 : decode cX6_wordToken 36 = .ok (.iinc 1 1, 3) := by decide +kernel
theorem dX6_wordToken_39 : decode cX6_wordToken 39 = .ok (.goto (-37), 3) := by decide +kernel
theorem dX6_wordToken_42 : decode cX6_wordToken 42 = .ok (.iconst 0, 1) := by decide +kernel
theorem dX6_wordToken_43 : decode cX6_wordToken 43 = .ok (.istore_n 1, 1) := by decide +kernel
theorem dX6_wordToken_44 : decode cX6_wordToken 44 = .ok (.iload_n 1, 1) := by decide +kernel
theorem dX6_wordToken_45 : decode cX6_wordToken 45 = .ok (.bipush 6, 2) := by decide +kernel
theorem dX6_wordToken_47 : decode cX6_wordToken 47 = .ok (.if_icmp .ge 29, 3) := by decide +kernel
theorem dX6_wordToken_50 : decode cX6_wordToken 50 = .ok (.aload_n 0, 1) := by decide +kernel
theorem dX6_wordToken_51 : decode cX6_wordToken 51 = .ok (.iload_n 1, 1) := by decide +kernel
theorem dX6_wordToken_52 : decode cX6_wordToken 52 = .ok (.invokestatic 110, 3) := by decide +kernel
theorem dX6_wordToken_55 : decode cX6_wordToken 55 = .ok (.invokevirtual 114, 3) := by decide +kernel
theorem dX6_wordToken_58 : decode cX6_wordToken 58 = .ok (.ifCond .eq 12, 3) := by decide +kernel
theorem dX6_wordToken_61 : decode cX6_wordToken 61 = .ok (.aload_n 0, 1) := by decide +kernel
theorem dX6_wordToken_62 : decode cX6_wordToken 62 = .ok (.iconst (-1), 1) := by decide +kernel
theorem dX6_wordToken_63 : decode cX6_wordToken 63 = .ok (.iload_n 1, 1) := by decide +kernel
theorem dX6_wordToken_64 : decode cX6_wordToken 64 = .ok (.isub, 1) := by decide +kernel
theorem dX6_wordToken_65 : decode cX6_wordToken 65 = .ok (.putfield 77, 3) := by decide +kernel
theorem dX6_wordToken_68 : decode cX6_wordToken 68 = .ok (.iconst 3, 1) := by decide +kernel
theorem dX6_wordToken_69 : decode cX6_wordToken 69 = .ok (.ireturn, 1) := by decide +kernel
theorem dX6_wordToken_70 : decode cX6_wordToken 70 = .ok (.iinc 1 1, 3) := by decide +kernel
theorem dX6_wordToken_73 : decode cX6_wordToken 73 = .ok (.goto (-29), 3) := by decide +kernel
theorem dX6_wordToken_76 : decode cX6_wordToken 76 = .ok (.iconst 4, 1) := by decide +kernel
theorem dX6_wordToken_77 : decode cX6_wordToken 77 = .ok (.istore_n 1, 1) := by decide +kernel
theorem dX6_wordToken_78 : decode cX6_wordToken 78 = .ok (.iload_n 1, 1) := by decide +kernel
theorem dX6_wordToken_79 : decode cX6_wordToken 79 = .ok (.bipush 9, 2) := by decide +kernel
theorem dX6_wordToken_81 : decode cX6_wordToken 81 = .ok (.if_icmp .gt 22, 3) := by decide +kernel
theorem dX6_wordToken_84 : decode cX6_wordToken 84 = .ok (.aload_n 0, 1) := by decide +kernel
theorem dX6_wordToken_85 : decode cX6_wordToken 85 = .ok (.iload_n 1, 1) := by decide +kernel
theorem dX6_wordToken_86 : decode cX6_wordToken 86 = .ok (.invokestatic 118, 3) := by decide +kernel
theorem dX6_wordToken_89 : decode cX6_wordToken 89 = .ok (.invokevirtual 114, 3) := by decide +kernel
theorem dX6_wordToken_92 : decode cX6_wordToken 92 = .ok (.ifCond .eq 5, 3) := by decide +kernel
theorem dX6_wordToken_95 : decode cX6_wordToken 95 = .ok (.iload_n 1, 1) := by decide +kernel
theorem dX6_wordToken_96 : decode cX6_wordToken 96 = .ok (.ireturn, 1) := by decide +kernel
theorem dX6_wordToken_97 : decode cX6_wordToken 97 = .ok (.iinc 1 1, 3) := by decide +kernel
theorem dX6_wordToken_100 : decode cX6_wordToken 100 = .ok (.goto (-22), 3) := by decide +kernel
theorem dX6_wordToken_103 : decode cX6_wordToken 103 = .ok (.iconst 1, 1) := by decide +kernel
theorem dX6_wordToken_104 : decode cX6_wordToken 104 = .ok (.ireturn, 1) := by decide +kernel
theorem dX6_isWord_0 : decode cX6_isWord 0 = .ok (.aload_n 0, 1) := by decide +kernel
theorem dX6_isWord_1 : decode cX6_isWord 1 = .ok (.getfield 19, 3) := by decide +kernel
theorem dX6_isWord_4 : decode cX6_isWord 4 = .ok (.aload_n 0, 1) := by decide +kernel
theorem dX6_isWord_5 : decode cX6_isWord 5 = .ok (.getfield 56, 3) := by decide +kernel
theorem dX6_isWord_8 : decode cX6_isWord 8 = .ok (.isub, 1) := by decide +kernel
theorem dX6_isWord_9 : decode cX6_isWord 9 = .ok (.aload_n 1, 1) := by decide +kernel
theorem dX6_isWord_10 : decode cX6_isWord 10 = .ok (.invokevirtual 121, 3) := by decide +kernel
theorem dX6_isWord_13 : decode cX6_isWord 13 = .ok (.if_icmp .eq 5, 3) := by decide +kernel
theorem dX6_isWord_16 : decode cX6_isWord 16 = .ok (.iconst 0, 1) := by decide +kernel
theorem dX6_isWord_17 : decode cX6_isWord 17 = .ok (.ireturn, 1) := by decide +kernel
theorem dX6_isWord_18 : decode cX6_isWord 18 = .ok (.iconst 0, 1) := by decide +kernel
theorem dX6_isWord_19 : decode cX6_isWord 19 = .ok (.istore_n 2, 1) := by decide +kernel
theorem dX6_isWord_20 : decode cX6_isWord 20 = .ok (.iload_n 2, 1) := by decide +kernel
theorem dX6_isWord_21 : decode cX6_isWord 21 = .ok (.aload_n 1, 1) := by decide +kernel
theorem dX6_isWord_22 : decode cX6_isWord 22 = .ok (.invokevirtual 121, 3) := by decide +kernel
theorem dX6_isWord_25 : decode cX6_isWord 25 = .ok (.if_icmp .ge 32, 3) := by decide +kernel
theorem dX6_isWord_28 : decode cX6_isWord 28 = .ok (.aload_n 0, 1) := by decide +kernel
theorem dX6_isWord_29 : decode cX6_isWord 29 = .ok (.getfield 15, 3) := by decide +kernel
theorem dX6_isWord_32 : decode cX6_isWord 32 = .ok (.aload_n 0, 1) := by decide +kernel
theorem dX6_isWord_33 : decode cX6_isWord 33 = .ok (.getfield 56, 3) := by decide +kernel
theorem dX6_isWord_36 : decode cX6_isWord 36 = .ok (.iload_n 2, 1) := by decide +kernel
theorem dX6_isWord_37 : decode cX6_isWord 37 = .ok (.iadd, 1) := by decide +kernel
theorem dX6_isWord_38 : decode cX6_isWord 38 = .ok (.invokevirtual 80, 3) := by decide +kernel
theorem dX6_isWord_41 : decode cX6_isWord 41 = .ok (.aload_n 1, 1) := by decide +kernel
theorem dX6_isWord_42 : decode cX6_isWord 42 = .ok (.iload_n 2, 1) := by decide +kernel
theorem dX6_isWord_43 : decode cX6_isWord 43 = .ok (.invokevirtual 124, 3) := by decide +kernel
theorem dX6_isWord_46 : decode cX6_isWord 46 = .ok (.if_icmp .eq 5, 3) := by decide +kernel
theorem dX6_isWord_49 : decode cX6_isWord 49 = .ok (.iconst 0, 1) := by decide +kernel
theorem dX6_isWord_50 : decode cX6_isWord 50 = .ok (.ireturn, 1) := by decide +kernel
theorem dX6_isWord_51 : decode cX6_isWord 51 = .ok (.iinc 2 1, 3) := by decide +kernel
theorem dX6_isWord_54 : decode cX6_isWord 54 = .ok (.goto (-34), 3) := by decide +kernel
theorem dX6_isWord_57 : decode cX6_isWord 57 = .ok (.iconst 1, 1) := by decide +kernel
theorem dX6_isWord_58 : decode cX6_isWord 58 = .ok (.ireturn, 1) := by decide +kernel
theorem dX6_nameAt_0 : decode cX6_nameAt 0 = .ok (.iload_n 0, 1) := by decide +kernel
theorem dX6_nameAt_1 : decode cX6_nameAt 1 = .ok (.tableswitch 50 0 4 #[35, 38, 41, 44, 47], 35) := by decide +kernel
theorem dX6_nameAt_36 : decode cX6_nameAt 36 = .ok (.ldc 128, 2) := by decide +kernel
theorem dX6_nameAt_38 : decode cX6_nameAt 38 = .ok (.areturn, 1) := by decide +kernel
theorem dX6_nameAt_39 : decode cX6_nameAt 39 = .ok (.ldc 130, 2) := by decide +kernel
theorem dX6_nameAt_41 : decode cX6_nameAt 41 = .ok (.areturn, 1) := by decide +kernel
theorem dX6_nameAt_42 : decode cX6_nameAt 42 = .ok (.ldc 132, 2) := by decide +kernel
theorem dX6_nameAt_44 : decode cX6_nameAt 44 = .ok (.areturn, 1) := by decide +kernel
theorem dX6_nameAt_45 : decode cX6_nameAt 45 = .ok (.ldc 134, 2) := by decide +kernel
theorem dX6_nameAt_47 : decode cX6_nameAt 47 = .ok (.areturn, 1) := by decide +kernel
theorem dX6_nameAt_48 : decode cX6_nameAt 48 = .ok (.ldc 136, 2) := by decide +kernel
theorem dX6_nameAt_50 : decode cX6_nameAt 50 = .ok (.areturn, 1) := by decide +kernel
theorem dX6_nameAt_51 : decode cX6_nameAt 51 = .ok (.ldc 138, 2) := by decide +kernel
theorem dX6_nameAt_53 : decode cX6_nameAt 53 = .ok (.areturn, 1) := by decide +kernel
theorem dX6_keyAt_0 : decode cX6_keyAt 0 = .ok (.iload_n 0, 1) := by decide +kernel
theorem dX6_keyAt_1 : decode cX6_keyAt 1 = .ok (.tableswitch 50 4 8 #[35, 38, 41, 44, 47], 35) := by decide +kernel
theorem dX6_keyAt_36 : decode cX6_keyAt 36 = .ok (.ldc 140, 2) := by decide +kernel
theorem dX6_keyAt_38 : decode cX6_keyAt 38 = .ok (.areturn, 1) := by decide +kernel
theorem dX6_keyAt_39 : decode cX6_keyAt 39 = .ok (.ldc 142, 2) := by decide +kernel
theorem dX6_keyAt_41 : decode cX6_keyAt 41 = .ok (.areturn, 1) := by decide +kernel
theorem dX6_keyAt_42 : decode cX6_keyAt 42 = .ok (.ldc 144, 2) := by decide +kernel
theorem dX6_keyAt_44 : decode cX6_keyAt 44 = .ok (.areturn, 1) := by decide +kernel
theorem dX6_keyAt_45 : decode cX6_keyAt 45 = .ok (.ldc 146, 2) := by decide +kernel
theorem dX6_keyAt_47 : decode cX6_keyAt 47 = .ok (.areturn, 1) := by decide +kernel
theorem dX6_keyAt_48 : decode cX6_keyAt 48 = .ok (.ldc 148, 2) := by decide +kernel
theorem dX6_keyAt_50 : decode cX6_keyAt 50 = .ok (.areturn, 1) := by decide +kernel
theorem dX6_keyAt_51 : decode cX6_keyAt 51 = .ok (.ldc 150, 2) := by decide +kernel
theorem dX6_keyAt_53 : decode cX6_keyAt 53 = .ok (.areturn, 1) := by decide +kernel
theorem dX6_isBlank_0 : decode cX6_isBlank 0 = .ok (.iload_n 0, 1) := by decide +kernel
theorem dX6_isBlank_1 : decode cX6_isBlank 1 = .ok (.bipush 32, 2) := by decide +kernel
theorem dX6_isBlank_3 : decode cX6_isBlank 3 = .ok (.if_icmp .eq 9, 3) := by decide +kernel
theorem dX6_isBlank_6 : decode cX6_isBlank 6 = .ok (.iload_n 0, 1) := by decide +kernel
theorem dX6_isBlank_7 : decode cX6_isBlank 7 = .ok (.bipush 10, 2) := by decide +kernel
theorem dX6_isBlank_9 : decode cX6_isBlank 9 = .ok (.if_icmp .ne 7, 3) := by decide +kernel
theorem dX6_isBlank_12 : decode cX6_isBlank 12 = .ok (.iconst 1, 1) := by decide +kernel
theorem dX6_isBlank_13 : decode cX6_isBlank 13 = .ok (.goto 4, 3) := by decide +kernel
theorem dX6_isBlank_16 : decode cX6_isBlank 16 = .ok (.iconst 0, 1) := by decide +kernel
theorem dX6_isBlank_17 : decode cX6_isBlank 17 = .ok (.ireturn, 1) := by decide +kernel
theorem dX6_isLetter_0 : decode cX6_isLetter 0 = .ok (.iload_n 0, 1) := by decide +kernel
theorem dX6_isLetter_1 : decode cX6_isLetter 1 = .ok (.bipush 97, 2) := by decide +kernel
theorem dX6_isLetter_3 : decode cX6_isLetter 3 = .ok (.bipush 122, 2) := by decide +kernel
theorem dX6_isLetter_5 : decode cX6_isLetter 5 = .ok (.invokestatic 152, 3) := by decide +kernel
theorem dX6_isLetter_8 : decode cX6_isLetter 8 = .ok (.ireturn, 1) := by decide +kernel
theorem dX6_isDigit_0 : decode cX6_isDigit 0 = .ok (.iload_n 0, 1) := by decide +kernel
theorem dX6_isDigit_1 : decode cX6_isDigit 1 = .ok (.bipush 48, 2) := by decide +kernel
theorem dX6_isDigit_3 : decode cX6_isDigit 3 = .ok (.bipush 57, 2) := by decide +kernel
theorem dX6_isDigit_5 : decode cX6_isDigit 5 = .ok (.invokestatic 152, 3) := by decide +kernel
theorem dX6_isDigit_8 : decode cX6_isDigit 8 = .ok (.ireturn, 1) := by decide +kernel
theorem dX7_init_0 : decode cX7_init 0 = .ok (.aload_n 0, 1) := by decide +kernel
theorem dX7_init_1 : decode cX7_init 1 = .ok (.invokespecial 3, 3) := by decide +kernel
theorem dX7_init_4 : decode cX7_init 4 = .ok (.aload_n 0, 1) := by decide +kernel
theorem dX7_init_5 : decode cX7_init 5 = .ok (.bipush 20, 2) := by decide +kernel
theorem dX7_init_7 : decode cX7_init 7 = .ok (.newarray .int, 2) := by decide +kernel
theorem dX7_init_9 : decode cX7_init 9 = .ok (.putfield 9, 3) := by decide +kernel
theorem dX7_init_12 : decode cX7_init 12 = .ok (.aload_n 0, 1) := by decide +kernel
theorem dX7_init_13 : decode cX7_init 13 = .ok (.bipush 20, 2) := by decide +kernel
theorem dX7_init_15 : decode cX7_init 15 = .ok (.newarray .int, 2) := by decide +kernel
theorem dX7_init_17 : decode cX7_init 17 = .ok (.putfield 15, 3) := by decide +kernel
theorem dX7_init_20 : decode cX7_init 20 = .ok (.aload_n 0, 1) := by decide +kernel
theorem dX7_init_21 : decode cX7_init 21 = .ok (.bipush 20, 2) := by decide +kernel
theorem dX7_init_23 : decode cX7_init 23 = .ok (.newarray .int, 2) := by decide +kernel
theorem dX7_init_25 : decode cX7_init 25 = .ok (.putfield 18, 3) := by decide +kernel
theorem dX7_init_28 : decode cX7_init 28 = .ok (.return_, 1) := by decide +kernel
theorem dX7_add_0 : decode cX7_add 0 = .ok (.aload_n 0, 1) := by decide +kernel
theorem dX7_add_1 : decode cX7_add 1 = .ok (.getfield 9, 3) := by decide +kernel
theorem dX7_add_4 : decode cX7_add 4 = .ok (.aload_n 0, 1) := by decide +kernel
theorem dX7_add_5 : decode cX7_add 5 = .ok (.getfield 21, 3) := by decide +kernel
theorem dX7_add_8 : decode cX7_add 8 = .ok (.iload_n 1, 1) := by decide +kernel
theorem dX7_add_9 : decode cX7_add 9 = .ok (.iastore, 1) := by decide +kernel
theorem dX7_add_10 : decode cX7_add 10 = .ok (.aload_n 0, 1) := by decide +kernel
theorem dX7_add_11 : decode cX7_add 11 = .ok (.getfield 15, 3) := by decide +kernel
theorem dX7_add_14 : decode cX7_add 14 = .ok (.aload_n 0, 1) := by decide +kernel
theorem dX7_add_15 : decode cX7_add 15 = .ok (.getfield 21, 3) := by decide +kernel
theorem dX7_add_18 : decode cX7_add 18 = .ok (.iload_n 2, 1) := by decide +kernel
theorem dX7_add_19 : decode cX7_add 19 = .ok (.iastore, 1) := by decide +kernel
theorem dX7_add_20 : decode cX7_add 20 = .ok (.aload_n 0, 1) := by decide +kernel
theorem dX7_add_21 : decode cX7_add 21 = .ok (.getfield 18, 3) := by decide +kernel
theorem dX7_add_24 : decode cX7_add 24 = .ok (.aload_n 0, 1) := by decide +kernel
theorem dX7_add_25 : decode cX7_add 25 = .ok (.getfield 21, 3) := by decide +kernel
theorem dX7_add_28 : decode cX7_add 28 = .ok (.iload_n 3, 1) := by decide +kernel
theorem dX7_add_29 : decode cX7_add 29 = .ok (.iastore, 1) := by decide +kernel
theorem dX7_add_30 : decode cX7_add 30 = .ok (.aload_n 0, 1) := by decide +kernel
theorem dX7_add_31 : decode cX7_add 31 = .ok (.dup, 1) := by decide +kernel
theorem dX7_add_32 : decode cX7_add 32 = .ok (.getfield 21, 3) := by decide +kernel
theorem dX7_add_35 : decode cX7_add 35 = .ok (.iconst 1, 1) := by decide +kernel
theorem dX7_add_36 : decode cX7_add 36 = .ok (.iadd, 1) := by decide +kernel
theorem dX7_add_37 : decode cX7_add 37 = .ok (.putfield 21, 3) := by decide +kernel
theorem dX7_add_40 : decode cX7_add 40 = .ok (.return_, 1) := by decide +kernel
theorem dX7_forgetPaces_0 : decode cX7_forgetPaces 0 = .ok (.aload_n 0, 1) := by decide +kernel
theorem dX7_forgetPaces_1 : decode cX7_forgetPaces 1 = .ok (.iconst 0, 1) := by decide +kernel
theorem dX7_forgetPaces_2 : decode cX7_forgetPaces 2 = .ok (.putfield 25, 3) := by decide +kernel
theorem dX7_forgetPaces_5 : decode cX7_forgetPaces 5 = .ok (.aload_n 0, 1) := by decide +kernel
theorem dX7_forgetPaces_6 : decode cX7_forgetPaces 6 = .ok (.iconst (-1), 1) := by decide +kernel
theorem dX7_forgetPaces_7 : decode cX7_forgetPaces 7 = .ok (.putfield 28, 3) := by decide +kernel
theorem dX7_forgetPaces_10 : decode cX7_forgetPaces 10 = .ok (.aload_n 0, 1) := by decide +kernel
theorem dX7_forgetPaces_11 : decode cX7_forgetPaces 11 = .ok (.iconst (-1), 1) := by decide +kernel
theorem dX7_forgetPaces_12 : decode cX7_forgetPaces 12 = .ok (.putfield 31, 3) := by decide +kernel
theorem dX7_forgetPaces_15 : decode cX7_forgetPaces 15 = .ok (.aload_n 0, 1) := by decide +kernel
theorem dX7_forgetPaces_16 : decode cX7_forgetPaces 16 = .ok (.iconst (-1), 1) := by decide +kernel
theorem dX7_forgetPaces_17 : decode cX7_forgetPaces 17 = .ok (.putfield 34, 3) := by decide +kernel
theorem dX7_forgetPaces_20 : decode cX7_forgetPaces 20 = .ok (.return_, 1) := by decide +kernel
theorem dX7_addPace_0 : decode cX7_addPace 0 = .ok (.aload_n 0, 1) := by decide +kernel
theorem dX7_addPace_1 : decode cX7_addPace 1 = .ok (.dup, 1) := by decide +kernel
theorem dX7_addPace_2 : decode cX7_addPace 2 = .ok (.getfield 25, 3) := by decide +kernel
theorem dX7_addPace_5 : decode cX7_addPace 5 = .ok (.iconst 1, 1) := by decide +kernel
theorem dX7_addPace_6 : decode cX7_addPace 6 = .ok (.iadd, 1) := by decide +kernel
theorem dX7_addPace_7 : decode cX7_addPace 7 = .ok (.putfield 25, 3) := by decide +kernel
theorem dX7_addPace_10 : decode cX7_addPace 10 = .ok (.aload_n 0, 1) := by decide +kernel
theorem dX7_addPace_11 : decode cX7_addPace 11 = .ok (.getfield 28, 3) := by decide +kernel
theorem dX7_addPace_14 : decode cX7_addPace 14 = .ok (.iconst (-1), 1) := by decide +kernel
theorem dX7_addPace_15 : decode cX7_addPace 15 = .ok (.if_icmp .ne 8, 3) := by decide +kernel
theorem dX7_addPace_18 : decode cX7_addPace 18 = .ok (.aload_n 0, 1) := by decide +kernel
theorem dX7_addPace_19 : decode cX7_addPace 19 = .ok (.iload_n 1, 1) := by decide +kernel
theorem dX7_addPace_20 : decode cX7_addPace 20 = .ok (.putfield 28, 3) := by decide +kernel
theorem dX7_addPace_23 : decode cX7_addPace 23 = .ok (.aload_n 0, 1) := by decide +kernel
theorem dX7_addPace_24 : decode cX7_addPace 24 = .ok (.iload_n 1, 1) := by decide +kernel
theorem dX7_addPace_25 : decode cX7_addPace 25 = .ok (.putfield 31, 3) := by decide +kernel
theorem dX7_addPace_28 : decode cX7_addPace 28 = .ok (.return_, 1) := by decide +kernel
theorem dX8_init_0 : decode cX8_init 0 = .ok (.aload_n 0, 1) := by decide +kernel
theorem dX8_init_1 : decode cX8_init 1 = .ok (.invokespecial 3, 3) := by decide +kernel
theorem dX8_init_4 : decode cX8_init 4 = .ok (.aload_n 0, 1) := by decide +kernel
theorem dX8_init_5 : decode cX8_init 5 = .ok (.bipush 8, 2) := by decide +kernel
theorem dX8_init_7 : decode cX8_init 7 = .ok (.newarray .int, 2) := by decide +kernel
theorem dX8_init_9 : decode cX8_init 9 = .ok (.putfield 9, 3) := by decide +kernel
theorem dX8_init_12 : decode cX8_init 12 = .ok (.aload_n 0, 1) := by decide +kernel
theorem dX8_init_13 : decode cX8_init 13 = .ok (.iconst 4, 1) := by decide +kernel
theorem dX8_init_14 : decode cX8_init 14 = .ok (.newarray .int, 2) := by decide +kernel
theorem dX8_init_16 : decode cX8_init 16 = .ok (.dup, 1) := by decide +kernel
theorem dX8_init_17 : decode cX8_init 17 = .ok (.iconst 0, 1) := by decide +kernel
theorem dX8_init_18 : decode cX8_init 18 = .ok (.iconst 0, 1) := by decide +kernel
theorem dX8_init_19 : decode cX8_init 19 = .ok (.iastore, 1) := by decide +kernel
theorem dX8_init_20 : decode cX8_init 20 = .ok (.dup, 1) := by decide +kernel
theorem dX8_init_21 : decode cX8_init 21 = .ok (.iconst 1, 1) := by decide +kernel
theorem dX8_init_22 : decode cX8_init 22 = .ok (.sipush 1000, 3) := by decide +kernel
theorem dX8_init_25 : decode cX8_init 25 = .ok (.iastore, 1) := by decide +kernel
theorem dX8_init_26 : decode cX8_init 26 = .ok (.dup, 1) := by decide +kernel
theorem dX8_init_27 : decode cX8_init 27 = .ok (.iconst 2, 1) := by decide +kernel
theorem dX8_init_28 : decode cX8_init 28 = .ok (.sipush (-800), 3) := by decide +kernel
theorem dX8_init_31 : decode cX8_init 31 = .ok (.iastore, 1) := by decide +kernel
theorem dX8_init_32 : decode cX8_init 32 = .ok (.dup, 1) := by decide +kernel
theorem dX8_init_33 : decode cX8_init 33 = .ok (.iconst 3, 1) := by decide +kernel
theorem dX8_init_34 : decode cX8_init 34 = .ok (.sipush (-600), 3) := by decide +kernel
theorem dX8_init_37 : decode cX8_init 37 = .ok (.iastore, 1) := by decide +kernel
theorem dX8_init_38 : decode cX8_init 38 = .ok (.putfield 15, 3) := by decide +kernel
theorem dX8_init_41 : decode cX8_init 41 = .ok (.aload_n 0, 1) := by decide +kernel
theorem dX8_init_42 : decode cX8_init 42 = .ok (.bipush 24, 2) := by decide +kernel
theorem dX8_init_44 : decode cX8_init 44 = .ok (.newarray .int, 2) := by decide +kernel
theorem dX8_init_46 : decode cX8_init 46 = .ok (.putfield 18, 3) := by decide +kernel
theorem dX8_init_49 : decode cX8_init 49 = .ok (.aload_n 0, 1) := by decide +kernel
theorem dX8_init_50 : decode cX8_init 50 = .ok (.bipush 64, 2) := by decide +kernel
theorem dX8_init_52 : decode cX8_init 52 = .ok (.newarray .int, 2) := by decide +kernel
theorem dX8_init_54 : decode cX8_init 54 = .ok (.putfield 21, 3) := by decide +kernel
theorem dX8_init_57 : decode cX8_init 57 = .ok (.aload_n 0, 1) := by decide +kernel
theorem dX8_init_58 : decode cX8_init 58 = .ok (.bipush 6, 2) := by decide +kernel
theorem dX8_init_60 : decode cX8_init 60 = .ok (.anewarray 24, 3) := by decide +kernel
theorem dX8_init_63 : decode cX8_init 63 = .ok (.putfield 26, 3) := by decide +kernel
theorem dX8_init_66 : decode cX8_init 66 = .ok (.aload_n 0, 1) := by decide +kernel
theorem dX8_init_67 : decode cX8_init 67 = .ok (.bipush 8, 2) := by decide +kernel
theorem dX8_init_69 : decode cX8_init 69 = .ok (.anewarray 30, 3) := by decide +kernel
theorem dX8_init_72 : decode cX8_init 72 = .ok (.putfield 32, 3) := by decide +kernel
theorem dX8_init_75 : decode cX8_init 75 = .ok (.aload_n 0, 1) := by decide +kernel
theorem dX8_init_76 : decode cX8_init 76 = .ok (.bipush 6, 2) := by decide +kernel
theorem dX8_init_78 : decode cX8_init 78 = .ok (.newarray .int, 2) := by decide +kernel
theorem dX8_init_80 : decode cX8_init 80 = .ok (.putfield 36, 3) := by decide +kernel
theorem dX8_init_83 : decode cX8_init 83 = .ok (.aload_n 0, 1) := by decide +kernel
theorem dX8_init_84 : decode cX8_init 84 = .ok (.sipush 160, 3) := by decide +kernel
theorem dX8_init_87 : decode cX8_init 87 = .ok (.newarray .int, 2) := by decide +kernel
theorem dX8_init_89 : decode cX8_init 89 = .ok (.putfield 39, 3) := by decide +kernel
theorem dX8_init_92 : decode cX8_init 92 = .ok (.aload_n 0, 1) := by decide +kernel
theorem dX8_init_93 : decode cX8_init 93 = .ok (.getfield 18, 3) := by decide +kernel
theorem dX8_init_96 : decode cX8_init 96 = .ok (.bipush 100, 2) := by decide +kernel
theorem dX8_init_98 : decode cX8_init 98 = .ok (.invokestatic 42, 3) := by decide +kernel
theorem dX8_init_101 : decode cX8_init 101 = .ok (.aload_n 0, 1) := by decide +kernel
theorem dX8_init_102 : decode cX8_init 102 = .ok (.getfield 26, 3) := by decide +kernel
theorem dX8_init_105 : decode cX8_init 105 = .ok (.iconst 0, 1) := by decide +kernel
theorem dX8_init_106 : decode cX8_init 106 = .ok (.new 24, 3) := by decide +kernel
theorem dX8_init_109 : decode cX8_init 109 = .ok (.dup, 1) := by decide +kernel
theorem dX8_init_110 : decode cX8_init 110 = .ok (.iconst 3, 1) := by decide +kernel
theorem dX8_init_111 : decode cX8_init 111 = .ok (.newarray .int, 2) := by decide +kernel
theorem dX8_init_113 : decode cX8_init 113 = .ok (.dup, 1) := by decide +kernel
theorem dX8_init_114 : decode cX8_init 114 = .ok (.iconst 0, 1) := by decide +kernel
theorem dX8_init_115 : decode cX8_init 115 = .ok (.bipush 100, 2) := by decide +kernel
theorem dX8_init_117 : decode cX8_init 117 = .ok (.iastore, 1) := by decide +kernel
theorem dX8_init_118 : decode cX8_init 118 = .ok (.dup, 1) := by decide +kernel
theorem dX8_init_119 : decode cX8_init 119 = .ok (.iconst 1, 1) := by decide +kernel
theorem dX8_init_120 : decode cX8_init 120 = .ok (.iconst 4, 1) := by decide +kernel
theorem dX8_init_121 : decode cX8_init 121 = .ok (.iastore, 1) := by decide +kernel
theorem dX8_init_122 : decode cX8_init 122 = .ok (.dup, 1) := by decide +kernel
theorem dX8_init_123 : decode cX8_init 123 = .ok (.iconst 2, 1) := by decide +kernel
theorem dX8_init_124 : decode cX8_init 124 = .ok (.bipush (-2), 2) := by decide +kernel
theorem dX8_init_126 : decode cX8_init 126 = .ok (.iastore, 1) := by decide +kernel
theorem dX8_init_127 : decode cX8_init 127 = .ok (.iconst 4, 1) := by decide +kernel
theorem dX8_init_128 : decode cX8_init 128 = .ok (.newarray .int, 2) := by decide +kernel
theorem dX8_init_130 : decode cX8_init 130 = .ok (.dup, 1) := by decide +kernel
theorem dX8_init_131 : decode cX8_init 131 = .ok (.iconst 0, 1) := by decide +kernel
theorem dX8_init_132 : decode cX8_init 132 = .ok (.iconst 0, 1) := by decide +kernel
theorem dX8_init_133 : decode cX8_init 133 = .ok (.iastore, 1) := by decide +kernel
theorem dX8_init_134 : decode cX8_init 134 = .ok (.dup, 1) := by decide +kernel
theorem dX8_init_135 : decode cX8_init 135 = .ok (.iconst 1, 1) := by decide +kernel
theorem dX8_init_136 : decode cX8_init 136 = .ok (.iconst 1, 1) := by decide +kernel
theorem dX8_init_137 : decode cX8_init 137 = .ok (.iastore, 1) := by decide +kernel
theorem dX8_init_138 : decode cX8_init 138 = .ok (.dup, 1) := by decide +kernel
theorem dX8_init_139 : decode cX8_init 139 = .ok (.iconst 2, 1) := by decide +kernel
theorem dX8_init_140 : decode cX8_init 140 = .ok (.iconst 2, 1) := by decide +kernel
theorem dX8_init_141 : decode cX8_init 141 = .ok (.iastore, 1) := by decide +kernel
theorem dX8_init_142 : decode cX8_init 142 = .ok (.dup, 1) := by decide +kernel
theorem dX8_init_143 : decode cX8_init 143 = .ok (.iconst 3, 1) := by decide +kernel
theorem dX8_init_144 : decode cX8_init 144 = .ok (.iconst 3, 1) := by decide +kernel
theorem dX8_init_145 : decode cX8_init 145 = .ok (.iastore, 1) := by decide +kernel
theorem dX8_init_146 : decode cX8_init 146 = .ok (.invokespecial 48, 3) := by decide +kernel
theorem dX8_init_149 : decode cX8_init 149 = .ok (.aastore, 1) := by decide +kernel
theorem dX8_init_150 : decode cX8_init 150 = .ok (.aload_n 0, 1) := by decide +kernel
theorem dX8_init_151 : decode cX8_init 151 = .ok (.iconst 1, 1) := by decide +kernel
theorem dX8_init_152 : decode cX8_init 152 = .ok (.putfield 51, 3) := by decide +kernel
theorem dX8_init_155 : decode cX8_init 155 = .ok (.return_, 1) := by decide +kernel
theorem dX8_hasSign_0 : decode cX8_hasSign 0 = .ok (.iload_n 1, 1) := by decide +kernel
theorem dX8_hasSign_1 : decode cX8_hasSign 1 = .ok (.iconst 0, 1) := by decide +kernel
theorem dX8_hasSign_2 : decode cX8_hasSign 2 = .ok (.aload_n 0, 1) := by decide +kernel
theorem dX8_hasSign_3 : decode cX8_hasSign 3 = .ok (.getfield 55, 3) := by decide +kernel
theorem dX8_hasSign_6 : decode cX8_hasSign 6 = .ok (.iconst 1, 1) := by decide +kernel
theorem dX8_hasSign_7 : decode cX8_hasSign 7 = .ok (.isub, 1) := by decide +kernel
theorem dX8_hasSign_8 : decode cX8_hasSign 8 = .ok (.invokestatic 58, 3) := by decide +kernel
theorem dX8_hasSign_11 : decode cX8_hasSign 11 = .ok (.ireturn, 1) := by decide +kernel
theorem dX8_areTwoSigns_0 : decode cX8_areTwoSigns 0 = .ok (.aload_n 0, 1) := by decide +kernel
theorem dX8_areTwoSigns_1 : decode cX8_areTwoSigns 1 = .ok (.iload_n 1, 1) := by decide +kernel
theorem dX8_areTwoSigns_2 : decode cX8_areTwoSigns 2 = .ok (.invokevirtual 62, 3) := by decide +kernel
theorem dX8_areTwoSigns_5 : decode cX8_areTwoSigns 5 = .ok (.ifCond .eq 20, 3) := by decide +kernel
theorem dX8_areTwoSigns_8 : decode cX8_areTwoSigns 8 = .ok (.aload_n 0, 1) := by decide +kernel
theorem dX8_areTwoSigns_9 : decode cX8_areTwoSigns 9 = .ok (.iload_n 2, 1) := by decide +kernel
theorem dX8_areTwoSigns_10 : decode cX8_areTwoSigns 10 = .ok (.invokevirtual 62, 3) := by decide +kernel
theorem dX8_areTwoSigns_13 : decode cX8_areTwoSigns 13 = .ok (.ifCond .eq 12, 3) := by decide +kernel
theorem dX8_areTwoSigns_16 : decode cX8_areTwoSigns 16 = .ok (.iload_n 1, 1) := by decide +kernel
theorem dX8_areTwoSigns_17 : decode cX8_areTwoSigns 17 = .ok (.iload_n 2, 1) := by decide +kernel
theorem dX8_areTwoSigns_18 : decode cX8_areTwoSigns 18 = .ok (.if_icmp .eq 7, 3) := by decide +kernel
theorem dX8_areTwoSigns_21 : decode cX8_areTwoSigns 21 = .ok (.iconst 1, 1) := by decide +kernel
theorem dX8_areTwoSigns_22 : decode cX8_areTwoSigns 22 = .ok (.goto 4, 3) := by decide +kernel
theorem dX8_areTwoSigns_25 : decode cX8_areTwoSigns 25 = .ok (.iconst 0, 1) := by decide +kernel
theorem dX8_areTwoSigns_26 : decode cX8_areTwoSigns 26 = .ok (.ireturn, 1) := by decide +kernel
theorem dX8_isSet_0 : decode cX8_isSet 0 = .ok (.iload_n 1, 1) := by decide +kernel
theorem dX8_isSet_1 : decode cX8_isSet 1 = .ok (.iconst 0, 1) := by decide +kernel
theorem dX8_isSet_2 : decode cX8_isSet 2 = .ok (.iconst 1, 1) := by decide +kernel
theorem dX8_isSet_3 : decode cX8_isSet 3 = .ok (.aload_n 0, 1) := by decide +kernel
theorem dX8_isSet_4 : decode cX8_isSet 4 = .ok (.getfield 55, 3) := by decide +kernel
theorem dX8_isSet_7 : decode cX8_isSet 7 = .ok (.ishl, 1) := by decide +kernel
theorem dX8_isSet_8 : decode cX8_isSet 8 = .ok (.iconst 1, 1) := by decide +kernel
theorem dX8_isSet_9 : decode cX8_isSet 9 = .ok (.isub, 1) := by decide +kernel
theorem dX8_isSet_10 : decode cX8_isSet 10 = .ok (.invokestatic 58, 3) := by decide +kernel
theorem dX8_isSet_13 : decode cX8_isSet 13 = .ok (.ireturn, 1) := by decide +kernel
theorem dX8_likeOf_0 : decode cX8_likeOf 0 = .ok (.aload_n 0, 1) := by decide +kernel
theorem dX8_likeOf_1 : decode cX8_likeOf 1 = .ok (.getfield 21, 3) := by decide +kernel
theorem dX8_likeOf_4 : decode cX8_likeOf 4 = .ok (.iload_n 1, 1) := by decide +kernel
theorem dX8_likeOf_5 : decode cX8_likeOf 5 = .ok (.bipush 8, 2) := by decide +kernel
theorem dX8_likeOf_7 : decode cX8_likeOf 7 = .ok (.imul, 1) := by decide +kernel
theorem dX8_likeOf_8 : decode cX8_likeOf 8 = .ok (.iload_n 2, 1) := by decide +kernel
theorem dX8_likeOf_9 : decode cX8_likeOf 9 = .ok (.iadd, 1) := by decide +kernel
theorem dX8_likeOf_10 : decode cX8_likeOf 10 = .ok (.iaload, 1) := by decide +kernel
theorem dX8_likeOf_11 : decode cX8_likeOf 11 = .ok (.ireturn, 1) := by decide +kernel
theorem dX8_setLike_0 : decode cX8_setLike 0 = .ok (.aload_n 0, 1) := by decide +kernel
theorem dX8_setLike_1 : decode cX8_setLike 1 = .ok (.getfield 21, 3) := by decide +kernel
theorem dX8_setLike_4 : decode cX8_setLike 4 = .ok (.iload_n 1, 1) := by decide +kernel
theorem dX8_setLike_5 : decode cX8_setLike 5 = .ok (.bipush 8, 2) := by decide +kernel
theorem dX8_setLike_7 : decode cX8_setLike 7 = .ok (.imul, 1) := by decide +kernel
theorem dX8_setLike_8 : decode cX8_setLike 8 = .ok (.iload_n 2, 1) := by decide +kernel
theorem dX8_setLike_9 : decode cX8_setLike 9 = .ok (.iadd, 1) := by decide +kernel
theorem dX8_setLike_10 : decode cX8_setLike 10 = .ok (.iload_n 3, 1) := by decide +kernel
theorem dX8_setLike_11 : decode cX8_setLike 11 = .ok (.iastore, 1) := by decide +kernel
theorem dX8_setLike_12 : decode cX8_setLike 12 = .ok (.aload_n 0, 1) := by decide +kernel
theorem dX8_setLike_13 : decode cX8_setLike 13 = .ok (.getfield 21, 3) := by decide +kernel
theorem dX8_setLike_16 : decode cX8_setLike 16 = .ok (.iload_n 2, 1) := by decide +kernel
theorem dX8_setLike_17 : decode cX8_setLike 17 = .ok (.bipush 8, 2) := by decide +kernel
theorem dX8_setLike_19 : decode cX8_setLike 19 = .ok (.imul, 1) := by decide +kernel
theorem dX8_setLike_20 : decode cX8_setLike 20 = .ok (.iload_n 1, 1) := by decide +kernel
theorem dX8_setLike_21 : decode cX8_setLike 21 = .ok (.iadd, 1) := by decide +kernel
theorem dX8_setLike_22 : decode cX8_setLike 22 = .ok (.iload_n 3, 1) := by decide +kernel
theorem dX8_setLike_23 : decode cX8_setLike 23 = .ok (.iastore, 1) := by decide +kernel
theorem dX8_setLike_24 : decode cX8_setLike 24 = .ok (.return_, 1) := by decide +kernel
theorem dX8_planAt_0 : decode cX8_planAt 0 = .ok (.iload_n 1, 1) := by decide +kernel
theorem dX8_planAt_1 : decode cX8_planAt 1 = .ok (.iconst 0, 1) := by decide +kernel
theorem dX8_planAt_2 : decode cX8_planAt 2 = .ok (.aload_n 0, 1) := by decide +kernel
theorem dX8_planAt_3 : decode cX8_planAt 3 = .ok (.getfield 66, 3) := by decide +kernel
theorem dX8_planAt_6 : decode cX8_planAt 6 = .ok (.iconst 1, 1) := by decide +kernel
theorem dX8_planAt_7 : decode cX8_planAt 7 = .ok (.isub, 1) := by decide +kernel
theorem dX8_planAt_8 : decode cX8_planAt 8 = .ok (.invokestatic 58, 3) := by decide +kernel
theorem dX8_planAt_11 : decode cX8_planAt 11 = .ok (.ifCond .eq 12, 3) := by decide +kernel
theorem dX8_planAt_14 : decode cX8_planAt 14 = .ok (.aload_n 0, 1) := by decide +kernel
theorem dX8_planAt_15 : decode cX8_planAt 15 = .ok (.getfield 32, 3) := by decide +kernel
theorem dX8_planAt_18 : decode cX8_planAt 18 = .ok (.iload_n 1, 1) := by decide +kernel
theorem dX8_planAt_19 : decode cX8_planAt 19 = .ok (.aaload, 1) := by decide +kernel
theorem dX8_planAt_20 : decode cX8_planAt 20 = .ok (.goto 4, 3) := by decide +kernel
theorem dX8_planAt_23 : decode cX8_planAt 23 = .ok (.aconst_null, 1) := by decide +kernel
theorem dX8_planAt_24 : decode cX8_planAt 24 = .ok (.areturn, 1) := by decide +kernel
theorem dX9_init_0 : decode cX9_init 0 = .ok (.aload_n 0, 1) := by decide +kernel
theorem dX9_init_1 : decode cX9_init 1 = .ok (.invokespecial 1, 3) := by decide +kernel
theorem dX9_init_4 : decode cX9_init 4 = .ok (.aload_n 0, 1) := by decide +kernel
theorem dX9_init_5 : decode cX9_init 5 = .ok (.new 7, 3) := by decide +kernel
theorem dX9_init_8 : decode cX9_init 8 = .ok (.dup, 1) := by decide +kernel
theorem dX9_init_9 : decode cX9_init 9 = .ok (.invokespecial 9, 3) := by decide +kernel
theorem dX9_init_12 : decode cX9_init 12 = .ok (.putfield 10, 3) := by decide +kernel
theorem dX9_init_15 : decode cX9_init 15 = .ok (.aload_n 0, 1) := by decide +kernel
theorem dX9_init_16 : decode cX9_init 16 = .ok (.new 16, 3) := by decide +kernel
theorem dX9_init_19 : decode cX9_init 19 = .ok (.dup, 1) := by decide +kernel
theorem dX9_init_20 : decode cX9_init 20 = .ok (.aload_n 0, 1) := by decide +kernel
theorem dX9_init_21 : decode cX9_init 21 = .ok (.getfield 10, 3) := by decide +kernel
theorem dX9_init_24 : decode cX9_init 24 = .ok (.invokespecial 18, 3) := by decide +kernel
theorem dX9_init_27 : decode cX9_init 27 = .ok (.putfield 21, 3) := by decide +kernel
theorem dX9_init_30 : decode cX9_init 30 = .ok (.aload_n 0, 1) := by decide +kernel
theorem dX9_init_31 : decode cX9_init 31 = .ok (.new 16, 3) := by decide +kernel
theorem dX9_init_34 : decode cX9_init 34 = .ok (.dup, 1) := by decide +kernel
theorem dX9_init_35 : decode cX9_init 35 = .ok (.aload_n 0, 1) := by decide +kernel
theorem dX9_init_36 : decode cX9_init 36 = .ok (.getfield 10, 3) := by decide +kernel
theorem dX9_init_39 : decode cX9_init 39 = .ok (.invokespecial 18, 3) := by decide +kernel
theorem dX9_init_42 : decode cX9_init 42 = .ok (.putfield 25, 3) := by decide +kernel
theorem dX9_init_45 : decode cX9_init 45 = .ok (.aload_n 0, 1) := by decide +kernel
theorem dX9_init_46 : decode cX9_init 46 = .ok (.new 16, 3) := by decide +kernel
theorem dX9_init_49 : decode cX9_init 49 = .ok (.dup, 1) := by decide +kernel
theorem dX9_init_50 : decode cX9_init 50 = .ok (.aload_n 0, 1) := by decide +kernel
theorem dX9_init_51 : decode cX9_init 51 = .ok (.getfield 10, 3) := by decide +kernel
theorem dX9_init_54 : decode cX9_init 54 = .ok (.invokespecial 18, 3) := by decide +kernel
theorem dX9_init_57 : decode cX9_init 57 = .ok (.putfield 28, 3) := by decide +kernel
theorem dX9_init_60 : decode cX9_init 60 = .ok (.aload_n 0, 1) := by decide +kernel
theorem dX9_init_61 : decode cX9_init 61 = .ok (.new 31, 3) := by decide +kernel
theorem dX9_init_64 : decode cX9_init 64 = .ok (.dup, 1) := by decide +kernel
theorem dX9_init_65 : decode cX9_init 65 = .ok (.invokespecial 33, 3) := by decide +kernel
theorem dX9_init_68 : decode cX9_init 68 = .ok (.putfield 34, 3) := by decide +kernel
theorem dX9_init_71 : decode cX9_init 71 = .ok (.aload_n 0, 1) := by decide +kernel
theorem dX9_init_72 : decode cX9_init 72 = .ok (.new 38, 3) := by decide +kernel
theorem dX9_init_75 : decode cX9_init 75 = .ok (.dup, 1) := by decide +kernel
theorem dX9_init_76 : decode cX9_init 76 = .ok (.invokespecial 40, 3) := by decide +kernel
theorem dX9_init_79 : decode cX9_init 79 = .ok (.putfield 41, 3) := by decide +kernel
theorem dX9_init_82 : decode cX9_init 82 = .ok (.aload_n 0, 1) := by decide +kernel
theorem dX9_init_83 : decode cX9_init 83 = .ok (.new 45, 3) := by decide +kernel
theorem dX9_init_86 : decode cX9_init 86 = .ok (.dup, 1) := by decide +kernel
theorem dX9_init_87 : decode cX9_init 87 = .ok (.invokespecial 47, 3) := by decide +kernel
theorem dX9_init_90 : decode cX9_init 90 = .ok (.putfield 48, 3) := by decide +kernel
theorem dX9_init_93 : decode cX9_init 93 = .ok (.aload_n 0, 1) := by decide +kernel
theorem dX9_init_94 : decode cX9_init 94 = .ok (.new 52, 3) := by decide +kernel
theorem dX9_init_97 : decode cX9_init 97 = .ok (.dup, 1) := by decide +kernel
theorem dX9_init_98 : decode cX9_init 98 = .ok (.invokespecial 54, 3) := by decide +kernel
theorem dX9_init_101 : decode cX9_init 101 = .ok (.putfield 55, 3) := by decide +kernel
theorem dX9_init_104 : decode cX9_init 104 = .ok (.aload_n 0, 1) := by decide +kernel
theorem dX9_init_105 : decode cX9_init 105 = .ok (.iconst 4, 1) := by decide +kernel
theorem dX9_init_106 : decode cX9_init 106 = .ok (.anewarray 59, 3) := by decide +kernel
theorem dX9_init_109 : decode cX9_init 109 = .ok (.putfield 61, 3) := by decide +kernel
theorem dX9_init_112 : decode cX9_init 112 = .ok (.iconst 0, 1) := by decide +kernel
theorem dX9_init_113 : decode cX9_init 113 = .ok (.istore_n 1, 1) := by decide +kernel
theorem dX9_init_114 : decode cX9_init 114 = .ok (.iload_n 1, 1) := by decide +kernel
theorem dX9_init_115 : decode cX9_init 115 = .ok (.iconst 4, 1) := by decide +kernel
theorem dX9_init_116 : decode cX9_init 116 = .ok (.if_icmp .ge 22, 3) := by decide +kernel
theorem dX9_init_119 : decode cX9_init 119 = .ok (.aload_n 0, 1) := by decide +kernel
theorem dX9_init_120 : decode cX9_init 120 = .ok (.getfield 61, 3) := by decide +kernel
theorem dX9_init_123 : decode cX9_init 123 = .ok (.iload_n 1, 1) := by decide +kernel
theorem dX9_init_124 : decode cX9_init 124 = .ok (.new 59, 3) := by decide +kernel
theorem dX9_init_127 : decode cX9_init 127 = .ok (.dup, 1) := by decide +kernel
theorem dX9_init_128 : decode cX9_init 128 = .ok (.invokespecial 65, 3) := by decide +kernel
theorem dX9_init_131 : decode cX9_init 131 = .ok (.aastore, 1) := by decide +kernel
theorem dX9_init_132 : decode cX9_init 132 = .ok (.iinc 1 1, 3) := by decide +kernel
theorem dX9_init_135 : decode cX9_init 135 = .ok (.goto (-21), 3) := by decide +kernel
theorem dX9_init_138 : decode cX9_init 138 = .ok (.aload_n 0, 1) := by decide +kernel
theorem dX9_init_139 : decode cX9_init 139 = .ok (.iconst (-1), 1) := by decide +kernel
theorem dX9_init_140 : decode cX9_init 140 = .ok (.putfield 66, 3) := by decide +kernel
theorem dX9_init_143 : decode cX9_init 143 = .ok (.return_, 1) := by decide +kernel
theorem dX9_sign_0 : decode cX9_sign 0 = .ok (.iload_n 1, 1) := by decide +kernel
theorem dX9_sign_1 : decode cX9_sign 1 = .ok (.iconst 0, 1) := by decide +kernel
theorem dX9_sign_2 : decode cX9_sign 2 = .ok (.iconst 5, 1) := by decide +kernel
theorem dX9_sign_3 : decode cX9_sign 3 = .ok (.invokestatic 70, 3) := by decide +kernel
theorem dX9_sign_6 : decode cX9_sign 6 = .ok (.ifCond .ne 6, 3) := by decide +kernel
theorem dX9_sign_9 : decode cX9_sign 9 = .ok (.bipush (-2), 2) := by decide +kernel
theorem dX9_sign_11 : decode cX9_sign 11 = .ok (.ireturn, 1) := by decide +kernel
theorem dX9_sign_12 : decode cX9_sign 12 = .ok (.aload_n 0, 1) := by decide +kernel
theorem dX9_sign_13 : decode cX9_sign 13 = .ok (.getfield 10, 3) := by decide +kernel
theorem dX9_sign_16 : decode cX9_sign 16 = .ok (.getfield 74, 3) := by decide +kernel
theorem dX9_sign_19 : decode cX9_sign 19 = .ok (.bipush 8, 2) := by decide +kernel
theorem dX9_sign_21 : decode cX9_sign 21 = .ok (.if_icmp .lt 6, 3) := by decide +kernel
theorem dX9_sign_24 : decode cX9_sign 24 = .ok (.bipush (-4), 2) := by decide +kernel
theorem dX9_sign_26 : decode cX9_sign 26 = .ok (.ireturn, 1) := by decide +kernel
theorem dX9_sign_27 : decode cX9_sign 27 = .ok (.aload_n 0, 1) := by decide +kernel
theorem dX9_sign_28 : decode cX9_sign 28 = .ok (.getfield 10, 3) := by decide +kernel
theorem dX9_sign_31 : decode cX9_sign 31 = .ok (.getfield 77, 3) := by decide +kernel
theorem dX9_sign_34 : decode cX9_sign 34 = .ok (.aload_n 0, 1) := by decide +kernel
theorem dX9_sign_35 : decode cX9_sign 35 = .ok (.getfield 10, 3) := by decide +kernel
theorem dX9_sign_38 : decode cX9_sign 38 = .ok (.getfield 74, 3) := by decide +kernel
theorem dX9_sign_41 : decode cX9_sign 41 = .ok (.iload_n 1, 1) := by decide +kernel
theorem dX9_sign_42 : decode cX9_sign 42 = .ok (.iastore, 1) := by decide +kernel
theorem dX9_sign_43 : decode cX9_sign 43 = .ok (.aload_n 0, 1) := by decide +kernel
theorem dX9_sign_44 : decode cX9_sign 44 = .ok (.getfield 10, 3) := by decide +kernel
theorem dX9_sign_47 : decode cX9_sign 47 = .ok (.dup, 1) := by decide +kernel
theorem dX9_sign_48 : decode cX9_sign 48 = .ok (.getfield 74, 3) := by decide +kernel
theorem dX9_sign_51 : decode cX9_sign 51 = .ok (.iconst 1, 1) := by decide +kernel
theorem dX9_sign_52 : decode cX9_sign 52 = .ok (.iadd, 1) := by decide +kernel
theorem dX9_sign_53 : decode cX9_sign 53 = .ok (.putfield 74, 3) := by decide +kernel
theorem dX9_sign_56 : decode cX9_sign 56 = .ok (.aload_n 0, 1) := by decide +kernel
theorem dX9_sign_57 : decode cX9_sign 57 = .ok (.getfield 10, 3) := by decide +kernel
theorem dX9_sign_60 : decode cX9_sign 60 = .ok (.getfield 74, 3) := by decide +kernel
theorem dX9_sign_63 : decode cX9_sign 63 = .ok (.iconst 1, 1) := by decide +kernel
theorem dX9_sign_64 : decode cX9_sign 64 = .ok (.isub, 1) := by decide +kernel
theorem dX9_sign_65 : decode cX9_sign 65 = .ok (.ireturn, 1) := by decide +kernel
theorem dX9_told_0 : decode cX9_told 0 = .ok (.aload_n 0, 1) := by decide +kernel
theorem dX9_told_1 : decode cX9_told 1 = .ok (.getfield 10, 3) := by decide +kernel
theorem dX9_told_4 : decode cX9_told 4 = .ok (.iload_n 1, 1) := by decide +kernel
theorem dX9_told_5 : decode cX9_told 5 = .ok (.invokevirtual 81, 3) := by decide +kernel
theorem dX9_told_8 : decode cX9_told 8 = .ok (.ifCond .ne 7, 3) := by decide +kernel
theorem dX9_told_11 : decode cX9_told 11 = .ok (.ldc2_w 85, 3) := by decide +kernel
theorem dX9_told_14 : decode cX9_told 14 = .ok (.lreturn, 1) := by decide +kernel
theorem dX9_told_15 : decode cX9_told 15 = .ok (.iload_n 2, 1) := by decide +kernel
theorem dX9_told_16 : decode cX9_told 16 = .ok (.tableswitch 89 0 4 #[36, 47, 58, 69, 79], 36) := by decide +kernel
theorem dX9_told_52 : decode cX9_told 52 = .ok (.aload_n 0, 1) := by decide +kernel
theorem dX9_told_53 : decode cX9_told 53 = .ok (.getfield 10, 3) := by decide +kernel
theorem dX9_told_56 : decode cX9_told 56 = .ok (.getfield 77, 3) := by decide +kernel
theorem dX9_told_59 : decode cX9_told 59 = .ok (.iload_n 1, 1) := by decide +kernel
theorem dX9_told_60 : decode cX9_told 60 = .ok (.iaload, 1) := by decide +kernel
theorem dX9_told_61 : decode cX9_told 61 = .ok (.i2l, 1) := by decide +kernel
theorem dX9_told_62 : decode cX9_told 62 = .ok (.lreturn, 1) := by decide +kernel
theorem dX9_told_63 : decode cX9_told 63 = .ok (.aload_n 0, 1) := by decide +kernel
theorem dX9_told_64 : decode cX9_told 64 = .ok (.getfield 21, 3) := by decide +kernel
theorem dX9_told_67 : decode cX9_told 67 = .ok (.getfield 87, 3) := by decide +kernel
theorem dX9_told_70 : decode cX9_told 70 = .ok (.iload_n 1, 1) := by decide +kernel
theorem dX9_told_71 : decode cX9_told 71 = .ok (.iaload, 1) := by decide +kernel
theorem dX9_told_72 : decode cX9_told 72 = .ok (.i2l, 1) := by decide +kernel
theorem dX9_told_73 : decode cX9_told 73 = .ok (.lreturn, 1) := by decide +kernel
theorem dX9_told_74 : decode cX9_told 74 = .ok (.aload_n 0, 1) := by decide +kernel
theorem dX9_told_75 : decode cX9_told 75 = .ok (.getfield 21, 3) := by decide +kernel
theorem dX9_told_78 : decode cX9_told 78 = .ok (.getfield 90, 3) := by decide +kernel
theorem dX9_told_81 : decode cX9_told 81 = .ok (.iload_n 1, 1) := by decide +kernel
theorem dX9_told_82 : decode cX9_told 82 = .ok (.iaload, 1) := by decide +kernel
theorem dX9_told_83 : decode cX9_told 83 = .ok (.i2l, 1) := by decide +kernel
theorem dX9_told_84 : decode cX9_told 84 = .ok (.lreturn, 1) := by decide +kernel
theorem dX9_told_85 : decode cX9_told 85 = .ok (.aload_n 0, 1) := by decide +kernel
theorem dX9_told_86 : decode cX9_told 86 = .ok (.getfield 21, 3) := by decide +kernel
theorem dX9_told_89 : decode cX9_told 89 = .ok (.iload_n 1, 1) := by decide +kernel
theorem dX9_told_90 : decode cX9_told 90 = .ok (.invokevirtual 93, 3) := by decide +kernel
theorem dX9_told_93 : decode cX9_told 93 = .ok (.i2l, 1) := by decide +kernel
theorem dX9_told_94 : decode cX9_told 94 = .ok (.lreturn, 1) := by decide +kernel
theorem dX9_told_95 : decode cX9_told 95 = .ok (.aload_n 0, 1) := by decide +kernel
theorem dX9_told_96 : decode cX9_told 96 = .ok (.getfield 21, 3) := by decide +kernel
theorem dX9_told_99 : decode cX9_told 99 = .ok (.iload_n 1, 1) := by decide +kernel
theorem dX9_told_100 : decode cX9_told 100 = .ok (.invokevirtual 97, 3) := by decide +kernel
theorem dX9_told_103 : decode cX9_told 103 = .ok (.i2l, 1) := by decide +kernel
theorem dX9_told_104 : decode cX9_told 104 = .ok (.lreturn, 1) := by decide +kernel
theorem dX9_told_105 : decode cX9_told 105 = .ok (.ldc2_w 85, 3) := by decide +kernel
theorem dX9_told_108 : decode cX9_told 108 = .ok (.lreturn, 1) := by decide +kernel
theorem dX9_worth_0 : decode cX9_worth 0 = .ok (.iload_n 1, 1) := by decide +kernel
theorem dX9_worth_1 : decode cX9_worth 1 = .ok (.iconst 1, 1) := by decide +kernel
theorem dX9_worth_2 : decode cX9_worth 2 = .ok (.iconst 3, 1) := by decide +kernel
theorem dX9_worth_3 : decode cX9_worth 3 = .ok (.invokestatic 70, 3) := by decide +kernel
theorem dX9_worth_6 : decode cX9_worth 6 = .ok (.ifCond .eq 16, 3) := by decide +kernel
theorem dX9_worth_9 : decode cX9_worth 9 = .ok (.iload_n 2, 1) := by decide +kernel
theorem dX9_worth_10 : decode cX9_worth 10 = .ok (.sipush (-2000), 3) := by decide +kernel
theorem dX9_worth_13 : decode cX9_worth 13 = .ok (.sipush 2000, 3) := by decide +kernel
theorem dX9_worth_16 : decode cX9_worth 16 = .ok (.invokestatic 70, 3) := by decide +kernel
theorem dX9_worth_19 : decode cX9_worth 19 = .ok (.ifCond .ne 7, 3) := by decide +kernel
theorem dX9_worth_22 : decode cX9_worth 22 = .ok (.sipush (-9999), 3) := by decide +kernel
theorem dX9_worth_25 : decode cX9_worth 25 = .ok (.ireturn, 1) := by decide +kernel
theorem dX9_worth_26 : decode cX9_worth 26 = .ok (.aload_n 0, 1) := by decide +kernel
theorem dX9_worth_27 : decode cX9_worth 27 = .ok (.getfield 10, 3) := by decide +kernel
theorem dX9_worth_30 : decode cX9_worth 30 = .ok (.getfield 100, 3) := by decide +kernel
theorem dX9_worth_33 : decode cX9_worth 33 = .ok (.iload_n 1, 1) := by decide +kernel
theorem dX9_worth_34 : decode cX9_worth 34 = .ok (.iaload, 1) := by decide +kernel
theorem dX9_worth_35 : decode cX9_worth 35 = .ok (.istore_n 3, 1) := by decide +kernel
theorem dX9_worth_36 : decode cX9_worth 36 = .ok (.aload_n 0, 1) := by decide +kernel
theorem dX9_worth_37 : decode cX9_worth 37 = .ok (.getfield 10, 3) := by decide +kernel
theorem dX9_worth_40 : decode cX9_worth 40 = .ok (.getfield 100, 3) := by decide +kernel
theorem dX9_worth_43 : decode cX9_worth 43 = .ok (.iload_n 1, 1) := by decide +kernel
theorem dX9_worth_44 : decode cX9_worth 44 = .ok (.iload_n 2, 1) := by decide +kernel
theorem dX9_worth_45 : decode cX9_worth 45 = .ok (.iastore, 1) := by decide +kernel
theorem dX9_worth_46 : decode cX9_worth 46 = .ok (.iload_n 3, 1) := by decide +kernel
theorem dX9_worth_47 : decode cX9_worth 47 = .ok (.ireturn, 1) := by decide +kernel
theorem dX9_goes_0 : decode cX9_goes 0 = .ok (.iload_n 1, 1) := by decide +kernel
theorem dX9_goes_1 : decode cX9_goes 1 = .ok (.iconst 0, 1) := by decide +kernel
theorem dX9_goes_2 : decode cX9_goes 2 = .ok (.iconst 5, 1) := by decide +kernel
theorem dX9_goes_3 : decode cX9_goes 3 = .ok (.invokestatic 70, 3) := by decide +kernel
theorem dX9_goes_6 : decode cX9_goes 6 = .ok (.ifCond .eq 20, 3) := by decide +kernel
theorem dX9_goes_9 : decode cX9_goes 9 = .ok (.iload_n 2, 1) := by decide +kernel
theorem dX9_goes_10 : decode cX9_goes 10 = .ok (.invokestatic 103, 3) := by decide +kernel
theorem dX9_goes_13 : decode cX9_goes 13 = .ok (.ifCond .eq 13, 3) := by decide +kernel
theorem dX9_goes_16 : decode cX9_goes 16 = .ok (.iload_n 3, 1) := by decide +kernel
theorem dX9_goes_17 : decode cX9_goes 17 = .ok (.iconst 0, 1) := by decide +kernel
theorem dX9_goes_18 : decode cX9_goes 18 = .ok (.bipush 100, 2) := by decide +kernel
theorem dX9_goes_20 : decode cX9_goes 20 = .ok (.invokestatic 70, 3) := by decide +kernel
theorem dX9_goes_23 : decode cX9_goes 23 = .ok (.ifCond .ne 6, 3) := by decide +kernel
theorem dX9_goes_26 : decode cX9_goes 26 = .ok (.bipush (-2), 2) := by decide +kernel
theorem dX9_goes_28 : decode cX9_goes 28 = .ok (.ireturn, 1) := by decide +kernel
theorem dX9_goes_29 : decode cX9_goes 29 = .ok (.iload_n 1, 1) := by decide +kernel
theorem dX9_goes_30 : decode cX9_goes 30 = .ok (.iconst 4, 1) := by decide +kernel
theorem dX9_goes_31 : decode cX9_goes 31 = .ok (.imul, 1) := by decide +kernel
theorem dX9_goes_32 : decode cX9_goes 32 = .ok (.iload_n 2, 1) := by decide +kernel
theorem dX9_goes_33 : decode cX9_goes 33 = .ok (.iadd, 1) := by decide +kernel
theorem dX9_goes_34 : decode cX9_goes 34 = .ok (.istore 4, 2) := by decide +kernel
theorem dX9_goes_36 : decode cX9_goes 36 = .ok (.aload_n 0, 1) := by decide +kernel
theorem dX9_goes_37 : decode cX9_goes 37 = .ok (.getfield 10, 3) := by decide +kernel
theorem dX9_goes_40 : decode cX9_goes 40 = .ok (.getfield 106, 3) := by decide +kernel
theorem dX9_goes_43 : decode cX9_goes 43 = .ok (.iload 4, 2) := by decide +kernel
theorem dX9_goes_45 : decode cX9_goes 45 = .ok (.iaload, 1) := by decide +kernel
theorem dX9_goes_46 : decode cX9_goes 46 = .ok (.istore 5, 2) := by decide +kernel
theorem dX9_goes_48 : decode cX9_goes 48 = .ok (.aload_n 0, 1) := by decide +kernel
theorem dX9_goes_49 : decode cX9_goes 49 = .ok (.getfield 10, 3) := by decide +kernel
theorem dX9_goes_52 : decode cX9_goes 52 = .ok (.getfield 106, 3) := by decide +kernel
theorem dX9_goes_55 : decode cX9_goes 55 = .ok (.iload 4, 2) := by decide +kernel
theorem dX9_goes_57 : decode cX9_goes 57 = .ok (.iload_n 3, 1) := by decide +kernel
theorem dX9_goes_58 : decode cX9_goes 58 = .ok (.iastore, 1) := by decide +kernel
theorem dX9_goes_59 : decode cX9_goes 59 = .ok (.iload 5, 2) := by decide +kernel
theorem dX9_goes_61 : decode cX9_goes 61 = .ok (.ireturn, 1) := by decide +kernel
theorem dX9_like_0 : decode cX9_like 0 = .ok (.aload_n 0, 1) := by decide +kernel
theorem dX9_like_1 : decode cX9_like 1 = .ok (.getfield 10, 3) := by decide +kernel
theorem dX9_like_4 : decode cX9_like 4 = .ok (.iload_n 1, 1) := by decide +kernel
theorem dX9_like_5 : decode cX9_like 5 = .ok (.iload_n 2, 1) := by decide +kernel
theorem dX9_like_6 : decode cX9_like 6 = .ok (.invokevirtual 109, 3) := by decide +kernel
theorem dX9_like_9 : decode cX9_like 9 = .ok (.ifCond .eq 13, 3) := by decide +kernel
theorem dX9_like_12 : decode cX9_like 12 = .ok (.iload_n 3, 1) := by decide +kernel
theorem dX9_like_13 : decode cX9_like 13 = .ok (.iconst 0, 1) := by decide +kernel
theorem dX9_like_14 : decode cX9_like 14 = .ok (.bipush 100, 2) := by decide +kernel
theorem dX9_like_16 : decode cX9_like 16 = .ok (.invokestatic 70, 3) := by decide +kernel
theorem dX9_like_19 : decode cX9_like 19 = .ok (.ifCond .ne 6, 3) := by decide +kernel
theorem dX9_like_22 : decode cX9_like 22 = .ok (.bipush (-2), 2) := by decide +kernel
theorem dX9_like_24 : decode cX9_like 24 = .ok (.ireturn, 1) := by decide +kernel
theorem dX9_like_25 : decode cX9_like 25 = .ok (.aload_n 0, 1) := by decide +kernel
theorem dX9_like_26 : decode cX9_like 26 = .ok (.getfield 10, 3) := by decide +kernel
theorem dX9_like_29 : decode cX9_like 29 = .ok (.iload_n 1, 1) := by decide +kernel
theorem dX9_like_30 : decode cX9_like 30 = .ok (.iload_n 2, 1) := by decide +kernel
theorem dX9_like_31 : decode cX9_like 31 = .ok (.invokevirtual 113, 3) := by decide +kernel
theorem dX9_like_34 : decode cX9_like 34 = .ok (.istore 4, 2) := by decide +kernel
theorem dX9_like_36 : decode cX9_like 36 = .ok (.aload_n 0, 1) := by decide +kernel
theorem dX9_like_37 : decode cX9_like 37 = .ok (.getfield 10, 3) := by decide +kernel
theorem dX9_like_40 : decode cX9_like 40 = .ok (.iload_n 1, 1) := by decide +kernel
theorem dX9_like_41 : decode cX9_like 41 = .ok (.iload_n 2, 1) := by decide +kernel
theorem dX9_like_42 : decode cX9_like 42 = .ok (.iload_n 3, 1) := by decide +kernel
theorem dX9_like_43 : decode cX9_like 43 = .ok (.invokevirtual 117, 3) := by decide +kernel
theorem dX9_like_46 : decode cX9_like 46 = .ok (.iload 4, 2) := by decide +kernel
theorem dX9_like_48 : decode cX9_like 48 = .ok (.ireturn, 1) := by decide +kernel
theorem dX9_pace_0 : decode cX9_pace 0 = .ok (.iload_n 1, 1) := by decide +kernel
theorem dX9_pace_1 : decode cX9_pace 1 = .ok (.iconst 1, 1) := by decide +kernel
theorem dX9_pace_2 : decode cX9_pace 2 = .ok (.bipush 100, 2) := by decide +kernel
theorem dX9_pace_4 : decode cX9_pace 4 = .ok (.invokestatic 70, 3) := by decide +kernel
theorem dX9_pace_7 : decode cX9_pace 7 = .ok (.ifCond .ne 6, 3) := by decide +kernel
theorem dX9_pace_10 : decode cX9_pace 10 = .ok (.bipush (-2), 2) := by decide +kernel
theorem dX9_pace_12 : decode cX9_pace 12 = .ok (.ireturn, 1) := by decide +kernel
theorem dX9_pace_13 : decode cX9_pace 13 = .ok (.aload_n 0, 1) := by decide +kernel
theorem dX9_pace_14 : decode cX9_pace 14 = .ok (.getfield 21, 3) := by decide +kernel
theorem dX9_pace_17 : decode cX9_pace 17 = .ok (.getfield 121, 3) := by decide +kernel
theorem dX9_pace_20 : decode cX9_pace 20 = .ok (.istore_n 2, 1) := by decide +kernel
theorem dX9_pace_21 : decode cX9_pace 21 = .ok (.aload_n 0, 1) := by decide +kernel
theorem dX9_pace_22 : decode cX9_pace 22 = .ok (.getfield 21, 3) := by decide +kernel
theorem dX9_pace_25 : decode cX9_pace 25 = .ok (.iload_n 1, 1) := by decide +kernel
theorem dX9_pace_26 : decode cX9_pace 26 = .ok (.putfield 121, 3) := by decide +kernel
theorem dX9_pace_29 : decode cX9_pace 29 = .ok (.iload_n 2, 1) := by decide +kernel
theorem dX9_pace_30 : decode cX9_pace 30 = .ok (.ireturn, 1) := by decide +kernel
