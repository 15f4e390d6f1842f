theorem dX10_isSign_29 : decode cX10_isSign 29 = .ok (.iconst 0, 1) := by decide +kernel
theorem dX10_isSign_30 : decode cX10_isSign 30 = .ok (.ireturn, 1) := by decide +kernel
theorem dX10_opens_0 : decode cX10_opens 0 = .ok (.aload_n 0, 1) := by decide +kernel
theorem dX10_opens_1 : decode cX10_opens 1 = .ok (.getfield 213, 3) := by decide +kernel
theorem dX10_opens_4 : decode cX10_opens 4 = .ok (.iconst 5, 1) := by decide +kernel
theorem dX10_opens_5 : decode cX10_opens 5 = .ok (.if_icmp .ne 9, 3) := by decide +kernel
theorem dX10_opens_8 : decode cX10_opens 8 = .ok (.aload_n 0, 1) := by decide +kernel
theorem dX10_opens_9 : decode cX10_opens 9 = .ok (.invokevirtual 216, 3) := by decide +kernel
theorem dX10_opens_12 : decode cX10_opens 12 = .ok (.iconst 0, 1) := by decide +kernel
theorem dX10_opens_13 : decode cX10_opens 13 = .ok (.ireturn, 1) := by decide +kernel
theorem dX10_opens_14 : decode cX10_opens 14 = .ok (.aload_n 0, 1) := by decide +kernel
theorem dX10_opens_15 : decode cX10_opens 15 = .ok (.dup, 1) := by decide +kernel
theorem dX10_opens_16 : decode cX10_opens 16 = .ok (.getfield 213, 3) := by decide +kernel
theorem dX10_opens_19 : decode cX10_opens 19 = .ok (.iconst 1, 1) := by decide +kernel
theorem dX10_opens_20 : decode cX10_opens 20 = .ok (.iadd, 1) := by decide +kernel
theorem dX10_opens_21 : decode cX10_opens 21 = .ok (.putfield 213, 3) := by decide +kernel
theorem dX10_opens_24 : decode cX10_opens 24 = .ok (.aload_n 0, 1) := by decide +kernel
theorem dX10_opens_25 : decode cX10_opens 25 = .ok (.invokevirtual 219, 3) := by decide +kernel
theorem dX10_opens_28 : decode cX10_opens 28 = .ok (.iconst 1, 1) := by decide +kernel
theorem dX10_opens_29 : decode cX10_opens 29 = .ok (.ireturn, 1) := by decide +kernel
theorem dX10_name_0 : decode cX10_name 0 = .ok (.aload_n 0, 1) := by decide +kernel
theorem dX10_name_1 : decode cX10_name 1 = .ok (.ldc2_w 222, 3) := by decide +kernel
theorem dX10_name_4 : decode cX10_name 4 = .ok (.invokevirtual 224, 3) := by decide +kernel
theorem dX10_name_7 : decode cX10_name 7 = .ok (.ifCond .eq 13, 3) := by decide +kernel
theorem dX10_name_10 : decode cX10_name 10 = .ok (.aload_n 0, 1) := by decide +kernel
theorem dX10_name_11 : decode cX10_name 11 = .ok (.getfield 26, 3) := by decide +kernel
theorem dX10_name_14 : decode cX10_name 14 = .ok (.aload_n 0, 1) := by decide +kernel
theorem dX10_name_15 : decode cX10_name 15 = .ok (.getfield 228, 3) := by decide +kernel
theorem dX10_name_18 : decode cX10_name 18 = .ok (.iaload, 1) := by decide +kernel
theorem dX10_name_19 : decode cX10_name 19 = .ok (.ireturn, 1) := by decide +kernel
theorem dX10_name_20 : decode cX10_name 20 = .ok (.aload_n 0, 1) := by decide +kernel
theorem dX10_name_21 : decode cX10_name 21 = .ok (.ldc2_w 231, 3) := by decide +kernel
theorem dX10_name_24 : decode cX10_name 24 = .ok (.invokevirtual 224, 3) := by decide +kernel
theorem dX10_name_27 : decode cX10_name 27 = .ok (.ifCond .eq 8, 3) := by decide +kernel
theorem dX10_name_30 : decode cX10_name 30 = .ok (.aload_n 0, 1) := by decide +kernel
theorem dX10_name_31 : decode cX10_name 31 = .ok (.getfield 233, 3) := by decide +kernel
theorem dX10_name_34 : decode cX10_name 34 = .ok (.ireturn, 1) := by decide +kernel
theorem dX10_name_35 : decode cX10_name 35 = .ok (.aload_n 0, 1) := by decide +kernel
theorem dX10_name_36 : decode cX10_name 36 = .ok (.ldc2_w 236, 3) := by decide +kernel
theorem dX10_name_39 : decode cX10_name 39 = .ok (.invokevirtual 224, 3) := by decide +kernel
theorem dX10_name_42 : decode cX10_name 42 = .ok (.ifCond .eq 8, 3) := by decide +kernel
theorem dX10_name_45 : decode cX10_name 45 = .ok (.aload_n 0, 1) := by decide +kernel
theorem dX10_name_46 : decode cX10_name 46 = .ok (.getfield 238, 3) := by decide +kernel
theorem dX10_name_49 : decode cX10_name 49 = .ok (.ireturn, 1) := by decide +kernel
theorem dX10_name_50 : decode cX10_name 50 = .ok (.aload_n 0, 1) := by decide +kernel
theorem dX10_name_51 : decode cX10_name 51 = .ok (.ldc2_w 241, 3) := by decide +kernel
theorem dX10_name_54 : decode cX10_name 54 = .ok (.invokevirtual 224, 3) := by decide +kernel
theorem dX10_name_57 : decode cX10_name 57 = .ok (.ifCond .eq 13, 3) := by decide +kernel
theorem dX10_name_60 : decode cX10_name 60 = .ok (.aload_n 0, 1) := by decide +kernel
theorem dX10_name_61 : decode cX10_name 61 = .ok (.getfield 23, 3) := by decide +kernel
theorem dX10_name_64 : decode cX10_name 64 = .ok (.aload_n 0, 1) := by decide +kernel
theorem dX10_name_65 : decode cX10_name 65 = .ok (.getfield 228, 3) := by decide +kernel
theorem dX10_name_68 : decode cX10_name 68 = .ok (.iaload, 1) := by decide +kernel
theorem dX10_name_69 : decode cX10_name 69 = .ok (.ireturn, 1) := by decide +kernel
theorem dX10_name_70 : decode cX10_name 70 = .ok (.aload_n 0, 1) := by decide +kernel
theorem dX10_name_71 : decode cX10_name 71 = .ok (.ldc2_w 243, 3) := by decide +kernel
theorem dX10_name_74 : decode cX10_name 74 = .ok (.invokevirtual 224, 3) := by decide +kernel
theorem dX10_name_77 : decode cX10_name 77 = .ok (.ifCond .eq 8, 3) := by decide +kernel
theorem dX10_name_80 : decode cX10_name 80 = .ok (.aload_n 0, 1) := by decide +kernel
theorem dX10_name_81 : decode cX10_name 81 = .ok (.getfield 245, 3) := by decide +kernel
theorem dX10_name_84 : decode cX10_name 84 = .ok (.ireturn, 1) := by decide +kernel
theorem dX10_name_85 : decode cX10_name 85 = .ok (.aload_n 0, 1) := by decide +kernel
theorem dX10_name_86 : decode cX10_name 86 = .ok (.ldc2_w 248, 3) := by decide +kernel
theorem dX10_name_89 : decode cX10_name 89 = .ok (.invokevirtual 224, 3) := by decide +kernel
theorem dX10_name_92 : decode cX10_name 92 = .ok (.ifCond .eq 8, 3) := by decide +kernel
theorem dX10_name_95 : decode cX10_name 95 = .ok (.aload_n 0, 1) := by decide +kernel
theorem dX10_name_96 : decode cX10_name 96 = .ok (.getfield 250, 3) := by decide +kernel
theorem dX10_name_99 : decode cX10_name 99 = .ok (.ireturn, 1) := by decide +kernel
theorem dX10_name_100 : decode cX10_name 100 = .ok (.aload_n 0, 1) := by decide +kernel
theorem dX10_name_101 : decode cX10_name 101 = .ok (.invokevirtual 216, 3) := by decide +kernel
theorem dX10_name_104 : decode cX10_name 104 = .ok (.iconst 0, 1) := by decide +kernel
theorem dX10_name_105 : decode cX10_name 105 = .ok (.ireturn, 1) := by decide +kernel
theorem dX10_one_0 : decode cX10_one 0 = .ok (.iconst 0, 1) := by decide +kernel
theorem dX10_one_1 : decode cX10_one 1 = .ok (.istore_n 1, 1) := by decide +kernel
theorem dX10_one_2 : decode cX10_one 2 = .ok (.aload_n 0, 1) := by decide +kernel
theorem dX10_one_3 : decode cX10_one 3 = .ok (.bipush 45, 2) := by decide +kernel
theorem dX10_one_5 : decode cX10_one 5 = .ok (.invokevirtual 253, 3) := by decide +kernel
theorem dX10_one_8 : decode cX10_one 8 = .ok (.ifCond .eq 29, 3) := by decide +kernel
theorem dX10_one_11 : decode cX10_one 11 = .ok (.aload_n 0, 1) := by decide +kernel
theorem dX10_one_12 : decode cX10_one 12 = .ok (.invokevirtual 256, 3) := by decide +kernel
theorem dX10_one_15 : decode cX10_one 15 = .ok (.ifCond .eq 146, 3) := by decide +kernel
theorem dX10_one_18 : decode cX10_one 18 = .ok (.aload_n 0, 1) := by decide +kernel
theorem dX10_one_19 : decode cX10_one 19 = .ok (.invokevirtual 260, 3) := by decide +kernel
theorem dX10_one_22 : decode cX10_one 22 = .ok (.ineg, 1) := by decide +kernel
theorem dX10_one_23 : decode cX10_one 23 = .ok (.istore_n 1, 1) := by decide +kernel
theorem dX10_one_24 : decode cX10_one 24 = .ok (.aload_n 0, 1) := by decide +kernel
theorem dX10_one_25 : decode cX10_one 25 = .ok (.dup, 1) := by decide +kernel
theorem dX10_one_26 : decode cX10_one 26 = .ok (.getfield 213, 3) := by decide +kernel
theorem dX10_one_29 : decode cX10_one 29 = .ok (.iconst 1, 1) := by decide +kernel
theorem dX10_one_30 : decode cX10_one 30 = .ok (.isub, 1) := by decide +kernel
theorem dX10_one_31 : decode cX10_one 31 = .ok (.putfield 213, 3) := by decide +kernel
theorem dX10_one_34 : decode cX10_one 34 = .ok (.goto 127, 3) := by decide +kernel
theorem dX10_one_37 : decode cX10_one 37 = .ok (.aload_n 0, 1) := by decide +kernel
theorem dX10_one_38 : decode cX10_one 38 = .ok (.bipush 40, 2) := by decide +kernel
theorem dX10_one_40 : decode cX10_one 40 = .ok (.invokevirtual 253, 3) := by decide +kernel
theorem dX10_one_43 : decode cX10_one 43 = .ok (.ifCond .eq 52, 3) := by decide +kernel
theorem dX10_one_46 : decode cX10_one 46 = .ok (.aload_n 0, 1) := by decide +kernel
theorem dX10_one_47 : decode cX10_one 47 = .ok (.invokevirtual 256, 3) := by decide +kernel
theorem dX10_one_50 : decode cX10_one 50 = .ok (.ifCond .eq 111, 3) := by decide +kernel
theorem dX10_one_53 : decode cX10_one 53 = .ok (.aload_n 0, 1) := by decide +kernel
theorem dX10_one_54 : decode cX10_one 54 = .ok (.invokevirtual 264, 3) := by decide +kernel
theorem dX10_one_57 : decode cX10_one 57 = .ok (.istore_n 1, 1) := by decide +kernel
theorem dX10_one_58 : decode cX10_one 58 = .ok (.aload_n 0, 1) := by decide +kernel
theorem dX10_one_59 : decode cX10_one 59 = .ok (.bipush 41, 2) := by decide +kernel
theorem dX10_one_61 : decode cX10_one 61 = .ok (.invokevirtual 253, 3) := by decide +kernel
theorem dX10_one_64 : decode cX10_one 64 = .ok (.ifCond .ne 7, 3) := by decide +kernel
theorem dX10_one_67 : decode cX10_one 67 = .ok (.aload_n 0, 1) := by decide +kernel
theorem dX10_one_68 : decode cX10_one 68 = .ok (.invokevirtual 216, 3) := by decide +kernel
theorem dX10_one_71 : decode cX10_one 71 = .ok (.aload_n 0, 1) := by decide +kernel
theorem dX10_one_72 : decode cX10_one 72 = .ok (.dup, 1) := by decide +kernel
theorem dX10_one_73 : decode cX10_one 73 = .ok (.getfield 213, 3) := by decide +kernel
theorem dX10_one_76 : decode cX10_one 76 = .ok (.iconst 1, 1) := by decide +kernel
theorem dX10_one_77 : decode cX10_one 77 = .ok (.isub, 1) := by decide +kernel
theorem dX10_one_78 : decode cX10_one 78 = .ok (.putfield 213, 3) := by decide +kernel
theorem dX10_one_81 : decode cX10_one 81 = .ok (.aload_n 0, 1) := by decide +kernel
theorem dX10_one_82 : decode cX10_one 82 = .ok (.getfield 206, 3) := by decide +kernel
theorem dX10_one_85 : decode cX10_one 85 = .ok (.ifCond .ne 76, 3) := by decide +kernel
theorem dX10_one_88 : decode cX10_one 88 = .ok (.aload_n 0, 1) := by decide +kernel
theorem dX10_one_89 : decode cX10_one 89 = .ok (.invokevirtual 219, 3) := by decide +kernel
theorem dX10_one_92 : decode cX10_one 92 = .ok (.goto 69, 3) := by decide +kernel
theorem dX10_one_95 : decode cX10_one 95 = .ok (.aload_n 0, 1) := by decide +kernel
theorem dX10_one_96 : decode cX10_one 96 = .ok (.getfield 206, 3) := by decide +kernel
theorem dX10_one_99 : decode cX10_one 99 = .ok (.ifCond .ne 24, 3) := by decide +kernel
theorem dX10_one_102 : decode cX10_one 102 = .ok (.aload_n 0, 1) := by decide +kernel
theorem dX10_one_103 : decode cX10_one 103 = .ok (.getfield 183, 3) := by decide +kernel
theorem dX10_one_106 : decode cX10_one 106 = .ok (.iconst 2, 1) := by decide +kernel
theorem dX10_one_107 : decode cX10_one 107 = .ok (.if_icmp .ne 16, 3) := by decide +kernel
theorem dX10_one_110 : decode cX10_one 110 = .ok (.aload_n 0, 1) := by decide +kernel
theorem dX10_one_111 : decode cX10_one 111 = .ok (.getfield 190, 3) := by decide +kernel
theorem dX10_one_114 : decode cX10_one 114 = .ok (.l2i, 1) := by decide +kernel
theorem dX10_one_115 : decode cX10_one 115 = .ok (.istore_n 1, 1) := by decide +kernel
theorem dX10_one_116 : decode cX10_one 116 = .ok (.aload_n 0, 1) := by decide +kernel
theorem dX10_one_117 : decode cX10_one 117 = .ok (.invokevirtual 219, 3) := by decide +kernel
theorem dX10_one_120 : decode cX10_one 120 = .ok (.goto 41, 3) := by decide +kernel
theorem dX10_one_123 : decode cX10_one 123 = .ok (.aload_n 0, 1) := by decide +kernel
theorem dX10_one_124 : decode cX10_one 124 = .ok (.getfield 206, 3) := by decide +kernel
theorem dX10_one_127 : decode cX10_one 127 = .ok (.ifCond .ne 30, 3) := by decide +kernel
theorem dX10_one_130 : decode cX10_one 130 = .ok (.aload_n 0, 1) := by decide +kernel
theorem dX10_one_131 : decode cX10_one 131 = .ok (.getfield 183, 3) := by decide +kernel
theorem dX10_one_134 : decode cX10_one 134 = .ok (.iconst 1, 1) := by decide +kernel
theorem dX10_one_135 : decode cX10_one 135 = .ok (.if_icmp .ne 22, 3) := by decide +kernel
theorem dX10_one_138 : decode cX10_one 138 = .ok (.aload_n 0, 1) := by decide +kernel
theorem dX10_one_139 : decode cX10_one 139 = .ok (.invokevirtual 267, 3) := by decide +kernel
theorem dX10_one_142 : decode cX10_one 142 = .ok (.istore_n 1, 1) := by decide +kernel
theorem dX10_one_143 : decode cX10_one 143 = .ok (.aload_n 0, 1) := by decide +kernel
theorem dX10_one_144 : decode cX10_one 144 = .ok (.getfield 206, 3) := by decide +kernel
theorem dX10_one_147 : decode cX10_one 147 = .ok (.ifCond .ne 14, 3) := by decide +kernel
theorem dX10_one_150 : decode cX10_one 150 = .ok (.aload_n 0, 1) := by decide +kernel
theorem dX10_one_151 : decode cX10_one 151 = .ok (.invokevirtual 219, 3) := by decide +kernel
theorem dX10_one_154 : decode cX10_one 154 = .ok (.goto 7, 3) := by decide +kernel
theorem dX10_one_157 : decode cX10_one 157 = .ok (.aload_n 0, 1) := by decide +kernel
theorem dX10_one_158 : decode cX10_one 158 = .ok (.invokevirtual 216, 3) := by decide +kernel
theorem dX10_one_161 : decode cX10_one 161 = .ok (.iload_n 1, 1) := by decide +kernel
theorem dX10_one_162 : decode cX10_one 162 = .ok (.ireturn, 1) := by decide +kernel
theorem dX10_term_0 : decode cX10_term 0 = .ok (.aload_n 0, 1) := by decide +kernel
theorem dX10_term_1 : decode cX10_term 1 = .ok (.invokevirtual 260, 3) := by decide +kernel
theorem dX10_term_4 : decode cX10_term 4 = .ok (.istore_n 1, 1) := by decide +kernel
theorem dX10_term_5 : decode cX10_term 5 = .ok (.aload_n 0, 1) := by decide +kernel
theorem dX10_term_6 : decode cX10_term 6 = .ok (.bipush 42, 2) := by decide +kernel
theorem dX10_term_8 : decode cX10_term 8 = .ok (.invokevirtual 253, 3) := by decide +kernel
theorem dX10_term_11 : decode cX10_term 11 = .ok (.ifCond .eq 17, 3) := by decide +kernel
theorem dX10_term_14 : decode cX10_term 14 = .ok (.aload_n 0, 1) := by decide +kernel
theorem dX10_term_15 : decode cX10_term 15 = .ok (.invokevirtual 219, 3) := by decide +kernel
theorem dX10_term_18 : decode cX10_term 18 = .ok (.iload_n 1, 1) := by decide +kernel
theorem dX10_term_19 : decode cX10_term 19 = .ok (.aload_n 0, 1) := by decide +kernel
theorem dX10_term_20 : decode cX10_term 20 = .ok (.invokevirtual 260, 3) := by decide +kernel
theorem dX10_term_23 : decode cX10_term 23 = .ok (.imul, 1) := by decide +kernel
theorem dX10_term_24 : decode cX10_term 24 = .ok (.istore_n 1, 1) := by decide +kernel
theorem dX10_term_25 : decode cX10_term 25 = .ok (.goto (-20), 3) := by decide +kernel
theorem dX10_term_28 : decode cX10_term 28 = .ok (.iload_n 1, 1) := by decide +kernel
theorem dX10_term_29 : decode cX10_term 29 = .ok (.ireturn, 1) := by decide +kernel
theorem dX10_added_0 : decode cX10_added 0 = .ok (.aload_n 0, 1) := by decide +kernel
theorem dX10_added_1 : decode cX10_added 1 = .ok (.invokevirtual 270, 3) := by decide +kernel
theorem dX10_added_4 : decode cX10_added 4 = .ok (.istore_n 1, 1) := by decide +kernel
theorem dX10_added_5 : decode cX10_added 5 = .ok (.aload_n 0, 1) := by decide +kernel
theorem dX10_added_6 : decode cX10_added 6 = .ok (.bipush 43, 2) := by decide +kernel
theorem dX10_added_8 : decode cX10_added 8 = .ok (.invokevirtual 253, 3) := by decide +kernel
theorem dX10_added_11 : decode cX10_added 11 = .ok (.ifCond .ne 12, 3) := by decide +kernel
theorem dX10_added_14 : decode cX10_added 14 = .ok (.aload_n 0, 1) := by decide +kernel
theorem dX10_added_15 : decode cX10_added 15 = .ok (.bipush 45, 2) := by decide +kernel
theorem dX10_added_17 : decode cX10_added 17 = .ok (.invokevirtual 253, 3) := by decide +kernel
theorem dX10_added_20 : decode cX10_added 20 = .ok (.ifCond .eq 46, 3) := by decide +kernel
theorem dX10_added_23 : decode cX10_added 23 = .ok (.aload_n 0, 1) := by decide +kernel
theorem dX10_added_24 : decode cX10_added 24 = .ok (.getfield 190, 3) := by decide +kernel
theorem dX10_added_27 : decode cX10_added 27 = .ok (.ldc2_w 273, 3) := by decide +kernel
theorem dX10_added_30 : decode cX10_added 30 = .ok (.lcmp, 1) := by decide +kernel
theorem dX10_added_31 : decode cX10_added 31 = .ok (.ifCond .ne 7, 3) := by decide +kernel
theorem dX10_added_34 : decode cX10_added 34 = .ok (.iconst 1, 1) := by decide +kernel
theorem dX10_added_35 : decode cX10_added 35 = .ok (.goto 4, 3) := by decide +kernel
theorem dX10_added_38 : decode cX10_added 38 = .ok (.iconst 0, 1) := by decide +kernel
theorem dX10_added_39 : decode cX10_added 39 = .ok (.istore_n 2, 1) := by decide +kernel
theorem dX10_added_40 : decode cX10_added 40 = .ok (.aload_n 0, 1) := by decide +kernel
theorem dX10_added_41 : decode cX10_added 41 = .ok (.invokevirtual 219, 3) := by decide +kernel
theorem dX10_added_44 : decode cX10_added 44 = .ok (.aload_n 0, 1) := by decide +kernel
theorem dX10_added_45 : decode cX10_added 45 = .ok (.invokevirtual 270, 3) := by decide +kernel
theorem dX10_added_48 : decode cX10_added 48 = .ok (.istore_n 3, 1) := by decide +kernel
theorem dX10_added_49 : decode cX10_added 49 = .ok (.iload_n 2, 1) := by decide +kernel
theorem dX10_added_50 : decode cX10_added 50 = .ok (.ifCond .eq 9, 3) := by decide +kernel
theorem dX10_added_53 : decode cX10_added 53 = .ok (.iload_n 1, 1) := by decide +kernel
theorem dX10_added_54 : decode cX10_added 54 = .ok (.iload_n 3, 1) := by decide +kernel
theorem dX10_added_55 : decode cX10_added 55 = .ok (.iadd, 1) := by decide +kernel
theorem dX10_added_56 : decode cX10_added 56 = .ok (.goto 6, 3) := by decide +kernel
theorem dX10_added_59 : decode cX10_added 59 = .ok (.iload_n 1, 1) := by decide +kernel
theorem dX10_added_60 : decode cX10_added 60 = .ok (.iload_n 3, 1) := by decide +kernel
theorem dX10_added_61 : decode cX10_added 61 = .ok (.isub, 1) := by decide +kernel
theorem dX10_added_62 : decode cX10_added 62 = .ok (.istore_n 1, 1) := by decide +kernel
theorem dX10_added_63 : decode cX10_added 63 = .ok (.goto (-58), 3) := by decide +kernel
theorem dX10_added_66 : decode cX10_added 66 = .ok (.iload_n 1, 1) := by decide +kernel
theorem dX10_added_67 : decode cX10_added 67 = .ok (.ireturn, 1) := by decide +kernel
theorem dX10_not_0 : decode cX10_not 0 = .ok (.aload_n 0, 1) := by decide +kernel
theorem dX10_not_1 : decode cX10_not 1 = .ok (.ldc2_w 275, 3) := by decide +kernel
theorem dX10_not_4 : decode cX10_not 4 = .ok (.invokevirtual 224, 3) := by decide +kernel
theorem dX10_not_7 : decode cX10_not 7 = .ok (.ifCond .eq 37, 3) := by decide +kernel
theorem dX10_not_10 : decode cX10_not 10 = .ok (.aload_n 0, 1) := by decide +kernel
theorem dX10_not_11 : decode cX10_not 11 = .ok (.invokevirtual 256, 3) := by decide +kernel
theorem dX10_not_14 : decode cX10_not 14 = .ok (.ifCond .ne 5, 3) := by decide +kernel
theorem dX10_not_17 : decode cX10_not 17 = .ok (.iconst 0, 1) := by decide +kernel
theorem dX10_not_18 : decode cX10_not 18 = .ok (.ireturn, 1) := by decide +kernel
theorem dX10_not_19 : decode cX10_not 19 = .ok (.aload_n 0, 1) := by decide +kernel
theorem dX10_not_20 : decode cX10_not 20 = .ok (.invokevirtual 277, 3) := by decide +kernel
theorem dX10_not_23 : decode cX10_not 23 = .ok (.istore_n 1, 1) := by decide +kernel
theorem dX10_not_24 : decode cX10_not 24 = .ok (.aload_n 0, 1) := by decide +kernel
theorem dX10_not_25 : decode cX10_not 25 = .ok (.dup, 1) := by decide +kernel
theorem dX10_not_26 : decode cX10_not 26 = .ok (.getfield 213, 3) := by decide +kernel
theorem dX10_not_29 : decode cX10_not 29 = .ok (.iconst 1, 1) := by decide +kernel
theorem dX10_not_30 : decode cX10_not 30 = .ok (.isub, 1) := by decide +kernel
theorem dX10_not_31 : decode cX10_not 31 = .ok (.putfield 213, 3) := by decide +kernel
theorem dX10_not_34 : decode cX10_not 34 = .ok (.iload_n 1, 1) := by decide +kernel
theorem dX10_not_35 : decode cX10_not 35 = .ok (.ifCond .ne 7, 3) := by decide +kernel
theorem dX10_not_38 : decode cX10_not 38 = .ok (.iconst 1, 1) := by decide +kernel
theorem dX10_not_39 : decode cX10_not 39 = .ok (.goto 4, 3) := by decide +kernel
theorem dX10_not_42 : decode cX10_not 42 = .ok (.iconst 0, 1) := by decide +kernel
theorem dX10_not_43 : decode cX10_not 43 = .ok (.ireturn, 1) := by decide +kernel
theorem dX10_not_44 : decode cX10_not 44 = .ok (.aload_n 0, 1) := by decide +kernel
theorem dX10_not_45 : decode cX10_not 45 = .ok (.invokevirtual 280, 3) := by decide +kernel
theorem dX10_not_48 : decode cX10_not 48 = .ok (.istore_n 1, 1) := by decide +kernel
theorem dX10_not_49 : decode cX10_not 49 = .ok (.aload_n 0, 1) := by decide +kernel
theorem dX10_not_50 : decode cX10_not 50 = .ok (.bipush 60, 2) := by decide +kernel
theorem dX10_not_52 : decode cX10_not 52 = .ok (.invokevirtual 253, 3) := by decide +kernel
theorem dX10_not_55 : decode cX10_not 55 = .ok (.ifCond .ne 14, 3) := by decide +kernel
theorem dX10_not_58 : decode cX10_not 58 = .ok (.aload_n 0, 1) := by decide +kernel
theorem dX10_not_59 : decode cX10_not 59 = .ok (.bipush 61, 2) := by decide +kernel
theorem dX10_not_61 : decode cX10_not 61 = .ok (.invokevirtual 253, 3) := by decide +kernel
theorem dX10_not_64 : decode cX10_not 64 = .ok (.ifCond .ne 5, 3) := by decide +kernel
theorem dX10_not_67 : decode cX10_not 67 = .ok (.iload_n 1, 1) := by decide +kernel
theorem dX10_not_68 : decode cX10_not 68 = .ok (.ireturn, 1) := by decide +kernel
theorem dX10_not_69 : decode cX10_not 69 = .ok (.aload_n 0, 1) := by decide +kernel
theorem dX10_not_70 : decode cX10_not 70 = .ok (.getfield 190, 3) := by decide +kernel
theorem dX10_not_73 : decode cX10_not 73 = .ok (.ldc2_w 283, 3) := by decide +kernel
theorem dX10_not_76 : decode cX10_not 76 = .ok (.lcmp, 1) := by decide +kernel
theorem dX10_not_77 : decode cX10_not 77 = .ok (.ifCond .ne 7, 3) := by decide +kernel
theorem dX10_not_80 : decode cX10_not 80 = .ok (.iconst 1, 1) := by decide +kernel
theorem dX10_not_81 : decode cX10_not 81 = .ok (.goto 4, 3) := by decide +kernel
theorem dX10_not_84 : decode cX10_not 84 = .ok (.iconst 0, 1) := by decide +kernel
theorem dX10_not_85 : decode cX10_not 85 = .ok (.istore_n 2, 1) := by decide +kernel
theorem dX10_not_86 : decode cX10_not 86 = .ok (.aload_n 0, 1) := by decide +kernel
theorem dX10_not_87 : decode cX10_not 87 = .ok (.invokevirtual 219, 3) := by decide +kernel
theorem dX10_not_90 : decode cX10_not 90 = .ok (.aload_n 0, 1) := by decide +kernel
theorem dX10_not_91 : decode cX10_not 91 = .ok (.invokevirtual 280, 3) := by decide +kernel
theorem dX10_not_94 : decode cX10_not 94 = .ok (.istore_n 3, 1) := by decide +kernel
theorem dX10_not_95 : decode cX10_not 95 = .ok (.iload_n 2, 1) := by decide +kernel
theorem dX10_not_96 : decode cX10_not 96 = .ok (.ifCond .eq 11, 3) := by decide +kernel
theorem dX10_not_99 : decode cX10_not 99 = .ok (.iload_n 1, 1) := by decide +kernel
theorem dX10_not_100 : decode cX10_not 100 = .ok (.iload_n 3, 1) := by decide +kernel
theorem dX10_not_101 : decode cX10_not 101 = .ok (.if_icmp .ge 15, 3) := by decide +kernel
theorem dX10_not_104 : decode cX10_not 104 = .ok (.goto 8, 3) := by decide +kernel
theorem dX10_not_107 : decode cX10_not 107 = .ok (.iload_n 1, 1) := by decide +kernel
theorem dX10_not_108 : decode cX10_not 108 = .ok (.iload_n 3, 1) := by decide +kernel
theorem dX10_not_109 : decode cX10_not 109 = .ok (.if_icmp .ne 7, 3) := by decide +kernel
theorem dX10_not_112 : decode cX10_not 112 = .ok (.iconst 1, 1) := by decide +kernel
theorem dX10_not_113 : decode cX10_not 113 = .ok (.goto 4, 3) := by decide +kernel
theorem dX10_not_116 : decode cX10_not 116 = .ok (.iconst 0, 1) := by decide +kernel
theorem dX10_not_117 : decode cX10_not 117 = .ok (.ireturn, 1) := by decide +kernel
theorem dX10_both_0 : decode cX10_both 0 = .ok (.aload_n 0, 1) := by decide +kernel
theorem dX10_both_1 : decode cX10_both 1 = .ok (.invokevirtual 277, 3) := by decide +kernel
theorem dX10_both_4 : decode cX10_both 4 = .ok (.istore_n 1, 1) := by decide +kernel
theorem dX10_both_5 : decode cX10_both 5 = .ok (.aload_n 0, 1) := by decide +kernel
theorem dX10_both_6 : decode cX10_both 6 = .ok (.ldc2_w 285, 3) := by decide +kernel
theorem dX10_both_9 : decode cX10_both 9 = .ok (.invokevirtual 224, 3) := by decide +kernel
theorem dX10_both_12 : decode cX10_both 12 = .ok (.ifCond .eq 29, 3) := by decide +kernel
theorem dX10_both_15 : decode cX10_both 15 = .ok (.aload_n 0, 1) := by decide +kernel
theorem dX10_both_16 : decode cX10_both 16 = .ok (.invokevirtual 219, 3) := by decide +kernel
theorem dX10_both_19 : decode cX10_both 19 = .ok (.aload_n 0, 1) := by decide +kernel
theorem dX10_both_20 : decode cX10_both 20 = .ok (.invokevirtual 277, 3) := by decide +kernel
theorem dX10_both_23 : decode cX10_both 23 = .ok (.istore_n 2, 1) := by decide +kernel
theorem dX10_both_24 : decode cX10_both 24 = .ok (.iload_n 1, 1) := by decide +kernel
theorem dX10_both_25 : decode cX10_both 25 = .ok (.ifCond .eq 11, 3) := by decide +kernel
theorem dX10_both_28 : decode cX10_both 28 = .ok (.iload_n 2, 1) := by decide +kernel
theorem dX10_both_29 : decode cX10_both 29 = .ok (.ifCond .eq 7, 3) := by decide +kernel
theorem dX10_both_32 : decode cX10_both 32 = .ok (.iconst 1, 1) := by decide +kernel
theorem dX10_both_33 : decode cX10_both 33 = .ok (.goto 4, 3) := by decide +kernel
theorem dX10_both_36 : decode cX10_both 36 = .ok (.iconst 0, 1) := by decide +kernel
theorem dX10_both_37 : decode cX10_both 37 = .ok (.istore_n 1, 1) := by decide +kernel
theorem dX10_both_38 : decode cX10_both 38 = .ok (.goto (-33), 3) := by decide +kernel
theorem dX10_both_41 : decode cX10_both 41 = .ok (.iload_n 1, 1) := by decide +kernel
theorem dX10_both_42 : decode cX10_both 42 = .ok (.ireturn, 1) := by decide +kernel
theorem dX10_either_0 : decode cX10_either 0 = .ok (.aload_n 0, 1) := by decide +kernel
theorem dX10_either_1 : decode cX10_either 1 = .ok (.invokevirtual 287, 3) := by decide +kernel
theorem dX10_either_4 : decode cX10_either 4 = .ok (.istore_n 1, 1) := by decide +kernel
theorem dX10_either_5 : decode cX10_either 5 = .ok (.aload_n 0, 1) := by decide +kernel
theorem dX10_either_6 : decode cX10_either 6 = .ok (.ldc2_w 290, 3) := by decide +kernel
theorem dX10_either_9 : decode cX10_either 9 = .ok (.invokevirtual 224, 3) := by decide +kernel
theorem dX10_either_12 : decode cX10_either 12 = .ok (.ifCond .eq 29, 3) := by decide +kernel
theorem dX10_either_15 : decode cX10_either 15 = .ok (.aload_n 0, 1) := by decide +kernel
theorem dX10_either_16 : decode cX10_either 16 = .ok (.invokevirtual 219, 3) := by decide +kernel
theorem dX10_either_19 : decode cX10_either 19 = .ok (.aload_n 0, 1) := by decide +kernel
theorem dX10_either_20 : decode cX10_either 20 = .ok (.invokevirtual 287, 3) := by decide +kernel
theorem dX10_either_23 : decode cX10_either 23 = .ok (.istore_n 2, 1) := by decide +kernel
theorem dX10_either_24 : decode cX10_either 24 = .ok (.iload_n 1, 1) := by decide +kernel
theorem dX10_either_25 : decode cX10_either 25 = .ok (.ifCond .ne 7, 3) := by decide +kernel
theorem dX10_either_28 : decode cX10_either 28 = .ok (.iload_n 2, 1) := by decide +kernel
theorem dX10_either_29 : decode cX10_either 29 = .ok (.ifCond .eq 7, 3) := by decide +kernel
theorem dX10_either_32 : decode cX10_either 32 = .ok (.iconst 1, 1) := by decide +kernel
theorem dX10_either_33 : decode cX10_either 33 = .ok (.goto 4, 3) := by decide +kernel
theorem dX10_either_36 : decode cX10_either 36 = .ok (.iconst 0, 1) := by decide +kernel
theorem dX10_either_37 : decode cX10_either 37 = .ok (.istore_n 1, 1) := by decide +kernel
theorem dX10_either_38 : decode cX10_either 38 = .ok (.goto (-33), 3) := by decide +kernel
theorem dX10_either_41 : decode cX10_either 41 = .ok (.iload_n 1, 1) := by decide +kernel
theorem dX10_either_42 : decode cX10_either 42 = .ok (.ireturn, 1) := by decide +kernel
theorem dX10_part_0 : decode cX10_part 0 = .ok (.aload_n 0, 1) := by decide +kernel
theorem dX10_part_1 : decode cX10_part 1 = .ok (.lload_n 1, 1) := by decide +kernel
theorem dX10_part_2 : decode cX10_part 2 = .ok (.invokevirtual 224, 3) := by decide +kernel
theorem dX10_part_5 : decode cX10_part 5 = .ok (.ifCond .ne 7, 3) := by decide +kernel
theorem dX10_part_8 : decode cX10_part 8 = .ok (.aload_n 0, 1) := by decide +kernel
theorem dX10_part_9 : decode cX10_part 9 = .ok (.invokevirtual 216, 3) := by decide +kernel
theorem dX10_part_12 : decode cX10_part 12 = .ok (.aload_n 0, 1) := by decide +kernel
theorem dX10_part_13 : decode cX10_part 13 = .ok (.getfield 206, 3) := by decide +kernel
theorem dX10_part_16 : decode cX10_part 16 = .ok (.ifCond .ne 7, 3) := by decide +kernel
theorem dX10_part_19 : decode cX10_part 19 = .ok (.aload_n 0, 1) := by decide +kernel
theorem dX10_part_20 : decode cX10_part 20 = .ok (.invokevirtual 219, 3) := by decide +kernel
theorem dX10_part_23 : decode cX10_part 23 = .ok (.aload_n 0, 1) := by decide +kernel
theorem dX10_part_24 : decode cX10_part 24 = .ok (.getfield 206, 3) := by decide +kernel
theorem dX10_part_27 : decode cX10_part 27 = .ok (.ifCond .eq 7, 3) := by decide +kernel
theorem dX10_part_30 : decode cX10_part 30 = .ok (.iconst 0, 1) := by decide +kernel
theorem dX10_part_31 : decode cX10_part 31 = .ok (.goto 7, 3) := by decide +kernel
theorem dX10_part_34 : decode cX10_part 34 = .ok (.aload_n 0, 1) := by decide +kernel
theorem dX10_part_35 : decode cX10_part 35 = .ok (.invokevirtual 264, 3) := by decide +kernel
theorem dX10_part_38 : decode cX10_part 38 = .ok (.istore_n 3, 1) := by decide +kernel
theorem dX10_part_39 : decode cX10_part 39 = .ok (.aload_n 0, 1) := by decide +kernel
theorem dX10_part_40 : decode cX10_part 40 = .ok (.bipush 59, 2) := by decide +kernel
theorem dX10_part_42 : decode cX10_part 42 = .ok (.invokevirtual 253, 3) := by decide +kernel
theorem dX10_part_45 : decode cX10_part 45 = .ok (.ifCond .ne 7, 3) := by decide +kernel
theorem dX10_part_48 : decode cX10_part 48 = .ok (.aload_n 0, 1) := by decide +kernel
theorem dX10_part_49 : decode cX10_part 49 = .ok (.invokevirtual 216, 3) := by decide +kernel
theorem dX10_part_52 : decode cX10_part 52 = .ok (.aload_n 0, 1) := by decide +kernel
theorem dX10_part_53 : decode cX10_part 53 = .ok (.getfield 206, 3) := by decide +kernel
theorem dX10_part_56 : decode cX10_part 56 = .ok (.ifCond .ne 7, 3) := by decide +kernel
theorem dX10_part_59 : decode cX10_part 59 = .ok (.aload_n 0, 1) := by decide +kernel
theorem dX10_part_60 : decode cX10_part 60 = .ok (.invokevirtual 219, 3) := by decide +kernel
theorem dX10_part_63 : decode cX10_part 63 = .ok (.iload_n 3, 1) := by decide +kernel
theorem dX10_part_64 : decode cX10_part 64 = .ok (.ireturn, 1) := by decide +kernel
theorem dX10_read_0 : decode cX10_read 0 = .ok (.aload_n 0, 1) := by decide +kernel
theorem dX10_read_1 : decode cX10_read 1 = .ok (.iload_n 2, 1) := by decide +kernel
theorem dX10_read_2 : decode cX10_read 2 = .ok (.putfield 228, 3) := by decide +kernel
theorem dX10_read_5 : decode cX10_read 5 = .ok (.aload_n 0, 1) := by decide +kernel
theorem dX10_read_6 : decode cX10_read 6 = .ok (.iload_n 3, 1) := by decide +kernel
theorem dX10_read_7 : decode cX10_read 7 = .ok (.putfield 233, 3) := by decide +kernel
theorem dX10_read_10 : decode cX10_read 10 = .ok (.aload_n 0, 1) := by decide +kernel
theorem dX10_read_11 : decode cX10_read 11 = .ok (.iload 4, 2) := by decide +kernel
theorem dX10_read_13 : decode cX10_read 13 = .ok (.putfield 238, 3) := by decide +kernel
theorem dX10_read_16 : decode cX10_read 16 = .ok (.aload_n 0, 1) := by decide +kernel
theorem dX10_read_17 : decode cX10_read 17 = .ok (.iload 5, 2) := by decide +kernel
theorem dX10_read_19 : decode cX10_read 19 = .ok (.putfield 250, 3) := by decide +kernel
theorem dX10_read_22 : decode cX10_read 22 = .ok (.aload_n 0, 1) := by decide +kernel
theorem dX10_read_23 : decode cX10_read 23 = .ok (.sipush 160, 3) := by decide +kernel
theorem dX10_read_26 : decode cX10_read 26 = .ok (.iload_n 1, 1) := by decide +kernel
theorem dX10_read_27 : decode cX10_read 27 = .ok (.imul, 1) := by decide +kernel
theorem dX10_read_28 : decode cX10_read 28 = .ok (.putfield 171, 3) := by decide +kernel
theorem dX10_read_31 : decode cX10_read 31 = .ok (.aload_n 0, 1) := by decide +kernel
theorem dX10_read_32 : decode cX10_read 32 = .ok (.aload_n 0, 1) := by decide +kernel
theorem dX10_read_33 : decode cX10_read 33 = .ok (.getfield 17, 3) := by decide +kernel
theorem dX10_read_36 : decode cX10_read 36 = .ok (.iload_n 1, 1) := by decide +kernel
theorem dX10_read_37 : decode cX10_read 37 = .ok (.iaload, 1) := by decide +kernel
theorem dX10_read_38 : decode cX10_read 38 = .ok (.putfield 168, 3) := by decide +kernel
theorem dX10_read_41 : decode cX10_read 41 = .ok (.aload_n 0, 1) := by decide +kernel
theorem dX10_read_42 : decode cX10_read 42 = .ok (.iconst 0, 1) := by decide +kernel
theorem dX10_read_43 : decode cX10_read 43 = .ok (.putfield 174, 3) := by decide +kernel
theorem dX10_read_46 : decode cX10_read 46 = .ok (.aload_n 0, 1) := by decide +kernel
theorem dX10_read_47 : decode cX10_read 47 = .ok (.iconst 0, 1) := by decide +kernel
theorem dX10_read_48 : decode cX10_read 48 = .ok (.putfield 213, 3) := by decide +kernel
theorem dX10_read_51 : decode cX10_read 51 = .ok (.aload_n 0, 1) := by decide +kernel
theorem dX10_read_52 : decode cX10_read 52 = .ok (.iconst 0, 1) := by decide +kernel
theorem dX10_read_53 : decode cX10_read 53 = .ok (.putfield 206, 3) := by decide +kernel
theorem dX10_read_56 : decode cX10_read 56 = .ok (.aload_n 0, 1) := by decide +kernel
theorem dX10_read_57 : decode cX10_read 57 = .ok (.invokevirtual 219, 3) := by decide +kernel
theorem dX10_read_60 : decode cX10_read 60 = .ok (.aload_n 0, 1) := by decide +kernel
theorem dX10_read_61 : decode cX10_read 61 = .ok (.ldc2_w 292, 3) := by decide +kernel
theorem dX10_read_64 : decode cX10_read 64 = .ok (.invokevirtual 294, 3) := by decide +kernel
theorem dX10_read_67 : decode cX10_read 67 = .ok (.istore 7, 2) := by decide +kernel
theorem dX10_read_69 : decode cX10_read 69 = .ok (.aload_n 0, 1) := by decide +kernel
theorem dX10_read_70 : decode cX10_read 70 = .ok (.getfield 206, 3) := by decide +kernel
theorem dX10_read_73 : decode cX10_read 73 = .ok (.ifCond .eq 7, 3) := by decide +kernel
theorem dX10_read_76 : decode cX10_read 76 = .ok (.iconst 0, 1) := by decide +kernel
theorem dX10_read_77 : decode cX10_read 77 = .ok (.goto 10, 3) := by decide +kernel
theorem dX10_read_80 : decode cX10_read 80 = .ok (.aload_n 0, 1) := by decide +kernel
theorem dX10_read_81 : decode cX10_read 81 = .ok (.ldc2_w 298, 3) := by decide +kernel
theorem dX10_read_84 : decode cX10_read 84 = .ok (.invokevirtual 294, 3) := by decide +kernel
theorem dX10_read_87 : decode cX10_read 87 = .ok (.istore 8, 2) := by decide +kernel
theorem dX10_read_89 : decode cX10_read 89 = .ok (.aload_n 0, 1) := by decide +kernel
theorem dX10_read_90 : decode cX10_read 90 = .ok (.getfield 206, 3) := by decide +kernel
theorem dX10_read_93 : decode cX10_read 93 = .ok (.ifCond .eq 7, 3) := by decide +kernel
theorem dX10_read_96 : decode cX10_read 96 = .ok (.iconst 0, 1) := by decide +kernel
theorem dX10_read_97 : decode cX10_read 97 = .ok (.goto 10, 3) := by decide +kernel
theorem dX10_read_100 : decode cX10_read 100 = .ok (.aload_n 0, 1) := by decide +kernel
theorem dX10_read_101 : decode cX10_read 101 = .ok (.ldc2_w 300, 3) := by decide +kernel
theorem dX10_read_104 : decode cX10_read 104 = .ok (.invokevirtual 294, 3) := by decide +kernel
theorem dX10_read_107 : decode cX10_read 107 = .ok (.istore 9, 2) := by decide +kernel
theorem dX10_read_109 : decode cX10_read 109 = .ok (.aload_n 0, 1) := by decide +kernel
theorem dX10_read_110 : decode cX10_read 110 = .ok (.getfield 206, 3) := by decide +kernel
theorem dX10_read_113 : decode cX10_read 113 = .ok (.ifCond .ne 14, 3) := by decide +kernel
theorem dX10_read_116 : decode cX10_read 116 = .ok (.aload_n 0, 1) := by decide +kernel
theorem dX10_read_117 : decode cX10_read 117 = .ok (.getfield 183, 3) := by decide +kernel
theorem dX10_read_120 : decode cX10_read 120 = .ok (.ifCond .eq 7, 3) := by decide +kernel
theorem dX10_read_123 : decode cX10_read 123 = .ok (.aload_n 0, 1) := by decide +kernel
theorem dX10_read_124 : decode cX10_read 124 = .ok (.invokevirtual 216, 3) := by decide +kernel
theorem dX10_read_127 : decode cX10_read 127 = .ok (.iload 6, 2) := by decide +kernel
theorem dX10_read_129 : decode cX10_read 129 = .ok (.ifCond .ne 8, 3) := by decide +kernel
theorem dX10_read_132 : decode cX10_read 132 = .ok (.iload 7, 2) := by decide +kernel
theorem dX10_read_134 : decode cX10_read 134 = .ok (.goto 16, 3) := by decide +kernel
theorem dX10_read_137 : decode cX10_read 137 = .ok (.iload 6, 2) := by decide +kernel
theorem dX10_read_139 : decode cX10_read 139 = .ok (.iconst 1, 1) := by decide +kernel
theorem dX10_read_140 : decode cX10_read 140 = .ok (.if_icmp .ne 8, 3) := by decide +kernel
theorem dX10_read_143 : decode cX10_read 143 = .ok (.iload 8, 2) := by decide +kernel
theorem dX10_read_145 : decode cX10_read 145 = .ok (.goto 5, 3) := by decide +kernel
theorem dX10_read_148 : decode cX10_read 148 = .ok (.iload 9, 2) := by decide +kernel
theorem dX10_read_150 : decode cX10_read 150 = .ok (.ireturn, 1) := by decide +kernel
theorem dX10_text_0 : decode cX10_text 0 = .ok (.aload_n 0, 1) := by decide +kernel
theorem dX10_text_1 : decode cX10_text 1 = .ok (.getfield 114, 3) := by decide +kernel
theorem dX10_text_4 : decode cX10_text 4 = .ok (.bipush 6, 2) := by decide +kernel
theorem dX10_text_6 : decode cX10_text 6 = .ok (.if_icmp .ne 6, 3) := by decide +kernel
theorem dX10_text_9 : decode cX10_text 9 = .ok (.bipush (-4), 2) := by decide +kernel
theorem dX10_text_11 : decode cX10_text 11 = .ok (.ireturn, 1) := by decide +kernel
theorem dX10_text_12 : decode cX10_text 12 = .ok (.iconst 0, 1) := by decide +kernel
theorem dX10_text_13 : decode cX10_text 13 = .ok (.istore_n 1, 1) := by decide +kernel
theorem dX10_text_14 : decode cX10_text 14 = .ok (.iload_n 1, 1) := by decide +kernel
theorem dX10_text_15 : decode cX10_text 15 = .ok (.aload_n 0, 1) := by decide +kernel
theorem dX10_text_16 : decode cX10_text 16 = .ok (.getfield 165, 3) := by decide +kernel
theorem dX10_text_19 : decode cX10_text 19 = .ok (.if_icmp .ge 30, 3) := by decide +kernel
theorem dX10_text_22 : decode cX10_text 22 = .ok (.aload_n 0, 1) := by decide +kernel
theorem dX10_text_23 : decode cX10_text 23 = .ok (.getfield 13, 3) := by decide +kernel
theorem dX10_text_26 : decode cX10_text 26 = .ok (.sipush 160, 3) := by decide +kernel
theorem dX10_text_29 : decode cX10_text 29 = .ok (.aload_n 0, 1) := by decide +kernel
theorem dX10_text_30 : decode cX10_text 30 = .ok (.getfield 114, 3) := by decide +kernel
theorem dX10_text_33 : decode cX10_text 33 = .ok (.imul, 1) := by decide +kernel
theorem dX10_text_34 : decode cX10_text 34 = .ok (.iload_n 1, 1) := by decide +kernel
theorem dX10_text_35 : decode cX10_text 35 = .ok (.iadd, 1) := by decide +kernel
theorem dX10_text_36 : decode cX10_text 36 = .ok (.aload_n 0, 1) := by decide +kernel
theorem dX10_text_37 : decode cX10_text 37 = .ok (.getfield 20, 3) := by decide +kernel
theorem dX10_text_40 : decode cX10_text 40 = .ok (.iload_n 1, 1) := by decide +kernel
theorem dX10_text_41 : decode cX10_text 41 = .ok (.iaload, 1) := by decide +kernel
theorem dX10_text_42 : decode cX10_text 42 = .ok (.iastore, 1) := by decide +kernel
theorem dX10_text_43 : decode cX10_text 43 = .ok (.iinc 1 1, 3) := by decide +kernel
theorem dX10_text_46 : decode cX10_text 46 = .ok (.goto (-32), 3) := by decide +kernel
theorem dX10_text_49 : decode cX10_text 49 = .ok (.aload_n 0, 1) := by decide +kernel
theorem dX10_text_50 : decode cX10_text 50 = .ok (.getfield 17, 3) := by decide +kernel
theorem dX10_text_53 : decode cX10_text 53 = .ok (.aload_n 0, 1) := by decide +kernel
theorem dX10_text_54 : decode cX10_text 54 = .ok (.getfield 114, 3) := by decide +kernel
theorem dX10_text_57 : decode cX10_text 57 = .ok (.aload_n 0, 1) := by decide +kernel
theorem dX10_text_58 : decode cX10_text 58 = .ok (.getfield 165, 3) := by decide +kernel
theorem dX10_text_61 : decode cX10_text 61 = .ok (.iastore, 1) := by decide +kernel
theorem dX10_text_62 : decode cX10_text 62 = .ok (.aload_n 0, 1) := by decide +kernel
theorem dX10_text_63 : decode cX10_text 63 = .ok (.iconst 0, 1) := by decide +kernel
theorem dX10_text_64 : decode cX10_text 64 = .ok (.putfield 165, 3) := by decide +kernel
theorem dX10_text_67 : decode cX10_text 67 = .ok (.aload_n 0, 1) := by decide +kernel
theorem dX10_text_68 : decode cX10_text 68 = .ok (.aload_n 0, 1) := by decide +kernel
theorem dX10_text_69 : decode cX10_text 69 = .ok (.getfield 114, 3) := by decide +kernel
theorem dX10_text_72 : decode cX10_text 72 = .ok (.iconst 0, 1) := by decide +kernel
theorem dX10_text_73 : decode cX10_text 73 = .ok (.iconst 0, 1) := by decide +kernel
theorem dX10_text_74 : decode cX10_text 74 = .ok (.iconst 0, 1) := by decide +kernel
theorem dX10_text_75 : decode cX10_text 75 = .ok (.iconst 0, 1) := by decide +kernel
theorem dX10_text_76 : decode cX10_text 76 = .ok (.iconst 0, 1) := by decide +kernel
theorem dX10_text_77 : decode cX10_text 77 = .ok (.invokevirtual 134, 3) := by decide +kernel
theorem dX10_text_80 : decode cX10_text 80 = .ok (.istore_n 1, 1) := by decide +kernel
theorem dX10_text_81 : decode cX10_text 81 = .ok (.aload_n 0, 1) := by decide +kernel
theorem dX10_text_82 : decode cX10_text 82 = .ok (.getfield 206, 3) := by decide +kernel
theorem dX10_text_85 : decode cX10_text 85 = .ok (.ifCond .eq 11, 3) := by decide +kernel
theorem dX10_text_88 : decode cX10_text 88 = .ok (.bipush (-100), 2) := by decide +kernel
theorem dX10_text_90 : decode cX10_text 90 = .ok (.aload_n 0, 1) := by decide +kernel
theorem dX10_text_91 : decode cX10_text 91 = .ok (.getfield 210, 3) := by decide +kernel
theorem dX10_text_94 : decode cX10_text 94 = .ok (.isub, 1) := by decide +kernel
theorem dX10_text_95 : decode cX10_text 95 = .ok (.ireturn, 1) := by decide +kernel
theorem dX10_text_96 : decode cX10_text 96 = .ok (.aload_n 0, 1) := by decide +kernel
theorem dX10_text_97 : decode cX10_text 97 = .ok (.dup, 1) := by decide +kernel
theorem dX10_text_98 : decode cX10_text 98 = .ok (.getfield 114, 3) := by decide +kernel
theorem dX10_text_101 : decode cX10_text 101 = .ok (.iconst 1, 1) := by decide +kernel
theorem dX10_text_102 : decode cX10_text 102 = .ok (.iadd, 1) := by decide +kernel
theorem dX10_text_103 : decode cX10_text 103 = .ok (.putfield 114, 3) := by decide +kernel
theorem dX10_text_106 : decode cX10_text 106 = .ok (.aload_n 0, 1) := by decide +kernel
theorem dX10_text_107 : decode cX10_text 107 = .ok (.getfield 114, 3) := by decide +kernel
theorem dX10_text_110 : decode cX10_text 110 = .ok (.iconst 1, 1) := by decide +kernel
theorem dX10_text_111 : decode cX10_text 111 = .ok (.isub, 1) := by decide +kernel
theorem dX10_text_112 : decode cX10_text 112 = .ok (.ireturn, 1) := by decide +kernel
theorem dX10_force_0 : decode cX10_force 0 = .ok (.iload_n 1, 1) := by decide +kernel
theorem dX10_force_1 : decode cX10_force 1 = .ok (.i2l, 1) := by decide +kernel
theorem dX10_force_2 : decode cX10_force 2 = .ok (.lconst 0, 1) := by decide +kernel
theorem dX10_force_3 : decode cX10_force 3 = .ok (.aload_n 0, 1) := by decide +kernel
theorem dX10_force_4 : decode cX10_force 4 = .ok (.getfield 114, 3) := by decide +kernel
theorem dX10_force_7 : decode cX10_force 7 = .ok (.iconst 1, 1) := by decide +kernel
theorem dX10_force_8 : decode cX10_force 8 = .ok (.isub, 1) := by decide +kernel
theorem dX10_force_9 : decode cX10_force 9 = .ok (.i2l, 1) := by decide +kernel
theorem dX10_force_10 : decode cX10_force 10 = .ok (.invokestatic 125, 3) := by decide +kernel
theorem dX10_force_13 : decode cX10_force 13 = .ok (.ifCond .ne 6, 3) := by decide +kernel
theorem dX10_force_16 : decode cX10_force 16 = .ok (.bipush (-2), 2) := by decide +kernel
theorem dX10_force_18 : decode cX10_force 18 = .ok (.ireturn, 1) := by decide +kernel
theorem dX10_force_19 : decode cX10_force 19 = .ok (.aload_n 0, 1) := by decide +kernel
theorem dX10_force_20 : decode cX10_force 20 = .ok (.getfield 131, 3) := by decide +kernel
theorem dX10_force_23 : decode cX10_force 23 = .ok (.istore_n 2, 1) := by decide +kernel
theorem dX10_force_24 : decode cX10_force 24 = .ok (.aload_n 0, 1) := by decide +kernel
theorem dX10_force_25 : decode cX10_force 25 = .ok (.iload_n 1, 1) := by decide +kernel
theorem dX10_force_26 : decode cX10_force 26 = .ok (.putfield 131, 3) := by decide +kernel
theorem dX10_force_29 : decode cX10_force 29 = .ok (.iload_n 2, 1) := by decide +kernel
theorem dX10_force_30 : decode cX10_force 30 = .ok (.ireturn, 1) := by decide +kernel
theorem dX10_endOf_0 : decode cX10_endOf 0 = .ok (.iload_n 0, 1) := by decide +kernel
theorem dX10_endOf_1 : decode cX10_endOf 1 = .ok (.bipush 45, 2) := by decide +kernel
theorem dX10_endOf_3 : decode cX10_endOf 3 = .ok (.if_icmp .ne 7, 3) := by decide +kernel
theorem dX10_endOf_6 : decode cX10_endOf 6 = .ok (.iconst 0, 1) := by decide +kernel
theorem dX10_endOf_7 : decode cX10_endOf 7 = .ok (.goto 34, 3) := by decide +kernel
theorem dX10_endOf_10 : decode cX10_endOf 10 = .ok (.iload_n 0, 1) := by decide +kernel
theorem dX10_endOf_11 : decode cX10_endOf 11 = .ok (.bipush 43, 2) := by decide +kernel
theorem dX10_endOf_13 : decode cX10_endOf 13 = .ok (.if_icmp .ne 7, 3) := by decide +kernel
theorem dX10_endOf_16 : decode cX10_endOf 16 = .ok (.iconst 1, 1) := by decide +kernel
theorem dX10_endOf_17 : decode cX10_endOf 17 = .ok (.goto 24, 3) := by decide +kernel
theorem dX10_endOf_20 : decode cX10_endOf 20 = .ok (.iload_n 0, 1) := by decide +kernel
theorem dX10_endOf_21 : decode cX10_endOf 21 = .ok (.bipush 33, 2) := by decide +kernel
theorem dX10_endOf_23 : decode cX10_endOf 23 = .ok (.if_icmp .ne 7, 3) := by decide +kernel
theorem dX10_endOf_26 : decode cX10_endOf 26 = .ok (.iconst 2, 1) := by decide +kernel
theorem dX10_endOf_27 : decode cX10_endOf 27 = .ok (.goto 14, 3) := by decide +kernel
theorem dX10_endOf_30 : decode cX10_endOf 30 = .ok (.iload_n 0, 1) := by decide +kernel
theorem dX10_endOf_31 : decode cX10_endOf 31 = .ok (.bipush 63, 2) := by decide +kernel
theorem dX10_endOf_33 : decode cX10_endOf 33 = .ok (.if_icmp .ne 7, 3) := by decide +kernel
theorem dX10_endOf_36 : decode cX10_endOf 36 = .ok (.iconst 3, 1) := by decide +kernel
theorem dX10_endOf_37 : decode cX10_endOf 37 = .ok (.goto 4, 3) := by decide +kernel
theorem dX10_endOf_40 : decode cX10_endOf 40 = .ok (.iconst (-1), 1) := by decide +kernel
theorem dX10_endOf_41 : decode cX10_endOf 41 = .ok (.ireturn, 1) := by decide +kernel
theorem dX10_plan_0 : decode cX10_plan 0 = .ok (.aload_n 0, 1) := by decide +kernel
theorem dX10_plan_1 : decode cX10_plan 1 = .ok (.getfield 302, 3) := by decide +kernel
theorem dX10_plan_4 : decode cX10_plan 4 = .ok (.bipush 8, 2) := by decide +kernel
theorem dX10_plan_6 : decode cX10_plan 6 = .ok (.if_icmp .ne 6, 3) := by decide +kernel
theorem dX10_plan_9 : decode cX10_plan 9 = .ok (.bipush (-4), 2) := by decide +kernel
theorem dX10_plan_11 : decode cX10_plan 11 = .ok (.ireturn, 1) := by decide +kernel
theorem dX10_plan_12 : decode cX10_plan 12 = .ok (.iconst 0, 1) := by decide +kernel
theorem dX10_plan_13 : decode cX10_plan 13 = .ok (.istore_n 1, 1) := by decide +kernel
theorem dX10_plan_14 : decode cX10_plan 14 = .ok (.iconst 0, 1) := by decide +kernel
theorem dX10_plan_15 : decode cX10_plan 15 = .ok (.istore_n 2, 1) := by decide +kernel
theorem dX10_plan_16 : decode cX10_plan 16 = .ok (.iconst 0, 1) := by decide +kernel
theorem dX10_plan_17 : decode cX10_plan 17 = .ok (.istore_n 3, 1) := by decide +kernel
theorem dX10_plan_18 : decode cX10_plan 18 = .ok (.iconst (-1), 1) := by decide +kernel
theorem dX10_plan_19 : decode cX10_plan 19 = .ok (.istore 4, 2) := by decide +kernel
theorem dX10_plan_21 : decode cX10_plan 21 = .ok (.iconst 0, 1) := by decide +kernel
theorem dX10_plan_22 : decode cX10_plan 22 = .ok (.istore 5, 2) := by decide +kernel
theorem dX10_plan_24 : decode cX10_plan 24 = .ok (.iload 5, 2) := by decide +kernel
theorem dX10_plan_26 : decode cX10_plan 26 = .ok (.aload_n 0, 1) := by decide +kernel
theorem dX10_plan_27 : decode cX10_plan 27 = .ok (.getfield 165, 3) := by decide +kernel
theorem dX10_plan_30 : decode cX10_plan 30 = .ok (.if_icmp .ge 133, 3) := by decide +kernel
theorem dX10_plan_33 : decode cX10_plan 33 = .ok (.iload 4, 2) := by decide +kernel
theorem dX10_plan_35 : decode cX10_plan 35 = .ok (.iconst (-1), 1) := by decide +kernel
theorem dX10_plan_36 : decode cX10_plan 36 = .ok (.if_icmp .ne 127, 3) := by decide +kernel
theorem dX10_plan_39 : decode cX10_plan 39 = .ok (.aload_n 0, 1) := by decide +kernel
theorem dX10_plan_40 : decode cX10_plan 40 = .ok (.getfield 20, 3) := by decide +kernel
theorem dX10_plan_43 : decode cX10_plan 43 = .ok (.iload 5, 2) := by decide +kernel
theorem dX10_plan_45 : decode cX10_plan 45 = .ok (.iaload, 1) := by decide +kernel
theorem dX10_plan_46 : decode cX10_plan 46 = .ok (.bipush 97, 2) := by decide +kernel
theorem dX10_plan_48 : decode cX10_plan 48 = .ok (.isub, 1) := by decide +kernel
theorem dX10_plan_49 : decode cX10_plan 49 = .ok (.istore 6, 2) := by decide +kernel
theorem dX10_plan_51 : decode cX10_plan 51 = .ok (.aload_n 0, 1) := by decide +kernel
theorem dX10_plan_52 : decode cX10_plan 52 = .ok (.getfield 20, 3) := by decide +kernel
theorem dX10_plan_55 : decode cX10_plan 55 = .ok (.iload 5, 2) := by decide +kernel
theorem dX10_plan_57 : decode cX10_plan 57 = .ok (.iaload, 1) := by decide +kernel
theorem dX10_plan_58 : decode cX10_plan 58 = .ok (.invokestatic 305, 3) := by decide +kernel
theorem dX10_plan_61 : decode cX10_plan 61 = .ok (.istore 7, 2) := by decide +kernel
theorem dX10_plan_63 : decode cX10_plan 63 = .ok (.iload_n 1, 1) := by decide +kernel
theorem dX10_plan_64 : decode cX10_plan 64 = .ok (.bipush 24, 2) := by decide +kernel
theorem dX10_plan_66 : decode cX10_plan 66 = .ok (.if_icmp .eq 28, 3) := by decide +kernel
theorem dX10_plan_69 : decode cX10_plan 69 = .ok (.iload 7, 2) := by decide +kernel
theorem dX10_plan_71 : decode cX10_plan 71 = .ok (.iconst (-1), 1) := by decide +kernel
theorem dX10_plan_72 : decode cX10_plan 72 = .ok (.if_icmp .ne 29, 3) := by decide +kernel
theorem dX10_plan_75 : decode cX10_plan 75 = .ok (.aload_n 0, 1) := by decide +kernel
theorem dX10_plan_76 : decode cX10_plan 76 = .ok (.iload 6, 2) := by decide +kernel
theorem dX10_plan_78 : decode cX10_plan 78 = .ok (.invokevirtual 142, 3) := by decide +kernel
theorem dX10_plan_81 : decode cX10_plan 81 = .ok (.ifCond .eq 13, 3) := by decide +kernel
theorem dX10_plan_84 : decode cX10_plan 84 = .ok (.iload_n 2, 1) := by decide +kernel
theorem dX10_plan_85 : decode cX10_plan 85 = .ok (.iload 6, 2) := by decide +kernel
theorem dX10_plan_87 : decode cX10_plan 87 = .ok (.ishr, 1) := by decide +kernel
theorem dX10_plan_88 : decode cX10_plan 88 = .ok (.iconst 1, 1) := by decide +kernel
theorem dX10_plan_89 : decode cX10_plan 89 = .ok (.iand, 1) := by decide +kernel
theorem dX10_plan_90 : decode cX10_plan 90 = .ok (.iconst 1, 1) := by decide +kernel
theorem dX10_plan_91 : decode cX10_plan 91 = .ok (.if_icmp .ne 10, 3) := by decide +kernel
theorem dX10_plan_94 : decode cX10_plan 94 = .ok (.iload 5, 2) := by decide +kernel
theorem dX10_plan_96 : decode cX10_plan 96 = .ok (.istore 4, 2) := by decide +kernel
theorem dX10_plan_98 : decode cX10_plan 98 = .ok (.goto 59, 3) := by decide +kernel
theorem dX10_plan_101 : decode cX10_plan 101 = .ok (.iload 7, 2) := by decide +kernel
theorem dX10_plan_103 : decode cX10_plan 103 = .ok (.iconst (-1), 1) := by decide +kernel
theorem dX10_plan_104 : decode cX10_plan 104 = .ok (.if_icmp .ne 15, 3) := by decide +kernel
theorem dX10_plan_107 : decode cX10_plan 107 = .ok (.iload_n 2, 1) := by decide +kernel
theorem dX10_plan_108 : decode cX10_plan 108 = .ok (.iconst 1, 1) := by decide +kernel
theorem dX10_plan_109 : decode cX10_plan 109 = .ok (.iload 6, 2) := by decide +kernel
theorem dX10_plan_111 : decode cX10_plan 111 = .ok (.ishl, 1) := by decide +kernel
theorem dX10_plan_112 : decode cX10_plan 112 = .ok (.ior, 1) := by decide +kernel
theorem dX10_plan_113 : decode cX10_plan 113 = .ok (.istore_n 2, 1) := by decide +kernel
theorem dX10_plan_114 : decode cX10_plan 114 = .ok (.iconst 1, 1) := by decide +kernel
theorem dX10_plan_115 : decode cX10_plan 115 = .ok (.istore_n 3, 1) := by decide +kernel
theorem dX10_plan_116 : decode cX10_plan 116 = .ok (.goto 41, 3) := by decide +kernel
theorem dX10_plan_119 : decode cX10_plan 119 = .ok (.aload_n 0, 1) := by decide +kernel
theorem dX10_plan_120 : decode cX10_plan 120 = .ok (.getfield 44, 3) := by decide +kernel
theorem dX10_plan_123 : decode cX10_plan 123 = .ok (.bipush 24, 2) := by decide +kernel
theorem dX10_plan_125 : decode cX10_plan 125 = .ok (.aload_n 0, 1) := by decide +kernel
theorem dX10_plan_126 : decode cX10_plan 126 = .ok (.getfield 302, 3) := by decide +kernel
theorem dX10_plan_129 : decode cX10_plan 129 = .ok (.imul, 1) := by decide +kernel
theorem dX10_plan_130 : decode cX10_plan 130 = .ok (.iload_n 1, 1) := by decide +kernel
theorem dX10_plan_131 : decode cX10_plan 131 = .ok (.iadd, 1) := by decide +kernel
theorem dX10_plan_132 : decode cX10_plan 132 = .ok (.iload_n 2, 1) := by decide +kernel
theorem dX10_plan_133 : decode cX10_plan 133 = .ok (.iastore, 1) := by decide +kernel
theorem dX10_plan_134 : decode cX10_plan 134 = .ok (.aload_n 0, 1) := by decide +kernel
theorem dX10_plan_135 : decode cX10_plan 135 = .ok (.getfield 47, 3) := by decide +kernel
theorem dX10_plan_138 : decode cX10_plan 138 = .ok (.bipush 24, 2) := by decide +kernel
theorem dX10_plan_140 : decode cX10_plan 140 = .ok (.aload_n 0, 1) := by decide +kernel
theorem dX10_plan_141 : decode cX10_plan 141 = .ok (.getfield 302, 3) := by decide +kernel
theorem dX10_plan_144 : decode cX10_plan 144 = .ok (.imul, 1) := by decide +kernel
theorem dX10_plan_145 : decode cX10_plan 145 = .ok (.iload_n 1, 1) := by decide +kernel
theorem dX10_plan_146 : decode cX10_plan 146 = .ok (.iadd, 1) := by decide +kernel
theorem dX10_plan_147 : decode cX10_plan 147 = .ok (.iload 7, 2) := by decide +kernel
theorem dX10_plan_149 : decode cX10_plan 149 = .ok (.iastore, 1) := by decide +kernel
theorem dX10_plan_150 : decode cX10_plan 150 = .ok (.iinc 1 1, 3) := by decide +kernel
theorem dX10_plan_153 : decode cX10_plan 153 = .ok (.iconst 0, 1) := by decide +kernel
theorem dX10_plan_154 : decode cX10_plan 154 = .ok (.istore_n 2, 1) := by decide +kernel
theorem dX10_plan_155 : decode cX10_plan 155 = .ok (.iconst 0, 1) := by decide +kernel
theorem dX10_plan_156 : decode cX10_plan 156 = .ok (.istore_n 3, 1) := by decide +kernel
theorem dX10_plan_157 : decode cX10_plan 157 = .ok (.iinc 5 1, 3) := by decide +kernel
theorem dX10_plan_160 : decode cX10_plan 160 = .ok (.goto (-136), 3) := by decide +kernel
theorem dX10_plan_163 : decode cX10_plan 163 = .ok (.iload 4, 2) := by decide +kernel
theorem dX10_plan_165 : decode cX10_plan 165 = .ok (.iconst (-1), 1) := by decide +kernel
theorem dX10_plan_166 : decode cX10_plan 166 = .ok (.if_icmp .ne 17, 3) := by decide +kernel
theorem dX10_plan_169 : decode cX10_plan 169 = .ok (.iload_n 3, 1) := by decide +kernel
theorem dX10_plan_170 : decode cX10_plan 170 = .ok (.ifCond .ne 7, 3) := by decide +kernel
theorem dX10_plan_173 : decode cX10_plan 173 = .ok (.iload_n 1, 1) := by decide +kernel
theorem dX10_plan_174 : decode cX10_plan 174 = .ok (.ifCond .ne 9, 3) := by decide +kernel
theorem dX10_plan_177 : decode cX10_plan 177 = .ok (.aload_n 0, 1) := by decide +kernel
theorem dX10_plan_178 : decode cX10_plan 178 = .ok (.getfield 165, 3) := by decide +kernel
theorem dX10_plan_181 : decode cX10_plan 181 = .ok (.istore 4, 2) := by decide +kernel
theorem dX10_plan_183 : decode cX10_plan 183 = .ok (.aload_n 0, 1) := by decide +kernel
theorem dX10_plan_184 : decode cX10_plan 184 = .ok (.iconst 0, 1) := by decide +kernel
theorem dX10_plan_185 : decode cX10_plan 185 = .ok (.putfield 165, 3) := by decide +kernel
theorem dX10_plan_188 : decode cX10_plan 188 = .ok (.iload 4, 2) := by decide +kernel
theorem dX10_plan_190 : decode cX10_plan 190 = .ok (.iconst (-1), 1) := by decide +kernel
theorem dX10_plan_191 : decode cX10_plan 191 = .ok (.if_icmp .eq 9, 3) := by decide +kernel
theorem dX10_plan_194 : decode cX10_plan 194 = .ok (.bipush (-100), 2) := by decide +kernel
theorem dX10_plan_196 : decode cX10_plan 196 = .ok (.iload 4, 2) := by decide +kernel
theorem dX10_plan_198 : decode cX10_plan 198 = .ok (.isub, 1) := by decide +kernel
theorem dX10_plan_199 : decode cX10_plan 199 = .ok (.ireturn, 1) := by decide +kernel
theorem dX10_plan_200 : decode cX10_plan 200 = .ok (.aload_n 0, 1) := by decide +kernel
theorem dX10_plan_201 : decode cX10_plan 201 = .ok (.getfield 41, 3) := by decide +kernel
theorem dX10_plan_204 : decode cX10_plan 204 = .ok (.aload_n 0, 1) := by decide +kernel
theorem dX10_plan_205 : decode cX10_plan 205 = .ok (.getfield 302, 3) := by decide +kernel
theorem dX10_plan_208 : decode cX10_plan 208 = .ok (.iload_n 1, 1) := by decide +kernel
theorem dX10_plan_209 : decode cX10_plan 209 = .ok (.iastore, 1) := by decide +kernel
theorem dX10_plan_210 : decode cX10_plan 210 = .ok (.aload_n 0, 1) := by decide +kernel
theorem dX10_plan_211 : decode cX10_plan 211 = .ok (.dup, 1) := by decide +kernel
theorem dX10_plan_212 : decode cX10_plan 212 = .ok (.getfield 302, 3) := by decide +kernel
theorem dX10_plan_215 : decode cX10_plan 215 = .ok (.iconst 1, 1) := by decide +kernel
theorem dX10_plan_216 : decode cX10_plan 216 = .ok (.iadd, 1) := by decide +kernel
theorem dX10_plan_217 : decode cX10_plan 217 = .ok (.putfield 302, 3) := by decide +kernel
theorem dX10_plan_220 : decode cX10_plan 220 = .ok (.aload_n 0, 1) := by decide +kernel
theorem dX10_plan_221 : decode cX10_plan 221 = .ok (.getfield 302, 3) := by decide +kernel
theorem dX10_plan_224 : decode cX10_plan 224 = .ok (.iconst 1, 1) := by decide +kernel
theorem dX10_plan_225 : decode cX10_plan 225 = .ok (.isub, 1) := by decide +kernel
theorem dX10_plan_226 : decode cX10_plan 226 = .ok (.ireturn, 1) := by decide +kernel
theorem dX10_isPlan_0 : decode cX10_isPlan 0 = .ok (.iload_n 1, 1) := by decide +kernel
theorem dX10_isPlan_1 : decode cX10_isPlan 1 = .ok (.i2l, 1) := by decide +kernel
theorem dX10_isPlan_2 : decode cX10_isPlan 2 = .ok (.lconst 0, 1) := by decide +kernel
theorem dX10_isPlan_3 : decode cX10_isPlan 3 = .ok (.aload_n 0, 1) := by decide +kernel
theorem dX10_isPlan_4 : decode cX10_isPlan 4 = .ok (.getfield 302, 3) := by decide +kernel
theorem dX10_isPlan_7 : decode cX10_isPlan 7 = .ok (.iconst 1, 1) := by decide +kernel
theorem dX10_isPlan_8 : decode cX10_isPlan 8 = .ok (.isub, 1) := by decide +kernel
theorem dX10_isPlan_9 : decode cX10_isPlan 9 = .ok (.i2l, 1) := by decide +kernel
theorem dX10_isPlan_10 : decode cX10_isPlan 10 = .ok (.invokestatic 125, 3) := by decide +kernel
theorem dX10_isPlan_13 : decode cX10_isPlan 13 = .ok (.ireturn, 1) := by decide +kernel
theorem dX10_planned_0 : decode cX10_planned 0 = .ok (.aload_n 0, 1) := by decide +kernel
theorem dX10_planned_1 : decode cX10_planned 1 = .ok (.iload_n 1, 1) := by decide +kernel
theorem dX10_planned_2 : decode cX10_planned 2 = .ok (.invokevirtual 308, 3) := by decide +kernel
theorem dX10_planned_5 : decode cX10_planned 5 = .ok (.ifCond .eq 23, 3) := by decide +kernel
theorem dX10_planned_8 : decode cX10_planned 8 = .ok (.iload_n 2, 1) := by decide +kernel
theorem dX10_planned_9 : decode cX10_planned 9 = .ok (.i2l, 1) := by decide +kernel
theorem dX10_planned_10 : decode cX10_planned 10 = .ok (.ldc2_w 198, 3) := by decide +kernel
theorem dX10_planned_13 : decode cX10_planned 13 = .ok (.aload_n 0, 1) := by decide +kernel
theorem dX10_planned_14 : decode cX10_planned 14 = .ok (.getfield 41, 3) := by decide +kernel
theorem dX10_planned_17 : decode cX10_planned 17 = .ok (.iload_n 1, 1) := by decide +kernel
theorem dX10_planned_18 : decode cX10_planned 18 = .ok (.iaload, 1) := by decide +kernel
theorem dX10_planned_19 : decode cX10_planned 19 = .ok (.iconst 1, 1) := by decide +kernel
theorem dX10_planned_20 : decode cX10_planned 20 = .ok (.isub, 1) := by decide +kernel
theorem dX10_planned_21 : decode cX10_planned 21 = .ok (.i2l, 1) := by decide +kernel
theorem dX10_planned_22 : decode cX10_planned 22 = .ok (.invokestatic 125, 3) := by decide +kernel
theorem dX10_planned_25 : decode cX10_planned 25 = .ok (.ifCond .ne 5, 3) := by decide +kernel
theorem dX10_planned_28 : decode cX10_planned 28 = .ok (.iconst (-1), 1) := by decide +kernel
theorem dX10_planned_29 : decode cX10_planned 29 = .ok (.ireturn, 1) := by decide +kernel
theorem dX10_planned_30 : decode cX10_planned 30 = .ok (.iload_n 2, 1) := by decide +kernel
theorem dX10_planned_31 : decode cX10_planned 31 = .ok (.iconst (-1), 1) := by decide +kernel
theorem dX10_planned_32 : decode cX10_planned 32 = .ok (.if_icmp .ne 10, 3) := by decide +kernel
theorem dX10_planned_35 : decode cX10_planned 35 = .ok (.aload_n 0, 1) := by decide +kernel
theorem dX10_planned_36 : decode cX10_planned 36 = .ok (.getfield 41, 3) := by decide +kernel
theorem dX10_planned_39 : decode cX10_planned 39 = .ok (.iload_n 1, 1) := by decide +kernel
theorem dX10_planned_40 : decode cX10_planned 40 = .ok (.iaload, 1) := by decide +kernel
theorem dX10_planned_41 : decode cX10_planned 41 = .ok (.ireturn, 1) := by decide +kernel
theorem dX10_planned_42 : decode cX10_planned 42 = .ok (.iload_n 3, 1) := by decide +kernel
theorem dX10_planned_43 : decode cX10_planned 43 = .ok (.ifCond .ne 17, 3) := by decide +kernel
theorem dX10_planned_46 : decode cX10_planned 46 = .ok (.aload_n 0, 1) := by decide +kernel
theorem dX10_planned_47 : decode cX10_planned 47 = .ok (.getfield 44, 3) := by decide +kernel
theorem dX10_planned_50 : decode cX10_planned 50 = .ok (.bipush 24, 2) := by decide +kernel
theorem dX10_planned_52 : decode cX10_planned 52 = .ok (.iload_n 1, 1) := by decide +kernel
theorem dX10_planned_53 : decode cX10_planned 53 = .ok (.imul, 1) := by decide +kernel
theorem dX10_planned_54 : decode cX10_planned 54 = .ok (.iload_n 2, 1) := by decide +kernel
theorem dX10_planned_55 : decode cX10_planned 55 = .ok (.iadd, 1) := by decide +kernel
theorem dX10_planned_56 : decode cX10_planned 56 = .ok (.iaload, 1) := by decide +kernel
theorem dX10_planned_57 : decode cX10_planned 57 = .ok (.goto 23, 3) := by decide +kernel
theorem dX10_planned_60 : decode cX10_planned 60 = .ok (.iload_n 3, 1) := by decide +kernel
theorem dX10_planned_61 : decode cX10_planned 61 = .ok (.iconst 1, 1) := by decide +kernel
theorem dX10_planned_62 : decode cX10_planned 62 = .ok (.if_icmp .ne 17, 3) := by decide +kernel
theorem dX10_planned_65 : decode cX10_planned 65 = .ok (.aload_n 0, 1) := by decide +kernel
theorem dX10_planned_66 : decode cX10_planned 66 = .ok (.getfield 47, 3) := by decide +kernel
theorem dX10_planned_69 : decode cX10_planned 69 = .ok (.bipush 24, 2) := by decide +kernel
theorem dX10_planned_71 : decode cX10_planned 71 = .ok (.iload_n 1, 1) := by decide +kernel
theorem dX10_planned_72 : decode cX10_planned 72 = .ok (.imul, 1) := by decide +kernel
theorem dX10_planned_73 : decode cX10_planned 73 = .ok (.iload_n 2, 1) := by decide +kernel
theorem dX10_planned_74 : decode cX10_planned 74 = .ok (.iadd, 1) := by decide +kernel
theorem dX10_planned_75 : decode cX10_planned 75 = .ok (.iaload, 1) := by decide +kernel
theorem dX10_planned_76 : decode cX10_planned 76 = .ok (.goto 4, 3) := by decide +kernel
theorem dX10_planned_79 : decode cX10_planned 79 = .ok (.iconst (-1), 1) := by decide +kernel
theorem dX10_planned_80 : decode cX10_planned 80 = .ok (.ireturn, 1) := by decide +kernel
theorem dX10_sumOf_0 : decode cX10_sumOf 0 = .ok (.iconst 0, 1) := by decide +kernel
theorem dX10_sumOf_1 : decode cX10_sumOf 1 = .ok (.istore_n 2, 1) := by decide +kernel
theorem dX10_sumOf_2 : decode cX10_sumOf 2 = .ok (.iconst 0, 1) := by decide +kernel
theorem dX10_sumOf_3 : decode cX10_sumOf 3 = .ok (.istore_n 3, 1) := by decide +kernel
theorem dX10_sumOf_4 : decode cX10_sumOf 4 = .ok (.iload_n 3, 1) := by decide +kernel
theorem dX10_sumOf_5 : decode cX10_sumOf 5 = .ok (.aload_n 0, 1) := by decide +kernel
theorem dX10_sumOf_6 : decode cX10_sumOf 6 = .ok (.getfield 122, 3) := by decide +kernel
theorem dX10_sumOf_9 : decode cX10_sumOf 9 = .ok (.if_icmp .ge 87, 3) := by decide +kernel
theorem dX10_sumOf_12 : decode cX10_sumOf 12 = .ok (.iload_n 1, 1) := by decide +kernel
theorem dX10_sumOf_13 : decode cX10_sumOf 13 = .ok (.iload_n 3, 1) := by decide +kernel
theorem dX10_sumOf_14 : decode cX10_sumOf 14 = .ok (.ishr, 1) := by decide +kernel
theorem dX10_sumOf_15 : decode cX10_sumOf 15 = .ok (.iconst 1, 1) := by decide +kernel
theorem dX10_sumOf_16 : decode cX10_sumOf 16 = .ok (.iand, 1) := by decide +kernel
theorem dX10_sumOf_17 : decode cX10_sumOf 17 = .ok (.iconst 1, 1) := by decide +kernel
theorem dX10_sumOf_18 : decode cX10_sumOf 18 = .ok (.if_icmp .ne 15, 3) := by decide +kernel
theorem dX10_sumOf_21 : decode cX10_sumOf 21 = .ok (.iload_n 2, 1) := by decide +kernel
theorem dX10_sumOf_22 : decode cX10_sumOf 22 = .ok (.aload_n 0, 1) := by decide +kernel
theorem dX10_sumOf_23 : decode cX10_sumOf 23 = .ok (.getfield 26, 3) := by decide +kernel
theorem dX10_sumOf_26 : decode cX10_sumOf 26 = .ok (.iload_n 3, 1) := by decide +kernel
theorem dX10_sumOf_27 : decode cX10_sumOf 27 = .ok (.iaload, 1) := by decide +kernel
theorem dX10_sumOf_28 : decode cX10_sumOf 28 = .ok (.iadd, 1) := by decide +kernel
theorem dX10_sumOf_29 : decode cX10_sumOf 29 = .ok (.istore_n 2, 1) := by decide +kernel
theorem dX10_sumOf_30 : decode cX10_sumOf 30 = .ok (.goto 60, 3) := by decide +kernel
theorem dX10_sumOf_33 : decode cX10_sumOf 33 = .ok (.iconst 0, 1) := by decide +kernel
theorem dX10_sumOf_34 : decode cX10_sumOf 34 = .ok (.istore 4, 2) := by decide +kernel
theorem dX10_sumOf_36 : decode cX10_sumOf 36 = .ok (.iload 4, 2) := by decide +kernel
theorem dX10_sumOf_38 : decode cX10_sumOf 38 = .ok (.aload_n 0, 1) := by decide +kernel
theorem dX10_sumOf_39 : decode cX10_sumOf 39 = .ok (.getfield 122, 3) := by decide +kernel
theorem dX10_sumOf_42 : decode cX10_sumOf 42 = .ok (.if_icmp .ge 48, 3) := by decide +kernel
theorem dX10_sumOf_45 : decode cX10_sumOf 45 = .ok (.iload_n 2, 1) := by decide +kernel
theorem dX10_sumOf_46 : decode cX10_sumOf 46 = .ok (.iload_n 1, 1) := by decide +kernel
theorem dX10_sumOf_47 : decode cX10_sumOf 47 = .ok (.iload 4, 2) := by decide +kernel
theorem dX10_sumOf_49 : decode cX10_sumOf 49 = .ok (.ishr, 1) := by decide +kernel
theorem dX10_sumOf_50 : decode cX10_sumOf 50 = .ok (.iconst 1, 1) := by decide +kernel
theorem dX10_sumOf_51 : decode cX10_sumOf 51 = .ok (.iand, 1) := by decide +kernel
theorem dX10_sumOf_52 : decode cX10_sumOf 52 = .ok (.iconst 1, 1) := by decide +kernel
theorem dX10_sumOf_53 : decode cX10_sumOf 53 = .ok (.if_icmp .ne 28, 3) := by decide +kernel
theorem dX10_sumOf_56 : decode cX10_sumOf 56 = .ok (.aload_n 0, 1) := by decide +kernel
theorem dX10_sumOf_57 : decode cX10_sumOf 57 = .ok (.getfield 26, 3) := by decide +kernel
theorem dX10_sumOf_60 : decode cX10_sumOf 60 = .ok (.iload_n 3, 1) := by decide +kernel
theorem dX10_sumOf_61 : decode cX10_sumOf 61 = .ok (.iaload, 1) := by decide +kernel
theorem dX10_sumOf_62 : decode cX10_sumOf 62 = .ok (.aload_n 0, 1) := by decide +kernel
theorem dX10_sumOf_63 : decode cX10_sumOf 63 = .ok (.getfield 38, 3) := by decide +kernel
theorem dX10_sumOf_66 : decode cX10_sumOf 66 = .ok (.bipush 8, 2) := by decide +kernel
theorem dX10_sumOf_68 : decode cX10_sumOf 68 = .ok (.iload_n 3, 1) := by decide +kernel
theorem dX10_sumOf_69 : decode cX10_sumOf 69 = .ok (.imul, 1) := by decide +kernel
theorem dX10_sumOf_70 : decode cX10_sumOf 70 = .ok (.iload 4, 2) := by decide +kernel
theorem dX10_sumOf_72 : decode cX10_sumOf 72 = .ok (.iadd, 1) := by decide +kernel
theorem dX10_sumOf_73 : decode cX10_sumOf 73 = .ok (.iaload, 1) := by decide +kernel
theorem dX10_sumOf_74 : decode cX10_sumOf 74 = .ok (.imul, 1) := by decide +kernel
theorem dX10_sumOf_75 : decode cX10_sumOf 75 = .ok (.bipush 100, 2) := by decide +kernel
theorem dX10_sumOf_77 : decode cX10_sumOf 77 = .ok (.idiv, 1) := by decide +kernel
theorem dX10_sumOf_78 : decode cX10_sumOf 78 = .ok (.goto 4, 3) := by decide +kernel
theorem dX10_sumOf_81 : decode cX10_sumOf 81 = .ok (.iconst 0, 1) := by decide +kernel
theorem dX10_sumOf_82 : decode cX10_sumOf 82 = .ok (.iadd, 1) := by decide +kernel
theorem dX10_sumOf_83 : decode cX10_sumOf 83 = .ok (.istore_n 2, 1) := by decide +kernel
theorem dX10_sumOf_84 : decode cX10_sumOf 84 = .ok (.iinc 4 1, 3) := by decide +kernel
theorem dX10_sumOf_87 : decode cX10_sumOf 87 = .ok (.goto (-51), 3) := by decide +kernel
theorem dX10_sumOf_90 : decode cX10_sumOf 90 = .ok (.iinc 3 1, 3) := by decide +kernel
theorem dX10_sumOf_93 : decode cX10_sumOf 93 = .ok (.goto (-89), 3) := by decide +kernel
theorem dX10_sumOf_96 : decode cX10_sumOf 96 = .ok (.iload_n 2, 1) := by decide +kernel
theorem dX10_sumOf_97 : decode cX10_sumOf 97 = .ok (.ireturn, 1) := by decide +kernel
theorem dX10_leastOf_0 : decode cX10_leastOf 0 = .ok (.iconst 0, 1) := by decide +kernel
theorem dX10_leastOf_1 : decode cX10_leastOf 1 = .ok (.istore_n 2, 1) := by decide +kernel
theorem dX10_leastOf_2 : decode cX10_leastOf 2 = .ok (.iload_n 1, 1) := by decide +kernel
theorem dX10_leastOf_3 : decode cX10_leastOf 3 = .ok (.iload_n 2, 1) := by decide +kernel
theorem dX10_leastOf_4 : decode cX10_leastOf 4 = .ok (.ishr, 1) := by decide +kernel
theorem dX10_leastOf_5 : decode cX10_leastOf 5 = .ok (.iconst 1, 1) := by decide +kernel
theorem dX10_leastOf_6 : decode cX10_leastOf 6 = .ok (.iand, 1) := by decide +kernel
theorem dX10_leastOf_7 : decode cX10_leastOf 7 = .ok (.ifCond .ne 9, 3) := by decide +kernel
theorem dX10_leastOf_10 : decode cX10_leastOf 10 = .ok (.iinc 2 1, 3) := by decide +kernel
theorem dX10_leastOf_13 : decode cX10_leastOf 13 = .ok (.goto (-11), 3) := by decide +kernel
theorem dX10_leastOf_16 : decode cX10_leastOf 16 = .ok (.iload_n 2, 1) := by decide +kernel
theorem dX10_leastOf_17 : decode cX10_leastOf 17 = .ok (.ireturn, 1) := by decide +kernel
theorem dX10_dropsOf_0 : decode cX10_dropsOf 0 = .ok (.iload_n 1, 1) := by decide +kernel
theorem dX10_dropsOf_1 : decode cX10_dropsOf 1 = .ok (.ifCond .ne 7, 3) := by decide +kernel
theorem dX10_dropsOf_4 : decode cX10_dropsOf 4 = .ok (.iconst 0, 1) := by decide +kernel
theorem dX10_dropsOf_5 : decode cX10_dropsOf 5 = .ok (.goto 33, 3) := by decide +kernel
theorem dX10_dropsOf_8 : decode cX10_dropsOf 8 = .ok (.aload_n 0, 1) := by decide +kernel
theorem dX10_dropsOf_9 : decode cX10_dropsOf 9 = .ok (.aload_n 0, 1) := by decide +kernel
theorem dX10_dropsOf_10 : decode cX10_dropsOf 10 = .ok (.getfield 131, 3) := by decide +kernel
theorem dX10_dropsOf_13 : decode cX10_dropsOf 13 = .ok (.aload_n 0, 1) := by decide +kernel
theorem dX10_dropsOf_14 : decode cX10_dropsOf 14 = .ok (.iload_n 1, 1) := by decide +kernel
theorem dX10_dropsOf_15 : decode cX10_dropsOf 15 = .ok (.invokevirtual 311, 3) := by decide +kernel
theorem dX10_dropsOf_18 : decode cX10_dropsOf 18 = .ok (.aload_n 0, 1) := by decide +kernel
theorem dX10_dropsOf_19 : decode cX10_dropsOf 19 = .ok (.iload_n 1, 1) := by decide +kernel
theorem dX10_dropsOf_20 : decode cX10_dropsOf 20 = .ok (.invokevirtual 314, 3) := by decide +kernel
theorem dX10_dropsOf_23 : decode cX10_dropsOf 23 = .ok (.iconst 0, 1) := by decide +kernel
theorem dX10_dropsOf_24 : decode cX10_dropsOf 24 = .ok (.iconst 0, 1) := by decide +kernel
theorem dX10_dropsOf_25 : decode cX10_dropsOf 25 = .ok (.iconst 2, 1) := by decide +kernel
theorem dX10_dropsOf_26 : decode cX10_dropsOf 26 = .ok (.invokevirtual 134, 3) := by decide +kernel
theorem dX10_dropsOf_29 : decode cX10_dropsOf 29 = .ok (.bipush 10, 2) := by decide +kernel
theorem dX10_dropsOf_31 : decode cX10_dropsOf 31 = .ok (.idiv, 1) := by decide +kernel
theorem dX10_dropsOf_32 : decode cX10_dropsOf 32 = .ok (.iconst 0, 1) := by decide +kernel
theorem dX10_dropsOf_33 : decode cX10_dropsOf 33 = .ok (.bipush 99, 2) := by decide +kernel
theorem dX10_dropsOf_35 : decode cX10_dropsOf 35 = .ok (.invokestatic 138, 3) := by decide +kernel
theorem dX10_dropsOf_38 : decode cX10_dropsOf 38 = .ok (.ireturn, 1) := by decide +kernel
theorem dX10_tries_0 : decode cX10_tries 0 = .ok (.aload_n 0, 1) := by decide +kernel
theorem dX10_tries_1 : decode cX10_tries 1 = .ok (.iload_n 1, 1) := by decide +kernel
theorem dX10_tries_2 : decode cX10_tries 2 = .ok (.invokevirtual 314, 3) := by decide +kernel
theorem dX10_tries_5 : decode cX10_tries 5 = .ok (.istore_n 3, 1) := by decide +kernel
theorem dX10_tries_6 : decode cX10_tries 6 = .ok (.aload_n 0, 1) := by decide +kernel
theorem dX10_tries_7 : decode cX10_tries 7 = .ok (.getfield 32, 3) := by decide +kernel
theorem dX10_tries_10 : decode cX10_tries 10 = .ok (.iload_n 2, 1) := by decide +kernel
theorem dX10_tries_11 : decode cX10_tries 11 = .ok (.iaload, 1) := by decide +kernel
theorem dX10_tries_12 : decode cX10_tries 12 = .ok (.iload_n 3, 1) := by decide +kernel
theorem dX10_tries_13 : decode cX10_tries 13 = .ok (.isub, 1) := by decide +kernel
theorem dX10_tries_14 : decode cX10_tries 14 = .ok (.istore 4, 2) := by decide +kernel
theorem dX10_tries_16 : decode cX10_tries 16 = .ok (.iconst 0, 1) := by decide +kernel
theorem dX10_tries_17 : decode cX10_tries 17 = .ok (.istore 5, 2) := by decide +kernel
theorem dX10_tries_19 : decode cX10_tries 19 = .ok (.iload 5, 2) := by decide +kernel
theorem dX10_tries_21 : decode cX10_tries 21 = .ok (.aload_n 0, 1) := by decide +kernel
theorem dX10_tries_22 : decode cX10_tries 22 = .ok (.getfield 122, 3) := by decide +kernel
theorem dX10_tries_25 : decode cX10_tries 25 = .ok (.if_icmp .ge 125, 3) := by decide +kernel
theorem dX10_tries_28 : decode cX10_tries 28 = .ok (.aload_n 0, 1) := by decide +kernel
theorem dX10_tries_29 : decode cX10_tries 29 = .ok (.getfield 50, 3) := by decide +kernel
theorem dX10_tries_32 : decode cX10_tries 32 = .ok (.iload 5, 2) := by decide +kernel
theorem dX10_tries_34 : decode cX10_tries 34 = .ok (.iconst 0, 1) := by decide +kernel
theorem dX10_tries_35 : decode cX10_tries 35 = .ok (.iastore, 1) := by decide +kernel
theorem dX10_tries_36 : decode cX10_tries 36 = .ok (.iload_n 1, 1) := by decide +kernel
theorem dX10_tries_37 : decode cX10_tries 37 = .ok (.iload 5, 2) := by decide +kernel
theorem dX10_tries_39 : decode cX10_tries 39 = .ok (.ishr, 1) := by decide +kernel
theorem dX10_tries_40 : decode cX10_tries 40 = .ok (.iconst 1, 1) := by decide +kernel
theorem dX10_tries_41 : decode cX10_tries 41 = .ok (.iand, 1) := by decide +kernel
theorem dX10_tries_42 : decode cX10_tries 42 = .ok (.ifCond .ne 6, 3) := by decide +kernel
theorem dX10_tries_45 : decode cX10_tries 45 = .ok (.goto 99, 3) := by decide +kernel
theorem dX10_tries_48 : decode cX10_tries 48 = .ok (.aload_n 0, 1) := by decide +kernel
theorem dX10_tries_49 : decode cX10_tries 49 = .ok (.aload_n 0, 1) := by decide +kernel
theorem dX10_tries_50 : decode cX10_tries 50 = .ok (.getfield 131, 3) := by decide +kernel
theorem dX10_tries_53 : decode cX10_tries 53 = .ok (.iload 5, 2) := by decide +kernel
theorem dX10_tries_55 : decode cX10_tries 55 = .ok (.iload_n 3, 1) := by decide +kernel
theorem dX10_tries_56 : decode cX10_tries 56 = .ok (.aload_n 0, 1) := by decide +kernel
theorem dX10_tries_57 : decode cX10_tries 57 = .ok (.getfield 32, 3) := by decide +kernel
theorem dX10_tries_60 : decode cX10_tries 60 = .ok (.iload_n 2, 1) := by decide +kernel
theorem dX10_tries_61 : decode cX10_tries 61 = .ok (.iaload, 1) := by decide +kernel
theorem dX10_tries_62 : decode cX10_tries 62 = .ok (.aload_n 0, 1) := by decide +kernel
theorem dX10_tries_63 : decode cX10_tries 63 = .ok (.getfield 317, 3) := by decide +kernel
theorem dX10_tries_66 : decode cX10_tries 66 = .ok (.iconst 0, 1) := by decide +kernel
theorem dX10_tries_67 : decode cX10_tries 67 = .ok (.invokevirtual 134, 3) := by decide +kernel
theorem dX10_tries_70 : decode cX10_tries 70 = .ok (.iconst 0, 1) := by decide +kernel
theorem dX10_tries_71 : decode cX10_tries 71 = .ok (.sipush 400, 3) := by decide +kernel
theorem dX10_tries_74 : decode cX10_tries 74 = .ok (.invokestatic 138, 3) := by decide +kernel
theorem dX10_tries_77 : decode cX10_tries 77 = .ok (.istore 6, 2) := by decide +kernel
theorem dX10_tries_79 : decode cX10_tries 79 = .ok (.iload 4, 2) := by decide +kernel
theorem dX10_tries_81 : decode cX10_tries 81 = .ok (.aload_n 0, 1) := by decide +kernel
theorem dX10_tries_82 : decode cX10_tries 82 = .ok (.iload 5, 2) := by decide +kernel
theorem dX10_tries_84 : decode cX10_tries 84 = .ok (.invokevirtual 148, 3) := by decide +kernel
theorem dX10_tries_87 : decode cX10_tries 87 = .ok (.imul, 1) := by decide +kernel
theorem dX10_tries_88 : decode cX10_tries 88 = .ok (.bipush 100, 2) := by decide +kernel
theorem dX10_tries_90 : decode cX10_tries 90 = .ok (.idiv, 1) := by decide +kernel
theorem dX10_tries_91 : decode cX10_tries 91 = .ok (.istore 7, 2) := by decide +kernel
theorem dX10_tries_93 : decode cX10_tries 93 = .ok (.iload 7, 2) := by decide +kernel
theorem dX10_tries_95 : decode cX10_tries 95 = .ok (.aload_n 0, 1) := by decide +kernel
theorem dX10_tries_96 : decode cX10_tries 96 = .ok (.getfield 117, 3) := by decide +kernel
theorem dX10_tries_99 : decode cX10_tries 99 = .ok (.imul, 1) := by decide +kernel
theorem dX10_tries_100 : decode cX10_tries 100 = .ok (.bipush 100, 2) := by decide +kernel
theorem dX10_tries_102 : decode cX10_tries 102 = .ok (.idiv, 1) := by decide +kernel
theorem dX10_tries_103 : decode cX10_tries 103 = .ok (.istore 7, 2) := by decide +kernel
theorem dX10_tries_105 : decode cX10_tries 105 = .ok (.iload 7, 2) := by decide +kernel
theorem dX10_tries_107 : decode cX10_tries 107 = .ok (.aload_n 0, 1) := by decide +kernel
theorem dX10_tries_108 : decode cX10_tries 108 = .ok (.getfield 35, 3) := by decide +kernel
theorem dX10_tries_111 : decode cX10_tries 111 = .ok (.iconst 4, 1) := by decide +kernel
theorem dX10_tries_112 : decode cX10_tries 112 = .ok (.aload_n 0, 1) := by decide +kernel
theorem dX10_tries_113 : decode cX10_tries 113 = .ok (.getfield 23, 3) := by decide +kernel
theorem dX10_tries_116 : decode cX10_tries 116 = .ok (.iload 5, 2) := by decide +kernel
theorem dX10_tries_118 : decode cX10_tries 118 = .ok (.iaload, 1) := by decide +kernel
theorem dX10_tries_119 : decode cX10_tries 119 = .ok (.imul, 1) := by decide +kernel
theorem dX10_tries_120 : decode cX10_tries 120 = .ok (.iload_n 2, 1) := by decide +kernel
theorem dX10_tries_121 : decode cX10_tries 121 = .ok (.iadd, 1) := by decide +kernel
theorem dX10_tries_122 : decode cX10_tries 122 = .ok (.iaload, 1) := by decide +kernel
theorem dX10_tries_123 : decode cX10_tries 123 = .ok (.imul, 1) := by decide +kernel
theorem dX10_tries_124 : decode cX10_tries 124 = .ok (.bipush 100, 2) := by decide +kernel
theorem dX10_tries_126 : decode cX10_tries 126 = .ok (.idiv, 1) := by decide +kernel
theorem dX10_tries_127 : decode cX10_tries 127 = .ok (.istore 7, 2) := by decide +kernel
theorem dX10_tries_129 : decode cX10_tries 129 = .ok (.aload_n 0, 1) := by decide +kernel
theorem dX10_tries_130 : decode cX10_tries 130 = .ok (.getfield 50, 3) := by decide +kernel
theorem dX10_tries_133 : decode cX10_tries 133 = .ok (.iload 5, 2) := by decide +kernel
theorem dX10_tries_135 : decode cX10_tries 135 = .ok (.iload 7, 2) := by decide +kernel
theorem dX10_tries_137 : decode cX10_tries 137 = .ok (.iload 6, 2) := by decide +kernel
theorem dX10_tries_139 : decode cX10_tries 139 = .ok (.imul, 1) := by decide +kernel
theorem dX10_tries_140 : decode cX10_tries 140 = .ok (.bipush 100, 2) := by decide +kernel
theorem dX10_tries_142 : decode cX10_tries 142 = .ok (.idiv, 1) := by decide +kernel
theorem dX10_tries_143 : decode cX10_tries 143 = .ok (.iastore, 1) := by decide +kernel
theorem dX10_tries_144 : decode cX10_tries 144 = .ok (.iinc 5 1, 3) := by decide +kernel
theorem dX10_tries_147 : decode cX10_tries 147 = .ok (.goto (-128), 3) := by decide +kernel
theorem dX10_tries_150 : decode cX10_tries 150 = .ok (.iconst 0, 1) := by decide +kernel
theorem dX10_tries_151 : decode cX10_tries 151 = .ok (.istore 5, 2) := by decide +kernel
theorem dX10_tries_153 : decode cX10_tries 153 = .ok (.iload 5, 2) := by decide +kernel
theorem dX10_tries_155 : decode cX10_tries 155 = .ok (.aload_n 0, 1) := by decide +kernel
theorem dX10_tries_156 : decode cX10_tries 156 = .ok (.getfield 122, 3) := by decide +kernel
theorem dX10_tries_159 : decode cX10_tries 159 = .ok (.if_icmp .ge 63, 3) := by decide +kernel
theorem dX10_tries_162 : decode cX10_tries 162 = .ok (.iload_n 1, 1) := by decide +kernel
theorem dX10_tries_163 : decode cX10_tries 163 = .ok (.iload 5, 2) := by decide +kernel
theorem dX10_tries_165 : decode cX10_tries 165 = .ok (.ishr, 1) := by decide +kernel
theorem dX10_tries_166 : decode cX10_tries 166 = .ok (.iconst 1, 1) := by decide +kernel
theorem dX10_tries_167 : decode cX10_tries 167 = .ok (.iand, 1) := by decide +kernel
theorem dX10_tries_168 : decode cX10_tries 168 = .ok (.ifCond .ne 6, 3) := by decide +kernel
theorem dX10_tries_171 : decode cX10_tries 171 = .ok (.goto 45, 3) := by decide +kernel
theorem dX10_tries_174 : decode cX10_tries 174 = .ok (.aload_n 0, 1) := by decide +kernel
theorem dX10_tries_175 : decode cX10_tries 175 = .ok (.getfield 26, 3) := by decide +kernel
theorem dX10_tries_178 : decode cX10_tries 178 = .ok (.iload 5, 2) := by decide +kernel
theorem dX10_tries_180 : decode cX10_tries 180 = .ok (.aload_n 0, 1) := by decide +kernel
theorem dX10_tries_181 : decode cX10_tries 181 = .ok (.getfield 26, 3) := by decide +kernel
theorem dX10_tries_184 : decode cX10_tries 184 = .ok (.iload 5, 2) := by decide +kernel
theorem dX10_tries_186 : decode cX10_tries 186 = .ok (.iaload, 1) := by decide +kernel
theorem dX10_tries_187 : decode cX10_tries 187 = .ok (.aload_n 0, 1) := by decide +kernel
theorem dX10_tries_188 : decode cX10_tries 188 = .ok (.getfield 50, 3) := by decide +kernel
theorem dX10_tries_191 : decode cX10_tries 191 = .ok (.iload 5, 2) := by decide +kernel
theorem dX10_tries_193 : decode cX10_tries 193 = .ok (.iaload, 1) := by decide +kernel
theorem dX10_tries_194 : decode cX10_tries 194 = .ok (.iadd, 1) := by decide +kernel
theorem dX10_tries_195 : decode cX10_tries 195 = .ok (.sipush (-9999), 3) := by decide +kernel
theorem dX10_tries_198 : decode cX10_tries 198 = .ok (.sipush 9999, 3) := by decide +kernel
theorem dX10_tries_201 : decode cX10_tries 201 = .ok (.invokestatic 138, 3) := by decide +kernel
theorem dX10_tries_204 : decode cX10_tries 204 = .ok (.iastore, 1) := by decide +kernel
theorem dX10_tries_205 : decode cX10_tries 205 = .ok (.aload_n 0, 1) := by decide +kernel
theorem dX10_tries_206 : decode cX10_tries 206 = .ok (.getfield 29, 3) := by decide +kernel
theorem dX10_tries_209 : decode cX10_tries 209 = .ok (.iload 5, 2) := by decide +kernel
theorem dX10_tries_211 : decode cX10_tries 211 = .ok (.dup2, 1) := by decide +kernel
theorem dX10_tries_212 : decode cX10_tries 212 = .ok (.iaload, 1) := by decide +kernel
theorem dX10_tries_213 : decode cX10_tries 213 = .ok (.iconst 1, 1) := by decide +kernel
theorem dX10_tries_214 : decode cX10_tries 214 = .ok (.iadd, 1) := by decide +kernel
theorem dX10_tries_215 : decode cX10_tries 215 = .ok (.iastore, 1) := by decide +kernel
theorem dX10_tries_216 : decode cX10_tries 216 = .ok (.iinc 5 1, 3) := by decide +kernel
theorem dX10_tries_219 : decode cX10_tries 219 = .ok (.goto (-66), 3) := by decide +kernel
theorem dX10_tries_222 : decode cX10_tries 222 = .ok (.aload_n 0, 1) := by decide +kernel
theorem dX10_tries_223 : decode cX10_tries 223 = .ok (.dup, 1) := by decide +kernel
theorem dX10_tries_224 : decode cX10_tries 224 = .ok (.getfield 317, 3) := by decide +kernel
theorem dX10_tries_227 : decode cX10_tries 227 = .ok (.iconst 1, 1) := by decide +kernel
theorem dX10_tries_228 : decode cX10_tries 228 = .ok (.iadd, 1) := by decide +kernel
theorem dX10_tries_229 : decode cX10_tries 229 = .ok (.putfield 317, 3) := by decide +kernel
theorem dX10_tries_232 : decode cX10_tries 232 = .ok (.iload 4, 2) := by decide +kernel
theorem dX10_tries_234 : decode cX10_tries 234 = .ok (.ireturn, 1) := by decide +kernel
theorem dX10_fades_0 : decode cX10_fades 0 = .ok (.iconst 0, 1) := by decide +kernel
theorem dX10_fades_1 : decode cX10_fades 1 = .ok (.istore_n 1, 1) := by decide +kernel
theorem dX10_fades_2 : decode cX10_fades 2 = .ok (.iload_n 1, 1) := by decide +kernel
theorem dX10_fades_3 : decode cX10_fades 3 = .ok (.aload_n 0, 1) := by decide +kernel
theorem dX10_fades_4 : decode cX10_fades 4 = .ok (.getfield 122, 3) := by decide +kernel
theorem dX10_fades_7 : decode cX10_fades 7 = .ok (.if_icmp .ge 33, 3) := by decide +kernel
theorem dX10_fades_10 : decode cX10_fades 10 = .ok (.aload_n 0, 1) := by decide +kernel
theorem dX10_fades_11 : decode cX10_fades 11 = .ok (.getfield 26, 3) := by decide +kernel
theorem dX10_fades_14 : decode cX10_fades 14 = .ok (.iload_n 1, 1) := by decide +kernel
theorem dX10_fades_15 : decode cX10_fades 15 = .ok (.aload_n 0, 1) := by decide +kernel
theorem dX10_fades_16 : decode cX10_fades 16 = .ok (.getfield 26, 3) := by decide +kernel
theorem dX10_fades_19 : decode cX10_fades 19 = .ok (.iload_n 1, 1) := by decide +kernel
theorem dX10_fades_20 : decode cX10_fades 20 = .ok (.iaload, 1) := by decide +kernel
theorem dX10_fades_21 : decode cX10_fades 21 = .ok (.bipush 100, 2) := by decide +kernel
theorem dX10_fades_23 : decode cX10_fades 23 = .ok (.aload_n 0, 1) := by decide +kernel
theorem dX10_fades_24 : decode cX10_fades 24 = .ok (.iload_n 1, 1) := by decide +kernel
theorem dX10_fades_25 : decode cX10_fades 25 = .ok (.invokevirtual 152, 3) := by decide +kernel
theorem dX10_fades_28 : decode cX10_fades 28 = .ok (.isub, 1) := by decide +kernel
theorem dX10_fades_29 : decode cX10_fades 29 = .ok (.imul, 1) := by decide +kernel
theorem dX10_fades_30 : decode cX10_fades 30 = .ok (.bipush 100, 2) := by decide +kernel
theorem dX10_fades_32 : decode cX10_fades 32 = .ok (.idiv, 1) := by decide +kernel
theorem dX10_fades_33 : decode cX10_fades 33 = .ok (.iastore, 1) := by decide +kernel
theorem dX10_fades_34 : decode cX10_fades 34 = .ok (.iinc 1 1, 3) := by decide +kernel
theorem dX10_fades_37 : decode cX10_fades 37 = .ok (.goto (-35), 3) := by decide +kernel
theorem dX10_fades_40 : decode cX10_fades 40 = .ok (.aload_n 0, 1) := by decide +kernel
theorem dX10_fades_41 : decode cX10_fades 41 = .ok (.dup, 1) := by decide +kernel
theorem dX10_fades_42 : decode cX10_fades 42 = .ok (.getfield 245, 3) := by decide +kernel
theorem dX10_fades_45 : decode cX10_fades 45 = .ok (.iconst 1, 1) := by decide +kernel
theorem dX10_fades_46 : decode cX10_fades 46 = .ok (.iadd, 1) := by decide +kernel
theorem dX10_fades_47 : decode cX10_fades 47 = .ok (.putfield 245, 3) := by decide +kernel
theorem dX10_fades_50 : decode cX10_fades 50 = .ok (.aload_n 0, 1) := by decide +kernel
theorem dX10_fades_51 : decode cX10_fades 51 = .ok (.iconst 0, 1) := by decide +kernel
theorem dX10_fades_52 : decode cX10_fades 52 = .ok (.putfield 317, 3) := by decide +kernel
theorem dX10_fades_55 : decode cX10_fades 55 = .ok (.return_, 1) := by decide +kernel
theorem dX10_goesBy_0 : decode cX10_goesBy 0 = .ok (.iconst 0, 1) := by decide +kernel
theorem dX10_goesBy_1 : decode cX10_goesBy 1 = .ok (.istore_n 3, 1) := by decide +kernel
theorem dX10_goesBy_2 : decode cX10_goesBy 2 = .ok (.iload_n 3, 1) := by decide +kernel
theorem dX10_goesBy_3 : decode cX10_goesBy 3 = .ok (.aload_n 0, 1) := by decide +kernel
theorem dX10_goesBy_4 : decode cX10_goesBy 4 = .ok (.getfield 41, 3) := by decide +kernel
theorem dX10_goesBy_7 : decode cX10_goesBy 7 = .ok (.iload_n 1, 1) := by decide +kernel
theorem dX10_goesBy_8 : decode cX10_goesBy 8 = .ok (.iaload, 1) := by decide +kernel
theorem dX10_goesBy_9 : decode cX10_goesBy 9 = .ok (.if_icmp .ge 67, 3) := by decide +kernel
theorem dX10_goesBy_12 : decode cX10_goesBy 12 = .ok (.aload_n 0, 1) := by decide +kernel
theorem dX10_goesBy_13 : decode cX10_goesBy 13 = .ok (.aload_n 0, 1) := by decide +kernel
theorem dX10_goesBy_14 : decode cX10_goesBy 14 = .ok (.getfield 44, 3) := by decide +kernel
theorem dX10_goesBy_17 : decode cX10_goesBy 17 = .ok (.bipush 24, 2) := by decide +kernel
theorem dX10_goesBy_19 : decode cX10_goesBy 19 = .ok (.iload_n 1, 1) := by decide +kernel
theorem dX10_goesBy_20 : decode cX10_goesBy 20 = .ok (.imul, 1) := by decide +kernel
theorem dX10_goesBy_21 : decode cX10_goesBy 21 = .ok (.iload_n 3, 1) := by decide +kernel
theorem dX10_goesBy_22 : decode cX10_goesBy 22 = .ok (.iadd, 1) := by decide +kernel
theorem dX10_goesBy_23 : decode cX10_goesBy 23 = .ok (.iaload, 1) := by decide +kernel
theorem dX10_goesBy_24 : decode cX10_goesBy 24 = .ok (.aload_n 0, 1) := by decide +kernel
theorem dX10_goesBy_25 : decode cX10_goesBy 25 = .ok (.getfield 47, 3) := by decide +kernel
theorem dX10_goesBy_28 : decode cX10_goesBy 28 = .ok (.bipush 24, 2) := by decide +kernel
theorem dX10_goesBy_30 : decode cX10_goesBy 30 = .ok (.iload_n 1, 1) := by decide +kernel
theorem dX10_goesBy_31 : decode cX10_goesBy 31 = .ok (.imul, 1) := by decide +kernel
theorem dX10_goesBy_32 : decode cX10_goesBy 32 = .ok (.iload_n 3, 1) := by decide +kernel
theorem dX10_goesBy_33 : decode cX10_goesBy 33 = .ok (.iadd, 1) := by decide +kernel
theorem dX10_goesBy_34 : decode cX10_goesBy 34 = .ok (.iaload, 1) := by decide +kernel
theorem dX10_goesBy_35 : decode cX10_goesBy 35 = .ok (.invokevirtual 320, 3) := by decide +kernel
theorem dX10_goesBy_38 : decode cX10_goesBy 38 = .ok (.istore 4, 2) := by decide +kernel
theorem dX10_goesBy_40 : decode cX10_goesBy 40 = .ok (.iload_n 2, 1) := by decide +kernel
theorem dX10_goesBy_41 : decode cX10_goesBy 41 = .ok (.ifCond .eq 29, 3) := by decide +kernel
theorem dX10_goesBy_44 : decode cX10_goesBy 44 = .ok (.aload_n 0, 1) := by decide +kernel
theorem dX10_goesBy_45 : decode cX10_goesBy 45 = .ok (.aload_n 0, 1) := by decide +kernel
theorem dX10_goesBy_46 : decode cX10_goesBy 46 = .ok (.getfield 44, 3) := by decide +kernel
theorem dX10_goesBy_49 : decode cX10_goesBy 49 = .ok (.bipush 24, 2) := by decide +kernel
theorem dX10_goesBy_51 : decode cX10_goesBy 51 = .ok (.iload_n 1, 1) := by decide +kernel
theorem dX10_goesBy_52 : decode cX10_goesBy 52 = .ok (.imul, 1) := by decide +kernel
theorem dX10_goesBy_53 : decode cX10_goesBy 53 = .ok (.iload_n 3, 1) := by decide +kernel
theorem dX10_goesBy_54 : decode cX10_goesBy 54 = .ok (.iadd, 1) := by decide +kernel
theorem dX10_goesBy_55 : decode cX10_goesBy 55 = .ok (.iaload, 1) := by decide +kernel
theorem dX10_goesBy_56 : decode cX10_goesBy 56 = .ok (.aload_n 0, 1) := by decide +kernel
theorem dX10_goesBy_57 : decode cX10_goesBy 57 = .ok (.getfield 47, 3) := by decide +kernel
theorem dX10_goesBy_60 : decode cX10_goesBy 60 = .ok (.bipush 24, 2) := by decide +kernel
theorem dX10_goesBy_62 : decode cX10_goesBy 62 = .ok (.iload_n 1, 1) := by decide +kernel
theorem dX10_goesBy_63 : decode cX10_goesBy 63 = .ok (.imul, 1) := by decide +kernel
theorem dX10_goesBy_64 : decode cX10_goesBy 64 = .ok (.iload_n 3, 1) := by decide +kernel
theorem dX10_goesBy_65 : decode cX10_goesBy 65 = .ok (.iadd, 1) := by decide +kernel
theorem dX10_goesBy_66 : decode cX10_goesBy 66 = .ok (.iaload, 1) := by decide +kernel
theorem dX10_goesBy_67 : decode cX10_goesBy 67 = .ok (.invokevirtual 324, 3) := by decide +kernel
theorem dX10_goesBy_70 : decode cX10_goesBy 70 = .ok (.iinc 3 1, 3) := by decide +kernel
theorem dX10_goesBy_73 : decode cX10_goesBy 73 = .ok (.goto (-71), 3) := by decide +kernel
theorem dX10_goesBy_76 : decode cX10_goesBy 76 = .ok (.aload_n 0, 1) := by decide +kernel
theorem dX10_goesBy_77 : decode cX10_goesBy 77 = .ok (.invokevirtual 328, 3) := by decide +kernel
theorem dX10_goesBy_80 : decode cX10_goesBy 80 = .ok (.return_, 1) := by decide +kernel
theorem dX10_trial_0 : decode cX10_trial 0 = .ok (.aload_n 0, 1) := by decide +kernel
theorem dX10_trial_1 : decode cX10_trial 1 = .ok (.iload_n 1, 1) := by decide +kernel
theorem dX10_trial_2 : decode cX10_trial 2 = .ok (.invokevirtual 331, 3) := by decide +kernel
theorem dX10_trial_5 : decode cX10_trial 5 = .ok (.ifCond .eq 15, 3) := by decide +kernel
theorem dX10_trial_8 : decode cX10_trial 8 = .ok (.iload_n 2, 1) := by decide +kernel
theorem dX10_trial_9 : decode cX10_trial 9 = .ok (.i2l, 1) := by decide +kernel
theorem dX10_trial_10 : decode cX10_trial 10 = .ok (.lconst 0, 1) := by decide +kernel
theorem dX10_trial_11 : decode cX10_trial 11 = .ok (.ldc2_w 155, 3) := by decide +kernel
theorem dX10_trial_14 : decode cX10_trial 14 = .ok (.invokestatic 125, 3) := by decide +kernel
theorem dX10_trial_17 : decode cX10_trial 17 = .ok (.ifCond .ne 7, 3) := by decide +kernel
theorem dX10_trial_20 : decode cX10_trial 20 = .ok (.ldc2_w 146, 3) := by decide +kernel
theorem dX10_trial_23 : decode cX10_trial 23 = .ok (.lreturn, 1) := by decide +kernel
theorem dX10_trial_24 : decode cX10_trial 24 = .ok (.aload_n 0, 1) := by decide +kernel
theorem dX10_trial_25 : decode cX10_trial 25 = .ok (.iload_n 1, 1) := by decide +kernel
theorem dX10_trial_26 : decode cX10_trial 26 = .ok (.iload_n 2, 1) := by decide +kernel
theorem dX10_trial_27 : decode cX10_trial 27 = .ok (.invokevirtual 324, 3) := by decide +kernel
theorem dX10_trial_30 : decode cX10_trial 30 = .ok (.aload_n 0, 1) := by decide +kernel
theorem dX10_trial_31 : decode cX10_trial 31 = .ok (.iload_n 1, 1) := by decide +kernel
theorem dX10_trial_32 : decode cX10_trial 32 = .ok (.iload_n 2, 1) := by decide +kernel
theorem dX10_trial_33 : decode cX10_trial 33 = .ok (.invokevirtual 320, 3) := by decide +kernel
theorem dX10_trial_36 : decode cX10_trial 36 = .ok (.i2l, 1) := by decide +kernel
theorem dX10_trial_37 : decode cX10_trial 37 = .ok (.lreturn, 1) := by decide +kernel
theorem dX10_sum_0 : decode cX10_sum 0 = .ok (.aload_n 0, 1) := by decide +kernel
theorem dX10_sum_1 : decode cX10_sum 1 = .ok (.iload_n 1, 1) := by decide +kernel
theorem dX10_sum_2 : decode cX10_sum 2 = .ok (.invokevirtual 331, 3) := by decide +kernel
theorem dX10_sum_5 : decode cX10_sum 5 = .ok (.ifCond .eq 13, 3) := by decide +kernel
theorem dX10_sum_8 : decode cX10_sum 8 = .ok (.iload_n 2, 1) := by decide +kernel
theorem dX10_sum_9 : decode cX10_sum 9 = .ok (.i2l, 1) := by decide +kernel
theorem dX10_sum_10 : decode cX10_sum 10 = .ok (.lconst 0, 1) := by decide +kernel
theorem dX10_sum_11 : decode cX10_sum 11 = .ok (.lconst 1, 1) := by decide +kernel
theorem dX10_sum_12 : decode cX10_sum 12 = .ok (.invokestatic 125, 3) := by decide +kernel
theorem dX10_sum_15 : decode cX10_sum 15 = .ok (.ifCond .ne 7, 3) := by decide +kernel
theorem dX10_sum_18 : decode cX10_sum 18 = .ok (.ldc2_w 146, 3) := by decide +kernel
theorem dX10_sum_21 : decode cX10_sum 21 = .ok (.lreturn, 1) := by decide +kernel
theorem dX10_sum_22 : decode cX10_sum 22 = .ok (.iload_n 2, 1) := by decide +kernel
theorem dX10_sum_23 : decode cX10_sum 23 = .ok (.ifCond .ne 12, 3) := by decide +kernel
theorem dX10_sum_26 : decode cX10_sum 26 = .ok (.aload_n 0, 1) := by decide +kernel
theorem dX10_sum_27 : decode cX10_sum 27 = .ok (.iload_n 1, 1) := by decide +kernel
theorem dX10_sum_28 : decode cX10_sum 28 = .ok (.invokevirtual 314, 3) := by decide +kernel
theorem dX10_sum_31 : decode cX10_sum 31 = .ok (.i2l, 1) := by decide +kernel
theorem dX10_sum_32 : decode cX10_sum 32 = .ok (.goto 9, 3) := by decide +kernel
theorem dX10_sum_35 : decode cX10_sum 35 = .ok (.aload_n 0, 1) := by decide +kernel
theorem dX10_sum_36 : decode cX10_sum 36 = .ok (.iload_n 1, 1) := by decide +kernel
theorem dX10_sum_37 : decode cX10_sum 37 = .ok (.invokevirtual 334, 3) := by decide +kernel
theorem dX10_sum_40 : decode cX10_sum 40 = .ok (.i2l, 1) := by decide +kernel
theorem dX10_sum_41 : decode cX10_sum 41 = .ok (.lreturn, 1) := by decide +kernel
theorem dX10_days_0 : decode cX10_days 0 = .ok (.aload_n 0, 1) := by decide +kernel
theorem dX10_days_1 : decode cX10_days 1 = .ok (.iload_n 1, 1) := by decide +kernel
theorem dX10_days_2 : decode cX10_days 2 = .ok (.invokevirtual 308, 3) := by decide +kernel
theorem dX10_days_5 : decode cX10_days 5 = .ok (.ifCond .eq 15, 3) := by decide +kernel
theorem dX10_days_8 : decode cX10_days 8 = .ok (.iload_n 2, 1) := by decide +kernel
theorem dX10_days_9 : decode cX10_days 9 = .ok (.i2l, 1) := by decide +kernel
theorem dX10_days_10 : decode cX10_days 10 = .ok (.lconst 1, 1) := by decide +kernel
theorem dX10_days_11 : decode cX10_days 11 = .ok (.ldc2_w 337, 3) := by decide +kernel
theorem dX10_days_14 : decode cX10_days 14 = .ok (.invokestatic 125, 3) := by decide +kernel
theorem dX10_days_17 : decode cX10_days 17 = .ok (.ifCond .ne 6, 3) := by decide +kernel
theorem dX10_days_20 : decode cX10_days 20 = .ok (.bipush (-2), 2) := by decide +kernel
theorem dX10_days_22 : decode cX10_days 22 = .ok (.ireturn, 1) := by decide +kernel
theorem dX10_days_23 : decode cX10_days 23 = .ok (.aload_n 0, 1) := by decide +kernel
theorem dX10_days_24 : decode cX10_days 24 = .ok (.getfield 245, 3) := by decide +kernel
theorem dX10_days_27 : decode cX10_days 27 = .ok (.iload_n 2, 1) := by decide +kernel
theorem dX10_days_28 : decode cX10_days 28 = .ok (.iadd, 1) := by decide +kernel
theorem dX10_days_29 : decode cX10_days 29 = .ok (.sipush 400, 3) := by decide +kernel
theorem dX10_days_32 : decode cX10_days 32 = .ok (.if_icmp .le 6, 3) := by decide +kernel
theorem dX10_days_35 : decode cX10_days 35 = .ok (.bipush (-4), 2) := by decide +kernel
theorem dX10_days_37 : decode cX10_days 37 = .ok (.ireturn, 1) := by decide +kernel
theorem dX10_days_38 : decode cX10_days 38 = .ok (.iconst 0, 1) := by decide +kernel
theorem dX10_days_39 : decode cX10_days 39 = .ok (.istore_n 3, 1) := by decide +kernel
theorem dX10_days_40 : decode cX10_days 40 = .ok (.iload_n 3, 1) := by decide +kernel
theorem dX10_days_41 : decode cX10_days 41 = .ok (.iload_n 2, 1) := by decide +kernel
theorem dX10_days_42 : decode cX10_days 42 = .ok (.if_icmp .ge 15, 3) := by decide +kernel
theorem dX10_days_45 : decode cX10_days 45 = .ok (.aload_n 0, 1) := by decide +kernel
theorem dX10_days_46 : decode cX10_days 46 = .ok (.iload_n 1, 1) := by decide +kernel
theorem dX10_days_47 : decode cX10_days 47 = .ok (.iconst 1, 1) := by decide +kernel
theorem dX10_days_48 : decode cX10_days 48 = .ok (.invokevirtual 339, 3) := by decide +kernel
theorem dX10_days_51 : decode cX10_days 51 = .ok (.iinc 3 1, 3) := by decide +kernel
theorem dX10_days_54 : decode cX10_days 54 = .ok (.goto (-14), 3) := by decide +kernel
theorem dX10_days_57 : decode cX10_days 57 = .ok (.aload_n 0, 1) := by decide +kernel
theorem dX10_days_58 : decode cX10_days 58 = .ok (.getfield 245, 3) := by decide +kernel
theorem dX10_days_61 : decode cX10_days 61 = .ok (.ireturn, 1) := by decide +kernel
theorem dX10_counts_0 : decode cX10_counts 0 = .ok (.aload_n 0, 1) := by decide +kernel
theorem dX10_counts_1 : decode cX10_counts 1 = .ok (.getfield 53, 3) := by decide +kernel
theorem dX10_counts_4 : decode cX10_counts 4 = .ok (.iload_n 2, 1) := by decide +kernel
theorem dX10_counts_5 : decode cX10_counts 5 = .ok (.dup2, 1) := by decide +kernel
theorem dX10_counts_6 : decode cX10_counts 6 = .ok (.iaload, 1) := by decide +kernel
theorem dX10_counts_7 : decode cX10_counts 7 = .ok (.iconst 1, 1) := by decide +kernel
theorem dX10_counts_8 : decode cX10_counts 8 = .ok (.iadd, 1) := by decide +kernel
theorem dX10_counts_9 : decode cX10_counts 9 = .ok (.iastore, 1) := by decide +kernel
theorem dX10_counts_10 : decode cX10_counts 10 = .ok (.iconst 0, 1) := by decide +kernel
theorem dX10_counts_11 : decode cX10_counts 11 = .ok (.istore_n 3, 1) := by decide +kernel
theorem dX10_counts_12 : decode cX10_counts 12 = .ok (.iload_n 3, 1) := by decide +kernel
theorem dX10_counts_13 : decode cX10_counts 13 = .ok (.aload_n 0, 1) := by decide +kernel
theorem dX10_counts_14 : decode cX10_counts 14 = .ok (.getfield 122, 3) := by decide +kernel
theorem dX10_counts_17 : decode cX10_counts 17 = .ok (.if_icmp .ge 27, 3) := by decide +kernel
theorem dX10_counts_20 : decode cX10_counts 20 = .ok (.aload_n 0, 1) := by decide +kernel
theorem dX10_counts_21 : decode cX10_counts 21 = .ok (.getfield 56, 3) := by decide +kernel
theorem dX10_counts_24 : decode cX10_counts 24 = .ok (.iconst 4, 1) := by decide +kernel
theorem dX10_counts_25 : decode cX10_counts 25 = .ok (.iload_n 3, 1) := by decide +kernel
theorem dX10_counts_26 : decode cX10_counts 26 = .ok (.imul, 1) := by decide +kernel
theorem dX10_counts_27 : decode cX10_counts 27 = .ok (.iload_n 2, 1) := by decide +kernel
theorem dX10_counts_28 : decode cX10_counts 28 = .ok (.iadd, 1) := by decide +kernel
theorem dX10_counts_29 : decode cX10_counts 29 = .ok (.dup2, 1) := by decide +kernel
theorem dX10_counts_30 : decode cX10_counts 30 = .ok (.iaload, 1) := by decide +kernel
theorem dX10_counts_31 : decode cX10_counts 31 = .ok (.iload_n 1, 1) := by decide +kernel
theorem dX10_counts_32 : decode cX10_counts 32 = .ok (.iload_n 3, 1) := by decide +kernel
theorem dX10_counts_33 : decode cX10_counts 33 = .ok (.ishr, 1) := by decide +kernel
theorem dX10_counts_34 : decode cX10_counts 34 = .ok (.iconst 1, 1) := by decide +kernel
theorem dX10_counts_35 : decode cX10_counts 35 = .ok (.iand, 1) := by decide +kernel
theorem dX10_counts_36 : decode cX10_counts 36 = .ok (.iadd, 1) := by decide +kernel
theorem dX10_counts_37 : decode cX10_counts 37 = .ok (.iastore, 1) := by decide +kernel
theorem dX10_counts_38 : decode cX10_counts 38 = .ok (.iinc 3 1, 3) := by decide +kernel
theorem dX10_counts_41 : decode cX10_counts 41 = .ok (.goto (-29), 3) := by decide +kernel
theorem dX10_counts_44 : decode cX10_counts 44 = .ok (.return_, 1) := by decide +kernel
theorem dX10_trialsOfAll_0 : decode cX10_trialsOfAll 0 = .ok (.aload_n 0, 1) := by decide +kernel
theorem dX10_trialsOfAll_1 : decode cX10_trialsOfAll 1 = .ok (.getfield 53, 3) := by decide +kernel
theorem dX10_trialsOfAll_4 : decode cX10_trialsOfAll 4 = .ok (.iconst 0, 1) := by decide +kernel
theorem dX10_trialsOfAll_5 : decode cX10_trialsOfAll 5 = .ok (.iaload, 1) := by decide +kernel
theorem dX10_trialsOfAll_6 : decode cX10_trialsOfAll 6 = .ok (.aload_n 0, 1) := by decide +kernel
theorem dX10_trialsOfAll_7 : decode cX10_trialsOfAll 7 = .ok (.getfield 53, 3) := by decide +kernel
theorem dX10_trialsOfAll_10 : decode cX10_trialsOfAll 10 = .ok (.iconst 1, 1) := by decide +kernel
theorem dX10_trialsOfAll_11 : decode cX10_trialsOfAll 11 = .ok (.iaload, 1) := by decide +kernel
theorem dX10_trialsOfAll_12 : decode cX10_trialsOfAll 12 = .ok (.iadd, 1) := by decide +kernel
theorem dX10_trialsOfAll_13 : decode cX10_trialsOfAll 13 = .ok (.aload_n 0, 1) := by decide +kernel
theorem dX10_trialsOfAll_14 : decode cX10_trialsOfAll 14 = .ok (.getfield 53, 3) := by decide +kernel
theorem dX10_trialsOfAll_17 : decode cX10_trialsOfAll 17 = .ok (.iconst 2, 1) := by decide +kernel
theorem dX10_trialsOfAll_18 : decode cX10_trialsOfAll 18 = .ok (.iaload, 1) := by decide +kernel
theorem dX10_trialsOfAll_19 : decode cX10_trialsOfAll 19 = .ok (.iadd, 1) := by decide +kernel
theorem dX10_trialsOfAll_20 : decode cX10_trialsOfAll 20 = .ok (.aload_n 0, 1) := by decide +kernel
theorem dX10_trialsOfAll_21 : decode cX10_trialsOfAll 21 = .ok (.getfield 53, 3) := by decide +kernel
theorem dX10_trialsOfAll_24 : decode cX10_trialsOfAll 24 = .ok (.iconst 3, 1) := by decide +kernel
theorem dX10_trialsOfAll_25 : decode cX10_trialsOfAll 25 = .ok (.iaload, 1) := by decide +kernel
theorem dX10_trialsOfAll_26 : decode cX10_trialsOfAll 26 = .ok (.iadd, 1) := by decide +kernel
theorem dX10_trialsOfAll_27 : decode cX10_trialsOfAll 27 = .ok (.ireturn, 1) := by decide +kernel
theorem dX10_common_0 : decode cX10_common 0 = .ok (.lload_n 0, 1) := by decide +kernel
theorem dX10_common_1 : decode cX10_common 1 = .ok (.lconst 0, 1) := by decide +kernel
theorem dX10_common_2 : decode cX10_common 2 = .ok (.lcmp, 1) := by decide +kernel
theorem dX10_common_3 : decode cX10_common 3 = .ok (.ifCond .ge 8, 3) := by decide +kernel
theorem dX10_common_6 : decode cX10_common 6 = .ok (.lload_n 0, 1) := by decide +kernel
theorem dX10_common_7 : decode cX10_common 7 = .ok (.lneg, 1) := by decide +kernel
theorem dX10_common_8 : decode cX10_common 8 = .ok (.goto 4, 3) := by decide +kernel
theorem dX10_common_11 : decode cX10_common 11 = .ok (.lload_n 0, 1) := by decide +kernel
theorem dX10_common_12 : decode cX10_common 12 = .ok (.lstore 4, 2) := by decide +kernel
theorem dX10_common_14 : decode cX10_common 14 = .ok (.lload_n 2, 1) := by decide +kernel
theorem dX10_common_15 : decode cX10_common 15 = .ok (.lstore 6, 2) := by decide +kernel
theorem dX10_common_17 : decode cX10_common 17 = .ok (.lload 6, 2) := by decide +kernel
theorem dX10_common_19 : decode cX10_common 19 = .ok (.lconst 0, 1) := by decide +kernel
theorem dX10_common_20 : decode cX10_common 20 = .ok (.lcmp, 1) := by decide +kernel
theorem dX10_common_21 : decode cX10_common 21 = .ok (.ifCond .eq 21, 3) := by decide +kernel
theorem dX10_common_24 : decode cX10_common 24 = .ok (.lload 4, 2) := by decide +kernel
theorem dX10_common_26 : decode cX10_common 26 = .ok (.lload 6, 2) := by decide +kernel
theorem dX10_common_28 : decode cX10_common 28 = .ok (.lrem, 1) := by decide +kernel
theorem dX10_common_29 : decode cX10_common 29 = .ok (.lstore 8, 2) := by decide +kernel
theorem dX10_common_31 : decode cX10_common 31 = .ok (.lload 6, 2) := by decide +kernel
theorem dX10_common_33 : decode cX10_common 33 = .ok (.lstore 4, 2) := by decide +kernel
theorem dX10_common_35 : decode cX10_common 35 = .ok (.lload 8, 2) := by decide +kernel
theorem dX10_common_37 : decode cX10_common 37 = .ok (.lstore 6, 2) := by decide +kernel
theorem dX10_common_39 : decode cX10_common 39 = .ok (.goto (-22), 3) := by decide +kernel
theorem dX10_common_42 : decode cX10_common 42 = .ok (.lload 4, 2) := by decide +kernel
theorem dX10_common_44 : decode cX10_common 44 = .ok (.lreturn, 1) := by decide +kernel
theorem dX10_counted_0 : decode cX10_counted 0 = .ok (.aload_n 0, 1) := by decide +kernel
theorem dX10_counted_1 : decode cX10_counted 1 = .ok (.iload_n 1, 1) := by decide +kernel
theorem dX10_counted_2 : decode cX10_counted 2 = .ok (.invokevirtual 142, 3) := by decide +kernel
theorem dX10_counted_5 : decode cX10_counted 5 = .ok (.ifCond .eq 25, 3) := by decide +kernel
theorem dX10_counted_8 : decode cX10_counted 8 = .ok (.iload_n 2, 1) := by decide +kernel
theorem dX10_counted_9 : decode cX10_counted 9 = .ok (.i2l, 1) := by decide +kernel
theorem dX10_counted_10 : decode cX10_counted 10 = .ok (.lconst 0, 1) := by decide +kernel
theorem dX10_counted_11 : decode cX10_counted 11 = .ok (.ldc2_w 155, 3) := by decide +kernel
theorem dX10_counted_14 : decode cX10_counted 14 = .ok (.invokestatic 125, 3) := by decide +kernel
theorem dX10_counted_17 : decode cX10_counted 17 = .ok (.ifCond .eq 13, 3) := by decide +kernel
theorem dX10_counted_20 : decode cX10_counted 20 = .ok (.iload_n 3, 1) := by decide +kernel
theorem dX10_counted_21 : decode cX10_counted 21 = .ok (.i2l, 1) := by decide +kernel
theorem dX10_counted_22 : decode cX10_counted 22 = .ok (.lconst 0, 1) := by decide +kernel
theorem dX10_counted_23 : decode cX10_counted 23 = .ok (.lconst 1, 1) := by decide +kernel
theorem dX10_counted_24 : decode cX10_counted 24 = .ok (.invokestatic 125, 3) := by decide +kernel
theorem dX10_counted_27 : decode cX10_counted 27 = .ok (.ifCond .ne 7, 3) := by decide +kernel
theorem dX10_counted_30 : decode cX10_counted 30 = .ok (.ldc2_w 146, 3) := by decide +kernel
theorem dX10_counted_33 : decode cX10_counted 33 = .ok (.lreturn, 1) := by decide +kernel
theorem dX10_counted_34 : decode cX10_counted 34 = .ok (.lconst 0, 1) := by decide +kernel
theorem dX10_counted_35 : decode cX10_counted 35 = .ok (.lstore 4, 2) := by decide +kernel
theorem dX10_counted_37 : decode cX10_counted 37 = .ok (.iconst 0, 1) := by decide +kernel
theorem dX10_counted_38 : decode cX10_counted 38 = .ok (.istore 6, 2) := by decide +kernel
theorem dX10_counted_40 : decode cX10_counted 40 = .ok (.iload 6, 2) := by decide +kernel
theorem dX10_counted_42 : decode cX10_counted 42 = .ok (.iconst 4, 1) := by decide +kernel
theorem dX10_counted_43 : decode cX10_counted 43 = .ok (.if_icmp .ge 26, 3) := by decide +kernel
theorem dX10_counted_46 : decode cX10_counted 46 = .ok (.lload 4, 2) := by decide +kernel
theorem dX10_counted_48 : decode cX10_counted 48 = .ok (.aload_n 0, 1) := by decide +kernel
theorem dX10_counted_49 : decode cX10_counted 49 = .ok (.getfield 56, 3) := by decide +kernel
theorem dX10_counted_52 : decode cX10_counted 52 = .ok (.iconst 4, 1) := by decide +kernel
theorem dX10_counted_53 : decode cX10_counted 53 = .ok (.iload_n 1, 1) := by decide +kernel
theorem dX10_counted_54 : decode cX10_counted 54 = .ok (.imul, 1) := by decide +kernel
theorem dX10_counted_55 : decode cX10_counted 55 = .ok (.iload 6, 2) := by decide +kernel
theorem dX10_counted_57 : decode cX10_counted 57 = .ok (.iadd, 1) := by decide +kernel
theorem dX10_counted_58 : decode cX10_counted 58 = .ok (.iaload, 1) := by decide +kernel
theorem dX10_counted_59 : decode cX10_counted 59 = .ok (.i2l, 1) := by decide +kernel
theorem dX10_counted_60 : decode cX10_counted 60 = .ok (.ladd, 1) := by decide +kernel
theorem dX10_counted_61 : decode cX10_counted 61 = .ok (.lstore 4, 2) := by decide +kernel
theorem dX10_counted_63 : decode cX10_counted 63 = .ok (.iinc 6 1, 3) := by decide +kernel
theorem dX10_counted_66 : decode cX10_counted 66 = .ok (.goto (-26), 3) := by decide +kernel
theorem dX10_counted_69 : decode cX10_counted 69 = .ok (.aload_n 0, 1) := by decide +kernel
theorem dX10_counted_70 : decode cX10_counted 70 = .ok (.invokevirtual 343, 3) := by decide +kernel
theorem dX10_counted_73 : decode cX10_counted 73 = .ok (.i2l, 1) := by decide +kernel
theorem dX10_counted_74 : decode cX10_counted 74 = .ok (.lload 4, 2) := by decide +kernel
theorem dX10_counted_76 : decode cX10_counted 76 = .ok (.lsub, 1) := by decide +kernel
theorem dX10_counted_77 : decode cX10_counted 77 = .ok (.lstore 6, 2) := by decide +kernel
theorem dX10_counted_79 : decode cX10_counted 79 = .ok (.aload_n 0, 1) := by decide +kernel
theorem dX10_counted_80 : decode cX10_counted 80 = .ok (.getfield 56, 3) := by decide +kernel
theorem dX10_counted_83 : decode cX10_counted 83 = .ok (.iconst 4, 1) := by decide +kernel
theorem dX10_counted_84 : decode cX10_counted 84 = .ok (.iload_n 1, 1) := by decide +kernel
theorem dX10_counted_85 : decode cX10_counted 85 = .ok (.imul, 1) := by decide +kernel
theorem dX10_counted_86 : decode cX10_counted 86 = .ok (.iload_n 2, 1) := by decide +kernel
theorem dX10_counted_87 : decode cX10_counted 87 = .ok (.iadd, 1) := by decide +kernel
theorem dX10_counted_88 : decode cX10_counted 88 = .ok (.iaload, 1) := by decide +kernel
theorem dX10_counted_89 : decode cX10_counted 89 = .ok (.i2l, 1) := by decide +kernel
theorem dX10_counted_90 : decode cX10_counted 90 = .ok (.lstore 8, 2) := by decide +kernel
theorem dX10_counted_92 : decode cX10_counted 92 = .ok (.aload_n 0, 1) := by decide +kernel
theorem dX10_counted_93 : decode cX10_counted 93 = .ok (.getfield 53, 3) := by decide +kernel
theorem dX10_counted_96 : decode cX10_counted 96 = .ok (.iload_n 2, 1) := by decide +kernel
theorem dX10_counted_97 : decode cX10_counted 97 = .ok (.iaload, 1) := by decide +kernel
theorem dX10_counted_98 : decode cX10_counted 98 = .ok (.i2l, 1) := by decide +kernel
theorem dX10_counted_99 : decode cX10_counted 99 = .ok (.lload 8, 2) := by decide +kernel
theorem dX10_counted_101 : decode cX10_counted 101 = .ok (.lsub, 1) := by decide +kernel
theorem dX10_counted_102 : decode cX10_counted 102 = .ok (.lstore 10, 2) := by decide +kernel
theorem dX10_counted_104 : decode cX10_counted 104 = .ok (.lload 4, 2) := by decide +kernel
theorem dX10_counted_106 : decode cX10_counted 106 = .ok (.lconst 0, 1) := by decide +kernel
theorem dX10_counted_107 : decode cX10_counted 107 = .ok (.lcmp, 1) := by decide +kernel
theorem dX10_counted_108 : decode cX10_counted 108 = .ok (.ifCond .ne 9, 3) := by decide +kernel
theorem dX10_counted_111 : decode cX10_counted 111 = .ok (.lconst 0, 1) := by decide +kernel
theorem dX10_counted_112 : decode cX10_counted 112 = .ok (.lstore 8, 2) := by decide +kernel
theorem dX10_counted_114 : decode cX10_counted 114 = .ok (.lconst 1, 1) := by decide +kernel
theorem dX10_counted_115 : decode cX10_counted 115 = .ok (.lstore 4, 2) := by decide +kernel
theorem dX10_counted_117 : decode cX10_counted 117 = .ok (.lload 6, 2) := by decide +kernel
theorem dX10_counted_119 : decode cX10_counted 119 = .ok (.lconst 0, 1) := by decide +kernel
theorem dX10_counted_120 : decode cX10_counted 120 = .ok (.lcmp, 1) := by decide +kernel
theorem dX10_counted_121 : decode cX10_counted 121 = .ok (.ifCond .ne 9, 3) := by decide +kernel
theorem dX10_counted_124 : decode cX10_counted 124 = .ok (.lconst 0, 1) := by decide +kernel
theorem dX10_counted_125 : decode cX10_counted 125 = .ok (.lstore 10, 2) := by decide +kernel
theorem dX10_counted_127 : decode cX10_counted 127 = .ok (.lconst 1, 1) := by decide +kernel
theorem dX10_counted_128 : decode cX10_counted 128 = .ok (.lstore 6, 2) := by decide +kernel
theorem dX10_counted_130 : decode cX10_counted 130 = .ok (.lload 8, 2) := by decide +kernel
theorem dX10_counted_132 : decode cX10_counted 132 = .ok (.lload 6, 2) := by decide +kernel
theorem dX10_counted_134 : decode cX10_counted 134 = .ok (.lmul, 1) := by decide +kernel
theorem dX10_counted_135 : decode cX10_counted 135 = .ok (.lload 10, 2) := by decide +kernel
theorem dX10_counted_137 : decode cX10_counted 137 = .ok (.lload 4, 2) := by decide +kernel
theorem dX10_counted_139 : decode cX10_counted 139 = .ok (.lmul, 1) := by decide +kernel
theorem dX10_counted_140 : decode cX10_counted 140 = .ok (.lsub, 1) := by decide +kernel
theorem dX10_counted_141 : decode cX10_counted 141 = .ok (.lstore 12, 2) := by decide +kernel
theorem dX10_counted_143 : decode cX10_counted 143 = .ok (.lload 4, 2) := by decide +kernel
theorem dX10_counted_145 : decode cX10_counted 145 = .ok (.lload 6, 2) := by decide +kernel
theorem dX10_counted_147 : decode cX10_counted 147 = .ok (.lmul, 1) := by decide +kernel
theorem dX10_counted_148 : decode cX10_counted 148 = .ok (.lstore 14, 2) := by decide +kernel
theorem dX10_counted_150 : decode cX10_counted 150 = .ok (.lload 12, 2) := by decide +kernel
theorem dX10_counted_152 : decode cX10_counted 152 = .ok (.lload 14, 2) := by decide +kernel
theorem dX10_counted_154 : decode cX10_counted 154 = .ok (.invokestatic 346, 3) := by decide +kernel
theorem dX10_counted_157 : decode cX10_counted 157 = .ok (.lstore 16, 2) := by decide +kernel
theorem dX10_counted_159 : decode cX10_counted 159 = .ok (.iload_n 3, 1) := by decide +kernel
theorem dX10_counted_160 : decode cX10_counted 160 = .ok (.ifCond .ne 8, 3) := by decide +kernel
theorem dX10_counted_163 : decode cX10_counted 163 = .ok (.lload 12, 2) := by decide +kernel
theorem dX10_counted_165 : decode cX10_counted 165 = .ok (.goto 5, 3) := by decide +kernel
theorem dX10_counted_168 : decode cX10_counted 168 = .ok (.lload 14, 2) := by decide +kernel
theorem dX10_counted_170 : decode cX10_counted 170 = .ok (.lload 16, 2) := by decide +kernel
theorem dX10_counted_172 : decode cX10_counted 172 = .ok (.ldiv, 1) := by decide +kernel
theorem dX10_counted_173 : decode cX10_counted 173 = .ok (.lreturn, 1) := by decide +kernel
theorem dX10_laysAside_0 : decode cX10_laysAside 0 = .ok (.iconst 0, 1) := by decide +kernel
theorem dX10_laysAside_1 : decode cX10_laysAside 1 = .ok (.istore_n 2, 1) := by decide +kernel
theorem dX10_laysAside_2 : decode cX10_laysAside 2 = .ok (.iload_n 2, 1) := by decide +kernel
theorem dX10_laysAside_3 : decode cX10_laysAside 3 = .ok (.aload_n 0, 1) := by decide +kernel
theorem dX10_laysAside_4 : decode cX10_laysAside 4 = .ok (.getfield 122, 3) := by decide +kernel
theorem dX10_laysAside_7 : decode cX10_laysAside 7 = .ok (.if_icmp .ge 73, 3) := by decide +kernel
theorem dX10_laysAside_10 : decode cX10_laysAside 10 = .ok (.aload_n 0, 1) := by decide +kernel
theorem dX10_laysAside_11 : decode cX10_laysAside 11 = .ok (.getfield 59, 3) := by decide +kernel
theorem dX10_laysAside_14 : decode cX10_laysAside 14 = .ok (.iload_n 2, 1) := by decide +kernel
theorem dX10_laysAside_15 : decode cX10_laysAside 15 = .ok (.aload_n 0, 1) := by decide +kernel
theorem dX10_laysAside_16 : decode cX10_laysAside 16 = .ok (.getfield 26, 3) := by decide +kernel
theorem dX10_laysAside_19 : decode cX10_laysAside 19 = .ok (.iload_n 2, 1) := by decide +kernel
theorem dX10_laysAside_20 : decode cX10_laysAside 20 = .ok (.iaload, 1) := by decide +kernel
theorem dX10_laysAside_21 : decode cX10_laysAside 21 = .ok (.iastore, 1) := by decide +kernel
theorem dX10_laysAside_22 : decode cX10_laysAside 22 = .ok (.aload_n 0, 1) := by decide +kernel
theorem dX10_laysAside_23 : decode cX10_laysAside 23 = .ok (.getfield 62, 3) := by decide +kernel
theorem dX10_laysAside_26 : decode cX10_laysAside 26 = .ok (.iload_n 2, 1) := by decide +kernel
theorem dX10_laysAside_27 : decode cX10_laysAside 27 = .ok (.aload_n 0, 1) := by decide +kernel
theorem dX10_laysAside_28 : decode cX10_laysAside 28 = .ok (.getfield 29, 3) := by decide +kernel
theorem dX10_laysAside_31 : decode cX10_laysAside 31 = .ok (.iload_n 2, 1) := by decide +kernel
theorem dX10_laysAside_32 : decode cX10_laysAside 32 = .ok (.iaload, 1) := by decide +kernel
theorem dX10_laysAside_33 : decode cX10_laysAside 33 = .ok (.iastore, 1) := by decide +kernel
theorem dX10_laysAside_34 : decode cX10_laysAside 34 = .ok (.aload_n 0, 1) := by decide +kernel
theorem dX10_laysAside_35 : decode cX10_laysAside 35 = .ok (.getfield 26, 3) := by decide +kernel
theorem dX10_laysAside_38 : decode cX10_laysAside 38 = .ok (.iload_n 2, 1) := by decide +kernel
theorem dX10_laysAside_39 : decode cX10_laysAside 39 = .ok (.iload_n 1, 1) := by decide +kernel
theorem dX10_laysAside_40 : decode cX10_laysAside 40 = .ok (.ifCond .eq 7, 3) := by decide +kernel
theorem dX10_laysAside_43 : decode cX10_laysAside 43 = .ok (.iconst 0, 1) := by decide +kernel
theorem dX10_laysAside_44 : decode cX10_laysAside 44 = .ok (.goto 9, 3) := by decide +kernel
theorem dX10_laysAside_47 : decode cX10_laysAside 47 = .ok (.aload_n 0, 1) := by decide +kernel
theorem dX10_laysAside_48 : decode cX10_laysAside 48 = .ok (.getfield 26, 3) := by decide +kernel
theorem dX10_laysAside_51 : decode cX10_laysAside 51 = .ok (.iload_n 2, 1) := by decide +kernel
theorem dX10_laysAside_52 : decode cX10_laysAside 52 = .ok (.iaload, 1) := by decide +kernel
theorem dX10_laysAside_53 : decode cX10_laysAside 53 = .ok (.iastore, 1) := by decide +kernel
theorem dX10_laysAside_54 : decode cX10_laysAside 54 = .ok (.aload_n 0, 1) := by decide +kernel
theorem dX10_laysAside_55 : decode cX10_laysAside 55 = .ok (.getfield 29, 3) := by decide +kernel
theorem dX10_laysAside_58 : decode cX10_laysAside 58 = .ok (.iload_n 2, 1) := by decide +kernel
theorem dX10_laysAside_59 : decode cX10_laysAside 59 = .ok (.iload_n 1, 1) := by decide +kernel
theorem dX10_laysAside_60 : decode cX10_laysAside 60 = .ok (.ifCond .eq 7, 3) := by decide +kernel
theorem dX10_laysAside_63 : decode cX10_laysAside 63 = .ok (.iconst 0, 1) := by decide +kernel
theorem dX10_laysAside_64 : decode cX10_laysAside 64 = .ok (.goto 9, 3) := by decide +kernel
theorem dX10_laysAside_67 : decode cX10_laysAside 67 = .ok (.aload_n 0, 1) := by decide +kernel
theorem dX10_laysAside_68 : decode cX10_laysAside 68 = .ok (.getfield 29, 3) := by decide +kernel
theorem dX10_laysAside_71 : decode cX10_laysAside 71 = .ok (.iload_n 2, 1) := by decide +kernel
theorem dX10_laysAside_72 : decode cX10_laysAside 72 = .ok (.iaload, 1) := by decide +kernel
theorem dX10_laysAside_73 : decode cX10_laysAside 73 = .ok (.iastore, 1) := by decide +kernel
theorem dX10_laysAside_74 : decode cX10_laysAside 74 = .ok (.iinc 2 1, 3) := by decide +kernel
theorem dX10_laysAside_77 : decode cX10_laysAside 77 = .ok (.goto (-75), 3) := by decide +kernel
theorem dX10_laysAside_80 : decode cX10_laysAside 80 = .ok (.aload_n 0, 1) := by decide +kernel
theorem dX10_laysAside_81 : decode cX10_laysAside 81 = .ok (.aload_n 0, 1) := by decide +kernel
theorem dX10_laysAside_82 : decode cX10_laysAside 82 = .ok (.getfield 245, 3) := by decide +kernel
theorem dX10_laysAside_85 : decode cX10_laysAside 85 = .ok (.putfield 350, 3) := by decide +kernel
theorem dX10_laysAside_88 : decode cX10_laysAside 88 = .ok (.aload_n 0, 1) := by decide +kernel
theorem dX10_laysAside_89 : decode cX10_laysAside 89 = .ok (.aload_n 0, 1) := by decide +kernel
theorem dX10_laysAside_90 : decode cX10_laysAside 90 = .ok (.getfield 317, 3) := by decide +kernel
theorem dX10_laysAside_93 : decode cX10_laysAside 93 = .ok (.putfield 353, 3) := by decide +kernel
theorem dX10_laysAside_96 : decode cX10_laysAside 96 = .ok (.aload_n 0, 1) := by decide +kernel
theorem dX10_laysAside_97 : decode cX10_laysAside 97 = .ok (.aload_n 0, 1) := by decide +kernel
theorem dX10_laysAside_98 : decode cX10_laysAside 98 = .ok (.getfield 117, 3) := by decide +kernel
theorem dX10_laysAside_101 : decode cX10_laysAside 101 = .ok (.putfield 356, 3) := by decide +kernel
theorem dX10_laysAside_104 : decode cX10_laysAside 104 = .ok (.aload_n 0, 1) := by decide +kernel
theorem dX10_laysAside_105 : decode cX10_laysAside 105 = .ok (.iload_n 1, 1) := by decide +kernel
theorem dX10_laysAside_106 : decode cX10_laysAside 106 = .ok (.ifCond .eq 7, 3) := by decide +kernel
theorem dX10_laysAside_109 : decode cX10_laysAside 109 = .ok (.iconst 0, 1) := by decide +kernel
theorem dX10_laysAside_110 : decode cX10_laysAside 110 = .ok (.goto 7, 3) := by decide +kernel
theorem dX10_laysAside_113 : decode cX10_laysAside 113 = .ok (.aload_n 0, 1) := by decide +kernel
theorem dX10_laysAside_114 : decode cX10_laysAside 114 = .ok (.getfield 245, 3) := by decide +kernel
theorem dX10_laysAside_117 : decode cX10_laysAside 117 = .ok (.putfield 245, 3) := by decide +kernel
theorem dX10_laysAside_120 : decode cX10_laysAside 120 = .ok (.aload_n 0, 1) := by decide +kernel
theorem dX10_laysAside_121 : decode cX10_laysAside 121 = .ok (.iload_n 1, 1) := by decide +kernel
theorem dX10_laysAside_122 : decode cX10_laysAside 122 = .ok (.ifCond .eq 7, 3) := by decide +kernel
theorem dX10_laysAside_125 : decode cX10_laysAside 125 = .ok (.iconst 0, 1) := by decide +kernel
theorem dX10_laysAside_126 : decode cX10_laysAside 126 = .ok (.goto 7, 3) := by decide +kernel
theorem dX10_laysAside_129 : decode cX10_laysAside 129 = .ok (.aload_n 0, 1) := by decide +kernel
theorem dX10_laysAside_130 : decode cX10_laysAside 130 = .ok (.getfield 317, 3) := by decide +kernel
theorem dX10_laysAside_133 : decode cX10_laysAside 133 = .ok (.putfield 317, 3) := by decide +kernel
theorem dX10_laysAside_136 : decode cX10_laysAside 136 = .ok (.return_, 1) := by decide +kernel
theorem dX10_laysBack_0 : decode cX10_laysBack 0 = .ok (.iconst 0, 1) := by decide +kernel
theorem dX10_laysBack_1 : decode cX10_laysBack 1 = .ok (.istore_n 1, 1) := by decide +kernel
theorem dX10_laysBack_2 : decode cX10_laysBack 2 = .ok (.iload_n 1, 1) := by decide +kernel
theorem dX10_laysBack_3 : decode cX10_laysBack 3 = .ok (.aload_n 0, 1) := by decide +kernel
theorem dX10_laysBack_4 : decode cX10_laysBack 4 = .ok (.getfield 122, 3) := by decide +kernel
theorem dX10_laysBack_7 : decode cX10_laysBack 7 = .ok (.if_icmp .ge 33, 3) := by decide +kernel
theorem dX10_laysBack_10 : decode cX10_laysBack 10 = .ok (.aload_n 0, 1) := by decide +kernel
theorem dX10_laysBack_11 : decode cX10_laysBack 11 = .ok (.getfield 26, 3) := by decide +kernel
theorem dX10_laysBack_14 : decode cX10_laysBack 14 = .ok (.iload_n 1, 1) := by decide +kernel
theorem dX10_laysBack_15 : decode cX10_laysBack 15 = .ok (.aload_n 0, 1) := by decide +kernel
theorem dX10_laysBack_16 : decode cX10_laysBack 16 = .ok (.getfield 59, 3) := by decide +kernel
theorem dX10_laysBack_19 : decode cX10_laysBack 19 = .ok (.iload_n 1, 1) := by decide +kernel
theorem dX10_laysBack_20 : decode cX10_laysBack 20 = .ok (.iaload, 1) := by decide +kernel
theorem dX10_laysBack_21 : decode cX10_laysBack 21 = .ok (.iastore, 1) := by decide +kernel
theorem dX10_laysBack_22 : decode cX10_laysBack 22 = .ok (.aload_n 0, 1) := by decide +kernel
theorem dX10_laysBack_23 : decode cX10_laysBack 23 = .ok (.getfield 29, 3) := by decide +kernel
theorem dX10_laysBack_26 : decode cX10_laysBack 26 = .ok (.iload_n 1, 1) := by decide +kernel
theorem dX10_laysBack_27 : decode cX10_laysBack 27 = .ok (.aload_n 0, 1) := by decide +kernel
theorem dX10_laysBack_28 : decode cX10_laysBack 28 = .ok (.getfield 62, 3) := by decide +kernel
theorem dX10_laysBack_31 : decode cX10_laysBack 31 = .ok (.iload_n 1, 1) := by decide +kernel
theorem dX10_laysBack_32 : decode cX10_laysBack 32 = .ok (.iaload, 1) := by decide +kernel
theorem dX10_laysBack_33 : decode cX10_laysBack 33 = .ok (.iastore, 1) := by decide +kernel
theorem dX10_laysBack_34 : decode cX10_laysBack 34 = .ok (.iinc 1 1, 3) := by decide +kernel
theorem dX10_laysBack_37 : decode cX10_laysBack 37 = .ok (.goto (-35), 3) := by decide +kernel
theorem dX10_laysBack_40 : decode cX10_laysBack 40 = .ok (.aload_n 0, 1) := by decide +kernel
theorem dX10_laysBack_41 : decode cX10_laysBack 41 = .ok (.aload_n 0, 1) := by decide +kernel
theorem dX10_laysBack_42 : decode cX10_laysBack 42 = .ok (.getfield 350, 3) := by decide +kernel
theorem dX10_laysBack_45 : decode cX10_laysBack 45 = .ok (.putfield 245, 3) := by decide +kernel
theorem dX10_laysBack_48 : decode cX10_laysBack 48 = .ok (.aload_n 0, 1) := by decide +kernel
theorem dX10_laysBack_49 : decode cX10_laysBack 49 = .ok (.aload_n 0, 1) := by decide +kernel
theorem dX10_laysBack_50 : decode cX10_laysBack 50 = .ok (.getfield 353, 3) := by decide +kernel
theorem dX10_laysBack_53 : decode cX10_laysBack 53 = .ok (.putfield 317, 3) := by decide +kernel
theorem dX10_laysBack_56 : decode cX10_laysBack 56 = .ok (.aload_n 0, 1) := by decide +kernel
theorem dX10_laysBack_57 : decode cX10_laysBack 57 = .ok (.aload_n 0, 1) := by decide +kernel
theorem dX10_laysBack_58 : decode cX10_laysBack 58 = .ok (.getfield 356, 3) := by decide +kernel
theorem dX10_laysBack_61 : decode cX10_laysBack 61 = .ok (.putfield 117, 3) := by decide +kernel
theorem dX10_laysBack_64 : decode cX10_laysBack 64 = .ok (.return_, 1) := by decide +kernel
theorem dX10_rests_0 : decode cX10_rests 0 = .ok (.aload_n 0, 1) := by decide +kernel
theorem dX10_rests_1 : decode cX10_rests 1 = .ok (.iload_n 1, 1) := by decide +kernel
theorem dX10_rests_2 : decode cX10_rests 2 = .ok (.invokevirtual 308, 3) := by decide +kernel
theorem dX10_rests_5 : decode cX10_rests 5 = .ok (.ifCond .eq 15, 3) := by decide +kernel
theorem dX10_rests_8 : decode cX10_rests 8 = .ok (.iload_n 2, 1) := by decide +kernel
theorem dX10_rests_9 : decode cX10_rests 9 = .ok (.i2l, 1) := by decide +kernel
theorem dX10_rests_10 : decode cX10_rests 10 = .ok (.lconst 0, 1) := by decide +kernel
theorem dX10_rests_11 : decode cX10_rests 11 = .ok (.ldc2_w 161, 3) := by decide +kernel
theorem dX10_rests_14 : decode cX10_rests 14 = .ok (.invokestatic 125, 3) := by decide +kernel
theorem dX10_rests_17 : decode cX10_rests 17 = .ok (.ifCond .ne 6, 3) := by decide +kernel
theorem dX10_rests_20 : decode cX10_rests 20 = .ok (.bipush (-2), 2) := by decide +kernel
theorem dX10_rests_22 : decode cX10_rests 22 = .ok (.ireturn, 1) := by decide +kernel
theorem dX10_rests_23 : decode cX10_rests 23 = .ok (.aload_n 0, 1) := by decide +kernel
theorem dX10_rests_24 : decode cX10_rests 24 = .ok (.iconst 0, 1) := by decide +kernel
theorem dX10_rests_25 : decode cX10_rests 25 = .ok (.invokevirtual 359, 3) := by decide +kernel
theorem dX10_rests_28 : decode cX10_rests 28 = .ok (.iconst (-1), 1) := by decide +kernel
theorem dX10_rests_29 : decode cX10_rests 29 = .ok (.istore_n 3, 1) := by decide +kernel
theorem dX10_rests_30 : decode cX10_rests 30 = .ok (.iconst 0, 1) := by decide +kernel
theorem dX10_rests_31 : decode cX10_rests 31 = .ok (.istore 4, 2) := by decide +kernel
theorem dX10_rests_33 : decode cX10_rests 33 = .ok (.iload 4, 2) := by decide +kernel
theorem dX10_rests_35 : decode cX10_rests 35 = .ok (.iload_n 2, 1) := by decide +kernel
theorem dX10_rests_36 : decode cX10_rests 36 = .ok (.if_icmp .gt 114, 3) := by decide +kernel
theorem dX10_rests_39 : decode cX10_rests 39 = .ok (.iload_n 3, 1) := by decide +kernel
theorem dX10_rests_40 : decode cX10_rests 40 = .ok (.iconst (-1), 1) := by decide +kernel
theorem dX10_rests_41 : decode cX10_rests 41 = .ok (.if_icmp .ne 109, 3) := by decide +kernel
theorem dX10_rests_44 : decode cX10_rests 44 = .ok (.iconst 0, 1) := by decide +kernel
theorem dX10_rests_45 : decode cX10_rests 45 = .ok (.istore 5, 2) := by decide +kernel
theorem dX10_rests_47 : decode cX10_rests 47 = .ok (.iload 5, 2) := by decide +kernel
theorem dX10_rests_49 : decode cX10_rests 49 = .ok (.aload_n 0, 1) := by decide +kernel
theorem dX10_rests_50 : decode cX10_rests 50 = .ok (.getfield 122, 3) := by decide +kernel
theorem dX10_rests_53 : decode cX10_rests 53 = .ok (.if_icmp .ge 23, 3) := by decide +kernel
theorem dX10_rests_56 : decode cX10_rests 56 = .ok (.aload_n 0, 1) := by decide +kernel
theorem dX10_rests_57 : decode cX10_rests 57 = .ok (.getfield 65, 3) := by decide +kernel
theorem dX10_rests_60 : decode cX10_rests 60 = .ok (.iload 5, 2) := by decide +kernel
theorem dX10_rests_62 : decode cX10_rests 62 = .ok (.aload_n 0, 1) := by decide +kernel
theorem dX10_rests_63 : decode cX10_rests 63 = .ok (.getfield 26, 3) := by decide +kernel
theorem dX10_rests_66 : decode cX10_rests 66 = .ok (.iload 5, 2) := by decide +kernel
theorem dX10_rests_68 : decode cX10_rests 68 = .ok (.iaload, 1) := by decide +kernel
theorem dX10_rests_69 : decode cX10_rests 69 = .ok (.iastore, 1) := by decide +kernel
theorem dX10_rests_70 : decode cX10_rests 70 = .ok (.iinc 5 1, 3) := by decide +kernel
theorem dX10_rests_73 : decode cX10_rests 73 = .ok (.goto (-26), 3) := by decide +kernel
theorem dX10_rests_76 : decode cX10_rests 76 = .ok (.aload_n 0, 1) := by decide +kernel
theorem dX10_rests_77 : decode cX10_rests 77 = .ok (.iload_n 1, 1) := by decide +kernel
theorem dX10_rests_78 : decode cX10_rests 78 = .ok (.iconst 0, 1) := by decide +kernel
theorem dX10_rests_79 : decode cX10_rests 79 = .ok (.invokevirtual 339, 3) := by decide +kernel
theorem dX10_rests_82 : decode cX10_rests 82 = .ok (.iconst 1, 1) := by decide +kernel
theorem dX10_rests_83 : decode cX10_rests 83 = .ok (.istore 5, 2) := by decide +kernel
theorem dX10_rests_85 : decode cX10_rests 85 = .ok (.iconst 0, 1) := by decide +kernel
theorem dX10_rests_86 : decode cX10_rests 86 = .ok (.istore 6, 2) := by decide +kernel
theorem dX10_rests_88 : decode cX10_rests 88 = .ok (.iload 6, 2) := by decide +kernel
theorem dX10_rests_90 : decode cX10_rests 90 = .ok (.aload_n 0, 1) := by decide +kernel
theorem dX10_rests_91 : decode cX10_rests 91 = .ok (.getfield 122, 3) := by decide +kernel
theorem dX10_rests_94 : decode cX10_rests 94 = .ok (.if_icmp .ge 38, 3) := by decide +kernel
theorem dX10_rests_97 : decode cX10_rests 97 = .ok (.iload 5, 2) := by decide +kernel
theorem dX10_rests_99 : decode cX10_rests 99 = .ok (.ifCond .eq 24, 3) := by decide +kernel
theorem dX10_rests_102 : decode cX10_rests 102 = .ok (.aload_n 0, 1) := by decide +kernel
theorem dX10_rests_103 : decode cX10_rests 103 = .ok (.getfield 65, 3) := by decide +kernel
theorem dX10_rests_106 : decode cX10_rests 106 = .ok (.iload 6, 2) := by decide +kernel
theorem dX10_rests_108 : decode cX10_rests 108 = .ok (.iaload, 1) := by decide +kernel
theorem dX10_rests_109 : decode cX10_rests 109 = .ok (.aload_n 0, 1) := by decide +kernel
theorem dX10_rests_110 : decode cX10_rests 110 = .ok (.getfield 26, 3) := by decide +kernel
theorem dX10_rests_113 : decode cX10_rests 113 = .ok (.iload 6, 2) := by decide +kernel
theorem dX10_rests_115 : decode cX10_rests 115 = .ok (.iaload, 1) := by decide +kernel
theorem dX10_rests_116 : decode cX10_rests 116 = .ok (.if_icmp .ne 7, 3) := by decide +kernel
theorem dX10_rests_119 : decode cX10_rests 119 = .ok (.iconst 1, 1) := by decide +kernel
theorem dX10_rests_120 : decode cX10_rests 120 = .ok (.goto 4, 3) := by decide +kernel
theorem dX10_rests_123 : decode cX10_rests 123 = .ok (.iconst 0, 1) := by decide +kernel
theorem dX10_rests_124 : decode cX10_rests 124 = .ok (.istore 5, 2) := by decide +kernel
theorem dX10_rests_126 : decode cX10_rests 126 = .ok (.iinc 6 1, 3) := by decide +kernel
theorem dX10_rests_129 : decode cX10_rests 129 = .ok (.goto (-41), 3) := by decide +kernel
theorem dX10_rests_132 : decode cX10_rests 132 = .ok (.iload 5, 2) := by decide +kernel
theorem dX10_rests_134 : decode cX10_rests 134 = .ok (.ifCond .eq 8, 3) := by decide +kernel
theorem dX10_rests_137 : decode cX10_rests 137 = .ok (.iload 4, 2) := by decide +kernel
theorem dX10_rests_139 : decode cX10_rests 139 = .ok (.goto 4, 3) := by decide +kernel
theorem dX10_rests_142 : decode cX10_rests 142 = .ok (.iconst (-1), 1) := by decide +kernel
theorem dX10_rests_143 : decode cX10_rests 143 = .ok (.istore_n 3, 1) := by decide +kernel
theorem dX10_rests_144 : decode cX10_rests 144 = .ok (.iinc 4 1, 3) := by decide +kernel
theorem dX10_rests_147 : decode cX10_rests 147 = .ok (.goto (-114), 3) := by decide +kernel
theorem dX10_rests_150 : decode cX10_rests 150 = .ok (.aload_n 0, 1) := by decide +kernel
theorem dX10_rests_151 : decode cX10_rests 151 = .ok (.invokevirtual 363, 3) := by decide +kernel
theorem dX10_rests_154 : decode cX10_rests 154 = .ok (.iload_n 3, 1) := by decide +kernel
theorem dX10_rests_155 : decode cX10_rests 155 = .ok (.ireturn, 1) := by decide +kernel
theorem dX10_blocked_0 : decode cX10_blocked 0 = .ok (.aload_n 0, 1) := by decide +kernel
theorem dX10_blocked_1 : decode cX10_blocked 1 = .ok (.iload_n 1, 1) := by decide +kernel
theorem dX10_blocked_2 : decode cX10_blocked 2 = .ok (.invokevirtual 308, 3) := by decide +kernel
theorem dX10_blocked_5 : decode cX10_blocked 5 = .ok (.ifCond .ne 6, 3) := by decide +kernel
theorem dX10_blocked_8 : decode cX10_blocked 8 = .ok (.bipush (-2), 2) := by decide +kernel
theorem dX10_blocked_10 : decode cX10_blocked 10 = .ok (.ireturn, 1) := by decide +kernel
theorem dX10_blocked_11 : decode cX10_blocked 11 = .ok (.aload_n 0, 1) := by decide +kernel
theorem dX10_blocked_12 : decode cX10_blocked 12 = .ok (.iconst 0, 1) := by decide +kernel
theorem dX10_blocked_13 : decode cX10_blocked 13 = .ok (.invokevirtual 359, 3) := by decide +kernel
theorem dX10_blocked_16 : decode cX10_blocked 16 = .ok (.iconst 0, 1) := by decide +kernel
theorem dX10_blocked_17 : decode cX10_blocked 17 = .ok (.istore_n 2, 1) := by decide +kernel
theorem dX10_blocked_18 : decode cX10_blocked 18 = .ok (.iconst 0, 1) := by decide +kernel
theorem dX10_blocked_19 : decode cX10_blocked 19 = .ok (.istore_n 3, 1) := by decide +kernel
theorem dX10_blocked_20 : decode cX10_blocked 20 = .ok (.iconst 0, 1) := by decide +kernel
theorem dX10_blocked_21 : decode cX10_blocked 21 = .ok (.istore 4, 2) := by decide +kernel
theorem dX10_blocked_23 : decode cX10_blocked 23 = .ok (.iload 4, 2) := by decide +kernel
theorem dX10_blocked_25 : decode cX10_blocked 25 = .ok (.aload_n 0, 1) := by decide +kernel
theorem dX10_blocked_26 : decode cX10_blocked 26 = .ok (.getfield 41, 3) := by decide +kernel
theorem dX10_blocked_29 : decode cX10_blocked 29 = .ok (.iload_n 1, 1) := by decide +kernel
theorem dX10_blocked_30 : decode cX10_blocked 30 = .ok (.iaload, 1) := by decide +kernel
theorem dX10_blocked_31 : decode cX10_blocked 31 = .ok (.if_icmp .ge 99, 3) := by decide +kernel
theorem dX10_blocked_34 : decode cX10_blocked 34 = .ok (.aload_n 0, 1) := by decide +kernel
theorem dX10_blocked_35 : decode cX10_blocked 35 = .ok (.getfield 44, 3) := by decide +kernel
theorem dX10_blocked_38 : decode cX10_blocked 38 = .ok (.bipush 24, 2) := by decide +kernel
theorem dX10_blocked_40 : decode cX10_blocked 40 = .ok (.iload_n 1, 1) := by decide +kernel
theorem dX10_blocked_41 : decode cX10_blocked 41 = .ok (.imul, 1) := by decide +kernel
theorem dX10_blocked_42 : decode cX10_blocked 42 = .ok (.iload 4, 2) := by decide +kernel
theorem dX10_blocked_44 : decode cX10_blocked 44 = .ok (.iadd, 1) := by decide +kernel
theorem dX10_blocked_45 : decode cX10_blocked 45 = .ok (.iaload, 1) := by decide +kernel
theorem dX10_blocked_46 : decode cX10_blocked 46 = .ok (.istore 5, 2) := by decide +kernel
theorem dX10_blocked_48 : decode cX10_blocked 48 = .ok (.aload_n 0, 1) := by decide +kernel
theorem dX10_blocked_49 : decode cX10_blocked 49 = .ok (.getfield 47, 3) := by decide +kernel
theorem dX10_blocked_52 : decode cX10_blocked 52 = .ok (.bipush 24, 2) := by decide +kernel
theorem dX10_blocked_54 : decode cX10_blocked 54 = .ok (.iload_n 1, 1) := by decide +kernel
theorem dX10_blocked_55 : decode cX10_blocked 55 = .ok (.imul, 1) := by decide +kernel
theorem dX10_blocked_56 : decode cX10_blocked 56 = .ok (.iload 4, 2) := by decide +kernel
theorem dX10_blocked_58 : decode cX10_blocked 58 = .ok (.iadd, 1) := by decide +kernel
theorem dX10_blocked_59 : decode cX10_blocked 59 = .ok (.iaload, 1) := by decide +kernel
theorem dX10_blocked_60 : decode cX10_blocked 60 = .ok (.istore 6, 2) := by decide +kernel
theorem dX10_blocked_62 : decode cX10_blocked 62 = .ok (.aload_n 0, 1) := by decide +kernel
theorem dX10_blocked_63 : decode cX10_blocked 63 = .ok (.iload 5, 2) := by decide +kernel
theorem dX10_blocked_65 : decode cX10_blocked 65 = .ok (.iload 6, 2) := by decide +kernel
theorem dX10_blocked_67 : decode cX10_blocked 67 = .ok (.invokevirtual 320, 3) := by decide +kernel
theorem dX10_blocked_70 : decode cX10_blocked 70 = .ok (.istore 7, 2) := by decide +kernel
theorem dX10_blocked_72 : decode cX10_blocked 72 = .ok (.iload 6, 2) := by decide +kernel
theorem dX10_blocked_74 : decode cX10_blocked 74 = .ok (.ifCond .ne 6, 3) := by decide +kernel
theorem dX10_blocked_77 : decode cX10_blocked 77 = .ok (.goto 47, 3) := by decide +kernel
theorem dX10_blocked_80 : decode cX10_blocked 80 = .ok (.iload_n 2, 1) := by decide +kernel
theorem dX10_blocked_81 : decode cX10_blocked 81 = .ok (.iload 5, 2) := by decide +kernel
theorem dX10_blocked_83 : decode cX10_blocked 83 = .ok (.ior, 1) := by decide +kernel
theorem dX10_blocked_84 : decode cX10_blocked 84 = .ok (.istore_n 2, 1) := by decide +kernel
theorem dX10_blocked_85 : decode cX10_blocked 85 = .ok (.iconst 0, 1) := by decide +kernel
theorem dX10_blocked_86 : decode cX10_blocked 86 = .ok (.istore 8, 2) := by decide +kernel
theorem dX10_blocked_88 : decode cX10_blocked 88 = .ok (.iload 8, 2) := by decide +kernel
theorem dX10_blocked_90 : decode cX10_blocked 90 = .ok (.aload_n 0, 1) := by decide +kernel
theorem dX10_blocked_91 : decode cX10_blocked 91 = .ok (.getfield 122, 3) := by decide +kernel
theorem dX10_blocked_94 : decode cX10_blocked 94 = .ok (.if_icmp .ge 30, 3) := by decide +kernel
theorem dX10_blocked_97 : decode cX10_blocked 97 = .ok (.iload_n 3, 1) := by decide +kernel
theorem dX10_blocked_98 : decode cX10_blocked 98 = .ok (.aload_n 0, 1) := by decide +kernel
theorem dX10_blocked_99 : decode cX10_blocked 99 = .ok (.getfield 50, 3) := by decide +kernel
theorem dX10_blocked_102 : decode cX10_blocked 102 = .ok (.iload 8, 2) := by decide +kernel
theorem dX10_blocked_104 : decode cX10_blocked 104 = .ok (.iaload, 1) := by decide +kernel
theorem dX10_blocked_105 : decode cX10_blocked 105 = .ok (.ifCond .eq 10, 3) := by decide +kernel
theorem dX10_blocked_108 : decode cX10_blocked 108 = .ok (.iconst 1, 1) := by decide +kernel
theorem dX10_blocked_109 : decode cX10_blocked 109 = .ok (.iload 8, 2) := by decide +kernel
theorem dX10_blocked_111 : decode cX10_blocked 111 = .ok (.ishl, 1) := by decide +kernel
theorem dX10_blocked_112 : decode cX10_blocked 112 = .ok (.goto 4, 3) := by decide +kernel
theorem dX10_blocked_115 : decode cX10_blocked 115 = .ok (.iconst 0, 1) := by decide +kernel
theorem dX10_blocked_116 : decode cX10_blocked 116 = .ok (.ior, 1) := by decide +kernel
theorem dX10_blocked_117 : decode cX10_blocked 117 = .ok (.istore_n 3, 1) := by decide +kernel
theorem dX10_blocked_118 : decode cX10_blocked 118 = .ok (.iinc 8 1, 3) := by decide +kernel
theorem dX10_blocked_121 : decode cX10_blocked 121 = .ok (.goto (-33), 3) := by decide +kernel
theorem dX10_blocked_124 : decode cX10_blocked 124 = .ok (.iinc 4 1, 3) := by decide +kernel
theorem dX10_blocked_127 : decode cX10_blocked 127 = .ok (.goto (-104), 3) := by decide +kernel
theorem dX10_blocked_130 : decode cX10_blocked 130 = .ok (.aload_n 0, 1) := by decide +kernel
theorem dX10_blocked_131 : decode cX10_blocked 131 = .ok (.invokevirtual 363, 3) := by decide +kernel
theorem dX10_blocked_134 : decode cX10_blocked 134 = .ok (.iload_n 2, 1) := by decide +kernel
theorem dX10_blocked_135 : decode cX10_blocked 135 = .ok (.iload_n 3, 1) := by decide +kernel
theorem dX10_blocked_136 : decode cX10_blocked 136 = .ok (.iconst (-1), 1) := by decide +kernel
theorem dX10_blocked_137 : decode cX10_blocked 137 = .ok (.ixor, 1) := by decide +kernel
theorem dX10_blocked_138 : decode cX10_blocked 138 = .ok (.iand, 1) := by decide +kernel
theorem dX10_blocked_139 : decode cX10_blocked 139 = .ok (.ireturn, 1) := by decide +kernel
theorem dX10_watched_0 : decode cX10_watched 0 = .ok (.aload_n 0, 1) := by decide +kernel
theorem dX10_watched_1 : decode cX10_watched 1 = .ok (.iload_n 1, 1) := by decide +kernel
theorem dX10_watched_2 : decode cX10_watched 2 = .ok (.invokevirtual 308, 3) := by decide +kernel
theorem dX10_watched_5 : decode cX10_watched 5 = .ok (.ifCond .eq 27, 3) := by decide +kernel
theorem dX10_watched_8 : decode cX10_watched 8 = .ok (.iload_n 2, 1) := by decide +kernel
theorem dX10_watched_9 : decode cX10_watched 9 = .ok (.ifCond .eq 23, 3) := by decide +kernel
theorem dX10_watched_12 : decode cX10_watched 12 = .ok (.aload_n 0, 1) := by decide +kernel
theorem dX10_watched_13 : decode cX10_watched 13 = .ok (.iload_n 2, 1) := by decide +kernel
theorem dX10_watched_14 : decode cX10_watched 14 = .ok (.invokevirtual 331, 3) := by decide +kernel
theorem dX10_watched_17 : decode cX10_watched 17 = .ok (.ifCond .eq 15, 3) := by decide +kernel
theorem dX10_watched_20 : decode cX10_watched 20 = .ok (.iload_n 3, 1) := by decide +kernel
theorem dX10_watched_21 : decode cX10_watched 21 = .ok (.i2l, 1) := by decide +kernel
theorem dX10_watched_22 : decode cX10_watched 22 = .ok (.lconst 0, 1) := by decide +kernel
theorem dX10_watched_23 : decode cX10_watched 23 = .ok (.ldc2_w 366, 3) := by decide +kernel
theorem dX10_watched_26 : decode cX10_watched 26 = .ok (.invokestatic 125, 3) := by decide +kernel
theorem dX10_watched_29 : decode cX10_watched 29 = .ok (.ifCond .ne 6, 3) := by decide +kernel
theorem dX10_watched_32 : decode cX10_watched 32 = .ok (.bipush (-2), 2) := by decide +kernel
theorem dX10_watched_34 : decode cX10_watched 34 = .ok (.ireturn, 1) := by decide +kernel
theorem dX10_watched_35 : decode cX10_watched 35 = .ok (.aload_n 0, 1) := by decide +kernel
theorem dX10_watched_36 : decode cX10_watched 36 = .ok (.getfield 368, 3) := by decide +kernel
theorem dX10_watched_39 : decode cX10_watched 39 = .ok (.bipush 20, 2) := by decide +kernel
theorem dX10_watched_41 : decode cX10_watched 41 = .ok (.if_icmp .ne 6, 3) := by decide +kernel
theorem dX10_watched_44 : decode cX10_watched 44 = .ok (.bipush (-4), 2) := by decide +kernel
theorem dX10_watched_46 : decode cX10_watched 46 = .ok (.ireturn, 1) := by decide +kernel
theorem dX10_watched_47 : decode cX10_watched 47 = .ok (.aload_n 0, 1) := by decide +kernel
theorem dX10_watched_48 : decode cX10_watched 48 = .ok (.getfield 68, 3) := by decide +kernel
theorem dX10_watched_51 : decode cX10_watched 51 = .ok (.aload_n 0, 1) := by decide +kernel
theorem dX10_watched_52 : decode cX10_watched 52 = .ok (.getfield 368, 3) := by decide +kernel
theorem dX10_watched_55 : decode cX10_watched 55 = .ok (.iload_n 1, 1) := by decide +kernel
theorem dX10_watched_56 : decode cX10_watched 56 = .ok (.iastore, 1) := by decide +kernel
theorem dX10_watched_57 : decode cX10_watched 57 = .ok (.aload_n 0, 1) := by decide +kernel
theorem dX10_watched_58 : decode cX10_watched 58 = .ok (.getfield 71, 3) := by decide +kernel
theorem dX10_watched_61 : decode cX10_watched 61 = .ok (.aload_n 0, 1) := by decide +kernel
theorem dX10_watched_62 : decode cX10_watched 62 = .ok (.getfield 368, 3) := by decide +kernel
theorem dX10_watched_65 : decode cX10_watched 65 = .ok (.iload_n 2, 1) := by decide +kernel
theorem dX10_watched_66 : decode cX10_watched 66 = .ok (.iastore, 1) := by decide +kernel
theorem dX10_watched_67 : decode cX10_watched 67 = .ok (.aload_n 0, 1) := by decide +kernel
theorem dX10_watched_68 : decode cX10_watched 68 = .ok (.getfield 74, 3) := by decide +kernel
theorem dX10_watched_71 : decode cX10_watched 71 = .ok (.aload_n 0, 1) := by decide +kernel
theorem dX10_watched_72 : decode cX10_watched 72 = .ok (.getfield 368, 3) := by decide +kernel
theorem dX10_watched_75 : decode cX10_watched 75 = .ok (.iload_n 3, 1) := by decide +kernel
theorem dX10_watched_76 : decode cX10_watched 76 = .ok (.iastore, 1) := by decide +kernel
theorem dX10_watched_77 : decode cX10_watched 77 = .ok (.aload_n 0, 1) := by decide +kernel
theorem dX10_watched_78 : decode cX10_watched 78 = .ok (.dup, 1) := by decide +kernel
theorem dX10_watched_79 : decode cX10_watched 79 = .ok (.getfield 368, 3) := by decide +kernel
theorem dX10_watched_82 : decode cX10_watched 82 = .ok (.iconst 1, 1) := by decide +kernel
theorem dX10_watched_83 : decode cX10_watched 83 = .ok (.iadd, 1) := by decide +kernel
theorem dX10_watched_84 : decode cX10_watched 84 = .ok (.putfield 368, 3) := by decide +kernel
theorem dX10_watched_87 : decode cX10_watched 87 = .ok (.aload_n 0, 1) := by decide +kernel
theorem dX10_watched_88 : decode cX10_watched 88 = .ok (.getfield 368, 3) := by decide +kernel
theorem dX10_watched_91 : decode cX10_watched 91 = .ok (.iconst 1, 1) := by decide +kernel
theorem dX10_watched_92 : decode cX10_watched 92 = .ok (.isub, 1) := by decide +kernel
theorem dX10_watched_93 : decode cX10_watched 93 = .ok (.ireturn, 1) := by decide +kernel
theorem dX10_letsTill_0 : decode cX10_letsTill 0 = .ok (.aload_n 0, 1) := by decide +kernel
theorem dX10_letsTill_1 : decode cX10_letsTill 1 = .ok (.iconst 1, 1) := by decide +kernel
theorem dX10_letsTill_2 : decode cX10_letsTill 2 = .ok (.invokevirtual 359, 3) := by decide +kernel
theorem dX10_letsTill_5 : decode cX10_letsTill 5 = .ok (.aload_n 0, 1) := by decide +kernel
theorem dX10_letsTill_6 : decode cX10_letsTill 6 = .ok (.iload_n 1, 1) := by decide +kernel
theorem dX10_letsTill_7 : decode cX10_letsTill 7 = .ok (.putfield 117, 3) := by decide +kernel
theorem dX10_letsTill_10 : decode cX10_letsTill 10 = .ok (.aload_n 0, 1) := by decide +kernel
theorem dX10_letsTill_11 : decode cX10_letsTill 11 = .ok (.getfield 368, 3) := by decide +kernel
theorem dX10_letsTill_14 : decode cX10_letsTill 14 = .ok (.istore_n 3, 1) := by decide +kernel
theorem dX10_letsTill_15 : decode cX10_letsTill 15 = .ok (.iconst 0, 1) := by decide +kernel
theorem dX10_letsTill_16 : decode cX10_letsTill 16 = .ok (.istore 4, 2) := by decide +kernel
theorem dX10_letsTill_18 : decode cX10_letsTill 18 = .ok (.iload 4, 2) := by decide +kernel
theorem dX10_letsTill_20 : decode cX10_letsTill 20 = .ok (.aload_n 0, 1) := by decide +kernel
theorem dX10_letsTill_21 : decode cX10_letsTill 21 = .ok (.getfield 368, 3) := by decide +kernel
theorem dX10_letsTill_24 : decode cX10_letsTill 24 = .ok (.if_icmp .ge 63, 3) := by decide +kernel
theorem dX10_letsTill_27 : decode cX10_letsTill 27 = .ok (.iload_n 3, 1) := by decide +kernel
theorem dX10_letsTill_28 : decode cX10_letsTill 28 = .ok (.aload_n 0, 1) := by decide +kernel
theorem dX10_letsTill_29 : decode cX10_letsTill 29 = .ok (.getfield 368, 3) := by decide +kernel
theorem dX10_letsTill_32 : decode cX10_letsTill 32 = .ok (.if_icmp .ne 55, 3) := by decide +kernel
theorem dX10_letsTill_35 : decode cX10_letsTill 35 = .ok (.aload_n 0, 1) := by decide +kernel
theorem dX10_letsTill_36 : decode cX10_letsTill 36 = .ok (.aload_n 0, 1) := by decide +kernel
theorem dX10_letsTill_37 : decode cX10_letsTill 37 = .ok (.getfield 68, 3) := by decide +kernel
theorem dX10_letsTill_40 : decode cX10_letsTill 40 = .ok (.iload 4, 2) := by decide +kernel
theorem dX10_letsTill_42 : decode cX10_letsTill 42 = .ok (.iaload, 1) := by decide +kernel
theorem dX10_letsTill_43 : decode cX10_letsTill 43 = .ok (.iconst 0, 1) := by decide +kernel
theorem dX10_letsTill_44 : decode cX10_letsTill 44 = .ok (.invokevirtual 339, 3) := by decide +kernel
theorem dX10_letsTill_47 : decode cX10_letsTill 47 = .ok (.aload_n 0, 1) := by decide +kernel
theorem dX10_letsTill_48 : decode cX10_letsTill 48 = .ok (.aload_n 0, 1) := by decide +kernel
theorem dX10_letsTill_49 : decode cX10_letsTill 49 = .ok (.getfield 71, 3) := by decide +kernel
theorem dX10_letsTill_52 : decode cX10_letsTill 52 = .ok (.iload 4, 2) := by decide +kernel
theorem dX10_letsTill_54 : decode cX10_letsTill 54 = .ok (.iaload, 1) := by decide +kernel
theorem dX10_letsTill_55 : decode cX10_letsTill 55 = .ok (.invokevirtual 334, 3) := by decide +kernel
theorem dX10_letsTill_58 : decode cX10_letsTill 58 = .ok (.aload_n 0, 1) := by decide +kernel
theorem dX10_letsTill_59 : decode cX10_letsTill 59 = .ok (.getfield 74, 3) := by decide +kernel
theorem dX10_letsTill_62 : decode cX10_letsTill 62 = .ok (.iload 4, 2) := by decide +kernel
theorem dX10_letsTill_64 : decode cX10_letsTill 64 = .ok (.iaload, 1) := by decide +kernel
theorem dX10_letsTill_65 : decode cX10_letsTill 65 = .ok (.isub, 1) := by decide +kernel
theorem dX10_letsTill_66 : decode cX10_letsTill 66 = .ok (.i2l, 1) := by decide +kernel
theorem dX10_letsTill_67 : decode cX10_letsTill 67 = .ok (.iload_n 2, 1) := by decide +kernel
theorem dX10_letsTill_68 : decode cX10_letsTill 68 = .ok (.ineg, 1) := by decide +kernel
theorem dX10_letsTill_69 : decode cX10_letsTill 69 = .ok (.i2l, 1) := by decide +kernel
theorem dX10_letsTill_70 : decode cX10_letsTill 70 = .ok (.iload_n 2, 1) := by decide +kernel
theorem dX10_letsTill_71 : decode cX10_letsTill 71 = .ok (.i2l, 1) := by decide +kernel
theorem dX10_letsTill_72 : decode cX10_letsTill 72 = .ok (.invokestatic 125, 3) := by decide +kernel
theorem dX10_letsTill_75 : decode cX10_letsTill 75 = .ok (.ifCond .ne 6, 3) := by decide +kernel
theorem dX10_letsTill_78 : decode cX10_letsTill 78 = .ok (.iload 4, 2) := by decide +kernel
theorem dX10_letsTill_80 : decode cX10_letsTill 80 = .ok (.istore_n 3, 1) := by decide +kernel
theorem dX10_letsTill_81 : decode cX10_letsTill 81 = .ok (.iinc 4 1, 3) := by decide +kernel
theorem dX10_letsTill_84 : decode cX10_letsTill 84 = .ok (.goto (-66), 3) := by decide +kernel
theorem dX10_letsTill_87 : decode cX10_letsTill 87 = .ok (.aload_n 0, 1) := by decide +kernel
theorem dX10_letsTill_88 : decode cX10_letsTill 88 = .ok (.invokevirtual 363, 3) := by decide +kernel
theorem dX10_letsTill_91 : decode cX10_letsTill 91 = .ok (.iload_n 3, 1) := by decide +kernel
theorem dX10_letsTill_92 : decode cX10_letsTill 92 = .ok (.ireturn, 1) := by decide +kernel
theorem dX10_letsAll_0 : decode cX10_letsAll 0 = .ok (.aload_n 0, 1) := by decide +kernel
theorem dX10_letsAll_1 : decode cX10_letsAll 1 = .ok (.iconst 0, 1) := by decide +kernel
theorem dX10_letsAll_2 : decode cX10_letsAll 2 = .ok (.putfield 371, 3) := by decide +kernel
theorem dX10_letsAll_5 : decode cX10_letsAll 5 = .ok (.aload_n 0, 1) := by decide +kernel
theorem dX10_letsAll_6 : decode cX10_letsAll 6 = .ok (.iconst (-1), 1) := by decide +kernel
theorem dX10_letsAll_7 : decode cX10_letsAll 7 = .ok (.putfield 374, 3) := by decide +kernel
theorem dX10_letsAll_10 : decode cX10_letsAll 10 = .ok (.aload_n 0, 1) := by decide +kernel
theorem dX10_letsAll_11 : decode cX10_letsAll 11 = .ok (.iconst (-1), 1) := by decide +kernel
theorem dX10_letsAll_12 : decode cX10_letsAll 12 = .ok (.putfield 377, 3) := by decide +kernel
theorem dX10_letsAll_15 : decode cX10_letsAll 15 = .ok (.aload_n 0, 1) := by decide +kernel
theorem dX10_letsAll_16 : decode cX10_letsAll 16 = .ok (.iconst 0, 1) := by decide +kernel
theorem dX10_letsAll_17 : decode cX10_letsAll 17 = .ok (.putfield 380, 3) := by decide +kernel
theorem dX10_letsAll_20 : decode cX10_letsAll 20 = .ok (.iconst 5, 1) := by decide +kernel
theorem dX10_letsAll_21 : decode cX10_letsAll 21 = .ok (.istore_n 2, 1) := by decide +kernel
theorem dX10_letsAll_22 : decode cX10_letsAll 22 = .ok (.iload_n 2, 1) := by decide +kernel
theorem dX10_letsAll_23 : decode cX10_letsAll 23 = .ok (.bipush 100, 2) := by decide +kernel
theorem dX10_letsAll_25 : decode cX10_letsAll 25 = .ok (.if_icmp .gt 82, 3) := by decide +kernel
theorem dX10_letsAll_28 : decode cX10_letsAll 28 = .ok (.aload_n 0, 1) := by decide +kernel
theorem dX10_letsAll_29 : decode cX10_letsAll 29 = .ok (.iload_n 2, 1) := by decide +kernel
theorem dX10_letsAll_30 : decode cX10_letsAll 30 = .ok (.iload_n 1, 1) := by decide +kernel
theorem dX10_letsAll_31 : decode cX10_letsAll 31 = .ok (.invokevirtual 383, 3) := by decide +kernel
theorem dX10_letsAll_34 : decode cX10_letsAll 34 = .ok (.istore_n 3, 1) := by decide +kernel
theorem dX10_letsAll_35 : decode cX10_letsAll 35 = .ok (.aload_n 0, 1) := by decide +kernel
theorem dX10_letsAll_36 : decode cX10_letsAll 36 = .ok (.iload_n 3, 1) := by decide +kernel
theorem dX10_letsAll_37 : decode cX10_letsAll 37 = .ok (.aload_n 0, 1) := by decide +kernel
theorem dX10_letsAll_38 : decode cX10_letsAll 38 = .ok (.getfield 380, 3) := by decide +kernel
theorem dX10_letsAll_41 : decode cX10_letsAll 41 = .ok (.if_icmp .le 7, 3) := by decide +kernel
theorem dX10_letsAll_44 : decode cX10_letsAll 44 = .ok (.iload_n 3, 1) := by decide +kernel
theorem dX10_letsAll_45 : decode cX10_letsAll 45 = .ok (.goto 7, 3) := by decide +kernel
theorem dX10_letsAll_48 : decode cX10_letsAll 48 = .ok (.aload_n 0, 1) := by decide +kernel
theorem dX10_letsAll_49 : decode cX10_letsAll 49 = .ok (.getfield 380, 3) := by decide +kernel
theorem dX10_letsAll_52 : decode cX10_letsAll 52 = .ok (.putfield 380, 3) := by decide +kernel
theorem dX10_letsAll_55 : decode cX10_letsAll 55 = .ok (.iload_n 3, 1) := by decide +kernel
theorem dX10_letsAll_56 : decode cX10_letsAll 56 = .ok (.aload_n 0, 1) := by decide +kernel
theorem dX10_letsAll_57 : decode cX10_letsAll 57 = .ok (.getfield 368, 3) := by decide +kernel
theorem dX10_letsAll_60 : decode cX10_letsAll 60 = .ok (.if_icmp .ge 6, 3) := by decide +kernel
theorem dX10_letsAll_63 : decode cX10_letsAll 63 = .ok (.goto 38, 3) := by decide +kernel
theorem dX10_letsAll_66 : decode cX10_letsAll 66 = .ok (.aload_n 0, 1) := by decide +kernel
theorem dX10_letsAll_67 : decode cX10_letsAll 67 = .ok (.dup, 1) := by decide +kernel
theorem dX10_letsAll_68 : decode cX10_letsAll 68 = .ok (.getfield 371, 3) := by decide +kernel
theorem dX10_letsAll_71 : decode cX10_letsAll 71 = .ok (.iconst 1, 1) := by decide +kernel
theorem dX10_letsAll_72 : decode cX10_letsAll 72 = .ok (.iadd, 1) := by decide +kernel
theorem dX10_letsAll_73 : decode cX10_letsAll 73 = .ok (.putfield 371, 3) := by decide +kernel
theorem dX10_letsAll_76 : decode cX10_letsAll 76 = .ok (.aload_n 0, 1) := by decide +kernel
theorem dX10_letsAll_77 : decode cX10_letsAll 77 = .ok (.aload_n 0, 1) := by decide +kernel
theorem dX10_letsAll_78 : decode cX10_letsAll 78 = .ok (.getfield 374, 3) := by decide +kernel
theorem dX10_letsAll_81 : decode cX10_letsAll 81 = .ok (.iconst (-1), 1) := by decide +kernel
theorem dX10_letsAll_82 : decode cX10_letsAll 82 = .ok (.if_icmp .ne 7, 3) := by decide +kernel
theorem dX10_letsAll_85 : decode cX10_letsAll 85 = .ok (.iload_n 2, 1) := by decide +kernel
theorem dX10_letsAll_86 : decode cX10_letsAll 86 = .ok (.goto 7, 3) := by decide +kernel
theorem dX10_letsAll_89 : decode cX10_letsAll 89 = .ok (.aload_n 0, 1) := by decide +kernel
theorem dX10_letsAll_90 : decode cX10_letsAll 90 = .ok (.getfield 374, 3) := by decide +kernel
theorem dX10_letsAll_93 : decode cX10_letsAll 93 = .ok (.putfield 374, 3) := by decide +kernel
theorem dX10_letsAll_96 : decode cX10_letsAll 96 = .ok (.aload_n 0, 1) := by decide +kernel
theorem dX10_letsAll_97 : decode cX10_letsAll 97 = .ok (.iload_n 2, 1) := by decide +kernel
theorem dX10_letsAll_98 : decode cX10_letsAll 98 = .ok (.putfield 377, 3) := by decide +kernel
theorem dX10_letsAll_101 : decode cX10_letsAll 101 = .ok (.iinc 2 5, 3) := by decide +kernel
theorem dX10_letsAll_104 : decode cX10_letsAll 104 = .ok (.goto (-82), 3) := by decide +kernel
theorem dX10_letsAll_107 : decode cX10_letsAll 107 = .ok (.return_, 1) := by decide +kernel
theorem dX10_lets_0 : decode cX10_lets 0 = .ok (.iload_n 1, 1) := by decide +kernel
theorem dX10_lets_1 : decode cX10_lets 1 = .ok (.i2l, 1) := by decide +kernel
theorem dX10_lets_2 : decode cX10_lets 2 = .ok (.lconst 0, 1) := by decide +kernel
theorem dX10_lets_3 : decode cX10_lets 3 = .ok (.ldc2_w 366, 3) := by decide +kernel
theorem dX10_lets_6 : decode cX10_lets 6 = .ok (.invokestatic 125, 3) := by decide +kernel
theorem dX10_lets_9 : decode cX10_lets 9 = .ok (.ifCond .eq 15, 3) := by decide +kernel
theorem dX10_lets_12 : decode cX10_lets 12 = .ok (.iload_n 2, 1) := by decide +kernel
theorem dX10_lets_13 : decode cX10_lets 13 = .ok (.i2l, 1) := by decide +kernel
theorem dX10_lets_14 : decode cX10_lets 14 = .ok (.lconst 0, 1) := by decide +kernel
theorem dX10_lets_15 : decode cX10_lets 15 = .ok (.ldc2_w 386, 3) := by decide +kernel
theorem dX10_lets_18 : decode cX10_lets 18 = .ok (.invokestatic 125, 3) := by decide +kernel
theorem dX10_lets_21 : decode cX10_lets 21 = .ok (.ifCond .ne 6, 3) := by decide +kernel
theorem dX10_lets_24 : decode cX10_lets 24 = .ok (.bipush (-2), 2) := by decide +kernel
theorem dX10_lets_26 : decode cX10_lets 26 = .ok (.ireturn, 1) := by decide +kernel
theorem dX10_lets_27 : decode cX10_lets 27 = .ok (.aload_n 0, 1) := by decide +kernel
theorem dX10_lets_28 : decode cX10_lets 28 = .ok (.iload_n 1, 1) := by decide +kernel
theorem dX10_lets_29 : decode cX10_lets 29 = .ok (.invokevirtual 388, 3) := by decide +kernel
theorem dX10_lets_32 : decode cX10_lets 32 = .ok (.iload_n 2, 1) := by decide +kernel
theorem dX10_lets_33 : decode cX10_lets 33 = .ok (.ifCond .ne 10, 3) := by decide +kernel
theorem dX10_lets_36 : decode cX10_lets 36 = .ok (.aload_n 0, 1) := by decide +kernel
theorem dX10_lets_37 : decode cX10_lets 37 = .ok (.getfield 371, 3) := by decide +kernel
theorem dX10_lets_40 : decode cX10_lets 40 = .ok (.goto 19, 3) := by decide +kernel
theorem dX10_lets_43 : decode cX10_lets 43 = .ok (.iload_n 2, 1) := by decide +kernel
theorem dX10_lets_44 : decode cX10_lets 44 = .ok (.iconst 1, 1) := by decide +kernel
theorem dX10_lets_45 : decode cX10_lets 45 = .ok (.if_icmp .ne 10, 3) := by decide +kernel
theorem dX10_lets_48 : decode cX10_lets 48 = .ok (.aload_n 0, 1) := by decide +kernel
theorem dX10_lets_49 : decode cX10_lets 49 = .ok (.getfield 374, 3) := by decide +kernel
theorem dX10_lets_52 : decode cX10_lets 52 = .ok (.goto 7, 3) := by decide +kernel
theorem dX10_lets_55 : decode cX10_lets 55 = .ok (.aload_n 0, 1) := by decide +kernel
theorem dX10_lets_56 : decode cX10_lets 56 = .ok (.getfield 377, 3) := by decide +kernel
theorem dX10_lets_59 : decode cX10_lets 59 = .ok (.ireturn, 1) := by decide +kernel
theorem dX10_thrownOut_0 : decode cX10_thrownOut 0 = .ok (.iload_n 1, 1) := by decide +kernel
theorem dX10_thrownOut_1 : decode cX10_thrownOut 1 = .ok (.i2l, 1) := by decide +kernel
theorem dX10_thrownOut_2 : decode cX10_thrownOut 2 = .ok (.lconst 0, 1) := by decide +kernel
theorem dX10_thrownOut_3 : decode cX10_thrownOut 3 = .ok (.ldc2_w 366, 3) := by decide +kernel
theorem dX10_thrownOut_6 : decode cX10_thrownOut 6 = .ok (.invokestatic 125, 3) := by decide +kernel
theorem dX10_thrownOut_9 : decode cX10_thrownOut 9 = .ok (.ifCond .ne 6, 3) := by decide +kernel
theorem dX10_thrownOut_12 : decode cX10_thrownOut 12 = .ok (.bipush (-2), 2) := by decide +kernel
theorem dX10_thrownOut_14 : decode cX10_thrownOut 14 = .ok (.ireturn, 1) := by decide +kernel
theorem dX10_thrownOut_15 : decode cX10_thrownOut 15 = .ok (.aload_n 0, 1) := by decide +kernel
theorem dX10_thrownOut_16 : decode cX10_thrownOut 16 = .ok (.iload_n 1, 1) := by decide +kernel
theorem dX10_thrownOut_17 : decode cX10_thrownOut 17 = .ok (.invokevirtual 388, 3) := by decide +kernel
theorem dX10_thrownOut_20 : decode cX10_thrownOut 20 = .ok (.aload_n 0, 1) := by decide +kernel
theorem dX10_thrownOut_21 : decode cX10_thrownOut 21 = .ok (.getfield 371, 3) := by decide +kernel
theorem dX10_thrownOut_24 : decode cX10_thrownOut 24 = .ok (.ifCond .le 7, 3) := by decide +kernel
theorem dX10_thrownOut_27 : decode cX10_thrownOut 27 = .ok (.iconst (-1), 1) := by decide +kernel
theorem dX10_thrownOut_28 : decode cX10_thrownOut 28 = .ok (.goto 7, 3) := by decide +kernel
theorem dX10_thrownOut_31 : decode cX10_thrownOut 31 = .ok (.aload_n 0, 1) := by decide +kernel
theorem dX10_thrownOut_32 : decode cX10_thrownOut 32 = .ok (.getfield 380, 3) := by decide +kernel
theorem dX10_thrownOut_35 : decode cX10_thrownOut 35 = .ok (.ireturn, 1) := by decide +kernel
theorem dX10_behind_0 : decode cX10_behind 0 = .ok (.aload_n 0, 1) := by decide +kernel
theorem dX10_behind_1 : decode cX10_behind 1 = .ok (.iconst 1, 1) := by decide +kernel
theorem dX10_behind_2 : decode cX10_behind 2 = .ok (.invokevirtual 359, 3) := by decide +kernel
theorem dX10_behind_5 : decode cX10_behind 5 = .ok (.aload_n 0, 1) := by decide +kernel
theorem dX10_behind_6 : decode cX10_behind 6 = .ok (.iload_n 1, 1) := by decide +kernel
theorem dX10_behind_7 : decode cX10_behind 7 = .ok (.putfield 117, 3) := by decide +kernel
theorem dX10_behind_10 : decode cX10_behind 10 = .ok (.iconst 0, 1) := by decide +kernel
theorem dX10_behind_11 : decode cX10_behind 11 = .ok (.istore 4, 2) := by decide +kernel
theorem dX10_behind_13 : decode cX10_behind 13 = .ok (.iload 4, 2) := by decide +kernel
theorem dX10_behind_15 : decode cX10_behind 15 = .ok (.aload_n 0, 1) := by decide +kernel
theorem dX10_behind_16 : decode cX10_behind 16 = .ok (.getfield 368, 3) := by decide +kernel
theorem dX10_behind_19 : decode cX10_behind 19 = .ok (.if_icmp .ge 21, 3) := by decide +kernel
theorem dX10_behind_22 : decode cX10_behind 22 = .ok (.aload_n 0, 1) := by decide +kernel
theorem dX10_behind_23 : decode cX10_behind 23 = .ok (.aload_n 0, 1) := by decide +kernel
theorem dX10_behind_24 : decode cX10_behind 24 = .ok (.getfield 68, 3) := by decide +kernel
theorem dX10_behind_27 : decode cX10_behind 27 = .ok (.iload 4, 2) := by decide +kernel
theorem dX10_behind_29 : decode cX10_behind 29 = .ok (.iaload, 1) := by decide +kernel
theorem dX10_behind_30 : decode cX10_behind 30 = .ok (.iconst 0, 1) := by decide +kernel
theorem dX10_behind_31 : decode cX10_behind 31 = .ok (.invokevirtual 339, 3) := by decide +kernel
theorem dX10_behind_34 : decode cX10_behind 34 = .ok (.iinc 4 1, 3) := by decide +kernel
theorem dX10_behind_37 : decode cX10_behind 37 = .ok (.goto (-24), 3) := by decide +kernel
theorem dX10_behind_40 : decode cX10_behind 40 = .ok (.aload_n 0, 1) := by decide +kernel
theorem dX10_behind_41 : decode cX10_behind 41 = .ok (.iload_n 2, 1) := by decide +kernel
theorem dX10_behind_42 : decode cX10_behind 42 = .ok (.iconst 0, 1) := by decide +kernel
theorem dX10_behind_43 : decode cX10_behind 43 = .ok (.invokevirtual 339, 3) := by decide +kernel
theorem dX10_behind_46 : decode cX10_behind 46 = .ok (.aload_n 0, 1) := by decide +kernel
theorem dX10_behind_47 : decode cX10_behind 47 = .ok (.iload_n 3, 1) := by decide +kernel
theorem dX10_behind_48 : decode cX10_behind 48 = .ok (.invokevirtual 334, 3) := by decide +kernel
theorem dX10_behind_51 : decode cX10_behind 51 = .ok (.istore 4, 2) := by decide +kernel
theorem dX10_behind_53 : decode cX10_behind 53 = .ok (.aload_n 0, 1) := by decide +kernel
theorem dX10_behind_54 : decode cX10_behind 54 = .ok (.invokevirtual 363, 3) := by decide +kernel
theorem dX10_behind_57 : decode cX10_behind 57 = .ok (.iload 4, 2) := by decide +kernel
theorem dX10_behind_59 : decode cX10_behind 59 = .ok (.ireturn, 1) := by decide +kernel
theorem dX10_next__0 : decode cX10_next_ 0 = .ok (.iload_n 1, 1) := by decide +kernel
theorem dX10_next__1 : decode cX10_next_ 1 = .ok (.i2l, 1) := by decide +kernel
theorem dX10_next__2 : decode cX10_next_ 2 = .ok (.lconst 0, 1) := by decide +kernel
theorem dX10_next__3 : decode cX10_next_ 3 = .ok (.ldc2_w 366, 3) := by decide +kernel
theorem dX10_next__6 : decode cX10_next_ 6 = .ok (.invokestatic 125, 3) := by decide +kernel
theorem dX10_next__9 : decode cX10_next_ 9 = .ok (.ifCond .eq 25, 3) := by decide +kernel
theorem dX10_next__12 : decode cX10_next_ 12 = .ok (.iload_n 2, 1) := by decide +kernel
theorem dX10_next__13 : decode cX10_next_ 13 = .ok (.ifCond .eq 21, 3) := by decide +kernel
theorem dX10_next__16 : decode cX10_next_ 16 = .ok (.aload_n 0, 1) := by decide +kernel
theorem dX10_next__17 : decode cX10_next_ 17 = .ok (.iload_n 2, 1) := by decide +kernel
theorem dX10_next__18 : decode cX10_next_ 18 = .ok (.invokevirtual 331, 3) := by decide +kernel
theorem dX10_next__21 : decode cX10_next_ 21 = .ok (.ifCond .eq 13, 3) := by decide +kernel
theorem dX10_next__24 : decode cX10_next_ 24 = .ok (.iload_n 3, 1) := by decide +kernel
theorem dX10_next__25 : decode cX10_next_ 25 = .ok (.i2l, 1) := by decide +kernel
theorem dX10_next__26 : decode cX10_next_ 26 = .ok (.lconst 0, 1) := by decide +kernel
theorem dX10_next__27 : decode cX10_next_ 27 = .ok (.lconst 1, 1) := by decide +kernel
theorem dX10_next__28 : decode cX10_next_ 28 = .ok (.invokestatic 125, 3) := by decide +kernel
theorem dX10_next__31 : decode cX10_next_ 31 = .ok (.ifCond .ne 6, 3) := by decide +kernel
theorem dX10_next__34 : decode cX10_next_ 34 = .ok (.bipush (-2), 2) := by decide +kernel
theorem dX10_next__36 : decode cX10_next_ 36 = .ok (.ireturn, 1) := by decide +kernel
theorem dX10_next__37 : decode cX10_next_ 37 = .ok (.aload_n 0, 1) := by decide +kernel
theorem dX10_next__38 : decode cX10_next_ 38 = .ok (.iload_n 1, 1) := by decide +kernel
theorem dX10_next__39 : decode cX10_next_ 39 = .ok (.invokevirtual 388, 3) := by decide +kernel
theorem dX10_next__42 : decode cX10_next_ 42 = .ok (.aload_n 0, 1) := by decide +kernel
theorem dX10_next__43 : decode cX10_next_ 43 = .ok (.getfield 371, 3) := by decide +kernel
theorem dX10_next__46 : decode cX10_next_ 46 = .ok (.ifCond .eq 10, 3) := by decide +kernel
theorem dX10_next__49 : decode cX10_next_ 49 = .ok (.aload_n 0, 1) := by decide +kernel
theorem dX10_next__50 : decode cX10_next_ 50 = .ok (.getfield 302, 3) := by decide +kernel
theorem dX10_next__53 : decode cX10_next_ 53 = .ok (.ifCond .ne 6, 3) := by decide +kernel
theorem dX10_next__56 : decode cX10_next_ 56 = .ok (.bipush (-3), 2) := by decide +kernel
theorem dX10_next__58 : decode cX10_next_ 58 = .ok (.ireturn, 1) := by decide +kernel
theorem dX10_next__59 : decode cX10_next_ 59 = .ok (.iconst 0, 1) := by decide +kernel
theorem dX10_next__60 : decode cX10_next_ 60 = .ok (.istore 4, 2) := by decide +kernel
theorem dX10_next__62 : decode cX10_next_ 62 = .ok (.iconst (-1), 1) := by decide +kernel
theorem dX10_next__63 : decode cX10_next_ 63 = .ok (.istore 5, 2) := by decide +kernel
theorem dX10_next__65 : decode cX10_next_ 65 = .ok (.iconst 0, 1) := by decide +kernel
theorem dX10_next__66 : decode cX10_next_ 66 = .ok (.istore 6, 2) := by decide +kernel
theorem dX10_next__68 : decode cX10_next_ 68 = .ok (.iload 6, 2) := by decide +kernel
theorem dX10_next__70 : decode cX10_next_ 70 = .ok (.aload_n 0, 1) := by decide +kernel
theorem dX10_next__71 : decode cX10_next_ 71 = .ok (.getfield 302, 3) := by decide +kernel
theorem dX10_next__74 : decode cX10_next_ 74 = .ok (.if_icmp .ge 67, 3) := by decide +kernel
theorem dX10_next__77 : decode cX10_next_ 77 = .ok (.aload_n 0, 1) := by decide +kernel
theorem dX10_next__78 : decode cX10_next_ 78 = .ok (.aload_n 0, 1) := by decide +kernel
theorem dX10_next__79 : decode cX10_next_ 79 = .ok (.getfield 374, 3) := by decide +kernel
theorem dX10_next__82 : decode cX10_next_ 82 = .ok (.iload 6, 2) := by decide +kernel
theorem dX10_next__84 : decode cX10_next_ 84 = .ok (.iload_n 2, 1) := by decide +kernel
theorem dX10_next__85 : decode cX10_next_ 85 = .ok (.invokevirtual 392, 3) := by decide +kernel
theorem dX10_next__88 : decode cX10_next_ 88 = .ok (.aload_n 0, 1) := by decide +kernel
theorem dX10_next__89 : decode cX10_next_ 89 = .ok (.aload_n 0, 1) := by decide +kernel
theorem dX10_next__90 : decode cX10_next_ 90 = .ok (.getfield 377, 3) := by decide +kernel
theorem dX10_next__93 : decode cX10_next_ 93 = .ok (.iload 6, 2) := by decide +kernel
theorem dX10_next__95 : decode cX10_next_ 95 = .ok (.iload_n 2, 1) := by decide +kernel
theorem dX10_next__96 : decode cX10_next_ 96 = .ok (.invokevirtual 392, 3) := by decide +kernel
theorem dX10_next__99 : decode cX10_next_ 99 = .ok (.isub, 1) := by decide +kernel
theorem dX10_next__100 : decode cX10_next_ 100 = .ok (.istore 7, 2) := by decide +kernel
theorem dX10_next__102 : decode cX10_next_ 102 = .ok (.iload 7, 2) := by decide +kernel
theorem dX10_next__104 : decode cX10_next_ 104 = .ok (.ifCond .ge 9, 3) := by decide +kernel
theorem dX10_next__107 : decode cX10_next_ 107 = .ok (.iload 7, 2) := by decide +kernel
theorem dX10_next__109 : decode cX10_next_ 109 = .ok (.ineg, 1) := by decide +kernel
theorem dX10_next__110 : decode cX10_next_ 110 = .ok (.goto 5, 3) := by decide +kernel
theorem dX10_next__113 : decode cX10_next_ 113 = .ok (.iload 7, 2) := by decide +kernel
theorem dX10_next__115 : decode cX10_next_ 115 = .ok (.istore 7, 2) := by decide +kernel
theorem dX10_next__117 : decode cX10_next_ 117 = .ok (.iload 7, 2) := by decide +kernel
theorem dX10_next__119 : decode cX10_next_ 119 = .ok (.iload 5, 2) := by decide +kernel
theorem dX10_next__121 : decode cX10_next_ 121 = .ok (.if_icmp .gt 6, 3) := by decide +kernel
theorem dX10_next__124 : decode cX10_next_ 124 = .ok (.goto 11, 3) := by decide +kernel
theorem dX10_next__127 : decode cX10_next_ 127 = .ok (.iload 7, 2) := by decide +kernel
theorem dX10_next__129 : decode cX10_next_ 129 = .ok (.istore 5, 2) := by decide +kernel
theorem dX10_next__131 : decode cX10_next_ 131 = .ok (.iload 6, 2) := by decide +kernel
theorem dX10_next__133 : decode cX10_next_ 133 = .ok (.istore 4, 2) := by decide +kernel
theorem dX10_next__135 : decode cX10_next_ 135 = .ok (.iinc 6 1, 3) := by decide +kernel
theorem dX10_next__138 : decode cX10_next_ 138 = .ok (.goto (-70), 3) := by decide +kernel
theorem dX10_next__141 : decode cX10_next_ 141 = .ok (.iload_n 3, 1) := by decide +kernel
theorem dX10_next__142 : decode cX10_next_ 142 = .ok (.ifCond .ne 8, 3) := by decide +kernel
theorem dX10_next__145 : decode cX10_next_ 145 = .ok (.iload 4, 2) := by decide +kernel
theorem dX10_next__147 : decode cX10_next_ 147 = .ok (.goto 5, 3) := by decide +kernel
theorem dX10_next__150 : decode cX10_next_ 150 = .ok (.iload 5, 2) := by decide +kernel
theorem dX10_next__152 : decode cX10_next_ 152 = .ok (.ireturn, 1) := by decide +kernel
theorem dX10_near_0 : decode cX10_near 0 = .ok (.aload_n 0, 1) := by decide +kernel
theorem dX10_near_1 : decode cX10_near 1 = .ok (.iload_n 1, 1) := by decide +kernel
theorem dX10_near_2 : decode cX10_near 2 = .ok (.invokevirtual 142, 3) := by decide +kernel
theorem dX10_near_5 : decode cX10_near 5 = .ok (.ifCond .eq 50, 3) := by decide +kernel
theorem dX10_near_8 : decode cX10_near 8 = .ok (.aload_n 0, 1) := by decide +kernel
theorem dX10_near_9 : decode cX10_near 9 = .ok (.iload_n 2, 1) := by decide +kernel
theorem dX10_near_10 : decode cX10_near 10 = .ok (.invokevirtual 142, 3) := by decide +kernel
theorem dX10_near_13 : decode cX10_near 13 = .ok (.ifCond .eq 42, 3) := by decide +kernel
theorem dX10_near_16 : decode cX10_near 16 = .ok (.iload_n 1, 1) := by decide +kernel
theorem dX10_near_17 : decode cX10_near 17 = .ok (.iload_n 2, 1) := by decide +kernel
theorem dX10_near_18 : decode cX10_near 18 = .ok (.if_icmp .eq 37, 3) := by decide +kernel
theorem dX10_near_21 : decode cX10_near 21 = .ok (.aload_n 0, 1) := by decide +kernel
theorem dX10_near_22 : decode cX10_near 22 = .ok (.iload_n 3, 1) := by decide +kernel
theorem dX10_near_23 : decode cX10_near 23 = .ok (.invokevirtual 308, 3) := by decide +kernel
theorem dX10_near_26 : decode cX10_near 26 = .ok (.ifCond .eq 29, 3) := by decide +kernel
theorem dX10_near_29 : decode cX10_near 29 = .ok (.iload 4, 2) := by decide +kernel
theorem dX10_near_31 : decode cX10_near 31 = .ok (.i2l, 1) := by decide +kernel
theorem dX10_near_32 : decode cX10_near 32 = .ok (.lconst 1, 1) := by decide +kernel
theorem dX10_near_33 : decode cX10_near 33 = .ok (.ldc2_w 395, 3) := by decide +kernel
theorem dX10_near_36 : decode cX10_near 36 = .ok (.invokestatic 125, 3) := by decide +kernel
theorem dX10_near_39 : decode cX10_near 39 = .ok (.ifCond .eq 16, 3) := by decide +kernel
theorem dX10_near_42 : decode cX10_near 42 = .ok (.iload 5, 2) := by decide +kernel
theorem dX10_near_44 : decode cX10_near 44 = .ok (.i2l, 1) := by decide +kernel
theorem dX10_near_45 : decode cX10_near 45 = .ok (.lconst 1, 1) := by decide +kernel
theorem dX10_near_46 : decode cX10_near 46 = .ok (.ldc2_w 366, 3) := by decide +kernel
theorem dX10_near_49 : decode cX10_near 49 = .ok (.invokestatic 125, 3) := by decide +kernel
theorem dX10_near_52 : decode cX10_near 52 = .ok (.ifCond .ne 6, 3) := by decide +kernel
theorem dX10_near_55 : decode cX10_near 55 = .ok (.bipush (-2), 2) := by decide +kernel
theorem dX10_near_57 : decode cX10_near 57 = .ok (.ireturn, 1) := by decide +kernel
theorem dX10_near_58 : decode cX10_near 58 = .ok (.aload_n 0, 1) := by decide +kernel
theorem dX10_near_59 : decode cX10_near 59 = .ok (.getfield 38, 3) := by decide +kernel
theorem dX10_near_62 : decode cX10_near 62 = .ok (.bipush 8, 2) := by decide +kernel
theorem dX10_near_64 : decode cX10_near 64 = .ok (.iload_n 1, 1) := by decide +kernel
theorem dX10_near_65 : decode cX10_near 65 = .ok (.imul, 1) := by decide +kernel
theorem dX10_near_66 : decode cX10_near 66 = .ok (.iload_n 2, 1) := by decide +kernel
theorem dX10_near_67 : decode cX10_near 67 = .ok (.iadd, 1) := by decide +kernel
theorem dX10_near_68 : decode cX10_near 68 = .ok (.iaload, 1) := by decide +kernel
theorem dX10_near_69 : decode cX10_near 69 = .ok (.istore 6, 2) := by decide +kernel
theorem dX10_near_71 : decode cX10_near 71 = .ok (.iconst (-1), 1) := by decide +kernel
theorem dX10_near_72 : decode cX10_near 72 = .ok (.istore 7, 2) := by decide +kernel
theorem dX10_near_74 : decode cX10_near 74 = .ok (.bipush 100, 2) := by decide +kernel
theorem dX10_near_76 : decode cX10_near 76 = .ok (.istore 8, 2) := by decide +kernel
theorem dX10_near_78 : decode cX10_near 78 = .ok (.iload 8, 2) := by decide +kernel
theorem dX10_near_80 : decode cX10_near 80 = .ok (.ifCond .lt 112, 3) := by decide +kernel
theorem dX10_near_83 : decode cX10_near 83 = .ok (.iload 7, 2) := by decide +kernel
theorem dX10_near_85 : decode cX10_near 85 = .ok (.iconst (-1), 1) := by decide +kernel
theorem dX10_near_86 : decode cX10_near 86 = .ok (.if_icmp .ne 106, 3) := by decide +kernel
theorem dX10_near_89 : decode cX10_near 89 = .ok (.aload_n 0, 1) := by decide +kernel
theorem dX10_near_90 : decode cX10_near 90 = .ok (.getfield 38, 3) := by decide +kernel
theorem dX10_near_93 : decode cX10_near 93 = .ok (.bipush 8, 2) := by decide +kernel
theorem dX10_near_95 : decode cX10_near 95 = .ok (.iload_n 1, 1) := by decide +kernel
theorem dX10_near_96 : decode cX10_near 96 = .ok (.imul, 1) := by decide +kernel
theorem dX10_near_97 : decode cX10_near 97 = .ok (.iload_n 2, 1) := by decide +kernel
theorem dX10_near_98 : decode cX10_near 98 = .ok (.iadd, 1) := by decide +kernel
theorem dX10_near_99 : decode cX10_near 99 = .ok (.iload 8, 2) := by decide +kernel
theorem dX10_near_101 : decode cX10_near 101 = .ok (.iastore, 1) := by decide +kernel
theorem dX10_near_102 : decode cX10_near 102 = .ok (.aload_n 0, 1) := by decide +kernel
theorem dX10_near_103 : decode cX10_near 103 = .ok (.getfield 38, 3) := by decide +kernel
theorem dX10_near_106 : decode cX10_near 106 = .ok (.bipush 8, 2) := by decide +kernel
theorem dX10_near_108 : decode cX10_near 108 = .ok (.iload_n 2, 1) := by decide +kernel
theorem dX10_near_109 : decode cX10_near 109 = .ok (.imul, 1) := by decide +kernel
theorem dX10_near_110 : decode cX10_near 110 = .ok (.iload_n 1, 1) := by decide +kernel
theorem dX10_near_111 : decode cX10_near 111 = .ok (.iadd, 1) := by decide +kernel
theorem dX10_near_112 : decode cX10_near 112 = .ok (.iload 8, 2) := by decide +kernel
theorem dX10_near_114 : decode cX10_near 114 = .ok (.iastore, 1) := by decide +kernel
theorem dX10_near_115 : decode cX10_near 115 = .ok (.aload_n 0, 1) := by decide +kernel
theorem dX10_near_116 : decode cX10_near 116 = .ok (.iconst 1, 1) := by decide +kernel
theorem dX10_near_117 : decode cX10_near 117 = .ok (.invokevirtual 359, 3) := by decide +kernel
theorem dX10_near_120 : decode cX10_near 120 = .ok (.iconst 0, 1) := by decide +kernel
theorem dX10_near_121 : decode cX10_near 121 = .ok (.istore 9, 2) := by decide +kernel
theorem dX10_near_123 : decode cX10_near 123 = .ok (.iload 9, 2) := by decide +kernel
theorem dX10_near_125 : decode cX10_near 125 = .ok (.iload 4, 2) := by decide +kernel
theorem dX10_near_127 : decode cX10_near 127 = .ok (.if_icmp .ge 15, 3) := by decide +kernel
theorem dX10_near_130 : decode cX10_near 130 = .ok (.aload_n 0, 1) := by decide +kernel
theorem dX10_near_131 : decode cX10_near 131 = .ok (.iload_n 3, 1) := by decide +kernel
theorem dX10_near_132 : decode cX10_near 132 = .ok (.iconst 0, 1) := by decide +kernel
theorem dX10_near_133 : decode cX10_near 133 = .ok (.invokevirtual 339, 3) := by decide +kernel
theorem dX10_near_136 : decode cX10_near 136 = .ok (.iinc 9 1, 3) := by decide +kernel
theorem dX10_near_139 : decode cX10_near 139 = .ok (.goto (-16), 3) := by decide +kernel
theorem dX10_near_142 : decode cX10_near 142 = .ok (.aload_n 0, 1) := by decide +kernel
theorem dX10_near_143 : decode cX10_near 143 = .ok (.iconst 1, 1) := by decide +kernel
theorem dX10_near_144 : decode cX10_near 144 = .ok (.iload_n 1, 1) := by decide +kernel
theorem dX10_near_145 : decode cX10_near 145 = .ok (.ishl, 1) := by decide +kernel
theorem dX10_near_146 : decode cX10_near 146 = .ok (.invokevirtual 334, 3) := by decide +kernel
theorem dX10_near_149 : decode cX10_near 149 = .ok (.aload_n 0, 1) := by decide +kernel
theorem dX10_near_150 : decode cX10_near 150 = .ok (.iconst 1, 1) := by decide +kernel
theorem dX10_near_151 : decode cX10_near 151 = .ok (.iload_n 2, 1) := by decide +kernel
theorem dX10_near_152 : decode cX10_near 152 = .ok (.ishl, 1) := by decide +kernel
theorem dX10_near_153 : decode cX10_near 153 = .ok (.invokevirtual 334, 3) := by decide +kernel
theorem dX10_near_156 : decode cX10_near 156 = .ok (.isub, 1) := by decide +kernel
theorem dX10_near_157 : decode cX10_near 157 = .ok (.istore 9, 2) := by decide +kernel
theorem dX10_near_159 : decode cX10_near 159 = .ok (.iload 9, 2) := by decide +kernel
theorem dX10_near_161 : decode cX10_near 161 = .ok (.iload 5, 2) := by decide +kernel
theorem dX10_near_163 : decode cX10_near 163 = .ok (.if_icmp .ge 11, 3) := by decide +kernel
theorem dX10_near_166 : decode cX10_near 166 = .ok (.iload 9, 2) := by decide +kernel
theorem dX10_near_168 : decode cX10_near 168 = .ok (.iload 5, 2) := by decide +kernel
theorem dX10_near_170 : decode cX10_near 170 = .ok (.ineg, 1) := by decide +kernel
theorem dX10_near_171 : decode cX10_near 171 = .ok (.if_icmp .gt 8, 3) := by decide +kernel
theorem dX10_near_174 : decode cX10_near 174 = .ok (.iload 8, 2) := by decide +kernel
theorem dX10_near_176 : decode cX10_near 176 = .ok (.goto 4, 3) := by decide +kernel
theorem dX10_near_179 : decode cX10_near 179 = .ok (.iconst (-1), 1) := by decide +kernel
theorem dX10_near_180 : decode cX10_near 180 = .ok (.istore 7, 2) := by decide +kernel
theorem dX10_near_182 : decode cX10_near 182 = .ok (.aload_n 0, 1) := by decide +kernel
theorem dX10_near_183 : decode cX10_near 183 = .ok (.invokevirtual 363, 3) := by decide +kernel
theorem dX10_near_186 : decode cX10_near 186 = .ok (.iinc 8 (-5), 3) := by decide +kernel
theorem dX10_near_189 : decode cX10_near 189 = .ok (.goto (-111), 3) := by decide +kernel
theorem dX10_near_192 : decode cX10_near 192 = .ok (.aload_n 0, 1) := by decide +kernel
theorem dX10_near_193 : decode cX10_near 193 = .ok (.getfield 38, 3) := by decide +kernel
theorem dX10_near_196 : decode cX10_near 196 = .ok (.bipush 8, 2) := by decide +kernel
theorem dX10_near_198 : decode cX10_near 198 = .ok (.iload_n 1, 1) := by decide +kernel
theorem dX10_near_199 : decode cX10_near 199 = .ok (.imul, 1) := by decide +kernel
theorem dX10_near_200 : decode cX10_near 200 = .ok (.iload_n 2, 1) := by decide +kernel
theorem dX10_near_201 : decode cX10_near 201 = .ok (.iadd, 1) := by decide +kernel
theorem dX10_near_202 : decode cX10_near 202 = .ok (.iload 6, 2) := by decide +kernel
theorem dX10_near_204 : decode cX10_near 204 = .ok (.iastore, 1) := by decide +kernel
theorem dX10_near_205 : decode cX10_near 205 = .ok (.aload_n 0, 1) := by decide +kernel
theorem dX10_near_206 : decode cX10_near 206 = .ok (.getfield 38, 3) := by decide +kernel
theorem dX10_near_209 : decode cX10_near 209 = .ok (.bipush 8, 2) := by decide +kernel
theorem dX10_near_211 : decode cX10_near 211 = .ok (.iload_n 2, 1) := by decide +kernel
theorem dX10_near_212 : decode cX10_near 212 = .ok (.imul, 1) := by decide +kernel
theorem dX10_near_213 : decode cX10_near 213 = .ok (.iload_n 1, 1) := by decide +kernel
theorem dX10_near_214 : decode cX10_near 214 = .ok (.iadd, 1) := by decide +kernel
theorem dX10_near_215 : decode cX10_near 215 = .ok (.iload 6, 2) := by decide +kernel
theorem dX10_near_217 : decode cX10_near 217 = .ok (.iastore, 1) := by decide +kernel
theorem dX10_near_218 : decode cX10_near 218 = .ok (.iload 7, 2) := by decide +kernel
theorem dX10_near_220 : decode cX10_near 220 = .ok (.ireturn, 1) := by decide +kernel
theorem dX10_image_0 : decode cX10_image 0 = .ok (.aload_n 0, 1) := by decide +kernel
theorem dX10_image_1 : decode cX10_image 1 = .ok (.iconst 1, 1) := by decide +kernel
theorem dX10_image_2 : decode cX10_image 2 = .ok (.putfield 397, 3) := by decide +kernel
theorem dX10_image_5 : decode cX10_image 5 = .ok (.aload_n 0, 1) := by decide +kernel
theorem dX10_image_6 : decode cX10_image 6 = .ok (.aload_n 0, 1) := by decide +kernel
theorem dX10_image_7 : decode cX10_image 7 = .ok (.getfield 122, 3) := by decide +kernel
theorem dX10_image_10 : decode cX10_image 10 = .ok (.putfield 400, 3) := by decide +kernel
theorem dX10_image_13 : decode cX10_image 13 = .ok (.aload_n 0, 1) := by decide +kernel
theorem dX10_image_14 : decode cX10_image 14 = .ok (.aload_n 0, 1) := by decide +kernel
theorem dX10_image_15 : decode cX10_image 15 = .ok (.getfield 245, 3) := by decide +kernel
theorem dX10_image_18 : decode cX10_image 18 = .ok (.putfield 403, 3) := by decide +kernel
theorem dX10_image_21 : decode cX10_image 21 = .ok (.aload_n 0, 1) := by decide +kernel
theorem dX10_image_22 : decode cX10_image 22 = .ok (.aload_n 0, 1) := by decide +kernel
theorem dX10_image_23 : decode cX10_image 23 = .ok (.getfield 317, 3) := by decide +kernel
theorem dX10_image_26 : decode cX10_image 26 = .ok (.putfield 406, 3) := by decide +kernel
theorem dX10_image_29 : decode cX10_image 29 = .ok (.aload_n 0, 1) := by decide +kernel
theorem dX10_image_30 : decode cX10_image 30 = .ok (.aload_n 0, 1) := by decide +kernel
theorem dX10_image_31 : decode cX10_image 31 = .ok (.getfield 117, 3) := by decide +kernel
theorem dX10_image_34 : decode cX10_image 34 = .ok (.putfield 409, 3) := by decide +kernel
theorem dX10_image_37 : decode cX10_image 37 = .ok (.aload_n 0, 1) := by decide +kernel
theorem dX10_image_38 : decode cX10_image 38 = .ok (.aload_n 0, 1) := by decide +kernel
theorem dX10_image_39 : decode cX10_image 39 = .ok (.getfield 131, 3) := by decide +kernel
theorem dX10_image_42 : decode cX10_image 42 = .ok (.putfield 412, 3) := by decide +kernel
theorem dX10_image_45 : decode cX10_image 45 = .ok (.iconst 0, 1) := by decide +kernel
theorem dX10_image_46 : decode cX10_image 46 = .ok (.istore_n 1, 1) := by decide +kernel
theorem dX10_image_47 : decode cX10_image 47 = .ok (.iload_n 1, 1) := by decide +kernel
theorem dX10_image_48 : decode cX10_image 48 = .ok (.aload_n 0, 1) := by decide +kernel
theorem dX10_image_49 : decode cX10_image 49 = .ok (.getfield 122, 3) := by decide +kernel
theorem dX10_image_52 : decode cX10_image 52 = .ok (.if_icmp .ge 33, 3) := by decide +kernel
theorem dX10_image_55 : decode cX10_image 55 = .ok (.aload_n 0, 1) := by decide +kernel
theorem dX10_image_56 : decode cX10_image 56 = .ok (.getfield 77, 3) := by decide +kernel
theorem dX10_image_59 : decode cX10_image 59 = .ok (.iload_n 1, 1) := by decide +kernel
theorem dX10_image_60 : decode cX10_image 60 = .ok (.aload_n 0, 1) := by decide +kernel
theorem dX10_image_61 : decode cX10_image 61 = .ok (.getfield 26, 3) := by decide +kernel
theorem dX10_image_64 : decode cX10_image 64 = .ok (.iload_n 1, 1) := by decide +kernel
theorem dX10_image_65 : decode cX10_image 65 = .ok (.iaload, 1) := by decide +kernel
theorem dX10_image_66 : decode cX10_image 66 = .ok (.iastore, 1) := by decide +kernel
theorem dX10_image_67 : decode cX10_image 67 = .ok (.aload_n 0, 1) := by decide +kernel
theorem dX10_image_68 : decode cX10_image 68 = .ok (.getfield 80, 3) := by decide +kernel
theorem dX10_image_71 : decode cX10_image 71 = .ok (.iload_n 1, 1) := by decide +kernel
theorem dX10_image_72 : decode cX10_image 72 = .ok (.aload_n 0, 1) := by decide +kernel
theorem dX10_image_73 : decode cX10_image 73 = .ok (.getfield 29, 3) := by decide +kernel
theorem dX10_image_76 : decode cX10_image 76 = .ok (.iload_n 1, 1) := by decide +kernel
theorem dX10_image_77 : decode cX10_image 77 = .ok (.iaload, 1) := by decide +kernel
theorem dX10_image_78 : decode cX10_image 78 = .ok (.iastore, 1) := by decide +kernel
theorem dX10_image_79 : decode cX10_image 79 = .ok (.iinc 1 1, 3) := by decide +kernel
theorem dX10_image_82 : decode cX10_image 82 = .ok (.goto (-35), 3) := by decide +kernel
theorem dX10_image_85 : decode cX10_image 85 = .ok (.iconst 0, 1) := by decide +kernel
theorem dX10_image_86 : decode cX10_image 86 = .ok (.istore_n 1, 1) := by decide +kernel
theorem dX10_image_87 : decode cX10_image 87 = .ok (.iload_n 1, 1) := by decide +kernel
theorem dX10_image_88 : decode cX10_image 88 = .ok (.iconst 4, 1) := by decide +kernel
theorem dX10_image_89 : decode cX10_image 89 = .ok (.if_icmp .ge 21, 3) := by decide +kernel
theorem dX10_image_92 : decode cX10_image 92 = .ok (.aload_n 0, 1) := by decide +kernel
theorem dX10_image_93 : decode cX10_image 93 = .ok (.getfield 83, 3) := by decide +kernel
theorem dX10_image_96 : decode cX10_image 96 = .ok (.iload_n 1, 1) := by decide +kernel
theorem dX10_image_97 : decode cX10_image 97 = .ok (.aload_n 0, 1) := by decide +kernel
theorem dX10_image_98 : decode cX10_image 98 = .ok (.getfield 53, 3) := by decide +kernel
theorem dX10_image_101 : decode cX10_image 101 = .ok (.iload_n 1, 1) := by decide +kernel
theorem dX10_image_102 : decode cX10_image 102 = .ok (.iaload, 1) := by decide +kernel
theorem dX10_image_103 : decode cX10_image 103 = .ok (.iastore, 1) := by decide +kernel
theorem dX10_image_104 : decode cX10_image 104 = .ok (.iinc 1 1, 3) := by decide +kernel
theorem dX10_image_107 : decode cX10_image 107 = .ok (.goto (-20), 3) := by decide +kernel
theorem dX10_image_110 : decode cX10_image 110 = .ok (.iconst 0, 1) := by decide +kernel
