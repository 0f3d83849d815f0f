theorem dX7_idle_40 : decode cX7_idle 40 = .ok (.invokevirtual 208, 3) := by decide +kernel
theorem dX7_idle_43 : decode cX7_idle 43 = .ok (.aload_n 0, 1) := by decide +kernel
theorem dX7_idle_44 : decode cX7_idle 44 = .ok (.getfield 38, 3) := by decide +kernel
theorem dX7_idle_47 : decode cX7_idle 47 = .ok (.aload_n 0, 1) := by decide +kernel
theorem dX7_idle_48 : decode cX7_idle 48 = .ok (.getfield 77, 3) := by decide +kernel
theorem dX7_idle_51 : decode cX7_idle 51 = .ok (.iload_n 2, 1) := by decide +kernel
theorem dX7_idle_52 : decode cX7_idle 52 = .ok (.iconst 0, 1) := by decide +kernel
theorem dX7_idle_53 : decode cX7_idle 53 = .ok (.invokestatic 81, 3) := by decide +kernel
theorem dX7_idle_56 : decode cX7_idle 56 = .ok (.aload_n 0, 1) := by decide +kernel
theorem dX7_idle_57 : decode cX7_idle 57 = .ok (.getfield 28, 3) := by decide +kernel
theorem dX7_idle_60 : decode cX7_idle 60 = .ok (.invokevirtual 212, 3) := by decide +kernel
theorem dX7_idle_63 : decode cX7_idle 63 = .ok (.aload_n 0, 1) := by decide +kernel
theorem dX7_idle_64 : decode cX7_idle 64 = .ok (.getfield 38, 3) := by decide +kernel
theorem dX7_idle_67 : decode cX7_idle 67 = .ok (.invokevirtual 205, 3) := by decide +kernel
theorem dX7_idle_70 : decode cX7_idle 70 = .ok (.iload_n 3, 1) := by decide +kernel
theorem dX7_idle_71 : decode cX7_idle 71 = .ok (.if_icmp .ne 7, 3) := by decide +kernel
theorem dX7_idle_74 : decode cX7_idle 74 = .ok (.iconst 1, 1) := by decide +kernel
theorem dX7_idle_75 : decode cX7_idle 75 = .ok (.goto 4, 3) := by decide +kernel
theorem dX7_idle_78 : decode cX7_idle 78 = .ok (.iconst 0, 1) := by decide +kernel
theorem dX7_idle_79 : decode cX7_idle 79 = .ok (.ireturn, 1) := by decide +kernel
theorem dX7_roll_0 : decode cX7_roll 0 = .ok (.iload_n 1, 1) := by decide +kernel
theorem dX7_roll_1 : decode cX7_roll 1 = .ok (.invokestatic 117, 3) := by decide +kernel
theorem dX7_roll_4 : decode cX7_roll 4 = .ok (.ifCond .eq 10, 3) := by decide +kernel
theorem dX7_roll_7 : decode cX7_roll 7 = .ok (.iload_n 2, 1) := by decide +kernel
theorem dX7_roll_8 : decode cX7_roll 8 = .ok (.invokestatic 144, 3) := by decide +kernel
theorem dX7_roll_11 : decode cX7_roll 11 = .ok (.ifCond .ne 6, 3) := by decide +kernel
theorem dX7_roll_14 : decode cX7_roll 14 = .ok (.bipush (-2), 2) := by decide +kernel
theorem dX7_roll_16 : decode cX7_roll 16 = .ok (.ireturn, 1) := by decide +kernel
theorem dX7_roll_17 : decode cX7_roll 17 = .ok (.aload_n 0, 1) := by decide +kernel
theorem dX7_roll_18 : decode cX7_roll 18 = .ok (.getfield 215, 3) := by decide +kernel
theorem dX7_roll_21 : decode cX7_roll 21 = .ok (.ifCond .lt 12, 3) := by decide +kernel
theorem dX7_roll_24 : decode cX7_roll 24 = .ok (.aload_n 0, 1) := by decide +kernel
theorem dX7_roll_25 : decode cX7_roll 25 = .ok (.getfield 215, 3) := by decide +kernel
theorem dX7_roll_28 : decode cX7_roll 28 = .ok (.bipush 20, 2) := by decide +kernel
theorem dX7_roll_30 : decode cX7_roll 30 = .ok (.if_icmp .lt 6, 3) := by decide +kernel
theorem dX7_roll_33 : decode cX7_roll 33 = .ok (.bipush (-4), 2) := by decide +kernel
theorem dX7_roll_35 : decode cX7_roll 35 = .ok (.ireturn, 1) := by decide +kernel
theorem dX7_roll_36 : decode cX7_roll 36 = .ok (.aload_n 0, 1) := by decide +kernel
theorem dX7_roll_37 : decode cX7_roll 37 = .ok (.getfield 42, 3) := by decide +kernel
theorem dX7_roll_40 : decode cX7_roll 40 = .ok (.aload_n 0, 1) := by decide +kernel
theorem dX7_roll_41 : decode cX7_roll 41 = .ok (.getfield 215, 3) := by decide +kernel
theorem dX7_roll_44 : decode cX7_roll 44 = .ok (.iload_n 1, 1) := by decide +kernel
theorem dX7_roll_45 : decode cX7_roll 45 = .ok (.iastore, 1) := by decide +kernel
theorem dX7_roll_46 : decode cX7_roll 46 = .ok (.aload_n 0, 1) := by decide +kernel
theorem dX7_roll_47 : decode cX7_roll 47 = .ok (.getfield 46, 3) := by decide +kernel
theorem dX7_roll_50 : decode cX7_roll 50 = .ok (.aload_n 0, 1) := by decide +kernel
theorem dX7_roll_51 : decode cX7_roll 51 = .ok (.getfield 215, 3) := by decide +kernel
theorem dX7_roll_54 : decode cX7_roll 54 = .ok (.iload_n 2, 1) := by decide +kernel
theorem dX7_roll_55 : decode cX7_roll 55 = .ok (.iastore, 1) := by decide +kernel
theorem dX7_roll_56 : decode cX7_roll 56 = .ok (.aload_n 0, 1) := by decide +kernel
theorem dX7_roll_57 : decode cX7_roll 57 = .ok (.dup, 1) := by decide +kernel
theorem dX7_roll_58 : decode cX7_roll 58 = .ok (.getfield 215, 3) := by decide +kernel
theorem dX7_roll_61 : decode cX7_roll 61 = .ok (.iconst 1, 1) := by decide +kernel
theorem dX7_roll_62 : decode cX7_roll 62 = .ok (.iadd, 1) := by decide +kernel
theorem dX7_roll_63 : decode cX7_roll 63 = .ok (.putfield 215, 3) := by decide +kernel
theorem dX7_roll_66 : decode cX7_roll 66 = .ok (.aload_n 0, 1) := by decide +kernel
theorem dX7_roll_67 : decode cX7_roll 67 = .ok (.getfield 215, 3) := by decide +kernel
theorem dX7_roll_70 : decode cX7_roll 70 = .ok (.ireturn, 1) := by decide +kernel
theorem dX7_unroll_0 : decode cX7_unroll 0 = .ok (.aload_n 0, 1) := by decide +kernel
theorem dX7_unroll_1 : decode cX7_unroll 1 = .ok (.getfield 215, 3) := by decide +kernel
theorem dX7_unroll_4 : decode cX7_unroll 4 = .ok (.istore_n 1, 1) := by decide +kernel
theorem dX7_unroll_5 : decode cX7_unroll 5 = .ok (.aload_n 0, 1) := by decide +kernel
theorem dX7_unroll_6 : decode cX7_unroll 6 = .ok (.iconst 0, 1) := by decide +kernel
theorem dX7_unroll_7 : decode cX7_unroll 7 = .ok (.putfield 215, 3) := by decide +kernel
theorem dX7_unroll_10 : decode cX7_unroll 10 = .ok (.iload_n 1, 1) := by decide +kernel
theorem dX7_unroll_11 : decode cX7_unroll 11 = .ok (.ireturn, 1) := by decide +kernel
theorem dX7_judge_0 : decode cX7_judge 0 = .ok (.aload_n 0, 1) := by decide +kernel
theorem dX7_judge_1 : decode cX7_judge 1 = .ok (.getfield 77, 3) := by decide +kernel
theorem dX7_judge_4 : decode cX7_judge 4 = .ok (.istore_n 2, 1) := by decide +kernel
theorem dX7_judge_5 : decode cX7_judge 5 = .ok (.iconst 0, 1) := by decide +kernel
theorem dX7_judge_6 : decode cX7_judge 6 = .ok (.istore_n 3, 1) := by decide +kernel
theorem dX7_judge_7 : decode cX7_judge 7 = .ok (.iload_n 3, 1) := by decide +kernel
theorem dX7_judge_8 : decode cX7_judge 8 = .ok (.aload_n 0, 1) := by decide +kernel
theorem dX7_judge_9 : decode cX7_judge 9 = .ok (.getfield 215, 3) := by decide +kernel
theorem dX7_judge_12 : decode cX7_judge 12 = .ok (.if_icmp .ge 82, 3) := by decide +kernel
theorem dX7_judge_15 : decode cX7_judge 15 = .ok (.iload_n 3, 1) := by decide +kernel
theorem dX7_judge_16 : decode cX7_judge 16 = .ok (.bipush 20, 2) := by decide +kernel
theorem dX7_judge_18 : decode cX7_judge 18 = .ok (.if_icmp .ge 76, 3) := by decide +kernel
theorem dX7_judge_21 : decode cX7_judge 21 = .ok (.aload_n 0, 1) := by decide +kernel
theorem dX7_judge_22 : decode cX7_judge 22 = .ok (.getfield 28, 3) := by decide +kernel
theorem dX7_judge_25 : decode cX7_judge 25 = .ok (.aload_n 0, 1) := by decide +kernel
theorem dX7_judge_26 : decode cX7_judge 26 = .ok (.getfield 42, 3) := by decide +kernel
theorem dX7_judge_29 : decode cX7_judge 29 = .ok (.iload_n 3, 1) := by decide +kernel
theorem dX7_judge_30 : decode cX7_judge 30 = .ok (.iaload, 1) := by decide +kernel
theorem dX7_judge_31 : decode cX7_judge 31 = .ok (.iconst 0, 1) := by decide +kernel
theorem dX7_judge_32 : decode cX7_judge 32 = .ok (.invokevirtual 208, 3) := by decide +kernel
theorem dX7_judge_35 : decode cX7_judge 35 = .ok (.aload_n 0, 1) := by decide +kernel
theorem dX7_judge_36 : decode cX7_judge 36 = .ok (.getfield 28, 3) := by decide +kernel
theorem dX7_judge_39 : decode cX7_judge 39 = .ok (.iload_n 2, 1) := by decide +kernel
theorem dX7_judge_40 : decode cX7_judge 40 = .ok (.invokevirtual 218, 3) := by decide +kernel
theorem dX7_judge_43 : decode cX7_judge 43 = .ok (.aload_n 0, 1) := by decide +kernel
theorem dX7_judge_44 : decode cX7_judge 44 = .ok (.getfield 28, 3) := by decide +kernel
theorem dX7_judge_47 : decode cX7_judge 47 = .ok (.aload_n 0, 1) := by decide +kernel
theorem dX7_judge_48 : decode cX7_judge 48 = .ok (.getfield 46, 3) := by decide +kernel
theorem dX7_judge_51 : decode cX7_judge 51 = .ok (.iload_n 3, 1) := by decide +kernel
theorem dX7_judge_52 : decode cX7_judge 52 = .ok (.iaload, 1) := by decide +kernel
theorem dX7_judge_53 : decode cX7_judge 53 = .ok (.invokevirtual 147, 3) := by decide +kernel
theorem dX7_judge_56 : decode cX7_judge 56 = .ok (.istore 4, 2) := by decide +kernel
theorem dX7_judge_58 : decode cX7_judge 58 = .ok (.iload 4, 2) := by decide +kernel
theorem dX7_judge_60 : decode cX7_judge 60 = .ok (.ifCond .eq 14, 3) := by decide +kernel
theorem dX7_judge_63 : decode cX7_judge 63 = .ok (.iload_n 1, 1) := by decide +kernel
theorem dX7_judge_64 : decode cX7_judge 64 = .ok (.ifCond .eq 8, 3) := by decide +kernel
theorem dX7_judge_67 : decode cX7_judge 67 = .ok (.iload 4, 2) := by decide +kernel
theorem dX7_judge_69 : decode cX7_judge 69 = .ok (.goto 4, 3) := by decide +kernel
theorem dX7_judge_72 : decode cX7_judge 72 = .ok (.iload_n 3, 1) := by decide +kernel
theorem dX7_judge_73 : decode cX7_judge 73 = .ok (.ireturn, 1) := by decide +kernel
theorem dX7_judge_74 : decode cX7_judge 74 = .ok (.aload_n 0, 1) := by decide +kernel
theorem dX7_judge_75 : decode cX7_judge 75 = .ok (.getfield 28, 3) := by decide +kernel
theorem dX7_judge_78 : decode cX7_judge 78 = .ok (.aload_n 0, 1) := by decide +kernel
theorem dX7_judge_79 : decode cX7_judge 79 = .ok (.getfield 46, 3) := by decide +kernel
theorem dX7_judge_82 : decode cX7_judge 82 = .ok (.iload_n 3, 1) := by decide +kernel
theorem dX7_judge_83 : decode cX7_judge 83 = .ok (.iaload, 1) := by decide +kernel
theorem dX7_judge_84 : decode cX7_judge 84 = .ok (.invokevirtual 150, 3) := by decide +kernel
theorem dX7_judge_87 : decode cX7_judge 87 = .ok (.istore_n 2, 1) := by decide +kernel
theorem dX7_judge_88 : decode cX7_judge 88 = .ok (.iinc 3 1, 3) := by decide +kernel
theorem dX7_judge_91 : decode cX7_judge 91 = .ok (.goto (-84), 3) := by decide +kernel
theorem dX7_judge_94 : decode cX7_judge 94 = .ok (.bipush (-9), 2) := by decide +kernel
theorem dX7_judge_96 : decode cX7_judge 96 = .ok (.ireturn, 1) := by decide +kernel
theorem dX7_keep_0 : decode cX7_keep 0 = .ok (.iload_n 1, 1) := by decide +kernel
theorem dX7_keep_1 : decode cX7_keep 1 = .ok (.ifCond .lt 8, 3) := by decide +kernel
theorem dX7_keep_4 : decode cX7_keep 4 = .ok (.iload_n 1, 1) := by decide +kernel
theorem dX7_keep_5 : decode cX7_keep 5 = .ok (.iconst 3, 1) := by decide +kernel
theorem dX7_keep_6 : decode cX7_keep 6 = .ok (.if_icmp .lt 5, 3) := by decide +kernel
theorem dX7_keep_9 : decode cX7_keep 9 = .ok (.iconst (-1), 1) := by decide +kernel
theorem dX7_keep_10 : decode cX7_keep 10 = .ok (.ireturn, 1) := by decide +kernel
theorem dX7_keep_11 : decode cX7_keep 11 = .ok (.aload_n 0, 1) := by decide +kernel
theorem dX7_keep_12 : decode cX7_keep 12 = .ok (.getfield 49, 3) := by decide +kernel
theorem dX7_keep_15 : decode cX7_keep 15 = .ok (.iload_n 1, 1) := by decide +kernel
theorem dX7_keep_16 : decode cX7_keep 16 = .ok (.iaload, 1) := by decide +kernel
theorem dX7_keep_17 : decode cX7_keep 17 = .ok (.bipush (-9), 2) := by decide +kernel
theorem dX7_keep_19 : decode cX7_keep 19 = .ok (.if_icmp .ne 7, 3) := by decide +kernel
theorem dX7_keep_22 : decode cX7_keep 22 = .ok (.iconst 1, 1) := by decide +kernel
theorem dX7_keep_23 : decode cX7_keep 23 = .ok (.goto 4, 3) := by decide +kernel
theorem dX7_keep_26 : decode cX7_keep 26 = .ok (.iconst 0, 1) := by decide +kernel
theorem dX7_keep_27 : decode cX7_keep 27 = .ok (.istore_n 2, 1) := by decide +kernel
theorem dX7_keep_28 : decode cX7_keep 28 = .ok (.aload_n 0, 1) := by decide +kernel
theorem dX7_keep_29 : decode cX7_keep 29 = .ok (.getfield 49, 3) := by decide +kernel
theorem dX7_keep_32 : decode cX7_keep 32 = .ok (.iload_n 1, 1) := by decide +kernel
theorem dX7_keep_33 : decode cX7_keep 33 = .ok (.aload_n 0, 1) := by decide +kernel
theorem dX7_keep_34 : decode cX7_keep 34 = .ok (.getfield 77, 3) := by decide +kernel
theorem dX7_keep_37 : decode cX7_keep 37 = .ok (.iastore, 1) := by decide +kernel
theorem dX7_keep_38 : decode cX7_keep 38 = .ok (.iload_n 2, 1) := by decide +kernel
theorem dX7_keep_39 : decode cX7_keep 39 = .ok (.ireturn, 1) := by decide +kernel
theorem dX7_again_0 : decode cX7_again 0 = .ok (.iload_n 1, 1) := by decide +kernel
theorem dX7_again_1 : decode cX7_again 1 = .ok (.ifCond .lt 8, 3) := by decide +kernel
theorem dX7_again_4 : decode cX7_again 4 = .ok (.iload_n 1, 1) := by decide +kernel
theorem dX7_again_5 : decode cX7_again 5 = .ok (.iconst 3, 1) := by decide +kernel
theorem dX7_again_6 : decode cX7_again 6 = .ok (.if_icmp .lt 5, 3) := by decide +kernel
theorem dX7_again_9 : decode cX7_again 9 = .ok (.iconst (-1), 1) := by decide +kernel
theorem dX7_again_10 : decode cX7_again 10 = .ok (.ireturn, 1) := by decide +kernel
theorem dX7_again_11 : decode cX7_again 11 = .ok (.aload_n 0, 1) := by decide +kernel
theorem dX7_again_12 : decode cX7_again 12 = .ok (.getfield 49, 3) := by decide +kernel
theorem dX7_again_15 : decode cX7_again 15 = .ok (.iload_n 1, 1) := by decide +kernel
theorem dX7_again_16 : decode cX7_again 16 = .ok (.iaload, 1) := by decide +kernel
theorem dX7_again_17 : decode cX7_again 17 = .ok (.bipush (-9), 2) := by decide +kernel
theorem dX7_again_19 : decode cX7_again 19 = .ok (.if_icmp .ne 6, 3) := by decide +kernel
theorem dX7_again_22 : decode cX7_again 22 = .ok (.bipush (-3), 2) := by decide +kernel
theorem dX7_again_24 : decode cX7_again 24 = .ok (.ireturn, 1) := by decide +kernel
theorem dX7_again_25 : decode cX7_again 25 = .ok (.aload_n 0, 1) := by decide +kernel
theorem dX7_again_26 : decode cX7_again 26 = .ok (.getfield 77, 3) := by decide +kernel
theorem dX7_again_29 : decode cX7_again 29 = .ok (.istore_n 2, 1) := by decide +kernel
theorem dX7_again_30 : decode cX7_again 30 = .ok (.aload_n 0, 1) := by decide +kernel
theorem dX7_again_31 : decode cX7_again 31 = .ok (.aload_n 0, 1) := by decide +kernel
theorem dX7_again_32 : decode cX7_again 32 = .ok (.getfield 19, 3) := by decide +kernel
theorem dX7_again_35 : decode cX7_again 35 = .ok (.aload_n 0, 1) := by decide +kernel
theorem dX7_again_36 : decode cX7_again 36 = .ok (.getfield 49, 3) := by decide +kernel
theorem dX7_again_39 : decode cX7_again 39 = .ok (.iload_n 1, 1) := by decide +kernel
theorem dX7_again_40 : decode cX7_again 40 = .ok (.iaload, 1) := by decide +kernel
theorem dX7_again_41 : decode cX7_again 41 = .ok (.invokevirtual 221, 3) := by decide +kernel
theorem dX7_again_44 : decode cX7_again 44 = .ok (.putfield 77, 3) := by decide +kernel
theorem dX7_again_47 : decode cX7_again 47 = .ok (.iload_n 2, 1) := by decide +kernel
theorem dX7_again_48 : decode cX7_again 48 = .ok (.aload_n 0, 1) := by decide +kernel
theorem dX7_again_49 : decode cX7_again 49 = .ok (.getfield 77, 3) := by decide +kernel
theorem dX7_again_52 : decode cX7_again 52 = .ok (.invokestatic 224, 3) := by decide +kernel
theorem dX7_again_55 : decode cX7_again 55 = .ok (.ireturn, 1) := by decide +kernel
theorem dX7_count_0 : decode cX7_count 0 = .ok (.iload_n 1, 1) := by decide +kernel
theorem dX7_count_1 : decode cX7_count 1 = .ok (.tableswitch 91 0 5 #[39, 47, 55, 63, 74, 79], 39) := by decide +kernel
theorem dX7_count_40 : decode cX7_count 40 = .ok (.aload_n 0, 1) := by decide +kernel
theorem dX7_count_41 : decode cX7_count 41 = .ok (.getfield 12, 3) := by decide +kernel
theorem dX7_count_44 : decode cX7_count 44 = .ok (.invokevirtual 227, 3) := by decide +kernel
theorem dX7_count_47 : decode cX7_count 47 = .ok (.ireturn, 1) := by decide +kernel
theorem dX7_count_48 : decode cX7_count 48 = .ok (.aload_n 0, 1) := by decide +kernel
theorem dX7_count_49 : decode cX7_count 49 = .ok (.getfield 19, 3) := by decide +kernel
theorem dX7_count_52 : decode cX7_count 52 = .ok (.invokevirtual 228, 3) := by decide +kernel
theorem dX7_count_55 : decode cX7_count 55 = .ok (.ireturn, 1) := by decide +kernel
theorem dX7_count_56 : decode cX7_count 56 = .ok (.aload_n 0, 1) := by decide +kernel
theorem dX7_count_57 : decode cX7_count 57 = .ok (.getfield 77, 3) := by decide +kernel
theorem dX7_count_60 : decode cX7_count 60 = .ok (.invokestatic 231, 3) := by decide +kernel
theorem dX7_count_63 : decode cX7_count 63 = .ok (.ireturn, 1) := by decide +kernel
theorem dX7_count_64 : decode cX7_count 64 = .ok (.aload_n 0, 1) := by decide +kernel
theorem dX7_count_65 : decode cX7_count 65 = .ok (.getfield 77, 3) := by decide +kernel
theorem dX7_count_68 : decode cX7_count 68 = .ok (.invokestatic 234, 3) := by decide +kernel
theorem dX7_count_71 : decode cX7_count 71 = .ok (.invokestatic 172, 3) := by decide +kernel
theorem dX7_count_74 : decode cX7_count 74 = .ok (.ireturn, 1) := by decide +kernel
theorem dX7_count_75 : decode cX7_count 75 = .ok (.aload_n 0, 1) := by decide +kernel
theorem dX7_count_76 : decode cX7_count 76 = .ok (.getfield 215, 3) := by decide +kernel
theorem dX7_count_79 : decode cX7_count 79 = .ok (.ireturn, 1) := by decide +kernel
theorem dX7_count_80 : decode cX7_count 80 = .ok (.aload_n 0, 1) := by decide +kernel
theorem dX7_count_81 : decode cX7_count 81 = .ok (.getfield 19, 3) := by decide +kernel
theorem dX7_count_84 : decode cX7_count 84 = .ok (.aload_n 0, 1) := by decide +kernel
theorem dX7_count_85 : decode cX7_count 85 = .ok (.getfield 77, 3) := by decide +kernel
theorem dX7_count_88 : decode cX7_count 88 = .ok (.invokevirtual 237, 3) := by decide +kernel
theorem dX7_count_91 : decode cX7_count 91 = .ok (.ireturn, 1) := by decide +kernel
theorem dX7_count_92 : decode cX7_count 92 = .ok (.bipush (-2), 2) := by decide +kernel
theorem dX7_count_94 : decode cX7_count 94 = .ok (.ireturn, 1) := by decide +kernel
theorem dX7_isClause_0 : decode cX7_isClause 0 = .ok (.iload_n 0, 1) := by decide +kernel
theorem dX7_isClause_1 : decode cX7_isClause 1 = .ok (.ifCond .lt 12, 3) := by decide +kernel
theorem dX7_isClause_4 : decode cX7_isClause 4 = .ok (.iload_n 0, 1) := by decide +kernel
theorem dX7_isClause_5 : decode cX7_isClause 5 = .ok (.iconst 5, 1) := by decide +kernel
theorem dX7_isClause_6 : decode cX7_isClause 6 = .ok (.if_icmp .ge 7, 3) := by decide +kernel
theorem dX7_isClause_9 : decode cX7_isClause 9 = .ok (.iconst 1, 1) := by decide +kernel
theorem dX7_isClause_10 : decode cX7_isClause 10 = .ok (.goto 4, 3) := by decide +kernel
theorem dX7_isClause_13 : decode cX7_isClause 13 = .ok (.iconst 0, 1) := by decide +kernel
theorem dX7_isClause_14 : decode cX7_isClause 14 = .ok (.ireturn, 1) := by decide +kernel
theorem dX7_isSet_0 : decode cX7_isSet 0 = .ok (.iload_n 0, 1) := by decide +kernel
theorem dX7_isSet_1 : decode cX7_isSet 1 = .ok (.ifCond .lt 13, 3) := by decide +kernel
theorem dX7_isSet_4 : decode cX7_isSet 4 = .ok (.iload_n 0, 1) := by decide +kernel
theorem dX7_isSet_5 : decode cX7_isSet 5 = .ok (.bipush 16, 2) := by decide +kernel
theorem dX7_isSet_7 : decode cX7_isSet 7 = .ok (.if_icmp .ge 7, 3) := by decide +kernel
theorem dX7_isSet_10 : decode cX7_isSet 10 = .ok (.iconst 1, 1) := by decide +kernel
theorem dX7_isSet_11 : decode cX7_isSet 11 = .ok (.goto 4, 3) := by decide +kernel
theorem dX7_isSet_14 : decode cX7_isSet 14 = .ok (.iconst 0, 1) := by decide +kernel
theorem dX7_isSet_15 : decode cX7_isSet 15 = .ok (.ireturn, 1) := by decide +kernel
theorem dX7_isGame_0 : decode cX7_isGame 0 = .ok (.iload_n 0, 1) := by decide +kernel
theorem dX7_isGame_1 : decode cX7_isGame 1 = .ok (.invokestatic 117, 3) := by decide +kernel
theorem dX7_isGame_4 : decode cX7_isGame 4 = .ok (.ifCond .eq 32, 3) := by decide +kernel
theorem dX7_isGame_7 : decode cX7_isGame 7 = .ok (.iload_n 1, 1) := by decide +kernel
theorem dX7_isGame_8 : decode cX7_isGame 8 = .ok (.invokestatic 117, 3) := by decide +kernel
theorem dX7_isGame_11 : decode cX7_isGame 11 = .ok (.ifCond .eq 25, 3) := by decide +kernel
theorem dX7_isGame_14 : decode cX7_isGame 14 = .ok (.iload_n 2, 1) := by decide +kernel
theorem dX7_isGame_15 : decode cX7_isGame 15 = .ok (.invokestatic 127, 3) := by decide +kernel
theorem dX7_isGame_18 : decode cX7_isGame 18 = .ok (.ifCond .eq 18, 3) := by decide +kernel
theorem dX7_isGame_21 : decode cX7_isGame 21 = .ok (.iload_n 3, 1) := by decide +kernel
theorem dX7_isGame_22 : decode cX7_isGame 22 = .ok (.iconst 1, 1) := by decide +kernel
theorem dX7_isGame_23 : decode cX7_isGame 23 = .ok (.if_icmp .lt 13, 3) := by decide +kernel
theorem dX7_isGame_26 : decode cX7_isGame 26 = .ok (.iload_n 3, 1) := by decide +kernel
theorem dX7_isGame_27 : decode cX7_isGame 27 = .ok (.bipush 8, 2) := by decide +kernel
theorem dX7_isGame_29 : decode cX7_isGame 29 = .ok (.if_icmp .gt 7, 3) := by decide +kernel
theorem dX7_isGame_32 : decode cX7_isGame 32 = .ok (.iconst 1, 1) := by decide +kernel
theorem dX7_isGame_33 : decode cX7_isGame 33 = .ok (.goto 4, 3) := by decide +kernel
theorem dX7_isGame_36 : decode cX7_isGame 36 = .ok (.iconst 0, 1) := by decide +kernel
theorem dX7_isGame_37 : decode cX7_isGame 37 = .ok (.ireturn, 1) := by decide +kernel
theorem dX7_lookAs_0 : decode cX7_lookAs 0 = .ok (.aload_n 0, 1) := by decide +kernel
theorem dX7_lookAs_1 : decode cX7_lookAs 1 = .ok (.getfield 28, 3) := by decide +kernel
theorem dX7_lookAs_4 : decode cX7_lookAs 4 = .ok (.iload_n 1, 1) := by decide +kernel
theorem dX7_lookAs_5 : decode cX7_lookAs 5 = .ok (.iconst 0, 1) := by decide +kernel
theorem dX7_lookAs_6 : decode cX7_lookAs 6 = .ok (.invokevirtual 208, 3) := by decide +kernel
theorem dX7_lookAs_9 : decode cX7_lookAs 9 = .ok (.aload_n 0, 1) := by decide +kernel
theorem dX7_lookAs_10 : decode cX7_lookAs 10 = .ok (.getfield 28, 3) := by decide +kernel
theorem dX7_lookAs_13 : decode cX7_lookAs 13 = .ok (.aload_n 0, 1) := by decide +kernel
theorem dX7_lookAs_14 : decode cX7_lookAs 14 = .ok (.getfield 77, 3) := by decide +kernel
theorem dX7_lookAs_17 : decode cX7_lookAs 17 = .ok (.invokevirtual 218, 3) := by decide +kernel
theorem dX7_lookAs_20 : decode cX7_lookAs 20 = .ok (.aload_n 0, 1) := by decide +kernel
theorem dX7_lookAs_21 : decode cX7_lookAs 21 = .ok (.getfield 28, 3) := by decide +kernel
theorem dX7_lookAs_24 : decode cX7_lookAs 24 = .ok (.areturn, 1) := by decide +kernel
theorem dX7_listAs_0 : decode cX7_listAs 0 = .ok (.aload_n 0, 1) := by decide +kernel
theorem dX7_listAs_1 : decode cX7_listAs 1 = .ok (.getfield 28, 3) := by decide +kernel
theorem dX7_listAs_4 : decode cX7_listAs 4 = .ok (.iload_n 1, 1) := by decide +kernel
theorem dX7_listAs_5 : decode cX7_listAs 5 = .ok (.iconst 0, 1) := by decide +kernel
theorem dX7_listAs_6 : decode cX7_listAs 6 = .ok (.invokevirtual 208, 3) := by decide +kernel
theorem dX7_listAs_9 : decode cX7_listAs 9 = .ok (.aload_n 0, 1) := by decide +kernel
theorem dX7_listAs_10 : decode cX7_listAs 10 = .ok (.getfield 28, 3) := by decide +kernel
theorem dX7_listAs_13 : decode cX7_listAs 13 = .ok (.aload_n 0, 1) := by decide +kernel
theorem dX7_listAs_14 : decode cX7_listAs 14 = .ok (.getfield 77, 3) := by decide +kernel
theorem dX7_listAs_17 : decode cX7_listAs 17 = .ok (.invokevirtual 198, 3) := by decide +kernel
theorem dX7_listAs_20 : decode cX7_listAs 20 = .ok (.aload_n 0, 1) := by decide +kernel
theorem dX7_listAs_21 : decode cX7_listAs 21 = .ok (.getfield 28, 3) := by decide +kernel
theorem dX7_listAs_24 : decode cX7_listAs 24 = .ok (.areturn, 1) := by decide +kernel
theorem dX7_searchAs_0 : decode cX7_searchAs 0 = .ok (.aload_n 0, 1) := by decide +kernel
theorem dX7_searchAs_1 : decode cX7_searchAs 1 = .ok (.getfield 28, 3) := by decide +kernel
theorem dX7_searchAs_4 : decode cX7_searchAs 4 = .ok (.iload_n 1, 1) := by decide +kernel
theorem dX7_searchAs_5 : decode cX7_searchAs 5 = .ok (.iconst 0, 1) := by decide +kernel
theorem dX7_searchAs_6 : decode cX7_searchAs 6 = .ok (.invokevirtual 208, 3) := by decide +kernel
theorem dX7_searchAs_9 : decode cX7_searchAs 9 = .ok (.aload_n 0, 1) := by decide +kernel
theorem dX7_searchAs_10 : decode cX7_searchAs 10 = .ok (.getfield 38, 3) := by decide +kernel
theorem dX7_searchAs_13 : decode cX7_searchAs 13 = .ok (.aload_n 0, 1) := by decide +kernel
theorem dX7_searchAs_14 : decode cX7_searchAs 14 = .ok (.getfield 77, 3) := by decide +kernel
theorem dX7_searchAs_17 : decode cX7_searchAs 17 = .ok (.aload_n 0, 1) := by decide +kernel
theorem dX7_searchAs_18 : decode cX7_searchAs 18 = .ok (.getfield 28, 3) := by decide +kernel
theorem dX7_searchAs_21 : decode cX7_searchAs 21 = .ok (.invokevirtual 212, 3) := by decide +kernel
theorem dX7_searchAs_24 : decode cX7_searchAs 24 = .ok (.return_, 1) := by decide +kernel
theorem dX7_findAs_0 : decode cX7_findAs 0 = .ok (.aload_n 0, 1) := by decide +kernel
theorem dX7_findAs_1 : decode cX7_findAs 1 = .ok (.getfield 28, 3) := by decide +kernel
theorem dX7_findAs_4 : decode cX7_findAs 4 = .ok (.iload_n 1, 1) := by decide +kernel
theorem dX7_findAs_5 : decode cX7_findAs 5 = .ok (.iconst 0, 1) := by decide +kernel
theorem dX7_findAs_6 : decode cX7_findAs 6 = .ok (.invokevirtual 208, 3) := by decide +kernel
theorem dX7_findAs_9 : decode cX7_findAs 9 = .ok (.aload_n 0, 1) := by decide +kernel
theorem dX7_findAs_10 : decode cX7_findAs 10 = .ok (.getfield 38, 3) := by decide +kernel
theorem dX7_findAs_13 : decode cX7_findAs 13 = .ok (.aload_n 0, 1) := by decide +kernel
theorem dX7_findAs_14 : decode cX7_findAs 14 = .ok (.getfield 77, 3) := by decide +kernel
theorem dX7_findAs_17 : decode cX7_findAs 17 = .ok (.aload_n 0, 1) := by decide +kernel
theorem dX7_findAs_18 : decode cX7_findAs 18 = .ok (.getfield 28, 3) := by decide +kernel
theorem dX7_findAs_21 : decode cX7_findAs 21 = .ok (.iload_n 2, 1) := by decide +kernel
theorem dX7_findAs_22 : decode cX7_findAs 22 = .ok (.iconst 1, 1) := by decide +kernel
theorem dX7_findAs_23 : decode cX7_findAs 23 = .ok (.invokevirtual 240, 3) := by decide +kernel
theorem dX7_findAs_26 : decode cX7_findAs 26 = .ok (.ireturn, 1) := by decide +kernel
theorem dX7_holdsFrom_0 : decode cX7_holdsFrom 0 = .ok (.aload_n 0, 1) := by decide +kernel
theorem dX7_holdsFrom_1 : decode cX7_holdsFrom 1 = .ok (.getfield 28, 3) := by decide +kernel
theorem dX7_holdsFrom_4 : decode cX7_holdsFrom 4 = .ok (.iload_n 2, 1) := by decide +kernel
theorem dX7_holdsFrom_5 : decode cX7_holdsFrom 5 = .ok (.iload 4, 2) := by decide +kernel
theorem dX7_holdsFrom_7 : decode cX7_holdsFrom 7 = .ok (.invokevirtual 208, 3) := by decide +kernel
theorem dX7_holdsFrom_10 : decode cX7_holdsFrom 10 = .ok (.aload_n 0, 1) := by decide +kernel
theorem dX7_holdsFrom_11 : decode cX7_holdsFrom 11 = .ok (.getfield 38, 3) := by decide +kernel
theorem dX7_holdsFrom_14 : decode cX7_holdsFrom 14 = .ok (.iload_n 1, 1) := by decide +kernel
theorem dX7_holdsFrom_15 : decode cX7_holdsFrom 15 = .ok (.aload_n 0, 1) := by decide +kernel
theorem dX7_holdsFrom_16 : decode cX7_holdsFrom 16 = .ok (.getfield 28, 3) := by decide +kernel
theorem dX7_holdsFrom_19 : decode cX7_holdsFrom 19 = .ok (.iload_n 3, 1) := by decide +kernel
theorem dX7_holdsFrom_20 : decode cX7_holdsFrom 20 = .ok (.iconst 0, 1) := by decide +kernel
theorem dX7_holdsFrom_21 : decode cX7_holdsFrom 21 = .ok (.invokevirtual 240, 3) := by decide +kernel
theorem dX7_holdsFrom_24 : decode cX7_holdsFrom 24 = .ok (.bipush (-9), 2) := by decide +kernel
theorem dX7_holdsFrom_26 : decode cX7_holdsFrom 26 = .ok (.if_icmp .ne 7, 3) := by decide +kernel
theorem dX7_holdsFrom_29 : decode cX7_holdsFrom 29 = .ok (.iconst 1, 1) := by decide +kernel
theorem dX7_holdsFrom_30 : decode cX7_holdsFrom 30 = .ok (.goto 4, 3) := by decide +kernel
theorem dX7_holdsFrom_33 : decode cX7_holdsFrom 33 = .ok (.iconst 0, 1) := by decide +kernel
theorem dX7_holdsFrom_34 : decode cX7_holdsFrom 34 = .ok (.ireturn, 1) := by decide +kernel
theorem dX7_play_0 : decode cX7_play 0 = .ok (.aload_n 0, 1) := by decide +kernel
theorem dX7_play_1 : decode cX7_play 1 = .ok (.getfield 28, 3) := by decide +kernel
theorem dX7_play_4 : decode cX7_play 4 = .ok (.iload_n 1, 1) := by decide +kernel
theorem dX7_play_5 : decode cX7_play 5 = .ok (.iconst 0, 1) := by decide +kernel
theorem dX7_play_6 : decode cX7_play 6 = .ok (.invokevirtual 208, 3) := by decide +kernel
theorem dX7_play_9 : decode cX7_play 9 = .ok (.aload_n 0, 1) := by decide +kernel
theorem dX7_play_10 : decode cX7_play 10 = .ok (.getfield 32, 3) := by decide +kernel
theorem dX7_play_13 : decode cX7_play 13 = .ok (.iload_n 2, 1) := by decide +kernel
theorem dX7_play_14 : decode cX7_play 14 = .ok (.iconst 0, 1) := by decide +kernel
theorem dX7_play_15 : decode cX7_play 15 = .ok (.invokevirtual 208, 3) := by decide +kernel
theorem dX7_play_18 : decode cX7_play 18 = .ok (.aload_n 0, 1) := by decide +kernel
theorem dX7_play_19 : decode cX7_play 19 = .ok (.getfield 38, 3) := by decide +kernel
theorem dX7_play_22 : decode cX7_play 22 = .ok (.aload_n 0, 1) := by decide +kernel
theorem dX7_play_23 : decode cX7_play 23 = .ok (.getfield 77, 3) := by decide +kernel
theorem dX7_play_26 : decode cX7_play 26 = .ok (.aload_n 0, 1) := by decide +kernel
theorem dX7_play_27 : decode cX7_play 27 = .ok (.getfield 28, 3) := by decide +kernel
theorem dX7_play_30 : decode cX7_play 30 = .ok (.aload_n 0, 1) := by decide +kernel
theorem dX7_play_31 : decode cX7_play 31 = .ok (.getfield 32, 3) := by decide +kernel
theorem dX7_play_34 : decode cX7_play 34 = .ok (.iconst 2, 1) := by decide +kernel
theorem dX7_play_35 : decode cX7_play 35 = .ok (.iload 4, 2) := by decide +kernel
theorem dX7_play_37 : decode cX7_play 37 = .ok (.imul, 1) := by decide +kernel
theorem dX7_play_38 : decode cX7_play 38 = .ok (.invokevirtual 244, 3) := by decide +kernel
theorem dX7_play_41 : decode cX7_play 41 = .ok (.aload_n 0, 1) := by decide +kernel
theorem dX7_play_42 : decode cX7_play 42 = .ok (.getfield 38, 3) := by decide +kernel
theorem dX7_play_45 : decode cX7_play 45 = .ok (.iload_n 3, 1) := by decide +kernel
theorem dX7_play_46 : decode cX7_play 46 = .ok (.iload 4, 2) := by decide +kernel
theorem dX7_play_48 : decode cX7_play 48 = .ok (.aload_n 0, 1) := by decide +kernel
theorem dX7_play_49 : decode cX7_play 49 = .ok (.getfield 28, 3) := by decide +kernel
theorem dX7_play_52 : decode cX7_play 52 = .ok (.aload_n 0, 1) := by decide +kernel
theorem dX7_play_53 : decode cX7_play 53 = .ok (.getfield 32, 3) := by decide +kernel
theorem dX7_play_56 : decode cX7_play 56 = .ok (.invokevirtual 248, 3) := by decide +kernel
theorem dX7_play_59 : decode cX7_play 59 = .ok (.return_, 1) := by decide +kernel
theorem dX8_init_0 : decode cX8_init 0 = .ok (.aload_n 0, 1) := by decide +kernel
theorem dX8_init_1 : decode cX8_init 1 = .ok (.invokespecial 1, 3) := by decide +kernel
theorem dX8_init_4 : decode cX8_init 4 = .ok (.aload_n 0, 1) := by decide +kernel
theorem dX8_init_5 : decode cX8_init 5 = .ok (.bipush 20, 2) := by decide +kernel
theorem dX8_init_7 : decode cX8_init 7 = .ok (.newarray .int, 2) := by decide +kernel
theorem dX8_init_9 : decode cX8_init 9 = .ok (.putfield 7, 3) := by decide +kernel
theorem dX8_init_12 : decode cX8_init 12 = .ok (.aload_n 0, 1) := by decide +kernel
theorem dX8_init_13 : decode cX8_init 13 = .ok (.bipush 90, 2) := by decide +kernel
theorem dX8_init_15 : decode cX8_init 15 = .ok (.newarray .int, 2) := by decide +kernel
theorem dX8_init_17 : decode cX8_init 17 = .ok (.putfield 13, 3) := by decide +kernel
theorem dX8_init_20 : decode cX8_init 20 = .ok (.aload_n 0, 1) := by decide +kernel
theorem dX8_init_21 : decode cX8_init 21 = .ok (.iconst 5, 1) := by decide +kernel
theorem dX8_init_22 : decode cX8_init 22 = .ok (.newarray .int, 2) := by decide +kernel
theorem dX8_init_24 : decode cX8_init 24 = .ok (.putfield 16, 3) := by decide +kernel
theorem dX8_init_27 : decode cX8_init 27 = .ok (.aload_n 0, 1) := by decide +kernel
theorem dX8_init_28 : decode cX8_init 28 = .ok (.bipush 12, 2) := by decide +kernel
theorem dX8_init_30 : decode cX8_init 30 = .ok (.newarray .int, 2) := by decide +kernel
theorem dX8_init_32 : decode cX8_init 32 = .ok (.putfield 19, 3) := by decide +kernel
theorem dX8_init_35 : decode cX8_init 35 = .ok (.aload_n 0, 1) := by decide +kernel
theorem dX8_init_36 : decode cX8_init 36 = .ok (.bipush (-9), 2) := by decide +kernel
theorem dX8_init_38 : decode cX8_init 38 = .ok (.putfield 22, 3) := by decide +kernel
theorem dX8_init_41 : decode cX8_init 41 = .ok (.aload_n 0, 1) := by decide +kernel
theorem dX8_init_42 : decode cX8_init 42 = .ok (.bipush (-9), 2) := by decide +kernel
theorem dX8_init_44 : decode cX8_init 44 = .ok (.putfield 26, 3) := by decide +kernel
theorem dX8_init_47 : decode cX8_init 47 = .ok (.aload_n 0, 1) := by decide +kernel
theorem dX8_init_48 : decode cX8_init 48 = .ok (.sipush 16384, 3) := by decide +kernel
theorem dX8_init_51 : decode cX8_init 51 = .ok (.newarray .int, 2) := by decide +kernel
theorem dX8_init_53 : decode cX8_init 53 = .ok (.putfield 29, 3) := by decide +kernel
theorem dX8_init_56 : decode cX8_init 56 = .ok (.aload_n 0, 1) := by decide +kernel
theorem dX8_init_57 : decode cX8_init 57 = .ok (.sipush 16384, 3) := by decide +kernel
theorem dX8_init_60 : decode cX8_init 60 = .ok (.newarray .int, 2) := by decide +kernel
theorem dX8_init_62 : decode cX8_init 62 = .ok (.putfield 32, 3) := by decide +kernel
theorem dX8_init_65 : decode cX8_init 65 = .ok (.aload_n 0, 1) := by decide +kernel
theorem dX8_init_66 : decode cX8_init 66 = .ok (.sipush 16384, 3) := by decide +kernel
theorem dX8_init_69 : decode cX8_init 69 = .ok (.newarray .int, 2) := by decide +kernel
theorem dX8_init_71 : decode cX8_init 71 = .ok (.putfield 35, 3) := by decide +kernel
theorem dX8_init_74 : decode cX8_init 74 = .ok (.aload_n 0, 1) := by decide +kernel
theorem dX8_init_75 : decode cX8_init 75 = .ok (.sipush 16384, 3) := by decide +kernel
theorem dX8_init_78 : decode cX8_init 78 = .ok (.newarray .int, 2) := by decide +kernel
theorem dX8_init_80 : decode cX8_init 80 = .ok (.putfield 38, 3) := by decide +kernel
theorem dX8_init_83 : decode cX8_init 83 = .ok (.aload_n 0, 1) := by decide +kernel
theorem dX8_init_84 : decode cX8_init 84 = .ok (.sipush 16384, 3) := by decide +kernel
theorem dX8_init_87 : decode cX8_init 87 = .ok (.newarray .boolean, 2) := by decide +kernel
theorem dX8_init_89 : decode cX8_init 89 = .ok (.putfield 41, 3) := by decide +kernel
theorem dX8_init_92 : decode cX8_init 92 = .ok (.aload_n 0, 1) := by decide +kernel
theorem dX8_init_93 : decode cX8_init 93 = .ok (.sipush 16384, 3) := by decide +kernel
theorem dX8_init_96 : decode cX8_init 96 = .ok (.newarray .boolean, 2) := by decide +kernel
theorem dX8_init_98 : decode cX8_init 98 = .ok (.putfield 45, 3) := by decide +kernel
theorem dX8_init_101 : decode cX8_init 101 = .ok (.aload_n 0, 1) := by decide +kernel
theorem dX8_init_102 : decode cX8_init 102 = .ok (.bipush 20, 2) := by decide +kernel
theorem dX8_init_104 : decode cX8_init 104 = .ok (.newarray .int, 2) := by decide +kernel
theorem dX8_init_106 : decode cX8_init 106 = .ok (.putfield 48, 3) := by decide +kernel
theorem dX8_init_109 : decode cX8_init 109 = .ok (.aload_n 0, 1) := by decide +kernel
theorem dX8_init_110 : decode cX8_init 110 = .ok (.bipush 20, 2) := by decide +kernel
theorem dX8_init_112 : decode cX8_init 112 = .ok (.newarray .int, 2) := by decide +kernel
theorem dX8_init_114 : decode cX8_init 114 = .ok (.putfield 51, 3) := by decide +kernel
theorem dX8_init_117 : decode cX8_init 117 = .ok (.aload_n 0, 1) := by decide +kernel
theorem dX8_init_118 : decode cX8_init 118 = .ok (.iconst 3, 1) := by decide +kernel
theorem dX8_init_119 : decode cX8_init 119 = .ok (.newarray .int, 2) := by decide +kernel
theorem dX8_init_121 : decode cX8_init 121 = .ok (.putfield 54, 3) := by decide +kernel
theorem dX8_init_124 : decode cX8_init 124 = .ok (.aload_n 0, 1) := by decide +kernel
theorem dX8_init_125 : decode cX8_init 125 = .ok (.iconst 3, 1) := by decide +kernel
theorem dX8_init_126 : decode cX8_init 126 = .ok (.newarray .boolean, 2) := by decide +kernel
theorem dX8_init_128 : decode cX8_init 128 = .ok (.putfield 57, 3) := by decide +kernel
theorem dX8_init_131 : decode cX8_init 131 = .ok (.return_, 1) := by decide +kernel
theorem dX8_in_0 : decode cX8_in 0 = .ok (.lload_n 0, 1) := by decide +kernel
theorem dX8_in_1 : decode cX8_in 1 = .ok (.lload_n 2, 1) := by decide +kernel
theorem dX8_in_2 : decode cX8_in 2 = .ok (.lcmp, 1) := by decide +kernel
theorem dX8_in_3 : decode cX8_in 3 = .ok (.ifCond .lt 14, 3) := by decide +kernel
theorem dX8_in_6 : decode cX8_in 6 = .ok (.lload_n 0, 1) := by decide +kernel
theorem dX8_in_7 : decode cX8_in 7 = .ok (.lload 4, 2) := by decide +kernel
theorem dX8_in_9 : decode cX8_in 9 = .ok (.lcmp, 1) := by decide +kernel
theorem dX8_in_10 : decode cX8_in 10 = .ok (.ifCond .gt 7, 3) := by decide +kernel
theorem dX8_in_13 : decode cX8_in 13 = .ok (.iconst 1, 1) := by decide +kernel
theorem dX8_in_14 : decode cX8_in 14 = .ok (.goto 4, 3) := by decide +kernel
theorem dX8_in_17 : decode cX8_in 17 = .ok (.iconst 0, 1) := by decide +kernel
theorem dX8_in_18 : decode cX8_in 18 = .ok (.ireturn, 1) := by decide +kernel
theorem dX8_noClause_0 : decode cX8_noClause 0 = .ok (.iload_n 0, 1) := by decide +kernel
theorem dX8_noClause_1 : decode cX8_noClause 1 = .ok (.i2l, 1) := by decide +kernel
theorem dX8_noClause_2 : decode cX8_noClause 2 = .ok (.lconst 0, 1) := by decide +kernel
theorem dX8_noClause_3 : decode cX8_noClause 3 = .ok (.ldc2_w 63, 3) := by decide +kernel
theorem dX8_noClause_6 : decode cX8_noClause 6 = .ok (.invokestatic 65, 3) := by decide +kernel
theorem dX8_noClause_9 : decode cX8_noClause 9 = .ok (.ifCond .ne 7, 3) := by decide +kernel
theorem dX8_noClause_12 : decode cX8_noClause 12 = .ok (.iconst 1, 1) := by decide +kernel
theorem dX8_noClause_13 : decode cX8_noClause 13 = .ok (.goto 4, 3) := by decide +kernel
theorem dX8_noClause_16 : decode cX8_noClause 16 = .ok (.iconst 0, 1) := by decide +kernel
theorem dX8_noClause_17 : decode cX8_noClause 17 = .ok (.ireturn, 1) := by decide +kernel
theorem dX8_noSet_0 : decode cX8_noSet 0 = .ok (.iload_n 0, 1) := by decide +kernel
theorem dX8_noSet_1 : decode cX8_noSet 1 = .ok (.i2l, 1) := by decide +kernel
theorem dX8_noSet_2 : decode cX8_noSet 2 = .ok (.lconst 0, 1) := by decide +kernel
theorem dX8_noSet_3 : decode cX8_noSet 3 = .ok (.ldc2_w 69, 3) := by decide +kernel
theorem dX8_noSet_6 : decode cX8_noSet 6 = .ok (.invokestatic 65, 3) := by decide +kernel
theorem dX8_noSet_9 : decode cX8_noSet 9 = .ok (.ifCond .ne 7, 3) := by decide +kernel
theorem dX8_noSet_12 : decode cX8_noSet 12 = .ok (.iconst 1, 1) := by decide +kernel
theorem dX8_noSet_13 : decode cX8_noSet 13 = .ok (.goto 4, 3) := by decide +kernel
theorem dX8_noSet_16 : decode cX8_noSet 16 = .ok (.iconst 0, 1) := by decide +kernel
theorem dX8_noSet_17 : decode cX8_noSet 17 = .ok (.ireturn, 1) := by decide +kernel
theorem dX8_noAct_0 : decode cX8_noAct 0 = .ok (.iload_n 0, 1) := by decide +kernel
theorem dX8_noAct_1 : decode cX8_noAct 1 = .ok (.i2l, 1) := by decide +kernel
theorem dX8_noAct_2 : decode cX8_noAct 2 = .ok (.lconst 0, 1) := by decide +kernel
theorem dX8_noAct_3 : decode cX8_noAct 3 = .ok (.ldc2_w 71, 3) := by decide +kernel
theorem dX8_noAct_6 : decode cX8_noAct 6 = .ok (.invokestatic 65, 3) := by decide +kernel
theorem dX8_noAct_9 : decode cX8_noAct 9 = .ok (.ifCond .eq 21, 3) := by decide +kernel
theorem dX8_noAct_12 : decode cX8_noAct 12 = .ok (.iload_n 0, 1) := by decide +kernel
theorem dX8_noAct_13 : decode cX8_noAct 13 = .ok (.bipush 10, 2) := by decide +kernel
theorem dX8_noAct_15 : decode cX8_noAct 15 = .ok (.irem, 1) := by decide +kernel
theorem dX8_noAct_16 : decode cX8_noAct 16 = .ok (.ifCond .ne 14, 3) := by decide +kernel
theorem dX8_noAct_19 : decode cX8_noAct 19 = .ok (.iload_n 0, 1) := by decide +kernel
theorem dX8_noAct_20 : decode cX8_noAct 20 = .ok (.bipush 10, 2) := by decide +kernel
theorem dX8_noAct_22 : decode cX8_noAct 22 = .ok (.idiv, 1) := by decide +kernel
theorem dX8_noAct_23 : decode cX8_noAct 23 = .ok (.bipush 10, 2) := by decide +kernel
theorem dX8_noAct_25 : decode cX8_noAct 25 = .ok (.irem, 1) := by decide +kernel
theorem dX8_noAct_26 : decode cX8_noAct 26 = .ok (.iconst 3, 1) := by decide +kernel
theorem dX8_noAct_27 : decode cX8_noAct 27 = .ok (.if_icmp .le 7, 3) := by decide +kernel
theorem dX8_noAct_30 : decode cX8_noAct 30 = .ok (.iconst 1, 1) := by decide +kernel
theorem dX8_noAct_31 : decode cX8_noAct 31 = .ok (.goto 4, 3) := by decide +kernel
theorem dX8_noAct_34 : decode cX8_noAct 34 = .ok (.iconst 0, 1) := by decide +kernel
theorem dX8_noAct_35 : decode cX8_noAct 35 = .ok (.ireturn, 1) := by decide +kernel
theorem dX8_noGoal_0 : decode cX8_noGoal 0 = .ok (.iload_n 0, 1) := by decide +kernel
theorem dX8_noGoal_1 : decode cX8_noGoal 1 = .ok (.i2l, 1) := by decide +kernel
theorem dX8_noGoal_2 : decode cX8_noGoal 2 = .ok (.lconst 0, 1) := by decide +kernel
theorem dX8_noGoal_3 : decode cX8_noGoal 3 = .ok (.ldc2_w 73, 3) := by decide +kernel
theorem dX8_noGoal_6 : decode cX8_noGoal 6 = .ok (.invokestatic 65, 3) := by decide +kernel
theorem dX8_noGoal_9 : decode cX8_noGoal 9 = .ok (.ifCond .eq 15, 3) := by decide +kernel
theorem dX8_noGoal_12 : decode cX8_noGoal 12 = .ok (.iload_n 0, 1) := by decide +kernel
theorem dX8_noGoal_13 : decode cX8_noGoal 13 = .ok (.bipush 10, 2) := by decide +kernel
theorem dX8_noGoal_15 : decode cX8_noGoal 15 = .ok (.irem, 1) := by decide +kernel
theorem dX8_noGoal_16 : decode cX8_noGoal 16 = .ok (.iconst 2, 1) := by decide +kernel
theorem dX8_noGoal_17 : decode cX8_noGoal 17 = .ok (.if_icmp .ge 7, 3) := by decide +kernel
theorem dX8_noGoal_20 : decode cX8_noGoal 20 = .ok (.iconst 1, 1) := by decide +kernel
theorem dX8_noGoal_21 : decode cX8_noGoal 21 = .ok (.goto 4, 3) := by decide +kernel
theorem dX8_noGoal_24 : decode cX8_noGoal 24 = .ok (.iconst 0, 1) := by decide +kernel
theorem dX8_noGoal_25 : decode cX8_noGoal 25 = .ok (.istore_n 1, 1) := by decide +kernel
theorem dX8_noGoal_26 : decode cX8_noGoal 26 = .ok (.iload_n 0, 1) := by decide +kernel
theorem dX8_noGoal_27 : decode cX8_noGoal 27 = .ok (.i2l, 1) := by decide +kernel
theorem dX8_noGoal_28 : decode cX8_noGoal 28 = .ok (.ldc2_w 75, 3) := by decide +kernel
theorem dX8_noGoal_31 : decode cX8_noGoal 31 = .ok (.ldc2_w 77, 3) := by decide +kernel
theorem dX8_noGoal_34 : decode cX8_noGoal 34 = .ok (.invokestatic 65, 3) := by decide +kernel
theorem dX8_noGoal_37 : decode cX8_noGoal 37 = .ok (.ifCond .eq 15, 3) := by decide +kernel
theorem dX8_noGoal_40 : decode cX8_noGoal 40 = .ok (.iload_n 0, 1) := by decide +kernel
theorem dX8_noGoal_41 : decode cX8_noGoal 41 = .ok (.bipush 10, 2) := by decide +kernel
theorem dX8_noGoal_43 : decode cX8_noGoal 43 = .ok (.irem, 1) := by decide +kernel
theorem dX8_noGoal_44 : decode cX8_noGoal 44 = .ok (.iconst 4, 1) := by decide +kernel
theorem dX8_noGoal_45 : decode cX8_noGoal 45 = .ok (.if_icmp .ge 7, 3) := by decide +kernel
theorem dX8_noGoal_48 : decode cX8_noGoal 48 = .ok (.iconst 1, 1) := by decide +kernel
theorem dX8_noGoal_49 : decode cX8_noGoal 49 = .ok (.goto 4, 3) := by decide +kernel
theorem dX8_noGoal_52 : decode cX8_noGoal 52 = .ok (.iconst 0, 1) := by decide +kernel
theorem dX8_noGoal_53 : decode cX8_noGoal 53 = .ok (.istore_n 2, 1) := by decide +kernel
theorem dX8_noGoal_54 : decode cX8_noGoal 54 = .ok (.iload_n 1, 1) := by decide +kernel
theorem dX8_noGoal_55 : decode cX8_noGoal 55 = .ok (.ifCond .ne 11, 3) := by decide +kernel
theorem dX8_noGoal_58 : decode cX8_noGoal 58 = .ok (.iload_n 2, 1) := by decide +kernel
theorem dX8_noGoal_59 : decode cX8_noGoal 59 = .ok (.ifCond .ne 7, 3) := by decide +kernel
theorem dX8_noGoal_62 : decode cX8_noGoal 62 = .ok (.iconst 1, 1) := by decide +kernel
theorem dX8_noGoal_63 : decode cX8_noGoal 63 = .ok (.goto 4, 3) := by decide +kernel
theorem dX8_noGoal_66 : decode cX8_noGoal 66 = .ok (.iconst 0, 1) := by decide +kernel
theorem dX8_noGoal_67 : decode cX8_noGoal 67 = .ok (.ireturn, 1) := by decide +kernel
theorem dX8_write_0 : decode cX8_write 0 = .ok (.aload_n 0, 1) := by decide +kernel
theorem dX8_write_1 : decode cX8_write 1 = .ok (.iconst 0, 1) := by decide +kernel
theorem dX8_write_2 : decode cX8_write 2 = .ok (.putfield 60, 3) := by decide +kernel
theorem dX8_write_5 : decode cX8_write 5 = .ok (.iload_n 1, 1) := by decide +kernel
theorem dX8_write_6 : decode cX8_write 6 = .ok (.i2l, 1) := by decide +kernel
theorem dX8_write_7 : decode cX8_write 7 = .ok (.lconst 1, 1) := by decide +kernel
theorem dX8_write_8 : decode cX8_write 8 = .ok (.ldc2_w 79, 3) := by decide +kernel
theorem dX8_write_11 : decode cX8_write 11 = .ok (.invokestatic 65, 3) := by decide +kernel
theorem dX8_write_14 : decode cX8_write 14 = .ok (.ifCond .ne 6, 3) := by decide +kernel
theorem dX8_write_17 : decode cX8_write 17 = .ok (.bipush (-2), 2) := by decide +kernel
theorem dX8_write_19 : decode cX8_write 19 = .ok (.ireturn, 1) := by decide +kernel
theorem dX8_write_20 : decode cX8_write 20 = .ok (.aload_n 0, 1) := by decide +kernel
theorem dX8_write_21 : decode cX8_write 21 = .ok (.getfield 81, 3) := by decide +kernel
theorem dX8_write_24 : decode cX8_write 24 = .ok (.iload_n 1, 1) := by decide +kernel
theorem dX8_write_25 : decode cX8_write 25 = .ok (.iadd, 1) := by decide +kernel
theorem dX8_write_26 : decode cX8_write 26 = .ok (.bipush 20, 2) := by decide +kernel
theorem dX8_write_28 : decode cX8_write 28 = .ok (.if_icmp .le 6, 3) := by decide +kernel
theorem dX8_write_31 : decode cX8_write 31 = .ok (.bipush (-4), 2) := by decide +kernel
theorem dX8_write_33 : decode cX8_write 33 = .ok (.ireturn, 1) := by decide +kernel
theorem dX8_write_34 : decode cX8_write 34 = .ok (.iload_n 1, 1) := by decide +kernel
theorem dX8_write_35 : decode cX8_write 35 = .ok (.iconst 1, 1) := by decide +kernel
theorem dX8_write_36 : decode cX8_write 36 = .ok (.isub, 1) := by decide +kernel
theorem dX8_write_37 : decode cX8_write 37 = .ok (.istore 4, 2) := by decide +kernel
theorem dX8_write_39 : decode cX8_write 39 = .ok (.iload 4, 2) := by decide +kernel
theorem dX8_write_41 : decode cX8_write 41 = .ok (.ifCond .lt 40, 3) := by decide +kernel
theorem dX8_write_44 : decode cX8_write 44 = .ok (.aload_n 0, 1) := by decide +kernel
theorem dX8_write_45 : decode cX8_write 45 = .ok (.getfield 7, 3) := by decide +kernel
theorem dX8_write_48 : decode cX8_write 48 = .ok (.aload_n 0, 1) := by decide +kernel
theorem dX8_write_49 : decode cX8_write 49 = .ok (.getfield 81, 3) := by decide +kernel
theorem dX8_write_52 : decode cX8_write 52 = .ok (.lload_n 2, 1) := by decide +kernel
theorem dX8_write_53 : decode cX8_write 53 = .ok (.bipush 8, 2) := by decide +kernel
theorem dX8_write_55 : decode cX8_write 55 = .ok (.iload 4, 2) := by decide +kernel
theorem dX8_write_57 : decode cX8_write 57 = .ok (.imul, 1) := by decide +kernel
theorem dX8_write_58 : decode cX8_write 58 = .ok (.lshr, 1) := by decide +kernel
theorem dX8_write_59 : decode cX8_write 59 = .ok (.l2i, 1) := by decide +kernel
theorem dX8_write_60 : decode cX8_write 60 = .ok (.sipush 255, 3) := by decide +kernel
theorem dX8_write_63 : decode cX8_write 63 = .ok (.iand, 1) := by decide +kernel
theorem dX8_write_64 : decode cX8_write 64 = .ok (.iastore, 1) := by decide +kernel
theorem dX8_write_65 : decode cX8_write 65 = .ok (.aload_n 0, 1) := by decide +kernel
theorem dX8_write_66 : decode cX8_write 66 = .ok (.dup, 1) := by decide +kernel
theorem dX8_write_67 : decode cX8_write 67 = .ok (.getfield 81, 3) := by decide +kernel
theorem dX8_write_70 : decode cX8_write 70 = .ok (.iconst 1, 1) := by decide +kernel
theorem dX8_write_71 : decode cX8_write 71 = .ok (.iadd, 1) := by decide +kernel
theorem dX8_write_72 : decode cX8_write 72 = .ok (.putfield 81, 3) := by decide +kernel
theorem dX8_write_75 : decode cX8_write 75 = .ok (.iinc 4 (-1), 3) := by decide +kernel
theorem dX8_write_78 : decode cX8_write 78 = .ok (.goto (-39), 3) := by decide +kernel
theorem dX8_write_81 : decode cX8_write 81 = .ok (.aload_n 0, 1) := by decide +kernel
theorem dX8_write_82 : decode cX8_write 82 = .ok (.getfield 81, 3) := by decide +kernel
theorem dX8_write_85 : decode cX8_write 85 = .ok (.ireturn, 1) := by decide +kernel
theorem dX8_wipe_0 : decode cX8_wipe 0 = .ok (.aload_n 0, 1) := by decide +kernel
theorem dX8_wipe_1 : decode cX8_wipe 1 = .ok (.iconst 0, 1) := by decide +kernel
theorem dX8_wipe_2 : decode cX8_wipe 2 = .ok (.putfield 60, 3) := by decide +kernel
theorem dX8_wipe_5 : decode cX8_wipe 5 = .ok (.aload_n 0, 1) := by decide +kernel
theorem dX8_wipe_6 : decode cX8_wipe 6 = .ok (.getfield 81, 3) := by decide +kernel
theorem dX8_wipe_9 : decode cX8_wipe 9 = .ok (.istore_n 1, 1) := by decide +kernel
theorem dX8_wipe_10 : decode cX8_wipe 10 = .ok (.aload_n 0, 1) := by decide +kernel
theorem dX8_wipe_11 : decode cX8_wipe 11 = .ok (.iconst 0, 1) := by decide +kernel
theorem dX8_wipe_12 : decode cX8_wipe 12 = .ok (.putfield 81, 3) := by decide +kernel
theorem dX8_wipe_15 : decode cX8_wipe 15 = .ok (.iload_n 1, 1) := by decide +kernel
theorem dX8_wipe_16 : decode cX8_wipe 16 = .ok (.ireturn, 1) := by decide +kernel
theorem dX8_isAt_0 : decode cX8_isAt 0 = .ok (.aload_n 0, 1) := by decide +kernel
theorem dX8_isAt_1 : decode cX8_isAt 1 = .ok (.getfield 84, 3) := by decide +kernel
theorem dX8_isAt_4 : decode cX8_isAt 4 = .ok (.aload_n 0, 1) := by decide +kernel
theorem dX8_isAt_5 : decode cX8_isAt 5 = .ok (.getfield 81, 3) := by decide +kernel
theorem dX8_isAt_8 : decode cX8_isAt 8 = .ok (.if_icmp .ge 20, 3) := by decide +kernel
theorem dX8_isAt_11 : decode cX8_isAt 11 = .ok (.aload_n 0, 1) := by decide +kernel
theorem dX8_isAt_12 : decode cX8_isAt 12 = .ok (.getfield 7, 3) := by decide +kernel
theorem dX8_isAt_15 : decode cX8_isAt 15 = .ok (.aload_n 0, 1) := by decide +kernel
theorem dX8_isAt_16 : decode cX8_isAt 16 = .ok (.getfield 84, 3) := by decide +kernel
theorem dX8_isAt_19 : decode cX8_isAt 19 = .ok (.iaload, 1) := by decide +kernel
theorem dX8_isAt_20 : decode cX8_isAt 20 = .ok (.iload_n 1, 1) := by decide +kernel
theorem dX8_isAt_21 : decode cX8_isAt 21 = .ok (.if_icmp .ne 7, 3) := by decide +kernel
theorem dX8_isAt_24 : decode cX8_isAt 24 = .ok (.iconst 1, 1) := by decide +kernel
theorem dX8_isAt_25 : decode cX8_isAt 25 = .ok (.goto 4, 3) := by decide +kernel
theorem dX8_isAt_28 : decode cX8_isAt 28 = .ok (.iconst 0, 1) := by decide +kernel
theorem dX8_isAt_29 : decode cX8_isAt 29 = .ok (.ireturn, 1) := by decide +kernel
theorem dX8_isFigure_0 : decode cX8_isFigure 0 = .ok (.iload_n 1, 1) := by decide +kernel
theorem dX8_isFigure_1 : decode cX8_isFigure 1 = .ok (.aload_n 0, 1) := by decide +kernel
theorem dX8_isFigure_2 : decode cX8_isFigure 2 = .ok (.getfield 81, 3) := by decide +kernel
theorem dX8_isFigure_5 : decode cX8_isFigure 5 = .ok (.if_icmp .ge 26, 3) := by decide +kernel
theorem dX8_isFigure_8 : decode cX8_isFigure 8 = .ok (.aload_n 0, 1) := by decide +kernel
theorem dX8_isFigure_9 : decode cX8_isFigure 9 = .ok (.getfield 7, 3) := by decide +kernel
theorem dX8_isFigure_12 : decode cX8_isFigure 12 = .ok (.iload_n 1, 1) := by decide +kernel
theorem dX8_isFigure_13 : decode cX8_isFigure 13 = .ok (.iaload, 1) := by decide +kernel
theorem dX8_isFigure_14 : decode cX8_isFigure 14 = .ok (.i2l, 1) := by decide +kernel
theorem dX8_isFigure_15 : decode cX8_isFigure 15 = .ok (.ldc2_w 87, 3) := by decide +kernel
theorem dX8_isFigure_18 : decode cX8_isFigure 18 = .ok (.ldc2_w 89, 3) := by decide +kernel
theorem dX8_isFigure_21 : decode cX8_isFigure 21 = .ok (.invokestatic 65, 3) := by decide +kernel
theorem dX8_isFigure_24 : decode cX8_isFigure 24 = .ok (.ifCond .eq 7, 3) := by decide +kernel
theorem dX8_isFigure_27 : decode cX8_isFigure 27 = .ok (.iconst 1, 1) := by decide +kernel
theorem dX8_isFigure_28 : decode cX8_isFigure 28 = .ok (.goto 4, 3) := by decide +kernel
theorem dX8_isFigure_31 : decode cX8_isFigure 31 = .ok (.iconst 0, 1) := by decide +kernel
theorem dX8_isFigure_32 : decode cX8_isFigure 32 = .ok (.ireturn, 1) := by decide +kernel
theorem dX8_number_0 : decode cX8_number 0 = .ok (.aload_n 0, 1) := by decide +kernel
theorem dX8_number_1 : decode cX8_number 1 = .ok (.aload_n 0, 1) := by decide +kernel
theorem dX8_number_2 : decode cX8_number 2 = .ok (.getfield 84, 3) := by decide +kernel
theorem dX8_number_5 : decode cX8_number 5 = .ok (.invokevirtual 91, 3) := by decide +kernel
theorem dX8_number_8 : decode cX8_number 8 = .ok (.ifCond .ne 6, 3) := by decide +kernel
theorem dX8_number_11 : decode cX8_number 11 = .ok (.bipush (-9), 2) := by decide +kernel
theorem dX8_number_13 : decode cX8_number 13 = .ok (.ireturn, 1) := by decide +kernel
theorem dX8_number_14 : decode cX8_number 14 = .ok (.aload_n 0, 1) := by decide +kernel
theorem dX8_number_15 : decode cX8_number 15 = .ok (.getfield 84, 3) := by decide +kernel
theorem dX8_number_18 : decode cX8_number 18 = .ok (.istore_n 3, 1) := by decide +kernel
theorem dX8_number_19 : decode cX8_number 19 = .ok (.aload_n 0, 1) := by decide +kernel
theorem dX8_number_20 : decode cX8_number 20 = .ok (.getfield 7, 3) := by decide +kernel
theorem dX8_number_23 : decode cX8_number 23 = .ok (.aload_n 0, 1) := by decide +kernel
theorem dX8_number_24 : decode cX8_number 24 = .ok (.getfield 84, 3) := by decide +kernel
theorem dX8_number_27 : decode cX8_number 27 = .ok (.iaload, 1) := by decide +kernel
theorem dX8_number_28 : decode cX8_number 28 = .ok (.bipush 48, 2) := by decide +kernel
theorem dX8_number_30 : decode cX8_number 30 = .ok (.isub, 1) := by decide +kernel
theorem dX8_number_31 : decode cX8_number 31 = .ok (.istore 4, 2) := by decide +kernel
theorem dX8_number_33 : decode cX8_number 33 = .ok (.iload 4, 2) := by decide +kernel
theorem dX8_number_35 : decode cX8_number 35 = .ok (.iload_n 2, 1) := by decide +kernel
theorem dX8_number_36 : decode cX8_number 36 = .ok (.if_icmp .le 6, 3) := by decide +kernel
theorem dX8_number_39 : decode cX8_number 39 = .ok (.bipush (-9), 2) := by decide +kernel
theorem dX8_number_41 : decode cX8_number 41 = .ok (.ireturn, 1) := by decide +kernel
theorem dX8_number_42 : decode cX8_number 42 = .ok (.aload_n 0, 1) := by decide +kernel
theorem dX8_number_43 : decode cX8_number 43 = .ok (.dup, 1) := by decide +kernel
theorem dX8_number_44 : decode cX8_number 44 = .ok (.getfield 84, 3) := by decide +kernel
theorem dX8_number_47 : decode cX8_number 47 = .ok (.iconst 1, 1) := by decide +kernel
theorem dX8_number_48 : decode cX8_number 48 = .ok (.iadd, 1) := by decide +kernel
theorem dX8_number_49 : decode cX8_number 49 = .ok (.putfield 84, 3) := by decide +kernel
theorem dX8_number_52 : decode cX8_number 52 = .ok (.aload_n 0, 1) := by decide +kernel
theorem dX8_number_53 : decode cX8_number 53 = .ok (.aload_n 0, 1) := by decide +kernel
theorem dX8_number_54 : decode cX8_number 54 = .ok (.getfield 84, 3) := by decide +kernel
theorem dX8_number_57 : decode cX8_number 57 = .ok (.invokevirtual 91, 3) := by decide +kernel
theorem dX8_number_60 : decode cX8_number 60 = .ok (.istore 5, 2) := by decide +kernel
theorem dX8_number_62 : decode cX8_number 62 = .ok (.iload 5, 2) := by decide +kernel
theorem dX8_number_64 : decode cX8_number 64 = .ok (.ifCond .eq 42, 3) := by decide +kernel
theorem dX8_number_67 : decode cX8_number 67 = .ok (.bipush 10, 2) := by decide +kernel
theorem dX8_number_69 : decode cX8_number 69 = .ok (.iload 4, 2) := by decide +kernel
theorem dX8_number_71 : decode cX8_number 71 = .ok (.imul, 1) := by decide +kernel
theorem dX8_number_72 : decode cX8_number 72 = .ok (.aload_n 0, 1) := by decide +kernel
theorem dX8_number_73 : decode cX8_number 73 = .ok (.getfield 7, 3) := by decide +kernel
theorem dX8_number_76 : decode cX8_number 76 = .ok (.aload_n 0, 1) := by decide +kernel
theorem dX8_number_77 : decode cX8_number 77 = .ok (.getfield 84, 3) := by decide +kernel
theorem dX8_number_80 : decode cX8_number 80 = .ok (.iaload, 1) := by decide +kernel
theorem dX8_number_81 : decode cX8_number 81 = .ok (.iadd, 1) := by decide +kernel
theorem dX8_number_82 : decode cX8_number 82 = .ok (.bipush 48, 2) := by decide +kernel
theorem dX8_number_84 : decode cX8_number 84 = .ok (.isub, 1) := by decide +kernel
theorem dX8_number_85 : decode cX8_number 85 = .ok (.istore 4, 2) := by decide +kernel
theorem dX8_number_87 : decode cX8_number 87 = .ok (.iload 4, 2) := by decide +kernel
theorem dX8_number_89 : decode cX8_number 89 = .ok (.iload_n 2, 1) := by decide +kernel
theorem dX8_number_90 : decode cX8_number 90 = .ok (.if_icmp .le 6, 3) := by decide +kernel
theorem dX8_number_93 : decode cX8_number 93 = .ok (.bipush (-9), 2) := by decide +kernel
theorem dX8_number_95 : decode cX8_number 95 = .ok (.ireturn, 1) := by decide +kernel
theorem dX8_number_96 : decode cX8_number 96 = .ok (.aload_n 0, 1) := by decide +kernel
theorem dX8_number_97 : decode cX8_number 97 = .ok (.dup, 1) := by decide +kernel
theorem dX8_number_98 : decode cX8_number 98 = .ok (.getfield 84, 3) := by decide +kernel
theorem dX8_number_101 : decode cX8_number 101 = .ok (.iconst 1, 1) := by decide +kernel
theorem dX8_number_102 : decode cX8_number 102 = .ok (.iadd, 1) := by decide +kernel
theorem dX8_number_103 : decode cX8_number 103 = .ok (.putfield 84, 3) := by decide +kernel
theorem dX8_number_106 : decode cX8_number 106 = .ok (.iload 4, 2) := by decide +kernel
theorem dX8_number_108 : decode cX8_number 108 = .ok (.iload_n 1, 1) := by decide +kernel
theorem dX8_number_109 : decode cX8_number 109 = .ok (.if_icmp .ge 22, 3) := by decide +kernel
theorem dX8_number_112 : decode cX8_number 112 = .ok (.iload 5, 2) := by decide +kernel
theorem dX8_number_114 : decode cX8_number 114 = .ok (.ifCond .ne 17, 3) := by decide +kernel
theorem dX8_number_117 : decode cX8_number 117 = .ok (.aload_n 0, 1) := by decide +kernel
theorem dX8_number_118 : decode cX8_number 118 = .ok (.getfield 84, 3) := by decide +kernel
theorem dX8_number_121 : decode cX8_number 121 = .ok (.aload_n 0, 1) := by decide +kernel
theorem dX8_number_122 : decode cX8_number 122 = .ok (.getfield 81, 3) := by decide +kernel
theorem dX8_number_125 : decode cX8_number 125 = .ok (.if_icmp .ne 6, 3) := by decide +kernel
theorem dX8_number_128 : decode cX8_number 128 = .ok (.bipush (-9), 2) := by decide +kernel
theorem dX8_number_130 : decode cX8_number 130 = .ok (.ireturn, 1) := by decide +kernel
theorem dX8_number_131 : decode cX8_number 131 = .ok (.iload 4, 2) := by decide +kernel
theorem dX8_number_133 : decode cX8_number 133 = .ok (.iload_n 1, 1) := by decide +kernel
theorem dX8_number_134 : decode cX8_number 134 = .ok (.if_icmp .ge 11, 3) := by decide +kernel
theorem dX8_number_137 : decode cX8_number 137 = .ok (.aload_n 0, 1) := by decide +kernel
theorem dX8_number_138 : decode cX8_number 138 = .ok (.iload_n 3, 1) := by decide +kernel
theorem dX8_number_139 : decode cX8_number 139 = .ok (.putfield 84, 3) := by decide +kernel
theorem dX8_number_142 : decode cX8_number 142 = .ok (.bipush (-9), 2) := by decide +kernel
theorem dX8_number_144 : decode cX8_number 144 = .ok (.ireturn, 1) := by decide +kernel
theorem dX8_number_145 : decode cX8_number 145 = .ok (.iload 4, 2) := by decide +kernel
theorem dX8_number_147 : decode cX8_number 147 = .ok (.ireturn, 1) := by decide +kernel
theorem dX8_sign_0 : decode cX8_sign 0 = .ok (.aload_n 0, 1) := by decide +kernel
theorem dX8_sign_1 : decode cX8_sign 1 = .ok (.iload_n 1, 1) := by decide +kernel
theorem dX8_sign_2 : decode cX8_sign 2 = .ok (.invokevirtual 95, 3) := by decide +kernel
theorem dX8_sign_5 : decode cX8_sign 5 = .ok (.istore_n 2, 1) := by decide +kernel
theorem dX8_sign_6 : decode cX8_sign 6 = .ok (.aload_n 0, 1) := by decide +kernel
theorem dX8_sign_7 : decode cX8_sign 7 = .ok (.dup, 1) := by decide +kernel
theorem dX8_sign_8 : decode cX8_sign 8 = .ok (.getfield 84, 3) := by decide +kernel
theorem dX8_sign_11 : decode cX8_sign 11 = .ok (.iload_n 2, 1) := by decide +kernel
theorem dX8_sign_12 : decode cX8_sign 12 = .ok (.ifCond .eq 7, 3) := by decide +kernel
theorem dX8_sign_15 : decode cX8_sign 15 = .ok (.iconst 1, 1) := by decide +kernel
theorem dX8_sign_16 : decode cX8_sign 16 = .ok (.goto 4, 3) := by decide +kernel
theorem dX8_sign_19 : decode cX8_sign 19 = .ok (.iconst 0, 1) := by decide +kernel
theorem dX8_sign_20 : decode cX8_sign 20 = .ok (.iadd, 1) := by decide +kernel
theorem dX8_sign_21 : decode cX8_sign 21 = .ok (.putfield 84, 3) := by decide +kernel
theorem dX8_sign_24 : decode cX8_sign 24 = .ok (.iload_n 2, 1) := by decide +kernel
theorem dX8_sign_25 : decode cX8_sign 25 = .ok (.ireturn, 1) := by decide +kernel
theorem dX8_plus_0 : decode cX8_plus 0 = .ok (.aload_n 0, 1) := by decide +kernel
theorem dX8_plus_1 : decode cX8_plus 1 = .ok (.bipush 43, 2) := by decide +kernel
theorem dX8_plus_3 : decode cX8_plus 3 = .ok (.invokevirtual 98, 3) := by decide +kernel
theorem dX8_plus_6 : decode cX8_plus 6 = .ok (.ifCond .eq 7, 3) := by decide +kernel
theorem dX8_plus_9 : decode cX8_plus 9 = .ok (.iconst 1, 1) := by decide +kernel
theorem dX8_plus_10 : decode cX8_plus 10 = .ok (.goto 18, 3) := by decide +kernel
theorem dX8_plus_13 : decode cX8_plus 13 = .ok (.aload_n 0, 1) := by decide +kernel
theorem dX8_plus_14 : decode cX8_plus 14 = .ok (.bipush 45, 2) := by decide +kernel
theorem dX8_plus_16 : decode cX8_plus 16 = .ok (.invokevirtual 98, 3) := by decide +kernel
theorem dX8_plus_19 : decode cX8_plus 19 = .ok (.ifCond .eq 7, 3) := by decide +kernel
theorem dX8_plus_22 : decode cX8_plus 22 = .ok (.iconst 0, 1) := by decide +kernel
theorem dX8_plus_23 : decode cX8_plus 23 = .ok (.goto 5, 3) := by decide +kernel
theorem dX8_plus_26 : decode cX8_plus 26 = .ok (.bipush (-9), 2) := by decide +kernel
theorem dX8_plus_28 : decode cX8_plus 28 = .ok (.ireturn, 1) := by decide +kernel
theorem dX8_readHead_0 : decode cX8_readHead 0 = .ok (.aload_n 0, 1) := by decide +kernel
theorem dX8_readHead_1 : decode cX8_readHead 1 = .ok (.aload_n 0, 1) := by decide +kernel
theorem dX8_readHead_2 : decode cX8_readHead 2 = .ok (.bipush 67, 2) := by decide +kernel
theorem dX8_readHead_4 : decode cX8_readHead 4 = .ok (.invokevirtual 98, 3) := by decide +kernel
theorem dX8_readHead_7 : decode cX8_readHead 7 = .ok (.ifCond .eq 7, 3) := by decide +kernel
theorem dX8_readHead_10 : decode cX8_readHead 10 = .ok (.iconst 0, 1) := by decide +kernel
theorem dX8_readHead_11 : decode cX8_readHead 11 = .ok (.goto 57, 3) := by decide +kernel
theorem dX8_readHead_14 : decode cX8_readHead 14 = .ok (.aload_n 0, 1) := by decide +kernel
theorem dX8_readHead_15 : decode cX8_readHead 15 = .ok (.bipush 83, 2) := by decide +kernel
theorem dX8_readHead_17 : decode cX8_readHead 17 = .ok (.invokevirtual 98, 3) := by decide +kernel
theorem dX8_readHead_20 : decode cX8_readHead 20 = .ok (.ifCond .eq 7, 3) := by decide +kernel
theorem dX8_readHead_23 : decode cX8_readHead 23 = .ok (.iconst 1, 1) := by decide +kernel
theorem dX8_readHead_24 : decode cX8_readHead 24 = .ok (.goto 44, 3) := by decide +kernel
theorem dX8_readHead_27 : decode cX8_readHead 27 = .ok (.aload_n 0, 1) := by decide +kernel
theorem dX8_readHead_28 : decode cX8_readHead 28 = .ok (.bipush 68, 2) := by decide +kernel
theorem dX8_readHead_30 : decode cX8_readHead 30 = .ok (.invokevirtual 98, 3) := by decide +kernel
theorem dX8_readHead_33 : decode cX8_readHead 33 = .ok (.ifCond .eq 7, 3) := by decide +kernel
theorem dX8_readHead_36 : decode cX8_readHead 36 = .ok (.iconst 2, 1) := by decide +kernel
theorem dX8_readHead_37 : decode cX8_readHead 37 = .ok (.goto 31, 3) := by decide +kernel
theorem dX8_readHead_40 : decode cX8_readHead 40 = .ok (.aload_n 0, 1) := by decide +kernel
theorem dX8_readHead_41 : decode cX8_readHead 41 = .ok (.bipush 66, 2) := by decide +kernel
theorem dX8_readHead_43 : decode cX8_readHead 43 = .ok (.invokevirtual 98, 3) := by decide +kernel
theorem dX8_readHead_46 : decode cX8_readHead 46 = .ok (.ifCond .eq 7, 3) := by decide +kernel
theorem dX8_readHead_49 : decode cX8_readHead 49 = .ok (.iconst 3, 1) := by decide +kernel
theorem dX8_readHead_50 : decode cX8_readHead 50 = .ok (.goto 18, 3) := by decide +kernel
theorem dX8_readHead_53 : decode cX8_readHead 53 = .ok (.aload_n 0, 1) := by decide +kernel
theorem dX8_readHead_54 : decode cX8_readHead 54 = .ok (.bipush 86, 2) := by decide +kernel
theorem dX8_readHead_56 : decode cX8_readHead 56 = .ok (.invokevirtual 98, 3) := by decide +kernel
theorem dX8_readHead_59 : decode cX8_readHead 59 = .ok (.ifCond .eq 7, 3) := by decide +kernel
theorem dX8_readHead_62 : decode cX8_readHead 62 = .ok (.iconst 4, 1) := by decide +kernel
theorem dX8_readHead_63 : decode cX8_readHead 63 = .ok (.goto 5, 3) := by decide +kernel
theorem dX8_readHead_66 : decode cX8_readHead 66 = .ok (.bipush (-9), 2) := by decide +kernel
theorem dX8_readHead_68 : decode cX8_readHead 68 = .ok (.putfield 101, 3) := by decide +kernel
theorem dX8_readHead_71 : decode cX8_readHead 71 = .ok (.aload_n 0, 1) := by decide +kernel
theorem dX8_readHead_72 : decode cX8_readHead 72 = .ok (.bipush (-9), 2) := by decide +kernel
theorem dX8_readHead_74 : decode cX8_readHead 74 = .ok (.putfield 104, 3) := by decide +kernel
theorem dX8_readHead_77 : decode cX8_readHead 77 = .ok (.aload_n 0, 1) := by decide +kernel
theorem dX8_readHead_78 : decode cX8_readHead 78 = .ok (.bipush (-9), 2) := by decide +kernel
theorem dX8_readHead_80 : decode cX8_readHead 80 = .ok (.putfield 107, 3) := by decide +kernel
theorem dX8_readHead_83 : decode cX8_readHead 83 = .ok (.aload_n 0, 1) := by decide +kernel
theorem dX8_readHead_84 : decode cX8_readHead 84 = .ok (.bipush (-9), 2) := by decide +kernel
theorem dX8_readHead_86 : decode cX8_readHead 86 = .ok (.putfield 110, 3) := by decide +kernel
theorem dX8_readHead_89 : decode cX8_readHead 89 = .ok (.aload_n 0, 1) := by decide +kernel
theorem dX8_readHead_90 : decode cX8_readHead 90 = .ok (.bipush (-9), 2) := by decide +kernel
theorem dX8_readHead_92 : decode cX8_readHead 92 = .ok (.putfield 113, 3) := by decide +kernel
theorem dX8_readHead_95 : decode cX8_readHead 95 = .ok (.aload_n 0, 1) := by decide +kernel
theorem dX8_readHead_96 : decode cX8_readHead 96 = .ok (.bipush (-9), 2) := by decide +kernel
theorem dX8_readHead_98 : decode cX8_readHead 98 = .ok (.putfield 116, 3) := by decide +kernel
theorem dX8_readHead_101 : decode cX8_readHead 101 = .ok (.aload_n 0, 1) := by decide +kernel
theorem dX8_readHead_102 : decode cX8_readHead 102 = .ok (.getfield 101, 3) := by decide +kernel
theorem dX8_readHead_105 : decode cX8_readHead 105 = .ok (.bipush (-9), 2) := by decide +kernel
theorem dX8_readHead_107 : decode cX8_readHead 107 = .ok (.if_icmp .ne 5, 3) := by decide +kernel
theorem dX8_readHead_110 : decode cX8_readHead 110 = .ok (.iconst 0, 1) := by decide +kernel
theorem dX8_readHead_111 : decode cX8_readHead 111 = .ok (.ireturn, 1) := by decide +kernel
theorem dX8_readHead_112 : decode cX8_readHead 112 = .ok (.aload_n 0, 1) := by decide +kernel
theorem dX8_readHead_113 : decode cX8_readHead 113 = .ok (.getfield 101, 3) := by decide +kernel
theorem dX8_readHead_116 : decode cX8_readHead 116 = .ok (.iconst 3, 1) := by decide +kernel
theorem dX8_readHead_117 : decode cX8_readHead 117 = .ok (.if_icmp .ne 26, 3) := by decide +kernel
theorem dX8_readHead_120 : decode cX8_readHead 120 = .ok (.aload_n 0, 1) := by decide +kernel
theorem dX8_readHead_121 : decode cX8_readHead 121 = .ok (.aload_n 0, 1) := by decide +kernel
theorem dX8_readHead_122 : decode cX8_readHead 122 = .ok (.iconst 0, 1) := by decide +kernel
theorem dX8_readHead_123 : decode cX8_readHead 123 = .ok (.iconst 4, 1) := by decide +kernel
theorem dX8_readHead_124 : decode cX8_readHead 124 = .ok (.invokevirtual 119, 3) := by decide +kernel
theorem dX8_readHead_127 : decode cX8_readHead 127 = .ok (.putfield 104, 3) := by decide +kernel
theorem dX8_readHead_130 : decode cX8_readHead 130 = .ok (.aload_n 0, 1) := by decide +kernel
theorem dX8_readHead_131 : decode cX8_readHead 131 = .ok (.getfield 104, 3) := by decide +kernel
theorem dX8_readHead_134 : decode cX8_readHead 134 = .ok (.ifCond .lt 7, 3) := by decide +kernel
theorem dX8_readHead_137 : decode cX8_readHead 137 = .ok (.iconst 1, 1) := by decide +kernel
theorem dX8_readHead_138 : decode cX8_readHead 138 = .ok (.goto 4, 3) := by decide +kernel
theorem dX8_readHead_141 : decode cX8_readHead 141 = .ok (.iconst 0, 1) := by decide +kernel
theorem dX8_readHead_142 : decode cX8_readHead 142 = .ok (.ireturn, 1) := by decide +kernel
theorem dX8_readHead_143 : decode cX8_readHead 143 = .ok (.aload_n 0, 1) := by decide +kernel
theorem dX8_readHead_144 : decode cX8_readHead 144 = .ok (.aload_n 0, 1) := by decide +kernel
theorem dX8_readHead_145 : decode cX8_readHead 145 = .ok (.iconst 0, 1) := by decide +kernel
theorem dX8_readHead_146 : decode cX8_readHead 146 = .ok (.iconst 2, 1) := by decide +kernel
theorem dX8_readHead_147 : decode cX8_readHead 147 = .ok (.invokevirtual 119, 3) := by decide +kernel
theorem dX8_readHead_150 : decode cX8_readHead 150 = .ok (.putfield 104, 3) := by decide +kernel
theorem dX8_readHead_153 : decode cX8_readHead 153 = .ok (.aload_n 0, 1) := by decide +kernel
theorem dX8_readHead_154 : decode cX8_readHead 154 = .ok (.getfield 104, 3) := by decide +kernel
theorem dX8_readHead_157 : decode cX8_readHead 157 = .ok (.ifCond .lt 12, 3) := by decide +kernel
theorem dX8_readHead_160 : decode cX8_readHead 160 = .ok (.aload_n 0, 1) := by decide +kernel
theorem dX8_readHead_161 : decode cX8_readHead 161 = .ok (.bipush 44, 2) := by decide +kernel
theorem dX8_readHead_163 : decode cX8_readHead 163 = .ok (.invokevirtual 98, 3) := by decide +kernel
theorem dX8_readHead_166 : decode cX8_readHead 166 = .ok (.ifCond .ne 5, 3) := by decide +kernel
theorem dX8_readHead_169 : decode cX8_readHead 169 = .ok (.iconst 0, 1) := by decide +kernel
theorem dX8_readHead_170 : decode cX8_readHead 170 = .ok (.ireturn, 1) := by decide +kernel
theorem dX8_readHead_171 : decode cX8_readHead 171 = .ok (.aload_n 0, 1) := by decide +kernel
theorem dX8_readHead_172 : decode cX8_readHead 172 = .ok (.aload_n 0, 1) := by decide +kernel
theorem dX8_readHead_173 : decode cX8_readHead 173 = .ok (.getfield 101, 3) := by decide +kernel
theorem dX8_readHead_176 : decode cX8_readHead 176 = .ok (.iconst 4, 1) := by decide +kernel
theorem dX8_readHead_177 : decode cX8_readHead 177 = .ok (.if_icmp .ne 12, 3) := by decide +kernel
theorem dX8_readHead_180 : decode cX8_readHead 180 = .ok (.aload_n 0, 1) := by decide +kernel
theorem dX8_readHead_181 : decode cX8_readHead 181 = .ok (.iconst 0, 1) := by decide +kernel
theorem dX8_readHead_182 : decode cX8_readHead 182 = .ok (.iconst 3, 1) := by decide +kernel
theorem dX8_readHead_183 : decode cX8_readHead 183 = .ok (.invokevirtual 119, 3) := by decide +kernel
theorem dX8_readHead_186 : decode cX8_readHead 186 = .ok (.goto 10, 3) := by decide +kernel
theorem dX8_readHead_189 : decode cX8_readHead 189 = .ok (.aload_n 0, 1) := by decide +kernel
theorem dX8_readHead_190 : decode cX8_readHead 190 = .ok (.iconst 1, 1) := by decide +kernel
theorem dX8_readHead_191 : decode cX8_readHead 191 = .ok (.bipush 99, 2) := by decide +kernel
theorem dX8_readHead_193 : decode cX8_readHead 193 = .ok (.invokevirtual 119, 3) := by decide +kernel
theorem dX8_readHead_196 : decode cX8_readHead 196 = .ok (.putfield 107, 3) := by decide +kernel
theorem dX8_readHead_199 : decode cX8_readHead 199 = .ok (.aload_n 0, 1) := by decide +kernel
theorem dX8_readHead_200 : decode cX8_readHead 200 = .ok (.getfield 107, 3) := by decide +kernel
theorem dX8_readHead_203 : decode cX8_readHead 203 = .ok (.ifCond .lt 12, 3) := by decide +kernel
theorem dX8_readHead_206 : decode cX8_readHead 206 = .ok (.aload_n 0, 1) := by decide +kernel
theorem dX8_readHead_207 : decode cX8_readHead 207 = .ok (.bipush 44, 2) := by decide +kernel
theorem dX8_readHead_209 : decode cX8_readHead 209 = .ok (.invokevirtual 98, 3) := by decide +kernel
theorem dX8_readHead_212 : decode cX8_readHead 212 = .ok (.ifCond .ne 5, 3) := by decide +kernel
theorem dX8_readHead_215 : decode cX8_readHead 215 = .ok (.iconst 0, 1) := by decide +kernel
theorem dX8_readHead_216 : decode cX8_readHead 216 = .ok (.ireturn, 1) := by decide +kernel
theorem dX8_readHead_217 : decode cX8_readHead 217 = .ok (.aload_n 0, 1) := by decide +kernel
theorem dX8_readHead_218 : decode cX8_readHead 218 = .ok (.aload_n 0, 1) := by decide +kernel
theorem dX8_readHead_219 : decode cX8_readHead 219 = .ok (.getfield 101, 3) := by decide +kernel
theorem dX8_readHead_222 : decode cX8_readHead 222 = .ok (.iconst 4, 1) := by decide +kernel
theorem dX8_readHead_223 : decode cX8_readHead 223 = .ok (.if_icmp .ne 13, 3) := by decide +kernel
theorem dX8_readHead_226 : decode cX8_readHead 226 = .ok (.aload_n 0, 1) := by decide +kernel
theorem dX8_readHead_227 : decode cX8_readHead 227 = .ok (.iconst 1, 1) := by decide +kernel
theorem dX8_readHead_228 : decode cX8_readHead 228 = .ok (.bipush 99, 2) := by decide +kernel
theorem dX8_readHead_230 : decode cX8_readHead 230 = .ok (.invokevirtual 119, 3) := by decide +kernel
theorem dX8_readHead_233 : decode cX8_readHead 233 = .ok (.goto 21, 3) := by decide +kernel
theorem dX8_readHead_236 : decode cX8_readHead 236 = .ok (.aload_n 0, 1) := by decide +kernel
theorem dX8_readHead_237 : decode cX8_readHead 237 = .ok (.iconst 0, 1) := by decide +kernel
theorem dX8_readHead_238 : decode cX8_readHead 238 = .ok (.aload_n 0, 1) := by decide +kernel
theorem dX8_readHead_239 : decode cX8_readHead 239 = .ok (.getfield 101, 3) := by decide +kernel
theorem dX8_readHead_242 : decode cX8_readHead 242 = .ok (.iconst 2, 1) := by decide +kernel
theorem dX8_readHead_243 : decode cX8_readHead 243 = .ok (.if_icmp .ne 7, 3) := by decide +kernel
theorem dX8_readHead_246 : decode cX8_readHead 246 = .ok (.iconst 3, 1) := by decide +kernel
theorem dX8_readHead_247 : decode cX8_readHead 247 = .ok (.goto 4, 3) := by decide +kernel
theorem dX8_readHead_250 : decode cX8_readHead 250 = .ok (.iconst 4, 1) := by decide +kernel
theorem dX8_readHead_251 : decode cX8_readHead 251 = .ok (.invokevirtual 119, 3) := by decide +kernel
theorem dX8_readHead_254 : decode cX8_readHead 254 = .ok (.putfield 110, 3) := by decide +kernel
theorem dX8_readHead_257 : decode cX8_readHead 257 = .ok (.aload_n 0, 1) := by decide +kernel
theorem dX8_readHead_258 : decode cX8_readHead 258 = .ok (.getfield 110, 3) := by decide +kernel
theorem dX8_readHead_261 : decode cX8_readHead 261 = .ok (.ifCond .ge 5, 3) := by decide +kernel
theorem dX8_readHead_264 : decode cX8_readHead 264 = .ok (.iconst 0, 1) := by decide +kernel
theorem dX8_readHead_265 : decode cX8_readHead 265 = .ok (.ireturn, 1) := by decide +kernel
theorem dX8_readHead_266 : decode cX8_readHead 266 = .ok (.aload_n 0, 1) := by decide +kernel
theorem dX8_readHead_267 : decode cX8_readHead 267 = .ok (.aload_n 0, 1) := by decide +kernel
theorem dX8_readHead_268 : decode cX8_readHead 268 = .ok (.getfield 101, 3) := by decide +kernel
theorem dX8_readHead_271 : decode cX8_readHead 271 = .ok (.iconst 2, 1) := by decide +kernel
theorem dX8_readHead_272 : decode cX8_readHead 272 = .ok (.if_icmp .ne 10, 3) := by decide +kernel
theorem dX8_readHead_275 : decode cX8_readHead 275 = .ok (.aload_n 0, 1) := by decide +kernel
theorem dX8_readHead_276 : decode cX8_readHead 276 = .ok (.invokevirtual 123, 3) := by decide +kernel
theorem dX8_readHead_279 : decode cX8_readHead 279 = .ok (.goto 5, 3) := by decide +kernel
theorem dX8_readHead_282 : decode cX8_readHead 282 = .ok (.bipush (-9), 2) := by decide +kernel
theorem dX8_readHead_284 : decode cX8_readHead 284 = .ok (.putfield 113, 3) := by decide +kernel
theorem dX8_readHead_287 : decode cX8_readHead 287 = .ok (.aload_n 0, 1) := by decide +kernel
theorem dX8_readHead_288 : decode cX8_readHead 288 = .ok (.getfield 101, 3) := by decide +kernel
theorem dX8_readHead_291 : decode cX8_readHead 291 = .ok (.iconst 2, 1) := by decide +kernel
theorem dX8_readHead_292 : decode cX8_readHead 292 = .ok (.if_icmp .ne 10, 3) := by decide +kernel
theorem dX8_readHead_295 : decode cX8_readHead 295 = .ok (.aload_n 0, 1) := by decide +kernel
theorem dX8_readHead_296 : decode cX8_readHead 296 = .ok (.getfield 113, 3) := by decide +kernel
theorem dX8_readHead_299 : decode cX8_readHead 299 = .ok (.ifCond .lt 7, 3) := by decide +kernel
theorem dX8_readHead_302 : decode cX8_readHead 302 = .ok (.iconst 1, 1) := by decide +kernel
theorem dX8_readHead_303 : decode cX8_readHead 303 = .ok (.goto 4, 3) := by decide +kernel
theorem dX8_readHead_306 : decode cX8_readHead 306 = .ok (.iconst 0, 1) := by decide +kernel
theorem dX8_readHead_307 : decode cX8_readHead 307 = .ok (.ireturn, 1) := by decide +kernel
theorem dX8_readHang_0 : decode cX8_readHang 0 = .ok (.aload_n 0, 1) := by decide +kernel
theorem dX8_readHang_1 : decode cX8_readHang 1 = .ok (.bipush 63, 2) := by decide +kernel
theorem dX8_readHang_3 : decode cX8_readHang 3 = .ok (.invokevirtual 98, 3) := by decide +kernel
theorem dX8_readHang_6 : decode cX8_readHang 6 = .ok (.ifCond .ne 5, 3) := by decide +kernel
theorem dX8_readHang_9 : decode cX8_readHang 9 = .ok (.iconst 0, 1) := by decide +kernel
theorem dX8_readHang_10 : decode cX8_readHang 10 = .ok (.ireturn, 1) := by decide +kernel
theorem dX8_readHang_11 : decode cX8_readHang 11 = .ok (.aload_n 0, 1) := by decide +kernel
theorem dX8_readHang_12 : decode cX8_readHang 12 = .ok (.bipush 61, 2) := by decide +kernel
theorem dX8_readHang_14 : decode cX8_readHang 14 = .ok (.invokevirtual 98, 3) := by decide +kernel
theorem dX8_readHang_17 : decode cX8_readHang 17 = .ok (.ifCond .eq 55, 3) := by decide +kernel
theorem dX8_readHang_20 : decode cX8_readHang 20 = .ok (.aload_n 0, 1) := by decide +kernel
theorem dX8_readHang_21 : decode cX8_readHang 21 = .ok (.iconst 0, 1) := by decide +kernel
theorem dX8_readHang_22 : decode cX8_readHang 22 = .ok (.iconst 4, 1) := by decide +kernel
theorem dX8_readHang_23 : decode cX8_readHang 23 = .ok (.invokevirtual 119, 3) := by decide +kernel
theorem dX8_readHang_26 : decode cX8_readHang 26 = .ok (.istore_n 1, 1) := by decide +kernel
theorem dX8_readHang_27 : decode cX8_readHang 27 = .ok (.iload_n 1, 1) := by decide +kernel
theorem dX8_readHang_28 : decode cX8_readHang 28 = .ok (.ifCond .lt 12, 3) := by decide +kernel
theorem dX8_readHang_31 : decode cX8_readHang 31 = .ok (.aload_n 0, 1) := by decide +kernel
theorem dX8_readHang_32 : decode cX8_readHang 32 = .ok (.bipush 44, 2) := by decide +kernel
theorem dX8_readHang_34 : decode cX8_readHang 34 = .ok (.invokevirtual 98, 3) := by decide +kernel
theorem dX8_readHang_37 : decode cX8_readHang 37 = .ok (.ifCond .ne 5, 3) := by decide +kernel
theorem dX8_readHang_40 : decode cX8_readHang 40 = .ok (.iconst 0, 1) := by decide +kernel
theorem dX8_readHang_41 : decode cX8_readHang 41 = .ok (.ireturn, 1) := by decide +kernel
theorem dX8_readHang_42 : decode cX8_readHang 42 = .ok (.aload_n 0, 1) := by decide +kernel
theorem dX8_readHang_43 : decode cX8_readHang 43 = .ok (.iconst 0, 1) := by decide +kernel
theorem dX8_readHang_44 : decode cX8_readHang 44 = .ok (.iconst 3, 1) := by decide +kernel
theorem dX8_readHang_45 : decode cX8_readHang 45 = .ok (.invokevirtual 119, 3) := by decide +kernel
theorem dX8_readHang_48 : decode cX8_readHang 48 = .ok (.istore_n 2, 1) := by decide +kernel
theorem dX8_readHang_49 : decode cX8_readHang 49 = .ok (.aload_n 0, 1) := by decide +kernel
theorem dX8_readHang_50 : decode cX8_readHang 50 = .ok (.bipush 100, 2) := by decide +kernel
theorem dX8_readHang_52 : decode cX8_readHang 52 = .ok (.bipush 10, 2) := by decide +kernel
theorem dX8_readHang_54 : decode cX8_readHang 54 = .ok (.iload_n 1, 1) := by decide +kernel
theorem dX8_readHang_55 : decode cX8_readHang 55 = .ok (.imul, 1) := by decide +kernel
theorem dX8_readHang_56 : decode cX8_readHang 56 = .ok (.iadd, 1) := by decide +kernel
theorem dX8_readHang_57 : decode cX8_readHang 57 = .ok (.iload_n 2, 1) := by decide +kernel
theorem dX8_readHang_58 : decode cX8_readHang 58 = .ok (.iadd, 1) := by decide +kernel
theorem dX8_readHang_59 : decode cX8_readHang 59 = .ok (.putfield 116, 3) := by decide +kernel
theorem dX8_readHang_62 : decode cX8_readHang 62 = .ok (.iload_n 2, 1) := by decide +kernel
theorem dX8_readHang_63 : decode cX8_readHang 63 = .ok (.ifCond .lt 7, 3) := by decide +kernel
theorem dX8_readHang_66 : decode cX8_readHang 66 = .ok (.iconst 1, 1) := by decide +kernel
theorem dX8_readHang_67 : decode cX8_readHang 67 = .ok (.goto 4, 3) := by decide +kernel
theorem dX8_readHang_70 : decode cX8_readHang 70 = .ok (.iconst 0, 1) := by decide +kernel
theorem dX8_readHang_71 : decode cX8_readHang 71 = .ok (.ireturn, 1) := by decide +kernel
theorem dX8_readHang_72 : decode cX8_readHang 72 = .ok (.aload_n 0, 1) := by decide +kernel
theorem dX8_readHang_73 : decode cX8_readHang 73 = .ok (.iconst 0, 1) := by decide +kernel
theorem dX8_readHang_74 : decode cX8_readHang 74 = .ok (.iconst 3, 1) := by decide +kernel
theorem dX8_readHang_75 : decode cX8_readHang 75 = .ok (.invokevirtual 119, 3) := by decide +kernel
theorem dX8_readHang_78 : decode cX8_readHang 78 = .ok (.istore_n 1, 1) := by decide +kernel
theorem dX8_readHang_79 : decode cX8_readHang 79 = .ok (.iload_n 1, 1) := by decide +kernel
theorem dX8_readHang_80 : decode cX8_readHang 80 = .ok (.ifCond .ge 5, 3) := by decide +kernel
theorem dX8_readHang_83 : decode cX8_readHang 83 = .ok (.iconst 0, 1) := by decide +kernel
theorem dX8_readHang_84 : decode cX8_readHang 84 = .ok (.ireturn, 1) := by decide +kernel
theorem dX8_readHang_85 : decode cX8_readHang 85 = .ok (.aload_n 0, 1) := by decide +kernel
theorem dX8_readHang_86 : decode cX8_readHang 86 = .ok (.invokevirtual 123, 3) := by decide +kernel
theorem dX8_readHang_89 : decode cX8_readHang 89 = .ok (.istore_n 2, 1) := by decide +kernel
theorem dX8_readHang_90 : decode cX8_readHang 90 = .ok (.aload_n 0, 1) := by decide +kernel
theorem dX8_readHang_91 : decode cX8_readHang 91 = .ok (.bipush 10, 2) := by decide +kernel
theorem dX8_readHang_93 : decode cX8_readHang 93 = .ok (.iload_n 1, 1) := by decide +kernel
theorem dX8_readHang_94 : decode cX8_readHang 94 = .ok (.imul, 1) := by decide +kernel
theorem dX8_readHang_95 : decode cX8_readHang 95 = .ok (.iload_n 2, 1) := by decide +kernel
theorem dX8_readHang_96 : decode cX8_readHang 96 = .ok (.iadd, 1) := by decide +kernel
theorem dX8_readHang_97 : decode cX8_readHang 97 = .ok (.putfield 116, 3) := by decide +kernel
theorem dX8_readHang_100 : decode cX8_readHang 100 = .ok (.iload_n 2, 1) := by decide +kernel
theorem dX8_readHang_101 : decode cX8_readHang 101 = .ok (.ifCond .lt 7, 3) := by decide +kernel
theorem dX8_readHang_104 : decode cX8_readHang 104 = .ok (.iconst 1, 1) := by decide +kernel
theorem dX8_readHang_105 : decode cX8_readHang 105 = .ok (.goto 4, 3) := by decide +kernel
theorem dX8_readHang_108 : decode cX8_readHang 108 = .ok (.iconst 0, 1) := by decide +kernel
theorem dX8_readHang_109 : decode cX8_readHang 109 = .ok (.ireturn, 1) := by decide +kernel
theorem dX8_read_0 : decode cX8_read 0 = .ok (.aload_n 0, 1) := by decide +kernel
theorem dX8_read_1 : decode cX8_read 1 = .ok (.iconst 0, 1) := by decide +kernel
theorem dX8_read_2 : decode cX8_read 2 = .ok (.putfield 84, 3) := by decide +kernel
theorem dX8_read_5 : decode cX8_read 5 = .ok (.aload_n 0, 1) := by decide +kernel
theorem dX8_read_6 : decode cX8_read 6 = .ok (.invokevirtual 127, 3) := by decide +kernel
theorem dX8_read_9 : decode cX8_read 9 = .ok (.ifCond .ne 8, 3) := by decide +kernel
theorem dX8_read_12 : decode cX8_read 12 = .ok (.aload_n 0, 1) := by decide +kernel
theorem dX8_read_13 : decode cX8_read 13 = .ok (.getfield 84, 3) := by decide +kernel
theorem dX8_read_16 : decode cX8_read 16 = .ok (.ireturn, 1) := by decide +kernel
theorem dX8_read_17 : decode cX8_read 17 = .ok (.aload_n 0, 1) := by decide +kernel
theorem dX8_read_18 : decode cX8_read 18 = .ok (.getfield 84, 3) := by decide +kernel
theorem dX8_read_21 : decode cX8_read 21 = .ok (.aload_n 0, 1) := by decide +kernel
theorem dX8_read_22 : decode cX8_read 22 = .ok (.getfield 81, 3) := by decide +kernel
theorem dX8_read_25 : decode cX8_read 25 = .ok (.if_icmp .ne 6, 3) := by decide +kernel
theorem dX8_read_28 : decode cX8_read 28 = .ok (.bipush (-9), 2) := by decide +kernel
theorem dX8_read_30 : decode cX8_read 30 = .ok (.ireturn, 1) := by decide +kernel
theorem dX8_read_31 : decode cX8_read 31 = .ok (.aload_n 0, 1) := by decide +kernel
theorem dX8_read_32 : decode cX8_read 32 = .ok (.invokevirtual 131, 3) := by decide +kernel
theorem dX8_read_35 : decode cX8_read 35 = .ok (.ifCond .ne 8, 3) := by decide +kernel
theorem dX8_read_38 : decode cX8_read 38 = .ok (.aload_n 0, 1) := by decide +kernel
theorem dX8_read_39 : decode cX8_read 39 = .ok (.getfield 84, 3) := by decide +kernel
theorem dX8_read_42 : decode cX8_read 42 = .ok (.ireturn, 1) := by decide +kernel
theorem dX8_read_43 : decode cX8_read 43 = .ok (.aload_n 0, 1) := by decide +kernel
theorem dX8_read_44 : decode cX8_read 44 = .ok (.getfield 84, 3) := by decide +kernel
theorem dX8_read_47 : decode cX8_read 47 = .ok (.aload_n 0, 1) := by decide +kernel
theorem dX8_read_48 : decode cX8_read 48 = .ok (.getfield 81, 3) := by decide +kernel
theorem dX8_read_51 : decode cX8_read 51 = .ok (.if_icmp .ne 8, 3) := by decide +kernel
theorem dX8_read_54 : decode cX8_read 54 = .ok (.bipush (-9), 2) := by decide +kernel
theorem dX8_read_56 : decode cX8_read 56 = .ok (.goto 7, 3) := by decide +kernel
theorem dX8_read_59 : decode cX8_read 59 = .ok (.aload_n 0, 1) := by decide +kernel
theorem dX8_read_60 : decode cX8_read 60 = .ok (.getfield 84, 3) := by decide +kernel
theorem dX8_read_63 : decode cX8_read 63 = .ok (.ireturn, 1) := by decide +kernel
theorem dX8_fault_0 : decode cX8_fault 0 = .ok (.aload_n 0, 1) := by decide +kernel
theorem dX8_fault_1 : decode cX8_fault 1 = .ok (.iconst 0, 1) := by decide +kernel
theorem dX8_fault_2 : decode cX8_fault 2 = .ok (.putfield 60, 3) := by decide +kernel
theorem dX8_fault_5 : decode cX8_fault 5 = .ok (.aload_n 0, 1) := by decide +kernel
theorem dX8_fault_6 : decode cX8_fault 6 = .ok (.invokevirtual 134, 3) := by decide +kernel
theorem dX8_fault_9 : decode cX8_fault 9 = .ok (.ireturn, 1) := by decide +kernel
theorem dX8_form_0 : decode cX8_form 0 = .ok (.aload_n 0, 1) := by decide +kernel
theorem dX8_form_1 : decode cX8_form 1 = .ok (.iconst 0, 1) := by decide +kernel
theorem dX8_form_2 : decode cX8_form 2 = .ok (.putfield 60, 3) := by decide +kernel
theorem dX8_form_5 : decode cX8_form 5 = .ok (.iload_n 1, 1) := by decide +kernel
theorem dX8_form_6 : decode cX8_form 6 = .ok (.invokestatic 137, 3) := by decide +kernel
theorem dX8_form_9 : decode cX8_form 9 = .ok (.ifCond .eq 5, 3) := by decide +kernel
theorem dX8_form_12 : decode cX8_form 12 = .ok (.iconst (-1), 1) := by decide +kernel
theorem dX8_form_13 : decode cX8_form 13 = .ok (.ireturn, 1) := by decide +kernel
theorem dX8_form_14 : decode cX8_form 14 = .ok (.aload_n 0, 1) := by decide +kernel
theorem dX8_form_15 : decode cX8_form 15 = .ok (.invokevirtual 134, 3) := by decide +kernel
theorem dX8_form_18 : decode cX8_form 18 = .ok (.bipush (-9), 2) := by decide +kernel
theorem dX8_form_20 : decode cX8_form 20 = .ok (.if_icmp .eq 6, 3) := by decide +kernel
theorem dX8_form_23 : decode cX8_form 23 = .ok (.bipush (-3), 2) := by decide +kernel
theorem dX8_form_25 : decode cX8_form 25 = .ok (.ireturn, 1) := by decide +kernel
theorem dX8_form_26 : decode cX8_form 26 = .ok (.aload_n 0, 1) := by decide +kernel
theorem dX8_form_27 : decode cX8_form 27 = .ok (.getfield 16, 3) := by decide +kernel
theorem dX8_form_30 : decode cX8_form 30 = .ok (.iload_n 1, 1) := by decide +kernel
theorem dX8_form_31 : decode cX8_form 31 = .ok (.iaload, 1) := by decide +kernel
theorem dX8_form_32 : decode cX8_form 32 = .ok (.iconst 3, 1) := by decide +kernel
theorem dX8_form_33 : decode cX8_form 33 = .ok (.if_icmp .ne 6, 3) := by decide +kernel
theorem dX8_form_36 : decode cX8_form 36 = .ok (.bipush (-4), 2) := by decide +kernel
theorem dX8_form_38 : decode cX8_form 38 = .ok (.ireturn, 1) := by decide +kernel
theorem dX8_form_39 : decode cX8_form 39 = .ok (.bipush 18, 2) := by decide +kernel
theorem dX8_form_41 : decode cX8_form 41 = .ok (.iload_n 1, 1) := by decide +kernel
theorem dX8_form_42 : decode cX8_form 42 = .ok (.imul, 1) := by decide +kernel
theorem dX8_form_43 : decode cX8_form 43 = .ok (.bipush 6, 2) := by decide +kernel
theorem dX8_form_45 : decode cX8_form 45 = .ok (.aload_n 0, 1) := by decide +kernel
theorem dX8_form_46 : decode cX8_form 46 = .ok (.getfield 16, 3) := by decide +kernel
theorem dX8_form_49 : decode cX8_form 49 = .ok (.iload_n 1, 1) := by decide +kernel
theorem dX8_form_50 : decode cX8_form 50 = .ok (.iaload, 1) := by decide +kernel
theorem dX8_form_51 : decode cX8_form 51 = .ok (.imul, 1) := by decide +kernel
theorem dX8_form_52 : decode cX8_form 52 = .ok (.iadd, 1) := by decide +kernel
theorem dX8_form_53 : decode cX8_form 53 = .ok (.istore_n 2, 1) := by decide +kernel
theorem dX8_form_54 : decode cX8_form 54 = .ok (.aload_n 0, 1) := by decide +kernel
theorem dX8_form_55 : decode cX8_form 55 = .ok (.getfield 13, 3) := by decide +kernel
theorem dX8_form_58 : decode cX8_form 58 = .ok (.iload_n 2, 1) := by decide +kernel
theorem dX8_form_59 : decode cX8_form 59 = .ok (.aload_n 0, 1) := by decide +kernel
theorem dX8_form_60 : decode cX8_form 60 = .ok (.getfield 101, 3) := by decide +kernel
theorem dX8_form_63 : decode cX8_form 63 = .ok (.iastore, 1) := by decide +kernel
theorem dX8_form_64 : decode cX8_form 64 = .ok (.aload_n 0, 1) := by decide +kernel
theorem dX8_form_65 : decode cX8_form 65 = .ok (.getfield 13, 3) := by decide +kernel
theorem dX8_form_68 : decode cX8_form 68 = .ok (.iload_n 2, 1) := by decide +kernel
theorem dX8_form_69 : decode cX8_form 69 = .ok (.iconst 1, 1) := by decide +kernel
theorem dX8_form_70 : decode cX8_form 70 = .ok (.iadd, 1) := by decide +kernel
theorem dX8_form_71 : decode cX8_form 71 = .ok (.aload_n 0, 1) := by decide +kernel
theorem dX8_form_72 : decode cX8_form 72 = .ok (.getfield 104, 3) := by decide +kernel
theorem dX8_form_75 : decode cX8_form 75 = .ok (.iastore, 1) := by decide +kernel
theorem dX8_form_76 : decode cX8_form 76 = .ok (.aload_n 0, 1) := by decide +kernel
theorem dX8_form_77 : decode cX8_form 77 = .ok (.getfield 13, 3) := by decide +kernel
theorem dX8_form_80 : decode cX8_form 80 = .ok (.iload_n 2, 1) := by decide +kernel
theorem dX8_form_81 : decode cX8_form 81 = .ok (.iconst 2, 1) := by decide +kernel
theorem dX8_form_82 : decode cX8_form 82 = .ok (.iadd, 1) := by decide +kernel
theorem dX8_form_83 : decode cX8_form 83 = .ok (.aload_n 0, 1) := by decide +kernel
theorem dX8_form_84 : decode cX8_form 84 = .ok (.getfield 107, 3) := by decide +kernel
theorem dX8_form_87 : decode cX8_form 87 = .ok (.iastore, 1) := by decide +kernel
theorem dX8_form_88 : decode cX8_form 88 = .ok (.aload_n 0, 1) := by decide +kernel
theorem dX8_form_89 : decode cX8_form 89 = .ok (.getfield 13, 3) := by decide +kernel
theorem dX8_form_92 : decode cX8_form 92 = .ok (.iload_n 2, 1) := by decide +kernel
theorem dX8_form_93 : decode cX8_form 93 = .ok (.iconst 3, 1) := by decide +kernel
theorem dX8_form_94 : decode cX8_form 94 = .ok (.iadd, 1) := by decide +kernel
theorem dX8_form_95 : decode cX8_form 95 = .ok (.aload_n 0, 1) := by decide +kernel
theorem dX8_form_96 : decode cX8_form 96 = .ok (.getfield 110, 3) := by decide +kernel
theorem dX8_form_99 : decode cX8_form 99 = .ok (.iastore, 1) := by decide +kernel
theorem dX8_form_100 : decode cX8_form 100 = .ok (.aload_n 0, 1) := by decide +kernel
theorem dX8_form_101 : decode cX8_form 101 = .ok (.getfield 13, 3) := by decide +kernel
theorem dX8_form_104 : decode cX8_form 104 = .ok (.iload_n 2, 1) := by decide +kernel
theorem dX8_form_105 : decode cX8_form 105 = .ok (.iconst 4, 1) := by decide +kernel
theorem dX8_form_106 : decode cX8_form 106 = .ok (.iadd, 1) := by decide +kernel
theorem dX8_form_107 : decode cX8_form 107 = .ok (.aload_n 0, 1) := by decide +kernel
theorem dX8_form_108 : decode cX8_form 108 = .ok (.getfield 113, 3) := by decide +kernel
theorem dX8_form_111 : decode cX8_form 111 = .ok (.iastore, 1) := by decide +kernel
theorem dX8_form_112 : decode cX8_form 112 = .ok (.aload_n 0, 1) := by decide +kernel
theorem dX8_form_113 : decode cX8_form 113 = .ok (.getfield 13, 3) := by decide +kernel
theorem dX8_form_116 : decode cX8_form 116 = .ok (.iload_n 2, 1) := by decide +kernel
theorem dX8_form_117 : decode cX8_form 117 = .ok (.iconst 5, 1) := by decide +kernel
theorem dX8_form_118 : decode cX8_form 118 = .ok (.iadd, 1) := by decide +kernel
theorem dX8_form_119 : decode cX8_form 119 = .ok (.aload_n 0, 1) := by decide +kernel
theorem dX8_form_120 : decode cX8_form 120 = .ok (.getfield 116, 3) := by decide +kernel
theorem dX8_form_123 : decode cX8_form 123 = .ok (.iastore, 1) := by decide +kernel
theorem dX8_form_124 : decode cX8_form 124 = .ok (.aload_n 0, 1) := by decide +kernel
theorem dX8_form_125 : decode cX8_form 125 = .ok (.getfield 16, 3) := by decide +kernel
theorem dX8_form_128 : decode cX8_form 128 = .ok (.iload_n 1, 1) := by decide +kernel
theorem dX8_form_129 : decode cX8_form 129 = .ok (.dup2, 1) := by decide +kernel
theorem dX8_form_130 : decode cX8_form 130 = .ok (.iaload, 1) := by decide +kernel
theorem dX8_form_131 : decode cX8_form 131 = .ok (.iconst 1, 1) := by decide +kernel
theorem dX8_form_132 : decode cX8_form 132 = .ok (.iadd, 1) := by decide +kernel
theorem dX8_form_133 : decode cX8_form 133 = .ok (.iastore, 1) := by decide +kernel
theorem dX8_form_134 : decode cX8_form 134 = .ok (.aload_n 0, 1) := by decide +kernel
theorem dX8_form_135 : decode cX8_form 135 = .ok (.getfield 16, 3) := by decide +kernel
theorem dX8_form_138 : decode cX8_form 138 = .ok (.iload_n 1, 1) := by decide +kernel
theorem dX8_form_139 : decode cX8_form 139 = .ok (.iaload, 1) := by decide +kernel
theorem dX8_form_140 : decode cX8_form 140 = .ok (.ireturn, 1) := by decide +kernel
theorem dX8_formOf_0 : decode cX8_formOf 0 = .ok (.iload_n 0, 1) := by decide +kernel
theorem dX8_formOf_1 : decode cX8_formOf 1 = .ok (.iconst 4, 1) := by decide +kernel
theorem dX8_formOf_2 : decode cX8_formOf 2 = .ok (.iconst 2, 1) := by decide +kernel
theorem dX8_formOf_3 : decode cX8_formOf 3 = .ok (.iload_n 1, 1) := by decide +kernel
theorem dX8_formOf_4 : decode cX8_formOf 4 = .ok (.imul, 1) := by decide +kernel
theorem dX8_formOf_5 : decode cX8_formOf 5 = .ok (.iadd, 1) := by decide +kernel
theorem dX8_formOf_6 : decode cX8_formOf 6 = .ok (.ishr, 1) := by decide +kernel
theorem dX8_formOf_7 : decode cX8_formOf 7 = .ok (.iconst 3, 1) := by decide +kernel
theorem dX8_formOf_8 : decode cX8_formOf 8 = .ok (.iand, 1) := by decide +kernel
theorem dX8_formOf_9 : decode cX8_formOf 9 = .ok (.ireturn, 1) := by decide +kernel
theorem dX8_put_0 : decode cX8_put 0 = .ok (.iload_n 0, 1) := by decide +kernel
theorem dX8_put_1 : decode cX8_put 1 = .ok (.iconst 3, 1) := by decide +kernel
theorem dX8_put_2 : decode cX8_put 2 = .ok (.iconst 4, 1) := by decide +kernel
theorem dX8_put_3 : decode cX8_put 3 = .ok (.iconst 2, 1) := by decide +kernel
theorem dX8_put_4 : decode cX8_put 4 = .ok (.iload_n 1, 1) := by decide +kernel
theorem dX8_put_5 : decode cX8_put 5 = .ok (.imul, 1) := by decide +kernel
theorem dX8_put_6 : decode cX8_put 6 = .ok (.iadd, 1) := by decide +kernel
theorem dX8_put_7 : decode cX8_put 7 = .ok (.ishl, 1) := by decide +kernel
theorem dX8_put_8 : decode cX8_put 8 = .ok (.iconst (-1), 1) := by decide +kernel
theorem dX8_put_9 : decode cX8_put 9 = .ok (.ixor, 1) := by decide +kernel
theorem dX8_put_10 : decode cX8_put 10 = .ok (.iand, 1) := by decide +kernel
theorem dX8_put_11 : decode cX8_put 11 = .ok (.iload_n 2, 1) := by decide +kernel
theorem dX8_put_12 : decode cX8_put 12 = .ok (.iconst 4, 1) := by decide +kernel
theorem dX8_put_13 : decode cX8_put 13 = .ok (.iconst 2, 1) := by decide +kernel
theorem dX8_put_14 : decode cX8_put 14 = .ok (.iload_n 1, 1) := by decide +kernel
theorem dX8_put_15 : decode cX8_put 15 = .ok (.imul, 1) := by decide +kernel
theorem dX8_put_16 : decode cX8_put 16 = .ok (.iadd, 1) := by decide +kernel
theorem dX8_put_17 : decode cX8_put 17 = .ok (.ishl, 1) := by decide +kernel
theorem dX8_put_18 : decode cX8_put 18 = .ok (.ior, 1) := by decide +kernel
theorem dX8_put_19 : decode cX8_put 19 = .ok (.ireturn, 1) := by decide +kernel
theorem dX8_turned_0 : decode cX8_turned 0 = .ok (.iload_n 0, 1) := by decide +kernel
theorem dX8_turned_1 : decode cX8_turned 1 = .ok (.iconst 1, 1) := by decide +kernel
theorem dX8_turned_2 : decode cX8_turned 2 = .ok (.iload_n 1, 1) := by decide +kernel
theorem dX8_turned_3 : decode cX8_turned 3 = .ok (.ishl, 1) := by decide +kernel
theorem dX8_turned_4 : decode cX8_turned 4 = .ok (.iconst (-1), 1) := by decide +kernel
theorem dX8_turned_5 : decode cX8_turned 5 = .ok (.ixor, 1) := by decide +kernel
theorem dX8_turned_6 : decode cX8_turned 6 = .ok (.iand, 1) := by decide +kernel
theorem dX8_turned_7 : decode cX8_turned 7 = .ok (.iload_n 2, 1) := by decide +kernel
theorem dX8_turned_8 : decode cX8_turned 8 = .ok (.iload_n 1, 1) := by decide +kernel
theorem dX8_turned_9 : decode cX8_turned 9 = .ok (.ishl, 1) := by decide +kernel
theorem dX8_turned_10 : decode cX8_turned 10 = .ok (.ior, 1) := by decide +kernel
theorem dX8_turned_11 : decode cX8_turned 11 = .ok (.ireturn, 1) := by decide +kernel
theorem dX8_unform_0 : decode cX8_unform 0 = .ok (.aload_n 0, 1) := by decide +kernel
theorem dX8_unform_1 : decode cX8_unform 1 = .ok (.iconst 0, 1) := by decide +kernel
theorem dX8_unform_2 : decode cX8_unform 2 = .ok (.putfield 60, 3) := by decide +kernel
theorem dX8_unform_5 : decode cX8_unform 5 = .ok (.iload_n 1, 1) := by decide +kernel
theorem dX8_unform_6 : decode cX8_unform 6 = .ok (.invokestatic 137, 3) := by decide +kernel
theorem dX8_unform_9 : decode cX8_unform 9 = .ok (.ifCond .eq 5, 3) := by decide +kernel
theorem dX8_unform_12 : decode cX8_unform 12 = .ok (.iconst (-1), 1) := by decide +kernel
theorem dX8_unform_13 : decode cX8_unform 13 = .ok (.ireturn, 1) := by decide +kernel
theorem dX8_unform_14 : decode cX8_unform 14 = .ok (.aload_n 0, 1) := by decide +kernel
theorem dX8_unform_15 : decode cX8_unform 15 = .ok (.getfield 16, 3) := by decide +kernel
theorem dX8_unform_18 : decode cX8_unform 18 = .ok (.iload_n 1, 1) := by decide +kernel
theorem dX8_unform_19 : decode cX8_unform 19 = .ok (.iaload, 1) := by decide +kernel
theorem dX8_unform_20 : decode cX8_unform 20 = .ok (.istore_n 2, 1) := by decide +kernel
theorem dX8_unform_21 : decode cX8_unform 21 = .ok (.aload_n 0, 1) := by decide +kernel
theorem dX8_unform_22 : decode cX8_unform 22 = .ok (.getfield 16, 3) := by decide +kernel
theorem dX8_unform_25 : decode cX8_unform 25 = .ok (.iload_n 1, 1) := by decide +kernel
theorem dX8_unform_26 : decode cX8_unform 26 = .ok (.iconst 0, 1) := by decide +kernel
theorem dX8_unform_27 : decode cX8_unform 27 = .ok (.iastore, 1) := by decide +kernel
theorem dX8_unform_28 : decode cX8_unform 28 = .ok (.aload_n 0, 1) := by decide +kernel
theorem dX8_unform_29 : decode cX8_unform 29 = .ok (.aload_n 0, 1) := by decide +kernel
theorem dX8_unform_30 : decode cX8_unform 30 = .ok (.getfield 140, 3) := by decide +kernel
theorem dX8_unform_33 : decode cX8_unform 33 = .ok (.iload_n 1, 1) := by decide +kernel
theorem dX8_unform_34 : decode cX8_unform 34 = .ok (.iconst 0, 1) := by decide +kernel
theorem dX8_unform_35 : decode cX8_unform 35 = .ok (.invokestatic 143, 3) := by decide +kernel
theorem dX8_unform_38 : decode cX8_unform 38 = .ok (.putfield 140, 3) := by decide +kernel
theorem dX8_unform_41 : decode cX8_unform 41 = .ok (.iload_n 2, 1) := by decide +kernel
theorem dX8_unform_42 : decode cX8_unform 42 = .ok (.ireturn, 1) := by decide +kernel
theorem dX8_about_0 : decode cX8_about 0 = .ok (.aload_n 0, 1) := by decide +kernel
theorem dX8_about_1 : decode cX8_about 1 = .ok (.iconst 0, 1) := by decide +kernel
theorem dX8_about_2 : decode cX8_about 2 = .ok (.putfield 60, 3) := by decide +kernel
theorem dX8_about_5 : decode cX8_about 5 = .ok (.iload_n 1, 1) := by decide +kernel
theorem dX8_about_6 : decode cX8_about 6 = .ok (.invokestatic 137, 3) := by decide +kernel
theorem dX8_about_9 : decode cX8_about 9 = .ok (.ifCond .ne 19, 3) := by decide +kernel
theorem dX8_about_12 : decode cX8_about 12 = .ok (.iload_n 2, 1) := by decide +kernel
theorem dX8_about_13 : decode cX8_about 13 = .ok (.i2l, 1) := by decide +kernel
theorem dX8_about_14 : decode cX8_about 14 = .ok (.lconst 1, 1) := by decide +kernel
theorem dX8_about_15 : decode cX8_about 15 = .ok (.aload_n 0, 1) := by decide +kernel
theorem dX8_about_16 : decode cX8_about 16 = .ok (.getfield 16, 3) := by decide +kernel
theorem dX8_about_19 : decode cX8_about 19 = .ok (.iload_n 1, 1) := by decide +kernel
theorem dX8_about_20 : decode cX8_about 20 = .ok (.iaload, 1) := by decide +kernel
theorem dX8_about_21 : decode cX8_about 21 = .ok (.i2l, 1) := by decide +kernel
theorem dX8_about_22 : decode cX8_about 22 = .ok (.invokestatic 65, 3) := by decide +kernel
theorem dX8_about_25 : decode cX8_about 25 = .ok (.ifCond .ne 5, 3) := by decide +kernel
theorem dX8_about_28 : decode cX8_about 28 = .ok (.iconst (-1), 1) := by decide +kernel
theorem dX8_about_29 : decode cX8_about 29 = .ok (.ireturn, 1) := by decide +kernel
theorem dX8_about_30 : decode cX8_about 30 = .ok (.iload_n 3, 1) := by decide +kernel
theorem dX8_about_31 : decode cX8_about 31 = .ok (.i2l, 1) := by decide +kernel
theorem dX8_about_32 : decode cX8_about 32 = .ok (.lconst 0, 1) := by decide +kernel
theorem dX8_about_33 : decode cX8_about 33 = .ok (.ldc2_w 147, 3) := by decide +kernel
theorem dX8_about_36 : decode cX8_about 36 = .ok (.invokestatic 65, 3) := by decide +kernel
theorem dX8_about_39 : decode cX8_about 39 = .ok (.ifCond .eq 24, 3) := by decide +kernel
theorem dX8_about_42 : decode cX8_about 42 = .ok (.aload_n 0, 1) := by decide +kernel
theorem dX8_about_43 : decode cX8_about 43 = .ok (.getfield 13, 3) := by decide +kernel
theorem dX8_about_46 : decode cX8_about 46 = .ok (.bipush 18, 2) := by decide +kernel
theorem dX8_about_48 : decode cX8_about 48 = .ok (.iload_n 1, 1) := by decide +kernel
theorem dX8_about_49 : decode cX8_about 49 = .ok (.imul, 1) := by decide +kernel
theorem dX8_about_50 : decode cX8_about 50 = .ok (.bipush 6, 2) := by decide +kernel
theorem dX8_about_52 : decode cX8_about 52 = .ok (.iload_n 2, 1) := by decide +kernel
theorem dX8_about_53 : decode cX8_about 53 = .ok (.iconst 1, 1) := by decide +kernel
theorem dX8_about_54 : decode cX8_about 54 = .ok (.isub, 1) := by decide +kernel
theorem dX8_about_55 : decode cX8_about 55 = .ok (.imul, 1) := by decide +kernel
theorem dX8_about_56 : decode cX8_about 56 = .ok (.iadd, 1) := by decide +kernel
theorem dX8_about_57 : decode cX8_about 57 = .ok (.iload_n 3, 1) := by decide +kernel
theorem dX8_about_58 : decode cX8_about 58 = .ok (.iadd, 1) := by decide +kernel
theorem dX8_about_59 : decode cX8_about 59 = .ok (.iaload, 1) := by decide +kernel
theorem dX8_about_60 : decode cX8_about 60 = .ok (.goto 5, 3) := by decide +kernel
theorem dX8_about_63 : decode cX8_about 63 = .ok (.bipush (-2), 2) := by decide +kernel
theorem dX8_about_65 : decode cX8_about 65 = .ok (.ireturn, 1) := by decide +kernel
theorem dX8_seats_0 : decode cX8_seats 0 = .ok (.aload_n 0, 1) := by decide +kernel
theorem dX8_seats_1 : decode cX8_seats 1 = .ok (.iconst 0, 1) := by decide +kernel
theorem dX8_seats_2 : decode cX8_seats 2 = .ok (.putfield 60, 3) := by decide +kernel
theorem dX8_seats_5 : decode cX8_seats 5 = .ok (.iload_n 1, 1) := by decide +kernel
theorem dX8_seats_6 : decode cX8_seats 6 = .ok (.i2l, 1) := by decide +kernel
theorem dX8_seats_7 : decode cX8_seats 7 = .ok (.lconst 0, 1) := by decide +kernel
theorem dX8_seats_8 : decode cX8_seats 8 = .ok (.ldc2_w 149, 3) := by decide +kernel
theorem dX8_seats_11 : decode cX8_seats 11 = .ok (.invokestatic 65, 3) := by decide +kernel
theorem dX8_seats_14 : decode cX8_seats 14 = .ok (.ifCond .eq 15, 3) := by decide +kernel
theorem dX8_seats_17 : decode cX8_seats 17 = .ok (.iload_n 2, 1) := by decide +kernel
theorem dX8_seats_18 : decode cX8_seats 18 = .ok (.i2l, 1) := by decide +kernel
theorem dX8_seats_19 : decode cX8_seats 19 = .ok (.lconst 0, 1) := by decide +kernel
theorem dX8_seats_20 : decode cX8_seats 20 = .ok (.ldc2_w 151, 3) := by decide +kernel
theorem dX8_seats_23 : decode cX8_seats 23 = .ok (.invokestatic 65, 3) := by decide +kernel
theorem dX8_seats_26 : decode cX8_seats 26 = .ok (.ifCond .ne 5, 3) := by decide +kernel
theorem dX8_seats_29 : decode cX8_seats 29 = .ok (.iconst (-1), 1) := by decide +kernel
theorem dX8_seats_30 : decode cX8_seats 30 = .ok (.ireturn, 1) := by decide +kernel
theorem dX8_seats_31 : decode cX8_seats 31 = .ok (.iload_n 3, 1) := by decide +kernel
theorem dX8_seats_32 : decode cX8_seats 32 = .ok (.i2l, 1) := by decide +kernel
theorem dX8_seats_33 : decode cX8_seats 33 = .ok (.lconst 0, 1) := by decide +kernel
theorem dX8_seats_34 : decode cX8_seats 34 = .ok (.ldc2_w 153, 3) := by decide +kernel
theorem dX8_seats_37 : decode cX8_seats 37 = .ok (.invokestatic 65, 3) := by decide +kernel
theorem dX8_seats_40 : decode cX8_seats 40 = .ok (.ifCond .ne 6, 3) := by decide +kernel
theorem dX8_seats_43 : decode cX8_seats 43 = .ok (.bipush (-2), 2) := by decide +kernel
theorem dX8_seats_45 : decode cX8_seats 45 = .ok (.ireturn, 1) := by decide +kernel
theorem dX8_seats_46 : decode cX8_seats 46 = .ok (.aload_n 0, 1) := by decide +kernel
theorem dX8_seats_47 : decode cX8_seats 47 = .ok (.getfield 19, 3) := by decide +kernel
theorem dX8_seats_50 : decode cX8_seats 50 = .ok (.iconst 4, 1) := by decide +kernel
theorem dX8_seats_51 : decode cX8_seats 51 = .ok (.iload_n 1, 1) := by decide +kernel
theorem dX8_seats_52 : decode cX8_seats 52 = .ok (.imul, 1) := by decide +kernel
theorem dX8_seats_53 : decode cX8_seats 53 = .ok (.iload_n 2, 1) := by decide +kernel
theorem dX8_seats_54 : decode cX8_seats 54 = .ok (.iadd, 1) := by decide +kernel
theorem dX8_seats_55 : decode cX8_seats 55 = .ok (.iaload, 1) := by decide +kernel
theorem dX8_seats_56 : decode cX8_seats 56 = .ok (.istore 4, 2) := by decide +kernel
theorem dX8_seats_58 : decode cX8_seats 58 = .ok (.aload_n 0, 1) := by decide +kernel
theorem dX8_seats_59 : decode cX8_seats 59 = .ok (.getfield 19, 3) := by decide +kernel
theorem dX8_seats_62 : decode cX8_seats 62 = .ok (.iconst 4, 1) := by decide +kernel
theorem dX8_seats_63 : decode cX8_seats 63 = .ok (.iload_n 1, 1) := by decide +kernel
theorem dX8_seats_64 : decode cX8_seats 64 = .ok (.imul, 1) := by decide +kernel
theorem dX8_seats_65 : decode cX8_seats 65 = .ok (.iload_n 2, 1) := by decide +kernel
theorem dX8_seats_66 : decode cX8_seats 66 = .ok (.iadd, 1) := by decide +kernel
theorem dX8_seats_67 : decode cX8_seats 67 = .ok (.iload_n 3, 1) := by decide +kernel
theorem dX8_seats_68 : decode cX8_seats 68 = .ok (.iastore, 1) := by decide +kernel
theorem dX8_seats_69 : decode cX8_seats 69 = .ok (.iload 4, 2) := by decide +kernel
theorem dX8_seats_71 : decode cX8_seats 71 = .ok (.ireturn, 1) := by decide +kernel
theorem dX8_stand_0 : decode cX8_stand 0 = .ok (.aload_n 0, 1) := by decide +kernel
theorem dX8_stand_1 : decode cX8_stand 1 = .ok (.iconst 0, 1) := by decide +kernel
theorem dX8_stand_2 : decode cX8_stand 2 = .ok (.putfield 60, 3) := by decide +kernel
theorem dX8_stand_5 : decode cX8_stand 5 = .ok (.iload_n 1, 1) := by decide +kernel
theorem dX8_stand_6 : decode cX8_stand 6 = .ok (.invokestatic 137, 3) := by decide +kernel
theorem dX8_stand_9 : decode cX8_stand 9 = .ok (.ifCond .eq 5, 3) := by decide +kernel
theorem dX8_stand_12 : decode cX8_stand 12 = .ok (.iconst (-1), 1) := by decide +kernel
theorem dX8_stand_13 : decode cX8_stand 13 = .ok (.ireturn, 1) := by decide +kernel
theorem dX8_stand_14 : decode cX8_stand 14 = .ok (.iload_n 2, 1) := by decide +kernel
theorem dX8_stand_15 : decode cX8_stand 15 = .ok (.i2l, 1) := by decide +kernel
theorem dX8_stand_16 : decode cX8_stand 16 = .ok (.lconst 0, 1) := by decide +kernel
theorem dX8_stand_17 : decode cX8_stand 17 = .ok (.aload_n 0, 1) := by decide +kernel
theorem dX8_stand_18 : decode cX8_stand 18 = .ok (.getfield 16, 3) := by decide +kernel
theorem dX8_stand_21 : decode cX8_stand 21 = .ok (.iload_n 1, 1) := by decide +kernel
theorem dX8_stand_22 : decode cX8_stand 22 = .ok (.iaload, 1) := by decide +kernel
theorem dX8_stand_23 : decode cX8_stand 23 = .ok (.i2l, 1) := by decide +kernel
theorem dX8_stand_24 : decode cX8_stand 24 = .ok (.invokestatic 65, 3) := by decide +kernel
theorem dX8_stand_27 : decode cX8_stand 27 = .ok (.ifCond .ne 6, 3) := by decide +kernel
theorem dX8_stand_30 : decode cX8_stand 30 = .ok (.bipush (-2), 2) := by decide +kernel
theorem dX8_stand_32 : decode cX8_stand 32 = .ok (.ireturn, 1) := by decide +kernel
theorem dX8_stand_33 : decode cX8_stand 33 = .ok (.aload_n 0, 1) := by decide +kernel
theorem dX8_stand_34 : decode cX8_stand 34 = .ok (.getfield 140, 3) := by decide +kernel
theorem dX8_stand_37 : decode cX8_stand 37 = .ok (.iload_n 1, 1) := by decide +kernel
theorem dX8_stand_38 : decode cX8_stand 38 = .ok (.invokestatic 155, 3) := by decide +kernel
theorem dX8_stand_41 : decode cX8_stand 41 = .ok (.istore_n 3, 1) := by decide +kernel
theorem dX8_stand_42 : decode cX8_stand 42 = .ok (.aload_n 0, 1) := by decide +kernel
theorem dX8_stand_43 : decode cX8_stand 43 = .ok (.aload_n 0, 1) := by decide +kernel
theorem dX8_stand_44 : decode cX8_stand 44 = .ok (.getfield 140, 3) := by decide +kernel
theorem dX8_stand_47 : decode cX8_stand 47 = .ok (.iload_n 1, 1) := by decide +kernel
theorem dX8_stand_48 : decode cX8_stand 48 = .ok (.iload_n 2, 1) := by decide +kernel
theorem dX8_stand_49 : decode cX8_stand 49 = .ok (.invokestatic 143, 3) := by decide +kernel
theorem dX8_stand_52 : decode cX8_stand 52 = .ok (.putfield 140, 3) := by decide +kernel
theorem dX8_stand_55 : decode cX8_stand 55 = .ok (.iload_n 3, 1) := by decide +kernel
theorem dX8_stand_56 : decode cX8_stand 56 = .ok (.ireturn, 1) := by decide +kernel
theorem dX8_thing_0 : decode cX8_thing 0 = .ok (.aload_n 0, 1) := by decide +kernel
theorem dX8_thing_1 : decode cX8_thing 1 = .ok (.iconst 0, 1) := by decide +kernel
theorem dX8_thing_2 : decode cX8_thing 2 = .ok (.putfield 60, 3) := by decide +kernel
theorem dX8_thing_5 : decode cX8_thing 5 = .ok (.iload_n 1, 1) := by decide +kernel
theorem dX8_thing_6 : decode cX8_thing 6 = .ok (.i2l, 1) := by decide +kernel
theorem dX8_thing_7 : decode cX8_thing 7 = .ok (.lconst 0, 1) := by decide +kernel
theorem dX8_thing_8 : decode cX8_thing 8 = .ok (.ldc2_w 151, 3) := by decide +kernel
theorem dX8_thing_11 : decode cX8_thing 11 = .ok (.invokestatic 65, 3) := by decide +kernel
theorem dX8_thing_14 : decode cX8_thing 14 = .ok (.ifCond .ne 5, 3) := by decide +kernel
theorem dX8_thing_17 : decode cX8_thing 17 = .ok (.iconst (-1), 1) := by decide +kernel
theorem dX8_thing_18 : decode cX8_thing 18 = .ok (.ireturn, 1) := by decide +kernel
theorem dX8_thing_19 : decode cX8_thing 19 = .ok (.aload_n 0, 1) := by decide +kernel
theorem dX8_thing_20 : decode cX8_thing 20 = .ok (.getfield 140, 3) := by decide +kernel
theorem dX8_thing_23 : decode cX8_thing 23 = .ok (.iload_n 1, 1) := by decide +kernel
theorem dX8_thing_24 : decode cX8_thing 24 = .ok (.ishr, 1) := by decide +kernel
theorem dX8_thing_25 : decode cX8_thing 25 = .ok (.iconst 1, 1) := by decide +kernel
theorem dX8_thing_26 : decode cX8_thing 26 = .ok (.iand, 1) := by decide +kernel
theorem dX8_thing_27 : decode cX8_thing 27 = .ok (.istore_n 3, 1) := by decide +kernel
theorem dX8_thing_28 : decode cX8_thing 28 = .ok (.aload_n 0, 1) := by decide +kernel
theorem dX8_thing_29 : decode cX8_thing 29 = .ok (.aload_n 0, 1) := by decide +kernel
theorem dX8_thing_30 : decode cX8_thing 30 = .ok (.getfield 140, 3) := by decide +kernel
theorem dX8_thing_33 : decode cX8_thing 33 = .ok (.iload_n 1, 1) := by decide +kernel
theorem dX8_thing_34 : decode cX8_thing 34 = .ok (.iload_n 2, 1) := by decide +kernel
theorem dX8_thing_35 : decode cX8_thing 35 = .ok (.ifCond .eq 7, 3) := by decide +kernel
theorem dX8_thing_38 : decode cX8_thing 38 = .ok (.iconst 1, 1) := by decide +kernel
theorem dX8_thing_39 : decode cX8_thing 39 = .ok (.goto 4, 3) := by decide +kernel
theorem dX8_thing_42 : decode cX8_thing 42 = .ok (.iconst 0, 1) := by decide +kernel
theorem dX8_thing_43 : decode cX8_thing 43 = .ok (.invokestatic 158, 3) := by decide +kernel
theorem dX8_thing_46 : decode cX8_thing 46 = .ok (.putfield 140, 3) := by decide +kernel
theorem dX8_thing_49 : decode cX8_thing 49 = .ok (.iload_n 3, 1) := by decide +kernel
theorem dX8_thing_50 : decode cX8_thing 50 = .ok (.ireturn, 1) := by decide +kernel
theorem dX8_at_0 : decode cX8_at 0 = .ok (.aload_n 0, 1) := by decide +kernel
theorem dX8_at_1 : decode cX8_at 1 = .ok (.iconst 0, 1) := by decide +kernel
theorem dX8_at_2 : decode cX8_at 2 = .ok (.putfield 60, 3) := by decide +kernel
theorem dX8_at_5 : decode cX8_at 5 = .ok (.iload_n 1, 1) := by decide +kernel
theorem dX8_at_6 : decode cX8_at 6 = .ok (.invokestatic 137, 3) := by decide +kernel
theorem dX8_at_9 : decode cX8_at 9 = .ok (.ifCond .eq 7, 3) := by decide +kernel
theorem dX8_at_12 : decode cX8_at 12 = .ok (.iconst (-1), 1) := by decide +kernel
theorem dX8_at_13 : decode cX8_at 13 = .ok (.goto 11, 3) := by decide +kernel
theorem dX8_at_16 : decode cX8_at 16 = .ok (.aload_n 0, 1) := by decide +kernel
theorem dX8_at_17 : decode cX8_at 17 = .ok (.getfield 140, 3) := by decide +kernel
theorem dX8_at_20 : decode cX8_at 20 = .ok (.iload_n 1, 1) := by decide +kernel
theorem dX8_at_21 : decode cX8_at 21 = .ok (.invokestatic 155, 3) := by decide +kernel
theorem dX8_at_24 : decode cX8_at 24 = .ok (.ireturn, 1) := by decide +kernel
theorem dX8_isSo_0 : decode cX8_isSo 0 = .ok (.iload_n 1, 1) := by decide +kernel
theorem dX8_isSo_1 : decode cX8_isSo 1 = .ok (.bipush 100, 2) := by decide +kernel
theorem dX8_isSo_3 : decode cX8_isSo 3 = .ok (.if_icmp .ge 26, 3) := by decide +kernel
theorem dX8_isSo_6 : decode cX8_isSo 6 = .ok (.iload_n 0, 1) := by decide +kernel
theorem dX8_isSo_7 : decode cX8_isSo 7 = .ok (.iload_n 1, 1) := by decide +kernel
theorem dX8_isSo_8 : decode cX8_isSo 8 = .ok (.bipush 10, 2) := by decide +kernel
theorem dX8_isSo_10 : decode cX8_isSo 10 = .ok (.idiv, 1) := by decide +kernel
theorem dX8_isSo_11 : decode cX8_isSo 11 = .ok (.ishr, 1) := by decide +kernel
theorem dX8_isSo_12 : decode cX8_isSo 12 = .ok (.iconst 1, 1) := by decide +kernel
theorem dX8_isSo_13 : decode cX8_isSo 13 = .ok (.iand, 1) := by decide +kernel
theorem dX8_isSo_14 : decode cX8_isSo 14 = .ok (.iload_n 1, 1) := by decide +kernel
theorem dX8_isSo_15 : decode cX8_isSo 15 = .ok (.bipush 10, 2) := by decide +kernel
theorem dX8_isSo_17 : decode cX8_isSo 17 = .ok (.irem, 1) := by decide +kernel
theorem dX8_isSo_18 : decode cX8_isSo 18 = .ok (.if_icmp .ne 7, 3) := by decide +kernel
theorem dX8_isSo_21 : decode cX8_isSo 21 = .ok (.iconst 1, 1) := by decide +kernel
theorem dX8_isSo_22 : decode cX8_isSo 22 = .ok (.goto 30, 3) := by decide +kernel
theorem dX8_isSo_25 : decode cX8_isSo 25 = .ok (.iconst 0, 1) := by decide +kernel
theorem dX8_isSo_26 : decode cX8_isSo 26 = .ok (.goto 26, 3) := by decide +kernel
theorem dX8_isSo_29 : decode cX8_isSo 29 = .ok (.iload_n 0, 1) := by decide +kernel
theorem dX8_isSo_30 : decode cX8_isSo 30 = .ok (.iload_n 1, 1) := by decide +kernel
theorem dX8_isSo_31 : decode cX8_isSo 31 = .ok (.bipush 100, 2) := by decide +kernel
theorem dX8_isSo_33 : decode cX8_isSo 33 = .ok (.isub, 1) := by decide +kernel
theorem dX8_isSo_34 : decode cX8_isSo 34 = .ok (.bipush 10, 2) := by decide +kernel
theorem dX8_isSo_36 : decode cX8_isSo 36 = .ok (.idiv, 1) := by decide +kernel
theorem dX8_isSo_37 : decode cX8_isSo 37 = .ok (.invokestatic 155, 3) := by decide +kernel
theorem dX8_isSo_40 : decode cX8_isSo 40 = .ok (.iload_n 1, 1) := by decide +kernel
theorem dX8_isSo_41 : decode cX8_isSo 41 = .ok (.bipush 10, 2) := by decide +kernel
theorem dX8_isSo_43 : decode cX8_isSo 43 = .ok (.irem, 1) := by decide +kernel
theorem dX8_isSo_44 : decode cX8_isSo 44 = .ok (.if_icmp .ne 7, 3) := by decide +kernel
theorem dX8_isSo_47 : decode cX8_isSo 47 = .ok (.iconst 1, 1) := by decide +kernel
theorem dX8_isSo_48 : decode cX8_isSo 48 = .ok (.goto 4, 3) := by decide +kernel
theorem dX8_isSo_51 : decode cX8_isSo 51 = .ok (.iconst 0, 1) := by decide +kernel
theorem dX8_isSo_52 : decode cX8_isSo 52 = .ok (.ireturn, 1) := by decide +kernel
theorem dX8_told_0 : decode cX8_told 0 = .ok (.aload_n 0, 1) := by decide +kernel
theorem dX8_told_1 : decode cX8_told 1 = .ok (.getfield 13, 3) := by decide +kernel
theorem dX8_told_4 : decode cX8_told 4 = .ok (.bipush 18, 2) := by decide +kernel
theorem dX8_told_6 : decode cX8_told 6 = .ok (.iload_n 2, 1) := by decide +kernel
theorem dX8_told_7 : decode cX8_told 7 = .ok (.imul, 1) := by decide +kernel
theorem dX8_told_8 : decode cX8_told 8 = .ok (.bipush 6, 2) := by decide +kernel
theorem dX8_told_10 : decode cX8_told 10 = .ok (.iload_n 1, 1) := by decide +kernel
theorem dX8_told_11 : decode cX8_told 11 = .ok (.iload_n 2, 1) := by decide +kernel
theorem dX8_told_12 : decode cX8_told 12 = .ok (.invokestatic 155, 3) := by decide +kernel
theorem dX8_told_15 : decode cX8_told 15 = .ok (.iconst 1, 1) := by decide +kernel
theorem dX8_told_16 : decode cX8_told 16 = .ok (.isub, 1) := by decide +kernel
theorem dX8_told_17 : decode cX8_told 17 = .ok (.imul, 1) := by decide +kernel
theorem dX8_told_18 : decode cX8_told 18 = .ok (.iadd, 1) := by decide +kernel
theorem dX8_told_19 : decode cX8_told 19 = .ok (.iload_n 3, 1) := by decide +kernel
theorem dX8_told_20 : decode cX8_told 20 = .ok (.iadd, 1) := by decide +kernel
theorem dX8_told_21 : decode cX8_told 21 = .ok (.iaload, 1) := by decide +kernel
theorem dX8_told_22 : decode cX8_told 22 = .ok (.ireturn, 1) := by decide +kernel
theorem dX8_isForce_0 : decode cX8_isForce 0 = .ok (.iload_n 1, 1) := by decide +kernel
theorem dX8_isForce_1 : decode cX8_isForce 1 = .ok (.iload_n 2, 1) := by decide +kernel
theorem dX8_isForce_2 : decode cX8_isForce 2 = .ok (.invokestatic 155, 3) := by decide +kernel
theorem dX8_isForce_5 : decode cX8_isForce 5 = .ok (.ifCond .ne 5, 3) := by decide +kernel
theorem dX8_isForce_8 : decode cX8_isForce 8 = .ok (.iconst 0, 1) := by decide +kernel
theorem dX8_isForce_9 : decode cX8_isForce 9 = .ok (.ireturn, 1) := by decide +kernel
theorem dX8_isForce_10 : decode cX8_isForce 10 = .ok (.aload_n 0, 1) := by decide +kernel
theorem dX8_isForce_11 : decode cX8_isForce 11 = .ok (.iload_n 1, 1) := by decide +kernel
theorem dX8_isForce_12 : decode cX8_isForce 12 = .ok (.iload_n 2, 1) := by decide +kernel
theorem dX8_isForce_13 : decode cX8_isForce 13 = .ok (.iconst 5, 1) := by decide +kernel
theorem dX8_isForce_14 : decode cX8_isForce 14 = .ok (.invokevirtual 161, 3) := by decide +kernel
theorem dX8_isForce_17 : decode cX8_isForce 17 = .ok (.istore_n 3, 1) := by decide +kernel
theorem dX8_isForce_18 : decode cX8_isForce 18 = .ok (.iload_n 3, 1) := by decide +kernel
theorem dX8_isForce_19 : decode cX8_isForce 19 = .ok (.bipush (-9), 2) := by decide +kernel
theorem dX8_isForce_21 : decode cX8_isForce 21 = .ok (.if_icmp .eq 11, 3) := by decide +kernel
theorem dX8_isForce_24 : decode cX8_isForce 24 = .ok (.iload_n 1, 1) := by decide +kernel
theorem dX8_isForce_25 : decode cX8_isForce 25 = .ok (.iload_n 3, 1) := by decide +kernel
theorem dX8_isForce_26 : decode cX8_isForce 26 = .ok (.invokestatic 164, 3) := by decide +kernel
theorem dX8_isForce_29 : decode cX8_isForce 29 = .ok (.ifCond .eq 7, 3) := by decide +kernel
theorem dX8_isForce_32 : decode cX8_isForce 32 = .ok (.iconst 1, 1) := by decide +kernel
theorem dX8_isForce_33 : decode cX8_isForce 33 = .ok (.goto 4, 3) := by decide +kernel
theorem dX8_isForce_36 : decode cX8_isForce 36 = .ok (.iconst 0, 1) := by decide +kernel
theorem dX8_isForce_37 : decode cX8_isForce 37 = .ok (.ireturn, 1) := by decide +kernel
theorem dX8_force_0 : decode cX8_force 0 = .ok (.aload_n 0, 1) := by decide +kernel
theorem dX8_force_1 : decode cX8_force 1 = .ok (.iconst 0, 1) := by decide +kernel
theorem dX8_force_2 : decode cX8_force 2 = .ok (.putfield 60, 3) := by decide +kernel
theorem dX8_force_5 : decode cX8_force 5 = .ok (.iload_n 1, 1) := by decide +kernel
theorem dX8_force_6 : decode cX8_force 6 = .ok (.invokestatic 137, 3) := by decide +kernel
theorem dX8_force_9 : decode cX8_force 9 = .ok (.ifCond .eq 7, 3) := by decide +kernel
theorem dX8_force_12 : decode cX8_force 12 = .ok (.iconst (-1), 1) := by decide +kernel
theorem dX8_force_13 : decode cX8_force 13 = .ok (.goto 20, 3) := by decide +kernel
theorem dX8_force_16 : decode cX8_force 16 = .ok (.aload_n 0, 1) := by decide +kernel
theorem dX8_force_17 : decode cX8_force 17 = .ok (.aload_n 0, 1) := by decide +kernel
theorem dX8_force_18 : decode cX8_force 18 = .ok (.getfield 140, 3) := by decide +kernel
theorem dX8_force_21 : decode cX8_force 21 = .ok (.iload_n 1, 1) := by decide +kernel
theorem dX8_force_22 : decode cX8_force 22 = .ok (.invokevirtual 168, 3) := by decide +kernel
theorem dX8_force_25 : decode cX8_force 25 = .ok (.ifCond .eq 7, 3) := by decide +kernel
theorem dX8_force_28 : decode cX8_force 28 = .ok (.iconst 1, 1) := by decide +kernel
theorem dX8_force_29 : decode cX8_force 29 = .ok (.goto 4, 3) := by decide +kernel
theorem dX8_force_32 : decode cX8_force 32 = .ok (.iconst 0, 1) := by decide +kernel
theorem dX8_force_33 : decode cX8_force 33 = .ok (.ireturn, 1) := by decide +kernel
theorem dX8_votesIn_0 : decode cX8_votesIn 0 = .ok (.iconst 0, 1) := by decide +kernel
theorem dX8_votesIn_1 : decode cX8_votesIn 1 = .ok (.istore 4, 2) := by decide +kernel
theorem dX8_votesIn_3 : decode cX8_votesIn 3 = .ok (.iconst 0, 1) := by decide +kernel
theorem dX8_votesIn_4 : decode cX8_votesIn 4 = .ok (.istore 5, 2) := by decide +kernel
theorem dX8_votesIn_6 : decode cX8_votesIn 6 = .ok (.iload 5, 2) := by decide +kernel
theorem dX8_votesIn_8 : decode cX8_votesIn 8 = .ok (.iconst 4, 1) := by decide +kernel
theorem dX8_votesIn_9 : decode cX8_votesIn 9 = .ok (.if_icmp .ge 39, 3) := by decide +kernel
theorem dX8_votesIn_12 : decode cX8_votesIn 12 = .ok (.iload 4, 2) := by decide +kernel
theorem dX8_votesIn_14 : decode cX8_votesIn 14 = .ok (.iload_n 2, 1) := by decide +kernel
theorem dX8_votesIn_15 : decode cX8_votesIn 15 = .ok (.iload 5, 2) := by decide +kernel
theorem dX8_votesIn_17 : decode cX8_votesIn 17 = .ok (.ishr, 1) := by decide +kernel
theorem dX8_votesIn_18 : decode cX8_votesIn 18 = .ok (.iconst 1, 1) := by decide +kernel
theorem dX8_votesIn_19 : decode cX8_votesIn 19 = .ok (.iand, 1) := by decide +kernel
theorem dX8_votesIn_20 : decode cX8_votesIn 20 = .ok (.iconst 1, 1) := by decide +kernel
