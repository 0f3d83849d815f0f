theorem dX8_votesIn_21 : decode cX8_votesIn 21 = .ok (.if_icmp .ne 17, 3) := by decide +kernel
theorem dX8_votesIn_24 : decode cX8_votesIn 24 = .ok (.aload_n 0, 1) := by decide +kernel
theorem dX8_votesIn_25 : decode cX8_votesIn 25 = .ok (.getfield 19, 3) := by decide +kernel
theorem dX8_votesIn_28 : decode cX8_votesIn 28 = .ok (.iconst 4, 1) := by decide +kernel
theorem dX8_votesIn_29 : decode cX8_votesIn 29 = .ok (.iload_n 3, 1) := by decide +kernel
theorem dX8_votesIn_30 : decode cX8_votesIn 30 = .ok (.imul, 1) := by decide +kernel
theorem dX8_votesIn_31 : decode cX8_votesIn 31 = .ok (.iload 5, 2) := by decide +kernel
theorem dX8_votesIn_33 : decode cX8_votesIn 33 = .ok (.iadd, 1) := by decide +kernel
theorem dX8_votesIn_34 : decode cX8_votesIn 34 = .ok (.iaload, 1) := by decide +kernel
theorem dX8_votesIn_35 : decode cX8_votesIn 35 = .ok (.goto 4, 3) := by decide +kernel
theorem dX8_votesIn_38 : decode cX8_votesIn 38 = .ok (.iconst 0, 1) := by decide +kernel
theorem dX8_votesIn_39 : decode cX8_votesIn 39 = .ok (.iadd, 1) := by decide +kernel
theorem dX8_votesIn_40 : decode cX8_votesIn 40 = .ok (.istore 4, 2) := by decide +kernel
theorem dX8_votesIn_42 : decode cX8_votesIn 42 = .ok (.iinc 5 1, 3) := by decide +kernel
theorem dX8_votesIn_45 : decode cX8_votesIn 45 = .ok (.goto (-39), 3) := by decide +kernel
theorem dX8_votesIn_48 : decode cX8_votesIn 48 = .ok (.iconst 0, 1) := by decide +kernel
theorem dX8_votesIn_49 : decode cX8_votesIn 49 = .ok (.istore 5, 2) := by decide +kernel
theorem dX8_votesIn_51 : decode cX8_votesIn 51 = .ok (.iload 5, 2) := by decide +kernel
theorem dX8_votesIn_53 : decode cX8_votesIn 53 = .ok (.iconst 5, 1) := by decide +kernel
theorem dX8_votesIn_54 : decode cX8_votesIn 54 = .ok (.if_icmp .ge 88, 3) := by decide +kernel
theorem dX8_votesIn_57 : decode cX8_votesIn 57 = .ok (.aload_n 0, 1) := by decide +kernel
theorem dX8_votesIn_58 : decode cX8_votesIn 58 = .ok (.iload_n 1, 1) := by decide +kernel
theorem dX8_votesIn_59 : decode cX8_votesIn 59 = .ok (.iload 5, 2) := by decide +kernel
theorem dX8_votesIn_61 : decode cX8_votesIn 61 = .ok (.invokevirtual 168, 3) := by decide +kernel
theorem dX8_votesIn_64 : decode cX8_votesIn 64 = .ok (.ifCond .eq 31, 3) := by decide +kernel
theorem dX8_votesIn_67 : decode cX8_votesIn 67 = .ok (.aload_n 0, 1) := by decide +kernel
theorem dX8_votesIn_68 : decode cX8_votesIn 68 = .ok (.iload_n 1, 1) := by decide +kernel
theorem dX8_votesIn_69 : decode cX8_votesIn 69 = .ok (.iload 5, 2) := by decide +kernel
theorem dX8_votesIn_71 : decode cX8_votesIn 71 = .ok (.iconst 0, 1) := by decide +kernel
theorem dX8_votesIn_72 : decode cX8_votesIn 72 = .ok (.invokevirtual 161, 3) := by decide +kernel
theorem dX8_votesIn_75 : decode cX8_votesIn 75 = .ok (.iconst 4, 1) := by decide +kernel
theorem dX8_votesIn_76 : decode cX8_votesIn 76 = .ok (.if_icmp .ne 19, 3) := by decide +kernel
theorem dX8_votesIn_79 : decode cX8_votesIn 79 = .ok (.aload_n 0, 1) := by decide +kernel
theorem dX8_votesIn_80 : decode cX8_votesIn 80 = .ok (.iload_n 1, 1) := by decide +kernel
theorem dX8_votesIn_81 : decode cX8_votesIn 81 = .ok (.iload 5, 2) := by decide +kernel
theorem dX8_votesIn_83 : decode cX8_votesIn 83 = .ok (.iconst 1, 1) := by decide +kernel
theorem dX8_votesIn_84 : decode cX8_votesIn 84 = .ok (.invokevirtual 161, 3) := by decide +kernel
theorem dX8_votesIn_87 : decode cX8_votesIn 87 = .ok (.iload_n 3, 1) := by decide +kernel
theorem dX8_votesIn_88 : decode cX8_votesIn 88 = .ok (.if_icmp .ne 7, 3) := by decide +kernel
theorem dX8_votesIn_91 : decode cX8_votesIn 91 = .ok (.iconst 1, 1) := by decide +kernel
theorem dX8_votesIn_92 : decode cX8_votesIn 92 = .ok (.goto 4, 3) := by decide +kernel
theorem dX8_votesIn_95 : decode cX8_votesIn 95 = .ok (.iconst 0, 1) := by decide +kernel
theorem dX8_votesIn_96 : decode cX8_votesIn 96 = .ok (.istore 6, 2) := by decide +kernel
theorem dX8_votesIn_98 : decode cX8_votesIn 98 = .ok (.iload 4, 2) := by decide +kernel
theorem dX8_votesIn_100 : decode cX8_votesIn 100 = .ok (.iload 6, 2) := by decide +kernel
theorem dX8_votesIn_102 : decode cX8_votesIn 102 = .ok (.ifCond .eq 30, 3) := by decide +kernel
theorem dX8_votesIn_105 : decode cX8_votesIn 105 = .ok (.iload_n 2, 1) := by decide +kernel
theorem dX8_votesIn_106 : decode cX8_votesIn 106 = .ok (.aload_n 0, 1) := by decide +kernel
theorem dX8_votesIn_107 : decode cX8_votesIn 107 = .ok (.iload_n 1, 1) := by decide +kernel
theorem dX8_votesIn_108 : decode cX8_votesIn 108 = .ok (.iload 5, 2) := by decide +kernel
theorem dX8_votesIn_110 : decode cX8_votesIn 110 = .ok (.iconst 2, 1) := by decide +kernel
theorem dX8_votesIn_111 : decode cX8_votesIn 111 = .ok (.invokevirtual 161, 3) := by decide +kernel
theorem dX8_votesIn_114 : decode cX8_votesIn 114 = .ok (.ishr, 1) := by decide +kernel
theorem dX8_votesIn_115 : decode cX8_votesIn 115 = .ok (.iconst 1, 1) := by decide +kernel
theorem dX8_votesIn_116 : decode cX8_votesIn 116 = .ok (.iand, 1) := by decide +kernel
theorem dX8_votesIn_117 : decode cX8_votesIn 117 = .ok (.iconst 1, 1) := by decide +kernel
theorem dX8_votesIn_118 : decode cX8_votesIn 118 = .ok (.if_icmp .ne 14, 3) := by decide +kernel
theorem dX8_votesIn_121 : decode cX8_votesIn 121 = .ok (.aload_n 0, 1) := by decide +kernel
theorem dX8_votesIn_122 : decode cX8_votesIn 122 = .ok (.iload_n 1, 1) := by decide +kernel
theorem dX8_votesIn_123 : decode cX8_votesIn 123 = .ok (.iload 5, 2) := by decide +kernel
theorem dX8_votesIn_125 : decode cX8_votesIn 125 = .ok (.iconst 3, 1) := by decide +kernel
theorem dX8_votesIn_126 : decode cX8_votesIn 126 = .ok (.invokevirtual 161, 3) := by decide +kernel
theorem dX8_votesIn_129 : decode cX8_votesIn 129 = .ok (.goto 4, 3) := by decide +kernel
theorem dX8_votesIn_132 : decode cX8_votesIn 132 = .ok (.iconst 0, 1) := by decide +kernel
theorem dX8_votesIn_133 : decode cX8_votesIn 133 = .ok (.iadd, 1) := by decide +kernel
theorem dX8_votesIn_134 : decode cX8_votesIn 134 = .ok (.istore 4, 2) := by decide +kernel
theorem dX8_votesIn_136 : decode cX8_votesIn 136 = .ok (.iinc 5 1, 3) := by decide +kernel
theorem dX8_votesIn_139 : decode cX8_votesIn 139 = .ok (.goto (-88), 3) := by decide +kernel
theorem dX8_votesIn_142 : decode cX8_votesIn 142 = .ok (.iload 4, 2) := by decide +kernel
theorem dX8_votesIn_144 : decode cX8_votesIn 144 = .ok (.ireturn, 1) := by decide +kernel
theorem dX8_votes_0 : decode cX8_votes 0 = .ok (.aload_n 0, 1) := by decide +kernel
theorem dX8_votes_1 : decode cX8_votes 1 = .ok (.iconst 0, 1) := by decide +kernel
theorem dX8_votes_2 : decode cX8_votes 2 = .ok (.putfield 60, 3) := by decide +kernel
theorem dX8_votes_5 : decode cX8_votes 5 = .ok (.iload_n 1, 1) := by decide +kernel
theorem dX8_votes_6 : decode cX8_votes 6 = .ok (.invokestatic 171, 3) := by decide +kernel
theorem dX8_votes_9 : decode cX8_votes 9 = .ok (.ifCond .eq 6, 3) := by decide +kernel
theorem dX8_votes_12 : decode cX8_votes 12 = .ok (.bipush (-2), 2) := by decide +kernel
theorem dX8_votes_14 : decode cX8_votes 14 = .ok (.ireturn, 1) := by decide +kernel
theorem dX8_votes_15 : decode cX8_votes 15 = .ok (.iload_n 2, 1) := by decide +kernel
theorem dX8_votes_16 : decode cX8_votes 16 = .ok (.i2l, 1) := by decide +kernel
theorem dX8_votes_17 : decode cX8_votes 17 = .ok (.lconst 0, 1) := by decide +kernel
theorem dX8_votes_18 : decode cX8_votes 18 = .ok (.ldc2_w 149, 3) := by decide +kernel
theorem dX8_votes_21 : decode cX8_votes 21 = .ok (.invokestatic 65, 3) := by decide +kernel
theorem dX8_votes_24 : decode cX8_votes 24 = .ok (.ifCond .eq 16, 3) := by decide +kernel
theorem dX8_votes_27 : decode cX8_votes 27 = .ok (.aload_n 0, 1) := by decide +kernel
theorem dX8_votes_28 : decode cX8_votes 28 = .ok (.aload_n 0, 1) := by decide +kernel
theorem dX8_votes_29 : decode cX8_votes 29 = .ok (.getfield 140, 3) := by decide +kernel
theorem dX8_votes_32 : decode cX8_votes 32 = .ok (.iload_n 1, 1) := by decide +kernel
theorem dX8_votes_33 : decode cX8_votes 33 = .ok (.iload_n 2, 1) := by decide +kernel
theorem dX8_votes_34 : decode cX8_votes 34 = .ok (.invokevirtual 174, 3) := by decide +kernel
theorem dX8_votes_37 : decode cX8_votes 37 = .ok (.goto 4, 3) := by decide +kernel
theorem dX8_votes_40 : decode cX8_votes 40 = .ok (.iconst (-1), 1) := by decide +kernel
theorem dX8_votes_41 : decode cX8_votes 41 = .ok (.ireturn, 1) := by decide +kernel
theorem dX8_is_0 : decode cX8_is 0 = .ok (.aload_n 0, 1) := by decide +kernel
theorem dX8_is_1 : decode cX8_is 1 = .ok (.iconst 0, 1) := by decide +kernel
theorem dX8_is_2 : decode cX8_is 2 = .ok (.putfield 60, 3) := by decide +kernel
theorem dX8_is_5 : decode cX8_is 5 = .ok (.iload_n 1, 1) := by decide +kernel
theorem dX8_is_6 : decode cX8_is 6 = .ok (.invokestatic 177, 3) := by decide +kernel
theorem dX8_is_9 : decode cX8_is 9 = .ok (.ifCond .eq 8, 3) := by decide +kernel
theorem dX8_is_12 : decode cX8_is 12 = .ok (.bipush (-2), 2) := by decide +kernel
theorem dX8_is_14 : decode cX8_is 14 = .ok (.goto 19, 3) := by decide +kernel
theorem dX8_is_17 : decode cX8_is 17 = .ok (.aload_n 0, 1) := by decide +kernel
theorem dX8_is_18 : decode cX8_is 18 = .ok (.getfield 140, 3) := by decide +kernel
theorem dX8_is_21 : decode cX8_is 21 = .ok (.iload_n 1, 1) := by decide +kernel
theorem dX8_is_22 : decode cX8_is 22 = .ok (.invokestatic 164, 3) := by decide +kernel
theorem dX8_is_25 : decode cX8_is 25 = .ok (.ifCond .eq 7, 3) := by decide +kernel
theorem dX8_is_28 : decode cX8_is 28 = .ok (.iconst 1, 1) := by decide +kernel
theorem dX8_is_29 : decode cX8_is 29 = .ok (.goto 4, 3) := by decide +kernel
theorem dX8_is_32 : decode cX8_is 32 = .ok (.iconst 0, 1) := by decide +kernel
theorem dX8_is_33 : decode cX8_is 33 = .ok (.ireturn, 1) := by decide +kernel
theorem dX8_isBarred_0 : decode cX8_isBarred 0 = .ok (.aload_n 0, 1) := by decide +kernel
theorem dX8_isBarred_1 : decode cX8_isBarred 1 = .ok (.getfield 22, 3) := by decide +kernel
theorem dX8_isBarred_4 : decode cX8_isBarred 4 = .ok (.iload_n 2, 1) := by decide +kernel
theorem dX8_isBarred_5 : decode cX8_isBarred 5 = .ok (.if_icmp .ne 7, 3) := by decide +kernel
theorem dX8_isBarred_8 : decode cX8_isBarred 8 = .ok (.iconst 1, 1) := by decide +kernel
theorem dX8_isBarred_9 : decode cX8_isBarred 9 = .ok (.goto 4, 3) := by decide +kernel
theorem dX8_isBarred_12 : decode cX8_isBarred 12 = .ok (.iconst 0, 1) := by decide +kernel
theorem dX8_isBarred_13 : decode cX8_isBarred 13 = .ok (.istore_n 3, 1) := by decide +kernel
theorem dX8_isBarred_14 : decode cX8_isBarred 14 = .ok (.iconst 0, 1) := by decide +kernel
theorem dX8_isBarred_15 : decode cX8_isBarred 15 = .ok (.istore 4, 2) := by decide +kernel
theorem dX8_isBarred_17 : decode cX8_isBarred 17 = .ok (.iload 4, 2) := by decide +kernel
theorem dX8_isBarred_19 : decode cX8_isBarred 19 = .ok (.iconst 5, 1) := by decide +kernel
theorem dX8_isBarred_20 : decode cX8_isBarred 20 = .ok (.if_icmp .ge 53, 3) := by decide +kernel
theorem dX8_isBarred_23 : decode cX8_isBarred 23 = .ok (.iload_n 3, 1) := by decide +kernel
theorem dX8_isBarred_24 : decode cX8_isBarred 24 = .ok (.ifCond .ne 37, 3) := by decide +kernel
theorem dX8_isBarred_27 : decode cX8_isBarred 27 = .ok (.aload_n 0, 1) := by decide +kernel
theorem dX8_isBarred_28 : decode cX8_isBarred 28 = .ok (.iload_n 1, 1) := by decide +kernel
theorem dX8_isBarred_29 : decode cX8_isBarred 29 = .ok (.iload 4, 2) := by decide +kernel
theorem dX8_isBarred_31 : decode cX8_isBarred 31 = .ok (.invokevirtual 168, 3) := by decide +kernel
theorem dX8_isBarred_34 : decode cX8_isBarred 34 = .ok (.ifCond .eq 31, 3) := by decide +kernel
theorem dX8_isBarred_37 : decode cX8_isBarred 37 = .ok (.aload_n 0, 1) := by decide +kernel
theorem dX8_isBarred_38 : decode cX8_isBarred 38 = .ok (.iload_n 1, 1) := by decide +kernel
theorem dX8_isBarred_39 : decode cX8_isBarred 39 = .ok (.iload 4, 2) := by decide +kernel
theorem dX8_isBarred_41 : decode cX8_isBarred 41 = .ok (.iconst 0, 1) := by decide +kernel
theorem dX8_isBarred_42 : decode cX8_isBarred 42 = .ok (.invokevirtual 161, 3) := by decide +kernel
theorem dX8_isBarred_45 : decode cX8_isBarred 45 = .ok (.iconst 3, 1) := by decide +kernel
theorem dX8_isBarred_46 : decode cX8_isBarred 46 = .ok (.if_icmp .ne 19, 3) := by decide +kernel
theorem dX8_isBarred_49 : decode cX8_isBarred 49 = .ok (.aload_n 0, 1) := by decide +kernel
theorem dX8_isBarred_50 : decode cX8_isBarred 50 = .ok (.iload_n 1, 1) := by decide +kernel
theorem dX8_isBarred_51 : decode cX8_isBarred 51 = .ok (.iload 4, 2) := by decide +kernel
theorem dX8_isBarred_53 : decode cX8_isBarred 53 = .ok (.iconst 1, 1) := by decide +kernel
theorem dX8_isBarred_54 : decode cX8_isBarred 54 = .ok (.invokevirtual 161, 3) := by decide +kernel
theorem dX8_isBarred_57 : decode cX8_isBarred 57 = .ok (.iload_n 2, 1) := by decide +kernel
theorem dX8_isBarred_58 : decode cX8_isBarred 58 = .ok (.if_icmp .ne 7, 3) := by decide +kernel
theorem dX8_isBarred_61 : decode cX8_isBarred 61 = .ok (.iconst 1, 1) := by decide +kernel
theorem dX8_isBarred_62 : decode cX8_isBarred 62 = .ok (.goto 4, 3) := by decide +kernel
theorem dX8_isBarred_65 : decode cX8_isBarred 65 = .ok (.iconst 0, 1) := by decide +kernel
theorem dX8_isBarred_66 : decode cX8_isBarred 66 = .ok (.istore_n 3, 1) := by decide +kernel
theorem dX8_isBarred_67 : decode cX8_isBarred 67 = .ok (.iinc 4 1, 3) := by decide +kernel
theorem dX8_isBarred_70 : decode cX8_isBarred 70 = .ok (.goto (-53), 3) := by decide +kernel
theorem dX8_isBarred_73 : decode cX8_isBarred 73 = .ok (.iload_n 3, 1) := by decide +kernel
theorem dX8_isBarred_74 : decode cX8_isBarred 74 = .ok (.ireturn, 1) := by decide +kernel
theorem dX8_whyNot_0 : decode cX8_whyNot 0 = .ok (.iload_n 3, 1) := by decide +kernel
theorem dX8_whyNot_1 : decode cX8_whyNot 1 = .ok (.bipush 100, 2) := by decide +kernel
theorem dX8_whyNot_3 : decode cX8_whyNot 3 = .ok (.idiv, 1) := by decide +kernel
theorem dX8_whyNot_4 : decode cX8_whyNot 4 = .ok (.istore 4, 2) := by decide +kernel
theorem dX8_whyNot_6 : decode cX8_whyNot 6 = .ok (.iload_n 3, 1) := by decide +kernel
theorem dX8_whyNot_7 : decode cX8_whyNot 7 = .ok (.bipush 10, 2) := by decide +kernel
theorem dX8_whyNot_9 : decode cX8_whyNot 9 = .ok (.idiv, 1) := by decide +kernel
theorem dX8_whyNot_10 : decode cX8_whyNot 10 = .ok (.bipush 10, 2) := by decide +kernel
theorem dX8_whyNot_12 : decode cX8_whyNot 12 = .ok (.irem, 1) := by decide +kernel
theorem dX8_whyNot_13 : decode cX8_whyNot 13 = .ok (.istore 5, 2) := by decide +kernel
theorem dX8_whyNot_15 : decode cX8_whyNot 15 = .ok (.iload_n 1, 1) := by decide +kernel
theorem dX8_whyNot_16 : decode cX8_whyNot 16 = .ok (.iload 4, 2) := by decide +kernel
theorem dX8_whyNot_18 : decode cX8_whyNot 18 = .ok (.invokestatic 155, 3) := by decide +kernel
theorem dX8_whyNot_21 : decode cX8_whyNot 21 = .ok (.ifCond .ne 5, 3) := by decide +kernel
theorem dX8_whyNot_24 : decode cX8_whyNot 24 = .ok (.iconst 1, 1) := by decide +kernel
theorem dX8_whyNot_25 : decode cX8_whyNot 25 = .ok (.ireturn, 1) := by decide +kernel
theorem dX8_whyNot_26 : decode cX8_whyNot 26 = .ok (.aload_n 0, 1) := by decide +kernel
theorem dX8_whyNot_27 : decode cX8_whyNot 27 = .ok (.iload_n 1, 1) := by decide +kernel
theorem dX8_whyNot_28 : decode cX8_whyNot 28 = .ok (.iload 4, 2) := by decide +kernel
theorem dX8_whyNot_30 : decode cX8_whyNot 30 = .ok (.iconst 0, 1) := by decide +kernel
theorem dX8_whyNot_31 : decode cX8_whyNot 31 = .ok (.invokevirtual 161, 3) := by decide +kernel
theorem dX8_whyNot_34 : decode cX8_whyNot 34 = .ok (.istore 6, 2) := by decide +kernel
theorem dX8_whyNot_36 : decode cX8_whyNot 36 = .ok (.aload_n 0, 1) := by decide +kernel
theorem dX8_whyNot_37 : decode cX8_whyNot 37 = .ok (.iload_n 1, 1) := by decide +kernel
theorem dX8_whyNot_38 : decode cX8_whyNot 38 = .ok (.iload 4, 2) := by decide +kernel
theorem dX8_whyNot_40 : decode cX8_whyNot 40 = .ok (.iconst 3, 1) := by decide +kernel
theorem dX8_whyNot_41 : decode cX8_whyNot 41 = .ok (.invokevirtual 161, 3) := by decide +kernel
theorem dX8_whyNot_44 : decode cX8_whyNot 44 = .ok (.istore 7, 2) := by decide +kernel
theorem dX8_whyNot_46 : decode cX8_whyNot 46 = .ok (.iload 5, 2) := by decide +kernel
theorem dX8_whyNot_48 : decode cX8_whyNot 48 = .ok (.ifCond .le 32, 3) := by decide +kernel
theorem dX8_whyNot_51 : decode cX8_whyNot 51 = .ok (.iload 6, 2) := by decide +kernel
theorem dX8_whyNot_53 : decode cX8_whyNot 53 = .ok (.ifCond .ne 39, 3) := by decide +kernel
theorem dX8_whyNot_56 : decode cX8_whyNot 56 = .ok (.iload 5, 2) := by decide +kernel
theorem dX8_whyNot_58 : decode cX8_whyNot 58 = .ok (.aload_n 0, 1) := by decide +kernel
theorem dX8_whyNot_59 : decode cX8_whyNot 59 = .ok (.getfield 16, 3) := by decide +kernel
theorem dX8_whyNot_62 : decode cX8_whyNot 62 = .ok (.iload 7, 2) := by decide +kernel
theorem dX8_whyNot_64 : decode cX8_whyNot 64 = .ok (.iaload, 1) := by decide +kernel
theorem dX8_whyNot_65 : decode cX8_whyNot 65 = .ok (.if_icmp .gt 27, 3) := by decide +kernel
theorem dX8_whyNot_68 : decode cX8_whyNot 68 = .ok (.aload_n 0, 1) := by decide +kernel
theorem dX8_whyNot_69 : decode cX8_whyNot 69 = .ok (.getfield 26, 3) := by decide +kernel
theorem dX8_whyNot_72 : decode cX8_whyNot 72 = .ok (.iload 7, 2) := by decide +kernel
theorem dX8_whyNot_74 : decode cX8_whyNot 74 = .ok (.if_icmp .ne 20, 3) := by decide +kernel
theorem dX8_whyNot_77 : decode cX8_whyNot 77 = .ok (.goto 15, 3) := by decide +kernel
theorem dX8_whyNot_80 : decode cX8_whyNot 80 = .ok (.iload 6, 2) := by decide +kernel
theorem dX8_whyNot_82 : decode cX8_whyNot 82 = .ok (.iconst 1, 1) := by decide +kernel
theorem dX8_whyNot_83 : decode cX8_whyNot 83 = .ok (.if_icmp .eq 11, 3) := by decide +kernel
theorem dX8_whyNot_86 : decode cX8_whyNot 86 = .ok (.iload 6, 2) := by decide +kernel
theorem dX8_whyNot_88 : decode cX8_whyNot 88 = .ok (.iconst 2, 1) := by decide +kernel
theorem dX8_whyNot_89 : decode cX8_whyNot 89 = .ok (.if_icmp .eq 5, 3) := by decide +kernel
theorem dX8_whyNot_92 : decode cX8_whyNot 92 = .ok (.iconst 1, 1) := by decide +kernel
theorem dX8_whyNot_93 : decode cX8_whyNot 93 = .ok (.ireturn, 1) := by decide +kernel
theorem dX8_whyNot_94 : decode cX8_whyNot 94 = .ok (.aload_n 0, 1) := by decide +kernel
theorem dX8_whyNot_95 : decode cX8_whyNot 95 = .ok (.iload_n 1, 1) := by decide +kernel
theorem dX8_whyNot_96 : decode cX8_whyNot 96 = .ok (.iload 4, 2) := by decide +kernel
theorem dX8_whyNot_98 : decode cX8_whyNot 98 = .ok (.invokevirtual 168, 3) := by decide +kernel
theorem dX8_whyNot_101 : decode cX8_whyNot 101 = .ok (.ifCond .ne 5, 3) := by decide +kernel
theorem dX8_whyNot_104 : decode cX8_whyNot 104 = .ok (.iconst 2, 1) := by decide +kernel
theorem dX8_whyNot_105 : decode cX8_whyNot 105 = .ok (.ireturn, 1) := by decide +kernel
theorem dX8_whyNot_106 : decode cX8_whyNot 106 = .ok (.aload_n 0, 1) := by decide +kernel
theorem dX8_whyNot_107 : decode cX8_whyNot 107 = .ok (.iload_n 1, 1) := by decide +kernel
theorem dX8_whyNot_108 : decode cX8_whyNot 108 = .ok (.iload_n 2, 1) := by decide +kernel
theorem dX8_whyNot_109 : decode cX8_whyNot 109 = .ok (.aload_n 0, 1) := by decide +kernel
theorem dX8_whyNot_110 : decode cX8_whyNot 110 = .ok (.iload_n 1, 1) := by decide +kernel
theorem dX8_whyNot_111 : decode cX8_whyNot 111 = .ok (.iload 4, 2) := by decide +kernel
theorem dX8_whyNot_113 : decode cX8_whyNot 113 = .ok (.iconst 1, 1) := by decide +kernel
theorem dX8_whyNot_114 : decode cX8_whyNot 114 = .ok (.invokevirtual 161, 3) := by decide +kernel
theorem dX8_whyNot_117 : decode cX8_whyNot 117 = .ok (.invokevirtual 174, 3) := by decide +kernel
theorem dX8_whyNot_120 : decode cX8_whyNot 120 = .ok (.aload_n 0, 1) := by decide +kernel
theorem dX8_whyNot_121 : decode cX8_whyNot 121 = .ok (.iload_n 1, 1) := by decide +kernel
theorem dX8_whyNot_122 : decode cX8_whyNot 122 = .ok (.iload 4, 2) := by decide +kernel
theorem dX8_whyNot_124 : decode cX8_whyNot 124 = .ok (.iconst 2, 1) := by decide +kernel
theorem dX8_whyNot_125 : decode cX8_whyNot 125 = .ok (.invokevirtual 161, 3) := by decide +kernel
theorem dX8_whyNot_128 : decode cX8_whyNot 128 = .ok (.if_icmp .ge 5, 3) := by decide +kernel
theorem dX8_whyNot_131 : decode cX8_whyNot 131 = .ok (.iconst 3, 1) := by decide +kernel
theorem dX8_whyNot_132 : decode cX8_whyNot 132 = .ok (.ireturn, 1) := by decide +kernel
theorem dX8_whyNot_133 : decode cX8_whyNot 133 = .ok (.iload 6, 2) := by decide +kernel
theorem dX8_whyNot_135 : decode cX8_whyNot 135 = .ok (.iconst 2, 1) := by decide +kernel
theorem dX8_whyNot_136 : decode cX8_whyNot 136 = .ok (.if_icmp .ge 15, 3) := by decide +kernel
theorem dX8_whyNot_139 : decode cX8_whyNot 139 = .ok (.aload_n 0, 1) := by decide +kernel
theorem dX8_whyNot_140 : decode cX8_whyNot 140 = .ok (.iload_n 1, 1) := by decide +kernel
theorem dX8_whyNot_141 : decode cX8_whyNot 141 = .ok (.iload 7, 2) := by decide +kernel
theorem dX8_whyNot_143 : decode cX8_whyNot 143 = .ok (.invokevirtual 180, 3) := by decide +kernel
theorem dX8_whyNot_146 : decode cX8_whyNot 146 = .ok (.ifCond .eq 5, 3) := by decide +kernel
theorem dX8_whyNot_149 : decode cX8_whyNot 149 = .ok (.iconst 4, 1) := by decide +kernel
theorem dX8_whyNot_150 : decode cX8_whyNot 150 = .ok (.ireturn, 1) := by decide +kernel
theorem dX8_whyNot_151 : decode cX8_whyNot 151 = .ok (.aload_n 0, 1) := by decide +kernel
theorem dX8_whyNot_152 : decode cX8_whyNot 152 = .ok (.iload_n 1, 1) := by decide +kernel
theorem dX8_whyNot_153 : decode cX8_whyNot 153 = .ok (.iload_n 3, 1) := by decide +kernel
theorem dX8_whyNot_154 : decode cX8_whyNot 154 = .ok (.invokevirtual 183, 3) := by decide +kernel
theorem dX8_whyNot_157 : decode cX8_whyNot 157 = .ok (.iload_n 1, 1) := by decide +kernel
theorem dX8_whyNot_158 : decode cX8_whyNot 158 = .ok (.if_icmp .ne 7, 3) := by decide +kernel
theorem dX8_whyNot_161 : decode cX8_whyNot 161 = .ok (.iconst 5, 1) := by decide +kernel
theorem dX8_whyNot_162 : decode cX8_whyNot 162 = .ok (.goto 4, 3) := by decide +kernel
theorem dX8_whyNot_165 : decode cX8_whyNot 165 = .ok (.iconst 0, 1) := by decide +kernel
theorem dX8_whyNot_166 : decode cX8_whyNot 166 = .ok (.ireturn, 1) := by decide +kernel
theorem dX8_done_0 : decode cX8_done 0 = .ok (.iload_n 2, 1) := by decide +kernel
theorem dX8_done_1 : decode cX8_done 1 = .ok (.bipush 100, 2) := by decide +kernel
theorem dX8_done_3 : decode cX8_done 3 = .ok (.idiv, 1) := by decide +kernel
theorem dX8_done_4 : decode cX8_done 4 = .ok (.istore_n 3, 1) := by decide +kernel
theorem dX8_done_5 : decode cX8_done 5 = .ok (.aload_n 0, 1) := by decide +kernel
theorem dX8_done_6 : decode cX8_done 6 = .ok (.iload_n 1, 1) := by decide +kernel
theorem dX8_done_7 : decode cX8_done 7 = .ok (.iload_n 3, 1) := by decide +kernel
theorem dX8_done_8 : decode cX8_done 8 = .ok (.iconst 3, 1) := by decide +kernel
theorem dX8_done_9 : decode cX8_done 9 = .ok (.invokevirtual 161, 3) := by decide +kernel
theorem dX8_done_12 : decode cX8_done 12 = .ok (.istore 4, 2) := by decide +kernel
theorem dX8_done_14 : decode cX8_done 14 = .ok (.aload_n 0, 1) := by decide +kernel
theorem dX8_done_15 : decode cX8_done 15 = .ok (.iload_n 1, 1) := by decide +kernel
theorem dX8_done_16 : decode cX8_done 16 = .ok (.iload_n 3, 1) := by decide +kernel
theorem dX8_done_17 : decode cX8_done 17 = .ok (.iconst 0, 1) := by decide +kernel
theorem dX8_done_18 : decode cX8_done 18 = .ok (.invokevirtual 161, 3) := by decide +kernel
theorem dX8_done_21 : decode cX8_done 21 = .ok (.iconst 2, 1) := by decide +kernel
theorem dX8_done_22 : decode cX8_done 22 = .ok (.if_icmp .ne 19, 3) := by decide +kernel
theorem dX8_done_25 : decode cX8_done 25 = .ok (.iload_n 1, 1) := by decide +kernel
theorem dX8_done_26 : decode cX8_done 26 = .ok (.iload 4, 2) := by decide +kernel
theorem dX8_done_28 : decode cX8_done 28 = .ok (.aload_n 0, 1) := by decide +kernel
theorem dX8_done_29 : decode cX8_done 29 = .ok (.iload_n 1, 1) := by decide +kernel
theorem dX8_done_30 : decode cX8_done 30 = .ok (.iload_n 3, 1) := by decide +kernel
theorem dX8_done_31 : decode cX8_done 31 = .ok (.iconst 4, 1) := by decide +kernel
theorem dX8_done_32 : decode cX8_done 32 = .ok (.invokevirtual 161, 3) := by decide +kernel
theorem dX8_done_35 : decode cX8_done 35 = .ok (.invokestatic 158, 3) := by decide +kernel
theorem dX8_done_38 : decode cX8_done 38 = .ok (.goto 16, 3) := by decide +kernel
theorem dX8_done_41 : decode cX8_done 41 = .ok (.iload_n 1, 1) := by decide +kernel
theorem dX8_done_42 : decode cX8_done 42 = .ok (.iload 4, 2) := by decide +kernel
theorem dX8_done_44 : decode cX8_done 44 = .ok (.iload_n 2, 1) := by decide +kernel
theorem dX8_done_45 : decode cX8_done 45 = .ok (.bipush 10, 2) := by decide +kernel
theorem dX8_done_47 : decode cX8_done 47 = .ok (.idiv, 1) := by decide +kernel
theorem dX8_done_48 : decode cX8_done 48 = .ok (.bipush 10, 2) := by decide +kernel
theorem dX8_done_50 : decode cX8_done 50 = .ok (.irem, 1) := by decide +kernel
theorem dX8_done_51 : decode cX8_done 51 = .ok (.invokestatic 143, 3) := by decide +kernel
theorem dX8_done_54 : decode cX8_done 54 = .ok (.ireturn, 1) := by decide +kernel
theorem dX8_actAt_0 : decode cX8_actAt 0 = .ok (.iconst 0, 1) := by decide +kernel
theorem dX8_actAt_1 : decode cX8_actAt 1 = .ok (.istore 4, 2) := by decide +kernel
theorem dX8_actAt_3 : decode cX8_actAt 3 = .ok (.iconst 0, 1) := by decide +kernel
theorem dX8_actAt_4 : decode cX8_actAt 4 = .ok (.istore 5, 2) := by decide +kernel
theorem dX8_actAt_6 : decode cX8_actAt 6 = .ok (.iload 5, 2) := by decide +kernel
theorem dX8_actAt_8 : decode cX8_actAt 8 = .ok (.bipush 20, 2) := by decide +kernel
theorem dX8_actAt_10 : decode cX8_actAt 10 = .ok (.if_icmp .ge 49, 3) := by decide +kernel
theorem dX8_actAt_13 : decode cX8_actAt 13 = .ok (.bipush 100, 2) := by decide +kernel
theorem dX8_actAt_15 : decode cX8_actAt 15 = .ok (.iload 5, 2) := by decide +kernel
theorem dX8_actAt_17 : decode cX8_actAt 17 = .ok (.iconst 4, 1) := by decide +kernel
theorem dX8_actAt_18 : decode cX8_actAt 18 = .ok (.idiv, 1) := by decide +kernel
theorem dX8_actAt_19 : decode cX8_actAt 19 = .ok (.imul, 1) := by decide +kernel
theorem dX8_actAt_20 : decode cX8_actAt 20 = .ok (.bipush 10, 2) := by decide +kernel
theorem dX8_actAt_22 : decode cX8_actAt 22 = .ok (.iload 5, 2) := by decide +kernel
theorem dX8_actAt_24 : decode cX8_actAt 24 = .ok (.iconst 4, 1) := by decide +kernel
theorem dX8_actAt_25 : decode cX8_actAt 25 = .ok (.irem, 1) := by decide +kernel
theorem dX8_actAt_26 : decode cX8_actAt 26 = .ok (.imul, 1) := by decide +kernel
theorem dX8_actAt_27 : decode cX8_actAt 27 = .ok (.iadd, 1) := by decide +kernel
theorem dX8_actAt_28 : decode cX8_actAt 28 = .ok (.istore 6, 2) := by decide +kernel
theorem dX8_actAt_30 : decode cX8_actAt 30 = .ok (.aload_n 0, 1) := by decide +kernel
theorem dX8_actAt_31 : decode cX8_actAt 31 = .ok (.iload_n 1, 1) := by decide +kernel
theorem dX8_actAt_32 : decode cX8_actAt 32 = .ok (.iload_n 2, 1) := by decide +kernel
theorem dX8_actAt_33 : decode cX8_actAt 33 = .ok (.iload 6, 2) := by decide +kernel
theorem dX8_actAt_35 : decode cX8_actAt 35 = .ok (.invokevirtual 186, 3) := by decide +kernel
theorem dX8_actAt_38 : decode cX8_actAt 38 = .ok (.ifCond .ne 15, 3) := by decide +kernel
theorem dX8_actAt_41 : decode cX8_actAt 41 = .ok (.iload 4, 2) := by decide +kernel
theorem dX8_actAt_43 : decode cX8_actAt 43 = .ok (.iload_n 3, 1) := by decide +kernel
theorem dX8_actAt_44 : decode cX8_actAt 44 = .ok (.if_icmp .ne 6, 3) := by decide +kernel
theorem dX8_actAt_47 : decode cX8_actAt 47 = .ok (.iload 6, 2) := by decide +kernel
theorem dX8_actAt_49 : decode cX8_actAt 49 = .ok (.ireturn, 1) := by decide +kernel
theorem dX8_actAt_50 : decode cX8_actAt 50 = .ok (.iinc 4 1, 3) := by decide +kernel
theorem dX8_actAt_53 : decode cX8_actAt 53 = .ok (.iinc 5 1, 3) := by decide +kernel
theorem dX8_actAt_56 : decode cX8_actAt 56 = .ok (.goto (-50), 3) := by decide +kernel
theorem dX8_actAt_59 : decode cX8_actAt 59 = .ok (.bipush (-9), 2) := by decide +kernel
theorem dX8_actAt_61 : decode cX8_actAt 61 = .ok (.ireturn, 1) := by decide +kernel
theorem dX8_acts_0 : decode cX8_acts 0 = .ok (.aload_n 0, 1) := by decide +kernel
theorem dX8_acts_1 : decode cX8_acts 1 = .ok (.iconst 0, 1) := by decide +kernel
theorem dX8_acts_2 : decode cX8_acts 2 = .ok (.putfield 60, 3) := by decide +kernel
theorem dX8_acts_5 : decode cX8_acts 5 = .ok (.iload_n 1, 1) := by decide +kernel
theorem dX8_acts_6 : decode cX8_acts 6 = .ok (.invokestatic 171, 3) := by decide +kernel
theorem dX8_acts_9 : decode cX8_acts 9 = .ok (.ifCond .eq 6, 3) := by decide +kernel
theorem dX8_acts_12 : decode cX8_acts 12 = .ok (.bipush (-2), 2) := by decide +kernel
theorem dX8_acts_14 : decode cX8_acts 14 = .ok (.ireturn, 1) := by decide +kernel
theorem dX8_acts_15 : decode cX8_acts 15 = .ok (.iconst 0, 1) := by decide +kernel
theorem dX8_acts_16 : decode cX8_acts 16 = .ok (.istore_n 2, 1) := by decide +kernel
theorem dX8_acts_17 : decode cX8_acts 17 = .ok (.iconst 0, 1) := by decide +kernel
theorem dX8_acts_18 : decode cX8_acts 18 = .ok (.istore_n 3, 1) := by decide +kernel
theorem dX8_acts_19 : decode cX8_acts 19 = .ok (.iload_n 3, 1) := by decide +kernel
theorem dX8_acts_20 : decode cX8_acts 20 = .ok (.bipush 20, 2) := by decide +kernel
theorem dX8_acts_22 : decode cX8_acts 22 = .ok (.if_icmp .ge 42, 3) := by decide +kernel
theorem dX8_acts_25 : decode cX8_acts 25 = .ok (.iload_n 2, 1) := by decide +kernel
theorem dX8_acts_26 : decode cX8_acts 26 = .ok (.aload_n 0, 1) := by decide +kernel
theorem dX8_acts_27 : decode cX8_acts 27 = .ok (.aload_n 0, 1) := by decide +kernel
theorem dX8_acts_28 : decode cX8_acts 28 = .ok (.getfield 140, 3) := by decide +kernel
theorem dX8_acts_31 : decode cX8_acts 31 = .ok (.iload_n 1, 1) := by decide +kernel
theorem dX8_acts_32 : decode cX8_acts 32 = .ok (.bipush 100, 2) := by decide +kernel
theorem dX8_acts_34 : decode cX8_acts 34 = .ok (.iload_n 3, 1) := by decide +kernel
theorem dX8_acts_35 : decode cX8_acts 35 = .ok (.iconst 4, 1) := by decide +kernel
theorem dX8_acts_36 : decode cX8_acts 36 = .ok (.idiv, 1) := by decide +kernel
theorem dX8_acts_37 : decode cX8_acts 37 = .ok (.imul, 1) := by decide +kernel
theorem dX8_acts_38 : decode cX8_acts 38 = .ok (.bipush 10, 2) := by decide +kernel
theorem dX8_acts_40 : decode cX8_acts 40 = .ok (.iload_n 3, 1) := by decide +kernel
theorem dX8_acts_41 : decode cX8_acts 41 = .ok (.iconst 4, 1) := by decide +kernel
theorem dX8_acts_42 : decode cX8_acts 42 = .ok (.irem, 1) := by decide +kernel
theorem dX8_acts_43 : decode cX8_acts 43 = .ok (.imul, 1) := by decide +kernel
theorem dX8_acts_44 : decode cX8_acts 44 = .ok (.iadd, 1) := by decide +kernel
theorem dX8_acts_45 : decode cX8_acts 45 = .ok (.invokevirtual 186, 3) := by decide +kernel
theorem dX8_acts_48 : decode cX8_acts 48 = .ok (.ifCond .ne 7, 3) := by decide +kernel
theorem dX8_acts_51 : decode cX8_acts 51 = .ok (.iconst 1, 1) := by decide +kernel
theorem dX8_acts_52 : decode cX8_acts 52 = .ok (.goto 4, 3) := by decide +kernel
theorem dX8_acts_55 : decode cX8_acts 55 = .ok (.iconst 0, 1) := by decide +kernel
theorem dX8_acts_56 : decode cX8_acts 56 = .ok (.iadd, 1) := by decide +kernel
theorem dX8_acts_57 : decode cX8_acts 57 = .ok (.istore_n 2, 1) := by decide +kernel
theorem dX8_acts_58 : decode cX8_acts 58 = .ok (.iinc 3 1, 3) := by decide +kernel
theorem dX8_acts_61 : decode cX8_acts 61 = .ok (.goto (-42), 3) := by decide +kernel
theorem dX8_acts_64 : decode cX8_acts 64 = .ok (.iload_n 2, 1) := by decide +kernel
theorem dX8_acts_65 : decode cX8_acts 65 = .ok (.ireturn, 1) := by decide +kernel
theorem dX8_which_0 : decode cX8_which 0 = .ok (.aload_n 0, 1) := by decide +kernel
theorem dX8_which_1 : decode cX8_which 1 = .ok (.iconst 0, 1) := by decide +kernel
theorem dX8_which_2 : decode cX8_which 2 = .ok (.putfield 60, 3) := by decide +kernel
theorem dX8_which_5 : decode cX8_which 5 = .ok (.iload_n 1, 1) := by decide +kernel
theorem dX8_which_6 : decode cX8_which 6 = .ok (.invokestatic 171, 3) := by decide +kernel
theorem dX8_which_9 : decode cX8_which 9 = .ok (.ifCond .eq 8, 3) := by decide +kernel
theorem dX8_which_12 : decode cX8_which 12 = .ok (.bipush (-2), 2) := by decide +kernel
theorem dX8_which_14 : decode cX8_which 14 = .ok (.goto 13, 3) := by decide +kernel
theorem dX8_which_17 : decode cX8_which 17 = .ok (.aload_n 0, 1) := by decide +kernel
theorem dX8_which_18 : decode cX8_which 18 = .ok (.aload_n 0, 1) := by decide +kernel
theorem dX8_which_19 : decode cX8_which 19 = .ok (.getfield 140, 3) := by decide +kernel
theorem dX8_which_22 : decode cX8_which 22 = .ok (.iload_n 1, 1) := by decide +kernel
theorem dX8_which_23 : decode cX8_which 23 = .ok (.iload_n 2, 1) := by decide +kernel
theorem dX8_which_24 : decode cX8_which 24 = .ok (.invokevirtual 189, 3) := by decide +kernel
theorem dX8_which_27 : decode cX8_which 27 = .ok (.ireturn, 1) := by decide +kernel
theorem dX8_why_0 : decode cX8_why 0 = .ok (.aload_n 0, 1) := by decide +kernel
theorem dX8_why_1 : decode cX8_why 1 = .ok (.iconst 0, 1) := by decide +kernel
theorem dX8_why_2 : decode cX8_why 2 = .ok (.putfield 60, 3) := by decide +kernel
theorem dX8_why_5 : decode cX8_why 5 = .ok (.iload_n 1, 1) := by decide +kernel
theorem dX8_why_6 : decode cX8_why 6 = .ok (.invokestatic 171, 3) := by decide +kernel
theorem dX8_why_9 : decode cX8_why 9 = .ok (.ifCond .ne 10, 3) := by decide +kernel
theorem dX8_why_12 : decode cX8_why 12 = .ok (.iload_n 2, 1) := by decide +kernel
theorem dX8_why_13 : decode cX8_why 13 = .ok (.invokestatic 192, 3) := by decide +kernel
theorem dX8_why_16 : decode cX8_why 16 = .ok (.ifCond .eq 8, 3) := by decide +kernel
theorem dX8_why_19 : decode cX8_why 19 = .ok (.bipush (-2), 2) := by decide +kernel
theorem dX8_why_21 : decode cX8_why 21 = .ok (.goto 13, 3) := by decide +kernel
theorem dX8_why_24 : decode cX8_why 24 = .ok (.aload_n 0, 1) := by decide +kernel
theorem dX8_why_25 : decode cX8_why 25 = .ok (.aload_n 0, 1) := by decide +kernel
theorem dX8_why_26 : decode cX8_why 26 = .ok (.getfield 140, 3) := by decide +kernel
theorem dX8_why_29 : decode cX8_why 29 = .ok (.iload_n 1, 1) := by decide +kernel
theorem dX8_why_30 : decode cX8_why 30 = .ok (.iload_n 2, 1) := by decide +kernel
theorem dX8_why_31 : decode cX8_why 31 = .ok (.invokevirtual 186, 3) := by decide +kernel
theorem dX8_why_34 : decode cX8_why 34 = .ok (.ireturn, 1) := by decide +kernel
theorem dX8_act_0 : decode cX8_act 0 = .ok (.aload_n 0, 1) := by decide +kernel
theorem dX8_act_1 : decode cX8_act 1 = .ok (.iconst 0, 1) := by decide +kernel
theorem dX8_act_2 : decode cX8_act 2 = .ok (.putfield 60, 3) := by decide +kernel
theorem dX8_act_5 : decode cX8_act 5 = .ok (.iload_n 1, 1) := by decide +kernel
theorem dX8_act_6 : decode cX8_act 6 = .ok (.invokestatic 171, 3) := by decide +kernel
theorem dX8_act_9 : decode cX8_act 9 = .ok (.ifCond .ne 10, 3) := by decide +kernel
theorem dX8_act_12 : decode cX8_act 12 = .ok (.iload_n 2, 1) := by decide +kernel
theorem dX8_act_13 : decode cX8_act 13 = .ok (.invokestatic 192, 3) := by decide +kernel
theorem dX8_act_16 : decode cX8_act 16 = .ok (.ifCond .eq 6, 3) := by decide +kernel
theorem dX8_act_19 : decode cX8_act 19 = .ok (.bipush (-2), 2) := by decide +kernel
theorem dX8_act_21 : decode cX8_act 21 = .ok (.ireturn, 1) := by decide +kernel
theorem dX8_act_22 : decode cX8_act 22 = .ok (.aload_n 0, 1) := by decide +kernel
theorem dX8_act_23 : decode cX8_act 23 = .ok (.aload_n 0, 1) := by decide +kernel
theorem dX8_act_24 : decode cX8_act 24 = .ok (.getfield 140, 3) := by decide +kernel
theorem dX8_act_27 : decode cX8_act 27 = .ok (.iload_n 1, 1) := by decide +kernel
theorem dX8_act_28 : decode cX8_act 28 = .ok (.iload_n 2, 1) := by decide +kernel
theorem dX8_act_29 : decode cX8_act 29 = .ok (.invokevirtual 186, 3) := by decide +kernel
theorem dX8_act_32 : decode cX8_act 32 = .ok (.istore_n 3, 1) := by decide +kernel
theorem dX8_act_33 : decode cX8_act 33 = .ok (.aload_n 0, 1) := by decide +kernel
theorem dX8_act_34 : decode cX8_act 34 = .ok (.iload_n 3, 1) := by decide +kernel
theorem dX8_act_35 : decode cX8_act 35 = .ok (.ifCond .ne 15, 3) := by decide +kernel
theorem dX8_act_38 : decode cX8_act 38 = .ok (.aload_n 0, 1) := by decide +kernel
theorem dX8_act_39 : decode cX8_act 39 = .ok (.aload_n 0, 1) := by decide +kernel
theorem dX8_act_40 : decode cX8_act 40 = .ok (.getfield 140, 3) := by decide +kernel
theorem dX8_act_43 : decode cX8_act 43 = .ok (.iload_n 2, 1) := by decide +kernel
theorem dX8_act_44 : decode cX8_act 44 = .ok (.invokevirtual 183, 3) := by decide +kernel
theorem dX8_act_47 : decode cX8_act 47 = .ok (.goto 7, 3) := by decide +kernel
theorem dX8_act_50 : decode cX8_act 50 = .ok (.aload_n 0, 1) := by decide +kernel
theorem dX8_act_51 : decode cX8_act 51 = .ok (.getfield 140, 3) := by decide +kernel
theorem dX8_act_54 : decode cX8_act 54 = .ok (.putfield 140, 3) := by decide +kernel
theorem dX8_act_57 : decode cX8_act 57 = .ok (.iload_n 3, 1) := by decide +kernel
theorem dX8_act_58 : decode cX8_act 58 = .ok (.ireturn, 1) := by decide +kernel
theorem dX8_wave_0 : decode cX8_wave 0 = .ok (.iconst 0, 1) := by decide +kernel
theorem dX8_wave_1 : decode cX8_wave 1 = .ok (.istore 4, 2) := by decide +kernel
theorem dX8_wave_3 : decode cX8_wave 3 = .ok (.iload 4, 2) := by decide +kernel
theorem dX8_wave_5 : decode cX8_wave 5 = .ok (.sipush 16384, 3) := by decide +kernel
theorem dX8_wave_8 : decode cX8_wave 8 = .ok (.if_icmp .ge 18, 3) := by decide +kernel
theorem dX8_wave_11 : decode cX8_wave 11 = .ok (.aload_n 0, 1) := by decide +kernel
theorem dX8_wave_12 : decode cX8_wave 12 = .ok (.getfield 29, 3) := by decide +kernel
theorem dX8_wave_15 : decode cX8_wave 15 = .ok (.iload 4, 2) := by decide +kernel
theorem dX8_wave_17 : decode cX8_wave 17 = .ok (.bipush (-9), 2) := by decide +kernel
theorem dX8_wave_19 : decode cX8_wave 19 = .ok (.iastore, 1) := by decide +kernel
theorem dX8_wave_20 : decode cX8_wave 20 = .ok (.iinc 4 1, 3) := by decide +kernel
theorem dX8_wave_23 : decode cX8_wave 23 = .ok (.goto (-20), 3) := by decide +kernel
theorem dX8_wave_26 : decode cX8_wave 26 = .ok (.aload_n 0, 1) := by decide +kernel
theorem dX8_wave_27 : decode cX8_wave 27 = .ok (.getfield 29, 3) := by decide +kernel
theorem dX8_wave_30 : decode cX8_wave 30 = .ok (.iload_n 1, 1) := by decide +kernel
theorem dX8_wave_31 : decode cX8_wave 31 = .ok (.iconst 0, 1) := by decide +kernel
theorem dX8_wave_32 : decode cX8_wave 32 = .ok (.iastore, 1) := by decide +kernel
theorem dX8_wave_33 : decode cX8_wave 33 = .ok (.aload_n 0, 1) := by decide +kernel
theorem dX8_wave_34 : decode cX8_wave 34 = .ok (.getfield 32, 3) := by decide +kernel
theorem dX8_wave_37 : decode cX8_wave 37 = .ok (.iconst 0, 1) := by decide +kernel
theorem dX8_wave_38 : decode cX8_wave 38 = .ok (.iload_n 1, 1) := by decide +kernel
theorem dX8_wave_39 : decode cX8_wave 39 = .ok (.iastore, 1) := by decide +kernel
theorem dX8_wave_40 : decode cX8_wave 40 = .ok (.aload_n 0, 1) := by decide +kernel
theorem dX8_wave_41 : decode cX8_wave 41 = .ok (.iconst 1, 1) := by decide +kernel
theorem dX8_wave_42 : decode cX8_wave 42 = .ok (.putfield 195, 3) := by decide +kernel
theorem dX8_wave_45 : decode cX8_wave 45 = .ok (.iconst 0, 1) := by decide +kernel
theorem dX8_wave_46 : decode cX8_wave 46 = .ok (.istore 4, 2) := by decide +kernel
theorem dX8_wave_48 : decode cX8_wave 48 = .ok (.iload 4, 2) := by decide +kernel
theorem dX8_wave_50 : decode cX8_wave 50 = .ok (.aload_n 0, 1) := by decide +kernel
theorem dX8_wave_51 : decode cX8_wave 51 = .ok (.getfield 195, 3) := by decide +kernel
theorem dX8_wave_54 : decode cX8_wave 54 = .ok (.if_icmp .ge 157, 3) := by decide +kernel
theorem dX8_wave_57 : decode cX8_wave 57 = .ok (.aload_n 0, 1) := by decide +kernel
theorem dX8_wave_58 : decode cX8_wave 58 = .ok (.getfield 32, 3) := by decide +kernel
theorem dX8_wave_61 : decode cX8_wave 61 = .ok (.iload 4, 2) := by decide +kernel
theorem dX8_wave_63 : decode cX8_wave 63 = .ok (.iaload, 1) := by decide +kernel
theorem dX8_wave_64 : decode cX8_wave 64 = .ok (.istore 5, 2) := by decide +kernel
theorem dX8_wave_66 : decode cX8_wave 66 = .ok (.iconst 0, 1) := by decide +kernel
theorem dX8_wave_67 : decode cX8_wave 67 = .ok (.istore 6, 2) := by decide +kernel
theorem dX8_wave_69 : decode cX8_wave 69 = .ok (.iload 6, 2) := by decide +kernel
theorem dX8_wave_71 : decode cX8_wave 71 = .ok (.bipush 20, 2) := by decide +kernel
theorem dX8_wave_73 : decode cX8_wave 73 = .ok (.if_icmp .ge 132, 3) := by decide +kernel
theorem dX8_wave_76 : decode cX8_wave 76 = .ok (.bipush 100, 2) := by decide +kernel
theorem dX8_wave_78 : decode cX8_wave 78 = .ok (.iload 6, 2) := by decide +kernel
theorem dX8_wave_80 : decode cX8_wave 80 = .ok (.iconst 4, 1) := by decide +kernel
theorem dX8_wave_81 : decode cX8_wave 81 = .ok (.idiv, 1) := by decide +kernel
theorem dX8_wave_82 : decode cX8_wave 82 = .ok (.imul, 1) := by decide +kernel
theorem dX8_wave_83 : decode cX8_wave 83 = .ok (.bipush 10, 2) := by decide +kernel
theorem dX8_wave_85 : decode cX8_wave 85 = .ok (.iload 6, 2) := by decide +kernel
theorem dX8_wave_87 : decode cX8_wave 87 = .ok (.iconst 4, 1) := by decide +kernel
theorem dX8_wave_88 : decode cX8_wave 88 = .ok (.irem, 1) := by decide +kernel
theorem dX8_wave_89 : decode cX8_wave 89 = .ok (.imul, 1) := by decide +kernel
theorem dX8_wave_90 : decode cX8_wave 90 = .ok (.iadd, 1) := by decide +kernel
theorem dX8_wave_91 : decode cX8_wave 91 = .ok (.istore 7, 2) := by decide +kernel
theorem dX8_wave_93 : decode cX8_wave 93 = .ok (.aload_n 0, 1) := by decide +kernel
theorem dX8_wave_94 : decode cX8_wave 94 = .ok (.iload 5, 2) := by decide +kernel
theorem dX8_wave_96 : decode cX8_wave 96 = .ok (.iload_n 2, 1) := by decide +kernel
theorem dX8_wave_97 : decode cX8_wave 97 = .ok (.iload 7, 2) := by decide +kernel
theorem dX8_wave_99 : decode cX8_wave 99 = .ok (.invokevirtual 186, 3) := by decide +kernel
theorem dX8_wave_102 : decode cX8_wave 102 = .ok (.ifCond .eq 20, 3) := by decide +kernel
theorem dX8_wave_105 : decode cX8_wave 105 = .ok (.iload_n 3, 1) := by decide +kernel
theorem dX8_wave_106 : decode cX8_wave 106 = .ok (.iload_n 2, 1) := by decide +kernel
theorem dX8_wave_107 : decode cX8_wave 107 = .ok (.if_icmp .eq 92, 3) := by decide +kernel
theorem dX8_wave_110 : decode cX8_wave 110 = .ok (.aload_n 0, 1) := by decide +kernel
theorem dX8_wave_111 : decode cX8_wave 111 = .ok (.iload 5, 2) := by decide +kernel
theorem dX8_wave_113 : decode cX8_wave 113 = .ok (.iload_n 3, 1) := by decide +kernel
theorem dX8_wave_114 : decode cX8_wave 114 = .ok (.iload 7, 2) := by decide +kernel
theorem dX8_wave_116 : decode cX8_wave 116 = .ok (.invokevirtual 186, 3) := by decide +kernel
theorem dX8_wave_119 : decode cX8_wave 119 = .ok (.ifCond .ne 80, 3) := by decide +kernel
theorem dX8_wave_122 : decode cX8_wave 122 = .ok (.aload_n 0, 1) := by decide +kernel
theorem dX8_wave_123 : decode cX8_wave 123 = .ok (.iload 5, 2) := by decide +kernel
theorem dX8_wave_125 : decode cX8_wave 125 = .ok (.iload 7, 2) := by decide +kernel
theorem dX8_wave_127 : decode cX8_wave 127 = .ok (.invokevirtual 183, 3) := by decide +kernel
theorem dX8_wave_130 : decode cX8_wave 130 = .ok (.istore 8, 2) := by decide +kernel
theorem dX8_wave_132 : decode cX8_wave 132 = .ok (.aload_n 0, 1) := by decide +kernel
theorem dX8_wave_133 : decode cX8_wave 133 = .ok (.getfield 29, 3) := by decide +kernel
theorem dX8_wave_136 : decode cX8_wave 136 = .ok (.iload 8, 2) := by decide +kernel
theorem dX8_wave_138 : decode cX8_wave 138 = .ok (.iaload, 1) := by decide +kernel
theorem dX8_wave_139 : decode cX8_wave 139 = .ok (.bipush (-9), 2) := by decide +kernel
theorem dX8_wave_141 : decode cX8_wave 141 = .ok (.if_icmp .ne 58, 3) := by decide +kernel
theorem dX8_wave_144 : decode cX8_wave 144 = .ok (.aload_n 0, 1) := by decide +kernel
theorem dX8_wave_145 : decode cX8_wave 145 = .ok (.getfield 29, 3) := by decide +kernel
theorem dX8_wave_148 : decode cX8_wave 148 = .ok (.iload 8, 2) := by decide +kernel
theorem dX8_wave_150 : decode cX8_wave 150 = .ok (.aload_n 0, 1) := by decide +kernel
theorem dX8_wave_151 : decode cX8_wave 151 = .ok (.getfield 29, 3) := by decide +kernel
theorem dX8_wave_154 : decode cX8_wave 154 = .ok (.iload 5, 2) := by decide +kernel
theorem dX8_wave_156 : decode cX8_wave 156 = .ok (.iaload, 1) := by decide +kernel
theorem dX8_wave_157 : decode cX8_wave 157 = .ok (.iconst 1, 1) := by decide +kernel
theorem dX8_wave_158 : decode cX8_wave 158 = .ok (.iadd, 1) := by decide +kernel
theorem dX8_wave_159 : decode cX8_wave 159 = .ok (.iastore, 1) := by decide +kernel
theorem dX8_wave_160 : decode cX8_wave 160 = .ok (.aload_n 0, 1) := by decide +kernel
theorem dX8_wave_161 : decode cX8_wave 161 = .ok (.getfield 35, 3) := by decide +kernel
theorem dX8_wave_164 : decode cX8_wave 164 = .ok (.iload 8, 2) := by decide +kernel
theorem dX8_wave_166 : decode cX8_wave 166 = .ok (.iload 5, 2) := by decide +kernel
theorem dX8_wave_168 : decode cX8_wave 168 = .ok (.iastore, 1) := by decide +kernel
theorem dX8_wave_169 : decode cX8_wave 169 = .ok (.aload_n 0, 1) := by decide +kernel
theorem dX8_wave_170 : decode cX8_wave 170 = .ok (.getfield 38, 3) := by decide +kernel
theorem dX8_wave_173 : decode cX8_wave 173 = .ok (.iload 8, 2) := by decide +kernel
theorem dX8_wave_175 : decode cX8_wave 175 = .ok (.iload 7, 2) := by decide +kernel
theorem dX8_wave_177 : decode cX8_wave 177 = .ok (.iastore, 1) := by decide +kernel
theorem dX8_wave_178 : decode cX8_wave 178 = .ok (.aload_n 0, 1) := by decide +kernel
theorem dX8_wave_179 : decode cX8_wave 179 = .ok (.getfield 32, 3) := by decide +kernel
theorem dX8_wave_182 : decode cX8_wave 182 = .ok (.aload_n 0, 1) := by decide +kernel
theorem dX8_wave_183 : decode cX8_wave 183 = .ok (.getfield 195, 3) := by decide +kernel
theorem dX8_wave_186 : decode cX8_wave 186 = .ok (.iload 8, 2) := by decide +kernel
theorem dX8_wave_188 : decode cX8_wave 188 = .ok (.iastore, 1) := by decide +kernel
theorem dX8_wave_189 : decode cX8_wave 189 = .ok (.aload_n 0, 1) := by decide +kernel
theorem dX8_wave_190 : decode cX8_wave 190 = .ok (.dup, 1) := by decide +kernel
theorem dX8_wave_191 : decode cX8_wave 191 = .ok (.getfield 195, 3) := by decide +kernel
theorem dX8_wave_194 : decode cX8_wave 194 = .ok (.iconst 1, 1) := by decide +kernel
theorem dX8_wave_195 : decode cX8_wave 195 = .ok (.iadd, 1) := by decide +kernel
theorem dX8_wave_196 : decode cX8_wave 196 = .ok (.putfield 195, 3) := by decide +kernel
theorem dX8_wave_199 : decode cX8_wave 199 = .ok (.iinc 6 1, 3) := by decide +kernel
theorem dX8_wave_202 : decode cX8_wave 202 = .ok (.goto (-133), 3) := by decide +kernel
theorem dX8_wave_205 : decode cX8_wave 205 = .ok (.iinc 4 1, 3) := by decide +kernel
theorem dX8_wave_208 : decode cX8_wave 208 = .ok (.goto (-160), 3) := by decide +kernel
theorem dX8_wave_211 : decode cX8_wave 211 = .ok (.return_, 1) := by decide +kernel
theorem dX8_reach_0 : decode cX8_reach 0 = .ok (.aload_n 0, 1) := by decide +kernel
theorem dX8_reach_1 : decode cX8_reach 1 = .ok (.iconst 0, 1) := by decide +kernel
theorem dX8_reach_2 : decode cX8_reach 2 = .ok (.putfield 60, 3) := by decide +kernel
theorem dX8_reach_5 : decode cX8_reach 5 = .ok (.iload_n 1, 1) := by decide +kernel
theorem dX8_reach_6 : decode cX8_reach 6 = .ok (.invokestatic 171, 3) := by decide +kernel
theorem dX8_reach_9 : decode cX8_reach 9 = .ok (.ifCond .eq 6, 3) := by decide +kernel
theorem dX8_reach_12 : decode cX8_reach 12 = .ok (.bipush (-2), 2) := by decide +kernel
theorem dX8_reach_14 : decode cX8_reach 14 = .ok (.ireturn, 1) := by decide +kernel
theorem dX8_reach_15 : decode cX8_reach 15 = .ok (.aload_n 0, 1) := by decide +kernel
theorem dX8_reach_16 : decode cX8_reach 16 = .ok (.aload_n 0, 1) := by decide +kernel
theorem dX8_reach_17 : decode cX8_reach 17 = .ok (.getfield 140, 3) := by decide +kernel
theorem dX8_reach_20 : decode cX8_reach 20 = .ok (.iload_n 1, 1) := by decide +kernel
theorem dX8_reach_21 : decode cX8_reach 21 = .ok (.iload_n 1, 1) := by decide +kernel
theorem dX8_reach_22 : decode cX8_reach 22 = .ok (.invokevirtual 198, 3) := by decide +kernel
theorem dX8_reach_25 : decode cX8_reach 25 = .ok (.aload_n 0, 1) := by decide +kernel
theorem dX8_reach_26 : decode cX8_reach 26 = .ok (.getfield 195, 3) := by decide +kernel
theorem dX8_reach_29 : decode cX8_reach 29 = .ok (.ireturn, 1) := by decide +kernel
theorem dX8_soMany_0 : decode cX8_soMany 0 = .ok (.iconst 0, 1) := by decide +kernel
theorem dX8_soMany_1 : decode cX8_soMany 1 = .ok (.istore_n 2, 1) := by decide +kernel
theorem dX8_soMany_2 : decode cX8_soMany 2 = .ok (.iconst 0, 1) := by decide +kernel
theorem dX8_soMany_3 : decode cX8_soMany 3 = .ok (.istore_n 3, 1) := by decide +kernel
theorem dX8_soMany_4 : decode cX8_soMany 4 = .ok (.iload_n 3, 1) := by decide +kernel
theorem dX8_soMany_5 : decode cX8_soMany 5 = .ok (.aload_n 0, 1) := by decide +kernel
theorem dX8_soMany_6 : decode cX8_soMany 6 = .ok (.getfield 195, 3) := by decide +kernel
theorem dX8_soMany_9 : decode cX8_soMany 9 = .ok (.if_icmp .ge 30, 3) := by decide +kernel
theorem dX8_soMany_12 : decode cX8_soMany 12 = .ok (.iload_n 2, 1) := by decide +kernel
theorem dX8_soMany_13 : decode cX8_soMany 13 = .ok (.aload_n 0, 1) := by decide +kernel
theorem dX8_soMany_14 : decode cX8_soMany 14 = .ok (.getfield 32, 3) := by decide +kernel
theorem dX8_soMany_17 : decode cX8_soMany 17 = .ok (.iload_n 3, 1) := by decide +kernel
theorem dX8_soMany_18 : decode cX8_soMany 18 = .ok (.iaload, 1) := by decide +kernel
theorem dX8_soMany_19 : decode cX8_soMany 19 = .ok (.iload_n 1, 1) := by decide +kernel
theorem dX8_soMany_20 : decode cX8_soMany 20 = .ok (.invokestatic 164, 3) := by decide +kernel
theorem dX8_soMany_23 : decode cX8_soMany 23 = .ok (.ifCond .eq 7, 3) := by decide +kernel
theorem dX8_soMany_26 : decode cX8_soMany 26 = .ok (.iconst 1, 1) := by decide +kernel
theorem dX8_soMany_27 : decode cX8_soMany 27 = .ok (.goto 4, 3) := by decide +kernel
theorem dX8_soMany_30 : decode cX8_soMany 30 = .ok (.iconst 0, 1) := by decide +kernel
theorem dX8_soMany_31 : decode cX8_soMany 31 = .ok (.iadd, 1) := by decide +kernel
theorem dX8_soMany_32 : decode cX8_soMany 32 = .ok (.istore_n 2, 1) := by decide +kernel
theorem dX8_soMany_33 : decode cX8_soMany 33 = .ok (.iinc 3 1, 3) := by decide +kernel
theorem dX8_soMany_36 : decode cX8_soMany 36 = .ok (.goto (-32), 3) := by decide +kernel
theorem dX8_soMany_39 : decode cX8_soMany 39 = .ok (.iload_n 2, 1) := by decide +kernel
theorem dX8_soMany_40 : decode cX8_soMany 40 = .ok (.ireturn, 1) := by decide +kernel
theorem dX8_among_0 : decode cX8_among 0 = .ok (.aload_n 0, 1) := by decide +kernel
theorem dX8_among_1 : decode cX8_among 1 = .ok (.iconst 0, 1) := by decide +kernel
theorem dX8_among_2 : decode cX8_among 2 = .ok (.putfield 60, 3) := by decide +kernel
theorem dX8_among_5 : decode cX8_among 5 = .ok (.iload_n 1, 1) := by decide +kernel
theorem dX8_among_6 : decode cX8_among 6 = .ok (.invokestatic 171, 3) := by decide +kernel
theorem dX8_among_9 : decode cX8_among 9 = .ok (.ifCond .ne 10, 3) := by decide +kernel
theorem dX8_among_12 : decode cX8_among 12 = .ok (.iload_n 2, 1) := by decide +kernel
theorem dX8_among_13 : decode cX8_among 13 = .ok (.invokestatic 177, 3) := by decide +kernel
theorem dX8_among_16 : decode cX8_among 16 = .ok (.ifCond .eq 6, 3) := by decide +kernel
theorem dX8_among_19 : decode cX8_among 19 = .ok (.bipush (-2), 2) := by decide +kernel
theorem dX8_among_21 : decode cX8_among 21 = .ok (.ireturn, 1) := by decide +kernel
theorem dX8_among_22 : decode cX8_among 22 = .ok (.aload_n 0, 1) := by decide +kernel
theorem dX8_among_23 : decode cX8_among 23 = .ok (.aload_n 0, 1) := by decide +kernel
theorem dX8_among_24 : decode cX8_among 24 = .ok (.getfield 140, 3) := by decide +kernel
theorem dX8_among_27 : decode cX8_among 27 = .ok (.iload_n 1, 1) := by decide +kernel
theorem dX8_among_28 : decode cX8_among 28 = .ok (.iload_n 1, 1) := by decide +kernel
theorem dX8_among_29 : decode cX8_among 29 = .ok (.invokevirtual 198, 3) := by decide +kernel
theorem dX8_among_32 : decode cX8_among 32 = .ok (.aload_n 0, 1) := by decide +kernel
theorem dX8_among_33 : decode cX8_among 33 = .ok (.iload_n 2, 1) := by decide +kernel
theorem dX8_among_34 : decode cX8_among 34 = .ok (.invokevirtual 202, 3) := by decide +kernel
theorem dX8_among_37 : decode cX8_among 37 = .ok (.ireturn, 1) := by decide +kernel
theorem dX8_firstSo_0 : decode cX8_firstSo 0 = .ok (.iconst 0, 1) := by decide +kernel
theorem dX8_firstSo_1 : decode cX8_firstSo 1 = .ok (.istore_n 2, 1) := by decide +kernel
theorem dX8_firstSo_2 : decode cX8_firstSo 2 = .ok (.iload_n 2, 1) := by decide +kernel
theorem dX8_firstSo_3 : decode cX8_firstSo 3 = .ok (.aload_n 0, 1) := by decide +kernel
theorem dX8_firstSo_4 : decode cX8_firstSo 4 = .ok (.getfield 195, 3) := by decide +kernel
theorem dX8_firstSo_7 : decode cX8_firstSo 7 = .ok (.if_icmp .ge 29, 3) := by decide +kernel
theorem dX8_firstSo_10 : decode cX8_firstSo 10 = .ok (.aload_n 0, 1) := by decide +kernel
theorem dX8_firstSo_11 : decode cX8_firstSo 11 = .ok (.getfield 32, 3) := by decide +kernel
theorem dX8_firstSo_14 : decode cX8_firstSo 14 = .ok (.iload_n 2, 1) := by decide +kernel
theorem dX8_firstSo_15 : decode cX8_firstSo 15 = .ok (.iaload, 1) := by decide +kernel
theorem dX8_firstSo_16 : decode cX8_firstSo 16 = .ok (.iload_n 1, 1) := by decide +kernel
theorem dX8_firstSo_17 : decode cX8_firstSo 17 = .ok (.invokestatic 164, 3) := by decide +kernel
theorem dX8_firstSo_20 : decode cX8_firstSo 20 = .ok (.ifCond .eq 10, 3) := by decide +kernel
theorem dX8_firstSo_23 : decode cX8_firstSo 23 = .ok (.aload_n 0, 1) := by decide +kernel
theorem dX8_firstSo_24 : decode cX8_firstSo 24 = .ok (.getfield 32, 3) := by decide +kernel
theorem dX8_firstSo_27 : decode cX8_firstSo 27 = .ok (.iload_n 2, 1) := by decide +kernel
theorem dX8_firstSo_28 : decode cX8_firstSo 28 = .ok (.iaload, 1) := by decide +kernel
theorem dX8_firstSo_29 : decode cX8_firstSo 29 = .ok (.ireturn, 1) := by decide +kernel
theorem dX8_firstSo_30 : decode cX8_firstSo 30 = .ok (.iinc 2 1, 3) := by decide +kernel
theorem dX8_firstSo_33 : decode cX8_firstSo 33 = .ok (.goto (-31), 3) := by decide +kernel
theorem dX8_firstSo_36 : decode cX8_firstSo 36 = .ok (.bipush (-9), 2) := by decide +kernel
theorem dX8_firstSo_38 : decode cX8_firstSo 38 = .ok (.ireturn, 1) := by decide +kernel
theorem dX8_shortest_0 : decode cX8_shortest 0 = .ok (.aload_n 0, 1) := by decide +kernel
theorem dX8_shortest_1 : decode cX8_shortest 1 = .ok (.iconst 0, 1) := by decide +kernel
theorem dX8_shortest_2 : decode cX8_shortest 2 = .ok (.putfield 60, 3) := by decide +kernel
theorem dX8_shortest_5 : decode cX8_shortest 5 = .ok (.iload_n 1, 1) := by decide +kernel
theorem dX8_shortest_6 : decode cX8_shortest 6 = .ok (.invokestatic 171, 3) := by decide +kernel
theorem dX8_shortest_9 : decode cX8_shortest 9 = .ok (.ifCond .ne 10, 3) := by decide +kernel
theorem dX8_shortest_12 : decode cX8_shortest 12 = .ok (.iload_n 2, 1) := by decide +kernel
theorem dX8_shortest_13 : decode cX8_shortest 13 = .ok (.invokestatic 177, 3) := by decide +kernel
theorem dX8_shortest_16 : decode cX8_shortest 16 = .ok (.ifCond .eq 6, 3) := by decide +kernel
theorem dX8_shortest_19 : decode cX8_shortest 19 = .ok (.bipush (-2), 2) := by decide +kernel
theorem dX8_shortest_21 : decode cX8_shortest 21 = .ok (.ireturn, 1) := by decide +kernel
theorem dX8_shortest_22 : decode cX8_shortest 22 = .ok (.aload_n 0, 1) := by decide +kernel
theorem dX8_shortest_23 : decode cX8_shortest 23 = .ok (.aload_n 0, 1) := by decide +kernel
theorem dX8_shortest_24 : decode cX8_shortest 24 = .ok (.getfield 140, 3) := by decide +kernel
theorem dX8_shortest_27 : decode cX8_shortest 27 = .ok (.iload_n 1, 1) := by decide +kernel
theorem dX8_shortest_28 : decode cX8_shortest 28 = .ok (.iload_n 1, 1) := by decide +kernel
theorem dX8_shortest_29 : decode cX8_shortest 29 = .ok (.invokevirtual 198, 3) := by decide +kernel
theorem dX8_shortest_32 : decode cX8_shortest 32 = .ok (.aload_n 0, 1) := by decide +kernel
theorem dX8_shortest_33 : decode cX8_shortest 33 = .ok (.iload_n 2, 1) := by decide +kernel
theorem dX8_shortest_34 : decode cX8_shortest 34 = .ok (.invokevirtual 206, 3) := by decide +kernel
theorem dX8_shortest_37 : decode cX8_shortest 37 = .ok (.istore_n 3, 1) := by decide +kernel
theorem dX8_shortest_38 : decode cX8_shortest 38 = .ok (.iload_n 3, 1) := by decide +kernel
theorem dX8_shortest_39 : decode cX8_shortest 39 = .ok (.bipush (-9), 2) := by decide +kernel
theorem dX8_shortest_41 : decode cX8_shortest 41 = .ok (.if_icmp .ne 8, 3) := by decide +kernel
theorem dX8_shortest_44 : decode cX8_shortest 44 = .ok (.bipush (-9), 2) := by decide +kernel
theorem dX8_shortest_46 : decode cX8_shortest 46 = .ok (.goto 9, 3) := by decide +kernel
theorem dX8_shortest_49 : decode cX8_shortest 49 = .ok (.aload_n 0, 1) := by decide +kernel
theorem dX8_shortest_50 : decode cX8_shortest 50 = .ok (.getfield 29, 3) := by decide +kernel
theorem dX8_shortest_53 : decode cX8_shortest 53 = .ok (.iload_n 3, 1) := by decide +kernel
theorem dX8_shortest_54 : decode cX8_shortest 54 = .ok (.iaload, 1) := by decide +kernel
theorem dX8_shortest_55 : decode cX8_shortest 55 = .ok (.ireturn, 1) := by decide +kernel
theorem dX8_step_0 : decode cX8_step 0 = .ok (.aload_n 0, 1) := by decide +kernel
theorem dX8_step_1 : decode cX8_step 1 = .ok (.iconst 0, 1) := by decide +kernel
theorem dX8_step_2 : decode cX8_step 2 = .ok (.putfield 60, 3) := by decide +kernel
theorem dX8_step_5 : decode cX8_step 5 = .ok (.iload_n 1, 1) := by decide +kernel
theorem dX8_step_6 : decode cX8_step 6 = .ok (.invokestatic 171, 3) := by decide +kernel
theorem dX8_step_9 : decode cX8_step 9 = .ok (.ifCond .ne 10, 3) := by decide +kernel
theorem dX8_step_12 : decode cX8_step 12 = .ok (.iload_n 2, 1) := by decide +kernel
theorem dX8_step_13 : decode cX8_step 13 = .ok (.invokestatic 177, 3) := by decide +kernel
theorem dX8_step_16 : decode cX8_step 16 = .ok (.ifCond .eq 6, 3) := by decide +kernel
theorem dX8_step_19 : decode cX8_step 19 = .ok (.bipush (-2), 2) := by decide +kernel
theorem dX8_step_21 : decode cX8_step 21 = .ok (.ireturn, 1) := by decide +kernel
theorem dX8_step_22 : decode cX8_step 22 = .ok (.aload_n 0, 1) := by decide +kernel
theorem dX8_step_23 : decode cX8_step 23 = .ok (.aload_n 0, 1) := by decide +kernel
theorem dX8_step_24 : decode cX8_step 24 = .ok (.getfield 140, 3) := by decide +kernel
theorem dX8_step_27 : decode cX8_step 27 = .ok (.iload_n 1, 1) := by decide +kernel
theorem dX8_step_28 : decode cX8_step 28 = .ok (.iload_n 1, 1) := by decide +kernel
theorem dX8_step_29 : decode cX8_step 29 = .ok (.invokevirtual 198, 3) := by decide +kernel
theorem dX8_step_32 : decode cX8_step 32 = .ok (.aload_n 0, 1) := by decide +kernel
theorem dX8_step_33 : decode cX8_step 33 = .ok (.iload_n 2, 1) := by decide +kernel
theorem dX8_step_34 : decode cX8_step 34 = .ok (.invokevirtual 206, 3) := by decide +kernel
theorem dX8_step_37 : decode cX8_step 37 = .ok (.istore 4, 2) := by decide +kernel
theorem dX8_step_39 : decode cX8_step 39 = .ok (.iload 4, 2) := by decide +kernel
theorem dX8_step_41 : decode cX8_step 41 = .ok (.bipush (-9), 2) := by decide +kernel
theorem dX8_step_43 : decode cX8_step 43 = .ok (.if_icmp .eq 22, 3) := by decide +kernel
theorem dX8_step_46 : decode cX8_step 46 = .ok (.iload_n 3, 1) := by decide +kernel
theorem dX8_step_47 : decode cX8_step 47 = .ok (.i2l, 1) := by decide +kernel
theorem dX8_step_48 : decode cX8_step 48 = .ok (.lconst 0, 1) := by decide +kernel
theorem dX8_step_49 : decode cX8_step 49 = .ok (.aload_n 0, 1) := by decide +kernel
theorem dX8_step_50 : decode cX8_step 50 = .ok (.getfield 29, 3) := by decide +kernel
theorem dX8_step_53 : decode cX8_step 53 = .ok (.iload 4, 2) := by decide +kernel
theorem dX8_step_55 : decode cX8_step 55 = .ok (.iaload, 1) := by decide +kernel
theorem dX8_step_56 : decode cX8_step 56 = .ok (.iconst 1, 1) := by decide +kernel
theorem dX8_step_57 : decode cX8_step 57 = .ok (.isub, 1) := by decide +kernel
theorem dX8_step_58 : decode cX8_step 58 = .ok (.i2l, 1) := by decide +kernel
theorem dX8_step_59 : decode cX8_step 59 = .ok (.invokestatic 65, 3) := by decide +kernel
theorem dX8_step_62 : decode cX8_step 62 = .ok (.ifCond .ne 6, 3) := by decide +kernel
theorem dX8_step_65 : decode cX8_step 65 = .ok (.bipush (-9), 2) := by decide +kernel
theorem dX8_step_67 : decode cX8_step 67 = .ok (.ireturn, 1) := by decide +kernel
theorem dX8_step_68 : decode cX8_step 68 = .ok (.iload 4, 2) := by decide +kernel
theorem dX8_step_70 : decode cX8_step 70 = .ok (.istore 5, 2) := by decide +kernel
theorem dX8_step_72 : decode cX8_step 72 = .ok (.aload_n 0, 1) := by decide +kernel
theorem dX8_step_73 : decode cX8_step 73 = .ok (.getfield 29, 3) := by decide +kernel
theorem dX8_step_76 : decode cX8_step 76 = .ok (.iload 5, 2) := by decide +kernel
theorem dX8_step_78 : decode cX8_step 78 = .ok (.iaload, 1) := by decide +kernel
theorem dX8_step_79 : decode cX8_step 79 = .ok (.iload_n 3, 1) := by decide +kernel
theorem dX8_step_80 : decode cX8_step 80 = .ok (.iconst 1, 1) := by decide +kernel
theorem dX8_step_81 : decode cX8_step 81 = .ok (.iadd, 1) := by decide +kernel
theorem dX8_step_82 : decode cX8_step 82 = .ok (.if_icmp .le 15, 3) := by decide +kernel
theorem dX8_step_85 : decode cX8_step 85 = .ok (.aload_n 0, 1) := by decide +kernel
theorem dX8_step_86 : decode cX8_step 86 = .ok (.getfield 35, 3) := by decide +kernel
theorem dX8_step_89 : decode cX8_step 89 = .ok (.iload 5, 2) := by decide +kernel
theorem dX8_step_91 : decode cX8_step 91 = .ok (.iaload, 1) := by decide +kernel
theorem dX8_step_92 : decode cX8_step 92 = .ok (.istore 5, 2) := by decide +kernel
theorem dX8_step_94 : decode cX8_step 94 = .ok (.goto (-22), 3) := by decide +kernel
theorem dX8_step_97 : decode cX8_step 97 = .ok (.aload_n 0, 1) := by decide +kernel
theorem dX8_step_98 : decode cX8_step 98 = .ok (.getfield 38, 3) := by decide +kernel
theorem dX8_step_101 : decode cX8_step 101 = .ok (.iload 5, 2) := by decide +kernel
theorem dX8_step_103 : decode cX8_step 103 = .ok (.iaload, 1) := by decide +kernel
theorem dX8_step_104 : decode cX8_step 104 = .ok (.ireturn, 1) := by decide +kernel
theorem dX8_who_0 : decode cX8_who 0 = .ok (.aload_n 0, 1) := by decide +kernel
theorem dX8_who_1 : decode cX8_who 1 = .ok (.iconst 0, 1) := by decide +kernel
theorem dX8_who_2 : decode cX8_who 2 = .ok (.putfield 60, 3) := by decide +kernel
theorem dX8_who_5 : decode cX8_who 5 = .ok (.iload_n 1, 1) := by decide +kernel
theorem dX8_who_6 : decode cX8_who 6 = .ok (.invokestatic 177, 3) := by decide +kernel
theorem dX8_who_9 : decode cX8_who 9 = .ok (.ifCond .eq 6, 3) := by decide +kernel
theorem dX8_who_12 : decode cX8_who 12 = .ok (.bipush (-2), 2) := by decide +kernel
theorem dX8_who_14 : decode cX8_who 14 = .ok (.ireturn, 1) := by decide +kernel
theorem dX8_who_15 : decode cX8_who 15 = .ok (.bipush (-9), 2) := by decide +kernel
theorem dX8_who_17 : decode cX8_who 17 = .ok (.istore_n 2, 1) := by decide +kernel
theorem dX8_who_18 : decode cX8_who 18 = .ok (.iconst 5, 1) := by decide +kernel
theorem dX8_who_19 : decode cX8_who 19 = .ok (.istore_n 3, 1) := by decide +kernel
theorem dX8_who_20 : decode cX8_who 20 = .ok (.iconst 0, 1) := by decide +kernel
theorem dX8_who_21 : decode cX8_who 21 = .ok (.istore 4, 2) := by decide +kernel
theorem dX8_who_23 : decode cX8_who 23 = .ok (.iload 4, 2) := by decide +kernel
theorem dX8_who_25 : decode cX8_who 25 = .ok (.bipush 15, 2) := by decide +kernel
theorem dX8_who_27 : decode cX8_who 27 = .ok (.if_icmp .gt 68, 3) := by decide +kernel
theorem dX8_who_30 : decode cX8_who 30 = .ok (.iload 4, 2) := by decide +kernel
theorem dX8_who_32 : decode cX8_who 32 = .ok (.iconst 1, 1) := by decide +kernel
theorem dX8_who_33 : decode cX8_who 33 = .ok (.iand, 1) := by decide +kernel
theorem dX8_who_34 : decode cX8_who 34 = .ok (.iload 4, 2) := by decide +kernel
theorem dX8_who_36 : decode cX8_who 36 = .ok (.iconst 1, 1) := by decide +kernel
theorem dX8_who_37 : decode cX8_who 37 = .ok (.ishr, 1) := by decide +kernel
theorem dX8_who_38 : decode cX8_who 38 = .ok (.iconst 1, 1) := by decide +kernel
theorem dX8_who_39 : decode cX8_who 39 = .ok (.iand, 1) := by decide +kernel
theorem dX8_who_40 : decode cX8_who 40 = .ok (.iadd, 1) := by decide +kernel
theorem dX8_who_41 : decode cX8_who 41 = .ok (.iload 4, 2) := by decide +kernel
theorem dX8_who_43 : decode cX8_who 43 = .ok (.iconst 2, 1) := by decide +kernel
theorem dX8_who_44 : decode cX8_who 44 = .ok (.ishr, 1) := by decide +kernel
theorem dX8_who_45 : decode cX8_who 45 = .ok (.iconst 1, 1) := by decide +kernel
theorem dX8_who_46 : decode cX8_who 46 = .ok (.iand, 1) := by decide +kernel
theorem dX8_who_47 : decode cX8_who 47 = .ok (.iadd, 1) := by decide +kernel
theorem dX8_who_48 : decode cX8_who 48 = .ok (.iload 4, 2) := by decide +kernel
theorem dX8_who_50 : decode cX8_who 50 = .ok (.iconst 3, 1) := by decide +kernel
theorem dX8_who_51 : decode cX8_who 51 = .ok (.ishr, 1) := by decide +kernel
theorem dX8_who_52 : decode cX8_who 52 = .ok (.iadd, 1) := by decide +kernel
theorem dX8_who_53 : decode cX8_who 53 = .ok (.istore 5, 2) := by decide +kernel
theorem dX8_who_55 : decode cX8_who 55 = .ok (.iload 5, 2) := by decide +kernel
theorem dX8_who_57 : decode cX8_who 57 = .ok (.iload_n 3, 1) := by decide +kernel
theorem dX8_who_58 : decode cX8_who 58 = .ok (.if_icmp .ge 31, 3) := by decide +kernel
theorem dX8_who_61 : decode cX8_who 61 = .ok (.aload_n 0, 1) := by decide +kernel
theorem dX8_who_62 : decode cX8_who 62 = .ok (.aload_n 0, 1) := by decide +kernel
theorem dX8_who_63 : decode cX8_who 63 = .ok (.getfield 140, 3) := by decide +kernel
theorem dX8_who_66 : decode cX8_who 66 = .ok (.iload 4, 2) := by decide +kernel
theorem dX8_who_68 : decode cX8_who 68 = .ok (.iload 4, 2) := by decide +kernel
theorem dX8_who_70 : decode cX8_who 70 = .ok (.invokevirtual 198, 3) := by decide +kernel
theorem dX8_who_73 : decode cX8_who 73 = .ok (.aload_n 0, 1) := by decide +kernel
theorem dX8_who_74 : decode cX8_who 74 = .ok (.iload_n 1, 1) := by decide +kernel
theorem dX8_who_75 : decode cX8_who 75 = .ok (.invokevirtual 206, 3) := by decide +kernel
theorem dX8_who_78 : decode cX8_who 78 = .ok (.bipush (-9), 2) := by decide +kernel
theorem dX8_who_80 : decode cX8_who 80 = .ok (.if_icmp .eq 9, 3) := by decide +kernel
theorem dX8_who_83 : decode cX8_who 83 = .ok (.iload 5, 2) := by decide +kernel
theorem dX8_who_85 : decode cX8_who 85 = .ok (.istore_n 3, 1) := by decide +kernel
theorem dX8_who_86 : decode cX8_who 86 = .ok (.iload 4, 2) := by decide +kernel
theorem dX8_who_88 : decode cX8_who 88 = .ok (.istore_n 2, 1) := by decide +kernel
theorem dX8_who_89 : decode cX8_who 89 = .ok (.iinc 4 1, 3) := by decide +kernel
theorem dX8_who_92 : decode cX8_who 92 = .ok (.goto (-69), 3) := by decide +kernel
theorem dX8_who_95 : decode cX8_who 95 = .ok (.iload_n 2, 1) := by decide +kernel
theorem dX8_who_96 : decode cX8_who 96 = .ok (.ireturn, 1) := by decide +kernel
theorem dX8_layGood_0 : decode cX8_layGood 0 = .ok (.aload_n 0, 1) := by decide +kernel
theorem dX8_layGood_1 : decode cX8_layGood 1 = .ok (.aload_n 0, 1) := by decide +kernel
theorem dX8_layGood_2 : decode cX8_layGood 2 = .ok (.getfield 140, 3) := by decide +kernel
theorem dX8_layGood_5 : decode cX8_layGood 5 = .ok (.bipush 15, 2) := by decide +kernel
theorem dX8_layGood_7 : decode cX8_layGood 7 = .ok (.bipush 15, 2) := by decide +kernel
theorem dX8_layGood_9 : decode cX8_layGood 9 = .ok (.invokevirtual 198, 3) := by decide +kernel
theorem dX8_layGood_12 : decode cX8_layGood 12 = .ok (.iconst 0, 1) := by decide +kernel
theorem dX8_layGood_13 : decode cX8_layGood 13 = .ok (.istore_n 2, 1) := by decide +kernel
theorem dX8_layGood_14 : decode cX8_layGood 14 = .ok (.iload_n 2, 1) := by decide +kernel
theorem dX8_layGood_15 : decode cX8_layGood 15 = .ok (.aload_n 0, 1) := by decide +kernel
theorem dX8_layGood_16 : decode cX8_layGood 16 = .ok (.getfield 195, 3) := by decide +kernel
theorem dX8_layGood_19 : decode cX8_layGood 19 = .ok (.if_icmp .ge 30, 3) := by decide +kernel
theorem dX8_layGood_22 : decode cX8_layGood 22 = .ok (.aload_n 0, 1) := by decide +kernel
theorem dX8_layGood_23 : decode cX8_layGood 23 = .ok (.getfield 41, 3) := by decide +kernel
theorem dX8_layGood_26 : decode cX8_layGood 26 = .ok (.aload_n 0, 1) := by decide +kernel
theorem dX8_layGood_27 : decode cX8_layGood 27 = .ok (.getfield 32, 3) := by decide +kernel
theorem dX8_layGood_30 : decode cX8_layGood 30 = .ok (.iload_n 2, 1) := by decide +kernel
theorem dX8_layGood_31 : decode cX8_layGood 31 = .ok (.iaload, 1) := by decide +kernel
theorem dX8_layGood_32 : decode cX8_layGood 32 = .ok (.aload_n 0, 1) := by decide +kernel
theorem dX8_layGood_33 : decode cX8_layGood 33 = .ok (.getfield 32, 3) := by decide +kernel
theorem dX8_layGood_36 : decode cX8_layGood 36 = .ok (.iload_n 2, 1) := by decide +kernel
theorem dX8_layGood_37 : decode cX8_layGood 37 = .ok (.iaload, 1) := by decide +kernel
theorem dX8_layGood_38 : decode cX8_layGood 38 = .ok (.iload_n 1, 1) := by decide +kernel
theorem dX8_layGood_39 : decode cX8_layGood 39 = .ok (.invokestatic 164, 3) := by decide +kernel
theorem dX8_layGood_42 : decode cX8_layGood 42 = .ok (.bastore, 1) := by decide +kernel
theorem dX8_layGood_43 : decode cX8_layGood 43 = .ok (.iinc 2 1, 3) := by decide +kernel
theorem dX8_layGood_46 : decode cX8_layGood 46 = .ok (.goto (-32), 3) := by decide +kernel
theorem dX8_layGood_49 : decode cX8_layGood 49 = .ok (.iconst 1, 1) := by decide +kernel
theorem dX8_layGood_50 : decode cX8_layGood 50 = .ok (.istore_n 2, 1) := by decide +kernel
theorem dX8_layGood_51 : decode cX8_layGood 51 = .ok (.iload_n 2, 1) := by decide +kernel
theorem dX8_layGood_52 : decode cX8_layGood 52 = .ok (.ifCond .eq 115, 3) := by decide +kernel
theorem dX8_layGood_55 : decode cX8_layGood 55 = .ok (.iconst 0, 1) := by decide +kernel
theorem dX8_layGood_56 : decode cX8_layGood 56 = .ok (.istore_n 2, 1) := by decide +kernel
theorem dX8_layGood_57 : decode cX8_layGood 57 = .ok (.aload_n 0, 1) := by decide +kernel
theorem dX8_layGood_58 : decode cX8_layGood 58 = .ok (.getfield 195, 3) := by decide +kernel
theorem dX8_layGood_61 : decode cX8_layGood 61 = .ok (.iconst 1, 1) := by decide +kernel
theorem dX8_layGood_62 : decode cX8_layGood 62 = .ok (.isub, 1) := by decide +kernel
theorem dX8_layGood_63 : decode cX8_layGood 63 = .ok (.istore_n 3, 1) := by decide +kernel
theorem dX8_layGood_64 : decode cX8_layGood 64 = .ok (.iload_n 3, 1) := by decide +kernel
theorem dX8_layGood_65 : decode cX8_layGood 65 = .ok (.ifCond .lt 99, 3) := by decide +kernel
theorem dX8_layGood_68 : decode cX8_layGood 68 = .ok (.aload_n 0, 1) := by decide +kernel
theorem dX8_layGood_69 : decode cX8_layGood 69 = .ok (.getfield 32, 3) := by decide +kernel
theorem dX8_layGood_72 : decode cX8_layGood 72 = .ok (.iload_n 3, 1) := by decide +kernel
theorem dX8_layGood_73 : decode cX8_layGood 73 = .ok (.iaload, 1) := by decide +kernel
theorem dX8_layGood_74 : decode cX8_layGood 74 = .ok (.istore 4, 2) := by decide +kernel
theorem dX8_layGood_76 : decode cX8_layGood 76 = .ok (.iconst 0, 1) := by decide +kernel
theorem dX8_layGood_77 : decode cX8_layGood 77 = .ok (.istore 5, 2) := by decide +kernel
theorem dX8_layGood_79 : decode cX8_layGood 79 = .ok (.iload 5, 2) := by decide +kernel
theorem dX8_layGood_81 : decode cX8_layGood 81 = .ok (.bipush 20, 2) := by decide +kernel
theorem dX8_layGood_83 : decode cX8_layGood 83 = .ok (.if_icmp .ge 75, 3) := by decide +kernel
theorem dX8_layGood_86 : decode cX8_layGood 86 = .ok (.aload_n 0, 1) := by decide +kernel
theorem dX8_layGood_87 : decode cX8_layGood 87 = .ok (.getfield 41, 3) := by decide +kernel
theorem dX8_layGood_90 : decode cX8_layGood 90 = .ok (.iload 4, 2) := by decide +kernel
theorem dX8_layGood_92 : decode cX8_layGood 92 = .ok (.baload, 1) := by decide +kernel
theorem dX8_layGood_93 : decode cX8_layGood 93 = .ok (.ifCond .eq 65, 3) := by decide +kernel
theorem dX8_layGood_96 : decode cX8_layGood 96 = .ok (.bipush 100, 2) := by decide +kernel
theorem dX8_layGood_98 : decode cX8_layGood 98 = .ok (.iload 5, 2) := by decide +kernel
theorem dX8_layGood_100 : decode cX8_layGood 100 = .ok (.iconst 4, 1) := by decide +kernel
theorem dX8_layGood_101 : decode cX8_layGood 101 = .ok (.idiv, 1) := by decide +kernel
theorem dX8_layGood_102 : decode cX8_layGood 102 = .ok (.imul, 1) := by decide +kernel
theorem dX8_layGood_103 : decode cX8_layGood 103 = .ok (.bipush 10, 2) := by decide +kernel
theorem dX8_layGood_105 : decode cX8_layGood 105 = .ok (.iload 5, 2) := by decide +kernel
theorem dX8_layGood_107 : decode cX8_layGood 107 = .ok (.iconst 4, 1) := by decide +kernel
theorem dX8_layGood_108 : decode cX8_layGood 108 = .ok (.irem, 1) := by decide +kernel
theorem dX8_layGood_109 : decode cX8_layGood 109 = .ok (.imul, 1) := by decide +kernel
theorem dX8_layGood_110 : decode cX8_layGood 110 = .ok (.iadd, 1) := by decide +kernel
theorem dX8_layGood_111 : decode cX8_layGood 111 = .ok (.istore 6, 2) := by decide +kernel
theorem dX8_layGood_113 : decode cX8_layGood 113 = .ok (.aload_n 0, 1) := by decide +kernel
theorem dX8_layGood_114 : decode cX8_layGood 114 = .ok (.iload 4, 2) := by decide +kernel
theorem dX8_layGood_116 : decode cX8_layGood 116 = .ok (.bipush 15, 2) := by decide +kernel
theorem dX8_layGood_118 : decode cX8_layGood 118 = .ok (.iload 6, 2) := by decide +kernel
theorem dX8_layGood_120 : decode cX8_layGood 120 = .ok (.invokevirtual 186, 3) := by decide +kernel
theorem dX8_layGood_123 : decode cX8_layGood 123 = .ok (.ifCond .ne 29, 3) := by decide +kernel
theorem dX8_layGood_126 : decode cX8_layGood 126 = .ok (.aload_n 0, 1) := by decide +kernel
theorem dX8_layGood_127 : decode cX8_layGood 127 = .ok (.getfield 41, 3) := by decide +kernel
theorem dX8_layGood_130 : decode cX8_layGood 130 = .ok (.aload_n 0, 1) := by decide +kernel
theorem dX8_layGood_131 : decode cX8_layGood 131 = .ok (.iload 4, 2) := by decide +kernel
theorem dX8_layGood_133 : decode cX8_layGood 133 = .ok (.iload 6, 2) := by decide +kernel
theorem dX8_layGood_135 : decode cX8_layGood 135 = .ok (.invokevirtual 183, 3) := by decide +kernel
theorem dX8_layGood_138 : decode cX8_layGood 138 = .ok (.baload, 1) := by decide +kernel
theorem dX8_layGood_139 : decode cX8_layGood 139 = .ok (.ifCond .ne 13, 3) := by decide +kernel
theorem dX8_layGood_142 : decode cX8_layGood 142 = .ok (.aload_n 0, 1) := by decide +kernel
theorem dX8_layGood_143 : decode cX8_layGood 143 = .ok (.getfield 41, 3) := by decide +kernel
theorem dX8_layGood_146 : decode cX8_layGood 146 = .ok (.iload 4, 2) := by decide +kernel
theorem dX8_layGood_148 : decode cX8_layGood 148 = .ok (.iconst 0, 1) := by decide +kernel
theorem dX8_layGood_149 : decode cX8_layGood 149 = .ok (.bastore, 1) := by decide +kernel
theorem dX8_layGood_150 : decode cX8_layGood 150 = .ok (.iconst 1, 1) := by decide +kernel
theorem dX8_layGood_151 : decode cX8_layGood 151 = .ok (.istore_n 2, 1) := by decide +kernel
theorem dX8_layGood_152 : decode cX8_layGood 152 = .ok (.iinc 5 1, 3) := by decide +kernel
theorem dX8_layGood_155 : decode cX8_layGood 155 = .ok (.goto (-76), 3) := by decide +kernel
theorem dX8_layGood_158 : decode cX8_layGood 158 = .ok (.iinc 3 (-1), 3) := by decide +kernel
theorem dX8_layGood_161 : decode cX8_layGood 161 = .ok (.goto (-97), 3) := by decide +kernel
theorem dX8_layGood_164 : decode cX8_layGood 164 = .ok (.goto (-113), 3) := by decide +kernel
theorem dX8_layGood_167 : decode cX8_layGood 167 = .ok (.return_, 1) := by decide +kernel
theorem dX8_forGood_0 : decode cX8_forGood 0 = .ok (.aload_n 0, 1) := by decide +kernel
theorem dX8_forGood_1 : decode cX8_forGood 1 = .ok (.iconst 0, 1) := by decide +kernel
theorem dX8_forGood_2 : decode cX8_forGood 2 = .ok (.putfield 60, 3) := by decide +kernel
theorem dX8_forGood_5 : decode cX8_forGood 5 = .ok (.iload_n 1, 1) := by decide +kernel
theorem dX8_forGood_6 : decode cX8_forGood 6 = .ok (.invokestatic 177, 3) := by decide +kernel
theorem dX8_forGood_9 : decode cX8_forGood 9 = .ok (.ifCond .eq 6, 3) := by decide +kernel
theorem dX8_forGood_12 : decode cX8_forGood 12 = .ok (.bipush (-2), 2) := by decide +kernel
theorem dX8_forGood_14 : decode cX8_forGood 14 = .ok (.ireturn, 1) := by decide +kernel
theorem dX8_forGood_15 : decode cX8_forGood 15 = .ok (.aload_n 0, 1) := by decide +kernel
theorem dX8_forGood_16 : decode cX8_forGood 16 = .ok (.iload_n 1, 1) := by decide +kernel
theorem dX8_forGood_17 : decode cX8_forGood 17 = .ok (.invokevirtual 209, 3) := by decide +kernel
theorem dX8_forGood_20 : decode cX8_forGood 20 = .ok (.aload_n 0, 1) := by decide +kernel
theorem dX8_forGood_21 : decode cX8_forGood 21 = .ok (.getfield 41, 3) := by decide +kernel
theorem dX8_forGood_24 : decode cX8_forGood 24 = .ok (.aload_n 0, 1) := by decide +kernel
theorem dX8_forGood_25 : decode cX8_forGood 25 = .ok (.getfield 140, 3) := by decide +kernel
theorem dX8_forGood_28 : decode cX8_forGood 28 = .ok (.baload, 1) := by decide +kernel
theorem dX8_forGood_29 : decode cX8_forGood 29 = .ok (.ifCond .eq 7, 3) := by decide +kernel
theorem dX8_forGood_32 : decode cX8_forGood 32 = .ok (.iconst 1, 1) := by decide +kernel
theorem dX8_forGood_33 : decode cX8_forGood 33 = .ok (.goto 4, 3) := by decide +kernel
theorem dX8_forGood_36 : decode cX8_forGood 36 = .ok (.iconst 0, 1) := by decide +kernel
theorem dX8_forGood_37 : decode cX8_forGood 37 = .ok (.ireturn, 1) := by decide +kernel
theorem dX8_trap_0 : decode cX8_trap 0 = .ok (.aload_n 0, 1) := by decide +kernel
theorem dX8_trap_1 : decode cX8_trap 1 = .ok (.iconst 0, 1) := by decide +kernel
theorem dX8_trap_2 : decode cX8_trap 2 = .ok (.putfield 60, 3) := by decide +kernel
theorem dX8_trap_5 : decode cX8_trap 5 = .ok (.iload_n 1, 1) := by decide +kernel
theorem dX8_trap_6 : decode cX8_trap 6 = .ok (.invokestatic 171, 3) := by decide +kernel
theorem dX8_trap_9 : decode cX8_trap 9 = .ok (.ifCond .ne 10, 3) := by decide +kernel
theorem dX8_trap_12 : decode cX8_trap 12 = .ok (.iload_n 2, 1) := by decide +kernel
theorem dX8_trap_13 : decode cX8_trap 13 = .ok (.invokestatic 177, 3) := by decide +kernel
theorem dX8_trap_16 : decode cX8_trap 16 = .ok (.ifCond .eq 6, 3) := by decide +kernel
theorem dX8_trap_19 : decode cX8_trap 19 = .ok (.bipush (-2), 2) := by decide +kernel
theorem dX8_trap_21 : decode cX8_trap 21 = .ok (.ireturn, 1) := by decide +kernel
theorem dX8_trap_22 : decode cX8_trap 22 = .ok (.aload_n 0, 1) := by decide +kernel
theorem dX8_trap_23 : decode cX8_trap 23 = .ok (.iload_n 2, 1) := by decide +kernel
theorem dX8_trap_24 : decode cX8_trap 24 = .ok (.invokevirtual 209, 3) := by decide +kernel
theorem dX8_trap_27 : decode cX8_trap 27 = .ok (.aload_n 0, 1) := by decide +kernel
theorem dX8_trap_28 : decode cX8_trap 28 = .ok (.aload_n 0, 1) := by decide +kernel
theorem dX8_trap_29 : decode cX8_trap 29 = .ok (.getfield 140, 3) := by decide +kernel
theorem dX8_trap_32 : decode cX8_trap 32 = .ok (.iload_n 1, 1) := by decide +kernel
theorem dX8_trap_33 : decode cX8_trap 33 = .ok (.iload_n 1, 1) := by decide +kernel
theorem dX8_trap_34 : decode cX8_trap 34 = .ok (.invokevirtual 198, 3) := by decide +kernel
theorem dX8_trap_37 : decode cX8_trap 37 = .ok (.iconst 0, 1) := by decide +kernel
theorem dX8_trap_38 : decode cX8_trap 38 = .ok (.istore_n 3, 1) := by decide +kernel
theorem dX8_trap_39 : decode cX8_trap 39 = .ok (.iload_n 3, 1) := by decide +kernel
theorem dX8_trap_40 : decode cX8_trap 40 = .ok (.aload_n 0, 1) := by decide +kernel
theorem dX8_trap_41 : decode cX8_trap 41 = .ok (.getfield 195, 3) := by decide +kernel
theorem dX8_trap_44 : decode cX8_trap 44 = .ok (.if_icmp .ge 35, 3) := by decide +kernel
theorem dX8_trap_47 : decode cX8_trap 47 = .ok (.aload_n 0, 1) := by decide +kernel
theorem dX8_trap_48 : decode cX8_trap 48 = .ok (.getfield 41, 3) := by decide +kernel
theorem dX8_trap_51 : decode cX8_trap 51 = .ok (.aload_n 0, 1) := by decide +kernel
theorem dX8_trap_52 : decode cX8_trap 52 = .ok (.getfield 32, 3) := by decide +kernel
theorem dX8_trap_55 : decode cX8_trap 55 = .ok (.iload_n 3, 1) := by decide +kernel
theorem dX8_trap_56 : decode cX8_trap 56 = .ok (.iaload, 1) := by decide +kernel
theorem dX8_trap_57 : decode cX8_trap 57 = .ok (.baload, 1) := by decide +kernel
theorem dX8_trap_58 : decode cX8_trap 58 = .ok (.ifCond .eq 15, 3) := by decide +kernel
theorem dX8_trap_61 : decode cX8_trap 61 = .ok (.aload_n 0, 1) := by decide +kernel
theorem dX8_trap_62 : decode cX8_trap 62 = .ok (.getfield 29, 3) := by decide +kernel
theorem dX8_trap_65 : decode cX8_trap 65 = .ok (.aload_n 0, 1) := by decide +kernel
theorem dX8_trap_66 : decode cX8_trap 66 = .ok (.getfield 32, 3) := by decide +kernel
theorem dX8_trap_69 : decode cX8_trap 69 = .ok (.iload_n 3, 1) := by decide +kernel
theorem dX8_trap_70 : decode cX8_trap 70 = .ok (.iaload, 1) := by decide +kernel
theorem dX8_trap_71 : decode cX8_trap 71 = .ok (.iaload, 1) := by decide +kernel
theorem dX8_trap_72 : decode cX8_trap 72 = .ok (.ireturn, 1) := by decide +kernel
theorem dX8_trap_73 : decode cX8_trap 73 = .ok (.iinc 3 1, 3) := by decide +kernel
theorem dX8_trap_76 : decode cX8_trap 76 = .ok (.goto (-37), 3) := by decide +kernel
theorem dX8_trap_79 : decode cX8_trap 79 = .ok (.bipush (-9), 2) := by decide +kernel
theorem dX8_trap_81 : decode cX8_trap 81 = .ok (.ireturn, 1) := by decide +kernel
theorem dX8_holds_0 : decode cX8_holds 0 = .ok (.aload_n 0, 1) := by decide +kernel
theorem dX8_holds_1 : decode cX8_holds 1 = .ok (.iload_n 1, 1) := by decide +kernel
theorem dX8_holds_2 : decode cX8_holds 2 = .ok (.iload_n 2, 1) := by decide +kernel
theorem dX8_holds_3 : decode cX8_holds 3 = .ok (.iload_n 2, 1) := by decide +kernel
theorem dX8_holds_4 : decode cX8_holds 4 = .ok (.invokevirtual 198, 3) := by decide +kernel
theorem dX8_holds_7 : decode cX8_holds 7 = .ok (.aload_n 0, 1) := by decide +kernel
theorem dX8_holds_8 : decode cX8_holds 8 = .ok (.iload_n 3, 1) := by decide +kernel
theorem dX8_holds_9 : decode cX8_holds 9 = .ok (.invokevirtual 202, 3) := by decide +kernel
theorem dX8_holds_12 : decode cX8_holds 12 = .ok (.aload_n 0, 1) := by decide +kernel
theorem dX8_holds_13 : decode cX8_holds 13 = .ok (.getfield 195, 3) := by decide +kernel
theorem dX8_holds_16 : decode cX8_holds 16 = .ok (.if_icmp .ne 7, 3) := by decide +kernel
theorem dX8_holds_19 : decode cX8_holds 19 = .ok (.iconst 1, 1) := by decide +kernel
theorem dX8_holds_20 : decode cX8_holds 20 = .ok (.goto 4, 3) := by decide +kernel
theorem dX8_holds_23 : decode cX8_holds 23 = .ok (.iconst 0, 1) := by decide +kernel
theorem dX8_holds_24 : decode cX8_holds 24 = .ok (.ireturn, 1) := by decide +kernel
theorem dX8_hold_0 : decode cX8_hold 0 = .ok (.aload_n 0, 1) := by decide +kernel
theorem dX8_hold_1 : decode cX8_hold 1 = .ok (.iconst 0, 1) := by decide +kernel
theorem dX8_hold_2 : decode cX8_hold 2 = .ok (.putfield 60, 3) := by decide +kernel
theorem dX8_hold_5 : decode cX8_hold 5 = .ok (.iload_n 1, 1) := by decide +kernel
theorem dX8_hold_6 : decode cX8_hold 6 = .ok (.invokestatic 171, 3) := by decide +kernel
theorem dX8_hold_9 : decode cX8_hold 9 = .ok (.ifCond .ne 10, 3) := by decide +kernel
theorem dX8_hold_12 : decode cX8_hold 12 = .ok (.iload_n 2, 1) := by decide +kernel
theorem dX8_hold_13 : decode cX8_hold 13 = .ok (.invokestatic 177, 3) := by decide +kernel
theorem dX8_hold_16 : decode cX8_hold 16 = .ok (.ifCond .eq 6, 3) := by decide +kernel
theorem dX8_hold_19 : decode cX8_hold 19 = .ok (.bipush (-2), 2) := by decide +kernel
theorem dX8_hold_21 : decode cX8_hold 21 = .ok (.ireturn, 1) := by decide +kernel
theorem dX8_hold_22 : decode cX8_hold 22 = .ok (.aload_n 0, 1) := by decide +kernel
theorem dX8_hold_23 : decode cX8_hold 23 = .ok (.aload_n 0, 1) := by decide +kernel
theorem dX8_hold_24 : decode cX8_hold 24 = .ok (.getfield 140, 3) := by decide +kernel
theorem dX8_hold_27 : decode cX8_hold 27 = .ok (.iload_n 1, 1) := by decide +kernel
theorem dX8_hold_28 : decode cX8_hold 28 = .ok (.iload_n 2, 1) := by decide +kernel
theorem dX8_hold_29 : decode cX8_hold 29 = .ok (.invokevirtual 213, 3) := by decide +kernel
theorem dX8_hold_32 : decode cX8_hold 32 = .ok (.ifCond .eq 7, 3) := by decide +kernel
theorem dX8_hold_35 : decode cX8_hold 35 = .ok (.iconst 1, 1) := by decide +kernel
theorem dX8_hold_36 : decode cX8_hold 36 = .ok (.goto 4, 3) := by decide +kernel
theorem dX8_hold_39 : decode cX8_hold 39 = .ok (.iconst 0, 1) := by decide +kernel
theorem dX8_hold_40 : decode cX8_hold 40 = .ok (.ireturn, 1) := by decide +kernel
theorem dX8_hangs_0 : decode cX8_hangs 0 = .ok (.aload_n 0, 1) := by decide +kernel
theorem dX8_hangs_1 : decode cX8_hangs 1 = .ok (.iconst 0, 1) := by decide +kernel
theorem dX8_hangs_2 : decode cX8_hangs 2 = .ok (.putfield 60, 3) := by decide +kernel
theorem dX8_hangs_5 : decode cX8_hangs 5 = .ok (.iload_n 1, 1) := by decide +kernel
theorem dX8_hangs_6 : decode cX8_hangs 6 = .ok (.invokestatic 171, 3) := by decide +kernel
theorem dX8_hangs_9 : decode cX8_hangs 9 = .ok (.ifCond .ne 10, 3) := by decide +kernel
theorem dX8_hangs_12 : decode cX8_hangs 12 = .ok (.iload_n 2, 1) := by decide +kernel
theorem dX8_hangs_13 : decode cX8_hangs 13 = .ok (.invokestatic 177, 3) := by decide +kernel
theorem dX8_hangs_16 : decode cX8_hangs 16 = .ok (.ifCond .eq 6, 3) := by decide +kernel
theorem dX8_hangs_19 : decode cX8_hangs 19 = .ok (.bipush (-2), 2) := by decide +kernel
theorem dX8_hangs_21 : decode cX8_hangs 21 = .ok (.ireturn, 1) := by decide +kernel
theorem dX8_hangs_22 : decode cX8_hangs 22 = .ok (.aload_n 0, 1) := by decide +kernel
theorem dX8_hangs_23 : decode cX8_hangs 23 = .ok (.aload_n 0, 1) := by decide +kernel
theorem dX8_hangs_24 : decode cX8_hangs 24 = .ok (.getfield 140, 3) := by decide +kernel
theorem dX8_hangs_27 : decode cX8_hangs 27 = .ok (.iload_n 1, 1) := by decide +kernel
theorem dX8_hangs_28 : decode cX8_hangs 28 = .ok (.iload_n 2, 1) := by decide +kernel
theorem dX8_hangs_29 : decode cX8_hangs 29 = .ok (.invokevirtual 213, 3) := by decide +kernel
theorem dX8_hangs_32 : decode cX8_hangs 32 = .ok (.ifCond .ne 6, 3) := by decide +kernel
theorem dX8_hangs_35 : decode cX8_hangs 35 = .ok (.bipush (-9), 2) := by decide +kernel
theorem dX8_hangs_37 : decode cX8_hangs 37 = .ok (.ireturn, 1) := by decide +kernel
theorem dX8_hangs_38 : decode cX8_hangs 38 = .ok (.iconst 0, 1) := by decide +kernel
theorem dX8_hangs_39 : decode cX8_hangs 39 = .ok (.istore_n 3, 1) := by decide +kernel
theorem dX8_hangs_40 : decode cX8_hangs 40 = .ok (.iconst 0, 1) := by decide +kernel
theorem dX8_hangs_41 : decode cX8_hangs 41 = .ok (.istore 4, 2) := by decide +kernel
theorem dX8_hangs_43 : decode cX8_hangs 43 = .ok (.iload 4, 2) := by decide +kernel
theorem dX8_hangs_45 : decode cX8_hangs 45 = .ok (.iconst 5, 1) := by decide +kernel
theorem dX8_hangs_46 : decode cX8_hangs 46 = .ok (.if_icmp .ge 47, 3) := by decide +kernel
theorem dX8_hangs_49 : decode cX8_hangs 49 = .ok (.aload_n 0, 1) := by decide +kernel
theorem dX8_hangs_50 : decode cX8_hangs 50 = .ok (.getfield 140, 3) := by decide +kernel
theorem dX8_hangs_53 : decode cX8_hangs 53 = .ok (.iload 4, 2) := by decide +kernel
theorem dX8_hangs_55 : decode cX8_hangs 55 = .ok (.invokestatic 155, 3) := by decide +kernel
theorem dX8_hangs_58 : decode cX8_hangs 58 = .ok (.ifCond .le 29, 3) := by decide +kernel
theorem dX8_hangs_61 : decode cX8_hangs 61 = .ok (.aload_n 0, 1) := by decide +kernel
theorem dX8_hangs_62 : decode cX8_hangs 62 = .ok (.aload_n 0, 1) := by decide +kernel
theorem dX8_hangs_63 : decode cX8_hangs 63 = .ok (.getfield 140, 3) := by decide +kernel
theorem dX8_hangs_66 : decode cX8_hangs 66 = .ok (.iload 4, 2) := by decide +kernel
theorem dX8_hangs_68 : decode cX8_hangs 68 = .ok (.iconst 0, 1) := by decide +kernel
theorem dX8_hangs_69 : decode cX8_hangs 69 = .ok (.invokestatic 143, 3) := by decide +kernel
theorem dX8_hangs_72 : decode cX8_hangs 72 = .ok (.iload_n 1, 1) := by decide +kernel
theorem dX8_hangs_73 : decode cX8_hangs 73 = .ok (.iload_n 2, 1) := by decide +kernel
theorem dX8_hangs_74 : decode cX8_hangs 74 = .ok (.invokevirtual 213, 3) := by decide +kernel
theorem dX8_hangs_77 : decode cX8_hangs 77 = .ok (.ifCond .ne 10, 3) := by decide +kernel
theorem dX8_hangs_80 : decode cX8_hangs 80 = .ok (.iload_n 3, 1) := by decide +kernel
theorem dX8_hangs_81 : decode cX8_hangs 81 = .ok (.iconst 1, 1) := by decide +kernel
theorem dX8_hangs_82 : decode cX8_hangs 82 = .ok (.iload 4, 2) := by decide +kernel
theorem dX8_hangs_84 : decode cX8_hangs 84 = .ok (.ishl, 1) := by decide +kernel
theorem dX8_hangs_85 : decode cX8_hangs 85 = .ok (.ior, 1) := by decide +kernel
theorem dX8_hangs_86 : decode cX8_hangs 86 = .ok (.istore_n 3, 1) := by decide +kernel
theorem dX8_hangs_87 : decode cX8_hangs 87 = .ok (.iinc 4 1, 3) := by decide +kernel
theorem dX8_hangs_90 : decode cX8_hangs 90 = .ok (.goto (-47), 3) := by decide +kernel
theorem dX8_hangs_93 : decode cX8_hangs 93 = .ok (.iload_n 3, 1) := by decide +kernel
theorem dX8_hangs_94 : decode cX8_hangs 94 = .ok (.ireturn, 1) := by decide +kernel
theorem dX8_remedy_0 : decode cX8_remedy 0 = .ok (.aload_n 0, 1) := by decide +kernel
theorem dX8_remedy_1 : decode cX8_remedy 1 = .ok (.iconst 0, 1) := by decide +kernel
theorem dX8_remedy_2 : decode cX8_remedy 2 = .ok (.putfield 60, 3) := by decide +kernel
theorem dX8_remedy_5 : decode cX8_remedy 5 = .ok (.iload_n 1, 1) := by decide +kernel
theorem dX8_remedy_6 : decode cX8_remedy 6 = .ok (.invokestatic 171, 3) := by decide +kernel
theorem dX8_remedy_9 : decode cX8_remedy 9 = .ok (.ifCond .ne 10, 3) := by decide +kernel
theorem dX8_remedy_12 : decode cX8_remedy 12 = .ok (.iload_n 2, 1) := by decide +kernel
theorem dX8_remedy_13 : decode cX8_remedy 13 = .ok (.invokestatic 177, 3) := by decide +kernel
theorem dX8_remedy_16 : decode cX8_remedy 16 = .ok (.ifCond .eq 6, 3) := by decide +kernel
theorem dX8_remedy_19 : decode cX8_remedy 19 = .ok (.bipush (-2), 2) := by decide +kernel
theorem dX8_remedy_21 : decode cX8_remedy 21 = .ok (.ireturn, 1) := by decide +kernel
theorem dX8_remedy_22 : decode cX8_remedy 22 = .ok (.bipush (-9), 2) := by decide +kernel
theorem dX8_remedy_24 : decode cX8_remedy 24 = .ok (.istore_n 3, 1) := by decide +kernel
theorem dX8_remedy_25 : decode cX8_remedy 25 = .ok (.iconst 0, 1) := by decide +kernel
theorem dX8_remedy_26 : decode cX8_remedy 26 = .ok (.istore 4, 2) := by decide +kernel
theorem dX8_remedy_28 : decode cX8_remedy 28 = .ok (.iload 4, 2) := by decide +kernel
theorem dX8_remedy_30 : decode cX8_remedy 30 = .ok (.iconst 5, 1) := by decide +kernel
theorem dX8_remedy_31 : decode cX8_remedy 31 = .ok (.if_icmp .ge 42, 3) := by decide +kernel
theorem dX8_remedy_34 : decode cX8_remedy 34 = .ok (.iload_n 3, 1) := by decide +kernel
theorem dX8_remedy_35 : decode cX8_remedy 35 = .ok (.bipush (-9), 2) := by decide +kernel
theorem dX8_remedy_37 : decode cX8_remedy 37 = .ok (.if_icmp .ne 36, 3) := by decide +kernel
theorem dX8_remedy_40 : decode cX8_remedy 40 = .ok (.aload_n 0, 1) := by decide +kernel
theorem dX8_remedy_41 : decode cX8_remedy 41 = .ok (.iload 4, 2) := by decide +kernel
theorem dX8_remedy_43 : decode cX8_remedy 43 = .ok (.putfield 22, 3) := by decide +kernel
theorem dX8_remedy_46 : decode cX8_remedy 46 = .ok (.aload_n 0, 1) := by decide +kernel
theorem dX8_remedy_47 : decode cX8_remedy 47 = .ok (.aload_n 0, 1) := by decide +kernel
theorem dX8_remedy_48 : decode cX8_remedy 48 = .ok (.getfield 140, 3) := by decide +kernel
theorem dX8_remedy_51 : decode cX8_remedy 51 = .ok (.iload_n 1, 1) := by decide +kernel
theorem dX8_remedy_52 : decode cX8_remedy 52 = .ok (.iload_n 2, 1) := by decide +kernel
theorem dX8_remedy_53 : decode cX8_remedy 53 = .ok (.invokevirtual 213, 3) := by decide +kernel
theorem dX8_remedy_56 : decode cX8_remedy 56 = .ok (.ifCond .eq 8, 3) := by decide +kernel
theorem dX8_remedy_59 : decode cX8_remedy 59 = .ok (.iload 4, 2) := by decide +kernel
theorem dX8_remedy_61 : decode cX8_remedy 61 = .ok (.goto 5, 3) := by decide +kernel
theorem dX8_remedy_64 : decode cX8_remedy 64 = .ok (.bipush (-9), 2) := by decide +kernel
theorem dX8_remedy_66 : decode cX8_remedy 66 = .ok (.istore_n 3, 1) := by decide +kernel
theorem dX8_remedy_67 : decode cX8_remedy 67 = .ok (.iinc 4 1, 3) := by decide +kernel
theorem dX8_remedy_70 : decode cX8_remedy 70 = .ok (.goto (-42), 3) := by decide +kernel
theorem dX8_remedy_73 : decode cX8_remedy 73 = .ok (.aload_n 0, 1) := by decide +kernel
theorem dX8_remedy_74 : decode cX8_remedy 74 = .ok (.bipush (-9), 2) := by decide +kernel
theorem dX8_remedy_76 : decode cX8_remedy 76 = .ok (.putfield 22, 3) := by decide +kernel
theorem dX8_remedy_79 : decode cX8_remedy 79 = .ok (.iload_n 3, 1) := by decide +kernel
theorem dX8_remedy_80 : decode cX8_remedy 80 = .ok (.ireturn, 1) := by decide +kernel
theorem dX8_always_0 : decode cX8_always 0 = .ok (.aload_n 0, 1) := by decide +kernel
theorem dX8_always_1 : decode cX8_always 1 = .ok (.getfield 41, 3) := by decide +kernel
theorem dX8_always_4 : decode cX8_always 4 = .ok (.iload_n 1, 1) := by decide +kernel
theorem dX8_always_5 : decode cX8_always 5 = .ok (.baload, 1) := by decide +kernel
theorem dX8_always_6 : decode cX8_always 6 = .ok (.istore_n 3, 1) := by decide +kernel
theorem dX8_always_7 : decode cX8_always 7 = .ok (.iconst 0, 1) := by decide +kernel
theorem dX8_always_8 : decode cX8_always 8 = .ok (.istore 4, 2) := by decide +kernel
theorem dX8_always_10 : decode cX8_always 10 = .ok (.iload 4, 2) := by decide +kernel
theorem dX8_always_12 : decode cX8_always 12 = .ok (.bipush 20, 2) := by decide +kernel
theorem dX8_always_14 : decode cX8_always 14 = .ok (.if_icmp .ge 62, 3) := by decide +kernel
theorem dX8_always_17 : decode cX8_always 17 = .ok (.iload_n 3, 1) := by decide +kernel
theorem dX8_always_18 : decode cX8_always 18 = .ok (.ifCond .eq 58, 3) := by decide +kernel
theorem dX8_always_21 : decode cX8_always 21 = .ok (.bipush 100, 2) := by decide +kernel
theorem dX8_always_23 : decode cX8_always 23 = .ok (.iload 4, 2) := by decide +kernel
theorem dX8_always_25 : decode cX8_always 25 = .ok (.iconst 4, 1) := by decide +kernel
theorem dX8_always_26 : decode cX8_always 26 = .ok (.idiv, 1) := by decide +kernel
theorem dX8_always_27 : decode cX8_always 27 = .ok (.imul, 1) := by decide +kernel
theorem dX8_always_28 : decode cX8_always 28 = .ok (.bipush 10, 2) := by decide +kernel
theorem dX8_always_30 : decode cX8_always 30 = .ok (.iload 4, 2) := by decide +kernel
theorem dX8_always_32 : decode cX8_always 32 = .ok (.iconst 4, 1) := by decide +kernel
theorem dX8_always_33 : decode cX8_always 33 = .ok (.irem, 1) := by decide +kernel
theorem dX8_always_34 : decode cX8_always 34 = .ok (.imul, 1) := by decide +kernel
theorem dX8_always_35 : decode cX8_always 35 = .ok (.iadd, 1) := by decide +kernel
theorem dX8_always_36 : decode cX8_always 36 = .ok (.istore 5, 2) := by decide +kernel
theorem dX8_always_38 : decode cX8_always 38 = .ok (.aload_n 0, 1) := by decide +kernel
theorem dX8_always_39 : decode cX8_always 39 = .ok (.iload_n 1, 1) := by decide +kernel
theorem dX8_always_40 : decode cX8_always 40 = .ok (.iload_n 2, 1) := by decide +kernel
theorem dX8_always_41 : decode cX8_always 41 = .ok (.iload 5, 2) := by decide +kernel
theorem dX8_always_43 : decode cX8_always 43 = .ok (.invokevirtual 186, 3) := by decide +kernel
theorem dX8_always_46 : decode cX8_always 46 = .ok (.ifCond .ne 18, 3) := by decide +kernel
theorem dX8_always_49 : decode cX8_always 49 = .ok (.aload_n 0, 1) := by decide +kernel
theorem dX8_always_50 : decode cX8_always 50 = .ok (.getfield 41, 3) := by decide +kernel
theorem dX8_always_53 : decode cX8_always 53 = .ok (.aload_n 0, 1) := by decide +kernel
theorem dX8_always_54 : decode cX8_always 54 = .ok (.iload_n 1, 1) := by decide +kernel
theorem dX8_always_55 : decode cX8_always 55 = .ok (.iload 5, 2) := by decide +kernel
theorem dX8_always_57 : decode cX8_always 57 = .ok (.invokevirtual 183, 3) := by decide +kernel
theorem dX8_always_60 : decode cX8_always 60 = .ok (.baload, 1) := by decide +kernel
theorem dX8_always_61 : decode cX8_always 61 = .ok (.ifCond .eq 7, 3) := by decide +kernel
theorem dX8_always_64 : decode cX8_always 64 = .ok (.iconst 1, 1) := by decide +kernel
theorem dX8_always_65 : decode cX8_always 65 = .ok (.goto 4, 3) := by decide +kernel
theorem dX8_always_68 : decode cX8_always 68 = .ok (.iconst 0, 1) := by decide +kernel
theorem dX8_always_69 : decode cX8_always 69 = .ok (.istore_n 3, 1) := by decide +kernel
theorem dX8_always_70 : decode cX8_always 70 = .ok (.iinc 4 1, 3) := by decide +kernel
theorem dX8_always_73 : decode cX8_always 73 = .ok (.goto (-63), 3) := by decide +kernel
theorem dX8_always_76 : decode cX8_always 76 = .ok (.iload_n 3, 1) := by decide +kernel
theorem dX8_always_77 : decode cX8_always 77 = .ok (.ireturn, 1) := by decide +kernel
theorem dX8_layTurns_0 : decode cX8_layTurns 0 = .ok (.aload_n 0, 1) := by decide +kernel
theorem dX8_layTurns_1 : decode cX8_layTurns 1 = .ok (.aload_n 0, 1) := by decide +kernel
theorem dX8_layTurns_2 : decode cX8_layTurns 2 = .ok (.getfield 140, 3) := by decide +kernel
theorem dX8_layTurns_5 : decode cX8_layTurns 5 = .ok (.iload_n 1, 1) := by decide +kernel
theorem dX8_layTurns_6 : decode cX8_layTurns 6 = .ok (.iload_n 2, 1) := by decide +kernel
theorem dX8_layTurns_7 : decode cX8_layTurns 7 = .ok (.invokevirtual 198, 3) := by decide +kernel
theorem dX8_layTurns_10 : decode cX8_layTurns 10 = .ok (.iconst 0, 1) := by decide +kernel
theorem dX8_layTurns_11 : decode cX8_layTurns 11 = .ok (.istore 5, 2) := by decide +kernel
theorem dX8_layTurns_13 : decode cX8_layTurns 13 = .ok (.iload 5, 2) := by decide +kernel
theorem dX8_layTurns_15 : decode cX8_layTurns 15 = .ok (.aload_n 0, 1) := by decide +kernel
theorem dX8_layTurns_16 : decode cX8_layTurns 16 = .ok (.getfield 195, 3) := by decide +kernel
theorem dX8_layTurns_19 : decode cX8_layTurns 19 = .ok (.if_icmp .ge 32, 3) := by decide +kernel
theorem dX8_layTurns_22 : decode cX8_layTurns 22 = .ok (.aload_n 0, 1) := by decide +kernel
theorem dX8_layTurns_23 : decode cX8_layTurns 23 = .ok (.getfield 41, 3) := by decide +kernel
theorem dX8_layTurns_26 : decode cX8_layTurns 26 = .ok (.aload_n 0, 1) := by decide +kernel
theorem dX8_layTurns_27 : decode cX8_layTurns 27 = .ok (.getfield 32, 3) := by decide +kernel
theorem dX8_layTurns_30 : decode cX8_layTurns 30 = .ok (.iload 5, 2) := by decide +kernel
theorem dX8_layTurns_32 : decode cX8_layTurns 32 = .ok (.iaload, 1) := by decide +kernel
theorem dX8_layTurns_33 : decode cX8_layTurns 33 = .ok (.aload_n 0, 1) := by decide +kernel
theorem dX8_layTurns_34 : decode cX8_layTurns 34 = .ok (.getfield 32, 3) := by decide +kernel
theorem dX8_layTurns_37 : decode cX8_layTurns 37 = .ok (.iload 5, 2) := by decide +kernel
theorem dX8_layTurns_39 : decode cX8_layTurns 39 = .ok (.iaload, 1) := by decide +kernel
theorem dX8_layTurns_40 : decode cX8_layTurns 40 = .ok (.iload_n 3, 1) := by decide +kernel
theorem dX8_layTurns_41 : decode cX8_layTurns 41 = .ok (.invokestatic 164, 3) := by decide +kernel
theorem dX8_layTurns_44 : decode cX8_layTurns 44 = .ok (.bastore, 1) := by decide +kernel
theorem dX8_layTurns_45 : decode cX8_layTurns 45 = .ok (.iinc 5 1, 3) := by decide +kernel
theorem dX8_layTurns_48 : decode cX8_layTurns 48 = .ok (.goto (-35), 3) := by decide +kernel
theorem dX8_layTurns_51 : decode cX8_layTurns 51 = .ok (.iconst 1, 1) := by decide +kernel
theorem dX8_layTurns_52 : decode cX8_layTurns 52 = .ok (.istore 5, 2) := by decide +kernel
theorem dX8_layTurns_54 : decode cX8_layTurns 54 = .ok (.iload 5, 2) := by decide +kernel
theorem dX8_layTurns_56 : decode cX8_layTurns 56 = .ok (.iload 4, 2) := by decide +kernel
theorem dX8_layTurns_58 : decode cX8_layTurns 58 = .ok (.if_icmp .ge 104, 3) := by decide +kernel
theorem dX8_layTurns_61 : decode cX8_layTurns 61 = .ok (.iconst 0, 1) := by decide +kernel
theorem dX8_layTurns_62 : decode cX8_layTurns 62 = .ok (.istore 6, 2) := by decide +kernel
theorem dX8_layTurns_64 : decode cX8_layTurns 64 = .ok (.iload 6, 2) := by decide +kernel
theorem dX8_layTurns_66 : decode cX8_layTurns 66 = .ok (.aload_n 0, 1) := by decide +kernel
theorem dX8_layTurns_67 : decode cX8_layTurns 67 = .ok (.getfield 195, 3) := by decide +kernel
theorem dX8_layTurns_70 : decode cX8_layTurns 70 = .ok (.if_icmp .ge 44, 3) := by decide +kernel
theorem dX8_layTurns_73 : decode cX8_layTurns 73 = .ok (.aload_n 0, 1) := by decide +kernel
theorem dX8_layTurns_74 : decode cX8_layTurns 74 = .ok (.getfield 45, 3) := by decide +kernel
theorem dX8_layTurns_77 : decode cX8_layTurns 77 = .ok (.aload_n 0, 1) := by decide +kernel
theorem dX8_layTurns_78 : decode cX8_layTurns 78 = .ok (.getfield 32, 3) := by decide +kernel
theorem dX8_layTurns_81 : decode cX8_layTurns 81 = .ok (.iload 6, 2) := by decide +kernel
theorem dX8_layTurns_83 : decode cX8_layTurns 83 = .ok (.iaload, 1) := by decide +kernel
theorem dX8_layTurns_84 : decode cX8_layTurns 84 = .ok (.aload_n 0, 1) := by decide +kernel
theorem dX8_layTurns_85 : decode cX8_layTurns 85 = .ok (.aload_n 0, 1) := by decide +kernel
theorem dX8_layTurns_86 : decode cX8_layTurns 86 = .ok (.getfield 32, 3) := by decide +kernel
theorem dX8_layTurns_89 : decode cX8_layTurns 89 = .ok (.iload 6, 2) := by decide +kernel
theorem dX8_layTurns_91 : decode cX8_layTurns 91 = .ok (.iaload, 1) := by decide +kernel
theorem dX8_layTurns_92 : decode cX8_layTurns 92 = .ok (.iload_n 1, 1) := by decide +kernel
theorem dX8_layTurns_93 : decode cX8_layTurns 93 = .ok (.iload_n 2, 1) := by decide +kernel
theorem dX8_layTurns_94 : decode cX8_layTurns 94 = .ok (.invokevirtual 217, 3) := by decide +kernel
theorem dX8_layTurns_97 : decode cX8_layTurns 97 = .ok (.bipush (-2), 2) := by decide +kernel
theorem dX8_layTurns_99 : decode cX8_layTurns 99 = .ok (.if_icmp .eq 7, 3) := by decide +kernel
theorem dX8_layTurns_102 : decode cX8_layTurns 102 = .ok (.iconst 1, 1) := by decide +kernel
theorem dX8_layTurns_103 : decode cX8_layTurns 103 = .ok (.goto 4, 3) := by decide +kernel
theorem dX8_layTurns_106 : decode cX8_layTurns 106 = .ok (.iconst 0, 1) := by decide +kernel
theorem dX8_layTurns_107 : decode cX8_layTurns 107 = .ok (.bastore, 1) := by decide +kernel
theorem dX8_layTurns_108 : decode cX8_layTurns 108 = .ok (.iinc 6 1, 3) := by decide +kernel
theorem dX8_layTurns_111 : decode cX8_layTurns 111 = .ok (.goto (-47), 3) := by decide +kernel
theorem dX8_layTurns_114 : decode cX8_layTurns 114 = .ok (.iconst 0, 1) := by decide +kernel
theorem dX8_layTurns_115 : decode cX8_layTurns 115 = .ok (.istore 6, 2) := by decide +kernel
theorem dX8_layTurns_117 : decode cX8_layTurns 117 = .ok (.iload 6, 2) := by decide +kernel
theorem dX8_layTurns_119 : decode cX8_layTurns 119 = .ok (.aload_n 0, 1) := by decide +kernel
theorem dX8_layTurns_120 : decode cX8_layTurns 120 = .ok (.getfield 195, 3) := by decide +kernel
theorem dX8_layTurns_123 : decode cX8_layTurns 123 = .ok (.if_icmp .ge 33, 3) := by decide +kernel
theorem dX8_layTurns_126 : decode cX8_layTurns 126 = .ok (.aload_n 0, 1) := by decide +kernel
theorem dX8_layTurns_127 : decode cX8_layTurns 127 = .ok (.getfield 41, 3) := by decide +kernel
theorem dX8_layTurns_130 : decode cX8_layTurns 130 = .ok (.aload_n 0, 1) := by decide +kernel
theorem dX8_layTurns_131 : decode cX8_layTurns 131 = .ok (.getfield 32, 3) := by decide +kernel
theorem dX8_layTurns_134 : decode cX8_layTurns 134 = .ok (.iload 6, 2) := by decide +kernel
theorem dX8_layTurns_136 : decode cX8_layTurns 136 = .ok (.iaload, 1) := by decide +kernel
theorem dX8_layTurns_137 : decode cX8_layTurns 137 = .ok (.aload_n 0, 1) := by decide +kernel
theorem dX8_layTurns_138 : decode cX8_layTurns 138 = .ok (.getfield 45, 3) := by decide +kernel
theorem dX8_layTurns_141 : decode cX8_layTurns 141 = .ok (.aload_n 0, 1) := by decide +kernel
theorem dX8_layTurns_142 : decode cX8_layTurns 142 = .ok (.getfield 32, 3) := by decide +kernel
theorem dX8_layTurns_145 : decode cX8_layTurns 145 = .ok (.iload 6, 2) := by decide +kernel
theorem dX8_layTurns_147 : decode cX8_layTurns 147 = .ok (.iaload, 1) := by decide +kernel
theorem dX8_layTurns_148 : decode cX8_layTurns 148 = .ok (.baload, 1) := by decide +kernel
theorem dX8_layTurns_149 : decode cX8_layTurns 149 = .ok (.bastore, 1) := by decide +kernel
theorem dX8_layTurns_150 : decode cX8_layTurns 150 = .ok (.iinc 6 1, 3) := by decide +kernel
theorem dX8_layTurns_153 : decode cX8_layTurns 153 = .ok (.goto (-36), 3) := by decide +kernel
theorem dX8_layTurns_156 : decode cX8_layTurns 156 = .ok (.iinc 5 1, 3) := by decide +kernel
theorem dX8_layTurns_159 : decode cX8_layTurns 159 = .ok (.goto (-105), 3) := by decide +kernel
theorem dX8_layTurns_162 : decode cX8_layTurns 162 = .ok (.return_, 1) := by decide +kernel
theorem dX8_begins_0 : decode cX8_begins 0 = .ok (.aload_n 0, 1) := by decide +kernel
theorem dX8_begins_1 : decode cX8_begins 1 = .ok (.iload_n 1, 1) := by decide +kernel
theorem dX8_begins_2 : decode cX8_begins 2 = .ok (.iload_n 3, 1) := by decide +kernel
theorem dX8_begins_3 : decode cX8_begins 3 = .ok (.invokevirtual 220, 3) := by decide +kernel
theorem dX8_begins_6 : decode cX8_begins 6 = .ok (.ifCond .eq 6, 3) := by decide +kernel
theorem dX8_begins_9 : decode cX8_begins 9 = .ok (.bipush (-9), 2) := by decide +kernel
theorem dX8_begins_11 : decode cX8_begins 11 = .ok (.ireturn, 1) := by decide +kernel
theorem dX8_begins_12 : decode cX8_begins 12 = .ok (.iconst 0, 1) := by decide +kernel
theorem dX8_begins_13 : decode cX8_begins 13 = .ok (.istore 4, 2) := by decide +kernel
theorem dX8_begins_15 : decode cX8_begins 15 = .ok (.iload 4, 2) := by decide +kernel
theorem dX8_begins_17 : decode cX8_begins 17 = .ok (.bipush 20, 2) := by decide +kernel
theorem dX8_begins_19 : decode cX8_begins 19 = .ok (.if_icmp .ge 55, 3) := by decide +kernel
theorem dX8_begins_22 : decode cX8_begins 22 = .ok (.bipush 100, 2) := by decide +kernel
theorem dX8_begins_24 : decode cX8_begins 24 = .ok (.iload 4, 2) := by decide +kernel
theorem dX8_begins_26 : decode cX8_begins 26 = .ok (.iconst 4, 1) := by decide +kernel
theorem dX8_begins_27 : decode cX8_begins 27 = .ok (.idiv, 1) := by decide +kernel
theorem dX8_begins_28 : decode cX8_begins 28 = .ok (.imul, 1) := by decide +kernel
theorem dX8_begins_29 : decode cX8_begins 29 = .ok (.bipush 10, 2) := by decide +kernel
theorem dX8_begins_31 : decode cX8_begins 31 = .ok (.iload 4, 2) := by decide +kernel
theorem dX8_begins_33 : decode cX8_begins 33 = .ok (.iconst 4, 1) := by decide +kernel
theorem dX8_begins_34 : decode cX8_begins 34 = .ok (.irem, 1) := by decide +kernel
theorem dX8_begins_35 : decode cX8_begins 35 = .ok (.imul, 1) := by decide +kernel
theorem dX8_begins_36 : decode cX8_begins 36 = .ok (.iadd, 1) := by decide +kernel
theorem dX8_begins_37 : decode cX8_begins 37 = .ok (.istore 5, 2) := by decide +kernel
theorem dX8_begins_39 : decode cX8_begins 39 = .ok (.aload_n 0, 1) := by decide +kernel
theorem dX8_begins_40 : decode cX8_begins 40 = .ok (.iload_n 1, 1) := by decide +kernel
theorem dX8_begins_41 : decode cX8_begins 41 = .ok (.iload_n 2, 1) := by decide +kernel
theorem dX8_begins_42 : decode cX8_begins 42 = .ok (.iload 5, 2) := by decide +kernel
theorem dX8_begins_44 : decode cX8_begins 44 = .ok (.invokevirtual 186, 3) := by decide +kernel
theorem dX8_begins_47 : decode cX8_begins 47 = .ok (.ifCond .ne 21, 3) := by decide +kernel
theorem dX8_begins_50 : decode cX8_begins 50 = .ok (.aload_n 0, 1) := by decide +kernel
theorem dX8_begins_51 : decode cX8_begins 51 = .ok (.aload_n 0, 1) := by decide +kernel
theorem dX8_begins_52 : decode cX8_begins 52 = .ok (.iload_n 1, 1) := by decide +kernel
theorem dX8_begins_53 : decode cX8_begins 53 = .ok (.iload 5, 2) := by decide +kernel
theorem dX8_begins_55 : decode cX8_begins 55 = .ok (.invokevirtual 183, 3) := by decide +kernel
theorem dX8_begins_58 : decode cX8_begins 58 = .ok (.iload_n 3, 1) := by decide +kernel
theorem dX8_begins_59 : decode cX8_begins 59 = .ok (.invokevirtual 220, 3) := by decide +kernel
theorem dX8_begins_62 : decode cX8_begins 62 = .ok (.ifCond .eq 6, 3) := by decide +kernel
theorem dX8_begins_65 : decode cX8_begins 65 = .ok (.iload 5, 2) := by decide +kernel
theorem dX8_begins_67 : decode cX8_begins 67 = .ok (.ireturn, 1) := by decide +kernel
theorem dX8_begins_68 : decode cX8_begins 68 = .ok (.iinc 4 1, 3) := by decide +kernel
theorem dX8_begins_71 : decode cX8_begins 71 = .ok (.goto (-56), 3) := by decide +kernel
theorem dX8_begins_74 : decode cX8_begins 74 = .ok (.bipush (-2), 2) := by decide +kernel
theorem dX8_begins_76 : decode cX8_begins 76 = .ok (.ireturn, 1) := by decide +kernel
theorem dX8_noTurns_0 : decode cX8_noTurns 0 = .ok (.iload_n 0, 1) := by decide +kernel
theorem dX8_noTurns_1 : decode cX8_noTurns 1 = .ok (.invokestatic 171, 3) := by decide +kernel
theorem dX8_noTurns_4 : decode cX8_noTurns 4 = .ok (.ifCond .ne 29, 3) := by decide +kernel
theorem dX8_noTurns_7 : decode cX8_noTurns 7 = .ok (.iload_n 1, 1) := by decide +kernel
theorem dX8_noTurns_8 : decode cX8_noTurns 8 = .ok (.invokestatic 171, 3) := by decide +kernel
theorem dX8_noTurns_11 : decode cX8_noTurns 11 = .ok (.ifCond .ne 22, 3) := by decide +kernel
theorem dX8_noTurns_14 : decode cX8_noTurns 14 = .ok (.iload_n 2, 1) := by decide +kernel
theorem dX8_noTurns_15 : decode cX8_noTurns 15 = .ok (.invokestatic 177, 3) := by decide +kernel
theorem dX8_noTurns_18 : decode cX8_noTurns 18 = .ok (.ifCond .ne 15, 3) := by decide +kernel
theorem dX8_noTurns_21 : decode cX8_noTurns 21 = .ok (.iload_n 3, 1) := by decide +kernel
theorem dX8_noTurns_22 : decode cX8_noTurns 22 = .ok (.i2l, 1) := by decide +kernel
theorem dX8_noTurns_23 : decode cX8_noTurns 23 = .ok (.lconst 1, 1) := by decide +kernel
theorem dX8_noTurns_24 : decode cX8_noTurns 24 = .ok (.ldc2_w 79, 3) := by decide +kernel
theorem dX8_noTurns_27 : decode cX8_noTurns 27 = .ok (.invokestatic 65, 3) := by decide +kernel
theorem dX8_noTurns_30 : decode cX8_noTurns 30 = .ok (.ifCond .ne 7, 3) := by decide +kernel
theorem dX8_noTurns_33 : decode cX8_noTurns 33 = .ok (.iconst 1, 1) := by decide +kernel
theorem dX8_noTurns_34 : decode cX8_noTurns 34 = .ok (.goto 4, 3) := by decide +kernel
theorem dX8_noTurns_37 : decode cX8_noTurns 37 = .ok (.iconst 0, 1) := by decide +kernel
theorem dX8_noTurns_38 : decode cX8_noTurns 38 = .ok (.ireturn, 1) := by decide +kernel
theorem dX8_sure_0 : decode cX8_sure 0 = .ok (.aload_n 0, 1) := by decide +kernel
theorem dX8_sure_1 : decode cX8_sure 1 = .ok (.iconst 0, 1) := by decide +kernel
theorem dX8_sure_2 : decode cX8_sure 2 = .ok (.putfield 60, 3) := by decide +kernel
theorem dX8_sure_5 : decode cX8_sure 5 = .ok (.iload_n 1, 1) := by decide +kernel
theorem dX8_sure_6 : decode cX8_sure 6 = .ok (.iload_n 2, 1) := by decide +kernel
theorem dX8_sure_7 : decode cX8_sure 7 = .ok (.iload_n 3, 1) := by decide +kernel
theorem dX8_sure_8 : decode cX8_sure 8 = .ok (.iload 4, 2) := by decide +kernel
theorem dX8_sure_10 : decode cX8_sure 10 = .ok (.invokestatic 223, 3) := by decide +kernel
theorem dX8_sure_13 : decode cX8_sure 13 = .ok (.ifCond .eq 6, 3) := by decide +kernel
theorem dX8_sure_16 : decode cX8_sure 16 = .ok (.bipush (-2), 2) := by decide +kernel
theorem dX8_sure_18 : decode cX8_sure 18 = .ok (.ireturn, 1) := by decide +kernel
theorem dX8_sure_19 : decode cX8_sure 19 = .ok (.aload_n 0, 1) := by decide +kernel
theorem dX8_sure_20 : decode cX8_sure 20 = .ok (.iload_n 1, 1) := by decide +kernel
theorem dX8_sure_21 : decode cX8_sure 21 = .ok (.iload_n 2, 1) := by decide +kernel
theorem dX8_sure_22 : decode cX8_sure 22 = .ok (.iload_n 3, 1) := by decide +kernel
theorem dX8_sure_23 : decode cX8_sure 23 = .ok (.iload 4, 2) := by decide +kernel
theorem dX8_sure_25 : decode cX8_sure 25 = .ok (.invokevirtual 227, 3) := by decide +kernel
theorem dX8_sure_28 : decode cX8_sure 28 = .ok (.aload_n 0, 1) := by decide +kernel
theorem dX8_sure_29 : decode cX8_sure 29 = .ok (.aload_n 0, 1) := by decide +kernel
theorem dX8_sure_30 : decode cX8_sure 30 = .ok (.getfield 140, 3) := by decide +kernel
theorem dX8_sure_33 : decode cX8_sure 33 = .ok (.iload_n 1, 1) := by decide +kernel
theorem dX8_sure_34 : decode cX8_sure 34 = .ok (.iload_n 2, 1) := by decide +kernel
theorem dX8_sure_35 : decode cX8_sure 35 = .ok (.invokevirtual 217, 3) := by decide +kernel
theorem dX8_sure_38 : decode cX8_sure 38 = .ok (.bipush (-2), 2) := by decide +kernel
theorem dX8_sure_40 : decode cX8_sure 40 = .ok (.if_icmp .eq 7, 3) := by decide +kernel
theorem dX8_sure_43 : decode cX8_sure 43 = .ok (.iconst 1, 1) := by decide +kernel
theorem dX8_sure_44 : decode cX8_sure 44 = .ok (.goto 4, 3) := by decide +kernel
theorem dX8_sure_47 : decode cX8_sure 47 = .ok (.iconst 0, 1) := by decide +kernel
theorem dX8_sure_48 : decode cX8_sure 48 = .ok (.ireturn, 1) := by decide +kernel
theorem dX8_begin_0 : decode cX8_begin 0 = .ok (.aload_n 0, 1) := by decide +kernel
theorem dX8_begin_1 : decode cX8_begin 1 = .ok (.iconst 0, 1) := by decide +kernel
theorem dX8_begin_2 : decode cX8_begin 2 = .ok (.putfield 60, 3) := by decide +kernel
theorem dX8_begin_5 : decode cX8_begin 5 = .ok (.iload_n 1, 1) := by decide +kernel
theorem dX8_begin_6 : decode cX8_begin 6 = .ok (.iload_n 2, 1) := by decide +kernel
theorem dX8_begin_7 : decode cX8_begin 7 = .ok (.iload_n 3, 1) := by decide +kernel
theorem dX8_begin_8 : decode cX8_begin 8 = .ok (.iload 4, 2) := by decide +kernel
theorem dX8_begin_10 : decode cX8_begin 10 = .ok (.invokestatic 223, 3) := by decide +kernel
theorem dX8_begin_13 : decode cX8_begin 13 = .ok (.ifCond .eq 6, 3) := by decide +kernel
theorem dX8_begin_16 : decode cX8_begin 16 = .ok (.bipush (-2), 2) := by decide +kernel
theorem dX8_begin_18 : decode cX8_begin 18 = .ok (.ireturn, 1) := by decide +kernel
theorem dX8_begin_19 : decode cX8_begin 19 = .ok (.aload_n 0, 1) := by decide +kernel
theorem dX8_begin_20 : decode cX8_begin 20 = .ok (.iload_n 1, 1) := by decide +kernel
theorem dX8_begin_21 : decode cX8_begin 21 = .ok (.iload_n 2, 1) := by decide +kernel
theorem dX8_begin_22 : decode cX8_begin 22 = .ok (.iload_n 3, 1) := by decide +kernel
theorem dX8_begin_23 : decode cX8_begin 23 = .ok (.iload 4, 2) := by decide +kernel
theorem dX8_begin_25 : decode cX8_begin 25 = .ok (.invokevirtual 227, 3) := by decide +kernel
theorem dX8_begin_28 : decode cX8_begin 28 = .ok (.aload_n 0, 1) := by decide +kernel
theorem dX8_begin_29 : decode cX8_begin 29 = .ok (.aload_n 0, 1) := by decide +kernel
theorem dX8_begin_30 : decode cX8_begin 30 = .ok (.getfield 140, 3) := by decide +kernel
theorem dX8_begin_33 : decode cX8_begin 33 = .ok (.iload_n 1, 1) := by decide +kernel
theorem dX8_begin_34 : decode cX8_begin 34 = .ok (.iload_n 2, 1) := by decide +kernel
theorem dX8_begin_35 : decode cX8_begin 35 = .ok (.invokevirtual 217, 3) := by decide +kernel
theorem dX8_begin_38 : decode cX8_begin 38 = .ok (.istore 5, 2) := by decide +kernel
theorem dX8_begin_40 : decode cX8_begin 40 = .ok (.iload 5, 2) := by decide +kernel
theorem dX8_begin_42 : decode cX8_begin 42 = .ok (.bipush (-2), 2) := by decide +kernel
theorem dX8_begin_44 : decode cX8_begin 44 = .ok (.if_icmp .ne 8, 3) := by decide +kernel
theorem dX8_begin_47 : decode cX8_begin 47 = .ok (.bipush (-9), 2) := by decide +kernel
theorem dX8_begin_49 : decode cX8_begin 49 = .ok (.goto 5, 3) := by decide +kernel
theorem dX8_begin_52 : decode cX8_begin 52 = .ok (.iload 5, 2) := by decide +kernel
theorem dX8_begin_54 : decode cX8_begin 54 = .ok (.ireturn, 1) := by decide +kernel
theorem dX8_rows_0 : decode cX8_rows 0 = .ok (.iconst 0, 1) := by decide +kernel
theorem dX8_rows_1 : decode cX8_rows 1 = .ok (.istore_n 1, 1) := by decide +kernel
theorem dX8_rows_2 : decode cX8_rows 2 = .ok (.iconst 0, 1) := by decide +kernel
theorem dX8_rows_3 : decode cX8_rows 3 = .ok (.istore_n 2, 1) := by decide +kernel
theorem dX8_rows_4 : decode cX8_rows 4 = .ok (.iload_n 2, 1) := by decide +kernel
theorem dX8_rows_5 : decode cX8_rows 5 = .ok (.aload_n 0, 1) := by decide +kernel
theorem dX8_rows_6 : decode cX8_rows 6 = .ok (.getfield 195, 3) := by decide +kernel
theorem dX8_rows_9 : decode cX8_rows 9 = .ok (.if_icmp .ge 23, 3) := by decide +kernel
theorem dX8_rows_12 : decode cX8_rows 12 = .ok (.iload_n 1, 1) := by decide +kernel
theorem dX8_rows_13 : decode cX8_rows 13 = .ok (.iconst 1, 1) := by decide +kernel
theorem dX8_rows_14 : decode cX8_rows 14 = .ok (.aload_n 0, 1) := by decide +kernel
theorem dX8_rows_15 : decode cX8_rows 15 = .ok (.getfield 32, 3) := by decide +kernel
theorem dX8_rows_18 : decode cX8_rows 18 = .ok (.iload_n 2, 1) := by decide +kernel
theorem dX8_rows_19 : decode cX8_rows 19 = .ok (.iaload, 1) := by decide +kernel
theorem dX8_rows_20 : decode cX8_rows 20 = .ok (.bipush 15, 2) := by decide +kernel
theorem dX8_rows_22 : decode cX8_rows 22 = .ok (.iand, 1) := by decide +kernel
theorem dX8_rows_23 : decode cX8_rows 23 = .ok (.ishl, 1) := by decide +kernel
theorem dX8_rows_24 : decode cX8_rows 24 = .ok (.ior, 1) := by decide +kernel
theorem dX8_rows_25 : decode cX8_rows 25 = .ok (.istore_n 1, 1) := by decide +kernel
theorem dX8_rows_26 : decode cX8_rows 26 = .ok (.iinc 2 1, 3) := by decide +kernel
theorem dX8_rows_29 : decode cX8_rows 29 = .ok (.goto (-25), 3) := by decide +kernel
theorem dX8_rows_32 : decode cX8_rows 32 = .ok (.iload_n 1, 1) := by decide +kernel
theorem dX8_rows_33 : decode cX8_rows 33 = .ok (.ireturn, 1) := by decide +kernel
theorem dX8_idle_0 : decode cX8_idle 0 = .ok (.aload_n 0, 1) := by decide +kernel
theorem dX8_idle_1 : decode cX8_idle 1 = .ok (.iconst 0, 1) := by decide +kernel
theorem dX8_idle_2 : decode cX8_idle 2 = .ok (.putfield 60, 3) := by decide +kernel
theorem dX8_idle_5 : decode cX8_idle 5 = .ok (.iload_n 1, 1) := by decide +kernel
theorem dX8_idle_6 : decode cX8_idle 6 = .ok (.invokestatic 171, 3) := by decide +kernel
theorem dX8_idle_9 : decode cX8_idle 9 = .ok (.ifCond .eq 6, 3) := by decide +kernel
theorem dX8_idle_12 : decode cX8_idle 12 = .ok (.bipush (-2), 2) := by decide +kernel
theorem dX8_idle_14 : decode cX8_idle 14 = .ok (.ireturn, 1) := by decide +kernel
theorem dX8_idle_15 : decode cX8_idle 15 = .ok (.iload_n 2, 1) := by decide +kernel
theorem dX8_idle_16 : decode cX8_idle 16 = .ok (.invokestatic 137, 3) := by decide +kernel
theorem dX8_idle_19 : decode cX8_idle 19 = .ok (.ifCond .eq 5, 3) := by decide +kernel
theorem dX8_idle_22 : decode cX8_idle 22 = .ok (.iconst (-1), 1) := by decide +kernel
theorem dX8_idle_23 : decode cX8_idle 23 = .ok (.ireturn, 1) := by decide +kernel
theorem dX8_idle_24 : decode cX8_idle 24 = .ok (.aload_n 0, 1) := by decide +kernel
theorem dX8_idle_25 : decode cX8_idle 25 = .ok (.aload_n 0, 1) := by decide +kernel
theorem dX8_idle_26 : decode cX8_idle 26 = .ok (.getfield 140, 3) := by decide +kernel
theorem dX8_idle_29 : decode cX8_idle 29 = .ok (.iload_n 1, 1) := by decide +kernel
theorem dX8_idle_30 : decode cX8_idle 30 = .ok (.iload_n 1, 1) := by decide +kernel
theorem dX8_idle_31 : decode cX8_idle 31 = .ok (.invokevirtual 198, 3) := by decide +kernel
theorem dX8_idle_34 : decode cX8_idle 34 = .ok (.aload_n 0, 1) := by decide +kernel
theorem dX8_idle_35 : decode cX8_idle 35 = .ok (.invokevirtual 231, 3) := by decide +kernel
theorem dX8_idle_38 : decode cX8_idle 38 = .ok (.istore_n 3, 1) := by decide +kernel
theorem dX8_idle_39 : decode cX8_idle 39 = .ok (.aload_n 0, 1) := by decide +kernel
theorem dX8_idle_40 : decode cX8_idle 40 = .ok (.iload_n 2, 1) := by decide +kernel
theorem dX8_idle_41 : decode cX8_idle 41 = .ok (.putfield 26, 3) := by decide +kernel
theorem dX8_idle_44 : decode cX8_idle 44 = .ok (.aload_n 0, 1) := by decide +kernel
theorem dX8_idle_45 : decode cX8_idle 45 = .ok (.aload_n 0, 1) := by decide +kernel
theorem dX8_idle_46 : decode cX8_idle 46 = .ok (.getfield 140, 3) := by decide +kernel
theorem dX8_idle_49 : decode cX8_idle 49 = .ok (.iload_n 2, 1) := by decide +kernel
theorem dX8_idle_50 : decode cX8_idle 50 = .ok (.iconst 0, 1) := by decide +kernel
theorem dX8_idle_51 : decode cX8_idle 51 = .ok (.invokestatic 143, 3) := by decide +kernel
theorem dX8_idle_54 : decode cX8_idle 54 = .ok (.iload_n 1, 1) := by decide +kernel
theorem dX8_idle_55 : decode cX8_idle 55 = .ok (.iload_n 1, 1) := by decide +kernel
theorem dX8_idle_56 : decode cX8_idle 56 = .ok (.invokevirtual 198, 3) := by decide +kernel
theorem dX8_idle_59 : decode cX8_idle 59 = .ok (.aload_n 0, 1) := by decide +kernel
theorem dX8_idle_60 : decode cX8_idle 60 = .ok (.bipush (-9), 2) := by decide +kernel
theorem dX8_idle_62 : decode cX8_idle 62 = .ok (.putfield 26, 3) := by decide +kernel
theorem dX8_idle_65 : decode cX8_idle 65 = .ok (.aload_n 0, 1) := by decide +kernel
theorem dX8_idle_66 : decode cX8_idle 66 = .ok (.invokevirtual 231, 3) := by decide +kernel
theorem dX8_idle_69 : decode cX8_idle 69 = .ok (.iload_n 3, 1) := by decide +kernel
theorem dX8_idle_70 : decode cX8_idle 70 = .ok (.if_icmp .ne 7, 3) := by decide +kernel
theorem dX8_idle_73 : decode cX8_idle 73 = .ok (.iconst 1, 1) := by decide +kernel
theorem dX8_idle_74 : decode cX8_idle 74 = .ok (.goto 4, 3) := by decide +kernel
theorem dX8_idle_77 : decode cX8_idle 77 = .ok (.iconst 0, 1) := by decide +kernel
theorem dX8_idle_78 : decode cX8_idle 78 = .ok (.ireturn, 1) := by decide +kernel
theorem dX8_roll_0 : decode cX8_roll 0 = .ok (.aload_n 0, 1) := by decide +kernel
theorem dX8_roll_1 : decode cX8_roll 1 = .ok (.iconst 0, 1) := by decide +kernel
theorem dX8_roll_2 : decode cX8_roll 2 = .ok (.putfield 60, 3) := by decide +kernel
theorem dX8_roll_5 : decode cX8_roll 5 = .ok (.iload_n 1, 1) := by decide +kernel
theorem dX8_roll_6 : decode cX8_roll 6 = .ok (.invokestatic 171, 3) := by decide +kernel
theorem dX8_roll_9 : decode cX8_roll 9 = .ok (.ifCond .ne 10, 3) := by decide +kernel
theorem dX8_roll_12 : decode cX8_roll 12 = .ok (.iload_n 2, 1) := by decide +kernel
theorem dX8_roll_13 : decode cX8_roll 13 = .ok (.invokestatic 192, 3) := by decide +kernel
theorem dX8_roll_16 : decode cX8_roll 16 = .ok (.ifCond .eq 6, 3) := by decide +kernel
theorem dX8_roll_19 : decode cX8_roll 19 = .ok (.bipush (-2), 2) := by decide +kernel
theorem dX8_roll_21 : decode cX8_roll 21 = .ok (.ireturn, 1) := by decide +kernel
theorem dX8_roll_22 : decode cX8_roll 22 = .ok (.aload_n 0, 1) := by decide +kernel
