theorem dX0_exists_0 : decode cX0_exists 0 = .ok (.iload_n 0, 1) := by decide +kernel
theorem dX0_exists_1 : decode cX0_exists 1 = .ok (.ifCond .lt 30, 3) := by decide +kernel
theorem dX0_exists_4 : decode cX0_exists 4 = .ok (.iload_n 0, 1) := by decide +kernel
theorem dX0_exists_5 : decode cX0_exists 5 = .ok (.bipush 10, 2) := by decide +kernel
theorem dX0_exists_7 : decode cX0_exists 7 = .ok (.irem, 1) := by decide +kernel
theorem dX0_exists_8 : decode cX0_exists 8 = .ok (.ifCond .ne 23, 3) := by decide +kernel
theorem dX0_exists_11 : decode cX0_exists 11 = .ok (.iload_n 0, 1) := by decide +kernel
theorem dX0_exists_12 : decode cX0_exists 12 = .ok (.invokestatic 9, 3) := by decide +kernel
theorem dX0_exists_15 : decode cX0_exists 15 = .ok (.iconst 5, 1) := by decide +kernel
theorem dX0_exists_16 : decode cX0_exists 16 = .ok (.if_icmp .ge 15, 3) := by decide +kernel
theorem dX0_exists_19 : decode cX0_exists 19 = .ok (.iload_n 0, 1) := by decide +kernel
theorem dX0_exists_20 : decode cX0_exists 20 = .ok (.invokestatic 15, 3) := by decide +kernel
theorem dX0_exists_23 : decode cX0_exists 23 = .ok (.iconst 3, 1) := by decide +kernel
theorem dX0_exists_24 : decode cX0_exists 24 = .ok (.if_icmp .gt 7, 3) := by decide +kernel
theorem dX0_exists_27 : decode cX0_exists 27 = .ok (.iconst 1, 1) := by decide +kernel
theorem dX0_exists_28 : decode cX0_exists 28 = .ok (.goto 4, 3) := by decide +kernel
theorem dX0_exists_31 : decode cX0_exists 31 = .ok (.iconst 0, 1) := by decide +kernel
theorem dX0_exists_32 : decode cX0_exists 32 = .ok (.ireturn, 1) := by decide +kernel
theorem dX0_clauseOf_0 : decode cX0_clauseOf 0 = .ok (.iload_n 0, 1) := by decide +kernel
theorem dX0_clauseOf_1 : decode cX0_clauseOf 1 = .ok (.bipush 100, 2) := by decide +kernel
theorem dX0_clauseOf_3 : decode cX0_clauseOf 3 = .ok (.idiv, 1) := by decide +kernel
theorem dX0_clauseOf_4 : decode cX0_clauseOf 4 = .ok (.ireturn, 1) := by decide +kernel
theorem dX0_formOf_0 : decode cX0_formOf 0 = .ok (.iload_n 0, 1) := by decide +kernel
theorem dX0_formOf_1 : decode cX0_formOf 1 = .ok (.bipush 10, 2) := by decide +kernel
theorem dX0_formOf_3 : decode cX0_formOf 3 = .ok (.idiv, 1) := by decide +kernel
theorem dX0_formOf_4 : decode cX0_formOf 4 = .ok (.bipush 10, 2) := by decide +kernel
theorem dX0_formOf_6 : decode cX0_formOf 6 = .ok (.irem, 1) := by decide +kernel
theorem dX0_formOf_7 : decode cX0_formOf 7 = .ok (.ireturn, 1) := by decide +kernel
theorem dX0_nth_0 : decode cX0_nth 0 = .ok (.bipush 100, 2) := by decide +kernel
theorem dX0_nth_2 : decode cX0_nth 2 = .ok (.iload_n 0, 1) := by decide +kernel
theorem dX0_nth_3 : decode cX0_nth 3 = .ok (.iconst 4, 1) := by decide +kernel
theorem dX0_nth_4 : decode cX0_nth 4 = .ok (.idiv, 1) := by decide +kernel
theorem dX0_nth_5 : decode cX0_nth 5 = .ok (.imul, 1) := by decide +kernel
theorem dX0_nth_6 : decode cX0_nth 6 = .ok (.bipush 10, 2) := by decide +kernel
theorem dX0_nth_8 : decode cX0_nth 8 = .ok (.iload_n 0, 1) := by decide +kernel
theorem dX0_nth_9 : decode cX0_nth 9 = .ok (.iconst 4, 1) := by decide +kernel
theorem dX0_nth_10 : decode cX0_nth 10 = .ok (.irem, 1) := by decide +kernel
theorem dX0_nth_11 : decode cX0_nth 11 = .ok (.imul, 1) := by decide +kernel
theorem dX0_nth_12 : decode cX0_nth 12 = .ok (.iadd, 1) := by decide +kernel
theorem dX0_nth_13 : decode cX0_nth 13 = .ok (.ireturn, 1) := by decide +kernel
theorem dX1_exists_0 : decode cX1_exists 0 = .ok (.iload_n 0, 1) := by decide +kernel
theorem dX1_exists_1 : decode cX1_exists 1 = .ok (.ifCond .ge 5, 3) := by decide +kernel
theorem dX1_exists_4 : decode cX1_exists 4 = .ok (.iconst 0, 1) := by decide +kernel
theorem dX1_exists_5 : decode cX1_exists 5 = .ok (.ireturn, 1) := by decide +kernel
theorem dX1_exists_6 : decode cX1_exists 6 = .ok (.iload_n 0, 1) := by decide +kernel
theorem dX1_exists_7 : decode cX1_exists 7 = .ok (.bipush 100, 2) := by decide +kernel
theorem dX1_exists_9 : decode cX1_exists 9 = .ok (.if_icmp .ge 25, 3) := by decide +kernel
theorem dX1_exists_12 : decode cX1_exists 12 = .ok (.iload_n 0, 1) := by decide +kernel
theorem dX1_exists_13 : decode cX1_exists 13 = .ok (.bipush 10, 2) := by decide +kernel
theorem dX1_exists_15 : decode cX1_exists 15 = .ok (.idiv, 1) := by decide +kernel
theorem dX1_exists_16 : decode cX1_exists 16 = .ok (.iconst 4, 1) := by decide +kernel
theorem dX1_exists_17 : decode cX1_exists 17 = .ok (.if_icmp .ge 15, 3) := by decide +kernel
theorem dX1_exists_20 : decode cX1_exists 20 = .ok (.iload_n 0, 1) := by decide +kernel
theorem dX1_exists_21 : decode cX1_exists 21 = .ok (.bipush 10, 2) := by decide +kernel
theorem dX1_exists_23 : decode cX1_exists 23 = .ok (.irem, 1) := by decide +kernel
theorem dX1_exists_24 : decode cX1_exists 24 = .ok (.iconst 1, 1) := by decide +kernel
theorem dX1_exists_25 : decode cX1_exists 25 = .ok (.if_icmp .gt 7, 3) := by decide +kernel
theorem dX1_exists_28 : decode cX1_exists 28 = .ok (.iconst 1, 1) := by decide +kernel
theorem dX1_exists_29 : decode cX1_exists 29 = .ok (.goto 4, 3) := by decide +kernel
theorem dX1_exists_32 : decode cX1_exists 32 = .ok (.iconst 0, 1) := by decide +kernel
theorem dX1_exists_33 : decode cX1_exists 33 = .ok (.ireturn, 1) := by decide +kernel
theorem dX1_exists_34 : decode cX1_exists 34 = .ok (.iload_n 0, 1) := by decide +kernel
theorem dX1_exists_35 : decode cX1_exists 35 = .ok (.sipush 150, 3) := by decide +kernel
theorem dX1_exists_38 : decode cX1_exists 38 = .ok (.if_icmp .ge 15, 3) := by decide +kernel
theorem dX1_exists_41 : decode cX1_exists 41 = .ok (.iload_n 0, 1) := by decide +kernel
theorem dX1_exists_42 : decode cX1_exists 42 = .ok (.bipush 10, 2) := by decide +kernel
theorem dX1_exists_44 : decode cX1_exists 44 = .ok (.irem, 1) := by decide +kernel
theorem dX1_exists_45 : decode cX1_exists 45 = .ok (.iconst 3, 1) := by decide +kernel
theorem dX1_exists_46 : decode cX1_exists 46 = .ok (.if_icmp .gt 7, 3) := by decide +kernel
theorem dX1_exists_49 : decode cX1_exists 49 = .ok (.iconst 1, 1) := by decide +kernel
theorem dX1_exists_50 : decode cX1_exists 50 = .ok (.goto 4, 3) := by decide +kernel
theorem dX1_exists_53 : decode cX1_exists 53 = .ok (.iconst 0, 1) := by decide +kernel
theorem dX1_exists_54 : decode cX1_exists 54 = .ok (.ireturn, 1) := by decide +kernel
theorem dX1_isSo_0 : decode cX1_isSo 0 = .ok (.iload_n 1, 1) := by decide +kernel
theorem dX1_isSo_1 : decode cX1_isSo 1 = .ok (.iload_n 0, 1) := by decide +kernel
theorem dX1_isSo_2 : decode cX1_isSo 2 = .ok (.invokestatic 9, 3) := by decide +kernel
theorem dX1_isSo_5 : decode cX1_isSo 5 = .ok (.iand, 1) := by decide +kernel
theorem dX1_isSo_6 : decode cX1_isSo 6 = .ok (.iload_n 0, 1) := by decide +kernel
theorem dX1_isSo_7 : decode cX1_isSo 7 = .ok (.invokestatic 15, 3) := by decide +kernel
theorem dX1_isSo_10 : decode cX1_isSo 10 = .ok (.if_icmp .ne 7, 3) := by decide +kernel
theorem dX1_isSo_13 : decode cX1_isSo 13 = .ok (.iconst 1, 1) := by decide +kernel
theorem dX1_isSo_14 : decode cX1_isSo 14 = .ok (.goto 4, 3) := by decide +kernel
theorem dX1_isSo_17 : decode cX1_isSo 17 = .ok (.iconst 0, 1) := by decide +kernel
theorem dX1_isSo_18 : decode cX1_isSo 18 = .ok (.ireturn, 1) := by decide +kernel
theorem dX1_maskOf_0 : decode cX1_maskOf 0 = .ok (.iload_n 0, 1) := by decide +kernel
theorem dX1_maskOf_1 : decode cX1_maskOf 1 = .ok (.ifCond .ge 5, 3) := by decide +kernel
theorem dX1_maskOf_4 : decode cX1_maskOf 4 = .ok (.iconst 0, 1) := by decide +kernel
theorem dX1_maskOf_5 : decode cX1_maskOf 5 = .ok (.ireturn, 1) := by decide +kernel
theorem dX1_maskOf_6 : decode cX1_maskOf 6 = .ok (.iload_n 0, 1) := by decide +kernel
theorem dX1_maskOf_7 : decode cX1_maskOf 7 = .ok (.bipush 100, 2) := by decide +kernel
theorem dX1_maskOf_9 : decode cX1_maskOf 9 = .ok (.if_icmp .ge 15, 3) := by decide +kernel
theorem dX1_maskOf_12 : decode cX1_maskOf 12 = .ok (.iconst 0, 1) := by decide +kernel
theorem dX1_maskOf_13 : decode cX1_maskOf 13 = .ok (.iload_n 0, 1) := by decide +kernel
theorem dX1_maskOf_14 : decode cX1_maskOf 14 = .ok (.bipush 10, 2) := by decide +kernel
theorem dX1_maskOf_16 : decode cX1_maskOf 16 = .ok (.idiv, 1) := by decide +kernel
theorem dX1_maskOf_17 : decode cX1_maskOf 17 = .ok (.iconst 1, 1) := by decide +kernel
theorem dX1_maskOf_18 : decode cX1_maskOf 18 = .ok (.invokestatic 18, 3) := by decide +kernel
theorem dX1_maskOf_21 : decode cX1_maskOf 21 = .ok (.goto 15, 3) := by decide +kernel
theorem dX1_maskOf_24 : decode cX1_maskOf 24 = .ok (.iconst 0, 1) := by decide +kernel
theorem dX1_maskOf_25 : decode cX1_maskOf 25 = .ok (.iload_n 0, 1) := by decide +kernel
theorem dX1_maskOf_26 : decode cX1_maskOf 26 = .ok (.bipush 10, 2) := by decide +kernel
theorem dX1_maskOf_28 : decode cX1_maskOf 28 = .ok (.idiv, 1) := by decide +kernel
theorem dX1_maskOf_29 : decode cX1_maskOf 29 = .ok (.bipush 10, 2) := by decide +kernel
theorem dX1_maskOf_31 : decode cX1_maskOf 31 = .ok (.isub, 1) := by decide +kernel
theorem dX1_maskOf_32 : decode cX1_maskOf 32 = .ok (.iconst 3, 1) := by decide +kernel
theorem dX1_maskOf_33 : decode cX1_maskOf 33 = .ok (.invokestatic 24, 3) := by decide +kernel
theorem dX1_maskOf_36 : decode cX1_maskOf 36 = .ok (.ireturn, 1) := by decide +kernel
theorem dX1_valueOf_0 : decode cX1_valueOf 0 = .ok (.iload_n 0, 1) := by decide +kernel
theorem dX1_valueOf_1 : decode cX1_valueOf 1 = .ok (.ifCond .ge 5, 3) := by decide +kernel
theorem dX1_valueOf_4 : decode cX1_valueOf 4 = .ok (.iconst 0, 1) := by decide +kernel
theorem dX1_valueOf_5 : decode cX1_valueOf 5 = .ok (.ireturn, 1) := by decide +kernel
theorem dX1_valueOf_6 : decode cX1_valueOf 6 = .ok (.iload_n 0, 1) := by decide +kernel
theorem dX1_valueOf_7 : decode cX1_valueOf 7 = .ok (.bipush 100, 2) := by decide +kernel
theorem dX1_valueOf_9 : decode cX1_valueOf 9 = .ok (.if_icmp .ge 18, 3) := by decide +kernel
theorem dX1_valueOf_12 : decode cX1_valueOf 12 = .ok (.iconst 0, 1) := by decide +kernel
theorem dX1_valueOf_13 : decode cX1_valueOf 13 = .ok (.iload_n 0, 1) := by decide +kernel
theorem dX1_valueOf_14 : decode cX1_valueOf 14 = .ok (.bipush 10, 2) := by decide +kernel
theorem dX1_valueOf_16 : decode cX1_valueOf 16 = .ok (.idiv, 1) := by decide +kernel
theorem dX1_valueOf_17 : decode cX1_valueOf 17 = .ok (.iload_n 0, 1) := by decide +kernel
theorem dX1_valueOf_18 : decode cX1_valueOf 18 = .ok (.bipush 10, 2) := by decide +kernel
theorem dX1_valueOf_20 : decode cX1_valueOf 20 = .ok (.irem, 1) := by decide +kernel
theorem dX1_valueOf_21 : decode cX1_valueOf 21 = .ok (.invokestatic 18, 3) := by decide +kernel
theorem dX1_valueOf_24 : decode cX1_valueOf 24 = .ok (.goto 18, 3) := by decide +kernel
theorem dX1_valueOf_27 : decode cX1_valueOf 27 = .ok (.iconst 0, 1) := by decide +kernel
theorem dX1_valueOf_28 : decode cX1_valueOf 28 = .ok (.iload_n 0, 1) := by decide +kernel
theorem dX1_valueOf_29 : decode cX1_valueOf 29 = .ok (.bipush 10, 2) := by decide +kernel
theorem dX1_valueOf_31 : decode cX1_valueOf 31 = .ok (.idiv, 1) := by decide +kernel
theorem dX1_valueOf_32 : decode cX1_valueOf 32 = .ok (.bipush 10, 2) := by decide +kernel
theorem dX1_valueOf_34 : decode cX1_valueOf 34 = .ok (.isub, 1) := by decide +kernel
theorem dX1_valueOf_35 : decode cX1_valueOf 35 = .ok (.iload_n 0, 1) := by decide +kernel
theorem dX1_valueOf_36 : decode cX1_valueOf 36 = .ok (.bipush 10, 2) := by decide +kernel
theorem dX1_valueOf_38 : decode cX1_valueOf 38 = .ok (.irem, 1) := by decide +kernel
theorem dX1_valueOf_39 : decode cX1_valueOf 39 = .ok (.invokestatic 24, 3) := by decide +kernel
theorem dX1_valueOf_42 : decode cX1_valueOf 42 = .ok (.ireturn, 1) := by decide +kernel
theorem dX2_init_0 : decode cX2_init 0 = .ok (.aload_n 0, 1) := by decide +kernel
theorem dX2_init_1 : decode cX2_init 1 = .ok (.invokespecial 3, 3) := by decide +kernel
theorem dX2_init_4 : decode cX2_init 4 = .ok (.aload_n 0, 1) := by decide +kernel
theorem dX2_init_5 : decode cX2_init 5 = .ok (.iconst 5, 1) := by decide +kernel
theorem dX2_init_6 : decode cX2_init 6 = .ok (.newarray .int, 2) := by decide +kernel
theorem dX2_init_8 : decode cX2_init 8 = .ok (.putfield 9, 3) := by decide +kernel
theorem dX2_init_11 : decode cX2_init 11 = .ok (.aload_n 0, 1) := by decide +kernel
theorem dX2_init_12 : decode cX2_init 12 = .ok (.bipush 120, 2) := by decide +kernel
theorem dX2_init_14 : decode cX2_init 14 = .ok (.newarray .int, 2) := by decide +kernel
theorem dX2_init_16 : decode cX2_init 16 = .ok (.putfield 15, 3) := by decide +kernel
theorem dX2_init_19 : decode cX2_init 19 = .ok (.aload_n 0, 1) := by decide +kernel
theorem dX2_init_20 : decode cX2_init 20 = .ok (.bipush 20, 2) := by decide +kernel
theorem dX2_init_22 : decode cX2_init 22 = .ok (.newarray .int, 2) := by decide +kernel
theorem dX2_init_24 : decode cX2_init 24 = .ok (.putfield 18, 3) := by decide +kernel
theorem dX2_init_27 : decode cX2_init 27 = .ok (.aload_n 0, 1) := by decide +kernel
theorem dX2_init_28 : decode cX2_init 28 = .ok (.bipush 20, 2) := by decide +kernel
theorem dX2_init_30 : decode cX2_init 30 = .ok (.newarray .int, 2) := by decide +kernel
theorem dX2_init_32 : decode cX2_init 32 = .ok (.putfield 21, 3) := by decide +kernel
theorem dX2_init_35 : decode cX2_init 35 = .ok (.aload_n 0, 1) := by decide +kernel
theorem dX2_init_36 : decode cX2_init 36 = .ok (.bipush 12, 2) := by decide +kernel
theorem dX2_init_38 : decode cX2_init 38 = .ok (.newarray .int, 2) := by decide +kernel
theorem dX2_init_40 : decode cX2_init 40 = .ok (.putfield 24, 3) := by decide +kernel
theorem dX2_init_43 : decode cX2_init 43 = .ok (.aload_n 0, 1) := by decide +kernel
theorem dX2_init_44 : decode cX2_init 44 = .ok (.getfield 15, 3) := by decide +kernel
theorem dX2_init_47 : decode cX2_init 47 = .ok (.bipush (-9), 2) := by decide +kernel
theorem dX2_init_49 : decode cX2_init 49 = .ok (.invokestatic 27, 3) := by decide +kernel
theorem dX2_init_52 : decode cX2_init 52 = .ok (.return_, 1) := by decide +kernel
theorem dX2_placeOf_0 : decode cX2_placeOf 0 = .ok (.iload_n 0, 1) := by decide +kernel
theorem dX2_placeOf_1 : decode cX2_placeOf 1 = .ok (.iconst 4, 1) := by decide +kernel
theorem dX2_placeOf_2 : decode cX2_placeOf 2 = .ok (.imul, 1) := by decide +kernel
theorem dX2_placeOf_3 : decode cX2_placeOf 3 = .ok (.iload_n 1, 1) := by decide +kernel
theorem dX2_placeOf_4 : decode cX2_placeOf 4 = .ok (.iadd, 1) := by decide +kernel
theorem dX2_placeOf_5 : decode cX2_placeOf 5 = .ok (.ireturn, 1) := by decide +kernel
theorem dX2_rowOf_0 : decode cX2_rowOf 0 = .ok (.iload_n 0, 1) := by decide +kernel
theorem dX2_rowOf_1 : decode cX2_rowOf 1 = .ok (.iload_n 1, 1) := by decide +kernel
theorem dX2_rowOf_2 : decode cX2_rowOf 2 = .ok (.invokestatic 33, 3) := by decide +kernel
theorem dX2_rowOf_5 : decode cX2_rowOf 5 = .ok (.bipush 6, 2) := by decide +kernel
theorem dX2_rowOf_7 : decode cX2_rowOf 7 = .ok (.imul, 1) := by decide +kernel
theorem dX2_rowOf_8 : decode cX2_rowOf 8 = .ok (.ireturn, 1) := by decide +kernel
theorem dX2_formsOf_0 : decode cX2_formsOf 0 = .ok (.iload_n 1, 1) := by decide +kernel
theorem dX2_formsOf_1 : decode cX2_formsOf 1 = .ok (.ifCond .lt 8, 3) := by decide +kernel
theorem dX2_formsOf_4 : decode cX2_formsOf 4 = .ok (.iload_n 1, 1) := by decide +kernel
theorem dX2_formsOf_5 : decode cX2_formsOf 5 = .ok (.iconst 5, 1) := by decide +kernel
theorem dX2_formsOf_6 : decode cX2_formsOf 6 = .ok (.if_icmp .lt 7, 3) := by decide +kernel
theorem dX2_formsOf_9 : decode cX2_formsOf 9 = .ok (.iconst 0, 1) := by decide +kernel
theorem dX2_formsOf_10 : decode cX2_formsOf 10 = .ok (.goto 9, 3) := by decide +kernel
theorem dX2_formsOf_13 : decode cX2_formsOf 13 = .ok (.aload_n 0, 1) := by decide +kernel
theorem dX2_formsOf_14 : decode cX2_formsOf 14 = .ok (.getfield 9, 3) := by decide +kernel
theorem dX2_formsOf_17 : decode cX2_formsOf 17 = .ok (.iload_n 1, 1) := by decide +kernel
theorem dX2_formsOf_18 : decode cX2_formsOf 18 = .ok (.iaload, 1) := by decide +kernel
theorem dX2_formsOf_19 : decode cX2_formsOf 19 = .ok (.ireturn, 1) := by decide +kernel
theorem dX2_toldInAll_0 : decode cX2_toldInAll 0 = .ok (.iconst 0, 1) := by decide +kernel
theorem dX2_toldInAll_1 : decode cX2_toldInAll 1 = .ok (.istore_n 1, 1) := by decide +kernel
theorem dX2_toldInAll_2 : decode cX2_toldInAll 2 = .ok (.iconst 0, 1) := by decide +kernel
theorem dX2_toldInAll_3 : decode cX2_toldInAll 3 = .ok (.istore_n 2, 1) := by decide +kernel
theorem dX2_toldInAll_4 : decode cX2_toldInAll 4 = .ok (.iload_n 2, 1) := by decide +kernel
theorem dX2_toldInAll_5 : decode cX2_toldInAll 5 = .ok (.iconst 5, 1) := by decide +kernel
theorem dX2_toldInAll_6 : decode cX2_toldInAll 6 = .ok (.if_icmp .ge 18, 3) := by decide +kernel
theorem dX2_toldInAll_9 : decode cX2_toldInAll 9 = .ok (.iload_n 1, 1) := by decide +kernel
theorem dX2_toldInAll_10 : decode cX2_toldInAll 10 = .ok (.aload_n 0, 1) := by decide +kernel
theorem dX2_toldInAll_11 : decode cX2_toldInAll 11 = .ok (.getfield 9, 3) := by decide +kernel
theorem dX2_toldInAll_14 : decode cX2_toldInAll 14 = .ok (.iload_n 2, 1) := by decide +kernel
theorem dX2_toldInAll_15 : decode cX2_toldInAll 15 = .ok (.iaload, 1) := by decide +kernel
theorem dX2_toldInAll_16 : decode cX2_toldInAll 16 = .ok (.iadd, 1) := by decide +kernel
theorem dX2_toldInAll_17 : decode cX2_toldInAll 17 = .ok (.istore_n 1, 1) := by decide +kernel
theorem dX2_toldInAll_18 : decode cX2_toldInAll 18 = .ok (.iinc 2 1, 3) := by decide +kernel
theorem dX2_toldInAll_21 : decode cX2_toldInAll 21 = .ok (.goto (-17), 3) := by decide +kernel
theorem dX2_toldInAll_24 : decode cX2_toldInAll 24 = .ok (.iload_n 1, 1) := by decide +kernel
theorem dX2_toldInAll_25 : decode cX2_toldInAll 25 = .ok (.ireturn, 1) := by decide +kernel
theorem dX2_part_0 : decode cX2_part 0 = .ok (.iload_n 1, 1) := by decide +kernel
theorem dX2_part_1 : decode cX2_part 1 = .ok (.ifCond .lt 12, 3) := by decide +kernel
theorem dX2_part_4 : decode cX2_part 4 = .ok (.iload_n 1, 1) := by decide +kernel
theorem dX2_part_5 : decode cX2_part 5 = .ok (.aload_n 0, 1) := by decide +kernel
theorem dX2_part_6 : decode cX2_part 6 = .ok (.getfield 15, 3) := by decide +kernel
theorem dX2_part_9 : decode cX2_part 9 = .ok (.arraylength, 1) := by decide +kernel
theorem dX2_part_10 : decode cX2_part 10 = .ok (.if_icmp .lt 8, 3) := by decide +kernel
theorem dX2_part_13 : decode cX2_part 13 = .ok (.bipush (-9), 2) := by decide +kernel
theorem dX2_part_15 : decode cX2_part 15 = .ok (.goto 9, 3) := by decide +kernel
theorem dX2_part_18 : decode cX2_part 18 = .ok (.aload_n 0, 1) := by decide +kernel
theorem dX2_part_19 : decode cX2_part 19 = .ok (.getfield 15, 3) := by decide +kernel
theorem dX2_part_22 : decode cX2_part 22 = .ok (.iload_n 1, 1) := by decide +kernel
theorem dX2_part_23 : decode cX2_part 23 = .ok (.iaload, 1) := by decide +kernel
theorem dX2_part_24 : decode cX2_part 24 = .ok (.ireturn, 1) := by decide +kernel
theorem dX2_add_0 : decode cX2_add 0 = .ok (.iload_n 1, 1) := by decide +kernel
theorem dX2_add_1 : decode cX2_add 1 = .ok (.invokestatic 37, 3) := by decide +kernel
theorem dX2_add_4 : decode cX2_add 4 = .ok (.ifCond .eq 13, 3) := by decide +kernel
theorem dX2_add_7 : decode cX2_add 7 = .ok (.aload_n 0, 1) := by decide +kernel
theorem dX2_add_8 : decode cX2_add 8 = .ok (.getfield 9, 3) := by decide +kernel
theorem dX2_add_11 : decode cX2_add 11 = .ok (.iload_n 1, 1) := by decide +kernel
theorem dX2_add_12 : decode cX2_add 12 = .ok (.iaload, 1) := by decide +kernel
theorem dX2_add_13 : decode cX2_add 13 = .ok (.iconst 3, 1) := by decide +kernel
theorem dX2_add_14 : decode cX2_add 14 = .ok (.if_icmp .lt 6, 3) := by decide +kernel
theorem dX2_add_17 : decode cX2_add 17 = .ok (.bipush (-4), 2) := by decide +kernel
theorem dX2_add_19 : decode cX2_add 19 = .ok (.ireturn, 1) := by decide +kernel
theorem dX2_add_20 : decode cX2_add 20 = .ok (.aload_n 0, 1) := by decide +kernel
theorem dX2_add_21 : decode cX2_add 21 = .ok (.getfield 9, 3) := by decide +kernel
theorem dX2_add_24 : decode cX2_add 24 = .ok (.iload_n 1, 1) := by decide +kernel
theorem dX2_add_25 : decode cX2_add 25 = .ok (.dup2, 1) := by decide +kernel
theorem dX2_add_26 : decode cX2_add 26 = .ok (.iaload, 1) := by decide +kernel
theorem dX2_add_27 : decode cX2_add 27 = .ok (.iconst 1, 1) := by decide +kernel
theorem dX2_add_28 : decode cX2_add 28 = .ok (.iadd, 1) := by decide +kernel
theorem dX2_add_29 : decode cX2_add 29 = .ok (.iastore, 1) := by decide +kernel
theorem dX2_add_30 : decode cX2_add 30 = .ok (.iload_n 1, 1) := by decide +kernel
theorem dX2_add_31 : decode cX2_add 31 = .ok (.aload_n 0, 1) := by decide +kernel
theorem dX2_add_32 : decode cX2_add 32 = .ok (.getfield 9, 3) := by decide +kernel
theorem dX2_add_35 : decode cX2_add 35 = .ok (.iload_n 1, 1) := by decide +kernel
theorem dX2_add_36 : decode cX2_add 36 = .ok (.iaload, 1) := by decide +kernel
theorem dX2_add_37 : decode cX2_add 37 = .ok (.invokestatic 41, 3) := by decide +kernel
theorem dX2_add_40 : decode cX2_add 40 = .ok (.istore_n 3, 1) := by decide +kernel
theorem dX2_add_41 : decode cX2_add 41 = .ok (.iconst 0, 1) := by decide +kernel
theorem dX2_add_42 : decode cX2_add 42 = .ok (.istore 4, 2) := by decide +kernel
theorem dX2_add_44 : decode cX2_add 44 = .ok (.iload 4, 2) := by decide +kernel
theorem dX2_add_46 : decode cX2_add 46 = .ok (.bipush 6, 2) := by decide +kernel
theorem dX2_add_48 : decode cX2_add 48 = .ok (.if_icmp .ge 40, 3) := by decide +kernel
theorem dX2_add_51 : decode cX2_add 51 = .ok (.iload_n 3, 1) := by decide +kernel
theorem dX2_add_52 : decode cX2_add 52 = .ok (.ifCond .lt 30, 3) := by decide +kernel
theorem dX2_add_55 : decode cX2_add 55 = .ok (.iload_n 3, 1) := by decide +kernel
theorem dX2_add_56 : decode cX2_add 56 = .ok (.iload 4, 2) := by decide +kernel
theorem dX2_add_58 : decode cX2_add 58 = .ok (.iadd, 1) := by decide +kernel
theorem dX2_add_59 : decode cX2_add 59 = .ok (.aload_n 0, 1) := by decide +kernel
theorem dX2_add_60 : decode cX2_add 60 = .ok (.getfield 15, 3) := by decide +kernel
theorem dX2_add_63 : decode cX2_add 63 = .ok (.arraylength, 1) := by decide +kernel
theorem dX2_add_64 : decode cX2_add 64 = .ok (.if_icmp .ge 18, 3) := by decide +kernel
theorem dX2_add_67 : decode cX2_add 67 = .ok (.aload_n 0, 1) := by decide +kernel
theorem dX2_add_68 : decode cX2_add 68 = .ok (.getfield 15, 3) := by decide +kernel
theorem dX2_add_71 : decode cX2_add 71 = .ok (.iload_n 3, 1) := by decide +kernel
theorem dX2_add_72 : decode cX2_add 72 = .ok (.iload 4, 2) := by decide +kernel
theorem dX2_add_74 : decode cX2_add 74 = .ok (.iadd, 1) := by decide +kernel
theorem dX2_add_75 : decode cX2_add 75 = .ok (.aload_n 2, 1) := by decide +kernel
theorem dX2_add_76 : decode cX2_add 76 = .ok (.iload 4, 2) := by decide +kernel
theorem dX2_add_78 : decode cX2_add 78 = .ok (.invokevirtual 44, 3) := by decide +kernel
theorem dX2_add_81 : decode cX2_add 81 = .ok (.iastore, 1) := by decide +kernel
theorem dX2_add_82 : decode cX2_add 82 = .ok (.iinc 4 1, 3) := by decide +kernel
theorem dX2_add_85 : decode cX2_add 85 = .ok (.goto (-41), 3) := by decide +kernel
theorem dX2_add_88 : decode cX2_add 88 = .ok (.aload_n 0, 1) := by decide +kernel
theorem dX2_add_89 : decode cX2_add 89 = .ok (.iload_n 1, 1) := by decide +kernel
theorem dX2_add_90 : decode cX2_add 90 = .ok (.aload_n 0, 1) := by decide +kernel
theorem dX2_add_91 : decode cX2_add 91 = .ok (.getfield 9, 3) := by decide +kernel
theorem dX2_add_94 : decode cX2_add 94 = .ok (.iload_n 1, 1) := by decide +kernel
theorem dX2_add_95 : decode cX2_add 95 = .ok (.iaload, 1) := by decide +kernel
theorem dX2_add_96 : decode cX2_add 96 = .ok (.invokestatic 33, 3) := by decide +kernel
theorem dX2_add_99 : decode cX2_add 99 = .ok (.aload_n 2, 1) := by decide +kernel
theorem dX2_add_100 : decode cX2_add 100 = .ok (.iconst 5, 1) := by decide +kernel
theorem dX2_add_101 : decode cX2_add 101 = .ok (.invokevirtual 44, 3) := by decide +kernel
theorem dX2_add_104 : decode cX2_add 104 = .ok (.invokevirtual 50, 3) := by decide +kernel
theorem dX2_add_107 : decode cX2_add 107 = .ok (.aload_n 0, 1) := by decide +kernel
theorem dX2_add_108 : decode cX2_add 108 = .ok (.getfield 9, 3) := by decide +kernel
theorem dX2_add_111 : decode cX2_add 111 = .ok (.iload_n 1, 1) := by decide +kernel
theorem dX2_add_112 : decode cX2_add 112 = .ok (.iaload, 1) := by decide +kernel
theorem dX2_add_113 : decode cX2_add 113 = .ok (.ireturn, 1) := by decide +kernel
theorem dX2_hangOn_0 : decode cX2_hangOn 0 = .ok (.iload_n 1, 1) := by decide +kernel
theorem dX2_hangOn_1 : decode cX2_hangOn 1 = .ok (.ifCond .lt 29, 3) := by decide +kernel
theorem dX2_hangOn_4 : decode cX2_hangOn 4 = .ok (.iload_n 1, 1) := by decide +kernel
theorem dX2_hangOn_5 : decode cX2_hangOn 5 = .ok (.bipush 20, 2) := by decide +kernel
theorem dX2_hangOn_7 : decode cX2_hangOn 7 = .ok (.if_icmp .ge 23, 3) := by decide +kernel
theorem dX2_hangOn_10 : decode cX2_hangOn 10 = .ok (.aload_n 0, 1) := by decide +kernel
theorem dX2_hangOn_11 : decode cX2_hangOn 11 = .ok (.getfield 18, 3) := by decide +kernel
theorem dX2_hangOn_14 : decode cX2_hangOn 14 = .ok (.iload_n 1, 1) := by decide +kernel
theorem dX2_hangOn_15 : decode cX2_hangOn 15 = .ok (.iload_n 2, 1) := by decide +kernel
theorem dX2_hangOn_16 : decode cX2_hangOn 16 = .ok (.invokestatic 54, 3) := by decide +kernel
theorem dX2_hangOn_19 : decode cX2_hangOn 19 = .ok (.iastore, 1) := by decide +kernel
theorem dX2_hangOn_20 : decode cX2_hangOn 20 = .ok (.aload_n 0, 1) := by decide +kernel
theorem dX2_hangOn_21 : decode cX2_hangOn 21 = .ok (.getfield 21, 3) := by decide +kernel
theorem dX2_hangOn_24 : decode cX2_hangOn 24 = .ok (.iload_n 1, 1) := by decide +kernel
theorem dX2_hangOn_25 : decode cX2_hangOn 25 = .ok (.iload_n 2, 1) := by decide +kernel
theorem dX2_hangOn_26 : decode cX2_hangOn 26 = .ok (.invokestatic 59, 3) := by decide +kernel
theorem dX2_hangOn_29 : decode cX2_hangOn 29 = .ok (.iastore, 1) := by decide +kernel
theorem dX2_hangOn_30 : decode cX2_hangOn 30 = .ok (.return_, 1) := by decide +kernel
theorem dX2_drop_0 : decode cX2_drop 0 = .ok (.iload_n 1, 1) := by decide +kernel
theorem dX2_drop_1 : decode cX2_drop 1 = .ok (.invokestatic 37, 3) := by decide +kernel
theorem dX2_drop_4 : decode cX2_drop 4 = .ok (.ifCond .ne 5, 3) := by decide +kernel
theorem dX2_drop_7 : decode cX2_drop 7 = .ok (.iconst 0, 1) := by decide +kernel
theorem dX2_drop_8 : decode cX2_drop 8 = .ok (.ireturn, 1) := by decide +kernel
theorem dX2_drop_9 : decode cX2_drop 9 = .ok (.aload_n 0, 1) := by decide +kernel
theorem dX2_drop_10 : decode cX2_drop 10 = .ok (.getfield 9, 3) := by decide +kernel
theorem dX2_drop_13 : decode cX2_drop 13 = .ok (.iload_n 1, 1) := by decide +kernel
theorem dX2_drop_14 : decode cX2_drop 14 = .ok (.iaload, 1) := by decide +kernel
theorem dX2_drop_15 : decode cX2_drop 15 = .ok (.istore_n 2, 1) := by decide +kernel
theorem dX2_drop_16 : decode cX2_drop 16 = .ok (.aload_n 0, 1) := by decide +kernel
theorem dX2_drop_17 : decode cX2_drop 17 = .ok (.getfield 9, 3) := by decide +kernel
theorem dX2_drop_20 : decode cX2_drop 20 = .ok (.iload_n 1, 1) := by decide +kernel
theorem dX2_drop_21 : decode cX2_drop 21 = .ok (.iconst 0, 1) := by decide +kernel
theorem dX2_drop_22 : decode cX2_drop 22 = .ok (.iastore, 1) := by decide +kernel
theorem dX2_drop_23 : decode cX2_drop 23 = .ok (.iload_n 2, 1) := by decide +kernel
theorem dX2_drop_24 : decode cX2_drop 24 = .ok (.ireturn, 1) := by decide +kernel
theorem dX2_giveSeats_0 : decode cX2_giveSeats 0 = .ok (.iload_n 1, 1) := by decide +kernel
theorem dX2_giveSeats_1 : decode cX2_giveSeats 1 = .ok (.iconst 4, 1) := by decide +kernel
theorem dX2_giveSeats_2 : decode cX2_giveSeats 2 = .ok (.imul, 1) := by decide +kernel
theorem dX2_giveSeats_3 : decode cX2_giveSeats 3 = .ok (.iload_n 2, 1) := by decide +kernel
theorem dX2_giveSeats_4 : decode cX2_giveSeats 4 = .ok (.iadd, 1) := by decide +kernel
theorem dX2_giveSeats_5 : decode cX2_giveSeats 5 = .ok (.istore 4, 2) := by decide +kernel
theorem dX2_giveSeats_7 : decode cX2_giveSeats 7 = .ok (.iload 4, 2) := by decide +kernel
theorem dX2_giveSeats_9 : decode cX2_giveSeats 9 = .ok (.ifCond .lt 13, 3) := by decide +kernel
theorem dX2_giveSeats_12 : decode cX2_giveSeats 12 = .ok (.iload 4, 2) := by decide +kernel
theorem dX2_giveSeats_14 : decode cX2_giveSeats 14 = .ok (.aload_n 0, 1) := by decide +kernel
theorem dX2_giveSeats_15 : decode cX2_giveSeats 15 = .ok (.getfield 24, 3) := by decide +kernel
theorem dX2_giveSeats_18 : decode cX2_giveSeats 18 = .ok (.arraylength, 1) := by decide +kernel
theorem dX2_giveSeats_19 : decode cX2_giveSeats 19 = .ok (.if_icmp .lt 5, 3) := by decide +kernel
theorem dX2_giveSeats_22 : decode cX2_giveSeats 22 = .ok (.iconst 0, 1) := by decide +kernel
theorem dX2_giveSeats_23 : decode cX2_giveSeats 23 = .ok (.ireturn, 1) := by decide +kernel
theorem dX2_giveSeats_24 : decode cX2_giveSeats 24 = .ok (.aload_n 0, 1) := by decide +kernel
theorem dX2_giveSeats_25 : decode cX2_giveSeats 25 = .ok (.getfield 24, 3) := by decide +kernel
theorem dX2_giveSeats_28 : decode cX2_giveSeats 28 = .ok (.iload 4, 2) := by decide +kernel
theorem dX2_giveSeats_30 : decode cX2_giveSeats 30 = .ok (.iaload, 1) := by decide +kernel
theorem dX2_giveSeats_31 : decode cX2_giveSeats 31 = .ok (.istore 5, 2) := by decide +kernel
theorem dX2_giveSeats_33 : decode cX2_giveSeats 33 = .ok (.aload_n 0, 1) := by decide +kernel
theorem dX2_giveSeats_34 : decode cX2_giveSeats 34 = .ok (.getfield 24, 3) := by decide +kernel
theorem dX2_giveSeats_37 : decode cX2_giveSeats 37 = .ok (.iload 4, 2) := by decide +kernel
theorem dX2_giveSeats_39 : decode cX2_giveSeats 39 = .ok (.iload_n 3, 1) := by decide +kernel
theorem dX2_giveSeats_40 : decode cX2_giveSeats 40 = .ok (.iastore, 1) := by decide +kernel
theorem dX2_giveSeats_41 : decode cX2_giveSeats 41 = .ok (.iload 5, 2) := by decide +kernel
theorem dX2_giveSeats_43 : decode cX2_giveSeats 43 = .ok (.ireturn, 1) := by decide +kernel
theorem dX2_ownSeatsOf_0 : decode cX2_ownSeatsOf 0 = .ok (.iconst 0, 1) := by decide +kernel
theorem dX2_ownSeatsOf_1 : decode cX2_ownSeatsOf 1 = .ok (.istore_n 3, 1) := by decide +kernel
theorem dX2_ownSeatsOf_2 : decode cX2_ownSeatsOf 2 = .ok (.iconst 0, 1) := by decide +kernel
theorem dX2_ownSeatsOf_3 : decode cX2_ownSeatsOf 3 = .ok (.istore 4, 2) := by decide +kernel
theorem dX2_ownSeatsOf_5 : decode cX2_ownSeatsOf 5 = .ok (.iload 4, 2) := by decide +kernel
theorem dX2_ownSeatsOf_7 : decode cX2_ownSeatsOf 7 = .ok (.iconst 4, 1) := by decide +kernel
theorem dX2_ownSeatsOf_8 : decode cX2_ownSeatsOf 8 = .ok (.if_icmp .ge 52, 3) := by decide +kernel
theorem dX2_ownSeatsOf_11 : decode cX2_ownSeatsOf 11 = .ok (.iload_n 2, 1) := by decide +kernel
theorem dX2_ownSeatsOf_12 : decode cX2_ownSeatsOf 12 = .ok (.iconst 4, 1) := by decide +kernel
theorem dX2_ownSeatsOf_13 : decode cX2_ownSeatsOf 13 = .ok (.imul, 1) := by decide +kernel
theorem dX2_ownSeatsOf_14 : decode cX2_ownSeatsOf 14 = .ok (.iload 4, 2) := by decide +kernel
theorem dX2_ownSeatsOf_16 : decode cX2_ownSeatsOf 16 = .ok (.iadd, 1) := by decide +kernel
theorem dX2_ownSeatsOf_17 : decode cX2_ownSeatsOf 17 = .ok (.istore 5, 2) := by decide +kernel
theorem dX2_ownSeatsOf_19 : decode cX2_ownSeatsOf 19 = .ok (.iload_n 1, 1) := by decide +kernel
theorem dX2_ownSeatsOf_20 : decode cX2_ownSeatsOf 20 = .ok (.iload 4, 2) := by decide +kernel
theorem dX2_ownSeatsOf_22 : decode cX2_ownSeatsOf 22 = .ok (.ishr, 1) := by decide +kernel
theorem dX2_ownSeatsOf_23 : decode cX2_ownSeatsOf 23 = .ok (.iconst 1, 1) := by decide +kernel
theorem dX2_ownSeatsOf_24 : decode cX2_ownSeatsOf 24 = .ok (.iand, 1) := by decide +kernel
theorem dX2_ownSeatsOf_25 : decode cX2_ownSeatsOf 25 = .ok (.iconst 1, 1) := by decide +kernel
theorem dX2_ownSeatsOf_26 : decode cX2_ownSeatsOf 26 = .ok (.if_icmp .ne 28, 3) := by decide +kernel
theorem dX2_ownSeatsOf_29 : decode cX2_ownSeatsOf 29 = .ok (.iload 5, 2) := by decide +kernel
theorem dX2_ownSeatsOf_31 : decode cX2_ownSeatsOf 31 = .ok (.ifCond .lt 23, 3) := by decide +kernel
theorem dX2_ownSeatsOf_34 : decode cX2_ownSeatsOf 34 = .ok (.iload 5, 2) := by decide +kernel
theorem dX2_ownSeatsOf_36 : decode cX2_ownSeatsOf 36 = .ok (.aload_n 0, 1) := by decide +kernel
theorem dX2_ownSeatsOf_37 : decode cX2_ownSeatsOf 37 = .ok (.getfield 24, 3) := by decide +kernel
theorem dX2_ownSeatsOf_40 : decode cX2_ownSeatsOf 40 = .ok (.arraylength, 1) := by decide +kernel
theorem dX2_ownSeatsOf_41 : decode cX2_ownSeatsOf 41 = .ok (.if_icmp .ge 13, 3) := by decide +kernel
theorem dX2_ownSeatsOf_44 : decode cX2_ownSeatsOf 44 = .ok (.iload_n 3, 1) := by decide +kernel
theorem dX2_ownSeatsOf_45 : decode cX2_ownSeatsOf 45 = .ok (.aload_n 0, 1) := by decide +kernel
theorem dX2_ownSeatsOf_46 : decode cX2_ownSeatsOf 46 = .ok (.getfield 24, 3) := by decide +kernel
theorem dX2_ownSeatsOf_49 : decode cX2_ownSeatsOf 49 = .ok (.iload 5, 2) := by decide +kernel
theorem dX2_ownSeatsOf_51 : decode cX2_ownSeatsOf 51 = .ok (.iaload, 1) := by decide +kernel
theorem dX2_ownSeatsOf_52 : decode cX2_ownSeatsOf 52 = .ok (.iadd, 1) := by decide +kernel
theorem dX2_ownSeatsOf_53 : decode cX2_ownSeatsOf 53 = .ok (.istore_n 3, 1) := by decide +kernel
theorem dX2_ownSeatsOf_54 : decode cX2_ownSeatsOf 54 = .ok (.iinc 4 1, 3) := by decide +kernel
theorem dX2_ownSeatsOf_57 : decode cX2_ownSeatsOf 57 = .ok (.goto (-52), 3) := by decide +kernel
theorem dX2_ownSeatsOf_60 : decode cX2_ownSeatsOf 60 = .ok (.iload_n 3, 1) := by decide +kernel
theorem dX2_ownSeatsOf_61 : decode cX2_ownSeatsOf 61 = .ok (.ireturn, 1) := by decide +kernel
theorem dX2_inForce_0 : decode cX2_inForce 0 = .ok (.iload_n 1, 1) := by decide +kernel
theorem dX2_inForce_1 : decode cX2_inForce 1 = .ok (.iload_n 2, 1) := by decide +kernel
theorem dX2_inForce_2 : decode cX2_inForce 2 = .ok (.invokestatic 62, 3) := by decide +kernel
theorem dX2_inForce_5 : decode cX2_inForce 5 = .ok (.istore_n 3, 1) := by decide +kernel
theorem dX2_inForce_6 : decode cX2_inForce 6 = .ok (.iload_n 2, 1) := by decide +kernel
theorem dX2_inForce_7 : decode cX2_inForce 7 = .ok (.iload_n 3, 1) := by decide +kernel
theorem dX2_inForce_8 : decode cX2_inForce 8 = .ok (.invokestatic 33, 3) := by decide +kernel
theorem dX2_inForce_11 : decode cX2_inForce 11 = .ok (.istore 4, 2) := by decide +kernel
theorem dX2_inForce_13 : decode cX2_inForce 13 = .ok (.iload_n 3, 1) := by decide +kernel
theorem dX2_inForce_14 : decode cX2_inForce 14 = .ok (.ifCond .eq 15, 3) := by decide +kernel
theorem dX2_inForce_17 : decode cX2_inForce 17 = .ok (.iload 4, 2) := by decide +kernel
theorem dX2_inForce_19 : decode cX2_inForce 19 = .ok (.ifCond .lt 10, 3) := by decide +kernel
theorem dX2_inForce_22 : decode cX2_inForce 22 = .ok (.iload 4, 2) := by decide +kernel
theorem dX2_inForce_24 : decode cX2_inForce 24 = .ok (.bipush 20, 2) := by decide +kernel
theorem dX2_inForce_26 : decode cX2_inForce 26 = .ok (.if_icmp .lt 5, 3) := by decide +kernel
theorem dX2_inForce_29 : decode cX2_inForce 29 = .ok (.iconst 0, 1) := by decide +kernel
theorem dX2_inForce_30 : decode cX2_inForce 30 = .ok (.ireturn, 1) := by decide +kernel
theorem dX2_inForce_31 : decode cX2_inForce 31 = .ok (.iload_n 1, 1) := by decide +kernel
theorem dX2_inForce_32 : decode cX2_inForce 32 = .ok (.aload_n 0, 1) := by decide +kernel
theorem dX2_inForce_33 : decode cX2_inForce 33 = .ok (.getfield 18, 3) := by decide +kernel
theorem dX2_inForce_36 : decode cX2_inForce 36 = .ok (.iload 4, 2) := by decide +kernel
theorem dX2_inForce_38 : decode cX2_inForce 38 = .ok (.iaload, 1) := by decide +kernel
theorem dX2_inForce_39 : decode cX2_inForce 39 = .ok (.iand, 1) := by decide +kernel
theorem dX2_inForce_40 : decode cX2_inForce 40 = .ok (.aload_n 0, 1) := by decide +kernel
theorem dX2_inForce_41 : decode cX2_inForce 41 = .ok (.getfield 21, 3) := by decide +kernel
theorem dX2_inForce_44 : decode cX2_inForce 44 = .ok (.iload 4, 2) := by decide +kernel
theorem dX2_inForce_46 : decode cX2_inForce 46 = .ok (.iaload, 1) := by decide +kernel
theorem dX2_inForce_47 : decode cX2_inForce 47 = .ok (.if_icmp .ne 7, 3) := by decide +kernel
theorem dX2_inForce_50 : decode cX2_inForce 50 = .ok (.iconst 1, 1) := by decide +kernel
theorem dX2_inForce_51 : decode cX2_inForce 51 = .ok (.goto 4, 3) := by decide +kernel
theorem dX2_inForce_54 : decode cX2_inForce 54 = .ok (.iconst 0, 1) := by decide +kernel
theorem dX2_inForce_55 : decode cX2_inForce 55 = .ok (.ireturn, 1) := by decide +kernel
theorem dX2_howManyInForce_0 : decode cX2_howManyInForce 0 = .ok (.iconst 0, 1) := by decide +kernel
theorem dX2_howManyInForce_1 : decode cX2_howManyInForce 1 = .ok (.istore_n 2, 1) := by decide +kernel
theorem dX2_howManyInForce_2 : decode cX2_howManyInForce 2 = .ok (.iconst 0, 1) := by decide +kernel
theorem dX2_howManyInForce_3 : decode cX2_howManyInForce 3 = .ok (.istore_n 3, 1) := by decide +kernel
theorem dX2_howManyInForce_4 : decode cX2_howManyInForce 4 = .ok (.iload_n 3, 1) := by decide +kernel
theorem dX2_howManyInForce_5 : decode cX2_howManyInForce 5 = .ok (.iconst 5, 1) := by decide +kernel
theorem dX2_howManyInForce_6 : decode cX2_howManyInForce 6 = .ok (.if_icmp .ge 26, 3) := by decide +kernel
theorem dX2_howManyInForce_9 : decode cX2_howManyInForce 9 = .ok (.iload_n 2, 1) := by decide +kernel
theorem dX2_howManyInForce_10 : decode cX2_howManyInForce 10 = .ok (.aload_n 0, 1) := by decide +kernel
theorem dX2_howManyInForce_11 : decode cX2_howManyInForce 11 = .ok (.iload_n 1, 1) := by decide +kernel
theorem dX2_howManyInForce_12 : decode cX2_howManyInForce 12 = .ok (.iload_n 3, 1) := by decide +kernel
theorem dX2_howManyInForce_13 : decode cX2_howManyInForce 13 = .ok (.invokevirtual 67, 3) := by decide +kernel
theorem dX2_howManyInForce_16 : decode cX2_howManyInForce 16 = .ok (.ifCond .eq 7, 3) := by decide +kernel
theorem dX2_howManyInForce_19 : decode cX2_howManyInForce 19 = .ok (.iconst 1, 1) := by decide +kernel
theorem dX2_howManyInForce_20 : decode cX2_howManyInForce 20 = .ok (.goto 4, 3) := by decide +kernel
theorem dX2_howManyInForce_23 : decode cX2_howManyInForce 23 = .ok (.iconst 0, 1) := by decide +kernel
theorem dX2_howManyInForce_24 : decode cX2_howManyInForce 24 = .ok (.iadd, 1) := by decide +kernel
theorem dX2_howManyInForce_25 : decode cX2_howManyInForce 25 = .ok (.istore_n 2, 1) := by decide +kernel
theorem dX2_howManyInForce_26 : decode cX2_howManyInForce 26 = .ok (.iinc 3 1, 3) := by decide +kernel
theorem dX2_howManyInForce_29 : decode cX2_howManyInForce 29 = .ok (.goto (-25), 3) := by decide +kernel
theorem dX2_howManyInForce_32 : decode cX2_howManyInForce 32 = .ok (.iload_n 2, 1) := by decide +kernel
theorem dX2_howManyInForce_33 : decode cX2_howManyInForce 33 = .ok (.ireturn, 1) := by decide +kernel
theorem dX2_withoutGoneForms_0 : decode cX2_withoutGoneForms 0 = .ok (.iload_n 1, 1) := by decide +kernel
theorem dX2_withoutGoneForms_1 : decode cX2_withoutGoneForms 1 = .ok (.istore_n 2, 1) := by decide +kernel
theorem dX2_withoutGoneForms_2 : decode cX2_withoutGoneForms 2 = .ok (.iconst 0, 1) := by decide +kernel
theorem dX2_withoutGoneForms_3 : decode cX2_withoutGoneForms 3 = .ok (.istore_n 3, 1) := by decide +kernel
theorem dX2_withoutGoneForms_4 : decode cX2_withoutGoneForms 4 = .ok (.iload_n 3, 1) := by decide +kernel
theorem dX2_withoutGoneForms_5 : decode cX2_withoutGoneForms 5 = .ok (.iconst 5, 1) := by decide +kernel
theorem dX2_withoutGoneForms_6 : decode cX2_withoutGoneForms 6 = .ok (.if_icmp .ge 30, 3) := by decide +kernel
theorem dX2_withoutGoneForms_9 : decode cX2_withoutGoneForms 9 = .ok (.iload_n 1, 1) := by decide +kernel
theorem dX2_withoutGoneForms_10 : decode cX2_withoutGoneForms 10 = .ok (.iload_n 3, 1) := by decide +kernel
theorem dX2_withoutGoneForms_11 : decode cX2_withoutGoneForms 11 = .ok (.invokestatic 62, 3) := by decide +kernel
theorem dX2_withoutGoneForms_14 : decode cX2_withoutGoneForms 14 = .ok (.aload_n 0, 1) := by decide +kernel
theorem dX2_withoutGoneForms_15 : decode cX2_withoutGoneForms 15 = .ok (.getfield 9, 3) := by decide +kernel
theorem dX2_withoutGoneForms_18 : decode cX2_withoutGoneForms 18 = .ok (.iload_n 3, 1) := by decide +kernel
theorem dX2_withoutGoneForms_19 : decode cX2_withoutGoneForms 19 = .ok (.iaload, 1) := by decide +kernel
theorem dX2_withoutGoneForms_20 : decode cX2_withoutGoneForms 20 = .ok (.if_icmp .le 10, 3) := by decide +kernel
theorem dX2_withoutGoneForms_23 : decode cX2_withoutGoneForms 23 = .ok (.iload_n 2, 1) := by decide +kernel
theorem dX2_withoutGoneForms_24 : decode cX2_withoutGoneForms 24 = .ok (.iload_n 3, 1) := by decide +kernel
theorem dX2_withoutGoneForms_25 : decode cX2_withoutGoneForms 25 = .ok (.iconst 0, 1) := by decide +kernel
theorem dX2_withoutGoneForms_26 : decode cX2_withoutGoneForms 26 = .ok (.invokestatic 71, 3) := by decide +kernel
theorem dX2_withoutGoneForms_29 : decode cX2_withoutGoneForms 29 = .ok (.istore_n 2, 1) := by decide +kernel
theorem dX2_withoutGoneForms_30 : decode cX2_withoutGoneForms 30 = .ok (.iinc 3 1, 3) := by decide +kernel
theorem dX2_withoutGoneForms_33 : decode cX2_withoutGoneForms 33 = .ok (.goto (-29), 3) := by decide +kernel
theorem dX2_withoutGoneForms_36 : decode cX2_withoutGoneForms 36 = .ok (.iload_n 2, 1) := by decide +kernel
theorem dX2_withoutGoneForms_37 : decode cX2_withoutGoneForms 37 = .ok (.ireturn, 1) := by decide +kernel
theorem dX3_init_0 : decode cX3_init 0 = .ok (.aload_n 0, 1) := by decide +kernel
theorem dX3_init_1 : decode cX3_init 1 = .ok (.invokespecial 3, 3) := by decide +kernel
theorem dX3_init_4 : decode cX3_init 4 = .ok (.aload_n 0, 1) := by decide +kernel
theorem dX3_init_5 : decode cX3_init 5 = .ok (.sipush 16384, 3) := by decide +kernel
theorem dX3_init_8 : decode cX3_init 8 = .ok (.newarray .int, 2) := by decide +kernel
theorem dX3_init_10 : decode cX3_init 10 = .ok (.putfield 11, 3) := by decide +kernel
theorem dX3_init_13 : decode cX3_init 13 = .ok (.aload_n 0, 1) := by decide +kernel
theorem dX3_init_14 : decode cX3_init 14 = .ok (.sipush 16384, 3) := by decide +kernel
theorem dX3_init_17 : decode cX3_init 17 = .ok (.newarray .int, 2) := by decide +kernel
theorem dX3_init_19 : decode cX3_init 19 = .ok (.putfield 17, 3) := by decide +kernel
theorem dX3_init_22 : decode cX3_init 22 = .ok (.aload_n 0, 1) := by decide +kernel
theorem dX3_init_23 : decode cX3_init 23 = .ok (.sipush 16384, 3) := by decide +kernel
theorem dX3_init_26 : decode cX3_init 26 = .ok (.newarray .int, 2) := by decide +kernel
theorem dX3_init_28 : decode cX3_init 28 = .ok (.putfield 20, 3) := by decide +kernel
theorem dX3_init_31 : decode cX3_init 31 = .ok (.aload_n 0, 1) := by decide +kernel
theorem dX3_init_32 : decode cX3_init 32 = .ok (.sipush 16384, 3) := by decide +kernel
theorem dX3_init_35 : decode cX3_init 35 = .ok (.newarray .int, 2) := by decide +kernel
theorem dX3_init_37 : decode cX3_init 37 = .ok (.putfield 23, 3) := by decide +kernel
theorem dX3_init_40 : decode cX3_init 40 = .ok (.aload_n 0, 1) := by decide +kernel
theorem dX3_init_41 : decode cX3_init 41 = .ok (.bipush 17, 2) := by decide +kernel
theorem dX3_init_43 : decode cX3_init 43 = .ok (.newarray .int, 2) := by decide +kernel
theorem dX3_init_45 : decode cX3_init 45 = .ok (.putfield 26, 3) := by decide +kernel
theorem dX3_init_48 : decode cX3_init 48 = .ok (.return_, 1) := by decide +kernel
theorem dX3_size_0 : decode cX3_size 0 = .ok (.aload_n 0, 1) := by decide +kernel
theorem dX3_size_1 : decode cX3_size 1 = .ok (.getfield 29, 3) := by decide +kernel
theorem dX3_size_4 : decode cX3_size 4 = .ok (.ireturn, 1) := by decide +kernel
theorem dX3_run_0 : decode cX3_run 0 = .ok (.aload_n 0, 1) := by decide +kernel
theorem dX3_run_1 : decode cX3_run 1 = .ok (.iload_n 1, 1) := by decide +kernel
theorem dX3_run_2 : decode cX3_run 2 = .ok (.invokevirtual 33, 3) := by decide +kernel
theorem dX3_run_5 : decode cX3_run 5 = .ok (.iconst 0, 1) := by decide +kernel
theorem dX3_run_6 : decode cX3_run 6 = .ok (.istore_n 3, 1) := by decide +kernel
theorem dX3_run_7 : decode cX3_run 7 = .ok (.iload_n 3, 1) := by decide +kernel
theorem dX3_run_8 : decode cX3_run 8 = .ok (.aload_n 0, 1) := by decide +kernel
theorem dX3_run_9 : decode cX3_run 9 = .ok (.getfield 29, 3) := by decide +kernel
theorem dX3_run_12 : decode cX3_run 12 = .ok (.if_icmp .ge 27, 3) := by decide +kernel
theorem dX3_run_15 : decode cX3_run 15 = .ok (.iload_n 3, 1) := by decide +kernel
theorem dX3_run_16 : decode cX3_run 16 = .ok (.sipush 16384, 3) := by decide +kernel
theorem dX3_run_19 : decode cX3_run 19 = .ok (.if_icmp .ge 20, 3) := by decide +kernel
theorem dX3_run_22 : decode cX3_run 22 = .ok (.aload_n 0, 1) := by decide +kernel
theorem dX3_run_23 : decode cX3_run 23 = .ok (.aload_n 0, 1) := by decide +kernel
theorem dX3_run_24 : decode cX3_run 24 = .ok (.getfield 11, 3) := by decide +kernel
theorem dX3_run_27 : decode cX3_run 27 = .ok (.iload_n 3, 1) := by decide +kernel
theorem dX3_run_28 : decode cX3_run 28 = .ok (.iaload, 1) := by decide +kernel
theorem dX3_run_29 : decode cX3_run 29 = .ok (.aload_n 2, 1) := by decide +kernel
theorem dX3_run_30 : decode cX3_run 30 = .ok (.invokevirtual 37, 3) := by decide +kernel
theorem dX3_run_33 : decode cX3_run 33 = .ok (.iinc 3 1, 3) := by decide +kernel
theorem dX3_run_36 : decode cX3_run 36 = .ok (.goto (-29), 3) := by decide +kernel
theorem dX3_run_39 : decode cX3_run 39 = .ok (.return_, 1) := by decide +kernel
theorem dX3_find_0 : decode cX3_find 0 = .ok (.aload_n 0, 1) := by decide +kernel
theorem dX3_find_1 : decode cX3_find 1 = .ok (.iload_n 1, 1) := by decide +kernel
theorem dX3_find_2 : decode cX3_find 2 = .ok (.invokevirtual 33, 3) := by decide +kernel
theorem dX3_find_5 : decode cX3_find 5 = .ok (.iconst 0, 1) := by decide +kernel
theorem dX3_find_6 : decode cX3_find 6 = .ok (.istore 5, 2) := by decide +kernel
theorem dX3_find_8 : decode cX3_find 8 = .ok (.iload 5, 2) := by decide +kernel
theorem dX3_find_10 : decode cX3_find 10 = .ok (.aload_n 0, 1) := by decide +kernel
theorem dX3_find_11 : decode cX3_find 11 = .ok (.getfield 29, 3) := by decide +kernel
theorem dX3_find_14 : decode cX3_find 14 = .ok (.if_icmp .ge 53, 3) := by decide +kernel
theorem dX3_find_17 : decode cX3_find 17 = .ok (.iload 5, 2) := by decide +kernel
theorem dX3_find_19 : decode cX3_find 19 = .ok (.sipush 16384, 3) := by decide +kernel
theorem dX3_find_22 : decode cX3_find 22 = .ok (.if_icmp .ge 45, 3) := by decide +kernel
theorem dX3_find_25 : decode cX3_find 25 = .ok (.iload_n 3, 1) := by decide +kernel
theorem dX3_find_26 : decode cX3_find 26 = .ok (.aload_n 0, 1) := by decide +kernel
theorem dX3_find_27 : decode cX3_find 27 = .ok (.getfield 11, 3) := by decide +kernel
theorem dX3_find_30 : decode cX3_find 30 = .ok (.iload 5, 2) := by decide +kernel
theorem dX3_find_32 : decode cX3_find 32 = .ok (.iaload, 1) := by decide +kernel
theorem dX3_find_33 : decode cX3_find 33 = .ok (.invokestatic 41, 3) := by decide +kernel
theorem dX3_find_36 : decode cX3_find 36 = .ok (.iload 4, 2) := by decide +kernel
theorem dX3_find_38 : decode cX3_find 38 = .ok (.if_icmp .ne 11, 3) := by decide +kernel
theorem dX3_find_41 : decode cX3_find 41 = .ok (.aload_n 0, 1) := by decide +kernel
theorem dX3_find_42 : decode cX3_find 42 = .ok (.getfield 11, 3) := by decide +kernel
theorem dX3_find_45 : decode cX3_find 45 = .ok (.iload 5, 2) := by decide +kernel
theorem dX3_find_47 : decode cX3_find 47 = .ok (.iaload, 1) := by decide +kernel
theorem dX3_find_48 : decode cX3_find 48 = .ok (.ireturn, 1) := by decide +kernel
theorem dX3_find_49 : decode cX3_find 49 = .ok (.aload_n 0, 1) := by decide +kernel
theorem dX3_find_50 : decode cX3_find 50 = .ok (.aload_n 0, 1) := by decide +kernel
theorem dX3_find_51 : decode cX3_find 51 = .ok (.getfield 11, 3) := by decide +kernel
theorem dX3_find_54 : decode cX3_find 54 = .ok (.iload 5, 2) := by decide +kernel
theorem dX3_find_56 : decode cX3_find 56 = .ok (.iaload, 1) := by decide +kernel
theorem dX3_find_57 : decode cX3_find 57 = .ok (.aload_n 2, 1) := by decide +kernel
theorem dX3_find_58 : decode cX3_find 58 = .ok (.invokevirtual 37, 3) := by decide +kernel
theorem dX3_find_61 : decode cX3_find 61 = .ok (.iinc 5 1, 3) := by decide +kernel
theorem dX3_find_64 : decode cX3_find 64 = .ok (.goto (-56), 3) := by decide +kernel
theorem dX3_find_67 : decode cX3_find 67 = .ok (.bipush (-9), 2) := by decide +kernel
theorem dX3_find_69 : decode cX3_find 69 = .ok (.ireturn, 1) := by decide +kernel
theorem dX3_runByBoth_0 : decode cX3_runByBoth 0 = .ok (.aload_n 0, 1) := by decide +kernel
theorem dX3_runByBoth_1 : decode cX3_runByBoth 1 = .ok (.iload_n 1, 1) := by decide +kernel
theorem dX3_runByBoth_2 : decode cX3_runByBoth 2 = .ok (.invokevirtual 33, 3) := by decide +kernel
theorem dX3_runByBoth_5 : decode cX3_runByBoth 5 = .ok (.iconst 0, 1) := by decide +kernel
theorem dX3_runByBoth_6 : decode cX3_runByBoth 6 = .ok (.istore 5, 2) := by decide +kernel
theorem dX3_runByBoth_8 : decode cX3_runByBoth 8 = .ok (.iconst 0, 1) := by decide +kernel
theorem dX3_runByBoth_9 : decode cX3_runByBoth 9 = .ok (.istore 6, 2) := by decide +kernel
theorem dX3_runByBoth_11 : decode cX3_runByBoth 11 = .ok (.iload 6, 2) := by decide +kernel
theorem dX3_runByBoth_13 : decode cX3_runByBoth 13 = .ok (.iload 4, 2) := by decide +kernel
theorem dX3_runByBoth_15 : decode cX3_runByBoth 15 = .ok (.if_icmp .gt 100, 3) := by decide +kernel
theorem dX3_runByBoth_18 : decode cX3_runByBoth 18 = .ok (.iload 6, 2) := by decide +kernel
theorem dX3_runByBoth_20 : decode cX3_runByBoth 20 = .ok (.aload_n 0, 1) := by decide +kernel
theorem dX3_runByBoth_21 : decode cX3_runByBoth 21 = .ok (.getfield 26, 3) := by decide +kernel
theorem dX3_runByBoth_24 : decode cX3_runByBoth 24 = .ok (.arraylength, 1) := by decide +kernel
theorem dX3_runByBoth_25 : decode cX3_runByBoth 25 = .ok (.if_icmp .ge 90, 3) := by decide +kernel
theorem dX3_runByBoth_28 : decode cX3_runByBoth 28 = .ok (.aload_n 0, 1) := by decide +kernel
theorem dX3_runByBoth_29 : decode cX3_runByBoth 29 = .ok (.getfield 26, 3) := by decide +kernel
theorem dX3_runByBoth_32 : decode cX3_runByBoth 32 = .ok (.iload 6, 2) := by decide +kernel
theorem dX3_runByBoth_34 : decode cX3_runByBoth 34 = .ok (.aload_n 0, 1) := by decide +kernel
theorem dX3_runByBoth_35 : decode cX3_runByBoth 35 = .ok (.getfield 29, 3) := by decide +kernel
theorem dX3_runByBoth_38 : decode cX3_runByBoth 38 = .ok (.iastore, 1) := by decide +kernel
theorem dX3_runByBoth_39 : decode cX3_runByBoth 39 = .ok (.iload 5, 2) := by decide +kernel
theorem dX3_runByBoth_41 : decode cX3_runByBoth 41 = .ok (.istore 7, 2) := by decide +kernel
theorem dX3_runByBoth_43 : decode cX3_runByBoth 43 = .ok (.iload 6, 2) := by decide +kernel
theorem dX3_runByBoth_45 : decode cX3_runByBoth 45 = .ok (.iload 4, 2) := by decide +kernel
theorem dX3_runByBoth_47 : decode cX3_runByBoth 47 = .ok (.if_icmp .ge 53, 3) := by decide +kernel
theorem dX3_runByBoth_50 : decode cX3_runByBoth 50 = .ok (.iload 7, 2) := by decide +kernel
theorem dX3_runByBoth_52 : decode cX3_runByBoth 52 = .ok (.aload_n 0, 1) := by decide +kernel
theorem dX3_runByBoth_53 : decode cX3_runByBoth 53 = .ok (.getfield 26, 3) := by decide +kernel
theorem dX3_runByBoth_56 : decode cX3_runByBoth 56 = .ok (.iload 6, 2) := by decide +kernel
theorem dX3_runByBoth_58 : decode cX3_runByBoth 58 = .ok (.iaload, 1) := by decide +kernel
theorem dX3_runByBoth_59 : decode cX3_runByBoth 59 = .ok (.if_icmp .ge 41, 3) := by decide +kernel
theorem dX3_runByBoth_62 : decode cX3_runByBoth 62 = .ok (.iload 7, 2) := by decide +kernel
theorem dX3_runByBoth_64 : decode cX3_runByBoth 64 = .ok (.sipush 16384, 3) := by decide +kernel
theorem dX3_runByBoth_67 : decode cX3_runByBoth 67 = .ok (.if_icmp .ge 33, 3) := by decide +kernel
theorem dX3_runByBoth_70 : decode cX3_runByBoth 70 = .ok (.aload_n 0, 1) := by decide +kernel
theorem dX3_runByBoth_71 : decode cX3_runByBoth 71 = .ok (.aload_n 0, 1) := by decide +kernel
theorem dX3_runByBoth_72 : decode cX3_runByBoth 72 = .ok (.getfield 11, 3) := by decide +kernel
theorem dX3_runByBoth_75 : decode cX3_runByBoth 75 = .ok (.iload 7, 2) := by decide +kernel
theorem dX3_runByBoth_77 : decode cX3_runByBoth 77 = .ok (.iaload, 1) := by decide +kernel
theorem dX3_runByBoth_78 : decode cX3_runByBoth 78 = .ok (.aload_n 2, 1) := by decide +kernel
theorem dX3_runByBoth_79 : decode cX3_runByBoth 79 = .ok (.invokevirtual 37, 3) := by decide +kernel
theorem dX3_runByBoth_82 : decode cX3_runByBoth 82 = .ok (.aload_n 0, 1) := by decide +kernel
theorem dX3_runByBoth_83 : decode cX3_runByBoth 83 = .ok (.aload_n 0, 1) := by decide +kernel
theorem dX3_runByBoth_84 : decode cX3_runByBoth 84 = .ok (.getfield 11, 3) := by decide +kernel
theorem dX3_runByBoth_87 : decode cX3_runByBoth 87 = .ok (.iload 7, 2) := by decide +kernel
theorem dX3_runByBoth_89 : decode cX3_runByBoth 89 = .ok (.iaload, 1) := by decide +kernel
theorem dX3_runByBoth_90 : decode cX3_runByBoth 90 = .ok (.aload_n 3, 1) := by decide +kernel
theorem dX3_runByBoth_91 : decode cX3_runByBoth 91 = .ok (.invokevirtual 37, 3) := by decide +kernel
theorem dX3_runByBoth_94 : decode cX3_runByBoth 94 = .ok (.iinc 7 1, 3) := by decide +kernel
theorem dX3_runByBoth_97 : decode cX3_runByBoth 97 = .ok (.goto (-54), 3) := by decide +kernel
theorem dX3_runByBoth_100 : decode cX3_runByBoth 100 = .ok (.aload_n 0, 1) := by decide +kernel
theorem dX3_runByBoth_101 : decode cX3_runByBoth 101 = .ok (.getfield 26, 3) := by decide +kernel
theorem dX3_runByBoth_104 : decode cX3_runByBoth 104 = .ok (.iload 6, 2) := by decide +kernel
theorem dX3_runByBoth_106 : decode cX3_runByBoth 106 = .ok (.iaload, 1) := by decide +kernel
theorem dX3_runByBoth_107 : decode cX3_runByBoth 107 = .ok (.istore 5, 2) := by decide +kernel
theorem dX3_runByBoth_109 : decode cX3_runByBoth 109 = .ok (.iinc 6 1, 3) := by decide +kernel
theorem dX3_runByBoth_112 : decode cX3_runByBoth 112 = .ok (.goto (-101), 3) := by decide +kernel
theorem dX3_runByBoth_115 : decode cX3_runByBoth 115 = .ok (.return_, 1) := by decide +kernel
theorem dX3_startAt_0 : decode cX3_startAt 0 = .ok (.aload_n 0, 1) := by decide +kernel
theorem dX3_startAt_1 : decode cX3_startAt 1 = .ok (.dup, 1) := by decide +kernel
theorem dX3_startAt_2 : decode cX3_startAt 2 = .ok (.getfield 47, 3) := by decide +kernel
theorem dX3_startAt_5 : decode cX3_startAt 5 = .ok (.iconst 1, 1) := by decide +kernel
theorem dX3_startAt_6 : decode cX3_startAt 6 = .ok (.iadd, 1) := by decide +kernel
theorem dX3_startAt_7 : decode cX3_startAt 7 = .ok (.putfield 47, 3) := by decide +kernel
theorem dX3_startAt_10 : decode cX3_startAt 10 = .ok (.aload_n 0, 1) := by decide +kernel
theorem dX3_startAt_11 : decode cX3_startAt 11 = .ok (.iconst 0, 1) := by decide +kernel
theorem dX3_startAt_12 : decode cX3_startAt 12 = .ok (.putfield 29, 3) := by decide +kernel
theorem dX3_startAt_15 : decode cX3_startAt 15 = .ok (.aload_n 0, 1) := by decide +kernel
theorem dX3_startAt_16 : decode cX3_startAt 16 = .ok (.iload_n 1, 1) := by decide +kernel
theorem dX3_startAt_17 : decode cX3_startAt 17 = .ok (.iconst (-1), 1) := by decide +kernel
theorem dX3_startAt_18 : decode cX3_startAt 18 = .ok (.invokevirtual 50, 3) := by decide +kernel
theorem dX3_startAt_21 : decode cX3_startAt 21 = .ok (.return_, 1) := by decide +kernel
theorem dX3_spread_0 : decode cX3_spread 0 = .ok (.aload_n 2, 1) := by decide +kernel
theorem dX3_spread_1 : decode cX3_spread 1 = .ok (.iload_n 1, 1) := by decide +kernel
theorem dX3_spread_2 : decode cX3_spread 2 = .ok (.invokevirtual 54, 3) := by decide +kernel
theorem dX3_spread_5 : decode cX3_spread 5 = .ok (.iconst 0, 1) := by decide +kernel
theorem dX3_spread_6 : decode cX3_spread 6 = .ok (.istore_n 3, 1) := by decide +kernel
theorem dX3_spread_7 : decode cX3_spread 7 = .ok (.iload_n 3, 1) := by decide +kernel
theorem dX3_spread_8 : decode cX3_spread 8 = .ok (.aload_n 2, 1) := by decide +kernel
theorem dX3_spread_9 : decode cX3_spread 9 = .ok (.invokevirtual 59, 3) := by decide +kernel
theorem dX3_spread_12 : decode cX3_spread 12 = .ok (.if_icmp .ge 34, 3) := by decide +kernel
theorem dX3_spread_15 : decode cX3_spread 15 = .ok (.iload_n 3, 1) := by decide +kernel
theorem dX3_spread_16 : decode cX3_spread 16 = .ok (.bipush 20, 2) := by decide +kernel
theorem dX3_spread_18 : decode cX3_spread 18 = .ok (.if_icmp .ge 28, 3) := by decide +kernel
theorem dX3_spread_21 : decode cX3_spread 21 = .ok (.aload_n 0, 1) := by decide +kernel
theorem dX3_spread_22 : decode cX3_spread 22 = .ok (.aload_n 2, 1) := by decide +kernel
theorem dX3_spread_23 : decode cX3_spread 23 = .ok (.iload_n 3, 1) := by decide +kernel
theorem dX3_spread_24 : decode cX3_spread 24 = .ok (.invokevirtual 65, 3) := by decide +kernel
theorem dX3_spread_27 : decode cX3_spread 27 = .ok (.iload_n 1, 1) := by decide +kernel
theorem dX3_spread_28 : decode cX3_spread 28 = .ok (.bipush 9, 2) := by decide +kernel
theorem dX3_spread_30 : decode cX3_spread 30 = .ok (.ishl, 1) := by decide +kernel
theorem dX3_spread_31 : decode cX3_spread 31 = .ok (.aload_n 2, 1) := by decide +kernel
theorem dX3_spread_32 : decode cX3_spread 32 = .ok (.iload_n 3, 1) := by decide +kernel
theorem dX3_spread_33 : decode cX3_spread 33 = .ok (.invokevirtual 69, 3) := by decide +kernel
theorem dX3_spread_36 : decode cX3_spread 36 = .ok (.ior, 1) := by decide +kernel
theorem dX3_spread_37 : decode cX3_spread 37 = .ok (.invokevirtual 50, 3) := by decide +kernel
theorem dX3_spread_40 : decode cX3_spread 40 = .ok (.iinc 3 1, 3) := by decide +kernel
theorem dX3_spread_43 : decode cX3_spread 43 = .ok (.goto (-36), 3) := by decide +kernel
theorem dX3_spread_46 : decode cX3_spread 46 = .ok (.return_, 1) := by decide +kernel
theorem dX3_comeTo_0 : decode cX3_comeTo 0 = .ok (.iload_n 1, 1) := by decide +kernel
theorem dX3_comeTo_1 : decode cX3_comeTo 1 = .ok (.invokestatic 72, 3) := by decide +kernel
theorem dX3_comeTo_4 : decode cX3_comeTo 4 = .ok (.ifCond .eq 26, 3) := by decide +kernel
theorem dX3_comeTo_7 : decode cX3_comeTo 7 = .ok (.aload_n 0, 1) := by decide +kernel
theorem dX3_comeTo_8 : decode cX3_comeTo 8 = .ok (.getfield 23, 3) := by decide +kernel
theorem dX3_comeTo_11 : decode cX3_comeTo 11 = .ok (.iload_n 1, 1) := by decide +kernel
theorem dX3_comeTo_12 : decode cX3_comeTo 12 = .ok (.iaload, 1) := by decide +kernel
theorem dX3_comeTo_13 : decode cX3_comeTo 13 = .ok (.aload_n 0, 1) := by decide +kernel
theorem dX3_comeTo_14 : decode cX3_comeTo 14 = .ok (.getfield 47, 3) := by decide +kernel
theorem dX3_comeTo_17 : decode cX3_comeTo 17 = .ok (.if_icmp .eq 13, 3) := by decide +kernel
theorem dX3_comeTo_20 : decode cX3_comeTo 20 = .ok (.aload_n 0, 1) := by decide +kernel
theorem dX3_comeTo_21 : decode cX3_comeTo 21 = .ok (.getfield 29, 3) := by decide +kernel
theorem dX3_comeTo_24 : decode cX3_comeTo 24 = .ok (.sipush 16384, 3) := by decide +kernel
theorem dX3_comeTo_27 : decode cX3_comeTo 27 = .ok (.if_icmp .lt 4, 3) := by decide +kernel
theorem dX3_comeTo_30 : decode cX3_comeTo 30 = .ok (.return_, 1) := by decide +kernel
theorem dX3_comeTo_31 : decode cX3_comeTo 31 = .ok (.aload_n 0, 1) := by decide +kernel
theorem dX3_comeTo_32 : decode cX3_comeTo 32 = .ok (.getfield 23, 3) := by decide +kernel
theorem dX3_comeTo_35 : decode cX3_comeTo 35 = .ok (.iload_n 1, 1) := by decide +kernel
theorem dX3_comeTo_36 : decode cX3_comeTo 36 = .ok (.aload_n 0, 1) := by decide +kernel
theorem dX3_comeTo_37 : decode cX3_comeTo 37 = .ok (.getfield 47, 3) := by decide +kernel
theorem dX3_comeTo_40 : decode cX3_comeTo 40 = .ok (.iastore, 1) := by decide +kernel
theorem dX3_comeTo_41 : decode cX3_comeTo 41 = .ok (.aload_n 0, 1) := by decide +kernel
theorem dX3_comeTo_42 : decode cX3_comeTo 42 = .ok (.getfield 17, 3) := by decide +kernel
theorem dX3_comeTo_45 : decode cX3_comeTo 45 = .ok (.iload_n 1, 1) := by decide +kernel
theorem dX3_comeTo_46 : decode cX3_comeTo 46 = .ok (.iload_n 2, 1) := by decide +kernel
theorem dX3_comeTo_47 : decode cX3_comeTo 47 = .ok (.iastore, 1) := by decide +kernel
theorem dX3_comeTo_48 : decode cX3_comeTo 48 = .ok (.aload_n 0, 1) := by decide +kernel
theorem dX3_comeTo_49 : decode cX3_comeTo 49 = .ok (.getfield 11, 3) := by decide +kernel
theorem dX3_comeTo_52 : decode cX3_comeTo 52 = .ok (.aload_n 0, 1) := by decide +kernel
theorem dX3_comeTo_53 : decode cX3_comeTo 53 = .ok (.getfield 29, 3) := by decide +kernel
theorem dX3_comeTo_56 : decode cX3_comeTo 56 = .ok (.iload_n 1, 1) := by decide +kernel
theorem dX3_comeTo_57 : decode cX3_comeTo 57 = .ok (.iastore, 1) := by decide +kernel
theorem dX3_comeTo_58 : decode cX3_comeTo 58 = .ok (.aload_n 0, 1) := by decide +kernel
theorem dX3_comeTo_59 : decode cX3_comeTo 59 = .ok (.dup, 1) := by decide +kernel
theorem dX3_comeTo_60 : decode cX3_comeTo 60 = .ok (.getfield 29, 3) := by decide +kernel
theorem dX3_comeTo_63 : decode cX3_comeTo 63 = .ok (.iconst 1, 1) := by decide +kernel
theorem dX3_comeTo_64 : decode cX3_comeTo 64 = .ok (.iadd, 1) := by decide +kernel
theorem dX3_comeTo_65 : decode cX3_comeTo 65 = .ok (.putfield 29, 3) := by decide +kernel
theorem dX3_comeTo_68 : decode cX3_comeTo 68 = .ok (.return_, 1) := by decide +kernel
theorem dX3_howManyWith_0 : decode cX3_howManyWith 0 = .ok (.iconst 0, 1) := by decide +kernel
theorem dX3_howManyWith_1 : decode cX3_howManyWith 1 = .ok (.istore_n 2, 1) := by decide +kernel
theorem dX3_howManyWith_2 : decode cX3_howManyWith 2 = .ok (.iconst 0, 1) := by decide +kernel
theorem dX3_howManyWith_3 : decode cX3_howManyWith 3 = .ok (.istore_n 3, 1) := by decide +kernel
theorem dX3_howManyWith_4 : decode cX3_howManyWith 4 = .ok (.iload_n 3, 1) := by decide +kernel
theorem dX3_howManyWith_5 : decode cX3_howManyWith 5 = .ok (.aload_n 0, 1) := by decide +kernel
theorem dX3_howManyWith_6 : decode cX3_howManyWith 6 = .ok (.getfield 29, 3) := by decide +kernel
theorem dX3_howManyWith_9 : decode cX3_howManyWith 9 = .ok (.if_icmp .ge 37, 3) := by decide +kernel
theorem dX3_howManyWith_12 : decode cX3_howManyWith 12 = .ok (.iload_n 3, 1) := by decide +kernel
theorem dX3_howManyWith_13 : decode cX3_howManyWith 13 = .ok (.sipush 16384, 3) := by decide +kernel
theorem dX3_howManyWith_16 : decode cX3_howManyWith 16 = .ok (.if_icmp .ge 30, 3) := by decide +kernel
theorem dX3_howManyWith_19 : decode cX3_howManyWith 19 = .ok (.iload_n 2, 1) := by decide +kernel
theorem dX3_howManyWith_20 : decode cX3_howManyWith 20 = .ok (.iload_n 1, 1) := by decide +kernel
theorem dX3_howManyWith_21 : decode cX3_howManyWith 21 = .ok (.aload_n 0, 1) := by decide +kernel
theorem dX3_howManyWith_22 : decode cX3_howManyWith 22 = .ok (.getfield 11, 3) := by decide +kernel
theorem dX3_howManyWith_25 : decode cX3_howManyWith 25 = .ok (.iload_n 3, 1) := by decide +kernel
theorem dX3_howManyWith_26 : decode cX3_howManyWith 26 = .ok (.iaload, 1) := by decide +kernel
theorem dX3_howManyWith_27 : decode cX3_howManyWith 27 = .ok (.invokestatic 41, 3) := by decide +kernel
theorem dX3_howManyWith_30 : decode cX3_howManyWith 30 = .ok (.ifCond .eq 7, 3) := by decide +kernel
theorem dX3_howManyWith_33 : decode cX3_howManyWith 33 = .ok (.iconst 1, 1) := by decide +kernel
theorem dX3_howManyWith_34 : decode cX3_howManyWith 34 = .ok (.goto 4, 3) := by decide +kernel
theorem dX3_howManyWith_37 : decode cX3_howManyWith 37 = .ok (.iconst 0, 1) := by decide +kernel
theorem dX3_howManyWith_38 : decode cX3_howManyWith 38 = .ok (.iadd, 1) := by decide +kernel
theorem dX3_howManyWith_39 : decode cX3_howManyWith 39 = .ok (.istore_n 2, 1) := by decide +kernel
theorem dX3_howManyWith_40 : decode cX3_howManyWith 40 = .ok (.iinc 3 1, 3) := by decide +kernel
theorem dX3_howManyWith_43 : decode cX3_howManyWith 43 = .ok (.goto (-39), 3) := by decide +kernel
theorem dX3_howManyWith_46 : decode cX3_howManyWith 46 = .ok (.iload_n 2, 1) := by decide +kernel
theorem dX3_howManyWith_47 : decode cX3_howManyWith 47 = .ok (.ireturn, 1) := by decide +kernel
theorem dX3_rowsOfThings_0 : decode cX3_rowsOfThings 0 = .ok (.iconst 0, 1) := by decide +kernel
theorem dX3_rowsOfThings_1 : decode cX3_rowsOfThings 1 = .ok (.istore_n 1, 1) := by decide +kernel
theorem dX3_rowsOfThings_2 : decode cX3_rowsOfThings 2 = .ok (.iconst 0, 1) := by decide +kernel
theorem dX3_rowsOfThings_3 : decode cX3_rowsOfThings 3 = .ok (.istore_n 2, 1) := by decide +kernel
theorem dX3_rowsOfThings_4 : decode cX3_rowsOfThings 4 = .ok (.iload_n 2, 1) := by decide +kernel
theorem dX3_rowsOfThings_5 : decode cX3_rowsOfThings 5 = .ok (.aload_n 0, 1) := by decide +kernel
theorem dX3_rowsOfThings_6 : decode cX3_rowsOfThings 6 = .ok (.getfield 29, 3) := by decide +kernel
theorem dX3_rowsOfThings_9 : decode cX3_rowsOfThings 9 = .ok (.if_icmp .ge 30, 3) := by decide +kernel
theorem dX3_rowsOfThings_12 : decode cX3_rowsOfThings 12 = .ok (.iload_n 2, 1) := by decide +kernel
theorem dX3_rowsOfThings_13 : decode cX3_rowsOfThings 13 = .ok (.sipush 16384, 3) := by decide +kernel
theorem dX3_rowsOfThings_16 : decode cX3_rowsOfThings 16 = .ok (.if_icmp .ge 23, 3) := by decide +kernel
theorem dX3_rowsOfThings_19 : decode cX3_rowsOfThings 19 = .ok (.iload_n 1, 1) := by decide +kernel
theorem dX3_rowsOfThings_20 : decode cX3_rowsOfThings 20 = .ok (.iconst 1, 1) := by decide +kernel
theorem dX3_rowsOfThings_21 : decode cX3_rowsOfThings 21 = .ok (.aload_n 0, 1) := by decide +kernel
theorem dX3_rowsOfThings_22 : decode cX3_rowsOfThings 22 = .ok (.getfield 11, 3) := by decide +kernel
theorem dX3_rowsOfThings_25 : decode cX3_rowsOfThings 25 = .ok (.iload_n 2, 1) := by decide +kernel
theorem dX3_rowsOfThings_26 : decode cX3_rowsOfThings 26 = .ok (.iaload, 1) := by decide +kernel
theorem dX3_rowsOfThings_27 : decode cX3_rowsOfThings 27 = .ok (.invokestatic 76, 3) := by decide +kernel
theorem dX3_rowsOfThings_30 : decode cX3_rowsOfThings 30 = .ok (.ishl, 1) := by decide +kernel
theorem dX3_rowsOfThings_31 : decode cX3_rowsOfThings 31 = .ok (.ior, 1) := by decide +kernel
theorem dX3_rowsOfThings_32 : decode cX3_rowsOfThings 32 = .ok (.istore_n 1, 1) := by decide +kernel
theorem dX3_rowsOfThings_33 : decode cX3_rowsOfThings 33 = .ok (.iinc 2 1, 3) := by decide +kernel
theorem dX3_rowsOfThings_36 : decode cX3_rowsOfThings 36 = .ok (.goto (-32), 3) := by decide +kernel
theorem dX3_rowsOfThings_39 : decode cX3_rowsOfThings 39 = .ok (.iload_n 1, 1) := by decide +kernel
theorem dX3_rowsOfThings_40 : decode cX3_rowsOfThings 40 = .ok (.ireturn, 1) := by decide +kernel
theorem dX3_stepsTo_0 : decode cX3_stepsTo 0 = .ok (.iload_n 1, 1) := by decide +kernel
theorem dX3_stepsTo_1 : decode cX3_stepsTo 1 = .ok (.istore_n 2, 1) := by decide +kernel
theorem dX3_stepsTo_2 : decode cX3_stepsTo 2 = .ok (.iconst 0, 1) := by decide +kernel
theorem dX3_stepsTo_3 : decode cX3_stepsTo 3 = .ok (.istore_n 3, 1) := by decide +kernel
theorem dX3_stepsTo_4 : decode cX3_stepsTo 4 = .ok (.iload_n 3, 1) := by decide +kernel
theorem dX3_stepsTo_5 : decode cX3_stepsTo 5 = .ok (.sipush 16384, 3) := by decide +kernel
theorem dX3_stepsTo_8 : decode cX3_stepsTo 8 = .ok (.if_icmp .ge 37, 3) := by decide +kernel
theorem dX3_stepsTo_11 : decode cX3_stepsTo 11 = .ok (.iload_n 2, 1) := by decide +kernel
theorem dX3_stepsTo_12 : decode cX3_stepsTo 12 = .ok (.invokestatic 72, 3) := by decide +kernel
theorem dX3_stepsTo_15 : decode cX3_stepsTo 15 = .ok (.ifCond .eq 30, 3) := by decide +kernel
theorem dX3_stepsTo_18 : decode cX3_stepsTo 18 = .ok (.aload_n 0, 1) := by decide +kernel
theorem dX3_stepsTo_19 : decode cX3_stepsTo 19 = .ok (.getfield 17, 3) := by decide +kernel
theorem dX3_stepsTo_22 : decode cX3_stepsTo 22 = .ok (.iload_n 2, 1) := by decide +kernel
theorem dX3_stepsTo_23 : decode cX3_stepsTo 23 = .ok (.iaload, 1) := by decide +kernel
theorem dX3_stepsTo_24 : decode cX3_stepsTo 24 = .ok (.ifCond .ge 5, 3) := by decide +kernel
theorem dX3_stepsTo_27 : decode cX3_stepsTo 27 = .ok (.iload_n 3, 1) := by decide +kernel
theorem dX3_stepsTo_28 : decode cX3_stepsTo 28 = .ok (.ireturn, 1) := by decide +kernel
theorem dX3_stepsTo_29 : decode cX3_stepsTo 29 = .ok (.aload_n 0, 1) := by decide +kernel
theorem dX3_stepsTo_30 : decode cX3_stepsTo 30 = .ok (.getfield 17, 3) := by decide +kernel
theorem dX3_stepsTo_33 : decode cX3_stepsTo 33 = .ok (.iload_n 2, 1) := by decide +kernel
theorem dX3_stepsTo_34 : decode cX3_stepsTo 34 = .ok (.iaload, 1) := by decide +kernel
theorem dX3_stepsTo_35 : decode cX3_stepsTo 35 = .ok (.bipush 9, 2) := by decide +kernel
theorem dX3_stepsTo_37 : decode cX3_stepsTo 37 = .ok (.ishr, 1) := by decide +kernel
theorem dX3_stepsTo_38 : decode cX3_stepsTo 38 = .ok (.istore_n 2, 1) := by decide +kernel
theorem dX3_stepsTo_39 : decode cX3_stepsTo 39 = .ok (.iinc 3 1, 3) := by decide +kernel
theorem dX3_stepsTo_42 : decode cX3_stepsTo 42 = .ok (.goto (-38), 3) := by decide +kernel
theorem dX3_stepsTo_45 : decode cX3_stepsTo 45 = .ok (.bipush (-9), 2) := by decide +kernel
theorem dX3_stepsTo_47 : decode cX3_stepsTo 47 = .ok (.ireturn, 1) := by decide +kernel
theorem dX3_stepOnWayTo_0 : decode cX3_stepOnWayTo 0 = .ok (.aload_n 0, 1) := by decide +kernel
theorem dX3_stepOnWayTo_1 : decode cX3_stepOnWayTo 1 = .ok (.iload_n 1, 1) := by decide +kernel
theorem dX3_stepOnWayTo_2 : decode cX3_stepOnWayTo 2 = .ok (.invokevirtual 79, 3) := by decide +kernel
theorem dX3_stepOnWayTo_5 : decode cX3_stepOnWayTo 5 = .ok (.istore_n 3, 1) := by decide +kernel
theorem dX3_stepOnWayTo_6 : decode cX3_stepOnWayTo 6 = .ok (.iload_n 2, 1) := by decide +kernel
theorem dX3_stepOnWayTo_7 : decode cX3_stepOnWayTo 7 = .ok (.ifCond .lt 8, 3) := by decide +kernel
theorem dX3_stepOnWayTo_10 : decode cX3_stepOnWayTo 10 = .ok (.iload_n 2, 1) := by decide +kernel
theorem dX3_stepOnWayTo_11 : decode cX3_stepOnWayTo 11 = .ok (.iload_n 3, 1) := by decide +kernel
theorem dX3_stepOnWayTo_12 : decode cX3_stepOnWayTo 12 = .ok (.if_icmp .lt 6, 3) := by decide +kernel
theorem dX3_stepOnWayTo_15 : decode cX3_stepOnWayTo 15 = .ok (.bipush (-9), 2) := by decide +kernel
theorem dX3_stepOnWayTo_17 : decode cX3_stepOnWayTo 17 = .ok (.ireturn, 1) := by decide +kernel
theorem dX3_stepOnWayTo_18 : decode cX3_stepOnWayTo 18 = .ok (.iload_n 1, 1) := by decide +kernel
theorem dX3_stepOnWayTo_19 : decode cX3_stepOnWayTo 19 = .ok (.istore 4, 2) := by decide +kernel
theorem dX3_stepOnWayTo_21 : decode cX3_stepOnWayTo 21 = .ok (.iload_n 3, 1) := by decide +kernel
theorem dX3_stepOnWayTo_22 : decode cX3_stepOnWayTo 22 = .ok (.iconst 1, 1) := by decide +kernel
theorem dX3_stepOnWayTo_23 : decode cX3_stepOnWayTo 23 = .ok (.isub, 1) := by decide +kernel
theorem dX3_stepOnWayTo_24 : decode cX3_stepOnWayTo 24 = .ok (.istore 5, 2) := by decide +kernel
theorem dX3_stepOnWayTo_26 : decode cX3_stepOnWayTo 26 = .ok (.iload 5, 2) := by decide +kernel
theorem dX3_stepOnWayTo_28 : decode cX3_stepOnWayTo 28 = .ok (.iload_n 2, 1) := by decide +kernel
theorem dX3_stepOnWayTo_29 : decode cX3_stepOnWayTo 29 = .ok (.if_icmp .le 29, 3) := by decide +kernel
theorem dX3_stepOnWayTo_32 : decode cX3_stepOnWayTo 32 = .ok (.iload 4, 2) := by decide +kernel
theorem dX3_stepOnWayTo_34 : decode cX3_stepOnWayTo 34 = .ok (.invokestatic 72, 3) := by decide +kernel
theorem dX3_stepOnWayTo_37 : decode cX3_stepOnWayTo 37 = .ok (.ifCond .eq 21, 3) := by decide +kernel
theorem dX3_stepOnWayTo_40 : decode cX3_stepOnWayTo 40 = .ok (.aload_n 0, 1) := by decide +kernel
theorem dX3_stepOnWayTo_41 : decode cX3_stepOnWayTo 41 = .ok (.getfield 17, 3) := by decide +kernel
theorem dX3_stepOnWayTo_44 : decode cX3_stepOnWayTo 44 = .ok (.iload 4, 2) := by decide +kernel
theorem dX3_stepOnWayTo_46 : decode cX3_stepOnWayTo 46 = .ok (.iaload, 1) := by decide +kernel
theorem dX3_stepOnWayTo_47 : decode cX3_stepOnWayTo 47 = .ok (.bipush 9, 2) := by decide +kernel
theorem dX3_stepOnWayTo_49 : decode cX3_stepOnWayTo 49 = .ok (.ishr, 1) := by decide +kernel
theorem dX3_stepOnWayTo_50 : decode cX3_stepOnWayTo 50 = .ok (.istore 4, 2) := by decide +kernel
theorem dX3_stepOnWayTo_52 : decode cX3_stepOnWayTo 52 = .ok (.iinc 5 (-1), 3) := by decide +kernel
theorem dX3_stepOnWayTo_55 : decode cX3_stepOnWayTo 55 = .ok (.goto (-29), 3) := by decide +kernel
theorem dX3_stepOnWayTo_58 : decode cX3_stepOnWayTo 58 = .ok (.iload 4, 2) := by decide +kernel
theorem dX3_stepOnWayTo_60 : decode cX3_stepOnWayTo 60 = .ok (.invokestatic 72, 3) := by decide +kernel
theorem dX3_stepOnWayTo_63 : decode cX3_stepOnWayTo 63 = .ok (.ifCond .eq 17, 3) := by decide +kernel
theorem dX3_stepOnWayTo_66 : decode cX3_stepOnWayTo 66 = .ok (.aload_n 0, 1) := by decide +kernel
theorem dX3_stepOnWayTo_67 : decode cX3_stepOnWayTo 67 = .ok (.getfield 17, 3) := by decide +kernel
theorem dX3_stepOnWayTo_70 : decode cX3_stepOnWayTo 70 = .ok (.iload 4, 2) := by decide +kernel
theorem dX3_stepOnWayTo_72 : decode cX3_stepOnWayTo 72 = .ok (.iaload, 1) := by decide +kernel
theorem dX3_stepOnWayTo_73 : decode cX3_stepOnWayTo 73 = .ok (.sipush 511, 3) := by decide +kernel
theorem dX3_stepOnWayTo_76 : decode cX3_stepOnWayTo 76 = .ok (.iand, 1) := by decide +kernel
theorem dX3_stepOnWayTo_77 : decode cX3_stepOnWayTo 77 = .ok (.goto 5, 3) := by decide +kernel
theorem dX3_stepOnWayTo_80 : decode cX3_stepOnWayTo 80 = .ok (.bipush (-9), 2) := by decide +kernel
theorem dX3_stepOnWayTo_82 : decode cX3_stepOnWayTo 82 = .ok (.ireturn, 1) := by decide +kernel
theorem dX3_isMarked_0 : decode cX3_isMarked 0 = .ok (.iload_n 1, 1) := by decide +kernel
theorem dX3_isMarked_1 : decode cX3_isMarked 1 = .ok (.invokestatic 72, 3) := by decide +kernel
theorem dX3_isMarked_4 : decode cX3_isMarked 4 = .ok (.ifCond .eq 21, 3) := by decide +kernel
theorem dX3_isMarked_7 : decode cX3_isMarked 7 = .ok (.aload_n 0, 1) := by decide +kernel
theorem dX3_isMarked_8 : decode cX3_isMarked 8 = .ok (.getfield 20, 3) := by decide +kernel
theorem dX3_isMarked_11 : decode cX3_isMarked 11 = .ok (.iload_n 1, 1) := by decide +kernel
theorem dX3_isMarked_12 : decode cX3_isMarked 12 = .ok (.iaload, 1) := by decide +kernel
theorem dX3_isMarked_13 : decode cX3_isMarked 13 = .ok (.iload_n 2, 1) := by decide +kernel
theorem dX3_isMarked_14 : decode cX3_isMarked 14 = .ok (.ishr, 1) := by decide +kernel
theorem dX3_isMarked_15 : decode cX3_isMarked 15 = .ok (.iconst 1, 1) := by decide +kernel
theorem dX3_isMarked_16 : decode cX3_isMarked 16 = .ok (.iand, 1) := by decide +kernel
theorem dX3_isMarked_17 : decode cX3_isMarked 17 = .ok (.iconst 1, 1) := by decide +kernel
theorem dX3_isMarked_18 : decode cX3_isMarked 18 = .ok (.if_icmp .ne 7, 3) := by decide +kernel
theorem dX3_isMarked_21 : decode cX3_isMarked 21 = .ok (.iconst 1, 1) := by decide +kernel
theorem dX3_isMarked_22 : decode cX3_isMarked 22 = .ok (.goto 4, 3) := by decide +kernel
theorem dX3_isMarked_25 : decode cX3_isMarked 25 = .ok (.iconst 0, 1) := by decide +kernel
theorem dX3_isMarked_26 : decode cX3_isMarked 26 = .ok (.ireturn, 1) := by decide +kernel
theorem dX3_mark_0 : decode cX3_mark 0 = .ok (.iload_n 1, 1) := by decide +kernel
theorem dX3_mark_1 : decode cX3_mark 1 = .ok (.invokestatic 72, 3) := by decide +kernel
theorem dX3_mark_4 : decode cX3_mark 4 = .ok (.ifCond .eq 15, 3) := by decide +kernel
theorem dX3_mark_7 : decode cX3_mark 7 = .ok (.aload_n 0, 1) := by decide +kernel
theorem dX3_mark_8 : decode cX3_mark 8 = .ok (.getfield 20, 3) := by decide +kernel
theorem dX3_mark_11 : decode cX3_mark 11 = .ok (.iload_n 1, 1) := by decide +kernel
theorem dX3_mark_12 : decode cX3_mark 12 = .ok (.dup2, 1) := by decide +kernel
theorem dX3_mark_13 : decode cX3_mark 13 = .ok (.iaload, 1) := by decide +kernel
theorem dX3_mark_14 : decode cX3_mark 14 = .ok (.iconst 1, 1) := by decide +kernel
theorem dX3_mark_15 : decode cX3_mark 15 = .ok (.iload_n 2, 1) := by decide +kernel
theorem dX3_mark_16 : decode cX3_mark 16 = .ok (.ishl, 1) := by decide +kernel
theorem dX3_mark_17 : decode cX3_mark 17 = .ok (.ior, 1) := by decide +kernel
theorem dX3_mark_18 : decode cX3_mark 18 = .ok (.iastore, 1) := by decide +kernel
theorem dX3_mark_19 : decode cX3_mark 19 = .ok (.return_, 1) := by decide +kernel
theorem dX3_markAll_0 : decode cX3_markAll 0 = .ok (.iconst 0, 1) := by decide +kernel
theorem dX3_markAll_1 : decode cX3_markAll 1 = .ok (.istore_n 3, 1) := by decide +kernel
theorem dX3_markAll_2 : decode cX3_markAll 2 = .ok (.iload_n 3, 1) := by decide +kernel
theorem dX3_markAll_3 : decode cX3_markAll 3 = .ok (.aload_n 0, 1) := by decide +kernel
theorem dX3_markAll_4 : decode cX3_markAll 4 = .ok (.getfield 29, 3) := by decide +kernel
theorem dX3_markAll_7 : decode cX3_markAll 7 = .ok (.if_icmp .ge 54, 3) := by decide +kernel
theorem dX3_markAll_10 : decode cX3_markAll 10 = .ok (.iload_n 3, 1) := by decide +kernel
theorem dX3_markAll_11 : decode cX3_markAll 11 = .ok (.sipush 16384, 3) := by decide +kernel
theorem dX3_markAll_14 : decode cX3_markAll 14 = .ok (.if_icmp .ge 47, 3) := by decide +kernel
theorem dX3_markAll_17 : decode cX3_markAll 17 = .ok (.aload_n 0, 1) := by decide +kernel
theorem dX3_markAll_18 : decode cX3_markAll 18 = .ok (.getfield 11, 3) := by decide +kernel
theorem dX3_markAll_21 : decode cX3_markAll 21 = .ok (.iload_n 3, 1) := by decide +kernel
theorem dX3_markAll_22 : decode cX3_markAll 22 = .ok (.iaload, 1) := by decide +kernel
theorem dX3_markAll_23 : decode cX3_markAll 23 = .ok (.istore 4, 2) := by decide +kernel
theorem dX3_markAll_25 : decode cX3_markAll 25 = .ok (.iload 4, 2) := by decide +kernel
theorem dX3_markAll_27 : decode cX3_markAll 27 = .ok (.invokestatic 72, 3) := by decide +kernel
theorem dX3_markAll_30 : decode cX3_markAll 30 = .ok (.ifCond .eq 25, 3) := by decide +kernel
theorem dX3_markAll_33 : decode cX3_markAll 33 = .ok (.aload_n 0, 1) := by decide +kernel
theorem dX3_markAll_34 : decode cX3_markAll 34 = .ok (.getfield 20, 3) := by decide +kernel
theorem dX3_markAll_37 : decode cX3_markAll 37 = .ok (.iload 4, 2) := by decide +kernel
theorem dX3_markAll_39 : decode cX3_markAll 39 = .ok (.iload_n 1, 1) := by decide +kernel
theorem dX3_markAll_40 : decode cX3_markAll 40 = .ok (.iload 4, 2) := by decide +kernel
theorem dX3_markAll_42 : decode cX3_markAll 42 = .ok (.invokestatic 41, 3) := by decide +kernel
theorem dX3_markAll_45 : decode cX3_markAll 45 = .ok (.iload_n 2, 1) := by decide +kernel
theorem dX3_markAll_46 : decode cX3_markAll 46 = .ok (.if_icmp .ne 7, 3) := by decide +kernel
theorem dX3_markAll_49 : decode cX3_markAll 49 = .ok (.iconst 1, 1) := by decide +kernel
theorem dX3_markAll_50 : decode cX3_markAll 50 = .ok (.goto 4, 3) := by decide +kernel
theorem dX3_markAll_53 : decode cX3_markAll 53 = .ok (.iconst 0, 1) := by decide +kernel
theorem dX3_markAll_54 : decode cX3_markAll 54 = .ok (.iastore, 1) := by decide +kernel
theorem dX3_markAll_55 : decode cX3_markAll 55 = .ok (.iinc 3 1, 3) := by decide +kernel
theorem dX3_markAll_58 : decode cX3_markAll 58 = .ok (.goto (-56), 3) := by decide +kernel
theorem dX3_markAll_61 : decode cX3_markAll 61 = .ok (.return_, 1) := by decide +kernel
theorem dX3_firstUnmarked_0 : decode cX3_firstUnmarked 0 = .ok (.iconst 0, 1) := by decide +kernel
theorem dX3_firstUnmarked_1 : decode cX3_firstUnmarked 1 = .ok (.istore_n 1, 1) := by decide +kernel
theorem dX3_firstUnmarked_2 : decode cX3_firstUnmarked 2 = .ok (.iload_n 1, 1) := by decide +kernel
theorem dX3_firstUnmarked_3 : decode cX3_firstUnmarked 3 = .ok (.aload_n 0, 1) := by decide +kernel
theorem dX3_firstUnmarked_4 : decode cX3_firstUnmarked 4 = .ok (.getfield 29, 3) := by decide +kernel
theorem dX3_firstUnmarked_7 : decode cX3_firstUnmarked 7 = .ok (.if_icmp .ge 37, 3) := by decide +kernel
theorem dX3_firstUnmarked_10 : decode cX3_firstUnmarked 10 = .ok (.iload_n 1, 1) := by decide +kernel
theorem dX3_firstUnmarked_11 : decode cX3_firstUnmarked 11 = .ok (.sipush 16384, 3) := by decide +kernel
theorem dX3_firstUnmarked_14 : decode cX3_firstUnmarked 14 = .ok (.if_icmp .ge 30, 3) := by decide +kernel
theorem dX3_firstUnmarked_17 : decode cX3_firstUnmarked 17 = .ok (.aload_n 0, 1) := by decide +kernel
theorem dX3_firstUnmarked_18 : decode cX3_firstUnmarked 18 = .ok (.aload_n 0, 1) := by decide +kernel
theorem dX3_firstUnmarked_19 : decode cX3_firstUnmarked 19 = .ok (.getfield 11, 3) := by decide +kernel
theorem dX3_firstUnmarked_22 : decode cX3_firstUnmarked 22 = .ok (.iload_n 1, 1) := by decide +kernel
theorem dX3_firstUnmarked_23 : decode cX3_firstUnmarked 23 = .ok (.iaload, 1) := by decide +kernel
theorem dX3_firstUnmarked_24 : decode cX3_firstUnmarked 24 = .ok (.iconst 0, 1) := by decide +kernel
theorem dX3_firstUnmarked_25 : decode cX3_firstUnmarked 25 = .ok (.invokevirtual 82, 3) := by decide +kernel
theorem dX3_firstUnmarked_28 : decode cX3_firstUnmarked 28 = .ok (.ifCond .ne 10, 3) := by decide +kernel
theorem dX3_firstUnmarked_31 : decode cX3_firstUnmarked 31 = .ok (.aload_n 0, 1) := by decide +kernel
theorem dX3_firstUnmarked_32 : decode cX3_firstUnmarked 32 = .ok (.getfield 11, 3) := by decide +kernel
theorem dX3_firstUnmarked_35 : decode cX3_firstUnmarked 35 = .ok (.iload_n 1, 1) := by decide +kernel
theorem dX3_firstUnmarked_36 : decode cX3_firstUnmarked 36 = .ok (.iaload, 1) := by decide +kernel
theorem dX3_firstUnmarked_37 : decode cX3_firstUnmarked 37 = .ok (.ireturn, 1) := by decide +kernel
theorem dX3_firstUnmarked_38 : decode cX3_firstUnmarked 38 = .ok (.iinc 1 1, 3) := by decide +kernel
theorem dX3_firstUnmarked_41 : decode cX3_firstUnmarked 41 = .ok (.goto (-39), 3) := by decide +kernel
theorem dX3_firstUnmarked_44 : decode cX3_firstUnmarked 44 = .ok (.bipush (-9), 2) := by decide +kernel
theorem dX3_firstUnmarked_46 : decode cX3_firstUnmarked 46 = .ok (.ireturn, 1) := by decide +kernel
theorem dX3_firstActTo_0 : decode cX3_firstActTo 0 = .ok (.iconst 0, 1) := by decide +kernel
theorem dX3_firstActTo_1 : decode cX3_firstActTo 1 = .ok (.istore 4, 2) := by decide +kernel
theorem dX3_firstActTo_3 : decode cX3_firstActTo 3 = .ok (.iload 4, 2) := by decide +kernel
theorem dX3_firstActTo_5 : decode cX3_firstActTo 5 = .ok (.aload_n 1, 1) := by decide +kernel
theorem dX3_firstActTo_6 : decode cX3_firstActTo 6 = .ok (.invokevirtual 59, 3) := by decide +kernel
theorem dX3_firstActTo_9 : decode cX3_firstActTo 9 = .ok (.if_icmp .ge 38, 3) := by decide +kernel
theorem dX3_firstActTo_12 : decode cX3_firstActTo 12 = .ok (.iload 4, 2) := by decide +kernel
theorem dX3_firstActTo_14 : decode cX3_firstActTo 14 = .ok (.bipush 20, 2) := by decide +kernel
theorem dX3_firstActTo_16 : decode cX3_firstActTo 16 = .ok (.if_icmp .ge 31, 3) := by decide +kernel
theorem dX3_firstActTo_19 : decode cX3_firstActTo 19 = .ok (.aload_n 0, 1) := by decide +kernel
theorem dX3_firstActTo_20 : decode cX3_firstActTo 20 = .ok (.aload_n 1, 1) := by decide +kernel
theorem dX3_firstActTo_21 : decode cX3_firstActTo 21 = .ok (.iload 4, 2) := by decide +kernel
theorem dX3_firstActTo_23 : decode cX3_firstActTo 23 = .ok (.invokevirtual 65, 3) := by decide +kernel
theorem dX3_firstActTo_26 : decode cX3_firstActTo 26 = .ok (.iload_n 2, 1) := by decide +kernel
theorem dX3_firstActTo_27 : decode cX3_firstActTo 27 = .ok (.invokevirtual 82, 3) := by decide +kernel
theorem dX3_firstActTo_30 : decode cX3_firstActTo 30 = .ok (.iload_n 3, 1) := by decide +kernel
theorem dX3_firstActTo_31 : decode cX3_firstActTo 31 = .ok (.if_icmp .ne 10, 3) := by decide +kernel
theorem dX3_firstActTo_34 : decode cX3_firstActTo 34 = .ok (.aload_n 1, 1) := by decide +kernel
theorem dX3_firstActTo_35 : decode cX3_firstActTo 35 = .ok (.iload 4, 2) := by decide +kernel
theorem dX3_firstActTo_37 : decode cX3_firstActTo 37 = .ok (.invokevirtual 69, 3) := by decide +kernel
theorem dX3_firstActTo_40 : decode cX3_firstActTo 40 = .ok (.ireturn, 1) := by decide +kernel
theorem dX3_firstActTo_41 : decode cX3_firstActTo 41 = .ok (.iinc 4 1, 3) := by decide +kernel
theorem dX3_firstActTo_44 : decode cX3_firstActTo 44 = .ok (.goto (-41), 3) := by decide +kernel
theorem dX3_firstActTo_47 : decode cX3_firstActTo 47 = .ok (.bipush (-9), 2) := by decide +kernel
theorem dX3_firstActTo_49 : decode cX3_firstActTo 49 = .ok (.ireturn, 1) := by decide +kernel
theorem dX3_markEscapes_0 : decode cX3_markEscapes 0 = .ok (.aload_n 0, 1) := by decide +kernel
theorem dX3_markEscapes_1 : decode cX3_markEscapes 1 = .ok (.iload_n 1, 1) := by decide +kernel
theorem dX3_markEscapes_2 : decode cX3_markEscapes 2 = .ok (.iconst 0, 1) := by decide +kernel
theorem dX3_markEscapes_3 : decode cX3_markEscapes 3 = .ok (.invokevirtual 85, 3) := by decide +kernel
theorem dX3_markEscapes_6 : decode cX3_markEscapes 6 = .ok (.iconst 1, 1) := by decide +kernel
theorem dX3_markEscapes_7 : decode cX3_markEscapes 7 = .ok (.istore_n 3, 1) := by decide +kernel
theorem dX3_markEscapes_8 : decode cX3_markEscapes 8 = .ok (.iconst 0, 1) := by decide +kernel
theorem dX3_markEscapes_9 : decode cX3_markEscapes 9 = .ok (.istore 4, 2) := by decide +kernel
theorem dX3_markEscapes_11 : decode cX3_markEscapes 11 = .ok (.iload_n 3, 1) := by decide +kernel
theorem dX3_markEscapes_12 : decode cX3_markEscapes 12 = .ok (.ifCond .eq 61, 3) := by decide +kernel
theorem dX3_markEscapes_15 : decode cX3_markEscapes 15 = .ok (.iload 4, 2) := by decide +kernel
theorem dX3_markEscapes_17 : decode cX3_markEscapes 17 = .ok (.sipush 16384, 3) := by decide +kernel
theorem dX3_markEscapes_20 : decode cX3_markEscapes 20 = .ok (.if_icmp .ge 53, 3) := by decide +kernel
theorem dX3_markEscapes_23 : decode cX3_markEscapes 23 = .ok (.iconst 0, 1) := by decide +kernel
theorem dX3_markEscapes_24 : decode cX3_markEscapes 24 = .ok (.istore_n 3, 1) := by decide +kernel
theorem dX3_markEscapes_25 : decode cX3_markEscapes 25 = .ok (.aload_n 0, 1) := by decide +kernel
theorem dX3_markEscapes_26 : decode cX3_markEscapes 26 = .ok (.getfield 29, 3) := by decide +kernel
theorem dX3_markEscapes_29 : decode cX3_markEscapes 29 = .ok (.iconst 1, 1) := by decide +kernel
theorem dX3_markEscapes_30 : decode cX3_markEscapes 30 = .ok (.isub, 1) := by decide +kernel
theorem dX3_markEscapes_31 : decode cX3_markEscapes 31 = .ok (.istore 5, 2) := by decide +kernel
theorem dX3_markEscapes_33 : decode cX3_markEscapes 33 = .ok (.iload 5, 2) := by decide +kernel
theorem dX3_markEscapes_35 : decode cX3_markEscapes 35 = .ok (.ifCond .lt 32, 3) := by decide +kernel
theorem dX3_markEscapes_38 : decode cX3_markEscapes 38 = .ok (.iload 5, 2) := by decide +kernel
theorem dX3_markEscapes_40 : decode cX3_markEscapes 40 = .ok (.sipush 16384, 3) := by decide +kernel
theorem dX3_markEscapes_43 : decode cX3_markEscapes 43 = .ok (.if_icmp .ge 24, 3) := by decide +kernel
theorem dX3_markEscapes_46 : decode cX3_markEscapes 46 = .ok (.iload_n 3, 1) := by decide +kernel
theorem dX3_markEscapes_47 : decode cX3_markEscapes 47 = .ok (.aload_n 0, 1) := by decide +kernel
theorem dX3_markEscapes_48 : decode cX3_markEscapes 48 = .ok (.aload_n 0, 1) := by decide +kernel
theorem dX3_markEscapes_49 : decode cX3_markEscapes 49 = .ok (.getfield 11, 3) := by decide +kernel
theorem dX3_markEscapes_52 : decode cX3_markEscapes 52 = .ok (.iload 5, 2) := by decide +kernel
theorem dX3_markEscapes_54 : decode cX3_markEscapes 54 = .ok (.iaload, 1) := by decide +kernel
theorem dX3_markEscapes_55 : decode cX3_markEscapes 55 = .ok (.aload_n 2, 1) := by decide +kernel
theorem dX3_markEscapes_56 : decode cX3_markEscapes 56 = .ok (.invokevirtual 89, 3) := by decide +kernel
theorem dX3_markEscapes_59 : decode cX3_markEscapes 59 = .ok (.ior, 1) := by decide +kernel
theorem dX3_markEscapes_60 : decode cX3_markEscapes 60 = .ok (.istore_n 3, 1) := by decide +kernel
theorem dX3_markEscapes_61 : decode cX3_markEscapes 61 = .ok (.iinc 5 (-1), 3) := by decide +kernel
theorem dX3_markEscapes_64 : decode cX3_markEscapes 64 = .ok (.goto (-31), 3) := by decide +kernel
theorem dX3_markEscapes_67 : decode cX3_markEscapes 67 = .ok (.iinc 4 1, 3) := by decide +kernel
theorem dX3_markEscapes_70 : decode cX3_markEscapes 70 = .ok (.goto (-59), 3) := by decide +kernel
theorem dX3_markEscapes_73 : decode cX3_markEscapes 73 = .ok (.return_, 1) := by decide +kernel
theorem dX3_markIfItEscapes_0 : decode cX3_markIfItEscapes 0 = .ok (.aload_n 0, 1) := by decide +kernel
theorem dX3_markIfItEscapes_1 : decode cX3_markIfItEscapes 1 = .ok (.iload_n 1, 1) := by decide +kernel
theorem dX3_markIfItEscapes_2 : decode cX3_markIfItEscapes 2 = .ok (.iconst 0, 1) := by decide +kernel
theorem dX3_markIfItEscapes_3 : decode cX3_markIfItEscapes 3 = .ok (.invokevirtual 82, 3) := by decide +kernel
theorem dX3_markIfItEscapes_6 : decode cX3_markIfItEscapes 6 = .ok (.ifCond .eq 5, 3) := by decide +kernel
theorem dX3_markIfItEscapes_9 : decode cX3_markIfItEscapes 9 = .ok (.iconst 0, 1) := by decide +kernel
theorem dX3_markIfItEscapes_10 : decode cX3_markIfItEscapes 10 = .ok (.ireturn, 1) := by decide +kernel
theorem dX3_markIfItEscapes_11 : decode cX3_markIfItEscapes 11 = .ok (.aload_n 2, 1) := by decide +kernel
theorem dX3_markIfItEscapes_12 : decode cX3_markIfItEscapes 12 = .ok (.iload_n 1, 1) := by decide +kernel
theorem dX3_markIfItEscapes_13 : decode cX3_markIfItEscapes 13 = .ok (.invokevirtual 54, 3) := by decide +kernel
theorem dX3_markIfItEscapes_16 : decode cX3_markIfItEscapes 16 = .ok (.aload_n 0, 1) := by decide +kernel
theorem dX3_markIfItEscapes_17 : decode cX3_markIfItEscapes 17 = .ok (.aload_n 2, 1) := by decide +kernel
theorem dX3_markIfItEscapes_18 : decode cX3_markIfItEscapes 18 = .ok (.iconst 0, 1) := by decide +kernel
theorem dX3_markIfItEscapes_19 : decode cX3_markIfItEscapes 19 = .ok (.iconst 1, 1) := by decide +kernel
theorem dX3_markIfItEscapes_20 : decode cX3_markIfItEscapes 20 = .ok (.invokevirtual 93, 3) := by decide +kernel
theorem dX3_markIfItEscapes_23 : decode cX3_markIfItEscapes 23 = .ok (.bipush (-9), 2) := by decide +kernel
theorem dX3_markIfItEscapes_25 : decode cX3_markIfItEscapes 25 = .ok (.if_icmp .ne 5, 3) := by decide +kernel
theorem dX3_markIfItEscapes_28 : decode cX3_markIfItEscapes 28 = .ok (.iconst 0, 1) := by decide +kernel
theorem dX3_markIfItEscapes_29 : decode cX3_markIfItEscapes 29 = .ok (.ireturn, 1) := by decide +kernel
theorem dX3_markIfItEscapes_30 : decode cX3_markIfItEscapes 30 = .ok (.aload_n 0, 1) := by decide +kernel
theorem dX3_markIfItEscapes_31 : decode cX3_markIfItEscapes 31 = .ok (.iload_n 1, 1) := by decide +kernel
theorem dX3_markIfItEscapes_32 : decode cX3_markIfItEscapes 32 = .ok (.iconst 0, 1) := by decide +kernel
theorem dX3_markIfItEscapes_33 : decode cX3_markIfItEscapes 33 = .ok (.invokevirtual 97, 3) := by decide +kernel
theorem dX3_markIfItEscapes_36 : decode cX3_markIfItEscapes 36 = .ok (.iconst 1, 1) := by decide +kernel
theorem dX3_markIfItEscapes_37 : decode cX3_markIfItEscapes 37 = .ok (.ireturn, 1) := by decide +kernel
theorem dX3_markSure_0 : decode cX3_markSure 0 = .ok (.aload_n 0, 1) := by decide +kernel
theorem dX3_markSure_1 : decode cX3_markSure 1 = .ok (.iload_n 1, 1) := by decide +kernel
theorem dX3_markSure_2 : decode cX3_markSure 2 = .ok (.iconst 1, 1) := by decide +kernel
theorem dX3_markSure_3 : decode cX3_markSure 3 = .ok (.invokevirtual 85, 3) := by decide +kernel
theorem dX3_markSure_6 : decode cX3_markSure 6 = .ok (.iconst 1, 1) := by decide +kernel
theorem dX3_markSure_7 : decode cX3_markSure 7 = .ok (.istore 5, 2) := by decide +kernel
theorem dX3_markSure_9 : decode cX3_markSure 9 = .ok (.iload 5, 2) := by decide +kernel
theorem dX3_markSure_11 : decode cX3_markSure 11 = .ok (.iconst 2, 1) := by decide +kernel
theorem dX3_markSure_12 : decode cX3_markSure 12 = .ok (.iload_n 2, 1) := by decide +kernel
theorem dX3_markSure_13 : decode cX3_markSure 13 = .ok (.imul, 1) := by decide +kernel
theorem dX3_markSure_14 : decode cX3_markSure 14 = .ok (.if_icmp .gt 132, 3) := by decide +kernel
theorem dX3_markSure_17 : decode cX3_markSure 17 = .ok (.iconst 2, 1) := by decide +kernel
theorem dX3_markSure_18 : decode cX3_markSure 18 = .ok (.iload_n 2, 1) := by decide +kernel
theorem dX3_markSure_19 : decode cX3_markSure 19 = .ok (.imul, 1) := by decide +kernel
theorem dX3_markSure_20 : decode cX3_markSure 20 = .ok (.iload 5, 2) := by decide +kernel
theorem dX3_markSure_22 : decode cX3_markSure 22 = .ok (.isub, 1) := by decide +kernel
theorem dX3_markSure_23 : decode cX3_markSure 23 = .ok (.istore 6, 2) := by decide +kernel
theorem dX3_markSure_25 : decode cX3_markSure 25 = .ok (.iload 6, 2) := by decide +kernel
theorem dX3_markSure_27 : decode cX3_markSure 27 = .ok (.ifCond .lt 23, 3) := by decide +kernel
theorem dX3_markSure_30 : decode cX3_markSure 30 = .ok (.iload 6, 2) := by decide +kernel
theorem dX3_markSure_32 : decode cX3_markSure 32 = .ok (.aload_n 0, 1) := by decide +kernel
theorem dX3_markSure_33 : decode cX3_markSure 33 = .ok (.getfield 26, 3) := by decide +kernel
theorem dX3_markSure_36 : decode cX3_markSure 36 = .ok (.arraylength, 1) := by decide +kernel
theorem dX3_markSure_37 : decode cX3_markSure 37 = .ok (.if_icmp .ge 13, 3) := by decide +kernel
theorem dX3_markSure_40 : decode cX3_markSure 40 = .ok (.aload_n 0, 1) := by decide +kernel
theorem dX3_markSure_41 : decode cX3_markSure 41 = .ok (.getfield 26, 3) := by decide +kernel
theorem dX3_markSure_44 : decode cX3_markSure 44 = .ok (.iload 6, 2) := by decide +kernel
theorem dX3_markSure_46 : decode cX3_markSure 46 = .ok (.iaload, 1) := by decide +kernel
theorem dX3_markSure_47 : decode cX3_markSure 47 = .ok (.goto 4, 3) := by decide +kernel
theorem dX3_markSure_50 : decode cX3_markSure 50 = .ok (.iconst 0, 1) := by decide +kernel
theorem dX3_markSure_51 : decode cX3_markSure 51 = .ok (.istore 7, 2) := by decide +kernel
theorem dX3_markSure_53 : decode cX3_markSure 53 = .ok (.iconst 0, 1) := by decide +kernel
theorem dX3_markSure_54 : decode cX3_markSure 54 = .ok (.istore 8, 2) := by decide +kernel
theorem dX3_markSure_56 : decode cX3_markSure 56 = .ok (.iload 8, 2) := by decide +kernel
theorem dX3_markSure_58 : decode cX3_markSure 58 = .ok (.iload 7, 2) := by decide +kernel
theorem dX3_markSure_60 : decode cX3_markSure 60 = .ok (.if_icmp .ge 80, 3) := by decide +kernel
theorem dX3_markSure_63 : decode cX3_markSure 63 = .ok (.iload 8, 2) := by decide +kernel
theorem dX3_markSure_65 : decode cX3_markSure 65 = .ok (.sipush 16384, 3) := by decide +kernel
theorem dX3_markSure_68 : decode cX3_markSure 68 = .ok (.if_icmp .ge 72, 3) := by decide +kernel
theorem dX3_markSure_71 : decode cX3_markSure 71 = .ok (.iload 5, 2) := by decide +kernel
theorem dX3_markSure_73 : decode cX3_markSure 73 = .ok (.iconst 2, 1) := by decide +kernel
theorem dX3_markSure_74 : decode cX3_markSure 74 = .ok (.irem, 1) := by decide +kernel
theorem dX3_markSure_75 : decode cX3_markSure 75 = .ok (.ifCond .ne 22, 3) := by decide +kernel
theorem dX3_markSure_78 : decode cX3_markSure 78 = .ok (.aload_n 0, 1) := by decide +kernel
theorem dX3_markSure_79 : decode cX3_markSure 79 = .ok (.aload_n 0, 1) := by decide +kernel
theorem dX3_markSure_80 : decode cX3_markSure 80 = .ok (.getfield 11, 3) := by decide +kernel
theorem dX3_markSure_83 : decode cX3_markSure 83 = .ok (.iload 8, 2) := by decide +kernel
theorem dX3_markSure_85 : decode cX3_markSure 85 = .ok (.iaload, 1) := by decide +kernel
theorem dX3_markSure_86 : decode cX3_markSure 86 = .ok (.iload 5, 2) := by decide +kernel
theorem dX3_markSure_88 : decode cX3_markSure 88 = .ok (.iconst 1, 1) := by decide +kernel
theorem dX3_markSure_89 : decode cX3_markSure 89 = .ok (.isub, 1) := by decide +kernel
theorem dX3_markSure_90 : decode cX3_markSure 90 = .ok (.aload_n 3, 1) := by decide +kernel
theorem dX3_markSure_91 : decode cX3_markSure 91 = .ok (.invokevirtual 100, 3) := by decide +kernel
theorem dX3_markSure_94 : decode cX3_markSure 94 = .ok (.goto 20, 3) := by decide +kernel
theorem dX3_markSure_97 : decode cX3_markSure 97 = .ok (.aload_n 0, 1) := by decide +kernel
theorem dX3_markSure_98 : decode cX3_markSure 98 = .ok (.aload_n 0, 1) := by decide +kernel
theorem dX3_markSure_99 : decode cX3_markSure 99 = .ok (.getfield 11, 3) := by decide +kernel
theorem dX3_markSure_102 : decode cX3_markSure 102 = .ok (.iload 8, 2) := by decide +kernel
theorem dX3_markSure_104 : decode cX3_markSure 104 = .ok (.iaload, 1) := by decide +kernel
theorem dX3_markSure_105 : decode cX3_markSure 105 = .ok (.iload 5, 2) := by decide +kernel
theorem dX3_markSure_107 : decode cX3_markSure 107 = .ok (.iconst 1, 1) := by decide +kernel
theorem dX3_markSure_108 : decode cX3_markSure 108 = .ok (.isub, 1) := by decide +kernel
theorem dX3_markSure_109 : decode cX3_markSure 109 = .ok (.aload 4, 2) := by decide +kernel
theorem dX3_markSure_111 : decode cX3_markSure 111 = .ok (.invokevirtual 104, 3) := by decide +kernel
theorem dX3_markSure_114 : decode cX3_markSure 114 = .ok (.istore 9, 2) := by decide +kernel
theorem dX3_markSure_116 : decode cX3_markSure 116 = .ok (.iload 9, 2) := by decide +kernel
theorem dX3_markSure_118 : decode cX3_markSure 118 = .ok (.ifCond .eq 16, 3) := by decide +kernel
theorem dX3_markSure_121 : decode cX3_markSure 121 = .ok (.aload_n 0, 1) := by decide +kernel
theorem dX3_markSure_122 : decode cX3_markSure 122 = .ok (.aload_n 0, 1) := by decide +kernel
theorem dX3_markSure_123 : decode cX3_markSure 123 = .ok (.getfield 11, 3) := by decide +kernel
theorem dX3_markSure_126 : decode cX3_markSure 126 = .ok (.iload 8, 2) := by decide +kernel
theorem dX3_markSure_128 : decode cX3_markSure 128 = .ok (.iaload, 1) := by decide +kernel
theorem dX3_markSure_129 : decode cX3_markSure 129 = .ok (.iload 5, 2) := by decide +kernel
theorem dX3_markSure_131 : decode cX3_markSure 131 = .ok (.invokevirtual 97, 3) := by decide +kernel
theorem dX3_markSure_134 : decode cX3_markSure 134 = .ok (.iinc 8 1, 3) := by decide +kernel
theorem dX3_markSure_137 : decode cX3_markSure 137 = .ok (.goto (-81), 3) := by decide +kernel
theorem dX3_markSure_140 : decode cX3_markSure 140 = .ok (.iinc 5 1, 3) := by decide +kernel
theorem dX3_markSure_143 : decode cX3_markSure 143 = .ok (.goto (-134), 3) := by decide +kernel
theorem dX3_markSure_146 : decode cX3_markSure 146 = .ok (.return_, 1) := by decide +kernel
theorem dX3_canGo_0 : decode cX3_canGo 0 = .ok (.aload_n 0, 1) := by decide +kernel
theorem dX3_canGo_1 : decode cX3_canGo 1 = .ok (.iload_n 1, 1) := by decide +kernel
theorem dX3_canGo_2 : decode cX3_canGo 2 = .ok (.iload_n 2, 1) := by decide +kernel
theorem dX3_canGo_3 : decode cX3_canGo 3 = .ok (.invokevirtual 82, 3) := by decide +kernel
theorem dX3_canGo_6 : decode cX3_canGo 6 = .ok (.ifCond .eq 5, 3) := by decide +kernel
theorem dX3_canGo_9 : decode cX3_canGo 9 = .ok (.iconst 1, 1) := by decide +kernel
theorem dX3_canGo_10 : decode cX3_canGo 10 = .ok (.ireturn, 1) := by decide +kernel
theorem dX3_canGo_11 : decode cX3_canGo 11 = .ok (.aload_n 3, 1) := by decide +kernel
theorem dX3_canGo_12 : decode cX3_canGo 12 = .ok (.iload_n 1, 1) := by decide +kernel
theorem dX3_canGo_13 : decode cX3_canGo 13 = .ok (.invokevirtual 54, 3) := by decide +kernel
theorem dX3_canGo_16 : decode cX3_canGo 16 = .ok (.aload_n 0, 1) := by decide +kernel
theorem dX3_canGo_17 : decode cX3_canGo 17 = .ok (.aload_n 3, 1) := by decide +kernel
theorem dX3_canGo_18 : decode cX3_canGo 18 = .ok (.iload_n 2, 1) := by decide +kernel
theorem dX3_canGo_19 : decode cX3_canGo 19 = .ok (.iconst 1, 1) := by decide +kernel
theorem dX3_canGo_20 : decode cX3_canGo 20 = .ok (.invokevirtual 93, 3) := by decide +kernel
theorem dX3_canGo_23 : decode cX3_canGo 23 = .ok (.bipush (-9), 2) := by decide +kernel
theorem dX3_canGo_25 : decode cX3_canGo 25 = .ok (.if_icmp .eq 7, 3) := by decide +kernel
theorem dX3_canGo_28 : decode cX3_canGo 28 = .ok (.iconst 1, 1) := by decide +kernel
theorem dX3_canGo_29 : decode cX3_canGo 29 = .ok (.goto 4, 3) := by decide +kernel
theorem dX3_canGo_32 : decode cX3_canGo 32 = .ok (.iconst 0, 1) := by decide +kernel
theorem dX3_canGo_33 : decode cX3_canGo 33 = .ok (.ireturn, 1) := by decide +kernel
theorem dX3_mustGo_0 : decode cX3_mustGo 0 = .ok (.aload_n 0, 1) := by decide +kernel
theorem dX3_mustGo_1 : decode cX3_mustGo 1 = .ok (.iload_n 1, 1) := by decide +kernel
theorem dX3_mustGo_2 : decode cX3_mustGo 2 = .ok (.iload_n 2, 1) := by decide +kernel
theorem dX3_mustGo_3 : decode cX3_mustGo 3 = .ok (.invokevirtual 82, 3) := by decide +kernel
theorem dX3_mustGo_6 : decode cX3_mustGo 6 = .ok (.ifCond .ne 5, 3) := by decide +kernel
theorem dX3_mustGo_9 : decode cX3_mustGo 9 = .ok (.iconst 0, 1) := by decide +kernel
theorem dX3_mustGo_10 : decode cX3_mustGo 10 = .ok (.ireturn, 1) := by decide +kernel
theorem dX3_mustGo_11 : decode cX3_mustGo 11 = .ok (.aload_n 3, 1) := by decide +kernel
theorem dX3_mustGo_12 : decode cX3_mustGo 12 = .ok (.iload_n 1, 1) := by decide +kernel
theorem dX3_mustGo_13 : decode cX3_mustGo 13 = .ok (.invokevirtual 54, 3) := by decide +kernel
theorem dX3_mustGo_16 : decode cX3_mustGo 16 = .ok (.aload_n 0, 1) := by decide +kernel
theorem dX3_mustGo_17 : decode cX3_mustGo 17 = .ok (.aload_n 3, 1) := by decide +kernel
theorem dX3_mustGo_18 : decode cX3_mustGo 18 = .ok (.iload_n 2, 1) := by decide +kernel
theorem dX3_mustGo_19 : decode cX3_mustGo 19 = .ok (.iconst 0, 1) := by decide +kernel
theorem dX3_mustGo_20 : decode cX3_mustGo 20 = .ok (.invokevirtual 93, 3) := by decide +kernel
theorem dX3_mustGo_23 : decode cX3_mustGo 23 = .ok (.bipush (-9), 2) := by decide +kernel
theorem dX3_mustGo_25 : decode cX3_mustGo 25 = .ok (.if_icmp .ne 7, 3) := by decide +kernel
theorem dX3_mustGo_28 : decode cX3_mustGo 28 = .ok (.iconst 1, 1) := by decide +kernel
theorem dX3_mustGo_29 : decode cX3_mustGo 29 = .ok (.goto 4, 3) := by decide +kernel
theorem dX3_mustGo_32 : decode cX3_mustGo 32 = .ok (.iconst 0, 1) := by decide +kernel
theorem dX3_mustGo_33 : decode cX3_mustGo 33 = .ok (.ireturn, 1) := by decide +kernel
theorem dX4_init_0 : decode cX4_init 0 = .ok (.aload_n 0, 1) := by decide +kernel
theorem dX4_init_1 : decode cX4_init 1 = .ok (.invokespecial 3, 3) := by decide +kernel
theorem dX4_init_4 : decode cX4_init 4 = .ok (.aload_n 0, 1) := by decide +kernel
theorem dX4_init_5 : decode cX4_init 5 = .ok (.iconst 3, 1) := by decide +kernel
theorem dX4_init_6 : decode cX4_init 6 = .ok (.newarray .int, 2) := by decide +kernel
theorem dX4_init_8 : decode cX4_init 8 = .ok (.putfield 9, 3) := by decide +kernel
theorem dX4_init_11 : decode cX4_init 11 = .ok (.aload_n 0, 1) := by decide +kernel
theorem dX4_init_12 : decode cX4_init 12 = .ok (.iconst 3, 1) := by decide +kernel
theorem dX4_init_13 : decode cX4_init 13 = .ok (.newarray .int, 2) := by decide +kernel
theorem dX4_init_15 : decode cX4_init 15 = .ok (.putfield 15, 3) := by decide +kernel
theorem dX4_init_18 : decode cX4_init 18 = .ok (.aload_n 0, 1) := by decide +kernel
theorem dX4_init_19 : decode cX4_init 19 = .ok (.iconst 5, 1) := by decide +kernel
theorem dX4_init_20 : decode cX4_init 20 = .ok (.newarray .int, 2) := by decide +kernel
theorem dX4_init_22 : decode cX4_init 22 = .ok (.putfield 18, 3) := by decide +kernel
theorem dX4_init_25 : decode cX4_init 25 = .ok (.aload_n 0, 1) := by decide +kernel
theorem dX4_init_26 : decode cX4_init 26 = .ok (.bipush 20, 2) := by decide +kernel
theorem dX4_init_28 : decode cX4_init 28 = .ok (.newarray .int, 2) := by decide +kernel
theorem dX4_init_30 : decode cX4_init 30 = .ok (.putfield 23, 3) := by decide +kernel
theorem dX4_init_33 : decode cX4_init 33 = .ok (.aload_n 0, 1) := by decide +kernel
theorem dX4_init_34 : decode cX4_init 34 = .ok (.bipush 20, 2) := by decide +kernel
theorem dX4_init_36 : decode cX4_init 36 = .ok (.newarray .int, 2) := by decide +kernel
theorem dX4_init_38 : decode cX4_init 38 = .ok (.putfield 26, 3) := by decide +kernel
theorem dX4_init_41 : decode cX4_init 41 = .ok (.aload_n 0, 1) := by decide +kernel
theorem dX4_init_42 : decode cX4_init 42 = .ok (.aload_n 1, 1) := by decide +kernel
theorem dX4_init_43 : decode cX4_init 43 = .ok (.putfield 29, 3) := by decide +kernel
theorem dX4_init_46 : decode cX4_init 46 = .ok (.return_, 1) := by decide +kernel
theorem dX4_choose_0 : decode cX4_choose 0 = .ok (.aload_n 0, 1) := by decide +kernel
theorem dX4_choose_1 : decode cX4_choose 1 = .ok (.iload_n 1, 1) := by decide +kernel
theorem dX4_choose_2 : decode cX4_choose 2 = .ok (.putfield 33, 3) := by decide +kernel
theorem dX4_choose_5 : decode cX4_choose 5 = .ok (.aload_n 0, 1) := by decide +kernel
theorem dX4_choose_6 : decode cX4_choose 6 = .ok (.iload_n 2, 1) := by decide +kernel
theorem dX4_choose_7 : decode cX4_choose 7 = .ok (.putfield 37, 3) := by decide +kernel
theorem dX4_choose_10 : decode cX4_choose 10 = .ok (.iconst 0, 1) := by decide +kernel
theorem dX4_choose_11 : decode cX4_choose 11 = .ok (.istore_n 3, 1) := by decide +kernel
theorem dX4_choose_12 : decode cX4_choose 12 = .ok (.iload_n 3, 1) := by decide +kernel
theorem dX4_choose_13 : decode cX4_choose 13 = .ok (.iconst 3, 1) := by decide +kernel
theorem dX4_choose_14 : decode cX4_choose 14 = .ok (.if_icmp .ge 24, 3) := by decide +kernel
theorem dX4_choose_17 : decode cX4_choose 17 = .ok (.aload_n 0, 1) := by decide +kernel
theorem dX4_choose_18 : decode cX4_choose 18 = .ok (.getfield 9, 3) := by decide +kernel
theorem dX4_choose_21 : decode cX4_choose 21 = .ok (.iload_n 3, 1) := by decide +kernel
theorem dX4_choose_22 : decode cX4_choose 22 = .ok (.aload_n 0, 1) := by decide +kernel
theorem dX4_choose_23 : decode cX4_choose 23 = .ok (.getfield 29, 3) := by decide +kernel
theorem dX4_choose_26 : decode cX4_choose 26 = .ok (.iload_n 1, 1) := by decide +kernel
theorem dX4_choose_27 : decode cX4_choose 27 = .ok (.iload_n 3, 1) := by decide +kernel
theorem dX4_choose_28 : decode cX4_choose 28 = .ok (.invokevirtual 40, 3) := by decide +kernel
theorem dX4_choose_31 : decode cX4_choose 31 = .ok (.iastore, 1) := by decide +kernel
theorem dX4_choose_32 : decode cX4_choose 32 = .ok (.iinc 3 1, 3) := by decide +kernel
theorem dX4_choose_35 : decode cX4_choose 35 = .ok (.goto (-23), 3) := by decide +kernel
theorem dX4_choose_38 : decode cX4_choose 38 = .ok (.return_, 1) := by decide +kernel
theorem dX4_look_0 : decode cX4_look 0 = .ok (.aload_n 0, 1) := by decide +kernel
theorem dX4_look_1 : decode cX4_look 1 = .ok (.iload_n 1, 1) := by decide +kernel
theorem dX4_look_2 : decode cX4_look 2 = .ok (.putfield 46, 3) := by decide +kernel
theorem dX4_look_5 : decode cX4_look 5 = .ok (.aload_n 0, 1) := by decide +kernel
theorem dX4_look_6 : decode cX4_look 6 = .ok (.iconst 0, 1) := by decide +kernel
theorem dX4_look_7 : decode cX4_look 7 = .ok (.putfield 49, 3) := by decide +kernel
theorem dX4_look_10 : decode cX4_look 10 = .ok (.aload_n 0, 1) := by decide +kernel
theorem dX4_look_11 : decode cX4_look 11 = .ok (.aload_n 0, 1) := by decide +kernel
theorem dX4_look_12 : decode cX4_look 12 = .ok (.getfield 37, 3) := by decide +kernel
theorem dX4_look_15 : decode cX4_look 15 = .ok (.putfield 52, 3) := by decide +kernel
theorem dX4_look_18 : decode cX4_look 18 = .ok (.aload_n 0, 1) := by decide +kernel
theorem dX4_look_19 : decode cX4_look 19 = .ok (.getfield 9, 3) := by decide +kernel
theorem dX4_look_22 : decode cX4_look 22 = .ok (.iconst 0, 1) := by decide +kernel
theorem dX4_look_23 : decode cX4_look 23 = .ok (.aload_n 0, 1) := by decide +kernel
theorem dX4_look_24 : decode cX4_look 24 = .ok (.getfield 15, 3) := by decide +kernel
theorem dX4_look_27 : decode cX4_look 27 = .ok (.iconst 0, 1) := by decide +kernel
theorem dX4_look_28 : decode cX4_look 28 = .ok (.iconst 3, 1) := by decide +kernel
theorem dX4_look_29 : decode cX4_look 29 = .ok (.invokestatic 55, 3) := by decide +kernel
theorem dX4_look_32 : decode cX4_look 32 = .ok (.iconst 0, 1) := by decide +kernel
theorem dX4_look_33 : decode cX4_look 33 = .ok (.istore_n 2, 1) := by decide +kernel
theorem dX4_look_34 : decode cX4_look 34 = .ok (.iload_n 2, 1) := by decide +kernel
theorem dX4_look_35 : decode cX4_look 35 = .ok (.iconst 5, 1) := by decide +kernel
theorem dX4_look_36 : decode cX4_look 36 = .ok (.if_icmp .ge 58, 3) := by decide +kernel
theorem dX4_look_39 : decode cX4_look 39 = .ok (.aload_n 0, 1) := by decide +kernel
theorem dX4_look_40 : decode cX4_look 40 = .ok (.getfield 18, 3) := by decide +kernel
theorem dX4_look_43 : decode cX4_look 43 = .ok (.iload_n 2, 1) := by decide +kernel
theorem dX4_look_44 : decode cX4_look 44 = .ok (.iload_n 2, 1) := by decide +kernel
theorem dX4_look_45 : decode cX4_look 45 = .ok (.iload_n 1, 1) := by decide +kernel
theorem dX4_look_46 : decode cX4_look 46 = .ok (.iload_n 2, 1) := by decide +kernel
theorem dX4_look_47 : decode cX4_look 47 = .ok (.invokestatic 61, 3) := by decide +kernel
theorem dX4_look_50 : decode cX4_look 50 = .ok (.invokestatic 66, 3) := by decide +kernel
theorem dX4_look_53 : decode cX4_look 53 = .ok (.iastore, 1) := by decide +kernel
theorem dX4_look_54 : decode cX4_look 54 = .ok (.aload_n 0, 1) := by decide +kernel
theorem dX4_look_55 : decode cX4_look 55 = .ok (.getfield 29, 3) := by decide +kernel
theorem dX4_look_58 : decode cX4_look 58 = .ok (.iload_n 1, 1) := by decide +kernel
theorem dX4_look_59 : decode cX4_look 59 = .ok (.iload_n 2, 1) := by decide +kernel
theorem dX4_look_60 : decode cX4_look 60 = .ok (.invokevirtual 69, 3) := by decide +kernel
theorem dX4_look_63 : decode cX4_look 63 = .ok (.ifCond .eq 25, 3) := by decide +kernel
theorem dX4_look_66 : decode cX4_look 66 = .ok (.aload_n 0, 1) := by decide +kernel
theorem dX4_look_67 : decode cX4_look 67 = .ok (.dup, 1) := by decide +kernel
theorem dX4_look_68 : decode cX4_look 68 = .ok (.getfield 49, 3) := by decide +kernel
theorem dX4_look_71 : decode cX4_look 71 = .ok (.iconst 1, 1) := by decide +kernel
theorem dX4_look_72 : decode cX4_look 72 = .ok (.iload_n 2, 1) := by decide +kernel
theorem dX4_look_73 : decode cX4_look 73 = .ok (.ishl, 1) := by decide +kernel
theorem dX4_look_74 : decode cX4_look 74 = .ok (.ior, 1) := by decide +kernel
theorem dX4_look_75 : decode cX4_look 75 = .ok (.putfield 49, 3) := by decide +kernel
theorem dX4_look_78 : decode cX4_look 78 = .ok (.aload_n 0, 1) := by decide +kernel
theorem dX4_look_79 : decode cX4_look 79 = .ok (.aload_n 0, 1) := by decide +kernel
theorem dX4_look_80 : decode cX4_look 80 = .ok (.getfield 18, 3) := by decide +kernel
theorem dX4_look_83 : decode cX4_look 83 = .ok (.iload_n 2, 1) := by decide +kernel
theorem dX4_look_84 : decode cX4_look 84 = .ok (.iaload, 1) := by decide +kernel
theorem dX4_look_85 : decode cX4_look 85 = .ok (.invokevirtual 73, 3) := by decide +kernel
theorem dX4_look_88 : decode cX4_look 88 = .ok (.iinc 2 1, 3) := by decide +kernel
theorem dX4_look_91 : decode cX4_look 91 = .ok (.goto (-57), 3) := by decide +kernel
theorem dX4_look_94 : decode cX4_look 94 = .ok (.return_, 1) := by decide +kernel
theorem dX4_heed_0 : decode cX4_heed 0 = .ok (.aload_n 0, 1) := by decide +kernel
theorem dX4_heed_1 : decode cX4_heed 1 = .ok (.getfield 29, 3) := by decide +kernel
theorem dX4_heed_4 : decode cX4_heed 4 = .ok (.iload_n 1, 1) := by decide +kernel
theorem dX4_heed_5 : decode cX4_heed 5 = .ok (.iconst 0, 1) := by decide +kernel
theorem dX4_heed_6 : decode cX4_heed 6 = .ok (.iadd, 1) := by decide +kernel
theorem dX4_heed_7 : decode cX4_heed 7 = .ok (.invokevirtual 77, 3) := by decide +kernel
theorem dX4_heed_10 : decode cX4_heed 10 = .ok (.istore_n 2, 1) := by decide +kernel
theorem dX4_heed_11 : decode cX4_heed 11 = .ok (.iload_n 2, 1) := by decide +kernel
theorem dX4_heed_12 : decode cX4_heed 12 = .ok (.iconst 3, 1) := by decide +kernel
theorem dX4_heed_13 : decode cX4_heed 13 = .ok (.if_icmp .ne 27, 3) := by decide +kernel
theorem dX4_heed_16 : decode cX4_heed 16 = .ok (.aload_n 0, 1) := by decide +kernel
theorem dX4_heed_17 : decode cX4_heed 17 = .ok (.dup, 1) := by decide +kernel
theorem dX4_heed_18 : decode cX4_heed 18 = .ok (.getfield 52, 3) := by decide +kernel
theorem dX4_heed_21 : decode cX4_heed 21 = .ok (.iconst 1, 1) := by decide +kernel
theorem dX4_heed_22 : decode cX4_heed 22 = .ok (.aload_n 0, 1) := by decide +kernel
theorem dX4_heed_23 : decode cX4_heed 23 = .ok (.getfield 29, 3) := by decide +kernel
theorem dX4_heed_26 : decode cX4_heed 26 = .ok (.iload_n 1, 1) := by decide +kernel
theorem dX4_heed_27 : decode cX4_heed 27 = .ok (.iconst 1, 1) := by decide +kernel
theorem dX4_heed_28 : decode cX4_heed 28 = .ok (.iadd, 1) := by decide +kernel
theorem dX4_heed_29 : decode cX4_heed 29 = .ok (.invokevirtual 77, 3) := by decide +kernel
theorem dX4_heed_32 : decode cX4_heed 32 = .ok (.ishl, 1) := by decide +kernel
theorem dX4_heed_33 : decode cX4_heed 33 = .ok (.ior, 1) := by decide +kernel
theorem dX4_heed_34 : decode cX4_heed 34 = .ok (.putfield 52, 3) := by decide +kernel
theorem dX4_heed_37 : decode cX4_heed 37 = .ok (.goto 53, 3) := by decide +kernel
theorem dX4_heed_40 : decode cX4_heed 40 = .ok (.iload_n 2, 1) := by decide +kernel
theorem dX4_heed_41 : decode cX4_heed 41 = .ok (.iconst 4, 1) := by decide +kernel
theorem dX4_heed_42 : decode cX4_heed 42 = .ok (.if_icmp .ne 48, 3) := by decide +kernel
theorem dX4_heed_45 : decode cX4_heed 45 = .ok (.aload_n 0, 1) := by decide +kernel
theorem dX4_heed_46 : decode cX4_heed 46 = .ok (.getfield 33, 3) := by decide +kernel
theorem dX4_heed_49 : decode cX4_heed 49 = .ok (.aload_n 0, 1) := by decide +kernel
theorem dX4_heed_50 : decode cX4_heed 50 = .ok (.getfield 29, 3) := by decide +kernel
theorem dX4_heed_53 : decode cX4_heed 53 = .ok (.iload_n 1, 1) := by decide +kernel
theorem dX4_heed_54 : decode cX4_heed 54 = .ok (.iconst 2, 1) := by decide +kernel
theorem dX4_heed_55 : decode cX4_heed 55 = .ok (.iadd, 1) := by decide +kernel
theorem dX4_heed_56 : decode cX4_heed 56 = .ok (.invokevirtual 77, 3) := by decide +kernel
theorem dX4_heed_59 : decode cX4_heed 59 = .ok (.ishr, 1) := by decide +kernel
theorem dX4_heed_60 : decode cX4_heed 60 = .ok (.iconst 1, 1) := by decide +kernel
theorem dX4_heed_61 : decode cX4_heed 61 = .ok (.iand, 1) := by decide +kernel
theorem dX4_heed_62 : decode cX4_heed 62 = .ok (.iconst 1, 1) := by decide +kernel
theorem dX4_heed_63 : decode cX4_heed 63 = .ok (.if_icmp .ne 27, 3) := by decide +kernel
theorem dX4_heed_66 : decode cX4_heed 66 = .ok (.aload_n 0, 1) := by decide +kernel
theorem dX4_heed_67 : decode cX4_heed 67 = .ok (.aload_n 0, 1) := by decide +kernel
theorem dX4_heed_68 : decode cX4_heed 68 = .ok (.getfield 29, 3) := by decide +kernel
theorem dX4_heed_71 : decode cX4_heed 71 = .ok (.iload_n 1, 1) := by decide +kernel
theorem dX4_heed_72 : decode cX4_heed 72 = .ok (.iconst 1, 1) := by decide +kernel
theorem dX4_heed_73 : decode cX4_heed 73 = .ok (.iadd, 1) := by decide +kernel
theorem dX4_heed_74 : decode cX4_heed 74 = .ok (.invokevirtual 77, 3) := by decide +kernel
theorem dX4_heed_77 : decode cX4_heed 77 = .ok (.aload_n 0, 1) := by decide +kernel
theorem dX4_heed_78 : decode cX4_heed 78 = .ok (.getfield 29, 3) := by decide +kernel
theorem dX4_heed_81 : decode cX4_heed 81 = .ok (.iload_n 1, 1) := by decide +kernel
theorem dX4_heed_82 : decode cX4_heed 82 = .ok (.iconst 3, 1) := by decide +kernel
theorem dX4_heed_83 : decode cX4_heed 83 = .ok (.iadd, 1) := by decide +kernel
theorem dX4_heed_84 : decode cX4_heed 84 = .ok (.invokevirtual 77, 3) := by decide +kernel
theorem dX4_heed_87 : decode cX4_heed 87 = .ok (.invokevirtual 81, 3) := by decide +kernel
theorem dX4_heed_90 : decode cX4_heed 90 = .ok (.return_, 1) := by decide +kernel
theorem dX4_addVotes_0 : decode cX4_addVotes 0 = .ok (.iload_n 1, 1) := by decide +kernel
theorem dX4_addVotes_1 : decode cX4_addVotes 1 = .ok (.ifCond .lt 18, 3) := by decide +kernel
theorem dX4_addVotes_4 : decode cX4_addVotes 4 = .ok (.iload_n 1, 1) := by decide +kernel
theorem dX4_addVotes_5 : decode cX4_addVotes 5 = .ok (.iconst 3, 1) := by decide +kernel
theorem dX4_addVotes_6 : decode cX4_addVotes 6 = .ok (.if_icmp .ge 13, 3) := by decide +kernel
theorem dX4_addVotes_9 : decode cX4_addVotes 9 = .ok (.aload_n 0, 1) := by decide +kernel
theorem dX4_addVotes_10 : decode cX4_addVotes 10 = .ok (.getfield 15, 3) := by decide +kernel
theorem dX4_addVotes_13 : decode cX4_addVotes 13 = .ok (.iload_n 1, 1) := by decide +kernel
theorem dX4_addVotes_14 : decode cX4_addVotes 14 = .ok (.dup2, 1) := by decide +kernel
theorem dX4_addVotes_15 : decode cX4_addVotes 15 = .ok (.iaload, 1) := by decide +kernel
theorem dX4_addVotes_16 : decode cX4_addVotes 16 = .ok (.iload_n 2, 1) := by decide +kernel
theorem dX4_addVotes_17 : decode cX4_addVotes 17 = .ok (.iadd, 1) := by decide +kernel
theorem dX4_addVotes_18 : decode cX4_addVotes 18 = .ok (.iastore, 1) := by decide +kernel
theorem dX4_addVotes_19 : decode cX4_addVotes 19 = .ok (.return_, 1) := by decide +kernel
theorem dX4_votesIn_0 : decode cX4_votesIn 0 = .ok (.iload_n 1, 1) := by decide +kernel
theorem dX4_votesIn_1 : decode cX4_votesIn 1 = .ok (.ifCond .lt 8, 3) := by decide +kernel
theorem dX4_votesIn_4 : decode cX4_votesIn 4 = .ok (.iload_n 1, 1) := by decide +kernel
theorem dX4_votesIn_5 : decode cX4_votesIn 5 = .ok (.iconst 3, 1) := by decide +kernel
theorem dX4_votesIn_6 : decode cX4_votesIn 6 = .ok (.if_icmp .lt 7, 3) := by decide +kernel
theorem dX4_votesIn_9 : decode cX4_votesIn 9 = .ok (.iconst 0, 1) := by decide +kernel
theorem dX4_votesIn_10 : decode cX4_votesIn 10 = .ok (.goto 9, 3) := by decide +kernel
theorem dX4_votesIn_13 : decode cX4_votesIn 13 = .ok (.aload_n 0, 1) := by decide +kernel
theorem dX4_votesIn_14 : decode cX4_votesIn 14 = .ok (.getfield 15, 3) := by decide +kernel
theorem dX4_votesIn_17 : decode cX4_votesIn 17 = .ok (.iload_n 1, 1) := by decide +kernel
theorem dX4_votesIn_18 : decode cX4_votesIn 18 = .ok (.iaload, 1) := by decide +kernel
theorem dX4_votesIn_19 : decode cX4_votesIn 19 = .ok (.ireturn, 1) := by decide +kernel
theorem dX4_whyNot_0 : decode cX4_whyNot 0 = .ok (.iload_n 1, 1) := by decide +kernel
theorem dX4_whyNot_1 : decode cX4_whyNot 1 = .ok (.invokestatic 85, 3) := by decide +kernel
theorem dX4_whyNot_4 : decode cX4_whyNot 4 = .ok (.istore_n 2, 1) := by decide +kernel
theorem dX4_whyNot_5 : decode cX4_whyNot 5 = .ok (.iload_n 2, 1) := by decide +kernel
theorem dX4_whyNot_6 : decode cX4_whyNot 6 = .ok (.invokestatic 88, 3) := by decide +kernel
theorem dX4_whyNot_9 : decode cX4_whyNot 9 = .ok (.ifCond .ne 5, 3) := by decide +kernel
theorem dX4_whyNot_12 : decode cX4_whyNot 12 = .ok (.iconst 1, 1) := by decide +kernel
theorem dX4_whyNot_13 : decode cX4_whyNot 13 = .ok (.ireturn, 1) := by decide +kernel
theorem dX4_whyNot_14 : decode cX4_whyNot 14 = .ok (.aload_n 0, 1) := by decide +kernel
theorem dX4_whyNot_15 : decode cX4_whyNot 15 = .ok (.getfield 18, 3) := by decide +kernel
theorem dX4_whyNot_18 : decode cX4_whyNot 18 = .ok (.iload_n 2, 1) := by decide +kernel
theorem dX4_whyNot_19 : decode cX4_whyNot 19 = .ok (.iaload, 1) := by decide +kernel
theorem dX4_whyNot_20 : decode cX4_whyNot 20 = .ok (.istore_n 3, 1) := by decide +kernel
theorem dX4_whyNot_21 : decode cX4_whyNot 21 = .ok (.aload_n 0, 1) := by decide +kernel
theorem dX4_whyNot_22 : decode cX4_whyNot 22 = .ok (.getfield 29, 3) := by decide +kernel
theorem dX4_whyNot_25 : decode cX4_whyNot 25 = .ok (.iload_n 3, 1) := by decide +kernel
theorem dX4_whyNot_26 : decode cX4_whyNot 26 = .ok (.iconst 0, 1) := by decide +kernel
theorem dX4_whyNot_27 : decode cX4_whyNot 27 = .ok (.iadd, 1) := by decide +kernel
theorem dX4_whyNot_28 : decode cX4_whyNot 28 = .ok (.invokevirtual 77, 3) := by decide +kernel
theorem dX4_whyNot_31 : decode cX4_whyNot 31 = .ok (.istore 4, 2) := by decide +kernel
theorem dX4_whyNot_33 : decode cX4_whyNot 33 = .ok (.aload_n 0, 1) := by decide +kernel
theorem dX4_whyNot_34 : decode cX4_whyNot 34 = .ok (.getfield 29, 3) := by decide +kernel
theorem dX4_whyNot_37 : decode cX4_whyNot 37 = .ok (.iload_n 3, 1) := by decide +kernel
theorem dX4_whyNot_38 : decode cX4_whyNot 38 = .ok (.iconst 3, 1) := by decide +kernel
theorem dX4_whyNot_39 : decode cX4_whyNot 39 = .ok (.iadd, 1) := by decide +kernel
theorem dX4_whyNot_40 : decode cX4_whyNot 40 = .ok (.invokevirtual 77, 3) := by decide +kernel
theorem dX4_whyNot_43 : decode cX4_whyNot 43 = .ok (.istore 5, 2) := by decide +kernel
theorem dX4_whyNot_45 : decode cX4_whyNot 45 = .ok (.aload_n 0, 1) := by decide +kernel
theorem dX4_whyNot_46 : decode cX4_whyNot 46 = .ok (.iload 4, 2) := by decide +kernel
theorem dX4_whyNot_48 : decode cX4_whyNot 48 = .ok (.iload 5, 2) := by decide +kernel
theorem dX4_whyNot_50 : decode cX4_whyNot 50 = .ok (.iload_n 1, 1) := by decide +kernel
theorem dX4_whyNot_51 : decode cX4_whyNot 51 = .ok (.invokestatic 92, 3) := by decide +kernel
theorem dX4_whyNot_54 : decode cX4_whyNot 54 = .ok (.invokevirtual 94, 3) := by decide +kernel
theorem dX4_whyNot_57 : decode cX4_whyNot 57 = .ok (.ifCond .ne 5, 3) := by decide +kernel
theorem dX4_whyNot_60 : decode cX4_whyNot 60 = .ok (.iconst 1, 1) := by decide +kernel
theorem dX4_whyNot_61 : decode cX4_whyNot 61 = .ok (.ireturn, 1) := by decide +kernel
theorem dX4_whyNot_62 : decode cX4_whyNot 62 = .ok (.aload_n 0, 1) := by decide +kernel
theorem dX4_whyNot_63 : decode cX4_whyNot 63 = .ok (.getfield 49, 3) := by decide +kernel
theorem dX4_whyNot_66 : decode cX4_whyNot 66 = .ok (.iload_n 2, 1) := by decide +kernel
theorem dX4_whyNot_67 : decode cX4_whyNot 67 = .ok (.ishr, 1) := by decide +kernel
theorem dX4_whyNot_68 : decode cX4_whyNot 68 = .ok (.iconst 1, 1) := by decide +kernel
theorem dX4_whyNot_69 : decode cX4_whyNot 69 = .ok (.iand, 1) := by decide +kernel
theorem dX4_whyNot_70 : decode cX4_whyNot 70 = .ok (.ifCond .ne 5, 3) := by decide +kernel
theorem dX4_whyNot_73 : decode cX4_whyNot 73 = .ok (.iconst 2, 1) := by decide +kernel
theorem dX4_whyNot_74 : decode cX4_whyNot 74 = .ok (.ireturn, 1) := by decide +kernel
theorem dX4_whyNot_75 : decode cX4_whyNot 75 = .ok (.aload_n 0, 1) := by decide +kernel
theorem dX4_whyNot_76 : decode cX4_whyNot 76 = .ok (.aload_n 0, 1) := by decide +kernel
theorem dX4_whyNot_77 : decode cX4_whyNot 77 = .ok (.getfield 29, 3) := by decide +kernel
theorem dX4_whyNot_80 : decode cX4_whyNot 80 = .ok (.iload_n 3, 1) := by decide +kernel
theorem dX4_whyNot_81 : decode cX4_whyNot 81 = .ok (.iconst 1, 1) := by decide +kernel
theorem dX4_whyNot_82 : decode cX4_whyNot 82 = .ok (.iadd, 1) := by decide +kernel
theorem dX4_whyNot_83 : decode cX4_whyNot 83 = .ok (.invokevirtual 77, 3) := by decide +kernel
theorem dX4_whyNot_86 : decode cX4_whyNot 86 = .ok (.invokevirtual 98, 3) := by decide +kernel
theorem dX4_whyNot_89 : decode cX4_whyNot 89 = .ok (.aload_n 0, 1) := by decide +kernel
theorem dX4_whyNot_90 : decode cX4_whyNot 90 = .ok (.getfield 29, 3) := by decide +kernel
theorem dX4_whyNot_93 : decode cX4_whyNot 93 = .ok (.iload_n 3, 1) := by decide +kernel
theorem dX4_whyNot_94 : decode cX4_whyNot 94 = .ok (.iconst 2, 1) := by decide +kernel
theorem dX4_whyNot_95 : decode cX4_whyNot 95 = .ok (.iadd, 1) := by decide +kernel
theorem dX4_whyNot_96 : decode cX4_whyNot 96 = .ok (.invokevirtual 77, 3) := by decide +kernel
theorem dX4_whyNot_99 : decode cX4_whyNot 99 = .ok (.if_icmp .ge 5, 3) := by decide +kernel
theorem dX4_whyNot_102 : decode cX4_whyNot 102 = .ok (.iconst 3, 1) := by decide +kernel
theorem dX4_whyNot_103 : decode cX4_whyNot 103 = .ok (.ireturn, 1) := by decide +kernel
theorem dX4_whyNot_104 : decode cX4_whyNot 104 = .ok (.iload 4, 2) := by decide +kernel
theorem dX4_whyNot_106 : decode cX4_whyNot 106 = .ok (.iconst 2, 1) := by decide +kernel
theorem dX4_whyNot_107 : decode cX4_whyNot 107 = .ok (.if_icmp .eq 18, 3) := by decide +kernel
theorem dX4_whyNot_110 : decode cX4_whyNot 110 = .ok (.aload_n 0, 1) := by decide +kernel
theorem dX4_whyNot_111 : decode cX4_whyNot 111 = .ok (.getfield 52, 3) := by decide +kernel
theorem dX4_whyNot_114 : decode cX4_whyNot 114 = .ok (.iload 5, 2) := by decide +kernel
theorem dX4_whyNot_116 : decode cX4_whyNot 116 = .ok (.ishr, 1) := by decide +kernel
theorem dX4_whyNot_117 : decode cX4_whyNot 117 = .ok (.iconst 1, 1) := by decide +kernel
theorem dX4_whyNot_118 : decode cX4_whyNot 118 = .ok (.iand, 1) := by decide +kernel
theorem dX4_whyNot_119 : decode cX4_whyNot 119 = .ok (.iconst 1, 1) := by decide +kernel
theorem dX4_whyNot_120 : decode cX4_whyNot 120 = .ok (.if_icmp .ne 5, 3) := by decide +kernel
theorem dX4_whyNot_123 : decode cX4_whyNot 123 = .ok (.iconst 4, 1) := by decide +kernel
theorem dX4_whyNot_124 : decode cX4_whyNot 124 = .ok (.ireturn, 1) := by decide +kernel
theorem dX4_whyNot_125 : decode cX4_whyNot 125 = .ok (.aload_n 0, 1) := by decide +kernel
theorem dX4_whyNot_126 : decode cX4_whyNot 126 = .ok (.iload_n 1, 1) := by decide +kernel
theorem dX4_whyNot_127 : decode cX4_whyNot 127 = .ok (.invokevirtual 101, 3) := by decide +kernel
theorem dX4_whyNot_130 : decode cX4_whyNot 130 = .ok (.aload_n 0, 1) := by decide +kernel
theorem dX4_whyNot_131 : decode cX4_whyNot 131 = .ok (.getfield 46, 3) := by decide +kernel
theorem dX4_whyNot_134 : decode cX4_whyNot 134 = .ok (.if_icmp .ne 7, 3) := by decide +kernel
theorem dX4_whyNot_137 : decode cX4_whyNot 137 = .ok (.iconst 5, 1) := by decide +kernel
theorem dX4_whyNot_138 : decode cX4_whyNot 138 = .ok (.goto 4, 3) := by decide +kernel
theorem dX4_whyNot_141 : decode cX4_whyNot 141 = .ok (.iconst 0, 1) := by decide +kernel
theorem dX4_whyNot_142 : decode cX4_whyNot 142 = .ok (.ireturn, 1) := by decide +kernel
theorem dX4_gives_0 : decode cX4_gives 0 = .ok (.iload_n 1, 1) := by decide +kernel
theorem dX4_gives_1 : decode cX4_gives 1 = .ok (.ifCond .ne 26, 3) := by decide +kernel
theorem dX4_gives_4 : decode cX4_gives 4 = .ok (.iload_n 3, 1) := by decide +kernel
theorem dX4_gives_5 : decode cX4_gives 5 = .ok (.iconst 1, 1) := by decide +kernel
theorem dX4_gives_6 : decode cX4_gives 6 = .ok (.if_icmp .lt 19, 3) := by decide +kernel
theorem dX4_gives_9 : decode cX4_gives 9 = .ok (.iload_n 3, 1) := by decide +kernel
theorem dX4_gives_10 : decode cX4_gives 10 = .ok (.aload_n 0, 1) := by decide +kernel
theorem dX4_gives_11 : decode cX4_gives 11 = .ok (.getfield 29, 3) := by decide +kernel
theorem dX4_gives_14 : decode cX4_gives 14 = .ok (.iload_n 2, 1) := by decide +kernel
theorem dX4_gives_15 : decode cX4_gives 15 = .ok (.invokevirtual 104, 3) := by decide +kernel
theorem dX4_gives_18 : decode cX4_gives 18 = .ok (.if_icmp .gt 7, 3) := by decide +kernel
theorem dX4_gives_21 : decode cX4_gives 21 = .ok (.iconst 1, 1) := by decide +kernel
theorem dX4_gives_22 : decode cX4_gives 22 = .ok (.goto 4, 3) := by decide +kernel
theorem dX4_gives_25 : decode cX4_gives 25 = .ok (.iconst 0, 1) := by decide +kernel
theorem dX4_gives_26 : decode cX4_gives 26 = .ok (.ireturn, 1) := by decide +kernel
theorem dX4_gives_27 : decode cX4_gives 27 = .ok (.iload_n 1, 1) := by decide +kernel
theorem dX4_gives_28 : decode cX4_gives 28 = .ok (.iconst 1, 1) := by decide +kernel
theorem dX4_gives_29 : decode cX4_gives 29 = .ok (.if_icmp .eq 8, 3) := by decide +kernel
theorem dX4_gives_32 : decode cX4_gives 32 = .ok (.iload_n 1, 1) := by decide +kernel
theorem dX4_gives_33 : decode cX4_gives 33 = .ok (.iconst 2, 1) := by decide +kernel
