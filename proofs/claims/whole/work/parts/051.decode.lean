theorem dX4_gives_34 : decode cX4_gives 34 = .ok (.if_icmp .ne 11, 3) := by decide +kernel
theorem dX4_gives_37 : decode cX4_gives 37 = .ok (.iload_n 3, 1) := by decide +kernel
theorem dX4_gives_38 : decode cX4_gives 38 = .ok (.ifCond .ne 7, 3) := by decide +kernel
theorem dX4_gives_41 : decode cX4_gives 41 = .ok (.iconst 1, 1) := by decide +kernel
theorem dX4_gives_42 : decode cX4_gives 42 = .ok (.goto 4, 3) := by decide +kernel
theorem dX4_gives_45 : decode cX4_gives 45 = .ok (.iconst 0, 1) := by decide +kernel
theorem dX4_gives_46 : decode cX4_gives 46 = .ok (.ireturn, 1) := by decide +kernel
theorem dX4_after_0 : decode cX4_after 0 = .ok (.iload_n 1, 1) := by decide +kernel
theorem dX4_after_1 : decode cX4_after 1 = .ok (.invokestatic 85, 3) := by decide +kernel
theorem dX4_after_4 : decode cX4_after 4 = .ok (.istore_n 2, 1) := by decide +kernel
theorem dX4_after_5 : decode cX4_after 5 = .ok (.iload_n 2, 1) := by decide +kernel
theorem dX4_after_6 : decode cX4_after 6 = .ok (.invokestatic 88, 3) := by decide +kernel
theorem dX4_after_9 : decode cX4_after 9 = .ok (.ifCond .ne 8, 3) := by decide +kernel
theorem dX4_after_12 : decode cX4_after 12 = .ok (.aload_n 0, 1) := by decide +kernel
theorem dX4_after_13 : decode cX4_after 13 = .ok (.getfield 46, 3) := by decide +kernel
theorem dX4_after_16 : decode cX4_after 16 = .ok (.ireturn, 1) := by decide +kernel
theorem dX4_after_17 : decode cX4_after 17 = .ok (.aload_n 0, 1) := by decide +kernel
theorem dX4_after_18 : decode cX4_after 18 = .ok (.getfield 18, 3) := by decide +kernel
theorem dX4_after_21 : decode cX4_after 21 = .ok (.iload_n 2, 1) := by decide +kernel
theorem dX4_after_22 : decode cX4_after 22 = .ok (.iaload, 1) := by decide +kernel
theorem dX4_after_23 : decode cX4_after 23 = .ok (.istore_n 3, 1) := by decide +kernel
theorem dX4_after_24 : decode cX4_after 24 = .ok (.aload_n 0, 1) := by decide +kernel
theorem dX4_after_25 : decode cX4_after 25 = .ok (.getfield 29, 3) := by decide +kernel
theorem dX4_after_28 : decode cX4_after 28 = .ok (.iload_n 3, 1) := by decide +kernel
theorem dX4_after_29 : decode cX4_after 29 = .ok (.iconst 3, 1) := by decide +kernel
theorem dX4_after_30 : decode cX4_after 30 = .ok (.iadd, 1) := by decide +kernel
theorem dX4_after_31 : decode cX4_after 31 = .ok (.invokevirtual 77, 3) := by decide +kernel
theorem dX4_after_34 : decode cX4_after 34 = .ok (.istore 4, 2) := by decide +kernel
theorem dX4_after_36 : decode cX4_after 36 = .ok (.aload_n 0, 1) := by decide +kernel
theorem dX4_after_37 : decode cX4_after 37 = .ok (.getfield 29, 3) := by decide +kernel
theorem dX4_after_40 : decode cX4_after 40 = .ok (.iload_n 3, 1) := by decide +kernel
theorem dX4_after_41 : decode cX4_after 41 = .ok (.iconst 0, 1) := by decide +kernel
theorem dX4_after_42 : decode cX4_after 42 = .ok (.iadd, 1) := by decide +kernel
theorem dX4_after_43 : decode cX4_after 43 = .ok (.invokevirtual 77, 3) := by decide +kernel
theorem dX4_after_46 : decode cX4_after 46 = .ok (.iconst 2, 1) := by decide +kernel
theorem dX4_after_47 : decode cX4_after 47 = .ok (.if_icmp .ne 23, 3) := by decide +kernel
theorem dX4_after_50 : decode cX4_after 50 = .ok (.aload_n 0, 1) := by decide +kernel
theorem dX4_after_51 : decode cX4_after 51 = .ok (.getfield 46, 3) := by decide +kernel
theorem dX4_after_54 : decode cX4_after 54 = .ok (.iload 4, 2) := by decide +kernel
theorem dX4_after_56 : decode cX4_after 56 = .ok (.aload_n 0, 1) := by decide +kernel
theorem dX4_after_57 : decode cX4_after 57 = .ok (.getfield 29, 3) := by decide +kernel
theorem dX4_after_60 : decode cX4_after 60 = .ok (.iload_n 3, 1) := by decide +kernel
theorem dX4_after_61 : decode cX4_after 61 = .ok (.iconst 4, 1) := by decide +kernel
theorem dX4_after_62 : decode cX4_after 62 = .ok (.iadd, 1) := by decide +kernel
theorem dX4_after_63 : decode cX4_after 63 = .ok (.invokevirtual 77, 3) := by decide +kernel
theorem dX4_after_66 : decode cX4_after 66 = .ok (.invokestatic 107, 3) := by decide +kernel
theorem dX4_after_69 : decode cX4_after 69 = .ok (.ireturn, 1) := by decide +kernel
theorem dX4_after_70 : decode cX4_after 70 = .ok (.aload_n 0, 1) := by decide +kernel
theorem dX4_after_71 : decode cX4_after 71 = .ok (.getfield 46, 3) := by decide +kernel
theorem dX4_after_74 : decode cX4_after 74 = .ok (.iload 4, 2) := by decide +kernel
theorem dX4_after_76 : decode cX4_after 76 = .ok (.iload_n 1, 1) := by decide +kernel
theorem dX4_after_77 : decode cX4_after 77 = .ok (.invokestatic 92, 3) := by decide +kernel
theorem dX4_after_80 : decode cX4_after 80 = .ok (.invokestatic 111, 3) := by decide +kernel
theorem dX4_after_83 : decode cX4_after 83 = .ok (.ireturn, 1) := by decide +kernel
theorem dX4_list_0 : decode cX4_list 0 = .ok (.aload_n 0, 1) := by decide +kernel
theorem dX4_list_1 : decode cX4_list 1 = .ok (.iload_n 1, 1) := by decide +kernel
theorem dX4_list_2 : decode cX4_list 2 = .ok (.invokevirtual 114, 3) := by decide +kernel
theorem dX4_list_5 : decode cX4_list 5 = .ok (.aload_n 0, 1) := by decide +kernel
theorem dX4_list_6 : decode cX4_list 6 = .ok (.iconst 0, 1) := by decide +kernel
theorem dX4_list_7 : decode cX4_list 7 = .ok (.putfield 117, 3) := by decide +kernel
theorem dX4_list_10 : decode cX4_list 10 = .ok (.iconst 0, 1) := by decide +kernel
theorem dX4_list_11 : decode cX4_list 11 = .ok (.istore_n 2, 1) := by decide +kernel
theorem dX4_list_12 : decode cX4_list 12 = .ok (.iload_n 2, 1) := by decide +kernel
theorem dX4_list_13 : decode cX4_list 13 = .ok (.bipush 20, 2) := by decide +kernel
theorem dX4_list_15 : decode cX4_list 15 = .ok (.if_icmp .ge 92, 3) := by decide +kernel
theorem dX4_list_18 : decode cX4_list 18 = .ok (.iload_n 2, 1) := by decide +kernel
theorem dX4_list_19 : decode cX4_list 19 = .ok (.invokestatic 120, 3) := by decide +kernel
theorem dX4_list_22 : decode cX4_list 22 = .ok (.istore_n 3, 1) := by decide +kernel
theorem dX4_list_23 : decode cX4_list 23 = .ok (.aload_n 0, 1) := by decide +kernel
theorem dX4_list_24 : decode cX4_list 24 = .ok (.getfield 49, 3) := by decide +kernel
theorem dX4_list_27 : decode cX4_list 27 = .ok (.iload_n 3, 1) := by decide +kernel
theorem dX4_list_28 : decode cX4_list 28 = .ok (.invokestatic 85, 3) := by decide +kernel
theorem dX4_list_31 : decode cX4_list 31 = .ok (.ishr, 1) := by decide +kernel
theorem dX4_list_32 : decode cX4_list 32 = .ok (.iconst 1, 1) := by decide +kernel
theorem dX4_list_33 : decode cX4_list 33 = .ok (.iand, 1) := by decide +kernel
theorem dX4_list_34 : decode cX4_list 34 = .ok (.iconst 1, 1) := by decide +kernel
theorem dX4_list_35 : decode cX4_list 35 = .ok (.if_icmp .ne 7, 3) := by decide +kernel
theorem dX4_list_38 : decode cX4_list 38 = .ok (.iconst 1, 1) := by decide +kernel
theorem dX4_list_39 : decode cX4_list 39 = .ok (.goto 4, 3) := by decide +kernel
theorem dX4_list_42 : decode cX4_list 42 = .ok (.iconst 0, 1) := by decide +kernel
theorem dX4_list_43 : decode cX4_list 43 = .ok (.istore 4, 2) := by decide +kernel
theorem dX4_list_45 : decode cX4_list 45 = .ok (.iload 4, 2) := by decide +kernel
theorem dX4_list_47 : decode cX4_list 47 = .ok (.ifCond .eq 54, 3) := by decide +kernel
theorem dX4_list_50 : decode cX4_list 50 = .ok (.aload_n 0, 1) := by decide +kernel
theorem dX4_list_51 : decode cX4_list 51 = .ok (.iload_n 3, 1) := by decide +kernel
theorem dX4_list_52 : decode cX4_list 52 = .ok (.invokevirtual 123, 3) := by decide +kernel
theorem dX4_list_55 : decode cX4_list 55 = .ok (.ifCond .ne 46, 3) := by decide +kernel
theorem dX4_list_58 : decode cX4_list 58 = .ok (.aload_n 0, 1) := by decide +kernel
theorem dX4_list_59 : decode cX4_list 59 = .ok (.getfield 117, 3) := by decide +kernel
theorem dX4_list_62 : decode cX4_list 62 = .ok (.bipush 20, 2) := by decide +kernel
theorem dX4_list_64 : decode cX4_list 64 = .ok (.if_icmp .ge 37, 3) := by decide +kernel
theorem dX4_list_67 : decode cX4_list 67 = .ok (.aload_n 0, 1) := by decide +kernel
theorem dX4_list_68 : decode cX4_list 68 = .ok (.getfield 23, 3) := by decide +kernel
theorem dX4_list_71 : decode cX4_list 71 = .ok (.aload_n 0, 1) := by decide +kernel
theorem dX4_list_72 : decode cX4_list 72 = .ok (.getfield 117, 3) := by decide +kernel
theorem dX4_list_75 : decode cX4_list 75 = .ok (.iload_n 3, 1) := by decide +kernel
theorem dX4_list_76 : decode cX4_list 76 = .ok (.iastore, 1) := by decide +kernel
theorem dX4_list_77 : decode cX4_list 77 = .ok (.aload_n 0, 1) := by decide +kernel
theorem dX4_list_78 : decode cX4_list 78 = .ok (.getfield 26, 3) := by decide +kernel
theorem dX4_list_81 : decode cX4_list 81 = .ok (.aload_n 0, 1) := by decide +kernel
theorem dX4_list_82 : decode cX4_list 82 = .ok (.getfield 117, 3) := by decide +kernel
theorem dX4_list_85 : decode cX4_list 85 = .ok (.aload_n 0, 1) := by decide +kernel
theorem dX4_list_86 : decode cX4_list 86 = .ok (.iload_n 3, 1) := by decide +kernel
theorem dX4_list_87 : decode cX4_list 87 = .ok (.invokevirtual 101, 3) := by decide +kernel
theorem dX4_list_90 : decode cX4_list 90 = .ok (.iastore, 1) := by decide +kernel
theorem dX4_list_91 : decode cX4_list 91 = .ok (.aload_n 0, 1) := by decide +kernel
theorem dX4_list_92 : decode cX4_list 92 = .ok (.dup, 1) := by decide +kernel
theorem dX4_list_93 : decode cX4_list 93 = .ok (.getfield 117, 3) := by decide +kernel
theorem dX4_list_96 : decode cX4_list 96 = .ok (.iconst 1, 1) := by decide +kernel
theorem dX4_list_97 : decode cX4_list 97 = .ok (.iadd, 1) := by decide +kernel
theorem dX4_list_98 : decode cX4_list 98 = .ok (.putfield 117, 3) := by decide +kernel
theorem dX4_list_101 : decode cX4_list 101 = .ok (.iinc 2 1, 3) := by decide +kernel
theorem dX4_list_104 : decode cX4_list 104 = .ok (.goto (-92), 3) := by decide +kernel
theorem dX4_list_107 : decode cX4_list 107 = .ok (.return_, 1) := by decide +kernel
theorem dX4_howManyMay_0 : decode cX4_howManyMay 0 = .ok (.aload_n 0, 1) := by decide +kernel
theorem dX4_howManyMay_1 : decode cX4_howManyMay 1 = .ok (.getfield 117, 3) := by decide +kernel
theorem dX4_howManyMay_4 : decode cX4_howManyMay 4 = .ok (.ireturn, 1) := by decide +kernel
theorem dX4_mayDo_0 : decode cX4_mayDo 0 = .ok (.iload_n 1, 1) := by decide +kernel
theorem dX4_mayDo_1 : decode cX4_mayDo 1 = .ok (.ifCond .lt 17, 3) := by decide +kernel
theorem dX4_mayDo_4 : decode cX4_mayDo 4 = .ok (.iload_n 1, 1) := by decide +kernel
theorem dX4_mayDo_5 : decode cX4_mayDo 5 = .ok (.aload_n 0, 1) := by decide +kernel
theorem dX4_mayDo_6 : decode cX4_mayDo 6 = .ok (.getfield 117, 3) := by decide +kernel
theorem dX4_mayDo_9 : decode cX4_mayDo 9 = .ok (.if_icmp .ge 9, 3) := by decide +kernel
theorem dX4_mayDo_12 : decode cX4_mayDo 12 = .ok (.iload_n 1, 1) := by decide +kernel
theorem dX4_mayDo_13 : decode cX4_mayDo 13 = .ok (.bipush 20, 2) := by decide +kernel
theorem dX4_mayDo_15 : decode cX4_mayDo 15 = .ok (.if_icmp .lt 8, 3) := by decide +kernel
theorem dX4_mayDo_18 : decode cX4_mayDo 18 = .ok (.bipush (-9), 2) := by decide +kernel
theorem dX4_mayDo_20 : decode cX4_mayDo 20 = .ok (.goto 9, 3) := by decide +kernel
theorem dX4_mayDo_23 : decode cX4_mayDo 23 = .ok (.aload_n 0, 1) := by decide +kernel
theorem dX4_mayDo_24 : decode cX4_mayDo 24 = .ok (.getfield 23, 3) := by decide +kernel
theorem dX4_mayDo_27 : decode cX4_mayDo 27 = .ok (.iload_n 1, 1) := by decide +kernel
theorem dX4_mayDo_28 : decode cX4_mayDo 28 = .ok (.iaload, 1) := by decide +kernel
theorem dX4_mayDo_29 : decode cX4_mayDo 29 = .ok (.ireturn, 1) := by decide +kernel
theorem dX4_mayComeTo_0 : decode cX4_mayComeTo 0 = .ok (.iload_n 1, 1) := by decide +kernel
theorem dX4_mayComeTo_1 : decode cX4_mayComeTo 1 = .ok (.ifCond .lt 17, 3) := by decide +kernel
theorem dX4_mayComeTo_4 : decode cX4_mayComeTo 4 = .ok (.iload_n 1, 1) := by decide +kernel
theorem dX4_mayComeTo_5 : decode cX4_mayComeTo 5 = .ok (.aload_n 0, 1) := by decide +kernel
theorem dX4_mayComeTo_6 : decode cX4_mayComeTo 6 = .ok (.getfield 117, 3) := by decide +kernel
theorem dX4_mayComeTo_9 : decode cX4_mayComeTo 9 = .ok (.if_icmp .ge 9, 3) := by decide +kernel
theorem dX4_mayComeTo_12 : decode cX4_mayComeTo 12 = .ok (.iload_n 1, 1) := by decide +kernel
theorem dX4_mayComeTo_13 : decode cX4_mayComeTo 13 = .ok (.bipush 20, 2) := by decide +kernel
theorem dX4_mayComeTo_15 : decode cX4_mayComeTo 15 = .ok (.if_icmp .lt 10, 3) := by decide +kernel
theorem dX4_mayComeTo_18 : decode cX4_mayComeTo 18 = .ok (.aload_n 0, 1) := by decide +kernel
theorem dX4_mayComeTo_19 : decode cX4_mayComeTo 19 = .ok (.getfield 46, 3) := by decide +kernel
theorem dX4_mayComeTo_22 : decode cX4_mayComeTo 22 = .ok (.goto 9, 3) := by decide +kernel
theorem dX4_mayComeTo_25 : decode cX4_mayComeTo 25 = .ok (.aload_n 0, 1) := by decide +kernel
theorem dX4_mayComeTo_26 : decode cX4_mayComeTo 26 = .ok (.getfield 26, 3) := by decide +kernel
theorem dX4_mayComeTo_29 : decode cX4_mayComeTo 29 = .ok (.iload_n 1, 1) := by decide +kernel
theorem dX4_mayComeTo_30 : decode cX4_mayComeTo 30 = .ok (.iaload, 1) := by decide +kernel
theorem dX4_mayComeTo_31 : decode cX4_mayComeTo 31 = .ok (.ireturn, 1) := by decide +kernel
theorem dX5_formOf_0 : decode cX5_formOf 0 = .ok (.iload_n 0, 1) := by decide +kernel
theorem dX5_formOf_1 : decode cX5_formOf 1 = .ok (.iconst 2, 1) := by decide +kernel
theorem dX5_formOf_2 : decode cX5_formOf 2 = .ok (.iload_n 1, 1) := by decide +kernel
theorem dX5_formOf_3 : decode cX5_formOf 3 = .ok (.imul, 1) := by decide +kernel
theorem dX5_formOf_4 : decode cX5_formOf 4 = .ok (.ishr, 1) := by decide +kernel
theorem dX5_formOf_5 : decode cX5_formOf 5 = .ok (.iconst 3, 1) := by decide +kernel
theorem dX5_formOf_6 : decode cX5_formOf 6 = .ok (.iand, 1) := by decide +kernel
theorem dX5_formOf_7 : decode cX5_formOf 7 = .ok (.ireturn, 1) := by decide +kernel
theorem dX5_put_0 : decode cX5_put 0 = .ok (.iconst 2, 1) := by decide +kernel
theorem dX5_put_1 : decode cX5_put 1 = .ok (.iload_n 1, 1) := by decide +kernel
theorem dX5_put_2 : decode cX5_put 2 = .ok (.imul, 1) := by decide +kernel
theorem dX5_put_3 : decode cX5_put 3 = .ok (.istore_n 3, 1) := by decide +kernel
theorem dX5_put_4 : decode cX5_put 4 = .ok (.iload_n 0, 1) := by decide +kernel
theorem dX5_put_5 : decode cX5_put 5 = .ok (.iconst 3, 1) := by decide +kernel
theorem dX5_put_6 : decode cX5_put 6 = .ok (.iload_n 3, 1) := by decide +kernel
theorem dX5_put_7 : decode cX5_put 7 = .ok (.ishl, 1) := by decide +kernel
theorem dX5_put_8 : decode cX5_put 8 = .ok (.iconst (-1), 1) := by decide +kernel
theorem dX5_put_9 : decode cX5_put 9 = .ok (.ixor, 1) := by decide +kernel
theorem dX5_put_10 : decode cX5_put 10 = .ok (.iand, 1) := by decide +kernel
theorem dX5_put_11 : decode cX5_put 11 = .ok (.iload_n 2, 1) := by decide +kernel
theorem dX5_put_12 : decode cX5_put 12 = .ok (.iconst 3, 1) := by decide +kernel
theorem dX5_put_13 : decode cX5_put 13 = .ok (.iand, 1) := by decide +kernel
theorem dX5_put_14 : decode cX5_put 14 = .ok (.iload_n 3, 1) := by decide +kernel
theorem dX5_put_15 : decode cX5_put 15 = .ok (.ishl, 1) := by decide +kernel
theorem dX5_put_16 : decode cX5_put 16 = .ok (.ior, 1) := by decide +kernel
theorem dX5_put_17 : decode cX5_put 17 = .ok (.ireturn, 1) := by decide +kernel
theorem dX5_thingOf_0 : decode cX5_thingOf 0 = .ok (.iload_n 0, 1) := by decide +kernel
theorem dX5_thingOf_1 : decode cX5_thingOf 1 = .ok (.bipush 10, 2) := by decide +kernel
theorem dX5_thingOf_3 : decode cX5_thingOf 3 = .ok (.iload_n 1, 1) := by decide +kernel
theorem dX5_thingOf_4 : decode cX5_thingOf 4 = .ok (.iadd, 1) := by decide +kernel
theorem dX5_thingOf_5 : decode cX5_thingOf 5 = .ok (.ishr, 1) := by decide +kernel
theorem dX5_thingOf_6 : decode cX5_thingOf 6 = .ok (.iconst 1, 1) := by decide +kernel
theorem dX5_thingOf_7 : decode cX5_thingOf 7 = .ok (.iand, 1) := by decide +kernel
theorem dX5_thingOf_8 : decode cX5_thingOf 8 = .ok (.ireturn, 1) := by decide +kernel
theorem dX5_make_0 : decode cX5_make 0 = .ok (.bipush 10, 2) := by decide +kernel
theorem dX5_make_2 : decode cX5_make 2 = .ok (.iload_n 1, 1) := by decide +kernel
theorem dX5_make_3 : decode cX5_make 3 = .ok (.iadd, 1) := by decide +kernel
theorem dX5_make_4 : decode cX5_make 4 = .ok (.istore_n 3, 1) := by decide +kernel
theorem dX5_make_5 : decode cX5_make 5 = .ok (.iload_n 0, 1) := by decide +kernel
theorem dX5_make_6 : decode cX5_make 6 = .ok (.iconst 1, 1) := by decide +kernel
theorem dX5_make_7 : decode cX5_make 7 = .ok (.iload_n 3, 1) := by decide +kernel
theorem dX5_make_8 : decode cX5_make 8 = .ok (.ishl, 1) := by decide +kernel
theorem dX5_make_9 : decode cX5_make 9 = .ok (.iconst (-1), 1) := by decide +kernel
theorem dX5_make_10 : decode cX5_make 10 = .ok (.ixor, 1) := by decide +kernel
theorem dX5_make_11 : decode cX5_make 11 = .ok (.iand, 1) := by decide +kernel
theorem dX5_make_12 : decode cX5_make 12 = .ok (.iload_n 2, 1) := by decide +kernel
theorem dX5_make_13 : decode cX5_make 13 = .ok (.iconst 1, 1) := by decide +kernel
theorem dX5_make_14 : decode cX5_make 14 = .ok (.iand, 1) := by decide +kernel
theorem dX5_make_15 : decode cX5_make 15 = .ok (.iload_n 3, 1) := by decide +kernel
theorem dX5_make_16 : decode cX5_make 16 = .ok (.ishl, 1) := by decide +kernel
theorem dX5_make_17 : decode cX5_make 17 = .ok (.ior, 1) := by decide +kernel
theorem dX5_make_18 : decode cX5_make 18 = .ok (.ireturn, 1) := by decide +kernel
theorem dX5_thingsOf_0 : decode cX5_thingsOf 0 = .ok (.iload_n 0, 1) := by decide +kernel
theorem dX5_thingsOf_1 : decode cX5_thingsOf 1 = .ok (.bipush 10, 2) := by decide +kernel
theorem dX5_thingsOf_3 : decode cX5_thingsOf 3 = .ok (.ishr, 1) := by decide +kernel
theorem dX5_thingsOf_4 : decode cX5_thingsOf 4 = .ok (.bipush 15, 2) := by decide +kernel
theorem dX5_thingsOf_6 : decode cX5_thingsOf 6 = .ok (.iand, 1) := by decide +kernel
theorem dX5_thingsOf_7 : decode cX5_thingsOf 7 = .ok (.ireturn, 1) := by decide +kernel
theorem dX5_howManyStand_0 : decode cX5_howManyStand 0 = .ok (.iconst 0, 1) := by decide +kernel
theorem dX5_howManyStand_1 : decode cX5_howManyStand 1 = .ok (.istore_n 1, 1) := by decide +kernel
theorem dX5_howManyStand_2 : decode cX5_howManyStand 2 = .ok (.iconst 0, 1) := by decide +kernel
theorem dX5_howManyStand_3 : decode cX5_howManyStand 3 = .ok (.istore_n 2, 1) := by decide +kernel
theorem dX5_howManyStand_4 : decode cX5_howManyStand 4 = .ok (.iload_n 2, 1) := by decide +kernel
theorem dX5_howManyStand_5 : decode cX5_howManyStand 5 = .ok (.iconst 5, 1) := by decide +kernel
theorem dX5_howManyStand_6 : decode cX5_howManyStand 6 = .ok (.if_icmp .ge 25, 3) := by decide +kernel
theorem dX5_howManyStand_9 : decode cX5_howManyStand 9 = .ok (.iload_n 1, 1) := by decide +kernel
theorem dX5_howManyStand_10 : decode cX5_howManyStand 10 = .ok (.iload_n 0, 1) := by decide +kernel
theorem dX5_howManyStand_11 : decode cX5_howManyStand 11 = .ok (.iload_n 2, 1) := by decide +kernel
theorem dX5_howManyStand_12 : decode cX5_howManyStand 12 = .ok (.invokestatic 11, 3) := by decide +kernel
theorem dX5_howManyStand_15 : decode cX5_howManyStand 15 = .ok (.ifCond .eq 7, 3) := by decide +kernel
theorem dX5_howManyStand_18 : decode cX5_howManyStand 18 = .ok (.iconst 1, 1) := by decide +kernel
theorem dX5_howManyStand_19 : decode cX5_howManyStand 19 = .ok (.goto 4, 3) := by decide +kernel
theorem dX5_howManyStand_22 : decode cX5_howManyStand 22 = .ok (.iconst 0, 1) := by decide +kernel
theorem dX5_howManyStand_23 : decode cX5_howManyStand 23 = .ok (.iadd, 1) := by decide +kernel
theorem dX5_howManyStand_24 : decode cX5_howManyStand 24 = .ok (.istore_n 1, 1) := by decide +kernel
theorem dX5_howManyStand_25 : decode cX5_howManyStand 25 = .ok (.iinc 2 1, 3) := by decide +kernel
theorem dX5_howManyStand_28 : decode cX5_howManyStand 28 = .ok (.goto (-24), 3) := by decide +kernel
theorem dX5_howManyStand_31 : decode cX5_howManyStand 31 = .ok (.iload_n 1, 1) := by decide +kernel
theorem dX5_howManyStand_32 : decode cX5_howManyStand 32 = .ok (.ireturn, 1) := by decide +kernel
theorem dX5_differences_0 : decode cX5_differences 0 = .ok (.iload_n 0, 1) := by decide +kernel
theorem dX5_differences_1 : decode cX5_differences 1 = .ok (.invokestatic 15, 3) := by decide +kernel
theorem dX5_differences_4 : decode cX5_differences 4 = .ok (.iload_n 1, 1) := by decide +kernel
theorem dX5_differences_5 : decode cX5_differences 5 = .ok (.invokestatic 15, 3) := by decide +kernel
theorem dX5_differences_8 : decode cX5_differences 8 = .ok (.ixor, 1) := by decide +kernel
theorem dX5_differences_9 : decode cX5_differences 9 = .ok (.invokestatic 19, 3) := by decide +kernel
theorem dX5_differences_12 : decode cX5_differences 12 = .ok (.istore_n 2, 1) := by decide +kernel
theorem dX5_differences_13 : decode cX5_differences 13 = .ok (.iconst 0, 1) := by decide +kernel
theorem dX5_differences_14 : decode cX5_differences 14 = .ok (.istore_n 3, 1) := by decide +kernel
theorem dX5_differences_15 : decode cX5_differences 15 = .ok (.iload_n 3, 1) := by decide +kernel
theorem dX5_differences_16 : decode cX5_differences 16 = .ok (.iconst 5, 1) := by decide +kernel
theorem dX5_differences_17 : decode cX5_differences 17 = .ok (.if_icmp .ge 30, 3) := by decide +kernel
theorem dX5_differences_20 : decode cX5_differences 20 = .ok (.iload_n 2, 1) := by decide +kernel
theorem dX5_differences_21 : decode cX5_differences 21 = .ok (.iload_n 0, 1) := by decide +kernel
theorem dX5_differences_22 : decode cX5_differences 22 = .ok (.iload_n 3, 1) := by decide +kernel
theorem dX5_differences_23 : decode cX5_differences 23 = .ok (.invokestatic 11, 3) := by decide +kernel
theorem dX5_differences_26 : decode cX5_differences 26 = .ok (.iload_n 1, 1) := by decide +kernel
theorem dX5_differences_27 : decode cX5_differences 27 = .ok (.iload_n 3, 1) := by decide +kernel
theorem dX5_differences_28 : decode cX5_differences 28 = .ok (.invokestatic 11, 3) := by decide +kernel
theorem dX5_differences_31 : decode cX5_differences 31 = .ok (.if_icmp .eq 7, 3) := by decide +kernel
theorem dX5_differences_34 : decode cX5_differences 34 = .ok (.iconst 1, 1) := by decide +kernel
theorem dX5_differences_35 : decode cX5_differences 35 = .ok (.goto 4, 3) := by decide +kernel
theorem dX5_differences_38 : decode cX5_differences 38 = .ok (.iconst 0, 1) := by decide +kernel
theorem dX5_differences_39 : decode cX5_differences 39 = .ok (.iadd, 1) := by decide +kernel
theorem dX5_differences_40 : decode cX5_differences 40 = .ok (.istore_n 2, 1) := by decide +kernel
theorem dX5_differences_41 : decode cX5_differences 41 = .ok (.iinc 3 1, 3) := by decide +kernel
theorem dX5_differences_44 : decode cX5_differences 44 = .ok (.goto (-29), 3) := by decide +kernel
theorem dX5_differences_47 : decode cX5_differences 47 = .ok (.iload_n 2, 1) := by decide +kernel
theorem dX5_differences_48 : decode cX5_differences 48 = .ok (.ireturn, 1) := by decide +kernel
theorem dX5_exists_0 : decode cX5_exists 0 = .ok (.iload_n 0, 1) := by decide +kernel
theorem dX5_exists_1 : decode cX5_exists 1 = .ok (.ifCond .lt 14, 3) := by decide +kernel
theorem dX5_exists_4 : decode cX5_exists 4 = .ok (.iload_n 0, 1) := by decide +kernel
theorem dX5_exists_5 : decode cX5_exists 5 = .ok (.sipush 16384, 3) := by decide +kernel
theorem dX5_exists_8 : decode cX5_exists 8 = .ok (.if_icmp .ge 7, 3) := by decide +kernel
theorem dX5_exists_11 : decode cX5_exists 11 = .ok (.iconst 1, 1) := by decide +kernel
theorem dX5_exists_12 : decode cX5_exists 12 = .ok (.goto 4, 3) := by decide +kernel
theorem dX5_exists_15 : decode cX5_exists 15 = .ok (.iconst 0, 1) := by decide +kernel
theorem dX5_exists_16 : decode cX5_exists 16 = .ok (.ireturn, 1) := by decide +kernel
theorem dX6_init_0 : decode cX6_init 0 = .ok (.aload_n 0, 1) := by decide +kernel
theorem dX6_init_1 : decode cX6_init 1 = .ok (.invokespecial 3, 3) := by decide +kernel
theorem dX6_init_4 : decode cX6_init 4 = .ok (.aload_n 0, 1) := by decide +kernel
theorem dX6_init_5 : decode cX6_init 5 = .ok (.bipush 20, 2) := by decide +kernel
theorem dX6_init_7 : decode cX6_init 7 = .ok (.newarray .int, 2) := by decide +kernel
theorem dX6_init_9 : decode cX6_init 9 = .ok (.putfield 11, 3) := by decide +kernel
theorem dX6_init_12 : decode cX6_init 12 = .ok (.aload_n 0, 1) := by decide +kernel
theorem dX6_init_13 : decode cX6_init 13 = .ok (.bipush 6, 2) := by decide +kernel
theorem dX6_init_15 : decode cX6_init 15 = .ok (.newarray .int, 2) := by decide +kernel
theorem dX6_init_17 : decode cX6_init 17 = .ok (.putfield 15, 3) := by decide +kernel
theorem dX6_init_20 : decode cX6_init 20 = .ok (.return_, 1) := by decide +kernel
theorem dX6_size_0 : decode cX6_size 0 = .ok (.aload_n 0, 1) := by decide +kernel
theorem dX6_size_1 : decode cX6_size 1 = .ok (.getfield 18, 3) := by decide +kernel
theorem dX6_size_4 : decode cX6_size 4 = .ok (.ireturn, 1) := by decide +kernel
theorem dX6_clear_0 : decode cX6_clear 0 = .ok (.aload_n 0, 1) := by decide +kernel
theorem dX6_clear_1 : decode cX6_clear 1 = .ok (.getfield 18, 3) := by decide +kernel
theorem dX6_clear_4 : decode cX6_clear 4 = .ok (.istore_n 1, 1) := by decide +kernel
theorem dX6_clear_5 : decode cX6_clear 5 = .ok (.aload_n 0, 1) := by decide +kernel
theorem dX6_clear_6 : decode cX6_clear 6 = .ok (.iconst 0, 1) := by decide +kernel
theorem dX6_clear_7 : decode cX6_clear 7 = .ok (.putfield 18, 3) := by decide +kernel
theorem dX6_clear_10 : decode cX6_clear 10 = .ok (.iload_n 1, 1) := by decide +kernel
theorem dX6_clear_11 : decode cX6_clear 11 = .ok (.ireturn, 1) := by decide +kernel
theorem dX6_append_0 : decode cX6_append 0 = .ok (.aload_n 0, 1) := by decide +kernel
theorem dX6_append_1 : decode cX6_append 1 = .ok (.getfield 18, 3) := by decide +kernel
theorem dX6_append_4 : decode cX6_append 4 = .ok (.iload_n 1, 1) := by decide +kernel
theorem dX6_append_5 : decode cX6_append 5 = .ok (.iadd, 1) := by decide +kernel
theorem dX6_append_6 : decode cX6_append 6 = .ok (.bipush 20, 2) := by decide +kernel
theorem dX6_append_8 : decode cX6_append 8 = .ok (.if_icmp .le 6, 3) := by decide +kernel
theorem dX6_append_11 : decode cX6_append 11 = .ok (.bipush (-4), 2) := by decide +kernel
theorem dX6_append_13 : decode cX6_append 13 = .ok (.ireturn, 1) := by decide +kernel
theorem dX6_append_14 : decode cX6_append 14 = .ok (.iload_n 1, 1) := by decide +kernel
theorem dX6_append_15 : decode cX6_append 15 = .ok (.iconst 1, 1) := by decide +kernel
theorem dX6_append_16 : decode cX6_append 16 = .ok (.isub, 1) := by decide +kernel
theorem dX6_append_17 : decode cX6_append 17 = .ok (.istore 4, 2) := by decide +kernel
theorem dX6_append_19 : decode cX6_append 19 = .ok (.iload 4, 2) := by decide +kernel
theorem dX6_append_21 : decode cX6_append 21 = .ok (.ifCond .lt 49, 3) := by decide +kernel
theorem dX6_append_24 : decode cX6_append 24 = .ok (.aload_n 0, 1) := by decide +kernel
theorem dX6_append_25 : decode cX6_append 25 = .ok (.getfield 18, 3) := by decide +kernel
theorem dX6_append_28 : decode cX6_append 28 = .ok (.bipush 20, 2) := by decide +kernel
theorem dX6_append_30 : decode cX6_append 30 = .ok (.if_icmp .ge 40, 3) := by decide +kernel
theorem dX6_append_33 : decode cX6_append 33 = .ok (.aload_n 0, 1) := by decide +kernel
theorem dX6_append_34 : decode cX6_append 34 = .ok (.getfield 11, 3) := by decide +kernel
theorem dX6_append_37 : decode cX6_append 37 = .ok (.aload_n 0, 1) := by decide +kernel
theorem dX6_append_38 : decode cX6_append 38 = .ok (.getfield 18, 3) := by decide +kernel
theorem dX6_append_41 : decode cX6_append 41 = .ok (.lload_n 2, 1) := by decide +kernel
theorem dX6_append_42 : decode cX6_append 42 = .ok (.bipush 8, 2) := by decide +kernel
theorem dX6_append_44 : decode cX6_append 44 = .ok (.iload 4, 2) := by decide +kernel
theorem dX6_append_46 : decode cX6_append 46 = .ok (.imul, 1) := by decide +kernel
theorem dX6_append_47 : decode cX6_append 47 = .ok (.lushr, 1) := by decide +kernel
theorem dX6_append_48 : decode cX6_append 48 = .ok (.ldc2_w 22, 3) := by decide +kernel
theorem dX6_append_51 : decode cX6_append 51 = .ok (.land, 1) := by decide +kernel
theorem dX6_append_52 : decode cX6_append 52 = .ok (.l2i, 1) := by decide +kernel
theorem dX6_append_53 : decode cX6_append 53 = .ok (.iastore, 1) := by decide +kernel
theorem dX6_append_54 : decode cX6_append 54 = .ok (.aload_n 0, 1) := by decide +kernel
theorem dX6_append_55 : decode cX6_append 55 = .ok (.dup, 1) := by decide +kernel
theorem dX6_append_56 : decode cX6_append 56 = .ok (.getfield 18, 3) := by decide +kernel
theorem dX6_append_59 : decode cX6_append 59 = .ok (.iconst 1, 1) := by decide +kernel
theorem dX6_append_60 : decode cX6_append 60 = .ok (.iadd, 1) := by decide +kernel
theorem dX6_append_61 : decode cX6_append 61 = .ok (.putfield 18, 3) := by decide +kernel
theorem dX6_append_64 : decode cX6_append 64 = .ok (.iinc 4 (-1), 3) := by decide +kernel
theorem dX6_append_67 : decode cX6_append 67 = .ok (.goto (-48), 3) := by decide +kernel
theorem dX6_append_70 : decode cX6_append 70 = .ok (.aload_n 0, 1) := by decide +kernel
theorem dX6_append_71 : decode cX6_append 71 = .ok (.getfield 18, 3) := by decide +kernel
theorem dX6_append_74 : decode cX6_append 74 = .ok (.ireturn, 1) := by decide +kernel
theorem dX6_part_0 : decode cX6_part 0 = .ok (.iload_n 1, 1) := by decide +kernel
theorem dX6_part_1 : decode cX6_part 1 = .ok (.ifCond .lt 9, 3) := by decide +kernel
theorem dX6_part_4 : decode cX6_part 4 = .ok (.iload_n 1, 1) := by decide +kernel
theorem dX6_part_5 : decode cX6_part 5 = .ok (.bipush 6, 2) := by decide +kernel
theorem dX6_part_7 : decode cX6_part 7 = .ok (.if_icmp .lt 8, 3) := by decide +kernel
theorem dX6_part_10 : decode cX6_part 10 = .ok (.bipush (-9), 2) := by decide +kernel
theorem dX6_part_12 : decode cX6_part 12 = .ok (.goto 9, 3) := by decide +kernel
theorem dX6_part_15 : decode cX6_part 15 = .ok (.aload_n 0, 1) := by decide +kernel
theorem dX6_part_16 : decode cX6_part 16 = .ok (.getfield 15, 3) := by decide +kernel
theorem dX6_part_19 : decode cX6_part 19 = .ok (.iload_n 1, 1) := by decide +kernel
theorem dX6_part_20 : decode cX6_part 20 = .ok (.iaload, 1) := by decide +kernel
theorem dX6_part_21 : decode cX6_part 21 = .ok (.ireturn, 1) := by decide +kernel
theorem dX6_read_0 : decode cX6_read 0 = .ok (.aload_n 0, 1) := by decide +kernel
theorem dX6_read_1 : decode cX6_read 1 = .ok (.getfield 15, 3) := by decide +kernel
theorem dX6_read_4 : decode cX6_read 4 = .ok (.bipush (-9), 2) := by decide +kernel
theorem dX6_read_6 : decode cX6_read 6 = .ok (.invokestatic 24, 3) := by decide +kernel
theorem dX6_read_9 : decode cX6_read 9 = .ok (.aload_n 0, 1) := by decide +kernel
theorem dX6_read_10 : decode cX6_read 10 = .ok (.iconst 0, 1) := by decide +kernel
theorem dX6_read_11 : decode cX6_read 11 = .ok (.putfield 30, 3) := by decide +kernel
theorem dX6_read_14 : decode cX6_read 14 = .ok (.aload_n 0, 1) := by decide +kernel
theorem dX6_read_15 : decode cX6_read 15 = .ok (.bipush (-9), 2) := by decide +kernel
theorem dX6_read_17 : decode cX6_read 17 = .ok (.putfield 33, 3) := by decide +kernel
theorem dX6_read_20 : decode cX6_read 20 = .ok (.aload_n 0, 1) := by decide +kernel
theorem dX6_read_21 : decode cX6_read 21 = .ok (.invokevirtual 36, 3) := by decide +kernel
theorem dX6_read_24 : decode cX6_read 24 = .ok (.aload_n 0, 1) := by decide +kernel
theorem dX6_read_25 : decode cX6_read 25 = .ok (.invokevirtual 39, 3) := by decide +kernel
theorem dX6_read_28 : decode cX6_read 28 = .ok (.aload_n 0, 1) := by decide +kernel
theorem dX6_read_29 : decode cX6_read 29 = .ok (.invokevirtual 42, 3) := by decide +kernel
theorem dX6_read_32 : decode cX6_read 32 = .ok (.aload_n 0, 1) := by decide +kernel
theorem dX6_read_33 : decode cX6_read 33 = .ok (.getfield 30, 3) := by decide +kernel
theorem dX6_read_36 : decode cX6_read 36 = .ok (.aload_n 0, 1) := by decide +kernel
theorem dX6_read_37 : decode cX6_read 37 = .ok (.getfield 18, 3) := by decide +kernel
theorem dX6_read_40 : decode cX6_read 40 = .ok (.if_icmp .ge 11, 3) := by decide +kernel
theorem dX6_read_43 : decode cX6_read 43 = .ok (.aload_n 0, 1) := by decide +kernel
theorem dX6_read_44 : decode cX6_read 44 = .ok (.aload_n 0, 1) := by decide +kernel
theorem dX6_read_45 : decode cX6_read 45 = .ok (.getfield 30, 3) := by decide +kernel
theorem dX6_read_48 : decode cX6_read 48 = .ok (.invokevirtual 45, 3) := by decide +kernel
theorem dX6_read_51 : decode cX6_read 51 = .ok (.aload_n 0, 1) := by decide +kernel
theorem dX6_read_52 : decode cX6_read 52 = .ok (.getfield 33, 3) := by decide +kernel
theorem dX6_read_55 : decode cX6_read 55 = .ok (.ireturn, 1) := by decide +kernel
theorem dX6_readLetter_0 : decode cX6_readLetter 0 = .ok (.aload_n 0, 1) := by decide +kernel
theorem dX6_readLetter_1 : decode cX6_readLetter 1 = .ok (.invokevirtual 49, 3) := by decide +kernel
theorem dX6_readLetter_4 : decode cX6_readLetter 4 = .ok (.lookupswitch 102 #[(66, 82), (67, 52), (68, 72), (83, 62), (86, 92)], 52) := by decide +kernel
theorem dX6_readLetter_56 : decode cX6_readLetter 56 = .ok (.aload_n 0, 1) := by decide +kernel
theorem dX6_readLetter_57 : decode cX6_readLetter 57 = .ok (.getfield 15, 3) := by decide +kernel
theorem dX6_readLetter_60 : decode cX6_readLetter 60 = .ok (.iconst 0, 1) := by decide +kernel
theorem dX6_readLetter_61 : decode cX6_readLetter 61 = .ok (.iconst 0, 1) := by decide +kernel
theorem dX6_readLetter_62 : decode cX6_readLetter 62 = .ok (.iastore, 1) := by decide +kernel
theorem dX6_readLetter_63 : decode cX6_readLetter 63 = .ok (.goto 52, 3) := by decide +kernel
theorem dX6_readLetter_66 : decode cX6_readLetter 66 = .ok (.aload_n 0, 1) := by decide +kernel
theorem dX6_readLetter_67 : decode cX6_readLetter 67 = .ok (.getfield 15, 3) := by decide +kernel
theorem dX6_readLetter_70 : decode cX6_readLetter 70 = .ok (.iconst 0, 1) := by decide +kernel
theorem dX6_readLetter_71 : decode cX6_readLetter 71 = .ok (.iconst 1, 1) := by decide +kernel
theorem dX6_readLetter_72 : decode cX6_readLetter 72 = .ok (.iastore, 1) := by decide +kernel
theorem dX6_readLetter_73 : decode cX6_readLetter 73 = .ok (.goto 42, 3) := by decide +kernel
theorem dX6_readLetter_76 : decode cX6_readLetter 76 = .ok (.aload_n 0, 1) := by decide +kernel
theorem dX6_readLetter_77 : decode cX6_readLetter 77 = .ok (.getfield 15, 3) := by decide +kernel
theorem dX6_readLetter_80 : decode cX6_readLetter 80 = .ok (.iconst 0, 1) := by decide +kernel
theorem dX6_readLetter_81 : decode cX6_readLetter 81 = .ok (.iconst 2, 1) := by decide +kernel
theorem dX6_readLetter_82 : decode cX6_readLetter 82 = .ok (.iastore, 1) := by decide +kernel
theorem dX6_readLetter_83 : decode cX6_readLetter 83 = .ok (.goto 32, 3) := by decide +kernel
theorem dX6_readLetter_86 : decode cX6_readLetter 86 = .ok (.aload_n 0, 1) := by decide +kernel
theorem dX6_readLetter_87 : decode cX6_readLetter 87 = .ok (.getfield 15, 3) := by decide +kernel
theorem dX6_readLetter_90 : decode cX6_readLetter 90 = .ok (.iconst 0, 1) := by decide +kernel
theorem dX6_readLetter_91 : decode cX6_readLetter 91 = .ok (.iconst 3, 1) := by decide +kernel
theorem dX6_readLetter_92 : decode cX6_readLetter 92 = .ok (.iastore, 1) := by decide +kernel
theorem dX6_readLetter_93 : decode cX6_readLetter 93 = .ok (.goto 22, 3) := by decide +kernel
theorem dX6_readLetter_96 : decode cX6_readLetter 96 = .ok (.aload_n 0, 1) := by decide +kernel
theorem dX6_readLetter_97 : decode cX6_readLetter 97 = .ok (.getfield 15, 3) := by decide +kernel
theorem dX6_readLetter_100 : decode cX6_readLetter 100 = .ok (.iconst 0, 1) := by decide +kernel
theorem dX6_readLetter_101 : decode cX6_readLetter 101 = .ok (.iconst 4, 1) := by decide +kernel
theorem dX6_readLetter_102 : decode cX6_readLetter 102 = .ok (.iastore, 1) := by decide +kernel
theorem dX6_readLetter_103 : decode cX6_readLetter 103 = .ok (.goto 12, 3) := by decide +kernel
theorem dX6_readLetter_106 : decode cX6_readLetter 106 = .ok (.aload_n 0, 1) := by decide +kernel
theorem dX6_readLetter_107 : decode cX6_readLetter 107 = .ok (.aload_n 0, 1) := by decide +kernel
theorem dX6_readLetter_108 : decode cX6_readLetter 108 = .ok (.getfield 30, 3) := by decide +kernel
theorem dX6_readLetter_111 : decode cX6_readLetter 111 = .ok (.invokevirtual 45, 3) := by decide +kernel
theorem dX6_readLetter_114 : decode cX6_readLetter 114 = .ok (.return_, 1) := by decide +kernel
theorem dX6_readLetter_115 : decode cX6_readLetter 115 = .ok (.aload_n 0, 1) := by decide +kernel
theorem dX6_readLetter_116 : decode cX6_readLetter 116 = .ok (.dup, 1) := by decide +kernel
theorem dX6_readLetter_117 : decode cX6_readLetter 117 = .ok (.getfield 30, 3) := by decide +kernel
theorem dX6_readLetter_120 : decode cX6_readLetter 120 = .ok (.iconst 1, 1) := by decide +kernel
theorem dX6_readLetter_121 : decode cX6_readLetter 121 = .ok (.iadd, 1) := by decide +kernel
theorem dX6_readLetter_122 : decode cX6_readLetter 122 = .ok (.putfield 30, 3) := by decide +kernel
theorem dX6_readLetter_125 : decode cX6_readLetter 125 = .ok (.return_, 1) := by decide +kernel
theorem dX6_readNumbers_0 : decode cX6_readNumbers 0 = .ok (.aload_n 0, 1) := by decide +kernel
theorem dX6_readNumbers_1 : decode cX6_readNumbers 1 = .ok (.getfield 15, 3) := by decide +kernel
theorem dX6_readNumbers_4 : decode cX6_readNumbers 4 = .ok (.iconst 0, 1) := by decide +kernel
theorem dX6_readNumbers_5 : decode cX6_readNumbers 5 = .ok (.iaload, 1) := by decide +kernel
theorem dX6_readNumbers_6 : decode cX6_readNumbers 6 = .ok (.iconst 3, 1) := by decide +kernel
theorem dX6_readNumbers_7 : decode cX6_readNumbers 7 = .ok (.if_icmp .ne 16, 3) := by decide +kernel
theorem dX6_readNumbers_10 : decode cX6_readNumbers 10 = .ok (.aload_n 0, 1) := by decide +kernel
theorem dX6_readNumbers_11 : decode cX6_readNumbers 11 = .ok (.getfield 15, 3) := by decide +kernel
theorem dX6_readNumbers_14 : decode cX6_readNumbers 14 = .ok (.iconst 1, 1) := by decide +kernel
theorem dX6_readNumbers_15 : decode cX6_readNumbers 15 = .ok (.aload_n 0, 1) := by decide +kernel
theorem dX6_readNumbers_16 : decode cX6_readNumbers 16 = .ok (.iconst 0, 1) := by decide +kernel
theorem dX6_readNumbers_17 : decode cX6_readNumbers 17 = .ok (.iconst 4, 1) := by decide +kernel
theorem dX6_readNumbers_18 : decode cX6_readNumbers 18 = .ok (.invokevirtual 53, 3) := by decide +kernel
theorem dX6_readNumbers_21 : decode cX6_readNumbers 21 = .ok (.iastore, 1) := by decide +kernel
theorem dX6_readNumbers_22 : decode cX6_readNumbers 22 = .ok (.return_, 1) := by decide +kernel
theorem dX6_readNumbers_23 : decode cX6_readNumbers 23 = .ok (.aload_n 0, 1) := by decide +kernel
theorem dX6_readNumbers_24 : decode cX6_readNumbers 24 = .ok (.getfield 15, 3) := by decide +kernel
theorem dX6_readNumbers_27 : decode cX6_readNumbers 27 = .ok (.iconst 0, 1) := by decide +kernel
theorem dX6_readNumbers_28 : decode cX6_readNumbers 28 = .ok (.iaload, 1) := by decide +kernel
theorem dX6_readNumbers_29 : decode cX6_readNumbers 29 = .ok (.iconst 4, 1) := by decide +kernel
theorem dX6_readNumbers_30 : decode cX6_readNumbers 30 = .ok (.if_icmp .ne 7, 3) := by decide +kernel
theorem dX6_readNumbers_33 : decode cX6_readNumbers 33 = .ok (.iconst 1, 1) := by decide +kernel
theorem dX6_readNumbers_34 : decode cX6_readNumbers 34 = .ok (.goto 4, 3) := by decide +kernel
theorem dX6_readNumbers_37 : decode cX6_readNumbers 37 = .ok (.iconst 0, 1) := by decide +kernel
theorem dX6_readNumbers_38 : decode cX6_readNumbers 38 = .ok (.istore_n 1, 1) := by decide +kernel
theorem dX6_readNumbers_39 : decode cX6_readNumbers 39 = .ok (.aload_n 0, 1) := by decide +kernel
theorem dX6_readNumbers_40 : decode cX6_readNumbers 40 = .ok (.getfield 15, 3) := by decide +kernel
theorem dX6_readNumbers_43 : decode cX6_readNumbers 43 = .ok (.iconst 0, 1) := by decide +kernel
theorem dX6_readNumbers_44 : decode cX6_readNumbers 44 = .ok (.iaload, 1) := by decide +kernel
theorem dX6_readNumbers_45 : decode cX6_readNumbers 45 = .ok (.iconst 2, 1) := by decide +kernel
theorem dX6_readNumbers_46 : decode cX6_readNumbers 46 = .ok (.if_icmp .ne 7, 3) := by decide +kernel
theorem dX6_readNumbers_49 : decode cX6_readNumbers 49 = .ok (.iconst 1, 1) := by decide +kernel
theorem dX6_readNumbers_50 : decode cX6_readNumbers 50 = .ok (.goto 4, 3) := by decide +kernel
theorem dX6_readNumbers_53 : decode cX6_readNumbers 53 = .ok (.iconst 0, 1) := by decide +kernel
theorem dX6_readNumbers_54 : decode cX6_readNumbers 54 = .ok (.istore_n 2, 1) := by decide +kernel
theorem dX6_readNumbers_55 : decode cX6_readNumbers 55 = .ok (.aload_n 0, 1) := by decide +kernel
theorem dX6_readNumbers_56 : decode cX6_readNumbers 56 = .ok (.getfield 15, 3) := by decide +kernel
theorem dX6_readNumbers_59 : decode cX6_readNumbers 59 = .ok (.iconst 1, 1) := by decide +kernel
theorem dX6_readNumbers_60 : decode cX6_readNumbers 60 = .ok (.aload_n 0, 1) := by decide +kernel
theorem dX6_readNumbers_61 : decode cX6_readNumbers 61 = .ok (.iconst 0, 1) := by decide +kernel
theorem dX6_readNumbers_62 : decode cX6_readNumbers 62 = .ok (.iconst 2, 1) := by decide +kernel
theorem dX6_readNumbers_63 : decode cX6_readNumbers 63 = .ok (.invokevirtual 53, 3) := by decide +kernel
theorem dX6_readNumbers_66 : decode cX6_readNumbers 66 = .ok (.iastore, 1) := by decide +kernel
theorem dX6_readNumbers_67 : decode cX6_readNumbers 67 = .ok (.aload_n 0, 1) := by decide +kernel
theorem dX6_readNumbers_68 : decode cX6_readNumbers 68 = .ok (.bipush 44, 2) := by decide +kernel
theorem dX6_readNumbers_70 : decode cX6_readNumbers 70 = .ok (.invokevirtual 57, 3) := by decide +kernel
theorem dX6_readNumbers_73 : decode cX6_readNumbers 73 = .ok (.aload_n 0, 1) := by decide +kernel
theorem dX6_readNumbers_74 : decode cX6_readNumbers 74 = .ok (.getfield 15, 3) := by decide +kernel
theorem dX6_readNumbers_77 : decode cX6_readNumbers 77 = .ok (.iconst 2, 1) := by decide +kernel
theorem dX6_readNumbers_78 : decode cX6_readNumbers 78 = .ok (.iload_n 1, 1) := by decide +kernel
theorem dX6_readNumbers_79 : decode cX6_readNumbers 79 = .ok (.ifCond .eq 12, 3) := by decide +kernel
theorem dX6_readNumbers_82 : decode cX6_readNumbers 82 = .ok (.aload_n 0, 1) := by decide +kernel
theorem dX6_readNumbers_83 : decode cX6_readNumbers 83 = .ok (.iconst 0, 1) := by decide +kernel
theorem dX6_readNumbers_84 : decode cX6_readNumbers 84 = .ok (.iconst 3, 1) := by decide +kernel
theorem dX6_readNumbers_85 : decode cX6_readNumbers 85 = .ok (.invokevirtual 53, 3) := by decide +kernel
theorem dX6_readNumbers_88 : decode cX6_readNumbers 88 = .ok (.goto 10, 3) := by decide +kernel
theorem dX6_readNumbers_91 : decode cX6_readNumbers 91 = .ok (.aload_n 0, 1) := by decide +kernel
theorem dX6_readNumbers_92 : decode cX6_readNumbers 92 = .ok (.iconst 1, 1) := by decide +kernel
theorem dX6_readNumbers_93 : decode cX6_readNumbers 93 = .ok (.bipush 99, 2) := by decide +kernel
theorem dX6_readNumbers_95 : decode cX6_readNumbers 95 = .ok (.invokevirtual 53, 3) := by decide +kernel
theorem dX6_readNumbers_98 : decode cX6_readNumbers 98 = .ok (.iastore, 1) := by decide +kernel
theorem dX6_readNumbers_99 : decode cX6_readNumbers 99 = .ok (.aload_n 0, 1) := by decide +kernel
theorem dX6_readNumbers_100 : decode cX6_readNumbers 100 = .ok (.bipush 44, 2) := by decide +kernel
theorem dX6_readNumbers_102 : decode cX6_readNumbers 102 = .ok (.invokevirtual 57, 3) := by decide +kernel
theorem dX6_readNumbers_105 : decode cX6_readNumbers 105 = .ok (.iload_n 1, 1) := by decide +kernel
theorem dX6_readNumbers_106 : decode cX6_readNumbers 106 = .ok (.ifCond .eq 19, 3) := by decide +kernel
theorem dX6_readNumbers_109 : decode cX6_readNumbers 109 = .ok (.aload_n 0, 1) := by decide +kernel
theorem dX6_readNumbers_110 : decode cX6_readNumbers 110 = .ok (.getfield 15, 3) := by decide +kernel
theorem dX6_readNumbers_113 : decode cX6_readNumbers 113 = .ok (.iconst 3, 1) := by decide +kernel
theorem dX6_readNumbers_114 : decode cX6_readNumbers 114 = .ok (.aload_n 0, 1) := by decide +kernel
theorem dX6_readNumbers_115 : decode cX6_readNumbers 115 = .ok (.iconst 1, 1) := by decide +kernel
theorem dX6_readNumbers_116 : decode cX6_readNumbers 116 = .ok (.bipush 99, 2) := by decide +kernel
theorem dX6_readNumbers_118 : decode cX6_readNumbers 118 = .ok (.invokevirtual 53, 3) := by decide +kernel
theorem dX6_readNumbers_121 : decode cX6_readNumbers 121 = .ok (.iastore, 1) := by decide +kernel
theorem dX6_readNumbers_122 : decode cX6_readNumbers 122 = .ok (.goto 23, 3) := by decide +kernel
theorem dX6_readNumbers_125 : decode cX6_readNumbers 125 = .ok (.aload_n 0, 1) := by decide +kernel
theorem dX6_readNumbers_126 : decode cX6_readNumbers 126 = .ok (.getfield 15, 3) := by decide +kernel
theorem dX6_readNumbers_129 : decode cX6_readNumbers 129 = .ok (.iconst 3, 1) := by decide +kernel
theorem dX6_readNumbers_130 : decode cX6_readNumbers 130 = .ok (.aload_n 0, 1) := by decide +kernel
theorem dX6_readNumbers_131 : decode cX6_readNumbers 131 = .ok (.iconst 0, 1) := by decide +kernel
theorem dX6_readNumbers_132 : decode cX6_readNumbers 132 = .ok (.iload_n 2, 1) := by decide +kernel
theorem dX6_readNumbers_133 : decode cX6_readNumbers 133 = .ok (.ifCond .eq 7, 3) := by decide +kernel
theorem dX6_readNumbers_136 : decode cX6_readNumbers 136 = .ok (.iconst 3, 1) := by decide +kernel
theorem dX6_readNumbers_137 : decode cX6_readNumbers 137 = .ok (.goto 4, 3) := by decide +kernel
theorem dX6_readNumbers_140 : decode cX6_readNumbers 140 = .ok (.iconst 4, 1) := by decide +kernel
theorem dX6_readNumbers_141 : decode cX6_readNumbers 141 = .ok (.invokevirtual 53, 3) := by decide +kernel
theorem dX6_readNumbers_144 : decode cX6_readNumbers 144 = .ok (.iastore, 1) := by decide +kernel
theorem dX6_readNumbers_145 : decode cX6_readNumbers 145 = .ok (.iload_n 2, 1) := by decide +kernel
theorem dX6_readNumbers_146 : decode cX6_readNumbers 146 = .ok (.ifCond .eq 13, 3) := by decide +kernel
theorem dX6_readNumbers_149 : decode cX6_readNumbers 149 = .ok (.aload_n 0, 1) := by decide +kernel
theorem dX6_readNumbers_150 : decode cX6_readNumbers 150 = .ok (.getfield 15, 3) := by decide +kernel
theorem dX6_readNumbers_153 : decode cX6_readNumbers 153 = .ok (.iconst 4, 1) := by decide +kernel
theorem dX6_readNumbers_154 : decode cX6_readNumbers 154 = .ok (.aload_n 0, 1) := by decide +kernel
theorem dX6_readNumbers_155 : decode cX6_readNumbers 155 = .ok (.invokevirtual 60, 3) := by decide +kernel
theorem dX6_readNumbers_158 : decode cX6_readNumbers 158 = .ok (.iastore, 1) := by decide +kernel
theorem dX6_readNumbers_159 : decode cX6_readNumbers 159 = .ok (.return_, 1) := by decide +kernel
theorem dX6_readCondition_0 : decode cX6_readCondition 0 = .ok (.aload_n 0, 1) := by decide +kernel
theorem dX6_readCondition_1 : decode cX6_readCondition 1 = .ok (.getfield 30, 3) := by decide +kernel
theorem dX6_readCondition_4 : decode cX6_readCondition 4 = .ok (.aload_n 0, 1) := by decide +kernel
theorem dX6_readCondition_5 : decode cX6_readCondition 5 = .ok (.getfield 18, 3) := by decide +kernel
theorem dX6_readCondition_8 : decode cX6_readCondition 8 = .ok (.if_icmp .lt 4, 3) := by decide +kernel
theorem dX6_readCondition_11 : decode cX6_readCondition 11 = .ok (.return_, 1) := by decide +kernel
theorem dX6_readCondition_12 : decode cX6_readCondition 12 = .ok (.aload_n 0, 1) := by decide +kernel
theorem dX6_readCondition_13 : decode cX6_readCondition 13 = .ok (.bipush 63, 2) := by decide +kernel
theorem dX6_readCondition_15 : decode cX6_readCondition 15 = .ok (.invokevirtual 57, 3) := by decide +kernel
theorem dX6_readCondition_18 : decode cX6_readCondition 18 = .ok (.aload_n 0, 1) := by decide +kernel
theorem dX6_readCondition_19 : decode cX6_readCondition 19 = .ok (.invokevirtual 49, 3) := by decide +kernel
theorem dX6_readCondition_22 : decode cX6_readCondition 22 = .ok (.bipush 61, 2) := by decide +kernel
theorem dX6_readCondition_24 : decode cX6_readCondition 24 = .ok (.if_icmp .ne 45, 3) := by decide +kernel
theorem dX6_readCondition_27 : decode cX6_readCondition 27 = .ok (.aload_n 0, 1) := by decide +kernel
theorem dX6_readCondition_28 : decode cX6_readCondition 28 = .ok (.bipush 61, 2) := by decide +kernel
theorem dX6_readCondition_30 : decode cX6_readCondition 30 = .ok (.invokevirtual 57, 3) := by decide +kernel
theorem dX6_readCondition_33 : decode cX6_readCondition 33 = .ok (.aload_n 0, 1) := by decide +kernel
theorem dX6_readCondition_34 : decode cX6_readCondition 34 = .ok (.iconst 0, 1) := by decide +kernel
theorem dX6_readCondition_35 : decode cX6_readCondition 35 = .ok (.iconst 4, 1) := by decide +kernel
theorem dX6_readCondition_36 : decode cX6_readCondition 36 = .ok (.invokevirtual 53, 3) := by decide +kernel
theorem dX6_readCondition_39 : decode cX6_readCondition 39 = .ok (.istore_n 1, 1) := by decide +kernel
theorem dX6_readCondition_40 : decode cX6_readCondition 40 = .ok (.aload_n 0, 1) := by decide +kernel
theorem dX6_readCondition_41 : decode cX6_readCondition 41 = .ok (.bipush 44, 2) := by decide +kernel
theorem dX6_readCondition_43 : decode cX6_readCondition 43 = .ok (.invokevirtual 57, 3) := by decide +kernel
theorem dX6_readCondition_46 : decode cX6_readCondition 46 = .ok (.aload_n 0, 1) := by decide +kernel
theorem dX6_readCondition_47 : decode cX6_readCondition 47 = .ok (.getfield 15, 3) := by decide +kernel
theorem dX6_readCondition_50 : decode cX6_readCondition 50 = .ok (.iconst 5, 1) := by decide +kernel
theorem dX6_readCondition_51 : decode cX6_readCondition 51 = .ok (.bipush 100, 2) := by decide +kernel
theorem dX6_readCondition_53 : decode cX6_readCondition 53 = .ok (.bipush 10, 2) := by decide +kernel
theorem dX6_readCondition_55 : decode cX6_readCondition 55 = .ok (.iload_n 1, 1) := by decide +kernel
theorem dX6_readCondition_56 : decode cX6_readCondition 56 = .ok (.imul, 1) := by decide +kernel
theorem dX6_readCondition_57 : decode cX6_readCondition 57 = .ok (.iadd, 1) := by decide +kernel
theorem dX6_readCondition_58 : decode cX6_readCondition 58 = .ok (.aload_n 0, 1) := by decide +kernel
theorem dX6_readCondition_59 : decode cX6_readCondition 59 = .ok (.iconst 0, 1) := by decide +kernel
theorem dX6_readCondition_60 : decode cX6_readCondition 60 = .ok (.iconst 3, 1) := by decide +kernel
theorem dX6_readCondition_61 : decode cX6_readCondition 61 = .ok (.invokevirtual 53, 3) := by decide +kernel
theorem dX6_readCondition_64 : decode cX6_readCondition 64 = .ok (.iadd, 1) := by decide +kernel
theorem dX6_readCondition_65 : decode cX6_readCondition 65 = .ok (.iastore, 1) := by decide +kernel
theorem dX6_readCondition_66 : decode cX6_readCondition 66 = .ok (.goto 25, 3) := by decide +kernel
theorem dX6_readCondition_69 : decode cX6_readCondition 69 = .ok (.aload_n 0, 1) := by decide +kernel
theorem dX6_readCondition_70 : decode cX6_readCondition 70 = .ok (.iconst 0, 1) := by decide +kernel
theorem dX6_readCondition_71 : decode cX6_readCondition 71 = .ok (.iconst 3, 1) := by decide +kernel
theorem dX6_readCondition_72 : decode cX6_readCondition 72 = .ok (.invokevirtual 53, 3) := by decide +kernel
theorem dX6_readCondition_75 : decode cX6_readCondition 75 = .ok (.istore_n 1, 1) := by decide +kernel
theorem dX6_readCondition_76 : decode cX6_readCondition 76 = .ok (.aload_n 0, 1) := by decide +kernel
theorem dX6_readCondition_77 : decode cX6_readCondition 77 = .ok (.getfield 15, 3) := by decide +kernel
theorem dX6_readCondition_80 : decode cX6_readCondition 80 = .ok (.iconst 5, 1) := by decide +kernel
theorem dX6_readCondition_81 : decode cX6_readCondition 81 = .ok (.bipush 10, 2) := by decide +kernel
theorem dX6_readCondition_83 : decode cX6_readCondition 83 = .ok (.iload_n 1, 1) := by decide +kernel
theorem dX6_readCondition_84 : decode cX6_readCondition 84 = .ok (.imul, 1) := by decide +kernel
theorem dX6_readCondition_85 : decode cX6_readCondition 85 = .ok (.aload_n 0, 1) := by decide +kernel
theorem dX6_readCondition_86 : decode cX6_readCondition 86 = .ok (.invokevirtual 60, 3) := by decide +kernel
theorem dX6_readCondition_89 : decode cX6_readCondition 89 = .ok (.iadd, 1) := by decide +kernel
theorem dX6_readCondition_90 : decode cX6_readCondition 90 = .ok (.iastore, 1) := by decide +kernel
theorem dX6_readCondition_91 : decode cX6_readCondition 91 = .ok (.return_, 1) := by decide +kernel
theorem dX6_readSign_0 : decode cX6_readSign 0 = .ok (.aload_n 0, 1) := by decide +kernel
theorem dX6_readSign_1 : decode cX6_readSign 1 = .ok (.invokevirtual 49, 3) := by decide +kernel
theorem dX6_readSign_4 : decode cX6_readSign 4 = .ok (.iload_n 1, 1) := by decide +kernel
theorem dX6_readSign_5 : decode cX6_readSign 5 = .ok (.if_icmp .ne 16, 3) := by decide +kernel
theorem dX6_readSign_8 : decode cX6_readSign 8 = .ok (.aload_n 0, 1) := by decide +kernel
theorem dX6_readSign_9 : decode cX6_readSign 9 = .ok (.dup, 1) := by decide +kernel
theorem dX6_readSign_10 : decode cX6_readSign 10 = .ok (.getfield 30, 3) := by decide +kernel
theorem dX6_readSign_13 : decode cX6_readSign 13 = .ok (.iconst 1, 1) := by decide +kernel
theorem dX6_readSign_14 : decode cX6_readSign 14 = .ok (.iadd, 1) := by decide +kernel
theorem dX6_readSign_15 : decode cX6_readSign 15 = .ok (.putfield 30, 3) := by decide +kernel
theorem dX6_readSign_18 : decode cX6_readSign 18 = .ok (.goto 11, 3) := by decide +kernel
theorem dX6_readSign_21 : decode cX6_readSign 21 = .ok (.aload_n 0, 1) := by decide +kernel
theorem dX6_readSign_22 : decode cX6_readSign 22 = .ok (.aload_n 0, 1) := by decide +kernel
theorem dX6_readSign_23 : decode cX6_readSign 23 = .ok (.getfield 30, 3) := by decide +kernel
theorem dX6_readSign_26 : decode cX6_readSign 26 = .ok (.invokevirtual 45, 3) := by decide +kernel
theorem dX6_readSign_29 : decode cX6_readSign 29 = .ok (.return_, 1) := by decide +kernel
theorem dX6_readPlusOrMinus_0 : decode cX6_readPlusOrMinus 0 = .ok (.aload_n 0, 1) := by decide +kernel
theorem dX6_readPlusOrMinus_1 : decode cX6_readPlusOrMinus 1 = .ok (.invokevirtual 49, 3) := by decide +kernel
theorem dX6_readPlusOrMinus_4 : decode cX6_readPlusOrMinus 4 = .ok (.istore_n 1, 1) := by decide +kernel
theorem dX6_readPlusOrMinus_5 : decode cX6_readPlusOrMinus 5 = .ok (.iload_n 1, 1) := by decide +kernel
theorem dX6_readPlusOrMinus_6 : decode cX6_readPlusOrMinus 6 = .ok (.bipush 43, 2) := by decide +kernel
theorem dX6_readPlusOrMinus_8 : decode cX6_readPlusOrMinus 8 = .ok (.if_icmp .eq 19, 3) := by decide +kernel
theorem dX6_readPlusOrMinus_11 : decode cX6_readPlusOrMinus 11 = .ok (.iload_n 1, 1) := by decide +kernel
theorem dX6_readPlusOrMinus_12 : decode cX6_readPlusOrMinus 12 = .ok (.bipush 45, 2) := by decide +kernel
theorem dX6_readPlusOrMinus_14 : decode cX6_readPlusOrMinus 14 = .ok (.if_icmp .eq 13, 3) := by decide +kernel
theorem dX6_readPlusOrMinus_17 : decode cX6_readPlusOrMinus 17 = .ok (.aload_n 0, 1) := by decide +kernel
theorem dX6_readPlusOrMinus_18 : decode cX6_readPlusOrMinus 18 = .ok (.aload_n 0, 1) := by decide +kernel
theorem dX6_readPlusOrMinus_19 : decode cX6_readPlusOrMinus 19 = .ok (.getfield 30, 3) := by decide +kernel
theorem dX6_readPlusOrMinus_22 : decode cX6_readPlusOrMinus 22 = .ok (.invokevirtual 45, 3) := by decide +kernel
theorem dX6_readPlusOrMinus_25 : decode cX6_readPlusOrMinus 25 = .ok (.iconst 0, 1) := by decide +kernel
theorem dX6_readPlusOrMinus_26 : decode cX6_readPlusOrMinus 26 = .ok (.ireturn, 1) := by decide +kernel
theorem dX6_readPlusOrMinus_27 : decode cX6_readPlusOrMinus 27 = .ok (.aload_n 0, 1) := by decide +kernel
theorem dX6_readPlusOrMinus_28 : decode cX6_readPlusOrMinus 28 = .ok (.dup, 1) := by decide +kernel
theorem dX6_readPlusOrMinus_29 : decode cX6_readPlusOrMinus 29 = .ok (.getfield 30, 3) := by decide +kernel
theorem dX6_readPlusOrMinus_32 : decode cX6_readPlusOrMinus 32 = .ok (.iconst 1, 1) := by decide +kernel
theorem dX6_readPlusOrMinus_33 : decode cX6_readPlusOrMinus 33 = .ok (.iadd, 1) := by decide +kernel
theorem dX6_readPlusOrMinus_34 : decode cX6_readPlusOrMinus 34 = .ok (.putfield 30, 3) := by decide +kernel
theorem dX6_readPlusOrMinus_37 : decode cX6_readPlusOrMinus 37 = .ok (.iload_n 1, 1) := by decide +kernel
theorem dX6_readPlusOrMinus_38 : decode cX6_readPlusOrMinus 38 = .ok (.bipush 43, 2) := by decide +kernel
theorem dX6_readPlusOrMinus_40 : decode cX6_readPlusOrMinus 40 = .ok (.if_icmp .ne 7, 3) := by decide +kernel
theorem dX6_readPlusOrMinus_43 : decode cX6_readPlusOrMinus 43 = .ok (.iconst 1, 1) := by decide +kernel
theorem dX6_readPlusOrMinus_44 : decode cX6_readPlusOrMinus 44 = .ok (.goto 4, 3) := by decide +kernel
theorem dX6_readPlusOrMinus_47 : decode cX6_readPlusOrMinus 47 = .ok (.iconst 0, 1) := by decide +kernel
theorem dX6_readPlusOrMinus_48 : decode cX6_readPlusOrMinus 48 = .ok (.ireturn, 1) := by decide +kernel
theorem dX6_readNumber_0 : decode cX6_readNumber 0 = .ok (.aload_n 0, 1) := by decide +kernel
theorem dX6_readNumber_1 : decode cX6_readNumber 1 = .ok (.getfield 30, 3) := by decide +kernel
theorem dX6_readNumber_4 : decode cX6_readNumber 4 = .ok (.istore_n 3, 1) := by decide +kernel
theorem dX6_readNumber_5 : decode cX6_readNumber 5 = .ok (.iconst 0, 1) := by decide +kernel
theorem dX6_readNumber_6 : decode cX6_readNumber 6 = .ok (.istore 4, 2) := by decide +kernel
theorem dX6_readNumber_8 : decode cX6_readNumber 8 = .ok (.iconst 0, 1) := by decide +kernel
theorem dX6_readNumber_9 : decode cX6_readNumber 9 = .ok (.istore 5, 2) := by decide +kernel
theorem dX6_readNumber_11 : decode cX6_readNumber 11 = .ok (.iload 5, 2) := by decide +kernel
theorem dX6_readNumber_13 : decode cX6_readNumber 13 = .ok (.iconst 2, 1) := by decide +kernel
theorem dX6_readNumber_14 : decode cX6_readNumber 14 = .ok (.if_icmp .ge 60, 3) := by decide +kernel
theorem dX6_readNumber_17 : decode cX6_readNumber 17 = .ok (.aload_n 0, 1) := by decide +kernel
theorem dX6_readNumber_18 : decode cX6_readNumber 18 = .ok (.invokevirtual 49, 3) := by decide +kernel
theorem dX6_readNumber_21 : decode cX6_readNumber 21 = .ok (.invokestatic 63, 3) := by decide +kernel
theorem dX6_readNumber_24 : decode cX6_readNumber 24 = .ok (.ifCond .eq 50, 3) := by decide +kernel
theorem dX6_readNumber_27 : decode cX6_readNumber 27 = .ok (.bipush 10, 2) := by decide +kernel
theorem dX6_readNumber_29 : decode cX6_readNumber 29 = .ok (.iload 4, 2) := by decide +kernel
theorem dX6_readNumber_31 : decode cX6_readNumber 31 = .ok (.imul, 1) := by decide +kernel
theorem dX6_readNumber_32 : decode cX6_readNumber 32 = .ok (.aload_n 0, 1) := by decide +kernel
theorem dX6_readNumber_33 : decode cX6_readNumber 33 = .ok (.invokevirtual 49, 3) := by decide +kernel
theorem dX6_readNumber_36 : decode cX6_readNumber 36 = .ok (.iadd, 1) := by decide +kernel
theorem dX6_readNumber_37 : decode cX6_readNumber 37 = .ok (.bipush 48, 2) := by decide +kernel
theorem dX6_readNumber_39 : decode cX6_readNumber 39 = .ok (.isub, 1) := by decide +kernel
theorem dX6_readNumber_40 : decode cX6_readNumber 40 = .ok (.istore 4, 2) := by decide +kernel
theorem dX6_readNumber_42 : decode cX6_readNumber 42 = .ok (.iload 4, 2) := by decide +kernel
theorem dX6_readNumber_44 : decode cX6_readNumber 44 = .ok (.iload_n 2, 1) := by decide +kernel
theorem dX6_readNumber_45 : decode cX6_readNumber 45 = .ok (.if_icmp .le 13, 3) := by decide +kernel
theorem dX6_readNumber_48 : decode cX6_readNumber 48 = .ok (.aload_n 0, 1) := by decide +kernel
theorem dX6_readNumber_49 : decode cX6_readNumber 49 = .ok (.aload_n 0, 1) := by decide +kernel
theorem dX6_readNumber_50 : decode cX6_readNumber 50 = .ok (.getfield 30, 3) := by decide +kernel
theorem dX6_readNumber_53 : decode cX6_readNumber 53 = .ok (.invokevirtual 45, 3) := by decide +kernel
theorem dX6_readNumber_56 : decode cX6_readNumber 56 = .ok (.iconst 0, 1) := by decide +kernel
theorem dX6_readNumber_57 : decode cX6_readNumber 57 = .ok (.ireturn, 1) := by decide +kernel
theorem dX6_readNumber_58 : decode cX6_readNumber 58 = .ok (.aload_n 0, 1) := by decide +kernel
theorem dX6_readNumber_59 : decode cX6_readNumber 59 = .ok (.dup, 1) := by decide +kernel
theorem dX6_readNumber_60 : decode cX6_readNumber 60 = .ok (.getfield 30, 3) := by decide +kernel
theorem dX6_readNumber_63 : decode cX6_readNumber 63 = .ok (.iconst 1, 1) := by decide +kernel
theorem dX6_readNumber_64 : decode cX6_readNumber 64 = .ok (.iadd, 1) := by decide +kernel
theorem dX6_readNumber_65 : decode cX6_readNumber 65 = .ok (.putfield 30, 3) := by decide +kernel
theorem dX6_readNumber_68 : decode cX6_readNumber 68 = .ok (.iinc 5 1, 3) := by decide +kernel
theorem dX6_readNumber_71 : decode cX6_readNumber 71 = .ok (.goto (-60), 3) := by decide +kernel
theorem dX6_readNumber_74 : decode cX6_readNumber 74 = .ok (.aload_n 0, 1) := by decide +kernel
theorem dX6_readNumber_75 : decode cX6_readNumber 75 = .ok (.getfield 30, 3) := by decide +kernel
theorem dX6_readNumber_78 : decode cX6_readNumber 78 = .ok (.iload_n 3, 1) := by decide +kernel
theorem dX6_readNumber_79 : decode cX6_readNumber 79 = .ok (.if_icmp .ne 14, 3) := by decide +kernel
theorem dX6_readNumber_82 : decode cX6_readNumber 82 = .ok (.aload_n 0, 1) := by decide +kernel
theorem dX6_readNumber_83 : decode cX6_readNumber 83 = .ok (.aload_n 0, 1) := by decide +kernel
theorem dX6_readNumber_84 : decode cX6_readNumber 84 = .ok (.getfield 30, 3) := by decide +kernel
theorem dX6_readNumber_87 : decode cX6_readNumber 87 = .ok (.invokevirtual 45, 3) := by decide +kernel
theorem dX6_readNumber_90 : decode cX6_readNumber 90 = .ok (.goto 42, 3) := by decide +kernel
theorem dX6_readNumber_93 : decode cX6_readNumber 93 = .ok (.iload 4, 2) := by decide +kernel
theorem dX6_readNumber_95 : decode cX6_readNumber 95 = .ok (.iload_n 1, 1) := by decide +kernel
theorem dX6_readNumber_96 : decode cX6_readNumber 96 = .ok (.if_icmp .ge 36, 3) := by decide +kernel
theorem dX6_readNumber_99 : decode cX6_readNumber 99 = .ok (.aload_n 0, 1) := by decide +kernel
theorem dX6_readNumber_100 : decode cX6_readNumber 100 = .ok (.aload_n 0, 1) := by decide +kernel
theorem dX6_readNumber_101 : decode cX6_readNumber 101 = .ok (.getfield 30, 3) := by decide +kernel
theorem dX6_readNumber_104 : decode cX6_readNumber 104 = .ok (.iload_n 3, 1) := by decide +kernel
theorem dX6_readNumber_105 : decode cX6_readNumber 105 = .ok (.iconst 1, 1) := by decide +kernel
theorem dX6_readNumber_106 : decode cX6_readNumber 106 = .ok (.iadd, 1) := by decide +kernel
theorem dX6_readNumber_107 : decode cX6_readNumber 107 = .ok (.if_icmp .ne 21, 3) := by decide +kernel
theorem dX6_readNumber_110 : decode cX6_readNumber 110 = .ok (.aload_n 0, 1) := by decide +kernel
theorem dX6_readNumber_111 : decode cX6_readNumber 111 = .ok (.getfield 30, 3) := by decide +kernel
theorem dX6_readNumber_114 : decode cX6_readNumber 114 = .ok (.aload_n 0, 1) := by decide +kernel
theorem dX6_readNumber_115 : decode cX6_readNumber 115 = .ok (.getfield 18, 3) := by decide +kernel
theorem dX6_readNumber_118 : decode cX6_readNumber 118 = .ok (.if_icmp .lt 10, 3) := by decide +kernel
theorem dX6_readNumber_121 : decode cX6_readNumber 121 = .ok (.aload_n 0, 1) := by decide +kernel
theorem dX6_readNumber_122 : decode cX6_readNumber 122 = .ok (.getfield 30, 3) := by decide +kernel
theorem dX6_readNumber_125 : decode cX6_readNumber 125 = .ok (.goto 4, 3) := by decide +kernel
theorem dX6_readNumber_128 : decode cX6_readNumber 128 = .ok (.iload_n 3, 1) := by decide +kernel
theorem dX6_readNumber_129 : decode cX6_readNumber 129 = .ok (.invokevirtual 45, 3) := by decide +kernel
theorem dX6_readNumber_132 : decode cX6_readNumber 132 = .ok (.iload 4, 2) := by decide +kernel
theorem dX6_readNumber_134 : decode cX6_readNumber 134 = .ok (.ireturn, 1) := by decide +kernel
theorem dX6_isFigure_0 : decode cX6_isFigure 0 = .ok (.iload_n 0, 1) := by decide +kernel
theorem dX6_isFigure_1 : decode cX6_isFigure 1 = .ok (.bipush 48, 2) := by decide +kernel
theorem dX6_isFigure_3 : decode cX6_isFigure 3 = .ok (.if_icmp .lt 13, 3) := by decide +kernel
theorem dX6_isFigure_6 : decode cX6_isFigure 6 = .ok (.iload_n 0, 1) := by decide +kernel
theorem dX6_isFigure_7 : decode cX6_isFigure 7 = .ok (.bipush 57, 2) := by decide +kernel
theorem dX6_isFigure_9 : decode cX6_isFigure 9 = .ok (.if_icmp .gt 7, 3) := by decide +kernel
theorem dX6_isFigure_12 : decode cX6_isFigure 12 = .ok (.iconst 1, 1) := by decide +kernel
theorem dX6_isFigure_13 : decode cX6_isFigure 13 = .ok (.goto 4, 3) := by decide +kernel
theorem dX6_isFigure_16 : decode cX6_isFigure 16 = .ok (.iconst 0, 1) := by decide +kernel
theorem dX6_isFigure_17 : decode cX6_isFigure 17 = .ok (.ireturn, 1) := by decide +kernel
theorem dX6_next_0 : decode cX6_next 0 = .ok (.aload_n 0, 1) := by decide +kernel
theorem dX6_next_1 : decode cX6_next 1 = .ok (.getfield 30, 3) := by decide +kernel
theorem dX6_next_4 : decode cX6_next 4 = .ok (.ifCond .lt 23, 3) := by decide +kernel
theorem dX6_next_7 : decode cX6_next 7 = .ok (.aload_n 0, 1) := by decide +kernel
theorem dX6_next_8 : decode cX6_next 8 = .ok (.getfield 30, 3) := by decide +kernel
theorem dX6_next_11 : decode cX6_next 11 = .ok (.aload_n 0, 1) := by decide +kernel
theorem dX6_next_12 : decode cX6_next 12 = .ok (.getfield 18, 3) := by decide +kernel
theorem dX6_next_15 : decode cX6_next 15 = .ok (.if_icmp .ge 12, 3) := by decide +kernel
theorem dX6_next_18 : decode cX6_next 18 = .ok (.aload_n 0, 1) := by decide +kernel
theorem dX6_next_19 : decode cX6_next 19 = .ok (.getfield 30, 3) := by decide +kernel
theorem dX6_next_22 : decode cX6_next 22 = .ok (.bipush 20, 2) := by decide +kernel
theorem dX6_next_24 : decode cX6_next 24 = .ok (.if_icmp .lt 7, 3) := by decide +kernel
theorem dX6_next_27 : decode cX6_next 27 = .ok (.iconst (-1), 1) := by decide +kernel
theorem dX6_next_28 : decode cX6_next 28 = .ok (.goto 12, 3) := by decide +kernel
theorem dX6_next_31 : decode cX6_next 31 = .ok (.aload_n 0, 1) := by decide +kernel
theorem dX6_next_32 : decode cX6_next 32 = .ok (.getfield 11, 3) := by decide +kernel
theorem dX6_next_35 : decode cX6_next 35 = .ok (.aload_n 0, 1) := by decide +kernel
theorem dX6_next_36 : decode cX6_next 36 = .ok (.getfield 30, 3) := by decide +kernel
theorem dX6_next_39 : decode cX6_next 39 = .ok (.iaload, 1) := by decide +kernel
theorem dX6_next_40 : decode cX6_next 40 = .ok (.ireturn, 1) := by decide +kernel
theorem dX6_failAt_0 : decode cX6_failAt 0 = .ok (.aload_n 0, 1) := by decide +kernel
theorem dX6_failAt_1 : decode cX6_failAt 1 = .ok (.getfield 33, 3) := by decide +kernel
theorem dX6_failAt_4 : decode cX6_failAt 4 = .ok (.bipush (-9), 2) := by decide +kernel
theorem dX6_failAt_6 : decode cX6_failAt 6 = .ok (.if_icmp .ne 8, 3) := by decide +kernel
theorem dX6_failAt_9 : decode cX6_failAt 9 = .ok (.aload_n 0, 1) := by decide +kernel
theorem dX6_failAt_10 : decode cX6_failAt 10 = .ok (.iload_n 1, 1) := by decide +kernel
theorem dX6_failAt_11 : decode cX6_failAt 11 = .ok (.putfield 33, 3) := by decide +kernel
theorem dX6_failAt_14 : decode cX6_failAt 14 = .ok (.return_, 1) := by decide +kernel
theorem dX7_init_0 : decode cX7_init 0 = .ok (.aload_n 0, 1) := by decide +kernel
theorem dX7_init_1 : decode cX7_init 1 = .ok (.invokespecial 3, 3) := by decide +kernel
theorem dX7_init_4 : decode cX7_init 4 = .ok (.aload_n 0, 1) := by decide +kernel
theorem dX7_init_5 : decode cX7_init 5 = .ok (.new 9, 3) := by decide +kernel
theorem dX7_init_8 : decode cX7_init 8 = .ok (.dup, 1) := by decide +kernel
theorem dX7_init_9 : decode cX7_init 9 = .ok (.invokespecial 11, 3) := by decide +kernel
theorem dX7_init_12 : decode cX7_init 12 = .ok (.putfield 12, 3) := by decide +kernel
theorem dX7_init_15 : decode cX7_init 15 = .ok (.aload_n 0, 1) := by decide +kernel
theorem dX7_init_16 : decode cX7_init 16 = .ok (.new 16, 3) := by decide +kernel
theorem dX7_init_19 : decode cX7_init 19 = .ok (.dup, 1) := by decide +kernel
theorem dX7_init_20 : decode cX7_init 20 = .ok (.invokespecial 18, 3) := by decide +kernel
theorem dX7_init_23 : decode cX7_init 23 = .ok (.putfield 19, 3) := by decide +kernel
theorem dX7_init_26 : decode cX7_init 26 = .ok (.aload_n 0, 1) := by decide +kernel
theorem dX7_init_27 : decode cX7_init 27 = .ok (.new 23, 3) := by decide +kernel
theorem dX7_init_30 : decode cX7_init 30 = .ok (.dup, 1) := by decide +kernel
theorem dX7_init_31 : decode cX7_init 31 = .ok (.aload_n 0, 1) := by decide +kernel
theorem dX7_init_32 : decode cX7_init 32 = .ok (.getfield 19, 3) := by decide +kernel
theorem dX7_init_35 : decode cX7_init 35 = .ok (.invokespecial 25, 3) := by decide +kernel
theorem dX7_init_38 : decode cX7_init 38 = .ok (.putfield 28, 3) := by decide +kernel
theorem dX7_init_41 : decode cX7_init 41 = .ok (.aload_n 0, 1) := by decide +kernel
theorem dX7_init_42 : decode cX7_init 42 = .ok (.new 23, 3) := by decide +kernel
theorem dX7_init_45 : decode cX7_init 45 = .ok (.dup, 1) := by decide +kernel
theorem dX7_init_46 : decode cX7_init 46 = .ok (.aload_n 0, 1) := by decide +kernel
theorem dX7_init_47 : decode cX7_init 47 = .ok (.getfield 19, 3) := by decide +kernel
theorem dX7_init_50 : decode cX7_init 50 = .ok (.invokespecial 25, 3) := by decide +kernel
theorem dX7_init_53 : decode cX7_init 53 = .ok (.putfield 32, 3) := by decide +kernel
theorem dX7_init_56 : decode cX7_init 56 = .ok (.aload_n 0, 1) := by decide +kernel
theorem dX7_init_57 : decode cX7_init 57 = .ok (.new 35, 3) := by decide +kernel
theorem dX7_init_60 : decode cX7_init 60 = .ok (.dup, 1) := by decide +kernel
theorem dX7_init_61 : decode cX7_init 61 = .ok (.invokespecial 37, 3) := by decide +kernel
theorem dX7_init_64 : decode cX7_init 64 = .ok (.putfield 38, 3) := by decide +kernel
theorem dX7_init_67 : decode cX7_init 67 = .ok (.aload_n 0, 1) := by decide +kernel
theorem dX7_init_68 : decode cX7_init 68 = .ok (.bipush 20, 2) := by decide +kernel
theorem dX7_init_70 : decode cX7_init 70 = .ok (.newarray .int, 2) := by decide +kernel
theorem dX7_init_72 : decode cX7_init 72 = .ok (.putfield 42, 3) := by decide +kernel
theorem dX7_init_75 : decode cX7_init 75 = .ok (.aload_n 0, 1) := by decide +kernel
theorem dX7_init_76 : decode cX7_init 76 = .ok (.bipush 20, 2) := by decide +kernel
theorem dX7_init_78 : decode cX7_init 78 = .ok (.newarray .int, 2) := by decide +kernel
theorem dX7_init_80 : decode cX7_init 80 = .ok (.putfield 46, 3) := by decide +kernel
theorem dX7_init_83 : decode cX7_init 83 = .ok (.aload_n 0, 1) := by decide +kernel
theorem dX7_init_84 : decode cX7_init 84 = .ok (.iconst 3, 1) := by decide +kernel
theorem dX7_init_85 : decode cX7_init 85 = .ok (.newarray .int, 2) := by decide +kernel
theorem dX7_init_87 : decode cX7_init 87 = .ok (.putfield 49, 3) := by decide +kernel
theorem dX7_init_90 : decode cX7_init 90 = .ok (.aload_n 0, 1) := by decide +kernel
theorem dX7_init_91 : decode cX7_init 91 = .ok (.getfield 49, 3) := by decide +kernel
theorem dX7_init_94 : decode cX7_init 94 = .ok (.bipush (-9), 2) := by decide +kernel
theorem dX7_init_96 : decode cX7_init 96 = .ok (.invokestatic 52, 3) := by decide +kernel
theorem dX7_init_99 : decode cX7_init 99 = .ok (.return_, 1) := by decide +kernel
theorem dX7_write_0 : decode cX7_write 0 = .ok (.iload_n 1, 1) := by decide +kernel
theorem dX7_write_1 : decode cX7_write 1 = .ok (.iconst 1, 1) := by decide +kernel
theorem dX7_write_2 : decode cX7_write 2 = .ok (.if_icmp .lt 9, 3) := by decide +kernel
theorem dX7_write_5 : decode cX7_write 5 = .ok (.iload_n 1, 1) := by decide +kernel
theorem dX7_write_6 : decode cX7_write 6 = .ok (.bipush 8, 2) := by decide +kernel
theorem dX7_write_8 : decode cX7_write 8 = .ok (.if_icmp .le 8, 3) := by decide +kernel
theorem dX7_write_11 : decode cX7_write 11 = .ok (.bipush (-2), 2) := by decide +kernel
theorem dX7_write_13 : decode cX7_write 13 = .ok (.goto 12, 3) := by decide +kernel
theorem dX7_write_16 : decode cX7_write 16 = .ok (.aload_n 0, 1) := by decide +kernel
theorem dX7_write_17 : decode cX7_write 17 = .ok (.getfield 12, 3) := by decide +kernel
theorem dX7_write_20 : decode cX7_write 20 = .ok (.iload_n 1, 1) := by decide +kernel
theorem dX7_write_21 : decode cX7_write 21 = .ok (.lload_n 2, 1) := by decide +kernel
theorem dX7_write_22 : decode cX7_write 22 = .ok (.invokevirtual 58, 3) := by decide +kernel
theorem dX7_write_25 : decode cX7_write 25 = .ok (.ireturn, 1) := by decide +kernel
theorem dX7_wipe_0 : decode cX7_wipe 0 = .ok (.aload_n 0, 1) := by decide +kernel
theorem dX7_wipe_1 : decode cX7_wipe 1 = .ok (.getfield 12, 3) := by decide +kernel
theorem dX7_wipe_4 : decode cX7_wipe 4 = .ok (.invokevirtual 62, 3) := by decide +kernel
theorem dX7_wipe_7 : decode cX7_wipe 7 = .ok (.ireturn, 1) := by decide +kernel
theorem dX7_fault_0 : decode cX7_fault 0 = .ok (.aload_n 0, 1) := by decide +kernel
theorem dX7_fault_1 : decode cX7_fault 1 = .ok (.getfield 12, 3) := by decide +kernel
theorem dX7_fault_4 : decode cX7_fault 4 = .ok (.invokevirtual 66, 3) := by decide +kernel
theorem dX7_fault_7 : decode cX7_fault 7 = .ok (.ireturn, 1) := by decide +kernel
theorem dX7_form_0 : decode cX7_form 0 = .ok (.iload_n 1, 1) := by decide +kernel
theorem dX7_form_1 : decode cX7_form 1 = .ok (.invokestatic 69, 3) := by decide +kernel
theorem dX7_form_4 : decode cX7_form 4 = .ok (.ifCond .ne 5, 3) := by decide +kernel
theorem dX7_form_7 : decode cX7_form 7 = .ok (.iconst (-1), 1) := by decide +kernel
theorem dX7_form_8 : decode cX7_form 8 = .ok (.ireturn, 1) := by decide +kernel
theorem dX7_form_9 : decode cX7_form 9 = .ok (.aload_n 0, 1) := by decide +kernel
theorem dX7_form_10 : decode cX7_form 10 = .ok (.getfield 12, 3) := by decide +kernel
theorem dX7_form_13 : decode cX7_form 13 = .ok (.invokevirtual 66, 3) := by decide +kernel
theorem dX7_form_16 : decode cX7_form 16 = .ok (.bipush (-9), 2) := by decide +kernel
theorem dX7_form_18 : decode cX7_form 18 = .ok (.if_icmp .eq 8, 3) := by decide +kernel
theorem dX7_form_21 : decode cX7_form 21 = .ok (.bipush (-3), 2) := by decide +kernel
theorem dX7_form_23 : decode cX7_form 23 = .ok (.goto 15, 3) := by decide +kernel
theorem dX7_form_26 : decode cX7_form 26 = .ok (.aload_n 0, 1) := by decide +kernel
theorem dX7_form_27 : decode cX7_form 27 = .ok (.getfield 19, 3) := by decide +kernel
theorem dX7_form_30 : decode cX7_form 30 = .ok (.iload_n 1, 1) := by decide +kernel
theorem dX7_form_31 : decode cX7_form 31 = .ok (.aload_n 0, 1) := by decide +kernel
theorem dX7_form_32 : decode cX7_form 32 = .ok (.getfield 12, 3) := by decide +kernel
theorem dX7_form_35 : decode cX7_form 35 = .ok (.invokevirtual 73, 3) := by decide +kernel
theorem dX7_form_38 : decode cX7_form 38 = .ok (.ireturn, 1) := by decide +kernel
theorem dX7_unform_0 : decode cX7_unform 0 = .ok (.iload_n 1, 1) := by decide +kernel
theorem dX7_unform_1 : decode cX7_unform 1 = .ok (.invokestatic 69, 3) := by decide +kernel
theorem dX7_unform_4 : decode cX7_unform 4 = .ok (.ifCond .ne 5, 3) := by decide +kernel
theorem dX7_unform_7 : decode cX7_unform 7 = .ok (.iconst (-1), 1) := by decide +kernel
theorem dX7_unform_8 : decode cX7_unform 8 = .ok (.ireturn, 1) := by decide +kernel
theorem dX7_unform_9 : decode cX7_unform 9 = .ok (.aload_n 0, 1) := by decide +kernel
theorem dX7_unform_10 : decode cX7_unform 10 = .ok (.aload_n 0, 1) := by decide +kernel
theorem dX7_unform_11 : decode cX7_unform 11 = .ok (.getfield 77, 3) := by decide +kernel
theorem dX7_unform_14 : decode cX7_unform 14 = .ok (.iload_n 1, 1) := by decide +kernel
theorem dX7_unform_15 : decode cX7_unform 15 = .ok (.iconst 0, 1) := by decide +kernel
theorem dX7_unform_16 : decode cX7_unform 16 = .ok (.invokestatic 81, 3) := by decide +kernel
theorem dX7_unform_19 : decode cX7_unform 19 = .ok (.putfield 77, 3) := by decide +kernel
theorem dX7_unform_22 : decode cX7_unform 22 = .ok (.aload_n 0, 1) := by decide +kernel
theorem dX7_unform_23 : decode cX7_unform 23 = .ok (.getfield 19, 3) := by decide +kernel
theorem dX7_unform_26 : decode cX7_unform 26 = .ok (.iload_n 1, 1) := by decide +kernel
theorem dX7_unform_27 : decode cX7_unform 27 = .ok (.invokevirtual 87, 3) := by decide +kernel
theorem dX7_unform_30 : decode cX7_unform 30 = .ok (.ireturn, 1) := by decide +kernel
theorem dX7_about_0 : decode cX7_about 0 = .ok (.iload_n 1, 1) := by decide +kernel
theorem dX7_about_1 : decode cX7_about 1 = .ok (.invokestatic 69, 3) := by decide +kernel
theorem dX7_about_4 : decode cX7_about 4 = .ok (.ifCond .eq 20, 3) := by decide +kernel
theorem dX7_about_7 : decode cX7_about 7 = .ok (.iload_n 2, 1) := by decide +kernel
theorem dX7_about_8 : decode cX7_about 8 = .ok (.iconst 1, 1) := by decide +kernel
theorem dX7_about_9 : decode cX7_about 9 = .ok (.if_icmp .lt 15, 3) := by decide +kernel
theorem dX7_about_12 : decode cX7_about 12 = .ok (.iload_n 2, 1) := by decide +kernel
theorem dX7_about_13 : decode cX7_about 13 = .ok (.aload_n 0, 1) := by decide +kernel
theorem dX7_about_14 : decode cX7_about 14 = .ok (.getfield 19, 3) := by decide +kernel
theorem dX7_about_17 : decode cX7_about 17 = .ok (.iload_n 1, 1) := by decide +kernel
theorem dX7_about_18 : decode cX7_about 18 = .ok (.invokevirtual 91, 3) := by decide +kernel
theorem dX7_about_21 : decode cX7_about 21 = .ok (.if_icmp .le 5, 3) := by decide +kernel
theorem dX7_about_24 : decode cX7_about 24 = .ok (.iconst (-1), 1) := by decide +kernel
theorem dX7_about_25 : decode cX7_about 25 = .ok (.ireturn, 1) := by decide +kernel
theorem dX7_about_26 : decode cX7_about 26 = .ok (.iload_n 3, 1) := by decide +kernel
theorem dX7_about_27 : decode cX7_about 27 = .ok (.ifCond .lt 9, 3) := by decide +kernel
theorem dX7_about_30 : decode cX7_about 30 = .ok (.iload_n 3, 1) := by decide +kernel
theorem dX7_about_31 : decode cX7_about 31 = .ok (.bipush 6, 2) := by decide +kernel
theorem dX7_about_33 : decode cX7_about 33 = .ok (.if_icmp .lt 8, 3) := by decide +kernel
theorem dX7_about_36 : decode cX7_about 36 = .ok (.bipush (-2), 2) := by decide +kernel
theorem dX7_about_38 : decode cX7_about 38 = .ok (.goto 17, 3) := by decide +kernel
theorem dX7_about_41 : decode cX7_about 41 = .ok (.aload_n 0, 1) := by decide +kernel
theorem dX7_about_42 : decode cX7_about 42 = .ok (.getfield 19, 3) := by decide +kernel
theorem dX7_about_45 : decode cX7_about 45 = .ok (.iload_n 1, 1) := by decide +kernel
theorem dX7_about_46 : decode cX7_about 46 = .ok (.iload_n 2, 1) := by decide +kernel
theorem dX7_about_47 : decode cX7_about 47 = .ok (.invokestatic 94, 3) := by decide +kernel
theorem dX7_about_50 : decode cX7_about 50 = .ok (.iload_n 3, 1) := by decide +kernel
theorem dX7_about_51 : decode cX7_about 51 = .ok (.iadd, 1) := by decide +kernel
theorem dX7_about_52 : decode cX7_about 52 = .ok (.invokevirtual 98, 3) := by decide +kernel
theorem dX7_about_55 : decode cX7_about 55 = .ok (.ireturn, 1) := by decide +kernel
theorem dX7_seats_0 : decode cX7_seats 0 = .ok (.iload_n 1, 1) := by decide +kernel
theorem dX7_seats_1 : decode cX7_seats 1 = .ok (.ifCond .lt 17, 3) := by decide +kernel
theorem dX7_seats_4 : decode cX7_seats 4 = .ok (.iload_n 1, 1) := by decide +kernel
theorem dX7_seats_5 : decode cX7_seats 5 = .ok (.iconst 3, 1) := by decide +kernel
theorem dX7_seats_6 : decode cX7_seats 6 = .ok (.if_icmp .ge 12, 3) := by decide +kernel
theorem dX7_seats_9 : decode cX7_seats 9 = .ok (.iload_n 2, 1) := by decide +kernel
theorem dX7_seats_10 : decode cX7_seats 10 = .ok (.ifCond .lt 8, 3) := by decide +kernel
theorem dX7_seats_13 : decode cX7_seats 13 = .ok (.iload_n 2, 1) := by decide +kernel
theorem dX7_seats_14 : decode cX7_seats 14 = .ok (.iconst 4, 1) := by decide +kernel
theorem dX7_seats_15 : decode cX7_seats 15 = .ok (.if_icmp .lt 5, 3) := by decide +kernel
theorem dX7_seats_18 : decode cX7_seats 18 = .ok (.iconst (-1), 1) := by decide +kernel
theorem dX7_seats_19 : decode cX7_seats 19 = .ok (.ireturn, 1) := by decide +kernel
theorem dX7_seats_20 : decode cX7_seats 20 = .ok (.iload_n 3, 1) := by decide +kernel
theorem dX7_seats_21 : decode cX7_seats 21 = .ok (.ifCond .lt 9, 3) := by decide +kernel
theorem dX7_seats_24 : decode cX7_seats 24 = .ok (.iload_n 3, 1) := by decide +kernel
theorem dX7_seats_25 : decode cX7_seats 25 = .ok (.bipush 99, 2) := by decide +kernel
theorem dX7_seats_27 : decode cX7_seats 27 = .ok (.if_icmp .le 8, 3) := by decide +kernel
theorem dX7_seats_30 : decode cX7_seats 30 = .ok (.bipush (-2), 2) := by decide +kernel
theorem dX7_seats_32 : decode cX7_seats 32 = .ok (.goto 13, 3) := by decide +kernel
theorem dX7_seats_35 : decode cX7_seats 35 = .ok (.aload_n 0, 1) := by decide +kernel
theorem dX7_seats_36 : decode cX7_seats 36 = .ok (.getfield 19, 3) := by decide +kernel
theorem dX7_seats_39 : decode cX7_seats 39 = .ok (.iload_n 1, 1) := by decide +kernel
theorem dX7_seats_40 : decode cX7_seats 40 = .ok (.iload_n 2, 1) := by decide +kernel
theorem dX7_seats_41 : decode cX7_seats 41 = .ok (.iload_n 3, 1) := by decide +kernel
theorem dX7_seats_42 : decode cX7_seats 42 = .ok (.invokevirtual 101, 3) := by decide +kernel
theorem dX7_seats_45 : decode cX7_seats 45 = .ok (.ireturn, 1) := by decide +kernel
theorem dX7_stand_0 : decode cX7_stand 0 = .ok (.iload_n 1, 1) := by decide +kernel
theorem dX7_stand_1 : decode cX7_stand 1 = .ok (.invokestatic 69, 3) := by decide +kernel
theorem dX7_stand_4 : decode cX7_stand 4 = .ok (.ifCond .ne 5, 3) := by decide +kernel
theorem dX7_stand_7 : decode cX7_stand 7 = .ok (.iconst (-1), 1) := by decide +kernel
theorem dX7_stand_8 : decode cX7_stand 8 = .ok (.ireturn, 1) := by decide +kernel
theorem dX7_stand_9 : decode cX7_stand 9 = .ok (.iload_n 2, 1) := by decide +kernel
theorem dX7_stand_10 : decode cX7_stand 10 = .ok (.ifCond .lt 15, 3) := by decide +kernel
theorem dX7_stand_13 : decode cX7_stand 13 = .ok (.iload_n 2, 1) := by decide +kernel
theorem dX7_stand_14 : decode cX7_stand 14 = .ok (.aload_n 0, 1) := by decide +kernel
theorem dX7_stand_15 : decode cX7_stand 15 = .ok (.getfield 19, 3) := by decide +kernel
theorem dX7_stand_18 : decode cX7_stand 18 = .ok (.iload_n 1, 1) := by decide +kernel
theorem dX7_stand_19 : decode cX7_stand 19 = .ok (.invokevirtual 91, 3) := by decide +kernel
theorem dX7_stand_22 : decode cX7_stand 22 = .ok (.if_icmp .le 6, 3) := by decide +kernel
theorem dX7_stand_25 : decode cX7_stand 25 = .ok (.bipush (-2), 2) := by decide +kernel
theorem dX7_stand_27 : decode cX7_stand 27 = .ok (.ireturn, 1) := by decide +kernel
theorem dX7_stand_28 : decode cX7_stand 28 = .ok (.aload_n 0, 1) := by decide +kernel
theorem dX7_stand_29 : decode cX7_stand 29 = .ok (.getfield 77, 3) := by decide +kernel
theorem dX7_stand_32 : decode cX7_stand 32 = .ok (.iload_n 1, 1) := by decide +kernel
theorem dX7_stand_33 : decode cX7_stand 33 = .ok (.invokestatic 104, 3) := by decide +kernel
theorem dX7_stand_36 : decode cX7_stand 36 = .ok (.istore_n 3, 1) := by decide +kernel
theorem dX7_stand_37 : decode cX7_stand 37 = .ok (.aload_n 0, 1) := by decide +kernel
theorem dX7_stand_38 : decode cX7_stand 38 = .ok (.aload_n 0, 1) := by decide +kernel
theorem dX7_stand_39 : decode cX7_stand 39 = .ok (.getfield 77, 3) := by decide +kernel
theorem dX7_stand_42 : decode cX7_stand 42 = .ok (.iload_n 1, 1) := by decide +kernel
theorem dX7_stand_43 : decode cX7_stand 43 = .ok (.iload_n 2, 1) := by decide +kernel
theorem dX7_stand_44 : decode cX7_stand 44 = .ok (.invokestatic 81, 3) := by decide +kernel
theorem dX7_stand_47 : decode cX7_stand 47 = .ok (.putfield 77, 3) := by decide +kernel
theorem dX7_stand_50 : decode cX7_stand 50 = .ok (.iload_n 3, 1) := by decide +kernel
theorem dX7_stand_51 : decode cX7_stand 51 = .ok (.ireturn, 1) := by decide +kernel
theorem dX7_thing_0 : decode cX7_thing 0 = .ok (.iload_n 1, 1) := by decide +kernel
theorem dX7_thing_1 : decode cX7_thing 1 = .ok (.ifCond .lt 8, 3) := by decide +kernel
theorem dX7_thing_4 : decode cX7_thing 4 = .ok (.iload_n 1, 1) := by decide +kernel
theorem dX7_thing_5 : decode cX7_thing 5 = .ok (.iconst 4, 1) := by decide +kernel
theorem dX7_thing_6 : decode cX7_thing 6 = .ok (.if_icmp .lt 5, 3) := by decide +kernel
theorem dX7_thing_9 : decode cX7_thing 9 = .ok (.iconst (-1), 1) := by decide +kernel
theorem dX7_thing_10 : decode cX7_thing 10 = .ok (.ireturn, 1) := by decide +kernel
theorem dX7_thing_11 : decode cX7_thing 11 = .ok (.aload_n 0, 1) := by decide +kernel
theorem dX7_thing_12 : decode cX7_thing 12 = .ok (.getfield 77, 3) := by decide +kernel
theorem dX7_thing_15 : decode cX7_thing 15 = .ok (.iload_n 1, 1) := by decide +kernel
theorem dX7_thing_16 : decode cX7_thing 16 = .ok (.invokestatic 107, 3) := by decide +kernel
theorem dX7_thing_19 : decode cX7_thing 19 = .ok (.istore_n 3, 1) := by decide +kernel
theorem dX7_thing_20 : decode cX7_thing 20 = .ok (.aload_n 0, 1) := by decide +kernel
theorem dX7_thing_21 : decode cX7_thing 21 = .ok (.aload_n 0, 1) := by decide +kernel
theorem dX7_thing_22 : decode cX7_thing 22 = .ok (.getfield 77, 3) := by decide +kernel
theorem dX7_thing_25 : decode cX7_thing 25 = .ok (.iload_n 1, 1) := by decide +kernel
theorem dX7_thing_26 : decode cX7_thing 26 = .ok (.iload_n 2, 1) := by decide +kernel
theorem dX7_thing_27 : decode cX7_thing 27 = .ok (.ifCond .eq 7, 3) := by decide +kernel
theorem dX7_thing_30 : decode cX7_thing 30 = .ok (.iconst 1, 1) := by decide +kernel
theorem dX7_thing_31 : decode cX7_thing 31 = .ok (.goto 4, 3) := by decide +kernel
theorem dX7_thing_34 : decode cX7_thing 34 = .ok (.iconst 0, 1) := by decide +kernel
theorem dX7_thing_35 : decode cX7_thing 35 = .ok (.invokestatic 110, 3) := by decide +kernel
theorem dX7_thing_38 : decode cX7_thing 38 = .ok (.putfield 77, 3) := by decide +kernel
theorem dX7_thing_41 : decode cX7_thing 41 = .ok (.iload_n 3, 1) := by decide +kernel
theorem dX7_thing_42 : decode cX7_thing 42 = .ok (.ireturn, 1) := by decide +kernel
theorem dX7_at_0 : decode cX7_at 0 = .ok (.iload_n 1, 1) := by decide +kernel
theorem dX7_at_1 : decode cX7_at 1 = .ok (.invokestatic 69, 3) := by decide +kernel
theorem dX7_at_4 : decode cX7_at 4 = .ok (.ifCond .eq 14, 3) := by decide +kernel
theorem dX7_at_7 : decode cX7_at 7 = .ok (.aload_n 0, 1) := by decide +kernel
theorem dX7_at_8 : decode cX7_at 8 = .ok (.getfield 77, 3) := by decide +kernel
theorem dX7_at_11 : decode cX7_at 11 = .ok (.iload_n 1, 1) := by decide +kernel
theorem dX7_at_12 : decode cX7_at 12 = .ok (.invokestatic 104, 3) := by decide +kernel
theorem dX7_at_15 : decode cX7_at 15 = .ok (.goto 4, 3) := by decide +kernel
theorem dX7_at_18 : decode cX7_at 18 = .ok (.iconst (-1), 1) := by decide +kernel
theorem dX7_at_19 : decode cX7_at 19 = .ok (.ireturn, 1) := by decide +kernel
theorem dX7_force_0 : decode cX7_force 0 = .ok (.iload_n 1, 1) := by decide +kernel
theorem dX7_force_1 : decode cX7_force 1 = .ok (.invokestatic 69, 3) := by decide +kernel
theorem dX7_force_4 : decode cX7_force 4 = .ok (.ifCond .ne 5, 3) := by decide +kernel
theorem dX7_force_7 : decode cX7_force 7 = .ok (.iconst (-1), 1) := by decide +kernel
theorem dX7_force_8 : decode cX7_force 8 = .ok (.ireturn, 1) := by decide +kernel
theorem dX7_force_9 : decode cX7_force 9 = .ok (.aload_n 0, 1) := by decide +kernel
theorem dX7_force_10 : decode cX7_force 10 = .ok (.getfield 19, 3) := by decide +kernel
theorem dX7_force_13 : decode cX7_force 13 = .ok (.aload_n 0, 1) := by decide +kernel
theorem dX7_force_14 : decode cX7_force 14 = .ok (.getfield 77, 3) := by decide +kernel
theorem dX7_force_17 : decode cX7_force 17 = .ok (.iload_n 1, 1) := by decide +kernel
theorem dX7_force_18 : decode cX7_force 18 = .ok (.invokevirtual 113, 3) := by decide +kernel
theorem dX7_force_21 : decode cX7_force 21 = .ok (.ifCond .eq 7, 3) := by decide +kernel
theorem dX7_force_24 : decode cX7_force 24 = .ok (.iconst 1, 1) := by decide +kernel
theorem dX7_force_25 : decode cX7_force 25 = .ok (.goto 4, 3) := by decide +kernel
theorem dX7_force_28 : decode cX7_force 28 = .ok (.iconst 0, 1) := by decide +kernel
theorem dX7_force_29 : decode cX7_force 29 = .ok (.ireturn, 1) := by decide +kernel
theorem dX7_votes_0 : decode cX7_votes 0 = .ok (.iload_n 1, 1) := by decide +kernel
theorem dX7_votes_1 : decode cX7_votes 1 = .ok (.invokestatic 117, 3) := by decide +kernel
theorem dX7_votes_4 : decode cX7_votes 4 = .ok (.ifCond .ne 6, 3) := by decide +kernel
theorem dX7_votes_7 : decode cX7_votes 7 = .ok (.bipush (-2), 2) := by decide +kernel
theorem dX7_votes_9 : decode cX7_votes 9 = .ok (.ireturn, 1) := by decide +kernel
theorem dX7_votes_10 : decode cX7_votes 10 = .ok (.iload_n 2, 1) := by decide +kernel
theorem dX7_votes_11 : decode cX7_votes 11 = .ok (.ifCond .lt 8, 3) := by decide +kernel
theorem dX7_votes_14 : decode cX7_votes 14 = .ok (.iload_n 2, 1) := by decide +kernel
theorem dX7_votes_15 : decode cX7_votes 15 = .ok (.iconst 3, 1) := by decide +kernel
theorem dX7_votes_16 : decode cX7_votes 16 = .ok (.if_icmp .lt 7, 3) := by decide +kernel
theorem dX7_votes_19 : decode cX7_votes 19 = .ok (.iconst (-1), 1) := by decide +kernel
theorem dX7_votes_20 : decode cX7_votes 20 = .ok (.goto 12, 3) := by decide +kernel
theorem dX7_votes_23 : decode cX7_votes 23 = .ok (.aload_n 0, 1) := by decide +kernel
theorem dX7_votes_24 : decode cX7_votes 24 = .ok (.iload_n 1, 1) := by decide +kernel
theorem dX7_votes_25 : decode cX7_votes 25 = .ok (.invokevirtual 120, 3) := by decide +kernel
theorem dX7_votes_28 : decode cX7_votes 28 = .ok (.iload_n 2, 1) := by decide +kernel
theorem dX7_votes_29 : decode cX7_votes 29 = .ok (.invokevirtual 124, 3) := by decide +kernel
theorem dX7_votes_32 : decode cX7_votes 32 = .ok (.ireturn, 1) := by decide +kernel
theorem dX7_is_0 : decode cX7_is 0 = .ok (.iload_n 1, 1) := by decide +kernel
theorem dX7_is_1 : decode cX7_is 1 = .ok (.invokestatic 127, 3) := by decide +kernel
theorem dX7_is_4 : decode cX7_is 4 = .ok (.ifCond .ne 6, 3) := by decide +kernel
theorem dX7_is_7 : decode cX7_is 7 = .ok (.bipush (-2), 2) := by decide +kernel
theorem dX7_is_9 : decode cX7_is 9 = .ok (.ireturn, 1) := by decide +kernel
theorem dX7_is_10 : decode cX7_is 10 = .ok (.iload_n 1, 1) := by decide +kernel
theorem dX7_is_11 : decode cX7_is 11 = .ok (.aload_n 0, 1) := by decide +kernel
theorem dX7_is_12 : decode cX7_is 12 = .ok (.getfield 77, 3) := by decide +kernel
theorem dX7_is_15 : decode cX7_is 15 = .ok (.invokestatic 132, 3) := by decide +kernel
theorem dX7_is_18 : decode cX7_is 18 = .ok (.ifCond .eq 7, 3) := by decide +kernel
theorem dX7_is_21 : decode cX7_is 21 = .ok (.iconst 1, 1) := by decide +kernel
theorem dX7_is_22 : decode cX7_is 22 = .ok (.goto 4, 3) := by decide +kernel
theorem dX7_is_25 : decode cX7_is 25 = .ok (.iconst 0, 1) := by decide +kernel
theorem dX7_is_26 : decode cX7_is 26 = .ok (.ireturn, 1) := by decide +kernel
theorem dX7_acts_0 : decode cX7_acts 0 = .ok (.iload_n 1, 1) := by decide +kernel
theorem dX7_acts_1 : decode cX7_acts 1 = .ok (.invokestatic 117, 3) := by decide +kernel
theorem dX7_acts_4 : decode cX7_acts 4 = .ok (.ifCond .eq 14, 3) := by decide +kernel
theorem dX7_acts_7 : decode cX7_acts 7 = .ok (.aload_n 0, 1) := by decide +kernel
theorem dX7_acts_8 : decode cX7_acts 8 = .ok (.iload_n 1, 1) := by decide +kernel
theorem dX7_acts_9 : decode cX7_acts 9 = .ok (.invokevirtual 135, 3) := by decide +kernel
theorem dX7_acts_12 : decode cX7_acts 12 = .ok (.invokevirtual 138, 3) := by decide +kernel
theorem dX7_acts_15 : decode cX7_acts 15 = .ok (.goto 5, 3) := by decide +kernel
theorem dX7_acts_18 : decode cX7_acts 18 = .ok (.bipush (-2), 2) := by decide +kernel
theorem dX7_acts_20 : decode cX7_acts 20 = .ok (.ireturn, 1) := by decide +kernel
theorem dX7_which_0 : decode cX7_which 0 = .ok (.iload_n 1, 1) := by decide +kernel
theorem dX7_which_1 : decode cX7_which 1 = .ok (.invokestatic 117, 3) := by decide +kernel
theorem dX7_which_4 : decode cX7_which 4 = .ok (.ifCond .eq 15, 3) := by decide +kernel
theorem dX7_which_7 : decode cX7_which 7 = .ok (.aload_n 0, 1) := by decide +kernel
theorem dX7_which_8 : decode cX7_which 8 = .ok (.iload_n 1, 1) := by decide +kernel
theorem dX7_which_9 : decode cX7_which 9 = .ok (.invokevirtual 135, 3) := by decide +kernel
theorem dX7_which_12 : decode cX7_which 12 = .ok (.iload_n 2, 1) := by decide +kernel
theorem dX7_which_13 : decode cX7_which 13 = .ok (.invokevirtual 141, 3) := by decide +kernel
theorem dX7_which_16 : decode cX7_which 16 = .ok (.goto 5, 3) := by decide +kernel
theorem dX7_which_19 : decode cX7_which 19 = .ok (.bipush (-2), 2) := by decide +kernel
theorem dX7_which_21 : decode cX7_which 21 = .ok (.ireturn, 1) := by decide +kernel
theorem dX7_why_0 : decode cX7_why 0 = .ok (.iload_n 1, 1) := by decide +kernel
theorem dX7_why_1 : decode cX7_why 1 = .ok (.invokestatic 117, 3) := by decide +kernel
theorem dX7_why_4 : decode cX7_why 4 = .ok (.ifCond .eq 22, 3) := by decide +kernel
theorem dX7_why_7 : decode cX7_why 7 = .ok (.iload_n 2, 1) := by decide +kernel
theorem dX7_why_8 : decode cX7_why 8 = .ok (.invokestatic 144, 3) := by decide +kernel
theorem dX7_why_11 : decode cX7_why 11 = .ok (.ifCond .eq 15, 3) := by decide +kernel
theorem dX7_why_14 : decode cX7_why 14 = .ok (.aload_n 0, 1) := by decide +kernel
theorem dX7_why_15 : decode cX7_why 15 = .ok (.iload_n 1, 1) := by decide +kernel
theorem dX7_why_16 : decode cX7_why 16 = .ok (.invokevirtual 120, 3) := by decide +kernel
theorem dX7_why_19 : decode cX7_why 19 = .ok (.iload_n 2, 1) := by decide +kernel
theorem dX7_why_20 : decode cX7_why 20 = .ok (.invokevirtual 147, 3) := by decide +kernel
theorem dX7_why_23 : decode cX7_why 23 = .ok (.goto 5, 3) := by decide +kernel
theorem dX7_why_26 : decode cX7_why 26 = .ok (.bipush (-2), 2) := by decide +kernel
theorem dX7_why_28 : decode cX7_why 28 = .ok (.ireturn, 1) := by decide +kernel
theorem dX7_act_0 : decode cX7_act 0 = .ok (.iload_n 1, 1) := by decide +kernel
theorem dX7_act_1 : decode cX7_act 1 = .ok (.invokestatic 117, 3) := by decide +kernel
theorem dX7_act_4 : decode cX7_act 4 = .ok (.ifCond .eq 10, 3) := by decide +kernel
theorem dX7_act_7 : decode cX7_act 7 = .ok (.iload_n 2, 1) := by decide +kernel
theorem dX7_act_8 : decode cX7_act 8 = .ok (.invokestatic 144, 3) := by decide +kernel
theorem dX7_act_11 : decode cX7_act 11 = .ok (.ifCond .ne 6, 3) := by decide +kernel
theorem dX7_act_14 : decode cX7_act 14 = .ok (.bipush (-2), 2) := by decide +kernel
theorem dX7_act_16 : decode cX7_act 16 = .ok (.ireturn, 1) := by decide +kernel
theorem dX7_act_17 : decode cX7_act 17 = .ok (.aload_n 0, 1) := by decide +kernel
theorem dX7_act_18 : decode cX7_act 18 = .ok (.iload_n 1, 1) := by decide +kernel
theorem dX7_act_19 : decode cX7_act 19 = .ok (.invokevirtual 120, 3) := by decide +kernel
theorem dX7_act_22 : decode cX7_act 22 = .ok (.iload_n 2, 1) := by decide +kernel
theorem dX7_act_23 : decode cX7_act 23 = .ok (.invokevirtual 147, 3) := by decide +kernel
theorem dX7_act_26 : decode cX7_act 26 = .ok (.istore_n 3, 1) := by decide +kernel
theorem dX7_act_27 : decode cX7_act 27 = .ok (.iload_n 3, 1) := by decide +kernel
theorem dX7_act_28 : decode cX7_act 28 = .ok (.ifCond .ne 15, 3) := by decide +kernel
theorem dX7_act_31 : decode cX7_act 31 = .ok (.aload_n 0, 1) := by decide +kernel
theorem dX7_act_32 : decode cX7_act 32 = .ok (.aload_n 0, 1) := by decide +kernel
theorem dX7_act_33 : decode cX7_act 33 = .ok (.getfield 28, 3) := by decide +kernel
theorem dX7_act_36 : decode cX7_act 36 = .ok (.iload_n 2, 1) := by decide +kernel
theorem dX7_act_37 : decode cX7_act 37 = .ok (.invokevirtual 150, 3) := by decide +kernel
theorem dX7_act_40 : decode cX7_act 40 = .ok (.putfield 77, 3) := by decide +kernel
theorem dX7_act_43 : decode cX7_act 43 = .ok (.iload_n 3, 1) := by decide +kernel
theorem dX7_act_44 : decode cX7_act 44 = .ok (.ireturn, 1) := by decide +kernel
theorem dX7_reach_0 : decode cX7_reach 0 = .ok (.iload_n 1, 1) := by decide +kernel
theorem dX7_reach_1 : decode cX7_reach 1 = .ok (.invokestatic 117, 3) := by decide +kernel
theorem dX7_reach_4 : decode cX7_reach 4 = .ok (.ifCond .ne 6, 3) := by decide +kernel
theorem dX7_reach_7 : decode cX7_reach 7 = .ok (.bipush (-2), 2) := by decide +kernel
theorem dX7_reach_9 : decode cX7_reach 9 = .ok (.ireturn, 1) := by decide +kernel
theorem dX7_reach_10 : decode cX7_reach 10 = .ok (.aload_n 0, 1) := by decide +kernel
theorem dX7_reach_11 : decode cX7_reach 11 = .ok (.iload_n 1, 1) := by decide +kernel
theorem dX7_reach_12 : decode cX7_reach 12 = .ok (.invokevirtual 153, 3) := by decide +kernel
theorem dX7_reach_15 : decode cX7_reach 15 = .ok (.aload_n 0, 1) := by decide +kernel
theorem dX7_reach_16 : decode cX7_reach 16 = .ok (.getfield 38, 3) := by decide +kernel
theorem dX7_reach_19 : decode cX7_reach 19 = .ok (.invokevirtual 157, 3) := by decide +kernel
theorem dX7_reach_22 : decode cX7_reach 22 = .ok (.ireturn, 1) := by decide +kernel
theorem dX7_among_0 : decode cX7_among 0 = .ok (.iload_n 1, 1) := by decide +kernel
theorem dX7_among_1 : decode cX7_among 1 = .ok (.invokestatic 117, 3) := by decide +kernel
theorem dX7_among_4 : decode cX7_among 4 = .ok (.ifCond .eq 10, 3) := by decide +kernel
theorem dX7_among_7 : decode cX7_among 7 = .ok (.iload_n 2, 1) := by decide +kernel
theorem dX7_among_8 : decode cX7_among 8 = .ok (.invokestatic 127, 3) := by decide +kernel
theorem dX7_among_11 : decode cX7_among 11 = .ok (.ifCond .ne 6, 3) := by decide +kernel
theorem dX7_among_14 : decode cX7_among 14 = .ok (.bipush (-2), 2) := by decide +kernel
theorem dX7_among_16 : decode cX7_among 16 = .ok (.ireturn, 1) := by decide +kernel
theorem dX7_among_17 : decode cX7_among 17 = .ok (.aload_n 0, 1) := by decide +kernel
theorem dX7_among_18 : decode cX7_among 18 = .ok (.iload_n 1, 1) := by decide +kernel
theorem dX7_among_19 : decode cX7_among 19 = .ok (.invokevirtual 153, 3) := by decide +kernel
theorem dX7_among_22 : decode cX7_among 22 = .ok (.aload_n 0, 1) := by decide +kernel
theorem dX7_among_23 : decode cX7_among 23 = .ok (.getfield 38, 3) := by decide +kernel
theorem dX7_among_26 : decode cX7_among 26 = .ok (.iload_n 2, 1) := by decide +kernel
theorem dX7_among_27 : decode cX7_among 27 = .ok (.invokevirtual 160, 3) := by decide +kernel
theorem dX7_among_30 : decode cX7_among 30 = .ok (.ireturn, 1) := by decide +kernel
theorem dX7_shortest_0 : decode cX7_shortest 0 = .ok (.iload_n 1, 1) := by decide +kernel
theorem dX7_shortest_1 : decode cX7_shortest 1 = .ok (.invokestatic 117, 3) := by decide +kernel
theorem dX7_shortest_4 : decode cX7_shortest 4 = .ok (.ifCond .eq 10, 3) := by decide +kernel
theorem dX7_shortest_7 : decode cX7_shortest 7 = .ok (.iload_n 2, 1) := by decide +kernel
theorem dX7_shortest_8 : decode cX7_shortest 8 = .ok (.invokestatic 127, 3) := by decide +kernel
theorem dX7_shortest_11 : decode cX7_shortest 11 = .ok (.ifCond .ne 6, 3) := by decide +kernel
theorem dX7_shortest_14 : decode cX7_shortest 14 = .ok (.bipush (-2), 2) := by decide +kernel
theorem dX7_shortest_16 : decode cX7_shortest 16 = .ok (.ireturn, 1) := by decide +kernel
theorem dX7_shortest_17 : decode cX7_shortest 17 = .ok (.aload_n 0, 1) := by decide +kernel
theorem dX7_shortest_18 : decode cX7_shortest 18 = .ok (.getfield 38, 3) := by decide +kernel
theorem dX7_shortest_21 : decode cX7_shortest 21 = .ok (.aload_n 0, 1) := by decide +kernel
theorem dX7_shortest_22 : decode cX7_shortest 22 = .ok (.iload_n 1, 1) := by decide +kernel
theorem dX7_shortest_23 : decode cX7_shortest 23 = .ok (.iload_n 2, 1) := by decide +kernel
theorem dX7_shortest_24 : decode cX7_shortest 24 = .ok (.invokevirtual 163, 3) := by decide +kernel
theorem dX7_shortest_27 : decode cX7_shortest 27 = .ok (.invokevirtual 166, 3) := by decide +kernel
theorem dX7_shortest_30 : decode cX7_shortest 30 = .ok (.ireturn, 1) := by decide +kernel
theorem dX7_step_0 : decode cX7_step 0 = .ok (.iload_n 1, 1) := by decide +kernel
theorem dX7_step_1 : decode cX7_step 1 = .ok (.invokestatic 117, 3) := by decide +kernel
theorem dX7_step_4 : decode cX7_step 4 = .ok (.ifCond .eq 10, 3) := by decide +kernel
theorem dX7_step_7 : decode cX7_step 7 = .ok (.iload_n 2, 1) := by decide +kernel
theorem dX7_step_8 : decode cX7_step 8 = .ok (.invokestatic 127, 3) := by decide +kernel
theorem dX7_step_11 : decode cX7_step 11 = .ok (.ifCond .ne 6, 3) := by decide +kernel
theorem dX7_step_14 : decode cX7_step 14 = .ok (.bipush (-2), 2) := by decide +kernel
theorem dX7_step_16 : decode cX7_step 16 = .ok (.ireturn, 1) := by decide +kernel
theorem dX7_step_17 : decode cX7_step 17 = .ok (.aload_n 0, 1) := by decide +kernel
theorem dX7_step_18 : decode cX7_step 18 = .ok (.getfield 38, 3) := by decide +kernel
theorem dX7_step_21 : decode cX7_step 21 = .ok (.aload_n 0, 1) := by decide +kernel
theorem dX7_step_22 : decode cX7_step 22 = .ok (.iload_n 1, 1) := by decide +kernel
theorem dX7_step_23 : decode cX7_step 23 = .ok (.iload_n 2, 1) := by decide +kernel
theorem dX7_step_24 : decode cX7_step 24 = .ok (.invokevirtual 163, 3) := by decide +kernel
theorem dX7_step_27 : decode cX7_step 27 = .ok (.iload_n 3, 1) := by decide +kernel
theorem dX7_step_28 : decode cX7_step 28 = .ok (.invokevirtual 169, 3) := by decide +kernel
theorem dX7_step_31 : decode cX7_step 31 = .ok (.ireturn, 1) := by decide +kernel
theorem dX7_who_0 : decode cX7_who 0 = .ok (.iload_n 1, 1) := by decide +kernel
theorem dX7_who_1 : decode cX7_who 1 = .ok (.invokestatic 127, 3) := by decide +kernel
theorem dX7_who_4 : decode cX7_who 4 = .ok (.ifCond .ne 6, 3) := by decide +kernel
theorem dX7_who_7 : decode cX7_who 7 = .ok (.bipush (-2), 2) := by decide +kernel
theorem dX7_who_9 : decode cX7_who 9 = .ok (.ireturn, 1) := by decide +kernel
theorem dX7_who_10 : decode cX7_who 10 = .ok (.iconst 0, 1) := by decide +kernel
theorem dX7_who_11 : decode cX7_who 11 = .ok (.istore_n 2, 1) := by decide +kernel
theorem dX7_who_12 : decode cX7_who 12 = .ok (.iload_n 2, 1) := by decide +kernel
theorem dX7_who_13 : decode cX7_who 13 = .ok (.iconst 4, 1) := by decide +kernel
theorem dX7_who_14 : decode cX7_who 14 = .ok (.if_icmp .gt 44, 3) := by decide +kernel
theorem dX7_who_17 : decode cX7_who 17 = .ok (.iconst 0, 1) := by decide +kernel
theorem dX7_who_18 : decode cX7_who 18 = .ok (.istore_n 3, 1) := by decide +kernel
theorem dX7_who_19 : decode cX7_who 19 = .ok (.iload_n 3, 1) := by decide +kernel
theorem dX7_who_20 : decode cX7_who 20 = .ok (.bipush 16, 2) := by decide +kernel
theorem dX7_who_22 : decode cX7_who 22 = .ok (.if_icmp .ge 30, 3) := by decide +kernel
theorem dX7_who_25 : decode cX7_who 25 = .ok (.iload_n 3, 1) := by decide +kernel
theorem dX7_who_26 : decode cX7_who 26 = .ok (.invokestatic 172, 3) := by decide +kernel
theorem dX7_who_29 : decode cX7_who 29 = .ok (.iload_n 2, 1) := by decide +kernel
theorem dX7_who_30 : decode cX7_who 30 = .ok (.if_icmp .ne 16, 3) := by decide +kernel
theorem dX7_who_33 : decode cX7_who 33 = .ok (.aload_n 0, 1) := by decide +kernel
theorem dX7_who_34 : decode cX7_who 34 = .ok (.iload_n 3, 1) := by decide +kernel
theorem dX7_who_35 : decode cX7_who 35 = .ok (.iload_n 1, 1) := by decide +kernel
theorem dX7_who_36 : decode cX7_who 36 = .ok (.invokevirtual 163, 3) := by decide +kernel
theorem dX7_who_39 : decode cX7_who 39 = .ok (.bipush (-9), 2) := by decide +kernel
theorem dX7_who_41 : decode cX7_who 41 = .ok (.if_icmp .eq 5, 3) := by decide +kernel
theorem dX7_who_44 : decode cX7_who 44 = .ok (.iload_n 3, 1) := by decide +kernel
theorem dX7_who_45 : decode cX7_who 45 = .ok (.ireturn, 1) := by decide +kernel
theorem dX7_who_46 : decode cX7_who 46 = .ok (.iinc 3 1, 3) := by decide +kernel
theorem dX7_who_49 : decode cX7_who 49 = .ok (.goto (-30), 3) := by decide +kernel
theorem dX7_who_52 : decode cX7_who 52 = .ok (.iinc 2 1, 3) := by decide +kernel
theorem dX7_who_55 : decode cX7_who 55 = .ok (.goto (-43), 3) := by decide +kernel
theorem dX7_who_58 : decode cX7_who 58 = .ok (.bipush (-9), 2) := by decide +kernel
theorem dX7_who_60 : decode cX7_who 60 = .ok (.ireturn, 1) := by decide +kernel
theorem dX7_forGood_0 : decode cX7_forGood 0 = .ok (.iload_n 1, 1) := by decide +kernel
theorem dX7_forGood_1 : decode cX7_forGood 1 = .ok (.invokestatic 127, 3) := by decide +kernel
theorem dX7_forGood_4 : decode cX7_forGood 4 = .ok (.ifCond .ne 6, 3) := by decide +kernel
theorem dX7_forGood_7 : decode cX7_forGood 7 = .ok (.bipush (-2), 2) := by decide +kernel
theorem dX7_forGood_9 : decode cX7_forGood 9 = .ok (.ireturn, 1) := by decide +kernel
theorem dX7_forGood_10 : decode cX7_forGood 10 = .ok (.aload_n 0, 1) := by decide +kernel
theorem dX7_forGood_11 : decode cX7_forGood 11 = .ok (.aload_n 0, 1) := by decide +kernel
theorem dX7_forGood_12 : decode cX7_forGood 12 = .ok (.getfield 77, 3) := by decide +kernel
theorem dX7_forGood_15 : decode cX7_forGood 15 = .ok (.bipush 15, 2) := by decide +kernel
theorem dX7_forGood_17 : decode cX7_forGood 17 = .ok (.iload_n 1, 1) := by decide +kernel
theorem dX7_forGood_18 : decode cX7_forGood 18 = .ok (.iconst 0, 1) := by decide +kernel
theorem dX7_forGood_19 : decode cX7_forGood 19 = .ok (.invokevirtual 177, 3) := by decide +kernel
theorem dX7_forGood_22 : decode cX7_forGood 22 = .ok (.ifCond .eq 7, 3) := by decide +kernel
theorem dX7_forGood_25 : decode cX7_forGood 25 = .ok (.iconst 1, 1) := by decide +kernel
theorem dX7_forGood_26 : decode cX7_forGood 26 = .ok (.goto 4, 3) := by decide +kernel
theorem dX7_forGood_29 : decode cX7_forGood 29 = .ok (.iconst 0, 1) := by decide +kernel
theorem dX7_forGood_30 : decode cX7_forGood 30 = .ok (.ireturn, 1) := by decide +kernel
theorem dX7_trap_0 : decode cX7_trap 0 = .ok (.iload_n 1, 1) := by decide +kernel
theorem dX7_trap_1 : decode cX7_trap 1 = .ok (.invokestatic 117, 3) := by decide +kernel
theorem dX7_trap_4 : decode cX7_trap 4 = .ok (.ifCond .eq 10, 3) := by decide +kernel
theorem dX7_trap_7 : decode cX7_trap 7 = .ok (.iload_n 2, 1) := by decide +kernel
theorem dX7_trap_8 : decode cX7_trap 8 = .ok (.invokestatic 127, 3) := by decide +kernel
theorem dX7_trap_11 : decode cX7_trap 11 = .ok (.ifCond .ne 6, 3) := by decide +kernel
theorem dX7_trap_14 : decode cX7_trap 14 = .ok (.bipush (-2), 2) := by decide +kernel
theorem dX7_trap_16 : decode cX7_trap 16 = .ok (.ireturn, 1) := by decide +kernel
theorem dX7_trap_17 : decode cX7_trap 17 = .ok (.aload_n 0, 1) := by decide +kernel
theorem dX7_trap_18 : decode cX7_trap 18 = .ok (.bipush 15, 2) := by decide +kernel
theorem dX7_trap_20 : decode cX7_trap 20 = .ok (.invokevirtual 153, 3) := by decide +kernel
theorem dX7_trap_23 : decode cX7_trap 23 = .ok (.aload_n 0, 1) := by decide +kernel
theorem dX7_trap_24 : decode cX7_trap 24 = .ok (.getfield 38, 3) := by decide +kernel
theorem dX7_trap_27 : decode cX7_trap 27 = .ok (.iload_n 2, 1) := by decide +kernel
theorem dX7_trap_28 : decode cX7_trap 28 = .ok (.aload_n 0, 1) := by decide +kernel
theorem dX7_trap_29 : decode cX7_trap 29 = .ok (.getfield 28, 3) := by decide +kernel
theorem dX7_trap_32 : decode cX7_trap 32 = .ok (.invokevirtual 181, 3) := by decide +kernel
theorem dX7_trap_35 : decode cX7_trap 35 = .ok (.aload_n 0, 1) := by decide +kernel
theorem dX7_trap_36 : decode cX7_trap 36 = .ok (.iload_n 1, 1) := by decide +kernel
theorem dX7_trap_37 : decode cX7_trap 37 = .ok (.invokevirtual 153, 3) := by decide +kernel
theorem dX7_trap_40 : decode cX7_trap 40 = .ok (.aload_n 0, 1) := by decide +kernel
theorem dX7_trap_41 : decode cX7_trap 41 = .ok (.getfield 38, 3) := by decide +kernel
theorem dX7_trap_44 : decode cX7_trap 44 = .ok (.aload_n 0, 1) := by decide +kernel
theorem dX7_trap_45 : decode cX7_trap 45 = .ok (.getfield 38, 3) := by decide +kernel
theorem dX7_trap_48 : decode cX7_trap 48 = .ok (.invokevirtual 185, 3) := by decide +kernel
theorem dX7_trap_51 : decode cX7_trap 51 = .ok (.invokevirtual 166, 3) := by decide +kernel
theorem dX7_trap_54 : decode cX7_trap 54 = .ok (.ireturn, 1) := by decide +kernel
theorem dX7_hold_0 : decode cX7_hold 0 = .ok (.iload_n 1, 1) := by decide +kernel
theorem dX7_hold_1 : decode cX7_hold 1 = .ok (.invokestatic 117, 3) := by decide +kernel
theorem dX7_hold_4 : decode cX7_hold 4 = .ok (.ifCond .eq 10, 3) := by decide +kernel
theorem dX7_hold_7 : decode cX7_hold 7 = .ok (.iload_n 2, 1) := by decide +kernel
theorem dX7_hold_8 : decode cX7_hold 8 = .ok (.invokestatic 127, 3) := by decide +kernel
theorem dX7_hold_11 : decode cX7_hold 11 = .ok (.ifCond .ne 6, 3) := by decide +kernel
theorem dX7_hold_14 : decode cX7_hold 14 = .ok (.bipush (-2), 2) := by decide +kernel
theorem dX7_hold_16 : decode cX7_hold 16 = .ok (.ireturn, 1) := by decide +kernel
theorem dX7_hold_17 : decode cX7_hold 17 = .ok (.aload_n 0, 1) := by decide +kernel
theorem dX7_hold_18 : decode cX7_hold 18 = .ok (.aload_n 0, 1) := by decide +kernel
theorem dX7_hold_19 : decode cX7_hold 19 = .ok (.getfield 77, 3) := by decide +kernel
theorem dX7_hold_22 : decode cX7_hold 22 = .ok (.iload_n 1, 1) := by decide +kernel
theorem dX7_hold_23 : decode cX7_hold 23 = .ok (.iload_n 2, 1) := by decide +kernel
theorem dX7_hold_24 : decode cX7_hold 24 = .ok (.iconst 0, 1) := by decide +kernel
theorem dX7_hold_25 : decode cX7_hold 25 = .ok (.invokevirtual 177, 3) := by decide +kernel
theorem dX7_hold_28 : decode cX7_hold 28 = .ok (.ifCond .eq 7, 3) := by decide +kernel
theorem dX7_hold_31 : decode cX7_hold 31 = .ok (.iconst 1, 1) := by decide +kernel
theorem dX7_hold_32 : decode cX7_hold 32 = .ok (.goto 4, 3) := by decide +kernel
theorem dX7_hold_35 : decode cX7_hold 35 = .ok (.iconst 0, 1) := by decide +kernel
theorem dX7_hold_36 : decode cX7_hold 36 = .ok (.ireturn, 1) := by decide +kernel
theorem dX7_hangs_0 : decode cX7_hangs 0 = .ok (.iload_n 1, 1) := by decide +kernel
theorem dX7_hangs_1 : decode cX7_hangs 1 = .ok (.invokestatic 117, 3) := by decide +kernel
theorem dX7_hangs_4 : decode cX7_hangs 4 = .ok (.ifCond .eq 10, 3) := by decide +kernel
theorem dX7_hangs_7 : decode cX7_hangs 7 = .ok (.iload_n 2, 1) := by decide +kernel
theorem dX7_hangs_8 : decode cX7_hangs 8 = .ok (.invokestatic 127, 3) := by decide +kernel
theorem dX7_hangs_11 : decode cX7_hangs 11 = .ok (.ifCond .ne 6, 3) := by decide +kernel
theorem dX7_hangs_14 : decode cX7_hangs 14 = .ok (.bipush (-2), 2) := by decide +kernel
theorem dX7_hangs_16 : decode cX7_hangs 16 = .ok (.ireturn, 1) := by decide +kernel
theorem dX7_hangs_17 : decode cX7_hangs 17 = .ok (.aload_n 0, 1) := by decide +kernel
theorem dX7_hangs_18 : decode cX7_hangs 18 = .ok (.aload_n 0, 1) := by decide +kernel
theorem dX7_hangs_19 : decode cX7_hangs 19 = .ok (.getfield 77, 3) := by decide +kernel
theorem dX7_hangs_22 : decode cX7_hangs 22 = .ok (.iload_n 1, 1) := by decide +kernel
theorem dX7_hangs_23 : decode cX7_hangs 23 = .ok (.iload_n 2, 1) := by decide +kernel
theorem dX7_hangs_24 : decode cX7_hangs 24 = .ok (.iconst 0, 1) := by decide +kernel
theorem dX7_hangs_25 : decode cX7_hangs 25 = .ok (.invokevirtual 177, 3) := by decide +kernel
theorem dX7_hangs_28 : decode cX7_hangs 28 = .ok (.ifCond .ne 6, 3) := by decide +kernel
theorem dX7_hangs_31 : decode cX7_hangs 31 = .ok (.bipush (-9), 2) := by decide +kernel
theorem dX7_hangs_33 : decode cX7_hangs 33 = .ok (.ireturn, 1) := by decide +kernel
theorem dX7_hangs_34 : decode cX7_hangs 34 = .ok (.iconst 0, 1) := by decide +kernel
theorem dX7_hangs_35 : decode cX7_hangs 35 = .ok (.istore_n 3, 1) := by decide +kernel
theorem dX7_hangs_36 : decode cX7_hangs 36 = .ok (.iconst 0, 1) := by decide +kernel
theorem dX7_hangs_37 : decode cX7_hangs 37 = .ok (.istore 4, 2) := by decide +kernel
theorem dX7_hangs_39 : decode cX7_hangs 39 = .ok (.iload 4, 2) := by decide +kernel
theorem dX7_hangs_41 : decode cX7_hangs 41 = .ok (.iconst 5, 1) := by decide +kernel
theorem dX7_hangs_42 : decode cX7_hangs 42 = .ok (.if_icmp .ge 60, 3) := by decide +kernel
theorem dX7_hangs_45 : decode cX7_hangs 45 = .ok (.aload_n 0, 1) := by decide +kernel
theorem dX7_hangs_46 : decode cX7_hangs 46 = .ok (.getfield 77, 3) := by decide +kernel
theorem dX7_hangs_49 : decode cX7_hangs 49 = .ok (.iload 4, 2) := by decide +kernel
theorem dX7_hangs_51 : decode cX7_hangs 51 = .ok (.invokestatic 104, 3) := by decide +kernel
theorem dX7_hangs_54 : decode cX7_hangs 54 = .ok (.ifCond .eq 7, 3) := by decide +kernel
theorem dX7_hangs_57 : decode cX7_hangs 57 = .ok (.iconst 1, 1) := by decide +kernel
theorem dX7_hangs_58 : decode cX7_hangs 58 = .ok (.goto 4, 3) := by decide +kernel
theorem dX7_hangs_61 : decode cX7_hangs 61 = .ok (.iconst 0, 1) := by decide +kernel
theorem dX7_hangs_62 : decode cX7_hangs 62 = .ok (.istore 5, 2) := by decide +kernel
theorem dX7_hangs_64 : decode cX7_hangs 64 = .ok (.iload 5, 2) := by decide +kernel
theorem dX7_hangs_66 : decode cX7_hangs 66 = .ok (.ifCond .eq 30, 3) := by decide +kernel
theorem dX7_hangs_69 : decode cX7_hangs 69 = .ok (.aload_n 0, 1) := by decide +kernel
theorem dX7_hangs_70 : decode cX7_hangs 70 = .ok (.aload_n 0, 1) := by decide +kernel
theorem dX7_hangs_71 : decode cX7_hangs 71 = .ok (.getfield 77, 3) := by decide +kernel
theorem dX7_hangs_74 : decode cX7_hangs 74 = .ok (.iload 4, 2) := by decide +kernel
theorem dX7_hangs_76 : decode cX7_hangs 76 = .ok (.iconst 0, 1) := by decide +kernel
theorem dX7_hangs_77 : decode cX7_hangs 77 = .ok (.invokestatic 81, 3) := by decide +kernel
theorem dX7_hangs_80 : decode cX7_hangs 80 = .ok (.iload_n 1, 1) := by decide +kernel
theorem dX7_hangs_81 : decode cX7_hangs 81 = .ok (.iload_n 2, 1) := by decide +kernel
theorem dX7_hangs_82 : decode cX7_hangs 82 = .ok (.iconst 0, 1) := by decide +kernel
theorem dX7_hangs_83 : decode cX7_hangs 83 = .ok (.invokevirtual 177, 3) := by decide +kernel
theorem dX7_hangs_86 : decode cX7_hangs 86 = .ok (.ifCond .ne 10, 3) := by decide +kernel
theorem dX7_hangs_89 : decode cX7_hangs 89 = .ok (.iload_n 3, 1) := by decide +kernel
theorem dX7_hangs_90 : decode cX7_hangs 90 = .ok (.iconst 1, 1) := by decide +kernel
theorem dX7_hangs_91 : decode cX7_hangs 91 = .ok (.iload 4, 2) := by decide +kernel
theorem dX7_hangs_93 : decode cX7_hangs 93 = .ok (.ishl, 1) := by decide +kernel
theorem dX7_hangs_94 : decode cX7_hangs 94 = .ok (.ior, 1) := by decide +kernel
theorem dX7_hangs_95 : decode cX7_hangs 95 = .ok (.istore_n 3, 1) := by decide +kernel
theorem dX7_hangs_96 : decode cX7_hangs 96 = .ok (.iinc 4 1, 3) := by decide +kernel
theorem dX7_hangs_99 : decode cX7_hangs 99 = .ok (.goto (-60), 3) := by decide +kernel
theorem dX7_hangs_102 : decode cX7_hangs 102 = .ok (.iload_n 3, 1) := by decide +kernel
theorem dX7_hangs_103 : decode cX7_hangs 103 = .ok (.ireturn, 1) := by decide +kernel
theorem dX7_remedy_0 : decode cX7_remedy 0 = .ok (.iload_n 1, 1) := by decide +kernel
theorem dX7_remedy_1 : decode cX7_remedy 1 = .ok (.invokestatic 117, 3) := by decide +kernel
theorem dX7_remedy_4 : decode cX7_remedy 4 = .ok (.ifCond .eq 10, 3) := by decide +kernel
theorem dX7_remedy_7 : decode cX7_remedy 7 = .ok (.iload_n 2, 1) := by decide +kernel
theorem dX7_remedy_8 : decode cX7_remedy 8 = .ok (.invokestatic 127, 3) := by decide +kernel
theorem dX7_remedy_11 : decode cX7_remedy 11 = .ok (.ifCond .ne 6, 3) := by decide +kernel
theorem dX7_remedy_14 : decode cX7_remedy 14 = .ok (.bipush (-2), 2) := by decide +kernel
theorem dX7_remedy_16 : decode cX7_remedy 16 = .ok (.ireturn, 1) := by decide +kernel
theorem dX7_remedy_17 : decode cX7_remedy 17 = .ok (.iconst 0, 1) := by decide +kernel
theorem dX7_remedy_18 : decode cX7_remedy 18 = .ok (.istore_n 3, 1) := by decide +kernel
theorem dX7_remedy_19 : decode cX7_remedy 19 = .ok (.iload_n 3, 1) := by decide +kernel
theorem dX7_remedy_20 : decode cX7_remedy 20 = .ok (.iconst 5, 1) := by decide +kernel
theorem dX7_remedy_21 : decode cX7_remedy 21 = .ok (.if_icmp .ge 27, 3) := by decide +kernel
theorem dX7_remedy_24 : decode cX7_remedy 24 = .ok (.aload_n 0, 1) := by decide +kernel
theorem dX7_remedy_25 : decode cX7_remedy 25 = .ok (.aload_n 0, 1) := by decide +kernel
theorem dX7_remedy_26 : decode cX7_remedy 26 = .ok (.getfield 77, 3) := by decide +kernel
theorem dX7_remedy_29 : decode cX7_remedy 29 = .ok (.iload_n 1, 1) := by decide +kernel
theorem dX7_remedy_30 : decode cX7_remedy 30 = .ok (.iload_n 2, 1) := by decide +kernel
theorem dX7_remedy_31 : decode cX7_remedy 31 = .ok (.iconst 1, 1) := by decide +kernel
theorem dX7_remedy_32 : decode cX7_remedy 32 = .ok (.iload_n 3, 1) := by decide +kernel
theorem dX7_remedy_33 : decode cX7_remedy 33 = .ok (.ishl, 1) := by decide +kernel
theorem dX7_remedy_34 : decode cX7_remedy 34 = .ok (.invokevirtual 177, 3) := by decide +kernel
theorem dX7_remedy_37 : decode cX7_remedy 37 = .ok (.ifCond .eq 5, 3) := by decide +kernel
theorem dX7_remedy_40 : decode cX7_remedy 40 = .ok (.iload_n 3, 1) := by decide +kernel
theorem dX7_remedy_41 : decode cX7_remedy 41 = .ok (.ireturn, 1) := by decide +kernel
theorem dX7_remedy_42 : decode cX7_remedy 42 = .ok (.iinc 3 1, 3) := by decide +kernel
theorem dX7_remedy_45 : decode cX7_remedy 45 = .ok (.goto (-26), 3) := by decide +kernel
theorem dX7_remedy_48 : decode cX7_remedy 48 = .ok (.bipush (-9), 2) := by decide +kernel
theorem dX7_remedy_50 : decode cX7_remedy 50 = .ok (.ireturn, 1) := by decide +kernel
theorem dX7_sure_0 : decode cX7_sure 0 = .ok (.iload_n 1, 1) := by decide +kernel
theorem dX7_sure_1 : decode cX7_sure 1 = .ok (.iload_n 2, 1) := by decide +kernel
theorem dX7_sure_2 : decode cX7_sure 2 = .ok (.iload_n 3, 1) := by decide +kernel
theorem dX7_sure_3 : decode cX7_sure 3 = .ok (.iload 4, 2) := by decide +kernel
theorem dX7_sure_5 : decode cX7_sure 5 = .ok (.invokestatic 188, 3) := by decide +kernel
theorem dX7_sure_8 : decode cX7_sure 8 = .ok (.ifCond .ne 6, 3) := by decide +kernel
theorem dX7_sure_11 : decode cX7_sure 11 = .ok (.bipush (-2), 2) := by decide +kernel
theorem dX7_sure_13 : decode cX7_sure 13 = .ok (.ireturn, 1) := by decide +kernel
theorem dX7_sure_14 : decode cX7_sure 14 = .ok (.aload_n 0, 1) := by decide +kernel
theorem dX7_sure_15 : decode cX7_sure 15 = .ok (.iload_n 1, 1) := by decide +kernel
theorem dX7_sure_16 : decode cX7_sure 16 = .ok (.iload_n 2, 1) := by decide +kernel
theorem dX7_sure_17 : decode cX7_sure 17 = .ok (.iload_n 3, 1) := by decide +kernel
theorem dX7_sure_18 : decode cX7_sure 18 = .ok (.iload 4, 2) := by decide +kernel
theorem dX7_sure_20 : decode cX7_sure 20 = .ok (.invokevirtual 191, 3) := by decide +kernel
theorem dX7_sure_23 : decode cX7_sure 23 = .ok (.aload_n 0, 1) := by decide +kernel
theorem dX7_sure_24 : decode cX7_sure 24 = .ok (.getfield 38, 3) := by decide +kernel
theorem dX7_sure_27 : decode cX7_sure 27 = .ok (.aload_n 0, 1) := by decide +kernel
theorem dX7_sure_28 : decode cX7_sure 28 = .ok (.getfield 77, 3) := by decide +kernel
theorem dX7_sure_31 : decode cX7_sure 31 = .ok (.iconst 2, 1) := by decide +kernel
theorem dX7_sure_32 : decode cX7_sure 32 = .ok (.iload 4, 2) := by decide +kernel
theorem dX7_sure_34 : decode cX7_sure 34 = .ok (.imul, 1) := by decide +kernel
theorem dX7_sure_35 : decode cX7_sure 35 = .ok (.invokevirtual 195, 3) := by decide +kernel
theorem dX7_sure_38 : decode cX7_sure 38 = .ok (.ifCond .eq 7, 3) := by decide +kernel
theorem dX7_sure_41 : decode cX7_sure 41 = .ok (.iconst 1, 1) := by decide +kernel
theorem dX7_sure_42 : decode cX7_sure 42 = .ok (.goto 4, 3) := by decide +kernel
theorem dX7_sure_45 : decode cX7_sure 45 = .ok (.iconst 0, 1) := by decide +kernel
theorem dX7_sure_46 : decode cX7_sure 46 = .ok (.ireturn, 1) := by decide +kernel
theorem dX7_begin_0 : decode cX7_begin 0 = .ok (.iload_n 1, 1) := by decide +kernel
theorem dX7_begin_1 : decode cX7_begin 1 = .ok (.iload_n 2, 1) := by decide +kernel
theorem dX7_begin_2 : decode cX7_begin 2 = .ok (.iload_n 3, 1) := by decide +kernel
theorem dX7_begin_3 : decode cX7_begin 3 = .ok (.iload 4, 2) := by decide +kernel
theorem dX7_begin_5 : decode cX7_begin 5 = .ok (.invokestatic 188, 3) := by decide +kernel
theorem dX7_begin_8 : decode cX7_begin 8 = .ok (.ifCond .ne 6, 3) := by decide +kernel
theorem dX7_begin_11 : decode cX7_begin 11 = .ok (.bipush (-2), 2) := by decide +kernel
theorem dX7_begin_13 : decode cX7_begin 13 = .ok (.ireturn, 1) := by decide +kernel
theorem dX7_begin_14 : decode cX7_begin 14 = .ok (.aload_n 0, 1) := by decide +kernel
theorem dX7_begin_15 : decode cX7_begin 15 = .ok (.iload_n 1, 1) := by decide +kernel
theorem dX7_begin_16 : decode cX7_begin 16 = .ok (.iload_n 2, 1) := by decide +kernel
theorem dX7_begin_17 : decode cX7_begin 17 = .ok (.iload_n 3, 1) := by decide +kernel
theorem dX7_begin_18 : decode cX7_begin 18 = .ok (.iload 4, 2) := by decide +kernel
theorem dX7_begin_20 : decode cX7_begin 20 = .ok (.invokevirtual 191, 3) := by decide +kernel
theorem dX7_begin_23 : decode cX7_begin 23 = .ok (.aload_n 0, 1) := by decide +kernel
theorem dX7_begin_24 : decode cX7_begin 24 = .ok (.getfield 38, 3) := by decide +kernel
theorem dX7_begin_27 : decode cX7_begin 27 = .ok (.aload_n 0, 1) := by decide +kernel
theorem dX7_begin_28 : decode cX7_begin 28 = .ok (.getfield 77, 3) := by decide +kernel
theorem dX7_begin_31 : decode cX7_begin 31 = .ok (.iconst 2, 1) := by decide +kernel
theorem dX7_begin_32 : decode cX7_begin 32 = .ok (.iload 4, 2) := by decide +kernel
theorem dX7_begin_34 : decode cX7_begin 34 = .ok (.imul, 1) := by decide +kernel
theorem dX7_begin_35 : decode cX7_begin 35 = .ok (.invokevirtual 195, 3) := by decide +kernel
theorem dX7_begin_38 : decode cX7_begin 38 = .ok (.ifCond .eq 23, 3) := by decide +kernel
theorem dX7_begin_41 : decode cX7_begin 41 = .ok (.aload_n 0, 1) := by decide +kernel
theorem dX7_begin_42 : decode cX7_begin 42 = .ok (.getfield 38, 3) := by decide +kernel
theorem dX7_begin_45 : decode cX7_begin 45 = .ok (.aload_n 0, 1) := by decide +kernel
theorem dX7_begin_46 : decode cX7_begin 46 = .ok (.getfield 77, 3) := by decide +kernel
theorem dX7_begin_49 : decode cX7_begin 49 = .ok (.iconst 2, 1) := by decide +kernel
theorem dX7_begin_50 : decode cX7_begin 50 = .ok (.iload 4, 2) := by decide +kernel
theorem dX7_begin_52 : decode cX7_begin 52 = .ok (.imul, 1) := by decide +kernel
theorem dX7_begin_53 : decode cX7_begin 53 = .ok (.iconst 1, 1) := by decide +kernel
theorem dX7_begin_54 : decode cX7_begin 54 = .ok (.isub, 1) := by decide +kernel
theorem dX7_begin_55 : decode cX7_begin 55 = .ok (.invokevirtual 195, 3) := by decide +kernel
theorem dX7_begin_58 : decode cX7_begin 58 = .ok (.ifCond .eq 6, 3) := by decide +kernel
theorem dX7_begin_61 : decode cX7_begin 61 = .ok (.bipush (-9), 2) := by decide +kernel
theorem dX7_begin_63 : decode cX7_begin 63 = .ok (.ireturn, 1) := by decide +kernel
theorem dX7_begin_64 : decode cX7_begin 64 = .ok (.aload_n 0, 1) := by decide +kernel
theorem dX7_begin_65 : decode cX7_begin 65 = .ok (.getfield 28, 3) := by decide +kernel
theorem dX7_begin_68 : decode cX7_begin 68 = .ok (.aload_n 0, 1) := by decide +kernel
theorem dX7_begin_69 : decode cX7_begin 69 = .ok (.getfield 77, 3) := by decide +kernel
theorem dX7_begin_72 : decode cX7_begin 72 = .ok (.invokevirtual 198, 3) := by decide +kernel
theorem dX7_begin_75 : decode cX7_begin 75 = .ok (.aload_n 0, 1) := by decide +kernel
theorem dX7_begin_76 : decode cX7_begin 76 = .ok (.getfield 38, 3) := by decide +kernel
theorem dX7_begin_79 : decode cX7_begin 79 = .ok (.aload_n 0, 1) := by decide +kernel
theorem dX7_begin_80 : decode cX7_begin 80 = .ok (.getfield 28, 3) := by decide +kernel
theorem dX7_begin_83 : decode cX7_begin 83 = .ok (.iconst 2, 1) := by decide +kernel
theorem dX7_begin_84 : decode cX7_begin 84 = .ok (.iload 4, 2) := by decide +kernel
theorem dX7_begin_86 : decode cX7_begin 86 = .ok (.imul, 1) := by decide +kernel
theorem dX7_begin_87 : decode cX7_begin 87 = .ok (.iconst 1, 1) := by decide +kernel
theorem dX7_begin_88 : decode cX7_begin 88 = .ok (.isub, 1) := by decide +kernel
theorem dX7_begin_89 : decode cX7_begin 89 = .ok (.iconst 1, 1) := by decide +kernel
theorem dX7_begin_90 : decode cX7_begin 90 = .ok (.invokevirtual 201, 3) := by decide +kernel
theorem dX7_begin_93 : decode cX7_begin 93 = .ok (.ireturn, 1) := by decide +kernel
theorem dX7_idle_0 : decode cX7_idle 0 = .ok (.iload_n 1, 1) := by decide +kernel
theorem dX7_idle_1 : decode cX7_idle 1 = .ok (.invokestatic 117, 3) := by decide +kernel
theorem dX7_idle_4 : decode cX7_idle 4 = .ok (.ifCond .ne 6, 3) := by decide +kernel
theorem dX7_idle_7 : decode cX7_idle 7 = .ok (.bipush (-2), 2) := by decide +kernel
theorem dX7_idle_9 : decode cX7_idle 9 = .ok (.ireturn, 1) := by decide +kernel
theorem dX7_idle_10 : decode cX7_idle 10 = .ok (.iload_n 2, 1) := by decide +kernel
theorem dX7_idle_11 : decode cX7_idle 11 = .ok (.invokestatic 69, 3) := by decide +kernel
theorem dX7_idle_14 : decode cX7_idle 14 = .ok (.ifCond .ne 5, 3) := by decide +kernel
theorem dX7_idle_17 : decode cX7_idle 17 = .ok (.iconst (-1), 1) := by decide +kernel
theorem dX7_idle_18 : decode cX7_idle 18 = .ok (.ireturn, 1) := by decide +kernel
theorem dX7_idle_19 : decode cX7_idle 19 = .ok (.aload_n 0, 1) := by decide +kernel
theorem dX7_idle_20 : decode cX7_idle 20 = .ok (.iload_n 1, 1) := by decide +kernel
theorem dX7_idle_21 : decode cX7_idle 21 = .ok (.invokevirtual 153, 3) := by decide +kernel
theorem dX7_idle_24 : decode cX7_idle 24 = .ok (.aload_n 0, 1) := by decide +kernel
theorem dX7_idle_25 : decode cX7_idle 25 = .ok (.getfield 38, 3) := by decide +kernel
theorem dX7_idle_28 : decode cX7_idle 28 = .ok (.invokevirtual 205, 3) := by decide +kernel
theorem dX7_idle_31 : decode cX7_idle 31 = .ok (.istore_n 3, 1) := by decide +kernel
theorem dX7_idle_32 : decode cX7_idle 32 = .ok (.aload_n 0, 1) := by decide +kernel
theorem dX7_idle_33 : decode cX7_idle 33 = .ok (.getfield 28, 3) := by decide +kernel
theorem dX7_idle_36 : decode cX7_idle 36 = .ok (.iload_n 1, 1) := by decide +kernel
theorem dX7_idle_37 : decode cX7_idle 37 = .ok (.iconst 1, 1) := by decide +kernel
theorem dX7_idle_38 : decode cX7_idle 38 = .ok (.iload_n 2, 1) := by decide +kernel
theorem dX7_idle_39 : decode cX7_idle 39 = .ok (.ishl, 1) := by decide +kernel
