theorem dAd_agree_53 : decode prog_2_method_6_code 53 = .ok (.iaload, 1) := by decide +kernel
theorem dAd_agree_54 : decode prog_2_method_6_code 54 = .ok (.bipush (31), 2) := by decide +kernel
theorem dAd_agree_56 : decode prog_2_method_6_code 56 = .ok (.iand, 1) := by decide +kernel
theorem dAd_agree_57 : decode prog_2_method_6_code 57 = .ok (.istore_n 2, 1) := by decide +kernel
theorem dAd_agree_58 : decode prog_2_method_6_code 58 = .ok (.aload_n 0, 1) := by decide +kernel
theorem dAd_agree_59 : decode prog_2_method_6_code 59 = .ok (.getfield 27, 3) := by decide +kernel
theorem dAd_agree_62 : decode prog_2_method_6_code 62 = .ok (.aload_n 0, 1) := by decide +kernel
theorem dAd_agree_63 : decode prog_2_method_6_code 63 = .ok (.getfield 70, 3) := by decide +kernel
theorem dAd_agree_66 : decode prog_2_method_6_code 66 = .ok (.iaload, 1) := by decide +kernel
theorem dAd_agree_67 : decode prog_2_method_6_code 67 = .ok (.iconst (5), 1) := by decide +kernel
theorem dAd_agree_68 : decode prog_2_method_6_code 68 = .ok (.ishr, 1) := by decide +kernel
theorem dAd_agree_69 : decode prog_2_method_6_code 69 = .ok (.istore_n 3, 1) := by decide +kernel
theorem dAd_agree_70 : decode prog_2_method_6_code 70 = .ok (.aload_n 0, 1) := by decide +kernel
theorem dAd_agree_71 : decode prog_2_method_6_code 71 = .ok (.iload_n 2, 1) := by decide +kernel
theorem dAd_agree_72 : decode prog_2_method_6_code 72 = .ok (.iload_n 3, 1) := by decide +kernel
theorem dAd_agree_73 : decode prog_2_method_6_code 73 = .ok (.invokevirtual 77, 3) := by decide +kernel
theorem dAd_agree_76 : decode prog_2_method_6_code 76 = .ok (.ifCond .ne (5), 3) := by decide +kernel
theorem dAd_agree_79 : decode prog_2_method_6_code 79 = .ok (.iconst (0), 1) := by decide +kernel
theorem dAd_agree_80 : decode prog_2_method_6_code 80 = .ok (.ireturn, 1) := by decide +kernel
theorem dAd_agree_81 : decode prog_2_method_6_code 81 = .ok (.aload_n 0, 1) := by decide +kernel
theorem dAd_agree_82 : decode prog_2_method_6_code 82 = .ok (.iload_n 2, 1) := by decide +kernel
theorem dAd_agree_83 : decode prog_2_method_6_code 83 = .ok (.iload_n 3, 1) := by decide +kernel
theorem dAd_agree_84 : decode prog_2_method_6_code 84 = .ok (.invokevirtual 80, 3) := by decide +kernel
theorem dAd_agree_87 : decode prog_2_method_6_code 87 = .ok (.iinc 1 (1), 3) := by decide +kernel
theorem dAd_agree_90 : decode prog_2_method_6_code 90 = .ok (.goto (-69), 3) := by decide +kernel
theorem dAd_agree_93 : decode prog_2_method_6_code 93 = .ok (.iconst (1), 1) := by decide +kernel
theorem dAd_agree_94 : decode prog_2_method_6_code 94 = .ok (.ireturn, 1) := by decide +kernel
theorem dAd_keepFound_0 : decode prog_2_method_5_code 0 = .ok (.iconst (0), 1) := by decide +kernel
theorem dAd_keepFound_1 : decode prog_2_method_5_code 1 = .ok (.istore_n 1, 1) := by decide +kernel
theorem dAd_keepFound_2 : decode prog_2_method_5_code 2 = .ok (.iconst (0), 1) := by decide +kernel
theorem dAd_keepFound_3 : decode prog_2_method_5_code 3 = .ok (.istore_n 2, 1) := by decide +kernel
theorem dAd_keepFound_4 : decode prog_2_method_5_code 4 = .ok (.iload_n 2, 1) := by decide +kernel
theorem dAd_keepFound_5 : decode prog_2_method_5_code 5 = .ok (.aload_n 0, 1) := by decide +kernel
theorem dAd_keepFound_6 : decode prog_2_method_5_code 6 = .ok (.getfield 41, 3) := by decide +kernel
theorem dAd_keepFound_9 : decode prog_2_method_5_code 9 = .ok (.if_icmp .ge (27), 3) := by decide +kernel
theorem dAd_keepFound_12 : decode prog_2_method_5_code 12 = .ok (.iload_n 1, 1) := by decide +kernel
theorem dAd_keepFound_13 : decode prog_2_method_5_code 13 = .ok (.aload_n 0, 1) := by decide +kernel
theorem dAd_keepFound_14 : decode prog_2_method_5_code 14 = .ok (.getfield 18, 3) := by decide +kernel
theorem dAd_keepFound_17 : decode prog_2_method_5_code 17 = .ok (.aload_n 0, 1) := by decide +kernel
theorem dAd_keepFound_18 : decode prog_2_method_5_code 18 = .ok (.getfield 15, 3) := by decide +kernel
theorem dAd_keepFound_21 : decode prog_2_method_5_code 21 = .ok (.iload_n 2, 1) := by decide +kernel
theorem dAd_keepFound_22 : decode prog_2_method_5_code 22 = .ok (.iaload, 1) := by decide +kernel
theorem dAd_keepFound_23 : decode prog_2_method_5_code 23 = .ok (.iaload, 1) := by decide +kernel
theorem dAd_keepFound_24 : decode prog_2_method_5_code 24 = .ok (.iconst (4), 1) := by decide +kernel
theorem dAd_keepFound_25 : decode prog_2_method_5_code 25 = .ok (.iload_n 2, 1) := by decide +kernel
theorem dAd_keepFound_26 : decode prog_2_method_5_code 26 = .ok (.imul, 1) := by decide +kernel
theorem dAd_keepFound_27 : decode prog_2_method_5_code 27 = .ok (.ishl, 1) := by decide +kernel
theorem dAd_keepFound_28 : decode prog_2_method_5_code 28 = .ok (.ior, 1) := by decide +kernel
theorem dAd_keepFound_29 : decode prog_2_method_5_code 29 = .ok (.istore_n 1, 1) := by decide +kernel
theorem dAd_keepFound_30 : decode prog_2_method_5_code 30 = .ok (.iinc 2 (1), 3) := by decide +kernel
theorem dAd_keepFound_33 : decode prog_2_method_5_code 33 = .ok (.goto (-29), 3) := by decide +kernel
theorem dAd_keepFound_36 : decode prog_2_method_5_code 36 = .ok (.aload_n 0, 1) := by decide +kernel
theorem dAd_keepFound_37 : decode prog_2_method_5_code 37 = .ok (.getfield 37, 3) := by decide +kernel
theorem dAd_keepFound_40 : decode prog_2_method_5_code 40 = .ok (.sipush (6720), 3) := by decide +kernel
theorem dAd_keepFound_43 : decode prog_2_method_5_code 43 = .ok (.if_icmp .ge (23), 3) := by decide +kernel
theorem dAd_keepFound_46 : decode prog_2_method_5_code 46 = .ok (.aload_n 0, 1) := by decide +kernel
theorem dAd_keepFound_47 : decode prog_2_method_5_code 47 = .ok (.getfield 9, 3) := by decide +kernel
theorem dAd_keepFound_50 : decode prog_2_method_5_code 50 = .ok (.aload_n 0, 1) := by decide +kernel
theorem dAd_keepFound_51 : decode prog_2_method_5_code 51 = .ok (.getfield 37, 3) := by decide +kernel
theorem dAd_keepFound_54 : decode prog_2_method_5_code 54 = .ok (.iload_n 1, 1) := by decide +kernel
theorem dAd_keepFound_55 : decode prog_2_method_5_code 55 = .ok (.iastore, 1) := by decide +kernel
theorem dAd_keepFound_56 : decode prog_2_method_5_code 56 = .ok (.aload_n 0, 1) := by decide +kernel
theorem dAd_keepFound_57 : decode prog_2_method_5_code 57 = .ok (.dup, 1) := by decide +kernel
theorem dAd_keepFound_58 : decode prog_2_method_5_code 58 = .ok (.getfield 37, 3) := by decide +kernel
theorem dAd_keepFound_61 : decode prog_2_method_5_code 61 = .ok (.iconst (1), 1) := by decide +kernel
theorem dAd_keepFound_62 : decode prog_2_method_5_code 62 = .ok (.iadd, 1) := by decide +kernel
theorem dAd_keepFound_63 : decode prog_2_method_5_code 63 = .ok (.putfield 37, 3) := by decide +kernel
theorem dAd_keepFound_66 : decode prog_2_method_5_code 66 = .ok (.return_, 1) := by decide +kernel
theorem dAd_assign_0 : decode prog_2_method_4_code 0 = .ok (.aload_n 0, 1) := by decide +kernel
theorem dAd_assign_1 : decode prog_2_method_4_code 1 = .ok (.invokevirtual 63, 3) := by decide +kernel
theorem dAd_assign_4 : decode prog_2_method_4_code 4 = .ok (.ifCond .ne (4), 3) := by decide +kernel
theorem dAd_assign_7 : decode prog_2_method_4_code 7 = .ok (.return_, 1) := by decide +kernel
theorem dAd_assign_8 : decode prog_2_method_4_code 8 = .ok (.iload_n 1, 1) := by decide +kernel
theorem dAd_assign_9 : decode prog_2_method_4_code 9 = .ok (.aload_n 0, 1) := by decide +kernel
theorem dAd_assign_10 : decode prog_2_method_4_code 10 = .ok (.getfield 41, 3) := by decide +kernel
theorem dAd_assign_13 : decode prog_2_method_4_code 13 = .ok (.if_icmp .lt (8), 3) := by decide +kernel
theorem dAd_assign_16 : decode prog_2_method_4_code 16 = .ok (.aload_n 0, 1) := by decide +kernel
theorem dAd_assign_17 : decode prog_2_method_4_code 17 = .ok (.invokevirtual 67, 3) := by decide +kernel
theorem dAd_assign_20 : decode prog_2_method_4_code 20 = .ok (.return_, 1) := by decide +kernel
theorem dAd_assign_21 : decode prog_2_method_4_code 21 = .ok (.aload_n 0, 1) := by decide +kernel
theorem dAd_assign_22 : decode prog_2_method_4_code 22 = .ok (.getfield 15, 3) := by decide +kernel
theorem dAd_assign_25 : decode prog_2_method_4_code 25 = .ok (.iload_n 1, 1) := by decide +kernel
theorem dAd_assign_26 : decode prog_2_method_4_code 26 = .ok (.iaload, 1) := by decide +kernel
theorem dAd_assign_27 : decode prog_2_method_4_code 27 = .ok (.istore_n 2, 1) := by decide +kernel
theorem dAd_assign_28 : decode prog_2_method_4_code 28 = .ok (.iconst (0), 1) := by decide +kernel
theorem dAd_assign_29 : decode prog_2_method_4_code 29 = .ok (.istore_n 3, 1) := by decide +kernel
theorem dAd_assign_30 : decode prog_2_method_4_code 30 = .ok (.iload_n 3, 1) := by decide +kernel
theorem dAd_assign_31 : decode prog_2_method_4_code 31 = .ok (.bipush (8), 2) := by decide +kernel
theorem dAd_assign_33 : decode prog_2_method_4_code 33 = .ok (.if_icmp .ge (54), 3) := by decide +kernel
theorem dAd_assign_36 : decode prog_2_method_4_code 36 = .ok (.aload_n 0, 1) := by decide +kernel
theorem dAd_assign_37 : decode prog_2_method_4_code 37 = .ok (.getfield 21, 3) := by decide +kernel
theorem dAd_assign_40 : decode prog_2_method_4_code 40 = .ok (.iload_n 3, 1) := by decide +kernel
theorem dAd_assign_41 : decode prog_2_method_4_code 41 = .ok (.iaload, 1) := by decide +kernel
theorem dAd_assign_42 : decode prog_2_method_4_code 42 = .ok (.iconst (-1), 1) := by decide +kernel
theorem dAd_assign_43 : decode prog_2_method_4_code 43 = .ok (.if_icmp .ne (38), 3) := by decide +kernel
theorem dAd_assign_46 : decode prog_2_method_4_code 46 = .ok (.aload_n 0, 1) := by decide +kernel
theorem dAd_assign_47 : decode prog_2_method_4_code 47 = .ok (.getfield 18, 3) := by decide +kernel
theorem dAd_assign_50 : decode prog_2_method_4_code 50 = .ok (.iload_n 2, 1) := by decide +kernel
theorem dAd_assign_51 : decode prog_2_method_4_code 51 = .ok (.iload_n 3, 1) := by decide +kernel
theorem dAd_assign_52 : decode prog_2_method_4_code 52 = .ok (.iastore, 1) := by decide +kernel
theorem dAd_assign_53 : decode prog_2_method_4_code 53 = .ok (.aload_n 0, 1) := by decide +kernel
theorem dAd_assign_54 : decode prog_2_method_4_code 54 = .ok (.getfield 21, 3) := by decide +kernel
theorem dAd_assign_57 : decode prog_2_method_4_code 57 = .ok (.iload_n 3, 1) := by decide +kernel
theorem dAd_assign_58 : decode prog_2_method_4_code 58 = .ok (.iload_n 2, 1) := by decide +kernel
theorem dAd_assign_59 : decode prog_2_method_4_code 59 = .ok (.iastore, 1) := by decide +kernel
theorem dAd_assign_60 : decode prog_2_method_4_code 60 = .ok (.aload_n 0, 1) := by decide +kernel
theorem dAd_assign_61 : decode prog_2_method_4_code 61 = .ok (.iload_n 1, 1) := by decide +kernel
theorem dAd_assign_62 : decode prog_2_method_4_code 62 = .ok (.iconst (1), 1) := by decide +kernel
theorem dAd_assign_63 : decode prog_2_method_4_code 63 = .ok (.iadd, 1) := by decide +kernel
theorem dAd_assign_64 : decode prog_2_method_4_code 64 = .ok (.invokevirtual 59, 3) := by decide +kernel
theorem dAd_assign_67 : decode prog_2_method_4_code 67 = .ok (.aload_n 0, 1) := by decide +kernel
theorem dAd_assign_68 : decode prog_2_method_4_code 68 = .ok (.getfield 18, 3) := by decide +kernel
theorem dAd_assign_71 : decode prog_2_method_4_code 71 = .ok (.iload_n 2, 1) := by decide +kernel
theorem dAd_assign_72 : decode prog_2_method_4_code 72 = .ok (.iconst (-1), 1) := by decide +kernel
theorem dAd_assign_73 : decode prog_2_method_4_code 73 = .ok (.iastore, 1) := by decide +kernel
theorem dAd_assign_74 : decode prog_2_method_4_code 74 = .ok (.aload_n 0, 1) := by decide +kernel
theorem dAd_assign_75 : decode prog_2_method_4_code 75 = .ok (.getfield 21, 3) := by decide +kernel
theorem dAd_assign_78 : decode prog_2_method_4_code 78 = .ok (.iload_n 3, 1) := by decide +kernel
theorem dAd_assign_79 : decode prog_2_method_4_code 79 = .ok (.iconst (-1), 1) := by decide +kernel
theorem dAd_assign_80 : decode prog_2_method_4_code 80 = .ok (.iastore, 1) := by decide +kernel
theorem dAd_assign_81 : decode prog_2_method_4_code 81 = .ok (.iinc 3 (1), 3) := by decide +kernel
theorem dAd_assign_84 : decode prog_2_method_4_code 84 = .ok (.goto (-54), 3) := by decide +kernel
theorem dAd_assign_87 : decode prog_2_method_4_code 87 = .ok (.return_, 1) := by decide +kernel
theorem dAd_find_0 : decode prog_2_method_2_code 0 = .ok (.aload_n 1, 1) := by decide +kernel
theorem dAd_find_1 : decode prog_2_method_2_code 1 = .ok (.aload_n 0, 1) := by decide +kernel
theorem dAd_find_2 : decode prog_2_method_2_code 2 = .ok (.getfield 30, 3) := by decide +kernel
theorem dAd_find_5 : decode prog_2_method_2_code 5 = .ok (.if_acmp .ne (12), 3) := by decide +kernel
theorem dAd_find_8 : decode prog_2_method_2_code 8 = .ok (.aload_n 2, 1) := by decide +kernel
theorem dAd_find_9 : decode prog_2_method_2_code 9 = .ok (.aload_n 0, 1) := by decide +kernel
theorem dAd_find_10 : decode prog_2_method_2_code 10 = .ok (.getfield 34, 3) := by decide +kernel
theorem dAd_find_13 : decode prog_2_method_2_code 13 = .ok (.if_acmp .ne (4), 3) := by decide +kernel
theorem dAd_find_16 : decode prog_2_method_2_code 16 = .ok (.return_, 1) := by decide +kernel
theorem dAd_find_17 : decode prog_2_method_2_code 17 = .ok (.aload_n 0, 1) := by decide +kernel
theorem dAd_find_18 : decode prog_2_method_2_code 18 = .ok (.aload_n 1, 1) := by decide +kernel
theorem dAd_find_19 : decode prog_2_method_2_code 19 = .ok (.putfield 30, 3) := by decide +kernel
theorem dAd_find_22 : decode prog_2_method_2_code 22 = .ok (.aload_n 0, 1) := by decide +kernel
theorem dAd_find_23 : decode prog_2_method_2_code 23 = .ok (.aload_n 2, 1) := by decide +kernel
theorem dAd_find_24 : decode prog_2_method_2_code 24 = .ok (.putfield 34, 3) := by decide +kernel
theorem dAd_find_27 : decode prog_2_method_2_code 27 = .ok (.aload_n 0, 1) := by decide +kernel
theorem dAd_find_28 : decode prog_2_method_2_code 28 = .ok (.iconst (0), 1) := by decide +kernel
theorem dAd_find_29 : decode prog_2_method_2_code 29 = .ok (.putfield 37, 3) := by decide +kernel
theorem dAd_find_32 : decode prog_2_method_2_code 32 = .ok (.aload_n 0, 1) := by decide +kernel
theorem dAd_find_33 : decode prog_2_method_2_code 33 = .ok (.iconst (0), 1) := by decide +kernel
theorem dAd_find_34 : decode prog_2_method_2_code 34 = .ok (.putfield 41, 3) := by decide +kernel
theorem dAd_find_37 : decode prog_2_method_2_code 37 = .ok (.aload_n 0, 1) := by decide +kernel
theorem dAd_find_38 : decode prog_2_method_2_code 38 = .ok (.getfield 18, 3) := by decide +kernel
theorem dAd_find_41 : decode prog_2_method_2_code 41 = .ok (.iconst (-1), 1) := by decide +kernel
theorem dAd_find_42 : decode prog_2_method_2_code 42 = .ok (.invokestatic 44, 3) := by decide +kernel
theorem dAd_find_45 : decode prog_2_method_2_code 45 = .ok (.aload_n 0, 1) := by decide +kernel
theorem dAd_find_46 : decode prog_2_method_2_code 46 = .ok (.getfield 21, 3) := by decide +kernel
theorem dAd_find_49 : decode prog_2_method_2_code 49 = .ok (.iconst (-1), 1) := by decide +kernel
theorem dAd_find_50 : decode prog_2_method_2_code 50 = .ok (.invokestatic 44, 3) := by decide +kernel
theorem dAd_find_53 : decode prog_2_method_2_code 53 = .ok (.aload_n 0, 1) := by decide +kernel
theorem dAd_find_54 : decode prog_2_method_2_code 54 = .ok (.getfield 30, 3) := by decide +kernel
theorem dAd_find_57 : decode prog_2_method_2_code 57 = .ok (.invokevirtual 50, 3) := by decide +kernel
theorem dAd_find_60 : decode prog_2_method_2_code 60 = .ok (.istore_n 3, 1) := by decide +kernel
theorem dAd_find_61 : decode prog_2_method_2_code 61 = .ok (.iconst (0), 1) := by decide +kernel
theorem dAd_find_62 : decode prog_2_method_2_code 62 = .ok (.istore 4, 2) := by decide +kernel
theorem dAd_find_64 : decode prog_2_method_2_code 64 = .ok (.iload 4, 2) := by decide +kernel
theorem dAd_find_66 : decode prog_2_method_2_code 66 = .ok (.bipush (8), 2) := by decide +kernel
theorem dAd_find_68 : decode prog_2_method_2_code 68 = .ok (.if_icmp .ge (47), 3) := by decide +kernel
theorem dAd_find_71 : decode prog_2_method_2_code 71 = .ok (.aload_n 0, 1) := by decide +kernel
theorem dAd_find_72 : decode prog_2_method_2_code 72 = .ok (.getfield 41, 3) := by decide +kernel
theorem dAd_find_75 : decode prog_2_method_2_code 75 = .ok (.iconst (5), 1) := by decide +kernel
theorem dAd_find_76 : decode prog_2_method_2_code 76 = .ok (.if_icmp .ge (39), 3) := by decide +kernel
theorem dAd_find_79 : decode prog_2_method_2_code 79 = .ok (.iload_n 3, 1) := by decide +kernel
theorem dAd_find_80 : decode prog_2_method_2_code 80 = .ok (.iload 4, 2) := by decide +kernel
theorem dAd_find_82 : decode prog_2_method_2_code 82 = .ok (.invokestatic 55, 3) := by decide +kernel
theorem dAd_find_85 : decode prog_2_method_2_code 85 = .ok (.ifCond .eq (24), 3) := by decide +kernel
theorem dAd_find_88 : decode prog_2_method_2_code 88 = .ok (.aload_n 0, 1) := by decide +kernel
theorem dAd_find_89 : decode prog_2_method_2_code 89 = .ok (.getfield 15, 3) := by decide +kernel
theorem dAd_find_92 : decode prog_2_method_2_code 92 = .ok (.aload_n 0, 1) := by decide +kernel
theorem dAd_find_93 : decode prog_2_method_2_code 93 = .ok (.getfield 41, 3) := by decide +kernel
theorem dAd_find_96 : decode prog_2_method_2_code 96 = .ok (.iload 4, 2) := by decide +kernel
theorem dAd_find_98 : decode prog_2_method_2_code 98 = .ok (.iastore, 1) := by decide +kernel
theorem dAd_find_99 : decode prog_2_method_2_code 99 = .ok (.aload_n 0, 1) := by decide +kernel
theorem dAd_find_100 : decode prog_2_method_2_code 100 = .ok (.dup, 1) := by decide +kernel
theorem dAd_find_101 : decode prog_2_method_2_code 101 = .ok (.getfield 41, 3) := by decide +kernel
theorem dAd_find_104 : decode prog_2_method_2_code 104 = .ok (.iconst (1), 1) := by decide +kernel
theorem dAd_find_105 : decode prog_2_method_2_code 105 = .ok (.iadd, 1) := by decide +kernel
theorem dAd_find_106 : decode prog_2_method_2_code 106 = .ok (.putfield 41, 3) := by decide +kernel
theorem dAd_find_109 : decode prog_2_method_2_code 109 = .ok (.iinc 4 (1), 3) := by decide +kernel
theorem dAd_find_112 : decode prog_2_method_2_code 112 = .ok (.goto (-48), 3) := by decide +kernel
theorem dAd_find_115 : decode prog_2_method_2_code 115 = .ok (.aload_n 0, 1) := by decide +kernel
theorem dAd_find_116 : decode prog_2_method_2_code 116 = .ok (.iconst (0), 1) := by decide +kernel
theorem dAd_find_117 : decode prog_2_method_2_code 117 = .ok (.invokevirtual 59, 3) := by decide +kernel
theorem dAd_find_120 : decode prog_2_method_2_code 120 = .ok (.return_, 1) := by decide +kernel
theorem dC_adapt_0 : decode prog_1_method_45_code 0 = .ok (.aload_n 0, 1) := by decide +kernel
theorem dC_adapt_1 : decode prog_1_method_45_code 1 = .ok (.dup, 1) := by decide +kernel
theorem dC_adapt_2 : decode prog_1_method_45_code 2 = .ok (.getfield 283, 3) := by decide +kernel
theorem dC_adapt_5 : decode prog_1_method_45_code 5 = .ok (.iconst (1), 1) := by decide +kernel
theorem dC_adapt_6 : decode prog_1_method_45_code 6 = .ok (.iadd, 1) := by decide +kernel
theorem dC_adapt_7 : decode prog_1_method_45_code 7 = .ok (.putfield 283, 3) := by decide +kernel
theorem dC_adapt_10 : decode prog_1_method_45_code 10 = .ok (.aload_n 0, 1) := by decide +kernel
theorem dC_adapt_11 : decode prog_1_method_45_code 11 = .ok (.getfield 39, 3) := by decide +kernel
theorem dC_adapt_14 : decode prog_1_method_45_code 14 = .ok (.aload_n 0, 1) := by decide +kernel
theorem dC_adapt_15 : decode prog_1_method_45_code 15 = .ok (.getfield 18, 3) := by decide +kernel
theorem dC_adapt_18 : decode prog_1_method_45_code 18 = .ok (.iload_n 1, 1) := by decide +kernel
theorem dC_adapt_19 : decode prog_1_method_45_code 19 = .ok (.aaload, 1) := by decide +kernel
theorem dC_adapt_20 : decode prog_1_method_45_code 20 = .ok (.aload_n 0, 1) := by decide +kernel
theorem dC_adapt_21 : decode prog_1_method_45_code 21 = .ok (.getfield 18, 3) := by decide +kernel
theorem dC_adapt_24 : decode prog_1_method_45_code 24 = .ok (.iload_n 2, 1) := by decide +kernel
theorem dC_adapt_25 : decode prog_1_method_45_code 25 = .ok (.aaload, 1) := by decide +kernel
theorem dC_adapt_26 : decode prog_1_method_45_code 26 = .ok (.invokevirtual 313, 3) := by decide +kernel
theorem dC_adapt_29 : decode prog_1_method_45_code 29 = .ok (.return_, 1) := by decide +kernel
theorem dC_adapters_0 : decode prog_1_method_15_code 0 = .ok (.aload_n 0, 1) := by decide +kernel
theorem dC_adapters_1 : decode prog_1_method_15_code 1 = .ok (.iload_n 1, 1) := by decide +kernel
theorem dC_adapters_2 : decode prog_1_method_15_code 2 = .ok (.iload_n 2, 1) := by decide +kernel
theorem dC_adapters_3 : decode prog_1_method_15_code 3 = .ok (.iconst (0), 1) := by decide +kernel
theorem dC_adapters_4 : decode prog_1_method_15_code 4 = .ok (.invokevirtual 138, 3) := by decide +kernel
theorem dC_adapters_7 : decode prog_1_method_15_code 7 = .ok (.istore_n 3, 1) := by decide +kernel
theorem dC_adapters_8 : decode prog_1_method_15_code 8 = .ok (.iload_n 3, 1) := by decide +kernel
theorem dC_adapters_9 : decode prog_1_method_15_code 9 = .ok (.ifCond .eq (5), 3) := by decide +kernel
theorem dC_adapters_12 : decode prog_1_method_15_code 12 = .ok (.iload_n 3, 1) := by decide +kernel
theorem dC_adapters_13 : decode prog_1_method_15_code 13 = .ok (.ireturn, 1) := by decide +kernel
theorem dC_adapters_14 : decode prog_1_method_15_code 14 = .ok (.aload_n 0, 1) := by decide +kernel
theorem dC_adapters_15 : decode prog_1_method_15_code 15 = .ok (.iload_n 1, 1) := by decide +kernel
theorem dC_adapters_16 : decode prog_1_method_15_code 16 = .ok (.iload_n 2, 1) := by decide +kernel
theorem dC_adapters_17 : decode prog_1_method_15_code 17 = .ok (.invokevirtual 141, 3) := by decide +kernel
theorem dC_adapters_20 : decode prog_1_method_15_code 20 = .ok (.aload_n 0, 1) := by decide +kernel
theorem dC_adapters_21 : decode prog_1_method_15_code 21 = .ok (.getfield 39, 3) := by decide +kernel
theorem dC_adapters_24 : decode prog_1_method_15_code 24 = .ok (.getfield 145, 3) := by decide +kernel
theorem dC_adapters_27 : decode prog_1_method_15_code 27 = .ok (.ireturn, 1) := by decide +kernel
theorem dM_messagesOf_0 : decode prog_14_method_49_code 0 = .ok (.aload_n 0, 1) := by decide +kernel
theorem dM_messagesOf_1 : decode prog_14_method_49_code 1 = .ok (.iload_n 1, 1) := by decide +kernel
theorem dM_messagesOf_2 : decode prog_14_method_49_code 2 = .ok (.iconst (0), 1) := by decide +kernel
theorem dM_messagesOf_3 : decode prog_14_method_49_code 3 = .ok (.invokevirtual 192, 3) := by decide +kernel
theorem dM_messagesOf_6 : decode prog_14_method_49_code 6 = .ok (.aload_n 0, 1) := by decide +kernel
theorem dM_messagesOf_7 : decode prog_14_method_49_code 7 = .ok (.iload_n 1, 1) := by decide +kernel
theorem dM_messagesOf_8 : decode prog_14_method_49_code 8 = .ok (.iconst (1), 1) := by decide +kernel
theorem dM_messagesOf_9 : decode prog_14_method_49_code 9 = .ok (.invokevirtual 192, 3) := by decide +kernel
theorem dM_messagesOf_12 : decode prog_14_method_49_code 12 = .ok (.ior, 1) := by decide +kernel
theorem dM_messagesOf_13 : decode prog_14_method_49_code 13 = .ok (.ireturn, 1) := by decide +kernel
theorem dM_ones_0 : decode prog_14_method_50_code 0 = .ok (.iconst (0), 1) := by decide +kernel
theorem dM_ones_1 : decode prog_14_method_50_code 1 = .ok (.istore_n 1, 1) := by decide +kernel
theorem dM_ones_2 : decode prog_14_method_50_code 2 = .ok (.iload_n 0, 1) := by decide +kernel
theorem dM_ones_3 : decode prog_14_method_50_code 3 = .ok (.istore_n 2, 1) := by decide +kernel
theorem dM_ones_4 : decode prog_14_method_50_code 4 = .ok (.iload_n 2, 1) := by decide +kernel
theorem dM_ones_5 : decode prog_14_method_50_code 5 = .ok (.ifCond .eq (15), 3) := by decide +kernel
theorem dM_ones_8 : decode prog_14_method_50_code 8 = .ok (.iinc 1 (1), 3) := by decide +kernel
theorem dM_ones_11 : decode prog_14_method_50_code 11 = .ok (.iload_n 2, 1) := by decide +kernel
theorem dM_ones_12 : decode prog_14_method_50_code 12 = .ok (.iload_n 2, 1) := by decide +kernel
theorem dM_ones_13 : decode prog_14_method_50_code 13 = .ok (.iconst (1), 1) := by decide +kernel
theorem dM_ones_14 : decode prog_14_method_50_code 14 = .ok (.isub, 1) := by decide +kernel
theorem dM_ones_15 : decode prog_14_method_50_code 15 = .ok (.iand, 1) := by decide +kernel
theorem dM_ones_16 : decode prog_14_method_50_code 16 = .ok (.istore_n 2, 1) := by decide +kernel
theorem dM_ones_17 : decode prog_14_method_50_code 17 = .ok (.goto (-13), 3) := by decide +kernel
theorem dM_ones_20 : decode prog_14_method_50_code 20 = .ok (.iload_n 1, 1) := by decide +kernel
theorem dM_ones_21 : decode prog_14_method_50_code 21 = .ok (.ireturn, 1) := by decide +kernel
theorem dM_barred_0 : decode prog_14_method_53_code 0 = .ok (.aload_n 0, 1) := by decide +kernel
theorem dM_barred_1 : decode prog_14_method_53_code 1 = .ok (.iload_n 1, 1) := by decide +kernel
theorem dM_barred_2 : decode prog_14_method_53_code 2 = .ok (.invokevirtual 180, 3) := by decide +kernel
theorem dM_barred_5 : decode prog_14_method_53_code 5 = .ok (.ifCond .eq (11), 3) := by decide +kernel
theorem dM_barred_8 : decode prog_14_method_53_code 8 = .ok (.aload_n 0, 1) := by decide +kernel
theorem dM_barred_9 : decode prog_14_method_53_code 9 = .ok (.iload_n 2, 1) := by decide +kernel
theorem dM_barred_10 : decode prog_14_method_53_code 10 = .ok (.invokevirtual 180, 3) := by decide +kernel
theorem dM_barred_13 : decode prog_14_method_53_code 13 = .ok (.ifCond .ne (6), 3) := by decide +kernel
theorem dM_barred_16 : decode prog_14_method_53_code 16 = .ok (.bipush (-101), 2) := by decide +kernel
theorem dM_barred_18 : decode prog_14_method_53_code 18 = .ok (.ireturn, 1) := by decide +kernel
theorem dM_barred_19 : decode prog_14_method_53_code 19 = .ok (.aload_n 0, 1) := by decide +kernel
theorem dM_barred_20 : decode prog_14_method_53_code 20 = .ok (.iload_n 1, 1) := by decide +kernel
theorem dM_barred_21 : decode prog_14_method_53_code 21 = .ok (.invokevirtual 282, 3) := by decide +kernel
theorem dM_barred_24 : decode prog_14_method_53_code 24 = .ok (.invokestatic 288, 3) := by decide +kernel
theorem dM_barred_27 : decode prog_14_method_53_code 27 = .ok (.iconst (5), 1) := by decide +kernel
theorem dM_barred_28 : decode prog_14_method_53_code 28 = .ok (.if_icmp .le (8), 3) := by decide +kernel
theorem dM_barred_31 : decode prog_14_method_53_code 31 = .ok (.bipush (-102), 2) := by decide +kernel
theorem dM_barred_33 : decode prog_14_method_53_code 33 = .ok (.goto (18), 3) := by decide +kernel
theorem dM_barred_36 : decode prog_14_method_53_code 36 = .ok (.aload_n 0, 1) := by decide +kernel
theorem dM_barred_37 : decode prog_14_method_53_code 37 = .ok (.getfield 294, 3) := by decide +kernel
theorem dM_barred_40 : decode prog_14_method_53_code 40 = .ok (.bipush (20), 2) := by decide +kernel
theorem dM_barred_42 : decode prog_14_method_53_code 42 = .ok (.if_icmp .ne (8), 3) := by decide +kernel
theorem dM_barred_45 : decode prog_14_method_53_code 45 = .ok (.bipush (-103), 2) := by decide +kernel
theorem dM_barred_47 : decode prog_14_method_53_code 47 = .ok (.goto (4), 3) := by decide +kernel
theorem dM_barred_50 : decode prog_14_method_53_code 50 = .ok (.iconst (0), 1) := by decide +kernel
theorem dM_barred_51 : decode prog_14_method_53_code 51 = .ok (.ireturn, 1) := by decide +kernel
theorem dM_lay_0 : decode prog_14_method_52_code 0 = .ok (.iload_n 3, 1) := by decide +kernel
theorem dM_lay_1 : decode prog_14_method_52_code 1 = .ok (.istore 4, 2) := by decide +kernel
theorem dM_lay_3 : decode prog_14_method_52_code 3 = .ok (.iconst (1), 1) := by decide +kernel
theorem dM_lay_4 : decode prog_14_method_52_code 4 = .ok (.istore 5, 2) := by decide +kernel
theorem dM_lay_6 : decode prog_14_method_52_code 6 = .ok (.iconst (0), 1) := by decide +kernel
theorem dM_lay_7 : decode prog_14_method_52_code 7 = .ok (.istore 6, 2) := by decide +kernel
theorem dM_lay_9 : decode prog_14_method_52_code 9 = .ok (.iload 6, 2) := by decide +kernel
theorem dM_lay_11 : decode prog_14_method_52_code 11 = .ok (.bipush (8), 2) := by decide +kernel
theorem dM_lay_13 : decode prog_14_method_52_code 13 = .ok (.if_icmp .ge (25), 3) := by decide +kernel
theorem dM_lay_16 : decode prog_14_method_52_code 16 = .ok (.aload_n 0, 1) := by decide +kernel
theorem dM_lay_17 : decode prog_14_method_52_code 17 = .ok (.getfield 97, 3) := by decide +kernel
theorem dM_lay_20 : decode prog_14_method_52_code 20 = .ok (.iload 6, 2) := by decide +kernel
theorem dM_lay_22 : decode prog_14_method_52_code 22 = .ok (.iconst (-1), 1) := by decide +kernel
theorem dM_lay_23 : decode prog_14_method_52_code 23 = .ok (.iastore, 1) := by decide +kernel
theorem dM_lay_24 : decode prog_14_method_52_code 24 = .ok (.aload_n 0, 1) := by decide +kernel
theorem dM_lay_25 : decode prog_14_method_52_code 25 = .ok (.getfield 94, 3) := by decide +kernel
theorem dM_lay_28 : decode prog_14_method_52_code 28 = .ok (.iload 6, 2) := by decide +kernel
theorem dM_lay_30 : decode prog_14_method_52_code 30 = .ok (.iconst (-1), 1) := by decide +kernel
theorem dM_lay_31 : decode prog_14_method_52_code 31 = .ok (.iastore, 1) := by decide +kernel
theorem dM_lay_32 : decode prog_14_method_52_code 32 = .ok (.iinc 6 (1), 3) := by decide +kernel
theorem dM_lay_35 : decode prog_14_method_52_code 35 = .ok (.goto (-26), 3) := by decide +kernel
theorem dM_lay_38 : decode prog_14_method_52_code 38 = .ok (.iconst (0), 1) := by decide +kernel
theorem dM_lay_39 : decode prog_14_method_52_code 39 = .ok (.istore 6, 2) := by decide +kernel
theorem dM_lay_41 : decode prog_14_method_52_code 41 = .ok (.iload 6, 2) := by decide +kernel
theorem dM_lay_43 : decode prog_14_method_52_code 43 = .ok (.bipush (8), 2) := by decide +kernel
theorem dM_lay_45 : decode prog_14_method_52_code 45 = .ok (.if_icmp .ge (76), 3) := by decide +kernel
theorem dM_lay_48 : decode prog_14_method_52_code 48 = .ok (.iload_n 1, 1) := by decide +kernel
theorem dM_lay_49 : decode prog_14_method_52_code 49 = .ok (.iload 6, 2) := by decide +kernel
theorem dM_lay_51 : decode prog_14_method_52_code 51 = .ok (.ishr, 1) := by decide +kernel
theorem dM_lay_52 : decode prog_14_method_52_code 52 = .ok (.iconst (1), 1) := by decide +kernel
theorem dM_lay_53 : decode prog_14_method_52_code 53 = .ok (.iand, 1) := by decide +kernel
theorem dM_lay_54 : decode prog_14_method_52_code 54 = .ok (.iconst (1), 1) := by decide +kernel
theorem dM_lay_55 : decode prog_14_method_52_code 55 = .ok (.if_icmp .ne (60), 3) := by decide +kernel
theorem dM_lay_58 : decode prog_14_method_52_code 58 = .ok (.iload 4, 2) := by decide +kernel
theorem dM_lay_60 : decode prog_14_method_52_code 60 = .ok (.bipush (8), 2) := by decide +kernel
theorem dM_lay_62 : decode prog_14_method_52_code 62 = .ok (.idiv, 1) := by decide +kernel
theorem dM_lay_63 : decode prog_14_method_52_code 63 = .ok (.istore 4, 2) := by decide +kernel
theorem dM_lay_65 : decode prog_14_method_52_code 65 = .ok (.iload_n 2, 1) := by decide +kernel
theorem dM_lay_66 : decode prog_14_method_52_code 66 = .ok (.iload 4, 2) := by decide +kernel
theorem dM_lay_68 : decode prog_14_method_52_code 68 = .ok (.idiv, 1) := by decide +kernel
theorem dM_lay_69 : decode prog_14_method_52_code 69 = .ok (.bipush (8), 2) := by decide +kernel
theorem dM_lay_71 : decode prog_14_method_52_code 71 = .ok (.irem, 1) := by decide +kernel
theorem dM_lay_72 : decode prog_14_method_52_code 72 = .ok (.istore 7, 2) := by decide +kernel
theorem dM_lay_74 : decode prog_14_method_52_code 74 = .ok (.iload 5, 2) := by decide +kernel
theorem dM_lay_76 : decode prog_14_method_52_code 76 = .ok (.ifCond .eq (18), 3) := by decide +kernel
theorem dM_lay_79 : decode prog_14_method_52_code 79 = .ok (.aload_n 0, 1) := by decide +kernel
theorem dM_lay_80 : decode prog_14_method_52_code 80 = .ok (.getfield 97, 3) := by decide +kernel
theorem dM_lay_83 : decode prog_14_method_52_code 83 = .ok (.iload 7, 2) := by decide +kernel
theorem dM_lay_85 : decode prog_14_method_52_code 85 = .ok (.iaload, 1) := by decide +kernel
theorem dM_lay_86 : decode prog_14_method_52_code 86 = .ok (.iconst (-1), 1) := by decide +kernel
theorem dM_lay_87 : decode prog_14_method_52_code 87 = .ok (.if_icmp .ne (7), 3) := by decide +kernel
theorem dM_lay_90 : decode prog_14_method_52_code 90 = .ok (.iconst (1), 1) := by decide +kernel
theorem dM_lay_91 : decode prog_14_method_52_code 91 = .ok (.goto (4), 3) := by decide +kernel
theorem dM_lay_94 : decode prog_14_method_52_code 94 = .ok (.iconst (0), 1) := by decide +kernel
theorem dM_lay_95 : decode prog_14_method_52_code 95 = .ok (.istore 5, 2) := by decide +kernel
theorem dM_lay_97 : decode prog_14_method_52_code 97 = .ok (.aload_n 0, 1) := by decide +kernel
theorem dM_lay_98 : decode prog_14_method_52_code 98 = .ok (.getfield 97, 3) := by decide +kernel
theorem dM_lay_101 : decode prog_14_method_52_code 101 = .ok (.iload 7, 2) := by decide +kernel
theorem dM_lay_103 : decode prog_14_method_52_code 103 = .ok (.iload 6, 2) := by decide +kernel
theorem dM_lay_105 : decode prog_14_method_52_code 105 = .ok (.iastore, 1) := by decide +kernel
theorem dM_lay_106 : decode prog_14_method_52_code 106 = .ok (.aload_n 0, 1) := by decide +kernel
theorem dM_lay_107 : decode prog_14_method_52_code 107 = .ok (.getfield 94, 3) := by decide +kernel
theorem dM_lay_110 : decode prog_14_method_52_code 110 = .ok (.iload 6, 2) := by decide +kernel
theorem dM_lay_112 : decode prog_14_method_52_code 112 = .ok (.iload 7, 2) := by decide +kernel
theorem dM_lay_114 : decode prog_14_method_52_code 114 = .ok (.iastore, 1) := by decide +kernel
theorem dM_lay_115 : decode prog_14_method_52_code 115 = .ok (.iinc 6 (1), 3) := by decide +kernel
theorem dM_lay_118 : decode prog_14_method_52_code 118 = .ok (.goto (-77), 3) := by decide +kernel
theorem dM_lay_121 : decode prog_14_method_52_code 121 = .ok (.iload 5, 2) := by decide +kernel
theorem dM_lay_123 : decode prog_14_method_52_code 123 = .ok (.ireturn, 1) := by decide +kernel
theorem dM_seekAdapters_0 : decode prog_14_method_51_code 0 = .ok (.aload_n 0, 1) := by decide +kernel
theorem dM_seekAdapters_1 : decode prog_14_method_51_code 1 = .ok (.iload_n 1, 1) := by decide +kernel
theorem dM_seekAdapters_2 : decode prog_14_method_51_code 2 = .ok (.invokevirtual 282, 3) := by decide +kernel
theorem dM_seekAdapters_5 : decode prog_14_method_51_code 5 = .ok (.istore 5, 2) := by decide +kernel
theorem dM_seekAdapters_7 : decode prog_14_method_51_code 7 = .ok (.iconst (0), 1) := by decide +kernel
theorem dM_seekAdapters_8 : decode prog_14_method_51_code 8 = .ok (.istore 6, 2) := by decide +kernel
theorem dM_seekAdapters_10 : decode prog_14_method_51_code 10 = .ok (.aload_n 0, 1) := by decide +kernel
theorem dM_seekAdapters_11 : decode prog_14_method_51_code 11 = .ok (.iconst (-1), 1) := by decide +kernel
theorem dM_seekAdapters_12 : decode prog_14_method_51_code 12 = .ok (.putfield 285, 3) := by decide +kernel
theorem dM_seekAdapters_15 : decode prog_14_method_51_code 15 = .ok (.iconst (1), 1) := by decide +kernel
theorem dM_seekAdapters_16 : decode prog_14_method_51_code 16 = .ok (.istore 7, 2) := by decide +kernel
theorem dM_seekAdapters_18 : decode prog_14_method_51_code 18 = .ok (.iconst (0), 1) := by decide +kernel
theorem dM_seekAdapters_19 : decode prog_14_method_51_code 19 = .ok (.istore 8, 2) := by decide +kernel
theorem dM_seekAdapters_21 : decode prog_14_method_51_code 21 = .ok (.iload 8, 2) := by decide +kernel
theorem dM_seekAdapters_23 : decode prog_14_method_51_code 23 = .ok (.iload 5, 2) := by decide +kernel
theorem dM_seekAdapters_25 : decode prog_14_method_51_code 25 = .ok (.invokestatic 288, 3) := by decide +kernel
theorem dM_seekAdapters_28 : decode prog_14_method_51_code 28 = .ok (.if_icmp .ge (16), 3) := by decide +kernel
theorem dM_seekAdapters_31 : decode prog_14_method_51_code 31 = .ok (.iload 7, 2) := by decide +kernel
theorem dM_seekAdapters_33 : decode prog_14_method_51_code 33 = .ok (.bipush (8), 2) := by decide +kernel
theorem dM_seekAdapters_35 : decode prog_14_method_51_code 35 = .ok (.imul, 1) := by decide +kernel
theorem dM_seekAdapters_36 : decode prog_14_method_51_code 36 = .ok (.istore 7, 2) := by decide +kernel
theorem dM_seekAdapters_38 : decode prog_14_method_51_code 38 = .ok (.iinc 8 (1), 3) := by decide +kernel
theorem dM_seekAdapters_41 : decode prog_14_method_51_code 41 = .ok (.goto (-20), 3) := by decide +kernel
theorem dM_seekAdapters_44 : decode prog_14_method_51_code 44 = .ok (.iconst (0), 1) := by decide +kernel
theorem dM_seekAdapters_45 : decode prog_14_method_51_code 45 = .ok (.istore 8, 2) := by decide +kernel
theorem dM_seekAdapters_47 : decode prog_14_method_51_code 47 = .ok (.iload 8, 2) := by decide +kernel
theorem dM_seekAdapters_49 : decode prog_14_method_51_code 49 = .ok (.iload 7, 2) := by decide +kernel
theorem dM_seekAdapters_51 : decode prog_14_method_51_code 51 = .ok (.if_icmp .ge (59), 3) := by decide +kernel
theorem dM_seekAdapters_54 : decode prog_14_method_51_code 54 = .ok (.aload_n 0, 1) := by decide +kernel
theorem dM_seekAdapters_55 : decode prog_14_method_51_code 55 = .ok (.iload 5, 2) := by decide +kernel
theorem dM_seekAdapters_57 : decode prog_14_method_51_code 57 = .ok (.iload 8, 2) := by decide +kernel
theorem dM_seekAdapters_59 : decode prog_14_method_51_code 59 = .ok (.iload 7, 2) := by decide +kernel
theorem dM_seekAdapters_61 : decode prog_14_method_51_code 61 = .ok (.invokevirtual 291, 3) := by decide +kernel
theorem dM_seekAdapters_64 : decode prog_14_method_51_code 64 = .ok (.ifCond .eq (40), 3) := by decide +kernel
theorem dM_seekAdapters_67 : decode prog_14_method_51_code 67 = .ok (.aload_n 0, 1) := by decide +kernel
theorem dM_seekAdapters_68 : decode prog_14_method_51_code 68 = .ok (.iload_n 1, 1) := by decide +kernel
theorem dM_seekAdapters_69 : decode prog_14_method_51_code 69 = .ok (.iload_n 2, 1) := by decide +kernel
theorem dM_seekAdapters_70 : decode prog_14_method_51_code 70 = .ok (.iconst (0), 1) := by decide +kernel
theorem dM_seekAdapters_71 : decode prog_14_method_51_code 71 = .ok (.invokevirtual 261, 3) := by decide +kernel
theorem dM_seekAdapters_74 : decode prog_14_method_51_code 74 = .ok (.ifCond .ne (30), 3) := by decide +kernel
theorem dM_seekAdapters_77 : decode prog_14_method_51_code 77 = .ok (.aload_n 0, 1) := by decide +kernel
theorem dM_seekAdapters_78 : decode prog_14_method_51_code 78 = .ok (.iload 6, 2) := by decide +kernel
theorem dM_seekAdapters_80 : decode prog_14_method_51_code 80 = .ok (.iload_n 3, 1) := by decide +kernel
theorem dM_seekAdapters_81 : decode prog_14_method_51_code 81 = .ok (.if_icmp .ne (13), 3) := by decide +kernel
theorem dM_seekAdapters_84 : decode prog_14_method_51_code 84 = .ok (.aload_n 0, 1) := by decide +kernel
theorem dM_seekAdapters_85 : decode prog_14_method_51_code 85 = .ok (.getfield 94, 3) := by decide +kernel
theorem dM_seekAdapters_88 : decode prog_14_method_51_code 88 = .ok (.iload 4, 2) := by decide +kernel
theorem dM_seekAdapters_90 : decode prog_14_method_51_code 90 = .ok (.iaload, 1) := by decide +kernel
theorem dM_seekAdapters_91 : decode prog_14_method_51_code 91 = .ok (.goto (7), 3) := by decide +kernel
theorem dM_seekAdapters_94 : decode prog_14_method_51_code 94 = .ok (.aload_n 0, 1) := by decide +kernel
theorem dM_seekAdapters_95 : decode prog_14_method_51_code 95 = .ok (.getfield 285, 3) := by decide +kernel
theorem dM_seekAdapters_98 : decode prog_14_method_51_code 98 = .ok (.putfield 285, 3) := by decide +kernel
theorem dM_seekAdapters_101 : decode prog_14_method_51_code 101 = .ok (.iinc 6 (1), 3) := by decide +kernel
theorem dM_seekAdapters_104 : decode prog_14_method_51_code 104 = .ok (.iinc 8 (1), 3) := by decide +kernel
theorem dM_seekAdapters_107 : decode prog_14_method_51_code 107 = .ok (.goto (-60), 3) := by decide +kernel
theorem dM_seekAdapters_110 : decode prog_14_method_51_code 110 = .ok (.aload_n 0, 1) := by decide +kernel
theorem dM_seekAdapters_111 : decode prog_14_method_51_code 111 = .ok (.invokevirtual 258, 3) := by decide +kernel
theorem dM_seekAdapters_114 : decode prog_14_method_51_code 114 = .ok (.iload 6, 2) := by decide +kernel
theorem dM_seekAdapters_116 : decode prog_14_method_51_code 116 = .ok (.ireturn, 1) := by decide +kernel
theorem dM_adapters_0 : decode prog_14_method_54_code 0 = .ok (.aload_n 0, 1) := by decide +kernel
theorem dM_adapters_1 : decode prog_14_method_54_code 1 = .ok (.iload_n 1, 1) := by decide +kernel
theorem dM_adapters_2 : decode prog_14_method_54_code 2 = .ok (.iload_n 2, 1) := by decide +kernel
theorem dM_adapters_3 : decode prog_14_method_54_code 3 = .ok (.invokevirtual 297, 3) := by decide +kernel
theorem dM_adapters_6 : decode prog_14_method_54_code 6 = .ok (.istore_n 3, 1) := by decide +kernel
theorem dM_adapters_7 : decode prog_14_method_54_code 7 = .ok (.iload_n 3, 1) := by decide +kernel
theorem dM_adapters_8 : decode prog_14_method_54_code 8 = .ok (.ifCond .eq (5), 3) := by decide +kernel
theorem dM_adapters_11 : decode prog_14_method_54_code 11 = .ok (.iload_n 3, 1) := by decide +kernel
theorem dM_adapters_12 : decode prog_14_method_54_code 12 = .ok (.ireturn, 1) := by decide +kernel
theorem dM_adapters_13 : decode prog_14_method_54_code 13 = .ok (.aload_n 0, 1) := by decide +kernel
theorem dM_adapters_14 : decode prog_14_method_54_code 14 = .ok (.dup, 1) := by decide +kernel
theorem dM_adapters_15 : decode prog_14_method_54_code 15 = .ok (.getfield 294, 3) := by decide +kernel
theorem dM_adapters_18 : decode prog_14_method_54_code 18 = .ok (.iconst (1), 1) := by decide +kernel
theorem dM_adapters_19 : decode prog_14_method_54_code 19 = .ok (.iadd, 1) := by decide +kernel
theorem dM_adapters_20 : decode prog_14_method_54_code 20 = .ok (.putfield 294, 3) := by decide +kernel
theorem dM_adapters_23 : decode prog_14_method_54_code 23 = .ok (.aload_n 0, 1) := by decide +kernel
theorem dM_adapters_24 : decode prog_14_method_54_code 24 = .ok (.iload_n 1, 1) := by decide +kernel
theorem dM_adapters_25 : decode prog_14_method_54_code 25 = .ok (.iload_n 2, 1) := by decide +kernel
theorem dM_adapters_26 : decode prog_14_method_54_code 26 = .ok (.iconst (-1), 1) := by decide +kernel
theorem dM_adapters_27 : decode prog_14_method_54_code 27 = .ok (.iconst (0), 1) := by decide +kernel
theorem dM_adapters_28 : decode prog_14_method_54_code 28 = .ok (.invokevirtual 300, 3) := by decide +kernel
theorem dM_adapters_31 : decode prog_14_method_54_code 31 = .ok (.ireturn, 1) := by decide +kernel
theorem dAd_becomes_0 : decode prog_2_method_3_code 0 = .ok (.iload_n 1, 1) := by decide +kernel
theorem dAd_becomes_1 : decode prog_2_method_3_code 1 = .ok (.ifCond .lt (11), 3) := by decide +kernel
theorem dAd_becomes_4 : decode prog_2_method_3_code 4 = .ok (.iload_n 1, 1) := by decide +kernel
theorem dAd_becomes_5 : decode prog_2_method_3_code 5 = .ok (.aload_n 0, 1) := by decide +kernel
theorem dAd_becomes_6 : decode prog_2_method_3_code 6 = .ok (.getfield 37, 3) := by decide +kernel
theorem dAd_becomes_9 : decode prog_2_method_3_code 9 = .ok (.if_icmp .lt (5), 3) := by decide +kernel
theorem dAd_becomes_12 : decode prog_2_method_3_code 12 = .ok (.iconst (-1), 1) := by decide +kernel
theorem dAd_becomes_13 : decode prog_2_method_3_code 13 = .ok (.ireturn, 1) := by decide +kernel
theorem dAd_becomes_14 : decode prog_2_method_3_code 14 = .ok (.iconst (0), 1) := by decide +kernel
theorem dAd_becomes_15 : decode prog_2_method_3_code 15 = .ok (.istore_n 3, 1) := by decide +kernel
theorem dAd_becomes_16 : decode prog_2_method_3_code 16 = .ok (.iload_n 3, 1) := by decide +kernel
theorem dAd_becomes_17 : decode prog_2_method_3_code 17 = .ok (.aload_n 0, 1) := by decide +kernel
theorem dAd_becomes_18 : decode prog_2_method_3_code 18 = .ok (.getfield 41, 3) := by decide +kernel
theorem dAd_becomes_21 : decode prog_2_method_3_code 21 = .ok (.if_icmp .ge (33), 3) := by decide +kernel
theorem dAd_becomes_24 : decode prog_2_method_3_code 24 = .ok (.aload_n 0, 1) := by decide +kernel
theorem dAd_becomes_25 : decode prog_2_method_3_code 25 = .ok (.getfield 15, 3) := by decide +kernel
theorem dAd_becomes_28 : decode prog_2_method_3_code 28 = .ok (.iload_n 3, 1) := by decide +kernel
theorem dAd_becomes_29 : decode prog_2_method_3_code 29 = .ok (.iaload, 1) := by decide +kernel
theorem dAd_becomes_30 : decode prog_2_method_3_code 30 = .ok (.iload_n 2, 1) := by decide +kernel
theorem dAd_becomes_31 : decode prog_2_method_3_code 31 = .ok (.if_icmp .ne (17), 3) := by decide +kernel
theorem dAd_becomes_34 : decode prog_2_method_3_code 34 = .ok (.aload_n 0, 1) := by decide +kernel
theorem dAd_becomes_35 : decode prog_2_method_3_code 35 = .ok (.getfield 9, 3) := by decide +kernel
theorem dAd_becomes_38 : decode prog_2_method_3_code 38 = .ok (.iload_n 1, 1) := by decide +kernel
theorem dAd_becomes_39 : decode prog_2_method_3_code 39 = .ok (.iaload, 1) := by decide +kernel
theorem dAd_becomes_40 : decode prog_2_method_3_code 40 = .ok (.iconst (4), 1) := by decide +kernel
theorem dAd_becomes_41 : decode prog_2_method_3_code 41 = .ok (.iload_n 3, 1) := by decide +kernel
theorem dAd_becomes_42 : decode prog_2_method_3_code 42 = .ok (.imul, 1) := by decide +kernel
theorem dAd_becomes_43 : decode prog_2_method_3_code 43 = .ok (.ishr, 1) := by decide +kernel
theorem dAd_becomes_44 : decode prog_2_method_3_code 44 = .ok (.bipush (15), 2) := by decide +kernel
theorem dAd_becomes_46 : decode prog_2_method_3_code 46 = .ok (.iand, 1) := by decide +kernel
theorem dAd_becomes_47 : decode prog_2_method_3_code 47 = .ok (.ireturn, 1) := by decide +kernel
theorem dAd_becomes_48 : decode prog_2_method_3_code 48 = .ok (.iinc 3 (1), 3) := by decide +kernel
theorem dAd_becomes_51 : decode prog_2_method_3_code 51 = .ok (.goto (-35), 3) := by decide +kernel
theorem dAd_becomes_54 : decode prog_2_method_3_code 54 = .ok (.iconst (-1), 1) := by decide +kernel
theorem dAd_becomes_55 : decode prog_2_method_3_code 55 = .ok (.ireturn, 1) := by decide +kernel
theorem dC_adapter_0 : decode prog_1_method_16_code 0 = .ok (.aload_n 0, 1) := by decide +kernel
theorem dC_adapter_1 : decode prog_1_method_16_code 1 = .ok (.iload_n 1, 1) := by decide +kernel
theorem dC_adapter_2 : decode prog_1_method_16_code 2 = .ok (.iload_n 2, 1) := by decide +kernel
theorem dC_adapter_3 : decode prog_1_method_16_code 3 = .ok (.iload 4, 2) := by decide +kernel
theorem dC_adapter_5 : decode prog_1_method_16_code 5 = .ok (.invokevirtual 138, 3) := by decide +kernel
theorem dC_adapter_8 : decode prog_1_method_16_code 8 = .ok (.istore 5, 2) := by decide +kernel
theorem dC_adapter_10 : decode prog_1_method_16_code 10 = .ok (.iload 5, 2) := by decide +kernel
theorem dC_adapter_12 : decode prog_1_method_16_code 12 = .ok (.ifCond .eq (6), 3) := by decide +kernel
theorem dC_adapter_15 : decode prog_1_method_16_code 15 = .ok (.iload 5, 2) := by decide +kernel
theorem dC_adapter_17 : decode prog_1_method_16_code 17 = .ok (.ireturn, 1) := by decide +kernel
theorem dC_adapter_18 : decode prog_1_method_16_code 18 = .ok (.aload_n 0, 1) := by decide +kernel
theorem dC_adapter_19 : decode prog_1_method_16_code 19 = .ok (.iload_n 1, 1) := by decide +kernel
theorem dC_adapter_20 : decode prog_1_method_16_code 20 = .ok (.iload_n 2, 1) := by decide +kernel
theorem dC_adapter_21 : decode prog_1_method_16_code 21 = .ok (.invokevirtual 141, 3) := by decide +kernel
theorem dC_adapter_24 : decode prog_1_method_16_code 24 = .ok (.aload_n 0, 1) := by decide +kernel
theorem dC_adapter_25 : decode prog_1_method_16_code 25 = .ok (.getfield 39, 3) := by decide +kernel
theorem dC_adapter_28 : decode prog_1_method_16_code 28 = .ok (.iload_n 3, 1) := by decide +kernel
theorem dC_adapter_29 : decode prog_1_method_16_code 29 = .ok (.iload 4, 2) := by decide +kernel
theorem dC_adapter_31 : decode prog_1_method_16_code 31 = .ok (.invokevirtual 148, 3) := by decide +kernel
theorem dC_adapter_34 : decode prog_1_method_16_code 34 = .ok (.ireturn, 1) := by decide +kernel
theorem dM_adapter_0 : decode prog_14_method_55_code 0 = .ok (.aload_n 0, 1) := by decide +kernel
theorem dM_adapter_1 : decode prog_14_method_55_code 1 = .ok (.iload_n 1, 1) := by decide +kernel
theorem dM_adapter_2 : decode prog_14_method_55_code 2 = .ok (.invokevirtual 180, 3) := by decide +kernel
theorem dM_adapter_5 : decode prog_14_method_55_code 5 = .ok (.ifCond .eq (11), 3) := by decide +kernel
theorem dM_adapter_8 : decode prog_14_method_55_code 8 = .ok (.aload_n 0, 1) := by decide +kernel
theorem dM_adapter_9 : decode prog_14_method_55_code 9 = .ok (.iload_n 2, 1) := by decide +kernel
theorem dM_adapter_10 : decode prog_14_method_55_code 10 = .ok (.invokevirtual 180, 3) := by decide +kernel
theorem dM_adapter_13 : decode prog_14_method_55_code 13 = .ok (.ifCond .ne (6), 3) := by decide +kernel
theorem dM_adapter_16 : decode prog_14_method_55_code 16 = .ok (.bipush (-101), 2) := by decide +kernel
theorem dM_adapter_18 : decode prog_14_method_55_code 18 = .ok (.ireturn, 1) := by decide +kernel
theorem dM_adapter_19 : decode prog_14_method_55_code 19 = .ok (.iload 4, 2) := by decide +kernel
theorem dM_adapter_21 : decode prog_14_method_55_code 21 = .ok (.iconst (0), 1) := by decide +kernel
theorem dM_adapter_22 : decode prog_14_method_55_code 22 = .ok (.bipush (7), 2) := by decide +kernel
theorem dM_adapter_24 : decode prog_14_method_55_code 24 = .ok (.invokestatic 148, 3) := by decide +kernel
theorem dM_adapter_27 : decode prog_14_method_55_code 27 = .ok (.ifCond .eq (12), 3) := by decide +kernel
theorem dM_adapter_30 : decode prog_14_method_55_code 30 = .ok (.aload_n 0, 1) := by decide +kernel
theorem dM_adapter_31 : decode prog_14_method_55_code 31 = .ok (.iload_n 1, 1) := by decide +kernel
theorem dM_adapter_32 : decode prog_14_method_55_code 32 = .ok (.iload_n 2, 1) := by decide +kernel
theorem dM_adapter_33 : decode prog_14_method_55_code 33 = .ok (.invokevirtual 297, 3) := by decide +kernel
theorem dM_adapter_36 : decode prog_14_method_55_code 36 = .ok (.goto (5), 3) := by decide +kernel
theorem dM_adapter_39 : decode prog_14_method_55_code 39 = .ok (.bipush (-102), 2) := by decide +kernel
theorem dM_adapter_41 : decode prog_14_method_55_code 41 = .ok (.istore 5, 2) := by decide +kernel
theorem dM_adapter_43 : decode prog_14_method_55_code 43 = .ok (.iload 5, 2) := by decide +kernel
theorem dM_adapter_45 : decode prog_14_method_55_code 45 = .ok (.ifCond .eq (6), 3) := by decide +kernel
theorem dM_adapter_48 : decode prog_14_method_55_code 48 = .ok (.iload 5, 2) := by decide +kernel
theorem dM_adapter_50 : decode prog_14_method_55_code 50 = .ok (.ireturn, 1) := by decide +kernel
theorem dM_adapter_51 : decode prog_14_method_55_code 51 = .ok (.aload_n 0, 1) := by decide +kernel
theorem dM_adapter_52 : decode prog_14_method_55_code 52 = .ok (.dup, 1) := by decide +kernel
theorem dM_adapter_53 : decode prog_14_method_55_code 53 = .ok (.getfield 294, 3) := by decide +kernel
theorem dM_adapter_56 : decode prog_14_method_55_code 56 = .ok (.iconst (1), 1) := by decide +kernel
theorem dM_adapter_57 : decode prog_14_method_55_code 57 = .ok (.iadd, 1) := by decide +kernel
theorem dM_adapter_58 : decode prog_14_method_55_code 58 = .ok (.putfield 294, 3) := by decide +kernel
theorem dM_adapter_61 : decode prog_14_method_55_code 61 = .ok (.aload_n 0, 1) := by decide +kernel
theorem dM_adapter_62 : decode prog_14_method_55_code 62 = .ok (.iload_n 1, 1) := by decide +kernel
theorem dM_adapter_63 : decode prog_14_method_55_code 63 = .ok (.iload_n 2, 1) := by decide +kernel
theorem dM_adapter_64 : decode prog_14_method_55_code 64 = .ok (.iload_n 3, 1) := by decide +kernel
theorem dM_adapter_65 : decode prog_14_method_55_code 65 = .ok (.iload 4, 2) := by decide +kernel
theorem dM_adapter_67 : decode prog_14_method_55_code 67 = .ok (.invokevirtual 300, 3) := by decide +kernel
theorem dM_adapter_70 : decode prog_14_method_55_code 70 = .ok (.pop, 1) := by decide +kernel
theorem dM_adapter_71 : decode prog_14_method_55_code 71 = .ok (.iload_n 3, 1) := by decide +kernel
theorem dM_adapter_72 : decode prog_14_method_55_code 72 = .ok (.ifCond .ge (7), 3) := by decide +kernel
theorem dM_adapter_75 : decode prog_14_method_55_code 75 = .ok (.iconst (-1), 1) := by decide +kernel
theorem dM_adapter_76 : decode prog_14_method_55_code 76 = .ok (.goto (7), 3) := by decide +kernel
theorem dM_adapter_79 : decode prog_14_method_55_code 79 = .ok (.aload_n 0, 1) := by decide +kernel
theorem dM_adapter_80 : decode prog_14_method_55_code 80 = .ok (.getfield 285, 3) := by decide +kernel
theorem dM_adapter_83 : decode prog_14_method_55_code 83 = .ok (.ireturn, 1) := by decide +kernel
theorem dC_isFacts_0 : decode prog_1_method_49_code 0 = .ok (.iload_n 0, 1) := by decide +kernel
theorem dC_isFacts_1 : decode prog_1_method_49_code 1 = .ok (.ifCond .lt (14), 3) := by decide +kernel
theorem dC_isFacts_4 : decode prog_1_method_49_code 4 = .ok (.iload_n 0, 1) := by decide +kernel
theorem dC_isFacts_5 : decode prog_1_method_49_code 5 = .ok (.sipush (4095), 3) := by decide +kernel
theorem dC_isFacts_8 : decode prog_1_method_49_code 8 = .ok (.if_icmp .gt (7), 3) := by decide +kernel
theorem dC_isFacts_11 : decode prog_1_method_49_code 11 = .ok (.iconst (1), 1) := by decide +kernel
theorem dC_isFacts_12 : decode prog_1_method_49_code 12 = .ok (.goto (4), 3) := by decide +kernel
theorem dC_isFacts_15 : decode prog_1_method_49_code 15 = .ok (.iconst (0), 1) := by decide +kernel
theorem dC_isFacts_16 : decode prog_1_method_49_code 16 = .ok (.ireturn, 1) := by decide +kernel
theorem dHe_init_0 : decode prog_5_method_1_code 0 = .ok (.aload_n 0, 1) := by decide +kernel
theorem dHe_init_1 : decode prog_5_method_1_code 1 = .ok (.invokespecial 3, 3) := by decide +kernel
theorem dHe_init_4 : decode prog_5_method_1_code 4 = .ok (.aload_n 0, 1) := by decide +kernel
theorem dHe_init_5 : decode prog_5_method_1_code 5 = .ok (.bipush (8), 2) := by decide +kernel
theorem dHe_init_7 : decode prog_5_method_1_code 7 = .ok (.newarray .int, 2) := by decide +kernel
theorem dHe_init_9 : decode prog_5_method_1_code 9 = .ok (.putfield 9, 3) := by decide +kernel
theorem dHe_init_12 : decode prog_5_method_1_code 12 = .ok (.aload_n 0, 1) := by decide +kernel
theorem dHe_init_13 : decode prog_5_method_1_code 13 = .ok (.getfield 9, 3) := by decide +kernel
theorem dHe_init_16 : decode prog_5_method_1_code 16 = .ok (.iconst (2), 1) := by decide +kernel
theorem dHe_init_17 : decode prog_5_method_1_code 17 = .ok (.getstatic 15, 3) := by decide +kernel
theorem dHe_init_20 : decode prog_5_method_1_code 20 = .ok (.iconst (2), 1) := by decide +kernel
theorem dHe_init_21 : decode prog_5_method_1_code 21 = .ok (.iaload, 1) := by decide +kernel
theorem dHe_init_22 : decode prog_5_method_1_code 22 = .ok (.iastore, 1) := by decide +kernel
theorem dHe_init_23 : decode prog_5_method_1_code 23 = .ok (.aload_n 0, 1) := by decide +kernel
theorem dHe_init_24 : decode prog_5_method_1_code 24 = .ok (.getfield 9, 3) := by decide +kernel
theorem dHe_init_27 : decode prog_5_method_1_code 27 = .ok (.iconst (3), 1) := by decide +kernel
theorem dHe_init_28 : decode prog_5_method_1_code 28 = .ok (.getstatic 15, 3) := by decide +kernel
theorem dHe_init_31 : decode prog_5_method_1_code 31 = .ok (.iconst (3), 1) := by decide +kernel
theorem dHe_init_32 : decode prog_5_method_1_code 32 = .ok (.iaload, 1) := by decide +kernel
theorem dHe_init_33 : decode prog_5_method_1_code 33 = .ok (.iastore, 1) := by decide +kernel
theorem dHe_init_34 : decode prog_5_method_1_code 34 = .ok (.aload_n 0, 1) := by decide +kernel
theorem dHe_init_35 : decode prog_5_method_1_code 35 = .ok (.getfield 9, 3) := by decide +kernel
theorem dHe_init_38 : decode prog_5_method_1_code 38 = .ok (.iconst (4), 1) := by decide +kernel
theorem dHe_init_39 : decode prog_5_method_1_code 39 = .ok (.iconst (-1), 1) := by decide +kernel
theorem dHe_init_40 : decode prog_5_method_1_code 40 = .ok (.iastore, 1) := by decide +kernel
theorem dHe_init_41 : decode prog_5_method_1_code 41 = .ok (.aload_n 0, 1) := by decide +kernel
theorem dHe_init_42 : decode prog_5_method_1_code 42 = .ok (.getfield 9, 3) := by decide +kernel
theorem dHe_init_45 : decode prog_5_method_1_code 45 = .ok (.iconst (5), 1) := by decide +kernel
theorem dHe_init_46 : decode prog_5_method_1_code 46 = .ok (.iload_n 1, 1) := by decide +kernel
theorem dHe_init_47 : decode prog_5_method_1_code 47 = .ok (.iastore, 1) := by decide +kernel
theorem dHe_init_48 : decode prog_5_method_1_code 48 = .ok (.aload_n 0, 1) := by decide +kernel
theorem dHe_init_49 : decode prog_5_method_1_code 49 = .ok (.getfield 9, 3) := by decide +kernel
theorem dHe_init_52 : decode prog_5_method_1_code 52 = .ok (.bipush (6), 2) := by decide +kernel
theorem dHe_init_54 : decode prog_5_method_1_code 54 = .ok (.iload_n 2, 1) := by decide +kernel
theorem dHe_init_55 : decode prog_5_method_1_code 55 = .ok (.iastore, 1) := by decide +kernel
theorem dHe_init_56 : decode prog_5_method_1_code 56 = .ok (.aload_n 0, 1) := by decide +kernel
theorem dHe_init_57 : decode prog_5_method_1_code 57 = .ok (.getfield 9, 3) := by decide +kernel
theorem dHe_init_60 : decode prog_5_method_1_code 60 = .ok (.bipush (7), 2) := by decide +kernel
theorem dHe_init_62 : decode prog_5_method_1_code 62 = .ok (.iload_n 3, 1) := by decide +kernel
theorem dHe_init_63 : decode prog_5_method_1_code 63 = .ok (.iastore, 1) := by decide +kernel
theorem dHe_init_64 : decode prog_5_method_1_code 64 = .ok (.return_, 1) := by decide +kernel
theorem dRo_addHelper_0 : decode prog_9_method_2_code 0 = .ok (.aload_n 0, 1) := by decide +kernel
theorem dRo_addHelper_1 : decode prog_9_method_2_code 1 = .ok (.getfield 41, 3) := by decide +kernel
theorem dRo_addHelper_4 : decode prog_9_method_2_code 4 = .ok (.bipush (8), 2) := by decide +kernel
theorem dRo_addHelper_6 : decode prog_9_method_2_code 6 = .ok (.if_icmp .ge (23), 3) := by decide +kernel
theorem dRo_addHelper_9 : decode prog_9_method_2_code 9 = .ok (.aload_n 0, 1) := by decide +kernel
theorem dRo_addHelper_10 : decode prog_9_method_2_code 10 = .ok (.getfield 11, 3) := by decide +kernel
theorem dRo_addHelper_13 : decode prog_9_method_2_code 13 = .ok (.aload_n 0, 1) := by decide +kernel
theorem dRo_addHelper_14 : decode prog_9_method_2_code 14 = .ok (.getfield 41, 3) := by decide +kernel
theorem dRo_addHelper_17 : decode prog_9_method_2_code 17 = .ok (.aload_n 1, 1) := by decide +kernel
theorem dRo_addHelper_18 : decode prog_9_method_2_code 18 = .ok (.aastore, 1) := by decide +kernel
theorem dRo_addHelper_19 : decode prog_9_method_2_code 19 = .ok (.aload_n 0, 1) := by decide +kernel
theorem dRo_addHelper_20 : decode prog_9_method_2_code 20 = .ok (.dup, 1) := by decide +kernel
theorem dRo_addHelper_21 : decode prog_9_method_2_code 21 = .ok (.getfield 41, 3) := by decide +kernel
theorem dRo_addHelper_24 : decode prog_9_method_2_code 24 = .ok (.iconst (1), 1) := by decide +kernel
theorem dRo_addHelper_25 : decode prog_9_method_2_code 25 = .ok (.iadd, 1) := by decide +kernel
theorem dRo_addHelper_26 : decode prog_9_method_2_code 26 = .ok (.putfield 41, 3) := by decide +kernel
theorem dRo_addHelper_29 : decode prog_9_method_2_code 29 = .ok (.aload_n 0, 1) := by decide +kernel
theorem dRo_addHelper_30 : decode prog_9_method_2_code 30 = .ok (.getfield 41, 3) := by decide +kernel
theorem dRo_addHelper_33 : decode prog_9_method_2_code 33 = .ok (.iconst (1), 1) := by decide +kernel
theorem dRo_addHelper_34 : decode prog_9_method_2_code 34 = .ok (.isub, 1) := by decide +kernel
theorem dRo_addHelper_35 : decode prog_9_method_2_code 35 = .ok (.ireturn, 1) := by decide +kernel
theorem dC_helper_0 : decode prog_1_method_17_code 0 = .ok (.iload_n 1, 1) := by decide +kernel
theorem dC_helper_1 : decode prog_1_method_17_code 1 = .ok (.invokestatic 152, 3) := by decide +kernel
theorem dC_helper_4 : decode prog_1_method_17_code 4 = .ok (.ifCond .eq (17), 3) := by decide +kernel
theorem dC_helper_7 : decode prog_1_method_17_code 7 = .ok (.iload_n 2, 1) := by decide +kernel
theorem dC_helper_8 : decode prog_1_method_17_code 8 = .ok (.invokestatic 152, 3) := by decide +kernel
theorem dC_helper_11 : decode prog_1_method_17_code 11 = .ok (.ifCond .eq (10), 3) := by decide +kernel
theorem dC_helper_14 : decode prog_1_method_17_code 14 = .ok (.iload_n 3, 1) := by decide +kernel
theorem dC_helper_15 : decode prog_1_method_17_code 15 = .ok (.invokestatic 152, 3) := by decide +kernel
theorem dC_helper_18 : decode prog_1_method_17_code 18 = .ok (.ifCond .ne (6), 3) := by decide +kernel
theorem dC_helper_21 : decode prog_1_method_17_code 21 = .ok (.bipush (-102), 2) := by decide +kernel
theorem dC_helper_23 : decode prog_1_method_17_code 23 = .ok (.ireturn, 1) := by decide +kernel
theorem dC_helper_24 : decode prog_1_method_17_code 24 = .ok (.aload_n 0, 1) := by decide +kernel
theorem dC_helper_25 : decode prog_1_method_17_code 25 = .ok (.getfield 46, 3) := by decide +kernel
theorem dC_helper_28 : decode prog_1_method_17_code 28 = .ok (.getfield 155, 3) := by decide +kernel
theorem dC_helper_31 : decode prog_1_method_17_code 31 = .ok (.bipush (8), 2) := by decide +kernel
theorem dC_helper_33 : decode prog_1_method_17_code 33 = .ok (.if_icmp .lt (6), 3) := by decide +kernel
theorem dC_helper_36 : decode prog_1_method_17_code 36 = .ok (.bipush (-104), 2) := by decide +kernel
theorem dC_helper_38 : decode prog_1_method_17_code 38 = .ok (.ireturn, 1) := by decide +kernel
theorem dC_helper_39 : decode prog_1_method_17_code 39 = .ok (.aload_n 0, 1) := by decide +kernel
theorem dC_helper_40 : decode prog_1_method_17_code 40 = .ok (.getfield 46, 3) := by decide +kernel
theorem dC_helper_43 : decode prog_1_method_17_code 43 = .ok (.new 158, 3) := by decide +kernel
theorem dC_helper_46 : decode prog_1_method_17_code 46 = .ok (.dup, 1) := by decide +kernel
theorem dC_helper_47 : decode prog_1_method_17_code 47 = .ok (.iload_n 1, 1) := by decide +kernel
theorem dC_helper_48 : decode prog_1_method_17_code 48 = .ok (.iload_n 2, 1) := by decide +kernel
theorem dC_helper_49 : decode prog_1_method_17_code 49 = .ok (.iload_n 3, 1) := by decide +kernel
theorem dC_helper_50 : decode prog_1_method_17_code 50 = .ok (.invokespecial 160, 3) := by decide +kernel
theorem dC_helper_53 : decode prog_1_method_17_code 53 = .ok (.invokevirtual 163, 3) := by decide +kernel
theorem dC_helper_56 : decode prog_1_method_17_code 56 = .ok (.ireturn, 1) := by decide +kernel
theorem dM_isSet_0 : decode prog_14_method_56_code 0 = .ok (.iload_n 0, 1) := by decide +kernel
theorem dM_isSet_1 : decode prog_14_method_56_code 1 = .ok (.iconst (0), 1) := by decide +kernel
theorem dM_isSet_2 : decode prog_14_method_56_code 2 = .ok (.sipush (4095), 3) := by decide +kernel
theorem dM_isSet_5 : decode prog_14_method_56_code 5 = .ok (.invokestatic 148, 3) := by decide +kernel
theorem dM_isSet_8 : decode prog_14_method_56_code 8 = .ok (.ireturn, 1) := by decide +kernel
theorem dM_helper_0 : decode prog_14_method_58_code 0 = .ok (.iload_n 1, 1) := by decide +kernel
theorem dM_helper_1 : decode prog_14_method_58_code 1 = .ok (.invokestatic 306, 3) := by decide +kernel
theorem dM_helper_4 : decode prog_14_method_58_code 4 = .ok (.ifCond .eq (17), 3) := by decide +kernel
theorem dM_helper_7 : decode prog_14_method_58_code 7 = .ok (.iload_n 2, 1) := by decide +kernel
theorem dM_helper_8 : decode prog_14_method_58_code 8 = .ok (.invokestatic 306, 3) := by decide +kernel
theorem dM_helper_11 : decode prog_14_method_58_code 11 = .ok (.ifCond .eq (10), 3) := by decide +kernel
theorem dM_helper_14 : decode prog_14_method_58_code 14 = .ok (.iload_n 3, 1) := by decide +kernel
theorem dM_helper_15 : decode prog_14_method_58_code 15 = .ok (.invokestatic 306, 3) := by decide +kernel
theorem dM_helper_18 : decode prog_14_method_58_code 18 = .ok (.ifCond .ne (6), 3) := by decide +kernel
theorem dM_helper_21 : decode prog_14_method_58_code 21 = .ok (.bipush (-102), 2) := by decide +kernel
theorem dM_helper_23 : decode prog_14_method_58_code 23 = .ok (.ireturn, 1) := by decide +kernel
theorem dM_helper_24 : decode prog_14_method_58_code 24 = .ok (.aload_n 0, 1) := by decide +kernel
theorem dM_helper_25 : decode prog_14_method_58_code 25 = .ok (.getfield 303, 3) := by decide +kernel
theorem dM_helper_28 : decode prog_14_method_58_code 28 = .ok (.bipush (8), 2) := by decide +kernel
theorem dM_helper_30 : decode prog_14_method_58_code 30 = .ok (.if_icmp .ne (6), 3) := by decide +kernel
theorem dM_helper_33 : decode prog_14_method_58_code 33 = .ok (.bipush (-104), 2) := by decide +kernel
theorem dM_helper_35 : decode prog_14_method_58_code 35 = .ok (.ireturn, 1) := by decide +kernel
theorem dM_helper_36 : decode prog_14_method_58_code 36 = .ok (.aload_n 0, 1) := by decide +kernel
theorem dM_helper_37 : decode prog_14_method_58_code 37 = .ok (.getfield 24, 3) := by decide +kernel
theorem dM_helper_40 : decode prog_14_method_58_code 40 = .ok (.aload_n 0, 1) := by decide +kernel
theorem dM_helper_41 : decode prog_14_method_58_code 41 = .ok (.getfield 303, 3) := by decide +kernel
theorem dM_helper_44 : decode prog_14_method_58_code 44 = .ok (.iload_n 1, 1) := by decide +kernel
theorem dM_helper_45 : decode prog_14_method_58_code 45 = .ok (.iastore, 1) := by decide +kernel
theorem dM_helper_46 : decode prog_14_method_58_code 46 = .ok (.aload_n 0, 1) := by decide +kernel
theorem dM_helper_47 : decode prog_14_method_58_code 47 = .ok (.getfield 27, 3) := by decide +kernel
theorem dM_helper_50 : decode prog_14_method_58_code 50 = .ok (.aload_n 0, 1) := by decide +kernel
theorem dM_helper_51 : decode prog_14_method_58_code 51 = .ok (.getfield 303, 3) := by decide +kernel
theorem dM_helper_54 : decode prog_14_method_58_code 54 = .ok (.iload_n 2, 1) := by decide +kernel
theorem dM_helper_55 : decode prog_14_method_58_code 55 = .ok (.iastore, 1) := by decide +kernel
theorem dM_helper_56 : decode prog_14_method_58_code 56 = .ok (.aload_n 0, 1) := by decide +kernel
theorem dM_helper_57 : decode prog_14_method_58_code 57 = .ok (.getfield 30, 3) := by decide +kernel
theorem dM_helper_60 : decode prog_14_method_58_code 60 = .ok (.aload_n 0, 1) := by decide +kernel
theorem dM_helper_61 : decode prog_14_method_58_code 61 = .ok (.getfield 303, 3) := by decide +kernel
theorem dM_helper_64 : decode prog_14_method_58_code 64 = .ok (.iload_n 3, 1) := by decide +kernel
theorem dM_helper_65 : decode prog_14_method_58_code 65 = .ok (.iastore, 1) := by decide +kernel
theorem dM_helper_66 : decode prog_14_method_58_code 66 = .ok (.aload_n 0, 1) := by decide +kernel
theorem dM_helper_67 : decode prog_14_method_58_code 67 = .ok (.getfield 33, 3) := by decide +kernel
theorem dM_helper_70 : decode prog_14_method_58_code 70 = .ok (.iconst (5), 1) := by decide +kernel
theorem dM_helper_71 : decode prog_14_method_58_code 71 = .ok (.aload_n 0, 1) := by decide +kernel
theorem dM_helper_72 : decode prog_14_method_58_code 72 = .ok (.getfield 303, 3) := by decide +kernel
theorem dM_helper_75 : decode prog_14_method_58_code 75 = .ok (.imul, 1) := by decide +kernel
theorem dM_helper_76 : decode prog_14_method_58_code 76 = .ok (.iconst (0), 1) := by decide +kernel
theorem dM_helper_77 : decode prog_14_method_58_code 77 = .ok (.iastore, 1) := by decide +kernel
theorem dM_helper_78 : decode prog_14_method_58_code 78 = .ok (.aload_n 0, 1) := by decide +kernel
theorem dM_helper_79 : decode prog_14_method_58_code 79 = .ok (.getfield 33, 3) := by decide +kernel
theorem dM_helper_82 : decode prog_14_method_58_code 82 = .ok (.iconst (5), 1) := by decide +kernel
theorem dM_helper_83 : decode prog_14_method_58_code 83 = .ok (.aload_n 0, 1) := by decide +kernel
theorem dM_helper_84 : decode prog_14_method_58_code 84 = .ok (.getfield 303, 3) := by decide +kernel
theorem dM_helper_87 : decode prog_14_method_58_code 87 = .ok (.imul, 1) := by decide +kernel
theorem dM_helper_88 : decode prog_14_method_58_code 88 = .ok (.iconst (1), 1) := by decide +kernel
theorem dM_helper_89 : decode prog_14_method_58_code 89 = .ok (.iadd, 1) := by decide +kernel
theorem dM_helper_90 : decode prog_14_method_58_code 90 = .ok (.iconst (0), 1) := by decide +kernel
theorem dM_helper_91 : decode prog_14_method_58_code 91 = .ok (.iastore, 1) := by decide +kernel
theorem dM_helper_92 : decode prog_14_method_58_code 92 = .ok (.aload_n 0, 1) := by decide +kernel
theorem dM_helper_93 : decode prog_14_method_58_code 93 = .ok (.getfield 33, 3) := by decide +kernel
theorem dM_helper_96 : decode prog_14_method_58_code 96 = .ok (.iconst (5), 1) := by decide +kernel
theorem dM_helper_97 : decode prog_14_method_58_code 97 = .ok (.aload_n 0, 1) := by decide +kernel
theorem dM_helper_98 : decode prog_14_method_58_code 98 = .ok (.getfield 303, 3) := by decide +kernel
theorem dM_helper_101 : decode prog_14_method_58_code 101 = .ok (.imul, 1) := by decide +kernel
theorem dM_helper_102 : decode prog_14_method_58_code 102 = .ok (.iconst (2), 1) := by decide +kernel
theorem dM_helper_103 : decode prog_14_method_58_code 103 = .ok (.iadd, 1) := by decide +kernel
theorem dM_helper_104 : decode prog_14_method_58_code 104 = .ok (.iconst (3), 1) := by decide +kernel
theorem dM_helper_105 : decode prog_14_method_58_code 105 = .ok (.iastore, 1) := by decide +kernel
theorem dM_helper_106 : decode prog_14_method_58_code 106 = .ok (.aload_n 0, 1) := by decide +kernel
theorem dM_helper_107 : decode prog_14_method_58_code 107 = .ok (.getfield 33, 3) := by decide +kernel
theorem dM_helper_110 : decode prog_14_method_58_code 110 = .ok (.iconst (5), 1) := by decide +kernel
theorem dM_helper_111 : decode prog_14_method_58_code 111 = .ok (.aload_n 0, 1) := by decide +kernel
theorem dM_helper_112 : decode prog_14_method_58_code 112 = .ok (.getfield 303, 3) := by decide +kernel
theorem dM_helper_115 : decode prog_14_method_58_code 115 = .ok (.imul, 1) := by decide +kernel
theorem dM_helper_116 : decode prog_14_method_58_code 116 = .ok (.iconst (3), 1) := by decide +kernel
theorem dM_helper_117 : decode prog_14_method_58_code 117 = .ok (.iadd, 1) := by decide +kernel
theorem dM_helper_118 : decode prog_14_method_58_code 118 = .ok (.iconst (3), 1) := by decide +kernel
theorem dM_helper_119 : decode prog_14_method_58_code 119 = .ok (.iastore, 1) := by decide +kernel
theorem dM_helper_120 : decode prog_14_method_58_code 120 = .ok (.aload_n 0, 1) := by decide +kernel
theorem dM_helper_121 : decode prog_14_method_58_code 121 = .ok (.getfield 33, 3) := by decide +kernel
theorem dM_helper_124 : decode prog_14_method_58_code 124 = .ok (.iconst (5), 1) := by decide +kernel
theorem dM_helper_125 : decode prog_14_method_58_code 125 = .ok (.aload_n 0, 1) := by decide +kernel
theorem dM_helper_126 : decode prog_14_method_58_code 126 = .ok (.getfield 303, 3) := by decide +kernel
theorem dM_helper_129 : decode prog_14_method_58_code 129 = .ok (.imul, 1) := by decide +kernel
theorem dM_helper_130 : decode prog_14_method_58_code 130 = .ok (.iconst (4), 1) := by decide +kernel
theorem dM_helper_131 : decode prog_14_method_58_code 131 = .ok (.iadd, 1) := by decide +kernel
theorem dM_helper_132 : decode prog_14_method_58_code 132 = .ok (.iconst (-1), 1) := by decide +kernel
theorem dM_helper_133 : decode prog_14_method_58_code 133 = .ok (.iastore, 1) := by decide +kernel
theorem dM_helper_134 : decode prog_14_method_58_code 134 = .ok (.aload_n 0, 1) := by decide +kernel
theorem dM_helper_135 : decode prog_14_method_58_code 135 = .ok (.dup, 1) := by decide +kernel
theorem dM_helper_136 : decode prog_14_method_58_code 136 = .ok (.getfield 303, 3) := by decide +kernel
theorem dM_helper_139 : decode prog_14_method_58_code 139 = .ok (.iconst (1), 1) := by decide +kernel
theorem dM_helper_140 : decode prog_14_method_58_code 140 = .ok (.iadd, 1) := by decide +kernel
theorem dM_helper_141 : decode prog_14_method_58_code 141 = .ok (.putfield 303, 3) := by decide +kernel
theorem dM_helper_144 : decode prog_14_method_58_code 144 = .ok (.aload_n 0, 1) := by decide +kernel
theorem dM_helper_145 : decode prog_14_method_58_code 145 = .ok (.getfield 303, 3) := by decide +kernel
theorem dM_helper_148 : decode prog_14_method_58_code 148 = .ok (.iconst (1), 1) := by decide +kernel
theorem dM_helper_149 : decode prog_14_method_58_code 149 = .ok (.isub, 1) := by decide +kernel
theorem dM_helper_150 : decode prog_14_method_58_code 150 = .ok (.ireturn, 1) := by decide +kernel
theorem dRo_helperNumbered_0 : decode prog_9_method_3_code 0 = .ok (.iload_n 1, 1) := by decide +kernel
theorem dRo_helperNumbered_1 : decode prog_9_method_3_code 1 = .ok (.ifCond .lt (11), 3) := by decide +kernel
theorem dRo_helperNumbered_4 : decode prog_9_method_3_code 4 = .ok (.iload_n 1, 1) := by decide +kernel
theorem dRo_helperNumbered_5 : decode prog_9_method_3_code 5 = .ok (.aload_n 0, 1) := by decide +kernel
theorem dRo_helperNumbered_6 : decode prog_9_method_3_code 6 = .ok (.getfield 41, 3) := by decide +kernel
theorem dRo_helperNumbered_9 : decode prog_9_method_3_code 9 = .ok (.if_icmp .lt (7), 3) := by decide +kernel
theorem dRo_helperNumbered_12 : decode prog_9_method_3_code 12 = .ok (.aconst_null, 1) := by decide +kernel
theorem dRo_helperNumbered_13 : decode prog_9_method_3_code 13 = .ok (.goto (9), 3) := by decide +kernel
theorem dRo_helperNumbered_16 : decode prog_9_method_3_code 16 = .ok (.aload_n 0, 1) := by decide +kernel
theorem dRo_helperNumbered_17 : decode prog_9_method_3_code 17 = .ok (.getfield 11, 3) := by decide +kernel
theorem dRo_helperNumbered_20 : decode prog_9_method_3_code 20 = .ok (.iload_n 1, 1) := by decide +kernel
theorem dRo_helperNumbered_21 : decode prog_9_method_3_code 21 = .ok (.aaload, 1) := by decide +kernel
theorem dRo_helperNumbered_22 : decode prog_9_method_3_code 22 = .ok (.areturn, 1) := by decide +kernel
theorem dC_set_0 : decode prog_1_method_18_code 0 = .ok (.aload_n 0, 1) := by decide +kernel
theorem dC_set_1 : decode prog_1_method_18_code 1 = .ok (.getfield 46, 3) := by decide +kernel
theorem dC_set_4 : decode prog_1_method_18_code 4 = .ok (.iload_n 1, 1) := by decide +kernel
theorem dC_set_5 : decode prog_1_method_18_code 5 = .ok (.invokevirtual 167, 3) := by decide +kernel
theorem dC_set_8 : decode prog_1_method_18_code 8 = .ok (.astore 4, 2) := by decide +kernel
theorem dC_set_10 : decode prog_1_method_18_code 10 = .ok (.aload 4, 2) := by decide +kernel
theorem dC_set_12 : decode prog_1_method_18_code 12 = .ok (.ifnull (12), 3) := by decide +kernel
theorem dC_set_15 : decode prog_1_method_18_code 15 = .ok (.iload_n 2, 1) := by decide +kernel
theorem dC_set_16 : decode prog_1_method_18_code 16 = .ok (.ifCond .lt (8), 3) := by decide +kernel
theorem dC_set_19 : decode prog_1_method_18_code 19 = .ok (.iload_n 2, 1) := by decide +kernel
theorem dC_set_20 : decode prog_1_method_18_code 20 = .ok (.iconst (4), 1) := by decide +kernel
theorem dC_set_21 : decode prog_1_method_18_code 21 = .ok (.if_icmp .le (6), 3) := by decide +kernel
theorem dC_set_24 : decode prog_1_method_18_code 24 = .ok (.bipush (-101), 2) := by decide +kernel
theorem dC_set_26 : decode prog_1_method_18_code 26 = .ok (.ireturn, 1) := by decide +kernel
theorem dC_set_27 : decode prog_1_method_18_code 27 = .ok (.iload_n 2, 1) := by decide +kernel
theorem dC_set_28 : decode prog_1_method_18_code 28 = .ok (.iconst (4), 1) := by decide +kernel
theorem dC_set_29 : decode prog_1_method_18_code 29 = .ok (.if_icmp .ne (22), 3) := by decide +kernel
theorem dC_set_32 : decode prog_1_method_18_code 32 = .ok (.iload_n 3, 1) := by decide +kernel
theorem dC_set_33 : decode prog_1_method_18_code 33 = .ok (.iconst (-1), 1) := by decide +kernel
theorem dC_set_34 : decode prog_1_method_18_code 34 = .ok (.if_icmp .eq (38), 3) := by decide +kernel
theorem dC_set_37 : decode prog_1_method_18_code 37 = .ok (.aload_n 0, 1) := by decide +kernel
theorem dC_set_38 : decode prog_1_method_18_code 38 = .ok (.getfield 46, 3) := by decide +kernel
theorem dC_set_41 : decode prog_1_method_18_code 41 = .ok (.iload_n 3, 1) := by decide +kernel
theorem dC_set_42 : decode prog_1_method_18_code 42 = .ok (.invokevirtual 167, 3) := by decide +kernel
theorem dC_set_45 : decode prog_1_method_18_code 45 = .ok (.ifnonnull (27), 3) := by decide +kernel
theorem dC_set_48 : decode prog_1_method_18_code 48 = .ok (.bipush (-101), 2) := by decide +kernel
theorem dC_set_50 : decode prog_1_method_18_code 50 = .ok (.ireturn, 1) := by decide +kernel
theorem dC_set_51 : decode prog_1_method_18_code 51 = .ok (.iload_n 3, 1) := by decide +kernel
theorem dC_set_52 : decode prog_1_method_18_code 52 = .ok (.getstatic 171, 3) := by decide +kernel
theorem dC_set_55 : decode prog_1_method_18_code 55 = .ok (.iload_n 2, 1) := by decide +kernel
theorem dC_set_56 : decode prog_1_method_18_code 56 = .ok (.iaload, 1) := by decide +kernel
theorem dC_set_57 : decode prog_1_method_18_code 57 = .ok (.if_icmp .lt (12), 3) := by decide +kernel
theorem dC_set_60 : decode prog_1_method_18_code 60 = .ok (.iload_n 3, 1) := by decide +kernel
theorem dC_set_61 : decode prog_1_method_18_code 61 = .ok (.getstatic 175, 3) := by decide +kernel
theorem dC_set_64 : decode prog_1_method_18_code 64 = .ok (.iload_n 2, 1) := by decide +kernel
theorem dC_set_65 : decode prog_1_method_18_code 65 = .ok (.iaload, 1) := by decide +kernel
theorem dC_set_66 : decode prog_1_method_18_code 66 = .ok (.if_icmp .le (6), 3) := by decide +kernel
theorem dC_set_69 : decode prog_1_method_18_code 69 = .ok (.bipush (-102), 2) := by decide +kernel
theorem dC_set_71 : decode prog_1_method_18_code 71 = .ok (.ireturn, 1) := by decide +kernel
theorem dC_set_72 : decode prog_1_method_18_code 72 = .ok (.aload 4, 2) := by decide +kernel
theorem dC_set_74 : decode prog_1_method_18_code 74 = .ok (.getfield 178, 3) := by decide +kernel
theorem dC_set_77 : decode prog_1_method_18_code 77 = .ok (.iload_n 2, 1) := by decide +kernel
theorem dC_set_78 : decode prog_1_method_18_code 78 = .ok (.iaload, 1) := by decide +kernel
theorem dC_set_79 : decode prog_1_method_18_code 79 = .ok (.istore 5, 2) := by decide +kernel
theorem dC_set_81 : decode prog_1_method_18_code 81 = .ok (.aload 4, 2) := by decide +kernel
theorem dC_set_83 : decode prog_1_method_18_code 83 = .ok (.getfield 178, 3) := by decide +kernel
theorem dC_set_86 : decode prog_1_method_18_code 86 = .ok (.iload_n 2, 1) := by decide +kernel
theorem dC_set_87 : decode prog_1_method_18_code 87 = .ok (.iload_n 3, 1) := by decide +kernel
theorem dC_set_88 : decode prog_1_method_18_code 88 = .ok (.iastore, 1) := by decide +kernel
theorem dC_set_89 : decode prog_1_method_18_code 89 = .ok (.iload 5, 2) := by decide +kernel
theorem dC_set_91 : decode prog_1_method_18_code 91 = .ok (.ireturn, 1) := by decide +kernel
theorem dM_isHelper_0 : decode prog_14_method_57_code 0 = .ok (.iload_n 1, 1) := by decide +kernel
theorem dM_isHelper_1 : decode prog_14_method_57_code 1 = .ok (.iconst (0), 1) := by decide +kernel
theorem dM_isHelper_2 : decode prog_14_method_57_code 2 = .ok (.aload_n 0, 1) := by decide +kernel
theorem dM_isHelper_3 : decode prog_14_method_57_code 3 = .ok (.getfield 303, 3) := by decide +kernel
theorem dM_isHelper_6 : decode prog_14_method_57_code 6 = .ok (.iconst (1), 1) := by decide +kernel
theorem dM_isHelper_7 : decode prog_14_method_57_code 7 = .ok (.isub, 1) := by decide +kernel
theorem dM_isHelper_8 : decode prog_14_method_57_code 8 = .ok (.invokestatic 148, 3) := by decide +kernel
theorem dM_isHelper_11 : decode prog_14_method_57_code 11 = .ok (.ireturn, 1) := by decide +kernel
theorem dM_set_0 : decode prog_14_method_59_code 0 = .ok (.aload_n 0, 1) := by decide +kernel
theorem dM_set_1 : decode prog_14_method_59_code 1 = .ok (.iload_n 1, 1) := by decide +kernel
theorem dM_set_2 : decode prog_14_method_59_code 2 = .ok (.invokevirtual 309, 3) := by decide +kernel
theorem dM_set_5 : decode prog_14_method_59_code 5 = .ok (.ifCond .eq (30), 3) := by decide +kernel
theorem dM_set_8 : decode prog_14_method_59_code 8 = .ok (.iload_n 2, 1) := by decide +kernel
theorem dM_set_9 : decode prog_14_method_59_code 9 = .ok (.iconst (0), 1) := by decide +kernel
theorem dM_set_10 : decode prog_14_method_59_code 10 = .ok (.iconst (4), 1) := by decide +kernel
theorem dM_set_11 : decode prog_14_method_59_code 11 = .ok (.invokestatic 148, 3) := by decide +kernel
theorem dM_set_14 : decode prog_14_method_59_code 14 = .ok (.ifCond .eq (21), 3) := by decide +kernel
theorem dM_set_17 : decode prog_14_method_59_code 17 = .ok (.iload_n 2, 1) := by decide +kernel
theorem dM_set_18 : decode prog_14_method_59_code 18 = .ok (.iconst (4), 1) := by decide +kernel
theorem dM_set_19 : decode prog_14_method_59_code 19 = .ok (.if_icmp .ne (19), 3) := by decide +kernel
theorem dM_set_22 : decode prog_14_method_59_code 22 = .ok (.iload_n 3, 1) := by decide +kernel
theorem dM_set_23 : decode prog_14_method_59_code 23 = .ok (.iconst (-1), 1) := by decide +kernel
theorem dM_set_24 : decode prog_14_method_59_code 24 = .ok (.if_icmp .eq (14), 3) := by decide +kernel
theorem dM_set_27 : decode prog_14_method_59_code 27 = .ok (.aload_n 0, 1) := by decide +kernel
theorem dM_set_28 : decode prog_14_method_59_code 28 = .ok (.iload_n 3, 1) := by decide +kernel
theorem dM_set_29 : decode prog_14_method_59_code 29 = .ok (.invokevirtual 309, 3) := by decide +kernel
theorem dM_set_32 : decode prog_14_method_59_code 32 = .ok (.ifCond .ne (6), 3) := by decide +kernel
theorem dM_set_35 : decode prog_14_method_59_code 35 = .ok (.bipush (-101), 2) := by decide +kernel
theorem dM_set_37 : decode prog_14_method_59_code 37 = .ok (.ireturn, 1) := by decide +kernel
theorem dM_set_38 : decode prog_14_method_59_code 38 = .ok (.iload_n 2, 1) := by decide +kernel
theorem dM_set_39 : decode prog_14_method_59_code 39 = .ok (.iconst (2), 1) := by decide +kernel
theorem dM_set_40 : decode prog_14_method_59_code 40 = .ok (.if_icmp .ne (7), 3) := by decide +kernel
theorem dM_set_43 : decode prog_14_method_59_code 43 = .ok (.iconst (1), 1) := by decide +kernel
theorem dM_set_44 : decode prog_14_method_59_code 44 = .ok (.goto (13), 3) := by decide +kernel
theorem dM_set_47 : decode prog_14_method_59_code 47 = .ok (.iload_n 2, 1) := by decide +kernel
theorem dM_set_48 : decode prog_14_method_59_code 48 = .ok (.iconst (4), 1) := by decide +kernel
theorem dM_set_49 : decode prog_14_method_59_code 49 = .ok (.if_icmp .ne (7), 3) := by decide +kernel
theorem dM_set_52 : decode prog_14_method_59_code 52 = .ok (.iconst (-1), 1) := by decide +kernel
theorem dM_set_53 : decode prog_14_method_59_code 53 = .ok (.goto (4), 3) := by decide +kernel
theorem dM_set_56 : decode prog_14_method_59_code 56 = .ok (.iconst (0), 1) := by decide +kernel
theorem dM_set_57 : decode prog_14_method_59_code 57 = .ok (.istore 4, 2) := by decide +kernel
theorem dM_set_59 : decode prog_14_method_59_code 59 = .ok (.iload_n 2, 1) := by decide +kernel
theorem dM_set_60 : decode prog_14_method_59_code 60 = .ok (.ifCond .ne (8), 3) := by decide +kernel
theorem dM_set_63 : decode prog_14_method_59_code 63 = .ok (.bipush (50), 2) := by decide +kernel
theorem dM_set_65 : decode prog_14_method_59_code 65 = .ok (.goto (24), 3) := by decide +kernel
theorem dM_set_68 : decode prog_14_method_59_code 68 = .ok (.iload_n 2, 1) := by decide +kernel
theorem dM_set_69 : decode prog_14_method_59_code 69 = .ok (.iconst (1), 1) := by decide +kernel
theorem dM_set_70 : decode prog_14_method_59_code 70 = .ok (.if_icmp .ne (8), 3) := by decide +kernel
theorem dM_set_73 : decode prog_14_method_59_code 73 = .ok (.bipush (9), 2) := by decide +kernel
theorem dM_set_75 : decode prog_14_method_59_code 75 = .ok (.goto (14), 3) := by decide +kernel
theorem dM_set_78 : decode prog_14_method_59_code 78 = .ok (.iload_n 2, 1) := by decide +kernel
theorem dM_set_79 : decode prog_14_method_59_code 79 = .ok (.iconst (4), 1) := by decide +kernel
theorem dM_set_80 : decode prog_14_method_59_code 80 = .ok (.if_icmp .ne (8), 3) := by decide +kernel
theorem dM_set_83 : decode prog_14_method_59_code 83 = .ok (.bipush (8), 2) := by decide +kernel
theorem dM_set_85 : decode prog_14_method_59_code 85 = .ok (.goto (4), 3) := by decide +kernel
theorem dM_set_88 : decode prog_14_method_59_code 88 = .ok (.iconst (3), 1) := by decide +kernel
theorem dM_set_89 : decode prog_14_method_59_code 89 = .ok (.istore 5, 2) := by decide +kernel
theorem dM_set_91 : decode prog_14_method_59_code 91 = .ok (.iload_n 3, 1) := by decide +kernel
theorem dM_set_92 : decode prog_14_method_59_code 92 = .ok (.iload 4, 2) := by decide +kernel
theorem dM_set_94 : decode prog_14_method_59_code 94 = .ok (.iload 5, 2) := by decide +kernel
theorem dM_set_96 : decode prog_14_method_59_code 96 = .ok (.invokestatic 148, 3) := by decide +kernel
theorem dM_set_99 : decode prog_14_method_59_code 99 = .ok (.ifCond .ne (6), 3) := by decide +kernel
theorem dM_set_102 : decode prog_14_method_59_code 102 = .ok (.bipush (-102), 2) := by decide +kernel
theorem dM_set_104 : decode prog_14_method_59_code 104 = .ok (.ireturn, 1) := by decide +kernel
theorem dM_set_105 : decode prog_14_method_59_code 105 = .ok (.aload_n 0, 1) := by decide +kernel
theorem dM_set_106 : decode prog_14_method_59_code 106 = .ok (.getfield 33, 3) := by decide +kernel
theorem dM_set_109 : decode prog_14_method_59_code 109 = .ok (.iconst (5), 1) := by decide +kernel
theorem dM_set_110 : decode prog_14_method_59_code 110 = .ok (.iload_n 1, 1) := by decide +kernel
theorem dM_set_111 : decode prog_14_method_59_code 111 = .ok (.imul, 1) := by decide +kernel
theorem dM_set_112 : decode prog_14_method_59_code 112 = .ok (.iload_n 2, 1) := by decide +kernel
theorem dM_set_113 : decode prog_14_method_59_code 113 = .ok (.iadd, 1) := by decide +kernel
theorem dM_set_114 : decode prog_14_method_59_code 114 = .ok (.iaload, 1) := by decide +kernel
theorem dM_set_115 : decode prog_14_method_59_code 115 = .ok (.istore 6, 2) := by decide +kernel
theorem dM_set_117 : decode prog_14_method_59_code 117 = .ok (.aload_n 0, 1) := by decide +kernel
theorem dM_set_118 : decode prog_14_method_59_code 118 = .ok (.getfield 33, 3) := by decide +kernel
theorem dM_set_121 : decode prog_14_method_59_code 121 = .ok (.iconst (5), 1) := by decide +kernel
theorem dM_set_122 : decode prog_14_method_59_code 122 = .ok (.iload_n 1, 1) := by decide +kernel
theorem dM_set_123 : decode prog_14_method_59_code 123 = .ok (.imul, 1) := by decide +kernel
theorem dM_set_124 : decode prog_14_method_59_code 124 = .ok (.iload_n 2, 1) := by decide +kernel
theorem dM_set_125 : decode prog_14_method_59_code 125 = .ok (.iadd, 1) := by decide +kernel
theorem dM_set_126 : decode prog_14_method_59_code 126 = .ok (.iload_n 3, 1) := by decide +kernel
theorem dM_set_127 : decode prog_14_method_59_code 127 = .ok (.iastore, 1) := by decide +kernel
theorem dM_set_128 : decode prog_14_method_59_code 128 = .ok (.iload 6, 2) := by decide +kernel
theorem dM_set_130 : decode prog_14_method_59_code 130 = .ok (.ireturn, 1) := by decide +kernel
theorem dC_isFact_0 : decode prog_1_method_50_code 0 = .ok (.iload_n 0, 1) := by decide +kernel
theorem dC_isFact_1 : decode prog_1_method_50_code 1 = .ok (.ifCond .lt (13), 3) := by decide +kernel
theorem dC_isFact_4 : decode prog_1_method_50_code 4 = .ok (.iload_n 0, 1) := by decide +kernel
theorem dC_isFact_5 : decode prog_1_method_50_code 5 = .ok (.bipush (12), 2) := by decide +kernel
theorem dC_isFact_7 : decode prog_1_method_50_code 7 = .ok (.if_icmp .ge (7), 3) := by decide +kernel
theorem dC_isFact_10 : decode prog_1_method_50_code 10 = .ok (.iconst (1), 1) := by decide +kernel
theorem dC_isFact_11 : decode prog_1_method_50_code 11 = .ok (.goto (4), 3) := by decide +kernel
theorem dC_isFact_14 : decode prog_1_method_50_code 14 = .ok (.iconst (0), 1) := by decide +kernel
theorem dC_isFact_15 : decode prog_1_method_50_code 15 = .ok (.ireturn, 1) := by decide +kernel
theorem dC_level_0 : decode prog_1_method_19_code 0 = .ok (.iload_n 1, 1) := by decide +kernel
theorem dC_level_1 : decode prog_1_method_19_code 1 = .ok (.invokestatic 181, 3) := by decide +kernel
theorem dC_level_4 : decode prog_1_method_19_code 4 = .ok (.ifCond .ne (6), 3) := by decide +kernel
theorem dC_level_7 : decode prog_1_method_19_code 7 = .ok (.bipush (-101), 2) := by decide +kernel
theorem dC_level_9 : decode prog_1_method_19_code 9 = .ok (.ireturn, 1) := by decide +kernel
theorem dC_level_10 : decode prog_1_method_19_code 10 = .ok (.iload_n 2, 1) := by decide +kernel
theorem dC_level_11 : decode prog_1_method_19_code 11 = .ok (.ifCond .lt (8), 3) := by decide +kernel
theorem dC_level_14 : decode prog_1_method_19_code 14 = .ok (.iload_n 2, 1) := by decide +kernel
theorem dC_level_15 : decode prog_1_method_19_code 15 = .ok (.iconst (3), 1) := by decide +kernel
theorem dC_level_16 : decode prog_1_method_19_code 16 = .ok (.if_icmp .le (6), 3) := by decide +kernel
theorem dC_level_19 : decode prog_1_method_19_code 19 = .ok (.bipush (-102), 2) := by decide +kernel
theorem dC_level_21 : decode prog_1_method_19_code 21 = .ok (.ireturn, 1) := by decide +kernel
theorem dC_level_22 : decode prog_1_method_19_code 22 = .ok (.aload_n 0, 1) := by decide +kernel
theorem dC_level_23 : decode prog_1_method_19_code 23 = .ok (.getfield 46, 3) := by decide +kernel
theorem dC_level_26 : decode prog_1_method_19_code 26 = .ok (.getfield 184, 3) := by decide +kernel
theorem dC_level_29 : decode prog_1_method_19_code 29 = .ok (.iload_n 1, 1) := by decide +kernel
theorem dC_level_30 : decode prog_1_method_19_code 30 = .ok (.iaload, 1) := by decide +kernel
theorem dC_level_31 : decode prog_1_method_19_code 31 = .ok (.istore_n 3, 1) := by decide +kernel
theorem dC_level_32 : decode prog_1_method_19_code 32 = .ok (.aload_n 0, 1) := by decide +kernel
theorem dC_level_33 : decode prog_1_method_19_code 33 = .ok (.getfield 46, 3) := by decide +kernel
theorem dC_level_36 : decode prog_1_method_19_code 36 = .ok (.getfield 184, 3) := by decide +kernel
theorem dC_level_39 : decode prog_1_method_19_code 39 = .ok (.iload_n 1, 1) := by decide +kernel
theorem dC_level_40 : decode prog_1_method_19_code 40 = .ok (.iload_n 2, 1) := by decide +kernel
theorem dC_level_41 : decode prog_1_method_19_code 41 = .ok (.iastore, 1) := by decide +kernel
theorem dC_level_42 : decode prog_1_method_19_code 42 = .ok (.iload_n 3, 1) := by decide +kernel
theorem dC_level_43 : decode prog_1_method_19_code 43 = .ok (.ireturn, 1) := by decide +kernel
theorem dM_level_0 : decode prog_14_method_60_code 0 = .ok (.iload_n 1, 1) := by decide +kernel
theorem dM_level_1 : decode prog_14_method_60_code 1 = .ok (.iconst (0), 1) := by decide +kernel
theorem dM_level_2 : decode prog_14_method_60_code 2 = .ok (.bipush (11), 2) := by decide +kernel
theorem dM_level_4 : decode prog_14_method_60_code 4 = .ok (.invokestatic 148, 3) := by decide +kernel
theorem dM_level_7 : decode prog_14_method_60_code 7 = .ok (.ifCond .ne (6), 3) := by decide +kernel
theorem dM_level_10 : decode prog_14_method_60_code 10 = .ok (.bipush (-101), 2) := by decide +kernel
theorem dM_level_12 : decode prog_14_method_60_code 12 = .ok (.ireturn, 1) := by decide +kernel
theorem dM_level_13 : decode prog_14_method_60_code 13 = .ok (.iload_n 2, 1) := by decide +kernel
theorem dM_level_14 : decode prog_14_method_60_code 14 = .ok (.iconst (0), 1) := by decide +kernel
theorem dM_level_15 : decode prog_14_method_60_code 15 = .ok (.iconst (3), 1) := by decide +kernel
theorem dM_level_16 : decode prog_14_method_60_code 16 = .ok (.invokestatic 148, 3) := by decide +kernel
theorem dM_level_19 : decode prog_14_method_60_code 19 = .ok (.ifCond .ne (6), 3) := by decide +kernel
theorem dM_level_22 : decode prog_14_method_60_code 22 = .ok (.bipush (-102), 2) := by decide +kernel
theorem dM_level_24 : decode prog_14_method_60_code 24 = .ok (.ireturn, 1) := by decide +kernel
theorem dM_level_25 : decode prog_14_method_60_code 25 = .ok (.aload_n 0, 1) := by decide +kernel
theorem dM_level_26 : decode prog_14_method_60_code 26 = .ok (.getfield 36, 3) := by decide +kernel
theorem dM_level_29 : decode prog_14_method_60_code 29 = .ok (.iload_n 1, 1) := by decide +kernel
theorem dM_level_30 : decode prog_14_method_60_code 30 = .ok (.iaload, 1) := by decide +kernel
theorem dM_level_31 : decode prog_14_method_60_code 31 = .ok (.istore_n 3, 1) := by decide +kernel
theorem dM_level_32 : decode prog_14_method_60_code 32 = .ok (.aload_n 0, 1) := by decide +kernel
theorem dM_level_33 : decode prog_14_method_60_code 33 = .ok (.getfield 36, 3) := by decide +kernel
theorem dM_level_36 : decode prog_14_method_60_code 36 = .ok (.iload_n 1, 1) := by decide +kernel
theorem dM_level_37 : decode prog_14_method_60_code 37 = .ok (.iload_n 2, 1) := by decide +kernel
theorem dM_level_38 : decode prog_14_method_60_code 38 = .ok (.iastore, 1) := by decide +kernel
theorem dM_level_39 : decode prog_14_method_60_code 39 = .ok (.iload_n 3, 1) := by decide +kernel
theorem dM_level_40 : decode prog_14_method_60_code 40 = .ok (.ireturn, 1) := by decide +kernel
theorem dC_about_0 : decode prog_1_method_20_code 0 = .ok (.aload_n 0, 1) := by decide +kernel
theorem dC_about_1 : decode prog_1_method_20_code 1 = .ok (.getfield 46, 3) := by decide +kernel
theorem dC_about_4 : decode prog_1_method_20_code 4 = .ok (.iload_n 1, 1) := by decide +kernel
theorem dC_about_5 : decode prog_1_method_20_code 5 = .ok (.invokevirtual 167, 3) := by decide +kernel
theorem dC_about_8 : decode prog_1_method_20_code 8 = .ok (.astore_n 3, 1) := by decide +kernel
theorem dC_about_9 : decode prog_1_method_20_code 9 = .ok (.aload_n 3, 1) := by decide +kernel
theorem dC_about_10 : decode prog_1_method_20_code 10 = .ok (.ifnonnull (6), 3) := by decide +kernel
theorem dC_about_13 : decode prog_1_method_20_code 13 = .ok (.bipush (-101), 2) := by decide +kernel
theorem dC_about_15 : decode prog_1_method_20_code 15 = .ok (.ireturn, 1) := by decide +kernel
theorem dC_about_16 : decode prog_1_method_20_code 16 = .ok (.iload_n 2, 1) := by decide +kernel
theorem dC_about_17 : decode prog_1_method_20_code 17 = .ok (.ifCond .lt (9), 3) := by decide +kernel
theorem dC_about_20 : decode prog_1_method_20_code 20 = .ok (.iload_n 2, 1) := by decide +kernel
theorem dC_about_21 : decode prog_1_method_20_code 21 = .ok (.bipush (8), 2) := by decide +kernel
theorem dC_about_23 : decode prog_1_method_20_code 23 = .ok (.if_icmp .lt (6), 3) := by decide +kernel
theorem dC_about_26 : decode prog_1_method_20_code 26 = .ok (.bipush (-102), 2) := by decide +kernel
theorem dC_about_28 : decode prog_1_method_20_code 28 = .ok (.ireturn, 1) := by decide +kernel
theorem dC_about_29 : decode prog_1_method_20_code 29 = .ok (.aload_n 3, 1) := by decide +kernel
theorem dC_about_30 : decode prog_1_method_20_code 30 = .ok (.getfield 178, 3) := by decide +kernel
theorem dC_about_33 : decode prog_1_method_20_code 33 = .ok (.iload_n 2, 1) := by decide +kernel
theorem dC_about_34 : decode prog_1_method_20_code 34 = .ok (.iaload, 1) := by decide +kernel
theorem dC_about_35 : decode prog_1_method_20_code 35 = .ok (.ireturn, 1) := by decide +kernel
theorem dM_aboutOf_0 : decode prog_14_method_61_code 0 = .ok (.iload_n 2, 1) := by decide +kernel
theorem dM_aboutOf_1 : decode prog_14_method_61_code 1 = .ok (.iconst (5), 1) := by decide +kernel
theorem dM_aboutOf_2 : decode prog_14_method_61_code 2 = .ok (.if_icmp .ge (16), 3) := by decide +kernel
theorem dM_aboutOf_5 : decode prog_14_method_61_code 5 = .ok (.aload_n 0, 1) := by decide +kernel
theorem dM_aboutOf_6 : decode prog_14_method_61_code 6 = .ok (.getfield 33, 3) := by decide +kernel
theorem dM_aboutOf_9 : decode prog_14_method_61_code 9 = .ok (.iconst (5), 1) := by decide +kernel
theorem dM_aboutOf_10 : decode prog_14_method_61_code 10 = .ok (.iload_n 1, 1) := by decide +kernel
theorem dM_aboutOf_11 : decode prog_14_method_61_code 11 = .ok (.imul, 1) := by decide +kernel
theorem dM_aboutOf_12 : decode prog_14_method_61_code 12 = .ok (.iload_n 2, 1) := by decide +kernel
theorem dM_aboutOf_13 : decode prog_14_method_61_code 13 = .ok (.iadd, 1) := by decide +kernel
theorem dM_aboutOf_14 : decode prog_14_method_61_code 14 = .ok (.iaload, 1) := by decide +kernel
theorem dM_aboutOf_15 : decode prog_14_method_61_code 15 = .ok (.goto (38), 3) := by decide +kernel
theorem dM_aboutOf_18 : decode prog_14_method_61_code 18 = .ok (.iload_n 2, 1) := by decide +kernel
theorem dM_aboutOf_19 : decode prog_14_method_61_code 19 = .ok (.iconst (5), 1) := by decide +kernel
theorem dM_aboutOf_20 : decode prog_14_method_61_code 20 = .ok (.if_icmp .ne (12), 3) := by decide +kernel
theorem dM_aboutOf_23 : decode prog_14_method_61_code 23 = .ok (.aload_n 0, 1) := by decide +kernel
theorem dM_aboutOf_24 : decode prog_14_method_61_code 24 = .ok (.getfield 24, 3) := by decide +kernel
theorem dM_aboutOf_27 : decode prog_14_method_61_code 27 = .ok (.iload_n 1, 1) := by decide +kernel
theorem dM_aboutOf_28 : decode prog_14_method_61_code 28 = .ok (.iaload, 1) := by decide +kernel
theorem dM_aboutOf_29 : decode prog_14_method_61_code 29 = .ok (.goto (24), 3) := by decide +kernel
theorem dM_aboutOf_32 : decode prog_14_method_61_code 32 = .ok (.iload_n 2, 1) := by decide +kernel
theorem dM_aboutOf_33 : decode prog_14_method_61_code 33 = .ok (.bipush (6), 2) := by decide +kernel
theorem dM_aboutOf_35 : decode prog_14_method_61_code 35 = .ok (.if_icmp .ne (12), 3) := by decide +kernel
theorem dM_aboutOf_38 : decode prog_14_method_61_code 38 = .ok (.aload_n 0, 1) := by decide +kernel
theorem dM_aboutOf_39 : decode prog_14_method_61_code 39 = .ok (.getfield 27, 3) := by decide +kernel
theorem dM_aboutOf_42 : decode prog_14_method_61_code 42 = .ok (.iload_n 1, 1) := by decide +kernel
theorem dM_aboutOf_43 : decode prog_14_method_61_code 43 = .ok (.iaload, 1) := by decide +kernel
theorem dM_aboutOf_44 : decode prog_14_method_61_code 44 = .ok (.goto (9), 3) := by decide +kernel
theorem dM_aboutOf_47 : decode prog_14_method_61_code 47 = .ok (.aload_n 0, 1) := by decide +kernel
theorem dM_aboutOf_48 : decode prog_14_method_61_code 48 = .ok (.getfield 30, 3) := by decide +kernel
theorem dM_aboutOf_51 : decode prog_14_method_61_code 51 = .ok (.iload_n 1, 1) := by decide +kernel
theorem dM_aboutOf_52 : decode prog_14_method_61_code 52 = .ok (.iaload, 1) := by decide +kernel
theorem dM_aboutOf_53 : decode prog_14_method_61_code 53 = .ok (.ireturn, 1) := by decide +kernel
theorem dM_about_0 : decode prog_14_method_62_code 0 = .ok (.aload_n 0, 1) := by decide +kernel
theorem dM_about_1 : decode prog_14_method_62_code 1 = .ok (.iload_n 1, 1) := by decide +kernel
theorem dM_about_2 : decode prog_14_method_62_code 2 = .ok (.invokevirtual 309, 3) := by decide +kernel
theorem dM_about_5 : decode prog_14_method_62_code 5 = .ok (.ifCond .ne (8), 3) := by decide +kernel
theorem dM_about_8 : decode prog_14_method_62_code 8 = .ok (.bipush (-101), 2) := by decide +kernel
theorem dM_about_10 : decode prog_14_method_62_code 10 = .ok (.goto (24), 3) := by decide +kernel
theorem dM_about_13 : decode prog_14_method_62_code 13 = .ok (.iload_n 2, 1) := by decide +kernel
theorem dM_about_14 : decode prog_14_method_62_code 14 = .ok (.iconst (0), 1) := by decide +kernel
theorem dM_about_15 : decode prog_14_method_62_code 15 = .ok (.bipush (7), 2) := by decide +kernel
theorem dM_about_17 : decode prog_14_method_62_code 17 = .ok (.invokestatic 148, 3) := by decide +kernel
theorem dM_about_20 : decode prog_14_method_62_code 20 = .ok (.ifCond .eq (12), 3) := by decide +kernel
theorem dM_about_23 : decode prog_14_method_62_code 23 = .ok (.aload_n 0, 1) := by decide +kernel
theorem dM_about_24 : decode prog_14_method_62_code 24 = .ok (.iload_n 1, 1) := by decide +kernel
theorem dM_about_25 : decode prog_14_method_62_code 25 = .ok (.iload_n 2, 1) := by decide +kernel
theorem dM_about_26 : decode prog_14_method_62_code 26 = .ok (.invokevirtual 312, 3) := by decide +kernel
theorem dM_about_29 : decode prog_14_method_62_code 29 = .ok (.goto (5), 3) := by decide +kernel
theorem dM_about_32 : decode prog_14_method_62_code 32 = .ok (.bipush (-102), 2) := by decide +kernel
theorem dM_about_34 : decode prog_14_method_62_code 34 = .ok (.ireturn, 1) := by decide +kernel
theorem dC_put_0 : decode prog_1_method_21_code 0 = .ok (.aload_n 0, 1) := by decide +kernel
theorem dC_put_1 : decode prog_1_method_21_code 1 = .ok (.getfield 46, 3) := by decide +kernel
theorem dC_put_4 : decode prog_1_method_21_code 4 = .ok (.iload_n 1, 1) := by decide +kernel
theorem dC_put_5 : decode prog_1_method_21_code 5 = .ok (.invokevirtual 167, 3) := by decide +kernel
theorem dC_put_8 : decode prog_1_method_21_code 8 = .ok (.ifnonnull (6), 3) := by decide +kernel
theorem dC_put_11 : decode prog_1_method_21_code 11 = .ok (.bipush (-101), 2) := by decide +kernel
theorem dC_put_13 : decode prog_1_method_21_code 13 = .ok (.ireturn, 1) := by decide +kernel
theorem dC_put_14 : decode prog_1_method_21_code 14 = .ok (.aload_n 0, 1) := by decide +kernel
theorem dC_put_15 : decode prog_1_method_21_code 15 = .ok (.getfield 46, 3) := by decide +kernel
theorem dC_put_18 : decode prog_1_method_21_code 18 = .ok (.getfield 187, 3) := by decide +kernel
theorem dC_put_21 : decode prog_1_method_21_code 21 = .ok (.iconst (5), 1) := by decide +kernel
theorem dC_put_22 : decode prog_1_method_21_code 22 = .ok (.if_icmp .lt (6), 3) := by decide +kernel
theorem dC_put_25 : decode prog_1_method_21_code 25 = .ok (.bipush (-104), 2) := by decide +kernel
theorem dC_put_27 : decode prog_1_method_21_code 27 = .ok (.ireturn, 1) := by decide +kernel
theorem dC_put_28 : decode prog_1_method_21_code 28 = .ok (.aload_n 0, 1) := by decide +kernel
theorem dC_put_29 : decode prog_1_method_21_code 29 = .ok (.getfield 46, 3) := by decide +kernel
theorem dC_put_32 : decode prog_1_method_21_code 32 = .ok (.getfield 188, 3) := by decide +kernel
theorem dC_put_35 : decode prog_1_method_21_code 35 = .ok (.aload_n 0, 1) := by decide +kernel
theorem dC_put_36 : decode prog_1_method_21_code 36 = .ok (.getfield 46, 3) := by decide +kernel
theorem dC_put_39 : decode prog_1_method_21_code 39 = .ok (.getfield 187, 3) := by decide +kernel
theorem dC_put_42 : decode prog_1_method_21_code 42 = .ok (.iload_n 1, 1) := by decide +kernel
theorem dC_put_43 : decode prog_1_method_21_code 43 = .ok (.iastore, 1) := by decide +kernel
theorem dC_put_44 : decode prog_1_method_21_code 44 = .ok (.aload_n 0, 1) := by decide +kernel
theorem dC_put_45 : decode prog_1_method_21_code 45 = .ok (.getfield 46, 3) := by decide +kernel
theorem dC_put_48 : decode prog_1_method_21_code 48 = .ok (.dup, 1) := by decide +kernel
theorem dC_put_49 : decode prog_1_method_21_code 49 = .ok (.getfield 187, 3) := by decide +kernel
theorem dC_put_52 : decode prog_1_method_21_code 52 = .ok (.iconst (1), 1) := by decide +kernel
theorem dC_put_53 : decode prog_1_method_21_code 53 = .ok (.iadd, 1) := by decide +kernel
theorem dC_put_54 : decode prog_1_method_21_code 54 = .ok (.putfield 187, 3) := by decide +kernel
theorem dC_put_57 : decode prog_1_method_21_code 57 = .ok (.aload_n 0, 1) := by decide +kernel
theorem dC_put_58 : decode prog_1_method_21_code 58 = .ok (.getfield 46, 3) := by decide +kernel
theorem dC_put_61 : decode prog_1_method_21_code 61 = .ok (.getfield 187, 3) := by decide +kernel
theorem dC_put_64 : decode prog_1_method_21_code 64 = .ok (.ireturn, 1) := by decide +kernel
theorem dM_put_0 : decode prog_14_method_63_code 0 = .ok (.aload_n 0, 1) := by decide +kernel
theorem dM_put_1 : decode prog_14_method_63_code 1 = .ok (.iload_n 1, 1) := by decide +kernel
theorem dM_put_2 : decode prog_14_method_63_code 2 = .ok (.invokevirtual 309, 3) := by decide +kernel
theorem dM_put_5 : decode prog_14_method_63_code 5 = .ok (.ifCond .ne (6), 3) := by decide +kernel
theorem dM_put_8 : decode prog_14_method_63_code 8 = .ok (.bipush (-101), 2) := by decide +kernel
theorem dM_put_10 : decode prog_14_method_63_code 10 = .ok (.ireturn, 1) := by decide +kernel
theorem dM_put_11 : decode prog_14_method_63_code 11 = .ok (.aload_n 0, 1) := by decide +kernel
theorem dM_put_12 : decode prog_14_method_63_code 12 = .ok (.getfield 315, 3) := by decide +kernel
theorem dM_put_15 : decode prog_14_method_63_code 15 = .ok (.iconst (5), 1) := by decide +kernel
theorem dM_put_16 : decode prog_14_method_63_code 16 = .ok (.if_icmp .ne (6), 3) := by decide +kernel
theorem dM_put_19 : decode prog_14_method_63_code 19 = .ok (.bipush (-104), 2) := by decide +kernel
theorem dM_put_21 : decode prog_14_method_63_code 21 = .ok (.ireturn, 1) := by decide +kernel
theorem dM_put_22 : decode prog_14_method_63_code 22 = .ok (.aload_n 0, 1) := by decide +kernel
theorem dM_put_23 : decode prog_14_method_63_code 23 = .ok (.getfield 39, 3) := by decide +kernel
theorem dM_put_26 : decode prog_14_method_63_code 26 = .ok (.aload_n 0, 1) := by decide +kernel
theorem dM_put_27 : decode prog_14_method_63_code 27 = .ok (.getfield 315, 3) := by decide +kernel
theorem dM_put_30 : decode prog_14_method_63_code 30 = .ok (.iload_n 1, 1) := by decide +kernel
theorem dM_put_31 : decode prog_14_method_63_code 31 = .ok (.iastore, 1) := by decide +kernel
theorem dM_put_32 : decode prog_14_method_63_code 32 = .ok (.aload_n 0, 1) := by decide +kernel
theorem dM_put_33 : decode prog_14_method_63_code 33 = .ok (.dup, 1) := by decide +kernel
theorem dM_put_34 : decode prog_14_method_63_code 34 = .ok (.getfield 315, 3) := by decide +kernel
theorem dM_put_37 : decode prog_14_method_63_code 37 = .ok (.iconst (1), 1) := by decide +kernel
theorem dM_put_38 : decode prog_14_method_63_code 38 = .ok (.iadd, 1) := by decide +kernel
theorem dM_put_39 : decode prog_14_method_63_code 39 = .ok (.putfield 315, 3) := by decide +kernel
theorem dM_put_42 : decode prog_14_method_63_code 42 = .ok (.aload_n 0, 1) := by decide +kernel
theorem dM_put_43 : decode prog_14_method_63_code 43 = .ok (.getfield 315, 3) := by decide +kernel
theorem dM_put_46 : decode prog_14_method_63_code 46 = .ok (.ireturn, 1) := by decide +kernel
theorem dC_empty_0 : decode prog_1_method_22_code 0 = .ok (.aload_n 0, 1) := by decide +kernel
theorem dC_empty_1 : decode prog_1_method_22_code 1 = .ok (.getfield 46, 3) := by decide +kernel
theorem dC_empty_4 : decode prog_1_method_22_code 4 = .ok (.getfield 187, 3) := by decide +kernel
theorem dC_empty_7 : decode prog_1_method_22_code 7 = .ok (.istore_n 1, 1) := by decide +kernel
theorem dC_empty_8 : decode prog_1_method_22_code 8 = .ok (.aload_n 0, 1) := by decide +kernel
theorem dC_empty_9 : decode prog_1_method_22_code 9 = .ok (.getfield 46, 3) := by decide +kernel
theorem dC_empty_12 : decode prog_1_method_22_code 12 = .ok (.iconst (0), 1) := by decide +kernel
theorem dC_empty_13 : decode prog_1_method_22_code 13 = .ok (.putfield 187, 3) := by decide +kernel
theorem dC_empty_16 : decode prog_1_method_22_code 16 = .ok (.iload_n 1, 1) := by decide +kernel
theorem dC_empty_17 : decode prog_1_method_22_code 17 = .ok (.ireturn, 1) := by decide +kernel
theorem dM_empty_0 : decode prog_14_method_64_code 0 = .ok (.aload_n 0, 1) := by decide +kernel
theorem dM_empty_1 : decode prog_14_method_64_code 1 = .ok (.getfield 315, 3) := by decide +kernel
theorem dM_empty_4 : decode prog_14_method_64_code 4 = .ok (.istore_n 1, 1) := by decide +kernel
theorem dM_empty_5 : decode prog_14_method_64_code 5 = .ok (.aload_n 0, 1) := by decide +kernel
theorem dM_empty_6 : decode prog_14_method_64_code 6 = .ok (.iconst (0), 1) := by decide +kernel
theorem dM_empty_7 : decode prog_14_method_64_code 7 = .ok (.putfield 315, 3) := by decide +kernel
theorem dM_empty_10 : decode prog_14_method_64_code 10 = .ok (.iload_n 1, 1) := by decide +kernel
theorem dM_empty_11 : decode prog_14_method_64_code 11 = .ok (.ireturn, 1) := by decide +kernel
theorem dC_at_0 : decode prog_1_method_23_code 0 = .ok (.iload_n 1, 1) := by decide +kernel
theorem dC_at_1 : decode prog_1_method_23_code 1 = .ok (.ifCond .lt (14), 3) := by decide +kernel
theorem dC_at_4 : decode prog_1_method_23_code 4 = .ok (.iload_n 1, 1) := by decide +kernel
theorem dC_at_5 : decode prog_1_method_23_code 5 = .ok (.aload_n 0, 1) := by decide +kernel
theorem dC_at_6 : decode prog_1_method_23_code 6 = .ok (.getfield 46, 3) := by decide +kernel
theorem dC_at_9 : decode prog_1_method_23_code 9 = .ok (.getfield 187, 3) := by decide +kernel
theorem dC_at_12 : decode prog_1_method_23_code 12 = .ok (.if_icmp .lt (7), 3) := by decide +kernel
theorem dC_at_15 : decode prog_1_method_23_code 15 = .ok (.iconst (-1), 1) := by decide +kernel
theorem dC_at_16 : decode prog_1_method_23_code 16 = .ok (.goto (12), 3) := by decide +kernel
theorem dC_at_19 : decode prog_1_method_23_code 19 = .ok (.aload_n 0, 1) := by decide +kernel
theorem dC_at_20 : decode prog_1_method_23_code 20 = .ok (.getfield 46, 3) := by decide +kernel
theorem dC_at_23 : decode prog_1_method_23_code 23 = .ok (.getfield 188, 3) := by decide +kernel
theorem dC_at_26 : decode prog_1_method_23_code 26 = .ok (.iload_n 1, 1) := by decide +kernel
theorem dC_at_27 : decode prog_1_method_23_code 27 = .ok (.iaload, 1) := by decide +kernel
theorem dC_at_28 : decode prog_1_method_23_code 28 = .ok (.ireturn, 1) := by decide +kernel
theorem dM_at_0 : decode prog_14_method_65_code 0 = .ok (.iload_n 1, 1) := by decide +kernel
theorem dM_at_1 : decode prog_14_method_65_code 1 = .ok (.iconst (0), 1) := by decide +kernel
theorem dM_at_2 : decode prog_14_method_65_code 2 = .ok (.aload_n 0, 1) := by decide +kernel
theorem dM_at_3 : decode prog_14_method_65_code 3 = .ok (.getfield 315, 3) := by decide +kernel
theorem dM_at_6 : decode prog_14_method_65_code 6 = .ok (.iconst (1), 1) := by decide +kernel
theorem dM_at_7 : decode prog_14_method_65_code 7 = .ok (.isub, 1) := by decide +kernel
theorem dM_at_8 : decode prog_14_method_65_code 8 = .ok (.invokestatic 148, 3) := by decide +kernel
theorem dM_at_11 : decode prog_14_method_65_code 11 = .ok (.ifCond .eq (12), 3) := by decide +kernel
theorem dM_at_14 : decode prog_14_method_65_code 14 = .ok (.aload_n 0, 1) := by decide +kernel
theorem dM_at_15 : decode prog_14_method_65_code 15 = .ok (.getfield 39, 3) := by decide +kernel
theorem dM_at_18 : decode prog_14_method_65_code 18 = .ok (.iload_n 1, 1) := by decide +kernel
theorem dM_at_19 : decode prog_14_method_65_code 19 = .ok (.iaload, 1) := by decide +kernel
theorem dM_at_20 : decode prog_14_method_65_code 20 = .ok (.goto (4), 3) := by decide +kernel
theorem dM_at_23 : decode prog_14_method_65_code 23 = .ok (.iconst (-1), 1) := by decide +kernel
theorem dM_at_24 : decode prog_14_method_65_code 24 = .ok (.ireturn, 1) := by decide +kernel
theorem dGo_startWith_0 : decode prog_4_method_2_code 0 = .ok (.aload_n 0, 1) := by decide +kernel
theorem dGo_startWith_1 : decode prog_4_method_2_code 1 = .ok (.iload_n 1, 1) := by decide +kernel
theorem dGo_startWith_2 : decode prog_4_method_2_code 2 = .ok (.putfield 18, 3) := by decide +kernel
theorem dGo_startWith_5 : decode prog_4_method_2_code 5 = .ok (.aload_n 2, 1) := by decide +kernel
theorem dGo_startWith_6 : decode prog_4_method_2_code 6 = .ok (.iconst (0), 1) := by decide +kernel
theorem dGo_startWith_7 : decode prog_4_method_2_code 7 = .ok (.aload_n 0, 1) := by decide +kernel
theorem dGo_startWith_8 : decode prog_4_method_2_code 8 = .ok (.getfield 9, 3) := by decide +kernel
theorem dGo_startWith_11 : decode prog_4_method_2_code 11 = .ok (.iconst (0), 1) := by decide +kernel
theorem dGo_startWith_12 : decode prog_4_method_2_code 12 = .ok (.bipush (12), 2) := by decide +kernel
theorem dGo_startWith_14 : decode prog_4_method_2_code 14 = .ok (.invokestatic 22, 3) := by decide +kernel
theorem dGo_startWith_17 : decode prog_4_method_2_code 17 = .ok (.aload_n 0, 1) := by decide +kernel
theorem dGo_startWith_18 : decode prog_4_method_2_code 18 = .ok (.getfield 15, 3) := by decide +kernel
theorem dGo_startWith_21 : decode prog_4_method_2_code 21 = .ok (.iconst (0), 1) := by decide +kernel
theorem dGo_startWith_22 : decode prog_4_method_2_code 22 = .ok (.invokestatic 28, 3) := by decide +kernel
theorem dGo_startWith_25 : decode prog_4_method_2_code 25 = .ok (.return_, 1) := by decide +kernel
theorem dRo_helperAt_0 : decode prog_9_method_4_code 0 = .ok (.aload_n 0, 1) := by decide +kernel
theorem dRo_helperAt_1 : decode prog_9_method_4_code 1 = .ok (.getfield 11, 3) := by decide +kernel
theorem dRo_helperAt_4 : decode prog_9_method_4_code 4 = .ok (.aload_n 0, 1) := by decide +kernel
theorem dRo_helperAt_5 : decode prog_9_method_4_code 5 = .ok (.getfield 21, 3) := by decide +kernel
theorem dRo_helperAt_8 : decode prog_9_method_4_code 8 = .ok (.iload_n 1, 1) := by decide +kernel
theorem dRo_helperAt_9 : decode prog_9_method_4_code 9 = .ok (.iaload, 1) := by decide +kernel
theorem dRo_helperAt_10 : decode prog_9_method_4_code 10 = .ok (.aaload, 1) := by decide +kernel
theorem dRo_helperAt_11 : decode prog_9_method_4_code 11 = .ok (.areturn, 1) := by decide +kernel
theorem dGo_greatestTaint_0 : decode prog_4_method_7_code 0 = .ok (.iconst (0), 1) := by decide +kernel
theorem dGo_greatestTaint_1 : decode prog_4_method_7_code 1 = .ok (.istore_n 2, 1) := by decide +kernel
theorem dGo_greatestTaint_2 : decode prog_4_method_7_code 2 = .ok (.iconst (0), 1) := by decide +kernel
theorem dGo_greatestTaint_3 : decode prog_4_method_7_code 3 = .ok (.istore_n 3, 1) := by decide +kernel
theorem dGo_greatestTaint_4 : decode prog_4_method_7_code 4 = .ok (.iload_n 3, 1) := by decide +kernel
theorem dGo_greatestTaint_5 : decode prog_4_method_7_code 5 = .ok (.bipush (12), 2) := by decide +kernel
theorem dGo_greatestTaint_7 : decode prog_4_method_7_code 7 = .ok (.if_icmp .ge (28), 3) := by decide +kernel
theorem dGo_greatestTaint_10 : decode prog_4_method_7_code 10 = .ok (.iload_n 1, 1) := by decide +kernel
theorem dGo_greatestTaint_11 : decode prog_4_method_7_code 11 = .ok (.iload_n 3, 1) := by decide +kernel
theorem dGo_greatestTaint_12 : decode prog_4_method_7_code 12 = .ok (.invokestatic 47, 3) := by decide +kernel
theorem dGo_greatestTaint_15 : decode prog_4_method_7_code 15 = .ok (.ifCond .eq (14), 3) := by decide +kernel
theorem dGo_greatestTaint_18 : decode prog_4_method_7_code 18 = .ok (.iload_n 2, 1) := by decide +kernel
theorem dGo_greatestTaint_19 : decode prog_4_method_7_code 19 = .ok (.aload_n 0, 1) := by decide +kernel
theorem dGo_greatestTaint_20 : decode prog_4_method_7_code 20 = .ok (.getfield 9, 3) := by decide +kernel
theorem dGo_greatestTaint_23 : decode prog_4_method_7_code 23 = .ok (.iload_n 3, 1) := by decide +kernel
theorem dGo_greatestTaint_24 : decode prog_4_method_7_code 24 = .ok (.iaload, 1) := by decide +kernel
theorem dGo_greatestTaint_25 : decode prog_4_method_7_code 25 = .ok (.invokestatic 51, 3) := by decide +kernel
theorem dGo_greatestTaint_28 : decode prog_4_method_7_code 28 = .ok (.istore_n 2, 1) := by decide +kernel
theorem dGo_greatestTaint_29 : decode prog_4_method_7_code 29 = .ok (.iinc 3 (1), 3) := by decide +kernel
theorem dGo_greatestTaint_32 : decode prog_4_method_7_code 32 = .ok (.goto (-28), 3) := by decide +kernel
theorem dGo_greatestTaint_35 : decode prog_4_method_7_code 35 = .ok (.iload_n 2, 1) := by decide +kernel
theorem dGo_greatestTaint_36 : decode prog_4_method_7_code 36 = .ok (.ireturn, 1) := by decide +kernel
theorem dGo_isTrusted_0 : decode prog_4_method_4_code 0 = .ok (.aload_n 1, 1) := by decide +kernel
theorem dGo_isTrusted_1 : decode prog_4_method_4_code 1 = .ok (.getfield 34, 3) := by decide +kernel
theorem dGo_isTrusted_4 : decode prog_4_method_4_code 4 = .ok (.iconst (5), 1) := by decide +kernel
theorem dGo_isTrusted_5 : decode prog_4_method_4_code 5 = .ok (.iaload, 1) := by decide +kernel
theorem dGo_isTrusted_6 : decode prog_4_method_4_code 6 = .ok (.istore_n 2, 1) := by decide +kernel
theorem dGo_isTrusted_7 : decode prog_4_method_4_code 7 = .ok (.iload_n 2, 1) := by decide +kernel
theorem dGo_isTrusted_8 : decode prog_4_method_4_code 8 = .ok (.aload_n 0, 1) := by decide +kernel
theorem dGo_isTrusted_9 : decode prog_4_method_4_code 9 = .ok (.getfield 18, 3) := by decide +kernel
theorem dGo_isTrusted_12 : decode prog_4_method_4_code 12 = .ok (.iconst (-1), 1) := by decide +kernel
theorem dGo_isTrusted_13 : decode prog_4_method_4_code 13 = .ok (.ixor, 1) := by decide +kernel
theorem dGo_isTrusted_14 : decode prog_4_method_4_code 14 = .ok (.iand, 1) := by decide +kernel
theorem dGo_isTrusted_15 : decode prog_4_method_4_code 15 = .ok (.ifCond .ne (21), 3) := by decide +kernel
theorem dGo_isTrusted_18 : decode prog_4_method_4_code 18 = .ok (.aload_n 0, 1) := by decide +kernel
theorem dGo_isTrusted_19 : decode prog_4_method_4_code 19 = .ok (.iload_n 2, 1) := by decide +kernel
theorem dGo_isTrusted_20 : decode prog_4_method_4_code 20 = .ok (.invokevirtual 39, 3) := by decide +kernel
theorem dGo_isTrusted_23 : decode prog_4_method_4_code 23 = .ok (.aload_n 1, 1) := by decide +kernel
theorem dGo_isTrusted_24 : decode prog_4_method_4_code 24 = .ok (.getfield 34, 3) := by decide +kernel
theorem dGo_isTrusted_27 : decode prog_4_method_4_code 27 = .ok (.iconst (3), 1) := by decide +kernel
theorem dGo_isTrusted_28 : decode prog_4_method_4_code 28 = .ok (.iaload, 1) := by decide +kernel
theorem dGo_isTrusted_29 : decode prog_4_method_4_code 29 = .ok (.if_icmp .gt (7), 3) := by decide +kernel
theorem dGo_isTrusted_32 : decode prog_4_method_4_code 32 = .ok (.iconst (1), 1) := by decide +kernel
theorem dGo_isTrusted_33 : decode prog_4_method_4_code 33 = .ok (.goto (4), 3) := by decide +kernel
theorem dGo_isTrusted_36 : decode prog_4_method_4_code 36 = .ok (.iconst (0), 1) := by decide +kernel
theorem dGo_isTrusted_37 : decode prog_4_method_4_code 37 = .ok (.ireturn, 1) := by decide +kernel
theorem dGo_may_0 : decode prog_4_method_5_code 0 = .ok (.aload_n 0, 1) := by decide +kernel
theorem dGo_may_1 : decode prog_4_method_5_code 1 = .ok (.getfield 15, 3) := by decide +kernel
theorem dGo_may_4 : decode prog_4_method_5_code 4 = .ok (.iload_n 2, 1) := by decide +kernel
theorem dGo_may_5 : decode prog_4_method_5_code 5 = .ok (.iaload, 1) := by decide +kernel
theorem dGo_may_6 : decode prog_4_method_5_code 6 = .ok (.aload_n 1, 1) := by decide +kernel
theorem dGo_may_7 : decode prog_4_method_5_code 7 = .ok (.getfield 34, 3) := by decide +kernel
theorem dGo_may_10 : decode prog_4_method_5_code 10 = .ok (.iconst (2), 1) := by decide +kernel
theorem dGo_may_11 : decode prog_4_method_5_code 11 = .ok (.iaload, 1) := by decide +kernel
theorem dGo_may_12 : decode prog_4_method_5_code 12 = .ok (.if_icmp .ge (15), 3) := by decide +kernel
theorem dGo_may_15 : decode prog_4_method_5_code 15 = .ok (.aload_n 0, 1) := by decide +kernel
theorem dGo_may_16 : decode prog_4_method_5_code 16 = .ok (.aload_n 1, 1) := by decide +kernel
theorem dGo_may_17 : decode prog_4_method_5_code 17 = .ok (.invokevirtual 43, 3) := by decide +kernel
theorem dGo_may_20 : decode prog_4_method_5_code 20 = .ok (.ifCond .eq (7), 3) := by decide +kernel
theorem dGo_may_23 : decode prog_4_method_5_code 23 = .ok (.iconst (1), 1) := by decide +kernel
theorem dGo_may_24 : decode prog_4_method_5_code 24 = .ok (.goto (4), 3) := by decide +kernel
theorem dGo_may_27 : decode prog_4_method_5_code 27 = .ok (.iconst (0), 1) := by decide +kernel
theorem dGo_may_28 : decode prog_4_method_5_code 28 = .ok (.ireturn, 1) := by decide +kernel
theorem dGo_become_0 : decode prog_4_method_3_code 0 = .ok (.aload_n 0, 1) := by decide +kernel
