theorem dM_world_12 : decode prog_14_method_94_code 12 = .ok (.istore_n 3, 1) := by decide +kernel
theorem dM_world_13 : decode prog_14_method_94_code 13 = .ok (.iload_n 3, 1) := by decide +kernel
theorem dM_world_14 : decode prog_14_method_94_code 14 = .ok (.sipush (4096), 3) := by decide +kernel
theorem dM_world_17 : decode prog_14_method_94_code 17 = .ok (.if_icmp .ge (31), 3) := by decide +kernel
theorem dM_world_20 : decode prog_14_method_94_code 20 = .ok (.iload_n 1, 1) := by decide +kernel
theorem dM_world_21 : decode prog_14_method_94_code 21 = .ok (.ifCond .lt (27), 3) := by decide +kernel
theorem dM_world_24 : decode prog_14_method_94_code 24 = .ok (.aload_n 0, 1) := by decide +kernel
theorem dM_world_25 : decode prog_14_method_94_code 25 = .ok (.getfield 112, 3) := by decide +kernel
theorem dM_world_28 : decode prog_14_method_94_code 28 = .ok (.iload_n 3, 1) := by decide +kernel
theorem dM_world_29 : decode prog_14_method_94_code 29 = .ok (.baload, 1) := by decide +kernel
theorem dM_world_30 : decode prog_14_method_94_code 30 = .ok (.ifCond .eq (12), 3) := by decide +kernel
theorem dM_world_33 : decode prog_14_method_94_code 33 = .ok (.iload_n 2, 1) := by decide +kernel
theorem dM_world_34 : decode prog_14_method_94_code 34 = .ok (.ifCond .ne (5), 3) := by decide +kernel
theorem dM_world_37 : decode prog_14_method_94_code 37 = .ok (.iload_n 3, 1) := by decide +kernel
theorem dM_world_38 : decode prog_14_method_94_code 38 = .ok (.ireturn, 1) := by decide +kernel
theorem dM_world_39 : decode prog_14_method_94_code 39 = .ok (.iinc 2 (-1), 3) := by decide +kernel
theorem dM_world_42 : decode prog_14_method_94_code 42 = .ok (.iinc 3 (1), 3) := by decide +kernel
theorem dM_world_45 : decode prog_14_method_94_code 45 = .ok (.goto (-32), 3) := by decide +kernel
theorem dM_world_48 : decode prog_14_method_94_code 48 = .ok (.iconst (-1), 1) := by decide +kernel
theorem dM_world_49 : decode prog_14_method_94_code 49 = .ok (.ireturn, 1) := by decide +kernel
theorem dC_broken_0 : decode prog_1_method_39_code 0 = .ok (.iconst (1), 1) := by decide +kernel
theorem dC_broken_1 : decode prog_1_method_39_code 1 = .ok (.istore_n 1, 1) := by decide +kernel
theorem dC_broken_2 : decode prog_1_method_39_code 2 = .ok (.iload_n 1, 1) := by decide +kernel
theorem dC_broken_3 : decode prog_1_method_39_code 3 = .ok (.aload_n 0, 1) := by decide +kernel
theorem dC_broken_4 : decode prog_1_method_39_code 4 = .ok (.getfield 53, 3) := by decide +kernel
theorem dC_broken_7 : decode prog_1_method_39_code 7 = .ok (.getfield 252, 3) := by decide +kernel
theorem dC_broken_10 : decode prog_1_method_39_code 10 = .ok (.if_icmp .gt (26), 3) := by decide +kernel
theorem dC_broken_13 : decode prog_1_method_39_code 13 = .ok (.aload_n 0, 1) := by decide +kernel
theorem dC_broken_14 : decode prog_1_method_39_code 14 = .ok (.getfield 53, 3) := by decide +kernel
theorem dC_broken_17 : decode prog_1_method_39_code 17 = .ok (.getfield 263, 3) := by decide +kernel
theorem dC_broken_20 : decode prog_1_method_39_code 20 = .ok (.iload_n 1, 1) := by decide +kernel
theorem dC_broken_21 : decode prog_1_method_39_code 21 = .ok (.aaload, 1) := by decide +kernel
theorem dC_broken_22 : decode prog_1_method_39_code 22 = .ok (.invokevirtual 266, 3) := by decide +kernel
theorem dC_broken_25 : decode prog_1_method_39_code 25 = .ok (.ifCond .ne (5), 3) := by decide +kernel
theorem dC_broken_28 : decode prog_1_method_39_code 28 = .ok (.iload_n 1, 1) := by decide +kernel
theorem dC_broken_29 : decode prog_1_method_39_code 29 = .ok (.ireturn, 1) := by decide +kernel
theorem dC_broken_30 : decode prog_1_method_39_code 30 = .ok (.iinc 1 (1), 3) := by decide +kernel
theorem dC_broken_33 : decode prog_1_method_39_code 33 = .ok (.goto (-31), 3) := by decide +kernel
theorem dC_broken_36 : decode prog_1_method_39_code 36 = .ok (.iconst (0), 1) := by decide +kernel
theorem dC_broken_37 : decode prog_1_method_39_code 37 = .ok (.ireturn, 1) := by decide +kernel
theorem dM_brokenAt_0 : decode prog_14_method_95_code 0 = .ok (.iconst (1), 1) := by decide +kernel
theorem dM_brokenAt_1 : decode prog_14_method_95_code 1 = .ok (.istore_n 1, 1) := by decide +kernel
theorem dM_brokenAt_2 : decode prog_14_method_95_code 2 = .ok (.iload_n 1, 1) := by decide +kernel
theorem dM_brokenAt_3 : decode prog_14_method_95_code 3 = .ok (.aload_n 0, 1) := by decide +kernel
theorem dM_brokenAt_4 : decode prog_14_method_95_code 4 = .ok (.getfield 370, 3) := by decide +kernel
theorem dM_brokenAt_7 : decode prog_14_method_95_code 7 = .ok (.if_icmp .gt (19), 3) := by decide +kernel
theorem dM_brokenAt_10 : decode prog_14_method_95_code 10 = .ok (.aload_n 0, 1) := by decide +kernel
theorem dM_brokenAt_11 : decode prog_14_method_95_code 11 = .ok (.iload_n 1, 1) := by decide +kernel
theorem dM_brokenAt_12 : decode prog_14_method_95_code 12 = .ok (.invokevirtual 382, 3) := by decide +kernel
theorem dM_brokenAt_15 : decode prog_14_method_95_code 15 = .ok (.ifCond .ne (5), 3) := by decide +kernel
theorem dM_brokenAt_18 : decode prog_14_method_95_code 18 = .ok (.iload_n 1, 1) := by decide +kernel
theorem dM_brokenAt_19 : decode prog_14_method_95_code 19 = .ok (.ireturn, 1) := by decide +kernel
theorem dM_brokenAt_20 : decode prog_14_method_95_code 20 = .ok (.iinc 1 (1), 3) := by decide +kernel
theorem dM_brokenAt_23 : decode prog_14_method_95_code 23 = .ok (.goto (-21), 3) := by decide +kernel
theorem dM_brokenAt_26 : decode prog_14_method_95_code 26 = .ok (.iconst (0), 1) := by decide +kernel
theorem dM_brokenAt_27 : decode prog_14_method_95_code 27 = .ok (.ireturn, 1) := by decide +kernel
theorem dM_broken_0 : decode prog_14_method_96_code 0 = .ok (.aload_n 0, 1) := by decide +kernel
theorem dM_broken_1 : decode prog_14_method_96_code 1 = .ok (.invokevirtual 385, 3) := by decide +kernel
theorem dM_broken_4 : decode prog_14_method_96_code 4 = .ok (.ireturn, 1) := by decide +kernel
theorem dC_again_0 : decode prog_1_method_40_code 0 = .ok (.aload_n 0, 1) := by decide +kernel
theorem dC_again_1 : decode prog_1_method_40_code 1 = .ok (.getfield 46, 3) := by decide +kernel
theorem dC_again_4 : decode prog_1_method_40_code 4 = .ok (.iload_n 1, 1) := by decide +kernel
theorem dC_again_5 : decode prog_1_method_40_code 5 = .ok (.invokevirtual 167, 3) := by decide +kernel
theorem dC_again_8 : decode prog_1_method_40_code 8 = .ok (.astore_n 2, 1) := by decide +kernel
theorem dC_again_9 : decode prog_1_method_40_code 9 = .ok (.aload_n 2, 1) := by decide +kernel
theorem dC_again_10 : decode prog_1_method_40_code 10 = .ok (.ifnonnull (6), 3) := by decide +kernel
theorem dC_again_13 : decode prog_1_method_40_code 13 = .ok (.bipush (-101), 2) := by decide +kernel
theorem dC_again_15 : decode prog_1_method_40_code 15 = .ok (.ireturn, 1) := by decide +kernel
theorem dC_again_16 : decode prog_1_method_40_code 16 = .ok (.aload_n 0, 1) := by decide +kernel
theorem dC_again_17 : decode prog_1_method_40_code 17 = .ok (.getfield 53, 3) := by decide +kernel
theorem dC_again_20 : decode prog_1_method_40_code 20 = .ok (.invokevirtual 270, 3) := by decide +kernel
theorem dC_again_23 : decode prog_1_method_40_code 23 = .ok (.astore_n 3, 1) := by decide +kernel
theorem dC_again_24 : decode prog_1_method_40_code 24 = .ok (.aload_n 3, 1) := by decide +kernel
theorem dC_again_25 : decode prog_1_method_40_code 25 = .ok (.invokevirtual 266, 3) := by decide +kernel
theorem dC_again_28 : decode prog_1_method_40_code 28 = .ok (.ifCond .ne (6), 3) := by decide +kernel
theorem dC_again_31 : decode prog_1_method_40_code 31 = .ok (.bipush (-103), 2) := by decide +kernel
theorem dC_again_33 : decode prog_1_method_40_code 33 = .ok (.ireturn, 1) := by decide +kernel
theorem dC_again_34 : decode prog_1_method_40_code 34 = .ok (.aload_n 2, 1) := by decide +kernel
theorem dC_again_35 : decode prog_1_method_40_code 35 = .ok (.getfield 178, 3) := by decide +kernel
theorem dC_again_38 : decode prog_1_method_40_code 38 = .ok (.iconst (5), 1) := by decide +kernel
theorem dC_again_39 : decode prog_1_method_40_code 39 = .ok (.iaload, 1) := by decide +kernel
theorem dC_again_40 : decode prog_1_method_40_code 40 = .ok (.aload_n 2, 1) := by decide +kernel
theorem dC_again_41 : decode prog_1_method_40_code 41 = .ok (.getfield 178, 3) := by decide +kernel
theorem dC_again_44 : decode prog_1_method_40_code 44 = .ok (.bipush (6), 2) := by decide +kernel
theorem dC_again_46 : decode prog_1_method_40_code 46 = .ok (.iaload, 1) := by decide +kernel
theorem dC_again_47 : decode prog_1_method_40_code 47 = .ok (.ior, 1) := by decide +kernel
theorem dC_again_48 : decode prog_1_method_40_code 48 = .ok (.istore 4, 2) := by decide +kernel
theorem dC_again_50 : decode prog_1_method_40_code 50 = .ok (.aload_n 2, 1) := by decide +kernel
theorem dC_again_51 : decode prog_1_method_40_code 51 = .ok (.getfield 178, 3) := by decide +kernel
theorem dC_again_54 : decode prog_1_method_40_code 54 = .ok (.bipush (7), 2) := by decide +kernel
theorem dC_again_56 : decode prog_1_method_40_code 56 = .ok (.iaload, 1) := by decide +kernel
theorem dC_again_57 : decode prog_1_method_40_code 57 = .ok (.aload_n 2, 1) := by decide +kernel
theorem dC_again_58 : decode prog_1_method_40_code 58 = .ok (.getfield 178, 3) := by decide +kernel
theorem dC_again_61 : decode prog_1_method_40_code 61 = .ok (.bipush (6), 2) := by decide +kernel
theorem dC_again_63 : decode prog_1_method_40_code 63 = .ok (.iaload, 1) := by decide +kernel
theorem dC_again_64 : decode prog_1_method_40_code 64 = .ok (.iconst (-1), 1) := by decide +kernel
theorem dC_again_65 : decode prog_1_method_40_code 65 = .ok (.ixor, 1) := by decide +kernel
theorem dC_again_66 : decode prog_1_method_40_code 66 = .ok (.iand, 1) := by decide +kernel
theorem dC_again_67 : decode prog_1_method_40_code 67 = .ok (.istore 5, 2) := by decide +kernel
theorem dC_again_69 : decode prog_1_method_40_code 69 = .ok (.iload 4, 2) := by decide +kernel
theorem dC_again_71 : decode prog_1_method_40_code 71 = .ok (.aload_n 3, 1) := by decide +kernel
theorem dC_again_72 : decode prog_1_method_40_code 72 = .ok (.invokevirtual 274, 3) := by decide +kernel
theorem dC_again_75 : decode prog_1_method_40_code 75 = .ok (.iconst (-1), 1) := by decide +kernel
theorem dC_again_76 : decode prog_1_method_40_code 76 = .ok (.ixor, 1) := by decide +kernel
theorem dC_again_77 : decode prog_1_method_40_code 77 = .ok (.iand, 1) := by decide +kernel
theorem dC_again_78 : decode prog_1_method_40_code 78 = .ok (.ifCond .ne (17), 3) := by decide +kernel
theorem dC_again_81 : decode prog_1_method_40_code 81 = .ok (.iload 5, 2) := by decide +kernel
theorem dC_again_83 : decode prog_1_method_40_code 83 = .ok (.aload_n 3, 1) := by decide +kernel
theorem dC_again_84 : decode prog_1_method_40_code 84 = .ok (.invokevirtual 277, 3) := by decide +kernel
theorem dC_again_87 : decode prog_1_method_40_code 87 = .ok (.iand, 1) := by decide +kernel
theorem dC_again_88 : decode prog_1_method_40_code 88 = .ok (.ifCond .ne (7), 3) := by decide +kernel
theorem dC_again_91 : decode prog_1_method_40_code 91 = .ok (.iconst (1), 1) := by decide +kernel
theorem dC_again_92 : decode prog_1_method_40_code 92 = .ok (.goto (4), 3) := by decide +kernel
theorem dC_again_95 : decode prog_1_method_40_code 95 = .ok (.iconst (0), 1) := by decide +kernel
theorem dC_again_96 : decode prog_1_method_40_code 96 = .ok (.ireturn, 1) := by decide +kernel
theorem dM_again_0 : decode prog_14_method_97_code 0 = .ok (.aload_n 0, 1) := by decide +kernel
theorem dM_again_1 : decode prog_14_method_97_code 1 = .ok (.iload_n 1, 1) := by decide +kernel
theorem dM_again_2 : decode prog_14_method_97_code 2 = .ok (.invokevirtual 309, 3) := by decide +kernel
theorem dM_again_5 : decode prog_14_method_97_code 5 = .ok (.ifCond .ne (6), 3) := by decide +kernel
theorem dM_again_8 : decode prog_14_method_97_code 8 = .ok (.bipush (-101), 2) := by decide +kernel
theorem dM_again_10 : decode prog_14_method_97_code 10 = .ok (.ireturn, 1) := by decide +kernel
theorem dM_again_11 : decode prog_14_method_97_code 11 = .ok (.aload_n 0, 1) := by decide +kernel
theorem dM_again_12 : decode prog_14_method_97_code 12 = .ok (.aload_n 0, 1) := by decide +kernel
theorem dM_again_13 : decode prog_14_method_97_code 13 = .ok (.getfield 370, 3) := by decide +kernel
theorem dM_again_16 : decode prog_14_method_97_code 16 = .ok (.invokevirtual 382, 3) := by decide +kernel
theorem dM_again_19 : decode prog_14_method_97_code 19 = .ok (.ifCond .ne (6), 3) := by decide +kernel
theorem dM_again_22 : decode prog_14_method_97_code 22 = .ok (.bipush (-103), 2) := by decide +kernel
theorem dM_again_24 : decode prog_14_method_97_code 24 = .ok (.ireturn, 1) := by decide +kernel
theorem dM_again_25 : decode prog_14_method_97_code 25 = .ok (.iconst (1), 1) := by decide +kernel
theorem dM_again_26 : decode prog_14_method_97_code 26 = .ok (.istore_n 2, 1) := by decide +kernel
theorem dM_again_27 : decode prog_14_method_97_code 27 = .ok (.iconst (0), 1) := by decide +kernel
theorem dM_again_28 : decode prog_14_method_97_code 28 = .ok (.istore_n 3, 1) := by decide +kernel
theorem dM_again_29 : decode prog_14_method_97_code 29 = .ok (.iload_n 3, 1) := by decide +kernel
theorem dM_again_30 : decode prog_14_method_97_code 30 = .ok (.sipush (4096), 3) := by decide +kernel
theorem dM_again_33 : decode prog_14_method_97_code 33 = .ok (.if_icmp .ge (51), 3) := by decide +kernel
theorem dM_again_36 : decode prog_14_method_97_code 36 = .ok (.iload_n 2, 1) := by decide +kernel
theorem dM_again_37 : decode prog_14_method_97_code 37 = .ok (.ifCond .eq (39), 3) := by decide +kernel
theorem dM_again_40 : decode prog_14_method_97_code 40 = .ok (.aload_n 0, 1) := by decide +kernel
theorem dM_again_41 : decode prog_14_method_97_code 41 = .ok (.getfield 112, 3) := by decide +kernel
theorem dM_again_44 : decode prog_14_method_97_code 44 = .ok (.iload_n 3, 1) := by decide +kernel
theorem dM_again_45 : decode prog_14_method_97_code 45 = .ok (.baload, 1) := by decide +kernel
theorem dM_again_46 : decode prog_14_method_97_code 46 = .ok (.ifCond .eq (26), 3) := by decide +kernel
theorem dM_again_49 : decode prog_14_method_97_code 49 = .ok (.aload_n 0, 1) := by decide +kernel
theorem dM_again_50 : decode prog_14_method_97_code 50 = .ok (.getfield 24, 3) := by decide +kernel
theorem dM_again_53 : decode prog_14_method_97_code 53 = .ok (.iload_n 1, 1) := by decide +kernel
theorem dM_again_54 : decode prog_14_method_97_code 54 = .ok (.iaload, 1) := by decide +kernel
theorem dM_again_55 : decode prog_14_method_97_code 55 = .ok (.iload_n 3, 1) := by decide +kernel
theorem dM_again_56 : decode prog_14_method_97_code 56 = .ok (.iconst (-1), 1) := by decide +kernel
theorem dM_again_57 : decode prog_14_method_97_code 57 = .ok (.ixor, 1) := by decide +kernel
theorem dM_again_58 : decode prog_14_method_97_code 58 = .ok (.iand, 1) := by decide +kernel
theorem dM_again_59 : decode prog_14_method_97_code 59 = .ok (.ifCond .ne (17), 3) := by decide +kernel
theorem dM_again_62 : decode prog_14_method_97_code 62 = .ok (.aload_n 0, 1) := by decide +kernel
theorem dM_again_63 : decode prog_14_method_97_code 63 = .ok (.iload_n 3, 1) := by decide +kernel
theorem dM_again_64 : decode prog_14_method_97_code 64 = .ok (.iload_n 1, 1) := by decide +kernel
theorem dM_again_65 : decode prog_14_method_97_code 65 = .ok (.invokevirtual 376, 3) := by decide +kernel
theorem dM_again_68 : decode prog_14_method_97_code 68 = .ok (.iload_n 3, 1) := by decide +kernel
theorem dM_again_69 : decode prog_14_method_97_code 69 = .ok (.if_icmp .ne (7), 3) := by decide +kernel
theorem dM_again_72 : decode prog_14_method_97_code 72 = .ok (.iconst (1), 1) := by decide +kernel
theorem dM_again_73 : decode prog_14_method_97_code 73 = .ok (.goto (4), 3) := by decide +kernel
theorem dM_again_76 : decode prog_14_method_97_code 76 = .ok (.iconst (0), 1) := by decide +kernel
theorem dM_again_77 : decode prog_14_method_97_code 77 = .ok (.istore_n 2, 1) := by decide +kernel
theorem dM_again_78 : decode prog_14_method_97_code 78 = .ok (.iinc 3 (1), 3) := by decide +kernel
theorem dM_again_81 : decode prog_14_method_97_code 81 = .ok (.goto (-52), 3) := by decide +kernel
theorem dM_again_84 : decode prog_14_method_97_code 84 = .ok (.iload_n 2, 1) := by decide +kernel
theorem dM_again_85 : decode prog_14_method_97_code 85 = .ok (.ifCond .eq (7), 3) := by decide +kernel
theorem dM_again_88 : decode prog_14_method_97_code 88 = .ok (.iconst (1), 1) := by decide +kernel
theorem dM_again_89 : decode prog_14_method_97_code 89 = .ok (.goto (4), 3) := by decide +kernel
theorem dM_again_92 : decode prog_14_method_97_code 92 = .ok (.iconst (0), 1) := by decide +kernel
theorem dM_again_93 : decode prog_14_method_97_code 93 = .ok (.ireturn, 1) := by decide +kernel
theorem dC_count_0 : decode prog_1_method_41_code 0 = .ok (.iload_n 1, 1) := by decide +kernel
theorem dC_count_1 : decode prog_1_method_41_code 1 = .ok (.tableswitch (99) (0) (7) #[(47), (52), (60), (68), (76), (81), (86), (91)], 47) := by decide +kernel
theorem dC_count_48 : decode prog_1_method_41_code 48 = .ok (.aload_n 0, 1) := by decide +kernel
theorem dC_count_49 : decode prog_1_method_41_code 49 = .ok (.getfield 87, 3) := by decide +kernel
theorem dC_count_52 : decode prog_1_method_41_code 52 = .ok (.ireturn, 1) := by decide +kernel
theorem dC_count_53 : decode prog_1_method_41_code 53 = .ok (.aload_n 0, 1) := by decide +kernel
theorem dC_count_54 : decode prog_1_method_41_code 54 = .ok (.getfield 10, 3) := by decide +kernel
theorem dC_count_57 : decode prog_1_method_41_code 57 = .ok (.getfield 65, 3) := by decide +kernel
theorem dC_count_60 : decode prog_1_method_41_code 60 = .ok (.ireturn, 1) := by decide +kernel
theorem dC_count_61 : decode prog_1_method_41_code 61 = .ok (.aload_n 0, 1) := by decide +kernel
theorem dC_count_62 : decode prog_1_method_41_code 62 = .ok (.getfield 46, 3) := by decide +kernel
theorem dC_count_65 : decode prog_1_method_41_code 65 = .ok (.getfield 155, 3) := by decide +kernel
theorem dC_count_68 : decode prog_1_method_41_code 68 = .ok (.ireturn, 1) := by decide +kernel
theorem dC_count_69 : decode prog_1_method_41_code 69 = .ok (.aload_n 0, 1) := by decide +kernel
theorem dC_count_70 : decode prog_1_method_41_code 70 = .ok (.getfield 53, 3) := by decide +kernel
theorem dC_count_73 : decode prog_1_method_41_code 73 = .ok (.getfield 252, 3) := by decide +kernel
theorem dC_count_76 : decode prog_1_method_41_code 76 = .ok (.ireturn, 1) := by decide +kernel
theorem dC_count_77 : decode prog_1_method_41_code 77 = .ok (.aload_n 0, 1) := by decide +kernel
theorem dC_count_78 : decode prog_1_method_41_code 78 = .ok (.getfield 119, 3) := by decide +kernel
theorem dC_count_81 : decode prog_1_method_41_code 81 = .ok (.ireturn, 1) := by decide +kernel
theorem dC_count_82 : decode prog_1_method_41_code 82 = .ok (.aload_n 0, 1) := by decide +kernel
theorem dC_count_83 : decode prog_1_method_41_code 83 = .ok (.getfield 283, 3) := by decide +kernel
theorem dC_count_86 : decode prog_1_method_41_code 86 = .ok (.ireturn, 1) := by decide +kernel
theorem dC_count_87 : decode prog_1_method_41_code 87 = .ok (.aload_n 0, 1) := by decide +kernel
theorem dC_count_88 : decode prog_1_method_41_code 88 = .ok (.getfield 215, 3) := by decide +kernel
theorem dC_count_91 : decode prog_1_method_41_code 91 = .ok (.ireturn, 1) := by decide +kernel
theorem dC_count_92 : decode prog_1_method_41_code 92 = .ok (.aload_n 0, 1) := by decide +kernel
theorem dC_count_93 : decode prog_1_method_41_code 93 = .ok (.getfield 46, 3) := by decide +kernel
theorem dC_count_96 : decode prog_1_method_41_code 96 = .ok (.getfield 187, 3) := by decide +kernel
theorem dC_count_99 : decode prog_1_method_41_code 99 = .ok (.ireturn, 1) := by decide +kernel
theorem dC_count_100 : decode prog_1_method_41_code 100 = .ok (.bipush (-102), 2) := by decide +kernel
theorem dC_count_102 : decode prog_1_method_41_code 102 = .ok (.ireturn, 1) := by decide +kernel
theorem dM_count_0 : decode prog_14_method_98_code 0 = .ok (.iload_n 1, 1) := by decide +kernel
theorem dM_count_1 : decode prog_14_method_98_code 1 = .ok (.tableswitch (87) (0) (7) #[(47), (52), (57), (62), (67), (72), (77), (82)], 47) := by decide +kernel
theorem dM_count_48 : decode prog_14_method_98_code 48 = .ok (.aload_n 0, 1) := by decide +kernel
theorem dM_count_49 : decode prog_14_method_98_code 49 = .ok (.getfield 173, 3) := by decide +kernel
theorem dM_count_52 : decode prog_14_method_98_code 52 = .ok (.ireturn, 1) := by decide +kernel
theorem dM_count_53 : decode prog_14_method_98_code 53 = .ok (.aload_n 0, 1) := by decide +kernel
theorem dM_count_54 : decode prog_14_method_98_code 54 = .ok (.getfield 120, 3) := by decide +kernel
theorem dM_count_57 : decode prog_14_method_98_code 57 = .ok (.ireturn, 1) := by decide +kernel
theorem dM_count_58 : decode prog_14_method_98_code 58 = .ok (.aload_n 0, 1) := by decide +kernel
theorem dM_count_59 : decode prog_14_method_98_code 59 = .ok (.getfield 303, 3) := by decide +kernel
theorem dM_count_62 : decode prog_14_method_98_code 62 = .ok (.ireturn, 1) := by decide +kernel
theorem dM_count_63 : decode prog_14_method_98_code 63 = .ok (.aload_n 0, 1) := by decide +kernel
theorem dM_count_64 : decode prog_14_method_98_code 64 = .ok (.getfield 370, 3) := by decide +kernel
theorem dM_count_67 : decode prog_14_method_98_code 67 = .ok (.ireturn, 1) := by decide +kernel
theorem dM_count_68 : decode prog_14_method_98_code 68 = .ok (.aload_n 0, 1) := by decide +kernel
theorem dM_count_69 : decode prog_14_method_98_code 69 = .ok (.getfield 255, 3) := by decide +kernel
theorem dM_count_72 : decode prog_14_method_98_code 72 = .ok (.ireturn, 1) := by decide +kernel
theorem dM_count_73 : decode prog_14_method_98_code 73 = .ok (.aload_n 0, 1) := by decide +kernel
theorem dM_count_74 : decode prog_14_method_98_code 74 = .ok (.getfield 294, 3) := by decide +kernel
theorem dM_count_77 : decode prog_14_method_98_code 77 = .ok (.ireturn, 1) := by decide +kernel
theorem dM_count_78 : decode prog_14_method_98_code 78 = .ok (.aload_n 0, 1) := by decide +kernel
theorem dM_count_79 : decode prog_14_method_98_code 79 = .ok (.getfield 341, 3) := by decide +kernel
theorem dM_count_82 : decode prog_14_method_98_code 82 = .ok (.ireturn, 1) := by decide +kernel
theorem dM_count_83 : decode prog_14_method_98_code 83 = .ok (.aload_n 0, 1) := by decide +kernel
theorem dM_count_84 : decode prog_14_method_98_code 84 = .ok (.getfield 315, 3) := by decide +kernel
theorem dM_count_87 : decode prog_14_method_98_code 87 = .ok (.ireturn, 1) := by decide +kernel
theorem dM_count_88 : decode prog_14_method_98_code 88 = .ok (.bipush (-102), 2) := by decide +kernel
theorem dM_count_90 : decode prog_14_method_98_code 90 = .ok (.ireturn, 1) := by decide +kernel
theorem dC_mixed_0 : decode prog_1_method_56_code 0 = .ok (.iconst (0), 1) := by decide +kernel
theorem dC_mixed_1 : decode prog_1_method_56_code 1 = .ok (.istore 4, 2) := by decide +kernel
theorem dC_mixed_3 : decode prog_1_method_56_code 3 = .ok (.iload 4, 2) := by decide +kernel
theorem dC_mixed_5 : decode prog_1_method_56_code 5 = .ok (.iload_n 3, 1) := by decide +kernel
theorem dC_mixed_6 : decode prog_1_method_56_code 6 = .ok (.if_icmp .ge (28), 3) := by decide +kernel
theorem dC_mixed_9 : decode prog_1_method_56_code 9 = .ok (.iload 4, 2) := by decide +kernel
theorem dC_mixed_11 : decode prog_1_method_56_code 11 = .ok (.aload_n 2, 1) := by decide +kernel
theorem dC_mixed_12 : decode prog_1_method_56_code 12 = .ok (.arraylength, 1) := by decide +kernel
theorem dC_mixed_13 : decode prog_1_method_56_code 13 = .ok (.if_icmp .ge (21), 3) := by decide +kernel
theorem dC_mixed_16 : decode prog_1_method_56_code 16 = .ok (.ldc2_w 303, 3) := by decide +kernel
theorem dC_mixed_19 : decode prog_1_method_56_code 19 = .ok (.lload_n 0, 1) := by decide +kernel
theorem dC_mixed_20 : decode prog_1_method_56_code 20 = .ok (.lmul, 1) := by decide +kernel
theorem dC_mixed_21 : decode prog_1_method_56_code 21 = .ok (.aload_n 2, 1) := by decide +kernel
theorem dC_mixed_22 : decode prog_1_method_56_code 22 = .ok (.iload 4, 2) := by decide +kernel
theorem dC_mixed_24 : decode prog_1_method_56_code 24 = .ok (.iaload, 1) := by decide +kernel
theorem dC_mixed_25 : decode prog_1_method_56_code 25 = .ok (.i2l, 1) := by decide +kernel
theorem dC_mixed_26 : decode prog_1_method_56_code 26 = .ok (.ladd, 1) := by decide +kernel
theorem dC_mixed_27 : decode prog_1_method_56_code 27 = .ok (.lstore_n 0, 1) := by decide +kernel
theorem dC_mixed_28 : decode prog_1_method_56_code 28 = .ok (.iinc 4 (1), 3) := by decide +kernel
theorem dC_mixed_31 : decode prog_1_method_56_code 31 = .ok (.goto (-28), 3) := by decide +kernel
theorem dC_mixed_34 : decode prog_1_method_56_code 34 = .ok (.lload_n 0, 1) := by decide +kernel
theorem dC_mixed_35 : decode prog_1_method_56_code 35 = .ok (.lreturn, 1) := by decide +kernel
theorem dTa_mixedInto_0 : decode prog_10_method_8_code 0 = .ok (.ldc2_w 65, 3) := by decide +kernel
theorem dTa_mixedInto_3 : decode prog_10_method_8_code 3 = .ok (.lload_n 1, 1) := by decide +kernel
theorem dTa_mixedInto_4 : decode prog_10_method_8_code 4 = .ok (.lmul, 1) := by decide +kernel
theorem dTa_mixedInto_5 : decode prog_10_method_8_code 5 = .ok (.aload_n 0, 1) := by decide +kernel
theorem dTa_mixedInto_6 : decode prog_10_method_8_code 6 = .ok (.getfield 24, 3) := by decide +kernel
theorem dTa_mixedInto_9 : decode prog_10_method_8_code 9 = .ok (.i2l, 1) := by decide +kernel
theorem dTa_mixedInto_10 : decode prog_10_method_8_code 10 = .ok (.ladd, 1) := by decide +kernel
theorem dTa_mixedInto_11 : decode prog_10_method_8_code 11 = .ok (.lstore_n 1, 1) := by decide +kernel
theorem dTa_mixedInto_12 : decode prog_10_method_8_code 12 = .ok (.iconst (0), 1) := by decide +kernel
theorem dTa_mixedInto_13 : decode prog_10_method_8_code 13 = .ok (.istore_n 3, 1) := by decide +kernel
theorem dTa_mixedInto_14 : decode prog_10_method_8_code 14 = .ok (.iload_n 3, 1) := by decide +kernel
theorem dTa_mixedInto_15 : decode prog_10_method_8_code 15 = .ok (.aload_n 0, 1) := by decide +kernel
theorem dTa_mixedInto_16 : decode prog_10_method_8_code 16 = .ok (.getfield 24, 3) := by decide +kernel
theorem dTa_mixedInto_19 : decode prog_10_method_8_code 19 = .ok (.if_icmp .gt (66), 3) := by decide +kernel
theorem dTa_mixedInto_22 : decode prog_10_method_8_code 22 = .ok (.ldc2_w 65, 3) := by decide +kernel
theorem dTa_mixedInto_25 : decode prog_10_method_8_code 25 = .ok (.lload_n 1, 1) := by decide +kernel
theorem dTa_mixedInto_26 : decode prog_10_method_8_code 26 = .ok (.lmul, 1) := by decide +kernel
theorem dTa_mixedInto_27 : decode prog_10_method_8_code 27 = .ok (.aload_n 0, 1) := by decide +kernel
theorem dTa_mixedInto_28 : decode prog_10_method_8_code 28 = .ok (.iload_n 3, 1) := by decide +kernel
theorem dTa_mixedInto_29 : decode prog_10_method_8_code 29 = .ok (.invokevirtual 67, 3) := by decide +kernel
theorem dTa_mixedInto_32 : decode prog_10_method_8_code 32 = .ok (.ifCond .eq (7), 3) := by decide +kernel
theorem dTa_mixedInto_35 : decode prog_10_method_8_code 35 = .ok (.iconst (1), 1) := by decide +kernel
theorem dTa_mixedInto_36 : decode prog_10_method_8_code 36 = .ok (.goto (4), 3) := by decide +kernel
theorem dTa_mixedInto_39 : decode prog_10_method_8_code 39 = .ok (.iconst (0), 1) := by decide +kernel
theorem dTa_mixedInto_40 : decode prog_10_method_8_code 40 = .ok (.i2l, 1) := by decide +kernel
theorem dTa_mixedInto_41 : decode prog_10_method_8_code 41 = .ok (.ladd, 1) := by decide +kernel
theorem dTa_mixedInto_42 : decode prog_10_method_8_code 42 = .ok (.lstore_n 1, 1) := by decide +kernel
theorem dTa_mixedInto_43 : decode prog_10_method_8_code 43 = .ok (.iconst (0), 1) := by decide +kernel
theorem dTa_mixedInto_44 : decode prog_10_method_8_code 44 = .ok (.istore 4, 2) := by decide +kernel
theorem dTa_mixedInto_46 : decode prog_10_method_8_code 46 = .ok (.iload 4, 2) := by decide +kernel
theorem dTa_mixedInto_48 : decode prog_10_method_8_code 48 = .ok (.bipush (16), 2) := by decide +kernel
theorem dTa_mixedInto_50 : decode prog_10_method_8_code 50 = .ok (.if_icmp .ge (29), 3) := by decide +kernel
theorem dTa_mixedInto_53 : decode prog_10_method_8_code 53 = .ok (.ldc2_w 65, 3) := by decide +kernel
theorem dTa_mixedInto_56 : decode prog_10_method_8_code 56 = .ok (.lload_n 1, 1) := by decide +kernel
theorem dTa_mixedInto_57 : decode prog_10_method_8_code 57 = .ok (.lmul, 1) := by decide +kernel
theorem dTa_mixedInto_58 : decode prog_10_method_8_code 58 = .ok (.aload_n 0, 1) := by decide +kernel
theorem dTa_mixedInto_59 : decode prog_10_method_8_code 59 = .ok (.getfield 27, 3) := by decide +kernel
theorem dTa_mixedInto_62 : decode prog_10_method_8_code 62 = .ok (.iload_n 3, 1) := by decide +kernel
theorem dTa_mixedInto_63 : decode prog_10_method_8_code 63 = .ok (.bipush (16), 2) := by decide +kernel
theorem dTa_mixedInto_65 : decode prog_10_method_8_code 65 = .ok (.imul, 1) := by decide +kernel
theorem dTa_mixedInto_66 : decode prog_10_method_8_code 66 = .ok (.iload 4, 2) := by decide +kernel
theorem dTa_mixedInto_68 : decode prog_10_method_8_code 68 = .ok (.iadd, 1) := by decide +kernel
theorem dTa_mixedInto_69 : decode prog_10_method_8_code 69 = .ok (.iaload, 1) := by decide +kernel
theorem dTa_mixedInto_70 : decode prog_10_method_8_code 70 = .ok (.i2l, 1) := by decide +kernel
theorem dTa_mixedInto_71 : decode prog_10_method_8_code 71 = .ok (.ladd, 1) := by decide +kernel
theorem dTa_mixedInto_72 : decode prog_10_method_8_code 72 = .ok (.lstore_n 1, 1) := by decide +kernel
theorem dTa_mixedInto_73 : decode prog_10_method_8_code 73 = .ok (.iinc 4 (1), 3) := by decide +kernel
theorem dTa_mixedInto_76 : decode prog_10_method_8_code 76 = .ok (.goto (-30), 3) := by decide +kernel
theorem dTa_mixedInto_79 : decode prog_10_method_8_code 79 = .ok (.iinc 3 (1), 3) := by decide +kernel
theorem dTa_mixedInto_82 : decode prog_10_method_8_code 82 = .ok (.goto (-68), 3) := by decide +kernel
theorem dTa_mixedInto_85 : decode prog_10_method_8_code 85 = .ok (.lload_n 1, 1) := by decide +kernel
theorem dTa_mixedInto_86 : decode prog_10_method_8_code 86 = .ok (.lreturn, 1) := by decide +kernel
theorem dC_digest_0 : decode prog_1_method_42_code 0 = .ok (.ldc2_w 286, 3) := by decide +kernel
theorem dC_digest_3 : decode prog_1_method_42_code 3 = .ok (.lstore_n 1, 1) := by decide +kernel
theorem dC_digest_4 : decode prog_1_method_42_code 4 = .ok (.lload_n 1, 1) := by decide +kernel
theorem dC_digest_5 : decode prog_1_method_42_code 5 = .ok (.aload_n 0, 1) := by decide +kernel
theorem dC_digest_6 : decode prog_1_method_42_code 6 = .ok (.getfield 10, 3) := by decide +kernel
theorem dC_digest_9 : decode prog_1_method_42_code 9 = .ok (.getfield 288, 3) := by decide +kernel
theorem dC_digest_12 : decode prog_1_method_42_code 12 = .ok (.aload_n 0, 1) := by decide +kernel
theorem dC_digest_13 : decode prog_1_method_42_code 13 = .ok (.getfield 10, 3) := by decide +kernel
theorem dC_digest_16 : decode prog_1_method_42_code 16 = .ok (.getfield 65, 3) := by decide +kernel
theorem dC_digest_19 : decode prog_1_method_42_code 19 = .ok (.invokestatic 291, 3) := by decide +kernel
theorem dC_digest_22 : decode prog_1_method_42_code 22 = .ok (.lstore_n 1, 1) := by decide +kernel
theorem dC_digest_23 : decode prog_1_method_42_code 23 = .ok (.iconst (0), 1) := by decide +kernel
theorem dC_digest_24 : decode prog_1_method_42_code 24 = .ok (.istore_n 3, 1) := by decide +kernel
theorem dC_digest_25 : decode prog_1_method_42_code 25 = .ok (.iload_n 3, 1) := by decide +kernel
theorem dC_digest_26 : decode prog_1_method_42_code 26 = .ok (.aload_n 0, 1) := by decide +kernel
theorem dC_digest_27 : decode prog_1_method_42_code 27 = .ok (.getfield 87, 3) := by decide +kernel
theorem dC_digest_30 : decode prog_1_method_42_code 30 = .ok (.if_icmp .ge (20), 3) := by decide +kernel
theorem dC_digest_33 : decode prog_1_method_42_code 33 = .ok (.aload_n 0, 1) := by decide +kernel
theorem dC_digest_34 : decode prog_1_method_42_code 34 = .ok (.getfield 18, 3) := by decide +kernel
theorem dC_digest_37 : decode prog_1_method_42_code 37 = .ok (.iload_n 3, 1) := by decide +kernel
theorem dC_digest_38 : decode prog_1_method_42_code 38 = .ok (.aaload, 1) := by decide +kernel
theorem dC_digest_39 : decode prog_1_method_42_code 39 = .ok (.lload_n 1, 1) := by decide +kernel
theorem dC_digest_40 : decode prog_1_method_42_code 40 = .ok (.invokevirtual 295, 3) := by decide +kernel
theorem dC_digest_43 : decode prog_1_method_42_code 43 = .ok (.lstore_n 1, 1) := by decide +kernel
theorem dC_digest_44 : decode prog_1_method_42_code 44 = .ok (.iinc 3 (1), 3) := by decide +kernel
theorem dC_digest_47 : decode prog_1_method_42_code 47 = .ok (.goto (-22), 3) := by decide +kernel
theorem dC_digest_50 : decode prog_1_method_42_code 50 = .ok (.iconst (0), 1) := by decide +kernel
theorem dC_digest_51 : decode prog_1_method_42_code 51 = .ok (.istore_n 3, 1) := by decide +kernel
theorem dC_digest_52 : decode prog_1_method_42_code 52 = .ok (.iload_n 3, 1) := by decide +kernel
theorem dC_digest_53 : decode prog_1_method_42_code 53 = .ok (.aload_n 0, 1) := by decide +kernel
theorem dC_digest_54 : decode prog_1_method_42_code 54 = .ok (.getfield 46, 3) := by decide +kernel
theorem dC_digest_57 : decode prog_1_method_42_code 57 = .ok (.getfield 155, 3) := by decide +kernel
theorem dC_digest_60 : decode prog_1_method_42_code 60 = .ok (.if_icmp .ge (28), 3) := by decide +kernel
theorem dC_digest_63 : decode prog_1_method_42_code 63 = .ok (.lload_n 1, 1) := by decide +kernel
theorem dC_digest_64 : decode prog_1_method_42_code 64 = .ok (.aload_n 0, 1) := by decide +kernel
theorem dC_digest_65 : decode prog_1_method_42_code 65 = .ok (.getfield 46, 3) := by decide +kernel
theorem dC_digest_68 : decode prog_1_method_42_code 68 = .ok (.getfield 299, 3) := by decide +kernel
theorem dC_digest_71 : decode prog_1_method_42_code 71 = .ok (.iload_n 3, 1) := by decide +kernel
theorem dC_digest_72 : decode prog_1_method_42_code 72 = .ok (.aaload, 1) := by decide +kernel
theorem dC_digest_73 : decode prog_1_method_42_code 73 = .ok (.getfield 178, 3) := by decide +kernel
theorem dC_digest_76 : decode prog_1_method_42_code 76 = .ok (.bipush (8), 2) := by decide +kernel
theorem dC_digest_78 : decode prog_1_method_42_code 78 = .ok (.invokestatic 291, 3) := by decide +kernel
theorem dC_digest_81 : decode prog_1_method_42_code 81 = .ok (.lstore_n 1, 1) := by decide +kernel
theorem dC_digest_82 : decode prog_1_method_42_code 82 = .ok (.iinc 3 (1), 3) := by decide +kernel
theorem dC_digest_85 : decode prog_1_method_42_code 85 = .ok (.goto (-33), 3) := by decide +kernel
theorem dC_digest_88 : decode prog_1_method_42_code 88 = .ok (.lload_n 1, 1) := by decide +kernel
theorem dC_digest_89 : decode prog_1_method_42_code 89 = .ok (.aload_n 0, 1) := by decide +kernel
theorem dC_digest_90 : decode prog_1_method_42_code 90 = .ok (.getfield 46, 3) := by decide +kernel
theorem dC_digest_93 : decode prog_1_method_42_code 93 = .ok (.getfield 184, 3) := by decide +kernel
theorem dC_digest_96 : decode prog_1_method_42_code 96 = .ok (.bipush (12), 2) := by decide +kernel
theorem dC_digest_98 : decode prog_1_method_42_code 98 = .ok (.invokestatic 291, 3) := by decide +kernel
theorem dC_digest_101 : decode prog_1_method_42_code 101 = .ok (.lstore_n 1, 1) := by decide +kernel
theorem dC_digest_102 : decode prog_1_method_42_code 102 = .ok (.lload_n 1, 1) := by decide +kernel
theorem dC_digest_103 : decode prog_1_method_42_code 103 = .ok (.aload_n 0, 1) := by decide +kernel
theorem dC_digest_104 : decode prog_1_method_42_code 104 = .ok (.getfield 46, 3) := by decide +kernel
theorem dC_digest_107 : decode prog_1_method_42_code 107 = .ok (.getfield 188, 3) := by decide +kernel
theorem dC_digest_110 : decode prog_1_method_42_code 110 = .ok (.aload_n 0, 1) := by decide +kernel
theorem dC_digest_111 : decode prog_1_method_42_code 111 = .ok (.getfield 46, 3) := by decide +kernel
theorem dC_digest_114 : decode prog_1_method_42_code 114 = .ok (.getfield 187, 3) := by decide +kernel
theorem dC_digest_117 : decode prog_1_method_42_code 117 = .ok (.invokestatic 291, 3) := by decide +kernel
theorem dC_digest_120 : decode prog_1_method_42_code 120 = .ok (.lstore_n 1, 1) := by decide +kernel
theorem dC_digest_121 : decode prog_1_method_42_code 121 = .ok (.ldc2_w 303, 3) := by decide +kernel
theorem dC_digest_124 : decode prog_1_method_42_code 124 = .ok (.lload_n 1, 1) := by decide +kernel
theorem dC_digest_125 : decode prog_1_method_42_code 125 = .ok (.lmul, 1) := by decide +kernel
theorem dC_digest_126 : decode prog_1_method_42_code 126 = .ok (.aload_n 0, 1) := by decide +kernel
theorem dC_digest_127 : decode prog_1_method_42_code 127 = .ok (.getfield 53, 3) := by decide +kernel
theorem dC_digest_130 : decode prog_1_method_42_code 130 = .ok (.getfield 252, 3) := by decide +kernel
theorem dC_digest_133 : decode prog_1_method_42_code 133 = .ok (.i2l, 1) := by decide +kernel
theorem dC_digest_134 : decode prog_1_method_42_code 134 = .ok (.ladd, 1) := by decide +kernel
theorem dC_digest_135 : decode prog_1_method_42_code 135 = .ok (.lstore_n 1, 1) := by decide +kernel
theorem dC_digest_136 : decode prog_1_method_42_code 136 = .ok (.ldc2_w 303, 3) := by decide +kernel
theorem dC_digest_139 : decode prog_1_method_42_code 139 = .ok (.lload_n 1, 1) := by decide +kernel
theorem dC_digest_140 : decode prog_1_method_42_code 140 = .ok (.lmul, 1) := by decide +kernel
theorem dC_digest_141 : decode prog_1_method_42_code 141 = .ok (.aload_n 0, 1) := by decide +kernel
theorem dC_digest_142 : decode prog_1_method_42_code 142 = .ok (.getfield 53, 3) := by decide +kernel
theorem dC_digest_145 : decode prog_1_method_42_code 145 = .ok (.invokevirtual 270, 3) := by decide +kernel
theorem dC_digest_148 : decode prog_1_method_42_code 148 = .ok (.invokevirtual 266, 3) := by decide +kernel
theorem dC_digest_151 : decode prog_1_method_42_code 151 = .ok (.i2l, 1) := by decide +kernel
theorem dC_digest_152 : decode prog_1_method_42_code 152 = .ok (.ladd, 1) := by decide +kernel
theorem dC_digest_153 : decode prog_1_method_42_code 153 = .ok (.lstore_n 1, 1) := by decide +kernel
theorem dC_digest_154 : decode prog_1_method_42_code 154 = .ok (.ldc2_w 303, 3) := by decide +kernel
theorem dC_digest_157 : decode prog_1_method_42_code 157 = .ok (.lload_n 1, 1) := by decide +kernel
theorem dC_digest_158 : decode prog_1_method_42_code 158 = .ok (.lmul, 1) := by decide +kernel
theorem dC_digest_159 : decode prog_1_method_42_code 159 = .ok (.aload_n 0, 1) := by decide +kernel
theorem dC_digest_160 : decode prog_1_method_42_code 160 = .ok (.getfield 119, 3) := by decide +kernel
theorem dC_digest_163 : decode prog_1_method_42_code 163 = .ok (.i2l, 1) := by decide +kernel
theorem dC_digest_164 : decode prog_1_method_42_code 164 = .ok (.ladd, 1) := by decide +kernel
theorem dC_digest_165 : decode prog_1_method_42_code 165 = .ok (.lstore_n 1, 1) := by decide +kernel
theorem dC_digest_166 : decode prog_1_method_42_code 166 = .ok (.ldc2_w 303, 3) := by decide +kernel
theorem dC_digest_169 : decode prog_1_method_42_code 169 = .ok (.lload_n 1, 1) := by decide +kernel
theorem dC_digest_170 : decode prog_1_method_42_code 170 = .ok (.lmul, 1) := by decide +kernel
theorem dC_digest_171 : decode prog_1_method_42_code 171 = .ok (.aload_n 0, 1) := by decide +kernel
theorem dC_digest_172 : decode prog_1_method_42_code 172 = .ok (.getfield 283, 3) := by decide +kernel
theorem dC_digest_175 : decode prog_1_method_42_code 175 = .ok (.i2l, 1) := by decide +kernel
theorem dC_digest_176 : decode prog_1_method_42_code 176 = .ok (.ladd, 1) := by decide +kernel
theorem dC_digest_177 : decode prog_1_method_42_code 177 = .ok (.lstore_n 1, 1) := by decide +kernel
theorem dC_digest_178 : decode prog_1_method_42_code 178 = .ok (.ldc2_w 303, 3) := by decide +kernel
theorem dC_digest_181 : decode prog_1_method_42_code 181 = .ok (.lload_n 1, 1) := by decide +kernel
theorem dC_digest_182 : decode prog_1_method_42_code 182 = .ok (.lmul, 1) := by decide +kernel
theorem dC_digest_183 : decode prog_1_method_42_code 183 = .ok (.aload_n 0, 1) := by decide +kernel
theorem dC_digest_184 : decode prog_1_method_42_code 184 = .ok (.getfield 215, 3) := by decide +kernel
theorem dC_digest_187 : decode prog_1_method_42_code 187 = .ok (.i2l, 1) := by decide +kernel
theorem dC_digest_188 : decode prog_1_method_42_code 188 = .ok (.ladd, 1) := by decide +kernel
theorem dC_digest_189 : decode prog_1_method_42_code 189 = .ok (.lreturn, 1) := by decide +kernel
theorem dM_mix_0 : decode prog_14_method_99_code 0 = .ok (.aload_n 0, 1) := by decide +kernel
theorem dM_mix_1 : decode prog_14_method_99_code 1 = .ok (.ldc2_w 389, 3) := by decide +kernel
theorem dM_mix_4 : decode prog_14_method_99_code 4 = .ok (.aload_n 0, 1) := by decide +kernel
theorem dM_mix_5 : decode prog_14_method_99_code 5 = .ok (.getfield 391, 3) := by decide +kernel
theorem dM_mix_8 : decode prog_14_method_99_code 8 = .ok (.lmul, 1) := by decide +kernel
theorem dM_mix_9 : decode prog_14_method_99_code 9 = .ok (.lload_n 1, 1) := by decide +kernel
theorem dM_mix_10 : decode prog_14_method_99_code 10 = .ok (.ladd, 1) := by decide +kernel
theorem dM_mix_11 : decode prog_14_method_99_code 11 = .ok (.putfield 391, 3) := by decide +kernel
theorem dM_mix_14 : decode prog_14_method_99_code 14 = .ok (.return_, 1) := by decide +kernel
theorem dM_mixTalk_0 : decode prog_14_method_100_code 0 = .ok (.aload_n 0, 1) := by decide +kernel
theorem dM_mixTalk_1 : decode prog_14_method_100_code 1 = .ok (.aload_n 0, 1) := by decide +kernel
theorem dM_mixTalk_2 : decode prog_14_method_100_code 2 = .ok (.getfield 13, 3) := by decide +kernel
theorem dM_mixTalk_5 : decode prog_14_method_100_code 5 = .ok (.iload_n 1, 1) := by decide +kernel
theorem dM_mixTalk_6 : decode prog_14_method_100_code 6 = .ok (.iaload, 1) := by decide +kernel
theorem dM_mixTalk_7 : decode prog_14_method_100_code 7 = .ok (.i2l, 1) := by decide +kernel
theorem dM_mixTalk_8 : decode prog_14_method_100_code 8 = .ok (.invokevirtual 395, 3) := by decide +kernel
theorem dM_mixTalk_11 : decode prog_14_method_100_code 11 = .ok (.iconst (0), 1) := by decide +kernel
theorem dM_mixTalk_12 : decode prog_14_method_100_code 12 = .ok (.istore_n 2, 1) := by decide +kernel
theorem dM_mixTalk_13 : decode prog_14_method_100_code 13 = .ok (.iload_n 2, 1) := by decide +kernel
theorem dM_mixTalk_14 : decode prog_14_method_100_code 14 = .ok (.aload_n 0, 1) := by decide +kernel
theorem dM_mixTalk_15 : decode prog_14_method_100_code 15 = .ok (.getfield 13, 3) := by decide +kernel
theorem dM_mixTalk_18 : decode prog_14_method_100_code 18 = .ok (.iload_n 1, 1) := by decide +kernel
theorem dM_mixTalk_19 : decode prog_14_method_100_code 19 = .ok (.iaload, 1) := by decide +kernel
theorem dM_mixTalk_20 : decode prog_14_method_100_code 20 = .ok (.if_icmp .gt (63), 3) := by decide +kernel
theorem dM_mixTalk_23 : decode prog_14_method_100_code 23 = .ok (.aload_n 0, 1) := by decide +kernel
theorem dM_mixTalk_24 : decode prog_14_method_100_code 24 = .ok (.aload_n 0, 1) := by decide +kernel
theorem dM_mixTalk_25 : decode prog_14_method_100_code 25 = .ok (.getfield 20, 3) := by decide +kernel
theorem dM_mixTalk_28 : decode prog_14_method_100_code 28 = .ok (.bipush (25), 2) := by decide +kernel
theorem dM_mixTalk_30 : decode prog_14_method_100_code 30 = .ok (.iload_n 1, 1) := by decide +kernel
theorem dM_mixTalk_31 : decode prog_14_method_100_code 31 = .ok (.imul, 1) := by decide +kernel
theorem dM_mixTalk_32 : decode prog_14_method_100_code 32 = .ok (.iload_n 2, 1) := by decide +kernel
theorem dM_mixTalk_33 : decode prog_14_method_100_code 33 = .ok (.iadd, 1) := by decide +kernel
theorem dM_mixTalk_34 : decode prog_14_method_100_code 34 = .ok (.baload, 1) := by decide +kernel
theorem dM_mixTalk_35 : decode prog_14_method_100_code 35 = .ok (.ifCond .eq (7), 3) := by decide +kernel
theorem dM_mixTalk_38 : decode prog_14_method_100_code 38 = .ok (.lconst 1, 1) := by decide +kernel
theorem dM_mixTalk_39 : decode prog_14_method_100_code 39 = .ok (.goto (4), 3) := by decide +kernel
theorem dM_mixTalk_42 : decode prog_14_method_100_code 42 = .ok (.lconst 0, 1) := by decide +kernel
theorem dM_mixTalk_43 : decode prog_14_method_100_code 43 = .ok (.invokevirtual 395, 3) := by decide +kernel
theorem dM_mixTalk_46 : decode prog_14_method_100_code 46 = .ok (.iconst (0), 1) := by decide +kernel
theorem dM_mixTalk_47 : decode prog_14_method_100_code 47 = .ok (.istore_n 3, 1) := by decide +kernel
theorem dM_mixTalk_48 : decode prog_14_method_100_code 48 = .ok (.iload_n 3, 1) := by decide +kernel
theorem dM_mixTalk_49 : decode prog_14_method_100_code 49 = .ok (.bipush (16), 2) := by decide +kernel
theorem dM_mixTalk_51 : decode prog_14_method_100_code 51 = .ok (.if_icmp .ge (26), 3) := by decide +kernel
theorem dM_mixTalk_54 : decode prog_14_method_100_code 54 = .ok (.aload_n 0, 1) := by decide +kernel
theorem dM_mixTalk_55 : decode prog_14_method_100_code 55 = .ok (.aload_n 0, 1) := by decide +kernel
theorem dM_mixTalk_56 : decode prog_14_method_100_code 56 = .ok (.getfield 17, 3) := by decide +kernel
theorem dM_mixTalk_59 : decode prog_14_method_100_code 59 = .ok (.iload_n 1, 1) := by decide +kernel
theorem dM_mixTalk_60 : decode prog_14_method_100_code 60 = .ok (.iload_n 2, 1) := by decide +kernel
theorem dM_mixTalk_61 : decode prog_14_method_100_code 61 = .ok (.iconst (0), 1) := by decide +kernel
theorem dM_mixTalk_62 : decode prog_14_method_100_code 62 = .ok (.iload_n 3, 1) := by decide +kernel
theorem dM_mixTalk_63 : decode prog_14_method_100_code 63 = .ok (.invokestatic 176, 3) := by decide +kernel
theorem dM_mixTalk_66 : decode prog_14_method_100_code 66 = .ok (.iaload, 1) := by decide +kernel
theorem dM_mixTalk_67 : decode prog_14_method_100_code 67 = .ok (.i2l, 1) := by decide +kernel
theorem dM_mixTalk_68 : decode prog_14_method_100_code 68 = .ok (.invokevirtual 395, 3) := by decide +kernel
theorem dM_mixTalk_71 : decode prog_14_method_100_code 71 = .ok (.iinc 3 (1), 3) := by decide +kernel
theorem dM_mixTalk_74 : decode prog_14_method_100_code 74 = .ok (.goto (-26), 3) := by decide +kernel
theorem dM_mixTalk_77 : decode prog_14_method_100_code 77 = .ok (.iinc 2 (1), 3) := by decide +kernel
theorem dM_mixTalk_80 : decode prog_14_method_100_code 80 = .ok (.goto (-67), 3) := by decide +kernel
theorem dM_mixTalk_83 : decode prog_14_method_100_code 83 = .ok (.return_, 1) := by decide +kernel
theorem dM_digest_0 : decode prog_14_method_101_code 0 = .ok (.aload_n 0, 1) := by decide +kernel
theorem dM_digest_1 : decode prog_14_method_101_code 1 = .ok (.ldc2_w 399, 3) := by decide +kernel
theorem dM_digest_4 : decode prog_14_method_101_code 4 = .ok (.putfield 391, 3) := by decide +kernel
theorem dM_digest_7 : decode prog_14_method_101_code 7 = .ok (.iconst (0), 1) := by decide +kernel
theorem dM_digest_8 : decode prog_14_method_101_code 8 = .ok (.istore_n 1, 1) := by decide +kernel
theorem dM_digest_9 : decode prog_14_method_101_code 9 = .ok (.iload_n 1, 1) := by decide +kernel
theorem dM_digest_10 : decode prog_14_method_101_code 10 = .ok (.aload_n 0, 1) := by decide +kernel
theorem dM_digest_11 : decode prog_14_method_101_code 11 = .ok (.getfield 120, 3) := by decide +kernel
theorem dM_digest_14 : decode prog_14_method_101_code 14 = .ok (.if_icmp .ge (20), 3) := by decide +kernel
theorem dM_digest_17 : decode prog_14_method_101_code 17 = .ok (.aload_n 0, 1) := by decide +kernel
theorem dM_digest_18 : decode prog_14_method_101_code 18 = .ok (.aload_n 0, 1) := by decide +kernel
theorem dM_digest_19 : decode prog_14_method_101_code 19 = .ok (.getfield 7, 3) := by decide +kernel
theorem dM_digest_22 : decode prog_14_method_101_code 22 = .ok (.iload_n 1, 1) := by decide +kernel
theorem dM_digest_23 : decode prog_14_method_101_code 23 = .ok (.baload, 1) := by decide +kernel
theorem dM_digest_24 : decode prog_14_method_101_code 24 = .ok (.i2l, 1) := by decide +kernel
theorem dM_digest_25 : decode prog_14_method_101_code 25 = .ok (.invokevirtual 395, 3) := by decide +kernel
theorem dM_digest_28 : decode prog_14_method_101_code 28 = .ok (.iinc 1 (1), 3) := by decide +kernel
theorem dM_digest_31 : decode prog_14_method_101_code 31 = .ok (.goto (-22), 3) := by decide +kernel
theorem dM_digest_34 : decode prog_14_method_101_code 34 = .ok (.iconst (0), 1) := by decide +kernel
theorem dM_digest_35 : decode prog_14_method_101_code 35 = .ok (.istore_n 1, 1) := by decide +kernel
theorem dM_digest_36 : decode prog_14_method_101_code 36 = .ok (.iload_n 1, 1) := by decide +kernel
theorem dM_digest_37 : decode prog_14_method_101_code 37 = .ok (.aload_n 0, 1) := by decide +kernel
theorem dM_digest_38 : decode prog_14_method_101_code 38 = .ok (.getfield 173, 3) := by decide +kernel
theorem dM_digest_41 : decode prog_14_method_101_code 41 = .ok (.if_icmp .ge (14), 3) := by decide +kernel
theorem dM_digest_44 : decode prog_14_method_101_code 44 = .ok (.aload_n 0, 1) := by decide +kernel
theorem dM_digest_45 : decode prog_14_method_101_code 45 = .ok (.iload_n 1, 1) := by decide +kernel
theorem dM_digest_46 : decode prog_14_method_101_code 46 = .ok (.invokevirtual 401, 3) := by decide +kernel
theorem dM_digest_49 : decode prog_14_method_101_code 49 = .ok (.iinc 1 (1), 3) := by decide +kernel
theorem dM_digest_52 : decode prog_14_method_101_code 52 = .ok (.goto (-16), 3) := by decide +kernel
theorem dM_digest_55 : decode prog_14_method_101_code 55 = .ok (.iconst (0), 1) := by decide +kernel
theorem dM_digest_56 : decode prog_14_method_101_code 56 = .ok (.istore_n 1, 1) := by decide +kernel
theorem dM_digest_57 : decode prog_14_method_101_code 57 = .ok (.iload_n 1, 1) := by decide +kernel
theorem dM_digest_58 : decode prog_14_method_101_code 58 = .ok (.aload_n 0, 1) := by decide +kernel
theorem dM_digest_59 : decode prog_14_method_101_code 59 = .ok (.getfield 303, 3) := by decide +kernel
theorem dM_digest_62 : decode prog_14_method_101_code 62 = .ok (.if_icmp .ge (34), 3) := by decide +kernel
theorem dM_digest_65 : decode prog_14_method_101_code 65 = .ok (.iconst (0), 1) := by decide +kernel
theorem dM_digest_66 : decode prog_14_method_101_code 66 = .ok (.istore_n 2, 1) := by decide +kernel
theorem dM_digest_67 : decode prog_14_method_101_code 67 = .ok (.iload_n 2, 1) := by decide +kernel
theorem dM_digest_68 : decode prog_14_method_101_code 68 = .ok (.bipush (8), 2) := by decide +kernel
theorem dM_digest_70 : decode prog_14_method_101_code 70 = .ok (.if_icmp .ge (20), 3) := by decide +kernel
theorem dM_digest_73 : decode prog_14_method_101_code 73 = .ok (.aload_n 0, 1) := by decide +kernel
theorem dM_digest_74 : decode prog_14_method_101_code 74 = .ok (.aload_n 0, 1) := by decide +kernel
theorem dM_digest_75 : decode prog_14_method_101_code 75 = .ok (.iload_n 1, 1) := by decide +kernel
theorem dM_digest_76 : decode prog_14_method_101_code 76 = .ok (.iload_n 2, 1) := by decide +kernel
theorem dM_digest_77 : decode prog_14_method_101_code 77 = .ok (.invokevirtual 312, 3) := by decide +kernel
theorem dM_digest_80 : decode prog_14_method_101_code 80 = .ok (.i2l, 1) := by decide +kernel
theorem dM_digest_81 : decode prog_14_method_101_code 81 = .ok (.invokevirtual 395, 3) := by decide +kernel
theorem dM_digest_84 : decode prog_14_method_101_code 84 = .ok (.iinc 2 (1), 3) := by decide +kernel
theorem dM_digest_87 : decode prog_14_method_101_code 87 = .ok (.goto (-20), 3) := by decide +kernel
theorem dM_digest_90 : decode prog_14_method_101_code 90 = .ok (.iinc 1 (1), 3) := by decide +kernel
theorem dM_digest_93 : decode prog_14_method_101_code 93 = .ok (.goto (-36), 3) := by decide +kernel
theorem dM_digest_96 : decode prog_14_method_101_code 96 = .ok (.iconst (0), 1) := by decide +kernel
theorem dM_digest_97 : decode prog_14_method_101_code 97 = .ok (.istore_n 1, 1) := by decide +kernel
theorem dM_digest_98 : decode prog_14_method_101_code 98 = .ok (.iload_n 1, 1) := by decide +kernel
theorem dM_digest_99 : decode prog_14_method_101_code 99 = .ok (.bipush (12), 2) := by decide +kernel
theorem dM_digest_101 : decode prog_14_method_101_code 101 = .ok (.if_icmp .ge (20), 3) := by decide +kernel
theorem dM_digest_104 : decode prog_14_method_101_code 104 = .ok (.aload_n 0, 1) := by decide +kernel
theorem dM_digest_105 : decode prog_14_method_101_code 105 = .ok (.aload_n 0, 1) := by decide +kernel
theorem dM_digest_106 : decode prog_14_method_101_code 106 = .ok (.getfield 36, 3) := by decide +kernel
theorem dM_digest_109 : decode prog_14_method_101_code 109 = .ok (.iload_n 1, 1) := by decide +kernel
theorem dM_digest_110 : decode prog_14_method_101_code 110 = .ok (.iaload, 1) := by decide +kernel
theorem dM_digest_111 : decode prog_14_method_101_code 111 = .ok (.i2l, 1) := by decide +kernel
theorem dM_digest_112 : decode prog_14_method_101_code 112 = .ok (.invokevirtual 395, 3) := by decide +kernel
theorem dM_digest_115 : decode prog_14_method_101_code 115 = .ok (.iinc 1 (1), 3) := by decide +kernel
theorem dM_digest_118 : decode prog_14_method_101_code 118 = .ok (.goto (-20), 3) := by decide +kernel
theorem dM_digest_121 : decode prog_14_method_101_code 121 = .ok (.iconst (0), 1) := by decide +kernel
theorem dM_digest_122 : decode prog_14_method_101_code 122 = .ok (.istore_n 1, 1) := by decide +kernel
theorem dM_digest_123 : decode prog_14_method_101_code 123 = .ok (.iload_n 1, 1) := by decide +kernel
theorem dM_digest_124 : decode prog_14_method_101_code 124 = .ok (.aload_n 0, 1) := by decide +kernel
theorem dM_digest_125 : decode prog_14_method_101_code 125 = .ok (.getfield 315, 3) := by decide +kernel
theorem dM_digest_128 : decode prog_14_method_101_code 128 = .ok (.if_icmp .ge (20), 3) := by decide +kernel
theorem dM_digest_131 : decode prog_14_method_101_code 131 = .ok (.aload_n 0, 1) := by decide +kernel
theorem dM_digest_132 : decode prog_14_method_101_code 132 = .ok (.aload_n 0, 1) := by decide +kernel
theorem dM_digest_133 : decode prog_14_method_101_code 133 = .ok (.getfield 39, 3) := by decide +kernel
theorem dM_digest_136 : decode prog_14_method_101_code 136 = .ok (.iload_n 1, 1) := by decide +kernel
theorem dM_digest_137 : decode prog_14_method_101_code 137 = .ok (.iaload, 1) := by decide +kernel
theorem dM_digest_138 : decode prog_14_method_101_code 138 = .ok (.i2l, 1) := by decide +kernel
theorem dM_digest_139 : decode prog_14_method_101_code 139 = .ok (.invokevirtual 395, 3) := by decide +kernel
theorem dM_digest_142 : decode prog_14_method_101_code 142 = .ok (.iinc 1 (1), 3) := by decide +kernel
theorem dM_digest_145 : decode prog_14_method_101_code 145 = .ok (.goto (-22), 3) := by decide +kernel
theorem dM_digest_148 : decode prog_14_method_101_code 148 = .ok (.aload_n 0, 1) := by decide +kernel
theorem dM_digest_149 : decode prog_14_method_101_code 149 = .ok (.aload_n 0, 1) := by decide +kernel
theorem dM_digest_150 : decode prog_14_method_101_code 150 = .ok (.getfield 370, 3) := by decide +kernel
theorem dM_digest_153 : decode prog_14_method_101_code 153 = .ok (.i2l, 1) := by decide +kernel
theorem dM_digest_154 : decode prog_14_method_101_code 154 = .ok (.invokevirtual 395, 3) := by decide +kernel
theorem dM_digest_157 : decode prog_14_method_101_code 157 = .ok (.aload_n 0, 1) := by decide +kernel
theorem dM_digest_158 : decode prog_14_method_101_code 158 = .ok (.aload_n 0, 1) := by decide +kernel
theorem dM_digest_159 : decode prog_14_method_101_code 159 = .ok (.aload_n 0, 1) := by decide +kernel
theorem dM_digest_160 : decode prog_14_method_101_code 160 = .ok (.getfield 370, 3) := by decide +kernel
theorem dM_digest_163 : decode prog_14_method_101_code 163 = .ok (.invokevirtual 382, 3) := by decide +kernel
theorem dM_digest_166 : decode prog_14_method_101_code 166 = .ok (.i2l, 1) := by decide +kernel
theorem dM_digest_167 : decode prog_14_method_101_code 167 = .ok (.invokevirtual 395, 3) := by decide +kernel
theorem dM_digest_170 : decode prog_14_method_101_code 170 = .ok (.aload_n 0, 1) := by decide +kernel
theorem dM_digest_171 : decode prog_14_method_101_code 171 = .ok (.aload_n 0, 1) := by decide +kernel
theorem dM_digest_172 : decode prog_14_method_101_code 172 = .ok (.getfield 255, 3) := by decide +kernel
theorem dM_digest_175 : decode prog_14_method_101_code 175 = .ok (.i2l, 1) := by decide +kernel
theorem dM_digest_176 : decode prog_14_method_101_code 176 = .ok (.invokevirtual 395, 3) := by decide +kernel
theorem dM_digest_179 : decode prog_14_method_101_code 179 = .ok (.aload_n 0, 1) := by decide +kernel
theorem dM_digest_180 : decode prog_14_method_101_code 180 = .ok (.aload_n 0, 1) := by decide +kernel
theorem dM_digest_181 : decode prog_14_method_101_code 181 = .ok (.getfield 294, 3) := by decide +kernel
theorem dM_digest_184 : decode prog_14_method_101_code 184 = .ok (.i2l, 1) := by decide +kernel
theorem dM_digest_185 : decode prog_14_method_101_code 185 = .ok (.invokevirtual 395, 3) := by decide +kernel
theorem dM_digest_188 : decode prog_14_method_101_code 188 = .ok (.aload_n 0, 1) := by decide +kernel
theorem dM_digest_189 : decode prog_14_method_101_code 189 = .ok (.aload_n 0, 1) := by decide +kernel
theorem dM_digest_190 : decode prog_14_method_101_code 190 = .ok (.getfield 341, 3) := by decide +kernel
theorem dM_digest_193 : decode prog_14_method_101_code 193 = .ok (.i2l, 1) := by decide +kernel
theorem dM_digest_194 : decode prog_14_method_101_code 194 = .ok (.invokevirtual 395, 3) := by decide +kernel
theorem dM_digest_197 : decode prog_14_method_101_code 197 = .ok (.aload_n 0, 1) := by decide +kernel
theorem dM_digest_198 : decode prog_14_method_101_code 198 = .ok (.getfield 391, 3) := by decide +kernel
theorem dM_digest_201 : decode prog_14_method_101_code 201 = .ok (.lreturn, 1) := by decide +kernel
