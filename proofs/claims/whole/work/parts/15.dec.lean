theorem dGo_become_1 : decode prog_4_method_3_code 1 = .ok (.aload_n 1, 1) := by decide +kernel
theorem dGo_become_2 : decode prog_4_method_3_code 2 = .ok (.getfield 18, 3) := by decide +kernel
theorem dGo_become_5 : decode prog_4_method_3_code 5 = .ok (.putfield 18, 3) := by decide +kernel
theorem dGo_become_8 : decode prog_4_method_3_code 8 = .ok (.aload_n 1, 1) := by decide +kernel
theorem dGo_become_9 : decode prog_4_method_3_code 9 = .ok (.getfield 9, 3) := by decide +kernel
theorem dGo_become_12 : decode prog_4_method_3_code 12 = .ok (.iconst (0), 1) := by decide +kernel
theorem dGo_become_13 : decode prog_4_method_3_code 13 = .ok (.aload_n 0, 1) := by decide +kernel
theorem dGo_become_14 : decode prog_4_method_3_code 14 = .ok (.getfield 9, 3) := by decide +kernel
theorem dGo_become_17 : decode prog_4_method_3_code 17 = .ok (.iconst (0), 1) := by decide +kernel
theorem dGo_become_18 : decode prog_4_method_3_code 18 = .ok (.bipush (12), 2) := by decide +kernel
theorem dGo_become_20 : decode prog_4_method_3_code 20 = .ok (.invokestatic 22, 3) := by decide +kernel
theorem dGo_become_23 : decode prog_4_method_3_code 23 = .ok (.aload_n 1, 1) := by decide +kernel
theorem dGo_become_24 : decode prog_4_method_3_code 24 = .ok (.getfield 15, 3) := by decide +kernel
theorem dGo_become_27 : decode prog_4_method_3_code 27 = .ok (.iconst (0), 1) := by decide +kernel
theorem dGo_become_28 : decode prog_4_method_3_code 28 = .ok (.aload_n 0, 1) := by decide +kernel
theorem dGo_become_29 : decode prog_4_method_3_code 29 = .ok (.getfield 15, 3) := by decide +kernel
theorem dGo_become_32 : decode prog_4_method_3_code 32 = .ok (.iconst (0), 1) := by decide +kernel
theorem dGo_become_33 : decode prog_4_method_3_code 33 = .ok (.bipush (8), 2) := by decide +kernel
theorem dGo_become_35 : decode prog_4_method_3_code 35 = .ok (.invokestatic 22, 3) := by decide +kernel
theorem dGo_become_38 : decode prog_4_method_3_code 38 = .ok (.return_, 1) := by decide +kernel
theorem dGo_go_0 : decode prog_4_method_6_code 0 = .ok (.aload_n 0, 1) := by decide +kernel
theorem dGo_go_1 : decode prog_4_method_6_code 1 = .ok (.aload_n 1, 1) := by decide +kernel
theorem dGo_go_2 : decode prog_4_method_6_code 2 = .ok (.getfield 34, 3) := by decide +kernel
theorem dGo_go_5 : decode prog_4_method_6_code 5 = .ok (.iconst (5), 1) := by decide +kernel
theorem dGo_go_6 : decode prog_4_method_6_code 6 = .ok (.iaload, 1) := by decide +kernel
theorem dGo_go_7 : decode prog_4_method_6_code 7 = .ok (.invokevirtual 39, 3) := by decide +kernel
theorem dGo_go_10 : decode prog_4_method_6_code 10 = .ok (.istore 4, 2) := by decide +kernel
theorem dGo_go_12 : decode prog_4_method_6_code 12 = .ok (.aload_n 1, 1) := by decide +kernel
theorem dGo_go_13 : decode prog_4_method_6_code 13 = .ok (.getfield 34, 3) := by decide +kernel
theorem dGo_go_16 : decode prog_4_method_6_code 16 = .ok (.bipush (6), 2) := by decide +kernel
theorem dGo_go_18 : decode prog_4_method_6_code 18 = .ok (.iaload, 1) := by decide +kernel
theorem dGo_go_19 : decode prog_4_method_6_code 19 = .ok (.istore 5, 2) := by decide +kernel
theorem dGo_go_21 : decode prog_4_method_6_code 21 = .ok (.aload_n 0, 1) := by decide +kernel
theorem dGo_go_22 : decode prog_4_method_6_code 22 = .ok (.aload_n 0, 1) := by decide +kernel
theorem dGo_go_23 : decode prog_4_method_6_code 23 = .ok (.getfield 18, 3) := by decide +kernel
theorem dGo_go_26 : decode prog_4_method_6_code 26 = .ok (.aload_n 1, 1) := by decide +kernel
theorem dGo_go_27 : decode prog_4_method_6_code 27 = .ok (.getfield 34, 3) := by decide +kernel
theorem dGo_go_30 : decode prog_4_method_6_code 30 = .ok (.bipush (7), 2) := by decide +kernel
theorem dGo_go_32 : decode prog_4_method_6_code 32 = .ok (.iaload, 1) := by decide +kernel
theorem dGo_go_33 : decode prog_4_method_6_code 33 = .ok (.iconst (-1), 1) := by decide +kernel
theorem dGo_go_34 : decode prog_4_method_6_code 34 = .ok (.ixor, 1) := by decide +kernel
theorem dGo_go_35 : decode prog_4_method_6_code 35 = .ok (.iand, 1) := by decide +kernel
theorem dGo_go_36 : decode prog_4_method_6_code 36 = .ok (.iload 5, 2) := by decide +kernel
theorem dGo_go_38 : decode prog_4_method_6_code 38 = .ok (.ior, 1) := by decide +kernel
theorem dGo_go_39 : decode prog_4_method_6_code 39 = .ok (.putfield 18, 3) := by decide +kernel
theorem dGo_go_42 : decode prog_4_method_6_code 42 = .ok (.iconst (0), 1) := by decide +kernel
theorem dGo_go_43 : decode prog_4_method_6_code 43 = .ok (.istore 6, 2) := by decide +kernel
theorem dGo_go_45 : decode prog_4_method_6_code 45 = .ok (.iload 6, 2) := by decide +kernel
theorem dGo_go_47 : decode prog_4_method_6_code 47 = .ok (.bipush (12), 2) := by decide +kernel
theorem dGo_go_49 : decode prog_4_method_6_code 49 = .ok (.if_icmp .ge (35), 3) := by decide +kernel
theorem dGo_go_52 : decode prog_4_method_6_code 52 = .ok (.iload 5, 2) := by decide +kernel
theorem dGo_go_54 : decode prog_4_method_6_code 54 = .ok (.iload 6, 2) := by decide +kernel
theorem dGo_go_56 : decode prog_4_method_6_code 56 = .ok (.invokestatic 47, 3) := by decide +kernel
theorem dGo_go_59 : decode prog_4_method_6_code 59 = .ok (.ifCond .eq (19), 3) := by decide +kernel
theorem dGo_go_62 : decode prog_4_method_6_code 62 = .ok (.aload_n 0, 1) := by decide +kernel
theorem dGo_go_63 : decode prog_4_method_6_code 63 = .ok (.getfield 9, 3) := by decide +kernel
theorem dGo_go_66 : decode prog_4_method_6_code 66 = .ok (.iload 6, 2) := by decide +kernel
theorem dGo_go_68 : decode prog_4_method_6_code 68 = .ok (.aload_n 3, 1) := by decide +kernel
theorem dGo_go_69 : decode prog_4_method_6_code 69 = .ok (.iload 6, 2) := by decide +kernel
theorem dGo_go_71 : decode prog_4_method_6_code 71 = .ok (.iaload, 1) := by decide +kernel
theorem dGo_go_72 : decode prog_4_method_6_code 72 = .ok (.iload 4, 2) := by decide +kernel
theorem dGo_go_74 : decode prog_4_method_6_code 74 = .ok (.invokestatic 51, 3) := by decide +kernel
theorem dGo_go_77 : decode prog_4_method_6_code 77 = .ok (.iastore, 1) := by decide +kernel
theorem dGo_go_78 : decode prog_4_method_6_code 78 = .ok (.iinc 6 (1), 3) := by decide +kernel
theorem dGo_go_81 : decode prog_4_method_6_code 81 = .ok (.goto (-36), 3) := by decide +kernel
theorem dGo_go_84 : decode prog_4_method_6_code 84 = .ok (.aload_n 0, 1) := by decide +kernel
theorem dGo_go_85 : decode prog_4_method_6_code 85 = .ok (.getfield 15, 3) := by decide +kernel
theorem dGo_go_88 : decode prog_4_method_6_code 88 = .ok (.iload_n 2, 1) := by decide +kernel
theorem dGo_go_89 : decode prog_4_method_6_code 89 = .ok (.dup2, 1) := by decide +kernel
theorem dGo_go_90 : decode prog_4_method_6_code 90 = .ok (.iaload, 1) := by decide +kernel
theorem dGo_go_91 : decode prog_4_method_6_code 91 = .ok (.iconst (1), 1) := by decide +kernel
theorem dGo_go_92 : decode prog_4_method_6_code 92 = .ok (.iadd, 1) := by decide +kernel
theorem dGo_go_93 : decode prog_4_method_6_code 93 = .ok (.iastore, 1) := by decide +kernel
theorem dGo_go_94 : decode prog_4_method_6_code 94 = .ok (.return_, 1) := by decide +kernel
theorem dRo_goOn_0 : decode prog_9_method_8_code 0 = .ok (.aload_n 0, 1) := by decide +kernel
theorem dRo_goOn_1 : decode prog_9_method_8_code 1 = .ok (.getfield 26, 3) := by decide +kernel
theorem dRo_goOn_4 : decode prog_9_method_8_code 4 = .ok (.iload_n 1, 1) := by decide +kernel
theorem dRo_goOn_5 : decode prog_9_method_8_code 5 = .ok (.iconst (1), 1) := by decide +kernel
theorem dRo_goOn_6 : decode prog_9_method_8_code 6 = .ok (.iadd, 1) := by decide +kernel
theorem dRo_goOn_7 : decode prog_9_method_8_code 7 = .ok (.aaload, 1) := by decide +kernel
theorem dRo_goOn_8 : decode prog_9_method_8_code 8 = .ok (.aload_n 0, 1) := by decide +kernel
theorem dRo_goOn_9 : decode prog_9_method_8_code 9 = .ok (.getfield 26, 3) := by decide +kernel
theorem dRo_goOn_12 : decode prog_9_method_8_code 12 = .ok (.iload_n 1, 1) := by decide +kernel
theorem dRo_goOn_13 : decode prog_9_method_8_code 13 = .ok (.aaload, 1) := by decide +kernel
theorem dRo_goOn_14 : decode prog_9_method_8_code 14 = .ok (.invokevirtual 67, 3) := by decide +kernel
theorem dRo_goOn_17 : decode prog_9_method_8_code 17 = .ok (.aload_n 0, 1) := by decide +kernel
theorem dRo_goOn_18 : decode prog_9_method_8_code 18 = .ok (.getfield 26, 3) := by decide +kernel
theorem dRo_goOn_21 : decode prog_9_method_8_code 21 = .ok (.iload_n 1, 1) := by decide +kernel
theorem dRo_goOn_22 : decode prog_9_method_8_code 22 = .ok (.iconst (1), 1) := by decide +kernel
theorem dRo_goOn_23 : decode prog_9_method_8_code 23 = .ok (.iadd, 1) := by decide +kernel
theorem dRo_goOn_24 : decode prog_9_method_8_code 24 = .ok (.aaload, 1) := by decide +kernel
theorem dRo_goOn_25 : decode prog_9_method_8_code 25 = .ok (.aload_n 0, 1) := by decide +kernel
theorem dRo_goOn_26 : decode prog_9_method_8_code 26 = .ok (.getfield 11, 3) := by decide +kernel
theorem dRo_goOn_29 : decode prog_9_method_8_code 29 = .ok (.iload_n 2, 1) := by decide +kernel
theorem dRo_goOn_30 : decode prog_9_method_8_code 30 = .ok (.aaload, 1) := by decide +kernel
theorem dRo_goOn_31 : decode prog_9_method_8_code 31 = .ok (.iload_n 2, 1) := by decide +kernel
theorem dRo_goOn_32 : decode prog_9_method_8_code 32 = .ok (.aload_n 0, 1) := by decide +kernel
theorem dRo_goOn_33 : decode prog_9_method_8_code 33 = .ok (.getfield 17, 3) := by decide +kernel
theorem dRo_goOn_36 : decode prog_9_method_8_code 36 = .ok (.invokevirtual 71, 3) := by decide +kernel
theorem dRo_goOn_39 : decode prog_9_method_8_code 39 = .ok (.return_, 1) := by decide +kernel
theorem dRo_firstStop_0 : decode prog_9_method_7_code 0 = .ok (.aload_n 0, 1) := by decide +kernel
theorem dRo_firstStop_1 : decode prog_9_method_7_code 1 = .ok (.getfield 26, 3) := by decide +kernel
theorem dRo_firstStop_4 : decode prog_9_method_7_code 4 = .ok (.iconst (0), 1) := by decide +kernel
theorem dRo_firstStop_5 : decode prog_9_method_7_code 5 = .ok (.aaload, 1) := by decide +kernel
theorem dRo_firstStop_6 : decode prog_9_method_7_code 6 = .ok (.iload_n 1, 1) := by decide +kernel
theorem dRo_firstStop_7 : decode prog_9_method_7_code 7 = .ok (.aload_n 0, 1) := by decide +kernel
theorem dRo_firstStop_8 : decode prog_9_method_7_code 8 = .ok (.getfield 17, 3) := by decide +kernel
theorem dRo_firstStop_11 : decode prog_9_method_7_code 11 = .ok (.invokevirtual 55, 3) := by decide +kernel
theorem dRo_firstStop_14 : decode prog_9_method_7_code 14 = .ok (.iconst (0), 1) := by decide +kernel
theorem dRo_firstStop_15 : decode prog_9_method_7_code 15 = .ok (.istore_n 2, 1) := by decide +kernel
theorem dRo_firstStop_16 : decode prog_9_method_7_code 16 = .ok (.iload_n 2, 1) := by decide +kernel
theorem dRo_firstStop_17 : decode prog_9_method_7_code 17 = .ok (.aload_n 0, 1) := by decide +kernel
theorem dRo_firstStop_18 : decode prog_9_method_7_code 18 = .ok (.getfield 45, 3) := by decide +kernel
theorem dRo_firstStop_21 : decode prog_9_method_7_code 21 = .ok (.if_icmp .ge (45), 3) := by decide +kernel
theorem dRo_firstStop_24 : decode prog_9_method_7_code 24 = .ok (.aload_n 0, 1) := by decide +kernel
theorem dRo_firstStop_25 : decode prog_9_method_7_code 25 = .ok (.getfield 26, 3) := by decide +kernel
theorem dRo_firstStop_28 : decode prog_9_method_7_code 28 = .ok (.iload_n 2, 1) := by decide +kernel
theorem dRo_firstStop_29 : decode prog_9_method_7_code 29 = .ok (.aaload, 1) := by decide +kernel
theorem dRo_firstStop_30 : decode prog_9_method_7_code 30 = .ok (.aload_n 0, 1) := by decide +kernel
theorem dRo_firstStop_31 : decode prog_9_method_7_code 31 = .ok (.iload_n 2, 1) := by decide +kernel
theorem dRo_firstStop_32 : decode prog_9_method_7_code 32 = .ok (.invokevirtual 48, 3) := by decide +kernel
theorem dRo_firstStop_35 : decode prog_9_method_7_code 35 = .ok (.aload_n 0, 1) := by decide +kernel
theorem dRo_firstStop_36 : decode prog_9_method_7_code 36 = .ok (.getfield 21, 3) := by decide +kernel
theorem dRo_firstStop_39 : decode prog_9_method_7_code 39 = .ok (.iload_n 2, 1) := by decide +kernel
theorem dRo_firstStop_40 : decode prog_9_method_7_code 40 = .ok (.iaload, 1) := by decide +kernel
theorem dRo_firstStop_41 : decode prog_9_method_7_code 41 = .ok (.invokevirtual 59, 3) := by decide +kernel
theorem dRo_firstStop_44 : decode prog_9_method_7_code 44 = .ok (.ifCond .ne (5), 3) := by decide +kernel
theorem dRo_firstStop_47 : decode prog_9_method_7_code 47 = .ok (.iload_n 2, 1) := by decide +kernel
theorem dRo_firstStop_48 : decode prog_9_method_7_code 48 = .ok (.ireturn, 1) := by decide +kernel
theorem dRo_firstStop_49 : decode prog_9_method_7_code 49 = .ok (.aload_n 0, 1) := by decide +kernel
theorem dRo_firstStop_50 : decode prog_9_method_7_code 50 = .ok (.iload_n 2, 1) := by decide +kernel
theorem dRo_firstStop_51 : decode prog_9_method_7_code 51 = .ok (.aload_n 0, 1) := by decide +kernel
theorem dRo_firstStop_52 : decode prog_9_method_7_code 52 = .ok (.getfield 21, 3) := by decide +kernel
theorem dRo_firstStop_55 : decode prog_9_method_7_code 55 = .ok (.iload_n 2, 1) := by decide +kernel
theorem dRo_firstStop_56 : decode prog_9_method_7_code 56 = .ok (.iaload, 1) := by decide +kernel
theorem dRo_firstStop_57 : decode prog_9_method_7_code 57 = .ok (.invokevirtual 63, 3) := by decide +kernel
theorem dRo_firstStop_60 : decode prog_9_method_7_code 60 = .ok (.iinc 2 (1), 3) := by decide +kernel
theorem dRo_firstStop_63 : decode prog_9_method_7_code 63 = .ok (.goto (-47), 3) := by decide +kernel
theorem dRo_firstStop_66 : decode prog_9_method_7_code 66 = .ok (.iconst (-1), 1) := by decide +kernel
theorem dRo_firstStop_67 : decode prog_9_method_7_code 67 = .ok (.ireturn, 1) := by decide +kernel
theorem dC_stops_0 : decode prog_1_method_24_code 0 = .ok (.iload_n 1, 1) := by decide +kernel
theorem dC_stops_1 : decode prog_1_method_24_code 1 = .ok (.invokestatic 152, 3) := by decide +kernel
theorem dC_stops_4 : decode prog_1_method_24_code 4 = .ok (.ifCond .eq (14), 3) := by decide +kernel
theorem dC_stops_7 : decode prog_1_method_24_code 7 = .ok (.aload_n 0, 1) := by decide +kernel
theorem dC_stops_8 : decode prog_1_method_24_code 8 = .ok (.getfield 46, 3) := by decide +kernel
theorem dC_stops_11 : decode prog_1_method_24_code 11 = .ok (.iload_n 1, 1) := by decide +kernel
theorem dC_stops_12 : decode prog_1_method_24_code 12 = .ok (.invokevirtual 191, 3) := by decide +kernel
theorem dC_stops_15 : decode prog_1_method_24_code 15 = .ok (.goto (5), 3) := by decide +kernel
theorem dC_stops_18 : decode prog_1_method_24_code 18 = .ok (.bipush (-102), 2) := by decide +kernel
theorem dC_stops_20 : decode prog_1_method_24_code 20 = .ok (.ireturn, 1) := by decide +kernel
theorem dM_start_0 : decode prog_14_method_66_code 0 = .ok (.aload_n 0, 1) := by decide +kernel
theorem dM_start_1 : decode prog_14_method_66_code 1 = .ok (.iload_n 1, 1) := by decide +kernel
theorem dM_start_2 : decode prog_14_method_66_code 2 = .ok (.putfield 318, 3) := by decide +kernel
theorem dM_start_5 : decode prog_14_method_66_code 5 = .ok (.iconst (0), 1) := by decide +kernel
theorem dM_start_6 : decode prog_14_method_66_code 6 = .ok (.istore_n 2, 1) := by decide +kernel
theorem dM_start_7 : decode prog_14_method_66_code 7 = .ok (.iload_n 2, 1) := by decide +kernel
theorem dM_start_8 : decode prog_14_method_66_code 8 = .ok (.bipush (12), 2) := by decide +kernel
theorem dM_start_10 : decode prog_14_method_66_code 10 = .ok (.if_icmp .ge (21), 3) := by decide +kernel
theorem dM_start_13 : decode prog_14_method_66_code 13 = .ok (.aload_n 0, 1) := by decide +kernel
theorem dM_start_14 : decode prog_14_method_66_code 14 = .ok (.getfield 103, 3) := by decide +kernel
theorem dM_start_17 : decode prog_14_method_66_code 17 = .ok (.iload_n 2, 1) := by decide +kernel
theorem dM_start_18 : decode prog_14_method_66_code 18 = .ok (.aload_n 0, 1) := by decide +kernel
theorem dM_start_19 : decode prog_14_method_66_code 19 = .ok (.getfield 36, 3) := by decide +kernel
theorem dM_start_22 : decode prog_14_method_66_code 22 = .ok (.iload_n 2, 1) := by decide +kernel
theorem dM_start_23 : decode prog_14_method_66_code 23 = .ok (.iaload, 1) := by decide +kernel
theorem dM_start_24 : decode prog_14_method_66_code 24 = .ok (.iastore, 1) := by decide +kernel
theorem dM_start_25 : decode prog_14_method_66_code 25 = .ok (.iinc 2 (1), 3) := by decide +kernel
theorem dM_start_28 : decode prog_14_method_66_code 28 = .ok (.goto (-21), 3) := by decide +kernel
theorem dM_start_31 : decode prog_14_method_66_code 31 = .ok (.return_, 1) := by decide +kernel
theorem dM_worst_0 : decode prog_14_method_67_code 0 = .ok (.iconst (0), 1) := by decide +kernel
theorem dM_worst_1 : decode prog_14_method_67_code 1 = .ok (.istore_n 2, 1) := by decide +kernel
theorem dM_worst_2 : decode prog_14_method_67_code 2 = .ok (.iconst (0), 1) := by decide +kernel
theorem dM_worst_3 : decode prog_14_method_67_code 3 = .ok (.istore_n 3, 1) := by decide +kernel
theorem dM_worst_4 : decode prog_14_method_67_code 4 = .ok (.iload_n 3, 1) := by decide +kernel
theorem dM_worst_5 : decode prog_14_method_67_code 5 = .ok (.bipush (12), 2) := by decide +kernel
theorem dM_worst_7 : decode prog_14_method_67_code 7 = .ok (.if_icmp .ge (39), 3) := by decide +kernel
theorem dM_worst_10 : decode prog_14_method_67_code 10 = .ok (.iload_n 1, 1) := by decide +kernel
theorem dM_worst_11 : decode prog_14_method_67_code 11 = .ok (.iload_n 3, 1) := by decide +kernel
theorem dM_worst_12 : decode prog_14_method_67_code 12 = .ok (.ishr, 1) := by decide +kernel
theorem dM_worst_13 : decode prog_14_method_67_code 13 = .ok (.iconst (1), 1) := by decide +kernel
theorem dM_worst_14 : decode prog_14_method_67_code 14 = .ok (.iand, 1) := by decide +kernel
theorem dM_worst_15 : decode prog_14_method_67_code 15 = .ok (.iconst (1), 1) := by decide +kernel
theorem dM_worst_16 : decode prog_14_method_67_code 16 = .ok (.if_icmp .ne (22), 3) := by decide +kernel
theorem dM_worst_19 : decode prog_14_method_67_code 19 = .ok (.aload_n 0, 1) := by decide +kernel
theorem dM_worst_20 : decode prog_14_method_67_code 20 = .ok (.getfield 103, 3) := by decide +kernel
theorem dM_worst_23 : decode prog_14_method_67_code 23 = .ok (.iload_n 3, 1) := by decide +kernel
theorem dM_worst_24 : decode prog_14_method_67_code 24 = .ok (.iaload, 1) := by decide +kernel
theorem dM_worst_25 : decode prog_14_method_67_code 25 = .ok (.iload_n 2, 1) := by decide +kernel
theorem dM_worst_26 : decode prog_14_method_67_code 26 = .ok (.if_icmp .le (12), 3) := by decide +kernel
theorem dM_worst_29 : decode prog_14_method_67_code 29 = .ok (.aload_n 0, 1) := by decide +kernel
theorem dM_worst_30 : decode prog_14_method_67_code 30 = .ok (.getfield 103, 3) := by decide +kernel
theorem dM_worst_33 : decode prog_14_method_67_code 33 = .ok (.iload_n 3, 1) := by decide +kernel
theorem dM_worst_34 : decode prog_14_method_67_code 34 = .ok (.iaload, 1) := by decide +kernel
theorem dM_worst_35 : decode prog_14_method_67_code 35 = .ok (.goto (4), 3) := by decide +kernel
theorem dM_worst_38 : decode prog_14_method_67_code 38 = .ok (.iload_n 2, 1) := by decide +kernel
theorem dM_worst_39 : decode prog_14_method_67_code 39 = .ok (.istore_n 2, 1) := by decide +kernel
theorem dM_worst_40 : decode prog_14_method_67_code 40 = .ok (.iinc 3 (1), 3) := by decide +kernel
theorem dM_worst_43 : decode prog_14_method_67_code 43 = .ok (.goto (-39), 3) := by decide +kernel
theorem dM_worst_46 : decode prog_14_method_67_code 46 = .ok (.iload_n 2, 1) := by decide +kernel
theorem dM_worst_47 : decode prog_14_method_67_code 47 = .ok (.ireturn, 1) := by decide +kernel
theorem dM_mayGo_0 : decode prog_14_method_68_code 0 = .ok (.aload_n 0, 1) := by decide +kernel
theorem dM_mayGo_1 : decode prog_14_method_68_code 1 = .ok (.getfield 24, 3) := by decide +kernel
theorem dM_mayGo_4 : decode prog_14_method_68_code 4 = .ok (.iload_n 1, 1) := by decide +kernel
theorem dM_mayGo_5 : decode prog_14_method_68_code 5 = .ok (.iaload, 1) := by decide +kernel
theorem dM_mayGo_6 : decode prog_14_method_68_code 6 = .ok (.aload_n 0, 1) := by decide +kernel
theorem dM_mayGo_7 : decode prog_14_method_68_code 7 = .ok (.getfield 318, 3) := by decide +kernel
theorem dM_mayGo_10 : decode prog_14_method_68_code 10 = .ok (.iconst (-1), 1) := by decide +kernel
theorem dM_mayGo_11 : decode prog_14_method_68_code 11 = .ok (.ixor, 1) := by decide +kernel
theorem dM_mayGo_12 : decode prog_14_method_68_code 12 = .ok (.iand, 1) := by decide +kernel
theorem dM_mayGo_13 : decode prog_14_method_68_code 13 = .ok (.ifCond .ne (30), 3) := by decide +kernel
theorem dM_mayGo_16 : decode prog_14_method_68_code 16 = .ok (.aload_n 0, 1) := by decide +kernel
theorem dM_mayGo_17 : decode prog_14_method_68_code 17 = .ok (.aload_n 0, 1) := by decide +kernel
theorem dM_mayGo_18 : decode prog_14_method_68_code 18 = .ok (.getfield 24, 3) := by decide +kernel
theorem dM_mayGo_21 : decode prog_14_method_68_code 21 = .ok (.iload_n 1, 1) := by decide +kernel
theorem dM_mayGo_22 : decode prog_14_method_68_code 22 = .ok (.iaload, 1) := by decide +kernel
theorem dM_mayGo_23 : decode prog_14_method_68_code 23 = .ok (.invokevirtual 321, 3) := by decide +kernel
theorem dM_mayGo_26 : decode prog_14_method_68_code 26 = .ok (.aload_n 0, 1) := by decide +kernel
theorem dM_mayGo_27 : decode prog_14_method_68_code 27 = .ok (.getfield 33, 3) := by decide +kernel
theorem dM_mayGo_30 : decode prog_14_method_68_code 30 = .ok (.iconst (5), 1) := by decide +kernel
theorem dM_mayGo_31 : decode prog_14_method_68_code 31 = .ok (.iload_n 1, 1) := by decide +kernel
theorem dM_mayGo_32 : decode prog_14_method_68_code 32 = .ok (.imul, 1) := by decide +kernel
theorem dM_mayGo_33 : decode prog_14_method_68_code 33 = .ok (.iconst (3), 1) := by decide +kernel
theorem dM_mayGo_34 : decode prog_14_method_68_code 34 = .ok (.iadd, 1) := by decide +kernel
theorem dM_mayGo_35 : decode prog_14_method_68_code 35 = .ok (.iaload, 1) := by decide +kernel
theorem dM_mayGo_36 : decode prog_14_method_68_code 36 = .ok (.if_icmp .gt (7), 3) := by decide +kernel
theorem dM_mayGo_39 : decode prog_14_method_68_code 39 = .ok (.iconst (1), 1) := by decide +kernel
theorem dM_mayGo_40 : decode prog_14_method_68_code 40 = .ok (.goto (4), 3) := by decide +kernel
theorem dM_mayGo_43 : decode prog_14_method_68_code 43 = .ok (.iconst (0), 1) := by decide +kernel
theorem dM_mayGo_44 : decode prog_14_method_68_code 44 = .ok (.ireturn, 1) := by decide +kernel
theorem dM_goOne_0 : decode prog_14_method_69_code 0 = .ok (.aload_n 0, 1) := by decide +kernel
theorem dM_goOne_1 : decode prog_14_method_69_code 1 = .ok (.aload_n 0, 1) := by decide +kernel
theorem dM_goOne_2 : decode prog_14_method_69_code 2 = .ok (.getfield 24, 3) := by decide +kernel
theorem dM_goOne_5 : decode prog_14_method_69_code 5 = .ok (.iload_n 1, 1) := by decide +kernel
theorem dM_goOne_6 : decode prog_14_method_69_code 6 = .ok (.iaload, 1) := by decide +kernel
theorem dM_goOne_7 : decode prog_14_method_69_code 7 = .ok (.invokevirtual 321, 3) := by decide +kernel
theorem dM_goOne_10 : decode prog_14_method_69_code 10 = .ok (.istore_n 2, 1) := by decide +kernel
theorem dM_goOne_11 : decode prog_14_method_69_code 11 = .ok (.aload_n 0, 1) := by decide +kernel
theorem dM_goOne_12 : decode prog_14_method_69_code 12 = .ok (.aload_n 0, 1) := by decide +kernel
theorem dM_goOne_13 : decode prog_14_method_69_code 13 = .ok (.getfield 318, 3) := by decide +kernel
theorem dM_goOne_16 : decode prog_14_method_69_code 16 = .ok (.aload_n 0, 1) := by decide +kernel
theorem dM_goOne_17 : decode prog_14_method_69_code 17 = .ok (.getfield 30, 3) := by decide +kernel
theorem dM_goOne_20 : decode prog_14_method_69_code 20 = .ok (.iload_n 1, 1) := by decide +kernel
theorem dM_goOne_21 : decode prog_14_method_69_code 21 = .ok (.iaload, 1) := by decide +kernel
theorem dM_goOne_22 : decode prog_14_method_69_code 22 = .ok (.iconst (-1), 1) := by decide +kernel
theorem dM_goOne_23 : decode prog_14_method_69_code 23 = .ok (.ixor, 1) := by decide +kernel
theorem dM_goOne_24 : decode prog_14_method_69_code 24 = .ok (.iand, 1) := by decide +kernel
theorem dM_goOne_25 : decode prog_14_method_69_code 25 = .ok (.aload_n 0, 1) := by decide +kernel
theorem dM_goOne_26 : decode prog_14_method_69_code 26 = .ok (.getfield 27, 3) := by decide +kernel
theorem dM_goOne_29 : decode prog_14_method_69_code 29 = .ok (.iload_n 1, 1) := by decide +kernel
theorem dM_goOne_30 : decode prog_14_method_69_code 30 = .ok (.iaload, 1) := by decide +kernel
theorem dM_goOne_31 : decode prog_14_method_69_code 31 = .ok (.ior, 1) := by decide +kernel
theorem dM_goOne_32 : decode prog_14_method_69_code 32 = .ok (.putfield 318, 3) := by decide +kernel
theorem dM_goOne_35 : decode prog_14_method_69_code 35 = .ok (.iconst (0), 1) := by decide +kernel
theorem dM_goOne_36 : decode prog_14_method_69_code 36 = .ok (.istore_n 3, 1) := by decide +kernel
theorem dM_goOne_37 : decode prog_14_method_69_code 37 = .ok (.iload_n 3, 1) := by decide +kernel
theorem dM_goOne_38 : decode prog_14_method_69_code 38 = .ok (.bipush (12), 2) := by decide +kernel
theorem dM_goOne_40 : decode prog_14_method_69_code 40 = .ok (.if_icmp .ge (49), 3) := by decide +kernel
theorem dM_goOne_43 : decode prog_14_method_69_code 43 = .ok (.aload_n 0, 1) := by decide +kernel
theorem dM_goOne_44 : decode prog_14_method_69_code 44 = .ok (.getfield 27, 3) := by decide +kernel
theorem dM_goOne_47 : decode prog_14_method_69_code 47 = .ok (.iload_n 1, 1) := by decide +kernel
theorem dM_goOne_48 : decode prog_14_method_69_code 48 = .ok (.iaload, 1) := by decide +kernel
theorem dM_goOne_49 : decode prog_14_method_69_code 49 = .ok (.iload_n 3, 1) := by decide +kernel
theorem dM_goOne_50 : decode prog_14_method_69_code 50 = .ok (.ishr, 1) := by decide +kernel
theorem dM_goOne_51 : decode prog_14_method_69_code 51 = .ok (.iconst (1), 1) := by decide +kernel
theorem dM_goOne_52 : decode prog_14_method_69_code 52 = .ok (.iand, 1) := by decide +kernel
theorem dM_goOne_53 : decode prog_14_method_69_code 53 = .ok (.iconst (1), 1) := by decide +kernel
theorem dM_goOne_54 : decode prog_14_method_69_code 54 = .ok (.if_icmp .ne (29), 3) := by decide +kernel
theorem dM_goOne_57 : decode prog_14_method_69_code 57 = .ok (.aload_n 0, 1) := by decide +kernel
theorem dM_goOne_58 : decode prog_14_method_69_code 58 = .ok (.getfield 103, 3) := by decide +kernel
theorem dM_goOne_61 : decode prog_14_method_69_code 61 = .ok (.iload_n 3, 1) := by decide +kernel
theorem dM_goOne_62 : decode prog_14_method_69_code 62 = .ok (.aload_n 0, 1) := by decide +kernel
theorem dM_goOne_63 : decode prog_14_method_69_code 63 = .ok (.getfield 36, 3) := by decide +kernel
theorem dM_goOne_66 : decode prog_14_method_69_code 66 = .ok (.iload_n 3, 1) := by decide +kernel
theorem dM_goOne_67 : decode prog_14_method_69_code 67 = .ok (.iaload, 1) := by decide +kernel
theorem dM_goOne_68 : decode prog_14_method_69_code 68 = .ok (.iload_n 2, 1) := by decide +kernel
theorem dM_goOne_69 : decode prog_14_method_69_code 69 = .ok (.if_icmp .le (12), 3) := by decide +kernel
theorem dM_goOne_72 : decode prog_14_method_69_code 72 = .ok (.aload_n 0, 1) := by decide +kernel
theorem dM_goOne_73 : decode prog_14_method_69_code 73 = .ok (.getfield 36, 3) := by decide +kernel
theorem dM_goOne_76 : decode prog_14_method_69_code 76 = .ok (.iload_n 3, 1) := by decide +kernel
theorem dM_goOne_77 : decode prog_14_method_69_code 77 = .ok (.iaload, 1) := by decide +kernel
theorem dM_goOne_78 : decode prog_14_method_69_code 78 = .ok (.goto (4), 3) := by decide +kernel
theorem dM_goOne_81 : decode prog_14_method_69_code 81 = .ok (.iload_n 2, 1) := by decide +kernel
theorem dM_goOne_82 : decode prog_14_method_69_code 82 = .ok (.iastore, 1) := by decide +kernel
theorem dM_goOne_83 : decode prog_14_method_69_code 83 = .ok (.iinc 3 (1), 3) := by decide +kernel
theorem dM_goOne_86 : decode prog_14_method_69_code 86 = .ok (.goto (-49), 3) := by decide +kernel
theorem dM_goOne_89 : decode prog_14_method_69_code 89 = .ok (.return_, 1) := by decide +kernel
theorem dM_walkRow_0 : decode prog_14_method_70_code 0 = .ok (.aload_n 0, 1) := by decide +kernel
theorem dM_walkRow_1 : decode prog_14_method_70_code 1 = .ok (.iload_n 3, 1) := by decide +kernel
theorem dM_walkRow_2 : decode prog_14_method_70_code 2 = .ok (.invokevirtual 324, 3) := by decide +kernel
theorem dM_walkRow_5 : decode prog_14_method_70_code 5 = .ok (.iconst (0), 1) := by decide +kernel
theorem dM_walkRow_6 : decode prog_14_method_70_code 6 = .ok (.istore 4, 2) := by decide +kernel
theorem dM_walkRow_8 : decode prog_14_method_70_code 8 = .ok (.iload 4, 2) := by decide +kernel
theorem dM_walkRow_10 : decode prog_14_method_70_code 10 = .ok (.iload_n 2, 1) := by decide +kernel
theorem dM_walkRow_11 : decode prog_14_method_70_code 11 = .ok (.if_icmp .ge (89), 3) := by decide +kernel
theorem dM_walkRow_14 : decode prog_14_method_70_code 14 = .ok (.iconst (0), 1) := by decide +kernel
theorem dM_walkRow_15 : decode prog_14_method_70_code 15 = .ok (.istore 5, 2) := by decide +kernel
theorem dM_walkRow_17 : decode prog_14_method_70_code 17 = .ok (.iconst (0), 1) := by decide +kernel
theorem dM_walkRow_18 : decode prog_14_method_70_code 18 = .ok (.istore 6, 2) := by decide +kernel
theorem dM_walkRow_20 : decode prog_14_method_70_code 20 = .ok (.iload 6, 2) := by decide +kernel
theorem dM_walkRow_22 : decode prog_14_method_70_code 22 = .ok (.iload 4, 2) := by decide +kernel
theorem dM_walkRow_24 : decode prog_14_method_70_code 24 = .ok (.if_icmp .ge (30), 3) := by decide +kernel
theorem dM_walkRow_27 : decode prog_14_method_70_code 27 = .ok (.iload 5, 2) := by decide +kernel
theorem dM_walkRow_29 : decode prog_14_method_70_code 29 = .ok (.aload_n 1, 1) := by decide +kernel
theorem dM_walkRow_30 : decode prog_14_method_70_code 30 = .ok (.iload 6, 2) := by decide +kernel
theorem dM_walkRow_32 : decode prog_14_method_70_code 32 = .ok (.iaload, 1) := by decide +kernel
theorem dM_walkRow_33 : decode prog_14_method_70_code 33 = .ok (.aload_n 1, 1) := by decide +kernel
theorem dM_walkRow_34 : decode prog_14_method_70_code 34 = .ok (.iload 4, 2) := by decide +kernel
theorem dM_walkRow_36 : decode prog_14_method_70_code 36 = .ok (.iaload, 1) := by decide +kernel
theorem dM_walkRow_37 : decode prog_14_method_70_code 37 = .ok (.if_icmp .ne (7), 3) := by decide +kernel
theorem dM_walkRow_40 : decode prog_14_method_70_code 40 = .ok (.iconst (1), 1) := by decide +kernel
theorem dM_walkRow_41 : decode prog_14_method_70_code 41 = .ok (.goto (4), 3) := by decide +kernel
theorem dM_walkRow_44 : decode prog_14_method_70_code 44 = .ok (.iconst (0), 1) := by decide +kernel
theorem dM_walkRow_45 : decode prog_14_method_70_code 45 = .ok (.iadd, 1) := by decide +kernel
theorem dM_walkRow_46 : decode prog_14_method_70_code 46 = .ok (.istore 5, 2) := by decide +kernel
theorem dM_walkRow_48 : decode prog_14_method_70_code 48 = .ok (.iinc 6 (1), 3) := by decide +kernel
theorem dM_walkRow_51 : decode prog_14_method_70_code 51 = .ok (.goto (-31), 3) := by decide +kernel
theorem dM_walkRow_54 : decode prog_14_method_70_code 54 = .ok (.iload 5, 2) := by decide +kernel
theorem dM_walkRow_56 : decode prog_14_method_70_code 56 = .ok (.aload_n 0, 1) := by decide +kernel
theorem dM_walkRow_57 : decode prog_14_method_70_code 57 = .ok (.getfield 33, 3) := by decide +kernel
theorem dM_walkRow_60 : decode prog_14_method_70_code 60 = .ok (.iconst (5), 1) := by decide +kernel
theorem dM_walkRow_61 : decode prog_14_method_70_code 61 = .ok (.aload_n 1, 1) := by decide +kernel
theorem dM_walkRow_62 : decode prog_14_method_70_code 62 = .ok (.iload 4, 2) := by decide +kernel
theorem dM_walkRow_64 : decode prog_14_method_70_code 64 = .ok (.iaload, 1) := by decide +kernel
theorem dM_walkRow_65 : decode prog_14_method_70_code 65 = .ok (.imul, 1) := by decide +kernel
theorem dM_walkRow_66 : decode prog_14_method_70_code 66 = .ok (.iconst (2), 1) := by decide +kernel
theorem dM_walkRow_67 : decode prog_14_method_70_code 67 = .ok (.iadd, 1) := by decide +kernel
theorem dM_walkRow_68 : decode prog_14_method_70_code 68 = .ok (.iaload, 1) := by decide +kernel
theorem dM_walkRow_69 : decode prog_14_method_70_code 69 = .ok (.if_icmp .ge (14), 3) := by decide +kernel
theorem dM_walkRow_72 : decode prog_14_method_70_code 72 = .ok (.aload_n 0, 1) := by decide +kernel
theorem dM_walkRow_73 : decode prog_14_method_70_code 73 = .ok (.aload_n 1, 1) := by decide +kernel
theorem dM_walkRow_74 : decode prog_14_method_70_code 74 = .ok (.iload 4, 2) := by decide +kernel
theorem dM_walkRow_76 : decode prog_14_method_70_code 76 = .ok (.iaload, 1) := by decide +kernel
theorem dM_walkRow_77 : decode prog_14_method_70_code 77 = .ok (.invokevirtual 327, 3) := by decide +kernel
theorem dM_walkRow_80 : decode prog_14_method_70_code 80 = .ok (.ifCond .ne (6), 3) := by decide +kernel
theorem dM_walkRow_83 : decode prog_14_method_70_code 83 = .ok (.iload 4, 2) := by decide +kernel
theorem dM_walkRow_85 : decode prog_14_method_70_code 85 = .ok (.ireturn, 1) := by decide +kernel
theorem dM_walkRow_86 : decode prog_14_method_70_code 86 = .ok (.aload_n 0, 1) := by decide +kernel
theorem dM_walkRow_87 : decode prog_14_method_70_code 87 = .ok (.aload_n 1, 1) := by decide +kernel
theorem dM_walkRow_88 : decode prog_14_method_70_code 88 = .ok (.iload 4, 2) := by decide +kernel
theorem dM_walkRow_90 : decode prog_14_method_70_code 90 = .ok (.iaload, 1) := by decide +kernel
theorem dM_walkRow_91 : decode prog_14_method_70_code 91 = .ok (.invokevirtual 330, 3) := by decide +kernel
theorem dM_walkRow_94 : decode prog_14_method_70_code 94 = .ok (.iinc 4 (1), 3) := by decide +kernel
theorem dM_walkRow_97 : decode prog_14_method_70_code 97 = .ok (.goto (-89), 3) := by decide +kernel
theorem dM_walkRow_100 : decode prog_14_method_70_code 100 = .ok (.iconst (-1), 1) := by decide +kernel
theorem dM_walkRow_101 : decode prog_14_method_70_code 101 = .ok (.ireturn, 1) := by decide +kernel
theorem dM_stops_0 : decode prog_14_method_71_code 0 = .ok (.iload_n 1, 1) := by decide +kernel
theorem dM_stops_1 : decode prog_14_method_71_code 1 = .ok (.invokestatic 306, 3) := by decide +kernel
theorem dM_stops_4 : decode prog_14_method_71_code 4 = .ok (.ifCond .eq (19), 3) := by decide +kernel
theorem dM_stops_7 : decode prog_14_method_71_code 7 = .ok (.aload_n 0, 1) := by decide +kernel
theorem dM_stops_8 : decode prog_14_method_71_code 8 = .ok (.aload_n 0, 1) := by decide +kernel
theorem dM_stops_9 : decode prog_14_method_71_code 9 = .ok (.getfield 39, 3) := by decide +kernel
theorem dM_stops_12 : decode prog_14_method_71_code 12 = .ok (.aload_n 0, 1) := by decide +kernel
theorem dM_stops_13 : decode prog_14_method_71_code 13 = .ok (.getfield 315, 3) := by decide +kernel
theorem dM_stops_16 : decode prog_14_method_71_code 16 = .ok (.iload_n 1, 1) := by decide +kernel
theorem dM_stops_17 : decode prog_14_method_71_code 17 = .ok (.invokevirtual 333, 3) := by decide +kernel
theorem dM_stops_20 : decode prog_14_method_71_code 20 = .ok (.goto (5), 3) := by decide +kernel
theorem dM_stops_23 : decode prog_14_method_71_code 23 = .ok (.bipush (-102), 2) := by decide +kernel
theorem dM_stops_25 : decode prog_14_method_71_code 25 = .ok (.ireturn, 1) := by decide +kernel
theorem dC_goingRefusal_0 : decode prog_1_method_46_code 0 = .ok (.iload_n 1, 1) := by decide +kernel
theorem dC_goingRefusal_1 : decode prog_1_method_46_code 1 = .ok (.invokestatic 152, 3) := by decide +kernel
theorem dC_goingRefusal_4 : decode prog_1_method_46_code 4 = .ok (.ifCond .ne (6), 3) := by decide +kernel
theorem dC_goingRefusal_7 : decode prog_1_method_46_code 7 = .ok (.bipush (-102), 2) := by decide +kernel
theorem dC_goingRefusal_9 : decode prog_1_method_46_code 9 = .ok (.ireturn, 1) := by decide +kernel
theorem dC_goingRefusal_10 : decode prog_1_method_46_code 10 = .ok (.aload_n 0, 1) := by decide +kernel
theorem dC_goingRefusal_11 : decode prog_1_method_46_code 11 = .ok (.getfield 46, 3) := by decide +kernel
theorem dC_goingRefusal_14 : decode prog_1_method_46_code 14 = .ok (.iload_n 1, 1) := by decide +kernel
theorem dC_goingRefusal_15 : decode prog_1_method_46_code 15 = .ok (.invokevirtual 191, 3) := by decide +kernel
theorem dC_goingRefusal_18 : decode prog_1_method_46_code 18 = .ok (.iconst (-1), 1) := by decide +kernel
theorem dC_goingRefusal_19 : decode prog_1_method_46_code 19 = .ok (.if_icmp .ne (7), 3) := by decide +kernel
theorem dC_goingRefusal_22 : decode prog_1_method_46_code 22 = .ok (.iconst (0), 1) := by decide +kernel
theorem dC_goingRefusal_23 : decode prog_1_method_46_code 23 = .ok (.goto (5), 3) := by decide +kernel
theorem dC_goingRefusal_26 : decode prog_1_method_46_code 26 = .ok (.bipush (-103), 2) := by decide +kernel
theorem dC_goingRefusal_28 : decode prog_1_method_46_code 28 = .ok (.ireturn, 1) := by decide +kernel
theorem dRo_end_0 : decode prog_9_method_5_code 0 = .ok (.aload_n 0, 1) := by decide +kernel
theorem dRo_end_1 : decode prog_9_method_5_code 1 = .ok (.getfield 26, 3) := by decide +kernel
theorem dRo_end_4 : decode prog_9_method_5_code 4 = .ok (.aload_n 0, 1) := by decide +kernel
theorem dRo_end_5 : decode prog_9_method_5_code 5 = .ok (.getfield 45, 3) := by decide +kernel
theorem dRo_end_8 : decode prog_9_method_5_code 8 = .ok (.aaload, 1) := by decide +kernel
theorem dRo_end_9 : decode prog_9_method_5_code 9 = .ok (.areturn, 1) := by decide +kernel
theorem dC_after_0 : decode prog_1_method_25_code 0 = .ok (.aload_n 0, 1) := by decide +kernel
theorem dC_after_1 : decode prog_1_method_25_code 1 = .ok (.iload_n 1, 1) := by decide +kernel
theorem dC_after_2 : decode prog_1_method_25_code 2 = .ok (.invokevirtual 194, 3) := by decide +kernel
theorem dC_after_5 : decode prog_1_method_25_code 5 = .ok (.istore_n 2, 1) := by decide +kernel
theorem dC_after_6 : decode prog_1_method_25_code 6 = .ok (.iload_n 2, 1) := by decide +kernel
theorem dC_after_7 : decode prog_1_method_25_code 7 = .ok (.ifCond .eq (7), 3) := by decide +kernel
theorem dC_after_10 : decode prog_1_method_25_code 10 = .ok (.iload_n 2, 1) := by decide +kernel
theorem dC_after_11 : decode prog_1_method_25_code 11 = .ok (.goto (13), 3) := by decide +kernel
theorem dC_after_14 : decode prog_1_method_25_code 14 = .ok (.aload_n 0, 1) := by decide +kernel
theorem dC_after_15 : decode prog_1_method_25_code 15 = .ok (.getfield 46, 3) := by decide +kernel
theorem dC_after_18 : decode prog_1_method_25_code 18 = .ok (.invokevirtual 197, 3) := by decide +kernel
theorem dC_after_21 : decode prog_1_method_25_code 21 = .ok (.getfield 201, 3) := by decide +kernel
theorem dC_after_24 : decode prog_1_method_25_code 24 = .ok (.ireturn, 1) := by decide +kernel
theorem dM_after_0 : decode prog_14_method_72_code 0 = .ok (.iload_n 1, 1) := by decide +kernel
theorem dM_after_1 : decode prog_14_method_72_code 1 = .ok (.invokestatic 306, 3) := by decide +kernel
theorem dM_after_4 : decode prog_14_method_72_code 4 = .ok (.ifCond .ne (6), 3) := by decide +kernel
theorem dM_after_7 : decode prog_14_method_72_code 7 = .ok (.bipush (-102), 2) := by decide +kernel
theorem dM_after_9 : decode prog_14_method_72_code 9 = .ok (.ireturn, 1) := by decide +kernel
theorem dM_after_10 : decode prog_14_method_72_code 10 = .ok (.aload_n 0, 1) := by decide +kernel
theorem dM_after_11 : decode prog_14_method_72_code 11 = .ok (.aload_n 0, 1) := by decide +kernel
theorem dM_after_12 : decode prog_14_method_72_code 12 = .ok (.getfield 39, 3) := by decide +kernel
theorem dM_after_15 : decode prog_14_method_72_code 15 = .ok (.aload_n 0, 1) := by decide +kernel
theorem dM_after_16 : decode prog_14_method_72_code 16 = .ok (.getfield 315, 3) := by decide +kernel
theorem dM_after_19 : decode prog_14_method_72_code 19 = .ok (.iload_n 1, 1) := by decide +kernel
theorem dM_after_20 : decode prog_14_method_72_code 20 = .ok (.invokevirtual 333, 3) := by decide +kernel
theorem dM_after_23 : decode prog_14_method_72_code 23 = .ok (.iconst (-1), 1) := by decide +kernel
theorem dM_after_24 : decode prog_14_method_72_code 24 = .ok (.if_icmp .ne (10), 3) := by decide +kernel
theorem dM_after_27 : decode prog_14_method_72_code 27 = .ok (.aload_n 0, 1) := by decide +kernel
theorem dM_after_28 : decode prog_14_method_72_code 28 = .ok (.getfield 318, 3) := by decide +kernel
theorem dM_after_31 : decode prog_14_method_72_code 31 = .ok (.goto (5), 3) := by decide +kernel
theorem dM_after_34 : decode prog_14_method_72_code 34 = .ok (.bipush (-103), 2) := by decide +kernel
theorem dM_after_36 : decode prog_14_method_72_code 36 = .ok (.ireturn, 1) := by decide +kernel
theorem dC_taint_0 : decode prog_1_method_26_code 0 = .ok (.iload_n 2, 1) := by decide +kernel
theorem dC_taint_1 : decode prog_1_method_26_code 1 = .ok (.invokestatic 181, 3) := by decide +kernel
theorem dC_taint_4 : decode prog_1_method_26_code 4 = .ok (.ifCond .ne (6), 3) := by decide +kernel
theorem dC_taint_7 : decode prog_1_method_26_code 7 = .ok (.bipush (-101), 2) := by decide +kernel
theorem dC_taint_9 : decode prog_1_method_26_code 9 = .ok (.ireturn, 1) := by decide +kernel
theorem dC_taint_10 : decode prog_1_method_26_code 10 = .ok (.aload_n 0, 1) := by decide +kernel
theorem dC_taint_11 : decode prog_1_method_26_code 11 = .ok (.iload_n 1, 1) := by decide +kernel
theorem dC_taint_12 : decode prog_1_method_26_code 12 = .ok (.invokevirtual 194, 3) := by decide +kernel
theorem dC_taint_15 : decode prog_1_method_26_code 15 = .ok (.istore_n 3, 1) := by decide +kernel
theorem dC_taint_16 : decode prog_1_method_26_code 16 = .ok (.iload_n 3, 1) := by decide +kernel
theorem dC_taint_17 : decode prog_1_method_26_code 17 = .ok (.ifCond .eq (5), 3) := by decide +kernel
theorem dC_taint_20 : decode prog_1_method_26_code 20 = .ok (.iload_n 3, 1) := by decide +kernel
theorem dC_taint_21 : decode prog_1_method_26_code 21 = .ok (.ireturn, 1) := by decide +kernel
theorem dC_taint_22 : decode prog_1_method_26_code 22 = .ok (.aload_n 0, 1) := by decide +kernel
theorem dC_taint_23 : decode prog_1_method_26_code 23 = .ok (.getfield 46, 3) := by decide +kernel
theorem dC_taint_26 : decode prog_1_method_26_code 26 = .ok (.invokevirtual 197, 3) := by decide +kernel
theorem dC_taint_29 : decode prog_1_method_26_code 29 = .ok (.astore 4, 2) := by decide +kernel
theorem dC_taint_31 : decode prog_1_method_26_code 31 = .ok (.aload 4, 2) := by decide +kernel
theorem dC_taint_33 : decode prog_1_method_26_code 33 = .ok (.getfield 201, 3) := by decide +kernel
theorem dC_taint_36 : decode prog_1_method_26_code 36 = .ok (.iload_n 2, 1) := by decide +kernel
theorem dC_taint_37 : decode prog_1_method_26_code 37 = .ok (.invokestatic 206, 3) := by decide +kernel
theorem dC_taint_40 : decode prog_1_method_26_code 40 = .ok (.ifCond .eq (13), 3) := by decide +kernel
theorem dC_taint_43 : decode prog_1_method_26_code 43 = .ok (.aload 4, 2) := by decide +kernel
theorem dC_taint_45 : decode prog_1_method_26_code 45 = .ok (.getfield 209, 3) := by decide +kernel
theorem dC_taint_48 : decode prog_1_method_26_code 48 = .ok (.iload_n 2, 1) := by decide +kernel
theorem dC_taint_49 : decode prog_1_method_26_code 49 = .ok (.iaload, 1) := by decide +kernel
theorem dC_taint_50 : decode prog_1_method_26_code 50 = .ok (.goto (4), 3) := by decide +kernel
theorem dC_taint_53 : decode prog_1_method_26_code 53 = .ok (.iconst (-1), 1) := by decide +kernel
theorem dC_taint_54 : decode prog_1_method_26_code 54 = .ok (.ireturn, 1) := by decide +kernel
theorem dM_taint_0 : decode prog_14_method_73_code 0 = .ok (.iload_n 2, 1) := by decide +kernel
theorem dM_taint_1 : decode prog_14_method_73_code 1 = .ok (.iconst (0), 1) := by decide +kernel
theorem dM_taint_2 : decode prog_14_method_73_code 2 = .ok (.bipush (11), 2) := by decide +kernel
theorem dM_taint_4 : decode prog_14_method_73_code 4 = .ok (.invokestatic 148, 3) := by decide +kernel
theorem dM_taint_7 : decode prog_14_method_73_code 7 = .ok (.ifCond .ne (6), 3) := by decide +kernel
theorem dM_taint_10 : decode prog_14_method_73_code 10 = .ok (.bipush (-101), 2) := by decide +kernel
theorem dM_taint_12 : decode prog_14_method_73_code 12 = .ok (.ireturn, 1) := by decide +kernel
theorem dM_taint_13 : decode prog_14_method_73_code 13 = .ok (.iload_n 1, 1) := by decide +kernel
theorem dM_taint_14 : decode prog_14_method_73_code 14 = .ok (.invokestatic 306, 3) := by decide +kernel
theorem dM_taint_17 : decode prog_14_method_73_code 17 = .ok (.ifCond .ne (6), 3) := by decide +kernel
theorem dM_taint_20 : decode prog_14_method_73_code 20 = .ok (.bipush (-102), 2) := by decide +kernel
theorem dM_taint_22 : decode prog_14_method_73_code 22 = .ok (.ireturn, 1) := by decide +kernel
theorem dM_taint_23 : decode prog_14_method_73_code 23 = .ok (.aload_n 0, 1) := by decide +kernel
theorem dM_taint_24 : decode prog_14_method_73_code 24 = .ok (.aload_n 0, 1) := by decide +kernel
theorem dM_taint_25 : decode prog_14_method_73_code 25 = .ok (.getfield 39, 3) := by decide +kernel
theorem dM_taint_28 : decode prog_14_method_73_code 28 = .ok (.aload_n 0, 1) := by decide +kernel
theorem dM_taint_29 : decode prog_14_method_73_code 29 = .ok (.getfield 315, 3) := by decide +kernel
theorem dM_taint_32 : decode prog_14_method_73_code 32 = .ok (.iload_n 1, 1) := by decide +kernel
theorem dM_taint_33 : decode prog_14_method_73_code 33 = .ok (.invokevirtual 333, 3) := by decide +kernel
theorem dM_taint_36 : decode prog_14_method_73_code 36 = .ok (.iconst (-1), 1) := by decide +kernel
theorem dM_taint_37 : decode prog_14_method_73_code 37 = .ok (.if_icmp .eq (6), 3) := by decide +kernel
theorem dM_taint_40 : decode prog_14_method_73_code 40 = .ok (.bipush (-103), 2) := by decide +kernel
theorem dM_taint_42 : decode prog_14_method_73_code 42 = .ok (.ireturn, 1) := by decide +kernel
theorem dM_taint_43 : decode prog_14_method_73_code 43 = .ok (.aload_n 0, 1) := by decide +kernel
theorem dM_taint_44 : decode prog_14_method_73_code 44 = .ok (.getfield 318, 3) := by decide +kernel
theorem dM_taint_47 : decode prog_14_method_73_code 47 = .ok (.iload_n 2, 1) := by decide +kernel
theorem dM_taint_48 : decode prog_14_method_73_code 48 = .ok (.ishr, 1) := by decide +kernel
theorem dM_taint_49 : decode prog_14_method_73_code 49 = .ok (.iconst (1), 1) := by decide +kernel
theorem dM_taint_50 : decode prog_14_method_73_code 50 = .ok (.iand, 1) := by decide +kernel
theorem dM_taint_51 : decode prog_14_method_73_code 51 = .ok (.iconst (1), 1) := by decide +kernel
theorem dM_taint_52 : decode prog_14_method_73_code 52 = .ok (.if_icmp .ne (12), 3) := by decide +kernel
theorem dM_taint_55 : decode prog_14_method_73_code 55 = .ok (.aload_n 0, 1) := by decide +kernel
theorem dM_taint_56 : decode prog_14_method_73_code 56 = .ok (.getfield 103, 3) := by decide +kernel
theorem dM_taint_59 : decode prog_14_method_73_code 59 = .ok (.iload_n 2, 1) := by decide +kernel
theorem dM_taint_60 : decode prog_14_method_73_code 60 = .ok (.iaload, 1) := by decide +kernel
theorem dM_taint_61 : decode prog_14_method_73_code 61 = .ok (.goto (4), 3) := by decide +kernel
theorem dM_taint_64 : decode prog_14_method_73_code 64 = .ok (.iconst (-1), 1) := by decide +kernel
theorem dM_taint_65 : decode prog_14_method_73_code 65 = .ok (.ireturn, 1) := by decide +kernel
theorem dRo_sumOfPrices_0 : decode prog_9_method_6_code 0 = .ok (.iconst (0), 1) := by decide +kernel
theorem dRo_sumOfPrices_1 : decode prog_9_method_6_code 1 = .ok (.istore_n 1, 1) := by decide +kernel
theorem dRo_sumOfPrices_2 : decode prog_9_method_6_code 2 = .ok (.iconst (0), 1) := by decide +kernel
theorem dRo_sumOfPrices_3 : decode prog_9_method_6_code 3 = .ok (.istore_n 2, 1) := by decide +kernel
theorem dRo_sumOfPrices_4 : decode prog_9_method_6_code 4 = .ok (.iload_n 2, 1) := by decide +kernel
theorem dRo_sumOfPrices_5 : decode prog_9_method_6_code 5 = .ok (.aload_n 0, 1) := by decide +kernel
theorem dRo_sumOfPrices_6 : decode prog_9_method_6_code 6 = .ok (.getfield 45, 3) := by decide +kernel
theorem dRo_sumOfPrices_9 : decode prog_9_method_6_code 9 = .ok (.if_icmp .ge (22), 3) := by decide +kernel
theorem dRo_sumOfPrices_12 : decode prog_9_method_6_code 12 = .ok (.iload_n 1, 1) := by decide +kernel
theorem dRo_sumOfPrices_13 : decode prog_9_method_6_code 13 = .ok (.aload_n 0, 1) := by decide +kernel
theorem dRo_sumOfPrices_14 : decode prog_9_method_6_code 14 = .ok (.iload_n 2, 1) := by decide +kernel
theorem dRo_sumOfPrices_15 : decode prog_9_method_6_code 15 = .ok (.invokevirtual 48, 3) := by decide +kernel
theorem dRo_sumOfPrices_18 : decode prog_9_method_6_code 18 = .ok (.getfield 52, 3) := by decide +kernel
theorem dRo_sumOfPrices_21 : decode prog_9_method_6_code 21 = .ok (.iconst (0), 1) := by decide +kernel
theorem dRo_sumOfPrices_22 : decode prog_9_method_6_code 22 = .ok (.iaload, 1) := by decide +kernel
theorem dRo_sumOfPrices_23 : decode prog_9_method_6_code 23 = .ok (.iadd, 1) := by decide +kernel
theorem dRo_sumOfPrices_24 : decode prog_9_method_6_code 24 = .ok (.istore_n 1, 1) := by decide +kernel
theorem dRo_sumOfPrices_25 : decode prog_9_method_6_code 25 = .ok (.iinc 2 (1), 3) := by decide +kernel
theorem dRo_sumOfPrices_28 : decode prog_9_method_6_code 28 = .ok (.goto (-24), 3) := by decide +kernel
theorem dRo_sumOfPrices_31 : decode prog_9_method_6_code 31 = .ok (.iload_n 1, 1) := by decide +kernel
theorem dRo_sumOfPrices_32 : decode prog_9_method_6_code 32 = .ok (.ireturn, 1) := by decide +kernel
theorem dC_costs_0 : decode prog_1_method_27_code 0 = .ok (.aload_n 0, 1) := by decide +kernel
theorem dC_costs_1 : decode prog_1_method_27_code 1 = .ok (.getfield 46, 3) := by decide +kernel
theorem dC_costs_4 : decode prog_1_method_27_code 4 = .ok (.invokevirtual 212, 3) := by decide +kernel
theorem dC_costs_7 : decode prog_1_method_27_code 7 = .ok (.ireturn, 1) := by decide +kernel
theorem dM_pricesOf_0 : decode prog_14_method_74_code 0 = .ok (.iconst (0), 1) := by decide +kernel
theorem dM_pricesOf_1 : decode prog_14_method_74_code 1 = .ok (.istore_n 3, 1) := by decide +kernel
theorem dM_pricesOf_2 : decode prog_14_method_74_code 2 = .ok (.iconst (0), 1) := by decide +kernel
theorem dM_pricesOf_3 : decode prog_14_method_74_code 3 = .ok (.istore 4, 2) := by decide +kernel
theorem dM_pricesOf_5 : decode prog_14_method_74_code 5 = .ok (.iload 4, 2) := by decide +kernel
theorem dM_pricesOf_7 : decode prog_14_method_74_code 7 = .ok (.iload_n 2, 1) := by decide +kernel
theorem dM_pricesOf_8 : decode prog_14_method_74_code 8 = .ok (.if_icmp .ge (23), 3) := by decide +kernel
theorem dM_pricesOf_11 : decode prog_14_method_74_code 11 = .ok (.iload_n 3, 1) := by decide +kernel
theorem dM_pricesOf_12 : decode prog_14_method_74_code 12 = .ok (.aload_n 0, 1) := by decide +kernel
theorem dM_pricesOf_13 : decode prog_14_method_74_code 13 = .ok (.getfield 33, 3) := by decide +kernel
theorem dM_pricesOf_16 : decode prog_14_method_74_code 16 = .ok (.iconst (5), 1) := by decide +kernel
theorem dM_pricesOf_17 : decode prog_14_method_74_code 17 = .ok (.aload_n 1, 1) := by decide +kernel
theorem dM_pricesOf_18 : decode prog_14_method_74_code 18 = .ok (.iload 4, 2) := by decide +kernel
theorem dM_pricesOf_20 : decode prog_14_method_74_code 20 = .ok (.iaload, 1) := by decide +kernel
theorem dM_pricesOf_21 : decode prog_14_method_74_code 21 = .ok (.imul, 1) := by decide +kernel
theorem dM_pricesOf_22 : decode prog_14_method_74_code 22 = .ok (.iaload, 1) := by decide +kernel
theorem dM_pricesOf_23 : decode prog_14_method_74_code 23 = .ok (.iadd, 1) := by decide +kernel
theorem dM_pricesOf_24 : decode prog_14_method_74_code 24 = .ok (.istore_n 3, 1) := by decide +kernel
theorem dM_pricesOf_25 : decode prog_14_method_74_code 25 = .ok (.iinc 4 (1), 3) := by decide +kernel
theorem dM_pricesOf_28 : decode prog_14_method_74_code 28 = .ok (.goto (-23), 3) := by decide +kernel
theorem dM_pricesOf_31 : decode prog_14_method_74_code 31 = .ok (.iload_n 3, 1) := by decide +kernel
theorem dM_pricesOf_32 : decode prog_14_method_74_code 32 = .ok (.ireturn, 1) := by decide +kernel
theorem dM_costs_0 : decode prog_14_method_75_code 0 = .ok (.aload_n 0, 1) := by decide +kernel
theorem dM_costs_1 : decode prog_14_method_75_code 1 = .ok (.aload_n 0, 1) := by decide +kernel
theorem dM_costs_2 : decode prog_14_method_75_code 2 = .ok (.getfield 39, 3) := by decide +kernel
theorem dM_costs_5 : decode prog_14_method_75_code 5 = .ok (.aload_n 0, 1) := by decide +kernel
theorem dM_costs_6 : decode prog_14_method_75_code 6 = .ok (.getfield 315, 3) := by decide +kernel
theorem dM_costs_9 : decode prog_14_method_75_code 9 = .ok (.invokevirtual 337, 3) := by decide +kernel
theorem dM_costs_12 : decode prog_14_method_75_code 12 = .ok (.ireturn, 1) := by decide +kernel
theorem dRo_tryFrom_0 : decode prog_9_method_10_code 0 = .ok (.aload_n 0, 1) := by decide +kernel
theorem dRo_tryFrom_1 : decode prog_9_method_10_code 1 = .ok (.getfield 81, 3) := by decide +kernel
theorem dRo_tryFrom_4 : decode prog_9_method_10_code 4 = .ok (.iconst (-1), 1) := by decide +kernel
theorem dRo_tryFrom_5 : decode prog_9_method_10_code 5 = .ok (.if_icmp .eq (28), 3) := by decide +kernel
theorem dRo_tryFrom_8 : decode prog_9_method_10_code 8 = .ok (.iload_n 2, 1) := by decide +kernel
theorem dRo_tryFrom_9 : decode prog_9_method_10_code 9 = .ok (.aload_n 0, 1) := by decide +kernel
theorem dRo_tryFrom_10 : decode prog_9_method_10_code 10 = .ok (.getfield 93, 3) := by decide +kernel
theorem dRo_tryFrom_13 : decode prog_9_method_10_code 13 = .ok (.if_icmp .gt (19), 3) := by decide +kernel
theorem dRo_tryFrom_16 : decode prog_9_method_10_code 16 = .ok (.iload_n 2, 1) := by decide +kernel
theorem dRo_tryFrom_17 : decode prog_9_method_10_code 17 = .ok (.aload_n 0, 1) := by decide +kernel
theorem dRo_tryFrom_18 : decode prog_9_method_10_code 18 = .ok (.getfield 93, 3) := by decide +kernel
theorem dRo_tryFrom_21 : decode prog_9_method_10_code 21 = .ok (.if_icmp .ne (12), 3) := by decide +kernel
theorem dRo_tryFrom_24 : decode prog_9_method_10_code 24 = .ok (.iload_n 1, 1) := by decide +kernel
theorem dRo_tryFrom_25 : decode prog_9_method_10_code 25 = .ok (.aload_n 0, 1) := by decide +kernel
theorem dRo_tryFrom_26 : decode prog_9_method_10_code 26 = .ok (.getfield 81, 3) := by decide +kernel
theorem dRo_tryFrom_29 : decode prog_9_method_10_code 29 = .ok (.if_icmp .lt (4), 3) := by decide +kernel
theorem dRo_tryFrom_32 : decode prog_9_method_10_code 32 = .ok (.return_, 1) := by decide +kernel
theorem dRo_tryFrom_33 : decode prog_9_method_10_code 33 = .ok (.aload_n 0, 1) := by decide +kernel
theorem dRo_tryFrom_34 : decode prog_9_method_10_code 34 = .ok (.getfield 75, 3) := by decide +kernel
theorem dRo_tryFrom_37 : decode prog_9_method_10_code 37 = .ok (.aload_n 0, 1) := by decide +kernel
theorem dRo_tryFrom_38 : decode prog_9_method_10_code 38 = .ok (.getfield 26, 3) := by decide +kernel
theorem dRo_tryFrom_41 : decode prog_9_method_10_code 41 = .ok (.iload_n 1, 1) := by decide +kernel
theorem dRo_tryFrom_42 : decode prog_9_method_10_code 42 = .ok (.aaload, 1) := by decide +kernel
theorem dRo_tryFrom_43 : decode prog_9_method_10_code 43 = .ok (.getfield 96, 3) := by decide +kernel
theorem dRo_tryFrom_46 : decode prog_9_method_10_code 46 = .ok (.iconst (-1), 1) := by decide +kernel
theorem dRo_tryFrom_47 : decode prog_9_method_10_code 47 = .ok (.ixor, 1) := by decide +kernel
theorem dRo_tryFrom_48 : decode prog_9_method_10_code 48 = .ok (.iand, 1) := by decide +kernel
theorem dRo_tryFrom_49 : decode prog_9_method_10_code 49 = .ok (.ifCond .ne (28), 3) := by decide +kernel
theorem dRo_tryFrom_52 : decode prog_9_method_10_code 52 = .ok (.aload_n 0, 1) := by decide +kernel
theorem dRo_tryFrom_53 : decode prog_9_method_10_code 53 = .ok (.getfield 35, 3) := by decide +kernel
theorem dRo_tryFrom_56 : decode prog_9_method_10_code 56 = .ok (.iconst (0), 1) := by decide +kernel
theorem dRo_tryFrom_57 : decode prog_9_method_10_code 57 = .ok (.aload_n 0, 1) := by decide +kernel
theorem dRo_tryFrom_58 : decode prog_9_method_10_code 58 = .ok (.getfield 38, 3) := by decide +kernel
theorem dRo_tryFrom_61 : decode prog_9_method_10_code 61 = .ok (.iconst (0), 1) := by decide +kernel
theorem dRo_tryFrom_62 : decode prog_9_method_10_code 62 = .ok (.iload_n 1, 1) := by decide +kernel
theorem dRo_tryFrom_63 : decode prog_9_method_10_code 63 = .ok (.invokestatic 87, 3) := by decide +kernel
theorem dRo_tryFrom_66 : decode prog_9_method_10_code 66 = .ok (.aload_n 0, 1) := by decide +kernel
theorem dRo_tryFrom_67 : decode prog_9_method_10_code 67 = .ok (.iload_n 1, 1) := by decide +kernel
theorem dRo_tryFrom_68 : decode prog_9_method_10_code 68 = .ok (.putfield 81, 3) := by decide +kernel
theorem dRo_tryFrom_71 : decode prog_9_method_10_code 71 = .ok (.aload_n 0, 1) := by decide +kernel
theorem dRo_tryFrom_72 : decode prog_9_method_10_code 72 = .ok (.iload_n 2, 1) := by decide +kernel
theorem dRo_tryFrom_73 : decode prog_9_method_10_code 73 = .ok (.putfield 93, 3) := by decide +kernel
theorem dRo_tryFrom_76 : decode prog_9_method_10_code 76 = .ok (.return_, 1) := by decide +kernel
theorem dRo_tryFrom_77 : decode prog_9_method_10_code 77 = .ok (.iconst (0), 1) := by decide +kernel
theorem dRo_tryFrom_78 : decode prog_9_method_10_code 78 = .ok (.istore_n 3, 1) := by decide +kernel
theorem dRo_tryFrom_79 : decode prog_9_method_10_code 79 = .ok (.iload_n 3, 1) := by decide +kernel
theorem dRo_tryFrom_80 : decode prog_9_method_10_code 80 = .ok (.aload_n 0, 1) := by decide +kernel
theorem dRo_tryFrom_81 : decode prog_9_method_10_code 81 = .ok (.getfield 41, 3) := by decide +kernel
theorem dRo_tryFrom_84 : decode prog_9_method_10_code 84 = .ok (.if_icmp .ge (69), 3) := by decide +kernel
theorem dRo_tryFrom_87 : decode prog_9_method_10_code 87 = .ok (.iload_n 1, 1) := by decide +kernel
theorem dRo_tryFrom_88 : decode prog_9_method_10_code 88 = .ok (.aload_n 0, 1) := by decide +kernel
theorem dRo_tryFrom_89 : decode prog_9_method_10_code 89 = .ok (.getfield 78, 3) := by decide +kernel
theorem dRo_tryFrom_92 : decode prog_9_method_10_code 92 = .ok (.if_icmp .ge (61), 3) := by decide +kernel
theorem dRo_tryFrom_95 : decode prog_9_method_10_code 95 = .ok (.aload_n 0, 1) := by decide +kernel
theorem dRo_tryFrom_96 : decode prog_9_method_10_code 96 = .ok (.getfield 26, 3) := by decide +kernel
theorem dRo_tryFrom_99 : decode prog_9_method_10_code 99 = .ok (.iload_n 1, 1) := by decide +kernel
theorem dRo_tryFrom_100 : decode prog_9_method_10_code 100 = .ok (.aaload, 1) := by decide +kernel
theorem dRo_tryFrom_101 : decode prog_9_method_10_code 101 = .ok (.aload_n 0, 1) := by decide +kernel
theorem dRo_tryFrom_102 : decode prog_9_method_10_code 102 = .ok (.getfield 11, 3) := by decide +kernel
theorem dRo_tryFrom_105 : decode prog_9_method_10_code 105 = .ok (.iload_n 3, 1) := by decide +kernel
theorem dRo_tryFrom_106 : decode prog_9_method_10_code 106 = .ok (.aaload, 1) := by decide +kernel
theorem dRo_tryFrom_107 : decode prog_9_method_10_code 107 = .ok (.iload_n 3, 1) := by decide +kernel
theorem dRo_tryFrom_108 : decode prog_9_method_10_code 108 = .ok (.invokevirtual 59, 3) := by decide +kernel
theorem dRo_tryFrom_111 : decode prog_9_method_10_code 111 = .ok (.ifCond .eq (36), 3) := by decide +kernel
theorem dRo_tryFrom_114 : decode prog_9_method_10_code 114 = .ok (.aload_n 0, 1) := by decide +kernel
theorem dRo_tryFrom_115 : decode prog_9_method_10_code 115 = .ok (.getfield 35, 3) := by decide +kernel
theorem dRo_tryFrom_118 : decode prog_9_method_10_code 118 = .ok (.iload_n 1, 1) := by decide +kernel
theorem dRo_tryFrom_119 : decode prog_9_method_10_code 119 = .ok (.iload_n 3, 1) := by decide +kernel
theorem dRo_tryFrom_120 : decode prog_9_method_10_code 120 = .ok (.iastore, 1) := by decide +kernel
theorem dRo_tryFrom_121 : decode prog_9_method_10_code 121 = .ok (.aload_n 0, 1) := by decide +kernel
theorem dRo_tryFrom_122 : decode prog_9_method_10_code 122 = .ok (.iload_n 1, 1) := by decide +kernel
theorem dRo_tryFrom_123 : decode prog_9_method_10_code 123 = .ok (.iload_n 3, 1) := by decide +kernel
theorem dRo_tryFrom_124 : decode prog_9_method_10_code 124 = .ok (.invokevirtual 63, 3) := by decide +kernel
theorem dRo_tryFrom_127 : decode prog_9_method_10_code 127 = .ok (.aload_n 0, 1) := by decide +kernel
theorem dRo_tryFrom_128 : decode prog_9_method_10_code 128 = .ok (.iload_n 1, 1) := by decide +kernel
theorem dRo_tryFrom_129 : decode prog_9_method_10_code 129 = .ok (.iconst (1), 1) := by decide +kernel
theorem dRo_tryFrom_130 : decode prog_9_method_10_code 130 = .ok (.iadd, 1) := by decide +kernel
theorem dRo_tryFrom_131 : decode prog_9_method_10_code 131 = .ok (.iload_n 2, 1) := by decide +kernel
theorem dRo_tryFrom_132 : decode prog_9_method_10_code 132 = .ok (.aload_n 0, 1) := by decide +kernel
theorem dRo_tryFrom_133 : decode prog_9_method_10_code 133 = .ok (.getfield 11, 3) := by decide +kernel
theorem dRo_tryFrom_136 : decode prog_9_method_10_code 136 = .ok (.iload_n 3, 1) := by decide +kernel
theorem dRo_tryFrom_137 : decode prog_9_method_10_code 137 = .ok (.aaload, 1) := by decide +kernel
theorem dRo_tryFrom_138 : decode prog_9_method_10_code 138 = .ok (.getfield 52, 3) := by decide +kernel
theorem dRo_tryFrom_141 : decode prog_9_method_10_code 141 = .ok (.iconst (0), 1) := by decide +kernel
theorem dRo_tryFrom_142 : decode prog_9_method_10_code 142 = .ok (.iaload, 1) := by decide +kernel
theorem dRo_tryFrom_143 : decode prog_9_method_10_code 143 = .ok (.iadd, 1) := by decide +kernel
theorem dRo_tryFrom_144 : decode prog_9_method_10_code 144 = .ok (.invokevirtual 84, 3) := by decide +kernel
theorem dRo_tryFrom_147 : decode prog_9_method_10_code 147 = .ok (.iinc 3 (1), 3) := by decide +kernel
theorem dRo_tryFrom_150 : decode prog_9_method_10_code 150 = .ok (.goto (-71), 3) := by decide +kernel
theorem dRo_tryFrom_153 : decode prog_9_method_10_code 153 = .ok (.return_, 1) := by decide +kernel
theorem dRo_becomeBest_0 : decode prog_9_method_9_code 0 = .ok (.aload_n 0, 1) := by decide +kernel
theorem dRo_becomeBest_1 : decode prog_9_method_9_code 1 = .ok (.iload_n 2, 1) := by decide +kernel
theorem dRo_becomeBest_2 : decode prog_9_method_9_code 2 = .ok (.putfield 75, 3) := by decide +kernel
theorem dRo_becomeBest_5 : decode prog_9_method_9_code 5 = .ok (.aload_n 0, 1) := by decide +kernel
theorem dRo_becomeBest_6 : decode prog_9_method_9_code 6 = .ok (.iload_n 3, 1) := by decide +kernel
theorem dRo_becomeBest_7 : decode prog_9_method_9_code 7 = .ok (.putfield 78, 3) := by decide +kernel
theorem dRo_becomeBest_10 : decode prog_9_method_9_code 10 = .ok (.aload_n 0, 1) := by decide +kernel
theorem dRo_becomeBest_11 : decode prog_9_method_9_code 11 = .ok (.iconst (-1), 1) := by decide +kernel
theorem dRo_becomeBest_12 : decode prog_9_method_9_code 12 = .ok (.putfield 81, 3) := by decide +kernel
theorem dRo_becomeBest_15 : decode prog_9_method_9_code 15 = .ok (.aload_n 0, 1) := by decide +kernel
theorem dRo_becomeBest_16 : decode prog_9_method_9_code 16 = .ok (.getfield 26, 3) := by decide +kernel
theorem dRo_becomeBest_19 : decode prog_9_method_9_code 19 = .ok (.iconst (0), 1) := by decide +kernel
theorem dRo_becomeBest_20 : decode prog_9_method_9_code 20 = .ok (.aaload, 1) := by decide +kernel
theorem dRo_becomeBest_21 : decode prog_9_method_9_code 21 = .ok (.iload_n 1, 1) := by decide +kernel
theorem dRo_becomeBest_22 : decode prog_9_method_9_code 22 = .ok (.aload_n 0, 1) := by decide +kernel
theorem dRo_becomeBest_23 : decode prog_9_method_9_code 23 = .ok (.getfield 17, 3) := by decide +kernel
theorem dRo_becomeBest_26 : decode prog_9_method_9_code 26 = .ok (.invokevirtual 55, 3) := by decide +kernel
theorem dRo_becomeBest_29 : decode prog_9_method_9_code 29 = .ok (.aload_n 0, 1) := by decide +kernel
theorem dRo_becomeBest_30 : decode prog_9_method_9_code 30 = .ok (.iconst (0), 1) := by decide +kernel
theorem dRo_becomeBest_31 : decode prog_9_method_9_code 31 = .ok (.iconst (0), 1) := by decide +kernel
theorem dRo_becomeBest_32 : decode prog_9_method_9_code 32 = .ok (.invokevirtual 84, 3) := by decide +kernel
theorem dRo_becomeBest_35 : decode prog_9_method_9_code 35 = .ok (.aload_n 0, 1) := by decide +kernel
theorem dRo_becomeBest_36 : decode prog_9_method_9_code 36 = .ok (.getfield 81, 3) := by decide +kernel
theorem dRo_becomeBest_39 : decode prog_9_method_9_code 39 = .ok (.iconst (-1), 1) := by decide +kernel
theorem dRo_becomeBest_40 : decode prog_9_method_9_code 40 = .ok (.if_icmp .ne (5), 3) := by decide +kernel
theorem dRo_becomeBest_43 : decode prog_9_method_9_code 43 = .ok (.iconst (-1), 1) := by decide +kernel
theorem dRo_becomeBest_44 : decode prog_9_method_9_code 44 = .ok (.ireturn, 1) := by decide +kernel
theorem dRo_becomeBest_45 : decode prog_9_method_9_code 45 = .ok (.aload_n 0, 1) := by decide +kernel
theorem dRo_becomeBest_46 : decode prog_9_method_9_code 46 = .ok (.getfield 38, 3) := by decide +kernel
theorem dRo_becomeBest_49 : decode prog_9_method_9_code 49 = .ok (.iconst (0), 1) := by decide +kernel
theorem dRo_becomeBest_50 : decode prog_9_method_9_code 50 = .ok (.aload_n 0, 1) := by decide +kernel
theorem dRo_becomeBest_51 : decode prog_9_method_9_code 51 = .ok (.getfield 21, 3) := by decide +kernel
theorem dRo_becomeBest_54 : decode prog_9_method_9_code 54 = .ok (.iconst (0), 1) := by decide +kernel
theorem dRo_becomeBest_55 : decode prog_9_method_9_code 55 = .ok (.aload_n 0, 1) := by decide +kernel
theorem dRo_becomeBest_56 : decode prog_9_method_9_code 56 = .ok (.getfield 81, 3) := by decide +kernel
theorem dRo_becomeBest_59 : decode prog_9_method_9_code 59 = .ok (.invokestatic 87, 3) := by decide +kernel
theorem dRo_becomeBest_62 : decode prog_9_method_9_code 62 = .ok (.aload_n 0, 1) := by decide +kernel
theorem dRo_becomeBest_63 : decode prog_9_method_9_code 63 = .ok (.aload_n 0, 1) := by decide +kernel
theorem dRo_becomeBest_64 : decode prog_9_method_9_code 64 = .ok (.getfield 81, 3) := by decide +kernel
theorem dRo_becomeBest_67 : decode prog_9_method_9_code 67 = .ok (.putfield 45, 3) := by decide +kernel
theorem dRo_becomeBest_70 : decode prog_9_method_9_code 70 = .ok (.aload_n 0, 1) := by decide +kernel
theorem dRo_becomeBest_71 : decode prog_9_method_9_code 71 = .ok (.getfield 93, 3) := by decide +kernel
theorem dRo_becomeBest_74 : decode prog_9_method_9_code 74 = .ok (.ireturn, 1) := by decide +kernel
theorem dC_plan_0 : decode prog_1_method_28_code 0 = .ok (.iload_n 1, 1) := by decide +kernel
theorem dC_plan_1 : decode prog_1_method_28_code 1 = .ok (.invokestatic 152, 3) := by decide +kernel
theorem dC_plan_4 : decode prog_1_method_28_code 4 = .ok (.ifCond .eq (19), 3) := by decide +kernel
theorem dC_plan_7 : decode prog_1_method_28_code 7 = .ok (.iload_n 2, 1) := by decide +kernel
theorem dC_plan_8 : decode prog_1_method_28_code 8 = .ok (.invokestatic 152, 3) := by decide +kernel
theorem dC_plan_11 : decode prog_1_method_28_code 11 = .ok (.ifCond .eq (12), 3) := by decide +kernel
theorem dC_plan_14 : decode prog_1_method_28_code 14 = .ok (.iload_n 3, 1) := by decide +kernel
theorem dC_plan_15 : decode prog_1_method_28_code 15 = .ok (.ifCond .lt (8), 3) := by decide +kernel
theorem dC_plan_18 : decode prog_1_method_28_code 18 = .ok (.iload_n 3, 1) := by decide +kernel
theorem dC_plan_19 : decode prog_1_method_28_code 19 = .ok (.iconst (5), 1) := by decide +kernel
theorem dC_plan_20 : decode prog_1_method_28_code 20 = .ok (.if_icmp .le (6), 3) := by decide +kernel
theorem dC_plan_23 : decode prog_1_method_28_code 23 = .ok (.bipush (-102), 2) := by decide +kernel
theorem dC_plan_25 : decode prog_1_method_28_code 25 = .ok (.ireturn, 1) := by decide +kernel
theorem dC_plan_26 : decode prog_1_method_28_code 26 = .ok (.aload_n 0, 1) := by decide +kernel
theorem dC_plan_27 : decode prog_1_method_28_code 27 = .ok (.getfield 215, 3) := by decide +kernel
theorem dC_plan_30 : decode prog_1_method_28_code 30 = .ok (.bipush (20), 2) := by decide +kernel
theorem dC_plan_32 : decode prog_1_method_28_code 32 = .ok (.if_icmp .lt (6), 3) := by decide +kernel
theorem dC_plan_35 : decode prog_1_method_28_code 35 = .ok (.bipush (-103), 2) := by decide +kernel
theorem dC_plan_37 : decode prog_1_method_28_code 37 = .ok (.ireturn, 1) := by decide +kernel
theorem dC_plan_38 : decode prog_1_method_28_code 38 = .ok (.aload_n 0, 1) := by decide +kernel
theorem dC_plan_39 : decode prog_1_method_28_code 39 = .ok (.dup, 1) := by decide +kernel
theorem dC_plan_40 : decode prog_1_method_28_code 40 = .ok (.getfield 215, 3) := by decide +kernel
theorem dC_plan_43 : decode prog_1_method_28_code 43 = .ok (.iconst (1), 1) := by decide +kernel
theorem dC_plan_44 : decode prog_1_method_28_code 44 = .ok (.iadd, 1) := by decide +kernel
theorem dC_plan_45 : decode prog_1_method_28_code 45 = .ok (.putfield 215, 3) := by decide +kernel
theorem dC_plan_48 : decode prog_1_method_28_code 48 = .ok (.aload_n 0, 1) := by decide +kernel
theorem dC_plan_49 : decode prog_1_method_28_code 49 = .ok (.getfield 46, 3) := by decide +kernel
theorem dC_plan_52 : decode prog_1_method_28_code 52 = .ok (.iload_n 1, 1) := by decide +kernel
theorem dC_plan_53 : decode prog_1_method_28_code 53 = .ok (.iload_n 2, 1) := by decide +kernel
theorem dC_plan_54 : decode prog_1_method_28_code 54 = .ok (.iload_n 3, 1) := by decide +kernel
theorem dC_plan_55 : decode prog_1_method_28_code 55 = .ok (.invokevirtual 218, 3) := by decide +kernel
theorem dC_plan_58 : decode prog_1_method_28_code 58 = .ok (.ireturn, 1) := by decide +kernel
theorem dM_plan_0 : decode prog_14_method_76_code 0 = .ok (.iload_n 1, 1) := by decide +kernel
theorem dM_plan_1 : decode prog_14_method_76_code 1 = .ok (.invokestatic 306, 3) := by decide +kernel
theorem dM_plan_4 : decode prog_14_method_76_code 4 = .ok (.ifCond .eq (19), 3) := by decide +kernel
theorem dM_plan_7 : decode prog_14_method_76_code 7 = .ok (.iload_n 2, 1) := by decide +kernel
theorem dM_plan_8 : decode prog_14_method_76_code 8 = .ok (.invokestatic 306, 3) := by decide +kernel
theorem dM_plan_11 : decode prog_14_method_76_code 11 = .ok (.ifCond .eq (12), 3) := by decide +kernel
theorem dM_plan_14 : decode prog_14_method_76_code 14 = .ok (.iload_n 3, 1) := by decide +kernel
theorem dM_plan_15 : decode prog_14_method_76_code 15 = .ok (.iconst (0), 1) := by decide +kernel
theorem dM_plan_16 : decode prog_14_method_76_code 16 = .ok (.iconst (5), 1) := by decide +kernel
theorem dM_plan_17 : decode prog_14_method_76_code 17 = .ok (.invokestatic 148, 3) := by decide +kernel
theorem dM_plan_20 : decode prog_14_method_76_code 20 = .ok (.ifCond .ne (6), 3) := by decide +kernel
theorem dM_plan_23 : decode prog_14_method_76_code 23 = .ok (.bipush (-102), 2) := by decide +kernel
theorem dM_plan_25 : decode prog_14_method_76_code 25 = .ok (.ireturn, 1) := by decide +kernel
theorem dM_plan_26 : decode prog_14_method_76_code 26 = .ok (.aload_n 0, 1) := by decide +kernel
theorem dM_plan_27 : decode prog_14_method_76_code 27 = .ok (.getfield 341, 3) := by decide +kernel
theorem dM_plan_30 : decode prog_14_method_76_code 30 = .ok (.bipush (20), 2) := by decide +kernel
theorem dM_plan_32 : decode prog_14_method_76_code 32 = .ok (.if_icmp .ne (6), 3) := by decide +kernel
theorem dM_plan_35 : decode prog_14_method_76_code 35 = .ok (.bipush (-103), 2) := by decide +kernel
theorem dM_plan_37 : decode prog_14_method_76_code 37 = .ok (.ireturn, 1) := by decide +kernel
theorem dM_plan_38 : decode prog_14_method_76_code 38 = .ok (.aload_n 0, 1) := by decide +kernel
theorem dM_plan_39 : decode prog_14_method_76_code 39 = .ok (.dup, 1) := by decide +kernel
theorem dM_plan_40 : decode prog_14_method_76_code 40 = .ok (.getfield 341, 3) := by decide +kernel
theorem dM_plan_43 : decode prog_14_method_76_code 43 = .ok (.iconst (1), 1) := by decide +kernel
theorem dM_plan_44 : decode prog_14_method_76_code 44 = .ok (.iadd, 1) := by decide +kernel
theorem dM_plan_45 : decode prog_14_method_76_code 45 = .ok (.putfield 341, 3) := by decide +kernel
theorem dM_plan_48 : decode prog_14_method_76_code 48 = .ok (.iconst (-1), 1) := by decide +kernel
theorem dM_plan_49 : decode prog_14_method_76_code 49 = .ok (.istore 4, 2) := by decide +kernel
theorem dM_plan_51 : decode prog_14_method_76_code 51 = .ok (.iconst (0), 1) := by decide +kernel
theorem dM_plan_52 : decode prog_14_method_76_code 52 = .ok (.istore 5, 2) := by decide +kernel
theorem dM_plan_54 : decode prog_14_method_76_code 54 = .ok (.iconst (1), 1) := by decide +kernel
theorem dM_plan_55 : decode prog_14_method_76_code 55 = .ok (.istore 6, 2) := by decide +kernel
theorem dM_plan_57 : decode prog_14_method_76_code 57 = .ok (.iconst (0), 1) := by decide +kernel
theorem dM_plan_58 : decode prog_14_method_76_code 58 = .ok (.istore 7, 2) := by decide +kernel
theorem dM_plan_60 : decode prog_14_method_76_code 60 = .ok (.iload 7, 2) := by decide +kernel
theorem dM_plan_62 : decode prog_14_method_76_code 62 = .ok (.iload_n 3, 1) := by decide +kernel
theorem dM_plan_63 : decode prog_14_method_76_code 63 = .ok (.if_icmp .gt (167), 3) := by decide +kernel
theorem dM_plan_66 : decode prog_14_method_76_code 66 = .ok (.iconst (0), 1) := by decide +kernel
theorem dM_plan_67 : decode prog_14_method_76_code 67 = .ok (.istore 8, 2) := by decide +kernel
theorem dM_plan_69 : decode prog_14_method_76_code 69 = .ok (.iload 8, 2) := by decide +kernel
theorem dM_plan_71 : decode prog_14_method_76_code 71 = .ok (.iload 6, 2) := by decide +kernel
theorem dM_plan_73 : decode prog_14_method_76_code 73 = .ok (.if_icmp .ge (142), 3) := by decide +kernel
theorem dM_plan_76 : decode prog_14_method_76_code 76 = .ok (.iload 8, 2) := by decide +kernel
theorem dM_plan_78 : decode prog_14_method_76_code 78 = .ok (.istore 9, 2) := by decide +kernel
theorem dM_plan_80 : decode prog_14_method_76_code 80 = .ok (.iload 7, 2) := by decide +kernel
theorem dM_plan_82 : decode prog_14_method_76_code 82 = .ok (.iconst (1), 1) := by decide +kernel
theorem dM_plan_83 : decode prog_14_method_76_code 83 = .ok (.isub, 1) := by decide +kernel
theorem dM_plan_84 : decode prog_14_method_76_code 84 = .ok (.istore 10, 2) := by decide +kernel
theorem dM_plan_86 : decode prog_14_method_76_code 86 = .ok (.iload 10, 2) := by decide +kernel
theorem dM_plan_88 : decode prog_14_method_76_code 88 = .ok (.ifCond .lt (32), 3) := by decide +kernel
theorem dM_plan_91 : decode prog_14_method_76_code 91 = .ok (.aload_n 0, 1) := by decide +kernel
theorem dM_plan_92 : decode prog_14_method_76_code 92 = .ok (.getfield 106, 3) := by decide +kernel
theorem dM_plan_95 : decode prog_14_method_76_code 95 = .ok (.iload 10, 2) := by decide +kernel
theorem dM_plan_97 : decode prog_14_method_76_code 97 = .ok (.iload 9, 2) := by decide +kernel
theorem dM_plan_99 : decode prog_14_method_76_code 99 = .ok (.aload_n 0, 1) := by decide +kernel
theorem dM_plan_100 : decode prog_14_method_76_code 100 = .ok (.getfield 303, 3) := by decide +kernel
theorem dM_plan_103 : decode prog_14_method_76_code 103 = .ok (.irem, 1) := by decide +kernel
theorem dM_plan_104 : decode prog_14_method_76_code 104 = .ok (.iastore, 1) := by decide +kernel
theorem dM_plan_105 : decode prog_14_method_76_code 105 = .ok (.iload 9, 2) := by decide +kernel
theorem dM_plan_107 : decode prog_14_method_76_code 107 = .ok (.aload_n 0, 1) := by decide +kernel
theorem dM_plan_108 : decode prog_14_method_76_code 108 = .ok (.getfield 303, 3) := by decide +kernel
theorem dM_plan_111 : decode prog_14_method_76_code 111 = .ok (.idiv, 1) := by decide +kernel
theorem dM_plan_112 : decode prog_14_method_76_code 112 = .ok (.istore 9, 2) := by decide +kernel
theorem dM_plan_114 : decode prog_14_method_76_code 114 = .ok (.iinc 10 (-1), 3) := by decide +kernel
theorem dM_plan_117 : decode prog_14_method_76_code 117 = .ok (.goto (-31), 3) := by decide +kernel
theorem dM_plan_120 : decode prog_14_method_76_code 120 = .ok (.aload_n 0, 1) := by decide +kernel
theorem dM_plan_121 : decode prog_14_method_76_code 121 = .ok (.aload_n 0, 1) := by decide +kernel
theorem dM_plan_122 : decode prog_14_method_76_code 122 = .ok (.getfield 106, 3) := by decide +kernel
theorem dM_plan_125 : decode prog_14_method_76_code 125 = .ok (.iload 7, 2) := by decide +kernel
theorem dM_plan_127 : decode prog_14_method_76_code 127 = .ok (.invokevirtual 337, 3) := by decide +kernel
theorem dM_plan_130 : decode prog_14_method_76_code 130 = .ok (.istore 10, 2) := by decide +kernel
theorem dM_plan_132 : decode prog_14_method_76_code 132 = .ok (.iload 4, 2) := by decide +kernel
theorem dM_plan_134 : decode prog_14_method_76_code 134 = .ok (.iconst (-1), 1) := by decide +kernel
theorem dM_plan_135 : decode prog_14_method_76_code 135 = .ok (.if_icmp .eq (10), 3) := by decide +kernel
theorem dM_plan_138 : decode prog_14_method_76_code 138 = .ok (.iload 10, 2) := by decide +kernel
theorem dM_plan_140 : decode prog_14_method_76_code 140 = .ok (.iload 4, 2) := by decide +kernel
theorem dM_plan_142 : decode prog_14_method_76_code 142 = .ok (.if_icmp .ge (67), 3) := by decide +kernel
theorem dM_plan_145 : decode prog_14_method_76_code 145 = .ok (.aload_n 0, 1) := by decide +kernel
theorem dM_plan_146 : decode prog_14_method_76_code 146 = .ok (.aload_n 0, 1) := by decide +kernel
theorem dM_plan_147 : decode prog_14_method_76_code 147 = .ok (.getfield 106, 3) := by decide +kernel
theorem dM_plan_150 : decode prog_14_method_76_code 150 = .ok (.iload 7, 2) := by decide +kernel
theorem dM_plan_152 : decode prog_14_method_76_code 152 = .ok (.iload_n 1, 1) := by decide +kernel
theorem dM_plan_153 : decode prog_14_method_76_code 153 = .ok (.invokevirtual 333, 3) := by decide +kernel
theorem dM_plan_156 : decode prog_14_method_76_code 156 = .ok (.iconst (-1), 1) := by decide +kernel
theorem dM_plan_157 : decode prog_14_method_76_code 157 = .ok (.if_icmp .ne (52), 3) := by decide +kernel
theorem dM_plan_160 : decode prog_14_method_76_code 160 = .ok (.iload_n 2, 1) := by decide +kernel
theorem dM_plan_161 : decode prog_14_method_76_code 161 = .ok (.aload_n 0, 1) := by decide +kernel
theorem dM_plan_162 : decode prog_14_method_76_code 162 = .ok (.getfield 318, 3) := by decide +kernel
theorem dM_plan_165 : decode prog_14_method_76_code 165 = .ok (.iconst (-1), 1) := by decide +kernel
theorem dM_plan_166 : decode prog_14_method_76_code 166 = .ok (.ixor, 1) := by decide +kernel
theorem dM_plan_167 : decode prog_14_method_76_code 167 = .ok (.iand, 1) := by decide +kernel
theorem dM_plan_168 : decode prog_14_method_76_code 168 = .ok (.ifCond .ne (41), 3) := by decide +kernel
theorem dM_plan_171 : decode prog_14_method_76_code 171 = .ok (.iload 10, 2) := by decide +kernel
theorem dM_plan_173 : decode prog_14_method_76_code 173 = .ok (.istore 4, 2) := by decide +kernel
theorem dM_plan_175 : decode prog_14_method_76_code 175 = .ok (.iload 7, 2) := by decide +kernel
theorem dM_plan_177 : decode prog_14_method_76_code 177 = .ok (.istore 5, 2) := by decide +kernel
theorem dM_plan_179 : decode prog_14_method_76_code 179 = .ok (.iconst (0), 1) := by decide +kernel
theorem dM_plan_180 : decode prog_14_method_76_code 180 = .ok (.istore 11, 2) := by decide +kernel
theorem dM_plan_182 : decode prog_14_method_76_code 182 = .ok (.iload 11, 2) := by decide +kernel
theorem dM_plan_184 : decode prog_14_method_76_code 184 = .ok (.iload 7, 2) := by decide +kernel
theorem dM_plan_186 : decode prog_14_method_76_code 186 = .ok (.if_icmp .ge (23), 3) := by decide +kernel
theorem dM_plan_189 : decode prog_14_method_76_code 189 = .ok (.aload_n 0, 1) := by decide +kernel
theorem dM_plan_190 : decode prog_14_method_76_code 190 = .ok (.getfield 109, 3) := by decide +kernel
theorem dM_plan_193 : decode prog_14_method_76_code 193 = .ok (.iload 11, 2) := by decide +kernel
theorem dM_plan_195 : decode prog_14_method_76_code 195 = .ok (.aload_n 0, 1) := by decide +kernel
theorem dM_plan_196 : decode prog_14_method_76_code 196 = .ok (.getfield 106, 3) := by decide +kernel
theorem dM_plan_199 : decode prog_14_method_76_code 199 = .ok (.iload 11, 2) := by decide +kernel
theorem dM_plan_201 : decode prog_14_method_76_code 201 = .ok (.iaload, 1) := by decide +kernel
theorem dM_plan_202 : decode prog_14_method_76_code 202 = .ok (.iastore, 1) := by decide +kernel
theorem dM_plan_203 : decode prog_14_method_76_code 203 = .ok (.iinc 11 (1), 3) := by decide +kernel
theorem dM_plan_206 : decode prog_14_method_76_code 206 = .ok (.goto (-24), 3) := by decide +kernel
theorem dM_plan_209 : decode prog_14_method_76_code 209 = .ok (.iinc 8 (1), 3) := by decide +kernel
theorem dM_plan_212 : decode prog_14_method_76_code 212 = .ok (.goto (-143), 3) := by decide +kernel
theorem dM_plan_215 : decode prog_14_method_76_code 215 = .ok (.iload 6, 2) := by decide +kernel
theorem dM_plan_217 : decode prog_14_method_76_code 217 = .ok (.aload_n 0, 1) := by decide +kernel
theorem dM_plan_218 : decode prog_14_method_76_code 218 = .ok (.getfield 303, 3) := by decide +kernel
theorem dM_plan_221 : decode prog_14_method_76_code 221 = .ok (.imul, 1) := by decide +kernel
theorem dM_plan_222 : decode prog_14_method_76_code 222 = .ok (.istore 6, 2) := by decide +kernel
theorem dM_plan_224 : decode prog_14_method_76_code 224 = .ok (.iinc 7 (1), 3) := by decide +kernel
theorem dM_plan_227 : decode prog_14_method_76_code 227 = .ok (.goto (-167), 3) := by decide +kernel
theorem dM_plan_230 : decode prog_14_method_76_code 230 = .ok (.iload 4, 2) := by decide +kernel
theorem dM_plan_232 : decode prog_14_method_76_code 232 = .ok (.iconst (-1), 1) := by decide +kernel
theorem dM_plan_233 : decode prog_14_method_76_code 233 = .ok (.if_icmp .eq (39), 3) := by decide +kernel
theorem dM_plan_236 : decode prog_14_method_76_code 236 = .ok (.aload_n 0, 1) := by decide +kernel
theorem dM_plan_237 : decode prog_14_method_76_code 237 = .ok (.iload 5, 2) := by decide +kernel
theorem dM_plan_239 : decode prog_14_method_76_code 239 = .ok (.putfield 315, 3) := by decide +kernel
theorem dM_plan_242 : decode prog_14_method_76_code 242 = .ok (.iconst (0), 1) := by decide +kernel
theorem dM_plan_243 : decode prog_14_method_76_code 243 = .ok (.istore 7, 2) := by decide +kernel
theorem dM_plan_245 : decode prog_14_method_76_code 245 = .ok (.iload 7, 2) := by decide +kernel
theorem dM_plan_247 : decode prog_14_method_76_code 247 = .ok (.iload 5, 2) := by decide +kernel
theorem dM_plan_249 : decode prog_14_method_76_code 249 = .ok (.if_icmp .ge (23), 3) := by decide +kernel
theorem dM_plan_252 : decode prog_14_method_76_code 252 = .ok (.aload_n 0, 1) := by decide +kernel
theorem dM_plan_253 : decode prog_14_method_76_code 253 = .ok (.getfield 39, 3) := by decide +kernel
theorem dM_plan_256 : decode prog_14_method_76_code 256 = .ok (.iload 7, 2) := by decide +kernel
theorem dM_plan_258 : decode prog_14_method_76_code 258 = .ok (.aload_n 0, 1) := by decide +kernel
theorem dM_plan_259 : decode prog_14_method_76_code 259 = .ok (.getfield 109, 3) := by decide +kernel
theorem dM_plan_262 : decode prog_14_method_76_code 262 = .ok (.iload 7, 2) := by decide +kernel
theorem dM_plan_264 : decode prog_14_method_76_code 264 = .ok (.iaload, 1) := by decide +kernel
theorem dM_plan_265 : decode prog_14_method_76_code 265 = .ok (.iastore, 1) := by decide +kernel
theorem dM_plan_266 : decode prog_14_method_76_code 266 = .ok (.iinc 7 (1), 3) := by decide +kernel
theorem dM_plan_269 : decode prog_14_method_76_code 269 = .ok (.goto (-24), 3) := by decide +kernel
theorem dM_plan_272 : decode prog_14_method_76_code 272 = .ok (.iload 4, 2) := by decide +kernel
theorem dM_plan_274 : decode prog_14_method_76_code 274 = .ok (.ireturn, 1) := by decide +kernel
theorem dC_isTries_0 : decode prog_1_method_51_code 0 = .ok (.iload_n 0, 1) := by decide +kernel
theorem dC_isTries_1 : decode prog_1_method_51_code 1 = .ok (.iconst (1), 1) := by decide +kernel
theorem dC_isTries_2 : decode prog_1_method_51_code 2 = .ok (.if_icmp .lt (12), 3) := by decide +kernel
theorem dC_isTries_5 : decode prog_1_method_51_code 5 = .ok (.iload_n 0, 1) := by decide +kernel
theorem dC_isTries_6 : decode prog_1_method_51_code 6 = .ok (.iconst (3), 1) := by decide +kernel
theorem dC_isTries_7 : decode prog_1_method_51_code 7 = .ok (.if_icmp .gt (7), 3) := by decide +kernel
theorem dC_isTries_10 : decode prog_1_method_51_code 10 = .ok (.iconst (1), 1) := by decide +kernel
theorem dC_isTries_11 : decode prog_1_method_51_code 11 = .ok (.goto (4), 3) := by decide +kernel
theorem dC_isTries_14 : decode prog_1_method_51_code 14 = .ok (.iconst (0), 1) := by decide +kernel
theorem dC_isTries_15 : decode prog_1_method_51_code 15 = .ok (.ireturn, 1) := by decide +kernel
theorem dC_isPart_0 : decode prog_1_method_52_code 0 = .ok (.iload_n 0, 1) := by decide +kernel
theorem dC_isPart_1 : decode prog_1_method_52_code 1 = .ok (.ifCond .eq (8), 3) := by decide +kernel
theorem dC_isPart_4 : decode prog_1_method_52_code 4 = .ok (.iload_n 0, 1) := by decide +kernel
theorem dC_isPart_5 : decode prog_1_method_52_code 5 = .ok (.iconst (1), 1) := by decide +kernel
theorem dC_isPart_6 : decode prog_1_method_52_code 6 = .ok (.if_icmp .ne (7), 3) := by decide +kernel
theorem dC_isPart_9 : decode prog_1_method_52_code 9 = .ok (.iconst (1), 1) := by decide +kernel
theorem dC_isPart_10 : decode prog_1_method_52_code 10 = .ok (.goto (4), 3) := by decide +kernel
theorem dC_isPart_13 : decode prog_1_method_52_code 13 = .ok (.iconst (0), 1) := by decide +kernel
theorem dC_isPart_14 : decode prog_1_method_52_code 14 = .ok (.ireturn, 1) := by decide +kernel
theorem dC_power_0 : decode prog_1_method_54_code 0 = .ok (.lconst 1, 1) := by decide +kernel
theorem dC_power_1 : decode prog_1_method_54_code 1 = .ok (.lstore_n 3, 1) := by decide +kernel
theorem dC_power_2 : decode prog_1_method_54_code 2 = .ok (.iconst (0), 1) := by decide +kernel
theorem dC_power_3 : decode prog_1_method_54_code 3 = .ok (.istore 5, 2) := by decide +kernel
theorem dC_power_5 : decode prog_1_method_54_code 5 = .ok (.iload 5, 2) := by decide +kernel
theorem dC_power_7 : decode prog_1_method_54_code 7 = .ok (.iload_n 2, 1) := by decide +kernel
theorem dC_power_8 : decode prog_1_method_54_code 8 = .ok (.if_icmp .ge (13), 3) := by decide +kernel
theorem dC_power_11 : decode prog_1_method_54_code 11 = .ok (.lload_n 3, 1) := by decide +kernel
theorem dC_power_12 : decode prog_1_method_54_code 12 = .ok (.lload_n 0, 1) := by decide +kernel
theorem dC_power_13 : decode prog_1_method_54_code 13 = .ok (.lmul, 1) := by decide +kernel
theorem dC_power_14 : decode prog_1_method_54_code 14 = .ok (.lstore_n 3, 1) := by decide +kernel
theorem dC_power_15 : decode prog_1_method_54_code 15 = .ok (.iinc 5 (1), 3) := by decide +kernel
theorem dC_power_18 : decode prog_1_method_54_code 18 = .ok (.goto (-13), 3) := by decide +kernel
theorem dC_power_21 : decode prog_1_method_54_code 21 = .ok (.lload_n 3, 1) := by decide +kernel
theorem dC_power_22 : decode prog_1_method_54_code 22 = .ok (.lreturn, 1) := by decide +kernel
theorem dHe_chancesOfGoing_0 : decode prog_5_method_2_code 0 = .ok (.ldc2_w 18, 3) := by decide +kernel
theorem dHe_chancesOfGoing_3 : decode prog_5_method_2_code 3 = .ok (.iload_n 1, 1) := by decide +kernel
theorem dHe_chancesOfGoing_4 : decode prog_5_method_2_code 4 = .ok (.invokestatic 20, 3) := by decide +kernel
theorem dHe_chancesOfGoing_7 : decode prog_5_method_2_code 7 = .ok (.aload_n 0, 1) := by decide +kernel
theorem dHe_chancesOfGoing_8 : decode prog_5_method_2_code 8 = .ok (.getfield 9, 3) := by decide +kernel
theorem dHe_chancesOfGoing_11 : decode prog_5_method_2_code 11 = .ok (.iconst (1), 1) := by decide +kernel
theorem dHe_chancesOfGoing_12 : decode prog_5_method_2_code 12 = .ok (.iaload, 1) := by decide +kernel
theorem dHe_chancesOfGoing_13 : decode prog_5_method_2_code 13 = .ok (.i2l, 1) := by decide +kernel
theorem dHe_chancesOfGoing_14 : decode prog_5_method_2_code 14 = .ok (.iload_n 1, 1) := by decide +kernel
theorem dHe_chancesOfGoing_15 : decode prog_5_method_2_code 15 = .ok (.invokestatic 20, 3) := by decide +kernel
theorem dHe_chancesOfGoing_18 : decode prog_5_method_2_code 18 = .ok (.lsub, 1) := by decide +kernel
theorem dHe_chancesOfGoing_19 : decode prog_5_method_2_code 19 = .ok (.lreturn, 1) := by decide +kernel
theorem dC_lowest_0 : decode prog_1_method_55_code 0 = .ok (.lload_n 0, 1) := by decide +kernel
theorem dC_lowest_1 : decode prog_1_method_55_code 1 = .ok (.lstore 5, 2) := by decide +kernel
theorem dC_lowest_3 : decode prog_1_method_55_code 3 = .ok (.lload_n 2, 1) := by decide +kernel
theorem dC_lowest_4 : decode prog_1_method_55_code 4 = .ok (.lstore 7, 2) := by decide +kernel
theorem dC_lowest_6 : decode prog_1_method_55_code 6 = .ok (.iconst (0), 1) := by decide +kernel
theorem dC_lowest_7 : decode prog_1_method_55_code 7 = .ok (.istore 9, 2) := by decide +kernel
theorem dC_lowest_9 : decode prog_1_method_55_code 9 = .ok (.iload 9, 2) := by decide +kernel
theorem dC_lowest_11 : decode prog_1_method_55_code 11 = .ok (.sipush (200), 3) := by decide +kernel
theorem dC_lowest_14 : decode prog_1_method_55_code 14 = .ok (.if_icmp .ge (31), 3) := by decide +kernel
theorem dC_lowest_17 : decode prog_1_method_55_code 17 = .ok (.lload 7, 2) := by decide +kernel
theorem dC_lowest_19 : decode prog_1_method_55_code 19 = .ok (.lconst 0, 1) := by decide +kernel
theorem dC_lowest_20 : decode prog_1_method_55_code 20 = .ok (.lcmp, 1) := by decide +kernel
theorem dC_lowest_21 : decode prog_1_method_55_code 21 = .ok (.ifCond .eq (24), 3) := by decide +kernel
theorem dC_lowest_24 : decode prog_1_method_55_code 24 = .ok (.lload 5, 2) := by decide +kernel
theorem dC_lowest_26 : decode prog_1_method_55_code 26 = .ok (.lload 7, 2) := by decide +kernel
theorem dC_lowest_28 : decode prog_1_method_55_code 28 = .ok (.lrem, 1) := by decide +kernel
theorem dC_lowest_29 : decode prog_1_method_55_code 29 = .ok (.lstore 10, 2) := by decide +kernel
theorem dC_lowest_31 : decode prog_1_method_55_code 31 = .ok (.lload 7, 2) := by decide +kernel
theorem dC_lowest_33 : decode prog_1_method_55_code 33 = .ok (.lstore 5, 2) := by decide +kernel
theorem dC_lowest_35 : decode prog_1_method_55_code 35 = .ok (.lload 10, 2) := by decide +kernel
theorem dC_lowest_37 : decode prog_1_method_55_code 37 = .ok (.lstore 7, 2) := by decide +kernel
theorem dC_lowest_39 : decode prog_1_method_55_code 39 = .ok (.iinc 9 (1), 3) := by decide +kernel
theorem dC_lowest_42 : decode prog_1_method_55_code 42 = .ok (.goto (-33), 3) := by decide +kernel
theorem dC_lowest_45 : decode prog_1_method_55_code 45 = .ok (.iload 4, 2) := by decide +kernel
theorem dC_lowest_47 : decode prog_1_method_55_code 47 = .ok (.ifCond .ne (7), 3) := by decide +kernel
theorem dC_lowest_50 : decode prog_1_method_55_code 50 = .ok (.lload_n 0, 1) := by decide +kernel
theorem dC_lowest_51 : decode prog_1_method_55_code 51 = .ok (.goto (4), 3) := by decide +kernel
theorem dC_lowest_54 : decode prog_1_method_55_code 54 = .ok (.lload_n 2, 1) := by decide +kernel
theorem dC_lowest_55 : decode prog_1_method_55_code 55 = .ok (.lstore 9, 2) := by decide +kernel
theorem dC_lowest_57 : decode prog_1_method_55_code 57 = .ok (.lload 5, 2) := by decide +kernel
theorem dC_lowest_59 : decode prog_1_method_55_code 59 = .ok (.lconst 0, 1) := by decide +kernel
theorem dC_lowest_60 : decode prog_1_method_55_code 60 = .ok (.lcmp, 1) := by decide +kernel
theorem dC_lowest_61 : decode prog_1_method_55_code 61 = .ok (.ifCond .ne (8), 3) := by decide +kernel
theorem dC_lowest_64 : decode prog_1_method_55_code 64 = .ok (.lload 9, 2) := by decide +kernel
theorem dC_lowest_66 : decode prog_1_method_55_code 66 = .ok (.goto (8), 3) := by decide +kernel
theorem dC_lowest_69 : decode prog_1_method_55_code 69 = .ok (.lload 9, 2) := by decide +kernel
theorem dC_lowest_71 : decode prog_1_method_55_code 71 = .ok (.lload 5, 2) := by decide +kernel
theorem dC_lowest_73 : decode prog_1_method_55_code 73 = .ok (.ldiv, 1) := by decide +kernel
theorem dC_lowest_74 : decode prog_1_method_55_code 74 = .ok (.lreturn, 1) := by decide +kernel
theorem dC_chance_0 : decode prog_1_method_29_code 0 = .ok (.iload_n 1, 1) := by decide +kernel
theorem dC_chance_1 : decode prog_1_method_29_code 1 = .ok (.invokestatic 221, 3) := by decide +kernel
theorem dC_chance_4 : decode prog_1_method_29_code 4 = .ok (.ifCond .eq (10), 3) := by decide +kernel
theorem dC_chance_7 : decode prog_1_method_29_code 7 = .ok (.iload_n 2, 1) := by decide +kernel
theorem dC_chance_8 : decode prog_1_method_29_code 8 = .ok (.invokestatic 224, 3) := by decide +kernel
theorem dC_chance_11 : decode prog_1_method_29_code 11 = .ok (.ifCond .ne (7), 3) := by decide +kernel
theorem dC_chance_14 : decode prog_1_method_29_code 14 = .ok (.ldc2_w 227, 3) := by decide +kernel
theorem dC_chance_17 : decode prog_1_method_29_code 17 = .ok (.lreturn, 1) := by decide +kernel
theorem dC_chance_18 : decode prog_1_method_29_code 18 = .ok (.lconst 1, 1) := by decide +kernel
theorem dC_chance_19 : decode prog_1_method_29_code 19 = .ok (.lstore_n 3, 1) := by decide +kernel
theorem dC_chance_20 : decode prog_1_method_29_code 20 = .ok (.lconst 1, 1) := by decide +kernel
theorem dC_chance_21 : decode prog_1_method_29_code 21 = .ok (.lstore 5, 2) := by decide +kernel
theorem dC_chance_23 : decode prog_1_method_29_code 23 = .ok (.iconst (0), 1) := by decide +kernel
theorem dC_chance_24 : decode prog_1_method_29_code 24 = .ok (.istore 7, 2) := by decide +kernel
theorem dC_chance_26 : decode prog_1_method_29_code 26 = .ok (.iload 7, 2) := by decide +kernel
theorem dC_chance_28 : decode prog_1_method_29_code 28 = .ok (.aload_n 0, 1) := by decide +kernel
theorem dC_chance_29 : decode prog_1_method_29_code 29 = .ok (.getfield 46, 3) := by decide +kernel
theorem dC_chance_32 : decode prog_1_method_29_code 32 = .ok (.getfield 187, 3) := by decide +kernel
theorem dC_chance_35 : decode prog_1_method_29_code 35 = .ok (.if_icmp .ge (37), 3) := by decide +kernel
theorem dC_chance_38 : decode prog_1_method_29_code 38 = .ok (.lload_n 3, 1) := by decide +kernel
theorem dC_chance_39 : decode prog_1_method_29_code 39 = .ok (.aload_n 0, 1) := by decide +kernel
theorem dC_chance_40 : decode prog_1_method_29_code 40 = .ok (.getfield 46, 3) := by decide +kernel
theorem dC_chance_43 : decode prog_1_method_29_code 43 = .ok (.iload 7, 2) := by decide +kernel
theorem dC_chance_45 : decode prog_1_method_29_code 45 = .ok (.invokevirtual 229, 3) := by decide +kernel
theorem dC_chance_48 : decode prog_1_method_29_code 48 = .ok (.iload_n 1, 1) := by decide +kernel
theorem dC_chance_49 : decode prog_1_method_29_code 49 = .ok (.invokevirtual 232, 3) := by decide +kernel
theorem dC_chance_52 : decode prog_1_method_29_code 52 = .ok (.lmul, 1) := by decide +kernel
theorem dC_chance_53 : decode prog_1_method_29_code 53 = .ok (.lstore_n 3, 1) := by decide +kernel
theorem dC_chance_54 : decode prog_1_method_29_code 54 = .ok (.lload 5, 2) := by decide +kernel
theorem dC_chance_56 : decode prog_1_method_29_code 56 = .ok (.ldc2_w 236, 3) := by decide +kernel
theorem dC_chance_59 : decode prog_1_method_29_code 59 = .ok (.iload_n 1, 1) := by decide +kernel
theorem dC_chance_60 : decode prog_1_method_29_code 60 = .ok (.invokestatic 238, 3) := by decide +kernel
theorem dC_chance_63 : decode prog_1_method_29_code 63 = .ok (.lmul, 1) := by decide +kernel
theorem dC_chance_64 : decode prog_1_method_29_code 64 = .ok (.lstore 5, 2) := by decide +kernel
theorem dC_chance_66 : decode prog_1_method_29_code 66 = .ok (.iinc 7 (1), 3) := by decide +kernel
theorem dC_chance_69 : decode prog_1_method_29_code 69 = .ok (.goto (-43), 3) := by decide +kernel
theorem dC_chance_72 : decode prog_1_method_29_code 72 = .ok (.lload_n 3, 1) := by decide +kernel
theorem dC_chance_73 : decode prog_1_method_29_code 73 = .ok (.lload 5, 2) := by decide +kernel
theorem dC_chance_75 : decode prog_1_method_29_code 75 = .ok (.iload_n 2, 1) := by decide +kernel
theorem dC_chance_76 : decode prog_1_method_29_code 76 = .ok (.invokestatic 242, 3) := by decide +kernel
theorem dC_chance_79 : decode prog_1_method_29_code 79 = .ok (.lreturn, 1) := by decide +kernel
theorem dM_power_0 : decode prog_14_method_77_code 0 = .ok (.iload_n 2, 1) := by decide +kernel
theorem dM_power_1 : decode prog_14_method_77_code 1 = .ok (.iconst (1), 1) := by decide +kernel
theorem dM_power_2 : decode prog_14_method_77_code 2 = .ok (.if_icmp .ne (7), 3) := by decide +kernel
theorem dM_power_5 : decode prog_14_method_77_code 5 = .ok (.lload_n 0, 1) := by decide +kernel
theorem dM_power_6 : decode prog_14_method_77_code 6 = .ok (.goto (19), 3) := by decide +kernel
theorem dM_power_9 : decode prog_14_method_77_code 9 = .ok (.iload_n 2, 1) := by decide +kernel
theorem dM_power_10 : decode prog_14_method_77_code 10 = .ok (.iconst (2), 1) := by decide +kernel
theorem dM_power_11 : decode prog_14_method_77_code 11 = .ok (.if_icmp .ne (9), 3) := by decide +kernel
theorem dM_power_14 : decode prog_14_method_77_code 14 = .ok (.lload_n 0, 1) := by decide +kernel
theorem dM_power_15 : decode prog_14_method_77_code 15 = .ok (.lload_n 0, 1) := by decide +kernel
theorem dM_power_16 : decode prog_14_method_77_code 16 = .ok (.lmul, 1) := by decide +kernel
theorem dM_power_17 : decode prog_14_method_77_code 17 = .ok (.goto (8), 3) := by decide +kernel
theorem dM_power_20 : decode prog_14_method_77_code 20 = .ok (.lload_n 0, 1) := by decide +kernel
theorem dM_power_21 : decode prog_14_method_77_code 21 = .ok (.lload_n 0, 1) := by decide +kernel
theorem dM_power_22 : decode prog_14_method_77_code 22 = .ok (.lmul, 1) := by decide +kernel
theorem dM_power_23 : decode prog_14_method_77_code 23 = .ok (.lload_n 0, 1) := by decide +kernel
theorem dM_power_24 : decode prog_14_method_77_code 24 = .ok (.lmul, 1) := by decide +kernel
theorem dM_power_25 : decode prog_14_method_77_code 25 = .ok (.lreturn, 1) := by decide +kernel
theorem dM_shared_0 : decode prog_14_method_78_code 0 = .ok (.lload_n 0, 1) := by decide +kernel
theorem dM_shared_1 : decode prog_14_method_78_code 1 = .ok (.lstore 4, 2) := by decide +kernel
theorem dM_shared_3 : decode prog_14_method_78_code 3 = .ok (.lload_n 2, 1) := by decide +kernel
theorem dM_shared_4 : decode prog_14_method_78_code 4 = .ok (.lstore 6, 2) := by decide +kernel
theorem dM_shared_6 : decode prog_14_method_78_code 6 = .ok (.lload 6, 2) := by decide +kernel
theorem dM_shared_8 : decode prog_14_method_78_code 8 = .ok (.lconst 0, 1) := by decide +kernel
theorem dM_shared_9 : decode prog_14_method_78_code 9 = .ok (.lcmp, 1) := by decide +kernel
theorem dM_shared_10 : decode prog_14_method_78_code 10 = .ok (.ifCond .eq (21), 3) := by decide +kernel
theorem dM_shared_13 : decode prog_14_method_78_code 13 = .ok (.lload 4, 2) := by decide +kernel
theorem dM_shared_15 : decode prog_14_method_78_code 15 = .ok (.lload 6, 2) := by decide +kernel
theorem dM_shared_17 : decode prog_14_method_78_code 17 = .ok (.lrem, 1) := by decide +kernel
theorem dM_shared_18 : decode prog_14_method_78_code 18 = .ok (.lstore 8, 2) := by decide +kernel
theorem dM_shared_20 : decode prog_14_method_78_code 20 = .ok (.lload 6, 2) := by decide +kernel
theorem dM_shared_22 : decode prog_14_method_78_code 22 = .ok (.lstore 4, 2) := by decide +kernel
theorem dM_shared_24 : decode prog_14_method_78_code 24 = .ok (.lload 8, 2) := by decide +kernel
theorem dM_shared_26 : decode prog_14_method_78_code 26 = .ok (.lstore 6, 2) := by decide +kernel
theorem dM_shared_28 : decode prog_14_method_78_code 28 = .ok (.goto (-22), 3) := by decide +kernel
theorem dM_shared_31 : decode prog_14_method_78_code 31 = .ok (.lload 4, 2) := by decide +kernel
theorem dM_shared_33 : decode prog_14_method_78_code 33 = .ok (.lreturn, 1) := by decide +kernel
theorem dM_lowest_0 : decode prog_14_method_79_code 0 = .ok (.lload_n 0, 1) := by decide +kernel
theorem dM_lowest_1 : decode prog_14_method_79_code 1 = .ok (.lload_n 2, 1) := by decide +kernel
theorem dM_lowest_2 : decode prog_14_method_79_code 2 = .ok (.invokestatic 344, 3) := by decide +kernel
theorem dM_lowest_5 : decode prog_14_method_79_code 5 = .ok (.lstore 5, 2) := by decide +kernel
theorem dM_lowest_7 : decode prog_14_method_79_code 7 = .ok (.iload 4, 2) := by decide +kernel
theorem dM_lowest_9 : decode prog_14_method_79_code 9 = .ok (.ifCond .ne (10), 3) := by decide +kernel
theorem dM_lowest_12 : decode prog_14_method_79_code 12 = .ok (.lload_n 0, 1) := by decide +kernel
theorem dM_lowest_13 : decode prog_14_method_79_code 13 = .ok (.lload 5, 2) := by decide +kernel
theorem dM_lowest_15 : decode prog_14_method_79_code 15 = .ok (.ldiv, 1) := by decide +kernel
theorem dM_lowest_16 : decode prog_14_method_79_code 16 = .ok (.goto (7), 3) := by decide +kernel
theorem dM_lowest_19 : decode prog_14_method_79_code 19 = .ok (.lload_n 2, 1) := by decide +kernel
theorem dM_lowest_20 : decode prog_14_method_79_code 20 = .ok (.lload 5, 2) := by decide +kernel
theorem dM_lowest_22 : decode prog_14_method_79_code 22 = .ok (.ldiv, 1) := by decide +kernel
theorem dM_lowest_23 : decode prog_14_method_79_code 23 = .ok (.lreturn, 1) := by decide +kernel
theorem dM_chance_0 : decode prog_14_method_80_code 0 = .ok (.iload_n 1, 1) := by decide +kernel
theorem dM_chance_1 : decode prog_14_method_80_code 1 = .ok (.iconst (1), 1) := by decide +kernel
theorem dM_chance_2 : decode prog_14_method_80_code 2 = .ok (.iconst (3), 1) := by decide +kernel
theorem dM_chance_3 : decode prog_14_method_80_code 3 = .ok (.invokestatic 148, 3) := by decide +kernel
theorem dM_chance_6 : decode prog_14_method_80_code 6 = .ok (.ifCond .eq (12), 3) := by decide +kernel
theorem dM_chance_9 : decode prog_14_method_80_code 9 = .ok (.iload_n 2, 1) := by decide +kernel
theorem dM_chance_10 : decode prog_14_method_80_code 10 = .ok (.iconst (0), 1) := by decide +kernel
theorem dM_chance_11 : decode prog_14_method_80_code 11 = .ok (.iconst (1), 1) := by decide +kernel
theorem dM_chance_12 : decode prog_14_method_80_code 12 = .ok (.invokestatic 148, 3) := by decide +kernel
theorem dM_chance_15 : decode prog_14_method_80_code 15 = .ok (.ifCond .ne (7), 3) := by decide +kernel
theorem dM_chance_18 : decode prog_14_method_80_code 18 = .ok (.ldc2_w 348, 3) := by decide +kernel
theorem dM_chance_21 : decode prog_14_method_80_code 21 = .ok (.lreturn, 1) := by decide +kernel
theorem dM_chance_22 : decode prog_14_method_80_code 22 = .ok (.lconst 1, 1) := by decide +kernel
theorem dM_chance_23 : decode prog_14_method_80_code 23 = .ok (.lstore_n 3, 1) := by decide +kernel
theorem dM_chance_24 : decode prog_14_method_80_code 24 = .ok (.lconst 1, 1) := by decide +kernel
theorem dM_chance_25 : decode prog_14_method_80_code 25 = .ok (.lstore 5, 2) := by decide +kernel
theorem dM_chance_27 : decode prog_14_method_80_code 27 = .ok (.iconst (0), 1) := by decide +kernel
theorem dM_chance_28 : decode prog_14_method_80_code 28 = .ok (.istore 7, 2) := by decide +kernel
theorem dM_chance_30 : decode prog_14_method_80_code 30 = .ok (.iload 7, 2) := by decide +kernel
theorem dM_chance_32 : decode prog_14_method_80_code 32 = .ok (.aload_n 0, 1) := by decide +kernel
theorem dM_chance_33 : decode prog_14_method_80_code 33 = .ok (.getfield 315, 3) := by decide +kernel
theorem dM_chance_36 : decode prog_14_method_80_code 36 = .ok (.if_icmp .ge (53), 3) := by decide +kernel
theorem dM_chance_39 : decode prog_14_method_80_code 39 = .ok (.lload_n 3, 1) := by decide +kernel
theorem dM_chance_40 : decode prog_14_method_80_code 40 = .ok (.ldc2_w 350, 3) := by decide +kernel
theorem dM_chance_43 : decode prog_14_method_80_code 43 = .ok (.iload_n 1, 1) := by decide +kernel
theorem dM_chance_44 : decode prog_14_method_80_code 44 = .ok (.invokestatic 352, 3) := by decide +kernel
theorem dM_chance_47 : decode prog_14_method_80_code 47 = .ok (.aload_n 0, 1) := by decide +kernel
theorem dM_chance_48 : decode prog_14_method_80_code 48 = .ok (.getfield 33, 3) := by decide +kernel
theorem dM_chance_51 : decode prog_14_method_80_code 51 = .ok (.iconst (5), 1) := by decide +kernel
theorem dM_chance_52 : decode prog_14_method_80_code 52 = .ok (.aload_n 0, 1) := by decide +kernel
theorem dM_chance_53 : decode prog_14_method_80_code 53 = .ok (.getfield 39, 3) := by decide +kernel
theorem dM_chance_56 : decode prog_14_method_80_code 56 = .ok (.iload 7, 2) := by decide +kernel
theorem dM_chance_58 : decode prog_14_method_80_code 58 = .ok (.iaload, 1) := by decide +kernel
theorem dM_chance_59 : decode prog_14_method_80_code 59 = .ok (.imul, 1) := by decide +kernel
theorem dM_chance_60 : decode prog_14_method_80_code 60 = .ok (.iconst (1), 1) := by decide +kernel
theorem dM_chance_61 : decode prog_14_method_80_code 61 = .ok (.iadd, 1) := by decide +kernel
theorem dM_chance_62 : decode prog_14_method_80_code 62 = .ok (.iaload, 1) := by decide +kernel
theorem dM_chance_63 : decode prog_14_method_80_code 63 = .ok (.i2l, 1) := by decide +kernel
theorem dM_chance_64 : decode prog_14_method_80_code 64 = .ok (.iload_n 1, 1) := by decide +kernel
theorem dM_chance_65 : decode prog_14_method_80_code 65 = .ok (.invokestatic 352, 3) := by decide +kernel
theorem dM_chance_68 : decode prog_14_method_80_code 68 = .ok (.lsub, 1) := by decide +kernel
theorem dM_chance_69 : decode prog_14_method_80_code 69 = .ok (.lmul, 1) := by decide +kernel
theorem dM_chance_70 : decode prog_14_method_80_code 70 = .ok (.lstore_n 3, 1) := by decide +kernel
theorem dM_chance_71 : decode prog_14_method_80_code 71 = .ok (.lload 5, 2) := by decide +kernel
theorem dM_chance_73 : decode prog_14_method_80_code 73 = .ok (.ldc2_w 350, 3) := by decide +kernel
theorem dM_chance_76 : decode prog_14_method_80_code 76 = .ok (.iload_n 1, 1) := by decide +kernel
theorem dM_chance_77 : decode prog_14_method_80_code 77 = .ok (.invokestatic 352, 3) := by decide +kernel
theorem dM_chance_80 : decode prog_14_method_80_code 80 = .ok (.lmul, 1) := by decide +kernel
theorem dM_chance_81 : decode prog_14_method_80_code 81 = .ok (.lstore 5, 2) := by decide +kernel
theorem dM_chance_83 : decode prog_14_method_80_code 83 = .ok (.iinc 7 (1), 3) := by decide +kernel
theorem dM_chance_86 : decode prog_14_method_80_code 86 = .ok (.goto (-56), 3) := by decide +kernel
theorem dM_chance_89 : decode prog_14_method_80_code 89 = .ok (.lload_n 3, 1) := by decide +kernel
theorem dM_chance_90 : decode prog_14_method_80_code 90 = .ok (.lload 5, 2) := by decide +kernel
theorem dM_chance_92 : decode prog_14_method_80_code 92 = .ok (.iload_n 2, 1) := by decide +kernel
theorem dM_chance_93 : decode prog_14_method_80_code 93 = .ok (.invokestatic 356, 3) := by decide +kernel
theorem dM_chance_96 : decode prog_14_method_80_code 96 = .ok (.lreturn, 1) := by decide +kernel
theorem dHe_meanOfTries_0 : decode prog_5_method_3_code 0 = .ok (.lconst 0, 1) := by decide +kernel
theorem dHe_meanOfTries_1 : decode prog_5_method_3_code 1 = .ok (.lstore_n 2, 1) := by decide +kernel
theorem dHe_meanOfTries_2 : decode prog_5_method_3_code 2 = .ok (.iconst (0), 1) := by decide +kernel
theorem dHe_meanOfTries_3 : decode prog_5_method_3_code 3 = .ok (.istore 4, 2) := by decide +kernel
theorem dHe_meanOfTries_5 : decode prog_5_method_3_code 5 = .ok (.iload 4, 2) := by decide +kernel
theorem dHe_meanOfTries_7 : decode prog_5_method_3_code 7 = .ok (.iload_n 1, 1) := by decide +kernel
theorem dHe_meanOfTries_8 : decode prog_5_method_3_code 8 = .ok (.if_icmp .ge (35), 3) := by decide +kernel
theorem dHe_meanOfTries_11 : decode prog_5_method_3_code 11 = .ok (.lload_n 2, 1) := by decide +kernel
theorem dHe_meanOfTries_12 : decode prog_5_method_3_code 12 = .ok (.aload_n 0, 1) := by decide +kernel
theorem dHe_meanOfTries_13 : decode prog_5_method_3_code 13 = .ok (.getfield 9, 3) := by decide +kernel
theorem dHe_meanOfTries_16 : decode prog_5_method_3_code 16 = .ok (.iconst (1), 1) := by decide +kernel
theorem dHe_meanOfTries_17 : decode prog_5_method_3_code 17 = .ok (.iaload, 1) := by decide +kernel
theorem dHe_meanOfTries_18 : decode prog_5_method_3_code 18 = .ok (.i2l, 1) := by decide +kernel
theorem dHe_meanOfTries_19 : decode prog_5_method_3_code 19 = .ok (.iload 4, 2) := by decide +kernel
theorem dHe_meanOfTries_21 : decode prog_5_method_3_code 21 = .ok (.invokestatic 20, 3) := by decide +kernel
theorem dHe_meanOfTries_24 : decode prog_5_method_3_code 24 = .ok (.ldc2_w 18, 3) := by decide +kernel
theorem dHe_meanOfTries_27 : decode prog_5_method_3_code 27 = .ok (.iload_n 1, 1) := by decide +kernel
theorem dHe_meanOfTries_28 : decode prog_5_method_3_code 28 = .ok (.iload 4, 2) := by decide +kernel
theorem dHe_meanOfTries_30 : decode prog_5_method_3_code 30 = .ok (.isub, 1) := by decide +kernel
theorem dHe_meanOfTries_31 : decode prog_5_method_3_code 31 = .ok (.invokestatic 20, 3) := by decide +kernel
theorem dHe_meanOfTries_34 : decode prog_5_method_3_code 34 = .ok (.lmul, 1) := by decide +kernel
theorem dHe_meanOfTries_35 : decode prog_5_method_3_code 35 = .ok (.ladd, 1) := by decide +kernel
theorem dHe_meanOfTries_36 : decode prog_5_method_3_code 36 = .ok (.lstore_n 2, 1) := by decide +kernel
theorem dHe_meanOfTries_37 : decode prog_5_method_3_code 37 = .ok (.iinc 4 (1), 3) := by decide +kernel
theorem dHe_meanOfTries_40 : decode prog_5_method_3_code 40 = .ok (.goto (-35), 3) := by decide +kernel
theorem dHe_meanOfTries_43 : decode prog_5_method_3_code 43 = .ok (.aload_n 0, 1) := by decide +kernel
theorem dHe_meanOfTries_44 : decode prog_5_method_3_code 44 = .ok (.getfield 9, 3) := by decide +kernel
theorem dHe_meanOfTries_47 : decode prog_5_method_3_code 47 = .ok (.iconst (0), 1) := by decide +kernel
theorem dHe_meanOfTries_48 : decode prog_5_method_3_code 48 = .ok (.iaload, 1) := by decide +kernel
theorem dHe_meanOfTries_49 : decode prog_5_method_3_code 49 = .ok (.i2l, 1) := by decide +kernel
theorem dHe_meanOfTries_50 : decode prog_5_method_3_code 50 = .ok (.lload_n 2, 1) := by decide +kernel
theorem dHe_meanOfTries_51 : decode prog_5_method_3_code 51 = .ok (.lmul, 1) := by decide +kernel
theorem dHe_meanOfTries_52 : decode prog_5_method_3_code 52 = .ok (.lreturn, 1) := by decide +kernel
theorem dC_mean_0 : decode prog_1_method_30_code 0 = .ok (.iload_n 1, 1) := by decide +kernel
theorem dC_mean_1 : decode prog_1_method_30_code 1 = .ok (.invokestatic 221, 3) := by decide +kernel
theorem dC_mean_4 : decode prog_1_method_30_code 4 = .ok (.ifCond .eq (10), 3) := by decide +kernel
theorem dC_mean_7 : decode prog_1_method_30_code 7 = .ok (.iload_n 2, 1) := by decide +kernel
theorem dC_mean_8 : decode prog_1_method_30_code 8 = .ok (.invokestatic 224, 3) := by decide +kernel
theorem dC_mean_11 : decode prog_1_method_30_code 11 = .ok (.ifCond .ne (7), 3) := by decide +kernel
theorem dC_mean_14 : decode prog_1_method_30_code 14 = .ok (.ldc2_w 227, 3) := by decide +kernel
theorem dC_mean_17 : decode prog_1_method_30_code 17 = .ok (.lreturn, 1) := by decide +kernel
theorem dC_mean_18 : decode prog_1_method_30_code 18 = .ok (.lconst 0, 1) := by decide +kernel
theorem dC_mean_19 : decode prog_1_method_30_code 19 = .ok (.lstore_n 3, 1) := by decide +kernel
theorem dC_mean_20 : decode prog_1_method_30_code 20 = .ok (.lconst 1, 1) := by decide +kernel
theorem dC_mean_21 : decode prog_1_method_30_code 21 = .ok (.lstore 5, 2) := by decide +kernel
theorem dC_mean_23 : decode prog_1_method_30_code 23 = .ok (.aload_n 0, 1) := by decide +kernel
theorem dC_mean_24 : decode prog_1_method_30_code 24 = .ok (.getfield 46, 3) := by decide +kernel
theorem dC_mean_27 : decode prog_1_method_30_code 27 = .ok (.getfield 187, 3) := by decide +kernel
theorem dC_mean_30 : decode prog_1_method_30_code 30 = .ok (.iconst (1), 1) := by decide +kernel
theorem dC_mean_31 : decode prog_1_method_30_code 31 = .ok (.isub, 1) := by decide +kernel
theorem dC_mean_32 : decode prog_1_method_30_code 32 = .ok (.istore 7, 2) := by decide +kernel
theorem dC_mean_34 : decode prog_1_method_30_code 34 = .ok (.iload 7, 2) := by decide +kernel
theorem dC_mean_36 : decode prog_1_method_30_code 36 = .ok (.ifCond .lt (51), 3) := by decide +kernel
theorem dC_mean_39 : decode prog_1_method_30_code 39 = .ok (.aload_n 0, 1) := by decide +kernel
theorem dC_mean_40 : decode prog_1_method_30_code 40 = .ok (.getfield 46, 3) := by decide +kernel
theorem dC_mean_43 : decode prog_1_method_30_code 43 = .ok (.iload 7, 2) := by decide +kernel
theorem dC_mean_45 : decode prog_1_method_30_code 45 = .ok (.invokevirtual 229, 3) := by decide +kernel
theorem dC_mean_48 : decode prog_1_method_30_code 48 = .ok (.astore 8, 2) := by decide +kernel
theorem dC_mean_50 : decode prog_1_method_30_code 50 = .ok (.aload 8, 2) := by decide +kernel
theorem dC_mean_52 : decode prog_1_method_30_code 52 = .ok (.iload_n 1, 1) := by decide +kernel
theorem dC_mean_53 : decode prog_1_method_30_code 53 = .ok (.invokevirtual 246, 3) := by decide +kernel
theorem dC_mean_56 : decode prog_1_method_30_code 56 = .ok (.lload 5, 2) := by decide +kernel
theorem dC_mean_58 : decode prog_1_method_30_code 58 = .ok (.lmul, 1) := by decide +kernel
theorem dC_mean_59 : decode prog_1_method_30_code 59 = .ok (.aload 8, 2) := by decide +kernel
theorem dC_mean_61 : decode prog_1_method_30_code 61 = .ok (.iload_n 1, 1) := by decide +kernel
theorem dC_mean_62 : decode prog_1_method_30_code 62 = .ok (.invokevirtual 232, 3) := by decide +kernel
theorem dC_mean_65 : decode prog_1_method_30_code 65 = .ok (.lload_n 3, 1) := by decide +kernel
theorem dC_mean_66 : decode prog_1_method_30_code 66 = .ok (.lmul, 1) := by decide +kernel
theorem dC_mean_67 : decode prog_1_method_30_code 67 = .ok (.ladd, 1) := by decide +kernel
theorem dC_mean_68 : decode prog_1_method_30_code 68 = .ok (.lstore_n 3, 1) := by decide +kernel
theorem dC_mean_69 : decode prog_1_method_30_code 69 = .ok (.lload 5, 2) := by decide +kernel
theorem dC_mean_71 : decode prog_1_method_30_code 71 = .ok (.ldc2_w 236, 3) := by decide +kernel
theorem dC_mean_74 : decode prog_1_method_30_code 74 = .ok (.iload_n 1, 1) := by decide +kernel
theorem dC_mean_75 : decode prog_1_method_30_code 75 = .ok (.invokestatic 238, 3) := by decide +kernel
theorem dC_mean_78 : decode prog_1_method_30_code 78 = .ok (.lmul, 1) := by decide +kernel
theorem dC_mean_79 : decode prog_1_method_30_code 79 = .ok (.lstore 5, 2) := by decide +kernel
theorem dC_mean_81 : decode prog_1_method_30_code 81 = .ok (.iinc 7 (-1), 3) := by decide +kernel
theorem dC_mean_84 : decode prog_1_method_30_code 84 = .ok (.goto (-50), 3) := by decide +kernel
theorem dC_mean_87 : decode prog_1_method_30_code 87 = .ok (.lload_n 3, 1) := by decide +kernel
theorem dC_mean_88 : decode prog_1_method_30_code 88 = .ok (.lload 5, 2) := by decide +kernel
theorem dC_mean_90 : decode prog_1_method_30_code 90 = .ok (.iload_n 2, 1) := by decide +kernel
theorem dC_mean_91 : decode prog_1_method_30_code 91 = .ok (.invokestatic 242, 3) := by decide +kernel
theorem dC_mean_94 : decode prog_1_method_30_code 94 = .ok (.lreturn, 1) := by decide +kernel
theorem dM_mean_0 : decode prog_14_method_81_code 0 = .ok (.iload_n 1, 1) := by decide +kernel
theorem dM_mean_1 : decode prog_14_method_81_code 1 = .ok (.iconst (1), 1) := by decide +kernel
theorem dM_mean_2 : decode prog_14_method_81_code 2 = .ok (.iconst (3), 1) := by decide +kernel
theorem dM_mean_3 : decode prog_14_method_81_code 3 = .ok (.invokestatic 148, 3) := by decide +kernel
theorem dM_mean_6 : decode prog_14_method_81_code 6 = .ok (.ifCond .eq (12), 3) := by decide +kernel
theorem dM_mean_9 : decode prog_14_method_81_code 9 = .ok (.iload_n 2, 1) := by decide +kernel
theorem dM_mean_10 : decode prog_14_method_81_code 10 = .ok (.iconst (0), 1) := by decide +kernel
theorem dM_mean_11 : decode prog_14_method_81_code 11 = .ok (.iconst (1), 1) := by decide +kernel
theorem dM_mean_12 : decode prog_14_method_81_code 12 = .ok (.invokestatic 148, 3) := by decide +kernel
theorem dM_mean_15 : decode prog_14_method_81_code 15 = .ok (.ifCond .ne (7), 3) := by decide +kernel
theorem dM_mean_18 : decode prog_14_method_81_code 18 = .ok (.ldc2_w 348, 3) := by decide +kernel
theorem dM_mean_21 : decode prog_14_method_81_code 21 = .ok (.lreturn, 1) := by decide +kernel
theorem dM_mean_22 : decode prog_14_method_81_code 22 = .ok (.lconst 0, 1) := by decide +kernel
theorem dM_mean_23 : decode prog_14_method_81_code 23 = .ok (.lstore_n 3, 1) := by decide +kernel
theorem dM_mean_24 : decode prog_14_method_81_code 24 = .ok (.lconst 1, 1) := by decide +kernel
theorem dM_mean_25 : decode prog_14_method_81_code 25 = .ok (.lstore 5, 2) := by decide +kernel
theorem dM_mean_27 : decode prog_14_method_81_code 27 = .ok (.lconst 1, 1) := by decide +kernel
theorem dM_mean_28 : decode prog_14_method_81_code 28 = .ok (.lstore 7, 2) := by decide +kernel
theorem dM_mean_30 : decode prog_14_method_81_code 30 = .ok (.iconst (0), 1) := by decide +kernel
theorem dM_mean_31 : decode prog_14_method_81_code 31 = .ok (.istore 9, 2) := by decide +kernel
theorem dM_mean_33 : decode prog_14_method_81_code 33 = .ok (.iload 9, 2) := by decide +kernel
theorem dM_mean_35 : decode prog_14_method_81_code 35 = .ok (.aload_n 0, 1) := by decide +kernel
theorem dM_mean_36 : decode prog_14_method_81_code 36 = .ok (.getfield 315, 3) := by decide +kernel
theorem dM_mean_39 : decode prog_14_method_81_code 39 = .ok (.if_icmp .ge (142), 3) := by decide +kernel
theorem dM_mean_42 : decode prog_14_method_81_code 42 = .ok (.aload_n 0, 1) := by decide +kernel
theorem dM_mean_43 : decode prog_14_method_81_code 43 = .ok (.getfield 33, 3) := by decide +kernel
theorem dM_mean_46 : decode prog_14_method_81_code 46 = .ok (.iconst (5), 1) := by decide +kernel
theorem dM_mean_47 : decode prog_14_method_81_code 47 = .ok (.aload_n 0, 1) := by decide +kernel
theorem dM_mean_48 : decode prog_14_method_81_code 48 = .ok (.getfield 39, 3) := by decide +kernel
theorem dM_mean_51 : decode prog_14_method_81_code 51 = .ok (.iload 9, 2) := by decide +kernel
theorem dM_mean_53 : decode prog_14_method_81_code 53 = .ok (.iaload, 1) := by decide +kernel
theorem dM_mean_54 : decode prog_14_method_81_code 54 = .ok (.imul, 1) := by decide +kernel
theorem dM_mean_55 : decode prog_14_method_81_code 55 = .ok (.iconst (1), 1) := by decide +kernel
theorem dM_mean_56 : decode prog_14_method_81_code 56 = .ok (.iadd, 1) := by decide +kernel
theorem dM_mean_57 : decode prog_14_method_81_code 57 = .ok (.iaload, 1) := by decide +kernel
theorem dM_mean_58 : decode prog_14_method_81_code 58 = .ok (.i2l, 1) := by decide +kernel
theorem dM_mean_59 : decode prog_14_method_81_code 59 = .ok (.lstore 10, 2) := by decide +kernel
theorem dM_mean_61 : decode prog_14_method_81_code 61 = .ok (.iload_n 1, 1) := by decide +kernel
theorem dM_mean_62 : decode prog_14_method_81_code 62 = .ok (.iconst (1), 1) := by decide +kernel
theorem dM_mean_63 : decode prog_14_method_81_code 63 = .ok (.if_icmp .ne (9), 3) := by decide +kernel
theorem dM_mean_66 : decode prog_14_method_81_code 66 = .ok (.ldc2_w 350, 3) := by decide +kernel
theorem dM_mean_69 : decode prog_14_method_81_code 69 = .ok (.goto (41), 3) := by decide +kernel
theorem dM_mean_72 : decode prog_14_method_81_code 72 = .ok (.iload_n 1, 1) := by decide +kernel
theorem dM_mean_73 : decode prog_14_method_81_code 73 = .ok (.iconst (2), 1) := by decide +kernel
theorem dM_mean_74 : decode prog_14_method_81_code 74 = .ok (.if_icmp .ne (16), 3) := by decide +kernel
