theorem dLe_init_0 : decode prog_6_method_1_code 0 = .ok (.aload_n 0, 1) := by decide +kernel
theorem dLe_init_1 : decode prog_6_method_1_code 1 = .ok (.invokespecial 1, 3) := by decide +kernel
theorem dLe_init_4 : decode prog_6_method_1_code 4 = .ok (.return_, 1) := by decide +kernel
theorem dPa_init_0 : decode prog_8_method_1_code 0 = .ok (.aload_n 0, 1) := by decide +kernel
theorem dPa_init_1 : decode prog_8_method_1_code 1 = .ok (.invokespecial 3, 3) := by decide +kernel
theorem dPa_init_4 : decode prog_8_method_1_code 4 = .ok (.aload_n 0, 1) := by decide +kernel
theorem dPa_init_5 : decode prog_8_method_1_code 5 = .ok (.bipush (80), 2) := by decide +kernel
theorem dPa_init_7 : decode prog_8_method_1_code 7 = .ok (.newarray .int, 2) := by decide +kernel
theorem dPa_init_9 : decode prog_8_method_1_code 9 = .ok (.putfield 9, 3) := by decide +kernel
theorem dPa_init_12 : decode prog_8_method_1_code 12 = .ok (.aload_n 0, 1) := by decide +kernel
theorem dPa_init_13 : decode prog_8_method_1_code 13 = .ok (.bipush (81), 2) := by decide +kernel
theorem dPa_init_15 : decode prog_8_method_1_code 15 = .ok (.anewarray 15, 3) := by decide +kernel
theorem dPa_init_18 : decode prog_8_method_1_code 18 = .ok (.putfield 17, 3) := by decide +kernel
theorem dPa_init_21 : decode prog_8_method_1_code 21 = .ok (.aload_n 0, 1) := by decide +kernel
theorem dPa_init_22 : decode prog_8_method_1_code 22 = .ok (.bipush (41), 2) := by decide +kernel
theorem dPa_init_24 : decode prog_8_method_1_code 24 = .ok (.newarray .int, 2) := by decide +kernel
theorem dPa_init_26 : decode prog_8_method_1_code 26 = .ok (.putfield 21, 3) := by decide +kernel
theorem dPa_init_29 : decode prog_8_method_1_code 29 = .ok (.aload_n 0, 1) := by decide +kernel
theorem dPa_init_30 : decode prog_8_method_1_code 30 = .ok (.bipush (41), 2) := by decide +kernel
theorem dPa_init_32 : decode prog_8_method_1_code 32 = .ok (.newarray .long, 2) := by decide +kernel
theorem dPa_init_34 : decode prog_8_method_1_code 34 = .ok (.putfield 24, 3) := by decide +kernel
theorem dPa_init_37 : decode prog_8_method_1_code 37 = .ok (.aload_n 0, 1) := by decide +kernel
theorem dPa_init_38 : decode prog_8_method_1_code 38 = .ok (.iconst (-1), 1) := by decide +kernel
theorem dPa_init_39 : decode prog_8_method_1_code 39 = .ok (.putfield 28, 3) := by decide +kernel
theorem dPa_init_42 : decode prog_8_method_1_code 42 = .ok (.iconst (0), 1) := by decide +kernel
theorem dPa_init_43 : decode prog_8_method_1_code 43 = .ok (.istore_n 1, 1) := by decide +kernel
theorem dPa_init_44 : decode prog_8_method_1_code 44 = .ok (.iload_n 1, 1) := by decide +kernel
theorem dPa_init_45 : decode prog_8_method_1_code 45 = .ok (.aload_n 0, 1) := by decide +kernel
theorem dPa_init_46 : decode prog_8_method_1_code 46 = .ok (.getfield 17, 3) := by decide +kernel
theorem dPa_init_49 : decode prog_8_method_1_code 49 = .ok (.arraylength, 1) := by decide +kernel
theorem dPa_init_50 : decode prog_8_method_1_code 50 = .ok (.if_icmp .ge (22), 3) := by decide +kernel
theorem dPa_init_53 : decode prog_8_method_1_code 53 = .ok (.aload_n 0, 1) := by decide +kernel
theorem dPa_init_54 : decode prog_8_method_1_code 54 = .ok (.getfield 17, 3) := by decide +kernel
theorem dPa_init_57 : decode prog_8_method_1_code 57 = .ok (.iload_n 1, 1) := by decide +kernel
theorem dPa_init_58 : decode prog_8_method_1_code 58 = .ok (.new 15, 3) := by decide +kernel
theorem dPa_init_61 : decode prog_8_method_1_code 61 = .ok (.dup, 1) := by decide +kernel
theorem dPa_init_62 : decode prog_8_method_1_code 62 = .ok (.invokespecial 32, 3) := by decide +kernel
theorem dPa_init_65 : decode prog_8_method_1_code 65 = .ok (.aastore, 1) := by decide +kernel
theorem dPa_init_66 : decode prog_8_method_1_code 66 = .ok (.iinc 1 (1), 3) := by decide +kernel
theorem dPa_init_69 : decode prog_8_method_1_code 69 = .ok (.goto (-25), 3) := by decide +kernel
theorem dPa_init_72 : decode prog_8_method_1_code 72 = .ok (.return_, 1) := by decide +kernel
theorem dWa_init_0 : decode prog_11_method_1_code 0 = .ok (.aload_n 0, 1) := by decide +kernel
theorem dWa_init_1 : decode prog_11_method_1_code 1 = .ok (.invokespecial 3, 3) := by decide +kernel
theorem dWa_init_4 : decode prog_11_method_1_code 4 = .ok (.aload_n 0, 1) := by decide +kernel
theorem dWa_init_5 : decode prog_11_method_1_code 5 = .ok (.sipush (4000), 3) := by decide +kernel
theorem dWa_init_8 : decode prog_11_method_1_code 8 = .ok (.newarray .int, 2) := by decide +kernel
theorem dWa_init_10 : decode prog_11_method_1_code 10 = .ok (.putfield 9, 3) := by decide +kernel
theorem dWa_init_13 : decode prog_11_method_1_code 13 = .ok (.aload_n 0, 1) := by decide +kernel
theorem dWa_init_14 : decode prog_11_method_1_code 14 = .ok (.sipush (4000), 3) := by decide +kernel
theorem dWa_init_17 : decode prog_11_method_1_code 17 = .ok (.newarray .int, 2) := by decide +kernel
theorem dWa_init_19 : decode prog_11_method_1_code 19 = .ok (.putfield 15, 3) := by decide +kernel
theorem dWa_init_22 : decode prog_11_method_1_code 22 = .ok (.aload_n 0, 1) := by decide +kernel
theorem dWa_init_23 : decode prog_11_method_1_code 23 = .ok (.sipush (4000), 3) := by decide +kernel
theorem dWa_init_26 : decode prog_11_method_1_code 26 = .ok (.newarray .int, 2) := by decide +kernel
theorem dWa_init_28 : decode prog_11_method_1_code 28 = .ok (.putfield 18, 3) := by decide +kernel
theorem dWa_init_31 : decode prog_11_method_1_code 31 = .ok (.aload_n 0, 1) := by decide +kernel
theorem dWa_init_32 : decode prog_11_method_1_code 32 = .ok (.sipush (8192), 3) := by decide +kernel
theorem dWa_init_35 : decode prog_11_method_1_code 35 = .ok (.newarray .int, 2) := by decide +kernel
theorem dWa_init_37 : decode prog_11_method_1_code 37 = .ok (.putfield 21, 3) := by decide +kernel
theorem dWa_init_40 : decode prog_11_method_1_code 40 = .ok (.aload_n 0, 1) := by decide +kernel
theorem dWa_init_41 : decode prog_11_method_1_code 41 = .ok (.sipush (4000), 3) := by decide +kernel
theorem dWa_init_44 : decode prog_11_method_1_code 44 = .ok (.newarray .int, 2) := by decide +kernel
theorem dWa_init_46 : decode prog_11_method_1_code 46 = .ok (.putfield 24, 3) := by decide +kernel
theorem dWa_init_49 : decode prog_11_method_1_code 49 = .ok (.return_, 1) := by decide +kernel
theorem dFi_init_0 : decode prog_3_method_1_code 0 = .ok (.aload_n 0, 1) := by decide +kernel
theorem dFi_init_1 : decode prog_3_method_1_code 1 = .ok (.invokespecial 3, 3) := by decide +kernel
theorem dFi_init_4 : decode prog_3_method_1_code 4 = .ok (.aload_n 0, 1) := by decide +kernel
theorem dFi_init_5 : decode prog_3_method_1_code 5 = .ok (.bipush (25), 2) := by decide +kernel
theorem dFi_init_7 : decode prog_3_method_1_code 7 = .ok (.newarray .int, 2) := by decide +kernel
theorem dFi_init_9 : decode prog_3_method_1_code 9 = .ok (.putfield 9, 3) := by decide +kernel
theorem dFi_init_12 : decode prog_3_method_1_code 12 = .ok (.return_, 1) := by decide +kernel
theorem dAd_init_0 : decode prog_2_method_1_code 0 = .ok (.aload_n 0, 1) := by decide +kernel
theorem dAd_init_1 : decode prog_2_method_1_code 1 = .ok (.invokespecial 3, 3) := by decide +kernel
theorem dAd_init_4 : decode prog_2_method_1_code 4 = .ok (.aload_n 0, 1) := by decide +kernel
theorem dAd_init_5 : decode prog_2_method_1_code 5 = .ok (.sipush (6720), 3) := by decide +kernel
theorem dAd_init_8 : decode prog_2_method_1_code 8 = .ok (.newarray .int, 2) := by decide +kernel
theorem dAd_init_10 : decode prog_2_method_1_code 10 = .ok (.putfield 9, 3) := by decide +kernel
theorem dAd_init_13 : decode prog_2_method_1_code 13 = .ok (.aload_n 0, 1) := by decide +kernel
theorem dAd_init_14 : decode prog_2_method_1_code 14 = .ok (.iconst (5), 1) := by decide +kernel
theorem dAd_init_15 : decode prog_2_method_1_code 15 = .ok (.newarray .int, 2) := by decide +kernel
theorem dAd_init_17 : decode prog_2_method_1_code 17 = .ok (.putfield 15, 3) := by decide +kernel
theorem dAd_init_20 : decode prog_2_method_1_code 20 = .ok (.aload_n 0, 1) := by decide +kernel
theorem dAd_init_21 : decode prog_2_method_1_code 21 = .ok (.bipush (8), 2) := by decide +kernel
theorem dAd_init_23 : decode prog_2_method_1_code 23 = .ok (.newarray .int, 2) := by decide +kernel
theorem dAd_init_25 : decode prog_2_method_1_code 25 = .ok (.putfield 18, 3) := by decide +kernel
theorem dAd_init_28 : decode prog_2_method_1_code 28 = .ok (.aload_n 0, 1) := by decide +kernel
theorem dAd_init_29 : decode prog_2_method_1_code 29 = .ok (.bipush (8), 2) := by decide +kernel
theorem dAd_init_31 : decode prog_2_method_1_code 31 = .ok (.newarray .int, 2) := by decide +kernel
theorem dAd_init_33 : decode prog_2_method_1_code 33 = .ok (.putfield 21, 3) := by decide +kernel
theorem dAd_init_36 : decode prog_2_method_1_code 36 = .ok (.aload_n 0, 1) := by decide +kernel
theorem dAd_init_37 : decode prog_2_method_1_code 37 = .ok (.bipush (25), 2) := by decide +kernel
theorem dAd_init_39 : decode prog_2_method_1_code 39 = .ok (.newarray .int, 2) := by decide +kernel
theorem dAd_init_41 : decode prog_2_method_1_code 41 = .ok (.putfield 24, 3) := by decide +kernel
theorem dAd_init_44 : decode prog_2_method_1_code 44 = .ok (.aload_n 0, 1) := by decide +kernel
theorem dAd_init_45 : decode prog_2_method_1_code 45 = .ok (.sipush (625), 3) := by decide +kernel
theorem dAd_init_48 : decode prog_2_method_1_code 48 = .ok (.newarray .int, 2) := by decide +kernel
theorem dAd_init_50 : decode prog_2_method_1_code 50 = .ok (.putfield 27, 3) := by decide +kernel
theorem dAd_init_53 : decode prog_2_method_1_code 53 = .ok (.return_, 1) := by decide +kernel
theorem dGo_init_0 : decode prog_4_method_1_code 0 = .ok (.aload_n 0, 1) := by decide +kernel
theorem dGo_init_1 : decode prog_4_method_1_code 1 = .ok (.invokespecial 3, 3) := by decide +kernel
theorem dGo_init_4 : decode prog_4_method_1_code 4 = .ok (.aload_n 0, 1) := by decide +kernel
theorem dGo_init_5 : decode prog_4_method_1_code 5 = .ok (.bipush (12), 2) := by decide +kernel
theorem dGo_init_7 : decode prog_4_method_1_code 7 = .ok (.newarray .int, 2) := by decide +kernel
theorem dGo_init_9 : decode prog_4_method_1_code 9 = .ok (.putfield 9, 3) := by decide +kernel
theorem dGo_init_12 : decode prog_4_method_1_code 12 = .ok (.aload_n 0, 1) := by decide +kernel
theorem dGo_init_13 : decode prog_4_method_1_code 13 = .ok (.bipush (8), 2) := by decide +kernel
theorem dGo_init_15 : decode prog_4_method_1_code 15 = .ok (.newarray .int, 2) := by decide +kernel
theorem dGo_init_17 : decode prog_4_method_1_code 17 = .ok (.putfield 15, 3) := by decide +kernel
theorem dGo_init_20 : decode prog_4_method_1_code 20 = .ok (.return_, 1) := by decide +kernel
theorem dRo_init_0 : decode prog_9_method_1_code 0 = .ok (.aload_n 0, 1) := by decide +kernel
theorem dRo_init_1 : decode prog_9_method_1_code 1 = .ok (.invokespecial 3, 3) := by decide +kernel
theorem dRo_init_4 : decode prog_9_method_1_code 4 = .ok (.aload_n 0, 1) := by decide +kernel
theorem dRo_init_5 : decode prog_9_method_1_code 5 = .ok (.bipush (8), 2) := by decide +kernel
theorem dRo_init_7 : decode prog_9_method_1_code 7 = .ok (.anewarray 9, 3) := by decide +kernel
theorem dRo_init_10 : decode prog_9_method_1_code 10 = .ok (.putfield 11, 3) := by decide +kernel
theorem dRo_init_13 : decode prog_9_method_1_code 13 = .ok (.aload_n 0, 1) := by decide +kernel
theorem dRo_init_14 : decode prog_9_method_1_code 14 = .ok (.bipush (12), 2) := by decide +kernel
theorem dRo_init_16 : decode prog_9_method_1_code 16 = .ok (.newarray .int, 2) := by decide +kernel
theorem dRo_init_18 : decode prog_9_method_1_code 18 = .ok (.putfield 17, 3) := by decide +kernel
theorem dRo_init_21 : decode prog_9_method_1_code 21 = .ok (.aload_n 0, 1) := by decide +kernel
theorem dRo_init_22 : decode prog_9_method_1_code 22 = .ok (.iconst (5), 1) := by decide +kernel
theorem dRo_init_23 : decode prog_9_method_1_code 23 = .ok (.newarray .int, 2) := by decide +kernel
theorem dRo_init_25 : decode prog_9_method_1_code 25 = .ok (.putfield 21, 3) := by decide +kernel
theorem dRo_init_28 : decode prog_9_method_1_code 28 = .ok (.aload_n 0, 1) := by decide +kernel
theorem dRo_init_29 : decode prog_9_method_1_code 29 = .ok (.bipush (6), 2) := by decide +kernel
theorem dRo_init_31 : decode prog_9_method_1_code 31 = .ok (.anewarray 24, 3) := by decide +kernel
theorem dRo_init_34 : decode prog_9_method_1_code 34 = .ok (.putfield 26, 3) := by decide +kernel
theorem dRo_init_37 : decode prog_9_method_1_code 37 = .ok (.aload_n 0, 1) := by decide +kernel
theorem dRo_init_38 : decode prog_9_method_1_code 38 = .ok (.new 24, 3) := by decide +kernel
theorem dRo_init_41 : decode prog_9_method_1_code 41 = .ok (.dup, 1) := by decide +kernel
theorem dRo_init_42 : decode prog_9_method_1_code 42 = .ok (.invokespecial 30, 3) := by decide +kernel
theorem dRo_init_45 : decode prog_9_method_1_code 45 = .ok (.putfield 31, 3) := by decide +kernel
theorem dRo_init_48 : decode prog_9_method_1_code 48 = .ok (.aload_n 0, 1) := by decide +kernel
theorem dRo_init_49 : decode prog_9_method_1_code 49 = .ok (.iconst (5), 1) := by decide +kernel
theorem dRo_init_50 : decode prog_9_method_1_code 50 = .ok (.newarray .int, 2) := by decide +kernel
theorem dRo_init_52 : decode prog_9_method_1_code 52 = .ok (.putfield 35, 3) := by decide +kernel
theorem dRo_init_55 : decode prog_9_method_1_code 55 = .ok (.aload_n 0, 1) := by decide +kernel
theorem dRo_init_56 : decode prog_9_method_1_code 56 = .ok (.iconst (5), 1) := by decide +kernel
theorem dRo_init_57 : decode prog_9_method_1_code 57 = .ok (.newarray .int, 2) := by decide +kernel
theorem dRo_init_59 : decode prog_9_method_1_code 59 = .ok (.putfield 38, 3) := by decide +kernel
theorem dRo_init_62 : decode prog_9_method_1_code 62 = .ok (.iconst (0), 1) := by decide +kernel
theorem dRo_init_63 : decode prog_9_method_1_code 63 = .ok (.istore_n 1, 1) := by decide +kernel
theorem dRo_init_64 : decode prog_9_method_1_code 64 = .ok (.iload_n 1, 1) := by decide +kernel
theorem dRo_init_65 : decode prog_9_method_1_code 65 = .ok (.aload_n 0, 1) := by decide +kernel
theorem dRo_init_66 : decode prog_9_method_1_code 66 = .ok (.getfield 26, 3) := by decide +kernel
theorem dRo_init_69 : decode prog_9_method_1_code 69 = .ok (.arraylength, 1) := by decide +kernel
theorem dRo_init_70 : decode prog_9_method_1_code 70 = .ok (.if_icmp .ge (22), 3) := by decide +kernel
theorem dRo_init_73 : decode prog_9_method_1_code 73 = .ok (.aload_n 0, 1) := by decide +kernel
theorem dRo_init_74 : decode prog_9_method_1_code 74 = .ok (.getfield 26, 3) := by decide +kernel
theorem dRo_init_77 : decode prog_9_method_1_code 77 = .ok (.iload_n 1, 1) := by decide +kernel
theorem dRo_init_78 : decode prog_9_method_1_code 78 = .ok (.new 24, 3) := by decide +kernel
theorem dRo_init_81 : decode prog_9_method_1_code 81 = .ok (.dup, 1) := by decide +kernel
theorem dRo_init_82 : decode prog_9_method_1_code 82 = .ok (.invokespecial 30, 3) := by decide +kernel
theorem dRo_init_85 : decode prog_9_method_1_code 85 = .ok (.aastore, 1) := by decide +kernel
theorem dRo_init_86 : decode prog_9_method_1_code 86 = .ok (.iinc 1 (1), 3) := by decide +kernel
theorem dRo_init_89 : decode prog_9_method_1_code 89 = .ok (.goto (-25), 3) := by decide +kernel
theorem dRo_init_92 : decode prog_9_method_1_code 92 = .ok (.return_, 1) := by decide +kernel
theorem dWo_init_0 : decode prog_12_method_1_code 0 = .ok (.aload_n 0, 1) := by decide +kernel
theorem dWo_init_1 : decode prog_12_method_1_code 1 = .ok (.invokespecial 3, 3) := by decide +kernel
theorem dWo_init_4 : decode prog_12_method_1_code 4 = .ok (.aload_n 0, 1) := by decide +kernel
theorem dWo_init_5 : decode prog_12_method_1_code 5 = .ok (.bipush (64), 2) := by decide +kernel
theorem dWo_init_7 : decode prog_12_method_1_code 7 = .ok (.newarray .long, 2) := by decide +kernel
theorem dWo_init_9 : decode prog_12_method_1_code 9 = .ok (.putfield 9, 3) := by decide +kernel
theorem dWo_init_12 : decode prog_12_method_1_code 12 = .ok (.return_, 1) := by decide +kernel
theorem dLo_init_0 : decode prog_7_method_1_code 0 = .ok (.aload_n 0, 1) := by decide +kernel
theorem dLo_init_1 : decode prog_7_method_1_code 1 = .ok (.invokespecial 3, 3) := by decide +kernel
theorem dLo_init_4 : decode prog_7_method_1_code 4 = .ok (.aload_n 0, 1) := by decide +kernel
theorem dLo_init_5 : decode prog_7_method_1_code 5 = .ok (.bipush (31), 2) := by decide +kernel
theorem dLo_init_7 : decode prog_7_method_1_code 7 = .ok (.anewarray 9, 3) := by decide +kernel
theorem dLo_init_10 : decode prog_7_method_1_code 10 = .ok (.putfield 11, 3) := by decide +kernel
theorem dLo_init_13 : decode prog_7_method_1_code 13 = .ok (.aload_n 0, 1) := by decide +kernel
theorem dLo_init_14 : decode prog_7_method_1_code 14 = .ok (.new 9, 3) := by decide +kernel
theorem dLo_init_17 : decode prog_7_method_1_code 17 = .ok (.dup, 1) := by decide +kernel
theorem dLo_init_18 : decode prog_7_method_1_code 18 = .ok (.invokespecial 17, 3) := by decide +kernel
theorem dLo_init_21 : decode prog_7_method_1_code 21 = .ok (.putfield 18, 3) := by decide +kernel
theorem dLo_init_24 : decode prog_7_method_1_code 24 = .ok (.iconst (0), 1) := by decide +kernel
theorem dLo_init_25 : decode prog_7_method_1_code 25 = .ok (.istore_n 1, 1) := by decide +kernel
theorem dLo_init_26 : decode prog_7_method_1_code 26 = .ok (.iload_n 1, 1) := by decide +kernel
theorem dLo_init_27 : decode prog_7_method_1_code 27 = .ok (.aload_n 0, 1) := by decide +kernel
theorem dLo_init_28 : decode prog_7_method_1_code 28 = .ok (.getfield 11, 3) := by decide +kernel
theorem dLo_init_31 : decode prog_7_method_1_code 31 = .ok (.arraylength, 1) := by decide +kernel
theorem dLo_init_32 : decode prog_7_method_1_code 32 = .ok (.if_icmp .ge (22), 3) := by decide +kernel
theorem dLo_init_35 : decode prog_7_method_1_code 35 = .ok (.aload_n 0, 1) := by decide +kernel
theorem dLo_init_36 : decode prog_7_method_1_code 36 = .ok (.getfield 11, 3) := by decide +kernel
theorem dLo_init_39 : decode prog_7_method_1_code 39 = .ok (.iload_n 1, 1) := by decide +kernel
theorem dLo_init_40 : decode prog_7_method_1_code 40 = .ok (.new 9, 3) := by decide +kernel
theorem dLo_init_43 : decode prog_7_method_1_code 43 = .ok (.dup, 1) := by decide +kernel
theorem dLo_init_44 : decode prog_7_method_1_code 44 = .ok (.invokespecial 17, 3) := by decide +kernel
theorem dLo_init_47 : decode prog_7_method_1_code 47 = .ok (.aastore, 1) := by decide +kernel
theorem dLo_init_48 : decode prog_7_method_1_code 48 = .ok (.iinc 1 (1), 3) := by decide +kernel
theorem dLo_init_51 : decode prog_7_method_1_code 51 = .ok (.goto (-25), 3) := by decide +kernel
theorem dLo_init_54 : decode prog_7_method_1_code 54 = .ok (.return_, 1) := by decide +kernel
theorem djA_fill_J_0 : decode prog_19_method_101_code 0 = .ok (.iconst (0), 1) := by decide +kernel
theorem djA_fill_J_1 : decode prog_19_method_101_code 1 = .ok (.istore_n 3, 1) := by decide +kernel
theorem djA_fill_J_2 : decode prog_19_method_101_code 2 = .ok (.aload_n 0, 1) := by decide +kernel
theorem djA_fill_J_3 : decode prog_19_method_101_code 3 = .ok (.arraylength, 1) := by decide +kernel
theorem djA_fill_J_4 : decode prog_19_method_101_code 4 = .ok (.istore 4, 2) := by decide +kernel
theorem djA_fill_J_6 : decode prog_19_method_101_code 6 = .ok (.iload_n 3, 1) := by decide +kernel
theorem djA_fill_J_7 : decode prog_19_method_101_code 7 = .ok (.iload 4, 2) := by decide +kernel
theorem djA_fill_J_9 : decode prog_19_method_101_code 9 = .ok (.if_icmp .ge (13), 3) := by decide +kernel
theorem djA_fill_J_12 : decode prog_19_method_101_code 12 = .ok (.aload_n 0, 1) := by decide +kernel
theorem djA_fill_J_13 : decode prog_19_method_101_code 13 = .ok (.iload_n 3, 1) := by decide +kernel
theorem djA_fill_J_14 : decode prog_19_method_101_code 14 = .ok (.lload_n 1, 1) := by decide +kernel
theorem djA_fill_J_15 : decode prog_19_method_101_code 15 = .ok (.lastore, 1) := by decide +kernel
theorem djA_fill_J_16 : decode prog_19_method_101_code 16 = .ok (.iinc 3 (1), 3) := by decide +kernel
theorem djA_fill_J_19 : decode prog_19_method_101_code 19 = .ok (.goto (-13), 3) := by decide +kernel
theorem djA_fill_J_22 : decode prog_19_method_101_code 22 = .ok (.return_, 1) := by decide +kernel
theorem dWo_becomeOnly_0 : decode prog_12_method_3_code 0 = .ok (.aload_n 0, 1) := by decide +kernel
theorem dWo_becomeOnly_1 : decode prog_12_method_3_code 1 = .ok (.getfield 9, 3) := by decide +kernel
theorem dWo_becomeOnly_4 : decode prog_12_method_3_code 4 = .ok (.lconst 0, 1) := by decide +kernel
theorem dWo_becomeOnly_5 : decode prog_12_method_3_code 5 = .ok (.invokestatic 21, 3) := by decide +kernel
theorem dWo_becomeOnly_8 : decode prog_12_method_3_code 8 = .ok (.aload_n 0, 1) := by decide +kernel
theorem dWo_becomeOnly_9 : decode prog_12_method_3_code 9 = .ok (.getfield 9, 3) := by decide +kernel
theorem dWo_becomeOnly_12 : decode prog_12_method_3_code 12 = .ok (.iload_n 1, 1) := by decide +kernel
theorem dWo_becomeOnly_13 : decode prog_12_method_3_code 13 = .ok (.bipush (6), 2) := by decide +kernel
theorem dWo_becomeOnly_15 : decode prog_12_method_3_code 15 = .ok (.ishr, 1) := by decide +kernel
theorem dWo_becomeOnly_16 : decode prog_12_method_3_code 16 = .ok (.bipush (63), 2) := by decide +kernel
theorem dWo_becomeOnly_18 : decode prog_12_method_3_code 18 = .ok (.iand, 1) := by decide +kernel
theorem dWo_becomeOnly_19 : decode prog_12_method_3_code 19 = .ok (.lconst 1, 1) := by decide +kernel
theorem dWo_becomeOnly_20 : decode prog_12_method_3_code 20 = .ok (.iload_n 1, 1) := by decide +kernel
theorem dWo_becomeOnly_21 : decode prog_12_method_3_code 21 = .ok (.bipush (63), 2) := by decide +kernel
theorem dWo_becomeOnly_23 : decode prog_12_method_3_code 23 = .ok (.iand, 1) := by decide +kernel
theorem dWo_becomeOnly_24 : decode prog_12_method_3_code 24 = .ok (.lshl, 1) := by decide +kernel
theorem dWo_becomeOnly_25 : decode prog_12_method_3_code 25 = .ok (.lastore, 1) := by decide +kernel
theorem dWo_becomeOnly_26 : decode prog_12_method_3_code 26 = .ok (.return_, 1) := by decide +kernel
theorem dLo_startWith_0 : decode prog_7_method_2_code 0 = .ok (.aload_n 0, 1) := by decide +kernel
theorem dLo_startWith_1 : decode prog_7_method_2_code 1 = .ok (.iconst (0), 1) := by decide +kernel
theorem dLo_startWith_2 : decode prog_7_method_2_code 2 = .ok (.putfield 22, 3) := by decide +kernel
theorem dLo_startWith_5 : decode prog_7_method_2_code 5 = .ok (.aload_n 0, 1) := by decide +kernel
theorem dLo_startWith_6 : decode prog_7_method_2_code 6 = .ok (.getfield 11, 3) := by decide +kernel
theorem dLo_startWith_9 : decode prog_7_method_2_code 9 = .ok (.iconst (0), 1) := by decide +kernel
theorem dLo_startWith_10 : decode prog_7_method_2_code 10 = .ok (.aaload, 1) := by decide +kernel
theorem dLo_startWith_11 : decode prog_7_method_2_code 11 = .ok (.iload_n 1, 1) := by decide +kernel
theorem dLo_startWith_12 : decode prog_7_method_2_code 12 = .ok (.invokevirtual 26, 3) := by decide +kernel
theorem dLo_startWith_15 : decode prog_7_method_2_code 15 = .ok (.return_, 1) := by decide +kernel
theorem dC_init_0 : decode prog_1_method_1_code 0 = .ok (.aload_n 0, 1) := by decide +kernel
theorem dC_init_1 : decode prog_1_method_1_code 1 = .ok (.invokespecial 1, 3) := by decide +kernel
theorem dC_init_4 : decode prog_1_method_1_code 4 = .ok (.aload_n 0, 1) := by decide +kernel
theorem dC_init_5 : decode prog_1_method_1_code 5 = .ok (.new 7, 3) := by decide +kernel
theorem dC_init_8 : decode prog_1_method_1_code 8 = .ok (.dup, 1) := by decide +kernel
theorem dC_init_9 : decode prog_1_method_1_code 9 = .ok (.invokespecial 9, 3) := by decide +kernel
theorem dC_init_12 : decode prog_1_method_1_code 12 = .ok (.putfield 10, 3) := by decide +kernel
theorem dC_init_15 : decode prog_1_method_1_code 15 = .ok (.aload_n 0, 1) := by decide +kernel
theorem dC_init_16 : decode prog_1_method_1_code 16 = .ok (.bipush (6), 2) := by decide +kernel
theorem dC_init_18 : decode prog_1_method_1_code 18 = .ok (.anewarray 16, 3) := by decide +kernel
theorem dC_init_21 : decode prog_1_method_1_code 21 = .ok (.putfield 18, 3) := by decide +kernel
theorem dC_init_24 : decode prog_1_method_1_code 24 = .ok (.aload_n 0, 1) := by decide +kernel
theorem dC_init_25 : decode prog_1_method_1_code 25 = .ok (.new 22, 3) := by decide +kernel
theorem dC_init_28 : decode prog_1_method_1_code 28 = .ok (.dup, 1) := by decide +kernel
theorem dC_init_29 : decode prog_1_method_1_code 29 = .ok (.invokespecial 24, 3) := by decide +kernel
theorem dC_init_32 : decode prog_1_method_1_code 32 = .ok (.putfield 25, 3) := by decide +kernel
theorem dC_init_35 : decode prog_1_method_1_code 35 = .ok (.aload_n 0, 1) := by decide +kernel
theorem dC_init_36 : decode prog_1_method_1_code 36 = .ok (.new 29, 3) := by decide +kernel
theorem dC_init_39 : decode prog_1_method_1_code 39 = .ok (.dup, 1) := by decide +kernel
theorem dC_init_40 : decode prog_1_method_1_code 40 = .ok (.invokespecial 31, 3) := by decide +kernel
theorem dC_init_43 : decode prog_1_method_1_code 43 = .ok (.putfield 32, 3) := by decide +kernel
theorem dC_init_46 : decode prog_1_method_1_code 46 = .ok (.aload_n 0, 1) := by decide +kernel
theorem dC_init_47 : decode prog_1_method_1_code 47 = .ok (.new 36, 3) := by decide +kernel
theorem dC_init_50 : decode prog_1_method_1_code 50 = .ok (.dup, 1) := by decide +kernel
theorem dC_init_51 : decode prog_1_method_1_code 51 = .ok (.invokespecial 38, 3) := by decide +kernel
theorem dC_init_54 : decode prog_1_method_1_code 54 = .ok (.putfield 39, 3) := by decide +kernel
theorem dC_init_57 : decode prog_1_method_1_code 57 = .ok (.aload_n 0, 1) := by decide +kernel
theorem dC_init_58 : decode prog_1_method_1_code 58 = .ok (.new 43, 3) := by decide +kernel
theorem dC_init_61 : decode prog_1_method_1_code 61 = .ok (.dup, 1) := by decide +kernel
theorem dC_init_62 : decode prog_1_method_1_code 62 = .ok (.invokespecial 45, 3) := by decide +kernel
theorem dC_init_65 : decode prog_1_method_1_code 65 = .ok (.putfield 46, 3) := by decide +kernel
theorem dC_init_68 : decode prog_1_method_1_code 68 = .ok (.aload_n 0, 1) := by decide +kernel
theorem dC_init_69 : decode prog_1_method_1_code 69 = .ok (.new 50, 3) := by decide +kernel
theorem dC_init_72 : decode prog_1_method_1_code 72 = .ok (.dup, 1) := by decide +kernel
theorem dC_init_73 : decode prog_1_method_1_code 73 = .ok (.invokespecial 52, 3) := by decide +kernel
theorem dC_init_76 : decode prog_1_method_1_code 76 = .ok (.putfield 53, 3) := by decide +kernel
theorem dC_init_79 : decode prog_1_method_1_code 79 = .ok (.aload_n 0, 1) := by decide +kernel
theorem dC_init_80 : decode prog_1_method_1_code 80 = .ok (.getfield 53, 3) := by decide +kernel
theorem dC_init_83 : decode prog_1_method_1_code 83 = .ok (.iconst (0), 1) := by decide +kernel
theorem dC_init_84 : decode prog_1_method_1_code 84 = .ok (.invokevirtual 57, 3) := by decide +kernel
theorem dC_init_87 : decode prog_1_method_1_code 87 = .ok (.return_, 1) := by decide +kernel
theorem dM_init_0 : decode prog_14_method_1_code 0 = .ok (.aload_n 0, 1) := by decide +kernel
theorem dM_init_1 : decode prog_14_method_1_code 1 = .ok (.invokespecial 1, 3) := by decide +kernel
theorem dM_init_4 : decode prog_14_method_1_code 4 = .ok (.aload_n 0, 1) := by decide +kernel
theorem dM_init_5 : decode prog_14_method_1_code 5 = .ok (.bipush (80), 2) := by decide +kernel
theorem dM_init_7 : decode prog_14_method_1_code 7 = .ok (.newarray .byte, 2) := by decide +kernel
theorem dM_init_9 : decode prog_14_method_1_code 9 = .ok (.putfield 7, 3) := by decide +kernel
theorem dM_init_12 : decode prog_14_method_1_code 12 = .ok (.aload_n 0, 1) := by decide +kernel
theorem dM_init_13 : decode prog_14_method_1_code 13 = .ok (.bipush (6), 2) := by decide +kernel
theorem dM_init_15 : decode prog_14_method_1_code 15 = .ok (.newarray .int, 2) := by decide +kernel
theorem dM_init_17 : decode prog_14_method_1_code 17 = .ok (.putfield 13, 3) := by decide +kernel
theorem dM_init_20 : decode prog_14_method_1_code 20 = .ok (.aload_n 0, 1) := by decide +kernel
theorem dM_init_21 : decode prog_14_method_1_code 21 = .ok (.sipush (2400), 3) := by decide +kernel
theorem dM_init_24 : decode prog_14_method_1_code 24 = .ok (.newarray .int, 2) := by decide +kernel
theorem dM_init_26 : decode prog_14_method_1_code 26 = .ok (.putfield 17, 3) := by decide +kernel
theorem dM_init_29 : decode prog_14_method_1_code 29 = .ok (.aload_n 0, 1) := by decide +kernel
theorem dM_init_30 : decode prog_14_method_1_code 30 = .ok (.sipush (150), 3) := by decide +kernel
theorem dM_init_33 : decode prog_14_method_1_code 33 = .ok (.newarray .boolean, 2) := by decide +kernel
theorem dM_init_35 : decode prog_14_method_1_code 35 = .ok (.putfield 20, 3) := by decide +kernel
theorem dM_init_38 : decode prog_14_method_1_code 38 = .ok (.aload_n 0, 1) := by decide +kernel
theorem dM_init_39 : decode prog_14_method_1_code 39 = .ok (.bipush (8), 2) := by decide +kernel
theorem dM_init_41 : decode prog_14_method_1_code 41 = .ok (.newarray .int, 2) := by decide +kernel
theorem dM_init_43 : decode prog_14_method_1_code 43 = .ok (.putfield 24, 3) := by decide +kernel
theorem dM_init_46 : decode prog_14_method_1_code 46 = .ok (.aload_n 0, 1) := by decide +kernel
theorem dM_init_47 : decode prog_14_method_1_code 47 = .ok (.bipush (8), 2) := by decide +kernel
theorem dM_init_49 : decode prog_14_method_1_code 49 = .ok (.newarray .int, 2) := by decide +kernel
theorem dM_init_51 : decode prog_14_method_1_code 51 = .ok (.putfield 27, 3) := by decide +kernel
theorem dM_init_54 : decode prog_14_method_1_code 54 = .ok (.aload_n 0, 1) := by decide +kernel
theorem dM_init_55 : decode prog_14_method_1_code 55 = .ok (.bipush (8), 2) := by decide +kernel
theorem dM_init_57 : decode prog_14_method_1_code 57 = .ok (.newarray .int, 2) := by decide +kernel
theorem dM_init_59 : decode prog_14_method_1_code 59 = .ok (.putfield 30, 3) := by decide +kernel
theorem dM_init_62 : decode prog_14_method_1_code 62 = .ok (.aload_n 0, 1) := by decide +kernel
theorem dM_init_63 : decode prog_14_method_1_code 63 = .ok (.bipush (40), 2) := by decide +kernel
theorem dM_init_65 : decode prog_14_method_1_code 65 = .ok (.newarray .int, 2) := by decide +kernel
theorem dM_init_67 : decode prog_14_method_1_code 67 = .ok (.putfield 33, 3) := by decide +kernel
theorem dM_init_70 : decode prog_14_method_1_code 70 = .ok (.aload_n 0, 1) := by decide +kernel
theorem dM_init_71 : decode prog_14_method_1_code 71 = .ok (.bipush (12), 2) := by decide +kernel
theorem dM_init_73 : decode prog_14_method_1_code 73 = .ok (.newarray .int, 2) := by decide +kernel
theorem dM_init_75 : decode prog_14_method_1_code 75 = .ok (.putfield 36, 3) := by decide +kernel
theorem dM_init_78 : decode prog_14_method_1_code 78 = .ok (.aload_n 0, 1) := by decide +kernel
theorem dM_init_79 : decode prog_14_method_1_code 79 = .ok (.iconst (5), 1) := by decide +kernel
theorem dM_init_80 : decode prog_14_method_1_code 80 = .ok (.newarray .int, 2) := by decide +kernel
theorem dM_init_82 : decode prog_14_method_1_code 82 = .ok (.putfield 39, 3) := by decide +kernel
theorem dM_init_85 : decode prog_14_method_1_code 85 = .ok (.aload_n 0, 1) := by decide +kernel
theorem dM_init_86 : decode prog_14_method_1_code 86 = .ok (.bipush (30), 2) := by decide +kernel
theorem dM_init_88 : decode prog_14_method_1_code 88 = .ok (.newarray .int, 2) := by decide +kernel
theorem dM_init_90 : decode prog_14_method_1_code 90 = .ok (.putfield 42, 3) := by decide +kernel
theorem dM_init_93 : decode prog_14_method_1_code 93 = .ok (.aload_n 0, 1) := by decide +kernel
theorem dM_init_94 : decode prog_14_method_1_code 94 = .ok (.bipush (30), 2) := by decide +kernel
theorem dM_init_96 : decode prog_14_method_1_code 96 = .ok (.newarray .int, 2) := by decide +kernel
theorem dM_init_98 : decode prog_14_method_1_code 98 = .ok (.putfield 45, 3) := by decide +kernel
theorem dM_init_101 : decode prog_14_method_1_code 101 = .ok (.aload_n 0, 1) := by decide +kernel
theorem dM_init_102 : decode prog_14_method_1_code 102 = .ok (.bipush (81), 2) := by decide +kernel
theorem dM_init_104 : decode prog_14_method_1_code 104 = .ok (.newarray .int, 2) := by decide +kernel
theorem dM_init_106 : decode prog_14_method_1_code 106 = .ok (.putfield 48, 3) := by decide +kernel
theorem dM_init_109 : decode prog_14_method_1_code 109 = .ok (.aload_n 0, 1) := by decide +kernel
theorem dM_init_110 : decode prog_14_method_1_code 110 = .ok (.bipush (81), 2) := by decide +kernel
theorem dM_init_112 : decode prog_14_method_1_code 112 = .ok (.newarray .int, 2) := by decide +kernel
theorem dM_init_114 : decode prog_14_method_1_code 114 = .ok (.putfield 51, 3) := by decide +kernel
theorem dM_init_117 : decode prog_14_method_1_code 117 = .ok (.aload_n 0, 1) := by decide +kernel
theorem dM_init_118 : decode prog_14_method_1_code 118 = .ok (.bipush (81), 2) := by decide +kernel
theorem dM_init_120 : decode prog_14_method_1_code 120 = .ok (.newarray .boolean, 2) := by decide +kernel
theorem dM_init_122 : decode prog_14_method_1_code 122 = .ok (.putfield 54, 3) := by decide +kernel
theorem dM_init_125 : decode prog_14_method_1_code 125 = .ok (.aload_n 0, 1) := by decide +kernel
theorem dM_init_126 : decode prog_14_method_1_code 126 = .ok (.bipush (81), 2) := by decide +kernel
theorem dM_init_128 : decode prog_14_method_1_code 128 = .ok (.newarray .long, 2) := by decide +kernel
theorem dM_init_130 : decode prog_14_method_1_code 130 = .ok (.putfield 57, 3) := by decide +kernel
theorem dM_init_133 : decode prog_14_method_1_code 133 = .ok (.aload_n 0, 1) := by decide +kernel
theorem dM_init_134 : decode prog_14_method_1_code 134 = .ok (.bipush (81), 2) := by decide +kernel
theorem dM_init_136 : decode prog_14_method_1_code 136 = .ok (.newarray .long, 2) := by decide +kernel
theorem dM_init_138 : decode prog_14_method_1_code 138 = .ok (.putfield 61, 3) := by decide +kernel
theorem dM_init_141 : decode prog_14_method_1_code 141 = .ok (.aload_n 0, 1) := by decide +kernel
theorem dM_init_142 : decode prog_14_method_1_code 142 = .ok (.bipush (81), 2) := by decide +kernel
theorem dM_init_144 : decode prog_14_method_1_code 144 = .ok (.newarray .boolean, 2) := by decide +kernel
theorem dM_init_146 : decode prog_14_method_1_code 146 = .ok (.putfield 64, 3) := by decide +kernel
theorem dM_init_149 : decode prog_14_method_1_code 149 = .ok (.aload_n 0, 1) := by decide +kernel
theorem dM_init_150 : decode prog_14_method_1_code 150 = .ok (.bipush (81), 2) := by decide +kernel
theorem dM_init_152 : decode prog_14_method_1_code 152 = .ok (.newarray .long, 2) := by decide +kernel
theorem dM_init_154 : decode prog_14_method_1_code 154 = .ok (.putfield 67, 3) := by decide +kernel
theorem dM_init_157 : decode prog_14_method_1_code 157 = .ok (.aload_n 0, 1) := by decide +kernel
theorem dM_init_158 : decode prog_14_method_1_code 158 = .ok (.bipush (81), 2) := by decide +kernel
theorem dM_init_160 : decode prog_14_method_1_code 160 = .ok (.newarray .long, 2) := by decide +kernel
theorem dM_init_162 : decode prog_14_method_1_code 162 = .ok (.putfield 70, 3) := by decide +kernel
theorem dM_init_165 : decode prog_14_method_1_code 165 = .ok (.aload_n 0, 1) := by decide +kernel
theorem dM_init_166 : decode prog_14_method_1_code 166 = .ok (.bipush (40), 2) := by decide +kernel
theorem dM_init_168 : decode prog_14_method_1_code 168 = .ok (.newarray .int, 2) := by decide +kernel
theorem dM_init_170 : decode prog_14_method_1_code 170 = .ok (.putfield 73, 3) := by decide +kernel
theorem dM_init_173 : decode prog_14_method_1_code 173 = .ok (.aload_n 0, 1) := by decide +kernel
theorem dM_init_174 : decode prog_14_method_1_code 174 = .ok (.bipush (40), 2) := by decide +kernel
theorem dM_init_176 : decode prog_14_method_1_code 176 = .ok (.newarray .long, 2) := by decide +kernel
theorem dM_init_178 : decode prog_14_method_1_code 178 = .ok (.putfield 76, 3) := by decide +kernel
theorem dM_init_181 : decode prog_14_method_1_code 181 = .ok (.aload_n 0, 1) := by decide +kernel
theorem dM_init_182 : decode prog_14_method_1_code 182 = .ok (.sipush (4001), 3) := by decide +kernel
theorem dM_init_185 : decode prog_14_method_1_code 185 = .ok (.newarray .int, 2) := by decide +kernel
theorem dM_init_187 : decode prog_14_method_1_code 187 = .ok (.putfield 79, 3) := by decide +kernel
theorem dM_init_190 : decode prog_14_method_1_code 190 = .ok (.aload_n 0, 1) := by decide +kernel
theorem dM_init_191 : decode prog_14_method_1_code 191 = .ok (.sipush (4001), 3) := by decide +kernel
theorem dM_init_194 : decode prog_14_method_1_code 194 = .ok (.newarray .int, 2) := by decide +kernel
theorem dM_init_196 : decode prog_14_method_1_code 196 = .ok (.putfield 82, 3) := by decide +kernel
theorem dM_init_199 : decode prog_14_method_1_code 199 = .ok (.aload_n 0, 1) := by decide +kernel
theorem dM_init_200 : decode prog_14_method_1_code 200 = .ok (.sipush (4001), 3) := by decide +kernel
theorem dM_init_203 : decode prog_14_method_1_code 203 = .ok (.newarray .int, 2) := by decide +kernel
theorem dM_init_205 : decode prog_14_method_1_code 205 = .ok (.putfield 85, 3) := by decide +kernel
theorem dM_init_208 : decode prog_14_method_1_code 208 = .ok (.aload_n 0, 1) := by decide +kernel
theorem dM_init_209 : decode prog_14_method_1_code 209 = .ok (.sipush (4001), 3) := by decide +kernel
theorem dM_init_212 : decode prog_14_method_1_code 212 = .ok (.newarray .int, 2) := by decide +kernel
theorem dM_init_214 : decode prog_14_method_1_code 214 = .ok (.putfield 88, 3) := by decide +kernel
theorem dM_init_217 : decode prog_14_method_1_code 217 = .ok (.aload_n 0, 1) := by decide +kernel
theorem dM_init_218 : decode prog_14_method_1_code 218 = .ok (.sipush (16384), 3) := by decide +kernel
theorem dM_init_221 : decode prog_14_method_1_code 221 = .ok (.newarray .int, 2) := by decide +kernel
theorem dM_init_223 : decode prog_14_method_1_code 223 = .ok (.putfield 91, 3) := by decide +kernel
theorem dM_init_226 : decode prog_14_method_1_code 226 = .ok (.aload_n 0, 1) := by decide +kernel
theorem dM_init_227 : decode prog_14_method_1_code 227 = .ok (.bipush (8), 2) := by decide +kernel
theorem dM_init_229 : decode prog_14_method_1_code 229 = .ok (.newarray .int, 2) := by decide +kernel
theorem dM_init_231 : decode prog_14_method_1_code 231 = .ok (.putfield 94, 3) := by decide +kernel
theorem dM_init_234 : decode prog_14_method_1_code 234 = .ok (.aload_n 0, 1) := by decide +kernel
theorem dM_init_235 : decode prog_14_method_1_code 235 = .ok (.bipush (8), 2) := by decide +kernel
theorem dM_init_237 : decode prog_14_method_1_code 237 = .ok (.newarray .int, 2) := by decide +kernel
theorem dM_init_239 : decode prog_14_method_1_code 239 = .ok (.putfield 97, 3) := by decide +kernel
theorem dM_init_242 : decode prog_14_method_1_code 242 = .ok (.aload_n 0, 1) := by decide +kernel
theorem dM_init_243 : decode prog_14_method_1_code 243 = .ok (.sipush (625), 3) := by decide +kernel
theorem dM_init_246 : decode prog_14_method_1_code 246 = .ok (.newarray .boolean, 2) := by decide +kernel
theorem dM_init_248 : decode prog_14_method_1_code 248 = .ok (.putfield 100, 3) := by decide +kernel
theorem dM_init_251 : decode prog_14_method_1_code 251 = .ok (.aload_n 0, 1) := by decide +kernel
theorem dM_init_252 : decode prog_14_method_1_code 252 = .ok (.bipush (12), 2) := by decide +kernel
theorem dM_init_254 : decode prog_14_method_1_code 254 = .ok (.newarray .int, 2) := by decide +kernel
theorem dM_init_256 : decode prog_14_method_1_code 256 = .ok (.putfield 103, 3) := by decide +kernel
theorem dM_init_259 : decode prog_14_method_1_code 259 = .ok (.aload_n 0, 1) := by decide +kernel
theorem dM_init_260 : decode prog_14_method_1_code 260 = .ok (.iconst (5), 1) := by decide +kernel
theorem dM_init_261 : decode prog_14_method_1_code 261 = .ok (.newarray .int, 2) := by decide +kernel
theorem dM_init_263 : decode prog_14_method_1_code 263 = .ok (.putfield 106, 3) := by decide +kernel
theorem dM_init_266 : decode prog_14_method_1_code 266 = .ok (.aload_n 0, 1) := by decide +kernel
theorem dM_init_267 : decode prog_14_method_1_code 267 = .ok (.iconst (5), 1) := by decide +kernel
theorem dM_init_268 : decode prog_14_method_1_code 268 = .ok (.newarray .int, 2) := by decide +kernel
theorem dM_init_270 : decode prog_14_method_1_code 270 = .ok (.putfield 109, 3) := by decide +kernel
theorem dM_init_273 : decode prog_14_method_1_code 273 = .ok (.aload_n 0, 1) := by decide +kernel
theorem dM_init_274 : decode prog_14_method_1_code 274 = .ok (.sipush (4096), 3) := by decide +kernel
theorem dM_init_277 : decode prog_14_method_1_code 277 = .ok (.newarray .boolean, 2) := by decide +kernel
theorem dM_init_279 : decode prog_14_method_1_code 279 = .ok (.putfield 112, 3) := by decide +kernel
theorem dM_init_282 : decode prog_14_method_1_code 282 = .ok (.aload_n 0, 1) := by decide +kernel
theorem dM_init_283 : decode prog_14_method_1_code 283 = .ok (.sipush (4096), 3) := by decide +kernel
theorem dM_init_286 : decode prog_14_method_1_code 286 = .ok (.newarray .boolean, 2) := by decide +kernel
theorem dM_init_288 : decode prog_14_method_1_code 288 = .ok (.putfield 115, 3) := by decide +kernel
theorem dM_init_291 : decode prog_14_method_1_code 291 = .ok (.return_, 1) := by decide +kernel
theorem dPa_lettersIn_0 : decode prog_8_method_2_code 0 = .ok (.iconst (0), 1) := by decide +kernel
theorem dPa_lettersIn_1 : decode prog_8_method_2_code 1 = .ok (.istore_n 2, 1) := by decide +kernel
theorem dPa_lettersIn_2 : decode prog_8_method_2_code 2 = .ok (.iconst (0), 1) := by decide +kernel
theorem dPa_lettersIn_3 : decode prog_8_method_2_code 3 = .ok (.istore_n 3, 1) := by decide +kernel
theorem dPa_lettersIn_4 : decode prog_8_method_2_code 4 = .ok (.iconst (0), 1) := by decide +kernel
theorem dPa_lettersIn_5 : decode prog_8_method_2_code 5 = .ok (.istore 4, 2) := by decide +kernel
theorem dPa_lettersIn_7 : decode prog_8_method_2_code 7 = .ok (.iload 4, 2) := by decide +kernel
theorem dPa_lettersIn_9 : decode prog_8_method_2_code 9 = .ok (.bipush (8), 2) := by decide +kernel
theorem dPa_lettersIn_11 : decode prog_8_method_2_code 11 = .ok (.if_icmp .ge (64), 3) := by decide +kernel
theorem dPa_lettersIn_14 : decode prog_8_method_2_code 14 = .ok (.lload_n 0, 1) := by decide +kernel
theorem dPa_lettersIn_15 : decode prog_8_method_2_code 15 = .ok (.bipush (8), 2) := by decide +kernel
theorem dPa_lettersIn_17 : decode prog_8_method_2_code 17 = .ok (.iload 4, 2) := by decide +kernel
theorem dPa_lettersIn_19 : decode prog_8_method_2_code 19 = .ok (.imul, 1) := by decide +kernel
theorem dPa_lettersIn_20 : decode prog_8_method_2_code 20 = .ok (.lushr, 1) := by decide +kernel
theorem dPa_lettersIn_21 : decode prog_8_method_2_code 21 = .ok (.l2i, 1) := by decide +kernel
theorem dPa_lettersIn_22 : decode prog_8_method_2_code 22 = .ok (.sipush (255), 3) := by decide +kernel
theorem dPa_lettersIn_25 : decode prog_8_method_2_code 25 = .ok (.iand, 1) := by decide +kernel
theorem dPa_lettersIn_26 : decode prog_8_method_2_code 26 = .ok (.istore 5, 2) := by decide +kernel
theorem dPa_lettersIn_28 : decode prog_8_method_2_code 28 = .ok (.iload 5, 2) := by decide +kernel
theorem dPa_lettersIn_30 : decode prog_8_method_2_code 30 = .ok (.bipush (126), 2) := by decide +kernel
theorem dPa_lettersIn_32 : decode prog_8_method_2_code 32 = .ok (.if_icmp .gt (12), 3) := by decide +kernel
theorem dPa_lettersIn_35 : decode prog_8_method_2_code 35 = .ok (.iload_n 3, 1) := by decide +kernel
theorem dPa_lettersIn_36 : decode prog_8_method_2_code 36 = .ok (.ifCond .eq (10), 3) := by decide +kernel
theorem dPa_lettersIn_39 : decode prog_8_method_2_code 39 = .ok (.iload 5, 2) := by decide +kernel
theorem dPa_lettersIn_41 : decode prog_8_method_2_code 41 = .ok (.ifCond .eq (5), 3) := by decide +kernel
theorem dPa_lettersIn_44 : decode prog_8_method_2_code 44 = .ok (.iconst (-1), 1) := by decide +kernel
theorem dPa_lettersIn_45 : decode prog_8_method_2_code 45 = .ok (.ireturn, 1) := by decide +kernel
theorem dPa_lettersIn_46 : decode prog_8_method_2_code 46 = .ok (.iload 5, 2) := by decide +kernel
theorem dPa_lettersIn_48 : decode prog_8_method_2_code 48 = .ok (.ifCond .ne (7), 3) := by decide +kernel
theorem dPa_lettersIn_51 : decode prog_8_method_2_code 51 = .ok (.iconst (1), 1) := by decide +kernel
theorem dPa_lettersIn_52 : decode prog_8_method_2_code 52 = .ok (.goto (4), 3) := by decide +kernel
theorem dPa_lettersIn_55 : decode prog_8_method_2_code 55 = .ok (.iconst (0), 1) := by decide +kernel
theorem dPa_lettersIn_56 : decode prog_8_method_2_code 56 = .ok (.istore_n 3, 1) := by decide +kernel
theorem dPa_lettersIn_57 : decode prog_8_method_2_code 57 = .ok (.iload_n 2, 1) := by decide +kernel
theorem dPa_lettersIn_58 : decode prog_8_method_2_code 58 = .ok (.iload_n 3, 1) := by decide +kernel
theorem dPa_lettersIn_59 : decode prog_8_method_2_code 59 = .ok (.ifCond .eq (7), 3) := by decide +kernel
theorem dPa_lettersIn_62 : decode prog_8_method_2_code 62 = .ok (.iconst (0), 1) := by decide +kernel
theorem dPa_lettersIn_63 : decode prog_8_method_2_code 63 = .ok (.goto (4), 3) := by decide +kernel
theorem dPa_lettersIn_66 : decode prog_8_method_2_code 66 = .ok (.iconst (1), 1) := by decide +kernel
theorem dPa_lettersIn_67 : decode prog_8_method_2_code 67 = .ok (.iadd, 1) := by decide +kernel
theorem dPa_lettersIn_68 : decode prog_8_method_2_code 68 = .ok (.istore_n 2, 1) := by decide +kernel
theorem dPa_lettersIn_69 : decode prog_8_method_2_code 69 = .ok (.iinc 4 (1), 3) := by decide +kernel
theorem dPa_lettersIn_72 : decode prog_8_method_2_code 72 = .ok (.goto (-65), 3) := by decide +kernel
theorem dPa_lettersIn_75 : decode prog_8_method_2_code 75 = .ok (.iload_n 2, 1) := by decide +kernel
theorem dPa_lettersIn_76 : decode prog_8_method_2_code 76 = .ok (.ireturn, 1) := by decide +kernel
theorem dPa_write_0 : decode prog_8_method_3_code 0 = .ok (.iconst (0), 1) := by decide +kernel
theorem dPa_write_1 : decode prog_8_method_3_code 1 = .ok (.istore 4, 2) := by decide +kernel
theorem dPa_write_3 : decode prog_8_method_3_code 3 = .ok (.iload 4, 2) := by decide +kernel
theorem dPa_write_5 : decode prog_8_method_3_code 5 = .ok (.iload_n 3, 1) := by decide +kernel
theorem dPa_write_6 : decode prog_8_method_3_code 6 = .ok (.if_icmp .ge (49), 3) := by decide +kernel
theorem dPa_write_9 : decode prog_8_method_3_code 9 = .ok (.aload_n 0, 1) := by decide +kernel
theorem dPa_write_10 : decode prog_8_method_3_code 10 = .ok (.getfield 33, 3) := by decide +kernel
theorem dPa_write_13 : decode prog_8_method_3_code 13 = .ok (.bipush (80), 2) := by decide +kernel
theorem dPa_write_15 : decode prog_8_method_3_code 15 = .ok (.if_icmp .ge (40), 3) := by decide +kernel
theorem dPa_write_18 : decode prog_8_method_3_code 18 = .ok (.aload_n 0, 1) := by decide +kernel
theorem dPa_write_19 : decode prog_8_method_3_code 19 = .ok (.getfield 9, 3) := by decide +kernel
theorem dPa_write_22 : decode prog_8_method_3_code 22 = .ok (.aload_n 0, 1) := by decide +kernel
theorem dPa_write_23 : decode prog_8_method_3_code 23 = .ok (.getfield 33, 3) := by decide +kernel
theorem dPa_write_26 : decode prog_8_method_3_code 26 = .ok (.lload_n 1, 1) := by decide +kernel
theorem dPa_write_27 : decode prog_8_method_3_code 27 = .ok (.bipush (8), 2) := by decide +kernel
theorem dPa_write_29 : decode prog_8_method_3_code 29 = .ok (.iload 4, 2) := by decide +kernel
theorem dPa_write_31 : decode prog_8_method_3_code 31 = .ok (.imul, 1) := by decide +kernel
theorem dPa_write_32 : decode prog_8_method_3_code 32 = .ok (.lushr, 1) := by decide +kernel
theorem dPa_write_33 : decode prog_8_method_3_code 33 = .ok (.l2i, 1) := by decide +kernel
theorem dPa_write_34 : decode prog_8_method_3_code 34 = .ok (.sipush (255), 3) := by decide +kernel
theorem dPa_write_37 : decode prog_8_method_3_code 37 = .ok (.iand, 1) := by decide +kernel
theorem dPa_write_38 : decode prog_8_method_3_code 38 = .ok (.iastore, 1) := by decide +kernel
theorem dPa_write_39 : decode prog_8_method_3_code 39 = .ok (.aload_n 0, 1) := by decide +kernel
theorem dPa_write_40 : decode prog_8_method_3_code 40 = .ok (.dup, 1) := by decide +kernel
theorem dPa_write_41 : decode prog_8_method_3_code 41 = .ok (.getfield 33, 3) := by decide +kernel
theorem dPa_write_44 : decode prog_8_method_3_code 44 = .ok (.iconst (1), 1) := by decide +kernel
theorem dPa_write_45 : decode prog_8_method_3_code 45 = .ok (.iadd, 1) := by decide +kernel
theorem dPa_write_46 : decode prog_8_method_3_code 46 = .ok (.putfield 33, 3) := by decide +kernel
theorem dPa_write_49 : decode prog_8_method_3_code 49 = .ok (.iinc 4 (1), 3) := by decide +kernel
theorem dPa_write_52 : decode prog_8_method_3_code 52 = .ok (.goto (-49), 3) := by decide +kernel
theorem dPa_write_55 : decode prog_8_method_3_code 55 = .ok (.return_, 1) := by decide +kernel
theorem dC_letters_0 : decode prog_1_method_2_code 0 = .ok (.lload_n 1, 1) := by decide +kernel
theorem dC_letters_1 : decode prog_1_method_2_code 1 = .ok (.invokestatic 61, 3) := by decide +kernel
theorem dC_letters_4 : decode prog_1_method_2_code 4 = .ok (.istore_n 3, 1) := by decide +kernel
theorem dC_letters_5 : decode prog_1_method_2_code 5 = .ok (.iload_n 3, 1) := by decide +kernel
theorem dC_letters_6 : decode prog_1_method_2_code 6 = .ok (.iconst (-1), 1) := by decide +kernel
theorem dC_letters_7 : decode prog_1_method_2_code 7 = .ok (.if_icmp .ne (6), 3) := by decide +kernel
theorem dC_letters_10 : decode prog_1_method_2_code 10 = .ok (.bipush (-102), 2) := by decide +kernel
theorem dC_letters_12 : decode prog_1_method_2_code 12 = .ok (.ireturn, 1) := by decide +kernel
theorem dC_letters_13 : decode prog_1_method_2_code 13 = .ok (.aload_n 0, 1) := by decide +kernel
theorem dC_letters_14 : decode prog_1_method_2_code 14 = .ok (.getfield 10, 3) := by decide +kernel
theorem dC_letters_17 : decode prog_1_method_2_code 17 = .ok (.getfield 65, 3) := by decide +kernel
theorem dC_letters_20 : decode prog_1_method_2_code 20 = .ok (.iload_n 3, 1) := by decide +kernel
theorem dC_letters_21 : decode prog_1_method_2_code 21 = .ok (.iadd, 1) := by decide +kernel
theorem dC_letters_22 : decode prog_1_method_2_code 22 = .ok (.bipush (80), 2) := by decide +kernel
theorem dC_letters_24 : decode prog_1_method_2_code 24 = .ok (.if_icmp .le (6), 3) := by decide +kernel
theorem dC_letters_27 : decode prog_1_method_2_code 27 = .ok (.bipush (-104), 2) := by decide +kernel
theorem dC_letters_29 : decode prog_1_method_2_code 29 = .ok (.ireturn, 1) := by decide +kernel
theorem dC_letters_30 : decode prog_1_method_2_code 30 = .ok (.aload_n 0, 1) := by decide +kernel
theorem dC_letters_31 : decode prog_1_method_2_code 31 = .ok (.getfield 10, 3) := by decide +kernel
theorem dC_letters_34 : decode prog_1_method_2_code 34 = .ok (.lload_n 1, 1) := by decide +kernel
theorem dC_letters_35 : decode prog_1_method_2_code 35 = .ok (.iload_n 3, 1) := by decide +kernel
theorem dC_letters_36 : decode prog_1_method_2_code 36 = .ok (.invokevirtual 69, 3) := by decide +kernel
theorem dC_letters_39 : decode prog_1_method_2_code 39 = .ok (.aload_n 0, 1) := by decide +kernel
theorem dC_letters_40 : decode prog_1_method_2_code 40 = .ok (.getfield 10, 3) := by decide +kernel
theorem dC_letters_43 : decode prog_1_method_2_code 43 = .ok (.getfield 65, 3) := by decide +kernel
theorem dC_letters_46 : decode prog_1_method_2_code 46 = .ok (.ireturn, 1) := by decide +kernel
theorem dM_letters_0 : decode prog_14_method_4_code 0 = .ok (.iconst (0), 1) := by decide +kernel
theorem dM_letters_1 : decode prog_14_method_4_code 1 = .ok (.istore_n 3, 1) := by decide +kernel
theorem dM_letters_2 : decode prog_14_method_4_code 2 = .ok (.iconst (0), 1) := by decide +kernel
theorem dM_letters_3 : decode prog_14_method_4_code 3 = .ok (.istore 4, 2) := by decide +kernel
theorem dM_letters_5 : decode prog_14_method_4_code 5 = .ok (.iconst (0), 1) := by decide +kernel
theorem dM_letters_6 : decode prog_14_method_4_code 6 = .ok (.istore 5, 2) := by decide +kernel
theorem dM_letters_8 : decode prog_14_method_4_code 8 = .ok (.iload 5, 2) := by decide +kernel
theorem dM_letters_10 : decode prog_14_method_4_code 10 = .ok (.bipush (8), 2) := by decide +kernel
theorem dM_letters_12 : decode prog_14_method_4_code 12 = .ok (.if_icmp .ge (73), 3) := by decide +kernel
theorem dM_letters_15 : decode prog_14_method_4_code 15 = .ok (.lload_n 1, 1) := by decide +kernel
theorem dM_letters_16 : decode prog_14_method_4_code 16 = .ok (.bipush (8), 2) := by decide +kernel
theorem dM_letters_18 : decode prog_14_method_4_code 18 = .ok (.iload 5, 2) := by decide +kernel
theorem dM_letters_20 : decode prog_14_method_4_code 20 = .ok (.imul, 1) := by decide +kernel
theorem dM_letters_21 : decode prog_14_method_4_code 21 = .ok (.lshr, 1) := by decide +kernel
theorem dM_letters_22 : decode prog_14_method_4_code 22 = .ok (.ldc2_w 118, 3) := by decide +kernel
theorem dM_letters_25 : decode prog_14_method_4_code 25 = .ok (.land, 1) := by decide +kernel
theorem dM_letters_26 : decode prog_14_method_4_code 26 = .ok (.l2i, 1) := by decide +kernel
theorem dM_letters_27 : decode prog_14_method_4_code 27 = .ok (.istore 6, 2) := by decide +kernel
theorem dM_letters_29 : decode prog_14_method_4_code 29 = .ok (.iload 6, 2) := by decide +kernel
theorem dM_letters_31 : decode prog_14_method_4_code 31 = .ok (.bipush (126), 2) := by decide +kernel
theorem dM_letters_33 : decode prog_14_method_4_code 33 = .ok (.if_icmp .gt (13), 3) := by decide +kernel
theorem dM_letters_36 : decode prog_14_method_4_code 36 = .ok (.iload 4, 2) := by decide +kernel
theorem dM_letters_38 : decode prog_14_method_4_code 38 = .ok (.ifCond .eq (11), 3) := by decide +kernel
theorem dM_letters_41 : decode prog_14_method_4_code 41 = .ok (.iload 6, 2) := by decide +kernel
theorem dM_letters_43 : decode prog_14_method_4_code 43 = .ok (.ifCond .eq (6), 3) := by decide +kernel
theorem dM_letters_46 : decode prog_14_method_4_code 46 = .ok (.bipush (-102), 2) := by decide +kernel
theorem dM_letters_48 : decode prog_14_method_4_code 48 = .ok (.ireturn, 1) := by decide +kernel
theorem dM_letters_49 : decode prog_14_method_4_code 49 = .ok (.iload 4, 2) := by decide +kernel
theorem dM_letters_51 : decode prog_14_method_4_code 51 = .ok (.ifCond .ne (8), 3) := by decide +kernel
theorem dM_letters_54 : decode prog_14_method_4_code 54 = .ok (.iload 6, 2) := by decide +kernel
theorem dM_letters_56 : decode prog_14_method_4_code 56 = .ok (.ifCond .ne (7), 3) := by decide +kernel
theorem dM_letters_59 : decode prog_14_method_4_code 59 = .ok (.iconst (1), 1) := by decide +kernel
theorem dM_letters_60 : decode prog_14_method_4_code 60 = .ok (.goto (4), 3) := by decide +kernel
theorem dM_letters_63 : decode prog_14_method_4_code 63 = .ok (.iconst (0), 1) := by decide +kernel
theorem dM_letters_64 : decode prog_14_method_4_code 64 = .ok (.istore 4, 2) := by decide +kernel
theorem dM_letters_66 : decode prog_14_method_4_code 66 = .ok (.iload_n 3, 1) := by decide +kernel
theorem dM_letters_67 : decode prog_14_method_4_code 67 = .ok (.iload 6, 2) := by decide +kernel
theorem dM_letters_69 : decode prog_14_method_4_code 69 = .ok (.ifCond .ne (7), 3) := by decide +kernel
theorem dM_letters_72 : decode prog_14_method_4_code 72 = .ok (.iconst (0), 1) := by decide +kernel
theorem dM_letters_73 : decode prog_14_method_4_code 73 = .ok (.goto (4), 3) := by decide +kernel
theorem dM_letters_76 : decode prog_14_method_4_code 76 = .ok (.iconst (1), 1) := by decide +kernel
theorem dM_letters_77 : decode prog_14_method_4_code 77 = .ok (.iadd, 1) := by decide +kernel
theorem dM_letters_78 : decode prog_14_method_4_code 78 = .ok (.istore_n 3, 1) := by decide +kernel
theorem dM_letters_79 : decode prog_14_method_4_code 79 = .ok (.iinc 5 (1), 3) := by decide +kernel
theorem dM_letters_82 : decode prog_14_method_4_code 82 = .ok (.goto (-74), 3) := by decide +kernel
theorem dM_letters_85 : decode prog_14_method_4_code 85 = .ok (.aload_n 0, 1) := by decide +kernel
theorem dM_letters_86 : decode prog_14_method_4_code 86 = .ok (.getfield 120, 3) := by decide +kernel
theorem dM_letters_89 : decode prog_14_method_4_code 89 = .ok (.iload_n 3, 1) := by decide +kernel
theorem dM_letters_90 : decode prog_14_method_4_code 90 = .ok (.iadd, 1) := by decide +kernel
theorem dM_letters_91 : decode prog_14_method_4_code 91 = .ok (.bipush (80), 2) := by decide +kernel
theorem dM_letters_93 : decode prog_14_method_4_code 93 = .ok (.if_icmp .le (6), 3) := by decide +kernel
theorem dM_letters_96 : decode prog_14_method_4_code 96 = .ok (.bipush (-104), 2) := by decide +kernel
theorem dM_letters_98 : decode prog_14_method_4_code 98 = .ok (.ireturn, 1) := by decide +kernel
theorem dM_letters_99 : decode prog_14_method_4_code 99 = .ok (.iconst (0), 1) := by decide +kernel
theorem dM_letters_100 : decode prog_14_method_4_code 100 = .ok (.istore 5, 2) := by decide +kernel
theorem dM_letters_102 : decode prog_14_method_4_code 102 = .ok (.iload 5, 2) := by decide +kernel
theorem dM_letters_104 : decode prog_14_method_4_code 104 = .ok (.iload_n 3, 1) := by decide +kernel
theorem dM_letters_105 : decode prog_14_method_4_code 105 = .ok (.if_icmp .ge (30), 3) := by decide +kernel
theorem dM_letters_108 : decode prog_14_method_4_code 108 = .ok (.aload_n 0, 1) := by decide +kernel
theorem dM_letters_109 : decode prog_14_method_4_code 109 = .ok (.getfield 7, 3) := by decide +kernel
theorem dM_letters_112 : decode prog_14_method_4_code 112 = .ok (.aload_n 0, 1) := by decide +kernel
theorem dM_letters_113 : decode prog_14_method_4_code 113 = .ok (.getfield 120, 3) := by decide +kernel
theorem dM_letters_116 : decode prog_14_method_4_code 116 = .ok (.iload 5, 2) := by decide +kernel
theorem dM_letters_118 : decode prog_14_method_4_code 118 = .ok (.iadd, 1) := by decide +kernel
theorem dM_letters_119 : decode prog_14_method_4_code 119 = .ok (.lload_n 1, 1) := by decide +kernel
theorem dM_letters_120 : decode prog_14_method_4_code 120 = .ok (.bipush (8), 2) := by decide +kernel
theorem dM_letters_122 : decode prog_14_method_4_code 122 = .ok (.iload 5, 2) := by decide +kernel
theorem dM_letters_124 : decode prog_14_method_4_code 124 = .ok (.imul, 1) := by decide +kernel
theorem dM_letters_125 : decode prog_14_method_4_code 125 = .ok (.lshr, 1) := by decide +kernel
theorem dM_letters_126 : decode prog_14_method_4_code 126 = .ok (.l2i, 1) := by decide +kernel
theorem dM_letters_127 : decode prog_14_method_4_code 127 = .ok (.i2b, 1) := by decide +kernel
theorem dM_letters_128 : decode prog_14_method_4_code 128 = .ok (.bastore, 1) := by decide +kernel
theorem dM_letters_129 : decode prog_14_method_4_code 129 = .ok (.iinc 5 (1), 3) := by decide +kernel
theorem dM_letters_132 : decode prog_14_method_4_code 132 = .ok (.goto (-30), 3) := by decide +kernel
theorem dM_letters_135 : decode prog_14_method_4_code 135 = .ok (.aload_n 0, 1) := by decide +kernel
theorem dM_letters_136 : decode prog_14_method_4_code 136 = .ok (.dup, 1) := by decide +kernel
theorem dM_letters_137 : decode prog_14_method_4_code 137 = .ok (.getfield 120, 3) := by decide +kernel
theorem dM_letters_140 : decode prog_14_method_4_code 140 = .ok (.iload_n 3, 1) := by decide +kernel
theorem dM_letters_141 : decode prog_14_method_4_code 141 = .ok (.iadd, 1) := by decide +kernel
theorem dM_letters_142 : decode prog_14_method_4_code 142 = .ok (.putfield 120, 3) := by decide +kernel
theorem dM_letters_145 : decode prog_14_method_4_code 145 = .ok (.aload_n 0, 1) := by decide +kernel
theorem dM_letters_146 : decode prog_14_method_4_code 146 = .ok (.getfield 120, 3) := by decide +kernel
theorem dM_letters_149 : decode prog_14_method_4_code 149 = .ok (.ireturn, 1) := by decide +kernel
theorem dC_blank_0 : decode prog_1_method_3_code 0 = .ok (.aload_n 0, 1) := by decide +kernel
theorem dC_blank_1 : decode prog_1_method_3_code 1 = .ok (.getfield 10, 3) := by decide +kernel
theorem dC_blank_4 : decode prog_1_method_3_code 4 = .ok (.getfield 65, 3) := by decide +kernel
theorem dC_blank_7 : decode prog_1_method_3_code 7 = .ok (.istore_n 1, 1) := by decide +kernel
theorem dC_blank_8 : decode prog_1_method_3_code 8 = .ok (.aload_n 0, 1) := by decide +kernel
theorem dC_blank_9 : decode prog_1_method_3_code 9 = .ok (.getfield 10, 3) := by decide +kernel
theorem dC_blank_12 : decode prog_1_method_3_code 12 = .ok (.iconst (0), 1) := by decide +kernel
theorem dC_blank_13 : decode prog_1_method_3_code 13 = .ok (.putfield 65, 3) := by decide +kernel
theorem dC_blank_16 : decode prog_1_method_3_code 16 = .ok (.iload_n 1, 1) := by decide +kernel
theorem dC_blank_17 : decode prog_1_method_3_code 17 = .ok (.ireturn, 1) := by decide +kernel
theorem dM_blank_0 : decode prog_14_method_5_code 0 = .ok (.aload_n 0, 1) := by decide +kernel
theorem dM_blank_1 : decode prog_14_method_5_code 1 = .ok (.getfield 120, 3) := by decide +kernel
theorem dM_blank_4 : decode prog_14_method_5_code 4 = .ok (.istore_n 1, 1) := by decide +kernel
theorem dM_blank_5 : decode prog_14_method_5_code 5 = .ok (.aload_n 0, 1) := by decide +kernel
theorem dM_blank_6 : decode prog_14_method_5_code 6 = .ok (.iconst (0), 1) := by decide +kernel
theorem dM_blank_7 : decode prog_14_method_5_code 7 = .ok (.putfield 120, 3) := by decide +kernel
theorem dM_blank_10 : decode prog_14_method_5_code 10 = .ok (.iload_n 1, 1) := by decide +kernel
theorem dM_blank_11 : decode prog_14_method_5_code 11 = .ok (.ireturn, 1) := by decide +kernel
theorem dLe_startTalk_0 : decode prog_6_method_3_code 0 = .ok (.aload_n 0, 1) := by decide +kernel
theorem dLe_startTalk_1 : decode prog_6_method_3_code 1 = .ok (.iconst (0), 1) := by decide +kernel
theorem dLe_startTalk_2 : decode prog_6_method_3_code 2 = .ok (.putfield 30, 3) := by decide +kernel
theorem dLe_startTalk_5 : decode prog_6_method_3_code 5 = .ok (.aload_n 0, 1) := by decide +kernel
theorem dLe_startTalk_6 : decode prog_6_method_3_code 6 = .ok (.lconst 0, 1) := by decide +kernel
theorem dLe_startTalk_7 : decode prog_6_method_3_code 7 = .ok (.putfield 33, 3) := by decide +kernel
theorem dLe_startTalk_10 : decode prog_6_method_3_code 10 = .ok (.aload_n 0, 1) := by decide +kernel
theorem dLe_startTalk_11 : decode prog_6_method_3_code 11 = .ok (.lconst 0, 1) := by decide +kernel
theorem dLe_startTalk_12 : decode prog_6_method_3_code 12 = .ok (.putfield 36, 3) := by decide +kernel
theorem dLe_startTalk_15 : decode prog_6_method_3_code 15 = .ok (.aload_n 0, 1) := by decide +kernel
theorem dLe_startTalk_16 : decode prog_6_method_3_code 16 = .ok (.iconst (1), 1) := by decide +kernel
theorem dLe_startTalk_17 : decode prog_6_method_3_code 17 = .ok (.putfield 39, 3) := by decide +kernel
theorem dLe_startTalk_20 : decode prog_6_method_3_code 20 = .ok (.return_, 1) := by decide +kernel
theorem dLe_open_0 : decode prog_6_method_2_code 0 = .ok (.aload_n 0, 1) := by decide +kernel
theorem dLe_open_1 : decode prog_6_method_2_code 1 = .ok (.iload_n 1, 1) := by decide +kernel
theorem dLe_open_2 : decode prog_6_method_2_code 2 = .ok (.putfield 7, 3) := by decide +kernel
theorem dLe_open_5 : decode prog_6_method_2_code 5 = .ok (.aload_n 0, 1) := by decide +kernel
theorem dLe_open_6 : decode prog_6_method_2_code 6 = .ok (.iconst (0), 1) := by decide +kernel
theorem dLe_open_7 : decode prog_6_method_2_code 7 = .ok (.putfield 13, 3) := by decide +kernel
theorem dLe_open_10 : decode prog_6_method_2_code 10 = .ok (.aload_n 0, 1) := by decide +kernel
theorem dLe_open_11 : decode prog_6_method_2_code 11 = .ok (.lconst 0, 1) := by decide +kernel
theorem dLe_open_12 : decode prog_6_method_2_code 12 = .ok (.putfield 17, 3) := by decide +kernel
theorem dLe_open_15 : decode prog_6_method_2_code 15 = .ok (.aload_n 0, 1) := by decide +kernel
theorem dLe_open_16 : decode prog_6_method_2_code 16 = .ok (.lconst 0, 1) := by decide +kernel
theorem dLe_open_17 : decode prog_6_method_2_code 17 = .ok (.putfield 21, 3) := by decide +kernel
theorem dLe_open_20 : decode prog_6_method_2_code 20 = .ok (.aload_n 0, 1) := by decide +kernel
theorem dLe_open_21 : decode prog_6_method_2_code 21 = .ok (.iconst (0), 1) := by decide +kernel
theorem dLe_open_22 : decode prog_6_method_2_code 22 = .ok (.putfield 24, 3) := by decide +kernel
theorem dLe_open_25 : decode prog_6_method_2_code 25 = .ok (.aload_n 0, 1) := by decide +kernel
theorem dLe_open_26 : decode prog_6_method_2_code 26 = .ok (.invokevirtual 27, 3) := by decide +kernel
theorem dLe_open_29 : decode prog_6_method_2_code 29 = .ok (.return_, 1) := by decide +kernel
theorem dC_isMessage_0 : decode prog_1_method_48_code 0 = .ok (.iload_n 0, 1) := by decide +kernel
theorem dC_isMessage_1 : decode prog_1_method_48_code 1 = .ok (.ifCond .lt (13), 3) := by decide +kernel
theorem dC_isMessage_4 : decode prog_1_method_48_code 4 = .ok (.iload_n 0, 1) := by decide +kernel
theorem dC_isMessage_5 : decode prog_1_method_48_code 5 = .ok (.bipush (8), 2) := by decide +kernel
theorem dC_isMessage_7 : decode prog_1_method_48_code 7 = .ok (.if_icmp .ge (7), 3) := by decide +kernel
theorem dC_isMessage_10 : decode prog_1_method_48_code 10 = .ok (.iconst (1), 1) := by decide +kernel
theorem dC_isMessage_11 : decode prog_1_method_48_code 11 = .ok (.goto (4), 3) := by decide +kernel
theorem dC_isMessage_14 : decode prog_1_method_48_code 14 = .ok (.iconst (0), 1) := by decide +kernel
theorem dC_isMessage_15 : decode prog_1_method_48_code 15 = .ok (.ireturn, 1) := by decide +kernel
theorem dPa_link_0 : decode prog_8_method_12_code 0 = .ok (.iconst (1), 1) := by decide +kernel
theorem dPa_link_1 : decode prog_8_method_12_code 1 = .ok (.istore 5, 2) := by decide +kernel
theorem dPa_link_3 : decode prog_8_method_12_code 3 = .ok (.iload 5, 2) := by decide +kernel
theorem dPa_link_5 : decode prog_8_method_12_code 5 = .ok (.aload_n 0, 1) := by decide +kernel
theorem dPa_link_6 : decode prog_8_method_12_code 6 = .ok (.getfield 39, 3) := by decide +kernel
theorem dPa_link_9 : decode prog_8_method_12_code 9 = .ok (.if_icmp .gt (31), 3) := by decide +kernel
theorem dPa_link_12 : decode prog_8_method_12_code 12 = .ok (.lload_n 1, 1) := by decide +kernel
theorem dPa_link_13 : decode prog_8_method_12_code 13 = .ok (.iload 5, 2) := by decide +kernel
theorem dPa_link_15 : decode prog_8_method_12_code 15 = .ok (.lshr, 1) := by decide +kernel
theorem dPa_link_16 : decode prog_8_method_12_code 16 = .ok (.lconst 1, 1) := by decide +kernel
theorem dPa_link_17 : decode prog_8_method_12_code 17 = .ok (.land, 1) := by decide +kernel
theorem dPa_link_18 : decode prog_8_method_12_code 18 = .ok (.lconst 0, 1) := by decide +kernel
theorem dPa_link_19 : decode prog_8_method_12_code 19 = .ok (.lcmp, 1) := by decide +kernel
theorem dPa_link_20 : decode prog_8_method_12_code 20 = .ok (.ifCond .eq (14), 3) := by decide +kernel
theorem dPa_link_23 : decode prog_8_method_12_code 23 = .ok (.aload_n 0, 1) := by decide +kernel
theorem dPa_link_24 : decode prog_8_method_12_code 24 = .ok (.getfield 24, 3) := by decide +kernel
theorem dPa_link_27 : decode prog_8_method_12_code 27 = .ok (.iload 5, 2) := by decide +kernel
theorem dPa_link_29 : decode prog_8_method_12_code 29 = .ok (.dup2, 1) := by decide +kernel
theorem dPa_link_30 : decode prog_8_method_12_code 30 = .ok (.laload, 1) := by decide +kernel
theorem dPa_link_31 : decode prog_8_method_12_code 31 = .ok (.lload_n 3, 1) := by decide +kernel
theorem dPa_link_32 : decode prog_8_method_12_code 32 = .ok (.lor, 1) := by decide +kernel
theorem dPa_link_33 : decode prog_8_method_12_code 33 = .ok (.lastore, 1) := by decide +kernel
theorem dPa_link_34 : decode prog_8_method_12_code 34 = .ok (.iinc 5 (1), 3) := by decide +kernel
theorem dPa_link_37 : decode prog_8_method_12_code 37 = .ok (.goto (-34), 3) := by decide +kernel
theorem dPa_link_40 : decode prog_8_method_12_code 40 = .ok (.return_, 1) := by decide +kernel
theorem dPa_append_0 : decode prog_8_method_11_code 0 = .ok (.aload_n 0, 1) := by decide +kernel
theorem dPa_append_1 : decode prog_8_method_11_code 1 = .ok (.getfield 17, 3) := by decide +kernel
theorem dPa_append_4 : decode prog_8_method_11_code 4 = .ok (.aload_n 0, 1) := by decide +kernel
theorem dPa_append_5 : decode prog_8_method_11_code 5 = .ok (.getfield 36, 3) := by decide +kernel
theorem dPa_append_8 : decode prog_8_method_11_code 8 = .ok (.aaload, 1) := by decide +kernel
theorem dPa_append_9 : decode prog_8_method_11_code 9 = .ok (.astore 6, 2) := by decide +kernel
theorem dPa_append_11 : decode prog_8_method_11_code 11 = .ok (.aload_n 0, 1) := by decide +kernel
theorem dPa_append_12 : decode prog_8_method_11_code 12 = .ok (.aload 6, 2) := by decide +kernel
theorem dPa_append_14 : decode prog_8_method_11_code 14 = .ok (.getfield 86, 3) := by decide +kernel
theorem dPa_append_17 : decode prog_8_method_11_code 17 = .ok (.lload_n 1, 1) := by decide +kernel
theorem dPa_append_18 : decode prog_8_method_11_code 18 = .ok (.invokevirtual 93, 3) := by decide +kernel
theorem dPa_append_21 : decode prog_8_method_11_code 21 = .ok (.aload 6, 2) := by decide +kernel
theorem dPa_append_23 : decode prog_8_method_11_code 23 = .ok (.getfield 106, 3) := by decide +kernel
theorem dPa_append_26 : decode prog_8_method_11_code 26 = .ok (.ifCond .eq (14), 3) := by decide +kernel
theorem dPa_append_29 : decode prog_8_method_11_code 29 = .ok (.aload 6, 2) := by decide +kernel
theorem dPa_append_31 : decode prog_8_method_11_code 31 = .ok (.dup, 1) := by decide +kernel
theorem dPa_append_32 : decode prog_8_method_11_code 32 = .ok (.getfield 90, 3) := by decide +kernel
theorem dPa_append_35 : decode prog_8_method_11_code 35 = .ok (.lload_n 1, 1) := by decide +kernel
theorem dPa_append_36 : decode prog_8_method_11_code 36 = .ok (.lor, 1) := by decide +kernel
theorem dPa_append_37 : decode prog_8_method_11_code 37 = .ok (.putfield 90, 3) := by decide +kernel
theorem dPa_append_40 : decode prog_8_method_11_code 40 = .ok (.aload 6, 2) := by decide +kernel
theorem dPa_append_42 : decode prog_8_method_11_code 42 = .ok (.iload 5, 2) := by decide +kernel
theorem dPa_append_44 : decode prog_8_method_11_code 44 = .ok (.ifCond .eq (13), 3) := by decide +kernel
theorem dPa_append_47 : decode prog_8_method_11_code 47 = .ok (.aload 6, 2) := by decide +kernel
theorem dPa_append_49 : decode prog_8_method_11_code 49 = .ok (.getfield 86, 3) := by decide +kernel
theorem dPa_append_52 : decode prog_8_method_11_code 52 = .ok (.lload_n 3, 1) := by decide +kernel
theorem dPa_append_53 : decode prog_8_method_11_code 53 = .ok (.lor, 1) := by decide +kernel
theorem dPa_append_54 : decode prog_8_method_11_code 54 = .ok (.goto (4), 3) := by decide +kernel
theorem dPa_append_57 : decode prog_8_method_11_code 57 = .ok (.lload_n 3, 1) := by decide +kernel
theorem dPa_append_58 : decode prog_8_method_11_code 58 = .ok (.putfield 86, 3) := by decide +kernel
theorem dPa_append_61 : decode prog_8_method_11_code 61 = .ok (.aload 6, 2) := by decide +kernel
theorem dPa_append_63 : decode prog_8_method_11_code 63 = .ok (.dup, 1) := by decide +kernel
theorem dPa_append_64 : decode prog_8_method_11_code 64 = .ok (.getfield 106, 3) := by decide +kernel
theorem dPa_append_67 : decode prog_8_method_11_code 67 = .ok (.iload 5, 2) := by decide +kernel
theorem dPa_append_69 : decode prog_8_method_11_code 69 = .ok (.iand, 1) := by decide +kernel
theorem dPa_append_70 : decode prog_8_method_11_code 70 = .ok (.putfield 106, 3) := by decide +kernel
theorem dPa_append_73 : decode prog_8_method_11_code 73 = .ok (.aload 6, 2) := by decide +kernel
theorem dPa_append_75 : decode prog_8_method_11_code 75 = .ok (.iconst (1), 1) := by decide +kernel
theorem dPa_append_76 : decode prog_8_method_11_code 76 = .ok (.putfield 50, 3) := by decide +kernel
theorem dPa_append_79 : decode prog_8_method_11_code 79 = .ok (.return_, 1) := by decide +kernel
theorem dPa_acceptsMessage_0 : decode prog_8_method_7_code 0 = .ok (.iload_n 1, 1) := by decide +kernel
theorem dPa_acceptsMessage_1 : decode prog_8_method_7_code 1 = .ok (.invokestatic 71, 3) := by decide +kernel
theorem dPa_acceptsMessage_4 : decode prog_8_method_7_code 4 = .ok (.ifCond .eq (12), 3) := by decide +kernel
theorem dPa_acceptsMessage_7 : decode prog_8_method_7_code 7 = .ok (.aload_n 0, 1) := by decide +kernel
theorem dPa_acceptsMessage_8 : decode prog_8_method_7_code 8 = .ok (.getfield 39, 3) := by decide +kernel
theorem dPa_acceptsMessage_11 : decode prog_8_method_7_code 11 = .ok (.bipush (40), 2) := by decide +kernel
theorem dPa_acceptsMessage_13 : decode prog_8_method_7_code 13 = .ok (.if_icmp .lt (5), 3) := by decide +kernel
theorem dPa_acceptsMessage_16 : decode prog_8_method_7_code 16 = .ok (.iconst (0), 1) := by decide +kernel
theorem dPa_acceptsMessage_17 : decode prog_8_method_7_code 17 = .ok (.ireturn, 1) := by decide +kernel
theorem dPa_acceptsMessage_18 : decode prog_8_method_7_code 18 = .ok (.aload_n 0, 1) := by decide +kernel
theorem dPa_acceptsMessage_19 : decode prog_8_method_7_code 19 = .ok (.dup, 1) := by decide +kernel
theorem dPa_acceptsMessage_20 : decode prog_8_method_7_code 20 = .ok (.getfield 39, 3) := by decide +kernel
theorem dPa_acceptsMessage_23 : decode prog_8_method_7_code 23 = .ok (.iconst (1), 1) := by decide +kernel
theorem dPa_acceptsMessage_24 : decode prog_8_method_7_code 24 = .ok (.iadd, 1) := by decide +kernel
theorem dPa_acceptsMessage_25 : decode prog_8_method_7_code 25 = .ok (.putfield 39, 3) := by decide +kernel
theorem dPa_acceptsMessage_28 : decode prog_8_method_7_code 28 = .ok (.aload_n 0, 1) := by decide +kernel
theorem dPa_acceptsMessage_29 : decode prog_8_method_7_code 29 = .ok (.getfield 21, 3) := by decide +kernel
theorem dPa_acceptsMessage_32 : decode prog_8_method_7_code 32 = .ok (.aload_n 0, 1) := by decide +kernel
theorem dPa_acceptsMessage_33 : decode prog_8_method_7_code 33 = .ok (.getfield 39, 3) := by decide +kernel
theorem dPa_acceptsMessage_36 : decode prog_8_method_7_code 36 = .ok (.aload_n 0, 1) := by decide +kernel
theorem dPa_acceptsMessage_37 : decode prog_8_method_7_code 37 = .ok (.getfield 28, 3) := by decide +kernel
theorem dPa_acceptsMessage_40 : decode prog_8_method_7_code 40 = .ok (.bipush (8), 2) := by decide +kernel
theorem dPa_acceptsMessage_42 : decode prog_8_method_7_code 42 = .ok (.imul, 1) := by decide +kernel
theorem dPa_acceptsMessage_43 : decode prog_8_method_7_code 43 = .ok (.iload_n 1, 1) := by decide +kernel
theorem dPa_acceptsMessage_44 : decode prog_8_method_7_code 44 = .ok (.iadd, 1) := by decide +kernel
theorem dPa_acceptsMessage_45 : decode prog_8_method_7_code 45 = .ok (.iastore, 1) := by decide +kernel
theorem dPa_acceptsMessage_46 : decode prog_8_method_7_code 46 = .ok (.aload_n 0, 1) := by decide +kernel
theorem dPa_acceptsMessage_47 : decode prog_8_method_7_code 47 = .ok (.getfield 24, 3) := by decide +kernel
theorem dPa_acceptsMessage_50 : decode prog_8_method_7_code 50 = .ok (.aload_n 0, 1) := by decide +kernel
theorem dPa_acceptsMessage_51 : decode prog_8_method_7_code 51 = .ok (.getfield 39, 3) := by decide +kernel
theorem dPa_acceptsMessage_54 : decode prog_8_method_7_code 54 = .ok (.lconst 0, 1) := by decide +kernel
theorem dPa_acceptsMessage_55 : decode prog_8_method_7_code 55 = .ok (.lastore, 1) := by decide +kernel
theorem dPa_acceptsMessage_56 : decode prog_8_method_7_code 56 = .ok (.aload_n 0, 1) := by decide +kernel
theorem dPa_acceptsMessage_57 : decode prog_8_method_7_code 57 = .ok (.iconst (-1), 1) := by decide +kernel
theorem dPa_acceptsMessage_58 : decode prog_8_method_7_code 58 = .ok (.putfield 28, 3) := by decide +kernel
theorem dPa_acceptsMessage_61 : decode prog_8_method_7_code 61 = .ok (.aload_n 0, 1) := by decide +kernel
theorem dPa_acceptsMessage_62 : decode prog_8_method_7_code 62 = .ok (.lconst 1, 1) := by decide +kernel
theorem dPa_acceptsMessage_63 : decode prog_8_method_7_code 63 = .ok (.aload_n 0, 1) := by decide +kernel
theorem dPa_acceptsMessage_64 : decode prog_8_method_7_code 64 = .ok (.getfield 39, 3) := by decide +kernel
theorem dPa_acceptsMessage_67 : decode prog_8_method_7_code 67 = .ok (.lshl, 1) := by decide +kernel
theorem dPa_acceptsMessage_68 : decode prog_8_method_7_code 68 = .ok (.lconst 1, 1) := by decide +kernel
theorem dPa_acceptsMessage_69 : decode prog_8_method_7_code 69 = .ok (.aload_n 0, 1) := by decide +kernel
theorem dPa_acceptsMessage_70 : decode prog_8_method_7_code 70 = .ok (.getfield 39, 3) := by decide +kernel
theorem dPa_acceptsMessage_73 : decode prog_8_method_7_code 73 = .ok (.lshl, 1) := by decide +kernel
theorem dPa_acceptsMessage_74 : decode prog_8_method_7_code 74 = .ok (.iconst (0), 1) := by decide +kernel
theorem dPa_acceptsMessage_75 : decode prog_8_method_7_code 75 = .ok (.invokevirtual 57, 3) := by decide +kernel
theorem dPa_acceptsMessage_78 : decode prog_8_method_7_code 78 = .ok (.iconst (1), 1) := by decide +kernel
theorem dPa_acceptsMessage_79 : decode prog_8_method_7_code 79 = .ok (.ireturn, 1) := by decide +kernel
theorem dPa_opens_0 : decode prog_8_method_8_code 0 = .ok (.aload_n 0, 1) := by decide +kernel
theorem dPa_opens_1 : decode prog_8_method_8_code 1 = .ok (.getfield 36, 3) := by decide +kernel
theorem dPa_opens_4 : decode prog_8_method_8_code 4 = .ok (.bipush (80), 2) := by decide +kernel
theorem dPa_opens_6 : decode prog_8_method_8_code 6 = .ok (.if_icmp .lt (5), 3) := by decide +kernel
theorem dPa_opens_9 : decode prog_8_method_8_code 9 = .ok (.iconst (0), 1) := by decide +kernel
theorem dPa_opens_10 : decode prog_8_method_8_code 10 = .ok (.ireturn, 1) := by decide +kernel
theorem dPa_opens_11 : decode prog_8_method_8_code 11 = .ok (.aload_n 0, 1) := by decide +kernel
theorem dPa_opens_12 : decode prog_8_method_8_code 12 = .ok (.dup, 1) := by decide +kernel
theorem dPa_opens_13 : decode prog_8_method_8_code 13 = .ok (.getfield 36, 3) := by decide +kernel
theorem dPa_opens_16 : decode prog_8_method_8_code 16 = .ok (.iconst (1), 1) := by decide +kernel
theorem dPa_opens_17 : decode prog_8_method_8_code 17 = .ok (.iadd, 1) := by decide +kernel
theorem dPa_opens_18 : decode prog_8_method_8_code 18 = .ok (.putfield 36, 3) := by decide +kernel
theorem dPa_opens_21 : decode prog_8_method_8_code 21 = .ok (.aload_n 0, 1) := by decide +kernel
theorem dPa_opens_22 : decode prog_8_method_8_code 22 = .ok (.getfield 17, 3) := by decide +kernel
theorem dPa_opens_25 : decode prog_8_method_8_code 25 = .ok (.aload_n 0, 1) := by decide +kernel
theorem dPa_opens_26 : decode prog_8_method_8_code 26 = .ok (.getfield 36, 3) := by decide +kernel
theorem dPa_opens_29 : decode prog_8_method_8_code 29 = .ok (.aaload, 1) := by decide +kernel
theorem dPa_opens_30 : decode prog_8_method_8_code 30 = .ok (.iload_n 1, 1) := by decide +kernel
theorem dPa_opens_31 : decode prog_8_method_8_code 31 = .ok (.invokevirtual 42, 3) := by decide +kernel
theorem dPa_opens_34 : decode prog_8_method_8_code 34 = .ok (.iconst (1), 1) := by decide +kernel
theorem dPa_opens_35 : decode prog_8_method_8_code 35 = .ok (.ireturn, 1) := by decide +kernel
theorem dLe_mayBar_0 : decode prog_6_method_5_code 0 = .ok (.aload_n 0, 1) := by decide +kernel
theorem dLe_mayBar_1 : decode prog_6_method_5_code 1 = .ok (.getfield 7, 3) := by decide +kernel
theorem dLe_mayBar_4 : decode prog_6_method_5_code 4 = .ok (.bipush (40), 2) := by decide +kernel
theorem dLe_mayBar_6 : decode prog_6_method_5_code 6 = .ok (.if_icmp .ne (14), 3) := by decide +kernel
theorem dLe_mayBar_9 : decode prog_6_method_5_code 9 = .ok (.aload_n 0, 1) := by decide +kernel
theorem dLe_mayBar_10 : decode prog_6_method_5_code 10 = .ok (.getfield 30, 3) := by decide +kernel
theorem dLe_mayBar_13 : decode prog_6_method_5_code 13 = .ok (.ifCond .eq (7), 3) := by decide +kernel
theorem dLe_mayBar_16 : decode prog_6_method_5_code 16 = .ok (.iconst (1), 1) := by decide +kernel
theorem dLe_mayBar_17 : decode prog_6_method_5_code 17 = .ok (.goto (4), 3) := by decide +kernel
theorem dLe_mayBar_20 : decode prog_6_method_5_code 20 = .ok (.iconst (0), 1) := by decide +kernel
theorem dLe_mayBar_21 : decode prog_6_method_5_code 21 = .ok (.ireturn, 1) := by decide +kernel
theorem dLe_endBranch_0 : decode prog_6_method_4_code 0 = .ok (.aload_n 0, 1) := by decide +kernel
theorem dLe_endBranch_1 : decode prog_6_method_4_code 1 = .ok (.dup, 1) := by decide +kernel
theorem dLe_endBranch_2 : decode prog_6_method_4_code 2 = .ok (.getfield 17, 3) := by decide +kernel
theorem dLe_endBranch_5 : decode prog_6_method_4_code 5 = .ok (.aload_n 0, 1) := by decide +kernel
theorem dLe_endBranch_6 : decode prog_6_method_4_code 6 = .ok (.getfield 33, 3) := by decide +kernel
theorem dLe_endBranch_9 : decode prog_6_method_4_code 9 = .ok (.lor, 1) := by decide +kernel
theorem dLe_endBranch_10 : decode prog_6_method_4_code 10 = .ok (.putfield 17, 3) := by decide +kernel
theorem dLe_endBranch_13 : decode prog_6_method_4_code 13 = .ok (.aload_n 0, 1) := by decide +kernel
theorem dLe_endBranch_14 : decode prog_6_method_4_code 14 = .ok (.dup, 1) := by decide +kernel
theorem dLe_endBranch_15 : decode prog_6_method_4_code 15 = .ok (.getfield 21, 3) := by decide +kernel
theorem dLe_endBranch_18 : decode prog_6_method_4_code 18 = .ok (.aload_n 0, 1) := by decide +kernel
theorem dLe_endBranch_19 : decode prog_6_method_4_code 19 = .ok (.getfield 36, 3) := by decide +kernel
theorem dLe_endBranch_22 : decode prog_6_method_4_code 22 = .ok (.lor, 1) := by decide +kernel
theorem dLe_endBranch_23 : decode prog_6_method_4_code 23 = .ok (.putfield 21, 3) := by decide +kernel
theorem dLe_endBranch_26 : decode prog_6_method_4_code 26 = .ok (.aload_n 0, 1) := by decide +kernel
theorem dLe_endBranch_27 : decode prog_6_method_4_code 27 = .ok (.dup, 1) := by decide +kernel
theorem dLe_endBranch_28 : decode prog_6_method_4_code 28 = .ok (.getfield 24, 3) := by decide +kernel
theorem dLe_endBranch_31 : decode prog_6_method_4_code 31 = .ok (.aload_n 0, 1) := by decide +kernel
theorem dLe_endBranch_32 : decode prog_6_method_4_code 32 = .ok (.getfield 39, 3) := by decide +kernel
theorem dLe_endBranch_35 : decode prog_6_method_4_code 35 = .ok (.ior, 1) := by decide +kernel
theorem dLe_endBranch_36 : decode prog_6_method_4_code 36 = .ok (.putfield 24, 3) := by decide +kernel
theorem dLe_endBranch_39 : decode prog_6_method_4_code 39 = .ok (.aload_n 0, 1) := by decide +kernel
theorem dLe_endBranch_40 : decode prog_6_method_4_code 40 = .ok (.invokevirtual 27, 3) := by decide +kernel
theorem dLe_endBranch_43 : decode prog_6_method_4_code 43 = .ok (.return_, 1) := by decide +kernel
theorem dPa_bars_0 : decode prog_8_method_9_code 0 = .ok (.aload_n 0, 1) := by decide +kernel
theorem dPa_bars_1 : decode prog_8_method_9_code 1 = .ok (.getfield 17, 3) := by decide +kernel
theorem dPa_bars_4 : decode prog_8_method_9_code 4 = .ok (.aload_n 0, 1) := by decide +kernel
theorem dPa_bars_5 : decode prog_8_method_9_code 5 = .ok (.getfield 36, 3) := by decide +kernel
theorem dPa_bars_8 : decode prog_8_method_9_code 8 = .ok (.aaload, 1) := by decide +kernel
theorem dPa_bars_9 : decode prog_8_method_9_code 9 = .ok (.astore_n 1, 1) := by decide +kernel
theorem dPa_bars_10 : decode prog_8_method_9_code 10 = .ok (.aload_n 1, 1) := by decide +kernel
theorem dPa_bars_11 : decode prog_8_method_9_code 11 = .ok (.invokevirtual 74, 3) := by decide +kernel
theorem dPa_bars_14 : decode prog_8_method_9_code 14 = .ok (.ifCond .ne (5), 3) := by decide +kernel
theorem dPa_bars_17 : decode prog_8_method_9_code 17 = .ok (.iconst (0), 1) := by decide +kernel
theorem dPa_bars_18 : decode prog_8_method_9_code 18 = .ok (.ireturn, 1) := by decide +kernel
theorem dPa_bars_19 : decode prog_8_method_9_code 19 = .ok (.aload_n 1, 1) := by decide +kernel
theorem dPa_bars_20 : decode prog_8_method_9_code 20 = .ok (.iconst (1), 1) := by decide +kernel
theorem dPa_bars_21 : decode prog_8_method_9_code 21 = .ok (.putfield 77, 3) := by decide +kernel
theorem dPa_bars_24 : decode prog_8_method_9_code 24 = .ok (.aload_n 1, 1) := by decide +kernel
theorem dPa_bars_25 : decode prog_8_method_9_code 25 = .ok (.invokevirtual 80, 3) := by decide +kernel
theorem dPa_bars_28 : decode prog_8_method_9_code 28 = .ok (.iconst (1), 1) := by decide +kernel
theorem dPa_bars_29 : decode prog_8_method_9_code 29 = .ok (.ireturn, 1) := by decide +kernel
theorem dLe_mayClose_0 : decode prog_6_method_6_code 0 = .ok (.aload_n 0, 1) := by decide +kernel
theorem dLe_mayClose_1 : decode prog_6_method_6_code 1 = .ok (.getfield 30, 3) := by decide +kernel
theorem dLe_mayClose_4 : decode prog_6_method_6_code 4 = .ok (.ifCond .eq (41), 3) := by decide +kernel
theorem dLe_mayClose_7 : decode prog_6_method_6_code 7 = .ok (.iload_n 1, 1) := by decide +kernel
theorem dLe_mayClose_8 : decode prog_6_method_6_code 8 = .ok (.bipush (41), 2) := by decide +kernel
theorem dLe_mayClose_10 : decode prog_6_method_6_code 10 = .ok (.if_icmp .ne (22), 3) := by decide +kernel
theorem dLe_mayClose_13 : decode prog_6_method_6_code 13 = .ok (.aload_n 0, 1) := by decide +kernel
theorem dLe_mayClose_14 : decode prog_6_method_6_code 14 = .ok (.getfield 7, 3) := by decide +kernel
theorem dLe_mayClose_17 : decode prog_6_method_6_code 17 = .ok (.bipush (40), 2) := by decide +kernel
theorem dLe_mayClose_19 : decode prog_6_method_6_code 19 = .ok (.if_icmp .ne (26), 3) := by decide +kernel
theorem dLe_mayClose_22 : decode prog_6_method_6_code 22 = .ok (.aload_n 0, 1) := by decide +kernel
theorem dLe_mayClose_23 : decode prog_6_method_6_code 23 = .ok (.getfield 13, 3) := by decide +kernel
theorem dLe_mayClose_26 : decode prog_6_method_6_code 26 = .ok (.ifCond .eq (19), 3) := by decide +kernel
theorem dLe_mayClose_29 : decode prog_6_method_6_code 29 = .ok (.goto (12), 3) := by decide +kernel
theorem dLe_mayClose_32 : decode prog_6_method_6_code 32 = .ok (.aload_n 0, 1) := by decide +kernel
theorem dLe_mayClose_33 : decode prog_6_method_6_code 33 = .ok (.getfield 7, 3) := by decide +kernel
theorem dLe_mayClose_36 : decode prog_6_method_6_code 36 = .ok (.bipush (123), 2) := by decide +kernel
theorem dLe_mayClose_38 : decode prog_6_method_6_code 38 = .ok (.if_icmp .ne (7), 3) := by decide +kernel
theorem dLe_mayClose_41 : decode prog_6_method_6_code 41 = .ok (.iconst (1), 1) := by decide +kernel
theorem dLe_mayClose_42 : decode prog_6_method_6_code 42 = .ok (.goto (4), 3) := by decide +kernel
theorem dLe_mayClose_45 : decode prog_6_method_6_code 45 = .ok (.iconst (0), 1) := by decide +kernel
theorem dLe_mayClose_46 : decode prog_6_method_6_code 46 = .ok (.ireturn, 1) := by decide +kernel
theorem dPa_closes_0 : decode prog_8_method_10_code 0 = .ok (.aload_n 0, 1) := by decide +kernel
theorem dPa_closes_1 : decode prog_8_method_10_code 1 = .ok (.getfield 17, 3) := by decide +kernel
theorem dPa_closes_4 : decode prog_8_method_10_code 4 = .ok (.aload_n 0, 1) := by decide +kernel
theorem dPa_closes_5 : decode prog_8_method_10_code 5 = .ok (.getfield 36, 3) := by decide +kernel
theorem dPa_closes_8 : decode prog_8_method_10_code 8 = .ok (.aaload, 1) := by decide +kernel
theorem dPa_closes_9 : decode prog_8_method_10_code 9 = .ok (.astore_n 2, 1) := by decide +kernel
theorem dPa_closes_10 : decode prog_8_method_10_code 10 = .ok (.aload_n 0, 1) := by decide +kernel
theorem dPa_closes_11 : decode prog_8_method_10_code 11 = .ok (.getfield 36, 3) := by decide +kernel
theorem dPa_closes_14 : decode prog_8_method_10_code 14 = .ok (.ifCond .eq (11), 3) := by decide +kernel
theorem dPa_closes_17 : decode prog_8_method_10_code 17 = .ok (.aload_n 2, 1) := by decide +kernel
theorem dPa_closes_18 : decode prog_8_method_10_code 18 = .ok (.iload_n 1, 1) := by decide +kernel
theorem dPa_closes_19 : decode prog_8_method_10_code 19 = .ok (.invokevirtual 83, 3) := by decide +kernel
theorem dPa_closes_22 : decode prog_8_method_10_code 22 = .ok (.ifCond .ne (5), 3) := by decide +kernel
theorem dPa_closes_25 : decode prog_8_method_10_code 25 = .ok (.iconst (0), 1) := by decide +kernel
theorem dPa_closes_26 : decode prog_8_method_10_code 26 = .ok (.ireturn, 1) := by decide +kernel
theorem dPa_closes_27 : decode prog_8_method_10_code 27 = .ok (.aload_n 0, 1) := by decide +kernel
theorem dPa_closes_28 : decode prog_8_method_10_code 28 = .ok (.dup, 1) := by decide +kernel
theorem dPa_closes_29 : decode prog_8_method_10_code 29 = .ok (.getfield 36, 3) := by decide +kernel
theorem dPa_closes_32 : decode prog_8_method_10_code 32 = .ok (.iconst (1), 1) := by decide +kernel
theorem dPa_closes_33 : decode prog_8_method_10_code 33 = .ok (.isub, 1) := by decide +kernel
theorem dPa_closes_34 : decode prog_8_method_10_code 34 = .ok (.putfield 36, 3) := by decide +kernel
theorem dPa_closes_37 : decode prog_8_method_10_code 37 = .ok (.iload_n 1, 1) := by decide +kernel
theorem dPa_closes_38 : decode prog_8_method_10_code 38 = .ok (.bipush (125), 2) := by decide +kernel
theorem dPa_closes_40 : decode prog_8_method_10_code 40 = .ok (.if_icmp .ne (31), 3) := by decide +kernel
theorem dPa_closes_43 : decode prog_8_method_10_code 43 = .ok (.aload_n 0, 1) := by decide +kernel
theorem dPa_closes_44 : decode prog_8_method_10_code 44 = .ok (.aload_n 2, 1) := by decide +kernel
theorem dPa_closes_45 : decode prog_8_method_10_code 45 = .ok (.getfield 86, 3) := by decide +kernel
theorem dPa_closes_48 : decode prog_8_method_10_code 48 = .ok (.aload_n 2, 1) := by decide +kernel
theorem dPa_closes_49 : decode prog_8_method_10_code 49 = .ok (.getfield 90, 3) := by decide +kernel
theorem dPa_closes_52 : decode prog_8_method_10_code 52 = .ok (.invokevirtual 93, 3) := by decide +kernel
theorem dPa_closes_55 : decode prog_8_method_10_code 55 = .ok (.aload_n 0, 1) := by decide +kernel
theorem dPa_closes_56 : decode prog_8_method_10_code 56 = .ok (.aload_n 2, 1) := by decide +kernel
theorem dPa_closes_57 : decode prog_8_method_10_code 57 = .ok (.getfield 90, 3) := by decide +kernel
theorem dPa_closes_60 : decode prog_8_method_10_code 60 = .ok (.aload_n 2, 1) := by decide +kernel
theorem dPa_closes_61 : decode prog_8_method_10_code 61 = .ok (.getfield 86, 3) := by decide +kernel
theorem dPa_closes_64 : decode prog_8_method_10_code 64 = .ok (.iconst (1), 1) := by decide +kernel
theorem dPa_closes_65 : decode prog_8_method_10_code 65 = .ok (.invokevirtual 57, 3) := by decide +kernel
theorem dPa_closes_68 : decode prog_8_method_10_code 68 = .ok (.goto (23), 3) := by decide +kernel
theorem dPa_closes_71 : decode prog_8_method_10_code 71 = .ok (.aload_n 2, 1) := by decide +kernel
theorem dPa_closes_72 : decode prog_8_method_10_code 72 = .ok (.invokevirtual 80, 3) := by decide +kernel
theorem dPa_closes_75 : decode prog_8_method_10_code 75 = .ok (.aload_n 0, 1) := by decide +kernel
theorem dPa_closes_76 : decode prog_8_method_10_code 76 = .ok (.aload_n 2, 1) := by decide +kernel
theorem dPa_closes_77 : decode prog_8_method_10_code 77 = .ok (.getfield 97, 3) := by decide +kernel
theorem dPa_closes_80 : decode prog_8_method_10_code 80 = .ok (.aload_n 2, 1) := by decide +kernel
theorem dPa_closes_81 : decode prog_8_method_10_code 81 = .ok (.getfield 100, 3) := by decide +kernel
theorem dPa_closes_84 : decode prog_8_method_10_code 84 = .ok (.aload_n 2, 1) := by decide +kernel
theorem dPa_closes_85 : decode prog_8_method_10_code 85 = .ok (.getfield 103, 3) := by decide +kernel
theorem dPa_closes_88 : decode prog_8_method_10_code 88 = .ok (.invokevirtual 57, 3) := by decide +kernel
theorem dPa_closes_91 : decode prog_8_method_10_code 91 = .ok (.iconst (1), 1) := by decide +kernel
theorem dPa_closes_92 : decode prog_8_method_10_code 92 = .ok (.ireturn, 1) := by decide +kernel
theorem dPa_accepts_0 : decode prog_8_method_6_code 0 = .ok (.aload_n 0, 1) := by decide +kernel
theorem dPa_accepts_1 : decode prog_8_method_6_code 1 = .ok (.getfield 28, 3) := by decide +kernel
theorem dPa_accepts_4 : decode prog_8_method_6_code 4 = .ok (.iconst (-1), 1) := by decide +kernel
theorem dPa_accepts_5 : decode prog_8_method_6_code 5 = .ok (.if_icmp .eq (12), 3) := by decide +kernel
theorem dPa_accepts_8 : decode prog_8_method_6_code 8 = .ok (.aload_n 0, 1) := by decide +kernel
theorem dPa_accepts_9 : decode prog_8_method_6_code 9 = .ok (.iload_n 1, 1) := by decide +kernel
theorem dPa_accepts_10 : decode prog_8_method_6_code 10 = .ok (.bipush (97), 2) := by decide +kernel
theorem dPa_accepts_12 : decode prog_8_method_6_code 12 = .ok (.isub, 1) := by decide +kernel
theorem dPa_accepts_13 : decode prog_8_method_6_code 13 = .ok (.invokevirtual 54, 3) := by decide +kernel
theorem dPa_accepts_16 : decode prog_8_method_6_code 16 = .ok (.ireturn, 1) := by decide +kernel
theorem dPa_accepts_17 : decode prog_8_method_6_code 17 = .ok (.iload_n 1, 1) := by decide +kernel
theorem dPa_accepts_18 : decode prog_8_method_6_code 18 = .ok (.lookupswitch (114) #[(33, 81), (40, 97), (41, 108), (48, 88), (63, 74), (123, 97), (124, 103), (125, 108)], 74) := by decide +kernel
theorem dPa_accepts_92 : decode prog_8_method_6_code 92 = .ok (.aload_n 0, 1) := by decide +kernel
theorem dPa_accepts_93 : decode prog_8_method_6_code 93 = .ok (.iconst (0), 1) := by decide +kernel
theorem dPa_accepts_94 : decode prog_8_method_6_code 94 = .ok (.putfield 28, 3) := by decide +kernel
theorem dPa_accepts_97 : decode prog_8_method_6_code 97 = .ok (.iconst (1), 1) := by decide +kernel
theorem dPa_accepts_98 : decode prog_8_method_6_code 98 = .ok (.ireturn, 1) := by decide +kernel
theorem dPa_accepts_99 : decode prog_8_method_6_code 99 = .ok (.aload_n 0, 1) := by decide +kernel
theorem dPa_accepts_100 : decode prog_8_method_6_code 100 = .ok (.iconst (1), 1) := by decide +kernel
theorem dPa_accepts_101 : decode prog_8_method_6_code 101 = .ok (.putfield 28, 3) := by decide +kernel
theorem dPa_accepts_104 : decode prog_8_method_6_code 104 = .ok (.iconst (1), 1) := by decide +kernel
theorem dPa_accepts_105 : decode prog_8_method_6_code 105 = .ok (.ireturn, 1) := by decide +kernel
theorem dPa_accepts_106 : decode prog_8_method_6_code 106 = .ok (.aload_n 0, 1) := by decide +kernel
theorem dPa_accepts_107 : decode prog_8_method_6_code 107 = .ok (.lconst 0, 1) := by decide +kernel
theorem dPa_accepts_108 : decode prog_8_method_6_code 108 = .ok (.lconst 0, 1) := by decide +kernel
theorem dPa_accepts_109 : decode prog_8_method_6_code 109 = .ok (.iconst (1), 1) := by decide +kernel
theorem dPa_accepts_110 : decode prog_8_method_6_code 110 = .ok (.invokevirtual 57, 3) := by decide +kernel
theorem dPa_accepts_113 : decode prog_8_method_6_code 113 = .ok (.iconst (1), 1) := by decide +kernel
theorem dPa_accepts_114 : decode prog_8_method_6_code 114 = .ok (.ireturn, 1) := by decide +kernel
theorem dPa_accepts_115 : decode prog_8_method_6_code 115 = .ok (.aload_n 0, 1) := by decide +kernel
theorem dPa_accepts_116 : decode prog_8_method_6_code 116 = .ok (.iload_n 1, 1) := by decide +kernel
theorem dPa_accepts_117 : decode prog_8_method_6_code 117 = .ok (.invokevirtual 61, 3) := by decide +kernel
theorem dPa_accepts_120 : decode prog_8_method_6_code 120 = .ok (.ireturn, 1) := by decide +kernel
theorem dPa_accepts_121 : decode prog_8_method_6_code 121 = .ok (.aload_n 0, 1) := by decide +kernel
theorem dPa_accepts_122 : decode prog_8_method_6_code 122 = .ok (.invokevirtual 64, 3) := by decide +kernel
theorem dPa_accepts_125 : decode prog_8_method_6_code 125 = .ok (.ireturn, 1) := by decide +kernel
theorem dPa_accepts_126 : decode prog_8_method_6_code 126 = .ok (.aload_n 0, 1) := by decide +kernel
theorem dPa_accepts_127 : decode prog_8_method_6_code 127 = .ok (.iload_n 1, 1) := by decide +kernel
theorem dPa_accepts_128 : decode prog_8_method_6_code 128 = .ok (.invokevirtual 68, 3) := by decide +kernel
theorem dPa_accepts_131 : decode prog_8_method_6_code 131 = .ok (.ireturn, 1) := by decide +kernel
theorem dPa_accepts_132 : decode prog_8_method_6_code 132 = .ok (.iconst (0), 1) := by decide +kernel
theorem dPa_accepts_133 : decode prog_8_method_6_code 133 = .ok (.ireturn, 1) := by decide +kernel
theorem dPa_read_0 : decode prog_8_method_4_code 0 = .ok (.aload_n 0, 1) := by decide +kernel
theorem dPa_read_1 : decode prog_8_method_4_code 1 = .ok (.iconst (0), 1) := by decide +kernel
theorem dPa_read_2 : decode prog_8_method_4_code 2 = .ok (.putfield 36, 3) := by decide +kernel
theorem dPa_read_5 : decode prog_8_method_4_code 5 = .ok (.aload_n 0, 1) := by decide +kernel
theorem dPa_read_6 : decode prog_8_method_4_code 6 = .ok (.iconst (0), 1) := by decide +kernel
theorem dPa_read_7 : decode prog_8_method_4_code 7 = .ok (.putfield 39, 3) := by decide +kernel
theorem dPa_read_10 : decode prog_8_method_4_code 10 = .ok (.aload_n 0, 1) := by decide +kernel
theorem dPa_read_11 : decode prog_8_method_4_code 11 = .ok (.iconst (-1), 1) := by decide +kernel
theorem dPa_read_12 : decode prog_8_method_4_code 12 = .ok (.putfield 28, 3) := by decide +kernel
theorem dPa_read_15 : decode prog_8_method_4_code 15 = .ok (.aload_n 0, 1) := by decide +kernel
theorem dPa_read_16 : decode prog_8_method_4_code 16 = .ok (.getfield 17, 3) := by decide +kernel
theorem dPa_read_19 : decode prog_8_method_4_code 19 = .ok (.iconst (0), 1) := by decide +kernel
theorem dPa_read_20 : decode prog_8_method_4_code 20 = .ok (.aaload, 1) := by decide +kernel
theorem dPa_read_21 : decode prog_8_method_4_code 21 = .ok (.iconst (0), 1) := by decide +kernel
theorem dPa_read_22 : decode prog_8_method_4_code 22 = .ok (.invokevirtual 42, 3) := by decide +kernel
theorem dPa_read_25 : decode prog_8_method_4_code 25 = .ok (.iconst (0), 1) := by decide +kernel
theorem dPa_read_26 : decode prog_8_method_4_code 26 = .ok (.istore_n 1, 1) := by decide +kernel
theorem dPa_read_27 : decode prog_8_method_4_code 27 = .ok (.iload_n 1, 1) := by decide +kernel
theorem dPa_read_28 : decode prog_8_method_4_code 28 = .ok (.aload_n 0, 1) := by decide +kernel
theorem dPa_read_29 : decode prog_8_method_4_code 29 = .ok (.getfield 33, 3) := by decide +kernel
theorem dPa_read_32 : decode prog_8_method_4_code 32 = .ok (.if_icmp .ge (24), 3) := by decide +kernel
theorem dPa_read_35 : decode prog_8_method_4_code 35 = .ok (.aload_n 0, 1) := by decide +kernel
theorem dPa_read_36 : decode prog_8_method_4_code 36 = .ok (.aload_n 0, 1) := by decide +kernel
theorem dPa_read_37 : decode prog_8_method_4_code 37 = .ok (.getfield 9, 3) := by decide +kernel
theorem dPa_read_40 : decode prog_8_method_4_code 40 = .ok (.iload_n 1, 1) := by decide +kernel
theorem dPa_read_41 : decode prog_8_method_4_code 41 = .ok (.iaload, 1) := by decide +kernel
theorem dPa_read_42 : decode prog_8_method_4_code 42 = .ok (.invokevirtual 46, 3) := by decide +kernel
theorem dPa_read_45 : decode prog_8_method_4_code 45 = .ok (.ifCond .ne (5), 3) := by decide +kernel
theorem dPa_read_48 : decode prog_8_method_4_code 48 = .ok (.iload_n 1, 1) := by decide +kernel
theorem dPa_read_49 : decode prog_8_method_4_code 49 = .ok (.ireturn, 1) := by decide +kernel
theorem dPa_read_50 : decode prog_8_method_4_code 50 = .ok (.iinc 1 (1), 3) := by decide +kernel
theorem dPa_read_53 : decode prog_8_method_4_code 53 = .ok (.goto (-26), 3) := by decide +kernel
theorem dPa_read_56 : decode prog_8_method_4_code 56 = .ok (.aload_n 0, 1) := by decide +kernel
theorem dPa_read_57 : decode prog_8_method_4_code 57 = .ok (.getfield 33, 3) := by decide +kernel
theorem dPa_read_60 : decode prog_8_method_4_code 60 = .ok (.ireturn, 1) := by decide +kernel
theorem dC_good_0 : decode prog_1_method_4_code 0 = .ok (.aload_n 0, 1) := by decide +kernel
theorem dC_good_1 : decode prog_1_method_4_code 1 = .ok (.getfield 10, 3) := by decide +kernel
theorem dC_good_4 : decode prog_1_method_4_code 4 = .ok (.invokevirtual 73, 3) := by decide +kernel
theorem dC_good_7 : decode prog_1_method_4_code 7 = .ok (.ireturn, 1) := by decide +kernel
theorem dM_fresh_0 : decode prog_14_method_7_code 0 = .ok (.aload_n 0, 1) := by decide +kernel
theorem dM_fresh_1 : decode prog_14_method_7_code 1 = .ok (.getfield 54, 3) := by decide +kernel
theorem dM_fresh_4 : decode prog_14_method_7_code 4 = .ok (.aload_n 0, 1) := by decide +kernel
theorem dM_fresh_5 : decode prog_14_method_7_code 5 = .ok (.getfield 124, 3) := by decide +kernel
theorem dM_fresh_8 : decode prog_14_method_7_code 8 = .ok (.iconst (1), 1) := by decide +kernel
theorem dM_fresh_9 : decode prog_14_method_7_code 9 = .ok (.bastore, 1) := by decide +kernel
theorem dM_fresh_10 : decode prog_14_method_7_code 10 = .ok (.aload_n 0, 1) := by decide +kernel
theorem dM_fresh_11 : decode prog_14_method_7_code 11 = .ok (.getfield 57, 3) := by decide +kernel
theorem dM_fresh_14 : decode prog_14_method_7_code 14 = .ok (.aload_n 0, 1) := by decide +kernel
theorem dM_fresh_15 : decode prog_14_method_7_code 15 = .ok (.getfield 124, 3) := by decide +kernel
theorem dM_fresh_18 : decode prog_14_method_7_code 18 = .ok (.lconst 0, 1) := by decide +kernel
theorem dM_fresh_19 : decode prog_14_method_7_code 19 = .ok (.lastore, 1) := by decide +kernel
theorem dM_fresh_20 : decode prog_14_method_7_code 20 = .ok (.aload_n 0, 1) := by decide +kernel
theorem dM_fresh_21 : decode prog_14_method_7_code 21 = .ok (.getfield 61, 3) := by decide +kernel
theorem dM_fresh_24 : decode prog_14_method_7_code 24 = .ok (.aload_n 0, 1) := by decide +kernel
theorem dM_fresh_25 : decode prog_14_method_7_code 25 = .ok (.getfield 124, 3) := by decide +kernel
theorem dM_fresh_28 : decode prog_14_method_7_code 28 = .ok (.lconst 0, 1) := by decide +kernel
theorem dM_fresh_29 : decode prog_14_method_7_code 29 = .ok (.lastore, 1) := by decide +kernel
theorem dM_fresh_30 : decode prog_14_method_7_code 30 = .ok (.return_, 1) := by decide +kernel
theorem dM_open_0 : decode prog_14_method_6_code 0 = .ok (.aload_n 0, 1) := by decide +kernel
theorem dM_open_1 : decode prog_14_method_6_code 1 = .ok (.dup, 1) := by decide +kernel
theorem dM_open_2 : decode prog_14_method_6_code 2 = .ok (.getfield 124, 3) := by decide +kernel
theorem dM_open_5 : decode prog_14_method_6_code 5 = .ok (.iconst (1), 1) := by decide +kernel
theorem dM_open_6 : decode prog_14_method_6_code 6 = .ok (.iadd, 1) := by decide +kernel
theorem dM_open_7 : decode prog_14_method_6_code 7 = .ok (.putfield 124, 3) := by decide +kernel
theorem dM_open_10 : decode prog_14_method_6_code 10 = .ok (.aload_n 0, 1) := by decide +kernel
theorem dM_open_11 : decode prog_14_method_6_code 11 = .ok (.getfield 48, 3) := by decide +kernel
theorem dM_open_14 : decode prog_14_method_6_code 14 = .ok (.aload_n 0, 1) := by decide +kernel
theorem dM_open_15 : decode prog_14_method_6_code 15 = .ok (.getfield 124, 3) := by decide +kernel
theorem dM_open_18 : decode prog_14_method_6_code 18 = .ok (.iload_n 1, 1) := by decide +kernel
theorem dM_open_19 : decode prog_14_method_6_code 19 = .ok (.iastore, 1) := by decide +kernel
theorem dM_open_20 : decode prog_14_method_6_code 20 = .ok (.aload_n 0, 1) := by decide +kernel
theorem dM_open_21 : decode prog_14_method_6_code 21 = .ok (.getfield 51, 3) := by decide +kernel
theorem dM_open_24 : decode prog_14_method_6_code 24 = .ok (.aload_n 0, 1) := by decide +kernel
theorem dM_open_25 : decode prog_14_method_6_code 25 = .ok (.getfield 124, 3) := by decide +kernel
theorem dM_open_28 : decode prog_14_method_6_code 28 = .ok (.iconst (0), 1) := by decide +kernel
theorem dM_open_29 : decode prog_14_method_6_code 29 = .ok (.iastore, 1) := by decide +kernel
theorem dM_open_30 : decode prog_14_method_6_code 30 = .ok (.aload_n 0, 1) := by decide +kernel
theorem dM_open_31 : decode prog_14_method_6_code 31 = .ok (.getfield 64, 3) := by decide +kernel
theorem dM_open_34 : decode prog_14_method_6_code 34 = .ok (.aload_n 0, 1) := by decide +kernel
theorem dM_open_35 : decode prog_14_method_6_code 35 = .ok (.getfield 124, 3) := by decide +kernel
theorem dM_open_38 : decode prog_14_method_6_code 38 = .ok (.iconst (0), 1) := by decide +kernel
theorem dM_open_39 : decode prog_14_method_6_code 39 = .ok (.bastore, 1) := by decide +kernel
theorem dM_open_40 : decode prog_14_method_6_code 40 = .ok (.aload_n 0, 1) := by decide +kernel
theorem dM_open_41 : decode prog_14_method_6_code 41 = .ok (.getfield 67, 3) := by decide +kernel
theorem dM_open_44 : decode prog_14_method_6_code 44 = .ok (.aload_n 0, 1) := by decide +kernel
theorem dM_open_45 : decode prog_14_method_6_code 45 = .ok (.getfield 124, 3) := by decide +kernel
theorem dM_open_48 : decode prog_14_method_6_code 48 = .ok (.lconst 0, 1) := by decide +kernel
theorem dM_open_49 : decode prog_14_method_6_code 49 = .ok (.lastore, 1) := by decide +kernel
theorem dM_open_50 : decode prog_14_method_6_code 50 = .ok (.aload_n 0, 1) := by decide +kernel
theorem dM_open_51 : decode prog_14_method_6_code 51 = .ok (.getfield 70, 3) := by decide +kernel
theorem dM_open_54 : decode prog_14_method_6_code 54 = .ok (.aload_n 0, 1) := by decide +kernel
theorem dM_open_55 : decode prog_14_method_6_code 55 = .ok (.getfield 124, 3) := by decide +kernel
theorem dM_open_58 : decode prog_14_method_6_code 58 = .ok (.lconst 0, 1) := by decide +kernel
theorem dM_open_59 : decode prog_14_method_6_code 59 = .ok (.lastore, 1) := by decide +kernel
theorem dM_open_60 : decode prog_14_method_6_code 60 = .ok (.aload_n 0, 1) := by decide +kernel
theorem dM_open_61 : decode prog_14_method_6_code 61 = .ok (.invokevirtual 127, 3) := by decide +kernel
theorem dM_open_64 : decode prog_14_method_6_code 64 = .ok (.return_, 1) := by decide +kernel
theorem dM_in_0 : decode prog_14_method_3_code 0 = .ok (.iload_n 0, 1) := by decide +kernel
theorem dM_in_1 : decode prog_14_method_3_code 1 = .ok (.iload_n 1, 1) := by decide +kernel
theorem dM_in_2 : decode prog_14_method_3_code 2 = .ok (.if_icmp .lt (12), 3) := by decide +kernel
theorem dM_in_5 : decode prog_14_method_3_code 5 = .ok (.iload_n 0, 1) := by decide +kernel
theorem dM_in_6 : decode prog_14_method_3_code 6 = .ok (.iload_n 2, 1) := by decide +kernel
theorem dM_in_7 : decode prog_14_method_3_code 7 = .ok (.if_icmp .gt (7), 3) := by decide +kernel
theorem dM_in_10 : decode prog_14_method_3_code 10 = .ok (.iconst (1), 1) := by decide +kernel
theorem dM_in_11 : decode prog_14_method_3_code 11 = .ok (.goto (4), 3) := by decide +kernel
theorem dM_in_14 : decode prog_14_method_3_code 14 = .ok (.iconst (0), 1) := by decide +kernel
theorem dM_in_15 : decode prog_14_method_3_code 15 = .ok (.ireturn, 1) := by decide +kernel
theorem dM_link_0 : decode prog_14_method_9_code 0 = .ok (.iconst (0), 1) := by decide +kernel
theorem dM_link_1 : decode prog_14_method_9_code 1 = .ok (.istore 5, 2) := by decide +kernel
theorem dM_link_3 : decode prog_14_method_9_code 3 = .ok (.iload 5, 2) := by decide +kernel
theorem dM_link_5 : decode prog_14_method_9_code 5 = .ok (.aload_n 0, 1) := by decide +kernel
theorem dM_link_6 : decode prog_14_method_9_code 6 = .ok (.getfield 134, 3) := by decide +kernel
theorem dM_link_9 : decode prog_14_method_9_code 9 = .ok (.if_icmp .ge (35), 3) := by decide +kernel
theorem dM_link_12 : decode prog_14_method_9_code 12 = .ok (.aload_n 0, 1) := by decide +kernel
theorem dM_link_13 : decode prog_14_method_9_code 13 = .ok (.getfield 76, 3) := by decide +kernel
theorem dM_link_16 : decode prog_14_method_9_code 16 = .ok (.iload 5, 2) := by decide +kernel
theorem dM_link_18 : decode prog_14_method_9_code 18 = .ok (.dup2, 1) := by decide +kernel
theorem dM_link_19 : decode prog_14_method_9_code 19 = .ok (.laload, 1) := by decide +kernel
theorem dM_link_20 : decode prog_14_method_9_code 20 = .ok (.lload_n 1, 1) := by decide +kernel
theorem dM_link_21 : decode prog_14_method_9_code 21 = .ok (.iload 5, 2) := by decide +kernel
theorem dM_link_23 : decode prog_14_method_9_code 23 = .ok (.lshr, 1) := by decide +kernel
theorem dM_link_24 : decode prog_14_method_9_code 24 = .ok (.lconst 1, 1) := by decide +kernel
theorem dM_link_25 : decode prog_14_method_9_code 25 = .ok (.land, 1) := by decide +kernel
theorem dM_link_26 : decode prog_14_method_9_code 26 = .ok (.lconst 1, 1) := by decide +kernel
theorem dM_link_27 : decode prog_14_method_9_code 27 = .ok (.lcmp, 1) := by decide +kernel
theorem dM_link_28 : decode prog_14_method_9_code 28 = .ok (.ifCond .ne (7), 3) := by decide +kernel
theorem dM_link_31 : decode prog_14_method_9_code 31 = .ok (.lload_n 3, 1) := by decide +kernel
theorem dM_link_32 : decode prog_14_method_9_code 32 = .ok (.goto (4), 3) := by decide +kernel
theorem dM_link_35 : decode prog_14_method_9_code 35 = .ok (.lconst 0, 1) := by decide +kernel
theorem dM_link_36 : decode prog_14_method_9_code 36 = .ok (.lor, 1) := by decide +kernel
theorem dM_link_37 : decode prog_14_method_9_code 37 = .ok (.lastore, 1) := by decide +kernel
theorem dM_link_38 : decode prog_14_method_9_code 38 = .ok (.iinc 5 (1), 3) := by decide +kernel
theorem dM_link_41 : decode prog_14_method_9_code 41 = .ok (.goto (-38), 3) := by decide +kernel
theorem dM_link_44 : decode prog_14_method_9_code 44 = .ok (.return_, 1) := by decide +kernel
theorem dM_append_0 : decode prog_14_method_8_code 0 = .ok (.aload_n 0, 1) := by decide +kernel
theorem dM_append_1 : decode prog_14_method_8_code 1 = .ok (.aload_n 0, 1) := by decide +kernel
theorem dM_append_2 : decode prog_14_method_8_code 2 = .ok (.getfield 61, 3) := by decide +kernel
theorem dM_append_5 : decode prog_14_method_8_code 5 = .ok (.aload_n 0, 1) := by decide +kernel
theorem dM_append_6 : decode prog_14_method_8_code 6 = .ok (.getfield 124, 3) := by decide +kernel
theorem dM_append_9 : decode prog_14_method_8_code 9 = .ok (.laload, 1) := by decide +kernel
theorem dM_append_10 : decode prog_14_method_8_code 10 = .ok (.lload_n 2, 1) := by decide +kernel
theorem dM_append_11 : decode prog_14_method_8_code 11 = .ok (.invokevirtual 130, 3) := by decide +kernel
theorem dM_append_14 : decode prog_14_method_8_code 14 = .ok (.aload_n 0, 1) := by decide +kernel
theorem dM_append_15 : decode prog_14_method_8_code 15 = .ok (.getfield 57, 3) := by decide +kernel
theorem dM_append_18 : decode prog_14_method_8_code 18 = .ok (.aload_n 0, 1) := by decide +kernel
theorem dM_append_19 : decode prog_14_method_8_code 19 = .ok (.getfield 124, 3) := by decide +kernel
theorem dM_append_22 : decode prog_14_method_8_code 22 = .ok (.dup2, 1) := by decide +kernel
theorem dM_append_23 : decode prog_14_method_8_code 23 = .ok (.laload, 1) := by decide +kernel
theorem dM_append_24 : decode prog_14_method_8_code 24 = .ok (.aload_n 0, 1) := by decide +kernel
theorem dM_append_25 : decode prog_14_method_8_code 25 = .ok (.getfield 54, 3) := by decide +kernel
theorem dM_append_28 : decode prog_14_method_8_code 28 = .ok (.aload_n 0, 1) := by decide +kernel
theorem dM_append_29 : decode prog_14_method_8_code 29 = .ok (.getfield 124, 3) := by decide +kernel
theorem dM_append_32 : decode prog_14_method_8_code 32 = .ok (.baload, 1) := by decide +kernel
theorem dM_append_33 : decode prog_14_method_8_code 33 = .ok (.ifCond .eq (7), 3) := by decide +kernel
theorem dM_append_36 : decode prog_14_method_8_code 36 = .ok (.lload_n 2, 1) := by decide +kernel
theorem dM_append_37 : decode prog_14_method_8_code 37 = .ok (.goto (4), 3) := by decide +kernel
theorem dM_append_40 : decode prog_14_method_8_code 40 = .ok (.lconst 0, 1) := by decide +kernel
theorem dM_append_41 : decode prog_14_method_8_code 41 = .ok (.lor, 1) := by decide +kernel
theorem dM_append_42 : decode prog_14_method_8_code 42 = .ok (.lastore, 1) := by decide +kernel
theorem dM_append_43 : decode prog_14_method_8_code 43 = .ok (.aload_n 0, 1) := by decide +kernel
theorem dM_append_44 : decode prog_14_method_8_code 44 = .ok (.getfield 61, 3) := by decide +kernel
theorem dM_append_47 : decode prog_14_method_8_code 47 = .ok (.aload_n 0, 1) := by decide +kernel
theorem dM_append_48 : decode prog_14_method_8_code 48 = .ok (.getfield 124, 3) := by decide +kernel
theorem dM_append_51 : decode prog_14_method_8_code 51 = .ok (.iload_n 1, 1) := by decide +kernel
theorem dM_append_52 : decode prog_14_method_8_code 52 = .ok (.ifCond .eq (18), 3) := by decide +kernel
theorem dM_append_55 : decode prog_14_method_8_code 55 = .ok (.aload_n 0, 1) := by decide +kernel
theorem dM_append_56 : decode prog_14_method_8_code 56 = .ok (.getfield 61, 3) := by decide +kernel
theorem dM_append_59 : decode prog_14_method_8_code 59 = .ok (.aload_n 0, 1) := by decide +kernel
theorem dM_append_60 : decode prog_14_method_8_code 60 = .ok (.getfield 124, 3) := by decide +kernel
theorem dM_append_63 : decode prog_14_method_8_code 63 = .ok (.laload, 1) := by decide +kernel
theorem dM_append_64 : decode prog_14_method_8_code 64 = .ok (.lload 4, 2) := by decide +kernel
theorem dM_append_66 : decode prog_14_method_8_code 66 = .ok (.lor, 1) := by decide +kernel
theorem dM_append_67 : decode prog_14_method_8_code 67 = .ok (.goto (5), 3) := by decide +kernel
theorem dM_append_70 : decode prog_14_method_8_code 70 = .ok (.lload 4, 2) := by decide +kernel
theorem dM_append_72 : decode prog_14_method_8_code 72 = .ok (.lastore, 1) := by decide +kernel
theorem dM_append_73 : decode prog_14_method_8_code 73 = .ok (.aload_n 0, 1) := by decide +kernel
theorem dM_append_74 : decode prog_14_method_8_code 74 = .ok (.getfield 54, 3) := by decide +kernel
theorem dM_append_77 : decode prog_14_method_8_code 77 = .ok (.aload_n 0, 1) := by decide +kernel
theorem dM_append_78 : decode prog_14_method_8_code 78 = .ok (.getfield 124, 3) := by decide +kernel
theorem dM_append_81 : decode prog_14_method_8_code 81 = .ok (.aload_n 0, 1) := by decide +kernel
theorem dM_append_82 : decode prog_14_method_8_code 82 = .ok (.getfield 54, 3) := by decide +kernel
theorem dM_append_85 : decode prog_14_method_8_code 85 = .ok (.aload_n 0, 1) := by decide +kernel
theorem dM_append_86 : decode prog_14_method_8_code 86 = .ok (.getfield 124, 3) := by decide +kernel
theorem dM_append_89 : decode prog_14_method_8_code 89 = .ok (.baload, 1) := by decide +kernel
theorem dM_append_90 : decode prog_14_method_8_code 90 = .ok (.ifCond .eq (11), 3) := by decide +kernel
theorem dM_append_93 : decode prog_14_method_8_code 93 = .ok (.iload_n 1, 1) := by decide +kernel
theorem dM_append_94 : decode prog_14_method_8_code 94 = .ok (.ifCond .eq (7), 3) := by decide +kernel
theorem dM_append_97 : decode prog_14_method_8_code 97 = .ok (.iconst (1), 1) := by decide +kernel
theorem dM_append_98 : decode prog_14_method_8_code 98 = .ok (.goto (4), 3) := by decide +kernel
theorem dM_append_101 : decode prog_14_method_8_code 101 = .ok (.iconst (0), 1) := by decide +kernel
theorem dM_append_102 : decode prog_14_method_8_code 102 = .ok (.bastore, 1) := by decide +kernel
theorem dM_append_103 : decode prog_14_method_8_code 103 = .ok (.return_, 1) := by decide +kernel
theorem dM_gather_0 : decode prog_14_method_10_code 0 = .ok (.aload_n 0, 1) := by decide +kernel
theorem dM_gather_1 : decode prog_14_method_10_code 1 = .ok (.getfield 64, 3) := by decide +kernel
theorem dM_gather_4 : decode prog_14_method_10_code 4 = .ok (.aload_n 0, 1) := by decide +kernel
theorem dM_gather_5 : decode prog_14_method_10_code 5 = .ok (.getfield 124, 3) := by decide +kernel
theorem dM_gather_8 : decode prog_14_method_10_code 8 = .ok (.aload_n 0, 1) := by decide +kernel
theorem dM_gather_9 : decode prog_14_method_10_code 9 = .ok (.getfield 64, 3) := by decide +kernel
theorem dM_gather_12 : decode prog_14_method_10_code 12 = .ok (.aload_n 0, 1) := by decide +kernel
theorem dM_gather_13 : decode prog_14_method_10_code 13 = .ok (.getfield 124, 3) := by decide +kernel
theorem dM_gather_16 : decode prog_14_method_10_code 16 = .ok (.baload, 1) := by decide +kernel
theorem dM_gather_17 : decode prog_14_method_10_code 17 = .ok (.ifCond .ne (15), 3) := by decide +kernel
theorem dM_gather_20 : decode prog_14_method_10_code 20 = .ok (.aload_n 0, 1) := by decide +kernel
theorem dM_gather_21 : decode prog_14_method_10_code 21 = .ok (.getfield 54, 3) := by decide +kernel
theorem dM_gather_24 : decode prog_14_method_10_code 24 = .ok (.aload_n 0, 1) := by decide +kernel
theorem dM_gather_25 : decode prog_14_method_10_code 25 = .ok (.getfield 124, 3) := by decide +kernel
theorem dM_gather_28 : decode prog_14_method_10_code 28 = .ok (.baload, 1) := by decide +kernel
theorem dM_gather_29 : decode prog_14_method_10_code 29 = .ok (.ifCond .eq (7), 3) := by decide +kernel
theorem dM_gather_32 : decode prog_14_method_10_code 32 = .ok (.iconst (1), 1) := by decide +kernel
theorem dM_gather_33 : decode prog_14_method_10_code 33 = .ok (.goto (4), 3) := by decide +kernel
theorem dM_gather_36 : decode prog_14_method_10_code 36 = .ok (.iconst (0), 1) := by decide +kernel
theorem dM_gather_37 : decode prog_14_method_10_code 37 = .ok (.bastore, 1) := by decide +kernel
theorem dM_gather_38 : decode prog_14_method_10_code 38 = .ok (.aload_n 0, 1) := by decide +kernel
theorem dM_gather_39 : decode prog_14_method_10_code 39 = .ok (.getfield 67, 3) := by decide +kernel
theorem dM_gather_42 : decode prog_14_method_10_code 42 = .ok (.aload_n 0, 1) := by decide +kernel
theorem dM_gather_43 : decode prog_14_method_10_code 43 = .ok (.getfield 124, 3) := by decide +kernel
theorem dM_gather_46 : decode prog_14_method_10_code 46 = .ok (.dup2, 1) := by decide +kernel
theorem dM_gather_47 : decode prog_14_method_10_code 47 = .ok (.laload, 1) := by decide +kernel
theorem dM_gather_48 : decode prog_14_method_10_code 48 = .ok (.aload_n 0, 1) := by decide +kernel
theorem dM_gather_49 : decode prog_14_method_10_code 49 = .ok (.getfield 57, 3) := by decide +kernel
theorem dM_gather_52 : decode prog_14_method_10_code 52 = .ok (.aload_n 0, 1) := by decide +kernel
theorem dM_gather_53 : decode prog_14_method_10_code 53 = .ok (.getfield 124, 3) := by decide +kernel
theorem dM_gather_56 : decode prog_14_method_10_code 56 = .ok (.laload, 1) := by decide +kernel
theorem dM_gather_57 : decode prog_14_method_10_code 57 = .ok (.lor, 1) := by decide +kernel
theorem dM_gather_58 : decode prog_14_method_10_code 58 = .ok (.lastore, 1) := by decide +kernel
theorem dM_gather_59 : decode prog_14_method_10_code 59 = .ok (.aload_n 0, 1) := by decide +kernel
theorem dM_gather_60 : decode prog_14_method_10_code 60 = .ok (.getfield 70, 3) := by decide +kernel
theorem dM_gather_63 : decode prog_14_method_10_code 63 = .ok (.aload_n 0, 1) := by decide +kernel
theorem dM_gather_64 : decode prog_14_method_10_code 64 = .ok (.getfield 124, 3) := by decide +kernel
theorem dM_gather_67 : decode prog_14_method_10_code 67 = .ok (.dup2, 1) := by decide +kernel
theorem dM_gather_68 : decode prog_14_method_10_code 68 = .ok (.laload, 1) := by decide +kernel
theorem dM_gather_69 : decode prog_14_method_10_code 69 = .ok (.aload_n 0, 1) := by decide +kernel
theorem dM_gather_70 : decode prog_14_method_10_code 70 = .ok (.getfield 61, 3) := by decide +kernel
theorem dM_gather_73 : decode prog_14_method_10_code 73 = .ok (.aload_n 0, 1) := by decide +kernel
theorem dM_gather_74 : decode prog_14_method_10_code 74 = .ok (.getfield 124, 3) := by decide +kernel
theorem dM_gather_77 : decode prog_14_method_10_code 77 = .ok (.laload, 1) := by decide +kernel
theorem dM_gather_78 : decode prog_14_method_10_code 78 = .ok (.lor, 1) := by decide +kernel
