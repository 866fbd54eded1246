theorem dX10_hands_7 : decode cX10_hands 7 = .ok (.aload 4, 2) := by decide +kernel
theorem dX10_hands_9 : decode cX10_hands 9 = .ok (.ifnull 16, 3) := by decide +kernel
theorem dX10_hands_12 : decode cX10_hands 12 = .ok (.iload_n 2, 1) := by decide +kernel
theorem dX10_hands_13 : decode cX10_hands 13 = .ok (.iconst (-1), 1) := by decide +kernel
theorem dX10_hands_14 : decode cX10_hands 14 = .ok (.if_icmp .lt 11, 3) := by decide +kernel
theorem dX10_hands_17 : decode cX10_hands 17 = .ok (.iload_n 3, 1) := by decide +kernel
theorem dX10_hands_18 : decode cX10_hands 18 = .ok (.iconst 1, 1) := by decide +kernel
theorem dX10_hands_19 : decode cX10_hands 19 = .ok (.invokestatic 106, 3) := by decide +kernel
theorem dX10_hands_22 : decode cX10_hands 22 = .ok (.ifCond .ne 6, 3) := by decide +kernel
theorem dX10_hands_25 : decode cX10_hands 25 = .ok (.ldc 110, 2) := by decide +kernel
theorem dX10_hands_27 : decode cX10_hands 27 = .ok (.ireturn, 1) := by decide +kernel
theorem dX10_hands_28 : decode cX10_hands 28 = .ok (.iload_n 2, 1) := by decide +kernel
theorem dX10_hands_29 : decode cX10_hands 29 = .ok (.iconst (-1), 1) := by decide +kernel
theorem dX10_hands_30 : decode cX10_hands 30 = .ok (.if_icmp .ne 9, 3) := by decide +kernel
theorem dX10_hands_33 : decode cX10_hands 33 = .ok (.aload 4, 2) := by decide +kernel
theorem dX10_hands_35 : decode cX10_hands 35 = .ok (.getfield 279, 3) := by decide +kernel
theorem dX10_hands_38 : decode cX10_hands 38 = .ok (.ireturn, 1) := by decide +kernel
theorem dX10_hands_39 : decode cX10_hands 39 = .ok (.iload_n 3, 1) := by decide +kernel
theorem dX10_hands_40 : decode cX10_hands 40 = .ok (.ifCond .ne 12, 3) := by decide +kernel
theorem dX10_hands_43 : decode cX10_hands 43 = .ok (.aload 4, 2) := by decide +kernel
theorem dX10_hands_45 : decode cX10_hands 45 = .ok (.iload_n 2, 1) := by decide +kernel
theorem dX10_hands_46 : decode cX10_hands 46 = .ok (.invokevirtual 282, 3) := by decide +kernel
theorem dX10_hands_49 : decode cX10_hands 49 = .ok (.goto 9, 3) := by decide +kernel
theorem dX10_hands_52 : decode cX10_hands 52 = .ok (.aload 4, 2) := by decide +kernel
theorem dX10_hands_54 : decode cX10_hands 54 = .ok (.iload_n 2, 1) := by decide +kernel
theorem dX10_hands_55 : decode cX10_hands 55 = .ok (.invokevirtual 285, 3) := by decide +kernel
theorem dX10_hands_58 : decode cX10_hands 58 = .ok (.ireturn, 1) := by decide +kernel
theorem dX10_trader_0 : decode cX10_trader 0 = .ok (.aload_n 0, 1) := by decide +kernel
theorem dX10_trader_1 : decode cX10_trader 1 = .ok (.iload_n 1, 1) := by decide +kernel
theorem dX10_trader_2 : decode cX10_trader 2 = .ok (.invokevirtual 236, 3) := by decide +kernel
theorem dX10_trader_5 : decode cX10_trader 5 = .ok (.astore 4, 2) := by decide +kernel
theorem dX10_trader_7 : decode cX10_trader 7 = .ok (.aload 4, 2) := by decide +kernel
theorem dX10_trader_9 : decode cX10_trader 9 = .ok (.ifnull 19, 3) := by decide +kernel
theorem dX10_trader_12 : decode cX10_trader 12 = .ok (.iload_n 2, 1) := by decide +kernel
theorem dX10_trader_13 : decode cX10_trader 13 = .ok (.invokestatic 151, 3) := by decide +kernel
theorem dX10_trader_16 : decode cX10_trader 16 = .ok (.ifCond .eq 12, 3) := by decide +kernel
theorem dX10_trader_19 : decode cX10_trader 19 = .ok (.iload_n 3, 1) := by decide +kernel
theorem dX10_trader_20 : decode cX10_trader 20 = .ok (.bipush 100, 2) := by decide +kernel
theorem dX10_trader_22 : decode cX10_trader 22 = .ok (.invokestatic 106, 3) := by decide +kernel
theorem dX10_trader_25 : decode cX10_trader 25 = .ok (.ifCond .ne 6, 3) := by decide +kernel
theorem dX10_trader_28 : decode cX10_trader 28 = .ok (.ldc 110, 2) := by decide +kernel
theorem dX10_trader_30 : decode cX10_trader 30 = .ok (.ireturn, 1) := by decide +kernel
theorem dX10_trader_31 : decode cX10_trader 31 = .ok (.aload 4, 2) := by decide +kernel
theorem dX10_trader_33 : decode cX10_trader 33 = .ok (.iload_n 2, 1) := by decide +kernel
theorem dX10_trader_34 : decode cX10_trader 34 = .ok (.putfield 288, 3) := by decide +kernel
theorem dX10_trader_37 : decode cX10_trader 37 = .ok (.aload 4, 2) := by decide +kernel
theorem dX10_trader_39 : decode cX10_trader 39 = .ok (.iload_n 3, 1) := by decide +kernel
theorem dX10_trader_40 : decode cX10_trader 40 = .ok (.putfield 289, 3) := by decide +kernel
theorem dX10_trader_43 : decode cX10_trader 43 = .ok (.iconst 1, 1) := by decide +kernel
theorem dX10_trader_44 : decode cX10_trader 44 = .ok (.ireturn, 1) := by decide +kernel
theorem dX10_pay_0 : decode cX10_pay 0 = .ok (.aload_n 0, 1) := by decide +kernel
theorem dX10_pay_1 : decode cX10_pay 1 = .ok (.iload_n 1, 1) := by decide +kernel
theorem dX10_pay_2 : decode cX10_pay 2 = .ok (.invokevirtual 236, 3) := by decide +kernel
theorem dX10_pay_5 : decode cX10_pay 5 = .ok (.astore 4, 2) := by decide +kernel
theorem dX10_pay_7 : decode cX10_pay 7 = .ok (.aload_n 0, 1) := by decide +kernel
theorem dX10_pay_8 : decode cX10_pay 8 = .ok (.iload_n 2, 1) := by decide +kernel
theorem dX10_pay_9 : decode cX10_pay 9 = .ok (.invokevirtual 236, 3) := by decide +kernel
theorem dX10_pay_12 : decode cX10_pay 12 = .ok (.astore 5, 2) := by decide +kernel
theorem dX10_pay_14 : decode cX10_pay 14 = .ok (.aload 4, 2) := by decide +kernel
theorem dX10_pay_16 : decode cX10_pay 16 = .ok (.ifnull 25, 3) := by decide +kernel
theorem dX10_pay_19 : decode cX10_pay 19 = .ok (.aload 5, 2) := by decide +kernel
theorem dX10_pay_21 : decode cX10_pay 21 = .ok (.ifnull 20, 3) := by decide +kernel
theorem dX10_pay_24 : decode cX10_pay 24 = .ok (.iload_n 1, 1) := by decide +kernel
theorem dX10_pay_25 : decode cX10_pay 25 = .ok (.iload_n 2, 1) := by decide +kernel
theorem dX10_pay_26 : decode cX10_pay 26 = .ok (.if_icmp .eq 15, 3) := by decide +kernel
theorem dX10_pay_29 : decode cX10_pay 29 = .ok (.iload_n 3, 1) := by decide +kernel
theorem dX10_pay_30 : decode cX10_pay 30 = .ok (.iconst 1, 1) := by decide +kernel
theorem dX10_pay_31 : decode cX10_pay 31 = .ok (.if_icmp .lt 10, 3) := by decide +kernel
theorem dX10_pay_34 : decode cX10_pay 34 = .ok (.iload_n 3, 1) := by decide +kernel
theorem dX10_pay_35 : decode cX10_pay 35 = .ok (.sipush 999, 3) := by decide +kernel
theorem dX10_pay_38 : decode cX10_pay 38 = .ok (.if_icmp .le 6, 3) := by decide +kernel
theorem dX10_pay_41 : decode cX10_pay 41 = .ok (.ldc 110, 2) := by decide +kernel
theorem dX10_pay_43 : decode cX10_pay 43 = .ok (.ireturn, 1) := by decide +kernel
theorem dX10_pay_44 : decode cX10_pay 44 = .ok (.aload_n 0, 1) := by decide +kernel
theorem dX10_pay_45 : decode cX10_pay 45 = .ok (.iload_n 1, 1) := by decide +kernel
theorem dX10_pay_46 : decode cX10_pay 46 = .ok (.aload 4, 2) := by decide +kernel
theorem dX10_pay_48 : decode cX10_pay 48 = .ok (.getfield 288, 3) := by decide +kernel
theorem dX10_pay_51 : decode cX10_pay 51 = .ok (.aload 5, 2) := by decide +kernel
theorem dX10_pay_53 : decode cX10_pay 53 = .ok (.invokevirtual 292, 3) := by decide +kernel
theorem dX10_pay_56 : decode cX10_pay 56 = .ok (.iconst 0, 1) := by decide +kernel
theorem dX10_pay_57 : decode cX10_pay 57 = .ok (.istore 6, 2) := by decide +kernel
theorem dX10_pay_59 : decode cX10_pay 59 = .ok (.iconst 0, 1) := by decide +kernel
theorem dX10_pay_60 : decode cX10_pay 60 = .ok (.istore 7, 2) := by decide +kernel
theorem dX10_pay_62 : decode cX10_pay 62 = .ok (.iload 7, 2) := by decide +kernel
theorem dX10_pay_64 : decode cX10_pay 64 = .ok (.bipush 24, 2) := by decide +kernel
theorem dX10_pay_66 : decode cX10_pay 66 = .ok (.if_icmp .ge 64, 3) := by decide +kernel
theorem dX10_pay_69 : decode cX10_pay 69 = .ok (.iload 6, 2) := by decide +kernel
theorem dX10_pay_71 : decode cX10_pay 71 = .ok (.iload_n 3, 1) := by decide +kernel
theorem dX10_pay_72 : decode cX10_pay 72 = .ok (.if_icmp .ge 58, 3) := by decide +kernel
theorem dX10_pay_75 : decode cX10_pay 75 = .ok (.aload_n 0, 1) := by decide +kernel
theorem dX10_pay_76 : decode cX10_pay 76 = .ok (.aload_n 0, 1) := by decide +kernel
theorem dX10_pay_77 : decode cX10_pay 77 = .ok (.invokevirtual 296, 3) := by decide +kernel
theorem dX10_pay_80 : decode cX10_pay 80 = .ok (.invokevirtual 246, 3) := by decide +kernel
theorem dX10_pay_83 : decode cX10_pay 83 = .ok (.astore 8, 2) := by decide +kernel
theorem dX10_pay_85 : decode cX10_pay 85 = .ok (.aload 8, 2) := by decide +kernel
theorem dX10_pay_87 : decode cX10_pay 87 = .ok (.ifnonnull 6, 3) := by decide +kernel
theorem dX10_pay_90 : decode cX10_pay 90 = .ok (.goto 40, 3) := by decide +kernel
theorem dX10_pay_93 : decode cX10_pay 93 = .ok (.aload_n 0, 1) := by decide +kernel
theorem dX10_pay_94 : decode cX10_pay 94 = .ok (.getfield 63, 3) := by decide +kernel
theorem dX10_pay_97 : decode cX10_pay 97 = .ok (.aload 8, 2) := by decide +kernel
theorem dX10_pay_99 : decode cX10_pay 99 = .ok (.getfield 299, 3) := by decide +kernel
theorem dX10_pay_102 : decode cX10_pay 102 = .ok (.iconst (-1), 1) := by decide +kernel
theorem dX10_pay_103 : decode cX10_pay 103 = .ok (.iastore, 1) := by decide +kernel
theorem dX10_pay_104 : decode cX10_pay 104 = .ok (.aload 8, 2) := by decide +kernel
theorem dX10_pay_106 : decode cX10_pay 106 = .ok (.iload_n 2, 1) := by decide +kernel
theorem dX10_pay_107 : decode cX10_pay 107 = .ok (.aload_n 0, 1) := by decide +kernel
theorem dX10_pay_108 : decode cX10_pay 108 = .ok (.getfield 91, 3) := by decide +kernel
theorem dX10_pay_111 : decode cX10_pay 111 = .ok (.invokevirtual 243, 3) := by decide +kernel
theorem dX10_pay_114 : decode cX10_pay 114 = .ok (.iload 6, 2) := by decide +kernel
theorem dX10_pay_116 : decode cX10_pay 116 = .ok (.aload 8, 2) := by decide +kernel
theorem dX10_pay_118 : decode cX10_pay 118 = .ok (.getfield 253, 3) := by decide +kernel
theorem dX10_pay_121 : decode cX10_pay 121 = .ok (.iadd, 1) := by decide +kernel
theorem dX10_pay_122 : decode cX10_pay 122 = .ok (.istore 6, 2) := by decide +kernel
theorem dX10_pay_124 : decode cX10_pay 124 = .ok (.iinc 7 1, 3) := by decide +kernel
theorem dX10_pay_127 : decode cX10_pay 127 = .ok (.goto (-65), 3) := by decide +kernel
theorem dX10_pay_130 : decode cX10_pay 130 = .ok (.iload 6, 2) := by decide +kernel
theorem dX10_pay_132 : decode cX10_pay 132 = .ok (.ireturn, 1) := by decide +kernel
theorem dX10_bears_0 : decode cX10_bears 0 = .ok (.aload_n 0, 1) := by decide +kernel
theorem dX10_bears_1 : decode cX10_bears 1 = .ok (.iload_n 1, 1) := by decide +kernel
theorem dX10_bears_2 : decode cX10_bears 2 = .ok (.invokevirtual 246, 3) := by decide +kernel
theorem dX10_bears_5 : decode cX10_bears 5 = .ok (.astore_n 3, 1) := by decide +kernel
theorem dX10_bears_6 : decode cX10_bears 6 = .ok (.aload_n 3, 1) := by decide +kernel
theorem dX10_bears_7 : decode cX10_bears 7 = .ok (.ifnull 13, 3) := by decide +kernel
theorem dX10_bears_10 : decode cX10_bears 10 = .ok (.iload_n 2, 1) := by decide +kernel
theorem dX10_bears_11 : decode cX10_bears 11 = .ok (.sipush 299, 3) := by decide +kernel
theorem dX10_bears_14 : decode cX10_bears 14 = .ok (.invokestatic 106, 3) := by decide +kernel
theorem dX10_bears_17 : decode cX10_bears 17 = .ok (.ifCond .ne 6, 3) := by decide +kernel
theorem dX10_bears_20 : decode cX10_bears 20 = .ok (.ldc 110, 2) := by decide +kernel
theorem dX10_bears_22 : decode cX10_bears 22 = .ok (.ireturn, 1) := by decide +kernel
theorem dX10_bears_23 : decode cX10_bears 23 = .ok (.aload_n 3, 1) := by decide +kernel
theorem dX10_bears_24 : decode cX10_bears 24 = .ok (.getfield 265, 3) := by decide +kernel
theorem dX10_bears_27 : decode cX10_bears 27 = .ok (.ifCond .eq 7, 3) := by decide +kernel
theorem dX10_bears_30 : decode cX10_bears 30 = .ok (.ldc_w 302, 3) := by decide +kernel
theorem dX10_bears_33 : decode cX10_bears 33 = .ok (.ireturn, 1) := by decide +kernel
theorem dX10_bears_34 : decode cX10_bears 34 = .ok (.aload_n 3, 1) := by decide +kernel
theorem dX10_bears_35 : decode cX10_bears 35 = .ok (.aload_n 0, 1) := by decide +kernel
theorem dX10_bears_36 : decode cX10_bears 36 = .ok (.getfield 91, 3) := by decide +kernel
theorem dX10_bears_39 : decode cX10_bears 39 = .ok (.iload_n 2, 1) := by decide +kernel
theorem dX10_bears_40 : decode cX10_bears 40 = .ok (.invokevirtual 303, 3) := by decide +kernel
theorem dX10_bears_43 : decode cX10_bears 43 = .ok (.ireturn, 1) := by decide +kernel
theorem dX10_home_0 : decode cX10_home 0 = .ok (.aload_n 0, 1) := by decide +kernel
theorem dX10_home_1 : decode cX10_home 1 = .ok (.iload_n 1, 1) := by decide +kernel
theorem dX10_home_2 : decode cX10_home 2 = .ok (.invokevirtual 246, 3) := by decide +kernel
theorem dX10_home_5 : decode cX10_home 5 = .ok (.astore_n 2, 1) := by decide +kernel
theorem dX10_home_6 : decode cX10_home 6 = .ok (.aload_n 2, 1) := by decide +kernel
theorem dX10_home_7 : decode cX10_home 7 = .ok (.ifnonnull 6, 3) := by decide +kernel
theorem dX10_home_10 : decode cX10_home 10 = .ok (.ldc 110, 2) := by decide +kernel
theorem dX10_home_12 : decode cX10_home 12 = .ok (.ireturn, 1) := by decide +kernel
theorem dX10_home_13 : decode cX10_home 13 = .ok (.aload_n 0, 1) := by decide +kernel
theorem dX10_home_14 : decode cX10_home 14 = .ok (.aload_n 2, 1) := by decide +kernel
theorem dX10_home_15 : decode cX10_home 15 = .ok (.getfield 250, 3) := by decide +kernel
theorem dX10_home_18 : decode cX10_home 18 = .ok (.invokevirtual 169, 3) := by decide +kernel
theorem dX10_home_21 : decode cX10_home 21 = .ok (.astore_n 3, 1) := by decide +kernel
theorem dX10_home_22 : decode cX10_home 22 = .ok (.aload_n 2, 1) := by decide +kernel
theorem dX10_home_23 : decode cX10_home 23 = .ok (.getfield 265, 3) := by decide +kernel
theorem dX10_home_26 : decode cX10_home 26 = .ok (.ifCond .ne 7, 3) := by decide +kernel
theorem dX10_home_29 : decode cX10_home 29 = .ok (.aload_n 3, 1) := by decide +kernel
theorem dX10_home_30 : decode cX10_home 30 = .ok (.ifnonnull 7, 3) := by decide +kernel
theorem dX10_home_33 : decode cX10_home 33 = .ok (.ldc_w 302, 3) := by decide +kernel
theorem dX10_home_36 : decode cX10_home 36 = .ok (.ireturn, 1) := by decide +kernel
theorem dX10_home_37 : decode cX10_home 37 = .ok (.aload_n 2, 1) := by decide +kernel
theorem dX10_home_38 : decode cX10_home 38 = .ok (.getfield 256, 3) := by decide +kernel
theorem dX10_home_41 : decode cX10_home 41 = .ok (.aload_n 3, 1) := by decide +kernel
theorem dX10_home_42 : decode cX10_home 42 = .ok (.getfield 179, 3) := by decide +kernel
theorem dX10_home_45 : decode cX10_home 45 = .ok (.if_icmp .eq 10, 3) := by decide +kernel
theorem dX10_home_48 : decode cX10_home 48 = .ok (.aload_n 2, 1) := by decide +kernel
theorem dX10_home_49 : decode cX10_home 49 = .ok (.iconst 2, 1) := by decide +kernel
theorem dX10_home_50 : decode cX10_home 50 = .ok (.putfield 265, 3) := by decide +kernel
theorem dX10_home_53 : decode cX10_home 53 = .ok (.iconst 0, 1) := by decide +kernel
theorem dX10_home_54 : decode cX10_home 54 = .ok (.ireturn, 1) := by decide +kernel
theorem dX10_home_55 : decode cX10_home 55 = .ok (.aload_n 2, 1) := by decide +kernel
theorem dX10_home_56 : decode cX10_home 56 = .ok (.iconst 1, 1) := by decide +kernel
theorem dX10_home_57 : decode cX10_home 57 = .ok (.putfield 265, 3) := by decide +kernel
theorem dX10_home_60 : decode cX10_home 60 = .ok (.aload_n 3, 1) := by decide +kernel
theorem dX10_home_61 : decode cX10_home 61 = .ok (.aload_n 2, 1) := by decide +kernel
theorem dX10_home_62 : decode cX10_home 62 = .ok (.getfield 253, 3) := by decide +kernel
theorem dX10_home_65 : decode cX10_home 65 = .ok (.invokevirtual 306, 3) := by decide +kernel
theorem dX10_home_68 : decode cX10_home 68 = .ok (.ireturn, 1) := by decide +kernel
theorem dX10_cut_0 : decode cX10_cut 0 = .ok (.aload_n 0, 1) := by decide +kernel
theorem dX10_cut_1 : decode cX10_cut 1 = .ok (.iload_n 1, 1) := by decide +kernel
theorem dX10_cut_2 : decode cX10_cut 2 = .ok (.invokevirtual 246, 3) := by decide +kernel
theorem dX10_cut_5 : decode cX10_cut 5 = .ok (.astore_n 3, 1) := by decide +kernel
theorem dX10_cut_6 : decode cX10_cut 6 = .ok (.aload_n 3, 1) := by decide +kernel
theorem dX10_cut_7 : decode cX10_cut 7 = .ok (.ifnull 19, 3) := by decide +kernel
theorem dX10_cut_10 : decode cX10_cut 10 = .ok (.aload_n 0, 1) := by decide +kernel
theorem dX10_cut_11 : decode cX10_cut 11 = .ok (.iload_n 2, 1) := by decide +kernel
theorem dX10_cut_12 : decode cX10_cut 12 = .ok (.invokevirtual 236, 3) := by decide +kernel
theorem dX10_cut_15 : decode cX10_cut 15 = .ok (.ifnull 11, 3) := by decide +kernel
theorem dX10_cut_18 : decode cX10_cut 18 = .ok (.aload_n 3, 1) := by decide +kernel
theorem dX10_cut_19 : decode cX10_cut 19 = .ok (.invokevirtual 262, 3) := by decide +kernel
theorem dX10_cut_22 : decode cX10_cut 22 = .ok (.iload_n 2, 1) := by decide +kernel
theorem dX10_cut_23 : decode cX10_cut 23 = .ok (.if_icmp .ne 6, 3) := by decide +kernel
theorem dX10_cut_26 : decode cX10_cut 26 = .ok (.ldc 110, 2) := by decide +kernel
theorem dX10_cut_28 : decode cX10_cut 28 = .ok (.ireturn, 1) := by decide +kernel
theorem dX10_cut_29 : decode cX10_cut 29 = .ok (.aload_n 3, 1) := by decide +kernel
theorem dX10_cut_30 : decode cX10_cut 30 = .ok (.getfield 265, 3) := by decide +kernel
theorem dX10_cut_33 : decode cX10_cut 33 = .ok (.ifCond .ne 10, 3) := by decide +kernel
theorem dX10_cut_36 : decode cX10_cut 36 = .ok (.aload_n 3, 1) := by decide +kernel
theorem dX10_cut_37 : decode cX10_cut 37 = .ok (.getfield 309, 3) := by decide +kernel
theorem dX10_cut_40 : decode cX10_cut 40 = .ok (.ifCond .eq 7, 3) := by decide +kernel
theorem dX10_cut_43 : decode cX10_cut 43 = .ok (.ldc_w 302, 3) := by decide +kernel
theorem dX10_cut_46 : decode cX10_cut 46 = .ok (.ireturn, 1) := by decide +kernel
theorem dX10_cut_47 : decode cX10_cut 47 = .ok (.aload_n 3, 1) := by decide +kernel
theorem dX10_cut_48 : decode cX10_cut 48 = .ok (.iload_n 2, 1) := by decide +kernel
theorem dX10_cut_49 : decode cX10_cut 49 = .ok (.invokevirtual 312, 3) := by decide +kernel
theorem dX10_cut_52 : decode cX10_cut 52 = .ok (.iconst 1, 1) := by decide +kernel
theorem dX10_cut_53 : decode cX10_cut 53 = .ok (.ireturn, 1) := by decide +kernel
theorem dX10_half_0 : decode cX10_half 0 = .ok (.aload_n 0, 1) := by decide +kernel
theorem dX10_half_1 : decode cX10_half 1 = .ok (.iload_n 1, 1) := by decide +kernel
theorem dX10_half_2 : decode cX10_half 2 = .ok (.invokevirtual 246, 3) := by decide +kernel
theorem dX10_half_5 : decode cX10_half 5 = .ok (.astore 4, 2) := by decide +kernel
theorem dX10_half_7 : decode cX10_half 7 = .ok (.aload 4, 2) := by decide +kernel
theorem dX10_half_9 : decode cX10_half 9 = .ok (.ifnull 26, 3) := by decide +kernel
theorem dX10_half_12 : decode cX10_half 12 = .ok (.iload_n 2, 1) := by decide +kernel
theorem dX10_half_13 : decode cX10_half 13 = .ok (.iconst 1, 1) := by decide +kernel
theorem dX10_half_14 : decode cX10_half 14 = .ok (.invokestatic 106, 3) := by decide +kernel
theorem dX10_half_17 : decode cX10_half 17 = .ok (.ifCond .eq 18, 3) := by decide +kernel
theorem dX10_half_20 : decode cX10_half 20 = .ok (.iload_n 3, 1) := by decide +kernel
theorem dX10_half_21 : decode cX10_half 21 = .ok (.ldc_w 316, 3) := by decide +kernel
theorem dX10_half_24 : decode cX10_half 24 = .ok (.if_icmp .eq 14, 3) := by decide +kernel
theorem dX10_half_27 : decode cX10_half 27 = .ok (.aload_n 0, 1) := by decide +kernel
theorem dX10_half_28 : decode cX10_half 28 = .ok (.iload_n 3, 1) := by decide +kernel
theorem dX10_half_29 : decode cX10_half 29 = .ok (.invokevirtual 236, 3) := by decide +kernel
theorem dX10_half_32 : decode cX10_half 32 = .ok (.ifnonnull 6, 3) := by decide +kernel
theorem dX10_half_35 : decode cX10_half 35 = .ok (.ldc 110, 2) := by decide +kernel
theorem dX10_half_37 : decode cX10_half 37 = .ok (.ireturn, 1) := by decide +kernel
theorem dX10_half_38 : decode cX10_half 38 = .ok (.aload 4, 2) := by decide +kernel
theorem dX10_half_40 : decode cX10_half 40 = .ok (.getfield 265, 3) := by decide +kernel
theorem dX10_half_43 : decode cX10_half 43 = .ok (.iconst 3, 1) := by decide +kernel
theorem dX10_half_44 : decode cX10_half 44 = .ok (.if_icmp .ne 15, 3) := by decide +kernel
theorem dX10_half_47 : decode cX10_half 47 = .ok (.aload 4, 2) := by decide +kernel
theorem dX10_half_49 : decode cX10_half 49 = .ok (.iload_n 2, 1) := by decide +kernel
theorem dX10_half_50 : decode cX10_half 50 = .ok (.invokevirtual 317, 3) := by decide +kernel
theorem dX10_half_53 : decode cX10_half 53 = .ok (.ldc_w 316, 3) := by decide +kernel
theorem dX10_half_56 : decode cX10_half 56 = .ok (.if_icmp .ne 7, 3) := by decide +kernel
theorem dX10_half_59 : decode cX10_half 59 = .ok (.ldc_w 302, 3) := by decide +kernel
theorem dX10_half_62 : decode cX10_half 62 = .ok (.ireturn, 1) := by decide +kernel
theorem dX10_half_63 : decode cX10_half 63 = .ok (.aload 4, 2) := by decide +kernel
theorem dX10_half_65 : decode cX10_half 65 = .ok (.iload_n 2, 1) := by decide +kernel
theorem dX10_half_66 : decode cX10_half 66 = .ok (.iload_n 3, 1) := by decide +kernel
theorem dX10_half_67 : decode cX10_half 67 = .ok (.aload_n 0, 1) := by decide +kernel
theorem dX10_half_68 : decode cX10_half 68 = .ok (.getfield 91, 3) := by decide +kernel
theorem dX10_half_71 : decode cX10_half 71 = .ok (.invokevirtual 320, 3) := by decide +kernel
theorem dX10_half_74 : decode cX10_half 74 = .ok (.aload 4, 2) := by decide +kernel
theorem dX10_half_76 : decode cX10_half 76 = .ok (.invokevirtual 323, 3) := by decide +kernel
theorem dX10_half_79 : decode cX10_half 79 = .ok (.ireturn, 1) := by decide +kernel
theorem dX10_rates_0 : decode cX10_rates 0 = .ok (.aload_n 0, 1) := by decide +kernel
theorem dX10_rates_1 : decode cX10_rates 1 = .ok (.iload_n 2, 1) := by decide +kernel
theorem dX10_rates_2 : decode cX10_rates 2 = .ok (.invokevirtual 102, 3) := by decide +kernel
theorem dX10_rates_5 : decode cX10_rates 5 = .ok (.astore 4, 2) := by decide +kernel
theorem dX10_rates_7 : decode cX10_rates 7 = .ok (.iload_n 1, 1) := by decide +kernel
theorem dX10_rates_8 : decode cX10_rates 8 = .ok (.invokestatic 151, 3) := by decide +kernel
theorem dX10_rates_11 : decode cX10_rates 11 = .ok (.ifCond .eq 8, 3) := by decide +kernel
theorem dX10_rates_14 : decode cX10_rates 14 = .ok (.aload 4, 2) := by decide +kernel
theorem dX10_rates_16 : decode cX10_rates 16 = .ok (.ifnonnull 6, 3) := by decide +kernel
theorem dX10_rates_19 : decode cX10_rates 19 = .ok (.ldc 110, 2) := by decide +kernel
theorem dX10_rates_21 : decode cX10_rates 21 = .ok (.ireturn, 1) := by decide +kernel
theorem dX10_rates_22 : decode cX10_rates 22 = .ok (.aload 4, 2) := by decide +kernel
theorem dX10_rates_24 : decode cX10_rates 24 = .ok (.invokevirtual 122, 3) := by decide +kernel
theorem dX10_rates_27 : decode cX10_rates 27 = .ok (.ifCond .eq 9, 3) := by decide +kernel
theorem dX10_rates_30 : decode cX10_rates 30 = .ok (.aload_n 0, 1) := by decide +kernel
theorem dX10_rates_31 : decode cX10_rates 31 = .ok (.iconst 1, 1) := by decide +kernel
theorem dX10_rates_32 : decode cX10_rates 32 = .ok (.invokevirtual 111, 3) := by decide +kernel
theorem dX10_rates_35 : decode cX10_rates 35 = .ok (.ireturn, 1) := by decide +kernel
theorem dX10_rates_36 : decode cX10_rates 36 = .ok (.aload 4, 2) := by decide +kernel
theorem dX10_rates_38 : decode cX10_rates 38 = .ok (.iload_n 3, 1) := by decide +kernel
theorem dX10_rates_39 : decode cX10_rates 39 = .ok (.bipush 8, 2) := by decide +kernel
theorem dX10_rates_41 : decode cX10_rates 41 = .ok (.invokevirtual 126, 3) := by decide +kernel
theorem dX10_rates_44 : decode cX10_rates 44 = .ok (.ifCond .ne 9, 3) := by decide +kernel
theorem dX10_rates_47 : decode cX10_rates 47 = .ok (.aload_n 0, 1) := by decide +kernel
theorem dX10_rates_48 : decode cX10_rates 48 = .ok (.iconst 2, 1) := by decide +kernel
theorem dX10_rates_49 : decode cX10_rates 49 = .ok (.invokevirtual 111, 3) := by decide +kernel
theorem dX10_rates_52 : decode cX10_rates 52 = .ok (.ireturn, 1) := by decide +kernel
theorem dX10_rates_53 : decode cX10_rates 53 = .ok (.iconst 0, 1) := by decide +kernel
theorem dX10_rates_54 : decode cX10_rates 54 = .ok (.istore 5, 2) := by decide +kernel
theorem dX10_rates_56 : decode cX10_rates 56 = .ok (.iload 5, 2) := by decide +kernel
theorem dX10_rates_58 : decode cX10_rates 58 = .ok (.bipush 8, 2) := by decide +kernel
theorem dX10_rates_60 : decode cX10_rates 60 = .ok (.if_icmp .ge 30, 3) := by decide +kernel
theorem dX10_rates_63 : decode cX10_rates 63 = .ok (.aload 4, 2) := by decide +kernel
theorem dX10_rates_65 : decode cX10_rates 65 = .ok (.getfield 136, 3) := by decide +kernel
theorem dX10_rates_68 : decode cX10_rates 68 = .ok (.iload_n 3, 1) := by decide +kernel
theorem dX10_rates_69 : decode cX10_rates 69 = .ok (.iload 5, 2) := by decide +kernel
theorem dX10_rates_71 : decode cX10_rates 71 = .ok (.iadd, 1) := by decide +kernel
theorem dX10_rates_72 : decode cX10_rates 72 = .ok (.iaload, 1) := by decide +kernel
theorem dX10_rates_73 : decode cX10_rates 73 = .ok (.bipush 100, 2) := by decide +kernel
theorem dX10_rates_75 : decode cX10_rates 75 = .ok (.invokestatic 106, 3) := by decide +kernel
theorem dX10_rates_78 : decode cX10_rates 78 = .ok (.ifCond .ne 6, 3) := by decide +kernel
theorem dX10_rates_81 : decode cX10_rates 81 = .ok (.ldc 110, 2) := by decide +kernel
theorem dX10_rates_83 : decode cX10_rates 83 = .ok (.ireturn, 1) := by decide +kernel
theorem dX10_rates_84 : decode cX10_rates 84 = .ok (.iinc 5 1, 3) := by decide +kernel
theorem dX10_rates_87 : decode cX10_rates 87 = .ok (.goto (-31), 3) := by decide +kernel
theorem dX10_rates_90 : decode cX10_rates 90 = .ok (.aload 4, 2) := by decide +kernel
theorem dX10_rates_92 : decode cX10_rates 92 = .ok (.getfield 136, 3) := by decide +kernel
theorem dX10_rates_95 : decode cX10_rates 95 = .ok (.iload_n 3, 1) := by decide +kernel
theorem dX10_rates_96 : decode cX10_rates 96 = .ok (.aload_n 0, 1) := by decide +kernel
theorem dX10_rates_97 : decode cX10_rates 97 = .ok (.getfield 67, 3) := by decide +kernel
theorem dX10_rates_100 : decode cX10_rates 100 = .ok (.iload_n 1, 1) := by decide +kernel
theorem dX10_rates_101 : decode cX10_rates 101 = .ok (.bipush 8, 2) := by decide +kernel
theorem dX10_rates_103 : decode cX10_rates 103 = .ok (.imul, 1) := by decide +kernel
theorem dX10_rates_104 : decode cX10_rates 104 = .ok (.bipush 8, 2) := by decide +kernel
theorem dX10_rates_106 : decode cX10_rates 106 = .ok (.invokestatic 139, 3) := by decide +kernel
theorem dX10_rates_109 : decode cX10_rates 109 = .ok (.aload_n 0, 1) := by decide +kernel
theorem dX10_rates_110 : decode cX10_rates 110 = .ok (.bipush 8, 2) := by decide +kernel
theorem dX10_rates_112 : decode cX10_rates 112 = .ok (.invokevirtual 119, 3) := by decide +kernel
theorem dX10_rates_115 : decode cX10_rates 115 = .ok (.ireturn, 1) := by decide +kernel
theorem dX10_way_0 : decode cX10_way 0 = .ok (.aload_n 0, 1) := by decide +kernel
theorem dX10_way_1 : decode cX10_way 1 = .ok (.iload_n 2, 1) := by decide +kernel
theorem dX10_way_2 : decode cX10_way 2 = .ok (.invokevirtual 102, 3) := by decide +kernel
theorem dX10_way_5 : decode cX10_way 5 = .ok (.astore 7, 2) := by decide +kernel
theorem dX10_way_7 : decode cX10_way 7 = .ok (.iload_n 1, 1) := by decide +kernel
theorem dX10_way_8 : decode cX10_way 8 = .ok (.invokestatic 151, 3) := by decide +kernel
theorem dX10_way_11 : decode cX10_way 11 = .ok (.ifCond .eq 17, 3) := by decide +kernel
theorem dX10_way_14 : decode cX10_way 14 = .ok (.aload 7, 2) := by decide +kernel
theorem dX10_way_16 : decode cX10_way 16 = .ok (.ifnull 12, 3) := by decide +kernel
theorem dX10_way_19 : decode cX10_way 19 = .ok (.iload 6, 2) := by decide +kernel
theorem dX10_way_21 : decode cX10_way 21 = .ok (.iconst 1, 1) := by decide +kernel
theorem dX10_way_22 : decode cX10_way 22 = .ok (.invokestatic 106, 3) := by decide +kernel
theorem dX10_way_25 : decode cX10_way 25 = .ok (.ifCond .ne 6, 3) := by decide +kernel
theorem dX10_way_28 : decode cX10_way 28 = .ok (.ldc 110, 2) := by decide +kernel
theorem dX10_way_30 : decode cX10_way 30 = .ok (.ireturn, 1) := by decide +kernel
theorem dX10_way_31 : decode cX10_way 31 = .ok (.iload 4, 2) := by decide +kernel
theorem dX10_way_33 : decode cX10_way 33 = .ok (.iconst 1, 1) := by decide +kernel
theorem dX10_way_34 : decode cX10_way 34 = .ok (.if_icmp .lt 23, 3) := by decide +kernel
theorem dX10_way_37 : decode cX10_way 37 = .ok (.iload 4, 2) := by decide +kernel
theorem dX10_way_39 : decode cX10_way 39 = .ok (.bipush 8, 2) := by decide +kernel
theorem dX10_way_41 : decode cX10_way 41 = .ok (.if_icmp .gt 16, 3) := by decide +kernel
theorem dX10_way_44 : decode cX10_way 44 = .ok (.iload 5, 2) := by decide +kernel
theorem dX10_way_46 : decode cX10_way 46 = .ok (.iconst 1, 1) := by decide +kernel
theorem dX10_way_47 : decode cX10_way 47 = .ok (.if_icmp .lt 10, 3) := by decide +kernel
theorem dX10_way_50 : decode cX10_way 50 = .ok (.iload 5, 2) := by decide +kernel
theorem dX10_way_52 : decode cX10_way 52 = .ok (.bipush 6, 2) := by decide +kernel
theorem dX10_way_54 : decode cX10_way 54 = .ok (.if_icmp .le 6, 3) := by decide +kernel
theorem dX10_way_57 : decode cX10_way 57 = .ok (.ldc 110, 2) := by decide +kernel
theorem dX10_way_59 : decode cX10_way 59 = .ok (.ireturn, 1) := by decide +kernel
theorem dX10_way_60 : decode cX10_way 60 = .ok (.aload 7, 2) := by decide +kernel
theorem dX10_way_62 : decode cX10_way 62 = .ok (.invokevirtual 122, 3) := by decide +kernel
theorem dX10_way_65 : decode cX10_way 65 = .ok (.ifCond .eq 9, 3) := by decide +kernel
theorem dX10_way_68 : decode cX10_way 68 = .ok (.aload_n 0, 1) := by decide +kernel
theorem dX10_way_69 : decode cX10_way 69 = .ok (.iconst 1, 1) := by decide +kernel
theorem dX10_way_70 : decode cX10_way 70 = .ok (.invokevirtual 111, 3) := by decide +kernel
theorem dX10_way_73 : decode cX10_way 73 = .ok (.ireturn, 1) := by decide +kernel
theorem dX10_way_74 : decode cX10_way 74 = .ok (.aload 7, 2) := by decide +kernel
theorem dX10_way_76 : decode cX10_way 76 = .ok (.iload_n 3, 1) := by decide +kernel
theorem dX10_way_77 : decode cX10_way 77 = .ok (.iload 4, 2) := by decide +kernel
theorem dX10_way_79 : decode cX10_way 79 = .ok (.invokevirtual 126, 3) := by decide +kernel
theorem dX10_way_82 : decode cX10_way 82 = .ok (.ifCond .ne 9, 3) := by decide +kernel
theorem dX10_way_85 : decode cX10_way 85 = .ok (.aload_n 0, 1) := by decide +kernel
theorem dX10_way_86 : decode cX10_way 86 = .ok (.iconst 2, 1) := by decide +kernel
theorem dX10_way_87 : decode cX10_way 87 = .ok (.invokevirtual 111, 3) := by decide +kernel
theorem dX10_way_90 : decode cX10_way 90 = .ok (.ireturn, 1) := by decide +kernel
theorem dX10_way_91 : decode cX10_way 91 = .ok (.aload_n 0, 1) := by decide +kernel
theorem dX10_way_92 : decode cX10_way 92 = .ok (.aload 7, 2) := by decide +kernel
theorem dX10_way_94 : decode cX10_way 94 = .ok (.iload_n 3, 1) := by decide +kernel
theorem dX10_way_95 : decode cX10_way 95 = .ok (.iload 4, 2) := by decide +kernel
theorem dX10_way_97 : decode cX10_way 97 = .ok (.invokevirtual 326, 3) := by decide +kernel
theorem dX10_way_100 : decode cX10_way 100 = .ok (.ifCond .ne 6, 3) := by decide +kernel
theorem dX10_way_103 : decode cX10_way 103 = .ok (.ldc 110, 2) := by decide +kernel
theorem dX10_way_105 : decode cX10_way 105 = .ok (.ireturn, 1) := by decide +kernel
theorem dX10_way_106 : decode cX10_way 106 = .ok (.iconst 0, 1) := by decide +kernel
theorem dX10_way_107 : decode cX10_way 107 = .ok (.istore 8, 2) := by decide +kernel
theorem dX10_way_109 : decode cX10_way 109 = .ok (.iload 8, 2) := by decide +kernel
theorem dX10_way_111 : decode cX10_way 111 = .ok (.iload 4, 2) := by decide +kernel
theorem dX10_way_113 : decode cX10_way 113 = .ok (.if_icmp .ge 29, 3) := by decide +kernel
theorem dX10_way_116 : decode cX10_way 116 = .ok (.aload_n 0, 1) := by decide +kernel
theorem dX10_way_117 : decode cX10_way 117 = .ok (.iload 8, 2) := by decide +kernel
theorem dX10_way_119 : decode cX10_way 119 = .ok (.aload_n 0, 1) := by decide +kernel
theorem dX10_way_120 : decode cX10_way 120 = .ok (.aload 7, 2) := by decide +kernel
theorem dX10_way_122 : decode cX10_way 122 = .ok (.getfield 136, 3) := by decide +kernel
theorem dX10_way_125 : decode cX10_way 125 = .ok (.iload_n 3, 1) := by decide +kernel
theorem dX10_way_126 : decode cX10_way 126 = .ok (.iload 8, 2) := by decide +kernel
theorem dX10_way_128 : decode cX10_way 128 = .ok (.iadd, 1) := by decide +kernel
theorem dX10_way_129 : decode cX10_way 129 = .ok (.iaload, 1) := by decide +kernel
theorem dX10_way_130 : decode cX10_way 130 = .ok (.invokevirtual 246, 3) := by decide +kernel
theorem dX10_way_133 : decode cX10_way 133 = .ok (.invokevirtual 330, 3) := by decide +kernel
theorem dX10_way_136 : decode cX10_way 136 = .ok (.iinc 8 1, 3) := by decide +kernel
theorem dX10_way_139 : decode cX10_way 139 = .ok (.goto (-30), 3) := by decide +kernel
theorem dX10_way_142 : decode cX10_way 142 = .ok (.aload_n 0, 1) := by decide +kernel
theorem dX10_way_143 : decode cX10_way 143 = .ok (.getfield 73, 3) := by decide +kernel
theorem dX10_way_146 : decode cX10_way 146 = .ok (.aload_n 0, 1) := by decide +kernel
theorem dX10_way_147 : decode cX10_way 147 = .ok (.getfield 18, 3) := by decide +kernel
theorem dX10_way_150 : decode cX10_way 150 = .ok (.iload_n 1, 1) := by decide +kernel
theorem dX10_way_151 : decode cX10_way 151 = .ok (.iload 4, 2) := by decide +kernel
theorem dX10_way_153 : decode cX10_way 153 = .ok (.iload 5, 2) := by decide +kernel
theorem dX10_way_155 : decode cX10_way 155 = .ok (.invokevirtual 334, 3) := by decide +kernel
theorem dX10_way_158 : decode cX10_way 158 = .ok (.aload_n 0, 1) := by decide +kernel
theorem dX10_way_159 : decode cX10_way 159 = .ok (.iload 6, 2) := by decide +kernel
theorem dX10_way_161 : decode cX10_way 161 = .ok (.ifCond .ne 13, 3) := by decide +kernel
theorem dX10_way_164 : decode cX10_way 164 = .ok (.aload_n 0, 1) := by decide +kernel
theorem dX10_way_165 : decode cX10_way 165 = .ok (.getfield 73, 3) := by decide +kernel
theorem dX10_way_168 : decode cX10_way 168 = .ok (.getfield 338, 3) := by decide +kernel
theorem dX10_way_171 : decode cX10_way 171 = .ok (.goto 10, 3) := by decide +kernel
theorem dX10_way_174 : decode cX10_way 174 = .ok (.aload_n 0, 1) := by decide +kernel
theorem dX10_way_175 : decode cX10_way 175 = .ok (.getfield 73, 3) := by decide +kernel
theorem dX10_way_178 : decode cX10_way 178 = .ok (.getfield 341, 3) := by decide +kernel
theorem dX10_way_181 : decode cX10_way 181 = .ok (.invokevirtual 119, 3) := by decide +kernel
theorem dX10_way_184 : decode cX10_way 184 = .ok (.ireturn, 1) := by decide +kernel
theorem dX10_kind_0 : decode cX10_kind 0 = .ok (.aload_n 0, 1) := by decide +kernel
theorem dX10_kind_1 : decode cX10_kind 1 = .ok (.iload_n 1, 1) := by decide +kernel
theorem dX10_kind_2 : decode cX10_kind 2 = .ok (.invokevirtual 246, 3) := by decide +kernel
theorem dX10_kind_5 : decode cX10_kind 5 = .ok (.astore_n 2, 1) := by decide +kernel
theorem dX10_kind_6 : decode cX10_kind 6 = .ok (.aload_n 2, 1) := by decide +kernel
theorem dX10_kind_7 : decode cX10_kind 7 = .ok (.ifnonnull 8, 3) := by decide +kernel
theorem dX10_kind_10 : decode cX10_kind 10 = .ok (.ldc 110, 2) := by decide +kernel
theorem dX10_kind_12 : decode cX10_kind 12 = .ok (.goto 8, 3) := by decide +kernel
theorem dX10_kind_15 : decode cX10_kind 15 = .ok (.aload_n 0, 1) := by decide +kernel
theorem dX10_kind_16 : decode cX10_kind 16 = .ok (.aload_n 2, 1) := by decide +kernel
theorem dX10_kind_17 : decode cX10_kind 17 = .ok (.invokevirtual 344, 3) := by decide +kernel
theorem dX10_kind_20 : decode cX10_kind 20 = .ok (.ireturn, 1) := by decide +kernel
theorem dX10_as_0 : decode cX10_as 0 = .ok (.aload_n 0, 1) := by decide +kernel
theorem dX10_as_1 : decode cX10_as 1 = .ok (.iload_n 1, 1) := by decide +kernel
theorem dX10_as_2 : decode cX10_as 2 = .ok (.invokevirtual 246, 3) := by decide +kernel
theorem dX10_as_5 : decode cX10_as 5 = .ok (.astore_n 3, 1) := by decide +kernel
theorem dX10_as_6 : decode cX10_as 6 = .ok (.aload_n 3, 1) := by decide +kernel
theorem dX10_as_7 : decode cX10_as 7 = .ok (.ifnull 11, 3) := by decide +kernel
theorem dX10_as_10 : decode cX10_as 10 = .ok (.iload_n 2, 1) := by decide +kernel
theorem dX10_as_11 : decode cX10_as 11 = .ok (.iconst 5, 1) := by decide +kernel
theorem dX10_as_12 : decode cX10_as 12 = .ok (.invokestatic 106, 3) := by decide +kernel
theorem dX10_as_15 : decode cX10_as 15 = .ok (.ifCond .ne 6, 3) := by decide +kernel
theorem dX10_as_18 : decode cX10_as 18 = .ok (.ldc 110, 2) := by decide +kernel
theorem dX10_as_20 : decode cX10_as 20 = .ok (.ireturn, 1) := by decide +kernel
theorem dX10_as_21 : decode cX10_as 21 = .ok (.aload_n 0, 1) := by decide +kernel
theorem dX10_as_22 : decode cX10_as 22 = .ok (.aload_n 3, 1) := by decide +kernel
theorem dX10_as_23 : decode cX10_as 23 = .ok (.invokevirtual 344, 3) := by decide +kernel
theorem dX10_as_26 : decode cX10_as 26 = .ok (.iload_n 2, 1) := by decide +kernel
theorem dX10_as_27 : decode cX10_as 27 = .ok (.invokestatic 348, 3) := by decide +kernel
theorem dX10_as_30 : decode cX10_as 30 = .ok (.ifCond .ne 9, 3) := by decide +kernel
theorem dX10_as_33 : decode cX10_as 33 = .ok (.aload_n 0, 1) := by decide +kernel
theorem dX10_as_34 : decode cX10_as 34 = .ok (.iconst 3, 1) := by decide +kernel
theorem dX10_as_35 : decode cX10_as 35 = .ok (.invokevirtual 111, 3) := by decide +kernel
theorem dX10_as_38 : decode cX10_as 38 = .ok (.ireturn, 1) := by decide +kernel
theorem dX10_as_39 : decode cX10_as 39 = .ok (.aload_n 0, 1) := by decide +kernel
theorem dX10_as_40 : decode cX10_as 40 = .ok (.aload_n 3, 1) := by decide +kernel
theorem dX10_as_41 : decode cX10_as 41 = .ok (.getfield 253, 3) := by decide +kernel
theorem dX10_as_44 : decode cX10_as 44 = .ok (.invokevirtual 119, 3) := by decide +kernel
theorem dX10_as_47 : decode cX10_as 47 = .ok (.ireturn, 1) := by decide +kernel
theorem dX10_ask_0 : decode cX10_ask 0 = .ok (.aload_n 0, 1) := by decide +kernel
theorem dX10_ask_1 : decode cX10_ask 1 = .ok (.iload_n 1, 1) := by decide +kernel
theorem dX10_ask_2 : decode cX10_ask 2 = .ok (.invokevirtual 246, 3) := by decide +kernel
theorem dX10_ask_5 : decode cX10_ask 5 = .ok (.astore_n 3, 1) := by decide +kernel
theorem dX10_ask_6 : decode cX10_ask 6 = .ok (.aload_n 3, 1) := by decide +kernel
theorem dX10_ask_7 : decode cX10_ask 7 = .ok (.ifnull 11, 3) := by decide +kernel
theorem dX10_ask_10 : decode cX10_ask 10 = .ok (.iload_n 2, 1) := by decide +kernel
theorem dX10_ask_11 : decode cX10_ask 11 = .ok (.iconst 1, 1) := by decide +kernel
theorem dX10_ask_12 : decode cX10_ask 12 = .ok (.invokestatic 106, 3) := by decide +kernel
theorem dX10_ask_15 : decode cX10_ask 15 = .ok (.ifCond .ne 6, 3) := by decide +kernel
theorem dX10_ask_18 : decode cX10_ask 18 = .ok (.ldc 110, 2) := by decide +kernel
theorem dX10_ask_20 : decode cX10_ask 20 = .ok (.ireturn, 1) := by decide +kernel
theorem dX10_ask_21 : decode cX10_ask 21 = .ok (.aload_n 0, 1) := by decide +kernel
theorem dX10_ask_22 : decode cX10_ask 22 = .ok (.aload_n 3, 1) := by decide +kernel
theorem dX10_ask_23 : decode cX10_ask 23 = .ok (.invokevirtual 344, 3) := by decide +kernel
theorem dX10_ask_26 : decode cX10_ask 26 = .ok (.istore 4, 2) := by decide +kernel
theorem dX10_ask_28 : decode cX10_ask 28 = .ok (.aload_n 0, 1) := by decide +kernel
theorem dX10_ask_29 : decode cX10_ask 29 = .ok (.getfield 80, 3) := by decide +kernel
theorem dX10_ask_32 : decode cX10_ask 32 = .ok (.invokevirtual 351, 3) := by decide +kernel
theorem dX10_ask_35 : decode cX10_ask 35 = .ok (.iload_n 2, 1) := by decide +kernel
theorem dX10_ask_36 : decode cX10_ask 36 = .ok (.ifCond .ne 12, 3) := by decide +kernel
theorem dX10_ask_39 : decode cX10_ask 39 = .ok (.getstatic 352, 3) := by decide +kernel
theorem dX10_ask_42 : decode cX10_ask 42 = .ok (.iload 4, 2) := by decide +kernel
theorem dX10_ask_44 : decode cX10_ask 44 = .ok (.iaload, 1) := by decide +kernel
theorem dX10_ask_45 : decode cX10_ask 45 = .ok (.goto 9, 3) := by decide +kernel
theorem dX10_ask_48 : decode cX10_ask 48 = .ok (.getstatic 355, 3) := by decide +kernel
theorem dX10_ask_51 : decode cX10_ask 51 = .ok (.iload 4, 2) := by decide +kernel
theorem dX10_ask_53 : decode cX10_ask 53 = .ok (.iaload, 1) := by decide +kernel
theorem dX10_ask_54 : decode cX10_ask 54 = .ok (.aload_n 3, 1) := by decide +kernel
theorem dX10_ask_55 : decode cX10_ask 55 = .ok (.iload 4, 2) := by decide +kernel
theorem dX10_ask_57 : decode cX10_ask 57 = .ok (.aload_n 0, 1) := by decide +kernel
theorem dX10_ask_58 : decode cX10_ask 58 = .ok (.getfield 80, 3) := by decide +kernel
theorem dX10_ask_61 : decode cX10_ask 61 = .ok (.iconst 0, 1) := by decide +kernel
theorem dX10_ask_62 : decode cX10_ask 62 = .ok (.invokestatic 358, 3) := by decide +kernel
theorem dX10_ask_65 : decode cX10_ask 65 = .ok (.ireturn, 1) := by decide +kernel
theorem dX10_trace_0 : decode cX10_trace 0 = .ok (.aload_n 0, 1) := by decide +kernel
theorem dX10_trace_1 : decode cX10_trace 1 = .ok (.getfield 80, 3) := by decide +kernel
theorem dX10_trace_4 : decode cX10_trace 4 = .ok (.iload_n 1, 1) := by decide +kernel
theorem dX10_trace_5 : decode cX10_trace 5 = .ok (.invokevirtual 362, 3) := by decide +kernel
theorem dX10_trace_8 : decode cX10_trace 8 = .ok (.ireturn, 1) := by decide +kernel
theorem dX10_count_0 : decode cX10_count 0 = .ok (.iload_n 1, 1) := by decide +kernel
theorem dX10_count_1 : decode cX10_count 1 = .ok (.tableswitch 117 0 9 #[55, 60, 65, 73, 81, 86, 92, 98, 104, 112], 55) := by decide +kernel
theorem dX10_count_56 : decode cX10_count 56 = .ok (.aload_n 0, 1) := by decide +kernel
theorem dX10_count_57 : decode cX10_count 57 = .ok (.invokevirtual 364, 3) := by decide +kernel
theorem dX10_count_60 : decode cX10_count 60 = .ok (.ireturn, 1) := by decide +kernel
theorem dX10_count_61 : decode cX10_count 61 = .ok (.aload_n 0, 1) := by decide +kernel
theorem dX10_count_62 : decode cX10_count 62 = .ok (.getfield 84, 3) := by decide +kernel
theorem dX10_count_65 : decode cX10_count 65 = .ok (.ireturn, 1) := by decide +kernel
theorem dX10_count_66 : decode cX10_count 66 = .ok (.aload_n 0, 1) := by decide +kernel
theorem dX10_count_67 : decode cX10_count 67 = .ok (.invokevirtual 195, 3) := by decide +kernel
theorem dX10_count_70 : decode cX10_count 70 = .ok (.invokestatic 367, 3) := by decide +kernel
theorem dX10_count_73 : decode cX10_count 73 = .ok (.ireturn, 1) := by decide +kernel
theorem dX10_count_74 : decode cX10_count 74 = .ok (.aload_n 0, 1) := by decide +kernel
theorem dX10_count_75 : decode cX10_count 75 = .ok (.getfield 31, 3) := by decide +kernel
theorem dX10_count_78 : decode cX10_count 78 = .ok (.getfield 220, 3) := by decide +kernel
theorem dX10_count_81 : decode cX10_count 81 = .ok (.ireturn, 1) := by decide +kernel
theorem dX10_count_82 : decode cX10_count 82 = .ok (.aload_n 0, 1) := by decide +kernel
theorem dX10_count_83 : decode cX10_count 83 = .ok (.getfield 88, 3) := by decide +kernel
theorem dX10_count_86 : decode cX10_count 86 = .ok (.ireturn, 1) := by decide +kernel
theorem dX10_count_87 : decode cX10_count 87 = .ok (.aload_n 0, 1) := by decide +kernel
theorem dX10_count_88 : decode cX10_count 88 = .ok (.iconst 0, 1) := by decide +kernel
theorem dX10_count_89 : decode cX10_count 89 = .ok (.invokevirtual 372, 3) := by decide +kernel
theorem dX10_count_92 : decode cX10_count 92 = .ok (.ireturn, 1) := by decide +kernel
theorem dX10_count_93 : decode cX10_count 93 = .ok (.aload_n 0, 1) := by decide +kernel
theorem dX10_count_94 : decode cX10_count 94 = .ok (.iconst 2, 1) := by decide +kernel
theorem dX10_count_95 : decode cX10_count 95 = .ok (.invokevirtual 372, 3) := by decide +kernel
theorem dX10_count_98 : decode cX10_count 98 = .ok (.ireturn, 1) := by decide +kernel
theorem dX10_count_99 : decode cX10_count 99 = .ok (.aload_n 0, 1) := by decide +kernel
theorem dX10_count_100 : decode cX10_count 100 = .ok (.iconst 3, 1) := by decide +kernel
theorem dX10_count_101 : decode cX10_count 101 = .ok (.invokevirtual 372, 3) := by decide +kernel
theorem dX10_count_104 : decode cX10_count 104 = .ok (.ireturn, 1) := by decide +kernel
theorem dX10_count_105 : decode cX10_count 105 = .ok (.aload_n 0, 1) := by decide +kernel
theorem dX10_count_106 : decode cX10_count 106 = .ok (.getfield 38, 3) := by decide +kernel
theorem dX10_count_109 : decode cX10_count 109 = .ok (.getfield 209, 3) := by decide +kernel
theorem dX10_count_112 : decode cX10_count 112 = .ok (.ireturn, 1) := by decide +kernel
theorem dX10_count_113 : decode cX10_count 113 = .ok (.aload_n 0, 1) := by decide +kernel
theorem dX10_count_114 : decode cX10_count 114 = .ok (.getfield 91, 3) := by decide +kernel
theorem dX10_count_117 : decode cX10_count 117 = .ok (.ireturn, 1) := by decide +kernel
theorem dX10_count_118 : decode cX10_count 118 = .ok (.ldc 110, 2) := by decide +kernel
theorem dX10_count_120 : decode cX10_count 120 = .ok (.ireturn, 1) := by decide +kernel
theorem dX10_status_0 : decode cX10_status 0 = .ok (.aload_n 0, 1) := by decide +kernel
theorem dX10_status_1 : decode cX10_status 1 = .ok (.getfield 97, 3) := by decide +kernel
theorem dX10_status_4 : decode cX10_status 4 = .ok (.ireturn, 1) := by decide +kernel
theorem dX10_isUpTo_0 : decode cX10_isUpTo 0 = .ok (.iload_n 0, 1) := by decide +kernel
theorem dX10_isUpTo_1 : decode cX10_isUpTo 1 = .ok (.ifCond .lt 12, 3) := by decide +kernel
theorem dX10_isUpTo_4 : decode cX10_isUpTo 4 = .ok (.iload_n 0, 1) := by decide +kernel
theorem dX10_isUpTo_5 : decode cX10_isUpTo 5 = .ok (.iload_n 1, 1) := by decide +kernel
theorem dX10_isUpTo_6 : decode cX10_isUpTo 6 = .ok (.if_icmp .gt 7, 3) := by decide +kernel
theorem dX10_isUpTo_9 : decode cX10_isUpTo 9 = .ok (.iconst 1, 1) := by decide +kernel
theorem dX10_isUpTo_10 : decode cX10_isUpTo 10 = .ok (.goto 4, 3) := by decide +kernel
theorem dX10_isUpTo_13 : decode cX10_isUpTo 13 = .ok (.iconst 0, 1) := by decide +kernel
theorem dX10_isUpTo_14 : decode cX10_isUpTo 14 = .ok (.ireturn, 1) := by decide +kernel
theorem dX10_isTown_0 : decode cX10_isTown 0 = .ok (.iload_n 0, 1) := by decide +kernel
theorem dX10_isTown_1 : decode cX10_isTown 1 = .ok (.iconst 5, 1) := by decide +kernel
theorem dX10_isTown_2 : decode cX10_isTown 2 = .ok (.invokestatic 106, 3) := by decide +kernel
theorem dX10_isTown_5 : decode cX10_isTown 5 = .ok (.ireturn, 1) := by decide +kernel
theorem dX10_sheetOf_0 : decode cX10_sheetOf 0 = .ok (.iload_n 1, 1) := by decide +kernel
theorem dX10_sheetOf_1 : decode cX10_sheetOf 1 = .ok (.bipush 7, 2) := by decide +kernel
theorem dX10_sheetOf_3 : decode cX10_sheetOf 3 = .ok (.invokestatic 106, 3) := by decide +kernel
theorem dX10_sheetOf_6 : decode cX10_sheetOf 6 = .ok (.ifCond .eq 12, 3) := by decide +kernel
theorem dX10_sheetOf_9 : decode cX10_sheetOf 9 = .ok (.aload_n 0, 1) := by decide +kernel
theorem dX10_sheetOf_10 : decode cX10_sheetOf 10 = .ok (.getfield 11, 3) := by decide +kernel
theorem dX10_sheetOf_13 : decode cX10_sheetOf 13 = .ok (.iload_n 1, 1) := by decide +kernel
theorem dX10_sheetOf_14 : decode cX10_sheetOf 14 = .ok (.aaload, 1) := by decide +kernel
theorem dX10_sheetOf_15 : decode cX10_sheetOf 15 = .ok (.goto 4, 3) := by decide +kernel
theorem dX10_sheetOf_18 : decode cX10_sheetOf 18 = .ok (.aconst_null, 1) := by decide +kernel
theorem dX10_sheetOf_19 : decode cX10_sheetOf 19 = .ok (.areturn, 1) := by decide +kernel
theorem dX10_bankOf_0 : decode cX10_bankOf 0 = .ok (.iload_n 1, 1) := by decide +kernel
theorem dX10_bankOf_1 : decode cX10_bankOf 1 = .ok (.aload_n 0, 1) := by decide +kernel
theorem dX10_bankOf_2 : decode cX10_bankOf 2 = .ok (.getfield 84, 3) := by decide +kernel
theorem dX10_bankOf_5 : decode cX10_bankOf 5 = .ok (.iconst 1, 1) := by decide +kernel
theorem dX10_bankOf_6 : decode cX10_bankOf 6 = .ok (.isub, 1) := by decide +kernel
theorem dX10_bankOf_7 : decode cX10_bankOf 7 = .ok (.invokestatic 106, 3) := by decide +kernel
theorem dX10_bankOf_10 : decode cX10_bankOf 10 = .ok (.ifCond .eq 18, 3) := by decide +kernel
theorem dX10_bankOf_13 : decode cX10_bankOf 13 = .ok (.iload_n 1, 1) := by decide +kernel
theorem dX10_bankOf_14 : decode cX10_bankOf 14 = .ok (.bipush 8, 2) := by decide +kernel
theorem dX10_bankOf_16 : decode cX10_bankOf 16 = .ok (.if_icmp .ge 12, 3) := by decide +kernel
theorem dX10_bankOf_19 : decode cX10_bankOf 19 = .ok (.aload_n 0, 1) := by decide +kernel
theorem dX10_bankOf_20 : decode cX10_bankOf 20 = .ok (.getfield 24, 3) := by decide +kernel
theorem dX10_bankOf_23 : decode cX10_bankOf 23 = .ok (.iload_n 1, 1) := by decide +kernel
theorem dX10_bankOf_24 : decode cX10_bankOf 24 = .ok (.aaload, 1) := by decide +kernel
theorem dX10_bankOf_25 : decode cX10_bankOf 25 = .ok (.goto 4, 3) := by decide +kernel
theorem dX10_bankOf_28 : decode cX10_bankOf 28 = .ok (.aconst_null, 1) := by decide +kernel
theorem dX10_bankOf_29 : decode cX10_bankOf 29 = .ok (.areturn, 1) := by decide +kernel
theorem dX10_noteOf_0 : decode cX10_noteOf 0 = .ok (.iload_n 1, 1) := by decide +kernel
theorem dX10_noteOf_1 : decode cX10_noteOf 1 = .ok (.aload_n 0, 1) := by decide +kernel
theorem dX10_noteOf_2 : decode cX10_noteOf 2 = .ok (.getfield 88, 3) := by decide +kernel
theorem dX10_noteOf_5 : decode cX10_noteOf 5 = .ok (.iconst 1, 1) := by decide +kernel
theorem dX10_noteOf_6 : decode cX10_noteOf 6 = .ok (.isub, 1) := by decide +kernel
theorem dX10_noteOf_7 : decode cX10_noteOf 7 = .ok (.invokestatic 106, 3) := by decide +kernel
theorem dX10_noteOf_10 : decode cX10_noteOf 10 = .ok (.ifCond .eq 18, 3) := by decide +kernel
theorem dX10_noteOf_13 : decode cX10_noteOf 13 = .ok (.iload_n 1, 1) := by decide +kernel
theorem dX10_noteOf_14 : decode cX10_noteOf 14 = .ok (.bipush 24, 2) := by decide +kernel
theorem dX10_noteOf_16 : decode cX10_noteOf 16 = .ok (.if_icmp .ge 12, 3) := by decide +kernel
theorem dX10_noteOf_19 : decode cX10_noteOf 19 = .ok (.aload_n 0, 1) := by decide +kernel
theorem dX10_noteOf_20 : decode cX10_noteOf 20 = .ok (.getfield 53, 3) := by decide +kernel
theorem dX10_noteOf_23 : decode cX10_noteOf 23 = .ok (.iload_n 1, 1) := by decide +kernel
theorem dX10_noteOf_24 : decode cX10_noteOf 24 = .ok (.aaload, 1) := by decide +kernel
theorem dX10_noteOf_25 : decode cX10_noteOf 25 = .ok (.goto 4, 3) := by decide +kernel
theorem dX10_noteOf_28 : decode cX10_noteOf 28 = .ok (.aconst_null, 1) := by decide +kernel
theorem dX10_noteOf_29 : decode cX10_noteOf 29 = .ok (.areturn, 1) := by decide +kernel
theorem dX10_traderOf_0 : decode cX10_traderOf 0 = .ok (.iload_n 1, 1) := by decide +kernel
theorem dX10_traderOf_1 : decode cX10_traderOf 1 = .ok (.bipush 7, 2) := by decide +kernel
theorem dX10_traderOf_3 : decode cX10_traderOf 3 = .ok (.invokestatic 106, 3) := by decide +kernel
theorem dX10_traderOf_6 : decode cX10_traderOf 6 = .ok (.ifCond .eq 12, 3) := by decide +kernel
theorem dX10_traderOf_9 : decode cX10_traderOf 9 = .ok (.aload_n 0, 1) := by decide +kernel
theorem dX10_traderOf_10 : decode cX10_traderOf 10 = .ok (.getfield 59, 3) := by decide +kernel
theorem dX10_traderOf_13 : decode cX10_traderOf 13 = .ok (.iload_n 1, 1) := by decide +kernel
theorem dX10_traderOf_14 : decode cX10_traderOf 14 = .ok (.aaload, 1) := by decide +kernel
theorem dX10_traderOf_15 : decode cX10_traderOf 15 = .ok (.goto 4, 3) := by decide +kernel
theorem dX10_traderOf_18 : decode cX10_traderOf 18 = .ok (.aconst_null, 1) := by decide +kernel
theorem dX10_traderOf_19 : decode cX10_traderOf 19 = .ok (.areturn, 1) := by decide +kernel
theorem dX10_found_0 : decode cX10_found 0 = .ok (.aload_n 0, 1) := by decide +kernel
theorem dX10_found_1 : decode cX10_found 1 = .ok (.iload_n 1, 1) := by decide +kernel
theorem dX10_found_2 : decode cX10_found 2 = .ok (.putfield 97, 3) := by decide +kernel
theorem dX10_found_5 : decode cX10_found 5 = .ok (.ldc_w 375, 3) := by decide +kernel
theorem dX10_found_8 : decode cX10_found 8 = .ok (.iload_n 1, 1) := by decide +kernel
theorem dX10_found_9 : decode cX10_found 9 = .ok (.isub, 1) := by decide +kernel
theorem dX10_found_10 : decode cX10_found 10 = .ok (.ireturn, 1) := by decide +kernel
theorem dX10_foundNothing_0 : decode cX10_foundNothing 0 = .ok (.aload_n 0, 1) := by decide +kernel
theorem dX10_foundNothing_1 : decode cX10_foundNothing 1 = .ok (.iconst 0, 1) := by decide +kernel
theorem dX10_foundNothing_2 : decode cX10_foundNothing 2 = .ok (.putfield 97, 3) := by decide +kernel
theorem dX10_foundNothing_5 : decode cX10_foundNothing 5 = .ok (.iload_n 1, 1) := by decide +kernel
theorem dX10_foundNothing_6 : decode cX10_foundNothing 6 = .ok (.ireturn, 1) := by decide +kernel
theorem dX10_sheetsThere_0 : decode cX10_sheetsThere 0 = .ok (.iconst 0, 1) := by decide +kernel
theorem dX10_sheetsThere_1 : decode cX10_sheetsThere 1 = .ok (.istore_n 1, 1) := by decide +kernel
theorem dX10_sheetsThere_2 : decode cX10_sheetsThere 2 = .ok (.iconst 0, 1) := by decide +kernel
theorem dX10_sheetsThere_3 : decode cX10_sheetsThere 3 = .ok (.istore_n 2, 1) := by decide +kernel
theorem dX10_sheetsThere_4 : decode cX10_sheetsThere 4 = .ok (.iload_n 2, 1) := by decide +kernel
theorem dX10_sheetsThere_5 : decode cX10_sheetsThere 5 = .ok (.bipush 8, 2) := by decide +kernel
theorem dX10_sheetsThere_7 : decode cX10_sheetsThere 7 = .ok (.if_icmp .ge 29, 3) := by decide +kernel
theorem dX10_sheetsThere_10 : decode cX10_sheetsThere 10 = .ok (.aload_n 0, 1) := by decide +kernel
theorem dX10_sheetsThere_11 : decode cX10_sheetsThere 11 = .ok (.iload_n 2, 1) := by decide +kernel
theorem dX10_sheetsThere_12 : decode cX10_sheetsThere 12 = .ok (.invokevirtual 102, 3) := by decide +kernel
theorem dX10_sheetsThere_15 : decode cX10_sheetsThere 15 = .ok (.astore_n 3, 1) := by decide +kernel
theorem dX10_sheetsThere_16 : decode cX10_sheetsThere 16 = .ok (.aload_n 3, 1) := by decide +kernel
theorem dX10_sheetsThere_17 : decode cX10_sheetsThere 17 = .ok (.ifnull 13, 3) := by decide +kernel
theorem dX10_sheetsThere_20 : decode cX10_sheetsThere 20 = .ok (.aload_n 3, 1) := by decide +kernel
theorem dX10_sheetsThere_21 : decode cX10_sheetsThere 21 = .ok (.invokevirtual 122, 3) := by decide +kernel
theorem dX10_sheetsThere_24 : decode cX10_sheetsThere 24 = .ok (.ifCond .ne 6, 3) := by decide +kernel
theorem dX10_sheetsThere_27 : decode cX10_sheetsThere 27 = .ok (.iinc 1 1, 3) := by decide +kernel
theorem dX10_sheetsThere_30 : decode cX10_sheetsThere 30 = .ok (.iinc 2 1, 3) := by decide +kernel
theorem dX10_sheetsThere_33 : decode cX10_sheetsThere 33 = .ok (.goto (-29), 3) := by decide +kernel
theorem dX10_sheetsThere_36 : decode cX10_sheetsThere 36 = .ok (.iload_n 1, 1) := by decide +kernel
theorem dX10_sheetsThere_37 : decode cX10_sheetsThere 37 = .ok (.ireturn, 1) := by decide +kernel
theorem dX10_notesThatAre_0 : decode cX10_notesThatAre 0 = .ok (.iconst 0, 1) := by decide +kernel
theorem dX10_notesThatAre_1 : decode cX10_notesThatAre 1 = .ok (.istore_n 2, 1) := by decide +kernel
theorem dX10_notesThatAre_2 : decode cX10_notesThatAre 2 = .ok (.iconst 0, 1) := by decide +kernel
theorem dX10_notesThatAre_3 : decode cX10_notesThatAre 3 = .ok (.istore_n 3, 1) := by decide +kernel
theorem dX10_notesThatAre_4 : decode cX10_notesThatAre 4 = .ok (.iload_n 3, 1) := by decide +kernel
theorem dX10_notesThatAre_5 : decode cX10_notesThatAre 5 = .ok (.aload_n 0, 1) := by decide +kernel
theorem dX10_notesThatAre_6 : decode cX10_notesThatAre 6 = .ok (.getfield 88, 3) := by decide +kernel
theorem dX10_notesThatAre_9 : decode cX10_notesThatAre 9 = .ok (.if_icmp .ge 33, 3) := by decide +kernel
theorem dX10_notesThatAre_12 : decode cX10_notesThatAre 12 = .ok (.aload_n 0, 1) := by decide +kernel
theorem dX10_notesThatAre_13 : decode cX10_notesThatAre 13 = .ok (.iload_n 3, 1) := by decide +kernel
theorem dX10_notesThatAre_14 : decode cX10_notesThatAre 14 = .ok (.invokevirtual 246, 3) := by decide +kernel
theorem dX10_notesThatAre_17 : decode cX10_notesThatAre 17 = .ok (.astore 4, 2) := by decide +kernel
theorem dX10_notesThatAre_19 : decode cX10_notesThatAre 19 = .ok (.aload 4, 2) := by decide +kernel
theorem dX10_notesThatAre_21 : decode cX10_notesThatAre 21 = .ok (.ifnull 15, 3) := by decide +kernel
theorem dX10_notesThatAre_24 : decode cX10_notesThatAre 24 = .ok (.aload 4, 2) := by decide +kernel
theorem dX10_notesThatAre_26 : decode cX10_notesThatAre 26 = .ok (.getfield 265, 3) := by decide +kernel
theorem dX10_notesThatAre_29 : decode cX10_notesThatAre 29 = .ok (.iload_n 1, 1) := by decide +kernel
theorem dX10_notesThatAre_30 : decode cX10_notesThatAre 30 = .ok (.if_icmp .ne 6, 3) := by decide +kernel
theorem dX10_notesThatAre_33 : decode cX10_notesThatAre 33 = .ok (.iinc 2 1, 3) := by decide +kernel
theorem dX10_notesThatAre_36 : decode cX10_notesThatAre 36 = .ok (.iinc 3 1, 3) := by decide +kernel
theorem dX10_notesThatAre_39 : decode cX10_notesThatAre 39 = .ok (.goto (-35), 3) := by decide +kernel
theorem dX10_notesThatAre_42 : decode cX10_notesThatAre 42 = .ok (.iload_n 2, 1) := by decide +kernel
theorem dX10_notesThatAre_43 : decode cX10_notesThatAre 43 = .ok (.ireturn, 1) := by decide +kernel
theorem dX10_shutBanks_0 : decode cX10_shutBanks 0 = .ok (.iconst 0, 1) := by decide +kernel
theorem dX10_shutBanks_1 : decode cX10_shutBanks 1 = .ok (.istore_n 1, 1) := by decide +kernel
theorem dX10_shutBanks_2 : decode cX10_shutBanks 2 = .ok (.iconst 0, 1) := by decide +kernel
theorem dX10_shutBanks_3 : decode cX10_shutBanks 3 = .ok (.istore_n 2, 1) := by decide +kernel
theorem dX10_shutBanks_4 : decode cX10_shutBanks 4 = .ok (.iload_n 2, 1) := by decide +kernel
theorem dX10_shutBanks_5 : decode cX10_shutBanks 5 = .ok (.aload_n 0, 1) := by decide +kernel
theorem dX10_shutBanks_6 : decode cX10_shutBanks 6 = .ok (.getfield 84, 3) := by decide +kernel
theorem dX10_shutBanks_9 : decode cX10_shutBanks 9 = .ok (.if_icmp .ge 32, 3) := by decide +kernel
theorem dX10_shutBanks_12 : decode cX10_shutBanks 12 = .ok (.aload_n 0, 1) := by decide +kernel
theorem dX10_shutBanks_13 : decode cX10_shutBanks 13 = .ok (.iload_n 2, 1) := by decide +kernel
theorem dX10_shutBanks_14 : decode cX10_shutBanks 14 = .ok (.invokevirtual 169, 3) := by decide +kernel
theorem dX10_shutBanks_17 : decode cX10_shutBanks 17 = .ok (.astore_n 3, 1) := by decide +kernel
theorem dX10_shutBanks_18 : decode cX10_shutBanks 18 = .ok (.aload_n 3, 1) := by decide +kernel
theorem dX10_shutBanks_19 : decode cX10_shutBanks 19 = .ok (.ifnull 16, 3) := by decide +kernel
theorem dX10_shutBanks_22 : decode cX10_shutBanks 22 = .ok (.aload_n 3, 1) := by decide +kernel
theorem dX10_shutBanks_23 : decode cX10_shutBanks 23 = .ok (.getfield 182, 3) := by decide +kernel
theorem dX10_shutBanks_26 : decode cX10_shutBanks 26 = .ok (.ifCond .eq 9, 3) := by decide +kernel
theorem dX10_shutBanks_29 : decode cX10_shutBanks 29 = .ok (.iload_n 1, 1) := by decide +kernel
theorem dX10_shutBanks_30 : decode cX10_shutBanks 30 = .ok (.iconst 1, 1) := by decide +kernel
theorem dX10_shutBanks_31 : decode cX10_shutBanks 31 = .ok (.iload_n 2, 1) := by decide +kernel
theorem dX10_shutBanks_32 : decode cX10_shutBanks 32 = .ok (.ishl, 1) := by decide +kernel
theorem dX10_shutBanks_33 : decode cX10_shutBanks 33 = .ok (.ior, 1) := by decide +kernel
theorem dX10_shutBanks_34 : decode cX10_shutBanks 34 = .ok (.istore_n 1, 1) := by decide +kernel
theorem dX10_shutBanks_35 : decode cX10_shutBanks 35 = .ok (.iinc 2 1, 3) := by decide +kernel
theorem dX10_shutBanks_38 : decode cX10_shutBanks 38 = .ok (.goto (-34), 3) := by decide +kernel
theorem dX10_shutBanks_41 : decode cX10_shutBanks 41 = .ok (.iload_n 1, 1) := by decide +kernel
theorem dX10_shutBanks_42 : decode cX10_shutBanks 42 = .ok (.ireturn, 1) := by decide +kernel
theorem dX10_banksInNeed_0 : decode cX10_banksInNeed 0 = .ok (.iconst 0, 1) := by decide +kernel
theorem dX10_banksInNeed_1 : decode cX10_banksInNeed 1 = .ok (.istore_n 2, 1) := by decide +kernel
theorem dX10_banksInNeed_2 : decode cX10_banksInNeed 2 = .ok (.iconst 0, 1) := by decide +kernel
theorem dX10_banksInNeed_3 : decode cX10_banksInNeed 3 = .ok (.istore_n 3, 1) := by decide +kernel
theorem dX10_banksInNeed_4 : decode cX10_banksInNeed 4 = .ok (.iload_n 3, 1) := by decide +kernel
theorem dX10_banksInNeed_5 : decode cX10_banksInNeed 5 = .ok (.aload_n 0, 1) := by decide +kernel
theorem dX10_banksInNeed_6 : decode cX10_banksInNeed 6 = .ok (.getfield 84, 3) := by decide +kernel
theorem dX10_banksInNeed_9 : decode cX10_banksInNeed 9 = .ok (.if_icmp .ge 36, 3) := by decide +kernel
theorem dX10_banksInNeed_12 : decode cX10_banksInNeed 12 = .ok (.aload_n 0, 1) := by decide +kernel
theorem dX10_banksInNeed_13 : decode cX10_banksInNeed 13 = .ok (.iload_n 3, 1) := by decide +kernel
theorem dX10_banksInNeed_14 : decode cX10_banksInNeed 14 = .ok (.invokevirtual 169, 3) := by decide +kernel
theorem dX10_banksInNeed_17 : decode cX10_banksInNeed 17 = .ok (.astore 4, 2) := by decide +kernel
theorem dX10_banksInNeed_19 : decode cX10_banksInNeed 19 = .ok (.aload 4, 2) := by decide +kernel
theorem dX10_banksInNeed_21 : decode cX10_banksInNeed 21 = .ok (.ifnull 18, 3) := by decide +kernel
theorem dX10_banksInNeed_24 : decode cX10_banksInNeed 24 = .ok (.aload 4, 2) := by decide +kernel
theorem dX10_banksInNeed_26 : decode cX10_banksInNeed 26 = .ok (.iload_n 1, 1) := by decide +kernel
theorem dX10_banksInNeed_27 : decode cX10_banksInNeed 27 = .ok (.invokevirtual 376, 3) := by decide +kernel
theorem dX10_banksInNeed_30 : decode cX10_banksInNeed 30 = .ok (.ifCond .eq 9, 3) := by decide +kernel
theorem dX10_banksInNeed_33 : decode cX10_banksInNeed 33 = .ok (.iload_n 2, 1) := by decide +kernel
theorem dX10_banksInNeed_34 : decode cX10_banksInNeed 34 = .ok (.iconst 1, 1) := by decide +kernel
theorem dX10_banksInNeed_35 : decode cX10_banksInNeed 35 = .ok (.iload_n 3, 1) := by decide +kernel
theorem dX10_banksInNeed_36 : decode cX10_banksInNeed 36 = .ok (.ishl, 1) := by decide +kernel
theorem dX10_banksInNeed_37 : decode cX10_banksInNeed 37 = .ok (.ior, 1) := by decide +kernel
theorem dX10_banksInNeed_38 : decode cX10_banksInNeed 38 = .ok (.istore_n 2, 1) := by decide +kernel
theorem dX10_banksInNeed_39 : decode cX10_banksInNeed 39 = .ok (.iinc 3 1, 3) := by decide +kernel
theorem dX10_banksInNeed_42 : decode cX10_banksInNeed 42 = .ok (.goto (-38), 3) := by decide +kernel
theorem dX10_banksInNeed_45 : decode cX10_banksInNeed 45 = .ok (.iload_n 2, 1) := by decide +kernel
theorem dX10_banksInNeed_46 : decode cX10_banksInNeed 46 = .ok (.ireturn, 1) := by decide +kernel
theorem dX10_newestBook_0 : decode cX10_newestBook 0 = .ok (.aload_n 0, 1) := by decide +kernel
theorem dX10_newestBook_1 : decode cX10_newestBook 1 = .ok (.getfield 18, 3) := by decide +kernel
theorem dX10_newestBook_4 : decode cX10_newestBook 4 = .ok (.iconst 0, 1) := by decide +kernel
theorem dX10_newestBook_5 : decode cX10_newestBook 5 = .ok (.iload_n 1, 1) := by decide +kernel
theorem dX10_newestBook_6 : decode cX10_newestBook 6 = .ok (.invokevirtual 162, 3) := by decide +kernel
theorem dX10_newestBook_9 : decode cX10_newestBook 9 = .ok (.istore_n 3, 1) := by decide +kernel
theorem dX10_newestBook_10 : decode cX10_newestBook 10 = .ok (.iload_n 3, 1) := by decide +kernel
theorem dX10_newestBook_11 : decode cX10_newestBook 11 = .ok (.ldc_w 316, 3) := by decide +kernel
theorem dX10_newestBook_14 : decode cX10_newestBook 14 = .ok (.if_icmp .ne 7, 3) := by decide +kernel
theorem dX10_newestBook_17 : decode cX10_newestBook 17 = .ok (.iconst (-1), 1) := by decide +kernel
theorem dX10_newestBook_18 : decode cX10_newestBook 18 = .ok (.goto 9, 3) := by decide +kernel
theorem dX10_newestBook_21 : decode cX10_newestBook 21 = .ok (.iload_n 2, 1) := by decide +kernel
theorem dX10_newestBook_22 : decode cX10_newestBook 22 = .ok (.iload_n 3, 1) := by decide +kernel
theorem dX10_newestBook_23 : decode cX10_newestBook 23 = .ok (.bipush 100, 2) := by decide +kernel
theorem dX10_newestBook_25 : decode cX10_newestBook 25 = .ok (.idiv, 1) := by decide +kernel
theorem dX10_newestBook_26 : decode cX10_newestBook 26 = .ok (.isub, 1) := by decide +kernel
theorem dX10_newestBook_27 : decode cX10_newestBook 27 = .ok (.ireturn, 1) := by decide +kernel
theorem dX10_inTheHundred_0 : decode cX10_inTheHundred 0 = .ok (.aload_n 0, 1) := by decide +kernel
theorem dX10_inTheHundred_1 : decode cX10_inTheHundred 1 = .ok (.aload_n 1, 1) := by decide +kernel
theorem dX10_inTheHundred_2 : decode cX10_inTheHundred 2 = .ok (.getfield 250, 3) := by decide +kernel
theorem dX10_inTheHundred_5 : decode cX10_inTheHundred 5 = .ok (.invokevirtual 169, 3) := by decide +kernel
theorem dX10_inTheHundred_8 : decode cX10_inTheHundred 8 = .ok (.astore 4, 2) := by decide +kernel
theorem dX10_inTheHundred_10 : decode cX10_inTheHundred 10 = .ok (.aload 4, 2) := by decide +kernel
theorem dX10_inTheHundred_12 : decode cX10_inTheHundred 12 = .ok (.ifnull 15, 3) := by decide +kernel
theorem dX10_inTheHundred_15 : decode cX10_inTheHundred 15 = .ok (.aload_n 1, 1) := by decide +kernel
theorem dX10_inTheHundred_16 : decode cX10_inTheHundred 16 = .ok (.aload 4, 2) := by decide +kernel
theorem dX10_inTheHundred_18 : decode cX10_inTheHundred 18 = .ok (.getfield 179, 3) := by decide +kernel
theorem dX10_inTheHundred_21 : decode cX10_inTheHundred 21 = .ok (.invokevirtual 268, 3) := by decide +kernel
theorem dX10_inTheHundred_24 : decode cX10_inTheHundred 24 = .ok (.ifCond .eq 5, 3) := by decide +kernel
theorem dX10_inTheHundred_27 : decode cX10_inTheHundred 27 = .ok (.iconst 0, 1) := by decide +kernel
theorem dX10_inTheHundred_28 : decode cX10_inTheHundred 28 = .ok (.ireturn, 1) := by decide +kernel
theorem dX10_inTheHundred_29 : decode cX10_inTheHundred 29 = .ok (.aload_n 0, 1) := by decide +kernel
theorem dX10_inTheHundred_30 : decode cX10_inTheHundred 30 = .ok (.iload_n 2, 1) := by decide +kernel
theorem dX10_inTheHundred_31 : decode cX10_inTheHundred 31 = .ok (.iload_n 3, 1) := by decide +kernel
theorem dX10_inTheHundred_32 : decode cX10_inTheHundred 32 = .ok (.invokevirtual 223, 3) := by decide +kernel
theorem dX10_inTheHundred_35 : decode cX10_inTheHundred 35 = .ok (.istore 5, 2) := by decide +kernel
theorem dX10_inTheHundred_37 : decode cX10_inTheHundred 37 = .ok (.aload_n 0, 1) := by decide +kernel
theorem dX10_inTheHundred_38 : decode cX10_inTheHundred 38 = .ok (.getfield 31, 3) := by decide +kernel
theorem dX10_inTheHundred_41 : decode cX10_inTheHundred 41 = .ok (.iconst 2, 1) := by decide +kernel
theorem dX10_inTheHundred_42 : decode cX10_inTheHundred 42 = .ok (.aload_n 1, 1) := by decide +kernel
theorem dX10_inTheHundred_43 : decode cX10_inTheHundred 43 = .ok (.getfield 250, 3) := by decide +kernel
theorem dX10_inTheHundred_46 : decode cX10_inTheHundred 46 = .ok (.iload 5, 2) := by decide +kernel
theorem dX10_inTheHundred_48 : decode cX10_inTheHundred 48 = .ok (.invokevirtual 229, 3) := by decide +kernel
theorem dX10_inTheHundred_51 : decode cX10_inTheHundred 51 = .ok (.istore 6, 2) := by decide +kernel
theorem dX10_inTheHundred_53 : decode cX10_inTheHundred 53 = .ok (.iload 6, 2) := by decide +kernel
theorem dX10_inTheHundred_55 : decode cX10_inTheHundred 55 = .ok (.ldc_w 316, 3) := by decide +kernel
theorem dX10_inTheHundred_58 : decode cX10_inTheHundred 58 = .ok (.if_icmp .eq 6, 3) := by decide +kernel
theorem dX10_inTheHundred_61 : decode cX10_inTheHundred 61 = .ok (.iload 6, 2) := by decide +kernel
theorem dX10_inTheHundred_63 : decode cX10_inTheHundred 63 = .ok (.ireturn, 1) := by decide +kernel
theorem dX10_inTheHundred_64 : decode cX10_inTheHundred 64 = .ok (.aload_n 0, 1) := by decide +kernel
theorem dX10_inTheHundred_65 : decode cX10_inTheHundred 65 = .ok (.getfield 18, 3) := by decide +kernel
theorem dX10_inTheHundred_68 : decode cX10_inTheHundred 68 = .ok (.iload_n 2, 1) := by decide +kernel
theorem dX10_inTheHundred_69 : decode cX10_inTheHundred 69 = .ok (.aload 4, 2) := by decide +kernel
theorem dX10_inTheHundred_71 : decode cX10_inTheHundred 71 = .ok (.getfield 173, 3) := by decide +kernel
theorem dX10_inTheHundred_74 : decode cX10_inTheHundred 74 = .ok (.invokevirtual 162, 3) := by decide +kernel
theorem dX10_inTheHundred_77 : decode cX10_inTheHundred 77 = .ok (.istore 7, 2) := by decide +kernel
theorem dX10_inTheHundred_79 : decode cX10_inTheHundred 79 = .ok (.iload 7, 2) := by decide +kernel
theorem dX10_inTheHundred_81 : decode cX10_inTheHundred 81 = .ok (.ldc_w 316, 3) := by decide +kernel
theorem dX10_inTheHundred_84 : decode cX10_inTheHundred 84 = .ok (.if_icmp .ne 5, 3) := by decide +kernel
theorem dX10_inTheHundred_87 : decode cX10_inTheHundred 87 = .ok (.iconst 0, 1) := by decide +kernel
theorem dX10_inTheHundred_88 : decode cX10_inTheHundred 88 = .ok (.ireturn, 1) := by decide +kernel
theorem dX10_inTheHundred_89 : decode cX10_inTheHundred 89 = .ok (.iconst 0, 1) := by decide +kernel
theorem dX10_inTheHundred_90 : decode cX10_inTheHundred 90 = .ok (.bipush 100, 2) := by decide +kernel
theorem dX10_inTheHundred_92 : decode cX10_inTheHundred 92 = .ok (.aload_n 0, 1) := by decide +kernel
theorem dX10_inTheHundred_93 : decode cX10_inTheHundred 93 = .ok (.getfield 31, 3) := by decide +kernel
theorem dX10_inTheHundred_96 : decode cX10_inTheHundred 96 = .ok (.aload_n 1, 1) := by decide +kernel
theorem dX10_inTheHundred_97 : decode cX10_inTheHundred 97 = .ok (.getfield 250, 3) := by decide +kernel
theorem dX10_inTheHundred_100 : decode cX10_inTheHundred 100 = .ok (.iload 5, 2) := by decide +kernel
theorem dX10_inTheHundred_102 : decode cX10_inTheHundred 102 = .ok (.invokevirtual 226, 3) := by decide +kernel
theorem dX10_inTheHundred_105 : decode cX10_inTheHundred 105 = .ok (.isub, 1) := by decide +kernel
theorem dX10_inTheHundred_106 : decode cX10_inTheHundred 106 = .ok (.iload 7, 2) := by decide +kernel
theorem dX10_inTheHundred_108 : decode cX10_inTheHundred 108 = .ok (.bipush 20, 2) := by decide +kernel
theorem dX10_inTheHundred_110 : decode cX10_inTheHundred 110 = .ok (.idiv, 1) := by decide +kernel
theorem dX10_inTheHundred_111 : decode cX10_inTheHundred 111 = .ok (.isub, 1) := by decide +kernel
theorem dX10_inTheHundred_112 : decode cX10_inTheHundred 112 = .ok (.invokestatic 379, 3) := by decide +kernel
theorem dX10_inTheHundred_115 : decode cX10_inTheHundred 115 = .ok (.ireturn, 1) := by decide +kernel
theorem dX10_offerNotes_0 : decode cX10_offerNotes 0 = .ok (.iconst 0, 1) := by decide +kernel
theorem dX10_offerNotes_1 : decode cX10_offerNotes 1 = .ok (.istore 4, 2) := by decide +kernel
theorem dX10_offerNotes_3 : decode cX10_offerNotes 3 = .ok (.iload 4, 2) := by decide +kernel
theorem dX10_offerNotes_5 : decode cX10_offerNotes 5 = .ok (.aload_n 0, 1) := by decide +kernel
theorem dX10_offerNotes_6 : decode cX10_offerNotes 6 = .ok (.getfield 88, 3) := by decide +kernel
theorem dX10_offerNotes_9 : decode cX10_offerNotes 9 = .ok (.if_icmp .ge 93, 3) := by decide +kernel
theorem dX10_offerNotes_12 : decode cX10_offerNotes 12 = .ok (.iload 4, 2) := by decide +kernel
theorem dX10_offerNotes_14 : decode cX10_offerNotes 14 = .ok (.bipush 24, 2) := by decide +kernel
theorem dX10_offerNotes_16 : decode cX10_offerNotes 16 = .ok (.if_icmp .ge 86, 3) := by decide +kernel
theorem dX10_offerNotes_19 : decode cX10_offerNotes 19 = .ok (.aload_n 0, 1) := by decide +kernel
theorem dX10_offerNotes_20 : decode cX10_offerNotes 20 = .ok (.iload 4, 2) := by decide +kernel
theorem dX10_offerNotes_22 : decode cX10_offerNotes 22 = .ok (.invokevirtual 246, 3) := by decide +kernel
theorem dX10_offerNotes_25 : decode cX10_offerNotes 25 = .ok (.astore 5, 2) := by decide +kernel
theorem dX10_offerNotes_27 : decode cX10_offerNotes 27 = .ok (.aload_n 0, 1) := by decide +kernel
theorem dX10_offerNotes_28 : decode cX10_offerNotes 28 = .ok (.getfield 63, 3) := by decide +kernel
theorem dX10_offerNotes_31 : decode cX10_offerNotes 31 = .ok (.iload 4, 2) := by decide +kernel
theorem dX10_offerNotes_33 : decode cX10_offerNotes 33 = .ok (.iconst (-1), 1) := by decide +kernel
theorem dX10_offerNotes_34 : decode cX10_offerNotes 34 = .ok (.iastore, 1) := by decide +kernel
theorem dX10_offerNotes_35 : decode cX10_offerNotes 35 = .ok (.aload 5, 2) := by decide +kernel
theorem dX10_offerNotes_37 : decode cX10_offerNotes 37 = .ok (.ifnull 59, 3) := by decide +kernel
theorem dX10_offerNotes_40 : decode cX10_offerNotes 40 = .ok (.aload 5, 2) := by decide +kernel
theorem dX10_offerNotes_42 : decode cX10_offerNotes 42 = .ok (.invokevirtual 262, 3) := by decide +kernel
theorem dX10_offerNotes_45 : decode cX10_offerNotes 45 = .ok (.iload_n 1, 1) := by decide +kernel
theorem dX10_offerNotes_46 : decode cX10_offerNotes 46 = .ok (.if_icmp .ne 50, 3) := by decide +kernel
theorem dX10_offerNotes_49 : decode cX10_offerNotes 49 = .ok (.aload 5, 2) := by decide +kernel
theorem dX10_offerNotes_51 : decode cX10_offerNotes 51 = .ok (.invokevirtual 384, 3) := by decide +kernel
theorem dX10_offerNotes_54 : decode cX10_offerNotes 54 = .ok (.ifCond .ne 42, 3) := by decide +kernel
theorem dX10_offerNotes_57 : decode cX10_offerNotes 57 = .ok (.aload_n 0, 1) := by decide +kernel
theorem dX10_offerNotes_58 : decode cX10_offerNotes 58 = .ok (.aload 5, 2) := by decide +kernel
theorem dX10_offerNotes_60 : decode cX10_offerNotes 60 = .ok (.aload_n 3, 1) := by decide +kernel
theorem dX10_offerNotes_61 : decode cX10_offerNotes 61 = .ok (.getfield 288, 3) := by decide +kernel
theorem dX10_offerNotes_64 : decode cX10_offerNotes 64 = .ok (.aload_n 0, 1) := by decide +kernel
theorem dX10_offerNotes_65 : decode cX10_offerNotes 65 = .ok (.getfield 91, 3) := by decide +kernel
theorem dX10_offerNotes_68 : decode cX10_offerNotes 68 = .ok (.invokevirtual 275, 3) := by decide +kernel
theorem dX10_offerNotes_71 : decode cX10_offerNotes 71 = .ok (.aload_n 3, 1) := by decide +kernel
theorem dX10_offerNotes_72 : decode cX10_offerNotes 72 = .ok (.getfield 289, 3) := by decide +kernel
theorem dX10_offerNotes_75 : decode cX10_offerNotes 75 = .ok (.if_icmp .lt 21, 3) := by decide +kernel
theorem dX10_offerNotes_78 : decode cX10_offerNotes 78 = .ok (.aload_n 0, 1) := by decide +kernel
theorem dX10_offerNotes_79 : decode cX10_offerNotes 79 = .ok (.getfield 63, 3) := by decide +kernel
theorem dX10_offerNotes_82 : decode cX10_offerNotes 82 = .ok (.iload 4, 2) := by decide +kernel
theorem dX10_offerNotes_84 : decode cX10_offerNotes 84 = .ok (.aload_n 0, 1) := by decide +kernel
theorem dX10_offerNotes_85 : decode cX10_offerNotes 85 = .ok (.aload 5, 2) := by decide +kernel
theorem dX10_offerNotes_87 : decode cX10_offerNotes 87 = .ok (.iload_n 2, 1) := by decide +kernel
theorem dX10_offerNotes_88 : decode cX10_offerNotes 88 = .ok (.aload_n 0, 1) := by decide +kernel
theorem dX10_offerNotes_89 : decode cX10_offerNotes 89 = .ok (.getfield 91, 3) := by decide +kernel
theorem dX10_offerNotes_92 : decode cX10_offerNotes 92 = .ok (.invokevirtual 275, 3) := by decide +kernel
theorem dX10_offerNotes_95 : decode cX10_offerNotes 95 = .ok (.iastore, 1) := by decide +kernel
theorem dX10_offerNotes_96 : decode cX10_offerNotes 96 = .ok (.iinc 4 1, 3) := by decide +kernel
theorem dX10_offerNotes_99 : decode cX10_offerNotes 99 = .ok (.goto (-96), 3) := by decide +kernel
theorem dX10_offerNotes_102 : decode cX10_offerNotes 102 = .ok (.return_, 1) := by decide +kernel
theorem dX10_worstOffer_0 : decode cX10_worstOffer 0 = .ok (.ldc_w 316, 3) := by decide +kernel
theorem dX10_worstOffer_3 : decode cX10_worstOffer 3 = .ok (.istore_n 1, 1) := by decide +kernel
theorem dX10_worstOffer_4 : decode cX10_worstOffer 4 = .ok (.bipush 101, 2) := by decide +kernel
theorem dX10_worstOffer_6 : decode cX10_worstOffer 6 = .ok (.istore_n 2, 1) := by decide +kernel
theorem dX10_worstOffer_7 : decode cX10_worstOffer 7 = .ok (.iconst 0, 1) := by decide +kernel
theorem dX10_worstOffer_8 : decode cX10_worstOffer 8 = .ok (.istore_n 3, 1) := by decide +kernel
theorem dX10_worstOffer_9 : decode cX10_worstOffer 9 = .ok (.iload_n 3, 1) := by decide +kernel
theorem dX10_worstOffer_10 : decode cX10_worstOffer 10 = .ok (.aload_n 0, 1) := by decide +kernel
theorem dX10_worstOffer_11 : decode cX10_worstOffer 11 = .ok (.getfield 88, 3) := by decide +kernel
theorem dX10_worstOffer_14 : decode cX10_worstOffer 14 = .ok (.if_icmp .ge 44, 3) := by decide +kernel
theorem dX10_worstOffer_17 : decode cX10_worstOffer 17 = .ok (.iload_n 3, 1) := by decide +kernel
theorem dX10_worstOffer_18 : decode cX10_worstOffer 18 = .ok (.bipush 24, 2) := by decide +kernel
theorem dX10_worstOffer_20 : decode cX10_worstOffer 20 = .ok (.if_icmp .ge 38, 3) := by decide +kernel
theorem dX10_worstOffer_23 : decode cX10_worstOffer 23 = .ok (.aload_n 0, 1) := by decide +kernel
theorem dX10_worstOffer_24 : decode cX10_worstOffer 24 = .ok (.getfield 63, 3) := by decide +kernel
theorem dX10_worstOffer_27 : decode cX10_worstOffer 27 = .ok (.iload_n 3, 1) := by decide +kernel
theorem dX10_worstOffer_28 : decode cX10_worstOffer 28 = .ok (.iaload, 1) := by decide +kernel
theorem dX10_worstOffer_29 : decode cX10_worstOffer 29 = .ok (.iconst (-1), 1) := by decide +kernel
theorem dX10_worstOffer_30 : decode cX10_worstOffer 30 = .ok (.if_icmp .eq 22, 3) := by decide +kernel
theorem dX10_worstOffer_33 : decode cX10_worstOffer 33 = .ok (.aload_n 0, 1) := by decide +kernel
theorem dX10_worstOffer_34 : decode cX10_worstOffer 34 = .ok (.getfield 63, 3) := by decide +kernel
theorem dX10_worstOffer_37 : decode cX10_worstOffer 37 = .ok (.iload_n 3, 1) := by decide +kernel
theorem dX10_worstOffer_38 : decode cX10_worstOffer 38 = .ok (.iaload, 1) := by decide +kernel
theorem dX10_worstOffer_39 : decode cX10_worstOffer 39 = .ok (.iload_n 2, 1) := by decide +kernel
theorem dX10_worstOffer_40 : decode cX10_worstOffer 40 = .ok (.if_icmp .ge 12, 3) := by decide +kernel
theorem dX10_worstOffer_43 : decode cX10_worstOffer 43 = .ok (.aload_n 0, 1) := by decide +kernel
theorem dX10_worstOffer_44 : decode cX10_worstOffer 44 = .ok (.getfield 63, 3) := by decide +kernel
theorem dX10_worstOffer_47 : decode cX10_worstOffer 47 = .ok (.iload_n 3, 1) := by decide +kernel
theorem dX10_worstOffer_48 : decode cX10_worstOffer 48 = .ok (.iaload, 1) := by decide +kernel
theorem dX10_worstOffer_49 : decode cX10_worstOffer 49 = .ok (.istore_n 2, 1) := by decide +kernel
theorem dX10_worstOffer_50 : decode cX10_worstOffer 50 = .ok (.iload_n 3, 1) := by decide +kernel
theorem dX10_worstOffer_51 : decode cX10_worstOffer 51 = .ok (.istore_n 1, 1) := by decide +kernel
theorem dX10_worstOffer_52 : decode cX10_worstOffer 52 = .ok (.iinc 3 1, 3) := by decide +kernel
theorem dX10_worstOffer_55 : decode cX10_worstOffer 55 = .ok (.goto (-46), 3) := by decide +kernel
theorem dX10_worstOffer_58 : decode cX10_worstOffer 58 = .ok (.iload_n 1, 1) := by decide +kernel
theorem dX10_worstOffer_59 : decode cX10_worstOffer 59 = .ok (.ireturn, 1) := by decide +kernel
theorem dX10_areDifferentNotes_0 : decode cX10_areDifferentNotes 0 = .ok (.iconst 0, 1) := by decide +kernel
theorem dX10_areDifferentNotes_1 : decode cX10_areDifferentNotes 1 = .ok (.istore 4, 2) := by decide +kernel
theorem dX10_areDifferentNotes_3 : decode cX10_areDifferentNotes 3 = .ok (.iconst 0, 1) := by decide +kernel
theorem dX10_areDifferentNotes_4 : decode cX10_areDifferentNotes 4 = .ok (.istore 5, 2) := by decide +kernel
theorem dX10_areDifferentNotes_6 : decode cX10_areDifferentNotes 6 = .ok (.iload 5, 2) := by decide +kernel
theorem dX10_areDifferentNotes_8 : decode cX10_areDifferentNotes 8 = .ok (.iload_n 3, 1) := by decide +kernel
theorem dX10_areDifferentNotes_9 : decode cX10_areDifferentNotes 9 = .ok (.if_icmp .ge 50, 3) := by decide +kernel
theorem dX10_areDifferentNotes_12 : decode cX10_areDifferentNotes 12 = .ok (.aload_n 1, 1) := by decide +kernel
theorem dX10_areDifferentNotes_13 : decode cX10_areDifferentNotes 13 = .ok (.getfield 136, 3) := by decide +kernel
theorem dX10_areDifferentNotes_16 : decode cX10_areDifferentNotes 16 = .ok (.iload_n 2, 1) := by decide +kernel
theorem dX10_areDifferentNotes_17 : decode cX10_areDifferentNotes 17 = .ok (.iload 5, 2) := by decide +kernel
theorem dX10_areDifferentNotes_19 : decode cX10_areDifferentNotes 19 = .ok (.iadd, 1) := by decide +kernel
theorem dX10_areDifferentNotes_20 : decode cX10_areDifferentNotes 20 = .ok (.iaload, 1) := by decide +kernel
theorem dX10_areDifferentNotes_21 : decode cX10_areDifferentNotes 21 = .ok (.istore 6, 2) := by decide +kernel
theorem dX10_areDifferentNotes_23 : decode cX10_areDifferentNotes 23 = .ok (.aload_n 0, 1) := by decide +kernel
theorem dX10_areDifferentNotes_24 : decode cX10_areDifferentNotes 24 = .ok (.iload 6, 2) := by decide +kernel
theorem dX10_areDifferentNotes_26 : decode cX10_areDifferentNotes 26 = .ok (.invokevirtual 246, 3) := by decide +kernel
theorem dX10_areDifferentNotes_29 : decode cX10_areDifferentNotes 29 = .ok (.ifnull 13, 3) := by decide +kernel
theorem dX10_areDifferentNotes_32 : decode cX10_areDifferentNotes 32 = .ok (.iload 4, 2) := by decide +kernel
theorem dX10_areDifferentNotes_34 : decode cX10_areDifferentNotes 34 = .ok (.iload 6, 2) := by decide +kernel
theorem dX10_areDifferentNotes_36 : decode cX10_areDifferentNotes 36 = .ok (.ishr, 1) := by decide +kernel
theorem dX10_areDifferentNotes_37 : decode cX10_areDifferentNotes 37 = .ok (.iconst 1, 1) := by decide +kernel
theorem dX10_areDifferentNotes_38 : decode cX10_areDifferentNotes 38 = .ok (.iand, 1) := by decide +kernel
theorem dX10_areDifferentNotes_39 : decode cX10_areDifferentNotes 39 = .ok (.ifCond .eq 5, 3) := by decide +kernel
theorem dX10_areDifferentNotes_42 : decode cX10_areDifferentNotes 42 = .ok (.iconst 0, 1) := by decide +kernel
theorem dX10_areDifferentNotes_43 : decode cX10_areDifferentNotes 43 = .ok (.ireturn, 1) := by decide +kernel
theorem dX10_areDifferentNotes_44 : decode cX10_areDifferentNotes 44 = .ok (.iload 4, 2) := by decide +kernel
theorem dX10_areDifferentNotes_46 : decode cX10_areDifferentNotes 46 = .ok (.iconst 1, 1) := by decide +kernel
theorem dX10_areDifferentNotes_47 : decode cX10_areDifferentNotes 47 = .ok (.iload 6, 2) := by decide +kernel
theorem dX10_areDifferentNotes_49 : decode cX10_areDifferentNotes 49 = .ok (.ishl, 1) := by decide +kernel
theorem dX10_areDifferentNotes_50 : decode cX10_areDifferentNotes 50 = .ok (.ior, 1) := by decide +kernel
theorem dX10_areDifferentNotes_51 : decode cX10_areDifferentNotes 51 = .ok (.istore 4, 2) := by decide +kernel
theorem dX10_areDifferentNotes_53 : decode cX10_areDifferentNotes 53 = .ok (.iinc 5 1, 3) := by decide +kernel
theorem dX10_areDifferentNotes_56 : decode cX10_areDifferentNotes 56 = .ok (.goto (-50), 3) := by decide +kernel
theorem dX10_areDifferentNotes_59 : decode cX10_areDifferentNotes 59 = .ok (.iconst 1, 1) := by decide +kernel
theorem dX10_areDifferentNotes_60 : decode cX10_areDifferentNotes 60 = .ok (.ireturn, 1) := by decide +kernel
theorem dX10_tellDrover_0 : decode cX10_tellDrover 0 = .ok (.iconst 0, 1) := by decide +kernel
theorem dX10_tellDrover_1 : decode cX10_tellDrover 1 = .ok (.istore_n 3, 1) := by decide +kernel
theorem dX10_tellDrover_2 : decode cX10_tellDrover 2 = .ok (.iload_n 3, 1) := by decide +kernel
theorem dX10_tellDrover_3 : decode cX10_tellDrover 3 = .ok (.bipush 6, 2) := by decide +kernel
theorem dX10_tellDrover_5 : decode cX10_tellDrover 5 = .ok (.if_icmp .ge 44, 3) := by decide +kernel
theorem dX10_tellDrover_8 : decode cX10_tellDrover 8 = .ok (.aload_n 2, 1) := by decide +kernel
theorem dX10_tellDrover_9 : decode cX10_tellDrover 9 = .ok (.ifnull 40, 3) := by decide +kernel
theorem dX10_tellDrover_12 : decode cX10_tellDrover 12 = .ok (.aload_n 0, 1) := by decide +kernel
theorem dX10_tellDrover_13 : decode cX10_tellDrover 13 = .ok (.getfield 73, 3) := by decide +kernel
theorem dX10_tellDrover_16 : decode cX10_tellDrover 16 = .ok (.iload_n 3, 1) := by decide +kernel
theorem dX10_tellDrover_17 : decode cX10_tellDrover 17 = .ok (.iload_n 1, 1) := by decide +kernel
theorem dX10_tellDrover_18 : decode cX10_tellDrover 18 = .ok (.aload_n 2, 1) := by decide +kernel
theorem dX10_tellDrover_19 : decode cX10_tellDrover 19 = .ok (.getfield 253, 3) := by decide +kernel
theorem dX10_tellDrover_22 : decode cX10_tellDrover 22 = .ok (.aload_n 0, 1) := by decide +kernel
theorem dX10_tellDrover_23 : decode cX10_tellDrover 23 = .ok (.getfield 67, 3) := by decide +kernel
theorem dX10_tellDrover_26 : decode cX10_tellDrover 26 = .ok (.iload_n 3, 1) := by decide +kernel
theorem dX10_tellDrover_27 : decode cX10_tellDrover 27 = .ok (.bipush 8, 2) := by decide +kernel
theorem dX10_tellDrover_29 : decode cX10_tellDrover 29 = .ok (.imul, 1) := by decide +kernel
theorem dX10_tellDrover_30 : decode cX10_tellDrover 30 = .ok (.aload_n 2, 1) := by decide +kernel
theorem dX10_tellDrover_31 : decode cX10_tellDrover 31 = .ok (.getfield 250, 3) := by decide +kernel
theorem dX10_tellDrover_34 : decode cX10_tellDrover 34 = .ok (.iadd, 1) := by decide +kernel
theorem dX10_tellDrover_35 : decode cX10_tellDrover 35 = .ok (.iaload, 1) := by decide +kernel
theorem dX10_tellDrover_36 : decode cX10_tellDrover 36 = .ok (.imul, 1) := by decide +kernel
theorem dX10_tellDrover_37 : decode cX10_tellDrover 37 = .ok (.bipush 100, 2) := by decide +kernel
theorem dX10_tellDrover_39 : decode cX10_tellDrover 39 = .ok (.idiv, 1) := by decide +kernel
theorem dX10_tellDrover_40 : decode cX10_tellDrover 40 = .ok (.invokevirtual 387, 3) := by decide +kernel
theorem dX10_tellDrover_43 : decode cX10_tellDrover 43 = .ok (.iinc 3 1, 3) := by decide +kernel
theorem dX10_tellDrover_46 : decode cX10_tellDrover 46 = .ok (.goto (-44), 3) := by decide +kernel
theorem dX10_tellDrover_49 : decode cX10_tellDrover 49 = .ok (.return_, 1) := by decide +kernel
theorem dX10_kindOf_0 : decode cX10_kindOf 0 = .ok (.aload_n 1, 1) := by decide +kernel
theorem dX10_kindOf_1 : decode cX10_kindOf 1 = .ok (.getfield 265, 3) := by decide +kernel
theorem dX10_kindOf_4 : decode cX10_kindOf 4 = .ok (.iconst 2, 1) := by decide +kernel
theorem dX10_kindOf_5 : decode cX10_kindOf 5 = .ok (.if_icmp .ne 5, 3) := by decide +kernel
theorem dX10_kindOf_8 : decode cX10_kindOf 8 = .ok (.iconst 5, 1) := by decide +kernel
theorem dX10_kindOf_9 : decode cX10_kindOf 9 = .ok (.ireturn, 1) := by decide +kernel
theorem dX10_kindOf_10 : decode cX10_kindOf 10 = .ok (.aload_n 1, 1) := by decide +kernel
theorem dX10_kindOf_11 : decode cX10_kindOf 11 = .ok (.getfield 265, 3) := by decide +kernel
theorem dX10_kindOf_14 : decode cX10_kindOf 14 = .ok (.iconst 3, 1) := by decide +kernel
theorem dX10_kindOf_15 : decode cX10_kindOf 15 = .ok (.if_icmp .ne 5, 3) := by decide +kernel
theorem dX10_kindOf_18 : decode cX10_kindOf 18 = .ok (.iconst 4, 1) := by decide +kernel
theorem dX10_kindOf_19 : decode cX10_kindOf 19 = .ok (.ireturn, 1) := by decide +kernel
theorem dX10_kindOf_20 : decode cX10_kindOf 20 = .ok (.aload_n 0, 1) := by decide +kernel
theorem dX10_kindOf_21 : decode cX10_kindOf 21 = .ok (.aload_n 1, 1) := by decide +kernel
theorem dX10_kindOf_22 : decode cX10_kindOf 22 = .ok (.getfield 250, 3) := by decide +kernel
theorem dX10_kindOf_25 : decode cX10_kindOf 25 = .ok (.invokevirtual 169, 3) := by decide +kernel
theorem dX10_kindOf_28 : decode cX10_kindOf 28 = .ok (.astore_n 2, 1) := by decide +kernel
theorem dX10_kindOf_29 : decode cX10_kindOf 29 = .ok (.aload_n 2, 1) := by decide +kernel
theorem dX10_kindOf_30 : decode cX10_kindOf 30 = .ok (.ifnonnull 5, 3) := by decide +kernel
theorem dX10_kindOf_33 : decode cX10_kindOf 33 = .ok (.iconst 3, 1) := by decide +kernel
theorem dX10_kindOf_34 : decode cX10_kindOf 34 = .ok (.ireturn, 1) := by decide +kernel
theorem dX10_kindOf_35 : decode cX10_kindOf 35 = .ok (.aload_n 1, 1) := by decide +kernel
theorem dX10_kindOf_36 : decode cX10_kindOf 36 = .ok (.aload_n 2, 1) := by decide +kernel
theorem dX10_kindOf_37 : decode cX10_kindOf 37 = .ok (.getfield 179, 3) := by decide +kernel
theorem dX10_kindOf_40 : decode cX10_kindOf 40 = .ok (.invokevirtual 268, 3) := by decide +kernel
theorem dX10_kindOf_43 : decode cX10_kindOf 43 = .ok (.ifCond .eq 5, 3) := by decide +kernel
theorem dX10_kindOf_46 : decode cX10_kindOf 46 = .ok (.iconst 2, 1) := by decide +kernel
theorem dX10_kindOf_47 : decode cX10_kindOf 47 = .ok (.ireturn, 1) := by decide +kernel
theorem dX10_kindOf_48 : decode cX10_kindOf 48 = .ok (.aload_n 1, 1) := by decide +kernel
theorem dX10_kindOf_49 : decode cX10_kindOf 49 = .ok (.getfield 259, 3) := by decide +kernel
theorem dX10_kindOf_52 : decode cX10_kindOf 52 = .ok (.ifCond .eq 7, 3) := by decide +kernel
theorem dX10_kindOf_55 : decode cX10_kindOf 55 = .ok (.iconst 1, 1) := by decide +kernel
theorem dX10_kindOf_56 : decode cX10_kindOf 56 = .ok (.goto 4, 3) := by decide +kernel
theorem dX10_kindOf_59 : decode cX10_kindOf 59 = .ok (.iconst 0, 1) := by decide +kernel
theorem dX10_kindOf_60 : decode cX10_kindOf 60 = .ok (.ireturn, 1) := by decide +kernel
theorem dX10_isOfKind_0 : decode cX10_isOfKind 0 = .ok (.iload_n 1, 1) := by decide +kernel
theorem dX10_isOfKind_1 : decode cX10_isOfKind 1 = .ok (.ifCond .eq 18, 3) := by decide +kernel
theorem dX10_isOfKind_4 : decode cX10_isOfKind 4 = .ok (.iload_n 1, 1) := by decide +kernel
theorem dX10_isOfKind_5 : decode cX10_isOfKind 5 = .ok (.iload_n 0, 1) := by decide +kernel
theorem dX10_isOfKind_6 : decode cX10_isOfKind 6 = .ok (.if_icmp .eq 13, 3) := by decide +kernel
theorem dX10_isOfKind_9 : decode cX10_isOfKind 9 = .ok (.iload_n 1, 1) := by decide +kernel
theorem dX10_isOfKind_10 : decode cX10_isOfKind 10 = .ok (.iconst 2, 1) := by decide +kernel
theorem dX10_isOfKind_11 : decode cX10_isOfKind 11 = .ok (.if_icmp .ne 12, 3) := by decide +kernel
theorem dX10_isOfKind_14 : decode cX10_isOfKind 14 = .ok (.iload_n 0, 1) := by decide +kernel
theorem dX10_isOfKind_15 : decode cX10_isOfKind 15 = .ok (.iconst 3, 1) := by decide +kernel
theorem dX10_isOfKind_16 : decode cX10_isOfKind 16 = .ok (.if_icmp .ne 7, 3) := by decide +kernel
theorem dX10_isOfKind_19 : decode cX10_isOfKind 19 = .ok (.iconst 1, 1) := by decide +kernel
theorem dX10_isOfKind_20 : decode cX10_isOfKind 20 = .ok (.goto 4, 3) := by decide +kernel
theorem dX10_isOfKind_23 : decode cX10_isOfKind 23 = .ok (.iconst 0, 1) := by decide +kernel
theorem dX10_isOfKind_24 : decode cX10_isOfKind 24 = .ok (.ireturn, 1) := by decide +kernel
theorem dX10_giveBody_0 : decode cX10_giveBody 0 = .ok (.iload 4, 2) := by decide +kernel
theorem dX10_giveBody_2 : decode cX10_giveBody 2 = .ok (.bipush 16, 2) := by decide +kernel
theorem dX10_giveBody_4 : decode cX10_giveBody 4 = .ok (.if_icmp .lt 5, 3) := by decide +kernel
theorem dX10_giveBody_7 : decode cX10_giveBody 7 = .ok (.iconst 0, 1) := by decide +kernel
theorem dX10_giveBody_8 : decode cX10_giveBody 8 = .ok (.ireturn, 1) := by decide +kernel
theorem dX10_giveBody_9 : decode cX10_giveBody 9 = .ok (.aload_n 3, 1) := by decide +kernel
theorem dX10_giveBody_10 : decode cX10_giveBody 10 = .ok (.iload_n 0, 1) := by decide +kernel
theorem dX10_giveBody_11 : decode cX10_giveBody 11 = .ok (.invokevirtual 390, 3) := by decide +kernel
theorem dX10_giveBody_14 : decode cX10_giveBody 14 = .ok (.iload 4, 2) := by decide +kernel
theorem dX10_giveBody_16 : decode cX10_giveBody 16 = .ok (.iconst 1, 1) := by decide +kernel
theorem dX10_giveBody_17 : decode cX10_giveBody 17 = .ok (.iadd, 1) := by decide +kernel
theorem dX10_giveBody_18 : decode cX10_giveBody 18 = .ok (.istore 5, 2) := by decide +kernel
theorem dX10_giveBody_20 : decode cX10_giveBody 20 = .ok (.iload_n 0, 1) := by decide +kernel
theorem dX10_giveBody_21 : decode cX10_giveBody 21 = .ok (.tableswitch 197 10 23 #[71, 76, 95, 111, 124, 197, 197, 197, 197, 197, 137, 142, 156, 172], 71) := by decide +kernel
theorem dX10_giveBody_92 : decode cX10_giveBody 92 = .ok (.aload_n 1, 1) := by decide +kernel
theorem dX10_giveBody_93 : decode cX10_giveBody 93 = .ok (.getfield 253, 3) := by decide +kernel
theorem dX10_giveBody_96 : decode cX10_giveBody 96 = .ok (.ireturn, 1) := by decide +kernel
theorem dX10_giveBody_97 : decode cX10_giveBody 97 = .ok (.bipush 10, 2) := by decide +kernel
theorem dX10_giveBody_99 : decode cX10_giveBody 99 = .ok (.aload_n 1, 1) := by decide +kernel
theorem dX10_giveBody_100 : decode cX10_giveBody 100 = .ok (.iload_n 2, 1) := by decide +kernel
theorem dX10_giveBody_101 : decode cX10_giveBody 101 = .ok (.aload_n 3, 1) := by decide +kernel
theorem dX10_giveBody_102 : decode cX10_giveBody 102 = .ok (.iload 5, 2) := by decide +kernel
theorem dX10_giveBody_104 : decode cX10_giveBody 104 = .ok (.invokestatic 358, 3) := by decide +kernel
theorem dX10_giveBody_107 : decode cX10_giveBody 107 = .ok (.aload_n 1, 1) := by decide +kernel
theorem dX10_giveBody_108 : decode cX10_giveBody 108 = .ok (.getfield 259, 3) := by decide +kernel
theorem dX10_giveBody_111 : decode cX10_giveBody 111 = .ok (.invokestatic 367, 3) := by decide +kernel
theorem dX10_giveBody_114 : decode cX10_giveBody 114 = .ok (.isub, 1) := by decide +kernel
theorem dX10_giveBody_115 : decode cX10_giveBody 115 = .ok (.ireturn, 1) := by decide +kernel
theorem dX10_giveBody_116 : decode cX10_giveBody 116 = .ok (.iconst 0, 1) := by decide +kernel
theorem dX10_giveBody_117 : decode cX10_giveBody 117 = .ok (.getstatic 355, 3) := by decide +kernel
theorem dX10_giveBody_120 : decode cX10_giveBody 120 = .ok (.iload_n 2, 1) := by decide +kernel
theorem dX10_giveBody_121 : decode cX10_giveBody 121 = .ok (.iaload, 1) := by decide +kernel
theorem dX10_giveBody_122 : decode cX10_giveBody 122 = .ok (.aload_n 1, 1) := by decide +kernel
theorem dX10_giveBody_123 : decode cX10_giveBody 123 = .ok (.iload_n 2, 1) := by decide +kernel
theorem dX10_giveBody_124 : decode cX10_giveBody 124 = .ok (.aload_n 3, 1) := by decide +kernel
theorem dX10_giveBody_125 : decode cX10_giveBody 125 = .ok (.iload 5, 2) := by decide +kernel
theorem dX10_giveBody_127 : decode cX10_giveBody 127 = .ok (.invokestatic 358, 3) := by decide +kernel
theorem dX10_giveBody_130 : decode cX10_giveBody 130 = .ok (.isub, 1) := by decide +kernel
theorem dX10_giveBody_131 : decode cX10_giveBody 131 = .ok (.ireturn, 1) := by decide +kernel
theorem dX10_giveBody_132 : decode cX10_giveBody 132 = .ok (.iconst 2, 1) := by decide +kernel
theorem dX10_giveBody_133 : decode cX10_giveBody 133 = .ok (.bipush 12, 2) := by decide +kernel
theorem dX10_giveBody_135 : decode cX10_giveBody 135 = .ok (.aload_n 1, 1) := by decide +kernel
theorem dX10_giveBody_136 : decode cX10_giveBody 136 = .ok (.iload_n 2, 1) := by decide +kernel
theorem dX10_giveBody_137 : decode cX10_giveBody 137 = .ok (.aload_n 3, 1) := by decide +kernel
theorem dX10_giveBody_138 : decode cX10_giveBody 138 = .ok (.iload 5, 2) := by decide +kernel
theorem dX10_giveBody_140 : decode cX10_giveBody 140 = .ok (.invokestatic 358, 3) := by decide +kernel
theorem dX10_giveBody_143 : decode cX10_giveBody 143 = .ok (.imul, 1) := by decide +kernel
theorem dX10_giveBody_144 : decode cX10_giveBody 144 = .ok (.ireturn, 1) := by decide +kernel
theorem dX10_giveBody_145 : decode cX10_giveBody 145 = .ok (.bipush 10, 2) := by decide +kernel
theorem dX10_giveBody_147 : decode cX10_giveBody 147 = .ok (.aload_n 1, 1) := by decide +kernel
theorem dX10_giveBody_148 : decode cX10_giveBody 148 = .ok (.iload_n 2, 1) := by decide +kernel
theorem dX10_giveBody_149 : decode cX10_giveBody 149 = .ok (.aload_n 3, 1) := by decide +kernel
theorem dX10_giveBody_150 : decode cX10_giveBody 150 = .ok (.iload 5, 2) := by decide +kernel
theorem dX10_giveBody_152 : decode cX10_giveBody 152 = .ok (.invokestatic 358, 3) := by decide +kernel
theorem dX10_giveBody_155 : decode cX10_giveBody 155 = .ok (.iconst 2, 1) := by decide +kernel
theorem dX10_giveBody_156 : decode cX10_giveBody 156 = .ok (.idiv, 1) := by decide +kernel
theorem dX10_giveBody_157 : decode cX10_giveBody 157 = .ok (.ireturn, 1) := by decide +kernel
theorem dX10_giveBody_158 : decode cX10_giveBody 158 = .ok (.aload_n 1, 1) := by decide +kernel
theorem dX10_giveBody_159 : decode cX10_giveBody 159 = .ok (.getfield 299, 3) := by decide +kernel
theorem dX10_giveBody_162 : decode cX10_giveBody 162 = .ok (.ireturn, 1) := by decide +kernel
theorem dX10_giveBody_163 : decode cX10_giveBody 163 = .ok (.bipush 20, 2) := by decide +kernel
theorem dX10_giveBody_165 : decode cX10_giveBody 165 = .ok (.aload_n 1, 1) := by decide +kernel
theorem dX10_giveBody_166 : decode cX10_giveBody 166 = .ok (.iload_n 2, 1) := by decide +kernel
theorem dX10_giveBody_167 : decode cX10_giveBody 167 = .ok (.aload_n 3, 1) := by decide +kernel
theorem dX10_giveBody_168 : decode cX10_giveBody 168 = .ok (.iload 5, 2) := by decide +kernel
theorem dX10_giveBody_170 : decode cX10_giveBody 170 = .ok (.invokestatic 358, 3) := by decide +kernel
theorem dX10_giveBody_173 : decode cX10_giveBody 173 = .ok (.bipush 100, 2) := by decide +kernel
theorem dX10_giveBody_175 : decode cX10_giveBody 175 = .ok (.iadd, 1) := by decide +kernel
theorem dX10_giveBody_176 : decode cX10_giveBody 176 = .ok (.ireturn, 1) := by decide +kernel
theorem dX10_giveBody_177 : decode cX10_giveBody 177 = .ok (.bipush 21, 2) := by decide +kernel
theorem dX10_giveBody_179 : decode cX10_giveBody 179 = .ok (.aload_n 1, 1) := by decide +kernel
theorem dX10_giveBody_180 : decode cX10_giveBody 180 = .ok (.iload_n 2, 1) := by decide +kernel
theorem dX10_giveBody_181 : decode cX10_giveBody 181 = .ok (.aload_n 3, 1) := by decide +kernel
theorem dX10_giveBody_182 : decode cX10_giveBody 182 = .ok (.iload 5, 2) := by decide +kernel
theorem dX10_giveBody_184 : decode cX10_giveBody 184 = .ok (.invokestatic 358, 3) := by decide +kernel
theorem dX10_giveBody_187 : decode cX10_giveBody 187 = .ok (.aload_n 1, 1) := by decide +kernel
theorem dX10_giveBody_188 : decode cX10_giveBody 188 = .ok (.getfield 250, 3) := by decide +kernel
theorem dX10_giveBody_191 : decode cX10_giveBody 191 = .ok (.iadd, 1) := by decide +kernel
theorem dX10_giveBody_192 : decode cX10_giveBody 192 = .ok (.ireturn, 1) := by decide +kernel
theorem dX10_giveBody_193 : decode cX10_giveBody 193 = .ok (.bipush 20, 2) := by decide +kernel
theorem dX10_giveBody_195 : decode cX10_giveBody 195 = .ok (.aload_n 1, 1) := by decide +kernel
theorem dX10_giveBody_196 : decode cX10_giveBody 196 = .ok (.iload_n 2, 1) := by decide +kernel
theorem dX10_giveBody_197 : decode cX10_giveBody 197 = .ok (.aload_n 3, 1) := by decide +kernel
theorem dX10_giveBody_198 : decode cX10_giveBody 198 = .ok (.iload 5, 2) := by decide +kernel
theorem dX10_giveBody_200 : decode cX10_giveBody 200 = .ok (.invokestatic 358, 3) := by decide +kernel
theorem dX10_giveBody_203 : decode cX10_giveBody 203 = .ok (.getstatic 352, 3) := by decide +kernel
theorem dX10_giveBody_206 : decode cX10_giveBody 206 = .ok (.iload_n 2, 1) := by decide +kernel
theorem dX10_giveBody_207 : decode cX10_giveBody 207 = .ok (.iaload, 1) := by decide +kernel
theorem dX10_giveBody_208 : decode cX10_giveBody 208 = .ok (.aload_n 1, 1) := by decide +kernel
theorem dX10_giveBody_209 : decode cX10_giveBody 209 = .ok (.iload_n 2, 1) := by decide +kernel
theorem dX10_giveBody_210 : decode cX10_giveBody 210 = .ok (.aload_n 3, 1) := by decide +kernel
theorem dX10_giveBody_211 : decode cX10_giveBody 211 = .ok (.iload 5, 2) := by decide +kernel
theorem dX10_giveBody_213 : decode cX10_giveBody 213 = .ok (.invokestatic 358, 3) := by decide +kernel
theorem dX10_giveBody_216 : decode cX10_giveBody 216 = .ok (.iadd, 1) := by decide +kernel
theorem dX10_giveBody_217 : decode cX10_giveBody 217 = .ok (.ireturn, 1) := by decide +kernel
theorem dX10_giveBody_218 : decode cX10_giveBody 218 = .ok (.iconst 0, 1) := by decide +kernel
theorem dX10_giveBody_219 : decode cX10_giveBody 219 = .ok (.ireturn, 1) := by decide +kernel
theorem dX11_init_0 : decode cX11_init 0 = .ok (.aload_n 0, 1) := by decide +kernel
theorem dX11_init_1 : decode cX11_init 1 = .ok (.invokespecial 1, 3) := by decide +kernel
theorem dX11_init_4 : decode cX11_init 4 = .ok (.aload_n 0, 1) := by decide +kernel
theorem dX11_init_5 : decode cX11_init 5 = .ok (.bipush 8, 2) := by decide +kernel
theorem dX11_init_7 : decode cX11_init 7 = .ok (.newarray .int, 2) := by decide +kernel
theorem dX11_init_9 : decode cX11_init 9 = .ok (.dup, 1) := by decide +kernel
theorem dX11_init_10 : decode cX11_init 10 = .ok (.iconst 0, 1) := by decide +kernel
theorem dX11_init_11 : decode cX11_init 11 = .ok (.iconst (-1), 1) := by decide +kernel
theorem dX11_init_12 : decode cX11_init 12 = .ok (.iastore, 1) := by decide +kernel
theorem dX11_init_13 : decode cX11_init 13 = .ok (.dup, 1) := by decide +kernel
theorem dX11_init_14 : decode cX11_init 14 = .ok (.iconst 1, 1) := by decide +kernel
theorem dX11_init_15 : decode cX11_init 15 = .ok (.iconst (-1), 1) := by decide +kernel
theorem dX11_init_16 : decode cX11_init 16 = .ok (.iastore, 1) := by decide +kernel
theorem dX11_init_17 : decode cX11_init 17 = .ok (.dup, 1) := by decide +kernel
theorem dX11_init_18 : decode cX11_init 18 = .ok (.iconst 2, 1) := by decide +kernel
theorem dX11_init_19 : decode cX11_init 19 = .ok (.iconst (-1), 1) := by decide +kernel
theorem dX11_init_20 : decode cX11_init 20 = .ok (.iastore, 1) := by decide +kernel
theorem dX11_init_21 : decode cX11_init 21 = .ok (.dup, 1) := by decide +kernel
theorem dX11_init_22 : decode cX11_init 22 = .ok (.iconst 3, 1) := by decide +kernel
theorem dX11_init_23 : decode cX11_init 23 = .ok (.iconst (-1), 1) := by decide +kernel
theorem dX11_init_24 : decode cX11_init 24 = .ok (.iastore, 1) := by decide +kernel
theorem dX11_init_25 : decode cX11_init 25 = .ok (.dup, 1) := by decide +kernel
theorem dX11_init_26 : decode cX11_init 26 = .ok (.iconst 4, 1) := by decide +kernel
theorem dX11_init_27 : decode cX11_init 27 = .ok (.iconst (-1), 1) := by decide +kernel
theorem dX11_init_28 : decode cX11_init 28 = .ok (.iastore, 1) := by decide +kernel
theorem dX11_init_29 : decode cX11_init 29 = .ok (.dup, 1) := by decide +kernel
theorem dX11_init_30 : decode cX11_init 30 = .ok (.iconst 5, 1) := by decide +kernel
theorem dX11_init_31 : decode cX11_init 31 = .ok (.iconst (-1), 1) := by decide +kernel
theorem dX11_init_32 : decode cX11_init 32 = .ok (.iastore, 1) := by decide +kernel
theorem dX11_init_33 : decode cX11_init 33 = .ok (.dup, 1) := by decide +kernel
theorem dX11_init_34 : decode cX11_init 34 = .ok (.bipush 6, 2) := by decide +kernel
theorem dX11_init_36 : decode cX11_init 36 = .ok (.iconst (-1), 1) := by decide +kernel
theorem dX11_init_37 : decode cX11_init 37 = .ok (.iastore, 1) := by decide +kernel
theorem dX11_init_38 : decode cX11_init 38 = .ok (.dup, 1) := by decide +kernel
theorem dX11_init_39 : decode cX11_init 39 = .ok (.bipush 7, 2) := by decide +kernel
theorem dX11_init_41 : decode cX11_init 41 = .ok (.iconst (-1), 1) := by decide +kernel
theorem dX11_init_42 : decode cX11_init 42 = .ok (.iastore, 1) := by decide +kernel
theorem dX11_init_43 : decode cX11_init 43 = .ok (.putfield 7, 3) := by decide +kernel
theorem dX11_init_46 : decode cX11_init 46 = .ok (.aload_n 0, 1) := by decide +kernel
theorem dX11_init_47 : decode cX11_init 47 = .ok (.bipush 8, 2) := by decide +kernel
theorem dX11_init_49 : decode cX11_init 49 = .ok (.newarray .int, 2) := by decide +kernel
theorem dX11_init_51 : decode cX11_init 51 = .ok (.putfield 13, 3) := by decide +kernel
theorem dX11_init_54 : decode cX11_init 54 = .ok (.aload_n 0, 1) := by decide +kernel
theorem dX11_init_55 : decode cX11_init 55 = .ok (.sipush 480, 3) := by decide +kernel
theorem dX11_init_58 : decode cX11_init 58 = .ok (.newarray .int, 2) := by decide +kernel
theorem dX11_init_60 : decode cX11_init 60 = .ok (.putfield 16, 3) := by decide +kernel
theorem dX11_init_63 : decode cX11_init 63 = .ok (.aload_n 0, 1) := by decide +kernel
theorem dX11_init_64 : decode cX11_init 64 = .ok (.bipush 36, 2) := by decide +kernel
theorem dX11_init_66 : decode cX11_init 66 = .ok (.newarray .int, 2) := by decide +kernel
theorem dX11_init_68 : decode cX11_init 68 = .ok (.putfield 19, 3) := by decide +kernel
theorem dX11_init_71 : decode cX11_init 71 = .ok (.aload_n 0, 1) := by decide +kernel
theorem dX11_init_72 : decode cX11_init 72 = .ok (.bipush 6, 2) := by decide +kernel
theorem dX11_init_74 : decode cX11_init 74 = .ok (.newarray .int, 2) := by decide +kernel
theorem dX11_init_76 : decode cX11_init 76 = .ok (.putfield 22, 3) := by decide +kernel
theorem dX11_init_79 : decode cX11_init 79 = .ok (.aload_n 0, 1) := by decide +kernel
theorem dX11_init_80 : decode cX11_init 80 = .ok (.bipush 8, 2) := by decide +kernel
theorem dX11_init_82 : decode cX11_init 82 = .ok (.newarray .int, 2) := by decide +kernel
theorem dX11_init_84 : decode cX11_init 84 = .ok (.putfield 25, 3) := by decide +kernel
theorem dX11_init_87 : decode cX11_init 87 = .ok (.aload_n 0, 1) := by decide +kernel
theorem dX11_init_88 : decode cX11_init 88 = .ok (.bipush 8, 2) := by decide +kernel
theorem dX11_init_90 : decode cX11_init 90 = .ok (.newarray .int, 2) := by decide +kernel
theorem dX11_init_92 : decode cX11_init 92 = .ok (.putfield 28, 3) := by decide +kernel
theorem dX11_init_95 : decode cX11_init 95 = .ok (.aload_n 0, 1) := by decide +kernel
theorem dX11_init_96 : decode cX11_init 96 = .ok (.bipush 8, 2) := by decide +kernel
theorem dX11_init_98 : decode cX11_init 98 = .ok (.newarray .int, 2) := by decide +kernel
theorem dX11_init_100 : decode cX11_init 100 = .ok (.putfield 31, 3) := by decide +kernel
theorem dX11_init_103 : decode cX11_init 103 = .ok (.aload_n 0, 1) := by decide +kernel
theorem dX11_init_104 : decode cX11_init 104 = .ok (.bipush 8, 2) := by decide +kernel
theorem dX11_init_106 : decode cX11_init 106 = .ok (.newarray .boolean, 2) := by decide +kernel
theorem dX11_init_108 : decode cX11_init 108 = .ok (.putfield 34, 3) := by decide +kernel
theorem dX11_init_111 : decode cX11_init 111 = .ok (.aload_n 0, 1) := by decide +kernel
theorem dX11_init_112 : decode cX11_init 112 = .ok (.bipush 64, 2) := by decide +kernel
theorem dX11_init_114 : decode cX11_init 114 = .ok (.newarray .int, 2) := by decide +kernel
theorem dX11_init_116 : decode cX11_init 116 = .ok (.putfield 38, 3) := by decide +kernel
theorem dX11_init_119 : decode cX11_init 119 = .ok (.aload_n 0, 1) := by decide +kernel
theorem dX11_init_120 : decode cX11_init 120 = .ok (.bipush 40, 2) := by decide +kernel
theorem dX11_init_122 : decode cX11_init 122 = .ok (.newarray .int, 2) := by decide +kernel
theorem dX11_init_124 : decode cX11_init 124 = .ok (.putfield 41, 3) := by decide +kernel
theorem dX11_init_127 : decode cX11_init 127 = .ok (.aload_n 0, 1) := by decide +kernel
theorem dX11_init_128 : decode cX11_init 128 = .ok (.bipush 40, 2) := by decide +kernel
theorem dX11_init_130 : decode cX11_init 130 = .ok (.newarray .int, 2) := by decide +kernel
theorem dX11_init_132 : decode cX11_init 132 = .ok (.putfield 44, 3) := by decide +kernel
theorem dX11_init_135 : decode cX11_init 135 = .ok (.aload_n 0, 1) := by decide +kernel
theorem dX11_init_136 : decode cX11_init 136 = .ok (.bipush 40, 2) := by decide +kernel
theorem dX11_init_138 : decode cX11_init 138 = .ok (.newarray .int, 2) := by decide +kernel
theorem dX11_init_140 : decode cX11_init 140 = .ok (.putfield 47, 3) := by decide +kernel
theorem dX11_init_143 : decode cX11_init 143 = .ok (.aload_n 0, 1) := by decide +kernel
theorem dX11_init_144 : decode cX11_init 144 = .ok (.bipush 40, 2) := by decide +kernel
theorem dX11_init_146 : decode cX11_init 146 = .ok (.newarray .int, 2) := by decide +kernel
theorem dX11_init_148 : decode cX11_init 148 = .ok (.putfield 50, 3) := by decide +kernel
theorem dX11_init_151 : decode cX11_init 151 = .ok (.aload_n 0, 1) := by decide +kernel
theorem dX11_init_152 : decode cX11_init 152 = .ok (.sipush 400, 3) := by decide +kernel
theorem dX11_init_155 : decode cX11_init 155 = .ok (.newarray .int, 2) := by decide +kernel
theorem dX11_init_157 : decode cX11_init 157 = .ok (.putfield 53, 3) := by decide +kernel
theorem dX11_init_160 : decode cX11_init 160 = .ok (.aload_n 0, 1) := by decide +kernel
theorem dX11_init_161 : decode cX11_init 161 = .ok (.bipush 24, 2) := by decide +kernel
theorem dX11_init_163 : decode cX11_init 163 = .ok (.newarray .int, 2) := by decide +kernel
theorem dX11_init_165 : decode cX11_init 165 = .ok (.putfield 56, 3) := by decide +kernel
theorem dX11_init_168 : decode cX11_init 168 = .ok (.aload_n 0, 1) := by decide +kernel
theorem dX11_init_169 : decode cX11_init 169 = .ok (.bipush 24, 2) := by decide +kernel
theorem dX11_init_171 : decode cX11_init 171 = .ok (.newarray .int, 2) := by decide +kernel
theorem dX11_init_173 : decode cX11_init 173 = .ok (.putfield 59, 3) := by decide +kernel
theorem dX11_init_176 : decode cX11_init 176 = .ok (.aload_n 0, 1) := by decide +kernel
theorem dX11_init_177 : decode cX11_init 177 = .ok (.bipush 24, 2) := by decide +kernel
theorem dX11_init_179 : decode cX11_init 179 = .ok (.newarray .int, 2) := by decide +kernel
theorem dX11_init_181 : decode cX11_init 181 = .ok (.putfield 62, 3) := by decide +kernel
theorem dX11_init_184 : decode cX11_init 184 = .ok (.aload_n 0, 1) := by decide +kernel
theorem dX11_init_185 : decode cX11_init 185 = .ok (.bipush 24, 2) := by decide +kernel
theorem dX11_init_187 : decode cX11_init 187 = .ok (.newarray .int, 2) := by decide +kernel
theorem dX11_init_189 : decode cX11_init 189 = .ok (.putfield 65, 3) := by decide +kernel
theorem dX11_init_192 : decode cX11_init 192 = .ok (.aload_n 0, 1) := by decide +kernel
theorem dX11_init_193 : decode cX11_init 193 = .ok (.bipush 24, 2) := by decide +kernel
theorem dX11_init_195 : decode cX11_init 195 = .ok (.newarray .int, 2) := by decide +kernel
theorem dX11_init_197 : decode cX11_init 197 = .ok (.putfield 68, 3) := by decide +kernel
theorem dX11_init_200 : decode cX11_init 200 = .ok (.aload_n 0, 1) := by decide +kernel
theorem dX11_init_201 : decode cX11_init 201 = .ok (.bipush 24, 2) := by decide +kernel
theorem dX11_init_203 : decode cX11_init 203 = .ok (.newarray .boolean, 2) := by decide +kernel
theorem dX11_init_205 : decode cX11_init 205 = .ok (.putfield 71, 3) := by decide +kernel
theorem dX11_init_208 : decode cX11_init 208 = .ok (.aload_n 0, 1) := by decide +kernel
theorem dX11_init_209 : decode cX11_init 209 = .ok (.bipush 24, 2) := by decide +kernel
theorem dX11_init_211 : decode cX11_init 211 = .ok (.newarray .boolean, 2) := by decide +kernel
theorem dX11_init_213 : decode cX11_init 213 = .ok (.putfield 74, 3) := by decide +kernel
theorem dX11_init_216 : decode cX11_init 216 = .ok (.aload_n 0, 1) := by decide +kernel
theorem dX11_init_217 : decode cX11_init 217 = .ok (.bipush 24, 2) := by decide +kernel
theorem dX11_init_219 : decode cX11_init 219 = .ok (.newarray .boolean, 2) := by decide +kernel
theorem dX11_init_221 : decode cX11_init 221 = .ok (.putfield 77, 3) := by decide +kernel
theorem dX11_init_224 : decode cX11_init 224 = .ok (.aload_n 0, 1) := by decide +kernel
theorem dX11_init_225 : decode cX11_init 225 = .ok (.bipush 24, 2) := by decide +kernel
