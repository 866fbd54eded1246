theorem dX0_init_0 : decode cX0_init 0 = .ok (.aload_n 0, 1) := by decide +kernel
theorem dX0_init_1 : decode cX0_init 1 = .ok (.invokespecial 3, 3) := by decide +kernel
theorem dX0_init_4 : decode cX0_init 4 = .ok (.aload_n 0, 1) := by decide +kernel
theorem dX0_init_5 : decode cX0_init 5 = .ok (.iconst 0, 1) := by decide +kernel
theorem dX0_init_6 : decode cX0_init 6 = .ok (.putfield 9, 3) := by decide +kernel
theorem dX0_init_9 : decode cX0_init 9 = .ok (.aload_n 0, 1) := by decide +kernel
theorem dX0_init_10 : decode cX0_init 10 = .ok (.iconst 0, 1) := by decide +kernel
theorem dX0_init_11 : decode cX0_init 11 = .ok (.putfield 15, 3) := by decide +kernel
theorem dX0_init_14 : decode cX0_init 14 = .ok (.aload_n 0, 1) := by decide +kernel
theorem dX0_init_15 : decode cX0_init 15 = .ok (.bipush 8, 2) := by decide +kernel
theorem dX0_init_17 : decode cX0_init 17 = .ok (.newarray .int, 2) := by decide +kernel
theorem dX0_init_19 : decode cX0_init 19 = .ok (.putfield 19, 3) := by decide +kernel
theorem dX0_init_22 : decode cX0_init 22 = .ok (.aload_n 0, 1) := by decide +kernel
theorem dX0_init_23 : decode cX0_init 23 = .ok (.iload_n 1, 1) := by decide +kernel
theorem dX0_init_24 : decode cX0_init 24 = .ok (.putfield 23, 3) := by decide +kernel
theorem dX0_init_27 : decode cX0_init 27 = .ok (.aload_n 0, 1) := by decide +kernel
theorem dX0_init_28 : decode cX0_init 28 = .ok (.iload_n 2, 1) := by decide +kernel
theorem dX0_init_29 : decode cX0_init 29 = .ok (.putfield 26, 3) := by decide +kernel
theorem dX0_init_32 : decode cX0_init 32 = .ok (.aload_n 0, 1) := by decide +kernel
theorem dX0_init_33 : decode cX0_init 33 = .ok (.iload_n 3, 1) := by decide +kernel
theorem dX0_init_34 : decode cX0_init 34 = .ok (.putfield 29, 3) := by decide +kernel
theorem dX0_init_37 : decode cX0_init 37 = .ok (.return_, 1) := by decide +kernel
theorem dX0_changeNeed_0 : decode cX0_changeNeed 0 = .ok (.aload_n 0, 1) := by decide +kernel
theorem dX0_changeNeed_1 : decode cX0_changeNeed 1 = .ok (.getfield 9, 3) := by decide +kernel
theorem dX0_changeNeed_4 : decode cX0_changeNeed 4 = .ok (.istore_n 2, 1) := by decide +kernel
theorem dX0_changeNeed_5 : decode cX0_changeNeed 5 = .ok (.aload_n 0, 1) := by decide +kernel
theorem dX0_changeNeed_6 : decode cX0_changeNeed 6 = .ok (.iload_n 1, 1) := by decide +kernel
theorem dX0_changeNeed_7 : decode cX0_changeNeed 7 = .ok (.putfield 9, 3) := by decide +kernel
theorem dX0_changeNeed_10 : decode cX0_changeNeed 10 = .ok (.iload_n 2, 1) := by decide +kernel
theorem dX0_changeNeed_11 : decode cX0_changeNeed 11 = .ok (.ireturn, 1) := by decide +kernel
theorem dX0_changeHeld_0 : decode cX0_changeHeld 0 = .ok (.aload_n 0, 1) := by decide +kernel
theorem dX0_changeHeld_1 : decode cX0_changeHeld 1 = .ok (.getfield 19, 3) := by decide +kernel
theorem dX0_changeHeld_4 : decode cX0_changeHeld 4 = .ok (.iload_n 1, 1) := by decide +kernel
theorem dX0_changeHeld_5 : decode cX0_changeHeld 5 = .ok (.iaload, 1) := by decide +kernel
theorem dX0_changeHeld_6 : decode cX0_changeHeld 6 = .ok (.istore_n 3, 1) := by decide +kernel
theorem dX0_changeHeld_7 : decode cX0_changeHeld 7 = .ok (.aload_n 0, 1) := by decide +kernel
theorem dX0_changeHeld_8 : decode cX0_changeHeld 8 = .ok (.getfield 19, 3) := by decide +kernel
theorem dX0_changeHeld_11 : decode cX0_changeHeld 11 = .ok (.iload_n 1, 1) := by decide +kernel
theorem dX0_changeHeld_12 : decode cX0_changeHeld 12 = .ok (.iload_n 2, 1) := by decide +kernel
theorem dX0_changeHeld_13 : decode cX0_changeHeld 13 = .ok (.iastore, 1) := by decide +kernel
theorem dX0_changeHeld_14 : decode cX0_changeHeld 14 = .ok (.iload_n 3, 1) := by decide +kernel
theorem dX0_changeHeld_15 : decode cX0_changeHeld 15 = .ok (.ireturn, 1) := by decide +kernel
theorem dX0_isInNeed_0 : decode cX0_isInNeed 0 = .ok (.aload_n 0, 1) := by decide +kernel
theorem dX0_isInNeed_1 : decode cX0_isInNeed 1 = .ok (.getfield 26, 3) := by decide +kernel
theorem dX0_isInNeed_4 : decode cX0_isInNeed 4 = .ok (.istore_n 2, 1) := by decide +kernel
theorem dX0_isInNeed_5 : decode cX0_isInNeed 5 = .ok (.iconst 0, 1) := by decide +kernel
theorem dX0_isInNeed_6 : decode cX0_isInNeed 6 = .ok (.istore_n 3, 1) := by decide +kernel
theorem dX0_isInNeed_7 : decode cX0_isInNeed 7 = .ok (.iload_n 3, 1) := by decide +kernel
theorem dX0_isInNeed_8 : decode cX0_isInNeed 8 = .ok (.bipush 8, 2) := by decide +kernel
theorem dX0_isInNeed_10 : decode cX0_isInNeed 10 = .ok (.if_icmp .ge 26, 3) := by decide +kernel
theorem dX0_isInNeed_13 : decode cX0_isInNeed 13 = .ok (.iload_n 1, 1) := by decide +kernel
theorem dX0_isInNeed_14 : decode cX0_isInNeed 14 = .ok (.iload_n 3, 1) := by decide +kernel
theorem dX0_isInNeed_15 : decode cX0_isInNeed 15 = .ok (.ishr, 1) := by decide +kernel
theorem dX0_isInNeed_16 : decode cX0_isInNeed 16 = .ok (.iconst 1, 1) := by decide +kernel
theorem dX0_isInNeed_17 : decode cX0_isInNeed 17 = .ok (.iand, 1) := by decide +kernel
theorem dX0_isInNeed_18 : decode cX0_isInNeed 18 = .ok (.ifCond .ne 12, 3) := by decide +kernel
theorem dX0_isInNeed_21 : decode cX0_isInNeed 21 = .ok (.iload_n 2, 1) := by decide +kernel
theorem dX0_isInNeed_22 : decode cX0_isInNeed 22 = .ok (.aload_n 0, 1) := by decide +kernel
theorem dX0_isInNeed_23 : decode cX0_isInNeed 23 = .ok (.getfield 19, 3) := by decide +kernel
theorem dX0_isInNeed_26 : decode cX0_isInNeed 26 = .ok (.iload_n 3, 1) := by decide +kernel
theorem dX0_isInNeed_27 : decode cX0_isInNeed 27 = .ok (.iaload, 1) := by decide +kernel
theorem dX0_isInNeed_28 : decode cX0_isInNeed 28 = .ok (.iadd, 1) := by decide +kernel
theorem dX0_isInNeed_29 : decode cX0_isInNeed 29 = .ok (.istore_n 2, 1) := by decide +kernel
theorem dX0_isInNeed_30 : decode cX0_isInNeed 30 = .ok (.iinc 3 1, 3) := by decide +kernel
theorem dX0_isInNeed_33 : decode cX0_isInNeed 33 = .ok (.goto (-26), 3) := by decide +kernel
theorem dX0_isInNeed_36 : decode cX0_isInNeed 36 = .ok (.iload_n 2, 1) := by decide +kernel
theorem dX0_isInNeed_37 : decode cX0_isInNeed 37 = .ok (.aload_n 0, 1) := by decide +kernel
theorem dX0_isInNeed_38 : decode cX0_isInNeed 38 = .ok (.getfield 9, 3) := by decide +kernel
theorem dX0_isInNeed_41 : decode cX0_isInNeed 41 = .ok (.if_icmp .ge 7, 3) := by decide +kernel
theorem dX0_isInNeed_44 : decode cX0_isInNeed 44 = .ok (.iconst 1, 1) := by decide +kernel
theorem dX0_isInNeed_45 : decode cX0_isInNeed 45 = .ok (.goto 4, 3) := by decide +kernel
theorem dX0_isInNeed_48 : decode cX0_isInNeed 48 = .ok (.iconst 0, 1) := by decide +kernel
theorem dX0_isInNeed_49 : decode cX0_isInNeed 49 = .ok (.ireturn, 1) := by decide +kernel
theorem dX0_payOut_0 : decode cX0_payOut 0 = .ok (.aload_n 0, 1) := by decide +kernel
theorem dX0_payOut_1 : decode cX0_payOut 1 = .ok (.getfield 15, 3) := by decide +kernel
theorem dX0_payOut_4 : decode cX0_payOut 4 = .ok (.ifCond .eq 5, 3) := by decide +kernel
theorem dX0_payOut_7 : decode cX0_payOut 7 = .ok (.iconst 0, 1) := by decide +kernel
theorem dX0_payOut_8 : decode cX0_payOut 8 = .ok (.ireturn, 1) := by decide +kernel
theorem dX0_payOut_9 : decode cX0_payOut 9 = .ok (.aload_n 0, 1) := by decide +kernel
theorem dX0_payOut_10 : decode cX0_payOut 10 = .ok (.getfield 26, 3) := by decide +kernel
theorem dX0_payOut_13 : decode cX0_payOut 13 = .ok (.iload_n 1, 1) := by decide +kernel
theorem dX0_payOut_14 : decode cX0_payOut 14 = .ok (.if_icmp .ge 10, 3) := by decide +kernel
theorem dX0_payOut_17 : decode cX0_payOut 17 = .ok (.aload_n 0, 1) := by decide +kernel
theorem dX0_payOut_18 : decode cX0_payOut 18 = .ok (.iconst 1, 1) := by decide +kernel
theorem dX0_payOut_19 : decode cX0_payOut 19 = .ok (.putfield 15, 3) := by decide +kernel
theorem dX0_payOut_22 : decode cX0_payOut 22 = .ok (.iconst 0, 1) := by decide +kernel
theorem dX0_payOut_23 : decode cX0_payOut 23 = .ok (.ireturn, 1) := by decide +kernel
theorem dX0_payOut_24 : decode cX0_payOut 24 = .ok (.aload_n 0, 1) := by decide +kernel
theorem dX0_payOut_25 : decode cX0_payOut 25 = .ok (.dup, 1) := by decide +kernel
theorem dX0_payOut_26 : decode cX0_payOut 26 = .ok (.getfield 26, 3) := by decide +kernel
theorem dX0_payOut_29 : decode cX0_payOut 29 = .ok (.iload_n 1, 1) := by decide +kernel
theorem dX0_payOut_30 : decode cX0_payOut 30 = .ok (.isub, 1) := by decide +kernel
theorem dX0_payOut_31 : decode cX0_payOut 31 = .ok (.putfield 26, 3) := by decide +kernel
theorem dX0_payOut_34 : decode cX0_payOut 34 = .ok (.iload_n 1, 1) := by decide +kernel
theorem dX0_payOut_35 : decode cX0_payOut 35 = .ok (.ireturn, 1) := by decide +kernel
theorem dX1_init_0 : decode cX1_init 0 = .ok (.aload_n 0, 1) := by decide +kernel
theorem dX1_init_1 : decode cX1_init 1 = .ok (.invokespecial 3, 3) := by decide +kernel
theorem dX1_init_4 : decode cX1_init 4 = .ok (.aload_n 0, 1) := by decide +kernel
theorem dX1_init_5 : decode cX1_init 5 = .ok (.iconst 0, 1) := by decide +kernel
theorem dX1_init_6 : decode cX1_init 6 = .ok (.putfield 11, 3) := by decide +kernel
theorem dX1_init_9 : decode cX1_init 9 = .ok (.aload_n 0, 1) := by decide +kernel
theorem dX1_init_10 : decode cX1_init 10 = .ok (.iconst 0, 1) := by decide +kernel
theorem dX1_init_11 : decode cX1_init 11 = .ok (.putfield 15, 3) := by decide +kernel
theorem dX1_init_14 : decode cX1_init 14 = .ok (.aload_n 0, 1) := by decide +kernel
theorem dX1_init_15 : decode cX1_init 15 = .ok (.iconst (-1), 1) := by decide +kernel
theorem dX1_init_16 : decode cX1_init 16 = .ok (.putfield 18, 3) := by decide +kernel
theorem dX1_init_19 : decode cX1_init 19 = .ok (.aload_n 0, 1) := by decide +kernel
theorem dX1_init_20 : decode cX1_init 20 = .ok (.iconst 0, 1) := by decide +kernel
theorem dX1_init_21 : decode cX1_init 21 = .ok (.putfield 21, 3) := by decide +kernel
theorem dX1_init_24 : decode cX1_init 24 = .ok (.aload_n 0, 1) := by decide +kernel
theorem dX1_init_25 : decode cX1_init 25 = .ok (.iconst 0, 1) := by decide +kernel
theorem dX1_init_26 : decode cX1_init 26 = .ok (.putfield 24, 3) := by decide +kernel
theorem dX1_init_29 : decode cX1_init 29 = .ok (.aload_n 0, 1) := by decide +kernel
theorem dX1_init_30 : decode cX1_init 30 = .ok (.aload_n 1, 1) := by decide +kernel
theorem dX1_init_31 : decode cX1_init 31 = .ok (.putfield 27, 3) := by decide +kernel
theorem dX1_init_34 : decode cX1_init 34 = .ok (.aload_n 0, 1) := by decide +kernel
theorem dX1_init_35 : decode cX1_init 35 = .ok (.aload_n 2, 1) := by decide +kernel
theorem dX1_init_36 : decode cX1_init 36 = .ok (.putfield 31, 3) := by decide +kernel
theorem dX1_init_39 : decode cX1_init 39 = .ok (.return_, 1) := by decide +kernel
theorem dX1_readTape_0 : decode cX1_readTape 0 = .ok (.aload_n 0, 1) := by decide +kernel
theorem dX1_readTape_1 : decode cX1_readTape 1 = .ok (.getfield 27, 3) := by decide +kernel
theorem dX1_readTape_4 : decode cX1_readTape 4 = .ok (.invokevirtual 35, 3) := by decide +kernel
theorem dX1_readTape_7 : decode cX1_readTape 7 = .ok (.aload_n 0, 1) := by decide +kernel
theorem dX1_readTape_8 : decode cX1_readTape 8 = .ok (.iconst 0, 1) := by decide +kernel
theorem dX1_readTape_9 : decode cX1_readTape 9 = .ok (.putfield 11, 3) := by decide +kernel
theorem dX1_readTape_12 : decode cX1_readTape 12 = .ok (.aload_n 0, 1) := by decide +kernel
theorem dX1_readTape_13 : decode cX1_readTape 13 = .ok (.iconst 0, 1) := by decide +kernel
theorem dX1_readTape_14 : decode cX1_readTape 14 = .ok (.putfield 24, 3) := by decide +kernel
theorem dX1_readTape_17 : decode cX1_readTape 17 = .ok (.iconst 0, 1) := by decide +kernel
theorem dX1_readTape_18 : decode cX1_readTape 18 = .ok (.istore_n 2, 1) := by decide +kernel
theorem dX1_readTape_19 : decode cX1_readTape 19 = .ok (.iload_n 2, 1) := by decide +kernel
theorem dX1_readTape_20 : decode cX1_readTape 20 = .ok (.sipush 400, 3) := by decide +kernel
theorem dX1_readTape_23 : decode cX1_readTape 23 = .ok (.if_icmp .gt 48, 3) := by decide +kernel
theorem dX1_readTape_26 : decode cX1_readTape 26 = .ok (.aload_n 0, 1) := by decide +kernel
theorem dX1_readTape_27 : decode cX1_readTape 27 = .ok (.getfield 27, 3) := by decide +kernel
theorem dX1_readTape_30 : decode cX1_readTape 30 = .ok (.invokevirtual 40, 3) := by decide +kernel
theorem dX1_readTape_33 : decode cX1_readTape 33 = .ok (.aload_n 0, 1) := by decide +kernel
theorem dX1_readTape_34 : decode cX1_readTape 34 = .ok (.getfield 27, 3) := by decide +kernel
theorem dX1_readTape_37 : decode cX1_readTape 37 = .ok (.getfield 43, 3) := by decide +kernel
theorem dX1_readTape_40 : decode cX1_readTape 40 = .ok (.ifCond .ne 13, 3) := by decide +kernel
theorem dX1_readTape_43 : decode cX1_readTape 43 = .ok (.aload_n 0, 1) := by decide +kernel
theorem dX1_readTape_44 : decode cX1_readTape 44 = .ok (.getfield 11, 3) := by decide +kernel
theorem dX1_readTape_47 : decode cX1_readTape 47 = .ok (.ifCond .ne 6, 3) := by decide +kernel
theorem dX1_readTape_50 : decode cX1_readTape 50 = .ok (.goto 21, 3) := by decide +kernel
theorem dX1_readTape_53 : decode cX1_readTape 53 = .ok (.aload_n 0, 1) := by decide +kernel
theorem dX1_readTape_54 : decode cX1_readTape 54 = .ok (.iload_n 1, 1) := by decide +kernel
theorem dX1_readTape_55 : decode cX1_readTape 55 = .ok (.invokevirtual 46, 3) := by decide +kernel
theorem dX1_readTape_58 : decode cX1_readTape 58 = .ok (.istore_n 3, 1) := by decide +kernel
theorem dX1_readTape_59 : decode cX1_readTape 59 = .ok (.iload_n 3, 1) := by decide +kernel
theorem dX1_readTape_60 : decode cX1_readTape 60 = .ok (.ifCond .eq 5, 3) := by decide +kernel
theorem dX1_readTape_63 : decode cX1_readTape 63 = .ok (.iload_n 3, 1) := by decide +kernel
theorem dX1_readTape_64 : decode cX1_readTape 64 = .ok (.ireturn, 1) := by decide +kernel
theorem dX1_readTape_65 : decode cX1_readTape 65 = .ok (.iinc 2 1, 3) := by decide +kernel
theorem dX1_readTape_68 : decode cX1_readTape 68 = .ok (.goto (-49), 3) := by decide +kernel
theorem dX1_readTape_71 : decode cX1_readTape 71 = .ok (.aload_n 0, 1) := by decide +kernel
theorem dX1_readTape_72 : decode cX1_readTape 72 = .ok (.getfield 31, 3) := by decide +kernel
theorem dX1_readTape_75 : decode cX1_readTape 75 = .ok (.aload_n 0, 1) := by decide +kernel
theorem dX1_readTape_76 : decode cX1_readTape 76 = .ok (.getfield 24, 3) := by decide +kernel
theorem dX1_readTape_79 : decode cX1_readTape 79 = .ok (.invokevirtual 50, 3) := by decide +kernel
theorem dX1_readTape_82 : decode cX1_readTape 82 = .ok (.iconst 0, 1) := by decide +kernel
theorem dX1_readTape_83 : decode cX1_readTape 83 = .ok (.ireturn, 1) := by decide +kernel
theorem dX1_step_0 : decode cX1_step 0 = .ok (.aload_n 0, 1) := by decide +kernel
theorem dX1_step_1 : decode cX1_step 1 = .ok (.getfield 11, 3) := by decide +kernel
theorem dX1_step_4 : decode cX1_step 4 = .ok (.tableswitch 62 0 4 #[36, 41, 46, 51, 57], 36) := by decide +kernel
theorem dX1_step_40 : decode cX1_step 40 = .ok (.aload_n 0, 1) := by decide +kernel
theorem dX1_step_41 : decode cX1_step 41 = .ok (.invokevirtual 56, 3) := by decide +kernel
theorem dX1_step_44 : decode cX1_step 44 = .ok (.ireturn, 1) := by decide +kernel
theorem dX1_step_45 : decode cX1_step 45 = .ok (.aload_n 0, 1) := by decide +kernel
theorem dX1_step_46 : decode cX1_step 46 = .ok (.invokevirtual 60, 3) := by decide +kernel
theorem dX1_step_49 : decode cX1_step 49 = .ok (.ireturn, 1) := by decide +kernel
theorem dX1_step_50 : decode cX1_step 50 = .ok (.aload_n 0, 1) := by decide +kernel
theorem dX1_step_51 : decode cX1_step 51 = .ok (.invokevirtual 63, 3) := by decide +kernel
theorem dX1_step_54 : decode cX1_step 54 = .ok (.ireturn, 1) := by decide +kernel
theorem dX1_step_55 : decode cX1_step 55 = .ok (.aload_n 0, 1) := by decide +kernel
theorem dX1_step_56 : decode cX1_step 56 = .ok (.iload_n 1, 1) := by decide +kernel
theorem dX1_step_57 : decode cX1_step 57 = .ok (.invokevirtual 66, 3) := by decide +kernel
theorem dX1_step_60 : decode cX1_step 60 = .ok (.ireturn, 1) := by decide +kernel
theorem dX1_step_61 : decode cX1_step 61 = .ok (.aload_n 0, 1) := by decide +kernel
theorem dX1_step_62 : decode cX1_step 62 = .ok (.invokevirtual 69, 3) := by decide +kernel
theorem dX1_step_65 : decode cX1_step 65 = .ok (.ireturn, 1) := by decide +kernel
theorem dX1_step_66 : decode cX1_step 66 = .ok (.aload_n 0, 1) := by decide +kernel
theorem dX1_step_67 : decode cX1_step 67 = .ok (.getfield 27, 3) := by decide +kernel
theorem dX1_step_70 : decode cX1_step 70 = .ok (.getfield 43, 3) := by decide +kernel
theorem dX1_step_73 : decode cX1_step 73 = .ok (.iconst 3, 1) := by decide +kernel
theorem dX1_step_74 : decode cX1_step 74 = .ok (.if_icmp .ne 11, 3) := by decide +kernel
theorem dX1_step_77 : decode cX1_step 77 = .ok (.aload_n 0, 1) := by decide +kernel
theorem dX1_step_78 : decode cX1_step 78 = .ok (.iconst 0, 1) := by decide +kernel
theorem dX1_step_79 : decode cX1_step 79 = .ok (.invokevirtual 72, 3) := by decide +kernel
theorem dX1_step_82 : decode cX1_step 82 = .ok (.goto 7, 3) := by decide +kernel
theorem dX1_step_85 : decode cX1_step 85 = .ok (.aload_n 0, 1) := by decide +kernel
theorem dX1_step_86 : decode cX1_step 86 = .ok (.invokevirtual 63, 3) := by decide +kernel
theorem dX1_step_89 : decode cX1_step 89 = .ok (.ireturn, 1) := by decide +kernel
theorem dX1_go_0 : decode cX1_go 0 = .ok (.aload_n 0, 1) := by decide +kernel
theorem dX1_go_1 : decode cX1_go 1 = .ok (.iload_n 1, 1) := by decide +kernel
theorem dX1_go_2 : decode cX1_go 2 = .ok (.putfield 11, 3) := by decide +kernel
theorem dX1_go_5 : decode cX1_go 5 = .ok (.iconst 0, 1) := by decide +kernel
theorem dX1_go_6 : decode cX1_go 6 = .ok (.ireturn, 1) := by decide +kernel
theorem dX1_beginBook_0 : decode cX1_beginBook 0 = .ok (.aload_n 0, 1) := by decide +kernel
theorem dX1_beginBook_1 : decode cX1_beginBook 1 = .ok (.getfield 27, 3) := by decide +kernel
theorem dX1_beginBook_4 : decode cX1_beginBook 4 = .ok (.ldc 75, 2) := by decide +kernel
theorem dX1_beginBook_6 : decode cX1_beginBook 6 = .ok (.invokevirtual 77, 3) := by decide +kernel
theorem dX1_beginBook_9 : decode cX1_beginBook 9 = .ok (.ifCond .eq 11, 3) := by decide +kernel
theorem dX1_beginBook_12 : decode cX1_beginBook 12 = .ok (.aload_n 0, 1) := by decide +kernel
theorem dX1_beginBook_13 : decode cX1_beginBook 13 = .ok (.iconst 1, 1) := by decide +kernel
theorem dX1_beginBook_14 : decode cX1_beginBook 14 = .ok (.invokevirtual 72, 3) := by decide +kernel
theorem dX1_beginBook_17 : decode cX1_beginBook 17 = .ok (.goto 4, 3) := by decide +kernel
theorem dX1_beginBook_20 : decode cX1_beginBook 20 = .ok (.iconst 1, 1) := by decide +kernel
theorem dX1_beginBook_21 : decode cX1_beginBook 21 = .ok (.ireturn, 1) := by decide +kernel
theorem dX1_readWeek_0 : decode cX1_readWeek 0 = .ok (.aload_n 0, 1) := by decide +kernel
theorem dX1_readWeek_1 : decode cX1_readWeek 1 = .ok (.aload_n 0, 1) := by decide +kernel
theorem dX1_readWeek_2 : decode cX1_readWeek 2 = .ok (.getfield 27, 3) := by decide +kernel
theorem dX1_readWeek_5 : decode cX1_readWeek 5 = .ok (.getfield 81, 3) := by decide +kernel
theorem dX1_readWeek_8 : decode cX1_readWeek 8 = .ok (.putfield 15, 3) := by decide +kernel
theorem dX1_readWeek_11 : decode cX1_readWeek 11 = .ok (.aload_n 0, 1) := by decide +kernel
theorem dX1_readWeek_12 : decode cX1_readWeek 12 = .ok (.sipush 299, 3) := by decide +kernel
theorem dX1_readWeek_15 : decode cX1_readWeek 15 = .ok (.iconst 2, 1) := by decide +kernel
theorem dX1_readWeek_16 : decode cX1_readWeek 16 = .ok (.invokevirtual 84, 3) := by decide +kernel
theorem dX1_readWeek_19 : decode cX1_readWeek 19 = .ok (.ireturn, 1) := by decide +kernel
theorem dX1_beginEntry_0 : decode cX1_beginEntry 0 = .ok (.aload_n 0, 1) := by decide +kernel
theorem dX1_beginEntry_1 : decode cX1_beginEntry 1 = .ok (.aload_n 0, 1) := by decide +kernel
theorem dX1_beginEntry_2 : decode cX1_beginEntry 2 = .ok (.invokevirtual 88, 3) := by decide +kernel
theorem dX1_beginEntry_5 : decode cX1_beginEntry 5 = .ok (.putfield 18, 3) := by decide +kernel
theorem dX1_beginEntry_8 : decode cX1_beginEntry 8 = .ok (.aload_n 0, 1) := by decide +kernel
theorem dX1_beginEntry_9 : decode cX1_beginEntry 9 = .ok (.getfield 18, 3) := by decide +kernel
theorem dX1_beginEntry_12 : decode cX1_beginEntry 12 = .ok (.iconst (-1), 1) := by decide +kernel
theorem dX1_beginEntry_13 : decode cX1_beginEntry 13 = .ok (.if_icmp .ne 5, 3) := by decide +kernel
theorem dX1_beginEntry_16 : decode cX1_beginEntry 16 = .ok (.iconst 1, 1) := by decide +kernel
theorem dX1_beginEntry_17 : decode cX1_beginEntry 17 = .ok (.ireturn, 1) := by decide +kernel
theorem dX1_beginEntry_18 : decode cX1_beginEntry 18 = .ok (.aload_n 0, 1) := by decide +kernel
theorem dX1_beginEntry_19 : decode cX1_beginEntry 19 = .ok (.getfield 31, 3) := by decide +kernel
theorem dX1_beginEntry_22 : decode cX1_beginEntry 22 = .ok (.aload_n 0, 1) := by decide +kernel
theorem dX1_beginEntry_23 : decode cX1_beginEntry 23 = .ok (.getfield 24, 3) := by decide +kernel
theorem dX1_beginEntry_26 : decode cX1_beginEntry 26 = .ok (.invokevirtual 91, 3) := by decide +kernel
theorem dX1_beginEntry_29 : decode cX1_beginEntry 29 = .ok (.ifCond .eq 11, 3) := by decide +kernel
theorem dX1_beginEntry_32 : decode cX1_beginEntry 32 = .ok (.aload_n 0, 1) := by decide +kernel
theorem dX1_beginEntry_33 : decode cX1_beginEntry 33 = .ok (.iconst 3, 1) := by decide +kernel
theorem dX1_beginEntry_34 : decode cX1_beginEntry 34 = .ok (.invokevirtual 72, 3) := by decide +kernel
theorem dX1_beginEntry_37 : decode cX1_beginEntry 37 = .ok (.goto 4, 3) := by decide +kernel
theorem dX1_beginEntry_40 : decode cX1_beginEntry 40 = .ok (.iconst 3, 1) := by decide +kernel
theorem dX1_beginEntry_41 : decode cX1_beginEntry 41 = .ok (.ireturn, 1) := by decide +kernel
theorem dX1_wordOfEntry_0 : decode cX1_wordOfEntry 0 = .ok (.aload_n 0, 1) := by decide +kernel
theorem dX1_wordOfEntry_1 : decode cX1_wordOfEntry 1 = .ok (.getfield 27, 3) := by decide +kernel
theorem dX1_wordOfEntry_4 : decode cX1_wordOfEntry 4 = .ok (.ldc 95, 2) := by decide +kernel
theorem dX1_wordOfEntry_6 : decode cX1_wordOfEntry 6 = .ok (.invokevirtual 77, 3) := by decide +kernel
theorem dX1_wordOfEntry_9 : decode cX1_wordOfEntry 9 = .ok (.ifCond .eq 5, 3) := by decide +kernel
theorem dX1_wordOfEntry_12 : decode cX1_wordOfEntry 12 = .ok (.iconst 0, 1) := by decide +kernel
theorem dX1_wordOfEntry_13 : decode cX1_wordOfEntry 13 = .ok (.ireturn, 1) := by decide +kernel
theorem dX1_wordOfEntry_14 : decode cX1_wordOfEntry 14 = .ok (.aload_n 0, 1) := by decide +kernel
theorem dX1_wordOfEntry_15 : decode cX1_wordOfEntry 15 = .ok (.getfield 27, 3) := by decide +kernel
theorem dX1_wordOfEntry_18 : decode cX1_wordOfEntry 18 = .ok (.ldc 97, 2) := by decide +kernel
theorem dX1_wordOfEntry_20 : decode cX1_wordOfEntry 20 = .ok (.invokevirtual 77, 3) := by decide +kernel
theorem dX1_wordOfEntry_23 : decode cX1_wordOfEntry 23 = .ok (.ifCond .eq 5, 3) := by decide +kernel
theorem dX1_wordOfEntry_26 : decode cX1_wordOfEntry 26 = .ok (.iconst 1, 1) := by decide +kernel
theorem dX1_wordOfEntry_27 : decode cX1_wordOfEntry 27 = .ok (.ireturn, 1) := by decide +kernel
theorem dX1_wordOfEntry_28 : decode cX1_wordOfEntry 28 = .ok (.aload_n 0, 1) := by decide +kernel
theorem dX1_wordOfEntry_29 : decode cX1_wordOfEntry 29 = .ok (.getfield 27, 3) := by decide +kernel
theorem dX1_wordOfEntry_32 : decode cX1_wordOfEntry 32 = .ok (.ldc 99, 2) := by decide +kernel
theorem dX1_wordOfEntry_34 : decode cX1_wordOfEntry 34 = .ok (.invokevirtual 77, 3) := by decide +kernel
theorem dX1_wordOfEntry_37 : decode cX1_wordOfEntry 37 = .ok (.ifCond .eq 7, 3) := by decide +kernel
theorem dX1_wordOfEntry_40 : decode cX1_wordOfEntry 40 = .ok (.iconst 2, 1) := by decide +kernel
theorem dX1_wordOfEntry_41 : decode cX1_wordOfEntry 41 = .ok (.goto 4, 3) := by decide +kernel
theorem dX1_wordOfEntry_44 : decode cX1_wordOfEntry 44 = .ok (.iconst (-1), 1) := by decide +kernel
theorem dX1_wordOfEntry_45 : decode cX1_wordOfEntry 45 = .ok (.ireturn, 1) := by decide +kernel
theorem dX1_readBank_0 : decode cX1_readBank 0 = .ok (.aload_n 0, 1) := by decide +kernel
theorem dX1_readBank_1 : decode cX1_readBank 1 = .ok (.aload_n 0, 1) := by decide +kernel
theorem dX1_readBank_2 : decode cX1_readBank 2 = .ok (.getfield 27, 3) := by decide +kernel
theorem dX1_readBank_5 : decode cX1_readBank 5 = .ok (.getfield 81, 3) := by decide +kernel
theorem dX1_readBank_8 : decode cX1_readBank 8 = .ok (.putfield 21, 3) := by decide +kernel
theorem dX1_readBank_11 : decode cX1_readBank 11 = .ok (.aload_n 0, 1) := by decide +kernel
theorem dX1_readBank_12 : decode cX1_readBank 12 = .ok (.iload_n 1, 1) := by decide +kernel
theorem dX1_readBank_13 : decode cX1_readBank 13 = .ok (.iconst 1, 1) := by decide +kernel
theorem dX1_readBank_14 : decode cX1_readBank 14 = .ok (.isub, 1) := by decide +kernel
theorem dX1_readBank_15 : decode cX1_readBank 15 = .ok (.iconst 4, 1) := by decide +kernel
theorem dX1_readBank_16 : decode cX1_readBank 16 = .ok (.invokevirtual 84, 3) := by decide +kernel
theorem dX1_readBank_19 : decode cX1_readBank 19 = .ok (.ireturn, 1) := by decide +kernel
theorem dX1_readValue_0 : decode cX1_readValue 0 = .ok (.aload_n 0, 1) := by decide +kernel
theorem dX1_readValue_1 : decode cX1_readValue 1 = .ok (.aload_n 0, 1) := by decide +kernel
theorem dX1_readValue_2 : decode cX1_readValue 2 = .ok (.getfield 18, 3) := by decide +kernel
theorem dX1_readValue_5 : decode cX1_readValue 5 = .ok (.iconst 1, 1) := by decide +kernel
theorem dX1_readValue_6 : decode cX1_readValue 6 = .ok (.if_icmp .ne 9, 3) := by decide +kernel
theorem dX1_readValue_9 : decode cX1_readValue 9 = .ok (.sipush 255, 3) := by decide +kernel
theorem dX1_readValue_12 : decode cX1_readValue 12 = .ok (.goto 5, 3) := by decide +kernel
theorem dX1_readValue_15 : decode cX1_readValue 15 = .ok (.bipush 100, 2) := by decide +kernel
theorem dX1_readValue_17 : decode cX1_readValue 17 = .ok (.iconst 5, 1) := by decide +kernel
theorem dX1_readValue_18 : decode cX1_readValue 18 = .ok (.invokevirtual 84, 3) := by decide +kernel
theorem dX1_readValue_21 : decode cX1_readValue 21 = .ok (.istore_n 1, 1) := by decide +kernel
theorem dX1_readValue_22 : decode cX1_readValue 22 = .ok (.iload_n 1, 1) := by decide +kernel
theorem dX1_readValue_23 : decode cX1_readValue 23 = .ok (.ifCond .ne 43, 3) := by decide +kernel
theorem dX1_readValue_26 : decode cX1_readValue 26 = .ok (.aload_n 0, 1) := by decide +kernel
theorem dX1_readValue_27 : decode cX1_readValue 27 = .ok (.getfield 31, 3) := by decide +kernel
theorem dX1_readValue_30 : decode cX1_readValue 30 = .ok (.aload_n 0, 1) := by decide +kernel
theorem dX1_readValue_31 : decode cX1_readValue 31 = .ok (.getfield 24, 3) := by decide +kernel
theorem dX1_readValue_34 : decode cX1_readValue 34 = .ok (.aload_n 0, 1) := by decide +kernel
theorem dX1_readValue_35 : decode cX1_readValue 35 = .ok (.getfield 18, 3) := by decide +kernel
theorem dX1_readValue_38 : decode cX1_readValue 38 = .ok (.aload_n 0, 1) := by decide +kernel
theorem dX1_readValue_39 : decode cX1_readValue 39 = .ok (.getfield 15, 3) := by decide +kernel
theorem dX1_readValue_42 : decode cX1_readValue 42 = .ok (.aload_n 0, 1) := by decide +kernel
theorem dX1_readValue_43 : decode cX1_readValue 43 = .ok (.getfield 21, 3) := by decide +kernel
theorem dX1_readValue_46 : decode cX1_readValue 46 = .ok (.aload_n 0, 1) := by decide +kernel
theorem dX1_readValue_47 : decode cX1_readValue 47 = .ok (.getfield 27, 3) := by decide +kernel
theorem dX1_readValue_50 : decode cX1_readValue 50 = .ok (.getfield 81, 3) := by decide +kernel
theorem dX1_readValue_53 : decode cX1_readValue 53 = .ok (.invokevirtual 101, 3) := by decide +kernel
theorem dX1_readValue_56 : decode cX1_readValue 56 = .ok (.aload_n 0, 1) := by decide +kernel
theorem dX1_readValue_57 : decode cX1_readValue 57 = .ok (.dup, 1) := by decide +kernel
theorem dX1_readValue_58 : decode cX1_readValue 58 = .ok (.getfield 24, 3) := by decide +kernel
theorem dX1_readValue_61 : decode cX1_readValue 61 = .ok (.iconst 1, 1) := by decide +kernel
theorem dX1_readValue_62 : decode cX1_readValue 62 = .ok (.iadd, 1) := by decide +kernel
theorem dX1_readValue_63 : decode cX1_readValue 63 = .ok (.putfield 24, 3) := by decide +kernel
theorem dX1_readValue_66 : decode cX1_readValue 66 = .ok (.iload_n 1, 1) := by decide +kernel
theorem dX1_readValue_67 : decode cX1_readValue 67 = .ok (.ireturn, 1) := by decide +kernel
theorem dX1_readNumber_0 : decode cX1_readNumber 0 = .ok (.aload_n 0, 1) := by decide +kernel
theorem dX1_readNumber_1 : decode cX1_readNumber 1 = .ok (.getfield 27, 3) := by decide +kernel
theorem dX1_readNumber_4 : decode cX1_readNumber 4 = .ok (.getfield 43, 3) := by decide +kernel
theorem dX1_readNumber_7 : decode cX1_readNumber 7 = .ok (.iconst 2, 1) := by decide +kernel
theorem dX1_readNumber_8 : decode cX1_readNumber 8 = .ok (.if_icmp .eq 5, 3) := by decide +kernel
theorem dX1_readNumber_11 : decode cX1_readNumber 11 = .ok (.iconst 1, 1) := by decide +kernel
theorem dX1_readNumber_12 : decode cX1_readNumber 12 = .ok (.ireturn, 1) := by decide +kernel
theorem dX1_readNumber_13 : decode cX1_readNumber 13 = .ok (.aload_n 0, 1) := by decide +kernel
theorem dX1_readNumber_14 : decode cX1_readNumber 14 = .ok (.getfield 27, 3) := by decide +kernel
theorem dX1_readNumber_17 : decode cX1_readNumber 17 = .ok (.getfield 81, 3) := by decide +kernel
theorem dX1_readNumber_20 : decode cX1_readNumber 20 = .ok (.iload_n 1, 1) := by decide +kernel
theorem dX1_readNumber_21 : decode cX1_readNumber 21 = .ok (.if_icmp .gt 11, 3) := by decide +kernel
theorem dX1_readNumber_24 : decode cX1_readNumber 24 = .ok (.aload_n 0, 1) := by decide +kernel
theorem dX1_readNumber_25 : decode cX1_readNumber 25 = .ok (.iload_n 2, 1) := by decide +kernel
theorem dX1_readNumber_26 : decode cX1_readNumber 26 = .ok (.invokevirtual 72, 3) := by decide +kernel
theorem dX1_readNumber_29 : decode cX1_readNumber 29 = .ok (.goto 4, 3) := by decide +kernel
theorem dX1_readNumber_32 : decode cX1_readNumber 32 = .ok (.iconst 2, 1) := by decide +kernel
theorem dX1_readNumber_33 : decode cX1_readNumber 33 = .ok (.ireturn, 1) := by decide +kernel
theorem dX2_init_0 : decode cX2_init 0 = .ok (.aload_n 0, 1) := by decide +kernel
theorem dX2_init_1 : decode cX2_init 1 = .ok (.invokespecial 3, 3) := by decide +kernel
theorem dX2_init_4 : decode cX2_init 4 = .ok (.aload_n 0, 1) := by decide +kernel
theorem dX2_init_5 : decode cX2_init 5 = .ok (.bipush 40, 2) := by decide +kernel
theorem dX2_init_7 : decode cX2_init 7 = .ok (.newarray .int, 2) := by decide +kernel
theorem dX2_init_9 : decode cX2_init 9 = .ok (.putfield 11, 3) := by decide +kernel
theorem dX2_init_12 : decode cX2_init 12 = .ok (.aload_n 0, 1) := by decide +kernel
theorem dX2_init_13 : decode cX2_init 13 = .ok (.bipush 40, 2) := by decide +kernel
theorem dX2_init_15 : decode cX2_init 15 = .ok (.newarray .int, 2) := by decide +kernel
theorem dX2_init_17 : decode cX2_init 17 = .ok (.putfield 15, 3) := by decide +kernel
theorem dX2_init_20 : decode cX2_init 20 = .ok (.aload_n 0, 1) := by decide +kernel
theorem dX2_init_21 : decode cX2_init 21 = .ok (.bipush 40, 2) := by decide +kernel
theorem dX2_init_23 : decode cX2_init 23 = .ok (.newarray .int, 2) := by decide +kernel
theorem dX2_init_25 : decode cX2_init 25 = .ok (.putfield 18, 3) := by decide +kernel
theorem dX2_init_28 : decode cX2_init 28 = .ok (.aload_n 0, 1) := by decide +kernel
theorem dX2_init_29 : decode cX2_init 29 = .ok (.bipush 40, 2) := by decide +kernel
theorem dX2_init_31 : decode cX2_init 31 = .ok (.newarray .int, 2) := by decide +kernel
theorem dX2_init_33 : decode cX2_init 33 = .ok (.putfield 21, 3) := by decide +kernel
theorem dX2_init_36 : decode cX2_init 36 = .ok (.aload_n 0, 1) := by decide +kernel
theorem dX2_init_37 : decode cX2_init 37 = .ok (.iconst 0, 1) := by decide +kernel
theorem dX2_init_38 : decode cX2_init 38 = .ok (.putfield 24, 3) := by decide +kernel
theorem dX2_init_41 : decode cX2_init 41 = .ok (.return_, 1) := by decide +kernel
theorem dX2_hasRoomBehind_0 : decode cX2_hasRoomBehind 0 = .ok (.aload_n 0, 1) := by decide +kernel
theorem dX2_hasRoomBehind_1 : decode cX2_hasRoomBehind 1 = .ok (.getfield 24, 3) := by decide +kernel
theorem dX2_hasRoomBehind_4 : decode cX2_hasRoomBehind 4 = .ok (.iload_n 1, 1) := by decide +kernel
theorem dX2_hasRoomBehind_5 : decode cX2_hasRoomBehind 5 = .ok (.iadd, 1) := by decide +kernel
theorem dX2_hasRoomBehind_6 : decode cX2_hasRoomBehind 6 = .ok (.bipush 40, 2) := by decide +kernel
theorem dX2_hasRoomBehind_8 : decode cX2_hasRoomBehind 8 = .ok (.if_icmp .ge 7, 3) := by decide +kernel
theorem dX2_hasRoomBehind_11 : decode cX2_hasRoomBehind 11 = .ok (.iconst 1, 1) := by decide +kernel
theorem dX2_hasRoomBehind_12 : decode cX2_hasRoomBehind 12 = .ok (.goto 4, 3) := by decide +kernel
theorem dX2_hasRoomBehind_15 : decode cX2_hasRoomBehind 15 = .ok (.iconst 0, 1) := by decide +kernel
theorem dX2_hasRoomBehind_16 : decode cX2_hasRoomBehind 16 = .ok (.ireturn, 1) := by decide +kernel
theorem dX2_write_0 : decode cX2_write 0 = .ok (.aload_n 0, 1) := by decide +kernel
theorem dX2_write_1 : decode cX2_write 1 = .ok (.getfield 24, 3) := by decide +kernel
theorem dX2_write_4 : decode cX2_write 4 = .ok (.iload_n 1, 1) := by decide +kernel
theorem dX2_write_5 : decode cX2_write 5 = .ok (.iadd, 1) := by decide +kernel
theorem dX2_write_6 : decode cX2_write 6 = .ok (.istore 6, 2) := by decide +kernel
theorem dX2_write_8 : decode cX2_write 8 = .ok (.iload 6, 2) := by decide +kernel
theorem dX2_write_10 : decode cX2_write 10 = .ok (.ifCond .lt 44, 3) := by decide +kernel
theorem dX2_write_13 : decode cX2_write 13 = .ok (.iload 6, 2) := by decide +kernel
theorem dX2_write_15 : decode cX2_write 15 = .ok (.bipush 40, 2) := by decide +kernel
theorem dX2_write_17 : decode cX2_write 17 = .ok (.if_icmp .ge 37, 3) := by decide +kernel
theorem dX2_write_20 : decode cX2_write 20 = .ok (.aload_n 0, 1) := by decide +kernel
theorem dX2_write_21 : decode cX2_write 21 = .ok (.getfield 11, 3) := by decide +kernel
theorem dX2_write_24 : decode cX2_write 24 = .ok (.iload 6, 2) := by decide +kernel
theorem dX2_write_26 : decode cX2_write 26 = .ok (.iload_n 2, 1) := by decide +kernel
theorem dX2_write_27 : decode cX2_write 27 = .ok (.iastore, 1) := by decide +kernel
theorem dX2_write_28 : decode cX2_write 28 = .ok (.aload_n 0, 1) := by decide +kernel
theorem dX2_write_29 : decode cX2_write 29 = .ok (.getfield 15, 3) := by decide +kernel
theorem dX2_write_32 : decode cX2_write 32 = .ok (.iload 6, 2) := by decide +kernel
theorem dX2_write_34 : decode cX2_write 34 = .ok (.iload_n 3, 1) := by decide +kernel
theorem dX2_write_35 : decode cX2_write 35 = .ok (.iastore, 1) := by decide +kernel
theorem dX2_write_36 : decode cX2_write 36 = .ok (.aload_n 0, 1) := by decide +kernel
theorem dX2_write_37 : decode cX2_write 37 = .ok (.getfield 18, 3) := by decide +kernel
theorem dX2_write_40 : decode cX2_write 40 = .ok (.iload 6, 2) := by decide +kernel
theorem dX2_write_42 : decode cX2_write 42 = .ok (.iload 4, 2) := by decide +kernel
theorem dX2_write_44 : decode cX2_write 44 = .ok (.iastore, 1) := by decide +kernel
theorem dX2_write_45 : decode cX2_write 45 = .ok (.aload_n 0, 1) := by decide +kernel
theorem dX2_write_46 : decode cX2_write 46 = .ok (.getfield 21, 3) := by decide +kernel
theorem dX2_write_49 : decode cX2_write 49 = .ok (.iload 6, 2) := by decide +kernel
theorem dX2_write_51 : decode cX2_write 51 = .ok (.iload 5, 2) := by decide +kernel
theorem dX2_write_53 : decode cX2_write 53 = .ok (.iastore, 1) := by decide +kernel
theorem dX2_write_54 : decode cX2_write 54 = .ok (.return_, 1) := by decide +kernel
theorem dX2_keep_0 : decode cX2_keep 0 = .ok (.aload_n 0, 1) := by decide +kernel
theorem dX2_keep_1 : decode cX2_keep 1 = .ok (.aload_n 0, 1) := by decide +kernel
theorem dX2_keep_2 : decode cX2_keep 2 = .ok (.getfield 24, 3) := by decide +kernel
theorem dX2_keep_5 : decode cX2_keep 5 = .ok (.iload_n 1, 1) := by decide +kernel
theorem dX2_keep_6 : decode cX2_keep 6 = .ok (.iadd, 1) := by decide +kernel
theorem dX2_keep_7 : decode cX2_keep 7 = .ok (.bipush 40, 2) := by decide +kernel
theorem dX2_keep_9 : decode cX2_keep 9 = .ok (.invokestatic 28, 3) := by decide +kernel
theorem dX2_keep_12 : decode cX2_keep 12 = .ok (.putfield 24, 3) := by decide +kernel
theorem dX2_keep_15 : decode cX2_keep 15 = .ok (.return_, 1) := by decide +kernel
theorem dX2_latest_0 : decode cX2_latest 0 = .ok (.ldc 34, 2) := by decide +kernel
theorem dX2_latest_2 : decode cX2_latest 2 = .ok (.istore 4, 2) := by decide +kernel
theorem dX2_latest_4 : decode cX2_latest 4 = .ok (.iconst (-1), 1) := by decide +kernel
theorem dX2_latest_5 : decode cX2_latest 5 = .ok (.istore 5, 2) := by decide +kernel
theorem dX2_latest_7 : decode cX2_latest 7 = .ok (.iconst 0, 1) := by decide +kernel
theorem dX2_latest_8 : decode cX2_latest 8 = .ok (.istore 6, 2) := by decide +kernel
theorem dX2_latest_10 : decode cX2_latest 10 = .ok (.iload 6, 2) := by decide +kernel
theorem dX2_latest_12 : decode cX2_latest 12 = .ok (.aload_n 0, 1) := by decide +kernel
theorem dX2_latest_13 : decode cX2_latest 13 = .ok (.getfield 24, 3) := by decide +kernel
theorem dX2_latest_16 : decode cX2_latest 16 = .ok (.if_icmp .ge 51, 3) := by decide +kernel
theorem dX2_latest_19 : decode cX2_latest 19 = .ok (.aload_n 0, 1) := by decide +kernel
theorem dX2_latest_20 : decode cX2_latest 20 = .ok (.iload 6, 2) := by decide +kernel
theorem dX2_latest_22 : decode cX2_latest 22 = .ok (.iload_n 1, 1) := by decide +kernel
theorem dX2_latest_23 : decode cX2_latest 23 = .ok (.iload_n 2, 1) := by decide +kernel
theorem dX2_latest_24 : decode cX2_latest 24 = .ok (.iload_n 3, 1) := by decide +kernel
theorem dX2_latest_25 : decode cX2_latest 25 = .ok (.invokevirtual 35, 3) := by decide +kernel
theorem dX2_latest_28 : decode cX2_latest 28 = .ok (.ifCond .eq 33, 3) := by decide +kernel
theorem dX2_latest_31 : decode cX2_latest 31 = .ok (.aload_n 0, 1) := by decide +kernel
theorem dX2_latest_32 : decode cX2_latest 32 = .ok (.getfield 15, 3) := by decide +kernel
theorem dX2_latest_35 : decode cX2_latest 35 = .ok (.iload 6, 2) := by decide +kernel
theorem dX2_latest_37 : decode cX2_latest 37 = .ok (.iaload, 1) := by decide +kernel
theorem dX2_latest_38 : decode cX2_latest 38 = .ok (.iload 5, 2) := by decide +kernel
theorem dX2_latest_40 : decode cX2_latest 40 = .ok (.if_icmp .lt 21, 3) := by decide +kernel
theorem dX2_latest_43 : decode cX2_latest 43 = .ok (.aload_n 0, 1) := by decide +kernel
theorem dX2_latest_44 : decode cX2_latest 44 = .ok (.getfield 15, 3) := by decide +kernel
theorem dX2_latest_47 : decode cX2_latest 47 = .ok (.iload 6, 2) := by decide +kernel
theorem dX2_latest_49 : decode cX2_latest 49 = .ok (.iaload, 1) := by decide +kernel
theorem dX2_latest_50 : decode cX2_latest 50 = .ok (.istore 5, 2) := by decide +kernel
theorem dX2_latest_52 : decode cX2_latest 52 = .ok (.aload_n 0, 1) := by decide +kernel
theorem dX2_latest_53 : decode cX2_latest 53 = .ok (.getfield 21, 3) := by decide +kernel
theorem dX2_latest_56 : decode cX2_latest 56 = .ok (.iload 6, 2) := by decide +kernel
theorem dX2_latest_58 : decode cX2_latest 58 = .ok (.iaload, 1) := by decide +kernel
theorem dX2_latest_59 : decode cX2_latest 59 = .ok (.istore 4, 2) := by decide +kernel
theorem dX2_latest_61 : decode cX2_latest 61 = .ok (.iinc 6 1, 3) := by decide +kernel
theorem dX2_latest_64 : decode cX2_latest 64 = .ok (.goto (-54), 3) := by decide +kernel
theorem dX2_latest_67 : decode cX2_latest 67 = .ok (.iload 4, 2) := by decide +kernel
theorem dX2_latest_69 : decode cX2_latest 69 = .ok (.ireturn, 1) := by decide +kernel
theorem dX2_off_0 : decode cX2_off 0 = .ok (.aload_n 0, 1) := by decide +kernel
theorem dX2_off_1 : decode cX2_off 1 = .ok (.iconst 0, 1) := by decide +kernel
theorem dX2_off_2 : decode cX2_off 2 = .ok (.iload_n 1, 1) := by decide +kernel
theorem dX2_off_3 : decode cX2_off 3 = .ok (.iload_n 2, 1) := by decide +kernel
theorem dX2_off_4 : decode cX2_off 4 = .ok (.invokevirtual 39, 3) := by decide +kernel
theorem dX2_off_7 : decode cX2_off 7 = .ok (.istore_n 3, 1) := by decide +kernel
theorem dX2_off_8 : decode cX2_off 8 = .ok (.iload_n 3, 1) := by decide +kernel
theorem dX2_off_9 : decode cX2_off 9 = .ok (.ldc 34, 2) := by decide +kernel
theorem dX2_off_11 : decode cX2_off 11 = .ok (.if_icmp .ne 7, 3) := by decide +kernel
theorem dX2_off_14 : decode cX2_off 14 = .ok (.iconst 0, 1) := by decide +kernel
theorem dX2_off_15 : decode cX2_off 15 = .ok (.goto 4, 3) := by decide +kernel
theorem dX2_off_18 : decode cX2_off 18 = .ok (.iload_n 3, 1) := by decide +kernel
theorem dX2_off_19 : decode cX2_off 19 = .ok (.ireturn, 1) := by decide +kernel
theorem dX2_falsePlates_0 : decode cX2_falsePlates 0 = .ok (.iconst 0, 1) := by decide +kernel
theorem dX2_falsePlates_1 : decode cX2_falsePlates 1 = .ok (.istore_n 3, 1) := by decide +kernel
theorem dX2_falsePlates_2 : decode cX2_falsePlates 2 = .ok (.iconst 0, 1) := by decide +kernel
theorem dX2_falsePlates_3 : decode cX2_falsePlates 3 = .ok (.istore 4, 2) := by decide +kernel
theorem dX2_falsePlates_5 : decode cX2_falsePlates 5 = .ok (.iload 4, 2) := by decide +kernel
theorem dX2_falsePlates_7 : decode cX2_falsePlates 7 = .ok (.aload_n 0, 1) := by decide +kernel
theorem dX2_falsePlates_8 : decode cX2_falsePlates 8 = .ok (.getfield 24, 3) := by decide +kernel
theorem dX2_falsePlates_11 : decode cX2_falsePlates 11 = .ok (.if_icmp .ge 24, 3) := by decide +kernel
theorem dX2_falsePlates_14 : decode cX2_falsePlates 14 = .ok (.aload_n 0, 1) := by decide +kernel
theorem dX2_falsePlates_15 : decode cX2_falsePlates 15 = .ok (.iload 4, 2) := by decide +kernel
theorem dX2_falsePlates_17 : decode cX2_falsePlates 17 = .ok (.iconst 1, 1) := by decide +kernel
theorem dX2_falsePlates_18 : decode cX2_falsePlates 18 = .ok (.iload_n 1, 1) := by decide +kernel
theorem dX2_falsePlates_19 : decode cX2_falsePlates 19 = .ok (.iload_n 2, 1) := by decide +kernel
theorem dX2_falsePlates_20 : decode cX2_falsePlates 20 = .ok (.invokevirtual 35, 3) := by decide +kernel
theorem dX2_falsePlates_23 : decode cX2_falsePlates 23 = .ok (.ifCond .eq 6, 3) := by decide +kernel
theorem dX2_falsePlates_26 : decode cX2_falsePlates 26 = .ok (.iinc 3 1, 3) := by decide +kernel
theorem dX2_falsePlates_29 : decode cX2_falsePlates 29 = .ok (.iinc 4 1, 3) := by decide +kernel
theorem dX2_falsePlates_32 : decode cX2_falsePlates 32 = .ok (.goto (-27), 3) := by decide +kernel
theorem dX2_falsePlates_35 : decode cX2_falsePlates 35 = .ok (.iload_n 3, 1) := by decide +kernel
theorem dX2_falsePlates_36 : decode cX2_falsePlates 36 = .ok (.ireturn, 1) := by decide +kernel
theorem dX2_tellApart_0 : decode cX2_tellApart 0 = .ok (.iconst 0, 1) := by decide +kernel
theorem dX2_tellApart_1 : decode cX2_tellApart 1 = .ok (.istore_n 3, 1) := by decide +kernel
theorem dX2_tellApart_2 : decode cX2_tellApart 2 = .ok (.iconst 0, 1) := by decide +kernel
theorem dX2_tellApart_3 : decode cX2_tellApart 3 = .ok (.istore 4, 2) := by decide +kernel
theorem dX2_tellApart_5 : decode cX2_tellApart 5 = .ok (.iload 4, 2) := by decide +kernel
theorem dX2_tellApart_7 : decode cX2_tellApart 7 = .ok (.aload_n 0, 1) := by decide +kernel
theorem dX2_tellApart_8 : decode cX2_tellApart 8 = .ok (.getfield 24, 3) := by decide +kernel
theorem dX2_tellApart_11 : decode cX2_tellApart 11 = .ok (.if_icmp .ge 42, 3) := by decide +kernel
theorem dX2_tellApart_14 : decode cX2_tellApart 14 = .ok (.aload_n 0, 1) := by decide +kernel
theorem dX2_tellApart_15 : decode cX2_tellApart 15 = .ok (.iload 4, 2) := by decide +kernel
theorem dX2_tellApart_17 : decode cX2_tellApart 17 = .ok (.iconst 1, 1) := by decide +kernel
theorem dX2_tellApart_18 : decode cX2_tellApart 18 = .ok (.aload_n 1, 1) := by decide +kernel
theorem dX2_tellApart_19 : decode cX2_tellApart 19 = .ok (.getfield 43, 3) := by decide +kernel
theorem dX2_tellApart_22 : decode cX2_tellApart 22 = .ok (.iload_n 2, 1) := by decide +kernel
theorem dX2_tellApart_23 : decode cX2_tellApart 23 = .ok (.invokevirtual 35, 3) := by decide +kernel
theorem dX2_tellApart_26 : decode cX2_tellApart 26 = .ok (.ifCond .eq 21, 3) := by decide +kernel
theorem dX2_tellApart_29 : decode cX2_tellApart 29 = .ok (.iconst 1, 1) := by decide +kernel
theorem dX2_tellApart_30 : decode cX2_tellApart 30 = .ok (.istore_n 3, 1) := by decide +kernel
theorem dX2_tellApart_31 : decode cX2_tellApart 31 = .ok (.aload_n 1, 1) := by decide +kernel
theorem dX2_tellApart_32 : decode cX2_tellApart 32 = .ok (.aload_n 0, 1) := by decide +kernel
theorem dX2_tellApart_33 : decode cX2_tellApart 33 = .ok (.getfield 21, 3) := by decide +kernel
theorem dX2_tellApart_36 : decode cX2_tellApart 36 = .ok (.iload 4, 2) := by decide +kernel
theorem dX2_tellApart_38 : decode cX2_tellApart 38 = .ok (.iaload, 1) := by decide +kernel
theorem dX2_tellApart_39 : decode cX2_tellApart 39 = .ok (.invokevirtual 48, 3) := by decide +kernel
theorem dX2_tellApart_42 : decode cX2_tellApart 42 = .ok (.ifCond .ne 5, 3) := by decide +kernel
theorem dX2_tellApart_45 : decode cX2_tellApart 45 = .ok (.iconst 0, 1) := by decide +kernel
theorem dX2_tellApart_46 : decode cX2_tellApart 46 = .ok (.ireturn, 1) := by decide +kernel
theorem dX2_tellApart_47 : decode cX2_tellApart 47 = .ok (.iinc 4 1, 3) := by decide +kernel
theorem dX2_tellApart_50 : decode cX2_tellApart 50 = .ok (.goto (-45), 3) := by decide +kernel
theorem dX2_tellApart_53 : decode cX2_tellApart 53 = .ok (.iload_n 3, 1) := by decide +kernel
theorem dX2_tellApart_54 : decode cX2_tellApart 54 = .ok (.ireturn, 1) := by decide +kernel
theorem dX2_isKnown_0 : decode cX2_isKnown 0 = .ok (.aload_n 0, 1) := by decide +kernel
theorem dX2_isKnown_1 : decode cX2_isKnown 1 = .ok (.getfield 11, 3) := by decide +kernel
theorem dX2_isKnown_4 : decode cX2_isKnown 4 = .ok (.iload_n 1, 1) := by decide +kernel
theorem dX2_isKnown_5 : decode cX2_isKnown 5 = .ok (.iaload, 1) := by decide +kernel
theorem dX2_isKnown_6 : decode cX2_isKnown 6 = .ok (.iload_n 2, 1) := by decide +kernel
theorem dX2_isKnown_7 : decode cX2_isKnown 7 = .ok (.if_icmp .ne 28, 3) := by decide +kernel
theorem dX2_isKnown_10 : decode cX2_isKnown 10 = .ok (.aload_n 0, 1) := by decide +kernel
theorem dX2_isKnown_11 : decode cX2_isKnown 11 = .ok (.getfield 18, 3) := by decide +kernel
theorem dX2_isKnown_14 : decode cX2_isKnown 14 = .ok (.iload_n 1, 1) := by decide +kernel
theorem dX2_isKnown_15 : decode cX2_isKnown 15 = .ok (.iaload, 1) := by decide +kernel
theorem dX2_isKnown_16 : decode cX2_isKnown 16 = .ok (.iload_n 3, 1) := by decide +kernel
theorem dX2_isKnown_17 : decode cX2_isKnown 17 = .ok (.if_icmp .ne 18, 3) := by decide +kernel
theorem dX2_isKnown_20 : decode cX2_isKnown 20 = .ok (.aload_n 0, 1) := by decide +kernel
theorem dX2_isKnown_21 : decode cX2_isKnown 21 = .ok (.getfield 15, 3) := by decide +kernel
theorem dX2_isKnown_24 : decode cX2_isKnown 24 = .ok (.iload_n 1, 1) := by decide +kernel
theorem dX2_isKnown_25 : decode cX2_isKnown 25 = .ok (.iaload, 1) := by decide +kernel
theorem dX2_isKnown_26 : decode cX2_isKnown 26 = .ok (.iload 4, 2) := by decide +kernel
theorem dX2_isKnown_28 : decode cX2_isKnown 28 = .ok (.if_icmp .gt 7, 3) := by decide +kernel
theorem dX2_isKnown_31 : decode cX2_isKnown 31 = .ok (.iconst 1, 1) := by decide +kernel
theorem dX2_isKnown_32 : decode cX2_isKnown 32 = .ok (.goto 4, 3) := by decide +kernel
theorem dX2_isKnown_35 : decode cX2_isKnown 35 = .ok (.iconst 0, 1) := by decide +kernel
theorem dX2_isKnown_36 : decode cX2_isKnown 36 = .ok (.ireturn, 1) := by decide +kernel
theorem dX3_init_0 : decode cX3_init 0 = .ok (.aload_n 0, 1) := by decide +kernel
theorem dX3_init_1 : decode cX3_init 1 = .ok (.invokespecial 3, 3) := by decide +kernel
theorem dX3_init_4 : decode cX3_init 4 = .ok (.aload_n 0, 1) := by decide +kernel
theorem dX3_init_5 : decode cX3_init 5 = .ok (.bipush 48, 2) := by decide +kernel
theorem dX3_init_7 : decode cX3_init 7 = .ok (.newarray .int, 2) := by decide +kernel
theorem dX3_init_9 : decode cX3_init 9 = .ok (.putfield 9, 3) := by decide +kernel
theorem dX3_init_12 : decode cX3_init 12 = .ok (.aload_n 0, 1) := by decide +kernel
theorem dX3_init_13 : decode cX3_init 13 = .ok (.sipush 1536, 3) := by decide +kernel
theorem dX3_init_16 : decode cX3_init 16 = .ok (.newarray .int, 2) := by decide +kernel
theorem dX3_init_18 : decode cX3_init 18 = .ok (.putfield 15, 3) := by decide +kernel
theorem dX3_init_21 : decode cX3_init 21 = .ok (.aload_n 0, 1) := by decide +kernel
theorem dX3_init_22 : decode cX3_init 22 = .ok (.sipush 1536, 3) := by decide +kernel
theorem dX3_init_25 : decode cX3_init 25 = .ok (.newarray .int, 2) := by decide +kernel
theorem dX3_init_27 : decode cX3_init 27 = .ok (.putfield 18, 3) := by decide +kernel
theorem dX3_init_30 : decode cX3_init 30 = .ok (.aload_n 0, 1) := by decide +kernel
theorem dX3_init_31 : decode cX3_init 31 = .ok (.iconst 0, 1) := by decide +kernel
theorem dX3_init_32 : decode cX3_init 32 = .ok (.putfield 21, 3) := by decide +kernel
theorem dX3_init_35 : decode cX3_init 35 = .ok (.aload_n 0, 1) := by decide +kernel
theorem dX3_init_36 : decode cX3_init 36 = .ok (.iconst 1, 1) := by decide +kernel
theorem dX3_init_37 : decode cX3_init 37 = .ok (.putfield 25, 3) := by decide +kernel
theorem dX3_init_40 : decode cX3_init 40 = .ok (.aload_n 0, 1) := by decide +kernel
theorem dX3_init_41 : decode cX3_init 41 = .ok (.iconst 0, 1) := by decide +kernel
theorem dX3_init_42 : decode cX3_init 42 = .ok (.putfield 28, 3) := by decide +kernel
theorem dX3_init_45 : decode cX3_init 45 = .ok (.aload_n 0, 1) := by decide +kernel
theorem dX3_init_46 : decode cX3_init 46 = .ok (.iconst 0, 1) := by decide +kernel
theorem dX3_init_47 : decode cX3_init 47 = .ok (.putfield 31, 3) := by decide +kernel
theorem dX3_init_50 : decode cX3_init 50 = .ok (.return_, 1) := by decide +kernel
theorem dX3_tellGain_0 : decode cX3_tellGain 0 = .ok (.aload_n 0, 1) := by decide +kernel
theorem dX3_tellGain_1 : decode cX3_tellGain 1 = .ok (.getfield 9, 3) := by decide +kernel
theorem dX3_tellGain_4 : decode cX3_tellGain 4 = .ok (.iload_n 1, 1) := by decide +kernel
theorem dX3_tellGain_5 : decode cX3_tellGain 5 = .ok (.bipush 8, 2) := by decide +kernel
theorem dX3_tellGain_7 : decode cX3_tellGain 7 = .ok (.imul, 1) := by decide +kernel
theorem dX3_tellGain_8 : decode cX3_tellGain 8 = .ok (.iload_n 2, 1) := by decide +kernel
theorem dX3_tellGain_9 : decode cX3_tellGain 9 = .ok (.iadd, 1) := by decide +kernel
theorem dX3_tellGain_10 : decode cX3_tellGain 10 = .ok (.iload_n 3, 1) := by decide +kernel
theorem dX3_tellGain_11 : decode cX3_tellGain 11 = .ok (.iastore, 1) := by decide +kernel
theorem dX3_tellGain_12 : decode cX3_tellGain 12 = .ok (.return_, 1) := by decide +kernel
theorem dX3_plan_0 : decode cX3_plan 0 = .ok (.aload_n 0, 1) := by decide +kernel
theorem dX3_plan_1 : decode cX3_plan 1 = .ok (.iload_n 3, 1) := by decide +kernel
theorem dX3_plan_2 : decode cX3_plan 2 = .ok (.bipush 8, 2) := by decide +kernel
theorem dX3_plan_4 : decode cX3_plan 4 = .ok (.invokestatic 34, 3) := by decide +kernel
theorem dX3_plan_7 : decode cX3_plan 7 = .ok (.putfield 21, 3) := by decide +kernel
theorem dX3_plan_10 : decode cX3_plan 10 = .ok (.aload_n 0, 1) := by decide +kernel
theorem dX3_plan_11 : decode cX3_plan 11 = .ok (.iconst 1, 1) := by decide +kernel
theorem dX3_plan_12 : decode cX3_plan 12 = .ok (.aload_n 0, 1) := by decide +kernel
theorem dX3_plan_13 : decode cX3_plan 13 = .ok (.getfield 21, 3) := by decide +kernel
theorem dX3_plan_16 : decode cX3_plan 16 = .ok (.ishl, 1) := by decide +kernel
theorem dX3_plan_17 : decode cX3_plan 17 = .ok (.putfield 25, 3) := by decide +kernel
theorem dX3_plan_20 : decode cX3_plan 20 = .ok (.aload_n 0, 1) := by decide +kernel
theorem dX3_plan_21 : decode cX3_plan 21 = .ok (.invokevirtual 40, 3) := by decide +kernel
theorem dX3_plan_24 : decode cX3_plan 24 = .ok (.iload 4, 2) := by decide +kernel
theorem dX3_plan_26 : decode cX3_plan 26 = .ok (.iconst 1, 1) := by decide +kernel
theorem dX3_plan_27 : decode cX3_plan 27 = .ok (.isub, 1) := by decide +kernel
theorem dX3_plan_28 : decode cX3_plan 28 = .ok (.istore 5, 2) := by decide +kernel
theorem dX3_plan_30 : decode cX3_plan 30 = .ok (.iload 5, 2) := by decide +kernel
theorem dX3_plan_32 : decode cX3_plan 32 = .ok (.ifCond .le 30, 3) := by decide +kernel
theorem dX3_plan_35 : decode cX3_plan 35 = .ok (.aload_n 0, 1) := by decide +kernel
theorem dX3_plan_36 : decode cX3_plan 36 = .ok (.iload 5, 2) := by decide +kernel
theorem dX3_plan_38 : decode cX3_plan 38 = .ok (.invokevirtual 43, 3) := by decide +kernel
theorem dX3_plan_41 : decode cX3_plan 41 = .ok (.iload 5, 2) := by decide +kernel
theorem dX3_plan_43 : decode cX3_plan 43 = .ok (.iconst 1, 1) := by decide +kernel
theorem dX3_plan_44 : decode cX3_plan 44 = .ok (.if_icmp .le 12, 3) := by decide +kernel
theorem dX3_plan_47 : decode cX3_plan 47 = .ok (.aload_n 0, 1) := by decide +kernel
theorem dX3_plan_48 : decode cX3_plan 48 = .ok (.aload_n 1, 1) := by decide +kernel
theorem dX3_plan_49 : decode cX3_plan 49 = .ok (.iload 5, 2) := by decide +kernel
theorem dX3_plan_51 : decode cX3_plan 51 = .ok (.iconst 1, 1) := by decide +kernel
theorem dX3_plan_52 : decode cX3_plan 52 = .ok (.isub, 1) := by decide +kernel
theorem dX3_plan_53 : decode cX3_plan 53 = .ok (.invokevirtual 47, 3) := by decide +kernel
theorem dX3_plan_56 : decode cX3_plan 56 = .ok (.iinc 5 (-1), 3) := by decide +kernel
theorem dX3_plan_59 : decode cX3_plan 59 = .ok (.goto (-29), 3) := by decide +kernel
theorem dX3_plan_62 : decode cX3_plan 62 = .ok (.aload_n 0, 1) := by decide +kernel
theorem dX3_plan_63 : decode cX3_plan 63 = .ok (.aload_n 1, 1) := by decide +kernel
theorem dX3_plan_64 : decode cX3_plan 64 = .ok (.iload_n 2, 1) := by decide +kernel
theorem dX3_plan_65 : decode cX3_plan 65 = .ok (.iload 4, 2) := by decide +kernel
theorem dX3_plan_67 : decode cX3_plan 67 = .ok (.iconst 1, 1) := by decide +kernel
theorem dX3_plan_68 : decode cX3_plan 68 = .ok (.if_icmp .le 7, 3) := by decide +kernel
theorem dX3_plan_71 : decode cX3_plan 71 = .ok (.iconst 1, 1) := by decide +kernel
theorem dX3_plan_72 : decode cX3_plan 72 = .ok (.goto 4, 3) := by decide +kernel
theorem dX3_plan_75 : decode cX3_plan 75 = .ok (.iconst 0, 1) := by decide +kernel
theorem dX3_plan_76 : decode cX3_plan 76 = .ok (.invokevirtual 51, 3) := by decide +kernel
theorem dX3_plan_79 : decode cX3_plan 79 = .ok (.return_, 1) := by decide +kernel
theorem dX3_endTheWay_0 : decode cX3_endTheWay 0 = .ok (.iconst 0, 1) := by decide +kernel
theorem dX3_endTheWay_1 : decode cX3_endTheWay 1 = .ok (.istore_n 1, 1) := by decide +kernel
theorem dX3_endTheWay_2 : decode cX3_endTheWay 2 = .ok (.iload_n 1, 1) := by decide +kernel
theorem dX3_endTheWay_3 : decode cX3_endTheWay 3 = .ok (.bipush 6, 2) := by decide +kernel
theorem dX3_endTheWay_5 : decode cX3_endTheWay 5 = .ok (.if_icmp .ge 38, 3) := by decide +kernel
theorem dX3_endTheWay_8 : decode cX3_endTheWay 8 = .ok (.iconst 0, 1) := by decide +kernel
theorem dX3_endTheWay_9 : decode cX3_endTheWay 9 = .ok (.istore_n 2, 1) := by decide +kernel
theorem dX3_endTheWay_10 : decode cX3_endTheWay 10 = .ok (.iload_n 2, 1) := by decide +kernel
theorem dX3_endTheWay_11 : decode cX3_endTheWay 11 = .ok (.aload_n 0, 1) := by decide +kernel
theorem dX3_endTheWay_12 : decode cX3_endTheWay 12 = .ok (.getfield 25, 3) := by decide +kernel
theorem dX3_endTheWay_15 : decode cX3_endTheWay 15 = .ok (.if_icmp .ge 22, 3) := by decide +kernel
theorem dX3_endTheWay_18 : decode cX3_endTheWay 18 = .ok (.aload_n 0, 1) := by decide +kernel
theorem dX3_endTheWay_19 : decode cX3_endTheWay 19 = .ok (.getfield 18, 3) := by decide +kernel
theorem dX3_endTheWay_22 : decode cX3_endTheWay 22 = .ok (.iload_n 1, 1) := by decide +kernel
theorem dX3_endTheWay_23 : decode cX3_endTheWay 23 = .ok (.sipush 256, 3) := by decide +kernel
theorem dX3_endTheWay_26 : decode cX3_endTheWay 26 = .ok (.imul, 1) := by decide +kernel
theorem dX3_endTheWay_27 : decode cX3_endTheWay 27 = .ok (.iload_n 2, 1) := by decide +kernel
theorem dX3_endTheWay_28 : decode cX3_endTheWay 28 = .ok (.iadd, 1) := by decide +kernel
theorem dX3_endTheWay_29 : decode cX3_endTheWay 29 = .ok (.iconst 0, 1) := by decide +kernel
theorem dX3_endTheWay_30 : decode cX3_endTheWay 30 = .ok (.iastore, 1) := by decide +kernel
theorem dX3_endTheWay_31 : decode cX3_endTheWay 31 = .ok (.iinc 2 1, 3) := by decide +kernel
theorem dX3_endTheWay_34 : decode cX3_endTheWay 34 = .ok (.goto (-24), 3) := by decide +kernel
theorem dX3_endTheWay_37 : decode cX3_endTheWay 37 = .ok (.iinc 1 1, 3) := by decide +kernel
theorem dX3_endTheWay_40 : decode cX3_endTheWay 40 = .ok (.goto (-38), 3) := by decide +kernel
theorem dX3_endTheWay_43 : decode cX3_endTheWay 43 = .ok (.return_, 1) := by decide +kernel
theorem dX3_planMornings_0 : decode cX3_planMornings 0 = .ok (.iconst 0, 1) := by decide +kernel
theorem dX3_planMornings_1 : decode cX3_planMornings 1 = .ok (.istore_n 2, 1) := by decide +kernel
theorem dX3_planMornings_2 : decode cX3_planMornings 2 = .ok (.iload_n 2, 1) := by decide +kernel
theorem dX3_planMornings_3 : decode cX3_planMornings 3 = .ok (.aload_n 0, 1) := by decide +kernel
theorem dX3_planMornings_4 : decode cX3_planMornings 4 = .ok (.getfield 25, 3) := by decide +kernel
theorem dX3_planMornings_7 : decode cX3_planMornings 7 = .ok (.if_icmp .ge 49, 3) := by decide +kernel
theorem dX3_planMornings_10 : decode cX3_planMornings 10 = .ok (.iload_n 2, 1) := by decide +kernel
theorem dX3_planMornings_11 : decode cX3_planMornings 11 = .ok (.invokestatic 55, 3) := by decide +kernel
theorem dX3_planMornings_14 : decode cX3_planMornings 14 = .ok (.iload_n 1, 1) := by decide +kernel
theorem dX3_planMornings_15 : decode cX3_planMornings 15 = .ok (.if_icmp .gt 35, 3) := by decide +kernel
theorem dX3_planMornings_18 : decode cX3_planMornings 18 = .ok (.iconst 0, 1) := by decide +kernel
theorem dX3_planMornings_19 : decode cX3_planMornings 19 = .ok (.istore_n 3, 1) := by decide +kernel
theorem dX3_planMornings_20 : decode cX3_planMornings 20 = .ok (.iload_n 3, 1) := by decide +kernel
theorem dX3_planMornings_21 : decode cX3_planMornings 21 = .ok (.bipush 6, 2) := by decide +kernel
theorem dX3_planMornings_23 : decode cX3_planMornings 23 = .ok (.if_icmp .ge 27, 3) := by decide +kernel
theorem dX3_planMornings_26 : decode cX3_planMornings 26 = .ok (.aload_n 0, 1) := by decide +kernel
theorem dX3_planMornings_27 : decode cX3_planMornings 27 = .ok (.getfield 15, 3) := by decide +kernel
theorem dX3_planMornings_30 : decode cX3_planMornings 30 = .ok (.iload_n 3, 1) := by decide +kernel
theorem dX3_planMornings_31 : decode cX3_planMornings 31 = .ok (.sipush 256, 3) := by decide +kernel
theorem dX3_planMornings_34 : decode cX3_planMornings 34 = .ok (.imul, 1) := by decide +kernel
theorem dX3_planMornings_35 : decode cX3_planMornings 35 = .ok (.iload_n 2, 1) := by decide +kernel
theorem dX3_planMornings_36 : decode cX3_planMornings 36 = .ok (.iadd, 1) := by decide +kernel
theorem dX3_planMornings_37 : decode cX3_planMornings 37 = .ok (.aload_n 0, 1) := by decide +kernel
theorem dX3_planMornings_38 : decode cX3_planMornings 38 = .ok (.iload_n 3, 1) := by decide +kernel
theorem dX3_planMornings_39 : decode cX3_planMornings 39 = .ok (.iload_n 2, 1) := by decide +kernel
theorem dX3_planMornings_40 : decode cX3_planMornings 40 = .ok (.invokevirtual 61, 3) := by decide +kernel
theorem dX3_planMornings_43 : decode cX3_planMornings 43 = .ok (.iastore, 1) := by decide +kernel
theorem dX3_planMornings_44 : decode cX3_planMornings 44 = .ok (.iinc 3 1, 3) := by decide +kernel
theorem dX3_planMornings_47 : decode cX3_planMornings 47 = .ok (.goto (-27), 3) := by decide +kernel
theorem dX3_planMornings_50 : decode cX3_planMornings 50 = .ok (.iinc 2 1, 3) := by decide +kernel
theorem dX3_planMornings_53 : decode cX3_planMornings 53 = .ok (.goto (-51), 3) := by decide +kernel
theorem dX3_planMornings_56 : decode cX3_planMornings 56 = .ok (.return_, 1) := by decide +kernel
theorem dX3_bestSale_0 : decode cX3_bestSale 0 = .ok (.aload_n 0, 1) := by decide +kernel
theorem dX3_bestSale_1 : decode cX3_bestSale 1 = .ok (.getfield 18, 3) := by decide +kernel
theorem dX3_bestSale_4 : decode cX3_bestSale 4 = .ok (.iload_n 1, 1) := by decide +kernel
theorem dX3_bestSale_5 : decode cX3_bestSale 5 = .ok (.sipush 256, 3) := by decide +kernel
theorem dX3_bestSale_8 : decode cX3_bestSale 8 = .ok (.imul, 1) := by decide +kernel
theorem dX3_bestSale_9 : decode cX3_bestSale 9 = .ok (.iload_n 2, 1) := by decide +kernel
theorem dX3_bestSale_10 : decode cX3_bestSale 10 = .ok (.iadd, 1) := by decide +kernel
theorem dX3_bestSale_11 : decode cX3_bestSale 11 = .ok (.iaload, 1) := by decide +kernel
theorem dX3_bestSale_12 : decode cX3_bestSale 12 = .ok (.istore_n 3, 1) := by decide +kernel
theorem dX3_bestSale_13 : decode cX3_bestSale 13 = .ok (.iconst 0, 1) := by decide +kernel
theorem dX3_bestSale_14 : decode cX3_bestSale 14 = .ok (.istore 4, 2) := by decide +kernel
theorem dX3_bestSale_16 : decode cX3_bestSale 16 = .ok (.iload 4, 2) := by decide +kernel
theorem dX3_bestSale_18 : decode cX3_bestSale 18 = .ok (.aload_n 0, 1) := by decide +kernel
theorem dX3_bestSale_19 : decode cX3_bestSale 19 = .ok (.getfield 21, 3) := by decide +kernel
theorem dX3_bestSale_22 : decode cX3_bestSale 22 = .ok (.if_icmp .ge 58, 3) := by decide +kernel
theorem dX3_bestSale_25 : decode cX3_bestSale 25 = .ok (.iload_n 2, 1) := by decide +kernel
theorem dX3_bestSale_26 : decode cX3_bestSale 26 = .ok (.iconst 1, 1) := by decide +kernel
theorem dX3_bestSale_27 : decode cX3_bestSale 27 = .ok (.iload 4, 2) := by decide +kernel
theorem dX3_bestSale_29 : decode cX3_bestSale 29 = .ok (.ishl, 1) := by decide +kernel
theorem dX3_bestSale_30 : decode cX3_bestSale 30 = .ok (.ior, 1) := by decide +kernel
theorem dX3_bestSale_31 : decode cX3_bestSale 31 = .ok (.istore 5, 2) := by decide +kernel
theorem dX3_bestSale_33 : decode cX3_bestSale 33 = .ok (.iload 5, 2) := by decide +kernel
theorem dX3_bestSale_35 : decode cX3_bestSale 35 = .ok (.iload_n 2, 1) := by decide +kernel
theorem dX3_bestSale_36 : decode cX3_bestSale 36 = .ok (.if_icmp .eq 38, 3) := by decide +kernel
theorem dX3_bestSale_39 : decode cX3_bestSale 39 = .ok (.aload_n 0, 1) := by decide +kernel
theorem dX3_bestSale_40 : decode cX3_bestSale 40 = .ok (.getfield 9, 3) := by decide +kernel
theorem dX3_bestSale_43 : decode cX3_bestSale 43 = .ok (.iload_n 1, 1) := by decide +kernel
theorem dX3_bestSale_44 : decode cX3_bestSale 44 = .ok (.bipush 8, 2) := by decide +kernel
theorem dX3_bestSale_46 : decode cX3_bestSale 46 = .ok (.imul, 1) := by decide +kernel
theorem dX3_bestSale_47 : decode cX3_bestSale 47 = .ok (.iload 4, 2) := by decide +kernel
theorem dX3_bestSale_49 : decode cX3_bestSale 49 = .ok (.iadd, 1) := by decide +kernel
theorem dX3_bestSale_50 : decode cX3_bestSale 50 = .ok (.iaload, 1) := by decide +kernel
theorem dX3_bestSale_51 : decode cX3_bestSale 51 = .ok (.aload_n 0, 1) := by decide +kernel
theorem dX3_bestSale_52 : decode cX3_bestSale 52 = .ok (.getfield 18, 3) := by decide +kernel
theorem dX3_bestSale_55 : decode cX3_bestSale 55 = .ok (.iload_n 1, 1) := by decide +kernel
theorem dX3_bestSale_56 : decode cX3_bestSale 56 = .ok (.sipush 256, 3) := by decide +kernel
theorem dX3_bestSale_59 : decode cX3_bestSale 59 = .ok (.imul, 1) := by decide +kernel
theorem dX3_bestSale_60 : decode cX3_bestSale 60 = .ok (.iload 5, 2) := by decide +kernel
theorem dX3_bestSale_62 : decode cX3_bestSale 62 = .ok (.iadd, 1) := by decide +kernel
theorem dX3_bestSale_63 : decode cX3_bestSale 63 = .ok (.iaload, 1) := by decide +kernel
theorem dX3_bestSale_64 : decode cX3_bestSale 64 = .ok (.iadd, 1) := by decide +kernel
theorem dX3_bestSale_65 : decode cX3_bestSale 65 = .ok (.istore 6, 2) := by decide +kernel
theorem dX3_bestSale_67 : decode cX3_bestSale 67 = .ok (.iload_n 3, 1) := by decide +kernel
theorem dX3_bestSale_68 : decode cX3_bestSale 68 = .ok (.iload 6, 2) := by decide +kernel
theorem dX3_bestSale_70 : decode cX3_bestSale 70 = .ok (.invokestatic 64, 3) := by decide +kernel
theorem dX3_bestSale_73 : decode cX3_bestSale 73 = .ok (.istore_n 3, 1) := by decide +kernel
theorem dX3_bestSale_74 : decode cX3_bestSale 74 = .ok (.iinc 4 1, 3) := by decide +kernel
theorem dX3_bestSale_77 : decode cX3_bestSale 77 = .ok (.goto (-61), 3) := by decide +kernel
theorem dX3_bestSale_80 : decode cX3_bestSale 80 = .ok (.iload_n 3, 1) := by decide +kernel
theorem dX3_bestSale_81 : decode cX3_bestSale 81 = .ok (.ireturn, 1) := by decide +kernel
theorem dX3_planEvenings_0 : decode cX3_planEvenings 0 = .ok (.iconst 0, 1) := by decide +kernel
theorem dX3_planEvenings_1 : decode cX3_planEvenings 1 = .ok (.istore_n 3, 1) := by decide +kernel
theorem dX3_planEvenings_2 : decode cX3_planEvenings 2 = .ok (.iload_n 3, 1) := by decide +kernel
theorem dX3_planEvenings_3 : decode cX3_planEvenings 3 = .ok (.aload_n 0, 1) := by decide +kernel
theorem dX3_planEvenings_4 : decode cX3_planEvenings 4 = .ok (.getfield 25, 3) := by decide +kernel
theorem dX3_planEvenings_7 : decode cX3_planEvenings 7 = .ok (.if_icmp .ge 56, 3) := by decide +kernel
theorem dX3_planEvenings_10 : decode cX3_planEvenings 10 = .ok (.iload_n 3, 1) := by decide +kernel
theorem dX3_planEvenings_11 : decode cX3_planEvenings 11 = .ok (.invokestatic 55, 3) := by decide +kernel
theorem dX3_planEvenings_14 : decode cX3_planEvenings 14 = .ok (.iload_n 2, 1) := by decide +kernel
theorem dX3_planEvenings_15 : decode cX3_planEvenings 15 = .ok (.iconst 1, 1) := by decide +kernel
theorem dX3_planEvenings_16 : decode cX3_planEvenings 16 = .ok (.iadd, 1) := by decide +kernel
theorem dX3_planEvenings_17 : decode cX3_planEvenings 17 = .ok (.if_icmp .gt 40, 3) := by decide +kernel
theorem dX3_planEvenings_20 : decode cX3_planEvenings 20 = .ok (.iconst 0, 1) := by decide +kernel
theorem dX3_planEvenings_21 : decode cX3_planEvenings 21 = .ok (.istore 4, 2) := by decide +kernel
theorem dX3_planEvenings_23 : decode cX3_planEvenings 23 = .ok (.iload 4, 2) := by decide +kernel
theorem dX3_planEvenings_25 : decode cX3_planEvenings 25 = .ok (.bipush 6, 2) := by decide +kernel
theorem dX3_planEvenings_27 : decode cX3_planEvenings 27 = .ok (.if_icmp .ge 30, 3) := by decide +kernel
theorem dX3_planEvenings_30 : decode cX3_planEvenings 30 = .ok (.aload_n 0, 1) := by decide +kernel
theorem dX3_planEvenings_31 : decode cX3_planEvenings 31 = .ok (.getfield 18, 3) := by decide +kernel
theorem dX3_planEvenings_34 : decode cX3_planEvenings 34 = .ok (.iload 4, 2) := by decide +kernel
theorem dX3_planEvenings_36 : decode cX3_planEvenings 36 = .ok (.sipush 256, 3) := by decide +kernel
theorem dX3_planEvenings_39 : decode cX3_planEvenings 39 = .ok (.imul, 1) := by decide +kernel
theorem dX3_planEvenings_40 : decode cX3_planEvenings 40 = .ok (.iload_n 3, 1) := by decide +kernel
theorem dX3_planEvenings_41 : decode cX3_planEvenings 41 = .ok (.iadd, 1) := by decide +kernel
theorem dX3_planEvenings_42 : decode cX3_planEvenings 42 = .ok (.aload_n 0, 1) := by decide +kernel
theorem dX3_planEvenings_43 : decode cX3_planEvenings 43 = .ok (.aload_n 1, 1) := by decide +kernel
theorem dX3_planEvenings_44 : decode cX3_planEvenings 44 = .ok (.iload 4, 2) := by decide +kernel
theorem dX3_planEvenings_46 : decode cX3_planEvenings 46 = .ok (.iload_n 3, 1) := by decide +kernel
theorem dX3_planEvenings_47 : decode cX3_planEvenings 47 = .ok (.invokevirtual 67, 3) := by decide +kernel
theorem dX3_planEvenings_50 : decode cX3_planEvenings 50 = .ok (.iastore, 1) := by decide +kernel
theorem dX3_planEvenings_51 : decode cX3_planEvenings 51 = .ok (.iinc 4 1, 3) := by decide +kernel
theorem dX3_planEvenings_54 : decode cX3_planEvenings 54 = .ok (.goto (-31), 3) := by decide +kernel
theorem dX3_planEvenings_57 : decode cX3_planEvenings 57 = .ok (.iinc 3 1, 3) := by decide +kernel
theorem dX3_planEvenings_60 : decode cX3_planEvenings 60 = .ok (.goto (-58), 3) := by decide +kernel
theorem dX3_planEvenings_63 : decode cX3_planEvenings 63 = .ok (.return_, 1) := by decide +kernel
theorem dX3_bestMove_0 : decode cX3_bestMove 0 = .ok (.iconst 0, 1) := by decide +kernel
theorem dX3_bestMove_1 : decode cX3_bestMove 1 = .ok (.istore 4, 2) := by decide +kernel
theorem dX3_bestMove_3 : decode cX3_bestMove 3 = .ok (.iconst 0, 1) := by decide +kernel
theorem dX3_bestMove_4 : decode cX3_bestMove 4 = .ok (.istore 5, 2) := by decide +kernel
theorem dX3_bestMove_6 : decode cX3_bestMove 6 = .ok (.iload 5, 2) := by decide +kernel
theorem dX3_bestMove_8 : decode cX3_bestMove 8 = .ok (.bipush 6, 2) := by decide +kernel
theorem dX3_bestMove_10 : decode cX3_bestMove 10 = .ok (.if_icmp .ge 45, 3) := by decide +kernel
theorem dX3_bestMove_13 : decode cX3_bestMove 13 = .ok (.iload 5, 2) := by decide +kernel
theorem dX3_bestMove_15 : decode cX3_bestMove 15 = .ok (.iload_n 2, 1) := by decide +kernel
theorem dX3_bestMove_16 : decode cX3_bestMove 16 = .ok (.if_icmp .eq 13, 3) := by decide +kernel
theorem dX3_bestMove_19 : decode cX3_bestMove 19 = .ok (.aload_n 1, 1) := by decide +kernel
theorem dX3_bestMove_20 : decode cX3_bestMove 20 = .ok (.iload_n 2, 1) := by decide +kernel
theorem dX3_bestMove_21 : decode cX3_bestMove 21 = .ok (.iload 5, 2) := by decide +kernel
theorem dX3_bestMove_23 : decode cX3_bestMove 23 = .ok (.invokevirtual 71, 3) := by decide +kernel
theorem dX3_bestMove_26 : decode cX3_bestMove 26 = .ok (.ifCond .le 23, 3) := by decide +kernel
theorem dX3_bestMove_29 : decode cX3_bestMove 29 = .ok (.iload 4, 2) := by decide +kernel
theorem dX3_bestMove_31 : decode cX3_bestMove 31 = .ok (.aload_n 0, 1) := by decide +kernel
theorem dX3_bestMove_32 : decode cX3_bestMove 32 = .ok (.getfield 15, 3) := by decide +kernel
theorem dX3_bestMove_35 : decode cX3_bestMove 35 = .ok (.iload 5, 2) := by decide +kernel
theorem dX3_bestMove_37 : decode cX3_bestMove 37 = .ok (.sipush 256, 3) := by decide +kernel
theorem dX3_bestMove_40 : decode cX3_bestMove 40 = .ok (.imul, 1) := by decide +kernel
theorem dX3_bestMove_41 : decode cX3_bestMove 41 = .ok (.iload_n 3, 1) := by decide +kernel
theorem dX3_bestMove_42 : decode cX3_bestMove 42 = .ok (.iadd, 1) := by decide +kernel
theorem dX3_bestMove_43 : decode cX3_bestMove 43 = .ok (.iaload, 1) := by decide +kernel
theorem dX3_bestMove_44 : decode cX3_bestMove 44 = .ok (.invokestatic 64, 3) := by decide +kernel
theorem dX3_bestMove_47 : decode cX3_bestMove 47 = .ok (.istore 4, 2) := by decide +kernel
theorem dX3_bestMove_49 : decode cX3_bestMove 49 = .ok (.iinc 5 1, 3) := by decide +kernel
theorem dX3_bestMove_52 : decode cX3_bestMove 52 = .ok (.goto (-46), 3) := by decide +kernel
theorem dX3_bestMove_55 : decode cX3_bestMove 55 = .ok (.iload 4, 2) := by decide +kernel
theorem dX3_bestMove_57 : decode cX3_bestMove 57 = .ok (.ireturn, 1) := by decide +kernel
theorem dX3_chooseFirst_0 : decode cX3_chooseFirst 0 = .ok (.aload_n 0, 1) := by decide +kernel
theorem dX3_chooseFirst_1 : decode cX3_chooseFirst 1 = .ok (.ldc 76, 2) := by decide +kernel
theorem dX3_chooseFirst_3 : decode cX3_chooseFirst 3 = .ok (.putfield 28, 3) := by decide +kernel
theorem dX3_chooseFirst_6 : decode cX3_chooseFirst 6 = .ok (.iconst 0, 1) := by decide +kernel
theorem dX3_chooseFirst_7 : decode cX3_chooseFirst 7 = .ok (.istore 4, 2) := by decide +kernel
theorem dX3_chooseFirst_9 : decode cX3_chooseFirst 9 = .ok (.iload 4, 2) := by decide +kernel
theorem dX3_chooseFirst_11 : decode cX3_chooseFirst 11 = .ok (.bipush 6, 2) := by decide +kernel
theorem dX3_chooseFirst_13 : decode cX3_chooseFirst 13 = .ok (.if_icmp .ge 123, 3) := by decide +kernel
theorem dX3_chooseFirst_16 : decode cX3_chooseFirst 16 = .ok (.iload 4, 2) := by decide +kernel
theorem dX3_chooseFirst_18 : decode cX3_chooseFirst 18 = .ok (.iload_n 2, 1) := by decide +kernel
theorem dX3_chooseFirst_19 : decode cX3_chooseFirst 19 = .ok (.if_icmp .eq 17, 3) := by decide +kernel
theorem dX3_chooseFirst_22 : decode cX3_chooseFirst 22 = .ok (.iload_n 3, 1) := by decide +kernel
theorem dX3_chooseFirst_23 : decode cX3_chooseFirst 23 = .ok (.ifCond .eq 107, 3) := by decide +kernel
theorem dX3_chooseFirst_26 : decode cX3_chooseFirst 26 = .ok (.aload_n 1, 1) := by decide +kernel
theorem dX3_chooseFirst_27 : decode cX3_chooseFirst 27 = .ok (.iload_n 2, 1) := by decide +kernel
theorem dX3_chooseFirst_28 : decode cX3_chooseFirst 28 = .ok (.iload 4, 2) := by decide +kernel
theorem dX3_chooseFirst_30 : decode cX3_chooseFirst 30 = .ok (.invokevirtual 71, 3) := by decide +kernel
theorem dX3_chooseFirst_33 : decode cX3_chooseFirst 33 = .ok (.ifCond .le 97, 3) := by decide +kernel
theorem dX3_chooseFirst_36 : decode cX3_chooseFirst 36 = .ok (.iconst 0, 1) := by decide +kernel
theorem dX3_chooseFirst_37 : decode cX3_chooseFirst 37 = .ok (.istore 5, 2) := by decide +kernel
theorem dX3_chooseFirst_39 : decode cX3_chooseFirst 39 = .ok (.iload 5, 2) := by decide +kernel
theorem dX3_chooseFirst_41 : decode cX3_chooseFirst 41 = .ok (.aload_n 0, 1) := by decide +kernel
theorem dX3_chooseFirst_42 : decode cX3_chooseFirst 42 = .ok (.getfield 21, 3) := by decide +kernel
theorem dX3_chooseFirst_45 : decode cX3_chooseFirst 45 = .ok (.if_icmp .ge 58, 3) := by decide +kernel
theorem dX3_chooseFirst_48 : decode cX3_chooseFirst 48 = .ok (.iload_n 3, 1) := by decide +kernel
theorem dX3_chooseFirst_49 : decode cX3_chooseFirst 49 = .ok (.ifCond .eq 22, 3) := by decide +kernel
theorem dX3_chooseFirst_52 : decode cX3_chooseFirst 52 = .ok (.aload_n 0, 1) := by decide +kernel
theorem dX3_chooseFirst_53 : decode cX3_chooseFirst 53 = .ok (.getfield 15, 3) := by decide +kernel
theorem dX3_chooseFirst_56 : decode cX3_chooseFirst 56 = .ok (.iload 4, 2) := by decide +kernel
theorem dX3_chooseFirst_58 : decode cX3_chooseFirst 58 = .ok (.sipush 256, 3) := by decide +kernel
theorem dX3_chooseFirst_61 : decode cX3_chooseFirst 61 = .ok (.imul, 1) := by decide +kernel
theorem dX3_chooseFirst_62 : decode cX3_chooseFirst 62 = .ok (.iconst 1, 1) := by decide +kernel
theorem dX3_chooseFirst_63 : decode cX3_chooseFirst 63 = .ok (.iload 5, 2) := by decide +kernel
theorem dX3_chooseFirst_65 : decode cX3_chooseFirst 65 = .ok (.ishl, 1) := by decide +kernel
theorem dX3_chooseFirst_66 : decode cX3_chooseFirst 66 = .ok (.iadd, 1) := by decide +kernel
theorem dX3_chooseFirst_67 : decode cX3_chooseFirst 67 = .ok (.iaload, 1) := by decide +kernel
theorem dX3_chooseFirst_68 : decode cX3_chooseFirst 68 = .ok (.goto 4, 3) := by decide +kernel
theorem dX3_chooseFirst_71 : decode cX3_chooseFirst 71 = .ok (.iconst 0, 1) := by decide +kernel
theorem dX3_chooseFirst_72 : decode cX3_chooseFirst 72 = .ok (.istore 6, 2) := by decide +kernel
theorem dX3_chooseFirst_74 : decode cX3_chooseFirst 74 = .ok (.aload_n 0, 1) := by decide +kernel
theorem dX3_chooseFirst_75 : decode cX3_chooseFirst 75 = .ok (.iload 4, 2) := by decide +kernel
theorem dX3_chooseFirst_77 : decode cX3_chooseFirst 77 = .ok (.iload 5, 2) := by decide +kernel
theorem dX3_chooseFirst_79 : decode cX3_chooseFirst 79 = .ok (.aload_n 0, 1) := by decide +kernel
theorem dX3_chooseFirst_80 : decode cX3_chooseFirst 80 = .ok (.getfield 9, 3) := by decide +kernel
theorem dX3_chooseFirst_83 : decode cX3_chooseFirst 83 = .ok (.iload_n 2, 1) := by decide +kernel
theorem dX3_chooseFirst_84 : decode cX3_chooseFirst 84 = .ok (.bipush 8, 2) := by decide +kernel
theorem dX3_chooseFirst_86 : decode cX3_chooseFirst 86 = .ok (.imul, 1) := by decide +kernel
theorem dX3_chooseFirst_87 : decode cX3_chooseFirst 87 = .ok (.iload 5, 2) := by decide +kernel
theorem dX3_chooseFirst_89 : decode cX3_chooseFirst 89 = .ok (.iadd, 1) := by decide +kernel
theorem dX3_chooseFirst_90 : decode cX3_chooseFirst 90 = .ok (.iaload, 1) := by decide +kernel
theorem dX3_chooseFirst_91 : decode cX3_chooseFirst 91 = .ok (.iload 6, 2) := by decide +kernel
theorem dX3_chooseFirst_93 : decode cX3_chooseFirst 93 = .ok (.iadd, 1) := by decide +kernel
theorem dX3_chooseFirst_94 : decode cX3_chooseFirst 94 = .ok (.invokevirtual 77, 3) := by decide +kernel
theorem dX3_chooseFirst_97 : decode cX3_chooseFirst 97 = .ok (.iinc 5 1, 3) := by decide +kernel
theorem dX3_chooseFirst_100 : decode cX3_chooseFirst 100 = .ok (.goto (-61), 3) := by decide +kernel
theorem dX3_chooseFirst_103 : decode cX3_chooseFirst 103 = .ok (.aload_n 0, 1) := by decide +kernel
theorem dX3_chooseFirst_104 : decode cX3_chooseFirst 104 = .ok (.iload 4, 2) := by decide +kernel
theorem dX3_chooseFirst_106 : decode cX3_chooseFirst 106 = .ok (.bipush 15, 2) := by decide +kernel
theorem dX3_chooseFirst_108 : decode cX3_chooseFirst 108 = .ok (.iload_n 3, 1) := by decide +kernel
theorem dX3_chooseFirst_109 : decode cX3_chooseFirst 109 = .ok (.ifCond .eq 17, 3) := by decide +kernel
theorem dX3_chooseFirst_112 : decode cX3_chooseFirst 112 = .ok (.aload_n 0, 1) := by decide +kernel
theorem dX3_chooseFirst_113 : decode cX3_chooseFirst 113 = .ok (.getfield 15, 3) := by decide +kernel
theorem dX3_chooseFirst_116 : decode cX3_chooseFirst 116 = .ok (.iload 4, 2) := by decide +kernel
theorem dX3_chooseFirst_118 : decode cX3_chooseFirst 118 = .ok (.sipush 256, 3) := by decide +kernel
theorem dX3_chooseFirst_121 : decode cX3_chooseFirst 121 = .ok (.imul, 1) := by decide +kernel
theorem dX3_chooseFirst_122 : decode cX3_chooseFirst 122 = .ok (.iaload, 1) := by decide +kernel
theorem dX3_chooseFirst_123 : decode cX3_chooseFirst 123 = .ok (.goto 4, 3) := by decide +kernel
theorem dX3_chooseFirst_126 : decode cX3_chooseFirst 126 = .ok (.iconst 0, 1) := by decide +kernel
theorem dX3_chooseFirst_127 : decode cX3_chooseFirst 127 = .ok (.invokevirtual 77, 3) := by decide +kernel
theorem dX3_chooseFirst_130 : decode cX3_chooseFirst 130 = .ok (.iinc 4 1, 3) := by decide +kernel
theorem dX3_chooseFirst_133 : decode cX3_chooseFirst 133 = .ok (.goto (-124), 3) := by decide +kernel
theorem dX3_chooseFirst_136 : decode cX3_chooseFirst 136 = .ok (.return_, 1) := by decide +kernel
theorem dX3_keepIfMore_0 : decode cX3_keepIfMore 0 = .ok (.iload_n 3, 1) := by decide +kernel
theorem dX3_keepIfMore_1 : decode cX3_keepIfMore 1 = .ok (.aload_n 0, 1) := by decide +kernel
theorem dX3_keepIfMore_2 : decode cX3_keepIfMore 2 = .ok (.getfield 28, 3) := by decide +kernel
theorem dX3_keepIfMore_5 : decode cX3_keepIfMore 5 = .ok (.if_icmp .le 18, 3) := by decide +kernel
theorem dX3_keepIfMore_8 : decode cX3_keepIfMore 8 = .ok (.aload_n 0, 1) := by decide +kernel
theorem dX3_keepIfMore_9 : decode cX3_keepIfMore 9 = .ok (.iload_n 3, 1) := by decide +kernel
theorem dX3_keepIfMore_10 : decode cX3_keepIfMore 10 = .ok (.putfield 28, 3) := by decide +kernel
theorem dX3_keepIfMore_13 : decode cX3_keepIfMore 13 = .ok (.aload_n 0, 1) := by decide +kernel
theorem dX3_keepIfMore_14 : decode cX3_keepIfMore 14 = .ok (.bipush 16, 2) := by decide +kernel
theorem dX3_keepIfMore_16 : decode cX3_keepIfMore 16 = .ok (.iload_n 1, 1) := by decide +kernel
theorem dX3_keepIfMore_17 : decode cX3_keepIfMore 17 = .ok (.imul, 1) := by decide +kernel
theorem dX3_keepIfMore_18 : decode cX3_keepIfMore 18 = .ok (.iload_n 2, 1) := by decide +kernel
theorem dX3_keepIfMore_19 : decode cX3_keepIfMore 19 = .ok (.iadd, 1) := by decide +kernel
theorem dX3_keepIfMore_20 : decode cX3_keepIfMore 20 = .ok (.putfield 31, 3) := by decide +kernel
theorem dX3_keepIfMore_23 : decode cX3_keepIfMore 23 = .ok (.return_, 1) := by decide +kernel
theorem dX4_init_0 : decode cX4_init 0 = .ok (.aload_n 0, 1) := by decide +kernel
theorem dX4_init_1 : decode cX4_init 1 = .ok (.invokespecial 3, 3) := by decide +kernel
theorem dX4_init_4 : decode cX4_init 4 = .ok (.aload_n 0, 1) := by decide +kernel
theorem dX4_init_5 : decode cX4_init 5 = .ok (.iconst 0, 1) := by decide +kernel
theorem dX4_init_6 : decode cX4_init 6 = .ok (.putfield 11, 3) := by decide +kernel
theorem dX4_init_9 : decode cX4_init 9 = .ok (.aload_n 0, 1) := by decide +kernel
theorem dX4_init_10 : decode cX4_init 10 = .ok (.iconst 0, 1) := by decide +kernel
theorem dX4_init_11 : decode cX4_init 11 = .ok (.putfield 15, 3) := by decide +kernel
theorem dX4_init_14 : decode cX4_init 14 = .ok (.aload_n 0, 1) := by decide +kernel
theorem dX4_init_15 : decode cX4_init 15 = .ok (.iconst 0, 1) := by decide +kernel
theorem dX4_init_16 : decode cX4_init 16 = .ok (.putfield 18, 3) := by decide +kernel
theorem dX4_init_19 : decode cX4_init 19 = .ok (.aload_n 0, 1) := by decide +kernel
theorem dX4_init_20 : decode cX4_init 20 = .ok (.ldc 22, 2) := by decide +kernel
theorem dX4_init_22 : decode cX4_init 22 = .ok (.putfield 23, 3) := by decide +kernel
theorem dX4_init_25 : decode cX4_init 25 = .ok (.aload_n 0, 1) := by decide +kernel
theorem dX4_init_26 : decode cX4_init 26 = .ok (.ldc 22, 2) := by decide +kernel
theorem dX4_init_28 : decode cX4_init 28 = .ok (.putfield 26, 3) := by decide +kernel
theorem dX4_init_31 : decode cX4_init 31 = .ok (.aload_n 0, 1) := by decide +kernel
theorem dX4_init_32 : decode cX4_init 32 = .ok (.ldc 22, 2) := by decide +kernel
theorem dX4_init_34 : decode cX4_init 34 = .ok (.putfield 29, 3) := by decide +kernel
theorem dX4_init_37 : decode cX4_init 37 = .ok (.aload_n 0, 1) := by decide +kernel
theorem dX4_init_38 : decode cX4_init 38 = .ok (.bipush 12, 2) := by decide +kernel
theorem dX4_init_40 : decode cX4_init 40 = .ok (.newarray .int, 2) := by decide +kernel
theorem dX4_init_42 : decode cX4_init 42 = .ok (.putfield 32, 3) := by decide +kernel
theorem dX4_init_45 : decode cX4_init 45 = .ok (.aload_n 0, 1) := by decide +kernel
theorem dX4_init_46 : decode cX4_init 46 = .ok (.bipush 12, 2) := by decide +kernel
theorem dX4_init_48 : decode cX4_init 48 = .ok (.newarray .int, 2) := by decide +kernel
theorem dX4_init_50 : decode cX4_init 50 = .ok (.putfield 36, 3) := by decide +kernel
theorem dX4_init_53 : decode cX4_init 53 = .ok (.aload_n 0, 1) := by decide +kernel
theorem dX4_init_54 : decode cX4_init 54 = .ok (.iload_n 1, 1) := by decide +kernel
theorem dX4_init_55 : decode cX4_init 55 = .ok (.putfield 39, 3) := by decide +kernel
theorem dX4_init_58 : decode cX4_init 58 = .ok (.aload_n 0, 1) := by decide +kernel
theorem dX4_init_59 : decode cX4_init 59 = .ok (.iload_n 2, 1) := by decide +kernel
theorem dX4_init_60 : decode cX4_init 60 = .ok (.putfield 42, 3) := by decide +kernel
theorem dX4_init_63 : decode cX4_init 63 = .ok (.aload_n 0, 1) := by decide +kernel
theorem dX4_init_64 : decode cX4_init 64 = .ok (.iload_n 3, 1) := by decide +kernel
theorem dX4_init_65 : decode cX4_init 65 = .ok (.putfield 45, 3) := by decide +kernel
theorem dX4_init_68 : decode cX4_init 68 = .ok (.aload_n 0, 1) := by decide +kernel
theorem dX4_init_69 : decode cX4_init 69 = .ok (.iload 4, 2) := by decide +kernel
theorem dX4_init_71 : decode cX4_init 71 = .ok (.putfield 48, 3) := by decide +kernel
theorem dX4_init_74 : decode cX4_init 74 = .ok (.aload_n 0, 1) := by decide +kernel
theorem dX4_init_75 : decode cX4_init 75 = .ok (.iload 5, 2) := by decide +kernel
theorem dX4_init_77 : decode cX4_init 77 = .ok (.putfield 51, 3) := by decide +kernel
theorem dX4_init_80 : decode cX4_init 80 = .ok (.return_, 1) := by decide +kernel
theorem dX4_isUnlike_0 : decode cX4_isUnlike 0 = .ok (.aload_n 0, 1) := by decide +kernel
theorem dX4_isUnlike_1 : decode cX4_isUnlike 1 = .ok (.getfield 48, 3) := by decide +kernel
theorem dX4_isUnlike_4 : decode cX4_isUnlike 4 = .ok (.iload_n 1, 1) := by decide +kernel
theorem dX4_isUnlike_5 : decode cX4_isUnlike 5 = .ok (.ixor, 1) := by decide +kernel
theorem dX4_isUnlike_6 : decode cX4_isUnlike 6 = .ok (.aload_n 0, 1) := by decide +kernel
theorem dX4_isUnlike_7 : decode cX4_isUnlike 7 = .ok (.getfield 51, 3) := by decide +kernel
theorem dX4_isUnlike_10 : decode cX4_isUnlike 10 = .ok (.iconst (-1), 1) := by decide +kernel
theorem dX4_isUnlike_11 : decode cX4_isUnlike 11 = .ok (.ixor, 1) := by decide +kernel
theorem dX4_isUnlike_12 : decode cX4_isUnlike 12 = .ok (.iand, 1) := by decide +kernel
theorem dX4_isUnlike_13 : decode cX4_isUnlike 13 = .ok (.ifCond .eq 7, 3) := by decide +kernel
theorem dX4_isUnlike_16 : decode cX4_isUnlike 16 = .ok (.iconst 1, 1) := by decide +kernel
theorem dX4_isUnlike_17 : decode cX4_isUnlike 17 = .ok (.goto 4, 3) := by decide +kernel
theorem dX4_isUnlike_20 : decode cX4_isUnlike 20 = .ok (.iconst 0, 1) := by decide +kernel
theorem dX4_isUnlike_21 : decode cX4_isUnlike 21 = .ok (.ireturn, 1) := by decide +kernel
theorem dX4_holder_0 : decode cX4_holder 0 = .ok (.aload_n 0, 1) := by decide +kernel
theorem dX4_holder_1 : decode cX4_holder 1 = .ok (.getfield 11, 3) := by decide +kernel
theorem dX4_holder_4 : decode cX4_holder 4 = .ok (.ifCond .ne 10, 3) := by decide +kernel
theorem dX4_holder_7 : decode cX4_holder 7 = .ok (.aload_n 0, 1) := by decide +kernel
theorem dX4_holder_8 : decode cX4_holder 8 = .ok (.getfield 23, 3) := by decide +kernel
theorem dX4_holder_11 : decode cX4_holder 11 = .ok (.goto 5, 3) := by decide +kernel
theorem dX4_holder_14 : decode cX4_holder 14 = .ok (.ldc 22, 2) := by decide +kernel
theorem dX4_holder_16 : decode cX4_holder 16 = .ok (.ireturn, 1) := by decide +kernel
theorem dX4_isFullOfHands_0 : decode cX4_isFullOfHands 0 = .ok (.aload_n 0, 1) := by decide +kernel
theorem dX4_isFullOfHands_1 : decode cX4_isFullOfHands 1 = .ok (.getfield 15, 3) := by decide +kernel
theorem dX4_isFullOfHands_4 : decode cX4_isFullOfHands 4 = .ok (.bipush 12, 2) := by decide +kernel
theorem dX4_isFullOfHands_6 : decode cX4_isFullOfHands 6 = .ok (.if_icmp .lt 7, 3) := by decide +kernel
theorem dX4_isFullOfHands_9 : decode cX4_isFullOfHands 9 = .ok (.iconst 1, 1) := by decide +kernel
theorem dX4_isFullOfHands_10 : decode cX4_isFullOfHands 10 = .ok (.goto 4, 3) := by decide +kernel
theorem dX4_isFullOfHands_13 : decode cX4_isFullOfHands 13 = .ok (.iconst 0, 1) := by decide +kernel
theorem dX4_isFullOfHands_14 : decode cX4_isFullOfHands 14 = .ok (.ireturn, 1) := by decide +kernel
theorem dX4_handOn_0 : decode cX4_handOn 0 = .ok (.aload_n 0, 1) := by decide +kernel
theorem dX4_handOn_1 : decode cX4_handOn 1 = .ok (.iconst 0, 1) := by decide +kernel
theorem dX4_handOn_2 : decode cX4_handOn 2 = .ok (.putfield 11, 3) := by decide +kernel
theorem dX4_handOn_5 : decode cX4_handOn 5 = .ok (.aload_n 0, 1) := by decide +kernel
theorem dX4_handOn_6 : decode cX4_handOn 6 = .ok (.iload_n 1, 1) := by decide +kernel
theorem dX4_handOn_7 : decode cX4_handOn 7 = .ok (.putfield 23, 3) := by decide +kernel
theorem dX4_handOn_10 : decode cX4_handOn 10 = .ok (.aload_n 0, 1) := by decide +kernel
theorem dX4_handOn_11 : decode cX4_handOn 11 = .ok (.getfield 15, 3) := by decide +kernel
theorem dX4_handOn_14 : decode cX4_handOn 14 = .ok (.istore_n 3, 1) := by decide +kernel
theorem dX4_handOn_15 : decode cX4_handOn 15 = .ok (.iload_n 3, 1) := by decide +kernel
theorem dX4_handOn_16 : decode cX4_handOn 16 = .ok (.ifCond .lt 30, 3) := by decide +kernel
theorem dX4_handOn_19 : decode cX4_handOn 19 = .ok (.iload_n 3, 1) := by decide +kernel
theorem dX4_handOn_20 : decode cX4_handOn 20 = .ok (.bipush 12, 2) := by decide +kernel
theorem dX4_handOn_22 : decode cX4_handOn 22 = .ok (.if_icmp .ge 24, 3) := by decide +kernel
theorem dX4_handOn_25 : decode cX4_handOn 25 = .ok (.aload_n 0, 1) := by decide +kernel
theorem dX4_handOn_26 : decode cX4_handOn 26 = .ok (.getfield 32, 3) := by decide +kernel
theorem dX4_handOn_29 : decode cX4_handOn 29 = .ok (.iload_n 3, 1) := by decide +kernel
theorem dX4_handOn_30 : decode cX4_handOn 30 = .ok (.iload_n 1, 1) := by decide +kernel
theorem dX4_handOn_31 : decode cX4_handOn 31 = .ok (.iastore, 1) := by decide +kernel
theorem dX4_handOn_32 : decode cX4_handOn 32 = .ok (.aload_n 0, 1) := by decide +kernel
theorem dX4_handOn_33 : decode cX4_handOn 33 = .ok (.getfield 36, 3) := by decide +kernel
theorem dX4_handOn_36 : decode cX4_handOn 36 = .ok (.iload_n 3, 1) := by decide +kernel
theorem dX4_handOn_37 : decode cX4_handOn 37 = .ok (.iload_n 2, 1) := by decide +kernel
theorem dX4_handOn_38 : decode cX4_handOn 38 = .ok (.iastore, 1) := by decide +kernel
theorem dX4_handOn_39 : decode cX4_handOn 39 = .ok (.aload_n 0, 1) := by decide +kernel
theorem dX4_handOn_40 : decode cX4_handOn 40 = .ok (.iload_n 3, 1) := by decide +kernel
theorem dX4_handOn_41 : decode cX4_handOn 41 = .ok (.iconst 1, 1) := by decide +kernel
theorem dX4_handOn_42 : decode cX4_handOn 42 = .ok (.iadd, 1) := by decide +kernel
theorem dX4_handOn_43 : decode cX4_handOn 43 = .ok (.putfield 15, 3) := by decide +kernel
theorem dX4_handOn_46 : decode cX4_handOn 46 = .ok (.return_, 1) := by decide +kernel
theorem dX4_handTrader_0 : decode cX4_handTrader 0 = .ok (.iload_n 1, 1) := by decide +kernel
theorem dX4_handTrader_1 : decode cX4_handTrader 1 = .ok (.ifCond .lt 20, 3) := by decide +kernel
theorem dX4_handTrader_4 : decode cX4_handTrader 4 = .ok (.iload_n 1, 1) := by decide +kernel
theorem dX4_handTrader_5 : decode cX4_handTrader 5 = .ok (.aload_n 0, 1) := by decide +kernel
theorem dX4_handTrader_6 : decode cX4_handTrader 6 = .ok (.getfield 15, 3) := by decide +kernel
theorem dX4_handTrader_9 : decode cX4_handTrader 9 = .ok (.if_icmp .ge 12, 3) := by decide +kernel
theorem dX4_handTrader_12 : decode cX4_handTrader 12 = .ok (.aload_n 0, 1) := by decide +kernel
theorem dX4_handTrader_13 : decode cX4_handTrader 13 = .ok (.getfield 32, 3) := by decide +kernel
theorem dX4_handTrader_16 : decode cX4_handTrader 16 = .ok (.iload_n 1, 1) := by decide +kernel
theorem dX4_handTrader_17 : decode cX4_handTrader 17 = .ok (.iaload, 1) := by decide +kernel
theorem dX4_handTrader_18 : decode cX4_handTrader 18 = .ok (.goto 5, 3) := by decide +kernel
theorem dX4_handTrader_21 : decode cX4_handTrader 21 = .ok (.ldc 22, 2) := by decide +kernel
theorem dX4_handTrader_23 : decode cX4_handTrader 23 = .ok (.ireturn, 1) := by decide +kernel
theorem dX4_handWeek_0 : decode cX4_handWeek 0 = .ok (.iload_n 1, 1) := by decide +kernel
theorem dX4_handWeek_1 : decode cX4_handWeek 1 = .ok (.ifCond .lt 20, 3) := by decide +kernel
theorem dX4_handWeek_4 : decode cX4_handWeek 4 = .ok (.iload_n 1, 1) := by decide +kernel
theorem dX4_handWeek_5 : decode cX4_handWeek 5 = .ok (.aload_n 0, 1) := by decide +kernel
theorem dX4_handWeek_6 : decode cX4_handWeek 6 = .ok (.getfield 15, 3) := by decide +kernel
theorem dX4_handWeek_9 : decode cX4_handWeek 9 = .ok (.if_icmp .ge 12, 3) := by decide +kernel
theorem dX4_handWeek_12 : decode cX4_handWeek 12 = .ok (.aload_n 0, 1) := by decide +kernel
theorem dX4_handWeek_13 : decode cX4_handWeek 13 = .ok (.getfield 36, 3) := by decide +kernel
theorem dX4_handWeek_16 : decode cX4_handWeek 16 = .ok (.iload_n 1, 1) := by decide +kernel
theorem dX4_handWeek_17 : decode cX4_handWeek 17 = .ok (.iaload, 1) := by decide +kernel
theorem dX4_handWeek_18 : decode cX4_handWeek 18 = .ok (.goto 5, 3) := by decide +kernel
theorem dX4_handWeek_21 : decode cX4_handWeek 21 = .ok (.ldc 22, 2) := by decide +kernel
theorem dX4_handWeek_23 : decode cX4_handWeek 23 = .ok (.ireturn, 1) := by decide +kernel
theorem dX4_bearer_0 : decode cX4_bearer 0 = .ok (.aload_n 0, 1) := by decide +kernel
theorem dX4_bearer_1 : decode cX4_bearer 1 = .ok (.getfield 15, 3) := by decide +kernel
theorem dX4_bearer_4 : decode cX4_bearer 4 = .ok (.iconst 1, 1) := by decide +kernel
theorem dX4_bearer_5 : decode cX4_bearer 5 = .ok (.isub, 1) := by decide +kernel
theorem dX4_bearer_6 : decode cX4_bearer 6 = .ok (.istore_n 3, 1) := by decide +kernel
theorem dX4_bearer_7 : decode cX4_bearer 7 = .ok (.iload_n 3, 1) := by decide +kernel
theorem dX4_bearer_8 : decode cX4_bearer 8 = .ok (.istore 4, 2) := by decide +kernel
theorem dX4_bearer_10 : decode cX4_bearer 10 = .ok (.iload 4, 2) := by decide +kernel
theorem dX4_bearer_12 : decode cX4_bearer 12 = .ok (.ifCond .le 29, 3) := by decide +kernel
theorem dX4_bearer_15 : decode cX4_bearer 15 = .ok (.iload_n 1, 1) := by decide +kernel
theorem dX4_bearer_16 : decode cX4_bearer 16 = .ok (.aload_n 0, 1) := by decide +kernel
theorem dX4_bearer_17 : decode cX4_bearer 17 = .ok (.iload 4, 2) := by decide +kernel
theorem dX4_bearer_19 : decode cX4_bearer 19 = .ok (.invokevirtual 54, 3) := by decide +kernel
theorem dX4_bearer_22 : decode cX4_bearer 22 = .ok (.isub, 1) := by decide +kernel
theorem dX4_bearer_23 : decode cX4_bearer 23 = .ok (.iload_n 2, 1) := by decide +kernel
theorem dX4_bearer_24 : decode cX4_bearer 24 = .ok (.if_icmp .le 6, 3) := by decide +kernel
theorem dX4_bearer_27 : decode cX4_bearer 27 = .ok (.goto 14, 3) := by decide +kernel
theorem dX4_bearer_30 : decode cX4_bearer 30 = .ok (.iload 4, 2) := by decide +kernel
theorem dX4_bearer_32 : decode cX4_bearer 32 = .ok (.iconst 1, 1) := by decide +kernel
theorem dX4_bearer_33 : decode cX4_bearer 33 = .ok (.isub, 1) := by decide +kernel
theorem dX4_bearer_34 : decode cX4_bearer 34 = .ok (.istore_n 3, 1) := by decide +kernel
theorem dX4_bearer_35 : decode cX4_bearer 35 = .ok (.iinc 4 (-1), 3) := by decide +kernel
theorem dX4_bearer_38 : decode cX4_bearer 38 = .ok (.goto (-28), 3) := by decide +kernel
theorem dX4_bearer_41 : decode cX4_bearer 41 = .ok (.aload_n 0, 1) := by decide +kernel
theorem dX4_bearer_42 : decode cX4_bearer 42 = .ok (.iload_n 3, 1) := by decide +kernel
theorem dX4_bearer_43 : decode cX4_bearer 43 = .ok (.invokevirtual 58, 3) := by decide +kernel
theorem dX4_bearer_46 : decode cX4_bearer 46 = .ok (.ireturn, 1) := by decide +kernel
theorem dX4_halve_0 : decode cX4_halve 0 = .ok (.aload_n 0, 1) := by decide +kernel
theorem dX4_halve_1 : decode cX4_halve 1 = .ok (.aload_n 0, 1) := by decide +kernel
theorem dX4_halve_2 : decode cX4_halve 2 = .ok (.getfield 23, 3) := by decide +kernel
theorem dX4_halve_5 : decode cX4_halve 5 = .ok (.putfield 26, 3) := by decide +kernel
theorem dX4_halve_8 : decode cX4_halve 8 = .ok (.aload_n 0, 1) := by decide +kernel
theorem dX4_halve_9 : decode cX4_halve 9 = .ok (.iload_n 1, 1) := by decide +kernel
theorem dX4_halve_10 : decode cX4_halve 10 = .ok (.putfield 29, 3) := by decide +kernel
theorem dX4_halve_13 : decode cX4_halve 13 = .ok (.aload_n 0, 1) := by decide +kernel
theorem dX4_halve_14 : decode cX4_halve 14 = .ok (.iconst 1, 1) := by decide +kernel
theorem dX4_halve_15 : decode cX4_halve 15 = .ok (.putfield 18, 3) := by decide +kernel
theorem dX4_halve_18 : decode cX4_halve 18 = .ok (.aload_n 0, 1) := by decide +kernel
theorem dX4_halve_19 : decode cX4_halve 19 = .ok (.iconst 3, 1) := by decide +kernel
theorem dX4_halve_20 : decode cX4_halve 20 = .ok (.putfield 11, 3) := by decide +kernel
theorem dX4_halve_23 : decode cX4_halve 23 = .ok (.return_, 1) := by decide +kernel
theorem dX4_halfHolder_0 : decode cX4_halfHolder 0 = .ok (.iload_n 1, 1) := by decide +kernel
theorem dX4_halfHolder_1 : decode cX4_halfHolder 1 = .ok (.ifCond .ne 10, 3) := by decide +kernel
theorem dX4_halfHolder_4 : decode cX4_halfHolder 4 = .ok (.aload_n 0, 1) := by decide +kernel
theorem dX4_halfHolder_5 : decode cX4_halfHolder 5 = .ok (.getfield 26, 3) := by decide +kernel
theorem dX4_halfHolder_8 : decode cX4_halfHolder 8 = .ok (.goto 7, 3) := by decide +kernel
theorem dX4_halfHolder_11 : decode cX4_halfHolder 11 = .ok (.aload_n 0, 1) := by decide +kernel
theorem dX4_halfHolder_12 : decode cX4_halfHolder 12 = .ok (.getfield 29, 3) := by decide +kernel
theorem dX4_halfHolder_15 : decode cX4_halfHolder 15 = .ok (.ireturn, 1) := by decide +kernel
theorem dX4_moveHalf_0 : decode cX4_moveHalf 0 = .ok (.iload_n 1, 1) := by decide +kernel
theorem dX4_moveHalf_1 : decode cX4_moveHalf 1 = .ok (.ifCond .ne 11, 3) := by decide +kernel
theorem dX4_moveHalf_4 : decode cX4_moveHalf 4 = .ok (.aload_n 0, 1) := by decide +kernel
theorem dX4_moveHalf_5 : decode cX4_moveHalf 5 = .ok (.iload_n 2, 1) := by decide +kernel
theorem dX4_moveHalf_6 : decode cX4_moveHalf 6 = .ok (.putfield 26, 3) := by decide +kernel
theorem dX4_moveHalf_9 : decode cX4_moveHalf 9 = .ok (.goto 8, 3) := by decide +kernel
theorem dX4_moveHalf_12 : decode cX4_moveHalf 12 = .ok (.aload_n 0, 1) := by decide +kernel
theorem dX4_moveHalf_13 : decode cX4_moveHalf 13 = .ok (.iload_n 2, 1) := by decide +kernel
theorem dX4_moveHalf_14 : decode cX4_moveHalf 14 = .ok (.putfield 29, 3) := by decide +kernel
theorem dX4_moveHalf_17 : decode cX4_moveHalf 17 = .ok (.aload_n 0, 1) := by decide +kernel
theorem dX4_moveHalf_18 : decode cX4_moveHalf 18 = .ok (.getfield 26, 3) := by decide +kernel
theorem dX4_moveHalf_21 : decode cX4_moveHalf 21 = .ok (.aload_n 0, 1) := by decide +kernel
theorem dX4_moveHalf_22 : decode cX4_moveHalf 22 = .ok (.getfield 29, 3) := by decide +kernel
theorem dX4_moveHalf_25 : decode cX4_moveHalf 25 = .ok (.if_icmp .eq 4, 3) := by decide +kernel
theorem dX4_moveHalf_28 : decode cX4_moveHalf 28 = .ok (.return_, 1) := by decide +kernel
theorem dX4_moveHalf_29 : decode cX4_moveHalf 29 = .ok (.iload_n 2, 1) := by decide +kernel
theorem dX4_moveHalf_30 : decode cX4_moveHalf 30 = .ok (.ldc 22, 2) := by decide +kernel
theorem dX4_moveHalf_32 : decode cX4_moveHalf 32 = .ok (.if_icmp .ne 11, 3) := by decide +kernel
theorem dX4_moveHalf_35 : decode cX4_moveHalf 35 = .ok (.aload_n 0, 1) := by decide +kernel
theorem dX4_moveHalf_36 : decode cX4_moveHalf 36 = .ok (.iconst 2, 1) := by decide +kernel
theorem dX4_moveHalf_37 : decode cX4_moveHalf 37 = .ok (.putfield 11, 3) := by decide +kernel
theorem dX4_moveHalf_40 : decode cX4_moveHalf 40 = .ok (.goto 36, 3) := by decide +kernel
theorem dX4_moveHalf_43 : decode cX4_moveHalf 43 = .ok (.aload_n 0, 1) := by decide +kernel
theorem dX4_moveHalf_44 : decode cX4_moveHalf 44 = .ok (.aload_n 0, 1) := by decide +kernel
theorem dX4_moveHalf_45 : decode cX4_moveHalf 45 = .ok (.getfield 15, 3) := by decide +kernel
theorem dX4_moveHalf_48 : decode cX4_moveHalf 48 = .ok (.iconst 1, 1) := by decide +kernel
theorem dX4_moveHalf_49 : decode cX4_moveHalf 49 = .ok (.isub, 1) := by decide +kernel
theorem dX4_moveHalf_50 : decode cX4_moveHalf 50 = .ok (.invokevirtual 58, 3) := by decide +kernel
theorem dX4_moveHalf_53 : decode cX4_moveHalf 53 = .ok (.iload_n 2, 1) := by decide +kernel
theorem dX4_moveHalf_54 : decode cX4_moveHalf 54 = .ok (.if_icmp .ne 16, 3) := by decide +kernel
theorem dX4_moveHalf_57 : decode cX4_moveHalf 57 = .ok (.aload_n 0, 1) := by decide +kernel
theorem dX4_moveHalf_58 : decode cX4_moveHalf 58 = .ok (.iconst 0, 1) := by decide +kernel
theorem dX4_moveHalf_59 : decode cX4_moveHalf 59 = .ok (.putfield 11, 3) := by decide +kernel
theorem dX4_moveHalf_62 : decode cX4_moveHalf 62 = .ok (.aload_n 0, 1) := by decide +kernel
theorem dX4_moveHalf_63 : decode cX4_moveHalf 63 = .ok (.iload_n 2, 1) := by decide +kernel
theorem dX4_moveHalf_64 : decode cX4_moveHalf 64 = .ok (.putfield 23, 3) := by decide +kernel
theorem dX4_moveHalf_67 : decode cX4_moveHalf 67 = .ok (.goto 9, 3) := by decide +kernel
theorem dX4_moveHalf_70 : decode cX4_moveHalf 70 = .ok (.aload_n 0, 1) := by decide +kernel
theorem dX4_moveHalf_71 : decode cX4_moveHalf 71 = .ok (.iload_n 2, 1) := by decide +kernel
theorem dX4_moveHalf_72 : decode cX4_moveHalf 72 = .ok (.iload_n 3, 1) := by decide +kernel
theorem dX4_moveHalf_73 : decode cX4_moveHalf 73 = .ok (.invokevirtual 61, 3) := by decide +kernel
theorem dX4_moveHalf_76 : decode cX4_moveHalf 76 = .ok (.return_, 1) := by decide +kernel
theorem dX4_wouldBePaid_0 : decode cX4_wouldBePaid 0 = .ok (.aload_n 0, 1) := by decide +kernel
theorem dX4_wouldBePaid_1 : decode cX4_wouldBePaid 1 = .ok (.getfield 11, 3) := by decide +kernel
theorem dX4_wouldBePaid_4 : decode cX4_wouldBePaid 4 = .ok (.iconst 2, 1) := by decide +kernel
theorem dX4_wouldBePaid_5 : decode cX4_wouldBePaid 5 = .ok (.if_icmp .ne 5, 3) := by decide +kernel
theorem dX4_wouldBePaid_8 : decode cX4_wouldBePaid 8 = .ok (.iconst 0, 1) := by decide +kernel
theorem dX4_wouldBePaid_9 : decode cX4_wouldBePaid 9 = .ok (.ireturn, 1) := by decide +kernel
theorem dX4_wouldBePaid_10 : decode cX4_wouldBePaid 10 = .ok (.aload_n 0, 1) := by decide +kernel
theorem dX4_wouldBePaid_11 : decode cX4_wouldBePaid 11 = .ok (.getfield 11, 3) := by decide +kernel
theorem dX4_wouldBePaid_14 : decode cX4_wouldBePaid 14 = .ok (.iconst 3, 1) := by decide +kernel
theorem dX4_wouldBePaid_15 : decode cX4_wouldBePaid 15 = .ok (.if_icmp .eq 8, 3) := by decide +kernel
theorem dX4_wouldBePaid_18 : decode cX4_wouldBePaid 18 = .ok (.aload_n 0, 1) := by decide +kernel
theorem dX4_wouldBePaid_19 : decode cX4_wouldBePaid 19 = .ok (.getfield 45, 3) := by decide +kernel
theorem dX4_wouldBePaid_22 : decode cX4_wouldBePaid 22 = .ok (.ireturn, 1) := by decide +kernel
theorem dX4_wouldBePaid_23 : decode cX4_wouldBePaid 23 = .ok (.aload_n 0, 1) := by decide +kernel
theorem dX4_wouldBePaid_24 : decode cX4_wouldBePaid 24 = .ok (.getfield 26, 3) := by decide +kernel
theorem dX4_wouldBePaid_27 : decode cX4_wouldBePaid 27 = .ok (.ldc 22, 2) := by decide +kernel
theorem dX4_wouldBePaid_29 : decode cX4_wouldBePaid 29 = .ok (.if_icmp .eq 12, 3) := by decide +kernel
theorem dX4_wouldBePaid_32 : decode cX4_wouldBePaid 32 = .ok (.aload_n 0, 1) := by decide +kernel
theorem dX4_wouldBePaid_33 : decode cX4_wouldBePaid 33 = .ok (.getfield 29, 3) := by decide +kernel
theorem dX4_wouldBePaid_36 : decode cX4_wouldBePaid 36 = .ok (.ldc 22, 2) := by decide +kernel
theorem dX4_wouldBePaid_38 : decode cX4_wouldBePaid 38 = .ok (.if_icmp .ne 12, 3) := by decide +kernel
theorem dX4_wouldBePaid_41 : decode cX4_wouldBePaid 41 = .ok (.aload_n 0, 1) := by decide +kernel
theorem dX4_wouldBePaid_42 : decode cX4_wouldBePaid 42 = .ok (.getfield 45, 3) := by decide +kernel
theorem dX4_wouldBePaid_45 : decode cX4_wouldBePaid 45 = .ok (.iconst 2, 1) := by decide +kernel
theorem dX4_wouldBePaid_46 : decode cX4_wouldBePaid 46 = .ok (.idiv, 1) := by decide +kernel
theorem dX4_wouldBePaid_47 : decode cX4_wouldBePaid 47 = .ok (.goto 4, 3) := by decide +kernel
theorem dX4_wouldBePaid_50 : decode cX4_wouldBePaid 50 = .ok (.iconst 0, 1) := by decide +kernel
theorem dX4_wouldBePaid_51 : decode cX4_wouldBePaid 51 = .ok (.ireturn, 1) := by decide +kernel
theorem dX5_init_0 : decode cX5_init 0 = .ok (.aload_n 0, 1) := by decide +kernel
theorem dX5_init_1 : decode cX5_init 1 = .ok (.invokespecial 3, 3) := by decide +kernel
theorem dX5_init_4 : decode cX5_init 4 = .ok (.aload_n 0, 1) := by decide +kernel
theorem dX5_init_5 : decode cX5_init 5 = .ok (.bipush 36, 2) := by decide +kernel
theorem dX5_init_7 : decode cX5_init 7 = .ok (.newarray .int, 2) := by decide +kernel
theorem dX5_init_9 : decode cX5_init 9 = .ok (.putfield 9, 3) := by decide +kernel
theorem dX5_init_12 : decode cX5_init 12 = .ok (.aload_n 0, 1) := by decide +kernel
theorem dX5_init_13 : decode cX5_init 13 = .ok (.bipush 36, 2) := by decide +kernel
theorem dX5_init_15 : decode cX5_init 15 = .ok (.newarray .int, 2) := by decide +kernel
theorem dX5_init_17 : decode cX5_init 17 = .ok (.putfield 15, 3) := by decide +kernel
theorem dX5_init_20 : decode cX5_init 20 = .ok (.aload_n 0, 1) := by decide +kernel
theorem dX5_init_21 : decode cX5_init 21 = .ok (.invokevirtual 18, 3) := by decide +kernel
theorem dX5_init_24 : decode cX5_init 24 = .ok (.return_, 1) := by decide +kernel
theorem dX5_milesBetween_0 : decode cX5_milesBetween 0 = .ok (.aload_n 0, 1) := by decide +kernel
theorem dX5_milesBetween_1 : decode cX5_milesBetween 1 = .ok (.getfield 9, 3) := by decide +kernel
theorem dX5_milesBetween_4 : decode cX5_milesBetween 4 = .ok (.iload_n 1, 1) := by decide +kernel
theorem dX5_milesBetween_5 : decode cX5_milesBetween 5 = .ok (.bipush 6, 2) := by decide +kernel
theorem dX5_milesBetween_7 : decode cX5_milesBetween 7 = .ok (.imul, 1) := by decide +kernel
theorem dX5_milesBetween_8 : decode cX5_milesBetween 8 = .ok (.iload_n 2, 1) := by decide +kernel
theorem dX5_milesBetween_9 : decode cX5_milesBetween 9 = .ok (.iadd, 1) := by decide +kernel
theorem dX5_milesBetween_10 : decode cX5_milesBetween 10 = .ok (.iaload, 1) := by decide +kernel
theorem dX5_milesBetween_11 : decode cX5_milesBetween 11 = .ok (.ireturn, 1) := by decide +kernel
theorem dX5_fewestMiles_0 : decode cX5_fewestMiles 0 = .ok (.aload_n 0, 1) := by decide +kernel
theorem dX5_fewestMiles_1 : decode cX5_fewestMiles 1 = .ok (.getfield 15, 3) := by decide +kernel
theorem dX5_fewestMiles_4 : decode cX5_fewestMiles 4 = .ok (.iload_n 1, 1) := by decide +kernel
theorem dX5_fewestMiles_5 : decode cX5_fewestMiles 5 = .ok (.bipush 6, 2) := by decide +kernel
theorem dX5_fewestMiles_7 : decode cX5_fewestMiles 7 = .ok (.imul, 1) := by decide +kernel
theorem dX5_fewestMiles_8 : decode cX5_fewestMiles 8 = .ok (.iload_n 2, 1) := by decide +kernel
theorem dX5_fewestMiles_9 : decode cX5_fewestMiles 9 = .ok (.iadd, 1) := by decide +kernel
theorem dX5_fewestMiles_10 : decode cX5_fewestMiles 10 = .ok (.iaload, 1) := by decide +kernel
theorem dX5_fewestMiles_11 : decode cX5_fewestMiles 11 = .ok (.istore_n 3, 1) := by decide +kernel
theorem dX5_fewestMiles_12 : decode cX5_fewestMiles 12 = .ok (.iload_n 3, 1) := by decide +kernel
theorem dX5_fewestMiles_13 : decode cX5_fewestMiles 13 = .ok (.ldc 21, 2) := by decide +kernel
theorem dX5_fewestMiles_15 : decode cX5_fewestMiles 15 = .ok (.if_icmp .lt 8, 3) := by decide +kernel
theorem dX5_fewestMiles_18 : decode cX5_fewestMiles 18 = .ok (.ldc 22, 2) := by decide +kernel
theorem dX5_fewestMiles_20 : decode cX5_fewestMiles 20 = .ok (.goto 4, 3) := by decide +kernel
theorem dX5_fewestMiles_23 : decode cX5_fewestMiles 23 = .ok (.iload_n 3, 1) := by decide +kernel
theorem dX5_fewestMiles_24 : decode cX5_fewestMiles 24 = .ok (.ireturn, 1) := by decide +kernel
theorem dX5_build_0 : decode cX5_build 0 = .ok (.aload_n 0, 1) := by decide +kernel
theorem dX5_build_1 : decode cX5_build 1 = .ok (.getfield 9, 3) := by decide +kernel
theorem dX5_build_4 : decode cX5_build 4 = .ok (.iload_n 1, 1) := by decide +kernel
theorem dX5_build_5 : decode cX5_build 5 = .ok (.bipush 6, 2) := by decide +kernel
theorem dX5_build_7 : decode cX5_build 7 = .ok (.imul, 1) := by decide +kernel
theorem dX5_build_8 : decode cX5_build 8 = .ok (.iload_n 2, 1) := by decide +kernel
theorem dX5_build_9 : decode cX5_build 9 = .ok (.iadd, 1) := by decide +kernel
theorem dX5_build_10 : decode cX5_build 10 = .ok (.iload_n 3, 1) := by decide +kernel
theorem dX5_build_11 : decode cX5_build 11 = .ok (.iastore, 1) := by decide +kernel
theorem dX5_build_12 : decode cX5_build 12 = .ok (.aload_n 0, 1) := by decide +kernel
theorem dX5_build_13 : decode cX5_build 13 = .ok (.getfield 9, 3) := by decide +kernel
theorem dX5_build_16 : decode cX5_build 16 = .ok (.iload_n 2, 1) := by decide +kernel
theorem dX5_build_17 : decode cX5_build 17 = .ok (.bipush 6, 2) := by decide +kernel
theorem dX5_build_19 : decode cX5_build 19 = .ok (.imul, 1) := by decide +kernel
theorem dX5_build_20 : decode cX5_build 20 = .ok (.iload_n 1, 1) := by decide +kernel
theorem dX5_build_21 : decode cX5_build 21 = .ok (.iadd, 1) := by decide +kernel
theorem dX5_build_22 : decode cX5_build 22 = .ok (.iload_n 3, 1) := by decide +kernel
theorem dX5_build_23 : decode cX5_build 23 = .ok (.iastore, 1) := by decide +kernel
theorem dX5_build_24 : decode cX5_build 24 = .ok (.aload_n 0, 1) := by decide +kernel
theorem dX5_build_25 : decode cX5_build 25 = .ok (.invokevirtual 18, 3) := by decide +kernel
theorem dX5_build_28 : decode cX5_build 28 = .ok (.return_, 1) := by decide +kernel
theorem dX5_measure_0 : decode cX5_measure 0 = .ok (.iconst 0, 1) := by decide +kernel
theorem dX5_measure_1 : decode cX5_measure 1 = .ok (.istore_n 1, 1) := by decide +kernel
theorem dX5_measure_2 : decode cX5_measure 2 = .ok (.iload_n 1, 1) := by decide +kernel
theorem dX5_measure_3 : decode cX5_measure 3 = .ok (.bipush 6, 2) := by decide +kernel
theorem dX5_measure_5 : decode cX5_measure 5 = .ok (.if_icmp .ge 60, 3) := by decide +kernel
theorem dX5_measure_8 : decode cX5_measure 8 = .ok (.iconst 0, 1) := by decide +kernel
theorem dX5_measure_9 : decode cX5_measure 9 = .ok (.istore_n 2, 1) := by decide +kernel
theorem dX5_measure_10 : decode cX5_measure 10 = .ok (.iload_n 2, 1) := by decide +kernel
theorem dX5_measure_11 : decode cX5_measure 11 = .ok (.bipush 6, 2) := by decide +kernel
theorem dX5_measure_13 : decode cX5_measure 13 = .ok (.if_icmp .ge 46, 3) := by decide +kernel
theorem dX5_measure_16 : decode cX5_measure 16 = .ok (.aload_n 0, 1) := by decide +kernel
theorem dX5_measure_17 : decode cX5_measure 17 = .ok (.iload_n 1, 1) := by decide +kernel
theorem dX5_measure_18 : decode cX5_measure 18 = .ok (.iload_n 2, 1) := by decide +kernel
theorem dX5_measure_19 : decode cX5_measure 19 = .ok (.invokevirtual 23, 3) := by decide +kernel
theorem dX5_measure_22 : decode cX5_measure 22 = .ok (.istore_n 3, 1) := by decide +kernel
theorem dX5_measure_23 : decode cX5_measure 23 = .ok (.aload_n 0, 1) := by decide +kernel
theorem dX5_measure_24 : decode cX5_measure 24 = .ok (.getfield 15, 3) := by decide +kernel
theorem dX5_measure_27 : decode cX5_measure 27 = .ok (.iload_n 1, 1) := by decide +kernel
theorem dX5_measure_28 : decode cX5_measure 28 = .ok (.bipush 6, 2) := by decide +kernel
theorem dX5_measure_30 : decode cX5_measure 30 = .ok (.imul, 1) := by decide +kernel
theorem dX5_measure_31 : decode cX5_measure 31 = .ok (.iload_n 2, 1) := by decide +kernel
theorem dX5_measure_32 : decode cX5_measure 32 = .ok (.iadd, 1) := by decide +kernel
theorem dX5_measure_33 : decode cX5_measure 33 = .ok (.iload_n 1, 1) := by decide +kernel
theorem dX5_measure_34 : decode cX5_measure 34 = .ok (.iload_n 2, 1) := by decide +kernel
theorem dX5_measure_35 : decode cX5_measure 35 = .ok (.if_icmp .ne 7, 3) := by decide +kernel
theorem dX5_measure_38 : decode cX5_measure 38 = .ok (.iconst 0, 1) := by decide +kernel
theorem dX5_measure_39 : decode cX5_measure 39 = .ok (.goto 13, 3) := by decide +kernel
theorem dX5_measure_42 : decode cX5_measure 42 = .ok (.iload_n 3, 1) := by decide +kernel
theorem dX5_measure_43 : decode cX5_measure 43 = .ok (.ifCond .ne 8, 3) := by decide +kernel
