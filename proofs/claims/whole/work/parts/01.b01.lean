theorem dX5_measure_46 : decode cX5_measure 46 = .ok (.ldc 21, 2) := by decide +kernel
theorem dX5_measure_48 : decode cX5_measure 48 = .ok (.goto 4, 3) := by decide +kernel
theorem dX5_measure_51 : decode cX5_measure 51 = .ok (.iload_n 3, 1) := by decide +kernel
theorem dX5_measure_52 : decode cX5_measure 52 = .ok (.iastore, 1) := by decide +kernel
theorem dX5_measure_53 : decode cX5_measure 53 = .ok (.iinc 2 1, 3) := by decide +kernel
theorem dX5_measure_56 : decode cX5_measure 56 = .ok (.goto (-46), 3) := by decide +kernel
theorem dX5_measure_59 : decode cX5_measure 59 = .ok (.iinc 1 1, 3) := by decide +kernel
theorem dX5_measure_62 : decode cX5_measure 62 = .ok (.goto (-60), 3) := by decide +kernel
theorem dX5_measure_65 : decode cX5_measure 65 = .ok (.iconst 0, 1) := by decide +kernel
theorem dX5_measure_66 : decode cX5_measure 66 = .ok (.istore_n 1, 1) := by decide +kernel
theorem dX5_measure_67 : decode cX5_measure 67 = .ok (.iload_n 1, 1) := by decide +kernel
theorem dX5_measure_68 : decode cX5_measure 68 = .ok (.bipush 6, 2) := by decide +kernel
theorem dX5_measure_70 : decode cX5_measure 70 = .ok (.if_icmp .ge 89, 3) := by decide +kernel
theorem dX5_measure_73 : decode cX5_measure 73 = .ok (.iconst 0, 1) := by decide +kernel
theorem dX5_measure_74 : decode cX5_measure 74 = .ok (.istore_n 2, 1) := by decide +kernel
theorem dX5_measure_75 : decode cX5_measure 75 = .ok (.iload_n 2, 1) := by decide +kernel
theorem dX5_measure_76 : decode cX5_measure 76 = .ok (.bipush 6, 2) := by decide +kernel
theorem dX5_measure_78 : decode cX5_measure 78 = .ok (.if_icmp .ge 75, 3) := by decide +kernel
theorem dX5_measure_81 : decode cX5_measure 81 = .ok (.iconst 0, 1) := by decide +kernel
theorem dX5_measure_82 : decode cX5_measure 82 = .ok (.istore_n 3, 1) := by decide +kernel
theorem dX5_measure_83 : decode cX5_measure 83 = .ok (.iload_n 3, 1) := by decide +kernel
theorem dX5_measure_84 : decode cX5_measure 84 = .ok (.bipush 6, 2) := by decide +kernel
theorem dX5_measure_86 : decode cX5_measure 86 = .ok (.if_icmp .ge 61, 3) := by decide +kernel
theorem dX5_measure_89 : decode cX5_measure 89 = .ok (.aload_n 0, 1) := by decide +kernel
theorem dX5_measure_90 : decode cX5_measure 90 = .ok (.getfield 15, 3) := by decide +kernel
theorem dX5_measure_93 : decode cX5_measure 93 = .ok (.iload_n 2, 1) := by decide +kernel
theorem dX5_measure_94 : decode cX5_measure 94 = .ok (.bipush 6, 2) := by decide +kernel
theorem dX5_measure_96 : decode cX5_measure 96 = .ok (.imul, 1) := by decide +kernel
theorem dX5_measure_97 : decode cX5_measure 97 = .ok (.iload_n 1, 1) := by decide +kernel
theorem dX5_measure_98 : decode cX5_measure 98 = .ok (.iadd, 1) := by decide +kernel
theorem dX5_measure_99 : decode cX5_measure 99 = .ok (.iaload, 1) := by decide +kernel
theorem dX5_measure_100 : decode cX5_measure 100 = .ok (.aload_n 0, 1) := by decide +kernel
theorem dX5_measure_101 : decode cX5_measure 101 = .ok (.getfield 15, 3) := by decide +kernel
theorem dX5_measure_104 : decode cX5_measure 104 = .ok (.iload_n 1, 1) := by decide +kernel
theorem dX5_measure_105 : decode cX5_measure 105 = .ok (.bipush 6, 2) := by decide +kernel
theorem dX5_measure_107 : decode cX5_measure 107 = .ok (.imul, 1) := by decide +kernel
theorem dX5_measure_108 : decode cX5_measure 108 = .ok (.iload_n 3, 1) := by decide +kernel
theorem dX5_measure_109 : decode cX5_measure 109 = .ok (.iadd, 1) := by decide +kernel
theorem dX5_measure_110 : decode cX5_measure 110 = .ok (.iaload, 1) := by decide +kernel
theorem dX5_measure_111 : decode cX5_measure 111 = .ok (.iadd, 1) := by decide +kernel
theorem dX5_measure_112 : decode cX5_measure 112 = .ok (.istore 4, 2) := by decide +kernel
theorem dX5_measure_114 : decode cX5_measure 114 = .ok (.aload_n 0, 1) := by decide +kernel
theorem dX5_measure_115 : decode cX5_measure 115 = .ok (.getfield 15, 3) := by decide +kernel
theorem dX5_measure_118 : decode cX5_measure 118 = .ok (.iload_n 2, 1) := by decide +kernel
theorem dX5_measure_119 : decode cX5_measure 119 = .ok (.bipush 6, 2) := by decide +kernel
theorem dX5_measure_121 : decode cX5_measure 121 = .ok (.imul, 1) := by decide +kernel
theorem dX5_measure_122 : decode cX5_measure 122 = .ok (.iload_n 3, 1) := by decide +kernel
theorem dX5_measure_123 : decode cX5_measure 123 = .ok (.iadd, 1) := by decide +kernel
theorem dX5_measure_124 : decode cX5_measure 124 = .ok (.aload_n 0, 1) := by decide +kernel
theorem dX5_measure_125 : decode cX5_measure 125 = .ok (.getfield 15, 3) := by decide +kernel
theorem dX5_measure_128 : decode cX5_measure 128 = .ok (.iload_n 2, 1) := by decide +kernel
theorem dX5_measure_129 : decode cX5_measure 129 = .ok (.bipush 6, 2) := by decide +kernel
theorem dX5_measure_131 : decode cX5_measure 131 = .ok (.imul, 1) := by decide +kernel
theorem dX5_measure_132 : decode cX5_measure 132 = .ok (.iload_n 3, 1) := by decide +kernel
theorem dX5_measure_133 : decode cX5_measure 133 = .ok (.iadd, 1) := by decide +kernel
theorem dX5_measure_134 : decode cX5_measure 134 = .ok (.iaload, 1) := by decide +kernel
theorem dX5_measure_135 : decode cX5_measure 135 = .ok (.iload 4, 2) := by decide +kernel
theorem dX5_measure_137 : decode cX5_measure 137 = .ok (.invokestatic 27, 3) := by decide +kernel
theorem dX5_measure_140 : decode cX5_measure 140 = .ok (.iastore, 1) := by decide +kernel
theorem dX5_measure_141 : decode cX5_measure 141 = .ok (.iinc 3 1, 3) := by decide +kernel
theorem dX5_measure_144 : decode cX5_measure 144 = .ok (.goto (-61), 3) := by decide +kernel
theorem dX5_measure_147 : decode cX5_measure 147 = .ok (.iinc 2 1, 3) := by decide +kernel
theorem dX5_measure_150 : decode cX5_measure 150 = .ok (.goto (-75), 3) := by decide +kernel
theorem dX5_measure_153 : decode cX5_measure 153 = .ok (.iinc 1 1, 3) := by decide +kernel
theorem dX5_measure_156 : decode cX5_measure 156 = .ok (.goto (-89), 3) := by decide +kernel
theorem dX5_measure_159 : decode cX5_measure 159 = .ok (.return_, 1) := by decide +kernel
theorem dX6_init_0 : decode cX6_init 0 = .ok (.aload_n 0, 1) := by decide +kernel
theorem dX6_init_1 : decode cX6_init 1 = .ok (.invokespecial 1, 3) := by decide +kernel
theorem dX6_init_4 : decode cX6_init 4 = .ok (.aload_n 0, 1) := by decide +kernel
theorem dX6_init_5 : decode cX6_init 5 = .ok (.bipush 60, 2) := by decide +kernel
theorem dX6_init_7 : decode cX6_init 7 = .ok (.newarray .int, 2) := by decide +kernel
theorem dX6_init_9 : decode cX6_init 9 = .ok (.putfield 9, 3) := by decide +kernel
theorem dX6_init_12 : decode cX6_init 12 = .ok (.aload_n 0, 1) := by decide +kernel
theorem dX6_init_13 : decode cX6_init 13 = .ok (.iconst (-1), 1) := by decide +kernel
theorem dX6_init_14 : decode cX6_init 14 = .ok (.putfield 13, 3) := by decide +kernel
theorem dX6_init_17 : decode cX6_init 17 = .ok (.aload_n 0, 1) := by decide +kernel
theorem dX6_init_18 : decode cX6_init 18 = .ok (.iconst 0, 1) := by decide +kernel
theorem dX6_init_19 : decode cX6_init 19 = .ok (.putfield 17, 3) := by decide +kernel
theorem dX6_init_22 : decode cX6_init 22 = .ok (.return_, 1) := by decide +kernel
theorem dX6_isMissing_0 : decode cX6_isMissing 0 = .ok (.aload_n 0, 1) := by decide +kernel
theorem dX6_isMissing_1 : decode cX6_isMissing 1 = .ok (.getfield 13, 3) := by decide +kernel
theorem dX6_isMissing_4 : decode cX6_isMissing 4 = .ok (.iconst (-1), 1) := by decide +kernel
theorem dX6_isMissing_5 : decode cX6_isMissing 5 = .ok (.if_icmp .ne 7, 3) := by decide +kernel
theorem dX6_isMissing_8 : decode cX6_isMissing 8 = .ok (.iconst 1, 1) := by decide +kernel
theorem dX6_isMissing_9 : decode cX6_isMissing 9 = .ok (.goto 4, 3) := by decide +kernel
theorem dX6_isMissing_12 : decode cX6_isMissing 12 = .ok (.iconst 0, 1) := by decide +kernel
theorem dX6_isMissing_13 : decode cX6_isMissing 13 = .ok (.ireturn, 1) := by decide +kernel
theorem dX6_begin_0 : decode cX6_begin 0 = .ok (.aload_n 0, 1) := by decide +kernel
theorem dX6_begin_1 : decode cX6_begin 1 = .ok (.iload_n 1, 1) := by decide +kernel
theorem dX6_begin_2 : decode cX6_begin 2 = .ok (.putfield 13, 3) := by decide +kernel
theorem dX6_begin_5 : decode cX6_begin 5 = .ok (.aload_n 0, 1) := by decide +kernel
theorem dX6_begin_6 : decode cX6_begin 6 = .ok (.iload_n 2, 1) := by decide +kernel
theorem dX6_begin_7 : decode cX6_begin 7 = .ok (.bipush 60, 2) := by decide +kernel
theorem dX6_begin_9 : decode cX6_begin 9 = .ok (.invokestatic 20, 3) := by decide +kernel
theorem dX6_begin_12 : decode cX6_begin 12 = .ok (.putfield 17, 3) := by decide +kernel
theorem dX6_begin_15 : decode cX6_begin 15 = .ok (.iconst 0, 1) := by decide +kernel
theorem dX6_begin_16 : decode cX6_begin 16 = .ok (.istore_n 3, 1) := by decide +kernel
theorem dX6_begin_17 : decode cX6_begin 17 = .ok (.iload_n 3, 1) := by decide +kernel
theorem dX6_begin_18 : decode cX6_begin 18 = .ok (.aload_n 0, 1) := by decide +kernel
theorem dX6_begin_19 : decode cX6_begin 19 = .ok (.getfield 17, 3) := by decide +kernel
theorem dX6_begin_22 : decode cX6_begin 22 = .ok (.if_icmp .ge 16, 3) := by decide +kernel
theorem dX6_begin_25 : decode cX6_begin 25 = .ok (.aload_n 0, 1) := by decide +kernel
theorem dX6_begin_26 : decode cX6_begin 26 = .ok (.getfield 9, 3) := by decide +kernel
theorem dX6_begin_29 : decode cX6_begin 29 = .ok (.iload_n 3, 1) := by decide +kernel
theorem dX6_begin_30 : decode cX6_begin 30 = .ok (.iconst 0, 1) := by decide +kernel
theorem dX6_begin_31 : decode cX6_begin 31 = .ok (.iastore, 1) := by decide +kernel
theorem dX6_begin_32 : decode cX6_begin 32 = .ok (.iinc 3 1, 3) := by decide +kernel
theorem dX6_begin_35 : decode cX6_begin 35 = .ok (.goto (-18), 3) := by decide +kernel
theorem dX6_begin_38 : decode cX6_begin 38 = .ok (.return_, 1) := by decide +kernel
theorem dX6_discard_0 : decode cX6_discard 0 = .ok (.aload_n 0, 1) := by decide +kernel
theorem dX6_discard_1 : decode cX6_discard 1 = .ok (.iconst (-1), 1) := by decide +kernel
theorem dX6_discard_2 : decode cX6_discard 2 = .ok (.putfield 13, 3) := by decide +kernel
theorem dX6_discard_5 : decode cX6_discard 5 = .ok (.aload_n 0, 1) := by decide +kernel
theorem dX6_discard_6 : decode cX6_discard 6 = .ok (.iconst 0, 1) := by decide +kernel
theorem dX6_discard_7 : decode cX6_discard 7 = .ok (.putfield 17, 3) := by decide +kernel
theorem dX6_discard_10 : decode cX6_discard 10 = .ok (.return_, 1) := by decide +kernel
theorem dX6_hasPlaces_0 : decode cX6_hasPlaces 0 = .ok (.iload_n 1, 1) := by decide +kernel
theorem dX6_hasPlaces_1 : decode cX6_hasPlaces 1 = .ok (.ifCond .lt 21, 3) := by decide +kernel
theorem dX6_hasPlaces_4 : decode cX6_hasPlaces 4 = .ok (.iload_n 2, 1) := by decide +kernel
theorem dX6_hasPlaces_5 : decode cX6_hasPlaces 5 = .ok (.ifCond .lt 17, 3) := by decide +kernel
theorem dX6_hasPlaces_8 : decode cX6_hasPlaces 8 = .ok (.iload_n 2, 1) := by decide +kernel
theorem dX6_hasPlaces_9 : decode cX6_hasPlaces 9 = .ok (.aload_n 0, 1) := by decide +kernel
theorem dX6_hasPlaces_10 : decode cX6_hasPlaces 10 = .ok (.getfield 17, 3) := by decide +kernel
theorem dX6_hasPlaces_13 : decode cX6_hasPlaces 13 = .ok (.iload_n 1, 1) := by decide +kernel
theorem dX6_hasPlaces_14 : decode cX6_hasPlaces 14 = .ok (.isub, 1) := by decide +kernel
theorem dX6_hasPlaces_15 : decode cX6_hasPlaces 15 = .ok (.if_icmp .gt 7, 3) := by decide +kernel
theorem dX6_hasPlaces_18 : decode cX6_hasPlaces 18 = .ok (.iconst 1, 1) := by decide +kernel
theorem dX6_hasPlaces_19 : decode cX6_hasPlaces 19 = .ok (.goto 4, 3) := by decide +kernel
theorem dX6_hasPlaces_22 : decode cX6_hasPlaces 22 = .ok (.iconst 0, 1) := by decide +kernel
theorem dX6_hasPlaces_23 : decode cX6_hasPlaces 23 = .ok (.ireturn, 1) := by decide +kernel
theorem dX6_put_0 : decode cX6_put 0 = .ok (.aload_n 0, 1) := by decide +kernel
theorem dX6_put_1 : decode cX6_put 1 = .ok (.getfield 13, 3) := by decide +kernel
theorem dX6_put_4 : decode cX6_put 4 = .ok (.ifCond .ne 8, 3) := by decide +kernel
theorem dX6_put_7 : decode cX6_put 7 = .ok (.iload_n 2, 1) := by decide +kernel
theorem dX6_put_8 : decode cX6_put 8 = .ok (.i2b, 1) := by decide +kernel
theorem dX6_put_9 : decode cX6_put 9 = .ok (.goto 17, 3) := by decide +kernel
theorem dX6_put_12 : decode cX6_put 12 = .ok (.aload_n 0, 1) := by decide +kernel
theorem dX6_put_13 : decode cX6_put 13 = .ok (.getfield 13, 3) := by decide +kernel
theorem dX6_put_16 : decode cX6_put 16 = .ok (.iconst 1, 1) := by decide +kernel
theorem dX6_put_17 : decode cX6_put 17 = .ok (.if_icmp .ne 8, 3) := by decide +kernel
theorem dX6_put_20 : decode cX6_put 20 = .ok (.iload_n 2, 1) := by decide +kernel
theorem dX6_put_21 : decode cX6_put 21 = .ok (.i2s, 1) := by decide +kernel
theorem dX6_put_22 : decode cX6_put 22 = .ok (.goto 4, 3) := by decide +kernel
theorem dX6_put_25 : decode cX6_put 25 = .ok (.iload_n 2, 1) := by decide +kernel
theorem dX6_put_26 : decode cX6_put 26 = .ok (.istore_n 3, 1) := by decide +kernel
theorem dX6_put_27 : decode cX6_put 27 = .ok (.aload_n 0, 1) := by decide +kernel
theorem dX6_put_28 : decode cX6_put 28 = .ok (.iload_n 1, 1) := by decide +kernel
theorem dX6_put_29 : decode cX6_put 29 = .ok (.iconst 1, 1) := by decide +kernel
theorem dX6_put_30 : decode cX6_put 30 = .ok (.invokevirtual 26, 3) := by decide +kernel
theorem dX6_put_33 : decode cX6_put 33 = .ok (.ifCond .eq 10, 3) := by decide +kernel
theorem dX6_put_36 : decode cX6_put 36 = .ok (.aload_n 0, 1) := by decide +kernel
theorem dX6_put_37 : decode cX6_put 37 = .ok (.getfield 9, 3) := by decide +kernel
theorem dX6_put_40 : decode cX6_put 40 = .ok (.iload_n 1, 1) := by decide +kernel
theorem dX6_put_41 : decode cX6_put 41 = .ok (.iload_n 3, 1) := by decide +kernel
theorem dX6_put_42 : decode cX6_put 42 = .ok (.iastore, 1) := by decide +kernel
theorem dX6_put_43 : decode cX6_put 43 = .ok (.iload_n 3, 1) := by decide +kernel
theorem dX6_put_44 : decode cX6_put 44 = .ok (.ireturn, 1) := by decide +kernel
theorem dX7_init_0 : decode cX7_init 0 = .ok (.aload_n 0, 1) := by decide +kernel
theorem dX7_init_1 : decode cX7_init 1 = .ok (.invokespecial 1, 3) := by decide +kernel
theorem dX7_init_4 : decode cX7_init 4 = .ok (.aload_n 0, 1) := by decide +kernel
theorem dX7_init_5 : decode cX7_init 5 = .ok (.sipush 400, 3) := by decide +kernel
theorem dX7_init_8 : decode cX7_init 8 = .ok (.newarray .byte, 2) := by decide +kernel
theorem dX7_init_10 : decode cX7_init 10 = .ok (.putfield 9, 3) := by decide +kernel
theorem dX7_init_13 : decode cX7_init 13 = .ok (.aload_n 0, 1) := by decide +kernel
theorem dX7_init_14 : decode cX7_init 14 = .ok (.iconst 0, 1) := by decide +kernel
theorem dX7_init_15 : decode cX7_init 15 = .ok (.putfield 13, 3) := by decide +kernel
theorem dX7_init_18 : decode cX7_init 18 = .ok (.aload_n 0, 1) := by decide +kernel
theorem dX7_init_19 : decode cX7_init 19 = .ok (.iconst 0, 1) := by decide +kernel
theorem dX7_init_20 : decode cX7_init 20 = .ok (.putfield 17, 3) := by decide +kernel
theorem dX7_init_23 : decode cX7_init 23 = .ok (.aload_n 0, 1) := by decide +kernel
theorem dX7_init_24 : decode cX7_init 24 = .ok (.iconst 0, 1) := by decide +kernel
theorem dX7_init_25 : decode cX7_init 25 = .ok (.putfield 20, 3) := by decide +kernel
theorem dX7_init_28 : decode cX7_init 28 = .ok (.aload_n 0, 1) := by decide +kernel
theorem dX7_init_29 : decode cX7_init 29 = .ok (.iconst 0, 1) := by decide +kernel
theorem dX7_init_30 : decode cX7_init 30 = .ok (.putfield 23, 3) := by decide +kernel
theorem dX7_init_33 : decode cX7_init 33 = .ok (.aload_n 0, 1) := by decide +kernel
theorem dX7_init_34 : decode cX7_init 34 = .ok (.iconst 0, 1) := by decide +kernel
theorem dX7_init_35 : decode cX7_init 35 = .ok (.putfield 26, 3) := by decide +kernel
theorem dX7_init_38 : decode cX7_init 38 = .ok (.return_, 1) := by decide +kernel
theorem dX7_hasRoom_0 : decode cX7_hasRoom 0 = .ok (.iload_n 1, 1) := by decide +kernel
theorem dX7_hasRoom_1 : decode cX7_hasRoom 1 = .ok (.sipush 400, 3) := by decide +kernel
theorem dX7_hasRoom_4 : decode cX7_hasRoom 4 = .ok (.aload_n 0, 1) := by decide +kernel
theorem dX7_hasRoom_5 : decode cX7_hasRoom 5 = .ok (.getfield 17, 3) := by decide +kernel
theorem dX7_hasRoom_8 : decode cX7_hasRoom 8 = .ok (.isub, 1) := by decide +kernel
theorem dX7_hasRoom_9 : decode cX7_hasRoom 9 = .ok (.if_icmp .gt 7, 3) := by decide +kernel
theorem dX7_hasRoom_12 : decode cX7_hasRoom 12 = .ok (.iconst 1, 1) := by decide +kernel
theorem dX7_hasRoom_13 : decode cX7_hasRoom 13 = .ok (.goto 4, 3) := by decide +kernel
theorem dX7_hasRoom_16 : decode cX7_hasRoom 16 = .ok (.iconst 0, 1) := by decide +kernel
theorem dX7_hasRoom_17 : decode cX7_hasRoom 17 = .ok (.ireturn, 1) := by decide +kernel
theorem dX7_append_0 : decode cX7_append 0 = .ok (.iload_n 3, 1) := by decide +kernel
theorem dX7_append_1 : decode cX7_append 1 = .ok (.iconst 1, 1) := by decide +kernel
theorem dX7_append_2 : decode cX7_append 2 = .ok (.isub, 1) := by decide +kernel
theorem dX7_append_3 : decode cX7_append 3 = .ok (.istore 4, 2) := by decide +kernel
theorem dX7_append_5 : decode cX7_append 5 = .ok (.iload 4, 2) := by decide +kernel
theorem dX7_append_7 : decode cX7_append 7 = .ok (.ifCond .lt 47, 3) := by decide +kernel
theorem dX7_append_10 : decode cX7_append 10 = .ok (.aload_n 0, 1) := by decide +kernel
theorem dX7_append_11 : decode cX7_append 11 = .ok (.getfield 17, 3) := by decide +kernel
theorem dX7_append_14 : decode cX7_append 14 = .ok (.sipush 400, 3) := by decide +kernel
theorem dX7_append_17 : decode cX7_append 17 = .ok (.if_icmp .ge 37, 3) := by decide +kernel
theorem dX7_append_20 : decode cX7_append 20 = .ok (.aload_n 0, 1) := by decide +kernel
theorem dX7_append_21 : decode cX7_append 21 = .ok (.getfield 9, 3) := by decide +kernel
theorem dX7_append_24 : decode cX7_append 24 = .ok (.aload_n 0, 1) := by decide +kernel
theorem dX7_append_25 : decode cX7_append 25 = .ok (.getfield 17, 3) := by decide +kernel
theorem dX7_append_28 : decode cX7_append 28 = .ok (.lload_n 1, 1) := by decide +kernel
theorem dX7_append_29 : decode cX7_append 29 = .ok (.iload 4, 2) := by decide +kernel
theorem dX7_append_31 : decode cX7_append 31 = .ok (.bipush 8, 2) := by decide +kernel
theorem dX7_append_33 : decode cX7_append 33 = .ok (.imul, 1) := by decide +kernel
theorem dX7_append_34 : decode cX7_append 34 = .ok (.lushr, 1) := by decide +kernel
theorem dX7_append_35 : decode cX7_append 35 = .ok (.l2i, 1) := by decide +kernel
theorem dX7_append_36 : decode cX7_append 36 = .ok (.i2b, 1) := by decide +kernel
theorem dX7_append_37 : decode cX7_append 37 = .ok (.bastore, 1) := by decide +kernel
theorem dX7_append_38 : decode cX7_append 38 = .ok (.aload_n 0, 1) := by decide +kernel
theorem dX7_append_39 : decode cX7_append 39 = .ok (.dup, 1) := by decide +kernel
theorem dX7_append_40 : decode cX7_append 40 = .ok (.getfield 17, 3) := by decide +kernel
theorem dX7_append_43 : decode cX7_append 43 = .ok (.iconst 1, 1) := by decide +kernel
theorem dX7_append_44 : decode cX7_append 44 = .ok (.iadd, 1) := by decide +kernel
theorem dX7_append_45 : decode cX7_append 45 = .ok (.putfield 17, 3) := by decide +kernel
theorem dX7_append_48 : decode cX7_append 48 = .ok (.iinc 4 (-1), 3) := by decide +kernel
theorem dX7_append_51 : decode cX7_append 51 = .ok (.goto (-46), 3) := by decide +kernel
theorem dX7_append_54 : decode cX7_append 54 = .ok (.return_, 1) := by decide +kernel
theorem dX7_empty_0 : decode cX7_empty 0 = .ok (.aload_n 0, 1) := by decide +kernel
theorem dX7_empty_1 : decode cX7_empty 1 = .ok (.iconst 0, 1) := by decide +kernel
theorem dX7_empty_2 : decode cX7_empty 2 = .ok (.putfield 17, 3) := by decide +kernel
theorem dX7_empty_5 : decode cX7_empty 5 = .ok (.return_, 1) := by decide +kernel
theorem dX7_rewind_0 : decode cX7_rewind 0 = .ok (.aload_n 0, 1) := by decide +kernel
theorem dX7_rewind_1 : decode cX7_rewind 1 = .ok (.iconst 0, 1) := by decide +kernel
theorem dX7_rewind_2 : decode cX7_rewind 2 = .ok (.putfield 13, 3) := by decide +kernel
theorem dX7_rewind_5 : decode cX7_rewind 5 = .ok (.return_, 1) := by decide +kernel
theorem dX7_readToken_0 : decode cX7_readToken 0 = .ok (.aload_n 0, 1) := by decide +kernel
theorem dX7_readToken_1 : decode cX7_readToken 1 = .ok (.getfield 13, 3) := by decide +kernel
theorem dX7_readToken_4 : decode cX7_readToken 4 = .ok (.istore_n 1, 1) := by decide +kernel
theorem dX7_readToken_5 : decode cX7_readToken 5 = .ok (.iload_n 1, 1) := by decide +kernel
theorem dX7_readToken_6 : decode cX7_readToken 6 = .ok (.aload_n 0, 1) := by decide +kernel
theorem dX7_readToken_7 : decode cX7_readToken 7 = .ok (.getfield 17, 3) := by decide +kernel
theorem dX7_readToken_10 : decode cX7_readToken 10 = .ok (.if_icmp .ge 31, 3) := by decide +kernel
theorem dX7_readToken_13 : decode cX7_readToken 13 = .ok (.aload_n 0, 1) := by decide +kernel
theorem dX7_readToken_14 : decode cX7_readToken 14 = .ok (.getfield 9, 3) := by decide +kernel
theorem dX7_readToken_17 : decode cX7_readToken 17 = .ok (.iload_n 1, 1) := by decide +kernel
theorem dX7_readToken_18 : decode cX7_readToken 18 = .ok (.baload, 1) := by decide +kernel
theorem dX7_readToken_19 : decode cX7_readToken 19 = .ok (.bipush 32, 2) := by decide +kernel
theorem dX7_readToken_21 : decode cX7_readToken 21 = .ok (.if_icmp .eq 14, 3) := by decide +kernel
theorem dX7_readToken_24 : decode cX7_readToken 24 = .ok (.aload_n 0, 1) := by decide +kernel
theorem dX7_readToken_25 : decode cX7_readToken 25 = .ok (.getfield 9, 3) := by decide +kernel
theorem dX7_readToken_28 : decode cX7_readToken 28 = .ok (.iload_n 1, 1) := by decide +kernel
theorem dX7_readToken_29 : decode cX7_readToken 29 = .ok (.baload, 1) := by decide +kernel
theorem dX7_readToken_30 : decode cX7_readToken 30 = .ok (.bipush 10, 2) := by decide +kernel
theorem dX7_readToken_32 : decode cX7_readToken 32 = .ok (.if_icmp .ne 9, 3) := by decide +kernel
theorem dX7_readToken_35 : decode cX7_readToken 35 = .ok (.iinc 1 1, 3) := by decide +kernel
theorem dX7_readToken_38 : decode cX7_readToken 38 = .ok (.goto (-33), 3) := by decide +kernel
theorem dX7_readToken_41 : decode cX7_readToken 41 = .ok (.aload_n 0, 1) := by decide +kernel
theorem dX7_readToken_42 : decode cX7_readToken 42 = .ok (.iload_n 1, 1) := by decide +kernel
theorem dX7_readToken_43 : decode cX7_readToken 43 = .ok (.putfield 23, 3) := by decide +kernel
theorem dX7_readToken_46 : decode cX7_readToken 46 = .ok (.iload_n 1, 1) := by decide +kernel
theorem dX7_readToken_47 : decode cX7_readToken 47 = .ok (.aload_n 0, 1) := by decide +kernel
theorem dX7_readToken_48 : decode cX7_readToken 48 = .ok (.getfield 17, 3) := by decide +kernel
theorem dX7_readToken_51 : decode cX7_readToken 51 = .ok (.if_icmp .lt 19, 3) := by decide +kernel
theorem dX7_readToken_54 : decode cX7_readToken 54 = .ok (.aload_n 0, 1) := by decide +kernel
theorem dX7_readToken_55 : decode cX7_readToken 55 = .ok (.iconst 0, 1) := by decide +kernel
theorem dX7_readToken_56 : decode cX7_readToken 56 = .ok (.putfield 20, 3) := by decide +kernel
theorem dX7_readToken_59 : decode cX7_readToken 59 = .ok (.aload_n 0, 1) := by decide +kernel
theorem dX7_readToken_60 : decode cX7_readToken 60 = .ok (.aload_n 0, 1) := by decide +kernel
theorem dX7_readToken_61 : decode cX7_readToken 61 = .ok (.getfield 17, 3) := by decide +kernel
theorem dX7_readToken_64 : decode cX7_readToken 64 = .ok (.putfield 13, 3) := by decide +kernel
theorem dX7_readToken_67 : decode cX7_readToken 67 = .ok (.goto 135, 3) := by decide +kernel
theorem dX7_readToken_70 : decode cX7_readToken 70 = .ok (.aload_n 0, 1) := by decide +kernel
theorem dX7_readToken_71 : decode cX7_readToken 71 = .ok (.iload_n 1, 1) := by decide +kernel
theorem dX7_readToken_72 : decode cX7_readToken 72 = .ok (.bipush 97, 2) := by decide +kernel
theorem dX7_readToken_74 : decode cX7_readToken 74 = .ok (.bipush 122, 2) := by decide +kernel
theorem dX7_readToken_76 : decode cX7_readToken 76 = .ok (.invokevirtual 29, 3) := by decide +kernel
theorem dX7_readToken_79 : decode cX7_readToken 79 = .ok (.ifCond .eq 24, 3) := by decide +kernel
theorem dX7_readToken_82 : decode cX7_readToken 82 = .ok (.aload_n 0, 1) := by decide +kernel
theorem dX7_readToken_83 : decode cX7_readToken 83 = .ok (.iconst 1, 1) := by decide +kernel
theorem dX7_readToken_84 : decode cX7_readToken 84 = .ok (.putfield 20, 3) := by decide +kernel
theorem dX7_readToken_87 : decode cX7_readToken 87 = .ok (.aload_n 0, 1) := by decide +kernel
theorem dX7_readToken_88 : decode cX7_readToken 88 = .ok (.aload_n 0, 1) := by decide +kernel
theorem dX7_readToken_89 : decode cX7_readToken 89 = .ok (.iload_n 1, 1) := by decide +kernel
theorem dX7_readToken_90 : decode cX7_readToken 90 = .ok (.bipush 97, 2) := by decide +kernel
theorem dX7_readToken_92 : decode cX7_readToken 92 = .ok (.bipush 122, 2) := by decide +kernel
theorem dX7_readToken_94 : decode cX7_readToken 94 = .ok (.invokevirtual 33, 3) := by decide +kernel
theorem dX7_readToken_97 : decode cX7_readToken 97 = .ok (.putfield 13, 3) := by decide +kernel
theorem dX7_readToken_100 : decode cX7_readToken 100 = .ok (.goto 102, 3) := by decide +kernel
theorem dX7_readToken_103 : decode cX7_readToken 103 = .ok (.aload_n 0, 1) := by decide +kernel
theorem dX7_readToken_104 : decode cX7_readToken 104 = .ok (.iload_n 1, 1) := by decide +kernel
theorem dX7_readToken_105 : decode cX7_readToken 105 = .ok (.bipush 48, 2) := by decide +kernel
theorem dX7_readToken_107 : decode cX7_readToken 107 = .ok (.bipush 57, 2) := by decide +kernel
theorem dX7_readToken_109 : decode cX7_readToken 109 = .ok (.invokevirtual 29, 3) := by decide +kernel
theorem dX7_readToken_112 : decode cX7_readToken 112 = .ok (.ifCond .eq 63, 3) := by decide +kernel
theorem dX7_readToken_115 : decode cX7_readToken 115 = .ok (.aload_n 0, 1) := by decide +kernel
theorem dX7_readToken_116 : decode cX7_readToken 116 = .ok (.aload_n 0, 1) := by decide +kernel
theorem dX7_readToken_117 : decode cX7_readToken 117 = .ok (.iload_n 1, 1) := by decide +kernel
theorem dX7_readToken_118 : decode cX7_readToken 118 = .ok (.bipush 48, 2) := by decide +kernel
theorem dX7_readToken_120 : decode cX7_readToken 120 = .ok (.bipush 57, 2) := by decide +kernel
theorem dX7_readToken_122 : decode cX7_readToken 122 = .ok (.invokevirtual 33, 3) := by decide +kernel
theorem dX7_readToken_125 : decode cX7_readToken 125 = .ok (.putfield 13, 3) := by decide +kernel
theorem dX7_readToken_128 : decode cX7_readToken 128 = .ok (.aload_n 0, 1) := by decide +kernel
theorem dX7_readToken_129 : decode cX7_readToken 129 = .ok (.aload_n 0, 1) := by decide +kernel
theorem dX7_readToken_130 : decode cX7_readToken 130 = .ok (.getfield 13, 3) := by decide +kernel
theorem dX7_readToken_133 : decode cX7_readToken 133 = .ok (.iload_n 1, 1) := by decide +kernel
theorem dX7_readToken_134 : decode cX7_readToken 134 = .ok (.isub, 1) := by decide +kernel
theorem dX7_readToken_135 : decode cX7_readToken 135 = .ok (.iconst 4, 1) := by decide +kernel
theorem dX7_readToken_136 : decode cX7_readToken 136 = .ok (.if_icmp .le 7, 3) := by decide +kernel
theorem dX7_readToken_139 : decode cX7_readToken 139 = .ok (.iconst 4, 1) := by decide +kernel
theorem dX7_readToken_140 : decode cX7_readToken 140 = .ok (.goto 4, 3) := by decide +kernel
theorem dX7_readToken_143 : decode cX7_readToken 143 = .ok (.iconst 2, 1) := by decide +kernel
theorem dX7_readToken_144 : decode cX7_readToken 144 = .ok (.putfield 20, 3) := by decide +kernel
theorem dX7_readToken_147 : decode cX7_readToken 147 = .ok (.aload_n 0, 1) := by decide +kernel
theorem dX7_readToken_148 : decode cX7_readToken 148 = .ok (.aload_n 0, 1) := by decide +kernel
theorem dX7_readToken_149 : decode cX7_readToken 149 = .ok (.getfield 20, 3) := by decide +kernel
theorem dX7_readToken_152 : decode cX7_readToken 152 = .ok (.iconst 2, 1) := by decide +kernel
theorem dX7_readToken_153 : decode cX7_readToken 153 = .ok (.if_icmp .ne 15, 3) := by decide +kernel
theorem dX7_readToken_156 : decode cX7_readToken 156 = .ok (.aload_n 0, 1) := by decide +kernel
theorem dX7_readToken_157 : decode cX7_readToken 157 = .ok (.iload_n 1, 1) := by decide +kernel
theorem dX7_readToken_158 : decode cX7_readToken 158 = .ok (.aload_n 0, 1) := by decide +kernel
theorem dX7_readToken_159 : decode cX7_readToken 159 = .ok (.getfield 13, 3) := by decide +kernel
theorem dX7_readToken_162 : decode cX7_readToken 162 = .ok (.invokevirtual 37, 3) := by decide +kernel
theorem dX7_readToken_165 : decode cX7_readToken 165 = .ok (.goto 4, 3) := by decide +kernel
theorem dX7_readToken_168 : decode cX7_readToken 168 = .ok (.iconst 0, 1) := by decide +kernel
theorem dX7_readToken_169 : decode cX7_readToken 169 = .ok (.putfield 26, 3) := by decide +kernel
theorem dX7_readToken_172 : decode cX7_readToken 172 = .ok (.goto 30, 3) := by decide +kernel
theorem dX7_readToken_175 : decode cX7_readToken 175 = .ok (.aload_n 0, 1) := by decide +kernel
theorem dX7_readToken_176 : decode cX7_readToken 176 = .ok (.aload_n 0, 1) := by decide +kernel
theorem dX7_readToken_177 : decode cX7_readToken 177 = .ok (.getfield 9, 3) := by decide +kernel
theorem dX7_readToken_180 : decode cX7_readToken 180 = .ok (.iload_n 1, 1) := by decide +kernel
theorem dX7_readToken_181 : decode cX7_readToken 181 = .ok (.baload, 1) := by decide +kernel
theorem dX7_readToken_182 : decode cX7_readToken 182 = .ok (.bipush 59, 2) := by decide +kernel
theorem dX7_readToken_184 : decode cX7_readToken 184 = .ok (.if_icmp .ne 7, 3) := by decide +kernel
theorem dX7_readToken_187 : decode cX7_readToken 187 = .ok (.iconst 3, 1) := by decide +kernel
theorem dX7_readToken_188 : decode cX7_readToken 188 = .ok (.goto 4, 3) := by decide +kernel
theorem dX7_readToken_191 : decode cX7_readToken 191 = .ok (.iconst 4, 1) := by decide +kernel
theorem dX7_readToken_192 : decode cX7_readToken 192 = .ok (.putfield 20, 3) := by decide +kernel
theorem dX7_readToken_195 : decode cX7_readToken 195 = .ok (.aload_n 0, 1) := by decide +kernel
theorem dX7_readToken_196 : decode cX7_readToken 196 = .ok (.iload_n 1, 1) := by decide +kernel
theorem dX7_readToken_197 : decode cX7_readToken 197 = .ok (.iconst 1, 1) := by decide +kernel
theorem dX7_readToken_198 : decode cX7_readToken 198 = .ok (.iadd, 1) := by decide +kernel
theorem dX7_readToken_199 : decode cX7_readToken 199 = .ok (.putfield 13, 3) := by decide +kernel
theorem dX7_readToken_202 : decode cX7_readToken 202 = .ok (.return_, 1) := by decide +kernel
theorem dX7_isName_0 : decode cX7_isName 0 = .ok (.aload_n 0, 1) := by decide +kernel
theorem dX7_isName_1 : decode cX7_isName 1 = .ok (.getfield 20, 3) := by decide +kernel
theorem dX7_isName_4 : decode cX7_isName 4 = .ok (.iconst 1, 1) := by decide +kernel
theorem dX7_isName_5 : decode cX7_isName 5 = .ok (.if_icmp .ne 19, 3) := by decide +kernel
theorem dX7_isName_8 : decode cX7_isName 8 = .ok (.aload_n 0, 1) := by decide +kernel
theorem dX7_isName_9 : decode cX7_isName 9 = .ok (.getfield 13, 3) := by decide +kernel
theorem dX7_isName_12 : decode cX7_isName 12 = .ok (.aload_n 0, 1) := by decide +kernel
theorem dX7_isName_13 : decode cX7_isName 13 = .ok (.getfield 23, 3) := by decide +kernel
theorem dX7_isName_16 : decode cX7_isName 16 = .ok (.isub, 1) := by decide +kernel
theorem dX7_isName_17 : decode cX7_isName 17 = .ok (.aload_n 1, 1) := by decide +kernel
theorem dX7_isName_18 : decode cX7_isName 18 = .ok (.invokevirtual 41, 3) := by decide +kernel
theorem dX7_isName_21 : decode cX7_isName 21 = .ok (.if_icmp .eq 5, 3) := by decide +kernel
theorem dX7_isName_24 : decode cX7_isName 24 = .ok (.iconst 0, 1) := by decide +kernel
theorem dX7_isName_25 : decode cX7_isName 25 = .ok (.ireturn, 1) := by decide +kernel
theorem dX7_isName_26 : decode cX7_isName 26 = .ok (.iconst 0, 1) := by decide +kernel
theorem dX7_isName_27 : decode cX7_isName 27 = .ok (.istore_n 2, 1) := by decide +kernel
theorem dX7_isName_28 : decode cX7_isName 28 = .ok (.iload_n 2, 1) := by decide +kernel
theorem dX7_isName_29 : decode cX7_isName 29 = .ok (.aload_n 1, 1) := by decide +kernel
theorem dX7_isName_30 : decode cX7_isName 30 = .ok (.invokevirtual 41, 3) := by decide +kernel
theorem dX7_isName_33 : decode cX7_isName 33 = .ok (.if_icmp .ge 30, 3) := by decide +kernel
theorem dX7_isName_36 : decode cX7_isName 36 = .ok (.aload_n 0, 1) := by decide +kernel
theorem dX7_isName_37 : decode cX7_isName 37 = .ok (.getfield 9, 3) := by decide +kernel
theorem dX7_isName_40 : decode cX7_isName 40 = .ok (.aload_n 0, 1) := by decide +kernel
theorem dX7_isName_41 : decode cX7_isName 41 = .ok (.getfield 23, 3) := by decide +kernel
theorem dX7_isName_44 : decode cX7_isName 44 = .ok (.iload_n 2, 1) := by decide +kernel
theorem dX7_isName_45 : decode cX7_isName 45 = .ok (.iadd, 1) := by decide +kernel
theorem dX7_isName_46 : decode cX7_isName 46 = .ok (.baload, 1) := by decide +kernel
theorem dX7_isName_47 : decode cX7_isName 47 = .ok (.aload_n 1, 1) := by decide +kernel
theorem dX7_isName_48 : decode cX7_isName 48 = .ok (.iload_n 2, 1) := by decide +kernel
theorem dX7_isName_49 : decode cX7_isName 49 = .ok (.invokevirtual 46, 3) := by decide +kernel
theorem dX7_isName_52 : decode cX7_isName 52 = .ok (.if_icmp .eq 5, 3) := by decide +kernel
theorem dX7_isName_55 : decode cX7_isName 55 = .ok (.iconst 0, 1) := by decide +kernel
theorem dX7_isName_56 : decode cX7_isName 56 = .ok (.ireturn, 1) := by decide +kernel
theorem dX7_isName_57 : decode cX7_isName 57 = .ok (.iinc 2 1, 3) := by decide +kernel
theorem dX7_isName_60 : decode cX7_isName 60 = .ok (.goto (-32), 3) := by decide +kernel
theorem dX7_isName_63 : decode cX7_isName 63 = .ok (.iconst 1, 1) := by decide +kernel
theorem dX7_isName_64 : decode cX7_isName 64 = .ok (.ireturn, 1) := by decide +kernel
theorem dX7_isAmong_0 : decode cX7_isAmong 0 = .ok (.aload_n 0, 1) := by decide +kernel
theorem dX7_isAmong_1 : decode cX7_isAmong 1 = .ok (.getfield 9, 3) := by decide +kernel
theorem dX7_isAmong_4 : decode cX7_isAmong 4 = .ok (.iload_n 1, 1) := by decide +kernel
theorem dX7_isAmong_5 : decode cX7_isAmong 5 = .ok (.baload, 1) := by decide +kernel
theorem dX7_isAmong_6 : decode cX7_isAmong 6 = .ok (.iload_n 2, 1) := by decide +kernel
theorem dX7_isAmong_7 : decode cX7_isAmong 7 = .ok (.if_icmp .lt 17, 3) := by decide +kernel
theorem dX7_isAmong_10 : decode cX7_isAmong 10 = .ok (.aload_n 0, 1) := by decide +kernel
theorem dX7_isAmong_11 : decode cX7_isAmong 11 = .ok (.getfield 9, 3) := by decide +kernel
theorem dX7_isAmong_14 : decode cX7_isAmong 14 = .ok (.iload_n 1, 1) := by decide +kernel
theorem dX7_isAmong_15 : decode cX7_isAmong 15 = .ok (.baload, 1) := by decide +kernel
theorem dX7_isAmong_16 : decode cX7_isAmong 16 = .ok (.iload_n 3, 1) := by decide +kernel
theorem dX7_isAmong_17 : decode cX7_isAmong 17 = .ok (.if_icmp .gt 7, 3) := by decide +kernel
theorem dX7_isAmong_20 : decode cX7_isAmong 20 = .ok (.iconst 1, 1) := by decide +kernel
theorem dX7_isAmong_21 : decode cX7_isAmong 21 = .ok (.goto 4, 3) := by decide +kernel
theorem dX7_isAmong_24 : decode cX7_isAmong 24 = .ok (.iconst 0, 1) := by decide +kernel
theorem dX7_isAmong_25 : decode cX7_isAmong 25 = .ok (.ireturn, 1) := by decide +kernel
theorem dX7_endOfRun_0 : decode cX7_endOfRun 0 = .ok (.iload_n 1, 1) := by decide +kernel
theorem dX7_endOfRun_1 : decode cX7_endOfRun 1 = .ok (.istore 4, 2) := by decide +kernel
theorem dX7_endOfRun_3 : decode cX7_endOfRun 3 = .ok (.iload 4, 2) := by decide +kernel
theorem dX7_endOfRun_5 : decode cX7_endOfRun 5 = .ok (.aload_n 0, 1) := by decide +kernel
theorem dX7_endOfRun_6 : decode cX7_endOfRun 6 = .ok (.getfield 17, 3) := by decide +kernel
theorem dX7_endOfRun_9 : decode cX7_endOfRun 9 = .ok (.if_icmp .ge 20, 3) := by decide +kernel
theorem dX7_endOfRun_12 : decode cX7_endOfRun 12 = .ok (.aload_n 0, 1) := by decide +kernel
theorem dX7_endOfRun_13 : decode cX7_endOfRun 13 = .ok (.iload 4, 2) := by decide +kernel
theorem dX7_endOfRun_15 : decode cX7_endOfRun 15 = .ok (.iload_n 2, 1) := by decide +kernel
theorem dX7_endOfRun_16 : decode cX7_endOfRun 16 = .ok (.iload_n 3, 1) := by decide +kernel
theorem dX7_endOfRun_17 : decode cX7_endOfRun 17 = .ok (.invokevirtual 29, 3) := by decide +kernel
theorem dX7_endOfRun_20 : decode cX7_endOfRun 20 = .ok (.ifCond .eq 9, 3) := by decide +kernel
theorem dX7_endOfRun_23 : decode cX7_endOfRun 23 = .ok (.iinc 4 1, 3) := by decide +kernel
theorem dX7_endOfRun_26 : decode cX7_endOfRun 26 = .ok (.goto (-23), 3) := by decide +kernel
theorem dX7_endOfRun_29 : decode cX7_endOfRun 29 = .ok (.iload 4, 2) := by decide +kernel
theorem dX7_endOfRun_31 : decode cX7_endOfRun 31 = .ok (.ireturn, 1) := by decide +kernel
theorem dX7_numberAt_0 : decode cX7_numberAt 0 = .ok (.iconst 0, 1) := by decide +kernel
theorem dX7_numberAt_1 : decode cX7_numberAt 1 = .ok (.istore_n 3, 1) := by decide +kernel
theorem dX7_numberAt_2 : decode cX7_numberAt 2 = .ok (.iload_n 1, 1) := by decide +kernel
theorem dX7_numberAt_3 : decode cX7_numberAt 3 = .ok (.istore 4, 2) := by decide +kernel
theorem dX7_numberAt_5 : decode cX7_numberAt 5 = .ok (.iload 4, 2) := by decide +kernel
theorem dX7_numberAt_7 : decode cX7_numberAt 7 = .ok (.iload_n 2, 1) := by decide +kernel
theorem dX7_numberAt_8 : decode cX7_numberAt 8 = .ok (.if_icmp .ge 25, 3) := by decide +kernel
theorem dX7_numberAt_11 : decode cX7_numberAt 11 = .ok (.iload_n 3, 1) := by decide +kernel
theorem dX7_numberAt_12 : decode cX7_numberAt 12 = .ok (.bipush 10, 2) := by decide +kernel
theorem dX7_numberAt_14 : decode cX7_numberAt 14 = .ok (.imul, 1) := by decide +kernel
theorem dX7_numberAt_15 : decode cX7_numberAt 15 = .ok (.aload_n 0, 1) := by decide +kernel
theorem dX7_numberAt_16 : decode cX7_numberAt 16 = .ok (.getfield 9, 3) := by decide +kernel
theorem dX7_numberAt_19 : decode cX7_numberAt 19 = .ok (.iload 4, 2) := by decide +kernel
theorem dX7_numberAt_21 : decode cX7_numberAt 21 = .ok (.baload, 1) := by decide +kernel
theorem dX7_numberAt_22 : decode cX7_numberAt 22 = .ok (.iadd, 1) := by decide +kernel
theorem dX7_numberAt_23 : decode cX7_numberAt 23 = .ok (.bipush 48, 2) := by decide +kernel
theorem dX7_numberAt_25 : decode cX7_numberAt 25 = .ok (.isub, 1) := by decide +kernel
theorem dX7_numberAt_26 : decode cX7_numberAt 26 = .ok (.istore_n 3, 1) := by decide +kernel
theorem dX7_numberAt_27 : decode cX7_numberAt 27 = .ok (.iinc 4 1, 3) := by decide +kernel
theorem dX7_numberAt_30 : decode cX7_numberAt 30 = .ok (.goto (-25), 3) := by decide +kernel
theorem dX7_numberAt_33 : decode cX7_numberAt 33 = .ok (.iload_n 3, 1) := by decide +kernel
theorem dX7_numberAt_34 : decode cX7_numberAt 34 = .ok (.ireturn, 1) := by decide +kernel
theorem dX8_init_0 : decode cX8_init 0 = .ok (.aload_n 0, 1) := by decide +kernel
theorem dX8_init_1 : decode cX8_init 1 = .ok (.invokespecial 3, 3) := by decide +kernel
theorem dX8_init_4 : decode cX8_init 4 = .ok (.aload_n 0, 1) := by decide +kernel
theorem dX8_init_5 : decode cX8_init 5 = .ok (.bipush 16, 2) := by decide +kernel
theorem dX8_init_7 : decode cX8_init 7 = .ok (.newarray .int, 2) := by decide +kernel
theorem dX8_init_9 : decode cX8_init 9 = .ok (.putfield 11, 3) := by decide +kernel
theorem dX8_init_12 : decode cX8_init 12 = .ok (.aload_n 0, 1) := by decide +kernel
theorem dX8_init_13 : decode cX8_init 13 = .ok (.iconst 0, 1) := by decide +kernel
theorem dX8_init_14 : decode cX8_init 14 = .ok (.putfield 15, 3) := by decide +kernel
theorem dX8_init_17 : decode cX8_init 17 = .ok (.return_, 1) := by decide +kernel
theorem dX8_empty_0 : decode cX8_empty 0 = .ok (.aload_n 0, 1) := by decide +kernel
theorem dX8_empty_1 : decode cX8_empty 1 = .ok (.iconst 0, 1) := by decide +kernel
theorem dX8_empty_2 : decode cX8_empty 2 = .ok (.putfield 15, 3) := by decide +kernel
theorem dX8_empty_5 : decode cX8_empty 5 = .ok (.return_, 1) := by decide +kernel
theorem dX8_leave_0 : decode cX8_leave 0 = .ok (.aload_n 0, 1) := by decide +kernel
theorem dX8_leave_1 : decode cX8_leave 1 = .ok (.getfield 15, 3) := by decide +kernel
theorem dX8_leave_4 : decode cX8_leave 4 = .ok (.istore_n 2, 1) := by decide +kernel
theorem dX8_leave_5 : decode cX8_leave 5 = .ok (.iload_n 2, 1) := by decide +kernel
theorem dX8_leave_6 : decode cX8_leave 6 = .ok (.ifCond .lt 23, 3) := by decide +kernel
theorem dX8_leave_9 : decode cX8_leave 9 = .ok (.iload_n 2, 1) := by decide +kernel
theorem dX8_leave_10 : decode cX8_leave 10 = .ok (.bipush 16, 2) := by decide +kernel
theorem dX8_leave_12 : decode cX8_leave 12 = .ok (.if_icmp .ge 17, 3) := by decide +kernel
theorem dX8_leave_15 : decode cX8_leave 15 = .ok (.aload_n 0, 1) := by decide +kernel
theorem dX8_leave_16 : decode cX8_leave 16 = .ok (.getfield 11, 3) := by decide +kernel
theorem dX8_leave_19 : decode cX8_leave 19 = .ok (.iload_n 2, 1) := by decide +kernel
theorem dX8_leave_20 : decode cX8_leave 20 = .ok (.iload_n 1, 1) := by decide +kernel
theorem dX8_leave_21 : decode cX8_leave 21 = .ok (.iastore, 1) := by decide +kernel
theorem dX8_leave_22 : decode cX8_leave 22 = .ok (.aload_n 0, 1) := by decide +kernel
theorem dX8_leave_23 : decode cX8_leave 23 = .ok (.iload_n 2, 1) := by decide +kernel
theorem dX8_leave_24 : decode cX8_leave 24 = .ok (.iconst 1, 1) := by decide +kernel
theorem dX8_leave_25 : decode cX8_leave 25 = .ok (.iadd, 1) := by decide +kernel
theorem dX8_leave_26 : decode cX8_leave 26 = .ok (.putfield 15, 3) := by decide +kernel
theorem dX8_leave_29 : decode cX8_leave 29 = .ok (.return_, 1) := by decide +kernel
theorem dX8_number_0 : decode cX8_number 0 = .ok (.iload_n 1, 1) := by decide +kernel
theorem dX8_number_1 : decode cX8_number 1 = .ok (.ifCond .lt 20, 3) := by decide +kernel
theorem dX8_number_4 : decode cX8_number 4 = .ok (.iload_n 1, 1) := by decide +kernel
theorem dX8_number_5 : decode cX8_number 5 = .ok (.aload_n 0, 1) := by decide +kernel
theorem dX8_number_6 : decode cX8_number 6 = .ok (.getfield 15, 3) := by decide +kernel
theorem dX8_number_9 : decode cX8_number 9 = .ok (.if_icmp .ge 12, 3) := by decide +kernel
theorem dX8_number_12 : decode cX8_number 12 = .ok (.aload_n 0, 1) := by decide +kernel
theorem dX8_number_13 : decode cX8_number 13 = .ok (.getfield 11, 3) := by decide +kernel
theorem dX8_number_16 : decode cX8_number 16 = .ok (.iload_n 1, 1) := by decide +kernel
theorem dX8_number_17 : decode cX8_number 17 = .ok (.iaload, 1) := by decide +kernel
theorem dX8_number_18 : decode cX8_number 18 = .ok (.goto 5, 3) := by decide +kernel
theorem dX8_number_21 : decode cX8_number 21 = .ok (.ldc 19, 2) := by decide +kernel
theorem dX8_number_23 : decode cX8_number 23 = .ok (.ireturn, 1) := by decide +kernel
theorem dX9_init_0 : decode cX9_init 0 = .ok (.aload_n 0, 1) := by decide +kernel
theorem dX9_init_1 : decode cX9_init 1 = .ok (.invokespecial 1, 3) := by decide +kernel
theorem dX9_init_4 : decode cX9_init 4 = .ok (.aload_n 0, 1) := by decide +kernel
theorem dX9_init_5 : decode cX9_init 5 = .ok (.iconst 0, 1) := by decide +kernel
theorem dX9_init_6 : decode cX9_init 6 = .ok (.putfield 7, 3) := by decide +kernel
theorem dX9_init_9 : decode cX9_init 9 = .ok (.aload_n 0, 1) := by decide +kernel
theorem dX9_init_10 : decode cX9_init 10 = .ok (.bipush 50, 2) := by decide +kernel
theorem dX9_init_12 : decode cX9_init 12 = .ok (.putfield 13, 3) := by decide +kernel
theorem dX9_init_15 : decode cX9_init 15 = .ok (.return_, 1) := by decide +kernel
theorem dX10_init_0 : decode cX10_init 0 = .ok (.aload_n 0, 1) := by decide +kernel
theorem dX10_init_1 : decode cX10_init 1 = .ok (.invokespecial 1, 3) := by decide +kernel
theorem dX10_init_4 : decode cX10_init 4 = .ok (.aload_n 0, 1) := by decide +kernel
theorem dX10_init_5 : decode cX10_init 5 = .ok (.bipush 8, 2) := by decide +kernel
theorem dX10_init_7 : decode cX10_init 7 = .ok (.anewarray 9, 3) := by decide +kernel
theorem dX10_init_10 : decode cX10_init 10 = .ok (.putfield 11, 3) := by decide +kernel
theorem dX10_init_13 : decode cX10_init 13 = .ok (.aload_n 0, 1) := by decide +kernel
theorem dX10_init_14 : decode cX10_init 14 = .ok (.new 15, 3) := by decide +kernel
theorem dX10_init_17 : decode cX10_init 17 = .ok (.dup, 1) := by decide +kernel
theorem dX10_init_18 : decode cX10_init 18 = .ok (.invokespecial 17, 3) := by decide +kernel
theorem dX10_init_21 : decode cX10_init 21 = .ok (.putfield 18, 3) := by decide +kernel
theorem dX10_init_24 : decode cX10_init 24 = .ok (.aload_n 0, 1) := by decide +kernel
theorem dX10_init_25 : decode cX10_init 25 = .ok (.bipush 8, 2) := by decide +kernel
theorem dX10_init_27 : decode cX10_init 27 = .ok (.anewarray 22, 3) := by decide +kernel
theorem dX10_init_30 : decode cX10_init 30 = .ok (.putfield 24, 3) := by decide +kernel
theorem dX10_init_33 : decode cX10_init 33 = .ok (.aload_n 0, 1) := by decide +kernel
theorem dX10_init_34 : decode cX10_init 34 = .ok (.new 28, 3) := by decide +kernel
theorem dX10_init_37 : decode cX10_init 37 = .ok (.dup, 1) := by decide +kernel
theorem dX10_init_38 : decode cX10_init 38 = .ok (.invokespecial 30, 3) := by decide +kernel
theorem dX10_init_41 : decode cX10_init 41 = .ok (.putfield 31, 3) := by decide +kernel
theorem dX10_init_44 : decode cX10_init 44 = .ok (.aload_n 0, 1) := by decide +kernel
theorem dX10_init_45 : decode cX10_init 45 = .ok (.new 35, 3) := by decide +kernel
theorem dX10_init_48 : decode cX10_init 48 = .ok (.dup, 1) := by decide +kernel
theorem dX10_init_49 : decode cX10_init 49 = .ok (.invokespecial 37, 3) := by decide +kernel
theorem dX10_init_52 : decode cX10_init 52 = .ok (.putfield 38, 3) := by decide +kernel
theorem dX10_init_55 : decode cX10_init 55 = .ok (.aload_n 0, 1) := by decide +kernel
theorem dX10_init_56 : decode cX10_init 56 = .ok (.new 42, 3) := by decide +kernel
theorem dX10_init_59 : decode cX10_init 59 = .ok (.dup, 1) := by decide +kernel
theorem dX10_init_60 : decode cX10_init 60 = .ok (.aload_n 0, 1) := by decide +kernel
theorem dX10_init_61 : decode cX10_init 61 = .ok (.getfield 38, 3) := by decide +kernel
theorem dX10_init_64 : decode cX10_init 64 = .ok (.aload_n 0, 1) := by decide +kernel
theorem dX10_init_65 : decode cX10_init 65 = .ok (.getfield 31, 3) := by decide +kernel
theorem dX10_init_68 : decode cX10_init 68 = .ok (.invokespecial 44, 3) := by decide +kernel
theorem dX10_init_71 : decode cX10_init 71 = .ok (.putfield 47, 3) := by decide +kernel
theorem dX10_init_74 : decode cX10_init 74 = .ok (.aload_n 0, 1) := by decide +kernel
theorem dX10_init_75 : decode cX10_init 75 = .ok (.bipush 24, 2) := by decide +kernel
theorem dX10_init_77 : decode cX10_init 77 = .ok (.anewarray 51, 3) := by decide +kernel
theorem dX10_init_80 : decode cX10_init 80 = .ok (.putfield 53, 3) := by decide +kernel
theorem dX10_init_83 : decode cX10_init 83 = .ok (.aload_n 0, 1) := by decide +kernel
theorem dX10_init_84 : decode cX10_init 84 = .ok (.bipush 8, 2) := by decide +kernel
theorem dX10_init_86 : decode cX10_init 86 = .ok (.anewarray 57, 3) := by decide +kernel
theorem dX10_init_89 : decode cX10_init 89 = .ok (.putfield 59, 3) := by decide +kernel
theorem dX10_init_92 : decode cX10_init 92 = .ok (.aload_n 0, 1) := by decide +kernel
theorem dX10_init_93 : decode cX10_init 93 = .ok (.bipush 24, 2) := by decide +kernel
theorem dX10_init_95 : decode cX10_init 95 = .ok (.newarray .int, 2) := by decide +kernel
theorem dX10_init_97 : decode cX10_init 97 = .ok (.putfield 63, 3) := by decide +kernel
theorem dX10_init_100 : decode cX10_init 100 = .ok (.aload_n 0, 1) := by decide +kernel
theorem dX10_init_101 : decode cX10_init 101 = .ok (.bipush 48, 2) := by decide +kernel
theorem dX10_init_103 : decode cX10_init 103 = .ok (.newarray .int, 2) := by decide +kernel
theorem dX10_init_105 : decode cX10_init 105 = .ok (.putfield 67, 3) := by decide +kernel
theorem dX10_init_108 : decode cX10_init 108 = .ok (.aload_n 0, 1) := by decide +kernel
theorem dX10_init_109 : decode cX10_init 109 = .ok (.new 70, 3) := by decide +kernel
theorem dX10_init_112 : decode cX10_init 112 = .ok (.dup, 1) := by decide +kernel
theorem dX10_init_113 : decode cX10_init 113 = .ok (.invokespecial 72, 3) := by decide +kernel
theorem dX10_init_116 : decode cX10_init 116 = .ok (.putfield 73, 3) := by decide +kernel
theorem dX10_init_119 : decode cX10_init 119 = .ok (.aload_n 0, 1) := by decide +kernel
theorem dX10_init_120 : decode cX10_init 120 = .ok (.new 77, 3) := by decide +kernel
theorem dX10_init_123 : decode cX10_init 123 = .ok (.dup, 1) := by decide +kernel
theorem dX10_init_124 : decode cX10_init 124 = .ok (.invokespecial 79, 3) := by decide +kernel
theorem dX10_init_127 : decode cX10_init 127 = .ok (.putfield 80, 3) := by decide +kernel
theorem dX10_init_130 : decode cX10_init 130 = .ok (.aload_n 0, 1) := by decide +kernel
theorem dX10_init_131 : decode cX10_init 131 = .ok (.iconst 0, 1) := by decide +kernel
theorem dX10_init_132 : decode cX10_init 132 = .ok (.putfield 84, 3) := by decide +kernel
theorem dX10_init_135 : decode cX10_init 135 = .ok (.aload_n 0, 1) := by decide +kernel
theorem dX10_init_136 : decode cX10_init 136 = .ok (.iconst 0, 1) := by decide +kernel
theorem dX10_init_137 : decode cX10_init 137 = .ok (.putfield 88, 3) := by decide +kernel
theorem dX10_init_140 : decode cX10_init 140 = .ok (.aload_n 0, 1) := by decide +kernel
theorem dX10_init_141 : decode cX10_init 141 = .ok (.iconst 0, 1) := by decide +kernel
theorem dX10_init_142 : decode cX10_init 142 = .ok (.putfield 91, 3) := by decide +kernel
theorem dX10_init_145 : decode cX10_init 145 = .ok (.aload_n 0, 1) := by decide +kernel
theorem dX10_init_146 : decode cX10_init 146 = .ok (.iconst 0, 1) := by decide +kernel
theorem dX10_init_147 : decode cX10_init 147 = .ok (.putfield 94, 3) := by decide +kernel
theorem dX10_init_150 : decode cX10_init 150 = .ok (.aload_n 0, 1) := by decide +kernel
theorem dX10_init_151 : decode cX10_init 151 = .ok (.iconst 0, 1) := by decide +kernel
theorem dX10_init_152 : decode cX10_init 152 = .ok (.putfield 97, 3) := by decide +kernel
theorem dX10_init_155 : decode cX10_init 155 = .ok (.iconst 0, 1) := by decide +kernel
theorem dX10_init_156 : decode cX10_init 156 = .ok (.istore_n 1, 1) := by decide +kernel
theorem dX10_init_157 : decode cX10_init 157 = .ok (.iload_n 1, 1) := by decide +kernel
theorem dX10_init_158 : decode cX10_init 158 = .ok (.bipush 8, 2) := by decide +kernel
theorem dX10_init_160 : decode cX10_init 160 = .ok (.if_icmp .ge 22, 3) := by decide +kernel
theorem dX10_init_163 : decode cX10_init 163 = .ok (.aload_n 0, 1) := by decide +kernel
theorem dX10_init_164 : decode cX10_init 164 = .ok (.getfield 11, 3) := by decide +kernel
theorem dX10_init_167 : decode cX10_init 167 = .ok (.iload_n 1, 1) := by decide +kernel
theorem dX10_init_168 : decode cX10_init 168 = .ok (.new 9, 3) := by decide +kernel
theorem dX10_init_171 : decode cX10_init 171 = .ok (.dup, 1) := by decide +kernel
theorem dX10_init_172 : decode cX10_init 172 = .ok (.invokespecial 100, 3) := by decide +kernel
theorem dX10_init_175 : decode cX10_init 175 = .ok (.aastore, 1) := by decide +kernel
theorem dX10_init_176 : decode cX10_init 176 = .ok (.iinc 1 1, 3) := by decide +kernel
theorem dX10_init_179 : decode cX10_init 179 = .ok (.goto (-22), 3) := by decide +kernel
theorem dX10_init_182 : decode cX10_init 182 = .ok (.iconst 0, 1) := by decide +kernel
theorem dX10_init_183 : decode cX10_init 183 = .ok (.istore_n 1, 1) := by decide +kernel
theorem dX10_init_184 : decode cX10_init 184 = .ok (.iload_n 1, 1) := by decide +kernel
theorem dX10_init_185 : decode cX10_init 185 = .ok (.bipush 8, 2) := by decide +kernel
theorem dX10_init_187 : decode cX10_init 187 = .ok (.if_icmp .ge 22, 3) := by decide +kernel
theorem dX10_init_190 : decode cX10_init 190 = .ok (.aload_n 0, 1) := by decide +kernel
theorem dX10_init_191 : decode cX10_init 191 = .ok (.getfield 59, 3) := by decide +kernel
theorem dX10_init_194 : decode cX10_init 194 = .ok (.iload_n 1, 1) := by decide +kernel
theorem dX10_init_195 : decode cX10_init 195 = .ok (.new 57, 3) := by decide +kernel
theorem dX10_init_198 : decode cX10_init 198 = .ok (.dup, 1) := by decide +kernel
theorem dX10_init_199 : decode cX10_init 199 = .ok (.invokespecial 101, 3) := by decide +kernel
theorem dX10_init_202 : decode cX10_init 202 = .ok (.aastore, 1) := by decide +kernel
theorem dX10_init_203 : decode cX10_init 203 = .ok (.iinc 1 1, 3) := by decide +kernel
theorem dX10_init_206 : decode cX10_init 206 = .ok (.goto (-22), 3) := by decide +kernel
theorem dX10_init_209 : decode cX10_init 209 = .ok (.return_, 1) := by decide +kernel
theorem dX10_sheet_0 : decode cX10_sheet 0 = .ok (.aload_n 0, 1) := by decide +kernel
theorem dX10_sheet_1 : decode cX10_sheet 1 = .ok (.iload_n 1, 1) := by decide +kernel
theorem dX10_sheet_2 : decode cX10_sheet 2 = .ok (.invokevirtual 102, 3) := by decide +kernel
theorem dX10_sheet_5 : decode cX10_sheet 5 = .ok (.astore 4, 2) := by decide +kernel
theorem dX10_sheet_7 : decode cX10_sheet 7 = .ok (.aload 4, 2) := by decide +kernel
theorem dX10_sheet_9 : decode cX10_sheet 9 = .ok (.ifnull 17, 3) := by decide +kernel
theorem dX10_sheet_12 : decode cX10_sheet 12 = .ok (.iload_n 2, 1) := by decide +kernel
theorem dX10_sheet_13 : decode cX10_sheet 13 = .ok (.iconst 2, 1) := by decide +kernel
theorem dX10_sheet_14 : decode cX10_sheet 14 = .ok (.invokestatic 106, 3) := by decide +kernel
theorem dX10_sheet_17 : decode cX10_sheet 17 = .ok (.ifCond .eq 9, 3) := by decide +kernel
theorem dX10_sheet_20 : decode cX10_sheet 20 = .ok (.iload_n 3, 1) := by decide +kernel
theorem dX10_sheet_21 : decode cX10_sheet 21 = .ok (.bipush 60, 2) := by decide +kernel
theorem dX10_sheet_23 : decode cX10_sheet 23 = .ok (.if_icmp .le 6, 3) := by decide +kernel
theorem dX10_sheet_26 : decode cX10_sheet 26 = .ok (.ldc 110, 2) := by decide +kernel
theorem dX10_sheet_28 : decode cX10_sheet 28 = .ok (.ireturn, 1) := by decide +kernel
theorem dX10_sheet_29 : decode cX10_sheet 29 = .ok (.iload_n 3, 1) := by decide +kernel
theorem dX10_sheet_30 : decode cX10_sheet 30 = .ok (.ifCond .ge 9, 3) := by decide +kernel
theorem dX10_sheet_33 : decode cX10_sheet 33 = .ok (.aload_n 0, 1) := by decide +kernel
theorem dX10_sheet_34 : decode cX10_sheet 34 = .ok (.iconst 4, 1) := by decide +kernel
theorem dX10_sheet_35 : decode cX10_sheet 35 = .ok (.invokevirtual 111, 3) := by decide +kernel
theorem dX10_sheet_38 : decode cX10_sheet 38 = .ok (.ireturn, 1) := by decide +kernel
theorem dX10_sheet_39 : decode cX10_sheet 39 = .ok (.aload 4, 2) := by decide +kernel
theorem dX10_sheet_41 : decode cX10_sheet 41 = .ok (.iload_n 2, 1) := by decide +kernel
theorem dX10_sheet_42 : decode cX10_sheet 42 = .ok (.iload_n 3, 1) := by decide +kernel
theorem dX10_sheet_43 : decode cX10_sheet 43 = .ok (.invokevirtual 115, 3) := by decide +kernel
theorem dX10_sheet_46 : decode cX10_sheet 46 = .ok (.aload_n 0, 1) := by decide +kernel
theorem dX10_sheet_47 : decode cX10_sheet 47 = .ok (.iload_n 3, 1) := by decide +kernel
theorem dX10_sheet_48 : decode cX10_sheet 48 = .ok (.invokevirtual 119, 3) := by decide +kernel
theorem dX10_sheet_51 : decode cX10_sheet 51 = .ok (.ireturn, 1) := by decide +kernel
theorem dX10_set_0 : decode cX10_set 0 = .ok (.aload_n 0, 1) := by decide +kernel
theorem dX10_set_1 : decode cX10_set 1 = .ok (.iload_n 1, 1) := by decide +kernel
theorem dX10_set_2 : decode cX10_set 2 = .ok (.invokevirtual 102, 3) := by decide +kernel
theorem dX10_set_5 : decode cX10_set 5 = .ok (.astore 4, 2) := by decide +kernel
theorem dX10_set_7 : decode cX10_set 7 = .ok (.aload 4, 2) := by decide +kernel
theorem dX10_set_9 : decode cX10_set 9 = .ok (.ifnonnull 6, 3) := by decide +kernel
theorem dX10_set_12 : decode cX10_set 12 = .ok (.ldc 110, 2) := by decide +kernel
theorem dX10_set_14 : decode cX10_set 14 = .ok (.ireturn, 1) := by decide +kernel
theorem dX10_set_15 : decode cX10_set 15 = .ok (.aload 4, 2) := by decide +kernel
theorem dX10_set_17 : decode cX10_set 17 = .ok (.invokevirtual 122, 3) := by decide +kernel
theorem dX10_set_20 : decode cX10_set 20 = .ok (.ifCond .eq 9, 3) := by decide +kernel
theorem dX10_set_23 : decode cX10_set 23 = .ok (.aload_n 0, 1) := by decide +kernel
theorem dX10_set_24 : decode cX10_set 24 = .ok (.iconst 1, 1) := by decide +kernel
theorem dX10_set_25 : decode cX10_set 25 = .ok (.invokevirtual 111, 3) := by decide +kernel
theorem dX10_set_28 : decode cX10_set 28 = .ok (.ireturn, 1) := by decide +kernel
theorem dX10_set_29 : decode cX10_set 29 = .ok (.aload 4, 2) := by decide +kernel
theorem dX10_set_31 : decode cX10_set 31 = .ok (.iload_n 2, 1) := by decide +kernel
theorem dX10_set_32 : decode cX10_set 32 = .ok (.iconst 1, 1) := by decide +kernel
theorem dX10_set_33 : decode cX10_set 33 = .ok (.invokevirtual 126, 3) := by decide +kernel
theorem dX10_set_36 : decode cX10_set 36 = .ok (.ifCond .ne 9, 3) := by decide +kernel
theorem dX10_set_39 : decode cX10_set 39 = .ok (.aload_n 0, 1) := by decide +kernel
theorem dX10_set_40 : decode cX10_set 40 = .ok (.iconst 2, 1) := by decide +kernel
theorem dX10_set_41 : decode cX10_set 41 = .ok (.invokevirtual 111, 3) := by decide +kernel
theorem dX10_set_44 : decode cX10_set 44 = .ok (.ireturn, 1) := by decide +kernel
theorem dX10_set_45 : decode cX10_set 45 = .ok (.aload_n 0, 1) := by decide +kernel
theorem dX10_set_46 : decode cX10_set 46 = .ok (.aload 4, 2) := by decide +kernel
theorem dX10_set_48 : decode cX10_set 48 = .ok (.iload_n 2, 1) := by decide +kernel
theorem dX10_set_49 : decode cX10_set 49 = .ok (.iload_n 3, 1) := by decide +kernel
theorem dX10_set_50 : decode cX10_set 50 = .ok (.invokevirtual 129, 3) := by decide +kernel
theorem dX10_set_53 : decode cX10_set 53 = .ok (.invokevirtual 119, 3) := by decide +kernel
theorem dX10_set_56 : decode cX10_set 56 = .ok (.ireturn, 1) := by decide +kernel
theorem dX10_copy_0 : decode cX10_copy 0 = .ok (.aload_n 0, 1) := by decide +kernel
theorem dX10_copy_1 : decode cX10_copy 1 = .ok (.iload_n 1, 1) := by decide +kernel
theorem dX10_copy_2 : decode cX10_copy 2 = .ok (.invokevirtual 102, 3) := by decide +kernel
theorem dX10_copy_5 : decode cX10_copy 5 = .ok (.astore 6, 2) := by decide +kernel
theorem dX10_copy_7 : decode cX10_copy 7 = .ok (.aload_n 0, 1) := by decide +kernel
theorem dX10_copy_8 : decode cX10_copy 8 = .ok (.iload_n 3, 1) := by decide +kernel
theorem dX10_copy_9 : decode cX10_copy 9 = .ok (.invokevirtual 102, 3) := by decide +kernel
theorem dX10_copy_12 : decode cX10_copy 12 = .ok (.astore 7, 2) := by decide +kernel
theorem dX10_copy_14 : decode cX10_copy 14 = .ok (.aload 6, 2) := by decide +kernel
theorem dX10_copy_16 : decode cX10_copy 16 = .ok (.ifnull 8, 3) := by decide +kernel
theorem dX10_copy_19 : decode cX10_copy 19 = .ok (.aload 7, 2) := by decide +kernel
theorem dX10_copy_21 : decode cX10_copy 21 = .ok (.ifnonnull 6, 3) := by decide +kernel
theorem dX10_copy_24 : decode cX10_copy 24 = .ok (.ldc 110, 2) := by decide +kernel
theorem dX10_copy_26 : decode cX10_copy 26 = .ok (.ireturn, 1) := by decide +kernel
theorem dX10_copy_27 : decode cX10_copy 27 = .ok (.aload 6, 2) := by decide +kernel
theorem dX10_copy_29 : decode cX10_copy 29 = .ok (.invokevirtual 122, 3) := by decide +kernel
theorem dX10_copy_32 : decode cX10_copy 32 = .ok (.ifCond .ne 11, 3) := by decide +kernel
theorem dX10_copy_35 : decode cX10_copy 35 = .ok (.aload 7, 2) := by decide +kernel
theorem dX10_copy_37 : decode cX10_copy 37 = .ok (.invokevirtual 122, 3) := by decide +kernel
theorem dX10_copy_40 : decode cX10_copy 40 = .ok (.ifCond .eq 9, 3) := by decide +kernel
theorem dX10_copy_43 : decode cX10_copy 43 = .ok (.aload_n 0, 1) := by decide +kernel
theorem dX10_copy_44 : decode cX10_copy 44 = .ok (.iconst 1, 1) := by decide +kernel
theorem dX10_copy_45 : decode cX10_copy 45 = .ok (.invokevirtual 111, 3) := by decide +kernel
theorem dX10_copy_48 : decode cX10_copy 48 = .ok (.ireturn, 1) := by decide +kernel
theorem dX10_copy_49 : decode cX10_copy 49 = .ok (.aload 6, 2) := by decide +kernel
theorem dX10_copy_51 : decode cX10_copy 51 = .ok (.getfield 133, 3) := by decide +kernel
theorem dX10_copy_54 : decode cX10_copy 54 = .ok (.aload 7, 2) := by decide +kernel
theorem dX10_copy_56 : decode cX10_copy 56 = .ok (.getfield 133, 3) := by decide +kernel
theorem dX10_copy_59 : decode cX10_copy 59 = .ok (.if_icmp .eq 9, 3) := by decide +kernel
theorem dX10_copy_62 : decode cX10_copy 62 = .ok (.aload_n 0, 1) := by decide +kernel
theorem dX10_copy_63 : decode cX10_copy 63 = .ok (.iconst 5, 1) := by decide +kernel
theorem dX10_copy_64 : decode cX10_copy 64 = .ok (.invokevirtual 111, 3) := by decide +kernel
theorem dX10_copy_67 : decode cX10_copy 67 = .ok (.ireturn, 1) := by decide +kernel
theorem dX10_copy_68 : decode cX10_copy 68 = .ok (.aload 6, 2) := by decide +kernel
theorem dX10_copy_70 : decode cX10_copy 70 = .ok (.iload_n 2, 1) := by decide +kernel
theorem dX10_copy_71 : decode cX10_copy 71 = .ok (.iload 5, 2) := by decide +kernel
theorem dX10_copy_73 : decode cX10_copy 73 = .ok (.invokevirtual 126, 3) := by decide +kernel
theorem dX10_copy_76 : decode cX10_copy 76 = .ok (.ifCond .eq 15, 3) := by decide +kernel
theorem dX10_copy_79 : decode cX10_copy 79 = .ok (.aload 7, 2) := by decide +kernel
theorem dX10_copy_81 : decode cX10_copy 81 = .ok (.iload 4, 2) := by decide +kernel
theorem dX10_copy_83 : decode cX10_copy 83 = .ok (.iload 5, 2) := by decide +kernel
theorem dX10_copy_85 : decode cX10_copy 85 = .ok (.invokevirtual 126, 3) := by decide +kernel
theorem dX10_copy_88 : decode cX10_copy 88 = .ok (.ifCond .ne 9, 3) := by decide +kernel
theorem dX10_copy_91 : decode cX10_copy 91 = .ok (.aload_n 0, 1) := by decide +kernel
theorem dX10_copy_92 : decode cX10_copy 92 = .ok (.iconst 2, 1) := by decide +kernel
theorem dX10_copy_93 : decode cX10_copy 93 = .ok (.invokevirtual 111, 3) := by decide +kernel
theorem dX10_copy_96 : decode cX10_copy 96 = .ok (.ireturn, 1) := by decide +kernel
theorem dX10_copy_97 : decode cX10_copy 97 = .ok (.aload 6, 2) := by decide +kernel
theorem dX10_copy_99 : decode cX10_copy 99 = .ok (.getfield 136, 3) := by decide +kernel
theorem dX10_copy_102 : decode cX10_copy 102 = .ok (.iload_n 2, 1) := by decide +kernel
theorem dX10_copy_103 : decode cX10_copy 103 = .ok (.aload 7, 2) := by decide +kernel
theorem dX10_copy_105 : decode cX10_copy 105 = .ok (.getfield 136, 3) := by decide +kernel
theorem dX10_copy_108 : decode cX10_copy 108 = .ok (.iload 4, 2) := by decide +kernel
theorem dX10_copy_110 : decode cX10_copy 110 = .ok (.iload 5, 2) := by decide +kernel
theorem dX10_copy_112 : decode cX10_copy 112 = .ok (.invokestatic 139, 3) := by decide +kernel
theorem dX10_copy_115 : decode cX10_copy 115 = .ok (.aload_n 0, 1) := by decide +kernel
theorem dX10_copy_116 : decode cX10_copy 116 = .ok (.iload 5, 2) := by decide +kernel
theorem dX10_copy_118 : decode cX10_copy 118 = .ok (.invokevirtual 119, 3) := by decide +kernel
theorem dX10_copy_121 : decode cX10_copy 121 = .ok (.ireturn, 1) := by decide +kernel
theorem dX10_drop_0 : decode cX10_drop 0 = .ok (.aload_n 0, 1) := by decide +kernel
theorem dX10_drop_1 : decode cX10_drop 1 = .ok (.iload_n 1, 1) := by decide +kernel
theorem dX10_drop_2 : decode cX10_drop 2 = .ok (.invokevirtual 102, 3) := by decide +kernel
theorem dX10_drop_5 : decode cX10_drop 5 = .ok (.astore_n 2, 1) := by decide +kernel
theorem dX10_drop_6 : decode cX10_drop 6 = .ok (.aload_n 2, 1) := by decide +kernel
theorem dX10_drop_7 : decode cX10_drop 7 = .ok (.ifnonnull 6, 3) := by decide +kernel
theorem dX10_drop_10 : decode cX10_drop 10 = .ok (.ldc 110, 2) := by decide +kernel
theorem dX10_drop_12 : decode cX10_drop 12 = .ok (.ireturn, 1) := by decide +kernel
theorem dX10_drop_13 : decode cX10_drop 13 = .ok (.aload_n 2, 1) := by decide +kernel
theorem dX10_drop_14 : decode cX10_drop 14 = .ok (.invokevirtual 122, 3) := by decide +kernel
theorem dX10_drop_17 : decode cX10_drop 17 = .ok (.ifCond .eq 9, 3) := by decide +kernel
theorem dX10_drop_20 : decode cX10_drop 20 = .ok (.aload_n 0, 1) := by decide +kernel
theorem dX10_drop_21 : decode cX10_drop 21 = .ok (.iconst 1, 1) := by decide +kernel
theorem dX10_drop_22 : decode cX10_drop 22 = .ok (.invokevirtual 111, 3) := by decide +kernel
theorem dX10_drop_25 : decode cX10_drop 25 = .ok (.ireturn, 1) := by decide +kernel
theorem dX10_drop_26 : decode cX10_drop 26 = .ok (.aload_n 2, 1) := by decide +kernel
theorem dX10_drop_27 : decode cX10_drop 27 = .ok (.getfield 145, 3) := by decide +kernel
theorem dX10_drop_30 : decode cX10_drop 30 = .ok (.istore_n 3, 1) := by decide +kernel
theorem dX10_drop_31 : decode cX10_drop 31 = .ok (.aload_n 2, 1) := by decide +kernel
theorem dX10_drop_32 : decode cX10_drop 32 = .ok (.invokevirtual 148, 3) := by decide +kernel
theorem dX10_drop_35 : decode cX10_drop 35 = .ok (.aload_n 0, 1) := by decide +kernel
theorem dX10_drop_36 : decode cX10_drop 36 = .ok (.iload_n 3, 1) := by decide +kernel
theorem dX10_drop_37 : decode cX10_drop 37 = .ok (.invokevirtual 119, 3) := by decide +kernel
theorem dX10_drop_40 : decode cX10_drop 40 = .ok (.ireturn, 1) := by decide +kernel
theorem dX10_road_0 : decode cX10_road 0 = .ok (.iload_n 1, 1) := by decide +kernel
theorem dX10_road_1 : decode cX10_road 1 = .ok (.invokestatic 151, 3) := by decide +kernel
theorem dX10_road_4 : decode cX10_road 4 = .ok (.ifCond .eq 25, 3) := by decide +kernel
theorem dX10_road_7 : decode cX10_road 7 = .ok (.iload_n 2, 1) := by decide +kernel
theorem dX10_road_8 : decode cX10_road 8 = .ok (.invokestatic 151, 3) := by decide +kernel
theorem dX10_road_11 : decode cX10_road 11 = .ok (.ifCond .eq 18, 3) := by decide +kernel
theorem dX10_road_14 : decode cX10_road 14 = .ok (.iload_n 1, 1) := by decide +kernel
theorem dX10_road_15 : decode cX10_road 15 = .ok (.iload_n 2, 1) := by decide +kernel
theorem dX10_road_16 : decode cX10_road 16 = .ok (.if_icmp .eq 13, 3) := by decide +kernel
theorem dX10_road_19 : decode cX10_road 19 = .ok (.iload_n 3, 1) := by decide +kernel
theorem dX10_road_20 : decode cX10_road 20 = .ok (.sipush 500, 3) := by decide +kernel
theorem dX10_road_23 : decode cX10_road 23 = .ok (.invokestatic 106, 3) := by decide +kernel
theorem dX10_road_26 : decode cX10_road 26 = .ok (.ifCond .ne 6, 3) := by decide +kernel
theorem dX10_road_29 : decode cX10_road 29 = .ok (.ldc 110, 2) := by decide +kernel
theorem dX10_road_31 : decode cX10_road 31 = .ok (.ireturn, 1) := by decide +kernel
theorem dX10_road_32 : decode cX10_road 32 = .ok (.aload_n 0, 1) := by decide +kernel
theorem dX10_road_33 : decode cX10_road 33 = .ok (.getfield 18, 3) := by decide +kernel
theorem dX10_road_36 : decode cX10_road 36 = .ok (.iload_n 1, 1) := by decide +kernel
theorem dX10_road_37 : decode cX10_road 37 = .ok (.iload_n 2, 1) := by decide +kernel
theorem dX10_road_38 : decode cX10_road 38 = .ok (.invokevirtual 155, 3) := by decide +kernel
theorem dX10_road_41 : decode cX10_road 41 = .ok (.istore 4, 2) := by decide +kernel
theorem dX10_road_43 : decode cX10_road 43 = .ok (.aload_n 0, 1) := by decide +kernel
theorem dX10_road_44 : decode cX10_road 44 = .ok (.getfield 18, 3) := by decide +kernel
theorem dX10_road_47 : decode cX10_road 47 = .ok (.iload_n 1, 1) := by decide +kernel
theorem dX10_road_48 : decode cX10_road 48 = .ok (.iload_n 2, 1) := by decide +kernel
theorem dX10_road_49 : decode cX10_road 49 = .ok (.iload_n 3, 1) := by decide +kernel
theorem dX10_road_50 : decode cX10_road 50 = .ok (.invokevirtual 158, 3) := by decide +kernel
theorem dX10_road_53 : decode cX10_road 53 = .ok (.iload 4, 2) := by decide +kernel
theorem dX10_road_55 : decode cX10_road 55 = .ok (.ireturn, 1) := by decide +kernel
theorem dX10_far_0 : decode cX10_far 0 = .ok (.iload_n 1, 1) := by decide +kernel
theorem dX10_far_1 : decode cX10_far 1 = .ok (.invokestatic 151, 3) := by decide +kernel
theorem dX10_far_4 : decode cX10_far 4 = .ok (.ifCond .eq 10, 3) := by decide +kernel
theorem dX10_far_7 : decode cX10_far 7 = .ok (.iload_n 2, 1) := by decide +kernel
theorem dX10_far_8 : decode cX10_far 8 = .ok (.invokestatic 151, 3) := by decide +kernel
theorem dX10_far_11 : decode cX10_far 11 = .ok (.ifCond .ne 6, 3) := by decide +kernel
theorem dX10_far_14 : decode cX10_far 14 = .ok (.ldc 110, 2) := by decide +kernel
theorem dX10_far_16 : decode cX10_far 16 = .ok (.ireturn, 1) := by decide +kernel
theorem dX10_far_17 : decode cX10_far 17 = .ok (.aload_n 0, 1) := by decide +kernel
theorem dX10_far_18 : decode cX10_far 18 = .ok (.getfield 18, 3) := by decide +kernel
theorem dX10_far_21 : decode cX10_far 21 = .ok (.iload_n 1, 1) := by decide +kernel
theorem dX10_far_22 : decode cX10_far 22 = .ok (.iload_n 2, 1) := by decide +kernel
theorem dX10_far_23 : decode cX10_far 23 = .ok (.invokevirtual 162, 3) := by decide +kernel
theorem dX10_far_26 : decode cX10_far 26 = .ok (.ireturn, 1) := by decide +kernel
theorem dX10_bank_0 : decode cX10_bank 0 = .ok (.iload_n 1, 1) := by decide +kernel
theorem dX10_bank_1 : decode cX10_bank 1 = .ok (.invokestatic 151, 3) := by decide +kernel
theorem dX10_bank_4 : decode cX10_bank 4 = .ok (.ifCond .eq 22, 3) := by decide +kernel
theorem dX10_bank_7 : decode cX10_bank 7 = .ok (.iload_n 2, 1) := by decide +kernel
theorem dX10_bank_8 : decode cX10_bank 8 = .ok (.ldc 165, 2) := by decide +kernel
theorem dX10_bank_10 : decode cX10_bank 10 = .ok (.invokestatic 106, 3) := by decide +kernel
theorem dX10_bank_13 : decode cX10_bank 13 = .ok (.ifCond .eq 13, 3) := by decide +kernel
theorem dX10_bank_16 : decode cX10_bank 16 = .ok (.iload_n 3, 1) := by decide +kernel
theorem dX10_bank_17 : decode cX10_bank 17 = .ok (.sipush 255, 3) := by decide +kernel
theorem dX10_bank_20 : decode cX10_bank 20 = .ok (.invokestatic 106, 3) := by decide +kernel
theorem dX10_bank_23 : decode cX10_bank 23 = .ok (.ifCond .ne 6, 3) := by decide +kernel
theorem dX10_bank_26 : decode cX10_bank 26 = .ok (.ldc 110, 2) := by decide +kernel
theorem dX10_bank_28 : decode cX10_bank 28 = .ok (.ireturn, 1) := by decide +kernel
theorem dX10_bank_29 : decode cX10_bank 29 = .ok (.aload_n 0, 1) := by decide +kernel
theorem dX10_bank_30 : decode cX10_bank 30 = .ok (.getfield 84, 3) := by decide +kernel
theorem dX10_bank_33 : decode cX10_bank 33 = .ok (.istore 4, 2) := by decide +kernel
theorem dX10_bank_35 : decode cX10_bank 35 = .ok (.iload 4, 2) := by decide +kernel
theorem dX10_bank_37 : decode cX10_bank 37 = .ok (.bipush 8, 2) := by decide +kernel
theorem dX10_bank_39 : decode cX10_bank 39 = .ok (.if_icmp .lt 6, 3) := by decide +kernel
theorem dX10_bank_42 : decode cX10_bank 42 = .ok (.ldc 166, 2) := by decide +kernel
theorem dX10_bank_44 : decode cX10_bank 44 = .ok (.ireturn, 1) := by decide +kernel
theorem dX10_bank_45 : decode cX10_bank 45 = .ok (.aload_n 0, 1) := by decide +kernel
theorem dX10_bank_46 : decode cX10_bank 46 = .ok (.getfield 24, 3) := by decide +kernel
theorem dX10_bank_49 : decode cX10_bank 49 = .ok (.iload 4, 2) := by decide +kernel
theorem dX10_bank_51 : decode cX10_bank 51 = .ok (.new 22, 3) := by decide +kernel
theorem dX10_bank_54 : decode cX10_bank 54 = .ok (.dup, 1) := by decide +kernel
theorem dX10_bank_55 : decode cX10_bank 55 = .ok (.iload_n 1, 1) := by decide +kernel
theorem dX10_bank_56 : decode cX10_bank 56 = .ok (.iload_n 2, 1) := by decide +kernel
theorem dX10_bank_57 : decode cX10_bank 57 = .ok (.iload_n 3, 1) := by decide +kernel
theorem dX10_bank_58 : decode cX10_bank 58 = .ok (.invokespecial 167, 3) := by decide +kernel
theorem dX10_bank_61 : decode cX10_bank 61 = .ok (.aastore, 1) := by decide +kernel
theorem dX10_bank_62 : decode cX10_bank 62 = .ok (.aload_n 0, 1) := by decide +kernel
theorem dX10_bank_63 : decode cX10_bank 63 = .ok (.iload 4, 2) := by decide +kernel
theorem dX10_bank_65 : decode cX10_bank 65 = .ok (.iconst 1, 1) := by decide +kernel
theorem dX10_bank_66 : decode cX10_bank 66 = .ok (.iadd, 1) := by decide +kernel
theorem dX10_bank_67 : decode cX10_bank 67 = .ok (.putfield 84, 3) := by decide +kernel
theorem dX10_bank_70 : decode cX10_bank 70 = .ok (.iload 4, 2) := by decide +kernel
theorem dX10_bank_72 : decode cX10_bank 72 = .ok (.ireturn, 1) := by decide +kernel
theorem dX10_house_0 : decode cX10_house 0 = .ok (.aload_n 0, 1) := by decide +kernel
theorem dX10_house_1 : decode cX10_house 1 = .ok (.iload_n 1, 1) := by decide +kernel
theorem dX10_house_2 : decode cX10_house 2 = .ok (.invokevirtual 169, 3) := by decide +kernel
theorem dX10_house_5 : decode cX10_house 5 = .ok (.astore_n 3, 1) := by decide +kernel
theorem dX10_house_6 : decode cX10_house 6 = .ok (.aload_n 3, 1) := by decide +kernel
theorem dX10_house_7 : decode cX10_house 7 = .ok (.ifnonnull 6, 3) := by decide +kernel
theorem dX10_house_10 : decode cX10_house 10 = .ok (.ldc 110, 2) := by decide +kernel
theorem dX10_house_12 : decode cX10_house 12 = .ok (.ireturn, 1) := by decide +kernel
theorem dX10_house_13 : decode cX10_house 13 = .ok (.iload_n 2, 1) := by decide +kernel
theorem dX10_house_14 : decode cX10_house 14 = .ok (.tableswitch 67 0 4 #[34, 39, 44, 49, 62], 34) := by decide +kernel
theorem dX10_house_48 : decode cX10_house 48 = .ok (.aload_n 3, 1) := by decide +kernel
theorem dX10_house_49 : decode cX10_house 49 = .ok (.getfield 173, 3) := by decide +kernel
theorem dX10_house_52 : decode cX10_house 52 = .ok (.ireturn, 1) := by decide +kernel
theorem dX10_house_53 : decode cX10_house 53 = .ok (.aload_n 3, 1) := by decide +kernel
theorem dX10_house_54 : decode cX10_house 54 = .ok (.getfield 176, 3) := by decide +kernel
theorem dX10_house_57 : decode cX10_house 57 = .ok (.ireturn, 1) := by decide +kernel
theorem dX10_house_58 : decode cX10_house 58 = .ok (.aload_n 3, 1) := by decide +kernel
theorem dX10_house_59 : decode cX10_house 59 = .ok (.getfield 179, 3) := by decide +kernel
theorem dX10_house_62 : decode cX10_house 62 = .ok (.ireturn, 1) := by decide +kernel
theorem dX10_house_63 : decode cX10_house 63 = .ok (.aload_n 3, 1) := by decide +kernel
theorem dX10_house_64 : decode cX10_house 64 = .ok (.getfield 182, 3) := by decide +kernel
theorem dX10_house_67 : decode cX10_house 67 = .ok (.ifCond .eq 7, 3) := by decide +kernel
theorem dX10_house_70 : decode cX10_house 70 = .ok (.iconst 1, 1) := by decide +kernel
theorem dX10_house_71 : decode cX10_house 71 = .ok (.goto 4, 3) := by decide +kernel
theorem dX10_house_74 : decode cX10_house 74 = .ok (.iconst 0, 1) := by decide +kernel
theorem dX10_house_75 : decode cX10_house 75 = .ok (.ireturn, 1) := by decide +kernel
theorem dX10_house_76 : decode cX10_house 76 = .ok (.aload_n 3, 1) := by decide +kernel
theorem dX10_house_77 : decode cX10_house 77 = .ok (.getfield 186, 3) := by decide +kernel
theorem dX10_house_80 : decode cX10_house 80 = .ok (.ireturn, 1) := by decide +kernel
theorem dX10_house_81 : decode cX10_house 81 = .ok (.ldc 110, 2) := by decide +kernel
theorem dX10_house_83 : decode cX10_house 83 = .ok (.ireturn, 1) := by decide +kernel
theorem dX10_hold_0 : decode cX10_hold 0 = .ok (.aload_n 0, 1) := by decide +kernel
theorem dX10_hold_1 : decode cX10_hold 1 = .ok (.iload_n 1, 1) := by decide +kernel
theorem dX10_hold_2 : decode cX10_hold 2 = .ok (.invokevirtual 169, 3) := by decide +kernel
theorem dX10_hold_5 : decode cX10_hold 5 = .ok (.astore 4, 2) := by decide +kernel
theorem dX10_hold_7 : decode cX10_hold 7 = .ok (.aload 4, 2) := by decide +kernel
theorem dX10_hold_9 : decode cX10_hold 9 = .ok (.ifnull 11, 3) := by decide +kernel
theorem dX10_hold_12 : decode cX10_hold 12 = .ok (.aload_n 0, 1) := by decide +kernel
theorem dX10_hold_13 : decode cX10_hold 13 = .ok (.iload_n 2, 1) := by decide +kernel
theorem dX10_hold_14 : decode cX10_hold 14 = .ok (.invokevirtual 169, 3) := by decide +kernel
theorem dX10_hold_17 : decode cX10_hold 17 = .ok (.ifnonnull 6, 3) := by decide +kernel
theorem dX10_hold_20 : decode cX10_hold 20 = .ok (.ldc 110, 2) := by decide +kernel
theorem dX10_hold_22 : decode cX10_hold 22 = .ok (.ireturn, 1) := by decide +kernel
theorem dX10_hold_23 : decode cX10_hold 23 = .ok (.iload_n 3, 1) := by decide +kernel
theorem dX10_hold_24 : decode cX10_hold 24 = .ok (.iload_n 1, 1) := by decide +kernel
theorem dX10_hold_25 : decode cX10_hold 25 = .ok (.iload_n 2, 1) := by decide +kernel
theorem dX10_hold_26 : decode cX10_hold 26 = .ok (.if_icmp .ne 8, 3) := by decide +kernel
theorem dX10_hold_29 : decode cX10_hold 29 = .ok (.ldc 165, 2) := by decide +kernel
theorem dX10_hold_31 : decode cX10_hold 31 = .ok (.goto 6, 3) := by decide +kernel
theorem dX10_hold_34 : decode cX10_hold 34 = .ok (.sipush 9999, 3) := by decide +kernel
theorem dX10_hold_37 : decode cX10_hold 37 = .ok (.invokestatic 106, 3) := by decide +kernel
theorem dX10_hold_40 : decode cX10_hold 40 = .ok (.ifCond .ne 6, 3) := by decide +kernel
theorem dX10_hold_43 : decode cX10_hold 43 = .ok (.ldc 110, 2) := by decide +kernel
theorem dX10_hold_45 : decode cX10_hold 45 = .ok (.ireturn, 1) := by decide +kernel
theorem dX10_hold_46 : decode cX10_hold 46 = .ok (.iload_n 1, 1) := by decide +kernel
theorem dX10_hold_47 : decode cX10_hold 47 = .ok (.iload_n 2, 1) := by decide +kernel
theorem dX10_hold_48 : decode cX10_hold 48 = .ok (.if_icmp .ne 12, 3) := by decide +kernel
theorem dX10_hold_51 : decode cX10_hold 51 = .ok (.aload 4, 2) := by decide +kernel
theorem dX10_hold_53 : decode cX10_hold 53 = .ok (.iload_n 3, 1) := by decide +kernel
theorem dX10_hold_54 : decode cX10_hold 54 = .ok (.invokevirtual 189, 3) := by decide +kernel
theorem dX10_hold_57 : decode cX10_hold 57 = .ok (.goto 10, 3) := by decide +kernel
theorem dX10_hold_60 : decode cX10_hold 60 = .ok (.aload 4, 2) := by decide +kernel
theorem dX10_hold_62 : decode cX10_hold 62 = .ok (.iload_n 2, 1) := by decide +kernel
theorem dX10_hold_63 : decode cX10_hold 63 = .ok (.iload_n 3, 1) := by decide +kernel
theorem dX10_hold_64 : decode cX10_hold 64 = .ok (.invokevirtual 192, 3) := by decide +kernel
theorem dX10_hold_67 : decode cX10_hold 67 = .ok (.ireturn, 1) := by decide +kernel
theorem dX10_falls_0 : decode cX10_falls 0 = .ok (.iload_n 1, 1) := by decide +kernel
theorem dX10_falls_1 : decode cX10_falls 1 = .ok (.iconst 1, 1) := by decide +kernel
theorem dX10_falls_2 : decode cX10_falls 2 = .ok (.invokestatic 106, 3) := by decide +kernel
theorem dX10_falls_5 : decode cX10_falls 5 = .ok (.ifCond .ne 6, 3) := by decide +kernel
theorem dX10_falls_8 : decode cX10_falls 8 = .ok (.ldc 110, 2) := by decide +kernel
theorem dX10_falls_10 : decode cX10_falls 10 = .ok (.ireturn, 1) := by decide +kernel
theorem dX10_falls_11 : decode cX10_falls 11 = .ok (.aload_n 0, 1) := by decide +kernel
theorem dX10_falls_12 : decode cX10_falls 12 = .ok (.invokevirtual 195, 3) := by decide +kernel
theorem dX10_falls_15 : decode cX10_falls 15 = .ok (.istore_n 2, 1) := by decide +kernel
theorem dX10_falls_16 : decode cX10_falls 16 = .ok (.iconst 0, 1) := by decide +kernel
theorem dX10_falls_17 : decode cX10_falls 17 = .ok (.istore_n 3, 1) := by decide +kernel
theorem dX10_falls_18 : decode cX10_falls 18 = .ok (.iconst 0, 1) := by decide +kernel
theorem dX10_falls_19 : decode cX10_falls 19 = .ok (.istore 4, 2) := by decide +kernel
theorem dX10_falls_21 : decode cX10_falls 21 = .ok (.iload 4, 2) := by decide +kernel
theorem dX10_falls_23 : decode cX10_falls 23 = .ok (.bipush 8, 2) := by decide +kernel
theorem dX10_falls_25 : decode cX10_falls 25 = .ok (.if_icmp .ge 33, 3) := by decide +kernel
theorem dX10_falls_28 : decode cX10_falls 28 = .ok (.iload_n 2, 1) := by decide +kernel
theorem dX10_falls_29 : decode cX10_falls 29 = .ok (.aload_n 0, 1) := by decide +kernel
theorem dX10_falls_30 : decode cX10_falls 30 = .ok (.iload_n 2, 1) := by decide +kernel
theorem dX10_falls_31 : decode cX10_falls 31 = .ok (.invokevirtual 199, 3) := by decide +kernel
theorem dX10_falls_34 : decode cX10_falls 34 = .ok (.ior, 1) := by decide +kernel
theorem dX10_falls_35 : decode cX10_falls 35 = .ok (.istore 5, 2) := by decide +kernel
theorem dX10_falls_37 : decode cX10_falls 37 = .ok (.iload 5, 2) := by decide +kernel
theorem dX10_falls_39 : decode cX10_falls 39 = .ok (.iload_n 2, 1) := by decide +kernel
theorem dX10_falls_40 : decode cX10_falls 40 = .ok (.if_icmp .ne 6, 3) := by decide +kernel
theorem dX10_falls_43 : decode cX10_falls 43 = .ok (.goto 15, 3) := by decide +kernel
theorem dX10_falls_46 : decode cX10_falls 46 = .ok (.iload 5, 2) := by decide +kernel
theorem dX10_falls_48 : decode cX10_falls 48 = .ok (.istore_n 2, 1) := by decide +kernel
theorem dX10_falls_49 : decode cX10_falls 49 = .ok (.iinc 3 1, 3) := by decide +kernel
theorem dX10_falls_52 : decode cX10_falls 52 = .ok (.iinc 4 1, 3) := by decide +kernel
theorem dX10_falls_55 : decode cX10_falls 55 = .ok (.goto (-34), 3) := by decide +kernel
theorem dX10_falls_58 : decode cX10_falls 58 = .ok (.iload_n 1, 1) := by decide +kernel
theorem dX10_falls_59 : decode cX10_falls 59 = .ok (.ifCond .ne 7, 3) := by decide +kernel
theorem dX10_falls_62 : decode cX10_falls 62 = .ok (.iload_n 2, 1) := by decide +kernel
theorem dX10_falls_63 : decode cX10_falls 63 = .ok (.goto 4, 3) := by decide +kernel
theorem dX10_falls_66 : decode cX10_falls 66 = .ok (.iload_n 3, 1) := by decide +kernel
theorem dX10_falls_67 : decode cX10_falls 67 = .ok (.ireturn, 1) := by decide +kernel
theorem dX10_week_0 : decode cX10_week 0 = .ok (.iload_n 1, 1) := by decide +kernel
theorem dX10_week_1 : decode cX10_week 1 = .ok (.aload_n 0, 1) := by decide +kernel
theorem dX10_week_2 : decode cX10_week 2 = .ok (.getfield 91, 3) := by decide +kernel
theorem dX10_week_5 : decode cX10_week 5 = .ok (.if_icmp .lt 10, 3) := by decide +kernel
theorem dX10_week_8 : decode cX10_week 8 = .ok (.iload_n 1, 1) := by decide +kernel
theorem dX10_week_9 : decode cX10_week 9 = .ok (.sipush 299, 3) := by decide +kernel
theorem dX10_week_12 : decode cX10_week 12 = .ok (.if_icmp .le 6, 3) := by decide +kernel
theorem dX10_week_15 : decode cX10_week 15 = .ok (.ldc 110, 2) := by decide +kernel
theorem dX10_week_17 : decode cX10_week 17 = .ok (.ireturn, 1) := by decide +kernel
theorem dX10_week_18 : decode cX10_week 18 = .ok (.aload_n 0, 1) := by decide +kernel
theorem dX10_week_19 : decode cX10_week 19 = .ok (.getfield 91, 3) := by decide +kernel
theorem dX10_week_22 : decode cX10_week 22 = .ok (.istore_n 2, 1) := by decide +kernel
theorem dX10_week_23 : decode cX10_week 23 = .ok (.aload_n 0, 1) := by decide +kernel
theorem dX10_week_24 : decode cX10_week 24 = .ok (.iload_n 1, 1) := by decide +kernel
theorem dX10_week_25 : decode cX10_week 25 = .ok (.putfield 91, 3) := by decide +kernel
theorem dX10_week_28 : decode cX10_week 28 = .ok (.iload_n 2, 1) := by decide +kernel
theorem dX10_week_29 : decode cX10_week 29 = .ok (.ireturn, 1) := by decide +kernel
theorem dX10_feed_0 : decode cX10_feed 0 = .ok (.iload_n 3, 1) := by decide +kernel
theorem dX10_feed_1 : decode cX10_feed 1 = .ok (.iconst 1, 1) := by decide +kernel
theorem dX10_feed_2 : decode cX10_feed 2 = .ok (.if_icmp .lt 9, 3) := by decide +kernel
theorem dX10_feed_5 : decode cX10_feed 5 = .ok (.iload_n 3, 1) := by decide +kernel
theorem dX10_feed_6 : decode cX10_feed 6 = .ok (.bipush 8, 2) := by decide +kernel
theorem dX10_feed_8 : decode cX10_feed 8 = .ok (.if_icmp .le 6, 3) := by decide +kernel
theorem dX10_feed_11 : decode cX10_feed 11 = .ok (.ldc 110, 2) := by decide +kernel
theorem dX10_feed_13 : decode cX10_feed 13 = .ok (.ireturn, 1) := by decide +kernel
theorem dX10_feed_14 : decode cX10_feed 14 = .ok (.aload_n 0, 1) := by decide +kernel
theorem dX10_feed_15 : decode cX10_feed 15 = .ok (.getfield 38, 3) := by decide +kernel
theorem dX10_feed_18 : decode cX10_feed 18 = .ok (.iload_n 3, 1) := by decide +kernel
theorem dX10_feed_19 : decode cX10_feed 19 = .ok (.invokevirtual 202, 3) := by decide +kernel
theorem dX10_feed_22 : decode cX10_feed 22 = .ok (.ifCond .ne 6, 3) := by decide +kernel
theorem dX10_feed_25 : decode cX10_feed 25 = .ok (.ldc 166, 2) := by decide +kernel
theorem dX10_feed_27 : decode cX10_feed 27 = .ok (.ireturn, 1) := by decide +kernel
theorem dX10_feed_28 : decode cX10_feed 28 = .ok (.aload_n 0, 1) := by decide +kernel
theorem dX10_feed_29 : decode cX10_feed 29 = .ok (.getfield 38, 3) := by decide +kernel
theorem dX10_feed_32 : decode cX10_feed 32 = .ok (.lload_n 1, 1) := by decide +kernel
theorem dX10_feed_33 : decode cX10_feed 33 = .ok (.iload_n 3, 1) := by decide +kernel
theorem dX10_feed_34 : decode cX10_feed 34 = .ok (.invokevirtual 205, 3) := by decide +kernel
theorem dX10_feed_37 : decode cX10_feed 37 = .ok (.aload_n 0, 1) := by decide +kernel
theorem dX10_feed_38 : decode cX10_feed 38 = .ok (.getfield 38, 3) := by decide +kernel
theorem dX10_feed_41 : decode cX10_feed 41 = .ok (.getfield 209, 3) := by decide +kernel
theorem dX10_feed_44 : decode cX10_feed 44 = .ok (.ireturn, 1) := by decide +kernel
theorem dX10_books_0 : decode cX10_books 0 = .ok (.aload_n 0, 1) := by decide +kernel
theorem dX10_books_1 : decode cX10_books 1 = .ok (.getfield 47, 3) := by decide +kernel
theorem dX10_books_4 : decode cX10_books 4 = .ok (.aload_n 0, 1) := by decide +kernel
theorem dX10_books_5 : decode cX10_books 5 = .ok (.getfield 84, 3) := by decide +kernel
theorem dX10_books_8 : decode cX10_books 8 = .ok (.invokevirtual 210, 3) := by decide +kernel
theorem dX10_books_11 : decode cX10_books 11 = .ok (.istore_n 1, 1) := by decide +kernel
theorem dX10_books_12 : decode cX10_books 12 = .ok (.aload_n 0, 1) := by decide +kernel
theorem dX10_books_13 : decode cX10_books 13 = .ok (.getfield 38, 3) := by decide +kernel
theorem dX10_books_16 : decode cX10_books 16 = .ok (.getfield 213, 3) := by decide +kernel
theorem dX10_books_19 : decode cX10_books 19 = .ok (.istore_n 2, 1) := by decide +kernel
theorem dX10_books_20 : decode cX10_books 20 = .ok (.aload_n 0, 1) := by decide +kernel
theorem dX10_books_21 : decode cX10_books 21 = .ok (.getfield 38, 3) := by decide +kernel
theorem dX10_books_24 : decode cX10_books 24 = .ok (.invokevirtual 216, 3) := by decide +kernel
theorem dX10_books_27 : decode cX10_books 27 = .ok (.iload_n 1, 1) := by decide +kernel
theorem dX10_books_28 : decode cX10_books 28 = .ok (.ifCond .eq 13, 3) := by decide +kernel
theorem dX10_books_31 : decode cX10_books 31 = .ok (.aload_n 0, 1) := by decide +kernel
theorem dX10_books_32 : decode cX10_books 32 = .ok (.iload_n 1, 1) := by decide +kernel
theorem dX10_books_33 : decode cX10_books 33 = .ok (.putfield 94, 3) := by decide +kernel
theorem dX10_books_36 : decode cX10_books 36 = .ok (.ldc 219, 2) := by decide +kernel
theorem dX10_books_38 : decode cX10_books 38 = .ok (.iload_n 2, 1) := by decide +kernel
theorem dX10_books_39 : decode cX10_books 39 = .ok (.isub, 1) := by decide +kernel
theorem dX10_books_40 : decode cX10_books 40 = .ok (.ireturn, 1) := by decide +kernel
theorem dX10_books_41 : decode cX10_books 41 = .ok (.aload_n 0, 1) := by decide +kernel
theorem dX10_books_42 : decode cX10_books 42 = .ok (.getfield 31, 3) := by decide +kernel
theorem dX10_books_45 : decode cX10_books 45 = .ok (.getfield 220, 3) := by decide +kernel
theorem dX10_books_48 : decode cX10_books 48 = .ok (.ireturn, 1) := by decide +kernel
theorem dX10_fault_0 : decode cX10_fault 0 = .ok (.aload_n 0, 1) := by decide +kernel
theorem dX10_fault_1 : decode cX10_fault 1 = .ok (.getfield 94, 3) := by decide +kernel
theorem dX10_fault_4 : decode cX10_fault 4 = .ok (.ireturn, 1) := by decide +kernel
theorem dX10_known_0 : decode cX10_known 0 = .ok (.iload_n 1, 1) := by decide +kernel
theorem dX10_known_1 : decode cX10_known 1 = .ok (.invokestatic 151, 3) := by decide +kernel
theorem dX10_known_4 : decode cX10_known 4 = .ok (.ifCond .eq 21, 3) := by decide +kernel
theorem dX10_known_7 : decode cX10_known 7 = .ok (.iload_n 2, 1) := by decide +kernel
theorem dX10_known_8 : decode cX10_known 8 = .ok (.sipush 299, 3) := by decide +kernel
theorem dX10_known_11 : decode cX10_known 11 = .ok (.invokestatic 106, 3) := by decide +kernel
theorem dX10_known_14 : decode cX10_known 14 = .ok (.ifCond .eq 11, 3) := by decide +kernel
theorem dX10_known_17 : decode cX10_known 17 = .ok (.aload_n 0, 1) := by decide +kernel
theorem dX10_known_18 : decode cX10_known 18 = .ok (.iload_n 3, 1) := by decide +kernel
theorem dX10_known_19 : decode cX10_known 19 = .ok (.invokevirtual 169, 3) := by decide +kernel
theorem dX10_known_22 : decode cX10_known 22 = .ok (.ifnonnull 6, 3) := by decide +kernel
theorem dX10_known_25 : decode cX10_known 25 = .ok (.ldc 110, 2) := by decide +kernel
theorem dX10_known_27 : decode cX10_known 27 = .ok (.ireturn, 1) := by decide +kernel
theorem dX10_known_28 : decode cX10_known 28 = .ok (.aload_n 0, 1) := by decide +kernel
theorem dX10_known_29 : decode cX10_known 29 = .ok (.iload_n 1, 1) := by decide +kernel
theorem dX10_known_30 : decode cX10_known 30 = .ok (.iload_n 2, 1) := by decide +kernel
theorem dX10_known_31 : decode cX10_known 31 = .ok (.invokevirtual 223, 3) := by decide +kernel
theorem dX10_known_34 : decode cX10_known 34 = .ok (.istore 5, 2) := by decide +kernel
theorem dX10_known_36 : decode cX10_known 36 = .ok (.iload 4, 2) := by decide +kernel
theorem dX10_known_38 : decode cX10_known 38 = .ok (.tableswitch 60 0 2 #[26, 37, 49], 26) := by decide +kernel
theorem dX10_known_64 : decode cX10_known 64 = .ok (.aload_n 0, 1) := by decide +kernel
theorem dX10_known_65 : decode cX10_known 65 = .ok (.getfield 31, 3) := by decide +kernel
theorem dX10_known_68 : decode cX10_known 68 = .ok (.iload_n 3, 1) := by decide +kernel
theorem dX10_known_69 : decode cX10_known 69 = .ok (.iload 5, 2) := by decide +kernel
theorem dX10_known_71 : decode cX10_known 71 = .ok (.invokevirtual 226, 3) := by decide +kernel
theorem dX10_known_74 : decode cX10_known 74 = .ok (.ireturn, 1) := by decide +kernel
theorem dX10_known_75 : decode cX10_known 75 = .ok (.aload_n 0, 1) := by decide +kernel
theorem dX10_known_76 : decode cX10_known 76 = .ok (.getfield 31, 3) := by decide +kernel
theorem dX10_known_79 : decode cX10_known 79 = .ok (.iconst 2, 1) := by decide +kernel
theorem dX10_known_80 : decode cX10_known 80 = .ok (.iload_n 3, 1) := by decide +kernel
theorem dX10_known_81 : decode cX10_known 81 = .ok (.iload 5, 2) := by decide +kernel
theorem dX10_known_83 : decode cX10_known 83 = .ok (.invokevirtual 229, 3) := by decide +kernel
theorem dX10_known_86 : decode cX10_known 86 = .ok (.ireturn, 1) := by decide +kernel
theorem dX10_known_87 : decode cX10_known 87 = .ok (.aload_n 0, 1) := by decide +kernel
theorem dX10_known_88 : decode cX10_known 88 = .ok (.getfield 31, 3) := by decide +kernel
theorem dX10_known_91 : decode cX10_known 91 = .ok (.iload_n 3, 1) := by decide +kernel
theorem dX10_known_92 : decode cX10_known 92 = .ok (.iload 5, 2) := by decide +kernel
theorem dX10_known_94 : decode cX10_known 94 = .ok (.invokevirtual 233, 3) := by decide +kernel
theorem dX10_known_97 : decode cX10_known 97 = .ok (.ireturn, 1) := by decide +kernel
theorem dX10_known_98 : decode cX10_known 98 = .ok (.ldc 110, 2) := by decide +kernel
theorem dX10_known_100 : decode cX10_known 100 = .ok (.ireturn, 1) := by decide +kernel
theorem dX10_note_0 : decode cX10_note 0 = .ok (.iload_n 1, 1) := by decide +kernel
theorem dX10_note_1 : decode cX10_note 1 = .ok (.bipush 7, 2) := by decide +kernel
theorem dX10_note_3 : decode cX10_note 3 = .ok (.invokestatic 106, 3) := by decide +kernel
theorem dX10_note_6 : decode cX10_note 6 = .ok (.ifCond .eq 14, 3) := by decide +kernel
theorem dX10_note_9 : decode cX10_note 9 = .ok (.iload_n 2, 1) := by decide +kernel
theorem dX10_note_10 : decode cX10_note 10 = .ok (.iconst 1, 1) := by decide +kernel
theorem dX10_note_11 : decode cX10_note 11 = .ok (.if_icmp .lt 9, 3) := by decide +kernel
theorem dX10_note_14 : decode cX10_note 14 = .ok (.iload_n 2, 1) := by decide +kernel
theorem dX10_note_15 : decode cX10_note 15 = .ok (.bipush 100, 2) := by decide +kernel
theorem dX10_note_17 : decode cX10_note 17 = .ok (.if_icmp .le 6, 3) := by decide +kernel
theorem dX10_note_20 : decode cX10_note 20 = .ok (.ldc 110, 2) := by decide +kernel
theorem dX10_note_22 : decode cX10_note 22 = .ok (.ireturn, 1) := by decide +kernel
theorem dX10_note_23 : decode cX10_note 23 = .ok (.iload_n 3, 1) := by decide +kernel
theorem dX10_note_24 : decode cX10_note 24 = .ok (.sipush 255, 3) := by decide +kernel
theorem dX10_note_27 : decode cX10_note 27 = .ok (.invokestatic 106, 3) := by decide +kernel
theorem dX10_note_30 : decode cX10_note 30 = .ok (.ifCond .eq 23, 3) := by decide +kernel
theorem dX10_note_33 : decode cX10_note 33 = .ok (.iload 4, 2) := by decide +kernel
theorem dX10_note_35 : decode cX10_note 35 = .ok (.sipush 255, 3) := by decide +kernel
theorem dX10_note_38 : decode cX10_note 38 = .ok (.invokestatic 106, 3) := by decide +kernel
theorem dX10_note_41 : decode cX10_note 41 = .ok (.ifCond .eq 12, 3) := by decide +kernel
theorem dX10_note_44 : decode cX10_note 44 = .ok (.aload_n 0, 1) := by decide +kernel
theorem dX10_note_45 : decode cX10_note 45 = .ok (.iload 5, 2) := by decide +kernel
theorem dX10_note_47 : decode cX10_note 47 = .ok (.invokevirtual 236, 3) := by decide +kernel
theorem dX10_note_50 : decode cX10_note 50 = .ok (.ifnonnull 6, 3) := by decide +kernel
theorem dX10_note_53 : decode cX10_note 53 = .ok (.ldc 110, 2) := by decide +kernel
theorem dX10_note_55 : decode cX10_note 55 = .ok (.ireturn, 1) := by decide +kernel
theorem dX10_note_56 : decode cX10_note 56 = .ok (.aload_n 0, 1) := by decide +kernel
theorem dX10_note_57 : decode cX10_note 57 = .ok (.getfield 88, 3) := by decide +kernel
theorem dX10_note_60 : decode cX10_note 60 = .ok (.istore 6, 2) := by decide +kernel
theorem dX10_note_62 : decode cX10_note 62 = .ok (.iload 6, 2) := by decide +kernel
theorem dX10_note_64 : decode cX10_note 64 = .ok (.bipush 24, 2) := by decide +kernel
theorem dX10_note_66 : decode cX10_note 66 = .ok (.if_icmp .lt 6, 3) := by decide +kernel
theorem dX10_note_69 : decode cX10_note 69 = .ok (.ldc 166, 2) := by decide +kernel
theorem dX10_note_71 : decode cX10_note 71 = .ok (.ireturn, 1) := by decide +kernel
theorem dX10_note_72 : decode cX10_note 72 = .ok (.new 51, 3) := by decide +kernel
theorem dX10_note_75 : decode cX10_note 75 = .ok (.dup, 1) := by decide +kernel
theorem dX10_note_76 : decode cX10_note 76 = .ok (.iload 6, 2) := by decide +kernel
theorem dX10_note_78 : decode cX10_note 78 = .ok (.iload_n 1, 1) := by decide +kernel
theorem dX10_note_79 : decode cX10_note 79 = .ok (.iload_n 2, 1) := by decide +kernel
theorem dX10_note_80 : decode cX10_note 80 = .ok (.iload_n 3, 1) := by decide +kernel
theorem dX10_note_81 : decode cX10_note 81 = .ok (.iload 4, 2) := by decide +kernel
theorem dX10_note_83 : decode cX10_note 83 = .ok (.invokespecial 240, 3) := by decide +kernel
theorem dX10_note_86 : decode cX10_note 86 = .ok (.astore 7, 2) := by decide +kernel
theorem dX10_note_88 : decode cX10_note 88 = .ok (.aload 7, 2) := by decide +kernel
theorem dX10_note_90 : decode cX10_note 90 = .ok (.iload 5, 2) := by decide +kernel
theorem dX10_note_92 : decode cX10_note 92 = .ok (.aload_n 0, 1) := by decide +kernel
theorem dX10_note_93 : decode cX10_note 93 = .ok (.getfield 91, 3) := by decide +kernel
theorem dX10_note_96 : decode cX10_note 96 = .ok (.invokevirtual 243, 3) := by decide +kernel
theorem dX10_note_99 : decode cX10_note 99 = .ok (.aload_n 0, 1) := by decide +kernel
theorem dX10_note_100 : decode cX10_note 100 = .ok (.getfield 53, 3) := by decide +kernel
theorem dX10_note_103 : decode cX10_note 103 = .ok (.iload 6, 2) := by decide +kernel
theorem dX10_note_105 : decode cX10_note 105 = .ok (.aload 7, 2) := by decide +kernel
theorem dX10_note_107 : decode cX10_note 107 = .ok (.aastore, 1) := by decide +kernel
theorem dX10_note_108 : decode cX10_note 108 = .ok (.aload_n 0, 1) := by decide +kernel
theorem dX10_note_109 : decode cX10_note 109 = .ok (.iload 6, 2) := by decide +kernel
theorem dX10_note_111 : decode cX10_note 111 = .ok (.iconst 1, 1) := by decide +kernel
theorem dX10_note_112 : decode cX10_note 112 = .ok (.iadd, 1) := by decide +kernel
theorem dX10_note_113 : decode cX10_note 113 = .ok (.putfield 88, 3) := by decide +kernel
theorem dX10_note_116 : decode cX10_note 116 = .ok (.iload 6, 2) := by decide +kernel
theorem dX10_note_118 : decode cX10_note 118 = .ok (.ireturn, 1) := by decide +kernel
theorem dX10_told_0 : decode cX10_told 0 = .ok (.aload_n 0, 1) := by decide +kernel
theorem dX10_told_1 : decode cX10_told 1 = .ok (.iload_n 1, 1) := by decide +kernel
theorem dX10_told_2 : decode cX10_told 2 = .ok (.invokevirtual 246, 3) := by decide +kernel
theorem dX10_told_5 : decode cX10_told 5 = .ok (.astore_n 3, 1) := by decide +kernel
theorem dX10_told_6 : decode cX10_told 6 = .ok (.aload_n 3, 1) := by decide +kernel
theorem dX10_told_7 : decode cX10_told 7 = .ok (.ifnonnull 6, 3) := by decide +kernel
theorem dX10_told_10 : decode cX10_told 10 = .ok (.ldc 110, 2) := by decide +kernel
theorem dX10_told_12 : decode cX10_told 12 = .ok (.ireturn, 1) := by decide +kernel
theorem dX10_told_13 : decode cX10_told 13 = .ok (.iload_n 2, 1) := by decide +kernel
theorem dX10_told_14 : decode cX10_told 14 = .ok (.tableswitch 95 0 6 #[42, 47, 52, 57, 62, 67, 81], 42) := by decide +kernel
theorem dX10_told_56 : decode cX10_told 56 = .ok (.aload_n 3, 1) := by decide +kernel
theorem dX10_told_57 : decode cX10_told 57 = .ok (.getfield 250, 3) := by decide +kernel
theorem dX10_told_60 : decode cX10_told 60 = .ok (.ireturn, 1) := by decide +kernel
theorem dX10_told_61 : decode cX10_told 61 = .ok (.aload_n 3, 1) := by decide +kernel
theorem dX10_told_62 : decode cX10_told 62 = .ok (.getfield 253, 3) := by decide +kernel
theorem dX10_told_65 : decode cX10_told 65 = .ok (.ireturn, 1) := by decide +kernel
theorem dX10_told_66 : decode cX10_told 66 = .ok (.aload_n 3, 1) := by decide +kernel
theorem dX10_told_67 : decode cX10_told 67 = .ok (.getfield 256, 3) := by decide +kernel
theorem dX10_told_70 : decode cX10_told 70 = .ok (.ireturn, 1) := by decide +kernel
theorem dX10_told_71 : decode cX10_told 71 = .ok (.aload_n 3, 1) := by decide +kernel
theorem dX10_told_72 : decode cX10_told 72 = .ok (.getfield 259, 3) := by decide +kernel
theorem dX10_told_75 : decode cX10_told 75 = .ok (.ireturn, 1) := by decide +kernel
theorem dX10_told_76 : decode cX10_told 76 = .ok (.aload_n 3, 1) := by decide +kernel
theorem dX10_told_77 : decode cX10_told 77 = .ok (.invokevirtual 262, 3) := by decide +kernel
theorem dX10_told_80 : decode cX10_told 80 = .ok (.ireturn, 1) := by decide +kernel
theorem dX10_told_81 : decode cX10_told 81 = .ok (.aload_n 3, 1) := by decide +kernel
theorem dX10_told_82 : decode cX10_told 82 = .ok (.getfield 265, 3) := by decide +kernel
theorem dX10_told_85 : decode cX10_told 85 = .ok (.iconst 1, 1) := by decide +kernel
theorem dX10_told_86 : decode cX10_told 86 = .ok (.if_icmp .ne 7, 3) := by decide +kernel
theorem dX10_told_89 : decode cX10_told 89 = .ok (.iconst 1, 1) := by decide +kernel
theorem dX10_told_90 : decode cX10_told 90 = .ok (.goto 4, 3) := by decide +kernel
theorem dX10_told_93 : decode cX10_told 93 = .ok (.iconst 0, 1) := by decide +kernel
theorem dX10_told_94 : decode cX10_told 94 = .ok (.ireturn, 1) := by decide +kernel
theorem dX10_told_95 : decode cX10_told 95 = .ok (.aload_n 3, 1) := by decide +kernel
theorem dX10_told_96 : decode cX10_told 96 = .ok (.getfield 265, 3) := by decide +kernel
theorem dX10_told_99 : decode cX10_told 99 = .ok (.iconst 2, 1) := by decide +kernel
theorem dX10_told_100 : decode cX10_told 100 = .ok (.if_icmp .ne 7, 3) := by decide +kernel
theorem dX10_told_103 : decode cX10_told 103 = .ok (.iconst 1, 1) := by decide +kernel
theorem dX10_told_104 : decode cX10_told 104 = .ok (.goto 4, 3) := by decide +kernel
theorem dX10_told_107 : decode cX10_told 107 = .ok (.iconst 0, 1) := by decide +kernel
theorem dX10_told_108 : decode cX10_told 108 = .ok (.ireturn, 1) := by decide +kernel
theorem dX10_told_109 : decode cX10_told 109 = .ok (.ldc 110, 2) := by decide +kernel
theorem dX10_told_111 : decode cX10_told 111 = .ok (.ireturn, 1) := by decide +kernel
theorem dX10_looks_0 : decode cX10_looks 0 = .ok (.aload_n 0, 1) := by decide +kernel
theorem dX10_looks_1 : decode cX10_looks 1 = .ok (.iload_n 1, 1) := by decide +kernel
theorem dX10_looks_2 : decode cX10_looks 2 = .ok (.invokevirtual 246, 3) := by decide +kernel
theorem dX10_looks_5 : decode cX10_looks 5 = .ok (.astore 4, 2) := by decide +kernel
theorem dX10_looks_7 : decode cX10_looks 7 = .ok (.aload 4, 2) := by decide +kernel
theorem dX10_looks_9 : decode cX10_looks 9 = .ok (.ifnull 20, 3) := by decide +kernel
theorem dX10_looks_12 : decode cX10_looks 12 = .ok (.iload_n 2, 1) := by decide +kernel
theorem dX10_looks_13 : decode cX10_looks 13 = .ok (.invokestatic 151, 3) := by decide +kernel
theorem dX10_looks_16 : decode cX10_looks 16 = .ok (.ifCond .eq 13, 3) := by decide +kernel
theorem dX10_looks_19 : decode cX10_looks 19 = .ok (.iload_n 3, 1) := by decide +kernel
theorem dX10_looks_20 : decode cX10_looks 20 = .ok (.sipush 299, 3) := by decide +kernel
theorem dX10_looks_23 : decode cX10_looks 23 = .ok (.invokestatic 106, 3) := by decide +kernel
theorem dX10_looks_26 : decode cX10_looks 26 = .ok (.ifCond .ne 6, 3) := by decide +kernel
theorem dX10_looks_29 : decode cX10_looks 29 = .ok (.ldc 110, 2) := by decide +kernel
theorem dX10_looks_31 : decode cX10_looks 31 = .ok (.ireturn, 1) := by decide +kernel
theorem dX10_looks_32 : decode cX10_looks 32 = .ok (.aload_n 0, 1) := by decide +kernel
theorem dX10_looks_33 : decode cX10_looks 33 = .ok (.aload 4, 2) := by decide +kernel
theorem dX10_looks_35 : decode cX10_looks 35 = .ok (.getfield 250, 3) := by decide +kernel
theorem dX10_looks_38 : decode cX10_looks 38 = .ok (.invokevirtual 169, 3) := by decide +kernel
theorem dX10_looks_41 : decode cX10_looks 41 = .ok (.astore 5, 2) := by decide +kernel
theorem dX10_looks_43 : decode cX10_looks 43 = .ok (.aload 5, 2) := by decide +kernel
theorem dX10_looks_45 : decode cX10_looks 45 = .ok (.ifnull 16, 3) := by decide +kernel
theorem dX10_looks_48 : decode cX10_looks 48 = .ok (.aload 4, 2) := by decide +kernel
theorem dX10_looks_50 : decode cX10_looks 50 = .ok (.aload 5, 2) := by decide +kernel
theorem dX10_looks_52 : decode cX10_looks 52 = .ok (.getfield 179, 3) := by decide +kernel
theorem dX10_looks_55 : decode cX10_looks 55 = .ok (.invokevirtual 268, 3) := by decide +kernel
theorem dX10_looks_58 : decode cX10_looks 58 = .ok (.ifCond .eq 5, 3) := by decide +kernel
theorem dX10_looks_61 : decode cX10_looks 61 = .ok (.iconst 0, 1) := by decide +kernel
theorem dX10_looks_62 : decode cX10_looks 62 = .ok (.ireturn, 1) := by decide +kernel
theorem dX10_looks_63 : decode cX10_looks 63 = .ok (.aload 4, 2) := by decide +kernel
theorem dX10_looks_65 : decode cX10_looks 65 = .ok (.getfield 259, 3) := by decide +kernel
theorem dX10_looks_68 : decode cX10_looks 68 = .ok (.ifCond .eq 21, 3) := by decide +kernel
theorem dX10_looks_71 : decode cX10_looks 71 = .ok (.aload_n 0, 1) := by decide +kernel
theorem dX10_looks_72 : decode cX10_looks 72 = .ok (.getfield 31, 3) := by decide +kernel
theorem dX10_looks_75 : decode cX10_looks 75 = .ok (.aload 4, 2) := by decide +kernel
theorem dX10_looks_77 : decode cX10_looks 77 = .ok (.aload_n 0, 1) := by decide +kernel
theorem dX10_looks_78 : decode cX10_looks 78 = .ok (.iload_n 2, 1) := by decide +kernel
theorem dX10_looks_79 : decode cX10_looks 79 = .ok (.iload_n 3, 1) := by decide +kernel
theorem dX10_looks_80 : decode cX10_looks 80 = .ok (.invokevirtual 223, 3) := by decide +kernel
theorem dX10_looks_83 : decode cX10_looks 83 = .ok (.invokevirtual 271, 3) := by decide +kernel
theorem dX10_looks_86 : decode cX10_looks 86 = .ok (.ifCond .eq 5, 3) := by decide +kernel
theorem dX10_looks_89 : decode cX10_looks 89 = .ok (.iconst 1, 1) := by decide +kernel
theorem dX10_looks_90 : decode cX10_looks 90 = .ok (.ireturn, 1) := by decide +kernel
theorem dX10_looks_91 : decode cX10_looks 91 = .ok (.iconst 2, 1) := by decide +kernel
theorem dX10_looks_92 : decode cX10_looks 92 = .ok (.ireturn, 1) := by decide +kernel
theorem dX10_worth_0 : decode cX10_worth 0 = .ok (.aload_n 0, 1) := by decide +kernel
theorem dX10_worth_1 : decode cX10_worth 1 = .ok (.iload_n 1, 1) := by decide +kernel
theorem dX10_worth_2 : decode cX10_worth 2 = .ok (.invokevirtual 246, 3) := by decide +kernel
theorem dX10_worth_5 : decode cX10_worth 5 = .ok (.astore 4, 2) := by decide +kernel
theorem dX10_worth_7 : decode cX10_worth 7 = .ok (.aload 4, 2) := by decide +kernel
theorem dX10_worth_9 : decode cX10_worth 9 = .ok (.ifnull 20, 3) := by decide +kernel
theorem dX10_worth_12 : decode cX10_worth 12 = .ok (.iload_n 2, 1) := by decide +kernel
theorem dX10_worth_13 : decode cX10_worth 13 = .ok (.invokestatic 151, 3) := by decide +kernel
theorem dX10_worth_16 : decode cX10_worth 16 = .ok (.ifCond .eq 13, 3) := by decide +kernel
theorem dX10_worth_19 : decode cX10_worth 19 = .ok (.iload_n 3, 1) := by decide +kernel
theorem dX10_worth_20 : decode cX10_worth 20 = .ok (.sipush 299, 3) := by decide +kernel
theorem dX10_worth_23 : decode cX10_worth 23 = .ok (.invokestatic 106, 3) := by decide +kernel
theorem dX10_worth_26 : decode cX10_worth 26 = .ok (.ifCond .ne 6, 3) := by decide +kernel
theorem dX10_worth_29 : decode cX10_worth 29 = .ok (.ldc 110, 2) := by decide +kernel
theorem dX10_worth_31 : decode cX10_worth 31 = .ok (.ireturn, 1) := by decide +kernel
theorem dX10_worth_32 : decode cX10_worth 32 = .ok (.aload 4, 2) := by decide +kernel
theorem dX10_worth_34 : decode cX10_worth 34 = .ok (.getfield 253, 3) := by decide +kernel
theorem dX10_worth_37 : decode cX10_worth 37 = .ok (.aload_n 0, 1) := by decide +kernel
theorem dX10_worth_38 : decode cX10_worth 38 = .ok (.aload 4, 2) := by decide +kernel
theorem dX10_worth_40 : decode cX10_worth 40 = .ok (.iload_n 2, 1) := by decide +kernel
theorem dX10_worth_41 : decode cX10_worth 41 = .ok (.iload_n 3, 1) := by decide +kernel
theorem dX10_worth_42 : decode cX10_worth 42 = .ok (.invokevirtual 275, 3) := by decide +kernel
theorem dX10_worth_45 : decode cX10_worth 45 = .ok (.imul, 1) := by decide +kernel
theorem dX10_worth_46 : decode cX10_worth 46 = .ok (.ireturn, 1) := by decide +kernel
theorem dX10_hands_0 : decode cX10_hands 0 = .ok (.aload_n 0, 1) := by decide +kernel
theorem dX10_hands_1 : decode cX10_hands 1 = .ok (.iload_n 1, 1) := by decide +kernel
theorem dX10_hands_2 : decode cX10_hands 2 = .ok (.invokevirtual 246, 3) := by decide +kernel
theorem dX10_hands_5 : decode cX10_hands 5 = .ok (.astore 4, 2) := by decide +kernel
