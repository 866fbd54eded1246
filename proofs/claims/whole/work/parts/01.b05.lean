theorem dX11_half_23 : decode cX11_half 23 = .ok (.iload_n 3, 1) := by decide +kernel
theorem dX11_half_24 : decode cX11_half 24 = .ok (.ldc 145, 2) := by decide +kernel
theorem dX11_half_26 : decode cX11_half 26 = .ok (.if_icmp .eq 13, 3) := by decide +kernel
theorem dX11_half_29 : decode cX11_half 29 = .ok (.iload_n 3, 1) := by decide +kernel
theorem dX11_half_30 : decode cX11_half 30 = .ok (.invokestatic 270, 3) := by decide +kernel
theorem dX11_half_33 : decode cX11_half 33 = .ok (.ifCond .ne 6, 3) := by decide +kernel
theorem dX11_half_36 : decode cX11_half 36 = .ok (.ldc 133, 2) := by decide +kernel
theorem dX11_half_38 : decode cX11_half 38 = .ok (.ireturn, 1) := by decide +kernel
theorem dX11_half_39 : decode cX11_half 39 = .ok (.aload_n 0, 1) := by decide +kernel
theorem dX11_half_40 : decode cX11_half 40 = .ok (.getfield 80, 3) := by decide +kernel
theorem dX11_half_43 : decode cX11_half 43 = .ok (.iload_n 1, 1) := by decide +kernel
theorem dX11_half_44 : decode cX11_half 44 = .ok (.baload, 1) := by decide +kernel
theorem dX11_half_45 : decode cX11_half 45 = .ok (.ifCond .eq 18, 3) := by decide +kernel
theorem dX11_half_48 : decode cX11_half 48 = .ok (.aload_n 0, 1) := by decide +kernel
theorem dX11_half_49 : decode cX11_half 49 = .ok (.getfield 83, 3) := by decide +kernel
theorem dX11_half_52 : decode cX11_half 52 = .ok (.iconst 2, 1) := by decide +kernel
theorem dX11_half_53 : decode cX11_half 53 = .ok (.iload_n 1, 1) := by decide +kernel
theorem dX11_half_54 : decode cX11_half 54 = .ok (.imul, 1) := by decide +kernel
theorem dX11_half_55 : decode cX11_half 55 = .ok (.iload_n 2, 1) := by decide +kernel
theorem dX11_half_56 : decode cX11_half 56 = .ok (.iadd, 1) := by decide +kernel
theorem dX11_half_57 : decode cX11_half 57 = .ok (.iaload, 1) := by decide +kernel
theorem dX11_half_58 : decode cX11_half 58 = .ok (.ldc 145, 2) := by decide +kernel
theorem dX11_half_60 : decode cX11_half 60 = .ok (.if_icmp .ne 7, 3) := by decide +kernel
theorem dX11_half_63 : decode cX11_half 63 = .ok (.ldc_w 299, 3) := by decide +kernel
theorem dX11_half_66 : decode cX11_half 66 = .ok (.ireturn, 1) := by decide +kernel
theorem dX11_half_67 : decode cX11_half 67 = .ok (.aload_n 0, 1) := by decide +kernel
theorem dX11_half_68 : decode cX11_half 68 = .ok (.getfield 83, 3) := by decide +kernel
theorem dX11_half_71 : decode cX11_half 71 = .ok (.iconst 2, 1) := by decide +kernel
theorem dX11_half_72 : decode cX11_half 72 = .ok (.iload_n 1, 1) := by decide +kernel
theorem dX11_half_73 : decode cX11_half 73 = .ok (.imul, 1) := by decide +kernel
theorem dX11_half_74 : decode cX11_half 74 = .ok (.iload_n 2, 1) := by decide +kernel
theorem dX11_half_75 : decode cX11_half 75 = .ok (.iadd, 1) := by decide +kernel
theorem dX11_half_76 : decode cX11_half 76 = .ok (.iload_n 3, 1) := by decide +kernel
theorem dX11_half_77 : decode cX11_half 77 = .ok (.iastore, 1) := by decide +kernel
theorem dX11_half_78 : decode cX11_half 78 = .ok (.aload_n 0, 1) := by decide +kernel
theorem dX11_half_79 : decode cX11_half 79 = .ok (.getfield 83, 3) := by decide +kernel
theorem dX11_half_82 : decode cX11_half 82 = .ok (.iconst 2, 1) := by decide +kernel
theorem dX11_half_83 : decode cX11_half 83 = .ok (.iload_n 1, 1) := by decide +kernel
theorem dX11_half_84 : decode cX11_half 84 = .ok (.imul, 1) := by decide +kernel
theorem dX11_half_85 : decode cX11_half 85 = .ok (.iconst 1, 1) := by decide +kernel
theorem dX11_half_86 : decode cX11_half 86 = .ok (.iadd, 1) := by decide +kernel
theorem dX11_half_87 : decode cX11_half 87 = .ok (.iload_n 2, 1) := by decide +kernel
theorem dX11_half_88 : decode cX11_half 88 = .ok (.isub, 1) := by decide +kernel
theorem dX11_half_89 : decode cX11_half 89 = .ok (.iaload, 1) := by decide +kernel
theorem dX11_half_90 : decode cX11_half 90 = .ok (.istore 4, 2) := by decide +kernel
theorem dX11_half_92 : decode cX11_half 92 = .ok (.iload 4, 2) := by decide +kernel
theorem dX11_half_94 : decode cX11_half 94 = .ok (.iload_n 3, 1) := by decide +kernel
theorem dX11_half_95 : decode cX11_half 95 = .ok (.if_icmp .eq 29, 3) := by decide +kernel
theorem dX11_half_98 : decode cX11_half 98 = .ok (.iload_n 3, 1) := by decide +kernel
theorem dX11_half_99 : decode cX11_half 99 = .ok (.ldc 145, 2) := by decide +kernel
theorem dX11_half_101 : decode cX11_half 101 = .ok (.if_icmp .eq 10, 3) := by decide +kernel
theorem dX11_half_104 : decode cX11_half 104 = .ok (.iload 4, 2) := by decide +kernel
theorem dX11_half_106 : decode cX11_half 106 = .ok (.ldc 145, 2) := by decide +kernel
theorem dX11_half_108 : decode cX11_half 108 = .ok (.if_icmp .ne 14, 3) := by decide +kernel
theorem dX11_half_111 : decode cX11_half 111 = .ok (.aload_n 0, 1) := by decide +kernel
theorem dX11_half_112 : decode cX11_half 112 = .ok (.getfield 59, 3) := by decide +kernel
theorem dX11_half_115 : decode cX11_half 115 = .ok (.iload_n 1, 1) := by decide +kernel
theorem dX11_half_116 : decode cX11_half 116 = .ok (.iaload, 1) := by decide +kernel
theorem dX11_half_117 : decode cX11_half 117 = .ok (.iconst 2, 1) := by decide +kernel
theorem dX11_half_118 : decode cX11_half 118 = .ok (.idiv, 1) := by decide +kernel
theorem dX11_half_119 : decode cX11_half 119 = .ok (.goto 4, 3) := by decide +kernel
theorem dX11_half_122 : decode cX11_half 122 = .ok (.iconst 0, 1) := by decide +kernel
theorem dX11_half_123 : decode cX11_half 123 = .ok (.ireturn, 1) := by decide +kernel
theorem dX11_half_124 : decode cX11_half 124 = .ok (.aload_n 0, 1) := by decide +kernel
theorem dX11_half_125 : decode cX11_half 125 = .ok (.getfield 80, 3) := by decide +kernel
theorem dX11_half_128 : decode cX11_half 128 = .ok (.iload_n 1, 1) := by decide +kernel
theorem dX11_half_129 : decode cX11_half 129 = .ok (.iconst 0, 1) := by decide +kernel
theorem dX11_half_130 : decode cX11_half 130 = .ok (.bastore, 1) := by decide +kernel
theorem dX11_half_131 : decode cX11_half 131 = .ok (.iload_n 3, 1) := by decide +kernel
theorem dX11_half_132 : decode cX11_half 132 = .ok (.ldc 145, 2) := by decide +kernel
theorem dX11_half_134 : decode cX11_half 134 = .ok (.if_icmp .ne 12, 3) := by decide +kernel
theorem dX11_half_137 : decode cX11_half 137 = .ok (.aload_n 0, 1) := by decide +kernel
theorem dX11_half_138 : decode cX11_half 138 = .ok (.getfield 74, 3) := by decide +kernel
theorem dX11_half_141 : decode cX11_half 141 = .ok (.iload_n 1, 1) := by decide +kernel
theorem dX11_half_142 : decode cX11_half 142 = .ok (.iconst 1, 1) := by decide +kernel
theorem dX11_half_143 : decode cX11_half 143 = .ok (.bastore, 1) := by decide +kernel
theorem dX11_half_144 : decode cX11_half 144 = .ok (.iconst 0, 1) := by decide +kernel
theorem dX11_half_145 : decode cX11_half 145 = .ok (.ireturn, 1) := by decide +kernel
theorem dX11_half_146 : decode cX11_half 146 = .ok (.aload_n 0, 1) := by decide +kernel
theorem dX11_half_147 : decode cX11_half 147 = .ok (.iload_n 1, 1) := by decide +kernel
theorem dX11_half_148 : decode cX11_half 148 = .ok (.iload_n 3, 1) := by decide +kernel
theorem dX11_half_149 : decode cX11_half 149 = .ok (.invokevirtual 273, 3) := by decide +kernel
theorem dX11_half_152 : decode cX11_half 152 = .ok (.aload_n 0, 1) := by decide +kernel
theorem dX11_half_153 : decode cX11_half 153 = .ok (.getfield 59, 3) := by decide +kernel
theorem dX11_half_156 : decode cX11_half 156 = .ok (.iload_n 1, 1) := by decide +kernel
theorem dX11_half_157 : decode cX11_half 157 = .ok (.iaload, 1) := by decide +kernel
theorem dX11_half_158 : decode cX11_half 158 = .ok (.ireturn, 1) := by decide +kernel
theorem dX11_rates_0 : decode cX11_rates 0 = .ok (.aload_n 0, 1) := by decide +kernel
theorem dX11_rates_1 : decode cX11_rates 1 = .ok (.iconst 0, 1) := by decide +kernel
theorem dX11_rates_2 : decode cX11_rates 2 = .ok (.putfield 113, 3) := by decide +kernel
theorem dX11_rates_5 : decode cX11_rates 5 = .ok (.iload_n 1, 1) := by decide +kernel
theorem dX11_rates_6 : decode cX11_rates 6 = .ok (.invokestatic 140, 3) := by decide +kernel
theorem dX11_rates_9 : decode cX11_rates 9 = .ok (.ifCond .eq 10, 3) := by decide +kernel
theorem dX11_rates_12 : decode cX11_rates 12 = .ok (.iload_n 2, 1) := by decide +kernel
theorem dX11_rates_13 : decode cX11_rates 13 = .ok (.invokestatic 127, 3) := by decide +kernel
theorem dX11_rates_16 : decode cX11_rates 16 = .ok (.ifCond .ne 6, 3) := by decide +kernel
theorem dX11_rates_19 : decode cX11_rates 19 = .ok (.ldc 133, 2) := by decide +kernel
theorem dX11_rates_21 : decode cX11_rates 21 = .ok (.ireturn, 1) := by decide +kernel
theorem dX11_rates_22 : decode cX11_rates 22 = .ok (.aload_n 0, 1) := by decide +kernel
theorem dX11_rates_23 : decode cX11_rates 23 = .ok (.iload_n 2, 1) := by decide +kernel
theorem dX11_rates_24 : decode cX11_rates 24 = .ok (.iload_n 3, 1) := by decide +kernel
theorem dX11_rates_25 : decode cX11_rates 25 = .ok (.bipush 8, 2) := by decide +kernel
theorem dX11_rates_27 : decode cX11_rates 27 = .ok (.invokevirtual 300, 3) := by decide +kernel
theorem dX11_rates_30 : decode cX11_rates 30 = .ok (.istore 4, 2) := by decide +kernel
theorem dX11_rates_32 : decode cX11_rates 32 = .ok (.iload 4, 2) := by decide +kernel
theorem dX11_rates_34 : decode cX11_rates 34 = .ok (.ifCond .ge 6, 3) := by decide +kernel
theorem dX11_rates_37 : decode cX11_rates 37 = .ok (.iload 4, 2) := by decide +kernel
theorem dX11_rates_39 : decode cX11_rates 39 = .ok (.ireturn, 1) := by decide +kernel
theorem dX11_rates_40 : decode cX11_rates 40 = .ok (.iconst 0, 1) := by decide +kernel
theorem dX11_rates_41 : decode cX11_rates 41 = .ok (.istore 5, 2) := by decide +kernel
theorem dX11_rates_43 : decode cX11_rates 43 = .ok (.iload 5, 2) := by decide +kernel
theorem dX11_rates_45 : decode cX11_rates 45 = .ok (.bipush 8, 2) := by decide +kernel
theorem dX11_rates_47 : decode cX11_rates 47 = .ok (.if_icmp .ge 37, 3) := by decide +kernel
theorem dX11_rates_50 : decode cX11_rates 50 = .ok (.aload_n 0, 1) := by decide +kernel
theorem dX11_rates_51 : decode cX11_rates 51 = .ok (.getfield 16, 3) := by decide +kernel
theorem dX11_rates_54 : decode cX11_rates 54 = .ok (.bipush 60, 2) := by decide +kernel
theorem dX11_rates_56 : decode cX11_rates 56 = .ok (.iload_n 2, 1) := by decide +kernel
theorem dX11_rates_57 : decode cX11_rates 57 = .ok (.imul, 1) := by decide +kernel
theorem dX11_rates_58 : decode cX11_rates 58 = .ok (.iload_n 3, 1) := by decide +kernel
theorem dX11_rates_59 : decode cX11_rates 59 = .ok (.iadd, 1) := by decide +kernel
theorem dX11_rates_60 : decode cX11_rates 60 = .ok (.iload 5, 2) := by decide +kernel
theorem dX11_rates_62 : decode cX11_rates 62 = .ok (.iadd, 1) := by decide +kernel
theorem dX11_rates_63 : decode cX11_rates 63 = .ok (.iaload, 1) := by decide +kernel
theorem dX11_rates_64 : decode cX11_rates 64 = .ok (.i2l, 1) := by decide +kernel
theorem dX11_rates_65 : decode cX11_rates 65 = .ok (.lconst 0, 1) := by decide +kernel
theorem dX11_rates_66 : decode cX11_rates 66 = .ok (.ldc2_w 268, 3) := by decide +kernel
theorem dX11_rates_69 : decode cX11_rates 69 = .ok (.invokestatic 123, 3) := by decide +kernel
theorem dX11_rates_72 : decode cX11_rates 72 = .ok (.ifCond .ne 6, 3) := by decide +kernel
theorem dX11_rates_75 : decode cX11_rates 75 = .ok (.ldc 133, 2) := by decide +kernel
theorem dX11_rates_77 : decode cX11_rates 77 = .ok (.ireturn, 1) := by decide +kernel
theorem dX11_rates_78 : decode cX11_rates 78 = .ok (.iinc 5 1, 3) := by decide +kernel
theorem dX11_rates_81 : decode cX11_rates 81 = .ok (.goto (-38), 3) := by decide +kernel
theorem dX11_rates_84 : decode cX11_rates 84 = .ok (.aload_n 0, 1) := by decide +kernel
theorem dX11_rates_85 : decode cX11_rates 85 = .ok (.iconst 0, 1) := by decide +kernel
theorem dX11_rates_86 : decode cX11_rates 86 = .ok (.putfield 117, 3) := by decide +kernel
theorem dX11_rates_89 : decode cX11_rates 89 = .ok (.iconst 0, 1) := by decide +kernel
theorem dX11_rates_90 : decode cX11_rates 90 = .ok (.istore 5, 2) := by decide +kernel
theorem dX11_rates_92 : decode cX11_rates 92 = .ok (.iload 5, 2) := by decide +kernel
theorem dX11_rates_94 : decode cX11_rates 94 = .ok (.bipush 8, 2) := by decide +kernel
theorem dX11_rates_96 : decode cX11_rates 96 = .ok (.if_icmp .ge 35, 3) := by decide +kernel
theorem dX11_rates_99 : decode cX11_rates 99 = .ok (.aload_n 0, 1) := by decide +kernel
theorem dX11_rates_100 : decode cX11_rates 100 = .ok (.getfield 101, 3) := by decide +kernel
theorem dX11_rates_103 : decode cX11_rates 103 = .ok (.bipush 8, 2) := by decide +kernel
theorem dX11_rates_105 : decode cX11_rates 105 = .ok (.iload_n 1, 1) := by decide +kernel
theorem dX11_rates_106 : decode cX11_rates 106 = .ok (.imul, 1) := by decide +kernel
theorem dX11_rates_107 : decode cX11_rates 107 = .ok (.iload 5, 2) := by decide +kernel
theorem dX11_rates_109 : decode cX11_rates 109 = .ok (.iadd, 1) := by decide +kernel
theorem dX11_rates_110 : decode cX11_rates 110 = .ok (.aload_n 0, 1) := by decide +kernel
theorem dX11_rates_111 : decode cX11_rates 111 = .ok (.getfield 16, 3) := by decide +kernel
theorem dX11_rates_114 : decode cX11_rates 114 = .ok (.bipush 60, 2) := by decide +kernel
theorem dX11_rates_116 : decode cX11_rates 116 = .ok (.iload_n 2, 1) := by decide +kernel
theorem dX11_rates_117 : decode cX11_rates 117 = .ok (.imul, 1) := by decide +kernel
theorem dX11_rates_118 : decode cX11_rates 118 = .ok (.iload_n 3, 1) := by decide +kernel
theorem dX11_rates_119 : decode cX11_rates 119 = .ok (.iadd, 1) := by decide +kernel
theorem dX11_rates_120 : decode cX11_rates 120 = .ok (.iload 5, 2) := by decide +kernel
theorem dX11_rates_122 : decode cX11_rates 122 = .ok (.iadd, 1) := by decide +kernel
theorem dX11_rates_123 : decode cX11_rates 123 = .ok (.iaload, 1) := by decide +kernel
theorem dX11_rates_124 : decode cX11_rates 124 = .ok (.iastore, 1) := by decide +kernel
theorem dX11_rates_125 : decode cX11_rates 125 = .ok (.iinc 5 1, 3) := by decide +kernel
theorem dX11_rates_128 : decode cX11_rates 128 = .ok (.goto (-36), 3) := by decide +kernel
theorem dX11_rates_131 : decode cX11_rates 131 = .ok (.bipush 8, 2) := by decide +kernel
theorem dX11_rates_133 : decode cX11_rates 133 = .ok (.ireturn, 1) := by decide +kernel
theorem dX11_brings_0 : decode cX11_brings 0 = .ok (.aload_n 0, 1) := by decide +kernel
theorem dX11_brings_1 : decode cX11_brings 1 = .ok (.getfield 59, 3) := by decide +kernel
theorem dX11_brings_4 : decode cX11_brings 4 = .ok (.aload_n 0, 1) := by decide +kernel
theorem dX11_brings_5 : decode cX11_brings 5 = .ok (.getfield 107, 3) := by decide +kernel
theorem dX11_brings_8 : decode cX11_brings 8 = .ok (.iload_n 1, 1) := by decide +kernel
theorem dX11_brings_9 : decode cX11_brings 9 = .ok (.iaload, 1) := by decide +kernel
theorem dX11_brings_10 : decode cX11_brings 10 = .ok (.iaload, 1) := by decide +kernel
theorem dX11_brings_11 : decode cX11_brings 11 = .ok (.aload_n 0, 1) := by decide +kernel
theorem dX11_brings_12 : decode cX11_brings 12 = .ok (.getfield 101, 3) := by decide +kernel
theorem dX11_brings_15 : decode cX11_brings 15 = .ok (.bipush 8, 2) := by decide +kernel
theorem dX11_brings_17 : decode cX11_brings 17 = .ok (.iload_n 2, 1) := by decide +kernel
theorem dX11_brings_18 : decode cX11_brings 18 = .ok (.imul, 1) := by decide +kernel
theorem dX11_brings_19 : decode cX11_brings 19 = .ok (.aload_n 0, 1) := by decide +kernel
theorem dX11_brings_20 : decode cX11_brings 20 = .ok (.getfield 56, 3) := by decide +kernel
theorem dX11_brings_23 : decode cX11_brings 23 = .ok (.aload_n 0, 1) := by decide +kernel
theorem dX11_brings_24 : decode cX11_brings 24 = .ok (.getfield 107, 3) := by decide +kernel
theorem dX11_brings_27 : decode cX11_brings 27 = .ok (.iload_n 1, 1) := by decide +kernel
theorem dX11_brings_28 : decode cX11_brings 28 = .ok (.iaload, 1) := by decide +kernel
theorem dX11_brings_29 : decode cX11_brings 29 = .ok (.iaload, 1) := by decide +kernel
theorem dX11_brings_30 : decode cX11_brings 30 = .ok (.iadd, 1) := by decide +kernel
theorem dX11_brings_31 : decode cX11_brings 31 = .ok (.iaload, 1) := by decide +kernel
theorem dX11_brings_32 : decode cX11_brings 32 = .ok (.imul, 1) := by decide +kernel
theorem dX11_brings_33 : decode cX11_brings 33 = .ok (.bipush 100, 2) := by decide +kernel
theorem dX11_brings_35 : decode cX11_brings 35 = .ok (.idiv, 1) := by decide +kernel
theorem dX11_brings_36 : decode cX11_brings 36 = .ok (.ireturn, 1) := by decide +kernel
theorem dX11_goesBy_0 : decode cX11_goesBy 0 = .ok (.iload 4, 2) := by decide +kernel
theorem dX11_goesBy_2 : decode cX11_goesBy 2 = .ok (.iload 5, 2) := by decide +kernel
theorem dX11_goesBy_4 : decode cX11_goesBy 4 = .ok (.if_icmp .ne 7, 3) := by decide +kernel
theorem dX11_goesBy_7 : decode cX11_goesBy 7 = .ok (.iload_n 2, 1) := by decide +kernel
theorem dX11_goesBy_8 : decode cX11_goesBy 8 = .ok (.goto 11, 3) := by decide +kernel
theorem dX11_goesBy_11 : decode cX11_goesBy 11 = .ok (.iload_n 2, 1) := by decide +kernel
theorem dX11_goesBy_12 : decode cX11_goesBy 12 = .ok (.iconst 1, 1) := by decide +kernel
theorem dX11_goesBy_13 : decode cX11_goesBy 13 = .ok (.iload 4, 2) := by decide +kernel
theorem dX11_goesBy_15 : decode cX11_goesBy 15 = .ok (.ishl, 1) := by decide +kernel
theorem dX11_goesBy_16 : decode cX11_goesBy 16 = .ok (.iconst (-1), 1) := by decide +kernel
theorem dX11_goesBy_17 : decode cX11_goesBy 17 = .ok (.ixor, 1) := by decide +kernel
theorem dX11_goesBy_18 : decode cX11_goesBy 18 = .ok (.iand, 1) := by decide +kernel
theorem dX11_goesBy_19 : decode cX11_goesBy 19 = .ok (.istore 7, 2) := by decide +kernel
theorem dX11_goesBy_21 : decode cX11_goesBy 21 = .ok (.iload 4, 2) := by decide +kernel
theorem dX11_goesBy_23 : decode cX11_goesBy 23 = .ok (.iload 5, 2) := by decide +kernel
theorem dX11_goesBy_25 : decode cX11_goesBy 25 = .ok (.if_icmp .ne 7, 3) := by decide +kernel
theorem dX11_goesBy_28 : decode cX11_goesBy 28 = .ok (.iconst 0, 1) := by decide +kernel
theorem dX11_goesBy_29 : decode cX11_goesBy 29 = .ok (.goto 10, 3) := by decide +kernel
theorem dX11_goesBy_32 : decode cX11_goesBy 32 = .ok (.aload_n 0, 1) := by decide +kernel
theorem dX11_goesBy_33 : decode cX11_goesBy 33 = .ok (.iload 4, 2) := by decide +kernel
theorem dX11_goesBy_35 : decode cX11_goesBy 35 = .ok (.iload_n 3, 1) := by decide +kernel
theorem dX11_goesBy_36 : decode cX11_goesBy 36 = .ok (.invokevirtual 303, 3) := by decide +kernel
theorem dX11_goesBy_39 : decode cX11_goesBy 39 = .ok (.aload_n 0, 1) := by decide +kernel
theorem dX11_goesBy_40 : decode cX11_goesBy 40 = .ok (.getfield 104, 3) := by decide +kernel
theorem dX11_goesBy_43 : decode cX11_goesBy 43 = .ok (.sipush 1536, 3) := by decide +kernel
theorem dX11_goesBy_46 : decode cX11_goesBy 46 = .ok (.iload_n 1, 1) := by decide +kernel
theorem dX11_goesBy_47 : decode cX11_goesBy 47 = .ok (.iconst 1, 1) := by decide +kernel
theorem dX11_goesBy_48 : decode cX11_goesBy 48 = .ok (.isub, 1) := by decide +kernel
theorem dX11_goesBy_49 : decode cX11_goesBy 49 = .ok (.imul, 1) := by decide +kernel
theorem dX11_goesBy_50 : decode cX11_goesBy 50 = .ok (.sipush 256, 3) := by decide +kernel
theorem dX11_goesBy_53 : decode cX11_goesBy 53 = .ok (.iload 6, 2) := by decide +kernel
theorem dX11_goesBy_55 : decode cX11_goesBy 55 = .ok (.imul, 1) := by decide +kernel
theorem dX11_goesBy_56 : decode cX11_goesBy 56 = .ok (.iadd, 1) := by decide +kernel
theorem dX11_goesBy_57 : decode cX11_goesBy 57 = .ok (.iload 7, 2) := by decide +kernel
theorem dX11_goesBy_59 : decode cX11_goesBy 59 = .ok (.iadd, 1) := by decide +kernel
theorem dX11_goesBy_60 : decode cX11_goesBy 60 = .ok (.iaload, 1) := by decide +kernel
theorem dX11_goesBy_61 : decode cX11_goesBy 61 = .ok (.iadd, 1) := by decide +kernel
theorem dX11_goesBy_62 : decode cX11_goesBy 62 = .ok (.ireturn, 1) := by decide +kernel
theorem dX11_mayGo_0 : decode cX11_mayGo 0 = .ok (.iload_n 2, 1) := by decide +kernel
theorem dX11_mayGo_1 : decode cX11_mayGo 1 = .ok (.iload_n 3, 1) := by decide +kernel
theorem dX11_mayGo_2 : decode cX11_mayGo 2 = .ok (.if_icmp .eq 22, 3) := by decide +kernel
theorem dX11_mayGo_5 : decode cX11_mayGo 5 = .ok (.iload_n 1, 1) := by decide +kernel
theorem dX11_mayGo_6 : decode cX11_mayGo 6 = .ok (.iconst 1, 1) := by decide +kernel
theorem dX11_mayGo_7 : decode cX11_mayGo 7 = .ok (.if_icmp .le 21, 3) := by decide +kernel
theorem dX11_mayGo_10 : decode cX11_mayGo 10 = .ok (.aload_n 0, 1) := by decide +kernel
theorem dX11_mayGo_11 : decode cX11_mayGo 11 = .ok (.getfield 19, 3) := by decide +kernel
theorem dX11_mayGo_14 : decode cX11_mayGo 14 = .ok (.bipush 6, 2) := by decide +kernel
theorem dX11_mayGo_16 : decode cX11_mayGo 16 = .ok (.iload_n 2, 1) := by decide +kernel
theorem dX11_mayGo_17 : decode cX11_mayGo 17 = .ok (.imul, 1) := by decide +kernel
theorem dX11_mayGo_18 : decode cX11_mayGo 18 = .ok (.iload_n 3, 1) := by decide +kernel
theorem dX11_mayGo_19 : decode cX11_mayGo 19 = .ok (.iadd, 1) := by decide +kernel
theorem dX11_mayGo_20 : decode cX11_mayGo 20 = .ok (.iaload, 1) := by decide +kernel
theorem dX11_mayGo_21 : decode cX11_mayGo 21 = .ok (.ifCond .le 7, 3) := by decide +kernel
theorem dX11_mayGo_24 : decode cX11_mayGo 24 = .ok (.iconst 1, 1) := by decide +kernel
theorem dX11_mayGo_25 : decode cX11_mayGo 25 = .ok (.goto 4, 3) := by decide +kernel
theorem dX11_mayGo_28 : decode cX11_mayGo 28 = .ok (.iconst 0, 1) := by decide +kernel
theorem dX11_mayGo_29 : decode cX11_mayGo 29 = .ok (.ireturn, 1) := by decide +kernel
theorem dX11_way_0 : decode cX11_way 0 = .ok (.aload_n 0, 1) := by decide +kernel
theorem dX11_way_1 : decode cX11_way 1 = .ok (.iconst 0, 1) := by decide +kernel
theorem dX11_way_2 : decode cX11_way 2 = .ok (.putfield 113, 3) := by decide +kernel
theorem dX11_way_5 : decode cX11_way 5 = .ok (.iload_n 1, 1) := by decide +kernel
theorem dX11_way_6 : decode cX11_way 6 = .ok (.invokestatic 140, 3) := by decide +kernel
theorem dX11_way_9 : decode cX11_way 9 = .ok (.ifCond .eq 47, 3) := by decide +kernel
theorem dX11_way_12 : decode cX11_way 12 = .ok (.iload_n 2, 1) := by decide +kernel
theorem dX11_way_13 : decode cX11_way 13 = .ok (.invokestatic 127, 3) := by decide +kernel
theorem dX11_way_16 : decode cX11_way 16 = .ok (.ifCond .eq 40, 3) := by decide +kernel
theorem dX11_way_19 : decode cX11_way 19 = .ok (.iload 4, 2) := by decide +kernel
theorem dX11_way_21 : decode cX11_way 21 = .ok (.i2l, 1) := by decide +kernel
theorem dX11_way_22 : decode cX11_way 22 = .ok (.lconst 1, 1) := by decide +kernel
theorem dX11_way_23 : decode cX11_way 23 = .ok (.ldc2_w 170, 3) := by decide +kernel
theorem dX11_way_26 : decode cX11_way 26 = .ok (.invokestatic 123, 3) := by decide +kernel
theorem dX11_way_29 : decode cX11_way 29 = .ok (.ifCond .eq 27, 3) := by decide +kernel
theorem dX11_way_32 : decode cX11_way 32 = .ok (.iload 5, 2) := by decide +kernel
theorem dX11_way_34 : decode cX11_way 34 = .ok (.i2l, 1) := by decide +kernel
theorem dX11_way_35 : decode cX11_way 35 = .ok (.lconst 1, 1) := by decide +kernel
theorem dX11_way_36 : decode cX11_way 36 = .ok (.ldc2_w 280, 3) := by decide +kernel
theorem dX11_way_39 : decode cX11_way 39 = .ok (.invokestatic 123, 3) := by decide +kernel
theorem dX11_way_42 : decode cX11_way 42 = .ok (.ifCond .eq 14, 3) := by decide +kernel
theorem dX11_way_45 : decode cX11_way 45 = .ok (.iload 6, 2) := by decide +kernel
theorem dX11_way_47 : decode cX11_way 47 = .ok (.i2l, 1) := by decide +kernel
theorem dX11_way_48 : decode cX11_way 48 = .ok (.lconst 0, 1) := by decide +kernel
theorem dX11_way_49 : decode cX11_way 49 = .ok (.lconst 1, 1) := by decide +kernel
theorem dX11_way_50 : decode cX11_way 50 = .ok (.invokestatic 123, 3) := by decide +kernel
theorem dX11_way_53 : decode cX11_way 53 = .ok (.ifCond .ne 6, 3) := by decide +kernel
theorem dX11_way_56 : decode cX11_way 56 = .ok (.ldc 133, 2) := by decide +kernel
theorem dX11_way_58 : decode cX11_way 58 = .ok (.ireturn, 1) := by decide +kernel
theorem dX11_way_59 : decode cX11_way 59 = .ok (.aload_n 0, 1) := by decide +kernel
theorem dX11_way_60 : decode cX11_way 60 = .ok (.iload_n 2, 1) := by decide +kernel
theorem dX11_way_61 : decode cX11_way 61 = .ok (.iload_n 3, 1) := by decide +kernel
theorem dX11_way_62 : decode cX11_way 62 = .ok (.iload 4, 2) := by decide +kernel
theorem dX11_way_64 : decode cX11_way 64 = .ok (.invokevirtual 300, 3) := by decide +kernel
theorem dX11_way_67 : decode cX11_way 67 = .ok (.istore 7, 2) := by decide +kernel
theorem dX11_way_69 : decode cX11_way 69 = .ok (.iload 7, 2) := by decide +kernel
theorem dX11_way_71 : decode cX11_way 71 = .ok (.ifCond .ge 6, 3) := by decide +kernel
theorem dX11_way_74 : decode cX11_way 74 = .ok (.iload 7, 2) := by decide +kernel
theorem dX11_way_76 : decode cX11_way 76 = .ok (.ireturn, 1) := by decide +kernel
theorem dX11_way_77 : decode cX11_way 77 = .ok (.iconst 0, 1) := by decide +kernel
theorem dX11_way_78 : decode cX11_way 78 = .ok (.istore 8, 2) := by decide +kernel
theorem dX11_way_80 : decode cX11_way 80 = .ok (.iload 8, 2) := by decide +kernel
theorem dX11_way_82 : decode cX11_way 82 = .ok (.iload 4, 2) := by decide +kernel
theorem dX11_way_84 : decode cX11_way 84 = .ok (.if_icmp .ge 96, 3) := by decide +kernel
theorem dX11_way_87 : decode cX11_way 87 = .ok (.aload_n 0, 1) := by decide +kernel
theorem dX11_way_88 : decode cX11_way 88 = .ok (.getfield 107, 3) := by decide +kernel
theorem dX11_way_91 : decode cX11_way 91 = .ok (.iload 8, 2) := by decide +kernel
theorem dX11_way_93 : decode cX11_way 93 = .ok (.aload_n 0, 1) := by decide +kernel
theorem dX11_way_94 : decode cX11_way 94 = .ok (.getfield 16, 3) := by decide +kernel
theorem dX11_way_97 : decode cX11_way 97 = .ok (.bipush 60, 2) := by decide +kernel
theorem dX11_way_99 : decode cX11_way 99 = .ok (.iload_n 2, 1) := by decide +kernel
theorem dX11_way_100 : decode cX11_way 100 = .ok (.imul, 1) := by decide +kernel
theorem dX11_way_101 : decode cX11_way 101 = .ok (.iload_n 3, 1) := by decide +kernel
theorem dX11_way_102 : decode cX11_way 102 = .ok (.iadd, 1) := by decide +kernel
theorem dX11_way_103 : decode cX11_way 103 = .ok (.iload 8, 2) := by decide +kernel
theorem dX11_way_105 : decode cX11_way 105 = .ok (.iadd, 1) := by decide +kernel
theorem dX11_way_106 : decode cX11_way 106 = .ok (.iaload, 1) := by decide +kernel
theorem dX11_way_107 : decode cX11_way 107 = .ok (.iastore, 1) := by decide +kernel
theorem dX11_way_108 : decode cX11_way 108 = .ok (.aload_n 0, 1) := by decide +kernel
theorem dX11_way_109 : decode cX11_way 109 = .ok (.aload_n 0, 1) := by decide +kernel
theorem dX11_way_110 : decode cX11_way 110 = .ok (.getfield 107, 3) := by decide +kernel
theorem dX11_way_113 : decode cX11_way 113 = .ok (.iload 8, 2) := by decide +kernel
theorem dX11_way_115 : decode cX11_way 115 = .ok (.iaload, 1) := by decide +kernel
theorem dX11_way_116 : decode cX11_way 116 = .ok (.invokevirtual 277, 3) := by decide +kernel
theorem dX11_way_119 : decode cX11_way 119 = .ok (.istore 9, 2) := by decide +kernel
theorem dX11_way_121 : decode cX11_way 121 = .ok (.iconst 0, 1) := by decide +kernel
theorem dX11_way_122 : decode cX11_way 122 = .ok (.istore 10, 2) := by decide +kernel
theorem dX11_way_124 : decode cX11_way 124 = .ok (.iload 10, 2) := by decide +kernel
theorem dX11_way_126 : decode cX11_way 126 = .ok (.iload 8, 2) := by decide +kernel
theorem dX11_way_128 : decode cX11_way 128 = .ok (.if_icmp .ge 38, 3) := by decide +kernel
theorem dX11_way_131 : decode cX11_way 131 = .ok (.iload 9, 2) := by decide +kernel
theorem dX11_way_133 : decode cX11_way 133 = .ok (.ifCond .eq 24, 3) := by decide +kernel
theorem dX11_way_136 : decode cX11_way 136 = .ok (.aload_n 0, 1) := by decide +kernel
theorem dX11_way_137 : decode cX11_way 137 = .ok (.getfield 107, 3) := by decide +kernel
theorem dX11_way_140 : decode cX11_way 140 = .ok (.iload 10, 2) := by decide +kernel
theorem dX11_way_142 : decode cX11_way 142 = .ok (.iaload, 1) := by decide +kernel
theorem dX11_way_143 : decode cX11_way 143 = .ok (.aload_n 0, 1) := by decide +kernel
theorem dX11_way_144 : decode cX11_way 144 = .ok (.getfield 107, 3) := by decide +kernel
theorem dX11_way_147 : decode cX11_way 147 = .ok (.iload 8, 2) := by decide +kernel
theorem dX11_way_149 : decode cX11_way 149 = .ok (.iaload, 1) := by decide +kernel
theorem dX11_way_150 : decode cX11_way 150 = .ok (.if_icmp .eq 7, 3) := by decide +kernel
theorem dX11_way_153 : decode cX11_way 153 = .ok (.iconst 1, 1) := by decide +kernel
theorem dX11_way_154 : decode cX11_way 154 = .ok (.goto 4, 3) := by decide +kernel
theorem dX11_way_157 : decode cX11_way 157 = .ok (.iconst 0, 1) := by decide +kernel
theorem dX11_way_158 : decode cX11_way 158 = .ok (.istore 9, 2) := by decide +kernel
theorem dX11_way_160 : decode cX11_way 160 = .ok (.iinc 10 1, 3) := by decide +kernel
theorem dX11_way_163 : decode cX11_way 163 = .ok (.goto (-39), 3) := by decide +kernel
theorem dX11_way_166 : decode cX11_way 166 = .ok (.iload 9, 2) := by decide +kernel
theorem dX11_way_168 : decode cX11_way 168 = .ok (.ifCond .ne 6, 3) := by decide +kernel
theorem dX11_way_171 : decode cX11_way 171 = .ok (.ldc 133, 2) := by decide +kernel
theorem dX11_way_173 : decode cX11_way 173 = .ok (.ireturn, 1) := by decide +kernel
theorem dX11_way_174 : decode cX11_way 174 = .ok (.iinc 8 1, 3) := by decide +kernel
theorem dX11_way_177 : decode cX11_way 177 = .ok (.goto (-97), 3) := by decide +kernel
theorem dX11_way_180 : decode cX11_way 180 = .ok (.aload_n 0, 1) := by decide +kernel
theorem dX11_way_181 : decode cX11_way 181 = .ok (.iconst 0, 1) := by decide +kernel
theorem dX11_way_182 : decode cX11_way 182 = .ok (.putfield 117, 3) := by decide +kernel
theorem dX11_way_185 : decode cX11_way 185 = .ok (.iconst 0, 1) := by decide +kernel
theorem dX11_way_186 : decode cX11_way 186 = .ok (.istore 8, 2) := by decide +kernel
theorem dX11_way_188 : decode cX11_way 188 = .ok (.iload 8, 2) := by decide +kernel
theorem dX11_way_190 : decode cX11_way 190 = .ok (.sipush 1536, 3) := by decide +kernel
theorem dX11_way_193 : decode cX11_way 193 = .ok (.if_icmp .ge 17, 3) := by decide +kernel
theorem dX11_way_196 : decode cX11_way 196 = .ok (.aload_n 0, 1) := by decide +kernel
theorem dX11_way_197 : decode cX11_way 197 = .ok (.getfield 104, 3) := by decide +kernel
theorem dX11_way_200 : decode cX11_way 200 = .ok (.iload 8, 2) := by decide +kernel
theorem dX11_way_202 : decode cX11_way 202 = .ok (.iconst 0, 1) := by decide +kernel
theorem dX11_way_203 : decode cX11_way 203 = .ok (.iastore, 1) := by decide +kernel
theorem dX11_way_204 : decode cX11_way 204 = .ok (.iinc 8 1, 3) := by decide +kernel
theorem dX11_way_207 : decode cX11_way 207 = .ok (.goto (-19), 3) := by decide +kernel
theorem dX11_way_210 : decode cX11_way 210 = .ok (.iconst 1, 1) := by decide +kernel
theorem dX11_way_211 : decode cX11_way 211 = .ok (.istore 8, 2) := by decide +kernel
theorem dX11_way_213 : decode cX11_way 213 = .ok (.iload 8, 2) := by decide +kernel
theorem dX11_way_215 : decode cX11_way 215 = .ok (.iload 5, 2) := by decide +kernel
theorem dX11_way_217 : decode cX11_way 217 = .ok (.if_icmp .gt 170, 3) := by decide +kernel
theorem dX11_way_220 : decode cX11_way 220 = .ok (.iconst 0, 1) := by decide +kernel
theorem dX11_way_221 : decode cX11_way 221 = .ok (.istore 9, 2) := by decide +kernel
theorem dX11_way_223 : decode cX11_way 223 = .ok (.iload 9, 2) := by decide +kernel
theorem dX11_way_225 : decode cX11_way 225 = .ok (.bipush 6, 2) := by decide +kernel
theorem dX11_way_227 : decode cX11_way 227 = .ok (.if_icmp .ge 154, 3) := by decide +kernel
theorem dX11_way_230 : decode cX11_way 230 = .ok (.iconst 0, 1) := by decide +kernel
theorem dX11_way_231 : decode cX11_way 231 = .ok (.istore 10, 2) := by decide +kernel
theorem dX11_way_233 : decode cX11_way 233 = .ok (.iload 10, 2) := by decide +kernel
theorem dX11_way_235 : decode cX11_way 235 = .ok (.iconst 1, 1) := by decide +kernel
theorem dX11_way_236 : decode cX11_way 236 = .ok (.iload 4, 2) := by decide +kernel
theorem dX11_way_238 : decode cX11_way 238 = .ok (.ishl, 1) := by decide +kernel
theorem dX11_way_239 : decode cX11_way 239 = .ok (.if_icmp .ge 136, 3) := by decide +kernel
theorem dX11_way_242 : decode cX11_way 242 = .ok (.iconst 0, 1) := by decide +kernel
theorem dX11_way_243 : decode cX11_way 243 = .ok (.istore 11, 2) := by decide +kernel
theorem dX11_way_245 : decode cX11_way 245 = .ok (.iconst 0, 1) := by decide +kernel
theorem dX11_way_246 : decode cX11_way 246 = .ok (.istore 12, 2) := by decide +kernel
theorem dX11_way_248 : decode cX11_way 248 = .ok (.iload 12, 2) := by decide +kernel
theorem dX11_way_250 : decode cX11_way 250 = .ok (.iload 4, 2) := by decide +kernel
theorem dX11_way_252 : decode cX11_way 252 = .ok (.if_icmp .gt 94, 3) := by decide +kernel
theorem dX11_way_255 : decode cX11_way 255 = .ok (.iconst 0, 1) := by decide +kernel
theorem dX11_way_256 : decode cX11_way 256 = .ok (.istore 13, 2) := by decide +kernel
theorem dX11_way_258 : decode cX11_way 258 = .ok (.iload 13, 2) := by decide +kernel
theorem dX11_way_260 : decode cX11_way 260 = .ok (.bipush 6, 2) := by decide +kernel
theorem dX11_way_262 : decode cX11_way 262 = .ok (.if_icmp .ge 78, 3) := by decide +kernel
theorem dX11_way_265 : decode cX11_way 265 = .ok (.iload 12, 2) := by decide +kernel
theorem dX11_way_267 : decode cX11_way 267 = .ok (.iload 4, 2) := by decide +kernel
theorem dX11_way_269 : decode cX11_way 269 = .ok (.if_icmp .eq 14, 3) := by decide +kernel
theorem dX11_way_272 : decode cX11_way 272 = .ok (.iload 10, 2) := by decide +kernel
theorem dX11_way_274 : decode cX11_way 274 = .ok (.iload 12, 2) := by decide +kernel
theorem dX11_way_276 : decode cX11_way 276 = .ok (.ishr, 1) := by decide +kernel
theorem dX11_way_277 : decode cX11_way 277 = .ok (.iconst 1, 1) := by decide +kernel
theorem dX11_way_278 : decode cX11_way 278 = .ok (.iand, 1) := by decide +kernel
theorem dX11_way_279 : decode cX11_way 279 = .ok (.iconst 1, 1) := by decide +kernel
theorem dX11_way_280 : decode cX11_way 280 = .ok (.if_icmp .ne 60, 3) := by decide +kernel
theorem dX11_way_283 : decode cX11_way 283 = .ok (.aload_n 0, 1) := by decide +kernel
theorem dX11_way_284 : decode cX11_way 284 = .ok (.iload 8, 2) := by decide +kernel
theorem dX11_way_286 : decode cX11_way 286 = .ok (.iload 9, 2) := by decide +kernel
theorem dX11_way_288 : decode cX11_way 288 = .ok (.iload 13, 2) := by decide +kernel
theorem dX11_way_290 : decode cX11_way 290 = .ok (.invokevirtual 306, 3) := by decide +kernel
theorem dX11_way_293 : decode cX11_way 293 = .ok (.ifCond .eq 22, 3) := by decide +kernel
theorem dX11_way_296 : decode cX11_way 296 = .ok (.aload_n 0, 1) := by decide +kernel
theorem dX11_way_297 : decode cX11_way 297 = .ok (.iload 8, 2) := by decide +kernel
theorem dX11_way_299 : decode cX11_way 299 = .ok (.iload 10, 2) := by decide +kernel
theorem dX11_way_301 : decode cX11_way 301 = .ok (.iload 9, 2) := by decide +kernel
theorem dX11_way_303 : decode cX11_way 303 = .ok (.iload 12, 2) := by decide +kernel
theorem dX11_way_305 : decode cX11_way 305 = .ok (.iload 4, 2) := by decide +kernel
theorem dX11_way_307 : decode cX11_way 307 = .ok (.iload 13, 2) := by decide +kernel
theorem dX11_way_309 : decode cX11_way 309 = .ok (.invokevirtual 310, 3) := by decide +kernel
theorem dX11_way_312 : decode cX11_way 312 = .ok (.goto 4, 3) := by decide +kernel
theorem dX11_way_315 : decode cX11_way 315 = .ok (.iconst 0, 1) := by decide +kernel
theorem dX11_way_316 : decode cX11_way 316 = .ok (.istore 14, 2) := by decide +kernel
theorem dX11_way_318 : decode cX11_way 318 = .ok (.iload 14, 2) := by decide +kernel
theorem dX11_way_320 : decode cX11_way 320 = .ok (.iload 11, 2) := by decide +kernel
theorem dX11_way_322 : decode cX11_way 322 = .ok (.if_icmp .le 8, 3) := by decide +kernel
theorem dX11_way_325 : decode cX11_way 325 = .ok (.iload 14, 2) := by decide +kernel
theorem dX11_way_327 : decode cX11_way 327 = .ok (.goto 5, 3) := by decide +kernel
theorem dX11_way_330 : decode cX11_way 330 = .ok (.iload 11, 2) := by decide +kernel
theorem dX11_way_332 : decode cX11_way 332 = .ok (.istore 11, 2) := by decide +kernel
theorem dX11_way_334 : decode cX11_way 334 = .ok (.iinc 13 1, 3) := by decide +kernel
theorem dX11_way_337 : decode cX11_way 337 = .ok (.goto (-79), 3) := by decide +kernel
theorem dX11_way_340 : decode cX11_way 340 = .ok (.iinc 12 1, 3) := by decide +kernel
theorem dX11_way_343 : decode cX11_way 343 = .ok (.goto (-95), 3) := by decide +kernel
theorem dX11_way_346 : decode cX11_way 346 = .ok (.aload_n 0, 1) := by decide +kernel
theorem dX11_way_347 : decode cX11_way 347 = .ok (.getfield 104, 3) := by decide +kernel
theorem dX11_way_350 : decode cX11_way 350 = .ok (.sipush 1536, 3) := by decide +kernel
theorem dX11_way_353 : decode cX11_way 353 = .ok (.iload 8, 2) := by decide +kernel
theorem dX11_way_355 : decode cX11_way 355 = .ok (.imul, 1) := by decide +kernel
theorem dX11_way_356 : decode cX11_way 356 = .ok (.sipush 256, 3) := by decide +kernel
theorem dX11_way_359 : decode cX11_way 359 = .ok (.iload 9, 2) := by decide +kernel
theorem dX11_way_361 : decode cX11_way 361 = .ok (.imul, 1) := by decide +kernel
theorem dX11_way_362 : decode cX11_way 362 = .ok (.iadd, 1) := by decide +kernel
theorem dX11_way_363 : decode cX11_way 363 = .ok (.iload 10, 2) := by decide +kernel
theorem dX11_way_365 : decode cX11_way 365 = .ok (.iadd, 1) := by decide +kernel
theorem dX11_way_366 : decode cX11_way 366 = .ok (.iload 11, 2) := by decide +kernel
theorem dX11_way_368 : decode cX11_way 368 = .ok (.iastore, 1) := by decide +kernel
theorem dX11_way_369 : decode cX11_way 369 = .ok (.iinc 10 1, 3) := by decide +kernel
theorem dX11_way_372 : decode cX11_way 372 = .ok (.goto (-139), 3) := by decide +kernel
theorem dX11_way_375 : decode cX11_way 375 = .ok (.iinc 9 1, 3) := by decide +kernel
theorem dX11_way_378 : decode cX11_way 378 = .ok (.goto (-155), 3) := by decide +kernel
theorem dX11_way_381 : decode cX11_way 381 = .ok (.iinc 8 1, 3) := by decide +kernel
theorem dX11_way_384 : decode cX11_way 384 = .ok (.goto (-171), 3) := by decide +kernel
theorem dX11_way_387 : decode cX11_way 387 = .ok (.iconst 1, 1) := by decide +kernel
theorem dX11_way_388 : decode cX11_way 388 = .ok (.iload 4, 2) := by decide +kernel
theorem dX11_way_390 : decode cX11_way 390 = .ok (.ishl, 1) := by decide +kernel
theorem dX11_way_391 : decode cX11_way 391 = .ok (.iconst 1, 1) := by decide +kernel
theorem dX11_way_392 : decode cX11_way 392 = .ok (.isub, 1) := by decide +kernel
theorem dX11_way_393 : decode cX11_way 393 = .ok (.istore 8, 2) := by decide +kernel
theorem dX11_way_395 : decode cX11_way 395 = .ok (.aload_n 0, 1) := by decide +kernel
theorem dX11_way_396 : decode cX11_way 396 = .ok (.getfield 104, 3) := by decide +kernel
theorem dX11_way_399 : decode cX11_way 399 = .ok (.sipush 1536, 3) := by decide +kernel
theorem dX11_way_402 : decode cX11_way 402 = .ok (.iload 5, 2) := by decide +kernel
theorem dX11_way_404 : decode cX11_way 404 = .ok (.imul, 1) := by decide +kernel
theorem dX11_way_405 : decode cX11_way 405 = .ok (.sipush 256, 3) := by decide +kernel
theorem dX11_way_408 : decode cX11_way 408 = .ok (.iload_n 1, 1) := by decide +kernel
theorem dX11_way_409 : decode cX11_way 409 = .ok (.imul, 1) := by decide +kernel
theorem dX11_way_410 : decode cX11_way 410 = .ok (.iadd, 1) := by decide +kernel
theorem dX11_way_411 : decode cX11_way 411 = .ok (.iload 8, 2) := by decide +kernel
theorem dX11_way_413 : decode cX11_way 413 = .ok (.iadd, 1) := by decide +kernel
theorem dX11_way_414 : decode cX11_way 414 = .ok (.iaload, 1) := by decide +kernel
theorem dX11_way_415 : decode cX11_way 415 = .ok (.istore 9, 2) := by decide +kernel
theorem dX11_way_417 : decode cX11_way 417 = .ok (.iload 6, 2) := by decide +kernel
theorem dX11_way_419 : decode cX11_way 419 = .ok (.ifCond .ne 6, 3) := by decide +kernel
theorem dX11_way_422 : decode cX11_way 422 = .ok (.iload 9, 2) := by decide +kernel
theorem dX11_way_424 : decode cX11_way 424 = .ok (.ireturn, 1) := by decide +kernel
theorem dX11_way_425 : decode cX11_way 425 = .ok (.iconst 0, 1) := by decide +kernel
theorem dX11_way_426 : decode cX11_way 426 = .ok (.istore 10, 2) := by decide +kernel
theorem dX11_way_428 : decode cX11_way 428 = .ok (.iload 10, 2) := by decide +kernel
theorem dX11_way_430 : decode cX11_way 430 = .ok (.bipush 6, 2) := by decide +kernel
theorem dX11_way_432 : decode cX11_way 432 = .ok (.if_icmp .ge 78, 3) := by decide +kernel
theorem dX11_way_435 : decode cX11_way 435 = .ok (.iconst 0, 1) := by decide +kernel
theorem dX11_way_436 : decode cX11_way 436 = .ok (.istore 11, 2) := by decide +kernel
theorem dX11_way_438 : decode cX11_way 438 = .ok (.iload 11, 2) := by decide +kernel
theorem dX11_way_440 : decode cX11_way 440 = .ok (.iload 4, 2) := by decide +kernel
theorem dX11_way_442 : decode cX11_way 442 = .ok (.if_icmp .gt 62, 3) := by decide +kernel
theorem dX11_way_445 : decode cX11_way 445 = .ok (.aload_n 0, 1) := by decide +kernel
theorem dX11_way_446 : decode cX11_way 446 = .ok (.iload 5, 2) := by decide +kernel
theorem dX11_way_448 : decode cX11_way 448 = .ok (.iload_n 1, 1) := by decide +kernel
theorem dX11_way_449 : decode cX11_way 449 = .ok (.iload 10, 2) := by decide +kernel
theorem dX11_way_451 : decode cX11_way 451 = .ok (.invokevirtual 306, 3) := by decide +kernel
theorem dX11_way_454 : decode cX11_way 454 = .ok (.ifCond .eq 44, 3) := by decide +kernel
theorem dX11_way_457 : decode cX11_way 457 = .ok (.aload_n 0, 1) := by decide +kernel
theorem dX11_way_458 : decode cX11_way 458 = .ok (.iload 5, 2) := by decide +kernel
theorem dX11_way_460 : decode cX11_way 460 = .ok (.iload 8, 2) := by decide +kernel
theorem dX11_way_462 : decode cX11_way 462 = .ok (.iload_n 1, 1) := by decide +kernel
theorem dX11_way_463 : decode cX11_way 463 = .ok (.iload 11, 2) := by decide +kernel
theorem dX11_way_465 : decode cX11_way 465 = .ok (.iload 4, 2) := by decide +kernel
theorem dX11_way_467 : decode cX11_way 467 = .ok (.iload 10, 2) := by decide +kernel
theorem dX11_way_469 : decode cX11_way 469 = .ok (.invokevirtual 310, 3) := by decide +kernel
theorem dX11_way_472 : decode cX11_way 472 = .ok (.iload 9, 2) := by decide +kernel
theorem dX11_way_474 : decode cX11_way 474 = .ok (.if_icmp .ne 24, 3) := by decide +kernel
theorem dX11_way_477 : decode cX11_way 477 = .ok (.bipush 16, 2) := by decide +kernel
theorem dX11_way_479 : decode cX11_way 479 = .ok (.iload 10, 2) := by decide +kernel
theorem dX11_way_481 : decode cX11_way 481 = .ok (.imul, 1) := by decide +kernel
theorem dX11_way_482 : decode cX11_way 482 = .ok (.iload 11, 2) := by decide +kernel
theorem dX11_way_484 : decode cX11_way 484 = .ok (.iload 4, 2) := by decide +kernel
theorem dX11_way_486 : decode cX11_way 486 = .ok (.if_icmp .ne 8, 3) := by decide +kernel
theorem dX11_way_489 : decode cX11_way 489 = .ok (.bipush 15, 2) := by decide +kernel
theorem dX11_way_491 : decode cX11_way 491 = .ok (.goto 5, 3) := by decide +kernel
theorem dX11_way_494 : decode cX11_way 494 = .ok (.iload 11, 2) := by decide +kernel
theorem dX11_way_496 : decode cX11_way 496 = .ok (.iadd, 1) := by decide +kernel
theorem dX11_way_497 : decode cX11_way 497 = .ok (.ireturn, 1) := by decide +kernel
theorem dX11_way_498 : decode cX11_way 498 = .ok (.iinc 11 1, 3) := by decide +kernel
theorem dX11_way_501 : decode cX11_way 501 = .ok (.goto (-63), 3) := by decide +kernel
theorem dX11_way_504 : decode cX11_way 504 = .ok (.iinc 10 1, 3) := by decide +kernel
theorem dX11_way_507 : decode cX11_way 507 = .ok (.goto (-79), 3) := by decide +kernel
theorem dX11_way_510 : decode cX11_way 510 = .ok (.ldc 145, 2) := by decide +kernel
theorem dX11_way_512 : decode cX11_way 512 = .ok (.ireturn, 1) := by decide +kernel
theorem dX11_kindOf_0 : decode cX11_kindOf 0 = .ok (.aload_n 0, 1) := by decide +kernel
theorem dX11_kindOf_1 : decode cX11_kindOf 1 = .ok (.getfield 74, 3) := by decide +kernel
theorem dX11_kindOf_4 : decode cX11_kindOf 4 = .ok (.iload_n 1, 1) := by decide +kernel
theorem dX11_kindOf_5 : decode cX11_kindOf 5 = .ok (.baload, 1) := by decide +kernel
theorem dX11_kindOf_6 : decode cX11_kindOf 6 = .ok (.ifCond .eq 7, 3) := by decide +kernel
theorem dX11_kindOf_9 : decode cX11_kindOf 9 = .ok (.iconst 5, 1) := by decide +kernel
theorem dX11_kindOf_10 : decode cX11_kindOf 10 = .ok (.goto 54, 3) := by decide +kernel
theorem dX11_kindOf_13 : decode cX11_kindOf 13 = .ok (.aload_n 0, 1) := by decide +kernel
theorem dX11_kindOf_14 : decode cX11_kindOf 14 = .ok (.getfield 80, 3) := by decide +kernel
theorem dX11_kindOf_17 : decode cX11_kindOf 17 = .ok (.iload_n 1, 1) := by decide +kernel
theorem dX11_kindOf_18 : decode cX11_kindOf 18 = .ok (.baload, 1) := by decide +kernel
theorem dX11_kindOf_19 : decode cX11_kindOf 19 = .ok (.ifCond .eq 7, 3) := by decide +kernel
theorem dX11_kindOf_22 : decode cX11_kindOf 22 = .ok (.iconst 4, 1) := by decide +kernel
theorem dX11_kindOf_23 : decode cX11_kindOf 23 = .ok (.goto 41, 3) := by decide +kernel
theorem dX11_kindOf_26 : decode cX11_kindOf 26 = .ok (.aload_n 0, 1) := by decide +kernel
theorem dX11_kindOf_27 : decode cX11_kindOf 27 = .ok (.iload_n 1, 1) := by decide +kernel
theorem dX11_kindOf_28 : decode cX11_kindOf 28 = .ok (.invokevirtual 282, 3) := by decide +kernel
theorem dX11_kindOf_31 : decode cX11_kindOf 31 = .ok (.ifCond .eq 7, 3) := by decide +kernel
theorem dX11_kindOf_34 : decode cX11_kindOf 34 = .ok (.iconst 3, 1) := by decide +kernel
theorem dX11_kindOf_35 : decode cX11_kindOf 35 = .ok (.goto 29, 3) := by decide +kernel
theorem dX11_kindOf_38 : decode cX11_kindOf 38 = .ok (.aload_n 0, 1) := by decide +kernel
theorem dX11_kindOf_39 : decode cX11_kindOf 39 = .ok (.iload_n 1, 1) := by decide +kernel
theorem dX11_kindOf_40 : decode cX11_kindOf 40 = .ok (.invokevirtual 285, 3) := by decide +kernel
theorem dX11_kindOf_43 : decode cX11_kindOf 43 = .ok (.ifCond .eq 7, 3) := by decide +kernel
theorem dX11_kindOf_46 : decode cX11_kindOf 46 = .ok (.iconst 2, 1) := by decide +kernel
theorem dX11_kindOf_47 : decode cX11_kindOf 47 = .ok (.goto 17, 3) := by decide +kernel
theorem dX11_kindOf_50 : decode cX11_kindOf 50 = .ok (.aload_n 0, 1) := by decide +kernel
theorem dX11_kindOf_51 : decode cX11_kindOf 51 = .ok (.getfield 65, 3) := by decide +kernel
theorem dX11_kindOf_54 : decode cX11_kindOf 54 = .ok (.iload_n 1, 1) := by decide +kernel
theorem dX11_kindOf_55 : decode cX11_kindOf 55 = .ok (.iaload, 1) := by decide +kernel
theorem dX11_kindOf_56 : decode cX11_kindOf 56 = .ok (.ifCond .le 7, 3) := by decide +kernel
theorem dX11_kindOf_59 : decode cX11_kindOf 59 = .ok (.iconst 1, 1) := by decide +kernel
theorem dX11_kindOf_60 : decode cX11_kindOf 60 = .ok (.goto 4, 3) := by decide +kernel
theorem dX11_kindOf_63 : decode cX11_kindOf 63 = .ok (.iconst 0, 1) := by decide +kernel
theorem dX11_kindOf_64 : decode cX11_kindOf 64 = .ok (.ireturn, 1) := by decide +kernel
theorem dX11_isOf_0 : decode cX11_isOf 0 = .ok (.iload_n 1, 1) := by decide +kernel
theorem dX11_isOf_1 : decode cX11_isOf 1 = .ok (.ifCond .eq 18, 3) := by decide +kernel
theorem dX11_isOf_4 : decode cX11_isOf 4 = .ok (.iload_n 0, 1) := by decide +kernel
theorem dX11_isOf_5 : decode cX11_isOf 5 = .ok (.iload_n 1, 1) := by decide +kernel
theorem dX11_isOf_6 : decode cX11_isOf 6 = .ok (.if_icmp .eq 13, 3) := by decide +kernel
theorem dX11_isOf_9 : decode cX11_isOf 9 = .ok (.iload_n 1, 1) := by decide +kernel
theorem dX11_isOf_10 : decode cX11_isOf 10 = .ok (.iconst 2, 1) := by decide +kernel
theorem dX11_isOf_11 : decode cX11_isOf 11 = .ok (.if_icmp .ne 12, 3) := by decide +kernel
theorem dX11_isOf_14 : decode cX11_isOf 14 = .ok (.iload_n 0, 1) := by decide +kernel
theorem dX11_isOf_15 : decode cX11_isOf 15 = .ok (.iconst 3, 1) := by decide +kernel
theorem dX11_isOf_16 : decode cX11_isOf 16 = .ok (.if_icmp .ne 7, 3) := by decide +kernel
theorem dX11_isOf_19 : decode cX11_isOf 19 = .ok (.iconst 1, 1) := by decide +kernel
theorem dX11_isOf_20 : decode cX11_isOf 20 = .ok (.goto 4, 3) := by decide +kernel
theorem dX11_isOf_23 : decode cX11_isOf 23 = .ok (.iconst 0, 1) := by decide +kernel
theorem dX11_isOf_24 : decode cX11_isOf 24 = .ok (.ireturn, 1) := by decide +kernel
theorem dX11_kind_0 : decode cX11_kind 0 = .ok (.aload_n 0, 1) := by decide +kernel
theorem dX11_kind_1 : decode cX11_kind 1 = .ok (.iconst 0, 1) := by decide +kernel
theorem dX11_kind_2 : decode cX11_kind 2 = .ok (.putfield 113, 3) := by decide +kernel
theorem dX11_kind_5 : decode cX11_kind 5 = .ok (.aload_n 0, 1) := by decide +kernel
theorem dX11_kind_6 : decode cX11_kind 6 = .ok (.iload_n 1, 1) := by decide +kernel
theorem dX11_kind_7 : decode cX11_kind 7 = .ok (.invokevirtual 277, 3) := by decide +kernel
theorem dX11_kind_10 : decode cX11_kind 10 = .ok (.ifCond .eq 11, 3) := by decide +kernel
theorem dX11_kind_13 : decode cX11_kind 13 = .ok (.aload_n 0, 1) := by decide +kernel
theorem dX11_kind_14 : decode cX11_kind 14 = .ok (.iload_n 1, 1) := by decide +kernel
theorem dX11_kind_15 : decode cX11_kind 15 = .ok (.invokevirtual 314, 3) := by decide +kernel
theorem dX11_kind_18 : decode cX11_kind 18 = .ok (.goto 5, 3) := by decide +kernel
theorem dX11_kind_21 : decode cX11_kind 21 = .ok (.ldc 133, 2) := by decide +kernel
theorem dX11_kind_23 : decode cX11_kind 23 = .ok (.ireturn, 1) := by decide +kernel
theorem dX11_as_0 : decode cX11_as 0 = .ok (.aload_n 0, 1) := by decide +kernel
theorem dX11_as_1 : decode cX11_as 1 = .ok (.iconst 0, 1) := by decide +kernel
theorem dX11_as_2 : decode cX11_as 2 = .ok (.putfield 113, 3) := by decide +kernel
theorem dX11_as_5 : decode cX11_as 5 = .ok (.aload_n 0, 1) := by decide +kernel
theorem dX11_as_6 : decode cX11_as 6 = .ok (.iload_n 1, 1) := by decide +kernel
theorem dX11_as_7 : decode cX11_as 7 = .ok (.invokevirtual 277, 3) := by decide +kernel
theorem dX11_as_10 : decode cX11_as 10 = .ok (.ifCond .eq 15, 3) := by decide +kernel
theorem dX11_as_13 : decode cX11_as 13 = .ok (.iload_n 2, 1) := by decide +kernel
theorem dX11_as_14 : decode cX11_as 14 = .ok (.i2l, 1) := by decide +kernel
theorem dX11_as_15 : decode cX11_as 15 = .ok (.lconst 0, 1) := by decide +kernel
theorem dX11_as_16 : decode cX11_as 16 = .ok (.ldc2_w 138, 3) := by decide +kernel
theorem dX11_as_19 : decode cX11_as 19 = .ok (.invokestatic 123, 3) := by decide +kernel
theorem dX11_as_22 : decode cX11_as 22 = .ok (.ifCond .ne 6, 3) := by decide +kernel
theorem dX11_as_25 : decode cX11_as 25 = .ok (.ldc 133, 2) := by decide +kernel
theorem dX11_as_27 : decode cX11_as 27 = .ok (.ireturn, 1) := by decide +kernel
theorem dX11_as_28 : decode cX11_as 28 = .ok (.aload_n 0, 1) := by decide +kernel
theorem dX11_as_29 : decode cX11_as 29 = .ok (.iconst 0, 1) := by decide +kernel
theorem dX11_as_30 : decode cX11_as 30 = .ok (.putfield 117, 3) := by decide +kernel
theorem dX11_as_33 : decode cX11_as 33 = .ok (.aload_n 0, 1) := by decide +kernel
theorem dX11_as_34 : decode cX11_as 34 = .ok (.iload_n 1, 1) := by decide +kernel
theorem dX11_as_35 : decode cX11_as 35 = .ok (.invokevirtual 314, 3) := by decide +kernel
theorem dX11_as_38 : decode cX11_as 38 = .ok (.iload_n 2, 1) := by decide +kernel
theorem dX11_as_39 : decode cX11_as 39 = .ok (.invokestatic 317, 3) := by decide +kernel
theorem dX11_as_42 : decode cX11_as 42 = .ok (.ifCond .eq 12, 3) := by decide +kernel
theorem dX11_as_45 : decode cX11_as 45 = .ok (.aload_n 0, 1) := by decide +kernel
theorem dX11_as_46 : decode cX11_as 46 = .ok (.getfield 59, 3) := by decide +kernel
theorem dX11_as_49 : decode cX11_as 49 = .ok (.iload_n 1, 1) := by decide +kernel
theorem dX11_as_50 : decode cX11_as 50 = .ok (.iaload, 1) := by decide +kernel
theorem dX11_as_51 : decode cX11_as 51 = .ok (.goto 8, 3) := by decide +kernel
theorem dX11_as_54 : decode cX11_as 54 = .ok (.aload_n 0, 1) := by decide +kernel
theorem dX11_as_55 : decode cX11_as 55 = .ok (.iconst 3, 1) := by decide +kernel
theorem dX11_as_56 : decode cX11_as 56 = .ok (.invokevirtual 134, 3) := by decide +kernel
theorem dX11_as_59 : decode cX11_as 59 = .ok (.ireturn, 1) := by decide +kernel
theorem dX11_began_0 : decode cX11_began 0 = .ok (.aload_n 0, 1) := by decide +kernel
theorem dX11_began_1 : decode cX11_began 1 = .ok (.getfield 321, 3) := by decide +kernel
theorem dX11_began_4 : decode cX11_began 4 = .ok (.bipush 16, 2) := by decide +kernel
theorem dX11_began_6 : decode cX11_began 6 = .ok (.if_icmp .ge 23, 3) := by decide +kernel
theorem dX11_began_9 : decode cX11_began 9 = .ok (.aload_n 0, 1) := by decide +kernel
theorem dX11_began_10 : decode cX11_began 10 = .ok (.getfield 110, 3) := by decide +kernel
theorem dX11_began_13 : decode cX11_began 13 = .ok (.aload_n 0, 1) := by decide +kernel
theorem dX11_began_14 : decode cX11_began 14 = .ok (.getfield 321, 3) := by decide +kernel
theorem dX11_began_17 : decode cX11_began 17 = .ok (.iload_n 1, 1) := by decide +kernel
theorem dX11_began_18 : decode cX11_began 18 = .ok (.iastore, 1) := by decide +kernel
theorem dX11_began_19 : decode cX11_began 19 = .ok (.aload_n 0, 1) := by decide +kernel
theorem dX11_began_20 : decode cX11_began 20 = .ok (.dup, 1) := by decide +kernel
theorem dX11_began_21 : decode cX11_began 21 = .ok (.getfield 321, 3) := by decide +kernel
theorem dX11_began_24 : decode cX11_began 24 = .ok (.iconst 1, 1) := by decide +kernel
theorem dX11_began_25 : decode cX11_began 25 = .ok (.iadd, 1) := by decide +kernel
theorem dX11_began_26 : decode cX11_began 26 = .ok (.putfield 321, 3) := by decide +kernel
theorem dX11_began_29 : decode cX11_began 29 = .ok (.return_, 1) := by decide +kernel
theorem dX11_bits_0 : decode cX11_bits 0 = .ok (.iconst 0, 1) := by decide +kernel
theorem dX11_bits_1 : decode cX11_bits 1 = .ok (.istore_n 1, 1) := by decide +kernel
theorem dX11_bits_2 : decode cX11_bits 2 = .ok (.iconst 0, 1) := by decide +kernel
theorem dX11_bits_3 : decode cX11_bits 3 = .ok (.istore_n 2, 1) := by decide +kernel
theorem dX11_bits_4 : decode cX11_bits 4 = .ok (.iload_n 2, 1) := by decide +kernel
theorem dX11_bits_5 : decode cX11_bits 5 = .ok (.bipush 8, 2) := by decide +kernel
theorem dX11_bits_7 : decode cX11_bits 7 = .ok (.if_icmp .ge 17, 3) := by decide +kernel
theorem dX11_bits_10 : decode cX11_bits 10 = .ok (.iload_n 1, 1) := by decide +kernel
theorem dX11_bits_11 : decode cX11_bits 11 = .ok (.iload_n 0, 1) := by decide +kernel
theorem dX11_bits_12 : decode cX11_bits 12 = .ok (.iload_n 2, 1) := by decide +kernel
theorem dX11_bits_13 : decode cX11_bits 13 = .ok (.ishr, 1) := by decide +kernel
theorem dX11_bits_14 : decode cX11_bits 14 = .ok (.iconst 1, 1) := by decide +kernel
theorem dX11_bits_15 : decode cX11_bits 15 = .ok (.iand, 1) := by decide +kernel
theorem dX11_bits_16 : decode cX11_bits 16 = .ok (.iadd, 1) := by decide +kernel
theorem dX11_bits_17 : decode cX11_bits 17 = .ok (.istore_n 1, 1) := by decide +kernel
theorem dX11_bits_18 : decode cX11_bits 18 = .ok (.iinc 2 1, 3) := by decide +kernel
theorem dX11_bits_21 : decode cX11_bits 21 = .ok (.goto (-17), 3) := by decide +kernel
theorem dX11_bits_24 : decode cX11_bits 24 = .ok (.iload_n 1, 1) := by decide +kernel
theorem dX11_bits_25 : decode cX11_bits 25 = .ok (.ireturn, 1) := by decide +kernel
theorem dX11_markOf_0 : decode cX11_markOf 0 = .ok (.iload_n 2, 1) := by decide +kernel
theorem dX11_markOf_1 : decode cX11_markOf 1 = .ok (.iconst 3, 1) := by decide +kernel
theorem dX11_markOf_2 : decode cX11_markOf 2 = .ok (.if_icmp .ne 9, 3) := by decide +kernel
theorem dX11_markOf_5 : decode cX11_markOf 5 = .ok (.aload_n 0, 1) := by decide +kernel
theorem dX11_markOf_6 : decode cX11_markOf 6 = .ok (.bipush 22, 2) := by decide +kernel
theorem dX11_markOf_8 : decode cX11_markOf 8 = .ok (.invokevirtual 324, 3) := by decide +kernel
theorem dX11_markOf_11 : decode cX11_markOf 11 = .ok (.iload_n 2, 1) := by decide +kernel
theorem dX11_markOf_12 : decode cX11_markOf 12 = .ok (.iconst 2, 1) := by decide +kernel
theorem dX11_markOf_13 : decode cX11_markOf 13 = .ok (.invokestatic 317, 3) := by decide +kernel
theorem dX11_markOf_16 : decode cX11_markOf 16 = .ok (.ifCond .eq 9, 3) := by decide +kernel
theorem dX11_markOf_19 : decode cX11_markOf 19 = .ok (.aload_n 0, 1) := by decide +kernel
theorem dX11_markOf_20 : decode cX11_markOf 20 = .ok (.bipush 21, 2) := by decide +kernel
theorem dX11_markOf_22 : decode cX11_markOf 22 = .ok (.invokevirtual 324, 3) := by decide +kernel
theorem dX11_markOf_25 : decode cX11_markOf 25 = .ok (.iload_n 2, 1) := by decide +kernel
theorem dX11_markOf_26 : decode cX11_markOf 26 = .ok (.iconst 5, 1) := by decide +kernel
theorem dX11_markOf_27 : decode cX11_markOf 27 = .ok (.if_icmp .ne 9, 3) := by decide +kernel
theorem dX11_markOf_30 : decode cX11_markOf 30 = .ok (.aload_n 0, 1) := by decide +kernel
theorem dX11_markOf_31 : decode cX11_markOf 31 = .ok (.bipush 23, 2) := by decide +kernel
theorem dX11_markOf_33 : decode cX11_markOf 33 = .ok (.invokevirtual 324, 3) := by decide +kernel
theorem dX11_markOf_36 : decode cX11_markOf 36 = .ok (.aload_n 0, 1) := by decide +kernel
theorem dX11_markOf_37 : decode cX11_markOf 37 = .ok (.bipush 20, 2) := by decide +kernel
theorem dX11_markOf_39 : decode cX11_markOf 39 = .ok (.invokevirtual 324, 3) := by decide +kernel
theorem dX11_markOf_42 : decode cX11_markOf 42 = .ok (.iload_n 2, 1) := by decide +kernel
theorem dX11_markOf_43 : decode cX11_markOf 43 = .ok (.iconst 5, 1) := by decide +kernel
theorem dX11_markOf_44 : decode cX11_markOf 44 = .ok (.if_icmp .ne 9, 3) := by decide +kernel
theorem dX11_markOf_47 : decode cX11_markOf 47 = .ok (.aload_n 0, 1) := by decide +kernel
theorem dX11_markOf_48 : decode cX11_markOf 48 = .ok (.bipush 10, 2) := by decide +kernel
theorem dX11_markOf_50 : decode cX11_markOf 50 = .ok (.invokevirtual 324, 3) := by decide +kernel
theorem dX11_markOf_53 : decode cX11_markOf 53 = .ok (.iload_n 1, 1) := by decide +kernel
theorem dX11_markOf_54 : decode cX11_markOf 54 = .ok (.iload_n 2, 1) := by decide +kernel
theorem dX11_markOf_55 : decode cX11_markOf 55 = .ok (.iconst 2, 1) := by decide +kernel
theorem dX11_markOf_56 : decode cX11_markOf 56 = .ok (.invokestatic 317, 3) := by decide +kernel
theorem dX11_markOf_59 : decode cX11_markOf 59 = .ok (.ifCond .eq 8, 3) := by decide +kernel
theorem dX11_markOf_62 : decode cX11_markOf 62 = .ok (.bipush 100, 2) := by decide +kernel
theorem dX11_markOf_64 : decode cX11_markOf 64 = .ok (.goto 4, 3) := by decide +kernel
theorem dX11_markOf_67 : decode cX11_markOf 67 = .ok (.iconst 0, 1) := by decide +kernel
theorem dX11_markOf_68 : decode cX11_markOf 68 = .ok (.iadd, 1) := by decide +kernel
theorem dX11_markOf_69 : decode cX11_markOf 69 = .ok (.iload_n 2, 1) := by decide +kernel
theorem dX11_markOf_70 : decode cX11_markOf 70 = .ok (.iconst 3, 1) := by decide +kernel
theorem dX11_markOf_71 : decode cX11_markOf 71 = .ok (.if_icmp .ne 12, 3) := by decide +kernel
theorem dX11_markOf_74 : decode cX11_markOf 74 = .ok (.aload_n 0, 1) := by decide +kernel
theorem dX11_markOf_75 : decode cX11_markOf 75 = .ok (.getfield 56, 3) := by decide +kernel
theorem dX11_markOf_78 : decode cX11_markOf 78 = .ok (.iload_n 1, 1) := by decide +kernel
theorem dX11_markOf_79 : decode cX11_markOf 79 = .ok (.iaload, 1) := by decide +kernel
theorem dX11_markOf_80 : decode cX11_markOf 80 = .ok (.goto 4, 3) := by decide +kernel
theorem dX11_markOf_83 : decode cX11_markOf 83 = .ok (.iconst 0, 1) := by decide +kernel
theorem dX11_markOf_84 : decode cX11_markOf 84 = .ok (.iadd, 1) := by decide +kernel
theorem dX11_markOf_85 : decode cX11_markOf 85 = .ok (.iload_n 2, 1) := by decide +kernel
theorem dX11_markOf_86 : decode cX11_markOf 86 = .ok (.iconst 5, 1) := by decide +kernel
theorem dX11_markOf_87 : decode cX11_markOf 87 = .ok (.if_icmp .ne 12, 3) := by decide +kernel
theorem dX11_markOf_90 : decode cX11_markOf 90 = .ok (.aload_n 0, 1) := by decide +kernel
theorem dX11_markOf_91 : decode cX11_markOf 91 = .ok (.getfield 59, 3) := by decide +kernel
theorem dX11_markOf_94 : decode cX11_markOf 94 = .ok (.iload_n 1, 1) := by decide +kernel
theorem dX11_markOf_95 : decode cX11_markOf 95 = .ok (.iaload, 1) := by decide +kernel
theorem dX11_markOf_96 : decode cX11_markOf 96 = .ok (.goto 4, 3) := by decide +kernel
theorem dX11_markOf_99 : decode cX11_markOf 99 = .ok (.iconst 0, 1) := by decide +kernel
theorem dX11_markOf_100 : decode cX11_markOf 100 = .ok (.iadd, 1) := by decide +kernel
theorem dX11_markOf_101 : decode cX11_markOf 101 = .ok (.ireturn, 1) := by decide +kernel
theorem dX11_sizeOf_0 : decode cX11_sizeOf 0 = .ok (.iload_n 2, 1) := by decide +kernel
theorem dX11_sizeOf_1 : decode cX11_sizeOf 1 = .ok (.iconst 2, 1) := by decide +kernel
theorem dX11_sizeOf_2 : decode cX11_sizeOf 2 = .ok (.invokestatic 317, 3) := by decide +kernel
theorem dX11_sizeOf_5 : decode cX11_sizeOf 5 = .ok (.ifCond .eq 41, 3) := by decide +kernel
theorem dX11_sizeOf_8 : decode cX11_sizeOf 8 = .ok (.iload_n 2, 1) := by decide +kernel
theorem dX11_sizeOf_9 : decode cX11_sizeOf 9 = .ok (.iconst 3, 1) := by decide +kernel
theorem dX11_sizeOf_10 : decode cX11_sizeOf 10 = .ok (.if_icmp .ne 9, 3) := by decide +kernel
theorem dX11_sizeOf_13 : decode cX11_sizeOf 13 = .ok (.aload_n 0, 1) := by decide +kernel
theorem dX11_sizeOf_14 : decode cX11_sizeOf 14 = .ok (.bipush 13, 2) := by decide +kernel
theorem dX11_sizeOf_16 : decode cX11_sizeOf 16 = .ok (.invokevirtual 324, 3) := by decide +kernel
theorem dX11_sizeOf_19 : decode cX11_sizeOf 19 = .ok (.aload_n 0, 1) := by decide +kernel
theorem dX11_sizeOf_20 : decode cX11_sizeOf 20 = .ok (.bipush 12, 2) := by decide +kernel
theorem dX11_sizeOf_22 : decode cX11_sizeOf 22 = .ok (.invokevirtual 324, 3) := by decide +kernel
theorem dX11_sizeOf_25 : decode cX11_sizeOf 25 = .ok (.aload_n 0, 1) := by decide +kernel
theorem dX11_sizeOf_26 : decode cX11_sizeOf 26 = .ok (.iload_n 1, 1) := by decide +kernel
theorem dX11_sizeOf_27 : decode cX11_sizeOf 27 = .ok (.iload_n 2, 1) := by decide +kernel
theorem dX11_sizeOf_28 : decode cX11_sizeOf 28 = .ok (.invokevirtual 327, 3) := by decide +kernel
theorem dX11_sizeOf_31 : decode cX11_sizeOf 31 = .ok (.ineg, 1) := by decide +kernel
theorem dX11_sizeOf_32 : decode cX11_sizeOf 32 = .ok (.istore_n 3, 1) := by decide +kernel
theorem dX11_sizeOf_33 : decode cX11_sizeOf 33 = .ok (.iload_n 2, 1) := by decide +kernel
theorem dX11_sizeOf_34 : decode cX11_sizeOf 34 = .ok (.iconst 3, 1) := by decide +kernel
theorem dX11_sizeOf_35 : decode cX11_sizeOf 35 = .ok (.if_icmp .ne 9, 3) := by decide +kernel
theorem dX11_sizeOf_38 : decode cX11_sizeOf 38 = .ok (.iconst 2, 1) := by decide +kernel
theorem dX11_sizeOf_39 : decode cX11_sizeOf 39 = .ok (.iload_n 3, 1) := by decide +kernel
theorem dX11_sizeOf_40 : decode cX11_sizeOf 40 = .ok (.imul, 1) := by decide +kernel
theorem dX11_sizeOf_41 : decode cX11_sizeOf 41 = .ok (.goto 4, 3) := by decide +kernel
theorem dX11_sizeOf_44 : decode cX11_sizeOf 44 = .ok (.iload_n 3, 1) := by decide +kernel
theorem dX11_sizeOf_45 : decode cX11_sizeOf 45 = .ok (.ireturn, 1) := by decide +kernel
theorem dX11_sizeOf_46 : decode cX11_sizeOf 46 = .ok (.iload_n 2, 1) := by decide +kernel
theorem dX11_sizeOf_47 : decode cX11_sizeOf 47 = .ok (.iconst 1, 1) := by decide +kernel
theorem dX11_sizeOf_48 : decode cX11_sizeOf 48 = .ok (.if_icmp .eq 8, 3) := by decide +kernel
theorem dX11_sizeOf_51 : decode cX11_sizeOf 51 = .ok (.iload_n 2, 1) := by decide +kernel
theorem dX11_sizeOf_52 : decode cX11_sizeOf 52 = .ok (.iconst 4, 1) := by decide +kernel
theorem dX11_sizeOf_53 : decode cX11_sizeOf 53 = .ok (.if_icmp .ne 19, 3) := by decide +kernel
theorem dX11_sizeOf_56 : decode cX11_sizeOf 56 = .ok (.aload_n 0, 1) := by decide +kernel
theorem dX11_sizeOf_57 : decode cX11_sizeOf 57 = .ok (.iload_n 2, 1) := by decide +kernel
theorem dX11_sizeOf_58 : decode cX11_sizeOf 58 = .ok (.iconst 1, 1) := by decide +kernel
theorem dX11_sizeOf_59 : decode cX11_sizeOf 59 = .ok (.if_icmp .ne 8, 3) := by decide +kernel
theorem dX11_sizeOf_62 : decode cX11_sizeOf 62 = .ok (.bipush 11, 2) := by decide +kernel
theorem dX11_sizeOf_64 : decode cX11_sizeOf 64 = .ok (.goto 5, 3) := by decide +kernel
theorem dX11_sizeOf_67 : decode cX11_sizeOf 67 = .ok (.bipush 14, 2) := by decide +kernel
theorem dX11_sizeOf_69 : decode cX11_sizeOf 69 = .ok (.invokevirtual 324, 3) := by decide +kernel
theorem dX11_sizeOf_72 : decode cX11_sizeOf 72 = .ok (.aload_n 0, 1) := by decide +kernel
theorem dX11_sizeOf_73 : decode cX11_sizeOf 73 = .ok (.bipush 10, 2) := by decide +kernel
theorem dX11_sizeOf_75 : decode cX11_sizeOf 75 = .ok (.invokevirtual 324, 3) := by decide +kernel
theorem dX11_sizeOf_78 : decode cX11_sizeOf 78 = .ok (.iload_n 2, 1) := by decide +kernel
theorem dX11_sizeOf_79 : decode cX11_sizeOf 79 = .ok (.iconst 1, 1) := by decide +kernel
theorem dX11_sizeOf_80 : decode cX11_sizeOf 80 = .ok (.if_icmp .ne 22, 3) := by decide +kernel
theorem dX11_sizeOf_83 : decode cX11_sizeOf 83 = .ok (.aload_n 0, 1) := by decide +kernel
theorem dX11_sizeOf_84 : decode cX11_sizeOf 84 = .ok (.getfield 59, 3) := by decide +kernel
theorem dX11_sizeOf_87 : decode cX11_sizeOf 87 = .ok (.iload_n 1, 1) := by decide +kernel
theorem dX11_sizeOf_88 : decode cX11_sizeOf 88 = .ok (.iaload, 1) := by decide +kernel
theorem dX11_sizeOf_89 : decode cX11_sizeOf 89 = .ok (.aload_n 0, 1) := by decide +kernel
theorem dX11_sizeOf_90 : decode cX11_sizeOf 90 = .ok (.getfield 65, 3) := by decide +kernel
theorem dX11_sizeOf_93 : decode cX11_sizeOf 93 = .ok (.iload_n 1, 1) := by decide +kernel
theorem dX11_sizeOf_94 : decode cX11_sizeOf 94 = .ok (.iaload, 1) := by decide +kernel
theorem dX11_sizeOf_95 : decode cX11_sizeOf 95 = .ok (.invokestatic 330, 3) := by decide +kernel
theorem dX11_sizeOf_98 : decode cX11_sizeOf 98 = .ok (.isub, 1) := by decide +kernel
theorem dX11_sizeOf_99 : decode cX11_sizeOf 99 = .ok (.goto 25, 3) := by decide +kernel
theorem dX11_sizeOf_102 : decode cX11_sizeOf 102 = .ok (.iload_n 2, 1) := by decide +kernel
theorem dX11_sizeOf_103 : decode cX11_sizeOf 103 = .ok (.iconst 4, 1) := by decide +kernel
theorem dX11_sizeOf_104 : decode cX11_sizeOf 104 = .ok (.if_icmp .ne 14, 3) := by decide +kernel
theorem dX11_sizeOf_107 : decode cX11_sizeOf 107 = .ok (.aload_n 0, 1) := by decide +kernel
theorem dX11_sizeOf_108 : decode cX11_sizeOf 108 = .ok (.getfield 59, 3) := by decide +kernel
theorem dX11_sizeOf_111 : decode cX11_sizeOf 111 = .ok (.iload_n 1, 1) := by decide +kernel
theorem dX11_sizeOf_112 : decode cX11_sizeOf 112 = .ok (.iaload, 1) := by decide +kernel
theorem dX11_sizeOf_113 : decode cX11_sizeOf 113 = .ok (.iconst 2, 1) := by decide +kernel
theorem dX11_sizeOf_114 : decode cX11_sizeOf 114 = .ok (.idiv, 1) := by decide +kernel
theorem dX11_sizeOf_115 : decode cX11_sizeOf 115 = .ok (.goto 9, 3) := by decide +kernel
theorem dX11_sizeOf_118 : decode cX11_sizeOf 118 = .ok (.aload_n 0, 1) := by decide +kernel
theorem dX11_sizeOf_119 : decode cX11_sizeOf 119 = .ok (.getfield 59, 3) := by decide +kernel
theorem dX11_sizeOf_122 : decode cX11_sizeOf 122 = .ok (.iload_n 1, 1) := by decide +kernel
theorem dX11_sizeOf_123 : decode cX11_sizeOf 123 = .ok (.iaload, 1) := by decide +kernel
theorem dX11_sizeOf_124 : decode cX11_sizeOf 124 = .ok (.ireturn, 1) := by decide +kernel
theorem dX11_ask_0 : decode cX11_ask 0 = .ok (.aload_n 0, 1) := by decide +kernel
theorem dX11_ask_1 : decode cX11_ask 1 = .ok (.iconst 0, 1) := by decide +kernel
theorem dX11_ask_2 : decode cX11_ask 2 = .ok (.putfield 113, 3) := by decide +kernel
theorem dX11_ask_5 : decode cX11_ask 5 = .ok (.aload_n 0, 1) := by decide +kernel
theorem dX11_ask_6 : decode cX11_ask 6 = .ok (.iload_n 1, 1) := by decide +kernel
theorem dX11_ask_7 : decode cX11_ask 7 = .ok (.invokevirtual 277, 3) := by decide +kernel
theorem dX11_ask_10 : decode cX11_ask 10 = .ok (.ifCond .eq 13, 3) := by decide +kernel
theorem dX11_ask_13 : decode cX11_ask 13 = .ok (.iload_n 2, 1) := by decide +kernel
theorem dX11_ask_14 : decode cX11_ask 14 = .ok (.i2l, 1) := by decide +kernel
theorem dX11_ask_15 : decode cX11_ask 15 = .ok (.lconst 0, 1) := by decide +kernel
theorem dX11_ask_16 : decode cX11_ask 16 = .ok (.lconst 1, 1) := by decide +kernel
theorem dX11_ask_17 : decode cX11_ask 17 = .ok (.invokestatic 123, 3) := by decide +kernel
theorem dX11_ask_20 : decode cX11_ask 20 = .ok (.ifCond .ne 6, 3) := by decide +kernel
theorem dX11_ask_23 : decode cX11_ask 23 = .ok (.ldc 133, 2) := by decide +kernel
theorem dX11_ask_25 : decode cX11_ask 25 = .ok (.ireturn, 1) := by decide +kernel
theorem dX11_ask_26 : decode cX11_ask 26 = .ok (.aload_n 0, 1) := by decide +kernel
theorem dX11_ask_27 : decode cX11_ask 27 = .ok (.iconst 0, 1) := by decide +kernel
theorem dX11_ask_28 : decode cX11_ask 28 = .ok (.putfield 321, 3) := by decide +kernel
theorem dX11_ask_31 : decode cX11_ask 31 = .ok (.iload_n 2, 1) := by decide +kernel
theorem dX11_ask_32 : decode cX11_ask 32 = .ok (.ifCond .ne 16, 3) := by decide +kernel
theorem dX11_ask_35 : decode cX11_ask 35 = .ok (.aload_n 0, 1) := by decide +kernel
theorem dX11_ask_36 : decode cX11_ask 36 = .ok (.iload_n 1, 1) := by decide +kernel
theorem dX11_ask_37 : decode cX11_ask 37 = .ok (.aload_n 0, 1) := by decide +kernel
theorem dX11_ask_38 : decode cX11_ask 38 = .ok (.iload_n 1, 1) := by decide +kernel
theorem dX11_ask_39 : decode cX11_ask 39 = .ok (.invokevirtual 314, 3) := by decide +kernel
theorem dX11_ask_42 : decode cX11_ask 42 = .ok (.invokevirtual 333, 3) := by decide +kernel
theorem dX11_ask_45 : decode cX11_ask 45 = .ok (.goto 13, 3) := by decide +kernel
theorem dX11_ask_48 : decode cX11_ask 48 = .ok (.aload_n 0, 1) := by decide +kernel
theorem dX11_ask_49 : decode cX11_ask 49 = .ok (.iload_n 1, 1) := by decide +kernel
theorem dX11_ask_50 : decode cX11_ask 50 = .ok (.aload_n 0, 1) := by decide +kernel
theorem dX11_ask_51 : decode cX11_ask 51 = .ok (.iload_n 1, 1) := by decide +kernel
theorem dX11_ask_52 : decode cX11_ask 52 = .ok (.invokevirtual 314, 3) := by decide +kernel
theorem dX11_ask_55 : decode cX11_ask 55 = .ok (.invokevirtual 327, 3) := by decide +kernel
theorem dX11_ask_58 : decode cX11_ask 58 = .ok (.ireturn, 1) := by decide +kernel
theorem dX11_trace_0 : decode cX11_trace 0 = .ok (.aload_n 0, 1) := by decide +kernel
theorem dX11_trace_1 : decode cX11_trace 1 = .ok (.iconst 0, 1) := by decide +kernel
theorem dX11_trace_2 : decode cX11_trace 2 = .ok (.putfield 113, 3) := by decide +kernel
theorem dX11_trace_5 : decode cX11_trace 5 = .ok (.iload_n 1, 1) := by decide +kernel
theorem dX11_trace_6 : decode cX11_trace 6 = .ok (.i2l, 1) := by decide +kernel
theorem dX11_trace_7 : decode cX11_trace 7 = .ok (.lconst 0, 1) := by decide +kernel
theorem dX11_trace_8 : decode cX11_trace 8 = .ok (.aload_n 0, 1) := by decide +kernel
theorem dX11_trace_9 : decode cX11_trace 9 = .ok (.getfield 321, 3) := by decide +kernel
theorem dX11_trace_12 : decode cX11_trace 12 = .ok (.iconst 1, 1) := by decide +kernel
theorem dX11_trace_13 : decode cX11_trace 13 = .ok (.isub, 1) := by decide +kernel
theorem dX11_trace_14 : decode cX11_trace 14 = .ok (.i2l, 1) := by decide +kernel
theorem dX11_trace_15 : decode cX11_trace 15 = .ok (.invokestatic 123, 3) := by decide +kernel
theorem dX11_trace_18 : decode cX11_trace 18 = .ok (.ifCond .eq 12, 3) := by decide +kernel
theorem dX11_trace_21 : decode cX11_trace 21 = .ok (.aload_n 0, 1) := by decide +kernel
theorem dX11_trace_22 : decode cX11_trace 22 = .ok (.getfield 110, 3) := by decide +kernel
theorem dX11_trace_25 : decode cX11_trace 25 = .ok (.iload_n 1, 1) := by decide +kernel
theorem dX11_trace_26 : decode cX11_trace 26 = .ok (.iaload, 1) := by decide +kernel
theorem dX11_trace_27 : decode cX11_trace 27 = .ok (.goto 5, 3) := by decide +kernel
theorem dX11_trace_30 : decode cX11_trace 30 = .ok (.ldc 145, 2) := by decide +kernel
theorem dX11_trace_32 : decode cX11_trace 32 = .ok (.ireturn, 1) := by decide +kernel
theorem dX11_count_0 : decode cX11_count 0 = .ok (.aload_n 0, 1) := by decide +kernel
theorem dX11_count_1 : decode cX11_count 1 = .ok (.iconst 0, 1) := by decide +kernel
theorem dX11_count_2 : decode cX11_count 2 = .ok (.putfield 113, 3) := by decide +kernel
theorem dX11_count_5 : decode cX11_count 5 = .ok (.iconst 0, 1) := by decide +kernel
theorem dX11_count_6 : decode cX11_count 6 = .ok (.istore_n 2, 1) := by decide +kernel
theorem dX11_count_7 : decode cX11_count 7 = .ok (.iload_n 1, 1) := by decide +kernel
theorem dX11_count_8 : decode cX11_count 8 = .ok (.tableswitch 221 0 9 #[56, 89, 94, 129, 134, 139, 139, 139, 211, 216], 56) := by decide +kernel
theorem dX11_count_64 : decode cX11_count 64 = .ok (.iconst 0, 1) := by decide +kernel
theorem dX11_count_65 : decode cX11_count 65 = .ok (.istore_n 3, 1) := by decide +kernel
theorem dX11_count_66 : decode cX11_count 66 = .ok (.iload_n 3, 1) := by decide +kernel
theorem dX11_count_67 : decode cX11_count 67 = .ok (.bipush 8, 2) := by decide +kernel
theorem dX11_count_69 : decode cX11_count 69 = .ok (.if_icmp .ge 26, 3) := by decide +kernel
theorem dX11_count_72 : decode cX11_count 72 = .ok (.iload_n 2, 1) := by decide +kernel
theorem dX11_count_73 : decode cX11_count 73 = .ok (.aload_n 0, 1) := by decide +kernel
theorem dX11_count_74 : decode cX11_count 74 = .ok (.getfield 7, 3) := by decide +kernel
theorem dX11_count_77 : decode cX11_count 77 = .ok (.iload_n 3, 1) := by decide +kernel
theorem dX11_count_78 : decode cX11_count 78 = .ok (.iaload, 1) := by decide +kernel
theorem dX11_count_79 : decode cX11_count 79 = .ok (.ifCond .lt 7, 3) := by decide +kernel
theorem dX11_count_82 : decode cX11_count 82 = .ok (.iconst 1, 1) := by decide +kernel
theorem dX11_count_83 : decode cX11_count 83 = .ok (.goto 4, 3) := by decide +kernel
theorem dX11_count_86 : decode cX11_count 86 = .ok (.iconst 0, 1) := by decide +kernel
theorem dX11_count_87 : decode cX11_count 87 = .ok (.iadd, 1) := by decide +kernel
theorem dX11_count_88 : decode cX11_count 88 = .ok (.istore_n 2, 1) := by decide +kernel
theorem dX11_count_89 : decode cX11_count 89 = .ok (.iinc 3 1, 3) := by decide +kernel
theorem dX11_count_92 : decode cX11_count 92 = .ok (.goto (-26), 3) := by decide +kernel
theorem dX11_count_95 : decode cX11_count 95 = .ok (.iload_n 2, 1) := by decide +kernel
theorem dX11_count_96 : decode cX11_count 96 = .ok (.ireturn, 1) := by decide +kernel
theorem dX11_count_97 : decode cX11_count 97 = .ok (.aload_n 0, 1) := by decide +kernel
theorem dX11_count_98 : decode cX11_count 98 = .ok (.getfield 150, 3) := by decide +kernel
theorem dX11_count_101 : decode cX11_count 101 = .ok (.ireturn, 1) := by decide +kernel
theorem dX11_count_102 : decode cX11_count 102 = .ok (.iconst 0, 1) := by decide +kernel
theorem dX11_count_103 : decode cX11_count 103 = .ok (.istore_n 3, 1) := by decide +kernel
theorem dX11_count_104 : decode cX11_count 104 = .ok (.iload_n 3, 1) := by decide +kernel
theorem dX11_count_105 : decode cX11_count 105 = .ok (.aload_n 0, 1) := by decide +kernel
theorem dX11_count_106 : decode cX11_count 106 = .ok (.getfield 150, 3) := by decide +kernel
theorem dX11_count_109 : decode cX11_count 109 = .ok (.if_icmp .ge 26, 3) := by decide +kernel
theorem dX11_count_112 : decode cX11_count 112 = .ok (.iload_n 2, 1) := by decide +kernel
theorem dX11_count_113 : decode cX11_count 113 = .ok (.aload_n 0, 1) := by decide +kernel
theorem dX11_count_114 : decode cX11_count 114 = .ok (.getfield 34, 3) := by decide +kernel
theorem dX11_count_117 : decode cX11_count 117 = .ok (.iload_n 3, 1) := by decide +kernel
theorem dX11_count_118 : decode cX11_count 118 = .ok (.baload, 1) := by decide +kernel
theorem dX11_count_119 : decode cX11_count 119 = .ok (.ifCond .eq 7, 3) := by decide +kernel
theorem dX11_count_122 : decode cX11_count 122 = .ok (.iconst 1, 1) := by decide +kernel
theorem dX11_count_123 : decode cX11_count 123 = .ok (.goto 4, 3) := by decide +kernel
theorem dX11_count_126 : decode cX11_count 126 = .ok (.iconst 0, 1) := by decide +kernel
theorem dX11_count_127 : decode cX11_count 127 = .ok (.iadd, 1) := by decide +kernel
theorem dX11_count_128 : decode cX11_count 128 = .ok (.istore_n 2, 1) := by decide +kernel
theorem dX11_count_129 : decode cX11_count 129 = .ok (.iinc 3 1, 3) := by decide +kernel
theorem dX11_count_132 : decode cX11_count 132 = .ok (.goto (-28), 3) := by decide +kernel
theorem dX11_count_135 : decode cX11_count 135 = .ok (.iload_n 2, 1) := by decide +kernel
theorem dX11_count_136 : decode cX11_count 136 = .ok (.ireturn, 1) := by decide +kernel
theorem dX11_count_137 : decode cX11_count 137 = .ok (.aload_n 0, 1) := by decide +kernel
theorem dX11_count_138 : decode cX11_count 138 = .ok (.getfield 236, 3) := by decide +kernel
theorem dX11_count_141 : decode cX11_count 141 = .ok (.ireturn, 1) := by decide +kernel
theorem dX11_count_142 : decode cX11_count 142 = .ok (.aload_n 0, 1) := by decide +kernel
theorem dX11_count_143 : decode cX11_count 143 = .ok (.getfield 265, 3) := by decide +kernel
theorem dX11_count_146 : decode cX11_count 146 = .ok (.ireturn, 1) := by decide +kernel
theorem dX11_count_147 : decode cX11_count 147 = .ok (.iconst 0, 1) := by decide +kernel
theorem dX11_count_148 : decode cX11_count 148 = .ok (.istore_n 3, 1) := by decide +kernel
theorem dX11_count_149 : decode cX11_count 149 = .ok (.iload_n 3, 1) := by decide +kernel
theorem dX11_count_150 : decode cX11_count 150 = .ok (.aload_n 0, 1) := by decide +kernel
theorem dX11_count_151 : decode cX11_count 151 = .ok (.getfield 265, 3) := by decide +kernel
theorem dX11_count_154 : decode cX11_count 154 = .ok (.if_icmp .ge 63, 3) := by decide +kernel
theorem dX11_count_157 : decode cX11_count 157 = .ok (.iload_n 2, 1) := by decide +kernel
theorem dX11_count_158 : decode cX11_count 158 = .ok (.iload_n 1, 1) := by decide +kernel
theorem dX11_count_159 : decode cX11_count 159 = .ok (.iconst 5, 1) := by decide +kernel
theorem dX11_count_160 : decode cX11_count 160 = .ok (.if_icmp .ne 17, 3) := by decide +kernel
theorem dX11_count_163 : decode cX11_count 163 = .ok (.aload_n 0, 1) := by decide +kernel
theorem dX11_count_164 : decode cX11_count 164 = .ok (.getfield 68, 3) := by decide +kernel
theorem dX11_count_167 : decode cX11_count 167 = .ok (.iload_n 3, 1) := by decide +kernel
theorem dX11_count_168 : decode cX11_count 168 = .ok (.iaload, 1) := by decide +kernel
theorem dX11_count_169 : decode cX11_count 169 = .ok (.ldc 145, 2) := by decide +kernel
theorem dX11_count_171 : decode cX11_count 171 = .ok (.if_icmp .eq 37, 3) := by decide +kernel
theorem dX11_count_174 : decode cX11_count 174 = .ok (.goto 30, 3) := by decide +kernel
theorem dX11_count_177 : decode cX11_count 177 = .ok (.iload_n 1, 1) := by decide +kernel
theorem dX11_count_178 : decode cX11_count 178 = .ok (.bipush 6, 2) := by decide +kernel
theorem dX11_count_180 : decode cX11_count 180 = .ok (.if_icmp .ne 15, 3) := by decide +kernel
theorem dX11_count_183 : decode cX11_count 183 = .ok (.aload_n 0, 1) := by decide +kernel
theorem dX11_count_184 : decode cX11_count 184 = .ok (.getfield 74, 3) := by decide +kernel
theorem dX11_count_187 : decode cX11_count 187 = .ok (.iload_n 3, 1) := by decide +kernel
theorem dX11_count_188 : decode cX11_count 188 = .ok (.baload, 1) := by decide +kernel
theorem dX11_count_189 : decode cX11_count 189 = .ok (.ifCond .eq 19, 3) := by decide +kernel
theorem dX11_count_192 : decode cX11_count 192 = .ok (.goto 12, 3) := by decide +kernel
theorem dX11_count_195 : decode cX11_count 195 = .ok (.aload_n 0, 1) := by decide +kernel
theorem dX11_count_196 : decode cX11_count 196 = .ok (.getfield 80, 3) := by decide +kernel
theorem dX11_count_199 : decode cX11_count 199 = .ok (.iload_n 3, 1) := by decide +kernel
theorem dX11_count_200 : decode cX11_count 200 = .ok (.baload, 1) := by decide +kernel
theorem dX11_count_201 : decode cX11_count 201 = .ok (.ifCond .eq 7, 3) := by decide +kernel
theorem dX11_count_204 : decode cX11_count 204 = .ok (.iconst 1, 1) := by decide +kernel
theorem dX11_count_205 : decode cX11_count 205 = .ok (.goto 4, 3) := by decide +kernel
theorem dX11_count_208 : decode cX11_count 208 = .ok (.iconst 0, 1) := by decide +kernel
theorem dX11_count_209 : decode cX11_count 209 = .ok (.iadd, 1) := by decide +kernel
theorem dX11_count_210 : decode cX11_count 210 = .ok (.istore_n 2, 1) := by decide +kernel
theorem dX11_count_211 : decode cX11_count 211 = .ok (.iinc 3 1, 3) := by decide +kernel
theorem dX11_count_214 : decode cX11_count 214 = .ok (.goto (-65), 3) := by decide +kernel
theorem dX11_count_217 : decode cX11_count 217 = .ok (.iload_n 2, 1) := by decide +kernel
theorem dX11_count_218 : decode cX11_count 218 = .ok (.ireturn, 1) := by decide +kernel
theorem dX11_count_219 : decode cX11_count 219 = .ok (.aload_n 0, 1) := by decide +kernel
theorem dX11_count_220 : decode cX11_count 220 = .ok (.getfield 172, 3) := by decide +kernel
theorem dX11_count_223 : decode cX11_count 223 = .ok (.ireturn, 1) := by decide +kernel
theorem dX11_count_224 : decode cX11_count 224 = .ok (.aload_n 0, 1) := by decide +kernel
theorem dX11_count_225 : decode cX11_count 225 = .ok (.getfield 167, 3) := by decide +kernel
theorem dX11_count_228 : decode cX11_count 228 = .ok (.ireturn, 1) := by decide +kernel
theorem dX11_count_229 : decode cX11_count 229 = .ok (.ldc 133, 2) := by decide +kernel
theorem dX11_count_231 : decode cX11_count 231 = .ok (.ireturn, 1) := by decide +kernel
theorem dX11_status_0 : decode cX11_status 0 = .ok (.aload_n 0, 1) := by decide +kernel
theorem dX11_status_1 : decode cX11_status 1 = .ok (.iconst 0, 1) := by decide +kernel
theorem dX11_status_2 : decode cX11_status 2 = .ok (.putfield 113, 3) := by decide +kernel
theorem dX11_status_5 : decode cX11_status 5 = .ok (.aload_n 0, 1) := by decide +kernel
theorem dX11_status_6 : decode cX11_status 6 = .ok (.getfield 117, 3) := by decide +kernel
theorem dX11_status_9 : decode cX11_status 9 = .ok (.ireturn, 1) := by decide +kernel
theorem dJ6_bitCount_0f7a4_0 : decode cJ6_bitCount_0f7a4 0 = .ok (.iload_n 0, 1) := by decide +kernel
theorem dJ6_bitCount_0f7a4_1 : decode cJ6_bitCount_0f7a4 1 = .ok (.iload_n 0, 1) := by decide +kernel
theorem dJ6_bitCount_0f7a4_2 : decode cJ6_bitCount_0f7a4 2 = .ok (.iconst 1, 1) := by decide +kernel
theorem dJ6_bitCount_0f7a4_3 : decode cJ6_bitCount_0f7a4 3 = .ok (.iushr, 1) := by decide +kernel
theorem dJ6_bitCount_0f7a4_4 : decode cJ6_bitCount_0f7a4 4 = .ok (.ldc_w 265, 3) := by decide +kernel
theorem dJ6_bitCount_0f7a4_7 : decode cJ6_bitCount_0f7a4 7 = .ok (.iand, 1) := by decide +kernel
theorem dJ6_bitCount_0f7a4_8 : decode cJ6_bitCount_0f7a4 8 = .ok (.isub, 1) := by decide +kernel
theorem dJ6_bitCount_0f7a4_9 : decode cJ6_bitCount_0f7a4 9 = .ok (.istore_n 0, 1) := by decide +kernel
theorem dJ6_bitCount_0f7a4_10 : decode cJ6_bitCount_0f7a4 10 = .ok (.iload_n 0, 1) := by decide +kernel
theorem dJ6_bitCount_0f7a4_11 : decode cJ6_bitCount_0f7a4 11 = .ok (.ldc_w 266, 3) := by decide +kernel
theorem dJ6_bitCount_0f7a4_14 : decode cJ6_bitCount_0f7a4 14 = .ok (.iand, 1) := by decide +kernel
theorem dJ6_bitCount_0f7a4_15 : decode cJ6_bitCount_0f7a4 15 = .ok (.iload_n 0, 1) := by decide +kernel
theorem dJ6_bitCount_0f7a4_16 : decode cJ6_bitCount_0f7a4 16 = .ok (.iconst 2, 1) := by decide +kernel
theorem dJ6_bitCount_0f7a4_17 : decode cJ6_bitCount_0f7a4 17 = .ok (.iushr, 1) := by decide +kernel
theorem dJ6_bitCount_0f7a4_18 : decode cJ6_bitCount_0f7a4 18 = .ok (.ldc_w 266, 3) := by decide +kernel
theorem dJ6_bitCount_0f7a4_21 : decode cJ6_bitCount_0f7a4 21 = .ok (.iand, 1) := by decide +kernel
theorem dJ6_bitCount_0f7a4_22 : decode cJ6_bitCount_0f7a4 22 = .ok (.iadd, 1) := by decide +kernel
theorem dJ6_bitCount_0f7a4_23 : decode cJ6_bitCount_0f7a4 23 = .ok (.istore_n 0, 1) := by decide +kernel
theorem dJ6_bitCount_0f7a4_24 : decode cJ6_bitCount_0f7a4 24 = .ok (.iload_n 0, 1) := by decide +kernel
theorem dJ6_bitCount_0f7a4_25 : decode cJ6_bitCount_0f7a4 25 = .ok (.iload_n 0, 1) := by decide +kernel
theorem dJ6_bitCount_0f7a4_26 : decode cJ6_bitCount_0f7a4 26 = .ok (.iconst 4, 1) := by decide +kernel
theorem dJ6_bitCount_0f7a4_27 : decode cJ6_bitCount_0f7a4 27 = .ok (.iushr, 1) := by decide +kernel
theorem dJ6_bitCount_0f7a4_28 : decode cJ6_bitCount_0f7a4 28 = .ok (.iadd, 1) := by decide +kernel
theorem dJ6_bitCount_0f7a4_29 : decode cJ6_bitCount_0f7a4 29 = .ok (.ldc_w 267, 3) := by decide +kernel
theorem dJ6_bitCount_0f7a4_32 : decode cJ6_bitCount_0f7a4 32 = .ok (.iand, 1) := by decide +kernel
theorem dJ6_bitCount_0f7a4_33 : decode cJ6_bitCount_0f7a4 33 = .ok (.istore_n 0, 1) := by decide +kernel
theorem dJ6_bitCount_0f7a4_34 : decode cJ6_bitCount_0f7a4 34 = .ok (.iload_n 0, 1) := by decide +kernel
theorem dJ6_bitCount_0f7a4_35 : decode cJ6_bitCount_0f7a4 35 = .ok (.iload_n 0, 1) := by decide +kernel
theorem dJ6_bitCount_0f7a4_36 : decode cJ6_bitCount_0f7a4 36 = .ok (.bipush 8, 2) := by decide +kernel
theorem dJ6_bitCount_0f7a4_38 : decode cJ6_bitCount_0f7a4 38 = .ok (.iushr, 1) := by decide +kernel
theorem dJ6_bitCount_0f7a4_39 : decode cJ6_bitCount_0f7a4 39 = .ok (.iadd, 1) := by decide +kernel
theorem dJ6_bitCount_0f7a4_40 : decode cJ6_bitCount_0f7a4 40 = .ok (.istore_n 0, 1) := by decide +kernel
theorem dJ6_bitCount_0f7a4_41 : decode cJ6_bitCount_0f7a4 41 = .ok (.iload_n 0, 1) := by decide +kernel
theorem dJ6_bitCount_0f7a4_42 : decode cJ6_bitCount_0f7a4 42 = .ok (.iload_n 0, 1) := by decide +kernel
theorem dJ6_bitCount_0f7a4_43 : decode cJ6_bitCount_0f7a4 43 = .ok (.bipush 16, 2) := by decide +kernel
theorem dJ6_bitCount_0f7a4_45 : decode cJ6_bitCount_0f7a4 45 = .ok (.iushr, 1) := by decide +kernel
theorem dJ6_bitCount_0f7a4_46 : decode cJ6_bitCount_0f7a4 46 = .ok (.iadd, 1) := by decide +kernel
theorem dJ6_bitCount_0f7a4_47 : decode cJ6_bitCount_0f7a4 47 = .ok (.istore_n 0, 1) := by decide +kernel
theorem dJ6_bitCount_0f7a4_48 : decode cJ6_bitCount_0f7a4 48 = .ok (.iload_n 0, 1) := by decide +kernel
theorem dJ6_bitCount_0f7a4_49 : decode cJ6_bitCount_0f7a4 49 = .ok (.bipush 63, 2) := by decide +kernel
theorem dJ6_bitCount_0f7a4_51 : decode cJ6_bitCount_0f7a4 51 = .ok (.iand, 1) := by decide +kernel
theorem dJ6_bitCount_0f7a4_52 : decode cJ6_bitCount_0f7a4 52 = .ok (.ireturn, 1) := by decide +kernel
theorem dJ9_max_7cf53_0 : decode cJ9_max_7cf53 0 = .ok (.iload_n 0, 1) := by decide +kernel
theorem dJ9_max_7cf53_1 : decode cJ9_max_7cf53 1 = .ok (.iload_n 1, 1) := by decide +kernel
theorem dJ9_max_7cf53_2 : decode cJ9_max_7cf53 2 = .ok (.if_icmp .lt 7, 3) := by decide +kernel
theorem dJ9_max_7cf53_5 : decode cJ9_max_7cf53 5 = .ok (.iload_n 0, 1) := by decide +kernel
theorem dJ9_max_7cf53_6 : decode cJ9_max_7cf53 6 = .ok (.goto 4, 3) := by decide +kernel
theorem dJ9_max_7cf53_9 : decode cJ9_max_7cf53 9 = .ok (.iload_n 1, 1) := by decide +kernel
theorem dJ9_max_7cf53_10 : decode cJ9_max_7cf53 10 = .ok (.ireturn, 1) := by decide +kernel
theorem dJ9_min_7cf53_0 : decode cJ9_min_7cf53 0 = .ok (.iload_n 0, 1) := by decide +kernel
theorem dJ9_min_7cf53_1 : decode cJ9_min_7cf53 1 = .ok (.iload_n 1, 1) := by decide +kernel
theorem dJ9_min_7cf53_2 : decode cJ9_min_7cf53 2 = .ok (.if_icmp .gt 7, 3) := by decide +kernel
theorem dJ9_min_7cf53_5 : decode cJ9_min_7cf53 5 = .ok (.iload_n 0, 1) := by decide +kernel
theorem dJ9_min_7cf53_6 : decode cJ9_min_7cf53 6 = .ok (.goto 4, 3) := by decide +kernel
theorem dJ9_min_7cf53_9 : decode cJ9_min_7cf53 9 = .ok (.iload_n 1, 1) := by decide +kernel
theorem dJ9_min_7cf53_10 : decode cJ9_min_7cf53 10 = .ok (.ireturn, 1) := by decide +kernel
theorem dJ0_length_8abf5_0 : decode cJ0_length_8abf5 0 = .ok (.aload_n 0, 1) := by decide +kernel
theorem dJ0_length_8abf5_1 : decode cJ0_length_8abf5 1 = .ok (.getfield 9, 3) := by decide +kernel
theorem dJ0_length_8abf5_4 : decode cJ0_length_8abf5 4 = .ok (.arraylength, 1) := by decide +kernel
theorem dJ0_length_8abf5_5 : decode cJ0_length_8abf5 5 = .ok (.aload_n 0, 1) := by decide +kernel
theorem dJ0_length_8abf5_6 : decode cJ0_length_8abf5 6 = .ok (.invokevirtual 335, 3) := by decide +kernel
theorem dJ0_length_8abf5_9 : decode cJ0_length_8abf5 9 = .ok (.ishr, 1) := by decide +kernel
theorem dJ0_length_8abf5_10 : decode cJ0_length_8abf5 10 = .ok (.ireturn, 1) := by decide +kernel
theorem dJ0_charAt_5068e_0 : decode cJ0_charAt_5068e 0 = .ok (.aload_n 0, 1) := by decide +kernel
theorem dJ0_charAt_5068e_1 : decode cJ0_charAt_5068e 1 = .ok (.invokevirtual 492, 3) := by decide +kernel
theorem dJ0_charAt_5068e_4 : decode cJ0_charAt_5068e 4 = .ok (.ifCond .eq 12, 3) := by decide +kernel
theorem dJ0_charAt_5068e_7 : decode cJ0_charAt_5068e 7 = .ok (.aload_n 0, 1) := by decide +kernel
theorem dJ0_charAt_5068e_8 : decode cJ0_charAt_5068e 8 = .ok (.getfield 9, 3) := by decide +kernel
theorem dJ0_charAt_5068e_11 : decode cJ0_charAt_5068e 11 = .ok (.iload_n 1, 1) := by decide +kernel
theorem dJ0_charAt_5068e_12 : decode cJ0_charAt_5068e 12 = .ok (.invokestatic 495, 3) := by decide +kernel
theorem dJ0_charAt_5068e_15 : decode cJ0_charAt_5068e 15 = .ok (.ireturn, 1) := by decide +kernel
theorem dJ0_charAt_5068e_16 : decode cJ0_charAt_5068e 16 = .ok (.aload_n 0, 1) := by decide +kernel
theorem dJ0_charAt_5068e_17 : decode cJ0_charAt_5068e 17 = .ok (.getfield 9, 3) := by decide +kernel
theorem dJ0_charAt_5068e_20 : decode cJ0_charAt_5068e 20 = .ok (.iload_n 1, 1) := by decide +kernel
theorem dJ0_charAt_5068e_21 : decode cJ0_charAt_5068e 21 = .ok (.invokestatic 498, 3) := by decide +kernel
theorem dJ0_charAt_5068e_24 : decode cJ0_charAt_5068e 24 = .ok (.ireturn, 1) := by decide +kernel
theorem dJ0_coder_7d493_0 : decode cJ0_coder_7d493 0 = .ok (.getstatic 38, 3) := by decide +kernel
theorem dJ0_coder_7d493_3 : decode cJ0_coder_7d493 3 = .ok (.ifCond .eq 10, 3) := by decide +kernel
theorem dJ0_coder_7d493_6 : decode cJ0_coder_7d493 6 = .ok (.aload_n 0, 1) := by decide +kernel
theorem dJ0_coder_7d493_7 : decode cJ0_coder_7d493 7 = .ok (.getfield 15, 3) := by decide +kernel
theorem dJ0_coder_7d493_10 : decode cJ0_coder_7d493 10 = .ok (.goto 4, 3) := by decide +kernel
theorem dJ0_coder_7d493_13 : decode cJ0_coder_7d493 13 = .ok (.iconst 1, 1) := by decide +kernel
theorem dJ0_coder_7d493_14 : decode cJ0_coder_7d493 14 = .ok (.ireturn, 1) := by decide +kernel
theorem dJ0_isLatin1_aae02_0 : decode cJ0_isLatin1_aae02 0 = .ok (.getstatic 38, 3) := by decide +kernel
theorem dJ0_isLatin1_aae02_3 : decode cJ0_isLatin1_aae02 3 = .ok (.ifCond .eq 14, 3) := by decide +kernel
theorem dJ0_isLatin1_aae02_6 : decode cJ0_isLatin1_aae02 6 = .ok (.aload_n 0, 1) := by decide +kernel
theorem dJ0_isLatin1_aae02_7 : decode cJ0_isLatin1_aae02 7 = .ok (.getfield 15, 3) := by decide +kernel
theorem dJ0_isLatin1_aae02_10 : decode cJ0_isLatin1_aae02 10 = .ok (.ifCond .ne 7, 3) := by decide +kernel
theorem dJ0_isLatin1_aae02_13 : decode cJ0_isLatin1_aae02 13 = .ok (.iconst 1, 1) := by decide +kernel
theorem dJ0_isLatin1_aae02_14 : decode cJ0_isLatin1_aae02 14 = .ok (.goto 4, 3) := by decide +kernel
theorem dJ0_isLatin1_aae02_17 : decode cJ0_isLatin1_aae02 17 = .ok (.iconst 0, 1) := by decide +kernel
theorem dJ0_isLatin1_aae02_18 : decode cJ0_isLatin1_aae02 18 = .ok (.ireturn, 1) := by decide +kernel
theorem dJ0_checkIndex_df160_0 : decode cJ0_checkIndex_df160 0 = .ok (.iload_n 0, 1) := by decide +kernel
theorem dJ0_checkIndex_df160_1 : decode cJ0_checkIndex_df160 1 = .ok (.iload_n 1, 1) := by decide +kernel
theorem dJ0_checkIndex_df160_2 : decode cJ0_checkIndex_df160 2 = .ok (.getstatic 1053, 3) := by decide +kernel
theorem dJ0_checkIndex_df160_5 : decode cJ0_checkIndex_df160 5 = .ok (.invokestatic 1059, 3) := by decide +kernel
theorem dJ0_checkIndex_df160_8 : decode cJ0_checkIndex_df160 8 = .ok (.pop, 1) := by decide +kernel
theorem dJ0_checkIndex_df160_9 : decode cJ0_checkIndex_df160 9 = .ok (.return_, 1) := by decide +kernel
theorem dJ1_charAt_3b067_0 : decode cJ1_charAt_3b067 0 = .ok (.iload_n 1, 1) := by decide +kernel
theorem dJ1_charAt_3b067_1 : decode cJ1_charAt_3b067 1 = .ok (.aload_n 0, 1) := by decide +kernel
theorem dJ1_charAt_3b067_2 : decode cJ1_charAt_3b067 2 = .ok (.arraylength, 1) := by decide +kernel
theorem dJ1_charAt_3b067_3 : decode cJ1_charAt_3b067 3 = .ok (.invokestatic 9, 3) := by decide +kernel
theorem dJ1_charAt_3b067_6 : decode cJ1_charAt_3b067 6 = .ok (.aload_n 0, 1) := by decide +kernel
theorem dJ1_charAt_3b067_7 : decode cJ1_charAt_3b067 7 = .ok (.iload_n 1, 1) := by decide +kernel
theorem dJ1_charAt_3b067_8 : decode cJ1_charAt_3b067 8 = .ok (.baload, 1) := by decide +kernel
theorem dJ1_charAt_3b067_9 : decode cJ1_charAt_3b067 9 = .ok (.sipush 255, 3) := by decide +kernel
theorem dJ1_charAt_3b067_12 : decode cJ1_charAt_3b067 12 = .ok (.iand, 1) := by decide +kernel
theorem dJ1_charAt_3b067_13 : decode cJ1_charAt_3b067 13 = .ok (.i2c, 1) := by decide +kernel
theorem dJ1_charAt_3b067_14 : decode cJ1_charAt_3b067 14 = .ok (.ireturn, 1) := by decide +kernel
theorem dJ2_getChar_3b067_0 : decode cJ2_getChar_3b067 0 = .ok (.getstatic 44, 3) := by decide +kernel
theorem dJ2_getChar_3b067_3 : decode cJ2_getChar_3b067 3 = .ok (.ifCond .ne 25, 3) := by decide +kernel
theorem dJ2_getChar_3b067_6 : decode cJ2_getChar_3b067 6 = .ok (.iload_n 1, 1) := by decide +kernel
theorem dJ2_getChar_3b067_7 : decode cJ2_getChar_3b067 7 = .ok (.ifCond .lt 11, 3) := by decide +kernel
theorem dJ2_getChar_3b067_10 : decode cJ2_getChar_3b067 10 = .ok (.iload_n 1, 1) := by decide +kernel
theorem dJ2_getChar_3b067_11 : decode cJ2_getChar_3b067 11 = .ok (.aload_n 0, 1) := by decide +kernel
theorem dJ2_getChar_3b067_12 : decode cJ2_getChar_3b067 12 = .ok (.invokestatic 48, 3) := by decide +kernel
theorem dJ2_getChar_3b067_15 : decode cJ2_getChar_3b067 15 = .ok (.if_icmp .lt 13, 3) := by decide +kernel
theorem dJ2_getChar_3b067_18 : decode cJ2_getChar_3b067 18 = .ok (.new 52, 3) := by decide +kernel
theorem dJ2_getChar_3b067_21 : decode cJ2_getChar_3b067 21 = .ok (.dup, 1) := by decide +kernel
theorem dJ2_getChar_3b067_22 : decode cJ2_getChar_3b067 22 = .ok (.ldc 54, 2) := by decide +kernel
theorem dJ2_getChar_3b067_24 : decode cJ2_getChar_3b067 24 = .ok (.invokespecial 56, 3) := by decide +kernel
theorem dJ2_getChar_3b067_27 : decode cJ2_getChar_3b067 27 = .ok (.athrow, 1) := by decide +kernel
theorem dJ2_getChar_3b067_28 : decode cJ2_getChar_3b067 28 = .ok (.iload_n 1, 1) := by decide +kernel
theorem dJ2_getChar_3b067_29 : decode cJ2_getChar_3b067 29 = .ok (.iconst 1, 1) := by decide +kernel
theorem dJ2_getChar_3b067_30 : decode cJ2_getChar_3b067 30 = .ok (.ishl, 1) := by decide +kernel
theorem dJ2_getChar_3b067_31 : decode cJ2_getChar_3b067 31 = .ok (.istore_n 1, 1) := by decide +kernel
theorem dJ2_getChar_3b067_32 : decode cJ2_getChar_3b067 32 = .ok (.aload_n 0, 1) := by decide +kernel
theorem dJ2_getChar_3b067_33 : decode cJ2_getChar_3b067 33 = .ok (.iload_n 1, 1) := by decide +kernel
theorem dJ2_getChar_3b067_34 : decode cJ2_getChar_3b067 34 = .ok (.iinc 1 1, 3) := by decide +kernel
theorem dJ2_getChar_3b067_37 : decode cJ2_getChar_3b067 37 = .ok (.baload, 1) := by decide +kernel
theorem dJ2_getChar_3b067_38 : decode cJ2_getChar_3b067 38 = .ok (.sipush 255, 3) := by decide +kernel
theorem dJ2_getChar_3b067_41 : decode cJ2_getChar_3b067 41 = .ok (.iand, 1) := by decide +kernel
theorem dJ2_getChar_3b067_42 : decode cJ2_getChar_3b067 42 = .ok (.getstatic 59, 3) := by decide +kernel
theorem dJ2_getChar_3b067_45 : decode cJ2_getChar_3b067 45 = .ok (.ishl, 1) := by decide +kernel
theorem dJ2_getChar_3b067_46 : decode cJ2_getChar_3b067 46 = .ok (.aload_n 0, 1) := by decide +kernel
theorem dJ2_getChar_3b067_47 : decode cJ2_getChar_3b067 47 = .ok (.iload_n 1, 1) := by decide +kernel
theorem dJ2_getChar_3b067_48 : decode cJ2_getChar_3b067 48 = .ok (.baload, 1) := by decide +kernel
theorem dJ2_getChar_3b067_49 : decode cJ2_getChar_3b067 49 = .ok (.sipush 255, 3) := by decide +kernel
theorem dJ2_getChar_3b067_52 : decode cJ2_getChar_3b067 52 = .ok (.iand, 1) := by decide +kernel
theorem dJ2_getChar_3b067_53 : decode cJ2_getChar_3b067 53 = .ok (.getstatic 63, 3) := by decide +kernel
theorem dJ2_getChar_3b067_56 : decode cJ2_getChar_3b067 56 = .ok (.ishl, 1) := by decide +kernel
theorem dJ2_getChar_3b067_57 : decode cJ2_getChar_3b067 57 = .ok (.ior, 1) := by decide +kernel
theorem dJ2_getChar_3b067_58 : decode cJ2_getChar_3b067 58 = .ok (.i2c, 1) := by decide +kernel
theorem dJ2_getChar_3b067_59 : decode cJ2_getChar_3b067 59 = .ok (.ireturn, 1) := by decide +kernel
theorem dJ2_length_9d52b_0 : decode cJ2_length_9d52b 0 = .ok (.aload_n 0, 1) := by decide +kernel
theorem dJ2_length_9d52b_1 : decode cJ2_length_9d52b 1 = .ok (.arraylength, 1) := by decide +kernel
theorem dJ2_length_9d52b_2 : decode cJ2_length_9d52b 2 = .ok (.iconst 1, 1) := by decide +kernel
theorem dJ2_length_9d52b_3 : decode cJ2_length_9d52b 3 = .ok (.ishr, 1) := by decide +kernel
theorem dJ2_length_9d52b_4 : decode cJ2_length_9d52b 4 = .ok (.ireturn, 1) := by decide +kernel
theorem dJ2_charAt_3b067_0 : decode cJ2_charAt_3b067 0 = .ok (.iload_n 1, 1) := by decide +kernel
theorem dJ2_charAt_3b067_1 : decode cJ2_charAt_3b067 1 = .ok (.aload_n 0, 1) := by decide +kernel
theorem dJ2_charAt_3b067_2 : decode cJ2_charAt_3b067 2 = .ok (.invokestatic 67, 3) := by decide +kernel
theorem dJ2_charAt_3b067_5 : decode cJ2_charAt_3b067 5 = .ok (.aload_n 0, 1) := by decide +kernel
theorem dJ2_charAt_3b067_6 : decode cJ2_charAt_3b067 6 = .ok (.iload_n 1, 1) := by decide +kernel
theorem dJ2_charAt_3b067_7 : decode cJ2_charAt_3b067 7 = .ok (.invokestatic 71, 3) := by decide +kernel
theorem dJ2_charAt_3b067_10 : decode cJ2_charAt_3b067 10 = .ok (.ireturn, 1) := by decide +kernel
theorem dJ2_checkIndex_2214a_0 : decode cJ2_checkIndex_2214a 0 = .ok (.iload_n 0, 1) := by decide +kernel
theorem dJ2_checkIndex_2214a_1 : decode cJ2_checkIndex_2214a 1 = .ok (.aload_n 1, 1) := by decide +kernel
theorem dJ2_checkIndex_2214a_2 : decode cJ2_checkIndex_2214a 2 = .ok (.invokestatic 48, 3) := by decide +kernel
theorem dJ2_checkIndex_2214a_5 : decode cJ2_checkIndex_2214a 5 = .ok (.invokestatic 414, 3) := by decide +kernel
theorem dJ2_checkIndex_2214a_8 : decode cJ2_checkIndex_2214a 8 = .ok (.return_, 1) := by decide +kernel
theorem dJ3_checkIndex_8e157_0 : decode cJ3_checkIndex_8e157 0 = .ok (.iload_n 0, 1) := by decide +kernel
theorem dJ3_checkIndex_8e157_1 : decode cJ3_checkIndex_8e157 1 = .ok (.ifCond .lt 8, 3) := by decide +kernel
theorem dJ3_checkIndex_8e157_4 : decode cJ3_checkIndex_8e157 4 = .ok (.iload_n 0, 1) := by decide +kernel
theorem dJ3_checkIndex_8e157_5 : decode cJ3_checkIndex_8e157 5 = .ok (.iload_n 1, 1) := by decide +kernel
theorem dJ3_checkIndex_8e157_6 : decode cJ3_checkIndex_8e157 6 = .ok (.if_icmp .lt 10, 3) := by decide +kernel
theorem dJ3_checkIndex_8e157_9 : decode cJ3_checkIndex_8e157 9 = .ok (.aload_n 2, 1) := by decide +kernel
theorem dJ3_checkIndex_8e157_10 : decode cJ3_checkIndex_8e157 10 = .ok (.iload_n 0, 1) := by decide +kernel
theorem dJ3_checkIndex_8e157_11 : decode cJ3_checkIndex_8e157 11 = .ok (.iload_n 1, 1) := by decide +kernel
theorem dJ3_checkIndex_8e157_12 : decode cJ3_checkIndex_8e157 12 = .ok (.invokestatic 95, 3) := by decide +kernel
theorem dJ3_checkIndex_8e157_15 : decode cJ3_checkIndex_8e157 15 = .ok (.athrow, 1) := by decide +kernel
theorem dJ3_checkIndex_8e157_16 : decode cJ3_checkIndex_8e157 16 = .ok (.iload_n 0, 1) := by decide +kernel
theorem dJ3_checkIndex_8e157_17 : decode cJ3_checkIndex_8e157 17 = .ok (.ireturn, 1) := by decide +kernel
