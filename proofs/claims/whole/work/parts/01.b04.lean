theorem dX11_readEntry_6 : decode cX11_readEntry 6 = .ok (.ldc 145, 2) := by decide +kernel
theorem dX11_readEntry_8 : decode cX11_readEntry 8 = .ok (.if_icmp .eq 17, 3) := by decide +kernel
theorem dX11_readEntry_11 : decode cX11_readEntry 11 = .ok (.aload_n 0, 1) := by decide +kernel
theorem dX11_readEntry_12 : decode cX11_readEntry 12 = .ok (.getfield 230, 3) := by decide +kernel
theorem dX11_readEntry_15 : decode cX11_readEntry 15 = .ok (.bipush 40, 2) := by decide +kernel
theorem dX11_readEntry_17 : decode cX11_readEntry 17 = .ok (.if_icmp .ne 8, 3) := by decide +kernel
theorem dX11_readEntry_20 : decode cX11_readEntry 20 = .ok (.aload_n 0, 1) := by decide +kernel
theorem dX11_readEntry_21 : decode cX11_readEntry 21 = .ok (.iconst 3, 1) := by decide +kernel
theorem dX11_readEntry_22 : decode cX11_readEntry 22 = .ok (.invokevirtual 205, 3) := by decide +kernel
theorem dX11_readEntry_25 : decode cX11_readEntry 25 = .ok (.aload_n 0, 1) := by decide +kernel
theorem dX11_readEntry_26 : decode cX11_readEntry 26 = .ok (.iload_n 2, 1) := by decide +kernel
theorem dX11_readEntry_27 : decode cX11_readEntry 27 = .ok (.ldc 145, 2) := by decide +kernel
theorem dX11_readEntry_29 : decode cX11_readEntry 29 = .ok (.if_icmp .eq 7, 3) := by decide +kernel
theorem dX11_readEntry_32 : decode cX11_readEntry 32 = .ok (.iconst 1, 1) := by decide +kernel
theorem dX11_readEntry_33 : decode cX11_readEntry 33 = .ok (.goto 4, 3) := by decide +kernel
theorem dX11_readEntry_36 : decode cX11_readEntry 36 = .ok (.iconst 0, 1) := by decide +kernel
theorem dX11_readEntry_37 : decode cX11_readEntry 37 = .ok (.invokevirtual 212, 3) := by decide +kernel
theorem dX11_readEntry_40 : decode cX11_readEntry 40 = .ok (.aload_n 0, 1) := by decide +kernel
theorem dX11_readEntry_41 : decode cX11_readEntry 41 = .ok (.aload_n 0, 1) := by decide +kernel
theorem dX11_readEntry_42 : decode cX11_readEntry 42 = .ok (.getfield 150, 3) := by decide +kernel
theorem dX11_readEntry_45 : decode cX11_readEntry 45 = .ok (.iconst 1, 1) := by decide +kernel
theorem dX11_readEntry_46 : decode cX11_readEntry 46 = .ok (.isub, 1) := by decide +kernel
theorem dX11_readEntry_47 : decode cX11_readEntry 47 = .ok (.invokevirtual 233, 3) := by decide +kernel
theorem dX11_readEntry_50 : decode cX11_readEntry 50 = .ok (.istore_n 3, 1) := by decide +kernel
theorem dX11_readEntry_51 : decode cX11_readEntry 51 = .ok (.aload_n 0, 1) := by decide +kernel
theorem dX11_readEntry_52 : decode cX11_readEntry 52 = .ok (.iload_n 2, 1) := by decide +kernel
theorem dX11_readEntry_53 : decode cX11_readEntry 53 = .ok (.iconst 1, 1) := by decide +kernel
theorem dX11_readEntry_54 : decode cX11_readEntry 54 = .ok (.if_icmp .ne 9, 3) := by decide +kernel
theorem dX11_readEntry_57 : decode cX11_readEntry 57 = .ok (.sipush 255, 3) := by decide +kernel
theorem dX11_readEntry_60 : decode cX11_readEntry 60 = .ok (.goto 5, 3) := by decide +kernel
theorem dX11_readEntry_63 : decode cX11_readEntry 63 = .ok (.bipush 100, 2) := by decide +kernel
theorem dX11_readEntry_65 : decode cX11_readEntry 65 = .ok (.invokevirtual 233, 3) := by decide +kernel
theorem dX11_readEntry_68 : decode cX11_readEntry 68 = .ok (.istore 4, 2) := by decide +kernel
theorem dX11_readEntry_70 : decode cX11_readEntry 70 = .ok (.aload_n 0, 1) := by decide +kernel
theorem dX11_readEntry_71 : decode cX11_readEntry 71 = .ok (.getfield 199, 3) := by decide +kernel
theorem dX11_readEntry_74 : decode cX11_readEntry 74 = .ok (.ifCond .ne 54, 3) := by decide +kernel
theorem dX11_readEntry_77 : decode cX11_readEntry 77 = .ok (.aload_n 0, 1) := by decide +kernel
theorem dX11_readEntry_78 : decode cX11_readEntry 78 = .ok (.getfield 41, 3) := by decide +kernel
theorem dX11_readEntry_81 : decode cX11_readEntry 81 = .ok (.aload_n 0, 1) := by decide +kernel
theorem dX11_readEntry_82 : decode cX11_readEntry 82 = .ok (.getfield 230, 3) := by decide +kernel
theorem dX11_readEntry_85 : decode cX11_readEntry 85 = .ok (.iload_n 1, 1) := by decide +kernel
theorem dX11_readEntry_86 : decode cX11_readEntry 86 = .ok (.iastore, 1) := by decide +kernel
theorem dX11_readEntry_87 : decode cX11_readEntry 87 = .ok (.aload_n 0, 1) := by decide +kernel
theorem dX11_readEntry_88 : decode cX11_readEntry 88 = .ok (.getfield 44, 3) := by decide +kernel
theorem dX11_readEntry_91 : decode cX11_readEntry 91 = .ok (.aload_n 0, 1) := by decide +kernel
theorem dX11_readEntry_92 : decode cX11_readEntry 92 = .ok (.getfield 230, 3) := by decide +kernel
theorem dX11_readEntry_95 : decode cX11_readEntry 95 = .ok (.iload_n 2, 1) := by decide +kernel
theorem dX11_readEntry_96 : decode cX11_readEntry 96 = .ok (.iastore, 1) := by decide +kernel
theorem dX11_readEntry_97 : decode cX11_readEntry 97 = .ok (.aload_n 0, 1) := by decide +kernel
theorem dX11_readEntry_98 : decode cX11_readEntry 98 = .ok (.getfield 47, 3) := by decide +kernel
theorem dX11_readEntry_101 : decode cX11_readEntry 101 = .ok (.aload_n 0, 1) := by decide +kernel
theorem dX11_readEntry_102 : decode cX11_readEntry 102 = .ok (.getfield 230, 3) := by decide +kernel
theorem dX11_readEntry_105 : decode cX11_readEntry 105 = .ok (.iload_n 3, 1) := by decide +kernel
theorem dX11_readEntry_106 : decode cX11_readEntry 106 = .ok (.iastore, 1) := by decide +kernel
theorem dX11_readEntry_107 : decode cX11_readEntry 107 = .ok (.aload_n 0, 1) := by decide +kernel
theorem dX11_readEntry_108 : decode cX11_readEntry 108 = .ok (.getfield 50, 3) := by decide +kernel
theorem dX11_readEntry_111 : decode cX11_readEntry 111 = .ok (.aload_n 0, 1) := by decide +kernel
theorem dX11_readEntry_112 : decode cX11_readEntry 112 = .ok (.getfield 230, 3) := by decide +kernel
theorem dX11_readEntry_115 : decode cX11_readEntry 115 = .ok (.iload 4, 2) := by decide +kernel
theorem dX11_readEntry_117 : decode cX11_readEntry 117 = .ok (.iastore, 1) := by decide +kernel
theorem dX11_readEntry_118 : decode cX11_readEntry 118 = .ok (.aload_n 0, 1) := by decide +kernel
theorem dX11_readEntry_119 : decode cX11_readEntry 119 = .ok (.dup, 1) := by decide +kernel
theorem dX11_readEntry_120 : decode cX11_readEntry 120 = .ok (.getfield 230, 3) := by decide +kernel
theorem dX11_readEntry_123 : decode cX11_readEntry 123 = .ok (.iconst 1, 1) := by decide +kernel
theorem dX11_readEntry_124 : decode cX11_readEntry 124 = .ok (.iadd, 1) := by decide +kernel
theorem dX11_readEntry_125 : decode cX11_readEntry 125 = .ok (.putfield 230, 3) := by decide +kernel
theorem dX11_readEntry_128 : decode cX11_readEntry 128 = .ok (.return_, 1) := by decide +kernel
theorem dX11_books_0 : decode cX11_books 0 = .ok (.aload_n 0, 1) := by decide +kernel
theorem dX11_books_1 : decode cX11_books 1 = .ok (.iconst 0, 1) := by decide +kernel
theorem dX11_books_2 : decode cX11_books 2 = .ok (.putfield 113, 3) := by decide +kernel
theorem dX11_books_5 : decode cX11_books 5 = .ok (.aload_n 0, 1) := by decide +kernel
theorem dX11_books_6 : decode cX11_books 6 = .ok (.aload_n 0, 1) := by decide +kernel
theorem dX11_books_7 : decode cX11_books 7 = .ok (.getfield 172, 3) := by decide +kernel
theorem dX11_books_10 : decode cX11_books 10 = .ok (.putfield 175, 3) := by decide +kernel
theorem dX11_books_13 : decode cX11_books 13 = .ok (.aload_n 0, 1) := by decide +kernel
theorem dX11_books_14 : decode cX11_books 14 = .ok (.iconst 0, 1) := by decide +kernel
theorem dX11_books_15 : decode cX11_books 15 = .ok (.putfield 172, 3) := by decide +kernel
theorem dX11_books_18 : decode cX11_books 18 = .ok (.aload_n 0, 1) := by decide +kernel
theorem dX11_books_19 : decode cX11_books 19 = .ok (.iconst 0, 1) := by decide +kernel
theorem dX11_books_20 : decode cX11_books 20 = .ok (.putfield 178, 3) := by decide +kernel
theorem dX11_books_23 : decode cX11_books 23 = .ok (.aload_n 0, 1) := by decide +kernel
theorem dX11_books_24 : decode cX11_books 24 = .ok (.iconst 0, 1) := by decide +kernel
theorem dX11_books_25 : decode cX11_books 25 = .ok (.putfield 199, 3) := by decide +kernel
theorem dX11_books_28 : decode cX11_books 28 = .ok (.aload_n 0, 1) := by decide +kernel
theorem dX11_books_29 : decode cX11_books 29 = .ok (.aload_n 0, 1) := by decide +kernel
theorem dX11_books_30 : decode cX11_books 30 = .ok (.getfield 236, 3) := by decide +kernel
theorem dX11_books_33 : decode cX11_books 33 = .ok (.putfield 230, 3) := by decide +kernel
theorem dX11_books_36 : decode cX11_books 36 = .ok (.aload_n 0, 1) := by decide +kernel
theorem dX11_books_37 : decode cX11_books 37 = .ok (.invokevirtual 209, 3) := by decide +kernel
theorem dX11_books_40 : decode cX11_books 40 = .ok (.aload_n 0, 1) := by decide +kernel
theorem dX11_books_41 : decode cX11_books 41 = .ok (.getfield 199, 3) := by decide +kernel
theorem dX11_books_44 : decode cX11_books 44 = .ok (.ifCond .ne 113, 3) := by decide +kernel
theorem dX11_books_47 : decode cX11_books 47 = .ok (.aload_n 0, 1) := by decide +kernel
theorem dX11_books_48 : decode cX11_books 48 = .ok (.getfield 187, 3) := by decide +kernel
theorem dX11_books_51 : decode cX11_books 51 = .ok (.iconst 1, 1) := by decide +kernel
theorem dX11_books_52 : decode cX11_books 52 = .ok (.if_icmp .eq 105, 3) := by decide +kernel
theorem dX11_books_55 : decode cX11_books 55 = .ok (.aload_n 0, 1) := by decide +kernel
theorem dX11_books_56 : decode cX11_books 56 = .ok (.aload_n 0, 1) := by decide +kernel
theorem dX11_books_57 : decode cX11_books 57 = .ok (.invokevirtual 216, 3) := by decide +kernel
theorem dX11_books_60 : decode cX11_books 60 = .ok (.ldc2_w 239, 3) := by decide +kernel
theorem dX11_books_63 : decode cX11_books 63 = .ok (.lcmp, 1) := by decide +kernel
theorem dX11_books_64 : decode cX11_books 64 = .ok (.ifCond .ne 7, 3) := by decide +kernel
theorem dX11_books_67 : decode cX11_books 67 = .ok (.iconst 1, 1) := by decide +kernel
theorem dX11_books_68 : decode cX11_books 68 = .ok (.goto 4, 3) := by decide +kernel
theorem dX11_books_71 : decode cX11_books 71 = .ok (.iconst 0, 1) := by decide +kernel
theorem dX11_books_72 : decode cX11_books 72 = .ok (.invokevirtual 212, 3) := by decide +kernel
theorem dX11_books_75 : decode cX11_books 75 = .ok (.aload_n 0, 1) := by decide +kernel
theorem dX11_books_76 : decode cX11_books 76 = .ok (.sipush 299, 3) := by decide +kernel
theorem dX11_books_79 : decode cX11_books 79 = .ok (.invokevirtual 233, 3) := by decide +kernel
theorem dX11_books_82 : decode cX11_books 82 = .ok (.istore_n 1, 1) := by decide +kernel
theorem dX11_books_83 : decode cX11_books 83 = .ok (.aload_n 0, 1) := by decide +kernel
theorem dX11_books_84 : decode cX11_books 84 = .ok (.getfield 199, 3) := by decide +kernel
theorem dX11_books_87 : decode cX11_books 87 = .ok (.ifCond .ne 7, 3) := by decide +kernel
theorem dX11_books_90 : decode cX11_books 90 = .ok (.iconst 1, 1) := by decide +kernel
theorem dX11_books_91 : decode cX11_books 91 = .ok (.goto 4, 3) := by decide +kernel
theorem dX11_books_94 : decode cX11_books 94 = .ok (.iconst 0, 1) := by decide +kernel
theorem dX11_books_95 : decode cX11_books 95 = .ok (.istore_n 2, 1) := by decide +kernel
theorem dX11_books_96 : decode cX11_books 96 = .ok (.iload_n 2, 1) := by decide +kernel
theorem dX11_books_97 : decode cX11_books 97 = .ok (.ifCond .eq 33, 3) := by decide +kernel
theorem dX11_books_100 : decode cX11_books 100 = .ok (.aload_n 0, 1) := by decide +kernel
theorem dX11_books_101 : decode cX11_books 101 = .ok (.iload_n 1, 1) := by decide +kernel
theorem dX11_books_102 : decode cX11_books 102 = .ok (.invokevirtual 241, 3) := by decide +kernel
theorem dX11_books_105 : decode cX11_books 105 = .ok (.aload_n 0, 1) := by decide +kernel
theorem dX11_books_106 : decode cX11_books 106 = .ok (.getfield 199, 3) := by decide +kernel
theorem dX11_books_109 : decode cX11_books 109 = .ok (.ifCond .ne 16, 3) := by decide +kernel
theorem dX11_books_112 : decode cX11_books 112 = .ok (.aload_n 0, 1) := by decide +kernel
theorem dX11_books_113 : decode cX11_books 113 = .ok (.invokevirtual 226, 3) := by decide +kernel
theorem dX11_books_116 : decode cX11_books 116 = .ok (.ldc 145, 2) := by decide +kernel
theorem dX11_books_118 : decode cX11_books 118 = .ok (.if_icmp .eq 7, 3) := by decide +kernel
theorem dX11_books_121 : decode cX11_books 121 = .ok (.iconst 1, 1) := by decide +kernel
theorem dX11_books_122 : decode cX11_books 122 = .ok (.goto 4, 3) := by decide +kernel
theorem dX11_books_125 : decode cX11_books 125 = .ok (.iconst 0, 1) := by decide +kernel
theorem dX11_books_126 : decode cX11_books 126 = .ok (.istore_n 2, 1) := by decide +kernel
theorem dX11_books_127 : decode cX11_books 127 = .ok (.goto (-31), 3) := by decide +kernel
theorem dX11_books_130 : decode cX11_books 130 = .ok (.aload_n 0, 1) := by decide +kernel
theorem dX11_books_131 : decode cX11_books 131 = .ok (.getfield 199, 3) := by decide +kernel
theorem dX11_books_134 : decode cX11_books 134 = .ok (.ifCond .ne 20, 3) := by decide +kernel
theorem dX11_books_137 : decode cX11_books 137 = .ok (.aload_n 0, 1) := by decide +kernel
theorem dX11_books_138 : decode cX11_books 138 = .ok (.aload_n 0, 1) := by decide +kernel
theorem dX11_books_139 : decode cX11_books 139 = .ok (.getfield 187, 3) := by decide +kernel
theorem dX11_books_142 : decode cX11_books 142 = .ok (.iconst 4, 1) := by decide +kernel
theorem dX11_books_143 : decode cX11_books 143 = .ok (.if_icmp .ne 7, 3) := by decide +kernel
theorem dX11_books_146 : decode cX11_books 146 = .ok (.iconst 1, 1) := by decide +kernel
theorem dX11_books_147 : decode cX11_books 147 = .ok (.goto 4, 3) := by decide +kernel
theorem dX11_books_150 : decode cX11_books 150 = .ok (.iconst 0, 1) := by decide +kernel
theorem dX11_books_151 : decode cX11_books 151 = .ok (.invokevirtual 212, 3) := by decide +kernel
theorem dX11_books_154 : decode cX11_books 154 = .ok (.goto (-114), 3) := by decide +kernel
theorem dX11_books_157 : decode cX11_books 157 = .ok (.aload_n 0, 1) := by decide +kernel
theorem dX11_books_158 : decode cX11_books 158 = .ok (.getfield 199, 3) := by decide +kernel
theorem dX11_books_161 : decode cX11_books 161 = .ok (.ifCond .le 19, 3) := by decide +kernel
theorem dX11_books_164 : decode cX11_books 164 = .ok (.aload_n 0, 1) := by decide +kernel
theorem dX11_books_165 : decode cX11_books 165 = .ok (.aload_n 0, 1) := by decide +kernel
theorem dX11_books_166 : decode cX11_books 166 = .ok (.getfield 199, 3) := by decide +kernel
theorem dX11_books_169 : decode cX11_books 169 = .ok (.putfield 244, 3) := by decide +kernel
theorem dX11_books_172 : decode cX11_books 172 = .ok (.ldc 247, 2) := by decide +kernel
theorem dX11_books_174 : decode cX11_books 174 = .ok (.aload_n 0, 1) := by decide +kernel
theorem dX11_books_175 : decode cX11_books 175 = .ok (.getfield 202, 3) := by decide +kernel
theorem dX11_books_178 : decode cX11_books 178 = .ok (.isub, 1) := by decide +kernel
theorem dX11_books_179 : decode cX11_books 179 = .ok (.ireturn, 1) := by decide +kernel
theorem dX11_books_180 : decode cX11_books 180 = .ok (.aload_n 0, 1) := by decide +kernel
theorem dX11_books_181 : decode cX11_books 181 = .ok (.aload_n 0, 1) := by decide +kernel
theorem dX11_books_182 : decode cX11_books 182 = .ok (.getfield 230, 3) := by decide +kernel
theorem dX11_books_185 : decode cX11_books 185 = .ok (.putfield 236, 3) := by decide +kernel
theorem dX11_books_188 : decode cX11_books 188 = .ok (.aload_n 0, 1) := by decide +kernel
theorem dX11_books_189 : decode cX11_books 189 = .ok (.getfield 236, 3) := by decide +kernel
theorem dX11_books_192 : decode cX11_books 192 = .ok (.ireturn, 1) := by decide +kernel
theorem dX11_fault_0 : decode cX11_fault 0 = .ok (.aload_n 0, 1) := by decide +kernel
theorem dX11_fault_1 : decode cX11_fault 1 = .ok (.iconst 0, 1) := by decide +kernel
theorem dX11_fault_2 : decode cX11_fault 2 = .ok (.putfield 113, 3) := by decide +kernel
theorem dX11_fault_5 : decode cX11_fault 5 = .ok (.aload_n 0, 1) := by decide +kernel
theorem dX11_fault_6 : decode cX11_fault 6 = .ok (.getfield 244, 3) := by decide +kernel
theorem dX11_fault_9 : decode cX11_fault 9 = .ok (.ireturn, 1) := by decide +kernel
theorem dX11_bookWeek_0 : decode cX11_bookWeek 0 = .ok (.aload_n 0, 1) := by decide +kernel
theorem dX11_bookWeek_1 : decode cX11_bookWeek 1 = .ok (.iconst 0, 1) := by decide +kernel
theorem dX11_bookWeek_2 : decode cX11_bookWeek 2 = .ok (.iload_n 1, 1) := by decide +kernel
theorem dX11_bookWeek_3 : decode cX11_bookWeek 3 = .ok (.invokevirtual 146, 3) := by decide +kernel
theorem dX11_bookWeek_6 : decode cX11_bookWeek 6 = .ok (.istore_n 3, 1) := by decide +kernel
theorem dX11_bookWeek_7 : decode cX11_bookWeek 7 = .ok (.iload_n 3, 1) := by decide +kernel
theorem dX11_bookWeek_8 : decode cX11_bookWeek 8 = .ok (.ldc 145, 2) := by decide +kernel
theorem dX11_bookWeek_10 : decode cX11_bookWeek 10 = .ok (.if_icmp .ne 7, 3) := by decide +kernel
theorem dX11_bookWeek_13 : decode cX11_bookWeek 13 = .ok (.iconst (-1), 1) := by decide +kernel
theorem dX11_bookWeek_14 : decode cX11_bookWeek 14 = .ok (.goto 9, 3) := by decide +kernel
theorem dX11_bookWeek_17 : decode cX11_bookWeek 17 = .ok (.iload_n 2, 1) := by decide +kernel
theorem dX11_bookWeek_18 : decode cX11_bookWeek 18 = .ok (.iload_n 3, 1) := by decide +kernel
theorem dX11_bookWeek_19 : decode cX11_bookWeek 19 = .ok (.bipush 100, 2) := by decide +kernel
theorem dX11_bookWeek_21 : decode cX11_bookWeek 21 = .ok (.idiv, 1) := by decide +kernel
theorem dX11_bookWeek_22 : decode cX11_bookWeek 22 = .ok (.isub, 1) := by decide +kernel
theorem dX11_bookWeek_23 : decode cX11_bookWeek 23 = .ok (.ireturn, 1) := by decide +kernel
theorem dX11_saidOf_0 : decode cX11_saidOf 0 = .ok (.aload_n 0, 1) := by decide +kernel
theorem dX11_saidOf_1 : decode cX11_saidOf 1 = .ok (.iload_n 1, 1) := by decide +kernel
theorem dX11_saidOf_2 : decode cX11_saidOf 2 = .ok (.iload_n 2, 1) := by decide +kernel
theorem dX11_saidOf_3 : decode cX11_saidOf 3 = .ok (.invokevirtual 248, 3) := by decide +kernel
theorem dX11_saidOf_6 : decode cX11_saidOf 6 = .ok (.istore 5, 2) := by decide +kernel
theorem dX11_saidOf_8 : decode cX11_saidOf 8 = .ok (.ldc 145, 2) := by decide +kernel
theorem dX11_saidOf_10 : decode cX11_saidOf 10 = .ok (.istore 6, 2) := by decide +kernel
theorem dX11_saidOf_12 : decode cX11_saidOf 12 = .ok (.iconst 0, 1) := by decide +kernel
theorem dX11_saidOf_13 : decode cX11_saidOf 13 = .ok (.istore 7, 2) := by decide +kernel
theorem dX11_saidOf_15 : decode cX11_saidOf 15 = .ok (.iload 7, 2) := by decide +kernel
theorem dX11_saidOf_17 : decode cX11_saidOf 17 = .ok (.aload_n 0, 1) := by decide +kernel
theorem dX11_saidOf_18 : decode cX11_saidOf 18 = .ok (.getfield 236, 3) := by decide +kernel
theorem dX11_saidOf_21 : decode cX11_saidOf 21 = .ok (.if_icmp .ge 89, 3) := by decide +kernel
theorem dX11_saidOf_24 : decode cX11_saidOf 24 = .ok (.aload_n 0, 1) := by decide +kernel
theorem dX11_saidOf_25 : decode cX11_saidOf 25 = .ok (.getfield 44, 3) := by decide +kernel
theorem dX11_saidOf_28 : decode cX11_saidOf 28 = .ok (.iload 7, 2) := by decide +kernel
theorem dX11_saidOf_30 : decode cX11_saidOf 30 = .ok (.iaload, 1) := by decide +kernel
theorem dX11_saidOf_31 : decode cX11_saidOf 31 = .ok (.iload 4, 2) := by decide +kernel
theorem dX11_saidOf_33 : decode cX11_saidOf 33 = .ok (.if_icmp .ne 30, 3) := by decide +kernel
theorem dX11_saidOf_36 : decode cX11_saidOf 36 = .ok (.aload_n 0, 1) := by decide +kernel
theorem dX11_saidOf_37 : decode cX11_saidOf 37 = .ok (.getfield 47, 3) := by decide +kernel
theorem dX11_saidOf_40 : decode cX11_saidOf 40 = .ok (.iload 7, 2) := by decide +kernel
theorem dX11_saidOf_42 : decode cX11_saidOf 42 = .ok (.iaload, 1) := by decide +kernel
theorem dX11_saidOf_43 : decode cX11_saidOf 43 = .ok (.iload_n 3, 1) := by decide +kernel
theorem dX11_saidOf_44 : decode cX11_saidOf 44 = .ok (.if_icmp .ne 19, 3) := by decide +kernel
theorem dX11_saidOf_47 : decode cX11_saidOf 47 = .ok (.aload_n 0, 1) := by decide +kernel
theorem dX11_saidOf_48 : decode cX11_saidOf 48 = .ok (.getfield 41, 3) := by decide +kernel
theorem dX11_saidOf_51 : decode cX11_saidOf 51 = .ok (.iload 7, 2) := by decide +kernel
theorem dX11_saidOf_53 : decode cX11_saidOf 53 = .ok (.iaload, 1) := by decide +kernel
theorem dX11_saidOf_54 : decode cX11_saidOf 54 = .ok (.iload 5, 2) := by decide +kernel
theorem dX11_saidOf_56 : decode cX11_saidOf 56 = .ok (.if_icmp .gt 7, 3) := by decide +kernel
theorem dX11_saidOf_59 : decode cX11_saidOf 59 = .ok (.iconst 1, 1) := by decide +kernel
theorem dX11_saidOf_60 : decode cX11_saidOf 60 = .ok (.goto 4, 3) := by decide +kernel
theorem dX11_saidOf_63 : decode cX11_saidOf 63 = .ok (.iconst 0, 1) := by decide +kernel
theorem dX11_saidOf_64 : decode cX11_saidOf 64 = .ok (.istore 8, 2) := by decide +kernel
theorem dX11_saidOf_66 : decode cX11_saidOf 66 = .ok (.iload 8, 2) := by decide +kernel
theorem dX11_saidOf_68 : decode cX11_saidOf 68 = .ok (.ifCond .eq 32, 3) := by decide +kernel
theorem dX11_saidOf_71 : decode cX11_saidOf 71 = .ok (.iload 6, 2) := by decide +kernel
theorem dX11_saidOf_73 : decode cX11_saidOf 73 = .ok (.ldc 145, 2) := by decide +kernel
theorem dX11_saidOf_75 : decode cX11_saidOf 75 = .ok (.if_icmp .eq 20, 3) := by decide +kernel
theorem dX11_saidOf_78 : decode cX11_saidOf 78 = .ok (.aload_n 0, 1) := by decide +kernel
theorem dX11_saidOf_79 : decode cX11_saidOf 79 = .ok (.getfield 41, 3) := by decide +kernel
theorem dX11_saidOf_82 : decode cX11_saidOf 82 = .ok (.iload 7, 2) := by decide +kernel
theorem dX11_saidOf_84 : decode cX11_saidOf 84 = .ok (.iaload, 1) := by decide +kernel
theorem dX11_saidOf_85 : decode cX11_saidOf 85 = .ok (.aload_n 0, 1) := by decide +kernel
theorem dX11_saidOf_86 : decode cX11_saidOf 86 = .ok (.getfield 41, 3) := by decide +kernel
theorem dX11_saidOf_89 : decode cX11_saidOf 89 = .ok (.iload 6, 2) := by decide +kernel
theorem dX11_saidOf_91 : decode cX11_saidOf 91 = .ok (.iaload, 1) := by decide +kernel
theorem dX11_saidOf_92 : decode cX11_saidOf 92 = .ok (.if_icmp .lt 8, 3) := by decide +kernel
theorem dX11_saidOf_95 : decode cX11_saidOf 95 = .ok (.iload 7, 2) := by decide +kernel
theorem dX11_saidOf_97 : decode cX11_saidOf 97 = .ok (.goto 5, 3) := by decide +kernel
theorem dX11_saidOf_100 : decode cX11_saidOf 100 = .ok (.iload 6, 2) := by decide +kernel
theorem dX11_saidOf_102 : decode cX11_saidOf 102 = .ok (.istore 6, 2) := by decide +kernel
theorem dX11_saidOf_104 : decode cX11_saidOf 104 = .ok (.iinc 7 1, 3) := by decide +kernel
theorem dX11_saidOf_107 : decode cX11_saidOf 107 = .ok (.goto (-92), 3) := by decide +kernel
theorem dX11_saidOf_110 : decode cX11_saidOf 110 = .ok (.iload 6, 2) := by decide +kernel
theorem dX11_saidOf_112 : decode cX11_saidOf 112 = .ok (.ldc 145, 2) := by decide +kernel
theorem dX11_saidOf_114 : decode cX11_saidOf 114 = .ok (.if_icmp .ne 8, 3) := by decide +kernel
theorem dX11_saidOf_117 : decode cX11_saidOf 117 = .ok (.ldc 145, 2) := by decide +kernel
theorem dX11_saidOf_119 : decode cX11_saidOf 119 = .ok (.goto 10, 3) := by decide +kernel
theorem dX11_saidOf_122 : decode cX11_saidOf 122 = .ok (.aload_n 0, 1) := by decide +kernel
theorem dX11_saidOf_123 : decode cX11_saidOf 123 = .ok (.getfield 50, 3) := by decide +kernel
theorem dX11_saidOf_126 : decode cX11_saidOf 126 = .ok (.iload 6, 2) := by decide +kernel
theorem dX11_saidOf_128 : decode cX11_saidOf 128 = .ok (.iaload, 1) := by decide +kernel
theorem dX11_saidOf_129 : decode cX11_saidOf 129 = .ok (.ireturn, 1) := by decide +kernel
theorem dX11_offOf_0 : decode cX11_offOf 0 = .ok (.aload_n 0, 1) := by decide +kernel
theorem dX11_offOf_1 : decode cX11_offOf 1 = .ok (.iload_n 1, 1) := by decide +kernel
theorem dX11_offOf_2 : decode cX11_offOf 2 = .ok (.iload_n 2, 1) := by decide +kernel
theorem dX11_offOf_3 : decode cX11_offOf 3 = .ok (.iload_n 3, 1) := by decide +kernel
theorem dX11_offOf_4 : decode cX11_offOf 4 = .ok (.iconst 0, 1) := by decide +kernel
theorem dX11_offOf_5 : decode cX11_offOf 5 = .ok (.invokevirtual 251, 3) := by decide +kernel
theorem dX11_offOf_8 : decode cX11_offOf 8 = .ok (.istore 4, 2) := by decide +kernel
theorem dX11_offOf_10 : decode cX11_offOf 10 = .ok (.iload 4, 2) := by decide +kernel
theorem dX11_offOf_12 : decode cX11_offOf 12 = .ok (.ldc 145, 2) := by decide +kernel
theorem dX11_offOf_14 : decode cX11_offOf 14 = .ok (.if_icmp .ne 7, 3) := by decide +kernel
theorem dX11_offOf_17 : decode cX11_offOf 17 = .ok (.iconst 0, 1) := by decide +kernel
theorem dX11_offOf_18 : decode cX11_offOf 18 = .ok (.goto 5, 3) := by decide +kernel
theorem dX11_offOf_21 : decode cX11_offOf 21 = .ok (.iload 4, 2) := by decide +kernel
theorem dX11_offOf_23 : decode cX11_offOf 23 = .ok (.ireturn, 1) := by decide +kernel
theorem dX11_falsePlates_0 : decode cX11_falsePlates 0 = .ok (.aload_n 0, 1) := by decide +kernel
theorem dX11_falsePlates_1 : decode cX11_falsePlates 1 = .ok (.iload_n 1, 1) := by decide +kernel
theorem dX11_falsePlates_2 : decode cX11_falsePlates 2 = .ok (.iload_n 2, 1) := by decide +kernel
theorem dX11_falsePlates_3 : decode cX11_falsePlates 3 = .ok (.invokevirtual 248, 3) := by decide +kernel
theorem dX11_falsePlates_6 : decode cX11_falsePlates 6 = .ok (.istore 5, 2) := by decide +kernel
theorem dX11_falsePlates_8 : decode cX11_falsePlates 8 = .ok (.iconst 0, 1) := by decide +kernel
theorem dX11_falsePlates_9 : decode cX11_falsePlates 9 = .ok (.istore 6, 2) := by decide +kernel
theorem dX11_falsePlates_11 : decode cX11_falsePlates 11 = .ok (.iconst 0, 1) := by decide +kernel
theorem dX11_falsePlates_12 : decode cX11_falsePlates 12 = .ok (.istore 7, 2) := by decide +kernel
theorem dX11_falsePlates_14 : decode cX11_falsePlates 14 = .ok (.iload 7, 2) := by decide +kernel
theorem dX11_falsePlates_16 : decode cX11_falsePlates 16 = .ok (.aload_n 0, 1) := by decide +kernel
theorem dX11_falsePlates_17 : decode cX11_falsePlates 17 = .ok (.getfield 236, 3) := by decide +kernel
theorem dX11_falsePlates_20 : decode cX11_falsePlates 20 = .ok (.if_icmp .ge 100, 3) := by decide +kernel
theorem dX11_falsePlates_23 : decode cX11_falsePlates 23 = .ok (.aload_n 0, 1) := by decide +kernel
theorem dX11_falsePlates_24 : decode cX11_falsePlates 24 = .ok (.getfield 44, 3) := by decide +kernel
theorem dX11_falsePlates_27 : decode cX11_falsePlates 27 = .ok (.iload 7, 2) := by decide +kernel
theorem dX11_falsePlates_29 : decode cX11_falsePlates 29 = .ok (.iaload, 1) := by decide +kernel
theorem dX11_falsePlates_30 : decode cX11_falsePlates 30 = .ok (.iconst 1, 1) := by decide +kernel
theorem dX11_falsePlates_31 : decode cX11_falsePlates 31 = .ok (.if_icmp .ne 30, 3) := by decide +kernel
theorem dX11_falsePlates_34 : decode cX11_falsePlates 34 = .ok (.aload_n 0, 1) := by decide +kernel
theorem dX11_falsePlates_35 : decode cX11_falsePlates 35 = .ok (.getfield 47, 3) := by decide +kernel
theorem dX11_falsePlates_38 : decode cX11_falsePlates 38 = .ok (.iload 7, 2) := by decide +kernel
theorem dX11_falsePlates_40 : decode cX11_falsePlates 40 = .ok (.iaload, 1) := by decide +kernel
theorem dX11_falsePlates_41 : decode cX11_falsePlates 41 = .ok (.iload_n 3, 1) := by decide +kernel
theorem dX11_falsePlates_42 : decode cX11_falsePlates 42 = .ok (.if_icmp .ne 19, 3) := by decide +kernel
theorem dX11_falsePlates_45 : decode cX11_falsePlates 45 = .ok (.aload_n 0, 1) := by decide +kernel
theorem dX11_falsePlates_46 : decode cX11_falsePlates 46 = .ok (.getfield 41, 3) := by decide +kernel
theorem dX11_falsePlates_49 : decode cX11_falsePlates 49 = .ok (.iload 7, 2) := by decide +kernel
theorem dX11_falsePlates_51 : decode cX11_falsePlates 51 = .ok (.iaload, 1) := by decide +kernel
theorem dX11_falsePlates_52 : decode cX11_falsePlates 52 = .ok (.iload 5, 2) := by decide +kernel
theorem dX11_falsePlates_54 : decode cX11_falsePlates 54 = .ok (.if_icmp .gt 7, 3) := by decide +kernel
theorem dX11_falsePlates_57 : decode cX11_falsePlates 57 = .ok (.iconst 1, 1) := by decide +kernel
theorem dX11_falsePlates_58 : decode cX11_falsePlates 58 = .ok (.goto 4, 3) := by decide +kernel
theorem dX11_falsePlates_61 : decode cX11_falsePlates 61 = .ok (.iconst 0, 1) := by decide +kernel
theorem dX11_falsePlates_62 : decode cX11_falsePlates 62 = .ok (.istore 8, 2) := by decide +kernel
theorem dX11_falsePlates_64 : decode cX11_falsePlates 64 = .ok (.iload 6, 2) := by decide +kernel
theorem dX11_falsePlates_66 : decode cX11_falsePlates 66 = .ok (.iload 8, 2) := by decide +kernel
theorem dX11_falsePlates_68 : decode cX11_falsePlates 68 = .ok (.ifCond .eq 42, 3) := by decide +kernel
theorem dX11_falsePlates_71 : decode cX11_falsePlates 71 = .ok (.iload 4, 2) := by decide +kernel
theorem dX11_falsePlates_73 : decode cX11_falsePlates 73 = .ok (.ldc 145, 2) := by decide +kernel
theorem dX11_falsePlates_75 : decode cX11_falsePlates 75 = .ok (.if_icmp .eq 31, 3) := by decide +kernel
theorem dX11_falsePlates_78 : decode cX11_falsePlates 78 = .ok (.aload_n 0, 1) := by decide +kernel
theorem dX11_falsePlates_79 : decode cX11_falsePlates 79 = .ok (.getfield 62, 3) := by decide +kernel
theorem dX11_falsePlates_82 : decode cX11_falsePlates 82 = .ok (.iload 4, 2) := by decide +kernel
theorem dX11_falsePlates_84 : decode cX11_falsePlates 84 = .ok (.iaload, 1) := by decide +kernel
theorem dX11_falsePlates_85 : decode cX11_falsePlates 85 = .ok (.aload_n 0, 1) := by decide +kernel
theorem dX11_falsePlates_86 : decode cX11_falsePlates 86 = .ok (.getfield 50, 3) := by decide +kernel
theorem dX11_falsePlates_89 : decode cX11_falsePlates 89 = .ok (.iload 7, 2) := by decide +kernel
theorem dX11_falsePlates_91 : decode cX11_falsePlates 91 = .ok (.iaload, 1) := by decide +kernel
theorem dX11_falsePlates_92 : decode cX11_falsePlates 92 = .ok (.ixor, 1) := by decide +kernel
theorem dX11_falsePlates_93 : decode cX11_falsePlates 93 = .ok (.aload_n 0, 1) := by decide +kernel
theorem dX11_falsePlates_94 : decode cX11_falsePlates 94 = .ok (.getfield 65, 3) := by decide +kernel
theorem dX11_falsePlates_97 : decode cX11_falsePlates 97 = .ok (.iload 4, 2) := by decide +kernel
theorem dX11_falsePlates_99 : decode cX11_falsePlates 99 = .ok (.iaload, 1) := by decide +kernel
theorem dX11_falsePlates_100 : decode cX11_falsePlates 100 = .ok (.iconst (-1), 1) := by decide +kernel
theorem dX11_falsePlates_101 : decode cX11_falsePlates 101 = .ok (.ixor, 1) := by decide +kernel
theorem dX11_falsePlates_102 : decode cX11_falsePlates 102 = .ok (.iand, 1) := by decide +kernel
theorem dX11_falsePlates_103 : decode cX11_falsePlates 103 = .ok (.ifCond .ne 7, 3) := by decide +kernel
theorem dX11_falsePlates_106 : decode cX11_falsePlates 106 = .ok (.iconst 1, 1) := by decide +kernel
theorem dX11_falsePlates_107 : decode cX11_falsePlates 107 = .ok (.goto 4, 3) := by decide +kernel
theorem dX11_falsePlates_110 : decode cX11_falsePlates 110 = .ok (.iconst 0, 1) := by decide +kernel
theorem dX11_falsePlates_111 : decode cX11_falsePlates 111 = .ok (.iadd, 1) := by decide +kernel
theorem dX11_falsePlates_112 : decode cX11_falsePlates 112 = .ok (.istore 6, 2) := by decide +kernel
theorem dX11_falsePlates_114 : decode cX11_falsePlates 114 = .ok (.iinc 7 1, 3) := by decide +kernel
theorem dX11_falsePlates_117 : decode cX11_falsePlates 117 = .ok (.goto (-103), 3) := by decide +kernel
theorem dX11_falsePlates_120 : decode cX11_falsePlates 120 = .ok (.iload 6, 2) := by decide +kernel
theorem dX11_falsePlates_122 : decode cX11_falsePlates 122 = .ok (.ireturn, 1) := by decide +kernel
theorem dX11_known_0 : decode cX11_known 0 = .ok (.aload_n 0, 1) := by decide +kernel
theorem dX11_known_1 : decode cX11_known 1 = .ok (.iconst 0, 1) := by decide +kernel
theorem dX11_known_2 : decode cX11_known 2 = .ok (.putfield 113, 3) := by decide +kernel
theorem dX11_known_5 : decode cX11_known 5 = .ok (.iload_n 1, 1) := by decide +kernel
theorem dX11_known_6 : decode cX11_known 6 = .ok (.invokestatic 140, 3) := by decide +kernel
theorem dX11_known_9 : decode cX11_known 9 = .ok (.ifCond .eq 31, 3) := by decide +kernel
theorem dX11_known_12 : decode cX11_known 12 = .ok (.iload_n 2, 1) := by decide +kernel
theorem dX11_known_13 : decode cX11_known 13 = .ok (.invokestatic 255, 3) := by decide +kernel
theorem dX11_known_16 : decode cX11_known 16 = .ok (.ifCond .eq 24, 3) := by decide +kernel
theorem dX11_known_19 : decode cX11_known 19 = .ok (.aload_n 0, 1) := by decide +kernel
theorem dX11_known_20 : decode cX11_known 20 = .ok (.iload_n 3, 1) := by decide +kernel
theorem dX11_known_21 : decode cX11_known 21 = .ok (.invokevirtual 158, 3) := by decide +kernel
theorem dX11_known_24 : decode cX11_known 24 = .ok (.ifCond .eq 16, 3) := by decide +kernel
theorem dX11_known_27 : decode cX11_known 27 = .ok (.iload 4, 2) := by decide +kernel
theorem dX11_known_29 : decode cX11_known 29 = .ok (.i2l, 1) := by decide +kernel
theorem dX11_known_30 : decode cX11_known 30 = .ok (.lconst 0, 1) := by decide +kernel
theorem dX11_known_31 : decode cX11_known 31 = .ok (.ldc2_w 131, 3) := by decide +kernel
theorem dX11_known_34 : decode cX11_known 34 = .ok (.invokestatic 123, 3) := by decide +kernel
theorem dX11_known_37 : decode cX11_known 37 = .ok (.ifCond .ne 6, 3) := by decide +kernel
theorem dX11_known_40 : decode cX11_known 40 = .ok (.ldc 133, 2) := by decide +kernel
theorem dX11_known_42 : decode cX11_known 42 = .ok (.ireturn, 1) := by decide +kernel
theorem dX11_known_43 : decode cX11_known 43 = .ok (.iload 4, 2) := by decide +kernel
theorem dX11_known_45 : decode cX11_known 45 = .ok (.ifCond .ne 13, 3) := by decide +kernel
theorem dX11_known_48 : decode cX11_known 48 = .ok (.aload_n 0, 1) := by decide +kernel
theorem dX11_known_49 : decode cX11_known 49 = .ok (.iload_n 1, 1) := by decide +kernel
theorem dX11_known_50 : decode cX11_known 50 = .ok (.iload_n 2, 1) := by decide +kernel
theorem dX11_known_51 : decode cX11_known 51 = .ok (.iload_n 3, 1) := by decide +kernel
theorem dX11_known_52 : decode cX11_known 52 = .ok (.invokevirtual 258, 3) := by decide +kernel
theorem dX11_known_55 : decode cX11_known 55 = .ok (.goto 29, 3) := by decide +kernel
theorem dX11_known_58 : decode cX11_known 58 = .ok (.iload 4, 2) := by decide +kernel
theorem dX11_known_60 : decode cX11_known 60 = .ok (.iconst 1, 1) := by decide +kernel
theorem dX11_known_61 : decode cX11_known 61 = .ok (.if_icmp .ne 14, 3) := by decide +kernel
theorem dX11_known_64 : decode cX11_known 64 = .ok (.aload_n 0, 1) := by decide +kernel
theorem dX11_known_65 : decode cX11_known 65 = .ok (.iload_n 1, 1) := by decide +kernel
theorem dX11_known_66 : decode cX11_known 66 = .ok (.iload_n 2, 1) := by decide +kernel
theorem dX11_known_67 : decode cX11_known 67 = .ok (.iload_n 3, 1) := by decide +kernel
theorem dX11_known_68 : decode cX11_known 68 = .ok (.iconst 2, 1) := by decide +kernel
theorem dX11_known_69 : decode cX11_known 69 = .ok (.invokevirtual 251, 3) := by decide +kernel
theorem dX11_known_72 : decode cX11_known 72 = .ok (.goto 12, 3) := by decide +kernel
theorem dX11_known_75 : decode cX11_known 75 = .ok (.aload_n 0, 1) := by decide +kernel
theorem dX11_known_76 : decode cX11_known 76 = .ok (.iload_n 1, 1) := by decide +kernel
theorem dX11_known_77 : decode cX11_known 77 = .ok (.iload_n 2, 1) := by decide +kernel
theorem dX11_known_78 : decode cX11_known 78 = .ok (.iload_n 3, 1) := by decide +kernel
theorem dX11_known_79 : decode cX11_known 79 = .ok (.ldc 145, 2) := by decide +kernel
theorem dX11_known_81 : decode cX11_known 81 = .ok (.invokevirtual 262, 3) := by decide +kernel
theorem dX11_known_84 : decode cX11_known 84 = .ok (.ireturn, 1) := by decide +kernel
theorem dX11_isTrader_0 : decode cX11_isTrader 0 = .ok (.iload_n 0, 1) := by decide +kernel
theorem dX11_isTrader_1 : decode cX11_isTrader 1 = .ok (.i2l, 1) := by decide +kernel
theorem dX11_isTrader_2 : decode cX11_isTrader 2 = .ok (.lconst 0, 1) := by decide +kernel
theorem dX11_isTrader_3 : decode cX11_isTrader 3 = .ok (.ldc2_w 121, 3) := by decide +kernel
theorem dX11_isTrader_6 : decode cX11_isTrader 6 = .ok (.invokestatic 123, 3) := by decide +kernel
theorem dX11_isTrader_9 : decode cX11_isTrader 9 = .ok (.ireturn, 1) := by decide +kernel
theorem dX11_isNote_0 : decode cX11_isNote 0 = .ok (.iload_n 1, 1) := by decide +kernel
theorem dX11_isNote_1 : decode cX11_isNote 1 = .ok (.i2l, 1) := by decide +kernel
theorem dX11_isNote_2 : decode cX11_isNote 2 = .ok (.lconst 0, 1) := by decide +kernel
theorem dX11_isNote_3 : decode cX11_isNote 3 = .ok (.aload_n 0, 1) := by decide +kernel
theorem dX11_isNote_4 : decode cX11_isNote 4 = .ok (.getfield 265, 3) := by decide +kernel
theorem dX11_isNote_7 : decode cX11_isNote 7 = .ok (.iconst 1, 1) := by decide +kernel
theorem dX11_isNote_8 : decode cX11_isNote 8 = .ok (.isub, 1) := by decide +kernel
theorem dX11_isNote_9 : decode cX11_isNote 9 = .ok (.i2l, 1) := by decide +kernel
theorem dX11_isNote_10 : decode cX11_isNote 10 = .ok (.invokestatic 123, 3) := by decide +kernel
theorem dX11_isNote_13 : decode cX11_isNote 13 = .ok (.ireturn, 1) := by decide +kernel
theorem dX11_comeTo_0 : decode cX11_comeTo 0 = .ok (.aload_n 0, 1) := by decide +kernel
theorem dX11_comeTo_1 : decode cX11_comeTo 1 = .ok (.getfield 68, 3) := by decide +kernel
theorem dX11_comeTo_4 : decode cX11_comeTo 4 = .ok (.iload_n 1, 1) := by decide +kernel
theorem dX11_comeTo_5 : decode cX11_comeTo 5 = .ok (.iload_n 2, 1) := by decide +kernel
theorem dX11_comeTo_6 : decode cX11_comeTo 6 = .ok (.iastore, 1) := by decide +kernel
theorem dX11_comeTo_7 : decode cX11_comeTo 7 = .ok (.bipush 12, 2) := by decide +kernel
theorem dX11_comeTo_9 : decode cX11_comeTo 9 = .ok (.iload_n 1, 1) := by decide +kernel
theorem dX11_comeTo_10 : decode cX11_comeTo 10 = .ok (.imul, 1) := by decide +kernel
theorem dX11_comeTo_11 : decode cX11_comeTo 11 = .ok (.aload_n 0, 1) := by decide +kernel
theorem dX11_comeTo_12 : decode cX11_comeTo 12 = .ok (.getfield 86, 3) := by decide +kernel
theorem dX11_comeTo_15 : decode cX11_comeTo 15 = .ok (.iload_n 1, 1) := by decide +kernel
theorem dX11_comeTo_16 : decode cX11_comeTo 16 = .ok (.iaload, 1) := by decide +kernel
theorem dX11_comeTo_17 : decode cX11_comeTo 17 = .ok (.iadd, 1) := by decide +kernel
theorem dX11_comeTo_18 : decode cX11_comeTo 18 = .ok (.istore_n 3, 1) := by decide +kernel
theorem dX11_comeTo_19 : decode cX11_comeTo 19 = .ok (.aload_n 0, 1) := by decide +kernel
theorem dX11_comeTo_20 : decode cX11_comeTo 20 = .ok (.getfield 86, 3) := by decide +kernel
theorem dX11_comeTo_23 : decode cX11_comeTo 23 = .ok (.iload_n 1, 1) := by decide +kernel
theorem dX11_comeTo_24 : decode cX11_comeTo 24 = .ok (.iaload, 1) := by decide +kernel
theorem dX11_comeTo_25 : decode cX11_comeTo 25 = .ok (.bipush 12, 2) := by decide +kernel
theorem dX11_comeTo_27 : decode cX11_comeTo 27 = .ok (.if_icmp .ge 51, 3) := by decide +kernel
theorem dX11_comeTo_30 : decode cX11_comeTo 30 = .ok (.aload_n 0, 1) := by decide +kernel
theorem dX11_comeTo_31 : decode cX11_comeTo 31 = .ok (.getfield 86, 3) := by decide +kernel
theorem dX11_comeTo_34 : decode cX11_comeTo 34 = .ok (.iload_n 1, 1) := by decide +kernel
theorem dX11_comeTo_35 : decode cX11_comeTo 35 = .ok (.iaload, 1) := by decide +kernel
theorem dX11_comeTo_36 : decode cX11_comeTo 36 = .ok (.ifCond .eq 15, 3) := by decide +kernel
theorem dX11_comeTo_39 : decode cX11_comeTo 39 = .ok (.aload_n 0, 1) := by decide +kernel
theorem dX11_comeTo_40 : decode cX11_comeTo 40 = .ok (.getfield 89, 3) := by decide +kernel
theorem dX11_comeTo_43 : decode cX11_comeTo 43 = .ok (.iload_n 3, 1) := by decide +kernel
theorem dX11_comeTo_44 : decode cX11_comeTo 44 = .ok (.iconst 1, 1) := by decide +kernel
theorem dX11_comeTo_45 : decode cX11_comeTo 45 = .ok (.isub, 1) := by decide +kernel
theorem dX11_comeTo_46 : decode cX11_comeTo 46 = .ok (.iaload, 1) := by decide +kernel
theorem dX11_comeTo_47 : decode cX11_comeTo 47 = .ok (.iload_n 2, 1) := by decide +kernel
theorem dX11_comeTo_48 : decode cX11_comeTo 48 = .ok (.if_icmp .eq 30, 3) := by decide +kernel
theorem dX11_comeTo_51 : decode cX11_comeTo 51 = .ok (.aload_n 0, 1) := by decide +kernel
theorem dX11_comeTo_52 : decode cX11_comeTo 52 = .ok (.getfield 89, 3) := by decide +kernel
theorem dX11_comeTo_55 : decode cX11_comeTo 55 = .ok (.iload_n 3, 1) := by decide +kernel
theorem dX11_comeTo_56 : decode cX11_comeTo 56 = .ok (.iload_n 2, 1) := by decide +kernel
theorem dX11_comeTo_57 : decode cX11_comeTo 57 = .ok (.iastore, 1) := by decide +kernel
theorem dX11_comeTo_58 : decode cX11_comeTo 58 = .ok (.aload_n 0, 1) := by decide +kernel
theorem dX11_comeTo_59 : decode cX11_comeTo 59 = .ok (.getfield 92, 3) := by decide +kernel
theorem dX11_comeTo_62 : decode cX11_comeTo 62 = .ok (.iload_n 3, 1) := by decide +kernel
theorem dX11_comeTo_63 : decode cX11_comeTo 63 = .ok (.aload_n 0, 1) := by decide +kernel
theorem dX11_comeTo_64 : decode cX11_comeTo 64 = .ok (.getfield 167, 3) := by decide +kernel
theorem dX11_comeTo_67 : decode cX11_comeTo 67 = .ok (.iastore, 1) := by decide +kernel
theorem dX11_comeTo_68 : decode cX11_comeTo 68 = .ok (.aload_n 0, 1) := by decide +kernel
theorem dX11_comeTo_69 : decode cX11_comeTo 69 = .ok (.getfield 86, 3) := by decide +kernel
theorem dX11_comeTo_72 : decode cX11_comeTo 72 = .ok (.iload_n 1, 1) := by decide +kernel
theorem dX11_comeTo_73 : decode cX11_comeTo 73 = .ok (.dup2, 1) := by decide +kernel
theorem dX11_comeTo_74 : decode cX11_comeTo 74 = .ok (.iaload, 1) := by decide +kernel
theorem dX11_comeTo_75 : decode cX11_comeTo 75 = .ok (.iconst 1, 1) := by decide +kernel
theorem dX11_comeTo_76 : decode cX11_comeTo 76 = .ok (.iadd, 1) := by decide +kernel
theorem dX11_comeTo_77 : decode cX11_comeTo 77 = .ok (.iastore, 1) := by decide +kernel
theorem dX11_comeTo_78 : decode cX11_comeTo 78 = .ok (.return_, 1) := by decide +kernel
theorem dX11_note_0 : decode cX11_note 0 = .ok (.aload_n 0, 1) := by decide +kernel
theorem dX11_note_1 : decode cX11_note 1 = .ok (.iconst 0, 1) := by decide +kernel
theorem dX11_note_2 : decode cX11_note 2 = .ok (.putfield 113, 3) := by decide +kernel
theorem dX11_note_5 : decode cX11_note 5 = .ok (.iload_n 1, 1) := by decide +kernel
theorem dX11_note_6 : decode cX11_note 6 = .ok (.i2l, 1) := by decide +kernel
theorem dX11_note_7 : decode cX11_note 7 = .ok (.lconst 0, 1) := by decide +kernel
theorem dX11_note_8 : decode cX11_note 8 = .ok (.ldc2_w 121, 3) := by decide +kernel
theorem dX11_note_11 : decode cX11_note 11 = .ok (.invokestatic 123, 3) := by decide +kernel
theorem dX11_note_14 : decode cX11_note 14 = .ok (.ifCond .eq 48, 3) := by decide +kernel
theorem dX11_note_17 : decode cX11_note 17 = .ok (.iload_n 2, 1) := by decide +kernel
theorem dX11_note_18 : decode cX11_note 18 = .ok (.i2l, 1) := by decide +kernel
theorem dX11_note_19 : decode cX11_note 19 = .ok (.lconst 1, 1) := by decide +kernel
theorem dX11_note_20 : decode cX11_note 20 = .ok (.ldc2_w 268, 3) := by decide +kernel
theorem dX11_note_23 : decode cX11_note 23 = .ok (.invokestatic 123, 3) := by decide +kernel
theorem dX11_note_26 : decode cX11_note 26 = .ok (.ifCond .eq 36, 3) := by decide +kernel
theorem dX11_note_29 : decode cX11_note 29 = .ok (.iload_n 3, 1) := by decide +kernel
theorem dX11_note_30 : decode cX11_note 30 = .ok (.i2l, 1) := by decide +kernel
theorem dX11_note_31 : decode cX11_note 31 = .ok (.lconst 0, 1) := by decide +kernel
theorem dX11_note_32 : decode cX11_note 32 = .ok (.ldc2_w 155, 3) := by decide +kernel
theorem dX11_note_35 : decode cX11_note 35 = .ok (.invokestatic 123, 3) := by decide +kernel
theorem dX11_note_38 : decode cX11_note 38 = .ok (.ifCond .eq 24, 3) := by decide +kernel
theorem dX11_note_41 : decode cX11_note 41 = .ok (.iload 4, 2) := by decide +kernel
theorem dX11_note_43 : decode cX11_note 43 = .ok (.i2l, 1) := by decide +kernel
theorem dX11_note_44 : decode cX11_note 44 = .ok (.lconst 0, 1) := by decide +kernel
theorem dX11_note_45 : decode cX11_note 45 = .ok (.ldc2_w 155, 3) := by decide +kernel
theorem dX11_note_48 : decode cX11_note 48 = .ok (.invokestatic 123, 3) := by decide +kernel
theorem dX11_note_51 : decode cX11_note 51 = .ok (.ifCond .eq 11, 3) := by decide +kernel
theorem dX11_note_54 : decode cX11_note 54 = .ok (.iload 5, 2) := by decide +kernel
theorem dX11_note_56 : decode cX11_note 56 = .ok (.invokestatic 270, 3) := by decide +kernel
theorem dX11_note_59 : decode cX11_note 59 = .ok (.ifCond .ne 6, 3) := by decide +kernel
theorem dX11_note_62 : decode cX11_note 62 = .ok (.ldc 133, 2) := by decide +kernel
theorem dX11_note_64 : decode cX11_note 64 = .ok (.ireturn, 1) := by decide +kernel
theorem dX11_note_65 : decode cX11_note 65 = .ok (.aload_n 0, 1) := by decide +kernel
theorem dX11_note_66 : decode cX11_note 66 = .ok (.getfield 265, 3) := by decide +kernel
theorem dX11_note_69 : decode cX11_note 69 = .ok (.bipush 24, 2) := by decide +kernel
theorem dX11_note_71 : decode cX11_note 71 = .ok (.if_icmp .ne 6, 3) := by decide +kernel
theorem dX11_note_74 : decode cX11_note 74 = .ok (.ldc 157, 2) := by decide +kernel
theorem dX11_note_76 : decode cX11_note 76 = .ok (.ireturn, 1) := by decide +kernel
theorem dX11_note_77 : decode cX11_note 77 = .ok (.aload_n 0, 1) := by decide +kernel
theorem dX11_note_78 : decode cX11_note 78 = .ok (.getfield 56, 3) := by decide +kernel
theorem dX11_note_81 : decode cX11_note 81 = .ok (.aload_n 0, 1) := by decide +kernel
theorem dX11_note_82 : decode cX11_note 82 = .ok (.getfield 265, 3) := by decide +kernel
theorem dX11_note_85 : decode cX11_note 85 = .ok (.iload_n 1, 1) := by decide +kernel
theorem dX11_note_86 : decode cX11_note 86 = .ok (.iastore, 1) := by decide +kernel
theorem dX11_note_87 : decode cX11_note 87 = .ok (.aload_n 0, 1) := by decide +kernel
theorem dX11_note_88 : decode cX11_note 88 = .ok (.getfield 59, 3) := by decide +kernel
theorem dX11_note_91 : decode cX11_note 91 = .ok (.aload_n 0, 1) := by decide +kernel
theorem dX11_note_92 : decode cX11_note 92 = .ok (.getfield 265, 3) := by decide +kernel
theorem dX11_note_95 : decode cX11_note 95 = .ok (.iload_n 2, 1) := by decide +kernel
theorem dX11_note_96 : decode cX11_note 96 = .ok (.iastore, 1) := by decide +kernel
theorem dX11_note_97 : decode cX11_note 97 = .ok (.aload_n 0, 1) := by decide +kernel
theorem dX11_note_98 : decode cX11_note 98 = .ok (.getfield 62, 3) := by decide +kernel
theorem dX11_note_101 : decode cX11_note 101 = .ok (.aload_n 0, 1) := by decide +kernel
theorem dX11_note_102 : decode cX11_note 102 = .ok (.getfield 265, 3) := by decide +kernel
theorem dX11_note_105 : decode cX11_note 105 = .ok (.iload_n 3, 1) := by decide +kernel
theorem dX11_note_106 : decode cX11_note 106 = .ok (.iastore, 1) := by decide +kernel
theorem dX11_note_107 : decode cX11_note 107 = .ok (.aload_n 0, 1) := by decide +kernel
theorem dX11_note_108 : decode cX11_note 108 = .ok (.getfield 65, 3) := by decide +kernel
theorem dX11_note_111 : decode cX11_note 111 = .ok (.aload_n 0, 1) := by decide +kernel
theorem dX11_note_112 : decode cX11_note 112 = .ok (.getfield 265, 3) := by decide +kernel
theorem dX11_note_115 : decode cX11_note 115 = .ok (.iload 4, 2) := by decide +kernel
theorem dX11_note_117 : decode cX11_note 117 = .ok (.iastore, 1) := by decide +kernel
theorem dX11_note_118 : decode cX11_note 118 = .ok (.aload_n 0, 1) := by decide +kernel
theorem dX11_note_119 : decode cX11_note 119 = .ok (.aload_n 0, 1) := by decide +kernel
theorem dX11_note_120 : decode cX11_note 120 = .ok (.getfield 265, 3) := by decide +kernel
theorem dX11_note_123 : decode cX11_note 123 = .ok (.iload 5, 2) := by decide +kernel
theorem dX11_note_125 : decode cX11_note 125 = .ok (.invokevirtual 273, 3) := by decide +kernel
theorem dX11_note_128 : decode cX11_note 128 = .ok (.aload_n 0, 1) := by decide +kernel
theorem dX11_note_129 : decode cX11_note 129 = .ok (.dup, 1) := by decide +kernel
theorem dX11_note_130 : decode cX11_note 130 = .ok (.getfield 265, 3) := by decide +kernel
theorem dX11_note_133 : decode cX11_note 133 = .ok (.iconst 1, 1) := by decide +kernel
theorem dX11_note_134 : decode cX11_note 134 = .ok (.iadd, 1) := by decide +kernel
theorem dX11_note_135 : decode cX11_note 135 = .ok (.putfield 265, 3) := by decide +kernel
theorem dX11_note_138 : decode cX11_note 138 = .ok (.aload_n 0, 1) := by decide +kernel
theorem dX11_note_139 : decode cX11_note 139 = .ok (.getfield 265, 3) := by decide +kernel
theorem dX11_note_142 : decode cX11_note 142 = .ok (.iconst 1, 1) := by decide +kernel
theorem dX11_note_143 : decode cX11_note 143 = .ok (.isub, 1) := by decide +kernel
theorem dX11_note_144 : decode cX11_note 144 = .ok (.ireturn, 1) := by decide +kernel
theorem dX11_told_0 : decode cX11_told 0 = .ok (.aload_n 0, 1) := by decide +kernel
theorem dX11_told_1 : decode cX11_told 1 = .ok (.iconst 0, 1) := by decide +kernel
theorem dX11_told_2 : decode cX11_told 2 = .ok (.putfield 113, 3) := by decide +kernel
theorem dX11_told_5 : decode cX11_told 5 = .ok (.aload_n 0, 1) := by decide +kernel
theorem dX11_told_6 : decode cX11_told 6 = .ok (.iload_n 1, 1) := by decide +kernel
theorem dX11_told_7 : decode cX11_told 7 = .ok (.invokevirtual 277, 3) := by decide +kernel
theorem dX11_told_10 : decode cX11_told 10 = .ok (.ifCond .eq 15, 3) := by decide +kernel
theorem dX11_told_13 : decode cX11_told 13 = .ok (.iload_n 2, 1) := by decide +kernel
theorem dX11_told_14 : decode cX11_told 14 = .ok (.i2l, 1) := by decide +kernel
theorem dX11_told_15 : decode cX11_told 15 = .ok (.lconst 0, 1) := by decide +kernel
theorem dX11_told_16 : decode cX11_told 16 = .ok (.ldc2_w 280, 3) := by decide +kernel
theorem dX11_told_19 : decode cX11_told 19 = .ok (.invokestatic 123, 3) := by decide +kernel
theorem dX11_told_22 : decode cX11_told 22 = .ok (.ifCond .ne 6, 3) := by decide +kernel
theorem dX11_told_25 : decode cX11_told 25 = .ok (.ldc 133, 2) := by decide +kernel
theorem dX11_told_27 : decode cX11_told 27 = .ok (.ireturn, 1) := by decide +kernel
theorem dX11_told_28 : decode cX11_told 28 = .ok (.iload_n 2, 1) := by decide +kernel
theorem dX11_told_29 : decode cX11_told 29 = .ok (.tableswitch 89 0 5 #[39, 46, 53, 60, 67, 74], 39) := by decide +kernel
theorem dX11_told_68 : decode cX11_told 68 = .ok (.aload_n 0, 1) := by decide +kernel
theorem dX11_told_69 : decode cX11_told 69 = .ok (.getfield 56, 3) := by decide +kernel
theorem dX11_told_72 : decode cX11_told 72 = .ok (.iload_n 1, 1) := by decide +kernel
theorem dX11_told_73 : decode cX11_told 73 = .ok (.iaload, 1) := by decide +kernel
theorem dX11_told_74 : decode cX11_told 74 = .ok (.ireturn, 1) := by decide +kernel
theorem dX11_told_75 : decode cX11_told 75 = .ok (.aload_n 0, 1) := by decide +kernel
theorem dX11_told_76 : decode cX11_told 76 = .ok (.getfield 59, 3) := by decide +kernel
theorem dX11_told_79 : decode cX11_told 79 = .ok (.iload_n 1, 1) := by decide +kernel
theorem dX11_told_80 : decode cX11_told 80 = .ok (.iaload, 1) := by decide +kernel
theorem dX11_told_81 : decode cX11_told 81 = .ok (.ireturn, 1) := by decide +kernel
theorem dX11_told_82 : decode cX11_told 82 = .ok (.aload_n 0, 1) := by decide +kernel
theorem dX11_told_83 : decode cX11_told 83 = .ok (.getfield 62, 3) := by decide +kernel
theorem dX11_told_86 : decode cX11_told 86 = .ok (.iload_n 1, 1) := by decide +kernel
theorem dX11_told_87 : decode cX11_told 87 = .ok (.iaload, 1) := by decide +kernel
theorem dX11_told_88 : decode cX11_told 88 = .ok (.ireturn, 1) := by decide +kernel
theorem dX11_told_89 : decode cX11_told 89 = .ok (.aload_n 0, 1) := by decide +kernel
theorem dX11_told_90 : decode cX11_told 90 = .ok (.getfield 65, 3) := by decide +kernel
theorem dX11_told_93 : decode cX11_told 93 = .ok (.iload_n 1, 1) := by decide +kernel
theorem dX11_told_94 : decode cX11_told 94 = .ok (.iaload, 1) := by decide +kernel
theorem dX11_told_95 : decode cX11_told 95 = .ok (.ireturn, 1) := by decide +kernel
theorem dX11_told_96 : decode cX11_told 96 = .ok (.aload_n 0, 1) := by decide +kernel
theorem dX11_told_97 : decode cX11_told 97 = .ok (.getfield 68, 3) := by decide +kernel
theorem dX11_told_100 : decode cX11_told 100 = .ok (.iload_n 1, 1) := by decide +kernel
theorem dX11_told_101 : decode cX11_told 101 = .ok (.iaload, 1) := by decide +kernel
theorem dX11_told_102 : decode cX11_told 102 = .ok (.ireturn, 1) := by decide +kernel
theorem dX11_told_103 : decode cX11_told 103 = .ok (.aload_n 0, 1) := by decide +kernel
theorem dX11_told_104 : decode cX11_told 104 = .ok (.getfield 71, 3) := by decide +kernel
theorem dX11_told_107 : decode cX11_told 107 = .ok (.iload_n 1, 1) := by decide +kernel
theorem dX11_told_108 : decode cX11_told 108 = .ok (.baload, 1) := by decide +kernel
theorem dX11_told_109 : decode cX11_told 109 = .ok (.ifCond .eq 7, 3) := by decide +kernel
theorem dX11_told_112 : decode cX11_told 112 = .ok (.iconst 1, 1) := by decide +kernel
theorem dX11_told_113 : decode cX11_told 113 = .ok (.goto 4, 3) := by decide +kernel
theorem dX11_told_116 : decode cX11_told 116 = .ok (.iconst 0, 1) := by decide +kernel
theorem dX11_told_117 : decode cX11_told 117 = .ok (.ireturn, 1) := by decide +kernel
theorem dX11_told_118 : decode cX11_told 118 = .ok (.aload_n 0, 1) := by decide +kernel
theorem dX11_told_119 : decode cX11_told 119 = .ok (.getfield 74, 3) := by decide +kernel
theorem dX11_told_122 : decode cX11_told 122 = .ok (.iload_n 1, 1) := by decide +kernel
theorem dX11_told_123 : decode cX11_told 123 = .ok (.baload, 1) := by decide +kernel
theorem dX11_told_124 : decode cX11_told 124 = .ok (.ifCond .eq 7, 3) := by decide +kernel
theorem dX11_told_127 : decode cX11_told 127 = .ok (.iconst 1, 1) := by decide +kernel
theorem dX11_told_128 : decode cX11_told 128 = .ok (.goto 4, 3) := by decide +kernel
theorem dX11_told_131 : decode cX11_told 131 = .ok (.iconst 0, 1) := by decide +kernel
theorem dX11_told_132 : decode cX11_told 132 = .ok (.ireturn, 1) := by decide +kernel
theorem dX11_isGhost_0 : decode cX11_isGhost 0 = .ok (.aload_n 0, 1) := by decide +kernel
theorem dX11_isGhost_1 : decode cX11_isGhost 1 = .ok (.getfield 56, 3) := by decide +kernel
theorem dX11_isGhost_4 : decode cX11_isGhost 4 = .ok (.iload_n 1, 1) := by decide +kernel
theorem dX11_isGhost_5 : decode cX11_isGhost 5 = .ok (.iaload, 1) := by decide +kernel
theorem dX11_isGhost_6 : decode cX11_isGhost 6 = .ok (.aload_n 0, 1) := by decide +kernel
theorem dX11_isGhost_7 : decode cX11_isGhost 7 = .ok (.getfield 150, 3) := by decide +kernel
theorem dX11_isGhost_10 : decode cX11_isGhost 10 = .ok (.if_icmp .lt 7, 3) := by decide +kernel
theorem dX11_isGhost_13 : decode cX11_isGhost 13 = .ok (.iconst 1, 1) := by decide +kernel
theorem dX11_isGhost_14 : decode cX11_isGhost 14 = .ok (.goto 4, 3) := by decide +kernel
theorem dX11_isGhost_17 : decode cX11_isGhost 17 = .ok (.iconst 0, 1) := by decide +kernel
theorem dX11_isGhost_18 : decode cX11_isGhost 18 = .ok (.ireturn, 1) := by decide +kernel
theorem dX11_isFalse_0 : decode cX11_isFalse 0 = .ok (.aload_n 0, 1) := by decide +kernel
theorem dX11_isFalse_1 : decode cX11_isFalse 1 = .ok (.iload_n 1, 1) := by decide +kernel
theorem dX11_isFalse_2 : decode cX11_isFalse 2 = .ok (.invokevirtual 282, 3) := by decide +kernel
theorem dX11_isFalse_5 : decode cX11_isFalse 5 = .ok (.ifCond .ne 33, 3) := by decide +kernel
theorem dX11_isFalse_8 : decode cX11_isFalse 8 = .ok (.aload_n 0, 1) := by decide +kernel
theorem dX11_isFalse_9 : decode cX11_isFalse 9 = .ok (.getfield 62, 3) := by decide +kernel
theorem dX11_isFalse_12 : decode cX11_isFalse 12 = .ok (.iload_n 1, 1) := by decide +kernel
theorem dX11_isFalse_13 : decode cX11_isFalse 13 = .ok (.iaload, 1) := by decide +kernel
theorem dX11_isFalse_14 : decode cX11_isFalse 14 = .ok (.aload_n 0, 1) := by decide +kernel
theorem dX11_isFalse_15 : decode cX11_isFalse 15 = .ok (.getfield 31, 3) := by decide +kernel
theorem dX11_isFalse_18 : decode cX11_isFalse 18 = .ok (.aload_n 0, 1) := by decide +kernel
theorem dX11_isFalse_19 : decode cX11_isFalse 19 = .ok (.getfield 56, 3) := by decide +kernel
theorem dX11_isFalse_22 : decode cX11_isFalse 22 = .ok (.iload_n 1, 1) := by decide +kernel
theorem dX11_isFalse_23 : decode cX11_isFalse 23 = .ok (.iaload, 1) := by decide +kernel
theorem dX11_isFalse_24 : decode cX11_isFalse 24 = .ok (.iaload, 1) := by decide +kernel
theorem dX11_isFalse_25 : decode cX11_isFalse 25 = .ok (.ixor, 1) := by decide +kernel
theorem dX11_isFalse_26 : decode cX11_isFalse 26 = .ok (.aload_n 0, 1) := by decide +kernel
theorem dX11_isFalse_27 : decode cX11_isFalse 27 = .ok (.getfield 65, 3) := by decide +kernel
theorem dX11_isFalse_30 : decode cX11_isFalse 30 = .ok (.iload_n 1, 1) := by decide +kernel
theorem dX11_isFalse_31 : decode cX11_isFalse 31 = .ok (.iaload, 1) := by decide +kernel
theorem dX11_isFalse_32 : decode cX11_isFalse 32 = .ok (.iconst (-1), 1) := by decide +kernel
theorem dX11_isFalse_33 : decode cX11_isFalse 33 = .ok (.ixor, 1) := by decide +kernel
theorem dX11_isFalse_34 : decode cX11_isFalse 34 = .ok (.iand, 1) := by decide +kernel
theorem dX11_isFalse_35 : decode cX11_isFalse 35 = .ok (.ifCond .eq 7, 3) := by decide +kernel
theorem dX11_isFalse_38 : decode cX11_isFalse 38 = .ok (.iconst 1, 1) := by decide +kernel
theorem dX11_isFalse_39 : decode cX11_isFalse 39 = .ok (.goto 4, 3) := by decide +kernel
theorem dX11_isFalse_42 : decode cX11_isFalse 42 = .ok (.iconst 0, 1) := by decide +kernel
theorem dX11_isFalse_43 : decode cX11_isFalse 43 = .ok (.ireturn, 1) := by decide +kernel
theorem dX11_looksLike_0 : decode cX11_looksLike 0 = .ok (.aload_n 0, 1) := by decide +kernel
theorem dX11_looksLike_1 : decode cX11_looksLike 1 = .ok (.iload_n 1, 1) := by decide +kernel
theorem dX11_looksLike_2 : decode cX11_looksLike 2 = .ok (.invokevirtual 285, 3) := by decide +kernel
theorem dX11_looksLike_5 : decode cX11_looksLike 5 = .ok (.ifCond .eq 5, 3) := by decide +kernel
theorem dX11_looksLike_8 : decode cX11_looksLike 8 = .ok (.iconst 0, 1) := by decide +kernel
theorem dX11_looksLike_9 : decode cX11_looksLike 9 = .ok (.ireturn, 1) := by decide +kernel
theorem dX11_looksLike_10 : decode cX11_looksLike 10 = .ok (.aload_n 0, 1) := by decide +kernel
theorem dX11_looksLike_11 : decode cX11_looksLike 11 = .ok (.getfield 56, 3) := by decide +kernel
theorem dX11_looksLike_14 : decode cX11_looksLike 14 = .ok (.iload_n 1, 1) := by decide +kernel
theorem dX11_looksLike_15 : decode cX11_looksLike 15 = .ok (.iaload, 1) := by decide +kernel
theorem dX11_looksLike_16 : decode cX11_looksLike 16 = .ok (.istore 4, 2) := by decide +kernel
theorem dX11_looksLike_18 : decode cX11_looksLike 18 = .ok (.aload_n 0, 1) := by decide +kernel
theorem dX11_looksLike_19 : decode cX11_looksLike 19 = .ok (.getfield 65, 3) := by decide +kernel
theorem dX11_looksLike_22 : decode cX11_looksLike 22 = .ok (.iload_n 1, 1) := by decide +kernel
theorem dX11_looksLike_23 : decode cX11_looksLike 23 = .ok (.iaload, 1) := by decide +kernel
theorem dX11_looksLike_24 : decode cX11_looksLike 24 = .ok (.ifCond .eq 28, 3) := by decide +kernel
theorem dX11_looksLike_27 : decode cX11_looksLike 27 = .ok (.aload_n 0, 1) := by decide +kernel
theorem dX11_looksLike_28 : decode cX11_looksLike 28 = .ok (.iload_n 2, 1) := by decide +kernel
theorem dX11_looksLike_29 : decode cX11_looksLike 29 = .ok (.iload_n 3, 1) := by decide +kernel
theorem dX11_looksLike_30 : decode cX11_looksLike 30 = .ok (.iload 4, 2) := by decide +kernel
theorem dX11_looksLike_32 : decode cX11_looksLike 32 = .ok (.ldc 145, 2) := by decide +kernel
theorem dX11_looksLike_34 : decode cX11_looksLike 34 = .ok (.invokevirtual 262, 3) := by decide +kernel
theorem dX11_looksLike_37 : decode cX11_looksLike 37 = .ok (.ifCond .le 19, 3) := by decide +kernel
theorem dX11_looksLike_40 : decode cX11_looksLike 40 = .ok (.aload_n 0, 1) := by decide +kernel
theorem dX11_looksLike_41 : decode cX11_looksLike 41 = .ok (.iload_n 2, 1) := by decide +kernel
theorem dX11_looksLike_42 : decode cX11_looksLike 42 = .ok (.iload_n 3, 1) := by decide +kernel
theorem dX11_looksLike_43 : decode cX11_looksLike 43 = .ok (.iload 4, 2) := by decide +kernel
theorem dX11_looksLike_45 : decode cX11_looksLike 45 = .ok (.iload_n 1, 1) := by decide +kernel
theorem dX11_looksLike_46 : decode cX11_looksLike 46 = .ok (.invokevirtual 262, 3) := by decide +kernel
theorem dX11_looksLike_49 : decode cX11_looksLike 49 = .ok (.ifCond .ne 7, 3) := by decide +kernel
theorem dX11_looksLike_52 : decode cX11_looksLike 52 = .ok (.iconst 1, 1) := by decide +kernel
theorem dX11_looksLike_53 : decode cX11_looksLike 53 = .ok (.goto 4, 3) := by decide +kernel
theorem dX11_looksLike_56 : decode cX11_looksLike 56 = .ok (.iconst 2, 1) := by decide +kernel
theorem dX11_looksLike_57 : decode cX11_looksLike 57 = .ok (.ireturn, 1) := by decide +kernel
theorem dX11_looks_0 : decode cX11_looks 0 = .ok (.aload_n 0, 1) := by decide +kernel
theorem dX11_looks_1 : decode cX11_looks 1 = .ok (.iconst 0, 1) := by decide +kernel
theorem dX11_looks_2 : decode cX11_looks 2 = .ok (.putfield 113, 3) := by decide +kernel
theorem dX11_looks_5 : decode cX11_looks 5 = .ok (.aload_n 0, 1) := by decide +kernel
theorem dX11_looks_6 : decode cX11_looks 6 = .ok (.iload_n 1, 1) := by decide +kernel
theorem dX11_looks_7 : decode cX11_looks 7 = .ok (.invokevirtual 277, 3) := by decide +kernel
theorem dX11_looks_10 : decode cX11_looks 10 = .ok (.ifCond .eq 17, 3) := by decide +kernel
theorem dX11_looks_13 : decode cX11_looks 13 = .ok (.iload_n 2, 1) := by decide +kernel
theorem dX11_looks_14 : decode cX11_looks 14 = .ok (.invokestatic 140, 3) := by decide +kernel
theorem dX11_looks_17 : decode cX11_looks 17 = .ok (.ifCond .eq 10, 3) := by decide +kernel
theorem dX11_looks_20 : decode cX11_looks 20 = .ok (.iload_n 3, 1) := by decide +kernel
theorem dX11_looks_21 : decode cX11_looks 21 = .ok (.invokestatic 255, 3) := by decide +kernel
theorem dX11_looks_24 : decode cX11_looks 24 = .ok (.ifCond .ne 8, 3) := by decide +kernel
theorem dX11_looks_27 : decode cX11_looks 27 = .ok (.ldc 133, 2) := by decide +kernel
theorem dX11_looks_29 : decode cX11_looks 29 = .ok (.goto 10, 3) := by decide +kernel
theorem dX11_looks_32 : decode cX11_looks 32 = .ok (.aload_n 0, 1) := by decide +kernel
theorem dX11_looks_33 : decode cX11_looks 33 = .ok (.iload_n 1, 1) := by decide +kernel
theorem dX11_looks_34 : decode cX11_looks 34 = .ok (.iload_n 2, 1) := by decide +kernel
theorem dX11_looks_35 : decode cX11_looks 35 = .ok (.iload_n 3, 1) := by decide +kernel
theorem dX11_looks_36 : decode cX11_looks 36 = .ok (.invokevirtual 288, 3) := by decide +kernel
theorem dX11_looks_39 : decode cX11_looks 39 = .ok (.ireturn, 1) := by decide +kernel
theorem dX11_worthOf_0 : decode cX11_worthOf 0 = .ok (.aload_n 0, 1) := by decide +kernel
theorem dX11_worthOf_1 : decode cX11_worthOf 1 = .ok (.iload_n 1, 1) := by decide +kernel
theorem dX11_worthOf_2 : decode cX11_worthOf 2 = .ok (.invokevirtual 285, 3) := by decide +kernel
theorem dX11_worthOf_5 : decode cX11_worthOf 5 = .ok (.ifCond .eq 5, 3) := by decide +kernel
theorem dX11_worthOf_8 : decode cX11_worthOf 8 = .ok (.iconst 0, 1) := by decide +kernel
theorem dX11_worthOf_9 : decode cX11_worthOf 9 = .ok (.ireturn, 1) := by decide +kernel
theorem dX11_worthOf_10 : decode cX11_worthOf 10 = .ok (.aload_n 0, 1) := by decide +kernel
theorem dX11_worthOf_11 : decode cX11_worthOf 11 = .ok (.iload_n 2, 1) := by decide +kernel
theorem dX11_worthOf_12 : decode cX11_worthOf 12 = .ok (.iload_n 3, 1) := by decide +kernel
theorem dX11_worthOf_13 : decode cX11_worthOf 13 = .ok (.aload_n 0, 1) := by decide +kernel
theorem dX11_worthOf_14 : decode cX11_worthOf 14 = .ok (.getfield 56, 3) := by decide +kernel
theorem dX11_worthOf_17 : decode cX11_worthOf 17 = .ok (.iload_n 1, 1) := by decide +kernel
theorem dX11_worthOf_18 : decode cX11_worthOf 18 = .ok (.iaload, 1) := by decide +kernel
theorem dX11_worthOf_19 : decode cX11_worthOf 19 = .ok (.iconst 2, 1) := by decide +kernel
theorem dX11_worthOf_20 : decode cX11_worthOf 20 = .ok (.invokevirtual 251, 3) := by decide +kernel
theorem dX11_worthOf_23 : decode cX11_worthOf 23 = .ok (.istore 4, 2) := by decide +kernel
theorem dX11_worthOf_25 : decode cX11_worthOf 25 = .ok (.iload 4, 2) := by decide +kernel
theorem dX11_worthOf_27 : decode cX11_worthOf 27 = .ok (.ldc 145, 2) := by decide +kernel
theorem dX11_worthOf_29 : decode cX11_worthOf 29 = .ok (.if_icmp .eq 13, 3) := by decide +kernel
theorem dX11_worthOf_32 : decode cX11_worthOf 32 = .ok (.aload_n 0, 1) := by decide +kernel
theorem dX11_worthOf_33 : decode cX11_worthOf 33 = .ok (.getfield 59, 3) := by decide +kernel
theorem dX11_worthOf_36 : decode cX11_worthOf 36 = .ok (.iload_n 1, 1) := by decide +kernel
theorem dX11_worthOf_37 : decode cX11_worthOf 37 = .ok (.iaload, 1) := by decide +kernel
theorem dX11_worthOf_38 : decode cX11_worthOf 38 = .ok (.iload 4, 2) := by decide +kernel
theorem dX11_worthOf_40 : decode cX11_worthOf 40 = .ok (.imul, 1) := by decide +kernel
theorem dX11_worthOf_41 : decode cX11_worthOf 41 = .ok (.ireturn, 1) := by decide +kernel
theorem dX11_worthOf_42 : decode cX11_worthOf 42 = .ok (.aload_n 0, 1) := by decide +kernel
theorem dX11_worthOf_43 : decode cX11_worthOf 43 = .ok (.iload_n 2, 1) := by decide +kernel
theorem dX11_worthOf_44 : decode cX11_worthOf 44 = .ok (.iload_n 3, 1) := by decide +kernel
theorem dX11_worthOf_45 : decode cX11_worthOf 45 = .ok (.aload_n 0, 1) := by decide +kernel
theorem dX11_worthOf_46 : decode cX11_worthOf 46 = .ok (.getfield 56, 3) := by decide +kernel
theorem dX11_worthOf_49 : decode cX11_worthOf 49 = .ok (.iload_n 1, 1) := by decide +kernel
theorem dX11_worthOf_50 : decode cX11_worthOf 50 = .ok (.iaload, 1) := by decide +kernel
theorem dX11_worthOf_51 : decode cX11_worthOf 51 = .ok (.invokevirtual 258, 3) := by decide +kernel
theorem dX11_worthOf_54 : decode cX11_worthOf 54 = .ok (.istore 5, 2) := by decide +kernel
theorem dX11_worthOf_56 : decode cX11_worthOf 56 = .ok (.aload_n 0, 1) := by decide +kernel
theorem dX11_worthOf_57 : decode cX11_worthOf 57 = .ok (.iload_n 2, 1) := by decide +kernel
theorem dX11_worthOf_58 : decode cX11_worthOf 58 = .ok (.aload_n 0, 1) := by decide +kernel
theorem dX11_worthOf_59 : decode cX11_worthOf 59 = .ok (.getfield 25, 3) := by decide +kernel
theorem dX11_worthOf_62 : decode cX11_worthOf 62 = .ok (.aload_n 0, 1) := by decide +kernel
theorem dX11_worthOf_63 : decode cX11_worthOf 63 = .ok (.getfield 56, 3) := by decide +kernel
theorem dX11_worthOf_66 : decode cX11_worthOf 66 = .ok (.iload_n 1, 1) := by decide +kernel
theorem dX11_worthOf_67 : decode cX11_worthOf 67 = .ok (.iaload, 1) := by decide +kernel
theorem dX11_worthOf_68 : decode cX11_worthOf 68 = .ok (.iaload, 1) := by decide +kernel
theorem dX11_worthOf_69 : decode cX11_worthOf 69 = .ok (.invokevirtual 146, 3) := by decide +kernel
theorem dX11_worthOf_72 : decode cX11_worthOf 72 = .ok (.istore 6, 2) := by decide +kernel
theorem dX11_worthOf_74 : decode cX11_worthOf 74 = .ok (.iload 6, 2) := by decide +kernel
theorem dX11_worthOf_76 : decode cX11_worthOf 76 = .ok (.ldc 145, 2) := by decide +kernel
theorem dX11_worthOf_78 : decode cX11_worthOf 78 = .ok (.if_icmp .ne 7, 3) := by decide +kernel
theorem dX11_worthOf_81 : decode cX11_worthOf 81 = .ok (.iconst 0, 1) := by decide +kernel
theorem dX11_worthOf_82 : decode cX11_worthOf 82 = .ok (.goto 14, 3) := by decide +kernel
theorem dX11_worthOf_85 : decode cX11_worthOf 85 = .ok (.bipush 100, 2) := by decide +kernel
theorem dX11_worthOf_87 : decode cX11_worthOf 87 = .ok (.iload 5, 2) := by decide +kernel
theorem dX11_worthOf_89 : decode cX11_worthOf 89 = .ok (.isub, 1) := by decide +kernel
theorem dX11_worthOf_90 : decode cX11_worthOf 90 = .ok (.iload 6, 2) := by decide +kernel
theorem dX11_worthOf_92 : decode cX11_worthOf 92 = .ok (.bipush 20, 2) := by decide +kernel
theorem dX11_worthOf_94 : decode cX11_worthOf 94 = .ok (.idiv, 1) := by decide +kernel
theorem dX11_worthOf_95 : decode cX11_worthOf 95 = .ok (.isub, 1) := by decide +kernel
theorem dX11_worthOf_96 : decode cX11_worthOf 96 = .ok (.istore 7, 2) := by decide +kernel
theorem dX11_worthOf_98 : decode cX11_worthOf 98 = .ok (.iload 7, 2) := by decide +kernel
theorem dX11_worthOf_100 : decode cX11_worthOf 100 = .ok (.ifCond .le 15, 3) := by decide +kernel
theorem dX11_worthOf_103 : decode cX11_worthOf 103 = .ok (.aload_n 0, 1) := by decide +kernel
theorem dX11_worthOf_104 : decode cX11_worthOf 104 = .ok (.getfield 59, 3) := by decide +kernel
theorem dX11_worthOf_107 : decode cX11_worthOf 107 = .ok (.iload_n 1, 1) := by decide +kernel
theorem dX11_worthOf_108 : decode cX11_worthOf 108 = .ok (.iaload, 1) := by decide +kernel
theorem dX11_worthOf_109 : decode cX11_worthOf 109 = .ok (.iload 7, 2) := by decide +kernel
theorem dX11_worthOf_111 : decode cX11_worthOf 111 = .ok (.imul, 1) := by decide +kernel
theorem dX11_worthOf_112 : decode cX11_worthOf 112 = .ok (.goto 4, 3) := by decide +kernel
theorem dX11_worthOf_115 : decode cX11_worthOf 115 = .ok (.iconst 0, 1) := by decide +kernel
theorem dX11_worthOf_116 : decode cX11_worthOf 116 = .ok (.ireturn, 1) := by decide +kernel
theorem dX11_worth_0 : decode cX11_worth 0 = .ok (.aload_n 0, 1) := by decide +kernel
theorem dX11_worth_1 : decode cX11_worth 1 = .ok (.iconst 0, 1) := by decide +kernel
theorem dX11_worth_2 : decode cX11_worth 2 = .ok (.putfield 113, 3) := by decide +kernel
theorem dX11_worth_5 : decode cX11_worth 5 = .ok (.aload_n 0, 1) := by decide +kernel
theorem dX11_worth_6 : decode cX11_worth 6 = .ok (.iload_n 1, 1) := by decide +kernel
theorem dX11_worth_7 : decode cX11_worth 7 = .ok (.invokevirtual 277, 3) := by decide +kernel
theorem dX11_worth_10 : decode cX11_worth 10 = .ok (.ifCond .eq 17, 3) := by decide +kernel
theorem dX11_worth_13 : decode cX11_worth 13 = .ok (.iload_n 2, 1) := by decide +kernel
theorem dX11_worth_14 : decode cX11_worth 14 = .ok (.invokestatic 140, 3) := by decide +kernel
theorem dX11_worth_17 : decode cX11_worth 17 = .ok (.ifCond .eq 10, 3) := by decide +kernel
theorem dX11_worth_20 : decode cX11_worth 20 = .ok (.iload_n 3, 1) := by decide +kernel
theorem dX11_worth_21 : decode cX11_worth 21 = .ok (.invokestatic 255, 3) := by decide +kernel
theorem dX11_worth_24 : decode cX11_worth 24 = .ok (.ifCond .ne 8, 3) := by decide +kernel
theorem dX11_worth_27 : decode cX11_worth 27 = .ok (.ldc 133, 2) := by decide +kernel
theorem dX11_worth_29 : decode cX11_worth 29 = .ok (.goto 10, 3) := by decide +kernel
theorem dX11_worth_32 : decode cX11_worth 32 = .ok (.aload_n 0, 1) := by decide +kernel
theorem dX11_worth_33 : decode cX11_worth 33 = .ok (.iload_n 1, 1) := by decide +kernel
theorem dX11_worth_34 : decode cX11_worth 34 = .ok (.iload_n 2, 1) := by decide +kernel
theorem dX11_worth_35 : decode cX11_worth 35 = .ok (.iload_n 3, 1) := by decide +kernel
theorem dX11_worth_36 : decode cX11_worth 36 = .ok (.invokevirtual 291, 3) := by decide +kernel
theorem dX11_worth_39 : decode cX11_worth 39 = .ok (.ireturn, 1) := by decide +kernel
theorem dX11_hands_0 : decode cX11_hands 0 = .ok (.aload_n 0, 1) := by decide +kernel
theorem dX11_hands_1 : decode cX11_hands 1 = .ok (.iconst 0, 1) := by decide +kernel
theorem dX11_hands_2 : decode cX11_hands 2 = .ok (.putfield 113, 3) := by decide +kernel
theorem dX11_hands_5 : decode cX11_hands 5 = .ok (.aload_n 0, 1) := by decide +kernel
theorem dX11_hands_6 : decode cX11_hands 6 = .ok (.iload_n 1, 1) := by decide +kernel
theorem dX11_hands_7 : decode cX11_hands 7 = .ok (.invokevirtual 277, 3) := by decide +kernel
theorem dX11_hands_10 : decode cX11_hands 10 = .ok (.ifCond .eq 18, 3) := by decide +kernel
theorem dX11_hands_13 : decode cX11_hands 13 = .ok (.iload_n 2, 1) := by decide +kernel
theorem dX11_hands_14 : decode cX11_hands 14 = .ok (.iconst (-1), 1) := by decide +kernel
theorem dX11_hands_15 : decode cX11_hands 15 = .ok (.if_icmp .lt 13, 3) := by decide +kernel
theorem dX11_hands_18 : decode cX11_hands 18 = .ok (.iload_n 3, 1) := by decide +kernel
theorem dX11_hands_19 : decode cX11_hands 19 = .ok (.i2l, 1) := by decide +kernel
theorem dX11_hands_20 : decode cX11_hands 20 = .ok (.lconst 0, 1) := by decide +kernel
theorem dX11_hands_21 : decode cX11_hands 21 = .ok (.lconst 1, 1) := by decide +kernel
theorem dX11_hands_22 : decode cX11_hands 22 = .ok (.invokestatic 123, 3) := by decide +kernel
theorem dX11_hands_25 : decode cX11_hands 25 = .ok (.ifCond .ne 6, 3) := by decide +kernel
theorem dX11_hands_28 : decode cX11_hands 28 = .ok (.ldc 133, 2) := by decide +kernel
theorem dX11_hands_30 : decode cX11_hands 30 = .ok (.ireturn, 1) := by decide +kernel
theorem dX11_hands_31 : decode cX11_hands 31 = .ok (.iload_n 2, 1) := by decide +kernel
theorem dX11_hands_32 : decode cX11_hands 32 = .ok (.iconst (-1), 1) := by decide +kernel
theorem dX11_hands_33 : decode cX11_hands 33 = .ok (.if_icmp .ne 12, 3) := by decide +kernel
theorem dX11_hands_36 : decode cX11_hands 36 = .ok (.aload_n 0, 1) := by decide +kernel
theorem dX11_hands_37 : decode cX11_hands 37 = .ok (.getfield 86, 3) := by decide +kernel
theorem dX11_hands_40 : decode cX11_hands 40 = .ok (.iload_n 1, 1) := by decide +kernel
theorem dX11_hands_41 : decode cX11_hands 41 = .ok (.iaload, 1) := by decide +kernel
theorem dX11_hands_42 : decode cX11_hands 42 = .ok (.goto 47, 3) := by decide +kernel
theorem dX11_hands_45 : decode cX11_hands 45 = .ok (.iload_n 2, 1) := by decide +kernel
theorem dX11_hands_46 : decode cX11_hands 46 = .ok (.aload_n 0, 1) := by decide +kernel
theorem dX11_hands_47 : decode cX11_hands 47 = .ok (.getfield 86, 3) := by decide +kernel
theorem dX11_hands_50 : decode cX11_hands 50 = .ok (.iload_n 1, 1) := by decide +kernel
theorem dX11_hands_51 : decode cX11_hands 51 = .ok (.iaload, 1) := by decide +kernel
theorem dX11_hands_52 : decode cX11_hands 52 = .ok (.if_icmp .lt 8, 3) := by decide +kernel
theorem dX11_hands_55 : decode cX11_hands 55 = .ok (.ldc 145, 2) := by decide +kernel
theorem dX11_hands_57 : decode cX11_hands 57 = .ok (.goto 32, 3) := by decide +kernel
theorem dX11_hands_60 : decode cX11_hands 60 = .ok (.iload_n 3, 1) := by decide +kernel
theorem dX11_hands_61 : decode cX11_hands 61 = .ok (.ifCond .ne 17, 3) := by decide +kernel
theorem dX11_hands_64 : decode cX11_hands 64 = .ok (.aload_n 0, 1) := by decide +kernel
theorem dX11_hands_65 : decode cX11_hands 65 = .ok (.getfield 89, 3) := by decide +kernel
theorem dX11_hands_68 : decode cX11_hands 68 = .ok (.bipush 12, 2) := by decide +kernel
theorem dX11_hands_70 : decode cX11_hands 70 = .ok (.iload_n 1, 1) := by decide +kernel
theorem dX11_hands_71 : decode cX11_hands 71 = .ok (.imul, 1) := by decide +kernel
theorem dX11_hands_72 : decode cX11_hands 72 = .ok (.iload_n 2, 1) := by decide +kernel
theorem dX11_hands_73 : decode cX11_hands 73 = .ok (.iadd, 1) := by decide +kernel
theorem dX11_hands_74 : decode cX11_hands 74 = .ok (.iaload, 1) := by decide +kernel
theorem dX11_hands_75 : decode cX11_hands 75 = .ok (.goto 14, 3) := by decide +kernel
theorem dX11_hands_78 : decode cX11_hands 78 = .ok (.aload_n 0, 1) := by decide +kernel
theorem dX11_hands_79 : decode cX11_hands 79 = .ok (.getfield 92, 3) := by decide +kernel
theorem dX11_hands_82 : decode cX11_hands 82 = .ok (.bipush 12, 2) := by decide +kernel
theorem dX11_hands_84 : decode cX11_hands 84 = .ok (.iload_n 1, 1) := by decide +kernel
theorem dX11_hands_85 : decode cX11_hands 85 = .ok (.imul, 1) := by decide +kernel
theorem dX11_hands_86 : decode cX11_hands 86 = .ok (.iload_n 2, 1) := by decide +kernel
theorem dX11_hands_87 : decode cX11_hands 87 = .ok (.iadd, 1) := by decide +kernel
theorem dX11_hands_88 : decode cX11_hands 88 = .ok (.iaload, 1) := by decide +kernel
theorem dX11_hands_89 : decode cX11_hands 89 = .ok (.ireturn, 1) := by decide +kernel
theorem dX11_trader_0 : decode cX11_trader 0 = .ok (.aload_n 0, 1) := by decide +kernel
theorem dX11_trader_1 : decode cX11_trader 1 = .ok (.iconst 0, 1) := by decide +kernel
theorem dX11_trader_2 : decode cX11_trader 2 = .ok (.putfield 113, 3) := by decide +kernel
theorem dX11_trader_5 : decode cX11_trader 5 = .ok (.iload_n 1, 1) := by decide +kernel
theorem dX11_trader_6 : decode cX11_trader 6 = .ok (.invokestatic 270, 3) := by decide +kernel
theorem dX11_trader_9 : decode cX11_trader 9 = .ok (.ifCond .eq 22, 3) := by decide +kernel
theorem dX11_trader_12 : decode cX11_trader 12 = .ok (.iload_n 2, 1) := by decide +kernel
theorem dX11_trader_13 : decode cX11_trader 13 = .ok (.invokestatic 140, 3) := by decide +kernel
theorem dX11_trader_16 : decode cX11_trader 16 = .ok (.ifCond .eq 15, 3) := by decide +kernel
theorem dX11_trader_19 : decode cX11_trader 19 = .ok (.iload_n 3, 1) := by decide +kernel
theorem dX11_trader_20 : decode cX11_trader 20 = .ok (.i2l, 1) := by decide +kernel
theorem dX11_trader_21 : decode cX11_trader 21 = .ok (.lconst 0, 1) := by decide +kernel
theorem dX11_trader_22 : decode cX11_trader 22 = .ok (.ldc2_w 268, 3) := by decide +kernel
theorem dX11_trader_25 : decode cX11_trader 25 = .ok (.invokestatic 123, 3) := by decide +kernel
theorem dX11_trader_28 : decode cX11_trader 28 = .ok (.ifCond .ne 6, 3) := by decide +kernel
theorem dX11_trader_31 : decode cX11_trader 31 = .ok (.ldc 133, 2) := by decide +kernel
theorem dX11_trader_33 : decode cX11_trader 33 = .ok (.ireturn, 1) := by decide +kernel
theorem dX11_trader_34 : decode cX11_trader 34 = .ok (.aload_n 0, 1) := by decide +kernel
theorem dX11_trader_35 : decode cX11_trader 35 = .ok (.getfield 95, 3) := by decide +kernel
theorem dX11_trader_38 : decode cX11_trader 38 = .ok (.iload_n 1, 1) := by decide +kernel
theorem dX11_trader_39 : decode cX11_trader 39 = .ok (.iload_n 2, 1) := by decide +kernel
theorem dX11_trader_40 : decode cX11_trader 40 = .ok (.iastore, 1) := by decide +kernel
theorem dX11_trader_41 : decode cX11_trader 41 = .ok (.aload_n 0, 1) := by decide +kernel
theorem dX11_trader_42 : decode cX11_trader 42 = .ok (.getfield 98, 3) := by decide +kernel
theorem dX11_trader_45 : decode cX11_trader 45 = .ok (.iload_n 1, 1) := by decide +kernel
theorem dX11_trader_46 : decode cX11_trader 46 = .ok (.iload_n 3, 1) := by decide +kernel
theorem dX11_trader_47 : decode cX11_trader 47 = .ok (.iastore, 1) := by decide +kernel
theorem dX11_trader_48 : decode cX11_trader 48 = .ok (.iconst 1, 1) := by decide +kernel
theorem dX11_trader_49 : decode cX11_trader 49 = .ok (.ireturn, 1) := by decide +kernel
theorem dX11_inHundred_0 : decode cX11_inHundred 0 = .ok (.aload_n 0, 1) := by decide +kernel
theorem dX11_inHundred_1 : decode cX11_inHundred 1 = .ok (.iload_n 1, 1) := by decide +kernel
theorem dX11_inHundred_2 : decode cX11_inHundred 2 = .ok (.aload_n 0, 1) := by decide +kernel
theorem dX11_inHundred_3 : decode cX11_inHundred 3 = .ok (.getfield 95, 3) := by decide +kernel
theorem dX11_inHundred_6 : decode cX11_inHundred 6 = .ok (.iload_n 2, 1) := by decide +kernel
theorem dX11_inHundred_7 : decode cX11_inHundred 7 = .ok (.iaload, 1) := by decide +kernel
theorem dX11_inHundred_8 : decode cX11_inHundred 8 = .ok (.aload_n 0, 1) := by decide +kernel
theorem dX11_inHundred_9 : decode cX11_inHundred 9 = .ok (.getfield 167, 3) := by decide +kernel
theorem dX11_inHundred_12 : decode cX11_inHundred 12 = .ok (.invokevirtual 291, 3) := by decide +kernel
theorem dX11_inHundred_15 : decode cX11_inHundred 15 = .ok (.aload_n 0, 1) := by decide +kernel
theorem dX11_inHundred_16 : decode cX11_inHundred 16 = .ok (.getfield 59, 3) := by decide +kernel
theorem dX11_inHundred_19 : decode cX11_inHundred 19 = .ok (.iload_n 1, 1) := by decide +kernel
theorem dX11_inHundred_20 : decode cX11_inHundred 20 = .ok (.iaload, 1) := by decide +kernel
theorem dX11_inHundred_21 : decode cX11_inHundred 21 = .ok (.idiv, 1) := by decide +kernel
theorem dX11_inHundred_22 : decode cX11_inHundred 22 = .ok (.ireturn, 1) := by decide +kernel
theorem dX11_pay_0 : decode cX11_pay 0 = .ok (.aload_n 0, 1) := by decide +kernel
theorem dX11_pay_1 : decode cX11_pay 1 = .ok (.iconst 0, 1) := by decide +kernel
theorem dX11_pay_2 : decode cX11_pay 2 = .ok (.putfield 113, 3) := by decide +kernel
theorem dX11_pay_5 : decode cX11_pay 5 = .ok (.iload_n 1, 1) := by decide +kernel
theorem dX11_pay_6 : decode cX11_pay 6 = .ok (.invokestatic 270, 3) := by decide +kernel
theorem dX11_pay_9 : decode cX11_pay 9 = .ok (.ifCond .eq 27, 3) := by decide +kernel
theorem dX11_pay_12 : decode cX11_pay 12 = .ok (.iload_n 2, 1) := by decide +kernel
theorem dX11_pay_13 : decode cX11_pay 13 = .ok (.invokestatic 270, 3) := by decide +kernel
theorem dX11_pay_16 : decode cX11_pay 16 = .ok (.ifCond .eq 20, 3) := by decide +kernel
theorem dX11_pay_19 : decode cX11_pay 19 = .ok (.iload_n 1, 1) := by decide +kernel
theorem dX11_pay_20 : decode cX11_pay 20 = .ok (.iload_n 2, 1) := by decide +kernel
theorem dX11_pay_21 : decode cX11_pay 21 = .ok (.if_icmp .eq 15, 3) := by decide +kernel
theorem dX11_pay_24 : decode cX11_pay 24 = .ok (.iload_n 3, 1) := by decide +kernel
theorem dX11_pay_25 : decode cX11_pay 25 = .ok (.i2l, 1) := by decide +kernel
theorem dX11_pay_26 : decode cX11_pay 26 = .ok (.lconst 1, 1) := by decide +kernel
theorem dX11_pay_27 : decode cX11_pay 27 = .ok (.ldc2_w 294, 3) := by decide +kernel
theorem dX11_pay_30 : decode cX11_pay 30 = .ok (.invokestatic 123, 3) := by decide +kernel
theorem dX11_pay_33 : decode cX11_pay 33 = .ok (.ifCond .ne 6, 3) := by decide +kernel
theorem dX11_pay_36 : decode cX11_pay 36 = .ok (.ldc 133, 2) := by decide +kernel
theorem dX11_pay_38 : decode cX11_pay 38 = .ok (.ireturn, 1) := by decide +kernel
theorem dX11_pay_39 : decode cX11_pay 39 = .ok (.iconst 0, 1) := by decide +kernel
theorem dX11_pay_40 : decode cX11_pay 40 = .ok (.istore 4, 2) := by decide +kernel
theorem dX11_pay_42 : decode cX11_pay 42 = .ok (.iconst 1, 1) := by decide +kernel
theorem dX11_pay_43 : decode cX11_pay 43 = .ok (.istore 5, 2) := by decide +kernel
theorem dX11_pay_45 : decode cX11_pay 45 = .ok (.iload 5, 2) := by decide +kernel
theorem dX11_pay_47 : decode cX11_pay 47 = .ok (.ifCond .eq 163, 3) := by decide +kernel
theorem dX11_pay_50 : decode cX11_pay 50 = .ok (.ldc 145, 2) := by decide +kernel
theorem dX11_pay_52 : decode cX11_pay 52 = .ok (.istore 6, 2) := by decide +kernel
theorem dX11_pay_54 : decode cX11_pay 54 = .ok (.iconst 0, 1) := by decide +kernel
theorem dX11_pay_55 : decode cX11_pay 55 = .ok (.istore 7, 2) := by decide +kernel
theorem dX11_pay_57 : decode cX11_pay 57 = .ok (.iload 7, 2) := by decide +kernel
theorem dX11_pay_59 : decode cX11_pay 59 = .ok (.aload_n 0, 1) := by decide +kernel
theorem dX11_pay_60 : decode cX11_pay 60 = .ok (.getfield 265, 3) := by decide +kernel
theorem dX11_pay_63 : decode cX11_pay 63 = .ok (.if_icmp .ge 93, 3) := by decide +kernel
theorem dX11_pay_66 : decode cX11_pay 66 = .ok (.aload_n 0, 1) := by decide +kernel
theorem dX11_pay_67 : decode cX11_pay 67 = .ok (.getfield 68, 3) := by decide +kernel
theorem dX11_pay_70 : decode cX11_pay 70 = .ok (.iload 7, 2) := by decide +kernel
theorem dX11_pay_72 : decode cX11_pay 72 = .ok (.iaload, 1) := by decide +kernel
theorem dX11_pay_73 : decode cX11_pay 73 = .ok (.iload_n 1, 1) := by decide +kernel
theorem dX11_pay_74 : decode cX11_pay 74 = .ok (.if_icmp .ne 35, 3) := by decide +kernel
theorem dX11_pay_77 : decode cX11_pay 77 = .ok (.aload_n 0, 1) := by decide +kernel
theorem dX11_pay_78 : decode cX11_pay 78 = .ok (.getfield 86, 3) := by decide +kernel
theorem dX11_pay_81 : decode cX11_pay 81 = .ok (.iload 7, 2) := by decide +kernel
theorem dX11_pay_83 : decode cX11_pay 83 = .ok (.iaload, 1) := by decide +kernel
theorem dX11_pay_84 : decode cX11_pay 84 = .ok (.bipush 12, 2) := by decide +kernel
theorem dX11_pay_86 : decode cX11_pay 86 = .ok (.if_icmp .ge 23, 3) := by decide +kernel
theorem dX11_pay_89 : decode cX11_pay 89 = .ok (.aload_n 0, 1) := by decide +kernel
theorem dX11_pay_90 : decode cX11_pay 90 = .ok (.iload 7, 2) := by decide +kernel
theorem dX11_pay_92 : decode cX11_pay 92 = .ok (.iload_n 2, 1) := by decide +kernel
theorem dX11_pay_93 : decode cX11_pay 93 = .ok (.invokevirtual 296, 3) := by decide +kernel
theorem dX11_pay_96 : decode cX11_pay 96 = .ok (.aload_n 0, 1) := by decide +kernel
theorem dX11_pay_97 : decode cX11_pay 97 = .ok (.getfield 98, 3) := by decide +kernel
theorem dX11_pay_100 : decode cX11_pay 100 = .ok (.iload_n 2, 1) := by decide +kernel
theorem dX11_pay_101 : decode cX11_pay 101 = .ok (.iaload, 1) := by decide +kernel
theorem dX11_pay_102 : decode cX11_pay 102 = .ok (.if_icmp .lt 7, 3) := by decide +kernel
theorem dX11_pay_105 : decode cX11_pay 105 = .ok (.iconst 1, 1) := by decide +kernel
theorem dX11_pay_106 : decode cX11_pay 106 = .ok (.goto 4, 3) := by decide +kernel
theorem dX11_pay_109 : decode cX11_pay 109 = .ok (.iconst 0, 1) := by decide +kernel
theorem dX11_pay_110 : decode cX11_pay 110 = .ok (.istore 8, 2) := by decide +kernel
theorem dX11_pay_112 : decode cX11_pay 112 = .ok (.iload 8, 2) := by decide +kernel
theorem dX11_pay_114 : decode cX11_pay 114 = .ok (.ifCond .eq 32, 3) := by decide +kernel
theorem dX11_pay_117 : decode cX11_pay 117 = .ok (.iload 6, 2) := by decide +kernel
theorem dX11_pay_119 : decode cX11_pay 119 = .ok (.ldc 145, 2) := by decide +kernel
theorem dX11_pay_121 : decode cX11_pay 121 = .ok (.if_icmp .eq 20, 3) := by decide +kernel
theorem dX11_pay_124 : decode cX11_pay 124 = .ok (.aload_n 0, 1) := by decide +kernel
theorem dX11_pay_125 : decode cX11_pay 125 = .ok (.iload 7, 2) := by decide +kernel
theorem dX11_pay_127 : decode cX11_pay 127 = .ok (.iload_n 1, 1) := by decide +kernel
theorem dX11_pay_128 : decode cX11_pay 128 = .ok (.invokevirtual 296, 3) := by decide +kernel
theorem dX11_pay_131 : decode cX11_pay 131 = .ok (.aload_n 0, 1) := by decide +kernel
theorem dX11_pay_132 : decode cX11_pay 132 = .ok (.iload 6, 2) := by decide +kernel
theorem dX11_pay_134 : decode cX11_pay 134 = .ok (.iload_n 1, 1) := by decide +kernel
theorem dX11_pay_135 : decode cX11_pay 135 = .ok (.invokevirtual 296, 3) := by decide +kernel
theorem dX11_pay_138 : decode cX11_pay 138 = .ok (.if_icmp .ge 8, 3) := by decide +kernel
theorem dX11_pay_141 : decode cX11_pay 141 = .ok (.iload 7, 2) := by decide +kernel
theorem dX11_pay_143 : decode cX11_pay 143 = .ok (.goto 5, 3) := by decide +kernel
theorem dX11_pay_146 : decode cX11_pay 146 = .ok (.iload 6, 2) := by decide +kernel
theorem dX11_pay_148 : decode cX11_pay 148 = .ok (.istore 6, 2) := by decide +kernel
theorem dX11_pay_150 : decode cX11_pay 150 = .ok (.iinc 7 1, 3) := by decide +kernel
theorem dX11_pay_153 : decode cX11_pay 153 = .ok (.goto (-96), 3) := by decide +kernel
theorem dX11_pay_156 : decode cX11_pay 156 = .ok (.iload 6, 2) := by decide +kernel
theorem dX11_pay_158 : decode cX11_pay 158 = .ok (.ldc 145, 2) := by decide +kernel
theorem dX11_pay_160 : decode cX11_pay 160 = .ok (.if_icmp .eq 7, 3) := by decide +kernel
theorem dX11_pay_163 : decode cX11_pay 163 = .ok (.iconst 1, 1) := by decide +kernel
theorem dX11_pay_164 : decode cX11_pay 164 = .ok (.goto 4, 3) := by decide +kernel
theorem dX11_pay_167 : decode cX11_pay 167 = .ok (.iconst 0, 1) := by decide +kernel
theorem dX11_pay_168 : decode cX11_pay 168 = .ok (.istore 5, 2) := by decide +kernel
theorem dX11_pay_170 : decode cX11_pay 170 = .ok (.iload 5, 2) := by decide +kernel
theorem dX11_pay_172 : decode cX11_pay 172 = .ok (.ifCond .eq 35, 3) := by decide +kernel
theorem dX11_pay_175 : decode cX11_pay 175 = .ok (.aload_n 0, 1) := by decide +kernel
theorem dX11_pay_176 : decode cX11_pay 176 = .ok (.iload 6, 2) := by decide +kernel
theorem dX11_pay_178 : decode cX11_pay 178 = .ok (.iload_n 2, 1) := by decide +kernel
theorem dX11_pay_179 : decode cX11_pay 179 = .ok (.invokevirtual 273, 3) := by decide +kernel
theorem dX11_pay_182 : decode cX11_pay 182 = .ok (.iload 4, 2) := by decide +kernel
theorem dX11_pay_184 : decode cX11_pay 184 = .ok (.aload_n 0, 1) := by decide +kernel
theorem dX11_pay_185 : decode cX11_pay 185 = .ok (.getfield 59, 3) := by decide +kernel
theorem dX11_pay_188 : decode cX11_pay 188 = .ok (.iload 6, 2) := by decide +kernel
theorem dX11_pay_190 : decode cX11_pay 190 = .ok (.iaload, 1) := by decide +kernel
theorem dX11_pay_191 : decode cX11_pay 191 = .ok (.iadd, 1) := by decide +kernel
theorem dX11_pay_192 : decode cX11_pay 192 = .ok (.istore 4, 2) := by decide +kernel
theorem dX11_pay_194 : decode cX11_pay 194 = .ok (.iload 4, 2) := by decide +kernel
theorem dX11_pay_196 : decode cX11_pay 196 = .ok (.iload_n 3, 1) := by decide +kernel
theorem dX11_pay_197 : decode cX11_pay 197 = .ok (.if_icmp .ge 7, 3) := by decide +kernel
theorem dX11_pay_200 : decode cX11_pay 200 = .ok (.iconst 1, 1) := by decide +kernel
theorem dX11_pay_201 : decode cX11_pay 201 = .ok (.goto 4, 3) := by decide +kernel
theorem dX11_pay_204 : decode cX11_pay 204 = .ok (.iconst 0, 1) := by decide +kernel
theorem dX11_pay_205 : decode cX11_pay 205 = .ok (.istore 5, 2) := by decide +kernel
theorem dX11_pay_207 : decode cX11_pay 207 = .ok (.goto (-162), 3) := by decide +kernel
theorem dX11_pay_210 : decode cX11_pay 210 = .ok (.iload 4, 2) := by decide +kernel
theorem dX11_pay_212 : decode cX11_pay 212 = .ok (.ireturn, 1) := by decide +kernel
theorem dX11_bears_0 : decode cX11_bears 0 = .ok (.aload_n 0, 1) := by decide +kernel
theorem dX11_bears_1 : decode cX11_bears 1 = .ok (.iconst 0, 1) := by decide +kernel
theorem dX11_bears_2 : decode cX11_bears 2 = .ok (.putfield 113, 3) := by decide +kernel
theorem dX11_bears_5 : decode cX11_bears 5 = .ok (.aload_n 0, 1) := by decide +kernel
theorem dX11_bears_6 : decode cX11_bears 6 = .ok (.iload_n 1, 1) := by decide +kernel
theorem dX11_bears_7 : decode cX11_bears 7 = .ok (.invokevirtual 277, 3) := by decide +kernel
theorem dX11_bears_10 : decode cX11_bears 10 = .ok (.ifCond .eq 10, 3) := by decide +kernel
theorem dX11_bears_13 : decode cX11_bears 13 = .ok (.iload_n 2, 1) := by decide +kernel
theorem dX11_bears_14 : decode cX11_bears 14 = .ok (.invokestatic 255, 3) := by decide +kernel
theorem dX11_bears_17 : decode cX11_bears 17 = .ok (.ifCond .ne 6, 3) := by decide +kernel
theorem dX11_bears_20 : decode cX11_bears 20 = .ok (.ldc 133, 2) := by decide +kernel
theorem dX11_bears_22 : decode cX11_bears 22 = .ok (.ireturn, 1) := by decide +kernel
theorem dX11_bears_23 : decode cX11_bears 23 = .ok (.aload_n 0, 1) := by decide +kernel
theorem dX11_bears_24 : decode cX11_bears 24 = .ok (.getfield 68, 3) := by decide +kernel
theorem dX11_bears_27 : decode cX11_bears 27 = .ok (.iload_n 1, 1) := by decide +kernel
theorem dX11_bears_28 : decode cX11_bears 28 = .ok (.iaload, 1) := by decide +kernel
theorem dX11_bears_29 : decode cX11_bears 29 = .ok (.ldc 145, 2) := by decide +kernel
theorem dX11_bears_31 : decode cX11_bears 31 = .ok (.if_icmp .ne 7, 3) := by decide +kernel
theorem dX11_bears_34 : decode cX11_bears 34 = .ok (.ldc_w 299, 3) := by decide +kernel
theorem dX11_bears_37 : decode cX11_bears 37 = .ok (.ireturn, 1) := by decide +kernel
theorem dX11_bears_38 : decode cX11_bears 38 = .ok (.bipush 12, 2) := by decide +kernel
theorem dX11_bears_40 : decode cX11_bears 40 = .ok (.iload_n 1, 1) := by decide +kernel
theorem dX11_bears_41 : decode cX11_bears 41 = .ok (.imul, 1) := by decide +kernel
theorem dX11_bears_42 : decode cX11_bears 42 = .ok (.aload_n 0, 1) := by decide +kernel
theorem dX11_bears_43 : decode cX11_bears 43 = .ok (.getfield 86, 3) := by decide +kernel
theorem dX11_bears_46 : decode cX11_bears 46 = .ok (.iload_n 1, 1) := by decide +kernel
theorem dX11_bears_47 : decode cX11_bears 47 = .ok (.iaload, 1) := by decide +kernel
theorem dX11_bears_48 : decode cX11_bears 48 = .ok (.iadd, 1) := by decide +kernel
theorem dX11_bears_49 : decode cX11_bears 49 = .ok (.iconst 1, 1) := by decide +kernel
theorem dX11_bears_50 : decode cX11_bears 50 = .ok (.isub, 1) := by decide +kernel
theorem dX11_bears_51 : decode cX11_bears 51 = .ok (.istore_n 3, 1) := by decide +kernel
theorem dX11_bears_52 : decode cX11_bears 52 = .ok (.iload_n 3, 1) := by decide +kernel
theorem dX11_bears_53 : decode cX11_bears 53 = .ok (.bipush 12, 2) := by decide +kernel
theorem dX11_bears_55 : decode cX11_bears 55 = .ok (.iload_n 1, 1) := by decide +kernel
theorem dX11_bears_56 : decode cX11_bears 56 = .ok (.imul, 1) := by decide +kernel
theorem dX11_bears_57 : decode cX11_bears 57 = .ok (.if_icmp .le 24, 3) := by decide +kernel
theorem dX11_bears_60 : decode cX11_bears 60 = .ok (.aload_n 0, 1) := by decide +kernel
theorem dX11_bears_61 : decode cX11_bears 61 = .ok (.getfield 167, 3) := by decide +kernel
theorem dX11_bears_64 : decode cX11_bears 64 = .ok (.aload_n 0, 1) := by decide +kernel
theorem dX11_bears_65 : decode cX11_bears 65 = .ok (.getfield 92, 3) := by decide +kernel
theorem dX11_bears_68 : decode cX11_bears 68 = .ok (.iload_n 3, 1) := by decide +kernel
theorem dX11_bears_69 : decode cX11_bears 69 = .ok (.iaload, 1) := by decide +kernel
theorem dX11_bears_70 : decode cX11_bears 70 = .ok (.isub, 1) := by decide +kernel
theorem dX11_bears_71 : decode cX11_bears 71 = .ok (.iload_n 2, 1) := by decide +kernel
theorem dX11_bears_72 : decode cX11_bears 72 = .ok (.if_icmp .gt 9, 3) := by decide +kernel
theorem dX11_bears_75 : decode cX11_bears 75 = .ok (.iinc 3 (-1), 3) := by decide +kernel
theorem dX11_bears_78 : decode cX11_bears 78 = .ok (.goto (-26), 3) := by decide +kernel
theorem dX11_bears_81 : decode cX11_bears 81 = .ok (.aload_n 0, 1) := by decide +kernel
theorem dX11_bears_82 : decode cX11_bears 82 = .ok (.getfield 89, 3) := by decide +kernel
theorem dX11_bears_85 : decode cX11_bears 85 = .ok (.iload_n 3, 1) := by decide +kernel
theorem dX11_bears_86 : decode cX11_bears 86 = .ok (.iaload, 1) := by decide +kernel
theorem dX11_bears_87 : decode cX11_bears 87 = .ok (.ireturn, 1) := by decide +kernel
theorem dX11_home_0 : decode cX11_home 0 = .ok (.aload_n 0, 1) := by decide +kernel
theorem dX11_home_1 : decode cX11_home 1 = .ok (.iconst 0, 1) := by decide +kernel
theorem dX11_home_2 : decode cX11_home 2 = .ok (.putfield 113, 3) := by decide +kernel
theorem dX11_home_5 : decode cX11_home 5 = .ok (.aload_n 0, 1) := by decide +kernel
theorem dX11_home_6 : decode cX11_home 6 = .ok (.iload_n 1, 1) := by decide +kernel
theorem dX11_home_7 : decode cX11_home 7 = .ok (.invokevirtual 277, 3) := by decide +kernel
theorem dX11_home_10 : decode cX11_home 10 = .ok (.ifCond .ne 6, 3) := by decide +kernel
theorem dX11_home_13 : decode cX11_home 13 = .ok (.ldc 133, 2) := by decide +kernel
theorem dX11_home_15 : decode cX11_home 15 = .ok (.ireturn, 1) := by decide +kernel
theorem dX11_home_16 : decode cX11_home 16 = .ok (.aload_n 0, 1) := by decide +kernel
theorem dX11_home_17 : decode cX11_home 17 = .ok (.getfield 68, 3) := by decide +kernel
theorem dX11_home_20 : decode cX11_home 20 = .ok (.iload_n 1, 1) := by decide +kernel
theorem dX11_home_21 : decode cX11_home 21 = .ok (.iaload, 1) := by decide +kernel
theorem dX11_home_22 : decode cX11_home 22 = .ok (.ldc 145, 2) := by decide +kernel
theorem dX11_home_24 : decode cX11_home 24 = .ok (.if_icmp .eq 11, 3) := by decide +kernel
theorem dX11_home_27 : decode cX11_home 27 = .ok (.aload_n 0, 1) := by decide +kernel
theorem dX11_home_28 : decode cX11_home 28 = .ok (.iload_n 1, 1) := by decide +kernel
theorem dX11_home_29 : decode cX11_home 29 = .ok (.invokevirtual 282, 3) := by decide +kernel
theorem dX11_home_32 : decode cX11_home 32 = .ok (.ifCond .eq 7, 3) := by decide +kernel
theorem dX11_home_35 : decode cX11_home 35 = .ok (.ldc_w 299, 3) := by decide +kernel
theorem dX11_home_38 : decode cX11_home 38 = .ok (.ireturn, 1) := by decide +kernel
theorem dX11_home_39 : decode cX11_home 39 = .ok (.aload_n 0, 1) := by decide +kernel
theorem dX11_home_40 : decode cX11_home 40 = .ok (.getfield 56, 3) := by decide +kernel
theorem dX11_home_43 : decode cX11_home 43 = .ok (.iload_n 1, 1) := by decide +kernel
theorem dX11_home_44 : decode cX11_home 44 = .ok (.iaload, 1) := by decide +kernel
theorem dX11_home_45 : decode cX11_home 45 = .ok (.istore_n 2, 1) := by decide +kernel
theorem dX11_home_46 : decode cX11_home 46 = .ok (.aload_n 0, 1) := by decide +kernel
theorem dX11_home_47 : decode cX11_home 47 = .ok (.getfield 68, 3) := by decide +kernel
theorem dX11_home_50 : decode cX11_home 50 = .ok (.iload_n 1, 1) := by decide +kernel
theorem dX11_home_51 : decode cX11_home 51 = .ok (.ldc 145, 2) := by decide +kernel
theorem dX11_home_53 : decode cX11_home 53 = .ok (.iastore, 1) := by decide +kernel
theorem dX11_home_54 : decode cX11_home 54 = .ok (.aload_n 0, 1) := by decide +kernel
theorem dX11_home_55 : decode cX11_home 55 = .ok (.getfield 62, 3) := by decide +kernel
theorem dX11_home_58 : decode cX11_home 58 = .ok (.iload_n 1, 1) := by decide +kernel
theorem dX11_home_59 : decode cX11_home 59 = .ok (.iaload, 1) := by decide +kernel
theorem dX11_home_60 : decode cX11_home 60 = .ok (.aload_n 0, 1) := by decide +kernel
theorem dX11_home_61 : decode cX11_home 61 = .ok (.getfield 31, 3) := by decide +kernel
theorem dX11_home_64 : decode cX11_home 64 = .ok (.iload_n 2, 1) := by decide +kernel
theorem dX11_home_65 : decode cX11_home 65 = .ok (.iaload, 1) := by decide +kernel
theorem dX11_home_66 : decode cX11_home 66 = .ok (.if_icmp .eq 12, 3) := by decide +kernel
theorem dX11_home_69 : decode cX11_home 69 = .ok (.aload_n 0, 1) := by decide +kernel
theorem dX11_home_70 : decode cX11_home 70 = .ok (.getfield 74, 3) := by decide +kernel
theorem dX11_home_73 : decode cX11_home 73 = .ok (.iload_n 1, 1) := by decide +kernel
theorem dX11_home_74 : decode cX11_home 74 = .ok (.iconst 1, 1) := by decide +kernel
theorem dX11_home_75 : decode cX11_home 75 = .ok (.bastore, 1) := by decide +kernel
theorem dX11_home_76 : decode cX11_home 76 = .ok (.iconst 0, 1) := by decide +kernel
theorem dX11_home_77 : decode cX11_home 77 = .ok (.ireturn, 1) := by decide +kernel
theorem dX11_home_78 : decode cX11_home 78 = .ok (.aload_n 0, 1) := by decide +kernel
theorem dX11_home_79 : decode cX11_home 79 = .ok (.getfield 71, 3) := by decide +kernel
theorem dX11_home_82 : decode cX11_home 82 = .ok (.iload_n 1, 1) := by decide +kernel
theorem dX11_home_83 : decode cX11_home 83 = .ok (.iconst 1, 1) := by decide +kernel
theorem dX11_home_84 : decode cX11_home 84 = .ok (.bastore, 1) := by decide +kernel
theorem dX11_home_85 : decode cX11_home 85 = .ok (.aload_n 0, 1) := by decide +kernel
theorem dX11_home_86 : decode cX11_home 86 = .ok (.getfield 34, 3) := by decide +kernel
theorem dX11_home_89 : decode cX11_home 89 = .ok (.iload_n 2, 1) := by decide +kernel
theorem dX11_home_90 : decode cX11_home 90 = .ok (.baload, 1) := by decide +kernel
theorem dX11_home_91 : decode cX11_home 91 = .ok (.ifCond .ne 18, 3) := by decide +kernel
theorem dX11_home_94 : decode cX11_home 94 = .ok (.aload_n 0, 1) := by decide +kernel
theorem dX11_home_95 : decode cX11_home 95 = .ok (.getfield 28, 3) := by decide +kernel
theorem dX11_home_98 : decode cX11_home 98 = .ok (.iload_n 2, 1) := by decide +kernel
theorem dX11_home_99 : decode cX11_home 99 = .ok (.iaload, 1) := by decide +kernel
theorem dX11_home_100 : decode cX11_home 100 = .ok (.aload_n 0, 1) := by decide +kernel
theorem dX11_home_101 : decode cX11_home 101 = .ok (.getfield 59, 3) := by decide +kernel
theorem dX11_home_104 : decode cX11_home 104 = .ok (.iload_n 1, 1) := by decide +kernel
theorem dX11_home_105 : decode cX11_home 105 = .ok (.iaload, 1) := by decide +kernel
theorem dX11_home_106 : decode cX11_home 106 = .ok (.if_icmp .ge 12, 3) := by decide +kernel
theorem dX11_home_109 : decode cX11_home 109 = .ok (.aload_n 0, 1) := by decide +kernel
theorem dX11_home_110 : decode cX11_home 110 = .ok (.getfield 34, 3) := by decide +kernel
theorem dX11_home_113 : decode cX11_home 113 = .ok (.iload_n 2, 1) := by decide +kernel
theorem dX11_home_114 : decode cX11_home 114 = .ok (.iconst 1, 1) := by decide +kernel
theorem dX11_home_115 : decode cX11_home 115 = .ok (.bastore, 1) := by decide +kernel
theorem dX11_home_116 : decode cX11_home 116 = .ok (.iconst 0, 1) := by decide +kernel
theorem dX11_home_117 : decode cX11_home 117 = .ok (.ireturn, 1) := by decide +kernel
theorem dX11_home_118 : decode cX11_home 118 = .ok (.aload_n 0, 1) := by decide +kernel
theorem dX11_home_119 : decode cX11_home 119 = .ok (.getfield 28, 3) := by decide +kernel
theorem dX11_home_122 : decode cX11_home 122 = .ok (.iload_n 2, 1) := by decide +kernel
theorem dX11_home_123 : decode cX11_home 123 = .ok (.dup2, 1) := by decide +kernel
theorem dX11_home_124 : decode cX11_home 124 = .ok (.iaload, 1) := by decide +kernel
theorem dX11_home_125 : decode cX11_home 125 = .ok (.aload_n 0, 1) := by decide +kernel
theorem dX11_home_126 : decode cX11_home 126 = .ok (.getfield 59, 3) := by decide +kernel
theorem dX11_home_129 : decode cX11_home 129 = .ok (.iload_n 1, 1) := by decide +kernel
theorem dX11_home_130 : decode cX11_home 130 = .ok (.iaload, 1) := by decide +kernel
theorem dX11_home_131 : decode cX11_home 131 = .ok (.isub, 1) := by decide +kernel
theorem dX11_home_132 : decode cX11_home 132 = .ok (.iastore, 1) := by decide +kernel
theorem dX11_home_133 : decode cX11_home 133 = .ok (.aload_n 0, 1) := by decide +kernel
theorem dX11_home_134 : decode cX11_home 134 = .ok (.getfield 59, 3) := by decide +kernel
theorem dX11_home_137 : decode cX11_home 137 = .ok (.iload_n 1, 1) := by decide +kernel
theorem dX11_home_138 : decode cX11_home 138 = .ok (.iaload, 1) := by decide +kernel
theorem dX11_home_139 : decode cX11_home 139 = .ok (.ireturn, 1) := by decide +kernel
theorem dX11_cut_0 : decode cX11_cut 0 = .ok (.aload_n 0, 1) := by decide +kernel
theorem dX11_cut_1 : decode cX11_cut 1 = .ok (.iconst 0, 1) := by decide +kernel
theorem dX11_cut_2 : decode cX11_cut 2 = .ok (.putfield 113, 3) := by decide +kernel
theorem dX11_cut_5 : decode cX11_cut 5 = .ok (.aload_n 0, 1) := by decide +kernel
theorem dX11_cut_6 : decode cX11_cut 6 = .ok (.iload_n 1, 1) := by decide +kernel
theorem dX11_cut_7 : decode cX11_cut 7 = .ok (.invokevirtual 277, 3) := by decide +kernel
theorem dX11_cut_10 : decode cX11_cut 10 = .ok (.ifCond .eq 20, 3) := by decide +kernel
theorem dX11_cut_13 : decode cX11_cut 13 = .ok (.iload_n 2, 1) := by decide +kernel
theorem dX11_cut_14 : decode cX11_cut 14 = .ok (.invokestatic 270, 3) := by decide +kernel
theorem dX11_cut_17 : decode cX11_cut 17 = .ok (.ifCond .eq 13, 3) := by decide +kernel
theorem dX11_cut_20 : decode cX11_cut 20 = .ok (.aload_n 0, 1) := by decide +kernel
theorem dX11_cut_21 : decode cX11_cut 21 = .ok (.getfield 68, 3) := by decide +kernel
theorem dX11_cut_24 : decode cX11_cut 24 = .ok (.iload_n 1, 1) := by decide +kernel
theorem dX11_cut_25 : decode cX11_cut 25 = .ok (.iaload, 1) := by decide +kernel
theorem dX11_cut_26 : decode cX11_cut 26 = .ok (.iload_n 2, 1) := by decide +kernel
theorem dX11_cut_27 : decode cX11_cut 27 = .ok (.if_icmp .ne 6, 3) := by decide +kernel
theorem dX11_cut_30 : decode cX11_cut 30 = .ok (.ldc 133, 2) := by decide +kernel
theorem dX11_cut_32 : decode cX11_cut 32 = .ok (.ireturn, 1) := by decide +kernel
theorem dX11_cut_33 : decode cX11_cut 33 = .ok (.aload_n 0, 1) := by decide +kernel
theorem dX11_cut_34 : decode cX11_cut 34 = .ok (.getfield 68, 3) := by decide +kernel
theorem dX11_cut_37 : decode cX11_cut 37 = .ok (.iload_n 1, 1) := by decide +kernel
theorem dX11_cut_38 : decode cX11_cut 38 = .ok (.iaload, 1) := by decide +kernel
theorem dX11_cut_39 : decode cX11_cut 39 = .ok (.ldc 145, 2) := by decide +kernel
theorem dX11_cut_41 : decode cX11_cut 41 = .ok (.if_icmp .eq 12, 3) := by decide +kernel
theorem dX11_cut_44 : decode cX11_cut 44 = .ok (.aload_n 0, 1) := by decide +kernel
theorem dX11_cut_45 : decode cX11_cut 45 = .ok (.getfield 77, 3) := by decide +kernel
theorem dX11_cut_48 : decode cX11_cut 48 = .ok (.iload_n 1, 1) := by decide +kernel
theorem dX11_cut_49 : decode cX11_cut 49 = .ok (.baload, 1) := by decide +kernel
theorem dX11_cut_50 : decode cX11_cut 50 = .ok (.ifCond .eq 7, 3) := by decide +kernel
theorem dX11_cut_53 : decode cX11_cut 53 = .ok (.ldc_w 299, 3) := by decide +kernel
theorem dX11_cut_56 : decode cX11_cut 56 = .ok (.ireturn, 1) := by decide +kernel
theorem dX11_cut_57 : decode cX11_cut 57 = .ok (.aload_n 0, 1) := by decide +kernel
theorem dX11_cut_58 : decode cX11_cut 58 = .ok (.getfield 77, 3) := by decide +kernel
theorem dX11_cut_61 : decode cX11_cut 61 = .ok (.iload_n 1, 1) := by decide +kernel
theorem dX11_cut_62 : decode cX11_cut 62 = .ok (.iconst 1, 1) := by decide +kernel
theorem dX11_cut_63 : decode cX11_cut 63 = .ok (.bastore, 1) := by decide +kernel
theorem dX11_cut_64 : decode cX11_cut 64 = .ok (.aload_n 0, 1) := by decide +kernel
theorem dX11_cut_65 : decode cX11_cut 65 = .ok (.getfield 80, 3) := by decide +kernel
theorem dX11_cut_68 : decode cX11_cut 68 = .ok (.iload_n 1, 1) := by decide +kernel
theorem dX11_cut_69 : decode cX11_cut 69 = .ok (.iconst 1, 1) := by decide +kernel
theorem dX11_cut_70 : decode cX11_cut 70 = .ok (.bastore, 1) := by decide +kernel
theorem dX11_cut_71 : decode cX11_cut 71 = .ok (.aload_n 0, 1) := by decide +kernel
theorem dX11_cut_72 : decode cX11_cut 72 = .ok (.getfield 83, 3) := by decide +kernel
theorem dX11_cut_75 : decode cX11_cut 75 = .ok (.iconst 2, 1) := by decide +kernel
theorem dX11_cut_76 : decode cX11_cut 76 = .ok (.iload_n 1, 1) := by decide +kernel
theorem dX11_cut_77 : decode cX11_cut 77 = .ok (.imul, 1) := by decide +kernel
theorem dX11_cut_78 : decode cX11_cut 78 = .ok (.aload_n 0, 1) := by decide +kernel
theorem dX11_cut_79 : decode cX11_cut 79 = .ok (.getfield 68, 3) := by decide +kernel
theorem dX11_cut_82 : decode cX11_cut 82 = .ok (.iload_n 1, 1) := by decide +kernel
theorem dX11_cut_83 : decode cX11_cut 83 = .ok (.iaload, 1) := by decide +kernel
theorem dX11_cut_84 : decode cX11_cut 84 = .ok (.iastore, 1) := by decide +kernel
theorem dX11_cut_85 : decode cX11_cut 85 = .ok (.aload_n 0, 1) := by decide +kernel
theorem dX11_cut_86 : decode cX11_cut 86 = .ok (.getfield 83, 3) := by decide +kernel
theorem dX11_cut_89 : decode cX11_cut 89 = .ok (.iconst 2, 1) := by decide +kernel
theorem dX11_cut_90 : decode cX11_cut 90 = .ok (.iload_n 1, 1) := by decide +kernel
theorem dX11_cut_91 : decode cX11_cut 91 = .ok (.imul, 1) := by decide +kernel
theorem dX11_cut_92 : decode cX11_cut 92 = .ok (.iconst 1, 1) := by decide +kernel
theorem dX11_cut_93 : decode cX11_cut 93 = .ok (.iadd, 1) := by decide +kernel
theorem dX11_cut_94 : decode cX11_cut 94 = .ok (.iload_n 2, 1) := by decide +kernel
theorem dX11_cut_95 : decode cX11_cut 95 = .ok (.iastore, 1) := by decide +kernel
theorem dX11_cut_96 : decode cX11_cut 96 = .ok (.aload_n 0, 1) := by decide +kernel
theorem dX11_cut_97 : decode cX11_cut 97 = .ok (.getfield 68, 3) := by decide +kernel
theorem dX11_cut_100 : decode cX11_cut 100 = .ok (.iload_n 1, 1) := by decide +kernel
theorem dX11_cut_101 : decode cX11_cut 101 = .ok (.ldc 145, 2) := by decide +kernel
theorem dX11_cut_103 : decode cX11_cut 103 = .ok (.iastore, 1) := by decide +kernel
theorem dX11_cut_104 : decode cX11_cut 104 = .ok (.iconst 1, 1) := by decide +kernel
theorem dX11_cut_105 : decode cX11_cut 105 = .ok (.ireturn, 1) := by decide +kernel
theorem dX11_half_0 : decode cX11_half 0 = .ok (.aload_n 0, 1) := by decide +kernel
theorem dX11_half_1 : decode cX11_half 1 = .ok (.iconst 0, 1) := by decide +kernel
theorem dX11_half_2 : decode cX11_half 2 = .ok (.putfield 113, 3) := by decide +kernel
theorem dX11_half_5 : decode cX11_half 5 = .ok (.aload_n 0, 1) := by decide +kernel
theorem dX11_half_6 : decode cX11_half 6 = .ok (.iload_n 1, 1) := by decide +kernel
theorem dX11_half_7 : decode cX11_half 7 = .ok (.invokevirtual 277, 3) := by decide +kernel
theorem dX11_half_10 : decode cX11_half 10 = .ok (.ifCond .eq 26, 3) := by decide +kernel
theorem dX11_half_13 : decode cX11_half 13 = .ok (.iload_n 2, 1) := by decide +kernel
theorem dX11_half_14 : decode cX11_half 14 = .ok (.i2l, 1) := by decide +kernel
theorem dX11_half_15 : decode cX11_half 15 = .ok (.lconst 0, 1) := by decide +kernel
theorem dX11_half_16 : decode cX11_half 16 = .ok (.lconst 1, 1) := by decide +kernel
theorem dX11_half_17 : decode cX11_half 17 = .ok (.invokestatic 123, 3) := by decide +kernel
theorem dX11_half_20 : decode cX11_half 20 = .ok (.ifCond .eq 16, 3) := by decide +kernel
