theorem dX5_reads_82 : decode cX5_reads 82 = .ok (.sipush 300, 3) := by decide +kernel
theorem dX5_reads_85 : decode cX5_reads 85 = .ok (.goto 34, 3) := by decide +kernel
theorem dX5_reads_88 : decode cX5_reads 88 = .ok (.iload_n 1, 1) := by decide +kernel
theorem dX5_reads_89 : decode cX5_reads 89 = .ok (.iconst 5, 1) := by decide +kernel
theorem dX5_reads_90 : decode cX5_reads 90 = .ok (.if_icmp .ne 8, 3) := by decide +kernel
theorem dX5_reads_93 : decode cX5_reads 93 = .ok (.bipush 40, 2) := by decide +kernel
theorem dX5_reads_95 : decode cX5_reads 95 = .ok (.goto 24, 3) := by decide +kernel
theorem dX5_reads_98 : decode cX5_reads 98 = .ok (.iload_n 1, 1) := by decide +kernel
theorem dX5_reads_99 : decode cX5_reads 99 = .ok (.bipush 6, 2) := by decide +kernel
theorem dX5_reads_101 : decode cX5_reads 101 = .ok (.if_icmp .ne 7, 3) := by decide +kernel
theorem dX5_reads_104 : decode cX5_reads 104 = .ok (.iconst 2, 1) := by decide +kernel
theorem dX5_reads_105 : decode cX5_reads 105 = .ok (.goto 14, 3) := by decide +kernel
theorem dX5_reads_108 : decode cX5_reads 108 = .ok (.iload_n 1, 1) := by decide +kernel
theorem dX5_reads_109 : decode cX5_reads 109 = .ok (.bipush 7, 2) := by decide +kernel
theorem dX5_reads_111 : decode cX5_reads 111 = .ok (.if_icmp .ne 7, 3) := by decide +kernel
theorem dX5_reads_114 : decode cX5_reads 114 = .ok (.iconst 4, 1) := by decide +kernel
theorem dX5_reads_115 : decode cX5_reads 115 = .ok (.goto 4, 3) := by decide +kernel
theorem dX5_reads_118 : decode cX5_reads 118 = .ok (.iconst 0, 1) := by decide +kernel
theorem dX5_reads_119 : decode cX5_reads 119 = .ok (.iastore, 1) := by decide +kernel
theorem dX5_reads_120 : decode cX5_reads 120 = .ok (.iinc 1 1, 3) := by decide +kernel
theorem dX5_reads_123 : decode cX5_reads 123 = .ok (.goto (-94), 3) := by decide +kernel
theorem dX5_reads_126 : decode cX5_reads 126 = .ok (.aload_n 0, 1) := by decide +kernel
theorem dX5_reads_127 : decode cX5_reads 127 = .ok (.invokevirtual 71, 3) := by decide +kernel
theorem dX5_reads_130 : decode cX5_reads 130 = .ok (.aload_n 0, 1) := by decide +kernel
theorem dX5_reads_131 : decode cX5_reads 131 = .ok (.getfield 65, 3) := by decide +kernel
theorem dX5_reads_134 : decode cX5_reads 134 = .ok (.aload_n 0, 1) := by decide +kernel
theorem dX5_reads_135 : decode cX5_reads 135 = .ok (.getfield 62, 3) := by decide +kernel
theorem dX5_reads_138 : decode cX5_reads 138 = .ok (.if_icmp .ge 50, 3) := by decide +kernel
theorem dX5_reads_141 : decode cX5_reads 141 = .ok (.aload_n 0, 1) := by decide +kernel
theorem dX5_reads_142 : decode cX5_reads 142 = .ok (.invokevirtual 137, 3) := by decide +kernel
theorem dX5_reads_145 : decode cX5_reads 145 = .ok (.ifCond .ne 26, 3) := by decide +kernel
theorem dX5_reads_148 : decode cX5_reads 148 = .ok (.aload_n 0, 1) := by decide +kernel
theorem dX5_reads_149 : decode cX5_reads 149 = .ok (.getfield 68, 3) := by decide +kernel
theorem dX5_reads_152 : decode cX5_reads 152 = .ok (.aload_n 0, 1) := by decide +kernel
theorem dX5_reads_153 : decode cX5_reads 153 = .ok (.getfield 62, 3) := by decide +kernel
theorem dX5_reads_156 : decode cX5_reads 156 = .ok (.if_icmp .ge 10, 3) := by decide +kernel
theorem dX5_reads_159 : decode cX5_reads 159 = .ok (.aload_n 0, 1) := by decide +kernel
theorem dX5_reads_160 : decode cX5_reads 160 = .ok (.getfield 68, 3) := by decide +kernel
theorem dX5_reads_163 : decode cX5_reads 163 = .ok (.goto 7, 3) := by decide +kernel
theorem dX5_reads_166 : decode cX5_reads 166 = .ok (.aload_n 0, 1) := by decide +kernel
theorem dX5_reads_167 : decode cX5_reads 167 = .ok (.getfield 62, 3) := by decide +kernel
theorem dX5_reads_170 : decode cX5_reads 170 = .ok (.ireturn, 1) := by decide +kernel
theorem dX5_reads_171 : decode cX5_reads 171 = .ok (.aload_n 0, 1) := by decide +kernel
theorem dX5_reads_172 : decode cX5_reads 172 = .ok (.dup, 1) := by decide +kernel
theorem dX5_reads_173 : decode cX5_reads 173 = .ok (.getfield 134, 3) := by decide +kernel
theorem dX5_reads_176 : decode cX5_reads 176 = .ok (.iconst 1, 1) := by decide +kernel
theorem dX5_reads_177 : decode cX5_reads 177 = .ok (.iadd, 1) := by decide +kernel
theorem dX5_reads_178 : decode cX5_reads 178 = .ok (.putfield 134, 3) := by decide +kernel
theorem dX5_reads_181 : decode cX5_reads 181 = .ok (.aload_n 0, 1) := by decide +kernel
theorem dX5_reads_182 : decode cX5_reads 182 = .ok (.invokevirtual 71, 3) := by decide +kernel
theorem dX5_reads_185 : decode cX5_reads 185 = .ok (.goto (-55), 3) := by decide +kernel
theorem dX5_reads_188 : decode cX5_reads 188 = .ok (.bipush (-9), 2) := by decide +kernel
theorem dX5_reads_190 : decode cX5_reads 190 = .ok (.ireturn, 1) := by decide +kernel
theorem dX5_sausage_0 : decode cX5_sausage 0 = .ok (.aload_n 0, 1) := by decide +kernel
theorem dX5_sausage_1 : decode cX5_sausage 1 = .ok (.invokevirtual 140, 3) := by decide +kernel
theorem dX5_sausage_4 : decode cX5_sausage 4 = .ok (.istore_n 1, 1) := by decide +kernel
theorem dX5_sausage_5 : decode cX5_sausage 5 = .ok (.iload_n 1, 1) := by decide +kernel
theorem dX5_sausage_6 : decode cX5_sausage 6 = .ok (.ifCond .lt 8, 3) := by decide +kernel
theorem dX5_sausage_9 : decode cX5_sausage 9 = .ok (.bipush (-10), 2) := by decide +kernel
theorem dX5_sausage_11 : decode cX5_sausage 11 = .ok (.iload_n 1, 1) := by decide +kernel
theorem dX5_sausage_12 : decode cX5_sausage 12 = .ok (.isub, 1) := by decide +kernel
theorem dX5_sausage_13 : decode cX5_sausage 13 = .ok (.ireturn, 1) := by decide +kernel
theorem dX5_sausage_14 : decode cX5_sausage 14 = .ok (.iconst 0, 1) := by decide +kernel
theorem dX5_sausage_15 : decode cX5_sausage 15 = .ok (.istore_n 2, 1) := by decide +kernel
theorem dX5_sausage_16 : decode cX5_sausage 16 = .ok (.iload_n 2, 1) := by decide +kernel
theorem dX5_sausage_17 : decode cX5_sausage 17 = .ok (.bipush 9, 2) := by decide +kernel
theorem dX5_sausage_19 : decode cX5_sausage 19 = .ok (.if_icmp .ge 24, 3) := by decide +kernel
theorem dX5_sausage_22 : decode cX5_sausage 22 = .ok (.aload_n 0, 1) := by decide +kernel
theorem dX5_sausage_23 : decode cX5_sausage 23 = .ok (.getfield 13, 3) := by decide +kernel
theorem dX5_sausage_26 : decode cX5_sausage 26 = .ok (.iload_n 2, 1) := by decide +kernel
theorem dX5_sausage_27 : decode cX5_sausage 27 = .ok (.aload_n 0, 1) := by decide +kernel
theorem dX5_sausage_28 : decode cX5_sausage 28 = .ok (.getfield 13, 3) := by decide +kernel
theorem dX5_sausage_31 : decode cX5_sausage 31 = .ok (.bipush 9, 2) := by decide +kernel
theorem dX5_sausage_33 : decode cX5_sausage 33 = .ok (.iload_n 2, 1) := by decide +kernel
theorem dX5_sausage_34 : decode cX5_sausage 34 = .ok (.iadd, 1) := by decide +kernel
theorem dX5_sausage_35 : decode cX5_sausage 35 = .ok (.iaload, 1) := by decide +kernel
theorem dX5_sausage_36 : decode cX5_sausage 36 = .ok (.iastore, 1) := by decide +kernel
theorem dX5_sausage_37 : decode cX5_sausage 37 = .ok (.iinc 2 1, 3) := by decide +kernel
theorem dX5_sausage_40 : decode cX5_sausage 40 = .ok (.goto (-24), 3) := by decide +kernel
theorem dX5_sausage_43 : decode cX5_sausage 43 = .ok (.aload_n 0, 1) := by decide +kernel
theorem dX5_sausage_44 : decode cX5_sausage 44 = .ok (.getfield 17, 3) := by decide +kernel
theorem dX5_sausage_47 : decode cX5_sausage 47 = .ok (.iconst 0, 1) := by decide +kernel
theorem dX5_sausage_48 : decode cX5_sausage 48 = .ok (.aload_n 0, 1) := by decide +kernel
theorem dX5_sausage_49 : decode cX5_sausage 49 = .ok (.getfield 17, 3) := by decide +kernel
theorem dX5_sausage_52 : decode cX5_sausage 52 = .ok (.iconst 1, 1) := by decide +kernel
theorem dX5_sausage_53 : decode cX5_sausage 53 = .ok (.iaload, 1) := by decide +kernel
theorem dX5_sausage_54 : decode cX5_sausage 54 = .ok (.iastore, 1) := by decide +kernel
theorem dX5_sausage_55 : decode cX5_sausage 55 = .ok (.iconst 0, 1) := by decide +kernel
theorem dX5_sausage_56 : decode cX5_sausage 56 = .ok (.istore_n 2, 1) := by decide +kernel
theorem dX5_sausage_57 : decode cX5_sausage 57 = .ok (.iload_n 2, 1) := by decide +kernel
theorem dX5_sausage_58 : decode cX5_sausage 58 = .ok (.bipush 36, 2) := by decide +kernel
theorem dX5_sausage_60 : decode cX5_sausage 60 = .ok (.if_icmp .ge 24, 3) := by decide +kernel
theorem dX5_sausage_63 : decode cX5_sausage 63 = .ok (.aload_n 0, 1) := by decide +kernel
theorem dX5_sausage_64 : decode cX5_sausage 64 = .ok (.getfield 20, 3) := by decide +kernel
theorem dX5_sausage_67 : decode cX5_sausage 67 = .ok (.iload_n 2, 1) := by decide +kernel
theorem dX5_sausage_68 : decode cX5_sausage 68 = .ok (.aload_n 0, 1) := by decide +kernel
theorem dX5_sausage_69 : decode cX5_sausage 69 = .ok (.getfield 20, 3) := by decide +kernel
theorem dX5_sausage_72 : decode cX5_sausage 72 = .ok (.bipush 36, 2) := by decide +kernel
theorem dX5_sausage_74 : decode cX5_sausage 74 = .ok (.iload_n 2, 1) := by decide +kernel
theorem dX5_sausage_75 : decode cX5_sausage 75 = .ok (.iadd, 1) := by decide +kernel
theorem dX5_sausage_76 : decode cX5_sausage 76 = .ok (.iaload, 1) := by decide +kernel
theorem dX5_sausage_77 : decode cX5_sausage 77 = .ok (.iastore, 1) := by decide +kernel
theorem dX5_sausage_78 : decode cX5_sausage 78 = .ok (.iinc 2 1, 3) := by decide +kernel
theorem dX5_sausage_81 : decode cX5_sausage 81 = .ok (.goto (-24), 3) := by decide +kernel
theorem dX5_sausage_84 : decode cX5_sausage 84 = .ok (.aload_n 0, 1) := by decide +kernel
theorem dX5_sausage_85 : decode cX5_sausage 85 = .ok (.iconst 0, 1) := by decide +kernel
theorem dX5_sausage_86 : decode cX5_sausage 86 = .ok (.invokevirtual 52, 3) := by decide +kernel
theorem dX5_sausage_89 : decode cX5_sausage 89 = .ok (.aload_n 0, 1) := by decide +kernel
theorem dX5_sausage_90 : decode cX5_sausage 90 = .ok (.getfield 26, 3) := by decide +kernel
theorem dX5_sausage_93 : decode cX5_sausage 93 = .ok (.iconst 0, 1) := by decide +kernel
theorem dX5_sausage_94 : decode cX5_sausage 94 = .ok (.iconst 0, 1) := by decide +kernel
theorem dX5_sausage_95 : decode cX5_sausage 95 = .ok (.bastore, 1) := by decide +kernel
theorem dX5_sausage_96 : decode cX5_sausage 96 = .ok (.aload_n 0, 1) := by decide +kernel
theorem dX5_sausage_97 : decode cX5_sausage 97 = .ok (.getfield 26, 3) := by decide +kernel
theorem dX5_sausage_100 : decode cX5_sausage 100 = .ok (.iconst 1, 1) := by decide +kernel
theorem dX5_sausage_101 : decode cX5_sausage 101 = .ok (.iconst 0, 1) := by decide +kernel
theorem dX5_sausage_102 : decode cX5_sausage 102 = .ok (.bastore, 1) := by decide +kernel
theorem dX5_sausage_103 : decode cX5_sausage 103 = .ok (.aload_n 0, 1) := by decide +kernel
theorem dX5_sausage_104 : decode cX5_sausage 104 = .ok (.iconst 0, 1) := by decide +kernel
theorem dX5_sausage_105 : decode cX5_sausage 105 = .ok (.putfield 62, 3) := by decide +kernel
theorem dX5_sausage_108 : decode cX5_sausage 108 = .ok (.aload_n 0, 1) := by decide +kernel
theorem dX5_sausage_109 : decode cX5_sausage 109 = .ok (.getfield 134, 3) := by decide +kernel
theorem dX5_sausage_112 : decode cX5_sausage 112 = .ok (.ireturn, 1) := by decide +kernel
theorem dX5_allSeconds_0 : decode cX5_allSeconds 0 = .ok (.iconst 0, 1) := by decide +kernel
theorem dX5_allSeconds_1 : decode cX5_allSeconds 1 = .ok (.istore_n 1, 1) := by decide +kernel
theorem dX5_allSeconds_2 : decode cX5_allSeconds 2 = .ok (.iconst 0, 1) := by decide +kernel
theorem dX5_allSeconds_3 : decode cX5_allSeconds 3 = .ok (.istore_n 2, 1) := by decide +kernel
theorem dX5_allSeconds_4 : decode cX5_allSeconds 4 = .ok (.iload_n 2, 1) := by decide +kernel
theorem dX5_allSeconds_5 : decode cX5_allSeconds 5 = .ok (.aload_n 0, 1) := by decide +kernel
theorem dX5_allSeconds_6 : decode cX5_allSeconds 6 = .ok (.getfield 17, 3) := by decide +kernel
theorem dX5_allSeconds_9 : decode cX5_allSeconds 9 = .ok (.iconst 0, 1) := by decide +kernel
theorem dX5_allSeconds_10 : decode cX5_allSeconds 10 = .ok (.iaload, 1) := by decide +kernel
theorem dX5_allSeconds_11 : decode cX5_allSeconds 11 = .ok (.if_icmp .ge 22, 3) := by decide +kernel
theorem dX5_allSeconds_14 : decode cX5_allSeconds 14 = .ok (.iload_n 1, 1) := by decide +kernel
theorem dX5_allSeconds_15 : decode cX5_allSeconds 15 = .ok (.aload_n 0, 1) := by decide +kernel
theorem dX5_allSeconds_16 : decode cX5_allSeconds 16 = .ok (.getfield 20, 3) := by decide +kernel
theorem dX5_allSeconds_19 : decode cX5_allSeconds 19 = .ok (.iconst 3, 1) := by decide +kernel
theorem dX5_allSeconds_20 : decode cX5_allSeconds 20 = .ok (.iload_n 2, 1) := by decide +kernel
theorem dX5_allSeconds_21 : decode cX5_allSeconds 21 = .ok (.imul, 1) := by decide +kernel
theorem dX5_allSeconds_22 : decode cX5_allSeconds 22 = .ok (.iconst 2, 1) := by decide +kernel
theorem dX5_allSeconds_23 : decode cX5_allSeconds 23 = .ok (.iadd, 1) := by decide +kernel
theorem dX5_allSeconds_24 : decode cX5_allSeconds 24 = .ok (.iaload, 1) := by decide +kernel
theorem dX5_allSeconds_25 : decode cX5_allSeconds 25 = .ok (.iadd, 1) := by decide +kernel
theorem dX5_allSeconds_26 : decode cX5_allSeconds 26 = .ok (.istore_n 1, 1) := by decide +kernel
theorem dX5_allSeconds_27 : decode cX5_allSeconds 27 = .ok (.iinc 2 1, 3) := by decide +kernel
theorem dX5_allSeconds_30 : decode cX5_allSeconds 30 = .ok (.goto (-26), 3) := by decide +kernel
theorem dX5_allSeconds_33 : decode cX5_allSeconds 33 = .ok (.iload_n 1, 1) := by decide +kernel
theorem dX5_allSeconds_34 : decode cX5_allSeconds 34 = .ok (.ireturn, 1) := by decide +kernel
theorem dX5_told_0 : decode cX5_told 0 = .ok (.iload_n 1, 1) := by decide +kernel
theorem dX5_told_1 : decode cX5_told 1 = .ok (.i2l, 1) := by decide +kernel
theorem dX5_told_2 : decode cX5_told 2 = .ok (.lconst 0, 1) := by decide +kernel
theorem dX5_told_3 : decode cX5_told 3 = .ok (.ldc2_w 143, 3) := by decide +kernel
theorem dX5_told_6 : decode cX5_told 6 = .ok (.invokestatic 58, 3) := by decide +kernel
theorem dX5_told_9 : decode cX5_told 9 = .ok (.ifCond .ne 7, 3) := by decide +kernel
theorem dX5_told_12 : decode cX5_told 12 = .ok (.iconst (-1), 1) := by decide +kernel
theorem dX5_told_13 : decode cX5_told 13 = .ok (.goto 37, 3) := by decide +kernel
theorem dX5_told_16 : decode cX5_told 16 = .ok (.iload_n 1, 1) := by decide +kernel
theorem dX5_told_17 : decode cX5_told 17 = .ok (.bipush 9, 2) := by decide +kernel
theorem dX5_told_19 : decode cX5_told 19 = .ok (.if_icmp .ge 12, 3) := by decide +kernel
theorem dX5_told_22 : decode cX5_told 22 = .ok (.aload_n 0, 1) := by decide +kernel
theorem dX5_told_23 : decode cX5_told 23 = .ok (.getfield 13, 3) := by decide +kernel
theorem dX5_told_26 : decode cX5_told 26 = .ok (.iload_n 1, 1) := by decide +kernel
theorem dX5_told_27 : decode cX5_told 27 = .ok (.iaload, 1) := by decide +kernel
theorem dX5_told_28 : decode cX5_told 28 = .ok (.goto 22, 3) := by decide +kernel
theorem dX5_told_31 : decode cX5_told 31 = .ok (.iload_n 1, 1) := by decide +kernel
theorem dX5_told_32 : decode cX5_told 32 = .ok (.bipush 9, 2) := by decide +kernel
theorem dX5_told_34 : decode cX5_told 34 = .ok (.if_icmp .ne 12, 3) := by decide +kernel
theorem dX5_told_37 : decode cX5_told 37 = .ok (.aload_n 0, 1) := by decide +kernel
theorem dX5_told_38 : decode cX5_told 38 = .ok (.getfield 17, 3) := by decide +kernel
theorem dX5_told_41 : decode cX5_told 41 = .ok (.iconst 0, 1) := by decide +kernel
theorem dX5_told_42 : decode cX5_told 42 = .ok (.iaload, 1) := by decide +kernel
theorem dX5_told_43 : decode cX5_told 43 = .ok (.goto 7, 3) := by decide +kernel
theorem dX5_told_46 : decode cX5_told 46 = .ok (.aload_n 0, 1) := by decide +kernel
theorem dX5_told_47 : decode cX5_told 47 = .ok (.invokevirtual 145, 3) := by decide +kernel
theorem dX5_told_50 : decode cX5_told 50 = .ok (.ireturn, 1) := by decide +kernel
theorem dX5_doing_0 : decode cX5_doing 0 = .ok (.iload_n 1, 1) := by decide +kernel
theorem dX5_doing_1 : decode cX5_doing 1 = .ok (.i2l, 1) := by decide +kernel
theorem dX5_doing_2 : decode cX5_doing 2 = .ok (.lconst 0, 1) := by decide +kernel
theorem dX5_doing_3 : decode cX5_doing 3 = .ok (.aload_n 0, 1) := by decide +kernel
theorem dX5_doing_4 : decode cX5_doing 4 = .ok (.getfield 17, 3) := by decide +kernel
theorem dX5_doing_7 : decode cX5_doing 7 = .ok (.iconst 0, 1) := by decide +kernel
theorem dX5_doing_8 : decode cX5_doing 8 = .ok (.iaload, 1) := by decide +kernel
theorem dX5_doing_9 : decode cX5_doing 9 = .ok (.iconst 1, 1) := by decide +kernel
theorem dX5_doing_10 : decode cX5_doing 10 = .ok (.isub, 1) := by decide +kernel
theorem dX5_doing_11 : decode cX5_doing 11 = .ok (.i2l, 1) := by decide +kernel
theorem dX5_doing_12 : decode cX5_doing 12 = .ok (.invokestatic 58, 3) := by decide +kernel
theorem dX5_doing_15 : decode cX5_doing 15 = .ok (.ifCond .eq 28, 3) := by decide +kernel
theorem dX5_doing_18 : decode cX5_doing 18 = .ok (.iload_n 2, 1) := by decide +kernel
theorem dX5_doing_19 : decode cX5_doing 19 = .ok (.i2l, 1) := by decide +kernel
theorem dX5_doing_20 : decode cX5_doing 20 = .ok (.lconst 0, 1) := by decide +kernel
theorem dX5_doing_21 : decode cX5_doing 21 = .ok (.ldc2_w 148, 3) := by decide +kernel
theorem dX5_doing_24 : decode cX5_doing 24 = .ok (.invokestatic 58, 3) := by decide +kernel
theorem dX5_doing_27 : decode cX5_doing 27 = .ok (.ifCond .eq 16, 3) := by decide +kernel
theorem dX5_doing_30 : decode cX5_doing 30 = .ok (.aload_n 0, 1) := by decide +kernel
theorem dX5_doing_31 : decode cX5_doing 31 = .ok (.getfield 20, 3) := by decide +kernel
theorem dX5_doing_34 : decode cX5_doing 34 = .ok (.iconst 3, 1) := by decide +kernel
theorem dX5_doing_35 : decode cX5_doing 35 = .ok (.iload_n 1, 1) := by decide +kernel
theorem dX5_doing_36 : decode cX5_doing 36 = .ok (.imul, 1) := by decide +kernel
theorem dX5_doing_37 : decode cX5_doing 37 = .ok (.iload_n 2, 1) := by decide +kernel
theorem dX5_doing_38 : decode cX5_doing 38 = .ok (.iadd, 1) := by decide +kernel
theorem dX5_doing_39 : decode cX5_doing 39 = .ok (.iaload, 1) := by decide +kernel
theorem dX5_doing_40 : decode cX5_doing 40 = .ok (.goto 4, 3) := by decide +kernel
theorem dX5_doing_43 : decode cX5_doing 43 = .ok (.iconst (-1), 1) := by decide +kernel
theorem dX5_doing_44 : decode cX5_doing 44 = .ok (.ireturn, 1) := by decide +kernel
theorem dX5_begins_0 : decode cX5_begins 0 = .ok (.iconst 0, 1) := by decide +kernel
theorem dX5_begins_1 : decode cX5_begins 1 = .ok (.istore_n 2, 1) := by decide +kernel
theorem dX5_begins_2 : decode cX5_begins 2 = .ok (.iload_n 2, 1) := by decide +kernel
theorem dX5_begins_3 : decode cX5_begins 3 = .ok (.bipush 20, 2) := by decide +kernel
theorem dX5_begins_5 : decode cX5_begins 5 = .ok (.if_icmp .ge 31, 3) := by decide +kernel
theorem dX5_begins_8 : decode cX5_begins 8 = .ok (.aload_n 0, 1) := by decide +kernel
theorem dX5_begins_9 : decode cX5_begins 9 = .ok (.getfield 23, 3) := by decide +kernel
theorem dX5_begins_12 : decode cX5_begins 12 = .ok (.bipush 20, 2) := by decide +kernel
theorem dX5_begins_14 : decode cX5_begins 14 = .ok (.iload_n 1, 1) := by decide +kernel
theorem dX5_begins_15 : decode cX5_begins 15 = .ok (.imul, 1) := by decide +kernel
theorem dX5_begins_16 : decode cX5_begins 16 = .ok (.iload_n 2, 1) := by decide +kernel
theorem dX5_begins_17 : decode cX5_begins 17 = .ok (.iadd, 1) := by decide +kernel
theorem dX5_begins_18 : decode cX5_begins 18 = .ok (.iload_n 2, 1) := by decide +kernel
theorem dX5_begins_19 : decode cX5_begins 19 = .ok (.iconst 4, 1) := by decide +kernel
theorem dX5_begins_20 : decode cX5_begins 20 = .ok (.if_icmp .gt 8, 3) := by decide +kernel
theorem dX5_begins_23 : decode cX5_begins 23 = .ok (.bipush 20, 2) := by decide +kernel
theorem dX5_begins_25 : decode cX5_begins 25 = .ok (.goto 4, 3) := by decide +kernel
theorem dX5_begins_28 : decode cX5_begins 28 = .ok (.iconst 0, 1) := by decide +kernel
theorem dX5_begins_29 : decode cX5_begins 29 = .ok (.iastore, 1) := by decide +kernel
theorem dX5_begins_30 : decode cX5_begins 30 = .ok (.iinc 2 1, 3) := by decide +kernel
theorem dX5_begins_33 : decode cX5_begins 33 = .ok (.goto (-31), 3) := by decide +kernel
theorem dX5_begins_36 : decode cX5_begins 36 = .ok (.aload_n 0, 1) := by decide +kernel
theorem dX5_begins_37 : decode cX5_begins 37 = .ok (.getfield 23, 3) := by decide +kernel
theorem dX5_begins_40 : decode cX5_begins 40 = .ok (.bipush 20, 2) := by decide +kernel
theorem dX5_begins_42 : decode cX5_begins 42 = .ok (.iload_n 1, 1) := by decide +kernel
theorem dX5_begins_43 : decode cX5_begins 43 = .ok (.imul, 1) := by decide +kernel
theorem dX5_begins_44 : decode cX5_begins 44 = .ok (.bipush 9, 2) := by decide +kernel
theorem dX5_begins_46 : decode cX5_begins 46 = .ok (.iadd, 1) := by decide +kernel
theorem dX5_begins_47 : decode cX5_begins 47 = .ok (.aload_n 0, 1) := by decide +kernel
theorem dX5_begins_48 : decode cX5_begins 48 = .ok (.getfield 13, 3) := by decide +kernel
theorem dX5_begins_51 : decode cX5_begins 51 = .ok (.iconst 3, 1) := by decide +kernel
theorem dX5_begins_52 : decode cX5_begins 52 = .ok (.iaload, 1) := by decide +kernel
theorem dX5_begins_53 : decode cX5_begins 53 = .ok (.iastore, 1) := by decide +kernel
theorem dX5_begins_54 : decode cX5_begins 54 = .ok (.aload_n 0, 1) := by decide +kernel
theorem dX5_begins_55 : decode cX5_begins 55 = .ok (.getfield 23, 3) := by decide +kernel
theorem dX5_begins_58 : decode cX5_begins 58 = .ok (.bipush 20, 2) := by decide +kernel
theorem dX5_begins_60 : decode cX5_begins 60 = .ok (.iload_n 1, 1) := by decide +kernel
theorem dX5_begins_61 : decode cX5_begins 61 = .ok (.imul, 1) := by decide +kernel
theorem dX5_begins_62 : decode cX5_begins 62 = .ok (.bipush 14, 2) := by decide +kernel
theorem dX5_begins_64 : decode cX5_begins 64 = .ok (.iadd, 1) := by decide +kernel
theorem dX5_begins_65 : decode cX5_begins 65 = .ok (.bipush (-9), 2) := by decide +kernel
theorem dX5_begins_67 : decode cX5_begins 67 = .ok (.iastore, 1) := by decide +kernel
theorem dX5_begins_68 : decode cX5_begins 68 = .ok (.return_, 1) := by decide +kernel
theorem dX5_press_0 : decode cX5_press 0 = .ok (.bipush 20, 2) := by decide +kernel
theorem dX5_press_2 : decode cX5_press 2 = .ok (.iload_n 1, 1) := by decide +kernel
theorem dX5_press_3 : decode cX5_press 3 = .ok (.imul, 1) := by decide +kernel
theorem dX5_press_4 : decode cX5_press 4 = .ok (.istore_n 2, 1) := by decide +kernel
theorem dX5_press_5 : decode cX5_press 5 = .ok (.aload_n 0, 1) := by decide +kernel
theorem dX5_press_6 : decode cX5_press 6 = .ok (.getfield 23, 3) := by decide +kernel
theorem dX5_press_9 : decode cX5_press 9 = .ok (.iload_n 2, 1) := by decide +kernel
theorem dX5_press_10 : decode cX5_press 10 = .ok (.bipush 13, 2) := by decide +kernel
theorem dX5_press_12 : decode cX5_press 12 = .ok (.iadd, 1) := by decide +kernel
theorem dX5_press_13 : decode cX5_press 13 = .ok (.iaload, 1) := by decide +kernel
theorem dX5_press_14 : decode cX5_press 14 = .ok (.ifCond .le 5, 3) := by decide +kernel
theorem dX5_press_17 : decode cX5_press 17 = .ok (.iconst 0, 1) := by decide +kernel
theorem dX5_press_18 : decode cX5_press 18 = .ok (.ireturn, 1) := by decide +kernel
theorem dX5_press_19 : decode cX5_press 19 = .ok (.aload_n 0, 1) := by decide +kernel
theorem dX5_press_20 : decode cX5_press 20 = .ok (.getfield 23, 3) := by decide +kernel
theorem dX5_press_23 : decode cX5_press 23 = .ok (.iload_n 2, 1) := by decide +kernel
theorem dX5_press_24 : decode cX5_press 24 = .ok (.iconst 4, 1) := by decide +kernel
theorem dX5_press_25 : decode cX5_press 25 = .ok (.iadd, 1) := by decide +kernel
theorem dX5_press_26 : decode cX5_press 26 = .ok (.iaload, 1) := by decide +kernel
theorem dX5_press_27 : decode cX5_press 27 = .ok (.bipush 40, 2) := by decide +kernel
theorem dX5_press_29 : decode cX5_press 29 = .ok (.isub, 1) := by decide +kernel
theorem dX5_press_30 : decode cX5_press 30 = .ok (.iconst 4, 1) := by decide +kernel
theorem dX5_press_31 : decode cX5_press 31 = .ok (.idiv, 1) := by decide +kernel
theorem dX5_press_32 : decode cX5_press 32 = .ok (.istore_n 3, 1) := by decide +kernel
theorem dX5_press_33 : decode cX5_press 33 = .ok (.aload_n 0, 1) := by decide +kernel
theorem dX5_press_34 : decode cX5_press 34 = .ok (.getfield 13, 3) := by decide +kernel
theorem dX5_press_37 : decode cX5_press 37 = .ok (.iconst 2, 1) := by decide +kernel
theorem dX5_press_38 : decode cX5_press 38 = .ok (.iaload, 1) := by decide +kernel
theorem dX5_press_39 : decode cX5_press 39 = .ok (.iload_n 3, 1) := by decide +kernel
theorem dX5_press_40 : decode cX5_press 40 = .ok (.ifCond .le 7, 3) := by decide +kernel
theorem dX5_press_43 : decode cX5_press 43 = .ok (.iload_n 3, 1) := by decide +kernel
theorem dX5_press_44 : decode cX5_press 44 = .ok (.goto 4, 3) := by decide +kernel
theorem dX5_press_47 : decode cX5_press 47 = .ok (.iconst 0, 1) := by decide +kernel
theorem dX5_press_48 : decode cX5_press 48 = .ok (.iadd, 1) := by decide +kernel
theorem dX5_press_49 : decode cX5_press 49 = .ok (.aload_n 0, 1) := by decide +kernel
theorem dX5_press_50 : decode cX5_press 50 = .ok (.getfield 23, 3) := by decide +kernel
theorem dX5_press_53 : decode cX5_press 53 = .ok (.iload_n 2, 1) := by decide +kernel
theorem dX5_press_54 : decode cX5_press 54 = .ok (.bipush 15, 2) := by decide +kernel
theorem dX5_press_56 : decode cX5_press 56 = .ok (.iadd, 1) := by decide +kernel
theorem dX5_press_57 : decode cX5_press 57 = .ok (.iaload, 1) := by decide +kernel
theorem dX5_press_58 : decode cX5_press 58 = .ok (.iconst 2, 1) := by decide +kernel
theorem dX5_press_59 : decode cX5_press 59 = .ok (.idiv, 1) := by decide +kernel
theorem dX5_press_60 : decode cX5_press 60 = .ok (.iadd, 1) := by decide +kernel
theorem dX5_press_61 : decode cX5_press 61 = .ok (.iconst 5, 1) := by decide +kernel
theorem dX5_press_62 : decode cX5_press 62 = .ok (.aload_n 0, 1) := by decide +kernel
theorem dX5_press_63 : decode cX5_press 63 = .ok (.getfield 23, 3) := by decide +kernel
theorem dX5_press_66 : decode cX5_press 66 = .ok (.iload_n 2, 1) := by decide +kernel
theorem dX5_press_67 : decode cX5_press 67 = .ok (.bipush 10, 2) := by decide +kernel
theorem dX5_press_69 : decode cX5_press 69 = .ok (.iadd, 1) := by decide +kernel
theorem dX5_press_70 : decode cX5_press 70 = .ok (.iaload, 1) := by decide +kernel
theorem dX5_press_71 : decode cX5_press 71 = .ok (.imul, 1) := by decide +kernel
theorem dX5_press_72 : decode cX5_press 72 = .ok (.isub, 1) := by decide +kernel
theorem dX5_press_73 : decode cX5_press 73 = .ok (.istore 4, 2) := by decide +kernel
theorem dX5_press_75 : decode cX5_press 75 = .ok (.iload 4, 2) := by decide +kernel
theorem dX5_press_77 : decode cX5_press 77 = .ok (.ifCond .ge 7, 3) := by decide +kernel
theorem dX5_press_80 : decode cX5_press 80 = .ok (.iconst 0, 1) := by decide +kernel
theorem dX5_press_81 : decode cX5_press 81 = .ok (.goto 5, 3) := by decide +kernel
theorem dX5_press_84 : decode cX5_press 84 = .ok (.iload 4, 2) := by decide +kernel
theorem dX5_press_86 : decode cX5_press 86 = .ok (.ireturn, 1) := by decide +kernel
theorem dX5_holdsAt_0 : decode cX5_holdsAt 0 = .ok (.bipush 20, 2) := by decide +kernel
theorem dX5_holdsAt_2 : decode cX5_holdsAt 2 = .ok (.iload_n 1, 1) := by decide +kernel
theorem dX5_holdsAt_3 : decode cX5_holdsAt 3 = .ok (.imul, 1) := by decide +kernel
theorem dX5_holdsAt_4 : decode cX5_holdsAt 4 = .ok (.istore_n 3, 1) := by decide +kernel
theorem dX5_holdsAt_5 : decode cX5_holdsAt 5 = .ok (.aload_n 0, 1) := by decide +kernel
theorem dX5_holdsAt_6 : decode cX5_holdsAt 6 = .ok (.getfield 23, 3) := by decide +kernel
theorem dX5_holdsAt_9 : decode cX5_holdsAt 9 = .ok (.iload_n 3, 1) := by decide +kernel
theorem dX5_holdsAt_10 : decode cX5_holdsAt 10 = .ok (.iload_n 2, 1) := by decide +kernel
theorem dX5_holdsAt_11 : decode cX5_holdsAt 11 = .ok (.iadd, 1) := by decide +kernel
theorem dX5_holdsAt_12 : decode cX5_holdsAt 12 = .ok (.iaload, 1) := by decide +kernel
theorem dX5_holdsAt_13 : decode cX5_holdsAt 13 = .ok (.sipush 150, 3) := by decide +kernel
theorem dX5_holdsAt_16 : decode cX5_holdsAt 16 = .ok (.isub, 1) := by decide +kernel
theorem dX5_holdsAt_17 : decode cX5_holdsAt 17 = .ok (.iconst 2, 1) := by decide +kernel
theorem dX5_holdsAt_18 : decode cX5_holdsAt 18 = .ok (.idiv, 1) := by decide +kernel
theorem dX5_holdsAt_19 : decode cX5_holdsAt 19 = .ok (.istore 4, 2) := by decide +kernel
theorem dX5_holdsAt_21 : decode cX5_holdsAt 21 = .ok (.aload_n 0, 1) := by decide +kernel
theorem dX5_holdsAt_22 : decode cX5_holdsAt 22 = .ok (.getfield 13, 3) := by decide +kernel
theorem dX5_holdsAt_25 : decode cX5_holdsAt 25 = .ok (.iconst 1, 1) := by decide +kernel
theorem dX5_holdsAt_26 : decode cX5_holdsAt 26 = .ok (.iaload, 1) := by decide +kernel
theorem dX5_holdsAt_27 : decode cX5_holdsAt 27 = .ok (.iload 4, 2) := by decide +kernel
theorem dX5_holdsAt_29 : decode cX5_holdsAt 29 = .ok (.ifCond .le 8, 3) := by decide +kernel
theorem dX5_holdsAt_32 : decode cX5_holdsAt 32 = .ok (.iload 4, 2) := by decide +kernel
theorem dX5_holdsAt_34 : decode cX5_holdsAt 34 = .ok (.goto 4, 3) := by decide +kernel
theorem dX5_holdsAt_37 : decode cX5_holdsAt 37 = .ok (.iconst 0, 1) := by decide +kernel
theorem dX5_holdsAt_38 : decode cX5_holdsAt 38 = .ok (.isub, 1) := by decide +kernel
theorem dX5_holdsAt_39 : decode cX5_holdsAt 39 = .ok (.aload_n 0, 1) := by decide +kernel
theorem dX5_holdsAt_40 : decode cX5_holdsAt 40 = .ok (.getfield 23, 3) := by decide +kernel
theorem dX5_holdsAt_43 : decode cX5_holdsAt 43 = .ok (.iload_n 3, 1) := by decide +kernel
theorem dX5_holdsAt_44 : decode cX5_holdsAt 44 = .ok (.bipush 11, 2) := by decide +kernel
theorem dX5_holdsAt_46 : decode cX5_holdsAt 46 = .ok (.iadd, 1) := by decide +kernel
theorem dX5_holdsAt_47 : decode cX5_holdsAt 47 = .ok (.iaload, 1) := by decide +kernel
theorem dX5_holdsAt_48 : decode cX5_holdsAt 48 = .ok (.iload_n 2, 1) := by decide +kernel
theorem dX5_holdsAt_49 : decode cX5_holdsAt 49 = .ok (.ishr, 1) := by decide +kernel
theorem dX5_holdsAt_50 : decode cX5_holdsAt 50 = .ok (.iconst 1, 1) := by decide +kernel
theorem dX5_holdsAt_51 : decode cX5_holdsAt 51 = .ok (.iand, 1) := by decide +kernel
theorem dX5_holdsAt_52 : decode cX5_holdsAt 52 = .ok (.iconst 1, 1) := by decide +kernel
theorem dX5_holdsAt_53 : decode cX5_holdsAt 53 = .ok (.if_icmp .ne 12, 3) := by decide +kernel
theorem dX5_holdsAt_56 : decode cX5_holdsAt 56 = .ok (.aload_n 0, 1) := by decide +kernel
theorem dX5_holdsAt_57 : decode cX5_holdsAt 57 = .ok (.getfield 13, 3) := by decide +kernel
theorem dX5_holdsAt_60 : decode cX5_holdsAt 60 = .ok (.iconst 5, 1) := by decide +kernel
theorem dX5_holdsAt_61 : decode cX5_holdsAt 61 = .ok (.iaload, 1) := by decide +kernel
theorem dX5_holdsAt_62 : decode cX5_holdsAt 62 = .ok (.goto 4, 3) := by decide +kernel
theorem dX5_holdsAt_65 : decode cX5_holdsAt 65 = .ok (.iconst 0, 1) := by decide +kernel
theorem dX5_holdsAt_66 : decode cX5_holdsAt 66 = .ok (.isub, 1) := by decide +kernel
theorem dX5_holdsAt_67 : decode cX5_holdsAt 67 = .ok (.istore 5, 2) := by decide +kernel
theorem dX5_holdsAt_69 : decode cX5_holdsAt 69 = .ok (.iload 5, 2) := by decide +kernel
theorem dX5_holdsAt_71 : decode cX5_holdsAt 71 = .ok (.iconst 1, 1) := by decide +kernel
theorem dX5_holdsAt_72 : decode cX5_holdsAt 72 = .ok (.if_icmp .ge 7, 3) := by decide +kernel
theorem dX5_holdsAt_75 : decode cX5_holdsAt 75 = .ok (.iconst 1, 1) := by decide +kernel
theorem dX5_holdsAt_76 : decode cX5_holdsAt 76 = .ok (.goto 5, 3) := by decide +kernel
theorem dX5_holdsAt_79 : decode cX5_holdsAt 79 = .ok (.iload 5, 2) := by decide +kernel
theorem dX5_holdsAt_81 : decode cX5_holdsAt 81 = .ok (.ireturn, 1) := by decide +kernel
theorem dX5_pulls_0 : decode cX5_pulls 0 = .ok (.iload_n 1, 1) := by decide +kernel
theorem dX5_pulls_1 : decode cX5_pulls 1 = .ok (.aload_n 0, 1) := by decide +kernel
theorem dX5_pulls_2 : decode cX5_pulls 2 = .ok (.getfield 13, 3) := by decide +kernel
theorem dX5_pulls_5 : decode cX5_pulls 5 = .ok (.iconst 0, 1) := by decide +kernel
theorem dX5_pulls_6 : decode cX5_pulls 6 = .ok (.iaload, 1) := by decide +kernel
theorem dX5_pulls_7 : decode cX5_pulls 7 = .ok (.imul, 1) := by decide +kernel
theorem dX5_pulls_8 : decode cX5_pulls 8 = .ok (.iload_n 2, 1) := by decide +kernel
theorem dX5_pulls_9 : decode cX5_pulls 9 = .ok (.aload_n 0, 1) := by decide +kernel
theorem dX5_pulls_10 : decode cX5_pulls 10 = .ok (.getfield 13, 3) := by decide +kernel
theorem dX5_pulls_13 : decode cX5_pulls 13 = .ok (.bipush 7, 2) := by decide +kernel
theorem dX5_pulls_15 : decode cX5_pulls 15 = .ok (.iaload, 1) := by decide +kernel
theorem dX5_pulls_16 : decode cX5_pulls 16 = .ok (.if_icmp .ne 13, 3) := by decide +kernel
theorem dX5_pulls_19 : decode cX5_pulls 19 = .ok (.aload_n 0, 1) := by decide +kernel
theorem dX5_pulls_20 : decode cX5_pulls 20 = .ok (.getfield 13, 3) := by decide +kernel
theorem dX5_pulls_23 : decode cX5_pulls 23 = .ok (.bipush 8, 2) := by decide +kernel
theorem dX5_pulls_25 : decode cX5_pulls 25 = .ok (.iaload, 1) := by decide +kernel
theorem dX5_pulls_26 : decode cX5_pulls 26 = .ok (.goto 4, 3) := by decide +kernel
theorem dX5_pulls_29 : decode cX5_pulls 29 = .ok (.iconst 0, 1) := by decide +kernel
theorem dX5_pulls_30 : decode cX5_pulls 30 = .ok (.iadd, 1) := by decide +kernel
theorem dX5_pulls_31 : decode cX5_pulls 31 = .ok (.ireturn, 1) := by decide +kernel
theorem dX5_second_0 : decode cX5_second 0 = .ok (.bipush 20, 2) := by decide +kernel
theorem dX5_second_2 : decode cX5_second 2 = .ok (.iload_n 1, 1) := by decide +kernel
theorem dX5_second_3 : decode cX5_second 3 = .ok (.imul, 1) := by decide +kernel
theorem dX5_second_4 : decode cX5_second 4 = .ok (.istore 4, 2) := by decide +kernel
theorem dX5_second_6 : decode cX5_second 6 = .ok (.iconst 0, 1) := by decide +kernel
theorem dX5_second_7 : decode cX5_second 7 = .ok (.istore 5, 2) := by decide +kernel
theorem dX5_second_9 : decode cX5_second 9 = .ok (.iconst 0, 1) := by decide +kernel
theorem dX5_second_10 : decode cX5_second 10 = .ok (.istore 6, 2) := by decide +kernel
theorem dX5_second_12 : decode cX5_second 12 = .ok (.iconst 0, 1) := by decide +kernel
theorem dX5_second_13 : decode cX5_second 13 = .ok (.istore 7, 2) := by decide +kernel
theorem dX5_second_15 : decode cX5_second 15 = .ok (.iload 7, 2) := by decide +kernel
theorem dX5_second_17 : decode cX5_second 17 = .ok (.iconst 4, 1) := by decide +kernel
theorem dX5_second_18 : decode cX5_second 18 = .ok (.if_icmp .ge 125, 3) := by decide +kernel
theorem dX5_second_21 : decode cX5_second 21 = .ok (.aload_n 0, 1) := by decide +kernel
theorem dX5_second_22 : decode cX5_second 22 = .ok (.getfield 23, 3) := by decide +kernel
theorem dX5_second_25 : decode cX5_second 25 = .ok (.iload 4, 2) := by decide +kernel
theorem dX5_second_27 : decode cX5_second 27 = .ok (.iload 7, 2) := by decide +kernel
theorem dX5_second_29 : decode cX5_second 29 = .ok (.iadd, 1) := by decide +kernel
theorem dX5_second_30 : decode cX5_second 30 = .ok (.iaload, 1) := by decide +kernel
theorem dX5_second_31 : decode cX5_second 31 = .ok (.istore 8, 2) := by decide +kernel
theorem dX5_second_33 : decode cX5_second 33 = .ok (.aload_n 0, 1) := by decide +kernel
theorem dX5_second_34 : decode cX5_second 34 = .ok (.getfield 23, 3) := by decide +kernel
theorem dX5_second_37 : decode cX5_second 37 = .ok (.iload 4, 2) := by decide +kernel
theorem dX5_second_39 : decode cX5_second 39 = .ok (.iload 7, 2) := by decide +kernel
theorem dX5_second_41 : decode cX5_second 41 = .ok (.iadd, 1) := by decide +kernel
theorem dX5_second_42 : decode cX5_second 42 = .ok (.iload_n 3, 1) := by decide +kernel
theorem dX5_second_43 : decode cX5_second 43 = .ok (.ifCond .ne 18, 3) := by decide +kernel
theorem dX5_second_46 : decode cX5_second 46 = .ok (.iload 7, 2) := by decide +kernel
theorem dX5_second_48 : decode cX5_second 48 = .ok (.aload_n 0, 1) := by decide +kernel
theorem dX5_second_49 : decode cX5_second 49 = .ok (.getfield 23, 3) := by decide +kernel
theorem dX5_second_52 : decode cX5_second 52 = .ok (.iload 4, 2) := by decide +kernel
theorem dX5_second_54 : decode cX5_second 54 = .ok (.bipush 16, 2) := by decide +kernel
theorem dX5_second_56 : decode cX5_second 56 = .ok (.iadd, 1) := by decide +kernel
theorem dX5_second_57 : decode cX5_second 57 = .ok (.iaload, 1) := by decide +kernel
theorem dX5_second_58 : decode cX5_second 58 = .ok (.if_icmp .ne 15, 3) := by decide +kernel
theorem dX5_second_61 : decode cX5_second 61 = .ok (.iload 8, 2) := by decide +kernel
theorem dX5_second_63 : decode cX5_second 63 = .ok (.iload_n 2, 1) := by decide +kernel
theorem dX5_second_64 : decode cX5_second 64 = .ok (.iload 8, 2) := by decide +kernel
theorem dX5_second_66 : decode cX5_second 66 = .ok (.isub, 1) := by decide +kernel
theorem dX5_second_67 : decode cX5_second 67 = .ok (.iconst 4, 1) := by decide +kernel
theorem dX5_second_68 : decode cX5_second 68 = .ok (.idiv, 1) := by decide +kernel
theorem dX5_second_69 : decode cX5_second 69 = .ok (.iadd, 1) := by decide +kernel
theorem dX5_second_70 : decode cX5_second 70 = .ok (.goto 14, 3) := by decide +kernel
theorem dX5_second_73 : decode cX5_second 73 = .ok (.iload 8, 2) := by decide +kernel
theorem dX5_second_75 : decode cX5_second 75 = .ok (.iload 8, 2) := by decide +kernel
theorem dX5_second_77 : decode cX5_second 77 = .ok (.bipush 20, 2) := by decide +kernel
theorem dX5_second_79 : decode cX5_second 79 = .ok (.isub, 1) := by decide +kernel
theorem dX5_second_80 : decode cX5_second 80 = .ok (.bipush 16, 2) := by decide +kernel
theorem dX5_second_82 : decode cX5_second 82 = .ok (.idiv, 1) := by decide +kernel
theorem dX5_second_83 : decode cX5_second 83 = .ok (.isub, 1) := by decide +kernel
theorem dX5_second_84 : decode cX5_second 84 = .ok (.iastore, 1) := by decide +kernel
theorem dX5_second_85 : decode cX5_second 85 = .ok (.iload 5, 2) := by decide +kernel
theorem dX5_second_87 : decode cX5_second 87 = .ok (.aload_n 0, 1) := by decide +kernel
theorem dX5_second_88 : decode cX5_second 88 = .ok (.getfield 23, 3) := by decide +kernel
theorem dX5_second_91 : decode cX5_second 91 = .ok (.iload 4, 2) := by decide +kernel
theorem dX5_second_93 : decode cX5_second 93 = .ok (.iload 7, 2) := by decide +kernel
theorem dX5_second_95 : decode cX5_second 95 = .ok (.iadd, 1) := by decide +kernel
theorem dX5_second_96 : decode cX5_second 96 = .ok (.iaload, 1) := by decide +kernel
theorem dX5_second_97 : decode cX5_second 97 = .ok (.iadd, 1) := by decide +kernel
theorem dX5_second_98 : decode cX5_second 98 = .ok (.istore 5, 2) := by decide +kernel
theorem dX5_second_100 : decode cX5_second 100 = .ok (.iload 7, 2) := by decide +kernel
theorem dX5_second_102 : decode cX5_second 102 = .ok (.ifCond .eq 18, 3) := by decide +kernel
theorem dX5_second_105 : decode cX5_second 105 = .ok (.aload_n 0, 1) := by decide +kernel
theorem dX5_second_106 : decode cX5_second 106 = .ok (.getfield 23, 3) := by decide +kernel
theorem dX5_second_109 : decode cX5_second 109 = .ok (.iload 4, 2) := by decide +kernel
theorem dX5_second_111 : decode cX5_second 111 = .ok (.iload 7, 2) := by decide +kernel
theorem dX5_second_113 : decode cX5_second 113 = .ok (.iadd, 1) := by decide +kernel
theorem dX5_second_114 : decode cX5_second 114 = .ok (.iaload, 1) := by decide +kernel
theorem dX5_second_115 : decode cX5_second 115 = .ok (.iload 6, 2) := by decide +kernel
theorem dX5_second_117 : decode cX5_second 117 = .ok (.if_icmp .le 16, 3) := by decide +kernel
theorem dX5_second_120 : decode cX5_second 120 = .ok (.aload_n 0, 1) := by decide +kernel
theorem dX5_second_121 : decode cX5_second 121 = .ok (.getfield 23, 3) := by decide +kernel
theorem dX5_second_124 : decode cX5_second 124 = .ok (.iload 4, 2) := by decide +kernel
theorem dX5_second_126 : decode cX5_second 126 = .ok (.iload 7, 2) := by decide +kernel
theorem dX5_second_128 : decode cX5_second 128 = .ok (.iadd, 1) := by decide +kernel
theorem dX5_second_129 : decode cX5_second 129 = .ok (.iaload, 1) := by decide +kernel
theorem dX5_second_130 : decode cX5_second 130 = .ok (.goto 5, 3) := by decide +kernel
theorem dX5_second_133 : decode cX5_second 133 = .ok (.iload 6, 2) := by decide +kernel
theorem dX5_second_135 : decode cX5_second 135 = .ok (.istore 6, 2) := by decide +kernel
theorem dX5_second_137 : decode cX5_second 137 = .ok (.iinc 7 1, 3) := by decide +kernel
theorem dX5_second_140 : decode cX5_second 140 = .ok (.goto (-125), 3) := by decide +kernel
theorem dX5_second_143 : decode cX5_second 143 = .ok (.aload_n 0, 1) := by decide +kernel
theorem dX5_second_144 : decode cX5_second 144 = .ok (.getfield 23, 3) := by decide +kernel
theorem dX5_second_147 : decode cX5_second 147 = .ok (.iload 4, 2) := by decide +kernel
theorem dX5_second_149 : decode cX5_second 149 = .ok (.iconst 4, 1) := by decide +kernel
theorem dX5_second_150 : decode cX5_second 150 = .ok (.iadd, 1) := by decide +kernel
theorem dX5_second_151 : decode cX5_second 151 = .ok (.dup2, 1) := by decide +kernel
theorem dX5_second_152 : decode cX5_second 152 = .ok (.iaload, 1) := by decide +kernel
theorem dX5_second_153 : decode cX5_second 153 = .ok (.iload 5, 2) := by decide +kernel
theorem dX5_second_155 : decode cX5_second 155 = .ok (.iconst 4, 1) := by decide +kernel
theorem dX5_second_156 : decode cX5_second 156 = .ok (.aload_n 0, 1) := by decide +kernel
theorem dX5_second_157 : decode cX5_second 157 = .ok (.getfield 23, 3) := by decide +kernel
theorem dX5_second_160 : decode cX5_second 160 = .ok (.iload 4, 2) := by decide +kernel
theorem dX5_second_162 : decode cX5_second 162 = .ok (.iconst 4, 1) := by decide +kernel
theorem dX5_second_163 : decode cX5_second 163 = .ok (.iadd, 1) := by decide +kernel
theorem dX5_second_164 : decode cX5_second 164 = .ok (.iaload, 1) := by decide +kernel
theorem dX5_second_165 : decode cX5_second 165 = .ok (.imul, 1) := by decide +kernel
theorem dX5_second_166 : decode cX5_second 166 = .ok (.isub, 1) := by decide +kernel
theorem dX5_second_167 : decode cX5_second 167 = .ok (.bipush 8, 2) := by decide +kernel
theorem dX5_second_169 : decode cX5_second 169 = .ok (.aload_n 0, 1) := by decide +kernel
theorem dX5_second_170 : decode cX5_second 170 = .ok (.getfield 13, 3) := by decide +kernel
theorem dX5_second_173 : decode cX5_second 173 = .ok (.iconst 0, 1) := by decide +kernel
theorem dX5_second_174 : decode cX5_second 174 = .ok (.iaload, 1) := by decide +kernel
theorem dX5_second_175 : decode cX5_second 175 = .ok (.imul, 1) := by decide +kernel
theorem dX5_second_176 : decode cX5_second 176 = .ok (.idiv, 1) := by decide +kernel
theorem dX5_second_177 : decode cX5_second 177 = .ok (.iadd, 1) := by decide +kernel
theorem dX5_second_178 : decode cX5_second 178 = .ok (.iastore, 1) := by decide +kernel
theorem dX5_second_179 : decode cX5_second 179 = .ok (.aload_n 0, 1) := by decide +kernel
theorem dX5_second_180 : decode cX5_second 180 = .ok (.getfield 23, 3) := by decide +kernel
theorem dX5_second_183 : decode cX5_second 183 = .ok (.iload 4, 2) := by decide +kernel
theorem dX5_second_185 : decode cX5_second 185 = .ok (.iconst 4, 1) := by decide +kernel
theorem dX5_second_186 : decode cX5_second 186 = .ok (.iadd, 1) := by decide +kernel
theorem dX5_second_187 : decode cX5_second 187 = .ok (.iaload, 1) := by decide +kernel
theorem dX5_second_188 : decode cX5_second 188 = .ok (.iload 6, 2) := by decide +kernel
theorem dX5_second_190 : decode cX5_second 190 = .ok (.if_icmp .le 15, 3) := by decide +kernel
theorem dX5_second_193 : decode cX5_second 193 = .ok (.aload_n 0, 1) := by decide +kernel
theorem dX5_second_194 : decode cX5_second 194 = .ok (.getfield 23, 3) := by decide +kernel
theorem dX5_second_197 : decode cX5_second 197 = .ok (.iload 4, 2) := by decide +kernel
theorem dX5_second_199 : decode cX5_second 199 = .ok (.iconst 4, 1) := by decide +kernel
theorem dX5_second_200 : decode cX5_second 200 = .ok (.iadd, 1) := by decide +kernel
theorem dX5_second_201 : decode cX5_second 201 = .ok (.iaload, 1) := by decide +kernel
theorem dX5_second_202 : decode cX5_second 202 = .ok (.goto 5, 3) := by decide +kernel
theorem dX5_second_205 : decode cX5_second 205 = .ok (.iload 6, 2) := by decide +kernel
theorem dX5_second_207 : decode cX5_second 207 = .ok (.istore 6, 2) := by decide +kernel
theorem dX5_second_209 : decode cX5_second 209 = .ok (.aload_n 0, 1) := by decide +kernel
theorem dX5_second_210 : decode cX5_second 210 = .ok (.getfield 23, 3) := by decide +kernel
theorem dX5_second_213 : decode cX5_second 213 = .ok (.iload 4, 2) := by decide +kernel
theorem dX5_second_215 : decode cX5_second 215 = .ok (.bipush 15, 2) := by decide +kernel
theorem dX5_second_217 : decode cX5_second 217 = .ok (.iadd, 1) := by decide +kernel
theorem dX5_second_218 : decode cX5_second 218 = .ok (.iload 6, 2) := by decide +kernel
theorem dX5_second_220 : decode cX5_second 220 = .ok (.bipush 100, 2) := by decide +kernel
theorem dX5_second_222 : decode cX5_second 222 = .ok (.if_icmp .le 24, 3) := by decide +kernel
theorem dX5_second_225 : decode cX5_second 225 = .ok (.aload_n 0, 1) := by decide +kernel
theorem dX5_second_226 : decode cX5_second 226 = .ok (.getfield 23, 3) := by decide +kernel
theorem dX5_second_229 : decode cX5_second 229 = .ok (.iload 4, 2) := by decide +kernel
theorem dX5_second_231 : decode cX5_second 231 = .ok (.bipush 9, 2) := by decide +kernel
theorem dX5_second_233 : decode cX5_second 233 = .ok (.iadd, 1) := by decide +kernel
theorem dX5_second_234 : decode cX5_second 234 = .ok (.iaload, 1) := by decide +kernel
theorem dX5_second_235 : decode cX5_second 235 = .ok (.ifCond .le 11, 3) := by decide +kernel
theorem dX5_second_238 : decode cX5_second 238 = .ok (.iload 6, 2) := by decide +kernel
theorem dX5_second_240 : decode cX5_second 240 = .ok (.bipush 100, 2) := by decide +kernel
theorem dX5_second_242 : decode cX5_second 242 = .ok (.isub, 1) := by decide +kernel
theorem dX5_second_243 : decode cX5_second 243 = .ok (.goto 4, 3) := by decide +kernel
theorem dX5_second_246 : decode cX5_second 246 = .ok (.iconst 0, 1) := by decide +kernel
theorem dX5_second_247 : decode cX5_second 247 = .ok (.iastore, 1) := by decide +kernel
theorem dX5_second_248 : decode cX5_second 248 = .ok (.aload_n 0, 1) := by decide +kernel
theorem dX5_second_249 : decode cX5_second 249 = .ok (.getfield 23, 3) := by decide +kernel
theorem dX5_second_252 : decode cX5_second 252 = .ok (.iload 4, 2) := by decide +kernel
theorem dX5_second_254 : decode cX5_second 254 = .ok (.bipush 15, 2) := by decide +kernel
theorem dX5_second_256 : decode cX5_second 256 = .ok (.iadd, 1) := by decide +kernel
theorem dX5_second_257 : decode cX5_second 257 = .ok (.iaload, 1) := by decide +kernel
theorem dX5_second_258 : decode cX5_second 258 = .ok (.bipush 20, 2) := by decide +kernel
theorem dX5_second_260 : decode cX5_second 260 = .ok (.idiv, 1) := by decide +kernel
theorem dX5_second_261 : decode cX5_second 261 = .ok (.aload_n 0, 1) := by decide +kernel
theorem dX5_second_262 : decode cX5_second 262 = .ok (.getfield 23, 3) := by decide +kernel
theorem dX5_second_265 : decode cX5_second 265 = .ok (.iload 4, 2) := by decide +kernel
theorem dX5_second_267 : decode cX5_second 267 = .ok (.iconst 4, 1) := by decide +kernel
theorem dX5_second_268 : decode cX5_second 268 = .ok (.iadd, 1) := by decide +kernel
theorem dX5_second_269 : decode cX5_second 269 = .ok (.iaload, 1) := by decide +kernel
theorem dX5_second_270 : decode cX5_second 270 = .ok (.bipush 60, 2) := by decide +kernel
theorem dX5_second_272 : decode cX5_second 272 = .ok (.if_icmp .le 18, 3) := by decide +kernel
theorem dX5_second_275 : decode cX5_second 275 = .ok (.aload_n 0, 1) := by decide +kernel
theorem dX5_second_276 : decode cX5_second 276 = .ok (.getfield 23, 3) := by decide +kernel
theorem dX5_second_279 : decode cX5_second 279 = .ok (.iload 4, 2) := by decide +kernel
theorem dX5_second_281 : decode cX5_second 281 = .ok (.bipush 10, 2) := by decide +kernel
theorem dX5_second_283 : decode cX5_second 283 = .ok (.iadd, 1) := by decide +kernel
theorem dX5_second_284 : decode cX5_second 284 = .ok (.iaload, 1) := by decide +kernel
theorem dX5_second_285 : decode cX5_second 285 = .ok (.iconst 3, 1) := by decide +kernel
theorem dX5_second_286 : decode cX5_second 286 = .ok (.idiv, 1) := by decide +kernel
theorem dX5_second_287 : decode cX5_second 287 = .ok (.goto 4, 3) := by decide +kernel
theorem dX5_second_290 : decode cX5_second 290 = .ok (.iconst 0, 1) := by decide +kernel
theorem dX5_second_291 : decode cX5_second 291 = .ok (.iadd, 1) := by decide +kernel
theorem dX5_second_292 : decode cX5_second 292 = .ok (.istore 7, 2) := by decide +kernel
theorem dX5_second_294 : decode cX5_second 294 = .ok (.aload_n 0, 1) := by decide +kernel
theorem dX5_second_295 : decode cX5_second 295 = .ok (.getfield 23, 3) := by decide +kernel
theorem dX5_second_298 : decode cX5_second 298 = .ok (.iload 4, 2) := by decide +kernel
theorem dX5_second_300 : decode cX5_second 300 = .ok (.bipush 9, 2) := by decide +kernel
theorem dX5_second_302 : decode cX5_second 302 = .ok (.iadd, 1) := by decide +kernel
theorem dX5_second_303 : decode cX5_second 303 = .ok (.aload_n 0, 1) := by decide +kernel
theorem dX5_second_304 : decode cX5_second 304 = .ok (.getfield 23, 3) := by decide +kernel
theorem dX5_second_307 : decode cX5_second 307 = .ok (.iload 4, 2) := by decide +kernel
theorem dX5_second_309 : decode cX5_second 309 = .ok (.bipush 9, 2) := by decide +kernel
theorem dX5_second_311 : decode cX5_second 311 = .ok (.iadd, 1) := by decide +kernel
theorem dX5_second_312 : decode cX5_second 312 = .ok (.iaload, 1) := by decide +kernel
theorem dX5_second_313 : decode cX5_second 313 = .ok (.iload 7, 2) := by decide +kernel
theorem dX5_second_315 : decode cX5_second 315 = .ok (.if_icmp .le 19, 3) := by decide +kernel
theorem dX5_second_318 : decode cX5_second 318 = .ok (.aload_n 0, 1) := by decide +kernel
theorem dX5_second_319 : decode cX5_second 319 = .ok (.getfield 23, 3) := by decide +kernel
theorem dX5_second_322 : decode cX5_second 322 = .ok (.iload 4, 2) := by decide +kernel
theorem dX5_second_324 : decode cX5_second 324 = .ok (.bipush 9, 2) := by decide +kernel
theorem dX5_second_326 : decode cX5_second 326 = .ok (.iadd, 1) := by decide +kernel
theorem dX5_second_327 : decode cX5_second 327 = .ok (.iaload, 1) := by decide +kernel
theorem dX5_second_328 : decode cX5_second 328 = .ok (.iload 7, 2) := by decide +kernel
theorem dX5_second_330 : decode cX5_second 330 = .ok (.isub, 1) := by decide +kernel
theorem dX5_second_331 : decode cX5_second 331 = .ok (.goto 4, 3) := by decide +kernel
theorem dX5_second_334 : decode cX5_second 334 = .ok (.iconst 0, 1) := by decide +kernel
theorem dX5_second_335 : decode cX5_second 335 = .ok (.iastore, 1) := by decide +kernel
theorem dX5_second_336 : decode cX5_second 336 = .ok (.iconst 0, 1) := by decide +kernel
theorem dX5_second_337 : decode cX5_second 337 = .ok (.istore 8, 2) := by decide +kernel
theorem dX5_second_339 : decode cX5_second 339 = .ok (.iload 8, 2) := by decide +kernel
theorem dX5_second_341 : decode cX5_second 341 = .ok (.iconst 4, 1) := by decide +kernel
theorem dX5_second_342 : decode cX5_second 342 = .ok (.if_icmp .ge 81, 3) := by decide +kernel
theorem dX5_second_345 : decode cX5_second 345 = .ok (.aload_n 0, 1) := by decide +kernel
theorem dX5_second_346 : decode cX5_second 346 = .ok (.getfield 23, 3) := by decide +kernel
theorem dX5_second_349 : decode cX5_second 349 = .ok (.iload 4, 2) := by decide +kernel
theorem dX5_second_351 : decode cX5_second 351 = .ok (.iload 8, 2) := by decide +kernel
theorem dX5_second_353 : decode cX5_second 353 = .ok (.iadd, 1) := by decide +kernel
theorem dX5_second_354 : decode cX5_second 354 = .ok (.iaload, 1) := by decide +kernel
theorem dX5_second_355 : decode cX5_second 355 = .ok (.bipush 120, 2) := by decide +kernel
theorem dX5_second_357 : decode cX5_second 357 = .ok (.isub, 1) := by decide +kernel
theorem dX5_second_358 : decode cX5_second 358 = .ok (.bipush 10, 2) := by decide +kernel
theorem dX5_second_360 : decode cX5_second 360 = .ok (.idiv, 1) := by decide +kernel
theorem dX5_second_361 : decode cX5_second 361 = .ok (.istore 9, 2) := by decide +kernel
theorem dX5_second_363 : decode cX5_second 363 = .ok (.aload_n 0, 1) := by decide +kernel
theorem dX5_second_364 : decode cX5_second 364 = .ok (.getfield 23, 3) := by decide +kernel
theorem dX5_second_367 : decode cX5_second 367 = .ok (.iload 4, 2) := by decide +kernel
theorem dX5_second_369 : decode cX5_second 369 = .ok (.iconst 5, 1) := by decide +kernel
theorem dX5_second_370 : decode cX5_second 370 = .ok (.iadd, 1) := by decide +kernel
theorem dX5_second_371 : decode cX5_second 371 = .ok (.iload 8, 2) := by decide +kernel
theorem dX5_second_373 : decode cX5_second 373 = .ok (.iadd, 1) := by decide +kernel
theorem dX5_second_374 : decode cX5_second 374 = .ok (.iaload, 1) := by decide +kernel
theorem dX5_second_375 : decode cX5_second 375 = .ok (.iload 9, 2) := by decide +kernel
theorem dX5_second_377 : decode cX5_second 377 = .ok (.ifCond .le 8, 3) := by decide +kernel
theorem dX5_second_380 : decode cX5_second 380 = .ok (.iload 9, 2) := by decide +kernel
theorem dX5_second_382 : decode cX5_second 382 = .ok (.goto 4, 3) := by decide +kernel
theorem dX5_second_385 : decode cX5_second 385 = .ok (.iconst 0, 1) := by decide +kernel
theorem dX5_second_386 : decode cX5_second 386 = .ok (.iadd, 1) := by decide +kernel
theorem dX5_second_387 : decode cX5_second 387 = .ok (.istore 10, 2) := by decide +kernel
theorem dX5_second_389 : decode cX5_second 389 = .ok (.aload_n 0, 1) := by decide +kernel
theorem dX5_second_390 : decode cX5_second 390 = .ok (.getfield 23, 3) := by decide +kernel
theorem dX5_second_393 : decode cX5_second 393 = .ok (.iload 4, 2) := by decide +kernel
theorem dX5_second_395 : decode cX5_second 395 = .ok (.iconst 5, 1) := by decide +kernel
theorem dX5_second_396 : decode cX5_second 396 = .ok (.iadd, 1) := by decide +kernel
theorem dX5_second_397 : decode cX5_second 397 = .ok (.iload 8, 2) := by decide +kernel
theorem dX5_second_399 : decode cX5_second 399 = .ok (.iadd, 1) := by decide +kernel
theorem dX5_second_400 : decode cX5_second 400 = .ok (.iload 10, 2) := by decide +kernel
theorem dX5_second_402 : decode cX5_second 402 = .ok (.sipush 999, 3) := by decide +kernel
theorem dX5_second_405 : decode cX5_second 405 = .ok (.if_icmp .le 9, 3) := by decide +kernel
theorem dX5_second_408 : decode cX5_second 408 = .ok (.sipush 999, 3) := by decide +kernel
theorem dX5_second_411 : decode cX5_second 411 = .ok (.goto 5, 3) := by decide +kernel
theorem dX5_second_414 : decode cX5_second 414 = .ok (.iload 10, 2) := by decide +kernel
theorem dX5_second_416 : decode cX5_second 416 = .ok (.iastore, 1) := by decide +kernel
theorem dX5_second_417 : decode cX5_second 417 = .ok (.iinc 8 1, 3) := by decide +kernel
theorem dX5_second_420 : decode cX5_second 420 = .ok (.goto (-81), 3) := by decide +kernel
theorem dX5_second_423 : decode cX5_second 423 = .ok (.aload_n 0, 1) := by decide +kernel
theorem dX5_second_424 : decode cX5_second 424 = .ok (.getfield 23, 3) := by decide +kernel
theorem dX5_second_427 : decode cX5_second 427 = .ok (.iload 4, 2) := by decide +kernel
theorem dX5_second_429 : decode cX5_second 429 = .ok (.bipush 12, 2) := by decide +kernel
theorem dX5_second_431 : decode cX5_second 431 = .ok (.iadd, 1) := by decide +kernel
theorem dX5_second_432 : decode cX5_second 432 = .ok (.dup2, 1) := by decide +kernel
theorem dX5_second_433 : decode cX5_second 433 = .ok (.iaload, 1) := by decide +kernel
theorem dX5_second_434 : decode cX5_second 434 = .ok (.iconst 1, 1) := by decide +kernel
theorem dX5_second_435 : decode cX5_second 435 = .ok (.iadd, 1) := by decide +kernel
theorem dX5_second_436 : decode cX5_second 436 = .ok (.iastore, 1) := by decide +kernel
theorem dX5_second_437 : decode cX5_second 437 = .ok (.aload_n 0, 1) := by decide +kernel
theorem dX5_second_438 : decode cX5_second 438 = .ok (.iload_n 1, 1) := by decide +kernel
theorem dX5_second_439 : decode cX5_second 439 = .ok (.invokevirtual 150, 3) := by decide +kernel
theorem dX5_second_442 : decode cX5_second 442 = .ok (.istore 8, 2) := by decide +kernel
theorem dX5_second_444 : decode cX5_second 444 = .ok (.aload_n 0, 1) := by decide +kernel
theorem dX5_second_445 : decode cX5_second 445 = .ok (.getfield 23, 3) := by decide +kernel
theorem dX5_second_448 : decode cX5_second 448 = .ok (.iload 4, 2) := by decide +kernel
theorem dX5_second_450 : decode cX5_second 450 = .ok (.bipush 17, 2) := by decide +kernel
theorem dX5_second_452 : decode cX5_second 452 = .ok (.iadd, 1) := by decide +kernel
theorem dX5_second_453 : decode cX5_second 453 = .ok (.iload 8, 2) := by decide +kernel
theorem dX5_second_455 : decode cX5_second 455 = .ok (.iastore, 1) := by decide +kernel
theorem dX5_second_456 : decode cX5_second 456 = .ok (.iconst 0, 1) := by decide +kernel
theorem dX5_second_457 : decode cX5_second 457 = .ok (.istore 9, 2) := by decide +kernel
theorem dX5_second_459 : decode cX5_second 459 = .ok (.iload 9, 2) := by decide +kernel
theorem dX5_second_461 : decode cX5_second 461 = .ok (.iconst 4, 1) := by decide +kernel
theorem dX5_second_462 : decode cX5_second 462 = .ok (.if_icmp .ge 63, 3) := by decide +kernel
theorem dX5_second_465 : decode cX5_second 465 = .ok (.aload_n 0, 1) := by decide +kernel
theorem dX5_second_466 : decode cX5_second 466 = .ok (.getfield 23, 3) := by decide +kernel
theorem dX5_second_469 : decode cX5_second 469 = .ok (.iload 4, 2) := by decide +kernel
theorem dX5_second_471 : decode cX5_second 471 = .ok (.bipush 13, 2) := by decide +kernel
theorem dX5_second_473 : decode cX5_second 473 = .ok (.iadd, 1) := by decide +kernel
theorem dX5_second_474 : decode cX5_second 474 = .ok (.iaload, 1) := by decide +kernel
theorem dX5_second_475 : decode cX5_second 475 = .ok (.ifCond .ne 44, 3) := by decide +kernel
theorem dX5_second_478 : decode cX5_second 478 = .ok (.aload_n 0, 1) := by decide +kernel
theorem dX5_second_479 : decode cX5_second 479 = .ok (.iload 8, 2) := by decide +kernel
theorem dX5_second_481 : decode cX5_second 481 = .ok (.iload 9, 2) := by decide +kernel
theorem dX5_second_483 : decode cX5_second 483 = .ok (.invokevirtual 153, 3) := by decide +kernel
theorem dX5_second_486 : decode cX5_second 486 = .ok (.aload_n 0, 1) := by decide +kernel
theorem dX5_second_487 : decode cX5_second 487 = .ok (.iload_n 1, 1) := by decide +kernel
theorem dX5_second_488 : decode cX5_second 488 = .ok (.iload 9, 2) := by decide +kernel
theorem dX5_second_490 : decode cX5_second 490 = .ok (.invokevirtual 157, 3) := by decide +kernel
theorem dX5_second_493 : decode cX5_second 493 = .ok (.if_icmp .le 26, 3) := by decide +kernel
theorem dX5_second_496 : decode cX5_second 496 = .ok (.aload_n 0, 1) := by decide +kernel
theorem dX5_second_497 : decode cX5_second 497 = .ok (.getfield 23, 3) := by decide +kernel
theorem dX5_second_500 : decode cX5_second 500 = .ok (.iload 4, 2) := by decide +kernel
theorem dX5_second_502 : decode cX5_second 502 = .ok (.bipush 13, 2) := by decide +kernel
theorem dX5_second_504 : decode cX5_second 504 = .ok (.iadd, 1) := by decide +kernel
theorem dX5_second_505 : decode cX5_second 505 = .ok (.iconst 1, 1) := by decide +kernel
theorem dX5_second_506 : decode cX5_second 506 = .ok (.iastore, 1) := by decide +kernel
theorem dX5_second_507 : decode cX5_second 507 = .ok (.aload_n 0, 1) := by decide +kernel
theorem dX5_second_508 : decode cX5_second 508 = .ok (.getfield 23, 3) := by decide +kernel
theorem dX5_second_511 : decode cX5_second 511 = .ok (.iload 4, 2) := by decide +kernel
theorem dX5_second_513 : decode cX5_second 513 = .ok (.bipush 14, 2) := by decide +kernel
theorem dX5_second_515 : decode cX5_second 515 = .ok (.iadd, 1) := by decide +kernel
theorem dX5_second_516 : decode cX5_second 516 = .ok (.iload 9, 2) := by decide +kernel
theorem dX5_second_518 : decode cX5_second 518 = .ok (.iastore, 1) := by decide +kernel
theorem dX5_second_519 : decode cX5_second 519 = .ok (.iinc 9 1, 3) := by decide +kernel
theorem dX5_second_522 : decode cX5_second 522 = .ok (.goto (-63), 3) := by decide +kernel
theorem dX5_second_525 : decode cX5_second 525 = .ok (.aload_n 0, 1) := by decide +kernel
theorem dX5_second_526 : decode cX5_second 526 = .ok (.getfield 23, 3) := by decide +kernel
theorem dX5_second_529 : decode cX5_second 529 = .ok (.iload 4, 2) := by decide +kernel
theorem dX5_second_531 : decode cX5_second 531 = .ok (.bipush 13, 2) := by decide +kernel
theorem dX5_second_533 : decode cX5_second 533 = .ok (.iadd, 1) := by decide +kernel
theorem dX5_second_534 : decode cX5_second 534 = .ok (.aload_n 0, 1) := by decide +kernel
theorem dX5_second_535 : decode cX5_second 535 = .ok (.getfield 23, 3) := by decide +kernel
theorem dX5_second_538 : decode cX5_second 538 = .ok (.iload 4, 2) := by decide +kernel
theorem dX5_second_540 : decode cX5_second 540 = .ok (.bipush 13, 2) := by decide +kernel
theorem dX5_second_542 : decode cX5_second 542 = .ok (.iadd, 1) := by decide +kernel
theorem dX5_second_543 : decode cX5_second 543 = .ok (.iaload, 1) := by decide +kernel
theorem dX5_second_544 : decode cX5_second 544 = .ok (.ifCond .ne 27, 3) := by decide +kernel
theorem dX5_second_547 : decode cX5_second 547 = .ok (.iload 8, 2) := by decide +kernel
theorem dX5_second_549 : decode cX5_second 549 = .ok (.aload_n 0, 1) := by decide +kernel
theorem dX5_second_550 : decode cX5_second 550 = .ok (.getfield 13, 3) := by decide +kernel
theorem dX5_second_553 : decode cX5_second 553 = .ok (.iconst 0, 1) := by decide +kernel
theorem dX5_second_554 : decode cX5_second 554 = .ok (.iaload, 1) := by decide +kernel
theorem dX5_second_555 : decode cX5_second 555 = .ok (.imul, 1) := by decide +kernel
theorem dX5_second_556 : decode cX5_second 556 = .ok (.iconst 2, 1) := by decide +kernel
theorem dX5_second_557 : decode cX5_second 557 = .ok (.idiv, 1) := by decide +kernel
theorem dX5_second_558 : decode cX5_second 558 = .ok (.aload_n 0, 1) := by decide +kernel
theorem dX5_second_559 : decode cX5_second 559 = .ok (.getfield 13, 3) := by decide +kernel
theorem dX5_second_562 : decode cX5_second 562 = .ok (.iconst 4, 1) := by decide +kernel
theorem dX5_second_563 : decode cX5_second 563 = .ok (.iaload, 1) := by decide +kernel
theorem dX5_second_564 : decode cX5_second 564 = .ok (.if_icmp .le 7, 3) := by decide +kernel
theorem dX5_second_567 : decode cX5_second 567 = .ok (.iconst 2, 1) := by decide +kernel
theorem dX5_second_568 : decode cX5_second 568 = .ok (.goto 13, 3) := by decide +kernel
theorem dX5_second_571 : decode cX5_second 571 = .ok (.aload_n 0, 1) := by decide +kernel
theorem dX5_second_572 : decode cX5_second 572 = .ok (.getfield 23, 3) := by decide +kernel
theorem dX5_second_575 : decode cX5_second 575 = .ok (.iload 4, 2) := by decide +kernel
theorem dX5_second_577 : decode cX5_second 577 = .ok (.bipush 13, 2) := by decide +kernel
theorem dX5_second_579 : decode cX5_second 579 = .ok (.iadd, 1) := by decide +kernel
theorem dX5_second_580 : decode cX5_second 580 = .ok (.iaload, 1) := by decide +kernel
theorem dX5_second_581 : decode cX5_second 581 = .ok (.iastore, 1) := by decide +kernel
theorem dX5_second_582 : decode cX5_second 582 = .ok (.return_, 1) := by decide +kernel
theorem dX5_fire_0 : decode cX5_fire 0 = .ok (.iload_n 1, 1) := by decide +kernel
theorem dX5_fire_1 : decode cX5_fire 1 = .ok (.i2l, 1) := by decide +kernel
theorem dX5_fire_2 : decode cX5_fire 2 = .ok (.lconst 0, 1) := by decide +kernel
theorem dX5_fire_3 : decode cX5_fire 3 = .ok (.ldc2_w 160, 3) := by decide +kernel
theorem dX5_fire_6 : decode cX5_fire 6 = .ok (.invokestatic 58, 3) := by decide +kernel
theorem dX5_fire_9 : decode cX5_fire 9 = .ok (.ifCond .eq 15, 3) := by decide +kernel
theorem dX5_fire_12 : decode cX5_fire 12 = .ok (.iload_n 2, 1) := by decide +kernel
theorem dX5_fire_13 : decode cX5_fire 13 = .ok (.i2l, 1) := by decide +kernel
theorem dX5_fire_14 : decode cX5_fire 14 = .ok (.lconst 1, 1) := by decide +kernel
theorem dX5_fire_15 : decode cX5_fire 15 = .ok (.ldc2_w 162, 3) := by decide +kernel
theorem dX5_fire_18 : decode cX5_fire 18 = .ok (.invokestatic 58, 3) := by decide +kernel
theorem dX5_fire_21 : decode cX5_fire 21 = .ok (.ifCond .ne 5, 3) := by decide +kernel
theorem dX5_fire_24 : decode cX5_fire 24 = .ok (.iconst (-1), 1) := by decide +kernel
theorem dX5_fire_25 : decode cX5_fire 25 = .ok (.ireturn, 1) := by decide +kernel
theorem dX5_fire_26 : decode cX5_fire 26 = .ok (.iconst 0, 1) := by decide +kernel
theorem dX5_fire_27 : decode cX5_fire 27 = .ok (.istore_n 3, 1) := by decide +kernel
theorem dX5_fire_28 : decode cX5_fire 28 = .ok (.iload_n 3, 1) := by decide +kernel
theorem dX5_fire_29 : decode cX5_fire 29 = .ok (.iload_n 2, 1) := by decide +kernel
theorem dX5_fire_30 : decode cX5_fire 30 = .ok (.if_icmp .ge 16, 3) := by decide +kernel
theorem dX5_fire_33 : decode cX5_fire 33 = .ok (.aload_n 0, 1) := by decide +kernel
theorem dX5_fire_34 : decode cX5_fire 34 = .ok (.iconst 0, 1) := by decide +kernel
theorem dX5_fire_35 : decode cX5_fire 35 = .ok (.iload_n 1, 1) := by decide +kernel
theorem dX5_fire_36 : decode cX5_fire 36 = .ok (.iconst 0, 1) := by decide +kernel
theorem dX5_fire_37 : decode cX5_fire 37 = .ok (.invokevirtual 164, 3) := by decide +kernel
theorem dX5_fire_40 : decode cX5_fire 40 = .ok (.iinc 3 1, 3) := by decide +kernel
theorem dX5_fire_43 : decode cX5_fire 43 = .ok (.goto (-15), 3) := by decide +kernel
theorem dX5_fire_46 : decode cX5_fire 46 = .ok (.aload_n 0, 1) := by decide +kernel
theorem dX5_fire_47 : decode cX5_fire 47 = .ok (.getfield 23, 3) := by decide +kernel
theorem dX5_fire_50 : decode cX5_fire 50 = .ok (.bipush 13, 2) := by decide +kernel
theorem dX5_fire_52 : decode cX5_fire 52 = .ok (.iaload, 1) := by decide +kernel
theorem dX5_fire_53 : decode cX5_fire 53 = .ok (.ireturn, 1) := by decide +kernel
theorem dX5_simmer_0 : decode cX5_simmer 0 = .ok (.iload_n 1, 1) := by decide +kernel
theorem dX5_simmer_1 : decode cX5_simmer 1 = .ok (.i2l, 1) := by decide +kernel
theorem dX5_simmer_2 : decode cX5_simmer 2 = .ok (.ldc2_w 168, 3) := by decide +kernel
theorem dX5_simmer_5 : decode cX5_simmer 5 = .ok (.ldc2_w 170, 3) := by decide +kernel
theorem dX5_simmer_8 : decode cX5_simmer 8 = .ok (.invokestatic 58, 3) := by decide +kernel
theorem dX5_simmer_11 : decode cX5_simmer 11 = .ok (.ifCond .eq 15, 3) := by decide +kernel
theorem dX5_simmer_14 : decode cX5_simmer 14 = .ok (.iload_n 2, 1) := by decide +kernel
theorem dX5_simmer_15 : decode cX5_simmer 15 = .ok (.i2l, 1) := by decide +kernel
theorem dX5_simmer_16 : decode cX5_simmer 16 = .ok (.lconst 1, 1) := by decide +kernel
theorem dX5_simmer_17 : decode cX5_simmer 17 = .ok (.ldc2_w 162, 3) := by decide +kernel
theorem dX5_simmer_20 : decode cX5_simmer 20 = .ok (.invokestatic 58, 3) := by decide +kernel
theorem dX5_simmer_23 : decode cX5_simmer 23 = .ok (.ifCond .ne 5, 3) := by decide +kernel
theorem dX5_simmer_26 : decode cX5_simmer 26 = .ok (.iconst (-1), 1) := by decide +kernel
theorem dX5_simmer_27 : decode cX5_simmer 27 = .ok (.ireturn, 1) := by decide +kernel
theorem dX5_simmer_28 : decode cX5_simmer 28 = .ok (.iconst 0, 1) := by decide +kernel
theorem dX5_simmer_29 : decode cX5_simmer 29 = .ok (.istore_n 3, 1) := by decide +kernel
theorem dX5_simmer_30 : decode cX5_simmer 30 = .ok (.iload_n 3, 1) := by decide +kernel
theorem dX5_simmer_31 : decode cX5_simmer 31 = .ok (.iload_n 2, 1) := by decide +kernel
theorem dX5_simmer_32 : decode cX5_simmer 32 = .ok (.if_icmp .ge 16, 3) := by decide +kernel
theorem dX5_simmer_35 : decode cX5_simmer 35 = .ok (.aload_n 0, 1) := by decide +kernel
theorem dX5_simmer_36 : decode cX5_simmer 36 = .ok (.iconst 0, 1) := by decide +kernel
theorem dX5_simmer_37 : decode cX5_simmer 37 = .ok (.iload_n 1, 1) := by decide +kernel
theorem dX5_simmer_38 : decode cX5_simmer 38 = .ok (.iconst 1, 1) := by decide +kernel
theorem dX5_simmer_39 : decode cX5_simmer 39 = .ok (.invokevirtual 164, 3) := by decide +kernel
theorem dX5_simmer_42 : decode cX5_simmer 42 = .ok (.iinc 3 1, 3) := by decide +kernel
theorem dX5_simmer_45 : decode cX5_simmer 45 = .ok (.goto (-15), 3) := by decide +kernel
theorem dX5_simmer_48 : decode cX5_simmer 48 = .ok (.aload_n 0, 1) := by decide +kernel
theorem dX5_simmer_49 : decode cX5_simmer 49 = .ok (.getfield 23, 3) := by decide +kernel
theorem dX5_simmer_52 : decode cX5_simmer 52 = .ok (.bipush 13, 2) := by decide +kernel
theorem dX5_simmer_54 : decode cX5_simmer 54 = .ok (.iaload, 1) := by decide +kernel
theorem dX5_simmer_55 : decode cX5_simmer 55 = .ok (.ireturn, 1) := by decide +kernel
theorem dX5_turns_0 : decode cX5_turns 0 = .ok (.aload_n 0, 1) := by decide +kernel
theorem dX5_turns_1 : decode cX5_turns 1 = .ok (.getfield 23, 3) := by decide +kernel
theorem dX5_turns_4 : decode cX5_turns 4 = .ok (.bipush 20, 2) := by decide +kernel
theorem dX5_turns_6 : decode cX5_turns 6 = .ok (.iload_n 1, 1) := by decide +kernel
theorem dX5_turns_7 : decode cX5_turns 7 = .ok (.imul, 1) := by decide +kernel
theorem dX5_turns_8 : decode cX5_turns 8 = .ok (.bipush 16, 2) := by decide +kernel
theorem dX5_turns_10 : decode cX5_turns 10 = .ok (.iadd, 1) := by decide +kernel
theorem dX5_turns_11 : decode cX5_turns 11 = .ok (.aload_n 0, 1) := by decide +kernel
theorem dX5_turns_12 : decode cX5_turns 12 = .ok (.getfield 23, 3) := by decide +kernel
theorem dX5_turns_15 : decode cX5_turns 15 = .ok (.bipush 20, 2) := by decide +kernel
theorem dX5_turns_17 : decode cX5_turns 17 = .ok (.iload_n 1, 1) := by decide +kernel
theorem dX5_turns_18 : decode cX5_turns 18 = .ok (.imul, 1) := by decide +kernel
theorem dX5_turns_19 : decode cX5_turns 19 = .ok (.bipush 16, 2) := by decide +kernel
theorem dX5_turns_21 : decode cX5_turns 21 = .ok (.iadd, 1) := by decide +kernel
theorem dX5_turns_22 : decode cX5_turns 22 = .ok (.iaload, 1) := by decide +kernel
theorem dX5_turns_23 : decode cX5_turns 23 = .ok (.iload_n 2, 1) := by decide +kernel
theorem dX5_turns_24 : decode cX5_turns 24 = .ok (.iadd, 1) := by decide +kernel
theorem dX5_turns_25 : decode cX5_turns 25 = .ok (.iconst 4, 1) := by decide +kernel
theorem dX5_turns_26 : decode cX5_turns 26 = .ok (.irem, 1) := by decide +kernel
theorem dX5_turns_27 : decode cX5_turns 27 = .ok (.iastore, 1) := by decide +kernel
theorem dX5_turns_28 : decode cX5_turns 28 = .ok (.return_, 1) := by decide +kernel
theorem dX5_turn_0 : decode cX5_turn 0 = .ok (.iload_n 1, 1) := by decide +kernel
theorem dX5_turn_1 : decode cX5_turn 1 = .ok (.i2l, 1) := by decide +kernel
