theorem dX4_test_24 : decode cX4_test 24 = .ok (.getfield 258, 3) := by decide +kernel
theorem dX4_test_27 : decode cX4_test 27 = .ok (.iconst 0, 1) := by decide +kernel
theorem dX4_test_28 : decode cX4_test 28 = .ok (.bipush 19, 2) := by decide +kernel
theorem dX4_test_30 : decode cX4_test 30 = .ok (.invokestatic 69, 3) := by decide +kernel
theorem dX4_test_33 : decode cX4_test 33 = .ok (.ifCond .eq 6, 3) := by decide +kernel
theorem dX4_test_36 : decode cX4_test 36 = .ok (.bipush (-3), 2) := by decide +kernel
theorem dX4_test_38 : decode cX4_test 38 = .ok (.ireturn, 1) := by decide +kernel
theorem dX4_test_39 : decode cX4_test 39 = .ok (.aload_n 0, 1) := by decide +kernel
theorem dX4_test_40 : decode cX4_test 40 = .ok (.getfield 55, 3) := by decide +kernel
theorem dX4_test_43 : decode cX4_test 43 = .ok (.aload_n 0, 1) := by decide +kernel
theorem dX4_test_44 : decode cX4_test 44 = .ok (.getfield 258, 3) := by decide +kernel
theorem dX4_test_47 : decode cX4_test 47 = .ok (.iload_n 1, 1) := by decide +kernel
theorem dX4_test_48 : decode cX4_test 48 = .ok (.iastore, 1) := by decide +kernel
theorem dX4_test_49 : decode cX4_test 49 = .ok (.aload_n 0, 1) := by decide +kernel
theorem dX4_test_50 : decode cX4_test 50 = .ok (.getfield 58, 3) := by decide +kernel
theorem dX4_test_53 : decode cX4_test 53 = .ok (.aload_n 0, 1) := by decide +kernel
theorem dX4_test_54 : decode cX4_test 54 = .ok (.getfield 258, 3) := by decide +kernel
theorem dX4_test_57 : decode cX4_test 57 = .ok (.iload_n 2, 1) := by decide +kernel
theorem dX4_test_58 : decode cX4_test 58 = .ok (.iastore, 1) := by decide +kernel
theorem dX4_test_59 : decode cX4_test 59 = .ok (.aload_n 0, 1) := by decide +kernel
theorem dX4_test_60 : decode cX4_test 60 = .ok (.dup, 1) := by decide +kernel
theorem dX4_test_61 : decode cX4_test 61 = .ok (.getfield 258, 3) := by decide +kernel
theorem dX4_test_64 : decode cX4_test 64 = .ok (.iconst 1, 1) := by decide +kernel
theorem dX4_test_65 : decode cX4_test 65 = .ok (.iadd, 1) := by decide +kernel
theorem dX4_test_66 : decode cX4_test 66 = .ok (.putfield 258, 3) := by decide +kernel
theorem dX4_test_69 : decode cX4_test 69 = .ok (.aload_n 0, 1) := by decide +kernel
theorem dX4_test_70 : decode cX4_test 70 = .ok (.getfield 258, 3) := by decide +kernel
theorem dX4_test_73 : decode cX4_test 73 = .ok (.ireturn, 1) := by decide +kernel
theorem dX4_holds_0 : decode cX4_holds 0 = .ok (.iload_n 1, 1) := by decide +kernel
theorem dX4_holds_1 : decode cX4_holds 1 = .ok (.iconst 0, 1) := by decide +kernel
theorem dX4_holds_2 : decode cX4_holds 2 = .ok (.iconst 2, 1) := by decide +kernel
theorem dX4_holds_3 : decode cX4_holds 3 = .ok (.invokestatic 69, 3) := by decide +kernel
theorem dX4_holds_6 : decode cX4_holds 6 = .ok (.ifCond .eq 5, 3) := by decide +kernel
theorem dX4_holds_9 : decode cX4_holds 9 = .ok (.iconst (-1), 1) := by decide +kernel
theorem dX4_holds_10 : decode cX4_holds 10 = .ok (.ireturn, 1) := by decide +kernel
theorem dX4_holds_11 : decode cX4_holds 11 = .ok (.bipush (-9), 2) := by decide +kernel
theorem dX4_holds_13 : decode cX4_holds 13 = .ok (.istore_n 2, 1) := by decide +kernel
theorem dX4_holds_14 : decode cX4_holds 14 = .ok (.bipush (-9), 2) := by decide +kernel
theorem dX4_holds_16 : decode cX4_holds 16 = .ok (.istore_n 3, 1) := by decide +kernel
theorem dX4_holds_17 : decode cX4_holds 17 = .ok (.iconst 0, 1) := by decide +kernel
theorem dX4_holds_18 : decode cX4_holds 18 = .ok (.istore 4, 2) := by decide +kernel
theorem dX4_holds_20 : decode cX4_holds 20 = .ok (.iload 4, 2) := by decide +kernel
theorem dX4_holds_22 : decode cX4_holds 22 = .ok (.aload_n 0, 1) := by decide +kernel
theorem dX4_holds_23 : decode cX4_holds 23 = .ok (.getfield 258, 3) := by decide +kernel
theorem dX4_holds_26 : decode cX4_holds 26 = .ok (.if_icmp .ge 71, 3) := by decide +kernel
theorem dX4_holds_29 : decode cX4_holds 29 = .ok (.iload 4, 2) := by decide +kernel
theorem dX4_holds_31 : decode cX4_holds 31 = .ok (.bipush 20, 2) := by decide +kernel
theorem dX4_holds_33 : decode cX4_holds 33 = .ok (.if_icmp .ge 64, 3) := by decide +kernel
theorem dX4_holds_36 : decode cX4_holds 36 = .ok (.aload_n 0, 1) := by decide +kernel
theorem dX4_holds_37 : decode cX4_holds 37 = .ok (.getfield 58, 3) := by decide +kernel
theorem dX4_holds_40 : decode cX4_holds 40 = .ok (.iload 4, 2) := by decide +kernel
theorem dX4_holds_42 : decode cX4_holds 42 = .ok (.iaload, 1) := by decide +kernel
theorem dX4_holds_43 : decode cX4_holds 43 = .ok (.bipush 100, 2) := by decide +kernel
theorem dX4_holds_45 : decode cX4_holds 45 = .ok (.if_icmp .gt 34, 3) := by decide +kernel
theorem dX4_holds_48 : decode cX4_holds 48 = .ok (.iload_n 2, 1) := by decide +kernel
theorem dX4_holds_49 : decode cX4_holds 49 = .ok (.bipush (-9), 2) := by decide +kernel
theorem dX4_holds_51 : decode cX4_holds 51 = .ok (.if_icmp .ne 13, 3) := by decide +kernel
theorem dX4_holds_54 : decode cX4_holds 54 = .ok (.aload_n 0, 1) := by decide +kernel
theorem dX4_holds_55 : decode cX4_holds 55 = .ok (.getfield 55, 3) := by decide +kernel
theorem dX4_holds_58 : decode cX4_holds 58 = .ok (.iload 4, 2) := by decide +kernel
theorem dX4_holds_60 : decode cX4_holds 60 = .ok (.iaload, 1) := by decide +kernel
theorem dX4_holds_61 : decode cX4_holds 61 = .ok (.goto 14, 3) := by decide +kernel
theorem dX4_holds_64 : decode cX4_holds 64 = .ok (.iload_n 2, 1) := by decide +kernel
theorem dX4_holds_65 : decode cX4_holds 65 = .ok (.aload_n 0, 1) := by decide +kernel
theorem dX4_holds_66 : decode cX4_holds 66 = .ok (.getfield 55, 3) := by decide +kernel
theorem dX4_holds_69 : decode cX4_holds 69 = .ok (.iload 4, 2) := by decide +kernel
theorem dX4_holds_71 : decode cX4_holds 71 = .ok (.iaload, 1) := by decide +kernel
theorem dX4_holds_72 : decode cX4_holds 72 = .ok (.invokestatic 261, 3) := by decide +kernel
theorem dX4_holds_75 : decode cX4_holds 75 = .ok (.istore_n 2, 1) := by decide +kernel
theorem dX4_holds_76 : decode cX4_holds 76 = .ok (.goto 15, 3) := by decide +kernel
theorem dX4_holds_79 : decode cX4_holds 79 = .ok (.iload_n 3, 1) := by decide +kernel
theorem dX4_holds_80 : decode cX4_holds 80 = .ok (.aload_n 0, 1) := by decide +kernel
theorem dX4_holds_81 : decode cX4_holds 81 = .ok (.getfield 55, 3) := by decide +kernel
theorem dX4_holds_84 : decode cX4_holds 84 = .ok (.iload 4, 2) := by decide +kernel
theorem dX4_holds_86 : decode cX4_holds 86 = .ok (.iaload, 1) := by decide +kernel
theorem dX4_holds_87 : decode cX4_holds 87 = .ok (.invokestatic 243, 3) := by decide +kernel
theorem dX4_holds_90 : decode cX4_holds 90 = .ok (.istore_n 3, 1) := by decide +kernel
theorem dX4_holds_91 : decode cX4_holds 91 = .ok (.iinc 4 1, 3) := by decide +kernel
theorem dX4_holds_94 : decode cX4_holds 94 = .ok (.goto (-74), 3) := by decide +kernel
theorem dX4_holds_97 : decode cX4_holds 97 = .ok (.iload_n 1, 1) := by decide +kernel
theorem dX4_holds_98 : decode cX4_holds 98 = .ok (.iconst 2, 1) := by decide +kernel
theorem dX4_holds_99 : decode cX4_holds 99 = .ok (.if_icmp .ne 26, 3) := by decide +kernel
theorem dX4_holds_102 : decode cX4_holds 102 = .ok (.iload_n 2, 1) := by decide +kernel
theorem dX4_holds_103 : decode cX4_holds 103 = .ok (.bipush (-9), 2) := by decide +kernel
theorem dX4_holds_105 : decode cX4_holds 105 = .ok (.if_icmp .eq 14, 3) := by decide +kernel
theorem dX4_holds_108 : decode cX4_holds 108 = .ok (.iload_n 3, 1) := by decide +kernel
theorem dX4_holds_109 : decode cX4_holds 109 = .ok (.bipush (-9), 2) := by decide +kernel
theorem dX4_holds_111 : decode cX4_holds 111 = .ok (.if_icmp .eq 8, 3) := by decide +kernel
theorem dX4_holds_114 : decode cX4_holds 114 = .ok (.iload_n 3, 1) := by decide +kernel
theorem dX4_holds_115 : decode cX4_holds 115 = .ok (.iload_n 2, 1) := by decide +kernel
theorem dX4_holds_116 : decode cX4_holds 116 = .ok (.if_icmp .ge 7, 3) := by decide +kernel
theorem dX4_holds_119 : decode cX4_holds 119 = .ok (.iconst 1, 1) := by decide +kernel
theorem dX4_holds_120 : decode cX4_holds 120 = .ok (.goto 4, 3) := by decide +kernel
theorem dX4_holds_123 : decode cX4_holds 123 = .ok (.iconst 0, 1) := by decide +kernel
theorem dX4_holds_124 : decode cX4_holds 124 = .ok (.ireturn, 1) := by decide +kernel
theorem dX4_holds_125 : decode cX4_holds 125 = .ok (.iload_n 1, 1) := by decide +kernel
theorem dX4_holds_126 : decode cX4_holds 126 = .ok (.ifCond .ne 7, 3) := by decide +kernel
theorem dX4_holds_129 : decode cX4_holds 129 = .ok (.iload_n 2, 1) := by decide +kernel
theorem dX4_holds_130 : decode cX4_holds 130 = .ok (.goto 4, 3) := by decide +kernel
theorem dX4_holds_133 : decode cX4_holds 133 = .ok (.iload_n 3, 1) := by decide +kernel
theorem dX4_holds_134 : decode cX4_holds 134 = .ok (.ireturn, 1) := by decide +kernel
theorem dX4_tube_0 : decode cX4_tube 0 = .ok (.iload_n 1, 1) := by decide +kernel
theorem dX4_tube_1 : decode cX4_tube 1 = .ok (.iconst 1, 1) := by decide +kernel
theorem dX4_tube_2 : decode cX4_tube 2 = .ok (.bipush 99, 2) := by decide +kernel
theorem dX4_tube_4 : decode cX4_tube 4 = .ok (.invokestatic 69, 3) := by decide +kernel
theorem dX4_tube_7 : decode cX4_tube 7 = .ok (.ifCond .ne 23, 3) := by decide +kernel
theorem dX4_tube_10 : decode cX4_tube 10 = .ok (.iload_n 2, 1) := by decide +kernel
theorem dX4_tube_11 : decode cX4_tube 11 = .ok (.iconst 1, 1) := by decide +kernel
theorem dX4_tube_12 : decode cX4_tube 12 = .ok (.sipush 999, 3) := by decide +kernel
theorem dX4_tube_15 : decode cX4_tube 15 = .ok (.invokestatic 69, 3) := by decide +kernel
theorem dX4_tube_18 : decode cX4_tube 18 = .ok (.ifCond .ne 12, 3) := by decide +kernel
theorem dX4_tube_21 : decode cX4_tube 21 = .ok (.iload_n 3, 1) := by decide +kernel
theorem dX4_tube_22 : decode cX4_tube 22 = .ok (.iconst 0, 1) := by decide +kernel
theorem dX4_tube_23 : decode cX4_tube 23 = .ok (.iconst 1, 1) := by decide +kernel
theorem dX4_tube_24 : decode cX4_tube 24 = .ok (.invokestatic 69, 3) := by decide +kernel
theorem dX4_tube_27 : decode cX4_tube 27 = .ok (.ifCond .eq 5, 3) := by decide +kernel
theorem dX4_tube_30 : decode cX4_tube 30 = .ok (.iconst (-1), 1) := by decide +kernel
theorem dX4_tube_31 : decode cX4_tube 31 = .ok (.ireturn, 1) := by decide +kernel
theorem dX4_tube_32 : decode cX4_tube 32 = .ok (.iload_n 3, 1) := by decide +kernel
theorem dX4_tube_33 : decode cX4_tube 33 = .ok (.ifCond .ne 9, 3) := by decide +kernel
theorem dX4_tube_36 : decode cX4_tube 36 = .ok (.iload_n 2, 1) := by decide +kernel
theorem dX4_tube_37 : decode cX4_tube 37 = .ok (.iload_n 1, 1) := by decide +kernel
theorem dX4_tube_38 : decode cX4_tube 38 = .ok (.idiv, 1) := by decide +kernel
theorem dX4_tube_39 : decode cX4_tube 39 = .ok (.goto 8, 3) := by decide +kernel
theorem dX4_tube_42 : decode cX4_tube 42 = .ok (.iconst 2, 1) := by decide +kernel
theorem dX4_tube_43 : decode cX4_tube 43 = .ok (.iload_n 2, 1) := by decide +kernel
theorem dX4_tube_44 : decode cX4_tube 44 = .ok (.imul, 1) := by decide +kernel
theorem dX4_tube_45 : decode cX4_tube 45 = .ok (.iload_n 1, 1) := by decide +kernel
theorem dX4_tube_46 : decode cX4_tube 46 = .ok (.idiv, 1) := by decide +kernel
theorem dX4_tube_47 : decode cX4_tube 47 = .ok (.ireturn, 1) := by decide +kernel
theorem dX4_mark_0 : decode cX4_mark 0 = .ok (.iload_n 2, 1) := by decide +kernel
theorem dX4_mark_1 : decode cX4_mark 1 = .ok (.iconst 0, 1) := by decide +kernel
theorem dX4_mark_2 : decode cX4_mark 2 = .ok (.iconst 3, 1) := by decide +kernel
theorem dX4_mark_3 : decode cX4_mark 3 = .ok (.invokestatic 69, 3) := by decide +kernel
theorem dX4_mark_6 : decode cX4_mark 6 = .ok (.ifCond .eq 7, 3) := by decide +kernel
theorem dX4_mark_9 : decode cX4_mark 9 = .ok (.ldc_w 264, 3) := by decide +kernel
theorem dX4_mark_12 : decode cX4_mark 12 = .ok (.ireturn, 1) := by decide +kernel
theorem dX4_mark_13 : decode cX4_mark 13 = .ok (.iload_n 1, 1) := by decide +kernel
theorem dX4_mark_14 : decode cX4_mark 14 = .ok (.tableswitch 74 0 5 #[38, 44, 50, 56, 62, 68], 38) := by decide +kernel
theorem dX4_mark_52 : decode cX4_mark 52 = .ok (.aload_n 0, 1) := by decide +kernel
theorem dX4_mark_53 : decode cX4_mark 53 = .ok (.iload_n 2, 1) := by decide +kernel
theorem dX4_mark_54 : decode cX4_mark 54 = .ok (.invokevirtual 265, 3) := by decide +kernel
theorem dX4_mark_57 : decode cX4_mark 57 = .ok (.ireturn, 1) := by decide +kernel
theorem dX4_mark_58 : decode cX4_mark 58 = .ok (.aload_n 0, 1) := by decide +kernel
theorem dX4_mark_59 : decode cX4_mark 59 = .ok (.iload_n 2, 1) := by decide +kernel
theorem dX4_mark_60 : decode cX4_mark 60 = .ok (.invokevirtual 268, 3) := by decide +kernel
theorem dX4_mark_63 : decode cX4_mark 63 = .ok (.ireturn, 1) := by decide +kernel
theorem dX4_mark_64 : decode cX4_mark 64 = .ok (.aload_n 0, 1) := by decide +kernel
theorem dX4_mark_65 : decode cX4_mark 65 = .ok (.iload_n 2, 1) := by decide +kernel
theorem dX4_mark_66 : decode cX4_mark 66 = .ok (.invokevirtual 271, 3) := by decide +kernel
theorem dX4_mark_69 : decode cX4_mark 69 = .ok (.ireturn, 1) := by decide +kernel
theorem dX4_mark_70 : decode cX4_mark 70 = .ok (.aload_n 0, 1) := by decide +kernel
theorem dX4_mark_71 : decode cX4_mark 71 = .ok (.iload_n 2, 1) := by decide +kernel
theorem dX4_mark_72 : decode cX4_mark 72 = .ok (.invokevirtual 274, 3) := by decide +kernel
theorem dX4_mark_75 : decode cX4_mark 75 = .ok (.ireturn, 1) := by decide +kernel
theorem dX4_mark_76 : decode cX4_mark 76 = .ok (.aload_n 0, 1) := by decide +kernel
theorem dX4_mark_77 : decode cX4_mark 77 = .ok (.iload_n 2, 1) := by decide +kernel
theorem dX4_mark_78 : decode cX4_mark 78 = .ok (.invokevirtual 277, 3) := by decide +kernel
theorem dX4_mark_81 : decode cX4_mark 81 = .ok (.ireturn, 1) := by decide +kernel
theorem dX4_mark_82 : decode cX4_mark 82 = .ok (.aload_n 0, 1) := by decide +kernel
theorem dX4_mark_83 : decode cX4_mark 83 = .ok (.iload_n 2, 1) := by decide +kernel
theorem dX4_mark_84 : decode cX4_mark 84 = .ok (.invokevirtual 280, 3) := by decide +kernel
theorem dX4_mark_87 : decode cX4_mark 87 = .ok (.ireturn, 1) := by decide +kernel
theorem dX4_mark_88 : decode cX4_mark 88 = .ok (.ldc_w 264, 3) := by decide +kernel
theorem dX4_mark_91 : decode cX4_mark 91 = .ok (.ireturn, 1) := by decide +kernel
theorem dX4_keep_0 : decode cX4_keep 0 = .ok (.iload_n 1, 1) := by decide +kernel
theorem dX4_keep_1 : decode cX4_keep 1 = .ok (.iconst 0, 1) := by decide +kernel
theorem dX4_keep_2 : decode cX4_keep 2 = .ok (.iconst 1, 1) := by decide +kernel
theorem dX4_keep_3 : decode cX4_keep 3 = .ok (.invokestatic 69, 3) := by decide +kernel
theorem dX4_keep_6 : decode cX4_keep 6 = .ok (.ifCond .eq 5, 3) := by decide +kernel
theorem dX4_keep_9 : decode cX4_keep 9 = .ok (.iconst (-1), 1) := by decide +kernel
theorem dX4_keep_10 : decode cX4_keep 10 = .ok (.ireturn, 1) := by decide +kernel
theorem dX4_keep_11 : decode cX4_keep 11 = .ok (.aload_n 0, 1) := by decide +kernel
theorem dX4_keep_12 : decode cX4_keep 12 = .ok (.getfield 43, 3) := by decide +kernel
theorem dX4_keep_15 : decode cX4_keep 15 = .ok (.iload_n 1, 1) := by decide +kernel
theorem dX4_keep_16 : decode cX4_keep 16 = .ok (.aaload, 1) := by decide +kernel
theorem dX4_keep_17 : decode cX4_keep 17 = .ok (.aload_n 0, 1) := by decide +kernel
theorem dX4_keep_18 : decode cX4_keep 18 = .ok (.getfield 32, 3) := by decide +kernel
theorem dX4_keep_21 : decode cX4_keep 21 = .ok (.invokevirtual 283, 3) := by decide +kernel
theorem dX4_keep_24 : decode cX4_keep 24 = .ok (.aload_n 0, 1) := by decide +kernel
theorem dX4_keep_25 : decode cX4_keep 25 = .ok (.getfield 47, 3) := by decide +kernel
theorem dX4_keep_28 : decode cX4_keep 28 = .ok (.iload_n 1, 1) := by decide +kernel
theorem dX4_keep_29 : decode cX4_keep 29 = .ok (.iconst 1, 1) := by decide +kernel
theorem dX4_keep_30 : decode cX4_keep 30 = .ok (.bastore, 1) := by decide +kernel
theorem dX4_keep_31 : decode cX4_keep 31 = .ok (.aload_n 0, 1) := by decide +kernel
theorem dX4_keep_32 : decode cX4_keep 32 = .ok (.getfield 32, 3) := by decide +kernel
theorem dX4_keep_35 : decode cX4_keep 35 = .ok (.getfield 167, 3) := by decide +kernel
theorem dX4_keep_38 : decode cX4_keep 38 = .ok (.ireturn, 1) := by decide +kernel
theorem dX4_back_0 : decode cX4_back 0 = .ok (.iload_n 1, 1) := by decide +kernel
theorem dX4_back_1 : decode cX4_back 1 = .ok (.iconst 0, 1) := by decide +kernel
theorem dX4_back_2 : decode cX4_back 2 = .ok (.iconst 1, 1) := by decide +kernel
theorem dX4_back_3 : decode cX4_back 3 = .ok (.invokestatic 69, 3) := by decide +kernel
theorem dX4_back_6 : decode cX4_back 6 = .ok (.ifCond .eq 5, 3) := by decide +kernel
theorem dX4_back_9 : decode cX4_back 9 = .ok (.iconst (-1), 1) := by decide +kernel
theorem dX4_back_10 : decode cX4_back 10 = .ok (.ireturn, 1) := by decide +kernel
theorem dX4_back_11 : decode cX4_back 11 = .ok (.aload_n 0, 1) := by decide +kernel
theorem dX4_back_12 : decode cX4_back 12 = .ok (.getfield 47, 3) := by decide +kernel
theorem dX4_back_15 : decode cX4_back 15 = .ok (.iload_n 1, 1) := by decide +kernel
theorem dX4_back_16 : decode cX4_back 16 = .ok (.baload, 1) := by decide +kernel
theorem dX4_back_17 : decode cX4_back 17 = .ok (.ifCond .ne 6, 3) := by decide +kernel
theorem dX4_back_20 : decode cX4_back 20 = .ok (.bipush (-2), 2) := by decide +kernel
theorem dX4_back_22 : decode cX4_back 22 = .ok (.ireturn, 1) := by decide +kernel
theorem dX4_back_23 : decode cX4_back 23 = .ok (.aload_n 0, 1) := by decide +kernel
theorem dX4_back_24 : decode cX4_back 24 = .ok (.getfield 32, 3) := by decide +kernel
theorem dX4_back_27 : decode cX4_back 27 = .ok (.aload_n 0, 1) := by decide +kernel
theorem dX4_back_28 : decode cX4_back 28 = .ok (.getfield 43, 3) := by decide +kernel
theorem dX4_back_31 : decode cX4_back 31 = .ok (.iload_n 1, 1) := by decide +kernel
theorem dX4_back_32 : decode cX4_back 32 = .ok (.aaload, 1) := by decide +kernel
theorem dX4_back_33 : decode cX4_back 33 = .ok (.invokevirtual 283, 3) := by decide +kernel
theorem dX4_back_36 : decode cX4_back 36 = .ok (.aload_n 0, 1) := by decide +kernel
theorem dX4_back_37 : decode cX4_back 37 = .ok (.getfield 32, 3) := by decide +kernel
theorem dX4_back_40 : decode cX4_back 40 = .ok (.getfield 167, 3) := by decide +kernel
theorem dX4_back_43 : decode cX4_back 43 = .ok (.ireturn, 1) := by decide +kernel
theorem dX4_count_0 : decode cX4_count 0 = .ok (.iload_n 1, 1) := by decide +kernel
theorem dX4_count_1 : decode cX4_count 1 = .ok (.tableswitch 48 0 2 #[27, 35, 40], 27) := by decide +kernel
theorem dX4_count_28 : decode cX4_count 28 = .ok (.aload_n 0, 1) := by decide +kernel
theorem dX4_count_29 : decode cX4_count 29 = .ok (.getfield 10, 3) := by decide +kernel
theorem dX4_count_32 : decode cX4_count 32 = .ok (.getfield 111, 3) := by decide +kernel
theorem dX4_count_35 : decode cX4_count 35 = .ok (.ireturn, 1) := by decide +kernel
theorem dX4_count_36 : decode cX4_count 36 = .ok (.aload_n 0, 1) := by decide +kernel
theorem dX4_count_37 : decode cX4_count 37 = .ok (.getfield 258, 3) := by decide +kernel
theorem dX4_count_40 : decode cX4_count 40 = .ok (.ireturn, 1) := by decide +kernel
theorem dX4_count_41 : decode cX4_count 41 = .ok (.aload_n 0, 1) := by decide +kernel
theorem dX4_count_42 : decode cX4_count 42 = .ok (.getfield 25, 3) := by decide +kernel
theorem dX4_count_45 : decode cX4_count 45 = .ok (.getfield 73, 3) := by decide +kernel
theorem dX4_count_48 : decode cX4_count 48 = .ok (.ireturn, 1) := by decide +kernel
theorem dX4_count_49 : decode cX4_count 49 = .ok (.iconst (-1), 1) := by decide +kernel
theorem dX4_count_50 : decode cX4_count 50 = .ok (.ireturn, 1) := by decide +kernel
theorem dX4_trace_0 : decode cX4_trace 0 = .ok (.aload_n 0, 1) := by decide +kernel
theorem dX4_trace_1 : decode cX4_trace 1 = .ok (.getfield 286, 3) := by decide +kernel
theorem dX4_trace_4 : decode cX4_trace 4 = .ok (.lreturn, 1) := by decide +kernel
theorem dX4_outside_0 : decode cX4_outside 0 = .ok (.iload_n 0, 1) := by decide +kernel
theorem dX4_outside_1 : decode cX4_outside 1 = .ok (.iload_n 1, 1) := by decide +kernel
theorem dX4_outside_2 : decode cX4_outside 2 = .ok (.if_icmp .lt 8, 3) := by decide +kernel
theorem dX4_outside_5 : decode cX4_outside 5 = .ok (.iload_n 0, 1) := by decide +kernel
theorem dX4_outside_6 : decode cX4_outside 6 = .ok (.iload_n 2, 1) := by decide +kernel
theorem dX4_outside_7 : decode cX4_outside 7 = .ok (.if_icmp .le 7, 3) := by decide +kernel
theorem dX4_outside_10 : decode cX4_outside 10 = .ok (.iconst 1, 1) := by decide +kernel
theorem dX4_outside_11 : decode cX4_outside 11 = .ok (.goto 4, 3) := by decide +kernel
theorem dX4_outside_14 : decode cX4_outside 14 = .ok (.iconst 0, 1) := by decide +kernel
theorem dX4_outside_15 : decode cX4_outside 15 = .ok (.ireturn, 1) := by decide +kernel
theorem dX4_passSeconds_0 : decode cX4_passSeconds 0 = .ok (.iconst 0, 1) := by decide +kernel
theorem dX4_passSeconds_1 : decode cX4_passSeconds 1 = .ok (.istore 4, 2) := by decide +kernel
theorem dX4_passSeconds_3 : decode cX4_passSeconds 3 = .ok (.iload 4, 2) := by decide +kernel
theorem dX4_passSeconds_5 : decode cX4_passSeconds 5 = .ok (.iload_n 3, 1) := by decide +kernel
theorem dX4_passSeconds_6 : decode cX4_passSeconds 6 = .ok (.if_icmp .ge 23, 3) := by decide +kernel
theorem dX4_passSeconds_9 : decode cX4_passSeconds 9 = .ok (.aload_n 0, 1) := by decide +kernel
theorem dX4_passSeconds_10 : decode cX4_passSeconds 10 = .ok (.getfield 32, 3) := by decide +kernel
theorem dX4_passSeconds_13 : decode cX4_passSeconds 13 = .ok (.aload_n 0, 1) := by decide +kernel
theorem dX4_passSeconds_14 : decode cX4_passSeconds 14 = .ok (.getfield 10, 3) := by decide +kernel
theorem dX4_passSeconds_17 : decode cX4_passSeconds 17 = .ok (.iload_n 1, 1) := by decide +kernel
theorem dX4_passSeconds_18 : decode cX4_passSeconds 18 = .ok (.iload_n 2, 1) := by decide +kernel
theorem dX4_passSeconds_19 : decode cX4_passSeconds 19 = .ok (.invokevirtual 290, 3) := by decide +kernel
theorem dX4_passSeconds_22 : decode cX4_passSeconds 22 = .ok (.pop, 1) := by decide +kernel
theorem dX4_passSeconds_23 : decode cX4_passSeconds 23 = .ok (.iinc 4 1, 3) := by decide +kernel
theorem dX4_passSeconds_26 : decode cX4_passSeconds 26 = .ok (.goto (-23), 3) := by decide +kernel
theorem dX4_passSeconds_29 : decode cX4_passSeconds 29 = .ok (.aload_n 0, 1) := by decide +kernel
theorem dX4_passSeconds_30 : decode cX4_passSeconds 30 = .ok (.getfield 32, 3) := by decide +kernel
theorem dX4_passSeconds_33 : decode cX4_passSeconds 33 = .ok (.getfield 169, 3) := by decide +kernel
theorem dX4_passSeconds_36 : decode cX4_passSeconds 36 = .ok (.ireturn, 1) := by decide +kernel
theorem dX4_chanceOf_0 : decode cX4_chanceOf 0 = .ok (.iconst 1, 1) := by decide +kernel
theorem dX4_chanceOf_1 : decode cX4_chanceOf 1 = .ok (.istore_n 2, 1) := by decide +kernel
theorem dX4_chanceOf_2 : decode cX4_chanceOf 2 = .ok (.iconst 0, 1) := by decide +kernel
theorem dX4_chanceOf_3 : decode cX4_chanceOf 3 = .ok (.istore_n 3, 1) := by decide +kernel
theorem dX4_chanceOf_4 : decode cX4_chanceOf 4 = .ok (.iload_n 3, 1) := by decide +kernel
theorem dX4_chanceOf_5 : decode cX4_chanceOf 5 = .ok (.iconst 4, 1) := by decide +kernel
theorem dX4_chanceOf_6 : decode cX4_chanceOf 6 = .ok (.if_icmp .ge 41, 3) := by decide +kernel
theorem dX4_chanceOf_9 : decode cX4_chanceOf 9 = .ok (.iload_n 2, 1) := by decide +kernel
theorem dX4_chanceOf_10 : decode cX4_chanceOf 10 = .ok (.iload_n 1, 1) := by decide +kernel
theorem dX4_chanceOf_11 : decode cX4_chanceOf 11 = .ok (.iload_n 3, 1) := by decide +kernel
theorem dX4_chanceOf_12 : decode cX4_chanceOf 12 = .ok (.ishr, 1) := by decide +kernel
theorem dX4_chanceOf_13 : decode cX4_chanceOf 13 = .ok (.iconst 1, 1) := by decide +kernel
theorem dX4_chanceOf_14 : decode cX4_chanceOf 14 = .ok (.iand, 1) := by decide +kernel
theorem dX4_chanceOf_15 : decode cX4_chanceOf 15 = .ok (.iconst 1, 1) := by decide +kernel
theorem dX4_chanceOf_16 : decode cX4_chanceOf 16 = .ok (.if_icmp .ne 13, 3) := by decide +kernel
theorem dX4_chanceOf_19 : decode cX4_chanceOf 19 = .ok (.aload_n 0, 1) := by decide +kernel
theorem dX4_chanceOf_20 : decode cX4_chanceOf 20 = .ok (.getfield 10, 3) := by decide +kernel
theorem dX4_chanceOf_23 : decode cX4_chanceOf 23 = .ok (.getfield 102, 3) := by decide +kernel
theorem dX4_chanceOf_26 : decode cX4_chanceOf 26 = .ok (.goto 13, 3) := by decide +kernel
theorem dX4_chanceOf_29 : decode cX4_chanceOf 29 = .ok (.bipush 10, 2) := by decide +kernel
theorem dX4_chanceOf_31 : decode cX4_chanceOf 31 = .ok (.aload_n 0, 1) := by decide +kernel
theorem dX4_chanceOf_32 : decode cX4_chanceOf 32 = .ok (.getfield 10, 3) := by decide +kernel
theorem dX4_chanceOf_35 : decode cX4_chanceOf 35 = .ok (.getfield 102, 3) := by decide +kernel
theorem dX4_chanceOf_38 : decode cX4_chanceOf 38 = .ok (.isub, 1) := by decide +kernel
theorem dX4_chanceOf_39 : decode cX4_chanceOf 39 = .ok (.imul, 1) := by decide +kernel
theorem dX4_chanceOf_40 : decode cX4_chanceOf 40 = .ok (.istore_n 2, 1) := by decide +kernel
theorem dX4_chanceOf_41 : decode cX4_chanceOf 41 = .ok (.iinc 3 1, 3) := by decide +kernel
theorem dX4_chanceOf_44 : decode cX4_chanceOf 44 = .ok (.goto (-40), 3) := by decide +kernel
theorem dX4_chanceOf_47 : decode cX4_chanceOf 47 = .ok (.iload_n 2, 1) := by decide +kernel
theorem dX4_chanceOf_48 : decode cX4_chanceOf 48 = .ok (.ireturn, 1) := by decide +kernel
theorem dX4_staysWhole_0 : decode cX4_staysWhole 0 = .ok (.aload_n 0, 1) := by decide +kernel
theorem dX4_staysWhole_1 : decode cX4_staysWhole 1 = .ok (.getfield 39, 3) := by decide +kernel
theorem dX4_staysWhole_4 : decode cX4_staysWhole 4 = .ok (.aload_n 0, 1) := by decide +kernel
theorem dX4_staysWhole_5 : decode cX4_staysWhole 5 = .ok (.getfield 10, 3) := by decide +kernel
theorem dX4_staysWhole_8 : decode cX4_staysWhole 8 = .ok (.aload_n 0, 1) := by decide +kernel
theorem dX4_staysWhole_9 : decode cX4_staysWhole 9 = .ok (.getfield 39, 3) := by decide +kernel
theorem dX4_staysWhole_12 : decode cX4_staysWhole 12 = .ok (.getfield 193, 3) := by decide +kernel
theorem dX4_staysWhole_15 : decode cX4_staysWhole 15 = .ok (.getfield 167, 3) := by decide +kernel
theorem dX4_staysWhole_18 : decode cX4_staysWhole 18 = .ok (.aload_n 0, 1) := by decide +kernel
theorem dX4_staysWhole_19 : decode cX4_staysWhole 19 = .ok (.getfield 10, 3) := by decide +kernel
theorem dX4_staysWhole_22 : decode cX4_staysWhole 22 = .ok (.invokevirtual 114, 3) := by decide +kernel
theorem dX4_staysWhole_25 : decode cX4_staysWhole 25 = .ok (.iadd, 1) := by decide +kernel
theorem dX4_staysWhole_26 : decode cX4_staysWhole 26 = .ok (.iconst 1, 1) := by decide +kernel
theorem dX4_staysWhole_27 : decode cX4_staysWhole 27 = .ok (.invokevirtual 186, 3) := by decide +kernel
theorem dX4_staysWhole_30 : decode cX4_staysWhole 30 = .ok (.aload_n 0, 1) := by decide +kernel
theorem dX4_staysWhole_31 : decode cX4_staysWhole 31 = .ok (.getfield 39, 3) := by decide +kernel
theorem dX4_staysWhole_34 : decode cX4_staysWhole 34 = .ok (.getfield 193, 3) := by decide +kernel
theorem dX4_staysWhole_37 : decode cX4_staysWhole 37 = .ok (.getfield 169, 3) := by decide +kernel
theorem dX4_staysWhole_40 : decode cX4_staysWhole 40 = .ok (.ifCond .ne 7, 3) := by decide +kernel
theorem dX4_staysWhole_43 : decode cX4_staysWhole 43 = .ok (.iconst 1, 1) := by decide +kernel
theorem dX4_staysWhole_44 : decode cX4_staysWhole 44 = .ok (.goto 4, 3) := by decide +kernel
theorem dX4_staysWhole_47 : decode cX4_staysWhole 47 = .ok (.iconst 0, 1) := by decide +kernel
theorem dX4_staysWhole_48 : decode cX4_staysWhole 48 = .ok (.ireturn, 1) := by decide +kernel
theorem dX4_leastHeat_0 : decode cX4_leastHeat 0 = .ok (.bipush 99, 2) := by decide +kernel
theorem dX4_leastHeat_2 : decode cX4_leastHeat 2 = .ok (.iload_n 2, 1) := by decide +kernel
theorem dX4_leastHeat_3 : decode cX4_leastHeat 3 = .ok (.imul, 1) := by decide +kernel
theorem dX4_leastHeat_4 : decode cX4_leastHeat 4 = .ok (.istore_n 3, 1) := by decide +kernel
theorem dX4_leastHeat_5 : decode cX4_leastHeat 5 = .ok (.iconst 0, 1) := by decide +kernel
theorem dX4_leastHeat_6 : decode cX4_leastHeat 6 = .ok (.istore 4, 2) := by decide +kernel
theorem dX4_leastHeat_8 : decode cX4_leastHeat 8 = .ok (.iload 4, 2) := by decide +kernel
theorem dX4_leastHeat_10 : decode cX4_leastHeat 10 = .ok (.iconst 4, 1) := by decide +kernel
theorem dX4_leastHeat_11 : decode cX4_leastHeat 11 = .ok (.if_icmp .ge 63, 3) := by decide +kernel
theorem dX4_leastHeat_14 : decode cX4_leastHeat 14 = .ok (.iconst 0, 1) := by decide +kernel
theorem dX4_leastHeat_15 : decode cX4_leastHeat 15 = .ok (.istore 5, 2) := by decide +kernel
theorem dX4_leastHeat_17 : decode cX4_leastHeat 17 = .ok (.iload_n 1, 1) := by decide +kernel
theorem dX4_leastHeat_18 : decode cX4_leastHeat 18 = .ok (.istore 6, 2) := by decide +kernel
theorem dX4_leastHeat_20 : decode cX4_leastHeat 20 = .ok (.iconst 0, 1) := by decide +kernel
theorem dX4_leastHeat_21 : decode cX4_leastHeat 21 = .ok (.istore 7, 2) := by decide +kernel
theorem dX4_leastHeat_23 : decode cX4_leastHeat 23 = .ok (.iload 7, 2) := by decide +kernel
theorem dX4_leastHeat_25 : decode cX4_leastHeat 25 = .ok (.iload_n 2, 1) := by decide +kernel
theorem dX4_leastHeat_26 : decode cX4_leastHeat 26 = .ok (.if_icmp .ge 35, 3) := by decide +kernel
theorem dX4_leastHeat_29 : decode cX4_leastHeat 29 = .ok (.iload 5, 2) := by decide +kernel
theorem dX4_leastHeat_31 : decode cX4_leastHeat 31 = .ok (.aload_n 0, 1) := by decide +kernel
theorem dX4_leastHeat_32 : decode cX4_leastHeat 32 = .ok (.iload 6, 2) := by decide +kernel
theorem dX4_leastHeat_34 : decode cX4_leastHeat 34 = .ok (.bipush 24, 2) := by decide +kernel
theorem dX4_leastHeat_36 : decode cX4_leastHeat 36 = .ok (.irem, 1) := by decide +kernel
theorem dX4_leastHeat_37 : decode cX4_leastHeat 37 = .ok (.iconst 4, 1) := by decide +kernel
theorem dX4_leastHeat_38 : decode cX4_leastHeat 38 = .ok (.imul, 1) := by decide +kernel
theorem dX4_leastHeat_39 : decode cX4_leastHeat 39 = .ok (.iload 4, 2) := by decide +kernel
theorem dX4_leastHeat_41 : decode cX4_leastHeat 41 = .ok (.iadd, 1) := by decide +kernel
theorem dX4_leastHeat_42 : decode cX4_leastHeat 42 = .ok (.invokevirtual 294, 3) := by decide +kernel
theorem dX4_leastHeat_45 : decode cX4_leastHeat 45 = .ok (.iadd, 1) := by decide +kernel
theorem dX4_leastHeat_46 : decode cX4_leastHeat 46 = .ok (.istore 5, 2) := by decide +kernel
theorem dX4_leastHeat_48 : decode cX4_leastHeat 48 = .ok (.iload 6, 2) := by decide +kernel
theorem dX4_leastHeat_50 : decode cX4_leastHeat 50 = .ok (.bipush 24, 2) := by decide +kernel
theorem dX4_leastHeat_52 : decode cX4_leastHeat 52 = .ok (.idiv, 1) := by decide +kernel
theorem dX4_leastHeat_53 : decode cX4_leastHeat 53 = .ok (.istore 6, 2) := by decide +kernel
theorem dX4_leastHeat_55 : decode cX4_leastHeat 55 = .ok (.iinc 7 1, 3) := by decide +kernel
theorem dX4_leastHeat_58 : decode cX4_leastHeat 58 = .ok (.goto (-35), 3) := by decide +kernel
theorem dX4_leastHeat_61 : decode cX4_leastHeat 61 = .ok (.iload_n 3, 1) := by decide +kernel
theorem dX4_leastHeat_62 : decode cX4_leastHeat 62 = .ok (.iload 5, 2) := by decide +kernel
theorem dX4_leastHeat_64 : decode cX4_leastHeat 64 = .ok (.invokestatic 261, 3) := by decide +kernel
theorem dX4_leastHeat_67 : decode cX4_leastHeat 67 = .ok (.istore_n 3, 1) := by decide +kernel
theorem dX4_leastHeat_68 : decode cX4_leastHeat 68 = .ok (.iinc 4 1, 3) := by decide +kernel
theorem dX4_leastHeat_71 : decode cX4_leastHeat 71 = .ok (.goto (-63), 3) := by decide +kernel
theorem dX4_leastHeat_74 : decode cX4_leastHeat 74 = .ok (.iload_n 3, 1) := by decide +kernel
theorem dX4_leastHeat_75 : decode cX4_leastHeat 75 = .ok (.ireturn, 1) := by decide +kernel
theorem dX4_heatAt_0 : decode cX4_heatAt 0 = .ok (.iload_n 1, 1) := by decide +kernel
theorem dX4_heatAt_1 : decode cX4_heatAt 1 = .ok (.iconst 0, 1) := by decide +kernel
theorem dX4_heatAt_2 : decode cX4_heatAt 2 = .ok (.getstatic 297, 3) := by decide +kernel
theorem dX4_heatAt_5 : decode cX4_heatAt 5 = .ok (.arraylength, 1) := by decide +kernel
theorem dX4_heatAt_6 : decode cX4_heatAt 6 = .ok (.iconst 1, 1) := by decide +kernel
theorem dX4_heatAt_7 : decode cX4_heatAt 7 = .ok (.isub, 1) := by decide +kernel
theorem dX4_heatAt_8 : decode cX4_heatAt 8 = .ok (.invokestatic 69, 3) := by decide +kernel
theorem dX4_heatAt_11 : decode cX4_heatAt 11 = .ok (.ifCond .eq 5, 3) := by decide +kernel
theorem dX4_heatAt_14 : decode cX4_heatAt 14 = .ok (.iconst 0, 1) := by decide +kernel
theorem dX4_heatAt_15 : decode cX4_heatAt 15 = .ok (.ireturn, 1) := by decide +kernel
theorem dX4_heatAt_16 : decode cX4_heatAt 16 = .ok (.getstatic 297, 3) := by decide +kernel
theorem dX4_heatAt_19 : decode cX4_heatAt 19 = .ok (.iload_n 1, 1) := by decide +kernel
theorem dX4_heatAt_20 : decode cX4_heatAt 20 = .ok (.iaload, 1) := by decide +kernel
theorem dX4_heatAt_21 : decode cX4_heatAt 21 = .ok (.istore_n 2, 1) := by decide +kernel
theorem dX4_heatAt_22 : decode cX4_heatAt 22 = .ok (.iload_n 2, 1) := by decide +kernel
theorem dX4_heatAt_23 : decode cX4_heatAt 23 = .ok (.iconst 0, 1) := by decide +kernel
theorem dX4_heatAt_24 : decode cX4_heatAt 24 = .ok (.iconst 3, 1) := by decide +kernel
theorem dX4_heatAt_25 : decode cX4_heatAt 25 = .ok (.invokestatic 69, 3) := by decide +kernel
theorem dX4_heatAt_28 : decode cX4_heatAt 28 = .ok (.ifCond .eq 7, 3) := by decide +kernel
theorem dX4_heatAt_31 : decode cX4_heatAt 31 = .ok (.iconst 0, 1) := by decide +kernel
theorem dX4_heatAt_32 : decode cX4_heatAt 32 = .ok (.goto 9, 3) := by decide +kernel
theorem dX4_heatAt_35 : decode cX4_heatAt 35 = .ok (.aload_n 0, 1) := by decide +kernel
theorem dX4_heatAt_36 : decode cX4_heatAt 36 = .ok (.getfield 51, 3) := by decide +kernel
theorem dX4_heatAt_39 : decode cX4_heatAt 39 = .ok (.iload_n 2, 1) := by decide +kernel
theorem dX4_heatAt_40 : decode cX4_heatAt 40 = .ok (.iaload, 1) := by decide +kernel
theorem dX4_heatAt_41 : decode cX4_heatAt 41 = .ok (.ireturn, 1) := by decide +kernel
theorem dX4_noBeginning_0 : decode cX4_noBeginning 0 = .ok (.iload_n 0, 1) := by decide +kernel
theorem dX4_noBeginning_1 : decode cX4_noBeginning 1 = .ok (.iconst 1, 1) := by decide +kernel
theorem dX4_noBeginning_2 : decode cX4_noBeginning 2 = .ok (.sipush 999, 3) := by decide +kernel
theorem dX4_noBeginning_5 : decode cX4_noBeginning 5 = .ok (.invokestatic 69, 3) := by decide +kernel
theorem dX4_noBeginning_8 : decode cX4_noBeginning 8 = .ok (.ifCond .ne 21, 3) := by decide +kernel
theorem dX4_noBeginning_11 : decode cX4_noBeginning 11 = .ok (.iload_n 1, 1) := by decide +kernel
theorem dX4_noBeginning_12 : decode cX4_noBeginning 12 = .ok (.iconst 0, 1) := by decide +kernel
theorem dX4_noBeginning_13 : decode cX4_noBeginning 13 = .ok (.iconst 3, 1) := by decide +kernel
theorem dX4_noBeginning_14 : decode cX4_noBeginning 14 = .ok (.invokestatic 69, 3) := by decide +kernel
theorem dX4_noBeginning_17 : decode cX4_noBeginning 17 = .ok (.ifCond .ne 12, 3) := by decide +kernel
theorem dX4_noBeginning_20 : decode cX4_noBeginning 20 = .ok (.iload_n 2, 1) := by decide +kernel
theorem dX4_noBeginning_21 : decode cX4_noBeginning 21 = .ok (.iconst 0, 1) := by decide +kernel
theorem dX4_noBeginning_22 : decode cX4_noBeginning 22 = .ok (.iconst 4, 1) := by decide +kernel
theorem dX4_noBeginning_23 : decode cX4_noBeginning 23 = .ok (.invokestatic 69, 3) := by decide +kernel
theorem dX4_noBeginning_26 : decode cX4_noBeginning 26 = .ok (.ifCond .eq 7, 3) := by decide +kernel
theorem dX4_noBeginning_29 : decode cX4_noBeginning 29 = .ok (.iconst 1, 1) := by decide +kernel
theorem dX4_noBeginning_30 : decode cX4_noBeginning 30 = .ok (.goto 4, 3) := by decide +kernel
theorem dX4_noBeginning_33 : decode cX4_noBeginning 33 = .ok (.iconst 0, 1) := by decide +kernel
theorem dX4_noBeginning_34 : decode cX4_noBeginning 34 = .ok (.ireturn, 1) := by decide +kernel
theorem dX4_timesOf_0 : decode cX4_timesOf 0 = .ok (.iload_n 1, 1) := by decide +kernel
theorem dX4_timesOf_1 : decode cX4_timesOf 1 = .ok (.ifCond .eq 8, 3) := by decide +kernel
theorem dX4_timesOf_4 : decode cX4_timesOf 4 = .ok (.iload_n 1, 1) := by decide +kernel
theorem dX4_timesOf_5 : decode cX4_timesOf 5 = .ok (.iconst 1, 1) := by decide +kernel
theorem dX4_timesOf_6 : decode cX4_timesOf 6 = .ok (.if_icmp .ne 7, 3) := by decide +kernel
theorem dX4_timesOf_9 : decode cX4_timesOf 9 = .ok (.iconst 1, 1) := by decide +kernel
theorem dX4_timesOf_10 : decode cX4_timesOf 10 = .ok (.goto 5, 3) := by decide +kernel
theorem dX4_timesOf_13 : decode cX4_timesOf 13 = .ok (.bipush 9, 2) := by decide +kernel
theorem dX4_timesOf_15 : decode cX4_timesOf 15 = .ok (.istore 4, 2) := by decide +kernel
theorem dX4_timesOf_17 : decode cX4_timesOf 17 = .ok (.iconst 0, 1) := by decide +kernel
theorem dX4_timesOf_18 : decode cX4_timesOf 18 = .ok (.istore 5, 2) := by decide +kernel
theorem dX4_timesOf_20 : decode cX4_timesOf 20 = .ok (.iconst 1, 1) := by decide +kernel
theorem dX4_timesOf_21 : decode cX4_timesOf 21 = .ok (.istore 6, 2) := by decide +kernel
theorem dX4_timesOf_23 : decode cX4_timesOf 23 = .ok (.iload 6, 2) := by decide +kernel
theorem dX4_timesOf_25 : decode cX4_timesOf 25 = .ok (.iload 4, 2) := by decide +kernel
theorem dX4_timesOf_27 : decode cX4_timesOf 27 = .ok (.if_icmp .gt 94, 3) := by decide +kernel
theorem dX4_timesOf_30 : decode cX4_timesOf 30 = .ok (.aload_n 0, 1) := by decide +kernel
theorem dX4_timesOf_31 : decode cX4_timesOf 31 = .ok (.iload_n 1, 1) := by decide +kernel
theorem dX4_timesOf_32 : decode cX4_timesOf 32 = .ok (.iload 6, 2) := by decide +kernel
theorem dX4_timesOf_34 : decode cX4_timesOf 34 = .ok (.invokevirtual 300, 3) := by decide +kernel
theorem dX4_timesOf_37 : decode cX4_timesOf 37 = .ok (.aload_n 0, 1) := by decide +kernel
theorem dX4_timesOf_38 : decode cX4_timesOf 38 = .ok (.getfield 39, 3) := by decide +kernel
theorem dX4_timesOf_41 : decode cX4_timesOf 41 = .ok (.aload_n 0, 1) := by decide +kernel
theorem dX4_timesOf_42 : decode cX4_timesOf 42 = .ok (.getfield 19, 3) := by decide +kernel
theorem dX4_timesOf_45 : decode cX4_timesOf 45 = .ok (.iload_n 1, 1) := by decide +kernel
theorem dX4_timesOf_46 : decode cX4_timesOf 46 = .ok (.iconst 1, 1) := by decide +kernel
theorem dX4_timesOf_47 : decode cX4_timesOf 47 = .ok (.if_icmp .ne 9, 3) := by decide +kernel
theorem dX4_timesOf_50 : decode cX4_timesOf 50 = .ok (.iconst 1, 1) := by decide +kernel
theorem dX4_timesOf_51 : decode cX4_timesOf 51 = .ok (.iload_n 3, 1) := by decide +kernel
theorem dX4_timesOf_52 : decode cX4_timesOf 52 = .ok (.ishl, 1) := by decide +kernel
theorem dX4_timesOf_53 : decode cX4_timesOf 53 = .ok (.goto 4, 3) := by decide +kernel
theorem dX4_timesOf_56 : decode cX4_timesOf 56 = .ok (.iconst 0, 1) := by decide +kernel
theorem dX4_timesOf_57 : decode cX4_timesOf 57 = .ok (.invokevirtual 182, 3) := by decide +kernel
theorem dX4_timesOf_60 : decode cX4_timesOf 60 = .ok (.aload_n 0, 1) := by decide +kernel
theorem dX4_timesOf_61 : decode cX4_timesOf 61 = .ok (.getfield 39, 3) := by decide +kernel
theorem dX4_timesOf_64 : decode cX4_timesOf 64 = .ok (.aload_n 0, 1) := by decide +kernel
theorem dX4_timesOf_65 : decode cX4_timesOf 65 = .ok (.getfield 19, 3) := by decide +kernel
theorem dX4_timesOf_68 : decode cX4_timesOf 68 = .ok (.iload_n 2, 1) := by decide +kernel
theorem dX4_timesOf_69 : decode cX4_timesOf 69 = .ok (.iconst 1, 1) := by decide +kernel
theorem dX4_timesOf_70 : decode cX4_timesOf 70 = .ok (.invokevirtual 186, 3) := by decide +kernel
theorem dX4_timesOf_73 : decode cX4_timesOf 73 = .ok (.aload_n 0, 1) := by decide +kernel
theorem dX4_timesOf_74 : decode cX4_timesOf 74 = .ok (.getfield 39, 3) := by decide +kernel
theorem dX4_timesOf_77 : decode cX4_timesOf 77 = .ok (.getfield 190, 3) := by decide +kernel
theorem dX4_timesOf_80 : decode cX4_timesOf 80 = .ok (.iload_n 2, 1) := by decide +kernel
theorem dX4_timesOf_81 : decode cX4_timesOf 81 = .ok (.if_icmp .ne 34, 3) := by decide +kernel
theorem dX4_timesOf_84 : decode cX4_timesOf 84 = .ok (.aload_n 0, 1) := by decide +kernel
theorem dX4_timesOf_85 : decode cX4_timesOf 85 = .ok (.getfield 39, 3) := by decide +kernel
theorem dX4_timesOf_88 : decode cX4_timesOf 88 = .ok (.getfield 193, 3) := by decide +kernel
theorem dX4_timesOf_91 : decode cX4_timesOf 91 = .ok (.getfield 169, 3) := by decide +kernel
theorem dX4_timesOf_94 : decode cX4_timesOf 94 = .ok (.iconst 1, 1) := by decide +kernel
theorem dX4_timesOf_95 : decode cX4_timesOf 95 = .ok (.if_icmp .ne 20, 3) := by decide +kernel
theorem dX4_timesOf_98 : decode cX4_timesOf 98 = .ok (.aload_n 0, 1) := by decide +kernel
theorem dX4_timesOf_99 : decode cX4_timesOf 99 = .ok (.getfield 39, 3) := by decide +kernel
theorem dX4_timesOf_102 : decode cX4_timesOf 102 = .ok (.getfield 193, 3) := by decide +kernel
theorem dX4_timesOf_105 : decode cX4_timesOf 105 = .ok (.getfield 172, 3) := by decide +kernel
theorem dX4_timesOf_108 : decode cX4_timesOf 108 = .ok (.iload_n 3, 1) := by decide +kernel
theorem dX4_timesOf_109 : decode cX4_timesOf 109 = .ok (.if_icmp .ne 6, 3) := by decide +kernel
theorem dX4_timesOf_112 : decode cX4_timesOf 112 = .ok (.iinc 5 1, 3) := by decide +kernel
theorem dX4_timesOf_115 : decode cX4_timesOf 115 = .ok (.iinc 6 1, 3) := by decide +kernel
theorem dX4_timesOf_118 : decode cX4_timesOf 118 = .ok (.goto (-95), 3) := by decide +kernel
theorem dX4_timesOf_121 : decode cX4_timesOf 121 = .ok (.iload 4, 2) := by decide +kernel
theorem dX4_timesOf_123 : decode cX4_timesOf 123 = .ok (.iconst 1, 1) := by decide +kernel
theorem dX4_timesOf_124 : decode cX4_timesOf 124 = .ok (.if_icmp .ne 11, 3) := by decide +kernel
theorem dX4_timesOf_127 : decode cX4_timesOf 127 = .ok (.iload 5, 2) := by decide +kernel
theorem dX4_timesOf_129 : decode cX4_timesOf 129 = .ok (.bipush 9, 2) := by decide +kernel
theorem dX4_timesOf_131 : decode cX4_timesOf 131 = .ok (.imul, 1) := by decide +kernel
theorem dX4_timesOf_132 : decode cX4_timesOf 132 = .ok (.goto 5, 3) := by decide +kernel
theorem dX4_timesOf_135 : decode cX4_timesOf 135 = .ok (.iload 5, 2) := by decide +kernel
theorem dX4_timesOf_137 : decode cX4_timesOf 137 = .ok (.ireturn, 1) := by decide +kernel
theorem dX4_changeBy_0 : decode cX4_changeBy 0 = .ok (.aload_n 0, 1) := by decide +kernel
theorem dX4_changeBy_1 : decode cX4_changeBy 1 = .ok (.getfield 19, 3) := by decide +kernel
theorem dX4_changeBy_4 : decode cX4_changeBy 4 = .ok (.aload_n 0, 1) := by decide +kernel
theorem dX4_changeBy_5 : decode cX4_changeBy 5 = .ok (.getfield 10, 3) := by decide +kernel
theorem dX4_changeBy_8 : decode cX4_changeBy 8 = .ok (.invokevirtual 83, 3) := by decide +kernel
theorem dX4_changeBy_11 : decode cX4_changeBy 11 = .ok (.iload_n 1, 1) := by decide +kernel
theorem dX4_changeBy_12 : decode cX4_changeBy 12 = .ok (.iconst 2, 1) := by decide +kernel
theorem dX4_changeBy_13 : decode cX4_changeBy 13 = .ok (.if_icmp .ne 29, 3) := by decide +kernel
theorem dX4_changeBy_16 : decode cX4_changeBy 16 = .ok (.aload_n 0, 1) := by decide +kernel
theorem dX4_changeBy_17 : decode cX4_changeBy 17 = .ok (.getfield 19, 3) := by decide +kernel
theorem dX4_changeBy_20 : decode cX4_changeBy 20 = .ok (.bipush 99, 2) := by decide +kernel
theorem dX4_changeBy_22 : decode cX4_changeBy 22 = .ok (.aload_n 0, 1) := by decide +kernel
theorem dX4_changeBy_23 : decode cX4_changeBy 23 = .ok (.getfield 19, 3) := by decide +kernel
theorem dX4_changeBy_26 : decode cX4_changeBy 26 = .ok (.getfield 93, 3) := by decide +kernel
theorem dX4_changeBy_29 : decode cX4_changeBy 29 = .ok (.iconst 4, 1) := by decide +kernel
theorem dX4_changeBy_30 : decode cX4_changeBy 30 = .ok (.iload_n 2, 1) := by decide +kernel
theorem dX4_changeBy_31 : decode cX4_changeBy 31 = .ok (.imul, 1) := by decide +kernel
theorem dX4_changeBy_32 : decode cX4_changeBy 32 = .ok (.iadd, 1) := by decide +kernel
theorem dX4_changeBy_33 : decode cX4_changeBy 33 = .ok (.invokestatic 261, 3) := by decide +kernel
theorem dX4_changeBy_36 : decode cX4_changeBy 36 = .ok (.putfield 93, 3) := by decide +kernel
theorem dX4_changeBy_39 : decode cX4_changeBy 39 = .ok (.goto 50, 3) := by decide +kernel
theorem dX4_changeBy_42 : decode cX4_changeBy 42 = .ok (.iload_n 1, 1) := by decide +kernel
theorem dX4_changeBy_43 : decode cX4_changeBy 43 = .ok (.iconst 3, 1) := by decide +kernel
theorem dX4_changeBy_44 : decode cX4_changeBy 44 = .ok (.if_icmp .ne 17, 3) := by decide +kernel
theorem dX4_changeBy_47 : decode cX4_changeBy 47 = .ok (.aload_n 0, 1) := by decide +kernel
theorem dX4_changeBy_48 : decode cX4_changeBy 48 = .ok (.getfield 19, 3) := by decide +kernel
theorem dX4_changeBy_51 : decode cX4_changeBy 51 = .ok (.bipush 10, 2) := by decide +kernel
theorem dX4_changeBy_53 : decode cX4_changeBy 53 = .ok (.iload_n 2, 1) := by decide +kernel
theorem dX4_changeBy_54 : decode cX4_changeBy 54 = .ok (.imul, 1) := by decide +kernel
theorem dX4_changeBy_55 : decode cX4_changeBy 55 = .ok (.invokevirtual 304, 3) := by decide +kernel
theorem dX4_changeBy_58 : decode cX4_changeBy 58 = .ok (.goto 31, 3) := by decide +kernel
theorem dX4_changeBy_61 : decode cX4_changeBy 61 = .ok (.iload_n 1, 1) := by decide +kernel
theorem dX4_changeBy_62 : decode cX4_changeBy 62 = .ok (.iconst 4, 1) := by decide +kernel
theorem dX4_changeBy_63 : decode cX4_changeBy 63 = .ok (.if_icmp .ne 26, 3) := by decide +kernel
theorem dX4_changeBy_66 : decode cX4_changeBy 66 = .ok (.aload_n 0, 1) := by decide +kernel
theorem dX4_changeBy_67 : decode cX4_changeBy 67 = .ok (.getfield 19, 3) := by decide +kernel
theorem dX4_changeBy_70 : decode cX4_changeBy 70 = .ok (.iconst 1, 1) := by decide +kernel
theorem dX4_changeBy_71 : decode cX4_changeBy 71 = .ok (.aload_n 0, 1) := by decide +kernel
theorem dX4_changeBy_72 : decode cX4_changeBy 72 = .ok (.getfield 19, 3) := by decide +kernel
theorem dX4_changeBy_75 : decode cX4_changeBy 75 = .ok (.getfield 90, 3) := by decide +kernel
theorem dX4_changeBy_78 : decode cX4_changeBy 78 = .ok (.bipush 10, 2) := by decide +kernel
theorem dX4_changeBy_80 : decode cX4_changeBy 80 = .ok (.iload_n 2, 1) := by decide +kernel
theorem dX4_changeBy_81 : decode cX4_changeBy 81 = .ok (.imul, 1) := by decide +kernel
theorem dX4_changeBy_82 : decode cX4_changeBy 82 = .ok (.isub, 1) := by decide +kernel
theorem dX4_changeBy_83 : decode cX4_changeBy 83 = .ok (.invokestatic 243, 3) := by decide +kernel
theorem dX4_changeBy_86 : decode cX4_changeBy 86 = .ok (.putfield 90, 3) := by decide +kernel
theorem dX4_changeBy_89 : decode cX4_changeBy 89 = .ok (.return_, 1) := by decide +kernel
theorem dX4_commonDivisor_0 : decode cX4_commonDivisor 0 = .ok (.iload_n 0, 1) := by decide +kernel
theorem dX4_commonDivisor_1 : decode cX4_commonDivisor 1 = .ok (.istore_n 2, 1) := by decide +kernel
theorem dX4_commonDivisor_2 : decode cX4_commonDivisor 2 = .ok (.iload_n 1, 1) := by decide +kernel
theorem dX4_commonDivisor_3 : decode cX4_commonDivisor 3 = .ok (.istore_n 3, 1) := by decide +kernel
theorem dX4_commonDivisor_4 : decode cX4_commonDivisor 4 = .ok (.iconst 0, 1) := by decide +kernel
theorem dX4_commonDivisor_5 : decode cX4_commonDivisor 5 = .ok (.istore 4, 2) := by decide +kernel
theorem dX4_commonDivisor_7 : decode cX4_commonDivisor 7 = .ok (.iload 4, 2) := by decide +kernel
theorem dX4_commonDivisor_9 : decode cX4_commonDivisor 9 = .ok (.bipush 64, 2) := by decide +kernel
theorem dX4_commonDivisor_11 : decode cX4_commonDivisor 11 = .ok (.if_icmp .ge 23, 3) := by decide +kernel
theorem dX4_commonDivisor_14 : decode cX4_commonDivisor 14 = .ok (.iload_n 3, 1) := by decide +kernel
theorem dX4_commonDivisor_15 : decode cX4_commonDivisor 15 = .ok (.ifCond .eq 19, 3) := by decide +kernel
theorem dX4_commonDivisor_18 : decode cX4_commonDivisor 18 = .ok (.iload_n 2, 1) := by decide +kernel
theorem dX4_commonDivisor_19 : decode cX4_commonDivisor 19 = .ok (.iload_n 3, 1) := by decide +kernel
theorem dX4_commonDivisor_20 : decode cX4_commonDivisor 20 = .ok (.irem, 1) := by decide +kernel
theorem dX4_commonDivisor_21 : decode cX4_commonDivisor 21 = .ok (.istore 5, 2) := by decide +kernel
theorem dX4_commonDivisor_23 : decode cX4_commonDivisor 23 = .ok (.iload_n 3, 1) := by decide +kernel
theorem dX4_commonDivisor_24 : decode cX4_commonDivisor 24 = .ok (.istore_n 2, 1) := by decide +kernel
theorem dX4_commonDivisor_25 : decode cX4_commonDivisor 25 = .ok (.iload 5, 2) := by decide +kernel
theorem dX4_commonDivisor_27 : decode cX4_commonDivisor 27 = .ok (.istore_n 3, 1) := by decide +kernel
theorem dX4_commonDivisor_28 : decode cX4_commonDivisor 28 = .ok (.iinc 4 1, 3) := by decide +kernel
theorem dX4_commonDivisor_31 : decode cX4_commonDivisor 31 = .ok (.goto (-24), 3) := by decide +kernel
theorem dX4_commonDivisor_34 : decode cX4_commonDivisor 34 = .ok (.iload_n 2, 1) := by decide +kernel
theorem dX4_commonDivisor_35 : decode cX4_commonDivisor 35 = .ok (.ireturn, 1) := by decide +kernel
theorem dX4_noDrying_0 : decode cX4_noDrying 0 = .ok (.iload_n 0, 1) := by decide +kernel
theorem dX4_noDrying_1 : decode cX4_noDrying 1 = .ok (.iconst 1, 1) := by decide +kernel
theorem dX4_noDrying_2 : decode cX4_noDrying 2 = .ok (.sipush 9999, 3) := by decide +kernel
theorem dX4_noDrying_5 : decode cX4_noDrying 5 = .ok (.invokestatic 69, 3) := by decide +kernel
theorem dX4_noDrying_8 : decode cX4_noDrying 8 = .ok (.ifCond .ne 22, 3) := by decide +kernel
theorem dX4_noDrying_11 : decode cX4_noDrying 11 = .ok (.iload_n 1, 1) := by decide +kernel
theorem dX4_noDrying_12 : decode cX4_noDrying 12 = .ok (.iconst 0, 1) := by decide +kernel
theorem dX4_noDrying_13 : decode cX4_noDrying 13 = .ok (.iload_n 0, 1) := by decide +kernel
theorem dX4_noDrying_14 : decode cX4_noDrying 14 = .ok (.invokestatic 69, 3) := by decide +kernel
theorem dX4_noDrying_17 : decode cX4_noDrying 17 = .ok (.ifCond .ne 13, 3) := by decide +kernel
theorem dX4_noDrying_20 : decode cX4_noDrying 20 = .ok (.iload_n 2, 1) := by decide +kernel
theorem dX4_noDrying_21 : decode cX4_noDrying 21 = .ok (.iconst 0, 1) := by decide +kernel
theorem dX4_noDrying_22 : decode cX4_noDrying 22 = .ok (.bipush 9, 2) := by decide +kernel
theorem dX4_noDrying_24 : decode cX4_noDrying 24 = .ok (.invokestatic 69, 3) := by decide +kernel
theorem dX4_noDrying_27 : decode cX4_noDrying 27 = .ok (.ifCond .eq 7, 3) := by decide +kernel
theorem dX4_noDrying_30 : decode cX4_noDrying 30 = .ok (.iconst 1, 1) := by decide +kernel
theorem dX4_noDrying_31 : decode cX4_noDrying 31 = .ok (.goto 4, 3) := by decide +kernel
theorem dX4_noDrying_34 : decode cX4_noDrying 34 = .ok (.iconst 0, 1) := by decide +kernel
theorem dX4_noDrying_35 : decode cX4_noDrying 35 = .ok (.ireturn, 1) := by decide +kernel
theorem dX4_dryUntil_0 : decode cX4_dryUntil 0 = .ok (.iconst 0, 1) := by decide +kernel
theorem dX4_dryUntil_1 : decode cX4_dryUntil 1 = .ok (.istore 6, 2) := by decide +kernel
theorem dX4_dryUntil_3 : decode cX4_dryUntil 3 = .ok (.iconst 0, 1) := by decide +kernel
theorem dX4_dryUntil_4 : decode cX4_dryUntil 4 = .ok (.istore 7, 2) := by decide +kernel
theorem dX4_dryUntil_6 : decode cX4_dryUntil 6 = .ok (.aload_n 0, 1) := by decide +kernel
theorem dX4_dryUntil_7 : decode cX4_dryUntil 7 = .ok (.iload_n 1, 1) := by decide +kernel
theorem dX4_dryUntil_8 : decode cX4_dryUntil 8 = .ok (.putfield 255, 3) := by decide +kernel
theorem dX4_dryUntil_11 : decode cX4_dryUntil 11 = .ok (.iload 7, 2) := by decide +kernel
theorem dX4_dryUntil_13 : decode cX4_dryUntil 13 = .ok (.iload 4, 2) := by decide +kernel
theorem dX4_dryUntil_15 : decode cX4_dryUntil 15 = .ok (.if_icmp .ge 62, 3) := by decide +kernel
theorem dX4_dryUntil_18 : decode cX4_dryUntil 18 = .ok (.aload_n 0, 1) := by decide +kernel
theorem dX4_dryUntil_19 : decode cX4_dryUntil 19 = .ok (.getfield 255, 3) := by decide +kernel
theorem dX4_dryUntil_22 : decode cX4_dryUntil 22 = .ok (.iload 5, 2) := by decide +kernel
theorem dX4_dryUntil_24 : decode cX4_dryUntil 24 = .ok (.if_icmp .le 53, 3) := by decide +kernel
theorem dX4_dryUntil_27 : decode cX4_dryUntil 27 = .ok (.aload_n 0, 1) := by decide +kernel
theorem dX4_dryUntil_28 : decode cX4_dryUntil 28 = .ok (.getfield 255, 3) := by decide +kernel
theorem dX4_dryUntil_31 : decode cX4_dryUntil 31 = .ok (.iload_n 2, 1) := by decide +kernel
theorem dX4_dryUntil_32 : decode cX4_dryUntil 32 = .ok (.isub, 1) := by decide +kernel
theorem dX4_dryUntil_33 : decode cX4_dryUntil 33 = .ok (.iconst 1, 1) := by decide +kernel
theorem dX4_dryUntil_34 : decode cX4_dryUntil 34 = .ok (.bipush 10, 2) := by decide +kernel
theorem dX4_dryUntil_36 : decode cX4_dryUntil 36 = .ok (.iload 6, 2) := by decide +kernel
theorem dX4_dryUntil_38 : decode cX4_dryUntil 38 = .ok (.iadd, 1) := by decide +kernel
theorem dX4_dryUntil_39 : decode cX4_dryUntil 39 = .ok (.invokestatic 243, 3) := by decide +kernel
theorem dX4_dryUntil_42 : decode cX4_dryUntil 42 = .ok (.idiv, 1) := by decide +kernel
theorem dX4_dryUntil_43 : decode cX4_dryUntil 43 = .ok (.istore 8, 2) := by decide +kernel
theorem dX4_dryUntil_45 : decode cX4_dryUntil 45 = .ok (.aload_n 0, 1) := by decide +kernel
theorem dX4_dryUntil_46 : decode cX4_dryUntil 46 = .ok (.dup, 1) := by decide +kernel
theorem dX4_dryUntil_47 : decode cX4_dryUntil 47 = .ok (.getfield 255, 3) := by decide +kernel
theorem dX4_dryUntil_50 : decode cX4_dryUntil 50 = .ok (.iload 8, 2) := by decide +kernel
theorem dX4_dryUntil_52 : decode cX4_dryUntil 52 = .ok (.isub, 1) := by decide +kernel
theorem dX4_dryUntil_53 : decode cX4_dryUntil 53 = .ok (.putfield 255, 3) := by decide +kernel
theorem dX4_dryUntil_56 : decode cX4_dryUntil 56 = .ok (.iload 8, 2) := by decide +kernel
theorem dX4_dryUntil_58 : decode cX4_dryUntil 58 = .ok (.iload_n 1, 1) := by decide +kernel
theorem dX4_dryUntil_59 : decode cX4_dryUntil 59 = .ok (.bipush 50, 2) := by decide +kernel
theorem dX4_dryUntil_61 : decode cX4_dryUntil 61 = .ok (.idiv, 1) := by decide +kernel
theorem dX4_dryUntil_62 : decode cX4_dryUntil 62 = .ok (.if_icmp .le 9, 3) := by decide +kernel
theorem dX4_dryUntil_65 : decode cX4_dryUntil 65 = .ok (.iload 6, 2) := by decide +kernel
theorem dX4_dryUntil_67 : decode cX4_dryUntil 67 = .ok (.iload_n 3, 1) := by decide +kernel
theorem dX4_dryUntil_68 : decode cX4_dryUntil 68 = .ok (.iadd, 1) := by decide +kernel
theorem dX4_dryUntil_69 : decode cX4_dryUntil 69 = .ok (.istore 6, 2) := by decide +kernel
theorem dX4_dryUntil_71 : decode cX4_dryUntil 71 = .ok (.iinc 7 1, 3) := by decide +kernel
theorem dX4_dryUntil_74 : decode cX4_dryUntil 74 = .ok (.goto (-63), 3) := by decide +kernel
theorem dX4_dryUntil_77 : decode cX4_dryUntil 77 = .ok (.iload 7, 2) := by decide +kernel
theorem dX4_dryUntil_79 : decode cX4_dryUntil 79 = .ok (.ireturn, 1) := by decide +kernel
theorem dX4_markEnd_0 : decode cX4_markEnd 0 = .ok (.aload_n 0, 1) := by decide +kernel
theorem dX4_markEnd_1 : decode cX4_markEnd 1 = .ok (.dup, 1) := by decide +kernel
theorem dX4_markEnd_2 : decode cX4_markEnd 2 = .ok (.getfield 286, 3) := by decide +kernel
theorem dX4_markEnd_5 : decode cX4_markEnd 5 = .ok (.lconst 1, 1) := by decide +kernel
theorem dX4_markEnd_6 : decode cX4_markEnd 6 = .ok (.ladd, 1) := by decide +kernel
theorem dX4_markEnd_7 : decode cX4_markEnd 7 = .ok (.putfield 286, 3) := by decide +kernel
theorem dX4_markEnd_10 : decode cX4_markEnd 10 = .ok (.aload_n 0, 1) := by decide +kernel
theorem dX4_markEnd_11 : decode cX4_markEnd 11 = .ok (.getfield 32, 3) := by decide +kernel
theorem dX4_markEnd_14 : decode cX4_markEnd 14 = .ok (.getfield 146, 3) := by decide +kernel
theorem dX4_markEnd_17 : decode cX4_markEnd 17 = .ok (.iload_n 1, 1) := by decide +kernel
theorem dX4_markEnd_18 : decode cX4_markEnd 18 = .ok (.iaload, 1) := by decide +kernel
theorem dX4_markEnd_19 : decode cX4_markEnd 19 = .ok (.ireturn, 1) := by decide +kernel
theorem dX4_markWhole_0 : decode cX4_markWhole 0 = .ok (.aload_n 0, 1) := by decide +kernel
theorem dX4_markWhole_1 : decode cX4_markWhole 1 = .ok (.dup, 1) := by decide +kernel
theorem dX4_markWhole_2 : decode cX4_markWhole 2 = .ok (.getfield 286, 3) := by decide +kernel
theorem dX4_markWhole_5 : decode cX4_markWhole 5 = .ok (.ldc2_w 307, 3) := by decide +kernel
theorem dX4_markWhole_8 : decode cX4_markWhole 8 = .ok (.ladd, 1) := by decide +kernel
theorem dX4_markWhole_9 : decode cX4_markWhole 9 = .ok (.putfield 286, 3) := by decide +kernel
theorem dX4_markWhole_12 : decode cX4_markWhole 12 = .ok (.aload_n 0, 1) := by decide +kernel
theorem dX4_markWhole_13 : decode cX4_markWhole 13 = .ok (.iload_n 1, 1) := by decide +kernel
theorem dX4_markWhole_14 : decode cX4_markWhole 14 = .ok (.invokevirtual 265, 3) := by decide +kernel
theorem dX4_markWhole_17 : decode cX4_markWhole 17 = .ok (.aload_n 0, 1) := by decide +kernel
theorem dX4_markWhole_18 : decode cX4_markWhole 18 = .ok (.getfield 32, 3) := by decide +kernel
theorem dX4_markWhole_21 : decode cX4_markWhole 21 = .ok (.getfield 149, 3) := by decide +kernel
theorem dX4_markWhole_24 : decode cX4_markWhole 24 = .ok (.iload_n 1, 1) := by decide +kernel
theorem dX4_markWhole_25 : decode cX4_markWhole 25 = .ok (.iaload, 1) := by decide +kernel
theorem dX4_markWhole_26 : decode cX4_markWhole 26 = .ok (.iadd, 1) := by decide +kernel
theorem dX4_markWhole_27 : decode cX4_markWhole 27 = .ok (.ireturn, 1) := by decide +kernel
theorem dX4_markSplit_0 : decode cX4_markSplit 0 = .ok (.aload_n 0, 1) := by decide +kernel
theorem dX4_markSplit_1 : decode cX4_markSplit 1 = .ok (.dup, 1) := by decide +kernel
theorem dX4_markSplit_2 : decode cX4_markSplit 2 = .ok (.getfield 286, 3) := by decide +kernel
theorem dX4_markSplit_5 : decode cX4_markSplit 5 = .ok (.ldc2_w 309, 3) := by decide +kernel
theorem dX4_markSplit_8 : decode cX4_markSplit 8 = .ok (.ladd, 1) := by decide +kernel
theorem dX4_markSplit_9 : decode cX4_markSplit 9 = .ok (.putfield 286, 3) := by decide +kernel
theorem dX4_markSplit_12 : decode cX4_markSplit 12 = .ok (.aload_n 0, 1) := by decide +kernel
theorem dX4_markSplit_13 : decode cX4_markSplit 13 = .ok (.iload_n 1, 1) := by decide +kernel
theorem dX4_markSplit_14 : decode cX4_markSplit 14 = .ok (.invokevirtual 265, 3) := by decide +kernel
theorem dX4_markSplit_17 : decode cX4_markSplit 17 = .ok (.aload_n 0, 1) := by decide +kernel
theorem dX4_markSplit_18 : decode cX4_markSplit 18 = .ok (.getfield 32, 3) := by decide +kernel
theorem dX4_markSplit_21 : decode cX4_markSplit 21 = .ok (.aload_n 0, 1) := by decide +kernel
theorem dX4_markSplit_22 : decode cX4_markSplit 22 = .ok (.getfield 10, 3) := by decide +kernel
theorem dX4_markSplit_25 : decode cX4_markSplit 25 = .ok (.invokevirtual 156, 3) := by decide +kernel
theorem dX4_markSplit_28 : decode cX4_markSplit 28 = .ok (.isub, 1) := by decide +kernel
theorem dX4_markSplit_29 : decode cX4_markSplit 29 = .ok (.ireturn, 1) := by decide +kernel
theorem dX4_markCurled_0 : decode cX4_markCurled 0 = .ok (.aload_n 0, 1) := by decide +kernel
theorem dX4_markCurled_1 : decode cX4_markCurled 1 = .ok (.dup, 1) := by decide +kernel
theorem dX4_markCurled_2 : decode cX4_markCurled 2 = .ok (.getfield 286, 3) := by decide +kernel
theorem dX4_markCurled_5 : decode cX4_markCurled 5 = .ok (.ldc2_w 311, 3) := by decide +kernel
theorem dX4_markCurled_8 : decode cX4_markCurled 8 = .ok (.ladd, 1) := by decide +kernel
theorem dX4_markCurled_9 : decode cX4_markCurled 9 = .ok (.putfield 286, 3) := by decide +kernel
theorem dX4_markCurled_12 : decode cX4_markCurled 12 = .ok (.aload_n 0, 1) := by decide +kernel
theorem dX4_markCurled_13 : decode cX4_markCurled 13 = .ok (.iload_n 1, 1) := by decide +kernel
theorem dX4_markCurled_14 : decode cX4_markCurled 14 = .ok (.invokevirtual 271, 3) := by decide +kernel
theorem dX4_markCurled_17 : decode cX4_markCurled 17 = .ok (.iconst 2, 1) := by decide +kernel
theorem dX4_markCurled_18 : decode cX4_markCurled 18 = .ok (.imul, 1) := by decide +kernel
theorem dX4_markCurled_19 : decode cX4_markCurled 19 = .ok (.ireturn, 1) := by decide +kernel
theorem dX4_markPale_0 : decode cX4_markPale 0 = .ok (.aload_n 0, 1) := by decide +kernel
theorem dX4_markPale_1 : decode cX4_markPale 1 = .ok (.dup, 1) := by decide +kernel
theorem dX4_markPale_2 : decode cX4_markPale 2 = .ok (.getfield 286, 3) := by decide +kernel
theorem dX4_markPale_5 : decode cX4_markPale 5 = .ok (.ldc2_w 313, 3) := by decide +kernel
theorem dX4_markPale_8 : decode cX4_markPale 8 = .ok (.ladd, 1) := by decide +kernel
theorem dX4_markPale_9 : decode cX4_markPale 9 = .ok (.putfield 286, 3) := by decide +kernel
theorem dX4_markPale_12 : decode cX4_markPale 12 = .ok (.aload_n 0, 1) := by decide +kernel
theorem dX4_markPale_13 : decode cX4_markPale 13 = .ok (.iload_n 1, 1) := by decide +kernel
theorem dX4_markPale_14 : decode cX4_markPale 14 = .ok (.invokevirtual 268, 3) := by decide +kernel
theorem dX4_markPale_17 : decode cX4_markPale 17 = .ok (.aload_n 0, 1) := by decide +kernel
theorem dX4_markPale_18 : decode cX4_markPale 18 = .ok (.getfield 32, 3) := by decide +kernel
theorem dX4_markPale_21 : decode cX4_markPale 21 = .ok (.getfield 163, 3) := by decide +kernel
theorem dX4_markPale_24 : decode cX4_markPale 24 = .ok (.isub, 1) := by decide +kernel
theorem dX4_markPale_25 : decode cX4_markPale 25 = .ok (.ireturn, 1) := by decide +kernel
theorem dX4_markDried_0 : decode cX4_markDried 0 = .ok (.aload_n 0, 1) := by decide +kernel
theorem dX4_markDried_1 : decode cX4_markDried 1 = .ok (.dup, 1) := by decide +kernel
theorem dX4_markDried_2 : decode cX4_markDried 2 = .ok (.getfield 286, 3) := by decide +kernel
theorem dX4_markDried_5 : decode cX4_markDried 5 = .ok (.ldc2_w 315, 3) := by decide +kernel
theorem dX4_markDried_8 : decode cX4_markDried 8 = .ok (.ladd, 1) := by decide +kernel
theorem dX4_markDried_9 : decode cX4_markDried 9 = .ok (.putfield 286, 3) := by decide +kernel
theorem dX4_markDried_12 : decode cX4_markDried 12 = .ok (.aload_n 0, 1) := by decide +kernel
theorem dX4_markDried_13 : decode cX4_markDried 13 = .ok (.iload_n 1, 1) := by decide +kernel
theorem dX4_markDried_14 : decode cX4_markDried 14 = .ok (.invokevirtual 265, 3) := by decide +kernel
theorem dX4_markDried_17 : decode cX4_markDried 17 = .ok (.aload_n 0, 1) := by decide +kernel
theorem dX4_markDried_18 : decode cX4_markDried 18 = .ok (.getfield 32, 3) := by decide +kernel
theorem dX4_markDried_21 : decode cX4_markDried 21 = .ok (.getfield 166, 3) := by decide +kernel
theorem dX4_markDried_24 : decode cX4_markDried 24 = .ok (.iadd, 1) := by decide +kernel
theorem dX4_markDried_25 : decode cX4_markDried 25 = .ok (.ireturn, 1) := by decide +kernel
theorem dJ9_max_7cf53_0 : decode cJ9_max_7cf53 0 = .ok (.iload_n 0, 1) := by decide +kernel
theorem dJ9_max_7cf53_1 : decode cJ9_max_7cf53 1 = .ok (.iload_n 1, 1) := by decide +kernel
theorem dJ9_max_7cf53_2 : decode cJ9_max_7cf53 2 = .ok (.if_icmp .lt 7, 3) := by decide +kernel
theorem dJ9_max_7cf53_5 : decode cJ9_max_7cf53 5 = .ok (.iload_n 0, 1) := by decide +kernel
theorem dJ9_max_7cf53_6 : decode cJ9_max_7cf53 6 = .ok (.goto 4, 3) := by decide +kernel
theorem dJ9_max_7cf53_9 : decode cJ9_max_7cf53 9 = .ok (.iload_n 1, 1) := by decide +kernel
theorem dJ9_max_7cf53_10 : decode cJ9_max_7cf53 10 = .ok (.ireturn, 1) := by decide +kernel
theorem dJ9_min_7cf53_0 : decode cJ9_min_7cf53 0 = .ok (.iload_n 0, 1) := by decide +kernel
theorem dJ9_min_7cf53_1 : decode cJ9_min_7cf53 1 = .ok (.iload_n 1, 1) := by decide +kernel
theorem dJ9_min_7cf53_2 : decode cJ9_min_7cf53 2 = .ok (.if_icmp .gt 7, 3) := by decide +kernel
theorem dJ9_min_7cf53_5 : decode cJ9_min_7cf53 5 = .ok (.iload_n 0, 1) := by decide +kernel
theorem dJ9_min_7cf53_6 : decode cJ9_min_7cf53 6 = .ok (.goto 4, 3) := by decide +kernel
theorem dJ9_min_7cf53_9 : decode cJ9_min_7cf53 9 = .ok (.iload_n 1, 1) := by decide +kernel
theorem dJ9_min_7cf53_10 : decode cJ9_min_7cf53 10 = .ok (.ireturn, 1) := by decide +kernel
theorem dJ0_length_8abf5_0 : decode cJ0_length_8abf5 0 = .ok (.aload_n 0, 1) := by decide +kernel
theorem dJ0_length_8abf5_1 : decode cJ0_length_8abf5 1 = .ok (.getfield 9, 3) := by decide +kernel
theorem dJ0_length_8abf5_4 : decode cJ0_length_8abf5 4 = .ok (.arraylength, 1) := by decide +kernel
theorem dJ0_length_8abf5_5 : decode cJ0_length_8abf5 5 = .ok (.aload_n 0, 1) := by decide +kernel
theorem dJ0_length_8abf5_6 : decode cJ0_length_8abf5 6 = .ok (.invokevirtual 335, 3) := by decide +kernel
theorem dJ0_length_8abf5_9 : decode cJ0_length_8abf5 9 = .ok (.ishr, 1) := by decide +kernel
theorem dJ0_length_8abf5_10 : decode cJ0_length_8abf5 10 = .ok (.ireturn, 1) := by decide +kernel
theorem dJ0_charAt_5068e_0 : decode cJ0_charAt_5068e 0 = .ok (.aload_n 0, 1) := by decide +kernel
theorem dJ0_charAt_5068e_1 : decode cJ0_charAt_5068e 1 = .ok (.invokevirtual 492, 3) := by decide +kernel
theorem dJ0_charAt_5068e_4 : decode cJ0_charAt_5068e 4 = .ok (.ifCond .eq 12, 3) := by decide +kernel
theorem dJ0_charAt_5068e_7 : decode cJ0_charAt_5068e 7 = .ok (.aload_n 0, 1) := by decide +kernel
theorem dJ0_charAt_5068e_8 : decode cJ0_charAt_5068e 8 = .ok (.getfield 9, 3) := by decide +kernel
theorem dJ0_charAt_5068e_11 : decode cJ0_charAt_5068e 11 = .ok (.iload_n 1, 1) := by decide +kernel
theorem dJ0_charAt_5068e_12 : decode cJ0_charAt_5068e 12 = .ok (.invokestatic 495, 3) := by decide +kernel
theorem dJ0_charAt_5068e_15 : decode cJ0_charAt_5068e 15 = .ok (.ireturn, 1) := by decide +kernel
theorem dJ0_charAt_5068e_16 : decode cJ0_charAt_5068e 16 = .ok (.aload_n 0, 1) := by decide +kernel
theorem dJ0_charAt_5068e_17 : decode cJ0_charAt_5068e 17 = .ok (.getfield 9, 3) := by decide +kernel
theorem dJ0_charAt_5068e_20 : decode cJ0_charAt_5068e 20 = .ok (.iload_n 1, 1) := by decide +kernel
theorem dJ0_charAt_5068e_21 : decode cJ0_charAt_5068e 21 = .ok (.invokestatic 498, 3) := by decide +kernel
theorem dJ0_charAt_5068e_24 : decode cJ0_charAt_5068e 24 = .ok (.ireturn, 1) := by decide +kernel
theorem dJ0_coder_7d493_0 : decode cJ0_coder_7d493 0 = .ok (.getstatic 38, 3) := by decide +kernel
theorem dJ0_coder_7d493_3 : decode cJ0_coder_7d493 3 = .ok (.ifCond .eq 10, 3) := by decide +kernel
theorem dJ0_coder_7d493_6 : decode cJ0_coder_7d493 6 = .ok (.aload_n 0, 1) := by decide +kernel
theorem dJ0_coder_7d493_7 : decode cJ0_coder_7d493 7 = .ok (.getfield 15, 3) := by decide +kernel
theorem dJ0_coder_7d493_10 : decode cJ0_coder_7d493 10 = .ok (.goto 4, 3) := by decide +kernel
theorem dJ0_coder_7d493_13 : decode cJ0_coder_7d493 13 = .ok (.iconst 1, 1) := by decide +kernel
theorem dJ0_coder_7d493_14 : decode cJ0_coder_7d493 14 = .ok (.ireturn, 1) := by decide +kernel
theorem dJ0_isLatin1_aae02_0 : decode cJ0_isLatin1_aae02 0 = .ok (.getstatic 38, 3) := by decide +kernel
theorem dJ0_isLatin1_aae02_3 : decode cJ0_isLatin1_aae02 3 = .ok (.ifCond .eq 14, 3) := by decide +kernel
theorem dJ0_isLatin1_aae02_6 : decode cJ0_isLatin1_aae02 6 = .ok (.aload_n 0, 1) := by decide +kernel
theorem dJ0_isLatin1_aae02_7 : decode cJ0_isLatin1_aae02 7 = .ok (.getfield 15, 3) := by decide +kernel
theorem dJ0_isLatin1_aae02_10 : decode cJ0_isLatin1_aae02 10 = .ok (.ifCond .ne 7, 3) := by decide +kernel
theorem dJ0_isLatin1_aae02_13 : decode cJ0_isLatin1_aae02 13 = .ok (.iconst 1, 1) := by decide +kernel
theorem dJ0_isLatin1_aae02_14 : decode cJ0_isLatin1_aae02 14 = .ok (.goto 4, 3) := by decide +kernel
theorem dJ0_isLatin1_aae02_17 : decode cJ0_isLatin1_aae02 17 = .ok (.iconst 0, 1) := by decide +kernel
theorem dJ0_isLatin1_aae02_18 : decode cJ0_isLatin1_aae02 18 = .ok (.ireturn, 1) := by decide +kernel
theorem dJ0_checkIndex_df160_0 : decode cJ0_checkIndex_df160 0 = .ok (.iload_n 0, 1) := by decide +kernel
theorem dJ0_checkIndex_df160_1 : decode cJ0_checkIndex_df160 1 = .ok (.iload_n 1, 1) := by decide +kernel
theorem dJ0_checkIndex_df160_2 : decode cJ0_checkIndex_df160 2 = .ok (.getstatic 1053, 3) := by decide +kernel
theorem dJ0_checkIndex_df160_5 : decode cJ0_checkIndex_df160 5 = .ok (.invokestatic 1059, 3) := by decide +kernel
theorem dJ0_checkIndex_df160_8 : decode cJ0_checkIndex_df160 8 = .ok (.pop, 1) := by decide +kernel
theorem dJ0_checkIndex_df160_9 : decode cJ0_checkIndex_df160 9 = .ok (.return_, 1) := by decide +kernel
theorem dJ1_charAt_3b067_0 : decode cJ1_charAt_3b067 0 = .ok (.iload_n 1, 1) := by decide +kernel
theorem dJ1_charAt_3b067_1 : decode cJ1_charAt_3b067 1 = .ok (.aload_n 0, 1) := by decide +kernel
theorem dJ1_charAt_3b067_2 : decode cJ1_charAt_3b067 2 = .ok (.arraylength, 1) := by decide +kernel
theorem dJ1_charAt_3b067_3 : decode cJ1_charAt_3b067 3 = .ok (.invokestatic 9, 3) := by decide +kernel
theorem dJ1_charAt_3b067_6 : decode cJ1_charAt_3b067 6 = .ok (.aload_n 0, 1) := by decide +kernel
theorem dJ1_charAt_3b067_7 : decode cJ1_charAt_3b067 7 = .ok (.iload_n 1, 1) := by decide +kernel
theorem dJ1_charAt_3b067_8 : decode cJ1_charAt_3b067 8 = .ok (.baload, 1) := by decide +kernel
theorem dJ1_charAt_3b067_9 : decode cJ1_charAt_3b067 9 = .ok (.sipush 255, 3) := by decide +kernel
theorem dJ1_charAt_3b067_12 : decode cJ1_charAt_3b067 12 = .ok (.iand, 1) := by decide +kernel
theorem dJ1_charAt_3b067_13 : decode cJ1_charAt_3b067 13 = .ok (.i2c, 1) := by decide +kernel
theorem dJ1_charAt_3b067_14 : decode cJ1_charAt_3b067 14 = .ok (.ireturn, 1) := by decide +kernel
theorem dJ2_getChar_3b067_0 : decode cJ2_getChar_3b067 0 = .ok (.getstatic 44, 3) := by decide +kernel
theorem dJ2_getChar_3b067_3 : decode cJ2_getChar_3b067 3 = .ok (.ifCond .ne 25, 3) := by decide +kernel
theorem dJ2_getChar_3b067_6 : decode cJ2_getChar_3b067 6 = .ok (.iload_n 1, 1) := by decide +kernel
theorem dJ2_getChar_3b067_7 : decode cJ2_getChar_3b067 7 = .ok (.ifCond .lt 11, 3) := by decide +kernel
theorem dJ2_getChar_3b067_10 : decode cJ2_getChar_3b067 10 = .ok (.iload_n 1, 1) := by decide +kernel
theorem dJ2_getChar_3b067_11 : decode cJ2_getChar_3b067 11 = .ok (.aload_n 0, 1) := by decide +kernel
theorem dJ2_getChar_3b067_12 : decode cJ2_getChar_3b067 12 = .ok (.invokestatic 48, 3) := by decide +kernel
theorem dJ2_getChar_3b067_15 : decode cJ2_getChar_3b067 15 = .ok (.if_icmp .lt 13, 3) := by decide +kernel
theorem dJ2_getChar_3b067_18 : decode cJ2_getChar_3b067 18 = .ok (.new 52, 3) := by decide +kernel
theorem dJ2_getChar_3b067_21 : decode cJ2_getChar_3b067 21 = .ok (.dup, 1) := by decide +kernel
theorem dJ2_getChar_3b067_22 : decode cJ2_getChar_3b067 22 = .ok (.ldc 54, 2) := by decide +kernel
theorem dJ2_getChar_3b067_24 : decode cJ2_getChar_3b067 24 = .ok (.invokespecial 56, 3) := by decide +kernel
theorem dJ2_getChar_3b067_27 : decode cJ2_getChar_3b067 27 = .ok (.athrow, 1) := by decide +kernel
theorem dJ2_getChar_3b067_28 : decode cJ2_getChar_3b067 28 = .ok (.iload_n 1, 1) := by decide +kernel
theorem dJ2_getChar_3b067_29 : decode cJ2_getChar_3b067 29 = .ok (.iconst 1, 1) := by decide +kernel
theorem dJ2_getChar_3b067_30 : decode cJ2_getChar_3b067 30 = .ok (.ishl, 1) := by decide +kernel
theorem dJ2_getChar_3b067_31 : decode cJ2_getChar_3b067 31 = .ok (.istore_n 1, 1) := by decide +kernel
theorem dJ2_getChar_3b067_32 : decode cJ2_getChar_3b067 32 = .ok (.aload_n 0, 1) := by decide +kernel
theorem dJ2_getChar_3b067_33 : decode cJ2_getChar_3b067 33 = .ok (.iload_n 1, 1) := by decide +kernel
theorem dJ2_getChar_3b067_34 : decode cJ2_getChar_3b067 34 = .ok (.iinc 1 1, 3) := by decide +kernel
theorem dJ2_getChar_3b067_37 : decode cJ2_getChar_3b067 37 = .ok (.baload, 1) := by decide +kernel
theorem dJ2_getChar_3b067_38 : decode cJ2_getChar_3b067 38 = .ok (.sipush 255, 3) := by decide +kernel
theorem dJ2_getChar_3b067_41 : decode cJ2_getChar_3b067 41 = .ok (.iand, 1) := by decide +kernel
theorem dJ2_getChar_3b067_42 : decode cJ2_getChar_3b067 42 = .ok (.getstatic 59, 3) := by decide +kernel
theorem dJ2_getChar_3b067_45 : decode cJ2_getChar_3b067 45 = .ok (.ishl, 1) := by decide +kernel
theorem dJ2_getChar_3b067_46 : decode cJ2_getChar_3b067 46 = .ok (.aload_n 0, 1) := by decide +kernel
theorem dJ2_getChar_3b067_47 : decode cJ2_getChar_3b067 47 = .ok (.iload_n 1, 1) := by decide +kernel
theorem dJ2_getChar_3b067_48 : decode cJ2_getChar_3b067 48 = .ok (.baload, 1) := by decide +kernel
theorem dJ2_getChar_3b067_49 : decode cJ2_getChar_3b067 49 = .ok (.sipush 255, 3) := by decide +kernel
theorem dJ2_getChar_3b067_52 : decode cJ2_getChar_3b067 52 = .ok (.iand, 1) := by decide +kernel
theorem dJ2_getChar_3b067_53 : decode cJ2_getChar_3b067 53 = .ok (.getstatic 63, 3) := by decide +kernel
theorem dJ2_getChar_3b067_56 : decode cJ2_getChar_3b067 56 = .ok (.ishl, 1) := by decide +kernel
theorem dJ2_getChar_3b067_57 : decode cJ2_getChar_3b067 57 = .ok (.ior, 1) := by decide +kernel
theorem dJ2_getChar_3b067_58 : decode cJ2_getChar_3b067 58 = .ok (.i2c, 1) := by decide +kernel
theorem dJ2_getChar_3b067_59 : decode cJ2_getChar_3b067 59 = .ok (.ireturn, 1) := by decide +kernel
theorem dJ2_length_9d52b_0 : decode cJ2_length_9d52b 0 = .ok (.aload_n 0, 1) := by decide +kernel
theorem dJ2_length_9d52b_1 : decode cJ2_length_9d52b 1 = .ok (.arraylength, 1) := by decide +kernel
theorem dJ2_length_9d52b_2 : decode cJ2_length_9d52b 2 = .ok (.iconst 1, 1) := by decide +kernel
theorem dJ2_length_9d52b_3 : decode cJ2_length_9d52b 3 = .ok (.ishr, 1) := by decide +kernel
theorem dJ2_length_9d52b_4 : decode cJ2_length_9d52b 4 = .ok (.ireturn, 1) := by decide +kernel
theorem dJ2_charAt_3b067_0 : decode cJ2_charAt_3b067 0 = .ok (.iload_n 1, 1) := by decide +kernel
theorem dJ2_charAt_3b067_1 : decode cJ2_charAt_3b067 1 = .ok (.aload_n 0, 1) := by decide +kernel
theorem dJ2_charAt_3b067_2 : decode cJ2_charAt_3b067 2 = .ok (.invokestatic 67, 3) := by decide +kernel
theorem dJ2_charAt_3b067_5 : decode cJ2_charAt_3b067 5 = .ok (.aload_n 0, 1) := by decide +kernel
theorem dJ2_charAt_3b067_6 : decode cJ2_charAt_3b067 6 = .ok (.iload_n 1, 1) := by decide +kernel
