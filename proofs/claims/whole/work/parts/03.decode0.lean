theorem dX0_init_0 : decode cX0_init 0 = .ok (.aload_n 0, 1) := by decide +kernel
theorem dX0_init_1 : decode cX0_init 1 = .ok (.invokespecial 3, 3) := by decide +kernel
theorem dX0_init_4 : decode cX0_init 4 = .ok (.aload_n 0, 1) := by decide +kernel
theorem dX0_init_5 : decode cX0_init 5 = .ok (.new 9, 3) := by decide +kernel
theorem dX0_init_8 : decode cX0_init 8 = .ok (.dup, 1) := by decide +kernel
theorem dX0_init_9 : decode cX0_init 9 = .ok (.invokespecial 11, 3) := by decide +kernel
theorem dX0_init_12 : decode cX0_init 12 = .ok (.putfield 12, 3) := by decide +kernel
theorem dX0_init_15 : decode cX0_init 15 = .ok (.return_, 1) := by decide +kernel
theorem dX0_setOut_0 : decode cX0_setOut 0 = .ok (.aload_n 0, 1) := by decide +kernel
theorem dX0_setOut_1 : decode cX0_setOut 1 = .ok (.getfield 12, 3) := by decide +kernel
theorem dX0_setOut_4 : decode cX0_setOut 4 = .ok (.aload_n 1, 1) := by decide +kernel
theorem dX0_setOut_5 : decode cX0_setOut 5 = .ok (.getfield 18, 3) := by decide +kernel
theorem dX0_setOut_8 : decode cX0_setOut 8 = .ok (.invokevirtual 24, 3) := by decide +kernel
theorem dX0_setOut_11 : decode cX0_setOut 11 = .ok (.aload_n 0, 1) := by decide +kernel
theorem dX0_setOut_12 : decode cX0_setOut 12 = .ok (.getfield 12, 3) := by decide +kernel
theorem dX0_setOut_15 : decode cX0_setOut 15 = .ok (.iload_n 2, 1) := by decide +kernel
theorem dX0_setOut_16 : decode cX0_setOut 16 = .ok (.putfield 28, 3) := by decide +kernel
theorem dX0_setOut_19 : decode cX0_setOut 19 = .ok (.aload_n 0, 1) := by decide +kernel
theorem dX0_setOut_20 : decode cX0_setOut 20 = .ok (.bipush (-9), 2) := by decide +kernel
theorem dX0_setOut_22 : decode cX0_setOut 22 = .ok (.putfield 31, 3) := by decide +kernel
theorem dX0_setOut_25 : decode cX0_setOut 25 = .ok (.aload_n 0, 1) := by decide +kernel
theorem dX0_setOut_26 : decode cX0_setOut 26 = .ok (.iconst 0, 1) := by decide +kernel
theorem dX0_setOut_27 : decode cX0_setOut 27 = .ok (.putfield 34, 3) := by decide +kernel
theorem dX0_setOut_30 : decode cX0_setOut 30 = .ok (.aload_n 0, 1) := by decide +kernel
theorem dX0_setOut_31 : decode cX0_setOut 31 = .ok (.bipush (-9), 2) := by decide +kernel
theorem dX0_setOut_33 : decode cX0_setOut 33 = .ok (.putfield 37, 3) := by decide +kernel
theorem dX0_setOut_36 : decode cX0_setOut 36 = .ok (.aload_n 0, 1) := by decide +kernel
theorem dX0_setOut_37 : decode cX0_setOut 37 = .ok (.bipush (-9), 2) := by decide +kernel
theorem dX0_setOut_39 : decode cX0_setOut 39 = .ok (.putfield 40, 3) := by decide +kernel
theorem dX0_setOut_42 : decode cX0_setOut 42 = .ok (.return_, 1) := by decide +kernel
theorem dX0_passNoting_0 : decode cX0_passNoting 0 = .ok (.aload_n 0, 1) := by decide +kernel
theorem dX0_passNoting_1 : decode cX0_passNoting 1 = .ok (.getfield 12, 3) := by decide +kernel
theorem dX0_passNoting_4 : decode cX0_passNoting 4 = .ok (.aload_n 1, 1) := by decide +kernel
theorem dX0_passNoting_5 : decode cX0_passNoting 5 = .ok (.iload_n 2, 1) := by decide +kernel
theorem dX0_passNoting_6 : decode cX0_passNoting 6 = .ok (.iload_n 3, 1) := by decide +kernel
theorem dX0_passNoting_7 : decode cX0_passNoting 7 = .ok (.invokevirtual 43, 3) := by decide +kernel
theorem dX0_passNoting_10 : decode cX0_passNoting 10 = .ok (.istore 4, 2) := by decide +kernel
theorem dX0_passNoting_12 : decode cX0_passNoting 12 = .ok (.aload_n 0, 1) := by decide +kernel
theorem dX0_passNoting_13 : decode cX0_passNoting 13 = .ok (.getfield 37, 3) := by decide +kernel
theorem dX0_passNoting_16 : decode cX0_passNoting 16 = .ok (.bipush (-9), 2) := by decide +kernel
theorem dX0_passNoting_18 : decode cX0_passNoting 18 = .ok (.if_icmp .eq 12, 3) := by decide +kernel
theorem dX0_passNoting_21 : decode cX0_passNoting 21 = .ok (.iload 4, 2) := by decide +kernel
theorem dX0_passNoting_23 : decode cX0_passNoting 23 = .ok (.aload_n 0, 1) := by decide +kernel
theorem dX0_passNoting_24 : decode cX0_passNoting 24 = .ok (.getfield 34, 3) := by decide +kernel
theorem dX0_passNoting_27 : decode cX0_passNoting 27 = .ok (.if_icmp .le 20, 3) := by decide +kernel
theorem dX0_passNoting_30 : decode cX0_passNoting 30 = .ok (.aload_n 0, 1) := by decide +kernel
theorem dX0_passNoting_31 : decode cX0_passNoting 31 = .ok (.iload 4, 2) := by decide +kernel
theorem dX0_passNoting_33 : decode cX0_passNoting 33 = .ok (.putfield 34, 3) := by decide +kernel
theorem dX0_passNoting_36 : decode cX0_passNoting 36 = .ok (.aload_n 0, 1) := by decide +kernel
theorem dX0_passNoting_37 : decode cX0_passNoting 37 = .ok (.aload_n 0, 1) := by decide +kernel
theorem dX0_passNoting_38 : decode cX0_passNoting 38 = .ok (.getfield 12, 3) := by decide +kernel
theorem dX0_passNoting_41 : decode cX0_passNoting 41 = .ok (.getfield 47, 3) := by decide +kernel
theorem dX0_passNoting_44 : decode cX0_passNoting 44 = .ok (.putfield 37, 3) := by decide +kernel
theorem dX0_passNoting_47 : decode cX0_passNoting 47 = .ok (.aload_n 0, 1) := by decide +kernel
theorem dX0_passNoting_48 : decode cX0_passNoting 48 = .ok (.getfield 40, 3) := by decide +kernel
theorem dX0_passNoting_51 : decode cX0_passNoting 51 = .ok (.bipush (-9), 2) := by decide +kernel
theorem dX0_passNoting_53 : decode cX0_passNoting 53 = .ok (.if_icmp .ne 24, 3) := by decide +kernel
theorem dX0_passNoting_56 : decode cX0_passNoting 56 = .ok (.aload_n 0, 1) := by decide +kernel
theorem dX0_passNoting_57 : decode cX0_passNoting 57 = .ok (.getfield 12, 3) := by decide +kernel
theorem dX0_passNoting_60 : decode cX0_passNoting 60 = .ok (.getfield 50, 3) := by decide +kernel
theorem dX0_passNoting_63 : decode cX0_passNoting 63 = .ok (.ifCond .le 14, 3) := by decide +kernel
theorem dX0_passNoting_66 : decode cX0_passNoting 66 = .ok (.aload_n 0, 1) := by decide +kernel
theorem dX0_passNoting_67 : decode cX0_passNoting 67 = .ok (.aload_n 0, 1) := by decide +kernel
theorem dX0_passNoting_68 : decode cX0_passNoting 68 = .ok (.getfield 12, 3) := by decide +kernel
theorem dX0_passNoting_71 : decode cX0_passNoting 71 = .ok (.getfield 47, 3) := by decide +kernel
theorem dX0_passNoting_74 : decode cX0_passNoting 74 = .ok (.putfield 40, 3) := by decide +kernel
theorem dX0_passNoting_77 : decode cX0_passNoting 77 = .ok (.aload_n 0, 1) := by decide +kernel
theorem dX0_passNoting_78 : decode cX0_passNoting 78 = .ok (.getfield 31, 3) := by decide +kernel
theorem dX0_passNoting_81 : decode cX0_passNoting 81 = .ok (.bipush (-9), 2) := by decide +kernel
theorem dX0_passNoting_83 : decode cX0_passNoting 83 = .ok (.if_icmp .ne 24, 3) := by decide +kernel
theorem dX0_passNoting_86 : decode cX0_passNoting 86 = .ok (.aload_n 0, 1) := by decide +kernel
theorem dX0_passNoting_87 : decode cX0_passNoting 87 = .ok (.getfield 12, 3) := by decide +kernel
theorem dX0_passNoting_90 : decode cX0_passNoting 90 = .ok (.getfield 53, 3) := by decide +kernel
theorem dX0_passNoting_93 : decode cX0_passNoting 93 = .ok (.ifCond .eq 14, 3) := by decide +kernel
theorem dX0_passNoting_96 : decode cX0_passNoting 96 = .ok (.aload_n 0, 1) := by decide +kernel
theorem dX0_passNoting_97 : decode cX0_passNoting 97 = .ok (.aload_n 0, 1) := by decide +kernel
theorem dX0_passNoting_98 : decode cX0_passNoting 98 = .ok (.getfield 12, 3) := by decide +kernel
theorem dX0_passNoting_101 : decode cX0_passNoting 101 = .ok (.getfield 47, 3) := by decide +kernel
theorem dX0_passNoting_104 : decode cX0_passNoting 104 = .ok (.putfield 31, 3) := by decide +kernel
theorem dX0_passNoting_107 : decode cX0_passNoting 107 = .ok (.return_, 1) := by decide +kernel
theorem dX0_follow_0 : decode cX0_follow 0 = .ok (.iconst 0, 1) := by decide +kernel
theorem dX0_follow_1 : decode cX0_follow 1 = .ok (.istore 4, 2) := by decide +kernel
theorem dX0_follow_3 : decode cX0_follow 3 = .ok (.iload 4, 2) := by decide +kernel
theorem dX0_follow_5 : decode cX0_follow 5 = .ok (.aload_n 1, 1) := by decide +kernel
theorem dX0_follow_6 : decode cX0_follow 6 = .ok (.getfield 56, 3) := by decide +kernel
theorem dX0_follow_9 : decode cX0_follow 9 = .ok (.if_icmp .ge 123, 3) := by decide +kernel
theorem dX0_follow_12 : decode cX0_follow 12 = .ok (.iload 4, 2) := by decide +kernel
theorem dX0_follow_14 : decode cX0_follow 14 = .ok (.bipush 12, 2) := by decide +kernel
theorem dX0_follow_16 : decode cX0_follow 16 = .ok (.if_icmp .ge 116, 3) := by decide +kernel
theorem dX0_follow_19 : decode cX0_follow 19 = .ok (.aload_n 1, 1) := by decide +kernel
theorem dX0_follow_20 : decode cX0_follow 20 = .ok (.getfield 59, 3) := by decide +kernel
theorem dX0_follow_23 : decode cX0_follow 23 = .ok (.iload 4, 2) := by decide +kernel
theorem dX0_follow_25 : decode cX0_follow 25 = .ok (.iaload, 1) := by decide +kernel
theorem dX0_follow_26 : decode cX0_follow 26 = .ok (.istore 5, 2) := by decide +kernel
theorem dX0_follow_28 : decode cX0_follow 28 = .ok (.aload_n 1, 1) := by decide +kernel
theorem dX0_follow_29 : decode cX0_follow 29 = .ok (.getfield 63, 3) := by decide +kernel
theorem dX0_follow_32 : decode cX0_follow 32 = .ok (.iload 4, 2) := by decide +kernel
theorem dX0_follow_34 : decode cX0_follow 34 = .ok (.iaload, 1) := by decide +kernel
theorem dX0_follow_35 : decode cX0_follow 35 = .ok (.istore 6, 2) := by decide +kernel
theorem dX0_follow_37 : decode cX0_follow 37 = .ok (.iload 5, 2) := by decide +kernel
theorem dX0_follow_39 : decode cX0_follow 39 = .ok (.iconst 1, 1) := by decide +kernel
theorem dX0_follow_40 : decode cX0_follow 40 = .ok (.if_icmp .ne 15, 3) := by decide +kernel
theorem dX0_follow_43 : decode cX0_follow 43 = .ok (.aload_n 0, 1) := by decide +kernel
theorem dX0_follow_44 : decode cX0_follow 44 = .ok (.getfield 12, 3) := by decide +kernel
theorem dX0_follow_47 : decode cX0_follow 47 = .ok (.iload 6, 2) := by decide +kernel
theorem dX0_follow_49 : decode cX0_follow 49 = .ok (.invokevirtual 66, 3) := by decide +kernel
theorem dX0_follow_52 : decode cX0_follow 52 = .ok (.goto 18, 3) := by decide +kernel
theorem dX0_follow_55 : decode cX0_follow 55 = .ok (.iload 5, 2) := by decide +kernel
theorem dX0_follow_57 : decode cX0_follow 57 = .ok (.iconst 2, 1) := by decide +kernel
theorem dX0_follow_58 : decode cX0_follow 58 = .ok (.if_icmp .ne 12, 3) := by decide +kernel
theorem dX0_follow_61 : decode cX0_follow 61 = .ok (.aload_n 0, 1) := by decide +kernel
theorem dX0_follow_62 : decode cX0_follow 62 = .ok (.getfield 12, 3) := by decide +kernel
theorem dX0_follow_65 : decode cX0_follow 65 = .ok (.iload 6, 2) := by decide +kernel
theorem dX0_follow_67 : decode cX0_follow 67 = .ok (.invokevirtual 69, 3) := by decide +kernel
theorem dX0_follow_70 : decode cX0_follow 70 = .ok (.iconst 0, 1) := by decide +kernel
theorem dX0_follow_71 : decode cX0_follow 71 = .ok (.istore 7, 2) := by decide +kernel
theorem dX0_follow_73 : decode cX0_follow 73 = .ok (.iload 7, 2) := by decide +kernel
theorem dX0_follow_75 : decode cX0_follow 75 = .ok (.aload_n 1, 1) := by decide +kernel
theorem dX0_follow_76 : decode cX0_follow 76 = .ok (.getfield 72, 3) := by decide +kernel
theorem dX0_follow_79 : decode cX0_follow 79 = .ok (.iload 4, 2) := by decide +kernel
theorem dX0_follow_81 : decode cX0_follow 81 = .ok (.iaload, 1) := by decide +kernel
theorem dX0_follow_82 : decode cX0_follow 82 = .ok (.if_icmp .ge 44, 3) := by decide +kernel
theorem dX0_follow_85 : decode cX0_follow 85 = .ok (.aload_n 0, 1) := by decide +kernel
theorem dX0_follow_86 : decode cX0_follow 86 = .ok (.getfield 12, 3) := by decide +kernel
theorem dX0_follow_89 : decode cX0_follow 89 = .ok (.getfield 47, 3) := by decide +kernel
theorem dX0_follow_92 : decode cX0_follow 92 = .ok (.iload_n 2, 1) := by decide +kernel
theorem dX0_follow_93 : decode cX0_follow 93 = .ok (.if_icmp .ge 33, 3) := by decide +kernel
theorem dX0_follow_96 : decode cX0_follow 96 = .ok (.iload_n 3, 1) := by decide +kernel
theorem dX0_follow_97 : decode cX0_follow 97 = .ok (.ifCond .eq 14, 3) := by decide +kernel
theorem dX0_follow_100 : decode cX0_follow 100 = .ok (.aload_n 0, 1) := by decide +kernel
theorem dX0_follow_101 : decode cX0_follow 101 = .ok (.getfield 12, 3) := by decide +kernel
theorem dX0_follow_104 : decode cX0_follow 104 = .ok (.getfield 53, 3) := by decide +kernel
theorem dX0_follow_107 : decode cX0_follow 107 = .ok (.ifCond .eq 4, 3) := by decide +kernel
theorem dX0_follow_110 : decode cX0_follow 110 = .ok (.return_, 1) := by decide +kernel
theorem dX0_follow_111 : decode cX0_follow 111 = .ok (.aload_n 0, 1) := by decide +kernel
theorem dX0_follow_112 : decode cX0_follow 112 = .ok (.aload_n 1, 1) := by decide +kernel
theorem dX0_follow_113 : decode cX0_follow 113 = .ok (.iload 5, 2) := by decide +kernel
theorem dX0_follow_115 : decode cX0_follow 115 = .ok (.iload 6, 2) := by decide +kernel
theorem dX0_follow_117 : decode cX0_follow 117 = .ok (.invokevirtual 74, 3) := by decide +kernel
theorem dX0_follow_120 : decode cX0_follow 120 = .ok (.iinc 7 1, 3) := by decide +kernel
theorem dX0_follow_123 : decode cX0_follow 123 = .ok (.goto (-50), 3) := by decide +kernel
theorem dX0_follow_126 : decode cX0_follow 126 = .ok (.iinc 4 1, 3) := by decide +kernel
theorem dX0_follow_129 : decode cX0_follow 129 = .ok (.goto (-126), 3) := by decide +kernel
theorem dX0_follow_132 : decode cX0_follow 132 = .ok (.return_, 1) := by decide +kernel
theorem dX0_turnEach_0 : decode cX0_turnEach 0 = .ok (.iconst 0, 1) := by decide +kernel
theorem dX0_turnEach_1 : decode cX0_turnEach 1 = .ok (.istore 5, 2) := by decide +kernel
theorem dX0_turnEach_3 : decode cX0_turnEach 3 = .ok (.iconst 0, 1) := by decide +kernel
theorem dX0_turnEach_4 : decode cX0_turnEach 4 = .ok (.istore 6, 2) := by decide +kernel
theorem dX0_turnEach_6 : decode cX0_turnEach 6 = .ok (.iload 6, 2) := by decide +kernel
theorem dX0_turnEach_8 : decode cX0_turnEach 8 = .ok (.iload_n 2, 1) := by decide +kernel
theorem dX0_turnEach_9 : decode cX0_turnEach 9 = .ok (.if_icmp .ge 47, 3) := by decide +kernel
theorem dX0_turnEach_12 : decode cX0_turnEach 12 = .ok (.aload_n 0, 1) := by decide +kernel
theorem dX0_turnEach_13 : decode cX0_turnEach 13 = .ok (.getfield 12, 3) := by decide +kernel
theorem dX0_turnEach_16 : decode cX0_turnEach 16 = .ok (.getfield 53, 3) := by decide +kernel
theorem dX0_turnEach_19 : decode cX0_turnEach 19 = .ok (.ifCond .ne 37, 3) := by decide +kernel
theorem dX0_turnEach_22 : decode cX0_turnEach 22 = .ok (.iload 5, 2) := by decide +kernel
theorem dX0_turnEach_24 : decode cX0_turnEach 24 = .ok (.iload 4, 2) := by decide +kernel
theorem dX0_turnEach_26 : decode cX0_turnEach 26 = .ok (.if_icmp .ne 14, 3) := by decide +kernel
theorem dX0_turnEach_29 : decode cX0_turnEach 29 = .ok (.aload_n 0, 1) := by decide +kernel
theorem dX0_turnEach_30 : decode cX0_turnEach 30 = .ok (.getfield 12, 3) := by decide +kernel
theorem dX0_turnEach_33 : decode cX0_turnEach 33 = .ok (.iconst 1, 1) := by decide +kernel
theorem dX0_turnEach_34 : decode cX0_turnEach 34 = .ok (.invokevirtual 66, 3) := by decide +kernel
theorem dX0_turnEach_37 : decode cX0_turnEach 37 = .ok (.iconst 0, 1) := by decide +kernel
theorem dX0_turnEach_38 : decode cX0_turnEach 38 = .ok (.istore 5, 2) := by decide +kernel
theorem dX0_turnEach_40 : decode cX0_turnEach 40 = .ok (.aload_n 0, 1) := by decide +kernel
theorem dX0_turnEach_41 : decode cX0_turnEach 41 = .ok (.aload_n 1, 1) := by decide +kernel
theorem dX0_turnEach_42 : decode cX0_turnEach 42 = .ok (.iconst 0, 1) := by decide +kernel
theorem dX0_turnEach_43 : decode cX0_turnEach 43 = .ok (.iload_n 3, 1) := by decide +kernel
theorem dX0_turnEach_44 : decode cX0_turnEach 44 = .ok (.invokevirtual 74, 3) := by decide +kernel
theorem dX0_turnEach_47 : decode cX0_turnEach 47 = .ok (.iinc 5 1, 3) := by decide +kernel
theorem dX0_turnEach_50 : decode cX0_turnEach 50 = .ok (.iinc 6 1, 3) := by decide +kernel
theorem dX0_turnEach_53 : decode cX0_turnEach 53 = .ok (.goto (-47), 3) := by decide +kernel
theorem dX0_turnEach_56 : decode cX0_turnEach 56 = .ok (.return_, 1) := by decide +kernel
theorem dX0_hissAhead_0 : decode cX0_hissAhead 0 = .ok (.aload_n 0, 1) := by decide +kernel
theorem dX0_hissAhead_1 : decode cX0_hissAhead 1 = .ok (.getfield 31, 3) := by decide +kernel
theorem dX0_hissAhead_4 : decode cX0_hissAhead 4 = .ok (.bipush (-9), 2) := by decide +kernel
theorem dX0_hissAhead_6 : decode cX0_hissAhead 6 = .ok (.if_icmp .eq 23, 3) := by decide +kernel
theorem dX0_hissAhead_9 : decode cX0_hissAhead 9 = .ok (.aload_n 0, 1) := by decide +kernel
theorem dX0_hissAhead_10 : decode cX0_hissAhead 10 = .ok (.getfield 40, 3) := by decide +kernel
theorem dX0_hissAhead_13 : decode cX0_hissAhead 13 = .ok (.bipush (-9), 2) := by decide +kernel
theorem dX0_hissAhead_15 : decode cX0_hissAhead 15 = .ok (.if_icmp .eq 14, 3) := by decide +kernel
theorem dX0_hissAhead_18 : decode cX0_hissAhead 18 = .ok (.aload_n 0, 1) := by decide +kernel
theorem dX0_hissAhead_19 : decode cX0_hissAhead 19 = .ok (.getfield 40, 3) := by decide +kernel
theorem dX0_hissAhead_22 : decode cX0_hissAhead 22 = .ok (.aload_n 0, 1) := by decide +kernel
theorem dX0_hissAhead_23 : decode cX0_hissAhead 23 = .ok (.getfield 31, 3) := by decide +kernel
theorem dX0_hissAhead_26 : decode cX0_hissAhead 26 = .ok (.if_icmp .le 8, 3) := by decide +kernel
theorem dX0_hissAhead_29 : decode cX0_hissAhead 29 = .ok (.bipush (-9), 2) := by decide +kernel
theorem dX0_hissAhead_31 : decode cX0_hissAhead 31 = .ok (.goto 12, 3) := by decide +kernel
theorem dX0_hissAhead_34 : decode cX0_hissAhead 34 = .ok (.aload_n 0, 1) := by decide +kernel
theorem dX0_hissAhead_35 : decode cX0_hissAhead 35 = .ok (.getfield 31, 3) := by decide +kernel
theorem dX0_hissAhead_38 : decode cX0_hissAhead 38 = .ok (.aload_n 0, 1) := by decide +kernel
theorem dX0_hissAhead_39 : decode cX0_hissAhead 39 = .ok (.getfield 40, 3) := by decide +kernel
theorem dX0_hissAhead_42 : decode cX0_hissAhead 42 = .ok (.isub, 1) := by decide +kernel
theorem dX0_hissAhead_43 : decode cX0_hissAhead 43 = .ok (.ireturn, 1) := by decide +kernel
theorem dX1_init_0 : decode cX1_init 0 = .ok (.aload_n 0, 1) := by decide +kernel
theorem dX1_init_1 : decode cX1_init 1 = .ok (.invokespecial 3, 3) := by decide +kernel
theorem dX1_init_4 : decode cX1_init 4 = .ok (.aload_n 0, 1) := by decide +kernel
theorem dX1_init_5 : decode cX1_init 5 = .ok (.iconst 4, 1) := by decide +kernel
theorem dX1_init_6 : decode cX1_init 6 = .ok (.newarray .int, 2) := by decide +kernel
theorem dX1_init_8 : decode cX1_init 8 = .ok (.putfield 9, 3) := by decide +kernel
theorem dX1_init_11 : decode cX1_init 11 = .ok (.aload_n 0, 1) := by decide +kernel
theorem dX1_init_12 : decode cX1_init 12 = .ok (.iconst 4, 1) := by decide +kernel
theorem dX1_init_13 : decode cX1_init 13 = .ok (.newarray .int, 2) := by decide +kernel
theorem dX1_init_15 : decode cX1_init 15 = .ok (.putfield 15, 3) := by decide +kernel
theorem dX1_init_18 : decode cX1_init 18 = .ok (.return_, 1) := by decide +kernel
theorem dX1_begin_0 : decode cX1_begin 0 = .ok (.aload_n 0, 1) := by decide +kernel
theorem dX1_begin_1 : decode cX1_begin 1 = .ok (.iconst 0, 1) := by decide +kernel
theorem dX1_begin_2 : decode cX1_begin 2 = .ok (.putfield 18, 3) := by decide +kernel
theorem dX1_begin_5 : decode cX1_begin 5 = .ok (.iconst 0, 1) := by decide +kernel
theorem dX1_begin_6 : decode cX1_begin 6 = .ok (.istore_n 2, 1) := by decide +kernel
theorem dX1_begin_7 : decode cX1_begin 7 = .ok (.iload_n 2, 1) := by decide +kernel
theorem dX1_begin_8 : decode cX1_begin 8 = .ok (.iconst 4, 1) := by decide +kernel
theorem dX1_begin_9 : decode cX1_begin 9 = .ok (.if_icmp .ge 24, 3) := by decide +kernel
theorem dX1_begin_12 : decode cX1_begin 12 = .ok (.aload_n 0, 1) := by decide +kernel
theorem dX1_begin_13 : decode cX1_begin 13 = .ok (.getfield 9, 3) := by decide +kernel
theorem dX1_begin_16 : decode cX1_begin 16 = .ok (.iload_n 2, 1) := by decide +kernel
theorem dX1_begin_17 : decode cX1_begin 17 = .ok (.bipush 20, 2) := by decide +kernel
theorem dX1_begin_19 : decode cX1_begin 19 = .ok (.iastore, 1) := by decide +kernel
theorem dX1_begin_20 : decode cX1_begin 20 = .ok (.aload_n 0, 1) := by decide +kernel
theorem dX1_begin_21 : decode cX1_begin 21 = .ok (.getfield 15, 3) := by decide +kernel
theorem dX1_begin_24 : decode cX1_begin 24 = .ok (.iload_n 2, 1) := by decide +kernel
theorem dX1_begin_25 : decode cX1_begin 25 = .ok (.iconst 0, 1) := by decide +kernel
theorem dX1_begin_26 : decode cX1_begin 26 = .ok (.iastore, 1) := by decide +kernel
theorem dX1_begin_27 : decode cX1_begin 27 = .ok (.iinc 2 1, 3) := by decide +kernel
theorem dX1_begin_30 : decode cX1_begin 30 = .ok (.goto (-23), 3) := by decide +kernel
theorem dX1_begin_33 : decode cX1_begin 33 = .ok (.aload_n 0, 1) := by decide +kernel
theorem dX1_begin_34 : decode cX1_begin 34 = .ok (.bipush 20, 2) := by decide +kernel
theorem dX1_begin_36 : decode cX1_begin 36 = .ok (.putfield 22, 3) := by decide +kernel
theorem dX1_begin_39 : decode cX1_begin 39 = .ok (.aload_n 0, 1) := by decide +kernel
theorem dX1_begin_40 : decode cX1_begin 40 = .ok (.iload_n 1, 1) := by decide +kernel
theorem dX1_begin_41 : decode cX1_begin 41 = .ok (.putfield 25, 3) := by decide +kernel
theorem dX1_begin_44 : decode cX1_begin 44 = .ok (.aload_n 0, 1) := by decide +kernel
theorem dX1_begin_45 : decode cX1_begin 45 = .ok (.iconst 0, 1) := by decide +kernel
theorem dX1_begin_46 : decode cX1_begin 46 = .ok (.putfield 28, 3) := by decide +kernel
theorem dX1_begin_49 : decode cX1_begin 49 = .ok (.aload_n 0, 1) := by decide +kernel
theorem dX1_begin_50 : decode cX1_begin 50 = .ok (.iconst 0, 1) := by decide +kernel
theorem dX1_begin_51 : decode cX1_begin 51 = .ok (.putfield 31, 3) := by decide +kernel
theorem dX1_begin_54 : decode cX1_begin 54 = .ok (.aload_n 0, 1) := by decide +kernel
theorem dX1_begin_55 : decode cX1_begin 55 = .ok (.iconst 0, 1) := by decide +kernel
theorem dX1_begin_56 : decode cX1_begin 56 = .ok (.putfield 34, 3) := by decide +kernel
theorem dX1_begin_59 : decode cX1_begin 59 = .ok (.aload_n 0, 1) := by decide +kernel
theorem dX1_begin_60 : decode cX1_begin 60 = .ok (.iconst 0, 1) := by decide +kernel
theorem dX1_begin_61 : decode cX1_begin 61 = .ok (.putfield 37, 3) := by decide +kernel
theorem dX1_begin_64 : decode cX1_begin 64 = .ok (.aload_n 0, 1) := by decide +kernel
theorem dX1_begin_65 : decode cX1_begin 65 = .ok (.bipush (-9), 2) := by decide +kernel
theorem dX1_begin_67 : decode cX1_begin 67 = .ok (.putfield 40, 3) := by decide +kernel
theorem dX1_begin_70 : decode cX1_begin 70 = .ok (.aload_n 0, 1) := by decide +kernel
theorem dX1_begin_71 : decode cX1_begin 71 = .ok (.iconst 0, 1) := by decide +kernel
theorem dX1_begin_72 : decode cX1_begin 72 = .ok (.putfield 43, 3) := by decide +kernel
theorem dX1_begin_75 : decode cX1_begin 75 = .ok (.return_, 1) := by decide +kernel
theorem dX1_take_0 : decode cX1_take 0 = .ok (.aload_n 0, 1) := by decide +kernel
theorem dX1_take_1 : decode cX1_take 1 = .ok (.aload_n 1, 1) := by decide +kernel
theorem dX1_take_2 : decode cX1_take 2 = .ok (.getfield 18, 3) := by decide +kernel
theorem dX1_take_5 : decode cX1_take 5 = .ok (.putfield 18, 3) := by decide +kernel
theorem dX1_take_8 : decode cX1_take 8 = .ok (.iconst 0, 1) := by decide +kernel
theorem dX1_take_9 : decode cX1_take 9 = .ok (.istore_n 2, 1) := by decide +kernel
theorem dX1_take_10 : decode cX1_take 10 = .ok (.iload_n 2, 1) := by decide +kernel
theorem dX1_take_11 : decode cX1_take 11 = .ok (.iconst 4, 1) := by decide +kernel
theorem dX1_take_12 : decode cX1_take 12 = .ok (.if_icmp .ge 33, 3) := by decide +kernel
theorem dX1_take_15 : decode cX1_take 15 = .ok (.aload_n 0, 1) := by decide +kernel
theorem dX1_take_16 : decode cX1_take 16 = .ok (.getfield 9, 3) := by decide +kernel
theorem dX1_take_19 : decode cX1_take 19 = .ok (.iload_n 2, 1) := by decide +kernel
theorem dX1_take_20 : decode cX1_take 20 = .ok (.aload_n 1, 1) := by decide +kernel
theorem dX1_take_21 : decode cX1_take 21 = .ok (.getfield 9, 3) := by decide +kernel
theorem dX1_take_24 : decode cX1_take 24 = .ok (.iload_n 2, 1) := by decide +kernel
theorem dX1_take_25 : decode cX1_take 25 = .ok (.iaload, 1) := by decide +kernel
theorem dX1_take_26 : decode cX1_take 26 = .ok (.iastore, 1) := by decide +kernel
theorem dX1_take_27 : decode cX1_take 27 = .ok (.aload_n 0, 1) := by decide +kernel
theorem dX1_take_28 : decode cX1_take 28 = .ok (.getfield 15, 3) := by decide +kernel
theorem dX1_take_31 : decode cX1_take 31 = .ok (.iload_n 2, 1) := by decide +kernel
theorem dX1_take_32 : decode cX1_take 32 = .ok (.aload_n 1, 1) := by decide +kernel
theorem dX1_take_33 : decode cX1_take 33 = .ok (.getfield 15, 3) := by decide +kernel
theorem dX1_take_36 : decode cX1_take 36 = .ok (.iload_n 2, 1) := by decide +kernel
theorem dX1_take_37 : decode cX1_take 37 = .ok (.iaload, 1) := by decide +kernel
theorem dX1_take_38 : decode cX1_take 38 = .ok (.iastore, 1) := by decide +kernel
theorem dX1_take_39 : decode cX1_take 39 = .ok (.iinc 2 1, 3) := by decide +kernel
theorem dX1_take_42 : decode cX1_take 42 = .ok (.goto (-32), 3) := by decide +kernel
theorem dX1_take_45 : decode cX1_take 45 = .ok (.aload_n 0, 1) := by decide +kernel
theorem dX1_take_46 : decode cX1_take 46 = .ok (.aload_n 1, 1) := by decide +kernel
theorem dX1_take_47 : decode cX1_take 47 = .ok (.getfield 22, 3) := by decide +kernel
theorem dX1_take_50 : decode cX1_take 50 = .ok (.putfield 22, 3) := by decide +kernel
theorem dX1_take_53 : decode cX1_take 53 = .ok (.aload_n 0, 1) := by decide +kernel
theorem dX1_take_54 : decode cX1_take 54 = .ok (.aload_n 1, 1) := by decide +kernel
theorem dX1_take_55 : decode cX1_take 55 = .ok (.getfield 25, 3) := by decide +kernel
theorem dX1_take_58 : decode cX1_take 58 = .ok (.putfield 25, 3) := by decide +kernel
theorem dX1_take_61 : decode cX1_take 61 = .ok (.aload_n 0, 1) := by decide +kernel
theorem dX1_take_62 : decode cX1_take 62 = .ok (.aload_n 1, 1) := by decide +kernel
theorem dX1_take_63 : decode cX1_take 63 = .ok (.getfield 28, 3) := by decide +kernel
theorem dX1_take_66 : decode cX1_take 66 = .ok (.putfield 28, 3) := by decide +kernel
theorem dX1_take_69 : decode cX1_take 69 = .ok (.aload_n 0, 1) := by decide +kernel
theorem dX1_take_70 : decode cX1_take 70 = .ok (.aload_n 1, 1) := by decide +kernel
theorem dX1_take_71 : decode cX1_take 71 = .ok (.getfield 31, 3) := by decide +kernel
theorem dX1_take_74 : decode cX1_take 74 = .ok (.putfield 31, 3) := by decide +kernel
theorem dX1_take_77 : decode cX1_take 77 = .ok (.aload_n 0, 1) := by decide +kernel
theorem dX1_take_78 : decode cX1_take 78 = .ok (.aload_n 1, 1) := by decide +kernel
theorem dX1_take_79 : decode cX1_take 79 = .ok (.getfield 34, 3) := by decide +kernel
theorem dX1_take_82 : decode cX1_take 82 = .ok (.putfield 34, 3) := by decide +kernel
theorem dX1_take_85 : decode cX1_take 85 = .ok (.aload_n 0, 1) := by decide +kernel
theorem dX1_take_86 : decode cX1_take 86 = .ok (.aload_n 1, 1) := by decide +kernel
theorem dX1_take_87 : decode cX1_take 87 = .ok (.getfield 37, 3) := by decide +kernel
theorem dX1_take_90 : decode cX1_take 90 = .ok (.putfield 37, 3) := by decide +kernel
theorem dX1_take_93 : decode cX1_take 93 = .ok (.aload_n 0, 1) := by decide +kernel
theorem dX1_take_94 : decode cX1_take 94 = .ok (.aload_n 1, 1) := by decide +kernel
theorem dX1_take_95 : decode cX1_take 95 = .ok (.getfield 40, 3) := by decide +kernel
theorem dX1_take_98 : decode cX1_take 98 = .ok (.putfield 40, 3) := by decide +kernel
theorem dX1_take_101 : decode cX1_take 101 = .ok (.aload_n 0, 1) := by decide +kernel
theorem dX1_take_102 : decode cX1_take 102 = .ok (.aload_n 1, 1) := by decide +kernel
theorem dX1_take_103 : decode cX1_take 103 = .ok (.getfield 43, 3) := by decide +kernel
theorem dX1_take_106 : decode cX1_take 106 = .ok (.putfield 43, 3) := by decide +kernel
theorem dX1_take_109 : decode cX1_take 109 = .ok (.return_, 1) := by decide +kernel
theorem dX1_turnBy_0 : decode cX1_turnBy 0 = .ok (.aload_n 0, 1) := by decide +kernel
theorem dX1_turnBy_1 : decode cX1_turnBy 1 = .ok (.aload_n 0, 1) := by decide +kernel
theorem dX1_turnBy_2 : decode cX1_turnBy 2 = .ok (.getfield 18, 3) := by decide +kernel
theorem dX1_turnBy_5 : decode cX1_turnBy 5 = .ok (.iload_n 1, 1) := by decide +kernel
theorem dX1_turnBy_6 : decode cX1_turnBy 6 = .ok (.iadd, 1) := by decide +kernel
theorem dX1_turnBy_7 : decode cX1_turnBy 7 = .ok (.iconst 3, 1) := by decide +kernel
theorem dX1_turnBy_8 : decode cX1_turnBy 8 = .ok (.iand, 1) := by decide +kernel
theorem dX1_turnBy_9 : decode cX1_turnBy 9 = .ok (.putfield 18, 3) := by decide +kernel
theorem dX1_turnBy_12 : decode cX1_turnBy 12 = .ok (.return_, 1) := by decide +kernel
theorem dX1_prickBy_0 : decode cX1_prickBy 0 = .ok (.aload_n 0, 1) := by decide +kernel
theorem dX1_prickBy_1 : decode cX1_prickBy 1 = .ok (.bipush 99, 2) := by decide +kernel
theorem dX1_prickBy_3 : decode cX1_prickBy 3 = .ok (.aload_n 0, 1) := by decide +kernel
theorem dX1_prickBy_4 : decode cX1_prickBy 4 = .ok (.getfield 28, 3) := by decide +kernel
theorem dX1_prickBy_7 : decode cX1_prickBy 7 = .ok (.iload_n 1, 1) := by decide +kernel
theorem dX1_prickBy_8 : decode cX1_prickBy 8 = .ok (.iadd, 1) := by decide +kernel
theorem dX1_prickBy_9 : decode cX1_prickBy 9 = .ok (.invokestatic 46, 3) := by decide +kernel
theorem dX1_prickBy_12 : decode cX1_prickBy 12 = .ok (.putfield 28, 3) := by decide +kernel
theorem dX1_prickBy_15 : decode cX1_prickBy 15 = .ok (.return_, 1) := by decide +kernel
theorem dX1_pass_0 : decode cX1_pass 0 = .ok (.iload_n 2, 1) := by decide +kernel
theorem dX1_pass_1 : decode cX1_pass 1 = .ok (.ifCond .ne 11, 3) := by decide +kernel
theorem dX1_pass_4 : decode cX1_pass 4 = .ok (.aload_n 0, 1) := by decide +kernel
theorem dX1_pass_5 : decode cX1_pass 5 = .ok (.iload_n 3, 1) := by decide +kernel
theorem dX1_pass_6 : decode cX1_pass 6 = .ok (.invokevirtual 52, 3) := by decide +kernel
theorem dX1_pass_9 : decode cX1_pass 9 = .ok (.goto 8, 3) := by decide +kernel
theorem dX1_pass_12 : decode cX1_pass 12 = .ok (.aload_n 0, 1) := by decide +kernel
theorem dX1_pass_13 : decode cX1_pass 13 = .ok (.iload_n 3, 1) := by decide +kernel
theorem dX1_pass_14 : decode cX1_pass 14 = .ok (.invokevirtual 56, 3) := by decide +kernel
theorem dX1_pass_17 : decode cX1_pass 17 = .ok (.aload_n 0, 1) := by decide +kernel
theorem dX1_pass_18 : decode cX1_pass 18 = .ok (.aload_n 1, 1) := by decide +kernel
theorem dX1_pass_19 : decode cX1_pass 19 = .ok (.invokevirtual 59, 3) := by decide +kernel
theorem dX1_pass_22 : decode cX1_pass 22 = .ok (.aload_n 0, 1) := by decide +kernel
theorem dX1_pass_23 : decode cX1_pass 23 = .ok (.invokevirtual 63, 3) := by decide +kernel
theorem dX1_pass_26 : decode cX1_pass 26 = .ok (.aload_n 0, 1) := by decide +kernel
theorem dX1_pass_27 : decode cX1_pass 27 = .ok (.invokevirtual 66, 3) := by decide +kernel
theorem dX1_pass_30 : decode cX1_pass 30 = .ok (.aload_n 0, 1) := by decide +kernel
theorem dX1_pass_31 : decode cX1_pass 31 = .ok (.dup, 1) := by decide +kernel
theorem dX1_pass_32 : decode cX1_pass 32 = .ok (.getfield 34, 3) := by decide +kernel
theorem dX1_pass_35 : decode cX1_pass 35 = .ok (.iconst 1, 1) := by decide +kernel
theorem dX1_pass_36 : decode cX1_pass 36 = .ok (.iadd, 1) := by decide +kernel
theorem dX1_pass_37 : decode cX1_pass 37 = .ok (.putfield 34, 3) := by decide +kernel
theorem dX1_pass_40 : decode cX1_pass 40 = .ok (.aload_n 0, 1) := by decide +kernel
theorem dX1_pass_41 : decode cX1_pass 41 = .ok (.aload_n 1, 1) := by decide +kernel
theorem dX1_pass_42 : decode cX1_pass 42 = .ok (.invokevirtual 69, 3) := by decide +kernel
theorem dX1_pass_45 : decode cX1_pass 45 = .ok (.istore 4, 2) := by decide +kernel
theorem dX1_pass_47 : decode cX1_pass 47 = .ok (.aload_n 0, 1) := by decide +kernel
theorem dX1_pass_48 : decode cX1_pass 48 = .ok (.getfield 37, 3) := by decide +kernel
theorem dX1_pass_51 : decode cX1_pass 51 = .ok (.ifCond .ne 10, 3) := by decide +kernel
theorem dX1_pass_54 : decode cX1_pass 54 = .ok (.aload_n 0, 1) := by decide +kernel
theorem dX1_pass_55 : decode cX1_pass 55 = .ok (.aload_n 1, 1) := by decide +kernel
theorem dX1_pass_56 : decode cX1_pass 56 = .ok (.iload 4, 2) := by decide +kernel
theorem dX1_pass_58 : decode cX1_pass 58 = .ok (.invokevirtual 73, 3) := by decide +kernel
theorem dX1_pass_61 : decode cX1_pass 61 = .ok (.iload 4, 2) := by decide +kernel
theorem dX1_pass_63 : decode cX1_pass 63 = .ok (.ireturn, 1) := by decide +kernel
theorem dX1_fireFaces_0 : decode cX1_fireFaces 0 = .ok (.iconst 0, 1) := by decide +kernel
theorem dX1_fireFaces_1 : decode cX1_fireFaces 1 = .ok (.istore_n 2, 1) := by decide +kernel
theorem dX1_fireFaces_2 : decode cX1_fireFaces 2 = .ok (.iload_n 2, 1) := by decide +kernel
theorem dX1_fireFaces_3 : decode cX1_fireFaces 3 = .ok (.iconst 4, 1) := by decide +kernel
theorem dX1_fireFaces_4 : decode cX1_fireFaces 4 = .ok (.if_icmp .ge 60, 3) := by decide +kernel
theorem dX1_fireFaces_7 : decode cX1_fireFaces 7 = .ok (.iload_n 2, 1) := by decide +kernel
theorem dX1_fireFaces_8 : decode cX1_fireFaces 8 = .ok (.aload_n 0, 1) := by decide +kernel
theorem dX1_fireFaces_9 : decode cX1_fireFaces 9 = .ok (.getfield 18, 3) := by decide +kernel
theorem dX1_fireFaces_12 : decode cX1_fireFaces 12 = .ok (.if_icmp .ne 25, 3) := by decide +kernel
theorem dX1_fireFaces_15 : decode cX1_fireFaces 15 = .ok (.aload_n 0, 1) := by decide +kernel
theorem dX1_fireFaces_16 : decode cX1_fireFaces 16 = .ok (.getfield 9, 3) := by decide +kernel
theorem dX1_fireFaces_19 : decode cX1_fireFaces 19 = .ok (.iload_n 2, 1) := by decide +kernel
theorem dX1_fireFaces_20 : decode cX1_fireFaces 20 = .ok (.dup2, 1) := by decide +kernel
theorem dX1_fireFaces_21 : decode cX1_fireFaces 21 = .ok (.iaload, 1) := by decide +kernel
theorem dX1_fireFaces_22 : decode cX1_fireFaces 22 = .ok (.iload_n 1, 1) := by decide +kernel
theorem dX1_fireFaces_23 : decode cX1_fireFaces 23 = .ok (.aload_n 0, 1) := by decide +kernel
theorem dX1_fireFaces_24 : decode cX1_fireFaces 24 = .ok (.getfield 9, 3) := by decide +kernel
theorem dX1_fireFaces_27 : decode cX1_fireFaces 27 = .ok (.iload_n 2, 1) := by decide +kernel
theorem dX1_fireFaces_28 : decode cX1_fireFaces 28 = .ok (.iaload, 1) := by decide +kernel
theorem dX1_fireFaces_29 : decode cX1_fireFaces 29 = .ok (.isub, 1) := by decide +kernel
theorem dX1_fireFaces_30 : decode cX1_fireFaces 30 = .ok (.iconst 4, 1) := by decide +kernel
theorem dX1_fireFaces_31 : decode cX1_fireFaces 31 = .ok (.idiv, 1) := by decide +kernel
theorem dX1_fireFaces_32 : decode cX1_fireFaces 32 = .ok (.iadd, 1) := by decide +kernel
theorem dX1_fireFaces_33 : decode cX1_fireFaces 33 = .ok (.iastore, 1) := by decide +kernel
theorem dX1_fireFaces_34 : decode cX1_fireFaces 34 = .ok (.goto 24, 3) := by decide +kernel
theorem dX1_fireFaces_37 : decode cX1_fireFaces 37 = .ok (.aload_n 0, 1) := by decide +kernel
theorem dX1_fireFaces_38 : decode cX1_fireFaces 38 = .ok (.getfield 9, 3) := by decide +kernel
theorem dX1_fireFaces_41 : decode cX1_fireFaces 41 = .ok (.iload_n 2, 1) := by decide +kernel
theorem dX1_fireFaces_42 : decode cX1_fireFaces 42 = .ok (.dup2, 1) := by decide +kernel
theorem dX1_fireFaces_43 : decode cX1_fireFaces 43 = .ok (.iaload, 1) := by decide +kernel
theorem dX1_fireFaces_44 : decode cX1_fireFaces 44 = .ok (.aload_n 0, 1) := by decide +kernel
theorem dX1_fireFaces_45 : decode cX1_fireFaces 45 = .ok (.getfield 9, 3) := by decide +kernel
theorem dX1_fireFaces_48 : decode cX1_fireFaces 48 = .ok (.iload_n 2, 1) := by decide +kernel
theorem dX1_fireFaces_49 : decode cX1_fireFaces 49 = .ok (.iaload, 1) := by decide +kernel
theorem dX1_fireFaces_50 : decode cX1_fireFaces 50 = .ok (.bipush 20, 2) := by decide +kernel
theorem dX1_fireFaces_52 : decode cX1_fireFaces 52 = .ok (.isub, 1) := by decide +kernel
theorem dX1_fireFaces_53 : decode cX1_fireFaces 53 = .ok (.bipush 16, 2) := by decide +kernel
theorem dX1_fireFaces_55 : decode cX1_fireFaces 55 = .ok (.idiv, 1) := by decide +kernel
theorem dX1_fireFaces_56 : decode cX1_fireFaces 56 = .ok (.isub, 1) := by decide +kernel
theorem dX1_fireFaces_57 : decode cX1_fireFaces 57 = .ok (.iastore, 1) := by decide +kernel
theorem dX1_fireFaces_58 : decode cX1_fireFaces 58 = .ok (.iinc 2 1, 3) := by decide +kernel
theorem dX1_fireFaces_61 : decode cX1_fireFaces 61 = .ok (.goto (-59), 3) := by decide +kernel
theorem dX1_fireFaces_64 : decode cX1_fireFaces 64 = .ok (.return_, 1) := by decide +kernel
theorem dX1_simmerFaces_0 : decode cX1_simmerFaces 0 = .ok (.iconst 0, 1) := by decide +kernel
theorem dX1_simmerFaces_1 : decode cX1_simmerFaces 1 = .ok (.istore_n 2, 1) := by decide +kernel
theorem dX1_simmerFaces_2 : decode cX1_simmerFaces 2 = .ok (.iload_n 2, 1) := by decide +kernel
theorem dX1_simmerFaces_3 : decode cX1_simmerFaces 3 = .ok (.iconst 4, 1) := by decide +kernel
theorem dX1_simmerFaces_4 : decode cX1_simmerFaces 4 = .ok (.if_icmp .ge 28, 3) := by decide +kernel
theorem dX1_simmerFaces_7 : decode cX1_simmerFaces 7 = .ok (.aload_n 0, 1) := by decide +kernel
theorem dX1_simmerFaces_8 : decode cX1_simmerFaces 8 = .ok (.getfield 9, 3) := by decide +kernel
theorem dX1_simmerFaces_11 : decode cX1_simmerFaces 11 = .ok (.iload_n 2, 1) := by decide +kernel
theorem dX1_simmerFaces_12 : decode cX1_simmerFaces 12 = .ok (.dup2, 1) := by decide +kernel
theorem dX1_simmerFaces_13 : decode cX1_simmerFaces 13 = .ok (.iaload, 1) := by decide +kernel
theorem dX1_simmerFaces_14 : decode cX1_simmerFaces 14 = .ok (.iload_n 1, 1) := by decide +kernel
theorem dX1_simmerFaces_15 : decode cX1_simmerFaces 15 = .ok (.aload_n 0, 1) := by decide +kernel
theorem dX1_simmerFaces_16 : decode cX1_simmerFaces 16 = .ok (.getfield 9, 3) := by decide +kernel
theorem dX1_simmerFaces_19 : decode cX1_simmerFaces 19 = .ok (.iload_n 2, 1) := by decide +kernel
theorem dX1_simmerFaces_20 : decode cX1_simmerFaces 20 = .ok (.iaload, 1) := by decide +kernel
theorem dX1_simmerFaces_21 : decode cX1_simmerFaces 21 = .ok (.isub, 1) := by decide +kernel
theorem dX1_simmerFaces_22 : decode cX1_simmerFaces 22 = .ok (.iconst 4, 1) := by decide +kernel
theorem dX1_simmerFaces_23 : decode cX1_simmerFaces 23 = .ok (.idiv, 1) := by decide +kernel
theorem dX1_simmerFaces_24 : decode cX1_simmerFaces 24 = .ok (.iadd, 1) := by decide +kernel
theorem dX1_simmerFaces_25 : decode cX1_simmerFaces 25 = .ok (.iastore, 1) := by decide +kernel
theorem dX1_simmerFaces_26 : decode cX1_simmerFaces 26 = .ok (.iinc 2 1, 3) := by decide +kernel
theorem dX1_simmerFaces_29 : decode cX1_simmerFaces 29 = .ok (.goto (-27), 3) := by decide +kernel
theorem dX1_simmerFaces_32 : decode cX1_simmerFaces 32 = .ok (.return_, 1) := by decide +kernel
theorem dX1_warmCore_0 : decode cX1_warmCore 0 = .ok (.iconst 0, 1) := by decide +kernel
theorem dX1_warmCore_1 : decode cX1_warmCore 1 = .ok (.istore_n 2, 1) := by decide +kernel
theorem dX1_warmCore_2 : decode cX1_warmCore 2 = .ok (.iconst 0, 1) := by decide +kernel
theorem dX1_warmCore_3 : decode cX1_warmCore 3 = .ok (.istore_n 3, 1) := by decide +kernel
theorem dX1_warmCore_4 : decode cX1_warmCore 4 = .ok (.iload_n 3, 1) := by decide +kernel
theorem dX1_warmCore_5 : decode cX1_warmCore 5 = .ok (.iconst 4, 1) := by decide +kernel
theorem dX1_warmCore_6 : decode cX1_warmCore 6 = .ok (.if_icmp .ge 18, 3) := by decide +kernel
theorem dX1_warmCore_9 : decode cX1_warmCore 9 = .ok (.iload_n 2, 1) := by decide +kernel
theorem dX1_warmCore_10 : decode cX1_warmCore 10 = .ok (.aload_n 0, 1) := by decide +kernel
theorem dX1_warmCore_11 : decode cX1_warmCore 11 = .ok (.getfield 9, 3) := by decide +kernel
theorem dX1_warmCore_14 : decode cX1_warmCore 14 = .ok (.iload_n 3, 1) := by decide +kernel
theorem dX1_warmCore_15 : decode cX1_warmCore 15 = .ok (.iaload, 1) := by decide +kernel
theorem dX1_warmCore_16 : decode cX1_warmCore 16 = .ok (.iadd, 1) := by decide +kernel
theorem dX1_warmCore_17 : decode cX1_warmCore 17 = .ok (.istore_n 2, 1) := by decide +kernel
theorem dX1_warmCore_18 : decode cX1_warmCore 18 = .ok (.iinc 3 1, 3) := by decide +kernel
theorem dX1_warmCore_21 : decode cX1_warmCore 21 = .ok (.goto (-17), 3) := by decide +kernel
theorem dX1_warmCore_24 : decode cX1_warmCore 24 = .ok (.aload_n 0, 1) := by decide +kernel
theorem dX1_warmCore_25 : decode cX1_warmCore 25 = .ok (.dup, 1) := by decide +kernel
theorem dX1_warmCore_26 : decode cX1_warmCore 26 = .ok (.getfield 22, 3) := by decide +kernel
theorem dX1_warmCore_29 : decode cX1_warmCore 29 = .ok (.iload_n 2, 1) := by decide +kernel
theorem dX1_warmCore_30 : decode cX1_warmCore 30 = .ok (.iconst 4, 1) := by decide +kernel
theorem dX1_warmCore_31 : decode cX1_warmCore 31 = .ok (.aload_n 0, 1) := by decide +kernel
theorem dX1_warmCore_32 : decode cX1_warmCore 32 = .ok (.getfield 22, 3) := by decide +kernel
theorem dX1_warmCore_35 : decode cX1_warmCore 35 = .ok (.imul, 1) := by decide +kernel
theorem dX1_warmCore_36 : decode cX1_warmCore 36 = .ok (.isub, 1) := by decide +kernel
theorem dX1_warmCore_37 : decode cX1_warmCore 37 = .ok (.iconst 1, 1) := by decide +kernel
theorem dX1_warmCore_38 : decode cX1_warmCore 38 = .ok (.bipush 8, 2) := by decide +kernel
theorem dX1_warmCore_40 : decode cX1_warmCore 40 = .ok (.aload_n 1, 1) := by decide +kernel
theorem dX1_warmCore_41 : decode cX1_warmCore 41 = .ok (.getfield 77, 3) := by decide +kernel
theorem dX1_warmCore_44 : decode cX1_warmCore 44 = .ok (.imul, 1) := by decide +kernel
theorem dX1_warmCore_45 : decode cX1_warmCore 45 = .ok (.invokestatic 82, 3) := by decide +kernel
theorem dX1_warmCore_48 : decode cX1_warmCore 48 = .ok (.idiv, 1) := by decide +kernel
theorem dX1_warmCore_49 : decode cX1_warmCore 49 = .ok (.iadd, 1) := by decide +kernel
theorem dX1_warmCore_50 : decode cX1_warmCore 50 = .ok (.putfield 22, 3) := by decide +kernel
theorem dX1_warmCore_53 : decode cX1_warmCore 53 = .ok (.return_, 1) := by decide +kernel
theorem dX1_boil_0 : decode cX1_boil 0 = .ok (.aload_n 0, 1) := by decide +kernel
theorem dX1_boil_1 : decode cX1_boil 1 = .ok (.getfield 22, 3) := by decide +kernel
theorem dX1_boil_4 : decode cX1_boil 4 = .ok (.istore_n 1, 1) := by decide +kernel
theorem dX1_boil_5 : decode cX1_boil 5 = .ok (.iconst 0, 1) := by decide +kernel
theorem dX1_boil_6 : decode cX1_boil 6 = .ok (.istore_n 2, 1) := by decide +kernel
theorem dX1_boil_7 : decode cX1_boil 7 = .ok (.iload_n 2, 1) := by decide +kernel
theorem dX1_boil_8 : decode cX1_boil 8 = .ok (.iconst 4, 1) := by decide +kernel
theorem dX1_boil_9 : decode cX1_boil 9 = .ok (.if_icmp .ge 20, 3) := by decide +kernel
theorem dX1_boil_12 : decode cX1_boil 12 = .ok (.iload_n 1, 1) := by decide +kernel
theorem dX1_boil_13 : decode cX1_boil 13 = .ok (.aload_n 0, 1) := by decide +kernel
theorem dX1_boil_14 : decode cX1_boil 14 = .ok (.getfield 9, 3) := by decide +kernel
theorem dX1_boil_17 : decode cX1_boil 17 = .ok (.iload_n 2, 1) := by decide +kernel
theorem dX1_boil_18 : decode cX1_boil 18 = .ok (.iaload, 1) := by decide +kernel
theorem dX1_boil_19 : decode cX1_boil 19 = .ok (.invokestatic 82, 3) := by decide +kernel
theorem dX1_boil_22 : decode cX1_boil 22 = .ok (.istore_n 1, 1) := by decide +kernel
theorem dX1_boil_23 : decode cX1_boil 23 = .ok (.iinc 2 1, 3) := by decide +kernel
theorem dX1_boil_26 : decode cX1_boil 26 = .ok (.goto (-19), 3) := by decide +kernel
theorem dX1_boil_29 : decode cX1_boil 29 = .ok (.aload_n 0, 1) := by decide +kernel
theorem dX1_boil_30 : decode cX1_boil 30 = .ok (.aload_n 0, 1) := by decide +kernel
theorem dX1_boil_31 : decode cX1_boil 31 = .ok (.getfield 25, 3) := by decide +kernel
theorem dX1_boil_34 : decode cX1_boil 34 = .ok (.ifCond .le 14, 3) := by decide +kernel
theorem dX1_boil_37 : decode cX1_boil 37 = .ok (.iconst 0, 1) := by decide +kernel
theorem dX1_boil_38 : decode cX1_boil 38 = .ok (.iload_n 1, 1) := by decide +kernel
theorem dX1_boil_39 : decode cX1_boil 39 = .ok (.bipush 100, 2) := by decide +kernel
theorem dX1_boil_41 : decode cX1_boil 41 = .ok (.isub, 1) := by decide +kernel
theorem dX1_boil_42 : decode cX1_boil 42 = .ok (.invokestatic 82, 3) := by decide +kernel
theorem dX1_boil_45 : decode cX1_boil 45 = .ok (.goto 4, 3) := by decide +kernel
theorem dX1_boil_48 : decode cX1_boil 48 = .ok (.iconst 0, 1) := by decide +kernel
theorem dX1_boil_49 : decode cX1_boil 49 = .ok (.putfield 43, 3) := by decide +kernel
theorem dX1_boil_52 : decode cX1_boil 52 = .ok (.aload_n 0, 1) := by decide +kernel
theorem dX1_boil_53 : decode cX1_boil 53 = .ok (.getfield 43, 3) := by decide +kernel
theorem dX1_boil_56 : decode cX1_boil 56 = .ok (.bipush 20, 2) := by decide +kernel
theorem dX1_boil_58 : decode cX1_boil 58 = .ok (.idiv, 1) := by decide +kernel
theorem dX1_boil_59 : decode cX1_boil 59 = .ok (.aload_n 0, 1) := by decide +kernel
theorem dX1_boil_60 : decode cX1_boil 60 = .ok (.getfield 22, 3) := by decide +kernel
theorem dX1_boil_63 : decode cX1_boil 63 = .ok (.bipush 60, 2) := by decide +kernel
theorem dX1_boil_65 : decode cX1_boil 65 = .ok (.if_icmp .le 12, 3) := by decide +kernel
theorem dX1_boil_68 : decode cX1_boil 68 = .ok (.aload_n 0, 1) := by decide +kernel
theorem dX1_boil_69 : decode cX1_boil 69 = .ok (.getfield 28, 3) := by decide +kernel
theorem dX1_boil_72 : decode cX1_boil 72 = .ok (.iconst 3, 1) := by decide +kernel
theorem dX1_boil_73 : decode cX1_boil 73 = .ok (.idiv, 1) := by decide +kernel
theorem dX1_boil_74 : decode cX1_boil 74 = .ok (.goto 4, 3) := by decide +kernel
theorem dX1_boil_77 : decode cX1_boil 77 = .ok (.iconst 0, 1) := by decide +kernel
theorem dX1_boil_78 : decode cX1_boil 78 = .ok (.iadd, 1) := by decide +kernel
theorem dX1_boil_79 : decode cX1_boil 79 = .ok (.istore_n 2, 1) := by decide +kernel
theorem dX1_boil_80 : decode cX1_boil 80 = .ok (.aload_n 0, 1) := by decide +kernel
theorem dX1_boil_81 : decode cX1_boil 81 = .ok (.iconst 0, 1) := by decide +kernel
theorem dX1_boil_82 : decode cX1_boil 82 = .ok (.aload_n 0, 1) := by decide +kernel
theorem dX1_boil_83 : decode cX1_boil 83 = .ok (.getfield 25, 3) := by decide +kernel
theorem dX1_boil_86 : decode cX1_boil 86 = .ok (.iload_n 2, 1) := by decide +kernel
theorem dX1_boil_87 : decode cX1_boil 87 = .ok (.isub, 1) := by decide +kernel
theorem dX1_boil_88 : decode cX1_boil 88 = .ok (.invokestatic 82, 3) := by decide +kernel
theorem dX1_boil_91 : decode cX1_boil 91 = .ok (.putfield 25, 3) := by decide +kernel
theorem dX1_boil_94 : decode cX1_boil 94 = .ok (.return_, 1) := by decide +kernel
theorem dX1_browner_0 : decode cX1_browner 0 = .ok (.iconst 0, 1) := by decide +kernel
theorem dX1_browner_1 : decode cX1_browner 1 = .ok (.istore_n 1, 1) := by decide +kernel
theorem dX1_browner_2 : decode cX1_browner 2 = .ok (.iload_n 1, 1) := by decide +kernel
theorem dX1_browner_3 : decode cX1_browner 3 = .ok (.iconst 4, 1) := by decide +kernel
theorem dX1_browner_4 : decode cX1_browner 4 = .ok (.if_icmp .ge 46, 3) := by decide +kernel
theorem dX1_browner_7 : decode cX1_browner 7 = .ok (.iconst 0, 1) := by decide +kernel
theorem dX1_browner_8 : decode cX1_browner 8 = .ok (.aload_n 0, 1) := by decide +kernel
theorem dX1_browner_9 : decode cX1_browner 9 = .ok (.getfield 9, 3) := by decide +kernel
theorem dX1_browner_12 : decode cX1_browner 12 = .ok (.iload_n 1, 1) := by decide +kernel
theorem dX1_browner_13 : decode cX1_browner 13 = .ok (.iaload, 1) := by decide +kernel
theorem dX1_browner_14 : decode cX1_browner 14 = .ok (.bipush 120, 2) := by decide +kernel
theorem dX1_browner_16 : decode cX1_browner 16 = .ok (.isub, 1) := by decide +kernel
theorem dX1_browner_17 : decode cX1_browner 17 = .ok (.bipush 10, 2) := by decide +kernel
theorem dX1_browner_19 : decode cX1_browner 19 = .ok (.idiv, 1) := by decide +kernel
theorem dX1_browner_20 : decode cX1_browner 20 = .ok (.invokestatic 82, 3) := by decide +kernel
theorem dX1_browner_23 : decode cX1_browner 23 = .ok (.istore_n 2, 1) := by decide +kernel
theorem dX1_browner_24 : decode cX1_browner 24 = .ok (.aload_n 0, 1) := by decide +kernel
theorem dX1_browner_25 : decode cX1_browner 25 = .ok (.getfield 15, 3) := by decide +kernel
theorem dX1_browner_28 : decode cX1_browner 28 = .ok (.iload_n 1, 1) := by decide +kernel
theorem dX1_browner_29 : decode cX1_browner 29 = .ok (.sipush 999, 3) := by decide +kernel
theorem dX1_browner_32 : decode cX1_browner 32 = .ok (.aload_n 0, 1) := by decide +kernel
theorem dX1_browner_33 : decode cX1_browner 33 = .ok (.getfield 15, 3) := by decide +kernel
theorem dX1_browner_36 : decode cX1_browner 36 = .ok (.iload_n 1, 1) := by decide +kernel
theorem dX1_browner_37 : decode cX1_browner 37 = .ok (.iaload, 1) := by decide +kernel
theorem dX1_browner_38 : decode cX1_browner 38 = .ok (.iload_n 2, 1) := by decide +kernel
theorem dX1_browner_39 : decode cX1_browner 39 = .ok (.iadd, 1) := by decide +kernel
theorem dX1_browner_40 : decode cX1_browner 40 = .ok (.invokestatic 46, 3) := by decide +kernel
theorem dX1_browner_43 : decode cX1_browner 43 = .ok (.iastore, 1) := by decide +kernel
theorem dX1_browner_44 : decode cX1_browner 44 = .ok (.iinc 1 1, 3) := by decide +kernel
theorem dX1_browner_47 : decode cX1_browner 47 = .ok (.goto (-45), 3) := by decide +kernel
theorem dX1_browner_50 : decode cX1_browner 50 = .ok (.return_, 1) := by decide +kernel
theorem dX1_goIfPulled_0 : decode cX1_goIfPulled 0 = .ok (.iconst 0, 1) := by decide +kernel
theorem dX1_goIfPulled_1 : decode cX1_goIfPulled 1 = .ok (.istore_n 3, 1) := by decide +kernel
theorem dX1_goIfPulled_2 : decode cX1_goIfPulled 2 = .ok (.iload_n 3, 1) := by decide +kernel
theorem dX1_goIfPulled_3 : decode cX1_goIfPulled 3 = .ok (.iconst 4, 1) := by decide +kernel
theorem dX1_goIfPulled_4 : decode cX1_goIfPulled 4 = .ok (.if_icmp .ge 35, 3) := by decide +kernel
theorem dX1_goIfPulled_7 : decode cX1_goIfPulled 7 = .ok (.iload_n 3, 1) := by decide +kernel
theorem dX1_goIfPulled_8 : decode cX1_goIfPulled 8 = .ok (.aload_n 1, 1) := by decide +kernel
theorem dX1_goIfPulled_9 : decode cX1_goIfPulled 9 = .ok (.iload_n 2, 1) := by decide +kernel
theorem dX1_goIfPulled_10 : decode cX1_goIfPulled 10 = .ok (.invokestatic 85, 3) := by decide +kernel
theorem dX1_goIfPulled_13 : decode cX1_goIfPulled 13 = .ok (.aload_n 0, 1) := by decide +kernel
theorem dX1_goIfPulled_14 : decode cX1_goIfPulled 14 = .ok (.iload_n 3, 1) := by decide +kernel
theorem dX1_goIfPulled_15 : decode cX1_goIfPulled 15 = .ok (.aload_n 1, 1) := by decide +kernel
theorem dX1_goIfPulled_16 : decode cX1_goIfPulled 16 = .ok (.invokevirtual 89, 3) := by decide +kernel
theorem dX1_goIfPulled_19 : decode cX1_goIfPulled 19 = .ok (.if_icmp .le 14, 3) := by decide +kernel
theorem dX1_goIfPulled_22 : decode cX1_goIfPulled 22 = .ok (.aload_n 0, 1) := by decide +kernel
theorem dX1_goIfPulled_23 : decode cX1_goIfPulled 23 = .ok (.iconst 1, 1) := by decide +kernel
theorem dX1_goIfPulled_24 : decode cX1_goIfPulled 24 = .ok (.putfield 37, 3) := by decide +kernel
theorem dX1_goIfPulled_27 : decode cX1_goIfPulled 27 = .ok (.aload_n 0, 1) := by decide +kernel
theorem dX1_goIfPulled_28 : decode cX1_goIfPulled 28 = .ok (.iload_n 3, 1) := by decide +kernel
theorem dX1_goIfPulled_29 : decode cX1_goIfPulled 29 = .ok (.putfield 40, 3) := by decide +kernel
theorem dX1_goIfPulled_32 : decode cX1_goIfPulled 32 = .ok (.return_, 1) := by decide +kernel
theorem dX1_goIfPulled_33 : decode cX1_goIfPulled 33 = .ok (.iinc 3 1, 3) := by decide +kernel
theorem dX1_goIfPulled_36 : decode cX1_goIfPulled 36 = .ok (.goto (-34), 3) := by decide +kernel
theorem dX1_goIfPulled_39 : decode cX1_goIfPulled 39 = .ok (.aload_n 1, 1) := by decide +kernel
theorem dX1_goIfPulled_40 : decode cX1_goIfPulled 40 = .ok (.iload_n 2, 1) := by decide +kernel
theorem dX1_goIfPulled_41 : decode cX1_goIfPulled 41 = .ok (.invokestatic 93, 3) := by decide +kernel
theorem dX1_goIfPulled_44 : decode cX1_goIfPulled 44 = .ok (.aload_n 1, 1) := by decide +kernel
theorem dX1_goIfPulled_45 : decode cX1_goIfPulled 45 = .ok (.getfield 97, 3) := by decide +kernel
theorem dX1_goIfPulled_48 : decode cX1_goIfPulled 48 = .ok (.if_icmp .le 8, 3) := by decide +kernel
theorem dX1_goIfPulled_51 : decode cX1_goIfPulled 51 = .ok (.aload_n 0, 1) := by decide +kernel
theorem dX1_goIfPulled_52 : decode cX1_goIfPulled 52 = .ok (.iconst 2, 1) := by decide +kernel
theorem dX1_goIfPulled_53 : decode cX1_goIfPulled 53 = .ok (.putfield 37, 3) := by decide +kernel
theorem dX1_goIfPulled_56 : decode cX1_goIfPulled 56 = .ok (.return_, 1) := by decide +kernel
theorem dX1_pressIn_0 : decode cX1_pressIn 0 = .ok (.aload_n 0, 1) := by decide +kernel
theorem dX1_pressIn_1 : decode cX1_pressIn 1 = .ok (.getfield 37, 3) := by decide +kernel
theorem dX1_pressIn_4 : decode cX1_pressIn 4 = .ok (.ifCond .eq 5, 3) := by decide +kernel
theorem dX1_pressIn_7 : decode cX1_pressIn 7 = .ok (.iconst 0, 1) := by decide +kernel
theorem dX1_pressIn_8 : decode cX1_pressIn 8 = .ok (.ireturn, 1) := by decide +kernel
theorem dX1_pressIn_9 : decode cX1_pressIn 9 = .ok (.iconst 0, 1) := by decide +kernel
theorem dX1_pressIn_10 : decode cX1_pressIn 10 = .ok (.aload_n 0, 1) := by decide +kernel
theorem dX1_pressIn_11 : decode cX1_pressIn 11 = .ok (.getfield 22, 3) := by decide +kernel
theorem dX1_pressIn_14 : decode cX1_pressIn 14 = .ok (.bipush 40, 2) := by decide +kernel
theorem dX1_pressIn_16 : decode cX1_pressIn 16 = .ok (.isub, 1) := by decide +kernel
theorem dX1_pressIn_17 : decode cX1_pressIn 17 = .ok (.iconst 4, 1) := by decide +kernel
theorem dX1_pressIn_18 : decode cX1_pressIn 18 = .ok (.idiv, 1) := by decide +kernel
theorem dX1_pressIn_19 : decode cX1_pressIn 19 = .ok (.invokestatic 82, 3) := by decide +kernel
theorem dX1_pressIn_22 : decode cX1_pressIn 22 = .ok (.istore_n 2, 1) := by decide +kernel
theorem dX1_pressIn_23 : decode cX1_pressIn 23 = .ok (.iconst 0, 1) := by decide +kernel
theorem dX1_pressIn_24 : decode cX1_pressIn 24 = .ok (.aload_n 1, 1) := by decide +kernel
theorem dX1_pressIn_25 : decode cX1_pressIn 25 = .ok (.getfield 100, 3) := by decide +kernel
theorem dX1_pressIn_28 : decode cX1_pressIn 28 = .ok (.iload_n 2, 1) := by decide +kernel
theorem dX1_pressIn_29 : decode cX1_pressIn 29 = .ok (.iadd, 1) := by decide +kernel
theorem dX1_pressIn_30 : decode cX1_pressIn 30 = .ok (.aload_n 0, 1) := by decide +kernel
theorem dX1_pressIn_31 : decode cX1_pressIn 31 = .ok (.getfield 43, 3) := by decide +kernel
theorem dX1_pressIn_34 : decode cX1_pressIn 34 = .ok (.iconst 2, 1) := by decide +kernel
theorem dX1_pressIn_35 : decode cX1_pressIn 35 = .ok (.idiv, 1) := by decide +kernel
theorem dX1_pressIn_36 : decode cX1_pressIn 36 = .ok (.iadd, 1) := by decide +kernel
theorem dX1_pressIn_37 : decode cX1_pressIn 37 = .ok (.iconst 5, 1) := by decide +kernel
theorem dX1_pressIn_38 : decode cX1_pressIn 38 = .ok (.aload_n 0, 1) := by decide +kernel
theorem dX1_pressIn_39 : decode cX1_pressIn 39 = .ok (.getfield 28, 3) := by decide +kernel
theorem dX1_pressIn_42 : decode cX1_pressIn 42 = .ok (.imul, 1) := by decide +kernel
theorem dX1_pressIn_43 : decode cX1_pressIn 43 = .ok (.isub, 1) := by decide +kernel
theorem dX1_pressIn_44 : decode cX1_pressIn 44 = .ok (.invokestatic 82, 3) := by decide +kernel
theorem dX1_pressIn_47 : decode cX1_pressIn 47 = .ok (.ireturn, 1) := by decide +kernel
theorem dX1_pullRound_0 : decode cX1_pullRound 0 = .ok (.iload_n 0, 1) := by decide +kernel
theorem dX1_pullRound_1 : decode cX1_pullRound 1 = .ok (.aload_n 1, 1) := by decide +kernel
theorem dX1_pullRound_2 : decode cX1_pullRound 2 = .ok (.getfield 103, 3) := by decide +kernel
theorem dX1_pullRound_5 : decode cX1_pullRound 5 = .ok (.if_icmp .ne 10, 3) := by decide +kernel
theorem dX1_pullRound_8 : decode cX1_pullRound 8 = .ok (.aload_n 1, 1) := by decide +kernel
theorem dX1_pullRound_9 : decode cX1_pullRound 9 = .ok (.getfield 106, 3) := by decide +kernel
theorem dX1_pullRound_12 : decode cX1_pullRound 12 = .ok (.goto 4, 3) := by decide +kernel
theorem dX1_pullRound_15 : decode cX1_pullRound 15 = .ok (.iconst 0, 1) := by decide +kernel
theorem dX1_pullRound_16 : decode cX1_pullRound 16 = .ok (.istore_n 3, 1) := by decide +kernel
theorem dX1_pullRound_17 : decode cX1_pullRound 17 = .ok (.iload_n 2, 1) := by decide +kernel
theorem dX1_pullRound_18 : decode cX1_pullRound 18 = .ok (.aload_n 1, 1) := by decide +kernel
theorem dX1_pullRound_19 : decode cX1_pullRound 19 = .ok (.getfield 77, 3) := by decide +kernel
theorem dX1_pullRound_22 : decode cX1_pullRound 22 = .ok (.imul, 1) := by decide +kernel
theorem dX1_pullRound_23 : decode cX1_pullRound 23 = .ok (.iload_n 3, 1) := by decide +kernel
theorem dX1_pullRound_24 : decode cX1_pullRound 24 = .ok (.iadd, 1) := by decide +kernel
theorem dX1_pullRound_25 : decode cX1_pullRound 25 = .ok (.ireturn, 1) := by decide +kernel
theorem dX1_pullAlong_0 : decode cX1_pullAlong 0 = .ok (.iload_n 1, 1) := by decide +kernel
theorem dX1_pullAlong_1 : decode cX1_pullAlong 1 = .ok (.aload_n 0, 1) := by decide +kernel
theorem dX1_pullAlong_2 : decode cX1_pullAlong 2 = .ok (.getfield 77, 3) := by decide +kernel
theorem dX1_pullAlong_5 : decode cX1_pullAlong 5 = .ok (.imul, 1) := by decide +kernel
theorem dX1_pullAlong_6 : decode cX1_pullAlong 6 = .ok (.iconst 2, 1) := by decide +kernel
theorem dX1_pullAlong_7 : decode cX1_pullAlong 7 = .ok (.idiv, 1) := by decide +kernel
theorem dX1_pullAlong_8 : decode cX1_pullAlong 8 = .ok (.ireturn, 1) := by decide +kernel
theorem dX1_strengthAt_0 : decode cX1_strengthAt 0 = .ok (.iload_n 1, 1) := by decide +kernel
theorem dX1_strengthAt_1 : decode cX1_strengthAt 1 = .ok (.ifCond .lt 27, 3) := by decide +kernel
theorem dX1_strengthAt_4 : decode cX1_strengthAt 4 = .ok (.iload_n 1, 1) := by decide +kernel
theorem dX1_strengthAt_5 : decode cX1_strengthAt 5 = .ok (.iconst 4, 1) := by decide +kernel
theorem dX1_strengthAt_6 : decode cX1_strengthAt 6 = .ok (.if_icmp .ge 22, 3) := by decide +kernel
theorem dX1_strengthAt_9 : decode cX1_strengthAt 9 = .ok (.iconst 0, 1) := by decide +kernel
theorem dX1_strengthAt_10 : decode cX1_strengthAt 10 = .ok (.aload_n 0, 1) := by decide +kernel
theorem dX1_strengthAt_11 : decode cX1_strengthAt 11 = .ok (.getfield 9, 3) := by decide +kernel
theorem dX1_strengthAt_14 : decode cX1_strengthAt 14 = .ok (.iload_n 1, 1) := by decide +kernel
theorem dX1_strengthAt_15 : decode cX1_strengthAt 15 = .ok (.iaload, 1) := by decide +kernel
theorem dX1_strengthAt_16 : decode cX1_strengthAt 16 = .ok (.sipush 150, 3) := by decide +kernel
theorem dX1_strengthAt_19 : decode cX1_strengthAt 19 = .ok (.isub, 1) := by decide +kernel
theorem dX1_strengthAt_20 : decode cX1_strengthAt 20 = .ok (.iconst 2, 1) := by decide +kernel
theorem dX1_strengthAt_21 : decode cX1_strengthAt 21 = .ok (.idiv, 1) := by decide +kernel
theorem dX1_strengthAt_22 : decode cX1_strengthAt 22 = .ok (.invokestatic 82, 3) := by decide +kernel
theorem dX1_strengthAt_25 : decode cX1_strengthAt 25 = .ok (.goto 4, 3) := by decide +kernel
theorem dX1_strengthAt_28 : decode cX1_strengthAt 28 = .ok (.iconst 0, 1) := by decide +kernel
theorem dX1_strengthAt_29 : decode cX1_strengthAt 29 = .ok (.istore_n 3, 1) := by decide +kernel
theorem dX1_strengthAt_30 : decode cX1_strengthAt 30 = .ok (.aload_n 0, 1) := by decide +kernel
theorem dX1_strengthAt_31 : decode cX1_strengthAt 31 = .ok (.getfield 31, 3) := by decide +kernel
theorem dX1_strengthAt_34 : decode cX1_strengthAt 34 = .ok (.iload_n 1, 1) := by decide +kernel
theorem dX1_strengthAt_35 : decode cX1_strengthAt 35 = .ok (.ishr, 1) := by decide +kernel
theorem dX1_strengthAt_36 : decode cX1_strengthAt 36 = .ok (.iconst 1, 1) := by decide +kernel
theorem dX1_strengthAt_37 : decode cX1_strengthAt 37 = .ok (.iand, 1) := by decide +kernel
theorem dX1_strengthAt_38 : decode cX1_strengthAt 38 = .ok (.iconst 1, 1) := by decide +kernel
theorem dX1_strengthAt_39 : decode cX1_strengthAt 39 = .ok (.if_icmp .ne 10, 3) := by decide +kernel
theorem dX1_strengthAt_42 : decode cX1_strengthAt 42 = .ok (.aload_n 2, 1) := by decide +kernel
theorem dX1_strengthAt_43 : decode cX1_strengthAt 43 = .ok (.getfield 109, 3) := by decide +kernel
theorem dX1_strengthAt_46 : decode cX1_strengthAt 46 = .ok (.goto 4, 3) := by decide +kernel
theorem dX1_strengthAt_49 : decode cX1_strengthAt 49 = .ok (.iconst 0, 1) := by decide +kernel
theorem dX1_strengthAt_50 : decode cX1_strengthAt 50 = .ok (.istore 4, 2) := by decide +kernel
theorem dX1_strengthAt_52 : decode cX1_strengthAt 52 = .ok (.iconst 1, 1) := by decide +kernel
theorem dX1_strengthAt_53 : decode cX1_strengthAt 53 = .ok (.aload_n 2, 1) := by decide +kernel
theorem dX1_strengthAt_54 : decode cX1_strengthAt 54 = .ok (.getfield 112, 3) := by decide +kernel
theorem dX1_strengthAt_57 : decode cX1_strengthAt 57 = .ok (.iload_n 3, 1) := by decide +kernel
theorem dX1_strengthAt_58 : decode cX1_strengthAt 58 = .ok (.isub, 1) := by decide +kernel
theorem dX1_strengthAt_59 : decode cX1_strengthAt 59 = .ok (.iload 4, 2) := by decide +kernel
theorem dX1_strengthAt_61 : decode cX1_strengthAt 61 = .ok (.isub, 1) := by decide +kernel
theorem dX1_strengthAt_62 : decode cX1_strengthAt 62 = .ok (.invokestatic 82, 3) := by decide +kernel
theorem dX1_strengthAt_65 : decode cX1_strengthAt 65 = .ok (.ireturn, 1) := by decide +kernel
theorem dX1_leastBrown_0 : decode cX1_leastBrown 0 = .ok (.aload_n 0, 1) := by decide +kernel
theorem dX1_leastBrown_1 : decode cX1_leastBrown 1 = .ok (.getfield 15, 3) := by decide +kernel
theorem dX1_leastBrown_4 : decode cX1_leastBrown 4 = .ok (.iconst 0, 1) := by decide +kernel
theorem dX1_leastBrown_5 : decode cX1_leastBrown 5 = .ok (.iaload, 1) := by decide +kernel
theorem dX1_leastBrown_6 : decode cX1_leastBrown 6 = .ok (.aload_n 0, 1) := by decide +kernel
theorem dX1_leastBrown_7 : decode cX1_leastBrown 7 = .ok (.getfield 15, 3) := by decide +kernel
theorem dX1_leastBrown_10 : decode cX1_leastBrown 10 = .ok (.iconst 1, 1) := by decide +kernel
theorem dX1_leastBrown_11 : decode cX1_leastBrown 11 = .ok (.iaload, 1) := by decide +kernel
theorem dX1_leastBrown_12 : decode cX1_leastBrown 12 = .ok (.invokestatic 46, 3) := by decide +kernel
theorem dX1_leastBrown_15 : decode cX1_leastBrown 15 = .ok (.aload_n 0, 1) := by decide +kernel
theorem dX1_leastBrown_16 : decode cX1_leastBrown 16 = .ok (.getfield 15, 3) := by decide +kernel
theorem dX1_leastBrown_19 : decode cX1_leastBrown 19 = .ok (.iconst 2, 1) := by decide +kernel
theorem dX1_leastBrown_20 : decode cX1_leastBrown 20 = .ok (.iaload, 1) := by decide +kernel
theorem dX1_leastBrown_21 : decode cX1_leastBrown 21 = .ok (.aload_n 0, 1) := by decide +kernel
theorem dX1_leastBrown_22 : decode cX1_leastBrown 22 = .ok (.getfield 15, 3) := by decide +kernel
theorem dX1_leastBrown_25 : decode cX1_leastBrown 25 = .ok (.iconst 3, 1) := by decide +kernel
theorem dX1_leastBrown_26 : decode cX1_leastBrown 26 = .ok (.iaload, 1) := by decide +kernel
theorem dX1_leastBrown_27 : decode cX1_leastBrown 27 = .ok (.invokestatic 46, 3) := by decide +kernel
theorem dX1_leastBrown_30 : decode cX1_leastBrown 30 = .ok (.invokestatic 46, 3) := by decide +kernel
theorem dX1_leastBrown_33 : decode cX1_leastBrown 33 = .ok (.ireturn, 1) := by decide +kernel
theorem dX1_greatestBrown_0 : decode cX1_greatestBrown 0 = .ok (.aload_n 0, 1) := by decide +kernel
theorem dX1_greatestBrown_1 : decode cX1_greatestBrown 1 = .ok (.getfield 15, 3) := by decide +kernel
theorem dX1_greatestBrown_4 : decode cX1_greatestBrown 4 = .ok (.iconst 0, 1) := by decide +kernel
theorem dX1_greatestBrown_5 : decode cX1_greatestBrown 5 = .ok (.iaload, 1) := by decide +kernel
theorem dX1_greatestBrown_6 : decode cX1_greatestBrown 6 = .ok (.aload_n 0, 1) := by decide +kernel
theorem dX1_greatestBrown_7 : decode cX1_greatestBrown 7 = .ok (.getfield 15, 3) := by decide +kernel
theorem dX1_greatestBrown_10 : decode cX1_greatestBrown 10 = .ok (.iconst 1, 1) := by decide +kernel
theorem dX1_greatestBrown_11 : decode cX1_greatestBrown 11 = .ok (.iaload, 1) := by decide +kernel
theorem dX1_greatestBrown_12 : decode cX1_greatestBrown 12 = .ok (.invokestatic 82, 3) := by decide +kernel
theorem dX1_greatestBrown_15 : decode cX1_greatestBrown 15 = .ok (.aload_n 0, 1) := by decide +kernel
theorem dX1_greatestBrown_16 : decode cX1_greatestBrown 16 = .ok (.getfield 15, 3) := by decide +kernel
theorem dX1_greatestBrown_19 : decode cX1_greatestBrown 19 = .ok (.iconst 2, 1) := by decide +kernel
theorem dX1_greatestBrown_20 : decode cX1_greatestBrown 20 = .ok (.iaload, 1) := by decide +kernel
theorem dX1_greatestBrown_21 : decode cX1_greatestBrown 21 = .ok (.aload_n 0, 1) := by decide +kernel
theorem dX1_greatestBrown_22 : decode cX1_greatestBrown 22 = .ok (.getfield 15, 3) := by decide +kernel
theorem dX1_greatestBrown_25 : decode cX1_greatestBrown 25 = .ok (.iconst 3, 1) := by decide +kernel
theorem dX1_greatestBrown_26 : decode cX1_greatestBrown 26 = .ok (.iaload, 1) := by decide +kernel
theorem dX1_greatestBrown_27 : decode cX1_greatestBrown 27 = .ok (.invokestatic 82, 3) := by decide +kernel
theorem dX1_greatestBrown_30 : decode cX1_greatestBrown 30 = .ok (.invokestatic 82, 3) := by decide +kernel
theorem dX1_greatestBrown_33 : decode cX1_greatestBrown 33 = .ok (.ireturn, 1) := by decide +kernel
theorem dX2_init_0 : decode cX2_init 0 = .ok (.aload_n 0, 1) := by decide +kernel
theorem dX2_init_1 : decode cX2_init 1 = .ok (.invokespecial 3, 3) := by decide +kernel
theorem dX2_init_4 : decode cX2_init 4 = .ok (.aload_n 0, 1) := by decide +kernel
theorem dX2_init_5 : decode cX2_init 5 = .ok (.sipush 300, 3) := by decide +kernel
theorem dX2_init_8 : decode cX2_init 8 = .ok (.newarray .int, 2) := by decide +kernel
theorem dX2_init_10 : decode cX2_init 10 = .ok (.putfield 9, 3) := by decide +kernel
theorem dX2_init_13 : decode cX2_init 13 = .ok (.aload_n 0, 1) := by decide +kernel
theorem dX2_init_14 : decode cX2_init 14 = .ok (.bipush 7, 2) := by decide +kernel
theorem dX2_init_16 : decode cX2_init 16 = .ok (.newarray .int, 2) := by decide +kernel
theorem dX2_init_18 : decode cX2_init 18 = .ok (.putfield 15, 3) := by decide +kernel
theorem dX2_init_21 : decode cX2_init 21 = .ok (.return_, 1) := by decide +kernel
theorem dX2_append_0 : decode cX2_append 0 = .ok (.aload_n 0, 1) := by decide +kernel
theorem dX2_append_1 : decode cX2_append 1 = .ok (.getfield 18, 3) := by decide +kernel
theorem dX2_append_4 : decode cX2_append 4 = .ok (.ifCond .lt 33, 3) := by decide +kernel
theorem dX2_append_7 : decode cX2_append 7 = .ok (.aload_n 0, 1) := by decide +kernel
theorem dX2_append_8 : decode cX2_append 8 = .ok (.getfield 18, 3) := by decide +kernel
theorem dX2_append_11 : decode cX2_append 11 = .ok (.sipush 300, 3) := by decide +kernel
theorem dX2_append_14 : decode cX2_append 14 = .ok (.if_icmp .ge 23, 3) := by decide +kernel
theorem dX2_append_17 : decode cX2_append 17 = .ok (.aload_n 0, 1) := by decide +kernel
theorem dX2_append_18 : decode cX2_append 18 = .ok (.getfield 9, 3) := by decide +kernel
theorem dX2_append_21 : decode cX2_append 21 = .ok (.aload_n 0, 1) := by decide +kernel
theorem dX2_append_22 : decode cX2_append 22 = .ok (.getfield 18, 3) := by decide +kernel
theorem dX2_append_25 : decode cX2_append 25 = .ok (.iload_n 1, 1) := by decide +kernel
theorem dX2_append_26 : decode cX2_append 26 = .ok (.iastore, 1) := by decide +kernel
theorem dX2_append_27 : decode cX2_append 27 = .ok (.aload_n 0, 1) := by decide +kernel
theorem dX2_append_28 : decode cX2_append 28 = .ok (.dup, 1) := by decide +kernel
theorem dX2_append_29 : decode cX2_append 29 = .ok (.getfield 18, 3) := by decide +kernel
theorem dX2_append_32 : decode cX2_append 32 = .ok (.iconst 1, 1) := by decide +kernel
theorem dX2_append_33 : decode cX2_append 33 = .ok (.iadd, 1) := by decide +kernel
theorem dX2_append_34 : decode cX2_append 34 = .ok (.putfield 18, 3) := by decide +kernel
theorem dX2_append_37 : decode cX2_append 37 = .ok (.return_, 1) := by decide +kernel
theorem dX2_readAll_0 : decode cX2_readAll 0 = .ok (.aload_n 1, 1) := by decide +kernel
theorem dX2_readAll_1 : decode cX2_readAll 1 = .ok (.invokevirtual 22, 3) := by decide +kernel
theorem dX2_readAll_4 : decode cX2_readAll 4 = .ok (.aload_n 0, 1) := by decide +kernel
theorem dX2_readAll_5 : decode cX2_readAll 5 = .ok (.iconst 0, 1) := by decide +kernel
theorem dX2_readAll_6 : decode cX2_readAll 6 = .ok (.putfield 27, 3) := by decide +kernel
theorem dX2_readAll_9 : decode cX2_readAll 9 = .ok (.aload_n 0, 1) := by decide +kernel
theorem dX2_readAll_10 : decode cX2_readAll 10 = .ok (.iconst 0, 1) := by decide +kernel
theorem dX2_readAll_11 : decode cX2_readAll 11 = .ok (.putfield 30, 3) := by decide +kernel
theorem dX2_readAll_14 : decode cX2_readAll 14 = .ok (.aload_n 0, 1) := by decide +kernel
theorem dX2_readAll_15 : decode cX2_readAll 15 = .ok (.iconst 0, 1) := by decide +kernel
theorem dX2_readAll_16 : decode cX2_readAll 16 = .ok (.putfield 34, 3) := by decide +kernel
theorem dX2_readAll_19 : decode cX2_readAll 19 = .ok (.iconst 0, 1) := by decide +kernel
theorem dX2_readAll_20 : decode cX2_readAll 20 = .ok (.istore_n 2, 1) := by decide +kernel
theorem dX2_readAll_21 : decode cX2_readAll 21 = .ok (.iload_n 2, 1) := by decide +kernel
theorem dX2_readAll_22 : decode cX2_readAll 22 = .ok (.sipush 300, 3) := by decide +kernel
theorem dX2_readAll_25 : decode cX2_readAll 25 = .ok (.if_icmp .gt 33, 3) := by decide +kernel
theorem dX2_readAll_28 : decode cX2_readAll 28 = .ok (.aload_n 0, 1) := by decide +kernel
theorem dX2_readAll_29 : decode cX2_readAll 29 = .ok (.invokevirtual 37, 3) := by decide +kernel
theorem dX2_readAll_32 : decode cX2_readAll 32 = .ok (.aload_n 0, 1) := by decide +kernel
theorem dX2_readAll_33 : decode cX2_readAll 33 = .ok (.getfield 40, 3) := by decide +kernel
theorem dX2_readAll_36 : decode cX2_readAll 36 = .ok (.ifCond .ne 5, 3) := by decide +kernel
theorem dX2_readAll_39 : decode cX2_readAll 39 = .ok (.iload_n 2, 1) := by decide +kernel
theorem dX2_readAll_40 : decode cX2_readAll 40 = .ok (.ireturn, 1) := by decide +kernel
theorem dX2_readAll_41 : decode cX2_readAll 41 = .ok (.aload_n 0, 1) := by decide +kernel
theorem dX2_readAll_42 : decode cX2_readAll 42 = .ok (.aload_n 1, 1) := by decide +kernel
theorem dX2_readAll_43 : decode cX2_readAll 43 = .ok (.invokevirtual 43, 3) := by decide +kernel
theorem dX2_readAll_46 : decode cX2_readAll 46 = .ok (.ifCond .ne 6, 3) := by decide +kernel
theorem dX2_readAll_49 : decode cX2_readAll 49 = .ok (.goto 9, 3) := by decide +kernel
theorem dX2_readAll_52 : decode cX2_readAll 52 = .ok (.iinc 2 1, 3) := by decide +kernel
theorem dX2_readAll_55 : decode cX2_readAll 55 = .ok (.goto (-34), 3) := by decide +kernel
theorem dX2_readAll_58 : decode cX2_readAll 58 = .ok (.bipush (-10), 2) := by decide +kernel
theorem dX2_readAll_60 : decode cX2_readAll 60 = .ok (.aload_n 0, 1) := by decide +kernel
theorem dX2_readAll_61 : decode cX2_readAll 61 = .ok (.getfield 47, 3) := by decide +kernel
theorem dX2_readAll_64 : decode cX2_readAll 64 = .ok (.isub, 1) := by decide +kernel
theorem dX2_readAll_65 : decode cX2_readAll 65 = .ok (.ireturn, 1) := by decide +kernel
theorem dX2_readItem_0 : decode cX2_readItem 0 = .ok (.aload_n 0, 1) := by decide +kernel
theorem dX2_readItem_1 : decode cX2_readItem 1 = .ok (.getfield 40, 3) := by decide +kernel
theorem dX2_readItem_4 : decode cX2_readItem 4 = .ok (.iconst 3, 1) := by decide +kernel
theorem dX2_readItem_5 : decode cX2_readItem 5 = .ok (.if_icmp .ne 27, 3) := by decide +kernel
theorem dX2_readItem_8 : decode cX2_readItem 8 = .ok (.aload_n 0, 1) := by decide +kernel
theorem dX2_readItem_9 : decode cX2_readItem 9 = .ok (.getfield 50, 3) := by decide +kernel
theorem dX2_readItem_12 : decode cX2_readItem 12 = .ok (.iconst 0, 1) := by decide +kernel
theorem dX2_readItem_13 : decode cX2_readItem 13 = .ok (.iconst 5, 1) := by decide +kernel
theorem dX2_readItem_14 : decode cX2_readItem 14 = .ok (.invokestatic 53, 3) := by decide +kernel
theorem dX2_readItem_17 : decode cX2_readItem 17 = .ok (.ifCond .ne 15, 3) := by decide +kernel
theorem dX2_readItem_20 : decode cX2_readItem 20 = .ok (.aload_n 0, 1) := by decide +kernel
theorem dX2_readItem_21 : decode cX2_readItem 21 = .ok (.aload_n 0, 1) := by decide +kernel
theorem dX2_readItem_22 : decode cX2_readItem 22 = .ok (.getfield 50, 3) := by decide +kernel
theorem dX2_readItem_25 : decode cX2_readItem 25 = .ok (.aload_n 1, 1) := by decide +kernel
theorem dX2_readItem_26 : decode cX2_readItem 26 = .ok (.invokevirtual 57, 3) := by decide +kernel
theorem dX2_readItem_29 : decode cX2_readItem 29 = .ok (.ifCond .ne 5, 3) := by decide +kernel
theorem dX2_readItem_32 : decode cX2_readItem 32 = .ok (.iconst 0, 1) := by decide +kernel
theorem dX2_readItem_33 : decode cX2_readItem 33 = .ok (.ireturn, 1) := by decide +kernel
