theorem dX5_turn_2 : decode cX5_turn 2 = .ok (.lconst 1, 1) := by decide +kernel
theorem dX5_turn_3 : decode cX5_turn 3 = .ok (.ldc2_w 172, 3) := by decide +kernel
theorem dX5_turn_6 : decode cX5_turn 6 = .ok (.invokestatic 58, 3) := by decide +kernel
theorem dX5_turn_9 : decode cX5_turn 9 = .ok (.ifCond .ne 5, 3) := by decide +kernel
theorem dX5_turn_12 : decode cX5_turn 12 = .ok (.iconst (-1), 1) := by decide +kernel
theorem dX5_turn_13 : decode cX5_turn 13 = .ok (.ireturn, 1) := by decide +kernel
theorem dX5_turn_14 : decode cX5_turn 14 = .ok (.aload_n 0, 1) := by decide +kernel
theorem dX5_turn_15 : decode cX5_turn 15 = .ok (.iconst 0, 1) := by decide +kernel
theorem dX5_turn_16 : decode cX5_turn 16 = .ok (.iload_n 1, 1) := by decide +kernel
theorem dX5_turn_17 : decode cX5_turn 17 = .ok (.invokevirtual 174, 3) := by decide +kernel
theorem dX5_turn_20 : decode cX5_turn 20 = .ok (.aload_n 0, 1) := by decide +kernel
theorem dX5_turn_21 : decode cX5_turn 21 = .ok (.getfield 23, 3) := by decide +kernel
theorem dX5_turn_24 : decode cX5_turn 24 = .ok (.bipush 16, 2) := by decide +kernel
theorem dX5_turn_26 : decode cX5_turn 26 = .ok (.iaload, 1) := by decide +kernel
theorem dX5_turn_27 : decode cX5_turn 27 = .ok (.ireturn, 1) := by decide +kernel
theorem dX5_pricked_0 : decode cX5_pricked 0 = .ok (.aload_n 0, 1) := by decide +kernel
theorem dX5_pricked_1 : decode cX5_pricked 1 = .ok (.getfield 23, 3) := by decide +kernel
theorem dX5_pricked_4 : decode cX5_pricked 4 = .ok (.bipush 20, 2) := by decide +kernel
theorem dX5_pricked_6 : decode cX5_pricked 6 = .ok (.iload_n 1, 1) := by decide +kernel
theorem dX5_pricked_7 : decode cX5_pricked 7 = .ok (.imul, 1) := by decide +kernel
theorem dX5_pricked_8 : decode cX5_pricked 8 = .ok (.bipush 10, 2) := by decide +kernel
theorem dX5_pricked_10 : decode cX5_pricked 10 = .ok (.iadd, 1) := by decide +kernel
theorem dX5_pricked_11 : decode cX5_pricked 11 = .ok (.iaload, 1) := by decide +kernel
theorem dX5_pricked_12 : decode cX5_pricked 12 = .ok (.iload_n 2, 1) := by decide +kernel
theorem dX5_pricked_13 : decode cX5_pricked 13 = .ok (.iadd, 1) := by decide +kernel
theorem dX5_pricked_14 : decode cX5_pricked 14 = .ok (.istore_n 3, 1) := by decide +kernel
theorem dX5_pricked_15 : decode cX5_pricked 15 = .ok (.aload_n 0, 1) := by decide +kernel
theorem dX5_pricked_16 : decode cX5_pricked 16 = .ok (.getfield 23, 3) := by decide +kernel
theorem dX5_pricked_19 : decode cX5_pricked 19 = .ok (.bipush 20, 2) := by decide +kernel
theorem dX5_pricked_21 : decode cX5_pricked 21 = .ok (.iload_n 1, 1) := by decide +kernel
theorem dX5_pricked_22 : decode cX5_pricked 22 = .ok (.imul, 1) := by decide +kernel
theorem dX5_pricked_23 : decode cX5_pricked 23 = .ok (.bipush 10, 2) := by decide +kernel
theorem dX5_pricked_25 : decode cX5_pricked 25 = .ok (.iadd, 1) := by decide +kernel
theorem dX5_pricked_26 : decode cX5_pricked 26 = .ok (.iload_n 3, 1) := by decide +kernel
theorem dX5_pricked_27 : decode cX5_pricked 27 = .ok (.bipush 99, 2) := by decide +kernel
theorem dX5_pricked_29 : decode cX5_pricked 29 = .ok (.if_icmp .le 8, 3) := by decide +kernel
theorem dX5_pricked_32 : decode cX5_pricked 32 = .ok (.bipush 99, 2) := by decide +kernel
theorem dX5_pricked_34 : decode cX5_pricked 34 = .ok (.goto 4, 3) := by decide +kernel
theorem dX5_pricked_37 : decode cX5_pricked 37 = .ok (.iload_n 3, 1) := by decide +kernel
theorem dX5_pricked_38 : decode cX5_pricked 38 = .ok (.iastore, 1) := by decide +kernel
theorem dX5_pricked_39 : decode cX5_pricked 39 = .ok (.return_, 1) := by decide +kernel
theorem dX5_prick_0 : decode cX5_prick 0 = .ok (.iload_n 1, 1) := by decide +kernel
theorem dX5_prick_1 : decode cX5_prick 1 = .ok (.i2l, 1) := by decide +kernel
theorem dX5_prick_2 : decode cX5_prick 2 = .ok (.lconst 1, 1) := by decide +kernel
theorem dX5_prick_3 : decode cX5_prick 3 = .ok (.ldc2_w 178, 3) := by decide +kernel
theorem dX5_prick_6 : decode cX5_prick 6 = .ok (.invokestatic 58, 3) := by decide +kernel
theorem dX5_prick_9 : decode cX5_prick 9 = .ok (.ifCond .ne 5, 3) := by decide +kernel
theorem dX5_prick_12 : decode cX5_prick 12 = .ok (.iconst (-1), 1) := by decide +kernel
theorem dX5_prick_13 : decode cX5_prick 13 = .ok (.ireturn, 1) := by decide +kernel
theorem dX5_prick_14 : decode cX5_prick 14 = .ok (.aload_n 0, 1) := by decide +kernel
theorem dX5_prick_15 : decode cX5_prick 15 = .ok (.iconst 0, 1) := by decide +kernel
theorem dX5_prick_16 : decode cX5_prick 16 = .ok (.iload_n 1, 1) := by decide +kernel
theorem dX5_prick_17 : decode cX5_prick 17 = .ok (.invokevirtual 180, 3) := by decide +kernel
theorem dX5_prick_20 : decode cX5_prick 20 = .ok (.aload_n 0, 1) := by decide +kernel
theorem dX5_prick_21 : decode cX5_prick 21 = .ok (.getfield 23, 3) := by decide +kernel
theorem dX5_prick_24 : decode cX5_prick 24 = .ok (.bipush 10, 2) := by decide +kernel
theorem dX5_prick_26 : decode cX5_prick 26 = .ok (.iaload, 1) := by decide +kernel
theorem dX5_prick_27 : decode cX5_prick 27 = .ok (.ireturn, 1) := by decide +kernel
theorem dX5_spots_0 : decode cX5_spots 0 = .ok (.iload_n 1, 1) := by decide +kernel
theorem dX5_spots_1 : decode cX5_spots 1 = .ok (.i2l, 1) := by decide +kernel
theorem dX5_spots_2 : decode cX5_spots 2 = .ok (.lconst 0, 1) := by decide +kernel
theorem dX5_spots_3 : decode cX5_spots 3 = .ok (.ldc2_w 183, 3) := by decide +kernel
theorem dX5_spots_6 : decode cX5_spots 6 = .ok (.invokestatic 58, 3) := by decide +kernel
theorem dX5_spots_9 : decode cX5_spots 9 = .ok (.ifCond .ne 5, 3) := by decide +kernel
theorem dX5_spots_12 : decode cX5_spots 12 = .ok (.iconst (-1), 1) := by decide +kernel
theorem dX5_spots_13 : decode cX5_spots 13 = .ok (.ireturn, 1) := by decide +kernel
theorem dX5_spots_14 : decode cX5_spots 14 = .ok (.aload_n 0, 1) := by decide +kernel
theorem dX5_spots_15 : decode cX5_spots 15 = .ok (.getfield 23, 3) := by decide +kernel
theorem dX5_spots_18 : decode cX5_spots 18 = .ok (.bipush 11, 2) := by decide +kernel
theorem dX5_spots_20 : decode cX5_spots 20 = .ok (.iaload, 1) := by decide +kernel
theorem dX5_spots_21 : decode cX5_spots 21 = .ok (.istore_n 2, 1) := by decide +kernel
theorem dX5_spots_22 : decode cX5_spots 22 = .ok (.aload_n 0, 1) := by decide +kernel
theorem dX5_spots_23 : decode cX5_spots 23 = .ok (.getfield 23, 3) := by decide +kernel
theorem dX5_spots_26 : decode cX5_spots 26 = .ok (.bipush 11, 2) := by decide +kernel
theorem dX5_spots_28 : decode cX5_spots 28 = .ok (.iload_n 1, 1) := by decide +kernel
theorem dX5_spots_29 : decode cX5_spots 29 = .ok (.iastore, 1) := by decide +kernel
theorem dX5_spots_30 : decode cX5_spots 30 = .ok (.iload_n 2, 1) := by decide +kernel
theorem dX5_spots_31 : decode cX5_spots 31 = .ok (.ireturn, 1) := by decide +kernel
theorem dX5_face_0 : decode cX5_face 0 = .ok (.iload_n 1, 1) := by decide +kernel
theorem dX5_face_1 : decode cX5_face 1 = .ok (.i2l, 1) := by decide +kernel
theorem dX5_face_2 : decode cX5_face 2 = .ok (.lconst 0, 1) := by decide +kernel
theorem dX5_face_3 : decode cX5_face 3 = .ok (.ldc2_w 172, 3) := by decide +kernel
theorem dX5_face_6 : decode cX5_face 6 = .ok (.invokestatic 58, 3) := by decide +kernel
theorem dX5_face_9 : decode cX5_face 9 = .ok (.ifCond .eq 15, 3) := by decide +kernel
theorem dX5_face_12 : decode cX5_face 12 = .ok (.iload_n 2, 1) := by decide +kernel
theorem dX5_face_13 : decode cX5_face 13 = .ok (.i2l, 1) := by decide +kernel
theorem dX5_face_14 : decode cX5_face 14 = .ok (.lconst 0, 1) := by decide +kernel
theorem dX5_face_15 : decode cX5_face 15 = .ok (.ldc2_w 172, 3) := by decide +kernel
theorem dX5_face_18 : decode cX5_face 18 = .ok (.invokestatic 58, 3) := by decide +kernel
theorem dX5_face_21 : decode cX5_face 21 = .ok (.ifCond .ne 5, 3) := by decide +kernel
theorem dX5_face_24 : decode cX5_face 24 = .ok (.iconst (-1), 1) := by decide +kernel
theorem dX5_face_25 : decode cX5_face 25 = .ok (.ireturn, 1) := by decide +kernel
theorem dX5_face_26 : decode cX5_face 26 = .ok (.iload_n 2, 1) := by decide +kernel
theorem dX5_face_27 : decode cX5_face 27 = .ok (.ifCond .ne 12, 3) := by decide +kernel
theorem dX5_face_30 : decode cX5_face 30 = .ok (.aload_n 0, 1) := by decide +kernel
theorem dX5_face_31 : decode cX5_face 31 = .ok (.getfield 23, 3) := by decide +kernel
theorem dX5_face_34 : decode cX5_face 34 = .ok (.iload_n 1, 1) := by decide +kernel
theorem dX5_face_35 : decode cX5_face 35 = .ok (.iaload, 1) := by decide +kernel
theorem dX5_face_36 : decode cX5_face 36 = .ok (.goto 43, 3) := by decide +kernel
theorem dX5_face_39 : decode cX5_face 39 = .ok (.iload_n 2, 1) := by decide +kernel
theorem dX5_face_40 : decode cX5_face 40 = .ok (.iconst 1, 1) := by decide +kernel
theorem dX5_face_41 : decode cX5_face 41 = .ok (.if_icmp .ne 14, 3) := by decide +kernel
theorem dX5_face_44 : decode cX5_face 44 = .ok (.aload_n 0, 1) := by decide +kernel
theorem dX5_face_45 : decode cX5_face 45 = .ok (.getfield 23, 3) := by decide +kernel
theorem dX5_face_48 : decode cX5_face 48 = .ok (.iconst 5, 1) := by decide +kernel
theorem dX5_face_49 : decode cX5_face 49 = .ok (.iload_n 1, 1) := by decide +kernel
theorem dX5_face_50 : decode cX5_face 50 = .ok (.iadd, 1) := by decide +kernel
theorem dX5_face_51 : decode cX5_face 51 = .ok (.iaload, 1) := by decide +kernel
theorem dX5_face_52 : decode cX5_face 52 = .ok (.goto 27, 3) := by decide +kernel
theorem dX5_face_55 : decode cX5_face 55 = .ok (.iload_n 2, 1) := by decide +kernel
theorem dX5_face_56 : decode cX5_face 56 = .ok (.iconst 2, 1) := by decide +kernel
theorem dX5_face_57 : decode cX5_face 57 = .ok (.if_icmp .ne 12, 3) := by decide +kernel
theorem dX5_face_60 : decode cX5_face 60 = .ok (.aload_n 0, 1) := by decide +kernel
theorem dX5_face_61 : decode cX5_face 61 = .ok (.iconst 0, 1) := by decide +kernel
theorem dX5_face_62 : decode cX5_face 62 = .ok (.iload_n 1, 1) := by decide +kernel
theorem dX5_face_63 : decode cX5_face 63 = .ok (.invokevirtual 157, 3) := by decide +kernel
theorem dX5_face_66 : decode cX5_face 66 = .ok (.goto 13, 3) := by decide +kernel
theorem dX5_face_69 : decode cX5_face 69 = .ok (.aload_n 0, 1) := by decide +kernel
theorem dX5_face_70 : decode cX5_face 70 = .ok (.aload_n 0, 1) := by decide +kernel
theorem dX5_face_71 : decode cX5_face 71 = .ok (.iconst 0, 1) := by decide +kernel
theorem dX5_face_72 : decode cX5_face 72 = .ok (.invokevirtual 150, 3) := by decide +kernel
theorem dX5_face_75 : decode cX5_face 75 = .ok (.iload_n 1, 1) := by decide +kernel
theorem dX5_face_76 : decode cX5_face 76 = .ok (.invokevirtual 153, 3) := by decide +kernel
theorem dX5_face_79 : decode cX5_face 79 = .ok (.ireturn, 1) := by decide +kernel
theorem dX5_now_0 : decode cX5_now 0 = .ok (.iload_n 1, 1) := by decide +kernel
theorem dX5_now_1 : decode cX5_now 1 = .ok (.tableswitch 139 0 9 #[55, 63, 70, 78, 86, 94, 102, 110, 116, 131], 55) := by decide +kernel
theorem dX5_now_56 : decode cX5_now 56 = .ok (.aload_n 0, 1) := by decide +kernel
theorem dX5_now_57 : decode cX5_now 57 = .ok (.getfield 23, 3) := by decide +kernel
theorem dX5_now_60 : decode cX5_now 60 = .ok (.bipush 16, 2) := by decide +kernel
theorem dX5_now_62 : decode cX5_now 62 = .ok (.iaload, 1) := by decide +kernel
theorem dX5_now_63 : decode cX5_now 63 = .ok (.ireturn, 1) := by decide +kernel
theorem dX5_now_64 : decode cX5_now 64 = .ok (.aload_n 0, 1) := by decide +kernel
theorem dX5_now_65 : decode cX5_now 65 = .ok (.getfield 23, 3) := by decide +kernel
theorem dX5_now_68 : decode cX5_now 68 = .ok (.iconst 4, 1) := by decide +kernel
theorem dX5_now_69 : decode cX5_now 69 = .ok (.iaload, 1) := by decide +kernel
theorem dX5_now_70 : decode cX5_now 70 = .ok (.ireturn, 1) := by decide +kernel
theorem dX5_now_71 : decode cX5_now 71 = .ok (.aload_n 0, 1) := by decide +kernel
theorem dX5_now_72 : decode cX5_now 72 = .ok (.getfield 23, 3) := by decide +kernel
theorem dX5_now_75 : decode cX5_now 75 = .ok (.bipush 9, 2) := by decide +kernel
theorem dX5_now_77 : decode cX5_now 77 = .ok (.iaload, 1) := by decide +kernel
theorem dX5_now_78 : decode cX5_now 78 = .ok (.ireturn, 1) := by decide +kernel
theorem dX5_now_79 : decode cX5_now 79 = .ok (.aload_n 0, 1) := by decide +kernel
theorem dX5_now_80 : decode cX5_now 80 = .ok (.getfield 23, 3) := by decide +kernel
theorem dX5_now_83 : decode cX5_now 83 = .ok (.bipush 10, 2) := by decide +kernel
theorem dX5_now_85 : decode cX5_now 85 = .ok (.iaload, 1) := by decide +kernel
theorem dX5_now_86 : decode cX5_now 86 = .ok (.ireturn, 1) := by decide +kernel
theorem dX5_now_87 : decode cX5_now 87 = .ok (.aload_n 0, 1) := by decide +kernel
theorem dX5_now_88 : decode cX5_now 88 = .ok (.getfield 23, 3) := by decide +kernel
theorem dX5_now_91 : decode cX5_now 91 = .ok (.bipush 12, 2) := by decide +kernel
theorem dX5_now_93 : decode cX5_now 93 = .ok (.iaload, 1) := by decide +kernel
theorem dX5_now_94 : decode cX5_now 94 = .ok (.ireturn, 1) := by decide +kernel
theorem dX5_now_95 : decode cX5_now 95 = .ok (.aload_n 0, 1) := by decide +kernel
theorem dX5_now_96 : decode cX5_now 96 = .ok (.getfield 23, 3) := by decide +kernel
theorem dX5_now_99 : decode cX5_now 99 = .ok (.bipush 13, 2) := by decide +kernel
theorem dX5_now_101 : decode cX5_now 101 = .ok (.iaload, 1) := by decide +kernel
theorem dX5_now_102 : decode cX5_now 102 = .ok (.ireturn, 1) := by decide +kernel
theorem dX5_now_103 : decode cX5_now 103 = .ok (.aload_n 0, 1) := by decide +kernel
theorem dX5_now_104 : decode cX5_now 104 = .ok (.getfield 23, 3) := by decide +kernel
theorem dX5_now_107 : decode cX5_now 107 = .ok (.bipush 14, 2) := by decide +kernel
theorem dX5_now_109 : decode cX5_now 109 = .ok (.iaload, 1) := by decide +kernel
theorem dX5_now_110 : decode cX5_now 110 = .ok (.ireturn, 1) := by decide +kernel
theorem dX5_now_111 : decode cX5_now 111 = .ok (.aload_n 0, 1) := by decide +kernel
theorem dX5_now_112 : decode cX5_now 112 = .ok (.iconst 0, 1) := by decide +kernel
theorem dX5_now_113 : decode cX5_now 113 = .ok (.invokevirtual 150, 3) := by decide +kernel
theorem dX5_now_116 : decode cX5_now 116 = .ok (.ireturn, 1) := by decide +kernel
theorem dX5_now_117 : decode cX5_now 117 = .ok (.aload_n 0, 1) := by decide +kernel
theorem dX5_now_118 : decode cX5_now 118 = .ok (.iconst 0, 1) := by decide +kernel
theorem dX5_now_119 : decode cX5_now 119 = .ok (.invokevirtual 150, 3) := by decide +kernel
theorem dX5_now_122 : decode cX5_now 122 = .ok (.aload_n 0, 1) := by decide +kernel
theorem dX5_now_123 : decode cX5_now 123 = .ok (.getfield 13, 3) := by decide +kernel
theorem dX5_now_126 : decode cX5_now 126 = .ok (.iconst 0, 1) := by decide +kernel
theorem dX5_now_127 : decode cX5_now 127 = .ok (.iaload, 1) := by decide +kernel
theorem dX5_now_128 : decode cX5_now 128 = .ok (.imul, 1) := by decide +kernel
theorem dX5_now_129 : decode cX5_now 129 = .ok (.iconst 2, 1) := by decide +kernel
theorem dX5_now_130 : decode cX5_now 130 = .ok (.idiv, 1) := by decide +kernel
theorem dX5_now_131 : decode cX5_now 131 = .ok (.ireturn, 1) := by decide +kernel
theorem dX5_now_132 : decode cX5_now 132 = .ok (.aload_n 0, 1) := by decide +kernel
theorem dX5_now_133 : decode cX5_now 133 = .ok (.getfield 23, 3) := by decide +kernel
theorem dX5_now_136 : decode cX5_now 136 = .ok (.bipush 15, 2) := by decide +kernel
theorem dX5_now_138 : decode cX5_now 138 = .ok (.iaload, 1) := by decide +kernel
theorem dX5_now_139 : decode cX5_now 139 = .ok (.ireturn, 1) := by decide +kernel
theorem dX5_now_140 : decode cX5_now 140 = .ok (.iconst (-1), 1) := by decide +kernel
theorem dX5_now_141 : decode cX5_now 141 = .ok (.ireturn, 1) := by decide +kernel
theorem dX5_anew_0 : decode cX5_anew 0 = .ok (.aload_n 0, 1) := by decide +kernel
theorem dX5_anew_1 : decode cX5_anew 1 = .ok (.getfield 23, 3) := by decide +kernel
theorem dX5_anew_4 : decode cX5_anew 4 = .ok (.bipush 12, 2) := by decide +kernel
theorem dX5_anew_6 : decode cX5_anew 6 = .ok (.iaload, 1) := by decide +kernel
theorem dX5_anew_7 : decode cX5_anew 7 = .ok (.istore_n 1, 1) := by decide +kernel
theorem dX5_anew_8 : decode cX5_anew 8 = .ok (.aload_n 0, 1) := by decide +kernel
theorem dX5_anew_9 : decode cX5_anew 9 = .ok (.iconst 0, 1) := by decide +kernel
theorem dX5_anew_10 : decode cX5_anew 10 = .ok (.invokevirtual 52, 3) := by decide +kernel
theorem dX5_anew_13 : decode cX5_anew 13 = .ok (.iload_n 1, 1) := by decide +kernel
theorem dX5_anew_14 : decode cX5_anew 14 = .ok (.ireturn, 1) := by decide +kernel
theorem dX5_tried_0 : decode cX5_tried 0 = .ok (.bipush 60, 2) := by decide +kernel
theorem dX5_tried_2 : decode cX5_tried 2 = .ok (.istore_n 3, 1) := by decide +kernel
theorem dX5_tried_3 : decode cX5_tried 3 = .ok (.aload_n 0, 1) := by decide +kernel
theorem dX5_tried_4 : decode cX5_tried 4 = .ok (.getfield 23, 3) := by decide +kernel
theorem dX5_tried_7 : decode cX5_tried 7 = .ok (.iload_n 3, 1) := by decide +kernel
theorem dX5_tried_8 : decode cX5_tried 8 = .ok (.bipush 13, 2) := by decide +kernel
theorem dX5_tried_10 : decode cX5_tried 10 = .ok (.iadd, 1) := by decide +kernel
theorem dX5_tried_11 : decode cX5_tried 11 = .ok (.iaload, 1) := by decide +kernel
theorem dX5_tried_12 : decode cX5_tried 12 = .ok (.istore 4, 2) := by decide +kernel
theorem dX5_tried_14 : decode cX5_tried 14 = .ok (.aload_n 0, 1) := by decide +kernel
theorem dX5_tried_15 : decode cX5_tried 15 = .ok (.iconst 3, 1) := by decide +kernel
theorem dX5_tried_16 : decode cX5_tried 16 = .ok (.iload_n 1, 1) := by decide +kernel
theorem dX5_tried_17 : decode cX5_tried 17 = .ok (.iload_n 2, 1) := by decide +kernel
theorem dX5_tried_18 : decode cX5_tried 18 = .ok (.invokevirtual 164, 3) := by decide +kernel
theorem dX5_tried_21 : decode cX5_tried 21 = .ok (.aload_n 0, 1) := by decide +kernel
theorem dX5_tried_22 : decode cX5_tried 22 = .ok (.getfield 23, 3) := by decide +kernel
theorem dX5_tried_25 : decode cX5_tried 25 = .ok (.iload_n 3, 1) := by decide +kernel
theorem dX5_tried_26 : decode cX5_tried 26 = .ok (.bipush 12, 2) := by decide +kernel
theorem dX5_tried_28 : decode cX5_tried 28 = .ok (.iadd, 1) := by decide +kernel
theorem dX5_tried_29 : decode cX5_tried 29 = .ok (.iaload, 1) := by decide +kernel
theorem dX5_tried_30 : decode cX5_tried 30 = .ok (.istore 5, 2) := by decide +kernel
theorem dX5_tried_32 : decode cX5_tried 32 = .ok (.aload_n 0, 1) := by decide +kernel
theorem dX5_tried_33 : decode cX5_tried 33 = .ok (.iload 4, 2) := by decide +kernel
theorem dX5_tried_35 : decode cX5_tried 35 = .ok (.ifCond .ne 20, 3) := by decide +kernel
theorem dX5_tried_38 : decode cX5_tried 38 = .ok (.aload_n 0, 1) := by decide +kernel
theorem dX5_tried_39 : decode cX5_tried 39 = .ok (.getfield 23, 3) := by decide +kernel
theorem dX5_tried_42 : decode cX5_tried 42 = .ok (.iload_n 3, 1) := by decide +kernel
theorem dX5_tried_43 : decode cX5_tried 43 = .ok (.bipush 13, 2) := by decide +kernel
theorem dX5_tried_45 : decode cX5_tried 45 = .ok (.iadd, 1) := by decide +kernel
theorem dX5_tried_46 : decode cX5_tried 46 = .ok (.iaload, 1) := by decide +kernel
theorem dX5_tried_47 : decode cX5_tried 47 = .ok (.ifCond .le 8, 3) := by decide +kernel
theorem dX5_tried_50 : decode cX5_tried 50 = .ok (.iload 5, 2) := by decide +kernel
theorem dX5_tried_52 : decode cX5_tried 52 = .ok (.goto 7, 3) := by decide +kernel
theorem dX5_tried_55 : decode cX5_tried 55 = .ok (.aload_n 0, 1) := by decide +kernel
theorem dX5_tried_56 : decode cX5_tried 56 = .ok (.getfield 30, 3) := by decide +kernel
theorem dX5_tried_59 : decode cX5_tried 59 = .ok (.putfield 30, 3) := by decide +kernel
theorem dX5_tried_62 : decode cX5_tried 62 = .ok (.aload_n 0, 1) := by decide +kernel
theorem dX5_tried_63 : decode cX5_tried 63 = .ok (.aload_n 0, 1) := by decide +kernel
theorem dX5_tried_64 : decode cX5_tried 64 = .ok (.getfield 185, 3) := by decide +kernel
theorem dX5_tried_67 : decode cX5_tried 67 = .ok (.ifCond .ge 20, 3) := by decide +kernel
theorem dX5_tried_70 : decode cX5_tried 70 = .ok (.aload_n 0, 1) := by decide +kernel
theorem dX5_tried_71 : decode cX5_tried 71 = .ok (.getfield 23, 3) := by decide +kernel
theorem dX5_tried_74 : decode cX5_tried 74 = .ok (.iload_n 3, 1) := by decide +kernel
theorem dX5_tried_75 : decode cX5_tried 75 = .ok (.bipush 15, 2) := by decide +kernel
theorem dX5_tried_77 : decode cX5_tried 77 = .ok (.iadd, 1) := by decide +kernel
theorem dX5_tried_78 : decode cX5_tried 78 = .ok (.iaload, 1) := by decide +kernel
theorem dX5_tried_79 : decode cX5_tried 79 = .ok (.ifCond .le 8, 3) := by decide +kernel
theorem dX5_tried_82 : decode cX5_tried 82 = .ok (.iload 5, 2) := by decide +kernel
theorem dX5_tried_84 : decode cX5_tried 84 = .ok (.goto 7, 3) := by decide +kernel
theorem dX5_tried_87 : decode cX5_tried 87 = .ok (.aload_n 0, 1) := by decide +kernel
theorem dX5_tried_88 : decode cX5_tried 88 = .ok (.getfield 185, 3) := by decide +kernel
theorem dX5_tried_91 : decode cX5_tried 91 = .ok (.putfield 185, 3) := by decide +kernel
theorem dX5_tried_94 : decode cX5_tried 94 = .ok (.aload_n 0, 1) := by decide +kernel
theorem dX5_tried_95 : decode cX5_tried 95 = .ok (.getfield 188, 3) := by decide +kernel
theorem dX5_tried_98 : decode cX5_tried 98 = .ok (.ifCond .lt 19, 3) := by decide +kernel
theorem dX5_tried_101 : decode cX5_tried 101 = .ok (.aload_n 0, 1) := by decide +kernel
theorem dX5_tried_102 : decode cX5_tried 102 = .ok (.getfield 23, 3) := by decide +kernel
theorem dX5_tried_105 : decode cX5_tried 105 = .ok (.iload_n 3, 1) := by decide +kernel
theorem dX5_tried_106 : decode cX5_tried 106 = .ok (.bipush 17, 2) := by decide +kernel
theorem dX5_tried_108 : decode cX5_tried 108 = .ok (.iadd, 1) := by decide +kernel
theorem dX5_tried_109 : decode cX5_tried 109 = .ok (.iaload, 1) := by decide +kernel
theorem dX5_tried_110 : decode cX5_tried 110 = .ok (.aload_n 0, 1) := by decide +kernel
theorem dX5_tried_111 : decode cX5_tried 111 = .ok (.getfield 191, 3) := by decide +kernel
theorem dX5_tried_114 : decode cX5_tried 114 = .ok (.if_icmp .le 22, 3) := by decide +kernel
theorem dX5_tried_117 : decode cX5_tried 117 = .ok (.aload_n 0, 1) := by decide +kernel
theorem dX5_tried_118 : decode cX5_tried 118 = .ok (.aload_n 0, 1) := by decide +kernel
theorem dX5_tried_119 : decode cX5_tried 119 = .ok (.getfield 23, 3) := by decide +kernel
theorem dX5_tried_122 : decode cX5_tried 122 = .ok (.iload_n 3, 1) := by decide +kernel
theorem dX5_tried_123 : decode cX5_tried 123 = .ok (.bipush 17, 2) := by decide +kernel
theorem dX5_tried_125 : decode cX5_tried 125 = .ok (.iadd, 1) := by decide +kernel
theorem dX5_tried_126 : decode cX5_tried 126 = .ok (.iaload, 1) := by decide +kernel
theorem dX5_tried_127 : decode cX5_tried 127 = .ok (.putfield 191, 3) := by decide +kernel
theorem dX5_tried_130 : decode cX5_tried 130 = .ok (.aload_n 0, 1) := by decide +kernel
theorem dX5_tried_131 : decode cX5_tried 131 = .ok (.iload 5, 2) := by decide +kernel
theorem dX5_tried_133 : decode cX5_tried 133 = .ok (.putfield 188, 3) := by decide +kernel
theorem dX5_tried_136 : decode cX5_tried 136 = .ok (.return_, 1) := by decide +kernel
theorem dX5_fresh_0 : decode cX5_fresh 0 = .ok (.aload_n 0, 1) := by decide +kernel
theorem dX5_fresh_1 : decode cX5_fresh 1 = .ok (.iconst 3, 1) := by decide +kernel
theorem dX5_fresh_2 : decode cX5_fresh 2 = .ok (.invokevirtual 52, 3) := by decide +kernel
theorem dX5_fresh_5 : decode cX5_fresh 5 = .ok (.aload_n 0, 1) := by decide +kernel
theorem dX5_fresh_6 : decode cX5_fresh 6 = .ok (.getfield 23, 3) := by decide +kernel
theorem dX5_fresh_9 : decode cX5_fresh 9 = .ok (.bipush 71, 2) := by decide +kernel
theorem dX5_fresh_11 : decode cX5_fresh 11 = .ok (.iload_n 1, 1) := by decide +kernel
theorem dX5_fresh_12 : decode cX5_fresh 12 = .ok (.iastore, 1) := by decide +kernel
theorem dX5_fresh_13 : decode cX5_fresh 13 = .ok (.aload_n 0, 1) := by decide +kernel
theorem dX5_fresh_14 : decode cX5_fresh 14 = .ok (.bipush (-9), 2) := by decide +kernel
theorem dX5_fresh_16 : decode cX5_fresh 16 = .ok (.putfield 30, 3) := by decide +kernel
theorem dX5_fresh_19 : decode cX5_fresh 19 = .ok (.aload_n 0, 1) := by decide +kernel
theorem dX5_fresh_20 : decode cX5_fresh 20 = .ok (.iconst 0, 1) := by decide +kernel
theorem dX5_fresh_21 : decode cX5_fresh 21 = .ok (.putfield 191, 3) := by decide +kernel
theorem dX5_fresh_24 : decode cX5_fresh 24 = .ok (.aload_n 0, 1) := by decide +kernel
theorem dX5_fresh_25 : decode cX5_fresh 25 = .ok (.bipush (-9), 2) := by decide +kernel
theorem dX5_fresh_27 : decode cX5_fresh 27 = .ok (.putfield 188, 3) := by decide +kernel
theorem dX5_fresh_30 : decode cX5_fresh 30 = .ok (.aload_n 0, 1) := by decide +kernel
theorem dX5_fresh_31 : decode cX5_fresh 31 = .ok (.bipush (-9), 2) := by decide +kernel
theorem dX5_fresh_33 : decode cX5_fresh 33 = .ok (.putfield 185, 3) := by decide +kernel
theorem dX5_fresh_36 : decode cX5_fresh 36 = .ok (.return_, 1) := by decide +kernel
theorem dX5_plan_0 : decode cX5_plan 0 = .ok (.iconst 0, 1) := by decide +kernel
theorem dX5_plan_1 : decode cX5_plan 1 = .ok (.istore_n 2, 1) := by decide +kernel
theorem dX5_plan_2 : decode cX5_plan 2 = .ok (.iload_n 2, 1) := by decide +kernel
theorem dX5_plan_3 : decode cX5_plan 3 = .ok (.aload_n 0, 1) := by decide +kernel
theorem dX5_plan_4 : decode cX5_plan 4 = .ok (.getfield 17, 3) := by decide +kernel
theorem dX5_plan_7 : decode cX5_plan 7 = .ok (.iconst 0, 1) := by decide +kernel
theorem dX5_plan_8 : decode cX5_plan 8 = .ok (.iaload, 1) := by decide +kernel
theorem dX5_plan_9 : decode cX5_plan 9 = .ok (.if_icmp .ge 127, 3) := by decide +kernel
theorem dX5_plan_12 : decode cX5_plan 12 = .ok (.aload_n 0, 1) := by decide +kernel
theorem dX5_plan_13 : decode cX5_plan 13 = .ok (.getfield 20, 3) := by decide +kernel
theorem dX5_plan_16 : decode cX5_plan 16 = .ok (.iconst 3, 1) := by decide +kernel
theorem dX5_plan_17 : decode cX5_plan 17 = .ok (.iload_n 2, 1) := by decide +kernel
theorem dX5_plan_18 : decode cX5_plan 18 = .ok (.imul, 1) := by decide +kernel
theorem dX5_plan_19 : decode cX5_plan 19 = .ok (.iaload, 1) := by decide +kernel
theorem dX5_plan_20 : decode cX5_plan 20 = .ok (.istore_n 3, 1) := by decide +kernel
theorem dX5_plan_21 : decode cX5_plan 21 = .ok (.aload_n 0, 1) := by decide +kernel
theorem dX5_plan_22 : decode cX5_plan 22 = .ok (.getfield 20, 3) := by decide +kernel
theorem dX5_plan_25 : decode cX5_plan 25 = .ok (.iconst 3, 1) := by decide +kernel
theorem dX5_plan_26 : decode cX5_plan 26 = .ok (.iload_n 2, 1) := by decide +kernel
theorem dX5_plan_27 : decode cX5_plan 27 = .ok (.imul, 1) := by decide +kernel
theorem dX5_plan_28 : decode cX5_plan 28 = .ok (.iconst 1, 1) := by decide +kernel
theorem dX5_plan_29 : decode cX5_plan 29 = .ok (.iadd, 1) := by decide +kernel
theorem dX5_plan_30 : decode cX5_plan 30 = .ok (.iaload, 1) := by decide +kernel
theorem dX5_plan_31 : decode cX5_plan 31 = .ok (.istore 4, 2) := by decide +kernel
theorem dX5_plan_33 : decode cX5_plan 33 = .ok (.iload_n 3, 1) := by decide +kernel
theorem dX5_plan_34 : decode cX5_plan 34 = .ok (.ifCond .ne 10, 3) := by decide +kernel
theorem dX5_plan_37 : decode cX5_plan 37 = .ok (.iload 4, 2) := by decide +kernel
theorem dX5_plan_39 : decode cX5_plan 39 = .ok (.iload_n 1, 1) := by decide +kernel
theorem dX5_plan_40 : decode cX5_plan 40 = .ok (.iadd, 1) := by decide +kernel
theorem dX5_plan_41 : decode cX5_plan 41 = .ok (.goto 5, 3) := by decide +kernel
theorem dX5_plan_44 : decode cX5_plan 44 = .ok (.iload 4, 2) := by decide +kernel
theorem dX5_plan_46 : decode cX5_plan 46 = .ok (.istore 5, 2) := by decide +kernel
theorem dX5_plan_48 : decode cX5_plan 48 = .ok (.iload 5, 2) := by decide +kernel
theorem dX5_plan_50 : decode cX5_plan 50 = .ok (.sipush 300, 3) := by decide +kernel
theorem dX5_plan_53 : decode cX5_plan 53 = .ok (.if_icmp .le 9, 3) := by decide +kernel
theorem dX5_plan_56 : decode cX5_plan 56 = .ok (.sipush 300, 3) := by decide +kernel
theorem dX5_plan_59 : decode cX5_plan 59 = .ok (.goto 5, 3) := by decide +kernel
theorem dX5_plan_62 : decode cX5_plan 62 = .ok (.iload 5, 2) := by decide +kernel
theorem dX5_plan_64 : decode cX5_plan 64 = .ok (.istore 5, 2) := by decide +kernel
theorem dX5_plan_66 : decode cX5_plan 66 = .ok (.iconst 0, 1) := by decide +kernel
theorem dX5_plan_67 : decode cX5_plan 67 = .ok (.istore 6, 2) := by decide +kernel
theorem dX5_plan_69 : decode cX5_plan 69 = .ok (.iload 6, 2) := by decide +kernel
theorem dX5_plan_71 : decode cX5_plan 71 = .ok (.aload_n 0, 1) := by decide +kernel
theorem dX5_plan_72 : decode cX5_plan 72 = .ok (.getfield 20, 3) := by decide +kernel
theorem dX5_plan_75 : decode cX5_plan 75 = .ok (.iconst 3, 1) := by decide +kernel
theorem dX5_plan_76 : decode cX5_plan 76 = .ok (.iload_n 2, 1) := by decide +kernel
theorem dX5_plan_77 : decode cX5_plan 77 = .ok (.imul, 1) := by decide +kernel
theorem dX5_plan_78 : decode cX5_plan 78 = .ok (.iconst 2, 1) := by decide +kernel
theorem dX5_plan_79 : decode cX5_plan 79 = .ok (.iadd, 1) := by decide +kernel
theorem dX5_plan_80 : decode cX5_plan 80 = .ok (.iaload, 1) := by decide +kernel
theorem dX5_plan_81 : decode cX5_plan 81 = .ok (.if_icmp .ge 25, 3) := by decide +kernel
theorem dX5_plan_84 : decode cX5_plan 84 = .ok (.aload_n 0, 1) := by decide +kernel
theorem dX5_plan_85 : decode cX5_plan 85 = .ok (.iload 5, 2) := by decide +kernel
theorem dX5_plan_87 : decode cX5_plan 87 = .ok (.iload_n 3, 1) := by decide +kernel
theorem dX5_plan_88 : decode cX5_plan 88 = .ok (.iconst 3, 1) := by decide +kernel
theorem dX5_plan_89 : decode cX5_plan 89 = .ok (.if_icmp .ne 7, 3) := by decide +kernel
theorem dX5_plan_92 : decode cX5_plan 92 = .ok (.iconst 1, 1) := by decide +kernel
theorem dX5_plan_93 : decode cX5_plan 93 = .ok (.goto 4, 3) := by decide +kernel
theorem dX5_plan_96 : decode cX5_plan 96 = .ok (.iconst 0, 1) := by decide +kernel
theorem dX5_plan_97 : decode cX5_plan 97 = .ok (.invokevirtual 194, 3) := by decide +kernel
theorem dX5_plan_100 : decode cX5_plan 100 = .ok (.iinc 6 1, 3) := by decide +kernel
theorem dX5_plan_103 : decode cX5_plan 103 = .ok (.goto (-34), 3) := by decide +kernel
theorem dX5_plan_106 : decode cX5_plan 106 = .ok (.iload_n 3, 1) := by decide +kernel
theorem dX5_plan_107 : decode cX5_plan 107 = .ok (.iconst 1, 1) := by decide +kernel
theorem dX5_plan_108 : decode cX5_plan 108 = .ok (.if_icmp .ne 10, 3) := by decide +kernel
theorem dX5_plan_111 : decode cX5_plan 111 = .ok (.aload_n 0, 1) := by decide +kernel
theorem dX5_plan_112 : decode cX5_plan 112 = .ok (.iconst 3, 1) := by decide +kernel
theorem dX5_plan_113 : decode cX5_plan 113 = .ok (.iload 4, 2) := by decide +kernel
theorem dX5_plan_115 : decode cX5_plan 115 = .ok (.invokevirtual 174, 3) := by decide +kernel
theorem dX5_plan_118 : decode cX5_plan 118 = .ok (.iload_n 3, 1) := by decide +kernel
theorem dX5_plan_119 : decode cX5_plan 119 = .ok (.iconst 2, 1) := by decide +kernel
theorem dX5_plan_120 : decode cX5_plan 120 = .ok (.if_icmp .ne 10, 3) := by decide +kernel
theorem dX5_plan_123 : decode cX5_plan 123 = .ok (.aload_n 0, 1) := by decide +kernel
theorem dX5_plan_124 : decode cX5_plan 124 = .ok (.iconst 3, 1) := by decide +kernel
theorem dX5_plan_125 : decode cX5_plan 125 = .ok (.iload 4, 2) := by decide +kernel
theorem dX5_plan_127 : decode cX5_plan 127 = .ok (.invokevirtual 180, 3) := by decide +kernel
theorem dX5_plan_130 : decode cX5_plan 130 = .ok (.iinc 2 1, 3) := by decide +kernel
theorem dX5_plan_133 : decode cX5_plan 133 = .ok (.goto (-131), 3) := by decide +kernel
theorem dX5_plan_136 : decode cX5_plan 136 = .ok (.return_, 1) := by decide +kernel
theorem dX5_brown_0 : decode cX5_brown 0 = .ok (.aload_n 0, 1) := by decide +kernel
theorem dX5_brown_1 : decode cX5_brown 1 = .ok (.getfield 23, 3) := by decide +kernel
theorem dX5_brown_4 : decode cX5_brown 4 = .ok (.bipush 65, 2) := by decide +kernel
theorem dX5_brown_6 : decode cX5_brown 6 = .ok (.iaload, 1) := by decide +kernel
theorem dX5_brown_7 : decode cX5_brown 7 = .ok (.istore_n 2, 1) := by decide +kernel
theorem dX5_brown_8 : decode cX5_brown 8 = .ok (.iconst 1, 1) := by decide +kernel
theorem dX5_brown_9 : decode cX5_brown 9 = .ok (.istore_n 3, 1) := by decide +kernel
theorem dX5_brown_10 : decode cX5_brown 10 = .ok (.iload_n 3, 1) := by decide +kernel
theorem dX5_brown_11 : decode cX5_brown 11 = .ok (.iconst 4, 1) := by decide +kernel
theorem dX5_brown_12 : decode cX5_brown 12 = .ok (.if_icmp .ge 48, 3) := by decide +kernel
theorem dX5_brown_15 : decode cX5_brown 15 = .ok (.aload_n 0, 1) := by decide +kernel
theorem dX5_brown_16 : decode cX5_brown 16 = .ok (.getfield 23, 3) := by decide +kernel
theorem dX5_brown_19 : decode cX5_brown 19 = .ok (.bipush 65, 2) := by decide +kernel
theorem dX5_brown_21 : decode cX5_brown 21 = .ok (.iload_n 3, 1) := by decide +kernel
theorem dX5_brown_22 : decode cX5_brown 22 = .ok (.iadd, 1) := by decide +kernel
theorem dX5_brown_23 : decode cX5_brown 23 = .ok (.iaload, 1) := by decide +kernel
theorem dX5_brown_24 : decode cX5_brown 24 = .ok (.istore 4, 2) := by decide +kernel
theorem dX5_brown_26 : decode cX5_brown 26 = .ok (.iload 4, 2) := by decide +kernel
theorem dX5_brown_28 : decode cX5_brown 28 = .ok (.iload_n 2, 1) := by decide +kernel
theorem dX5_brown_29 : decode cX5_brown 29 = .ok (.if_icmp .le 7, 3) := by decide +kernel
theorem dX5_brown_32 : decode cX5_brown 32 = .ok (.iconst 1, 1) := by decide +kernel
theorem dX5_brown_33 : decode cX5_brown 33 = .ok (.goto 4, 3) := by decide +kernel
theorem dX5_brown_36 : decode cX5_brown 36 = .ok (.iconst 0, 1) := by decide +kernel
theorem dX5_brown_37 : decode cX5_brown 37 = .ok (.iload_n 1, 1) := by decide +kernel
theorem dX5_brown_38 : decode cX5_brown 38 = .ok (.if_icmp .ne 14, 3) := by decide +kernel
theorem dX5_brown_41 : decode cX5_brown 41 = .ok (.iload 4, 2) := by decide +kernel
theorem dX5_brown_43 : decode cX5_brown 43 = .ok (.iload_n 2, 1) := by decide +kernel
theorem dX5_brown_44 : decode cX5_brown 44 = .ok (.if_icmp .eq 8, 3) := by decide +kernel
theorem dX5_brown_47 : decode cX5_brown 47 = .ok (.iload 4, 2) := by decide +kernel
theorem dX5_brown_49 : decode cX5_brown 49 = .ok (.goto 4, 3) := by decide +kernel
theorem dX5_brown_52 : decode cX5_brown 52 = .ok (.iload_n 2, 1) := by decide +kernel
theorem dX5_brown_53 : decode cX5_brown 53 = .ok (.istore_n 2, 1) := by decide +kernel
theorem dX5_brown_54 : decode cX5_brown 54 = .ok (.iinc 3 1, 3) := by decide +kernel
theorem dX5_brown_57 : decode cX5_brown 57 = .ok (.goto (-47), 3) := by decide +kernel
theorem dX5_brown_60 : decode cX5_brown 60 = .ok (.iload_n 2, 1) := by decide +kernel
theorem dX5_brown_61 : decode cX5_brown 61 = .ok (.ireturn, 1) := by decide +kernel
theorem dX5_run_0 : decode cX5_run 0 = .ok (.iload_n 1, 1) := by decide +kernel
theorem dX5_run_1 : decode cX5_run 1 = .ok (.i2l, 1) := by decide +kernel
theorem dX5_run_2 : decode cX5_run 2 = .ok (.lconst 0, 1) := by decide +kernel
theorem dX5_run_3 : decode cX5_run 3 = .ok (.ldc2_w 183, 3) := by decide +kernel
theorem dX5_run_6 : decode cX5_run 6 = .ok (.invokestatic 58, 3) := by decide +kernel
theorem dX5_run_9 : decode cX5_run 9 = .ok (.ifCond .eq 15, 3) := by decide +kernel
theorem dX5_run_12 : decode cX5_run 12 = .ok (.iload_n 2, 1) := by decide +kernel
theorem dX5_run_13 : decode cX5_run 13 = .ok (.i2l, 1) := by decide +kernel
theorem dX5_run_14 : decode cX5_run 14 = .ok (.lconst 0, 1) := by decide +kernel
theorem dX5_run_15 : decode cX5_run 15 = .ok (.ldc2_w 143, 3) := by decide +kernel
theorem dX5_run_18 : decode cX5_run 18 = .ok (.invokestatic 58, 3) := by decide +kernel
theorem dX5_run_21 : decode cX5_run 21 = .ok (.ifCond .ne 5, 3) := by decide +kernel
theorem dX5_run_24 : decode cX5_run 24 = .ok (.iconst (-1), 1) := by decide +kernel
theorem dX5_run_25 : decode cX5_run 25 = .ok (.ireturn, 1) := by decide +kernel
theorem dX5_run_26 : decode cX5_run 26 = .ok (.aload_n 0, 1) := by decide +kernel
theorem dX5_run_27 : decode cX5_run 27 = .ok (.iload_n 1, 1) := by decide +kernel
theorem dX5_run_28 : decode cX5_run 28 = .ok (.invokevirtual 198, 3) := by decide +kernel
theorem dX5_run_31 : decode cX5_run 31 = .ok (.aload_n 0, 1) := by decide +kernel
theorem dX5_run_32 : decode cX5_run 32 = .ok (.iconst 0, 1) := by decide +kernel
theorem dX5_run_33 : decode cX5_run 33 = .ok (.invokevirtual 201, 3) := by decide +kernel
theorem dX5_run_36 : decode cX5_run 36 = .ok (.bipush 60, 2) := by decide +kernel
theorem dX5_run_38 : decode cX5_run 38 = .ok (.istore_n 3, 1) := by decide +kernel
theorem dX5_run_39 : decode cX5_run 39 = .ok (.iload_n 2, 1) := by decide +kernel
theorem dX5_run_40 : decode cX5_run 40 = .ok (.tableswitch 127 0 9 #[56, 61, 71, 81, 87, 93, 102, 112, 117, 122], 56) := by decide +kernel
theorem dX5_run_96 : decode cX5_run 96 = .ok (.aload_n 0, 1) := by decide +kernel
theorem dX5_run_97 : decode cX5_run 97 = .ok (.getfield 30, 3) := by decide +kernel
theorem dX5_run_100 : decode cX5_run 100 = .ok (.ireturn, 1) := by decide +kernel
theorem dX5_run_101 : decode cX5_run 101 = .ok (.aload_n 0, 1) := by decide +kernel
theorem dX5_run_102 : decode cX5_run 102 = .ok (.getfield 23, 3) := by decide +kernel
theorem dX5_run_105 : decode cX5_run 105 = .ok (.iload_n 3, 1) := by decide +kernel
theorem dX5_run_106 : decode cX5_run 106 = .ok (.bipush 13, 2) := by decide +kernel
theorem dX5_run_108 : decode cX5_run 108 = .ok (.iadd, 1) := by decide +kernel
theorem dX5_run_109 : decode cX5_run 109 = .ok (.iaload, 1) := by decide +kernel
theorem dX5_run_110 : decode cX5_run 110 = .ok (.ireturn, 1) := by decide +kernel
theorem dX5_run_111 : decode cX5_run 111 = .ok (.aload_n 0, 1) := by decide +kernel
theorem dX5_run_112 : decode cX5_run 112 = .ok (.getfield 23, 3) := by decide +kernel
theorem dX5_run_115 : decode cX5_run 115 = .ok (.iload_n 3, 1) := by decide +kernel
theorem dX5_run_116 : decode cX5_run 116 = .ok (.bipush 14, 2) := by decide +kernel
theorem dX5_run_118 : decode cX5_run 118 = .ok (.iadd, 1) := by decide +kernel
theorem dX5_run_119 : decode cX5_run 119 = .ok (.iaload, 1) := by decide +kernel
theorem dX5_run_120 : decode cX5_run 120 = .ok (.ireturn, 1) := by decide +kernel
theorem dX5_run_121 : decode cX5_run 121 = .ok (.aload_n 0, 1) := by decide +kernel
theorem dX5_run_122 : decode cX5_run 122 = .ok (.iconst 0, 1) := by decide +kernel
theorem dX5_run_123 : decode cX5_run 123 = .ok (.invokevirtual 204, 3) := by decide +kernel
theorem dX5_run_126 : decode cX5_run 126 = .ok (.ireturn, 1) := by decide +kernel
theorem dX5_run_127 : decode cX5_run 127 = .ok (.aload_n 0, 1) := by decide +kernel
theorem dX5_run_128 : decode cX5_run 128 = .ok (.iconst 1, 1) := by decide +kernel
theorem dX5_run_129 : decode cX5_run 129 = .ok (.invokevirtual 204, 3) := by decide +kernel
theorem dX5_run_132 : decode cX5_run 132 = .ok (.ireturn, 1) := by decide +kernel
theorem dX5_run_133 : decode cX5_run 133 = .ok (.aload_n 0, 1) := by decide +kernel
theorem dX5_run_134 : decode cX5_run 134 = .ok (.getfield 23, 3) := by decide +kernel
theorem dX5_run_137 : decode cX5_run 137 = .ok (.iload_n 3, 1) := by decide +kernel
theorem dX5_run_138 : decode cX5_run 138 = .ok (.iconst 4, 1) := by decide +kernel
theorem dX5_run_139 : decode cX5_run 139 = .ok (.iadd, 1) := by decide +kernel
theorem dX5_run_140 : decode cX5_run 140 = .ok (.iaload, 1) := by decide +kernel
theorem dX5_run_141 : decode cX5_run 141 = .ok (.ireturn, 1) := by decide +kernel
theorem dX5_run_142 : decode cX5_run 142 = .ok (.aload_n 0, 1) := by decide +kernel
theorem dX5_run_143 : decode cX5_run 143 = .ok (.getfield 23, 3) := by decide +kernel
theorem dX5_run_146 : decode cX5_run 146 = .ok (.iload_n 3, 1) := by decide +kernel
theorem dX5_run_147 : decode cX5_run 147 = .ok (.bipush 9, 2) := by decide +kernel
theorem dX5_run_149 : decode cX5_run 149 = .ok (.iadd, 1) := by decide +kernel
theorem dX5_run_150 : decode cX5_run 150 = .ok (.iaload, 1) := by decide +kernel
theorem dX5_run_151 : decode cX5_run 151 = .ok (.ireturn, 1) := by decide +kernel
theorem dX5_run_152 : decode cX5_run 152 = .ok (.aload_n 0, 1) := by decide +kernel
theorem dX5_run_153 : decode cX5_run 153 = .ok (.getfield 191, 3) := by decide +kernel
theorem dX5_run_156 : decode cX5_run 156 = .ok (.ireturn, 1) := by decide +kernel
theorem dX5_run_157 : decode cX5_run 157 = .ok (.aload_n 0, 1) := by decide +kernel
theorem dX5_run_158 : decode cX5_run 158 = .ok (.getfield 188, 3) := by decide +kernel
theorem dX5_run_161 : decode cX5_run 161 = .ok (.ireturn, 1) := by decide +kernel
theorem dX5_run_162 : decode cX5_run 162 = .ok (.aload_n 0, 1) := by decide +kernel
theorem dX5_run_163 : decode cX5_run 163 = .ok (.getfield 185, 3) := by decide +kernel
theorem dX5_run_166 : decode cX5_run 166 = .ok (.ireturn, 1) := by decide +kernel
theorem dX5_run_167 : decode cX5_run 167 = .ok (.aload_n 0, 1) := by decide +kernel
theorem dX5_run_168 : decode cX5_run 168 = .ok (.getfield 30, 3) := by decide +kernel
theorem dX5_run_171 : decode cX5_run 171 = .ok (.ifCond .lt 21, 3) := by decide +kernel
theorem dX5_run_174 : decode cX5_run 174 = .ok (.aload_n 0, 1) := by decide +kernel
theorem dX5_run_175 : decode cX5_run 175 = .ok (.getfield 185, 3) := by decide +kernel
theorem dX5_run_178 : decode cX5_run 178 = .ok (.ifCond .lt 14, 3) := by decide +kernel
theorem dX5_run_181 : decode cX5_run 181 = .ok (.aload_n 0, 1) := by decide +kernel
theorem dX5_run_182 : decode cX5_run 182 = .ok (.getfield 185, 3) := by decide +kernel
theorem dX5_run_185 : decode cX5_run 185 = .ok (.aload_n 0, 1) := by decide +kernel
theorem dX5_run_186 : decode cX5_run 186 = .ok (.getfield 30, 3) := by decide +kernel
theorem dX5_run_189 : decode cX5_run 189 = .ok (.if_icmp .le 8, 3) := by decide +kernel
theorem dX5_run_192 : decode cX5_run 192 = .ok (.bipush (-9), 2) := by decide +kernel
theorem dX5_run_194 : decode cX5_run 194 = .ok (.goto 12, 3) := by decide +kernel
theorem dX5_run_197 : decode cX5_run 197 = .ok (.aload_n 0, 1) := by decide +kernel
theorem dX5_run_198 : decode cX5_run 198 = .ok (.getfield 30, 3) := by decide +kernel
theorem dX5_run_201 : decode cX5_run 201 = .ok (.aload_n 0, 1) := by decide +kernel
theorem dX5_run_202 : decode cX5_run 202 = .ok (.getfield 185, 3) := by decide +kernel
theorem dX5_run_205 : decode cX5_run 205 = .ok (.isub, 1) := by decide +kernel
theorem dX5_run_206 : decode cX5_run 206 = .ok (.ireturn, 1) := by decide +kernel
theorem dX5_odds_0 : decode cX5_odds 0 = .ok (.iconst 0, 1) := by decide +kernel
theorem dX5_odds_1 : decode cX5_odds 1 = .ok (.istore_n 1, 1) := by decide +kernel
theorem dX5_odds_2 : decode cX5_odds 2 = .ok (.iconst 0, 1) := by decide +kernel
theorem dX5_odds_3 : decode cX5_odds 3 = .ok (.istore_n 2, 1) := by decide +kernel
theorem dX5_odds_4 : decode cX5_odds 4 = .ok (.iload_n 2, 1) := by decide +kernel
theorem dX5_odds_5 : decode cX5_odds 5 = .ok (.bipush 16, 2) := by decide +kernel
theorem dX5_odds_7 : decode cX5_odds 7 = .ok (.if_icmp .ge 84, 3) := by decide +kernel
theorem dX5_odds_10 : decode cX5_odds 10 = .ok (.aload_n 0, 1) := by decide +kernel
theorem dX5_odds_11 : decode cX5_odds 11 = .ok (.iload_n 2, 1) := by decide +kernel
theorem dX5_odds_12 : decode cX5_odds 12 = .ok (.invokevirtual 198, 3) := by decide +kernel
theorem dX5_odds_15 : decode cX5_odds 15 = .ok (.aload_n 0, 1) := by decide +kernel
theorem dX5_odds_16 : decode cX5_odds 16 = .ok (.iconst 0, 1) := by decide +kernel
theorem dX5_odds_17 : decode cX5_odds 17 = .ok (.invokevirtual 201, 3) := by decide +kernel
theorem dX5_odds_20 : decode cX5_odds 20 = .ok (.aload_n 0, 1) := by decide +kernel
theorem dX5_odds_21 : decode cX5_odds 21 = .ok (.getfield 30, 3) := by decide +kernel
theorem dX5_odds_24 : decode cX5_odds 24 = .ok (.ifCond .ge 7, 3) := by decide +kernel
theorem dX5_odds_27 : decode cX5_odds 27 = .ok (.iconst 0, 1) := by decide +kernel
theorem dX5_odds_28 : decode cX5_odds 28 = .ok (.goto 4, 3) := by decide +kernel
theorem dX5_odds_31 : decode cX5_odds 31 = .ok (.iconst 1, 1) := by decide +kernel
theorem dX5_odds_32 : decode cX5_odds 32 = .ok (.istore_n 3, 1) := by decide +kernel
theorem dX5_odds_33 : decode cX5_odds 33 = .ok (.iconst 0, 1) := by decide +kernel
theorem dX5_odds_34 : decode cX5_odds 34 = .ok (.istore 4, 2) := by decide +kernel
theorem dX5_odds_36 : decode cX5_odds 36 = .ok (.iload 4, 2) := by decide +kernel
theorem dX5_odds_38 : decode cX5_odds 38 = .ok (.iconst 4, 1) := by decide +kernel
theorem dX5_odds_39 : decode cX5_odds 39 = .ok (.if_icmp .ge 42, 3) := by decide +kernel
theorem dX5_odds_42 : decode cX5_odds 42 = .ok (.iload_n 3, 1) := by decide +kernel
theorem dX5_odds_43 : decode cX5_odds 43 = .ok (.iload_n 2, 1) := by decide +kernel
theorem dX5_odds_44 : decode cX5_odds 44 = .ok (.iload 4, 2) := by decide +kernel
theorem dX5_odds_46 : decode cX5_odds 46 = .ok (.ishr, 1) := by decide +kernel
theorem dX5_odds_47 : decode cX5_odds 47 = .ok (.iconst 1, 1) := by decide +kernel
theorem dX5_odds_48 : decode cX5_odds 48 = .ok (.iand, 1) := by decide +kernel
theorem dX5_odds_49 : decode cX5_odds 49 = .ok (.iconst 1, 1) := by decide +kernel
theorem dX5_odds_50 : decode cX5_odds 50 = .ok (.if_icmp .ne 13, 3) := by decide +kernel
theorem dX5_odds_53 : decode cX5_odds 53 = .ok (.aload_n 0, 1) := by decide +kernel
theorem dX5_odds_54 : decode cX5_odds 54 = .ok (.getfield 13, 3) := by decide +kernel
theorem dX5_odds_57 : decode cX5_odds 57 = .ok (.bipush 6, 2) := by decide +kernel
theorem dX5_odds_59 : decode cX5_odds 59 = .ok (.iaload, 1) := by decide +kernel
theorem dX5_odds_60 : decode cX5_odds 60 = .ok (.goto 13, 3) := by decide +kernel
theorem dX5_odds_63 : decode cX5_odds 63 = .ok (.bipush 10, 2) := by decide +kernel
theorem dX5_odds_65 : decode cX5_odds 65 = .ok (.aload_n 0, 1) := by decide +kernel
theorem dX5_odds_66 : decode cX5_odds 66 = .ok (.getfield 13, 3) := by decide +kernel
theorem dX5_odds_69 : decode cX5_odds 69 = .ok (.bipush 6, 2) := by decide +kernel
theorem dX5_odds_71 : decode cX5_odds 71 = .ok (.iaload, 1) := by decide +kernel
theorem dX5_odds_72 : decode cX5_odds 72 = .ok (.isub, 1) := by decide +kernel
theorem dX5_odds_73 : decode cX5_odds 73 = .ok (.imul, 1) := by decide +kernel
theorem dX5_odds_74 : decode cX5_odds 74 = .ok (.istore_n 3, 1) := by decide +kernel
theorem dX5_odds_75 : decode cX5_odds 75 = .ok (.iinc 4 1, 3) := by decide +kernel
theorem dX5_odds_78 : decode cX5_odds 78 = .ok (.goto (-42), 3) := by decide +kernel
theorem dX5_odds_81 : decode cX5_odds 81 = .ok (.iload_n 1, 1) := by decide +kernel
theorem dX5_odds_82 : decode cX5_odds 82 = .ok (.iload_n 3, 1) := by decide +kernel
theorem dX5_odds_83 : decode cX5_odds 83 = .ok (.iadd, 1) := by decide +kernel
theorem dX5_odds_84 : decode cX5_odds 84 = .ok (.istore_n 1, 1) := by decide +kernel
theorem dX5_odds_85 : decode cX5_odds 85 = .ok (.iinc 2 1, 3) := by decide +kernel
theorem dX5_odds_88 : decode cX5_odds 88 = .ok (.goto (-84), 3) := by decide +kernel
theorem dX5_odds_91 : decode cX5_odds 91 = .ok (.iload_n 1, 1) := by decide +kernel
theorem dX5_odds_92 : decode cX5_odds 92 = .ok (.ireturn, 1) := by decide +kernel
theorem dX5_holdsAll_0 : decode cX5_holdsAll 0 = .ok (.iconst 1, 1) := by decide +kernel
theorem dX5_holdsAll_1 : decode cX5_holdsAll 1 = .ok (.istore_n 3, 1) := by decide +kernel
theorem dX5_holdsAll_2 : decode cX5_holdsAll 2 = .ok (.iconst 0, 1) := by decide +kernel
theorem dX5_holdsAll_3 : decode cX5_holdsAll 3 = .ok (.istore 4, 2) := by decide +kernel
theorem dX5_holdsAll_5 : decode cX5_holdsAll 5 = .ok (.iload 4, 2) := by decide +kernel
theorem dX5_holdsAll_7 : decode cX5_holdsAll 7 = .ok (.bipush 16, 2) := by decide +kernel
theorem dX5_holdsAll_9 : decode cX5_holdsAll 9 = .ok (.if_icmp .ge 69, 3) := by decide +kernel
theorem dX5_holdsAll_12 : decode cX5_holdsAll 12 = .ok (.iload_n 3, 1) := by decide +kernel
theorem dX5_holdsAll_13 : decode cX5_holdsAll 13 = .ok (.ifCond .eq 65, 3) := by decide +kernel
theorem dX5_holdsAll_16 : decode cX5_holdsAll 16 = .ok (.aload_n 0, 1) := by decide +kernel
theorem dX5_holdsAll_17 : decode cX5_holdsAll 17 = .ok (.iload 4, 2) := by decide +kernel
theorem dX5_holdsAll_19 : decode cX5_holdsAll 19 = .ok (.invokevirtual 198, 3) := by decide +kernel
theorem dX5_holdsAll_22 : decode cX5_holdsAll 22 = .ok (.aload_n 0, 1) := by decide +kernel
theorem dX5_holdsAll_23 : decode cX5_holdsAll 23 = .ok (.iconst 3, 1) := by decide +kernel
theorem dX5_holdsAll_24 : decode cX5_holdsAll 24 = .ok (.iload_n 1, 1) := by decide +kernel
theorem dX5_holdsAll_25 : decode cX5_holdsAll 25 = .ok (.invokevirtual 180, 3) := by decide +kernel
theorem dX5_holdsAll_28 : decode cX5_holdsAll 28 = .ok (.iconst 0, 1) := by decide +kernel
theorem dX5_holdsAll_29 : decode cX5_holdsAll 29 = .ok (.istore 5, 2) := by decide +kernel
theorem dX5_holdsAll_31 : decode cX5_holdsAll 31 = .ok (.iload 5, 2) := by decide +kernel
theorem dX5_holdsAll_33 : decode cX5_holdsAll 33 = .ok (.bipush 60, 2) := by decide +kernel
theorem dX5_holdsAll_35 : decode cX5_holdsAll 35 = .ok (.if_icmp .ge 19, 3) := by decide +kernel
theorem dX5_holdsAll_38 : decode cX5_holdsAll 38 = .ok (.iload_n 2, 1) := by decide +kernel
theorem dX5_holdsAll_39 : decode cX5_holdsAll 39 = .ok (.ifCond .le 15, 3) := by decide +kernel
theorem dX5_holdsAll_42 : decode cX5_holdsAll 42 = .ok (.aload_n 0, 1) := by decide +kernel
theorem dX5_holdsAll_43 : decode cX5_holdsAll 43 = .ok (.iload_n 2, 1) := by decide +kernel
theorem dX5_holdsAll_44 : decode cX5_holdsAll 44 = .ok (.iconst 1, 1) := by decide +kernel
theorem dX5_holdsAll_45 : decode cX5_holdsAll 45 = .ok (.invokevirtual 194, 3) := by decide +kernel
theorem dX5_holdsAll_48 : decode cX5_holdsAll 48 = .ok (.iinc 5 1, 3) := by decide +kernel
theorem dX5_holdsAll_51 : decode cX5_holdsAll 51 = .ok (.goto (-20), 3) := by decide +kernel
theorem dX5_holdsAll_54 : decode cX5_holdsAll 54 = .ok (.aload_n 0, 1) := by decide +kernel
theorem dX5_holdsAll_55 : decode cX5_holdsAll 55 = .ok (.iconst 0, 1) := by decide +kernel
theorem dX5_holdsAll_56 : decode cX5_holdsAll 56 = .ok (.invokevirtual 201, 3) := by decide +kernel
theorem dX5_holdsAll_59 : decode cX5_holdsAll 59 = .ok (.aload_n 0, 1) := by decide +kernel
theorem dX5_holdsAll_60 : decode cX5_holdsAll 60 = .ok (.getfield 30, 3) := by decide +kernel
theorem dX5_holdsAll_63 : decode cX5_holdsAll 63 = .ok (.ifCond .ge 7, 3) := by decide +kernel
theorem dX5_holdsAll_66 : decode cX5_holdsAll 66 = .ok (.iconst 1, 1) := by decide +kernel
theorem dX5_holdsAll_67 : decode cX5_holdsAll 67 = .ok (.goto 4, 3) := by decide +kernel
theorem dX5_holdsAll_70 : decode cX5_holdsAll 70 = .ok (.iconst 0, 1) := by decide +kernel
theorem dX5_holdsAll_71 : decode cX5_holdsAll 71 = .ok (.istore_n 3, 1) := by decide +kernel
theorem dX5_holdsAll_72 : decode cX5_holdsAll 72 = .ok (.iinc 4 1, 3) := by decide +kernel
theorem dX5_holdsAll_75 : decode cX5_holdsAll 75 = .ok (.goto (-70), 3) := by decide +kernel
theorem dX5_holdsAll_78 : decode cX5_holdsAll 78 = .ok (.iload_n 3, 1) := by decide +kernel
theorem dX5_holdsAll_79 : decode cX5_holdsAll 79 = .ok (.ireturn, 1) := by decide +kernel
theorem dX5_pricks_0 : decode cX5_pricks 0 = .ok (.iload_n 1, 1) := by decide +kernel
theorem dX5_pricks_1 : decode cX5_pricks 1 = .ok (.i2l, 1) := by decide +kernel
theorem dX5_pricks_2 : decode cX5_pricks 2 = .ok (.lconst 0, 1) := by decide +kernel
theorem dX5_pricks_3 : decode cX5_pricks 3 = .ok (.lconst 1, 1) := by decide +kernel
theorem dX5_pricks_4 : decode cX5_pricks 4 = .ok (.invokestatic 58, 3) := by decide +kernel
theorem dX5_pricks_7 : decode cX5_pricks 7 = .ok (.ifCond .ne 5, 3) := by decide +kernel
theorem dX5_pricks_10 : decode cX5_pricks 10 = .ok (.iconst (-1), 1) := by decide +kernel
theorem dX5_pricks_11 : decode cX5_pricks 11 = .ok (.ireturn, 1) := by decide +kernel
theorem dX5_pricks_12 : decode cX5_pricks 12 = .ok (.iconst 0, 1) := by decide +kernel
theorem dX5_pricks_13 : decode cX5_pricks 13 = .ok (.istore_n 2, 1) := by decide +kernel
theorem dX5_pricks_14 : decode cX5_pricks 14 = .ok (.iload_n 2, 1) := by decide +kernel
theorem dX5_pricks_15 : decode cX5_pricks 15 = .ok (.bipush 10, 2) := by decide +kernel
theorem dX5_pricks_17 : decode cX5_pricks 17 = .ok (.if_icmp .ge 50, 3) := by decide +kernel
theorem dX5_pricks_20 : decode cX5_pricks 20 = .ok (.aload_n 0, 1) := by decide +kernel
theorem dX5_pricks_21 : decode cX5_pricks 21 = .ok (.iload_n 2, 1) := by decide +kernel
theorem dX5_pricks_22 : decode cX5_pricks 22 = .ok (.iconst 0, 1) := by decide +kernel
theorem dX5_pricks_23 : decode cX5_pricks 23 = .ok (.invokevirtual 208, 3) := by decide +kernel
theorem dX5_pricks_26 : decode cX5_pricks 26 = .ok (.ifCond .eq 35, 3) := by decide +kernel
theorem dX5_pricks_29 : decode cX5_pricks 29 = .ok (.aload_n 0, 1) := by decide +kernel
theorem dX5_pricks_30 : decode cX5_pricks 30 = .ok (.iconst 0, 1) := by decide +kernel
theorem dX5_pricks_31 : decode cX5_pricks 31 = .ok (.invokevirtual 198, 3) := by decide +kernel
theorem dX5_pricks_34 : decode cX5_pricks 34 = .ok (.aload_n 0, 1) := by decide +kernel
theorem dX5_pricks_35 : decode cX5_pricks 35 = .ok (.iconst 3, 1) := by decide +kernel
theorem dX5_pricks_36 : decode cX5_pricks 36 = .ok (.iload_n 2, 1) := by decide +kernel
theorem dX5_pricks_37 : decode cX5_pricks 37 = .ok (.invokevirtual 180, 3) := by decide +kernel
theorem dX5_pricks_40 : decode cX5_pricks 40 = .ok (.aload_n 0, 1) := by decide +kernel
theorem dX5_pricks_41 : decode cX5_pricks 41 = .ok (.iconst 0, 1) := by decide +kernel
theorem dX5_pricks_42 : decode cX5_pricks 42 = .ok (.invokevirtual 201, 3) := by decide +kernel
theorem dX5_pricks_45 : decode cX5_pricks 45 = .ok (.iload_n 1, 1) := by decide +kernel
theorem dX5_pricks_46 : decode cX5_pricks 46 = .ok (.ifCond .ne 7, 3) := by decide +kernel
theorem dX5_pricks_49 : decode cX5_pricks 49 = .ok (.iload_n 2, 1) := by decide +kernel
theorem dX5_pricks_50 : decode cX5_pricks 50 = .ok (.goto 10, 3) := by decide +kernel
theorem dX5_pricks_53 : decode cX5_pricks 53 = .ok (.aload_n 0, 1) := by decide +kernel
theorem dX5_pricks_54 : decode cX5_pricks 54 = .ok (.getfield 23, 3) := by decide +kernel
theorem dX5_pricks_57 : decode cX5_pricks 57 = .ok (.bipush 69, 2) := by decide +kernel
theorem dX5_pricks_59 : decode cX5_pricks 59 = .ok (.iaload, 1) := by decide +kernel
theorem dX5_pricks_60 : decode cX5_pricks 60 = .ok (.ireturn, 1) := by decide +kernel
theorem dX5_pricks_61 : decode cX5_pricks 61 = .ok (.iinc 2 1, 3) := by decide +kernel
theorem dX5_pricks_64 : decode cX5_pricks 64 = .ok (.goto (-50), 3) := by decide +kernel
theorem dX5_pricks_67 : decode cX5_pricks 67 = .ok (.bipush (-9), 2) := by decide +kernel
theorem dX5_pricks_69 : decode cX5_pricks 69 = .ok (.ireturn, 1) := by decide +kernel
theorem dX5_simmered_0 : decode cX5_simmered 0 = .ok (.iload_n 1, 1) := by decide +kernel
theorem dX5_simmered_1 : decode cX5_simmered 1 = .ok (.i2l, 1) := by decide +kernel
theorem dX5_simmered_2 : decode cX5_simmered 2 = .ok (.lconst 0, 1) := by decide +kernel
theorem dX5_simmered_3 : decode cX5_simmered 3 = .ok (.lconst 1, 1) := by decide +kernel
theorem dX5_simmered_4 : decode cX5_simmered 4 = .ok (.invokestatic 58, 3) := by decide +kernel
theorem dX5_simmered_7 : decode cX5_simmered 7 = .ok (.ifCond .ne 5, 3) := by decide +kernel
theorem dX5_simmered_10 : decode cX5_simmered 10 = .ok (.iconst (-1), 1) := by decide +kernel
theorem dX5_simmered_11 : decode cX5_simmered 11 = .ok (.ireturn, 1) := by decide +kernel
theorem dX5_simmered_12 : decode cX5_simmered 12 = .ok (.bipush (-9), 2) := by decide +kernel
theorem dX5_simmered_14 : decode cX5_simmered 14 = .ok (.istore_n 2, 1) := by decide +kernel
theorem dX5_simmered_15 : decode cX5_simmered 15 = .ok (.bipush 60, 2) := by decide +kernel
theorem dX5_simmered_17 : decode cX5_simmered 17 = .ok (.istore_n 3, 1) := by decide +kernel
theorem dX5_simmered_18 : decode cX5_simmered 18 = .ok (.iload_n 3, 1) := by decide +kernel
theorem dX5_simmered_19 : decode cX5_simmered 19 = .ok (.bipush 100, 2) := by decide +kernel
theorem dX5_simmered_21 : decode cX5_simmered 21 = .ok (.if_icmp .gt 33, 3) := by decide +kernel
theorem dX5_simmered_24 : decode cX5_simmered 24 = .ok (.iload_n 1, 1) := by decide +kernel
theorem dX5_simmered_25 : decode cX5_simmered 25 = .ok (.iconst 1, 1) := by decide +kernel
theorem dX5_simmered_26 : decode cX5_simmered 26 = .ok (.if_icmp .eq 7, 3) := by decide +kernel
theorem dX5_simmered_29 : decode cX5_simmered 29 = .ok (.iload_n 2, 1) := by decide +kernel
theorem dX5_simmered_30 : decode cX5_simmered 30 = .ok (.ifCond .ge 16, 3) := by decide +kernel
theorem dX5_simmered_33 : decode cX5_simmered 33 = .ok (.aload_n 0, 1) := by decide +kernel
theorem dX5_simmered_34 : decode cX5_simmered 34 = .ok (.iconst 0, 1) := by decide +kernel
theorem dX5_simmered_35 : decode cX5_simmered 35 = .ok (.iload_n 3, 1) := by decide +kernel
theorem dX5_simmered_36 : decode cX5_simmered 36 = .ok (.invokevirtual 208, 3) := by decide +kernel
theorem dX5_simmered_39 : decode cX5_simmered 39 = .ok (.ifCond .eq 7, 3) := by decide +kernel
theorem dX5_simmered_42 : decode cX5_simmered 42 = .ok (.iload_n 3, 1) := by decide +kernel
theorem dX5_simmered_43 : decode cX5_simmered 43 = .ok (.goto 4, 3) := by decide +kernel
theorem dX5_simmered_46 : decode cX5_simmered 46 = .ok (.iload_n 2, 1) := by decide +kernel
theorem dX5_simmered_47 : decode cX5_simmered 47 = .ok (.istore_n 2, 1) := by decide +kernel
theorem dX5_simmered_48 : decode cX5_simmered 48 = .ok (.iinc 3 1, 3) := by decide +kernel
theorem dX5_simmered_51 : decode cX5_simmered 51 = .ok (.goto (-33), 3) := by decide +kernel
theorem dX5_simmered_54 : decode cX5_simmered 54 = .ok (.iload_n 2, 1) := by decide +kernel
theorem dX5_simmered_55 : decode cX5_simmered 55 = .ok (.ireturn, 1) := by decide +kernel
theorem dX5_planned_0 : decode cX5_planned 0 = .ok (.iload_n 1, 1) := by decide +kernel
theorem dX5_planned_1 : decode cX5_planned 1 = .ok (.i2l, 1) := by decide +kernel
theorem dX5_planned_2 : decode cX5_planned 2 = .ok (.ldc2_w 56, 3) := by decide +kernel
theorem dX5_planned_5 : decode cX5_planned 5 = .ok (.ldc2_w 211, 3) := by decide +kernel
theorem dX5_planned_8 : decode cX5_planned 8 = .ok (.invokestatic 58, 3) := by decide +kernel
theorem dX5_planned_11 : decode cX5_planned 11 = .ok (.ifCond .eq 27, 3) := by decide +kernel
theorem dX5_planned_14 : decode cX5_planned 14 = .ok (.iload_n 2, 1) := by decide +kernel
theorem dX5_planned_15 : decode cX5_planned 15 = .ok (.i2l, 1) := by decide +kernel
theorem dX5_planned_16 : decode cX5_planned 16 = .ok (.lconst 0, 1) := by decide +kernel
theorem dX5_planned_17 : decode cX5_planned 17 = .ok (.ldc2_w 183, 3) := by decide +kernel
theorem dX5_planned_20 : decode cX5_planned 20 = .ok (.invokestatic 58, 3) := by decide +kernel
theorem dX5_planned_23 : decode cX5_planned 23 = .ok (.ifCond .eq 15, 3) := by decide +kernel
theorem dX5_planned_26 : decode cX5_planned 26 = .ok (.iload_n 3, 1) := by decide +kernel
theorem dX5_planned_27 : decode cX5_planned 27 = .ok (.i2l, 1) := by decide +kernel
theorem dX5_planned_28 : decode cX5_planned 28 = .ok (.lconst 0, 1) := by decide +kernel
theorem dX5_planned_29 : decode cX5_planned 29 = .ok (.ldc2_w 148, 3) := by decide +kernel
theorem dX5_planned_32 : decode cX5_planned 32 = .ok (.invokestatic 58, 3) := by decide +kernel
theorem dX5_planned_35 : decode cX5_planned 35 = .ok (.ifCond .ne 5, 3) := by decide +kernel
theorem dX5_planned_38 : decode cX5_planned 38 = .ok (.iconst (-1), 1) := by decide +kernel
theorem dX5_planned_39 : decode cX5_planned 39 = .ok (.ireturn, 1) := by decide +kernel
theorem dX5_planned_40 : decode cX5_planned 40 = .ok (.aload_n 0, 1) := by decide +kernel
theorem dX5_planned_41 : decode cX5_planned 41 = .ok (.getfield 34, 3) := by decide +kernel
theorem dX5_planned_44 : decode cX5_planned 44 = .ok (.iconst 0, 1) := by decide +kernel
theorem dX5_planned_45 : decode cX5_planned 45 = .ok (.bipush (-9), 2) := by decide +kernel
theorem dX5_planned_47 : decode cX5_planned 47 = .ok (.iastore, 1) := by decide +kernel
theorem dX5_planned_48 : decode cX5_planned 48 = .ok (.aload_n 0, 1) := by decide +kernel
theorem dX5_planned_49 : decode cX5_planned 49 = .ok (.getfield 34, 3) := by decide +kernel
theorem dX5_planned_52 : decode cX5_planned 52 = .ok (.iconst 1, 1) := by decide +kernel
theorem dX5_planned_53 : decode cX5_planned 53 = .ok (.bipush (-9), 2) := by decide +kernel
theorem dX5_planned_55 : decode cX5_planned 55 = .ok (.iastore, 1) := by decide +kernel
theorem dX5_planned_56 : decode cX5_planned 56 = .ok (.aload_n 0, 1) := by decide +kernel
theorem dX5_planned_57 : decode cX5_planned 57 = .ok (.getfield 34, 3) := by decide +kernel
theorem dX5_planned_60 : decode cX5_planned 60 = .ok (.iconst 2, 1) := by decide +kernel
theorem dX5_planned_61 : decode cX5_planned 61 = .ok (.bipush (-9), 2) := by decide +kernel
theorem dX5_planned_63 : decode cX5_planned 63 = .ok (.iastore, 1) := by decide +kernel
theorem dX5_planned_64 : decode cX5_planned 64 = .ok (.bipush 80, 2) := by decide +kernel
theorem dX5_planned_66 : decode cX5_planned 66 = .ok (.istore 4, 2) := by decide +kernel
theorem dX5_planned_68 : decode cX5_planned 68 = .ok (.iload 4, 2) := by decide +kernel
theorem dX5_planned_70 : decode cX5_planned 70 = .ok (.sipush 260, 3) := by decide +kernel
theorem dX5_planned_73 : decode cX5_planned 73 = .ok (.if_icmp .gt 119, 3) := by decide +kernel
theorem dX5_planned_76 : decode cX5_planned 76 = .ok (.iconst 5, 1) := by decide +kernel
theorem dX5_planned_77 : decode cX5_planned 77 = .ok (.istore 5, 2) := by decide +kernel
theorem dX5_planned_79 : decode cX5_planned 79 = .ok (.iload 5, 2) := by decide +kernel
theorem dX5_planned_81 : decode cX5_planned 81 = .ok (.bipush 40, 2) := by decide +kernel
theorem dX5_planned_83 : decode cX5_planned 83 = .ok (.if_icmp .gt 103, 3) := by decide +kernel
theorem dX5_planned_86 : decode cX5_planned 86 = .ok (.aload_n 0, 1) := by decide +kernel
theorem dX5_planned_87 : decode cX5_planned 87 = .ok (.iload_n 2, 1) := by decide +kernel
theorem dX5_planned_88 : decode cX5_planned 88 = .ok (.invokevirtual 198, 3) := by decide +kernel
theorem dX5_planned_91 : decode cX5_planned 91 = .ok (.iconst 0, 1) := by decide +kernel
theorem dX5_planned_92 : decode cX5_planned 92 = .ok (.istore 6, 2) := by decide +kernel
theorem dX5_planned_94 : decode cX5_planned 94 = .ok (.iload 6, 2) := by decide +kernel
theorem dX5_planned_96 : decode cX5_planned 96 = .ok (.iload_n 1, 1) := by decide +kernel
theorem dX5_planned_97 : decode cX5_planned 97 = .ok (.if_icmp .ge 35, 3) := by decide +kernel
theorem dX5_planned_100 : decode cX5_planned 100 = .ok (.iload 6, 2) := by decide +kernel
theorem dX5_planned_102 : decode cX5_planned 102 = .ok (.ifCond .le 17, 3) := by decide +kernel
theorem dX5_planned_105 : decode cX5_planned 105 = .ok (.iload 6, 2) := by decide +kernel
theorem dX5_planned_107 : decode cX5_planned 107 = .ok (.iload 5, 2) := by decide +kernel
theorem dX5_planned_109 : decode cX5_planned 109 = .ok (.irem, 1) := by decide +kernel
theorem dX5_planned_110 : decode cX5_planned 110 = .ok (.ifCond .ne 9, 3) := by decide +kernel
theorem dX5_planned_113 : decode cX5_planned 113 = .ok (.aload_n 0, 1) := by decide +kernel
theorem dX5_planned_114 : decode cX5_planned 114 = .ok (.iconst 3, 1) := by decide +kernel
theorem dX5_planned_115 : decode cX5_planned 115 = .ok (.iconst 1, 1) := by decide +kernel
theorem dX5_planned_116 : decode cX5_planned 116 = .ok (.invokevirtual 174, 3) := by decide +kernel
theorem dX5_planned_119 : decode cX5_planned 119 = .ok (.aload_n 0, 1) := by decide +kernel
theorem dX5_planned_120 : decode cX5_planned 120 = .ok (.iload 4, 2) := by decide +kernel
theorem dX5_planned_122 : decode cX5_planned 122 = .ok (.iconst 0, 1) := by decide +kernel
theorem dX5_planned_123 : decode cX5_planned 123 = .ok (.invokevirtual 194, 3) := by decide +kernel
theorem dX5_planned_126 : decode cX5_planned 126 = .ok (.iinc 6 1, 3) := by decide +kernel
theorem dX5_planned_129 : decode cX5_planned 129 = .ok (.goto (-35), 3) := by decide +kernel
theorem dX5_planned_132 : decode cX5_planned 132 = .ok (.aload_n 0, 1) := by decide +kernel
theorem dX5_planned_133 : decode cX5_planned 133 = .ok (.getfield 30, 3) := by decide +kernel
theorem dX5_planned_136 : decode cX5_planned 136 = .ok (.ifCond .ge 44, 3) := by decide +kernel
theorem dX5_planned_139 : decode cX5_planned 139 = .ok (.aload_n 0, 1) := by decide +kernel
theorem dX5_planned_140 : decode cX5_planned 140 = .ok (.iconst 0, 1) := by decide +kernel
theorem dX5_planned_141 : decode cX5_planned 141 = .ok (.invokevirtual 204, 3) := by decide +kernel
theorem dX5_planned_144 : decode cX5_planned 144 = .ok (.aload_n 0, 1) := by decide +kernel
theorem dX5_planned_145 : decode cX5_planned 145 = .ok (.getfield 34, 3) := by decide +kernel
theorem dX5_planned_148 : decode cX5_planned 148 = .ok (.iconst 0, 1) := by decide +kernel
theorem dX5_planned_149 : decode cX5_planned 149 = .ok (.iaload, 1) := by decide +kernel
theorem dX5_planned_150 : decode cX5_planned 150 = .ok (.if_icmp .le 30, 3) := by decide +kernel
theorem dX5_planned_153 : decode cX5_planned 153 = .ok (.aload_n 0, 1) := by decide +kernel
theorem dX5_planned_154 : decode cX5_planned 154 = .ok (.getfield 34, 3) := by decide +kernel
theorem dX5_planned_157 : decode cX5_planned 157 = .ok (.iconst 0, 1) := by decide +kernel
theorem dX5_planned_158 : decode cX5_planned 158 = .ok (.aload_n 0, 1) := by decide +kernel
theorem dX5_planned_159 : decode cX5_planned 159 = .ok (.iconst 0, 1) := by decide +kernel
theorem dX5_planned_160 : decode cX5_planned 160 = .ok (.invokevirtual 204, 3) := by decide +kernel
theorem dX5_planned_163 : decode cX5_planned 163 = .ok (.iastore, 1) := by decide +kernel
theorem dX5_planned_164 : decode cX5_planned 164 = .ok (.aload_n 0, 1) := by decide +kernel
theorem dX5_planned_165 : decode cX5_planned 165 = .ok (.getfield 34, 3) := by decide +kernel
theorem dX5_planned_168 : decode cX5_planned 168 = .ok (.iconst 1, 1) := by decide +kernel
theorem dX5_planned_169 : decode cX5_planned 169 = .ok (.iload 4, 2) := by decide +kernel
theorem dX5_planned_171 : decode cX5_planned 171 = .ok (.iastore, 1) := by decide +kernel
theorem dX5_planned_172 : decode cX5_planned 172 = .ok (.aload_n 0, 1) := by decide +kernel
theorem dX5_planned_173 : decode cX5_planned 173 = .ok (.getfield 34, 3) := by decide +kernel
theorem dX5_planned_176 : decode cX5_planned 176 = .ok (.iconst 2, 1) := by decide +kernel
theorem dX5_planned_177 : decode cX5_planned 177 = .ok (.iload 5, 2) := by decide +kernel
theorem dX5_planned_179 : decode cX5_planned 179 = .ok (.iastore, 1) := by decide +kernel
theorem dX5_planned_180 : decode cX5_planned 180 = .ok (.iinc 5 5, 3) := by decide +kernel
theorem dX5_planned_183 : decode cX5_planned 183 = .ok (.goto (-104), 3) := by decide +kernel
theorem dX5_planned_186 : decode cX5_planned 186 = .ok (.iinc 4 20, 3) := by decide +kernel
theorem dX5_planned_189 : decode cX5_planned 189 = .ok (.goto (-121), 3) := by decide +kernel
theorem dX5_planned_192 : decode cX5_planned 192 = .ok (.aload_n 0, 1) := by decide +kernel
theorem dX5_planned_193 : decode cX5_planned 193 = .ok (.getfield 34, 3) := by decide +kernel
theorem dX5_planned_196 : decode cX5_planned 196 = .ok (.iload_n 3, 1) := by decide +kernel
theorem dX5_planned_197 : decode cX5_planned 197 = .ok (.iaload, 1) := by decide +kernel
theorem dX5_planned_198 : decode cX5_planned 198 = .ok (.ireturn, 1) := by decide +kernel
theorem dX5_heat_0 : decode cX5_heat 0 = .ok (.iload_n 1, 1) := by decide +kernel
theorem dX5_heat_1 : decode cX5_heat 1 = .ok (.i2l, 1) := by decide +kernel
theorem dX5_heat_2 : decode cX5_heat 2 = .ok (.lconst 0, 1) := by decide +kernel
theorem dX5_heat_3 : decode cX5_heat 3 = .ok (.ldc2_w 172, 3) := by decide +kernel
theorem dX5_heat_6 : decode cX5_heat 6 = .ok (.invokestatic 58, 3) := by decide +kernel
theorem dX5_heat_9 : decode cX5_heat 9 = .ok (.ifCond .eq 15, 3) := by decide +kernel
theorem dX5_heat_12 : decode cX5_heat 12 = .ok (.iload_n 2, 1) := by decide +kernel
theorem dX5_heat_13 : decode cX5_heat 13 = .ok (.i2l, 1) := by decide +kernel
theorem dX5_heat_14 : decode cX5_heat 14 = .ok (.lconst 0, 1) := by decide +kernel
theorem dX5_heat_15 : decode cX5_heat 15 = .ok (.ldc2_w 162, 3) := by decide +kernel
theorem dX5_heat_18 : decode cX5_heat 18 = .ok (.invokestatic 58, 3) := by decide +kernel
theorem dX5_heat_21 : decode cX5_heat 21 = .ok (.ifCond .ne 5, 3) := by decide +kernel
theorem dX5_heat_24 : decode cX5_heat 24 = .ok (.iconst (-1), 1) := by decide +kernel
theorem dX5_heat_25 : decode cX5_heat 25 = .ok (.ireturn, 1) := by decide +kernel
theorem dX5_heat_26 : decode cX5_heat 26 = .ok (.aload_n 0, 1) := by decide +kernel
theorem dX5_heat_27 : decode cX5_heat 27 = .ok (.getfield 37, 3) := by decide +kernel
theorem dX5_heat_30 : decode cX5_heat 30 = .ok (.iload_n 1, 1) := by decide +kernel
theorem dX5_heat_31 : decode cX5_heat 31 = .ok (.iaload, 1) := by decide +kernel
theorem dX5_heat_32 : decode cX5_heat 32 = .ok (.istore_n 3, 1) := by decide +kernel
theorem dX5_heat_33 : decode cX5_heat 33 = .ok (.aload_n 0, 1) := by decide +kernel
theorem dX5_heat_34 : decode cX5_heat 34 = .ok (.getfield 37, 3) := by decide +kernel
theorem dX5_heat_37 : decode cX5_heat 37 = .ok (.iload_n 1, 1) := by decide +kernel
theorem dX5_heat_38 : decode cX5_heat 38 = .ok (.iload_n 2, 1) := by decide +kernel
theorem dX5_heat_39 : decode cX5_heat 39 = .ok (.iastore, 1) := by decide +kernel
theorem dX5_heat_40 : decode cX5_heat 40 = .ok (.iload_n 3, 1) := by decide +kernel
