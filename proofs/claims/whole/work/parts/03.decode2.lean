theorem dX4_sausage_0 : decode cX4_sausage 0 = .ok (.aload_n 0, 1) := by decide +kernel
theorem dX4_sausage_1 : decode cX4_sausage 1 = .ok (.getfield 25, 3) := by decide +kernel
theorem dX4_sausage_4 : decode cX4_sausage 4 = .ok (.aload_n 0, 1) := by decide +kernel
theorem dX4_sausage_5 : decode cX4_sausage 5 = .ok (.getfield 16, 3) := by decide +kernel
theorem dX4_sausage_8 : decode cX4_sausage 8 = .ok (.invokevirtual 79, 3) := by decide +kernel
theorem dX4_sausage_11 : decode cX4_sausage 11 = .ok (.istore_n 1, 1) := by decide +kernel
theorem dX4_sausage_12 : decode cX4_sausage 12 = .ok (.iload_n 1, 1) := by decide +kernel
theorem dX4_sausage_13 : decode cX4_sausage 13 = .ok (.ifCond .ge 5, 3) := by decide +kernel
theorem dX4_sausage_16 : decode cX4_sausage 16 = .ok (.iload_n 1, 1) := by decide +kernel
theorem dX4_sausage_17 : decode cX4_sausage 17 = .ok (.ireturn, 1) := by decide +kernel
theorem dX4_sausage_18 : decode cX4_sausage 18 = .ok (.aload_n 0, 1) := by decide +kernel
theorem dX4_sausage_19 : decode cX4_sausage 19 = .ok (.getfield 10, 3) := by decide +kernel
theorem dX4_sausage_22 : decode cX4_sausage 22 = .ok (.aload_n 0, 1) := by decide +kernel
theorem dX4_sausage_23 : decode cX4_sausage 23 = .ok (.getfield 16, 3) := by decide +kernel
theorem dX4_sausage_26 : decode cX4_sausage 26 = .ok (.invokevirtual 83, 3) := by decide +kernel
theorem dX4_sausage_29 : decode cX4_sausage 29 = .ok (.aload_n 0, 1) := by decide +kernel
theorem dX4_sausage_30 : decode cX4_sausage 30 = .ok (.getfield 25, 3) := by decide +kernel
theorem dX4_sausage_33 : decode cX4_sausage 33 = .ok (.iconst 0, 1) := by decide +kernel
theorem dX4_sausage_34 : decode cX4_sausage 34 = .ok (.putfield 73, 3) := by decide +kernel
theorem dX4_sausage_37 : decode cX4_sausage 37 = .ok (.aload_n 0, 1) := by decide +kernel
theorem dX4_sausage_38 : decode cX4_sausage 38 = .ok (.getfield 32, 3) := by decide +kernel
theorem dX4_sausage_41 : decode cX4_sausage 41 = .ok (.aload_n 0, 1) := by decide +kernel
theorem dX4_sausage_42 : decode cX4_sausage 42 = .ok (.getfield 10, 3) := by decide +kernel
theorem dX4_sausage_45 : decode cX4_sausage 45 = .ok (.getfield 61, 3) := by decide +kernel
theorem dX4_sausage_48 : decode cX4_sausage 48 = .ok (.invokevirtual 65, 3) := by decide +kernel
theorem dX4_sausage_51 : decode cX4_sausage 51 = .ok (.iconst 0, 1) := by decide +kernel
theorem dX4_sausage_52 : decode cX4_sausage 52 = .ok (.istore_n 2, 1) := by decide +kernel
theorem dX4_sausage_53 : decode cX4_sausage 53 = .ok (.iload_n 2, 1) := by decide +kernel
theorem dX4_sausage_54 : decode cX4_sausage 54 = .ok (.iconst 2, 1) := by decide +kernel
theorem dX4_sausage_55 : decode cX4_sausage 55 = .ok (.if_icmp .ge 16, 3) := by decide +kernel
theorem dX4_sausage_58 : decode cX4_sausage 58 = .ok (.aload_n 0, 1) := by decide +kernel
theorem dX4_sausage_59 : decode cX4_sausage 59 = .ok (.getfield 47, 3) := by decide +kernel
theorem dX4_sausage_62 : decode cX4_sausage 62 = .ok (.iload_n 2, 1) := by decide +kernel
theorem dX4_sausage_63 : decode cX4_sausage 63 = .ok (.iconst 0, 1) := by decide +kernel
theorem dX4_sausage_64 : decode cX4_sausage 64 = .ok (.bastore, 1) := by decide +kernel
theorem dX4_sausage_65 : decode cX4_sausage 65 = .ok (.iinc 2 1, 3) := by decide +kernel
theorem dX4_sausage_68 : decode cX4_sausage 68 = .ok (.goto (-15), 3) := by decide +kernel
theorem dX4_sausage_71 : decode cX4_sausage 71 = .ok (.iload_n 1, 1) := by decide +kernel
theorem dX4_sausage_72 : decode cX4_sausage 72 = .ok (.ireturn, 1) := by decide +kernel
theorem dX4_told_0 : decode cX4_told 0 = .ok (.iload_n 1, 1) := by decide +kernel
theorem dX4_told_1 : decode cX4_told 1 = .ok (.tableswitch 147 0 10 #[59, 67, 75, 83, 91, 99, 107, 115, 123, 131, 139], 59) := by decide +kernel
theorem dX4_told_60 : decode cX4_told 60 = .ok (.aload_n 0, 1) := by decide +kernel
theorem dX4_told_61 : decode cX4_told 61 = .ok (.getfield 10, 3) := by decide +kernel
theorem dX4_told_64 : decode cX4_told 64 = .ok (.getfield 87, 3) := by decide +kernel
theorem dX4_told_67 : decode cX4_told 67 = .ok (.ireturn, 1) := by decide +kernel
theorem dX4_told_68 : decode cX4_told 68 = .ok (.aload_n 0, 1) := by decide +kernel
theorem dX4_told_69 : decode cX4_told 69 = .ok (.getfield 10, 3) := by decide +kernel
theorem dX4_told_72 : decode cX4_told 72 = .ok (.getfield 90, 3) := by decide +kernel
theorem dX4_told_75 : decode cX4_told 75 = .ok (.ireturn, 1) := by decide +kernel
theorem dX4_told_76 : decode cX4_told 76 = .ok (.aload_n 0, 1) := by decide +kernel
theorem dX4_told_77 : decode cX4_told 77 = .ok (.getfield 10, 3) := by decide +kernel
theorem dX4_told_80 : decode cX4_told 80 = .ok (.getfield 93, 3) := by decide +kernel
theorem dX4_told_83 : decode cX4_told 83 = .ok (.ireturn, 1) := by decide +kernel
theorem dX4_told_84 : decode cX4_told 84 = .ok (.aload_n 0, 1) := by decide +kernel
theorem dX4_told_85 : decode cX4_told 85 = .ok (.getfield 10, 3) := by decide +kernel
theorem dX4_told_88 : decode cX4_told 88 = .ok (.getfield 61, 3) := by decide +kernel
theorem dX4_told_91 : decode cX4_told 91 = .ok (.ireturn, 1) := by decide +kernel
theorem dX4_told_92 : decode cX4_told 92 = .ok (.aload_n 0, 1) := by decide +kernel
theorem dX4_told_93 : decode cX4_told 93 = .ok (.getfield 10, 3) := by decide +kernel
theorem dX4_told_96 : decode cX4_told 96 = .ok (.getfield 96, 3) := by decide +kernel
theorem dX4_told_99 : decode cX4_told 99 = .ok (.ireturn, 1) := by decide +kernel
theorem dX4_told_100 : decode cX4_told 100 = .ok (.aload_n 0, 1) := by decide +kernel
theorem dX4_told_101 : decode cX4_told 101 = .ok (.getfield 10, 3) := by decide +kernel
theorem dX4_told_104 : decode cX4_told 104 = .ok (.getfield 99, 3) := by decide +kernel
theorem dX4_told_107 : decode cX4_told 107 = .ok (.ireturn, 1) := by decide +kernel
theorem dX4_told_108 : decode cX4_told 108 = .ok (.aload_n 0, 1) := by decide +kernel
theorem dX4_told_109 : decode cX4_told 109 = .ok (.getfield 10, 3) := by decide +kernel
theorem dX4_told_112 : decode cX4_told 112 = .ok (.getfield 102, 3) := by decide +kernel
theorem dX4_told_115 : decode cX4_told 115 = .ok (.ireturn, 1) := by decide +kernel
theorem dX4_told_116 : decode cX4_told 116 = .ok (.aload_n 0, 1) := by decide +kernel
theorem dX4_told_117 : decode cX4_told 117 = .ok (.getfield 10, 3) := by decide +kernel
theorem dX4_told_120 : decode cX4_told 120 = .ok (.getfield 105, 3) := by decide +kernel
theorem dX4_told_123 : decode cX4_told 123 = .ok (.ireturn, 1) := by decide +kernel
theorem dX4_told_124 : decode cX4_told 124 = .ok (.aload_n 0, 1) := by decide +kernel
theorem dX4_told_125 : decode cX4_told 125 = .ok (.getfield 10, 3) := by decide +kernel
theorem dX4_told_128 : decode cX4_told 128 = .ok (.getfield 108, 3) := by decide +kernel
theorem dX4_told_131 : decode cX4_told 131 = .ok (.ireturn, 1) := by decide +kernel
theorem dX4_told_132 : decode cX4_told 132 = .ok (.aload_n 0, 1) := by decide +kernel
theorem dX4_told_133 : decode cX4_told 133 = .ok (.getfield 10, 3) := by decide +kernel
theorem dX4_told_136 : decode cX4_told 136 = .ok (.getfield 111, 3) := by decide +kernel
theorem dX4_told_139 : decode cX4_told 139 = .ok (.ireturn, 1) := by decide +kernel
theorem dX4_told_140 : decode cX4_told 140 = .ok (.aload_n 0, 1) := by decide +kernel
theorem dX4_told_141 : decode cX4_told 141 = .ok (.getfield 10, 3) := by decide +kernel
theorem dX4_told_144 : decode cX4_told 144 = .ok (.invokevirtual 114, 3) := by decide +kernel
theorem dX4_told_147 : decode cX4_told 147 = .ok (.ireturn, 1) := by decide +kernel
theorem dX4_told_148 : decode cX4_told 148 = .ok (.iconst (-1), 1) := by decide +kernel
theorem dX4_told_149 : decode cX4_told 149 = .ok (.ireturn, 1) := by decide +kernel
theorem dX4_doing_0 : decode cX4_doing 0 = .ok (.iload_n 1, 1) := by decide +kernel
theorem dX4_doing_1 : decode cX4_doing 1 = .ok (.iconst 0, 1) := by decide +kernel
theorem dX4_doing_2 : decode cX4_doing 2 = .ok (.aload_n 0, 1) := by decide +kernel
theorem dX4_doing_3 : decode cX4_doing 3 = .ok (.getfield 10, 3) := by decide +kernel
theorem dX4_doing_6 : decode cX4_doing 6 = .ok (.getfield 111, 3) := by decide +kernel
theorem dX4_doing_9 : decode cX4_doing 9 = .ok (.iconst 1, 1) := by decide +kernel
theorem dX4_doing_10 : decode cX4_doing 10 = .ok (.isub, 1) := by decide +kernel
theorem dX4_doing_11 : decode cX4_doing 11 = .ok (.invokestatic 69, 3) := by decide +kernel
theorem dX4_doing_14 : decode cX4_doing 14 = .ok (.ifCond .eq 5, 3) := by decide +kernel
theorem dX4_doing_17 : decode cX4_doing 17 = .ok (.iconst (-1), 1) := by decide +kernel
theorem dX4_doing_18 : decode cX4_doing 18 = .ok (.ireturn, 1) := by decide +kernel
theorem dX4_doing_19 : decode cX4_doing 19 = .ok (.iload_n 2, 1) := by decide +kernel
theorem dX4_doing_20 : decode cX4_doing 20 = .ok (.tableswitch 58 0 2 #[28, 38, 48], 28) := by decide +kernel
theorem dX4_doing_48 : decode cX4_doing 48 = .ok (.aload_n 0, 1) := by decide +kernel
theorem dX4_doing_49 : decode cX4_doing 49 = .ok (.getfield 10, 3) := by decide +kernel
theorem dX4_doing_52 : decode cX4_doing 52 = .ok (.getfield 118, 3) := by decide +kernel
theorem dX4_doing_55 : decode cX4_doing 55 = .ok (.iload_n 1, 1) := by decide +kernel
theorem dX4_doing_56 : decode cX4_doing 56 = .ok (.iaload, 1) := by decide +kernel
theorem dX4_doing_57 : decode cX4_doing 57 = .ok (.ireturn, 1) := by decide +kernel
theorem dX4_doing_58 : decode cX4_doing 58 = .ok (.aload_n 0, 1) := by decide +kernel
theorem dX4_doing_59 : decode cX4_doing 59 = .ok (.getfield 10, 3) := by decide +kernel
theorem dX4_doing_62 : decode cX4_doing 62 = .ok (.getfield 121, 3) := by decide +kernel
theorem dX4_doing_65 : decode cX4_doing 65 = .ok (.iload_n 1, 1) := by decide +kernel
theorem dX4_doing_66 : decode cX4_doing 66 = .ok (.iaload, 1) := by decide +kernel
theorem dX4_doing_67 : decode cX4_doing 67 = .ok (.ireturn, 1) := by decide +kernel
theorem dX4_doing_68 : decode cX4_doing 68 = .ok (.aload_n 0, 1) := by decide +kernel
theorem dX4_doing_69 : decode cX4_doing 69 = .ok (.getfield 10, 3) := by decide +kernel
theorem dX4_doing_72 : decode cX4_doing 72 = .ok (.getfield 124, 3) := by decide +kernel
theorem dX4_doing_75 : decode cX4_doing 75 = .ok (.iload_n 1, 1) := by decide +kernel
theorem dX4_doing_76 : decode cX4_doing 76 = .ok (.iaload, 1) := by decide +kernel
theorem dX4_doing_77 : decode cX4_doing 77 = .ok (.ireturn, 1) := by decide +kernel
theorem dX4_doing_78 : decode cX4_doing 78 = .ok (.iconst (-1), 1) := by decide +kernel
theorem dX4_doing_79 : decode cX4_doing 79 = .ok (.ireturn, 1) := by decide +kernel
theorem dX4_fire_0 : decode cX4_fire 0 = .ok (.iload_n 1, 1) := by decide +kernel
theorem dX4_fire_1 : decode cX4_fire 1 = .ok (.iconst 0, 1) := by decide +kernel
theorem dX4_fire_2 : decode cX4_fire 2 = .ok (.sipush 300, 3) := by decide +kernel
theorem dX4_fire_5 : decode cX4_fire 5 = .ok (.invokestatic 69, 3) := by decide +kernel
theorem dX4_fire_8 : decode cX4_fire 8 = .ok (.ifCond .ne 13, 3) := by decide +kernel
theorem dX4_fire_11 : decode cX4_fire 11 = .ok (.iload_n 2, 1) := by decide +kernel
theorem dX4_fire_12 : decode cX4_fire 12 = .ok (.iconst 1, 1) := by decide +kernel
theorem dX4_fire_13 : decode cX4_fire 13 = .ok (.bipush 99, 2) := by decide +kernel
theorem dX4_fire_15 : decode cX4_fire 15 = .ok (.invokestatic 69, 3) := by decide +kernel
theorem dX4_fire_18 : decode cX4_fire 18 = .ok (.ifCond .eq 5, 3) := by decide +kernel
theorem dX4_fire_21 : decode cX4_fire 21 = .ok (.iconst (-1), 1) := by decide +kernel
theorem dX4_fire_22 : decode cX4_fire 22 = .ok (.ireturn, 1) := by decide +kernel
theorem dX4_fire_23 : decode cX4_fire 23 = .ok (.aload_n 0, 1) := by decide +kernel
theorem dX4_fire_24 : decode cX4_fire 24 = .ok (.iconst 0, 1) := by decide +kernel
theorem dX4_fire_25 : decode cX4_fire 25 = .ok (.iload_n 1, 1) := by decide +kernel
theorem dX4_fire_26 : decode cX4_fire 26 = .ok (.iload_n 2, 1) := by decide +kernel
theorem dX4_fire_27 : decode cX4_fire 27 = .ok (.invokevirtual 127, 3) := by decide +kernel
theorem dX4_fire_30 : decode cX4_fire 30 = .ok (.ireturn, 1) := by decide +kernel
theorem dX4_simmer_0 : decode cX4_simmer 0 = .ok (.iload_n 1, 1) := by decide +kernel
theorem dX4_simmer_1 : decode cX4_simmer 1 = .ok (.bipush 20, 2) := by decide +kernel
theorem dX4_simmer_3 : decode cX4_simmer 3 = .ok (.bipush 100, 2) := by decide +kernel
theorem dX4_simmer_5 : decode cX4_simmer 5 = .ok (.invokestatic 69, 3) := by decide +kernel
theorem dX4_simmer_8 : decode cX4_simmer 8 = .ok (.ifCond .ne 13, 3) := by decide +kernel
theorem dX4_simmer_11 : decode cX4_simmer 11 = .ok (.iload_n 2, 1) := by decide +kernel
theorem dX4_simmer_12 : decode cX4_simmer 12 = .ok (.iconst 1, 1) := by decide +kernel
theorem dX4_simmer_13 : decode cX4_simmer 13 = .ok (.bipush 99, 2) := by decide +kernel
theorem dX4_simmer_15 : decode cX4_simmer 15 = .ok (.invokestatic 69, 3) := by decide +kernel
theorem dX4_simmer_18 : decode cX4_simmer 18 = .ok (.ifCond .eq 5, 3) := by decide +kernel
theorem dX4_simmer_21 : decode cX4_simmer 21 = .ok (.iconst (-1), 1) := by decide +kernel
theorem dX4_simmer_22 : decode cX4_simmer 22 = .ok (.ireturn, 1) := by decide +kernel
theorem dX4_simmer_23 : decode cX4_simmer 23 = .ok (.aload_n 0, 1) := by decide +kernel
theorem dX4_simmer_24 : decode cX4_simmer 24 = .ok (.iconst 3, 1) := by decide +kernel
theorem dX4_simmer_25 : decode cX4_simmer 25 = .ok (.iload_n 1, 1) := by decide +kernel
theorem dX4_simmer_26 : decode cX4_simmer 26 = .ok (.iload_n 2, 1) := by decide +kernel
theorem dX4_simmer_27 : decode cX4_simmer 27 = .ok (.invokevirtual 127, 3) := by decide +kernel
theorem dX4_simmer_30 : decode cX4_simmer 30 = .ok (.ireturn, 1) := by decide +kernel
theorem dX4_turn_0 : decode cX4_turn 0 = .ok (.iload_n 1, 1) := by decide +kernel
theorem dX4_turn_1 : decode cX4_turn 1 = .ok (.iconst 1, 1) := by decide +kernel
theorem dX4_turn_2 : decode cX4_turn 2 = .ok (.iconst 3, 1) := by decide +kernel
theorem dX4_turn_3 : decode cX4_turn 3 = .ok (.invokestatic 69, 3) := by decide +kernel
theorem dX4_turn_6 : decode cX4_turn 6 = .ok (.ifCond .eq 5, 3) := by decide +kernel
theorem dX4_turn_9 : decode cX4_turn 9 = .ok (.iconst (-1), 1) := by decide +kernel
theorem dX4_turn_10 : decode cX4_turn 10 = .ok (.ireturn, 1) := by decide +kernel
theorem dX4_turn_11 : decode cX4_turn 11 = .ok (.aload_n 0, 1) := by decide +kernel
theorem dX4_turn_12 : decode cX4_turn 12 = .ok (.getfield 32, 3) := by decide +kernel
theorem dX4_turn_15 : decode cX4_turn 15 = .ok (.iload_n 1, 1) := by decide +kernel
theorem dX4_turn_16 : decode cX4_turn 16 = .ok (.invokevirtual 131, 3) := by decide +kernel
theorem dX4_turn_19 : decode cX4_turn 19 = .ok (.aload_n 0, 1) := by decide +kernel
theorem dX4_turn_20 : decode cX4_turn 20 = .ok (.getfield 32, 3) := by decide +kernel
theorem dX4_turn_23 : decode cX4_turn 23 = .ok (.getfield 134, 3) := by decide +kernel
theorem dX4_turn_26 : decode cX4_turn 26 = .ok (.ireturn, 1) := by decide +kernel
theorem dX4_prick_0 : decode cX4_prick 0 = .ok (.iload_n 1, 1) := by decide +kernel
theorem dX4_prick_1 : decode cX4_prick 1 = .ok (.iconst 1, 1) := by decide +kernel
theorem dX4_prick_2 : decode cX4_prick 2 = .ok (.bipush 9, 2) := by decide +kernel
theorem dX4_prick_4 : decode cX4_prick 4 = .ok (.invokestatic 69, 3) := by decide +kernel
theorem dX4_prick_7 : decode cX4_prick 7 = .ok (.ifCond .eq 5, 3) := by decide +kernel
theorem dX4_prick_10 : decode cX4_prick 10 = .ok (.iconst (-1), 1) := by decide +kernel
theorem dX4_prick_11 : decode cX4_prick 11 = .ok (.ireturn, 1) := by decide +kernel
theorem dX4_prick_12 : decode cX4_prick 12 = .ok (.aload_n 0, 1) := by decide +kernel
theorem dX4_prick_13 : decode cX4_prick 13 = .ok (.getfield 32, 3) := by decide +kernel
theorem dX4_prick_16 : decode cX4_prick 16 = .ok (.iload_n 1, 1) := by decide +kernel
theorem dX4_prick_17 : decode cX4_prick 17 = .ok (.invokevirtual 137, 3) := by decide +kernel
theorem dX4_prick_20 : decode cX4_prick 20 = .ok (.aload_n 0, 1) := by decide +kernel
theorem dX4_prick_21 : decode cX4_prick 21 = .ok (.getfield 32, 3) := by decide +kernel
theorem dX4_prick_24 : decode cX4_prick 24 = .ok (.getfield 140, 3) := by decide +kernel
theorem dX4_prick_27 : decode cX4_prick 27 = .ok (.ireturn, 1) := by decide +kernel
theorem dX4_spots_0 : decode cX4_spots 0 = .ok (.iload_n 1, 1) := by decide +kernel
theorem dX4_spots_1 : decode cX4_spots 1 = .ok (.iconst 0, 1) := by decide +kernel
theorem dX4_spots_2 : decode cX4_spots 2 = .ok (.bipush 15, 2) := by decide +kernel
theorem dX4_spots_4 : decode cX4_spots 4 = .ok (.invokestatic 69, 3) := by decide +kernel
theorem dX4_spots_7 : decode cX4_spots 7 = .ok (.ifCond .eq 5, 3) := by decide +kernel
theorem dX4_spots_10 : decode cX4_spots 10 = .ok (.iconst (-1), 1) := by decide +kernel
theorem dX4_spots_11 : decode cX4_spots 11 = .ok (.ireturn, 1) := by decide +kernel
theorem dX4_spots_12 : decode cX4_spots 12 = .ok (.aload_n 0, 1) := by decide +kernel
theorem dX4_spots_13 : decode cX4_spots 13 = .ok (.getfield 32, 3) := by decide +kernel
theorem dX4_spots_16 : decode cX4_spots 16 = .ok (.getfield 143, 3) := by decide +kernel
theorem dX4_spots_19 : decode cX4_spots 19 = .ok (.istore_n 2, 1) := by decide +kernel
theorem dX4_spots_20 : decode cX4_spots 20 = .ok (.aload_n 0, 1) := by decide +kernel
theorem dX4_spots_21 : decode cX4_spots 21 = .ok (.getfield 32, 3) := by decide +kernel
theorem dX4_spots_24 : decode cX4_spots 24 = .ok (.iload_n 1, 1) := by decide +kernel
theorem dX4_spots_25 : decode cX4_spots 25 = .ok (.putfield 143, 3) := by decide +kernel
theorem dX4_spots_28 : decode cX4_spots 28 = .ok (.iload_n 2, 1) := by decide +kernel
theorem dX4_spots_29 : decode cX4_spots 29 = .ok (.ireturn, 1) := by decide +kernel
theorem dX4_face_0 : decode cX4_face 0 = .ok (.iload_n 1, 1) := by decide +kernel
theorem dX4_face_1 : decode cX4_face 1 = .ok (.iconst 0, 1) := by decide +kernel
theorem dX4_face_2 : decode cX4_face 2 = .ok (.iconst 3, 1) := by decide +kernel
theorem dX4_face_3 : decode cX4_face 3 = .ok (.invokestatic 69, 3) := by decide +kernel
theorem dX4_face_6 : decode cX4_face 6 = .ok (.ifCond .eq 5, 3) := by decide +kernel
theorem dX4_face_9 : decode cX4_face 9 = .ok (.iconst (-1), 1) := by decide +kernel
theorem dX4_face_10 : decode cX4_face 10 = .ok (.ireturn, 1) := by decide +kernel
theorem dX4_face_11 : decode cX4_face 11 = .ok (.iload_n 2, 1) := by decide +kernel
theorem dX4_face_12 : decode cX4_face 12 = .ok (.tableswitch 85 0 3 #[32, 42, 52, 65], 32) := by decide +kernel
theorem dX4_face_44 : decode cX4_face 44 = .ok (.aload_n 0, 1) := by decide +kernel
theorem dX4_face_45 : decode cX4_face 45 = .ok (.getfield 32, 3) := by decide +kernel
theorem dX4_face_48 : decode cX4_face 48 = .ok (.getfield 146, 3) := by decide +kernel
theorem dX4_face_51 : decode cX4_face 51 = .ok (.iload_n 1, 1) := by decide +kernel
theorem dX4_face_52 : decode cX4_face 52 = .ok (.iaload, 1) := by decide +kernel
theorem dX4_face_53 : decode cX4_face 53 = .ok (.ireturn, 1) := by decide +kernel
theorem dX4_face_54 : decode cX4_face 54 = .ok (.aload_n 0, 1) := by decide +kernel
theorem dX4_face_55 : decode cX4_face 55 = .ok (.getfield 32, 3) := by decide +kernel
theorem dX4_face_58 : decode cX4_face 58 = .ok (.getfield 149, 3) := by decide +kernel
theorem dX4_face_61 : decode cX4_face 61 = .ok (.iload_n 1, 1) := by decide +kernel
theorem dX4_face_62 : decode cX4_face 62 = .ok (.iaload, 1) := by decide +kernel
theorem dX4_face_63 : decode cX4_face 63 = .ok (.ireturn, 1) := by decide +kernel
theorem dX4_face_64 : decode cX4_face 64 = .ok (.aload_n 0, 1) := by decide +kernel
theorem dX4_face_65 : decode cX4_face 65 = .ok (.getfield 32, 3) := by decide +kernel
theorem dX4_face_68 : decode cX4_face 68 = .ok (.iload_n 1, 1) := by decide +kernel
theorem dX4_face_69 : decode cX4_face 69 = .ok (.aload_n 0, 1) := by decide +kernel
theorem dX4_face_70 : decode cX4_face 70 = .ok (.getfield 10, 3) := by decide +kernel
theorem dX4_face_73 : decode cX4_face 73 = .ok (.invokevirtual 152, 3) := by decide +kernel
theorem dX4_face_76 : decode cX4_face 76 = .ok (.ireturn, 1) := by decide +kernel
theorem dX4_face_77 : decode cX4_face 77 = .ok (.iload_n 1, 1) := by decide +kernel
theorem dX4_face_78 : decode cX4_face 78 = .ok (.aload_n 0, 1) := by decide +kernel
theorem dX4_face_79 : decode cX4_face 79 = .ok (.getfield 10, 3) := by decide +kernel
theorem dX4_face_82 : decode cX4_face 82 = .ok (.aload_n 0, 1) := by decide +kernel
theorem dX4_face_83 : decode cX4_face 83 = .ok (.getfield 32, 3) := by decide +kernel
theorem dX4_face_86 : decode cX4_face 86 = .ok (.aload_n 0, 1) := by decide +kernel
theorem dX4_face_87 : decode cX4_face 87 = .ok (.getfield 10, 3) := by decide +kernel
theorem dX4_face_90 : decode cX4_face 90 = .ok (.invokevirtual 156, 3) := by decide +kernel
theorem dX4_face_93 : decode cX4_face 93 = .ok (.invokestatic 159, 3) := by decide +kernel
theorem dX4_face_96 : decode cX4_face 96 = .ok (.ireturn, 1) := by decide +kernel
theorem dX4_face_97 : decode cX4_face 97 = .ok (.iconst (-1), 1) := by decide +kernel
theorem dX4_face_98 : decode cX4_face 98 = .ok (.ireturn, 1) := by decide +kernel
theorem dX4_now_0 : decode cX4_now 0 = .ok (.iload_n 1, 1) := by decide +kernel
theorem dX4_now_1 : decode cX4_now 1 = .ok (.tableswitch 150 0 9 #[55, 63, 71, 79, 87, 95, 103, 111, 123, 142], 55) := by decide +kernel
theorem dX4_now_56 : decode cX4_now 56 = .ok (.aload_n 0, 1) := by decide +kernel
theorem dX4_now_57 : decode cX4_now 57 = .ok (.getfield 32, 3) := by decide +kernel
theorem dX4_now_60 : decode cX4_now 60 = .ok (.getfield 134, 3) := by decide +kernel
theorem dX4_now_63 : decode cX4_now 63 = .ok (.ireturn, 1) := by decide +kernel
theorem dX4_now_64 : decode cX4_now 64 = .ok (.aload_n 0, 1) := by decide +kernel
theorem dX4_now_65 : decode cX4_now 65 = .ok (.getfield 32, 3) := by decide +kernel
theorem dX4_now_68 : decode cX4_now 68 = .ok (.getfield 163, 3) := by decide +kernel
theorem dX4_now_71 : decode cX4_now 71 = .ok (.ireturn, 1) := by decide +kernel
theorem dX4_now_72 : decode cX4_now 72 = .ok (.aload_n 0, 1) := by decide +kernel
theorem dX4_now_73 : decode cX4_now 73 = .ok (.getfield 32, 3) := by decide +kernel
theorem dX4_now_76 : decode cX4_now 76 = .ok (.getfield 166, 3) := by decide +kernel
theorem dX4_now_79 : decode cX4_now 79 = .ok (.ireturn, 1) := by decide +kernel
theorem dX4_now_80 : decode cX4_now 80 = .ok (.aload_n 0, 1) := by decide +kernel
theorem dX4_now_81 : decode cX4_now 81 = .ok (.getfield 32, 3) := by decide +kernel
theorem dX4_now_84 : decode cX4_now 84 = .ok (.getfield 140, 3) := by decide +kernel
theorem dX4_now_87 : decode cX4_now 87 = .ok (.ireturn, 1) := by decide +kernel
theorem dX4_now_88 : decode cX4_now 88 = .ok (.aload_n 0, 1) := by decide +kernel
theorem dX4_now_89 : decode cX4_now 89 = .ok (.getfield 32, 3) := by decide +kernel
theorem dX4_now_92 : decode cX4_now 92 = .ok (.getfield 167, 3) := by decide +kernel
theorem dX4_now_95 : decode cX4_now 95 = .ok (.ireturn, 1) := by decide +kernel
theorem dX4_now_96 : decode cX4_now 96 = .ok (.aload_n 0, 1) := by decide +kernel
theorem dX4_now_97 : decode cX4_now 97 = .ok (.getfield 32, 3) := by decide +kernel
theorem dX4_now_100 : decode cX4_now 100 = .ok (.getfield 169, 3) := by decide +kernel
theorem dX4_now_103 : decode cX4_now 103 = .ok (.ireturn, 1) := by decide +kernel
theorem dX4_now_104 : decode cX4_now 104 = .ok (.aload_n 0, 1) := by decide +kernel
theorem dX4_now_105 : decode cX4_now 105 = .ok (.getfield 32, 3) := by decide +kernel
theorem dX4_now_108 : decode cX4_now 108 = .ok (.getfield 172, 3) := by decide +kernel
theorem dX4_now_111 : decode cX4_now 111 = .ok (.ireturn, 1) := by decide +kernel
theorem dX4_now_112 : decode cX4_now 112 = .ok (.aload_n 0, 1) := by decide +kernel
theorem dX4_now_113 : decode cX4_now 113 = .ok (.getfield 32, 3) := by decide +kernel
theorem dX4_now_116 : decode cX4_now 116 = .ok (.aload_n 0, 1) := by decide +kernel
theorem dX4_now_117 : decode cX4_now 117 = .ok (.getfield 10, 3) := by decide +kernel
theorem dX4_now_120 : decode cX4_now 120 = .ok (.invokevirtual 156, 3) := by decide +kernel
theorem dX4_now_123 : decode cX4_now 123 = .ok (.ireturn, 1) := by decide +kernel
theorem dX4_now_124 : decode cX4_now 124 = .ok (.aload_n 0, 1) := by decide +kernel
theorem dX4_now_125 : decode cX4_now 125 = .ok (.getfield 10, 3) := by decide +kernel
theorem dX4_now_128 : decode cX4_now 128 = .ok (.aload_n 0, 1) := by decide +kernel
theorem dX4_now_129 : decode cX4_now 129 = .ok (.getfield 32, 3) := by decide +kernel
theorem dX4_now_132 : decode cX4_now 132 = .ok (.aload_n 0, 1) := by decide +kernel
theorem dX4_now_133 : decode cX4_now 133 = .ok (.getfield 10, 3) := by decide +kernel
theorem dX4_now_136 : decode cX4_now 136 = .ok (.invokevirtual 156, 3) := by decide +kernel
theorem dX4_now_139 : decode cX4_now 139 = .ok (.invokestatic 175, 3) := by decide +kernel
theorem dX4_now_142 : decode cX4_now 142 = .ok (.ireturn, 1) := by decide +kernel
theorem dX4_now_143 : decode cX4_now 143 = .ok (.aload_n 0, 1) := by decide +kernel
theorem dX4_now_144 : decode cX4_now 144 = .ok (.getfield 32, 3) := by decide +kernel
theorem dX4_now_147 : decode cX4_now 147 = .ok (.getfield 179, 3) := by decide +kernel
theorem dX4_now_150 : decode cX4_now 150 = .ok (.ireturn, 1) := by decide +kernel
theorem dX4_now_151 : decode cX4_now 151 = .ok (.iconst (-1), 1) := by decide +kernel
theorem dX4_now_152 : decode cX4_now 152 = .ok (.ireturn, 1) := by decide +kernel
theorem dX4_anew_0 : decode cX4_anew 0 = .ok (.aload_n 0, 1) := by decide +kernel
theorem dX4_anew_1 : decode cX4_anew 1 = .ok (.getfield 32, 3) := by decide +kernel
theorem dX4_anew_4 : decode cX4_anew 4 = .ok (.getfield 167, 3) := by decide +kernel
theorem dX4_anew_7 : decode cX4_anew 7 = .ok (.istore_n 1, 1) := by decide +kernel
theorem dX4_anew_8 : decode cX4_anew 8 = .ok (.aload_n 0, 1) := by decide +kernel
theorem dX4_anew_9 : decode cX4_anew 9 = .ok (.getfield 32, 3) := by decide +kernel
theorem dX4_anew_12 : decode cX4_anew 12 = .ok (.aload_n 0, 1) := by decide +kernel
theorem dX4_anew_13 : decode cX4_anew 13 = .ok (.getfield 10, 3) := by decide +kernel
theorem dX4_anew_16 : decode cX4_anew 16 = .ok (.getfield 61, 3) := by decide +kernel
theorem dX4_anew_19 : decode cX4_anew 19 = .ok (.invokevirtual 65, 3) := by decide +kernel
theorem dX4_anew_22 : decode cX4_anew 22 = .ok (.iload_n 1, 1) := by decide +kernel
theorem dX4_anew_23 : decode cX4_anew 23 = .ok (.ireturn, 1) := by decide +kernel
theorem dX4_run_0 : decode cX4_run 0 = .ok (.iload_n 1, 1) := by decide +kernel
theorem dX4_run_1 : decode cX4_run 1 = .ok (.iconst 0, 1) := by decide +kernel
theorem dX4_run_2 : decode cX4_run 2 = .ok (.bipush 15, 2) := by decide +kernel
theorem dX4_run_4 : decode cX4_run 4 = .ok (.invokestatic 69, 3) := by decide +kernel
theorem dX4_run_7 : decode cX4_run 7 = .ok (.ifCond .ne 13, 3) := by decide +kernel
theorem dX4_run_10 : decode cX4_run 10 = .ok (.iload_n 2, 1) := by decide +kernel
theorem dX4_run_11 : decode cX4_run 11 = .ok (.iconst 0, 1) := by decide +kernel
theorem dX4_run_12 : decode cX4_run 12 = .ok (.bipush 10, 2) := by decide +kernel
theorem dX4_run_14 : decode cX4_run 14 = .ok (.invokestatic 69, 3) := by decide +kernel
theorem dX4_run_17 : decode cX4_run 17 = .ok (.ifCond .eq 5, 3) := by decide +kernel
theorem dX4_run_20 : decode cX4_run 20 = .ok (.iconst (-1), 1) := by decide +kernel
theorem dX4_run_21 : decode cX4_run 21 = .ok (.ireturn, 1) := by decide +kernel
theorem dX4_run_22 : decode cX4_run 22 = .ok (.aload_n 0, 1) := by decide +kernel
theorem dX4_run_23 : decode cX4_run 23 = .ok (.getfield 39, 3) := by decide +kernel
theorem dX4_run_26 : decode cX4_run 26 = .ok (.aload_n 0, 1) := by decide +kernel
theorem dX4_run_27 : decode cX4_run 27 = .ok (.getfield 10, 3) := by decide +kernel
theorem dX4_run_30 : decode cX4_run 30 = .ok (.iload_n 1, 1) := by decide +kernel
theorem dX4_run_31 : decode cX4_run 31 = .ok (.invokevirtual 182, 3) := by decide +kernel
theorem dX4_run_34 : decode cX4_run 34 = .ok (.aload_n 0, 1) := by decide +kernel
theorem dX4_run_35 : decode cX4_run 35 = .ok (.getfield 39, 3) := by decide +kernel
theorem dX4_run_38 : decode cX4_run 38 = .ok (.aload_n 0, 1) := by decide +kernel
theorem dX4_run_39 : decode cX4_run 39 = .ok (.getfield 10, 3) := by decide +kernel
theorem dX4_run_42 : decode cX4_run 42 = .ok (.aload_n 0, 1) := by decide +kernel
theorem dX4_run_43 : decode cX4_run 43 = .ok (.getfield 10, 3) := by decide +kernel
theorem dX4_run_46 : decode cX4_run 46 = .ok (.invokevirtual 114, 3) := by decide +kernel
theorem dX4_run_49 : decode cX4_run 49 = .ok (.iconst 0, 1) := by decide +kernel
theorem dX4_run_50 : decode cX4_run 50 = .ok (.invokevirtual 186, 3) := by decide +kernel
theorem dX4_run_53 : decode cX4_run 53 = .ok (.iload_n 2, 1) := by decide +kernel
theorem dX4_run_54 : decode cX4_run 54 = .ok (.tableswitch 152 0 9 #[54, 62, 73, 84, 95, 106, 117, 128, 136, 144], 54) := by decide +kernel
theorem dX4_run_108 : decode cX4_run 108 = .ok (.aload_n 0, 1) := by decide +kernel
theorem dX4_run_109 : decode cX4_run 109 = .ok (.getfield 39, 3) := by decide +kernel
theorem dX4_run_112 : decode cX4_run 112 = .ok (.getfield 190, 3) := by decide +kernel
theorem dX4_run_115 : decode cX4_run 115 = .ok (.ireturn, 1) := by decide +kernel
theorem dX4_run_116 : decode cX4_run 116 = .ok (.aload_n 0, 1) := by decide +kernel
theorem dX4_run_117 : decode cX4_run 117 = .ok (.getfield 39, 3) := by decide +kernel
theorem dX4_run_120 : decode cX4_run 120 = .ok (.getfield 193, 3) := by decide +kernel
theorem dX4_run_123 : decode cX4_run 123 = .ok (.getfield 169, 3) := by decide +kernel
theorem dX4_run_126 : decode cX4_run 126 = .ok (.ireturn, 1) := by decide +kernel
theorem dX4_run_127 : decode cX4_run 127 = .ok (.aload_n 0, 1) := by decide +kernel
theorem dX4_run_128 : decode cX4_run 128 = .ok (.getfield 39, 3) := by decide +kernel
theorem dX4_run_131 : decode cX4_run 131 = .ok (.getfield 193, 3) := by decide +kernel
theorem dX4_run_134 : decode cX4_run 134 = .ok (.getfield 172, 3) := by decide +kernel
theorem dX4_run_137 : decode cX4_run 137 = .ok (.ireturn, 1) := by decide +kernel
theorem dX4_run_138 : decode cX4_run 138 = .ok (.aload_n 0, 1) := by decide +kernel
theorem dX4_run_139 : decode cX4_run 139 = .ok (.getfield 39, 3) := by decide +kernel
theorem dX4_run_142 : decode cX4_run 142 = .ok (.getfield 193, 3) := by decide +kernel
theorem dX4_run_145 : decode cX4_run 145 = .ok (.invokevirtual 196, 3) := by decide +kernel
theorem dX4_run_148 : decode cX4_run 148 = .ok (.ireturn, 1) := by decide +kernel
theorem dX4_run_149 : decode cX4_run 149 = .ok (.aload_n 0, 1) := by decide +kernel
theorem dX4_run_150 : decode cX4_run 150 = .ok (.getfield 39, 3) := by decide +kernel
theorem dX4_run_153 : decode cX4_run 153 = .ok (.getfield 193, 3) := by decide +kernel
theorem dX4_run_156 : decode cX4_run 156 = .ok (.invokevirtual 199, 3) := by decide +kernel
theorem dX4_run_159 : decode cX4_run 159 = .ok (.ireturn, 1) := by decide +kernel
theorem dX4_run_160 : decode cX4_run 160 = .ok (.aload_n 0, 1) := by decide +kernel
theorem dX4_run_161 : decode cX4_run 161 = .ok (.getfield 39, 3) := by decide +kernel
theorem dX4_run_164 : decode cX4_run 164 = .ok (.getfield 193, 3) := by decide +kernel
theorem dX4_run_167 : decode cX4_run 167 = .ok (.getfield 163, 3) := by decide +kernel
theorem dX4_run_170 : decode cX4_run 170 = .ok (.ireturn, 1) := by decide +kernel
theorem dX4_run_171 : decode cX4_run 171 = .ok (.aload_n 0, 1) := by decide +kernel
theorem dX4_run_172 : decode cX4_run 172 = .ok (.getfield 39, 3) := by decide +kernel
theorem dX4_run_175 : decode cX4_run 175 = .ok (.getfield 193, 3) := by decide +kernel
theorem dX4_run_178 : decode cX4_run 178 = .ok (.getfield 166, 3) := by decide +kernel
theorem dX4_run_181 : decode cX4_run 181 = .ok (.ireturn, 1) := by decide +kernel
theorem dX4_run_182 : decode cX4_run 182 = .ok (.aload_n 0, 1) := by decide +kernel
theorem dX4_run_183 : decode cX4_run 183 = .ok (.getfield 39, 3) := by decide +kernel
theorem dX4_run_186 : decode cX4_run 186 = .ok (.getfield 202, 3) := by decide +kernel
theorem dX4_run_189 : decode cX4_run 189 = .ok (.ireturn, 1) := by decide +kernel
theorem dX4_run_190 : decode cX4_run 190 = .ok (.aload_n 0, 1) := by decide +kernel
theorem dX4_run_191 : decode cX4_run 191 = .ok (.getfield 39, 3) := by decide +kernel
theorem dX4_run_194 : decode cX4_run 194 = .ok (.getfield 205, 3) := by decide +kernel
theorem dX4_run_197 : decode cX4_run 197 = .ok (.ireturn, 1) := by decide +kernel
theorem dX4_run_198 : decode cX4_run 198 = .ok (.aload_n 0, 1) := by decide +kernel
theorem dX4_run_199 : decode cX4_run 199 = .ok (.getfield 39, 3) := by decide +kernel
theorem dX4_run_202 : decode cX4_run 202 = .ok (.getfield 208, 3) := by decide +kernel
theorem dX4_run_205 : decode cX4_run 205 = .ok (.ireturn, 1) := by decide +kernel
theorem dX4_run_206 : decode cX4_run 206 = .ok (.aload_n 0, 1) := by decide +kernel
theorem dX4_run_207 : decode cX4_run 207 = .ok (.getfield 39, 3) := by decide +kernel
theorem dX4_run_210 : decode cX4_run 210 = .ok (.invokevirtual 211, 3) := by decide +kernel
theorem dX4_run_213 : decode cX4_run 213 = .ok (.ireturn, 1) := by decide +kernel
theorem dX4_odds_0 : decode cX4_odds 0 = .ok (.iconst 0, 1) := by decide +kernel
theorem dX4_odds_1 : decode cX4_odds 1 = .ok (.istore_n 1, 1) := by decide +kernel
theorem dX4_odds_2 : decode cX4_odds 2 = .ok (.iconst 0, 1) := by decide +kernel
theorem dX4_odds_3 : decode cX4_odds 3 = .ok (.istore_n 2, 1) := by decide +kernel
theorem dX4_odds_4 : decode cX4_odds 4 = .ok (.iload_n 2, 1) := by decide +kernel
theorem dX4_odds_5 : decode cX4_odds 5 = .ok (.bipush 15, 2) := by decide +kernel
theorem dX4_odds_7 : decode cX4_odds 7 = .ok (.if_icmp .gt 42, 3) := by decide +kernel
theorem dX4_odds_10 : decode cX4_odds 10 = .ok (.aload_n 0, 1) := by decide +kernel
theorem dX4_odds_11 : decode cX4_odds 11 = .ok (.iload_n 2, 1) := by decide +kernel
theorem dX4_odds_12 : decode cX4_odds 12 = .ok (.invokevirtual 214, 3) := by decide +kernel
theorem dX4_odds_15 : decode cX4_odds 15 = .ok (.istore_n 3, 1) := by decide +kernel
theorem dX4_odds_16 : decode cX4_odds 16 = .ok (.iload_n 3, 1) := by decide +kernel
theorem dX4_odds_17 : decode cX4_odds 17 = .ok (.ifCond .le 26, 3) := by decide +kernel
theorem dX4_odds_20 : decode cX4_odds 20 = .ok (.aload_n 0, 1) := by decide +kernel
theorem dX4_odds_21 : decode cX4_odds 21 = .ok (.getfield 39, 3) := by decide +kernel
theorem dX4_odds_24 : decode cX4_odds 24 = .ok (.aload_n 0, 1) := by decide +kernel
theorem dX4_odds_25 : decode cX4_odds 25 = .ok (.getfield 10, 3) := by decide +kernel
theorem dX4_odds_28 : decode cX4_odds 28 = .ok (.iload_n 2, 1) := by decide +kernel
theorem dX4_odds_29 : decode cX4_odds 29 = .ok (.invokevirtual 182, 3) := by decide +kernel
theorem dX4_odds_32 : decode cX4_odds 32 = .ok (.aload_n 0, 1) := by decide +kernel
theorem dX4_odds_33 : decode cX4_odds 33 = .ok (.invokevirtual 218, 3) := by decide +kernel
theorem dX4_odds_36 : decode cX4_odds 36 = .ok (.ifCond .ne 7, 3) := by decide +kernel
theorem dX4_odds_39 : decode cX4_odds 39 = .ok (.iload_n 1, 1) := by decide +kernel
theorem dX4_odds_40 : decode cX4_odds 40 = .ok (.iload_n 3, 1) := by decide +kernel
theorem dX4_odds_41 : decode cX4_odds 41 = .ok (.iadd, 1) := by decide +kernel
theorem dX4_odds_42 : decode cX4_odds 42 = .ok (.istore_n 1, 1) := by decide +kernel
theorem dX4_odds_43 : decode cX4_odds 43 = .ok (.iinc 2 1, 3) := by decide +kernel
theorem dX4_odds_46 : decode cX4_odds 46 = .ok (.goto (-42), 3) := by decide +kernel
theorem dX4_odds_49 : decode cX4_odds 49 = .ok (.iload_n 1, 1) := by decide +kernel
theorem dX4_odds_50 : decode cX4_odds 50 = .ok (.ireturn, 1) := by decide +kernel
theorem dX4_pricks_0 : decode cX4_pricks 0 = .ok (.iload_n 1, 1) := by decide +kernel
theorem dX4_pricks_1 : decode cX4_pricks 1 = .ok (.iconst 0, 1) := by decide +kernel
theorem dX4_pricks_2 : decode cX4_pricks 2 = .ok (.iconst 1, 1) := by decide +kernel
theorem dX4_pricks_3 : decode cX4_pricks 3 = .ok (.invokestatic 69, 3) := by decide +kernel
theorem dX4_pricks_6 : decode cX4_pricks 6 = .ok (.ifCond .eq 5, 3) := by decide +kernel
theorem dX4_pricks_9 : decode cX4_pricks 9 = .ok (.iconst (-1), 1) := by decide +kernel
theorem dX4_pricks_10 : decode cX4_pricks 10 = .ok (.ireturn, 1) := by decide +kernel
theorem dX4_pricks_11 : decode cX4_pricks 11 = .ok (.iconst 0, 1) := by decide +kernel
theorem dX4_pricks_12 : decode cX4_pricks 12 = .ok (.istore_n 2, 1) := by decide +kernel
theorem dX4_pricks_13 : decode cX4_pricks 13 = .ok (.iload_n 2, 1) := by decide +kernel
theorem dX4_pricks_14 : decode cX4_pricks 14 = .ok (.bipush 9, 2) := by decide +kernel
theorem dX4_pricks_16 : decode cX4_pricks 16 = .ok (.if_icmp .gt 59, 3) := by decide +kernel
theorem dX4_pricks_19 : decode cX4_pricks 19 = .ok (.aload_n 0, 1) := by decide +kernel
theorem dX4_pricks_20 : decode cX4_pricks 20 = .ok (.getfield 39, 3) := by decide +kernel
theorem dX4_pricks_23 : decode cX4_pricks 23 = .ok (.aload_n 0, 1) := by decide +kernel
theorem dX4_pricks_24 : decode cX4_pricks 24 = .ok (.getfield 10, 3) := by decide +kernel
theorem dX4_pricks_27 : decode cX4_pricks 27 = .ok (.bipush 15, 2) := by decide +kernel
theorem dX4_pricks_29 : decode cX4_pricks 29 = .ok (.invokevirtual 182, 3) := by decide +kernel
theorem dX4_pricks_32 : decode cX4_pricks 32 = .ok (.aload_n 0, 1) := by decide +kernel
theorem dX4_pricks_33 : decode cX4_pricks 33 = .ok (.getfield 39, 3) := by decide +kernel
theorem dX4_pricks_36 : decode cX4_pricks 36 = .ok (.getfield 193, 3) := by decide +kernel
theorem dX4_pricks_39 : decode cX4_pricks 39 = .ok (.iload_n 2, 1) := by decide +kernel
theorem dX4_pricks_40 : decode cX4_pricks 40 = .ok (.invokevirtual 137, 3) := by decide +kernel
theorem dX4_pricks_43 : decode cX4_pricks 43 = .ok (.aload_n 0, 1) := by decide +kernel
theorem dX4_pricks_44 : decode cX4_pricks 44 = .ok (.invokevirtual 218, 3) := by decide +kernel
theorem dX4_pricks_47 : decode cX4_pricks 47 = .ok (.ifCond .eq 22, 3) := by decide +kernel
theorem dX4_pricks_50 : decode cX4_pricks 50 = .ok (.iload_n 1, 1) := by decide +kernel
theorem dX4_pricks_51 : decode cX4_pricks 51 = .ok (.ifCond .ne 7, 3) := by decide +kernel
theorem dX4_pricks_54 : decode cX4_pricks 54 = .ok (.iload_n 2, 1) := by decide +kernel
theorem dX4_pricks_55 : decode cX4_pricks 55 = .ok (.goto 13, 3) := by decide +kernel
theorem dX4_pricks_58 : decode cX4_pricks 58 = .ok (.aload_n 0, 1) := by decide +kernel
theorem dX4_pricks_59 : decode cX4_pricks 59 = .ok (.getfield 39, 3) := by decide +kernel
theorem dX4_pricks_62 : decode cX4_pricks 62 = .ok (.getfield 193, 3) := by decide +kernel
theorem dX4_pricks_65 : decode cX4_pricks 65 = .ok (.getfield 166, 3) := by decide +kernel
theorem dX4_pricks_68 : decode cX4_pricks 68 = .ok (.ireturn, 1) := by decide +kernel
theorem dX4_pricks_69 : decode cX4_pricks 69 = .ok (.iinc 2 1, 3) := by decide +kernel
theorem dX4_pricks_72 : decode cX4_pricks 72 = .ok (.goto (-59), 3) := by decide +kernel
theorem dX4_pricks_75 : decode cX4_pricks 75 = .ok (.bipush (-9), 2) := by decide +kernel
theorem dX4_pricks_77 : decode cX4_pricks 77 = .ok (.ireturn, 1) := by decide +kernel
theorem dX4_simmered_0 : decode cX4_simmered 0 = .ok (.iload_n 1, 1) := by decide +kernel
theorem dX4_simmered_1 : decode cX4_simmered 1 = .ok (.iconst 0, 1) := by decide +kernel
theorem dX4_simmered_2 : decode cX4_simmered 2 = .ok (.iconst 1, 1) := by decide +kernel
theorem dX4_simmered_3 : decode cX4_simmered 3 = .ok (.invokestatic 69, 3) := by decide +kernel
theorem dX4_simmered_6 : decode cX4_simmered 6 = .ok (.ifCond .eq 5, 3) := by decide +kernel
theorem dX4_simmered_9 : decode cX4_simmered 9 = .ok (.iconst (-1), 1) := by decide +kernel
theorem dX4_simmered_10 : decode cX4_simmered 10 = .ok (.ireturn, 1) := by decide +kernel
theorem dX4_simmered_11 : decode cX4_simmered 11 = .ok (.iconst 0, 1) := by decide +kernel
theorem dX4_simmered_12 : decode cX4_simmered 12 = .ok (.istore_n 2, 1) := by decide +kernel
theorem dX4_simmered_13 : decode cX4_simmered 13 = .ok (.iload_n 2, 1) := by decide +kernel
theorem dX4_simmered_14 : decode cX4_simmered 14 = .ok (.bipush 40, 2) := by decide +kernel
theorem dX4_simmered_16 : decode cX4_simmered 16 = .ok (.if_icmp .gt 76, 3) := by decide +kernel
theorem dX4_simmered_19 : decode cX4_simmered 19 = .ok (.iload_n 1, 1) := by decide +kernel
theorem dX4_simmered_20 : decode cX4_simmered 20 = .ok (.ifCond .ne 10, 3) := by decide +kernel
theorem dX4_simmered_23 : decode cX4_simmered 23 = .ok (.bipush 60, 2) := by decide +kernel
theorem dX4_simmered_25 : decode cX4_simmered 25 = .ok (.iload_n 2, 1) := by decide +kernel
theorem dX4_simmered_26 : decode cX4_simmered 26 = .ok (.iadd, 1) := by decide +kernel
theorem dX4_simmered_27 : decode cX4_simmered 27 = .ok (.goto 7, 3) := by decide +kernel
theorem dX4_simmered_30 : decode cX4_simmered 30 = .ok (.bipush 100, 2) := by decide +kernel
theorem dX4_simmered_32 : decode cX4_simmered 32 = .ok (.iload_n 2, 1) := by decide +kernel
theorem dX4_simmered_33 : decode cX4_simmered 33 = .ok (.isub, 1) := by decide +kernel
theorem dX4_simmered_34 : decode cX4_simmered 34 = .ok (.istore_n 3, 1) := by decide +kernel
theorem dX4_simmered_35 : decode cX4_simmered 35 = .ok (.aload_n 0, 1) := by decide +kernel
theorem dX4_simmered_36 : decode cX4_simmered 36 = .ok (.getfield 39, 3) := by decide +kernel
theorem dX4_simmered_39 : decode cX4_simmered 39 = .ok (.aload_n 0, 1) := by decide +kernel
theorem dX4_simmered_40 : decode cX4_simmered 40 = .ok (.getfield 10, 3) := by decide +kernel
theorem dX4_simmered_43 : decode cX4_simmered 43 = .ok (.bipush 15, 2) := by decide +kernel
theorem dX4_simmered_45 : decode cX4_simmered 45 = .ok (.invokevirtual 182, 3) := by decide +kernel
theorem dX4_simmered_48 : decode cX4_simmered 48 = .ok (.iconst 0, 1) := by decide +kernel
theorem dX4_simmered_49 : decode cX4_simmered 49 = .ok (.istore 4, 2) := by decide +kernel
theorem dX4_simmered_51 : decode cX4_simmered 51 = .ok (.iload 4, 2) := by decide +kernel
theorem dX4_simmered_53 : decode cX4_simmered 53 = .ok (.bipush 60, 2) := by decide +kernel
theorem dX4_simmered_55 : decode cX4_simmered 55 = .ok (.if_icmp .ge 22, 3) := by decide +kernel
theorem dX4_simmered_58 : decode cX4_simmered 58 = .ok (.aload_n 0, 1) := by decide +kernel
theorem dX4_simmered_59 : decode cX4_simmered 59 = .ok (.getfield 39, 3) := by decide +kernel
theorem dX4_simmered_62 : decode cX4_simmered 62 = .ok (.aload_n 0, 1) := by decide +kernel
theorem dX4_simmered_63 : decode cX4_simmered 63 = .ok (.getfield 10, 3) := by decide +kernel
theorem dX4_simmered_66 : decode cX4_simmered 66 = .ok (.iconst 3, 1) := by decide +kernel
theorem dX4_simmered_67 : decode cX4_simmered 67 = .ok (.iload_n 3, 1) := by decide +kernel
theorem dX4_simmered_68 : decode cX4_simmered 68 = .ok (.invokevirtual 222, 3) := by decide +kernel
theorem dX4_simmered_71 : decode cX4_simmered 71 = .ok (.iinc 4 1, 3) := by decide +kernel
theorem dX4_simmered_74 : decode cX4_simmered 74 = .ok (.goto (-23), 3) := by decide +kernel
theorem dX4_simmered_77 : decode cX4_simmered 77 = .ok (.aload_n 0, 1) := by decide +kernel
theorem dX4_simmered_78 : decode cX4_simmered 78 = .ok (.invokevirtual 218, 3) := by decide +kernel
theorem dX4_simmered_81 : decode cX4_simmered 81 = .ok (.ifCond .eq 5, 3) := by decide +kernel
theorem dX4_simmered_84 : decode cX4_simmered 84 = .ok (.iload_n 3, 1) := by decide +kernel
theorem dX4_simmered_85 : decode cX4_simmered 85 = .ok (.ireturn, 1) := by decide +kernel
theorem dX4_simmered_86 : decode cX4_simmered 86 = .ok (.iinc 2 1, 3) := by decide +kernel
theorem dX4_simmered_89 : decode cX4_simmered 89 = .ok (.goto (-76), 3) := by decide +kernel
theorem dX4_simmered_92 : decode cX4_simmered 92 = .ok (.bipush (-9), 2) := by decide +kernel
theorem dX4_simmered_94 : decode cX4_simmered 94 = .ok (.ireturn, 1) := by decide +kernel
theorem dX4_planned_0 : decode cX4_planned 0 = .ok (.iload_n 1, 1) := by decide +kernel
theorem dX4_planned_1 : decode cX4_planned 1 = .ok (.bipush 8, 2) := by decide +kernel
theorem dX4_planned_3 : decode cX4_planned 3 = .ok (.sipush 240, 3) := by decide +kernel
theorem dX4_planned_6 : decode cX4_planned 6 = .ok (.invokestatic 69, 3) := by decide +kernel
theorem dX4_planned_9 : decode cX4_planned 9 = .ok (.ifCond .ne 22, 3) := by decide +kernel
theorem dX4_planned_12 : decode cX4_planned 12 = .ok (.iload_n 2, 1) := by decide +kernel
theorem dX4_planned_13 : decode cX4_planned 13 = .ok (.iconst 0, 1) := by decide +kernel
theorem dX4_planned_14 : decode cX4_planned 14 = .ok (.bipush 15, 2) := by decide +kernel
theorem dX4_planned_16 : decode cX4_planned 16 = .ok (.invokestatic 69, 3) := by decide +kernel
theorem dX4_planned_19 : decode cX4_planned 19 = .ok (.ifCond .ne 12, 3) := by decide +kernel
theorem dX4_planned_22 : decode cX4_planned 22 = .ok (.iload_n 3, 1) := by decide +kernel
theorem dX4_planned_23 : decode cX4_planned 23 = .ok (.iconst 0, 1) := by decide +kernel
theorem dX4_planned_24 : decode cX4_planned 24 = .ok (.iconst 2, 1) := by decide +kernel
theorem dX4_planned_25 : decode cX4_planned 25 = .ok (.invokestatic 69, 3) := by decide +kernel
theorem dX4_planned_28 : decode cX4_planned 28 = .ok (.ifCond .eq 5, 3) := by decide +kernel
theorem dX4_planned_31 : decode cX4_planned 31 = .ok (.iconst (-1), 1) := by decide +kernel
theorem dX4_planned_32 : decode cX4_planned 32 = .ok (.ireturn, 1) := by decide +kernel
theorem dX4_planned_33 : decode cX4_planned 33 = .ok (.bipush (-9), 2) := by decide +kernel
theorem dX4_planned_35 : decode cX4_planned 35 = .ok (.istore 4, 2) := by decide +kernel
theorem dX4_planned_37 : decode cX4_planned 37 = .ok (.bipush (-9), 2) := by decide +kernel
theorem dX4_planned_39 : decode cX4_planned 39 = .ok (.istore 5, 2) := by decide +kernel
theorem dX4_planned_41 : decode cX4_planned 41 = .ok (.bipush (-9), 2) := by decide +kernel
theorem dX4_planned_43 : decode cX4_planned 43 = .ok (.istore 6, 2) := by decide +kernel
theorem dX4_planned_45 : decode cX4_planned 45 = .ok (.bipush 80, 2) := by decide +kernel
theorem dX4_planned_47 : decode cX4_planned 47 = .ok (.istore 7, 2) := by decide +kernel
theorem dX4_planned_49 : decode cX4_planned 49 = .ok (.iload 7, 2) := by decide +kernel
theorem dX4_planned_51 : decode cX4_planned 51 = .ok (.sipush 260, 3) := by decide +kernel
theorem dX4_planned_54 : decode cX4_planned 54 = .ok (.if_icmp .gt 102, 3) := by decide +kernel
theorem dX4_planned_57 : decode cX4_planned 57 = .ok (.iconst 5, 1) := by decide +kernel
theorem dX4_planned_58 : decode cX4_planned 58 = .ok (.istore 8, 2) := by decide +kernel
theorem dX4_planned_60 : decode cX4_planned 60 = .ok (.iload 8, 2) := by decide +kernel
theorem dX4_planned_62 : decode cX4_planned 62 = .ok (.bipush 40, 2) := by decide +kernel
theorem dX4_planned_64 : decode cX4_planned 64 = .ok (.if_icmp .gt 86, 3) := by decide +kernel
theorem dX4_planned_67 : decode cX4_planned 67 = .ok (.aload_n 0, 1) := by decide +kernel
theorem dX4_planned_68 : decode cX4_planned 68 = .ok (.getfield 39, 3) := by decide +kernel
theorem dX4_planned_71 : decode cX4_planned 71 = .ok (.aload_n 0, 1) := by decide +kernel
theorem dX4_planned_72 : decode cX4_planned 72 = .ok (.getfield 10, 3) := by decide +kernel
theorem dX4_planned_75 : decode cX4_planned 75 = .ok (.iload_n 2, 1) := by decide +kernel
theorem dX4_planned_76 : decode cX4_planned 76 = .ok (.invokevirtual 182, 3) := by decide +kernel
theorem dX4_planned_79 : decode cX4_planned 79 = .ok (.aload_n 0, 1) := by decide +kernel
theorem dX4_planned_80 : decode cX4_planned 80 = .ok (.getfield 39, 3) := by decide +kernel
theorem dX4_planned_83 : decode cX4_planned 83 = .ok (.aload_n 0, 1) := by decide +kernel
theorem dX4_planned_84 : decode cX4_planned 84 = .ok (.getfield 10, 3) := by decide +kernel
theorem dX4_planned_87 : decode cX4_planned 87 = .ok (.iload_n 1, 1) := by decide +kernel
theorem dX4_planned_88 : decode cX4_planned 88 = .ok (.iload 7, 2) := by decide +kernel
theorem dX4_planned_90 : decode cX4_planned 90 = .ok (.iload 8, 2) := by decide +kernel
theorem dX4_planned_92 : decode cX4_planned 92 = .ok (.invokevirtual 226, 3) := by decide +kernel
theorem dX4_planned_95 : decode cX4_planned 95 = .ok (.aload_n 0, 1) := by decide +kernel
theorem dX4_planned_96 : decode cX4_planned 96 = .ok (.getfield 39, 3) := by decide +kernel
theorem dX4_planned_99 : decode cX4_planned 99 = .ok (.getfield 193, 3) := by decide +kernel
theorem dX4_planned_102 : decode cX4_planned 102 = .ok (.getfield 169, 3) := by decide +kernel
theorem dX4_planned_105 : decode cX4_planned 105 = .ok (.ifCond .ne 16, 3) := by decide +kernel
theorem dX4_planned_108 : decode cX4_planned 108 = .ok (.aload_n 0, 1) := by decide +kernel
theorem dX4_planned_109 : decode cX4_planned 109 = .ok (.getfield 39, 3) := by decide +kernel
theorem dX4_planned_112 : decode cX4_planned 112 = .ok (.getfield 193, 3) := by decide +kernel
theorem dX4_planned_115 : decode cX4_planned 115 = .ok (.invokevirtual 196, 3) := by decide +kernel
theorem dX4_planned_118 : decode cX4_planned 118 = .ok (.goto 5, 3) := by decide +kernel
theorem dX4_planned_121 : decode cX4_planned 121 = .ok (.bipush (-9), 2) := by decide +kernel
theorem dX4_planned_123 : decode cX4_planned 123 = .ok (.istore 9, 2) := by decide +kernel
theorem dX4_planned_125 : decode cX4_planned 125 = .ok (.iload 9, 2) := by decide +kernel
theorem dX4_planned_127 : decode cX4_planned 127 = .ok (.iload 4, 2) := by decide +kernel
theorem dX4_planned_129 : decode cX4_planned 129 = .ok (.if_icmp .le 15, 3) := by decide +kernel
theorem dX4_planned_132 : decode cX4_planned 132 = .ok (.iload 9, 2) := by decide +kernel
theorem dX4_planned_134 : decode cX4_planned 134 = .ok (.istore 4, 2) := by decide +kernel
theorem dX4_planned_136 : decode cX4_planned 136 = .ok (.iload 7, 2) := by decide +kernel
theorem dX4_planned_138 : decode cX4_planned 138 = .ok (.istore 5, 2) := by decide +kernel
theorem dX4_planned_140 : decode cX4_planned 140 = .ok (.iload 8, 2) := by decide +kernel
theorem dX4_planned_142 : decode cX4_planned 142 = .ok (.istore 6, 2) := by decide +kernel
theorem dX4_planned_144 : decode cX4_planned 144 = .ok (.iinc 8 5, 3) := by decide +kernel
theorem dX4_planned_147 : decode cX4_planned 147 = .ok (.goto (-87), 3) := by decide +kernel
theorem dX4_planned_150 : decode cX4_planned 150 = .ok (.iinc 7 20, 3) := by decide +kernel
theorem dX4_planned_153 : decode cX4_planned 153 = .ok (.goto (-104), 3) := by decide +kernel
theorem dX4_planned_156 : decode cX4_planned 156 = .ok (.iload_n 3, 1) := by decide +kernel
theorem dX4_planned_157 : decode cX4_planned 157 = .ok (.ifCond .ne 8, 3) := by decide +kernel
theorem dX4_planned_160 : decode cX4_planned 160 = .ok (.iload 4, 2) := by decide +kernel
theorem dX4_planned_162 : decode cX4_planned 162 = .ok (.goto 15, 3) := by decide +kernel
theorem dX4_planned_165 : decode cX4_planned 165 = .ok (.iload_n 3, 1) := by decide +kernel
theorem dX4_planned_166 : decode cX4_planned 166 = .ok (.iconst 1, 1) := by decide +kernel
theorem dX4_planned_167 : decode cX4_planned 167 = .ok (.if_icmp .ne 8, 3) := by decide +kernel
theorem dX4_planned_170 : decode cX4_planned 170 = .ok (.iload 5, 2) := by decide +kernel
theorem dX4_planned_172 : decode cX4_planned 172 = .ok (.goto 5, 3) := by decide +kernel
theorem dX4_planned_175 : decode cX4_planned 175 = .ok (.iload 6, 2) := by decide +kernel
theorem dX4_planned_177 : decode cX4_planned 177 = .ok (.ireturn, 1) := by decide +kernel
theorem dX4_heat_0 : decode cX4_heat 0 = .ok (.iload_n 1, 1) := by decide +kernel
theorem dX4_heat_1 : decode cX4_heat 1 = .ok (.iconst 0, 1) := by decide +kernel
theorem dX4_heat_2 : decode cX4_heat 2 = .ok (.iconst 3, 1) := by decide +kernel
theorem dX4_heat_3 : decode cX4_heat 3 = .ok (.invokestatic 69, 3) := by decide +kernel
theorem dX4_heat_6 : decode cX4_heat 6 = .ok (.ifCond .ne 13, 3) := by decide +kernel
theorem dX4_heat_9 : decode cX4_heat 9 = .ok (.iload_n 2, 1) := by decide +kernel
theorem dX4_heat_10 : decode cX4_heat 10 = .ok (.iconst 0, 1) := by decide +kernel
theorem dX4_heat_11 : decode cX4_heat 11 = .ok (.bipush 99, 2) := by decide +kernel
theorem dX4_heat_13 : decode cX4_heat 13 = .ok (.invokestatic 69, 3) := by decide +kernel
theorem dX4_heat_16 : decode cX4_heat 16 = .ok (.ifCond .eq 5, 3) := by decide +kernel
theorem dX4_heat_19 : decode cX4_heat 19 = .ok (.iconst (-1), 1) := by decide +kernel
theorem dX4_heat_20 : decode cX4_heat 20 = .ok (.ireturn, 1) := by decide +kernel
theorem dX4_heat_21 : decode cX4_heat 21 = .ok (.aload_n 0, 1) := by decide +kernel
theorem dX4_heat_22 : decode cX4_heat 22 = .ok (.getfield 51, 3) := by decide +kernel
theorem dX4_heat_25 : decode cX4_heat 25 = .ok (.iload_n 1, 1) := by decide +kernel
theorem dX4_heat_26 : decode cX4_heat 26 = .ok (.iaload, 1) := by decide +kernel
theorem dX4_heat_27 : decode cX4_heat 27 = .ok (.istore_n 3, 1) := by decide +kernel
theorem dX4_heat_28 : decode cX4_heat 28 = .ok (.aload_n 0, 1) := by decide +kernel
theorem dX4_heat_29 : decode cX4_heat 29 = .ok (.getfield 51, 3) := by decide +kernel
theorem dX4_heat_32 : decode cX4_heat 32 = .ok (.iload_n 1, 1) := by decide +kernel
theorem dX4_heat_33 : decode cX4_heat 33 = .ok (.iload_n 2, 1) := by decide +kernel
theorem dX4_heat_34 : decode cX4_heat 34 = .ok (.iastore, 1) := by decide +kernel
theorem dX4_heat_35 : decode cX4_heat 35 = .ok (.iload_n 3, 1) := by decide +kernel
theorem dX4_heat_36 : decode cX4_heat 36 = .ok (.ireturn, 1) := by decide +kernel
theorem dX4_even_0 : decode cX4_even 0 = .ok (.iload_n 1, 1) := by decide +kernel
theorem dX4_even_1 : decode cX4_even 1 = .ok (.iconst 1, 1) := by decide +kernel
theorem dX4_even_2 : decode cX4_even 2 = .ok (.iconst 3, 1) := by decide +kernel
theorem dX4_even_3 : decode cX4_even 3 = .ok (.invokestatic 69, 3) := by decide +kernel
theorem dX4_even_6 : decode cX4_even 6 = .ok (.ifCond .ne 12, 3) := by decide +kernel
theorem dX4_even_9 : decode cX4_even 9 = .ok (.iload_n 2, 1) := by decide +kernel
theorem dX4_even_10 : decode cX4_even 10 = .ok (.iconst 0, 1) := by decide +kernel
theorem dX4_even_11 : decode cX4_even 11 = .ok (.iconst 1, 1) := by decide +kernel
theorem dX4_even_12 : decode cX4_even 12 = .ok (.invokestatic 69, 3) := by decide +kernel
theorem dX4_even_15 : decode cX4_even 15 = .ok (.ifCond .eq 5, 3) := by decide +kernel
theorem dX4_even_18 : decode cX4_even 18 = .ok (.iconst (-1), 1) := by decide +kernel
theorem dX4_even_19 : decode cX4_even 19 = .ok (.ireturn, 1) := by decide +kernel
theorem dX4_even_20 : decode cX4_even 20 = .ok (.iload_n 1, 1) := by decide +kernel
theorem dX4_even_21 : decode cX4_even 21 = .ok (.iconst 1, 1) := by decide +kernel
theorem dX4_even_22 : decode cX4_even 22 = .ok (.if_icmp .ne 7, 3) := by decide +kernel
theorem dX4_even_25 : decode cX4_even 25 = .ok (.iconst 1, 1) := by decide +kernel
theorem dX4_even_26 : decode cX4_even 26 = .ok (.goto 16, 3) := by decide +kernel
theorem dX4_even_29 : decode cX4_even 29 = .ok (.iload_n 1, 1) := by decide +kernel
theorem dX4_even_30 : decode cX4_even 30 = .ok (.iconst 2, 1) := by decide +kernel
theorem dX4_even_31 : decode cX4_even 31 = .ok (.if_icmp .ne 8, 3) := by decide +kernel
theorem dX4_even_34 : decode cX4_even 34 = .ok (.bipush 24, 2) := by decide +kernel
theorem dX4_even_36 : decode cX4_even 36 = .ok (.goto 6, 3) := by decide +kernel
theorem dX4_even_39 : decode cX4_even 39 = .ok (.sipush 576, 3) := by decide +kernel
theorem dX4_even_42 : decode cX4_even 42 = .ok (.istore_n 3, 1) := by decide +kernel
theorem dX4_even_43 : decode cX4_even 43 = .ok (.iconst (-1), 1) := by decide +kernel
theorem dX4_even_44 : decode cX4_even 44 = .ok (.istore 4, 2) := by decide +kernel
theorem dX4_even_46 : decode cX4_even 46 = .ok (.iconst 0, 1) := by decide +kernel
theorem dX4_even_47 : decode cX4_even 47 = .ok (.istore 5, 2) := by decide +kernel
theorem dX4_even_49 : decode cX4_even 49 = .ok (.iconst 0, 1) := by decide +kernel
theorem dX4_even_50 : decode cX4_even 50 = .ok (.istore 6, 2) := by decide +kernel
theorem dX4_even_52 : decode cX4_even 52 = .ok (.iload 6, 2) := by decide +kernel
theorem dX4_even_54 : decode cX4_even 54 = .ok (.iload_n 3, 1) := by decide +kernel
theorem dX4_even_55 : decode cX4_even 55 = .ok (.if_icmp .ge 33, 3) := by decide +kernel
theorem dX4_even_58 : decode cX4_even 58 = .ok (.aload_n 0, 1) := by decide +kernel
theorem dX4_even_59 : decode cX4_even 59 = .ok (.iload 6, 2) := by decide +kernel
theorem dX4_even_61 : decode cX4_even 61 = .ok (.iload_n 1, 1) := by decide +kernel
theorem dX4_even_62 : decode cX4_even 62 = .ok (.invokevirtual 230, 3) := by decide +kernel
theorem dX4_even_65 : decode cX4_even 65 = .ok (.istore 7, 2) := by decide +kernel
theorem dX4_even_67 : decode cX4_even 67 = .ok (.iload 7, 2) := by decide +kernel
theorem dX4_even_69 : decode cX4_even 69 = .ok (.iload 4, 2) := by decide +kernel
theorem dX4_even_71 : decode cX4_even 71 = .ok (.if_icmp .le 11, 3) := by decide +kernel
theorem dX4_even_74 : decode cX4_even 74 = .ok (.iload 7, 2) := by decide +kernel
theorem dX4_even_76 : decode cX4_even 76 = .ok (.istore 4, 2) := by decide +kernel
theorem dX4_even_78 : decode cX4_even 78 = .ok (.iload 6, 2) := by decide +kernel
theorem dX4_even_80 : decode cX4_even 80 = .ok (.istore 5, 2) := by decide +kernel
theorem dX4_even_82 : decode cX4_even 82 = .ok (.iinc 6 1, 3) := by decide +kernel
theorem dX4_even_85 : decode cX4_even 85 = .ok (.goto (-33), 3) := by decide +kernel
theorem dX4_even_88 : decode cX4_even 88 = .ok (.iload_n 2, 1) := by decide +kernel
theorem dX4_even_89 : decode cX4_even 89 = .ok (.ifCond .ne 8, 3) := by decide +kernel
theorem dX4_even_92 : decode cX4_even 92 = .ok (.iload 4, 2) := by decide +kernel
theorem dX4_even_94 : decode cX4_even 94 = .ok (.goto 5, 3) := by decide +kernel
theorem dX4_even_97 : decode cX4_even 97 = .ok (.iload 5, 2) := by decide +kernel
theorem dX4_even_99 : decode cX4_even 99 = .ok (.ireturn, 1) := by decide +kernel
theorem dX4_began_0 : decode cX4_began 0 = .ok (.iload_n 1, 1) := by decide +kernel
theorem dX4_began_1 : decode cX4_began 1 = .ok (.iload_n 2, 1) := by decide +kernel
theorem dX4_began_2 : decode cX4_began 2 = .ok (.iload_n 3, 1) := by decide +kernel
theorem dX4_began_3 : decode cX4_began 3 = .ok (.invokestatic 234, 3) := by decide +kernel
theorem dX4_began_6 : decode cX4_began 6 = .ok (.ifCond .eq 5, 3) := by decide +kernel
theorem dX4_began_9 : decode cX4_began 9 = .ok (.iconst (-1), 1) := by decide +kernel
theorem dX4_began_10 : decode cX4_began 10 = .ok (.ireturn, 1) := by decide +kernel
theorem dX4_began_11 : decode cX4_began 11 = .ok (.aload_n 0, 1) := by decide +kernel
theorem dX4_began_12 : decode cX4_began 12 = .ok (.iload_n 3, 1) := by decide +kernel
theorem dX4_began_13 : decode cX4_began 13 = .ok (.iload_n 1, 1) := by decide +kernel
theorem dX4_began_14 : decode cX4_began 14 = .ok (.iload_n 2, 1) := by decide +kernel
theorem dX4_began_15 : decode cX4_began 15 = .ok (.invokevirtual 237, 3) := by decide +kernel
theorem dX4_began_18 : decode cX4_began 18 = .ok (.ireturn, 1) := by decide +kernel
theorem dX4_why_0 : decode cX4_why 0 = .ok (.iload_n 1, 1) := by decide +kernel
theorem dX4_why_1 : decode cX4_why 1 = .ok (.iload_n 2, 1) := by decide +kernel
theorem dX4_why_2 : decode cX4_why 2 = .ok (.iload_n 3, 1) := by decide +kernel
theorem dX4_why_3 : decode cX4_why 3 = .ok (.invokestatic 234, 3) := by decide +kernel
theorem dX4_why_6 : decode cX4_why 6 = .ok (.ifCond .ne 13, 3) := by decide +kernel
theorem dX4_why_9 : decode cX4_why 9 = .ok (.iload 4, 2) := by decide +kernel
theorem dX4_why_11 : decode cX4_why 11 = .ok (.iconst 0, 1) := by decide +kernel
theorem dX4_why_12 : decode cX4_why 12 = .ok (.iconst 1, 1) := by decide +kernel
theorem dX4_why_13 : decode cX4_why 13 = .ok (.invokestatic 69, 3) := by decide +kernel
theorem dX4_why_16 : decode cX4_why 16 = .ok (.ifCond .eq 5, 3) := by decide +kernel
theorem dX4_why_19 : decode cX4_why 19 = .ok (.iconst (-1), 1) := by decide +kernel
theorem dX4_why_20 : decode cX4_why 20 = .ok (.ireturn, 1) := by decide +kernel
theorem dX4_why_21 : decode cX4_why 21 = .ok (.iconst 0, 1) := by decide +kernel
theorem dX4_why_22 : decode cX4_why 22 = .ok (.istore 5, 2) := by decide +kernel
theorem dX4_why_24 : decode cX4_why 24 = .ok (.iconst 0, 1) := by decide +kernel
theorem dX4_why_25 : decode cX4_why 25 = .ok (.istore 6, 2) := by decide +kernel
theorem dX4_why_27 : decode cX4_why 27 = .ok (.iconst 0, 1) := by decide +kernel
theorem dX4_why_28 : decode cX4_why 28 = .ok (.istore 7, 2) := by decide +kernel
theorem dX4_why_30 : decode cX4_why 30 = .ok (.iload 7, 2) := by decide +kernel
theorem dX4_why_32 : decode cX4_why 32 = .ok (.iconst 5, 1) := by decide +kernel
theorem dX4_why_33 : decode cX4_why 33 = .ok (.if_icmp .ge 36, 3) := by decide +kernel
theorem dX4_why_36 : decode cX4_why 36 = .ok (.aload_n 0, 1) := by decide +kernel
theorem dX4_why_37 : decode cX4_why 37 = .ok (.iload 7, 2) := by decide +kernel
theorem dX4_why_39 : decode cX4_why 39 = .ok (.iload_n 1, 1) := by decide +kernel
theorem dX4_why_40 : decode cX4_why 40 = .ok (.iload_n 2, 1) := by decide +kernel
theorem dX4_why_41 : decode cX4_why 41 = .ok (.invokevirtual 237, 3) := by decide +kernel
theorem dX4_why_44 : decode cX4_why 44 = .ok (.istore 8, 2) := by decide +kernel
theorem dX4_why_46 : decode cX4_why 46 = .ok (.iload 5, 2) := by decide +kernel
theorem dX4_why_48 : decode cX4_why 48 = .ok (.iload 8, 2) := by decide +kernel
theorem dX4_why_50 : decode cX4_why 50 = .ok (.iadd, 1) := by decide +kernel
theorem dX4_why_51 : decode cX4_why 51 = .ok (.istore 5, 2) := by decide +kernel
theorem dX4_why_53 : decode cX4_why 53 = .ok (.iload 7, 2) := by decide +kernel
theorem dX4_why_55 : decode cX4_why 55 = .ok (.iload_n 3, 1) := by decide +kernel
theorem dX4_why_56 : decode cX4_why 56 = .ok (.if_icmp .ne 7, 3) := by decide +kernel
theorem dX4_why_59 : decode cX4_why 59 = .ok (.iload 8, 2) := by decide +kernel
theorem dX4_why_61 : decode cX4_why 61 = .ok (.istore 6, 2) := by decide +kernel
theorem dX4_why_63 : decode cX4_why 63 = .ok (.iinc 7 1, 3) := by decide +kernel
theorem dX4_why_66 : decode cX4_why 66 = .ok (.goto (-36), 3) := by decide +kernel
theorem dX4_why_69 : decode cX4_why 69 = .ok (.iload 5, 2) := by decide +kernel
theorem dX4_why_71 : decode cX4_why 71 = .ok (.ifCond .gt 6, 3) := by decide +kernel
theorem dX4_why_74 : decode cX4_why 74 = .ok (.bipush (-2), 2) := by decide +kernel
theorem dX4_why_76 : decode cX4_why 76 = .ok (.ireturn, 1) := by decide +kernel
theorem dX4_why_77 : decode cX4_why 77 = .ok (.iconst 1, 1) := by decide +kernel
theorem dX4_why_78 : decode cX4_why 78 = .ok (.iload 6, 2) := by decide +kernel
theorem dX4_why_80 : decode cX4_why 80 = .ok (.iload 5, 2) := by decide +kernel
theorem dX4_why_82 : decode cX4_why 82 = .ok (.invokestatic 240, 3) := by decide +kernel
theorem dX4_why_85 : decode cX4_why 85 = .ok (.invokestatic 243, 3) := by decide +kernel
theorem dX4_why_88 : decode cX4_why 88 = .ok (.istore 7, 2) := by decide +kernel
theorem dX4_why_90 : decode cX4_why 90 = .ok (.iload 4, 2) := by decide +kernel
theorem dX4_why_92 : decode cX4_why 92 = .ok (.ifCond .ne 11, 3) := by decide +kernel
theorem dX4_why_95 : decode cX4_why 95 = .ok (.iload 6, 2) := by decide +kernel
theorem dX4_why_97 : decode cX4_why 97 = .ok (.iload 7, 2) := by decide +kernel
theorem dX4_why_99 : decode cX4_why 99 = .ok (.idiv, 1) := by decide +kernel
theorem dX4_why_100 : decode cX4_why 100 = .ok (.goto 8, 3) := by decide +kernel
theorem dX4_why_103 : decode cX4_why 103 = .ok (.iload 5, 2) := by decide +kernel
theorem dX4_why_105 : decode cX4_why 105 = .ok (.iload 7, 2) := by decide +kernel
theorem dX4_why_107 : decode cX4_why 107 = .ok (.idiv, 1) := by decide +kernel
theorem dX4_why_108 : decode cX4_why 108 = .ok (.ireturn, 1) := by decide +kernel
theorem dX4_dried_0 : decode cX4_dried 0 = .ok (.iload_n 1, 1) := by decide +kernel
theorem dX4_dried_1 : decode cX4_dried 1 = .ok (.iload_n 2, 1) := by decide +kernel
theorem dX4_dried_2 : decode cX4_dried 2 = .ok (.iload_n 3, 1) := by decide +kernel
theorem dX4_dried_3 : decode cX4_dried 3 = .ok (.invokestatic 248, 3) := by decide +kernel
theorem dX4_dried_6 : decode cX4_dried 6 = .ok (.ifCond .ne 15, 3) := by decide +kernel
theorem dX4_dried_9 : decode cX4_dried 9 = .ok (.iload 4, 2) := by decide +kernel
theorem dX4_dried_11 : decode cX4_dried 11 = .ok (.iconst 0, 1) := by decide +kernel
theorem dX4_dried_12 : decode cX4_dried 12 = .ok (.sipush 200, 3) := by decide +kernel
theorem dX4_dried_15 : decode cX4_dried 15 = .ok (.invokestatic 69, 3) := by decide +kernel
theorem dX4_dried_18 : decode cX4_dried 18 = .ok (.ifCond .eq 5, 3) := by decide +kernel
theorem dX4_dried_21 : decode cX4_dried 21 = .ok (.iconst (-1), 1) := by decide +kernel
theorem dX4_dried_22 : decode cX4_dried 22 = .ok (.ireturn, 1) := by decide +kernel
theorem dX4_dried_23 : decode cX4_dried 23 = .ok (.aload_n 0, 1) := by decide +kernel
theorem dX4_dried_24 : decode cX4_dried 24 = .ok (.iload_n 1, 1) := by decide +kernel
theorem dX4_dried_25 : decode cX4_dried 25 = .ok (.iload_n 2, 1) := by decide +kernel
theorem dX4_dried_26 : decode cX4_dried 26 = .ok (.iload_n 3, 1) := by decide +kernel
theorem dX4_dried_27 : decode cX4_dried 27 = .ok (.iload 4, 2) := by decide +kernel
theorem dX4_dried_29 : decode cX4_dried 29 = .ok (.iconst (-1), 1) := by decide +kernel
theorem dX4_dried_30 : decode cX4_dried 30 = .ok (.invokevirtual 251, 3) := by decide +kernel
theorem dX4_dried_33 : decode cX4_dried 33 = .ok (.pop, 1) := by decide +kernel
theorem dX4_dried_34 : decode cX4_dried 34 = .ok (.aload_n 0, 1) := by decide +kernel
theorem dX4_dried_35 : decode cX4_dried 35 = .ok (.getfield 255, 3) := by decide +kernel
theorem dX4_dried_38 : decode cX4_dried 38 = .ok (.ireturn, 1) := by decide +kernel
theorem dX4_days_0 : decode cX4_days 0 = .ok (.iload_n 1, 1) := by decide +kernel
theorem dX4_days_1 : decode cX4_days 1 = .ok (.iload_n 2, 1) := by decide +kernel
theorem dX4_days_2 : decode cX4_days 2 = .ok (.iload_n 3, 1) := by decide +kernel
theorem dX4_days_3 : decode cX4_days 3 = .ok (.invokestatic 248, 3) := by decide +kernel
theorem dX4_days_6 : decode cX4_days 6 = .ok (.ifCond .ne 15, 3) := by decide +kernel
theorem dX4_days_9 : decode cX4_days 9 = .ok (.iload 4, 2) := by decide +kernel
theorem dX4_days_11 : decode cX4_days 11 = .ok (.iconst 0, 1) := by decide +kernel
theorem dX4_days_12 : decode cX4_days 12 = .ok (.sipush 9999, 3) := by decide +kernel
theorem dX4_days_15 : decode cX4_days 15 = .ok (.invokestatic 69, 3) := by decide +kernel
theorem dX4_days_18 : decode cX4_days 18 = .ok (.ifCond .eq 5, 3) := by decide +kernel
theorem dX4_days_21 : decode cX4_days 21 = .ok (.iconst (-1), 1) := by decide +kernel
theorem dX4_days_22 : decode cX4_days 22 = .ok (.ireturn, 1) := by decide +kernel
theorem dX4_days_23 : decode cX4_days 23 = .ok (.aload_n 0, 1) := by decide +kernel
theorem dX4_days_24 : decode cX4_days 24 = .ok (.iload_n 1, 1) := by decide +kernel
theorem dX4_days_25 : decode cX4_days 25 = .ok (.iload_n 2, 1) := by decide +kernel
theorem dX4_days_26 : decode cX4_days 26 = .ok (.iload_n 3, 1) := by decide +kernel
theorem dX4_days_27 : decode cX4_days 27 = .ok (.sipush 200, 3) := by decide +kernel
theorem dX4_days_30 : decode cX4_days 30 = .ok (.iload 4, 2) := by decide +kernel
theorem dX4_days_32 : decode cX4_days 32 = .ok (.invokevirtual 251, 3) := by decide +kernel
theorem dX4_days_35 : decode cX4_days 35 = .ok (.istore 5, 2) := by decide +kernel
theorem dX4_days_37 : decode cX4_days 37 = .ok (.aload_n 0, 1) := by decide +kernel
theorem dX4_days_38 : decode cX4_days 38 = .ok (.getfield 255, 3) := by decide +kernel
theorem dX4_days_41 : decode cX4_days 41 = .ok (.iload 4, 2) := by decide +kernel
theorem dX4_days_43 : decode cX4_days 43 = .ok (.if_icmp .gt 8, 3) := by decide +kernel
theorem dX4_days_46 : decode cX4_days 46 = .ok (.iload 5, 2) := by decide +kernel
theorem dX4_days_48 : decode cX4_days 48 = .ok (.goto 5, 3) := by decide +kernel
theorem dX4_days_51 : decode cX4_days 51 = .ok (.bipush (-9), 2) := by decide +kernel
theorem dX4_days_53 : decode cX4_days 53 = .ok (.ireturn, 1) := by decide +kernel
theorem dX4_test_0 : decode cX4_test 0 = .ok (.iload_n 1, 1) := by decide +kernel
theorem dX4_test_1 : decode cX4_test 1 = .ok (.iconst 0, 1) := by decide +kernel
theorem dX4_test_2 : decode cX4_test 2 = .ok (.bipush 30, 2) := by decide +kernel
theorem dX4_test_4 : decode cX4_test 4 = .ok (.invokestatic 69, 3) := by decide +kernel
theorem dX4_test_7 : decode cX4_test 7 = .ok (.ifCond .ne 14, 3) := by decide +kernel
theorem dX4_test_10 : decode cX4_test 10 = .ok (.iload_n 2, 1) := by decide +kernel
theorem dX4_test_11 : decode cX4_test 11 = .ok (.iconst 0, 1) := by decide +kernel
theorem dX4_test_12 : decode cX4_test 12 = .ok (.sipush 999, 3) := by decide +kernel
theorem dX4_test_15 : decode cX4_test 15 = .ok (.invokestatic 69, 3) := by decide +kernel
theorem dX4_test_18 : decode cX4_test 18 = .ok (.ifCond .eq 5, 3) := by decide +kernel
theorem dX4_test_21 : decode cX4_test 21 = .ok (.iconst (-1), 1) := by decide +kernel
theorem dX4_test_22 : decode cX4_test 22 = .ok (.ireturn, 1) := by decide +kernel
theorem dX4_test_23 : decode cX4_test 23 = .ok (.aload_n 0, 1) := by decide +kernel
