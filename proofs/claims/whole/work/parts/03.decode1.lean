theorem dX2_readItem_34 : decode cX2_readItem 34 = .ok (.aload_n 0, 1) := by decide +kernel
theorem dX2_readItem_35 : decode cX2_readItem 35 = .ok (.getfield 50, 3) := by decide +kernel
theorem dX2_readItem_38 : decode cX2_readItem 38 = .ok (.istore_n 2, 1) := by decide +kernel
theorem dX2_readItem_39 : decode cX2_readItem 39 = .ok (.getstatic 61, 3) := by decide +kernel
theorem dX2_readItem_42 : decode cX2_readItem 42 = .ok (.iload_n 2, 1) := by decide +kernel
theorem dX2_readItem_43 : decode cX2_readItem 43 = .ok (.iaload, 1) := by decide +kernel
theorem dX2_readItem_44 : decode cX2_readItem 44 = .ok (.istore_n 3, 1) := by decide +kernel
theorem dX2_readItem_45 : decode cX2_readItem 45 = .ok (.getstatic 61, 3) := by decide +kernel
theorem dX2_readItem_48 : decode cX2_readItem 48 = .ok (.iload_n 2, 1) := by decide +kernel
theorem dX2_readItem_49 : decode cX2_readItem 49 = .ok (.iconst 1, 1) := by decide +kernel
theorem dX2_readItem_50 : decode cX2_readItem 50 = .ok (.iadd, 1) := by decide +kernel
theorem dX2_readItem_51 : decode cX2_readItem 51 = .ok (.iaload, 1) := by decide +kernel
theorem dX2_readItem_52 : decode cX2_readItem 52 = .ok (.iload_n 3, 1) := by decide +kernel
theorem dX2_readItem_53 : decode cX2_readItem 53 = .ok (.isub, 1) := by decide +kernel
theorem dX2_readItem_54 : decode cX2_readItem 54 = .ok (.istore 4, 2) := by decide +kernel
theorem dX2_readItem_56 : decode cX2_readItem 56 = .ok (.iconst 0, 1) := by decide +kernel
theorem dX2_readItem_57 : decode cX2_readItem 57 = .ok (.istore 5, 2) := by decide +kernel
theorem dX2_readItem_59 : decode cX2_readItem 59 = .ok (.iload 5, 2) := by decide +kernel
theorem dX2_readItem_61 : decode cX2_readItem 61 = .ok (.iload 4, 2) := by decide +kernel
theorem dX2_readItem_63 : decode cX2_readItem 63 = .ok (.if_icmp .ge 52, 3) := by decide +kernel
theorem dX2_readItem_66 : decode cX2_readItem 66 = .ok (.iload 5, 2) := by decide +kernel
theorem dX2_readItem_68 : decode cX2_readItem 68 = .ok (.bipush 7, 2) := by decide +kernel
theorem dX2_readItem_70 : decode cX2_readItem 70 = .ok (.if_icmp .ge 45, 3) := by decide +kernel
theorem dX2_readItem_73 : decode cX2_readItem 73 = .ok (.aload_n 0, 1) := by decide +kernel
theorem dX2_readItem_74 : decode cX2_readItem 74 = .ok (.invokevirtual 37, 3) := by decide +kernel
theorem dX2_readItem_77 : decode cX2_readItem 77 = .ok (.aload_n 0, 1) := by decide +kernel
theorem dX2_readItem_78 : decode cX2_readItem 78 = .ok (.getfield 40, 3) := by decide +kernel
theorem dX2_readItem_81 : decode cX2_readItem 81 = .ok (.iconst 2, 1) := by decide +kernel
theorem dX2_readItem_82 : decode cX2_readItem 82 = .ok (.if_icmp .ne 14, 3) := by decide +kernel
theorem dX2_readItem_85 : decode cX2_readItem 85 = .ok (.aload_n 0, 1) := by decide +kernel
theorem dX2_readItem_86 : decode cX2_readItem 86 = .ok (.iload_n 3, 1) := by decide +kernel
theorem dX2_readItem_87 : decode cX2_readItem 87 = .ok (.iload 5, 2) := by decide +kernel
theorem dX2_readItem_89 : decode cX2_readItem 89 = .ok (.iadd, 1) := by decide +kernel
theorem dX2_readItem_90 : decode cX2_readItem 90 = .ok (.invokevirtual 64, 3) := by decide +kernel
theorem dX2_readItem_93 : decode cX2_readItem 93 = .ok (.ifCond .ne 5, 3) := by decide +kernel
theorem dX2_readItem_96 : decode cX2_readItem 96 = .ok (.iconst 0, 1) := by decide +kernel
theorem dX2_readItem_97 : decode cX2_readItem 97 = .ok (.ireturn, 1) := by decide +kernel
theorem dX2_readItem_98 : decode cX2_readItem 98 = .ok (.aload_n 0, 1) := by decide +kernel
theorem dX2_readItem_99 : decode cX2_readItem 99 = .ok (.getfield 15, 3) := by decide +kernel
theorem dX2_readItem_102 : decode cX2_readItem 102 = .ok (.iload 5, 2) := by decide +kernel
theorem dX2_readItem_104 : decode cX2_readItem 104 = .ok (.aload_n 0, 1) := by decide +kernel
theorem dX2_readItem_105 : decode cX2_readItem 105 = .ok (.getfield 50, 3) := by decide +kernel
theorem dX2_readItem_108 : decode cX2_readItem 108 = .ok (.iastore, 1) := by decide +kernel
theorem dX2_readItem_109 : decode cX2_readItem 109 = .ok (.iinc 5 1, 3) := by decide +kernel
theorem dX2_readItem_112 : decode cX2_readItem 112 = .ok (.goto (-53), 3) := by decide +kernel
theorem dX2_readItem_115 : decode cX2_readItem 115 = .ok (.aload_n 0, 1) := by decide +kernel
theorem dX2_readItem_116 : decode cX2_readItem 116 = .ok (.invokevirtual 37, 3) := by decide +kernel
theorem dX2_readItem_119 : decode cX2_readItem 119 = .ok (.aload_n 0, 1) := by decide +kernel
theorem dX2_readItem_120 : decode cX2_readItem 120 = .ok (.getfield 40, 3) := by decide +kernel
theorem dX2_readItem_123 : decode cX2_readItem 123 = .ok (.iconst 1, 1) := by decide +kernel
theorem dX2_readItem_124 : decode cX2_readItem 124 = .ok (.if_icmp .eq 5, 3) := by decide +kernel
theorem dX2_readItem_127 : decode cX2_readItem 127 = .ok (.iconst 0, 1) := by decide +kernel
theorem dX2_readItem_128 : decode cX2_readItem 128 = .ok (.ireturn, 1) := by decide +kernel
theorem dX2_readItem_129 : decode cX2_readItem 129 = .ok (.aload_n 0, 1) := by decide +kernel
theorem dX2_readItem_130 : decode cX2_readItem 130 = .ok (.iload_n 2, 1) := by decide +kernel
theorem dX2_readItem_131 : decode cX2_readItem 131 = .ok (.iload 4, 2) := by decide +kernel
theorem dX2_readItem_133 : decode cX2_readItem 133 = .ok (.aload_n 1, 1) := by decide +kernel
theorem dX2_readItem_134 : decode cX2_readItem 134 = .ok (.invokevirtual 68, 3) := by decide +kernel
theorem dX2_readItem_137 : decode cX2_readItem 137 = .ok (.iconst 1, 1) := by decide +kernel
theorem dX2_readItem_138 : decode cX2_readItem 138 = .ok (.ireturn, 1) := by decide +kernel
theorem dX2_mayStand_0 : decode cX2_mayStand 0 = .ok (.iload_n 1, 1) := by decide +kernel
theorem dX2_mayStand_1 : decode cX2_mayStand 1 = .ok (.ifCond .ne 16, 3) := by decide +kernel
theorem dX2_mayStand_4 : decode cX2_mayStand 4 = .ok (.aload_n 0, 1) := by decide +kernel
theorem dX2_mayStand_5 : decode cX2_mayStand 5 = .ok (.getfield 30, 3) := by decide +kernel
theorem dX2_mayStand_8 : decode cX2_mayStand 8 = .ok (.ifCond .ne 7, 3) := by decide +kernel
theorem dX2_mayStand_11 : decode cX2_mayStand 11 = .ok (.iconst 1, 1) := by decide +kernel
theorem dX2_mayStand_12 : decode cX2_mayStand 12 = .ok (.goto 4, 3) := by decide +kernel
theorem dX2_mayStand_15 : decode cX2_mayStand 15 = .ok (.iconst 0, 1) := by decide +kernel
theorem dX2_mayStand_16 : decode cX2_mayStand 16 = .ok (.ireturn, 1) := by decide +kernel
theorem dX2_mayStand_17 : decode cX2_mayStand 17 = .ok (.iload_n 1, 1) := by decide +kernel
theorem dX2_mayStand_18 : decode cX2_mayStand 18 = .ok (.iconst 1, 1) := by decide +kernel
theorem dX2_mayStand_19 : decode cX2_mayStand 19 = .ok (.if_icmp .ne 16, 3) := by decide +kernel
theorem dX2_mayStand_22 : decode cX2_mayStand 22 = .ok (.aload_n 0, 1) := by decide +kernel
theorem dX2_mayStand_23 : decode cX2_mayStand 23 = .ok (.getfield 34, 3) := by decide +kernel
theorem dX2_mayStand_26 : decode cX2_mayStand 26 = .ok (.ifCond .ne 7, 3) := by decide +kernel
theorem dX2_mayStand_29 : decode cX2_mayStand 29 = .ok (.iconst 1, 1) := by decide +kernel
theorem dX2_mayStand_30 : decode cX2_mayStand 30 = .ok (.goto 4, 3) := by decide +kernel
theorem dX2_mayStand_33 : decode cX2_mayStand 33 = .ok (.iconst 0, 1) := by decide +kernel
theorem dX2_mayStand_34 : decode cX2_mayStand 34 = .ok (.ireturn, 1) := by decide +kernel
theorem dX2_mayStand_35 : decode cX2_mayStand 35 = .ok (.aload_n 2, 1) := by decide +kernel
theorem dX2_mayStand_36 : decode cX2_mayStand 36 = .ok (.invokevirtual 72, 3) := by decide +kernel
theorem dX2_mayStand_39 : decode cX2_mayStand 39 = .ok (.ifCond .ne 7, 3) := by decide +kernel
theorem dX2_mayStand_42 : decode cX2_mayStand 42 = .ok (.iconst 1, 1) := by decide +kernel
theorem dX2_mayStand_43 : decode cX2_mayStand 43 = .ok (.goto 4, 3) := by decide +kernel
theorem dX2_mayStand_46 : decode cX2_mayStand 46 = .ok (.iconst 0, 1) := by decide +kernel
theorem dX2_mayStand_47 : decode cX2_mayStand 47 = .ok (.ireturn, 1) := by decide +kernel
theorem dX2_mayBe_0 : decode cX2_mayBe 0 = .ok (.iload_n 1, 1) := by decide +kernel
theorem dX2_mayBe_1 : decode cX2_mayBe 1 = .ok (.ifCond .lt 43, 3) := by decide +kernel
theorem dX2_mayBe_4 : decode cX2_mayBe 4 = .ok (.iload_n 1, 1) := by decide +kernel
theorem dX2_mayBe_5 : decode cX2_mayBe 5 = .ok (.getstatic 76, 3) := by decide +kernel
theorem dX2_mayBe_8 : decode cX2_mayBe 8 = .ok (.arraylength, 1) := by decide +kernel
theorem dX2_mayBe_9 : decode cX2_mayBe 9 = .ok (.if_icmp .ge 35, 3) := by decide +kernel
theorem dX2_mayBe_12 : decode cX2_mayBe 12 = .ok (.iload_n 1, 1) := by decide +kernel
theorem dX2_mayBe_13 : decode cX2_mayBe 13 = .ok (.getstatic 79, 3) := by decide +kernel
theorem dX2_mayBe_16 : decode cX2_mayBe 16 = .ok (.arraylength, 1) := by decide +kernel
theorem dX2_mayBe_17 : decode cX2_mayBe 17 = .ok (.if_icmp .ge 27, 3) := by decide +kernel
theorem dX2_mayBe_20 : decode cX2_mayBe 20 = .ok (.aload_n 0, 1) := by decide +kernel
theorem dX2_mayBe_21 : decode cX2_mayBe 21 = .ok (.getfield 50, 3) := by decide +kernel
theorem dX2_mayBe_24 : decode cX2_mayBe 24 = .ok (.getstatic 76, 3) := by decide +kernel
theorem dX2_mayBe_27 : decode cX2_mayBe 27 = .ok (.iload_n 1, 1) := by decide +kernel
theorem dX2_mayBe_28 : decode cX2_mayBe 28 = .ok (.iaload, 1) := by decide +kernel
theorem dX2_mayBe_29 : decode cX2_mayBe 29 = .ok (.getstatic 79, 3) := by decide +kernel
theorem dX2_mayBe_32 : decode cX2_mayBe 32 = .ok (.iload_n 1, 1) := by decide +kernel
theorem dX2_mayBe_33 : decode cX2_mayBe 33 = .ok (.iaload, 1) := by decide +kernel
theorem dX2_mayBe_34 : decode cX2_mayBe 34 = .ok (.invokestatic 53, 3) := by decide +kernel
theorem dX2_mayBe_37 : decode cX2_mayBe 37 = .ok (.ifCond .ne 7, 3) := by decide +kernel
theorem dX2_mayBe_40 : decode cX2_mayBe 40 = .ok (.iconst 1, 1) := by decide +kernel
theorem dX2_mayBe_41 : decode cX2_mayBe 41 = .ok (.goto 4, 3) := by decide +kernel
theorem dX2_mayBe_44 : decode cX2_mayBe 44 = .ok (.iconst 0, 1) := by decide +kernel
theorem dX2_mayBe_45 : decode cX2_mayBe 45 = .ok (.ireturn, 1) := by decide +kernel
theorem dX2_tell_0 : decode cX2_tell 0 = .ok (.iload_n 1, 1) := by decide +kernel
theorem dX2_tell_1 : decode cX2_tell 1 = .ok (.ifCond .ne 82, 3) := by decide +kernel
theorem dX2_tell_4 : decode cX2_tell 4 = .ok (.aload_n 0, 1) := by decide +kernel
theorem dX2_tell_5 : decode cX2_tell 5 = .ok (.iconst 1, 1) := by decide +kernel
theorem dX2_tell_6 : decode cX2_tell 6 = .ok (.putfield 30, 3) := by decide +kernel
theorem dX2_tell_9 : decode cX2_tell 9 = .ok (.aload_n 3, 1) := by decide +kernel
theorem dX2_tell_10 : decode cX2_tell 10 = .ok (.aload_n 0, 1) := by decide +kernel
theorem dX2_tell_11 : decode cX2_tell 11 = .ok (.getfield 15, 3) := by decide +kernel
theorem dX2_tell_14 : decode cX2_tell 14 = .ok (.iconst 0, 1) := by decide +kernel
theorem dX2_tell_15 : decode cX2_tell 15 = .ok (.iaload, 1) := by decide +kernel
theorem dX2_tell_16 : decode cX2_tell 16 = .ok (.putfield 82, 3) := by decide +kernel
theorem dX2_tell_19 : decode cX2_tell 19 = .ok (.aload_n 3, 1) := by decide +kernel
theorem dX2_tell_20 : decode cX2_tell 20 = .ok (.aload_n 0, 1) := by decide +kernel
theorem dX2_tell_21 : decode cX2_tell 21 = .ok (.getfield 15, 3) := by decide +kernel
theorem dX2_tell_24 : decode cX2_tell 24 = .ok (.iconst 1, 1) := by decide +kernel
theorem dX2_tell_25 : decode cX2_tell 25 = .ok (.iaload, 1) := by decide +kernel
theorem dX2_tell_26 : decode cX2_tell 26 = .ok (.putfield 85, 3) := by decide +kernel
theorem dX2_tell_29 : decode cX2_tell 29 = .ok (.aload_n 3, 1) := by decide +kernel
theorem dX2_tell_30 : decode cX2_tell 30 = .ok (.aload_n 0, 1) := by decide +kernel
theorem dX2_tell_31 : decode cX2_tell 31 = .ok (.getfield 15, 3) := by decide +kernel
theorem dX2_tell_34 : decode cX2_tell 34 = .ok (.iconst 2, 1) := by decide +kernel
theorem dX2_tell_35 : decode cX2_tell 35 = .ok (.iaload, 1) := by decide +kernel
theorem dX2_tell_36 : decode cX2_tell 36 = .ok (.putfield 88, 3) := by decide +kernel
theorem dX2_tell_39 : decode cX2_tell 39 = .ok (.aload_n 3, 1) := by decide +kernel
theorem dX2_tell_40 : decode cX2_tell 40 = .ok (.aload_n 0, 1) := by decide +kernel
theorem dX2_tell_41 : decode cX2_tell 41 = .ok (.getfield 15, 3) := by decide +kernel
theorem dX2_tell_44 : decode cX2_tell 44 = .ok (.iconst 3, 1) := by decide +kernel
theorem dX2_tell_45 : decode cX2_tell 45 = .ok (.iaload, 1) := by decide +kernel
theorem dX2_tell_46 : decode cX2_tell 46 = .ok (.putfield 91, 3) := by decide +kernel
theorem dX2_tell_49 : decode cX2_tell 49 = .ok (.aload_n 3, 1) := by decide +kernel
theorem dX2_tell_50 : decode cX2_tell 50 = .ok (.aload_n 0, 1) := by decide +kernel
theorem dX2_tell_51 : decode cX2_tell 51 = .ok (.getfield 15, 3) := by decide +kernel
theorem dX2_tell_54 : decode cX2_tell 54 = .ok (.iconst 4, 1) := by decide +kernel
theorem dX2_tell_55 : decode cX2_tell 55 = .ok (.iaload, 1) := by decide +kernel
theorem dX2_tell_56 : decode cX2_tell 56 = .ok (.putfield 94, 3) := by decide +kernel
theorem dX2_tell_59 : decode cX2_tell 59 = .ok (.aload_n 3, 1) := by decide +kernel
theorem dX2_tell_60 : decode cX2_tell 60 = .ok (.aload_n 0, 1) := by decide +kernel
theorem dX2_tell_61 : decode cX2_tell 61 = .ok (.getfield 15, 3) := by decide +kernel
theorem dX2_tell_64 : decode cX2_tell 64 = .ok (.iconst 5, 1) := by decide +kernel
theorem dX2_tell_65 : decode cX2_tell 65 = .ok (.iaload, 1) := by decide +kernel
theorem dX2_tell_66 : decode cX2_tell 66 = .ok (.putfield 97, 3) := by decide +kernel
theorem dX2_tell_69 : decode cX2_tell 69 = .ok (.aload_n 3, 1) := by decide +kernel
theorem dX2_tell_70 : decode cX2_tell 70 = .ok (.aload_n 0, 1) := by decide +kernel
theorem dX2_tell_71 : decode cX2_tell 71 = .ok (.getfield 15, 3) := by decide +kernel
theorem dX2_tell_74 : decode cX2_tell 74 = .ok (.bipush 6, 2) := by decide +kernel
theorem dX2_tell_76 : decode cX2_tell 76 = .ok (.iaload, 1) := by decide +kernel
theorem dX2_tell_77 : decode cX2_tell 77 = .ok (.putfield 100, 3) := by decide +kernel
theorem dX2_tell_80 : decode cX2_tell 80 = .ok (.goto 64, 3) := by decide +kernel
theorem dX2_tell_83 : decode cX2_tell 83 = .ok (.iload_n 1, 1) := by decide +kernel
theorem dX2_tell_84 : decode cX2_tell 84 = .ok (.iconst 1, 1) := by decide +kernel
theorem dX2_tell_85 : decode cX2_tell 85 = .ok (.if_icmp .ne 31, 3) := by decide +kernel
theorem dX2_tell_88 : decode cX2_tell 88 = .ok (.aload_n 0, 1) := by decide +kernel
theorem dX2_tell_89 : decode cX2_tell 89 = .ok (.iconst 1, 1) := by decide +kernel
theorem dX2_tell_90 : decode cX2_tell 90 = .ok (.putfield 34, 3) := by decide +kernel
theorem dX2_tell_93 : decode cX2_tell 93 = .ok (.aload_n 3, 1) := by decide +kernel
theorem dX2_tell_94 : decode cX2_tell 94 = .ok (.aload_n 0, 1) := by decide +kernel
theorem dX2_tell_95 : decode cX2_tell 95 = .ok (.getfield 15, 3) := by decide +kernel
theorem dX2_tell_98 : decode cX2_tell 98 = .ok (.iconst 0, 1) := by decide +kernel
theorem dX2_tell_99 : decode cX2_tell 99 = .ok (.iaload, 1) := by decide +kernel
theorem dX2_tell_100 : decode cX2_tell 100 = .ok (.putfield 103, 3) := by decide +kernel
theorem dX2_tell_103 : decode cX2_tell 103 = .ok (.aload_n 3, 1) := by decide +kernel
theorem dX2_tell_104 : decode cX2_tell 104 = .ok (.aload_n 0, 1) := by decide +kernel
theorem dX2_tell_105 : decode cX2_tell 105 = .ok (.getfield 15, 3) := by decide +kernel
theorem dX2_tell_108 : decode cX2_tell 108 = .ok (.iconst 1, 1) := by decide +kernel
theorem dX2_tell_109 : decode cX2_tell 109 = .ok (.iaload, 1) := by decide +kernel
theorem dX2_tell_110 : decode cX2_tell 110 = .ok (.putfield 106, 3) := by decide +kernel
theorem dX2_tell_113 : decode cX2_tell 113 = .ok (.goto 31, 3) := by decide +kernel
theorem dX2_tell_116 : decode cX2_tell 116 = .ok (.aload_n 3, 1) := by decide +kernel
theorem dX2_tell_117 : decode cX2_tell 117 = .ok (.iload_n 1, 1) := by decide +kernel
theorem dX2_tell_118 : decode cX2_tell 118 = .ok (.iconst 2, 1) := by decide +kernel
theorem dX2_tell_119 : decode cX2_tell 119 = .ok (.isub, 1) := by decide +kernel
theorem dX2_tell_120 : decode cX2_tell 120 = .ok (.aload_n 0, 1) := by decide +kernel
theorem dX2_tell_121 : decode cX2_tell 121 = .ok (.getfield 15, 3) := by decide +kernel
theorem dX2_tell_124 : decode cX2_tell 124 = .ok (.iconst 0, 1) := by decide +kernel
theorem dX2_tell_125 : decode cX2_tell 125 = .ok (.iaload, 1) := by decide +kernel
theorem dX2_tell_126 : decode cX2_tell 126 = .ok (.iload_n 2, 1) := by decide +kernel
theorem dX2_tell_127 : decode cX2_tell 127 = .ok (.iconst 1, 1) := by decide +kernel
theorem dX2_tell_128 : decode cX2_tell 128 = .ok (.if_icmp .le 12, 3) := by decide +kernel
theorem dX2_tell_131 : decode cX2_tell 131 = .ok (.aload_n 0, 1) := by decide +kernel
theorem dX2_tell_132 : decode cX2_tell 132 = .ok (.getfield 15, 3) := by decide +kernel
theorem dX2_tell_135 : decode cX2_tell 135 = .ok (.iconst 1, 1) := by decide +kernel
theorem dX2_tell_136 : decode cX2_tell 136 = .ok (.iaload, 1) := by decide +kernel
theorem dX2_tell_137 : decode cX2_tell 137 = .ok (.goto 4, 3) := by decide +kernel
theorem dX2_tell_140 : decode cX2_tell 140 = .ok (.iconst 0, 1) := by decide +kernel
theorem dX2_tell_141 : decode cX2_tell 141 = .ok (.invokevirtual 109, 3) := by decide +kernel
theorem dX2_tell_144 : decode cX2_tell 144 = .ok (.return_, 1) := by decide +kernel
theorem dX2_byteAt_0 : decode cX2_byteAt 0 = .ok (.iload_n 1, 1) := by decide +kernel
theorem dX2_byteAt_1 : decode cX2_byteAt 1 = .ok (.ifCond .lt 27, 3) := by decide +kernel
theorem dX2_byteAt_4 : decode cX2_byteAt 4 = .ok (.iload_n 1, 1) := by decide +kernel
theorem dX2_byteAt_5 : decode cX2_byteAt 5 = .ok (.aload_n 0, 1) := by decide +kernel
theorem dX2_byteAt_6 : decode cX2_byteAt 6 = .ok (.getfield 18, 3) := by decide +kernel
theorem dX2_byteAt_9 : decode cX2_byteAt 9 = .ok (.if_icmp .ge 19, 3) := by decide +kernel
theorem dX2_byteAt_12 : decode cX2_byteAt 12 = .ok (.iload_n 1, 1) := by decide +kernel
theorem dX2_byteAt_13 : decode cX2_byteAt 13 = .ok (.sipush 300, 3) := by decide +kernel
theorem dX2_byteAt_16 : decode cX2_byteAt 16 = .ok (.if_icmp .ge 12, 3) := by decide +kernel
theorem dX2_byteAt_19 : decode cX2_byteAt 19 = .ok (.aload_n 0, 1) := by decide +kernel
theorem dX2_byteAt_20 : decode cX2_byteAt 20 = .ok (.getfield 9, 3) := by decide +kernel
theorem dX2_byteAt_23 : decode cX2_byteAt 23 = .ok (.iload_n 1, 1) := by decide +kernel
theorem dX2_byteAt_24 : decode cX2_byteAt 24 = .ok (.iaload, 1) := by decide +kernel
theorem dX2_byteAt_25 : decode cX2_byteAt 25 = .ok (.goto 4, 3) := by decide +kernel
theorem dX2_byteAt_28 : decode cX2_byteAt 28 = .ok (.iconst (-1), 1) := by decide +kernel
theorem dX2_byteAt_29 : decode cX2_byteAt 29 = .ok (.ireturn, 1) := by decide +kernel
theorem dX2_isLetter_0 : decode cX2_isLetter 0 = .ok (.iload_n 0, 1) := by decide +kernel
theorem dX2_isLetter_1 : decode cX2_isLetter 1 = .ok (.bipush 97, 2) := by decide +kernel
theorem dX2_isLetter_3 : decode cX2_isLetter 3 = .ok (.if_icmp .lt 13, 3) := by decide +kernel
theorem dX2_isLetter_6 : decode cX2_isLetter 6 = .ok (.iload_n 0, 1) := by decide +kernel
theorem dX2_isLetter_7 : decode cX2_isLetter 7 = .ok (.bipush 122, 2) := by decide +kernel
theorem dX2_isLetter_9 : decode cX2_isLetter 9 = .ok (.if_icmp .gt 7, 3) := by decide +kernel
theorem dX2_isLetter_12 : decode cX2_isLetter 12 = .ok (.iconst 1, 1) := by decide +kernel
theorem dX2_isLetter_13 : decode cX2_isLetter 13 = .ok (.goto 4, 3) := by decide +kernel
theorem dX2_isLetter_16 : decode cX2_isLetter 16 = .ok (.iconst 0, 1) := by decide +kernel
theorem dX2_isLetter_17 : decode cX2_isLetter 17 = .ok (.ireturn, 1) := by decide +kernel
theorem dX2_isDigit_0 : decode cX2_isDigit 0 = .ok (.iload_n 0, 1) := by decide +kernel
theorem dX2_isDigit_1 : decode cX2_isDigit 1 = .ok (.bipush 48, 2) := by decide +kernel
theorem dX2_isDigit_3 : decode cX2_isDigit 3 = .ok (.if_icmp .lt 13, 3) := by decide +kernel
theorem dX2_isDigit_6 : decode cX2_isDigit 6 = .ok (.iload_n 0, 1) := by decide +kernel
theorem dX2_isDigit_7 : decode cX2_isDigit 7 = .ok (.bipush 57, 2) := by decide +kernel
theorem dX2_isDigit_9 : decode cX2_isDigit 9 = .ok (.if_icmp .gt 7, 3) := by decide +kernel
theorem dX2_isDigit_12 : decode cX2_isDigit 12 = .ok (.iconst 1, 1) := by decide +kernel
theorem dX2_isDigit_13 : decode cX2_isDigit 13 = .ok (.goto 4, 3) := by decide +kernel
theorem dX2_isDigit_16 : decode cX2_isDigit 16 = .ok (.iconst 0, 1) := by decide +kernel
theorem dX2_isDigit_17 : decode cX2_isDigit 17 = .ok (.ireturn, 1) := by decide +kernel
theorem dX2_readToken_0 : decode cX2_readToken 0 = .ok (.aload_n 0, 1) := by decide +kernel
theorem dX2_readToken_1 : decode cX2_readToken 1 = .ok (.aload_n 0, 1) := by decide +kernel
theorem dX2_readToken_2 : decode cX2_readToken 2 = .ok (.getfield 27, 3) := by decide +kernel
theorem dX2_readToken_5 : decode cX2_readToken 5 = .ok (.putfield 47, 3) := by decide +kernel
theorem dX2_readToken_8 : decode cX2_readToken 8 = .ok (.aload_n 0, 1) := by decide +kernel
theorem dX2_readToken_9 : decode cX2_readToken 9 = .ok (.getfield 47, 3) := by decide +kernel
theorem dX2_readToken_12 : decode cX2_readToken 12 = .ok (.aload_n 0, 1) := by decide +kernel
theorem dX2_readToken_13 : decode cX2_readToken 13 = .ok (.getfield 18, 3) := by decide +kernel
theorem dX2_readToken_16 : decode cX2_readToken 16 = .ok (.if_icmp .ge 29, 3) := by decide +kernel
theorem dX2_readToken_19 : decode cX2_readToken 19 = .ok (.aload_n 0, 1) := by decide +kernel
theorem dX2_readToken_20 : decode cX2_readToken 20 = .ok (.aload_n 0, 1) := by decide +kernel
theorem dX2_readToken_21 : decode cX2_readToken 21 = .ok (.getfield 47, 3) := by decide +kernel
theorem dX2_readToken_24 : decode cX2_readToken 24 = .ok (.invokevirtual 113, 3) := by decide +kernel
theorem dX2_readToken_27 : decode cX2_readToken 27 = .ok (.bipush 32, 2) := by decide +kernel
theorem dX2_readToken_29 : decode cX2_readToken 29 = .ok (.if_icmp .ne 16, 3) := by decide +kernel
theorem dX2_readToken_32 : decode cX2_readToken 32 = .ok (.aload_n 0, 1) := by decide +kernel
theorem dX2_readToken_33 : decode cX2_readToken 33 = .ok (.dup, 1) := by decide +kernel
theorem dX2_readToken_34 : decode cX2_readToken 34 = .ok (.getfield 47, 3) := by decide +kernel
theorem dX2_readToken_37 : decode cX2_readToken 37 = .ok (.iconst 1, 1) := by decide +kernel
theorem dX2_readToken_38 : decode cX2_readToken 38 = .ok (.iadd, 1) := by decide +kernel
theorem dX2_readToken_39 : decode cX2_readToken 39 = .ok (.putfield 47, 3) := by decide +kernel
theorem dX2_readToken_42 : decode cX2_readToken 42 = .ok (.goto (-34), 3) := by decide +kernel
theorem dX2_readToken_45 : decode cX2_readToken 45 = .ok (.aload_n 0, 1) := by decide +kernel
theorem dX2_readToken_46 : decode cX2_readToken 46 = .ok (.aload_n 0, 1) := by decide +kernel
theorem dX2_readToken_47 : decode cX2_readToken 47 = .ok (.getfield 47, 3) := by decide +kernel
theorem dX2_readToken_50 : decode cX2_readToken 50 = .ok (.invokevirtual 113, 3) := by decide +kernel
theorem dX2_readToken_53 : decode cX2_readToken 53 = .ok (.istore_n 1, 1) := by decide +kernel
theorem dX2_readToken_54 : decode cX2_readToken 54 = .ok (.aload_n 0, 1) := by decide +kernel
theorem dX2_readToken_55 : decode cX2_readToken 55 = .ok (.aload_n 0, 1) := by decide +kernel
theorem dX2_readToken_56 : decode cX2_readToken 56 = .ok (.getfield 47, 3) := by decide +kernel
theorem dX2_readToken_59 : decode cX2_readToken 59 = .ok (.iconst 1, 1) := by decide +kernel
theorem dX2_readToken_60 : decode cX2_readToken 60 = .ok (.iadd, 1) := by decide +kernel
theorem dX2_readToken_61 : decode cX2_readToken 61 = .ok (.putfield 27, 3) := by decide +kernel
theorem dX2_readToken_64 : decode cX2_readToken 64 = .ok (.aload_n 0, 1) := by decide +kernel
theorem dX2_readToken_65 : decode cX2_readToken 65 = .ok (.iconst 0, 1) := by decide +kernel
theorem dX2_readToken_66 : decode cX2_readToken 66 = .ok (.putfield 50, 3) := by decide +kernel
theorem dX2_readToken_69 : decode cX2_readToken 69 = .ok (.iload_n 1, 1) := by decide +kernel
theorem dX2_readToken_70 : decode cX2_readToken 70 = .ok (.ifCond .ge 11, 3) := by decide +kernel
theorem dX2_readToken_73 : decode cX2_readToken 73 = .ok (.aload_n 0, 1) := by decide +kernel
theorem dX2_readToken_74 : decode cX2_readToken 74 = .ok (.iconst 0, 1) := by decide +kernel
theorem dX2_readToken_75 : decode cX2_readToken 75 = .ok (.putfield 40, 3) := by decide +kernel
theorem dX2_readToken_78 : decode cX2_readToken 78 = .ok (.goto 50, 3) := by decide +kernel
theorem dX2_readToken_81 : decode cX2_readToken 81 = .ok (.iload_n 1, 1) := by decide +kernel
theorem dX2_readToken_82 : decode cX2_readToken 82 = .ok (.bipush 59, 2) := by decide +kernel
theorem dX2_readToken_84 : decode cX2_readToken 84 = .ok (.if_icmp .ne 11, 3) := by decide +kernel
theorem dX2_readToken_87 : decode cX2_readToken 87 = .ok (.aload_n 0, 1) := by decide +kernel
theorem dX2_readToken_88 : decode cX2_readToken 88 = .ok (.iconst 1, 1) := by decide +kernel
theorem dX2_readToken_89 : decode cX2_readToken 89 = .ok (.putfield 40, 3) := by decide +kernel
theorem dX2_readToken_92 : decode cX2_readToken 92 = .ok (.goto 36, 3) := by decide +kernel
theorem dX2_readToken_95 : decode cX2_readToken 95 = .ok (.iload_n 1, 1) := by decide +kernel
theorem dX2_readToken_96 : decode cX2_readToken 96 = .ok (.invokestatic 117, 3) := by decide +kernel
theorem dX2_readToken_99 : decode cX2_readToken 99 = .ok (.ifCond .eq 10, 3) := by decide +kernel
theorem dX2_readToken_102 : decode cX2_readToken 102 = .ok (.aload_n 0, 1) := by decide +kernel
theorem dX2_readToken_103 : decode cX2_readToken 103 = .ok (.invokevirtual 120, 3) := by decide +kernel
theorem dX2_readToken_106 : decode cX2_readToken 106 = .ok (.goto 22, 3) := by decide +kernel
theorem dX2_readToken_109 : decode cX2_readToken 109 = .ok (.iload_n 1, 1) := by decide +kernel
theorem dX2_readToken_110 : decode cX2_readToken 110 = .ok (.invokestatic 123, 3) := by decide +kernel
theorem dX2_readToken_113 : decode cX2_readToken 113 = .ok (.ifCond .eq 10, 3) := by decide +kernel
theorem dX2_readToken_116 : decode cX2_readToken 116 = .ok (.aload_n 0, 1) := by decide +kernel
theorem dX2_readToken_117 : decode cX2_readToken 117 = .ok (.invokevirtual 126, 3) := by decide +kernel
theorem dX2_readToken_120 : decode cX2_readToken 120 = .ok (.goto 8, 3) := by decide +kernel
theorem dX2_readToken_123 : decode cX2_readToken 123 = .ok (.aload_n 0, 1) := by decide +kernel
theorem dX2_readToken_124 : decode cX2_readToken 124 = .ok (.iconst 4, 1) := by decide +kernel
theorem dX2_readToken_125 : decode cX2_readToken 125 = .ok (.putfield 40, 3) := by decide +kernel
theorem dX2_readToken_128 : decode cX2_readToken 128 = .ok (.return_, 1) := by decide +kernel
theorem dX2_readNumber_0 : decode cX2_readNumber 0 = .ok (.aload_n 0, 1) := by decide +kernel
theorem dX2_readNumber_1 : decode cX2_readNumber 1 = .ok (.aload_n 0, 1) := by decide +kernel
theorem dX2_readNumber_2 : decode cX2_readNumber 2 = .ok (.getfield 47, 3) := by decide +kernel
theorem dX2_readNumber_5 : decode cX2_readNumber 5 = .ok (.putfield 27, 3) := by decide +kernel
theorem dX2_readNumber_8 : decode cX2_readNumber 8 = .ok (.aload_n 0, 1) := by decide +kernel
theorem dX2_readNumber_9 : decode cX2_readNumber 9 = .ok (.getfield 27, 3) := by decide +kernel
theorem dX2_readNumber_12 : decode cX2_readNumber 12 = .ok (.aload_n 0, 1) := by decide +kernel
theorem dX2_readNumber_13 : decode cX2_readNumber 13 = .ok (.getfield 18, 3) := by decide +kernel
theorem dX2_readNumber_16 : decode cX2_readNumber 16 = .ok (.if_icmp .ge 59, 3) := by decide +kernel
theorem dX2_readNumber_19 : decode cX2_readNumber 19 = .ok (.aload_n 0, 1) := by decide +kernel
theorem dX2_readNumber_20 : decode cX2_readNumber 20 = .ok (.aload_n 0, 1) := by decide +kernel
theorem dX2_readNumber_21 : decode cX2_readNumber 21 = .ok (.getfield 27, 3) := by decide +kernel
theorem dX2_readNumber_24 : decode cX2_readNumber 24 = .ok (.invokevirtual 113, 3) := by decide +kernel
theorem dX2_readNumber_27 : decode cX2_readNumber 27 = .ok (.invokestatic 117, 3) := by decide +kernel
theorem dX2_readNumber_30 : decode cX2_readNumber 30 = .ok (.ifCond .eq 45, 3) := by decide +kernel
theorem dX2_readNumber_33 : decode cX2_readNumber 33 = .ok (.aload_n 0, 1) := by decide +kernel
theorem dX2_readNumber_34 : decode cX2_readNumber 34 = .ok (.sipush 1000, 3) := by decide +kernel
theorem dX2_readNumber_37 : decode cX2_readNumber 37 = .ok (.aload_n 0, 1) := by decide +kernel
theorem dX2_readNumber_38 : decode cX2_readNumber 38 = .ok (.getfield 50, 3) := by decide +kernel
theorem dX2_readNumber_41 : decode cX2_readNumber 41 = .ok (.bipush 10, 2) := by decide +kernel
theorem dX2_readNumber_43 : decode cX2_readNumber 43 = .ok (.imul, 1) := by decide +kernel
theorem dX2_readNumber_44 : decode cX2_readNumber 44 = .ok (.aload_n 0, 1) := by decide +kernel
theorem dX2_readNumber_45 : decode cX2_readNumber 45 = .ok (.aload_n 0, 1) := by decide +kernel
theorem dX2_readNumber_46 : decode cX2_readNumber 46 = .ok (.getfield 27, 3) := by decide +kernel
theorem dX2_readNumber_49 : decode cX2_readNumber 49 = .ok (.invokevirtual 113, 3) := by decide +kernel
theorem dX2_readNumber_52 : decode cX2_readNumber 52 = .ok (.iadd, 1) := by decide +kernel
theorem dX2_readNumber_53 : decode cX2_readNumber 53 = .ok (.bipush 48, 2) := by decide +kernel
theorem dX2_readNumber_55 : decode cX2_readNumber 55 = .ok (.isub, 1) := by decide +kernel
theorem dX2_readNumber_56 : decode cX2_readNumber 56 = .ok (.invokestatic 129, 3) := by decide +kernel
theorem dX2_readNumber_59 : decode cX2_readNumber 59 = .ok (.putfield 50, 3) := by decide +kernel
theorem dX2_readNumber_62 : decode cX2_readNumber 62 = .ok (.aload_n 0, 1) := by decide +kernel
theorem dX2_readNumber_63 : decode cX2_readNumber 63 = .ok (.dup, 1) := by decide +kernel
theorem dX2_readNumber_64 : decode cX2_readNumber 64 = .ok (.getfield 27, 3) := by decide +kernel
theorem dX2_readNumber_67 : decode cX2_readNumber 67 = .ok (.iconst 1, 1) := by decide +kernel
theorem dX2_readNumber_68 : decode cX2_readNumber 68 = .ok (.iadd, 1) := by decide +kernel
theorem dX2_readNumber_69 : decode cX2_readNumber 69 = .ok (.putfield 27, 3) := by decide +kernel
theorem dX2_readNumber_72 : decode cX2_readNumber 72 = .ok (.goto (-64), 3) := by decide +kernel
theorem dX2_readNumber_75 : decode cX2_readNumber 75 = .ok (.aload_n 0, 1) := by decide +kernel
theorem dX2_readNumber_76 : decode cX2_readNumber 76 = .ok (.aload_n 0, 1) := by decide +kernel
theorem dX2_readNumber_77 : decode cX2_readNumber 77 = .ok (.getfield 47, 3) := by decide +kernel
theorem dX2_readNumber_80 : decode cX2_readNumber 80 = .ok (.invokevirtual 113, 3) := by decide +kernel
theorem dX2_readNumber_83 : decode cX2_readNumber 83 = .ok (.bipush 48, 2) := by decide +kernel
theorem dX2_readNumber_85 : decode cX2_readNumber 85 = .ok (.if_icmp .ne 20, 3) := by decide +kernel
theorem dX2_readNumber_88 : decode cX2_readNumber 88 = .ok (.aload_n 0, 1) := by decide +kernel
theorem dX2_readNumber_89 : decode cX2_readNumber 89 = .ok (.getfield 27, 3) := by decide +kernel
theorem dX2_readNumber_92 : decode cX2_readNumber 92 = .ok (.aload_n 0, 1) := by decide +kernel
theorem dX2_readNumber_93 : decode cX2_readNumber 93 = .ok (.getfield 47, 3) := by decide +kernel
theorem dX2_readNumber_96 : decode cX2_readNumber 96 = .ok (.iconst 1, 1) := by decide +kernel
theorem dX2_readNumber_97 : decode cX2_readNumber 97 = .ok (.iadd, 1) := by decide +kernel
theorem dX2_readNumber_98 : decode cX2_readNumber 98 = .ok (.if_icmp .le 7, 3) := by decide +kernel
theorem dX2_readNumber_101 : decode cX2_readNumber 101 = .ok (.iconst 1, 1) := by decide +kernel
theorem dX2_readNumber_102 : decode cX2_readNumber 102 = .ok (.goto 4, 3) := by decide +kernel
theorem dX2_readNumber_105 : decode cX2_readNumber 105 = .ok (.iconst 0, 1) := by decide +kernel
theorem dX2_readNumber_106 : decode cX2_readNumber 106 = .ok (.istore_n 1, 1) := by decide +kernel
theorem dX2_readNumber_107 : decode cX2_readNumber 107 = .ok (.aload_n 0, 1) := by decide +kernel
theorem dX2_readNumber_108 : decode cX2_readNumber 108 = .ok (.iload_n 1, 1) := by decide +kernel
theorem dX2_readNumber_109 : decode cX2_readNumber 109 = .ok (.ifCond .ne 13, 3) := by decide +kernel
theorem dX2_readNumber_112 : decode cX2_readNumber 112 = .ok (.aload_n 0, 1) := by decide +kernel
theorem dX2_readNumber_113 : decode cX2_readNumber 113 = .ok (.getfield 50, 3) := by decide +kernel
theorem dX2_readNumber_116 : decode cX2_readNumber 116 = .ok (.sipush 999, 3) := by decide +kernel
theorem dX2_readNumber_119 : decode cX2_readNumber 119 = .ok (.if_icmp .le 7, 3) := by decide +kernel
theorem dX2_readNumber_122 : decode cX2_readNumber 122 = .ok (.iconst 4, 1) := by decide +kernel
theorem dX2_readNumber_123 : decode cX2_readNumber 123 = .ok (.goto 4, 3) := by decide +kernel
theorem dX2_readNumber_126 : decode cX2_readNumber 126 = .ok (.iconst 2, 1) := by decide +kernel
theorem dX2_readNumber_127 : decode cX2_readNumber 127 = .ok (.putfield 40, 3) := by decide +kernel
theorem dX2_readNumber_130 : decode cX2_readNumber 130 = .ok (.return_, 1) := by decide +kernel
theorem dX2_readWord_0 : decode cX2_readWord 0 = .ok (.aload_n 0, 1) := by decide +kernel
theorem dX2_readWord_1 : decode cX2_readWord 1 = .ok (.aload_n 0, 1) := by decide +kernel
theorem dX2_readWord_2 : decode cX2_readWord 2 = .ok (.getfield 47, 3) := by decide +kernel
theorem dX2_readWord_5 : decode cX2_readWord 5 = .ok (.putfield 27, 3) := by decide +kernel
theorem dX2_readWord_8 : decode cX2_readWord 8 = .ok (.aload_n 0, 1) := by decide +kernel
theorem dX2_readWord_9 : decode cX2_readWord 9 = .ok (.getfield 27, 3) := by decide +kernel
theorem dX2_readWord_12 : decode cX2_readWord 12 = .ok (.aload_n 0, 1) := by decide +kernel
theorem dX2_readWord_13 : decode cX2_readWord 13 = .ok (.getfield 18, 3) := by decide +kernel
theorem dX2_readWord_16 : decode cX2_readWord 16 = .ok (.if_icmp .ge 30, 3) := by decide +kernel
theorem dX2_readWord_19 : decode cX2_readWord 19 = .ok (.aload_n 0, 1) := by decide +kernel
theorem dX2_readWord_20 : decode cX2_readWord 20 = .ok (.aload_n 0, 1) := by decide +kernel
theorem dX2_readWord_21 : decode cX2_readWord 21 = .ok (.getfield 27, 3) := by decide +kernel
theorem dX2_readWord_24 : decode cX2_readWord 24 = .ok (.invokevirtual 113, 3) := by decide +kernel
theorem dX2_readWord_27 : decode cX2_readWord 27 = .ok (.invokestatic 123, 3) := by decide +kernel
theorem dX2_readWord_30 : decode cX2_readWord 30 = .ok (.ifCond .eq 16, 3) := by decide +kernel
theorem dX2_readWord_33 : decode cX2_readWord 33 = .ok (.aload_n 0, 1) := by decide +kernel
theorem dX2_readWord_34 : decode cX2_readWord 34 = .ok (.dup, 1) := by decide +kernel
theorem dX2_readWord_35 : decode cX2_readWord 35 = .ok (.getfield 27, 3) := by decide +kernel
theorem dX2_readWord_38 : decode cX2_readWord 38 = .ok (.iconst 1, 1) := by decide +kernel
theorem dX2_readWord_39 : decode cX2_readWord 39 = .ok (.iadd, 1) := by decide +kernel
theorem dX2_readWord_40 : decode cX2_readWord 40 = .ok (.putfield 27, 3) := by decide +kernel
theorem dX2_readWord_43 : decode cX2_readWord 43 = .ok (.goto (-35), 3) := by decide +kernel
theorem dX2_readWord_46 : decode cX2_readWord 46 = .ok (.aload_n 0, 1) := by decide +kernel
theorem dX2_readWord_47 : decode cX2_readWord 47 = .ok (.iconst 4, 1) := by decide +kernel
theorem dX2_readWord_48 : decode cX2_readWord 48 = .ok (.putfield 40, 3) := by decide +kernel
theorem dX2_readWord_51 : decode cX2_readWord 51 = .ok (.iconst 0, 1) := by decide +kernel
theorem dX2_readWord_52 : decode cX2_readWord 52 = .ok (.istore_n 1, 1) := by decide +kernel
theorem dX2_readWord_53 : decode cX2_readWord 53 = .ok (.iload_n 1, 1) := by decide +kernel
theorem dX2_readWord_54 : decode cX2_readWord 54 = .ok (.bipush 6, 2) := by decide +kernel
theorem dX2_readWord_56 : decode cX2_readWord 56 = .ok (.if_icmp .ge 30, 3) := by decide +kernel
theorem dX2_readWord_59 : decode cX2_readWord 59 = .ok (.aload_n 0, 1) := by decide +kernel
theorem dX2_readWord_60 : decode cX2_readWord 60 = .ok (.iload_n 1, 1) := by decide +kernel
theorem dX2_readWord_61 : decode cX2_readWord 61 = .ok (.invokestatic 135, 3) := by decide +kernel
theorem dX2_readWord_64 : decode cX2_readWord 64 = .ok (.invokevirtual 139, 3) := by decide +kernel
theorem dX2_readWord_67 : decode cX2_readWord 67 = .ok (.ifCond .eq 13, 3) := by decide +kernel
theorem dX2_readWord_70 : decode cX2_readWord 70 = .ok (.aload_n 0, 1) := by decide +kernel
theorem dX2_readWord_71 : decode cX2_readWord 71 = .ok (.iconst 3, 1) := by decide +kernel
theorem dX2_readWord_72 : decode cX2_readWord 72 = .ok (.putfield 40, 3) := by decide +kernel
theorem dX2_readWord_75 : decode cX2_readWord 75 = .ok (.aload_n 0, 1) := by decide +kernel
theorem dX2_readWord_76 : decode cX2_readWord 76 = .ok (.iload_n 1, 1) := by decide +kernel
theorem dX2_readWord_77 : decode cX2_readWord 77 = .ok (.putfield 50, 3) := by decide +kernel
theorem dX2_readWord_80 : decode cX2_readWord 80 = .ok (.iinc 1 1, 3) := by decide +kernel
theorem dX2_readWord_83 : decode cX2_readWord 83 = .ok (.goto (-30), 3) := by decide +kernel
theorem dX2_readWord_86 : decode cX2_readWord 86 = .ok (.return_, 1) := by decide +kernel
theorem dX2_nameOf_0 : decode cX2_nameOf 0 = .ok (.iload_n 0, 1) := by decide +kernel
theorem dX2_nameOf_1 : decode cX2_nameOf 1 = .ok (.tableswitch 50 0 4 #[35, 38, 41, 44, 47], 35) := by decide +kernel
theorem dX2_nameOf_36 : decode cX2_nameOf 36 = .ok (.ldc 143, 2) := by decide +kernel
theorem dX2_nameOf_38 : decode cX2_nameOf 38 = .ok (.areturn, 1) := by decide +kernel
theorem dX2_nameOf_39 : decode cX2_nameOf 39 = .ok (.ldc 144, 2) := by decide +kernel
theorem dX2_nameOf_41 : decode cX2_nameOf 41 = .ok (.areturn, 1) := by decide +kernel
theorem dX2_nameOf_42 : decode cX2_nameOf 42 = .ok (.ldc 146, 2) := by decide +kernel
theorem dX2_nameOf_44 : decode cX2_nameOf 44 = .ok (.areturn, 1) := by decide +kernel
theorem dX2_nameOf_45 : decode cX2_nameOf 45 = .ok (.ldc 148, 2) := by decide +kernel
theorem dX2_nameOf_47 : decode cX2_nameOf 47 = .ok (.areturn, 1) := by decide +kernel
theorem dX2_nameOf_48 : decode cX2_nameOf 48 = .ok (.ldc 150, 2) := by decide +kernel
theorem dX2_nameOf_50 : decode cX2_nameOf 50 = .ok (.areturn, 1) := by decide +kernel
theorem dX2_nameOf_51 : decode cX2_nameOf 51 = .ok (.ldc 152, 2) := by decide +kernel
theorem dX2_nameOf_53 : decode cX2_nameOf 53 = .ok (.areturn, 1) := by decide +kernel
theorem dX2_isWord_0 : decode cX2_isWord 0 = .ok (.aload_n 1, 1) := by decide +kernel
theorem dX2_isWord_1 : decode cX2_isWord 1 = .ok (.invokevirtual 154, 3) := by decide +kernel
theorem dX2_isWord_4 : decode cX2_isWord 4 = .ok (.aload_n 0, 1) := by decide +kernel
theorem dX2_isWord_5 : decode cX2_isWord 5 = .ok (.getfield 27, 3) := by decide +kernel
theorem dX2_isWord_8 : decode cX2_isWord 8 = .ok (.aload_n 0, 1) := by decide +kernel
theorem dX2_isWord_9 : decode cX2_isWord 9 = .ok (.getfield 47, 3) := by decide +kernel
theorem dX2_isWord_12 : decode cX2_isWord 12 = .ok (.isub, 1) := by decide +kernel
theorem dX2_isWord_13 : decode cX2_isWord 13 = .ok (.if_icmp .eq 5, 3) := by decide +kernel
theorem dX2_isWord_16 : decode cX2_isWord 16 = .ok (.iconst 0, 1) := by decide +kernel
theorem dX2_isWord_17 : decode cX2_isWord 17 = .ok (.ireturn, 1) := by decide +kernel
theorem dX2_isWord_18 : decode cX2_isWord 18 = .ok (.iconst 0, 1) := by decide +kernel
theorem dX2_isWord_19 : decode cX2_isWord 19 = .ok (.istore_n 2, 1) := by decide +kernel
theorem dX2_isWord_20 : decode cX2_isWord 20 = .ok (.iload_n 2, 1) := by decide +kernel
theorem dX2_isWord_21 : decode cX2_isWord 21 = .ok (.aload_n 1, 1) := by decide +kernel
theorem dX2_isWord_22 : decode cX2_isWord 22 = .ok (.invokevirtual 154, 3) := by decide +kernel
theorem dX2_isWord_25 : decode cX2_isWord 25 = .ok (.if_icmp .ge 29, 3) := by decide +kernel
theorem dX2_isWord_28 : decode cX2_isWord 28 = .ok (.aload_n 1, 1) := by decide +kernel
theorem dX2_isWord_29 : decode cX2_isWord 29 = .ok (.iload_n 2, 1) := by decide +kernel
theorem dX2_isWord_30 : decode cX2_isWord 30 = .ok (.invokevirtual 159, 3) := by decide +kernel
theorem dX2_isWord_33 : decode cX2_isWord 33 = .ok (.aload_n 0, 1) := by decide +kernel
theorem dX2_isWord_34 : decode cX2_isWord 34 = .ok (.aload_n 0, 1) := by decide +kernel
theorem dX2_isWord_35 : decode cX2_isWord 35 = .ok (.getfield 47, 3) := by decide +kernel
theorem dX2_isWord_38 : decode cX2_isWord 38 = .ok (.iload_n 2, 1) := by decide +kernel
theorem dX2_isWord_39 : decode cX2_isWord 39 = .ok (.iadd, 1) := by decide +kernel
theorem dX2_isWord_40 : decode cX2_isWord 40 = .ok (.invokevirtual 113, 3) := by decide +kernel
theorem dX2_isWord_43 : decode cX2_isWord 43 = .ok (.if_icmp .eq 5, 3) := by decide +kernel
theorem dX2_isWord_46 : decode cX2_isWord 46 = .ok (.iconst 0, 1) := by decide +kernel
theorem dX2_isWord_47 : decode cX2_isWord 47 = .ok (.ireturn, 1) := by decide +kernel
theorem dX2_isWord_48 : decode cX2_isWord 48 = .ok (.iinc 2 1, 3) := by decide +kernel
theorem dX2_isWord_51 : decode cX2_isWord 51 = .ok (.goto (-31), 3) := by decide +kernel
theorem dX2_isWord_54 : decode cX2_isWord 54 = .ok (.iconst 1, 1) := by decide +kernel
theorem dX2_isWord_55 : decode cX2_isWord 55 = .ok (.ireturn, 1) := by decide +kernel
theorem dX3_init_0 : decode cX3_init 0 = .ok (.aload_n 0, 1) := by decide +kernel
theorem dX3_init_1 : decode cX3_init 1 = .ok (.invokespecial 3, 3) := by decide +kernel
theorem dX3_init_4 : decode cX3_init 4 = .ok (.aload_n 0, 1) := by decide +kernel
theorem dX3_init_5 : decode cX3_init 5 = .ok (.bipush 12, 2) := by decide +kernel
theorem dX3_init_7 : decode cX3_init 7 = .ok (.newarray .int, 2) := by decide +kernel
theorem dX3_init_9 : decode cX3_init 9 = .ok (.putfield 11, 3) := by decide +kernel
theorem dX3_init_12 : decode cX3_init 12 = .ok (.aload_n 0, 1) := by decide +kernel
theorem dX3_init_13 : decode cX3_init 13 = .ok (.bipush 12, 2) := by decide +kernel
theorem dX3_init_15 : decode cX3_init 15 = .ok (.newarray .int, 2) := by decide +kernel
theorem dX3_init_17 : decode cX3_init 17 = .ok (.putfield 15, 3) := by decide +kernel
theorem dX3_init_20 : decode cX3_init 20 = .ok (.aload_n 0, 1) := by decide +kernel
theorem dX3_init_21 : decode cX3_init 21 = .ok (.bipush 12, 2) := by decide +kernel
theorem dX3_init_23 : decode cX3_init 23 = .ok (.newarray .int, 2) := by decide +kernel
theorem dX3_init_25 : decode cX3_init 25 = .ok (.putfield 18, 3) := by decide +kernel
theorem dX3_init_28 : decode cX3_init 28 = .ok (.aload_n 0, 1) := by decide +kernel
theorem dX3_init_29 : decode cX3_init 29 = .ok (.invokevirtual 21, 3) := by decide +kernel
theorem dX3_init_32 : decode cX3_init 32 = .ok (.return_, 1) := by decide +kernel
theorem dX3_setAtFirst_0 : decode cX3_setAtFirst 0 = .ok (.aload_n 0, 1) := by decide +kernel
theorem dX3_setAtFirst_1 : decode cX3_setAtFirst 1 = .ok (.iconst 3, 1) := by decide +kernel
theorem dX3_setAtFirst_2 : decode cX3_setAtFirst 2 = .ok (.putfield 24, 3) := by decide +kernel
theorem dX3_setAtFirst_5 : decode cX3_setAtFirst 5 = .ok (.aload_n 0, 1) := by decide +kernel
theorem dX3_setAtFirst_6 : decode cX3_setAtFirst 6 = .ok (.sipush 200, 3) := by decide +kernel
theorem dX3_setAtFirst_9 : decode cX3_setAtFirst 9 = .ok (.putfield 28, 3) := by decide +kernel
theorem dX3_setAtFirst_12 : decode cX3_setAtFirst 12 = .ok (.aload_n 0, 1) := by decide +kernel
theorem dX3_setAtFirst_13 : decode cX3_setAtFirst 13 = .ok (.bipush 10, 2) := by decide +kernel
theorem dX3_setAtFirst_15 : decode cX3_setAtFirst 15 = .ok (.putfield 31, 3) := by decide +kernel
theorem dX3_setAtFirst_18 : decode cX3_setAtFirst 18 = .ok (.aload_n 0, 1) := by decide +kernel
theorem dX3_setAtFirst_19 : decode cX3_setAtFirst 19 = .ok (.sipush 300, 3) := by decide +kernel
theorem dX3_setAtFirst_22 : decode cX3_setAtFirst 22 = .ok (.putfield 34, 3) := by decide +kernel
theorem dX3_setAtFirst_25 : decode cX3_setAtFirst 25 = .ok (.aload_n 0, 1) := by decide +kernel
theorem dX3_setAtFirst_26 : decode cX3_setAtFirst 26 = .ok (.sipush 300, 3) := by decide +kernel
theorem dX3_setAtFirst_29 : decode cX3_setAtFirst 29 = .ok (.putfield 37, 3) := by decide +kernel
theorem dX3_setAtFirst_32 : decode cX3_setAtFirst 32 = .ok (.aload_n 0, 1) := by decide +kernel
theorem dX3_setAtFirst_33 : decode cX3_setAtFirst 33 = .ok (.bipush 40, 2) := by decide +kernel
theorem dX3_setAtFirst_35 : decode cX3_setAtFirst 35 = .ok (.putfield 40, 3) := by decide +kernel
theorem dX3_setAtFirst_38 : decode cX3_setAtFirst 38 = .ok (.aload_n 0, 1) := by decide +kernel
theorem dX3_setAtFirst_39 : decode cX3_setAtFirst 39 = .ok (.iconst 2, 1) := by decide +kernel
theorem dX3_setAtFirst_40 : decode cX3_setAtFirst 40 = .ok (.putfield 43, 3) := by decide +kernel
theorem dX3_setAtFirst_43 : decode cX3_setAtFirst 43 = .ok (.aload_n 0, 1) := by decide +kernel
theorem dX3_setAtFirst_44 : decode cX3_setAtFirst 44 = .ok (.iconst 4, 1) := by decide +kernel
theorem dX3_setAtFirst_45 : decode cX3_setAtFirst 45 = .ok (.putfield 46, 3) := by decide +kernel
theorem dX3_setAtFirst_48 : decode cX3_setAtFirst 48 = .ok (.aload_n 0, 1) := by decide +kernel
theorem dX3_setAtFirst_49 : decode cX3_setAtFirst 49 = .ok (.iconst 0, 1) := by decide +kernel
theorem dX3_setAtFirst_50 : decode cX3_setAtFirst 50 = .ok (.putfield 49, 3) := by decide +kernel
theorem dX3_setAtFirst_53 : decode cX3_setAtFirst 53 = .ok (.aload_n 0, 1) := by decide +kernel
theorem dX3_setAtFirst_54 : decode cX3_setAtFirst 54 = .ok (.iconst 0, 1) := by decide +kernel
theorem dX3_setAtFirst_55 : decode cX3_setAtFirst 55 = .ok (.putfield 52, 3) := by decide +kernel
theorem dX3_setAtFirst_58 : decode cX3_setAtFirst 58 = .ok (.return_, 1) := by decide +kernel
theorem dX3_take_0 : decode cX3_take 0 = .ok (.aload_n 0, 1) := by decide +kernel
theorem dX3_take_1 : decode cX3_take 1 = .ok (.aload_n 1, 1) := by decide +kernel
theorem dX3_take_2 : decode cX3_take 2 = .ok (.getfield 24, 3) := by decide +kernel
theorem dX3_take_5 : decode cX3_take 5 = .ok (.putfield 24, 3) := by decide +kernel
theorem dX3_take_8 : decode cX3_take 8 = .ok (.aload_n 0, 1) := by decide +kernel
theorem dX3_take_9 : decode cX3_take 9 = .ok (.aload_n 1, 1) := by decide +kernel
theorem dX3_take_10 : decode cX3_take 10 = .ok (.getfield 28, 3) := by decide +kernel
theorem dX3_take_13 : decode cX3_take 13 = .ok (.putfield 28, 3) := by decide +kernel
theorem dX3_take_16 : decode cX3_take 16 = .ok (.aload_n 0, 1) := by decide +kernel
theorem dX3_take_17 : decode cX3_take 17 = .ok (.aload_n 1, 1) := by decide +kernel
theorem dX3_take_18 : decode cX3_take 18 = .ok (.getfield 31, 3) := by decide +kernel
theorem dX3_take_21 : decode cX3_take 21 = .ok (.putfield 31, 3) := by decide +kernel
theorem dX3_take_24 : decode cX3_take 24 = .ok (.aload_n 0, 1) := by decide +kernel
theorem dX3_take_25 : decode cX3_take 25 = .ok (.aload_n 1, 1) := by decide +kernel
theorem dX3_take_26 : decode cX3_take 26 = .ok (.getfield 34, 3) := by decide +kernel
theorem dX3_take_29 : decode cX3_take 29 = .ok (.putfield 34, 3) := by decide +kernel
theorem dX3_take_32 : decode cX3_take 32 = .ok (.aload_n 0, 1) := by decide +kernel
theorem dX3_take_33 : decode cX3_take 33 = .ok (.aload_n 1, 1) := by decide +kernel
theorem dX3_take_34 : decode cX3_take 34 = .ok (.getfield 37, 3) := by decide +kernel
theorem dX3_take_37 : decode cX3_take 37 = .ok (.putfield 37, 3) := by decide +kernel
theorem dX3_take_40 : decode cX3_take 40 = .ok (.aload_n 0, 1) := by decide +kernel
theorem dX3_take_41 : decode cX3_take 41 = .ok (.aload_n 1, 1) := by decide +kernel
theorem dX3_take_42 : decode cX3_take 42 = .ok (.getfield 40, 3) := by decide +kernel
theorem dX3_take_45 : decode cX3_take 45 = .ok (.putfield 40, 3) := by decide +kernel
theorem dX3_take_48 : decode cX3_take 48 = .ok (.aload_n 0, 1) := by decide +kernel
theorem dX3_take_49 : decode cX3_take 49 = .ok (.aload_n 1, 1) := by decide +kernel
theorem dX3_take_50 : decode cX3_take 50 = .ok (.getfield 43, 3) := by decide +kernel
theorem dX3_take_53 : decode cX3_take 53 = .ok (.putfield 43, 3) := by decide +kernel
theorem dX3_take_56 : decode cX3_take 56 = .ok (.aload_n 0, 1) := by decide +kernel
theorem dX3_take_57 : decode cX3_take 57 = .ok (.aload_n 1, 1) := by decide +kernel
theorem dX3_take_58 : decode cX3_take 58 = .ok (.getfield 46, 3) := by decide +kernel
theorem dX3_take_61 : decode cX3_take 61 = .ok (.putfield 46, 3) := by decide +kernel
theorem dX3_take_64 : decode cX3_take 64 = .ok (.aload_n 0, 1) := by decide +kernel
theorem dX3_take_65 : decode cX3_take 65 = .ok (.aload_n 1, 1) := by decide +kernel
theorem dX3_take_66 : decode cX3_take 66 = .ok (.getfield 49, 3) := by decide +kernel
theorem dX3_take_69 : decode cX3_take 69 = .ok (.putfield 49, 3) := by decide +kernel
theorem dX3_take_72 : decode cX3_take 72 = .ok (.aload_n 0, 1) := by decide +kernel
theorem dX3_take_73 : decode cX3_take 73 = .ok (.aload_n 1, 1) := by decide +kernel
theorem dX3_take_74 : decode cX3_take 74 = .ok (.getfield 52, 3) := by decide +kernel
theorem dX3_take_77 : decode cX3_take 77 = .ok (.putfield 52, 3) := by decide +kernel
theorem dX3_take_80 : decode cX3_take 80 = .ok (.iconst 0, 1) := by decide +kernel
theorem dX3_take_81 : decode cX3_take 81 = .ok (.istore_n 2, 1) := by decide +kernel
theorem dX3_take_82 : decode cX3_take 82 = .ok (.iload_n 2, 1) := by decide +kernel
theorem dX3_take_83 : decode cX3_take 83 = .ok (.bipush 12, 2) := by decide +kernel
theorem dX3_take_85 : decode cX3_take 85 = .ok (.if_icmp .ge 45, 3) := by decide +kernel
theorem dX3_take_88 : decode cX3_take 88 = .ok (.aload_n 0, 1) := by decide +kernel
theorem dX3_take_89 : decode cX3_take 89 = .ok (.getfield 11, 3) := by decide +kernel
theorem dX3_take_92 : decode cX3_take 92 = .ok (.iload_n 2, 1) := by decide +kernel
theorem dX3_take_93 : decode cX3_take 93 = .ok (.aload_n 1, 1) := by decide +kernel
theorem dX3_take_94 : decode cX3_take 94 = .ok (.getfield 11, 3) := by decide +kernel
theorem dX3_take_97 : decode cX3_take 97 = .ok (.iload_n 2, 1) := by decide +kernel
theorem dX3_take_98 : decode cX3_take 98 = .ok (.iaload, 1) := by decide +kernel
theorem dX3_take_99 : decode cX3_take 99 = .ok (.iastore, 1) := by decide +kernel
theorem dX3_take_100 : decode cX3_take 100 = .ok (.aload_n 0, 1) := by decide +kernel
theorem dX3_take_101 : decode cX3_take 101 = .ok (.getfield 15, 3) := by decide +kernel
theorem dX3_take_104 : decode cX3_take 104 = .ok (.iload_n 2, 1) := by decide +kernel
theorem dX3_take_105 : decode cX3_take 105 = .ok (.aload_n 1, 1) := by decide +kernel
theorem dX3_take_106 : decode cX3_take 106 = .ok (.getfield 15, 3) := by decide +kernel
theorem dX3_take_109 : decode cX3_take 109 = .ok (.iload_n 2, 1) := by decide +kernel
theorem dX3_take_110 : decode cX3_take 110 = .ok (.iaload, 1) := by decide +kernel
theorem dX3_take_111 : decode cX3_take 111 = .ok (.iastore, 1) := by decide +kernel
theorem dX3_take_112 : decode cX3_take 112 = .ok (.aload_n 0, 1) := by decide +kernel
theorem dX3_take_113 : decode cX3_take 113 = .ok (.getfield 18, 3) := by decide +kernel
theorem dX3_take_116 : decode cX3_take 116 = .ok (.iload_n 2, 1) := by decide +kernel
theorem dX3_take_117 : decode cX3_take 117 = .ok (.aload_n 1, 1) := by decide +kernel
theorem dX3_take_118 : decode cX3_take 118 = .ok (.getfield 18, 3) := by decide +kernel
theorem dX3_take_121 : decode cX3_take 121 = .ok (.iload_n 2, 1) := by decide +kernel
theorem dX3_take_122 : decode cX3_take 122 = .ok (.iaload, 1) := by decide +kernel
theorem dX3_take_123 : decode cX3_take 123 = .ok (.iastore, 1) := by decide +kernel
theorem dX3_take_124 : decode cX3_take 124 = .ok (.iinc 2 1, 3) := by decide +kernel
theorem dX3_take_127 : decode cX3_take 127 = .ok (.goto (-45), 3) := by decide +kernel
theorem dX3_take_130 : decode cX3_take 130 = .ok (.return_, 1) := by decide +kernel
theorem dX3_isFull_0 : decode cX3_isFull 0 = .ok (.aload_n 0, 1) := by decide +kernel
theorem dX3_isFull_1 : decode cX3_isFull 1 = .ok (.getfield 52, 3) := by decide +kernel
theorem dX3_isFull_4 : decode cX3_isFull 4 = .ok (.bipush 12, 2) := by decide +kernel
theorem dX3_isFull_6 : decode cX3_isFull 6 = .ok (.if_icmp .lt 7, 3) := by decide +kernel
theorem dX3_isFull_9 : decode cX3_isFull 9 = .ok (.iconst 1, 1) := by decide +kernel
theorem dX3_isFull_10 : decode cX3_isFull 10 = .ok (.goto 4, 3) := by decide +kernel
theorem dX3_isFull_13 : decode cX3_isFull 13 = .ok (.iconst 0, 1) := by decide +kernel
theorem dX3_isFull_14 : decode cX3_isFull 14 = .ok (.ireturn, 1) := by decide +kernel
theorem dX3_add_0 : decode cX3_add 0 = .ok (.aload_n 0, 1) := by decide +kernel
theorem dX3_add_1 : decode cX3_add 1 = .ok (.getfield 52, 3) := by decide +kernel
theorem dX3_add_4 : decode cX3_add 4 = .ok (.ifCond .lt 52, 3) := by decide +kernel
theorem dX3_add_7 : decode cX3_add 7 = .ok (.aload_n 0, 1) := by decide +kernel
theorem dX3_add_8 : decode cX3_add 8 = .ok (.getfield 52, 3) := by decide +kernel
theorem dX3_add_11 : decode cX3_add 11 = .ok (.bipush 12, 2) := by decide +kernel
theorem dX3_add_13 : decode cX3_add 13 = .ok (.if_icmp .ge 43, 3) := by decide +kernel
theorem dX3_add_16 : decode cX3_add 16 = .ok (.aload_n 0, 1) := by decide +kernel
theorem dX3_add_17 : decode cX3_add 17 = .ok (.getfield 11, 3) := by decide +kernel
theorem dX3_add_20 : decode cX3_add 20 = .ok (.aload_n 0, 1) := by decide +kernel
theorem dX3_add_21 : decode cX3_add 21 = .ok (.getfield 52, 3) := by decide +kernel
theorem dX3_add_24 : decode cX3_add 24 = .ok (.iload_n 1, 1) := by decide +kernel
theorem dX3_add_25 : decode cX3_add 25 = .ok (.iastore, 1) := by decide +kernel
theorem dX3_add_26 : decode cX3_add 26 = .ok (.aload_n 0, 1) := by decide +kernel
theorem dX3_add_27 : decode cX3_add 27 = .ok (.getfield 15, 3) := by decide +kernel
theorem dX3_add_30 : decode cX3_add 30 = .ok (.aload_n 0, 1) := by decide +kernel
theorem dX3_add_31 : decode cX3_add 31 = .ok (.getfield 52, 3) := by decide +kernel
theorem dX3_add_34 : decode cX3_add 34 = .ok (.iload_n 2, 1) := by decide +kernel
theorem dX3_add_35 : decode cX3_add 35 = .ok (.iastore, 1) := by decide +kernel
theorem dX3_add_36 : decode cX3_add 36 = .ok (.aload_n 0, 1) := by decide +kernel
theorem dX3_add_37 : decode cX3_add 37 = .ok (.getfield 18, 3) := by decide +kernel
theorem dX3_add_40 : decode cX3_add 40 = .ok (.aload_n 0, 1) := by decide +kernel
theorem dX3_add_41 : decode cX3_add 41 = .ok (.getfield 52, 3) := by decide +kernel
theorem dX3_add_44 : decode cX3_add 44 = .ok (.iload_n 3, 1) := by decide +kernel
theorem dX3_add_45 : decode cX3_add 45 = .ok (.iastore, 1) := by decide +kernel
theorem dX3_add_46 : decode cX3_add 46 = .ok (.aload_n 0, 1) := by decide +kernel
theorem dX3_add_47 : decode cX3_add 47 = .ok (.dup, 1) := by decide +kernel
theorem dX3_add_48 : decode cX3_add 48 = .ok (.getfield 52, 3) := by decide +kernel
theorem dX3_add_51 : decode cX3_add 51 = .ok (.iconst 1, 1) := by decide +kernel
theorem dX3_add_52 : decode cX3_add 52 = .ok (.iadd, 1) := by decide +kernel
theorem dX3_add_53 : decode cX3_add 53 = .ok (.putfield 52, 3) := by decide +kernel
theorem dX3_add_56 : decode cX3_add 56 = .ok (.return_, 1) := by decide +kernel
theorem dX3_planSeconds_0 : decode cX3_planSeconds 0 = .ok (.iconst 0, 1) := by decide +kernel
theorem dX3_planSeconds_1 : decode cX3_planSeconds 1 = .ok (.istore_n 1, 1) := by decide +kernel
theorem dX3_planSeconds_2 : decode cX3_planSeconds 2 = .ok (.iconst 0, 1) := by decide +kernel
theorem dX3_planSeconds_3 : decode cX3_planSeconds 3 = .ok (.istore_n 2, 1) := by decide +kernel
theorem dX3_planSeconds_4 : decode cX3_planSeconds 4 = .ok (.iload_n 2, 1) := by decide +kernel
theorem dX3_planSeconds_5 : decode cX3_planSeconds 5 = .ok (.aload_n 0, 1) := by decide +kernel
theorem dX3_planSeconds_6 : decode cX3_planSeconds 6 = .ok (.getfield 52, 3) := by decide +kernel
theorem dX3_planSeconds_9 : decode cX3_planSeconds 9 = .ok (.if_icmp .ge 24, 3) := by decide +kernel
theorem dX3_planSeconds_12 : decode cX3_planSeconds 12 = .ok (.iload_n 2, 1) := by decide +kernel
theorem dX3_planSeconds_13 : decode cX3_planSeconds 13 = .ok (.bipush 12, 2) := by decide +kernel
theorem dX3_planSeconds_15 : decode cX3_planSeconds 15 = .ok (.if_icmp .ge 18, 3) := by decide +kernel
theorem dX3_planSeconds_18 : decode cX3_planSeconds 18 = .ok (.iload_n 1, 1) := by decide +kernel
theorem dX3_planSeconds_19 : decode cX3_planSeconds 19 = .ok (.aload_n 0, 1) := by decide +kernel
theorem dX3_planSeconds_20 : decode cX3_planSeconds 20 = .ok (.getfield 18, 3) := by decide +kernel
theorem dX3_planSeconds_23 : decode cX3_planSeconds 23 = .ok (.iload_n 2, 1) := by decide +kernel
theorem dX3_planSeconds_24 : decode cX3_planSeconds 24 = .ok (.iaload, 1) := by decide +kernel
theorem dX3_planSeconds_25 : decode cX3_planSeconds 25 = .ok (.iadd, 1) := by decide +kernel
theorem dX3_planSeconds_26 : decode cX3_planSeconds 26 = .ok (.istore_n 1, 1) := by decide +kernel
theorem dX3_planSeconds_27 : decode cX3_planSeconds 27 = .ok (.iinc 2 1, 3) := by decide +kernel
theorem dX3_planSeconds_30 : decode cX3_planSeconds 30 = .ok (.goto (-26), 3) := by decide +kernel
theorem dX3_planSeconds_33 : decode cX3_planSeconds 33 = .ok (.iload_n 1, 1) := by decide +kernel
theorem dX3_planSeconds_34 : decode cX3_planSeconds 34 = .ok (.ireturn, 1) := by decide +kernel
theorem dX3_heatFires_0 : decode cX3_heatFires 0 = .ok (.iconst 0, 1) := by decide +kernel
theorem dX3_heatFires_1 : decode cX3_heatFires 1 = .ok (.istore_n 2, 1) := by decide +kernel
theorem dX3_heatFires_2 : decode cX3_heatFires 2 = .ok (.iload_n 2, 1) := by decide +kernel
theorem dX3_heatFires_3 : decode cX3_heatFires 3 = .ok (.aload_n 0, 1) := by decide +kernel
theorem dX3_heatFires_4 : decode cX3_heatFires 4 = .ok (.getfield 52, 3) := by decide +kernel
theorem dX3_heatFires_7 : decode cX3_heatFires 7 = .ok (.if_icmp .ge 44, 3) := by decide +kernel
theorem dX3_heatFires_10 : decode cX3_heatFires 10 = .ok (.iload_n 2, 1) := by decide +kernel
theorem dX3_heatFires_11 : decode cX3_heatFires 11 = .ok (.bipush 12, 2) := by decide +kernel
theorem dX3_heatFires_13 : decode cX3_heatFires 13 = .ok (.if_icmp .ge 38, 3) := by decide +kernel
theorem dX3_heatFires_16 : decode cX3_heatFires 16 = .ok (.aload_n 0, 1) := by decide +kernel
theorem dX3_heatFires_17 : decode cX3_heatFires 17 = .ok (.getfield 11, 3) := by decide +kernel
theorem dX3_heatFires_20 : decode cX3_heatFires 20 = .ok (.iload_n 2, 1) := by decide +kernel
theorem dX3_heatFires_21 : decode cX3_heatFires 21 = .ok (.iaload, 1) := by decide +kernel
theorem dX3_heatFires_22 : decode cX3_heatFires 22 = .ok (.ifCond .ne 23, 3) := by decide +kernel
theorem dX3_heatFires_25 : decode cX3_heatFires 25 = .ok (.aload_n 0, 1) := by decide +kernel
theorem dX3_heatFires_26 : decode cX3_heatFires 26 = .ok (.getfield 15, 3) := by decide +kernel
theorem dX3_heatFires_29 : decode cX3_heatFires 29 = .ok (.iload_n 2, 1) := by decide +kernel
theorem dX3_heatFires_30 : decode cX3_heatFires 30 = .ok (.sipush 300, 3) := by decide +kernel
theorem dX3_heatFires_33 : decode cX3_heatFires 33 = .ok (.aload_n 0, 1) := by decide +kernel
theorem dX3_heatFires_34 : decode cX3_heatFires 34 = .ok (.getfield 15, 3) := by decide +kernel
theorem dX3_heatFires_37 : decode cX3_heatFires 37 = .ok (.iload_n 2, 1) := by decide +kernel
theorem dX3_heatFires_38 : decode cX3_heatFires 38 = .ok (.iaload, 1) := by decide +kernel
theorem dX3_heatFires_39 : decode cX3_heatFires 39 = .ok (.iload_n 1, 1) := by decide +kernel
theorem dX3_heatFires_40 : decode cX3_heatFires 40 = .ok (.iadd, 1) := by decide +kernel
theorem dX3_heatFires_41 : decode cX3_heatFires 41 = .ok (.invokestatic 55, 3) := by decide +kernel
theorem dX3_heatFires_44 : decode cX3_heatFires 44 = .ok (.iastore, 1) := by decide +kernel
theorem dX3_heatFires_45 : decode cX3_heatFires 45 = .ok (.iinc 2 1, 3) := by decide +kernel
theorem dX3_heatFires_48 : decode cX3_heatFires 48 = .ok (.goto (-46), 3) := by decide +kernel
theorem dX3_heatFires_51 : decode cX3_heatFires 51 = .ok (.return_, 1) := by decide +kernel
theorem dX4_init_0 : decode cX4_init 0 = .ok (.aload_n 0, 1) := by decide +kernel
theorem dX4_init_1 : decode cX4_init 1 = .ok (.invokespecial 1, 3) := by decide +kernel
theorem dX4_init_4 : decode cX4_init 4 = .ok (.aload_n 0, 1) := by decide +kernel
theorem dX4_init_5 : decode cX4_init 5 = .ok (.new 7, 3) := by decide +kernel
theorem dX4_init_8 : decode cX4_init 8 = .ok (.dup, 1) := by decide +kernel
theorem dX4_init_9 : decode cX4_init 9 = .ok (.invokespecial 9, 3) := by decide +kernel
theorem dX4_init_12 : decode cX4_init 12 = .ok (.putfield 10, 3) := by decide +kernel
theorem dX4_init_15 : decode cX4_init 15 = .ok (.aload_n 0, 1) := by decide +kernel
theorem dX4_init_16 : decode cX4_init 16 = .ok (.new 7, 3) := by decide +kernel
theorem dX4_init_19 : decode cX4_init 19 = .ok (.dup, 1) := by decide +kernel
theorem dX4_init_20 : decode cX4_init 20 = .ok (.invokespecial 9, 3) := by decide +kernel
theorem dX4_init_23 : decode cX4_init 23 = .ok (.putfield 16, 3) := by decide +kernel
theorem dX4_init_26 : decode cX4_init 26 = .ok (.aload_n 0, 1) := by decide +kernel
theorem dX4_init_27 : decode cX4_init 27 = .ok (.new 7, 3) := by decide +kernel
theorem dX4_init_30 : decode cX4_init 30 = .ok (.dup, 1) := by decide +kernel
theorem dX4_init_31 : decode cX4_init 31 = .ok (.invokespecial 9, 3) := by decide +kernel
theorem dX4_init_34 : decode cX4_init 34 = .ok (.putfield 19, 3) := by decide +kernel
theorem dX4_init_37 : decode cX4_init 37 = .ok (.aload_n 0, 1) := by decide +kernel
theorem dX4_init_38 : decode cX4_init 38 = .ok (.new 22, 3) := by decide +kernel
theorem dX4_init_41 : decode cX4_init 41 = .ok (.dup, 1) := by decide +kernel
theorem dX4_init_42 : decode cX4_init 42 = .ok (.invokespecial 24, 3) := by decide +kernel
theorem dX4_init_45 : decode cX4_init 45 = .ok (.putfield 25, 3) := by decide +kernel
theorem dX4_init_48 : decode cX4_init 48 = .ok (.aload_n 0, 1) := by decide +kernel
theorem dX4_init_49 : decode cX4_init 49 = .ok (.new 29, 3) := by decide +kernel
theorem dX4_init_52 : decode cX4_init 52 = .ok (.dup, 1) := by decide +kernel
theorem dX4_init_53 : decode cX4_init 53 = .ok (.invokespecial 31, 3) := by decide +kernel
theorem dX4_init_56 : decode cX4_init 56 = .ok (.putfield 32, 3) := by decide +kernel
theorem dX4_init_59 : decode cX4_init 59 = .ok (.aload_n 0, 1) := by decide +kernel
theorem dX4_init_60 : decode cX4_init 60 = .ok (.new 36, 3) := by decide +kernel
theorem dX4_init_63 : decode cX4_init 63 = .ok (.dup, 1) := by decide +kernel
theorem dX4_init_64 : decode cX4_init 64 = .ok (.invokespecial 38, 3) := by decide +kernel
theorem dX4_init_67 : decode cX4_init 67 = .ok (.putfield 39, 3) := by decide +kernel
theorem dX4_init_70 : decode cX4_init 70 = .ok (.aload_n 0, 1) := by decide +kernel
theorem dX4_init_71 : decode cX4_init 71 = .ok (.iconst 2, 1) := by decide +kernel
theorem dX4_init_72 : decode cX4_init 72 = .ok (.anewarray 29, 3) := by decide +kernel
theorem dX4_init_75 : decode cX4_init 75 = .ok (.dup, 1) := by decide +kernel
theorem dX4_init_76 : decode cX4_init 76 = .ok (.iconst 0, 1) := by decide +kernel
theorem dX4_init_77 : decode cX4_init 77 = .ok (.new 29, 3) := by decide +kernel
theorem dX4_init_80 : decode cX4_init 80 = .ok (.dup, 1) := by decide +kernel
theorem dX4_init_81 : decode cX4_init 81 = .ok (.invokespecial 31, 3) := by decide +kernel
theorem dX4_init_84 : decode cX4_init 84 = .ok (.aastore, 1) := by decide +kernel
theorem dX4_init_85 : decode cX4_init 85 = .ok (.dup, 1) := by decide +kernel
theorem dX4_init_86 : decode cX4_init 86 = .ok (.iconst 1, 1) := by decide +kernel
theorem dX4_init_87 : decode cX4_init 87 = .ok (.new 29, 3) := by decide +kernel
theorem dX4_init_90 : decode cX4_init 90 = .ok (.dup, 1) := by decide +kernel
theorem dX4_init_91 : decode cX4_init 91 = .ok (.invokespecial 31, 3) := by decide +kernel
theorem dX4_init_94 : decode cX4_init 94 = .ok (.aastore, 1) := by decide +kernel
theorem dX4_init_95 : decode cX4_init 95 = .ok (.putfield 43, 3) := by decide +kernel
theorem dX4_init_98 : decode cX4_init 98 = .ok (.aload_n 0, 1) := by decide +kernel
theorem dX4_init_99 : decode cX4_init 99 = .ok (.iconst 2, 1) := by decide +kernel
theorem dX4_init_100 : decode cX4_init 100 = .ok (.newarray .boolean, 2) := by decide +kernel
theorem dX4_init_102 : decode cX4_init 102 = .ok (.putfield 47, 3) := by decide +kernel
theorem dX4_init_105 : decode cX4_init 105 = .ok (.aload_n 0, 1) := by decide +kernel
theorem dX4_init_106 : decode cX4_init 106 = .ok (.iconst 4, 1) := by decide +kernel
theorem dX4_init_107 : decode cX4_init 107 = .ok (.newarray .int, 2) := by decide +kernel
theorem dX4_init_109 : decode cX4_init 109 = .ok (.dup, 1) := by decide +kernel
theorem dX4_init_110 : decode cX4_init 110 = .ok (.iconst 0, 1) := by decide +kernel
theorem dX4_init_111 : decode cX4_init 111 = .ok (.bipush 40, 2) := by decide +kernel
theorem dX4_init_113 : decode cX4_init 113 = .ok (.iastore, 1) := by decide +kernel
theorem dX4_init_114 : decode cX4_init 114 = .ok (.dup, 1) := by decide +kernel
theorem dX4_init_115 : decode cX4_init 115 = .ok (.iconst 1, 1) := by decide +kernel
theorem dX4_init_116 : decode cX4_init 116 = .ok (.bipush 90, 2) := by decide +kernel
theorem dX4_init_118 : decode cX4_init 118 = .ok (.iastore, 1) := by decide +kernel
theorem dX4_init_119 : decode cX4_init 119 = .ok (.dup, 1) := by decide +kernel
theorem dX4_init_120 : decode cX4_init 120 = .ok (.iconst 2, 1) := by decide +kernel
theorem dX4_init_121 : decode cX4_init 121 = .ok (.bipush 90, 2) := by decide +kernel
theorem dX4_init_123 : decode cX4_init 123 = .ok (.iastore, 1) := by decide +kernel
theorem dX4_init_124 : decode cX4_init 124 = .ok (.dup, 1) := by decide +kernel
theorem dX4_init_125 : decode cX4_init 125 = .ok (.iconst 3, 1) := by decide +kernel
theorem dX4_init_126 : decode cX4_init 126 = .ok (.bipush 40, 2) := by decide +kernel
theorem dX4_init_128 : decode cX4_init 128 = .ok (.iastore, 1) := by decide +kernel
theorem dX4_init_129 : decode cX4_init 129 = .ok (.putfield 51, 3) := by decide +kernel
theorem dX4_init_132 : decode cX4_init 132 = .ok (.aload_n 0, 1) := by decide +kernel
theorem dX4_init_133 : decode cX4_init 133 = .ok (.bipush 20, 2) := by decide +kernel
theorem dX4_init_135 : decode cX4_init 135 = .ok (.newarray .int, 2) := by decide +kernel
theorem dX4_init_137 : decode cX4_init 137 = .ok (.putfield 55, 3) := by decide +kernel
theorem dX4_init_140 : decode cX4_init 140 = .ok (.aload_n 0, 1) := by decide +kernel
theorem dX4_init_141 : decode cX4_init 141 = .ok (.bipush 20, 2) := by decide +kernel
theorem dX4_init_143 : decode cX4_init 143 = .ok (.newarray .int, 2) := by decide +kernel
theorem dX4_init_145 : decode cX4_init 145 = .ok (.putfield 58, 3) := by decide +kernel
theorem dX4_init_148 : decode cX4_init 148 = .ok (.aload_n 0, 1) := by decide +kernel
theorem dX4_init_149 : decode cX4_init 149 = .ok (.getfield 32, 3) := by decide +kernel
theorem dX4_init_152 : decode cX4_init 152 = .ok (.aload_n 0, 1) := by decide +kernel
theorem dX4_init_153 : decode cX4_init 153 = .ok (.getfield 10, 3) := by decide +kernel
theorem dX4_init_156 : decode cX4_init 156 = .ok (.getfield 61, 3) := by decide +kernel
theorem dX4_init_159 : decode cX4_init 159 = .ok (.invokevirtual 65, 3) := by decide +kernel
theorem dX4_init_162 : decode cX4_init 162 = .ok (.return_, 1) := by decide +kernel
theorem dX4_type_0 : decode cX4_type 0 = .ok (.iload_n 3, 1) := by decide +kernel
theorem dX4_type_1 : decode cX4_type 1 = .ok (.iconst 1, 1) := by decide +kernel
theorem dX4_type_2 : decode cX4_type 2 = .ok (.bipush 8, 2) := by decide +kernel
theorem dX4_type_4 : decode cX4_type 4 = .ok (.invokestatic 69, 3) := by decide +kernel
theorem dX4_type_7 : decode cX4_type 7 = .ok (.ifCond .eq 5, 3) := by decide +kernel
theorem dX4_type_10 : decode cX4_type 10 = .ok (.iconst (-1), 1) := by decide +kernel
theorem dX4_type_11 : decode cX4_type 11 = .ok (.ireturn, 1) := by decide +kernel
theorem dX4_type_12 : decode cX4_type 12 = .ok (.aload_n 0, 1) := by decide +kernel
theorem dX4_type_13 : decode cX4_type 13 = .ok (.getfield 25, 3) := by decide +kernel
theorem dX4_type_16 : decode cX4_type 16 = .ok (.getfield 73, 3) := by decide +kernel
theorem dX4_type_19 : decode cX4_type 19 = .ok (.iload_n 3, 1) := by decide +kernel
theorem dX4_type_20 : decode cX4_type 20 = .ok (.iadd, 1) := by decide +kernel
theorem dX4_type_21 : decode cX4_type 21 = .ok (.sipush 300, 3) := by decide +kernel
theorem dX4_type_24 : decode cX4_type 24 = .ok (.if_icmp .le 6, 3) := by decide +kernel
theorem dX4_type_27 : decode cX4_type 27 = .ok (.bipush (-3), 2) := by decide +kernel
theorem dX4_type_29 : decode cX4_type 29 = .ok (.ireturn, 1) := by decide +kernel
theorem dX4_type_30 : decode cX4_type 30 = .ok (.iload_n 3, 1) := by decide +kernel
theorem dX4_type_31 : decode cX4_type 31 = .ok (.iconst 1, 1) := by decide +kernel
theorem dX4_type_32 : decode cX4_type 32 = .ok (.isub, 1) := by decide +kernel
theorem dX4_type_33 : decode cX4_type 33 = .ok (.istore 4, 2) := by decide +kernel
theorem dX4_type_35 : decode cX4_type 35 = .ok (.iload 4, 2) := by decide +kernel
theorem dX4_type_37 : decode cX4_type 37 = .ok (.ifCond .lt 28, 3) := by decide +kernel
theorem dX4_type_40 : decode cX4_type 40 = .ok (.aload_n 0, 1) := by decide +kernel
theorem dX4_type_41 : decode cX4_type 41 = .ok (.getfield 25, 3) := by decide +kernel
theorem dX4_type_44 : decode cX4_type 44 = .ok (.lload_n 1, 1) := by decide +kernel
theorem dX4_type_45 : decode cX4_type 45 = .ok (.bipush 8, 2) := by decide +kernel
theorem dX4_type_47 : decode cX4_type 47 = .ok (.iload 4, 2) := by decide +kernel
theorem dX4_type_49 : decode cX4_type 49 = .ok (.imul, 1) := by decide +kernel
theorem dX4_type_50 : decode cX4_type 50 = .ok (.lushr, 1) := by decide +kernel
theorem dX4_type_51 : decode cX4_type 51 = .ok (.l2i, 1) := by decide +kernel
theorem dX4_type_52 : decode cX4_type 52 = .ok (.sipush 255, 3) := by decide +kernel
theorem dX4_type_55 : decode cX4_type 55 = .ok (.iand, 1) := by decide +kernel
theorem dX4_type_56 : decode cX4_type 56 = .ok (.invokevirtual 76, 3) := by decide +kernel
theorem dX4_type_59 : decode cX4_type 59 = .ok (.iinc 4 (-1), 3) := by decide +kernel
theorem dX4_type_62 : decode cX4_type 62 = .ok (.goto (-27), 3) := by decide +kernel
theorem dX4_type_65 : decode cX4_type 65 = .ok (.aload_n 0, 1) := by decide +kernel
theorem dX4_type_66 : decode cX4_type 66 = .ok (.getfield 25, 3) := by decide +kernel
theorem dX4_type_69 : decode cX4_type 69 = .ok (.getfield 73, 3) := by decide +kernel
theorem dX4_type_72 : decode cX4_type 72 = .ok (.ireturn, 1) := by decide +kernel
theorem dX4_clear_0 : decode cX4_clear 0 = .ok (.aload_n 0, 1) := by decide +kernel
theorem dX4_clear_1 : decode cX4_clear 1 = .ok (.getfield 25, 3) := by decide +kernel
theorem dX4_clear_4 : decode cX4_clear 4 = .ok (.getfield 73, 3) := by decide +kernel
theorem dX4_clear_7 : decode cX4_clear 7 = .ok (.istore_n 1, 1) := by decide +kernel
theorem dX4_clear_8 : decode cX4_clear 8 = .ok (.aload_n 0, 1) := by decide +kernel
theorem dX4_clear_9 : decode cX4_clear 9 = .ok (.getfield 25, 3) := by decide +kernel
theorem dX4_clear_12 : decode cX4_clear 12 = .ok (.iconst 0, 1) := by decide +kernel
theorem dX4_clear_13 : decode cX4_clear 13 = .ok (.putfield 73, 3) := by decide +kernel
theorem dX4_clear_16 : decode cX4_clear 16 = .ok (.iload_n 1, 1) := by decide +kernel
theorem dX4_clear_17 : decode cX4_clear 17 = .ok (.ireturn, 1) := by decide +kernel
