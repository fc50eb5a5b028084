set_option maxRecDepth 20000 in
theorem ggX4_init_X3_init : GoodIn wsX4_init wsX3_init := goodIn_r _ [31, 32, 2, 3, 25, 33, 34, 35, 36, 37, 38, 6, 39, 40, 41, 42, 43, 44, 45, 46, 47, 48, 49, 79, 80, 81, 82, 83, 84, 85, 86, 87, 88, 89, 90, 91] (by decide +kernel) (by decide +kernel)
set_option maxRecDepth 20000 in
theorem gX4_init_X3_init : GoodIn wsX4_init (wsX3_init) := ggX4_init_X3_init
set_option maxRecDepth 20000 in
theorem ggX4_init_X2_init : GoodIn wsX4_init wsX2_init := goodIn_r _ [51, 52, 2, 3, 25, 53, 54, 106, 107, 108, 109, 110, 111, 112, 113, 114] (by decide +kernel) (by decide +kernel)
set_option maxRecDepth 20000 in
theorem gX4_init_X2_init_n24 : GoodIn wsX4_init (wsX2_init) := ggX4_init_X2_init
set_option maxRecDepth 20000 in
theorem ggX4_init_X1_init : GoodIn wsX4_init wsX1_init := goodIn_r _ [56, 57, 2, 3, 25, 58, 59, 115, 116, 117, 118, 119, 120, 121, 122, 123, 124, 125] (by decide +kernel) (by decide +kernel)
set_option maxRecDepth 20000 in
theorem gX4_init_X1_init_n31 : GoodIn wsX4_init (wsX1_init) := ggX4_init_X1_init
set_option maxRecDepth 20000 in
theorem ggX4_init_X0_init : GoodIn wsX4_init wsX0_init := goodIn_r _ [61, 62, 2, 3, 63, 15, 16, 64, 55, 56, 57, 25, 58, 59, 115, 116, 117, 118, 119, 120, 121, 122, 123, 124, 125, 126, 127, 128, 129, 130] (by decide +kernel) (by decide +kernel)
set_option maxRecDepth 20000 in
theorem gX4_init_X0_init_n38 : GoodIn wsX4_init (wsX0_init) := ggX4_init_X0_init
set_option maxRecDepth 20000 in
theorem ggX4_init_X1_begin : GoodIn wsX4_init wsX1_begin := goodIn_r _ [68, 69, 58, 59, 70, 71, 72, 73, 74, 75, 76, 77, 78, 115, 116, 117, 118, 119, 120, 121, 122, 123, 124, 125, 79, 80, 81, 82, 83, 84, 85, 86, 87, 88, 89, 90, 91] (by decide +kernel) (by decide +kernel)
set_option maxRecDepth 20000 in
theorem gX4_init_X1_begin : GoodIn wsX4_init (wsV RX4 61 RX1 yX1_begin wsX1_begin) := goodIn_app (goodIn_of _ (by decide +kernel)) ggX4_init_X1_begin
theorem dX4_init_0 : decode cX4_init 0 = .ok (.aload_n 0, 1) := by decide +kernel
theorem dX4_init_1 : decode cX4_init 1 = .ok (.invokespecial 1, 3) := by decide +kernel
theorem dX4_init_4 : decode cX4_init 4 = .ok (.aload_n 0, 1) := by decide +kernel
theorem dX4_init_5 : decode cX4_init 5 = .ok (.new 7, 3) := by decide +kernel
theorem dX4_init_8 : decode cX4_init 8 = .ok (.dup, 1) := by decide +kernel
theorem dX4_init_9 : decode cX4_init 9 = .ok (.invokespecial 9, 3) := by decide +kernel
theorem dX4_init_12 : decode cX4_init 12 = .ok (.putfield 10, 3) := by decide +kernel
theorem dX4_init_15 : decode cX4_init 15 = .ok (.aload_n 0, 1) := by decide +kernel
theorem dX4_init_16 : decode cX4_init 16 = .ok (.new 7, 3) := by decide +kernel
theorem dX4_init_19 : decode cX4_init 19 = .ok (.dup, 1) := by decide +kernel
theorem dX4_init_20 : decode cX4_init 20 = .ok (.invokespecial 9, 3) := by decide +kernel
theorem dX4_init_23 : decode cX4_init 23 = .ok (.putfield 16, 3) := by decide +kernel
theorem dX4_init_26 : decode cX4_init 26 = .ok (.aload_n 0, 1) := by decide +kernel
theorem dX4_init_27 : decode cX4_init 27 = .ok (.new 7, 3) := by decide +kernel
theorem dX4_init_30 : decode cX4_init 30 = .ok (.dup, 1) := by decide +kernel
theorem dX4_init_31 : decode cX4_init 31 = .ok (.invokespecial 9, 3) := by decide +kernel
theorem dX4_init_34 : decode cX4_init 34 = .ok (.putfield 19, 3) := by decide +kernel
theorem dX4_init_37 : decode cX4_init 37 = .ok (.aload_n 0, 1) := by decide +kernel
theorem dX4_init_38 : decode cX4_init 38 = .ok (.new 22, 3) := by decide +kernel
theorem dX4_init_41 : decode cX4_init 41 = .ok (.dup, 1) := by decide +kernel
theorem dX4_init_42 : decode cX4_init 42 = .ok (.invokespecial 24, 3) := by decide +kernel
theorem dX4_init_45 : decode cX4_init 45 = .ok (.putfield 25, 3) := by decide +kernel
theorem dX4_init_48 : decode cX4_init 48 = .ok (.aload_n 0, 1) := by decide +kernel
theorem dX4_init_49 : decode cX4_init 49 = .ok (.new 29, 3) := by decide +kernel
theorem dX4_init_52 : decode cX4_init 52 = .ok (.dup, 1) := by decide +kernel
theorem dX4_init_53 : decode cX4_init 53 = .ok (.invokespecial 31, 3) := by decide +kernel
theorem dX4_init_56 : decode cX4_init 56 = .ok (.putfield 32, 3) := by decide +kernel
theorem dX4_init_59 : decode cX4_init 59 = .ok (.aload_n 0, 1) := by decide +kernel
theorem dX4_init_60 : decode cX4_init 60 = .ok (.new 36, 3) := by decide +kernel
theorem dX4_init_63 : decode cX4_init 63 = .ok (.dup, 1) := by decide +kernel
theorem dX4_init_64 : decode cX4_init 64 = .ok (.invokespecial 38, 3) := by decide +kernel
theorem dX4_init_67 : decode cX4_init 67 = .ok (.putfield 39, 3) := by decide +kernel
theorem dX4_init_70 : decode cX4_init 70 = .ok (.aload_n 0, 1) := by decide +kernel
theorem dX4_init_71 : decode cX4_init 71 = .ok (.iconst 2, 1) := by decide +kernel
theorem dX4_init_72 : decode cX4_init 72 = .ok (.anewarray 29, 3) := by decide +kernel
theorem dX4_init_75 : decode cX4_init 75 = .ok (.dup, 1) := by decide +kernel
theorem dX4_init_76 : decode cX4_init 76 = .ok (.iconst 0, 1) := by decide +kernel
theorem dX4_init_77 : decode cX4_init 77 = .ok (.new 29, 3) := by decide +kernel
theorem dX4_init_80 : decode cX4_init 80 = .ok (.dup, 1) := by decide +kernel
theorem dX4_init_81 : decode cX4_init 81 = .ok (.invokespecial 31, 3) := by decide +kernel
theorem dX4_init_84 : decode cX4_init 84 = .ok (.aastore, 1) := by decide +kernel
theorem dX4_init_85 : decode cX4_init 85 = .ok (.dup, 1) := by decide +kernel
theorem dX4_init_86 : decode cX4_init 86 = .ok (.iconst 1, 1) := by decide +kernel
theorem dX4_init_87 : decode cX4_init 87 = .ok (.new 29, 3) := by decide +kernel
theorem dX4_init_90 : decode cX4_init 90 = .ok (.dup, 1) := by decide +kernel
theorem dX4_init_91 : decode cX4_init 91 = .ok (.invokespecial 31, 3) := by decide +kernel
theorem dX4_init_94 : decode cX4_init 94 = .ok (.aastore, 1) := by decide +kernel
theorem dX4_init_95 : decode cX4_init 95 = .ok (.putfield 43, 3) := by decide +kernel
theorem dX4_init_98 : decode cX4_init 98 = .ok (.aload_n 0, 1) := by decide +kernel
theorem dX4_init_99 : decode cX4_init 99 = .ok (.iconst 2, 1) := by decide +kernel
theorem dX4_init_100 : decode cX4_init 100 = .ok (.newarray .boolean, 2) := by decide +kernel
theorem dX4_init_102 : decode cX4_init 102 = .ok (.putfield 47, 3) := by decide +kernel
theorem dX4_init_105 : decode cX4_init 105 = .ok (.aload_n 0, 1) := by decide +kernel
theorem dX4_init_106 : decode cX4_init 106 = .ok (.iconst 4, 1) := by decide +kernel
theorem dX4_init_107 : decode cX4_init 107 = .ok (.newarray .int, 2) := by decide +kernel
theorem dX4_init_109 : decode cX4_init 109 = .ok (.dup, 1) := by decide +kernel
theorem dX4_init_110 : decode cX4_init 110 = .ok (.iconst 0, 1) := by decide +kernel
theorem dX4_init_111 : decode cX4_init 111 = .ok (.bipush 40, 2) := by decide +kernel
theorem dX4_init_113 : decode cX4_init 113 = .ok (.iastore, 1) := by decide +kernel
theorem dX4_init_114 : decode cX4_init 114 = .ok (.dup, 1) := by decide +kernel
theorem dX4_init_115 : decode cX4_init 115 = .ok (.iconst 1, 1) := by decide +kernel
theorem dX4_init_116 : decode cX4_init 116 = .ok (.bipush 90, 2) := by decide +kernel
theorem dX4_init_118 : decode cX4_init 118 = .ok (.iastore, 1) := by decide +kernel
theorem dX4_init_119 : decode cX4_init 119 = .ok (.dup, 1) := by decide +kernel
theorem dX4_init_120 : decode cX4_init 120 = .ok (.iconst 2, 1) := by decide +kernel
theorem dX4_init_121 : decode cX4_init 121 = .ok (.bipush 90, 2) := by decide +kernel
theorem dX4_init_123 : decode cX4_init 123 = .ok (.iastore, 1) := by decide +kernel
theorem dX4_init_124 : decode cX4_init 124 = .ok (.dup, 1) := by decide +kernel
theorem dX4_init_125 : decode cX4_init 125 = .ok (.iconst 3, 1) := by decide +kernel
theorem dX4_init_126 : decode cX4_init 126 = .ok (.bipush 40, 2) := by decide +kernel
theorem dX4_init_128 : decode cX4_init 128 = .ok (.iastore, 1) := by decide +kernel
theorem dX4_init_129 : decode cX4_init 129 = .ok (.putfield 51, 3) := by decide +kernel
theorem dX4_init_132 : decode cX4_init 132 = .ok (.aload_n 0, 1) := by decide +kernel
theorem dX4_init_133 : decode cX4_init 133 = .ok (.bipush 20, 2) := by decide +kernel
theorem dX4_init_135 : decode cX4_init 135 = .ok (.newarray .int, 2) := by decide +kernel
theorem dX4_init_137 : decode cX4_init 137 = .ok (.putfield 55, 3) := by decide +kernel
theorem dX4_init_140 : decode cX4_init 140 = .ok (.aload_n 0, 1) := by decide +kernel
theorem dX4_init_141 : decode cX4_init 141 = .ok (.bipush 20, 2) := by decide +kernel
theorem dX4_init_143 : decode cX4_init 143 = .ok (.newarray .int, 2) := by decide +kernel
theorem dX4_init_145 : decode cX4_init 145 = .ok (.putfield 58, 3) := by decide +kernel
theorem dX4_init_148 : decode cX4_init 148 = .ok (.aload_n 0, 1) := by decide +kernel
theorem dX4_init_149 : decode cX4_init 149 = .ok (.getfield 32, 3) := by decide +kernel
theorem dX4_init_152 : decode cX4_init 152 = .ok (.aload_n 0, 1) := by decide +kernel
theorem dX4_init_153 : decode cX4_init 153 = .ok (.getfield 10, 3) := by decide +kernel
theorem dX4_init_156 : decode cX4_init 156 = .ok (.invokevirtual 61, 3) := by decide +kernel
theorem dX4_init_159 : decode cX4_init 159 = .ok (.return_, 1) := by decide +kernel
set_option maxRecDepth 20000 in
theorem ggX4_type_X4_outside : GoodIn wsX4_type wsX4_outside := goodIn_r _ [6] (by decide +kernel) (by decide +kernel)
set_option maxRecDepth 20000 in
theorem gX4_type_X4_outside : GoodIn wsX4_type (va_wsS RX4 65 yX4_outside wsX4_outside) := goodIn_app (goodIn_of _ (by decide +kernel)) ggX4_type_X4_outside
set_option maxRecDepth 20000 in
theorem ggX4_type_X2_append : GoodIn wsX4_type wsX2_append := goodIn_r _ [11, 12, 13, 28, 29, 30, 31, 32, 33, 34, 35, 36] (by decide +kernel) (by decide +kernel)
set_option maxRecDepth 20000 in
theorem gX4_type_X2_append : GoodIn wsX4_type (wsV RX4 73 RX2 yX2_append wsX2_append) := goodIn_app (goodIn_of _ (by decide +kernel)) ggX4_type_X2_append
theorem dX4_type_0 : decode cX4_type 0 = .ok (.iload_n 3, 1) := by decide +kernel
theorem dX4_type_1 : decode cX4_type 1 = .ok (.iconst 1, 1) := by decide +kernel
theorem dX4_type_2 : decode cX4_type 2 = .ok (.bipush 8, 2) := by decide +kernel
theorem dX4_type_4 : decode cX4_type 4 = .ok (.invokestatic 65, 3) := by decide +kernel
theorem dX4_type_7 : decode cX4_type 7 = .ok (.ifCond .eq 5, 3) := by decide +kernel
theorem dX4_type_10 : decode cX4_type 10 = .ok (.iconst (-1), 1) := by decide +kernel
theorem dX4_type_11 : decode cX4_type 11 = .ok (.ireturn, 1) := by decide +kernel
theorem dX4_type_12 : decode cX4_type 12 = .ok (.aload_n 0, 1) := by decide +kernel
theorem dX4_type_13 : decode cX4_type 13 = .ok (.getfield 25, 3) := by decide +kernel
theorem dX4_type_16 : decode cX4_type 16 = .ok (.getfield 69, 3) := by decide +kernel
theorem dX4_type_19 : decode cX4_type 19 = .ok (.iload_n 3, 1) := by decide +kernel
theorem dX4_type_20 : decode cX4_type 20 = .ok (.iadd, 1) := by decide +kernel
theorem dX4_type_21 : decode cX4_type 21 = .ok (.sipush 300, 3) := by decide +kernel
theorem dX4_type_24 : decode cX4_type 24 = .ok (.if_icmp .le 6, 3) := by decide +kernel
theorem dX4_type_27 : decode cX4_type 27 = .ok (.bipush (-3), 2) := by decide +kernel
theorem dX4_type_29 : decode cX4_type 29 = .ok (.ireturn, 1) := by decide +kernel
theorem dX4_type_30 : decode cX4_type 30 = .ok (.iload_n 3, 1) := by decide +kernel
theorem dX4_type_31 : decode cX4_type 31 = .ok (.iconst 1, 1) := by decide +kernel
theorem dX4_type_32 : decode cX4_type 32 = .ok (.isub, 1) := by decide +kernel
theorem dX4_type_33 : decode cX4_type 33 = .ok (.istore 4, 2) := by decide +kernel
theorem dX4_type_35 : decode cX4_type 35 = .ok (.iload 4, 2) := by decide +kernel
theorem dX4_type_37 : decode cX4_type 37 = .ok (.ifCond .lt 28, 3) := by decide +kernel
theorem dX4_type_40 : decode cX4_type 40 = .ok (.aload_n 0, 1) := by decide +kernel
theorem dX4_type_41 : decode cX4_type 41 = .ok (.getfield 25, 3) := by decide +kernel
theorem dX4_type_44 : decode cX4_type 44 = .ok (.lload_n 1, 1) := by decide +kernel
theorem dX4_type_45 : decode cX4_type 45 = .ok (.bipush 8, 2) := by decide +kernel
theorem dX4_type_47 : decode cX4_type 47 = .ok (.iload 4, 2) := by decide +kernel
theorem dX4_type_49 : decode cX4_type 49 = .ok (.imul, 1) := by decide +kernel
theorem dX4_type_50 : decode cX4_type 50 = .ok (.lushr, 1) := by decide +kernel
theorem dX4_type_51 : decode cX4_type 51 = .ok (.l2i, 1) := by decide +kernel
theorem dX4_type_52 : decode cX4_type 52 = .ok (.sipush 255, 3) := by decide +kernel
theorem dX4_type_55 : decode cX4_type 55 = .ok (.iand, 1) := by decide +kernel
theorem dX4_type_56 : decode cX4_type 56 = .ok (.invokevirtual 73, 3) := by decide +kernel
theorem dX4_type_59 : decode cX4_type 59 = .ok (.iinc 4 (-1), 3) := by decide +kernel
theorem dX4_type_62 : decode cX4_type 62 = .ok (.goto (-27), 3) := by decide +kernel
theorem dX4_type_65 : decode cX4_type 65 = .ok (.aload_n 0, 1) := by decide +kernel
theorem dX4_type_66 : decode cX4_type 66 = .ok (.getfield 25, 3) := by decide +kernel
theorem dX4_type_69 : decode cX4_type 69 = .ok (.getfield 69, 3) := by decide +kernel
theorem dX4_type_72 : decode cX4_type 72 = .ok (.ireturn, 1) := by decide +kernel
theorem dX4_clear_0 : decode cX4_clear 0 = .ok (.aload_n 0, 1) := by decide +kernel
theorem dX4_clear_1 : decode cX4_clear 1 = .ok (.getfield 25, 3) := by decide +kernel
theorem dX4_clear_4 : decode cX4_clear 4 = .ok (.getfield 69, 3) := by decide +kernel
theorem dX4_clear_7 : decode cX4_clear 7 = .ok (.istore_n 1, 1) := by decide +kernel
theorem dX4_clear_8 : decode cX4_clear 8 = .ok (.aload_n 0, 1) := by decide +kernel
theorem dX4_clear_9 : decode cX4_clear 9 = .ok (.getfield 25, 3) := by decide +kernel
theorem dX4_clear_12 : decode cX4_clear 12 = .ok (.iconst 0, 1) := by decide +kernel
theorem dX4_clear_13 : decode cX4_clear 13 = .ok (.putfield 69, 3) := by decide +kernel
theorem dX4_clear_16 : decode cX4_clear 16 = .ok (.iload_n 1, 1) := by decide +kernel
theorem dX4_clear_17 : decode cX4_clear 17 = .ok (.ireturn, 1) := by decide +kernel
set_option maxRecDepth 20000 in
theorem ggX4_sausage_X2_readAll : GoodIn wsX4_sausage wsX2_readAll := goodIn_r _ [11, 12, 13, 14, 15, 16, 17, 18, 19, 20, 21, 22, 23, 24, 25, 26, 27, 28, 29, 30, 31, 32, 33, 34, 10, 35, 36, 37, 38, 39, 40, 41, 42, 43, 44, 45, 46, 47, 48, 49, 50, 51, 52, 53, 54, 55, 56, 57, 58, 59, 60, 61, 62, 63, 64, 65, 66, 67, 68, 69, 70, 71, 72, 73, 74, 75, 76, 77, 78, 79, 80, 81, 82, 83, 84, 85, 86, 87, 88, 89, 90, 91, 92, 93, 94, 95, 96, 97, 98, 99, 100, 101, 102, 103, 104, 105, 106, 107, 108, 109, 110, 111, 112, 113, 114, 115, 116, 117, 118, 119, 120, 121, 122, 123, 124, 125, 126, 127, 128, 129, 130, 131, 132, 133, 134, 135, 136, 137, 138, 139, 140, 141, 142, 143, 144, 145, 146, 147, 148, 149, 150, 151, 152, 153, 154, 155, 191, 192, 193, 194, 195, 196, 197, 198, 199, 200, 201, 202, 203, 204, 205, 206, 207, 208, 209, 210, 211, 212] (by decide +kernel) (by decide +kernel)
set_option maxRecDepth 20000 in
theorem gX4_sausage_X2_readAll : GoodIn wsX4_sausage (wsV RX4 77 RX2 yX2_readAll wsX2_readAll) := goodIn_app (goodIn_of _ (by decide +kernel)) ggX4_sausage_X2_readAll
set_option maxRecDepth 20000 in
theorem ggX4_sausage_X3_take : GoodIn wsX4_sausage wsX3_take := goodIn_r _ [159, 22, 23, 24, 25, 26, 27, 28, 29, 30, 31, 153, 154, 155, 200, 201, 202, 203, 204, 205, 206, 207, 208, 209, 210, 211, 212] (by decide +kernel) (by decide +kernel)
set_option maxRecDepth 20000 in
theorem gX4_sausage_X3_take : GoodIn wsX4_sausage (wsV RX4 81 RX3 yX3_take wsX3_take) := goodIn_app (goodIn_of _ (by decide +kernel)) ggX4_sausage_X3_take
set_option maxRecDepth 20000 in
theorem ggX4_sausage_X1_begin : GoodIn wsX4_sausage wsX1_begin := goodIn_r _ [164, 165, 166, 167, 168, 169, 170, 171, 172, 173, 174, 175, 176, 213, 214, 215, 216, 217, 218, 219, 220, 221, 222, 223, 200, 201, 202, 203, 204, 205, 206, 207, 208, 209, 210, 211, 212] (by decide +kernel) (by decide +kernel)
set_option maxRecDepth 20000 in
theorem gX4_sausage_X1_begin : GoodIn wsX4_sausage (wsV RX4 61 RX1 yX1_begin wsX1_begin) := goodIn_app (goodIn_of _ (by decide +kernel)) ggX4_sausage_X1_begin
theorem dX4_sausage_0 : decode cX4_sausage 0 = .ok (.aload_n 0, 1) := by decide +kernel
theorem dX4_sausage_1 : decode cX4_sausage 1 = .ok (.getfield 25, 3) := by decide +kernel
theorem dX4_sausage_4 : decode cX4_sausage 4 = .ok (.aload_n 0, 1) := by decide +kernel
theorem dX4_sausage_5 : decode cX4_sausage 5 = .ok (.getfield 16, 3) := by decide +kernel
theorem dX4_sausage_8 : decode cX4_sausage 8 = .ok (.invokevirtual 77, 3) := by decide +kernel
theorem dX4_sausage_11 : decode cX4_sausage 11 = .ok (.istore_n 1, 1) := by decide +kernel
theorem dX4_sausage_12 : decode cX4_sausage 12 = .ok (.iload_n 1, 1) := by decide +kernel
theorem dX4_sausage_13 : decode cX4_sausage 13 = .ok (.ifCond .ge 5, 3) := by decide +kernel
theorem dX4_sausage_16 : decode cX4_sausage 16 = .ok (.iload_n 1, 1) := by decide +kernel
theorem dX4_sausage_17 : decode cX4_sausage 17 = .ok (.ireturn, 1) := by decide +kernel
theorem dX4_sausage_18 : decode cX4_sausage 18 = .ok (.aload_n 0, 1) := by decide +kernel
theorem dX4_sausage_19 : decode cX4_sausage 19 = .ok (.getfield 10, 3) := by decide +kernel
theorem dX4_sausage_22 : decode cX4_sausage 22 = .ok (.aload_n 0, 1) := by decide +kernel
theorem dX4_sausage_23 : decode cX4_sausage 23 = .ok (.getfield 16, 3) := by decide +kernel
theorem dX4_sausage_26 : decode cX4_sausage 26 = .ok (.invokevirtual 81, 3) := by decide +kernel
theorem dX4_sausage_29 : decode cX4_sausage 29 = .ok (.aload_n 0, 1) := by decide +kernel
theorem dX4_sausage_30 : decode cX4_sausage 30 = .ok (.getfield 25, 3) := by decide +kernel
theorem dX4_sausage_33 : decode cX4_sausage 33 = .ok (.iconst 0, 1) := by decide +kernel
theorem dX4_sausage_34 : decode cX4_sausage 34 = .ok (.putfield 69, 3) := by decide +kernel
theorem dX4_sausage_37 : decode cX4_sausage 37 = .ok (.aload_n 0, 1) := by decide +kernel
theorem dX4_sausage_38 : decode cX4_sausage 38 = .ok (.getfield 32, 3) := by decide +kernel
theorem dX4_sausage_41 : decode cX4_sausage 41 = .ok (.aload_n 0, 1) := by decide +kernel
theorem dX4_sausage_42 : decode cX4_sausage 42 = .ok (.getfield 10, 3) := by decide +kernel
theorem dX4_sausage_45 : decode cX4_sausage 45 = .ok (.invokevirtual 61, 3) := by decide +kernel
theorem dX4_sausage_48 : decode cX4_sausage 48 = .ok (.iconst 0, 1) := by decide +kernel
theorem dX4_sausage_49 : decode cX4_sausage 49 = .ok (.istore_n 2, 1) := by decide +kernel
theorem dX4_sausage_50 : decode cX4_sausage 50 = .ok (.iload_n 2, 1) := by decide +kernel
theorem dX4_sausage_51 : decode cX4_sausage 51 = .ok (.iconst 2, 1) := by decide +kernel
theorem dX4_sausage_52 : decode cX4_sausage 52 = .ok (.if_icmp .ge 16, 3) := by decide +kernel
theorem dX4_sausage_55 : decode cX4_sausage 55 = .ok (.aload_n 0, 1) := by decide +kernel
theorem dX4_sausage_56 : decode cX4_sausage 56 = .ok (.getfield 47, 3) := by decide +kernel
theorem dX4_sausage_59 : decode cX4_sausage 59 = .ok (.iload_n 2, 1) := by decide +kernel
theorem dX4_sausage_60 : decode cX4_sausage 60 = .ok (.iconst 0, 1) := by decide +kernel
theorem dX4_sausage_61 : decode cX4_sausage 61 = .ok (.bastore, 1) := by decide +kernel
theorem dX4_sausage_62 : decode cX4_sausage 62 = .ok (.iinc 2 1, 3) := by decide +kernel
theorem dX4_sausage_65 : decode cX4_sausage 65 = .ok (.goto (-15), 3) := by decide +kernel
theorem dX4_sausage_68 : decode cX4_sausage 68 = .ok (.iload_n 1, 1) := by decide +kernel
theorem dX4_sausage_69 : decode cX4_sausage 69 = .ok (.ireturn, 1) := by decide +kernel
set_option maxRecDepth 20000 in
theorem ggX4_told_X3_planSeconds : GoodIn wsX4_told wsX3_planSeconds := goodIn_r _ [16, 17, 18, 33, 34, 35, 36, 37, 38, 39, 40, 41, 42, 43, 44, 45] (by decide +kernel) (by decide +kernel)
set_option maxRecDepth 20000 in
theorem gX4_told_X3_planSeconds : GoodIn wsX4_told (wsV RX4 114 RX3 yX3_planSeconds wsX3_planSeconds) := goodIn_app (goodIn_of _ (by decide +kernel)) ggX4_told_X3_planSeconds
theorem dX4_told_0 : decode cX4_told 0 = .ok (.iload_n 1, 1) := by decide +kernel
theorem dX4_told_1 : decode cX4_told 1 = .ok (.tableswitch 147 0 10 #[59, 67, 75, 83, 91, 99, 107, 115, 123, 131, 139], 59) := by decide +kernel
theorem dX4_told_60 : decode cX4_told 60 = .ok (.aload_n 0, 1) := by decide +kernel
theorem dX4_told_61 : decode cX4_told 61 = .ok (.getfield 10, 3) := by decide +kernel
theorem dX4_told_64 : decode cX4_told 64 = .ok (.getfield 84, 3) := by decide +kernel
theorem dX4_told_67 : decode cX4_told 67 = .ok (.ireturn, 1) := by decide +kernel
theorem dX4_told_68 : decode cX4_told 68 = .ok (.aload_n 0, 1) := by decide +kernel
theorem dX4_told_69 : decode cX4_told 69 = .ok (.getfield 10, 3) := by decide +kernel
theorem dX4_told_72 : decode cX4_told 72 = .ok (.getfield 87, 3) := by decide +kernel
theorem dX4_told_75 : decode cX4_told 75 = .ok (.ireturn, 1) := by decide +kernel
theorem dX4_told_76 : decode cX4_told 76 = .ok (.aload_n 0, 1) := by decide +kernel
theorem dX4_told_77 : decode cX4_told 77 = .ok (.getfield 10, 3) := by decide +kernel
theorem dX4_told_80 : decode cX4_told 80 = .ok (.getfield 90, 3) := by decide +kernel
theorem dX4_told_83 : decode cX4_told 83 = .ok (.ireturn, 1) := by decide +kernel
theorem dX4_told_84 : decode cX4_told 84 = .ok (.aload_n 0, 1) := by decide +kernel
theorem dX4_told_85 : decode cX4_told 85 = .ok (.getfield 10, 3) := by decide +kernel
theorem dX4_told_88 : decode cX4_told 88 = .ok (.getfield 93, 3) := by decide +kernel
theorem dX4_told_91 : decode cX4_told 91 = .ok (.ireturn, 1) := by decide +kernel
theorem dX4_told_92 : decode cX4_told 92 = .ok (.aload_n 0, 1) := by decide +kernel
theorem dX4_told_93 : decode cX4_told 93 = .ok (.getfield 10, 3) := by decide +kernel
theorem dX4_told_96 : decode cX4_told 96 = .ok (.getfield 96, 3) := by decide +kernel
theorem dX4_told_99 : decode cX4_told 99 = .ok (.ireturn, 1) := by decide +kernel
theorem dX4_told_100 : decode cX4_told 100 = .ok (.aload_n 0, 1) := by decide +kernel
theorem dX4_told_101 : decode cX4_told 101 = .ok (.getfield 10, 3) := by decide +kernel
theorem dX4_told_104 : decode cX4_told 104 = .ok (.getfield 99, 3) := by decide +kernel
theorem dX4_told_107 : decode cX4_told 107 = .ok (.ireturn, 1) := by decide +kernel
theorem dX4_told_108 : decode cX4_told 108 = .ok (.aload_n 0, 1) := by decide +kernel
theorem dX4_told_109 : decode cX4_told 109 = .ok (.getfield 10, 3) := by decide +kernel
theorem dX4_told_112 : decode cX4_told 112 = .ok (.getfield 102, 3) := by decide +kernel
theorem dX4_told_115 : decode cX4_told 115 = .ok (.ireturn, 1) := by decide +kernel
theorem dX4_told_116 : decode cX4_told 116 = .ok (.aload_n 0, 1) := by decide +kernel
theorem dX4_told_117 : decode cX4_told 117 = .ok (.getfield 10, 3) := by decide +kernel
theorem dX4_told_120 : decode cX4_told 120 = .ok (.getfield 105, 3) := by decide +kernel
theorem dX4_told_123 : decode cX4_told 123 = .ok (.ireturn, 1) := by decide +kernel
theorem dX4_told_124 : decode cX4_told 124 = .ok (.aload_n 0, 1) := by decide +kernel
theorem dX4_told_125 : decode cX4_told 125 = .ok (.getfield 10, 3) := by decide +kernel
theorem dX4_told_128 : decode cX4_told 128 = .ok (.getfield 108, 3) := by decide +kernel
theorem dX4_told_131 : decode cX4_told 131 = .ok (.ireturn, 1) := by decide +kernel
theorem dX4_told_132 : decode cX4_told 132 = .ok (.aload_n 0, 1) := by decide +kernel
theorem dX4_told_133 : decode cX4_told 133 = .ok (.getfield 10, 3) := by decide +kernel
theorem dX4_told_136 : decode cX4_told 136 = .ok (.getfield 111, 3) := by decide +kernel
theorem dX4_told_139 : decode cX4_told 139 = .ok (.ireturn, 1) := by decide +kernel
theorem dX4_told_140 : decode cX4_told 140 = .ok (.aload_n 0, 1) := by decide +kernel
theorem dX4_told_141 : decode cX4_told 141 = .ok (.getfield 10, 3) := by decide +kernel
theorem dX4_told_144 : decode cX4_told 144 = .ok (.invokevirtual 114, 3) := by decide +kernel
theorem dX4_told_147 : decode cX4_told 147 = .ok (.ireturn, 1) := by decide +kernel
theorem dX4_told_148 : decode cX4_told 148 = .ok (.iconst (-1), 1) := by decide +kernel
theorem dX4_told_149 : decode cX4_told 149 = .ok (.ireturn, 1) := by decide +kernel
set_option maxRecDepth 20000 in
theorem ggX4_doing_X4_outside : GoodIn wsX4_doing wsX4_outside := goodIn_r _ [9] (by decide +kernel) (by decide +kernel)
set_option maxRecDepth 20000 in
theorem gX4_doing_X4_outside : GoodIn wsX4_doing (va_wsS RX4 65 yX4_outside wsX4_outside) := goodIn_app (goodIn_of _ (by decide +kernel)) ggX4_doing_X4_outside
theorem dX4_doing_0 : decode cX4_doing 0 = .ok (.iload_n 1, 1) := by decide +kernel
theorem dX4_doing_1 : decode cX4_doing 1 = .ok (.iconst 0, 1) := by decide +kernel
theorem dX4_doing_2 : decode cX4_doing 2 = .ok (.aload_n 0, 1) := by decide +kernel
theorem dX4_doing_3 : decode cX4_doing 3 = .ok (.getfield 10, 3) := by decide +kernel
theorem dX4_doing_6 : decode cX4_doing 6 = .ok (.getfield 111, 3) := by decide +kernel
theorem dX4_doing_9 : decode cX4_doing 9 = .ok (.iconst 1, 1) := by decide +kernel
theorem dX4_doing_10 : decode cX4_doing 10 = .ok (.isub, 1) := by decide +kernel
theorem dX4_doing_11 : decode cX4_doing 11 = .ok (.invokestatic 65, 3) := by decide +kernel
theorem dX4_doing_14 : decode cX4_doing 14 = .ok (.ifCond .eq 5, 3) := by decide +kernel
theorem dX4_doing_17 : decode cX4_doing 17 = .ok (.iconst (-1), 1) := by decide +kernel
theorem dX4_doing_18 : decode cX4_doing 18 = .ok (.ireturn, 1) := by decide +kernel
theorem dX4_doing_19 : decode cX4_doing 19 = .ok (.iload_n 2, 1) := by decide +kernel
theorem dX4_doing_20 : decode cX4_doing 20 = .ok (.tableswitch 58 0 2 #[28, 38, 48], 28) := by decide +kernel
theorem dX4_doing_48 : decode cX4_doing 48 = .ok (.aload_n 0, 1) := by decide +kernel
theorem dX4_doing_49 : decode cX4_doing 49 = .ok (.getfield 10, 3) := by decide +kernel
theorem dX4_doing_52 : decode cX4_doing 52 = .ok (.getfield 118, 3) := by decide +kernel
theorem dX4_doing_55 : decode cX4_doing 55 = .ok (.iload_n 1, 1) := by decide +kernel
theorem dX4_doing_56 : decode cX4_doing 56 = .ok (.iaload, 1) := by decide +kernel
theorem dX4_doing_57 : decode cX4_doing 57 = .ok (.ireturn, 1) := by decide +kernel
theorem dX4_doing_58 : decode cX4_doing 58 = .ok (.aload_n 0, 1) := by decide +kernel
theorem dX4_doing_59 : decode cX4_doing 59 = .ok (.getfield 10, 3) := by decide +kernel
theorem dX4_doing_62 : decode cX4_doing 62 = .ok (.getfield 121, 3) := by decide +kernel
theorem dX4_doing_65 : decode cX4_doing 65 = .ok (.iload_n 1, 1) := by decide +kernel
theorem dX4_doing_66 : decode cX4_doing 66 = .ok (.iaload, 1) := by decide +kernel
theorem dX4_doing_67 : decode cX4_doing 67 = .ok (.ireturn, 1) := by decide +kernel
theorem dX4_doing_68 : decode cX4_doing 68 = .ok (.aload_n 0, 1) := by decide +kernel
theorem dX4_doing_69 : decode cX4_doing 69 = .ok (.getfield 10, 3) := by decide +kernel
theorem dX4_doing_72 : decode cX4_doing 72 = .ok (.getfield 124, 3) := by decide +kernel
theorem dX4_doing_75 : decode cX4_doing 75 = .ok (.iload_n 1, 1) := by decide +kernel
theorem dX4_doing_76 : decode cX4_doing 76 = .ok (.iaload, 1) := by decide +kernel
theorem dX4_doing_77 : decode cX4_doing 77 = .ok (.ireturn, 1) := by decide +kernel
theorem dX4_doing_78 : decode cX4_doing 78 = .ok (.iconst (-1), 1) := by decide +kernel
theorem dX4_doing_79 : decode cX4_doing 79 = .ok (.ireturn, 1) := by decide +kernel
set_option maxRecDepth 20000 in
theorem ggX4_fire_X4_outside : GoodIn wsX4_fire wsX4_outside := goodIn_r _ [4] (by decide +kernel) (by decide +kernel)
set_option maxRecDepth 20000 in
theorem gX4_fire_X4_outside : GoodIn wsX4_fire (va_wsS RX4 65 yX4_outside wsX4_outside) := goodIn_app (goodIn_of _ (by decide +kernel)) ggX4_fire_X4_outside
set_option maxRecDepth 20000 in
theorem ggX4_fire_X4_passSeconds : GoodIn wsX4_fire wsX4_passSeconds := goodIn_r _ [8, 9, 10, 11, 12, 13, 14, 15, 16, 17, 18, 19, 20, 21, 22, 23, 24, 25, 26, 27, 28, 29, 30, 31, 32, 33, 34, 35, 36, 37, 38, 39, 40, 41, 42, 43, 44, 45, 46, 47, 48, 49, 50, 51, 52, 53, 54, 55, 56, 57, 58, 59, 60, 61, 62, 63, 64, 65, 66, 67, 68, 69, 70, 71, 72, 73, 74, 75, 76, 2, 3, 4, 77, 78, 79, 80, 81, 82, 83, 84, 85, 86, 87, 88, 89, 90, 91, 92, 93, 94, 95, 96, 97, 98, 99, 100, 101, 102, 103, 104, 105, 106, 107, 108, 109, 110, 111, 112, 113, 114, 115, 116, 117] (by decide +kernel) (by decide +kernel)
set_option maxRecDepth 20000 in
theorem gX4_fire_X4_passSeconds : GoodIn wsX4_fire (wsV RX4 127 RX4 yX4_passSeconds wsX4_passSeconds) := goodIn_app (goodIn_of _ (by decide +kernel)) ggX4_fire_X4_passSeconds
theorem dX4_fire_0 : decode cX4_fire 0 = .ok (.iload_n 1, 1) := by decide +kernel
theorem dX4_fire_1 : decode cX4_fire 1 = .ok (.iconst 0, 1) := by decide +kernel
theorem dX4_fire_2 : decode cX4_fire 2 = .ok (.sipush 300, 3) := by decide +kernel
theorem dX4_fire_5 : decode cX4_fire 5 = .ok (.invokestatic 65, 3) := by decide +kernel
theorem dX4_fire_8 : decode cX4_fire 8 = .ok (.ifCond .ne 13, 3) := by decide +kernel
theorem dX4_fire_11 : decode cX4_fire 11 = .ok (.iload_n 2, 1) := by decide +kernel
theorem dX4_fire_12 : decode cX4_fire 12 = .ok (.iconst 1, 1) := by decide +kernel
theorem dX4_fire_13 : decode cX4_fire 13 = .ok (.bipush 99, 2) := by decide +kernel
theorem dX4_fire_15 : decode cX4_fire 15 = .ok (.invokestatic 65, 3) := by decide +kernel
theorem dX4_fire_18 : decode cX4_fire 18 = .ok (.ifCond .eq 5, 3) := by decide +kernel
theorem dX4_fire_21 : decode cX4_fire 21 = .ok (.iconst (-1), 1) := by decide +kernel
theorem dX4_fire_22 : decode cX4_fire 22 = .ok (.ireturn, 1) := by decide +kernel
theorem dX4_fire_23 : decode cX4_fire 23 = .ok (.aload_n 0, 1) := by decide +kernel
theorem dX4_fire_24 : decode cX4_fire 24 = .ok (.iconst 0, 1) := by decide +kernel
theorem dX4_fire_25 : decode cX4_fire 25 = .ok (.iload_n 1, 1) := by decide +kernel
theorem dX4_fire_26 : decode cX4_fire 26 = .ok (.iload_n 2, 1) := by decide +kernel
theorem dX4_fire_27 : decode cX4_fire 27 = .ok (.invokevirtual 127, 3) := by decide +kernel
theorem dX4_fire_30 : decode cX4_fire 30 = .ok (.ireturn, 1) := by decide +kernel
set_option maxRecDepth 20000 in
theorem ggX4_simmer_X4_outside : GoodIn wsX4_simmer wsX4_outside := goodIn_r _ [4] (by decide +kernel) (by decide +kernel)
set_option maxRecDepth 20000 in
theorem gX4_simmer_X4_outside : GoodIn wsX4_simmer (va_wsS RX4 65 yX4_outside wsX4_outside) := goodIn_app (goodIn_of _ (by decide +kernel)) ggX4_simmer_X4_outside
set_option maxRecDepth 20000 in
theorem ggX4_simmer_X4_passSeconds : GoodIn wsX4_simmer wsX4_passSeconds := goodIn_r _ [8, 9, 10, 11, 12, 13, 14, 15, 16, 17, 18, 19, 20, 21, 22, 23, 24, 25, 26, 27, 28, 29, 30, 31, 32, 33, 34, 35, 36, 37, 38, 39, 40, 41, 42, 43, 44, 45, 46, 47, 48, 49, 50, 51, 52, 53, 54, 55, 56, 57, 58, 59, 60, 61, 62, 63, 64, 65, 66, 67, 68, 69, 70, 71, 72, 73, 74, 75, 76, 2, 3, 4, 77, 78, 79, 80, 81, 82, 83, 84, 85, 86, 87, 88, 89, 90, 91, 92, 93, 94, 95, 96, 97, 98, 99, 100, 101, 102, 103, 104, 105, 106, 107, 108, 109, 110, 111, 112, 113, 114, 115, 116, 117] (by decide +kernel) (by decide +kernel)
set_option maxRecDepth 20000 in
theorem gX4_simmer_X4_passSeconds : GoodIn wsX4_simmer (wsV RX4 127 RX4 yX4_passSeconds wsX4_passSeconds) := goodIn_app (goodIn_of _ (by decide +kernel)) ggX4_simmer_X4_passSeconds
theorem dX4_simmer_0 : decode cX4_simmer 0 = .ok (.iload_n 1, 1) := by decide +kernel
theorem dX4_simmer_1 : decode cX4_simmer 1 = .ok (.bipush 20, 2) := by decide +kernel
theorem dX4_simmer_3 : decode cX4_simmer 3 = .ok (.bipush 100, 2) := by decide +kernel
theorem dX4_simmer_5 : decode cX4_simmer 5 = .ok (.invokestatic 65, 3) := by decide +kernel
theorem dX4_simmer_8 : decode cX4_simmer 8 = .ok (.ifCond .ne 13, 3) := by decide +kernel
theorem dX4_simmer_11 : decode cX4_simmer 11 = .ok (.iload_n 2, 1) := by decide +kernel
theorem dX4_simmer_12 : decode cX4_simmer 12 = .ok (.iconst 1, 1) := by decide +kernel
theorem dX4_simmer_13 : decode cX4_simmer 13 = .ok (.bipush 99, 2) := by decide +kernel
theorem dX4_simmer_15 : decode cX4_simmer 15 = .ok (.invokestatic 65, 3) := by decide +kernel
theorem dX4_simmer_18 : decode cX4_simmer 18 = .ok (.ifCond .eq 5, 3) := by decide +kernel
theorem dX4_simmer_21 : decode cX4_simmer 21 = .ok (.iconst (-1), 1) := by decide +kernel
theorem dX4_simmer_22 : decode cX4_simmer 22 = .ok (.ireturn, 1) := by decide +kernel
theorem dX4_simmer_23 : decode cX4_simmer 23 = .ok (.aload_n 0, 1) := by decide +kernel
theorem dX4_simmer_24 : decode cX4_simmer 24 = .ok (.iconst 3, 1) := by decide +kernel
theorem dX4_simmer_25 : decode cX4_simmer 25 = .ok (.iload_n 1, 1) := by decide +kernel
theorem dX4_simmer_26 : decode cX4_simmer 26 = .ok (.iload_n 2, 1) := by decide +kernel
theorem dX4_simmer_27 : decode cX4_simmer 27 = .ok (.invokevirtual 127, 3) := by decide +kernel
theorem dX4_simmer_30 : decode cX4_simmer 30 = .ok (.ireturn, 1) := by decide +kernel
set_option maxRecDepth 20000 in
theorem ggX4_turn_X4_outside : GoodIn wsX4_turn wsX4_outside := goodIn_r _ [6] (by decide +kernel) (by decide +kernel)
set_option maxRecDepth 20000 in
theorem gX4_turn_X4_outside : GoodIn wsX4_turn (va_wsS RX4 65 yX4_outside wsX4_outside) := goodIn_app (goodIn_of _ (by decide +kernel)) ggX4_turn_X4_outside
set_option maxRecDepth 20000 in
theorem ggX4_turn_X1_turnBy : GoodIn wsX4_turn wsX1_turnBy := goodIn_r _ [11, 12, 27, 28, 29, 30, 31, 32, 33, 34, 35, 36, 37] (by decide +kernel) (by decide +kernel)
set_option maxRecDepth 20000 in
theorem gX4_turn_X1_turnBy : GoodIn wsX4_turn (wsV RX4 131 RX1 yX1_turnBy wsX1_turnBy) := goodIn_app (goodIn_of _ (by decide +kernel)) ggX4_turn_X1_turnBy
theorem dX4_turn_0 : decode cX4_turn 0 = .ok (.iload_n 1, 1) := by decide +kernel
theorem dX4_turn_1 : decode cX4_turn 1 = .ok (.iconst 1, 1) := by decide +kernel
theorem dX4_turn_2 : decode cX4_turn 2 = .ok (.iconst 3, 1) := by decide +kernel
theorem dX4_turn_3 : decode cX4_turn 3 = .ok (.invokestatic 65, 3) := by decide +kernel
theorem dX4_turn_6 : decode cX4_turn 6 = .ok (.ifCond .eq 5, 3) := by decide +kernel
theorem dX4_turn_9 : decode cX4_turn 9 = .ok (.iconst (-1), 1) := by decide +kernel
theorem dX4_turn_10 : decode cX4_turn 10 = .ok (.ireturn, 1) := by decide +kernel
theorem dX4_turn_11 : decode cX4_turn 11 = .ok (.aload_n 0, 1) := by decide +kernel
theorem dX4_turn_12 : decode cX4_turn 12 = .ok (.getfield 32, 3) := by decide +kernel
theorem dX4_turn_15 : decode cX4_turn 15 = .ok (.iload_n 1, 1) := by decide +kernel
theorem dX4_turn_16 : decode cX4_turn 16 = .ok (.invokevirtual 131, 3) := by decide +kernel
theorem dX4_turn_19 : decode cX4_turn 19 = .ok (.aload_n 0, 1) := by decide +kernel
theorem dX4_turn_20 : decode cX4_turn 20 = .ok (.getfield 32, 3) := by decide +kernel
theorem dX4_turn_23 : decode cX4_turn 23 = .ok (.getfield 134, 3) := by decide +kernel
theorem dX4_turn_26 : decode cX4_turn 26 = .ok (.ireturn, 1) := by decide +kernel
set_option maxRecDepth 20000 in
theorem ggX4_prick_X4_outside : GoodIn wsX4_prick wsX4_outside := goodIn_r _ [6] (by decide +kernel) (by decide +kernel)
set_option maxRecDepth 20000 in
theorem gX4_prick_X4_outside : GoodIn wsX4_prick (va_wsS RX4 65 yX4_outside wsX4_outside) := goodIn_app (goodIn_of _ (by decide +kernel)) ggX4_prick_X4_outside
set_option maxRecDepth 20000 in
theorem ggX4_prick_X1_prickBy : GoodIn wsX4_prick wsX1_prickBy := goodIn_r _ [11, 12, 13, 14, 15, 16, 31, 32, 33, 34, 35, 36, 37, 38, 39, 40, 41] (by decide +kernel) (by decide +kernel)
set_option maxRecDepth 20000 in
theorem gX4_prick_X1_prickBy : GoodIn wsX4_prick (wsV RX4 137 RX1 yX1_prickBy wsX1_prickBy) := goodIn_app (goodIn_of _ (by decide +kernel)) ggX4_prick_X1_prickBy
theorem dX4_prick_0 : decode cX4_prick 0 = .ok (.iload_n 1, 1) := by decide +kernel
theorem dX4_prick_1 : decode cX4_prick 1 = .ok (.iconst 1, 1) := by decide +kernel
theorem dX4_prick_2 : decode cX4_prick 2 = .ok (.bipush 9, 2) := by decide +kernel
theorem dX4_prick_4 : decode cX4_prick 4 = .ok (.invokestatic 65, 3) := by decide +kernel
theorem dX4_prick_7 : decode cX4_prick 7 = .ok (.ifCond .eq 5, 3) := by decide +kernel
theorem dX4_prick_10 : decode cX4_prick 10 = .ok (.iconst (-1), 1) := by decide +kernel
theorem dX4_prick_11 : decode cX4_prick 11 = .ok (.ireturn, 1) := by decide +kernel
theorem dX4_prick_12 : decode cX4_prick 12 = .ok (.aload_n 0, 1) := by decide +kernel
theorem dX4_prick_13 : decode cX4_prick 13 = .ok (.getfield 32, 3) := by decide +kernel
theorem dX4_prick_16 : decode cX4_prick 16 = .ok (.iload_n 1, 1) := by decide +kernel
theorem dX4_prick_17 : decode cX4_prick 17 = .ok (.invokevirtual 137, 3) := by decide +kernel
theorem dX4_prick_20 : decode cX4_prick 20 = .ok (.aload_n 0, 1) := by decide +kernel
theorem dX4_prick_21 : decode cX4_prick 21 = .ok (.getfield 32, 3) := by decide +kernel
theorem dX4_prick_24 : decode cX4_prick 24 = .ok (.getfield 140, 3) := by decide +kernel
theorem dX4_prick_27 : decode cX4_prick 27 = .ok (.ireturn, 1) := by decide +kernel
set_option maxRecDepth 20000 in
theorem ggX4_spots_X4_outside : GoodIn wsX4_spots wsX4_outside := goodIn_r _ [6] (by decide +kernel) (by decide +kernel)
set_option maxRecDepth 20000 in
theorem gX4_spots_X4_outside : GoodIn wsX4_spots (va_wsS RX4 65 yX4_outside wsX4_outside) := goodIn_app (goodIn_of _ (by decide +kernel)) ggX4_spots_X4_outside
theorem dX4_spots_0 : decode cX4_spots 0 = .ok (.iload_n 1, 1) := by decide +kernel
theorem dX4_spots_1 : decode cX4_spots 1 = .ok (.iconst 0, 1) := by decide +kernel
theorem dX4_spots_2 : decode cX4_spots 2 = .ok (.bipush 15, 2) := by decide +kernel
theorem dX4_spots_4 : decode cX4_spots 4 = .ok (.invokestatic 65, 3) := by decide +kernel
theorem dX4_spots_7 : decode cX4_spots 7 = .ok (.ifCond .eq 5, 3) := by decide +kernel
theorem dX4_spots_10 : decode cX4_spots 10 = .ok (.iconst (-1), 1) := by decide +kernel
theorem dX4_spots_11 : decode cX4_spots 11 = .ok (.ireturn, 1) := by decide +kernel
theorem dX4_spots_12 : decode cX4_spots 12 = .ok (.aload_n 0, 1) := by decide +kernel
theorem dX4_spots_13 : decode cX4_spots 13 = .ok (.getfield 32, 3) := by decide +kernel
theorem dX4_spots_16 : decode cX4_spots 16 = .ok (.getfield 143, 3) := by decide +kernel
theorem dX4_spots_19 : decode cX4_spots 19 = .ok (.istore_n 2, 1) := by decide +kernel
theorem dX4_spots_20 : decode cX4_spots 20 = .ok (.aload_n 0, 1) := by decide +kernel
theorem dX4_spots_21 : decode cX4_spots 21 = .ok (.getfield 32, 3) := by decide +kernel
theorem dX4_spots_24 : decode cX4_spots 24 = .ok (.iload_n 1, 1) := by decide +kernel
theorem dX4_spots_25 : decode cX4_spots 25 = .ok (.putfield 143, 3) := by decide +kernel
theorem dX4_spots_28 : decode cX4_spots 28 = .ok (.iload_n 2, 1) := by decide +kernel
theorem dX4_spots_29 : decode cX4_spots 29 = .ok (.ireturn, 1) := by decide +kernel
set_option maxRecDepth 20000 in
theorem ggX4_face_X4_outside : GoodIn wsX4_face wsX4_outside := goodIn_r _ [8] (by decide +kernel) (by decide +kernel)
set_option maxRecDepth 20000 in
theorem gX4_face_X4_outside : GoodIn wsX4_face (va_wsS RX4 65 yX4_outside wsX4_outside) := goodIn_app (goodIn_of _ (by decide +kernel)) ggX4_face_X4_outside
set_option maxRecDepth 20000 in
theorem ggX4_face_X1_strengthAt : GoodIn wsX4_face wsX1_strengthAt := goodIn_r _ [13, 14, 15, 16, 17, 18, 19, 20, 21, 6, 7, 8, 51, 52, 53, 54, 55, 56, 57, 58, 59, 60, 61, 62, 63, 64, 65, 66, 67, 68, 69, 70, 71, 72, 73, 74] (by decide +kernel) (by decide +kernel)
set_option maxRecDepth 20000 in
theorem gX4_face_X1_strengthAt : GoodIn wsX4_face (wsV RX4 152 RX1 yX1_strengthAt wsX1_strengthAt) := goodIn_app (goodIn_of _ (by decide +kernel)) ggX4_face_X1_strengthAt
set_option maxRecDepth 20000 in
theorem ggX4_face_X1_pressIn : GoodIn wsX4_face wsX1_pressIn := goodIn_r _ [25, 26, 27, 15, 16, 17, 18, 28, 29, 30, 51, 52, 53, 54, 55, 56, 57, 58, 59, 60, 61, 62, 63, 64, 65, 66, 67, 68, 69, 70, 71, 72, 73, 74] (by decide +kernel) (by decide +kernel)
set_option maxRecDepth 20000 in
theorem gX4_face_X1_pressIn : GoodIn wsX4_face (wsV RX4 156 RX1 yX1_pressIn wsX1_pressIn) := goodIn_app (goodIn_of _ (by decide +kernel)) ggX4_face_X1_pressIn
set_option maxRecDepth 20000 in
theorem ggX4_face_X1_pullRound : GoodIn wsX4_face wsX1_pullRound := goodIn_r _ [33, 34, 35, 36, 62, 63, 64, 65, 66, 67, 68, 69, 70, 71, 72, 73, 74] (by decide +kernel) (by decide +kernel)
set_option maxRecDepth 20000 in
theorem gX4_face_X1_pullRound : GoodIn wsX4_face (va_wsS RX4 159 yX1_pullRound wsX1_pullRound) := goodIn_app (goodIn_of _ (by decide +kernel)) ggX4_face_X1_pullRound
theorem dX4_face_0 : decode cX4_face 0 = .ok (.iload_n 1, 1) := by decide +kernel
theorem dX4_face_1 : decode cX4_face 1 = .ok (.iconst 0, 1) := by decide +kernel
theorem dX4_face_2 : decode cX4_face 2 = .ok (.iconst 3, 1) := by decide +kernel
theorem dX4_face_3 : decode cX4_face 3 = .ok (.invokestatic 65, 3) := by decide +kernel
theorem dX4_face_6 : decode cX4_face 6 = .ok (.ifCond .eq 5, 3) := by decide +kernel
theorem dX4_face_9 : decode cX4_face 9 = .ok (.iconst (-1), 1) := by decide +kernel
theorem dX4_face_10 : decode cX4_face 10 = .ok (.ireturn, 1) := by decide +kernel
theorem dX4_face_11 : decode cX4_face 11 = .ok (.iload_n 2, 1) := by decide +kernel
theorem dX4_face_12 : decode cX4_face 12 = .ok (.tableswitch 85 0 3 #[32, 42, 52, 65], 32) := by decide +kernel
theorem dX4_face_44 : decode cX4_face 44 = .ok (.aload_n 0, 1) := by decide +kernel
theorem dX4_face_45 : decode cX4_face 45 = .ok (.getfield 32, 3) := by decide +kernel
theorem dX4_face_48 : decode cX4_face 48 = .ok (.getfield 146, 3) := by decide +kernel
theorem dX4_face_51 : decode cX4_face 51 = .ok (.iload_n 1, 1) := by decide +kernel
theorem dX4_face_52 : decode cX4_face 52 = .ok (.iaload, 1) := by decide +kernel
theorem dX4_face_53 : decode cX4_face 53 = .ok (.ireturn, 1) := by decide +kernel
theorem dX4_face_54 : decode cX4_face 54 = .ok (.aload_n 0, 1) := by decide +kernel
theorem dX4_face_55 : decode cX4_face 55 = .ok (.getfield 32, 3) := by decide +kernel
theorem dX4_face_58 : decode cX4_face 58 = .ok (.getfield 149, 3) := by decide +kernel
theorem dX4_face_61 : decode cX4_face 61 = .ok (.iload_n 1, 1) := by decide +kernel
theorem dX4_face_62 : decode cX4_face 62 = .ok (.iaload, 1) := by decide +kernel
theorem dX4_face_63 : decode cX4_face 63 = .ok (.ireturn, 1) := by decide +kernel
theorem dX4_face_64 : decode cX4_face 64 = .ok (.aload_n 0, 1) := by decide +kernel
theorem dX4_face_65 : decode cX4_face 65 = .ok (.getfield 32, 3) := by decide +kernel
theorem dX4_face_68 : decode cX4_face 68 = .ok (.iload_n 1, 1) := by decide +kernel
theorem dX4_face_69 : decode cX4_face 69 = .ok (.aload_n 0, 1) := by decide +kernel
theorem dX4_face_70 : decode cX4_face 70 = .ok (.getfield 10, 3) := by decide +kernel
theorem dX4_face_73 : decode cX4_face 73 = .ok (.invokevirtual 152, 3) := by decide +kernel
theorem dX4_face_76 : decode cX4_face 76 = .ok (.ireturn, 1) := by decide +kernel
theorem dX4_face_77 : decode cX4_face 77 = .ok (.iload_n 1, 1) := by decide +kernel
theorem dX4_face_78 : decode cX4_face 78 = .ok (.aload_n 0, 1) := by decide +kernel
theorem dX4_face_79 : decode cX4_face 79 = .ok (.getfield 10, 3) := by decide +kernel
theorem dX4_face_82 : decode cX4_face 82 = .ok (.aload_n 0, 1) := by decide +kernel
theorem dX4_face_83 : decode cX4_face 83 = .ok (.getfield 32, 3) := by decide +kernel
theorem dX4_face_86 : decode cX4_face 86 = .ok (.aload_n 0, 1) := by decide +kernel
theorem dX4_face_87 : decode cX4_face 87 = .ok (.getfield 10, 3) := by decide +kernel
theorem dX4_face_90 : decode cX4_face 90 = .ok (.invokevirtual 156, 3) := by decide +kernel
theorem dX4_face_93 : decode cX4_face 93 = .ok (.invokestatic 159, 3) := by decide +kernel
theorem dX4_face_96 : decode cX4_face 96 = .ok (.ireturn, 1) := by decide +kernel
theorem dX4_face_97 : decode cX4_face 97 = .ok (.iconst (-1), 1) := by decide +kernel
theorem dX4_face_98 : decode cX4_face 98 = .ok (.ireturn, 1) := by decide +kernel
set_option maxRecDepth 20000 in
theorem ggX4_now_X1_pressIn : GoodIn wsX4_now wsX1_pressIn := goodIn_r _ [15, 16, 17, 18, 19, 20, 21, 22, 23, 24, 43, 44, 45, 46, 47, 48, 49, 50, 51, 52, 53, 54, 55, 56, 57, 58, 59, 60, 61, 62, 63, 64, 65, 66] (by decide +kernel) (by decide +kernel)
set_option maxRecDepth 20000 in
theorem gX4_now_X1_pressIn : GoodIn wsX4_now (wsV RX4 156 RX1 yX1_pressIn wsX1_pressIn) := goodIn_app (goodIn_of _ (by decide +kernel)) ggX4_now_X1_pressIn
set_option maxRecDepth 20000 in
theorem ggX4_now_X1_pullAlong : GoodIn wsX4_now wsX1_pullAlong := goodIn_r _ [27, 28, 54, 55, 56, 57, 58, 59, 60, 61, 62, 63, 64, 65, 66] (by decide +kernel) (by decide +kernel)
set_option maxRecDepth 20000 in
theorem gX4_now_X1_pullAlong : GoodIn wsX4_now (va_wsS RX4 175 yX1_pullAlong wsX1_pullAlong) := goodIn_app (goodIn_of _ (by decide +kernel)) ggX4_now_X1_pullAlong
theorem dX4_now_0 : decode cX4_now 0 = .ok (.iload_n 1, 1) := by decide +kernel
theorem dX4_now_1 : decode cX4_now 1 = .ok (.tableswitch 150 0 9 #[55, 63, 71, 79, 87, 95, 103, 111, 123, 142], 55) := by decide +kernel
theorem dX4_now_56 : decode cX4_now 56 = .ok (.aload_n 0, 1) := by decide +kernel
theorem dX4_now_57 : decode cX4_now 57 = .ok (.getfield 32, 3) := by decide +kernel
theorem dX4_now_60 : decode cX4_now 60 = .ok (.getfield 134, 3) := by decide +kernel
theorem dX4_now_63 : decode cX4_now 63 = .ok (.ireturn, 1) := by decide +kernel
theorem dX4_now_64 : decode cX4_now 64 = .ok (.aload_n 0, 1) := by decide +kernel
theorem dX4_now_65 : decode cX4_now 65 = .ok (.getfield 32, 3) := by decide +kernel
theorem dX4_now_68 : decode cX4_now 68 = .ok (.getfield 163, 3) := by decide +kernel
theorem dX4_now_71 : decode cX4_now 71 = .ok (.ireturn, 1) := by decide +kernel
theorem dX4_now_72 : decode cX4_now 72 = .ok (.aload_n 0, 1) := by decide +kernel
theorem dX4_now_73 : decode cX4_now 73 = .ok (.getfield 32, 3) := by decide +kernel
theorem dX4_now_76 : decode cX4_now 76 = .ok (.getfield 166, 3) := by decide +kernel
theorem dX4_now_79 : decode cX4_now 79 = .ok (.ireturn, 1) := by decide +kernel
theorem dX4_now_80 : decode cX4_now 80 = .ok (.aload_n 0, 1) := by decide +kernel
theorem dX4_now_81 : decode cX4_now 81 = .ok (.getfield 32, 3) := by decide +kernel
theorem dX4_now_84 : decode cX4_now 84 = .ok (.getfield 140, 3) := by decide +kernel
theorem dX4_now_87 : decode cX4_now 87 = .ok (.ireturn, 1) := by decide +kernel
theorem dX4_now_88 : decode cX4_now 88 = .ok (.aload_n 0, 1) := by decide +kernel
theorem dX4_now_89 : decode cX4_now 89 = .ok (.getfield 32, 3) := by decide +kernel
theorem dX4_now_92 : decode cX4_now 92 = .ok (.getfield 167, 3) := by decide +kernel
theorem dX4_now_95 : decode cX4_now 95 = .ok (.ireturn, 1) := by decide +kernel
theorem dX4_now_96 : decode cX4_now 96 = .ok (.aload_n 0, 1) := by decide +kernel
theorem dX4_now_97 : decode cX4_now 97 = .ok (.getfield 32, 3) := by decide +kernel
theorem dX4_now_100 : decode cX4_now 100 = .ok (.getfield 169, 3) := by decide +kernel
theorem dX4_now_103 : decode cX4_now 103 = .ok (.ireturn, 1) := by decide +kernel
theorem dX4_now_104 : decode cX4_now 104 = .ok (.aload_n 0, 1) := by decide +kernel
theorem dX4_now_105 : decode cX4_now 105 = .ok (.getfield 32, 3) := by decide +kernel
theorem dX4_now_108 : decode cX4_now 108 = .ok (.getfield 172, 3) := by decide +kernel
theorem dX4_now_111 : decode cX4_now 111 = .ok (.ireturn, 1) := by decide +kernel
theorem dX4_now_112 : decode cX4_now 112 = .ok (.aload_n 0, 1) := by decide +kernel
theorem dX4_now_113 : decode cX4_now 113 = .ok (.getfield 32, 3) := by decide +kernel
theorem dX4_now_116 : decode cX4_now 116 = .ok (.aload_n 0, 1) := by decide +kernel
theorem dX4_now_117 : decode cX4_now 117 = .ok (.getfield 10, 3) := by decide +kernel
theorem dX4_now_120 : decode cX4_now 120 = .ok (.invokevirtual 156, 3) := by decide +kernel
theorem dX4_now_123 : decode cX4_now 123 = .ok (.ireturn, 1) := by decide +kernel
theorem dX4_now_124 : decode cX4_now 124 = .ok (.aload_n 0, 1) := by decide +kernel
theorem dX4_now_125 : decode cX4_now 125 = .ok (.getfield 10, 3) := by decide +kernel
theorem dX4_now_128 : decode cX4_now 128 = .ok (.aload_n 0, 1) := by decide +kernel
theorem dX4_now_129 : decode cX4_now 129 = .ok (.getfield 32, 3) := by decide +kernel
theorem dX4_now_132 : decode cX4_now 132 = .ok (.aload_n 0, 1) := by decide +kernel
theorem dX4_now_133 : decode cX4_now 133 = .ok (.getfield 10, 3) := by decide +kernel
theorem dX4_now_136 : decode cX4_now 136 = .ok (.invokevirtual 156, 3) := by decide +kernel
theorem dX4_now_139 : decode cX4_now 139 = .ok (.invokestatic 175, 3) := by decide +kernel
theorem dX4_now_142 : decode cX4_now 142 = .ok (.ireturn, 1) := by decide +kernel
theorem dX4_now_143 : decode cX4_now 143 = .ok (.aload_n 0, 1) := by decide +kernel
theorem dX4_now_144 : decode cX4_now 144 = .ok (.getfield 32, 3) := by decide +kernel
theorem dX4_now_147 : decode cX4_now 147 = .ok (.getfield 179, 3) := by decide +kernel
theorem dX4_now_150 : decode cX4_now 150 = .ok (.ireturn, 1) := by decide +kernel
theorem dX4_now_151 : decode cX4_now 151 = .ok (.iconst (-1), 1) := by decide +kernel
theorem dX4_now_152 : decode cX4_now 152 = .ok (.ireturn, 1) := by decide +kernel
set_option maxRecDepth 20000 in
theorem ggX4_anew_X1_begin : GoodIn wsX4_anew wsX1_begin := goodIn_r _ [8, 9, 10, 11, 12, 13, 14, 15, 16, 17, 18, 19, 20, 35, 36, 37, 38, 39, 40, 41, 42, 43, 44, 45, 46, 47, 48, 49, 50, 51, 52, 53, 54, 55, 56, 57, 58] (by decide +kernel) (by decide +kernel)
set_option maxRecDepth 20000 in
theorem gX4_anew_X1_begin : GoodIn wsX4_anew (wsV RX4 61 RX1 yX1_begin wsX1_begin) := goodIn_app (goodIn_of _ (by decide +kernel)) ggX4_anew_X1_begin
theorem dX4_anew_0 : decode cX4_anew 0 = .ok (.aload_n 0, 1) := by decide +kernel
theorem dX4_anew_1 : decode cX4_anew 1 = .ok (.getfield 32, 3) := by decide +kernel
theorem dX4_anew_4 : decode cX4_anew 4 = .ok (.getfield 167, 3) := by decide +kernel
theorem dX4_anew_7 : decode cX4_anew 7 = .ok (.istore_n 1, 1) := by decide +kernel
theorem dX4_anew_8 : decode cX4_anew 8 = .ok (.aload_n 0, 1) := by decide +kernel
theorem dX4_anew_9 : decode cX4_anew 9 = .ok (.getfield 32, 3) := by decide +kernel
theorem dX4_anew_12 : decode cX4_anew 12 = .ok (.aload_n 0, 1) := by decide +kernel
theorem dX4_anew_13 : decode cX4_anew 13 = .ok (.getfield 10, 3) := by decide +kernel
theorem dX4_anew_16 : decode cX4_anew 16 = .ok (.invokevirtual 61, 3) := by decide +kernel
theorem dX4_anew_19 : decode cX4_anew 19 = .ok (.iload_n 1, 1) := by decide +kernel
theorem dX4_anew_20 : decode cX4_anew 20 = .ok (.ireturn, 1) := by decide +kernel
set_option maxRecDepth 20000 in
theorem ggX4_run_X4_outside : GoodIn wsX4_run wsX4_outside := goodIn_r _ [15] (by decide +kernel) (by decide +kernel)
set_option maxRecDepth 20000 in
theorem gX4_run_X4_outside : GoodIn wsX4_run (va_wsS RX4 65 yX4_outside wsX4_outside) := goodIn_app (goodIn_of _ (by decide +kernel)) ggX4_run_X4_outside
set_option maxRecDepth 20000 in
theorem ggX4_run_X0_begin : GoodIn wsX4_run wsX0_begin := goodIn_r _ [20, 21, 22, 23, 24, 25, 26, 27, 28, 29, 30, 31, 32, 33, 34, 35, 36, 37, 38, 39, 40, 41, 42, 43, 156, 157, 158, 159, 160, 161, 162, 163, 164, 165, 166, 167, 168, 169, 170, 171, 172, 173, 174, 175, 176, 177, 178, 179, 180, 181, 182, 183, 184] (by decide +kernel) (by decide +kernel)
set_option maxRecDepth 20000 in
theorem gX4_run_X0_begin : GoodIn wsX4_run (wsV RX4 182 RX0 yX0_begin wsX0_begin) := goodIn_app (goodIn_of _ (by decide +kernel)) ggX4_run_X0_begin
set_option maxRecDepth 20000 in
theorem ggX4_run_X3_planSeconds : GoodIn wsX4_run wsX3_planSeconds := goodIn_r _ [48, 49, 50, 172, 173, 174, 175, 176, 177, 178, 179, 180, 181, 182, 183, 184] (by decide +kernel) (by decide +kernel)
set_option maxRecDepth 20000 in
theorem gX4_run_X3_planSeconds : GoodIn wsX4_run (wsV RX4 114 RX3 yX3_planSeconds wsX3_planSeconds) := goodIn_app (goodIn_of _ (by decide +kernel)) ggX4_run_X3_planSeconds
set_option maxRecDepth 20000 in
theorem ggX4_run_X0_follow : GoodIn wsX4_run wsX0_follow := goodIn_r _ [54, 55, 56, 57, 21, 58, 59, 60, 61, 62, 63, 30, 64, 32, 65, 66, 67, 68, 38, 69, 70, 71, 72, 73, 74, 75, 19, 76, 25, 24, 26, 77, 23, 78, 79, 80, 81, 40, 41, 82, 83, 84, 85, 33, 86, 87, 88, 89, 90, 91, 92, 93, 35, 94, 95, 96, 97, 98, 99, 100, 101, 37, 43, 102, 103, 104, 105, 34, 106, 107, 108, 109, 110, 111, 112, 113, 114, 42, 115, 116, 117, 118, 119, 120, 121, 122, 123, 124, 39, 125, 126, 13, 14, 15, 127, 128, 129, 172, 173, 174, 175, 176, 177, 178, 179, 180, 181, 182, 183, 184, 156, 157, 158, 159, 160, 161, 162, 163, 164, 165, 166, 167, 168, 169, 170, 171] (by decide +kernel) (by decide +kernel)
set_option maxRecDepth 20000 in
theorem gX4_run_X0_follow : GoodIn wsX4_run (wsV RX4 185 RX0 yX0_follow wsX0_follow) := goodIn_app (goodIn_of _ (by decide +kernel)) ggX4_run_X0_follow
set_option maxRecDepth 20000 in
theorem ggX4_run_X1_leastBrown : GoodIn wsX4_run wsX1_leastBrown := goodIn_r _ [133, 34, 69, 70, 71, 72, 161, 162, 163, 164, 165, 166, 167, 168, 169, 170, 171] (by decide +kernel) (by decide +kernel)
set_option maxRecDepth 20000 in
theorem gX4_run_X1_leastBrown : GoodIn wsX4_run (wsV RX4 195 RX1 yX1_leastBrown wsX1_leastBrown) := goodIn_app (goodIn_of _ (by decide +kernel)) ggX4_run_X1_leastBrown
set_option maxRecDepth 20000 in
theorem ggX4_run_X1_greatestBrown : GoodIn wsX4_run wsX1_greatestBrown := goodIn_r _ [137, 34, 95, 96, 71, 97, 161, 162, 163, 164, 165, 166, 167, 168, 169, 170, 171] (by decide +kernel) (by decide +kernel)
set_option maxRecDepth 20000 in
theorem gX4_run_X1_greatestBrown : GoodIn wsX4_run (wsV RX4 198 RX1 yX1_greatestBrown wsX1_greatestBrown) := goodIn_app (goodIn_of _ (by decide +kernel)) ggX4_run_X1_greatestBrown
set_option maxRecDepth 20000 in
theorem ggX4_run_X0_hissAhead : GoodIn wsX4_run wsX0_hissAhead := goodIn_r _ [141, 23, 26, 156, 157, 158, 159, 160] (by decide +kernel) (by decide +kernel)
set_option maxRecDepth 20000 in
theorem gX4_run_X0_hissAhead : GoodIn wsX4_run (wsV RX4 210 RX0 yX0_hissAhead wsX0_hissAhead) := goodIn_app (goodIn_of _ (by decide +kernel)) ggX4_run_X0_hissAhead
theorem dX4_run_0 : decode cX4_run 0 = .ok (.iload_n 1, 1) := by decide +kernel
theorem dX4_run_1 : decode cX4_run 1 = .ok (.iconst 0, 1) := by decide +kernel
theorem dX4_run_2 : decode cX4_run 2 = .ok (.bipush 15, 2) := by decide +kernel
theorem dX4_run_4 : decode cX4_run 4 = .ok (.invokestatic 65, 3) := by decide +kernel
theorem dX4_run_7 : decode cX4_run 7 = .ok (.ifCond .ne 13, 3) := by decide +kernel
theorem dX4_run_10 : decode cX4_run 10 = .ok (.iload_n 2, 1) := by decide +kernel
theorem dX4_run_11 : decode cX4_run 11 = .ok (.iconst 0, 1) := by decide +kernel
theorem dX4_run_12 : decode cX4_run 12 = .ok (.bipush 10, 2) := by decide +kernel
theorem dX4_run_14 : decode cX4_run 14 = .ok (.invokestatic 65, 3) := by decide +kernel
theorem dX4_run_17 : decode cX4_run 17 = .ok (.ifCond .eq 5, 3) := by decide +kernel
theorem dX4_run_20 : decode cX4_run 20 = .ok (.iconst (-1), 1) := by decide +kernel
theorem dX4_run_21 : decode cX4_run 21 = .ok (.ireturn, 1) := by decide +kernel
theorem dX4_run_22 : decode cX4_run 22 = .ok (.aload_n 0, 1) := by decide +kernel
theorem dX4_run_23 : decode cX4_run 23 = .ok (.getfield 39, 3) := by decide +kernel
theorem dX4_run_26 : decode cX4_run 26 = .ok (.aload_n 0, 1) := by decide +kernel
theorem dX4_run_27 : decode cX4_run 27 = .ok (.getfield 10, 3) := by decide +kernel
theorem dX4_run_30 : decode cX4_run 30 = .ok (.iload_n 1, 1) := by decide +kernel
theorem dX4_run_31 : decode cX4_run 31 = .ok (.invokevirtual 182, 3) := by decide +kernel
theorem dX4_run_34 : decode cX4_run 34 = .ok (.aload_n 0, 1) := by decide +kernel
theorem dX4_run_35 : decode cX4_run 35 = .ok (.getfield 39, 3) := by decide +kernel
theorem dX4_run_38 : decode cX4_run 38 = .ok (.aload_n 0, 1) := by decide +kernel
theorem dX4_run_39 : decode cX4_run 39 = .ok (.getfield 10, 3) := by decide +kernel
theorem dX4_run_42 : decode cX4_run 42 = .ok (.aload_n 0, 1) := by decide +kernel
theorem dX4_run_43 : decode cX4_run 43 = .ok (.getfield 10, 3) := by decide +kernel
theorem dX4_run_46 : decode cX4_run 46 = .ok (.invokevirtual 114, 3) := by decide +kernel
theorem dX4_run_49 : decode cX4_run 49 = .ok (.iconst 0, 1) := by decide +kernel
theorem dX4_run_50 : decode cX4_run 50 = .ok (.invokevirtual 185, 3) := by decide +kernel
theorem dX4_run_53 : decode cX4_run 53 = .ok (.iload_n 2, 1) := by decide +kernel
theorem dX4_run_54 : decode cX4_run 54 = .ok (.tableswitch 152 0 9 #[54, 62, 73, 84, 95, 106, 117, 128, 136, 144], 54) := by decide +kernel
theorem dX4_run_108 : decode cX4_run 108 = .ok (.aload_n 0, 1) := by decide +kernel
theorem dX4_run_109 : decode cX4_run 109 = .ok (.getfield 39, 3) := by decide +kernel
theorem dX4_run_112 : decode cX4_run 112 = .ok (.getfield 189, 3) := by decide +kernel
theorem dX4_run_115 : decode cX4_run 115 = .ok (.ireturn, 1) := by decide +kernel
theorem dX4_run_116 : decode cX4_run 116 = .ok (.aload_n 0, 1) := by decide +kernel
theorem dX4_run_117 : decode cX4_run 117 = .ok (.getfield 39, 3) := by decide +kernel
theorem dX4_run_120 : decode cX4_run 120 = .ok (.getfield 192, 3) := by decide +kernel
theorem dX4_run_123 : decode cX4_run 123 = .ok (.getfield 169, 3) := by decide +kernel
theorem dX4_run_126 : decode cX4_run 126 = .ok (.ireturn, 1) := by decide +kernel
theorem dX4_run_127 : decode cX4_run 127 = .ok (.aload_n 0, 1) := by decide +kernel
theorem dX4_run_128 : decode cX4_run 128 = .ok (.getfield 39, 3) := by decide +kernel
theorem dX4_run_131 : decode cX4_run 131 = .ok (.getfield 192, 3) := by decide +kernel
theorem dX4_run_134 : decode cX4_run 134 = .ok (.getfield 172, 3) := by decide +kernel
theorem dX4_run_137 : decode cX4_run 137 = .ok (.ireturn, 1) := by decide +kernel
theorem dX4_run_138 : decode cX4_run 138 = .ok (.aload_n 0, 1) := by decide +kernel
theorem dX4_run_139 : decode cX4_run 139 = .ok (.getfield 39, 3) := by decide +kernel
theorem dX4_run_142 : decode cX4_run 142 = .ok (.getfield 192, 3) := by decide +kernel
theorem dX4_run_145 : decode cX4_run 145 = .ok (.invokevirtual 195, 3) := by decide +kernel
theorem dX4_run_148 : decode cX4_run 148 = .ok (.ireturn, 1) := by decide +kernel
theorem dX4_run_149 : decode cX4_run 149 = .ok (.aload_n 0, 1) := by decide +kernel
theorem dX4_run_150 : decode cX4_run 150 = .ok (.getfield 39, 3) := by decide +kernel
theorem dX4_run_153 : decode cX4_run 153 = .ok (.getfield 192, 3) := by decide +kernel
theorem dX4_run_156 : decode cX4_run 156 = .ok (.invokevirtual 198, 3) := by decide +kernel
theorem dX4_run_159 : decode cX4_run 159 = .ok (.ireturn, 1) := by decide +kernel
theorem dX4_run_160 : decode cX4_run 160 = .ok (.aload_n 0, 1) := by decide +kernel
theorem dX4_run_161 : decode cX4_run 161 = .ok (.getfield 39, 3) := by decide +kernel
theorem dX4_run_164 : decode cX4_run 164 = .ok (.getfield 192, 3) := by decide +kernel
theorem dX4_run_167 : decode cX4_run 167 = .ok (.getfield 163, 3) := by decide +kernel
theorem dX4_run_170 : decode cX4_run 170 = .ok (.ireturn, 1) := by decide +kernel
theorem dX4_run_171 : decode cX4_run 171 = .ok (.aload_n 0, 1) := by decide +kernel
theorem dX4_run_172 : decode cX4_run 172 = .ok (.getfield 39, 3) := by decide +kernel
theorem dX4_run_175 : decode cX4_run 175 = .ok (.getfield 192, 3) := by decide +kernel
theorem dX4_run_178 : decode cX4_run 178 = .ok (.getfield 166, 3) := by decide +kernel
theorem dX4_run_181 : decode cX4_run 181 = .ok (.ireturn, 1) := by decide +kernel
theorem dX4_run_182 : decode cX4_run 182 = .ok (.aload_n 0, 1) := by decide +kernel
theorem dX4_run_183 : decode cX4_run 183 = .ok (.getfield 39, 3) := by decide +kernel
theorem dX4_run_186 : decode cX4_run 186 = .ok (.getfield 201, 3) := by decide +kernel
theorem dX4_run_189 : decode cX4_run 189 = .ok (.ireturn, 1) := by decide +kernel
theorem dX4_run_190 : decode cX4_run 190 = .ok (.aload_n 0, 1) := by decide +kernel
theorem dX4_run_191 : decode cX4_run 191 = .ok (.getfield 39, 3) := by decide +kernel
theorem dX4_run_194 : decode cX4_run 194 = .ok (.getfield 204, 3) := by decide +kernel
theorem dX4_run_197 : decode cX4_run 197 = .ok (.ireturn, 1) := by decide +kernel
theorem dX4_run_198 : decode cX4_run 198 = .ok (.aload_n 0, 1) := by decide +kernel
theorem dX4_run_199 : decode cX4_run 199 = .ok (.getfield 39, 3) := by decide +kernel
theorem dX4_run_202 : decode cX4_run 202 = .ok (.getfield 207, 3) := by decide +kernel
theorem dX4_run_205 : decode cX4_run 205 = .ok (.ireturn, 1) := by decide +kernel
theorem dX4_run_206 : decode cX4_run 206 = .ok (.aload_n 0, 1) := by decide +kernel
theorem dX4_run_207 : decode cX4_run 207 = .ok (.getfield 39, 3) := by decide +kernel
theorem dX4_run_210 : decode cX4_run 210 = .ok (.invokevirtual 210, 3) := by decide +kernel
theorem dX4_run_213 : decode cX4_run 213 = .ok (.ireturn, 1) := by decide +kernel
set_option maxRecDepth 20000 in
theorem ggX4_odds_X4_chanceOf : GoodIn wsX4_odds wsX4_chanceOf := goodIn_r _ [7, 2, 8, 132, 133, 134, 135, 136, 137, 138, 139, 140, 141, 142, 143, 144, 145, 146, 147, 148, 149, 150, 151, 152, 153, 154, 155, 156, 157, 158] (by decide +kernel) (by decide +kernel)
set_option maxRecDepth 20000 in
theorem gX4_odds_X4_chanceOf : GoodIn wsX4_odds (wsV RX4 213 RX4 yX4_chanceOf wsX4_chanceOf) := goodIn_app (goodIn_of _ (by decide +kernel)) ggX4_odds_X4_chanceOf
set_option maxRecDepth 20000 in
theorem ggX4_odds_X0_begin : GoodIn wsX4_odds wsX0_begin := goodIn_r _ [13, 14, 15, 16, 17, 18, 19, 20, 21, 22, 23, 24, 25, 26, 27, 28, 29, 30, 31, 32, 33, 34, 35, 36, 159, 160, 161, 162, 163, 164, 165, 166, 167, 168, 169, 170, 171, 172, 173, 174, 146, 147, 148, 149, 150, 151, 152, 153, 154, 155, 156, 157, 158] (by decide +kernel) (by decide +kernel)
set_option maxRecDepth 20000 in
theorem gX4_odds_X0_begin : GoodIn wsX4_odds (wsV RX4 182 RX0 yX0_begin wsX0_begin) := goodIn_app (goodIn_of _ (by decide +kernel)) ggX4_odds_X0_begin
set_option maxRecDepth 20000 in
theorem ggX4_odds_X4_staysWhole : GoodIn wsX4_odds wsX4_staysWhole := goodIn_r _ [40, 1, 2, 41, 42, 43, 44, 45, 46, 47, 48, 49, 50, 51, 52, 53, 12, 54, 55, 56, 57, 14, 58, 59, 60, 61, 62, 63, 23, 64, 25, 65, 66, 67, 68, 31, 69, 70, 71, 72, 73, 74, 75, 76, 18, 17, 19, 77, 16, 78, 79, 80, 81, 33, 34, 82, 83, 84, 85, 26, 86, 87, 88, 89, 90, 91, 92, 93, 28, 94, 95, 96, 97, 98, 99, 100, 101, 30, 36, 102, 103, 104, 105, 27, 106, 107, 108, 109, 110, 111, 112, 113, 114, 35, 115, 116, 117, 118, 119, 120, 121, 122, 123, 124, 32, 125, 126, 127, 6, 128, 129, 130, 131, 132, 133, 134, 135, 136, 137, 138, 139, 140, 141, 142, 143, 144, 145, 159, 160, 161, 162, 163, 164, 165, 166, 167, 168, 169, 170, 171, 172, 173, 174, 146, 147, 148, 149, 150, 151, 152, 153, 154, 155, 156, 157, 158] (by decide +kernel) (by decide +kernel)
set_option maxRecDepth 20000 in
theorem gX4_odds_X4_staysWhole : GoodIn wsX4_odds (wsV RX4 217 RX4 yX4_staysWhole wsX4_staysWhole) := goodIn_app (goodIn_of _ (by decide +kernel)) ggX4_odds_X4_staysWhole
theorem dX4_odds_0 : decode cX4_odds 0 = .ok (.iconst 0, 1) := by decide +kernel
theorem dX4_odds_1 : decode cX4_odds 1 = .ok (.istore_n 1, 1) := by decide +kernel
theorem dX4_odds_2 : decode cX4_odds 2 = .ok (.iconst 0, 1) := by decide +kernel
theorem dX4_odds_3 : decode cX4_odds 3 = .ok (.istore_n 2, 1) := by decide +kernel
theorem dX4_odds_4 : decode cX4_odds 4 = .ok (.iload_n 2, 1) := by decide +kernel
theorem dX4_odds_5 : decode cX4_odds 5 = .ok (.bipush 15, 2) := by decide +kernel
theorem dX4_odds_7 : decode cX4_odds 7 = .ok (.if_icmp .gt 42, 3) := by decide +kernel
theorem dX4_odds_10 : decode cX4_odds 10 = .ok (.aload_n 0, 1) := by decide +kernel
theorem dX4_odds_11 : decode cX4_odds 11 = .ok (.iload_n 2, 1) := by decide +kernel
theorem dX4_odds_12 : decode cX4_odds 12 = .ok (.invokevirtual 213, 3) := by decide +kernel
theorem dX4_odds_15 : decode cX4_odds 15 = .ok (.istore_n 3, 1) := by decide +kernel
theorem dX4_odds_16 : decode cX4_odds 16 = .ok (.iload_n 3, 1) := by decide +kernel
theorem dX4_odds_17 : decode cX4_odds 17 = .ok (.ifCond .le 26, 3) := by decide +kernel
theorem dX4_odds_20 : decode cX4_odds 20 = .ok (.aload_n 0, 1) := by decide +kernel
theorem dX4_odds_21 : decode cX4_odds 21 = .ok (.getfield 39, 3) := by decide +kernel
theorem dX4_odds_24 : decode cX4_odds 24 = .ok (.aload_n 0, 1) := by decide +kernel
theorem dX4_odds_25 : decode cX4_odds 25 = .ok (.getfield 10, 3) := by decide +kernel
theorem dX4_odds_28 : decode cX4_odds 28 = .ok (.iload_n 2, 1) := by decide +kernel
theorem dX4_odds_29 : decode cX4_odds 29 = .ok (.invokevirtual 182, 3) := by decide +kernel
theorem dX4_odds_32 : decode cX4_odds 32 = .ok (.aload_n 0, 1) := by decide +kernel
theorem dX4_odds_33 : decode cX4_odds 33 = .ok (.invokevirtual 217, 3) := by decide +kernel
theorem dX4_odds_36 : decode cX4_odds 36 = .ok (.ifCond .ne 7, 3) := by decide +kernel
theorem dX4_odds_39 : decode cX4_odds 39 = .ok (.iload_n 1, 1) := by decide +kernel
theorem dX4_odds_40 : decode cX4_odds 40 = .ok (.iload_n 3, 1) := by decide +kernel
theorem dX4_odds_41 : decode cX4_odds 41 = .ok (.iadd, 1) := by decide +kernel
theorem dX4_odds_42 : decode cX4_odds 42 = .ok (.istore_n 1, 1) := by decide +kernel
theorem dX4_odds_43 : decode cX4_odds 43 = .ok (.iinc 2 1, 3) := by decide +kernel
theorem dX4_odds_46 : decode cX4_odds 46 = .ok (.goto (-42), 3) := by decide +kernel
theorem dX4_odds_49 : decode cX4_odds 49 = .ok (.iload_n 1, 1) := by decide +kernel
theorem dX4_odds_50 : decode cX4_odds 50 = .ok (.ireturn, 1) := by decide +kernel
set_option maxRecDepth 20000 in
theorem ggX4_pricks_X4_outside : GoodIn wsX4_pricks wsX4_outside := goodIn_r _ [8] (by decide +kernel) (by decide +kernel)
set_option maxRecDepth 20000 in
theorem gX4_pricks_X4_outside : GoodIn wsX4_pricks (va_wsS RX4 65 yX4_outside wsX4_outside) := goodIn_app (goodIn_of _ (by decide +kernel)) ggX4_pricks_X4_outside
set_option maxRecDepth 20000 in
theorem ggX4_pricks_X0_begin : GoodIn wsX4_pricks wsX0_begin := goodIn_r _ [13, 14, 15, 16, 17, 18, 19, 20, 21, 22, 23, 24, 25, 26, 27, 28, 29, 30, 31, 32, 33, 34, 35, 36, 144, 145, 146, 147, 148, 149, 150, 151, 152, 153, 154, 155, 156, 157, 158, 159, 160, 161, 162, 163, 164, 165, 166, 167, 168, 169, 170, 171, 172] (by decide +kernel) (by decide +kernel)
set_option maxRecDepth 20000 in
theorem gX4_pricks_X0_begin : GoodIn wsX4_pricks (wsV RX4 182 RX0 yX0_begin wsX0_begin) := goodIn_app (goodIn_of _ (by decide +kernel)) ggX4_pricks_X0_begin
set_option maxRecDepth 20000 in
theorem ggX4_pricks_X1_prickBy : GoodIn wsX4_pricks wsX1_prickBy := goodIn_r _ [40, 31, 41, 42, 43, 44, 149, 150, 151, 152, 153, 154, 155, 156, 157, 158, 159] (by decide +kernel) (by decide +kernel)
set_option maxRecDepth 20000 in
theorem gX4_pricks_X1_prickBy : GoodIn wsX4_pricks (wsV RX4 137 RX1 yX1_prickBy wsX1_prickBy) := goodIn_app (goodIn_of _ (by decide +kernel)) ggX4_pricks_X1_prickBy
set_option maxRecDepth 20000 in
theorem ggX4_pricks_X4_staysWhole : GoodIn wsX4_pricks wsX4_staysWhole := goodIn_r _ [48, 1, 2, 3, 49, 50, 51, 52, 53, 54, 55, 56, 57, 58, 59, 60, 12, 61, 62, 63, 64, 14, 65, 66, 67, 68, 69, 70, 23, 71, 25, 72, 38, 39, 40, 31, 41, 42, 43, 44, 73, 74, 75, 76, 18, 17, 19, 77, 16, 78, 79, 80, 81, 33, 34, 82, 83, 84, 85, 26, 86, 87, 88, 89, 90, 91, 92, 93, 28, 94, 95, 96, 97, 98, 99, 100, 101, 30, 36, 102, 103, 104, 105, 27, 106, 107, 108, 109, 110, 111, 112, 113, 114, 35, 115, 116, 117, 118, 119, 120, 121, 122, 123, 124, 32, 125, 126, 6, 7, 8, 127, 128, 129, 130, 131, 132, 133, 134, 135, 136, 137, 138, 139, 140, 141, 142, 143, 144, 145, 146, 147, 148, 149, 150, 151, 152, 153, 154, 155, 156, 157, 158, 159, 160, 161, 162, 163, 164, 165, 166, 167, 168, 169, 170, 171, 172] (by decide +kernel) (by decide +kernel)
set_option maxRecDepth 20000 in
theorem gX4_pricks_X4_staysWhole : GoodIn wsX4_pricks (wsV RX4 217 RX4 yX4_staysWhole wsX4_staysWhole) := goodIn_app (goodIn_of _ (by decide +kernel)) ggX4_pricks_X4_staysWhole
theorem dX4_pricks_0 : decode cX4_pricks 0 = .ok (.iload_n 1, 1) := by decide +kernel
theorem dX4_pricks_1 : decode cX4_pricks 1 = .ok (.iconst 0, 1) := by decide +kernel
theorem dX4_pricks_2 : decode cX4_pricks 2 = .ok (.iconst 1, 1) := by decide +kernel
theorem dX4_pricks_3 : decode cX4_pricks 3 = .ok (.invokestatic 65, 3) := by decide +kernel
theorem dX4_pricks_6 : decode cX4_pricks 6 = .ok (.ifCond .eq 5, 3) := by decide +kernel
theorem dX4_pricks_9 : decode cX4_pricks 9 = .ok (.iconst (-1), 1) := by decide +kernel
theorem dX4_pricks_10 : decode cX4_pricks 10 = .ok (.ireturn, 1) := by decide +kernel
theorem dX4_pricks_11 : decode cX4_pricks 11 = .ok (.iconst 0, 1) := by decide +kernel
theorem dX4_pricks_12 : decode cX4_pricks 12 = .ok (.istore_n 2, 1) := by decide +kernel
theorem dX4_pricks_13 : decode cX4_pricks 13 = .ok (.iload_n 2, 1) := by decide +kernel
theorem dX4_pricks_14 : decode cX4_pricks 14 = .ok (.bipush 9, 2) := by decide +kernel
theorem dX4_pricks_16 : decode cX4_pricks 16 = .ok (.if_icmp .gt 59, 3) := by decide +kernel
theorem dX4_pricks_19 : decode cX4_pricks 19 = .ok (.aload_n 0, 1) := by decide +kernel
theorem dX4_pricks_20 : decode cX4_pricks 20 = .ok (.getfield 39, 3) := by decide +kernel
theorem dX4_pricks_23 : decode cX4_pricks 23 = .ok (.aload_n 0, 1) := by decide +kernel
theorem dX4_pricks_24 : decode cX4_pricks 24 = .ok (.getfield 10, 3) := by decide +kernel
theorem dX4_pricks_27 : decode cX4_pricks 27 = .ok (.bipush 15, 2) := by decide +kernel
theorem dX4_pricks_29 : decode cX4_pricks 29 = .ok (.invokevirtual 182, 3) := by decide +kernel
theorem dX4_pricks_32 : decode cX4_pricks 32 = .ok (.aload_n 0, 1) := by decide +kernel
theorem dX4_pricks_33 : decode cX4_pricks 33 = .ok (.getfield 39, 3) := by decide +kernel
theorem dX4_pricks_36 : decode cX4_pricks 36 = .ok (.getfield 192, 3) := by decide +kernel
theorem dX4_pricks_39 : decode cX4_pricks 39 = .ok (.iload_n 2, 1) := by decide +kernel
theorem dX4_pricks_40 : decode cX4_pricks 40 = .ok (.invokevirtual 137, 3) := by decide +kernel
theorem dX4_pricks_43 : decode cX4_pricks 43 = .ok (.aload_n 0, 1) := by decide +kernel
theorem dX4_pricks_44 : decode cX4_pricks 44 = .ok (.invokevirtual 217, 3) := by decide +kernel
theorem dX4_pricks_47 : decode cX4_pricks 47 = .ok (.ifCond .eq 22, 3) := by decide +kernel
theorem dX4_pricks_50 : decode cX4_pricks 50 = .ok (.iload_n 1, 1) := by decide +kernel
theorem dX4_pricks_51 : decode cX4_pricks 51 = .ok (.ifCond .ne 7, 3) := by decide +kernel
theorem dX4_pricks_54 : decode cX4_pricks 54 = .ok (.iload_n 2, 1) := by decide +kernel
theorem dX4_pricks_55 : decode cX4_pricks 55 = .ok (.goto 13, 3) := by decide +kernel
theorem dX4_pricks_58 : decode cX4_pricks 58 = .ok (.aload_n 0, 1) := by decide +kernel
theorem dX4_pricks_59 : decode cX4_pricks 59 = .ok (.getfield 39, 3) := by decide +kernel
theorem dX4_pricks_62 : decode cX4_pricks 62 = .ok (.getfield 192, 3) := by decide +kernel
theorem dX4_pricks_65 : decode cX4_pricks 65 = .ok (.getfield 166, 3) := by decide +kernel
theorem dX4_pricks_68 : decode cX4_pricks 68 = .ok (.ireturn, 1) := by decide +kernel
theorem dX4_pricks_69 : decode cX4_pricks 69 = .ok (.iinc 2 1, 3) := by decide +kernel
theorem dX4_pricks_72 : decode cX4_pricks 72 = .ok (.goto (-59), 3) := by decide +kernel
theorem dX4_pricks_75 : decode cX4_pricks 75 = .ok (.bipush (-9), 2) := by decide +kernel
theorem dX4_pricks_77 : decode cX4_pricks 77 = .ok (.ireturn, 1) := by decide +kernel
set_option maxRecDepth 20000 in
theorem ggX4_simmered_X4_outside : GoodIn wsX4_simmered wsX4_outside := goodIn_r _ [6] (by decide +kernel) (by decide +kernel)
set_option maxRecDepth 20000 in
theorem gX4_simmered_X4_outside : GoodIn wsX4_simmered (va_wsS RX4 65 yX4_outside wsX4_outside) := goodIn_app (goodIn_of _ (by decide +kernel)) ggX4_simmered_X4_outside
set_option maxRecDepth 20000 in
theorem ggX4_simmered_X0_begin : GoodIn wsX4_simmered wsX0_begin := goodIn_r _ [11, 12, 13, 14, 15, 16, 17, 18, 19, 20, 21, 22, 23, 24, 25, 26, 27, 28, 29, 30, 31, 32, 33, 34, 143, 144, 145, 146, 147, 148, 149, 150, 151, 152, 153, 154, 155, 156, 157, 158, 159, 160, 161, 162, 163, 164, 165, 166, 167, 168, 169, 170, 171] (by decide +kernel) (by decide +kernel)
set_option maxRecDepth 20000 in
theorem gX4_simmered_X0_begin : GoodIn wsX4_simmered (wsV RX4 182 RX0 yX0_begin wsX0_begin) := goodIn_app (goodIn_of _ (by decide +kernel)) ggX4_simmered_X0_begin
set_option maxRecDepth 20000 in
theorem ggX4_simmered_X0_pass : GoodIn wsX4_simmered wsX0_pass := goodIn_r _ [38, 12, 16, 15, 39, 17, 40, 14, 41, 42, 43, 44, 21, 45, 31, 32, 46, 47, 48, 49, 23, 24, 50, 51, 52, 53, 54, 55, 56, 57, 26, 58, 59, 60, 61, 62, 63, 64, 65, 66, 28, 34, 29, 67, 68, 69, 70, 25, 71, 72, 73, 74, 75, 76, 77, 78, 79, 80, 81, 82, 33, 83, 84, 85, 86, 87, 88, 89, 90, 91, 92, 30, 93, 94, 4, 5, 6, 95, 96, 97, 143, 144, 145, 146, 147, 148, 149, 150, 151, 152, 153, 154, 155, 156, 157, 158, 159, 160, 161, 162, 163, 164, 165, 166, 167, 168, 169, 170, 171] (by decide +kernel) (by decide +kernel)
set_option maxRecDepth 20000 in
theorem gX4_simmered_X0_pass : GoodIn wsX4_simmered (wsV RX4 221 RX0 yX0_pass wsX0_pass) := goodIn_app (goodIn_of _ (by decide +kernel)) ggX4_simmered_X0_pass
set_option maxRecDepth 20000 in
theorem ggX4_simmered_X4_staysWhole : GoodIn wsX4_simmered wsX4_staysWhole := goodIn_r _ [101, 1, 2, 102, 103, 104, 105, 106, 107, 108, 109, 110, 111, 112, 113, 114, 10, 115, 116, 117, 118, 12, 119, 39, 41, 120, 121, 122, 21, 123, 23, 124, 125, 126, 127, 29, 71, 72, 61, 73, 128, 36, 37, 38, 16, 15, 17, 40, 14, 42, 43, 44, 45, 31, 32, 46, 47, 48, 49, 24, 50, 51, 52, 53, 54, 55, 56, 57, 26, 58, 59, 60, 62, 63, 64, 65, 66, 28, 34, 67, 68, 69, 70, 25, 74, 75, 76, 77, 78, 79, 80, 81, 82, 33, 83, 84, 85, 86, 87, 88, 89, 90, 91, 92, 30, 93, 94, 4, 5, 6, 95, 96, 97, 129, 130, 131, 132, 133, 134, 135, 136, 137, 138, 139, 140, 141, 142, 143, 144, 145, 146, 147, 148, 149, 150, 151, 152, 153, 154, 155, 156, 157, 158, 159, 160, 161, 162, 163, 164, 165, 166, 167, 168, 169, 170, 171] (by decide +kernel) (by decide +kernel)
set_option maxRecDepth 20000 in
theorem gX4_simmered_X4_staysWhole : GoodIn wsX4_simmered (wsV RX4 217 RX4 yX4_staysWhole wsX4_staysWhole) := goodIn_app (goodIn_of _ (by decide +kernel)) ggX4_simmered_X4_staysWhole
theorem dX4_simmered_0 : decode cX4_simmered 0 = .ok (.iload_n 1, 1) := by decide +kernel
theorem dX4_simmered_1 : decode cX4_simmered 1 = .ok (.iconst 0, 1) := by decide +kernel
theorem dX4_simmered_2 : decode cX4_simmered 2 = .ok (.iconst 1, 1) := by decide +kernel
theorem dX4_simmered_3 : decode cX4_simmered 3 = .ok (.invokestatic 65, 3) := by decide +kernel
theorem dX4_simmered_6 : decode cX4_simmered 6 = .ok (.ifCond .eq 5, 3) := by decide +kernel
theorem dX4_simmered_9 : decode cX4_simmered 9 = .ok (.iconst (-1), 1) := by decide +kernel
theorem dX4_simmered_10 : decode cX4_simmered 10 = .ok (.ireturn, 1) := by decide +kernel
theorem dX4_simmered_11 : decode cX4_simmered 11 = .ok (.iconst 0, 1) := by decide +kernel
theorem dX4_simmered_12 : decode cX4_simmered 12 = .ok (.istore_n 2, 1) := by decide +kernel
theorem dX4_simmered_13 : decode cX4_simmered 13 = .ok (.iload_n 2, 1) := by decide +kernel
theorem dX4_simmered_14 : decode cX4_simmered 14 = .ok (.bipush 40, 2) := by decide +kernel
theorem dX4_simmered_16 : decode cX4_simmered 16 = .ok (.if_icmp .gt 76, 3) := by decide +kernel
theorem dX4_simmered_19 : decode cX4_simmered 19 = .ok (.iload_n 1, 1) := by decide +kernel
theorem dX4_simmered_20 : decode cX4_simmered 20 = .ok (.ifCond .ne 10, 3) := by decide +kernel
theorem dX4_simmered_23 : decode cX4_simmered 23 = .ok (.bipush 60, 2) := by decide +kernel
theorem dX4_simmered_25 : decode cX4_simmered 25 = .ok (.iload_n 2, 1) := by decide +kernel
theorem dX4_simmered_26 : decode cX4_simmered 26 = .ok (.iadd, 1) := by decide +kernel
theorem dX4_simmered_27 : decode cX4_simmered 27 = .ok (.goto 7, 3) := by decide +kernel
theorem dX4_simmered_30 : decode cX4_simmered 30 = .ok (.bipush 100, 2) := by decide +kernel
theorem dX4_simmered_32 : decode cX4_simmered 32 = .ok (.iload_n 2, 1) := by decide +kernel
theorem dX4_simmered_33 : decode cX4_simmered 33 = .ok (.isub, 1) := by decide +kernel
theorem dX4_simmered_34 : decode cX4_simmered 34 = .ok (.istore_n 3, 1) := by decide +kernel
theorem dX4_simmered_35 : decode cX4_simmered 35 = .ok (.aload_n 0, 1) := by decide +kernel
theorem dX4_simmered_36 : decode cX4_simmered 36 = .ok (.getfield 39, 3) := by decide +kernel
theorem dX4_simmered_39 : decode cX4_simmered 39 = .ok (.aload_n 0, 1) := by decide +kernel
theorem dX4_simmered_40 : decode cX4_simmered 40 = .ok (.getfield 10, 3) := by decide +kernel
theorem dX4_simmered_43 : decode cX4_simmered 43 = .ok (.bipush 15, 2) := by decide +kernel
theorem dX4_simmered_45 : decode cX4_simmered 45 = .ok (.invokevirtual 182, 3) := by decide +kernel
theorem dX4_simmered_48 : decode cX4_simmered 48 = .ok (.iconst 0, 1) := by decide +kernel
theorem dX4_simmered_49 : decode cX4_simmered 49 = .ok (.istore 4, 2) := by decide +kernel
theorem dX4_simmered_51 : decode cX4_simmered 51 = .ok (.iload 4, 2) := by decide +kernel
theorem dX4_simmered_53 : decode cX4_simmered 53 = .ok (.bipush 60, 2) := by decide +kernel
theorem dX4_simmered_55 : decode cX4_simmered 55 = .ok (.if_icmp .ge 22, 3) := by decide +kernel
theorem dX4_simmered_58 : decode cX4_simmered 58 = .ok (.aload_n 0, 1) := by decide +kernel
theorem dX4_simmered_59 : decode cX4_simmered 59 = .ok (.getfield 39, 3) := by decide +kernel
theorem dX4_simmered_62 : decode cX4_simmered 62 = .ok (.aload_n 0, 1) := by decide +kernel
theorem dX4_simmered_63 : decode cX4_simmered 63 = .ok (.getfield 10, 3) := by decide +kernel
theorem dX4_simmered_66 : decode cX4_simmered 66 = .ok (.iconst 3, 1) := by decide +kernel
theorem dX4_simmered_67 : decode cX4_simmered 67 = .ok (.iload_n 3, 1) := by decide +kernel
theorem dX4_simmered_68 : decode cX4_simmered 68 = .ok (.invokevirtual 221, 3) := by decide +kernel
theorem dX4_simmered_71 : decode cX4_simmered 71 = .ok (.iinc 4 1, 3) := by decide +kernel
theorem dX4_simmered_74 : decode cX4_simmered 74 = .ok (.goto (-23), 3) := by decide +kernel
theorem dX4_simmered_77 : decode cX4_simmered 77 = .ok (.aload_n 0, 1) := by decide +kernel
theorem dX4_simmered_78 : decode cX4_simmered 78 = .ok (.invokevirtual 217, 3) := by decide +kernel
theorem dX4_simmered_81 : decode cX4_simmered 81 = .ok (.ifCond .eq 5, 3) := by decide +kernel
theorem dX4_simmered_84 : decode cX4_simmered 84 = .ok (.iload_n 3, 1) := by decide +kernel
theorem dX4_simmered_85 : decode cX4_simmered 85 = .ok (.ireturn, 1) := by decide +kernel
theorem dX4_simmered_86 : decode cX4_simmered 86 = .ok (.iinc 2 1, 3) := by decide +kernel
theorem dX4_simmered_89 : decode cX4_simmered 89 = .ok (.goto (-76), 3) := by decide +kernel
theorem dX4_simmered_92 : decode cX4_simmered 92 = .ok (.bipush (-9), 2) := by decide +kernel
theorem dX4_simmered_94 : decode cX4_simmered 94 = .ok (.ireturn, 1) := by decide +kernel
set_option maxRecDepth 20000 in
theorem ggX4_planned_X4_outside : GoodIn wsX4_planned wsX4_outside := goodIn_r _ [8] (by decide +kernel) (by decide +kernel)
set_option maxRecDepth 20000 in
theorem gX4_planned_X4_outside : GoodIn wsX4_planned (va_wsS RX4 65 yX4_outside wsX4_outside) := goodIn_app (goodIn_of _ (by decide +kernel)) ggX4_planned_X4_outside
set_option maxRecDepth 20000 in
theorem ggX4_planned_X0_begin : GoodIn wsX4_planned wsX0_begin := goodIn_r _ [13, 14, 15, 16, 17, 18, 19, 20, 21, 22, 23, 24, 25, 26, 27, 28, 29, 30, 31, 32, 33, 34, 35, 36, 126, 127, 128, 129, 130, 131, 132, 133, 134, 135, 136, 137, 138, 139, 140, 141, 142, 143, 144, 145, 146, 147, 148, 149, 150, 151, 152, 153, 154] (by decide +kernel) (by decide +kernel)
set_option maxRecDepth 20000 in
theorem gX4_planned_X0_begin : GoodIn wsX4_planned (wsV RX4 182 RX0 yX0_begin wsX0_begin) := goodIn_app (goodIn_of _ (by decide +kernel)) ggX4_planned_X0_begin
set_option maxRecDepth 20000 in
theorem ggX4_planned_X0_turnEach : GoodIn wsX4_planned wsX0_turnEach := goodIn_r _ [40, 14, 41, 42, 43, 44, 23, 45, 25, 46, 47, 48, 12, 49, 18, 17, 50, 19, 51, 16, 52, 53, 54, 55, 33, 34, 56, 57, 58, 59, 26, 60, 61, 62, 63, 64, 65, 66, 67, 28, 68, 69, 70, 71, 72, 73, 74, 75, 76, 30, 36, 31, 77, 78, 79, 80, 27, 81, 82, 83, 84, 85, 86, 87, 88, 89, 90, 91, 92, 35, 93, 94, 95, 96, 97, 98, 99, 100, 101, 102, 32, 103, 104, 6, 7, 8, 105, 106, 107, 126, 127, 128, 129, 130, 131, 132, 133, 134, 135, 136, 137, 138, 139, 140, 141, 142, 143, 144, 145, 146, 147, 148, 149, 150, 151, 152, 153, 154] (by decide +kernel) (by decide +kernel)
set_option maxRecDepth 20000 in
theorem gX4_planned_X0_turnEach : GoodIn wsX4_planned (wsV RX4 225 RX0 yX0_turnEach wsX0_turnEach) := goodIn_app (goodIn_of _ (by decide +kernel)) ggX4_planned_X0_turnEach
set_option maxRecDepth 20000 in
theorem ggX4_planned_X1_leastBrown : GoodIn wsX4_planned wsX1_leastBrown := goodIn_r _ [111, 27, 81, 82, 71, 83, 131, 132, 133, 134, 135, 136, 137, 138, 139, 140, 141] (by decide +kernel) (by decide +kernel)
set_option maxRecDepth 20000 in
theorem gX4_planned_X1_leastBrown : GoodIn wsX4_planned (wsV RX4 195 RX1 yX1_leastBrown wsX1_leastBrown) := goodIn_app (goodIn_of _ (by decide +kernel)) ggX4_planned_X1_leastBrown
theorem dX4_planned_0 : decode cX4_planned 0 = .ok (.iload_n 1, 1) := by decide +kernel
theorem dX4_planned_1 : decode cX4_planned 1 = .ok (.bipush 8, 2) := by decide +kernel
theorem dX4_planned_3 : decode cX4_planned 3 = .ok (.sipush 240, 3) := by decide +kernel
theorem dX4_planned_6 : decode cX4_planned 6 = .ok (.invokestatic 65, 3) := by decide +kernel
theorem dX4_planned_9 : decode cX4_planned 9 = .ok (.ifCond .ne 22, 3) := by decide +kernel
theorem dX4_planned_12 : decode cX4_planned 12 = .ok (.iload_n 2, 1) := by decide +kernel
theorem dX4_planned_13 : decode cX4_planned 13 = .ok (.iconst 0, 1) := by decide +kernel
theorem dX4_planned_14 : decode cX4_planned 14 = .ok (.bipush 15, 2) := by decide +kernel
theorem dX4_planned_16 : decode cX4_planned 16 = .ok (.invokestatic 65, 3) := by decide +kernel
theorem dX4_planned_19 : decode cX4_planned 19 = .ok (.ifCond .ne 12, 3) := by decide +kernel
theorem dX4_planned_22 : decode cX4_planned 22 = .ok (.iload_n 3, 1) := by decide +kernel
theorem dX4_planned_23 : decode cX4_planned 23 = .ok (.iconst 0, 1) := by decide +kernel
theorem dX4_planned_24 : decode cX4_planned 24 = .ok (.iconst 2, 1) := by decide +kernel
theorem dX4_planned_25 : decode cX4_planned 25 = .ok (.invokestatic 65, 3) := by decide +kernel
theorem dX4_planned_28 : decode cX4_planned 28 = .ok (.ifCond .eq 5, 3) := by decide +kernel
theorem dX4_planned_31 : decode cX4_planned 31 = .ok (.iconst (-1), 1) := by decide +kernel
theorem dX4_planned_32 : decode cX4_planned 32 = .ok (.ireturn, 1) := by decide +kernel
theorem dX4_planned_33 : decode cX4_planned 33 = .ok (.bipush (-9), 2) := by decide +kernel
theorem dX4_planned_35 : decode cX4_planned 35 = .ok (.istore 4, 2) := by decide +kernel
theorem dX4_planned_37 : decode cX4_planned 37 = .ok (.bipush (-9), 2) := by decide +kernel
theorem dX4_planned_39 : decode cX4_planned 39 = .ok (.istore 5, 2) := by decide +kernel
theorem dX4_planned_41 : decode cX4_planned 41 = .ok (.bipush (-9), 2) := by decide +kernel
theorem dX4_planned_43 : decode cX4_planned 43 = .ok (.istore 6, 2) := by decide +kernel
theorem dX4_planned_45 : decode cX4_planned 45 = .ok (.bipush 80, 2) := by decide +kernel
theorem dX4_planned_47 : decode cX4_planned 47 = .ok (.istore 7, 2) := by decide +kernel
theorem dX4_planned_49 : decode cX4_planned 49 = .ok (.iload 7, 2) := by decide +kernel
theorem dX4_planned_51 : decode cX4_planned 51 = .ok (.sipush 260, 3) := by decide +kernel
theorem dX4_planned_54 : decode cX4_planned 54 = .ok (.if_icmp .gt 102, 3) := by decide +kernel
theorem dX4_planned_57 : decode cX4_planned 57 = .ok (.iconst 5, 1) := by decide +kernel
theorem dX4_planned_58 : decode cX4_planned 58 = .ok (.istore 8, 2) := by decide +kernel
theorem dX4_planned_60 : decode cX4_planned 60 = .ok (.iload 8, 2) := by decide +kernel
theorem dX4_planned_62 : decode cX4_planned 62 = .ok (.bipush 40, 2) := by decide +kernel
theorem dX4_planned_64 : decode cX4_planned 64 = .ok (.if_icmp .gt 86, 3) := by decide +kernel
theorem dX4_planned_67 : decode cX4_planned 67 = .ok (.aload_n 0, 1) := by decide +kernel
theorem dX4_planned_68 : decode cX4_planned 68 = .ok (.getfield 39, 3) := by decide +kernel
theorem dX4_planned_71 : decode cX4_planned 71 = .ok (.aload_n 0, 1) := by decide +kernel
theorem dX4_planned_72 : decode cX4_planned 72 = .ok (.getfield 10, 3) := by decide +kernel
theorem dX4_planned_75 : decode cX4_planned 75 = .ok (.iload_n 2, 1) := by decide +kernel
theorem dX4_planned_76 : decode cX4_planned 76 = .ok (.invokevirtual 182, 3) := by decide +kernel
theorem dX4_planned_79 : decode cX4_planned 79 = .ok (.aload_n 0, 1) := by decide +kernel
theorem dX4_planned_80 : decode cX4_planned 80 = .ok (.getfield 39, 3) := by decide +kernel
theorem dX4_planned_83 : decode cX4_planned 83 = .ok (.aload_n 0, 1) := by decide +kernel
theorem dX4_planned_84 : decode cX4_planned 84 = .ok (.getfield 10, 3) := by decide +kernel
theorem dX4_planned_87 : decode cX4_planned 87 = .ok (.iload_n 1, 1) := by decide +kernel
theorem dX4_planned_88 : decode cX4_planned 88 = .ok (.iload 7, 2) := by decide +kernel
theorem dX4_planned_90 : decode cX4_planned 90 = .ok (.iload 8, 2) := by decide +kernel
theorem dX4_planned_92 : decode cX4_planned 92 = .ok (.invokevirtual 225, 3) := by decide +kernel
theorem dX4_planned_95 : decode cX4_planned 95 = .ok (.aload_n 0, 1) := by decide +kernel
theorem dX4_planned_96 : decode cX4_planned 96 = .ok (.getfield 39, 3) := by decide +kernel
theorem dX4_planned_99 : decode cX4_planned 99 = .ok (.getfield 192, 3) := by decide +kernel
theorem dX4_planned_102 : decode cX4_planned 102 = .ok (.getfield 169, 3) := by decide +kernel
theorem dX4_planned_105 : decode cX4_planned 105 = .ok (.ifCond .ne 16, 3) := by decide +kernel
theorem dX4_planned_108 : decode cX4_planned 108 = .ok (.aload_n 0, 1) := by decide +kernel
theorem dX4_planned_109 : decode cX4_planned 109 = .ok (.getfield 39, 3) := by decide +kernel
theorem dX4_planned_112 : decode cX4_planned 112 = .ok (.getfield 192, 3) := by decide +kernel
theorem dX4_planned_115 : decode cX4_planned 115 = .ok (.invokevirtual 195, 3) := by decide +kernel
theorem dX4_planned_118 : decode cX4_planned 118 = .ok (.goto 5, 3) := by decide +kernel
theorem dX4_planned_121 : decode cX4_planned 121 = .ok (.bipush (-9), 2) := by decide +kernel
theorem dX4_planned_123 : decode cX4_planned 123 = .ok (.istore 9, 2) := by decide +kernel
theorem dX4_planned_125 : decode cX4_planned 125 = .ok (.iload 9, 2) := by decide +kernel
theorem dX4_planned_127 : decode cX4_planned 127 = .ok (.iload 4, 2) := by decide +kernel
theorem dX4_planned_129 : decode cX4_planned 129 = .ok (.if_icmp .le 15, 3) := by decide +kernel
theorem dX4_planned_132 : decode cX4_planned 132 = .ok (.iload 9, 2) := by decide +kernel
theorem dX4_planned_134 : decode cX4_planned 134 = .ok (.istore 4, 2) := by decide +kernel
theorem dX4_planned_136 : decode cX4_planned 136 = .ok (.iload 7, 2) := by decide +kernel
theorem dX4_planned_138 : decode cX4_planned 138 = .ok (.istore 5, 2) := by decide +kernel
theorem dX4_planned_140 : decode cX4_planned 140 = .ok (.iload 8, 2) := by decide +kernel
theorem dX4_planned_142 : decode cX4_planned 142 = .ok (.istore 6, 2) := by decide +kernel
theorem dX4_planned_144 : decode cX4_planned 144 = .ok (.iinc 8 5, 3) := by decide +kernel
theorem dX4_planned_147 : decode cX4_planned 147 = .ok (.goto (-87), 3) := by decide +kernel
theorem dX4_planned_150 : decode cX4_planned 150 = .ok (.iinc 7 20, 3) := by decide +kernel
theorem dX4_planned_153 : decode cX4_planned 153 = .ok (.goto (-104), 3) := by decide +kernel
theorem dX4_planned_156 : decode cX4_planned 156 = .ok (.iload_n 3, 1) := by decide +kernel
theorem dX4_planned_157 : decode cX4_planned 157 = .ok (.ifCond .ne 8, 3) := by decide +kernel
theorem dX4_planned_160 : decode cX4_planned 160 = .ok (.iload 4, 2) := by decide +kernel
theorem dX4_planned_162 : decode cX4_planned 162 = .ok (.goto 15, 3) := by decide +kernel
theorem dX4_planned_165 : decode cX4_planned 165 = .ok (.iload_n 3, 1) := by decide +kernel
theorem dX4_planned_166 : decode cX4_planned 166 = .ok (.iconst 1, 1) := by decide +kernel
theorem dX4_planned_167 : decode cX4_planned 167 = .ok (.if_icmp .ne 8, 3) := by decide +kernel
theorem dX4_planned_170 : decode cX4_planned 170 = .ok (.iload 5, 2) := by decide +kernel
theorem dX4_planned_172 : decode cX4_planned 172 = .ok (.goto 5, 3) := by decide +kernel
theorem dX4_planned_175 : decode cX4_planned 175 = .ok (.iload 6, 2) := by decide +kernel
theorem dX4_planned_177 : decode cX4_planned 177 = .ok (.ireturn, 1) := by decide +kernel
set_option maxRecDepth 20000 in
theorem ggX4_heat_X4_outside : GoodIn wsX4_heat wsX4_outside := goodIn_r _ [5] (by decide +kernel) (by decide +kernel)
set_option maxRecDepth 20000 in
theorem gX4_heat_X4_outside : GoodIn wsX4_heat (va_wsS RX4 65 yX4_outside wsX4_outside) := goodIn_app (goodIn_of _ (by decide +kernel)) ggX4_heat_X4_outside
theorem dX4_heat_0 : decode cX4_heat 0 = .ok (.iload_n 1, 1) := by decide +kernel
theorem dX4_heat_1 : decode cX4_heat 1 = .ok (.iconst 0, 1) := by decide +kernel
theorem dX4_heat_2 : decode cX4_heat 2 = .ok (.iconst 3, 1) := by decide +kernel
theorem dX4_heat_3 : decode cX4_heat 3 = .ok (.invokestatic 65, 3) := by decide +kernel
theorem dX4_heat_6 : decode cX4_heat 6 = .ok (.ifCond .ne 13, 3) := by decide +kernel
theorem dX4_heat_9 : decode cX4_heat 9 = .ok (.iload_n 2, 1) := by decide +kernel
theorem dX4_heat_10 : decode cX4_heat 10 = .ok (.iconst 0, 1) := by decide +kernel
theorem dX4_heat_11 : decode cX4_heat 11 = .ok (.bipush 99, 2) := by decide +kernel
theorem dX4_heat_13 : decode cX4_heat 13 = .ok (.invokestatic 65, 3) := by decide +kernel
theorem dX4_heat_16 : decode cX4_heat 16 = .ok (.ifCond .eq 5, 3) := by decide +kernel
theorem dX4_heat_19 : decode cX4_heat 19 = .ok (.iconst (-1), 1) := by decide +kernel
theorem dX4_heat_20 : decode cX4_heat 20 = .ok (.ireturn, 1) := by decide +kernel
theorem dX4_heat_21 : decode cX4_heat 21 = .ok (.aload_n 0, 1) := by decide +kernel
theorem dX4_heat_22 : decode cX4_heat 22 = .ok (.getfield 51, 3) := by decide +kernel
theorem dX4_heat_25 : decode cX4_heat 25 = .ok (.iload_n 1, 1) := by decide +kernel
theorem dX4_heat_26 : decode cX4_heat 26 = .ok (.iaload, 1) := by decide +kernel
theorem dX4_heat_27 : decode cX4_heat 27 = .ok (.istore_n 3, 1) := by decide +kernel
theorem dX4_heat_28 : decode cX4_heat 28 = .ok (.aload_n 0, 1) := by decide +kernel
theorem dX4_heat_29 : decode cX4_heat 29 = .ok (.getfield 51, 3) := by decide +kernel
theorem dX4_heat_32 : decode cX4_heat 32 = .ok (.iload_n 1, 1) := by decide +kernel
theorem dX4_heat_33 : decode cX4_heat 33 = .ok (.iload_n 2, 1) := by decide +kernel
theorem dX4_heat_34 : decode cX4_heat 34 = .ok (.iastore, 1) := by decide +kernel
theorem dX4_heat_35 : decode cX4_heat 35 = .ok (.iload_n 3, 1) := by decide +kernel
theorem dX4_heat_36 : decode cX4_heat 36 = .ok (.ireturn, 1) := by decide +kernel
set_option maxRecDepth 20000 in
theorem ggX4_even_X4_outside : GoodIn wsX4_even wsX4_outside := goodIn_r _ [4] (by decide +kernel) (by decide +kernel)
set_option maxRecDepth 20000 in
theorem gX4_even_X4_outside : GoodIn wsX4_even (va_wsS RX4 65 yX4_outside wsX4_outside) := goodIn_app (goodIn_of _ (by decide +kernel)) ggX4_even_X4_outside
set_option maxRecDepth 20000 in
theorem ggX4_even_X4_leastHeat : GoodIn wsX4_even wsX4_leastHeat := goodIn_r _ [8, 9, 10, 11, 12, 13, 14, 15, 16, 17, 18, 19, 20, 21, 22, 23, 24, 25, 26, 27, 28] (by decide +kernel) (by decide +kernel)
set_option maxRecDepth 20000 in
theorem gX4_even_X4_leastHeat : GoodIn wsX4_even (wsV RX4 229 RX4 yX4_leastHeat wsX4_leastHeat) := goodIn_app (goodIn_of _ (by decide +kernel)) ggX4_even_X4_leastHeat
theorem dX4_even_0 : decode cX4_even 0 = .ok (.iload_n 1, 1) := by decide +kernel
theorem dX4_even_1 : decode cX4_even 1 = .ok (.iconst 1, 1) := by decide +kernel
theorem dX4_even_2 : decode cX4_even 2 = .ok (.iconst 3, 1) := by decide +kernel
theorem dX4_even_3 : decode cX4_even 3 = .ok (.invokestatic 65, 3) := by decide +kernel
theorem dX4_even_6 : decode cX4_even 6 = .ok (.ifCond .ne 12, 3) := by decide +kernel
theorem dX4_even_9 : decode cX4_even 9 = .ok (.iload_n 2, 1) := by decide +kernel
theorem dX4_even_10 : decode cX4_even 10 = .ok (.iconst 0, 1) := by decide +kernel
theorem dX4_even_11 : decode cX4_even 11 = .ok (.iconst 1, 1) := by decide +kernel
theorem dX4_even_12 : decode cX4_even 12 = .ok (.invokestatic 65, 3) := by decide +kernel
theorem dX4_even_15 : decode cX4_even 15 = .ok (.ifCond .eq 5, 3) := by decide +kernel
theorem dX4_even_18 : decode cX4_even 18 = .ok (.iconst (-1), 1) := by decide +kernel
theorem dX4_even_19 : decode cX4_even 19 = .ok (.ireturn, 1) := by decide +kernel
theorem dX4_even_20 : decode cX4_even 20 = .ok (.iload_n 1, 1) := by decide +kernel
theorem dX4_even_21 : decode cX4_even 21 = .ok (.iconst 1, 1) := by decide +kernel
theorem dX4_even_22 : decode cX4_even 22 = .ok (.if_icmp .ne 7, 3) := by decide +kernel
theorem dX4_even_25 : decode cX4_even 25 = .ok (.iconst 1, 1) := by decide +kernel
theorem dX4_even_26 : decode cX4_even 26 = .ok (.goto 16, 3) := by decide +kernel
theorem dX4_even_29 : decode cX4_even 29 = .ok (.iload_n 1, 1) := by decide +kernel
theorem dX4_even_30 : decode cX4_even 30 = .ok (.iconst 2, 1) := by decide +kernel
theorem dX4_even_31 : decode cX4_even 31 = .ok (.if_icmp .ne 8, 3) := by decide +kernel
theorem dX4_even_34 : decode cX4_even 34 = .ok (.bipush 24, 2) := by decide +kernel
theorem dX4_even_36 : decode cX4_even 36 = .ok (.goto 6, 3) := by decide +kernel
theorem dX4_even_39 : decode cX4_even 39 = .ok (.sipush 576, 3) := by decide +kernel
theorem dX4_even_42 : decode cX4_even 42 = .ok (.istore_n 3, 1) := by decide +kernel
theorem dX4_even_43 : decode cX4_even 43 = .ok (.iconst (-1), 1) := by decide +kernel
theorem dX4_even_44 : decode cX4_even 44 = .ok (.istore 4, 2) := by decide +kernel
theorem dX4_even_46 : decode cX4_even 46 = .ok (.iconst 0, 1) := by decide +kernel
theorem dX4_even_47 : decode cX4_even 47 = .ok (.istore 5, 2) := by decide +kernel
theorem dX4_even_49 : decode cX4_even 49 = .ok (.iconst 0, 1) := by decide +kernel
theorem dX4_even_50 : decode cX4_even 50 = .ok (.istore 6, 2) := by decide +kernel
theorem dX4_even_52 : decode cX4_even 52 = .ok (.iload 6, 2) := by decide +kernel
theorem dX4_even_54 : decode cX4_even 54 = .ok (.iload_n 3, 1) := by decide +kernel
theorem dX4_even_55 : decode cX4_even 55 = .ok (.if_icmp .ge 33, 3) := by decide +kernel
theorem dX4_even_58 : decode cX4_even 58 = .ok (.aload_n 0, 1) := by decide +kernel
theorem dX4_even_59 : decode cX4_even 59 = .ok (.iload 6, 2) := by decide +kernel
theorem dX4_even_61 : decode cX4_even 61 = .ok (.iload_n 1, 1) := by decide +kernel
theorem dX4_even_62 : decode cX4_even 62 = .ok (.invokevirtual 229, 3) := by decide +kernel
theorem dX4_even_65 : decode cX4_even 65 = .ok (.istore 7, 2) := by decide +kernel
theorem dX4_even_67 : decode cX4_even 67 = .ok (.iload 7, 2) := by decide +kernel
theorem dX4_even_69 : decode cX4_even 69 = .ok (.iload 4, 2) := by decide +kernel
theorem dX4_even_71 : decode cX4_even 71 = .ok (.if_icmp .le 11, 3) := by decide +kernel
theorem dX4_even_74 : decode cX4_even 74 = .ok (.iload 7, 2) := by decide +kernel
theorem dX4_even_76 : decode cX4_even 76 = .ok (.istore 4, 2) := by decide +kernel
theorem dX4_even_78 : decode cX4_even 78 = .ok (.iload 6, 2) := by decide +kernel
theorem dX4_even_80 : decode cX4_even 80 = .ok (.istore 5, 2) := by decide +kernel
theorem dX4_even_82 : decode cX4_even 82 = .ok (.iinc 6 1, 3) := by decide +kernel
theorem dX4_even_85 : decode cX4_even 85 = .ok (.goto (-33), 3) := by decide +kernel
theorem dX4_even_88 : decode cX4_even 88 = .ok (.iload_n 2, 1) := by decide +kernel
theorem dX4_even_89 : decode cX4_even 89 = .ok (.ifCond .ne 8, 3) := by decide +kernel
theorem dX4_even_92 : decode cX4_even 92 = .ok (.iload 4, 2) := by decide +kernel
theorem dX4_even_94 : decode cX4_even 94 = .ok (.goto 5, 3) := by decide +kernel
theorem dX4_even_97 : decode cX4_even 97 = .ok (.iload 5, 2) := by decide +kernel
theorem dX4_even_99 : decode cX4_even 99 = .ok (.ireturn, 1) := by decide +kernel
set_option maxRecDepth 20000 in
theorem ggX4_began_X4_noBeginning : GoodIn wsX4_began wsX4_noBeginning := goodIn_r _ [4, 5, 6, 3, 7] (by decide +kernel) (by decide +kernel)
set_option maxRecDepth 20000 in
theorem gX4_began_X4_noBeginning : GoodIn wsX4_began (va_wsS RX4 233 yX4_noBeginning wsX4_noBeginning) := goodIn_app (goodIn_of _ (by decide +kernel)) ggX4_began_X4_noBeginning
set_option maxRecDepth 20000 in
theorem ggX4_began_X4_timesOf : GoodIn wsX4_began wsX4_timesOf := goodIn_r _ [11, 12, 13, 14, 15, 16, 17, 18, 19, 20, 3, 21, 22, 23, 24, 25, 26, 27, 28, 29, 30, 31, 32, 33, 34, 35, 36, 37, 38, 39, 40, 41, 42, 43, 44, 45, 46, 47, 48, 49, 50, 51, 52, 53, 54, 55, 56, 57, 58, 59, 60, 61, 62, 63, 64, 65, 66, 67, 68, 69, 70, 71, 72, 73, 74, 75, 76, 77, 78, 79, 80, 81, 82, 83, 84, 85, 86, 87, 88, 89, 90, 91, 92, 93, 94, 95, 96, 97, 98, 99, 100, 101, 102, 103, 104, 105, 106, 107, 108, 109, 110, 111, 112, 113, 114, 115, 116, 117, 118, 119, 120, 121, 122, 123, 124, 125, 126, 127, 128, 129, 130, 131, 132, 133, 134, 135, 136, 137, 138, 139, 140, 141, 142, 143, 144, 145, 146, 147, 148, 149, 150, 151, 152, 153, 6, 7, 154, 155, 156, 157, 158, 159, 160, 161, 162, 163, 164, 165, 166, 167, 168, 169, 170, 171, 172, 173, 174, 175, 176, 177, 178, 179, 180, 181, 182, 183, 184, 185, 186, 187, 188, 189, 190, 191, 192, 193, 194, 195, 196, 197, 198, 199] (by decide +kernel) (by decide +kernel)
set_option maxRecDepth 20000 in
theorem gX4_began_X4_timesOf : GoodIn wsX4_began (wsV RX4 236 RX4 yX4_timesOf wsX4_timesOf) := goodIn_app (goodIn_of _ (by decide +kernel)) ggX4_began_X4_timesOf
theorem dX4_began_0 : decode cX4_began 0 = .ok (.iload_n 1, 1) := by decide +kernel
theorem dX4_began_1 : decode cX4_began 1 = .ok (.iload_n 2, 1) := by decide +kernel
theorem dX4_began_2 : decode cX4_began 2 = .ok (.iload_n 3, 1) := by decide +kernel
theorem dX4_began_3 : decode cX4_began 3 = .ok (.invokestatic 233, 3) := by decide +kernel
theorem dX4_began_6 : decode cX4_began 6 = .ok (.ifCond .eq 5, 3) := by decide +kernel
theorem dX4_began_9 : decode cX4_began 9 = .ok (.iconst (-1), 1) := by decide +kernel
theorem dX4_began_10 : decode cX4_began 10 = .ok (.ireturn, 1) := by decide +kernel
theorem dX4_began_11 : decode cX4_began 11 = .ok (.aload_n 0, 1) := by decide +kernel
theorem dX4_began_12 : decode cX4_began 12 = .ok (.iload_n 3, 1) := by decide +kernel
theorem dX4_began_13 : decode cX4_began 13 = .ok (.iload_n 1, 1) := by decide +kernel
theorem dX4_began_14 : decode cX4_began 14 = .ok (.iload_n 2, 1) := by decide +kernel
theorem dX4_began_15 : decode cX4_began 15 = .ok (.invokevirtual 236, 3) := by decide +kernel
theorem dX4_began_18 : decode cX4_began 18 = .ok (.ireturn, 1) := by decide +kernel
set_option maxRecDepth 20000 in
theorem ggX4_why_X4_noBeginning : GoodIn wsX4_why wsX4_noBeginning := goodIn_r _ [8, 9, 10, 7, 11] (by decide +kernel) (by decide +kernel)
set_option maxRecDepth 20000 in
theorem gX4_why_X4_noBeginning : GoodIn wsX4_why (va_wsS RX4 233 yX4_noBeginning wsX4_noBeginning) := goodIn_app (goodIn_of _ (by decide +kernel)) ggX4_why_X4_noBeginning
set_option maxRecDepth 20000 in
theorem ggX4_why_X4_outside : GoodIn wsX4_why wsX4_outside := goodIn_r _ [11] (by decide +kernel) (by decide +kernel)
set_option maxRecDepth 20000 in
theorem gX4_why_X4_outside : GoodIn wsX4_why (va_wsS RX4 65 yX4_outside wsX4_outside) := goodIn_app (goodIn_of _ (by decide +kernel)) ggX4_why_X4_outside
set_option maxRecDepth 20000 in
theorem ggX4_why_X4_timesOf : GoodIn wsX4_why wsX4_timesOf := goodIn_r _ [15, 16, 17, 18, 19, 20, 21, 22, 23, 24, 7, 25, 26, 27, 28, 29, 3, 30, 31, 1, 2, 4, 32, 33, 34, 35, 36, 37, 38, 39, 40, 41, 42, 43, 44, 45, 46, 47, 48, 49, 50, 51, 52, 53, 54, 55, 56, 57, 58, 59, 60, 61, 62, 63, 64, 65, 66, 67, 68, 69, 70, 71, 72, 73, 74, 75, 76, 77, 78, 79, 80, 81, 82, 83, 84, 85, 86, 87, 88, 89, 90, 91, 92, 93, 94, 95, 96, 97, 98, 99, 100, 101, 102, 103, 104, 105, 106, 107, 108, 109, 110, 111, 112, 113, 114, 115, 116, 117, 118, 119, 120, 121, 122, 123, 124, 125, 126, 127, 128, 129, 130, 131, 132, 133, 134, 135, 136, 137, 138, 139, 140, 141, 142, 143, 144, 145, 146, 147, 148, 149, 150, 151, 152, 153, 10, 11, 154, 155, 156, 160, 161, 162, 163, 164, 165, 166, 167, 168, 169, 170, 171, 172, 173, 174, 175, 176, 177, 178, 179, 180, 181, 182, 183, 184, 185, 186, 187, 188, 189, 190, 191, 192, 193, 194, 195, 196, 197, 198, 199, 200, 201, 202] (by decide +kernel) (by decide +kernel)
set_option maxRecDepth 20000 in
theorem gX4_why_X4_timesOf : GoodIn wsX4_why (wsV RX4 236 RX4 yX4_timesOf wsX4_timesOf) := goodIn_app (goodIn_of _ (by decide +kernel)) ggX4_why_X4_timesOf
set_option maxRecDepth 20000 in
theorem ggX4_why_X4_commonDivisor : GoodIn wsX4_why wsX4_commonDivisor := goodIn_r _ [159] (by decide +kernel) (by decide +kernel)
set_option maxRecDepth 20000 in
theorem gX4_why_X4_commonDivisor : GoodIn wsX4_why (va_wsS RX4 239 yX4_commonDivisor wsX4_commonDivisor) := goodIn_app (goodIn_of _ (by decide +kernel)) ggX4_why_X4_commonDivisor
theorem dX4_why_0 : decode cX4_why 0 = .ok (.iload_n 1, 1) := by decide +kernel
theorem dX4_why_1 : decode cX4_why 1 = .ok (.iload_n 2, 1) := by decide +kernel
theorem dX4_why_2 : decode cX4_why 2 = .ok (.iload_n 3, 1) := by decide +kernel
theorem dX4_why_3 : decode cX4_why 3 = .ok (.invokestatic 233, 3) := by decide +kernel
theorem dX4_why_6 : decode cX4_why 6 = .ok (.ifCond .ne 13, 3) := by decide +kernel
theorem dX4_why_9 : decode cX4_why 9 = .ok (.iload 4, 2) := by decide +kernel
theorem dX4_why_11 : decode cX4_why 11 = .ok (.iconst 0, 1) := by decide +kernel
theorem dX4_why_12 : decode cX4_why 12 = .ok (.iconst 1, 1) := by decide +kernel
theorem dX4_why_13 : decode cX4_why 13 = .ok (.invokestatic 65, 3) := by decide +kernel
theorem dX4_why_16 : decode cX4_why 16 = .ok (.ifCond .eq 5, 3) := by decide +kernel
theorem dX4_why_19 : decode cX4_why 19 = .ok (.iconst (-1), 1) := by decide +kernel
theorem dX4_why_20 : decode cX4_why 20 = .ok (.ireturn, 1) := by decide +kernel
theorem dX4_why_21 : decode cX4_why 21 = .ok (.iconst 0, 1) := by decide +kernel
theorem dX4_why_22 : decode cX4_why 22 = .ok (.istore 5, 2) := by decide +kernel
theorem dX4_why_24 : decode cX4_why 24 = .ok (.iconst 0, 1) := by decide +kernel
theorem dX4_why_25 : decode cX4_why 25 = .ok (.istore 6, 2) := by decide +kernel
theorem dX4_why_27 : decode cX4_why 27 = .ok (.iconst 0, 1) := by decide +kernel
theorem dX4_why_28 : decode cX4_why 28 = .ok (.istore 7, 2) := by decide +kernel
theorem dX4_why_30 : decode cX4_why 30 = .ok (.iload 7, 2) := by decide +kernel
theorem dX4_why_32 : decode cX4_why 32 = .ok (.iconst 5, 1) := by decide +kernel
theorem dX4_why_33 : decode cX4_why 33 = .ok (.if_icmp .ge 36, 3) := by decide +kernel
theorem dX4_why_36 : decode cX4_why 36 = .ok (.aload_n 0, 1) := by decide +kernel
theorem dX4_why_37 : decode cX4_why 37 = .ok (.iload 7, 2) := by decide +kernel
theorem dX4_why_39 : decode cX4_why 39 = .ok (.iload_n 1, 1) := by decide +kernel
theorem dX4_why_40 : decode cX4_why 40 = .ok (.iload_n 2, 1) := by decide +kernel
theorem dX4_why_41 : decode cX4_why 41 = .ok (.invokevirtual 236, 3) := by decide +kernel
theorem dX4_why_44 : decode cX4_why 44 = .ok (.istore 8, 2) := by decide +kernel
theorem dX4_why_46 : decode cX4_why 46 = .ok (.iload 5, 2) := by decide +kernel
theorem dX4_why_48 : decode cX4_why 48 = .ok (.iload 8, 2) := by decide +kernel
theorem dX4_why_50 : decode cX4_why 50 = .ok (.iadd, 1) := by decide +kernel
theorem dX4_why_51 : decode cX4_why 51 = .ok (.istore 5, 2) := by decide +kernel
theorem dX4_why_53 : decode cX4_why 53 = .ok (.iload 7, 2) := by decide +kernel
theorem dX4_why_55 : decode cX4_why 55 = .ok (.iload_n 3, 1) := by decide +kernel
theorem dX4_why_56 : decode cX4_why 56 = .ok (.if_icmp .ne 7, 3) := by decide +kernel
theorem dX4_why_59 : decode cX4_why 59 = .ok (.iload 8, 2) := by decide +kernel
theorem dX4_why_61 : decode cX4_why 61 = .ok (.istore 6, 2) := by decide +kernel
theorem dX4_why_63 : decode cX4_why 63 = .ok (.iinc 7 1, 3) := by decide +kernel
theorem dX4_why_66 : decode cX4_why 66 = .ok (.goto (-36), 3) := by decide +kernel
theorem dX4_why_69 : decode cX4_why 69 = .ok (.iload 5, 2) := by decide +kernel
theorem dX4_why_71 : decode cX4_why 71 = .ok (.ifCond .gt 6, 3) := by decide +kernel
theorem dX4_why_74 : decode cX4_why 74 = .ok (.bipush (-2), 2) := by decide +kernel
theorem dX4_why_76 : decode cX4_why 76 = .ok (.ireturn, 1) := by decide +kernel
theorem dX4_why_77 : decode cX4_why 77 = .ok (.iconst 1, 1) := by decide +kernel
theorem dX4_why_78 : decode cX4_why 78 = .ok (.iload 6, 2) := by decide +kernel
theorem dX4_why_80 : decode cX4_why 80 = .ok (.iload 5, 2) := by decide +kernel
theorem dX4_why_82 : decode cX4_why 82 = .ok (.invokestatic 239, 3) := by decide +kernel
theorem dX4_why_85 : decode cX4_why 85 = .ok (.invokestatic 242, 3) := by decide +kernel
theorem dX4_why_88 : decode cX4_why 88 = .ok (.istore 7, 2) := by decide +kernel
theorem dX4_why_90 : decode cX4_why 90 = .ok (.iload 4, 2) := by decide +kernel
theorem dX4_why_92 : decode cX4_why 92 = .ok (.ifCond .ne 11, 3) := by decide +kernel
theorem dX4_why_95 : decode cX4_why 95 = .ok (.iload 6, 2) := by decide +kernel
theorem dX4_why_97 : decode cX4_why 97 = .ok (.iload 7, 2) := by decide +kernel
theorem dX4_why_99 : decode cX4_why 99 = .ok (.idiv, 1) := by decide +kernel
theorem dX4_why_100 : decode cX4_why 100 = .ok (.goto 8, 3) := by decide +kernel
theorem dX4_why_103 : decode cX4_why 103 = .ok (.iload 5, 2) := by decide +kernel
theorem dX4_why_105 : decode cX4_why 105 = .ok (.iload 7, 2) := by decide +kernel
theorem dX4_why_107 : decode cX4_why 107 = .ok (.idiv, 1) := by decide +kernel
theorem dX4_why_108 : decode cX4_why 108 = .ok (.ireturn, 1) := by decide +kernel
set_option maxRecDepth 20000 in
theorem ggX4_dried_X4_noDrying : GoodIn wsX4_dried wsX4_noDrying := goodIn_r _ [5, 6, 7, 4, 8] (by decide +kernel) (by decide +kernel)
set_option maxRecDepth 20000 in
theorem gX4_dried_X4_noDrying : GoodIn wsX4_dried (va_wsS RX4 247 yX4_noDrying wsX4_noDrying) := goodIn_app (goodIn_of _ (by decide +kernel)) ggX4_dried_X4_noDrying
set_option maxRecDepth 20000 in
theorem ggX4_dried_X4_outside : GoodIn wsX4_dried wsX4_outside := goodIn_r _ [8] (by decide +kernel) (by decide +kernel)
set_option maxRecDepth 20000 in
theorem gX4_dried_X4_outside : GoodIn wsX4_dried (va_wsS RX4 65 yX4_outside wsX4_outside) := goodIn_app (goodIn_of _ (by decide +kernel)) ggX4_dried_X4_outside
set_option maxRecDepth 20000 in
theorem ggX4_dried_X4_dryUntil : GoodIn wsX4_dried wsX4_dryUntil := goodIn_r _ [12, 1, 13, 14, 15, 16, 17, 18, 19, 20, 21, 22, 23, 24, 25, 26, 27, 28, 29, 30] (by decide +kernel) (by decide +kernel)
set_option maxRecDepth 20000 in
theorem gX4_dried_X4_dryUntil : GoodIn wsX4_dried (wsV RX4 250 RX4 yX4_dryUntil wsX4_dryUntil) := goodIn_app (goodIn_of _ (by decide +kernel)) ggX4_dried_X4_dryUntil
theorem dX4_dried_0 : decode cX4_dried 0 = .ok (.iload_n 1, 1) := by decide +kernel
theorem dX4_dried_1 : decode cX4_dried 1 = .ok (.iload_n 2, 1) := by decide +kernel
theorem dX4_dried_2 : decode cX4_dried 2 = .ok (.iload_n 3, 1) := by decide +kernel
theorem dX4_dried_3 : decode cX4_dried 3 = .ok (.invokestatic 247, 3) := by decide +kernel
theorem dX4_dried_6 : decode cX4_dried 6 = .ok (.ifCond .ne 15, 3) := by decide +kernel
theorem dX4_dried_9 : decode cX4_dried 9 = .ok (.iload 4, 2) := by decide +kernel
theorem dX4_dried_11 : decode cX4_dried 11 = .ok (.iconst 0, 1) := by decide +kernel
theorem dX4_dried_12 : decode cX4_dried 12 = .ok (.sipush 200, 3) := by decide +kernel
theorem dX4_dried_15 : decode cX4_dried 15 = .ok (.invokestatic 65, 3) := by decide +kernel
theorem dX4_dried_18 : decode cX4_dried 18 = .ok (.ifCond .eq 5, 3) := by decide +kernel
theorem dX4_dried_21 : decode cX4_dried 21 = .ok (.iconst (-1), 1) := by decide +kernel
theorem dX4_dried_22 : decode cX4_dried 22 = .ok (.ireturn, 1) := by decide +kernel
theorem dX4_dried_23 : decode cX4_dried 23 = .ok (.aload_n 0, 1) := by decide +kernel
theorem dX4_dried_24 : decode cX4_dried 24 = .ok (.iload_n 1, 1) := by decide +kernel
theorem dX4_dried_25 : decode cX4_dried 25 = .ok (.iload_n 2, 1) := by decide +kernel
theorem dX4_dried_26 : decode cX4_dried 26 = .ok (.iload_n 3, 1) := by decide +kernel
theorem dX4_dried_27 : decode cX4_dried 27 = .ok (.iload 4, 2) := by decide +kernel
theorem dX4_dried_29 : decode cX4_dried 29 = .ok (.iconst (-1), 1) := by decide +kernel
theorem dX4_dried_30 : decode cX4_dried 30 = .ok (.invokevirtual 250, 3) := by decide +kernel
theorem dX4_dried_33 : decode cX4_dried 33 = .ok (.pop, 1) := by decide +kernel
theorem dX4_dried_34 : decode cX4_dried 34 = .ok (.aload_n 0, 1) := by decide +kernel
theorem dX4_dried_35 : decode cX4_dried 35 = .ok (.getfield 254, 3) := by decide +kernel
theorem dX4_dried_38 : decode cX4_dried 38 = .ok (.ireturn, 1) := by decide +kernel
set_option maxRecDepth 20000 in
theorem ggX4_days_X4_noDrying : GoodIn wsX4_days wsX4_noDrying := goodIn_r _ [5, 6, 7, 4, 8] (by decide +kernel) (by decide +kernel)
set_option maxRecDepth 20000 in
theorem gX4_days_X4_noDrying : GoodIn wsX4_days (va_wsS RX4 247 yX4_noDrying wsX4_noDrying) := goodIn_app (goodIn_of _ (by decide +kernel)) ggX4_days_X4_noDrying
set_option maxRecDepth 20000 in
theorem ggX4_days_X4_outside : GoodIn wsX4_days wsX4_outside := goodIn_r _ [8] (by decide +kernel) (by decide +kernel)
set_option maxRecDepth 20000 in
theorem gX4_days_X4_outside : GoodIn wsX4_days (va_wsS RX4 65 yX4_outside wsX4_outside) := goodIn_app (goodIn_of _ (by decide +kernel)) ggX4_days_X4_outside
set_option maxRecDepth 20000 in
theorem ggX4_days_X4_dryUntil : GoodIn wsX4_days wsX4_dryUntil := goodIn_r _ [12, 1, 13, 14, 15, 16, 17, 18, 19, 20, 21, 22, 23, 24, 25, 26, 27, 28, 29, 30] (by decide +kernel) (by decide +kernel)
set_option maxRecDepth 20000 in
theorem gX4_days_X4_dryUntil : GoodIn wsX4_days (wsV RX4 250 RX4 yX4_dryUntil wsX4_dryUntil) := goodIn_app (goodIn_of _ (by decide +kernel)) ggX4_days_X4_dryUntil
theorem dX4_days_0 : decode cX4_days 0 = .ok (.iload_n 1, 1) := by decide +kernel
theorem dX4_days_1 : decode cX4_days 1 = .ok (.iload_n 2, 1) := by decide +kernel
theorem dX4_days_2 : decode cX4_days 2 = .ok (.iload_n 3, 1) := by decide +kernel
theorem dX4_days_3 : decode cX4_days 3 = .ok (.invokestatic 247, 3) := by decide +kernel
theorem dX4_days_6 : decode cX4_days 6 = .ok (.ifCond .ne 15, 3) := by decide +kernel
theorem dX4_days_9 : decode cX4_days 9 = .ok (.iload 4, 2) := by decide +kernel
theorem dX4_days_11 : decode cX4_days 11 = .ok (.iconst 0, 1) := by decide +kernel
theorem dX4_days_12 : decode cX4_days 12 = .ok (.sipush 9999, 3) := by decide +kernel
theorem dX4_days_15 : decode cX4_days 15 = .ok (.invokestatic 65, 3) := by decide +kernel
theorem dX4_days_18 : decode cX4_days 18 = .ok (.ifCond .eq 5, 3) := by decide +kernel
theorem dX4_days_21 : decode cX4_days 21 = .ok (.iconst (-1), 1) := by decide +kernel
theorem dX4_days_22 : decode cX4_days 22 = .ok (.ireturn, 1) := by decide +kernel
theorem dX4_days_23 : decode cX4_days 23 = .ok (.aload_n 0, 1) := by decide +kernel
theorem dX4_days_24 : decode cX4_days 24 = .ok (.iload_n 1, 1) := by decide +kernel
theorem dX4_days_25 : decode cX4_days 25 = .ok (.iload_n 2, 1) := by decide +kernel
theorem dX4_days_26 : decode cX4_days 26 = .ok (.iload_n 3, 1) := by decide +kernel
theorem dX4_days_27 : decode cX4_days 27 = .ok (.sipush 200, 3) := by decide +kernel
theorem dX4_days_30 : decode cX4_days 30 = .ok (.iload 4, 2) := by decide +kernel
theorem dX4_days_32 : decode cX4_days 32 = .ok (.invokevirtual 250, 3) := by decide +kernel
theorem dX4_days_35 : decode cX4_days 35 = .ok (.istore 5, 2) := by decide +kernel
theorem dX4_days_37 : decode cX4_days 37 = .ok (.aload_n 0, 1) := by decide +kernel
theorem dX4_days_38 : decode cX4_days 38 = .ok (.getfield 254, 3) := by decide +kernel
theorem dX4_days_41 : decode cX4_days 41 = .ok (.iload 4, 2) := by decide +kernel
theorem dX4_days_43 : decode cX4_days 43 = .ok (.if_icmp .gt 8, 3) := by decide +kernel
theorem dX4_days_46 : decode cX4_days 46 = .ok (.iload 5, 2) := by decide +kernel
theorem dX4_days_48 : decode cX4_days 48 = .ok (.goto 5, 3) := by decide +kernel
theorem dX4_days_51 : decode cX4_days 51 = .ok (.bipush (-9), 2) := by decide +kernel
theorem dX4_days_53 : decode cX4_days 53 = .ok (.ireturn, 1) := by decide +kernel
set_option maxRecDepth 20000 in
theorem ggX4_test_X4_outside : GoodIn wsX4_test wsX4_outside := goodIn_r _ [7] (by decide +kernel) (by decide +kernel)
set_option maxRecDepth 20000 in
theorem gX4_test_X4_outside : GoodIn wsX4_test (va_wsS RX4 65 yX4_outside wsX4_outside) := goodIn_app (goodIn_of _ (by decide +kernel)) ggX4_test_X4_outside
theorem dX4_test_0 : decode cX4_test 0 = .ok (.iload_n 1, 1) := by decide +kernel
theorem dX4_test_1 : decode cX4_test 1 = .ok (.iconst 0, 1) := by decide +kernel
theorem dX4_test_2 : decode cX4_test 2 = .ok (.bipush 30, 2) := by decide +kernel
theorem dX4_test_4 : decode cX4_test 4 = .ok (.invokestatic 65, 3) := by decide +kernel
theorem dX4_test_7 : decode cX4_test 7 = .ok (.ifCond .ne 14, 3) := by decide +kernel
theorem dX4_test_10 : decode cX4_test 10 = .ok (.iload_n 2, 1) := by decide +kernel
theorem dX4_test_11 : decode cX4_test 11 = .ok (.iconst 0, 1) := by decide +kernel
theorem dX4_test_12 : decode cX4_test 12 = .ok (.sipush 999, 3) := by decide +kernel
theorem dX4_test_15 : decode cX4_test 15 = .ok (.invokestatic 65, 3) := by decide +kernel
theorem dX4_test_18 : decode cX4_test 18 = .ok (.ifCond .eq 5, 3) := by decide +kernel
theorem dX4_test_21 : decode cX4_test 21 = .ok (.iconst (-1), 1) := by decide +kernel
theorem dX4_test_22 : decode cX4_test 22 = .ok (.ireturn, 1) := by decide +kernel
theorem dX4_test_23 : decode cX4_test 23 = .ok (.aload_n 0, 1) := by decide +kernel
theorem dX4_test_24 : decode cX4_test 24 = .ok (.getfield 257, 3) := by decide +kernel
theorem dX4_test_27 : decode cX4_test 27 = .ok (.iconst 0, 1) := by decide +kernel
theorem dX4_test_28 : decode cX4_test 28 = .ok (.bipush 19, 2) := by decide +kernel
theorem dX4_test_30 : decode cX4_test 30 = .ok (.invokestatic 65, 3) := by decide +kernel
theorem dX4_test_33 : decode cX4_test 33 = .ok (.ifCond .eq 6, 3) := by decide +kernel
theorem dX4_test_36 : decode cX4_test 36 = .ok (.bipush (-3), 2) := by decide +kernel
theorem dX4_test_38 : decode cX4_test 38 = .ok (.ireturn, 1) := by decide +kernel
theorem dX4_test_39 : decode cX4_test 39 = .ok (.aload_n 0, 1) := by decide +kernel
theorem dX4_test_40 : decode cX4_test 40 = .ok (.getfield 55, 3) := by decide +kernel
theorem dX4_test_43 : decode cX4_test 43 = .ok (.aload_n 0, 1) := by decide +kernel
theorem dX4_test_44 : decode cX4_test 44 = .ok (.getfield 257, 3) := by decide +kernel
theorem dX4_test_47 : decode cX4_test 47 = .ok (.iload_n 1, 1) := by decide +kernel
theorem dX4_test_48 : decode cX4_test 48 = .ok (.iastore, 1) := by decide +kernel
theorem dX4_test_49 : decode cX4_test 49 = .ok (.aload_n 0, 1) := by decide +kernel
theorem dX4_test_50 : decode cX4_test 50 = .ok (.getfield 58, 3) := by decide +kernel
theorem dX4_test_53 : decode cX4_test 53 = .ok (.aload_n 0, 1) := by decide +kernel
theorem dX4_test_54 : decode cX4_test 54 = .ok (.getfield 257, 3) := by decide +kernel
theorem dX4_test_57 : decode cX4_test 57 = .ok (.iload_n 2, 1) := by decide +kernel
theorem dX4_test_58 : decode cX4_test 58 = .ok (.iastore, 1) := by decide +kernel
theorem dX4_test_59 : decode cX4_test 59 = .ok (.aload_n 0, 1) := by decide +kernel
theorem dX4_test_60 : decode cX4_test 60 = .ok (.dup, 1) := by decide +kernel
theorem dX4_test_61 : decode cX4_test 61 = .ok (.getfield 257, 3) := by decide +kernel
theorem dX4_test_64 : decode cX4_test 64 = .ok (.iconst 1, 1) := by decide +kernel
theorem dX4_test_65 : decode cX4_test 65 = .ok (.iadd, 1) := by decide +kernel
theorem dX4_test_66 : decode cX4_test 66 = .ok (.putfield 257, 3) := by decide +kernel
theorem dX4_test_69 : decode cX4_test 69 = .ok (.aload_n 0, 1) := by decide +kernel
theorem dX4_test_70 : decode cX4_test 70 = .ok (.getfield 257, 3) := by decide +kernel
theorem dX4_test_73 : decode cX4_test 73 = .ok (.ireturn, 1) := by decide +kernel
set_option maxRecDepth 20000 in
theorem ggX4_holds_X4_outside : GoodIn wsX4_holds wsX4_outside := goodIn_r _ [14] (by decide +kernel) (by decide +kernel)
set_option maxRecDepth 20000 in
theorem gX4_holds_X4_outside : GoodIn wsX4_holds (va_wsS RX4 65 yX4_outside wsX4_outside) := goodIn_app (goodIn_of _ (by decide +kernel)) ggX4_holds_X4_outside
theorem dX4_holds_0 : decode cX4_holds 0 = .ok (.iload_n 1, 1) := by decide +kernel
theorem dX4_holds_1 : decode cX4_holds 1 = .ok (.iconst 0, 1) := by decide +kernel
theorem dX4_holds_2 : decode cX4_holds 2 = .ok (.iconst 2, 1) := by decide +kernel
theorem dX4_holds_3 : decode cX4_holds 3 = .ok (.invokestatic 65, 3) := by decide +kernel
theorem dX4_holds_6 : decode cX4_holds 6 = .ok (.ifCond .eq 5, 3) := by decide +kernel
theorem dX4_holds_9 : decode cX4_holds 9 = .ok (.iconst (-1), 1) := by decide +kernel
theorem dX4_holds_10 : decode cX4_holds 10 = .ok (.ireturn, 1) := by decide +kernel
theorem dX4_holds_11 : decode cX4_holds 11 = .ok (.bipush (-9), 2) := by decide +kernel
theorem dX4_holds_13 : decode cX4_holds 13 = .ok (.istore_n 2, 1) := by decide +kernel
theorem dX4_holds_14 : decode cX4_holds 14 = .ok (.bipush (-9), 2) := by decide +kernel
theorem dX4_holds_16 : decode cX4_holds 16 = .ok (.istore_n 3, 1) := by decide +kernel
theorem dX4_holds_17 : decode cX4_holds 17 = .ok (.iconst 0, 1) := by decide +kernel
theorem dX4_holds_18 : decode cX4_holds 18 = .ok (.istore 4, 2) := by decide +kernel
theorem dX4_holds_20 : decode cX4_holds 20 = .ok (.iload 4, 2) := by decide +kernel
theorem dX4_holds_22 : decode cX4_holds 22 = .ok (.aload_n 0, 1) := by decide +kernel
theorem dX4_holds_23 : decode cX4_holds 23 = .ok (.getfield 257, 3) := by decide +kernel
theorem dX4_holds_26 : decode cX4_holds 26 = .ok (.if_icmp .ge 71, 3) := by decide +kernel
theorem dX4_holds_29 : decode cX4_holds 29 = .ok (.iload 4, 2) := by decide +kernel
theorem dX4_holds_31 : decode cX4_holds 31 = .ok (.bipush 20, 2) := by decide +kernel
theorem dX4_holds_33 : decode cX4_holds 33 = .ok (.if_icmp .ge 64, 3) := by decide +kernel
theorem dX4_holds_36 : decode cX4_holds 36 = .ok (.aload_n 0, 1) := by decide +kernel
theorem dX4_holds_37 : decode cX4_holds 37 = .ok (.getfield 58, 3) := by decide +kernel
theorem dX4_holds_40 : decode cX4_holds 40 = .ok (.iload 4, 2) := by decide +kernel
theorem dX4_holds_42 : decode cX4_holds 42 = .ok (.iaload, 1) := by decide +kernel
theorem dX4_holds_43 : decode cX4_holds 43 = .ok (.bipush 100, 2) := by decide +kernel
theorem dX4_holds_45 : decode cX4_holds 45 = .ok (.if_icmp .gt 34, 3) := by decide +kernel
theorem dX4_holds_48 : decode cX4_holds 48 = .ok (.iload_n 2, 1) := by decide +kernel
theorem dX4_holds_49 : decode cX4_holds 49 = .ok (.bipush (-9), 2) := by decide +kernel
theorem dX4_holds_51 : decode cX4_holds 51 = .ok (.if_icmp .ne 13, 3) := by decide +kernel
theorem dX4_holds_54 : decode cX4_holds 54 = .ok (.aload_n 0, 1) := by decide +kernel
theorem dX4_holds_55 : decode cX4_holds 55 = .ok (.getfield 55, 3) := by decide +kernel
theorem dX4_holds_58 : decode cX4_holds 58 = .ok (.iload 4, 2) := by decide +kernel
theorem dX4_holds_60 : decode cX4_holds 60 = .ok (.iaload, 1) := by decide +kernel
theorem dX4_holds_61 : decode cX4_holds 61 = .ok (.goto 14, 3) := by decide +kernel
theorem dX4_holds_64 : decode cX4_holds 64 = .ok (.iload_n 2, 1) := by decide +kernel
theorem dX4_holds_65 : decode cX4_holds 65 = .ok (.aload_n 0, 1) := by decide +kernel
theorem dX4_holds_66 : decode cX4_holds 66 = .ok (.getfield 55, 3) := by decide +kernel
theorem dX4_holds_69 : decode cX4_holds 69 = .ok (.iload 4, 2) := by decide +kernel
theorem dX4_holds_71 : decode cX4_holds 71 = .ok (.iaload, 1) := by decide +kernel
theorem dX4_holds_72 : decode cX4_holds 72 = .ok (.invokestatic 260, 3) := by decide +kernel
theorem dX4_holds_75 : decode cX4_holds 75 = .ok (.istore_n 2, 1) := by decide +kernel
theorem dX4_holds_76 : decode cX4_holds 76 = .ok (.goto 15, 3) := by decide +kernel
theorem dX4_holds_79 : decode cX4_holds 79 = .ok (.iload_n 3, 1) := by decide +kernel
theorem dX4_holds_80 : decode cX4_holds 80 = .ok (.aload_n 0, 1) := by decide +kernel
theorem dX4_holds_81 : decode cX4_holds 81 = .ok (.getfield 55, 3) := by decide +kernel
theorem dX4_holds_84 : decode cX4_holds 84 = .ok (.iload 4, 2) := by decide +kernel
theorem dX4_holds_86 : decode cX4_holds 86 = .ok (.iaload, 1) := by decide +kernel
theorem dX4_holds_87 : decode cX4_holds 87 = .ok (.invokestatic 242, 3) := by decide +kernel
theorem dX4_holds_90 : decode cX4_holds 90 = .ok (.istore_n 3, 1) := by decide +kernel
theorem dX4_holds_91 : decode cX4_holds 91 = .ok (.iinc 4 1, 3) := by decide +kernel
theorem dX4_holds_94 : decode cX4_holds 94 = .ok (.goto (-74), 3) := by decide +kernel
theorem dX4_holds_97 : decode cX4_holds 97 = .ok (.iload_n 1, 1) := by decide +kernel
theorem dX4_holds_98 : decode cX4_holds 98 = .ok (.iconst 2, 1) := by decide +kernel
theorem dX4_holds_99 : decode cX4_holds 99 = .ok (.if_icmp .ne 26, 3) := by decide +kernel
theorem dX4_holds_102 : decode cX4_holds 102 = .ok (.iload_n 2, 1) := by decide +kernel
theorem dX4_holds_103 : decode cX4_holds 103 = .ok (.bipush (-9), 2) := by decide +kernel
theorem dX4_holds_105 : decode cX4_holds 105 = .ok (.if_icmp .eq 14, 3) := by decide +kernel
theorem dX4_holds_108 : decode cX4_holds 108 = .ok (.iload_n 3, 1) := by decide +kernel
theorem dX4_holds_109 : decode cX4_holds 109 = .ok (.bipush (-9), 2) := by decide +kernel
theorem dX4_holds_111 : decode cX4_holds 111 = .ok (.if_icmp .eq 8, 3) := by decide +kernel
theorem dX4_holds_114 : decode cX4_holds 114 = .ok (.iload_n 3, 1) := by decide +kernel
theorem dX4_holds_115 : decode cX4_holds 115 = .ok (.iload_n 2, 1) := by decide +kernel
theorem dX4_holds_116 : decode cX4_holds 116 = .ok (.if_icmp .ge 7, 3) := by decide +kernel
theorem dX4_holds_119 : decode cX4_holds 119 = .ok (.iconst 1, 1) := by decide +kernel
theorem dX4_holds_120 : decode cX4_holds 120 = .ok (.goto 4, 3) := by decide +kernel
theorem dX4_holds_123 : decode cX4_holds 123 = .ok (.iconst 0, 1) := by decide +kernel
theorem dX4_holds_124 : decode cX4_holds 124 = .ok (.ireturn, 1) := by decide +kernel
theorem dX4_holds_125 : decode cX4_holds 125 = .ok (.iload_n 1, 1) := by decide +kernel
theorem dX4_holds_126 : decode cX4_holds 126 = .ok (.ifCond .ne 7, 3) := by decide +kernel
theorem dX4_holds_129 : decode cX4_holds 129 = .ok (.iload_n 2, 1) := by decide +kernel
theorem dX4_holds_130 : decode cX4_holds 130 = .ok (.goto 4, 3) := by decide +kernel
theorem dX4_holds_133 : decode cX4_holds 133 = .ok (.iload_n 3, 1) := by decide +kernel
theorem dX4_holds_134 : decode cX4_holds 134 = .ok (.ireturn, 1) := by decide +kernel
set_option maxRecDepth 20000 in
theorem ggX4_tube_X4_outside : GoodIn wsX4_tube wsX4_outside := goodIn_r _ [4] (by decide +kernel) (by decide +kernel)
set_option maxRecDepth 20000 in
theorem gX4_tube_X4_outside : GoodIn wsX4_tube (va_wsS RX4 65 yX4_outside wsX4_outside) := goodIn_app (goodIn_of _ (by decide +kernel)) ggX4_tube_X4_outside
theorem dX4_tube_0 : decode cX4_tube 0 = .ok (.iload_n 1, 1) := by decide +kernel
theorem dX4_tube_1 : decode cX4_tube 1 = .ok (.iconst 1, 1) := by decide +kernel
theorem dX4_tube_2 : decode cX4_tube 2 = .ok (.bipush 99, 2) := by decide +kernel
theorem dX4_tube_4 : decode cX4_tube 4 = .ok (.invokestatic 65, 3) := by decide +kernel
theorem dX4_tube_7 : decode cX4_tube 7 = .ok (.ifCond .ne 23, 3) := by decide +kernel
theorem dX4_tube_10 : decode cX4_tube 10 = .ok (.iload_n 2, 1) := by decide +kernel
theorem dX4_tube_11 : decode cX4_tube 11 = .ok (.iconst 1, 1) := by decide +kernel
theorem dX4_tube_12 : decode cX4_tube 12 = .ok (.sipush 999, 3) := by decide +kernel
theorem dX4_tube_15 : decode cX4_tube 15 = .ok (.invokestatic 65, 3) := by decide +kernel
theorem dX4_tube_18 : decode cX4_tube 18 = .ok (.ifCond .ne 12, 3) := by decide +kernel
theorem dX4_tube_21 : decode cX4_tube 21 = .ok (.iload_n 3, 1) := by decide +kernel
theorem dX4_tube_22 : decode cX4_tube 22 = .ok (.iconst 0, 1) := by decide +kernel
theorem dX4_tube_23 : decode cX4_tube 23 = .ok (.iconst 1, 1) := by decide +kernel
theorem dX4_tube_24 : decode cX4_tube 24 = .ok (.invokestatic 65, 3) := by decide +kernel
theorem dX4_tube_27 : decode cX4_tube 27 = .ok (.ifCond .eq 5, 3) := by decide +kernel
theorem dX4_tube_30 : decode cX4_tube 30 = .ok (.iconst (-1), 1) := by decide +kernel
theorem dX4_tube_31 : decode cX4_tube 31 = .ok (.ireturn, 1) := by decide +kernel
theorem dX4_tube_32 : decode cX4_tube 32 = .ok (.iload_n 3, 1) := by decide +kernel
theorem dX4_tube_33 : decode cX4_tube 33 = .ok (.ifCond .ne 9, 3) := by decide +kernel
theorem dX4_tube_36 : decode cX4_tube 36 = .ok (.iload_n 2, 1) := by decide +kernel
theorem dX4_tube_37 : decode cX4_tube 37 = .ok (.iload_n 1, 1) := by decide +kernel
theorem dX4_tube_38 : decode cX4_tube 38 = .ok (.idiv, 1) := by decide +kernel
theorem dX4_tube_39 : decode cX4_tube 39 = .ok (.goto 8, 3) := by decide +kernel
theorem dX4_tube_42 : decode cX4_tube 42 = .ok (.iconst 2, 1) := by decide +kernel
theorem dX4_tube_43 : decode cX4_tube 43 = .ok (.iload_n 2, 1) := by decide +kernel
theorem dX4_tube_44 : decode cX4_tube 44 = .ok (.imul, 1) := by decide +kernel
theorem dX4_tube_45 : decode cX4_tube 45 = .ok (.iload_n 1, 1) := by decide +kernel
theorem dX4_tube_46 : decode cX4_tube 46 = .ok (.idiv, 1) := by decide +kernel
theorem dX4_tube_47 : decode cX4_tube 47 = .ok (.ireturn, 1) := by decide +kernel
set_option maxRecDepth 20000 in
theorem ggX4_mark_X4_outside : GoodIn wsX4_mark wsX4_outside := goodIn_r _ [5] (by decide +kernel) (by decide +kernel)
set_option maxRecDepth 20000 in
theorem gX4_mark_X4_outside : GoodIn wsX4_mark (va_wsS RX4 65 yX4_outside wsX4_outside) := goodIn_app (goodIn_of _ (by decide +kernel)) ggX4_mark_X4_outside
set_option maxRecDepth 20000 in
theorem ggX4_mark_X4_markEnd : GoodIn wsX4_mark wsX4_markEnd := goodIn_r _ [9, 10, 11, 12, 56, 57, 58, 59, 60, 61, 62, 63, 64, 65, 66, 67, 68, 69, 70, 71, 72, 73, 74, 75, 76, 77, 78, 79, 80] (by decide +kernel) (by decide +kernel)
set_option maxRecDepth 20000 in
theorem gX4_mark_X4_markEnd : GoodIn wsX4_mark (wsV RX4 264 RX4 yX4_markEnd wsX4_markEnd) := goodIn_app (goodIn_of _ (by decide +kernel)) ggX4_mark_X4_markEnd
set_option maxRecDepth 20000 in
theorem ggX4_mark_X4_markWhole : GoodIn wsX4_mark wsX4_markWhole := goodIn_r _ [16, 10, 17, 11, 18, 6, 7, 8, 4, 9, 12, 56, 57, 58, 59, 60, 61, 62, 63, 64, 65, 66, 67, 68, 69, 70, 71, 72, 73, 74, 75, 76, 77, 78, 79, 80] (by decide +kernel) (by decide +kernel)
set_option maxRecDepth 20000 in
theorem gX4_mark_X4_markWhole : GoodIn wsX4_mark (wsV RX4 267 RX4 yX4_markWhole wsX4_markWhole) := goodIn_app (goodIn_of _ (by decide +kernel)) ggX4_mark_X4_markWhole
set_option maxRecDepth 20000 in
theorem ggX4_mark_X4_markSplit : GoodIn wsX4_mark wsX4_markSplit := goodIn_r _ [22, 10, 23, 11, 24, 6, 7, 8, 4, 9, 12, 25, 26, 27, 28, 29, 30, 31, 32, 33, 34, 35, 36, 37, 38, 56, 57, 58, 59, 60, 61, 62, 63, 64, 65, 66, 67, 68, 69, 70, 71, 72, 73, 74, 75, 76, 77, 78, 79, 80, 81, 82, 83, 84, 85, 86, 87, 88, 89, 90, 91, 92, 93] (by decide +kernel) (by decide +kernel)
set_option maxRecDepth 20000 in
theorem gX4_mark_X4_markSplit : GoodIn wsX4_mark (wsV RX4 270 RX4 yX4_markSplit wsX4_markSplit) := goodIn_app (goodIn_of _ (by decide +kernel)) ggX4_mark_X4_markSplit
set_option maxRecDepth 20000 in
theorem ggX4_mark_X4_markCurled : GoodIn wsX4_mark wsX4_markCurled := goodIn_r _ [42, 10, 43, 19, 20, 21, 4, 22, 23, 11, 24, 6, 7, 8, 9, 12, 25, 26, 27, 28, 29, 30, 31, 32, 33, 34, 35, 36, 37, 38, 56, 57, 58, 59, 60, 61, 62, 63, 64, 65, 66, 67, 68, 69, 70, 71, 72, 73, 74, 75, 76, 77, 78, 79, 80, 81, 82, 83, 84, 85, 86, 87, 88, 89, 90, 91, 92, 93] (by decide +kernel) (by decide +kernel)
set_option maxRecDepth 20000 in
theorem gX4_mark_X4_markCurled : GoodIn wsX4_mark (wsV RX4 273 RX4 yX4_markCurled wsX4_markCurled) := goodIn_app (goodIn_of _ (by decide +kernel)) ggX4_mark_X4_markCurled
set_option maxRecDepth 20000 in
theorem ggX4_mark_X4_markPale : GoodIn wsX4_mark wsX4_markPale := goodIn_r _ [47, 10, 48, 11, 49, 13, 14, 15, 4, 16, 17, 18, 6, 7, 8, 9, 12, 56, 57, 58, 59, 60, 61, 62, 63, 64, 65, 66, 67, 68, 69, 70, 71, 72, 73, 74, 75, 76, 77, 78, 79, 80] (by decide +kernel) (by decide +kernel)
set_option maxRecDepth 20000 in
theorem gX4_mark_X4_markPale : GoodIn wsX4_mark (wsV RX4 276 RX4 yX4_markPale wsX4_markPale) := goodIn_app (goodIn_of _ (by decide +kernel)) ggX4_mark_X4_markPale
set_option maxRecDepth 20000 in
theorem ggX4_mark_X4_markDried : GoodIn wsX4_mark wsX4_markDried := goodIn_r _ [53, 10, 54, 11, 55, 6, 7, 8, 4, 9, 12, 56, 57, 58, 59, 60, 61, 62, 63, 64, 65, 66, 67, 68, 69, 70, 71, 72, 73, 74, 75, 76, 77, 78, 79, 80] (by decide +kernel) (by decide +kernel)
set_option maxRecDepth 20000 in
theorem gX4_mark_X4_markDried : GoodIn wsX4_mark (wsV RX4 279 RX4 yX4_markDried wsX4_markDried) := goodIn_app (goodIn_of _ (by decide +kernel)) ggX4_mark_X4_markDried
theorem dX4_mark_0 : decode cX4_mark 0 = .ok (.iload_n 2, 1) := by decide +kernel
theorem dX4_mark_1 : decode cX4_mark 1 = .ok (.iconst 0, 1) := by decide +kernel
theorem dX4_mark_2 : decode cX4_mark 2 = .ok (.iconst 3, 1) := by decide +kernel
theorem dX4_mark_3 : decode cX4_mark 3 = .ok (.invokestatic 65, 3) := by decide +kernel
theorem dX4_mark_6 : decode cX4_mark 6 = .ok (.ifCond .eq 7, 3) := by decide +kernel
theorem dX4_mark_9 : decode cX4_mark 9 = .ok (.ldc_w 263, 3) := by decide +kernel
theorem dX4_mark_12 : decode cX4_mark 12 = .ok (.ireturn, 1) := by decide +kernel
theorem dX4_mark_13 : decode cX4_mark 13 = .ok (.iload_n 1, 1) := by decide +kernel
theorem dX4_mark_14 : decode cX4_mark 14 = .ok (.tableswitch 74 0 5 #[38, 44, 50, 56, 62, 68], 38) := by decide +kernel
theorem dX4_mark_52 : decode cX4_mark 52 = .ok (.aload_n 0, 1) := by decide +kernel
theorem dX4_mark_53 : decode cX4_mark 53 = .ok (.iload_n 2, 1) := by decide +kernel
theorem dX4_mark_54 : decode cX4_mark 54 = .ok (.invokevirtual 264, 3) := by decide +kernel
theorem dX4_mark_57 : decode cX4_mark 57 = .ok (.ireturn, 1) := by decide +kernel
theorem dX4_mark_58 : decode cX4_mark 58 = .ok (.aload_n 0, 1) := by decide +kernel
theorem dX4_mark_59 : decode cX4_mark 59 = .ok (.iload_n 2, 1) := by decide +kernel
theorem dX4_mark_60 : decode cX4_mark 60 = .ok (.invokevirtual 267, 3) := by decide +kernel
theorem dX4_mark_63 : decode cX4_mark 63 = .ok (.ireturn, 1) := by decide +kernel
theorem dX4_mark_64 : decode cX4_mark 64 = .ok (.aload_n 0, 1) := by decide +kernel
theorem dX4_mark_65 : decode cX4_mark 65 = .ok (.iload_n 2, 1) := by decide +kernel
theorem dX4_mark_66 : decode cX4_mark 66 = .ok (.invokevirtual 270, 3) := by decide +kernel
theorem dX4_mark_69 : decode cX4_mark 69 = .ok (.ireturn, 1) := by decide +kernel
theorem dX4_mark_70 : decode cX4_mark 70 = .ok (.aload_n 0, 1) := by decide +kernel
theorem dX4_mark_71 : decode cX4_mark 71 = .ok (.iload_n 2, 1) := by decide +kernel
theorem dX4_mark_72 : decode cX4_mark 72 = .ok (.invokevirtual 273, 3) := by decide +kernel
theorem dX4_mark_75 : decode cX4_mark 75 = .ok (.ireturn, 1) := by decide +kernel
theorem dX4_mark_76 : decode cX4_mark 76 = .ok (.aload_n 0, 1) := by decide +kernel
theorem dX4_mark_77 : decode cX4_mark 77 = .ok (.iload_n 2, 1) := by decide +kernel
theorem dX4_mark_78 : decode cX4_mark 78 = .ok (.invokevirtual 276, 3) := by decide +kernel
theorem dX4_mark_81 : decode cX4_mark 81 = .ok (.ireturn, 1) := by decide +kernel
theorem dX4_mark_82 : decode cX4_mark 82 = .ok (.aload_n 0, 1) := by decide +kernel
theorem dX4_mark_83 : decode cX4_mark 83 = .ok (.iload_n 2, 1) := by decide +kernel
theorem dX4_mark_84 : decode cX4_mark 84 = .ok (.invokevirtual 279, 3) := by decide +kernel
theorem dX4_mark_87 : decode cX4_mark 87 = .ok (.ireturn, 1) := by decide +kernel
theorem dX4_mark_88 : decode cX4_mark 88 = .ok (.ldc_w 263, 3) := by decide +kernel
theorem dX4_mark_91 : decode cX4_mark 91 = .ok (.ireturn, 1) := by decide +kernel
set_option maxRecDepth 20000 in
theorem ggX4_keep_X4_outside : GoodIn wsX4_keep wsX4_outside := goodIn_r _ [8] (by decide +kernel) (by decide +kernel)
set_option maxRecDepth 20000 in
theorem gX4_keep_X4_outside : GoodIn wsX4_keep (va_wsS RX4 65 yX4_outside wsX4_outside) := goodIn_app (goodIn_of _ (by decide +kernel)) ggX4_keep_X4_outside
set_option maxRecDepth 20000 in
theorem ggX4_keep_X1_take : GoodIn wsX4_keep wsX1_take := goodIn_r _ [13, 14, 15, 16, 17, 18, 19, 20, 21, 22, 23, 24, 39, 40, 41, 42, 43, 44, 45, 46, 47, 48, 49] (by decide +kernel) (by decide +kernel)
set_option maxRecDepth 20000 in
theorem gX4_keep_X1_take : GoodIn wsX4_keep (wsV RX4 282 RX1 yX1_take wsX1_take) := goodIn_app (goodIn_of _ (by decide +kernel)) ggX4_keep_X1_take
theorem dX4_keep_0 : decode cX4_keep 0 = .ok (.iload_n 1, 1) := by decide +kernel
theorem dX4_keep_1 : decode cX4_keep 1 = .ok (.iconst 0, 1) := by decide +kernel
theorem dX4_keep_2 : decode cX4_keep 2 = .ok (.iconst 1, 1) := by decide +kernel
theorem dX4_keep_3 : decode cX4_keep 3 = .ok (.invokestatic 65, 3) := by decide +kernel
theorem dX4_keep_6 : decode cX4_keep 6 = .ok (.ifCond .eq 5, 3) := by decide +kernel
theorem dX4_keep_9 : decode cX4_keep 9 = .ok (.iconst (-1), 1) := by decide +kernel
theorem dX4_keep_10 : decode cX4_keep 10 = .ok (.ireturn, 1) := by decide +kernel
theorem dX4_keep_11 : decode cX4_keep 11 = .ok (.aload_n 0, 1) := by decide +kernel
theorem dX4_keep_12 : decode cX4_keep 12 = .ok (.getfield 43, 3) := by decide +kernel
theorem dX4_keep_15 : decode cX4_keep 15 = .ok (.iload_n 1, 1) := by decide +kernel
theorem dX4_keep_16 : decode cX4_keep 16 = .ok (.aaload, 1) := by decide +kernel
theorem dX4_keep_17 : decode cX4_keep 17 = .ok (.aload_n 0, 1) := by decide +kernel
theorem dX4_keep_18 : decode cX4_keep 18 = .ok (.getfield 32, 3) := by decide +kernel
theorem dX4_keep_21 : decode cX4_keep 21 = .ok (.invokevirtual 282, 3) := by decide +kernel
theorem dX4_keep_24 : decode cX4_keep 24 = .ok (.aload_n 0, 1) := by decide +kernel
theorem dX4_keep_25 : decode cX4_keep 25 = .ok (.getfield 47, 3) := by decide +kernel
theorem dX4_keep_28 : decode cX4_keep 28 = .ok (.iload_n 1, 1) := by decide +kernel
theorem dX4_keep_29 : decode cX4_keep 29 = .ok (.iconst 1, 1) := by decide +kernel
theorem dX4_keep_30 : decode cX4_keep 30 = .ok (.bastore, 1) := by decide +kernel
theorem dX4_keep_31 : decode cX4_keep 31 = .ok (.aload_n 0, 1) := by decide +kernel
theorem dX4_keep_32 : decode cX4_keep 32 = .ok (.getfield 32, 3) := by decide +kernel
theorem dX4_keep_35 : decode cX4_keep 35 = .ok (.getfield 167, 3) := by decide +kernel
theorem dX4_keep_38 : decode cX4_keep 38 = .ok (.ireturn, 1) := by decide +kernel
set_option maxRecDepth 20000 in
theorem ggX4_back_X4_outside : GoodIn wsX4_back wsX4_outside := goodIn_r _ [8] (by decide +kernel) (by decide +kernel)
set_option maxRecDepth 20000 in
theorem gX4_back_X4_outside : GoodIn wsX4_back (va_wsS RX4 65 yX4_outside wsX4_outside) := goodIn_app (goodIn_of _ (by decide +kernel)) ggX4_back_X4_outside
set_option maxRecDepth 20000 in
theorem ggX4_back_X1_take : GoodIn wsX4_back wsX1_take := goodIn_r _ [13, 14, 15, 16, 17, 18, 19, 20, 21, 22, 23, 24, 39, 40, 41, 42, 43, 44, 45, 46, 47, 48, 49] (by decide +kernel) (by decide +kernel)
set_option maxRecDepth 20000 in
theorem gX4_back_X1_take : GoodIn wsX4_back (wsV RX4 282 RX1 yX1_take wsX1_take) := goodIn_app (goodIn_of _ (by decide +kernel)) ggX4_back_X1_take
theorem dX4_back_0 : decode cX4_back 0 = .ok (.iload_n 1, 1) := by decide +kernel
theorem dX4_back_1 : decode cX4_back 1 = .ok (.iconst 0, 1) := by decide +kernel
theorem dX4_back_2 : decode cX4_back 2 = .ok (.iconst 1, 1) := by decide +kernel
theorem dX4_back_3 : decode cX4_back 3 = .ok (.invokestatic 65, 3) := by decide +kernel
theorem dX4_back_6 : decode cX4_back 6 = .ok (.ifCond .eq 5, 3) := by decide +kernel
theorem dX4_back_9 : decode cX4_back 9 = .ok (.iconst (-1), 1) := by decide +kernel
theorem dX4_back_10 : decode cX4_back 10 = .ok (.ireturn, 1) := by decide +kernel
theorem dX4_back_11 : decode cX4_back 11 = .ok (.aload_n 0, 1) := by decide +kernel
theorem dX4_back_12 : decode cX4_back 12 = .ok (.getfield 47, 3) := by decide +kernel
theorem dX4_back_15 : decode cX4_back 15 = .ok (.iload_n 1, 1) := by decide +kernel
theorem dX4_back_16 : decode cX4_back 16 = .ok (.baload, 1) := by decide +kernel
theorem dX4_back_17 : decode cX4_back 17 = .ok (.ifCond .ne 6, 3) := by decide +kernel
theorem dX4_back_20 : decode cX4_back 20 = .ok (.bipush (-2), 2) := by decide +kernel
theorem dX4_back_22 : decode cX4_back 22 = .ok (.ireturn, 1) := by decide +kernel
theorem dX4_back_23 : decode cX4_back 23 = .ok (.aload_n 0, 1) := by decide +kernel
theorem dX4_back_24 : decode cX4_back 24 = .ok (.getfield 32, 3) := by decide +kernel
theorem dX4_back_27 : decode cX4_back 27 = .ok (.aload_n 0, 1) := by decide +kernel
theorem dX4_back_28 : decode cX4_back 28 = .ok (.getfield 43, 3) := by decide +kernel
theorem dX4_back_31 : decode cX4_back 31 = .ok (.iload_n 1, 1) := by decide +kernel
theorem dX4_back_32 : decode cX4_back 32 = .ok (.aaload, 1) := by decide +kernel
theorem dX4_back_33 : decode cX4_back 33 = .ok (.invokevirtual 282, 3) := by decide +kernel
theorem dX4_back_36 : decode cX4_back 36 = .ok (.aload_n 0, 1) := by decide +kernel
theorem dX4_back_37 : decode cX4_back 37 = .ok (.getfield 32, 3) := by decide +kernel
theorem dX4_back_40 : decode cX4_back 40 = .ok (.getfield 167, 3) := by decide +kernel
theorem dX4_back_43 : decode cX4_back 43 = .ok (.ireturn, 1) := by decide +kernel
theorem dX4_count_0 : decode cX4_count 0 = .ok (.iload_n 1, 1) := by decide +kernel
theorem dX4_count_1 : decode cX4_count 1 = .ok (.tableswitch 48 0 2 #[27, 35, 40], 27) := by decide +kernel
theorem dX4_count_28 : decode cX4_count 28 = .ok (.aload_n 0, 1) := by decide +kernel
theorem dX4_count_29 : decode cX4_count 29 = .ok (.getfield 10, 3) := by decide +kernel
theorem dX4_count_32 : decode cX4_count 32 = .ok (.getfield 111, 3) := by decide +kernel
theorem dX4_count_35 : decode cX4_count 35 = .ok (.ireturn, 1) := by decide +kernel
theorem dX4_count_36 : decode cX4_count 36 = .ok (.aload_n 0, 1) := by decide +kernel
theorem dX4_count_37 : decode cX4_count 37 = .ok (.getfield 257, 3) := by decide +kernel
theorem dX4_count_40 : decode cX4_count 40 = .ok (.ireturn, 1) := by decide +kernel
theorem dX4_count_41 : decode cX4_count 41 = .ok (.aload_n 0, 1) := by decide +kernel
theorem dX4_count_42 : decode cX4_count 42 = .ok (.getfield 25, 3) := by decide +kernel
theorem dX4_count_45 : decode cX4_count 45 = .ok (.getfield 69, 3) := by decide +kernel
theorem dX4_count_48 : decode cX4_count 48 = .ok (.ireturn, 1) := by decide +kernel
theorem dX4_count_49 : decode cX4_count 49 = .ok (.iconst (-1), 1) := by decide +kernel
theorem dX4_count_50 : decode cX4_count 50 = .ok (.ireturn, 1) := by decide +kernel
theorem dX4_trace_0 : decode cX4_trace 0 = .ok (.aload_n 0, 1) := by decide +kernel
theorem dX4_trace_1 : decode cX4_trace 1 = .ok (.getfield 285, 3) := by decide +kernel
theorem dX4_trace_4 : decode cX4_trace 4 = .ok (.lreturn, 1) := by decide +kernel
theorem dX4_outside_0 : decode cX4_outside 0 = .ok (.iload_n 0, 1) := by decide +kernel
theorem dX4_outside_1 : decode cX4_outside 1 = .ok (.iload_n 1, 1) := by decide +kernel
theorem dX4_outside_2 : decode cX4_outside 2 = .ok (.if_icmp .lt 8, 3) := by decide +kernel
theorem dX4_outside_5 : decode cX4_outside 5 = .ok (.iload_n 0, 1) := by decide +kernel
theorem dX4_outside_6 : decode cX4_outside 6 = .ok (.iload_n 2, 1) := by decide +kernel
theorem dX4_outside_7 : decode cX4_outside 7 = .ok (.if_icmp .le 7, 3) := by decide +kernel
theorem dX4_outside_10 : decode cX4_outside 10 = .ok (.iconst 1, 1) := by decide +kernel
theorem dX4_outside_11 : decode cX4_outside 11 = .ok (.goto 4, 3) := by decide +kernel
theorem dX4_outside_14 : decode cX4_outside 14 = .ok (.iconst 0, 1) := by decide +kernel
theorem dX4_outside_15 : decode cX4_outside 15 = .ok (.ireturn, 1) := by decide +kernel
set_option maxRecDepth 20000 in
theorem ggX4_passSeconds_X1_pass : GoodIn wsX4_passSeconds wsX1_pass := goodIn_r _ [8, 9, 10, 11, 12, 13, 7, 14, 15, 16, 17, 18, 19, 20, 21, 22, 23, 24, 25, 26, 27, 28, 29, 30, 31, 32, 33, 34, 35, 36, 37, 38, 39, 40, 41, 42, 43, 44, 45, 46, 47, 48, 49, 50, 51, 52, 53, 54, 55, 56, 57, 58, 59, 60, 61, 62, 63, 64, 65, 66, 67, 68, 69, 70, 71, 72, 73, 74, 89, 90, 91, 92, 93, 94, 95, 96, 97, 98, 99, 100, 101, 102, 103, 104, 105, 106, 107, 108, 109, 110, 111, 112] (by decide +kernel) (by decide +kernel)
set_option maxRecDepth 20000 in
theorem gX4_passSeconds_X1_pass : GoodIn wsX4_passSeconds (wsV RX4 289 RX1 yX1_pass wsX1_pass) := goodIn_app (goodIn_of _ (by decide +kernel)) ggX4_passSeconds_X1_pass
theorem dX4_passSeconds_0 : decode cX4_passSeconds 0 = .ok (.iconst 0, 1) := by decide +kernel
theorem dX4_passSeconds_1 : decode cX4_passSeconds 1 = .ok (.istore 4, 2) := by decide +kernel
theorem dX4_passSeconds_3 : decode cX4_passSeconds 3 = .ok (.iload 4, 2) := by decide +kernel
theorem dX4_passSeconds_5 : decode cX4_passSeconds 5 = .ok (.iload_n 3, 1) := by decide +kernel
theorem dX4_passSeconds_6 : decode cX4_passSeconds 6 = .ok (.if_icmp .ge 23, 3) := by decide +kernel
theorem dX4_passSeconds_9 : decode cX4_passSeconds 9 = .ok (.aload_n 0, 1) := by decide +kernel
theorem dX4_passSeconds_10 : decode cX4_passSeconds 10 = .ok (.getfield 32, 3) := by decide +kernel
theorem dX4_passSeconds_13 : decode cX4_passSeconds 13 = .ok (.aload_n 0, 1) := by decide +kernel
theorem dX4_passSeconds_14 : decode cX4_passSeconds 14 = .ok (.getfield 10, 3) := by decide +kernel
theorem dX4_passSeconds_17 : decode cX4_passSeconds 17 = .ok (.iload_n 1, 1) := by decide +kernel
theorem dX4_passSeconds_18 : decode cX4_passSeconds 18 = .ok (.iload_n 2, 1) := by decide +kernel
theorem dX4_passSeconds_19 : decode cX4_passSeconds 19 = .ok (.invokevirtual 289, 3) := by decide +kernel
theorem dX4_passSeconds_22 : decode cX4_passSeconds 22 = .ok (.pop, 1) := by decide +kernel
theorem dX4_passSeconds_23 : decode cX4_passSeconds 23 = .ok (.iinc 4 1, 3) := by decide +kernel
theorem dX4_passSeconds_26 : decode cX4_passSeconds 26 = .ok (.goto (-23), 3) := by decide +kernel
theorem dX4_passSeconds_29 : decode cX4_passSeconds 29 = .ok (.aload_n 0, 1) := by decide +kernel
theorem dX4_passSeconds_30 : decode cX4_passSeconds 30 = .ok (.getfield 32, 3) := by decide +kernel
theorem dX4_passSeconds_33 : decode cX4_passSeconds 33 = .ok (.getfield 169, 3) := by decide +kernel
theorem dX4_passSeconds_36 : decode cX4_passSeconds 36 = .ok (.ireturn, 1) := by decide +kernel
theorem dX4_chanceOf_0 : decode cX4_chanceOf 0 = .ok (.iconst 1, 1) := by decide +kernel
theorem dX4_chanceOf_1 : decode cX4_chanceOf 1 = .ok (.istore_n 2, 1) := by decide +kernel
theorem dX4_chanceOf_2 : decode cX4_chanceOf 2 = .ok (.iconst 0, 1) := by decide +kernel
theorem dX4_chanceOf_3 : decode cX4_chanceOf 3 = .ok (.istore_n 3, 1) := by decide +kernel
theorem dX4_chanceOf_4 : decode cX4_chanceOf 4 = .ok (.iload_n 3, 1) := by decide +kernel
theorem dX4_chanceOf_5 : decode cX4_chanceOf 5 = .ok (.iconst 4, 1) := by decide +kernel
theorem dX4_chanceOf_6 : decode cX4_chanceOf 6 = .ok (.if_icmp .ge 41, 3) := by decide +kernel
theorem dX4_chanceOf_9 : decode cX4_chanceOf 9 = .ok (.iload_n 2, 1) := by decide +kernel
theorem dX4_chanceOf_10 : decode cX4_chanceOf 10 = .ok (.iload_n 1, 1) := by decide +kernel
theorem dX4_chanceOf_11 : decode cX4_chanceOf 11 = .ok (.iload_n 3, 1) := by decide +kernel
theorem dX4_chanceOf_12 : decode cX4_chanceOf 12 = .ok (.ishr, 1) := by decide +kernel
theorem dX4_chanceOf_13 : decode cX4_chanceOf 13 = .ok (.iconst 1, 1) := by decide +kernel
theorem dX4_chanceOf_14 : decode cX4_chanceOf 14 = .ok (.iand, 1) := by decide +kernel
theorem dX4_chanceOf_15 : decode cX4_chanceOf 15 = .ok (.iconst 1, 1) := by decide +kernel
theorem dX4_chanceOf_16 : decode cX4_chanceOf 16 = .ok (.if_icmp .ne 13, 3) := by decide +kernel
theorem dX4_chanceOf_19 : decode cX4_chanceOf 19 = .ok (.aload_n 0, 1) := by decide +kernel
theorem dX4_chanceOf_20 : decode cX4_chanceOf 20 = .ok (.getfield 10, 3) := by decide +kernel
theorem dX4_chanceOf_23 : decode cX4_chanceOf 23 = .ok (.getfield 102, 3) := by decide +kernel
theorem dX4_chanceOf_26 : decode cX4_chanceOf 26 = .ok (.goto 13, 3) := by decide +kernel
theorem dX4_chanceOf_29 : decode cX4_chanceOf 29 = .ok (.bipush 10, 2) := by decide +kernel
theorem dX4_chanceOf_31 : decode cX4_chanceOf 31 = .ok (.aload_n 0, 1) := by decide +kernel
theorem dX4_chanceOf_32 : decode cX4_chanceOf 32 = .ok (.getfield 10, 3) := by decide +kernel
theorem dX4_chanceOf_35 : decode cX4_chanceOf 35 = .ok (.getfield 102, 3) := by decide +kernel
theorem dX4_chanceOf_38 : decode cX4_chanceOf 38 = .ok (.isub, 1) := by decide +kernel
theorem dX4_chanceOf_39 : decode cX4_chanceOf 39 = .ok (.imul, 1) := by decide +kernel
theorem dX4_chanceOf_40 : decode cX4_chanceOf 40 = .ok (.istore_n 2, 1) := by decide +kernel
theorem dX4_chanceOf_41 : decode cX4_chanceOf 41 = .ok (.iinc 3 1, 3) := by decide +kernel
theorem dX4_chanceOf_44 : decode cX4_chanceOf 44 = .ok (.goto (-40), 3) := by decide +kernel
theorem dX4_chanceOf_47 : decode cX4_chanceOf 47 = .ok (.iload_n 2, 1) := by decide +kernel
theorem dX4_chanceOf_48 : decode cX4_chanceOf 48 = .ok (.ireturn, 1) := by decide +kernel
set_option maxRecDepth 20000 in
theorem ggX4_staysWhole_X3_planSeconds : GoodIn wsX4_staysWhole wsX3_planSeconds := goodIn_r _ [10, 11, 12, 143, 144, 145, 146, 147, 148, 149, 150, 151, 152, 153, 154, 155] (by decide +kernel) (by decide +kernel)
set_option maxRecDepth 20000 in
theorem gX4_staysWhole_X3_planSeconds : GoodIn wsX4_staysWhole (wsV RX4 114 RX3 yX3_planSeconds wsX3_planSeconds) := goodIn_app (goodIn_of _ (by decide +kernel)) ggX4_staysWhole_X3_planSeconds
set_option maxRecDepth 20000 in
theorem ggX4_staysWhole_X0_follow : GoodIn wsX4_staysWhole wsX0_follow := goodIn_r _ [17, 18, 19, 20, 21, 22, 23, 24, 25, 26, 27, 28, 29, 30, 31, 32, 33, 34, 35, 36, 37, 38, 39, 40, 41, 42, 16, 43, 44, 45, 46, 47, 48, 49, 50, 51, 52, 53, 54, 55, 56, 57, 58, 59, 60, 61, 62, 63, 64, 65, 66, 67, 68, 69, 70, 71, 72, 73, 74, 75, 76, 77, 78, 79, 80, 81, 82, 83, 84, 85, 86, 87, 88, 89, 90, 91, 92, 93, 94, 95, 96, 97, 98, 99, 100, 101, 102, 103, 104, 105, 106, 107, 108, 109, 110, 111, 112, 143, 144, 145, 146, 147, 148, 149, 150, 151, 152, 153, 154, 155, 127, 128, 129, 130, 131, 132, 133, 134, 135, 136, 137, 138, 139, 140, 141, 142] (by decide +kernel) (by decide +kernel)
set_option maxRecDepth 20000 in
theorem gX4_staysWhole_X0_follow : GoodIn wsX4_staysWhole (wsV RX4 185 RX0 yX0_follow wsX0_follow) := goodIn_app (goodIn_of _ (by decide +kernel)) ggX4_staysWhole_X0_follow
theorem dX4_staysWhole_0 : decode cX4_staysWhole 0 = .ok (.aload_n 0, 1) := by decide +kernel
theorem dX4_staysWhole_1 : decode cX4_staysWhole 1 = .ok (.getfield 39, 3) := by decide +kernel
theorem dX4_staysWhole_4 : decode cX4_staysWhole 4 = .ok (.aload_n 0, 1) := by decide +kernel
theorem dX4_staysWhole_5 : decode cX4_staysWhole 5 = .ok (.getfield 10, 3) := by decide +kernel
theorem dX4_staysWhole_8 : decode cX4_staysWhole 8 = .ok (.aload_n 0, 1) := by decide +kernel
theorem dX4_staysWhole_9 : decode cX4_staysWhole 9 = .ok (.getfield 39, 3) := by decide +kernel
theorem dX4_staysWhole_12 : decode cX4_staysWhole 12 = .ok (.getfield 192, 3) := by decide +kernel
theorem dX4_staysWhole_15 : decode cX4_staysWhole 15 = .ok (.getfield 167, 3) := by decide +kernel
theorem dX4_staysWhole_18 : decode cX4_staysWhole 18 = .ok (.aload_n 0, 1) := by decide +kernel
theorem dX4_staysWhole_19 : decode cX4_staysWhole 19 = .ok (.getfield 10, 3) := by decide +kernel
theorem dX4_staysWhole_22 : decode cX4_staysWhole 22 = .ok (.invokevirtual 114, 3) := by decide +kernel
theorem dX4_staysWhole_25 : decode cX4_staysWhole 25 = .ok (.iadd, 1) := by decide +kernel
theorem dX4_staysWhole_26 : decode cX4_staysWhole 26 = .ok (.iconst 1, 1) := by decide +kernel
theorem dX4_staysWhole_27 : decode cX4_staysWhole 27 = .ok (.invokevirtual 185, 3) := by decide +kernel
theorem dX4_staysWhole_30 : decode cX4_staysWhole 30 = .ok (.aload_n 0, 1) := by decide +kernel
theorem dX4_staysWhole_31 : decode cX4_staysWhole 31 = .ok (.getfield 39, 3) := by decide +kernel
theorem dX4_staysWhole_34 : decode cX4_staysWhole 34 = .ok (.getfield 192, 3) := by decide +kernel
theorem dX4_staysWhole_37 : decode cX4_staysWhole 37 = .ok (.getfield 169, 3) := by decide +kernel
theorem dX4_staysWhole_40 : decode cX4_staysWhole 40 = .ok (.ifCond .ne 7, 3) := by decide +kernel
theorem dX4_staysWhole_43 : decode cX4_staysWhole 43 = .ok (.iconst 1, 1) := by decide +kernel
theorem dX4_staysWhole_44 : decode cX4_staysWhole 44 = .ok (.goto 4, 3) := by decide +kernel
theorem dX4_staysWhole_47 : decode cX4_staysWhole 47 = .ok (.iconst 0, 1) := by decide +kernel
theorem dX4_staysWhole_48 : decode cX4_staysWhole 48 = .ok (.ireturn, 1) := by decide +kernel
theorem dX4_leastHeat_0 : decode cX4_leastHeat 0 = .ok (.bipush 99, 2) := by decide +kernel
theorem dX4_leastHeat_2 : decode cX4_leastHeat 2 = .ok (.iload_n 2, 1) := by decide +kernel
theorem dX4_leastHeat_3 : decode cX4_leastHeat 3 = .ok (.imul, 1) := by decide +kernel
theorem dX4_leastHeat_4 : decode cX4_leastHeat 4 = .ok (.istore_n 3, 1) := by decide +kernel
theorem dX4_leastHeat_5 : decode cX4_leastHeat 5 = .ok (.iconst 0, 1) := by decide +kernel
theorem dX4_leastHeat_6 : decode cX4_leastHeat 6 = .ok (.istore 4, 2) := by decide +kernel
theorem dX4_leastHeat_8 : decode cX4_leastHeat 8 = .ok (.iload 4, 2) := by decide +kernel
theorem dX4_leastHeat_10 : decode cX4_leastHeat 10 = .ok (.iconst 4, 1) := by decide +kernel
theorem dX4_leastHeat_11 : decode cX4_leastHeat 11 = .ok (.if_icmp .ge 68, 3) := by decide +kernel
theorem dX4_leastHeat_14 : decode cX4_leastHeat 14 = .ok (.iconst 0, 1) := by decide +kernel
theorem dX4_leastHeat_15 : decode cX4_leastHeat 15 = .ok (.istore 5, 2) := by decide +kernel
theorem dX4_leastHeat_17 : decode cX4_leastHeat 17 = .ok (.iload_n 1, 1) := by decide +kernel
theorem dX4_leastHeat_18 : decode cX4_leastHeat 18 = .ok (.istore 6, 2) := by decide +kernel
theorem dX4_leastHeat_20 : decode cX4_leastHeat 20 = .ok (.iconst 0, 1) := by decide +kernel
theorem dX4_leastHeat_21 : decode cX4_leastHeat 21 = .ok (.istore 7, 2) := by decide +kernel
theorem dX4_leastHeat_23 : decode cX4_leastHeat 23 = .ok (.iload 7, 2) := by decide +kernel
theorem dX4_leastHeat_25 : decode cX4_leastHeat 25 = .ok (.iload_n 2, 1) := by decide +kernel
theorem dX4_leastHeat_26 : decode cX4_leastHeat 26 = .ok (.if_icmp .ge 40, 3) := by decide +kernel
theorem dX4_leastHeat_29 : decode cX4_leastHeat 29 = .ok (.iload 5, 2) := by decide +kernel
theorem dX4_leastHeat_31 : decode cX4_leastHeat 31 = .ok (.aload_n 0, 1) := by decide +kernel
theorem dX4_leastHeat_32 : decode cX4_leastHeat 32 = .ok (.getfield 51, 3) := by decide +kernel
theorem dX4_leastHeat_35 : decode cX4_leastHeat 35 = .ok (.getstatic 292, 3) := by decide +kernel
theorem dX4_leastHeat_38 : decode cX4_leastHeat 38 = .ok (.iload 6, 2) := by decide +kernel
theorem dX4_leastHeat_40 : decode cX4_leastHeat 40 = .ok (.bipush 24, 2) := by decide +kernel
theorem dX4_leastHeat_42 : decode cX4_leastHeat 42 = .ok (.irem, 1) := by decide +kernel
theorem dX4_leastHeat_43 : decode cX4_leastHeat 43 = .ok (.iconst 4, 1) := by decide +kernel
theorem dX4_leastHeat_44 : decode cX4_leastHeat 44 = .ok (.imul, 1) := by decide +kernel
theorem dX4_leastHeat_45 : decode cX4_leastHeat 45 = .ok (.iload 4, 2) := by decide +kernel
theorem dX4_leastHeat_47 : decode cX4_leastHeat 47 = .ok (.iadd, 1) := by decide +kernel
theorem dX4_leastHeat_48 : decode cX4_leastHeat 48 = .ok (.iaload, 1) := by decide +kernel
theorem dX4_leastHeat_49 : decode cX4_leastHeat 49 = .ok (.iaload, 1) := by decide +kernel
theorem dX4_leastHeat_50 : decode cX4_leastHeat 50 = .ok (.iadd, 1) := by decide +kernel
theorem dX4_leastHeat_51 : decode cX4_leastHeat 51 = .ok (.istore 5, 2) := by decide +kernel
theorem dX4_leastHeat_53 : decode cX4_leastHeat 53 = .ok (.iload 6, 2) := by decide +kernel
theorem dX4_leastHeat_55 : decode cX4_leastHeat 55 = .ok (.bipush 24, 2) := by decide +kernel
theorem dX4_leastHeat_57 : decode cX4_leastHeat 57 = .ok (.idiv, 1) := by decide +kernel
theorem dX4_leastHeat_58 : decode cX4_leastHeat 58 = .ok (.istore 6, 2) := by decide +kernel
theorem dX4_leastHeat_60 : decode cX4_leastHeat 60 = .ok (.iinc 7 1, 3) := by decide +kernel
theorem dX4_leastHeat_63 : decode cX4_leastHeat 63 = .ok (.goto (-40), 3) := by decide +kernel
theorem dX4_leastHeat_66 : decode cX4_leastHeat 66 = .ok (.iload_n 3, 1) := by decide +kernel
theorem dX4_leastHeat_67 : decode cX4_leastHeat 67 = .ok (.iload 5, 2) := by decide +kernel
theorem dX4_leastHeat_69 : decode cX4_leastHeat 69 = .ok (.invokestatic 260, 3) := by decide +kernel
theorem dX4_leastHeat_72 : decode cX4_leastHeat 72 = .ok (.istore_n 3, 1) := by decide +kernel
theorem dX4_leastHeat_73 : decode cX4_leastHeat 73 = .ok (.iinc 4 1, 3) := by decide +kernel
theorem dX4_leastHeat_76 : decode cX4_leastHeat 76 = .ok (.goto (-68), 3) := by decide +kernel
theorem dX4_leastHeat_79 : decode cX4_leastHeat 79 = .ok (.iload_n 3, 1) := by decide +kernel
theorem dX4_leastHeat_80 : decode cX4_leastHeat 80 = .ok (.ireturn, 1) := by decide +kernel
set_option maxRecDepth 20000 in
theorem ggX4_noBeginning_X4_outside : GoodIn wsX4_noBeginning wsX4_outside := goodIn_r _ [4] (by decide +kernel) (by decide +kernel)
set_option maxRecDepth 20000 in
theorem gX4_noBeginning_X4_outside : GoodIn wsX4_noBeginning (va_wsS RX4 65 yX4_outside wsX4_outside) := goodIn_app (goodIn_of _ (by decide +kernel)) ggX4_noBeginning_X4_outside
theorem dX4_noBeginning_0 : decode cX4_noBeginning 0 = .ok (.iload_n 0, 1) := by decide +kernel
theorem dX4_noBeginning_1 : decode cX4_noBeginning 1 = .ok (.iconst 1, 1) := by decide +kernel
theorem dX4_noBeginning_2 : decode cX4_noBeginning 2 = .ok (.sipush 999, 3) := by decide +kernel
theorem dX4_noBeginning_5 : decode cX4_noBeginning 5 = .ok (.invokestatic 65, 3) := by decide +kernel
theorem dX4_noBeginning_8 : decode cX4_noBeginning 8 = .ok (.ifCond .ne 21, 3) := by decide +kernel
theorem dX4_noBeginning_11 : decode cX4_noBeginning 11 = .ok (.iload_n 1, 1) := by decide +kernel
theorem dX4_noBeginning_12 : decode cX4_noBeginning 12 = .ok (.iconst 0, 1) := by decide +kernel
theorem dX4_noBeginning_13 : decode cX4_noBeginning 13 = .ok (.iconst 3, 1) := by decide +kernel
theorem dX4_noBeginning_14 : decode cX4_noBeginning 14 = .ok (.invokestatic 65, 3) := by decide +kernel
theorem dX4_noBeginning_17 : decode cX4_noBeginning 17 = .ok (.ifCond .ne 12, 3) := by decide +kernel
theorem dX4_noBeginning_20 : decode cX4_noBeginning 20 = .ok (.iload_n 2, 1) := by decide +kernel
theorem dX4_noBeginning_21 : decode cX4_noBeginning 21 = .ok (.iconst 0, 1) := by decide +kernel
theorem dX4_noBeginning_22 : decode cX4_noBeginning 22 = .ok (.iconst 4, 1) := by decide +kernel
theorem dX4_noBeginning_23 : decode cX4_noBeginning 23 = .ok (.invokestatic 65, 3) := by decide +kernel
theorem dX4_noBeginning_26 : decode cX4_noBeginning 26 = .ok (.ifCond .eq 7, 3) := by decide +kernel
theorem dX4_noBeginning_29 : decode cX4_noBeginning 29 = .ok (.iconst 1, 1) := by decide +kernel
theorem dX4_noBeginning_30 : decode cX4_noBeginning 30 = .ok (.goto 4, 3) := by decide +kernel
theorem dX4_noBeginning_33 : decode cX4_noBeginning 33 = .ok (.iconst 0, 1) := by decide +kernel
theorem dX4_noBeginning_34 : decode cX4_noBeginning 34 = .ok (.ireturn, 1) := by decide +kernel
set_option maxRecDepth 20000 in
theorem ggX4_timesOf_X4_changeBy : GoodIn wsX4_timesOf wsX4_changeBy := goodIn_r _ [11, 2, 12, 13, 14, 15, 16, 17, 18, 19, 20, 21, 22, 23, 24, 25, 26, 27, 28, 29, 30, 31, 32, 33, 34, 35, 36, 37, 38, 39, 40, 41, 42, 43, 44, 149, 150, 151, 152, 153, 154, 155, 156, 157, 158, 159, 160, 161, 162, 179, 180, 181, 182, 183, 184, 185, 186, 187, 188, 189, 190, 191] (by decide +kernel) (by decide +kernel)
set_option maxRecDepth 20000 in
theorem gX4_timesOf_X4_changeBy : GoodIn wsX4_timesOf (wsV RX4 295 RX4 yX4_changeBy wsX4_changeBy) := goodIn_app (goodIn_of _ (by decide +kernel)) ggX4_timesOf_X4_changeBy
set_option maxRecDepth 20000 in
theorem ggX4_timesOf_X0_begin : GoodIn wsX4_timesOf wsX0_begin := goodIn_r _ [49, 50, 51, 52, 53, 54, 55, 56, 57, 58, 59, 60, 61, 62, 63, 64, 65, 66, 67, 68, 69, 70, 71, 72, 163, 164, 165, 166, 167, 168, 169, 170, 171, 172, 173, 174, 175, 176, 177, 178, 179, 180, 181, 182, 183, 184, 185, 186, 187, 188, 189, 190, 191] (by decide +kernel) (by decide +kernel)
set_option maxRecDepth 20000 in
theorem gX4_timesOf_X0_begin : GoodIn wsX4_timesOf (wsV RX4 182 RX0 yX0_begin wsX0_begin) := goodIn_app (goodIn_of _ (by decide +kernel)) ggX4_timesOf_X0_begin
set_option maxRecDepth 20000 in
theorem ggX4_timesOf_X0_follow : GoodIn wsX4_timesOf wsX0_follow := goodIn_r _ [76, 77, 78, 79, 50, 80, 81, 82, 83, 84, 85, 59, 86, 61, 87, 88, 89, 90, 67, 91, 15, 16, 17, 92, 93, 94, 48, 95, 54, 53, 55, 96, 52, 97, 98, 99, 100, 69, 70, 101, 102, 103, 104, 62, 105, 106, 107, 108, 109, 110, 111, 112, 64, 113, 114, 20, 21, 115, 116, 117, 118, 66, 72, 119, 120, 121, 122, 63, 123, 124, 125, 126, 127, 128, 129, 130, 131, 71, 132, 133, 134, 135, 136, 137, 138, 139, 140, 141, 68, 142, 143, 144, 10, 145, 146, 147, 148, 179, 180, 181, 182, 183, 184, 185, 186, 187, 188, 189, 190, 191, 163, 164, 165, 166, 167, 168, 169, 170, 171, 172, 173, 174, 175, 176, 177, 178] (by decide +kernel) (by decide +kernel)
set_option maxRecDepth 20000 in
theorem gX4_timesOf_X0_follow : GoodIn wsX4_timesOf (wsV RX4 185 RX0 yX0_follow wsX0_follow) := goodIn_app (goodIn_of _ (by decide +kernel)) ggX4_timesOf_X0_follow
theorem dX4_timesOf_0 : decode cX4_timesOf 0 = .ok (.iload_n 1, 1) := by decide +kernel
theorem dX4_timesOf_1 : decode cX4_timesOf 1 = .ok (.ifCond .eq 8, 3) := by decide +kernel
theorem dX4_timesOf_4 : decode cX4_timesOf 4 = .ok (.iload_n 1, 1) := by decide +kernel
theorem dX4_timesOf_5 : decode cX4_timesOf 5 = .ok (.iconst 1, 1) := by decide +kernel
theorem dX4_timesOf_6 : decode cX4_timesOf 6 = .ok (.if_icmp .ne 7, 3) := by decide +kernel
theorem dX4_timesOf_9 : decode cX4_timesOf 9 = .ok (.iconst 1, 1) := by decide +kernel
theorem dX4_timesOf_10 : decode cX4_timesOf 10 = .ok (.goto 5, 3) := by decide +kernel
theorem dX4_timesOf_13 : decode cX4_timesOf 13 = .ok (.bipush 9, 2) := by decide +kernel
theorem dX4_timesOf_15 : decode cX4_timesOf 15 = .ok (.istore 4, 2) := by decide +kernel
theorem dX4_timesOf_17 : decode cX4_timesOf 17 = .ok (.iconst 0, 1) := by decide +kernel
theorem dX4_timesOf_18 : decode cX4_timesOf 18 = .ok (.istore 5, 2) := by decide +kernel
theorem dX4_timesOf_20 : decode cX4_timesOf 20 = .ok (.iconst 1, 1) := by decide +kernel
theorem dX4_timesOf_21 : decode cX4_timesOf 21 = .ok (.istore 6, 2) := by decide +kernel
theorem dX4_timesOf_23 : decode cX4_timesOf 23 = .ok (.iload 6, 2) := by decide +kernel
theorem dX4_timesOf_25 : decode cX4_timesOf 25 = .ok (.iload 4, 2) := by decide +kernel
theorem dX4_timesOf_27 : decode cX4_timesOf 27 = .ok (.if_icmp .gt 94, 3) := by decide +kernel
theorem dX4_timesOf_30 : decode cX4_timesOf 30 = .ok (.aload_n 0, 1) := by decide +kernel
theorem dX4_timesOf_31 : decode cX4_timesOf 31 = .ok (.iload_n 1, 1) := by decide +kernel
theorem dX4_timesOf_32 : decode cX4_timesOf 32 = .ok (.iload 6, 2) := by decide +kernel
theorem dX4_timesOf_34 : decode cX4_timesOf 34 = .ok (.invokevirtual 295, 3) := by decide +kernel
theorem dX4_timesOf_37 : decode cX4_timesOf 37 = .ok (.aload_n 0, 1) := by decide +kernel
theorem dX4_timesOf_38 : decode cX4_timesOf 38 = .ok (.getfield 39, 3) := by decide +kernel
theorem dX4_timesOf_41 : decode cX4_timesOf 41 = .ok (.aload_n 0, 1) := by decide +kernel
theorem dX4_timesOf_42 : decode cX4_timesOf 42 = .ok (.getfield 19, 3) := by decide +kernel
theorem dX4_timesOf_45 : decode cX4_timesOf 45 = .ok (.iload_n 1, 1) := by decide +kernel
theorem dX4_timesOf_46 : decode cX4_timesOf 46 = .ok (.iconst 1, 1) := by decide +kernel
theorem dX4_timesOf_47 : decode cX4_timesOf 47 = .ok (.if_icmp .ne 9, 3) := by decide +kernel
theorem dX4_timesOf_50 : decode cX4_timesOf 50 = .ok (.iconst 1, 1) := by decide +kernel
theorem dX4_timesOf_51 : decode cX4_timesOf 51 = .ok (.iload_n 3, 1) := by decide +kernel
theorem dX4_timesOf_52 : decode cX4_timesOf 52 = .ok (.ishl, 1) := by decide +kernel
theorem dX4_timesOf_53 : decode cX4_timesOf 53 = .ok (.goto 4, 3) := by decide +kernel
theorem dX4_timesOf_56 : decode cX4_timesOf 56 = .ok (.iconst 0, 1) := by decide +kernel
theorem dX4_timesOf_57 : decode cX4_timesOf 57 = .ok (.invokevirtual 182, 3) := by decide +kernel
theorem dX4_timesOf_60 : decode cX4_timesOf 60 = .ok (.aload_n 0, 1) := by decide +kernel
theorem dX4_timesOf_61 : decode cX4_timesOf 61 = .ok (.getfield 39, 3) := by decide +kernel
theorem dX4_timesOf_64 : decode cX4_timesOf 64 = .ok (.aload_n 0, 1) := by decide +kernel
theorem dX4_timesOf_65 : decode cX4_timesOf 65 = .ok (.getfield 19, 3) := by decide +kernel
theorem dX4_timesOf_68 : decode cX4_timesOf 68 = .ok (.iload_n 2, 1) := by decide +kernel
theorem dX4_timesOf_69 : decode cX4_timesOf 69 = .ok (.iconst 1, 1) := by decide +kernel
theorem dX4_timesOf_70 : decode cX4_timesOf 70 = .ok (.invokevirtual 185, 3) := by decide +kernel
theorem dX4_timesOf_73 : decode cX4_timesOf 73 = .ok (.aload_n 0, 1) := by decide +kernel
theorem dX4_timesOf_74 : decode cX4_timesOf 74 = .ok (.getfield 39, 3) := by decide +kernel
theorem dX4_timesOf_77 : decode cX4_timesOf 77 = .ok (.getfield 189, 3) := by decide +kernel
theorem dX4_timesOf_80 : decode cX4_timesOf 80 = .ok (.iload_n 2, 1) := by decide +kernel
theorem dX4_timesOf_81 : decode cX4_timesOf 81 = .ok (.if_icmp .ne 34, 3) := by decide +kernel
theorem dX4_timesOf_84 : decode cX4_timesOf 84 = .ok (.aload_n 0, 1) := by decide +kernel
theorem dX4_timesOf_85 : decode cX4_timesOf 85 = .ok (.getfield 39, 3) := by decide +kernel
theorem dX4_timesOf_88 : decode cX4_timesOf 88 = .ok (.getfield 192, 3) := by decide +kernel
theorem dX4_timesOf_91 : decode cX4_timesOf 91 = .ok (.getfield 169, 3) := by decide +kernel
theorem dX4_timesOf_94 : decode cX4_timesOf 94 = .ok (.iconst 1, 1) := by decide +kernel
theorem dX4_timesOf_95 : decode cX4_timesOf 95 = .ok (.if_icmp .ne 20, 3) := by decide +kernel
theorem dX4_timesOf_98 : decode cX4_timesOf 98 = .ok (.aload_n 0, 1) := by decide +kernel
theorem dX4_timesOf_99 : decode cX4_timesOf 99 = .ok (.getfield 39, 3) := by decide +kernel
theorem dX4_timesOf_102 : decode cX4_timesOf 102 = .ok (.getfield 192, 3) := by decide +kernel
theorem dX4_timesOf_105 : decode cX4_timesOf 105 = .ok (.getfield 172, 3) := by decide +kernel
theorem dX4_timesOf_108 : decode cX4_timesOf 108 = .ok (.iload_n 3, 1) := by decide +kernel
theorem dX4_timesOf_109 : decode cX4_timesOf 109 = .ok (.if_icmp .ne 6, 3) := by decide +kernel
theorem dX4_timesOf_112 : decode cX4_timesOf 112 = .ok (.iinc 5 1, 3) := by decide +kernel
theorem dX4_timesOf_115 : decode cX4_timesOf 115 = .ok (.iinc 6 1, 3) := by decide +kernel
theorem dX4_timesOf_118 : decode cX4_timesOf 118 = .ok (.goto (-95), 3) := by decide +kernel
theorem dX4_timesOf_121 : decode cX4_timesOf 121 = .ok (.iload 4, 2) := by decide +kernel
theorem dX4_timesOf_123 : decode cX4_timesOf 123 = .ok (.iconst 1, 1) := by decide +kernel
theorem dX4_timesOf_124 : decode cX4_timesOf 124 = .ok (.if_icmp .ne 11, 3) := by decide +kernel
theorem dX4_timesOf_127 : decode cX4_timesOf 127 = .ok (.iload 5, 2) := by decide +kernel
theorem dX4_timesOf_129 : decode cX4_timesOf 129 = .ok (.bipush 9, 2) := by decide +kernel
theorem dX4_timesOf_131 : decode cX4_timesOf 131 = .ok (.imul, 1) := by decide +kernel
theorem dX4_timesOf_132 : decode cX4_timesOf 132 = .ok (.goto 5, 3) := by decide +kernel
theorem dX4_timesOf_135 : decode cX4_timesOf 135 = .ok (.iload 5, 2) := by decide +kernel
theorem dX4_timesOf_137 : decode cX4_timesOf 137 = .ok (.ireturn, 1) := by decide +kernel
set_option maxRecDepth 20000 in
theorem ggX4_changeBy_X3_take : GoodIn wsX4_changeBy wsX3_take := goodIn_r _ [16, 17, 18, 19, 20, 21, 22, 23, 24, 25, 26, 27, 28, 29, 49, 50, 51, 52, 53, 54, 55, 56, 57, 58, 59, 60, 61] (by decide +kernel) (by decide +kernel)
set_option maxRecDepth 20000 in
theorem gX4_changeBy_X3_take : GoodIn wsX4_changeBy (wsV RX4 81 RX3 yX3_take wsX3_take) := goodIn_app (goodIn_of _ (by decide +kernel)) ggX4_changeBy_X3_take
set_option maxRecDepth 20000 in
theorem ggX4_changeBy_X3_heatFires : GoodIn wsX4_changeBy wsX3_heatFires := goodIn_r _ [33, 26, 27, 28, 34, 5, 6, 7, 49, 50, 51, 52, 53, 54, 55, 56, 57, 58, 59, 60, 61] (by decide +kernel) (by decide +kernel)
set_option maxRecDepth 20000 in
theorem gX4_changeBy_X3_heatFires : GoodIn wsX4_changeBy (wsV RX4 299 RX3 yX3_heatFires wsX3_heatFires) := goodIn_app (goodIn_of _ (by decide +kernel)) ggX4_changeBy_X3_heatFires
theorem dX4_changeBy_0 : decode cX4_changeBy 0 = .ok (.aload_n 0, 1) := by decide +kernel
theorem dX4_changeBy_1 : decode cX4_changeBy 1 = .ok (.getfield 19, 3) := by decide +kernel
theorem dX4_changeBy_4 : decode cX4_changeBy 4 = .ok (.aload_n 0, 1) := by decide +kernel
theorem dX4_changeBy_5 : decode cX4_changeBy 5 = .ok (.getfield 10, 3) := by decide +kernel
theorem dX4_changeBy_8 : decode cX4_changeBy 8 = .ok (.invokevirtual 81, 3) := by decide +kernel
theorem dX4_changeBy_11 : decode cX4_changeBy 11 = .ok (.iload_n 1, 1) := by decide +kernel
theorem dX4_changeBy_12 : decode cX4_changeBy 12 = .ok (.iconst 2, 1) := by decide +kernel
theorem dX4_changeBy_13 : decode cX4_changeBy 13 = .ok (.if_icmp .ne 29, 3) := by decide +kernel
theorem dX4_changeBy_16 : decode cX4_changeBy 16 = .ok (.aload_n 0, 1) := by decide +kernel
theorem dX4_changeBy_17 : decode cX4_changeBy 17 = .ok (.getfield 19, 3) := by decide +kernel
theorem dX4_changeBy_20 : decode cX4_changeBy 20 = .ok (.bipush 99, 2) := by decide +kernel
theorem dX4_changeBy_22 : decode cX4_changeBy 22 = .ok (.aload_n 0, 1) := by decide +kernel
theorem dX4_changeBy_23 : decode cX4_changeBy 23 = .ok (.getfield 19, 3) := by decide +kernel
theorem dX4_changeBy_26 : decode cX4_changeBy 26 = .ok (.getfield 90, 3) := by decide +kernel
theorem dX4_changeBy_29 : decode cX4_changeBy 29 = .ok (.iconst 4, 1) := by decide +kernel
theorem dX4_changeBy_30 : decode cX4_changeBy 30 = .ok (.iload_n 2, 1) := by decide +kernel
theorem dX4_changeBy_31 : decode cX4_changeBy 31 = .ok (.imul, 1) := by decide +kernel
theorem dX4_changeBy_32 : decode cX4_changeBy 32 = .ok (.iadd, 1) := by decide +kernel
theorem dX4_changeBy_33 : decode cX4_changeBy 33 = .ok (.invokestatic 260, 3) := by decide +kernel
theorem dX4_changeBy_36 : decode cX4_changeBy 36 = .ok (.putfield 90, 3) := by decide +kernel
theorem dX4_changeBy_39 : decode cX4_changeBy 39 = .ok (.goto 50, 3) := by decide +kernel
theorem dX4_changeBy_42 : decode cX4_changeBy 42 = .ok (.iload_n 1, 1) := by decide +kernel
theorem dX4_changeBy_43 : decode cX4_changeBy 43 = .ok (.iconst 3, 1) := by decide +kernel
theorem dX4_changeBy_44 : decode cX4_changeBy 44 = .ok (.if_icmp .ne 17, 3) := by decide +kernel
theorem dX4_changeBy_47 : decode cX4_changeBy 47 = .ok (.aload_n 0, 1) := by decide +kernel
theorem dX4_changeBy_48 : decode cX4_changeBy 48 = .ok (.getfield 19, 3) := by decide +kernel
theorem dX4_changeBy_51 : decode cX4_changeBy 51 = .ok (.bipush 10, 2) := by decide +kernel
theorem dX4_changeBy_53 : decode cX4_changeBy 53 = .ok (.iload_n 2, 1) := by decide +kernel
theorem dX4_changeBy_54 : decode cX4_changeBy 54 = .ok (.imul, 1) := by decide +kernel
theorem dX4_changeBy_55 : decode cX4_changeBy 55 = .ok (.invokevirtual 299, 3) := by decide +kernel
theorem dX4_changeBy_58 : decode cX4_changeBy 58 = .ok (.goto 31, 3) := by decide +kernel
theorem dX4_changeBy_61 : decode cX4_changeBy 61 = .ok (.iload_n 1, 1) := by decide +kernel
theorem dX4_changeBy_62 : decode cX4_changeBy 62 = .ok (.iconst 4, 1) := by decide +kernel
theorem dX4_changeBy_63 : decode cX4_changeBy 63 = .ok (.if_icmp .ne 26, 3) := by decide +kernel
theorem dX4_changeBy_66 : decode cX4_changeBy 66 = .ok (.aload_n 0, 1) := by decide +kernel
theorem dX4_changeBy_67 : decode cX4_changeBy 67 = .ok (.getfield 19, 3) := by decide +kernel
theorem dX4_changeBy_70 : decode cX4_changeBy 70 = .ok (.iconst 1, 1) := by decide +kernel
theorem dX4_changeBy_71 : decode cX4_changeBy 71 = .ok (.aload_n 0, 1) := by decide +kernel
theorem dX4_changeBy_72 : decode cX4_changeBy 72 = .ok (.getfield 19, 3) := by decide +kernel
theorem dX4_changeBy_75 : decode cX4_changeBy 75 = .ok (.getfield 87, 3) := by decide +kernel
theorem dX4_changeBy_78 : decode cX4_changeBy 78 = .ok (.bipush 10, 2) := by decide +kernel
theorem dX4_changeBy_80 : decode cX4_changeBy 80 = .ok (.iload_n 2, 1) := by decide +kernel
theorem dX4_changeBy_81 : decode cX4_changeBy 81 = .ok (.imul, 1) := by decide +kernel
theorem dX4_changeBy_82 : decode cX4_changeBy 82 = .ok (.isub, 1) := by decide +kernel
theorem dX4_changeBy_83 : decode cX4_changeBy 83 = .ok (.invokestatic 242, 3) := by decide +kernel
theorem dX4_changeBy_86 : decode cX4_changeBy 86 = .ok (.putfield 87, 3) := by decide +kernel
theorem dX4_changeBy_89 : decode cX4_changeBy 89 = .ok (.return_, 1) := by decide +kernel
theorem dX4_commonDivisor_0 : decode cX4_commonDivisor 0 = .ok (.iload_n 0, 1) := by decide +kernel
theorem dX4_commonDivisor_1 : decode cX4_commonDivisor 1 = .ok (.istore_n 2, 1) := by decide +kernel
theorem dX4_commonDivisor_2 : decode cX4_commonDivisor 2 = .ok (.iload_n 1, 1) := by decide +kernel
theorem dX4_commonDivisor_3 : decode cX4_commonDivisor 3 = .ok (.istore_n 3, 1) := by decide +kernel
theorem dX4_commonDivisor_4 : decode cX4_commonDivisor 4 = .ok (.iconst 0, 1) := by decide +kernel
theorem dX4_commonDivisor_5 : decode cX4_commonDivisor 5 = .ok (.istore 4, 2) := by decide +kernel
theorem dX4_commonDivisor_7 : decode cX4_commonDivisor 7 = .ok (.iload 4, 2) := by decide +kernel
theorem dX4_commonDivisor_9 : decode cX4_commonDivisor 9 = .ok (.bipush 64, 2) := by decide +kernel
theorem dX4_commonDivisor_11 : decode cX4_commonDivisor 11 = .ok (.if_icmp .ge 23, 3) := by decide +kernel
theorem dX4_commonDivisor_14 : decode cX4_commonDivisor 14 = .ok (.iload_n 3, 1) := by decide +kernel
theorem dX4_commonDivisor_15 : decode cX4_commonDivisor 15 = .ok (.ifCond .eq 19, 3) := by decide +kernel
theorem dX4_commonDivisor_18 : decode cX4_commonDivisor 18 = .ok (.iload_n 2, 1) := by decide +kernel
theorem dX4_commonDivisor_19 : decode cX4_commonDivisor 19 = .ok (.iload_n 3, 1) := by decide +kernel
theorem dX4_commonDivisor_20 : decode cX4_commonDivisor 20 = .ok (.irem, 1) := by decide +kernel
theorem dX4_commonDivisor_21 : decode cX4_commonDivisor 21 = .ok (.istore 5, 2) := by decide +kernel
theorem dX4_commonDivisor_23 : decode cX4_commonDivisor 23 = .ok (.iload_n 3, 1) := by decide +kernel
theorem dX4_commonDivisor_24 : decode cX4_commonDivisor 24 = .ok (.istore_n 2, 1) := by decide +kernel
theorem dX4_commonDivisor_25 : decode cX4_commonDivisor 25 = .ok (.iload 5, 2) := by decide +kernel
theorem dX4_commonDivisor_27 : decode cX4_commonDivisor 27 = .ok (.istore_n 3, 1) := by decide +kernel
theorem dX4_commonDivisor_28 : decode cX4_commonDivisor 28 = .ok (.iinc 4 1, 3) := by decide +kernel
theorem dX4_commonDivisor_31 : decode cX4_commonDivisor 31 = .ok (.goto (-24), 3) := by decide +kernel
theorem dX4_commonDivisor_34 : decode cX4_commonDivisor 34 = .ok (.iload_n 2, 1) := by decide +kernel
theorem dX4_commonDivisor_35 : decode cX4_commonDivisor 35 = .ok (.ireturn, 1) := by decide +kernel
set_option maxRecDepth 20000 in
theorem ggX4_noDrying_X4_outside : GoodIn wsX4_noDrying wsX4_outside := goodIn_r _ [4] (by decide +kernel) (by decide +kernel)
set_option maxRecDepth 20000 in
theorem gX4_noDrying_X4_outside : GoodIn wsX4_noDrying (va_wsS RX4 65 yX4_outside wsX4_outside) := goodIn_app (goodIn_of _ (by decide +kernel)) ggX4_noDrying_X4_outside
theorem dX4_noDrying_0 : decode cX4_noDrying 0 = .ok (.iload_n 0, 1) := by decide +kernel
theorem dX4_noDrying_1 : decode cX4_noDrying 1 = .ok (.iconst 1, 1) := by decide +kernel
theorem dX4_noDrying_2 : decode cX4_noDrying 2 = .ok (.sipush 9999, 3) := by decide +kernel
theorem dX4_noDrying_5 : decode cX4_noDrying 5 = .ok (.invokestatic 65, 3) := by decide +kernel
theorem dX4_noDrying_8 : decode cX4_noDrying 8 = .ok (.ifCond .ne 22, 3) := by decide +kernel
theorem dX4_noDrying_11 : decode cX4_noDrying 11 = .ok (.iload_n 1, 1) := by decide +kernel
theorem dX4_noDrying_12 : decode cX4_noDrying 12 = .ok (.iconst 0, 1) := by decide +kernel
theorem dX4_noDrying_13 : decode cX4_noDrying 13 = .ok (.iload_n 0, 1) := by decide +kernel
theorem dX4_noDrying_14 : decode cX4_noDrying 14 = .ok (.invokestatic 65, 3) := by decide +kernel
theorem dX4_noDrying_17 : decode cX4_noDrying 17 = .ok (.ifCond .ne 13, 3) := by decide +kernel
theorem dX4_noDrying_20 : decode cX4_noDrying 20 = .ok (.iload_n 2, 1) := by decide +kernel
theorem dX4_noDrying_21 : decode cX4_noDrying 21 = .ok (.iconst 0, 1) := by decide +kernel
theorem dX4_noDrying_22 : decode cX4_noDrying 22 = .ok (.bipush 9, 2) := by decide +kernel
theorem dX4_noDrying_24 : decode cX4_noDrying 24 = .ok (.invokestatic 65, 3) := by decide +kernel
theorem dX4_noDrying_27 : decode cX4_noDrying 27 = .ok (.ifCond .eq 7, 3) := by decide +kernel
theorem dX4_noDrying_30 : decode cX4_noDrying 30 = .ok (.iconst 1, 1) := by decide +kernel
theorem dX4_noDrying_31 : decode cX4_noDrying 31 = .ok (.goto 4, 3) := by decide +kernel
theorem dX4_noDrying_34 : decode cX4_noDrying 34 = .ok (.iconst 0, 1) := by decide +kernel
theorem dX4_noDrying_35 : decode cX4_noDrying 35 = .ok (.ireturn, 1) := by decide +kernel
theorem dX4_dryUntil_0 : decode cX4_dryUntil 0 = .ok (.iconst 0, 1) := by decide +kernel
theorem dX4_dryUntil_1 : decode cX4_dryUntil 1 = .ok (.istore 6, 2) := by decide +kernel
theorem dX4_dryUntil_3 : decode cX4_dryUntil 3 = .ok (.iconst 0, 1) := by decide +kernel
theorem dX4_dryUntil_4 : decode cX4_dryUntil 4 = .ok (.istore 7, 2) := by decide +kernel
theorem dX4_dryUntil_6 : decode cX4_dryUntil 6 = .ok (.aload_n 0, 1) := by decide +kernel
theorem dX4_dryUntil_7 : decode cX4_dryUntil 7 = .ok (.iload_n 1, 1) := by decide +kernel
theorem dX4_dryUntil_8 : decode cX4_dryUntil 8 = .ok (.putfield 254, 3) := by decide +kernel
theorem dX4_dryUntil_11 : decode cX4_dryUntil 11 = .ok (.iload 7, 2) := by decide +kernel
theorem dX4_dryUntil_13 : decode cX4_dryUntil 13 = .ok (.iload 4, 2) := by decide +kernel
theorem dX4_dryUntil_15 : decode cX4_dryUntil 15 = .ok (.if_icmp .ge 62, 3) := by decide +kernel
theorem dX4_dryUntil_18 : decode cX4_dryUntil 18 = .ok (.aload_n 0, 1) := by decide +kernel
theorem dX4_dryUntil_19 : decode cX4_dryUntil 19 = .ok (.getfield 254, 3) := by decide +kernel
theorem dX4_dryUntil_22 : decode cX4_dryUntil 22 = .ok (.iload 5, 2) := by decide +kernel
theorem dX4_dryUntil_24 : decode cX4_dryUntil 24 = .ok (.if_icmp .le 53, 3) := by decide +kernel
theorem dX4_dryUntil_27 : decode cX4_dryUntil 27 = .ok (.aload_n 0, 1) := by decide +kernel
theorem dX4_dryUntil_28 : decode cX4_dryUntil 28 = .ok (.getfield 254, 3) := by decide +kernel
theorem dX4_dryUntil_31 : decode cX4_dryUntil 31 = .ok (.iload_n 2, 1) := by decide +kernel
theorem dX4_dryUntil_32 : decode cX4_dryUntil 32 = .ok (.isub, 1) := by decide +kernel
theorem dX4_dryUntil_33 : decode cX4_dryUntil 33 = .ok (.iconst 1, 1) := by decide +kernel
theorem dX4_dryUntil_34 : decode cX4_dryUntil 34 = .ok (.bipush 10, 2) := by decide +kernel
theorem dX4_dryUntil_36 : decode cX4_dryUntil 36 = .ok (.iload 6, 2) := by decide +kernel
theorem dX4_dryUntil_38 : decode cX4_dryUntil 38 = .ok (.iadd, 1) := by decide +kernel
theorem dX4_dryUntil_39 : decode cX4_dryUntil 39 = .ok (.invokestatic 242, 3) := by decide +kernel
theorem dX4_dryUntil_42 : decode cX4_dryUntil 42 = .ok (.idiv, 1) := by decide +kernel
theorem dX4_dryUntil_43 : decode cX4_dryUntil 43 = .ok (.istore 8, 2) := by decide +kernel
theorem dX4_dryUntil_45 : decode cX4_dryUntil 45 = .ok (.aload_n 0, 1) := by decide +kernel
theorem dX4_dryUntil_46 : decode cX4_dryUntil 46 = .ok (.dup, 1) := by decide +kernel
theorem dX4_dryUntil_47 : decode cX4_dryUntil 47 = .ok (.getfield 254, 3) := by decide +kernel
theorem dX4_dryUntil_50 : decode cX4_dryUntil 50 = .ok (.iload 8, 2) := by decide +kernel
theorem dX4_dryUntil_52 : decode cX4_dryUntil 52 = .ok (.isub, 1) := by decide +kernel
theorem dX4_dryUntil_53 : decode cX4_dryUntil 53 = .ok (.putfield 254, 3) := by decide +kernel
theorem dX4_dryUntil_56 : decode cX4_dryUntil 56 = .ok (.iload 8, 2) := by decide +kernel
theorem dX4_dryUntil_58 : decode cX4_dryUntil 58 = .ok (.iload_n 1, 1) := by decide +kernel
theorem dX4_dryUntil_59 : decode cX4_dryUntil 59 = .ok (.bipush 50, 2) := by decide +kernel
theorem dX4_dryUntil_61 : decode cX4_dryUntil 61 = .ok (.idiv, 1) := by decide +kernel
theorem dX4_dryUntil_62 : decode cX4_dryUntil 62 = .ok (.if_icmp .le 9, 3) := by decide +kernel
theorem dX4_dryUntil_65 : decode cX4_dryUntil 65 = .ok (.iload 6, 2) := by decide +kernel
theorem dX4_dryUntil_67 : decode cX4_dryUntil 67 = .ok (.iload_n 3, 1) := by decide +kernel
theorem dX4_dryUntil_68 : decode cX4_dryUntil 68 = .ok (.iadd, 1) := by decide +kernel
theorem dX4_dryUntil_69 : decode cX4_dryUntil 69 = .ok (.istore 6, 2) := by decide +kernel
theorem dX4_dryUntil_71 : decode cX4_dryUntil 71 = .ok (.iinc 7 1, 3) := by decide +kernel
theorem dX4_dryUntil_74 : decode cX4_dryUntil 74 = .ok (.goto (-63), 3) := by decide +kernel
theorem dX4_dryUntil_77 : decode cX4_dryUntil 77 = .ok (.iload 7, 2) := by decide +kernel
theorem dX4_dryUntil_79 : decode cX4_dryUntil 79 = .ok (.ireturn, 1) := by decide +kernel
theorem dX4_markEnd_0 : decode cX4_markEnd 0 = .ok (.aload_n 0, 1) := by decide +kernel
theorem dX4_markEnd_1 : decode cX4_markEnd 1 = .ok (.dup, 1) := by decide +kernel
theorem dX4_markEnd_2 : decode cX4_markEnd 2 = .ok (.getfield 285, 3) := by decide +kernel
theorem dX4_markEnd_5 : decode cX4_markEnd 5 = .ok (.lconst 1, 1) := by decide +kernel
theorem dX4_markEnd_6 : decode cX4_markEnd 6 = .ok (.ladd, 1) := by decide +kernel
theorem dX4_markEnd_7 : decode cX4_markEnd 7 = .ok (.putfield 285, 3) := by decide +kernel
theorem dX4_markEnd_10 : decode cX4_markEnd 10 = .ok (.aload_n 0, 1) := by decide +kernel
theorem dX4_markEnd_11 : decode cX4_markEnd 11 = .ok (.getfield 32, 3) := by decide +kernel
theorem dX4_markEnd_14 : decode cX4_markEnd 14 = .ok (.getfield 146, 3) := by decide +kernel
theorem dX4_markEnd_17 : decode cX4_markEnd 17 = .ok (.iload_n 1, 1) := by decide +kernel
theorem dX4_markEnd_18 : decode cX4_markEnd 18 = .ok (.iaload, 1) := by decide +kernel
theorem dX4_markEnd_19 : decode cX4_markEnd 19 = .ok (.ireturn, 1) := by decide +kernel
set_option maxRecDepth 20000 in
theorem ggX4_markWhole_X4_markEnd : GoodIn wsX4_markWhole wsX4_markEnd := goodIn_r _ [9, 1, 3, 10, 11, 12, 13, 14, 15, 16, 17, 18, 19, 20, 21, 22, 23, 24, 25, 26, 27, 28, 29, 30, 31, 32, 33, 34, 35] (by decide +kernel) (by decide +kernel)
set_option maxRecDepth 20000 in
theorem gX4_markWhole_X4_markEnd : GoodIn wsX4_markWhole (wsV RX4 264 RX4 yX4_markEnd wsX4_markEnd) := goodIn_app (goodIn_of _ (by decide +kernel)) ggX4_markWhole_X4_markEnd
theorem dX4_markWhole_0 : decode cX4_markWhole 0 = .ok (.aload_n 0, 1) := by decide +kernel
theorem dX4_markWhole_1 : decode cX4_markWhole 1 = .ok (.dup, 1) := by decide +kernel
theorem dX4_markWhole_2 : decode cX4_markWhole 2 = .ok (.getfield 285, 3) := by decide +kernel
theorem dX4_markWhole_5 : decode cX4_markWhole 5 = .ok (.ldc2_w 302, 3) := by decide +kernel
theorem dX4_markWhole_8 : decode cX4_markWhole 8 = .ok (.ladd, 1) := by decide +kernel
theorem dX4_markWhole_9 : decode cX4_markWhole 9 = .ok (.putfield 285, 3) := by decide +kernel
theorem dX4_markWhole_12 : decode cX4_markWhole 12 = .ok (.aload_n 0, 1) := by decide +kernel
theorem dX4_markWhole_13 : decode cX4_markWhole 13 = .ok (.iload_n 1, 1) := by decide +kernel
theorem dX4_markWhole_14 : decode cX4_markWhole 14 = .ok (.invokevirtual 264, 3) := by decide +kernel
theorem dX4_markWhole_17 : decode cX4_markWhole 17 = .ok (.aload_n 0, 1) := by decide +kernel
theorem dX4_markWhole_18 : decode cX4_markWhole 18 = .ok (.getfield 32, 3) := by decide +kernel
theorem dX4_markWhole_21 : decode cX4_markWhole 21 = .ok (.getfield 149, 3) := by decide +kernel
theorem dX4_markWhole_24 : decode cX4_markWhole 24 = .ok (.iload_n 1, 1) := by decide +kernel
theorem dX4_markWhole_25 : decode cX4_markWhole 25 = .ok (.iaload, 1) := by decide +kernel
theorem dX4_markWhole_26 : decode cX4_markWhole 26 = .ok (.iadd, 1) := by decide +kernel
theorem dX4_markWhole_27 : decode cX4_markWhole 27 = .ok (.ireturn, 1) := by decide +kernel
set_option maxRecDepth 20000 in
theorem ggX4_markSplit_X4_markEnd : GoodIn wsX4_markSplit wsX4_markEnd := goodIn_r _ [9, 1, 3, 10, 25, 26, 27, 28, 29, 30, 31, 32, 33, 34, 35, 36, 37, 38, 39, 40, 41, 42, 43, 44, 45, 46, 47, 48, 49] (by decide +kernel) (by decide +kernel)
set_option maxRecDepth 20000 in
theorem gX4_markSplit_X4_markEnd : GoodIn wsX4_markSplit (wsV RX4 264 RX4 yX4_markEnd wsX4_markEnd) := goodIn_app (goodIn_of _ (by decide +kernel)) ggX4_markSplit_X4_markEnd
set_option maxRecDepth 20000 in
theorem ggX4_markSplit_X1_pressIn : GoodIn wsX4_markSplit wsX1_pressIn := goodIn_r _ [15, 16, 17, 18, 19, 20, 21, 22, 23, 24, 39, 40, 41, 42, 43, 44, 45, 46, 47, 48, 49, 50, 51, 52, 53, 54, 55, 56, 57, 58, 59, 60, 61, 62] (by decide +kernel) (by decide +kernel)
set_option maxRecDepth 20000 in
theorem gX4_markSplit_X1_pressIn : GoodIn wsX4_markSplit (wsV RX4 156 RX1 yX1_pressIn wsX1_pressIn) := goodIn_app (goodIn_of _ (by decide +kernel)) ggX4_markSplit_X1_pressIn
theorem dX4_markSplit_0 : decode cX4_markSplit 0 = .ok (.aload_n 0, 1) := by decide +kernel
theorem dX4_markSplit_1 : decode cX4_markSplit 1 = .ok (.dup, 1) := by decide +kernel
theorem dX4_markSplit_2 : decode cX4_markSplit 2 = .ok (.getfield 285, 3) := by decide +kernel
theorem dX4_markSplit_5 : decode cX4_markSplit 5 = .ok (.ldc2_w 304, 3) := by decide +kernel
theorem dX4_markSplit_8 : decode cX4_markSplit 8 = .ok (.ladd, 1) := by decide +kernel
theorem dX4_markSplit_9 : decode cX4_markSplit 9 = .ok (.putfield 285, 3) := by decide +kernel
theorem dX4_markSplit_12 : decode cX4_markSplit 12 = .ok (.aload_n 0, 1) := by decide +kernel
theorem dX4_markSplit_13 : decode cX4_markSplit 13 = .ok (.iload_n 1, 1) := by decide +kernel
theorem dX4_markSplit_14 : decode cX4_markSplit 14 = .ok (.invokevirtual 264, 3) := by decide +kernel
theorem dX4_markSplit_17 : decode cX4_markSplit 17 = .ok (.aload_n 0, 1) := by decide +kernel
theorem dX4_markSplit_18 : decode cX4_markSplit 18 = .ok (.getfield 32, 3) := by decide +kernel
theorem dX4_markSplit_21 : decode cX4_markSplit 21 = .ok (.aload_n 0, 1) := by decide +kernel
theorem dX4_markSplit_22 : decode cX4_markSplit 22 = .ok (.getfield 10, 3) := by decide +kernel
theorem dX4_markSplit_25 : decode cX4_markSplit 25 = .ok (.invokevirtual 156, 3) := by decide +kernel
theorem dX4_markSplit_28 : decode cX4_markSplit 28 = .ok (.isub, 1) := by decide +kernel
theorem dX4_markSplit_29 : decode cX4_markSplit 29 = .ok (.ireturn, 1) := by decide +kernel
set_option maxRecDepth 20000 in
theorem ggX4_markCurled_X4_markSplit : GoodIn wsX4_markCurled wsX4_markSplit := goodIn_r _ [7, 1, 8, 9, 10, 11, 12, 13, 6, 14, 15, 16, 17, 18, 19, 20, 21, 22, 23, 24, 25, 26, 27, 28, 29, 30, 31, 32, 33, 34, 35, 36, 37, 38, 39, 40, 41, 42, 43, 44, 45, 46, 47, 48, 49, 50, 51, 52, 53, 54, 55, 56, 57, 58, 59, 60, 61, 62, 63, 64, 65, 66, 67] (by decide +kernel) (by decide +kernel)
set_option maxRecDepth 20000 in
theorem gX4_markCurled_X4_markSplit : GoodIn wsX4_markCurled (wsV RX4 270 RX4 yX4_markSplit wsX4_markSplit) := goodIn_app (goodIn_of _ (by decide +kernel)) ggX4_markCurled_X4_markSplit
theorem dX4_markCurled_0 : decode cX4_markCurled 0 = .ok (.aload_n 0, 1) := by decide +kernel
theorem dX4_markCurled_1 : decode cX4_markCurled 1 = .ok (.dup, 1) := by decide +kernel
theorem dX4_markCurled_2 : decode cX4_markCurled 2 = .ok (.getfield 285, 3) := by decide +kernel
theorem dX4_markCurled_5 : decode cX4_markCurled 5 = .ok (.ldc2_w 306, 3) := by decide +kernel
theorem dX4_markCurled_8 : decode cX4_markCurled 8 = .ok (.ladd, 1) := by decide +kernel
theorem dX4_markCurled_9 : decode cX4_markCurled 9 = .ok (.putfield 285, 3) := by decide +kernel
theorem dX4_markCurled_12 : decode cX4_markCurled 12 = .ok (.aload_n 0, 1) := by decide +kernel
theorem dX4_markCurled_13 : decode cX4_markCurled 13 = .ok (.iload_n 1, 1) := by decide +kernel
theorem dX4_markCurled_14 : decode cX4_markCurled 14 = .ok (.invokevirtual 270, 3) := by decide +kernel
theorem dX4_markCurled_17 : decode cX4_markCurled 17 = .ok (.iconst 2, 1) := by decide +kernel
theorem dX4_markCurled_18 : decode cX4_markCurled 18 = .ok (.imul, 1) := by decide +kernel
theorem dX4_markCurled_19 : decode cX4_markCurled 19 = .ok (.ireturn, 1) := by decide +kernel
set_option maxRecDepth 20000 in
theorem ggX4_markPale_X4_markWhole : GoodIn wsX4_markPale wsX4_markWhole := goodIn_r _ [9, 1, 10, 3, 11, 12, 13, 14, 8, 15, 16, 17, 18, 19, 20, 21, 22, 23, 24, 25, 26, 27, 28, 29, 30, 31, 32, 33, 34, 35, 36, 37, 38, 39, 40, 41] (by decide +kernel) (by decide +kernel)
set_option maxRecDepth 20000 in
theorem gX4_markPale_X4_markWhole : GoodIn wsX4_markPale (wsV RX4 267 RX4 yX4_markWhole wsX4_markWhole) := goodIn_app (goodIn_of _ (by decide +kernel)) ggX4_markPale_X4_markWhole
theorem dX4_markPale_0 : decode cX4_markPale 0 = .ok (.aload_n 0, 1) := by decide +kernel
theorem dX4_markPale_1 : decode cX4_markPale 1 = .ok (.dup, 1) := by decide +kernel
theorem dX4_markPale_2 : decode cX4_markPale 2 = .ok (.getfield 285, 3) := by decide +kernel
theorem dX4_markPale_5 : decode cX4_markPale 5 = .ok (.ldc2_w 308, 3) := by decide +kernel
theorem dX4_markPale_8 : decode cX4_markPale 8 = .ok (.ladd, 1) := by decide +kernel
theorem dX4_markPale_9 : decode cX4_markPale 9 = .ok (.putfield 285, 3) := by decide +kernel
theorem dX4_markPale_12 : decode cX4_markPale 12 = .ok (.aload_n 0, 1) := by decide +kernel
theorem dX4_markPale_13 : decode cX4_markPale 13 = .ok (.iload_n 1, 1) := by decide +kernel
theorem dX4_markPale_14 : decode cX4_markPale 14 = .ok (.invokevirtual 267, 3) := by decide +kernel
theorem dX4_markPale_17 : decode cX4_markPale 17 = .ok (.aload_n 0, 1) := by decide +kernel
theorem dX4_markPale_18 : decode cX4_markPale 18 = .ok (.getfield 32, 3) := by decide +kernel
theorem dX4_markPale_21 : decode cX4_markPale 21 = .ok (.getfield 163, 3) := by decide +kernel
theorem dX4_markPale_24 : decode cX4_markPale 24 = .ok (.isub, 1) := by decide +kernel
theorem dX4_markPale_25 : decode cX4_markPale 25 = .ok (.ireturn, 1) := by decide +kernel
set_option maxRecDepth 20000 in
theorem ggX4_markDried_X4_markEnd : GoodIn wsX4_markDried wsX4_markEnd := goodIn_r _ [9, 1, 3, 10, 11, 12, 13, 14, 15, 16, 17, 18, 19, 20, 21, 22, 23, 24, 25, 26, 27, 28, 29, 30, 31, 32, 33, 34, 35] (by decide +kernel) (by decide +kernel)
set_option maxRecDepth 20000 in
theorem gX4_markDried_X4_markEnd : GoodIn wsX4_markDried (wsV RX4 264 RX4 yX4_markEnd wsX4_markEnd) := goodIn_app (goodIn_of _ (by decide +kernel)) ggX4_markDried_X4_markEnd
theorem dX4_markDried_0 : decode cX4_markDried 0 = .ok (.aload_n 0, 1) := by decide +kernel
theorem dX4_markDried_1 : decode cX4_markDried 1 = .ok (.dup, 1) := by decide +kernel
theorem dX4_markDried_2 : decode cX4_markDried 2 = .ok (.getfield 285, 3) := by decide +kernel
theorem dX4_markDried_5 : decode cX4_markDried 5 = .ok (.ldc2_w 310, 3) := by decide +kernel
theorem dX4_markDried_8 : decode cX4_markDried 8 = .ok (.ladd, 1) := by decide +kernel
theorem dX4_markDried_9 : decode cX4_markDried 9 = .ok (.putfield 285, 3) := by decide +kernel
theorem dX4_markDried_12 : decode cX4_markDried 12 = .ok (.aload_n 0, 1) := by decide +kernel
theorem dX4_markDried_13 : decode cX4_markDried 13 = .ok (.iload_n 1, 1) := by decide +kernel
theorem dX4_markDried_14 : decode cX4_markDried 14 = .ok (.invokevirtual 264, 3) := by decide +kernel
theorem dX4_markDried_17 : decode cX4_markDried 17 = .ok (.aload_n 0, 1) := by decide +kernel
theorem dX4_markDried_18 : decode cX4_markDried 18 = .ok (.getfield 32, 3) := by decide +kernel
theorem dX4_markDried_21 : decode cX4_markDried 21 = .ok (.getfield 166, 3) := by decide +kernel
theorem dX4_markDried_24 : decode cX4_markDried 24 = .ok (.iadd, 1) := by decide +kernel
theorem dX4_markDried_25 : decode cX4_markDried 25 = .ok (.ireturn, 1) := by decide +kernel
