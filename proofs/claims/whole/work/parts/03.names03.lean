set_option maxRecDepth 20000 in
theorem ggX0_init_X1_init : GoodIn wsX0_init wsX1_init := goodIn_r _ [9, 10, 2, 3, 11, 12, 13, 14, 15, 16, 17, 18, 19, 20, 21, 22, 23, 24] (by decide +kernel) (by decide +kernel)
set_option maxRecDepth 20000 in
theorem gX0_init_X1_init_n11 : GoodIn wsX0_init (wsX1_init) := ggX0_init_X1_init
theorem dX0_init_0 : decode cX0_init 0 = .ok (.aload_n 0, 1) := by decide +kernel
theorem dX0_init_1 : decode cX0_init 1 = .ok (.invokespecial 3, 3) := by decide +kernel
theorem dX0_init_4 : decode cX0_init 4 = .ok (.aload_n 0, 1) := by decide +kernel
theorem dX0_init_5 : decode cX0_init 5 = .ok (.new 9, 3) := by decide +kernel
theorem dX0_init_8 : decode cX0_init 8 = .ok (.dup, 1) := by decide +kernel
theorem dX0_init_9 : decode cX0_init 9 = .ok (.invokespecial 11, 3) := by decide +kernel
theorem dX0_init_12 : decode cX0_init 12 = .ok (.putfield 12, 3) := by decide +kernel
theorem dX0_init_15 : decode cX0_init 15 = .ok (.return_, 1) := by decide +kernel
set_option maxRecDepth 20000 in
theorem ggX0_begin_X1_begin : GoodIn wsX0_begin wsX1_begin := goodIn_r _ [11, 12, 13, 14, 15, 16, 17, 18, 19, 20, 21, 22, 23, 29, 30, 31, 32, 33, 34, 35, 36, 37, 38, 39, 40, 41, 42, 43, 44, 45, 46, 47, 48, 49, 50, 51, 52] (by decide +kernel) (by decide +kernel)
set_option maxRecDepth 20000 in
theorem gX0_begin_X1_begin : GoodIn wsX0_begin (wsV RX0 18 RX1 yX1_begin wsX1_begin) := goodIn_app (goodIn_of _ (by decide +kernel)) ggX0_begin_X1_begin
theorem dX0_begin_0 : decode cX0_begin 0 = .ok (.aload_n 0, 1) := by decide +kernel
theorem dX0_begin_1 : decode cX0_begin 1 = .ok (.getfield 12, 3) := by decide +kernel
theorem dX0_begin_4 : decode cX0_begin 4 = .ok (.aload_n 1, 1) := by decide +kernel
theorem dX0_begin_5 : decode cX0_begin 5 = .ok (.invokevirtual 18, 3) := by decide +kernel
theorem dX0_begin_8 : decode cX0_begin 8 = .ok (.aload_n 0, 1) := by decide +kernel
theorem dX0_begin_9 : decode cX0_begin 9 = .ok (.getfield 12, 3) := by decide +kernel
theorem dX0_begin_12 : decode cX0_begin 12 = .ok (.iload_n 2, 1) := by decide +kernel
theorem dX0_begin_13 : decode cX0_begin 13 = .ok (.putfield 22, 3) := by decide +kernel
theorem dX0_begin_16 : decode cX0_begin 16 = .ok (.aload_n 0, 1) := by decide +kernel
theorem dX0_begin_17 : decode cX0_begin 17 = .ok (.bipush (-9), 2) := by decide +kernel
theorem dX0_begin_19 : decode cX0_begin 19 = .ok (.putfield 26, 3) := by decide +kernel
theorem dX0_begin_22 : decode cX0_begin 22 = .ok (.aload_n 0, 1) := by decide +kernel
theorem dX0_begin_23 : decode cX0_begin 23 = .ok (.iconst 0, 1) := by decide +kernel
theorem dX0_begin_24 : decode cX0_begin 24 = .ok (.putfield 29, 3) := by decide +kernel
theorem dX0_begin_27 : decode cX0_begin 27 = .ok (.aload_n 0, 1) := by decide +kernel
theorem dX0_begin_28 : decode cX0_begin 28 = .ok (.bipush (-9), 2) := by decide +kernel
theorem dX0_begin_30 : decode cX0_begin 30 = .ok (.putfield 32, 3) := by decide +kernel
theorem dX0_begin_33 : decode cX0_begin 33 = .ok (.aload_n 0, 1) := by decide +kernel
theorem dX0_begin_34 : decode cX0_begin 34 = .ok (.bipush (-9), 2) := by decide +kernel
theorem dX0_begin_36 : decode cX0_begin 36 = .ok (.putfield 35, 3) := by decide +kernel
theorem dX0_begin_39 : decode cX0_begin 39 = .ok (.return_, 1) := by decide +kernel
set_option maxRecDepth 20000 in
theorem ggX0_pass_X1_pass : GoodIn wsX0_pass wsX1_pass := goodIn_r _ [13, 14, 15, 16, 17, 18, 12, 19, 20, 21, 22, 23, 24, 25, 26, 27, 28, 29, 30, 31, 32, 33, 34, 35, 36, 37, 38, 39, 40, 41, 42, 43, 44, 45, 46, 47, 48, 49, 50, 51, 52, 53, 54, 55, 56, 57, 58, 59, 60, 61, 62, 63, 64, 65, 66, 67, 68, 69, 70, 71, 72, 73, 74, 75, 76, 77, 78, 79, 85, 86, 87, 88, 89, 90, 91, 92, 93, 94, 95, 96, 97, 98, 99, 100, 101, 102, 103, 104, 105, 106, 107, 108] (by decide +kernel) (by decide +kernel)
set_option maxRecDepth 20000 in
theorem gX0_pass_X1_pass : GoodIn wsX0_pass (wsV RX0 38 RX1 yX1_pass wsX1_pass) := goodIn_app (goodIn_of _ (by decide +kernel)) ggX0_pass_X1_pass
theorem dX0_pass_0 : decode cX0_pass 0 = .ok (.aload_n 0, 1) := by decide +kernel
theorem dX0_pass_1 : decode cX0_pass 1 = .ok (.getfield 12, 3) := by decide +kernel
theorem dX0_pass_4 : decode cX0_pass 4 = .ok (.aload_n 1, 1) := by decide +kernel
theorem dX0_pass_5 : decode cX0_pass 5 = .ok (.iload_n 2, 1) := by decide +kernel
theorem dX0_pass_6 : decode cX0_pass 6 = .ok (.iload_n 3, 1) := by decide +kernel
theorem dX0_pass_7 : decode cX0_pass 7 = .ok (.invokevirtual 38, 3) := by decide +kernel
theorem dX0_pass_10 : decode cX0_pass 10 = .ok (.istore 4, 2) := by decide +kernel
theorem dX0_pass_12 : decode cX0_pass 12 = .ok (.aload_n 0, 1) := by decide +kernel
theorem dX0_pass_13 : decode cX0_pass 13 = .ok (.getfield 32, 3) := by decide +kernel
theorem dX0_pass_16 : decode cX0_pass 16 = .ok (.bipush (-9), 2) := by decide +kernel
theorem dX0_pass_18 : decode cX0_pass 18 = .ok (.if_icmp .eq 12, 3) := by decide +kernel
theorem dX0_pass_21 : decode cX0_pass 21 = .ok (.iload 4, 2) := by decide +kernel
theorem dX0_pass_23 : decode cX0_pass 23 = .ok (.aload_n 0, 1) := by decide +kernel
theorem dX0_pass_24 : decode cX0_pass 24 = .ok (.getfield 29, 3) := by decide +kernel
theorem dX0_pass_27 : decode cX0_pass 27 = .ok (.if_icmp .le 20, 3) := by decide +kernel
theorem dX0_pass_30 : decode cX0_pass 30 = .ok (.aload_n 0, 1) := by decide +kernel
theorem dX0_pass_31 : decode cX0_pass 31 = .ok (.iload 4, 2) := by decide +kernel
theorem dX0_pass_33 : decode cX0_pass 33 = .ok (.putfield 29, 3) := by decide +kernel
theorem dX0_pass_36 : decode cX0_pass 36 = .ok (.aload_n 0, 1) := by decide +kernel
theorem dX0_pass_37 : decode cX0_pass 37 = .ok (.aload_n 0, 1) := by decide +kernel
theorem dX0_pass_38 : decode cX0_pass 38 = .ok (.getfield 12, 3) := by decide +kernel
theorem dX0_pass_41 : decode cX0_pass 41 = .ok (.getfield 42, 3) := by decide +kernel
theorem dX0_pass_44 : decode cX0_pass 44 = .ok (.putfield 32, 3) := by decide +kernel
theorem dX0_pass_47 : decode cX0_pass 47 = .ok (.aload_n 0, 1) := by decide +kernel
theorem dX0_pass_48 : decode cX0_pass 48 = .ok (.getfield 35, 3) := by decide +kernel
theorem dX0_pass_51 : decode cX0_pass 51 = .ok (.bipush (-9), 2) := by decide +kernel
theorem dX0_pass_53 : decode cX0_pass 53 = .ok (.if_icmp .ne 24, 3) := by decide +kernel
theorem dX0_pass_56 : decode cX0_pass 56 = .ok (.aload_n 0, 1) := by decide +kernel
theorem dX0_pass_57 : decode cX0_pass 57 = .ok (.getfield 12, 3) := by decide +kernel
theorem dX0_pass_60 : decode cX0_pass 60 = .ok (.getfield 45, 3) := by decide +kernel
theorem dX0_pass_63 : decode cX0_pass 63 = .ok (.ifCond .le 14, 3) := by decide +kernel
theorem dX0_pass_66 : decode cX0_pass 66 = .ok (.aload_n 0, 1) := by decide +kernel
theorem dX0_pass_67 : decode cX0_pass 67 = .ok (.aload_n 0, 1) := by decide +kernel
theorem dX0_pass_68 : decode cX0_pass 68 = .ok (.getfield 12, 3) := by decide +kernel
theorem dX0_pass_71 : decode cX0_pass 71 = .ok (.getfield 42, 3) := by decide +kernel
theorem dX0_pass_74 : decode cX0_pass 74 = .ok (.putfield 35, 3) := by decide +kernel
theorem dX0_pass_77 : decode cX0_pass 77 = .ok (.aload_n 0, 1) := by decide +kernel
theorem dX0_pass_78 : decode cX0_pass 78 = .ok (.getfield 26, 3) := by decide +kernel
theorem dX0_pass_81 : decode cX0_pass 81 = .ok (.bipush (-9), 2) := by decide +kernel
theorem dX0_pass_83 : decode cX0_pass 83 = .ok (.if_icmp .ne 24, 3) := by decide +kernel
theorem dX0_pass_86 : decode cX0_pass 86 = .ok (.aload_n 0, 1) := by decide +kernel
theorem dX0_pass_87 : decode cX0_pass 87 = .ok (.getfield 12, 3) := by decide +kernel
theorem dX0_pass_90 : decode cX0_pass 90 = .ok (.getfield 48, 3) := by decide +kernel
theorem dX0_pass_93 : decode cX0_pass 93 = .ok (.ifCond .eq 14, 3) := by decide +kernel
theorem dX0_pass_96 : decode cX0_pass 96 = .ok (.aload_n 0, 1) := by decide +kernel
theorem dX0_pass_97 : decode cX0_pass 97 = .ok (.aload_n 0, 1) := by decide +kernel
theorem dX0_pass_98 : decode cX0_pass 98 = .ok (.getfield 12, 3) := by decide +kernel
theorem dX0_pass_101 : decode cX0_pass 101 = .ok (.getfield 42, 3) := by decide +kernel
theorem dX0_pass_104 : decode cX0_pass 104 = .ok (.putfield 26, 3) := by decide +kernel
theorem dX0_pass_107 : decode cX0_pass 107 = .ok (.return_, 1) := by decide +kernel
set_option maxRecDepth 20000 in
theorem ggX0_follow_X1_turnBy : GoodIn wsX0_follow wsX1_turnBy := goodIn_r _ [12, 13, 115, 116, 117, 118, 119, 120, 121, 122, 123, 124, 125] (by decide +kernel) (by decide +kernel)
set_option maxRecDepth 20000 in
theorem gX0_follow_X1_turnBy : GoodIn wsX0_follow (wsV RX0 63 RX1 yX1_turnBy wsX1_turnBy) := goodIn_app (goodIn_of _ (by decide +kernel)) ggX0_follow_X1_turnBy
set_option maxRecDepth 20000 in
theorem ggX0_follow_X1_prickBy : GoodIn wsX0_follow wsX1_prickBy := goodIn_r _ [17, 18, 19, 20, 21, 22, 115, 116, 117, 118, 119, 120, 121, 122, 123, 124, 125] (by decide +kernel) (by decide +kernel)
set_option maxRecDepth 20000 in
theorem gX0_follow_X1_prickBy : GoodIn wsX0_follow (wsV RX0 67 RX1 yX1_prickBy wsX1_prickBy) := goodIn_app (goodIn_of _ (by decide +kernel)) ggX0_follow_X1_prickBy
set_option maxRecDepth 20000 in
theorem ggX0_follow_X0_pass : GoodIn wsX0_follow wsX0_pass := goodIn_r _ [27, 4, 28, 29, 6, 30, 31, 32, 7, 33, 34, 35, 11, 36, 37, 38, 39, 40, 41, 42, 13, 43, 44, 45, 46, 47, 48, 49, 50, 51, 52, 53, 54, 55, 21, 56, 57, 58, 59, 60, 61, 62, 18, 63, 64, 65, 66, 67, 19, 20, 22, 68, 69, 70, 71, 72, 73, 74, 75, 76, 77, 78, 79, 80, 81, 82, 83, 84, 85, 86, 87, 88, 89, 90, 91, 92, 93, 94, 95, 96, 110, 111, 112, 113, 114, 115, 116, 117, 118, 119, 120, 121, 122, 123, 124, 125, 97, 98, 99, 100, 101, 102, 103, 104, 105, 106, 107, 108, 109] (by decide +kernel) (by decide +kernel)
set_option maxRecDepth 20000 in
theorem gX0_follow_X0_pass : GoodIn wsX0_follow (wsV RX0 72 RX0 yX0_pass wsX0_pass) := goodIn_app (goodIn_of _ (by decide +kernel)) ggX0_follow_X0_pass
theorem dX0_follow_0 : decode cX0_follow 0 = .ok (.iconst 0, 1) := by decide +kernel
theorem dX0_follow_1 : decode cX0_follow 1 = .ok (.istore 4, 2) := by decide +kernel
theorem dX0_follow_3 : decode cX0_follow 3 = .ok (.iload 4, 2) := by decide +kernel
theorem dX0_follow_5 : decode cX0_follow 5 = .ok (.aload_n 1, 1) := by decide +kernel
theorem dX0_follow_6 : decode cX0_follow 6 = .ok (.getfield 51, 3) := by decide +kernel
theorem dX0_follow_9 : decode cX0_follow 9 = .ok (.if_icmp .ge 123, 3) := by decide +kernel
theorem dX0_follow_12 : decode cX0_follow 12 = .ok (.iload 4, 2) := by decide +kernel
theorem dX0_follow_14 : decode cX0_follow 14 = .ok (.bipush 12, 2) := by decide +kernel
theorem dX0_follow_16 : decode cX0_follow 16 = .ok (.if_icmp .ge 116, 3) := by decide +kernel
theorem dX0_follow_19 : decode cX0_follow 19 = .ok (.aload_n 1, 1) := by decide +kernel
theorem dX0_follow_20 : decode cX0_follow 20 = .ok (.getfield 56, 3) := by decide +kernel
theorem dX0_follow_23 : decode cX0_follow 23 = .ok (.iload 4, 2) := by decide +kernel
theorem dX0_follow_25 : decode cX0_follow 25 = .ok (.iaload, 1) := by decide +kernel
theorem dX0_follow_26 : decode cX0_follow 26 = .ok (.istore 5, 2) := by decide +kernel
theorem dX0_follow_28 : decode cX0_follow 28 = .ok (.aload_n 1, 1) := by decide +kernel
theorem dX0_follow_29 : decode cX0_follow 29 = .ok (.getfield 60, 3) := by decide +kernel
theorem dX0_follow_32 : decode cX0_follow 32 = .ok (.iload 4, 2) := by decide +kernel
theorem dX0_follow_34 : decode cX0_follow 34 = .ok (.iaload, 1) := by decide +kernel
theorem dX0_follow_35 : decode cX0_follow 35 = .ok (.istore 6, 2) := by decide +kernel
theorem dX0_follow_37 : decode cX0_follow 37 = .ok (.iload 5, 2) := by decide +kernel
theorem dX0_follow_39 : decode cX0_follow 39 = .ok (.iconst 1, 1) := by decide +kernel
theorem dX0_follow_40 : decode cX0_follow 40 = .ok (.if_icmp .ne 15, 3) := by decide +kernel
theorem dX0_follow_43 : decode cX0_follow 43 = .ok (.aload_n 0, 1) := by decide +kernel
theorem dX0_follow_44 : decode cX0_follow 44 = .ok (.getfield 12, 3) := by decide +kernel
theorem dX0_follow_47 : decode cX0_follow 47 = .ok (.iload 6, 2) := by decide +kernel
theorem dX0_follow_49 : decode cX0_follow 49 = .ok (.invokevirtual 63, 3) := by decide +kernel
theorem dX0_follow_52 : decode cX0_follow 52 = .ok (.goto 18, 3) := by decide +kernel
theorem dX0_follow_55 : decode cX0_follow 55 = .ok (.iload 5, 2) := by decide +kernel
theorem dX0_follow_57 : decode cX0_follow 57 = .ok (.iconst 2, 1) := by decide +kernel
theorem dX0_follow_58 : decode cX0_follow 58 = .ok (.if_icmp .ne 12, 3) := by decide +kernel
theorem dX0_follow_61 : decode cX0_follow 61 = .ok (.aload_n 0, 1) := by decide +kernel
theorem dX0_follow_62 : decode cX0_follow 62 = .ok (.getfield 12, 3) := by decide +kernel
theorem dX0_follow_65 : decode cX0_follow 65 = .ok (.iload 6, 2) := by decide +kernel
theorem dX0_follow_67 : decode cX0_follow 67 = .ok (.invokevirtual 67, 3) := by decide +kernel
theorem dX0_follow_70 : decode cX0_follow 70 = .ok (.iconst 0, 1) := by decide +kernel
theorem dX0_follow_71 : decode cX0_follow 71 = .ok (.istore 7, 2) := by decide +kernel
theorem dX0_follow_73 : decode cX0_follow 73 = .ok (.iload 7, 2) := by decide +kernel
theorem dX0_follow_75 : decode cX0_follow 75 = .ok (.aload_n 1, 1) := by decide +kernel
theorem dX0_follow_76 : decode cX0_follow 76 = .ok (.getfield 70, 3) := by decide +kernel
theorem dX0_follow_79 : decode cX0_follow 79 = .ok (.iload 4, 2) := by decide +kernel
theorem dX0_follow_81 : decode cX0_follow 81 = .ok (.iaload, 1) := by decide +kernel
theorem dX0_follow_82 : decode cX0_follow 82 = .ok (.if_icmp .ge 44, 3) := by decide +kernel
theorem dX0_follow_85 : decode cX0_follow 85 = .ok (.aload_n 0, 1) := by decide +kernel
theorem dX0_follow_86 : decode cX0_follow 86 = .ok (.getfield 12, 3) := by decide +kernel
theorem dX0_follow_89 : decode cX0_follow 89 = .ok (.getfield 42, 3) := by decide +kernel
theorem dX0_follow_92 : decode cX0_follow 92 = .ok (.iload_n 2, 1) := by decide +kernel
theorem dX0_follow_93 : decode cX0_follow 93 = .ok (.if_icmp .ge 33, 3) := by decide +kernel
theorem dX0_follow_96 : decode cX0_follow 96 = .ok (.iload_n 3, 1) := by decide +kernel
theorem dX0_follow_97 : decode cX0_follow 97 = .ok (.ifCond .eq 14, 3) := by decide +kernel
theorem dX0_follow_100 : decode cX0_follow 100 = .ok (.aload_n 0, 1) := by decide +kernel
theorem dX0_follow_101 : decode cX0_follow 101 = .ok (.getfield 12, 3) := by decide +kernel
theorem dX0_follow_104 : decode cX0_follow 104 = .ok (.getfield 48, 3) := by decide +kernel
theorem dX0_follow_107 : decode cX0_follow 107 = .ok (.ifCond .eq 4, 3) := by decide +kernel
theorem dX0_follow_110 : decode cX0_follow 110 = .ok (.return_, 1) := by decide +kernel
theorem dX0_follow_111 : decode cX0_follow 111 = .ok (.aload_n 0, 1) := by decide +kernel
theorem dX0_follow_112 : decode cX0_follow 112 = .ok (.aload_n 1, 1) := by decide +kernel
theorem dX0_follow_113 : decode cX0_follow 113 = .ok (.iload 5, 2) := by decide +kernel
theorem dX0_follow_115 : decode cX0_follow 115 = .ok (.iload 6, 2) := by decide +kernel
theorem dX0_follow_117 : decode cX0_follow 117 = .ok (.invokevirtual 72, 3) := by decide +kernel
theorem dX0_follow_120 : decode cX0_follow 120 = .ok (.iinc 7 1, 3) := by decide +kernel
theorem dX0_follow_123 : decode cX0_follow 123 = .ok (.goto (-50), 3) := by decide +kernel
theorem dX0_follow_126 : decode cX0_follow 126 = .ok (.iinc 4 1, 3) := by decide +kernel
theorem dX0_follow_129 : decode cX0_follow 129 = .ok (.goto (-126), 3) := by decide +kernel
theorem dX0_follow_132 : decode cX0_follow 132 = .ok (.return_, 1) := by decide +kernel
set_option maxRecDepth 20000 in
theorem ggX0_turnEach_X1_turnBy : GoodIn wsX0_turnEach wsX1_turnBy := goodIn_r _ [7, 8, 94, 95, 96, 97, 98, 99, 100, 101, 102, 103, 104] (by decide +kernel) (by decide +kernel)
set_option maxRecDepth 20000 in
theorem gX0_turnEach_X1_turnBy : GoodIn wsX0_turnEach (wsV RX0 63 RX1 yX1_turnBy wsX1_turnBy) := goodIn_app (goodIn_of _ (by decide +kernel)) ggX0_turnEach_X1_turnBy
set_option maxRecDepth 20000 in
theorem ggX0_turnEach_X0_pass : GoodIn wsX0_turnEach wsX0_pass := goodIn_r _ [13, 1, 14, 15, 16, 17, 18, 19, 2, 20, 21, 22, 6, 23, 24, 25, 26, 27, 28, 29, 8, 30, 31, 32, 33, 34, 35, 36, 37, 38, 39, 40, 41, 42, 43, 44, 45, 46, 47, 48, 49, 50, 51, 52, 53, 54, 55, 56, 57, 58, 59, 60, 61, 62, 63, 64, 65, 66, 67, 68, 69, 70, 71, 72, 73, 74, 75, 76, 77, 78, 79, 80, 81, 82, 83, 84, 85, 86, 87, 88, 89, 90, 91, 92, 93, 94, 95, 96, 97, 98, 99, 100, 101, 102, 103, 104, 105, 106, 107, 108, 109, 110, 111, 112, 113, 114, 115, 116, 117] (by decide +kernel) (by decide +kernel)
set_option maxRecDepth 20000 in
theorem gX0_turnEach_X0_pass : GoodIn wsX0_turnEach (wsV RX0 72 RX0 yX0_pass wsX0_pass) := goodIn_app (goodIn_of _ (by decide +kernel)) ggX0_turnEach_X0_pass
theorem dX0_turnEach_0 : decode cX0_turnEach 0 = .ok (.iconst 0, 1) := by decide +kernel
theorem dX0_turnEach_1 : decode cX0_turnEach 1 = .ok (.istore 5, 2) := by decide +kernel
theorem dX0_turnEach_3 : decode cX0_turnEach 3 = .ok (.iconst 0, 1) := by decide +kernel
theorem dX0_turnEach_4 : decode cX0_turnEach 4 = .ok (.istore 6, 2) := by decide +kernel
theorem dX0_turnEach_6 : decode cX0_turnEach 6 = .ok (.iload 6, 2) := by decide +kernel
theorem dX0_turnEach_8 : decode cX0_turnEach 8 = .ok (.iload_n 2, 1) := by decide +kernel
theorem dX0_turnEach_9 : decode cX0_turnEach 9 = .ok (.if_icmp .ge 47, 3) := by decide +kernel
theorem dX0_turnEach_12 : decode cX0_turnEach 12 = .ok (.aload_n 0, 1) := by decide +kernel
theorem dX0_turnEach_13 : decode cX0_turnEach 13 = .ok (.getfield 12, 3) := by decide +kernel
theorem dX0_turnEach_16 : decode cX0_turnEach 16 = .ok (.getfield 48, 3) := by decide +kernel
theorem dX0_turnEach_19 : decode cX0_turnEach 19 = .ok (.ifCond .ne 37, 3) := by decide +kernel
theorem dX0_turnEach_22 : decode cX0_turnEach 22 = .ok (.iload 5, 2) := by decide +kernel
theorem dX0_turnEach_24 : decode cX0_turnEach 24 = .ok (.iload 4, 2) := by decide +kernel
theorem dX0_turnEach_26 : decode cX0_turnEach 26 = .ok (.if_icmp .ne 14, 3) := by decide +kernel
theorem dX0_turnEach_29 : decode cX0_turnEach 29 = .ok (.aload_n 0, 1) := by decide +kernel
theorem dX0_turnEach_30 : decode cX0_turnEach 30 = .ok (.getfield 12, 3) := by decide +kernel
theorem dX0_turnEach_33 : decode cX0_turnEach 33 = .ok (.iconst 1, 1) := by decide +kernel
theorem dX0_turnEach_34 : decode cX0_turnEach 34 = .ok (.invokevirtual 63, 3) := by decide +kernel
theorem dX0_turnEach_37 : decode cX0_turnEach 37 = .ok (.iconst 0, 1) := by decide +kernel
theorem dX0_turnEach_38 : decode cX0_turnEach 38 = .ok (.istore 5, 2) := by decide +kernel
theorem dX0_turnEach_40 : decode cX0_turnEach 40 = .ok (.aload_n 0, 1) := by decide +kernel
theorem dX0_turnEach_41 : decode cX0_turnEach 41 = .ok (.aload_n 1, 1) := by decide +kernel
theorem dX0_turnEach_42 : decode cX0_turnEach 42 = .ok (.iconst 0, 1) := by decide +kernel
theorem dX0_turnEach_43 : decode cX0_turnEach 43 = .ok (.iload_n 3, 1) := by decide +kernel
theorem dX0_turnEach_44 : decode cX0_turnEach 44 = .ok (.invokevirtual 72, 3) := by decide +kernel
theorem dX0_turnEach_47 : decode cX0_turnEach 47 = .ok (.iinc 5 1, 3) := by decide +kernel
theorem dX0_turnEach_50 : decode cX0_turnEach 50 = .ok (.iinc 6 1, 3) := by decide +kernel
theorem dX0_turnEach_53 : decode cX0_turnEach 53 = .ok (.goto (-47), 3) := by decide +kernel
theorem dX0_turnEach_56 : decode cX0_turnEach 56 = .ok (.return_, 1) := by decide +kernel
theorem dX0_hissAhead_0 : decode cX0_hissAhead 0 = .ok (.aload_n 0, 1) := by decide +kernel
theorem dX0_hissAhead_1 : decode cX0_hissAhead 1 = .ok (.getfield 26, 3) := by decide +kernel
theorem dX0_hissAhead_4 : decode cX0_hissAhead 4 = .ok (.bipush (-9), 2) := by decide +kernel
theorem dX0_hissAhead_6 : decode cX0_hissAhead 6 = .ok (.if_icmp .eq 23, 3) := by decide +kernel
theorem dX0_hissAhead_9 : decode cX0_hissAhead 9 = .ok (.aload_n 0, 1) := by decide +kernel
theorem dX0_hissAhead_10 : decode cX0_hissAhead 10 = .ok (.getfield 35, 3) := by decide +kernel
theorem dX0_hissAhead_13 : decode cX0_hissAhead 13 = .ok (.bipush (-9), 2) := by decide +kernel
theorem dX0_hissAhead_15 : decode cX0_hissAhead 15 = .ok (.if_icmp .eq 14, 3) := by decide +kernel
theorem dX0_hissAhead_18 : decode cX0_hissAhead 18 = .ok (.aload_n 0, 1) := by decide +kernel
theorem dX0_hissAhead_19 : decode cX0_hissAhead 19 = .ok (.getfield 35, 3) := by decide +kernel
theorem dX0_hissAhead_22 : decode cX0_hissAhead 22 = .ok (.aload_n 0, 1) := by decide +kernel
theorem dX0_hissAhead_23 : decode cX0_hissAhead 23 = .ok (.getfield 26, 3) := by decide +kernel
theorem dX0_hissAhead_26 : decode cX0_hissAhead 26 = .ok (.if_icmp .le 8, 3) := by decide +kernel
theorem dX0_hissAhead_29 : decode cX0_hissAhead 29 = .ok (.bipush (-9), 2) := by decide +kernel
theorem dX0_hissAhead_31 : decode cX0_hissAhead 31 = .ok (.goto 12, 3) := by decide +kernel
theorem dX0_hissAhead_34 : decode cX0_hissAhead 34 = .ok (.aload_n 0, 1) := by decide +kernel
theorem dX0_hissAhead_35 : decode cX0_hissAhead 35 = .ok (.getfield 26, 3) := by decide +kernel
theorem dX0_hissAhead_38 : decode cX0_hissAhead 38 = .ok (.aload_n 0, 1) := by decide +kernel
theorem dX0_hissAhead_39 : decode cX0_hissAhead 39 = .ok (.getfield 35, 3) := by decide +kernel
theorem dX0_hissAhead_42 : decode cX0_hissAhead 42 = .ok (.isub, 1) := by decide +kernel
theorem dX0_hissAhead_43 : decode cX0_hissAhead 43 = .ok (.ireturn, 1) := by decide +kernel
theorem dX1_init_0 : decode cX1_init 0 = .ok (.aload_n 0, 1) := by decide +kernel
theorem dX1_init_1 : decode cX1_init 1 = .ok (.invokespecial 3, 3) := by decide +kernel
theorem dX1_init_4 : decode cX1_init 4 = .ok (.aload_n 0, 1) := by decide +kernel
theorem dX1_init_5 : decode cX1_init 5 = .ok (.iconst 4, 1) := by decide +kernel
theorem dX1_init_6 : decode cX1_init 6 = .ok (.newarray .int, 2) := by decide +kernel
theorem dX1_init_8 : decode cX1_init 8 = .ok (.putfield 9, 3) := by decide +kernel
theorem dX1_init_11 : decode cX1_init 11 = .ok (.aload_n 0, 1) := by decide +kernel
theorem dX1_init_12 : decode cX1_init 12 = .ok (.iconst 4, 1) := by decide +kernel
theorem dX1_init_13 : decode cX1_init 13 = .ok (.newarray .int, 2) := by decide +kernel
theorem dX1_init_15 : decode cX1_init 15 = .ok (.putfield 15, 3) := by decide +kernel
theorem dX1_init_18 : decode cX1_init 18 = .ok (.return_, 1) := by decide +kernel
theorem dX1_begin_0 : decode cX1_begin 0 = .ok (.aload_n 0, 1) := by decide +kernel
theorem dX1_begin_1 : decode cX1_begin 1 = .ok (.iconst 0, 1) := by decide +kernel
theorem dX1_begin_2 : decode cX1_begin 2 = .ok (.putfield 18, 3) := by decide +kernel
theorem dX1_begin_5 : decode cX1_begin 5 = .ok (.iconst 0, 1) := by decide +kernel
theorem dX1_begin_6 : decode cX1_begin 6 = .ok (.istore_n 2, 1) := by decide +kernel
theorem dX1_begin_7 : decode cX1_begin 7 = .ok (.iload_n 2, 1) := by decide +kernel
theorem dX1_begin_8 : decode cX1_begin 8 = .ok (.iconst 4, 1) := by decide +kernel
theorem dX1_begin_9 : decode cX1_begin 9 = .ok (.if_icmp .ge 24, 3) := by decide +kernel
theorem dX1_begin_12 : decode cX1_begin 12 = .ok (.aload_n 0, 1) := by decide +kernel
theorem dX1_begin_13 : decode cX1_begin 13 = .ok (.getfield 9, 3) := by decide +kernel
theorem dX1_begin_16 : decode cX1_begin 16 = .ok (.iload_n 2, 1) := by decide +kernel
theorem dX1_begin_17 : decode cX1_begin 17 = .ok (.bipush 20, 2) := by decide +kernel
theorem dX1_begin_19 : decode cX1_begin 19 = .ok (.iastore, 1) := by decide +kernel
theorem dX1_begin_20 : decode cX1_begin 20 = .ok (.aload_n 0, 1) := by decide +kernel
theorem dX1_begin_21 : decode cX1_begin 21 = .ok (.getfield 15, 3) := by decide +kernel
theorem dX1_begin_24 : decode cX1_begin 24 = .ok (.iload_n 2, 1) := by decide +kernel
theorem dX1_begin_25 : decode cX1_begin 25 = .ok (.iconst 0, 1) := by decide +kernel
theorem dX1_begin_26 : decode cX1_begin 26 = .ok (.iastore, 1) := by decide +kernel
theorem dX1_begin_27 : decode cX1_begin 27 = .ok (.iinc 2 1, 3) := by decide +kernel
theorem dX1_begin_30 : decode cX1_begin 30 = .ok (.goto (-23), 3) := by decide +kernel
theorem dX1_begin_33 : decode cX1_begin 33 = .ok (.aload_n 0, 1) := by decide +kernel
theorem dX1_begin_34 : decode cX1_begin 34 = .ok (.bipush 20, 2) := by decide +kernel
theorem dX1_begin_36 : decode cX1_begin 36 = .ok (.putfield 22, 3) := by decide +kernel
theorem dX1_begin_39 : decode cX1_begin 39 = .ok (.aload_n 0, 1) := by decide +kernel
theorem dX1_begin_40 : decode cX1_begin 40 = .ok (.aload_n 1, 1) := by decide +kernel
theorem dX1_begin_41 : decode cX1_begin 41 = .ok (.getfield 25, 3) := by decide +kernel
theorem dX1_begin_44 : decode cX1_begin 44 = .ok (.putfield 30, 3) := by decide +kernel
theorem dX1_begin_47 : decode cX1_begin 47 = .ok (.aload_n 0, 1) := by decide +kernel
theorem dX1_begin_48 : decode cX1_begin 48 = .ok (.iconst 0, 1) := by decide +kernel
theorem dX1_begin_49 : decode cX1_begin 49 = .ok (.putfield 31, 3) := by decide +kernel
theorem dX1_begin_52 : decode cX1_begin 52 = .ok (.aload_n 0, 1) := by decide +kernel
theorem dX1_begin_53 : decode cX1_begin 53 = .ok (.iconst 0, 1) := by decide +kernel
theorem dX1_begin_54 : decode cX1_begin 54 = .ok (.putfield 34, 3) := by decide +kernel
theorem dX1_begin_57 : decode cX1_begin 57 = .ok (.aload_n 0, 1) := by decide +kernel
theorem dX1_begin_58 : decode cX1_begin 58 = .ok (.iconst 0, 1) := by decide +kernel
theorem dX1_begin_59 : decode cX1_begin 59 = .ok (.putfield 37, 3) := by decide +kernel
theorem dX1_begin_62 : decode cX1_begin 62 = .ok (.aload_n 0, 1) := by decide +kernel
theorem dX1_begin_63 : decode cX1_begin 63 = .ok (.iconst 0, 1) := by decide +kernel
theorem dX1_begin_64 : decode cX1_begin 64 = .ok (.putfield 40, 3) := by decide +kernel
theorem dX1_begin_67 : decode cX1_begin 67 = .ok (.aload_n 0, 1) := by decide +kernel
theorem dX1_begin_68 : decode cX1_begin 68 = .ok (.bipush (-9), 2) := by decide +kernel
theorem dX1_begin_70 : decode cX1_begin 70 = .ok (.putfield 43, 3) := by decide +kernel
theorem dX1_begin_73 : decode cX1_begin 73 = .ok (.aload_n 0, 1) := by decide +kernel
theorem dX1_begin_74 : decode cX1_begin 74 = .ok (.iconst 0, 1) := by decide +kernel
theorem dX1_begin_75 : decode cX1_begin 75 = .ok (.putfield 46, 3) := by decide +kernel
theorem dX1_begin_78 : decode cX1_begin 78 = .ok (.return_, 1) := by decide +kernel
theorem dX1_take_0 : decode cX1_take 0 = .ok (.aload_n 0, 1) := by decide +kernel
theorem dX1_take_1 : decode cX1_take 1 = .ok (.aload_n 1, 1) := by decide +kernel
theorem dX1_take_2 : decode cX1_take 2 = .ok (.getfield 18, 3) := by decide +kernel
theorem dX1_take_5 : decode cX1_take 5 = .ok (.putfield 18, 3) := by decide +kernel
theorem dX1_take_8 : decode cX1_take 8 = .ok (.iconst 0, 1) := by decide +kernel
theorem dX1_take_9 : decode cX1_take 9 = .ok (.istore_n 2, 1) := by decide +kernel
theorem dX1_take_10 : decode cX1_take 10 = .ok (.iload_n 2, 1) := by decide +kernel
theorem dX1_take_11 : decode cX1_take 11 = .ok (.iconst 4, 1) := by decide +kernel
theorem dX1_take_12 : decode cX1_take 12 = .ok (.if_icmp .ge 33, 3) := by decide +kernel
theorem dX1_take_15 : decode cX1_take 15 = .ok (.aload_n 0, 1) := by decide +kernel
theorem dX1_take_16 : decode cX1_take 16 = .ok (.getfield 9, 3) := by decide +kernel
theorem dX1_take_19 : decode cX1_take 19 = .ok (.iload_n 2, 1) := by decide +kernel
theorem dX1_take_20 : decode cX1_take 20 = .ok (.aload_n 1, 1) := by decide +kernel
theorem dX1_take_21 : decode cX1_take 21 = .ok (.getfield 9, 3) := by decide +kernel
theorem dX1_take_24 : decode cX1_take 24 = .ok (.iload_n 2, 1) := by decide +kernel
theorem dX1_take_25 : decode cX1_take 25 = .ok (.iaload, 1) := by decide +kernel
theorem dX1_take_26 : decode cX1_take 26 = .ok (.iastore, 1) := by decide +kernel
theorem dX1_take_27 : decode cX1_take 27 = .ok (.aload_n 0, 1) := by decide +kernel
theorem dX1_take_28 : decode cX1_take 28 = .ok (.getfield 15, 3) := by decide +kernel
theorem dX1_take_31 : decode cX1_take 31 = .ok (.iload_n 2, 1) := by decide +kernel
theorem dX1_take_32 : decode cX1_take 32 = .ok (.aload_n 1, 1) := by decide +kernel
theorem dX1_take_33 : decode cX1_take 33 = .ok (.getfield 15, 3) := by decide +kernel
theorem dX1_take_36 : decode cX1_take 36 = .ok (.iload_n 2, 1) := by decide +kernel
theorem dX1_take_37 : decode cX1_take 37 = .ok (.iaload, 1) := by decide +kernel
theorem dX1_take_38 : decode cX1_take 38 = .ok (.iastore, 1) := by decide +kernel
theorem dX1_take_39 : decode cX1_take 39 = .ok (.iinc 2 1, 3) := by decide +kernel
theorem dX1_take_42 : decode cX1_take 42 = .ok (.goto (-32), 3) := by decide +kernel
theorem dX1_take_45 : decode cX1_take 45 = .ok (.aload_n 0, 1) := by decide +kernel
theorem dX1_take_46 : decode cX1_take 46 = .ok (.aload_n 1, 1) := by decide +kernel
theorem dX1_take_47 : decode cX1_take 47 = .ok (.getfield 22, 3) := by decide +kernel
theorem dX1_take_50 : decode cX1_take 50 = .ok (.putfield 22, 3) := by decide +kernel
theorem dX1_take_53 : decode cX1_take 53 = .ok (.aload_n 0, 1) := by decide +kernel
theorem dX1_take_54 : decode cX1_take 54 = .ok (.aload_n 1, 1) := by decide +kernel
theorem dX1_take_55 : decode cX1_take 55 = .ok (.getfield 30, 3) := by decide +kernel
theorem dX1_take_58 : decode cX1_take 58 = .ok (.putfield 30, 3) := by decide +kernel
theorem dX1_take_61 : decode cX1_take 61 = .ok (.aload_n 0, 1) := by decide +kernel
theorem dX1_take_62 : decode cX1_take 62 = .ok (.aload_n 1, 1) := by decide +kernel
theorem dX1_take_63 : decode cX1_take 63 = .ok (.getfield 31, 3) := by decide +kernel
theorem dX1_take_66 : decode cX1_take 66 = .ok (.putfield 31, 3) := by decide +kernel
theorem dX1_take_69 : decode cX1_take 69 = .ok (.aload_n 0, 1) := by decide +kernel
theorem dX1_take_70 : decode cX1_take 70 = .ok (.aload_n 1, 1) := by decide +kernel
theorem dX1_take_71 : decode cX1_take 71 = .ok (.getfield 34, 3) := by decide +kernel
theorem dX1_take_74 : decode cX1_take 74 = .ok (.putfield 34, 3) := by decide +kernel
theorem dX1_take_77 : decode cX1_take 77 = .ok (.aload_n 0, 1) := by decide +kernel
theorem dX1_take_78 : decode cX1_take 78 = .ok (.aload_n 1, 1) := by decide +kernel
theorem dX1_take_79 : decode cX1_take 79 = .ok (.getfield 37, 3) := by decide +kernel
theorem dX1_take_82 : decode cX1_take 82 = .ok (.putfield 37, 3) := by decide +kernel
theorem dX1_take_85 : decode cX1_take 85 = .ok (.aload_n 0, 1) := by decide +kernel
theorem dX1_take_86 : decode cX1_take 86 = .ok (.aload_n 1, 1) := by decide +kernel
theorem dX1_take_87 : decode cX1_take 87 = .ok (.getfield 40, 3) := by decide +kernel
theorem dX1_take_90 : decode cX1_take 90 = .ok (.putfield 40, 3) := by decide +kernel
theorem dX1_take_93 : decode cX1_take 93 = .ok (.aload_n 0, 1) := by decide +kernel
theorem dX1_take_94 : decode cX1_take 94 = .ok (.aload_n 1, 1) := by decide +kernel
theorem dX1_take_95 : decode cX1_take 95 = .ok (.getfield 43, 3) := by decide +kernel
theorem dX1_take_98 : decode cX1_take 98 = .ok (.putfield 43, 3) := by decide +kernel
theorem dX1_take_101 : decode cX1_take 101 = .ok (.aload_n 0, 1) := by decide +kernel
theorem dX1_take_102 : decode cX1_take 102 = .ok (.aload_n 1, 1) := by decide +kernel
theorem dX1_take_103 : decode cX1_take 103 = .ok (.getfield 46, 3) := by decide +kernel
theorem dX1_take_106 : decode cX1_take 106 = .ok (.putfield 46, 3) := by decide +kernel
theorem dX1_take_109 : decode cX1_take 109 = .ok (.return_, 1) := by decide +kernel
theorem dX1_turnBy_0 : decode cX1_turnBy 0 = .ok (.aload_n 0, 1) := by decide +kernel
theorem dX1_turnBy_1 : decode cX1_turnBy 1 = .ok (.aload_n 0, 1) := by decide +kernel
theorem dX1_turnBy_2 : decode cX1_turnBy 2 = .ok (.getfield 18, 3) := by decide +kernel
theorem dX1_turnBy_5 : decode cX1_turnBy 5 = .ok (.iload_n 1, 1) := by decide +kernel
theorem dX1_turnBy_6 : decode cX1_turnBy 6 = .ok (.iadd, 1) := by decide +kernel
theorem dX1_turnBy_7 : decode cX1_turnBy 7 = .ok (.iconst 3, 1) := by decide +kernel
theorem dX1_turnBy_8 : decode cX1_turnBy 8 = .ok (.iand, 1) := by decide +kernel
theorem dX1_turnBy_9 : decode cX1_turnBy 9 = .ok (.putfield 18, 3) := by decide +kernel
theorem dX1_turnBy_12 : decode cX1_turnBy 12 = .ok (.return_, 1) := by decide +kernel
theorem dX1_prickBy_0 : decode cX1_prickBy 0 = .ok (.aload_n 0, 1) := by decide +kernel
theorem dX1_prickBy_1 : decode cX1_prickBy 1 = .ok (.bipush 99, 2) := by decide +kernel
theorem dX1_prickBy_3 : decode cX1_prickBy 3 = .ok (.aload_n 0, 1) := by decide +kernel
theorem dX1_prickBy_4 : decode cX1_prickBy 4 = .ok (.getfield 31, 3) := by decide +kernel
theorem dX1_prickBy_7 : decode cX1_prickBy 7 = .ok (.iload_n 1, 1) := by decide +kernel
theorem dX1_prickBy_8 : decode cX1_prickBy 8 = .ok (.iadd, 1) := by decide +kernel
theorem dX1_prickBy_9 : decode cX1_prickBy 9 = .ok (.invokestatic 49, 3) := by decide +kernel
theorem dX1_prickBy_12 : decode cX1_prickBy 12 = .ok (.putfield 31, 3) := by decide +kernel
theorem dX1_prickBy_15 : decode cX1_prickBy 15 = .ok (.return_, 1) := by decide +kernel
set_option maxRecDepth 20000 in
theorem ggX1_pass_X1_fireFaces : GoodIn wsX1_pass wsX1_fireFaces := goodIn_r _ [7, 8, 9, 68, 69, 70, 71, 72, 73, 74, 75, 76, 77, 78] (by decide +kernel) (by decide +kernel)
set_option maxRecDepth 20000 in
theorem gX1_pass_X1_fireFaces : GoodIn wsX1_pass (wsV RX1 55 RX1 yX1_fireFaces wsX1_fireFaces) := goodIn_app (goodIn_of _ (by decide +kernel)) ggX1_pass_X1_fireFaces
set_option maxRecDepth 20000 in
theorem ggX1_pass_X1_simmerFaces : GoodIn wsX1_pass wsX1_simmerFaces := goodIn_r _ [13, 9, 68, 69, 70, 71, 72, 73, 74, 75, 76, 77, 78] (by decide +kernel) (by decide +kernel)
set_option maxRecDepth 20000 in
theorem gX1_pass_X1_simmerFaces : GoodIn wsX1_pass (wsV RX1 59 RX1 yX1_simmerFaces wsX1_simmerFaces) := goodIn_app (goodIn_of _ (by decide +kernel)) ggX1_pass_X1_simmerFaces
set_option maxRecDepth 20000 in
theorem ggX1_pass_X1_warmCore : GoodIn wsX1_pass wsX1_warmCore := goodIn_r _ [17, 9, 18, 19, 20, 21, 22, 23, 68, 69, 70, 71, 72, 73, 74, 75, 76, 77, 78, 79, 80, 81, 82, 83, 84, 85, 86, 87, 88, 89, 90, 91] (by decide +kernel) (by decide +kernel)
set_option maxRecDepth 20000 in
theorem gX1_pass_X1_warmCore : GoodIn wsX1_pass (wsV RX1 62 RX1 yX1_warmCore wsX1_warmCore) := goodIn_app (goodIn_of _ (by decide +kernel)) ggX1_pass_X1_warmCore
set_option maxRecDepth 20000 in
theorem ggX1_pass_X1_boil : GoodIn wsX1_pass wsX1_boil := goodIn_r _ [27, 18, 9, 20, 21, 22, 23, 28, 29, 30, 68, 69, 70, 71, 72, 73, 74, 75, 76, 77, 78] (by decide +kernel) (by decide +kernel)
set_option maxRecDepth 20000 in
theorem gX1_pass_X1_boil : GoodIn wsX1_pass (wsV RX1 66 RX1 yX1_boil wsX1_boil) := goodIn_app (goodIn_of _ (by decide +kernel)) ggX1_pass_X1_boil
set_option maxRecDepth 20000 in
theorem ggX1_pass_X1_browner : GoodIn wsX1_pass wsX1_browner := goodIn_r _ [34, 9, 20, 21, 22, 23, 35, 36, 37, 38, 68, 69, 70, 71, 72, 73, 74, 75, 76, 77, 78] (by decide +kernel) (by decide +kernel)
set_option maxRecDepth 20000 in
theorem gX1_pass_X1_browner : GoodIn wsX1_pass (wsV RX1 69 RX1 yX1_browner wsX1_browner) := goodIn_app (goodIn_of _ (by decide +kernel)) ggX1_pass_X1_browner
set_option maxRecDepth 20000 in
theorem ggX1_pass_X1_pressIn : GoodIn wsX1_pass wsX1_pressIn := goodIn_r _ [42, 2, 18, 20, 21, 22, 23, 43, 29, 30, 68, 69, 70, 71, 72, 73, 74, 75, 76, 77, 78, 79, 80, 81, 82, 83, 84, 85, 86, 87, 88, 89, 90, 91] (by decide +kernel) (by decide +kernel)
set_option maxRecDepth 20000 in
theorem gX1_pass_X1_pressIn : GoodIn wsX1_pass (wsV RX1 72 RX1 yX1_pressIn wsX1_pressIn) := goodIn_app (goodIn_of _ (by decide +kernel)) ggX1_pass_X1_pressIn
set_option maxRecDepth 20000 in
theorem ggX1_pass_X1_goIfPulled : GoodIn wsX1_pass wsX1_goIfPulled := goodIn_r _ [47, 2, 48, 49, 50, 51, 6, 52, 53, 54, 19, 55, 56, 57, 58, 9, 20, 21, 22, 23, 59, 60, 61, 62, 63, 64, 65, 66, 67, 68, 69, 70, 71, 72, 73, 74, 75, 76, 77, 78, 79, 80, 81, 82, 83, 84, 85, 86, 87, 88, 89, 90, 91] (by decide +kernel) (by decide +kernel)
set_option maxRecDepth 20000 in
theorem gX1_pass_X1_goIfPulled : GoodIn wsX1_pass (wsV RX1 76 RX1 yX1_goIfPulled wsX1_goIfPulled) := goodIn_app (goodIn_of _ (by decide +kernel)) ggX1_pass_X1_goIfPulled
theorem dX1_pass_0 : decode cX1_pass 0 = .ok (.iload_n 2, 1) := by decide +kernel
theorem dX1_pass_1 : decode cX1_pass 1 = .ok (.ifCond .ne 11, 3) := by decide +kernel
theorem dX1_pass_4 : decode cX1_pass 4 = .ok (.aload_n 0, 1) := by decide +kernel
theorem dX1_pass_5 : decode cX1_pass 5 = .ok (.iload_n 3, 1) := by decide +kernel
theorem dX1_pass_6 : decode cX1_pass 6 = .ok (.invokevirtual 55, 3) := by decide +kernel
theorem dX1_pass_9 : decode cX1_pass 9 = .ok (.goto 8, 3) := by decide +kernel
theorem dX1_pass_12 : decode cX1_pass 12 = .ok (.aload_n 0, 1) := by decide +kernel
theorem dX1_pass_13 : decode cX1_pass 13 = .ok (.iload_n 3, 1) := by decide +kernel
theorem dX1_pass_14 : decode cX1_pass 14 = .ok (.invokevirtual 59, 3) := by decide +kernel
theorem dX1_pass_17 : decode cX1_pass 17 = .ok (.aload_n 0, 1) := by decide +kernel
theorem dX1_pass_18 : decode cX1_pass 18 = .ok (.aload_n 1, 1) := by decide +kernel
theorem dX1_pass_19 : decode cX1_pass 19 = .ok (.invokevirtual 62, 3) := by decide +kernel
theorem dX1_pass_22 : decode cX1_pass 22 = .ok (.aload_n 0, 1) := by decide +kernel
theorem dX1_pass_23 : decode cX1_pass 23 = .ok (.invokevirtual 66, 3) := by decide +kernel
theorem dX1_pass_26 : decode cX1_pass 26 = .ok (.aload_n 0, 1) := by decide +kernel
theorem dX1_pass_27 : decode cX1_pass 27 = .ok (.invokevirtual 69, 3) := by decide +kernel
theorem dX1_pass_30 : decode cX1_pass 30 = .ok (.aload_n 0, 1) := by decide +kernel
theorem dX1_pass_31 : decode cX1_pass 31 = .ok (.dup, 1) := by decide +kernel
theorem dX1_pass_32 : decode cX1_pass 32 = .ok (.getfield 37, 3) := by decide +kernel
theorem dX1_pass_35 : decode cX1_pass 35 = .ok (.iconst 1, 1) := by decide +kernel
theorem dX1_pass_36 : decode cX1_pass 36 = .ok (.iadd, 1) := by decide +kernel
theorem dX1_pass_37 : decode cX1_pass 37 = .ok (.putfield 37, 3) := by decide +kernel
theorem dX1_pass_40 : decode cX1_pass 40 = .ok (.aload_n 0, 1) := by decide +kernel
theorem dX1_pass_41 : decode cX1_pass 41 = .ok (.aload_n 1, 1) := by decide +kernel
theorem dX1_pass_42 : decode cX1_pass 42 = .ok (.invokevirtual 72, 3) := by decide +kernel
theorem dX1_pass_45 : decode cX1_pass 45 = .ok (.istore 4, 2) := by decide +kernel
theorem dX1_pass_47 : decode cX1_pass 47 = .ok (.aload_n 0, 1) := by decide +kernel
theorem dX1_pass_48 : decode cX1_pass 48 = .ok (.getfield 40, 3) := by decide +kernel
theorem dX1_pass_51 : decode cX1_pass 51 = .ok (.ifCond .ne 10, 3) := by decide +kernel
theorem dX1_pass_54 : decode cX1_pass 54 = .ok (.aload_n 0, 1) := by decide +kernel
theorem dX1_pass_55 : decode cX1_pass 55 = .ok (.aload_n 1, 1) := by decide +kernel
theorem dX1_pass_56 : decode cX1_pass 56 = .ok (.iload 4, 2) := by decide +kernel
theorem dX1_pass_58 : decode cX1_pass 58 = .ok (.invokevirtual 76, 3) := by decide +kernel
theorem dX1_pass_61 : decode cX1_pass 61 = .ok (.iload 4, 2) := by decide +kernel
theorem dX1_pass_63 : decode cX1_pass 63 = .ok (.ireturn, 1) := by decide +kernel
theorem dX1_fireFaces_0 : decode cX1_fireFaces 0 = .ok (.iconst 0, 1) := by decide +kernel
theorem dX1_fireFaces_1 : decode cX1_fireFaces 1 = .ok (.istore_n 2, 1) := by decide +kernel
theorem dX1_fireFaces_2 : decode cX1_fireFaces 2 = .ok (.iload_n 2, 1) := by decide +kernel
theorem dX1_fireFaces_3 : decode cX1_fireFaces 3 = .ok (.iconst 4, 1) := by decide +kernel
theorem dX1_fireFaces_4 : decode cX1_fireFaces 4 = .ok (.if_icmp .ge 60, 3) := by decide +kernel
theorem dX1_fireFaces_7 : decode cX1_fireFaces 7 = .ok (.iload_n 2, 1) := by decide +kernel
theorem dX1_fireFaces_8 : decode cX1_fireFaces 8 = .ok (.aload_n 0, 1) := by decide +kernel
theorem dX1_fireFaces_9 : decode cX1_fireFaces 9 = .ok (.getfield 18, 3) := by decide +kernel
theorem dX1_fireFaces_12 : decode cX1_fireFaces 12 = .ok (.if_icmp .ne 25, 3) := by decide +kernel
theorem dX1_fireFaces_15 : decode cX1_fireFaces 15 = .ok (.aload_n 0, 1) := by decide +kernel
theorem dX1_fireFaces_16 : decode cX1_fireFaces 16 = .ok (.getfield 9, 3) := by decide +kernel
theorem dX1_fireFaces_19 : decode cX1_fireFaces 19 = .ok (.iload_n 2, 1) := by decide +kernel
theorem dX1_fireFaces_20 : decode cX1_fireFaces 20 = .ok (.dup2, 1) := by decide +kernel
theorem dX1_fireFaces_21 : decode cX1_fireFaces 21 = .ok (.iaload, 1) := by decide +kernel
theorem dX1_fireFaces_22 : decode cX1_fireFaces 22 = .ok (.iload_n 1, 1) := by decide +kernel
theorem dX1_fireFaces_23 : decode cX1_fireFaces 23 = .ok (.aload_n 0, 1) := by decide +kernel
theorem dX1_fireFaces_24 : decode cX1_fireFaces 24 = .ok (.getfield 9, 3) := by decide +kernel
theorem dX1_fireFaces_27 : decode cX1_fireFaces 27 = .ok (.iload_n 2, 1) := by decide +kernel
theorem dX1_fireFaces_28 : decode cX1_fireFaces 28 = .ok (.iaload, 1) := by decide +kernel
theorem dX1_fireFaces_29 : decode cX1_fireFaces 29 = .ok (.isub, 1) := by decide +kernel
theorem dX1_fireFaces_30 : decode cX1_fireFaces 30 = .ok (.iconst 4, 1) := by decide +kernel
theorem dX1_fireFaces_31 : decode cX1_fireFaces 31 = .ok (.idiv, 1) := by decide +kernel
theorem dX1_fireFaces_32 : decode cX1_fireFaces 32 = .ok (.iadd, 1) := by decide +kernel
theorem dX1_fireFaces_33 : decode cX1_fireFaces 33 = .ok (.iastore, 1) := by decide +kernel
theorem dX1_fireFaces_34 : decode cX1_fireFaces 34 = .ok (.goto 24, 3) := by decide +kernel
theorem dX1_fireFaces_37 : decode cX1_fireFaces 37 = .ok (.aload_n 0, 1) := by decide +kernel
theorem dX1_fireFaces_38 : decode cX1_fireFaces 38 = .ok (.getfield 9, 3) := by decide +kernel
theorem dX1_fireFaces_41 : decode cX1_fireFaces 41 = .ok (.iload_n 2, 1) := by decide +kernel
theorem dX1_fireFaces_42 : decode cX1_fireFaces 42 = .ok (.dup2, 1) := by decide +kernel
theorem dX1_fireFaces_43 : decode cX1_fireFaces 43 = .ok (.iaload, 1) := by decide +kernel
theorem dX1_fireFaces_44 : decode cX1_fireFaces 44 = .ok (.aload_n 0, 1) := by decide +kernel
theorem dX1_fireFaces_45 : decode cX1_fireFaces 45 = .ok (.getfield 9, 3) := by decide +kernel
theorem dX1_fireFaces_48 : decode cX1_fireFaces 48 = .ok (.iload_n 2, 1) := by decide +kernel
theorem dX1_fireFaces_49 : decode cX1_fireFaces 49 = .ok (.iaload, 1) := by decide +kernel
theorem dX1_fireFaces_50 : decode cX1_fireFaces 50 = .ok (.bipush 20, 2) := by decide +kernel
theorem dX1_fireFaces_52 : decode cX1_fireFaces 52 = .ok (.isub, 1) := by decide +kernel
theorem dX1_fireFaces_53 : decode cX1_fireFaces 53 = .ok (.bipush 16, 2) := by decide +kernel
theorem dX1_fireFaces_55 : decode cX1_fireFaces 55 = .ok (.idiv, 1) := by decide +kernel
theorem dX1_fireFaces_56 : decode cX1_fireFaces 56 = .ok (.isub, 1) := by decide +kernel
theorem dX1_fireFaces_57 : decode cX1_fireFaces 57 = .ok (.iastore, 1) := by decide +kernel
theorem dX1_fireFaces_58 : decode cX1_fireFaces 58 = .ok (.iinc 2 1, 3) := by decide +kernel
theorem dX1_fireFaces_61 : decode cX1_fireFaces 61 = .ok (.goto (-59), 3) := by decide +kernel
theorem dX1_fireFaces_64 : decode cX1_fireFaces 64 = .ok (.return_, 1) := by decide +kernel
theorem dX1_simmerFaces_0 : decode cX1_simmerFaces 0 = .ok (.iconst 0, 1) := by decide +kernel
theorem dX1_simmerFaces_1 : decode cX1_simmerFaces 1 = .ok (.istore_n 2, 1) := by decide +kernel
theorem dX1_simmerFaces_2 : decode cX1_simmerFaces 2 = .ok (.iload_n 2, 1) := by decide +kernel
theorem dX1_simmerFaces_3 : decode cX1_simmerFaces 3 = .ok (.iconst 4, 1) := by decide +kernel
theorem dX1_simmerFaces_4 : decode cX1_simmerFaces 4 = .ok (.if_icmp .ge 28, 3) := by decide +kernel
theorem dX1_simmerFaces_7 : decode cX1_simmerFaces 7 = .ok (.aload_n 0, 1) := by decide +kernel
theorem dX1_simmerFaces_8 : decode cX1_simmerFaces 8 = .ok (.getfield 9, 3) := by decide +kernel
theorem dX1_simmerFaces_11 : decode cX1_simmerFaces 11 = .ok (.iload_n 2, 1) := by decide +kernel
theorem dX1_simmerFaces_12 : decode cX1_simmerFaces 12 = .ok (.dup2, 1) := by decide +kernel
theorem dX1_simmerFaces_13 : decode cX1_simmerFaces 13 = .ok (.iaload, 1) := by decide +kernel
theorem dX1_simmerFaces_14 : decode cX1_simmerFaces 14 = .ok (.iload_n 1, 1) := by decide +kernel
theorem dX1_simmerFaces_15 : decode cX1_simmerFaces 15 = .ok (.aload_n 0, 1) := by decide +kernel
theorem dX1_simmerFaces_16 : decode cX1_simmerFaces 16 = .ok (.getfield 9, 3) := by decide +kernel
theorem dX1_simmerFaces_19 : decode cX1_simmerFaces 19 = .ok (.iload_n 2, 1) := by decide +kernel
theorem dX1_simmerFaces_20 : decode cX1_simmerFaces 20 = .ok (.iaload, 1) := by decide +kernel
theorem dX1_simmerFaces_21 : decode cX1_simmerFaces 21 = .ok (.isub, 1) := by decide +kernel
theorem dX1_simmerFaces_22 : decode cX1_simmerFaces 22 = .ok (.iconst 4, 1) := by decide +kernel
theorem dX1_simmerFaces_23 : decode cX1_simmerFaces 23 = .ok (.idiv, 1) := by decide +kernel
theorem dX1_simmerFaces_24 : decode cX1_simmerFaces 24 = .ok (.iadd, 1) := by decide +kernel
theorem dX1_simmerFaces_25 : decode cX1_simmerFaces 25 = .ok (.iastore, 1) := by decide +kernel
theorem dX1_simmerFaces_26 : decode cX1_simmerFaces 26 = .ok (.iinc 2 1, 3) := by decide +kernel
theorem dX1_simmerFaces_29 : decode cX1_simmerFaces 29 = .ok (.goto (-27), 3) := by decide +kernel
theorem dX1_simmerFaces_32 : decode cX1_simmerFaces 32 = .ok (.return_, 1) := by decide +kernel
theorem dX1_warmCore_0 : decode cX1_warmCore 0 = .ok (.iconst 0, 1) := by decide +kernel
theorem dX1_warmCore_1 : decode cX1_warmCore 1 = .ok (.istore_n 2, 1) := by decide +kernel
theorem dX1_warmCore_2 : decode cX1_warmCore 2 = .ok (.iconst 0, 1) := by decide +kernel
theorem dX1_warmCore_3 : decode cX1_warmCore 3 = .ok (.istore_n 3, 1) := by decide +kernel
theorem dX1_warmCore_4 : decode cX1_warmCore 4 = .ok (.iload_n 3, 1) := by decide +kernel
theorem dX1_warmCore_5 : decode cX1_warmCore 5 = .ok (.iconst 4, 1) := by decide +kernel
theorem dX1_warmCore_6 : decode cX1_warmCore 6 = .ok (.if_icmp .ge 18, 3) := by decide +kernel
theorem dX1_warmCore_9 : decode cX1_warmCore 9 = .ok (.iload_n 2, 1) := by decide +kernel
theorem dX1_warmCore_10 : decode cX1_warmCore 10 = .ok (.aload_n 0, 1) := by decide +kernel
theorem dX1_warmCore_11 : decode cX1_warmCore 11 = .ok (.getfield 9, 3) := by decide +kernel
theorem dX1_warmCore_14 : decode cX1_warmCore 14 = .ok (.iload_n 3, 1) := by decide +kernel
theorem dX1_warmCore_15 : decode cX1_warmCore 15 = .ok (.iaload, 1) := by decide +kernel
theorem dX1_warmCore_16 : decode cX1_warmCore 16 = .ok (.iadd, 1) := by decide +kernel
theorem dX1_warmCore_17 : decode cX1_warmCore 17 = .ok (.istore_n 2, 1) := by decide +kernel
theorem dX1_warmCore_18 : decode cX1_warmCore 18 = .ok (.iinc 3 1, 3) := by decide +kernel
theorem dX1_warmCore_21 : decode cX1_warmCore 21 = .ok (.goto (-17), 3) := by decide +kernel
theorem dX1_warmCore_24 : decode cX1_warmCore 24 = .ok (.aload_n 0, 1) := by decide +kernel
theorem dX1_warmCore_25 : decode cX1_warmCore 25 = .ok (.dup, 1) := by decide +kernel
theorem dX1_warmCore_26 : decode cX1_warmCore 26 = .ok (.getfield 22, 3) := by decide +kernel
theorem dX1_warmCore_29 : decode cX1_warmCore 29 = .ok (.iload_n 2, 1) := by decide +kernel
theorem dX1_warmCore_30 : decode cX1_warmCore 30 = .ok (.iconst 4, 1) := by decide +kernel
theorem dX1_warmCore_31 : decode cX1_warmCore 31 = .ok (.aload_n 0, 1) := by decide +kernel
theorem dX1_warmCore_32 : decode cX1_warmCore 32 = .ok (.getfield 22, 3) := by decide +kernel
theorem dX1_warmCore_35 : decode cX1_warmCore 35 = .ok (.imul, 1) := by decide +kernel
theorem dX1_warmCore_36 : decode cX1_warmCore 36 = .ok (.isub, 1) := by decide +kernel
theorem dX1_warmCore_37 : decode cX1_warmCore 37 = .ok (.iconst 1, 1) := by decide +kernel
theorem dX1_warmCore_38 : decode cX1_warmCore 38 = .ok (.bipush 8, 2) := by decide +kernel
theorem dX1_warmCore_40 : decode cX1_warmCore 40 = .ok (.aload_n 1, 1) := by decide +kernel
theorem dX1_warmCore_41 : decode cX1_warmCore 41 = .ok (.getfield 80, 3) := by decide +kernel
theorem dX1_warmCore_44 : decode cX1_warmCore 44 = .ok (.imul, 1) := by decide +kernel
theorem dX1_warmCore_45 : decode cX1_warmCore 45 = .ok (.invokestatic 83, 3) := by decide +kernel
theorem dX1_warmCore_48 : decode cX1_warmCore 48 = .ok (.idiv, 1) := by decide +kernel
theorem dX1_warmCore_49 : decode cX1_warmCore 49 = .ok (.iadd, 1) := by decide +kernel
theorem dX1_warmCore_50 : decode cX1_warmCore 50 = .ok (.putfield 22, 3) := by decide +kernel
theorem dX1_warmCore_53 : decode cX1_warmCore 53 = .ok (.return_, 1) := by decide +kernel
theorem dX1_boil_0 : decode cX1_boil 0 = .ok (.aload_n 0, 1) := by decide +kernel
theorem dX1_boil_1 : decode cX1_boil 1 = .ok (.getfield 22, 3) := by decide +kernel
theorem dX1_boil_4 : decode cX1_boil 4 = .ok (.istore_n 1, 1) := by decide +kernel
theorem dX1_boil_5 : decode cX1_boil 5 = .ok (.iconst 0, 1) := by decide +kernel
theorem dX1_boil_6 : decode cX1_boil 6 = .ok (.istore_n 2, 1) := by decide +kernel
theorem dX1_boil_7 : decode cX1_boil 7 = .ok (.iload_n 2, 1) := by decide +kernel
theorem dX1_boil_8 : decode cX1_boil 8 = .ok (.iconst 4, 1) := by decide +kernel
theorem dX1_boil_9 : decode cX1_boil 9 = .ok (.if_icmp .ge 20, 3) := by decide +kernel
theorem dX1_boil_12 : decode cX1_boil 12 = .ok (.iload_n 1, 1) := by decide +kernel
theorem dX1_boil_13 : decode cX1_boil 13 = .ok (.aload_n 0, 1) := by decide +kernel
theorem dX1_boil_14 : decode cX1_boil 14 = .ok (.getfield 9, 3) := by decide +kernel
theorem dX1_boil_17 : decode cX1_boil 17 = .ok (.iload_n 2, 1) := by decide +kernel
theorem dX1_boil_18 : decode cX1_boil 18 = .ok (.iaload, 1) := by decide +kernel
theorem dX1_boil_19 : decode cX1_boil 19 = .ok (.invokestatic 83, 3) := by decide +kernel
theorem dX1_boil_22 : decode cX1_boil 22 = .ok (.istore_n 1, 1) := by decide +kernel
theorem dX1_boil_23 : decode cX1_boil 23 = .ok (.iinc 2 1, 3) := by decide +kernel
theorem dX1_boil_26 : decode cX1_boil 26 = .ok (.goto (-19), 3) := by decide +kernel
theorem dX1_boil_29 : decode cX1_boil 29 = .ok (.aload_n 0, 1) := by decide +kernel
theorem dX1_boil_30 : decode cX1_boil 30 = .ok (.aload_n 0, 1) := by decide +kernel
theorem dX1_boil_31 : decode cX1_boil 31 = .ok (.getfield 30, 3) := by decide +kernel
theorem dX1_boil_34 : decode cX1_boil 34 = .ok (.ifCond .le 14, 3) := by decide +kernel
theorem dX1_boil_37 : decode cX1_boil 37 = .ok (.iconst 0, 1) := by decide +kernel
theorem dX1_boil_38 : decode cX1_boil 38 = .ok (.iload_n 1, 1) := by decide +kernel
theorem dX1_boil_39 : decode cX1_boil 39 = .ok (.bipush 100, 2) := by decide +kernel
theorem dX1_boil_41 : decode cX1_boil 41 = .ok (.isub, 1) := by decide +kernel
theorem dX1_boil_42 : decode cX1_boil 42 = .ok (.invokestatic 83, 3) := by decide +kernel
theorem dX1_boil_45 : decode cX1_boil 45 = .ok (.goto 4, 3) := by decide +kernel
theorem dX1_boil_48 : decode cX1_boil 48 = .ok (.iconst 0, 1) := by decide +kernel
theorem dX1_boil_49 : decode cX1_boil 49 = .ok (.putfield 46, 3) := by decide +kernel
theorem dX1_boil_52 : decode cX1_boil 52 = .ok (.aload_n 0, 1) := by decide +kernel
theorem dX1_boil_53 : decode cX1_boil 53 = .ok (.getfield 46, 3) := by decide +kernel
theorem dX1_boil_56 : decode cX1_boil 56 = .ok (.bipush 20, 2) := by decide +kernel
theorem dX1_boil_58 : decode cX1_boil 58 = .ok (.idiv, 1) := by decide +kernel
theorem dX1_boil_59 : decode cX1_boil 59 = .ok (.aload_n 0, 1) := by decide +kernel
theorem dX1_boil_60 : decode cX1_boil 60 = .ok (.getfield 22, 3) := by decide +kernel
theorem dX1_boil_63 : decode cX1_boil 63 = .ok (.bipush 60, 2) := by decide +kernel
theorem dX1_boil_65 : decode cX1_boil 65 = .ok (.if_icmp .le 12, 3) := by decide +kernel
theorem dX1_boil_68 : decode cX1_boil 68 = .ok (.aload_n 0, 1) := by decide +kernel
theorem dX1_boil_69 : decode cX1_boil 69 = .ok (.getfield 31, 3) := by decide +kernel
theorem dX1_boil_72 : decode cX1_boil 72 = .ok (.iconst 3, 1) := by decide +kernel
theorem dX1_boil_73 : decode cX1_boil 73 = .ok (.idiv, 1) := by decide +kernel
theorem dX1_boil_74 : decode cX1_boil 74 = .ok (.goto 4, 3) := by decide +kernel
theorem dX1_boil_77 : decode cX1_boil 77 = .ok (.iconst 0, 1) := by decide +kernel
theorem dX1_boil_78 : decode cX1_boil 78 = .ok (.iadd, 1) := by decide +kernel
theorem dX1_boil_79 : decode cX1_boil 79 = .ok (.istore_n 2, 1) := by decide +kernel
theorem dX1_boil_80 : decode cX1_boil 80 = .ok (.aload_n 0, 1) := by decide +kernel
theorem dX1_boil_81 : decode cX1_boil 81 = .ok (.iconst 0, 1) := by decide +kernel
theorem dX1_boil_82 : decode cX1_boil 82 = .ok (.aload_n 0, 1) := by decide +kernel
theorem dX1_boil_83 : decode cX1_boil 83 = .ok (.getfield 30, 3) := by decide +kernel
theorem dX1_boil_86 : decode cX1_boil 86 = .ok (.iload_n 2, 1) := by decide +kernel
theorem dX1_boil_87 : decode cX1_boil 87 = .ok (.isub, 1) := by decide +kernel
theorem dX1_boil_88 : decode cX1_boil 88 = .ok (.invokestatic 83, 3) := by decide +kernel
theorem dX1_boil_91 : decode cX1_boil 91 = .ok (.putfield 30, 3) := by decide +kernel
theorem dX1_boil_94 : decode cX1_boil 94 = .ok (.return_, 1) := by decide +kernel
theorem dX1_browner_0 : decode cX1_browner 0 = .ok (.iconst 0, 1) := by decide +kernel
theorem dX1_browner_1 : decode cX1_browner 1 = .ok (.istore_n 1, 1) := by decide +kernel
theorem dX1_browner_2 : decode cX1_browner 2 = .ok (.iload_n 1, 1) := by decide +kernel
theorem dX1_browner_3 : decode cX1_browner 3 = .ok (.iconst 4, 1) := by decide +kernel
theorem dX1_browner_4 : decode cX1_browner 4 = .ok (.if_icmp .ge 46, 3) := by decide +kernel
theorem dX1_browner_7 : decode cX1_browner 7 = .ok (.iconst 0, 1) := by decide +kernel
theorem dX1_browner_8 : decode cX1_browner 8 = .ok (.aload_n 0, 1) := by decide +kernel
theorem dX1_browner_9 : decode cX1_browner 9 = .ok (.getfield 9, 3) := by decide +kernel
theorem dX1_browner_12 : decode cX1_browner 12 = .ok (.iload_n 1, 1) := by decide +kernel
theorem dX1_browner_13 : decode cX1_browner 13 = .ok (.iaload, 1) := by decide +kernel
theorem dX1_browner_14 : decode cX1_browner 14 = .ok (.bipush 120, 2) := by decide +kernel
theorem dX1_browner_16 : decode cX1_browner 16 = .ok (.isub, 1) := by decide +kernel
theorem dX1_browner_17 : decode cX1_browner 17 = .ok (.bipush 10, 2) := by decide +kernel
theorem dX1_browner_19 : decode cX1_browner 19 = .ok (.idiv, 1) := by decide +kernel
theorem dX1_browner_20 : decode cX1_browner 20 = .ok (.invokestatic 83, 3) := by decide +kernel
theorem dX1_browner_23 : decode cX1_browner 23 = .ok (.istore_n 2, 1) := by decide +kernel
theorem dX1_browner_24 : decode cX1_browner 24 = .ok (.aload_n 0, 1) := by decide +kernel
theorem dX1_browner_25 : decode cX1_browner 25 = .ok (.getfield 15, 3) := by decide +kernel
theorem dX1_browner_28 : decode cX1_browner 28 = .ok (.iload_n 1, 1) := by decide +kernel
theorem dX1_browner_29 : decode cX1_browner 29 = .ok (.sipush 999, 3) := by decide +kernel
theorem dX1_browner_32 : decode cX1_browner 32 = .ok (.aload_n 0, 1) := by decide +kernel
theorem dX1_browner_33 : decode cX1_browner 33 = .ok (.getfield 15, 3) := by decide +kernel
theorem dX1_browner_36 : decode cX1_browner 36 = .ok (.iload_n 1, 1) := by decide +kernel
theorem dX1_browner_37 : decode cX1_browner 37 = .ok (.iaload, 1) := by decide +kernel
theorem dX1_browner_38 : decode cX1_browner 38 = .ok (.iload_n 2, 1) := by decide +kernel
theorem dX1_browner_39 : decode cX1_browner 39 = .ok (.iadd, 1) := by decide +kernel
theorem dX1_browner_40 : decode cX1_browner 40 = .ok (.invokestatic 49, 3) := by decide +kernel
theorem dX1_browner_43 : decode cX1_browner 43 = .ok (.iastore, 1) := by decide +kernel
theorem dX1_browner_44 : decode cX1_browner 44 = .ok (.iinc 1 1, 3) := by decide +kernel
theorem dX1_browner_47 : decode cX1_browner 47 = .ok (.goto (-45), 3) := by decide +kernel
theorem dX1_browner_50 : decode cX1_browner 50 = .ok (.return_, 1) := by decide +kernel
set_option maxRecDepth 20000 in
theorem ggX1_goIfPulled_X1_pullRound : GoodIn wsX1_goIfPulled wsX1_pullRound := goodIn_r _ [7, 8, 9, 10, 40, 41, 42, 43, 44, 45, 46, 47, 48, 49, 50, 51, 52] (by decide +kernel) (by decide +kernel)
set_option maxRecDepth 20000 in
theorem gX1_goIfPulled_X1_pullRound : GoodIn wsX1_goIfPulled (va_wsS RX1 86 yX1_pullRound wsX1_pullRound) := goodIn_app (goodIn_of _ (by decide +kernel)) ggX1_goIfPulled_X1_pullRound
set_option maxRecDepth 20000 in
theorem ggX1_goIfPulled_X1_strengthAt : GoodIn wsX1_goIfPulled wsX1_strengthAt := goodIn_r _ [14, 15, 16, 17, 18, 19, 20, 21, 22, 23, 24, 25, 29, 30, 31, 32, 33, 34, 35, 36, 37, 38, 39, 40, 41, 42, 43, 44, 45, 46, 47, 48, 49, 50, 51, 52] (by decide +kernel) (by decide +kernel)
set_option maxRecDepth 20000 in
theorem gX1_goIfPulled_X1_strengthAt : GoodIn wsX1_goIfPulled (wsV RX1 90 RX1 yX1_strengthAt wsX1_strengthAt) := goodIn_app (goodIn_of _ (by decide +kernel)) ggX1_goIfPulled_X1_strengthAt
set_option maxRecDepth 20000 in
theorem ggX1_goIfPulled_X1_pullAlong : GoodIn wsX1_goIfPulled wsX1_pullAlong := goodIn_r _ [28, 10, 40, 41, 42, 43, 44, 45, 46, 47, 48, 49, 50, 51, 52] (by decide +kernel) (by decide +kernel)
set_option maxRecDepth 20000 in
theorem gX1_goIfPulled_X1_pullAlong : GoodIn wsX1_goIfPulled (va_wsS RX1 94 yX1_pullAlong wsX1_pullAlong) := goodIn_app (goodIn_of _ (by decide +kernel)) ggX1_goIfPulled_X1_pullAlong
theorem dX1_goIfPulled_0 : decode cX1_goIfPulled 0 = .ok (.iconst 0, 1) := by decide +kernel
theorem dX1_goIfPulled_1 : decode cX1_goIfPulled 1 = .ok (.istore_n 3, 1) := by decide +kernel
theorem dX1_goIfPulled_2 : decode cX1_goIfPulled 2 = .ok (.iload_n 3, 1) := by decide +kernel
theorem dX1_goIfPulled_3 : decode cX1_goIfPulled 3 = .ok (.iconst 4, 1) := by decide +kernel
theorem dX1_goIfPulled_4 : decode cX1_goIfPulled 4 = .ok (.if_icmp .ge 35, 3) := by decide +kernel
theorem dX1_goIfPulled_7 : decode cX1_goIfPulled 7 = .ok (.iload_n 3, 1) := by decide +kernel
theorem dX1_goIfPulled_8 : decode cX1_goIfPulled 8 = .ok (.aload_n 1, 1) := by decide +kernel
theorem dX1_goIfPulled_9 : decode cX1_goIfPulled 9 = .ok (.iload_n 2, 1) := by decide +kernel
theorem dX1_goIfPulled_10 : decode cX1_goIfPulled 10 = .ok (.invokestatic 86, 3) := by decide +kernel
theorem dX1_goIfPulled_13 : decode cX1_goIfPulled 13 = .ok (.aload_n 0, 1) := by decide +kernel
theorem dX1_goIfPulled_14 : decode cX1_goIfPulled 14 = .ok (.iload_n 3, 1) := by decide +kernel
theorem dX1_goIfPulled_15 : decode cX1_goIfPulled 15 = .ok (.aload_n 1, 1) := by decide +kernel
theorem dX1_goIfPulled_16 : decode cX1_goIfPulled 16 = .ok (.invokevirtual 90, 3) := by decide +kernel
theorem dX1_goIfPulled_19 : decode cX1_goIfPulled 19 = .ok (.if_icmp .le 14, 3) := by decide +kernel
theorem dX1_goIfPulled_22 : decode cX1_goIfPulled 22 = .ok (.aload_n 0, 1) := by decide +kernel
theorem dX1_goIfPulled_23 : decode cX1_goIfPulled 23 = .ok (.iconst 1, 1) := by decide +kernel
theorem dX1_goIfPulled_24 : decode cX1_goIfPulled 24 = .ok (.putfield 40, 3) := by decide +kernel
theorem dX1_goIfPulled_27 : decode cX1_goIfPulled 27 = .ok (.aload_n 0, 1) := by decide +kernel
theorem dX1_goIfPulled_28 : decode cX1_goIfPulled 28 = .ok (.iload_n 3, 1) := by decide +kernel
theorem dX1_goIfPulled_29 : decode cX1_goIfPulled 29 = .ok (.putfield 43, 3) := by decide +kernel
theorem dX1_goIfPulled_32 : decode cX1_goIfPulled 32 = .ok (.return_, 1) := by decide +kernel
theorem dX1_goIfPulled_33 : decode cX1_goIfPulled 33 = .ok (.iinc 3 1, 3) := by decide +kernel
theorem dX1_goIfPulled_36 : decode cX1_goIfPulled 36 = .ok (.goto (-34), 3) := by decide +kernel
theorem dX1_goIfPulled_39 : decode cX1_goIfPulled 39 = .ok (.aload_n 1, 1) := by decide +kernel
theorem dX1_goIfPulled_40 : decode cX1_goIfPulled 40 = .ok (.iload_n 2, 1) := by decide +kernel
theorem dX1_goIfPulled_41 : decode cX1_goIfPulled 41 = .ok (.invokestatic 94, 3) := by decide +kernel
theorem dX1_goIfPulled_44 : decode cX1_goIfPulled 44 = .ok (.aload_n 1, 1) := by decide +kernel
theorem dX1_goIfPulled_45 : decode cX1_goIfPulled 45 = .ok (.getfield 98, 3) := by decide +kernel
theorem dX1_goIfPulled_48 : decode cX1_goIfPulled 48 = .ok (.if_icmp .le 8, 3) := by decide +kernel
theorem dX1_goIfPulled_51 : decode cX1_goIfPulled 51 = .ok (.aload_n 0, 1) := by decide +kernel
theorem dX1_goIfPulled_52 : decode cX1_goIfPulled 52 = .ok (.iconst 2, 1) := by decide +kernel
theorem dX1_goIfPulled_53 : decode cX1_goIfPulled 53 = .ok (.putfield 40, 3) := by decide +kernel
theorem dX1_goIfPulled_56 : decode cX1_goIfPulled 56 = .ok (.return_, 1) := by decide +kernel
theorem dX1_pressIn_0 : decode cX1_pressIn 0 = .ok (.aload_n 0, 1) := by decide +kernel
theorem dX1_pressIn_1 : decode cX1_pressIn 1 = .ok (.getfield 40, 3) := by decide +kernel
theorem dX1_pressIn_4 : decode cX1_pressIn 4 = .ok (.ifCond .eq 5, 3) := by decide +kernel
theorem dX1_pressIn_7 : decode cX1_pressIn 7 = .ok (.iconst 0, 1) := by decide +kernel
theorem dX1_pressIn_8 : decode cX1_pressIn 8 = .ok (.ireturn, 1) := by decide +kernel
theorem dX1_pressIn_9 : decode cX1_pressIn 9 = .ok (.iconst 0, 1) := by decide +kernel
theorem dX1_pressIn_10 : decode cX1_pressIn 10 = .ok (.aload_n 0, 1) := by decide +kernel
theorem dX1_pressIn_11 : decode cX1_pressIn 11 = .ok (.getfield 22, 3) := by decide +kernel
theorem dX1_pressIn_14 : decode cX1_pressIn 14 = .ok (.bipush 40, 2) := by decide +kernel
theorem dX1_pressIn_16 : decode cX1_pressIn 16 = .ok (.isub, 1) := by decide +kernel
theorem dX1_pressIn_17 : decode cX1_pressIn 17 = .ok (.iconst 4, 1) := by decide +kernel
theorem dX1_pressIn_18 : decode cX1_pressIn 18 = .ok (.idiv, 1) := by decide +kernel
theorem dX1_pressIn_19 : decode cX1_pressIn 19 = .ok (.invokestatic 83, 3) := by decide +kernel
theorem dX1_pressIn_22 : decode cX1_pressIn 22 = .ok (.istore_n 2, 1) := by decide +kernel
theorem dX1_pressIn_23 : decode cX1_pressIn 23 = .ok (.iconst 0, 1) := by decide +kernel
theorem dX1_pressIn_24 : decode cX1_pressIn 24 = .ok (.aload_n 1, 1) := by decide +kernel
theorem dX1_pressIn_25 : decode cX1_pressIn 25 = .ok (.getfield 101, 3) := by decide +kernel
theorem dX1_pressIn_28 : decode cX1_pressIn 28 = .ok (.iload_n 2, 1) := by decide +kernel
theorem dX1_pressIn_29 : decode cX1_pressIn 29 = .ok (.iadd, 1) := by decide +kernel
theorem dX1_pressIn_30 : decode cX1_pressIn 30 = .ok (.aload_n 0, 1) := by decide +kernel
theorem dX1_pressIn_31 : decode cX1_pressIn 31 = .ok (.getfield 46, 3) := by decide +kernel
theorem dX1_pressIn_34 : decode cX1_pressIn 34 = .ok (.iconst 2, 1) := by decide +kernel
theorem dX1_pressIn_35 : decode cX1_pressIn 35 = .ok (.idiv, 1) := by decide +kernel
theorem dX1_pressIn_36 : decode cX1_pressIn 36 = .ok (.iadd, 1) := by decide +kernel
theorem dX1_pressIn_37 : decode cX1_pressIn 37 = .ok (.iconst 5, 1) := by decide +kernel
theorem dX1_pressIn_38 : decode cX1_pressIn 38 = .ok (.aload_n 0, 1) := by decide +kernel
theorem dX1_pressIn_39 : decode cX1_pressIn 39 = .ok (.getfield 31, 3) := by decide +kernel
theorem dX1_pressIn_42 : decode cX1_pressIn 42 = .ok (.imul, 1) := by decide +kernel
theorem dX1_pressIn_43 : decode cX1_pressIn 43 = .ok (.isub, 1) := by decide +kernel
theorem dX1_pressIn_44 : decode cX1_pressIn 44 = .ok (.invokestatic 83, 3) := by decide +kernel
theorem dX1_pressIn_47 : decode cX1_pressIn 47 = .ok (.ireturn, 1) := by decide +kernel
theorem dX1_pullRound_0 : decode cX1_pullRound 0 = .ok (.iload_n 0, 1) := by decide +kernel
theorem dX1_pullRound_1 : decode cX1_pullRound 1 = .ok (.aload_n 1, 1) := by decide +kernel
theorem dX1_pullRound_2 : decode cX1_pullRound 2 = .ok (.getfield 104, 3) := by decide +kernel
theorem dX1_pullRound_5 : decode cX1_pullRound 5 = .ok (.if_icmp .ne 10, 3) := by decide +kernel
theorem dX1_pullRound_8 : decode cX1_pullRound 8 = .ok (.aload_n 1, 1) := by decide +kernel
theorem dX1_pullRound_9 : decode cX1_pullRound 9 = .ok (.getfield 107, 3) := by decide +kernel
theorem dX1_pullRound_12 : decode cX1_pullRound 12 = .ok (.goto 4, 3) := by decide +kernel
theorem dX1_pullRound_15 : decode cX1_pullRound 15 = .ok (.iconst 0, 1) := by decide +kernel
theorem dX1_pullRound_16 : decode cX1_pullRound 16 = .ok (.istore_n 3, 1) := by decide +kernel
theorem dX1_pullRound_17 : decode cX1_pullRound 17 = .ok (.iload_n 2, 1) := by decide +kernel
theorem dX1_pullRound_18 : decode cX1_pullRound 18 = .ok (.aload_n 1, 1) := by decide +kernel
theorem dX1_pullRound_19 : decode cX1_pullRound 19 = .ok (.getfield 80, 3) := by decide +kernel
theorem dX1_pullRound_22 : decode cX1_pullRound 22 = .ok (.imul, 1) := by decide +kernel
theorem dX1_pullRound_23 : decode cX1_pullRound 23 = .ok (.iload_n 3, 1) := by decide +kernel
theorem dX1_pullRound_24 : decode cX1_pullRound 24 = .ok (.iadd, 1) := by decide +kernel
theorem dX1_pullRound_25 : decode cX1_pullRound 25 = .ok (.ireturn, 1) := by decide +kernel
theorem dX1_pullAlong_0 : decode cX1_pullAlong 0 = .ok (.iload_n 1, 1) := by decide +kernel
theorem dX1_pullAlong_1 : decode cX1_pullAlong 1 = .ok (.aload_n 0, 1) := by decide +kernel
theorem dX1_pullAlong_2 : decode cX1_pullAlong 2 = .ok (.getfield 80, 3) := by decide +kernel
theorem dX1_pullAlong_5 : decode cX1_pullAlong 5 = .ok (.imul, 1) := by decide +kernel
theorem dX1_pullAlong_6 : decode cX1_pullAlong 6 = .ok (.iconst 2, 1) := by decide +kernel
theorem dX1_pullAlong_7 : decode cX1_pullAlong 7 = .ok (.idiv, 1) := by decide +kernel
theorem dX1_pullAlong_8 : decode cX1_pullAlong 8 = .ok (.ireturn, 1) := by decide +kernel
set_option maxRecDepth 20000 in
theorem ggX1_strengthAt_X4_outside : GoodIn wsX1_strengthAt wsX4_outside := goodIn_r _ [11] (by decide +kernel) (by decide +kernel)
set_option maxRecDepth 20000 in
theorem gX1_strengthAt_X4_outside_n110 : GoodIn wsX1_strengthAt (wsX4_outside) := ggX1_strengthAt_X4_outside
theorem dX1_strengthAt_0 : decode cX1_strengthAt 0 = .ok (.iload_n 1, 1) := by decide +kernel
theorem dX1_strengthAt_1 : decode cX1_strengthAt 1 = .ok (.iconst 0, 1) := by decide +kernel
theorem dX1_strengthAt_2 : decode cX1_strengthAt 2 = .ok (.iconst 3, 1) := by decide +kernel
theorem dX1_strengthAt_3 : decode cX1_strengthAt 3 = .ok (.invokestatic 110, 3) := by decide +kernel
theorem dX1_strengthAt_6 : decode cX1_strengthAt 6 = .ok (.ifCond .eq 7, 3) := by decide +kernel
theorem dX1_strengthAt_9 : decode cX1_strengthAt 9 = .ok (.iconst 0, 1) := by decide +kernel
theorem dX1_strengthAt_10 : decode cX1_strengthAt 10 = .ok (.goto 19, 3) := by decide +kernel
theorem dX1_strengthAt_13 : decode cX1_strengthAt 13 = .ok (.iconst 0, 1) := by decide +kernel
theorem dX1_strengthAt_14 : decode cX1_strengthAt 14 = .ok (.aload_n 0, 1) := by decide +kernel
theorem dX1_strengthAt_15 : decode cX1_strengthAt 15 = .ok (.getfield 9, 3) := by decide +kernel
theorem dX1_strengthAt_18 : decode cX1_strengthAt 18 = .ok (.iload_n 1, 1) := by decide +kernel
theorem dX1_strengthAt_19 : decode cX1_strengthAt 19 = .ok (.iaload, 1) := by decide +kernel
theorem dX1_strengthAt_20 : decode cX1_strengthAt 20 = .ok (.sipush 150, 3) := by decide +kernel
theorem dX1_strengthAt_23 : decode cX1_strengthAt 23 = .ok (.isub, 1) := by decide +kernel
theorem dX1_strengthAt_24 : decode cX1_strengthAt 24 = .ok (.iconst 2, 1) := by decide +kernel
theorem dX1_strengthAt_25 : decode cX1_strengthAt 25 = .ok (.idiv, 1) := by decide +kernel
theorem dX1_strengthAt_26 : decode cX1_strengthAt 26 = .ok (.invokestatic 83, 3) := by decide +kernel
theorem dX1_strengthAt_29 : decode cX1_strengthAt 29 = .ok (.istore_n 3, 1) := by decide +kernel
theorem dX1_strengthAt_30 : decode cX1_strengthAt 30 = .ok (.aload_n 0, 1) := by decide +kernel
theorem dX1_strengthAt_31 : decode cX1_strengthAt 31 = .ok (.getfield 34, 3) := by decide +kernel
theorem dX1_strengthAt_34 : decode cX1_strengthAt 34 = .ok (.iload_n 1, 1) := by decide +kernel
theorem dX1_strengthAt_35 : decode cX1_strengthAt 35 = .ok (.ishr, 1) := by decide +kernel
theorem dX1_strengthAt_36 : decode cX1_strengthAt 36 = .ok (.iconst 1, 1) := by decide +kernel
theorem dX1_strengthAt_37 : decode cX1_strengthAt 37 = .ok (.iand, 1) := by decide +kernel
theorem dX1_strengthAt_38 : decode cX1_strengthAt 38 = .ok (.iconst 1, 1) := by decide +kernel
theorem dX1_strengthAt_39 : decode cX1_strengthAt 39 = .ok (.if_icmp .ne 10, 3) := by decide +kernel
theorem dX1_strengthAt_42 : decode cX1_strengthAt 42 = .ok (.aload_n 2, 1) := by decide +kernel
theorem dX1_strengthAt_43 : decode cX1_strengthAt 43 = .ok (.getfield 114, 3) := by decide +kernel
theorem dX1_strengthAt_46 : decode cX1_strengthAt 46 = .ok (.goto 4, 3) := by decide +kernel
theorem dX1_strengthAt_49 : decode cX1_strengthAt 49 = .ok (.iconst 0, 1) := by decide +kernel
theorem dX1_strengthAt_50 : decode cX1_strengthAt 50 = .ok (.istore 4, 2) := by decide +kernel
theorem dX1_strengthAt_52 : decode cX1_strengthAt 52 = .ok (.iconst 1, 1) := by decide +kernel
theorem dX1_strengthAt_53 : decode cX1_strengthAt 53 = .ok (.aload_n 2, 1) := by decide +kernel
theorem dX1_strengthAt_54 : decode cX1_strengthAt 54 = .ok (.getfield 117, 3) := by decide +kernel
theorem dX1_strengthAt_57 : decode cX1_strengthAt 57 = .ok (.iload_n 3, 1) := by decide +kernel
theorem dX1_strengthAt_58 : decode cX1_strengthAt 58 = .ok (.isub, 1) := by decide +kernel
theorem dX1_strengthAt_59 : decode cX1_strengthAt 59 = .ok (.iload 4, 2) := by decide +kernel
theorem dX1_strengthAt_61 : decode cX1_strengthAt 61 = .ok (.isub, 1) := by decide +kernel
theorem dX1_strengthAt_62 : decode cX1_strengthAt 62 = .ok (.invokestatic 83, 3) := by decide +kernel
theorem dX1_strengthAt_65 : decode cX1_strengthAt 65 = .ok (.ireturn, 1) := by decide +kernel
theorem dX1_leastBrown_0 : decode cX1_leastBrown 0 = .ok (.aload_n 0, 1) := by decide +kernel
theorem dX1_leastBrown_1 : decode cX1_leastBrown 1 = .ok (.getfield 15, 3) := by decide +kernel
theorem dX1_leastBrown_4 : decode cX1_leastBrown 4 = .ok (.iconst 0, 1) := by decide +kernel
theorem dX1_leastBrown_5 : decode cX1_leastBrown 5 = .ok (.iaload, 1) := by decide +kernel
theorem dX1_leastBrown_6 : decode cX1_leastBrown 6 = .ok (.aload_n 0, 1) := by decide +kernel
theorem dX1_leastBrown_7 : decode cX1_leastBrown 7 = .ok (.getfield 15, 3) := by decide +kernel
theorem dX1_leastBrown_10 : decode cX1_leastBrown 10 = .ok (.iconst 1, 1) := by decide +kernel
theorem dX1_leastBrown_11 : decode cX1_leastBrown 11 = .ok (.iaload, 1) := by decide +kernel
theorem dX1_leastBrown_12 : decode cX1_leastBrown 12 = .ok (.invokestatic 49, 3) := by decide +kernel
theorem dX1_leastBrown_15 : decode cX1_leastBrown 15 = .ok (.aload_n 0, 1) := by decide +kernel
theorem dX1_leastBrown_16 : decode cX1_leastBrown 16 = .ok (.getfield 15, 3) := by decide +kernel
theorem dX1_leastBrown_19 : decode cX1_leastBrown 19 = .ok (.iconst 2, 1) := by decide +kernel
theorem dX1_leastBrown_20 : decode cX1_leastBrown 20 = .ok (.iaload, 1) := by decide +kernel
theorem dX1_leastBrown_21 : decode cX1_leastBrown 21 = .ok (.aload_n 0, 1) := by decide +kernel
theorem dX1_leastBrown_22 : decode cX1_leastBrown 22 = .ok (.getfield 15, 3) := by decide +kernel
theorem dX1_leastBrown_25 : decode cX1_leastBrown 25 = .ok (.iconst 3, 1) := by decide +kernel
theorem dX1_leastBrown_26 : decode cX1_leastBrown 26 = .ok (.iaload, 1) := by decide +kernel
theorem dX1_leastBrown_27 : decode cX1_leastBrown 27 = .ok (.invokestatic 49, 3) := by decide +kernel
theorem dX1_leastBrown_30 : decode cX1_leastBrown 30 = .ok (.invokestatic 49, 3) := by decide +kernel
theorem dX1_leastBrown_33 : decode cX1_leastBrown 33 = .ok (.ireturn, 1) := by decide +kernel
theorem dX1_greatestBrown_0 : decode cX1_greatestBrown 0 = .ok (.aload_n 0, 1) := by decide +kernel
theorem dX1_greatestBrown_1 : decode cX1_greatestBrown 1 = .ok (.getfield 15, 3) := by decide +kernel
theorem dX1_greatestBrown_4 : decode cX1_greatestBrown 4 = .ok (.iconst 0, 1) := by decide +kernel
theorem dX1_greatestBrown_5 : decode cX1_greatestBrown 5 = .ok (.iaload, 1) := by decide +kernel
theorem dX1_greatestBrown_6 : decode cX1_greatestBrown 6 = .ok (.aload_n 0, 1) := by decide +kernel
theorem dX1_greatestBrown_7 : decode cX1_greatestBrown 7 = .ok (.getfield 15, 3) := by decide +kernel
theorem dX1_greatestBrown_10 : decode cX1_greatestBrown 10 = .ok (.iconst 1, 1) := by decide +kernel
theorem dX1_greatestBrown_11 : decode cX1_greatestBrown 11 = .ok (.iaload, 1) := by decide +kernel
theorem dX1_greatestBrown_12 : decode cX1_greatestBrown 12 = .ok (.invokestatic 83, 3) := by decide +kernel
theorem dX1_greatestBrown_15 : decode cX1_greatestBrown 15 = .ok (.aload_n 0, 1) := by decide +kernel
theorem dX1_greatestBrown_16 : decode cX1_greatestBrown 16 = .ok (.getfield 15, 3) := by decide +kernel
theorem dX1_greatestBrown_19 : decode cX1_greatestBrown 19 = .ok (.iconst 2, 1) := by decide +kernel
theorem dX1_greatestBrown_20 : decode cX1_greatestBrown 20 = .ok (.iaload, 1) := by decide +kernel
theorem dX1_greatestBrown_21 : decode cX1_greatestBrown 21 = .ok (.aload_n 0, 1) := by decide +kernel
theorem dX1_greatestBrown_22 : decode cX1_greatestBrown 22 = .ok (.getfield 15, 3) := by decide +kernel
theorem dX1_greatestBrown_25 : decode cX1_greatestBrown 25 = .ok (.iconst 3, 1) := by decide +kernel
theorem dX1_greatestBrown_26 : decode cX1_greatestBrown 26 = .ok (.iaload, 1) := by decide +kernel
theorem dX1_greatestBrown_27 : decode cX1_greatestBrown 27 = .ok (.invokestatic 83, 3) := by decide +kernel
theorem dX1_greatestBrown_30 : decode cX1_greatestBrown 30 = .ok (.invokestatic 83, 3) := by decide +kernel
theorem dX1_greatestBrown_33 : decode cX1_greatestBrown 33 = .ok (.ireturn, 1) := by decide +kernel
theorem dX2_init_0 : decode cX2_init 0 = .ok (.aload_n 0, 1) := by decide +kernel
theorem dX2_init_1 : decode cX2_init 1 = .ok (.invokespecial 3, 3) := by decide +kernel
theorem dX2_init_4 : decode cX2_init 4 = .ok (.aload_n 0, 1) := by decide +kernel
theorem dX2_init_5 : decode cX2_init 5 = .ok (.sipush 300, 3) := by decide +kernel
theorem dX2_init_8 : decode cX2_init 8 = .ok (.newarray .int, 2) := by decide +kernel
theorem dX2_init_10 : decode cX2_init 10 = .ok (.putfield 9, 3) := by decide +kernel
theorem dX2_init_13 : decode cX2_init 13 = .ok (.aload_n 0, 1) := by decide +kernel
theorem dX2_init_14 : decode cX2_init 14 = .ok (.bipush 7, 2) := by decide +kernel
theorem dX2_init_16 : decode cX2_init 16 = .ok (.newarray .int, 2) := by decide +kernel
theorem dX2_init_18 : decode cX2_init 18 = .ok (.putfield 15, 3) := by decide +kernel
theorem dX2_init_21 : decode cX2_init 21 = .ok (.return_, 1) := by decide +kernel
theorem dX2_append_0 : decode cX2_append 0 = .ok (.aload_n 0, 1) := by decide +kernel
theorem dX2_append_1 : decode cX2_append 1 = .ok (.getfield 18, 3) := by decide +kernel
theorem dX2_append_4 : decode cX2_append 4 = .ok (.ifCond .lt 33, 3) := by decide +kernel
theorem dX2_append_7 : decode cX2_append 7 = .ok (.aload_n 0, 1) := by decide +kernel
theorem dX2_append_8 : decode cX2_append 8 = .ok (.getfield 18, 3) := by decide +kernel
theorem dX2_append_11 : decode cX2_append 11 = .ok (.sipush 300, 3) := by decide +kernel
theorem dX2_append_14 : decode cX2_append 14 = .ok (.if_icmp .ge 23, 3) := by decide +kernel
theorem dX2_append_17 : decode cX2_append 17 = .ok (.aload_n 0, 1) := by decide +kernel
theorem dX2_append_18 : decode cX2_append 18 = .ok (.getfield 9, 3) := by decide +kernel
theorem dX2_append_21 : decode cX2_append 21 = .ok (.aload_n 0, 1) := by decide +kernel
theorem dX2_append_22 : decode cX2_append 22 = .ok (.getfield 18, 3) := by decide +kernel
theorem dX2_append_25 : decode cX2_append 25 = .ok (.iload_n 1, 1) := by decide +kernel
theorem dX2_append_26 : decode cX2_append 26 = .ok (.iastore, 1) := by decide +kernel
theorem dX2_append_27 : decode cX2_append 27 = .ok (.aload_n 0, 1) := by decide +kernel
theorem dX2_append_28 : decode cX2_append 28 = .ok (.dup, 1) := by decide +kernel
theorem dX2_append_29 : decode cX2_append 29 = .ok (.getfield 18, 3) := by decide +kernel
theorem dX2_append_32 : decode cX2_append 32 = .ok (.iconst 1, 1) := by decide +kernel
theorem dX2_append_33 : decode cX2_append 33 = .ok (.iadd, 1) := by decide +kernel
theorem dX2_append_34 : decode cX2_append 34 = .ok (.putfield 18, 3) := by decide +kernel
theorem dX2_append_37 : decode cX2_append 37 = .ok (.return_, 1) := by decide +kernel
set_option maxRecDepth 20000 in
theorem ggX2_readAll_X3_setAtFirst : GoodIn wsX2_readAll wsX3_setAtFirst := goodIn_r _ [10, 11, 12, 13, 14, 15, 16, 17, 18, 19, 20, 155, 156, 157, 158, 159, 160, 161, 162, 163, 164, 165, 166, 167] (by decide +kernel) (by decide +kernel)
set_option maxRecDepth 20000 in
theorem gX2_readAll_X3_setAtFirst : GoodIn wsX2_readAll (wsV RX2 22 RX3 yX3_setAtFirst wsX3_setAtFirst) := goodIn_app (goodIn_of _ (by decide +kernel)) ggX2_readAll_X3_setAtFirst
set_option maxRecDepth 20000 in
theorem ggX2_readAll_X2_readToken : GoodIn wsX2_readAll wsX2_readToken := goodIn_r _ [25, 1, 5, 26, 27, 4, 28, 29, 30, 24, 31, 32, 33, 34, 35, 36, 37, 38, 39, 40, 41, 42, 43, 44, 45, 46, 47, 48, 49, 50, 51, 52, 53, 54, 55, 56, 57, 58, 59, 60, 61, 62, 63, 64, 65, 66, 67, 68, 69, 70, 71, 72, 73, 74, 75, 76, 77, 78, 79, 80, 81, 82, 83, 84, 85, 86, 87, 88, 89, 90, 91, 92, 93, 94, 95, 96, 97, 98, 99, 100, 101, 102, 103, 104, 105, 106, 146, 147, 148, 149, 150, 151, 152, 153, 154] (by decide +kernel) (by decide +kernel)
set_option maxRecDepth 20000 in
theorem gX2_readAll_X2_readToken : GoodIn wsX2_readAll (wsV RX2 37 RX2 yX2_readToken wsX2_readToken) := goodIn_app (goodIn_of _ (by decide +kernel)) ggX2_readAll_X2_readToken
set_option maxRecDepth 20000 in
theorem ggX2_readAll_X2_readItem : GoodIn wsX2_readAll wsX2_readItem := goodIn_r _ [110, 4, 27, 111, 112, 113, 114, 115, 116, 117, 118, 119, 120, 24, 121, 2, 3, 122, 123, 124, 9, 125, 20, 21, 22, 23, 25, 1, 5, 26, 28, 29, 30, 31, 32, 33, 34, 35, 36, 37, 38, 39, 40, 41, 42, 43, 44, 45, 46, 47, 48, 49, 50, 51, 52, 53, 54, 55, 56, 57, 58, 59, 60, 61, 62, 63, 64, 65, 66, 67, 68, 69, 70, 71, 72, 73, 74, 75, 76, 77, 78, 79, 80, 81, 82, 83, 84, 85, 86, 87, 88, 89, 90, 91, 92, 93, 94, 95, 96, 97, 98, 99, 100, 101, 102, 103, 104, 105, 106, 126, 127, 128, 129, 130, 131, 132, 133, 134, 135, 136, 137, 138, 139, 140, 141, 142, 143, 144, 145, 146, 147, 148, 149, 150, 151, 152, 153, 154, 155, 156, 157, 158, 159, 160, 161, 162, 163, 164, 165, 166, 167] (by decide +kernel) (by decide +kernel)
set_option maxRecDepth 20000 in
theorem gX2_readAll_X2_readItem : GoodIn wsX2_readAll (wsV RX2 43 RX2 yX2_readItem wsX2_readItem) := goodIn_app (goodIn_of _ (by decide +kernel)) ggX2_readAll_X2_readItem
theorem dX2_readAll_0 : decode cX2_readAll 0 = .ok (.aload_n 1, 1) := by decide +kernel
theorem dX2_readAll_1 : decode cX2_readAll 1 = .ok (.invokevirtual 22, 3) := by decide +kernel
theorem dX2_readAll_4 : decode cX2_readAll 4 = .ok (.aload_n 0, 1) := by decide +kernel
theorem dX2_readAll_5 : decode cX2_readAll 5 = .ok (.iconst 0, 1) := by decide +kernel
theorem dX2_readAll_6 : decode cX2_readAll 6 = .ok (.putfield 27, 3) := by decide +kernel
theorem dX2_readAll_9 : decode cX2_readAll 9 = .ok (.aload_n 0, 1) := by decide +kernel
theorem dX2_readAll_10 : decode cX2_readAll 10 = .ok (.iconst 0, 1) := by decide +kernel
theorem dX2_readAll_11 : decode cX2_readAll 11 = .ok (.putfield 30, 3) := by decide +kernel
theorem dX2_readAll_14 : decode cX2_readAll 14 = .ok (.aload_n 0, 1) := by decide +kernel
theorem dX2_readAll_15 : decode cX2_readAll 15 = .ok (.iconst 0, 1) := by decide +kernel
theorem dX2_readAll_16 : decode cX2_readAll 16 = .ok (.putfield 34, 3) := by decide +kernel
theorem dX2_readAll_19 : decode cX2_readAll 19 = .ok (.iconst 0, 1) := by decide +kernel
theorem dX2_readAll_20 : decode cX2_readAll 20 = .ok (.istore_n 2, 1) := by decide +kernel
theorem dX2_readAll_21 : decode cX2_readAll 21 = .ok (.iload_n 2, 1) := by decide +kernel
theorem dX2_readAll_22 : decode cX2_readAll 22 = .ok (.sipush 300, 3) := by decide +kernel
theorem dX2_readAll_25 : decode cX2_readAll 25 = .ok (.if_icmp .gt 33, 3) := by decide +kernel
theorem dX2_readAll_28 : decode cX2_readAll 28 = .ok (.aload_n 0, 1) := by decide +kernel
theorem dX2_readAll_29 : decode cX2_readAll 29 = .ok (.invokevirtual 37, 3) := by decide +kernel
theorem dX2_readAll_32 : decode cX2_readAll 32 = .ok (.aload_n 0, 1) := by decide +kernel
theorem dX2_readAll_33 : decode cX2_readAll 33 = .ok (.getfield 40, 3) := by decide +kernel
theorem dX2_readAll_36 : decode cX2_readAll 36 = .ok (.ifCond .ne 5, 3) := by decide +kernel
theorem dX2_readAll_39 : decode cX2_readAll 39 = .ok (.iload_n 2, 1) := by decide +kernel
theorem dX2_readAll_40 : decode cX2_readAll 40 = .ok (.ireturn, 1) := by decide +kernel
theorem dX2_readAll_41 : decode cX2_readAll 41 = .ok (.aload_n 0, 1) := by decide +kernel
theorem dX2_readAll_42 : decode cX2_readAll 42 = .ok (.aload_n 1, 1) := by decide +kernel
theorem dX2_readAll_43 : decode cX2_readAll 43 = .ok (.invokevirtual 43, 3) := by decide +kernel
theorem dX2_readAll_46 : decode cX2_readAll 46 = .ok (.ifCond .ne 6, 3) := by decide +kernel
theorem dX2_readAll_49 : decode cX2_readAll 49 = .ok (.goto 9, 3) := by decide +kernel
theorem dX2_readAll_52 : decode cX2_readAll 52 = .ok (.iinc 2 1, 3) := by decide +kernel
theorem dX2_readAll_55 : decode cX2_readAll 55 = .ok (.goto (-34), 3) := by decide +kernel
theorem dX2_readAll_58 : decode cX2_readAll 58 = .ok (.bipush (-10), 2) := by decide +kernel
theorem dX2_readAll_60 : decode cX2_readAll 60 = .ok (.aload_n 0, 1) := by decide +kernel
theorem dX2_readAll_61 : decode cX2_readAll 61 = .ok (.getfield 47, 3) := by decide +kernel
theorem dX2_readAll_64 : decode cX2_readAll 64 = .ok (.isub, 1) := by decide +kernel
theorem dX2_readAll_65 : decode cX2_readAll 65 = .ok (.ireturn, 1) := by decide +kernel
set_option maxRecDepth 20000 in
theorem ggX2_readItem_X4_outside : GoodIn wsX2_readItem wsX4_outside := goodIn_r _ [9] (by decide +kernel) (by decide +kernel)
set_option maxRecDepth 20000 in
theorem gX2_readItem_X4_outside_n53 : GoodIn wsX2_readItem (wsX4_outside) := ggX2_readItem_X4_outside
set_option maxRecDepth 20000 in
theorem ggX2_readItem_X2_mayStand : GoodIn wsX2_readItem wsX2_mayStand := goodIn_r _ [14, 15, 16, 17, 18, 19, 20, 21, 22, 129, 130, 131, 132, 133, 134, 135, 136, 137, 138, 139, 140, 141, 142, 143, 144, 145, 146, 147, 148, 149, 150] (by decide +kernel) (by decide +kernel)
set_option maxRecDepth 20000 in
theorem gX2_readItem_X2_mayStand : GoodIn wsX2_readItem (wsV RX2 57 RX2 yX2_mayStand wsX2_mayStand) := goodIn_app (goodIn_of _ (by decide +kernel)) ggX2_readItem_X2_mayStand
set_option maxRecDepth 20000 in
theorem ggX2_readItem_X2_readToken : GoodIn wsX2_readItem wsX2_readToken := goodIn_r _ [26, 27, 28, 29, 2, 1, 30, 31, 32, 13, 33, 34, 35, 36, 37, 38, 39, 40, 41, 42, 43, 44, 45, 46, 47, 48, 49, 50, 51, 52, 53, 54, 55, 56, 57, 58, 59, 60, 61, 62, 63, 64, 65, 66, 67, 68, 69, 70, 71, 72, 73, 74, 75, 76, 77, 78, 79, 80, 81, 82, 83, 84, 85, 86, 87, 88, 89, 90, 91, 92, 93, 94, 95, 96, 97, 98, 99, 100, 101, 102, 103, 104, 105, 106, 107, 108, 129, 130, 131, 132, 133, 134, 135, 136, 137] (by decide +kernel) (by decide +kernel)
set_option maxRecDepth 20000 in
theorem gX2_readItem_X2_readToken : GoodIn wsX2_readItem (wsV RX2 37 RX2 yX2_readToken wsX2_readToken) := goodIn_app (goodIn_of _ (by decide +kernel)) ggX2_readItem_X2_readToken
set_option maxRecDepth 20000 in
theorem ggX2_readItem_X2_tell : GoodIn wsX2_readItem wsX2_tell := goodIn_r _ [112, 15, 6, 113, 114, 115, 116, 117, 118, 119, 16, 120, 121, 122, 123, 124, 20, 125, 22, 126, 127, 128, 129, 130, 131, 132, 133, 134, 135, 136, 137, 138, 139, 140, 141, 142, 143, 144, 145, 146, 147, 148, 149, 150] (by decide +kernel) (by decide +kernel)
set_option maxRecDepth 20000 in
theorem gX2_readItem_X2_tell : GoodIn wsX2_readItem (wsV RX2 70 RX2 yX2_tell wsX2_tell) := goodIn_app (goodIn_of _ (by decide +kernel)) ggX2_readItem_X2_tell
theorem dX2_readItem_0 : decode cX2_readItem 0 = .ok (.aload_n 0, 1) := by decide +kernel
theorem dX2_readItem_1 : decode cX2_readItem 1 = .ok (.getfield 40, 3) := by decide +kernel
theorem dX2_readItem_4 : decode cX2_readItem 4 = .ok (.iconst 3, 1) := by decide +kernel
theorem dX2_readItem_5 : decode cX2_readItem 5 = .ok (.if_icmp .ne 27, 3) := by decide +kernel
theorem dX2_readItem_8 : decode cX2_readItem 8 = .ok (.aload_n 0, 1) := by decide +kernel
theorem dX2_readItem_9 : decode cX2_readItem 9 = .ok (.getfield 50, 3) := by decide +kernel
theorem dX2_readItem_12 : decode cX2_readItem 12 = .ok (.iconst 0, 1) := by decide +kernel
theorem dX2_readItem_13 : decode cX2_readItem 13 = .ok (.iconst 5, 1) := by decide +kernel
theorem dX2_readItem_14 : decode cX2_readItem 14 = .ok (.invokestatic 53, 3) := by decide +kernel
theorem dX2_readItem_17 : decode cX2_readItem 17 = .ok (.ifCond .ne 15, 3) := by decide +kernel
theorem dX2_readItem_20 : decode cX2_readItem 20 = .ok (.aload_n 0, 1) := by decide +kernel
theorem dX2_readItem_21 : decode cX2_readItem 21 = .ok (.aload_n 0, 1) := by decide +kernel
theorem dX2_readItem_22 : decode cX2_readItem 22 = .ok (.getfield 50, 3) := by decide +kernel
theorem dX2_readItem_25 : decode cX2_readItem 25 = .ok (.aload_n 1, 1) := by decide +kernel
theorem dX2_readItem_26 : decode cX2_readItem 26 = .ok (.invokevirtual 57, 3) := by decide +kernel
theorem dX2_readItem_29 : decode cX2_readItem 29 = .ok (.ifCond .ne 5, 3) := by decide +kernel
theorem dX2_readItem_32 : decode cX2_readItem 32 = .ok (.iconst 0, 1) := by decide +kernel
theorem dX2_readItem_33 : decode cX2_readItem 33 = .ok (.ireturn, 1) := by decide +kernel
theorem dX2_readItem_34 : decode cX2_readItem 34 = .ok (.aload_n 0, 1) := by decide +kernel
theorem dX2_readItem_35 : decode cX2_readItem 35 = .ok (.getfield 50, 3) := by decide +kernel
theorem dX2_readItem_38 : decode cX2_readItem 38 = .ok (.istore_n 2, 1) := by decide +kernel
theorem dX2_readItem_39 : decode cX2_readItem 39 = .ok (.getstatic 61, 3) := by decide +kernel
theorem dX2_readItem_42 : decode cX2_readItem 42 = .ok (.iload_n 2, 1) := by decide +kernel
theorem dX2_readItem_43 : decode cX2_readItem 43 = .ok (.iaload, 1) := by decide +kernel
theorem dX2_readItem_44 : decode cX2_readItem 44 = .ok (.istore_n 3, 1) := by decide +kernel
theorem dX2_readItem_45 : decode cX2_readItem 45 = .ok (.getstatic 61, 3) := by decide +kernel
theorem dX2_readItem_48 : decode cX2_readItem 48 = .ok (.iload_n 2, 1) := by decide +kernel
theorem dX2_readItem_49 : decode cX2_readItem 49 = .ok (.iconst 1, 1) := by decide +kernel
theorem dX2_readItem_50 : decode cX2_readItem 50 = .ok (.iadd, 1) := by decide +kernel
theorem dX2_readItem_51 : decode cX2_readItem 51 = .ok (.iaload, 1) := by decide +kernel
theorem dX2_readItem_52 : decode cX2_readItem 52 = .ok (.iload_n 3, 1) := by decide +kernel
theorem dX2_readItem_53 : decode cX2_readItem 53 = .ok (.isub, 1) := by decide +kernel
theorem dX2_readItem_54 : decode cX2_readItem 54 = .ok (.istore 4, 2) := by decide +kernel
theorem dX2_readItem_56 : decode cX2_readItem 56 = .ok (.iconst 0, 1) := by decide +kernel
theorem dX2_readItem_57 : decode cX2_readItem 57 = .ok (.istore 5, 2) := by decide +kernel
theorem dX2_readItem_59 : decode cX2_readItem 59 = .ok (.iload 5, 2) := by decide +kernel
theorem dX2_readItem_61 : decode cX2_readItem 61 = .ok (.iload 4, 2) := by decide +kernel
theorem dX2_readItem_63 : decode cX2_readItem 63 = .ok (.if_icmp .ge 67, 3) := by decide +kernel
theorem dX2_readItem_66 : decode cX2_readItem 66 = .ok (.iload 5, 2) := by decide +kernel
theorem dX2_readItem_68 : decode cX2_readItem 68 = .ok (.bipush 7, 2) := by decide +kernel
theorem dX2_readItem_70 : decode cX2_readItem 70 = .ok (.if_icmp .ge 60, 3) := by decide +kernel
theorem dX2_readItem_73 : decode cX2_readItem 73 = .ok (.aload_n 0, 1) := by decide +kernel
theorem dX2_readItem_74 : decode cX2_readItem 74 = .ok (.invokevirtual 37, 3) := by decide +kernel
theorem dX2_readItem_77 : decode cX2_readItem 77 = .ok (.aload_n 0, 1) := by decide +kernel
theorem dX2_readItem_78 : decode cX2_readItem 78 = .ok (.getfield 40, 3) := by decide +kernel
theorem dX2_readItem_81 : decode cX2_readItem 81 = .ok (.iconst 2, 1) := by decide +kernel
theorem dX2_readItem_82 : decode cX2_readItem 82 = .ok (.if_icmp .ne 29, 3) := by decide +kernel
theorem dX2_readItem_85 : decode cX2_readItem 85 = .ok (.aload_n 0, 1) := by decide +kernel
theorem dX2_readItem_86 : decode cX2_readItem 86 = .ok (.getfield 50, 3) := by decide +kernel
theorem dX2_readItem_89 : decode cX2_readItem 89 = .ok (.getstatic 64, 3) := by decide +kernel
theorem dX2_readItem_92 : decode cX2_readItem 92 = .ok (.iload_n 3, 1) := by decide +kernel
theorem dX2_readItem_93 : decode cX2_readItem 93 = .ok (.iload 5, 2) := by decide +kernel
theorem dX2_readItem_95 : decode cX2_readItem 95 = .ok (.iadd, 1) := by decide +kernel
theorem dX2_readItem_96 : decode cX2_readItem 96 = .ok (.iaload, 1) := by decide +kernel
theorem dX2_readItem_97 : decode cX2_readItem 97 = .ok (.getstatic 67, 3) := by decide +kernel
theorem dX2_readItem_100 : decode cX2_readItem 100 = .ok (.iload_n 3, 1) := by decide +kernel
theorem dX2_readItem_101 : decode cX2_readItem 101 = .ok (.iload 5, 2) := by decide +kernel
theorem dX2_readItem_103 : decode cX2_readItem 103 = .ok (.iadd, 1) := by decide +kernel
theorem dX2_readItem_104 : decode cX2_readItem 104 = .ok (.iaload, 1) := by decide +kernel
theorem dX2_readItem_105 : decode cX2_readItem 105 = .ok (.invokestatic 53, 3) := by decide +kernel
theorem dX2_readItem_108 : decode cX2_readItem 108 = .ok (.ifCond .eq 5, 3) := by decide +kernel
theorem dX2_readItem_111 : decode cX2_readItem 111 = .ok (.iconst 0, 1) := by decide +kernel
theorem dX2_readItem_112 : decode cX2_readItem 112 = .ok (.ireturn, 1) := by decide +kernel
theorem dX2_readItem_113 : decode cX2_readItem 113 = .ok (.aload_n 0, 1) := by decide +kernel
theorem dX2_readItem_114 : decode cX2_readItem 114 = .ok (.getfield 15, 3) := by decide +kernel
theorem dX2_readItem_117 : decode cX2_readItem 117 = .ok (.iload 5, 2) := by decide +kernel
theorem dX2_readItem_119 : decode cX2_readItem 119 = .ok (.aload_n 0, 1) := by decide +kernel
theorem dX2_readItem_120 : decode cX2_readItem 120 = .ok (.getfield 50, 3) := by decide +kernel
theorem dX2_readItem_123 : decode cX2_readItem 123 = .ok (.iastore, 1) := by decide +kernel
theorem dX2_readItem_124 : decode cX2_readItem 124 = .ok (.iinc 5 1, 3) := by decide +kernel
theorem dX2_readItem_127 : decode cX2_readItem 127 = .ok (.goto (-68), 3) := by decide +kernel
theorem dX2_readItem_130 : decode cX2_readItem 130 = .ok (.aload_n 0, 1) := by decide +kernel
theorem dX2_readItem_131 : decode cX2_readItem 131 = .ok (.invokevirtual 37, 3) := by decide +kernel
theorem dX2_readItem_134 : decode cX2_readItem 134 = .ok (.aload_n 0, 1) := by decide +kernel
theorem dX2_readItem_135 : decode cX2_readItem 135 = .ok (.getfield 40, 3) := by decide +kernel
theorem dX2_readItem_138 : decode cX2_readItem 138 = .ok (.iconst 1, 1) := by decide +kernel
theorem dX2_readItem_139 : decode cX2_readItem 139 = .ok (.if_icmp .eq 5, 3) := by decide +kernel
theorem dX2_readItem_142 : decode cX2_readItem 142 = .ok (.iconst 0, 1) := by decide +kernel
theorem dX2_readItem_143 : decode cX2_readItem 143 = .ok (.ireturn, 1) := by decide +kernel
theorem dX2_readItem_144 : decode cX2_readItem 144 = .ok (.aload_n 0, 1) := by decide +kernel
theorem dX2_readItem_145 : decode cX2_readItem 145 = .ok (.iload_n 2, 1) := by decide +kernel
theorem dX2_readItem_146 : decode cX2_readItem 146 = .ok (.iload 4, 2) := by decide +kernel
theorem dX2_readItem_148 : decode cX2_readItem 148 = .ok (.aload_n 1, 1) := by decide +kernel
theorem dX2_readItem_149 : decode cX2_readItem 149 = .ok (.invokevirtual 70, 3) := by decide +kernel
theorem dX2_readItem_152 : decode cX2_readItem 152 = .ok (.iconst 1, 1) := by decide +kernel
theorem dX2_readItem_153 : decode cX2_readItem 153 = .ok (.ireturn, 1) := by decide +kernel
set_option maxRecDepth 20000 in
theorem ggX2_mayStand_X3_isFull : GoodIn wsX2_mayStand wsX3_isFull := goodIn_r _ [7, 8, 18, 19, 20, 21, 22, 23, 24, 25, 26, 27, 28, 29, 30] (by decide +kernel) (by decide +kernel)
set_option maxRecDepth 20000 in
theorem gX2_mayStand_X3_isFull : GoodIn wsX2_mayStand (wsV RX2 74 RX3 yX3_isFull wsX3_isFull) := goodIn_app (goodIn_of _ (by decide +kernel)) ggX2_mayStand_X3_isFull
theorem dX2_mayStand_0 : decode cX2_mayStand 0 = .ok (.iload_n 1, 1) := by decide +kernel
theorem dX2_mayStand_1 : decode cX2_mayStand 1 = .ok (.ifCond .ne 16, 3) := by decide +kernel
theorem dX2_mayStand_4 : decode cX2_mayStand 4 = .ok (.aload_n 0, 1) := by decide +kernel
theorem dX2_mayStand_5 : decode cX2_mayStand 5 = .ok (.getfield 30, 3) := by decide +kernel
theorem dX2_mayStand_8 : decode cX2_mayStand 8 = .ok (.ifCond .ne 7, 3) := by decide +kernel
theorem dX2_mayStand_11 : decode cX2_mayStand 11 = .ok (.iconst 1, 1) := by decide +kernel
theorem dX2_mayStand_12 : decode cX2_mayStand 12 = .ok (.goto 4, 3) := by decide +kernel
theorem dX2_mayStand_15 : decode cX2_mayStand 15 = .ok (.iconst 0, 1) := by decide +kernel
theorem dX2_mayStand_16 : decode cX2_mayStand 16 = .ok (.ireturn, 1) := by decide +kernel
theorem dX2_mayStand_17 : decode cX2_mayStand 17 = .ok (.iload_n 1, 1) := by decide +kernel
theorem dX2_mayStand_18 : decode cX2_mayStand 18 = .ok (.iconst 1, 1) := by decide +kernel
theorem dX2_mayStand_19 : decode cX2_mayStand 19 = .ok (.if_icmp .ne 16, 3) := by decide +kernel
theorem dX2_mayStand_22 : decode cX2_mayStand 22 = .ok (.aload_n 0, 1) := by decide +kernel
theorem dX2_mayStand_23 : decode cX2_mayStand 23 = .ok (.getfield 34, 3) := by decide +kernel
theorem dX2_mayStand_26 : decode cX2_mayStand 26 = .ok (.ifCond .ne 7, 3) := by decide +kernel
theorem dX2_mayStand_29 : decode cX2_mayStand 29 = .ok (.iconst 1, 1) := by decide +kernel
theorem dX2_mayStand_30 : decode cX2_mayStand 30 = .ok (.goto 4, 3) := by decide +kernel
theorem dX2_mayStand_33 : decode cX2_mayStand 33 = .ok (.iconst 0, 1) := by decide +kernel
theorem dX2_mayStand_34 : decode cX2_mayStand 34 = .ok (.ireturn, 1) := by decide +kernel
theorem dX2_mayStand_35 : decode cX2_mayStand 35 = .ok (.aload_n 2, 1) := by decide +kernel
theorem dX2_mayStand_36 : decode cX2_mayStand 36 = .ok (.invokevirtual 74, 3) := by decide +kernel
theorem dX2_mayStand_39 : decode cX2_mayStand 39 = .ok (.ifCond .ne 7, 3) := by decide +kernel
theorem dX2_mayStand_42 : decode cX2_mayStand 42 = .ok (.iconst 1, 1) := by decide +kernel
theorem dX2_mayStand_43 : decode cX2_mayStand 43 = .ok (.goto 4, 3) := by decide +kernel
theorem dX2_mayStand_46 : decode cX2_mayStand 46 = .ok (.iconst 0, 1) := by decide +kernel
theorem dX2_mayStand_47 : decode cX2_mayStand 47 = .ok (.ireturn, 1) := by decide +kernel
set_option maxRecDepth 20000 in
theorem ggX2_tell_X3_add : GoodIn wsX2_tell wsX3_add := goodIn_r _ [17, 18, 19, 20, 21, 31, 32, 33, 34, 35, 36, 37, 38, 39, 40, 41, 42, 43] (by decide +kernel) (by decide +kernel)
set_option maxRecDepth 20000 in
theorem gX2_tell_X3_add : GoodIn wsX2_tell (wsV RX2 105 RX3 yX3_add wsX3_add) := goodIn_app (goodIn_of _ (by decide +kernel)) ggX2_tell_X3_add
theorem dX2_tell_0 : decode cX2_tell 0 = .ok (.iload_n 1, 1) := by decide +kernel
theorem dX2_tell_1 : decode cX2_tell 1 = .ok (.ifCond .ne 82, 3) := by decide +kernel
theorem dX2_tell_4 : decode cX2_tell 4 = .ok (.aload_n 0, 1) := by decide +kernel
theorem dX2_tell_5 : decode cX2_tell 5 = .ok (.iconst 1, 1) := by decide +kernel
theorem dX2_tell_6 : decode cX2_tell 6 = .ok (.putfield 30, 3) := by decide +kernel
theorem dX2_tell_9 : decode cX2_tell 9 = .ok (.aload_n 3, 1) := by decide +kernel
theorem dX2_tell_10 : decode cX2_tell 10 = .ok (.aload_n 0, 1) := by decide +kernel
theorem dX2_tell_11 : decode cX2_tell 11 = .ok (.getfield 15, 3) := by decide +kernel
theorem dX2_tell_14 : decode cX2_tell 14 = .ok (.iconst 0, 1) := by decide +kernel
theorem dX2_tell_15 : decode cX2_tell 15 = .ok (.iaload, 1) := by decide +kernel
theorem dX2_tell_16 : decode cX2_tell 16 = .ok (.putfield 78, 3) := by decide +kernel
theorem dX2_tell_19 : decode cX2_tell 19 = .ok (.aload_n 3, 1) := by decide +kernel
theorem dX2_tell_20 : decode cX2_tell 20 = .ok (.aload_n 0, 1) := by decide +kernel
theorem dX2_tell_21 : decode cX2_tell 21 = .ok (.getfield 15, 3) := by decide +kernel
theorem dX2_tell_24 : decode cX2_tell 24 = .ok (.iconst 1, 1) := by decide +kernel
theorem dX2_tell_25 : decode cX2_tell 25 = .ok (.iaload, 1) := by decide +kernel
theorem dX2_tell_26 : decode cX2_tell 26 = .ok (.putfield 81, 3) := by decide +kernel
theorem dX2_tell_29 : decode cX2_tell 29 = .ok (.aload_n 3, 1) := by decide +kernel
theorem dX2_tell_30 : decode cX2_tell 30 = .ok (.aload_n 0, 1) := by decide +kernel
theorem dX2_tell_31 : decode cX2_tell 31 = .ok (.getfield 15, 3) := by decide +kernel
theorem dX2_tell_34 : decode cX2_tell 34 = .ok (.iconst 2, 1) := by decide +kernel
theorem dX2_tell_35 : decode cX2_tell 35 = .ok (.iaload, 1) := by decide +kernel
theorem dX2_tell_36 : decode cX2_tell 36 = .ok (.putfield 84, 3) := by decide +kernel
theorem dX2_tell_39 : decode cX2_tell 39 = .ok (.aload_n 3, 1) := by decide +kernel
theorem dX2_tell_40 : decode cX2_tell 40 = .ok (.aload_n 0, 1) := by decide +kernel
theorem dX2_tell_41 : decode cX2_tell 41 = .ok (.getfield 15, 3) := by decide +kernel
theorem dX2_tell_44 : decode cX2_tell 44 = .ok (.iconst 3, 1) := by decide +kernel
theorem dX2_tell_45 : decode cX2_tell 45 = .ok (.iaload, 1) := by decide +kernel
theorem dX2_tell_46 : decode cX2_tell 46 = .ok (.putfield 87, 3) := by decide +kernel
theorem dX2_tell_49 : decode cX2_tell 49 = .ok (.aload_n 3, 1) := by decide +kernel
theorem dX2_tell_50 : decode cX2_tell 50 = .ok (.aload_n 0, 1) := by decide +kernel
theorem dX2_tell_51 : decode cX2_tell 51 = .ok (.getfield 15, 3) := by decide +kernel
theorem dX2_tell_54 : decode cX2_tell 54 = .ok (.iconst 4, 1) := by decide +kernel
theorem dX2_tell_55 : decode cX2_tell 55 = .ok (.iaload, 1) := by decide +kernel
theorem dX2_tell_56 : decode cX2_tell 56 = .ok (.putfield 90, 3) := by decide +kernel
theorem dX2_tell_59 : decode cX2_tell 59 = .ok (.aload_n 3, 1) := by decide +kernel
theorem dX2_tell_60 : decode cX2_tell 60 = .ok (.aload_n 0, 1) := by decide +kernel
theorem dX2_tell_61 : decode cX2_tell 61 = .ok (.getfield 15, 3) := by decide +kernel
theorem dX2_tell_64 : decode cX2_tell 64 = .ok (.iconst 5, 1) := by decide +kernel
theorem dX2_tell_65 : decode cX2_tell 65 = .ok (.iaload, 1) := by decide +kernel
theorem dX2_tell_66 : decode cX2_tell 66 = .ok (.putfield 93, 3) := by decide +kernel
theorem dX2_tell_69 : decode cX2_tell 69 = .ok (.aload_n 3, 1) := by decide +kernel
theorem dX2_tell_70 : decode cX2_tell 70 = .ok (.aload_n 0, 1) := by decide +kernel
theorem dX2_tell_71 : decode cX2_tell 71 = .ok (.getfield 15, 3) := by decide +kernel
theorem dX2_tell_74 : decode cX2_tell 74 = .ok (.bipush 6, 2) := by decide +kernel
theorem dX2_tell_76 : decode cX2_tell 76 = .ok (.iaload, 1) := by decide +kernel
theorem dX2_tell_77 : decode cX2_tell 77 = .ok (.putfield 96, 3) := by decide +kernel
theorem dX2_tell_80 : decode cX2_tell 80 = .ok (.goto 64, 3) := by decide +kernel
theorem dX2_tell_83 : decode cX2_tell 83 = .ok (.iload_n 1, 1) := by decide +kernel
theorem dX2_tell_84 : decode cX2_tell 84 = .ok (.iconst 1, 1) := by decide +kernel
theorem dX2_tell_85 : decode cX2_tell 85 = .ok (.if_icmp .ne 31, 3) := by decide +kernel
theorem dX2_tell_88 : decode cX2_tell 88 = .ok (.aload_n 0, 1) := by decide +kernel
theorem dX2_tell_89 : decode cX2_tell 89 = .ok (.iconst 1, 1) := by decide +kernel
theorem dX2_tell_90 : decode cX2_tell 90 = .ok (.putfield 34, 3) := by decide +kernel
theorem dX2_tell_93 : decode cX2_tell 93 = .ok (.aload_n 3, 1) := by decide +kernel
theorem dX2_tell_94 : decode cX2_tell 94 = .ok (.aload_n 0, 1) := by decide +kernel
theorem dX2_tell_95 : decode cX2_tell 95 = .ok (.getfield 15, 3) := by decide +kernel
theorem dX2_tell_98 : decode cX2_tell 98 = .ok (.iconst 0, 1) := by decide +kernel
theorem dX2_tell_99 : decode cX2_tell 99 = .ok (.iaload, 1) := by decide +kernel
theorem dX2_tell_100 : decode cX2_tell 100 = .ok (.putfield 99, 3) := by decide +kernel
theorem dX2_tell_103 : decode cX2_tell 103 = .ok (.aload_n 3, 1) := by decide +kernel
theorem dX2_tell_104 : decode cX2_tell 104 = .ok (.aload_n 0, 1) := by decide +kernel
theorem dX2_tell_105 : decode cX2_tell 105 = .ok (.getfield 15, 3) := by decide +kernel
theorem dX2_tell_108 : decode cX2_tell 108 = .ok (.iconst 1, 1) := by decide +kernel
theorem dX2_tell_109 : decode cX2_tell 109 = .ok (.iaload, 1) := by decide +kernel
theorem dX2_tell_110 : decode cX2_tell 110 = .ok (.putfield 102, 3) := by decide +kernel
theorem dX2_tell_113 : decode cX2_tell 113 = .ok (.goto 31, 3) := by decide +kernel
theorem dX2_tell_116 : decode cX2_tell 116 = .ok (.aload_n 3, 1) := by decide +kernel
theorem dX2_tell_117 : decode cX2_tell 117 = .ok (.iload_n 1, 1) := by decide +kernel
theorem dX2_tell_118 : decode cX2_tell 118 = .ok (.iconst 2, 1) := by decide +kernel
theorem dX2_tell_119 : decode cX2_tell 119 = .ok (.isub, 1) := by decide +kernel
theorem dX2_tell_120 : decode cX2_tell 120 = .ok (.aload_n 0, 1) := by decide +kernel
theorem dX2_tell_121 : decode cX2_tell 121 = .ok (.getfield 15, 3) := by decide +kernel
theorem dX2_tell_124 : decode cX2_tell 124 = .ok (.iconst 0, 1) := by decide +kernel
theorem dX2_tell_125 : decode cX2_tell 125 = .ok (.iaload, 1) := by decide +kernel
theorem dX2_tell_126 : decode cX2_tell 126 = .ok (.iload_n 2, 1) := by decide +kernel
theorem dX2_tell_127 : decode cX2_tell 127 = .ok (.iconst 1, 1) := by decide +kernel
theorem dX2_tell_128 : decode cX2_tell 128 = .ok (.if_icmp .le 12, 3) := by decide +kernel
theorem dX2_tell_131 : decode cX2_tell 131 = .ok (.aload_n 0, 1) := by decide +kernel
theorem dX2_tell_132 : decode cX2_tell 132 = .ok (.getfield 15, 3) := by decide +kernel
theorem dX2_tell_135 : decode cX2_tell 135 = .ok (.iconst 1, 1) := by decide +kernel
theorem dX2_tell_136 : decode cX2_tell 136 = .ok (.iaload, 1) := by decide +kernel
theorem dX2_tell_137 : decode cX2_tell 137 = .ok (.goto 4, 3) := by decide +kernel
theorem dX2_tell_140 : decode cX2_tell 140 = .ok (.iconst 0, 1) := by decide +kernel
theorem dX2_tell_141 : decode cX2_tell 141 = .ok (.invokevirtual 105, 3) := by decide +kernel
theorem dX2_tell_144 : decode cX2_tell 144 = .ok (.return_, 1) := by decide +kernel
theorem dX2_byteAt_0 : decode cX2_byteAt 0 = .ok (.iload_n 1, 1) := by decide +kernel
theorem dX2_byteAt_1 : decode cX2_byteAt 1 = .ok (.ifCond .lt 27, 3) := by decide +kernel
theorem dX2_byteAt_4 : decode cX2_byteAt 4 = .ok (.iload_n 1, 1) := by decide +kernel
theorem dX2_byteAt_5 : decode cX2_byteAt 5 = .ok (.aload_n 0, 1) := by decide +kernel
theorem dX2_byteAt_6 : decode cX2_byteAt 6 = .ok (.getfield 18, 3) := by decide +kernel
theorem dX2_byteAt_9 : decode cX2_byteAt 9 = .ok (.if_icmp .ge 19, 3) := by decide +kernel
theorem dX2_byteAt_12 : decode cX2_byteAt 12 = .ok (.iload_n 1, 1) := by decide +kernel
theorem dX2_byteAt_13 : decode cX2_byteAt 13 = .ok (.sipush 300, 3) := by decide +kernel
theorem dX2_byteAt_16 : decode cX2_byteAt 16 = .ok (.if_icmp .ge 12, 3) := by decide +kernel
theorem dX2_byteAt_19 : decode cX2_byteAt 19 = .ok (.aload_n 0, 1) := by decide +kernel
theorem dX2_byteAt_20 : decode cX2_byteAt 20 = .ok (.getfield 9, 3) := by decide +kernel
theorem dX2_byteAt_23 : decode cX2_byteAt 23 = .ok (.iload_n 1, 1) := by decide +kernel
theorem dX2_byteAt_24 : decode cX2_byteAt 24 = .ok (.iaload, 1) := by decide +kernel
theorem dX2_byteAt_25 : decode cX2_byteAt 25 = .ok (.goto 4, 3) := by decide +kernel
theorem dX2_byteAt_28 : decode cX2_byteAt 28 = .ok (.iconst (-1), 1) := by decide +kernel
theorem dX2_byteAt_29 : decode cX2_byteAt 29 = .ok (.ireturn, 1) := by decide +kernel
theorem dX2_isLetter_0 : decode cX2_isLetter 0 = .ok (.iload_n 0, 1) := by decide +kernel
theorem dX2_isLetter_1 : decode cX2_isLetter 1 = .ok (.bipush 97, 2) := by decide +kernel
theorem dX2_isLetter_3 : decode cX2_isLetter 3 = .ok (.if_icmp .lt 13, 3) := by decide +kernel
theorem dX2_isLetter_6 : decode cX2_isLetter 6 = .ok (.iload_n 0, 1) := by decide +kernel
theorem dX2_isLetter_7 : decode cX2_isLetter 7 = .ok (.bipush 122, 2) := by decide +kernel
theorem dX2_isLetter_9 : decode cX2_isLetter 9 = .ok (.if_icmp .gt 7, 3) := by decide +kernel
theorem dX2_isLetter_12 : decode cX2_isLetter 12 = .ok (.iconst 1, 1) := by decide +kernel
theorem dX2_isLetter_13 : decode cX2_isLetter 13 = .ok (.goto 4, 3) := by decide +kernel
theorem dX2_isLetter_16 : decode cX2_isLetter 16 = .ok (.iconst 0, 1) := by decide +kernel
theorem dX2_isLetter_17 : decode cX2_isLetter 17 = .ok (.ireturn, 1) := by decide +kernel
theorem dX2_isDigit_0 : decode cX2_isDigit 0 = .ok (.iload_n 0, 1) := by decide +kernel
theorem dX2_isDigit_1 : decode cX2_isDigit 1 = .ok (.bipush 48, 2) := by decide +kernel
theorem dX2_isDigit_3 : decode cX2_isDigit 3 = .ok (.if_icmp .lt 13, 3) := by decide +kernel
theorem dX2_isDigit_6 : decode cX2_isDigit 6 = .ok (.iload_n 0, 1) := by decide +kernel
theorem dX2_isDigit_7 : decode cX2_isDigit 7 = .ok (.bipush 57, 2) := by decide +kernel
theorem dX2_isDigit_9 : decode cX2_isDigit 9 = .ok (.if_icmp .gt 7, 3) := by decide +kernel
theorem dX2_isDigit_12 : decode cX2_isDigit 12 = .ok (.iconst 1, 1) := by decide +kernel
theorem dX2_isDigit_13 : decode cX2_isDigit 13 = .ok (.goto 4, 3) := by decide +kernel
theorem dX2_isDigit_16 : decode cX2_isDigit 16 = .ok (.iconst 0, 1) := by decide +kernel
theorem dX2_isDigit_17 : decode cX2_isDigit 17 = .ok (.ireturn, 1) := by decide +kernel
set_option maxRecDepth 20000 in
theorem ggX2_readToken_X2_byteAt : GoodIn wsX2_readToken wsX2_byteAt := goodIn_r _ [10, 3, 11, 86, 87, 88, 89, 90, 91, 92, 93, 94] (by decide +kernel) (by decide +kernel)
set_option maxRecDepth 20000 in
theorem gX2_readToken_X2_byteAt : GoodIn wsX2_readToken (wsV RX2 109 RX2 yX2_byteAt wsX2_byteAt) := goodIn_app (goodIn_of _ (by decide +kernel)) ggX2_readToken_X2_byteAt
set_option maxRecDepth 20000 in
theorem ggX2_readToken_X2_isDigit : GoodIn wsX2_readToken wsX2_isDigit := goodIn_r _ [14] (by decide +kernel) (by decide +kernel)
set_option maxRecDepth 20000 in
theorem gX2_readToken_X2_isDigit : GoodIn wsX2_readToken (va_wsS RX2 113 yX2_isDigit wsX2_isDigit) := goodIn_app (goodIn_of _ (by decide +kernel)) ggX2_readToken_X2_isDigit
set_option maxRecDepth 20000 in
theorem ggX2_readToken_X2_readNumber : GoodIn wsX2_readToken wsX2_readNumber := goodIn_r _ [18, 2, 1, 3, 4, 19, 20, 21, 22, 5, 6, 7, 8, 9, 10, 11, 12, 13, 14, 86, 87, 88, 89, 90, 91, 92, 93, 94] (by decide +kernel) (by decide +kernel)
set_option maxRecDepth 20000 in
theorem gX2_readToken_X2_readNumber : GoodIn wsX2_readToken (wsV RX2 117 RX2 yX2_readNumber wsX2_readNumber) := goodIn_app (goodIn_of _ (by decide +kernel)) ggX2_readToken_X2_readNumber
set_option maxRecDepth 20000 in
theorem ggX2_readToken_X2_isLetter : GoodIn wsX2_readToken wsX2_isLetter := goodIn_r _ [25] (by decide +kernel) (by decide +kernel)
set_option maxRecDepth 20000 in
theorem gX2_readToken_X2_isLetter : GoodIn wsX2_readToken (va_wsS RX2 120 yX2_isLetter wsX2_isLetter) := goodIn_app (goodIn_of _ (by decide +kernel)) ggX2_readToken_X2_isLetter
set_option maxRecDepth 20000 in
theorem ggX2_readToken_X2_readWord : GoodIn wsX2_readToken wsX2_readWord := goodIn_r _ [29, 2, 1, 3, 5, 4, 6, 7, 8, 9, 10, 11, 23, 24, 25, 30, 31, 32, 33, 34, 35, 36, 37, 38, 39, 40, 41, 42, 43, 44, 45, 46, 47, 48, 49, 50, 51, 52, 53, 54, 55, 56, 57, 58, 59, 60, 61, 62, 63, 64, 65, 66, 67, 68, 69, 70, 71, 72, 73, 74, 75, 76, 77, 78, 79, 80, 81, 82, 83, 84, 85, 86, 87, 88, 89, 90, 91, 92, 93, 94] (by decide +kernel) (by decide +kernel)
set_option maxRecDepth 20000 in
theorem gX2_readToken_X2_readWord : GoodIn wsX2_readToken (wsV RX2 123 RX2 yX2_readWord wsX2_readWord) := goodIn_app (goodIn_of _ (by decide +kernel)) ggX2_readToken_X2_readWord
theorem dX2_readToken_0 : decode cX2_readToken 0 = .ok (.aload_n 0, 1) := by decide +kernel
theorem dX2_readToken_1 : decode cX2_readToken 1 = .ok (.aload_n 0, 1) := by decide +kernel
theorem dX2_readToken_2 : decode cX2_readToken 2 = .ok (.getfield 27, 3) := by decide +kernel
theorem dX2_readToken_5 : decode cX2_readToken 5 = .ok (.putfield 47, 3) := by decide +kernel
theorem dX2_readToken_8 : decode cX2_readToken 8 = .ok (.aload_n 0, 1) := by decide +kernel
theorem dX2_readToken_9 : decode cX2_readToken 9 = .ok (.getfield 47, 3) := by decide +kernel
theorem dX2_readToken_12 : decode cX2_readToken 12 = .ok (.aload_n 0, 1) := by decide +kernel
theorem dX2_readToken_13 : decode cX2_readToken 13 = .ok (.getfield 18, 3) := by decide +kernel
theorem dX2_readToken_16 : decode cX2_readToken 16 = .ok (.if_icmp .ge 29, 3) := by decide +kernel
theorem dX2_readToken_19 : decode cX2_readToken 19 = .ok (.aload_n 0, 1) := by decide +kernel
theorem dX2_readToken_20 : decode cX2_readToken 20 = .ok (.aload_n 0, 1) := by decide +kernel
theorem dX2_readToken_21 : decode cX2_readToken 21 = .ok (.getfield 47, 3) := by decide +kernel
theorem dX2_readToken_24 : decode cX2_readToken 24 = .ok (.invokevirtual 109, 3) := by decide +kernel
theorem dX2_readToken_27 : decode cX2_readToken 27 = .ok (.bipush 32, 2) := by decide +kernel
theorem dX2_readToken_29 : decode cX2_readToken 29 = .ok (.if_icmp .ne 16, 3) := by decide +kernel
theorem dX2_readToken_32 : decode cX2_readToken 32 = .ok (.aload_n 0, 1) := by decide +kernel
theorem dX2_readToken_33 : decode cX2_readToken 33 = .ok (.dup, 1) := by decide +kernel
theorem dX2_readToken_34 : decode cX2_readToken 34 = .ok (.getfield 47, 3) := by decide +kernel
theorem dX2_readToken_37 : decode cX2_readToken 37 = .ok (.iconst 1, 1) := by decide +kernel
theorem dX2_readToken_38 : decode cX2_readToken 38 = .ok (.iadd, 1) := by decide +kernel
theorem dX2_readToken_39 : decode cX2_readToken 39 = .ok (.putfield 47, 3) := by decide +kernel
theorem dX2_readToken_42 : decode cX2_readToken 42 = .ok (.goto (-34), 3) := by decide +kernel
theorem dX2_readToken_45 : decode cX2_readToken 45 = .ok (.aload_n 0, 1) := by decide +kernel
theorem dX2_readToken_46 : decode cX2_readToken 46 = .ok (.aload_n 0, 1) := by decide +kernel
theorem dX2_readToken_47 : decode cX2_readToken 47 = .ok (.getfield 47, 3) := by decide +kernel
theorem dX2_readToken_50 : decode cX2_readToken 50 = .ok (.invokevirtual 109, 3) := by decide +kernel
theorem dX2_readToken_53 : decode cX2_readToken 53 = .ok (.istore_n 1, 1) := by decide +kernel
theorem dX2_readToken_54 : decode cX2_readToken 54 = .ok (.aload_n 0, 1) := by decide +kernel
theorem dX2_readToken_55 : decode cX2_readToken 55 = .ok (.aload_n 0, 1) := by decide +kernel
theorem dX2_readToken_56 : decode cX2_readToken 56 = .ok (.getfield 47, 3) := by decide +kernel
theorem dX2_readToken_59 : decode cX2_readToken 59 = .ok (.iconst 1, 1) := by decide +kernel
theorem dX2_readToken_60 : decode cX2_readToken 60 = .ok (.iadd, 1) := by decide +kernel
theorem dX2_readToken_61 : decode cX2_readToken 61 = .ok (.putfield 27, 3) := by decide +kernel
theorem dX2_readToken_64 : decode cX2_readToken 64 = .ok (.aload_n 0, 1) := by decide +kernel
theorem dX2_readToken_65 : decode cX2_readToken 65 = .ok (.iconst 0, 1) := by decide +kernel
theorem dX2_readToken_66 : decode cX2_readToken 66 = .ok (.putfield 50, 3) := by decide +kernel
theorem dX2_readToken_69 : decode cX2_readToken 69 = .ok (.iload_n 1, 1) := by decide +kernel
theorem dX2_readToken_70 : decode cX2_readToken 70 = .ok (.ifCond .ge 11, 3) := by decide +kernel
theorem dX2_readToken_73 : decode cX2_readToken 73 = .ok (.aload_n 0, 1) := by decide +kernel
theorem dX2_readToken_74 : decode cX2_readToken 74 = .ok (.iconst 0, 1) := by decide +kernel
theorem dX2_readToken_75 : decode cX2_readToken 75 = .ok (.putfield 40, 3) := by decide +kernel
theorem dX2_readToken_78 : decode cX2_readToken 78 = .ok (.goto 50, 3) := by decide +kernel
theorem dX2_readToken_81 : decode cX2_readToken 81 = .ok (.iload_n 1, 1) := by decide +kernel
theorem dX2_readToken_82 : decode cX2_readToken 82 = .ok (.bipush 59, 2) := by decide +kernel
theorem dX2_readToken_84 : decode cX2_readToken 84 = .ok (.if_icmp .ne 11, 3) := by decide +kernel
theorem dX2_readToken_87 : decode cX2_readToken 87 = .ok (.aload_n 0, 1) := by decide +kernel
theorem dX2_readToken_88 : decode cX2_readToken 88 = .ok (.iconst 1, 1) := by decide +kernel
theorem dX2_readToken_89 : decode cX2_readToken 89 = .ok (.putfield 40, 3) := by decide +kernel
theorem dX2_readToken_92 : decode cX2_readToken 92 = .ok (.goto 36, 3) := by decide +kernel
theorem dX2_readToken_95 : decode cX2_readToken 95 = .ok (.iload_n 1, 1) := by decide +kernel
theorem dX2_readToken_96 : decode cX2_readToken 96 = .ok (.invokestatic 113, 3) := by decide +kernel
theorem dX2_readToken_99 : decode cX2_readToken 99 = .ok (.ifCond .eq 10, 3) := by decide +kernel
theorem dX2_readToken_102 : decode cX2_readToken 102 = .ok (.aload_n 0, 1) := by decide +kernel
theorem dX2_readToken_103 : decode cX2_readToken 103 = .ok (.invokevirtual 117, 3) := by decide +kernel
theorem dX2_readToken_106 : decode cX2_readToken 106 = .ok (.goto 22, 3) := by decide +kernel
theorem dX2_readToken_109 : decode cX2_readToken 109 = .ok (.iload_n 1, 1) := by decide +kernel
theorem dX2_readToken_110 : decode cX2_readToken 110 = .ok (.invokestatic 120, 3) := by decide +kernel
theorem dX2_readToken_113 : decode cX2_readToken 113 = .ok (.ifCond .eq 10, 3) := by decide +kernel
theorem dX2_readToken_116 : decode cX2_readToken 116 = .ok (.aload_n 0, 1) := by decide +kernel
theorem dX2_readToken_117 : decode cX2_readToken 117 = .ok (.invokevirtual 123, 3) := by decide +kernel
theorem dX2_readToken_120 : decode cX2_readToken 120 = .ok (.goto 8, 3) := by decide +kernel
theorem dX2_readToken_123 : decode cX2_readToken 123 = .ok (.aload_n 0, 1) := by decide +kernel
theorem dX2_readToken_124 : decode cX2_readToken 124 = .ok (.iconst 4, 1) := by decide +kernel
theorem dX2_readToken_125 : decode cX2_readToken 125 = .ok (.putfield 40, 3) := by decide +kernel
theorem dX2_readToken_128 : decode cX2_readToken 128 = .ok (.return_, 1) := by decide +kernel
set_option maxRecDepth 20000 in
theorem ggX2_readNumber_X2_byteAt : GoodIn wsX2_readNumber wsX2_byteAt := goodIn_r _ [14, 3, 15, 19, 20, 21, 22, 23, 24, 25, 26, 27] (by decide +kernel) (by decide +kernel)
set_option maxRecDepth 20000 in
theorem gX2_readNumber_X2_byteAt : GoodIn wsX2_readNumber (wsV RX2 109 RX2 yX2_byteAt wsX2_byteAt) := goodIn_app (goodIn_of _ (by decide +kernel)) ggX2_readNumber_X2_byteAt
set_option maxRecDepth 20000 in
theorem ggX2_readNumber_X2_isDigit : GoodIn wsX2_readNumber wsX2_isDigit := goodIn_r _ [18] (by decide +kernel) (by decide +kernel)
set_option maxRecDepth 20000 in
theorem gX2_readNumber_X2_isDigit : GoodIn wsX2_readNumber (va_wsS RX2 113 yX2_isDigit wsX2_isDigit) := goodIn_app (goodIn_of _ (by decide +kernel)) ggX2_readNumber_X2_isDigit
theorem dX2_readNumber_0 : decode cX2_readNumber 0 = .ok (.aload_n 0, 1) := by decide +kernel
theorem dX2_readNumber_1 : decode cX2_readNumber 1 = .ok (.aload_n 0, 1) := by decide +kernel
theorem dX2_readNumber_2 : decode cX2_readNumber 2 = .ok (.getfield 47, 3) := by decide +kernel
theorem dX2_readNumber_5 : decode cX2_readNumber 5 = .ok (.putfield 27, 3) := by decide +kernel
theorem dX2_readNumber_8 : decode cX2_readNumber 8 = .ok (.aload_n 0, 1) := by decide +kernel
theorem dX2_readNumber_9 : decode cX2_readNumber 9 = .ok (.getfield 27, 3) := by decide +kernel
theorem dX2_readNumber_12 : decode cX2_readNumber 12 = .ok (.aload_n 0, 1) := by decide +kernel
theorem dX2_readNumber_13 : decode cX2_readNumber 13 = .ok (.getfield 18, 3) := by decide +kernel
theorem dX2_readNumber_16 : decode cX2_readNumber 16 = .ok (.if_icmp .ge 59, 3) := by decide +kernel
theorem dX2_readNumber_19 : decode cX2_readNumber 19 = .ok (.aload_n 0, 1) := by decide +kernel
theorem dX2_readNumber_20 : decode cX2_readNumber 20 = .ok (.aload_n 0, 1) := by decide +kernel
theorem dX2_readNumber_21 : decode cX2_readNumber 21 = .ok (.getfield 27, 3) := by decide +kernel
theorem dX2_readNumber_24 : decode cX2_readNumber 24 = .ok (.invokevirtual 109, 3) := by decide +kernel
theorem dX2_readNumber_27 : decode cX2_readNumber 27 = .ok (.invokestatic 113, 3) := by decide +kernel
theorem dX2_readNumber_30 : decode cX2_readNumber 30 = .ok (.ifCond .eq 45, 3) := by decide +kernel
theorem dX2_readNumber_33 : decode cX2_readNumber 33 = .ok (.aload_n 0, 1) := by decide +kernel
theorem dX2_readNumber_34 : decode cX2_readNumber 34 = .ok (.sipush 1000, 3) := by decide +kernel
theorem dX2_readNumber_37 : decode cX2_readNumber 37 = .ok (.aload_n 0, 1) := by decide +kernel
theorem dX2_readNumber_38 : decode cX2_readNumber 38 = .ok (.getfield 50, 3) := by decide +kernel
theorem dX2_readNumber_41 : decode cX2_readNumber 41 = .ok (.bipush 10, 2) := by decide +kernel
theorem dX2_readNumber_43 : decode cX2_readNumber 43 = .ok (.imul, 1) := by decide +kernel
theorem dX2_readNumber_44 : decode cX2_readNumber 44 = .ok (.aload_n 0, 1) := by decide +kernel
theorem dX2_readNumber_45 : decode cX2_readNumber 45 = .ok (.aload_n 0, 1) := by decide +kernel
theorem dX2_readNumber_46 : decode cX2_readNumber 46 = .ok (.getfield 27, 3) := by decide +kernel
theorem dX2_readNumber_49 : decode cX2_readNumber 49 = .ok (.invokevirtual 109, 3) := by decide +kernel
theorem dX2_readNumber_52 : decode cX2_readNumber 52 = .ok (.iadd, 1) := by decide +kernel
theorem dX2_readNumber_53 : decode cX2_readNumber 53 = .ok (.bipush 48, 2) := by decide +kernel
theorem dX2_readNumber_55 : decode cX2_readNumber 55 = .ok (.isub, 1) := by decide +kernel
theorem dX2_readNumber_56 : decode cX2_readNumber 56 = .ok (.invokestatic 126, 3) := by decide +kernel
theorem dX2_readNumber_59 : decode cX2_readNumber 59 = .ok (.putfield 50, 3) := by decide +kernel
theorem dX2_readNumber_62 : decode cX2_readNumber 62 = .ok (.aload_n 0, 1) := by decide +kernel
theorem dX2_readNumber_63 : decode cX2_readNumber 63 = .ok (.dup, 1) := by decide +kernel
theorem dX2_readNumber_64 : decode cX2_readNumber 64 = .ok (.getfield 27, 3) := by decide +kernel
theorem dX2_readNumber_67 : decode cX2_readNumber 67 = .ok (.iconst 1, 1) := by decide +kernel
theorem dX2_readNumber_68 : decode cX2_readNumber 68 = .ok (.iadd, 1) := by decide +kernel
theorem dX2_readNumber_69 : decode cX2_readNumber 69 = .ok (.putfield 27, 3) := by decide +kernel
theorem dX2_readNumber_72 : decode cX2_readNumber 72 = .ok (.goto (-64), 3) := by decide +kernel
theorem dX2_readNumber_75 : decode cX2_readNumber 75 = .ok (.aload_n 0, 1) := by decide +kernel
theorem dX2_readNumber_76 : decode cX2_readNumber 76 = .ok (.aload_n 0, 1) := by decide +kernel
theorem dX2_readNumber_77 : decode cX2_readNumber 77 = .ok (.getfield 47, 3) := by decide +kernel
theorem dX2_readNumber_80 : decode cX2_readNumber 80 = .ok (.invokevirtual 109, 3) := by decide +kernel
theorem dX2_readNumber_83 : decode cX2_readNumber 83 = .ok (.bipush 48, 2) := by decide +kernel
theorem dX2_readNumber_85 : decode cX2_readNumber 85 = .ok (.if_icmp .ne 20, 3) := by decide +kernel
theorem dX2_readNumber_88 : decode cX2_readNumber 88 = .ok (.aload_n 0, 1) := by decide +kernel
theorem dX2_readNumber_89 : decode cX2_readNumber 89 = .ok (.getfield 27, 3) := by decide +kernel
theorem dX2_readNumber_92 : decode cX2_readNumber 92 = .ok (.aload_n 0, 1) := by decide +kernel
theorem dX2_readNumber_93 : decode cX2_readNumber 93 = .ok (.getfield 47, 3) := by decide +kernel
theorem dX2_readNumber_96 : decode cX2_readNumber 96 = .ok (.iconst 1, 1) := by decide +kernel
theorem dX2_readNumber_97 : decode cX2_readNumber 97 = .ok (.iadd, 1) := by decide +kernel
theorem dX2_readNumber_98 : decode cX2_readNumber 98 = .ok (.if_icmp .le 7, 3) := by decide +kernel
theorem dX2_readNumber_101 : decode cX2_readNumber 101 = .ok (.iconst 1, 1) := by decide +kernel
theorem dX2_readNumber_102 : decode cX2_readNumber 102 = .ok (.goto 4, 3) := by decide +kernel
theorem dX2_readNumber_105 : decode cX2_readNumber 105 = .ok (.iconst 0, 1) := by decide +kernel
theorem dX2_readNumber_106 : decode cX2_readNumber 106 = .ok (.istore_n 1, 1) := by decide +kernel
theorem dX2_readNumber_107 : decode cX2_readNumber 107 = .ok (.aload_n 0, 1) := by decide +kernel
theorem dX2_readNumber_108 : decode cX2_readNumber 108 = .ok (.iload_n 1, 1) := by decide +kernel
theorem dX2_readNumber_109 : decode cX2_readNumber 109 = .ok (.ifCond .ne 13, 3) := by decide +kernel
theorem dX2_readNumber_112 : decode cX2_readNumber 112 = .ok (.aload_n 0, 1) := by decide +kernel
theorem dX2_readNumber_113 : decode cX2_readNumber 113 = .ok (.getfield 50, 3) := by decide +kernel
theorem dX2_readNumber_116 : decode cX2_readNumber 116 = .ok (.sipush 999, 3) := by decide +kernel
theorem dX2_readNumber_119 : decode cX2_readNumber 119 = .ok (.if_icmp .le 7, 3) := by decide +kernel
theorem dX2_readNumber_122 : decode cX2_readNumber 122 = .ok (.iconst 4, 1) := by decide +kernel
theorem dX2_readNumber_123 : decode cX2_readNumber 123 = .ok (.goto 4, 3) := by decide +kernel
theorem dX2_readNumber_126 : decode cX2_readNumber 126 = .ok (.iconst 2, 1) := by decide +kernel
theorem dX2_readNumber_127 : decode cX2_readNumber 127 = .ok (.putfield 40, 3) := by decide +kernel
theorem dX2_readNumber_130 : decode cX2_readNumber 130 = .ok (.return_, 1) := by decide +kernel
set_option maxRecDepth 20000 in
theorem ggX2_readWord_X2_byteAt : GoodIn wsX2_readWord wsX2_byteAt := goodIn_r _ [10, 3, 11, 71, 72, 73, 74, 75, 76, 77, 78, 79] (by decide +kernel) (by decide +kernel)
set_option maxRecDepth 20000 in
theorem gX2_readWord_X2_byteAt : GoodIn wsX2_readWord (wsV RX2 109 RX2 yX2_byteAt wsX2_byteAt) := goodIn_app (goodIn_of _ (by decide +kernel)) ggX2_readWord_X2_byteAt
set_option maxRecDepth 20000 in
theorem ggX2_readWord_X2_isLetter : GoodIn wsX2_readWord wsX2_isLetter := goodIn_r _ [14] (by decide +kernel) (by decide +kernel)
set_option maxRecDepth 20000 in
theorem gX2_readWord_X2_isLetter : GoodIn wsX2_readWord (va_wsS RX2 120 yX2_isLetter wsX2_isLetter) := goodIn_app (goodIn_of _ (by decide +kernel)) ggX2_readWord_X2_isLetter
set_option maxRecDepth 20000 in
theorem ggX2_readWord_X2_nameOf : GoodIn wsX2_readWord wsX2_nameOf := goodIn_r _ [17] (by decide +kernel) (by decide +kernel)
set_option maxRecDepth 20000 in
theorem gX2_readWord_X2_nameOf : GoodIn wsX2_readWord (va_wsS RX2 132 yX2_nameOf wsX2_nameOf) := goodIn_app (goodIn_of _ (by decide +kernel)) ggX2_readWord_X2_nameOf
set_option maxRecDepth 20000 in
theorem ggX2_readWord_X2_isWord : GoodIn wsX2_readWord wsX2_isWord := goodIn_r _ [21, 2, 1, 22, 23, 24, 25, 26, 27, 28, 29, 30, 31, 32, 33, 34, 35, 36, 37, 38, 39, 40, 41, 42, 43, 44, 45, 46, 47, 48, 49, 50, 51, 52, 53, 54, 55, 56, 57, 58, 59, 60, 61, 62, 63, 64, 65, 66, 67, 68, 69, 70, 6, 7, 8, 9, 10, 3, 11, 71, 72, 73, 74, 75, 76, 77, 78, 79] (by decide +kernel) (by decide +kernel)
set_option maxRecDepth 20000 in
theorem gX2_readWord_X2_isWord : GoodIn wsX2_readWord (wsV RX2 136 RX2 yX2_isWord wsX2_isWord) := goodIn_app (goodIn_of _ (by decide +kernel)) ggX2_readWord_X2_isWord
theorem dX2_readWord_0 : decode cX2_readWord 0 = .ok (.aload_n 0, 1) := by decide +kernel
theorem dX2_readWord_1 : decode cX2_readWord 1 = .ok (.aload_n 0, 1) := by decide +kernel
theorem dX2_readWord_2 : decode cX2_readWord 2 = .ok (.getfield 47, 3) := by decide +kernel
theorem dX2_readWord_5 : decode cX2_readWord 5 = .ok (.putfield 27, 3) := by decide +kernel
theorem dX2_readWord_8 : decode cX2_readWord 8 = .ok (.aload_n 0, 1) := by decide +kernel
theorem dX2_readWord_9 : decode cX2_readWord 9 = .ok (.getfield 27, 3) := by decide +kernel
theorem dX2_readWord_12 : decode cX2_readWord 12 = .ok (.aload_n 0, 1) := by decide +kernel
theorem dX2_readWord_13 : decode cX2_readWord 13 = .ok (.getfield 18, 3) := by decide +kernel
theorem dX2_readWord_16 : decode cX2_readWord 16 = .ok (.if_icmp .ge 30, 3) := by decide +kernel
theorem dX2_readWord_19 : decode cX2_readWord 19 = .ok (.aload_n 0, 1) := by decide +kernel
theorem dX2_readWord_20 : decode cX2_readWord 20 = .ok (.aload_n 0, 1) := by decide +kernel
theorem dX2_readWord_21 : decode cX2_readWord 21 = .ok (.getfield 27, 3) := by decide +kernel
theorem dX2_readWord_24 : decode cX2_readWord 24 = .ok (.invokevirtual 109, 3) := by decide +kernel
theorem dX2_readWord_27 : decode cX2_readWord 27 = .ok (.invokestatic 120, 3) := by decide +kernel
theorem dX2_readWord_30 : decode cX2_readWord 30 = .ok (.ifCond .eq 16, 3) := by decide +kernel
theorem dX2_readWord_33 : decode cX2_readWord 33 = .ok (.aload_n 0, 1) := by decide +kernel
theorem dX2_readWord_34 : decode cX2_readWord 34 = .ok (.dup, 1) := by decide +kernel
theorem dX2_readWord_35 : decode cX2_readWord 35 = .ok (.getfield 27, 3) := by decide +kernel
theorem dX2_readWord_38 : decode cX2_readWord 38 = .ok (.iconst 1, 1) := by decide +kernel
theorem dX2_readWord_39 : decode cX2_readWord 39 = .ok (.iadd, 1) := by decide +kernel
theorem dX2_readWord_40 : decode cX2_readWord 40 = .ok (.putfield 27, 3) := by decide +kernel
theorem dX2_readWord_43 : decode cX2_readWord 43 = .ok (.goto (-35), 3) := by decide +kernel
theorem dX2_readWord_46 : decode cX2_readWord 46 = .ok (.aload_n 0, 1) := by decide +kernel
theorem dX2_readWord_47 : decode cX2_readWord 47 = .ok (.iconst 4, 1) := by decide +kernel
theorem dX2_readWord_48 : decode cX2_readWord 48 = .ok (.putfield 40, 3) := by decide +kernel
theorem dX2_readWord_51 : decode cX2_readWord 51 = .ok (.iconst 0, 1) := by decide +kernel
theorem dX2_readWord_52 : decode cX2_readWord 52 = .ok (.istore_n 1, 1) := by decide +kernel
theorem dX2_readWord_53 : decode cX2_readWord 53 = .ok (.iload_n 1, 1) := by decide +kernel
theorem dX2_readWord_54 : decode cX2_readWord 54 = .ok (.bipush 6, 2) := by decide +kernel
theorem dX2_readWord_56 : decode cX2_readWord 56 = .ok (.if_icmp .ge 30, 3) := by decide +kernel
theorem dX2_readWord_59 : decode cX2_readWord 59 = .ok (.aload_n 0, 1) := by decide +kernel
theorem dX2_readWord_60 : decode cX2_readWord 60 = .ok (.iload_n 1, 1) := by decide +kernel
theorem dX2_readWord_61 : decode cX2_readWord 61 = .ok (.invokestatic 132, 3) := by decide +kernel
theorem dX2_readWord_64 : decode cX2_readWord 64 = .ok (.invokevirtual 136, 3) := by decide +kernel
theorem dX2_readWord_67 : decode cX2_readWord 67 = .ok (.ifCond .eq 13, 3) := by decide +kernel
theorem dX2_readWord_70 : decode cX2_readWord 70 = .ok (.aload_n 0, 1) := by decide +kernel
theorem dX2_readWord_71 : decode cX2_readWord 71 = .ok (.iconst 3, 1) := by decide +kernel
theorem dX2_readWord_72 : decode cX2_readWord 72 = .ok (.putfield 40, 3) := by decide +kernel
theorem dX2_readWord_75 : decode cX2_readWord 75 = .ok (.aload_n 0, 1) := by decide +kernel
theorem dX2_readWord_76 : decode cX2_readWord 76 = .ok (.iload_n 1, 1) := by decide +kernel
theorem dX2_readWord_77 : decode cX2_readWord 77 = .ok (.putfield 50, 3) := by decide +kernel
theorem dX2_readWord_80 : decode cX2_readWord 80 = .ok (.iinc 1 1, 3) := by decide +kernel
theorem dX2_readWord_83 : decode cX2_readWord 83 = .ok (.goto (-30), 3) := by decide +kernel
theorem dX2_readWord_86 : decode cX2_readWord 86 = .ok (.return_, 1) := by decide +kernel
theorem dX2_nameOf_0 : decode cX2_nameOf 0 = .ok (.iload_n 0, 1) := by decide +kernel
theorem dX2_nameOf_1 : decode cX2_nameOf 1 = .ok (.tableswitch 50 0 4 #[35, 38, 41, 44, 47], 35) := by decide +kernel
theorem dX2_nameOf_36 : decode cX2_nameOf 36 = .ok (.ldc 140, 2) := by decide +kernel
theorem dX2_nameOf_38 : decode cX2_nameOf 38 = .ok (.areturn, 1) := by decide +kernel
theorem dX2_nameOf_39 : decode cX2_nameOf 39 = .ok (.ldc 141, 2) := by decide +kernel
theorem dX2_nameOf_41 : decode cX2_nameOf 41 = .ok (.areturn, 1) := by decide +kernel
theorem dX2_nameOf_42 : decode cX2_nameOf 42 = .ok (.ldc 143, 2) := by decide +kernel
theorem dX2_nameOf_44 : decode cX2_nameOf 44 = .ok (.areturn, 1) := by decide +kernel
theorem dX2_nameOf_45 : decode cX2_nameOf 45 = .ok (.ldc 145, 2) := by decide +kernel
theorem dX2_nameOf_47 : decode cX2_nameOf 47 = .ok (.areturn, 1) := by decide +kernel
theorem dX2_nameOf_48 : decode cX2_nameOf 48 = .ok (.ldc 147, 2) := by decide +kernel
theorem dX2_nameOf_50 : decode cX2_nameOf 50 = .ok (.areturn, 1) := by decide +kernel
theorem dX2_nameOf_51 : decode cX2_nameOf 51 = .ok (.ldc 149, 2) := by decide +kernel
theorem dX2_nameOf_53 : decode cX2_nameOf 53 = .ok (.areturn, 1) := by decide +kernel
set_option maxRecDepth 20000 in
theorem ggX2_isWord_J0_length_8abf5 : GoodIn wsX2_isWord wsJ0_length_8abf5 := goodIn_r _ [7, 8, 9, 10, 11, 6, 12, 13, 14] (by decide +kernel) (by decide +kernel)
set_option maxRecDepth 20000 in
theorem gX2_isWord_J0_length_8abf5 : GoodIn wsX2_isWord (wsV RX2 151 RJ0 yJ0_length_8abf5 wsJ0_length_8abf5) := goodIn_app (goodIn_of _ (by decide +kernel)) ggX2_isWord_J0_length_8abf5
set_option maxRecDepth 20000 in
theorem ggX2_isWord_J0_charAt_5068e : GoodIn wsX2_isWord wsJ0_charAt_5068e := goodIn_r _ [18, 8, 19, 20, 21, 6, 22, 13, 14, 23, 24, 25, 26, 27, 28, 29, 30, 31, 32, 33, 34, 35, 36, 37, 38, 39, 40, 41, 42, 43, 44, 45, 46, 47, 48, 49, 50, 51] (by decide +kernel) (by decide +kernel)
set_option maxRecDepth 20000 in
theorem gX2_isWord_J0_charAt_5068e : GoodIn wsX2_isWord (wsV RX2 156 RJ0 yJ0_charAt_5068e wsJ0_charAt_5068e) := goodIn_app (goodIn_of _ (by decide +kernel)) ggX2_isWord_J0_charAt_5068e
set_option maxRecDepth 20000 in
theorem ggX2_isWord_X2_byteAt : GoodIn wsX2_isWord wsX2_byteAt := goodIn_r _ [56, 57, 58, 59, 60, 61, 62, 63, 64, 65, 66, 67] (by decide +kernel) (by decide +kernel)
set_option maxRecDepth 20000 in
theorem gX2_isWord_X2_byteAt : GoodIn wsX2_isWord (wsV RX2 109 RX2 yX2_byteAt wsX2_byteAt) := goodIn_app (goodIn_of _ (by decide +kernel)) ggX2_isWord_X2_byteAt
theorem dX2_isWord_0 : decode cX2_isWord 0 = .ok (.aload_n 1, 1) := by decide +kernel
theorem dX2_isWord_1 : decode cX2_isWord 1 = .ok (.invokevirtual 151, 3) := by decide +kernel
theorem dX2_isWord_4 : decode cX2_isWord 4 = .ok (.aload_n 0, 1) := by decide +kernel
theorem dX2_isWord_5 : decode cX2_isWord 5 = .ok (.getfield 27, 3) := by decide +kernel
theorem dX2_isWord_8 : decode cX2_isWord 8 = .ok (.aload_n 0, 1) := by decide +kernel
theorem dX2_isWord_9 : decode cX2_isWord 9 = .ok (.getfield 47, 3) := by decide +kernel
theorem dX2_isWord_12 : decode cX2_isWord 12 = .ok (.isub, 1) := by decide +kernel
theorem dX2_isWord_13 : decode cX2_isWord 13 = .ok (.if_icmp .eq 5, 3) := by decide +kernel
theorem dX2_isWord_16 : decode cX2_isWord 16 = .ok (.iconst 0, 1) := by decide +kernel
theorem dX2_isWord_17 : decode cX2_isWord 17 = .ok (.ireturn, 1) := by decide +kernel
theorem dX2_isWord_18 : decode cX2_isWord 18 = .ok (.iconst 0, 1) := by decide +kernel
theorem dX2_isWord_19 : decode cX2_isWord 19 = .ok (.istore_n 2, 1) := by decide +kernel
theorem dX2_isWord_20 : decode cX2_isWord 20 = .ok (.iload_n 2, 1) := by decide +kernel
theorem dX2_isWord_21 : decode cX2_isWord 21 = .ok (.aload_n 1, 1) := by decide +kernel
theorem dX2_isWord_22 : decode cX2_isWord 22 = .ok (.invokevirtual 151, 3) := by decide +kernel
theorem dX2_isWord_25 : decode cX2_isWord 25 = .ok (.if_icmp .ge 29, 3) := by decide +kernel
theorem dX2_isWord_28 : decode cX2_isWord 28 = .ok (.aload_n 1, 1) := by decide +kernel
theorem dX2_isWord_29 : decode cX2_isWord 29 = .ok (.iload_n 2, 1) := by decide +kernel
theorem dX2_isWord_30 : decode cX2_isWord 30 = .ok (.invokevirtual 156, 3) := by decide +kernel
theorem dX2_isWord_33 : decode cX2_isWord 33 = .ok (.aload_n 0, 1) := by decide +kernel
theorem dX2_isWord_34 : decode cX2_isWord 34 = .ok (.aload_n 0, 1) := by decide +kernel
theorem dX2_isWord_35 : decode cX2_isWord 35 = .ok (.getfield 47, 3) := by decide +kernel
theorem dX2_isWord_38 : decode cX2_isWord 38 = .ok (.iload_n 2, 1) := by decide +kernel
theorem dX2_isWord_39 : decode cX2_isWord 39 = .ok (.iadd, 1) := by decide +kernel
theorem dX2_isWord_40 : decode cX2_isWord 40 = .ok (.invokevirtual 109, 3) := by decide +kernel
theorem dX2_isWord_43 : decode cX2_isWord 43 = .ok (.if_icmp .eq 5, 3) := by decide +kernel
theorem dX2_isWord_46 : decode cX2_isWord 46 = .ok (.iconst 0, 1) := by decide +kernel
theorem dX2_isWord_47 : decode cX2_isWord 47 = .ok (.ireturn, 1) := by decide +kernel
theorem dX2_isWord_48 : decode cX2_isWord 48 = .ok (.iinc 2 1, 3) := by decide +kernel
theorem dX2_isWord_51 : decode cX2_isWord 51 = .ok (.goto (-31), 3) := by decide +kernel
theorem dX2_isWord_54 : decode cX2_isWord 54 = .ok (.iconst 1, 1) := by decide +kernel
theorem dX2_isWord_55 : decode cX2_isWord 55 = .ok (.ireturn, 1) := by decide +kernel
set_option maxRecDepth 20000 in
theorem ggX3_init_X3_setAtFirst : GoodIn wsX3_init wsX3_setAtFirst := goodIn_r _ [12, 13, 14, 15, 16, 17, 18, 19, 20, 21, 22, 23, 24, 25, 26, 27, 28, 29, 30, 31, 32, 33, 34, 35] (by decide +kernel) (by decide +kernel)
set_option maxRecDepth 20000 in
theorem gX3_init_X3_setAtFirst : GoodIn wsX3_init (wsV RX3 21 RX3 yX3_setAtFirst wsX3_setAtFirst) := goodIn_app (goodIn_of _ (by decide +kernel)) ggX3_init_X3_setAtFirst
theorem dX3_init_0 : decode cX3_init 0 = .ok (.aload_n 0, 1) := by decide +kernel
theorem dX3_init_1 : decode cX3_init 1 = .ok (.invokespecial 3, 3) := by decide +kernel
theorem dX3_init_4 : decode cX3_init 4 = .ok (.aload_n 0, 1) := by decide +kernel
theorem dX3_init_5 : decode cX3_init 5 = .ok (.bipush 12, 2) := by decide +kernel
theorem dX3_init_7 : decode cX3_init 7 = .ok (.newarray .int, 2) := by decide +kernel
theorem dX3_init_9 : decode cX3_init 9 = .ok (.putfield 11, 3) := by decide +kernel
theorem dX3_init_12 : decode cX3_init 12 = .ok (.aload_n 0, 1) := by decide +kernel
theorem dX3_init_13 : decode cX3_init 13 = .ok (.bipush 12, 2) := by decide +kernel
theorem dX3_init_15 : decode cX3_init 15 = .ok (.newarray .int, 2) := by decide +kernel
theorem dX3_init_17 : decode cX3_init 17 = .ok (.putfield 15, 3) := by decide +kernel
theorem dX3_init_20 : decode cX3_init 20 = .ok (.aload_n 0, 1) := by decide +kernel
theorem dX3_init_21 : decode cX3_init 21 = .ok (.bipush 12, 2) := by decide +kernel
theorem dX3_init_23 : decode cX3_init 23 = .ok (.newarray .int, 2) := by decide +kernel
theorem dX3_init_25 : decode cX3_init 25 = .ok (.putfield 18, 3) := by decide +kernel
theorem dX3_init_28 : decode cX3_init 28 = .ok (.aload_n 0, 1) := by decide +kernel
theorem dX3_init_29 : decode cX3_init 29 = .ok (.invokevirtual 21, 3) := by decide +kernel
theorem dX3_init_32 : decode cX3_init 32 = .ok (.return_, 1) := by decide +kernel
theorem dX3_setAtFirst_0 : decode cX3_setAtFirst 0 = .ok (.aload_n 0, 1) := by decide +kernel
theorem dX3_setAtFirst_1 : decode cX3_setAtFirst 1 = .ok (.iconst 3, 1) := by decide +kernel
theorem dX3_setAtFirst_2 : decode cX3_setAtFirst 2 = .ok (.putfield 24, 3) := by decide +kernel
theorem dX3_setAtFirst_5 : decode cX3_setAtFirst 5 = .ok (.aload_n 0, 1) := by decide +kernel
theorem dX3_setAtFirst_6 : decode cX3_setAtFirst 6 = .ok (.sipush 200, 3) := by decide +kernel
theorem dX3_setAtFirst_9 : decode cX3_setAtFirst 9 = .ok (.putfield 28, 3) := by decide +kernel
theorem dX3_setAtFirst_12 : decode cX3_setAtFirst 12 = .ok (.aload_n 0, 1) := by decide +kernel
theorem dX3_setAtFirst_13 : decode cX3_setAtFirst 13 = .ok (.bipush 10, 2) := by decide +kernel
theorem dX3_setAtFirst_15 : decode cX3_setAtFirst 15 = .ok (.putfield 31, 3) := by decide +kernel
theorem dX3_setAtFirst_18 : decode cX3_setAtFirst 18 = .ok (.aload_n 0, 1) := by decide +kernel
theorem dX3_setAtFirst_19 : decode cX3_setAtFirst 19 = .ok (.sipush 300, 3) := by decide +kernel
theorem dX3_setAtFirst_22 : decode cX3_setAtFirst 22 = .ok (.putfield 34, 3) := by decide +kernel
theorem dX3_setAtFirst_25 : decode cX3_setAtFirst 25 = .ok (.aload_n 0, 1) := by decide +kernel
theorem dX3_setAtFirst_26 : decode cX3_setAtFirst 26 = .ok (.sipush 300, 3) := by decide +kernel
theorem dX3_setAtFirst_29 : decode cX3_setAtFirst 29 = .ok (.putfield 37, 3) := by decide +kernel
theorem dX3_setAtFirst_32 : decode cX3_setAtFirst 32 = .ok (.aload_n 0, 1) := by decide +kernel
theorem dX3_setAtFirst_33 : decode cX3_setAtFirst 33 = .ok (.bipush 40, 2) := by decide +kernel
theorem dX3_setAtFirst_35 : decode cX3_setAtFirst 35 = .ok (.putfield 40, 3) := by decide +kernel
theorem dX3_setAtFirst_38 : decode cX3_setAtFirst 38 = .ok (.aload_n 0, 1) := by decide +kernel
theorem dX3_setAtFirst_39 : decode cX3_setAtFirst 39 = .ok (.iconst 2, 1) := by decide +kernel
theorem dX3_setAtFirst_40 : decode cX3_setAtFirst 40 = .ok (.putfield 43, 3) := by decide +kernel
theorem dX3_setAtFirst_43 : decode cX3_setAtFirst 43 = .ok (.aload_n 0, 1) := by decide +kernel
theorem dX3_setAtFirst_44 : decode cX3_setAtFirst 44 = .ok (.iconst 4, 1) := by decide +kernel
theorem dX3_setAtFirst_45 : decode cX3_setAtFirst 45 = .ok (.putfield 46, 3) := by decide +kernel
theorem dX3_setAtFirst_48 : decode cX3_setAtFirst 48 = .ok (.aload_n 0, 1) := by decide +kernel
theorem dX3_setAtFirst_49 : decode cX3_setAtFirst 49 = .ok (.iconst 0, 1) := by decide +kernel
theorem dX3_setAtFirst_50 : decode cX3_setAtFirst 50 = .ok (.putfield 49, 3) := by decide +kernel
theorem dX3_setAtFirst_53 : decode cX3_setAtFirst 53 = .ok (.aload_n 0, 1) := by decide +kernel
theorem dX3_setAtFirst_54 : decode cX3_setAtFirst 54 = .ok (.iconst 0, 1) := by decide +kernel
theorem dX3_setAtFirst_55 : decode cX3_setAtFirst 55 = .ok (.putfield 52, 3) := by decide +kernel
theorem dX3_setAtFirst_58 : decode cX3_setAtFirst 58 = .ok (.return_, 1) := by decide +kernel
theorem dX3_take_0 : decode cX3_take 0 = .ok (.aload_n 0, 1) := by decide +kernel
theorem dX3_take_1 : decode cX3_take 1 = .ok (.aload_n 1, 1) := by decide +kernel
theorem dX3_take_2 : decode cX3_take 2 = .ok (.getfield 24, 3) := by decide +kernel
theorem dX3_take_5 : decode cX3_take 5 = .ok (.putfield 24, 3) := by decide +kernel
theorem dX3_take_8 : decode cX3_take 8 = .ok (.aload_n 0, 1) := by decide +kernel
theorem dX3_take_9 : decode cX3_take 9 = .ok (.aload_n 1, 1) := by decide +kernel
theorem dX3_take_10 : decode cX3_take 10 = .ok (.getfield 28, 3) := by decide +kernel
theorem dX3_take_13 : decode cX3_take 13 = .ok (.putfield 28, 3) := by decide +kernel
theorem dX3_take_16 : decode cX3_take 16 = .ok (.aload_n 0, 1) := by decide +kernel
theorem dX3_take_17 : decode cX3_take 17 = .ok (.aload_n 1, 1) := by decide +kernel
theorem dX3_take_18 : decode cX3_take 18 = .ok (.getfield 31, 3) := by decide +kernel
theorem dX3_take_21 : decode cX3_take 21 = .ok (.putfield 31, 3) := by decide +kernel
theorem dX3_take_24 : decode cX3_take 24 = .ok (.aload_n 0, 1) := by decide +kernel
theorem dX3_take_25 : decode cX3_take 25 = .ok (.aload_n 1, 1) := by decide +kernel
theorem dX3_take_26 : decode cX3_take 26 = .ok (.getfield 34, 3) := by decide +kernel
theorem dX3_take_29 : decode cX3_take 29 = .ok (.putfield 34, 3) := by decide +kernel
theorem dX3_take_32 : decode cX3_take 32 = .ok (.aload_n 0, 1) := by decide +kernel
theorem dX3_take_33 : decode cX3_take 33 = .ok (.aload_n 1, 1) := by decide +kernel
theorem dX3_take_34 : decode cX3_take 34 = .ok (.getfield 37, 3) := by decide +kernel
theorem dX3_take_37 : decode cX3_take 37 = .ok (.putfield 37, 3) := by decide +kernel
theorem dX3_take_40 : decode cX3_take 40 = .ok (.aload_n 0, 1) := by decide +kernel
theorem dX3_take_41 : decode cX3_take 41 = .ok (.aload_n 1, 1) := by decide +kernel
theorem dX3_take_42 : decode cX3_take 42 = .ok (.getfield 40, 3) := by decide +kernel
theorem dX3_take_45 : decode cX3_take 45 = .ok (.putfield 40, 3) := by decide +kernel
theorem dX3_take_48 : decode cX3_take 48 = .ok (.aload_n 0, 1) := by decide +kernel
theorem dX3_take_49 : decode cX3_take 49 = .ok (.aload_n 1, 1) := by decide +kernel
theorem dX3_take_50 : decode cX3_take 50 = .ok (.getfield 43, 3) := by decide +kernel
theorem dX3_take_53 : decode cX3_take 53 = .ok (.putfield 43, 3) := by decide +kernel
theorem dX3_take_56 : decode cX3_take 56 = .ok (.aload_n 0, 1) := by decide +kernel
theorem dX3_take_57 : decode cX3_take 57 = .ok (.aload_n 1, 1) := by decide +kernel
theorem dX3_take_58 : decode cX3_take 58 = .ok (.getfield 46, 3) := by decide +kernel
theorem dX3_take_61 : decode cX3_take 61 = .ok (.putfield 46, 3) := by decide +kernel
theorem dX3_take_64 : decode cX3_take 64 = .ok (.aload_n 0, 1) := by decide +kernel
theorem dX3_take_65 : decode cX3_take 65 = .ok (.aload_n 1, 1) := by decide +kernel
theorem dX3_take_66 : decode cX3_take 66 = .ok (.getfield 49, 3) := by decide +kernel
theorem dX3_take_69 : decode cX3_take 69 = .ok (.putfield 49, 3) := by decide +kernel
theorem dX3_take_72 : decode cX3_take 72 = .ok (.aload_n 0, 1) := by decide +kernel
theorem dX3_take_73 : decode cX3_take 73 = .ok (.aload_n 1, 1) := by decide +kernel
theorem dX3_take_74 : decode cX3_take 74 = .ok (.getfield 52, 3) := by decide +kernel
theorem dX3_take_77 : decode cX3_take 77 = .ok (.putfield 52, 3) := by decide +kernel
theorem dX3_take_80 : decode cX3_take 80 = .ok (.iconst 0, 1) := by decide +kernel
theorem dX3_take_81 : decode cX3_take 81 = .ok (.istore_n 2, 1) := by decide +kernel
theorem dX3_take_82 : decode cX3_take 82 = .ok (.iload_n 2, 1) := by decide +kernel
theorem dX3_take_83 : decode cX3_take 83 = .ok (.bipush 12, 2) := by decide +kernel
theorem dX3_take_85 : decode cX3_take 85 = .ok (.if_icmp .ge 45, 3) := by decide +kernel
theorem dX3_take_88 : decode cX3_take 88 = .ok (.aload_n 0, 1) := by decide +kernel
theorem dX3_take_89 : decode cX3_take 89 = .ok (.getfield 11, 3) := by decide +kernel
theorem dX3_take_92 : decode cX3_take 92 = .ok (.iload_n 2, 1) := by decide +kernel
theorem dX3_take_93 : decode cX3_take 93 = .ok (.aload_n 1, 1) := by decide +kernel
theorem dX3_take_94 : decode cX3_take 94 = .ok (.getfield 11, 3) := by decide +kernel
theorem dX3_take_97 : decode cX3_take 97 = .ok (.iload_n 2, 1) := by decide +kernel
theorem dX3_take_98 : decode cX3_take 98 = .ok (.iaload, 1) := by decide +kernel
theorem dX3_take_99 : decode cX3_take 99 = .ok (.iastore, 1) := by decide +kernel
theorem dX3_take_100 : decode cX3_take 100 = .ok (.aload_n 0, 1) := by decide +kernel
theorem dX3_take_101 : decode cX3_take 101 = .ok (.getfield 15, 3) := by decide +kernel
theorem dX3_take_104 : decode cX3_take 104 = .ok (.iload_n 2, 1) := by decide +kernel
theorem dX3_take_105 : decode cX3_take 105 = .ok (.aload_n 1, 1) := by decide +kernel
theorem dX3_take_106 : decode cX3_take 106 = .ok (.getfield 15, 3) := by decide +kernel
theorem dX3_take_109 : decode cX3_take 109 = .ok (.iload_n 2, 1) := by decide +kernel
theorem dX3_take_110 : decode cX3_take 110 = .ok (.iaload, 1) := by decide +kernel
theorem dX3_take_111 : decode cX3_take 111 = .ok (.iastore, 1) := by decide +kernel
theorem dX3_take_112 : decode cX3_take 112 = .ok (.aload_n 0, 1) := by decide +kernel
theorem dX3_take_113 : decode cX3_take 113 = .ok (.getfield 18, 3) := by decide +kernel
theorem dX3_take_116 : decode cX3_take 116 = .ok (.iload_n 2, 1) := by decide +kernel
theorem dX3_take_117 : decode cX3_take 117 = .ok (.aload_n 1, 1) := by decide +kernel
theorem dX3_take_118 : decode cX3_take 118 = .ok (.getfield 18, 3) := by decide +kernel
theorem dX3_take_121 : decode cX3_take 121 = .ok (.iload_n 2, 1) := by decide +kernel
theorem dX3_take_122 : decode cX3_take 122 = .ok (.iaload, 1) := by decide +kernel
theorem dX3_take_123 : decode cX3_take 123 = .ok (.iastore, 1) := by decide +kernel
theorem dX3_take_124 : decode cX3_take 124 = .ok (.iinc 2 1, 3) := by decide +kernel
theorem dX3_take_127 : decode cX3_take 127 = .ok (.goto (-45), 3) := by decide +kernel
theorem dX3_take_130 : decode cX3_take 130 = .ok (.return_, 1) := by decide +kernel
theorem dX3_isFull_0 : decode cX3_isFull 0 = .ok (.aload_n 0, 1) := by decide +kernel
theorem dX3_isFull_1 : decode cX3_isFull 1 = .ok (.getfield 52, 3) := by decide +kernel
theorem dX3_isFull_4 : decode cX3_isFull 4 = .ok (.bipush 12, 2) := by decide +kernel
theorem dX3_isFull_6 : decode cX3_isFull 6 = .ok (.if_icmp .lt 7, 3) := by decide +kernel
theorem dX3_isFull_9 : decode cX3_isFull 9 = .ok (.iconst 1, 1) := by decide +kernel
theorem dX3_isFull_10 : decode cX3_isFull 10 = .ok (.goto 4, 3) := by decide +kernel
theorem dX3_isFull_13 : decode cX3_isFull 13 = .ok (.iconst 0, 1) := by decide +kernel
theorem dX3_isFull_14 : decode cX3_isFull 14 = .ok (.ireturn, 1) := by decide +kernel
theorem dX3_add_0 : decode cX3_add 0 = .ok (.aload_n 0, 1) := by decide +kernel
theorem dX3_add_1 : decode cX3_add 1 = .ok (.getfield 52, 3) := by decide +kernel
theorem dX3_add_4 : decode cX3_add 4 = .ok (.ifCond .lt 52, 3) := by decide +kernel
theorem dX3_add_7 : decode cX3_add 7 = .ok (.aload_n 0, 1) := by decide +kernel
theorem dX3_add_8 : decode cX3_add 8 = .ok (.getfield 52, 3) := by decide +kernel
theorem dX3_add_11 : decode cX3_add 11 = .ok (.bipush 12, 2) := by decide +kernel
theorem dX3_add_13 : decode cX3_add 13 = .ok (.if_icmp .ge 43, 3) := by decide +kernel
theorem dX3_add_16 : decode cX3_add 16 = .ok (.aload_n 0, 1) := by decide +kernel
theorem dX3_add_17 : decode cX3_add 17 = .ok (.getfield 11, 3) := by decide +kernel
theorem dX3_add_20 : decode cX3_add 20 = .ok (.aload_n 0, 1) := by decide +kernel
theorem dX3_add_21 : decode cX3_add 21 = .ok (.getfield 52, 3) := by decide +kernel
theorem dX3_add_24 : decode cX3_add 24 = .ok (.iload_n 1, 1) := by decide +kernel
theorem dX3_add_25 : decode cX3_add 25 = .ok (.iastore, 1) := by decide +kernel
theorem dX3_add_26 : decode cX3_add 26 = .ok (.aload_n 0, 1) := by decide +kernel
theorem dX3_add_27 : decode cX3_add 27 = .ok (.getfield 15, 3) := by decide +kernel
theorem dX3_add_30 : decode cX3_add 30 = .ok (.aload_n 0, 1) := by decide +kernel
theorem dX3_add_31 : decode cX3_add 31 = .ok (.getfield 52, 3) := by decide +kernel
theorem dX3_add_34 : decode cX3_add 34 = .ok (.iload_n 2, 1) := by decide +kernel
theorem dX3_add_35 : decode cX3_add 35 = .ok (.iastore, 1) := by decide +kernel
theorem dX3_add_36 : decode cX3_add 36 = .ok (.aload_n 0, 1) := by decide +kernel
theorem dX3_add_37 : decode cX3_add 37 = .ok (.getfield 18, 3) := by decide +kernel
theorem dX3_add_40 : decode cX3_add 40 = .ok (.aload_n 0, 1) := by decide +kernel
theorem dX3_add_41 : decode cX3_add 41 = .ok (.getfield 52, 3) := by decide +kernel
theorem dX3_add_44 : decode cX3_add 44 = .ok (.iload_n 3, 1) := by decide +kernel
theorem dX3_add_45 : decode cX3_add 45 = .ok (.iastore, 1) := by decide +kernel
theorem dX3_add_46 : decode cX3_add 46 = .ok (.aload_n 0, 1) := by decide +kernel
theorem dX3_add_47 : decode cX3_add 47 = .ok (.dup, 1) := by decide +kernel
theorem dX3_add_48 : decode cX3_add 48 = .ok (.getfield 52, 3) := by decide +kernel
theorem dX3_add_51 : decode cX3_add 51 = .ok (.iconst 1, 1) := by decide +kernel
theorem dX3_add_52 : decode cX3_add 52 = .ok (.iadd, 1) := by decide +kernel
theorem dX3_add_53 : decode cX3_add 53 = .ok (.putfield 52, 3) := by decide +kernel
theorem dX3_add_56 : decode cX3_add 56 = .ok (.return_, 1) := by decide +kernel
theorem dX3_planSeconds_0 : decode cX3_planSeconds 0 = .ok (.iconst 0, 1) := by decide +kernel
theorem dX3_planSeconds_1 : decode cX3_planSeconds 1 = .ok (.istore_n 1, 1) := by decide +kernel
theorem dX3_planSeconds_2 : decode cX3_planSeconds 2 = .ok (.iconst 0, 1) := by decide +kernel
theorem dX3_planSeconds_3 : decode cX3_planSeconds 3 = .ok (.istore_n 2, 1) := by decide +kernel
theorem dX3_planSeconds_4 : decode cX3_planSeconds 4 = .ok (.iload_n 2, 1) := by decide +kernel
theorem dX3_planSeconds_5 : decode cX3_planSeconds 5 = .ok (.aload_n 0, 1) := by decide +kernel
theorem dX3_planSeconds_6 : decode cX3_planSeconds 6 = .ok (.getfield 52, 3) := by decide +kernel
theorem dX3_planSeconds_9 : decode cX3_planSeconds 9 = .ok (.if_icmp .ge 24, 3) := by decide +kernel
theorem dX3_planSeconds_12 : decode cX3_planSeconds 12 = .ok (.iload_n 2, 1) := by decide +kernel
theorem dX3_planSeconds_13 : decode cX3_planSeconds 13 = .ok (.bipush 12, 2) := by decide +kernel
theorem dX3_planSeconds_15 : decode cX3_planSeconds 15 = .ok (.if_icmp .ge 18, 3) := by decide +kernel
theorem dX3_planSeconds_18 : decode cX3_planSeconds 18 = .ok (.iload_n 1, 1) := by decide +kernel
theorem dX3_planSeconds_19 : decode cX3_planSeconds 19 = .ok (.aload_n 0, 1) := by decide +kernel
theorem dX3_planSeconds_20 : decode cX3_planSeconds 20 = .ok (.getfield 18, 3) := by decide +kernel
theorem dX3_planSeconds_23 : decode cX3_planSeconds 23 = .ok (.iload_n 2, 1) := by decide +kernel
theorem dX3_planSeconds_24 : decode cX3_planSeconds 24 = .ok (.iaload, 1) := by decide +kernel
theorem dX3_planSeconds_25 : decode cX3_planSeconds 25 = .ok (.iadd, 1) := by decide +kernel
theorem dX3_planSeconds_26 : decode cX3_planSeconds 26 = .ok (.istore_n 1, 1) := by decide +kernel
theorem dX3_planSeconds_27 : decode cX3_planSeconds 27 = .ok (.iinc 2 1, 3) := by decide +kernel
theorem dX3_planSeconds_30 : decode cX3_planSeconds 30 = .ok (.goto (-26), 3) := by decide +kernel
theorem dX3_planSeconds_33 : decode cX3_planSeconds 33 = .ok (.iload_n 1, 1) := by decide +kernel
theorem dX3_planSeconds_34 : decode cX3_planSeconds 34 = .ok (.ireturn, 1) := by decide +kernel
theorem dX3_heatFires_0 : decode cX3_heatFires 0 = .ok (.iconst 0, 1) := by decide +kernel
theorem dX3_heatFires_1 : decode cX3_heatFires 1 = .ok (.istore_n 2, 1) := by decide +kernel
theorem dX3_heatFires_2 : decode cX3_heatFires 2 = .ok (.iload_n 2, 1) := by decide +kernel
theorem dX3_heatFires_3 : decode cX3_heatFires 3 = .ok (.aload_n 0, 1) := by decide +kernel
theorem dX3_heatFires_4 : decode cX3_heatFires 4 = .ok (.getfield 52, 3) := by decide +kernel
theorem dX3_heatFires_7 : decode cX3_heatFires 7 = .ok (.if_icmp .ge 44, 3) := by decide +kernel
theorem dX3_heatFires_10 : decode cX3_heatFires 10 = .ok (.iload_n 2, 1) := by decide +kernel
theorem dX3_heatFires_11 : decode cX3_heatFires 11 = .ok (.bipush 12, 2) := by decide +kernel
theorem dX3_heatFires_13 : decode cX3_heatFires 13 = .ok (.if_icmp .ge 38, 3) := by decide +kernel
theorem dX3_heatFires_16 : decode cX3_heatFires 16 = .ok (.aload_n 0, 1) := by decide +kernel
theorem dX3_heatFires_17 : decode cX3_heatFires 17 = .ok (.getfield 11, 3) := by decide +kernel
theorem dX3_heatFires_20 : decode cX3_heatFires 20 = .ok (.iload_n 2, 1) := by decide +kernel
theorem dX3_heatFires_21 : decode cX3_heatFires 21 = .ok (.iaload, 1) := by decide +kernel
theorem dX3_heatFires_22 : decode cX3_heatFires 22 = .ok (.ifCond .ne 23, 3) := by decide +kernel
theorem dX3_heatFires_25 : decode cX3_heatFires 25 = .ok (.aload_n 0, 1) := by decide +kernel
theorem dX3_heatFires_26 : decode cX3_heatFires 26 = .ok (.getfield 15, 3) := by decide +kernel
theorem dX3_heatFires_29 : decode cX3_heatFires 29 = .ok (.iload_n 2, 1) := by decide +kernel
theorem dX3_heatFires_30 : decode cX3_heatFires 30 = .ok (.sipush 300, 3) := by decide +kernel
theorem dX3_heatFires_33 : decode cX3_heatFires 33 = .ok (.aload_n 0, 1) := by decide +kernel
theorem dX3_heatFires_34 : decode cX3_heatFires 34 = .ok (.getfield 15, 3) := by decide +kernel
theorem dX3_heatFires_37 : decode cX3_heatFires 37 = .ok (.iload_n 2, 1) := by decide +kernel
theorem dX3_heatFires_38 : decode cX3_heatFires 38 = .ok (.iaload, 1) := by decide +kernel
theorem dX3_heatFires_39 : decode cX3_heatFires 39 = .ok (.iload_n 1, 1) := by decide +kernel
theorem dX3_heatFires_40 : decode cX3_heatFires 40 = .ok (.iadd, 1) := by decide +kernel
theorem dX3_heatFires_41 : decode cX3_heatFires 41 = .ok (.invokestatic 55, 3) := by decide +kernel
theorem dX3_heatFires_44 : decode cX3_heatFires 44 = .ok (.iastore, 1) := by decide +kernel
theorem dX3_heatFires_45 : decode cX3_heatFires 45 = .ok (.iinc 2 1, 3) := by decide +kernel
theorem dX3_heatFires_48 : decode cX3_heatFires 48 = .ok (.goto (-46), 3) := by decide +kernel
theorem dX3_heatFires_51 : decode cX3_heatFires 51 = .ok (.return_, 1) := by decide +kernel
