theorem dX8_latestPitch_36 : decode cX8_latestPitch 36 = .ok (.iload_n 1, 1) := by decide +kernel
theorem dX8_latestPitch_37 : decode cX8_latestPitch 37 = .ok (.iaload, 1) := by decide +kernel
theorem dX8_latestPitch_38 : decode cX8_latestPitch 38 = .ok (.ireturn, 1) := by decide +kernel
theorem dX8_latestDegree_0 : decode cX8_latestDegree 0 = .ok (.aload_n 0, 1) := by decide +kernel
theorem dX8_latestDegree_1 : decode cX8_latestDegree 1 = .ok (.getfield 30, 3) := by decide +kernel
theorem dX8_latestDegree_4 : decode cX8_latestDegree 4 = .ok (.ifCond .ne 7, 3) := by decide +kernel
theorem dX8_latestDegree_7 : decode cX8_latestDegree 7 = .ok (.iconst (-1), 1) := by decide +kernel
theorem dX8_latestDegree_8 : decode cX8_latestDegree 8 = .ok (.goto 14, 3) := by decide +kernel
theorem dX8_latestDegree_11 : decode cX8_latestDegree 11 = .ok (.aload_n 0, 1) := by decide +kernel
theorem dX8_latestDegree_12 : decode cX8_latestDegree 12 = .ok (.getfield 24, 3) := by decide +kernel
theorem dX8_latestDegree_15 : decode cX8_latestDegree 15 = .ok (.aload_n 0, 1) := by decide +kernel
theorem dX8_latestDegree_16 : decode cX8_latestDegree 16 = .ok (.getfield 30, 3) := by decide +kernel
theorem dX8_latestDegree_19 : decode cX8_latestDegree 19 = .ok (.iconst 1, 1) := by decide +kernel
theorem dX8_latestDegree_20 : decode cX8_latestDegree 20 = .ok (.isub, 1) := by decide +kernel
theorem dX8_latestDegree_21 : decode cX8_latestDegree 21 = .ok (.iaload, 1) := by decide +kernel
theorem dX8_latestDegree_22 : decode cX8_latestDegree 22 = .ok (.istore_n 1, 1) := by decide +kernel
theorem dX8_latestDegree_23 : decode cX8_latestDegree 23 = .ok (.iload_n 1, 1) := by decide +kernel
theorem dX8_latestDegree_24 : decode cX8_latestDegree 24 = .ok (.iconst (-1), 1) := by decide +kernel
theorem dX8_latestDegree_25 : decode cX8_latestDegree 25 = .ok (.if_icmp .ne 7, 3) := by decide +kernel
theorem dX8_latestDegree_28 : decode cX8_latestDegree 28 = .ok (.iconst (-1), 1) := by decide +kernel
theorem dX8_latestDegree_29 : decode cX8_latestDegree 29 = .ok (.goto 9, 3) := by decide +kernel
theorem dX8_latestDegree_32 : decode cX8_latestDegree 32 = .ok (.aload_n 0, 1) := by decide +kernel
theorem dX8_latestDegree_33 : decode cX8_latestDegree 33 = .ok (.getfield 21, 3) := by decide +kernel
theorem dX8_latestDegree_36 : decode cX8_latestDegree 36 = .ok (.iload_n 1, 1) := by decide +kernel
theorem dX8_latestDegree_37 : decode cX8_latestDegree 37 = .ok (.iaload, 1) := by decide +kernel
theorem dX8_latestDegree_38 : decode cX8_latestDegree 38 = .ok (.ireturn, 1) := by decide +kernel
set_option maxRecDepth 20000 in
theorem ggX8_alikeWith_X8_latestPitch : GoodIn wsX8_alikeWith wsX8_latestPitch := goodIn_r _ [7, 2, 8, 9, 10, 11, 12, 13, 14, 15, 16] (by decide +kernel) (by decide +kernel)
set_option maxRecDepth 20000 in
theorem gX8_alikeWith_X8_latestPitch : GoodIn wsX8_alikeWith (wsV RX8 41 RX8 yX8_latestPitch wsX8_latestPitch) := goodIn_app (goodIn_of _ (by decide +kernel)) ggX8_alikeWith_X8_latestPitch
theorem dX8_alikeWith_0 : decode cX8_alikeWith 0 = .ok (.aload_n 0, 1) := by decide +kernel
theorem dX8_alikeWith_1 : decode cX8_alikeWith 1 = .ok (.invokevirtual 41, 3) := by decide +kernel
theorem dX8_alikeWith_4 : decode cX8_alikeWith 4 = .ok (.iload_n 1, 1) := by decide +kernel
theorem dX8_alikeWith_5 : decode cX8_alikeWith 5 = .ok (.if_icmp .ne 19, 3) := by decide +kernel
theorem dX8_alikeWith_8 : decode cX8_alikeWith 8 = .ok (.aload_n 0, 1) := by decide +kernel
theorem dX8_alikeWith_9 : decode cX8_alikeWith 9 = .ok (.getfield 27, 3) := by decide +kernel
theorem dX8_alikeWith_12 : decode cX8_alikeWith 12 = .ok (.aload_n 0, 1) := by decide +kernel
theorem dX8_alikeWith_13 : decode cX8_alikeWith 13 = .ok (.getfield 30, 3) := by decide +kernel
theorem dX8_alikeWith_16 : decode cX8_alikeWith 16 = .ok (.iconst 1, 1) := by decide +kernel
theorem dX8_alikeWith_17 : decode cX8_alikeWith 17 = .ok (.isub, 1) := by decide +kernel
theorem dX8_alikeWith_18 : decode cX8_alikeWith 18 = .ok (.iaload, 1) := by decide +kernel
theorem dX8_alikeWith_19 : decode cX8_alikeWith 19 = .ok (.iconst 1, 1) := by decide +kernel
theorem dX8_alikeWith_20 : decode cX8_alikeWith 20 = .ok (.iadd, 1) := by decide +kernel
theorem dX8_alikeWith_21 : decode cX8_alikeWith 21 = .ok (.goto 4, 3) := by decide +kernel
theorem dX8_alikeWith_24 : decode cX8_alikeWith 24 = .ok (.iconst 1, 1) := by decide +kernel
theorem dX8_alikeWith_25 : decode cX8_alikeWith 25 = .ok (.ireturn, 1) := by decide +kernel
set_option maxRecDepth 20000 in
theorem ggX8_add_X8_time : GoodIn wsX8_add wsX8_time := goodIn_r _ [12, 1, 4, 6, 21, 22, 23, 24, 25, 26, 27] (by decide +kernel) (by decide +kernel)
set_option maxRecDepth 20000 in
theorem gX8_add_X8_time : GoodIn wsX8_add (wsV RX8 45 RX8 yX8_time wsX8_time) := goodIn_app (goodIn_of _ (by decide +kernel)) ggX8_add_X8_time
set_option maxRecDepth 20000 in
theorem ggX8_add_X8_alikeWith : GoodIn wsX8_add wsX8_alikeWith := goodIn_r _ [16, 3, 1, 17, 18, 19, 11, 20, 2, 5, 21, 22, 23, 24, 25, 26, 27] (by decide +kernel) (by decide +kernel)
set_option maxRecDepth 20000 in
theorem gX8_add_X8_alikeWith : GoodIn wsX8_add (wsV RX8 48 RX8 yX8_alikeWith wsX8_alikeWith) := goodIn_app (goodIn_of _ (by decide +kernel)) ggX8_add_X8_alikeWith
theorem dX8_add_0 : decode cX8_add 0 = .ok (.aload_n 0, 1) := by decide +kernel
theorem dX8_add_1 : decode cX8_add 1 = .ok (.getfield 30, 3) := by decide +kernel
theorem dX8_add_4 : decode cX8_add 4 = .ok (.sipush 256, 3) := by decide +kernel
theorem dX8_add_7 : decode cX8_add 7 = .ok (.if_icmp .lt 4, 3) := by decide +kernel
theorem dX8_add_10 : decode cX8_add 10 = .ok (.return_, 1) := by decide +kernel
theorem dX8_add_11 : decode cX8_add 11 = .ok (.iload_n 1, 1) := by decide +kernel
theorem dX8_add_12 : decode cX8_add 12 = .ok (.iconst (-1), 1) := by decide +kernel
theorem dX8_add_13 : decode cX8_add 13 = .ok (.if_icmp .ne 7, 3) := by decide +kernel
theorem dX8_add_16 : decode cX8_add 16 = .ok (.iconst 1, 1) := by decide +kernel
theorem dX8_add_17 : decode cX8_add 17 = .ok (.goto 4, 3) := by decide +kernel
theorem dX8_add_20 : decode cX8_add 20 = .ok (.iconst 0, 1) := by decide +kernel
theorem dX8_add_21 : decode cX8_add 21 = .ok (.istore 4, 2) := by decide +kernel
theorem dX8_add_23 : decode cX8_add 23 = .ok (.aload_n 0, 1) := by decide +kernel
theorem dX8_add_24 : decode cX8_add 24 = .ok (.getfield 30, 3) := by decide +kernel
theorem dX8_add_27 : decode cX8_add 27 = .ok (.ifCond .ne 7, 3) := by decide +kernel
theorem dX8_add_30 : decode cX8_add 30 = .ok (.iconst (-1), 1) := by decide +kernel
theorem dX8_add_31 : decode cX8_add 31 = .ok (.goto 14, 3) := by decide +kernel
theorem dX8_add_34 : decode cX8_add 34 = .ok (.aload_n 0, 1) := by decide +kernel
theorem dX8_add_35 : decode cX8_add 35 = .ok (.getfield 24, 3) := by decide +kernel
theorem dX8_add_38 : decode cX8_add 38 = .ok (.aload_n 0, 1) := by decide +kernel
theorem dX8_add_39 : decode cX8_add 39 = .ok (.getfield 30, 3) := by decide +kernel
theorem dX8_add_42 : decode cX8_add 42 = .ok (.iconst 1, 1) := by decide +kernel
theorem dX8_add_43 : decode cX8_add 43 = .ok (.isub, 1) := by decide +kernel
theorem dX8_add_44 : decode cX8_add 44 = .ok (.iaload, 1) := by decide +kernel
theorem dX8_add_45 : decode cX8_add 45 = .ok (.istore 5, 2) := by decide +kernel
theorem dX8_add_47 : decode cX8_add 47 = .ok (.aload_n 0, 1) := by decide +kernel
theorem dX8_add_48 : decode cX8_add 48 = .ok (.getfield 30, 3) := by decide +kernel
theorem dX8_add_51 : decode cX8_add 51 = .ok (.ifCond .ne 7, 3) := by decide +kernel
theorem dX8_add_54 : decode cX8_add 54 = .ok (.iconst 0, 1) := by decide +kernel
theorem dX8_add_55 : decode cX8_add 55 = .ok (.goto 14, 3) := by decide +kernel
theorem dX8_add_58 : decode cX8_add 58 = .ok (.aload_n 0, 1) := by decide +kernel
theorem dX8_add_59 : decode cX8_add 59 = .ok (.getfield 27, 3) := by decide +kernel
theorem dX8_add_62 : decode cX8_add 62 = .ok (.aload_n 0, 1) := by decide +kernel
theorem dX8_add_63 : decode cX8_add 63 = .ok (.getfield 30, 3) := by decide +kernel
theorem dX8_add_66 : decode cX8_add 66 = .ok (.iconst 1, 1) := by decide +kernel
theorem dX8_add_67 : decode cX8_add 67 = .ok (.isub, 1) := by decide +kernel
theorem dX8_add_68 : decode cX8_add 68 = .ok (.iaload, 1) := by decide +kernel
theorem dX8_add_69 : decode cX8_add 69 = .ok (.istore 6, 2) := by decide +kernel
theorem dX8_add_71 : decode cX8_add 71 = .ok (.aload_n 0, 1) := by decide +kernel
theorem dX8_add_72 : decode cX8_add 72 = .ok (.getfield 18, 3) := by decide +kernel
theorem dX8_add_75 : decode cX8_add 75 = .ok (.aload_n 0, 1) := by decide +kernel
theorem dX8_add_76 : decode cX8_add 76 = .ok (.getfield 30, 3) := by decide +kernel
theorem dX8_add_79 : decode cX8_add 79 = .ok (.aload_n 0, 1) := by decide +kernel
theorem dX8_add_80 : decode cX8_add 80 = .ok (.invokevirtual 45, 3) := by decide +kernel
theorem dX8_add_83 : decode cX8_add 83 = .ok (.iastore, 1) := by decide +kernel
theorem dX8_add_84 : decode cX8_add 84 = .ok (.aload_n 0, 1) := by decide +kernel
theorem dX8_add_85 : decode cX8_add 85 = .ok (.getfield 27, 3) := by decide +kernel
theorem dX8_add_88 : decode cX8_add 88 = .ok (.aload_n 0, 1) := by decide +kernel
theorem dX8_add_89 : decode cX8_add 89 = .ok (.getfield 30, 3) := by decide +kernel
theorem dX8_add_92 : decode cX8_add 92 = .ok (.iload 4, 2) := by decide +kernel
theorem dX8_add_94 : decode cX8_add 94 = .ok (.ifCond .eq 8, 3) := by decide +kernel
theorem dX8_add_97 : decode cX8_add 97 = .ok (.iload 6, 2) := by decide +kernel
theorem dX8_add_99 : decode cX8_add 99 = .ok (.goto 8, 3) := by decide +kernel
theorem dX8_add_102 : decode cX8_add 102 = .ok (.aload_n 0, 1) := by decide +kernel
theorem dX8_add_103 : decode cX8_add 103 = .ok (.iload_n 2, 1) := by decide +kernel
theorem dX8_add_104 : decode cX8_add 104 = .ok (.invokevirtual 48, 3) := by decide +kernel
theorem dX8_add_107 : decode cX8_add 107 = .ok (.iastore, 1) := by decide +kernel
theorem dX8_add_108 : decode cX8_add 108 = .ok (.aload_n 0, 1) := by decide +kernel
theorem dX8_add_109 : decode cX8_add 109 = .ok (.getfield 24, 3) := by decide +kernel
theorem dX8_add_112 : decode cX8_add 112 = .ok (.aload_n 0, 1) := by decide +kernel
theorem dX8_add_113 : decode cX8_add 113 = .ok (.getfield 30, 3) := by decide +kernel
theorem dX8_add_116 : decode cX8_add 116 = .ok (.iload 4, 2) := by decide +kernel
theorem dX8_add_118 : decode cX8_add 118 = .ok (.ifCond .eq 8, 3) := by decide +kernel
theorem dX8_add_121 : decode cX8_add 121 = .ok (.iload 5, 2) := by decide +kernel
theorem dX8_add_123 : decode cX8_add 123 = .ok (.goto 7, 3) := by decide +kernel
theorem dX8_add_126 : decode cX8_add 126 = .ok (.aload_n 0, 1) := by decide +kernel
theorem dX8_add_127 : decode cX8_add 127 = .ok (.getfield 30, 3) := by decide +kernel
theorem dX8_add_130 : decode cX8_add 130 = .ok (.iastore, 1) := by decide +kernel
theorem dX8_add_131 : decode cX8_add 131 = .ok (.aload_n 0, 1) := by decide +kernel
theorem dX8_add_132 : decode cX8_add 132 = .ok (.getfield 9, 3) := by decide +kernel
theorem dX8_add_135 : decode cX8_add 135 = .ok (.aload_n 0, 1) := by decide +kernel
theorem dX8_add_136 : decode cX8_add 136 = .ok (.getfield 30, 3) := by decide +kernel
theorem dX8_add_139 : decode cX8_add 139 = .ok (.iload_n 2, 1) := by decide +kernel
theorem dX8_add_140 : decode cX8_add 140 = .ok (.iastore, 1) := by decide +kernel
theorem dX8_add_141 : decode cX8_add 141 = .ok (.aload_n 0, 1) := by decide +kernel
theorem dX8_add_142 : decode cX8_add 142 = .ok (.getfield 15, 3) := by decide +kernel
theorem dX8_add_145 : decode cX8_add 145 = .ok (.aload_n 0, 1) := by decide +kernel
theorem dX8_add_146 : decode cX8_add 146 = .ok (.getfield 30, 3) := by decide +kernel
theorem dX8_add_149 : decode cX8_add 149 = .ok (.iload_n 3, 1) := by decide +kernel
theorem dX8_add_150 : decode cX8_add 150 = .ok (.iastore, 1) := by decide +kernel
theorem dX8_add_151 : decode cX8_add 151 = .ok (.aload_n 0, 1) := by decide +kernel
theorem dX8_add_152 : decode cX8_add 152 = .ok (.getfield 21, 3) := by decide +kernel
theorem dX8_add_155 : decode cX8_add 155 = .ok (.aload_n 0, 1) := by decide +kernel
theorem dX8_add_156 : decode cX8_add 156 = .ok (.getfield 30, 3) := by decide +kernel
theorem dX8_add_159 : decode cX8_add 159 = .ok (.iload_n 1, 1) := by decide +kernel
theorem dX8_add_160 : decode cX8_add 160 = .ok (.iastore, 1) := by decide +kernel
theorem dX8_add_161 : decode cX8_add 161 = .ok (.aload_n 0, 1) := by decide +kernel
theorem dX8_add_162 : decode cX8_add 162 = .ok (.dup, 1) := by decide +kernel
theorem dX8_add_163 : decode cX8_add 163 = .ok (.getfield 30, 3) := by decide +kernel
theorem dX8_add_166 : decode cX8_add 166 = .ok (.iconst 1, 1) := by decide +kernel
theorem dX8_add_167 : decode cX8_add 167 = .ok (.iadd, 1) := by decide +kernel
theorem dX8_add_168 : decode cX8_add 168 = .ok (.putfield 30, 3) := by decide +kernel
theorem dX8_add_171 : decode cX8_add 171 = .ok (.return_, 1) := by decide +kernel
set_option maxRecDepth 20000 in
theorem ggX9_init_X6_init : GoodIn wsX9_init wsX6_init := goodIn_r _ [38, 39, 2, 3, 40, 41, 42, 96, 97] (by decide +kernel) (by decide +kernel)
set_option maxRecDepth 20000 in
theorem gX9_init_X6_init_n11 : GoodIn wsX9_init (wsX6_init) := ggX9_init_X6_init
set_option maxRecDepth 20000 in
theorem ggX9_init_X2_init : GoodIn wsX9_init wsX2_init := goodIn_r _ [44, 45, 2, 3, 13, 46, 47, 48, 49, 50, 51, 52, 53, 54, 55, 56, 57, 58, 59, 60, 61, 107, 108, 109, 110, 111, 112, 113, 114, 115, 116, 117, 118, 119, 120, 121, 122] (by decide +kernel) (by decide +kernel)
set_option maxRecDepth 20000 in
theorem gX9_init_X2_init_n18 : GoodIn wsX9_init (wsX2_init) := ggX9_init_X2_init
set_option maxRecDepth 20000 in
theorem ggX9_init_X8_init : GoodIn wsX9_init wsX8_init := goodIn_r _ [63, 64, 2, 3, 13, 65, 66, 67, 68, 69, 70, 71, 123, 124, 125, 126, 127, 128, 129] (by decide +kernel) (by decide +kernel)
set_option maxRecDepth 20000 in
theorem gX9_init_X8_init_n32 : GoodIn wsX9_init (wsX8_init) := ggX9_init_X8_init
set_option maxRecDepth 20000 in
theorem ggX9_init_X4_init : GoodIn wsX9_init wsX4_init := goodIn_r _ [73, 74, 2, 3, 13, 75, 76, 77, 78, 79, 80, 81, 82, 83, 130, 131, 132, 133, 134, 135, 136, 137] (by decide +kernel) (by decide +kernel)
set_option maxRecDepth 20000 in
theorem gX9_init_X4_init_n39 : GoodIn wsX9_init (wsX4_init) := ggX9_init_X4_init
set_option maxRecDepth 20000 in
theorem ggX9_init_X0_init : GoodIn wsX9_init wsX0_init := goodIn_r _ [85, 86, 2, 3, 13, 87, 88, 89, 90, 91, 138, 139, 140, 141, 142] (by decide +kernel) (by decide +kernel)
set_option maxRecDepth 20000 in
theorem gX9_init_X0_init_n50 : GoodIn wsX9_init (wsX0_init) := ggX9_init_X0_init
set_option maxRecDepth 20000 in
theorem ggX9_init_X7_init : GoodIn wsX9_init wsX7_init := goodIn_r _ [93, 94, 2, 3, 13, 95, 143] (by decide +kernel) (by decide +kernel)
set_option maxRecDepth 20000 in
theorem gX9_init_X7_init_n57 : GoodIn wsX9_init (wsX7_init) := ggX9_init_X7_init
theorem dX9_init_0 : decode cX9_init 0 = .ok (.aload_n 0, 1) := by decide +kernel
theorem dX9_init_1 : decode cX9_init 1 = .ok (.invokespecial 3, 3) := by decide +kernel
theorem dX9_init_4 : decode cX9_init 4 = .ok (.aload_n 0, 1) := by decide +kernel
theorem dX9_init_5 : decode cX9_init 5 = .ok (.new 9, 3) := by decide +kernel
theorem dX9_init_8 : decode cX9_init 8 = .ok (.dup, 1) := by decide +kernel
theorem dX9_init_9 : decode cX9_init 9 = .ok (.invokespecial 11, 3) := by decide +kernel
theorem dX9_init_12 : decode cX9_init 12 = .ok (.putfield 12, 3) := by decide +kernel
theorem dX9_init_15 : decode cX9_init 15 = .ok (.aload_n 0, 1) := by decide +kernel
theorem dX9_init_16 : decode cX9_init 16 = .ok (.new 16, 3) := by decide +kernel
theorem dX9_init_19 : decode cX9_init 19 = .ok (.dup, 1) := by decide +kernel
theorem dX9_init_20 : decode cX9_init 20 = .ok (.invokespecial 18, 3) := by decide +kernel
theorem dX9_init_23 : decode cX9_init 23 = .ok (.putfield 19, 3) := by decide +kernel
theorem dX9_init_26 : decode cX9_init 26 = .ok (.aload_n 0, 1) := by decide +kernel
theorem dX9_init_27 : decode cX9_init 27 = .ok (.new 16, 3) := by decide +kernel
theorem dX9_init_30 : decode cX9_init 30 = .ok (.dup, 1) := by decide +kernel
theorem dX9_init_31 : decode cX9_init 31 = .ok (.invokespecial 18, 3) := by decide +kernel
theorem dX9_init_34 : decode cX9_init 34 = .ok (.putfield 23, 3) := by decide +kernel
theorem dX9_init_37 : decode cX9_init 37 = .ok (.aload_n 0, 1) := by decide +kernel
theorem dX9_init_38 : decode cX9_init 38 = .ok (.bipush 7, 2) := by decide +kernel
theorem dX9_init_40 : decode cX9_init 40 = .ok (.newarray .int, 2) := by decide +kernel
theorem dX9_init_42 : decode cX9_init 42 = .ok (.putfield 26, 3) := by decide +kernel
theorem dX9_init_45 : decode cX9_init 45 = .ok (.aload_n 0, 1) := by decide +kernel
theorem dX9_init_46 : decode cX9_init 46 = .ok (.new 30, 3) := by decide +kernel
theorem dX9_init_49 : decode cX9_init 49 = .ok (.dup, 1) := by decide +kernel
theorem dX9_init_50 : decode cX9_init 50 = .ok (.invokespecial 32, 3) := by decide +kernel
theorem dX9_init_53 : decode cX9_init 53 = .ok (.putfield 33, 3) := by decide +kernel
theorem dX9_init_56 : decode cX9_init 56 = .ok (.aload_n 0, 1) := by decide +kernel
theorem dX9_init_57 : decode cX9_init 57 = .ok (.new 37, 3) := by decide +kernel
theorem dX9_init_60 : decode cX9_init 60 = .ok (.dup, 1) := by decide +kernel
theorem dX9_init_61 : decode cX9_init 61 = .ok (.invokespecial 39, 3) := by decide +kernel
theorem dX9_init_64 : decode cX9_init 64 = .ok (.putfield 40, 3) := by decide +kernel
theorem dX9_init_67 : decode cX9_init 67 = .ok (.aload_n 0, 1) := by decide +kernel
theorem dX9_init_68 : decode cX9_init 68 = .ok (.iconst 0, 1) := by decide +kernel
theorem dX9_init_69 : decode cX9_init 69 = .ok (.putfield 44, 3) := by decide +kernel
theorem dX9_init_72 : decode cX9_init 72 = .ok (.aload_n 0, 1) := by decide +kernel
theorem dX9_init_73 : decode cX9_init 73 = .ok (.new 48, 3) := by decide +kernel
theorem dX9_init_76 : decode cX9_init 76 = .ok (.dup, 1) := by decide +kernel
theorem dX9_init_77 : decode cX9_init 77 = .ok (.invokespecial 50, 3) := by decide +kernel
theorem dX9_init_80 : decode cX9_init 80 = .ok (.putfield 51, 3) := by decide +kernel
theorem dX9_init_83 : decode cX9_init 83 = .ok (.aload_n 0, 1) := by decide +kernel
theorem dX9_init_84 : decode cX9_init 84 = .ok (.new 55, 3) := by decide +kernel
theorem dX9_init_87 : decode cX9_init 87 = .ok (.dup, 1) := by decide +kernel
theorem dX9_init_88 : decode cX9_init 88 = .ok (.invokespecial 57, 3) := by decide +kernel
theorem dX9_init_91 : decode cX9_init 91 = .ok (.putfield 58, 3) := by decide +kernel
theorem dX9_init_94 : decode cX9_init 94 = .ok (.getstatic 62, 3) := by decide +kernel
theorem dX9_init_97 : decode cX9_init 97 = .ok (.iconst 0, 1) := by decide +kernel
theorem dX9_init_98 : decode cX9_init 98 = .ok (.aload_n 0, 1) := by decide +kernel
theorem dX9_init_99 : decode cX9_init 99 = .ok (.getfield 26, 3) := by decide +kernel
theorem dX9_init_102 : decode cX9_init 102 = .ok (.iconst 0, 1) := by decide +kernel
theorem dX9_init_103 : decode cX9_init 103 = .ok (.bipush 7, 2) := by decide +kernel
theorem dX9_init_105 : decode cX9_init 105 = .ok (.invokestatic 65, 3) := by decide +kernel
theorem dX9_init_108 : decode cX9_init 108 = .ok (.return_, 1) := by decide +kernel
set_option maxRecDepth 20000 in
theorem ggX9_text_X6_append : GoodIn wsX9_text wsX6_append := goodIn_r _ [6, 7, 8, 9, 10, 5, 11, 12, 13, 14, 15, 16, 17, 27, 28] (by decide +kernel) (by decide +kernel)
set_option maxRecDepth 20000 in
theorem gX9_text_X6_append : GoodIn wsX9_text (wsV RX9 71 RX6 yX6_append wsX6_append) := goodIn_app (goodIn_of _ (by decide +kernel)) ggX9_text_X6_append
theorem dX9_text_0 : decode cX9_text 0 = .ok (.aload_n 0, 1) := by decide +kernel
theorem dX9_text_1 : decode cX9_text 1 = .ok (.getfield 12, 3) := by decide +kernel
theorem dX9_text_4 : decode cX9_text 4 = .ok (.lload_n 1, 1) := by decide +kernel
theorem dX9_text_5 : decode cX9_text 5 = .ok (.invokevirtual 71, 3) := by decide +kernel
theorem dX9_text_8 : decode cX9_text 8 = .ok (.ireturn, 1) := by decide +kernel
set_option maxRecDepth 20000 in
theorem ggX9_cut_X6_shorten : GoodIn wsX9_cut wsX6_shorten := goodIn_r _ [6, 7, 8, 9, 10, 20, 21] (by decide +kernel) (by decide +kernel)
set_option maxRecDepth 20000 in
theorem gX9_cut_X6_shorten : GoodIn wsX9_cut (wsV RX9 75 RX6 yX6_shorten wsX6_shorten) := goodIn_app (goodIn_of _ (by decide +kernel)) ggX9_cut_X6_shorten
theorem dX9_cut_0 : decode cX9_cut 0 = .ok (.aload_n 0, 1) := by decide +kernel
theorem dX9_cut_1 : decode cX9_cut 1 = .ok (.getfield 12, 3) := by decide +kernel
theorem dX9_cut_4 : decode cX9_cut 4 = .ok (.iload_n 1, 1) := by decide +kernel
theorem dX9_cut_5 : decode cX9_cut 5 = .ok (.invokevirtual 75, 3) := by decide +kernel
theorem dX9_cut_8 : decode cX9_cut 8 = .ok (.ireturn, 1) := by decide +kernel
set_option maxRecDepth 20000 in
theorem ggX9_read_X5_init : GoodIn wsX9_read wsX5_init := goodIn_r _ [9, 10, 11, 12, 13, 14, 15, 16, 149, 150, 151, 152] (by decide +kernel) (by decide +kernel)
set_option maxRecDepth 20000 in
theorem gX9_read_X5_init : GoodIn wsX9_read (wsX5_init) := ggX9_read_X5_init
set_option maxRecDepth 20000 in
theorem ggX9_read_X5_readAll : GoodIn wsX9_read wsX5_readAll := goodIn_r _ [20, 16, 15, 13, 14, 21, 22, 23, 24, 25, 26, 27, 28, 29, 30, 31, 32, 33, 34, 35, 36, 37, 38, 39, 40, 41, 42, 43, 44, 45, 46, 47, 48, 49, 50, 51, 52, 3, 53, 54, 55, 56, 57, 58, 59, 60, 61, 62, 63, 64, 65, 66, 67, 68, 69, 70, 71, 72, 73, 74, 75, 76, 77, 78, 79, 80, 81, 82, 83, 84, 85, 86, 87, 88, 89, 90, 91, 92, 93, 94, 95, 96, 97, 98, 99, 100, 101, 102, 103, 104, 105, 106, 107, 108, 109, 110, 111, 112, 113, 114, 115, 116, 117, 118, 119, 120, 121, 122, 123, 124, 125, 126, 127, 128, 129, 130, 131, 132, 133, 134, 135, 136, 137, 138, 139, 140, 141, 142, 143, 144, 145, 146, 147, 148, 149, 150, 151, 152, 162, 163, 164, 165, 166, 167, 168, 169, 170, 171, 172, 173, 174, 175, 176, 177, 178, 179] (by decide +kernel) (by decide +kernel)
set_option maxRecDepth 20000 in
theorem gX9_read_X5_readAll : GoodIn wsX9_read (wsV RX9 84 RX5 yX5_readAll wsX5_readAll) := goodIn_app (goodIn_of _ (by decide +kernel)) ggX9_read_X5_readAll
theorem dX9_read_0 : decode cX9_read 0 = .ok (.new 79, 3) := by decide +kernel
theorem dX9_read_3 : decode cX9_read 3 = .ok (.dup, 1) := by decide +kernel
theorem dX9_read_4 : decode cX9_read 4 = .ok (.aload_n 0, 1) := by decide +kernel
theorem dX9_read_5 : decode cX9_read 5 = .ok (.getfield 12, 3) := by decide +kernel
theorem dX9_read_8 : decode cX9_read 8 = .ok (.aload_n 0, 1) := by decide +kernel
theorem dX9_read_9 : decode cX9_read 9 = .ok (.getfield 23, 3) := by decide +kernel
theorem dX9_read_12 : decode cX9_read 12 = .ok (.invokespecial 81, 3) := by decide +kernel
theorem dX9_read_15 : decode cX9_read 15 = .ok (.invokevirtual 84, 3) := by decide +kernel
theorem dX9_read_18 : decode cX9_read 18 = .ok (.istore_n 1, 1) := by decide +kernel
theorem dX9_read_19 : decode cX9_read 19 = .ok (.iload_n 1, 1) := by decide +kernel
theorem dX9_read_20 : decode cX9_read 20 = .ok (.iconst (-1), 1) := by decide +kernel
theorem dX9_read_21 : decode cX9_read 21 = .ok (.if_icmp .eq 8, 3) := by decide +kernel
theorem dX9_read_24 : decode cX9_read 24 = .ok (.bipush (-10), 2) := by decide +kernel
theorem dX9_read_26 : decode cX9_read 26 = .ok (.iload_n 1, 1) := by decide +kernel
theorem dX9_read_27 : decode cX9_read 27 = .ok (.isub, 1) := by decide +kernel
theorem dX9_read_28 : decode cX9_read 28 = .ok (.ireturn, 1) := by decide +kernel
theorem dX9_read_29 : decode cX9_read 29 = .ok (.aload_n 0, 1) := by decide +kernel
theorem dX9_read_30 : decode cX9_read 30 = .ok (.getfield 19, 3) := by decide +kernel
theorem dX9_read_33 : decode cX9_read 33 = .ok (.astore_n 2, 1) := by decide +kernel
theorem dX9_read_34 : decode cX9_read 34 = .ok (.aload_n 0, 1) := by decide +kernel
theorem dX9_read_35 : decode cX9_read 35 = .ok (.aload_n 0, 1) := by decide +kernel
theorem dX9_read_36 : decode cX9_read 36 = .ok (.getfield 23, 3) := by decide +kernel
theorem dX9_read_39 : decode cX9_read 39 = .ok (.putfield 19, 3) := by decide +kernel
theorem dX9_read_42 : decode cX9_read 42 = .ok (.aload_n 0, 1) := by decide +kernel
theorem dX9_read_43 : decode cX9_read 43 = .ok (.aload_n 2, 1) := by decide +kernel
theorem dX9_read_44 : decode cX9_read 44 = .ok (.putfield 23, 3) := by decide +kernel
theorem dX9_read_47 : decode cX9_read 47 = .ok (.aload_n 0, 1) := by decide +kernel
theorem dX9_read_48 : decode cX9_read 48 = .ok (.getfield 19, 3) := by decide +kernel
theorem dX9_read_51 : decode cX9_read 51 = .ok (.getfield 88, 3) := by decide +kernel
theorem dX9_read_54 : decode cX9_read 54 = .ok (.ireturn, 1) := by decide +kernel
set_option maxRecDepth 20000 in
theorem ggX9_rule_X9_isWithin : GoodIn wsX9_rule wsX9_isWithin := goodIn_r _ [5] (by decide +kernel) (by decide +kernel)
set_option maxRecDepth 20000 in
theorem gX9_rule_X9_isWithin : GoodIn wsX9_rule (va_wsS RX9 91 yX9_isWithin wsX9_isWithin) := goodIn_app (goodIn_of _ (by decide +kernel)) ggX9_rule_X9_isWithin
set_option maxRecDepth 20000 in
theorem ggX9_rule_X2_hasRule : GoodIn wsX9_rule wsX2_hasRule := goodIn_r _ [10, 11, 3, 4, 5, 21, 22, 23, 24, 25, 26, 27, 28, 29, 30, 31, 32, 33, 34, 35, 36] (by decide +kernel) (by decide +kernel)
set_option maxRecDepth 20000 in
theorem gX9_rule_X2_hasRule : GoodIn wsX9_rule (wsV RX9 95 RX2 yX2_hasRule wsX2_hasRule) := goodIn_app (goodIn_of _ (by decide +kernel)) ggX9_rule_X2_hasRule
theorem dX9_rule_0 : decode cX9_rule 0 = .ok (.iload_n 1, 1) := by decide +kernel
theorem dX9_rule_1 : decode cX9_rule 1 = .ok (.iconst 0, 1) := by decide +kernel
theorem dX9_rule_2 : decode cX9_rule 2 = .ok (.bipush 25, 2) := by decide +kernel
theorem dX9_rule_4 : decode cX9_rule 4 = .ok (.invokestatic 91, 3) := by decide +kernel
theorem dX9_rule_7 : decode cX9_rule 7 = .ok (.ifCond .eq 12, 3) := by decide +kernel
theorem dX9_rule_10 : decode cX9_rule 10 = .ok (.iload_n 2, 1) := by decide +kernel
theorem dX9_rule_11 : decode cX9_rule 11 = .ok (.iconst 0, 1) := by decide +kernel
theorem dX9_rule_12 : decode cX9_rule 12 = .ok (.iconst 1, 1) := by decide +kernel
theorem dX9_rule_13 : decode cX9_rule 13 = .ok (.invokestatic 91, 3) := by decide +kernel
theorem dX9_rule_16 : decode cX9_rule 16 = .ok (.ifCond .ne 6, 3) := by decide +kernel
theorem dX9_rule_19 : decode cX9_rule 19 = .ok (.bipush (-2), 2) := by decide +kernel
theorem dX9_rule_21 : decode cX9_rule 21 = .ok (.ireturn, 1) := by decide +kernel
theorem dX9_rule_22 : decode cX9_rule 22 = .ok (.aload_n 0, 1) := by decide +kernel
theorem dX9_rule_23 : decode cX9_rule 23 = .ok (.getfield 19, 3) := by decide +kernel
theorem dX9_rule_26 : decode cX9_rule 26 = .ok (.iload_n 1, 1) := by decide +kernel
theorem dX9_rule_27 : decode cX9_rule 27 = .ok (.invokevirtual 95, 3) := by decide +kernel
theorem dX9_rule_30 : decode cX9_rule 30 = .ok (.ifCond .ne 5, 3) := by decide +kernel
theorem dX9_rule_33 : decode cX9_rule 33 = .ok (.iconst (-1), 1) := by decide +kernel
theorem dX9_rule_34 : decode cX9_rule 34 = .ok (.ireturn, 1) := by decide +kernel
theorem dX9_rule_35 : decode cX9_rule 35 = .ok (.iload_n 2, 1) := by decide +kernel
theorem dX9_rule_36 : decode cX9_rule 36 = .ok (.ifCond .ne 15, 3) := by decide +kernel
theorem dX9_rule_39 : decode cX9_rule 39 = .ok (.aload_n 0, 1) := by decide +kernel
theorem dX9_rule_40 : decode cX9_rule 40 = .ok (.getfield 19, 3) := by decide +kernel
theorem dX9_rule_43 : decode cX9_rule 43 = .ok (.getfield 99, 3) := by decide +kernel
theorem dX9_rule_46 : decode cX9_rule 46 = .ok (.iload_n 1, 1) := by decide +kernel
theorem dX9_rule_47 : decode cX9_rule 47 = .ok (.iaload, 1) := by decide +kernel
theorem dX9_rule_48 : decode cX9_rule 48 = .ok (.goto 12, 3) := by decide +kernel
theorem dX9_rule_51 : decode cX9_rule 51 = .ok (.aload_n 0, 1) := by decide +kernel
theorem dX9_rule_52 : decode cX9_rule 52 = .ok (.getfield 19, 3) := by decide +kernel
theorem dX9_rule_55 : decode cX9_rule 55 = .ok (.getfield 102, 3) := by decide +kernel
theorem dX9_rule_58 : decode cX9_rule 58 = .ok (.iload_n 1, 1) := by decide +kernel
theorem dX9_rule_59 : decode cX9_rule 59 = .ok (.iaload, 1) := by decide +kernel
theorem dX9_rule_60 : decode cX9_rule 60 = .ok (.ireturn, 1) := by decide +kernel
set_option maxRecDepth 20000 in
theorem ggX9_want_X9_isWithin : GoodIn wsX9_want wsX9_isWithin := goodIn_r _ [7] (by decide +kernel) (by decide +kernel)
set_option maxRecDepth 20000 in
theorem gX9_want_X9_isWithin : GoodIn wsX9_want (va_wsS RX9 91 yX9_isWithin wsX9_isWithin) := goodIn_app (goodIn_of _ (by decide +kernel)) ggX9_want_X9_isWithin
theorem dX9_want_0 : decode cX9_want 0 = .ok (.iload_n 1, 1) := by decide +kernel
theorem dX9_want_1 : decode cX9_want 1 = .ok (.iconst 0, 1) := by decide +kernel
theorem dX9_want_2 : decode cX9_want 2 = .ok (.bipush 6, 2) := by decide +kernel
theorem dX9_want_4 : decode cX9_want 4 = .ok (.invokestatic 91, 3) := by decide +kernel
theorem dX9_want_7 : decode cX9_want 7 = .ok (.ifCond .ne 6, 3) := by decide +kernel
theorem dX9_want_10 : decode cX9_want 10 = .ok (.bipush (-2), 2) := by decide +kernel
theorem dX9_want_12 : decode cX9_want 12 = .ok (.ireturn, 1) := by decide +kernel
theorem dX9_want_13 : decode cX9_want 13 = .ok (.iload_n 2, 1) := by decide +kernel
theorem dX9_want_14 : decode cX9_want 14 = .ok (.getstatic 105, 3) := by decide +kernel
theorem dX9_want_17 : decode cX9_want 17 = .ok (.iload_n 1, 1) := by decide +kernel
theorem dX9_want_18 : decode cX9_want 18 = .ok (.iaload, 1) := by decide +kernel
theorem dX9_want_19 : decode cX9_want 19 = .ok (.getstatic 108, 3) := by decide +kernel
theorem dX9_want_22 : decode cX9_want 22 = .ok (.iload_n 1, 1) := by decide +kernel
theorem dX9_want_23 : decode cX9_want 23 = .ok (.iaload, 1) := by decide +kernel
theorem dX9_want_24 : decode cX9_want 24 = .ok (.invokestatic 91, 3) := by decide +kernel
theorem dX9_want_27 : decode cX9_want 27 = .ok (.ifCond .ne 6, 3) := by decide +kernel
theorem dX9_want_30 : decode cX9_want 30 = .ok (.bipush (-2), 2) := by decide +kernel
theorem dX9_want_32 : decode cX9_want 32 = .ok (.ireturn, 1) := by decide +kernel
theorem dX9_want_33 : decode cX9_want 33 = .ok (.aload_n 0, 1) := by decide +kernel
theorem dX9_want_34 : decode cX9_want 34 = .ok (.getfield 26, 3) := by decide +kernel
theorem dX9_want_37 : decode cX9_want 37 = .ok (.iload_n 1, 1) := by decide +kernel
theorem dX9_want_38 : decode cX9_want 38 = .ok (.iaload, 1) := by decide +kernel
theorem dX9_want_39 : decode cX9_want 39 = .ok (.istore_n 3, 1) := by decide +kernel
theorem dX9_want_40 : decode cX9_want 40 = .ok (.aload_n 0, 1) := by decide +kernel
theorem dX9_want_41 : decode cX9_want 41 = .ok (.getfield 26, 3) := by decide +kernel
theorem dX9_want_44 : decode cX9_want 44 = .ok (.iload_n 1, 1) := by decide +kernel
theorem dX9_want_45 : decode cX9_want 45 = .ok (.iload_n 2, 1) := by decide +kernel
theorem dX9_want_46 : decode cX9_want 46 = .ok (.iastore, 1) := by decide +kernel
theorem dX9_want_47 : decode cX9_want 47 = .ok (.iload_n 3, 1) := by decide +kernel
theorem dX9_want_48 : decode cX9_want 48 = .ok (.ireturn, 1) := by decide +kernel
set_option maxRecDepth 20000 in
theorem ggX9_make_X9_isWithin : GoodIn wsX9_make wsX9_isWithin := goodIn_r _ [15] (by decide +kernel) (by decide +kernel)
set_option maxRecDepth 20000 in
theorem gX9_make_X9_isWithin : GoodIn wsX9_make (va_wsS RX9 91 yX9_isWithin wsX9_isWithin) := goodIn_app (goodIn_of _ (by decide +kernel)) ggX9_make_X9_isWithin
set_option maxRecDepth 20000 in
theorem ggX9_make_X1_init : GoodIn wsX9_make wsX1_init := goodIn_r _ [18, 19, 20, 21, 22, 175] (by decide +kernel) (by decide +kernel)
set_option maxRecDepth 20000 in
theorem gX9_make_X1_init : GoodIn wsX9_make (wsX1_init) := ggX9_make_X1_init
set_option maxRecDepth 20000 in
theorem ggX9_make_X3_init : GoodIn wsX9_make wsX3_init := goodIn_r _ [25, 26, 20, 21, 27, 28, 29, 30, 31, 32, 33, 34, 35, 36, 37, 38, 163, 164, 165, 166, 167, 168, 169, 170, 171, 172, 173, 174] (by decide +kernel) (by decide +kernel)
set_option maxRecDepth 20000 in
theorem gX9_make_X3_init : GoodIn wsX9_make (wsX3_init) := ggX9_make_X3_init
set_option maxRecDepth 20000 in
theorem ggX9_make_X3_unfold : GoodIn wsX9_make wsX3_unfold := goodIn_r _ [42, 35, 33, 28, 36, 27, 34, 29, 43, 44, 45, 46, 47, 48, 13, 14, 15, 49, 50, 51, 4, 52, 30, 31, 32, 53, 54, 55, 56, 57, 58, 59, 60, 61, 62, 63, 64, 65, 66, 37, 67, 68, 69, 10, 70, 71, 72, 73, 74, 75, 76, 22, 77, 78, 79, 80, 81, 82, 83, 84, 85, 86, 87, 88, 89, 90, 91, 38, 92, 93, 94, 95, 96, 97, 98, 99, 100, 101, 102, 103, 104, 105, 106, 107, 108, 109, 110, 111, 112, 113, 114, 115, 116, 117, 118, 119, 120, 121, 122, 123, 124, 125, 126, 127, 128, 129, 130, 131, 132, 133, 134, 135, 136, 163, 164, 165, 166, 167, 168, 169, 170, 171, 172, 173, 174, 147, 148, 149, 150, 151, 152, 153, 154, 155, 156, 157, 158, 159, 160, 161, 162, 176, 177, 178, 179, 180, 181, 182, 183, 184, 185, 186, 187, 188, 189, 190, 175] (by decide +kernel) (by decide +kernel)
set_option maxRecDepth 20000 in
theorem gX9_make_X3_unfold : GoodIn wsX9_make (wsV RX9 121 RX3 yX3_unfold wsX3_unfold) := goodIn_app (goodIn_of _ (by decide +kernel)) ggX9_make_X3_unfold
set_option maxRecDepth 20000 in
theorem ggX9_make_X8_shorten : GoodIn wsX9_make wsX8_shorten := goodIn_r _ [47, 48, 13, 14, 15, 184, 185, 186, 187, 188, 189, 190] (by decide +kernel) (by decide +kernel)
set_option maxRecDepth 20000 in
theorem gX9_make_X8_shorten : GoodIn wsX9_make (wsV RX9 127 RX8 yX8_shorten wsX8_shorten) := goodIn_app (goodIn_of _ (by decide +kernel)) ggX9_make_X8_shorten
theorem dX9_make_0 : decode cX9_make 0 = .ok (.iload_n 1, 1) := by decide +kernel
theorem dX9_make_1 : decode cX9_make 1 = .ok (.iconst 1, 1) := by decide +kernel
theorem dX9_make_2 : decode cX9_make 2 = .ok (.bipush 16, 2) := by decide +kernel
theorem dX9_make_4 : decode cX9_make 4 = .ok (.invokestatic 91, 3) := by decide +kernel
theorem dX9_make_7 : decode cX9_make 7 = .ok (.ifCond .ne 6, 3) := by decide +kernel
theorem dX9_make_10 : decode cX9_make 10 = .ok (.bipush (-2), 2) := by decide +kernel
theorem dX9_make_12 : decode cX9_make 12 = .ok (.ireturn, 1) := by decide +kernel
theorem dX9_make_13 : decode cX9_make 13 = .ok (.aload_n 0, 1) := by decide +kernel
theorem dX9_make_14 : decode cX9_make 14 = .ok (.getfield 19, 3) := by decide +kernel
theorem dX9_make_17 : decode cX9_make 17 = .ok (.getfield 88, 3) := by decide +kernel
theorem dX9_make_20 : decode cX9_make 20 = .ok (.ifCond .ne 6, 3) := by decide +kernel
theorem dX9_make_23 : decode cX9_make 23 = .ok (.bipush (-3), 2) := by decide +kernel
theorem dX9_make_25 : decode cX9_make 25 = .ok (.ireturn, 1) := by decide +kernel
theorem dX9_make_26 : decode cX9_make 26 = .ok (.new 111, 3) := by decide +kernel
theorem dX9_make_29 : decode cX9_make 29 = .ok (.dup, 1) := by decide +kernel
theorem dX9_make_30 : decode cX9_make 30 = .ok (.aload_n 0, 1) := by decide +kernel
theorem dX9_make_31 : decode cX9_make 31 = .ok (.getfield 19, 3) := by decide +kernel
theorem dX9_make_34 : decode cX9_make 34 = .ok (.aload_n 0, 1) := by decide +kernel
theorem dX9_make_35 : decode cX9_make 35 = .ok (.getfield 26, 3) := by decide +kernel
theorem dX9_make_38 : decode cX9_make 38 = .ok (.aload_n 0, 1) := by decide +kernel
theorem dX9_make_39 : decode cX9_make 39 = .ok (.getfield 33, 3) := by decide +kernel
theorem dX9_make_42 : decode cX9_make 42 = .ok (.aload_n 0, 1) := by decide +kernel
theorem dX9_make_43 : decode cX9_make 43 = .ok (.getfield 40, 3) := by decide +kernel
theorem dX9_make_46 : decode cX9_make 46 = .ok (.new 113, 3) := by decide +kernel
theorem dX9_make_49 : decode cX9_make 49 = .ok (.dup, 1) := by decide +kernel
theorem dX9_make_50 : decode cX9_make 50 = .ok (.lload_n 2, 1) := by decide +kernel
theorem dX9_make_51 : decode cX9_make 51 = .ok (.invokespecial 115, 3) := by decide +kernel
theorem dX9_make_54 : decode cX9_make 54 = .ok (.iload_n 1, 1) := by decide +kernel
theorem dX9_make_55 : decode cX9_make 55 = .ok (.bipush 16, 2) := by decide +kernel
theorem dX9_make_57 : decode cX9_make 57 = .ok (.imul, 1) := by decide +kernel
theorem dX9_make_58 : decode cX9_make 58 = .ok (.invokespecial 118, 3) := by decide +kernel
theorem dX9_make_61 : decode cX9_make 61 = .ok (.astore 4, 2) := by decide +kernel
theorem dX9_make_63 : decode cX9_make 63 = .ok (.aload 4, 2) := by decide +kernel
theorem dX9_make_65 : decode cX9_make 65 = .ok (.invokevirtual 121, 3) := by decide +kernel
theorem dX9_make_68 : decode cX9_make 68 = .ok (.istore 5, 2) := by decide +kernel
theorem dX9_make_70 : decode cX9_make 70 = .ok (.aload_n 0, 1) := by decide +kernel
theorem dX9_make_71 : decode cX9_make 71 = .ok (.aload 4, 2) := by decide +kernel
theorem dX9_make_73 : decode cX9_make 73 = .ok (.getfield 124, 3) := by decide +kernel
theorem dX9_make_76 : decode cX9_make 76 = .ok (.putfield 44, 3) := by decide +kernel
theorem dX9_make_79 : decode cX9_make 79 = .ok (.iload 5, 2) := by decide +kernel
theorem dX9_make_81 : decode cX9_make 81 = .ok (.ifCond .ge 11, 3) := by decide +kernel
theorem dX9_make_84 : decode cX9_make 84 = .ok (.aload_n 0, 1) := by decide +kernel
theorem dX9_make_85 : decode cX9_make 85 = .ok (.getfield 33, 3) := by decide +kernel
theorem dX9_make_88 : decode cX9_make 88 = .ok (.iconst 0, 1) := by decide +kernel
theorem dX9_make_89 : decode cX9_make 89 = .ok (.invokevirtual 127, 3) := by decide +kernel
theorem dX9_make_92 : decode cX9_make 92 = .ok (.iload 5, 2) := by decide +kernel
theorem dX9_make_94 : decode cX9_make 94 = .ok (.ireturn, 1) := by decide +kernel
theorem dX9_tries_0 : decode cX9_tries 0 = .ok (.aload_n 0, 1) := by decide +kernel
theorem dX9_tries_1 : decode cX9_tries 1 = .ok (.getfield 44, 3) := by decide +kernel
theorem dX9_tries_4 : decode cX9_tries 4 = .ok (.ireturn, 1) := by decide +kernel
set_option maxRecDepth 20000 in
theorem ggX9_item_X9_isWithin : GoodIn wsX9_item wsX9_isWithin := goodIn_r _ [5] (by decide +kernel) (by decide +kernel)
set_option maxRecDepth 20000 in
theorem gX9_item_X9_isWithin : GoodIn wsX9_item (va_wsS RX9 91 yX9_isWithin wsX9_isWithin) := goodIn_app (goodIn_of _ (by decide +kernel)) ggX9_item_X9_isWithin
theorem dX9_item_0 : decode cX9_item 0 = .ok (.iload_n 2, 1) := by decide +kernel
theorem dX9_item_1 : decode cX9_item 1 = .ok (.iconst 0, 1) := by decide +kernel
theorem dX9_item_2 : decode cX9_item 2 = .ok (.iconst 3, 1) := by decide +kernel
theorem dX9_item_3 : decode cX9_item 3 = .ok (.invokestatic 91, 3) := by decide +kernel
theorem dX9_item_6 : decode cX9_item 6 = .ok (.ifCond .ne 6, 3) := by decide +kernel
theorem dX9_item_9 : decode cX9_item 9 = .ok (.bipush (-2), 2) := by decide +kernel
theorem dX9_item_11 : decode cX9_item 11 = .ok (.ireturn, 1) := by decide +kernel
theorem dX9_item_12 : decode cX9_item 12 = .ok (.iload_n 1, 1) := by decide +kernel
theorem dX9_item_13 : decode cX9_item 13 = .ok (.iconst 0, 1) := by decide +kernel
theorem dX9_item_14 : decode cX9_item 14 = .ok (.aload_n 0, 1) := by decide +kernel
theorem dX9_item_15 : decode cX9_item 15 = .ok (.getfield 33, 3) := by decide +kernel
theorem dX9_item_18 : decode cX9_item 18 = .ok (.getfield 130, 3) := by decide +kernel
theorem dX9_item_21 : decode cX9_item 21 = .ok (.iconst 1, 1) := by decide +kernel
theorem dX9_item_22 : decode cX9_item 22 = .ok (.isub, 1) := by decide +kernel
theorem dX9_item_23 : decode cX9_item 23 = .ok (.invokestatic 91, 3) := by decide +kernel
theorem dX9_item_26 : decode cX9_item 26 = .ok (.ifCond .ne 5, 3) := by decide +kernel
theorem dX9_item_29 : decode cX9_item 29 = .ok (.iconst (-1), 1) := by decide +kernel
theorem dX9_item_30 : decode cX9_item 30 = .ok (.ireturn, 1) := by decide +kernel
theorem dX9_item_31 : decode cX9_item 31 = .ok (.iload_n 2, 1) := by decide +kernel
theorem dX9_item_32 : decode cX9_item 32 = .ok (.tableswitch 58 0 2 #[28, 38, 48], 28) := by decide +kernel
theorem dX9_item_60 : decode cX9_item 60 = .ok (.aload_n 0, 1) := by decide +kernel
theorem dX9_item_61 : decode cX9_item 61 = .ok (.getfield 33, 3) := by decide +kernel
theorem dX9_item_64 : decode cX9_item 64 = .ok (.getfield 133, 3) := by decide +kernel
theorem dX9_item_67 : decode cX9_item 67 = .ok (.iload_n 1, 1) := by decide +kernel
theorem dX9_item_68 : decode cX9_item 68 = .ok (.iaload, 1) := by decide +kernel
theorem dX9_item_69 : decode cX9_item 69 = .ok (.ireturn, 1) := by decide +kernel
theorem dX9_item_70 : decode cX9_item 70 = .ok (.aload_n 0, 1) := by decide +kernel
theorem dX9_item_71 : decode cX9_item 71 = .ok (.getfield 33, 3) := by decide +kernel
theorem dX9_item_74 : decode cX9_item 74 = .ok (.getfield 136, 3) := by decide +kernel
theorem dX9_item_77 : decode cX9_item 77 = .ok (.iload_n 1, 1) := by decide +kernel
theorem dX9_item_78 : decode cX9_item 78 = .ok (.iaload, 1) := by decide +kernel
theorem dX9_item_79 : decode cX9_item 79 = .ok (.ireturn, 1) := by decide +kernel
theorem dX9_item_80 : decode cX9_item 80 = .ok (.aload_n 0, 1) := by decide +kernel
theorem dX9_item_81 : decode cX9_item 81 = .ok (.getfield 33, 3) := by decide +kernel
theorem dX9_item_84 : decode cX9_item 84 = .ok (.getfield 139, 3) := by decide +kernel
theorem dX9_item_87 : decode cX9_item 87 = .ok (.iload_n 1, 1) := by decide +kernel
theorem dX9_item_88 : decode cX9_item 88 = .ok (.iaload, 1) := by decide +kernel
theorem dX9_item_89 : decode cX9_item 89 = .ok (.ireturn, 1) := by decide +kernel
theorem dX9_item_90 : decode cX9_item 90 = .ok (.aload_n 0, 1) := by decide +kernel
theorem dX9_item_91 : decode cX9_item 91 = .ok (.getfield 33, 3) := by decide +kernel
theorem dX9_item_94 : decode cX9_item 94 = .ok (.getfield 142, 3) := by decide +kernel
theorem dX9_item_97 : decode cX9_item 97 = .ok (.iload_n 1, 1) := by decide +kernel
theorem dX9_item_98 : decode cX9_item 98 = .ok (.iaload, 1) := by decide +kernel
theorem dX9_item_99 : decode cX9_item 99 = .ok (.ireturn, 1) := by decide +kernel
set_option maxRecDepth 20000 in
theorem ggX9_below_X9_isWithin : GoodIn wsX9_below wsX9_isWithin := goodIn_r _ [7] (by decide +kernel) (by decide +kernel)
set_option maxRecDepth 20000 in
theorem gX9_below_X9_isWithin : GoodIn wsX9_below (va_wsS RX9 91 yX9_isWithin wsX9_isWithin) := goodIn_app (goodIn_of _ (by decide +kernel)) ggX9_below_X9_isWithin
set_option maxRecDepth 20000 in
theorem ggX9_below_X1_init : GoodIn wsX9_below wsX1_init := goodIn_r _ [10, 11, 12, 13, 14, 28] (by decide +kernel) (by decide +kernel)
set_option maxRecDepth 20000 in
theorem gX9_below_X1_init : GoodIn wsX9_below (wsX1_init) := ggX9_below_X1_init
set_option maxRecDepth 20000 in
theorem ggX9_below_X1_drawUnder : GoodIn wsX9_below wsX1_drawUnder := goodIn_r _ [18, 19, 20, 21, 22, 23, 3, 24, 14, 25, 26, 27, 28] (by decide +kernel) (by decide +kernel)
set_option maxRecDepth 20000 in
theorem gX9_below_X1_drawUnder : GoodIn wsX9_below (wsV RX9 145 RX1 yX1_drawUnder wsX1_drawUnder) := goodIn_app (goodIn_of _ (by decide +kernel)) ggX9_below_X1_drawUnder
theorem dX9_below_0 : decode cX9_below 0 = .ok (.iload_n 3, 1) := by decide +kernel
theorem dX9_below_1 : decode cX9_below 1 = .ok (.iconst 1, 1) := by decide +kernel
theorem dX9_below_2 : decode cX9_below 2 = .ok (.if_icmp .lt 15, 3) := by decide +kernel
theorem dX9_below_5 : decode cX9_below 5 = .ok (.iload 4, 2) := by decide +kernel
theorem dX9_below_7 : decode cX9_below 7 = .ok (.iconst 0, 1) := by decide +kernel
theorem dX9_below_8 : decode cX9_below 8 = .ok (.sipush 1000, 3) := by decide +kernel
theorem dX9_below_11 : decode cX9_below 11 = .ok (.invokestatic 91, 3) := by decide +kernel
theorem dX9_below_14 : decode cX9_below 14 = .ok (.ifCond .ne 6, 3) := by decide +kernel
theorem dX9_below_17 : decode cX9_below 17 = .ok (.bipush (-2), 2) := by decide +kernel
theorem dX9_below_19 : decode cX9_below 19 = .ok (.ireturn, 1) := by decide +kernel
theorem dX9_below_20 : decode cX9_below 20 = .ok (.new 113, 3) := by decide +kernel
theorem dX9_below_23 : decode cX9_below 23 = .ok (.dup, 1) := by decide +kernel
theorem dX9_below_24 : decode cX9_below 24 = .ok (.lload_n 1, 1) := by decide +kernel
theorem dX9_below_25 : decode cX9_below 25 = .ok (.invokespecial 115, 3) := by decide +kernel
theorem dX9_below_28 : decode cX9_below 28 = .ok (.astore 5, 2) := by decide +kernel
theorem dX9_below_30 : decode cX9_below 30 = .ok (.iconst 0, 1) := by decide +kernel
theorem dX9_below_31 : decode cX9_below 31 = .ok (.istore 6, 2) := by decide +kernel
theorem dX9_below_33 : decode cX9_below 33 = .ok (.iload 6, 2) := by decide +kernel
theorem dX9_below_35 : decode cX9_below 35 = .ok (.iload 4, 2) := by decide +kernel
theorem dX9_below_37 : decode cX9_below 37 = .ok (.if_icmp .ge 16, 3) := by decide +kernel
theorem dX9_below_40 : decode cX9_below 40 = .ok (.aload 5, 2) := by decide +kernel
theorem dX9_below_42 : decode cX9_below 42 = .ok (.iload_n 3, 1) := by decide +kernel
theorem dX9_below_43 : decode cX9_below 43 = .ok (.invokevirtual 145, 3) := by decide +kernel
theorem dX9_below_46 : decode cX9_below 46 = .ok (.pop, 1) := by decide +kernel
theorem dX9_below_47 : decode cX9_below 47 = .ok (.iinc 6 1, 3) := by decide +kernel
theorem dX9_below_50 : decode cX9_below 50 = .ok (.goto (-17), 3) := by decide +kernel
theorem dX9_below_53 : decode cX9_below 53 = .ok (.aload 5, 2) := by decide +kernel
theorem dX9_below_55 : decode cX9_below 55 = .ok (.iload_n 3, 1) := by decide +kernel
theorem dX9_below_56 : decode cX9_below 56 = .ok (.invokevirtual 145, 3) := by decide +kernel
theorem dX9_below_59 : decode cX9_below 59 = .ok (.ireturn, 1) := by decide +kernel
set_option maxRecDepth 20000 in
theorem ggX9_corpus_X0_add : GoodIn wsX9_corpus wsX0_add := goodIn_r _ [6, 7, 8, 18, 19, 20, 21, 22] (by decide +kernel) (by decide +kernel)
set_option maxRecDepth 20000 in
theorem gX9_corpus_X0_add : GoodIn wsX9_corpus (wsV RX9 148 RX0 yX0_add wsX0_add) := goodIn_app (goodIn_of _ (by decide +kernel)) ggX9_corpus_X0_add
theorem dX9_corpus_0 : decode cX9_corpus 0 = .ok (.aload_n 0, 1) := by decide +kernel
theorem dX9_corpus_1 : decode cX9_corpus 1 = .ok (.getfield 51, 3) := by decide +kernel
theorem dX9_corpus_4 : decode cX9_corpus 4 = .ok (.iload_n 1, 1) := by decide +kernel
theorem dX9_corpus_5 : decode cX9_corpus 5 = .ok (.invokevirtual 148, 3) := by decide +kernel
theorem dX9_corpus_8 : decode cX9_corpus 8 = .ok (.ireturn, 1) := by decide +kernel
set_option maxRecDepth 20000 in
theorem ggX9_forget_X0_clear : GoodIn wsX9_forget wsX0_clear := goodIn_r _ [6, 7, 17, 18, 19, 20, 21] (by decide +kernel) (by decide +kernel)
set_option maxRecDepth 20000 in
theorem gX9_forget_X0_clear : GoodIn wsX9_forget (wsV RX9 151 RX0 yX0_clear wsX0_clear) := goodIn_app (goodIn_of _ (by decide +kernel)) ggX9_forget_X0_clear
theorem dX9_forget_0 : decode cX9_forget 0 = .ok (.aload_n 0, 1) := by decide +kernel
theorem dX9_forget_1 : decode cX9_forget 1 = .ok (.getfield 51, 3) := by decide +kernel
theorem dX9_forget_4 : decode cX9_forget 4 = .ok (.invokevirtual 151, 3) := by decide +kernel
theorem dX9_forget_7 : decode cX9_forget 7 = .ok (.ireturn, 1) := by decide +kernel
set_option maxRecDepth 20000 in
theorem ggX9_walk_X9_isWithin : GoodIn wsX9_walk wsX9_isWithin := goodIn_r _ [8] (by decide +kernel) (by decide +kernel)
set_option maxRecDepth 20000 in
theorem gX9_walk_X9_isWithin : GoodIn wsX9_walk (va_wsS RX9 91 yX9_isWithin wsX9_isWithin) := goodIn_app (goodIn_of _ (by decide +kernel)) ggX9_walk_X9_isWithin
set_option maxRecDepth 20000 in
theorem ggX9_walk_X1_init : GoodIn wsX9_walk wsX1_init := goodIn_r _ [11, 12, 13, 14, 15, 65] (by decide +kernel) (by decide +kernel)
set_option maxRecDepth 20000 in
theorem gX9_walk_X1_init : GoodIn wsX9_walk (wsX1_init) := ggX9_walk_X1_init
set_option maxRecDepth 20000 in
theorem ggX9_walk_X0_wander : GoodIn wsX9_walk wsX0_wander := goodIn_r _ [20, 21, 22, 23, 24, 25, 26, 27, 28, 29, 30, 31, 19, 32, 33, 34, 35, 36, 37, 38, 39, 40, 4, 41, 42, 43, 44, 45, 46, 47, 15, 48, 49, 50, 60, 61, 62, 63, 64, 65] (by decide +kernel) (by decide +kernel)
set_option maxRecDepth 20000 in
theorem gX9_walk_X0_wander : GoodIn wsX9_walk (wsV RX9 155 RX0 yX0_wander wsX0_wander) := goodIn_app (goodIn_of _ (by decide +kernel)) ggX9_walk_X0_wander
theorem dX9_walk_0 : decode cX9_walk 0 = .ok (.iload_n 1, 1) := by decide +kernel
theorem dX9_walk_1 : decode cX9_walk 1 = .ok (.iconst 1, 1) := by decide +kernel
theorem dX9_walk_2 : decode cX9_walk 2 = .ok (.iconst 3, 1) := by decide +kernel
theorem dX9_walk_3 : decode cX9_walk 3 = .ok (.invokestatic 91, 3) := by decide +kernel
theorem dX9_walk_6 : decode cX9_walk 6 = .ok (.ifCond .eq 14, 3) := by decide +kernel
theorem dX9_walk_9 : decode cX9_walk 9 = .ok (.iload_n 3, 1) := by decide +kernel
theorem dX9_walk_10 : decode cX9_walk 10 = .ok (.iconst 0, 1) := by decide +kernel
theorem dX9_walk_11 : decode cX9_walk 11 = .ok (.sipush 200, 3) := by decide +kernel
theorem dX9_walk_14 : decode cX9_walk 14 = .ok (.invokestatic 91, 3) := by decide +kernel
theorem dX9_walk_17 : decode cX9_walk 17 = .ok (.ifCond .ne 6, 3) := by decide +kernel
theorem dX9_walk_20 : decode cX9_walk 20 = .ok (.bipush (-2), 2) := by decide +kernel
theorem dX9_walk_22 : decode cX9_walk 22 = .ok (.ireturn, 1) := by decide +kernel
theorem dX9_walk_23 : decode cX9_walk 23 = .ok (.iload_n 2, 1) := by decide +kernel
theorem dX9_walk_24 : decode cX9_walk 24 = .ok (.iconst 0, 1) := by decide +kernel
theorem dX9_walk_25 : decode cX9_walk 25 = .ok (.aload_n 0, 1) := by decide +kernel
theorem dX9_walk_26 : decode cX9_walk 26 = .ok (.getfield 51, 3) := by decide +kernel
theorem dX9_walk_29 : decode cX9_walk 29 = .ok (.getfield 154, 3) := by decide +kernel
theorem dX9_walk_32 : decode cX9_walk 32 = .ok (.iload_n 1, 1) := by decide +kernel
theorem dX9_walk_33 : decode cX9_walk 33 = .ok (.isub, 1) := by decide +kernel
theorem dX9_walk_34 : decode cX9_walk 34 = .ok (.invokestatic 91, 3) := by decide +kernel
theorem dX9_walk_37 : decode cX9_walk 37 = .ok (.ifCond .ne 6, 3) := by decide +kernel
theorem dX9_walk_40 : decode cX9_walk 40 = .ok (.bipush (-3), 2) := by decide +kernel
theorem dX9_walk_42 : decode cX9_walk 42 = .ok (.ireturn, 1) := by decide +kernel
theorem dX9_walk_43 : decode cX9_walk 43 = .ok (.aload_n 0, 1) := by decide +kernel
theorem dX9_walk_44 : decode cX9_walk 44 = .ok (.getfield 51, 3) := by decide +kernel
theorem dX9_walk_47 : decode cX9_walk 47 = .ok (.iload_n 1, 1) := by decide +kernel
theorem dX9_walk_48 : decode cX9_walk 48 = .ok (.iload_n 2, 1) := by decide +kernel
theorem dX9_walk_49 : decode cX9_walk 49 = .ok (.iload_n 3, 1) := by decide +kernel
theorem dX9_walk_50 : decode cX9_walk 50 = .ok (.new 113, 3) := by decide +kernel
theorem dX9_walk_53 : decode cX9_walk 53 = .ok (.dup, 1) := by decide +kernel
theorem dX9_walk_54 : decode cX9_walk 54 = .ok (.lload 4, 2) := by decide +kernel
theorem dX9_walk_56 : decode cX9_walk 56 = .ok (.invokespecial 115, 3) := by decide +kernel
theorem dX9_walk_59 : decode cX9_walk 59 = .ok (.invokevirtual 155, 3) := by decide +kernel
theorem dX9_walk_62 : decode cX9_walk 62 = .ok (.ireturn, 1) := by decide +kernel
set_option maxRecDepth 20000 in
theorem ggX9_step_X9_isWithin : GoodIn wsX9_step wsX9_isWithin := goodIn_r _ [5] (by decide +kernel) (by decide +kernel)
set_option maxRecDepth 20000 in
theorem gX9_step_X9_isWithin : GoodIn wsX9_step (va_wsS RX9 91 yX9_isWithin wsX9_isWithin) := goodIn_app (goodIn_of _ (by decide +kernel)) ggX9_step_X9_isWithin
theorem dX9_step_0 : decode cX9_step 0 = .ok (.iload_n 1, 1) := by decide +kernel
theorem dX9_step_1 : decode cX9_step 1 = .ok (.iconst 0, 1) := by decide +kernel
theorem dX9_step_2 : decode cX9_step 2 = .ok (.aload_n 0, 1) := by decide +kernel
theorem dX9_step_3 : decode cX9_step 3 = .ok (.getfield 51, 3) := by decide +kernel
theorem dX9_step_6 : decode cX9_step 6 = .ok (.getfield 159, 3) := by decide +kernel
theorem dX9_step_9 : decode cX9_step 9 = .ok (.iconst 1, 1) := by decide +kernel
theorem dX9_step_10 : decode cX9_step 10 = .ok (.isub, 1) := by decide +kernel
theorem dX9_step_11 : decode cX9_step 11 = .ok (.invokestatic 91, 3) := by decide +kernel
theorem dX9_step_14 : decode cX9_step 14 = .ok (.ifCond .eq 15, 3) := by decide +kernel
theorem dX9_step_17 : decode cX9_step 17 = .ok (.aload_n 0, 1) := by decide +kernel
theorem dX9_step_18 : decode cX9_step 18 = .ok (.getfield 51, 3) := by decide +kernel
theorem dX9_step_21 : decode cX9_step 21 = .ok (.getfield 162, 3) := by decide +kernel
theorem dX9_step_24 : decode cX9_step 24 = .ok (.iload_n 1, 1) := by decide +kernel
theorem dX9_step_25 : decode cX9_step 25 = .ok (.iaload, 1) := by decide +kernel
theorem dX9_step_26 : decode cX9_step 26 = .ok (.goto 4, 3) := by decide +kernel
theorem dX9_step_29 : decode cX9_step 29 = .ok (.iconst 0, 1) := by decide +kernel
theorem dX9_step_30 : decode cX9_step 30 = .ok (.ireturn, 1) := by decide +kernel
theorem dX9_steps_0 : decode cX9_steps 0 = .ok (.aload_n 0, 1) := by decide +kernel
theorem dX9_steps_1 : decode cX9_steps 1 = .ok (.getfield 51, 3) := by decide +kernel
theorem dX9_steps_4 : decode cX9_steps 4 = .ok (.getfield 159, 3) := by decide +kernel
theorem dX9_steps_7 : decode cX9_steps 7 = .ok (.ireturn, 1) := by decide +kernel
set_option maxRecDepth 20000 in
theorem ggX9_stroke_X9_isWithin : GoodIn wsX9_stroke wsX9_isWithin := goodIn_r _ [5] (by decide +kernel) (by decide +kernel)
set_option maxRecDepth 20000 in
theorem gX9_stroke_X9_isWithin : GoodIn wsX9_stroke (va_wsS RX9 91 yX9_isWithin wsX9_isWithin) := goodIn_app (goodIn_of _ (by decide +kernel)) ggX9_stroke_X9_isWithin
theorem dX9_stroke_0 : decode cX9_stroke 0 = .ok (.iload_n 2, 1) := by decide +kernel
theorem dX9_stroke_1 : decode cX9_stroke 1 = .ok (.iconst 1, 1) := by decide +kernel
theorem dX9_stroke_2 : decode cX9_stroke 2 = .ok (.bipush 64, 2) := by decide +kernel
theorem dX9_stroke_4 : decode cX9_stroke 4 = .ok (.invokestatic 91, 3) := by decide +kernel
theorem dX9_stroke_7 : decode cX9_stroke 7 = .ok (.ifCond .eq 12, 3) := by decide +kernel
theorem dX9_stroke_10 : decode cX9_stroke 10 = .ok (.iload_n 1, 1) := by decide +kernel
theorem dX9_stroke_11 : decode cX9_stroke 11 = .ok (.iconst 0, 1) := by decide +kernel
theorem dX9_stroke_12 : decode cX9_stroke 12 = .ok (.iload_n 2, 1) := by decide +kernel
theorem dX9_stroke_13 : decode cX9_stroke 13 = .ok (.invokestatic 91, 3) := by decide +kernel
theorem dX9_stroke_16 : decode cX9_stroke 16 = .ok (.ifCond .ne 6, 3) := by decide +kernel
theorem dX9_stroke_19 : decode cX9_stroke 19 = .ok (.bipush (-2), 2) := by decide +kernel
theorem dX9_stroke_21 : decode cX9_stroke 21 = .ok (.ireturn, 1) := by decide +kernel
theorem dX9_stroke_22 : decode cX9_stroke 22 = .ok (.iload_n 3, 1) := by decide +kernel
theorem dX9_stroke_23 : decode cX9_stroke 23 = .ok (.iconst 0, 1) := by decide +kernel
theorem dX9_stroke_24 : decode cX9_stroke 24 = .ok (.iload_n 2, 1) := by decide +kernel
theorem dX9_stroke_25 : decode cX9_stroke 25 = .ok (.iconst 1, 1) := by decide +kernel
theorem dX9_stroke_26 : decode cX9_stroke 26 = .ok (.isub, 1) := by decide +kernel
theorem dX9_stroke_27 : decode cX9_stroke 27 = .ok (.invokestatic 91, 3) := by decide +kernel
theorem dX9_stroke_30 : decode cX9_stroke 30 = .ok (.ifCond .eq 14, 3) := by decide +kernel
theorem dX9_stroke_33 : decode cX9_stroke 33 = .ok (.iload 4, 2) := by decide +kernel
theorem dX9_stroke_35 : decode cX9_stroke 35 = .ok (.iconst 0, 1) := by decide +kernel
theorem dX9_stroke_36 : decode cX9_stroke 36 = .ok (.ldc 165, 2) := by decide +kernel
theorem dX9_stroke_38 : decode cX9_stroke 38 = .ok (.invokestatic 91, 3) := by decide +kernel
theorem dX9_stroke_41 : decode cX9_stroke 41 = .ok (.ifCond .ne 6, 3) := by decide +kernel
theorem dX9_stroke_44 : decode cX9_stroke 44 = .ok (.bipush (-2), 2) := by decide +kernel
theorem dX9_stroke_46 : decode cX9_stroke 46 = .ok (.ireturn, 1) := by decide +kernel
theorem dX9_stroke_47 : decode cX9_stroke 47 = .ok (.iload 4, 2) := by decide +kernel
theorem dX9_stroke_49 : decode cX9_stroke 49 = .ok (.iload_n 3, 1) := by decide +kernel
theorem dX9_stroke_50 : decode cX9_stroke 50 = .ok (.iadd, 1) := by decide +kernel
theorem dX9_stroke_51 : decode cX9_stroke 51 = .ok (.iload_n 1, 1) := by decide +kernel
theorem dX9_stroke_52 : decode cX9_stroke 52 = .ok (.imul, 1) := by decide +kernel
theorem dX9_stroke_53 : decode cX9_stroke 53 = .ok (.iload_n 2, 1) := by decide +kernel
theorem dX9_stroke_54 : decode cX9_stroke 54 = .ok (.irem, 1) := by decide +kernel
theorem dX9_stroke_55 : decode cX9_stroke 55 = .ok (.iload_n 1, 1) := by decide +kernel
theorem dX9_stroke_56 : decode cX9_stroke 56 = .ok (.if_icmp .ge 7, 3) := by decide +kernel
theorem dX9_stroke_59 : decode cX9_stroke 59 = .ok (.iconst 1, 1) := by decide +kernel
theorem dX9_stroke_60 : decode cX9_stroke 60 = .ok (.goto 4, 3) := by decide +kernel
theorem dX9_stroke_63 : decode cX9_stroke 63 = .ok (.iconst 0, 1) := by decide +kernel
theorem dX9_stroke_64 : decode cX9_stroke 64 = .ok (.ireturn, 1) := by decide +kernel
set_option maxRecDepth 20000 in
theorem ggX9_turned_X9_isWithin : GoodIn wsX9_turned wsX9_isWithin := goodIn_r _ [5] (by decide +kernel) (by decide +kernel)
set_option maxRecDepth 20000 in
theorem gX9_turned_X9_isWithin : GoodIn wsX9_turned (va_wsS RX9 91 yX9_isWithin wsX9_isWithin) := goodIn_app (goodIn_of _ (by decide +kernel)) ggX9_turned_X9_isWithin
theorem dX9_turned_0 : decode cX9_turned 0 = .ok (.iload 5, 2) := by decide +kernel
theorem dX9_turned_2 : decode cX9_turned 2 = .ok (.iconst 1, 1) := by decide +kernel
theorem dX9_turned_3 : decode cX9_turned 3 = .ok (.bipush 64, 2) := by decide +kernel
theorem dX9_turned_5 : decode cX9_turned 5 = .ok (.invokestatic 91, 3) := by decide +kernel
theorem dX9_turned_8 : decode cX9_turned 8 = .ok (.ifCond .ne 6, 3) := by decide +kernel
theorem dX9_turned_11 : decode cX9_turned 11 = .ok (.bipush (-2), 2) := by decide +kernel
theorem dX9_turned_13 : decode cX9_turned 13 = .ok (.ireturn, 1) := by decide +kernel
theorem dX9_turned_14 : decode cX9_turned 14 = .ok (.ldc2_w 166, 3) := by decide +kernel
theorem dX9_turned_17 : decode cX9_turned 17 = .ok (.bipush 64, 2) := by decide +kernel
theorem dX9_turned_19 : decode cX9_turned 19 = .ok (.iload 5, 2) := by decide +kernel
theorem dX9_turned_21 : decode cX9_turned 21 = .ok (.isub, 1) := by decide +kernel
theorem dX9_turned_22 : decode cX9_turned 22 = .ok (.lushr, 1) := by decide +kernel
theorem dX9_turned_23 : decode cX9_turned 23 = .ok (.lstore 6, 2) := by decide +kernel
theorem dX9_turned_25 : decode cX9_turned 25 = .ok (.lload_n 1, 1) := by decide +kernel
theorem dX9_turned_26 : decode cX9_turned 26 = .ok (.lload 6, 2) := by decide +kernel
theorem dX9_turned_28 : decode cX9_turned 28 = .ok (.land, 1) := by decide +kernel
theorem dX9_turned_29 : decode cX9_turned 29 = .ok (.lstore 8, 2) := by decide +kernel
theorem dX9_turned_31 : decode cX9_turned 31 = .ok (.lload_n 3, 1) := by decide +kernel
theorem dX9_turned_32 : decode cX9_turned 32 = .ok (.lload 6, 2) := by decide +kernel
theorem dX9_turned_34 : decode cX9_turned 34 = .ok (.land, 1) := by decide +kernel
theorem dX9_turned_35 : decode cX9_turned 35 = .ok (.lstore 10, 2) := by decide +kernel
theorem dX9_turned_37 : decode cX9_turned 37 = .ok (.lload 8, 2) := by decide +kernel
theorem dX9_turned_39 : decode cX9_turned 39 = .ok (.lload 10, 2) := by decide +kernel
theorem dX9_turned_41 : decode cX9_turned 41 = .ok (.lcmp, 1) := by decide +kernel
theorem dX9_turned_42 : decode cX9_turned 42 = .ok (.ifCond .ne 5, 3) := by decide +kernel
theorem dX9_turned_45 : decode cX9_turned 45 = .ok (.iconst 0, 1) := by decide +kernel
theorem dX9_turned_46 : decode cX9_turned 46 = .ok (.ireturn, 1) := by decide +kernel
theorem dX9_turned_47 : decode cX9_turned 47 = .ok (.iconst 1, 1) := by decide +kernel
theorem dX9_turned_48 : decode cX9_turned 48 = .ok (.istore 12, 2) := by decide +kernel
theorem dX9_turned_50 : decode cX9_turned 50 = .ok (.iload 12, 2) := by decide +kernel
theorem dX9_turned_52 : decode cX9_turned 52 = .ok (.iload 5, 2) := by decide +kernel
theorem dX9_turned_54 : decode cX9_turned 54 = .ok (.if_icmp .ge 35, 3) := by decide +kernel
theorem dX9_turned_57 : decode cX9_turned 57 = .ok (.lload 8, 2) := by decide +kernel
theorem dX9_turned_59 : decode cX9_turned 59 = .ok (.iload 12, 2) := by decide +kernel
theorem dX9_turned_61 : decode cX9_turned 61 = .ok (.lushr, 1) := by decide +kernel
theorem dX9_turned_62 : decode cX9_turned 62 = .ok (.lload 8, 2) := by decide +kernel
theorem dX9_turned_64 : decode cX9_turned 64 = .ok (.iload 5, 2) := by decide +kernel
theorem dX9_turned_66 : decode cX9_turned 66 = .ok (.iload 12, 2) := by decide +kernel
theorem dX9_turned_68 : decode cX9_turned 68 = .ok (.isub, 1) := by decide +kernel
theorem dX9_turned_69 : decode cX9_turned 69 = .ok (.lshl, 1) := by decide +kernel
theorem dX9_turned_70 : decode cX9_turned 70 = .ok (.lor, 1) := by decide +kernel
theorem dX9_turned_71 : decode cX9_turned 71 = .ok (.lload 6, 2) := by decide +kernel
theorem dX9_turned_73 : decode cX9_turned 73 = .ok (.land, 1) := by decide +kernel
theorem dX9_turned_74 : decode cX9_turned 74 = .ok (.lload 10, 2) := by decide +kernel
theorem dX9_turned_76 : decode cX9_turned 76 = .ok (.lcmp, 1) := by decide +kernel
theorem dX9_turned_77 : decode cX9_turned 77 = .ok (.ifCond .ne 6, 3) := by decide +kernel
theorem dX9_turned_80 : decode cX9_turned 80 = .ok (.iload 12, 2) := by decide +kernel
theorem dX9_turned_82 : decode cX9_turned 82 = .ok (.ireturn, 1) := by decide +kernel
theorem dX9_turned_83 : decode cX9_turned 83 = .ok (.iinc 12 1, 3) := by decide +kernel
theorem dX9_turned_86 : decode cX9_turned 86 = .ok (.goto (-36), 3) := by decide +kernel
theorem dX9_turned_89 : decode cX9_turned 89 = .ok (.iconst (-1), 1) := by decide +kernel
theorem dX9_turned_90 : decode cX9_turned 90 = .ok (.ireturn, 1) := by decide +kernel
set_option maxRecDepth 20000 in
theorem ggX9_place_X9_isWithin : GoodIn wsX9_place wsX9_isWithin := goodIn_r _ [5] (by decide +kernel) (by decide +kernel)
set_option maxRecDepth 20000 in
theorem gX9_place_X9_isWithin : GoodIn wsX9_place (va_wsS RX9 91 yX9_isWithin wsX9_isWithin) := goodIn_app (goodIn_of _ (by decide +kernel)) ggX9_place_X9_isWithin
set_option maxRecDepth 20000 in
theorem ggX9_place_X7_swapIn : GoodIn wsX9_place wsX7_swapIn := goodIn_r _ [10, 11, 21] (by decide +kernel) (by decide +kernel)
set_option maxRecDepth 20000 in
theorem gX9_place_X7_swapIn : GoodIn wsX9_place (wsV RX9 168 RX7 yX7_swapIn wsX7_swapIn) := goodIn_app (goodIn_of _ (by decide +kernel)) ggX9_place_X7_swapIn
theorem dX9_place_0 : decode cX9_place 0 = .ok (.iload_n 1, 1) := by decide +kernel
theorem dX9_place_1 : decode cX9_place 1 = .ok (.iconst 0, 1) := by decide +kernel
theorem dX9_place_2 : decode cX9_place 2 = .ok (.bipush 11, 2) := by decide +kernel
theorem dX9_place_4 : decode cX9_place 4 = .ok (.invokestatic 91, 3) := by decide +kernel
theorem dX9_place_7 : decode cX9_place 7 = .ok (.ifCond .eq 13, 3) := by decide +kernel
theorem dX9_place_10 : decode cX9_place 10 = .ok (.iload_n 2, 1) := by decide +kernel
theorem dX9_place_11 : decode cX9_place 11 = .ok (.iconst 0, 1) := by decide +kernel
theorem dX9_place_12 : decode cX9_place 12 = .ok (.bipush 11, 2) := by decide +kernel
theorem dX9_place_14 : decode cX9_place 14 = .ok (.invokestatic 91, 3) := by decide +kernel
theorem dX9_place_17 : decode cX9_place 17 = .ok (.ifCond .ne 6, 3) := by decide +kernel
theorem dX9_place_20 : decode cX9_place 20 = .ok (.bipush (-2), 2) := by decide +kernel
theorem dX9_place_22 : decode cX9_place 22 = .ok (.ireturn, 1) := by decide +kernel
theorem dX9_place_23 : decode cX9_place 23 = .ok (.aload_n 0, 1) := by decide +kernel
theorem dX9_place_24 : decode cX9_place 24 = .ok (.getfield 58, 3) := by decide +kernel
theorem dX9_place_27 : decode cX9_place 27 = .ok (.iload_n 1, 1) := by decide +kernel
theorem dX9_place_28 : decode cX9_place 28 = .ok (.iload_n 2, 1) := by decide +kernel
theorem dX9_place_29 : decode cX9_place 29 = .ok (.invokevirtual 168, 3) := by decide +kernel
theorem dX9_place_32 : decode cX9_place 32 = .ok (.iconst 1, 1) := by decide +kernel
theorem dX9_place_33 : decode cX9_place 33 = .ok (.ireturn, 1) := by decide +kernel
set_option maxRecDepth 20000 in
theorem ggX9_form_X9_isWithin : GoodIn wsX9_form wsX9_isWithin := goodIn_r _ [5] (by decide +kernel) (by decide +kernel)
set_option maxRecDepth 20000 in
theorem gX9_form_X9_isWithin : GoodIn wsX9_form (va_wsS RX9 91 yX9_isWithin wsX9_isWithin) := goodIn_app (goodIn_of _ (by decide +kernel)) ggX9_form_X9_isWithin
set_option maxRecDepth 20000 in
theorem ggX9_form_X7_numberOf : GoodIn wsX9_form wsX7_numberOf := goodIn_r _ [10, 11, 12, 13, 14, 15, 25] (by decide +kernel) (by decide +kernel)
set_option maxRecDepth 20000 in
theorem gX9_form_X7_numberOf : GoodIn wsX9_form (wsV RX9 172 RX7 yX7_numberOf wsX7_numberOf) := goodIn_app (goodIn_of _ (by decide +kernel)) ggX9_form_X7_numberOf
theorem dX9_form_0 : decode cX9_form 0 = .ok (.iload_n 1, 1) := by decide +kernel
theorem dX9_form_1 : decode cX9_form 1 = .ok (.iconst 0, 1) := by decide +kernel
theorem dX9_form_2 : decode cX9_form 2 = .ok (.iconst 3, 1) := by decide +kernel
theorem dX9_form_3 : decode cX9_form 3 = .ok (.invokestatic 91, 3) := by decide +kernel
theorem dX9_form_6 : decode cX9_form 6 = .ok (.ifCond .eq 13, 3) := by decide +kernel
theorem dX9_form_9 : decode cX9_form 9 = .ok (.iload_n 2, 1) := by decide +kernel
theorem dX9_form_10 : decode cX9_form 10 = .ok (.iconst 0, 1) := by decide +kernel
theorem dX9_form_11 : decode cX9_form 11 = .ok (.bipush 11, 2) := by decide +kernel
theorem dX9_form_13 : decode cX9_form 13 = .ok (.invokestatic 91, 3) := by decide +kernel
theorem dX9_form_16 : decode cX9_form 16 = .ok (.ifCond .ne 6, 3) := by decide +kernel
theorem dX9_form_19 : decode cX9_form 19 = .ok (.bipush (-2), 2) := by decide +kernel
theorem dX9_form_21 : decode cX9_form 21 = .ok (.ireturn, 1) := by decide +kernel
theorem dX9_form_22 : decode cX9_form 22 = .ok (.iload_n 3, 1) := by decide +kernel
theorem dX9_form_23 : decode cX9_form 23 = .ok (.iconst 0, 1) := by decide +kernel
theorem dX9_form_24 : decode cX9_form 24 = .ok (.bipush 11, 2) := by decide +kernel
theorem dX9_form_26 : decode cX9_form 26 = .ok (.invokestatic 91, 3) := by decide +kernel
theorem dX9_form_29 : decode cX9_form 29 = .ok (.ifCond .ne 6, 3) := by decide +kernel
theorem dX9_form_32 : decode cX9_form 32 = .ok (.bipush (-2), 2) := by decide +kernel
theorem dX9_form_34 : decode cX9_form 34 = .ok (.ireturn, 1) := by decide +kernel
theorem dX9_form_35 : decode cX9_form 35 = .ok (.aload_n 0, 1) := by decide +kernel
theorem dX9_form_36 : decode cX9_form 36 = .ok (.getfield 58, 3) := by decide +kernel
theorem dX9_form_39 : decode cX9_form 39 = .ok (.iload_n 1, 1) := by decide +kernel
theorem dX9_form_40 : decode cX9_form 40 = .ok (.iload_n 2, 1) := by decide +kernel
theorem dX9_form_41 : decode cX9_form 41 = .ok (.iload_n 3, 1) := by decide +kernel
theorem dX9_form_42 : decode cX9_form 42 = .ok (.invokevirtual 172, 3) := by decide +kernel
theorem dX9_form_45 : decode cX9_form 45 = .ok (.ireturn, 1) := by decide +kernel
set_option maxRecDepth 20000 in
theorem ggX9_doubled_X7_countDoubled : GoodIn wsX9_doubled wsX7_countDoubled := goodIn_r _ [6, 7, 8, 9, 5, 10, 11, 12, 13, 14, 15, 16, 17, 18, 19, 20, 21, 22, 23, 33] (by decide +kernel) (by decide +kernel)
set_option maxRecDepth 20000 in
theorem gX9_doubled_X7_countDoubled : GoodIn wsX9_doubled (wsV RX9 176 RX7 yX7_countDoubled wsX7_countDoubled) := goodIn_app (goodIn_of _ (by decide +kernel)) ggX9_doubled_X7_countDoubled
theorem dX9_doubled_0 : decode cX9_doubled 0 = .ok (.aload_n 0, 1) := by decide +kernel
theorem dX9_doubled_1 : decode cX9_doubled 1 = .ok (.getfield 58, 3) := by decide +kernel
theorem dX9_doubled_4 : decode cX9_doubled 4 = .ok (.invokevirtual 176, 3) := by decide +kernel
theorem dX9_doubled_7 : decode cX9_doubled 7 = .ok (.ireturn, 1) := by decide +kernel
theorem dX9_told_0 : decode cX9_told 0 = .ok (.iload_n 1, 1) := by decide +kernel
theorem dX9_told_1 : decode cX9_told 1 = .ok (.tableswitch 87 0 5 #[39, 47, 55, 63, 71, 79], 39) := by decide +kernel
theorem dX9_told_40 : decode cX9_told 40 = .ok (.aload_n 0, 1) := by decide +kernel
theorem dX9_told_41 : decode cX9_told 41 = .ok (.getfield 12, 3) := by decide +kernel
theorem dX9_told_44 : decode cX9_told 44 = .ok (.getfield 179, 3) := by decide +kernel
theorem dX9_told_47 : decode cX9_told 47 = .ok (.ireturn, 1) := by decide +kernel
theorem dX9_told_48 : decode cX9_told 48 = .ok (.aload_n 0, 1) := by decide +kernel
theorem dX9_told_49 : decode cX9_told 49 = .ok (.getfield 19, 3) := by decide +kernel
theorem dX9_told_52 : decode cX9_told 52 = .ok (.getfield 88, 3) := by decide +kernel
theorem dX9_told_55 : decode cX9_told 55 = .ok (.ireturn, 1) := by decide +kernel
theorem dX9_told_56 : decode cX9_told 56 = .ok (.aload_n 0, 1) := by decide +kernel
theorem dX9_told_57 : decode cX9_told 57 = .ok (.getfield 33, 3) := by decide +kernel
theorem dX9_told_60 : decode cX9_told 60 = .ok (.getfield 130, 3) := by decide +kernel
theorem dX9_told_63 : decode cX9_told 63 = .ok (.ireturn, 1) := by decide +kernel
theorem dX9_told_64 : decode cX9_told 64 = .ok (.aload_n 0, 1) := by decide +kernel
theorem dX9_told_65 : decode cX9_told 65 = .ok (.getfield 51, 3) := by decide +kernel
theorem dX9_told_68 : decode cX9_told 68 = .ok (.getfield 154, 3) := by decide +kernel
theorem dX9_told_71 : decode cX9_told 71 = .ok (.ireturn, 1) := by decide +kernel
theorem dX9_told_72 : decode cX9_told 72 = .ok (.aload_n 0, 1) := by decide +kernel
theorem dX9_told_73 : decode cX9_told 73 = .ok (.getfield 19, 3) := by decide +kernel
theorem dX9_told_76 : decode cX9_told 76 = .ok (.getfield 181, 3) := by decide +kernel
theorem dX9_told_79 : decode cX9_told 79 = .ok (.ireturn, 1) := by decide +kernel
theorem dX9_told_80 : decode cX9_told 80 = .ok (.aload_n 0, 1) := by decide +kernel
theorem dX9_told_81 : decode cX9_told 81 = .ok (.getfield 19, 3) := by decide +kernel
theorem dX9_told_84 : decode cX9_told 84 = .ok (.getfield 184, 3) := by decide +kernel
theorem dX9_told_87 : decode cX9_told 87 = .ok (.ireturn, 1) := by decide +kernel
theorem dX9_told_88 : decode cX9_told 88 = .ok (.bipush (-2), 2) := by decide +kernel
theorem dX9_told_90 : decode cX9_told 90 = .ok (.ireturn, 1) := by decide +kernel
theorem dX9_isWithin_0 : decode cX9_isWithin 0 = .ok (.iload_n 0, 1) := by decide +kernel
theorem dX9_isWithin_1 : decode cX9_isWithin 1 = .ok (.iload_n 1, 1) := by decide +kernel
theorem dX9_isWithin_2 : decode cX9_isWithin 2 = .ok (.if_icmp .lt 12, 3) := by decide +kernel
theorem dX9_isWithin_5 : decode cX9_isWithin 5 = .ok (.iload_n 0, 1) := by decide +kernel
theorem dX9_isWithin_6 : decode cX9_isWithin 6 = .ok (.iload_n 2, 1) := by decide +kernel
theorem dX9_isWithin_7 : decode cX9_isWithin 7 = .ok (.if_icmp .gt 7, 3) := by decide +kernel
theorem dX9_isWithin_10 : decode cX9_isWithin 10 = .ok (.iconst 1, 1) := by decide +kernel
theorem dX9_isWithin_11 : decode cX9_isWithin 11 = .ok (.goto 4, 3) := by decide +kernel
theorem dX9_isWithin_14 : decode cX9_isWithin 14 = .ok (.iconst 0, 1) := by decide +kernel
theorem dX9_isWithin_15 : decode cX9_isWithin 15 = .ok (.ireturn, 1) := by decide +kernel
theorem dX9_isLetter_0 : decode cX9_isLetter 0 = .ok (.iload_n 0, 1) := by decide +kernel
theorem dX9_isLetter_1 : decode cX9_isLetter 1 = .ok (.bipush 65, 2) := by decide +kernel
theorem dX9_isLetter_3 : decode cX9_isLetter 3 = .ok (.if_icmp .lt 13, 3) := by decide +kernel
theorem dX9_isLetter_6 : decode cX9_isLetter 6 = .ok (.iload_n 0, 1) := by decide +kernel
theorem dX9_isLetter_7 : decode cX9_isLetter 7 = .ok (.bipush 90, 2) := by decide +kernel
theorem dX9_isLetter_9 : decode cX9_isLetter 9 = .ok (.if_icmp .gt 7, 3) := by decide +kernel
theorem dX9_isLetter_12 : decode cX9_isLetter 12 = .ok (.iconst 1, 1) := by decide +kernel
theorem dX9_isLetter_13 : decode cX9_isLetter 13 = .ok (.goto 4, 3) := by decide +kernel
theorem dX9_isLetter_16 : decode cX9_isLetter 16 = .ok (.iconst 0, 1) := by decide +kernel
theorem dX9_isLetter_17 : decode cX9_isLetter 17 = .ok (.ireturn, 1) := by decide +kernel
theorem dX9_isDigit_0 : decode cX9_isDigit 0 = .ok (.iload_n 0, 1) := by decide +kernel
theorem dX9_isDigit_1 : decode cX9_isDigit 1 = .ok (.bipush 48, 2) := by decide +kernel
theorem dX9_isDigit_3 : decode cX9_isDigit 3 = .ok (.if_icmp .lt 13, 3) := by decide +kernel
theorem dX9_isDigit_6 : decode cX9_isDigit 6 = .ok (.iload_n 0, 1) := by decide +kernel
theorem dX9_isDigit_7 : decode cX9_isDigit 7 = .ok (.bipush 57, 2) := by decide +kernel
theorem dX9_isDigit_9 : decode cX9_isDigit 9 = .ok (.if_icmp .gt 7, 3) := by decide +kernel
theorem dX9_isDigit_12 : decode cX9_isDigit 12 = .ok (.iconst 1, 1) := by decide +kernel
theorem dX9_isDigit_13 : decode cX9_isDigit 13 = .ok (.goto 4, 3) := by decide +kernel
theorem dX9_isDigit_16 : decode cX9_isDigit 16 = .ok (.iconst 0, 1) := by decide +kernel
theorem dX9_isDigit_17 : decode cX9_isDigit 17 = .ok (.ireturn, 1) := by decide +kernel
theorem dX9_isDegree_0 : decode cX9_isDegree 0 = .ok (.iload_n 0, 1) := by decide +kernel
theorem dX9_isDegree_1 : decode cX9_isDegree 1 = .ok (.bipush 48, 2) := by decide +kernel
theorem dX9_isDegree_3 : decode cX9_isDegree 3 = .ok (.if_icmp .lt 13, 3) := by decide +kernel
theorem dX9_isDegree_6 : decode cX9_isDegree 6 = .ok (.iload_n 0, 1) := by decide +kernel
theorem dX9_isDegree_7 : decode cX9_isDegree 7 = .ok (.bipush 54, 2) := by decide +kernel
theorem dX9_isDegree_9 : decode cX9_isDegree 9 = .ok (.if_icmp .gt 7, 3) := by decide +kernel
theorem dX9_isDegree_12 : decode cX9_isDegree 12 = .ok (.iconst 1, 1) := by decide +kernel
theorem dX9_isDegree_13 : decode cX9_isDegree 13 = .ok (.goto 4, 3) := by decide +kernel
theorem dX9_isDegree_16 : decode cX9_isDegree 16 = .ok (.iconst 0, 1) := by decide +kernel
theorem dX9_isDegree_17 : decode cX9_isDegree 17 = .ok (.ireturn, 1) := by decide +kernel
theorem dX9_isBlank_0 : decode cX9_isBlank 0 = .ok (.iload_n 0, 1) := by decide +kernel
theorem dX9_isBlank_1 : decode cX9_isBlank 1 = .ok (.bipush 32, 2) := by decide +kernel
theorem dX9_isBlank_3 : decode cX9_isBlank 3 = .ok (.if_icmp .eq 9, 3) := by decide +kernel
theorem dX9_isBlank_6 : decode cX9_isBlank 6 = .ok (.iload_n 0, 1) := by decide +kernel
theorem dX9_isBlank_7 : decode cX9_isBlank 7 = .ok (.bipush 10, 2) := by decide +kernel
theorem dX9_isBlank_9 : decode cX9_isBlank 9 = .ok (.if_icmp .ne 7, 3) := by decide +kernel
theorem dX9_isBlank_12 : decode cX9_isBlank 12 = .ok (.iconst 1, 1) := by decide +kernel
theorem dX9_isBlank_13 : decode cX9_isBlank 13 = .ok (.goto 4, 3) := by decide +kernel
theorem dX9_isBlank_16 : decode cX9_isBlank 16 = .ok (.iconst 0, 1) := by decide +kernel
theorem dX9_isBlank_17 : decode cX9_isBlank 17 = .ok (.ireturn, 1) := by decide +kernel
theorem dX10_init_0 : decode cX10_init 0 = .ok (.aload_n 0, 1) := by decide +kernel
theorem dX10_init_1 : decode cX10_init 1 = .ok (.invokespecial 1, 3) := by decide +kernel
theorem dX10_init_4 : decode cX10_init 4 = .ok (.aload_n 0, 1) := by decide +kernel
theorem dX10_init_5 : decode cX10_init 5 = .ok (.bipush 7, 2) := by decide +kernel
theorem dX10_init_7 : decode cX10_init 7 = .ok (.newarray .int, 2) := by decide +kernel
theorem dX10_init_9 : decode cX10_init 9 = .ok (.dup, 1) := by decide +kernel
theorem dX10_init_10 : decode cX10_init 10 = .ok (.iconst 0, 1) := by decide +kernel
theorem dX10_init_11 : decode cX10_init 11 = .ok (.iconst 0, 1) := by decide +kernel
theorem dX10_init_12 : decode cX10_init 12 = .ok (.iastore, 1) := by decide +kernel
theorem dX10_init_13 : decode cX10_init 13 = .ok (.dup, 1) := by decide +kernel
theorem dX10_init_14 : decode cX10_init 14 = .ok (.iconst 1, 1) := by decide +kernel
theorem dX10_init_15 : decode cX10_init 15 = .ok (.iconst 2, 1) := by decide +kernel
theorem dX10_init_16 : decode cX10_init 16 = .ok (.iastore, 1) := by decide +kernel
theorem dX10_init_17 : decode cX10_init 17 = .ok (.dup, 1) := by decide +kernel
theorem dX10_init_18 : decode cX10_init 18 = .ok (.iconst 2, 1) := by decide +kernel
theorem dX10_init_19 : decode cX10_init 19 = .ok (.iconst 4, 1) := by decide +kernel
theorem dX10_init_20 : decode cX10_init 20 = .ok (.iastore, 1) := by decide +kernel
theorem dX10_init_21 : decode cX10_init 21 = .ok (.dup, 1) := by decide +kernel
theorem dX10_init_22 : decode cX10_init 22 = .ok (.iconst 3, 1) := by decide +kernel
theorem dX10_init_23 : decode cX10_init 23 = .ok (.iconst 5, 1) := by decide +kernel
theorem dX10_init_24 : decode cX10_init 24 = .ok (.iastore, 1) := by decide +kernel
theorem dX10_init_25 : decode cX10_init 25 = .ok (.dup, 1) := by decide +kernel
theorem dX10_init_26 : decode cX10_init 26 = .ok (.iconst 4, 1) := by decide +kernel
theorem dX10_init_27 : decode cX10_init 27 = .ok (.bipush 7, 2) := by decide +kernel
theorem dX10_init_29 : decode cX10_init 29 = .ok (.iastore, 1) := by decide +kernel
theorem dX10_init_30 : decode cX10_init 30 = .ok (.dup, 1) := by decide +kernel
theorem dX10_init_31 : decode cX10_init 31 = .ok (.iconst 5, 1) := by decide +kernel
theorem dX10_init_32 : decode cX10_init 32 = .ok (.bipush 9, 2) := by decide +kernel
theorem dX10_init_34 : decode cX10_init 34 = .ok (.iastore, 1) := by decide +kernel
theorem dX10_init_35 : decode cX10_init 35 = .ok (.dup, 1) := by decide +kernel
theorem dX10_init_36 : decode cX10_init 36 = .ok (.bipush 6, 2) := by decide +kernel
theorem dX10_init_38 : decode cX10_init 38 = .ok (.bipush 11, 2) := by decide +kernel
theorem dX10_init_40 : decode cX10_init 40 = .ok (.iastore, 1) := by decide +kernel
theorem dX10_init_41 : decode cX10_init 41 = .ok (.putfield 7, 3) := by decide +kernel
theorem dX10_init_44 : decode cX10_init 44 = .ok (.aload_n 0, 1) := by decide +kernel
theorem dX10_init_45 : decode cX10_init 45 = .ok (.sipush 1200, 3) := by decide +kernel
theorem dX10_init_48 : decode cX10_init 48 = .ok (.newarray .int, 2) := by decide +kernel
theorem dX10_init_50 : decode cX10_init 50 = .ok (.putfield 13, 3) := by decide +kernel
theorem dX10_init_53 : decode cX10_init 53 = .ok (.aload_n 0, 1) := by decide +kernel
theorem dX10_init_54 : decode cX10_init 54 = .ok (.bipush 52, 2) := by decide +kernel
theorem dX10_init_56 : decode cX10_init 56 = .ok (.newarray .int, 2) := by decide +kernel
theorem dX10_init_58 : decode cX10_init 58 = .ok (.putfield 16, 3) := by decide +kernel
theorem dX10_init_61 : decode cX10_init 61 = .ok (.aload_n 0, 1) := by decide +kernel
theorem dX10_init_62 : decode cX10_init 62 = .ok (.bipush 52, 2) := by decide +kernel
theorem dX10_init_64 : decode cX10_init 64 = .ok (.newarray .int, 2) := by decide +kernel
theorem dX10_init_66 : decode cX10_init 66 = .ok (.putfield 19, 3) := by decide +kernel
theorem dX10_init_69 : decode cX10_init 69 = .ok (.aload_n 0, 1) := by decide +kernel
theorem dX10_init_70 : decode cX10_init 70 = .ok (.bipush 96, 2) := by decide +kernel
theorem dX10_init_72 : decode cX10_init 72 = .ok (.newarray .int, 2) := by decide +kernel
theorem dX10_init_74 : decode cX10_init 74 = .ok (.putfield 22, 3) := by decide +kernel
theorem dX10_init_77 : decode cX10_init 77 = .ok (.aload_n 0, 1) := by decide +kernel
theorem dX10_init_78 : decode cX10_init 78 = .ok (.bipush 96, 2) := by decide +kernel
theorem dX10_init_80 : decode cX10_init 80 = .ok (.newarray .int, 2) := by decide +kernel
theorem dX10_init_82 : decode cX10_init 82 = .ok (.putfield 25, 3) := by decide +kernel
theorem dX10_init_85 : decode cX10_init 85 = .ok (.aload_n 0, 1) := by decide +kernel
theorem dX10_init_86 : decode cX10_init 86 = .ok (.bipush 96, 2) := by decide +kernel
theorem dX10_init_88 : decode cX10_init 88 = .ok (.newarray .int, 2) := by decide +kernel
theorem dX10_init_90 : decode cX10_init 90 = .ok (.putfield 28, 3) := by decide +kernel
theorem dX10_init_93 : decode cX10_init 93 = .ok (.aload_n 0, 1) := by decide +kernel
theorem dX10_init_94 : decode cX10_init 94 = .ok (.sipush 482, 3) := by decide +kernel
theorem dX10_init_97 : decode cX10_init 97 = .ok (.newarray .int, 2) := by decide +kernel
theorem dX10_init_99 : decode cX10_init 99 = .ok (.putfield 31, 3) := by decide +kernel
theorem dX10_init_102 : decode cX10_init 102 = .ok (.aload_n 0, 1) := by decide +kernel
theorem dX10_init_103 : decode cX10_init 103 = .ok (.sipush 482, 3) := by decide +kernel
theorem dX10_init_106 : decode cX10_init 106 = .ok (.newarray .int, 2) := by decide +kernel
theorem dX10_init_108 : decode cX10_init 108 = .ok (.putfield 34, 3) := by decide +kernel
theorem dX10_init_111 : decode cX10_init 111 = .ok (.aload_n 0, 1) := by decide +kernel
theorem dX10_init_112 : decode cX10_init 112 = .ok (.sipush 482, 3) := by decide +kernel
theorem dX10_init_115 : decode cX10_init 115 = .ok (.newarray .int, 2) := by decide +kernel
theorem dX10_init_117 : decode cX10_init 117 = .ok (.putfield 37, 3) := by decide +kernel
theorem dX10_init_120 : decode cX10_init 120 = .ok (.aload_n 0, 1) := by decide +kernel
theorem dX10_init_121 : decode cX10_init 121 = .ok (.sipush 482, 3) := by decide +kernel
theorem dX10_init_124 : decode cX10_init 124 = .ok (.newarray .int, 2) := by decide +kernel
theorem dX10_init_126 : decode cX10_init 126 = .ok (.putfield 40, 3) := by decide +kernel
theorem dX10_init_129 : decode cX10_init 129 = .ok (.aload_n 0, 1) := by decide +kernel
theorem dX10_init_130 : decode cX10_init 130 = .ok (.sipush 482, 3) := by decide +kernel
theorem dX10_init_133 : decode cX10_init 133 = .ok (.newarray .int, 2) := by decide +kernel
theorem dX10_init_135 : decode cX10_init 135 = .ok (.putfield 43, 3) := by decide +kernel
theorem dX10_init_138 : decode cX10_init 138 = .ok (.aload_n 0, 1) := by decide +kernel
theorem dX10_init_139 : decode cX10_init 139 = .ok (.iconst 2, 1) := by decide +kernel
theorem dX10_init_140 : decode cX10_init 140 = .ok (.newarray .int, 2) := by decide +kernel
theorem dX10_init_142 : decode cX10_init 142 = .ok (.putfield 46, 3) := by decide +kernel
theorem dX10_init_145 : decode cX10_init 145 = .ok (.aload_n 0, 1) := by decide +kernel
theorem dX10_init_146 : decode cX10_init 146 = .ok (.iconst 2, 1) := by decide +kernel
theorem dX10_init_147 : decode cX10_init 147 = .ok (.newarray .int, 2) := by decide +kernel
theorem dX10_init_149 : decode cX10_init 149 = .ok (.putfield 49, 3) := by decide +kernel
theorem dX10_init_152 : decode cX10_init 152 = .ok (.aload_n 0, 1) := by decide +kernel
theorem dX10_init_153 : decode cX10_init 153 = .ok (.iconst 2, 1) := by decide +kernel
theorem dX10_init_154 : decode cX10_init 154 = .ok (.newarray .int, 2) := by decide +kernel
theorem dX10_init_156 : decode cX10_init 156 = .ok (.putfield 52, 3) := by decide +kernel
theorem dX10_init_159 : decode cX10_init 159 = .ok (.aload_n 0, 1) := by decide +kernel
theorem dX10_init_160 : decode cX10_init 160 = .ok (.iconst 2, 1) := by decide +kernel
theorem dX10_init_161 : decode cX10_init 161 = .ok (.newarray .int, 2) := by decide +kernel
theorem dX10_init_163 : decode cX10_init 163 = .ok (.putfield 55, 3) := by decide +kernel
theorem dX10_init_166 : decode cX10_init 166 = .ok (.aload_n 0, 1) := by decide +kernel
theorem dX10_init_167 : decode cX10_init 167 = .ok (.bipush 7, 2) := by decide +kernel
theorem dX10_init_169 : decode cX10_init 169 = .ok (.newarray .int, 2) := by decide +kernel
theorem dX10_init_171 : decode cX10_init 171 = .ok (.dup, 1) := by decide +kernel
theorem dX10_init_172 : decode cX10_init 172 = .ok (.iconst 0, 1) := by decide +kernel
theorem dX10_init_173 : decode cX10_init 173 = .ok (.iconst 0, 1) := by decide +kernel
theorem dX10_init_174 : decode cX10_init 174 = .ok (.iastore, 1) := by decide +kernel
theorem dX10_init_175 : decode cX10_init 175 = .ok (.dup, 1) := by decide +kernel
theorem dX10_init_176 : decode cX10_init 176 = .ok (.iconst 1, 1) := by decide +kernel
theorem dX10_init_177 : decode cX10_init 177 = .ok (.bipush 127, 2) := by decide +kernel
theorem dX10_init_179 : decode cX10_init 179 = .ok (.iastore, 1) := by decide +kernel
theorem dX10_init_180 : decode cX10_init 180 = .ok (.dup, 1) := by decide +kernel
theorem dX10_init_181 : decode cX10_init 181 = .ok (.iconst 2, 1) := by decide +kernel
theorem dX10_init_182 : decode cX10_init 182 = .ok (.bipush 127, 2) := by decide +kernel
theorem dX10_init_184 : decode cX10_init 184 = .ok (.iastore, 1) := by decide +kernel
theorem dX10_init_185 : decode cX10_init 185 = .ok (.dup, 1) := by decide +kernel
theorem dX10_init_186 : decode cX10_init 186 = .ok (.iconst 3, 1) := by decide +kernel
theorem dX10_init_187 : decode cX10_init 187 = .ok (.bipush 127, 2) := by decide +kernel
theorem dX10_init_189 : decode cX10_init 189 = .ok (.iastore, 1) := by decide +kernel
theorem dX10_init_190 : decode cX10_init 190 = .ok (.dup, 1) := by decide +kernel
theorem dX10_init_191 : decode cX10_init 191 = .ok (.iconst 4, 1) := by decide +kernel
theorem dX10_init_192 : decode cX10_init 192 = .ok (.iconst 1, 1) := by decide +kernel
theorem dX10_init_193 : decode cX10_init 193 = .ok (.iastore, 1) := by decide +kernel
theorem dX10_init_194 : decode cX10_init 194 = .ok (.dup, 1) := by decide +kernel
theorem dX10_init_195 : decode cX10_init 195 = .ok (.iconst 5, 1) := by decide +kernel
theorem dX10_init_196 : decode cX10_init 196 = .ok (.iconst (-1), 1) := by decide +kernel
theorem dX10_init_197 : decode cX10_init 197 = .ok (.iastore, 1) := by decide +kernel
theorem dX10_init_198 : decode cX10_init 198 = .ok (.dup, 1) := by decide +kernel
theorem dX10_init_199 : decode cX10_init 199 = .ok (.bipush 6, 2) := by decide +kernel
theorem dX10_init_201 : decode cX10_init 201 = .ok (.sipush 500, 3) := by decide +kernel
theorem dX10_init_204 : decode cX10_init 204 = .ok (.iastore, 1) := by decide +kernel
theorem dX10_init_205 : decode cX10_init 205 = .ok (.putfield 58, 3) := by decide +kernel
theorem dX10_init_208 : decode cX10_init 208 = .ok (.aload_n 0, 1) := by decide +kernel
theorem dX10_init_209 : decode cX10_init 209 = .ok (.sipush 260, 3) := by decide +kernel
theorem dX10_init_212 : decode cX10_init 212 = .ok (.newarray .int, 2) := by decide +kernel
theorem dX10_init_214 : decode cX10_init 214 = .ok (.putfield 61, 3) := by decide +kernel
theorem dX10_init_217 : decode cX10_init 217 = .ok (.aload_n 0, 1) := by decide +kernel
theorem dX10_init_218 : decode cX10_init 218 = .ok (.sipush 260, 3) := by decide +kernel
theorem dX10_init_221 : decode cX10_init 221 = .ok (.newarray .int, 2) := by decide +kernel
theorem dX10_init_223 : decode cX10_init 223 = .ok (.putfield 64, 3) := by decide +kernel
theorem dX10_init_226 : decode cX10_init 226 = .ok (.aload_n 0, 1) := by decide +kernel
theorem dX10_init_227 : decode cX10_init 227 = .ok (.sipush 260, 3) := by decide +kernel
theorem dX10_init_230 : decode cX10_init 230 = .ok (.newarray .int, 2) := by decide +kernel
theorem dX10_init_232 : decode cX10_init 232 = .ok (.putfield 67, 3) := by decide +kernel
theorem dX10_init_235 : decode cX10_init 235 = .ok (.aload_n 0, 1) := by decide +kernel
theorem dX10_init_236 : decode cX10_init 236 = .ok (.sipush 260, 3) := by decide +kernel
theorem dX10_init_239 : decode cX10_init 239 = .ok (.newarray .int, 2) := by decide +kernel
theorem dX10_init_241 : decode cX10_init 241 = .ok (.putfield 70, 3) := by decide +kernel
theorem dX10_init_244 : decode cX10_init 244 = .ok (.aload_n 0, 1) := by decide +kernel
theorem dX10_init_245 : decode cX10_init 245 = .ok (.ldc 73, 2) := by decide +kernel
theorem dX10_init_247 : decode cX10_init 247 = .ok (.newarray .int, 2) := by decide +kernel
theorem dX10_init_249 : decode cX10_init 249 = .ok (.putfield 74, 3) := by decide +kernel
theorem dX10_init_252 : decode cX10_init 252 = .ok (.aload_n 0, 1) := by decide +kernel
theorem dX10_init_253 : decode cX10_init 253 = .ok (.ldc 73, 2) := by decide +kernel
theorem dX10_init_255 : decode cX10_init 255 = .ok (.newarray .int, 2) := by decide +kernel
theorem dX10_init_257 : decode cX10_init 257 = .ok (.putfield 77, 3) := by decide +kernel
theorem dX10_init_260 : decode cX10_init 260 = .ok (.aload_n 0, 1) := by decide +kernel
theorem dX10_init_261 : decode cX10_init 261 = .ok (.sipush 3002, 3) := by decide +kernel
theorem dX10_init_264 : decode cX10_init 264 = .ok (.newarray .int, 2) := by decide +kernel
theorem dX10_init_266 : decode cX10_init 266 = .ok (.putfield 80, 3) := by decide +kernel
theorem dX10_init_269 : decode cX10_init 269 = .ok (.aload_n 0, 1) := by decide +kernel
theorem dX10_init_270 : decode cX10_init 270 = .ok (.sipush 3002, 3) := by decide +kernel
theorem dX10_init_273 : decode cX10_init 273 = .ok (.newarray .int, 2) := by decide +kernel
theorem dX10_init_275 : decode cX10_init 275 = .ok (.putfield 83, 3) := by decide +kernel
theorem dX10_init_278 : decode cX10_init 278 = .ok (.aload_n 0, 1) := by decide +kernel
theorem dX10_init_279 : decode cX10_init 279 = .ok (.sipush 3002, 3) := by decide +kernel
theorem dX10_init_282 : decode cX10_init 282 = .ok (.newarray .int, 2) := by decide +kernel
theorem dX10_init_284 : decode cX10_init 284 = .ok (.putfield 86, 3) := by decide +kernel
theorem dX10_init_287 : decode cX10_init 287 = .ok (.aload_n 0, 1) := by decide +kernel
theorem dX10_init_288 : decode cX10_init 288 = .ok (.sipush 3002, 3) := by decide +kernel
theorem dX10_init_291 : decode cX10_init 291 = .ok (.newarray .int, 2) := by decide +kernel
theorem dX10_init_293 : decode cX10_init 293 = .ok (.putfield 89, 3) := by decide +kernel
theorem dX10_init_296 : decode cX10_init 296 = .ok (.aload_n 0, 1) := by decide +kernel
theorem dX10_init_297 : decode cX10_init 297 = .ok (.sipush 3002, 3) := by decide +kernel
theorem dX10_init_300 : decode cX10_init 300 = .ok (.newarray .int, 2) := by decide +kernel
theorem dX10_init_302 : decode cX10_init 302 = .ok (.putfield 92, 3) := by decide +kernel
theorem dX10_init_305 : decode cX10_init 305 = .ok (.aload_n 0, 1) := by decide +kernel
theorem dX10_init_306 : decode cX10_init 306 = .ok (.sipush 3002, 3) := by decide +kernel
theorem dX10_init_309 : decode cX10_init 309 = .ok (.newarray .int, 2) := by decide +kernel
theorem dX10_init_311 : decode cX10_init 311 = .ok (.putfield 95, 3) := by decide +kernel
theorem dX10_init_314 : decode cX10_init 314 = .ok (.aload_n 0, 1) := by decide +kernel
theorem dX10_init_315 : decode cX10_init 315 = .ok (.sipush 3002, 3) := by decide +kernel
theorem dX10_init_318 : decode cX10_init 318 = .ok (.newarray .int, 2) := by decide +kernel
theorem dX10_init_320 : decode cX10_init 320 = .ok (.putfield 98, 3) := by decide +kernel
theorem dX10_init_323 : decode cX10_init 323 = .ok (.aload_n 0, 1) := by decide +kernel
theorem dX10_init_324 : decode cX10_init 324 = .ok (.sipush 3002, 3) := by decide +kernel
theorem dX10_init_327 : decode cX10_init 327 = .ok (.newarray .int, 2) := by decide +kernel
theorem dX10_init_329 : decode cX10_init 329 = .ok (.putfield 101, 3) := by decide +kernel
theorem dX10_init_332 : decode cX10_init 332 = .ok (.aload_n 0, 1) := by decide +kernel
theorem dX10_init_333 : decode cX10_init 333 = .ok (.sipush 3002, 3) := by decide +kernel
theorem dX10_init_336 : decode cX10_init 336 = .ok (.newarray .int, 2) := by decide +kernel
theorem dX10_init_338 : decode cX10_init 338 = .ok (.putfield 104, 3) := by decide +kernel
theorem dX10_init_341 : decode cX10_init 341 = .ok (.aload_n 0, 1) := by decide +kernel
theorem dX10_init_342 : decode cX10_init 342 = .ok (.sipush 3002, 3) := by decide +kernel
theorem dX10_init_345 : decode cX10_init 345 = .ok (.newarray .long, 2) := by decide +kernel
theorem dX10_init_347 : decode cX10_init 347 = .ok (.putfield 107, 3) := by decide +kernel
theorem dX10_init_350 : decode cX10_init 350 = .ok (.aload_n 0, 1) := by decide +kernel
theorem dX10_init_351 : decode cX10_init 351 = .ok (.sipush 300, 3) := by decide +kernel
theorem dX10_init_354 : decode cX10_init 354 = .ok (.newarray .int, 2) := by decide +kernel
theorem dX10_init_356 : decode cX10_init 356 = .ok (.putfield 111, 3) := by decide +kernel
theorem dX10_init_359 : decode cX10_init 359 = .ok (.aload_n 0, 1) := by decide +kernel
theorem dX10_init_360 : decode cX10_init 360 = .ok (.sipush 210, 3) := by decide +kernel
theorem dX10_init_363 : decode cX10_init 363 = .ok (.newarray .int, 2) := by decide +kernel
theorem dX10_init_365 : decode cX10_init 365 = .ok (.putfield 114, 3) := by decide +kernel
theorem dX10_init_368 : decode cX10_init 368 = .ok (.aload_n 0, 1) := by decide +kernel
theorem dX10_init_369 : decode cX10_init 369 = .ok (.bipush 12, 2) := by decide +kernel
theorem dX10_init_371 : decode cX10_init 371 = .ok (.newarray .int, 2) := by decide +kernel
theorem dX10_init_373 : decode cX10_init 373 = .ok (.dup, 1) := by decide +kernel
theorem dX10_init_374 : decode cX10_init 374 = .ok (.iconst 0, 1) := by decide +kernel
theorem dX10_init_375 : decode cX10_init 375 = .ok (.iconst 0, 1) := by decide +kernel
theorem dX10_init_376 : decode cX10_init 376 = .ok (.iastore, 1) := by decide +kernel
theorem dX10_init_377 : decode cX10_init 377 = .ok (.dup, 1) := by decide +kernel
theorem dX10_init_378 : decode cX10_init 378 = .ok (.iconst 1, 1) := by decide +kernel
theorem dX10_init_379 : decode cX10_init 379 = .ok (.iconst 1, 1) := by decide +kernel
theorem dX10_init_380 : decode cX10_init 380 = .ok (.iastore, 1) := by decide +kernel
theorem dX10_init_381 : decode cX10_init 381 = .ok (.dup, 1) := by decide +kernel
theorem dX10_init_382 : decode cX10_init 382 = .ok (.iconst 2, 1) := by decide +kernel
theorem dX10_init_383 : decode cX10_init 383 = .ok (.iconst 2, 1) := by decide +kernel
theorem dX10_init_384 : decode cX10_init 384 = .ok (.iastore, 1) := by decide +kernel
theorem dX10_init_385 : decode cX10_init 385 = .ok (.dup, 1) := by decide +kernel
theorem dX10_init_386 : decode cX10_init 386 = .ok (.iconst 3, 1) := by decide +kernel
theorem dX10_init_387 : decode cX10_init 387 = .ok (.iconst 3, 1) := by decide +kernel
theorem dX10_init_388 : decode cX10_init 388 = .ok (.iastore, 1) := by decide +kernel
theorem dX10_init_389 : decode cX10_init 389 = .ok (.dup, 1) := by decide +kernel
theorem dX10_init_390 : decode cX10_init 390 = .ok (.iconst 4, 1) := by decide +kernel
theorem dX10_init_391 : decode cX10_init 391 = .ok (.iconst 4, 1) := by decide +kernel
theorem dX10_init_392 : decode cX10_init 392 = .ok (.iastore, 1) := by decide +kernel
theorem dX10_init_393 : decode cX10_init 393 = .ok (.dup, 1) := by decide +kernel
theorem dX10_init_394 : decode cX10_init 394 = .ok (.iconst 5, 1) := by decide +kernel
theorem dX10_init_395 : decode cX10_init 395 = .ok (.iconst 5, 1) := by decide +kernel
theorem dX10_init_396 : decode cX10_init 396 = .ok (.iastore, 1) := by decide +kernel
theorem dX10_init_397 : decode cX10_init 397 = .ok (.dup, 1) := by decide +kernel
theorem dX10_init_398 : decode cX10_init 398 = .ok (.bipush 6, 2) := by decide +kernel
theorem dX10_init_400 : decode cX10_init 400 = .ok (.bipush 6, 2) := by decide +kernel
theorem dX10_init_402 : decode cX10_init 402 = .ok (.iastore, 1) := by decide +kernel
theorem dX10_init_403 : decode cX10_init 403 = .ok (.dup, 1) := by decide +kernel
theorem dX10_init_404 : decode cX10_init 404 = .ok (.bipush 7, 2) := by decide +kernel
theorem dX10_init_406 : decode cX10_init 406 = .ok (.bipush 7, 2) := by decide +kernel
theorem dX10_init_408 : decode cX10_init 408 = .ok (.iastore, 1) := by decide +kernel
theorem dX10_init_409 : decode cX10_init 409 = .ok (.dup, 1) := by decide +kernel
theorem dX10_init_410 : decode cX10_init 410 = .ok (.bipush 8, 2) := by decide +kernel
theorem dX10_init_412 : decode cX10_init 412 = .ok (.bipush 8, 2) := by decide +kernel
theorem dX10_init_414 : decode cX10_init 414 = .ok (.iastore, 1) := by decide +kernel
theorem dX10_init_415 : decode cX10_init 415 = .ok (.dup, 1) := by decide +kernel
theorem dX10_init_416 : decode cX10_init 416 = .ok (.bipush 9, 2) := by decide +kernel
theorem dX10_init_418 : decode cX10_init 418 = .ok (.bipush 9, 2) := by decide +kernel
theorem dX10_init_420 : decode cX10_init 420 = .ok (.iastore, 1) := by decide +kernel
theorem dX10_init_421 : decode cX10_init 421 = .ok (.dup, 1) := by decide +kernel
theorem dX10_init_422 : decode cX10_init 422 = .ok (.bipush 10, 2) := by decide +kernel
theorem dX10_init_424 : decode cX10_init 424 = .ok (.bipush 10, 2) := by decide +kernel
theorem dX10_init_426 : decode cX10_init 426 = .ok (.iastore, 1) := by decide +kernel
theorem dX10_init_427 : decode cX10_init 427 = .ok (.dup, 1) := by decide +kernel
theorem dX10_init_428 : decode cX10_init 428 = .ok (.bipush 11, 2) := by decide +kernel
theorem dX10_init_430 : decode cX10_init 430 = .ok (.bipush 11, 2) := by decide +kernel
theorem dX10_init_432 : decode cX10_init 432 = .ok (.iastore, 1) := by decide +kernel
theorem dX10_init_433 : decode cX10_init 433 = .ok (.putfield 117, 3) := by decide +kernel
theorem dX10_init_436 : decode cX10_init 436 = .ok (.return_, 1) := by decide +kernel
theorem dX10_text_0 : decode cX10_text 0 = .ok (.iconst 0, 1) := by decide +kernel
theorem dX10_text_1 : decode cX10_text 1 = .ok (.istore_n 3, 1) := by decide +kernel
theorem dX10_text_2 : decode cX10_text 2 = .ok (.iconst 0, 1) := by decide +kernel
theorem dX10_text_3 : decode cX10_text 3 = .ok (.istore 4, 2) := by decide +kernel
theorem dX10_text_5 : decode cX10_text 5 = .ok (.iload 4, 2) := by decide +kernel
theorem dX10_text_7 : decode cX10_text 7 = .ok (.bipush 8, 2) := by decide +kernel
theorem dX10_text_9 : decode cX10_text 9 = .ok (.if_icmp .ge 68, 3) := by decide +kernel
theorem dX10_text_12 : decode cX10_text 12 = .ok (.lload_n 1, 1) := by decide +kernel
theorem dX10_text_13 : decode cX10_text 13 = .ok (.bipush 56, 2) := by decide +kernel
theorem dX10_text_15 : decode cX10_text 15 = .ok (.bipush 8, 2) := by decide +kernel
theorem dX10_text_17 : decode cX10_text 17 = .ok (.iload 4, 2) := by decide +kernel
theorem dX10_text_19 : decode cX10_text 19 = .ok (.imul, 1) := by decide +kernel
theorem dX10_text_20 : decode cX10_text 20 = .ok (.isub, 1) := by decide +kernel
theorem dX10_text_21 : decode cX10_text 21 = .ok (.lshr, 1) := by decide +kernel
theorem dX10_text_22 : decode cX10_text 22 = .ok (.l2i, 1) := by decide +kernel
theorem dX10_text_23 : decode cX10_text 23 = .ok (.sipush 255, 3) := by decide +kernel
theorem dX10_text_26 : decode cX10_text 26 = .ok (.iand, 1) := by decide +kernel
theorem dX10_text_27 : decode cX10_text 27 = .ok (.istore 5, 2) := by decide +kernel
theorem dX10_text_29 : decode cX10_text 29 = .ok (.iload 5, 2) := by decide +kernel
theorem dX10_text_31 : decode cX10_text 31 = .ok (.bipush 126, 2) := by decide +kernel
theorem dX10_text_33 : decode cX10_text 33 = .ok (.if_icmp .gt 22, 3) := by decide +kernel
theorem dX10_text_36 : decode cX10_text 36 = .ok (.iload 5, 2) := by decide +kernel
theorem dX10_text_38 : decode cX10_text 38 = .ok (.bipush 32, 2) := by decide +kernel
theorem dX10_text_40 : decode cX10_text 40 = .ok (.if_icmp .ge 18, 3) := by decide +kernel
theorem dX10_text_43 : decode cX10_text 43 = .ok (.iload 5, 2) := by decide +kernel
theorem dX10_text_45 : decode cX10_text 45 = .ok (.ifCond .eq 13, 3) := by decide +kernel
theorem dX10_text_48 : decode cX10_text 48 = .ok (.iload 5, 2) := by decide +kernel
theorem dX10_text_50 : decode cX10_text 50 = .ok (.bipush 10, 2) := by decide +kernel
theorem dX10_text_52 : decode cX10_text 52 = .ok (.if_icmp .eq 6, 3) := by decide +kernel
theorem dX10_text_55 : decode cX10_text 55 = .ok (.bipush (-2), 2) := by decide +kernel
theorem dX10_text_57 : decode cX10_text 57 = .ok (.ireturn, 1) := by decide +kernel
theorem dX10_text_58 : decode cX10_text 58 = .ok (.iload_n 3, 1) := by decide +kernel
theorem dX10_text_59 : decode cX10_text 59 = .ok (.iload 5, 2) := by decide +kernel
theorem dX10_text_61 : decode cX10_text 61 = .ok (.ifCond .eq 7, 3) := by decide +kernel
theorem dX10_text_64 : decode cX10_text 64 = .ok (.iconst 1, 1) := by decide +kernel
theorem dX10_text_65 : decode cX10_text 65 = .ok (.goto 4, 3) := by decide +kernel
theorem dX10_text_68 : decode cX10_text 68 = .ok (.iconst 0, 1) := by decide +kernel
theorem dX10_text_69 : decode cX10_text 69 = .ok (.iadd, 1) := by decide +kernel
theorem dX10_text_70 : decode cX10_text 70 = .ok (.istore_n 3, 1) := by decide +kernel
theorem dX10_text_71 : decode cX10_text 71 = .ok (.iinc 4 1, 3) := by decide +kernel
theorem dX10_text_74 : decode cX10_text 74 = .ok (.goto (-69), 3) := by decide +kernel
theorem dX10_text_77 : decode cX10_text 77 = .ok (.aload_n 0, 1) := by decide +kernel
theorem dX10_text_78 : decode cX10_text 78 = .ok (.getfield 120, 3) := by decide +kernel
theorem dX10_text_81 : decode cX10_text 81 = .ok (.iload_n 3, 1) := by decide +kernel
theorem dX10_text_82 : decode cX10_text 82 = .ok (.iadd, 1) := by decide +kernel
theorem dX10_text_83 : decode cX10_text 83 = .ok (.sipush 1200, 3) := by decide +kernel
theorem dX10_text_86 : decode cX10_text 86 = .ok (.if_icmp .le 6, 3) := by decide +kernel
theorem dX10_text_89 : decode cX10_text 89 = .ok (.bipush (-4), 2) := by decide +kernel
theorem dX10_text_91 : decode cX10_text 91 = .ok (.ireturn, 1) := by decide +kernel
theorem dX10_text_92 : decode cX10_text 92 = .ok (.iconst 0, 1) := by decide +kernel
theorem dX10_text_93 : decode cX10_text 93 = .ok (.istore 4, 2) := by decide +kernel
theorem dX10_text_95 : decode cX10_text 95 = .ok (.iload 4, 2) := by decide +kernel
theorem dX10_text_97 : decode cX10_text 97 = .ok (.bipush 8, 2) := by decide +kernel
theorem dX10_text_99 : decode cX10_text 99 = .ok (.if_icmp .ge 52, 3) := by decide +kernel
theorem dX10_text_102 : decode cX10_text 102 = .ok (.lload_n 1, 1) := by decide +kernel
theorem dX10_text_103 : decode cX10_text 103 = .ok (.bipush 56, 2) := by decide +kernel
theorem dX10_text_105 : decode cX10_text 105 = .ok (.bipush 8, 2) := by decide +kernel
theorem dX10_text_107 : decode cX10_text 107 = .ok (.iload 4, 2) := by decide +kernel
theorem dX10_text_109 : decode cX10_text 109 = .ok (.imul, 1) := by decide +kernel
theorem dX10_text_110 : decode cX10_text 110 = .ok (.isub, 1) := by decide +kernel
theorem dX10_text_111 : decode cX10_text 111 = .ok (.lshr, 1) := by decide +kernel
theorem dX10_text_112 : decode cX10_text 112 = .ok (.l2i, 1) := by decide +kernel
theorem dX10_text_113 : decode cX10_text 113 = .ok (.sipush 255, 3) := by decide +kernel
theorem dX10_text_116 : decode cX10_text 116 = .ok (.iand, 1) := by decide +kernel
theorem dX10_text_117 : decode cX10_text 117 = .ok (.istore 5, 2) := by decide +kernel
theorem dX10_text_119 : decode cX10_text 119 = .ok (.iload 5, 2) := by decide +kernel
theorem dX10_text_121 : decode cX10_text 121 = .ok (.ifCond .eq 24, 3) := by decide +kernel
theorem dX10_text_124 : decode cX10_text 124 = .ok (.aload_n 0, 1) := by decide +kernel
theorem dX10_text_125 : decode cX10_text 125 = .ok (.getfield 13, 3) := by decide +kernel
theorem dX10_text_128 : decode cX10_text 128 = .ok (.aload_n 0, 1) := by decide +kernel
theorem dX10_text_129 : decode cX10_text 129 = .ok (.getfield 120, 3) := by decide +kernel
theorem dX10_text_132 : decode cX10_text 132 = .ok (.iload 5, 2) := by decide +kernel
theorem dX10_text_134 : decode cX10_text 134 = .ok (.iastore, 1) := by decide +kernel
theorem dX10_text_135 : decode cX10_text 135 = .ok (.aload_n 0, 1) := by decide +kernel
theorem dX10_text_136 : decode cX10_text 136 = .ok (.dup, 1) := by decide +kernel
theorem dX10_text_137 : decode cX10_text 137 = .ok (.getfield 120, 3) := by decide +kernel
theorem dX10_text_140 : decode cX10_text 140 = .ok (.iconst 1, 1) := by decide +kernel
theorem dX10_text_141 : decode cX10_text 141 = .ok (.iadd, 1) := by decide +kernel
theorem dX10_text_142 : decode cX10_text 142 = .ok (.putfield 120, 3) := by decide +kernel
theorem dX10_text_145 : decode cX10_text 145 = .ok (.iinc 4 1, 3) := by decide +kernel
theorem dX10_text_148 : decode cX10_text 148 = .ok (.goto (-53), 3) := by decide +kernel
theorem dX10_text_151 : decode cX10_text 151 = .ok (.aload_n 0, 1) := by decide +kernel
theorem dX10_text_152 : decode cX10_text 152 = .ok (.getfield 120, 3) := by decide +kernel
theorem dX10_text_155 : decode cX10_text 155 = .ok (.ireturn, 1) := by decide +kernel
theorem dX10_cut_0 : decode cX10_cut 0 = .ok (.iload_n 1, 1) := by decide +kernel
theorem dX10_cut_1 : decode cX10_cut 1 = .ok (.ifCond .lt 11, 3) := by decide +kernel
theorem dX10_cut_4 : decode cX10_cut 4 = .ok (.iload_n 1, 1) := by decide +kernel
theorem dX10_cut_5 : decode cX10_cut 5 = .ok (.aload_n 0, 1) := by decide +kernel
theorem dX10_cut_6 : decode cX10_cut 6 = .ok (.getfield 120, 3) := by decide +kernel
theorem dX10_cut_9 : decode cX10_cut 9 = .ok (.if_icmp .le 6, 3) := by decide +kernel
theorem dX10_cut_12 : decode cX10_cut 12 = .ok (.bipush (-2), 2) := by decide +kernel
theorem dX10_cut_14 : decode cX10_cut 14 = .ok (.ireturn, 1) := by decide +kernel
theorem dX10_cut_15 : decode cX10_cut 15 = .ok (.aload_n 0, 1) := by decide +kernel
theorem dX10_cut_16 : decode cX10_cut 16 = .ok (.getfield 120, 3) := by decide +kernel
theorem dX10_cut_19 : decode cX10_cut 19 = .ok (.iload_n 1, 1) := by decide +kernel
theorem dX10_cut_20 : decode cX10_cut 20 = .ok (.isub, 1) := by decide +kernel
theorem dX10_cut_21 : decode cX10_cut 21 = .ok (.istore_n 2, 1) := by decide +kernel
theorem dX10_cut_22 : decode cX10_cut 22 = .ok (.aload_n 0, 1) := by decide +kernel
theorem dX10_cut_23 : decode cX10_cut 23 = .ok (.iload_n 1, 1) := by decide +kernel
theorem dX10_cut_24 : decode cX10_cut 24 = .ok (.putfield 120, 3) := by decide +kernel
theorem dX10_cut_27 : decode cX10_cut 27 = .ok (.iload_n 2, 1) := by decide +kernel
