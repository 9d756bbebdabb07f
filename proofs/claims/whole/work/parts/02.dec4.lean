theorem dX10_keep_79 : decode cX10_keep 79 = .ok (.aload_n 0, 1) := by decide +kernel
theorem dX10_keep_80 : decode cX10_keep 80 = .ok (.getfield 185, 3) := by decide +kernel
theorem dX10_keep_83 : decode cX10_keep 83 = .ok (.aload_n 0, 1) := by decide +kernel
theorem dX10_keep_84 : decode cX10_keep 84 = .ok (.getfield 203, 3) := by decide +kernel
theorem dX10_keep_87 : decode cX10_keep 87 = .ok (.iastore, 1) := by decide +kernel
theorem dX10_keep_88 : decode cX10_keep 88 = .ok (.aload_n 0, 1) := by decide +kernel
theorem dX10_keep_89 : decode cX10_keep 89 = .ok (.getfield 101, 3) := by decide +kernel
theorem dX10_keep_92 : decode cX10_keep 92 = .ok (.aload_n 0, 1) := by decide +kernel
theorem dX10_keep_93 : decode cX10_keep 93 = .ok (.getfield 185, 3) := by decide +kernel
theorem dX10_keep_96 : decode cX10_keep 96 = .ok (.aload_n 0, 1) := by decide +kernel
theorem dX10_keep_97 : decode cX10_keep 97 = .ok (.getfield 206, 3) := by decide +kernel
theorem dX10_keep_100 : decode cX10_keep 100 = .ok (.iastore, 1) := by decide +kernel
theorem dX10_keep_101 : decode cX10_keep 101 = .ok (.aload_n 0, 1) := by decide +kernel
theorem dX10_keep_102 : decode cX10_keep 102 = .ok (.getfield 104, 3) := by decide +kernel
theorem dX10_keep_105 : decode cX10_keep 105 = .ok (.aload_n 0, 1) := by decide +kernel
theorem dX10_keep_106 : decode cX10_keep 106 = .ok (.getfield 185, 3) := by decide +kernel
theorem dX10_keep_109 : decode cX10_keep 109 = .ok (.aload_n 0, 1) := by decide +kernel
theorem dX10_keep_110 : decode cX10_keep 110 = .ok (.getfield 209, 3) := by decide +kernel
theorem dX10_keep_113 : decode cX10_keep 113 = .ok (.iastore, 1) := by decide +kernel
theorem dX10_keep_114 : decode cX10_keep 114 = .ok (.aload_n 0, 1) := by decide +kernel
theorem dX10_keep_115 : decode cX10_keep 115 = .ok (.getfield 107, 3) := by decide +kernel
theorem dX10_keep_118 : decode cX10_keep 118 = .ok (.aload_n 0, 1) := by decide +kernel
theorem dX10_keep_119 : decode cX10_keep 119 = .ok (.getfield 185, 3) := by decide +kernel
theorem dX10_keep_122 : decode cX10_keep 122 = .ok (.lconst 0, 1) := by decide +kernel
theorem dX10_keep_123 : decode cX10_keep 123 = .ok (.lastore, 1) := by decide +kernel
theorem dX10_keep_124 : decode cX10_keep 124 = .ok (.aload_n 0, 1) := by decide +kernel
theorem dX10_keep_125 : decode cX10_keep 125 = .ok (.dup, 1) := by decide +kernel
theorem dX10_keep_126 : decode cX10_keep 126 = .ok (.getfield 185, 3) := by decide +kernel
theorem dX10_keep_129 : decode cX10_keep 129 = .ok (.iconst 1, 1) := by decide +kernel
theorem dX10_keep_130 : decode cX10_keep 130 = .ok (.iadd, 1) := by decide +kernel
theorem dX10_keep_131 : decode cX10_keep 131 = .ok (.putfield 185, 3) := by decide +kernel
theorem dX10_keep_134 : decode cX10_keep 134 = .ok (.return_, 1) := by decide +kernel
theorem dX10_back_0 : decode cX10_back 0 = .ok (.aload_n 0, 1) := by decide +kernel
theorem dX10_back_1 : decode cX10_back 1 = .ok (.getfield 185, 3) := by decide +kernel
theorem dX10_back_4 : decode cX10_back 4 = .ok (.iconst 1, 1) := by decide +kernel
theorem dX10_back_5 : decode cX10_back 5 = .ok (.isub, 1) := by decide +kernel
theorem dX10_back_6 : decode cX10_back 6 = .ok (.istore_n 1, 1) := by decide +kernel
theorem dX10_back_7 : decode cX10_back 7 = .ok (.aload_n 0, 1) := by decide +kernel
theorem dX10_back_8 : decode cX10_back 8 = .ok (.aload_n 0, 1) := by decide +kernel
theorem dX10_back_9 : decode cX10_back 9 = .ok (.getfield 83, 3) := by decide +kernel
theorem dX10_back_12 : decode cX10_back 12 = .ok (.iload_n 1, 1) := by decide +kernel
theorem dX10_back_13 : decode cX10_back 13 = .ok (.iaload, 1) := by decide +kernel
theorem dX10_back_14 : decode cX10_back 14 = .ok (.putfield 188, 3) := by decide +kernel
theorem dX10_back_17 : decode cX10_back 17 = .ok (.aload_n 0, 1) := by decide +kernel
theorem dX10_back_18 : decode cX10_back 18 = .ok (.aload_n 0, 1) := by decide +kernel
theorem dX10_back_19 : decode cX10_back 19 = .ok (.getfield 86, 3) := by decide +kernel
theorem dX10_back_22 : decode cX10_back 22 = .ok (.iload_n 1, 1) := by decide +kernel
theorem dX10_back_23 : decode cX10_back 23 = .ok (.iaload, 1) := by decide +kernel
theorem dX10_back_24 : decode cX10_back 24 = .ok (.putfield 191, 3) := by decide +kernel
theorem dX10_back_27 : decode cX10_back 27 = .ok (.aload_n 0, 1) := by decide +kernel
theorem dX10_back_28 : decode cX10_back 28 = .ok (.aload_n 0, 1) := by decide +kernel
theorem dX10_back_29 : decode cX10_back 29 = .ok (.getfield 89, 3) := by decide +kernel
theorem dX10_back_32 : decode cX10_back 32 = .ok (.iload_n 1, 1) := by decide +kernel
theorem dX10_back_33 : decode cX10_back 33 = .ok (.iaload, 1) := by decide +kernel
theorem dX10_back_34 : decode cX10_back 34 = .ok (.putfield 194, 3) := by decide +kernel
theorem dX10_back_37 : decode cX10_back 37 = .ok (.aload_n 0, 1) := by decide +kernel
theorem dX10_back_38 : decode cX10_back 38 = .ok (.aload_n 0, 1) := by decide +kernel
theorem dX10_back_39 : decode cX10_back 39 = .ok (.getfield 92, 3) := by decide +kernel
theorem dX10_back_42 : decode cX10_back 42 = .ok (.iload_n 1, 1) := by decide +kernel
theorem dX10_back_43 : decode cX10_back 43 = .ok (.iaload, 1) := by decide +kernel
theorem dX10_back_44 : decode cX10_back 44 = .ok (.putfield 197, 3) := by decide +kernel
theorem dX10_back_47 : decode cX10_back 47 = .ok (.aload_n 0, 1) := by decide +kernel
theorem dX10_back_48 : decode cX10_back 48 = .ok (.aload_n 0, 1) := by decide +kernel
theorem dX10_back_49 : decode cX10_back 49 = .ok (.getfield 95, 3) := by decide +kernel
theorem dX10_back_52 : decode cX10_back 52 = .ok (.iload_n 1, 1) := by decide +kernel
theorem dX10_back_53 : decode cX10_back 53 = .ok (.iaload, 1) := by decide +kernel
theorem dX10_back_54 : decode cX10_back 54 = .ok (.putfield 200, 3) := by decide +kernel
theorem dX10_back_57 : decode cX10_back 57 = .ok (.aload_n 0, 1) := by decide +kernel
theorem dX10_back_58 : decode cX10_back 58 = .ok (.aload_n 0, 1) := by decide +kernel
theorem dX10_back_59 : decode cX10_back 59 = .ok (.getfield 98, 3) := by decide +kernel
theorem dX10_back_62 : decode cX10_back 62 = .ok (.iload_n 1, 1) := by decide +kernel
theorem dX10_back_63 : decode cX10_back 63 = .ok (.iaload, 1) := by decide +kernel
theorem dX10_back_64 : decode cX10_back 64 = .ok (.putfield 203, 3) := by decide +kernel
theorem dX10_back_67 : decode cX10_back 67 = .ok (.aload_n 0, 1) := by decide +kernel
theorem dX10_back_68 : decode cX10_back 68 = .ok (.aload_n 0, 1) := by decide +kernel
theorem dX10_back_69 : decode cX10_back 69 = .ok (.getfield 101, 3) := by decide +kernel
theorem dX10_back_72 : decode cX10_back 72 = .ok (.iload_n 1, 1) := by decide +kernel
theorem dX10_back_73 : decode cX10_back 73 = .ok (.iaload, 1) := by decide +kernel
theorem dX10_back_74 : decode cX10_back 74 = .ok (.putfield 206, 3) := by decide +kernel
theorem dX10_back_77 : decode cX10_back 77 = .ok (.aload_n 0, 1) := by decide +kernel
theorem dX10_back_78 : decode cX10_back 78 = .ok (.aload_n 0, 1) := by decide +kernel
theorem dX10_back_79 : decode cX10_back 79 = .ok (.getfield 104, 3) := by decide +kernel
theorem dX10_back_82 : decode cX10_back 82 = .ok (.iload_n 1, 1) := by decide +kernel
theorem dX10_back_83 : decode cX10_back 83 = .ok (.iaload, 1) := by decide +kernel
theorem dX10_back_84 : decode cX10_back 84 = .ok (.putfield 209, 3) := by decide +kernel
theorem dX10_back_87 : decode cX10_back 87 = .ok (.return_, 1) := by decide +kernel
theorem dX10_left_0 : decode cX10_left 0 = .ok (.aload_n 0, 1) := by decide +kernel
theorem dX10_left_1 : decode cX10_left 1 = .ok (.getfield 80, 3) := by decide +kernel
theorem dX10_left_4 : decode cX10_left 4 = .ok (.aload_n 0, 1) := by decide +kernel
theorem dX10_left_5 : decode cX10_left 5 = .ok (.getfield 185, 3) := by decide +kernel
theorem dX10_left_8 : decode cX10_left 8 = .ok (.iconst 1, 1) := by decide +kernel
theorem dX10_left_9 : decode cX10_left 9 = .ok (.isub, 1) := by decide +kernel
theorem dX10_left_10 : decode cX10_left 10 = .ok (.iaload, 1) := by decide +kernel
theorem dX10_left_11 : decode cX10_left 11 = .ok (.istore_n 1, 1) := by decide +kernel
theorem dX10_left_12 : decode cX10_left 12 = .ok (.iconst 0, 1) := by decide +kernel
theorem dX10_left_13 : decode cX10_left 13 = .ok (.istore_n 2, 1) := by decide +kernel
theorem dX10_left_14 : decode cX10_left 14 = .ok (.iconst 0, 1) := by decide +kernel
theorem dX10_left_15 : decode cX10_left 15 = .ok (.istore_n 3, 1) := by decide +kernel
theorem dX10_left_16 : decode cX10_left 16 = .ok (.iload_n 3, 1) := by decide +kernel
theorem dX10_left_17 : decode cX10_left 17 = .ok (.aload_n 0, 1) := by decide +kernel
theorem dX10_left_18 : decode cX10_left 18 = .ok (.getfield 19, 3) := by decide +kernel
theorem dX10_left_21 : decode cX10_left 21 = .ok (.iload_n 1, 1) := by decide +kernel
theorem dX10_left_22 : decode cX10_left 22 = .ok (.iaload, 1) := by decide +kernel
theorem dX10_left_23 : decode cX10_left 23 = .ok (.if_icmp .ge 49, 3) := by decide +kernel
theorem dX10_left_26 : decode cX10_left 26 = .ok (.iload_n 2, 1) := by decide +kernel
theorem dX10_left_27 : decode cX10_left 27 = .ok (.aload_n 0, 1) := by decide +kernel
theorem dX10_left_28 : decode cX10_left 28 = .ok (.getfield 107, 3) := by decide +kernel
theorem dX10_left_31 : decode cX10_left 31 = .ok (.aload_n 0, 1) := by decide +kernel
theorem dX10_left_32 : decode cX10_left 32 = .ok (.getfield 185, 3) := by decide +kernel
theorem dX10_left_35 : decode cX10_left 35 = .ok (.iconst 1, 1) := by decide +kernel
theorem dX10_left_36 : decode cX10_left 36 = .ok (.isub, 1) := by decide +kernel
theorem dX10_left_37 : decode cX10_left 37 = .ok (.laload, 1) := by decide +kernel
theorem dX10_left_38 : decode cX10_left 38 = .ok (.iload_n 3, 1) := by decide +kernel
theorem dX10_left_39 : decode cX10_left 39 = .ok (.lshr, 1) := by decide +kernel
theorem dX10_left_40 : decode cX10_left 40 = .ok (.lconst 1, 1) := by decide +kernel
theorem dX10_left_41 : decode cX10_left 41 = .ok (.land, 1) := by decide +kernel
theorem dX10_left_42 : decode cX10_left 42 = .ok (.lconst 0, 1) := by decide +kernel
theorem dX10_left_43 : decode cX10_left 43 = .ok (.lcmp, 1) := by decide +kernel
theorem dX10_left_44 : decode cX10_left 44 = .ok (.ifCond .ne 19, 3) := by decide +kernel
theorem dX10_left_47 : decode cX10_left 47 = .ok (.aload_n 0, 1) := by decide +kernel
theorem dX10_left_48 : decode cX10_left 48 = .ok (.getfield 22, 3) := by decide +kernel
theorem dX10_left_51 : decode cX10_left 51 = .ok (.aload_n 0, 1) := by decide +kernel
theorem dX10_left_52 : decode cX10_left 52 = .ok (.getfield 16, 3) := by decide +kernel
theorem dX10_left_55 : decode cX10_left 55 = .ok (.iload_n 1, 1) := by decide +kernel
theorem dX10_left_56 : decode cX10_left 56 = .ok (.iaload, 1) := by decide +kernel
theorem dX10_left_57 : decode cX10_left 57 = .ok (.iload_n 3, 1) := by decide +kernel
theorem dX10_left_58 : decode cX10_left 58 = .ok (.iadd, 1) := by decide +kernel
theorem dX10_left_59 : decode cX10_left 59 = .ok (.iaload, 1) := by decide +kernel
theorem dX10_left_60 : decode cX10_left 60 = .ok (.goto 4, 3) := by decide +kernel
theorem dX10_left_63 : decode cX10_left 63 = .ok (.iconst 0, 1) := by decide +kernel
theorem dX10_left_64 : decode cX10_left 64 = .ok (.iadd, 1) := by decide +kernel
theorem dX10_left_65 : decode cX10_left 65 = .ok (.istore_n 2, 1) := by decide +kernel
theorem dX10_left_66 : decode cX10_left 66 = .ok (.iinc 3 1, 3) := by decide +kernel
theorem dX10_left_69 : decode cX10_left 69 = .ok (.goto (-53), 3) := by decide +kernel
theorem dX10_left_72 : decode cX10_left 72 = .ok (.iload_n 2, 1) := by decide +kernel
theorem dX10_left_73 : decode cX10_left 73 = .ok (.ireturn, 1) := by decide +kernel
set_option maxRecDepth 20000 in
theorem ggX10_choose_X10_drawBelow : GoodIn wsX10_choose wsX10_drawBelow := goodIn_r _ [15, 16, 17, 18, 19, 14, 20, 21, 22, 23, 24, 33, 34, 35, 36, 37, 38, 39, 40, 41, 42, 43, 44, 45, 46, 47, 48, 49, 50, 51, 52, 53, 54, 55, 56, 57, 58, 59, 60, 61, 62, 63, 64, 65, 66, 67, 68, 69, 70, 71, 72, 73, 74, 75, 76, 77, 78, 79, 80, 81, 82, 83, 84, 85] (by decide +kernel) (by decide +kernel)
set_option maxRecDepth 20000 in
theorem gX10_choose_X10_drawBelow : GoodIn wsX10_choose (wsV RX10 182 RX10 yX10_drawBelow wsX10_drawBelow) := goodIn_app (goodIn_of _ (by decide +kernel)) ggX10_choose_X10_drawBelow
set_option maxRecDepth 20000 in
theorem ggX10_choose_X10_put : GoodIn wsX10_choose wsX10_put := goodIn_r _ [28, 29, 30, 31, 32, 10, 33, 34, 35, 36, 37, 38, 39, 40, 41, 42, 43, 44, 45, 46, 47, 48, 49, 50, 51, 52, 53, 54, 55, 56, 57, 58, 59, 60, 61, 62, 63, 64, 65, 66, 67, 68, 69, 70, 71, 72, 73, 74, 75, 76, 77, 78, 79, 80, 81, 82, 83, 84, 85] (by decide +kernel) (by decide +kernel)
set_option maxRecDepth 20000 in
theorem gX10_choose_X10_put : GoodIn wsX10_choose (wsV RX10 215 RX10 yX10_put wsX10_put) := goodIn_app (goodIn_of _ (by decide +kernel)) ggX10_choose_X10_put
theorem dX10_choose_0 : decode cX10_choose 0 = .ok (.aload_n 0, 1) := by decide +kernel
theorem dX10_choose_1 : decode cX10_choose 1 = .ok (.getfield 80, 3) := by decide +kernel
theorem dX10_choose_4 : decode cX10_choose 4 = .ok (.aload_n 0, 1) := by decide +kernel
theorem dX10_choose_5 : decode cX10_choose 5 = .ok (.getfield 185, 3) := by decide +kernel
theorem dX10_choose_8 : decode cX10_choose 8 = .ok (.iconst 1, 1) := by decide +kernel
theorem dX10_choose_9 : decode cX10_choose 9 = .ok (.isub, 1) := by decide +kernel
theorem dX10_choose_10 : decode cX10_choose 10 = .ok (.iaload, 1) := by decide +kernel
theorem dX10_choose_11 : decode cX10_choose 11 = .ok (.istore_n 2, 1) := by decide +kernel
theorem dX10_choose_12 : decode cX10_choose 12 = .ok (.aload_n 0, 1) := by decide +kernel
theorem dX10_choose_13 : decode cX10_choose 13 = .ok (.iload_n 1, 1) := by decide +kernel
theorem dX10_choose_14 : decode cX10_choose 14 = .ok (.invokevirtual 182, 3) := by decide +kernel
theorem dX10_choose_17 : decode cX10_choose 17 = .ok (.istore_n 3, 1) := by decide +kernel
theorem dX10_choose_18 : decode cX10_choose 18 = .ok (.aload_n 0, 1) := by decide +kernel
theorem dX10_choose_19 : decode cX10_choose 19 = .ok (.dup, 1) := by decide +kernel
theorem dX10_choose_20 : decode cX10_choose 20 = .ok (.getfield 212, 3) := by decide +kernel
theorem dX10_choose_23 : decode cX10_choose 23 = .ok (.iconst 1, 1) := by decide +kernel
theorem dX10_choose_24 : decode cX10_choose 24 = .ok (.iadd, 1) := by decide +kernel
theorem dX10_choose_25 : decode cX10_choose 25 = .ok (.putfield 212, 3) := by decide +kernel
theorem dX10_choose_28 : decode cX10_choose 28 = .ok (.iconst (-1), 1) := by decide +kernel
theorem dX10_choose_29 : decode cX10_choose 29 = .ok (.istore 4, 2) := by decide +kernel
theorem dX10_choose_31 : decode cX10_choose 31 = .ok (.iconst 0, 1) := by decide +kernel
theorem dX10_choose_32 : decode cX10_choose 32 = .ok (.istore 5, 2) := by decide +kernel
theorem dX10_choose_34 : decode cX10_choose 34 = .ok (.iload 5, 2) := by decide +kernel
theorem dX10_choose_36 : decode cX10_choose 36 = .ok (.aload_n 0, 1) := by decide +kernel
theorem dX10_choose_37 : decode cX10_choose 37 = .ok (.getfield 19, 3) := by decide +kernel
theorem dX10_choose_40 : decode cX10_choose 40 = .ok (.iload_n 2, 1) := by decide +kernel
theorem dX10_choose_41 : decode cX10_choose 41 = .ok (.iaload, 1) := by decide +kernel
theorem dX10_choose_42 : decode cX10_choose 42 = .ok (.if_icmp .ge 65, 3) := by decide +kernel
theorem dX10_choose_45 : decode cX10_choose 45 = .ok (.iload 4, 2) := by decide +kernel
theorem dX10_choose_47 : decode cX10_choose 47 = .ok (.ifCond .ge 60, 3) := by decide +kernel
theorem dX10_choose_50 : decode cX10_choose 50 = .ok (.aload_n 0, 1) := by decide +kernel
theorem dX10_choose_51 : decode cX10_choose 51 = .ok (.getfield 107, 3) := by decide +kernel
theorem dX10_choose_54 : decode cX10_choose 54 = .ok (.aload_n 0, 1) := by decide +kernel
theorem dX10_choose_55 : decode cX10_choose 55 = .ok (.getfield 185, 3) := by decide +kernel
theorem dX10_choose_58 : decode cX10_choose 58 = .ok (.iconst 1, 1) := by decide +kernel
theorem dX10_choose_59 : decode cX10_choose 59 = .ok (.isub, 1) := by decide +kernel
theorem dX10_choose_60 : decode cX10_choose 60 = .ok (.laload, 1) := by decide +kernel
theorem dX10_choose_61 : decode cX10_choose 61 = .ok (.iload 5, 2) := by decide +kernel
theorem dX10_choose_63 : decode cX10_choose 63 = .ok (.lshr, 1) := by decide +kernel
theorem dX10_choose_64 : decode cX10_choose 64 = .ok (.lconst 1, 1) := by decide +kernel
theorem dX10_choose_65 : decode cX10_choose 65 = .ok (.land, 1) := by decide +kernel
theorem dX10_choose_66 : decode cX10_choose 66 = .ok (.lconst 0, 1) := by decide +kernel
theorem dX10_choose_67 : decode cX10_choose 67 = .ok (.lcmp, 1) := by decide +kernel
theorem dX10_choose_68 : decode cX10_choose 68 = .ok (.ifCond .ne 33, 3) := by decide +kernel
theorem dX10_choose_71 : decode cX10_choose 71 = .ok (.iload_n 3, 1) := by decide +kernel
theorem dX10_choose_72 : decode cX10_choose 72 = .ok (.aload_n 0, 1) := by decide +kernel
theorem dX10_choose_73 : decode cX10_choose 73 = .ok (.getfield 22, 3) := by decide +kernel
theorem dX10_choose_76 : decode cX10_choose 76 = .ok (.aload_n 0, 1) := by decide +kernel
theorem dX10_choose_77 : decode cX10_choose 77 = .ok (.getfield 16, 3) := by decide +kernel
theorem dX10_choose_80 : decode cX10_choose 80 = .ok (.iload_n 2, 1) := by decide +kernel
theorem dX10_choose_81 : decode cX10_choose 81 = .ok (.iaload, 1) := by decide +kernel
theorem dX10_choose_82 : decode cX10_choose 82 = .ok (.iload 5, 2) := by decide +kernel
theorem dX10_choose_84 : decode cX10_choose 84 = .ok (.iadd, 1) := by decide +kernel
theorem dX10_choose_85 : decode cX10_choose 85 = .ok (.iaload, 1) := by decide +kernel
theorem dX10_choose_86 : decode cX10_choose 86 = .ok (.isub, 1) := by decide +kernel
theorem dX10_choose_87 : decode cX10_choose 87 = .ok (.istore_n 3, 1) := by decide +kernel
theorem dX10_choose_88 : decode cX10_choose 88 = .ok (.iload_n 3, 1) := by decide +kernel
theorem dX10_choose_89 : decode cX10_choose 89 = .ok (.ifCond .ge 8, 3) := by decide +kernel
theorem dX10_choose_92 : decode cX10_choose 92 = .ok (.iload 5, 2) := by decide +kernel
theorem dX10_choose_94 : decode cX10_choose 94 = .ok (.goto 5, 3) := by decide +kernel
theorem dX10_choose_97 : decode cX10_choose 97 = .ok (.iload 4, 2) := by decide +kernel
theorem dX10_choose_99 : decode cX10_choose 99 = .ok (.istore 4, 2) := by decide +kernel
theorem dX10_choose_101 : decode cX10_choose 101 = .ok (.iinc 5 1, 3) := by decide +kernel
theorem dX10_choose_104 : decode cX10_choose 104 = .ok (.goto (-70), 3) := by decide +kernel
theorem dX10_choose_107 : decode cX10_choose 107 = .ok (.aload_n 0, 1) := by decide +kernel
theorem dX10_choose_108 : decode cX10_choose 108 = .ok (.getfield 107, 3) := by decide +kernel
theorem dX10_choose_111 : decode cX10_choose 111 = .ok (.aload_n 0, 1) := by decide +kernel
theorem dX10_choose_112 : decode cX10_choose 112 = .ok (.getfield 185, 3) := by decide +kernel
theorem dX10_choose_115 : decode cX10_choose 115 = .ok (.iconst 1, 1) := by decide +kernel
theorem dX10_choose_116 : decode cX10_choose 116 = .ok (.isub, 1) := by decide +kernel
theorem dX10_choose_117 : decode cX10_choose 117 = .ok (.dup2, 1) := by decide +kernel
theorem dX10_choose_118 : decode cX10_choose 118 = .ok (.laload, 1) := by decide +kernel
theorem dX10_choose_119 : decode cX10_choose 119 = .ok (.lconst 1, 1) := by decide +kernel
theorem dX10_choose_120 : decode cX10_choose 120 = .ok (.iload 4, 2) := by decide +kernel
theorem dX10_choose_122 : decode cX10_choose 122 = .ok (.lshl, 1) := by decide +kernel
theorem dX10_choose_123 : decode cX10_choose 123 = .ok (.lor, 1) := by decide +kernel
theorem dX10_choose_124 : decode cX10_choose 124 = .ok (.lastore, 1) := by decide +kernel
theorem dX10_choose_125 : decode cX10_choose 125 = .ok (.aload_n 0, 1) := by decide +kernel
theorem dX10_choose_126 : decode cX10_choose 126 = .ok (.getfield 16, 3) := by decide +kernel
theorem dX10_choose_129 : decode cX10_choose 129 = .ok (.iload_n 2, 1) := by decide +kernel
theorem dX10_choose_130 : decode cX10_choose 130 = .ok (.iaload, 1) := by decide +kernel
theorem dX10_choose_131 : decode cX10_choose 131 = .ok (.iload 4, 2) := by decide +kernel
theorem dX10_choose_133 : decode cX10_choose 133 = .ok (.iadd, 1) := by decide +kernel
theorem dX10_choose_134 : decode cX10_choose 134 = .ok (.istore 5, 2) := by decide +kernel
theorem dX10_choose_136 : decode cX10_choose 136 = .ok (.aload_n 0, 1) := by decide +kernel
theorem dX10_choose_137 : decode cX10_choose 137 = .ok (.getfield 28, 3) := by decide +kernel
theorem dX10_choose_140 : decode cX10_choose 140 = .ok (.iload 5, 2) := by decide +kernel
theorem dX10_choose_142 : decode cX10_choose 142 = .ok (.iaload, 1) := by decide +kernel
theorem dX10_choose_143 : decode cX10_choose 143 = .ok (.iconst 1, 1) := by decide +kernel
theorem dX10_choose_144 : decode cX10_choose 144 = .ok (.isub, 1) := by decide +kernel
theorem dX10_choose_145 : decode cX10_choose 145 = .ok (.istore 6, 2) := by decide +kernel
theorem dX10_choose_147 : decode cX10_choose 147 = .ok (.iload 6, 2) := by decide +kernel
theorem dX10_choose_149 : decode cX10_choose 149 = .ok (.ifCond .lt 23, 3) := by decide +kernel
theorem dX10_choose_152 : decode cX10_choose 152 = .ok (.aload_n 0, 1) := by decide +kernel
theorem dX10_choose_153 : decode cX10_choose 153 = .ok (.aload_n 0, 1) := by decide +kernel
theorem dX10_choose_154 : decode cX10_choose 154 = .ok (.getfield 25, 3) := by decide +kernel
theorem dX10_choose_157 : decode cX10_choose 157 = .ok (.iload 5, 2) := by decide +kernel
theorem dX10_choose_159 : decode cX10_choose 159 = .ok (.iaload, 1) := by decide +kernel
theorem dX10_choose_160 : decode cX10_choose 160 = .ok (.iload 6, 2) := by decide +kernel
theorem dX10_choose_162 : decode cX10_choose 162 = .ok (.iadd, 1) := by decide +kernel
theorem dX10_choose_163 : decode cX10_choose 163 = .ok (.invokevirtual 215, 3) := by decide +kernel
theorem dX10_choose_166 : decode cX10_choose 166 = .ok (.iinc 6 (-1), 3) := by decide +kernel
theorem dX10_choose_169 : decode cX10_choose 169 = .ok (.goto (-22), 3) := by decide +kernel
theorem dX10_choose_172 : decode cX10_choose 172 = .ok (.aload_n 0, 1) := by decide +kernel
theorem dX10_choose_173 : decode cX10_choose 173 = .ok (.getfield 191, 3) := by decide +kernel
theorem dX10_choose_176 : decode cX10_choose 176 = .ok (.sipush 200, 3) := by decide +kernel
theorem dX10_choose_179 : decode cX10_choose 179 = .ok (.if_icmp .gt 7, 3) := by decide +kernel
theorem dX10_choose_182 : decode cX10_choose 182 = .ok (.iconst 1, 1) := by decide +kernel
theorem dX10_choose_183 : decode cX10_choose 183 = .ok (.goto 4, 3) := by decide +kernel
theorem dX10_choose_186 : decode cX10_choose 186 = .ok (.iconst 0, 1) := by decide +kernel
theorem dX10_choose_187 : decode cX10_choose 187 = .ok (.ireturn, 1) := by decide +kernel
theorem dX10_put_0 : decode cX10_put 0 = .ok (.aload_n 0, 1) := by decide +kernel
theorem dX10_put_1 : decode cX10_put 1 = .ok (.getfield 74, 3) := by decide +kernel
theorem dX10_put_4 : decode cX10_put 4 = .ok (.aload_n 0, 1) := by decide +kernel
theorem dX10_put_5 : decode cX10_put 5 = .ok (.getfield 209, 3) := by decide +kernel
theorem dX10_put_8 : decode cX10_put 8 = .ok (.iload_n 1, 1) := by decide +kernel
theorem dX10_put_9 : decode cX10_put 9 = .ok (.iastore, 1) := by decide +kernel
theorem dX10_put_10 : decode cX10_put 10 = .ok (.aload_n 0, 1) := by decide +kernel
theorem dX10_put_11 : decode cX10_put 11 = .ok (.getfield 77, 3) := by decide +kernel
theorem dX10_put_14 : decode cX10_put 14 = .ok (.aload_n 0, 1) := by decide +kernel
theorem dX10_put_15 : decode cX10_put 15 = .ok (.getfield 209, 3) := by decide +kernel
theorem dX10_put_18 : decode cX10_put 18 = .ok (.aload_n 0, 1) := by decide +kernel
theorem dX10_put_19 : decode cX10_put 19 = .ok (.getfield 188, 3) := by decide +kernel
theorem dX10_put_22 : decode cX10_put 22 = .ok (.iastore, 1) := by decide +kernel
theorem dX10_put_23 : decode cX10_put 23 = .ok (.aload_n 0, 1) := by decide +kernel
theorem dX10_put_24 : decode cX10_put 24 = .ok (.aload_n 0, 1) := by decide +kernel
theorem dX10_put_25 : decode cX10_put 25 = .ok (.getfield 209, 3) := by decide +kernel
theorem dX10_put_28 : decode cX10_put 28 = .ok (.putfield 188, 3) := by decide +kernel
theorem dX10_put_31 : decode cX10_put 31 = .ok (.aload_n 0, 1) := by decide +kernel
theorem dX10_put_32 : decode cX10_put 32 = .ok (.dup, 1) := by decide +kernel
theorem dX10_put_33 : decode cX10_put 33 = .ok (.getfield 209, 3) := by decide +kernel
theorem dX10_put_36 : decode cX10_put 36 = .ok (.iconst 1, 1) := by decide +kernel
theorem dX10_put_37 : decode cX10_put 37 = .ok (.iadd, 1) := by decide +kernel
theorem dX10_put_38 : decode cX10_put 38 = .ok (.putfield 209, 3) := by decide +kernel
theorem dX10_put_41 : decode cX10_put 41 = .ok (.aload_n 0, 1) := by decide +kernel
theorem dX10_put_42 : decode cX10_put 42 = .ok (.dup, 1) := by decide +kernel
theorem dX10_put_43 : decode cX10_put 43 = .ok (.getfield 191, 3) := by decide +kernel
theorem dX10_put_46 : decode cX10_put 46 = .ok (.iconst 1, 1) := by decide +kernel
theorem dX10_put_47 : decode cX10_put 47 = .ok (.iadd, 1) := by decide +kernel
theorem dX10_put_48 : decode cX10_put 48 = .ok (.putfield 191, 3) := by decide +kernel
theorem dX10_put_51 : decode cX10_put 51 = .ok (.return_, 1) := by decide +kernel
theorem dX10_sound_0 : decode cX10_sound 0 = .ok (.aload_n 0, 1) := by decide +kernel
theorem dX10_sound_1 : decode cX10_sound 1 = .ok (.getfield 194, 3) := by decide +kernel
theorem dX10_sound_4 : decode cX10_sound 4 = .ok (.istore_n 3, 1) := by decide +kernel
theorem dX10_sound_5 : decode cX10_sound 5 = .ok (.aload_n 0, 1) := by decide +kernel
theorem dX10_sound_6 : decode cX10_sound 6 = .ok (.getfield 40, 3) := by decide +kernel
theorem dX10_sound_9 : decode cX10_sound 9 = .ok (.iload_n 1, 1) := by decide +kernel
theorem dX10_sound_10 : decode cX10_sound 10 = .ok (.iaload, 1) := by decide +kernel
theorem dX10_sound_11 : decode cX10_sound 11 = .ok (.istore 4, 2) := by decide +kernel
theorem dX10_sound_13 : decode cX10_sound 13 = .ok (.iload_n 3, 1) := by decide +kernel
theorem dX10_sound_14 : decode cX10_sound 14 = .ok (.iload 4, 2) := by decide +kernel
theorem dX10_sound_16 : decode cX10_sound 16 = .ok (.iadd, 1) := by decide +kernel
theorem dX10_sound_17 : decode cX10_sound 17 = .ok (.bipush 16, 2) := by decide +kernel
theorem dX10_sound_19 : decode cX10_sound 19 = .ok (.iload_n 2, 1) := by decide +kernel
theorem dX10_sound_20 : decode cX10_sound 20 = .ok (.imul, 1) := by decide +kernel
theorem dX10_sound_21 : decode cX10_sound 21 = .ok (.if_icmp .gt 33, 3) := by decide +kernel
theorem dX10_sound_24 : decode cX10_sound 24 = .ok (.aload_n 0, 1) := by decide +kernel
theorem dX10_sound_25 : decode cX10_sound 25 = .ok (.getfield 58, 3) := by decide +kernel
theorem dX10_sound_28 : decode cX10_sound 28 = .ok (.iconst 4, 1) := by decide +kernel
theorem dX10_sound_29 : decode cX10_sound 29 = .ok (.iaload, 1) := by decide +kernel
theorem dX10_sound_30 : decode cX10_sound 30 = .ok (.iconst 1, 1) := by decide +kernel
theorem dX10_sound_31 : decode cX10_sound 31 = .ok (.if_icmp .eq 19, 3) := by decide +kernel
theorem dX10_sound_34 : decode cX10_sound 34 = .ok (.iload_n 3, 1) := by decide +kernel
theorem dX10_sound_35 : decode cX10_sound 35 = .ok (.bipush 16, 2) := by decide +kernel
theorem dX10_sound_37 : decode cX10_sound 37 = .ok (.idiv, 1) := by decide +kernel
theorem dX10_sound_38 : decode cX10_sound 38 = .ok (.iload_n 3, 1) := by decide +kernel
theorem dX10_sound_39 : decode cX10_sound 39 = .ok (.iload 4, 2) := by decide +kernel
theorem dX10_sound_41 : decode cX10_sound 41 = .ok (.iadd, 1) := by decide +kernel
theorem dX10_sound_42 : decode cX10_sound 42 = .ok (.iconst 1, 1) := by decide +kernel
theorem dX10_sound_43 : decode cX10_sound 43 = .ok (.isub, 1) := by decide +kernel
theorem dX10_sound_44 : decode cX10_sound 44 = .ok (.bipush 16, 2) := by decide +kernel
theorem dX10_sound_46 : decode cX10_sound 46 = .ok (.idiv, 1) := by decide +kernel
theorem dX10_sound_47 : decode cX10_sound 47 = .ok (.if_icmp .ne 7, 3) := by decide +kernel
theorem dX10_sound_50 : decode cX10_sound 50 = .ok (.iconst 1, 1) := by decide +kernel
theorem dX10_sound_51 : decode cX10_sound 51 = .ok (.goto 4, 3) := by decide +kernel
theorem dX10_sound_54 : decode cX10_sound 54 = .ok (.iconst 0, 1) := by decide +kernel
theorem dX10_sound_55 : decode cX10_sound 55 = .ok (.istore 5, 2) := by decide +kernel
theorem dX10_sound_57 : decode cX10_sound 57 = .ok (.iconst (-1), 1) := by decide +kernel
theorem dX10_sound_58 : decode cX10_sound 58 = .ok (.istore 6, 2) := by decide +kernel
theorem dX10_sound_60 : decode cX10_sound 60 = .ok (.aload_n 0, 1) := by decide +kernel
theorem dX10_sound_61 : decode cX10_sound 61 = .ok (.getfield 31, 3) := by decide +kernel
theorem dX10_sound_64 : decode cX10_sound 64 = .ok (.iload_n 1, 1) := by decide +kernel
theorem dX10_sound_65 : decode cX10_sound 65 = .ok (.iaload, 1) := by decide +kernel
theorem dX10_sound_66 : decode cX10_sound 66 = .ok (.iconst 1, 1) := by decide +kernel
theorem dX10_sound_67 : decode cX10_sound 67 = .ok (.if_icmp .ne 163, 3) := by decide +kernel
theorem dX10_sound_70 : decode cX10_sound 70 = .ok (.bipush 60, 2) := by decide +kernel
theorem dX10_sound_72 : decode cX10_sound 72 = .ok (.aload_n 0, 1) := by decide +kernel
theorem dX10_sound_73 : decode cX10_sound 73 = .ok (.getfield 7, 3) := by decide +kernel
theorem dX10_sound_76 : decode cX10_sound 76 = .ok (.aload_n 0, 1) := by decide +kernel
theorem dX10_sound_77 : decode cX10_sound 77 = .ok (.getfield 34, 3) := by decide +kernel
theorem dX10_sound_80 : decode cX10_sound 80 = .ok (.iload_n 1, 1) := by decide +kernel
theorem dX10_sound_81 : decode cX10_sound 81 = .ok (.iaload, 1) := by decide +kernel
theorem dX10_sound_82 : decode cX10_sound 82 = .ok (.iaload, 1) := by decide +kernel
theorem dX10_sound_83 : decode cX10_sound 83 = .ok (.iadd, 1) := by decide +kernel
theorem dX10_sound_84 : decode cX10_sound 84 = .ok (.bipush 12, 2) := by decide +kernel
theorem dX10_sound_86 : decode cX10_sound 86 = .ok (.aload_n 0, 1) := by decide +kernel
theorem dX10_sound_87 : decode cX10_sound 87 = .ok (.getfield 37, 3) := by decide +kernel
theorem dX10_sound_90 : decode cX10_sound 90 = .ok (.iload_n 1, 1) := by decide +kernel
theorem dX10_sound_91 : decode cX10_sound 91 = .ok (.iaload, 1) := by decide +kernel
theorem dX10_sound_92 : decode cX10_sound 92 = .ok (.imul, 1) := by decide +kernel
theorem dX10_sound_93 : decode cX10_sound 93 = .ok (.iadd, 1) := by decide +kernel
theorem dX10_sound_94 : decode cX10_sound 94 = .ok (.istore 6, 2) := by decide +kernel
theorem dX10_sound_96 : decode cX10_sound 96 = .ok (.aload_n 0, 1) := by decide +kernel
theorem dX10_sound_97 : decode cX10_sound 97 = .ok (.getfield 200, 3) := by decide +kernel
theorem dX10_sound_100 : decode cX10_sound 100 = .ok (.ifCond .ge 7, 3) := by decide +kernel
theorem dX10_sound_103 : decode cX10_sound 103 = .ok (.iconst 0, 1) := by decide +kernel
theorem dX10_sound_104 : decode cX10_sound 104 = .ok (.goto 29, 3) := by decide +kernel
theorem dX10_sound_107 : decode cX10_sound 107 = .ok (.iload 6, 2) := by decide +kernel
theorem dX10_sound_109 : decode cX10_sound 109 = .ok (.aload_n 0, 1) := by decide +kernel
theorem dX10_sound_110 : decode cX10_sound 110 = .ok (.getfield 200, 3) := by decide +kernel
theorem dX10_sound_113 : decode cX10_sound 113 = .ok (.if_icmp .le 13, 3) := by decide +kernel
theorem dX10_sound_116 : decode cX10_sound 116 = .ok (.iload 6, 2) := by decide +kernel
theorem dX10_sound_118 : decode cX10_sound 118 = .ok (.aload_n 0, 1) := by decide +kernel
theorem dX10_sound_119 : decode cX10_sound 119 = .ok (.getfield 200, 3) := by decide +kernel
theorem dX10_sound_122 : decode cX10_sound 122 = .ok (.isub, 1) := by decide +kernel
theorem dX10_sound_123 : decode cX10_sound 123 = .ok (.goto 10, 3) := by decide +kernel
theorem dX10_sound_126 : decode cX10_sound 126 = .ok (.aload_n 0, 1) := by decide +kernel
theorem dX10_sound_127 : decode cX10_sound 127 = .ok (.getfield 200, 3) := by decide +kernel
theorem dX10_sound_130 : decode cX10_sound 130 = .ok (.iload 6, 2) := by decide +kernel
theorem dX10_sound_132 : decode cX10_sound 132 = .ok (.isub, 1) := by decide +kernel
theorem dX10_sound_133 : decode cX10_sound 133 = .ok (.istore 7, 2) := by decide +kernel
theorem dX10_sound_135 : decode cX10_sound 135 = .ok (.aload_n 0, 1) := by decide +kernel
theorem dX10_sound_136 : decode cX10_sound 136 = .ok (.iload 6, 2) := by decide +kernel
theorem dX10_sound_138 : decode cX10_sound 138 = .ok (.aload_n 0, 1) := by decide +kernel
theorem dX10_sound_139 : decode cX10_sound 139 = .ok (.getfield 200, 3) := by decide +kernel
theorem dX10_sound_142 : decode cX10_sound 142 = .ok (.if_icmp .ne 12, 3) := by decide +kernel
theorem dX10_sound_145 : decode cX10_sound 145 = .ok (.aload_n 0, 1) := by decide +kernel
theorem dX10_sound_146 : decode cX10_sound 146 = .ok (.getfield 206, 3) := by decide +kernel
theorem dX10_sound_149 : decode cX10_sound 149 = .ok (.iconst 1, 1) := by decide +kernel
theorem dX10_sound_150 : decode cX10_sound 150 = .ok (.iadd, 1) := by decide +kernel
theorem dX10_sound_151 : decode cX10_sound 151 = .ok (.goto 4, 3) := by decide +kernel
theorem dX10_sound_154 : decode cX10_sound 154 = .ok (.iconst 1, 1) := by decide +kernel
theorem dX10_sound_155 : decode cX10_sound 155 = .ok (.putfield 206, 3) := by decide +kernel
theorem dX10_sound_158 : decode cX10_sound 158 = .ok (.iload 5, 2) := by decide +kernel
theorem dX10_sound_160 : decode cX10_sound 160 = .ok (.iload 6, 2) := by decide +kernel
theorem dX10_sound_162 : decode cX10_sound 162 = .ok (.aload_n 0, 1) := by decide +kernel
theorem dX10_sound_163 : decode cX10_sound 163 = .ok (.getfield 58, 3) := by decide +kernel
theorem dX10_sound_166 : decode cX10_sound 166 = .ok (.iconst 0, 1) := by decide +kernel
theorem dX10_sound_167 : decode cX10_sound 167 = .ok (.iaload, 1) := by decide +kernel
theorem dX10_sound_168 : decode cX10_sound 168 = .ok (.if_icmp .lt 42, 3) := by decide +kernel
theorem dX10_sound_171 : decode cX10_sound 171 = .ok (.iload 6, 2) := by decide +kernel
theorem dX10_sound_173 : decode cX10_sound 173 = .ok (.aload_n 0, 1) := by decide +kernel
theorem dX10_sound_174 : decode cX10_sound 174 = .ok (.getfield 58, 3) := by decide +kernel
theorem dX10_sound_177 : decode cX10_sound 177 = .ok (.iconst 1, 1) := by decide +kernel
theorem dX10_sound_178 : decode cX10_sound 178 = .ok (.iaload, 1) := by decide +kernel
theorem dX10_sound_179 : decode cX10_sound 179 = .ok (.if_icmp .gt 31, 3) := by decide +kernel
theorem dX10_sound_182 : decode cX10_sound 182 = .ok (.iload 7, 2) := by decide +kernel
theorem dX10_sound_184 : decode cX10_sound 184 = .ok (.aload_n 0, 1) := by decide +kernel
theorem dX10_sound_185 : decode cX10_sound 185 = .ok (.getfield 58, 3) := by decide +kernel
theorem dX10_sound_188 : decode cX10_sound 188 = .ok (.iconst 2, 1) := by decide +kernel
theorem dX10_sound_189 : decode cX10_sound 189 = .ok (.iaload, 1) := by decide +kernel
theorem dX10_sound_190 : decode cX10_sound 190 = .ok (.if_icmp .gt 20, 3) := by decide +kernel
theorem dX10_sound_193 : decode cX10_sound 193 = .ok (.aload_n 0, 1) := by decide +kernel
theorem dX10_sound_194 : decode cX10_sound 194 = .ok (.getfield 206, 3) := by decide +kernel
theorem dX10_sound_197 : decode cX10_sound 197 = .ok (.aload_n 0, 1) := by decide +kernel
theorem dX10_sound_198 : decode cX10_sound 198 = .ok (.getfield 58, 3) := by decide +kernel
theorem dX10_sound_201 : decode cX10_sound 201 = .ok (.iconst 3, 1) := by decide +kernel
theorem dX10_sound_202 : decode cX10_sound 202 = .ok (.iaload, 1) := by decide +kernel
theorem dX10_sound_203 : decode cX10_sound 203 = .ok (.if_icmp .gt 7, 3) := by decide +kernel
theorem dX10_sound_206 : decode cX10_sound 206 = .ok (.iconst 1, 1) := by decide +kernel
theorem dX10_sound_207 : decode cX10_sound 207 = .ok (.goto 4, 3) := by decide +kernel
theorem dX10_sound_210 : decode cX10_sound 210 = .ok (.iconst 0, 1) := by decide +kernel
theorem dX10_sound_211 : decode cX10_sound 211 = .ok (.iand, 1) := by decide +kernel
theorem dX10_sound_212 : decode cX10_sound 212 = .ok (.istore 5, 2) := by decide +kernel
theorem dX10_sound_214 : decode cX10_sound 214 = .ok (.aload_n 0, 1) := by decide +kernel
theorem dX10_sound_215 : decode cX10_sound 215 = .ok (.iload 6, 2) := by decide +kernel
theorem dX10_sound_217 : decode cX10_sound 217 = .ok (.putfield 200, 3) := by decide +kernel
theorem dX10_sound_220 : decode cX10_sound 220 = .ok (.aload_n 0, 1) := by decide +kernel
theorem dX10_sound_221 : decode cX10_sound 221 = .ok (.aload_n 0, 1) := by decide +kernel
theorem dX10_sound_222 : decode cX10_sound 222 = .ok (.getfield 34, 3) := by decide +kernel
theorem dX10_sound_225 : decode cX10_sound 225 = .ok (.iload_n 1, 1) := by decide +kernel
theorem dX10_sound_226 : decode cX10_sound 226 = .ok (.iaload, 1) := by decide +kernel
theorem dX10_sound_227 : decode cX10_sound 227 = .ok (.putfield 203, 3) := by decide +kernel
theorem dX10_sound_230 : decode cX10_sound 230 = .ok (.iload 5, 2) := by decide +kernel
theorem dX10_sound_232 : decode cX10_sound 232 = .ok (.ifCond .eq 80, 3) := by decide +kernel
theorem dX10_sound_235 : decode cX10_sound 235 = .ok (.aload_n 0, 1) := by decide +kernel
theorem dX10_sound_236 : decode cX10_sound 236 = .ok (.getfield 61, 3) := by decide +kernel
theorem dX10_sound_239 : decode cX10_sound 239 = .ok (.aload_n 0, 1) := by decide +kernel
theorem dX10_sound_240 : decode cX10_sound 240 = .ok (.getfield 197, 3) := by decide +kernel
theorem dX10_sound_243 : decode cX10_sound 243 = .ok (.iload 6, 2) := by decide +kernel
theorem dX10_sound_245 : decode cX10_sound 245 = .ok (.iastore, 1) := by decide +kernel
theorem dX10_sound_246 : decode cX10_sound 246 = .ok (.aload_n 0, 1) := by decide +kernel
theorem dX10_sound_247 : decode cX10_sound 247 = .ok (.getfield 64, 3) := by decide +kernel
theorem dX10_sound_250 : decode cX10_sound 250 = .ok (.aload_n 0, 1) := by decide +kernel
theorem dX10_sound_251 : decode cX10_sound 251 = .ok (.getfield 197, 3) := by decide +kernel
theorem dX10_sound_254 : decode cX10_sound 254 = .ok (.iload 4, 2) := by decide +kernel
theorem dX10_sound_256 : decode cX10_sound 256 = .ok (.iastore, 1) := by decide +kernel
theorem dX10_sound_257 : decode cX10_sound 257 = .ok (.aload_n 0, 1) := by decide +kernel
theorem dX10_sound_258 : decode cX10_sound 258 = .ok (.getfield 67, 3) := by decide +kernel
theorem dX10_sound_261 : decode cX10_sound 261 = .ok (.aload_n 0, 1) := by decide +kernel
theorem dX10_sound_262 : decode cX10_sound 262 = .ok (.getfield 197, 3) := by decide +kernel
theorem dX10_sound_265 : decode cX10_sound 265 = .ok (.iload_n 3, 1) := by decide +kernel
theorem dX10_sound_266 : decode cX10_sound 266 = .ok (.iastore, 1) := by decide +kernel
theorem dX10_sound_267 : decode cX10_sound 267 = .ok (.aload_n 0, 1) := by decide +kernel
theorem dX10_sound_268 : decode cX10_sound 268 = .ok (.getfield 70, 3) := by decide +kernel
theorem dX10_sound_271 : decode cX10_sound 271 = .ok (.aload_n 0, 1) := by decide +kernel
theorem dX10_sound_272 : decode cX10_sound 272 = .ok (.getfield 197, 3) := by decide +kernel
theorem dX10_sound_275 : decode cX10_sound 275 = .ok (.iload 6, 2) := by decide +kernel
theorem dX10_sound_277 : decode cX10_sound 277 = .ok (.ifCond .ge 7, 3) := by decide +kernel
theorem dX10_sound_280 : decode cX10_sound 280 = .ok (.iconst (-1), 1) := by decide +kernel
theorem dX10_sound_281 : decode cX10_sound 281 = .ok (.goto 9, 3) := by decide +kernel
theorem dX10_sound_284 : decode cX10_sound 284 = .ok (.aload_n 0, 1) := by decide +kernel
theorem dX10_sound_285 : decode cX10_sound 285 = .ok (.getfield 34, 3) := by decide +kernel
theorem dX10_sound_288 : decode cX10_sound 288 = .ok (.iload_n 1, 1) := by decide +kernel
theorem dX10_sound_289 : decode cX10_sound 289 = .ok (.iaload, 1) := by decide +kernel
theorem dX10_sound_290 : decode cX10_sound 290 = .ok (.iastore, 1) := by decide +kernel
theorem dX10_sound_291 : decode cX10_sound 291 = .ok (.aload_n 0, 1) := by decide +kernel
theorem dX10_sound_292 : decode cX10_sound 292 = .ok (.dup, 1) := by decide +kernel
theorem dX10_sound_293 : decode cX10_sound 293 = .ok (.getfield 197, 3) := by decide +kernel
theorem dX10_sound_296 : decode cX10_sound 296 = .ok (.iconst 1, 1) := by decide +kernel
theorem dX10_sound_297 : decode cX10_sound 297 = .ok (.iadd, 1) := by decide +kernel
theorem dX10_sound_298 : decode cX10_sound 298 = .ok (.putfield 197, 3) := by decide +kernel
theorem dX10_sound_301 : decode cX10_sound 301 = .ok (.aload_n 0, 1) := by decide +kernel
theorem dX10_sound_302 : decode cX10_sound 302 = .ok (.dup, 1) := by decide +kernel
theorem dX10_sound_303 : decode cX10_sound 303 = .ok (.getfield 194, 3) := by decide +kernel
theorem dX10_sound_306 : decode cX10_sound 306 = .ok (.iload 4, 2) := by decide +kernel
theorem dX10_sound_308 : decode cX10_sound 308 = .ok (.iadd, 1) := by decide +kernel
theorem dX10_sound_309 : decode cX10_sound 309 = .ok (.putfield 194, 3) := by decide +kernel
theorem dX10_sound_312 : decode cX10_sound 312 = .ok (.iload 5, 2) := by decide +kernel
theorem dX10_sound_314 : decode cX10_sound 314 = .ok (.ireturn, 1) := by decide +kernel
set_option maxRecDepth 20000 in
theorem ggX10_make_X10_put : GoodIn wsX10_make wsX10_put := goodIn_r _ [24, 18, 5, 19, 6, 7, 79, 80, 81, 82, 83, 84, 85, 86, 87, 88, 89, 90, 91, 92, 93, 94, 95, 96, 97, 98, 99, 100, 101, 102, 103, 104, 105, 106, 107, 108, 109, 110, 111, 112, 113, 114, 115, 116, 117, 118, 119, 120, 121, 122, 123, 124, 125, 126, 127, 128, 129, 130, 131] (by decide +kernel) (by decide +kernel)
set_option maxRecDepth 20000 in
theorem gX10_make_X10_put : GoodIn wsX10_make (wsV RX10 215 RX10 yX10_put wsX10_put) := goodIn_app (goodIn_of _ (by decide +kernel)) ggX10_make_X10_put
set_option maxRecDepth 20000 in
theorem ggX10_make_X10_keep : GoodIn wsX10_make wsX10_keep := goodIn_r _ [28, 29, 13, 30, 6, 31, 7, 32, 8, 33, 9, 34, 10, 35, 11, 36, 12, 37, 5, 38, 79, 80, 81, 82, 83, 84, 85, 86, 87, 88, 89, 90, 91, 92, 93, 94, 95, 96, 97, 98, 99, 100, 101, 102, 103, 104, 105, 106, 107, 108, 109, 110, 111, 112, 113, 114, 115, 116, 117, 118, 119, 120, 121, 122, 123, 124, 125, 126, 127, 128, 129, 130, 131] (by decide +kernel) (by decide +kernel)
set_option maxRecDepth 20000 in
theorem gX10_make_X10_keep : GoodIn wsX10_make (wsV RX10 221 RX10 yX10_keep wsX10_keep) := goodIn_app (goodIn_of _ (by decide +kernel)) ggX10_make_X10_keep
set_option maxRecDepth 20000 in
theorem ggX10_make_X10_sound : GoodIn wsX10_make wsX10_sound := goodIn_r _ [42, 8, 43, 17, 14, 44, 15, 45, 10, 12, 11, 46, 9, 47, 48, 49, 79, 80, 81, 82, 83, 84, 85, 86, 87, 88, 89, 90, 91, 92, 93, 94, 95, 96, 97, 98, 99, 100, 101, 102, 103, 104, 105, 106, 107, 108, 109, 110, 111, 112, 113, 114, 115, 116, 117, 118, 119, 120, 121, 122, 123, 124, 125, 126, 127, 128, 129, 130, 131] (by decide +kernel) (by decide +kernel)
set_option maxRecDepth 20000 in
theorem gX10_make_X10_sound : GoodIn wsX10_make (wsV RX10 224 RX10 yX10_sound wsX10_sound) := goodIn_app (goodIn_of _ (by decide +kernel)) ggX10_make_X10_sound
set_option maxRecDepth 20000 in
theorem ggX10_make_X10_back : GoodIn wsX10_make wsX10_back := goodIn_r _ [53, 13, 30, 6, 31, 7, 32, 8, 33, 9, 34, 10, 35, 11, 36, 12, 37, 5, 79, 80, 81, 82, 83, 84, 85, 86, 87, 88, 89, 90, 91, 92, 93, 94, 95, 96, 97, 98, 99, 100, 101, 102, 103, 104, 105, 106, 107, 108, 109, 110, 111, 112, 113, 114, 115, 116, 117, 118, 119, 120, 121, 122, 123, 124, 125, 126, 127, 128, 129, 130, 131] (by decide +kernel) (by decide +kernel)
set_option maxRecDepth 20000 in
theorem gX10_make_X10_back : GoodIn wsX10_make (wsV RX10 228 RX10 yX10_back wsX10_back) := goodIn_app (goodIn_of _ (by decide +kernel)) ggX10_make_X10_back
set_option maxRecDepth 20000 in
theorem ggX10_make_X10_left : GoodIn wsX10_make wsX10_left := goodIn_r _ [57, 29, 13, 58, 38, 59, 60, 79, 80, 81, 82, 83, 84, 85, 86, 87, 88, 89, 90, 91, 92, 93, 94, 95, 96, 97, 98, 99, 100, 101, 102, 103, 104, 105, 106, 107, 108, 109, 110, 111, 112, 113, 114, 115, 116, 117, 118, 119, 120, 121, 122, 123, 124, 125, 126, 127, 128, 129, 130, 131] (by decide +kernel) (by decide +kernel)
set_option maxRecDepth 20000 in
theorem gX10_make_X10_left : GoodIn wsX10_make (wsV RX10 231 RX10 yX10_left wsX10_left) := goodIn_app (goodIn_of _ (by decide +kernel)) ggX10_make_X10_left
set_option maxRecDepth 20000 in
theorem ggX10_make_X10_choose : GoodIn wsX10_make wsX10_choose := goodIn_r _ [64, 29, 13, 3, 58, 38, 59, 60, 65, 66, 7, 67, 68, 69, 23, 70, 71, 72, 73, 74, 75, 2, 76, 77, 78, 20, 21, 22, 24, 18, 5, 19, 6, 79, 80, 81, 82, 83, 84, 85, 86, 87, 88, 89, 90, 91, 92, 93, 94, 95, 96, 97, 98, 99, 100, 101, 102, 103, 104, 105, 106, 107, 108, 109, 110, 111, 112, 113, 114, 115, 116, 117, 118, 119, 120, 121, 122, 123, 124, 125, 126, 127, 128, 129, 130, 131] (by decide +kernel) (by decide +kernel)
set_option maxRecDepth 20000 in
theorem gX10_make_X10_choose : GoodIn wsX10_make (wsV RX10 234 RX10 yX10_choose wsX10_choose) := goodIn_app (goodIn_of _ (by decide +kernel)) ggX10_make_X10_choose
theorem dX10_make_0 : decode cX10_make 0 = .ok (.iload_n 1, 1) := by decide +kernel
theorem dX10_make_1 : decode cX10_make 1 = .ok (.iconst 1, 1) := by decide +kernel
theorem dX10_make_2 : decode cX10_make 2 = .ok (.if_icmp .lt 9, 3) := by decide +kernel
theorem dX10_make_5 : decode cX10_make 5 = .ok (.iload_n 1, 1) := by decide +kernel
theorem dX10_make_6 : decode cX10_make 6 = .ok (.bipush 16, 2) := by decide +kernel
theorem dX10_make_8 : decode cX10_make 8 = .ok (.if_icmp .le 6, 3) := by decide +kernel
theorem dX10_make_11 : decode cX10_make 11 = .ok (.bipush (-2), 2) := by decide +kernel
theorem dX10_make_13 : decode cX10_make 13 = .ok (.ireturn, 1) := by decide +kernel
theorem dX10_make_14 : decode cX10_make 14 = .ok (.aload_n 0, 1) := by decide +kernel
theorem dX10_make_15 : decode cX10_make 15 = .ok (.getfield 46, 3) := by decide +kernel
theorem dX10_make_18 : decode cX10_make 18 = .ok (.iconst 0, 1) := by decide +kernel
theorem dX10_make_19 : decode cX10_make 19 = .ok (.iaload, 1) := by decide +kernel
theorem dX10_make_20 : decode cX10_make 20 = .ok (.ifCond .ne 6, 3) := by decide +kernel
theorem dX10_make_23 : decode cX10_make 23 = .ok (.bipush (-3), 2) := by decide +kernel
theorem dX10_make_25 : decode cX10_make 25 = .ok (.ireturn, 1) := by decide +kernel
theorem dX10_make_26 : decode cX10_make 26 = .ok (.aload_n 0, 1) := by decide +kernel
theorem dX10_make_27 : decode cX10_make 27 = .ok (.lload_n 2, 1) := by decide +kernel
theorem dX10_make_28 : decode cX10_make 28 = .ok (.putfield 166, 3) := by decide +kernel
theorem dX10_make_31 : decode cX10_make 31 = .ok (.aload_n 0, 1) := by decide +kernel
theorem dX10_make_32 : decode cX10_make 32 = .ok (.iconst 0, 1) := by decide +kernel
theorem dX10_make_33 : decode cX10_make 33 = .ok (.putfield 212, 3) := by decide +kernel
theorem dX10_make_36 : decode cX10_make 36 = .ok (.aload_n 0, 1) := by decide +kernel
theorem dX10_make_37 : decode cX10_make 37 = .ok (.iconst 0, 1) := by decide +kernel
theorem dX10_make_38 : decode cX10_make 38 = .ok (.putfield 218, 3) := by decide +kernel
theorem dX10_make_41 : decode cX10_make 41 = .ok (.aload_n 0, 1) := by decide +kernel
theorem dX10_make_42 : decode cX10_make 42 = .ok (.iconst 0, 1) := by decide +kernel
theorem dX10_make_43 : decode cX10_make 43 = .ok (.putfield 209, 3) := by decide +kernel
theorem dX10_make_46 : decode cX10_make 46 = .ok (.aload_n 0, 1) := by decide +kernel
theorem dX10_make_47 : decode cX10_make 47 = .ok (.iconst (-1), 1) := by decide +kernel
theorem dX10_make_48 : decode cX10_make 48 = .ok (.putfield 188, 3) := by decide +kernel
theorem dX10_make_51 : decode cX10_make 51 = .ok (.aload_n 0, 1) := by decide +kernel
theorem dX10_make_52 : decode cX10_make 52 = .ok (.iconst 0, 1) := by decide +kernel
theorem dX10_make_53 : decode cX10_make 53 = .ok (.putfield 191, 3) := by decide +kernel
theorem dX10_make_56 : decode cX10_make 56 = .ok (.aload_n 0, 1) := by decide +kernel
theorem dX10_make_57 : decode cX10_make 57 = .ok (.iconst 0, 1) := by decide +kernel
theorem dX10_make_58 : decode cX10_make 58 = .ok (.putfield 194, 3) := by decide +kernel
theorem dX10_make_61 : decode cX10_make 61 = .ok (.aload_n 0, 1) := by decide +kernel
theorem dX10_make_62 : decode cX10_make 62 = .ok (.iconst 0, 1) := by decide +kernel
theorem dX10_make_63 : decode cX10_make 63 = .ok (.putfield 197, 3) := by decide +kernel
theorem dX10_make_66 : decode cX10_make 66 = .ok (.aload_n 0, 1) := by decide +kernel
theorem dX10_make_67 : decode cX10_make 67 = .ok (.iconst (-1), 1) := by decide +kernel
theorem dX10_make_68 : decode cX10_make 68 = .ok (.putfield 200, 3) := by decide +kernel
theorem dX10_make_71 : decode cX10_make 71 = .ok (.aload_n 0, 1) := by decide +kernel
theorem dX10_make_72 : decode cX10_make 72 = .ok (.iconst (-1), 1) := by decide +kernel
theorem dX10_make_73 : decode cX10_make 73 = .ok (.putfield 203, 3) := by decide +kernel
theorem dX10_make_76 : decode cX10_make 76 = .ok (.aload_n 0, 1) := by decide +kernel
theorem dX10_make_77 : decode cX10_make 77 = .ok (.iconst 0, 1) := by decide +kernel
theorem dX10_make_78 : decode cX10_make 78 = .ok (.putfield 206, 3) := by decide +kernel
theorem dX10_make_81 : decode cX10_make 81 = .ok (.aload_n 0, 1) := by decide +kernel
theorem dX10_make_82 : decode cX10_make 82 = .ok (.iconst 0, 1) := by decide +kernel
theorem dX10_make_83 : decode cX10_make 83 = .ok (.putfield 185, 3) := by decide +kernel
theorem dX10_make_86 : decode cX10_make 86 = .ok (.aload_n 0, 1) := by decide +kernel
theorem dX10_make_87 : decode cX10_make 87 = .ok (.getfield 31, 3) := by decide +kernel
theorem dX10_make_90 : decode cX10_make 90 = .ok (.sipush 240, 3) := by decide +kernel
theorem dX10_make_93 : decode cX10_make 93 = .ok (.iconst 0, 1) := by decide +kernel
theorem dX10_make_94 : decode cX10_make 94 = .ok (.iastore, 1) := by decide +kernel
theorem dX10_make_95 : decode cX10_make 95 = .ok (.aload_n 0, 1) := by decide +kernel
theorem dX10_make_96 : decode cX10_make 96 = .ok (.getfield 34, 3) := by decide +kernel
theorem dX10_make_99 : decode cX10_make 99 = .ok (.sipush 240, 3) := by decide +kernel
theorem dX10_make_102 : decode cX10_make 102 = .ok (.aload_n 0, 1) := by decide +kernel
theorem dX10_make_103 : decode cX10_make 103 = .ok (.getfield 55, 3) := by decide +kernel
theorem dX10_make_106 : decode cX10_make 106 = .ok (.iconst 0, 1) := by decide +kernel
theorem dX10_make_107 : decode cX10_make 107 = .ok (.iaload, 1) := by decide +kernel
theorem dX10_make_108 : decode cX10_make 108 = .ok (.iastore, 1) := by decide +kernel
theorem dX10_make_109 : decode cX10_make 109 = .ok (.aload_n 0, 1) := by decide +kernel
theorem dX10_make_110 : decode cX10_make 110 = .ok (.sipush 240, 3) := by decide +kernel
theorem dX10_make_113 : decode cX10_make 113 = .ok (.invokevirtual 215, 3) := by decide +kernel
theorem dX10_make_116 : decode cX10_make 116 = .ok (.iconst 1, 1) := by decide +kernel
theorem dX10_make_117 : decode cX10_make 117 = .ok (.istore 4, 2) := by decide +kernel
theorem dX10_make_119 : decode cX10_make 119 = .ok (.iconst 0, 1) := by decide +kernel
theorem dX10_make_120 : decode cX10_make 120 = .ok (.istore 5, 2) := by decide +kernel
theorem dX10_make_122 : decode cX10_make 122 = .ok (.aload_n 0, 1) := by decide +kernel
theorem dX10_make_123 : decode cX10_make 123 = .ok (.getfield 188, 3) := by decide +kernel
theorem dX10_make_126 : decode cX10_make 126 = .ok (.ifCond .ge 61, 3) := by decide +kernel
theorem dX10_make_129 : decode cX10_make 129 = .ok (.aload_n 0, 1) := by decide +kernel
theorem dX10_make_130 : decode cX10_make 130 = .ok (.getfield 194, 3) := by decide +kernel
theorem dX10_make_133 : decode cX10_make 133 = .ok (.bipush 16, 2) := by decide +kernel
theorem dX10_make_135 : decode cX10_make 135 = .ok (.iload_n 1, 1) := by decide +kernel
theorem dX10_make_136 : decode cX10_make 136 = .ok (.imul, 1) := by decide +kernel
theorem dX10_make_137 : decode cX10_make 137 = .ok (.if_icmp .ne 29, 3) := by decide +kernel
theorem dX10_make_140 : decode cX10_make 140 = .ok (.aload_n 0, 1) := by decide +kernel
theorem dX10_make_141 : decode cX10_make 141 = .ok (.getfield 58, 3) := by decide +kernel
theorem dX10_make_144 : decode cX10_make 144 = .ok (.iconst 5, 1) := by decide +kernel
theorem dX10_make_145 : decode cX10_make 145 = .ok (.iaload, 1) := by decide +kernel
theorem dX10_make_146 : decode cX10_make 146 = .ok (.ifCond .lt 16, 3) := by decide +kernel
theorem dX10_make_149 : decode cX10_make 149 = .ok (.aload_n 0, 1) := by decide +kernel
theorem dX10_make_150 : decode cX10_make 150 = .ok (.getfield 203, 3) := by decide +kernel
theorem dX10_make_153 : decode cX10_make 153 = .ok (.aload_n 0, 1) := by decide +kernel
theorem dX10_make_154 : decode cX10_make 154 = .ok (.getfield 58, 3) := by decide +kernel
theorem dX10_make_157 : decode cX10_make 157 = .ok (.iconst 5, 1) := by decide +kernel
theorem dX10_make_158 : decode cX10_make 158 = .ok (.iaload, 1) := by decide +kernel
theorem dX10_make_159 : decode cX10_make 159 = .ok (.if_icmp .ne 7, 3) := by decide +kernel
theorem dX10_make_162 : decode cX10_make 162 = .ok (.iconst 1, 1) := by decide +kernel
theorem dX10_make_163 : decode cX10_make 163 = .ok (.goto 4, 3) := by decide +kernel
theorem dX10_make_166 : decode cX10_make 166 = .ok (.iconst 0, 1) := by decide +kernel
theorem dX10_make_167 : decode cX10_make 167 = .ok (.istore 4, 2) := by decide +kernel
theorem dX10_make_169 : decode cX10_make 169 = .ok (.iload 4, 2) := by decide +kernel
theorem dX10_make_171 : decode cX10_make 171 = .ok (.ifCond .eq 86, 3) := by decide +kernel
theorem dX10_make_174 : decode cX10_make 174 = .ok (.aload_n 0, 1) := by decide +kernel
theorem dX10_make_175 : decode cX10_make 175 = .ok (.aload_n 0, 1) := by decide +kernel
theorem dX10_make_176 : decode cX10_make 176 = .ok (.getfield 197, 3) := by decide +kernel
theorem dX10_make_179 : decode cX10_make 179 = .ok (.putfield 218, 3) := by decide +kernel
theorem dX10_make_182 : decode cX10_make 182 = .ok (.aload_n 0, 1) := by decide +kernel
theorem dX10_make_183 : decode cX10_make 183 = .ok (.getfield 218, 3) := by decide +kernel
theorem dX10_make_186 : decode cX10_make 186 = .ok (.ireturn, 1) := by decide +kernel
theorem dX10_make_187 : decode cX10_make 187 = .ok (.aload_n 0, 1) := by decide +kernel
theorem dX10_make_188 : decode cX10_make 188 = .ok (.getfield 74, 3) := by decide +kernel
theorem dX10_make_191 : decode cX10_make 191 = .ok (.aload_n 0, 1) := by decide +kernel
theorem dX10_make_192 : decode cX10_make 192 = .ok (.getfield 188, 3) := by decide +kernel
theorem dX10_make_195 : decode cX10_make 195 = .ok (.iaload, 1) := by decide +kernel
theorem dX10_make_196 : decode cX10_make 196 = .ok (.istore 6, 2) := by decide +kernel
theorem dX10_make_198 : decode cX10_make 198 = .ok (.aload_n 0, 1) := by decide +kernel
theorem dX10_make_199 : decode cX10_make 199 = .ok (.aload_n 0, 1) := by decide +kernel
theorem dX10_make_200 : decode cX10_make 200 = .ok (.getfield 77, 3) := by decide +kernel
theorem dX10_make_203 : decode cX10_make 203 = .ok (.aload_n 0, 1) := by decide +kernel
theorem dX10_make_204 : decode cX10_make 204 = .ok (.getfield 188, 3) := by decide +kernel
theorem dX10_make_207 : decode cX10_make 207 = .ok (.iaload, 1) := by decide +kernel
theorem dX10_make_208 : decode cX10_make 208 = .ok (.putfield 188, 3) := by decide +kernel
theorem dX10_make_211 : decode cX10_make 211 = .ok (.aload_n 0, 1) := by decide +kernel
theorem dX10_make_212 : decode cX10_make 212 = .ok (.dup, 1) := by decide +kernel
theorem dX10_make_213 : decode cX10_make 213 = .ok (.getfield 191, 3) := by decide +kernel
theorem dX10_make_216 : decode cX10_make 216 = .ok (.iconst 1, 1) := by decide +kernel
theorem dX10_make_217 : decode cX10_make 217 = .ok (.isub, 1) := by decide +kernel
theorem dX10_make_218 : decode cX10_make 218 = .ok (.putfield 191, 3) := by decide +kernel
theorem dX10_make_221 : decode cX10_make 221 = .ok (.aload_n 0, 1) := by decide +kernel
theorem dX10_make_222 : decode cX10_make 222 = .ok (.getfield 31, 3) := by decide +kernel
theorem dX10_make_225 : decode cX10_make 225 = .ok (.iload 6, 2) := by decide +kernel
theorem dX10_make_227 : decode cX10_make 227 = .ok (.iaload, 1) := by decide +kernel
theorem dX10_make_228 : decode cX10_make 228 = .ok (.ifCond .ne 20, 3) := by decide +kernel
theorem dX10_make_231 : decode cX10_make 231 = .ok (.aload_n 0, 1) := by decide +kernel
theorem dX10_make_232 : decode cX10_make 232 = .ok (.aload_n 0, 1) := by decide +kernel
theorem dX10_make_233 : decode cX10_make 233 = .ok (.getfield 34, 3) := by decide +kernel
theorem dX10_make_236 : decode cX10_make 236 = .ok (.iload 6, 2) := by decide +kernel
theorem dX10_make_238 : decode cX10_make 238 = .ok (.iaload, 1) := by decide +kernel
theorem dX10_make_239 : decode cX10_make 239 = .ok (.invokevirtual 221, 3) := by decide +kernel
theorem dX10_make_242 : decode cX10_make 242 = .ok (.iconst 1, 1) := by decide +kernel
theorem dX10_make_243 : decode cX10_make 243 = .ok (.istore 5, 2) := by decide +kernel
theorem dX10_make_245 : decode cX10_make 245 = .ok (.goto 12, 3) := by decide +kernel
theorem dX10_make_248 : decode cX10_make 248 = .ok (.aload_n 0, 1) := by decide +kernel
theorem dX10_make_249 : decode cX10_make 249 = .ok (.iload 6, 2) := by decide +kernel
theorem dX10_make_251 : decode cX10_make 251 = .ok (.iload_n 1, 1) := by decide +kernel
theorem dX10_make_252 : decode cX10_make 252 = .ok (.invokevirtual 224, 3) := by decide +kernel
theorem dX10_make_255 : decode cX10_make 255 = .ok (.istore 4, 2) := by decide +kernel
theorem dX10_make_257 : decode cX10_make 257 = .ok (.iload 5, 2) := by decide +kernel
theorem dX10_make_259 : decode cX10_make 259 = .ok (.ifCond .ne 8, 3) := by decide +kernel
theorem dX10_make_262 : decode cX10_make 262 = .ok (.iload 4, 2) := by decide +kernel
theorem dX10_make_264 : decode cX10_make 264 = .ok (.ifCond .ne 74, 3) := by decide +kernel
theorem dX10_make_267 : decode cX10_make 267 = .ok (.aload_n 0, 1) := by decide +kernel
theorem dX10_make_268 : decode cX10_make 268 = .ok (.getfield 185, 3) := by decide +kernel
theorem dX10_make_271 : decode cX10_make 271 = .ok (.ifCond .ne 5, 3) := by decide +kernel
theorem dX10_make_274 : decode cX10_make 274 = .ok (.iconst (-1), 1) := by decide +kernel
theorem dX10_make_275 : decode cX10_make 275 = .ok (.ireturn, 1) := by decide +kernel
theorem dX10_make_276 : decode cX10_make 276 = .ok (.aload_n 0, 1) := by decide +kernel
theorem dX10_make_277 : decode cX10_make 277 = .ok (.invokevirtual 228, 3) := by decide +kernel
theorem dX10_make_280 : decode cX10_make 280 = .ok (.aload_n 0, 1) := by decide +kernel
theorem dX10_make_281 : decode cX10_make 281 = .ok (.invokevirtual 231, 3) := by decide +kernel
theorem dX10_make_284 : decode cX10_make 284 = .ok (.istore 6, 2) := by decide +kernel
theorem dX10_make_286 : decode cX10_make 286 = .ok (.iload 6, 2) := by decide +kernel
theorem dX10_make_288 : decode cX10_make 288 = .ok (.ifCond .ne 19, 3) := by decide +kernel
theorem dX10_make_291 : decode cX10_make 291 = .ok (.aload_n 0, 1) := by decide +kernel
theorem dX10_make_292 : decode cX10_make 292 = .ok (.dup, 1) := by decide +kernel
theorem dX10_make_293 : decode cX10_make 293 = .ok (.getfield 185, 3) := by decide +kernel
theorem dX10_make_296 : decode cX10_make 296 = .ok (.iconst 1, 1) := by decide +kernel
theorem dX10_make_297 : decode cX10_make 297 = .ok (.isub, 1) := by decide +kernel
theorem dX10_make_298 : decode cX10_make 298 = .ok (.putfield 185, 3) := by decide +kernel
theorem dX10_make_301 : decode cX10_make 301 = .ok (.iconst 0, 1) := by decide +kernel
theorem dX10_make_302 : decode cX10_make 302 = .ok (.istore 4, 2) := by decide +kernel
theorem dX10_make_304 : decode cX10_make 304 = .ok (.goto 28, 3) := by decide +kernel
theorem dX10_make_307 : decode cX10_make 307 = .ok (.aload_n 0, 1) := by decide +kernel
theorem dX10_make_308 : decode cX10_make 308 = .ok (.getfield 212, 3) := by decide +kernel
theorem dX10_make_311 : decode cX10_make 311 = .ok (.aload_n 0, 1) := by decide +kernel
theorem dX10_make_312 : decode cX10_make 312 = .ok (.getfield 58, 3) := by decide +kernel
theorem dX10_make_315 : decode cX10_make 315 = .ok (.bipush 6, 2) := by decide +kernel
theorem dX10_make_317 : decode cX10_make 317 = .ok (.iaload, 1) := by decide +kernel
theorem dX10_make_318 : decode cX10_make 318 = .ok (.if_icmp .ne 6, 3) := by decide +kernel
theorem dX10_make_321 : decode cX10_make 321 = .ok (.bipush (-5), 2) := by decide +kernel
theorem dX10_make_323 : decode cX10_make 323 = .ok (.ireturn, 1) := by decide +kernel
theorem dX10_make_324 : decode cX10_make 324 = .ok (.aload_n 0, 1) := by decide +kernel
theorem dX10_make_325 : decode cX10_make 325 = .ok (.iload 6, 2) := by decide +kernel
theorem dX10_make_327 : decode cX10_make 327 = .ok (.invokevirtual 234, 3) := by decide +kernel
theorem dX10_make_330 : decode cX10_make 330 = .ok (.istore 4, 2) := by decide +kernel
theorem dX10_make_332 : decode cX10_make 332 = .ok (.iconst 0, 1) := by decide +kernel
theorem dX10_make_333 : decode cX10_make 333 = .ok (.istore 5, 2) := by decide +kernel
theorem dX10_make_335 : decode cX10_make 335 = .ok (.goto (-78), 3) := by decide +kernel
theorem dX10_make_338 : decode cX10_make 338 = .ok (.goto (-222), 3) := by decide +kernel
theorem dX10_tries_0 : decode cX10_tries 0 = .ok (.aload_n 0, 1) := by decide +kernel
theorem dX10_tries_1 : decode cX10_tries 1 = .ok (.getfield 212, 3) := by decide +kernel
theorem dX10_tries_4 : decode cX10_tries 4 = .ok (.ireturn, 1) := by decide +kernel
theorem dX10_item_0 : decode cX10_item 0 = .ok (.iload_n 2, 1) := by decide +kernel
theorem dX10_item_1 : decode cX10_item 1 = .ok (.ifCond .lt 8, 3) := by decide +kernel
theorem dX10_item_4 : decode cX10_item 4 = .ok (.iload_n 2, 1) := by decide +kernel
theorem dX10_item_5 : decode cX10_item 5 = .ok (.iconst 3, 1) := by decide +kernel
theorem dX10_item_6 : decode cX10_item 6 = .ok (.if_icmp .le 6, 3) := by decide +kernel
theorem dX10_item_9 : decode cX10_item 9 = .ok (.bipush (-2), 2) := by decide +kernel
theorem dX10_item_11 : decode cX10_item 11 = .ok (.ireturn, 1) := by decide +kernel
theorem dX10_item_12 : decode cX10_item 12 = .ok (.iload_n 1, 1) := by decide +kernel
theorem dX10_item_13 : decode cX10_item 13 = .ok (.ifCond .lt 11, 3) := by decide +kernel
theorem dX10_item_16 : decode cX10_item 16 = .ok (.iload_n 1, 1) := by decide +kernel
theorem dX10_item_17 : decode cX10_item 17 = .ok (.aload_n 0, 1) := by decide +kernel
theorem dX10_item_18 : decode cX10_item 18 = .ok (.getfield 218, 3) := by decide +kernel
theorem dX10_item_21 : decode cX10_item 21 = .ok (.if_icmp .lt 5, 3) := by decide +kernel
theorem dX10_item_24 : decode cX10_item 24 = .ok (.iconst (-1), 1) := by decide +kernel
theorem dX10_item_25 : decode cX10_item 25 = .ok (.ireturn, 1) := by decide +kernel
theorem dX10_item_26 : decode cX10_item 26 = .ok (.iload_n 2, 1) := by decide +kernel
theorem dX10_item_27 : decode cX10_item 27 = .ok (.ifCond .ne 12, 3) := by decide +kernel
theorem dX10_item_30 : decode cX10_item 30 = .ok (.aload_n 0, 1) := by decide +kernel
theorem dX10_item_31 : decode cX10_item 31 = .ok (.getfield 61, 3) := by decide +kernel
theorem dX10_item_34 : decode cX10_item 34 = .ok (.iload_n 1, 1) := by decide +kernel
theorem dX10_item_35 : decode cX10_item 35 = .ok (.iaload, 1) := by decide +kernel
theorem dX10_item_36 : decode cX10_item 36 = .ok (.goto 37, 3) := by decide +kernel
theorem dX10_item_39 : decode cX10_item 39 = .ok (.iload_n 2, 1) := by decide +kernel
theorem dX10_item_40 : decode cX10_item 40 = .ok (.iconst 1, 1) := by decide +kernel
theorem dX10_item_41 : decode cX10_item 41 = .ok (.if_icmp .ne 12, 3) := by decide +kernel
theorem dX10_item_44 : decode cX10_item 44 = .ok (.aload_n 0, 1) := by decide +kernel
theorem dX10_item_45 : decode cX10_item 45 = .ok (.getfield 64, 3) := by decide +kernel
theorem dX10_item_48 : decode cX10_item 48 = .ok (.iload_n 1, 1) := by decide +kernel
theorem dX10_item_49 : decode cX10_item 49 = .ok (.iaload, 1) := by decide +kernel
theorem dX10_item_50 : decode cX10_item 50 = .ok (.goto 23, 3) := by decide +kernel
theorem dX10_item_53 : decode cX10_item 53 = .ok (.iload_n 2, 1) := by decide +kernel
theorem dX10_item_54 : decode cX10_item 54 = .ok (.iconst 2, 1) := by decide +kernel
theorem dX10_item_55 : decode cX10_item 55 = .ok (.if_icmp .ne 12, 3) := by decide +kernel
theorem dX10_item_58 : decode cX10_item 58 = .ok (.aload_n 0, 1) := by decide +kernel
theorem dX10_item_59 : decode cX10_item 59 = .ok (.getfield 67, 3) := by decide +kernel
theorem dX10_item_62 : decode cX10_item 62 = .ok (.iload_n 1, 1) := by decide +kernel
theorem dX10_item_63 : decode cX10_item 63 = .ok (.iaload, 1) := by decide +kernel
theorem dX10_item_64 : decode cX10_item 64 = .ok (.goto 9, 3) := by decide +kernel
theorem dX10_item_67 : decode cX10_item 67 = .ok (.aload_n 0, 1) := by decide +kernel
theorem dX10_item_68 : decode cX10_item 68 = .ok (.getfield 70, 3) := by decide +kernel
theorem dX10_item_71 : decode cX10_item 71 = .ok (.iload_n 1, 1) := by decide +kernel
theorem dX10_item_72 : decode cX10_item 72 = .ok (.iaload, 1) := by decide +kernel
theorem dX10_item_73 : decode cX10_item 73 = .ok (.ireturn, 1) := by decide +kernel
theorem dX10_corpus_0 : decode cX10_corpus 0 = .ok (.aload_n 0, 1) := by decide +kernel
theorem dX10_corpus_1 : decode cX10_corpus 1 = .ok (.getfield 237, 3) := by decide +kernel
theorem dX10_corpus_4 : decode cX10_corpus 4 = .ok (.sipush 300, 3) := by decide +kernel
theorem dX10_corpus_7 : decode cX10_corpus 7 = .ok (.if_icmp .ne 6, 3) := by decide +kernel
theorem dX10_corpus_10 : decode cX10_corpus 10 = .ok (.bipush (-4), 2) := by decide +kernel
theorem dX10_corpus_12 : decode cX10_corpus 12 = .ok (.ireturn, 1) := by decide +kernel
theorem dX10_corpus_13 : decode cX10_corpus 13 = .ok (.aload_n 0, 1) := by decide +kernel
theorem dX10_corpus_14 : decode cX10_corpus 14 = .ok (.getfield 111, 3) := by decide +kernel
theorem dX10_corpus_17 : decode cX10_corpus 17 = .ok (.aload_n 0, 1) := by decide +kernel
theorem dX10_corpus_18 : decode cX10_corpus 18 = .ok (.getfield 237, 3) := by decide +kernel
theorem dX10_corpus_21 : decode cX10_corpus 21 = .ok (.iload_n 1, 1) := by decide +kernel
theorem dX10_corpus_22 : decode cX10_corpus 22 = .ok (.iastore, 1) := by decide +kernel
theorem dX10_corpus_23 : decode cX10_corpus 23 = .ok (.aload_n 0, 1) := by decide +kernel
theorem dX10_corpus_24 : decode cX10_corpus 24 = .ok (.dup, 1) := by decide +kernel
theorem dX10_corpus_25 : decode cX10_corpus 25 = .ok (.getfield 237, 3) := by decide +kernel
theorem dX10_corpus_28 : decode cX10_corpus 28 = .ok (.iconst 1, 1) := by decide +kernel
theorem dX10_corpus_29 : decode cX10_corpus 29 = .ok (.iadd, 1) := by decide +kernel
theorem dX10_corpus_30 : decode cX10_corpus 30 = .ok (.putfield 237, 3) := by decide +kernel
theorem dX10_corpus_33 : decode cX10_corpus 33 = .ok (.aload_n 0, 1) := by decide +kernel
theorem dX10_corpus_34 : decode cX10_corpus 34 = .ok (.getfield 237, 3) := by decide +kernel
theorem dX10_corpus_37 : decode cX10_corpus 37 = .ok (.ireturn, 1) := by decide +kernel
theorem dX10_forget_0 : decode cX10_forget 0 = .ok (.aload_n 0, 1) := by decide +kernel
theorem dX10_forget_1 : decode cX10_forget 1 = .ok (.getfield 237, 3) := by decide +kernel
theorem dX10_forget_4 : decode cX10_forget 4 = .ok (.istore_n 1, 1) := by decide +kernel
theorem dX10_forget_5 : decode cX10_forget 5 = .ok (.aload_n 0, 1) := by decide +kernel
theorem dX10_forget_6 : decode cX10_forget 6 = .ok (.iconst 0, 1) := by decide +kernel
theorem dX10_forget_7 : decode cX10_forget 7 = .ok (.putfield 237, 3) := by decide +kernel
theorem dX10_forget_10 : decode cX10_forget 10 = .ok (.iload_n 1, 1) := by decide +kernel
theorem dX10_forget_11 : decode cX10_forget 11 = .ok (.ireturn, 1) := by decide +kernel
theorem dX10_isAhead_0 : decode cX10_isAhead 0 = .ok (.iload_n 1, 1) := by decide +kernel
theorem dX10_isAhead_1 : decode cX10_isAhead 1 = .ok (.iload_n 2, 1) := by decide +kernel
theorem dX10_isAhead_2 : decode cX10_isAhead 2 = .ok (.if_icmp .lt 7, 3) := by decide +kernel
theorem dX10_isAhead_5 : decode cX10_isAhead 5 = .ok (.iconst 1, 1) := by decide +kernel
theorem dX10_isAhead_6 : decode cX10_isAhead 6 = .ok (.goto 4, 3) := by decide +kernel
theorem dX10_isAhead_9 : decode cX10_isAhead 9 = .ok (.iconst 0, 1) := by decide +kernel
theorem dX10_isAhead_10 : decode cX10_isAhead 10 = .ok (.istore_n 3, 1) := by decide +kernel
theorem dX10_isAhead_11 : decode cX10_isAhead 11 = .ok (.iconst 1, 1) := by decide +kernel
theorem dX10_isAhead_12 : decode cX10_isAhead 12 = .ok (.istore 4, 2) := by decide +kernel
theorem dX10_isAhead_14 : decode cX10_isAhead 14 = .ok (.iload 4, 2) := by decide +kernel
theorem dX10_isAhead_16 : decode cX10_isAhead 16 = .ok (.iload_n 2, 1) := by decide +kernel
theorem dX10_isAhead_17 : decode cX10_isAhead 17 = .ok (.if_icmp .gt 43, 3) := by decide +kernel
theorem dX10_isAhead_20 : decode cX10_isAhead 20 = .ok (.iload_n 3, 1) := by decide +kernel
theorem dX10_isAhead_21 : decode cX10_isAhead 21 = .ok (.ifCond .eq 39, 3) := by decide +kernel
theorem dX10_isAhead_24 : decode cX10_isAhead 24 = .ok (.aload_n 0, 1) := by decide +kernel
theorem dX10_isAhead_25 : decode cX10_isAhead 25 = .ok (.getfield 111, 3) := by decide +kernel
theorem dX10_isAhead_28 : decode cX10_isAhead 28 = .ok (.iload_n 1, 1) := by decide +kernel
theorem dX10_isAhead_29 : decode cX10_isAhead 29 = .ok (.iload 4, 2) := by decide +kernel
theorem dX10_isAhead_31 : decode cX10_isAhead 31 = .ok (.isub, 1) := by decide +kernel
theorem dX10_isAhead_32 : decode cX10_isAhead 32 = .ok (.iaload, 1) := by decide +kernel
theorem dX10_isAhead_33 : decode cX10_isAhead 33 = .ok (.aload_n 0, 1) := by decide +kernel
theorem dX10_isAhead_34 : decode cX10_isAhead 34 = .ok (.getfield 114, 3) := by decide +kernel
theorem dX10_isAhead_37 : decode cX10_isAhead 37 = .ok (.aload_n 0, 1) := by decide +kernel
theorem dX10_isAhead_38 : decode cX10_isAhead 38 = .ok (.getfield 240, 3) := by decide +kernel
theorem dX10_isAhead_41 : decode cX10_isAhead 41 = .ok (.iload 4, 2) := by decide +kernel
theorem dX10_isAhead_43 : decode cX10_isAhead 43 = .ok (.isub, 1) := by decide +kernel
theorem dX10_isAhead_44 : decode cX10_isAhead 44 = .ok (.iaload, 1) := by decide +kernel
theorem dX10_isAhead_45 : decode cX10_isAhead 45 = .ok (.if_icmp .ne 7, 3) := by decide +kernel
theorem dX10_isAhead_48 : decode cX10_isAhead 48 = .ok (.iconst 1, 1) := by decide +kernel
theorem dX10_isAhead_49 : decode cX10_isAhead 49 = .ok (.goto 4, 3) := by decide +kernel
theorem dX10_isAhead_52 : decode cX10_isAhead 52 = .ok (.iconst 0, 1) := by decide +kernel
theorem dX10_isAhead_53 : decode cX10_isAhead 53 = .ok (.istore_n 3, 1) := by decide +kernel
theorem dX10_isAhead_54 : decode cX10_isAhead 54 = .ok (.iinc 4 1, 3) := by decide +kernel
theorem dX10_isAhead_57 : decode cX10_isAhead 57 = .ok (.goto (-43), 3) := by decide +kernel
theorem dX10_isAhead_60 : decode cX10_isAhead 60 = .ok (.iload_n 3, 1) := by decide +kernel
theorem dX10_isAhead_61 : decode cX10_isAhead 61 = .ok (.ireturn, 1) := by decide +kernel
set_option maxRecDepth 20000 in
theorem ggX10_walk_X10_isAhead : GoodIn wsX10_walk wsX10_isAhead := goodIn_r _ [10, 4, 3, 5, 23, 24, 25, 26, 27, 28, 29, 30, 31, 32, 33, 34, 35, 36, 37, 38, 39, 40, 41, 42, 43, 44, 45, 46, 47, 48, 49, 50, 51, 52, 53, 54, 55, 56, 57, 58, 59, 60, 61, 62, 63, 64, 65, 66, 67, 68, 69, 70, 71, 72, 73, 74, 75] (by decide +kernel) (by decide +kernel)
set_option maxRecDepth 20000 in
theorem gX10_walk_X10_isAhead : GoodIn wsX10_walk (wsV RX10 243 RX10 yX10_isAhead wsX10_isAhead) := goodIn_app (goodIn_of _ (by decide +kernel)) ggX10_walk_X10_isAhead
set_option maxRecDepth 20000 in
theorem ggX10_walk_X10_drawBelow : GoodIn wsX10_walk wsX10_drawBelow := goodIn_r _ [14, 15, 16, 17, 18, 9, 19, 2, 20, 21, 22, 23, 24, 25, 26, 27, 28, 29, 30, 31, 32, 33, 34, 35, 36, 37, 38, 39, 40, 41, 42, 43, 44, 45, 46, 47, 48, 49, 50, 51, 52, 53, 54, 55, 56, 57, 58, 59, 60, 61, 62, 63, 64, 65, 66, 67, 68, 69, 70, 71, 72, 73, 74, 75] (by decide +kernel) (by decide +kernel)
set_option maxRecDepth 20000 in
theorem gX10_walk_X10_drawBelow : GoodIn wsX10_walk (wsV RX10 182 RX10 yX10_drawBelow wsX10_drawBelow) := goodIn_app (goodIn_of _ (by decide +kernel)) ggX10_walk_X10_drawBelow
theorem dX10_walk_0 : decode cX10_walk 0 = .ok (.iload_n 1, 1) := by decide +kernel
theorem dX10_walk_1 : decode cX10_walk 1 = .ok (.iconst 1, 1) := by decide +kernel
theorem dX10_walk_2 : decode cX10_walk 2 = .ok (.if_icmp .lt 19, 3) := by decide +kernel
theorem dX10_walk_5 : decode cX10_walk 5 = .ok (.iload_n 1, 1) := by decide +kernel
theorem dX10_walk_6 : decode cX10_walk 6 = .ok (.iconst 3, 1) := by decide +kernel
theorem dX10_walk_7 : decode cX10_walk 7 = .ok (.if_icmp .gt 14, 3) := by decide +kernel
theorem dX10_walk_10 : decode cX10_walk 10 = .ok (.iload_n 3, 1) := by decide +kernel
theorem dX10_walk_11 : decode cX10_walk 11 = .ok (.ifCond .lt 10, 3) := by decide +kernel
theorem dX10_walk_14 : decode cX10_walk 14 = .ok (.iload_n 3, 1) := by decide +kernel
theorem dX10_walk_15 : decode cX10_walk 15 = .ok (.sipush 200, 3) := by decide +kernel
theorem dX10_walk_18 : decode cX10_walk 18 = .ok (.if_icmp .le 6, 3) := by decide +kernel
theorem dX10_walk_21 : decode cX10_walk 21 = .ok (.bipush (-2), 2) := by decide +kernel
theorem dX10_walk_23 : decode cX10_walk 23 = .ok (.ireturn, 1) := by decide +kernel
theorem dX10_walk_24 : decode cX10_walk 24 = .ok (.iload_n 2, 1) := by decide +kernel
theorem dX10_walk_25 : decode cX10_walk 25 = .ok (.ifCond .lt 13, 3) := by decide +kernel
theorem dX10_walk_28 : decode cX10_walk 28 = .ok (.iload_n 2, 1) := by decide +kernel
theorem dX10_walk_29 : decode cX10_walk 29 = .ok (.aload_n 0, 1) := by decide +kernel
theorem dX10_walk_30 : decode cX10_walk 30 = .ok (.getfield 237, 3) := by decide +kernel
theorem dX10_walk_33 : decode cX10_walk 33 = .ok (.iload_n 1, 1) := by decide +kernel
theorem dX10_walk_34 : decode cX10_walk 34 = .ok (.isub, 1) := by decide +kernel
theorem dX10_walk_35 : decode cX10_walk 35 = .ok (.if_icmp .le 6, 3) := by decide +kernel
theorem dX10_walk_38 : decode cX10_walk 38 = .ok (.bipush (-3), 2) := by decide +kernel
theorem dX10_walk_40 : decode cX10_walk 40 = .ok (.ireturn, 1) := by decide +kernel
theorem dX10_walk_41 : decode cX10_walk 41 = .ok (.aload_n 0, 1) := by decide +kernel
theorem dX10_walk_42 : decode cX10_walk 42 = .ok (.lload 4, 2) := by decide +kernel
theorem dX10_walk_44 : decode cX10_walk 44 = .ok (.putfield 166, 3) := by decide +kernel
theorem dX10_walk_47 : decode cX10_walk 47 = .ok (.iconst 0, 1) := by decide +kernel
theorem dX10_walk_48 : decode cX10_walk 48 = .ok (.istore 6, 2) := by decide +kernel
theorem dX10_walk_50 : decode cX10_walk 50 = .ok (.iload 6, 2) := by decide +kernel
theorem dX10_walk_52 : decode cX10_walk 52 = .ok (.iload_n 1, 1) := by decide +kernel
theorem dX10_walk_53 : decode cX10_walk 53 = .ok (.if_icmp .ge 25, 3) := by decide +kernel
theorem dX10_walk_56 : decode cX10_walk 56 = .ok (.aload_n 0, 1) := by decide +kernel
theorem dX10_walk_57 : decode cX10_walk 57 = .ok (.getfield 114, 3) := by decide +kernel
theorem dX10_walk_60 : decode cX10_walk 60 = .ok (.iload 6, 2) := by decide +kernel
theorem dX10_walk_62 : decode cX10_walk 62 = .ok (.aload_n 0, 1) := by decide +kernel
theorem dX10_walk_63 : decode cX10_walk 63 = .ok (.getfield 111, 3) := by decide +kernel
theorem dX10_walk_66 : decode cX10_walk 66 = .ok (.iload_n 2, 1) := by decide +kernel
theorem dX10_walk_67 : decode cX10_walk 67 = .ok (.iload 6, 2) := by decide +kernel
theorem dX10_walk_69 : decode cX10_walk 69 = .ok (.iadd, 1) := by decide +kernel
theorem dX10_walk_70 : decode cX10_walk 70 = .ok (.iaload, 1) := by decide +kernel
theorem dX10_walk_71 : decode cX10_walk 71 = .ok (.iastore, 1) := by decide +kernel
theorem dX10_walk_72 : decode cX10_walk 72 = .ok (.iinc 6 1, 3) := by decide +kernel
theorem dX10_walk_75 : decode cX10_walk 75 = .ok (.goto (-25), 3) := by decide +kernel
theorem dX10_walk_78 : decode cX10_walk 78 = .ok (.aload_n 0, 1) := by decide +kernel
theorem dX10_walk_79 : decode cX10_walk 79 = .ok (.iload_n 1, 1) := by decide +kernel
theorem dX10_walk_80 : decode cX10_walk 80 = .ok (.putfield 240, 3) := by decide +kernel
theorem dX10_walk_83 : decode cX10_walk 83 = .ok (.iconst 0, 1) := by decide +kernel
theorem dX10_walk_84 : decode cX10_walk 84 = .ok (.istore 6, 2) := by decide +kernel
theorem dX10_walk_86 : decode cX10_walk 86 = .ok (.iload 6, 2) := by decide +kernel
theorem dX10_walk_88 : decode cX10_walk 88 = .ok (.iload_n 3, 1) := by decide +kernel
theorem dX10_walk_89 : decode cX10_walk 89 = .ok (.if_icmp .ge 142, 3) := by decide +kernel
theorem dX10_walk_92 : decode cX10_walk 92 = .ok (.iconst 0, 1) := by decide +kernel
theorem dX10_walk_93 : decode cX10_walk 93 = .ok (.istore 7, 2) := by decide +kernel
theorem dX10_walk_95 : decode cX10_walk 95 = .ok (.iconst 0, 1) := by decide +kernel
theorem dX10_walk_96 : decode cX10_walk 96 = .ok (.istore 8, 2) := by decide +kernel
theorem dX10_walk_98 : decode cX10_walk 98 = .ok (.iload 8, 2) := by decide +kernel
theorem dX10_walk_100 : decode cX10_walk 100 = .ok (.aload_n 0, 1) := by decide +kernel
theorem dX10_walk_101 : decode cX10_walk 101 = .ok (.getfield 237, 3) := by decide +kernel
theorem dX10_walk_104 : decode cX10_walk 104 = .ok (.if_icmp .ge 29, 3) := by decide +kernel
theorem dX10_walk_107 : decode cX10_walk 107 = .ok (.iload 7, 2) := by decide +kernel
theorem dX10_walk_109 : decode cX10_walk 109 = .ok (.aload_n 0, 1) := by decide +kernel
theorem dX10_walk_110 : decode cX10_walk 110 = .ok (.iload 8, 2) := by decide +kernel
theorem dX10_walk_112 : decode cX10_walk 112 = .ok (.iload_n 1, 1) := by decide +kernel
theorem dX10_walk_113 : decode cX10_walk 113 = .ok (.invokevirtual 243, 3) := by decide +kernel
theorem dX10_walk_116 : decode cX10_walk 116 = .ok (.ifCond .eq 7, 3) := by decide +kernel
theorem dX10_walk_119 : decode cX10_walk 119 = .ok (.iconst 1, 1) := by decide +kernel
theorem dX10_walk_120 : decode cX10_walk 120 = .ok (.goto 4, 3) := by decide +kernel
theorem dX10_walk_123 : decode cX10_walk 123 = .ok (.iconst 0, 1) := by decide +kernel
theorem dX10_walk_124 : decode cX10_walk 124 = .ok (.iadd, 1) := by decide +kernel
theorem dX10_walk_125 : decode cX10_walk 125 = .ok (.istore 7, 2) := by decide +kernel
theorem dX10_walk_127 : decode cX10_walk 127 = .ok (.iinc 8 1, 3) := by decide +kernel
theorem dX10_walk_130 : decode cX10_walk 130 = .ok (.goto (-32), 3) := by decide +kernel
theorem dX10_walk_133 : decode cX10_walk 133 = .ok (.aload_n 0, 1) := by decide +kernel
theorem dX10_walk_134 : decode cX10_walk 134 = .ok (.getfield 111, 3) := by decide +kernel
theorem dX10_walk_137 : decode cX10_walk 137 = .ok (.iload_n 2, 1) := by decide +kernel
theorem dX10_walk_138 : decode cX10_walk 138 = .ok (.iaload, 1) := by decide +kernel
theorem dX10_walk_139 : decode cX10_walk 139 = .ok (.istore 8, 2) := by decide +kernel
theorem dX10_walk_141 : decode cX10_walk 141 = .ok (.iload 7, 2) := by decide +kernel
theorem dX10_walk_143 : decode cX10_walk 143 = .ok (.ifCond .le 61, 3) := by decide +kernel
theorem dX10_walk_146 : decode cX10_walk 146 = .ok (.aload_n 0, 1) := by decide +kernel
theorem dX10_walk_147 : decode cX10_walk 147 = .ok (.iload 7, 2) := by decide +kernel
theorem dX10_walk_149 : decode cX10_walk 149 = .ok (.invokevirtual 182, 3) := by decide +kernel
theorem dX10_walk_152 : decode cX10_walk 152 = .ok (.istore 9, 2) := by decide +kernel
theorem dX10_walk_154 : decode cX10_walk 154 = .ok (.iconst 0, 1) := by decide +kernel
theorem dX10_walk_155 : decode cX10_walk 155 = .ok (.istore 10, 2) := by decide +kernel
theorem dX10_walk_157 : decode cX10_walk 157 = .ok (.iload 10, 2) := by decide +kernel
theorem dX10_walk_159 : decode cX10_walk 159 = .ok (.aload_n 0, 1) := by decide +kernel
theorem dX10_walk_160 : decode cX10_walk 160 = .ok (.getfield 237, 3) := by decide +kernel
theorem dX10_walk_163 : decode cX10_walk 163 = .ok (.if_icmp .ge 41, 3) := by decide +kernel
theorem dX10_walk_166 : decode cX10_walk 166 = .ok (.aload_n 0, 1) := by decide +kernel
theorem dX10_walk_167 : decode cX10_walk 167 = .ok (.iload 10, 2) := by decide +kernel
theorem dX10_walk_169 : decode cX10_walk 169 = .ok (.iload_n 1, 1) := by decide +kernel
theorem dX10_walk_170 : decode cX10_walk 170 = .ok (.invokevirtual 243, 3) := by decide +kernel
theorem dX10_walk_173 : decode cX10_walk 173 = .ok (.ifCond .eq 25, 3) := by decide +kernel
theorem dX10_walk_176 : decode cX10_walk 176 = .ok (.iload 9, 2) := by decide +kernel
theorem dX10_walk_178 : decode cX10_walk 178 = .ok (.ifCond .ne 13, 3) := by decide +kernel
theorem dX10_walk_181 : decode cX10_walk 181 = .ok (.aload_n 0, 1) := by decide +kernel
theorem dX10_walk_182 : decode cX10_walk 182 = .ok (.getfield 111, 3) := by decide +kernel
theorem dX10_walk_185 : decode cX10_walk 185 = .ok (.iload 10, 2) := by decide +kernel
theorem dX10_walk_187 : decode cX10_walk 187 = .ok (.iaload, 1) := by decide +kernel
theorem dX10_walk_188 : decode cX10_walk 188 = .ok (.goto 5, 3) := by decide +kernel
theorem dX10_walk_191 : decode cX10_walk 191 = .ok (.iload 8, 2) := by decide +kernel
theorem dX10_walk_193 : decode cX10_walk 193 = .ok (.istore 8, 2) := by decide +kernel
theorem dX10_walk_195 : decode cX10_walk 195 = .ok (.iinc 9 (-1), 3) := by decide +kernel
theorem dX10_walk_198 : decode cX10_walk 198 = .ok (.iinc 10 1, 3) := by decide +kernel
theorem dX10_walk_201 : decode cX10_walk 201 = .ok (.goto (-44), 3) := by decide +kernel
theorem dX10_walk_204 : decode cX10_walk 204 = .ok (.aload_n 0, 1) := by decide +kernel
theorem dX10_walk_205 : decode cX10_walk 205 = .ok (.getfield 114, 3) := by decide +kernel
theorem dX10_walk_208 : decode cX10_walk 208 = .ok (.aload_n 0, 1) := by decide +kernel
theorem dX10_walk_209 : decode cX10_walk 209 = .ok (.getfield 240, 3) := by decide +kernel
theorem dX10_walk_212 : decode cX10_walk 212 = .ok (.iload 8, 2) := by decide +kernel
theorem dX10_walk_214 : decode cX10_walk 214 = .ok (.iastore, 1) := by decide +kernel
theorem dX10_walk_215 : decode cX10_walk 215 = .ok (.aload_n 0, 1) := by decide +kernel
theorem dX10_walk_216 : decode cX10_walk 216 = .ok (.dup, 1) := by decide +kernel
theorem dX10_walk_217 : decode cX10_walk 217 = .ok (.getfield 240, 3) := by decide +kernel
theorem dX10_walk_220 : decode cX10_walk 220 = .ok (.iconst 1, 1) := by decide +kernel
theorem dX10_walk_221 : decode cX10_walk 221 = .ok (.iadd, 1) := by decide +kernel
theorem dX10_walk_222 : decode cX10_walk 222 = .ok (.putfield 240, 3) := by decide +kernel
theorem dX10_walk_225 : decode cX10_walk 225 = .ok (.iinc 6 1, 3) := by decide +kernel
theorem dX10_walk_228 : decode cX10_walk 228 = .ok (.goto (-142), 3) := by decide +kernel
theorem dX10_walk_231 : decode cX10_walk 231 = .ok (.aload_n 0, 1) := by decide +kernel
theorem dX10_walk_232 : decode cX10_walk 232 = .ok (.getfield 240, 3) := by decide +kernel
theorem dX10_walk_235 : decode cX10_walk 235 = .ok (.ireturn, 1) := by decide +kernel
theorem dX10_step_0 : decode cX10_step 0 = .ok (.iload_n 1, 1) := by decide +kernel
theorem dX10_step_1 : decode cX10_step 1 = .ok (.ifCond .lt 20, 3) := by decide +kernel
theorem dX10_step_4 : decode cX10_step 4 = .ok (.iload_n 1, 1) := by decide +kernel
theorem dX10_step_5 : decode cX10_step 5 = .ok (.aload_n 0, 1) := by decide +kernel
theorem dX10_step_6 : decode cX10_step 6 = .ok (.getfield 240, 3) := by decide +kernel
theorem dX10_step_9 : decode cX10_step 9 = .ok (.if_icmp .ge 12, 3) := by decide +kernel
theorem dX10_step_12 : decode cX10_step 12 = .ok (.aload_n 0, 1) := by decide +kernel
theorem dX10_step_13 : decode cX10_step 13 = .ok (.getfield 114, 3) := by decide +kernel
theorem dX10_step_16 : decode cX10_step 16 = .ok (.iload_n 1, 1) := by decide +kernel
theorem dX10_step_17 : decode cX10_step 17 = .ok (.iaload, 1) := by decide +kernel
theorem dX10_step_18 : decode cX10_step 18 = .ok (.goto 4, 3) := by decide +kernel
theorem dX10_step_21 : decode cX10_step 21 = .ok (.iconst 0, 1) := by decide +kernel
theorem dX10_step_22 : decode cX10_step 22 = .ok (.ireturn, 1) := by decide +kernel
theorem dX10_steps_0 : decode cX10_steps 0 = .ok (.aload_n 0, 1) := by decide +kernel
theorem dX10_steps_1 : decode cX10_steps 1 = .ok (.getfield 240, 3) := by decide +kernel
theorem dX10_steps_4 : decode cX10_steps 4 = .ok (.ireturn, 1) := by decide +kernel
theorem dX10_stroke_0 : decode cX10_stroke 0 = .ok (.iload_n 2, 1) := by decide +kernel
theorem dX10_stroke_1 : decode cX10_stroke 1 = .ok (.iconst 1, 1) := by decide +kernel
theorem dX10_stroke_2 : decode cX10_stroke 2 = .ok (.if_icmp .lt 39, 3) := by decide +kernel
theorem dX10_stroke_5 : decode cX10_stroke 5 = .ok (.iload_n 2, 1) := by decide +kernel
theorem dX10_stroke_6 : decode cX10_stroke 6 = .ok (.bipush 64, 2) := by decide +kernel
theorem dX10_stroke_8 : decode cX10_stroke 8 = .ok (.if_icmp .gt 33, 3) := by decide +kernel
theorem dX10_stroke_11 : decode cX10_stroke 11 = .ok (.iload_n 1, 1) := by decide +kernel
theorem dX10_stroke_12 : decode cX10_stroke 12 = .ok (.ifCond .lt 29, 3) := by decide +kernel
theorem dX10_stroke_15 : decode cX10_stroke 15 = .ok (.iload_n 1, 1) := by decide +kernel
theorem dX10_stroke_16 : decode cX10_stroke 16 = .ok (.iload_n 2, 1) := by decide +kernel
theorem dX10_stroke_17 : decode cX10_stroke 17 = .ok (.if_icmp .gt 24, 3) := by decide +kernel
theorem dX10_stroke_20 : decode cX10_stroke 20 = .ok (.iload_n 3, 1) := by decide +kernel
theorem dX10_stroke_21 : decode cX10_stroke 21 = .ok (.ifCond .lt 20, 3) := by decide +kernel
theorem dX10_stroke_24 : decode cX10_stroke 24 = .ok (.iload_n 3, 1) := by decide +kernel
theorem dX10_stroke_25 : decode cX10_stroke 25 = .ok (.iload_n 2, 1) := by decide +kernel
theorem dX10_stroke_26 : decode cX10_stroke 26 = .ok (.if_icmp .ge 15, 3) := by decide +kernel
theorem dX10_stroke_29 : decode cX10_stroke 29 = .ok (.iload 4, 2) := by decide +kernel
theorem dX10_stroke_31 : decode cX10_stroke 31 = .ok (.ifCond .lt 10, 3) := by decide +kernel
theorem dX10_stroke_34 : decode cX10_stroke 34 = .ok (.iload 4, 2) := by decide +kernel
theorem dX10_stroke_36 : decode cX10_stroke 36 = .ok (.ldc 246, 2) := by decide +kernel
theorem dX10_stroke_38 : decode cX10_stroke 38 = .ok (.if_icmp .le 6, 3) := by decide +kernel
theorem dX10_stroke_41 : decode cX10_stroke 41 = .ok (.bipush (-2), 2) := by decide +kernel
theorem dX10_stroke_43 : decode cX10_stroke 43 = .ok (.ireturn, 1) := by decide +kernel
theorem dX10_stroke_44 : decode cX10_stroke 44 = .ok (.iload 4, 2) := by decide +kernel
theorem dX10_stroke_46 : decode cX10_stroke 46 = .ok (.iload_n 3, 1) := by decide +kernel
theorem dX10_stroke_47 : decode cX10_stroke 47 = .ok (.iadd, 1) := by decide +kernel
theorem dX10_stroke_48 : decode cX10_stroke 48 = .ok (.iload_n 1, 1) := by decide +kernel
theorem dX10_stroke_49 : decode cX10_stroke 49 = .ok (.imul, 1) := by decide +kernel
theorem dX10_stroke_50 : decode cX10_stroke 50 = .ok (.iload_n 2, 1) := by decide +kernel
theorem dX10_stroke_51 : decode cX10_stroke 51 = .ok (.irem, 1) := by decide +kernel
theorem dX10_stroke_52 : decode cX10_stroke 52 = .ok (.iload_n 1, 1) := by decide +kernel
theorem dX10_stroke_53 : decode cX10_stroke 53 = .ok (.if_icmp .ge 7, 3) := by decide +kernel
theorem dX10_stroke_56 : decode cX10_stroke 56 = .ok (.iconst 1, 1) := by decide +kernel
theorem dX10_stroke_57 : decode cX10_stroke 57 = .ok (.goto 4, 3) := by decide +kernel
theorem dX10_stroke_60 : decode cX10_stroke 60 = .ok (.iconst 0, 1) := by decide +kernel
theorem dX10_stroke_61 : decode cX10_stroke 61 = .ok (.ireturn, 1) := by decide +kernel
theorem dX10_turned_0 : decode cX10_turned 0 = .ok (.iload 5, 2) := by decide +kernel
theorem dX10_turned_2 : decode cX10_turned 2 = .ok (.iconst 1, 1) := by decide +kernel
theorem dX10_turned_3 : decode cX10_turned 3 = .ok (.if_icmp .lt 10, 3) := by decide +kernel
theorem dX10_turned_6 : decode cX10_turned 6 = .ok (.iload 5, 2) := by decide +kernel
theorem dX10_turned_8 : decode cX10_turned 8 = .ok (.bipush 64, 2) := by decide +kernel
theorem dX10_turned_10 : decode cX10_turned 10 = .ok (.if_icmp .le 6, 3) := by decide +kernel
theorem dX10_turned_13 : decode cX10_turned 13 = .ok (.bipush (-2), 2) := by decide +kernel
theorem dX10_turned_15 : decode cX10_turned 15 = .ok (.ireturn, 1) := by decide +kernel
theorem dX10_turned_16 : decode cX10_turned 16 = .ok (.iconst 0, 1) := by decide +kernel
theorem dX10_turned_17 : decode cX10_turned 17 = .ok (.istore 6, 2) := by decide +kernel
theorem dX10_turned_19 : decode cX10_turned 19 = .ok (.iload 6, 2) := by decide +kernel
theorem dX10_turned_21 : decode cX10_turned 21 = .ok (.iload 5, 2) := by decide +kernel
theorem dX10_turned_23 : decode cX10_turned 23 = .ok (.if_icmp .ge 68, 3) := by decide +kernel
theorem dX10_turned_26 : decode cX10_turned 26 = .ok (.iconst 1, 1) := by decide +kernel
theorem dX10_turned_27 : decode cX10_turned 27 = .ok (.istore 7, 2) := by decide +kernel
theorem dX10_turned_29 : decode cX10_turned 29 = .ok (.iconst 0, 1) := by decide +kernel
theorem dX10_turned_30 : decode cX10_turned 30 = .ok (.istore 8, 2) := by decide +kernel
theorem dX10_turned_32 : decode cX10_turned 32 = .ok (.iload 8, 2) := by decide +kernel
theorem dX10_turned_34 : decode cX10_turned 34 = .ok (.iload 5, 2) := by decide +kernel
theorem dX10_turned_36 : decode cX10_turned 36 = .ok (.if_icmp .ge 41, 3) := by decide +kernel
theorem dX10_turned_39 : decode cX10_turned 39 = .ok (.iload 7, 2) := by decide +kernel
theorem dX10_turned_41 : decode cX10_turned 41 = .ok (.lload_n 3, 1) := by decide +kernel
theorem dX10_turned_42 : decode cX10_turned 42 = .ok (.iload 8, 2) := by decide +kernel
theorem dX10_turned_44 : decode cX10_turned 44 = .ok (.lshr, 1) := by decide +kernel
theorem dX10_turned_45 : decode cX10_turned 45 = .ok (.lconst 1, 1) := by decide +kernel
theorem dX10_turned_46 : decode cX10_turned 46 = .ok (.land, 1) := by decide +kernel
theorem dX10_turned_47 : decode cX10_turned 47 = .ok (.lload_n 1, 1) := by decide +kernel
theorem dX10_turned_48 : decode cX10_turned 48 = .ok (.iload 8, 2) := by decide +kernel
theorem dX10_turned_50 : decode cX10_turned 50 = .ok (.iload 6, 2) := by decide +kernel
theorem dX10_turned_52 : decode cX10_turned 52 = .ok (.iadd, 1) := by decide +kernel
theorem dX10_turned_53 : decode cX10_turned 53 = .ok (.iload 5, 2) := by decide +kernel
theorem dX10_turned_55 : decode cX10_turned 55 = .ok (.irem, 1) := by decide +kernel
theorem dX10_turned_56 : decode cX10_turned 56 = .ok (.lshr, 1) := by decide +kernel
theorem dX10_turned_57 : decode cX10_turned 57 = .ok (.lconst 1, 1) := by decide +kernel
theorem dX10_turned_58 : decode cX10_turned 58 = .ok (.land, 1) := by decide +kernel
theorem dX10_turned_59 : decode cX10_turned 59 = .ok (.lcmp, 1) := by decide +kernel
theorem dX10_turned_60 : decode cX10_turned 60 = .ok (.ifCond .ne 7, 3) := by decide +kernel
theorem dX10_turned_63 : decode cX10_turned 63 = .ok (.iconst 1, 1) := by decide +kernel
theorem dX10_turned_64 : decode cX10_turned 64 = .ok (.goto 4, 3) := by decide +kernel
theorem dX10_turned_67 : decode cX10_turned 67 = .ok (.iconst 0, 1) := by decide +kernel
theorem dX10_turned_68 : decode cX10_turned 68 = .ok (.iand, 1) := by decide +kernel
theorem dX10_turned_69 : decode cX10_turned 69 = .ok (.istore 7, 2) := by decide +kernel
theorem dX10_turned_71 : decode cX10_turned 71 = .ok (.iinc 8 1, 3) := by decide +kernel
theorem dX10_turned_74 : decode cX10_turned 74 = .ok (.goto (-42), 3) := by decide +kernel
theorem dX10_turned_77 : decode cX10_turned 77 = .ok (.iload 7, 2) := by decide +kernel
theorem dX10_turned_79 : decode cX10_turned 79 = .ok (.ifCond .eq 6, 3) := by decide +kernel
theorem dX10_turned_82 : decode cX10_turned 82 = .ok (.iload 6, 2) := by decide +kernel
theorem dX10_turned_84 : decode cX10_turned 84 = .ok (.ireturn, 1) := by decide +kernel
theorem dX10_turned_85 : decode cX10_turned 85 = .ok (.iinc 6 1, 3) := by decide +kernel
theorem dX10_turned_88 : decode cX10_turned 88 = .ok (.goto (-69), 3) := by decide +kernel
theorem dX10_turned_91 : decode cX10_turned 91 = .ok (.iconst (-1), 1) := by decide +kernel
theorem dX10_turned_92 : decode cX10_turned 92 = .ok (.ireturn, 1) := by decide +kernel
theorem dX10_place_0 : decode cX10_place 0 = .ok (.iload_n 1, 1) := by decide +kernel
theorem dX10_place_1 : decode cX10_place 1 = .ok (.ifCond .lt 19, 3) := by decide +kernel
theorem dX10_place_4 : decode cX10_place 4 = .ok (.iload_n 1, 1) := by decide +kernel
theorem dX10_place_5 : decode cX10_place 5 = .ok (.bipush 11, 2) := by decide +kernel
theorem dX10_place_7 : decode cX10_place 7 = .ok (.if_icmp .gt 13, 3) := by decide +kernel
theorem dX10_place_10 : decode cX10_place 10 = .ok (.iload_n 2, 1) := by decide +kernel
theorem dX10_place_11 : decode cX10_place 11 = .ok (.ifCond .lt 9, 3) := by decide +kernel
theorem dX10_place_14 : decode cX10_place 14 = .ok (.iload_n 2, 1) := by decide +kernel
theorem dX10_place_15 : decode cX10_place 15 = .ok (.bipush 11, 2) := by decide +kernel
theorem dX10_place_17 : decode cX10_place 17 = .ok (.if_icmp .le 6, 3) := by decide +kernel
theorem dX10_place_20 : decode cX10_place 20 = .ok (.bipush (-2), 2) := by decide +kernel
theorem dX10_place_22 : decode cX10_place 22 = .ok (.ireturn, 1) := by decide +kernel
theorem dX10_place_23 : decode cX10_place 23 = .ok (.aload_n 0, 1) := by decide +kernel
theorem dX10_place_24 : decode cX10_place 24 = .ok (.getfield 117, 3) := by decide +kernel
theorem dX10_place_27 : decode cX10_place 27 = .ok (.iload_n 1, 1) := by decide +kernel
theorem dX10_place_28 : decode cX10_place 28 = .ok (.iaload, 1) := by decide +kernel
theorem dX10_place_29 : decode cX10_place 29 = .ok (.istore_n 3, 1) := by decide +kernel
theorem dX10_place_30 : decode cX10_place 30 = .ok (.iconst 0, 1) := by decide +kernel
theorem dX10_place_31 : decode cX10_place 31 = .ok (.istore 4, 2) := by decide +kernel
theorem dX10_place_33 : decode cX10_place 33 = .ok (.iload 4, 2) := by decide +kernel
theorem dX10_place_35 : decode cX10_place 35 = .ok (.bipush 12, 2) := by decide +kernel
theorem dX10_place_37 : decode cX10_place 37 = .ok (.if_icmp .ge 38, 3) := by decide +kernel
theorem dX10_place_40 : decode cX10_place 40 = .ok (.aload_n 0, 1) := by decide +kernel
theorem dX10_place_41 : decode cX10_place 41 = .ok (.getfield 117, 3) := by decide +kernel
theorem dX10_place_44 : decode cX10_place 44 = .ok (.iload 4, 2) := by decide +kernel
theorem dX10_place_46 : decode cX10_place 46 = .ok (.aload_n 0, 1) := by decide +kernel
theorem dX10_place_47 : decode cX10_place 47 = .ok (.getfield 117, 3) := by decide +kernel
theorem dX10_place_50 : decode cX10_place 50 = .ok (.iload 4, 2) := by decide +kernel
theorem dX10_place_52 : decode cX10_place 52 = .ok (.iaload, 1) := by decide +kernel
theorem dX10_place_53 : decode cX10_place 53 = .ok (.iload_n 2, 1) := by decide +kernel
theorem dX10_place_54 : decode cX10_place 54 = .ok (.if_icmp .ne 7, 3) := by decide +kernel
theorem dX10_place_57 : decode cX10_place 57 = .ok (.iload_n 3, 1) := by decide +kernel
theorem dX10_place_58 : decode cX10_place 58 = .ok (.goto 10, 3) := by decide +kernel
theorem dX10_place_61 : decode cX10_place 61 = .ok (.aload_n 0, 1) := by decide +kernel
theorem dX10_place_62 : decode cX10_place 62 = .ok (.getfield 117, 3) := by decide +kernel
theorem dX10_place_65 : decode cX10_place 65 = .ok (.iload 4, 2) := by decide +kernel
theorem dX10_place_67 : decode cX10_place 67 = .ok (.iaload, 1) := by decide +kernel
theorem dX10_place_68 : decode cX10_place 68 = .ok (.iastore, 1) := by decide +kernel
theorem dX10_place_69 : decode cX10_place 69 = .ok (.iinc 4 1, 3) := by decide +kernel
theorem dX10_place_72 : decode cX10_place 72 = .ok (.goto (-39), 3) := by decide +kernel
theorem dX10_place_75 : decode cX10_place 75 = .ok (.aload_n 0, 1) := by decide +kernel
theorem dX10_place_76 : decode cX10_place 76 = .ok (.getfield 117, 3) := by decide +kernel
theorem dX10_place_79 : decode cX10_place 79 = .ok (.iload_n 1, 1) := by decide +kernel
theorem dX10_place_80 : decode cX10_place 80 = .ok (.iload_n 2, 1) := by decide +kernel
theorem dX10_place_81 : decode cX10_place 81 = .ok (.iastore, 1) := by decide +kernel
theorem dX10_place_82 : decode cX10_place 82 = .ok (.iconst 1, 1) := by decide +kernel
theorem dX10_place_83 : decode cX10_place 83 = .ok (.ireturn, 1) := by decide +kernel
theorem dX10_formOf_0 : decode cX10_formOf 0 = .ok (.aload_n 0, 1) := by decide +kernel
theorem dX10_formOf_1 : decode cX10_formOf 1 = .ok (.getfield 117, 3) := by decide +kernel
theorem dX10_formOf_4 : decode cX10_formOf 4 = .ok (.iload_n 1, 1) := by decide +kernel
theorem dX10_formOf_5 : decode cX10_formOf 5 = .ok (.iconst 1, 1) := by decide +kernel
theorem dX10_formOf_6 : decode cX10_formOf 6 = .ok (.if_icmp .le 10, 3) := by decide +kernel
theorem dX10_formOf_9 : decode cX10_formOf 9 = .ok (.bipush 11, 2) := by decide +kernel
theorem dX10_formOf_11 : decode cX10_formOf 11 = .ok (.iload_n 3, 1) := by decide +kernel
theorem dX10_formOf_12 : decode cX10_formOf 12 = .ok (.isub, 1) := by decide +kernel
theorem dX10_formOf_13 : decode cX10_formOf 13 = .ok (.goto 4, 3) := by decide +kernel
theorem dX10_formOf_16 : decode cX10_formOf 16 = .ok (.iload_n 3, 1) := by decide +kernel
theorem dX10_formOf_17 : decode cX10_formOf 17 = .ok (.iaload, 1) := by decide +kernel
theorem dX10_formOf_18 : decode cX10_formOf 18 = .ok (.istore 4, 2) := by decide +kernel
theorem dX10_formOf_20 : decode cX10_formOf 20 = .ok (.iload_n 1, 1) := by decide +kernel
theorem dX10_formOf_21 : decode cX10_formOf 21 = .ok (.iconst 2, 1) := by decide +kernel
theorem dX10_formOf_22 : decode cX10_formOf 22 = .ok (.irem, 1) := by decide +kernel
theorem dX10_formOf_23 : decode cX10_formOf 23 = .ok (.iconst 1, 1) := by decide +kernel
theorem dX10_formOf_24 : decode cX10_formOf 24 = .ok (.if_icmp .ne 17, 3) := by decide +kernel
theorem dX10_formOf_27 : decode cX10_formOf 27 = .ok (.iconst 2, 1) := by decide +kernel
theorem dX10_formOf_28 : decode cX10_formOf 28 = .ok (.aload_n 0, 1) := by decide +kernel
theorem dX10_formOf_29 : decode cX10_formOf 29 = .ok (.getfield 117, 3) := by decide +kernel
theorem dX10_formOf_32 : decode cX10_formOf 32 = .ok (.iconst 0, 1) := by decide +kernel
theorem dX10_formOf_33 : decode cX10_formOf 33 = .ok (.iaload, 1) := by decide +kernel
theorem dX10_formOf_34 : decode cX10_formOf 34 = .ok (.imul, 1) := by decide +kernel
theorem dX10_formOf_35 : decode cX10_formOf 35 = .ok (.iload 4, 2) := by decide +kernel
theorem dX10_formOf_37 : decode cX10_formOf 37 = .ok (.isub, 1) := by decide +kernel
theorem dX10_formOf_38 : decode cX10_formOf 38 = .ok (.goto 5, 3) := by decide +kernel
theorem dX10_formOf_41 : decode cX10_formOf 41 = .ok (.iload 4, 2) := by decide +kernel
theorem dX10_formOf_43 : decode cX10_formOf 43 = .ok (.istore 5, 2) := by decide +kernel
theorem dX10_formOf_45 : decode cX10_formOf 45 = .ok (.iload 5, 2) := by decide +kernel
theorem dX10_formOf_47 : decode cX10_formOf 47 = .ok (.iload_n 2, 1) := by decide +kernel
theorem dX10_formOf_48 : decode cX10_formOf 48 = .ok (.iadd, 1) := by decide +kernel
theorem dX10_formOf_49 : decode cX10_formOf 49 = .ok (.bipush 24, 2) := by decide +kernel
theorem dX10_formOf_51 : decode cX10_formOf 51 = .ok (.iadd, 1) := by decide +kernel
theorem dX10_formOf_52 : decode cX10_formOf 52 = .ok (.bipush 12, 2) := by decide +kernel
theorem dX10_formOf_54 : decode cX10_formOf 54 = .ok (.irem, 1) := by decide +kernel
theorem dX10_formOf_55 : decode cX10_formOf 55 = .ok (.ireturn, 1) := by decide +kernel
set_option maxRecDepth 20000 in
theorem ggX10_form_X10_formOf : GoodIn wsX10_form wsX10_formOf := goodIn_r _ [5, 6, 7, 8, 9, 10, 11, 12, 13, 14, 15, 16, 17, 18, 19, 20, 21, 22, 23, 24, 25, 26, 27, 28, 29, 30, 31, 32, 33, 34, 35, 36, 37, 38, 39, 40, 41, 42, 43, 44, 45, 46, 47, 48, 49, 50, 51, 52, 53, 54, 55, 56, 57, 58, 59] (by decide +kernel) (by decide +kernel)
set_option maxRecDepth 20000 in
theorem gX10_form_X10_formOf : GoodIn wsX10_form (wsV RX10 247 RX10 yX10_formOf wsX10_formOf) := goodIn_app (goodIn_of _ (by decide +kernel)) ggX10_form_X10_formOf
theorem dX10_form_0 : decode cX10_form 0 = .ok (.iload_n 1, 1) := by decide +kernel
theorem dX10_form_1 : decode cX10_form 1 = .ok (.ifCond .lt 28, 3) := by decide +kernel
theorem dX10_form_4 : decode cX10_form 4 = .ok (.iload_n 1, 1) := by decide +kernel
theorem dX10_form_5 : decode cX10_form 5 = .ok (.iconst 3, 1) := by decide +kernel
theorem dX10_form_6 : decode cX10_form 6 = .ok (.if_icmp .gt 23, 3) := by decide +kernel
theorem dX10_form_9 : decode cX10_form 9 = .ok (.iload_n 2, 1) := by decide +kernel
theorem dX10_form_10 : decode cX10_form 10 = .ok (.ifCond .lt 19, 3) := by decide +kernel
theorem dX10_form_13 : decode cX10_form 13 = .ok (.iload_n 2, 1) := by decide +kernel
theorem dX10_form_14 : decode cX10_form 14 = .ok (.bipush 11, 2) := by decide +kernel
theorem dX10_form_16 : decode cX10_form 16 = .ok (.if_icmp .gt 13, 3) := by decide +kernel
theorem dX10_form_19 : decode cX10_form 19 = .ok (.iload_n 3, 1) := by decide +kernel
theorem dX10_form_20 : decode cX10_form 20 = .ok (.ifCond .lt 9, 3) := by decide +kernel
theorem dX10_form_23 : decode cX10_form 23 = .ok (.iload_n 3, 1) := by decide +kernel
theorem dX10_form_24 : decode cX10_form 24 = .ok (.bipush 11, 2) := by decide +kernel
theorem dX10_form_26 : decode cX10_form 26 = .ok (.if_icmp .le 6, 3) := by decide +kernel
theorem dX10_form_29 : decode cX10_form 29 = .ok (.bipush (-2), 2) := by decide +kernel
theorem dX10_form_31 : decode cX10_form 31 = .ok (.ireturn, 1) := by decide +kernel
theorem dX10_form_32 : decode cX10_form 32 = .ok (.aload_n 0, 1) := by decide +kernel
theorem dX10_form_33 : decode cX10_form 33 = .ok (.iload_n 1, 1) := by decide +kernel
theorem dX10_form_34 : decode cX10_form 34 = .ok (.iload_n 2, 1) := by decide +kernel
theorem dX10_form_35 : decode cX10_form 35 = .ok (.iload_n 3, 1) := by decide +kernel
theorem dX10_form_36 : decode cX10_form 36 = .ok (.invokevirtual 247, 3) := by decide +kernel
theorem dX10_form_39 : decode cX10_form 39 = .ok (.ireturn, 1) := by decide +kernel
set_option maxRecDepth 20000 in
theorem ggX10_doubled_X10_formOf : GoodIn wsX10_doubled wsX10_formOf := goodIn_r _ [5, 6, 7, 8, 9, 10, 11, 12, 13, 14, 15, 16, 17, 18, 19, 20, 21, 22, 23, 24, 25, 26, 27, 28, 29, 30, 31, 32, 33, 34, 35, 36, 37, 38, 39, 40, 41, 42, 43, 44, 45, 46, 47, 48, 49, 50, 51, 52, 53, 54, 55, 56, 57, 58, 59] (by decide +kernel) (by decide +kernel)
set_option maxRecDepth 20000 in
theorem gX10_doubled_X10_formOf : GoodIn wsX10_doubled (wsV RX10 247 RX10 yX10_formOf wsX10_formOf) := goodIn_app (goodIn_of _ (by decide +kernel)) ggX10_doubled_X10_formOf
theorem dX10_doubled_0 : decode cX10_doubled 0 = .ok (.iconst 0, 1) := by decide +kernel
theorem dX10_doubled_1 : decode cX10_doubled 1 = .ok (.istore_n 1, 1) := by decide +kernel
theorem dX10_doubled_2 : decode cX10_doubled 2 = .ok (.iconst 0, 1) := by decide +kernel
theorem dX10_doubled_3 : decode cX10_doubled 3 = .ok (.istore_n 2, 1) := by decide +kernel
theorem dX10_doubled_4 : decode cX10_doubled 4 = .ok (.iload_n 2, 1) := by decide +kernel
theorem dX10_doubled_5 : decode cX10_doubled 5 = .ok (.bipush 48, 2) := by decide +kernel
theorem dX10_doubled_7 : decode cX10_doubled 7 = .ok (.if_icmp .ge 105, 3) := by decide +kernel
theorem dX10_doubled_10 : decode cX10_doubled 10 = .ok (.iconst 0, 1) := by decide +kernel
theorem dX10_doubled_11 : decode cX10_doubled 11 = .ok (.istore_n 3, 1) := by decide +kernel
theorem dX10_doubled_12 : decode cX10_doubled 12 = .ok (.iconst 0, 1) := by decide +kernel
theorem dX10_doubled_13 : decode cX10_doubled 13 = .ok (.istore 4, 2) := by decide +kernel
theorem dX10_doubled_15 : decode cX10_doubled 15 = .ok (.iload 4, 2) := by decide +kernel
theorem dX10_doubled_17 : decode cX10_doubled 17 = .ok (.iload_n 2, 1) := by decide +kernel
theorem dX10_doubled_18 : decode cX10_doubled 18 = .ok (.if_icmp .ge 76, 3) := by decide +kernel
theorem dX10_doubled_21 : decode cX10_doubled 21 = .ok (.iconst 1, 1) := by decide +kernel
theorem dX10_doubled_22 : decode cX10_doubled 22 = .ok (.istore 5, 2) := by decide +kernel
theorem dX10_doubled_24 : decode cX10_doubled 24 = .ok (.iconst 0, 1) := by decide +kernel
theorem dX10_doubled_25 : decode cX10_doubled 25 = .ok (.istore 6, 2) := by decide +kernel
theorem dX10_doubled_27 : decode cX10_doubled 27 = .ok (.iload 6, 2) := by decide +kernel
theorem dX10_doubled_29 : decode cX10_doubled 29 = .ok (.bipush 12, 2) := by decide +kernel
theorem dX10_doubled_31 : decode cX10_doubled 31 = .ok (.if_icmp .ge 52, 3) := by decide +kernel
theorem dX10_doubled_34 : decode cX10_doubled 34 = .ok (.iload 5, 2) := by decide +kernel
theorem dX10_doubled_36 : decode cX10_doubled 36 = .ok (.aload_n 0, 1) := by decide +kernel
theorem dX10_doubled_37 : decode cX10_doubled 37 = .ok (.iload_n 2, 1) := by decide +kernel
theorem dX10_doubled_38 : decode cX10_doubled 38 = .ok (.bipush 12, 2) := by decide +kernel
theorem dX10_doubled_40 : decode cX10_doubled 40 = .ok (.idiv, 1) := by decide +kernel
theorem dX10_doubled_41 : decode cX10_doubled 41 = .ok (.iload_n 2, 1) := by decide +kernel
theorem dX10_doubled_42 : decode cX10_doubled 42 = .ok (.bipush 12, 2) := by decide +kernel
theorem dX10_doubled_44 : decode cX10_doubled 44 = .ok (.irem, 1) := by decide +kernel
theorem dX10_doubled_45 : decode cX10_doubled 45 = .ok (.iload 6, 2) := by decide +kernel
theorem dX10_doubled_47 : decode cX10_doubled 47 = .ok (.invokevirtual 247, 3) := by decide +kernel
theorem dX10_doubled_50 : decode cX10_doubled 50 = .ok (.aload_n 0, 1) := by decide +kernel
theorem dX10_doubled_51 : decode cX10_doubled 51 = .ok (.iload 4, 2) := by decide +kernel
theorem dX10_doubled_53 : decode cX10_doubled 53 = .ok (.bipush 12, 2) := by decide +kernel
theorem dX10_doubled_55 : decode cX10_doubled 55 = .ok (.idiv, 1) := by decide +kernel
theorem dX10_doubled_56 : decode cX10_doubled 56 = .ok (.iload 4, 2) := by decide +kernel
theorem dX10_doubled_58 : decode cX10_doubled 58 = .ok (.bipush 12, 2) := by decide +kernel
theorem dX10_doubled_60 : decode cX10_doubled 60 = .ok (.irem, 1) := by decide +kernel
theorem dX10_doubled_61 : decode cX10_doubled 61 = .ok (.iload 6, 2) := by decide +kernel
theorem dX10_doubled_63 : decode cX10_doubled 63 = .ok (.invokevirtual 247, 3) := by decide +kernel
theorem dX10_doubled_66 : decode cX10_doubled 66 = .ok (.if_icmp .ne 7, 3) := by decide +kernel
theorem dX10_doubled_69 : decode cX10_doubled 69 = .ok (.iconst 1, 1) := by decide +kernel
theorem dX10_doubled_70 : decode cX10_doubled 70 = .ok (.goto 4, 3) := by decide +kernel
theorem dX10_doubled_73 : decode cX10_doubled 73 = .ok (.iconst 0, 1) := by decide +kernel
theorem dX10_doubled_74 : decode cX10_doubled 74 = .ok (.iand, 1) := by decide +kernel
theorem dX10_doubled_75 : decode cX10_doubled 75 = .ok (.istore 5, 2) := by decide +kernel
theorem dX10_doubled_77 : decode cX10_doubled 77 = .ok (.iinc 6 1, 3) := by decide +kernel
theorem dX10_doubled_80 : decode cX10_doubled 80 = .ok (.goto (-53), 3) := by decide +kernel
theorem dX10_doubled_83 : decode cX10_doubled 83 = .ok (.iload_n 3, 1) := by decide +kernel
theorem dX10_doubled_84 : decode cX10_doubled 84 = .ok (.iload 5, 2) := by decide +kernel
theorem dX10_doubled_86 : decode cX10_doubled 86 = .ok (.ior, 1) := by decide +kernel
theorem dX10_doubled_87 : decode cX10_doubled 87 = .ok (.istore_n 3, 1) := by decide +kernel
theorem dX10_doubled_88 : decode cX10_doubled 88 = .ok (.iinc 4 1, 3) := by decide +kernel
theorem dX10_doubled_91 : decode cX10_doubled 91 = .ok (.goto (-76), 3) := by decide +kernel
theorem dX10_doubled_94 : decode cX10_doubled 94 = .ok (.iload_n 1, 1) := by decide +kernel
theorem dX10_doubled_95 : decode cX10_doubled 95 = .ok (.iload_n 3, 1) := by decide +kernel
theorem dX10_doubled_96 : decode cX10_doubled 96 = .ok (.ifCond .eq 7, 3) := by decide +kernel
theorem dX10_doubled_99 : decode cX10_doubled 99 = .ok (.iconst 1, 1) := by decide +kernel
theorem dX10_doubled_100 : decode cX10_doubled 100 = .ok (.goto 4, 3) := by decide +kernel
theorem dX10_doubled_103 : decode cX10_doubled 103 = .ok (.iconst 0, 1) := by decide +kernel
theorem dX10_doubled_104 : decode cX10_doubled 104 = .ok (.iadd, 1) := by decide +kernel
theorem dX10_doubled_105 : decode cX10_doubled 105 = .ok (.istore_n 1, 1) := by decide +kernel
theorem dX10_doubled_106 : decode cX10_doubled 106 = .ok (.iinc 2 1, 3) := by decide +kernel
theorem dX10_doubled_109 : decode cX10_doubled 109 = .ok (.goto (-105), 3) := by decide +kernel
theorem dX10_doubled_112 : decode cX10_doubled 112 = .ok (.iload_n 1, 1) := by decide +kernel
theorem dX10_doubled_113 : decode cX10_doubled 113 = .ok (.ireturn, 1) := by decide +kernel
theorem dX10_told_0 : decode cX10_told 0 = .ok (.iload_n 1, 1) := by decide +kernel
