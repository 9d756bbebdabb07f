set_option maxRecDepth 20000 in
theorem ggX3_isWhole_X8_time : GoodIn wsX3_isWhole wsX8_time := goodIn_r _ [10, 11, 12, 13, 32, 33, 34, 35, 36, 37, 38] (by decide +kernel) (by decide +kernel)
set_option maxRecDepth 20000 in
theorem gX3_isWhole_X8_time : GoodIn wsX3_isWhole (wsV RX3 155 RX8 yX8_time wsX8_time) := goodIn_app (goodIn_of _ (by decide +kernel)) ggX3_isWhole_X8_time
set_option maxRecDepth 20000 in
theorem ggX3_isWhole_X8_latestDegree : GoodIn wsX3_isWhole wsX8_latestDegree := goodIn_r _ [17, 11, 18, 19, 32, 33, 34, 35, 36, 37, 38] (by decide +kernel) (by decide +kernel)
set_option maxRecDepth 20000 in
theorem gX3_isWhole_X8_latestDegree : GoodIn wsX3_isWhole (wsV RX3 183 RX8 yX8_latestDegree wsX8_latestDegree) := goodIn_app (goodIn_of _ (by decide +kernel)) ggX3_isWhole_X8_latestDegree
theorem dX3_isWhole_0 : decode cX3_isWhole 0 = .ok (.aload_n 0, 1) := by decide +kernel
theorem dX3_isWhole_1 : decode cX3_isWhole 1 = .ok (.getfield 21, 3) := by decide +kernel
theorem dX3_isWhole_4 : decode cX3_isWhole 4 = .ok (.aload_n 0, 1) := by decide +kernel
theorem dX3_isWhole_5 : decode cX3_isWhole 5 = .ok (.getfield 24, 3) := by decide +kernel
theorem dX3_isWhole_8 : decode cX3_isWhole 8 = .ok (.if_icmp .lt 17, 3) := by decide +kernel
theorem dX3_isWhole_11 : decode cX3_isWhole 11 = .ok (.aload_n 0, 1) := by decide +kernel
theorem dX3_isWhole_12 : decode cX3_isWhole 12 = .ok (.getfield 38, 3) := by decide +kernel
theorem dX3_isWhole_15 : decode cX3_isWhole 15 = .ok (.invokevirtual 155, 3) := by decide +kernel
theorem dX3_isWhole_18 : decode cX3_isWhole 18 = .ok (.aload_n 0, 1) := by decide +kernel
theorem dX3_isWhole_19 : decode cX3_isWhole 19 = .ok (.getfield 50, 3) := by decide +kernel
theorem dX3_isWhole_22 : decode cX3_isWhole 22 = .ok (.if_icmp .eq 5, 3) := by decide +kernel
theorem dX3_isWhole_25 : decode cX3_isWhole 25 = .ok (.iconst 0, 1) := by decide +kernel
theorem dX3_isWhole_26 : decode cX3_isWhole 26 = .ok (.ireturn, 1) := by decide +kernel
theorem dX3_isWhole_27 : decode cX3_isWhole 27 = .ok (.aload_n 0, 1) := by decide +kernel
theorem dX3_isWhole_28 : decode cX3_isWhole 28 = .ok (.getfield 34, 3) := by decide +kernel
theorem dX3_isWhole_31 : decode cX3_isWhole 31 = .ok (.iconst 5, 1) := by decide +kernel
theorem dX3_isWhole_32 : decode cX3_isWhole 32 = .ok (.iaload, 1) := by decide +kernel
theorem dX3_isWhole_33 : decode cX3_isWhole 33 = .ok (.iconst (-1), 1) := by decide +kernel
theorem dX3_isWhole_34 : decode cX3_isWhole 34 = .ok (.if_icmp .eq 19, 3) := by decide +kernel
theorem dX3_isWhole_37 : decode cX3_isWhole 37 = .ok (.aload_n 0, 1) := by decide +kernel
theorem dX3_isWhole_38 : decode cX3_isWhole 38 = .ok (.getfield 38, 3) := by decide +kernel
theorem dX3_isWhole_41 : decode cX3_isWhole 41 = .ok (.invokevirtual 183, 3) := by decide +kernel
theorem dX3_isWhole_44 : decode cX3_isWhole 44 = .ok (.aload_n 0, 1) := by decide +kernel
theorem dX3_isWhole_45 : decode cX3_isWhole 45 = .ok (.getfield 34, 3) := by decide +kernel
theorem dX3_isWhole_48 : decode cX3_isWhole 48 = .ok (.iconst 5, 1) := by decide +kernel
theorem dX3_isWhole_49 : decode cX3_isWhole 49 = .ok (.iaload, 1) := by decide +kernel
theorem dX3_isWhole_50 : decode cX3_isWhole 50 = .ok (.if_icmp .ne 7, 3) := by decide +kernel
theorem dX3_isWhole_53 : decode cX3_isWhole 53 = .ok (.iconst 1, 1) := by decide +kernel
theorem dX3_isWhole_54 : decode cX3_isWhole 54 = .ok (.goto 4, 3) := by decide +kernel
theorem dX3_isWhole_57 : decode cX3_isWhole 57 = .ok (.iconst 0, 1) := by decide +kernel
theorem dX3_isWhole_58 : decode cX3_isWhole 58 = .ok (.ireturn, 1) := by decide +kernel
theorem dX4_init_0 : decode cX4_init 0 = .ok (.aload_n 0, 1) := by decide +kernel
theorem dX4_init_1 : decode cX4_init 1 = .ok (.invokespecial 3, 3) := by decide +kernel
theorem dX4_init_4 : decode cX4_init 4 = .ok (.aload_n 0, 1) := by decide +kernel
theorem dX4_init_5 : decode cX4_init 5 = .ok (.sipush 3001, 3) := by decide +kernel
theorem dX4_init_8 : decode cX4_init 8 = .ok (.newarray .int, 2) := by decide +kernel
theorem dX4_init_10 : decode cX4_init 10 = .ok (.putfield 11, 3) := by decide +kernel
theorem dX4_init_13 : decode cX4_init 13 = .ok (.aload_n 0, 1) := by decide +kernel
theorem dX4_init_14 : decode cX4_init 14 = .ok (.sipush 3001, 3) := by decide +kernel
theorem dX4_init_17 : decode cX4_init 17 = .ok (.newarray .int, 2) := by decide +kernel
theorem dX4_init_19 : decode cX4_init 19 = .ok (.putfield 15, 3) := by decide +kernel
theorem dX4_init_22 : decode cX4_init 22 = .ok (.aload_n 0, 1) := by decide +kernel
theorem dX4_init_23 : decode cX4_init 23 = .ok (.sipush 3001, 3) := by decide +kernel
theorem dX4_init_26 : decode cX4_init 26 = .ok (.newarray .long, 2) := by decide +kernel
theorem dX4_init_28 : decode cX4_init 28 = .ok (.putfield 18, 3) := by decide +kernel
theorem dX4_init_31 : decode cX4_init 31 = .ok (.aload_n 0, 1) := by decide +kernel
theorem dX4_init_32 : decode cX4_init 32 = .ok (.sipush 3001, 3) := by decide +kernel
theorem dX4_init_35 : decode cX4_init 35 = .ok (.newarray .int, 2) := by decide +kernel
theorem dX4_init_37 : decode cX4_init 37 = .ok (.putfield 22, 3) := by decide +kernel
theorem dX4_init_40 : decode cX4_init 40 = .ok (.aload_n 0, 1) := by decide +kernel
theorem dX4_init_41 : decode cX4_init 41 = .ok (.sipush 3001, 3) := by decide +kernel
theorem dX4_init_44 : decode cX4_init 44 = .ok (.newarray .int, 2) := by decide +kernel
theorem dX4_init_46 : decode cX4_init 46 = .ok (.putfield 25, 3) := by decide +kernel
theorem dX4_init_49 : decode cX4_init 49 = .ok (.aload_n 0, 1) := by decide +kernel
theorem dX4_init_50 : decode cX4_init 50 = .ok (.sipush 3001, 3) := by decide +kernel
theorem dX4_init_53 : decode cX4_init 53 = .ok (.newarray .int, 2) := by decide +kernel
theorem dX4_init_55 : decode cX4_init 55 = .ok (.putfield 28, 3) := by decide +kernel
theorem dX4_init_58 : decode cX4_init 58 = .ok (.aload_n 0, 1) := by decide +kernel
theorem dX4_init_59 : decode cX4_init 59 = .ok (.sipush 3001, 3) := by decide +kernel
theorem dX4_init_62 : decode cX4_init 62 = .ok (.newarray .int, 2) := by decide +kernel
theorem dX4_init_64 : decode cX4_init 64 = .ok (.putfield 31, 3) := by decide +kernel
theorem dX4_init_67 : decode cX4_init 67 = .ok (.aload_n 0, 1) := by decide +kernel
theorem dX4_init_68 : decode cX4_init 68 = .ok (.sipush 3001, 3) := by decide +kernel
theorem dX4_init_71 : decode cX4_init 71 = .ok (.newarray .int, 2) := by decide +kernel
theorem dX4_init_73 : decode cX4_init 73 = .ok (.putfield 34, 3) := by decide +kernel
theorem dX4_init_76 : decode cX4_init 76 = .ok (.return_, 1) := by decide +kernel
theorem dX5_init_0 : decode cX5_init 0 = .ok (.aload_n 0, 1) := by decide +kernel
theorem dX5_init_1 : decode cX5_init 1 = .ok (.invokespecial 3, 3) := by decide +kernel
theorem dX5_init_4 : decode cX5_init 4 = .ok (.aload_n 0, 1) := by decide +kernel
theorem dX5_init_5 : decode cX5_init 5 = .ok (.iconst 0, 1) := by decide +kernel
theorem dX5_init_6 : decode cX5_init 6 = .ok (.putfield 9, 3) := by decide +kernel
theorem dX5_init_9 : decode cX5_init 9 = .ok (.aload_n 0, 1) := by decide +kernel
theorem dX5_init_10 : decode cX5_init 10 = .ok (.iconst (-1), 1) := by decide +kernel
theorem dX5_init_11 : decode cX5_init 11 = .ok (.putfield 15, 3) := by decide +kernel
theorem dX5_init_14 : decode cX5_init 14 = .ok (.aload_n 0, 1) := by decide +kernel
theorem dX5_init_15 : decode cX5_init 15 = .ok (.aload_n 1, 1) := by decide +kernel
theorem dX5_init_16 : decode cX5_init 16 = .ok (.putfield 18, 3) := by decide +kernel
theorem dX5_init_19 : decode cX5_init 19 = .ok (.aload_n 0, 1) := by decide +kernel
theorem dX5_init_20 : decode cX5_init 20 = .ok (.aload_n 2, 1) := by decide +kernel
theorem dX5_init_21 : decode cX5_init 21 = .ok (.putfield 22, 3) := by decide +kernel
theorem dX5_init_24 : decode cX5_init 24 = .ok (.return_, 1) := by decide +kernel
set_option maxRecDepth 20000 in
theorem ggX5_readAll_X2_clear : GoodIn wsX5_readAll wsX2_clear := goodIn_r _ [9, 10, 11, 12, 13, 14, 15, 16, 17, 18, 19, 138, 139, 140, 141, 142, 143, 144, 145, 146, 147, 148, 149, 150, 151, 152, 153] (by decide +kernel) (by decide +kernel)
set_option maxRecDepth 20000 in
theorem gX5_readAll_X2_clear : GoodIn wsX5_readAll (wsV RX5 26 RX2 yX2_clear wsX2_clear) := goodIn_app (goodIn_of _ (by decide +kernel)) ggX5_readAll_X2_clear
set_option maxRecDepth 20000 in
theorem ggX5_readAll_X6_skipBlanks : GoodIn wsX5_readAll wsX6_skipBlanks := goodIn_r _ [24, 25, 26, 27, 28, 23, 29, 30, 31, 32, 33, 154, 155] (by decide +kernel) (by decide +kernel)
set_option maxRecDepth 20000 in
theorem gX5_readAll_X6_skipBlanks : GoodIn wsX5_readAll (wsV RX5 31 RX6 yX6_skipBlanks wsX6_skipBlanks) := goodIn_app (goodIn_of _ (by decide +kernel)) ggX5_readAll_X6_skipBlanks
set_option maxRecDepth 20000 in
theorem ggX5_readAll_X5_here : GoodIn wsX5_readAll wsX5_here := goodIn_r _ [38, 3, 2, 134, 135, 136, 137, 154, 155] (by decide +kernel) (by decide +kernel)
set_option maxRecDepth 20000 in
theorem gX5_readAll_X5_here : GoodIn wsX5_readAll (wsV RX5 37 RX5 yX5_here wsX5_here) := goodIn_app (goodIn_of _ (by decide +kernel)) ggX5_readAll_X5_here
set_option maxRecDepth 20000 in
theorem ggX5_readAll_X2_firstUseWithoutRule : GoodIn wsX5_readAll wsX2_firstUseWithoutRule := goodIn_r _ [42, 15, 43, 44, 45, 8, 46, 13, 47, 32, 48, 138, 139, 140, 141, 142, 143, 144, 145, 146, 147, 148, 149, 150, 151, 152, 153] (by decide +kernel) (by decide +kernel)
set_option maxRecDepth 20000 in
theorem gX5_readAll_X2_firstUseWithoutRule : GoodIn wsX5_readAll (wsV RX5 41 RX2 yX2_firstUseWithoutRule wsX2_firstUseWithoutRule) := goodIn_app (goodIn_of _ (by decide +kernel)) ggX5_readAll_X2_firstUseWithoutRule
set_option maxRecDepth 20000 in
theorem ggX5_readAll_X5_readHead : GoodIn wsX5_readAll wsX5_readHead := goodIn_r _ [52, 1, 3, 2, 34, 35, 36, 37, 38, 53, 54, 55, 8, 56, 10, 47, 32, 48, 43, 44, 45, 46, 13, 57, 58, 59, 60, 4, 20, 21, 22, 23, 24, 25, 26, 27, 28, 29, 30, 31, 33, 61, 62, 63, 64, 65, 66, 67, 11, 134, 135, 136, 137, 154, 155, 138, 139, 140, 141, 142, 143, 144, 145, 146, 147, 148, 149, 150, 151, 152, 153] (by decide +kernel) (by decide +kernel)
set_option maxRecDepth 20000 in
theorem gX5_readAll_X5_readHead : GoodIn wsX5_readAll (wsV RX5 44 RX5 yX5_readHead wsX5_readHead) := goodIn_app (goodIn_of _ (by decide +kernel)) ggX5_readAll_X5_readHead
set_option maxRecDepth 20000 in
theorem ggX5_readAll_X5_readAlternatives : GoodIn wsX5_readAll wsX5_readAlternatives := goodIn_r _ [71, 2, 3, 20, 21, 22, 23, 24, 25, 26, 27, 28, 29, 30, 31, 32, 33, 72, 73, 74, 37, 75, 1, 34, 35, 36, 38, 76, 77, 78, 79, 80, 8, 81, 11, 57, 58, 59, 60, 4, 82, 83, 84, 85, 86, 87, 12, 88, 13, 66, 14, 89, 90, 91, 92, 93, 94, 95, 96, 97, 98, 99, 100, 101, 102, 103, 104, 105, 106, 107, 108, 109, 110, 111, 15, 112, 113, 114, 115, 116, 117, 118, 119, 120, 121, 122, 123, 124, 125, 126, 127, 128, 129, 130, 131, 132, 133, 134, 135, 136, 137, 154, 155, 138, 139, 140, 141, 142, 143, 144, 145, 146, 147, 148, 149, 150, 151, 152, 153] (by decide +kernel) (by decide +kernel)
set_option maxRecDepth 20000 in
theorem gX5_readAll_X5_readAlternatives : GoodIn wsX5_readAll (wsV RX5 48 RX5 yX5_readAlternatives wsX5_readAlternatives) := goodIn_app (goodIn_of _ (by decide +kernel)) ggX5_readAll_X5_readAlternatives
theorem dX5_readAll_0 : decode cX5_readAll 0 = .ok (.aload_n 0, 1) := by decide +kernel
theorem dX5_readAll_1 : decode cX5_readAll 1 = .ok (.getfield 22, 3) := by decide +kernel
theorem dX5_readAll_4 : decode cX5_readAll 4 = .ok (.invokevirtual 26, 3) := by decide +kernel
theorem dX5_readAll_7 : decode cX5_readAll 7 = .ok (.aload_n 0, 1) := by decide +kernel
theorem dX5_readAll_8 : decode cX5_readAll 8 = .ok (.aload_n 0, 1) := by decide +kernel
theorem dX5_readAll_9 : decode cX5_readAll 9 = .ok (.getfield 18, 3) := by decide +kernel
theorem dX5_readAll_12 : decode cX5_readAll 12 = .ok (.iconst 0, 1) := by decide +kernel
theorem dX5_readAll_13 : decode cX5_readAll 13 = .ok (.invokevirtual 31, 3) := by decide +kernel
theorem dX5_readAll_16 : decode cX5_readAll 16 = .ok (.putfield 9, 3) := by decide +kernel
theorem dX5_readAll_19 : decode cX5_readAll 19 = .ok (.iconst 0, 1) := by decide +kernel
theorem dX5_readAll_20 : decode cX5_readAll 20 = .ok (.istore_n 1, 1) := by decide +kernel
theorem dX5_readAll_21 : decode cX5_readAll 21 = .ok (.iload_n 1, 1) := by decide +kernel
theorem dX5_readAll_22 : decode cX5_readAll 22 = .ok (.bipush 16, 2) := by decide +kernel
theorem dX5_readAll_24 : decode cX5_readAll 24 = .ok (.if_icmp .gt 48, 3) := by decide +kernel
theorem dX5_readAll_27 : decode cX5_readAll 27 = .ok (.iload_n 1, 1) := by decide +kernel
theorem dX5_readAll_28 : decode cX5_readAll 28 = .ok (.ifCond .le 19, 3) := by decide +kernel
theorem dX5_readAll_31 : decode cX5_readAll 31 = .ok (.aload_n 0, 1) := by decide +kernel
theorem dX5_readAll_32 : decode cX5_readAll 32 = .ok (.invokevirtual 37, 3) := by decide +kernel
theorem dX5_readAll_35 : decode cX5_readAll 35 = .ok (.iconst (-1), 1) := by decide +kernel
theorem dX5_readAll_36 : decode cX5_readAll 36 = .ok (.if_icmp .ne 11, 3) := by decide +kernel
theorem dX5_readAll_39 : decode cX5_readAll 39 = .ok (.aload_n 0, 1) := by decide +kernel
theorem dX5_readAll_40 : decode cX5_readAll 40 = .ok (.getfield 22, 3) := by decide +kernel
theorem dX5_readAll_43 : decode cX5_readAll 43 = .ok (.invokevirtual 41, 3) := by decide +kernel
theorem dX5_readAll_46 : decode cX5_readAll 46 = .ok (.ireturn, 1) := by decide +kernel
theorem dX5_readAll_47 : decode cX5_readAll 47 = .ok (.aload_n 0, 1) := by decide +kernel
theorem dX5_readAll_48 : decode cX5_readAll 48 = .ok (.invokevirtual 44, 3) := by decide +kernel
theorem dX5_readAll_51 : decode cX5_readAll 51 = .ok (.ifCond .eq 10, 3) := by decide +kernel
theorem dX5_readAll_54 : decode cX5_readAll 54 = .ok (.aload_n 0, 1) := by decide +kernel
theorem dX5_readAll_55 : decode cX5_readAll 55 = .ok (.invokevirtual 48, 3) := by decide +kernel
theorem dX5_readAll_58 : decode cX5_readAll 58 = .ok (.ifCond .ne 8, 3) := by decide +kernel
theorem dX5_readAll_61 : decode cX5_readAll 61 = .ok (.aload_n 0, 1) := by decide +kernel
theorem dX5_readAll_62 : decode cX5_readAll 62 = .ok (.getfield 15, 3) := by decide +kernel
theorem dX5_readAll_65 : decode cX5_readAll 65 = .ok (.ireturn, 1) := by decide +kernel
theorem dX5_readAll_66 : decode cX5_readAll 66 = .ok (.iinc 1 1, 3) := by decide +kernel
theorem dX5_readAll_69 : decode cX5_readAll 69 = .ok (.goto (-48), 3) := by decide +kernel
theorem dX5_readAll_72 : decode cX5_readAll 72 = .ok (.aload_n 0, 1) := by decide +kernel
theorem dX5_readAll_73 : decode cX5_readAll 73 = .ok (.getfield 9, 3) := by decide +kernel
theorem dX5_readAll_76 : decode cX5_readAll 76 = .ok (.ireturn, 1) := by decide +kernel
theorem dX5_here_0 : decode cX5_here 0 = .ok (.aload_n 0, 1) := by decide +kernel
theorem dX5_here_1 : decode cX5_here 1 = .ok (.getfield 9, 3) := by decide +kernel
theorem dX5_here_4 : decode cX5_here 4 = .ok (.ifCond .lt 32, 3) := by decide +kernel
theorem dX5_here_7 : decode cX5_here 7 = .ok (.aload_n 0, 1) := by decide +kernel
theorem dX5_here_8 : decode cX5_here 8 = .ok (.getfield 9, 3) := by decide +kernel
theorem dX5_here_11 : decode cX5_here 11 = .ok (.aload_n 0, 1) := by decide +kernel
theorem dX5_here_12 : decode cX5_here 12 = .ok (.getfield 18, 3) := by decide +kernel
theorem dX5_here_15 : decode cX5_here 15 = .ok (.getfield 51, 3) := by decide +kernel
theorem dX5_here_18 : decode cX5_here 18 = .ok (.if_icmp .ge 18, 3) := by decide +kernel
theorem dX5_here_21 : decode cX5_here 21 = .ok (.aload_n 0, 1) := by decide +kernel
theorem dX5_here_22 : decode cX5_here 22 = .ok (.getfield 18, 3) := by decide +kernel
theorem dX5_here_25 : decode cX5_here 25 = .ok (.getfield 54, 3) := by decide +kernel
theorem dX5_here_28 : decode cX5_here 28 = .ok (.aload_n 0, 1) := by decide +kernel
theorem dX5_here_29 : decode cX5_here 29 = .ok (.getfield 9, 3) := by decide +kernel
theorem dX5_here_32 : decode cX5_here 32 = .ok (.caload, 1) := by decide +kernel
theorem dX5_here_33 : decode cX5_here 33 = .ok (.goto 4, 3) := by decide +kernel
theorem dX5_here_36 : decode cX5_here 36 = .ok (.iconst (-1), 1) := by decide +kernel
theorem dX5_here_37 : decode cX5_here 37 = .ok (.ireturn, 1) := by decide +kernel
theorem dX5_failAt_0 : decode cX5_failAt 0 = .ok (.aload_n 0, 1) := by decide +kernel
theorem dX5_failAt_1 : decode cX5_failAt 1 = .ok (.iload_n 1, 1) := by decide +kernel
theorem dX5_failAt_2 : decode cX5_failAt 2 = .ok (.putfield 15, 3) := by decide +kernel
theorem dX5_failAt_5 : decode cX5_failAt 5 = .ok (.iconst 0, 1) := by decide +kernel
theorem dX5_failAt_6 : decode cX5_failAt 6 = .ok (.ireturn, 1) := by decide +kernel
set_option maxRecDepth 20000 in
theorem ggX5_readHead_X5_here : GoodIn wsX5_readHead wsX5_here := goodIn_r _ [8, 2, 3, 49, 50, 51, 52, 53, 54] (by decide +kernel) (by decide +kernel)
set_option maxRecDepth 20000 in
theorem gX5_readHead_X5_here : GoodIn wsX5_readHead (wsV RX5 37 RX5 yX5_here wsX5_here) := goodIn_app (goodIn_of _ (by decide +kernel)) ggX5_readHead_X5_here
set_option maxRecDepth 20000 in
theorem ggX5_readHead_X2_canOpenRule : GoodIn wsX5_readHead wsX2_canOpenRule := goodIn_r _ [13, 14, 15, 16, 17, 18, 19, 20, 12, 21, 22, 55, 56, 57, 58, 59, 60, 61, 62, 63, 64, 65, 66, 67, 68, 69, 70] (by decide +kernel) (by decide +kernel)
set_option maxRecDepth 20000 in
theorem gX5_readHead_X2_canOpenRule : GoodIn wsX5_readHead (wsV RX5 58 RX2 yX2_canOpenRule wsX2_canOpenRule) := goodIn_app (goodIn_of _ (by decide +kernel)) ggX5_readHead_X2_canOpenRule
set_option maxRecDepth 20000 in
theorem ggX5_readHead_X5_failAt : GoodIn wsX5_readHead wsX5_failAt := goodIn_r _ [26, 27, 49, 50, 51, 52] (by decide +kernel) (by decide +kernel)
set_option maxRecDepth 20000 in
theorem gX5_readHead_X5_failAt : GoodIn wsX5_readHead (wsV RX5 62 RX5 yX5_failAt wsX5_failAt) := goodIn_app (goodIn_of _ (by decide +kernel)) ggX5_readHead_X5_failAt
set_option maxRecDepth 20000 in
theorem ggX5_readHead_X6_skipBlanks : GoodIn wsX5_readHead wsX6_skipBlanks := goodIn_r _ [32, 33, 34, 35, 36, 31, 37, 38, 39, 16, 40, 53, 54] (by decide +kernel) (by decide +kernel)
set_option maxRecDepth 20000 in
theorem gX5_readHead_X6_skipBlanks : GoodIn wsX5_readHead (wsV RX5 31 RX6 yX6_skipBlanks wsX6_skipBlanks) := goodIn_app (goodIn_of _ (by decide +kernel)) ggX5_readHead_X6_skipBlanks
set_option maxRecDepth 20000 in
theorem ggX5_readHead_X2_openRule : GoodIn wsX5_readHead wsX2_openRule := goodIn_r _ [44, 14, 45, 46, 47, 48, 55, 56, 57, 58, 59, 60, 61, 62, 63, 64, 65, 66, 67, 68, 69, 70] (by decide +kernel) (by decide +kernel)
set_option maxRecDepth 20000 in
theorem gX5_readHead_X2_openRule : GoodIn wsX5_readHead (wsV RX5 65 RX2 yX2_openRule wsX2_openRule) := goodIn_app (goodIn_of _ (by decide +kernel)) ggX5_readHead_X2_openRule
theorem dX5_readHead_0 : decode cX5_readHead 0 = .ok (.aload_n 0, 1) := by decide +kernel
theorem dX5_readHead_1 : decode cX5_readHead 1 = .ok (.invokevirtual 37, 3) := by decide +kernel
theorem dX5_readHead_4 : decode cX5_readHead 4 = .ok (.bipush 65, 2) := by decide +kernel
theorem dX5_readHead_6 : decode cX5_readHead 6 = .ok (.isub, 1) := by decide +kernel
theorem dX5_readHead_7 : decode cX5_readHead 7 = .ok (.istore_n 1, 1) := by decide +kernel
theorem dX5_readHead_8 : decode cX5_readHead 8 = .ok (.aload_n 0, 1) := by decide +kernel
theorem dX5_readHead_9 : decode cX5_readHead 9 = .ok (.getfield 22, 3) := by decide +kernel
theorem dX5_readHead_12 : decode cX5_readHead 12 = .ok (.iload_n 1, 1) := by decide +kernel
theorem dX5_readHead_13 : decode cX5_readHead 13 = .ok (.invokevirtual 58, 3) := by decide +kernel
theorem dX5_readHead_16 : decode cX5_readHead 16 = .ok (.ifCond .ne 12, 3) := by decide +kernel
theorem dX5_readHead_19 : decode cX5_readHead 19 = .ok (.aload_n 0, 1) := by decide +kernel
theorem dX5_readHead_20 : decode cX5_readHead 20 = .ok (.aload_n 0, 1) := by decide +kernel
theorem dX5_readHead_21 : decode cX5_readHead 21 = .ok (.getfield 9, 3) := by decide +kernel
theorem dX5_readHead_24 : decode cX5_readHead 24 = .ok (.invokevirtual 62, 3) := by decide +kernel
theorem dX5_readHead_27 : decode cX5_readHead 27 = .ok (.ireturn, 1) := by decide +kernel
theorem dX5_readHead_28 : decode cX5_readHead 28 = .ok (.aload_n 0, 1) := by decide +kernel
theorem dX5_readHead_29 : decode cX5_readHead 29 = .ok (.aload_n 0, 1) := by decide +kernel
theorem dX5_readHead_30 : decode cX5_readHead 30 = .ok (.getfield 18, 3) := by decide +kernel
theorem dX5_readHead_33 : decode cX5_readHead 33 = .ok (.aload_n 0, 1) := by decide +kernel
theorem dX5_readHead_34 : decode cX5_readHead 34 = .ok (.getfield 9, 3) := by decide +kernel
theorem dX5_readHead_37 : decode cX5_readHead 37 = .ok (.iconst 1, 1) := by decide +kernel
theorem dX5_readHead_38 : decode cX5_readHead 38 = .ok (.iadd, 1) := by decide +kernel
theorem dX5_readHead_39 : decode cX5_readHead 39 = .ok (.invokevirtual 31, 3) := by decide +kernel
theorem dX5_readHead_42 : decode cX5_readHead 42 = .ok (.putfield 9, 3) := by decide +kernel
theorem dX5_readHead_45 : decode cX5_readHead 45 = .ok (.aload_n 0, 1) := by decide +kernel
theorem dX5_readHead_46 : decode cX5_readHead 46 = .ok (.invokevirtual 37, 3) := by decide +kernel
theorem dX5_readHead_49 : decode cX5_readHead 49 = .ok (.bipush 61, 2) := by decide +kernel
theorem dX5_readHead_51 : decode cX5_readHead 51 = .ok (.if_icmp .eq 12, 3) := by decide +kernel
theorem dX5_readHead_54 : decode cX5_readHead 54 = .ok (.aload_n 0, 1) := by decide +kernel
theorem dX5_readHead_55 : decode cX5_readHead 55 = .ok (.aload_n 0, 1) := by decide +kernel
theorem dX5_readHead_56 : decode cX5_readHead 56 = .ok (.getfield 9, 3) := by decide +kernel
theorem dX5_readHead_59 : decode cX5_readHead 59 = .ok (.invokevirtual 62, 3) := by decide +kernel
theorem dX5_readHead_62 : decode cX5_readHead 62 = .ok (.ireturn, 1) := by decide +kernel
theorem dX5_readHead_63 : decode cX5_readHead 63 = .ok (.aload_n 0, 1) := by decide +kernel
theorem dX5_readHead_64 : decode cX5_readHead 64 = .ok (.getfield 22, 3) := by decide +kernel
theorem dX5_readHead_67 : decode cX5_readHead 67 = .ok (.iload_n 1, 1) := by decide +kernel
theorem dX5_readHead_68 : decode cX5_readHead 68 = .ok (.invokevirtual 65, 3) := by decide +kernel
theorem dX5_readHead_71 : decode cX5_readHead 71 = .ok (.iconst 1, 1) := by decide +kernel
theorem dX5_readHead_72 : decode cX5_readHead 72 = .ok (.ireturn, 1) := by decide +kernel
set_option maxRecDepth 20000 in
theorem ggX5_readAlternatives_X6_skipBlanks : GoodIn wsX5_readAlternatives wsX6_skipBlanks := goodIn_r _ [7, 8, 9, 10, 11, 6, 12, 13, 14, 15, 16, 101, 102] (by decide +kernel) (by decide +kernel)
set_option maxRecDepth 20000 in
theorem gX5_readAlternatives_X6_skipBlanks : GoodIn wsX5_readAlternatives (wsV RX5 31 RX6 yX6_skipBlanks wsX6_skipBlanks) := goodIn_app (goodIn_of _ (by decide +kernel)) ggX5_readAlternatives_X6_skipBlanks
set_option maxRecDepth 20000 in
theorem ggX5_readAlternatives_X5_readWeight : GoodIn wsX5_readAlternatives wsX5_readWeight := goodIn_r _ [21, 2, 22, 1, 23, 24, 25, 20, 26, 27, 15, 28, 29, 30, 31, 32, 33, 34, 35, 36, 37, 38, 39, 40, 41, 42, 43, 44, 45, 46, 47, 48, 49, 50, 97, 98, 99, 100, 101, 102, 103, 104, 105, 106, 107, 108, 109, 110, 111, 112, 113, 114, 115, 116, 117, 118] (by decide +kernel) (by decide +kernel)
set_option maxRecDepth 20000 in
theorem gX5_readAlternatives_X5_readWeight : GoodIn wsX5_readAlternatives (wsV RX5 69 RX5 yX5_readWeight wsX5_readWeight) := goodIn_app (goodIn_of _ (by decide +kernel)) ggX5_readAlternatives_X5_readWeight
set_option maxRecDepth 20000 in
theorem ggX5_readAlternatives_X5_readSigns : GoodIn wsX5_readAlternatives wsX5_readSigns := goodIn_r _ [54, 1, 2, 22, 3, 4, 5, 6, 7, 8, 9, 10, 11, 12, 13, 14, 15, 16, 23, 24, 25, 20, 26, 35, 36, 37, 38, 39, 55, 56, 57, 58, 59, 60, 61, 62, 63, 64, 32, 65, 46, 34, 45, 66, 67, 68, 69, 70, 71, 72, 73, 74, 75, 76, 77, 78, 79, 80, 81, 82, 47, 83, 84, 85, 86, 87, 88, 89, 90, 91, 92, 27, 28, 93, 94, 95, 96, 97, 98, 99, 100, 101, 102, 103, 104, 105, 106, 107, 108, 109, 110, 111, 112, 113, 114, 115, 116, 117, 118] (by decide +kernel) (by decide +kernel)
set_option maxRecDepth 20000 in
theorem gX5_readAlternatives_X5_readSigns : GoodIn wsX5_readAlternatives (wsV RX5 72 RX5 yX5_readSigns wsX5_readSigns) := goodIn_app (goodIn_of _ (by decide +kernel)) ggX5_readAlternatives_X5_readSigns
set_option maxRecDepth 20000 in
theorem ggX5_readAlternatives_X5_here : GoodIn wsX5_readAlternatives wsX5_here := goodIn_r _ [26, 2, 1, 97, 98, 99, 100, 101, 102] (by decide +kernel) (by decide +kernel)
set_option maxRecDepth 20000 in
theorem gX5_readAlternatives_X5_here : GoodIn wsX5_readAlternatives (wsV RX5 37 RX5 yX5_here wsX5_here) := goodIn_app (goodIn_of _ (by decide +kernel)) ggX5_readAlternatives_X5_here
set_option maxRecDepth 20000 in
theorem ggX5_readAlternatives_X5_failAt : GoodIn wsX5_readAlternatives wsX5_failAt := goodIn_r _ [38, 39, 97, 98, 99, 100] (by decide +kernel) (by decide +kernel)
set_option maxRecDepth 20000 in
theorem gX5_readAlternatives_X5_failAt : GoodIn wsX5_readAlternatives (wsV RX5 62 RX5 yX5_failAt wsX5_failAt) := goodIn_app (goodIn_of _ (by decide +kernel)) ggX5_readAlternatives_X5_failAt
theorem dX5_readAlternatives_0 : decode cX5_readAlternatives 0 = .ok (.iconst 0, 1) := by decide +kernel
theorem dX5_readAlternatives_1 : decode cX5_readAlternatives 1 = .ok (.istore_n 1, 1) := by decide +kernel
theorem dX5_readAlternatives_2 : decode cX5_readAlternatives 2 = .ok (.iload_n 1, 1) := by decide +kernel
theorem dX5_readAlternatives_3 : decode cX5_readAlternatives 3 = .ok (.bipush 48, 2) := by decide +kernel
theorem dX5_readAlternatives_5 : decode cX5_readAlternatives 5 = .ok (.if_icmp .gt 53, 3) := by decide +kernel
theorem dX5_readAlternatives_8 : decode cX5_readAlternatives 8 = .ok (.aload_n 0, 1) := by decide +kernel
theorem dX5_readAlternatives_9 : decode cX5_readAlternatives 9 = .ok (.aload_n 0, 1) := by decide +kernel
theorem dX5_readAlternatives_10 : decode cX5_readAlternatives 10 = .ok (.getfield 18, 3) := by decide +kernel
theorem dX5_readAlternatives_13 : decode cX5_readAlternatives 13 = .ok (.aload_n 0, 1) := by decide +kernel
theorem dX5_readAlternatives_14 : decode cX5_readAlternatives 14 = .ok (.getfield 9, 3) := by decide +kernel
theorem dX5_readAlternatives_17 : decode cX5_readAlternatives 17 = .ok (.iconst 1, 1) := by decide +kernel
theorem dX5_readAlternatives_18 : decode cX5_readAlternatives 18 = .ok (.iadd, 1) := by decide +kernel
theorem dX5_readAlternatives_19 : decode cX5_readAlternatives 19 = .ok (.invokevirtual 31, 3) := by decide +kernel
theorem dX5_readAlternatives_22 : decode cX5_readAlternatives 22 = .ok (.putfield 9, 3) := by decide +kernel
theorem dX5_readAlternatives_25 : decode cX5_readAlternatives 25 = .ok (.aload_n 0, 1) := by decide +kernel
theorem dX5_readAlternatives_26 : decode cX5_readAlternatives 26 = .ok (.invokevirtual 69, 3) := by decide +kernel
theorem dX5_readAlternatives_29 : decode cX5_readAlternatives 29 = .ok (.ifCond .eq 10, 3) := by decide +kernel
theorem dX5_readAlternatives_32 : decode cX5_readAlternatives 32 = .ok (.aload_n 0, 1) := by decide +kernel
theorem dX5_readAlternatives_33 : decode cX5_readAlternatives 33 = .ok (.invokevirtual 72, 3) := by decide +kernel
theorem dX5_readAlternatives_36 : decode cX5_readAlternatives 36 = .ok (.ifCond .ne 5, 3) := by decide +kernel
theorem dX5_readAlternatives_39 : decode cX5_readAlternatives 39 = .ok (.iconst 0, 1) := by decide +kernel
theorem dX5_readAlternatives_40 : decode cX5_readAlternatives 40 = .ok (.ireturn, 1) := by decide +kernel
theorem dX5_readAlternatives_41 : decode cX5_readAlternatives 41 = .ok (.aload_n 0, 1) := by decide +kernel
theorem dX5_readAlternatives_42 : decode cX5_readAlternatives 42 = .ok (.invokevirtual 37, 3) := by decide +kernel
theorem dX5_readAlternatives_45 : decode cX5_readAlternatives 45 = .ok (.bipush 124, 2) := by decide +kernel
theorem dX5_readAlternatives_47 : decode cX5_readAlternatives 47 = .ok (.if_icmp .eq 5, 3) := by decide +kernel
theorem dX5_readAlternatives_50 : decode cX5_readAlternatives 50 = .ok (.iconst 1, 1) := by decide +kernel
theorem dX5_readAlternatives_51 : decode cX5_readAlternatives 51 = .ok (.ireturn, 1) := by decide +kernel
theorem dX5_readAlternatives_52 : decode cX5_readAlternatives 52 = .ok (.iinc 1 1, 3) := by decide +kernel
theorem dX5_readAlternatives_55 : decode cX5_readAlternatives 55 = .ok (.goto (-53), 3) := by decide +kernel
theorem dX5_readAlternatives_58 : decode cX5_readAlternatives 58 = .ok (.aload_n 0, 1) := by decide +kernel
theorem dX5_readAlternatives_59 : decode cX5_readAlternatives 59 = .ok (.aload_n 0, 1) := by decide +kernel
theorem dX5_readAlternatives_60 : decode cX5_readAlternatives 60 = .ok (.getfield 9, 3) := by decide +kernel
theorem dX5_readAlternatives_63 : decode cX5_readAlternatives 63 = .ok (.invokevirtual 62, 3) := by decide +kernel
theorem dX5_readAlternatives_66 : decode cX5_readAlternatives 66 = .ok (.ireturn, 1) := by decide +kernel
set_option maxRecDepth 20000 in
theorem ggX5_readWeight_X5_here : GoodIn wsX5_readWeight wsX5_here := goodIn_r _ [8, 1, 3, 34, 35, 36, 37, 38, 39] (by decide +kernel) (by decide +kernel)
set_option maxRecDepth 20000 in
theorem gX5_readWeight_X5_here : GoodIn wsX5_readWeight (wsV RX5 37 RX5 yX5_here wsX5_here) := goodIn_app (goodIn_of _ (by decide +kernel)) ggX5_readWeight_X5_here
set_option maxRecDepth 20000 in
theorem ggX5_readWeight_X9_isDigit : GoodIn wsX5_readWeight wsX9_isDigit := goodIn_r _ [11] (by decide +kernel) (by decide +kernel)
set_option maxRecDepth 20000 in
theorem gX5_readWeight_X9_isDigit_n75 : GoodIn wsX5_readWeight (wsX9_isDigit) := ggX5_readWeight_X9_isDigit
set_option maxRecDepth 20000 in
theorem ggX5_readWeight_X2_canOpenAlternative : GoodIn wsX5_readWeight wsX2_canOpenAlternative := goodIn_r _ [16, 17, 40, 41, 42, 43, 44, 45, 46, 47, 48, 49, 50, 51, 52, 53, 54, 55] (by decide +kernel) (by decide +kernel)
set_option maxRecDepth 20000 in
theorem gX5_readWeight_X2_canOpenAlternative : GoodIn wsX5_readWeight (wsV RX5 78 RX2 yX2_canOpenAlternative wsX2_canOpenAlternative) := goodIn_app (goodIn_of _ (by decide +kernel)) ggX5_readWeight_X2_canOpenAlternative
set_option maxRecDepth 20000 in
theorem ggX5_readWeight_X5_failAt : GoodIn wsX5_readWeight wsX5_failAt := goodIn_r _ [21, 22, 34, 35, 36, 37] (by decide +kernel) (by decide +kernel)
set_option maxRecDepth 20000 in
theorem gX5_readWeight_X5_failAt : GoodIn wsX5_readWeight (wsV RX5 62 RX5 yX5_failAt wsX5_failAt) := goodIn_app (goodIn_of _ (by decide +kernel)) ggX5_readWeight_X5_failAt
set_option maxRecDepth 20000 in
theorem ggX5_readWeight_X2_openAlternative : GoodIn wsX5_readWeight wsX2_openAlternative := goodIn_r _ [26, 27, 17, 28, 29, 30, 31, 32, 33, 40, 41, 42, 43, 44, 45, 46, 47, 48, 49, 50, 51, 52, 53, 54, 55] (by decide +kernel) (by decide +kernel)
set_option maxRecDepth 20000 in
theorem gX5_readWeight_X2_openAlternative : GoodIn wsX5_readWeight (wsV RX5 81 RX2 yX2_openAlternative wsX2_openAlternative) := goodIn_app (goodIn_of _ (by decide +kernel)) ggX5_readWeight_X2_openAlternative
theorem dX5_readWeight_0 : decode cX5_readWeight 0 = .ok (.aload_n 0, 1) := by decide +kernel
theorem dX5_readWeight_1 : decode cX5_readWeight 1 = .ok (.getfield 9, 3) := by decide +kernel
theorem dX5_readWeight_4 : decode cX5_readWeight 4 = .ok (.istore_n 1, 1) := by decide +kernel
theorem dX5_readWeight_5 : decode cX5_readWeight 5 = .ok (.aload_n 0, 1) := by decide +kernel
theorem dX5_readWeight_6 : decode cX5_readWeight 6 = .ok (.invokevirtual 37, 3) := by decide +kernel
theorem dX5_readWeight_9 : decode cX5_readWeight 9 = .ok (.invokestatic 75, 3) := by decide +kernel
theorem dX5_readWeight_12 : decode cX5_readWeight 12 = .ok (.ifCond .eq 22, 3) := by decide +kernel
theorem dX5_readWeight_15 : decode cX5_readWeight 15 = .ok (.aload_n 0, 1) := by decide +kernel
theorem dX5_readWeight_16 : decode cX5_readWeight 16 = .ok (.invokevirtual 37, 3) := by decide +kernel
theorem dX5_readWeight_19 : decode cX5_readWeight 19 = .ok (.bipush 48, 2) := by decide +kernel
theorem dX5_readWeight_21 : decode cX5_readWeight 21 = .ok (.if_icmp .eq 13, 3) := by decide +kernel
theorem dX5_readWeight_24 : decode cX5_readWeight 24 = .ok (.aload_n 0, 1) := by decide +kernel
theorem dX5_readWeight_25 : decode cX5_readWeight 25 = .ok (.getfield 22, 3) := by decide +kernel
theorem dX5_readWeight_28 : decode cX5_readWeight 28 = .ok (.invokevirtual 78, 3) := by decide +kernel
theorem dX5_readWeight_31 : decode cX5_readWeight 31 = .ok (.ifCond .ne 9, 3) := by decide +kernel
theorem dX5_readWeight_34 : decode cX5_readWeight 34 = .ok (.aload_n 0, 1) := by decide +kernel
theorem dX5_readWeight_35 : decode cX5_readWeight 35 = .ok (.iload_n 1, 1) := by decide +kernel
theorem dX5_readWeight_36 : decode cX5_readWeight 36 = .ok (.invokevirtual 62, 3) := by decide +kernel
theorem dX5_readWeight_39 : decode cX5_readWeight 39 = .ok (.ireturn, 1) := by decide +kernel
theorem dX5_readWeight_40 : decode cX5_readWeight 40 = .ok (.iconst 0, 1) := by decide +kernel
theorem dX5_readWeight_41 : decode cX5_readWeight 41 = .ok (.istore_n 2, 1) := by decide +kernel
theorem dX5_readWeight_42 : decode cX5_readWeight 42 = .ok (.aload_n 0, 1) := by decide +kernel
theorem dX5_readWeight_43 : decode cX5_readWeight 43 = .ok (.getfield 9, 3) := by decide +kernel
theorem dX5_readWeight_46 : decode cX5_readWeight 46 = .ok (.aload_n 0, 1) := by decide +kernel
theorem dX5_readWeight_47 : decode cX5_readWeight 47 = .ok (.getfield 18, 3) := by decide +kernel
theorem dX5_readWeight_50 : decode cX5_readWeight 50 = .ok (.getfield 51, 3) := by decide +kernel
theorem dX5_readWeight_53 : decode cX5_readWeight 53 = .ok (.if_icmp .ge 52, 3) := by decide +kernel
theorem dX5_readWeight_56 : decode cX5_readWeight 56 = .ok (.aload_n 0, 1) := by decide +kernel
theorem dX5_readWeight_57 : decode cX5_readWeight 57 = .ok (.invokevirtual 37, 3) := by decide +kernel
theorem dX5_readWeight_60 : decode cX5_readWeight 60 = .ok (.invokestatic 75, 3) := by decide +kernel
theorem dX5_readWeight_63 : decode cX5_readWeight 63 = .ok (.ifCond .eq 42, 3) := by decide +kernel
theorem dX5_readWeight_66 : decode cX5_readWeight 66 = .ok (.iload_n 2, 1) := by decide +kernel
theorem dX5_readWeight_67 : decode cX5_readWeight 67 = .ok (.bipush 10, 2) := by decide +kernel
theorem dX5_readWeight_69 : decode cX5_readWeight 69 = .ok (.imul, 1) := by decide +kernel
theorem dX5_readWeight_70 : decode cX5_readWeight 70 = .ok (.aload_n 0, 1) := by decide +kernel
theorem dX5_readWeight_71 : decode cX5_readWeight 71 = .ok (.invokevirtual 37, 3) := by decide +kernel
theorem dX5_readWeight_74 : decode cX5_readWeight 74 = .ok (.iadd, 1) := by decide +kernel
theorem dX5_readWeight_75 : decode cX5_readWeight 75 = .ok (.bipush 48, 2) := by decide +kernel
theorem dX5_readWeight_77 : decode cX5_readWeight 77 = .ok (.isub, 1) := by decide +kernel
theorem dX5_readWeight_78 : decode cX5_readWeight 78 = .ok (.istore_n 2, 1) := by decide +kernel
theorem dX5_readWeight_79 : decode cX5_readWeight 79 = .ok (.iload_n 2, 1) := by decide +kernel
theorem dX5_readWeight_80 : decode cX5_readWeight 80 = .ok (.sipush 999, 3) := by decide +kernel
theorem dX5_readWeight_83 : decode cX5_readWeight 83 = .ok (.if_icmp .le 9, 3) := by decide +kernel
theorem dX5_readWeight_86 : decode cX5_readWeight 86 = .ok (.aload_n 0, 1) := by decide +kernel
theorem dX5_readWeight_87 : decode cX5_readWeight 87 = .ok (.iload_n 1, 1) := by decide +kernel
theorem dX5_readWeight_88 : decode cX5_readWeight 88 = .ok (.invokevirtual 62, 3) := by decide +kernel
theorem dX5_readWeight_91 : decode cX5_readWeight 91 = .ok (.ireturn, 1) := by decide +kernel
theorem dX5_readWeight_92 : decode cX5_readWeight 92 = .ok (.aload_n 0, 1) := by decide +kernel
theorem dX5_readWeight_93 : decode cX5_readWeight 93 = .ok (.dup, 1) := by decide +kernel
theorem dX5_readWeight_94 : decode cX5_readWeight 94 = .ok (.getfield 9, 3) := by decide +kernel
theorem dX5_readWeight_97 : decode cX5_readWeight 97 = .ok (.iconst 1, 1) := by decide +kernel
theorem dX5_readWeight_98 : decode cX5_readWeight 98 = .ok (.iadd, 1) := by decide +kernel
theorem dX5_readWeight_99 : decode cX5_readWeight 99 = .ok (.putfield 9, 3) := by decide +kernel
theorem dX5_readWeight_102 : decode cX5_readWeight 102 = .ok (.goto (-60), 3) := by decide +kernel
theorem dX5_readWeight_105 : decode cX5_readWeight 105 = .ok (.aload_n 0, 1) := by decide +kernel
theorem dX5_readWeight_106 : decode cX5_readWeight 106 = .ok (.getfield 22, 3) := by decide +kernel
theorem dX5_readWeight_109 : decode cX5_readWeight 109 = .ok (.iload_n 2, 1) := by decide +kernel
theorem dX5_readWeight_110 : decode cX5_readWeight 110 = .ok (.invokevirtual 81, 3) := by decide +kernel
theorem dX5_readWeight_113 : decode cX5_readWeight 113 = .ok (.iconst 1, 1) := by decide +kernel
theorem dX5_readWeight_114 : decode cX5_readWeight 114 = .ok (.ireturn, 1) := by decide +kernel
set_option maxRecDepth 20000 in
theorem ggX5_readSigns_X6_skipBlanks : GoodIn wsX5_readSigns wsX6_skipBlanks := goodIn_r _ [8, 9, 10, 11, 12, 7, 13, 14, 15, 16, 17, 81, 82] (by decide +kernel) (by decide +kernel)
set_option maxRecDepth 20000 in
theorem gX5_readSigns_X6_skipBlanks : GoodIn wsX5_readSigns (wsV RX5 31 RX6 yX6_skipBlanks wsX6_skipBlanks) := goodIn_app (goodIn_of _ (by decide +kernel)) ggX5_readSigns_X6_skipBlanks
set_option maxRecDepth 20000 in
theorem ggX5_readSigns_X5_here : GoodIn wsX5_readSigns wsX5_here := goodIn_r _ [22, 2, 1, 77, 78, 79, 80, 81, 82] (by decide +kernel) (by decide +kernel)
set_option maxRecDepth 20000 in
theorem gX5_readSigns_X5_here : GoodIn wsX5_readSigns (wsV RX5 37 RX5 yX5_here wsX5_here) := goodIn_app (goodIn_of _ (by decide +kernel)) ggX5_readSigns_X5_here
set_option maxRecDepth 20000 in
theorem ggX5_readSigns_X5_failAt : GoodIn wsX5_readSigns wsX5_failAt := goodIn_r _ [26, 27, 77, 78, 79, 80] (by decide +kernel) (by decide +kernel)
set_option maxRecDepth 20000 in
theorem gX5_readSigns_X5_failAt : GoodIn wsX5_readSigns (wsV RX5 62 RX5 yX5_failAt wsX5_failAt) := goodIn_app (goodIn_of _ (by decide +kernel)) ggX5_readSigns_X5_failAt
set_option maxRecDepth 20000 in
theorem ggX5_readSigns_X5_equalsSignBehindLetter : GoodIn wsX5_readSigns wsX5_equalsSignBehindLetter := goodIn_r _ [31, 1, 2, 18, 19, 20, 21, 22, 32, 16, 33, 4, 5, 6, 7, 8, 9, 10, 11, 12, 13, 14, 15, 17, 34, 77, 78, 79, 80, 81, 82] (by decide +kernel) (by decide +kernel)
set_option maxRecDepth 20000 in
theorem gX5_readSigns_X5_equalsSignBehindLetter : GoodIn wsX5_readSigns (wsV RX5 84 RX5 yX5_equalsSignBehindLetter wsX5_equalsSignBehindLetter) := goodIn_app (goodIn_of _ (by decide +kernel)) ggX5_readSigns_X5_equalsSignBehindLetter
set_option maxRecDepth 20000 in
theorem ggX5_readSigns_X2_canAddSign : GoodIn wsX5_readSigns wsX2_canAddSign := goodIn_r _ [39, 40, 41, 42, 83, 84, 85, 86, 87, 88, 89, 90, 91, 92, 93, 94, 95, 96, 97, 98] (by decide +kernel) (by decide +kernel)
set_option maxRecDepth 20000 in
theorem gX5_readSigns_X2_canAddSign : GoodIn wsX5_readSigns (wsV RX5 87 RX2 yX2_canAddSign wsX2_canAddSign) := goodIn_app (goodIn_of _ (by decide +kernel)) ggX5_readSigns_X2_canAddSign
set_option maxRecDepth 20000 in
theorem ggX5_readSigns_X5_readSign : GoodIn wsX5_readSigns wsX5_readSign := goodIn_r _ [46, 3, 2, 18, 19, 20, 21, 22, 1, 32, 16, 33, 47, 48, 49, 38, 50, 51, 52, 53, 54, 55, 56, 40, 57, 58, 59, 60, 41, 61, 62, 23, 24, 25, 26, 27, 63, 64, 65, 66, 67, 68, 69, 70, 71, 72, 73, 74, 75, 76, 77, 78, 79, 80, 81, 82, 83, 84, 85, 86, 87, 88, 89, 90, 91, 92, 93, 94, 95, 96, 97, 98] (by decide +kernel) (by decide +kernel)
set_option maxRecDepth 20000 in
theorem gX5_readSigns_X5_readSign : GoodIn wsX5_readSigns (wsV RX5 90 RX5 yX5_readSign wsX5_readSign) := goodIn_app (goodIn_of _ (by decide +kernel)) ggX5_readSigns_X5_readSign
theorem dX5_readSigns_0 : decode cX5_readSigns 0 = .ok (.iconst 0, 1) := by decide +kernel
theorem dX5_readSigns_1 : decode cX5_readSigns 1 = .ok (.istore_n 1, 1) := by decide +kernel
theorem dX5_readSigns_2 : decode cX5_readSigns 2 = .ok (.iload_n 1, 1) := by decide +kernel
theorem dX5_readSigns_3 : decode cX5_readSigns 3 = .ok (.bipush 12, 2) := by decide +kernel
theorem dX5_readSigns_5 : decode cX5_readSigns 5 = .ok (.if_icmp .gt 118, 3) := by decide +kernel
theorem dX5_readSigns_8 : decode cX5_readSigns 8 = .ok (.aload_n 0, 1) := by decide +kernel
theorem dX5_readSigns_9 : decode cX5_readSigns 9 = .ok (.aload_n 0, 1) := by decide +kernel
theorem dX5_readSigns_10 : decode cX5_readSigns 10 = .ok (.getfield 18, 3) := by decide +kernel
theorem dX5_readSigns_13 : decode cX5_readSigns 13 = .ok (.aload_n 0, 1) := by decide +kernel
theorem dX5_readSigns_14 : decode cX5_readSigns 14 = .ok (.getfield 9, 3) := by decide +kernel
theorem dX5_readSigns_17 : decode cX5_readSigns 17 = .ok (.invokevirtual 31, 3) := by decide +kernel
theorem dX5_readSigns_20 : decode cX5_readSigns 20 = .ok (.putfield 9, 3) := by decide +kernel
theorem dX5_readSigns_23 : decode cX5_readSigns 23 = .ok (.aload_n 0, 1) := by decide +kernel
theorem dX5_readSigns_24 : decode cX5_readSigns 24 = .ok (.invokevirtual 37, 3) := by decide +kernel
theorem dX5_readSigns_27 : decode cX5_readSigns 27 = .ok (.iconst (-1), 1) := by decide +kernel
theorem dX5_readSigns_28 : decode cX5_readSigns 28 = .ok (.if_icmp .eq 12, 3) := by decide +kernel
theorem dX5_readSigns_31 : decode cX5_readSigns 31 = .ok (.aload_n 0, 1) := by decide +kernel
theorem dX5_readSigns_32 : decode cX5_readSigns 32 = .ok (.invokevirtual 37, 3) := by decide +kernel
theorem dX5_readSigns_35 : decode cX5_readSigns 35 = .ok (.bipush 124, 2) := by decide +kernel
theorem dX5_readSigns_37 : decode cX5_readSigns 37 = .ok (.if_icmp .ne 24, 3) := by decide +kernel
theorem dX5_readSigns_40 : decode cX5_readSigns 40 = .ok (.iload_n 1, 1) := by decide +kernel
theorem dX5_readSigns_41 : decode cX5_readSigns 41 = .ok (.ifCond .gt 14, 3) := by decide +kernel
theorem dX5_readSigns_44 : decode cX5_readSigns 44 = .ok (.aload_n 0, 1) := by decide +kernel
theorem dX5_readSigns_45 : decode cX5_readSigns 45 = .ok (.aload_n 0, 1) := by decide +kernel
theorem dX5_readSigns_46 : decode cX5_readSigns 46 = .ok (.getfield 9, 3) := by decide +kernel
theorem dX5_readSigns_49 : decode cX5_readSigns 49 = .ok (.invokevirtual 62, 3) := by decide +kernel
theorem dX5_readSigns_52 : decode cX5_readSigns 52 = .ok (.ifCond .eq 7, 3) := by decide +kernel
theorem dX5_readSigns_55 : decode cX5_readSigns 55 = .ok (.iconst 1, 1) := by decide +kernel
theorem dX5_readSigns_56 : decode cX5_readSigns 56 = .ok (.goto 4, 3) := by decide +kernel
theorem dX5_readSigns_59 : decode cX5_readSigns 59 = .ok (.iconst 0, 1) := by decide +kernel
theorem dX5_readSigns_60 : decode cX5_readSigns 60 = .ok (.ireturn, 1) := by decide +kernel
theorem dX5_readSigns_61 : decode cX5_readSigns 61 = .ok (.aload_n 0, 1) := by decide +kernel
theorem dX5_readSigns_62 : decode cX5_readSigns 62 = .ok (.invokevirtual 84, 3) := by decide +kernel
theorem dX5_readSigns_65 : decode cX5_readSigns 65 = .ok (.istore_n 2, 1) := by decide +kernel
theorem dX5_readSigns_66 : decode cX5_readSigns 66 = .ok (.iload_n 2, 1) := by decide +kernel
theorem dX5_readSigns_67 : decode cX5_readSigns 67 = .ok (.iconst (-1), 1) := by decide +kernel
theorem dX5_readSigns_68 : decode cX5_readSigns 68 = .ok (.if_icmp .eq 21, 3) := by decide +kernel
theorem dX5_readSigns_71 : decode cX5_readSigns 71 = .ok (.iload_n 1, 1) := by decide +kernel
theorem dX5_readSigns_72 : decode cX5_readSigns 72 = .ok (.ifCond .gt 11, 3) := by decide +kernel
theorem dX5_readSigns_75 : decode cX5_readSigns 75 = .ok (.aload_n 0, 1) := by decide +kernel
theorem dX5_readSigns_76 : decode cX5_readSigns 76 = .ok (.iload_n 2, 1) := by decide +kernel
theorem dX5_readSigns_77 : decode cX5_readSigns 77 = .ok (.invokevirtual 62, 3) := by decide +kernel
theorem dX5_readSigns_80 : decode cX5_readSigns 80 = .ok (.ifCond .eq 7, 3) := by decide +kernel
theorem dX5_readSigns_83 : decode cX5_readSigns 83 = .ok (.iconst 1, 1) := by decide +kernel
theorem dX5_readSigns_84 : decode cX5_readSigns 84 = .ok (.goto 4, 3) := by decide +kernel
theorem dX5_readSigns_87 : decode cX5_readSigns 87 = .ok (.iconst 0, 1) := by decide +kernel
theorem dX5_readSigns_88 : decode cX5_readSigns 88 = .ok (.ireturn, 1) := by decide +kernel
theorem dX5_readSigns_89 : decode cX5_readSigns 89 = .ok (.aload_n 0, 1) := by decide +kernel
theorem dX5_readSigns_90 : decode cX5_readSigns 90 = .ok (.getfield 22, 3) := by decide +kernel
theorem dX5_readSigns_93 : decode cX5_readSigns 93 = .ok (.invokevirtual 87, 3) := by decide +kernel
theorem dX5_readSigns_96 : decode cX5_readSigns 96 = .ok (.ifCond .ne 12, 3) := by decide +kernel
theorem dX5_readSigns_99 : decode cX5_readSigns 99 = .ok (.aload_n 0, 1) := by decide +kernel
theorem dX5_readSigns_100 : decode cX5_readSigns 100 = .ok (.aload_n 0, 1) := by decide +kernel
theorem dX5_readSigns_101 : decode cX5_readSigns 101 = .ok (.getfield 9, 3) := by decide +kernel
theorem dX5_readSigns_104 : decode cX5_readSigns 104 = .ok (.invokevirtual 62, 3) := by decide +kernel
theorem dX5_readSigns_107 : decode cX5_readSigns 107 = .ok (.ireturn, 1) := by decide +kernel
theorem dX5_readSigns_108 : decode cX5_readSigns 108 = .ok (.aload_n 0, 1) := by decide +kernel
theorem dX5_readSigns_109 : decode cX5_readSigns 109 = .ok (.invokevirtual 90, 3) := by decide +kernel
theorem dX5_readSigns_112 : decode cX5_readSigns 112 = .ok (.ifCond .ne 5, 3) := by decide +kernel
theorem dX5_readSigns_115 : decode cX5_readSigns 115 = .ok (.iconst 0, 1) := by decide +kernel
theorem dX5_readSigns_116 : decode cX5_readSigns 116 = .ok (.ireturn, 1) := by decide +kernel
theorem dX5_readSigns_117 : decode cX5_readSigns 117 = .ok (.iinc 1 1, 3) := by decide +kernel
theorem dX5_readSigns_120 : decode cX5_readSigns 120 = .ok (.goto (-118), 3) := by decide +kernel
theorem dX5_readSigns_123 : decode cX5_readSigns 123 = .ok (.aload_n 0, 1) := by decide +kernel
theorem dX5_readSigns_124 : decode cX5_readSigns 124 = .ok (.aload_n 0, 1) := by decide +kernel
theorem dX5_readSigns_125 : decode cX5_readSigns 125 = .ok (.getfield 9, 3) := by decide +kernel
theorem dX5_readSigns_128 : decode cX5_readSigns 128 = .ok (.invokevirtual 62, 3) := by decide +kernel
theorem dX5_readSigns_131 : decode cX5_readSigns 131 = .ok (.ireturn, 1) := by decide +kernel
set_option maxRecDepth 20000 in
theorem ggX5_equalsSignBehindLetter_X5_here : GoodIn wsX5_equalsSignBehindLetter wsX5_here := goodIn_r _ [7, 2, 1, 25, 26, 27, 28, 29, 30] (by decide +kernel) (by decide +kernel)
set_option maxRecDepth 20000 in
theorem gX5_equalsSignBehindLetter_X5_here : GoodIn wsX5_equalsSignBehindLetter (wsV RX5 37 RX5 yX5_here wsX5_here) := goodIn_app (goodIn_of _ (by decide +kernel)) ggX5_equalsSignBehindLetter_X5_here
set_option maxRecDepth 20000 in
theorem ggX5_equalsSignBehindLetter_X9_isLetter : GoodIn wsX5_equalsSignBehindLetter wsX9_isLetter := goodIn_r _ [10] (by decide +kernel) (by decide +kernel)
set_option maxRecDepth 20000 in
theorem gX5_equalsSignBehindLetter_X9_isLetter_n93 : GoodIn wsX5_equalsSignBehindLetter (wsX9_isLetter) := ggX5_equalsSignBehindLetter_X9_isLetter
set_option maxRecDepth 20000 in
theorem ggX5_equalsSignBehindLetter_X6_skipBlanks : GoodIn wsX5_equalsSignBehindLetter wsX6_skipBlanks := goodIn_r _ [15, 16, 17, 18, 19, 14, 20, 21, 22, 9, 23, 29, 30] (by decide +kernel) (by decide +kernel)
set_option maxRecDepth 20000 in
theorem gX5_equalsSignBehindLetter_X6_skipBlanks : GoodIn wsX5_equalsSignBehindLetter (wsV RX5 31 RX6 yX6_skipBlanks wsX6_skipBlanks) := goodIn_app (goodIn_of _ (by decide +kernel)) ggX5_equalsSignBehindLetter_X6_skipBlanks
set_option maxRecDepth 20000 in
theorem ggX5_equalsSignBehindLetter_X6_at : GoodIn wsX5_equalsSignBehindLetter wsX6_at := goodIn_r _ [20, 16, 21, 29, 30] (by decide +kernel) (by decide +kernel)
set_option maxRecDepth 20000 in
theorem gX5_equalsSignBehindLetter_X6_at : GoodIn wsX5_equalsSignBehindLetter (wsV RX5 96 RX6 yX6_at wsX6_at) := goodIn_app (goodIn_of _ (by decide +kernel)) ggX5_equalsSignBehindLetter_X6_at
theorem dX5_equalsSignBehindLetter_0 : decode cX5_equalsSignBehindLetter 0 = .ok (.aload_n 0, 1) := by decide +kernel
theorem dX5_equalsSignBehindLetter_1 : decode cX5_equalsSignBehindLetter 1 = .ok (.invokevirtual 37, 3) := by decide +kernel
theorem dX5_equalsSignBehindLetter_4 : decode cX5_equalsSignBehindLetter 4 = .ok (.invokestatic 93, 3) := by decide +kernel
theorem dX5_equalsSignBehindLetter_7 : decode cX5_equalsSignBehindLetter 7 = .ok (.ifCond .ne 5, 3) := by decide +kernel
theorem dX5_equalsSignBehindLetter_10 : decode cX5_equalsSignBehindLetter 10 = .ok (.iconst (-1), 1) := by decide +kernel
theorem dX5_equalsSignBehindLetter_11 : decode cX5_equalsSignBehindLetter 11 = .ok (.ireturn, 1) := by decide +kernel
theorem dX5_equalsSignBehindLetter_12 : decode cX5_equalsSignBehindLetter 12 = .ok (.aload_n 0, 1) := by decide +kernel
theorem dX5_equalsSignBehindLetter_13 : decode cX5_equalsSignBehindLetter 13 = .ok (.getfield 18, 3) := by decide +kernel
theorem dX5_equalsSignBehindLetter_16 : decode cX5_equalsSignBehindLetter 16 = .ok (.aload_n 0, 1) := by decide +kernel
theorem dX5_equalsSignBehindLetter_17 : decode cX5_equalsSignBehindLetter 17 = .ok (.getfield 9, 3) := by decide +kernel
theorem dX5_equalsSignBehindLetter_20 : decode cX5_equalsSignBehindLetter 20 = .ok (.iconst 1, 1) := by decide +kernel
theorem dX5_equalsSignBehindLetter_21 : decode cX5_equalsSignBehindLetter 21 = .ok (.iadd, 1) := by decide +kernel
theorem dX5_equalsSignBehindLetter_22 : decode cX5_equalsSignBehindLetter 22 = .ok (.invokevirtual 31, 3) := by decide +kernel
theorem dX5_equalsSignBehindLetter_25 : decode cX5_equalsSignBehindLetter 25 = .ok (.istore_n 1, 1) := by decide +kernel
theorem dX5_equalsSignBehindLetter_26 : decode cX5_equalsSignBehindLetter 26 = .ok (.aload_n 0, 1) := by decide +kernel
theorem dX5_equalsSignBehindLetter_27 : decode cX5_equalsSignBehindLetter 27 = .ok (.getfield 18, 3) := by decide +kernel
theorem dX5_equalsSignBehindLetter_30 : decode cX5_equalsSignBehindLetter 30 = .ok (.iload_n 1, 1) := by decide +kernel
theorem dX5_equalsSignBehindLetter_31 : decode cX5_equalsSignBehindLetter 31 = .ok (.invokevirtual 96, 3) := by decide +kernel
theorem dX5_equalsSignBehindLetter_34 : decode cX5_equalsSignBehindLetter 34 = .ok (.bipush 61, 2) := by decide +kernel
theorem dX5_equalsSignBehindLetter_36 : decode cX5_equalsSignBehindLetter 36 = .ok (.if_icmp .ne 7, 3) := by decide +kernel
theorem dX5_equalsSignBehindLetter_39 : decode cX5_equalsSignBehindLetter 39 = .ok (.iload_n 1, 1) := by decide +kernel
theorem dX5_equalsSignBehindLetter_40 : decode cX5_equalsSignBehindLetter 40 = .ok (.goto 4, 3) := by decide +kernel
theorem dX5_equalsSignBehindLetter_43 : decode cX5_equalsSignBehindLetter 43 = .ok (.iconst (-1), 1) := by decide +kernel
theorem dX5_equalsSignBehindLetter_44 : decode cX5_equalsSignBehindLetter 44 = .ok (.ireturn, 1) := by decide +kernel
set_option maxRecDepth 20000 in
theorem ggX5_readSign_X5_here : GoodIn wsX5_readSign wsX5_here := goodIn_r _ [7, 2, 8, 50, 51, 52, 53, 54, 55] (by decide +kernel) (by decide +kernel)
set_option maxRecDepth 20000 in
theorem gX5_readSign_X5_here : GoodIn wsX5_readSign (wsV RX5 37 RX5 yX5_here wsX5_here) := goodIn_app (goodIn_of _ (by decide +kernel)) ggX5_readSign_X5_here
set_option maxRecDepth 20000 in
theorem ggX5_readSign_X9_isLetter : GoodIn wsX5_readSign wsX9_isLetter := goodIn_r _ [11] (by decide +kernel) (by decide +kernel)
set_option maxRecDepth 20000 in
theorem gX5_readSign_X9_isLetter_n93 : GoodIn wsX5_readSign (wsX9_isLetter) := ggX5_readSign_X9_isLetter
set_option maxRecDepth 20000 in
theorem ggX5_readSign_X2_addLetter : GoodIn wsX5_readSign wsX2_addLetter := goodIn_r _ [16, 17, 18, 19, 20, 15, 21, 22, 23, 24, 25, 26, 27, 28, 56, 57, 58, 59, 60, 61, 62, 63, 64, 65, 66, 67, 68, 69, 70, 71] (by decide +kernel) (by decide +kernel)
set_option maxRecDepth 20000 in
theorem gX5_readSign_X2_addLetter : GoodIn wsX5_readSign (wsV RX5 98 RX2 yX2_addLetter wsX2_addLetter) := goodIn_app (goodIn_of _ (by decide +kernel)) ggX5_readSign_X2_addLetter
set_option maxRecDepth 20000 in
theorem ggX5_readSign_X9_isDegree : GoodIn wsX5_readSign wsX9_isDegree := goodIn_r _ [30] (by decide +kernel) (by decide +kernel)
set_option maxRecDepth 20000 in
theorem gX5_readSign_X9_isDegree_n102 : GoodIn wsX5_readSign (wsX9_isDegree) := ggX5_readSign_X9_isDegree
set_option maxRecDepth 20000 in
theorem ggX5_readSign_X5_failAt : GoodIn wsX5_readSign wsX5_failAt := goodIn_r _ [34, 35, 50, 51, 52, 53] (by decide +kernel) (by decide +kernel)
set_option maxRecDepth 20000 in
theorem gX5_readSign_X5_failAt : GoodIn wsX5_readSign (wsV RX5 62 RX5 yX5_failAt wsX5_failAt) := goodIn_app (goodIn_of _ (by decide +kernel)) ggX5_readSign_X5_failAt
set_option maxRecDepth 20000 in
theorem ggX5_readSign_X5_readOctave : GoodIn wsX5_readSign wsX5_readOctave := goodIn_r _ [39, 2, 3, 4, 5, 6, 7, 8, 50, 51, 52, 53, 54, 55] (by decide +kernel) (by decide +kernel)
set_option maxRecDepth 20000 in
theorem gX5_readSign_X5_readOctave : GoodIn wsX5_readSign (wsV RX5 105 RX5 yX5_readOctave wsX5_readOctave) := goodIn_app (goodIn_of _ (by decide +kernel)) ggX5_readSign_X5_readOctave
set_option maxRecDepth 20000 in
theorem ggX5_readSign_X5_readLength : GoodIn wsX5_readSign wsX5_readLength := goodIn_r _ [43, 2, 8, 3, 4, 5, 6, 7, 44, 10, 45, 31, 32, 33, 34, 35, 50, 51, 52, 53, 54, 55] (by decide +kernel) (by decide +kernel)
set_option maxRecDepth 20000 in
theorem gX5_readSign_X5_readLength : GoodIn wsX5_readSign (wsV RX5 108 RX5 yX5_readLength wsX5_readLength) := goodIn_app (goodIn_of _ (by decide +kernel)) ggX5_readSign_X5_readLength
set_option maxRecDepth 20000 in
theorem ggX5_readSign_X2_addSound : GoodIn wsX5_readSign wsX2_addSound := goodIn_r _ [49, 18, 19, 20, 15, 21, 22, 23, 24, 25, 26, 27, 28, 56, 57, 58, 59, 60, 61, 62, 63, 64, 65, 66, 67, 68, 69, 70, 71] (by decide +kernel) (by decide +kernel)
set_option maxRecDepth 20000 in
theorem gX5_readSign_X2_addSound : GoodIn wsX5_readSign (wsV RX5 111 RX2 yX2_addSound wsX2_addSound) := goodIn_app (goodIn_of _ (by decide +kernel)) ggX5_readSign_X2_addSound
theorem dX5_readSign_0 : decode cX5_readSign 0 = .ok (.aload_n 0, 1) := by decide +kernel
theorem dX5_readSign_1 : decode cX5_readSign 1 = .ok (.invokevirtual 37, 3) := by decide +kernel
theorem dX5_readSign_4 : decode cX5_readSign 4 = .ok (.istore_n 1, 1) := by decide +kernel
theorem dX5_readSign_5 : decode cX5_readSign 5 = .ok (.iload_n 1, 1) := by decide +kernel
theorem dX5_readSign_6 : decode cX5_readSign 6 = .ok (.invokestatic 93, 3) := by decide +kernel
theorem dX5_readSign_9 : decode cX5_readSign 9 = .ok (.ifCond .eq 30, 3) := by decide +kernel
theorem dX5_readSign_12 : decode cX5_readSign 12 = .ok (.aload_n 0, 1) := by decide +kernel
theorem dX5_readSign_13 : decode cX5_readSign 13 = .ok (.getfield 22, 3) := by decide +kernel
theorem dX5_readSign_16 : decode cX5_readSign 16 = .ok (.iload_n 1, 1) := by decide +kernel
theorem dX5_readSign_17 : decode cX5_readSign 17 = .ok (.bipush 65, 2) := by decide +kernel
theorem dX5_readSign_19 : decode cX5_readSign 19 = .ok (.isub, 1) := by decide +kernel
theorem dX5_readSign_20 : decode cX5_readSign 20 = .ok (.aload_n 0, 1) := by decide +kernel
theorem dX5_readSign_21 : decode cX5_readSign 21 = .ok (.getfield 9, 3) := by decide +kernel
theorem dX5_readSign_24 : decode cX5_readSign 24 = .ok (.invokevirtual 98, 3) := by decide +kernel
theorem dX5_readSign_27 : decode cX5_readSign 27 = .ok (.aload_n 0, 1) := by decide +kernel
theorem dX5_readSign_28 : decode cX5_readSign 28 = .ok (.dup, 1) := by decide +kernel
theorem dX5_readSign_29 : decode cX5_readSign 29 = .ok (.getfield 9, 3) := by decide +kernel
theorem dX5_readSign_32 : decode cX5_readSign 32 = .ok (.iconst 1, 1) := by decide +kernel
theorem dX5_readSign_33 : decode cX5_readSign 33 = .ok (.iadd, 1) := by decide +kernel
theorem dX5_readSign_34 : decode cX5_readSign 34 = .ok (.putfield 9, 3) := by decide +kernel
theorem dX5_readSign_37 : decode cX5_readSign 37 = .ok (.iconst 1, 1) := by decide +kernel
theorem dX5_readSign_38 : decode cX5_readSign 38 = .ok (.ireturn, 1) := by decide +kernel
theorem dX5_readSign_39 : decode cX5_readSign 39 = .ok (.iload_n 1, 1) := by decide +kernel
theorem dX5_readSign_40 : decode cX5_readSign 40 = .ok (.invokestatic 102, 3) := by decide +kernel
theorem dX5_readSign_43 : decode cX5_readSign 43 = .ok (.ifCond .ne 18, 3) := by decide +kernel
theorem dX5_readSign_46 : decode cX5_readSign 46 = .ok (.iload_n 1, 1) := by decide +kernel
theorem dX5_readSign_47 : decode cX5_readSign 47 = .ok (.bipush 114, 2) := by decide +kernel
theorem dX5_readSign_49 : decode cX5_readSign 49 = .ok (.if_icmp .eq 12, 3) := by decide +kernel
theorem dX5_readSign_52 : decode cX5_readSign 52 = .ok (.aload_n 0, 1) := by decide +kernel
theorem dX5_readSign_53 : decode cX5_readSign 53 = .ok (.aload_n 0, 1) := by decide +kernel
theorem dX5_readSign_54 : decode cX5_readSign 54 = .ok (.getfield 9, 3) := by decide +kernel
theorem dX5_readSign_57 : decode cX5_readSign 57 = .ok (.invokevirtual 62, 3) := by decide +kernel
theorem dX5_readSign_60 : decode cX5_readSign 60 = .ok (.ireturn, 1) := by decide +kernel
theorem dX5_readSign_61 : decode cX5_readSign 61 = .ok (.aload_n 0, 1) := by decide +kernel
theorem dX5_readSign_62 : decode cX5_readSign 62 = .ok (.dup, 1) := by decide +kernel
theorem dX5_readSign_63 : decode cX5_readSign 63 = .ok (.getfield 9, 3) := by decide +kernel
theorem dX5_readSign_66 : decode cX5_readSign 66 = .ok (.iconst 1, 1) := by decide +kernel
theorem dX5_readSign_67 : decode cX5_readSign 67 = .ok (.iadd, 1) := by decide +kernel
theorem dX5_readSign_68 : decode cX5_readSign 68 = .ok (.putfield 9, 3) := by decide +kernel
theorem dX5_readSign_71 : decode cX5_readSign 71 = .ok (.iload_n 1, 1) := by decide +kernel
theorem dX5_readSign_72 : decode cX5_readSign 72 = .ok (.bipush 114, 2) := by decide +kernel
theorem dX5_readSign_74 : decode cX5_readSign 74 = .ok (.if_icmp .ne 7, 3) := by decide +kernel
theorem dX5_readSign_77 : decode cX5_readSign 77 = .ok (.iconst 0, 1) := by decide +kernel
theorem dX5_readSign_78 : decode cX5_readSign 78 = .ok (.goto 7, 3) := by decide +kernel
theorem dX5_readSign_81 : decode cX5_readSign 81 = .ok (.aload_n 0, 1) := by decide +kernel
theorem dX5_readSign_82 : decode cX5_readSign 82 = .ok (.invokevirtual 105, 3) := by decide +kernel
theorem dX5_readSign_85 : decode cX5_readSign 85 = .ok (.istore_n 2, 1) := by decide +kernel
theorem dX5_readSign_86 : decode cX5_readSign 86 = .ok (.aload_n 0, 1) := by decide +kernel
theorem dX5_readSign_87 : decode cX5_readSign 87 = .ok (.invokevirtual 108, 3) := by decide +kernel
theorem dX5_readSign_90 : decode cX5_readSign 90 = .ok (.istore_n 3, 1) := by decide +kernel
theorem dX5_readSign_91 : decode cX5_readSign 91 = .ok (.iload_n 3, 1) := by decide +kernel
theorem dX5_readSign_92 : decode cX5_readSign 92 = .ok (.iconst (-1), 1) := by decide +kernel
theorem dX5_readSign_93 : decode cX5_readSign 93 = .ok (.if_icmp .ne 5, 3) := by decide +kernel
theorem dX5_readSign_96 : decode cX5_readSign 96 = .ok (.iconst 0, 1) := by decide +kernel
theorem dX5_readSign_97 : decode cX5_readSign 97 = .ok (.ireturn, 1) := by decide +kernel
theorem dX5_readSign_98 : decode cX5_readSign 98 = .ok (.aload_n 0, 1) := by decide +kernel
theorem dX5_readSign_99 : decode cX5_readSign 99 = .ok (.getfield 22, 3) := by decide +kernel
theorem dX5_readSign_102 : decode cX5_readSign 102 = .ok (.iload_n 1, 1) := by decide +kernel
theorem dX5_readSign_103 : decode cX5_readSign 103 = .ok (.bipush 114, 2) := by decide +kernel
theorem dX5_readSign_105 : decode cX5_readSign 105 = .ok (.if_icmp .ne 7, 3) := by decide +kernel
theorem dX5_readSign_108 : decode cX5_readSign 108 = .ok (.iconst (-1), 1) := by decide +kernel
theorem dX5_readSign_109 : decode cX5_readSign 109 = .ok (.goto 7, 3) := by decide +kernel
theorem dX5_readSign_112 : decode cX5_readSign 112 = .ok (.iload_n 1, 1) := by decide +kernel
theorem dX5_readSign_113 : decode cX5_readSign 113 = .ok (.bipush 48, 2) := by decide +kernel
theorem dX5_readSign_115 : decode cX5_readSign 115 = .ok (.isub, 1) := by decide +kernel
theorem dX5_readSign_116 : decode cX5_readSign 116 = .ok (.iload_n 2, 1) := by decide +kernel
theorem dX5_readSign_117 : decode cX5_readSign 117 = .ok (.iload_n 3, 1) := by decide +kernel
theorem dX5_readSign_118 : decode cX5_readSign 118 = .ok (.invokevirtual 111, 3) := by decide +kernel
theorem dX5_readSign_121 : decode cX5_readSign 121 = .ok (.iconst 1, 1) := by decide +kernel
theorem dX5_readSign_122 : decode cX5_readSign 122 = .ok (.ireturn, 1) := by decide +kernel
set_option maxRecDepth 20000 in
theorem ggX5_readOctave_X5_here : GoodIn wsX5_readOctave wsX5_here := goodIn_r _ [6, 1, 7, 8, 9, 10, 11, 12, 13] (by decide +kernel) (by decide +kernel)
set_option maxRecDepth 20000 in
theorem gX5_readOctave_X5_here : GoodIn wsX5_readOctave (wsV RX5 37 RX5 yX5_here wsX5_here) := goodIn_app (goodIn_of _ (by decide +kernel)) ggX5_readOctave_X5_here
theorem dX5_readOctave_0 : decode cX5_readOctave 0 = .ok (.aload_n 0, 1) := by decide +kernel
theorem dX5_readOctave_1 : decode cX5_readOctave 1 = .ok (.invokevirtual 37, 3) := by decide +kernel
theorem dX5_readOctave_4 : decode cX5_readOctave 4 = .ok (.istore_n 1, 1) := by decide +kernel
theorem dX5_readOctave_5 : decode cX5_readOctave 5 = .ok (.iload_n 1, 1) := by decide +kernel
theorem dX5_readOctave_6 : decode cX5_readOctave 6 = .ok (.bipush 39, 2) := by decide +kernel
theorem dX5_readOctave_8 : decode cX5_readOctave 8 = .ok (.if_icmp .eq 11, 3) := by decide +kernel
theorem dX5_readOctave_11 : decode cX5_readOctave 11 = .ok (.iload_n 1, 1) := by decide +kernel
theorem dX5_readOctave_12 : decode cX5_readOctave 12 = .ok (.bipush 44, 2) := by decide +kernel
theorem dX5_readOctave_14 : decode cX5_readOctave 14 = .ok (.if_icmp .eq 5, 3) := by decide +kernel
theorem dX5_readOctave_17 : decode cX5_readOctave 17 = .ok (.iconst 0, 1) := by decide +kernel
theorem dX5_readOctave_18 : decode cX5_readOctave 18 = .ok (.ireturn, 1) := by decide +kernel
theorem dX5_readOctave_19 : decode cX5_readOctave 19 = .ok (.aload_n 0, 1) := by decide +kernel
theorem dX5_readOctave_20 : decode cX5_readOctave 20 = .ok (.dup, 1) := by decide +kernel
theorem dX5_readOctave_21 : decode cX5_readOctave 21 = .ok (.getfield 9, 3) := by decide +kernel
theorem dX5_readOctave_24 : decode cX5_readOctave 24 = .ok (.iconst 1, 1) := by decide +kernel
theorem dX5_readOctave_25 : decode cX5_readOctave 25 = .ok (.iadd, 1) := by decide +kernel
theorem dX5_readOctave_26 : decode cX5_readOctave 26 = .ok (.putfield 9, 3) := by decide +kernel
theorem dX5_readOctave_29 : decode cX5_readOctave 29 = .ok (.iconst 1, 1) := by decide +kernel
theorem dX5_readOctave_30 : decode cX5_readOctave 30 = .ok (.istore_n 2, 1) := by decide +kernel
theorem dX5_readOctave_31 : decode cX5_readOctave 31 = .ok (.aload_n 0, 1) := by decide +kernel
theorem dX5_readOctave_32 : decode cX5_readOctave 32 = .ok (.invokevirtual 37, 3) := by decide +kernel
theorem dX5_readOctave_35 : decode cX5_readOctave 35 = .ok (.iload_n 1, 1) := by decide +kernel
theorem dX5_readOctave_36 : decode cX5_readOctave 36 = .ok (.if_icmp .ne 16, 3) := by decide +kernel
theorem dX5_readOctave_39 : decode cX5_readOctave 39 = .ok (.aload_n 0, 1) := by decide +kernel
theorem dX5_readOctave_40 : decode cX5_readOctave 40 = .ok (.dup, 1) := by decide +kernel
theorem dX5_readOctave_41 : decode cX5_readOctave 41 = .ok (.getfield 9, 3) := by decide +kernel
theorem dX5_readOctave_44 : decode cX5_readOctave 44 = .ok (.iconst 1, 1) := by decide +kernel
theorem dX5_readOctave_45 : decode cX5_readOctave 45 = .ok (.iadd, 1) := by decide +kernel
theorem dX5_readOctave_46 : decode cX5_readOctave 46 = .ok (.putfield 9, 3) := by decide +kernel
theorem dX5_readOctave_49 : decode cX5_readOctave 49 = .ok (.iinc 2 1, 3) := by decide +kernel
theorem dX5_readOctave_52 : decode cX5_readOctave 52 = .ok (.iload_n 1, 1) := by decide +kernel
theorem dX5_readOctave_53 : decode cX5_readOctave 53 = .ok (.bipush 44, 2) := by decide +kernel
theorem dX5_readOctave_55 : decode cX5_readOctave 55 = .ok (.if_icmp .ne 8, 3) := by decide +kernel
theorem dX5_readOctave_58 : decode cX5_readOctave 58 = .ok (.iload_n 2, 1) := by decide +kernel
theorem dX5_readOctave_59 : decode cX5_readOctave 59 = .ok (.ineg, 1) := by decide +kernel
theorem dX5_readOctave_60 : decode cX5_readOctave 60 = .ok (.goto 4, 3) := by decide +kernel
theorem dX5_readOctave_63 : decode cX5_readOctave 63 = .ok (.iload_n 2, 1) := by decide +kernel
theorem dX5_readOctave_64 : decode cX5_readOctave 64 = .ok (.ireturn, 1) := by decide +kernel
set_option maxRecDepth 20000 in
theorem ggX5_readLength_X5_here : GoodIn wsX5_readLength wsX5_here := goodIn_r _ [7, 1, 2, 16, 17, 18, 19, 20, 21] (by decide +kernel) (by decide +kernel)
set_option maxRecDepth 20000 in
theorem gX5_readLength_X5_here : GoodIn wsX5_readLength (wsV RX5 37 RX5 yX5_here wsX5_here) := goodIn_app (goodIn_of _ (by decide +kernel)) ggX5_readLength_X5_here
set_option maxRecDepth 20000 in
theorem ggX5_readLength_X9_isDigit : GoodIn wsX5_readLength wsX9_isDigit := goodIn_r _ [10] (by decide +kernel) (by decide +kernel)
set_option maxRecDepth 20000 in
theorem gX5_readLength_X9_isDigit_n75 : GoodIn wsX5_readLength (wsX9_isDigit) := ggX5_readLength_X9_isDigit
set_option maxRecDepth 20000 in
theorem ggX5_readLength_X5_failAt : GoodIn wsX5_readLength wsX5_failAt := goodIn_r _ [14, 15, 16, 17, 18, 19] (by decide +kernel) (by decide +kernel)
set_option maxRecDepth 20000 in
theorem gX5_readLength_X5_failAt : GoodIn wsX5_readLength (wsV RX5 62 RX5 yX5_failAt wsX5_failAt) := goodIn_app (goodIn_of _ (by decide +kernel)) ggX5_readLength_X5_failAt
theorem dX5_readLength_0 : decode cX5_readLength 0 = .ok (.aload_n 0, 1) := by decide +kernel
theorem dX5_readLength_1 : decode cX5_readLength 1 = .ok (.invokevirtual 37, 3) := by decide +kernel
theorem dX5_readLength_4 : decode cX5_readLength 4 = .ok (.bipush 58, 2) := by decide +kernel
theorem dX5_readLength_6 : decode cX5_readLength 6 = .ok (.if_icmp .eq 5, 3) := by decide +kernel
theorem dX5_readLength_9 : decode cX5_readLength 9 = .ok (.iconst 4, 1) := by decide +kernel
theorem dX5_readLength_10 : decode cX5_readLength 10 = .ok (.ireturn, 1) := by decide +kernel
theorem dX5_readLength_11 : decode cX5_readLength 11 = .ok (.aload_n 0, 1) := by decide +kernel
theorem dX5_readLength_12 : decode cX5_readLength 12 = .ok (.dup, 1) := by decide +kernel
theorem dX5_readLength_13 : decode cX5_readLength 13 = .ok (.getfield 9, 3) := by decide +kernel
theorem dX5_readLength_16 : decode cX5_readLength 16 = .ok (.iconst 1, 1) := by decide +kernel
theorem dX5_readLength_17 : decode cX5_readLength 17 = .ok (.iadd, 1) := by decide +kernel
theorem dX5_readLength_18 : decode cX5_readLength 18 = .ok (.putfield 9, 3) := by decide +kernel
theorem dX5_readLength_21 : decode cX5_readLength 21 = .ok (.aload_n 0, 1) := by decide +kernel
theorem dX5_readLength_22 : decode cX5_readLength 22 = .ok (.invokevirtual 37, 3) := by decide +kernel
theorem dX5_readLength_25 : decode cX5_readLength 25 = .ok (.invokestatic 75, 3) := by decide +kernel
theorem dX5_readLength_28 : decode cX5_readLength 28 = .ok (.ifCond .eq 12, 3) := by decide +kernel
theorem dX5_readLength_31 : decode cX5_readLength 31 = .ok (.aload_n 0, 1) := by decide +kernel
theorem dX5_readLength_32 : decode cX5_readLength 32 = .ok (.invokevirtual 37, 3) := by decide +kernel
theorem dX5_readLength_35 : decode cX5_readLength 35 = .ok (.bipush 48, 2) := by decide +kernel
theorem dX5_readLength_37 : decode cX5_readLength 37 = .ok (.if_icmp .ne 14, 3) := by decide +kernel
theorem dX5_readLength_40 : decode cX5_readLength 40 = .ok (.aload_n 0, 1) := by decide +kernel
theorem dX5_readLength_41 : decode cX5_readLength 41 = .ok (.aload_n 0, 1) := by decide +kernel
theorem dX5_readLength_42 : decode cX5_readLength 42 = .ok (.getfield 9, 3) := by decide +kernel
theorem dX5_readLength_45 : decode cX5_readLength 45 = .ok (.invokevirtual 62, 3) := by decide +kernel
theorem dX5_readLength_48 : decode cX5_readLength 48 = .ok (.pop, 1) := by decide +kernel
theorem dX5_readLength_49 : decode cX5_readLength 49 = .ok (.iconst (-1), 1) := by decide +kernel
theorem dX5_readLength_50 : decode cX5_readLength 50 = .ok (.ireturn, 1) := by decide +kernel
theorem dX5_readLength_51 : decode cX5_readLength 51 = .ok (.iconst 0, 1) := by decide +kernel
theorem dX5_readLength_52 : decode cX5_readLength 52 = .ok (.istore_n 1, 1) := by decide +kernel
theorem dX5_readLength_53 : decode cX5_readLength 53 = .ok (.aload_n 0, 1) := by decide +kernel
theorem dX5_readLength_54 : decode cX5_readLength 54 = .ok (.getfield 9, 3) := by decide +kernel
theorem dX5_readLength_57 : decode cX5_readLength 57 = .ok (.aload_n 0, 1) := by decide +kernel
theorem dX5_readLength_58 : decode cX5_readLength 58 = .ok (.getfield 18, 3) := by decide +kernel
theorem dX5_readLength_61 : decode cX5_readLength 61 = .ok (.getfield 51, 3) := by decide +kernel
theorem dX5_readLength_64 : decode cX5_readLength 64 = .ok (.if_icmp .ge 56, 3) := by decide +kernel
theorem dX5_readLength_67 : decode cX5_readLength 67 = .ok (.aload_n 0, 1) := by decide +kernel
theorem dX5_readLength_68 : decode cX5_readLength 68 = .ok (.invokevirtual 37, 3) := by decide +kernel
theorem dX5_readLength_71 : decode cX5_readLength 71 = .ok (.invokestatic 75, 3) := by decide +kernel
theorem dX5_readLength_74 : decode cX5_readLength 74 = .ok (.ifCond .eq 46, 3) := by decide +kernel
theorem dX5_readLength_77 : decode cX5_readLength 77 = .ok (.iload_n 1, 1) := by decide +kernel
theorem dX5_readLength_78 : decode cX5_readLength 78 = .ok (.bipush 10, 2) := by decide +kernel
theorem dX5_readLength_80 : decode cX5_readLength 80 = .ok (.imul, 1) := by decide +kernel
theorem dX5_readLength_81 : decode cX5_readLength 81 = .ok (.aload_n 0, 1) := by decide +kernel
theorem dX5_readLength_82 : decode cX5_readLength 82 = .ok (.invokevirtual 37, 3) := by decide +kernel
theorem dX5_readLength_85 : decode cX5_readLength 85 = .ok (.iadd, 1) := by decide +kernel
theorem dX5_readLength_86 : decode cX5_readLength 86 = .ok (.bipush 48, 2) := by decide +kernel
theorem dX5_readLength_88 : decode cX5_readLength 88 = .ok (.isub, 1) := by decide +kernel
theorem dX5_readLength_89 : decode cX5_readLength 89 = .ok (.istore_n 1, 1) := by decide +kernel
theorem dX5_readLength_90 : decode cX5_readLength 90 = .ok (.iload_n 1, 1) := by decide +kernel
theorem dX5_readLength_91 : decode cX5_readLength 91 = .ok (.bipush 16, 2) := by decide +kernel
theorem dX5_readLength_93 : decode cX5_readLength 93 = .ok (.if_icmp .le 14, 3) := by decide +kernel
theorem dX5_readLength_96 : decode cX5_readLength 96 = .ok (.aload_n 0, 1) := by decide +kernel
theorem dX5_readLength_97 : decode cX5_readLength 97 = .ok (.aload_n 0, 1) := by decide +kernel
theorem dX5_readLength_98 : decode cX5_readLength 98 = .ok (.getfield 9, 3) := by decide +kernel
theorem dX5_readLength_101 : decode cX5_readLength 101 = .ok (.invokevirtual 62, 3) := by decide +kernel
theorem dX5_readLength_104 : decode cX5_readLength 104 = .ok (.pop, 1) := by decide +kernel
theorem dX5_readLength_105 : decode cX5_readLength 105 = .ok (.iconst (-1), 1) := by decide +kernel
theorem dX5_readLength_106 : decode cX5_readLength 106 = .ok (.ireturn, 1) := by decide +kernel
theorem dX5_readLength_107 : decode cX5_readLength 107 = .ok (.aload_n 0, 1) := by decide +kernel
theorem dX5_readLength_108 : decode cX5_readLength 108 = .ok (.dup, 1) := by decide +kernel
theorem dX5_readLength_109 : decode cX5_readLength 109 = .ok (.getfield 9, 3) := by decide +kernel
theorem dX5_readLength_112 : decode cX5_readLength 112 = .ok (.iconst 1, 1) := by decide +kernel
theorem dX5_readLength_113 : decode cX5_readLength 113 = .ok (.iadd, 1) := by decide +kernel
theorem dX5_readLength_114 : decode cX5_readLength 114 = .ok (.putfield 9, 3) := by decide +kernel
theorem dX5_readLength_117 : decode cX5_readLength 117 = .ok (.goto (-64), 3) := by decide +kernel
theorem dX5_readLength_120 : decode cX5_readLength 120 = .ok (.iload_n 1, 1) := by decide +kernel
theorem dX5_readLength_121 : decode cX5_readLength 121 = .ok (.ireturn, 1) := by decide +kernel
theorem dX6_init_0 : decode cX6_init 0 = .ok (.aload_n 0, 1) := by decide +kernel
theorem dX6_init_1 : decode cX6_init 1 = .ok (.invokespecial 3, 3) := by decide +kernel
theorem dX6_init_4 : decode cX6_init 4 = .ok (.aload_n 0, 1) := by decide +kernel
theorem dX6_init_5 : decode cX6_init 5 = .ok (.sipush 1200, 3) := by decide +kernel
theorem dX6_init_8 : decode cX6_init 8 = .ok (.newarray .char, 2) := by decide +kernel
theorem dX6_init_10 : decode cX6_init 10 = .ok (.putfield 9, 3) := by decide +kernel
theorem dX6_init_13 : decode cX6_init 13 = .ok (.aload_n 0, 1) := by decide +kernel
theorem dX6_init_14 : decode cX6_init 14 = .ok (.iconst 0, 1) := by decide +kernel
theorem dX6_init_15 : decode cX6_init 15 = .ok (.putfield 15, 3) := by decide +kernel
theorem dX6_init_18 : decode cX6_init 18 = .ok (.return_, 1) := by decide +kernel
set_option maxRecDepth 20000 in
theorem ggX6_append_X6_byteOf : GoodIn wsX6_append wsX6_byteOf := goodIn_r _ [6] (by decide +kernel) (by decide +kernel)
set_option maxRecDepth 20000 in
theorem gX6_append_X6_byteOf : GoodIn wsX6_append (va_wsS RX6 19 yX6_byteOf wsX6_byteOf) := goodIn_app (goodIn_of _ (by decide +kernel)) ggX6_append_X6_byteOf
set_option maxRecDepth 20000 in
theorem ggX6_append_X6_isAllowed : GoodIn wsX6_append wsX6_isAllowed := goodIn_r _ [9, 10, 11, 12] (by decide +kernel) (by decide +kernel)
set_option maxRecDepth 20000 in
theorem gX6_append_X6_isAllowed : GoodIn wsX6_append (va_wsS RX6 23 yX6_isAllowed wsX6_isAllowed) := goodIn_app (goodIn_of _ (by decide +kernel)) ggX6_append_X6_isAllowed
theorem dX6_append_0 : decode cX6_append 0 = .ok (.iconst 0, 1) := by decide +kernel
theorem dX6_append_1 : decode cX6_append 1 = .ok (.istore_n 3, 1) := by decide +kernel
theorem dX6_append_2 : decode cX6_append 2 = .ok (.bipush 56, 2) := by decide +kernel
theorem dX6_append_4 : decode cX6_append 4 = .ok (.istore 4, 2) := by decide +kernel
theorem dX6_append_6 : decode cX6_append 6 = .ok (.iload 4, 2) := by decide +kernel
theorem dX6_append_8 : decode cX6_append 8 = .ok (.ifCond .lt 41, 3) := by decide +kernel
theorem dX6_append_11 : decode cX6_append 11 = .ok (.lload_n 1, 1) := by decide +kernel
theorem dX6_append_12 : decode cX6_append 12 = .ok (.iload 4, 2) := by decide +kernel
theorem dX6_append_14 : decode cX6_append 14 = .ok (.invokestatic 19, 3) := by decide +kernel
theorem dX6_append_17 : decode cX6_append 17 = .ok (.istore 5, 2) := by decide +kernel
theorem dX6_append_19 : decode cX6_append 19 = .ok (.iload 5, 2) := by decide +kernel
theorem dX6_append_21 : decode cX6_append 21 = .ok (.invokestatic 23, 3) := by decide +kernel
theorem dX6_append_24 : decode cX6_append 24 = .ok (.ifCond .ne 6, 3) := by decide +kernel
theorem dX6_append_27 : decode cX6_append 27 = .ok (.bipush (-2), 2) := by decide +kernel
theorem dX6_append_29 : decode cX6_append 29 = .ok (.ireturn, 1) := by decide +kernel
theorem dX6_append_30 : decode cX6_append 30 = .ok (.iload_n 3, 1) := by decide +kernel
theorem dX6_append_31 : decode cX6_append 31 = .ok (.iload 5, 2) := by decide +kernel
theorem dX6_append_33 : decode cX6_append 33 = .ok (.ifCond .ne 7, 3) := by decide +kernel
theorem dX6_append_36 : decode cX6_append 36 = .ok (.iconst 0, 1) := by decide +kernel
theorem dX6_append_37 : decode cX6_append 37 = .ok (.goto 4, 3) := by decide +kernel
theorem dX6_append_40 : decode cX6_append 40 = .ok (.iconst 1, 1) := by decide +kernel
theorem dX6_append_41 : decode cX6_append 41 = .ok (.iadd, 1) := by decide +kernel
theorem dX6_append_42 : decode cX6_append 42 = .ok (.istore_n 3, 1) := by decide +kernel
theorem dX6_append_43 : decode cX6_append 43 = .ok (.iinc 4 (-8), 3) := by decide +kernel
theorem dX6_append_46 : decode cX6_append 46 = .ok (.goto (-40), 3) := by decide +kernel
theorem dX6_append_49 : decode cX6_append 49 = .ok (.aload_n 0, 1) := by decide +kernel
theorem dX6_append_50 : decode cX6_append 50 = .ok (.getfield 15, 3) := by decide +kernel
theorem dX6_append_53 : decode cX6_append 53 = .ok (.iload_n 3, 1) := by decide +kernel
theorem dX6_append_54 : decode cX6_append 54 = .ok (.iadd, 1) := by decide +kernel
theorem dX6_append_55 : decode cX6_append 55 = .ok (.sipush 1200, 3) := by decide +kernel
theorem dX6_append_58 : decode cX6_append 58 = .ok (.if_icmp .le 6, 3) := by decide +kernel
theorem dX6_append_61 : decode cX6_append 61 = .ok (.bipush (-4), 2) := by decide +kernel
theorem dX6_append_63 : decode cX6_append 63 = .ok (.ireturn, 1) := by decide +kernel
theorem dX6_append_64 : decode cX6_append 64 = .ok (.bipush 56, 2) := by decide +kernel
theorem dX6_append_66 : decode cX6_append 66 = .ok (.istore 4, 2) := by decide +kernel
theorem dX6_append_68 : decode cX6_append 68 = .ok (.iload 4, 2) := by decide +kernel
theorem dX6_append_70 : decode cX6_append 70 = .ok (.ifCond .lt 44, 3) := by decide +kernel
theorem dX6_append_73 : decode cX6_append 73 = .ok (.lload_n 1, 1) := by decide +kernel
theorem dX6_append_74 : decode cX6_append 74 = .ok (.iload 4, 2) := by decide +kernel
theorem dX6_append_76 : decode cX6_append 76 = .ok (.invokestatic 19, 3) := by decide +kernel
theorem dX6_append_79 : decode cX6_append 79 = .ok (.istore 5, 2) := by decide +kernel
theorem dX6_append_81 : decode cX6_append 81 = .ok (.iload 5, 2) := by decide +kernel
theorem dX6_append_83 : decode cX6_append 83 = .ok (.ifCond .eq 25, 3) := by decide +kernel
theorem dX6_append_86 : decode cX6_append 86 = .ok (.aload_n 0, 1) := by decide +kernel
theorem dX6_append_87 : decode cX6_append 87 = .ok (.getfield 9, 3) := by decide +kernel
theorem dX6_append_90 : decode cX6_append 90 = .ok (.aload_n 0, 1) := by decide +kernel
theorem dX6_append_91 : decode cX6_append 91 = .ok (.getfield 15, 3) := by decide +kernel
theorem dX6_append_94 : decode cX6_append 94 = .ok (.iload 5, 2) := by decide +kernel
theorem dX6_append_96 : decode cX6_append 96 = .ok (.i2c, 1) := by decide +kernel
theorem dX6_append_97 : decode cX6_append 97 = .ok (.castore, 1) := by decide +kernel
theorem dX6_append_98 : decode cX6_append 98 = .ok (.aload_n 0, 1) := by decide +kernel
theorem dX6_append_99 : decode cX6_append 99 = .ok (.dup, 1) := by decide +kernel
theorem dX6_append_100 : decode cX6_append 100 = .ok (.getfield 15, 3) := by decide +kernel
theorem dX6_append_103 : decode cX6_append 103 = .ok (.iconst 1, 1) := by decide +kernel
theorem dX6_append_104 : decode cX6_append 104 = .ok (.iadd, 1) := by decide +kernel
theorem dX6_append_105 : decode cX6_append 105 = .ok (.putfield 15, 3) := by decide +kernel
theorem dX6_append_108 : decode cX6_append 108 = .ok (.iinc 4 (-8), 3) := by decide +kernel
theorem dX6_append_111 : decode cX6_append 111 = .ok (.goto (-43), 3) := by decide +kernel
theorem dX6_append_114 : decode cX6_append 114 = .ok (.aload_n 0, 1) := by decide +kernel
theorem dX6_append_115 : decode cX6_append 115 = .ok (.getfield 15, 3) := by decide +kernel
theorem dX6_append_118 : decode cX6_append 118 = .ok (.ireturn, 1) := by decide +kernel
set_option maxRecDepth 20000 in
theorem ggX6_shorten_X9_isWithin : GoodIn wsX6_shorten wsX9_isWithin := goodIn_r _ [4] (by decide +kernel) (by decide +kernel)
set_option maxRecDepth 20000 in
theorem gX6_shorten_X9_isWithin_n27 : GoodIn wsX6_shorten (wsX9_isWithin) := ggX6_shorten_X9_isWithin
theorem dX6_shorten_0 : decode cX6_shorten 0 = .ok (.iload_n 1, 1) := by decide +kernel
theorem dX6_shorten_1 : decode cX6_shorten 1 = .ok (.iconst 0, 1) := by decide +kernel
theorem dX6_shorten_2 : decode cX6_shorten 2 = .ok (.aload_n 0, 1) := by decide +kernel
theorem dX6_shorten_3 : decode cX6_shorten 3 = .ok (.getfield 15, 3) := by decide +kernel
theorem dX6_shorten_6 : decode cX6_shorten 6 = .ok (.invokestatic 27, 3) := by decide +kernel
theorem dX6_shorten_9 : decode cX6_shorten 9 = .ok (.ifCond .ne 6, 3) := by decide +kernel
theorem dX6_shorten_12 : decode cX6_shorten 12 = .ok (.bipush (-2), 2) := by decide +kernel
theorem dX6_shorten_14 : decode cX6_shorten 14 = .ok (.ireturn, 1) := by decide +kernel
theorem dX6_shorten_15 : decode cX6_shorten 15 = .ok (.aload_n 0, 1) := by decide +kernel
theorem dX6_shorten_16 : decode cX6_shorten 16 = .ok (.getfield 15, 3) := by decide +kernel
theorem dX6_shorten_19 : decode cX6_shorten 19 = .ok (.iload_n 1, 1) := by decide +kernel
theorem dX6_shorten_20 : decode cX6_shorten 20 = .ok (.isub, 1) := by decide +kernel
theorem dX6_shorten_21 : decode cX6_shorten 21 = .ok (.istore_n 2, 1) := by decide +kernel
theorem dX6_shorten_22 : decode cX6_shorten 22 = .ok (.aload_n 0, 1) := by decide +kernel
theorem dX6_shorten_23 : decode cX6_shorten 23 = .ok (.iload_n 1, 1) := by decide +kernel
theorem dX6_shorten_24 : decode cX6_shorten 24 = .ok (.putfield 15, 3) := by decide +kernel
theorem dX6_shorten_27 : decode cX6_shorten 27 = .ok (.iload_n 2, 1) := by decide +kernel
theorem dX6_shorten_28 : decode cX6_shorten 28 = .ok (.ireturn, 1) := by decide +kernel
theorem dX6_at_0 : decode cX6_at 0 = .ok (.iload_n 1, 1) := by decide +kernel
theorem dX6_at_1 : decode cX6_at 1 = .ok (.ifCond .lt 20, 3) := by decide +kernel
theorem dX6_at_4 : decode cX6_at 4 = .ok (.iload_n 1, 1) := by decide +kernel
theorem dX6_at_5 : decode cX6_at 5 = .ok (.aload_n 0, 1) := by decide +kernel
theorem dX6_at_6 : decode cX6_at 6 = .ok (.getfield 15, 3) := by decide +kernel
theorem dX6_at_9 : decode cX6_at 9 = .ok (.if_icmp .ge 12, 3) := by decide +kernel
theorem dX6_at_12 : decode cX6_at 12 = .ok (.aload_n 0, 1) := by decide +kernel
theorem dX6_at_13 : decode cX6_at 13 = .ok (.getfield 9, 3) := by decide +kernel
theorem dX6_at_16 : decode cX6_at 16 = .ok (.iload_n 1, 1) := by decide +kernel
theorem dX6_at_17 : decode cX6_at 17 = .ok (.caload, 1) := by decide +kernel
theorem dX6_at_18 : decode cX6_at 18 = .ok (.goto 4, 3) := by decide +kernel
theorem dX6_at_21 : decode cX6_at 21 = .ok (.iconst (-1), 1) := by decide +kernel
theorem dX6_at_22 : decode cX6_at 22 = .ok (.ireturn, 1) := by decide +kernel
set_option maxRecDepth 20000 in
theorem ggX6_skipBlanks_X6_at : GoodIn wsX6_skipBlanks wsX6_at := goodIn_r _ [6, 1, 7, 11, 12] (by decide +kernel) (by decide +kernel)
set_option maxRecDepth 20000 in
theorem gX6_skipBlanks_X6_at : GoodIn wsX6_skipBlanks (wsV RX6 31 RX6 yX6_at wsX6_at) := goodIn_app (goodIn_of _ (by decide +kernel)) ggX6_skipBlanks_X6_at
set_option maxRecDepth 20000 in
theorem ggX6_skipBlanks_X9_isBlank : GoodIn wsX6_skipBlanks wsX9_isBlank := goodIn_r _ [10] (by decide +kernel) (by decide +kernel)
set_option maxRecDepth 20000 in
theorem gX6_skipBlanks_X9_isBlank_n35 : GoodIn wsX6_skipBlanks (wsX9_isBlank) := ggX6_skipBlanks_X9_isBlank
theorem dX6_skipBlanks_0 : decode cX6_skipBlanks 0 = .ok (.iload_n 1, 1) := by decide +kernel
theorem dX6_skipBlanks_1 : decode cX6_skipBlanks 1 = .ok (.istore_n 2, 1) := by decide +kernel
theorem dX6_skipBlanks_2 : decode cX6_skipBlanks 2 = .ok (.iload_n 2, 1) := by decide +kernel
theorem dX6_skipBlanks_3 : decode cX6_skipBlanks 3 = .ok (.aload_n 0, 1) := by decide +kernel
theorem dX6_skipBlanks_4 : decode cX6_skipBlanks 4 = .ok (.getfield 15, 3) := by decide +kernel
theorem dX6_skipBlanks_7 : decode cX6_skipBlanks 7 = .ok (.if_icmp .ge 20, 3) := by decide +kernel
theorem dX6_skipBlanks_10 : decode cX6_skipBlanks 10 = .ok (.aload_n 0, 1) := by decide +kernel
theorem dX6_skipBlanks_11 : decode cX6_skipBlanks 11 = .ok (.iload_n 2, 1) := by decide +kernel
theorem dX6_skipBlanks_12 : decode cX6_skipBlanks 12 = .ok (.invokevirtual 31, 3) := by decide +kernel
theorem dX6_skipBlanks_15 : decode cX6_skipBlanks 15 = .ok (.invokestatic 35, 3) := by decide +kernel
theorem dX6_skipBlanks_18 : decode cX6_skipBlanks 18 = .ok (.ifCond .eq 9, 3) := by decide +kernel
theorem dX6_skipBlanks_21 : decode cX6_skipBlanks 21 = .ok (.iinc 2 1, 3) := by decide +kernel
theorem dX6_skipBlanks_24 : decode cX6_skipBlanks 24 = .ok (.goto (-22), 3) := by decide +kernel
theorem dX6_skipBlanks_27 : decode cX6_skipBlanks 27 = .ok (.iload_n 2, 1) := by decide +kernel
theorem dX6_skipBlanks_28 : decode cX6_skipBlanks 28 = .ok (.ireturn, 1) := by decide +kernel
theorem dX6_byteOf_0 : decode cX6_byteOf 0 = .ok (.lload_n 0, 1) := by decide +kernel
theorem dX6_byteOf_1 : decode cX6_byteOf 1 = .ok (.iload_n 2, 1) := by decide +kernel
theorem dX6_byteOf_2 : decode cX6_byteOf 2 = .ok (.lushr, 1) := by decide +kernel
theorem dX6_byteOf_3 : decode cX6_byteOf 3 = .ok (.l2i, 1) := by decide +kernel
theorem dX6_byteOf_4 : decode cX6_byteOf 4 = .ok (.sipush 255, 3) := by decide +kernel
theorem dX6_byteOf_7 : decode cX6_byteOf 7 = .ok (.iand, 1) := by decide +kernel
theorem dX6_byteOf_8 : decode cX6_byteOf 8 = .ok (.ireturn, 1) := by decide +kernel
set_option maxRecDepth 20000 in
theorem ggX6_isAllowed_X9_isWithin : GoodIn wsX6_isAllowed wsX9_isWithin := goodIn_r _ [3] (by decide +kernel) (by decide +kernel)
set_option maxRecDepth 20000 in
theorem gX6_isAllowed_X9_isWithin_n27 : GoodIn wsX6_isAllowed (wsX9_isWithin) := ggX6_isAllowed_X9_isWithin
theorem dX6_isAllowed_0 : decode cX6_isAllowed 0 = .ok (.iload_n 0, 1) := by decide +kernel
theorem dX6_isAllowed_1 : decode cX6_isAllowed 1 = .ok (.ifCond .eq 20, 3) := by decide +kernel
theorem dX6_isAllowed_4 : decode cX6_isAllowed 4 = .ok (.iload_n 0, 1) := by decide +kernel
theorem dX6_isAllowed_5 : decode cX6_isAllowed 5 = .ok (.bipush 10, 2) := by decide +kernel
theorem dX6_isAllowed_7 : decode cX6_isAllowed 7 = .ok (.if_icmp .eq 14, 3) := by decide +kernel
theorem dX6_isAllowed_10 : decode cX6_isAllowed 10 = .ok (.iload_n 0, 1) := by decide +kernel
theorem dX6_isAllowed_11 : decode cX6_isAllowed 11 = .ok (.bipush 32, 2) := by decide +kernel
theorem dX6_isAllowed_13 : decode cX6_isAllowed 13 = .ok (.bipush 126, 2) := by decide +kernel
theorem dX6_isAllowed_15 : decode cX6_isAllowed 15 = .ok (.invokestatic 27, 3) := by decide +kernel
theorem dX6_isAllowed_18 : decode cX6_isAllowed 18 = .ok (.ifCond .eq 7, 3) := by decide +kernel
theorem dX6_isAllowed_21 : decode cX6_isAllowed 21 = .ok (.iconst 1, 1) := by decide +kernel
theorem dX6_isAllowed_22 : decode cX6_isAllowed 22 = .ok (.goto 4, 3) := by decide +kernel
theorem dX6_isAllowed_25 : decode cX6_isAllowed 25 = .ok (.iconst 0, 1) := by decide +kernel
theorem dX6_isAllowed_26 : decode cX6_isAllowed 26 = .ok (.ireturn, 1) := by decide +kernel
theorem dX7_init_0 : decode cX7_init 0 = .ok (.aload_n 0, 1) := by decide +kernel
theorem dX7_init_1 : decode cX7_init 1 = .ok (.invokespecial 3, 3) := by decide +kernel
theorem dX7_init_4 : decode cX7_init 4 = .ok (.aload_n 0, 1) := by decide +kernel
theorem dX7_init_5 : decode cX7_init 5 = .ok (.bipush 12, 2) := by decide +kernel
theorem dX7_init_7 : decode cX7_init 7 = .ok (.newarray .int, 2) := by decide +kernel
theorem dX7_init_9 : decode cX7_init 9 = .ok (.dup, 1) := by decide +kernel
theorem dX7_init_10 : decode cX7_init 10 = .ok (.iconst 0, 1) := by decide +kernel
theorem dX7_init_11 : decode cX7_init 11 = .ok (.iconst 0, 1) := by decide +kernel
theorem dX7_init_12 : decode cX7_init 12 = .ok (.iastore, 1) := by decide +kernel
theorem dX7_init_13 : decode cX7_init 13 = .ok (.dup, 1) := by decide +kernel
theorem dX7_init_14 : decode cX7_init 14 = .ok (.iconst 1, 1) := by decide +kernel
theorem dX7_init_15 : decode cX7_init 15 = .ok (.iconst 1, 1) := by decide +kernel
theorem dX7_init_16 : decode cX7_init 16 = .ok (.iastore, 1) := by decide +kernel
theorem dX7_init_17 : decode cX7_init 17 = .ok (.dup, 1) := by decide +kernel
theorem dX7_init_18 : decode cX7_init 18 = .ok (.iconst 2, 1) := by decide +kernel
theorem dX7_init_19 : decode cX7_init 19 = .ok (.iconst 2, 1) := by decide +kernel
theorem dX7_init_20 : decode cX7_init 20 = .ok (.iastore, 1) := by decide +kernel
theorem dX7_init_21 : decode cX7_init 21 = .ok (.dup, 1) := by decide +kernel
theorem dX7_init_22 : decode cX7_init 22 = .ok (.iconst 3, 1) := by decide +kernel
theorem dX7_init_23 : decode cX7_init 23 = .ok (.iconst 3, 1) := by decide +kernel
theorem dX7_init_24 : decode cX7_init 24 = .ok (.iastore, 1) := by decide +kernel
theorem dX7_init_25 : decode cX7_init 25 = .ok (.dup, 1) := by decide +kernel
theorem dX7_init_26 : decode cX7_init 26 = .ok (.iconst 4, 1) := by decide +kernel
theorem dX7_init_27 : decode cX7_init 27 = .ok (.iconst 4, 1) := by decide +kernel
theorem dX7_init_28 : decode cX7_init 28 = .ok (.iastore, 1) := by decide +kernel
theorem dX7_init_29 : decode cX7_init 29 = .ok (.dup, 1) := by decide +kernel
theorem dX7_init_30 : decode cX7_init 30 = .ok (.iconst 5, 1) := by decide +kernel
theorem dX7_init_31 : decode cX7_init 31 = .ok (.iconst 5, 1) := by decide +kernel
theorem dX7_init_32 : decode cX7_init 32 = .ok (.iastore, 1) := by decide +kernel
theorem dX7_init_33 : decode cX7_init 33 = .ok (.dup, 1) := by decide +kernel
theorem dX7_init_34 : decode cX7_init 34 = .ok (.bipush 6, 2) := by decide +kernel
theorem dX7_init_36 : decode cX7_init 36 = .ok (.bipush 6, 2) := by decide +kernel
theorem dX7_init_38 : decode cX7_init 38 = .ok (.iastore, 1) := by decide +kernel
theorem dX7_init_39 : decode cX7_init 39 = .ok (.dup, 1) := by decide +kernel
theorem dX7_init_40 : decode cX7_init 40 = .ok (.bipush 7, 2) := by decide +kernel
theorem dX7_init_42 : decode cX7_init 42 = .ok (.bipush 7, 2) := by decide +kernel
theorem dX7_init_44 : decode cX7_init 44 = .ok (.iastore, 1) := by decide +kernel
theorem dX7_init_45 : decode cX7_init 45 = .ok (.dup, 1) := by decide +kernel
theorem dX7_init_46 : decode cX7_init 46 = .ok (.bipush 8, 2) := by decide +kernel
theorem dX7_init_48 : decode cX7_init 48 = .ok (.bipush 8, 2) := by decide +kernel
theorem dX7_init_50 : decode cX7_init 50 = .ok (.iastore, 1) := by decide +kernel
theorem dX7_init_51 : decode cX7_init 51 = .ok (.dup, 1) := by decide +kernel
theorem dX7_init_52 : decode cX7_init 52 = .ok (.bipush 9, 2) := by decide +kernel
theorem dX7_init_54 : decode cX7_init 54 = .ok (.bipush 9, 2) := by decide +kernel
theorem dX7_init_56 : decode cX7_init 56 = .ok (.iastore, 1) := by decide +kernel
theorem dX7_init_57 : decode cX7_init 57 = .ok (.dup, 1) := by decide +kernel
theorem dX7_init_58 : decode cX7_init 58 = .ok (.bipush 10, 2) := by decide +kernel
theorem dX7_init_60 : decode cX7_init 60 = .ok (.bipush 10, 2) := by decide +kernel
theorem dX7_init_62 : decode cX7_init 62 = .ok (.iastore, 1) := by decide +kernel
theorem dX7_init_63 : decode cX7_init 63 = .ok (.dup, 1) := by decide +kernel
theorem dX7_init_64 : decode cX7_init 64 = .ok (.bipush 11, 2) := by decide +kernel
theorem dX7_init_66 : decode cX7_init 66 = .ok (.bipush 11, 2) := by decide +kernel
theorem dX7_init_68 : decode cX7_init 68 = .ok (.iastore, 1) := by decide +kernel
theorem dX7_init_69 : decode cX7_init 69 = .ok (.putfield 9, 3) := by decide +kernel
theorem dX7_init_72 : decode cX7_init 72 = .ok (.return_, 1) := by decide +kernel
theorem dX7_swapIn_0 : decode cX7_swapIn 0 = .ok (.iconst 0, 1) := by decide +kernel
theorem dX7_swapIn_1 : decode cX7_swapIn 1 = .ok (.istore_n 3, 1) := by decide +kernel
theorem dX7_swapIn_2 : decode cX7_swapIn 2 = .ok (.iload_n 3, 1) := by decide +kernel
theorem dX7_swapIn_3 : decode cX7_swapIn 3 = .ok (.bipush 12, 2) := by decide +kernel
theorem dX7_swapIn_5 : decode cX7_swapIn 5 = .ok (.if_icmp .ge 39, 3) := by decide +kernel
theorem dX7_swapIn_8 : decode cX7_swapIn 8 = .ok (.aload_n 0, 1) := by decide +kernel
theorem dX7_swapIn_9 : decode cX7_swapIn 9 = .ok (.getfield 9, 3) := by decide +kernel
theorem dX7_swapIn_12 : decode cX7_swapIn 12 = .ok (.iload_n 3, 1) := by decide +kernel
theorem dX7_swapIn_13 : decode cX7_swapIn 13 = .ok (.iaload, 1) := by decide +kernel
theorem dX7_swapIn_14 : decode cX7_swapIn 14 = .ok (.iload_n 2, 1) := by decide +kernel
theorem dX7_swapIn_15 : decode cX7_swapIn 15 = .ok (.if_icmp .ne 23, 3) := by decide +kernel
theorem dX7_swapIn_18 : decode cX7_swapIn 18 = .ok (.aload_n 0, 1) := by decide +kernel
theorem dX7_swapIn_19 : decode cX7_swapIn 19 = .ok (.getfield 9, 3) := by decide +kernel
theorem dX7_swapIn_22 : decode cX7_swapIn 22 = .ok (.iload_n 3, 1) := by decide +kernel
theorem dX7_swapIn_23 : decode cX7_swapIn 23 = .ok (.aload_n 0, 1) := by decide +kernel
theorem dX7_swapIn_24 : decode cX7_swapIn 24 = .ok (.getfield 9, 3) := by decide +kernel
theorem dX7_swapIn_27 : decode cX7_swapIn 27 = .ok (.iload_n 1, 1) := by decide +kernel
theorem dX7_swapIn_28 : decode cX7_swapIn 28 = .ok (.iaload, 1) := by decide +kernel
theorem dX7_swapIn_29 : decode cX7_swapIn 29 = .ok (.iastore, 1) := by decide +kernel
theorem dX7_swapIn_30 : decode cX7_swapIn 30 = .ok (.aload_n 0, 1) := by decide +kernel
theorem dX7_swapIn_31 : decode cX7_swapIn 31 = .ok (.getfield 9, 3) := by decide +kernel
theorem dX7_swapIn_34 : decode cX7_swapIn 34 = .ok (.iload_n 1, 1) := by decide +kernel
theorem dX7_swapIn_35 : decode cX7_swapIn 35 = .ok (.iload_n 2, 1) := by decide +kernel
theorem dX7_swapIn_36 : decode cX7_swapIn 36 = .ok (.iastore, 1) := by decide +kernel
theorem dX7_swapIn_37 : decode cX7_swapIn 37 = .ok (.return_, 1) := by decide +kernel
theorem dX7_swapIn_38 : decode cX7_swapIn 38 = .ok (.iinc 3 1, 3) := by decide +kernel
theorem dX7_swapIn_41 : decode cX7_swapIn 41 = .ok (.goto (-39), 3) := by decide +kernel
theorem dX7_swapIn_44 : decode cX7_swapIn 44 = .ok (.return_, 1) := by decide +kernel
set_option maxRecDepth 20000 in
theorem ggX7_numberOf_J9_floorMod_7cf53 : GoodIn wsX7_numberOf wsJ9_floorMod_7cf53 := goodIn_r _ [5] (by decide +kernel) (by decide +kernel)
set_option maxRecDepth 20000 in
theorem gX7_numberOf_J9_floorMod_7cf53 : GoodIn wsX7_numberOf (va_wsS RX7 15 yJ9_floorMod_7cf53 wsJ9_floorMod_7cf53) := goodIn_app (goodIn_of _ (by decide +kernel)) ggX7_numberOf_J9_floorMod_7cf53
theorem dX7_numberOf_0 : decode cX7_numberOf 0 = .ok (.iload_n 1, 1) := by decide +kernel
theorem dX7_numberOf_1 : decode cX7_numberOf 1 = .ok (.iconst 1, 1) := by decide +kernel
theorem dX7_numberOf_2 : decode cX7_numberOf 2 = .ok (.if_icmp .eq 8, 3) := by decide +kernel
theorem dX7_numberOf_5 : decode cX7_numberOf 5 = .ok (.iload_n 1, 1) := by decide +kernel
theorem dX7_numberOf_6 : decode cX7_numberOf 6 = .ok (.iconst 3, 1) := by decide +kernel
theorem dX7_numberOf_7 : decode cX7_numberOf 7 = .ok (.if_icmp .ne 7, 3) := by decide +kernel
theorem dX7_numberOf_10 : decode cX7_numberOf 10 = .ok (.iconst 1, 1) := by decide +kernel
theorem dX7_numberOf_11 : decode cX7_numberOf 11 = .ok (.goto 4, 3) := by decide +kernel
theorem dX7_numberOf_14 : decode cX7_numberOf 14 = .ok (.iconst 0, 1) := by decide +kernel
theorem dX7_numberOf_15 : decode cX7_numberOf 15 = .ok (.istore 4, 2) := by decide +kernel
theorem dX7_numberOf_17 : decode cX7_numberOf 17 = .ok (.iload_n 1, 1) := by decide +kernel
theorem dX7_numberOf_18 : decode cX7_numberOf 18 = .ok (.iconst 2, 1) := by decide +kernel
theorem dX7_numberOf_19 : decode cX7_numberOf 19 = .ok (.if_icmp .eq 8, 3) := by decide +kernel
theorem dX7_numberOf_22 : decode cX7_numberOf 22 = .ok (.iload_n 1, 1) := by decide +kernel
theorem dX7_numberOf_23 : decode cX7_numberOf 23 = .ok (.iconst 3, 1) := by decide +kernel
theorem dX7_numberOf_24 : decode cX7_numberOf 24 = .ok (.if_icmp .ne 7, 3) := by decide +kernel
theorem dX7_numberOf_27 : decode cX7_numberOf 27 = .ok (.iconst 1, 1) := by decide +kernel
theorem dX7_numberOf_28 : decode cX7_numberOf 28 = .ok (.goto 4, 3) := by decide +kernel
theorem dX7_numberOf_31 : decode cX7_numberOf 31 = .ok (.iconst 0, 1) := by decide +kernel
theorem dX7_numberOf_32 : decode cX7_numberOf 32 = .ok (.istore 5, 2) := by decide +kernel
theorem dX7_numberOf_34 : decode cX7_numberOf 34 = .ok (.aload_n 0, 1) := by decide +kernel
theorem dX7_numberOf_35 : decode cX7_numberOf 35 = .ok (.getfield 9, 3) := by decide +kernel
theorem dX7_numberOf_38 : decode cX7_numberOf 38 = .ok (.iload 5, 2) := by decide +kernel
theorem dX7_numberOf_40 : decode cX7_numberOf 40 = .ok (.ifCond .eq 10, 3) := by decide +kernel
theorem dX7_numberOf_43 : decode cX7_numberOf 43 = .ok (.bipush 11, 2) := by decide +kernel
theorem dX7_numberOf_45 : decode cX7_numberOf 45 = .ok (.iload_n 3, 1) := by decide +kernel
theorem dX7_numberOf_46 : decode cX7_numberOf 46 = .ok (.isub, 1) := by decide +kernel
theorem dX7_numberOf_47 : decode cX7_numberOf 47 = .ok (.goto 4, 3) := by decide +kernel
theorem dX7_numberOf_50 : decode cX7_numberOf 50 = .ok (.iload_n 3, 1) := by decide +kernel
theorem dX7_numberOf_51 : decode cX7_numberOf 51 = .ok (.iaload, 1) := by decide +kernel
theorem dX7_numberOf_52 : decode cX7_numberOf 52 = .ok (.istore 6, 2) := by decide +kernel
theorem dX7_numberOf_54 : decode cX7_numberOf 54 = .ok (.iload 4, 2) := by decide +kernel
theorem dX7_numberOf_56 : decode cX7_numberOf 56 = .ok (.ifCond .eq 17, 3) := by decide +kernel
theorem dX7_numberOf_59 : decode cX7_numberOf 59 = .ok (.iconst 2, 1) := by decide +kernel
theorem dX7_numberOf_60 : decode cX7_numberOf 60 = .ok (.aload_n 0, 1) := by decide +kernel
theorem dX7_numberOf_61 : decode cX7_numberOf 61 = .ok (.getfield 9, 3) := by decide +kernel
theorem dX7_numberOf_64 : decode cX7_numberOf 64 = .ok (.iconst 0, 1) := by decide +kernel
theorem dX7_numberOf_65 : decode cX7_numberOf 65 = .ok (.iaload, 1) := by decide +kernel
theorem dX7_numberOf_66 : decode cX7_numberOf 66 = .ok (.imul, 1) := by decide +kernel
theorem dX7_numberOf_67 : decode cX7_numberOf 67 = .ok (.iload 6, 2) := by decide +kernel
theorem dX7_numberOf_69 : decode cX7_numberOf 69 = .ok (.isub, 1) := by decide +kernel
theorem dX7_numberOf_70 : decode cX7_numberOf 70 = .ok (.goto 5, 3) := by decide +kernel
theorem dX7_numberOf_73 : decode cX7_numberOf 73 = .ok (.iload 6, 2) := by decide +kernel
theorem dX7_numberOf_75 : decode cX7_numberOf 75 = .ok (.istore 7, 2) := by decide +kernel
theorem dX7_numberOf_77 : decode cX7_numberOf 77 = .ok (.iload 7, 2) := by decide +kernel
theorem dX7_numberOf_79 : decode cX7_numberOf 79 = .ok (.iload_n 2, 1) := by decide +kernel
theorem dX7_numberOf_80 : decode cX7_numberOf 80 = .ok (.iadd, 1) := by decide +kernel
theorem dX7_numberOf_81 : decode cX7_numberOf 81 = .ok (.bipush 12, 2) := by decide +kernel
theorem dX7_numberOf_83 : decode cX7_numberOf 83 = .ok (.invokestatic 15, 3) := by decide +kernel
theorem dX7_numberOf_86 : decode cX7_numberOf 86 = .ok (.ireturn, 1) := by decide +kernel
set_option maxRecDepth 20000 in
theorem ggX7_countDoubled_X7_isAsOneBefore : GoodIn wsX7_countDoubled wsX7_isAsOneBefore := goodIn_r _ [5, 6, 7, 8, 4, 9, 10, 11, 12, 13, 14, 15, 16, 17, 18, 19] (by decide +kernel) (by decide +kernel)
set_option maxRecDepth 20000 in
theorem gX7_countDoubled_X7_isAsOneBefore : GoodIn wsX7_countDoubled (wsV RX7 21 RX7 yX7_isAsOneBefore wsX7_isAsOneBefore) := goodIn_app (goodIn_of _ (by decide +kernel)) ggX7_countDoubled_X7_isAsOneBefore
theorem dX7_countDoubled_0 : decode cX7_countDoubled 0 = .ok (.iconst 0, 1) := by decide +kernel
theorem dX7_countDoubled_1 : decode cX7_countDoubled 1 = .ok (.istore_n 1, 1) := by decide +kernel
theorem dX7_countDoubled_2 : decode cX7_countDoubled 2 = .ok (.iconst 1, 1) := by decide +kernel
theorem dX7_countDoubled_3 : decode cX7_countDoubled 3 = .ok (.istore_n 2, 1) := by decide +kernel
theorem dX7_countDoubled_4 : decode cX7_countDoubled 4 = .ok (.iload_n 2, 1) := by decide +kernel
theorem dX7_countDoubled_5 : decode cX7_countDoubled 5 = .ok (.bipush 48, 2) := by decide +kernel
theorem dX7_countDoubled_7 : decode cX7_countDoubled 7 = .ok (.if_icmp .ge 20, 3) := by decide +kernel
theorem dX7_countDoubled_10 : decode cX7_countDoubled 10 = .ok (.aload_n 0, 1) := by decide +kernel
theorem dX7_countDoubled_11 : decode cX7_countDoubled 11 = .ok (.iload_n 2, 1) := by decide +kernel
theorem dX7_countDoubled_12 : decode cX7_countDoubled 12 = .ok (.invokevirtual 21, 3) := by decide +kernel
theorem dX7_countDoubled_15 : decode cX7_countDoubled 15 = .ok (.ifCond .eq 6, 3) := by decide +kernel
theorem dX7_countDoubled_18 : decode cX7_countDoubled 18 = .ok (.iinc 1 1, 3) := by decide +kernel
theorem dX7_countDoubled_21 : decode cX7_countDoubled 21 = .ok (.iinc 2 1, 3) := by decide +kernel
theorem dX7_countDoubled_24 : decode cX7_countDoubled 24 = .ok (.goto (-20), 3) := by decide +kernel
theorem dX7_countDoubled_27 : decode cX7_countDoubled 27 = .ok (.iload_n 1, 1) := by decide +kernel
theorem dX7_countDoubled_28 : decode cX7_countDoubled 28 = .ok (.ireturn, 1) := by decide +kernel
set_option maxRecDepth 20000 in
theorem ggX7_isAsOneBefore_X7_isSame : GoodIn wsX7_isAsOneBefore wsX7_isSame := goodIn_r _ [5, 6, 7, 8, 4, 9, 10, 11, 12, 13, 14, 15] (by decide +kernel) (by decide +kernel)
set_option maxRecDepth 20000 in
theorem gX7_isAsOneBefore_X7_isSame : GoodIn wsX7_isAsOneBefore (wsV RX7 25 RX7 yX7_isSame wsX7_isSame) := goodIn_app (goodIn_of _ (by decide +kernel)) ggX7_isAsOneBefore_X7_isSame
theorem dX7_isAsOneBefore_0 : decode cX7_isAsOneBefore 0 = .ok (.iconst 0, 1) := by decide +kernel
theorem dX7_isAsOneBefore_1 : decode cX7_isAsOneBefore 1 = .ok (.istore_n 2, 1) := by decide +kernel
theorem dX7_isAsOneBefore_2 : decode cX7_isAsOneBefore 2 = .ok (.iload_n 2, 1) := by decide +kernel
theorem dX7_isAsOneBefore_3 : decode cX7_isAsOneBefore 3 = .ok (.iload_n 1, 1) := by decide +kernel
theorem dX7_isAsOneBefore_4 : decode cX7_isAsOneBefore 4 = .ok (.if_icmp .ge 20, 3) := by decide +kernel
theorem dX7_isAsOneBefore_7 : decode cX7_isAsOneBefore 7 = .ok (.aload_n 0, 1) := by decide +kernel
theorem dX7_isAsOneBefore_8 : decode cX7_isAsOneBefore 8 = .ok (.iload_n 1, 1) := by decide +kernel
theorem dX7_isAsOneBefore_9 : decode cX7_isAsOneBefore 9 = .ok (.iload_n 2, 1) := by decide +kernel
theorem dX7_isAsOneBefore_10 : decode cX7_isAsOneBefore 10 = .ok (.invokevirtual 25, 3) := by decide +kernel
theorem dX7_isAsOneBefore_13 : decode cX7_isAsOneBefore 13 = .ok (.ifCond .eq 5, 3) := by decide +kernel
theorem dX7_isAsOneBefore_16 : decode cX7_isAsOneBefore 16 = .ok (.iconst 1, 1) := by decide +kernel
theorem dX7_isAsOneBefore_17 : decode cX7_isAsOneBefore 17 = .ok (.ireturn, 1) := by decide +kernel
theorem dX7_isAsOneBefore_18 : decode cX7_isAsOneBefore 18 = .ok (.iinc 2 1, 3) := by decide +kernel
theorem dX7_isAsOneBefore_21 : decode cX7_isAsOneBefore 21 = .ok (.goto (-19), 3) := by decide +kernel
theorem dX7_isAsOneBefore_24 : decode cX7_isAsOneBefore 24 = .ok (.iconst 0, 1) := by decide +kernel
theorem dX7_isAsOneBefore_25 : decode cX7_isAsOneBefore 25 = .ok (.ireturn, 1) := by decide +kernel
set_option maxRecDepth 20000 in
theorem ggX7_isSame_X7_numberOf : GoodIn wsX7_isSame wsX7_numberOf := goodIn_r _ [5, 6, 7, 8, 9, 10, 11] (by decide +kernel) (by decide +kernel)
set_option maxRecDepth 20000 in
theorem gX7_isSame_X7_numberOf : GoodIn wsX7_isSame (wsV RX7 29 RX7 yX7_numberOf wsX7_numberOf) := goodIn_app (goodIn_of _ (by decide +kernel)) ggX7_isSame_X7_numberOf
theorem dX7_isSame_0 : decode cX7_isSame 0 = .ok (.iconst 0, 1) := by decide +kernel
theorem dX7_isSame_1 : decode cX7_isSame 1 = .ok (.istore_n 3, 1) := by decide +kernel
theorem dX7_isSame_2 : decode cX7_isSame 2 = .ok (.iload_n 3, 1) := by decide +kernel
theorem dX7_isSame_3 : decode cX7_isSame 3 = .ok (.bipush 12, 2) := by decide +kernel
theorem dX7_isSame_5 : decode cX7_isSame 5 = .ok (.if_icmp .ge 40, 3) := by decide +kernel
theorem dX7_isSame_8 : decode cX7_isSame 8 = .ok (.aload_n 0, 1) := by decide +kernel
theorem dX7_isSame_9 : decode cX7_isSame 9 = .ok (.iload_n 1, 1) := by decide +kernel
theorem dX7_isSame_10 : decode cX7_isSame 10 = .ok (.bipush 12, 2) := by decide +kernel
theorem dX7_isSame_12 : decode cX7_isSame 12 = .ok (.idiv, 1) := by decide +kernel
theorem dX7_isSame_13 : decode cX7_isSame 13 = .ok (.iload_n 1, 1) := by decide +kernel
theorem dX7_isSame_14 : decode cX7_isSame 14 = .ok (.bipush 12, 2) := by decide +kernel
theorem dX7_isSame_16 : decode cX7_isSame 16 = .ok (.irem, 1) := by decide +kernel
theorem dX7_isSame_17 : decode cX7_isSame 17 = .ok (.iload_n 3, 1) := by decide +kernel
theorem dX7_isSame_18 : decode cX7_isSame 18 = .ok (.invokevirtual 29, 3) := by decide +kernel
theorem dX7_isSame_21 : decode cX7_isSame 21 = .ok (.aload_n 0, 1) := by decide +kernel
theorem dX7_isSame_22 : decode cX7_isSame 22 = .ok (.iload_n 2, 1) := by decide +kernel
theorem dX7_isSame_23 : decode cX7_isSame 23 = .ok (.bipush 12, 2) := by decide +kernel
theorem dX7_isSame_25 : decode cX7_isSame 25 = .ok (.idiv, 1) := by decide +kernel
theorem dX7_isSame_26 : decode cX7_isSame 26 = .ok (.iload_n 2, 1) := by decide +kernel
theorem dX7_isSame_27 : decode cX7_isSame 27 = .ok (.bipush 12, 2) := by decide +kernel
theorem dX7_isSame_29 : decode cX7_isSame 29 = .ok (.irem, 1) := by decide +kernel
theorem dX7_isSame_30 : decode cX7_isSame 30 = .ok (.iload_n 3, 1) := by decide +kernel
theorem dX7_isSame_31 : decode cX7_isSame 31 = .ok (.invokevirtual 29, 3) := by decide +kernel
theorem dX7_isSame_34 : decode cX7_isSame 34 = .ok (.if_icmp .eq 5, 3) := by decide +kernel
theorem dX7_isSame_37 : decode cX7_isSame 37 = .ok (.iconst 0, 1) := by decide +kernel
theorem dX7_isSame_38 : decode cX7_isSame 38 = .ok (.ireturn, 1) := by decide +kernel
theorem dX7_isSame_39 : decode cX7_isSame 39 = .ok (.iinc 3 1, 3) := by decide +kernel
theorem dX7_isSame_42 : decode cX7_isSame 42 = .ok (.goto (-40), 3) := by decide +kernel
theorem dX7_isSame_45 : decode cX7_isSame 45 = .ok (.iconst 1, 1) := by decide +kernel
theorem dX7_isSame_46 : decode cX7_isSame 46 = .ok (.ireturn, 1) := by decide +kernel
theorem dX8_init_0 : decode cX8_init 0 = .ok (.aload_n 0, 1) := by decide +kernel
theorem dX8_init_1 : decode cX8_init 1 = .ok (.invokespecial 3, 3) := by decide +kernel
theorem dX8_init_4 : decode cX8_init 4 = .ok (.aload_n 0, 1) := by decide +kernel
theorem dX8_init_5 : decode cX8_init 5 = .ok (.sipush 256, 3) := by decide +kernel
theorem dX8_init_8 : decode cX8_init 8 = .ok (.newarray .int, 2) := by decide +kernel
theorem dX8_init_10 : decode cX8_init 10 = .ok (.putfield 9, 3) := by decide +kernel
theorem dX8_init_13 : decode cX8_init 13 = .ok (.aload_n 0, 1) := by decide +kernel
theorem dX8_init_14 : decode cX8_init 14 = .ok (.sipush 256, 3) := by decide +kernel
theorem dX8_init_17 : decode cX8_init 17 = .ok (.newarray .int, 2) := by decide +kernel
theorem dX8_init_19 : decode cX8_init 19 = .ok (.putfield 15, 3) := by decide +kernel
theorem dX8_init_22 : decode cX8_init 22 = .ok (.aload_n 0, 1) := by decide +kernel
theorem dX8_init_23 : decode cX8_init 23 = .ok (.sipush 256, 3) := by decide +kernel
theorem dX8_init_26 : decode cX8_init 26 = .ok (.newarray .int, 2) := by decide +kernel
theorem dX8_init_28 : decode cX8_init 28 = .ok (.putfield 18, 3) := by decide +kernel
theorem dX8_init_31 : decode cX8_init 31 = .ok (.aload_n 0, 1) := by decide +kernel
theorem dX8_init_32 : decode cX8_init 32 = .ok (.sipush 256, 3) := by decide +kernel
theorem dX8_init_35 : decode cX8_init 35 = .ok (.newarray .int, 2) := by decide +kernel
theorem dX8_init_37 : decode cX8_init 37 = .ok (.putfield 21, 3) := by decide +kernel
theorem dX8_init_40 : decode cX8_init 40 = .ok (.aload_n 0, 1) := by decide +kernel
theorem dX8_init_41 : decode cX8_init 41 = .ok (.sipush 256, 3) := by decide +kernel
theorem dX8_init_44 : decode cX8_init 44 = .ok (.newarray .int, 2) := by decide +kernel
theorem dX8_init_46 : decode cX8_init 46 = .ok (.putfield 24, 3) := by decide +kernel
theorem dX8_init_49 : decode cX8_init 49 = .ok (.aload_n 0, 1) := by decide +kernel
theorem dX8_init_50 : decode cX8_init 50 = .ok (.sipush 256, 3) := by decide +kernel
theorem dX8_init_53 : decode cX8_init 53 = .ok (.newarray .int, 2) := by decide +kernel
theorem dX8_init_55 : decode cX8_init 55 = .ok (.putfield 27, 3) := by decide +kernel
theorem dX8_init_58 : decode cX8_init 58 = .ok (.aload_n 0, 1) := by decide +kernel
theorem dX8_init_59 : decode cX8_init 59 = .ok (.iconst 0, 1) := by decide +kernel
theorem dX8_init_60 : decode cX8_init 60 = .ok (.putfield 30, 3) := by decide +kernel
theorem dX8_init_63 : decode cX8_init 63 = .ok (.return_, 1) := by decide +kernel
set_option maxRecDepth 20000 in
theorem ggX8_pitchOf_X9_isWithin : GoodIn wsX8_pitchOf wsX9_isWithin := goodIn_r _ [4] (by decide +kernel) (by decide +kernel)
set_option maxRecDepth 20000 in
theorem gX8_pitchOf_X9_isWithin_n34 : GoodIn wsX8_pitchOf (wsX9_isWithin) := ggX8_pitchOf_X9_isWithin
theorem dX8_pitchOf_0 : decode cX8_pitchOf 0 = .ok (.iload_n 0, 1) := by decide +kernel
theorem dX8_pitchOf_1 : decode cX8_pitchOf 1 = .ok (.iconst 0, 1) := by decide +kernel
theorem dX8_pitchOf_2 : decode cX8_pitchOf 2 = .ok (.bipush 6, 2) := by decide +kernel
theorem dX8_pitchOf_4 : decode cX8_pitchOf 4 = .ok (.invokestatic 34, 3) := by decide +kernel
theorem dX8_pitchOf_7 : decode cX8_pitchOf 7 = .ok (.ifCond .eq 16, 3) := by decide +kernel
theorem dX8_pitchOf_10 : decode cX8_pitchOf 10 = .ok (.getstatic 38, 3) := by decide +kernel
theorem dX8_pitchOf_13 : decode cX8_pitchOf 13 = .ok (.iload_n 0, 1) := by decide +kernel
theorem dX8_pitchOf_14 : decode cX8_pitchOf 14 = .ok (.iaload, 1) := by decide +kernel
theorem dX8_pitchOf_15 : decode cX8_pitchOf 15 = .ok (.bipush 12, 2) := by decide +kernel
theorem dX8_pitchOf_17 : decode cX8_pitchOf 17 = .ok (.iload_n 1, 1) := by decide +kernel
theorem dX8_pitchOf_18 : decode cX8_pitchOf 18 = .ok (.imul, 1) := by decide +kernel
theorem dX8_pitchOf_19 : decode cX8_pitchOf 19 = .ok (.iadd, 1) := by decide +kernel
theorem dX8_pitchOf_20 : decode cX8_pitchOf 20 = .ok (.goto 4, 3) := by decide +kernel
theorem dX8_pitchOf_23 : decode cX8_pitchOf 23 = .ok (.iconst (-1), 1) := by decide +kernel
theorem dX8_pitchOf_24 : decode cX8_pitchOf 24 = .ok (.ireturn, 1) := by decide +kernel
set_option maxRecDepth 20000 in
theorem ggX8_shorten_X9_isWithin : GoodIn wsX8_shorten wsX9_isWithin := goodIn_r _ [4] (by decide +kernel) (by decide +kernel)
set_option maxRecDepth 20000 in
theorem gX8_shorten_X9_isWithin_n34 : GoodIn wsX8_shorten (wsX9_isWithin) := ggX8_shorten_X9_isWithin
theorem dX8_shorten_0 : decode cX8_shorten 0 = .ok (.iload_n 1, 1) := by decide +kernel
theorem dX8_shorten_1 : decode cX8_shorten 1 = .ok (.iconst 0, 1) := by decide +kernel
theorem dX8_shorten_2 : decode cX8_shorten 2 = .ok (.aload_n 0, 1) := by decide +kernel
theorem dX8_shorten_3 : decode cX8_shorten 3 = .ok (.getfield 30, 3) := by decide +kernel
theorem dX8_shorten_6 : decode cX8_shorten 6 = .ok (.invokestatic 34, 3) := by decide +kernel
theorem dX8_shorten_9 : decode cX8_shorten 9 = .ok (.ifCond .eq 8, 3) := by decide +kernel
theorem dX8_shorten_12 : decode cX8_shorten 12 = .ok (.aload_n 0, 1) := by decide +kernel
theorem dX8_shorten_13 : decode cX8_shorten 13 = .ok (.iload_n 1, 1) := by decide +kernel
theorem dX8_shorten_14 : decode cX8_shorten 14 = .ok (.putfield 30, 3) := by decide +kernel
theorem dX8_shorten_17 : decode cX8_shorten 17 = .ok (.return_, 1) := by decide +kernel
theorem dX8_time_0 : decode cX8_time 0 = .ok (.aload_n 0, 1) := by decide +kernel
theorem dX8_time_1 : decode cX8_time 1 = .ok (.getfield 30, 3) := by decide +kernel
theorem dX8_time_4 : decode cX8_time 4 = .ok (.ifCond .ne 7, 3) := by decide +kernel
theorem dX8_time_7 : decode cX8_time 7 = .ok (.iconst 0, 1) := by decide +kernel
theorem dX8_time_8 : decode cX8_time 8 = .ok (.goto 26, 3) := by decide +kernel
theorem dX8_time_11 : decode cX8_time 11 = .ok (.aload_n 0, 1) := by decide +kernel
theorem dX8_time_12 : decode cX8_time 12 = .ok (.getfield 18, 3) := by decide +kernel
theorem dX8_time_15 : decode cX8_time 15 = .ok (.aload_n 0, 1) := by decide +kernel
theorem dX8_time_16 : decode cX8_time 16 = .ok (.getfield 30, 3) := by decide +kernel
theorem dX8_time_19 : decode cX8_time 19 = .ok (.iconst 1, 1) := by decide +kernel
theorem dX8_time_20 : decode cX8_time 20 = .ok (.isub, 1) := by decide +kernel
theorem dX8_time_21 : decode cX8_time 21 = .ok (.iaload, 1) := by decide +kernel
theorem dX8_time_22 : decode cX8_time 22 = .ok (.aload_n 0, 1) := by decide +kernel
theorem dX8_time_23 : decode cX8_time 23 = .ok (.getfield 15, 3) := by decide +kernel
theorem dX8_time_26 : decode cX8_time 26 = .ok (.aload_n 0, 1) := by decide +kernel
theorem dX8_time_27 : decode cX8_time 27 = .ok (.getfield 30, 3) := by decide +kernel
theorem dX8_time_30 : decode cX8_time 30 = .ok (.iconst 1, 1) := by decide +kernel
theorem dX8_time_31 : decode cX8_time 31 = .ok (.isub, 1) := by decide +kernel
theorem dX8_time_32 : decode cX8_time 32 = .ok (.iaload, 1) := by decide +kernel
theorem dX8_time_33 : decode cX8_time 33 = .ok (.iadd, 1) := by decide +kernel
theorem dX8_time_34 : decode cX8_time 34 = .ok (.ireturn, 1) := by decide +kernel
theorem dX8_latestPitch_0 : decode cX8_latestPitch 0 = .ok (.aload_n 0, 1) := by decide +kernel
theorem dX8_latestPitch_1 : decode cX8_latestPitch 1 = .ok (.getfield 30, 3) := by decide +kernel
theorem dX8_latestPitch_4 : decode cX8_latestPitch 4 = .ok (.ifCond .ne 7, 3) := by decide +kernel
theorem dX8_latestPitch_7 : decode cX8_latestPitch 7 = .ok (.iconst (-1), 1) := by decide +kernel
theorem dX8_latestPitch_8 : decode cX8_latestPitch 8 = .ok (.goto 14, 3) := by decide +kernel
theorem dX8_latestPitch_11 : decode cX8_latestPitch 11 = .ok (.aload_n 0, 1) := by decide +kernel
theorem dX8_latestPitch_12 : decode cX8_latestPitch 12 = .ok (.getfield 24, 3) := by decide +kernel
theorem dX8_latestPitch_15 : decode cX8_latestPitch 15 = .ok (.aload_n 0, 1) := by decide +kernel
theorem dX8_latestPitch_16 : decode cX8_latestPitch 16 = .ok (.getfield 30, 3) := by decide +kernel
theorem dX8_latestPitch_19 : decode cX8_latestPitch 19 = .ok (.iconst 1, 1) := by decide +kernel
theorem dX8_latestPitch_20 : decode cX8_latestPitch 20 = .ok (.isub, 1) := by decide +kernel
theorem dX8_latestPitch_21 : decode cX8_latestPitch 21 = .ok (.iaload, 1) := by decide +kernel
theorem dX8_latestPitch_22 : decode cX8_latestPitch 22 = .ok (.istore_n 1, 1) := by decide +kernel
theorem dX8_latestPitch_23 : decode cX8_latestPitch 23 = .ok (.iload_n 1, 1) := by decide +kernel
theorem dX8_latestPitch_24 : decode cX8_latestPitch 24 = .ok (.iconst (-1), 1) := by decide +kernel
theorem dX8_latestPitch_25 : decode cX8_latestPitch 25 = .ok (.if_icmp .ne 7, 3) := by decide +kernel
theorem dX8_latestPitch_28 : decode cX8_latestPitch 28 = .ok (.iconst (-1), 1) := by decide +kernel
theorem dX8_latestPitch_29 : decode cX8_latestPitch 29 = .ok (.goto 9, 3) := by decide +kernel
theorem dX8_latestPitch_32 : decode cX8_latestPitch 32 = .ok (.aload_n 0, 1) := by decide +kernel
theorem dX8_latestPitch_33 : decode cX8_latestPitch 33 = .ok (.getfield 9, 3) := by decide +kernel
