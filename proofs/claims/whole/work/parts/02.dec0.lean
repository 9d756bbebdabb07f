theorem dX0_init_0 : decode cX0_init 0 = .ok (.aload_n 0, 1) := by decide +kernel
theorem dX0_init_1 : decode cX0_init 1 = .ok (.invokespecial 3, 3) := by decide +kernel
theorem dX0_init_4 : decode cX0_init 4 = .ok (.aload_n 0, 1) := by decide +kernel
theorem dX0_init_5 : decode cX0_init 5 = .ok (.sipush 300, 3) := by decide +kernel
theorem dX0_init_8 : decode cX0_init 8 = .ok (.newarray .int, 2) := by decide +kernel
theorem dX0_init_10 : decode cX0_init 10 = .ok (.putfield 9, 3) := by decide +kernel
theorem dX0_init_13 : decode cX0_init 13 = .ok (.aload_n 0, 1) := by decide +kernel
theorem dX0_init_14 : decode cX0_init 14 = .ok (.sipush 203, 3) := by decide +kernel
theorem dX0_init_17 : decode cX0_init 17 = .ok (.newarray .int, 2) := by decide +kernel
theorem dX0_init_19 : decode cX0_init 19 = .ok (.putfield 15, 3) := by decide +kernel
theorem dX0_init_22 : decode cX0_init 22 = .ok (.aload_n 0, 1) := by decide +kernel
theorem dX0_init_23 : decode cX0_init 23 = .ok (.sipush 300, 3) := by decide +kernel
theorem dX0_init_26 : decode cX0_init 26 = .ok (.newarray .int, 2) := by decide +kernel
theorem dX0_init_28 : decode cX0_init 28 = .ok (.putfield 18, 3) := by decide +kernel
theorem dX0_init_31 : decode cX0_init 31 = .ok (.aload_n 0, 1) := by decide +kernel
theorem dX0_init_32 : decode cX0_init 32 = .ok (.iconst 0, 1) := by decide +kernel
theorem dX0_init_33 : decode cX0_init 33 = .ok (.putfield 21, 3) := by decide +kernel
theorem dX0_init_36 : decode cX0_init 36 = .ok (.aload_n 0, 1) := by decide +kernel
theorem dX0_init_37 : decode cX0_init 37 = .ok (.iconst 0, 1) := by decide +kernel
theorem dX0_init_38 : decode cX0_init 38 = .ok (.putfield 25, 3) := by decide +kernel
theorem dX0_init_41 : decode cX0_init 41 = .ok (.return_, 1) := by decide +kernel
theorem dX0_add_0 : decode cX0_add 0 = .ok (.aload_n 0, 1) := by decide +kernel
theorem dX0_add_1 : decode cX0_add 1 = .ok (.getfield 21, 3) := by decide +kernel
theorem dX0_add_4 : decode cX0_add 4 = .ok (.sipush 300, 3) := by decide +kernel
theorem dX0_add_7 : decode cX0_add 7 = .ok (.if_icmp .lt 6, 3) := by decide +kernel
theorem dX0_add_10 : decode cX0_add 10 = .ok (.bipush (-4), 2) := by decide +kernel
theorem dX0_add_12 : decode cX0_add 12 = .ok (.ireturn, 1) := by decide +kernel
theorem dX0_add_13 : decode cX0_add 13 = .ok (.aload_n 0, 1) := by decide +kernel
theorem dX0_add_14 : decode cX0_add 14 = .ok (.getfield 9, 3) := by decide +kernel
theorem dX0_add_17 : decode cX0_add 17 = .ok (.aload_n 0, 1) := by decide +kernel
theorem dX0_add_18 : decode cX0_add 18 = .ok (.getfield 21, 3) := by decide +kernel
theorem dX0_add_21 : decode cX0_add 21 = .ok (.iload_n 1, 1) := by decide +kernel
theorem dX0_add_22 : decode cX0_add 22 = .ok (.iastore, 1) := by decide +kernel
theorem dX0_add_23 : decode cX0_add 23 = .ok (.aload_n 0, 1) := by decide +kernel
theorem dX0_add_24 : decode cX0_add 24 = .ok (.dup, 1) := by decide +kernel
theorem dX0_add_25 : decode cX0_add 25 = .ok (.getfield 21, 3) := by decide +kernel
theorem dX0_add_28 : decode cX0_add 28 = .ok (.iconst 1, 1) := by decide +kernel
theorem dX0_add_29 : decode cX0_add 29 = .ok (.iadd, 1) := by decide +kernel
theorem dX0_add_30 : decode cX0_add 30 = .ok (.putfield 21, 3) := by decide +kernel
theorem dX0_add_33 : decode cX0_add 33 = .ok (.aload_n 0, 1) := by decide +kernel
theorem dX0_add_34 : decode cX0_add 34 = .ok (.getfield 21, 3) := by decide +kernel
theorem dX0_add_37 : decode cX0_add 37 = .ok (.ireturn, 1) := by decide +kernel
theorem dX0_clear_0 : decode cX0_clear 0 = .ok (.aload_n 0, 1) := by decide +kernel
theorem dX0_clear_1 : decode cX0_clear 1 = .ok (.getfield 21, 3) := by decide +kernel
theorem dX0_clear_4 : decode cX0_clear 4 = .ok (.istore_n 1, 1) := by decide +kernel
theorem dX0_clear_5 : decode cX0_clear 5 = .ok (.aload_n 0, 1) := by decide +kernel
theorem dX0_clear_6 : decode cX0_clear 6 = .ok (.iconst 0, 1) := by decide +kernel
theorem dX0_clear_7 : decode cX0_clear 7 = .ok (.putfield 21, 3) := by decide +kernel
theorem dX0_clear_10 : decode cX0_clear 10 = .ok (.iload_n 1, 1) := by decide +kernel
theorem dX0_clear_11 : decode cX0_clear 11 = .ok (.ireturn, 1) := by decide +kernel
set_option maxRecDepth 20000 in
theorem ggX0_wander_X0_findFollowers : GoodIn wsX0_wander wsX0_findFollowers := goodIn_r _ [13, 14, 8, 15, 16, 17, 12, 18, 1, 2, 7, 34, 35, 36, 37, 38] (by decide +kernel) (by decide +kernel)
set_option maxRecDepth 20000 in
theorem gX0_wander_X0_findFollowers : GoodIn wsX0_wander (wsV RX0 34 RX0 yX0_findFollowers wsX0_findFollowers) := goodIn_app (goodIn_of _ (by decide +kernel)) ggX0_wander_X0_findFollowers
set_option maxRecDepth 20000 in
theorem ggX0_wander_X1_drawUnder : GoodIn wsX0_wander wsX1_drawUnder := goodIn_r _ [23, 24, 25, 26, 27, 28, 22, 29, 30, 31, 32, 33, 39] (by decide +kernel) (by decide +kernel)
set_option maxRecDepth 20000 in
theorem gX0_wander_X1_drawUnder : GoodIn wsX0_wander (wsV RX0 38 RX1 yX1_drawUnder wsX1_drawUnder) := goodIn_app (goodIn_of _ (by decide +kernel)) ggX0_wander_X1_drawUnder
theorem dX0_wander_0 : decode cX0_wander 0 = .ok (.aload_n 0, 1) := by decide +kernel
theorem dX0_wander_1 : decode cX0_wander 1 = .ok (.getfield 9, 3) := by decide +kernel
theorem dX0_wander_4 : decode cX0_wander 4 = .ok (.iload_n 2, 1) := by decide +kernel
theorem dX0_wander_5 : decode cX0_wander 5 = .ok (.aload_n 0, 1) := by decide +kernel
theorem dX0_wander_6 : decode cX0_wander 6 = .ok (.getfield 15, 3) := by decide +kernel
theorem dX0_wander_9 : decode cX0_wander 9 = .ok (.iconst 0, 1) := by decide +kernel
theorem dX0_wander_10 : decode cX0_wander 10 = .ok (.iload_n 1, 1) := by decide +kernel
theorem dX0_wander_11 : decode cX0_wander 11 = .ok (.invokestatic 28, 3) := by decide +kernel
theorem dX0_wander_14 : decode cX0_wander 14 = .ok (.aload_n 0, 1) := by decide +kernel
theorem dX0_wander_15 : decode cX0_wander 15 = .ok (.iload_n 1, 1) := by decide +kernel
theorem dX0_wander_16 : decode cX0_wander 16 = .ok (.putfield 25, 3) := by decide +kernel
theorem dX0_wander_19 : decode cX0_wander 19 = .ok (.iconst 0, 1) := by decide +kernel
theorem dX0_wander_20 : decode cX0_wander 20 = .ok (.istore 5, 2) := by decide +kernel
theorem dX0_wander_22 : decode cX0_wander 22 = .ok (.iload 5, 2) := by decide +kernel
theorem dX0_wander_24 : decode cX0_wander 24 = .ok (.iload_n 3, 1) := by decide +kernel
theorem dX0_wander_25 : decode cX0_wander 25 = .ok (.if_icmp .ge 65, 3) := by decide +kernel
theorem dX0_wander_28 : decode cX0_wander 28 = .ok (.aload_n 0, 1) := by decide +kernel
theorem dX0_wander_29 : decode cX0_wander 29 = .ok (.iload_n 1, 1) := by decide +kernel
theorem dX0_wander_30 : decode cX0_wander 30 = .ok (.invokevirtual 34, 3) := by decide +kernel
theorem dX0_wander_33 : decode cX0_wander 33 = .ok (.istore 6, 2) := by decide +kernel
theorem dX0_wander_35 : decode cX0_wander 35 = .ok (.iload 6, 2) := by decide +kernel
theorem dX0_wander_37 : decode cX0_wander 37 = .ok (.ifCond .ne 7, 3) := by decide +kernel
theorem dX0_wander_40 : decode cX0_wander 40 = .ok (.iload_n 2, 1) := by decide +kernel
theorem dX0_wander_41 : decode cX0_wander 41 = .ok (.goto 15, 3) := by decide +kernel
theorem dX0_wander_44 : decode cX0_wander 44 = .ok (.aload_n 0, 1) := by decide +kernel
theorem dX0_wander_45 : decode cX0_wander 45 = .ok (.getfield 18, 3) := by decide +kernel
theorem dX0_wander_48 : decode cX0_wander 48 = .ok (.aload 4, 2) := by decide +kernel
theorem dX0_wander_50 : decode cX0_wander 50 = .ok (.iload 6, 2) := by decide +kernel
theorem dX0_wander_52 : decode cX0_wander 52 = .ok (.invokevirtual 38, 3) := by decide +kernel
theorem dX0_wander_55 : decode cX0_wander 55 = .ok (.iaload, 1) := by decide +kernel
theorem dX0_wander_56 : decode cX0_wander 56 = .ok (.istore 7, 2) := by decide +kernel
theorem dX0_wander_58 : decode cX0_wander 58 = .ok (.aload_n 0, 1) := by decide +kernel
theorem dX0_wander_59 : decode cX0_wander 59 = .ok (.getfield 15, 3) := by decide +kernel
theorem dX0_wander_62 : decode cX0_wander 62 = .ok (.aload_n 0, 1) := by decide +kernel
theorem dX0_wander_63 : decode cX0_wander 63 = .ok (.getfield 25, 3) := by decide +kernel
theorem dX0_wander_66 : decode cX0_wander 66 = .ok (.aload_n 0, 1) := by decide +kernel
theorem dX0_wander_67 : decode cX0_wander 67 = .ok (.getfield 9, 3) := by decide +kernel
theorem dX0_wander_70 : decode cX0_wander 70 = .ok (.iload 7, 2) := by decide +kernel
theorem dX0_wander_72 : decode cX0_wander 72 = .ok (.iaload, 1) := by decide +kernel
theorem dX0_wander_73 : decode cX0_wander 73 = .ok (.iastore, 1) := by decide +kernel
theorem dX0_wander_74 : decode cX0_wander 74 = .ok (.aload_n 0, 1) := by decide +kernel
theorem dX0_wander_75 : decode cX0_wander 75 = .ok (.dup, 1) := by decide +kernel
theorem dX0_wander_76 : decode cX0_wander 76 = .ok (.getfield 25, 3) := by decide +kernel
theorem dX0_wander_79 : decode cX0_wander 79 = .ok (.iconst 1, 1) := by decide +kernel
theorem dX0_wander_80 : decode cX0_wander 80 = .ok (.iadd, 1) := by decide +kernel
theorem dX0_wander_81 : decode cX0_wander 81 = .ok (.putfield 25, 3) := by decide +kernel
theorem dX0_wander_84 : decode cX0_wander 84 = .ok (.iinc 5 1, 3) := by decide +kernel
theorem dX0_wander_87 : decode cX0_wander 87 = .ok (.goto (-65), 3) := by decide +kernel
theorem dX0_wander_90 : decode cX0_wander 90 = .ok (.aload_n 0, 1) := by decide +kernel
theorem dX0_wander_91 : decode cX0_wander 91 = .ok (.getfield 25, 3) := by decide +kernel
theorem dX0_wander_94 : decode cX0_wander 94 = .ok (.ireturn, 1) := by decide +kernel
set_option maxRecDepth 20000 in
theorem ggX0_findFollowers_X0_isBehindLatest : GoodIn wsX0_findFollowers wsX0_isBehindLatest := goodIn_r _ [7, 8, 9, 10, 11, 12, 13, 14, 15] (by decide +kernel) (by decide +kernel)
set_option maxRecDepth 20000 in
theorem gX0_findFollowers_X0_isBehindLatest : GoodIn wsX0_findFollowers (wsV RX0 43 RX0 yX0_isBehindLatest wsX0_isBehindLatest) := goodIn_app (goodIn_of _ (by decide +kernel)) ggX0_findFollowers_X0_isBehindLatest
theorem dX0_findFollowers_0 : decode cX0_findFollowers 0 = .ok (.iconst 0, 1) := by decide +kernel
theorem dX0_findFollowers_1 : decode cX0_findFollowers 1 = .ok (.istore_n 2, 1) := by decide +kernel
theorem dX0_findFollowers_2 : decode cX0_findFollowers 2 = .ok (.iload_n 1, 1) := by decide +kernel
theorem dX0_findFollowers_3 : decode cX0_findFollowers 3 = .ok (.istore_n 3, 1) := by decide +kernel
theorem dX0_findFollowers_4 : decode cX0_findFollowers 4 = .ok (.iload_n 3, 1) := by decide +kernel
theorem dX0_findFollowers_5 : decode cX0_findFollowers 5 = .ok (.aload_n 0, 1) := by decide +kernel
theorem dX0_findFollowers_6 : decode cX0_findFollowers 6 = .ok (.getfield 21, 3) := by decide +kernel
theorem dX0_findFollowers_9 : decode cX0_findFollowers 9 = .ok (.if_icmp .ge 28, 3) := by decide +kernel
theorem dX0_findFollowers_12 : decode cX0_findFollowers 12 = .ok (.aload_n 0, 1) := by decide +kernel
theorem dX0_findFollowers_13 : decode cX0_findFollowers 13 = .ok (.iload_n 3, 1) := by decide +kernel
theorem dX0_findFollowers_14 : decode cX0_findFollowers 14 = .ok (.iload_n 1, 1) := by decide +kernel
theorem dX0_findFollowers_15 : decode cX0_findFollowers 15 = .ok (.invokevirtual 43, 3) := by decide +kernel
theorem dX0_findFollowers_18 : decode cX0_findFollowers 18 = .ok (.ifCond .eq 13, 3) := by decide +kernel
theorem dX0_findFollowers_21 : decode cX0_findFollowers 21 = .ok (.aload_n 0, 1) := by decide +kernel
theorem dX0_findFollowers_22 : decode cX0_findFollowers 22 = .ok (.getfield 18, 3) := by decide +kernel
theorem dX0_findFollowers_25 : decode cX0_findFollowers 25 = .ok (.iload_n 2, 1) := by decide +kernel
theorem dX0_findFollowers_26 : decode cX0_findFollowers 26 = .ok (.iload_n 3, 1) := by decide +kernel
theorem dX0_findFollowers_27 : decode cX0_findFollowers 27 = .ok (.iastore, 1) := by decide +kernel
theorem dX0_findFollowers_28 : decode cX0_findFollowers 28 = .ok (.iinc 2 1, 3) := by decide +kernel
theorem dX0_findFollowers_31 : decode cX0_findFollowers 31 = .ok (.iinc 3 1, 3) := by decide +kernel
theorem dX0_findFollowers_34 : decode cX0_findFollowers 34 = .ok (.goto (-30), 3) := by decide +kernel
theorem dX0_findFollowers_37 : decode cX0_findFollowers 37 = .ok (.iload_n 2, 1) := by decide +kernel
theorem dX0_findFollowers_38 : decode cX0_findFollowers 38 = .ok (.ireturn, 1) := by decide +kernel
theorem dX0_isBehindLatest_0 : decode cX0_isBehindLatest 0 = .ok (.iconst 1, 1) := by decide +kernel
theorem dX0_isBehindLatest_1 : decode cX0_isBehindLatest 1 = .ok (.istore_n 3, 1) := by decide +kernel
theorem dX0_isBehindLatest_2 : decode cX0_isBehindLatest 2 = .ok (.iload_n 3, 1) := by decide +kernel
theorem dX0_isBehindLatest_3 : decode cX0_isBehindLatest 3 = .ok (.iload_n 2, 1) := by decide +kernel
theorem dX0_isBehindLatest_4 : decode cX0_isBehindLatest 4 = .ok (.if_icmp .gt 33, 3) := by decide +kernel
theorem dX0_isBehindLatest_7 : decode cX0_isBehindLatest 7 = .ok (.aload_n 0, 1) := by decide +kernel
theorem dX0_isBehindLatest_8 : decode cX0_isBehindLatest 8 = .ok (.getfield 9, 3) := by decide +kernel
theorem dX0_isBehindLatest_11 : decode cX0_isBehindLatest 11 = .ok (.iload_n 1, 1) := by decide +kernel
theorem dX0_isBehindLatest_12 : decode cX0_isBehindLatest 12 = .ok (.iload_n 3, 1) := by decide +kernel
theorem dX0_isBehindLatest_13 : decode cX0_isBehindLatest 13 = .ok (.isub, 1) := by decide +kernel
theorem dX0_isBehindLatest_14 : decode cX0_isBehindLatest 14 = .ok (.iaload, 1) := by decide +kernel
theorem dX0_isBehindLatest_15 : decode cX0_isBehindLatest 15 = .ok (.aload_n 0, 1) := by decide +kernel
theorem dX0_isBehindLatest_16 : decode cX0_isBehindLatest 16 = .ok (.getfield 15, 3) := by decide +kernel
theorem dX0_isBehindLatest_19 : decode cX0_isBehindLatest 19 = .ok (.aload_n 0, 1) := by decide +kernel
theorem dX0_isBehindLatest_20 : decode cX0_isBehindLatest 20 = .ok (.getfield 25, 3) := by decide +kernel
theorem dX0_isBehindLatest_23 : decode cX0_isBehindLatest 23 = .ok (.iload_n 3, 1) := by decide +kernel
theorem dX0_isBehindLatest_24 : decode cX0_isBehindLatest 24 = .ok (.isub, 1) := by decide +kernel
theorem dX0_isBehindLatest_25 : decode cX0_isBehindLatest 25 = .ok (.iaload, 1) := by decide +kernel
theorem dX0_isBehindLatest_26 : decode cX0_isBehindLatest 26 = .ok (.if_icmp .eq 5, 3) := by decide +kernel
theorem dX0_isBehindLatest_29 : decode cX0_isBehindLatest 29 = .ok (.iconst 0, 1) := by decide +kernel
theorem dX0_isBehindLatest_30 : decode cX0_isBehindLatest 30 = .ok (.ireturn, 1) := by decide +kernel
theorem dX0_isBehindLatest_31 : decode cX0_isBehindLatest 31 = .ok (.iinc 3 1, 3) := by decide +kernel
theorem dX0_isBehindLatest_34 : decode cX0_isBehindLatest 34 = .ok (.goto (-32), 3) := by decide +kernel
theorem dX0_isBehindLatest_37 : decode cX0_isBehindLatest 37 = .ok (.iconst 1, 1) := by decide +kernel
theorem dX0_isBehindLatest_38 : decode cX0_isBehindLatest 38 = .ok (.ireturn, 1) := by decide +kernel
theorem dX1_init_0 : decode cX1_init 0 = .ok (.aload_n 0, 1) := by decide +kernel
theorem dX1_init_1 : decode cX1_init 1 = .ok (.invokespecial 1, 3) := by decide +kernel
theorem dX1_init_4 : decode cX1_init 4 = .ok (.aload_n 0, 1) := by decide +kernel
theorem dX1_init_5 : decode cX1_init 5 = .ok (.lload_n 1, 1) := by decide +kernel
theorem dX1_init_6 : decode cX1_init 6 = .ok (.putfield 7, 3) := by decide +kernel
theorem dX1_init_9 : decode cX1_init 9 = .ok (.return_, 1) := by decide +kernel
theorem dX1_draw_0 : decode cX1_draw 0 = .ok (.aload_n 0, 1) := by decide +kernel
theorem dX1_draw_1 : decode cX1_draw 1 = .ok (.dup, 1) := by decide +kernel
theorem dX1_draw_2 : decode cX1_draw 2 = .ok (.getfield 7, 3) := by decide +kernel
theorem dX1_draw_5 : decode cX1_draw 5 = .ok (.ldc2_w 13, 3) := by decide +kernel
theorem dX1_draw_8 : decode cX1_draw 8 = .ok (.ladd, 1) := by decide +kernel
theorem dX1_draw_9 : decode cX1_draw 9 = .ok (.putfield 7, 3) := by decide +kernel
theorem dX1_draw_12 : decode cX1_draw 12 = .ok (.aload_n 0, 1) := by decide +kernel
theorem dX1_draw_13 : decode cX1_draw 13 = .ok (.getfield 7, 3) := by decide +kernel
theorem dX1_draw_16 : decode cX1_draw 16 = .ok (.lstore_n 1, 1) := by decide +kernel
theorem dX1_draw_17 : decode cX1_draw 17 = .ok (.lload_n 1, 1) := by decide +kernel
theorem dX1_draw_18 : decode cX1_draw 18 = .ok (.lload_n 1, 1) := by decide +kernel
theorem dX1_draw_19 : decode cX1_draw 19 = .ok (.bipush 30, 2) := by decide +kernel
theorem dX1_draw_21 : decode cX1_draw 21 = .ok (.lushr, 1) := by decide +kernel
theorem dX1_draw_22 : decode cX1_draw 22 = .ok (.lxor, 1) := by decide +kernel
theorem dX1_draw_23 : decode cX1_draw 23 = .ok (.ldc2_w 15, 3) := by decide +kernel
theorem dX1_draw_26 : decode cX1_draw 26 = .ok (.lmul, 1) := by decide +kernel
theorem dX1_draw_27 : decode cX1_draw 27 = .ok (.lstore_n 1, 1) := by decide +kernel
theorem dX1_draw_28 : decode cX1_draw 28 = .ok (.lload_n 1, 1) := by decide +kernel
theorem dX1_draw_29 : decode cX1_draw 29 = .ok (.lload_n 1, 1) := by decide +kernel
theorem dX1_draw_30 : decode cX1_draw 30 = .ok (.bipush 27, 2) := by decide +kernel
theorem dX1_draw_32 : decode cX1_draw 32 = .ok (.lushr, 1) := by decide +kernel
theorem dX1_draw_33 : decode cX1_draw 33 = .ok (.lxor, 1) := by decide +kernel
theorem dX1_draw_34 : decode cX1_draw 34 = .ok (.ldc2_w 17, 3) := by decide +kernel
theorem dX1_draw_37 : decode cX1_draw 37 = .ok (.lmul, 1) := by decide +kernel
theorem dX1_draw_38 : decode cX1_draw 38 = .ok (.lstore_n 1, 1) := by decide +kernel
theorem dX1_draw_39 : decode cX1_draw 39 = .ok (.lload_n 1, 1) := by decide +kernel
theorem dX1_draw_40 : decode cX1_draw 40 = .ok (.lload_n 1, 1) := by decide +kernel
theorem dX1_draw_41 : decode cX1_draw 41 = .ok (.bipush 31, 2) := by decide +kernel
theorem dX1_draw_43 : decode cX1_draw 43 = .ok (.lushr, 1) := by decide +kernel
theorem dX1_draw_44 : decode cX1_draw 44 = .ok (.lxor, 1) := by decide +kernel
theorem dX1_draw_45 : decode cX1_draw 45 = .ok (.iconst 1, 1) := by decide +kernel
theorem dX1_draw_46 : decode cX1_draw 46 = .ok (.lushr, 1) := by decide +kernel
theorem dX1_draw_47 : decode cX1_draw 47 = .ok (.lreturn, 1) := by decide +kernel
set_option maxRecDepth 20000 in
theorem ggX1_drawUnder_X1_draw : GoodIn wsX1_drawUnder wsX1_draw := goodIn_r _ [7, 8, 9, 10, 11, 12] (by decide +kernel) (by decide +kernel)
set_option maxRecDepth 20000 in
theorem gX1_drawUnder_X1_draw : GoodIn wsX1_drawUnder (wsV RX1 24 RX1 yX1_draw wsX1_draw) := goodIn_app (goodIn_of _ (by decide +kernel)) ggX1_drawUnder_X1_draw
theorem dX1_drawUnder_0 : decode cX1_drawUnder 0 = .ok (.iload_n 1, 1) := by decide +kernel
theorem dX1_drawUnder_1 : decode cX1_drawUnder 1 = .ok (.iconst 1, 1) := by decide +kernel
theorem dX1_drawUnder_2 : decode cX1_drawUnder 2 = .ok (.if_icmp .ge 5, 3) := by decide +kernel
theorem dX1_drawUnder_5 : decode cX1_drawUnder 5 = .ok (.iconst 0, 1) := by decide +kernel
theorem dX1_drawUnder_6 : decode cX1_drawUnder 6 = .ok (.ireturn, 1) := by decide +kernel
theorem dX1_drawUnder_7 : decode cX1_drawUnder 7 = .ok (.ldc2_w 21, 3) := by decide +kernel
theorem dX1_drawUnder_10 : decode cX1_drawUnder 10 = .ok (.iload_n 1, 1) := by decide +kernel
theorem dX1_drawUnder_11 : decode cX1_drawUnder 11 = .ok (.i2l, 1) := by decide +kernel
theorem dX1_drawUnder_12 : decode cX1_drawUnder 12 = .ok (.lrem, 1) := by decide +kernel
theorem dX1_drawUnder_13 : decode cX1_drawUnder 13 = .ok (.lconst 1, 1) := by decide +kernel
theorem dX1_drawUnder_14 : decode cX1_drawUnder 14 = .ok (.ladd, 1) := by decide +kernel
theorem dX1_drawUnder_15 : decode cX1_drawUnder 15 = .ok (.iload_n 1, 1) := by decide +kernel
theorem dX1_drawUnder_16 : decode cX1_drawUnder 16 = .ok (.i2l, 1) := by decide +kernel
theorem dX1_drawUnder_17 : decode cX1_drawUnder 17 = .ok (.lrem, 1) := by decide +kernel
theorem dX1_drawUnder_18 : decode cX1_drawUnder 18 = .ok (.lstore_n 2, 1) := by decide +kernel
theorem dX1_drawUnder_19 : decode cX1_drawUnder 19 = .ok (.ldc2_w 21, 3) := by decide +kernel
theorem dX1_drawUnder_22 : decode cX1_drawUnder 22 = .ok (.lload_n 2, 1) := by decide +kernel
theorem dX1_drawUnder_23 : decode cX1_drawUnder 23 = .ok (.lsub, 1) := by decide +kernel
theorem dX1_drawUnder_24 : decode cX1_drawUnder 24 = .ok (.lstore 4, 2) := by decide +kernel
theorem dX1_drawUnder_26 : decode cX1_drawUnder 26 = .ok (.iconst 0, 1) := by decide +kernel
theorem dX1_drawUnder_27 : decode cX1_drawUnder 27 = .ok (.istore 6, 2) := by decide +kernel
theorem dX1_drawUnder_29 : decode cX1_drawUnder 29 = .ok (.iload 6, 2) := by decide +kernel
theorem dX1_drawUnder_31 : decode cX1_drawUnder 31 = .ok (.ldc 23, 2) := by decide +kernel
theorem dX1_drawUnder_33 : decode cX1_drawUnder 33 = .ok (.if_icmp .ge 30, 3) := by decide +kernel
theorem dX1_drawUnder_36 : decode cX1_drawUnder 36 = .ok (.aload_n 0, 1) := by decide +kernel
theorem dX1_drawUnder_37 : decode cX1_drawUnder 37 = .ok (.invokevirtual 24, 3) := by decide +kernel
theorem dX1_drawUnder_40 : decode cX1_drawUnder 40 = .ok (.lstore 7, 2) := by decide +kernel
theorem dX1_drawUnder_42 : decode cX1_drawUnder 42 = .ok (.lload 7, 2) := by decide +kernel
theorem dX1_drawUnder_44 : decode cX1_drawUnder 44 = .ok (.lload 4, 2) := by decide +kernel
theorem dX1_drawUnder_46 : decode cX1_drawUnder 46 = .ok (.lcmp, 1) := by decide +kernel
theorem dX1_drawUnder_47 : decode cX1_drawUnder 47 = .ok (.ifCond .gt 10, 3) := by decide +kernel
theorem dX1_drawUnder_50 : decode cX1_drawUnder 50 = .ok (.lload 7, 2) := by decide +kernel
theorem dX1_drawUnder_52 : decode cX1_drawUnder 52 = .ok (.iload_n 1, 1) := by decide +kernel
theorem dX1_drawUnder_53 : decode cX1_drawUnder 53 = .ok (.i2l, 1) := by decide +kernel
theorem dX1_drawUnder_54 : decode cX1_drawUnder 54 = .ok (.lrem, 1) := by decide +kernel
theorem dX1_drawUnder_55 : decode cX1_drawUnder 55 = .ok (.l2i, 1) := by decide +kernel
theorem dX1_drawUnder_56 : decode cX1_drawUnder 56 = .ok (.ireturn, 1) := by decide +kernel
theorem dX1_drawUnder_57 : decode cX1_drawUnder 57 = .ok (.iinc 6 1, 3) := by decide +kernel
theorem dX1_drawUnder_60 : decode cX1_drawUnder 60 = .ok (.goto (-31), 3) := by decide +kernel
theorem dX1_drawUnder_63 : decode cX1_drawUnder 63 = .ok (.iconst 0, 1) := by decide +kernel
theorem dX1_drawUnder_64 : decode cX1_drawUnder 64 = .ok (.ireturn, 1) := by decide +kernel
theorem dX2_init_0 : decode cX2_init 0 = .ok (.aload_n 0, 1) := by decide +kernel
theorem dX2_init_1 : decode cX2_init 1 = .ok (.invokespecial 3, 3) := by decide +kernel
theorem dX2_init_4 : decode cX2_init 4 = .ok (.aload_n 0, 1) := by decide +kernel
theorem dX2_init_5 : decode cX2_init 5 = .ok (.bipush 26, 2) := by decide +kernel
theorem dX2_init_7 : decode cX2_init 7 = .ok (.newarray .int, 2) := by decide +kernel
theorem dX2_init_9 : decode cX2_init 9 = .ok (.putfield 9, 3) := by decide +kernel
theorem dX2_init_12 : decode cX2_init 12 = .ok (.aload_n 0, 1) := by decide +kernel
theorem dX2_init_13 : decode cX2_init 13 = .ok (.bipush 26, 2) := by decide +kernel
theorem dX2_init_15 : decode cX2_init 15 = .ok (.newarray .int, 2) := by decide +kernel
theorem dX2_init_17 : decode cX2_init 17 = .ok (.putfield 15, 3) := by decide +kernel
theorem dX2_init_20 : decode cX2_init 20 = .ok (.aload_n 0, 1) := by decide +kernel
theorem dX2_init_21 : decode cX2_init 21 = .ok (.bipush 26, 2) := by decide +kernel
theorem dX2_init_23 : decode cX2_init 23 = .ok (.newarray .int, 2) := by decide +kernel
theorem dX2_init_25 : decode cX2_init 25 = .ok (.putfield 18, 3) := by decide +kernel
theorem dX2_init_28 : decode cX2_init 28 = .ok (.aload_n 0, 1) := by decide +kernel
theorem dX2_init_29 : decode cX2_init 29 = .ok (.bipush 26, 2) := by decide +kernel
theorem dX2_init_31 : decode cX2_init 31 = .ok (.newarray .int, 2) := by decide +kernel
theorem dX2_init_33 : decode cX2_init 33 = .ok (.putfield 21, 3) := by decide +kernel
theorem dX2_init_36 : decode cX2_init 36 = .ok (.aload_n 0, 1) := by decide +kernel
theorem dX2_init_37 : decode cX2_init 37 = .ok (.bipush 48, 2) := by decide +kernel
theorem dX2_init_39 : decode cX2_init 39 = .ok (.newarray .int, 2) := by decide +kernel
theorem dX2_init_41 : decode cX2_init 41 = .ok (.putfield 24, 3) := by decide +kernel
theorem dX2_init_44 : decode cX2_init 44 = .ok (.aload_n 0, 1) := by decide +kernel
theorem dX2_init_45 : decode cX2_init 45 = .ok (.bipush 48, 2) := by decide +kernel
theorem dX2_init_47 : decode cX2_init 47 = .ok (.newarray .int, 2) := by decide +kernel
theorem dX2_init_49 : decode cX2_init 49 = .ok (.putfield 27, 3) := by decide +kernel
theorem dX2_init_52 : decode cX2_init 52 = .ok (.aload_n 0, 1) := by decide +kernel
theorem dX2_init_53 : decode cX2_init 53 = .ok (.bipush 48, 2) := by decide +kernel
theorem dX2_init_55 : decode cX2_init 55 = .ok (.newarray .int, 2) := by decide +kernel
theorem dX2_init_57 : decode cX2_init 57 = .ok (.putfield 30, 3) := by decide +kernel
theorem dX2_init_60 : decode cX2_init 60 = .ok (.aload_n 0, 1) := by decide +kernel
theorem dX2_init_61 : decode cX2_init 61 = .ok (.sipush 240, 3) := by decide +kernel
theorem dX2_init_64 : decode cX2_init 64 = .ok (.newarray .int, 2) := by decide +kernel
theorem dX2_init_66 : decode cX2_init 66 = .ok (.putfield 33, 3) := by decide +kernel
theorem dX2_init_69 : decode cX2_init 69 = .ok (.aload_n 0, 1) := by decide +kernel
theorem dX2_init_70 : decode cX2_init 70 = .ok (.sipush 240, 3) := by decide +kernel
theorem dX2_init_73 : decode cX2_init 73 = .ok (.newarray .int, 2) := by decide +kernel
theorem dX2_init_75 : decode cX2_init 75 = .ok (.putfield 36, 3) := by decide +kernel
theorem dX2_init_78 : decode cX2_init 78 = .ok (.aload_n 0, 1) := by decide +kernel
theorem dX2_init_79 : decode cX2_init 79 = .ok (.sipush 240, 3) := by decide +kernel
theorem dX2_init_82 : decode cX2_init 82 = .ok (.newarray .int, 2) := by decide +kernel
theorem dX2_init_84 : decode cX2_init 84 = .ok (.putfield 39, 3) := by decide +kernel
theorem dX2_init_87 : decode cX2_init 87 = .ok (.aload_n 0, 1) := by decide +kernel
theorem dX2_init_88 : decode cX2_init 88 = .ok (.sipush 240, 3) := by decide +kernel
theorem dX2_init_91 : decode cX2_init 91 = .ok (.newarray .int, 2) := by decide +kernel
theorem dX2_init_93 : decode cX2_init 93 = .ok (.putfield 42, 3) := by decide +kernel
theorem dX2_init_96 : decode cX2_init 96 = .ok (.aload_n 0, 1) := by decide +kernel
theorem dX2_init_97 : decode cX2_init 97 = .ok (.iconst 0, 1) := by decide +kernel
theorem dX2_init_98 : decode cX2_init 98 = .ok (.putfield 45, 3) := by decide +kernel
theorem dX2_init_101 : decode cX2_init 101 = .ok (.aload_n 0, 1) := by decide +kernel
theorem dX2_init_102 : decode cX2_init 102 = .ok (.iconst 0, 1) := by decide +kernel
theorem dX2_init_103 : decode cX2_init 103 = .ok (.putfield 49, 3) := by decide +kernel
theorem dX2_init_106 : decode cX2_init 106 = .ok (.aload_n 0, 1) := by decide +kernel
theorem dX2_init_107 : decode cX2_init 107 = .ok (.iconst 0, 1) := by decide +kernel
theorem dX2_init_108 : decode cX2_init 108 = .ok (.putfield 52, 3) := by decide +kernel
theorem dX2_init_111 : decode cX2_init 111 = .ok (.aload_n 0, 1) := by decide +kernel
theorem dX2_init_112 : decode cX2_init 112 = .ok (.iconst 0, 1) := by decide +kernel
theorem dX2_init_113 : decode cX2_init 113 = .ok (.putfield 55, 3) := by decide +kernel
theorem dX2_init_116 : decode cX2_init 116 = .ok (.aload_n 0, 1) := by decide +kernel
theorem dX2_init_117 : decode cX2_init 117 = .ok (.iconst 0, 1) := by decide +kernel
theorem dX2_init_118 : decode cX2_init 118 = .ok (.putfield 58, 3) := by decide +kernel
theorem dX2_init_121 : decode cX2_init 121 = .ok (.return_, 1) := by decide +kernel
set_option maxRecDepth 20000 in
theorem ggX2_clear_J7_fill_53178 : GoodIn wsX2_clear wsJ7_fill_53178 := goodIn_r _ [10] (by decide +kernel) (by decide +kernel)
set_option maxRecDepth 20000 in
theorem gX2_clear_J7_fill_53178 : GoodIn wsX2_clear (va_wsS RX2 61 yJ7_fill_53178 wsJ7_fill_53178) := goodIn_app (goodIn_of _ (by decide +kernel)) ggX2_clear_J7_fill_53178
theorem dX2_clear_0 : decode cX2_clear 0 = .ok (.aload_n 0, 1) := by decide +kernel
theorem dX2_clear_1 : decode cX2_clear 1 = .ok (.iconst 0, 1) := by decide +kernel
theorem dX2_clear_2 : decode cX2_clear 2 = .ok (.putfield 45, 3) := by decide +kernel
theorem dX2_clear_5 : decode cX2_clear 5 = .ok (.aload_n 0, 1) := by decide +kernel
theorem dX2_clear_6 : decode cX2_clear 6 = .ok (.iconst 0, 1) := by decide +kernel
theorem dX2_clear_7 : decode cX2_clear 7 = .ok (.putfield 49, 3) := by decide +kernel
theorem dX2_clear_10 : decode cX2_clear 10 = .ok (.aload_n 0, 1) := by decide +kernel
theorem dX2_clear_11 : decode cX2_clear 11 = .ok (.iconst 0, 1) := by decide +kernel
theorem dX2_clear_12 : decode cX2_clear 12 = .ok (.putfield 52, 3) := by decide +kernel
theorem dX2_clear_15 : decode cX2_clear 15 = .ok (.aload_n 0, 1) := by decide +kernel
theorem dX2_clear_16 : decode cX2_clear 16 = .ok (.getfield 15, 3) := by decide +kernel
theorem dX2_clear_19 : decode cX2_clear 19 = .ok (.iconst 0, 1) := by decide +kernel
theorem dX2_clear_20 : decode cX2_clear 20 = .ok (.invokestatic 61, 3) := by decide +kernel
theorem dX2_clear_23 : decode cX2_clear 23 = .ok (.aload_n 0, 1) := by decide +kernel
theorem dX2_clear_24 : decode cX2_clear 24 = .ok (.getfield 18, 3) := by decide +kernel
theorem dX2_clear_27 : decode cX2_clear 27 = .ok (.iconst 0, 1) := by decide +kernel
theorem dX2_clear_28 : decode cX2_clear 28 = .ok (.invokestatic 61, 3) := by decide +kernel
theorem dX2_clear_31 : decode cX2_clear 31 = .ok (.aload_n 0, 1) := by decide +kernel
theorem dX2_clear_32 : decode cX2_clear 32 = .ok (.getfield 21, 3) := by decide +kernel
theorem dX2_clear_35 : decode cX2_clear 35 = .ok (.iconst (-1), 1) := by decide +kernel
theorem dX2_clear_36 : decode cX2_clear 36 = .ok (.invokestatic 61, 3) := by decide +kernel
theorem dX2_clear_39 : decode cX2_clear 39 = .ok (.return_, 1) := by decide +kernel
set_option maxRecDepth 20000 in
theorem ggX2_hasRule_X9_isWithin : GoodIn wsX2_hasRule wsX9_isWithin := goodIn_r _ [4] (by decide +kernel) (by decide +kernel)
set_option maxRecDepth 20000 in
theorem gX2_hasRule_X9_isWithin_n67 : GoodIn wsX2_hasRule (wsX9_isWithin) := ggX2_hasRule_X9_isWithin
theorem dX2_hasRule_0 : decode cX2_hasRule 0 = .ok (.iload_n 1, 1) := by decide +kernel
theorem dX2_hasRule_1 : decode cX2_hasRule 1 = .ok (.iconst 0, 1) := by decide +kernel
theorem dX2_hasRule_2 : decode cX2_hasRule 2 = .ok (.bipush 25, 2) := by decide +kernel
theorem dX2_hasRule_4 : decode cX2_hasRule 4 = .ok (.invokestatic 67, 3) := by decide +kernel
theorem dX2_hasRule_7 : decode cX2_hasRule 7 = .ok (.ifCond .eq 16, 3) := by decide +kernel
theorem dX2_hasRule_10 : decode cX2_hasRule 10 = .ok (.aload_n 0, 1) := by decide +kernel
theorem dX2_hasRule_11 : decode cX2_hasRule 11 = .ok (.getfield 15, 3) := by decide +kernel
theorem dX2_hasRule_14 : decode cX2_hasRule 14 = .ok (.iload_n 1, 1) := by decide +kernel
theorem dX2_hasRule_15 : decode cX2_hasRule 15 = .ok (.iaload, 1) := by decide +kernel
theorem dX2_hasRule_16 : decode cX2_hasRule 16 = .ok (.ifCond .le 7, 3) := by decide +kernel
theorem dX2_hasRule_19 : decode cX2_hasRule 19 = .ok (.iconst 1, 1) := by decide +kernel
theorem dX2_hasRule_20 : decode cX2_hasRule 20 = .ok (.goto 4, 3) := by decide +kernel
theorem dX2_hasRule_23 : decode cX2_hasRule 23 = .ok (.iconst 0, 1) := by decide +kernel
theorem dX2_hasRule_24 : decode cX2_hasRule 24 = .ok (.ireturn, 1) := by decide +kernel
set_option maxRecDepth 20000 in
theorem ggX2_canOpenRule_X9_isWithin : GoodIn wsX2_canOpenRule wsX9_isWithin := goodIn_r _ [4] (by decide +kernel) (by decide +kernel)
set_option maxRecDepth 20000 in
theorem gX2_canOpenRule_X9_isWithin_n67 : GoodIn wsX2_canOpenRule (wsX9_isWithin) := ggX2_canOpenRule_X9_isWithin
set_option maxRecDepth 20000 in
theorem ggX2_canOpenRule_X2_hasRule : GoodIn wsX2_canOpenRule wsX2_hasRule := goodIn_r _ [9, 10, 2, 3, 4, 11, 12, 13, 14, 15, 16, 17, 18, 19, 20, 21, 22, 23, 24, 25, 26] (by decide +kernel) (by decide +kernel)
set_option maxRecDepth 20000 in
theorem gX2_canOpenRule_X2_hasRule : GoodIn wsX2_canOpenRule (wsV RX2 71 RX2 yX2_hasRule wsX2_hasRule) := goodIn_app (goodIn_of _ (by decide +kernel)) ggX2_canOpenRule_X2_hasRule
theorem dX2_canOpenRule_0 : decode cX2_canOpenRule 0 = .ok (.iload_n 1, 1) := by decide +kernel
theorem dX2_canOpenRule_1 : decode cX2_canOpenRule 1 = .ok (.iconst 0, 1) := by decide +kernel
theorem dX2_canOpenRule_2 : decode cX2_canOpenRule 2 = .ok (.bipush 25, 2) := by decide +kernel
theorem dX2_canOpenRule_4 : decode cX2_canOpenRule 4 = .ok (.invokestatic 67, 3) := by decide +kernel
theorem dX2_canOpenRule_7 : decode cX2_canOpenRule 7 = .ok (.ifCond .eq 24, 3) := by decide +kernel
theorem dX2_canOpenRule_10 : decode cX2_canOpenRule 10 = .ok (.aload_n 0, 1) := by decide +kernel
theorem dX2_canOpenRule_11 : decode cX2_canOpenRule 11 = .ok (.iload_n 1, 1) := by decide +kernel
theorem dX2_canOpenRule_12 : decode cX2_canOpenRule 12 = .ok (.invokevirtual 71, 3) := by decide +kernel
theorem dX2_canOpenRule_15 : decode cX2_canOpenRule 15 = .ok (.ifCond .ne 16, 3) := by decide +kernel
theorem dX2_canOpenRule_18 : decode cX2_canOpenRule 18 = .ok (.aload_n 0, 1) := by decide +kernel
theorem dX2_canOpenRule_19 : decode cX2_canOpenRule 19 = .ok (.getfield 45, 3) := by decide +kernel
theorem dX2_canOpenRule_22 : decode cX2_canOpenRule 22 = .ok (.bipush 16, 2) := by decide +kernel
theorem dX2_canOpenRule_24 : decode cX2_canOpenRule 24 = .ok (.if_icmp .ge 7, 3) := by decide +kernel
theorem dX2_canOpenRule_27 : decode cX2_canOpenRule 27 = .ok (.iconst 1, 1) := by decide +kernel
theorem dX2_canOpenRule_28 : decode cX2_canOpenRule 28 = .ok (.goto 4, 3) := by decide +kernel
theorem dX2_canOpenRule_31 : decode cX2_canOpenRule 31 = .ok (.iconst 0, 1) := by decide +kernel
theorem dX2_canOpenRule_32 : decode cX2_canOpenRule 32 = .ok (.ireturn, 1) := by decide +kernel
theorem dX2_openRule_0 : decode cX2_openRule 0 = .ok (.aload_n 0, 1) := by decide +kernel
theorem dX2_openRule_1 : decode cX2_openRule 1 = .ok (.getfield 45, 3) := by decide +kernel
theorem dX2_openRule_4 : decode cX2_openRule 4 = .ok (.ifCond .ne 8, 3) := by decide +kernel
theorem dX2_openRule_7 : decode cX2_openRule 7 = .ok (.aload_n 0, 1) := by decide +kernel
theorem dX2_openRule_8 : decode cX2_openRule 8 = .ok (.iload_n 1, 1) := by decide +kernel
theorem dX2_openRule_9 : decode cX2_openRule 9 = .ok (.putfield 55, 3) := by decide +kernel
theorem dX2_openRule_12 : decode cX2_openRule 12 = .ok (.aload_n 0, 1) := by decide +kernel
theorem dX2_openRule_13 : decode cX2_openRule 13 = .ok (.iload_n 1, 1) := by decide +kernel
theorem dX2_openRule_14 : decode cX2_openRule 14 = .ok (.putfield 58, 3) := by decide +kernel
theorem dX2_openRule_17 : decode cX2_openRule 17 = .ok (.aload_n 0, 1) := by decide +kernel
theorem dX2_openRule_18 : decode cX2_openRule 18 = .ok (.getfield 9, 3) := by decide +kernel
theorem dX2_openRule_21 : decode cX2_openRule 21 = .ok (.iload_n 1, 1) := by decide +kernel
theorem dX2_openRule_22 : decode cX2_openRule 22 = .ok (.aload_n 0, 1) := by decide +kernel
theorem dX2_openRule_23 : decode cX2_openRule 23 = .ok (.getfield 49, 3) := by decide +kernel
theorem dX2_openRule_26 : decode cX2_openRule 26 = .ok (.iastore, 1) := by decide +kernel
theorem dX2_openRule_27 : decode cX2_openRule 27 = .ok (.aload_n 0, 1) := by decide +kernel
theorem dX2_openRule_28 : decode cX2_openRule 28 = .ok (.dup, 1) := by decide +kernel
theorem dX2_openRule_29 : decode cX2_openRule 29 = .ok (.getfield 45, 3) := by decide +kernel
theorem dX2_openRule_32 : decode cX2_openRule 32 = .ok (.iconst 1, 1) := by decide +kernel
theorem dX2_openRule_33 : decode cX2_openRule 33 = .ok (.iadd, 1) := by decide +kernel
theorem dX2_openRule_34 : decode cX2_openRule 34 = .ok (.putfield 45, 3) := by decide +kernel
theorem dX2_openRule_37 : decode cX2_openRule 37 = .ok (.return_, 1) := by decide +kernel
theorem dX2_canOpenAlternative_0 : decode cX2_canOpenAlternative 0 = .ok (.aload_n 0, 1) := by decide +kernel
theorem dX2_canOpenAlternative_1 : decode cX2_canOpenAlternative 1 = .ok (.getfield 49, 3) := by decide +kernel
theorem dX2_canOpenAlternative_4 : decode cX2_canOpenAlternative 4 = .ok (.bipush 48, 2) := by decide +kernel
theorem dX2_canOpenAlternative_6 : decode cX2_canOpenAlternative 6 = .ok (.if_icmp .ge 7, 3) := by decide +kernel
theorem dX2_canOpenAlternative_9 : decode cX2_canOpenAlternative 9 = .ok (.iconst 1, 1) := by decide +kernel
theorem dX2_canOpenAlternative_10 : decode cX2_canOpenAlternative 10 = .ok (.goto 4, 3) := by decide +kernel
theorem dX2_canOpenAlternative_13 : decode cX2_canOpenAlternative 13 = .ok (.iconst 0, 1) := by decide +kernel
theorem dX2_canOpenAlternative_14 : decode cX2_canOpenAlternative 14 = .ok (.ireturn, 1) := by decide +kernel
theorem dX2_openAlternative_0 : decode cX2_openAlternative 0 = .ok (.aload_n 0, 1) := by decide +kernel
theorem dX2_openAlternative_1 : decode cX2_openAlternative 1 = .ok (.getfield 24, 3) := by decide +kernel
theorem dX2_openAlternative_4 : decode cX2_openAlternative 4 = .ok (.aload_n 0, 1) := by decide +kernel
theorem dX2_openAlternative_5 : decode cX2_openAlternative 5 = .ok (.getfield 49, 3) := by decide +kernel
theorem dX2_openAlternative_8 : decode cX2_openAlternative 8 = .ok (.iload_n 1, 1) := by decide +kernel
theorem dX2_openAlternative_9 : decode cX2_openAlternative 9 = .ok (.iastore, 1) := by decide +kernel
theorem dX2_openAlternative_10 : decode cX2_openAlternative 10 = .ok (.aload_n 0, 1) := by decide +kernel
theorem dX2_openAlternative_11 : decode cX2_openAlternative 11 = .ok (.getfield 27, 3) := by decide +kernel
theorem dX2_openAlternative_14 : decode cX2_openAlternative 14 = .ok (.aload_n 0, 1) := by decide +kernel
theorem dX2_openAlternative_15 : decode cX2_openAlternative 15 = .ok (.getfield 49, 3) := by decide +kernel
theorem dX2_openAlternative_18 : decode cX2_openAlternative 18 = .ok (.aload_n 0, 1) := by decide +kernel
theorem dX2_openAlternative_19 : decode cX2_openAlternative 19 = .ok (.getfield 52, 3) := by decide +kernel
theorem dX2_openAlternative_22 : decode cX2_openAlternative 22 = .ok (.iastore, 1) := by decide +kernel
theorem dX2_openAlternative_23 : decode cX2_openAlternative 23 = .ok (.aload_n 0, 1) := by decide +kernel
theorem dX2_openAlternative_24 : decode cX2_openAlternative 24 = .ok (.getfield 30, 3) := by decide +kernel
theorem dX2_openAlternative_27 : decode cX2_openAlternative 27 = .ok (.aload_n 0, 1) := by decide +kernel
theorem dX2_openAlternative_28 : decode cX2_openAlternative 28 = .ok (.getfield 49, 3) := by decide +kernel
theorem dX2_openAlternative_31 : decode cX2_openAlternative 31 = .ok (.aload_n 0, 1) := by decide +kernel
theorem dX2_openAlternative_32 : decode cX2_openAlternative 32 = .ok (.getfield 52, 3) := by decide +kernel
theorem dX2_openAlternative_35 : decode cX2_openAlternative 35 = .ok (.iastore, 1) := by decide +kernel
theorem dX2_openAlternative_36 : decode cX2_openAlternative 36 = .ok (.aload_n 0, 1) := by decide +kernel
theorem dX2_openAlternative_37 : decode cX2_openAlternative 37 = .ok (.dup, 1) := by decide +kernel
theorem dX2_openAlternative_38 : decode cX2_openAlternative 38 = .ok (.getfield 49, 3) := by decide +kernel
theorem dX2_openAlternative_41 : decode cX2_openAlternative 41 = .ok (.iconst 1, 1) := by decide +kernel
theorem dX2_openAlternative_42 : decode cX2_openAlternative 42 = .ok (.iadd, 1) := by decide +kernel
theorem dX2_openAlternative_43 : decode cX2_openAlternative 43 = .ok (.putfield 49, 3) := by decide +kernel
theorem dX2_openAlternative_46 : decode cX2_openAlternative 46 = .ok (.aload_n 0, 1) := by decide +kernel
theorem dX2_openAlternative_47 : decode cX2_openAlternative 47 = .ok (.getfield 15, 3) := by decide +kernel
theorem dX2_openAlternative_50 : decode cX2_openAlternative 50 = .ok (.aload_n 0, 1) := by decide +kernel
theorem dX2_openAlternative_51 : decode cX2_openAlternative 51 = .ok (.getfield 58, 3) := by decide +kernel
theorem dX2_openAlternative_54 : decode cX2_openAlternative 54 = .ok (.dup2, 1) := by decide +kernel
theorem dX2_openAlternative_55 : decode cX2_openAlternative 55 = .ok (.iaload, 1) := by decide +kernel
theorem dX2_openAlternative_56 : decode cX2_openAlternative 56 = .ok (.iconst 1, 1) := by decide +kernel
theorem dX2_openAlternative_57 : decode cX2_openAlternative 57 = .ok (.iadd, 1) := by decide +kernel
theorem dX2_openAlternative_58 : decode cX2_openAlternative 58 = .ok (.iastore, 1) := by decide +kernel
theorem dX2_openAlternative_59 : decode cX2_openAlternative 59 = .ok (.aload_n 0, 1) := by decide +kernel
theorem dX2_openAlternative_60 : decode cX2_openAlternative 60 = .ok (.getfield 18, 3) := by decide +kernel
theorem dX2_openAlternative_63 : decode cX2_openAlternative 63 = .ok (.aload_n 0, 1) := by decide +kernel
theorem dX2_openAlternative_64 : decode cX2_openAlternative 64 = .ok (.getfield 58, 3) := by decide +kernel
theorem dX2_openAlternative_67 : decode cX2_openAlternative 67 = .ok (.dup2, 1) := by decide +kernel
theorem dX2_openAlternative_68 : decode cX2_openAlternative 68 = .ok (.iaload, 1) := by decide +kernel
theorem dX2_openAlternative_69 : decode cX2_openAlternative 69 = .ok (.iload_n 1, 1) := by decide +kernel
theorem dX2_openAlternative_70 : decode cX2_openAlternative 70 = .ok (.iadd, 1) := by decide +kernel
theorem dX2_openAlternative_71 : decode cX2_openAlternative 71 = .ok (.iastore, 1) := by decide +kernel
theorem dX2_openAlternative_72 : decode cX2_openAlternative 72 = .ok (.return_, 1) := by decide +kernel
theorem dX2_canAddSign_0 : decode cX2_canAddSign 0 = .ok (.aload_n 0, 1) := by decide +kernel
theorem dX2_canAddSign_1 : decode cX2_canAddSign 1 = .ok (.getfield 52, 3) := by decide +kernel
theorem dX2_canAddSign_4 : decode cX2_canAddSign 4 = .ok (.sipush 240, 3) := by decide +kernel
theorem dX2_canAddSign_7 : decode cX2_canAddSign 7 = .ok (.if_icmp .ge 35, 3) := by decide +kernel
theorem dX2_canAddSign_10 : decode cX2_canAddSign 10 = .ok (.aload_n 0, 1) := by decide +kernel
theorem dX2_canAddSign_11 : decode cX2_canAddSign 11 = .ok (.getfield 49, 3) := by decide +kernel
theorem dX2_canAddSign_14 : decode cX2_canAddSign 14 = .ok (.ifCond .le 28, 3) := by decide +kernel
theorem dX2_canAddSign_17 : decode cX2_canAddSign 17 = .ok (.aload_n 0, 1) := by decide +kernel
theorem dX2_canAddSign_18 : decode cX2_canAddSign 18 = .ok (.getfield 52, 3) := by decide +kernel
theorem dX2_canAddSign_21 : decode cX2_canAddSign 21 = .ok (.aload_n 0, 1) := by decide +kernel
theorem dX2_canAddSign_22 : decode cX2_canAddSign 22 = .ok (.getfield 27, 3) := by decide +kernel
theorem dX2_canAddSign_25 : decode cX2_canAddSign 25 = .ok (.aload_n 0, 1) := by decide +kernel
theorem dX2_canAddSign_26 : decode cX2_canAddSign 26 = .ok (.getfield 49, 3) := by decide +kernel
theorem dX2_canAddSign_29 : decode cX2_canAddSign 29 = .ok (.iconst 1, 1) := by decide +kernel
theorem dX2_canAddSign_30 : decode cX2_canAddSign 30 = .ok (.isub, 1) := by decide +kernel
theorem dX2_canAddSign_31 : decode cX2_canAddSign 31 = .ok (.iaload, 1) := by decide +kernel
theorem dX2_canAddSign_32 : decode cX2_canAddSign 32 = .ok (.isub, 1) := by decide +kernel
theorem dX2_canAddSign_33 : decode cX2_canAddSign 33 = .ok (.bipush 12, 2) := by decide +kernel
theorem dX2_canAddSign_35 : decode cX2_canAddSign 35 = .ok (.if_icmp .ge 7, 3) := by decide +kernel
theorem dX2_canAddSign_38 : decode cX2_canAddSign 38 = .ok (.iconst 1, 1) := by decide +kernel
theorem dX2_canAddSign_39 : decode cX2_canAddSign 39 = .ok (.goto 4, 3) := by decide +kernel
theorem dX2_canAddSign_42 : decode cX2_canAddSign 42 = .ok (.iconst 0, 1) := by decide +kernel
theorem dX2_canAddSign_43 : decode cX2_canAddSign 43 = .ok (.ireturn, 1) := by decide +kernel
set_option maxRecDepth 20000 in
theorem ggX2_addLetter_X2_addSign : GoodIn wsX2_addLetter wsX2_addSign := goodIn_r _ [6, 7, 8, 9, 10, 11, 12, 13, 14, 15, 16, 17, 18, 19, 20, 21, 22, 23, 24, 25, 26, 27, 28, 29] (by decide +kernel) (by decide +kernel)
set_option maxRecDepth 20000 in
theorem gX2_addLetter_X2_addSign : GoodIn wsX2_addLetter (wsV RX2 75 RX2 yX2_addSign wsX2_addSign) := goodIn_app (goodIn_of _ (by decide +kernel)) ggX2_addLetter_X2_addSign
theorem dX2_addLetter_0 : decode cX2_addLetter 0 = .ok (.aload_n 0, 1) := by decide +kernel
theorem dX2_addLetter_1 : decode cX2_addLetter 1 = .ok (.getfield 21, 3) := by decide +kernel
theorem dX2_addLetter_4 : decode cX2_addLetter 4 = .ok (.iload_n 1, 1) := by decide +kernel
theorem dX2_addLetter_5 : decode cX2_addLetter 5 = .ok (.iaload, 1) := by decide +kernel
theorem dX2_addLetter_6 : decode cX2_addLetter 6 = .ok (.iconst (-1), 1) := by decide +kernel
theorem dX2_addLetter_7 : decode cX2_addLetter 7 = .ok (.if_icmp .ne 10, 3) := by decide +kernel
theorem dX2_addLetter_10 : decode cX2_addLetter 10 = .ok (.aload_n 0, 1) := by decide +kernel
theorem dX2_addLetter_11 : decode cX2_addLetter 11 = .ok (.getfield 21, 3) := by decide +kernel
theorem dX2_addLetter_14 : decode cX2_addLetter 14 = .ok (.iload_n 1, 1) := by decide +kernel
theorem dX2_addLetter_15 : decode cX2_addLetter 15 = .ok (.iload_n 2, 1) := by decide +kernel
theorem dX2_addLetter_16 : decode cX2_addLetter 16 = .ok (.iastore, 1) := by decide +kernel
theorem dX2_addLetter_17 : decode cX2_addLetter 17 = .ok (.aload_n 0, 1) := by decide +kernel
theorem dX2_addLetter_18 : decode cX2_addLetter 18 = .ok (.iload_n 1, 1) := by decide +kernel
theorem dX2_addLetter_19 : decode cX2_addLetter 19 = .ok (.iconst (-1), 1) := by decide +kernel
theorem dX2_addLetter_20 : decode cX2_addLetter 20 = .ok (.iconst 0, 1) := by decide +kernel
theorem dX2_addLetter_21 : decode cX2_addLetter 21 = .ok (.iconst 0, 1) := by decide +kernel
theorem dX2_addLetter_22 : decode cX2_addLetter 22 = .ok (.invokevirtual 75, 3) := by decide +kernel
theorem dX2_addLetter_25 : decode cX2_addLetter 25 = .ok (.return_, 1) := by decide +kernel
set_option maxRecDepth 20000 in
theorem ggX2_addSound_X2_addSign : GoodIn wsX2_addSound wsX2_addSign := goodIn_r _ [5, 6, 7, 8, 9, 10, 11, 12, 13, 14, 15, 16, 17, 18, 19, 20, 21, 22, 23, 24, 25, 26, 27, 28] (by decide +kernel) (by decide +kernel)
set_option maxRecDepth 20000 in
theorem gX2_addSound_X2_addSign : GoodIn wsX2_addSound (wsV RX2 75 RX2 yX2_addSign wsX2_addSign) := goodIn_app (goodIn_of _ (by decide +kernel)) ggX2_addSound_X2_addSign
theorem dX2_addSound_0 : decode cX2_addSound 0 = .ok (.aload_n 0, 1) := by decide +kernel
theorem dX2_addSound_1 : decode cX2_addSound 1 = .ok (.iconst (-1), 1) := by decide +kernel
theorem dX2_addSound_2 : decode cX2_addSound 2 = .ok (.iload_n 1, 1) := by decide +kernel
theorem dX2_addSound_3 : decode cX2_addSound 3 = .ok (.iload_n 2, 1) := by decide +kernel
theorem dX2_addSound_4 : decode cX2_addSound 4 = .ok (.iload_n 3, 1) := by decide +kernel
theorem dX2_addSound_5 : decode cX2_addSound 5 = .ok (.invokevirtual 75, 3) := by decide +kernel
theorem dX2_addSound_8 : decode cX2_addSound 8 = .ok (.return_, 1) := by decide +kernel
theorem dX2_addSign_0 : decode cX2_addSign 0 = .ok (.aload_n 0, 1) := by decide +kernel
theorem dX2_addSign_1 : decode cX2_addSign 1 = .ok (.getfield 33, 3) := by decide +kernel
theorem dX2_addSign_4 : decode cX2_addSign 4 = .ok (.aload_n 0, 1) := by decide +kernel
theorem dX2_addSign_5 : decode cX2_addSign 5 = .ok (.getfield 52, 3) := by decide +kernel
theorem dX2_addSign_8 : decode cX2_addSign 8 = .ok (.iload_n 1, 1) := by decide +kernel
theorem dX2_addSign_9 : decode cX2_addSign 9 = .ok (.iastore, 1) := by decide +kernel
theorem dX2_addSign_10 : decode cX2_addSign 10 = .ok (.aload_n 0, 1) := by decide +kernel
theorem dX2_addSign_11 : decode cX2_addSign 11 = .ok (.getfield 36, 3) := by decide +kernel
theorem dX2_addSign_14 : decode cX2_addSign 14 = .ok (.aload_n 0, 1) := by decide +kernel
theorem dX2_addSign_15 : decode cX2_addSign 15 = .ok (.getfield 52, 3) := by decide +kernel
theorem dX2_addSign_18 : decode cX2_addSign 18 = .ok (.iload_n 2, 1) := by decide +kernel
theorem dX2_addSign_19 : decode cX2_addSign 19 = .ok (.iastore, 1) := by decide +kernel
theorem dX2_addSign_20 : decode cX2_addSign 20 = .ok (.aload_n 0, 1) := by decide +kernel
theorem dX2_addSign_21 : decode cX2_addSign 21 = .ok (.getfield 39, 3) := by decide +kernel
theorem dX2_addSign_24 : decode cX2_addSign 24 = .ok (.aload_n 0, 1) := by decide +kernel
theorem dX2_addSign_25 : decode cX2_addSign 25 = .ok (.getfield 52, 3) := by decide +kernel
theorem dX2_addSign_28 : decode cX2_addSign 28 = .ok (.iload_n 3, 1) := by decide +kernel
theorem dX2_addSign_29 : decode cX2_addSign 29 = .ok (.iastore, 1) := by decide +kernel
theorem dX2_addSign_30 : decode cX2_addSign 30 = .ok (.aload_n 0, 1) := by decide +kernel
theorem dX2_addSign_31 : decode cX2_addSign 31 = .ok (.getfield 42, 3) := by decide +kernel
theorem dX2_addSign_34 : decode cX2_addSign 34 = .ok (.aload_n 0, 1) := by decide +kernel
theorem dX2_addSign_35 : decode cX2_addSign 35 = .ok (.getfield 52, 3) := by decide +kernel
theorem dX2_addSign_38 : decode cX2_addSign 38 = .ok (.iload 4, 2) := by decide +kernel
theorem dX2_addSign_40 : decode cX2_addSign 40 = .ok (.iastore, 1) := by decide +kernel
theorem dX2_addSign_41 : decode cX2_addSign 41 = .ok (.aload_n 0, 1) := by decide +kernel
theorem dX2_addSign_42 : decode cX2_addSign 42 = .ok (.dup, 1) := by decide +kernel
theorem dX2_addSign_43 : decode cX2_addSign 43 = .ok (.getfield 52, 3) := by decide +kernel
theorem dX2_addSign_46 : decode cX2_addSign 46 = .ok (.iconst 1, 1) := by decide +kernel
theorem dX2_addSign_47 : decode cX2_addSign 47 = .ok (.iadd, 1) := by decide +kernel
theorem dX2_addSign_48 : decode cX2_addSign 48 = .ok (.putfield 52, 3) := by decide +kernel
theorem dX2_addSign_51 : decode cX2_addSign 51 = .ok (.aload_n 0, 1) := by decide +kernel
theorem dX2_addSign_52 : decode cX2_addSign 52 = .ok (.getfield 30, 3) := by decide +kernel
theorem dX2_addSign_55 : decode cX2_addSign 55 = .ok (.aload_n 0, 1) := by decide +kernel
theorem dX2_addSign_56 : decode cX2_addSign 56 = .ok (.getfield 49, 3) := by decide +kernel
theorem dX2_addSign_59 : decode cX2_addSign 59 = .ok (.iconst 1, 1) := by decide +kernel
theorem dX2_addSign_60 : decode cX2_addSign 60 = .ok (.isub, 1) := by decide +kernel
theorem dX2_addSign_61 : decode cX2_addSign 61 = .ok (.aload_n 0, 1) := by decide +kernel
theorem dX2_addSign_62 : decode cX2_addSign 62 = .ok (.getfield 52, 3) := by decide +kernel
theorem dX2_addSign_65 : decode cX2_addSign 65 = .ok (.iastore, 1) := by decide +kernel
theorem dX2_addSign_66 : decode cX2_addSign 66 = .ok (.return_, 1) := by decide +kernel
set_option maxRecDepth 20000 in
theorem ggX2_firstUseWithoutRule_X2_hasRule : GoodIn wsX2_firstUseWithoutRule wsX2_hasRule := goodIn_r _ [6, 7, 8, 9, 10, 11, 12, 13, 14, 15, 16, 17, 18, 19, 20, 21, 22, 23, 24, 25, 26] (by decide +kernel) (by decide +kernel)
set_option maxRecDepth 20000 in
theorem gX2_firstUseWithoutRule_X2_hasRule : GoodIn wsX2_firstUseWithoutRule (wsV RX2 71 RX2 yX2_hasRule wsX2_hasRule) := goodIn_app (goodIn_of _ (by decide +kernel)) ggX2_firstUseWithoutRule_X2_hasRule
theorem dX2_firstUseWithoutRule_0 : decode cX2_firstUseWithoutRule 0 = .ok (.iconst (-1), 1) := by decide +kernel
theorem dX2_firstUseWithoutRule_1 : decode cX2_firstUseWithoutRule 1 = .ok (.istore_n 1, 1) := by decide +kernel
theorem dX2_firstUseWithoutRule_2 : decode cX2_firstUseWithoutRule 2 = .ok (.iconst 0, 1) := by decide +kernel
theorem dX2_firstUseWithoutRule_3 : decode cX2_firstUseWithoutRule 3 = .ok (.istore_n 2, 1) := by decide +kernel
theorem dX2_firstUseWithoutRule_4 : decode cX2_firstUseWithoutRule 4 = .ok (.iload_n 2, 1) := by decide +kernel
theorem dX2_firstUseWithoutRule_5 : decode cX2_firstUseWithoutRule 5 = .ok (.bipush 26, 2) := by decide +kernel
theorem dX2_firstUseWithoutRule_7 : decode cX2_firstUseWithoutRule 7 = .ok (.if_icmp .ge 41, 3) := by decide +kernel
theorem dX2_firstUseWithoutRule_10 : decode cX2_firstUseWithoutRule 10 = .ok (.aload_n 0, 1) := by decide +kernel
theorem dX2_firstUseWithoutRule_11 : decode cX2_firstUseWithoutRule 11 = .ok (.getfield 21, 3) := by decide +kernel
theorem dX2_firstUseWithoutRule_14 : decode cX2_firstUseWithoutRule 14 = .ok (.iload_n 2, 1) := by decide +kernel
theorem dX2_firstUseWithoutRule_15 : decode cX2_firstUseWithoutRule 15 = .ok (.iaload, 1) := by decide +kernel
theorem dX2_firstUseWithoutRule_16 : decode cX2_firstUseWithoutRule 16 = .ok (.istore_n 3, 1) := by decide +kernel
theorem dX2_firstUseWithoutRule_17 : decode cX2_firstUseWithoutRule 17 = .ok (.iload_n 3, 1) := by decide +kernel
theorem dX2_firstUseWithoutRule_18 : decode cX2_firstUseWithoutRule 18 = .ok (.iconst (-1), 1) := by decide +kernel
theorem dX2_firstUseWithoutRule_19 : decode cX2_firstUseWithoutRule 19 = .ok (.if_icmp .eq 23, 3) := by decide +kernel
theorem dX2_firstUseWithoutRule_22 : decode cX2_firstUseWithoutRule 22 = .ok (.aload_n 0, 1) := by decide +kernel
theorem dX2_firstUseWithoutRule_23 : decode cX2_firstUseWithoutRule 23 = .ok (.iload_n 2, 1) := by decide +kernel
theorem dX2_firstUseWithoutRule_24 : decode cX2_firstUseWithoutRule 24 = .ok (.invokevirtual 71, 3) := by decide +kernel
theorem dX2_firstUseWithoutRule_27 : decode cX2_firstUseWithoutRule 27 = .ok (.ifCond .ne 15, 3) := by decide +kernel
theorem dX2_firstUseWithoutRule_30 : decode cX2_firstUseWithoutRule 30 = .ok (.iload_n 1, 1) := by decide +kernel
theorem dX2_firstUseWithoutRule_31 : decode cX2_firstUseWithoutRule 31 = .ok (.iconst (-1), 1) := by decide +kernel
theorem dX2_firstUseWithoutRule_32 : decode cX2_firstUseWithoutRule 32 = .ok (.if_icmp .eq 8, 3) := by decide +kernel
theorem dX2_firstUseWithoutRule_35 : decode cX2_firstUseWithoutRule 35 = .ok (.iload_n 3, 1) := by decide +kernel
theorem dX2_firstUseWithoutRule_36 : decode cX2_firstUseWithoutRule 36 = .ok (.iload_n 1, 1) := by decide +kernel
theorem dX2_firstUseWithoutRule_37 : decode cX2_firstUseWithoutRule 37 = .ok (.if_icmp .ge 5, 3) := by decide +kernel
theorem dX2_firstUseWithoutRule_40 : decode cX2_firstUseWithoutRule 40 = .ok (.iload_n 3, 1) := by decide +kernel
theorem dX2_firstUseWithoutRule_41 : decode cX2_firstUseWithoutRule 41 = .ok (.istore_n 1, 1) := by decide +kernel
theorem dX2_firstUseWithoutRule_42 : decode cX2_firstUseWithoutRule 42 = .ok (.iinc 2 1, 3) := by decide +kernel
theorem dX2_firstUseWithoutRule_45 : decode cX2_firstUseWithoutRule 45 = .ok (.goto (-41), 3) := by decide +kernel
theorem dX2_firstUseWithoutRule_48 : decode cX2_firstUseWithoutRule 48 = .ok (.iload_n 1, 1) := by decide +kernel
theorem dX2_firstUseWithoutRule_49 : decode cX2_firstUseWithoutRule 49 = .ok (.ireturn, 1) := by decide +kernel
theorem dX3_init_0 : decode cX3_init 0 = .ok (.aload_n 0, 1) := by decide +kernel
theorem dX3_init_1 : decode cX3_init 1 = .ok (.invokespecial 3, 3) := by decide +kernel
theorem dX3_init_4 : decode cX3_init 4 = .ok (.aload_n 0, 1) := by decide +kernel
theorem dX3_init_5 : decode cX3_init 5 = .ok (.iconst 0, 1) := by decide +kernel
theorem dX3_init_6 : decode cX3_init 6 = .ok (.putfield 9, 3) := by decide +kernel
theorem dX3_init_9 : decode cX3_init 9 = .ok (.aload_n 0, 1) := by decide +kernel
theorem dX3_init_10 : decode cX3_init 10 = .ok (.iconst 0, 1) := by decide +kernel
theorem dX3_init_11 : decode cX3_init 11 = .ok (.putfield 15, 3) := by decide +kernel
theorem dX3_init_14 : decode cX3_init 14 = .ok (.aload_n 0, 1) := by decide +kernel
theorem dX3_init_15 : decode cX3_init 15 = .ok (.iconst 0, 1) := by decide +kernel
theorem dX3_init_16 : decode cX3_init 16 = .ok (.putfield 18, 3) := by decide +kernel
theorem dX3_init_19 : decode cX3_init 19 = .ok (.aload_n 0, 1) := by decide +kernel
theorem dX3_init_20 : decode cX3_init 20 = .ok (.iconst 0, 1) := by decide +kernel
theorem dX3_init_21 : decode cX3_init 21 = .ok (.putfield 21, 3) := by decide +kernel
theorem dX3_init_24 : decode cX3_init 24 = .ok (.aload_n 0, 1) := by decide +kernel
theorem dX3_init_25 : decode cX3_init 25 = .ok (.iconst 0, 1) := by decide +kernel
theorem dX3_init_26 : decode cX3_init 26 = .ok (.putfield 24, 3) := by decide +kernel
theorem dX3_init_29 : decode cX3_init 29 = .ok (.aload_n 0, 1) := by decide +kernel
theorem dX3_init_30 : decode cX3_init 30 = .ok (.iconst (-1), 1) := by decide +kernel
theorem dX3_init_31 : decode cX3_init 31 = .ok (.putfield 27, 3) := by decide +kernel
theorem dX3_init_34 : decode cX3_init 34 = .ok (.aload_n 0, 1) := by decide +kernel
theorem dX3_init_35 : decode cX3_init 35 = .ok (.aload_n 1, 1) := by decide +kernel
theorem dX3_init_36 : decode cX3_init 36 = .ok (.putfield 30, 3) := by decide +kernel
theorem dX3_init_39 : decode cX3_init 39 = .ok (.aload_n 0, 1) := by decide +kernel
theorem dX3_init_40 : decode cX3_init 40 = .ok (.aload_n 2, 1) := by decide +kernel
theorem dX3_init_41 : decode cX3_init 41 = .ok (.putfield 34, 3) := by decide +kernel
theorem dX3_init_44 : decode cX3_init 44 = .ok (.aload_n 0, 1) := by decide +kernel
theorem dX3_init_45 : decode cX3_init 45 = .ok (.aload_n 3, 1) := by decide +kernel
theorem dX3_init_46 : decode cX3_init 46 = .ok (.putfield 38, 3) := by decide +kernel
theorem dX3_init_49 : decode cX3_init 49 = .ok (.aload_n 0, 1) := by decide +kernel
theorem dX3_init_50 : decode cX3_init 50 = .ok (.aload 4, 2) := by decide +kernel
theorem dX3_init_52 : decode cX3_init 52 = .ok (.putfield 42, 3) := by decide +kernel
theorem dX3_init_55 : decode cX3_init 55 = .ok (.aload_n 0, 1) := by decide +kernel
theorem dX3_init_56 : decode cX3_init 56 = .ok (.aload 5, 2) := by decide +kernel
theorem dX3_init_58 : decode cX3_init 58 = .ok (.putfield 46, 3) := by decide +kernel
theorem dX3_init_61 : decode cX3_init 61 = .ok (.aload_n 0, 1) := by decide +kernel
theorem dX3_init_62 : decode cX3_init 62 = .ok (.iload 6, 2) := by decide +kernel
theorem dX3_init_64 : decode cX3_init 64 = .ok (.putfield 50, 3) := by decide +kernel
theorem dX3_init_67 : decode cX3_init 67 = .ok (.return_, 1) := by decide +kernel
set_option maxRecDepth 20000 in
theorem ggX3_unfold_X8_shorten : GoodIn wsX3_unfold wsX8_shorten := goodIn_r _ [12, 13, 14, 15, 16, 149, 150, 151, 152, 153, 154, 155] (by decide +kernel) (by decide +kernel)
set_option maxRecDepth 20000 in
theorem gX3_unfold_X8_shorten : GoodIn wsX3_unfold (wsV RX3 53 RX8 yX8_shorten wsX8_shorten) := goodIn_app (goodIn_of _ (by decide +kernel)) ggX3_unfold_X8_shorten
set_option maxRecDepth 20000 in
theorem ggX3_unfold_X3_openPlace : GoodIn wsX3_unfold wsX3_openPlace := goodIn_r _ [21, 3, 2, 4, 1, 7, 22, 23, 24, 25, 26, 27, 28, 29, 30, 14, 15, 16, 113, 114, 115, 116, 117, 118, 119, 120, 121, 122, 123, 124, 141, 142, 143, 144, 145, 146, 147, 148, 125, 126, 127, 128, 129, 130, 131, 132, 133, 134, 135, 136, 137, 138, 139, 140, 149, 150, 151, 152, 153, 154, 155] (by decide +kernel) (by decide +kernel)
set_option maxRecDepth 20000 in
theorem gX3_unfold_X3_openPlace : GoodIn wsX3_unfold (wsV RX3 64 RX3 yX3_openPlace wsX3_openPlace) := goodIn_app (goodIn_of _ (by decide +kernel)) ggX3_unfold_X3_openPlace
set_option maxRecDepth 20000 in
theorem ggX3_unfold_X3_takeAnother : GoodIn wsX3_unfold wsX3_takeAnother := goodIn_r _ [34, 5, 1, 4, 2, 22, 23, 24, 7, 35, 36, 37, 20, 38, 39, 40, 41, 42, 43, 44, 45, 46, 47, 48, 49, 50, 51, 52, 53, 54, 8, 9, 10, 11, 12, 13, 14, 15, 16, 113, 114, 115, 116, 117, 118, 119, 120, 121, 122, 123, 124, 141, 142, 143, 144, 145, 146, 147, 148, 125, 126, 127, 128, 129, 130, 131, 132, 133, 134, 135, 136, 137, 138, 139, 140, 156, 149, 150, 151, 152, 153, 154, 155] (by decide +kernel) (by decide +kernel)
set_option maxRecDepth 20000 in
theorem gX3_unfold_X3_takeAnother : GoodIn wsX3_unfold (wsV RX3 72 RX3 yX3_takeAnother wsX3_takeAnother) := goodIn_app (goodIn_of _ (by decide +kernel)) ggX3_unfold_X3_takeAnother
set_option maxRecDepth 20000 in
theorem ggX3_unfold_X3_goToLetter : GoodIn wsX3_unfold wsX3_goToLetter := goodIn_r _ [58, 22, 23, 2, 59, 60, 61, 20, 62, 7, 24, 4, 63, 64, 65, 66, 1, 67, 6, 68, 69, 11, 70, 71, 14, 15, 16, 72, 73, 74, 75, 13, 76, 77, 78, 79, 80, 81, 82, 83, 84, 85, 86, 87, 88, 89, 90, 91, 92, 93, 94, 95, 96, 97, 98, 99, 100, 101, 102, 103, 104, 105, 106, 107, 108, 109, 110, 111, 112, 113, 114, 115, 116, 117, 118, 119, 120, 121, 122, 123, 124, 125, 126, 127, 128, 129, 130, 131, 132, 133, 134, 135, 136, 137, 138, 139, 140, 141, 142, 143, 144, 145, 146, 147, 148, 149, 150, 151, 152, 153, 154, 155] (by decide +kernel) (by decide +kernel)
set_option maxRecDepth 20000 in
theorem gX3_unfold_X3_goToLetter : GoodIn wsX3_unfold (wsV RX3 75 RX3 yX3_goToLetter wsX3_goToLetter) := goodIn_app (goodIn_of _ (by decide +kernel)) ggX3_unfold_X3_goToLetter
theorem dX3_unfold_0 : decode cX3_unfold 0 = .ok (.aload_n 0, 1) := by decide +kernel
theorem dX3_unfold_1 : decode cX3_unfold 1 = .ok (.getfield 38, 3) := by decide +kernel
theorem dX3_unfold_4 : decode cX3_unfold 4 = .ok (.iconst 0, 1) := by decide +kernel
theorem dX3_unfold_5 : decode cX3_unfold 5 = .ok (.invokevirtual 53, 3) := by decide +kernel
theorem dX3_unfold_8 : decode cX3_unfold 8 = .ok (.aload_n 0, 1) := by decide +kernel
theorem dX3_unfold_9 : decode cX3_unfold 9 = .ok (.aload_n 0, 1) := by decide +kernel
theorem dX3_unfold_10 : decode cX3_unfold 10 = .ok (.getfield 30, 3) := by decide +kernel
theorem dX3_unfold_13 : decode cX3_unfold 13 = .ok (.getfield 59, 3) := by decide +kernel
theorem dX3_unfold_16 : decode cX3_unfold 16 = .ok (.invokevirtual 64, 3) := by decide +kernel
theorem dX3_unfold_19 : decode cX3_unfold 19 = .ok (.iconst 0, 1) := by decide +kernel
theorem dX3_unfold_20 : decode cX3_unfold 20 = .ok (.istore_n 1, 1) := by decide +kernel
theorem dX3_unfold_21 : decode cX3_unfold 21 = .ok (.iload_n 1, 1) := by decide +kernel
theorem dX3_unfold_22 : decode cX3_unfold 22 = .ok (.sipush 6002, 3) := by decide +kernel
theorem dX3_unfold_25 : decode cX3_unfold 25 = .ok (.if_icmp .ge 118, 3) := by decide +kernel
theorem dX3_unfold_28 : decode cX3_unfold 28 = .ok (.aload_n 0, 1) := by decide +kernel
theorem dX3_unfold_29 : decode cX3_unfold 29 = .ok (.getfield 15, 3) := by decide +kernel
theorem dX3_unfold_32 : decode cX3_unfold 32 = .ok (.ifCond .le 111, 3) := by decide +kernel
theorem dX3_unfold_35 : decode cX3_unfold 35 = .ok (.aload_n 0, 1) := by decide +kernel
theorem dX3_unfold_36 : decode cX3_unfold 36 = .ok (.getfield 42, 3) := by decide +kernel
theorem dX3_unfold_39 : decode cX3_unfold 39 = .ok (.getfield 67, 3) := by decide +kernel
theorem dX3_unfold_42 : decode cX3_unfold 42 = .ok (.aload_n 0, 1) := by decide +kernel
theorem dX3_unfold_43 : decode cX3_unfold 43 = .ok (.getfield 15, 3) := by decide +kernel
theorem dX3_unfold_46 : decode cX3_unfold 46 = .ok (.iconst 1, 1) := by decide +kernel
theorem dX3_unfold_47 : decode cX3_unfold 47 = .ok (.isub, 1) := by decide +kernel
theorem dX3_unfold_48 : decode cX3_unfold 48 = .ok (.iaload, 1) := by decide +kernel
theorem dX3_unfold_49 : decode cX3_unfold 49 = .ok (.ifCond .ne 16, 3) := by decide +kernel
theorem dX3_unfold_52 : decode cX3_unfold 52 = .ok (.aload_n 0, 1) := by decide +kernel
theorem dX3_unfold_53 : decode cX3_unfold 53 = .ok (.dup, 1) := by decide +kernel
theorem dX3_unfold_54 : decode cX3_unfold 54 = .ok (.getfield 15, 3) := by decide +kernel
theorem dX3_unfold_57 : decode cX3_unfold 57 = .ok (.iconst 1, 1) := by decide +kernel
theorem dX3_unfold_58 : decode cX3_unfold 58 = .ok (.isub, 1) := by decide +kernel
theorem dX3_unfold_59 : decode cX3_unfold 59 = .ok (.putfield 15, 3) := by decide +kernel
theorem dX3_unfold_62 : decode cX3_unfold 62 = .ok (.goto 75, 3) := by decide +kernel
theorem dX3_unfold_65 : decode cX3_unfold 65 = .ok (.aload_n 0, 1) := by decide +kernel
theorem dX3_unfold_66 : decode cX3_unfold 66 = .ok (.getfield 9, 3) := by decide +kernel
theorem dX3_unfold_69 : decode cX3_unfold 69 = .ok (.aload_n 0, 1) := by decide +kernel
theorem dX3_unfold_70 : decode cX3_unfold 70 = .ok (.getfield 34, 3) := by decide +kernel
theorem dX3_unfold_73 : decode cX3_unfold 73 = .ok (.bipush 6, 2) := by decide +kernel
theorem dX3_unfold_75 : decode cX3_unfold 75 = .ok (.iaload, 1) := by decide +kernel
theorem dX3_unfold_76 : decode cX3_unfold 76 = .ok (.if_icmp .lt 6, 3) := by decide +kernel
theorem dX3_unfold_79 : decode cX3_unfold 79 = .ok (.bipush (-5), 2) := by decide +kernel
theorem dX3_unfold_81 : decode cX3_unfold 81 = .ok (.ireturn, 1) := by decide +kernel
theorem dX3_unfold_82 : decode cX3_unfold 82 = .ok (.aload_n 0, 1) := by decide +kernel
theorem dX3_unfold_83 : decode cX3_unfold 83 = .ok (.aload_n 0, 1) := by decide +kernel
theorem dX3_unfold_84 : decode cX3_unfold 84 = .ok (.getfield 15, 3) := by decide +kernel
theorem dX3_unfold_87 : decode cX3_unfold 87 = .ok (.iconst 1, 1) := by decide +kernel
theorem dX3_unfold_88 : decode cX3_unfold 88 = .ok (.isub, 1) := by decide +kernel
theorem dX3_unfold_89 : decode cX3_unfold 89 = .ok (.invokevirtual 72, 3) := by decide +kernel
theorem dX3_unfold_92 : decode cX3_unfold 92 = .ok (.aload_n 0, 1) := by decide +kernel
theorem dX3_unfold_93 : decode cX3_unfold 93 = .ok (.getfield 18, 3) := by decide +kernel
theorem dX3_unfold_96 : decode cX3_unfold 96 = .ok (.sipush 200, 3) := by decide +kernel
theorem dX3_unfold_99 : decode cX3_unfold 99 = .ok (.if_icmp .le 8, 3) := by decide +kernel
theorem dX3_unfold_102 : decode cX3_unfold 102 = .ok (.bipush (-12), 2) := by decide +kernel
theorem dX3_unfold_104 : decode cX3_unfold 104 = .ok (.goto 7, 3) := by decide +kernel
theorem dX3_unfold_107 : decode cX3_unfold 107 = .ok (.aload_n 0, 1) := by decide +kernel
theorem dX3_unfold_108 : decode cX3_unfold 108 = .ok (.invokevirtual 75, 3) := by decide +kernel
theorem dX3_unfold_111 : decode cX3_unfold 111 = .ok (.istore_n 2, 1) := by decide +kernel
theorem dX3_unfold_112 : decode cX3_unfold 112 = .ok (.iload_n 2, 1) := by decide +kernel
theorem dX3_unfold_113 : decode cX3_unfold 113 = .ok (.bipush (-11), 2) := by decide +kernel
theorem dX3_unfold_115 : decode cX3_unfold 115 = .ok (.if_icmp .ne 11, 3) := by decide +kernel
theorem dX3_unfold_118 : decode cX3_unfold 118 = .ok (.aload_n 0, 1) := by decide +kernel
theorem dX3_unfold_119 : decode cX3_unfold 119 = .ok (.getfield 38, 3) := by decide +kernel
theorem dX3_unfold_122 : decode cX3_unfold 122 = .ok (.getfield 79, 3) := by decide +kernel
theorem dX3_unfold_125 : decode cX3_unfold 125 = .ok (.ireturn, 1) := by decide +kernel
theorem dX3_unfold_126 : decode cX3_unfold 126 = .ok (.iload_n 2, 1) := by decide +kernel
theorem dX3_unfold_127 : decode cX3_unfold 127 = .ok (.bipush (-12), 2) := by decide +kernel
theorem dX3_unfold_129 : decode cX3_unfold 129 = .ok (.if_icmp .eq 8, 3) := by decide +kernel
theorem dX3_unfold_132 : decode cX3_unfold 132 = .ok (.aload_n 0, 1) := by decide +kernel
theorem dX3_unfold_133 : decode cX3_unfold 133 = .ok (.iload_n 2, 1) := by decide +kernel
theorem dX3_unfold_134 : decode cX3_unfold 134 = .ok (.invokevirtual 64, 3) := by decide +kernel
theorem dX3_unfold_137 : decode cX3_unfold 137 = .ok (.iinc 1 1, 3) := by decide +kernel
theorem dX3_unfold_140 : decode cX3_unfold 140 = .ok (.goto (-119), 3) := by decide +kernel
theorem dX3_unfold_143 : decode cX3_unfold 143 = .ok (.aload_n 0, 1) := by decide +kernel
theorem dX3_unfold_144 : decode cX3_unfold 144 = .ok (.getfield 15, 3) := by decide +kernel
theorem dX3_unfold_147 : decode cX3_unfold 147 = .ok (.ifCond .ne 7, 3) := by decide +kernel
theorem dX3_unfold_150 : decode cX3_unfold 150 = .ok (.iconst (-1), 1) := by decide +kernel
theorem dX3_unfold_151 : decode cX3_unfold 151 = .ok (.goto 5, 3) := by decide +kernel
theorem dX3_unfold_154 : decode cX3_unfold 154 = .ok (.bipush (-5), 2) := by decide +kernel
theorem dX3_unfold_156 : decode cX3_unfold 156 = .ok (.ireturn, 1) := by decide +kernel
set_option maxRecDepth 20000 in
theorem ggX3_openPlace_X2_hasRule : GoodIn wsX3_openPlace wsX2_hasRule := goodIn_r _ [13, 14, 15, 16, 17, 38, 39, 40, 41, 42, 43, 44, 45, 46, 47, 48, 49, 50, 51, 52, 53] (by decide +kernel) (by decide +kernel)
set_option maxRecDepth 20000 in
theorem gX3_openPlace_X2_hasRule : GoodIn wsX3_openPlace (wsV RX3 82 RX2 yX2_hasRule wsX2_hasRule) := goodIn_app (goodIn_of _ (by decide +kernel)) ggX3_openPlace_X2_hasRule
theorem dX3_openPlace_0 : decode cX3_openPlace 0 = .ok (.aload_n 0, 1) := by decide +kernel
theorem dX3_openPlace_1 : decode cX3_openPlace 1 = .ok (.getfield 15, 3) := by decide +kernel
theorem dX3_openPlace_4 : decode cX3_openPlace 4 = .ok (.sipush 3001, 3) := by decide +kernel
theorem dX3_openPlace_7 : decode cX3_openPlace 7 = .ok (.if_icmp .ge 14, 3) := by decide +kernel
theorem dX3_openPlace_10 : decode cX3_openPlace 10 = .ok (.aload_n 0, 1) := by decide +kernel
theorem dX3_openPlace_11 : decode cX3_openPlace 11 = .ok (.getfield 30, 3) := by decide +kernel
theorem dX3_openPlace_14 : decode cX3_openPlace 14 = .ok (.iload_n 1, 1) := by decide +kernel
theorem dX3_openPlace_15 : decode cX3_openPlace 15 = .ok (.invokevirtual 82, 3) := by decide +kernel
theorem dX3_openPlace_18 : decode cX3_openPlace 18 = .ok (.ifCond .ne 4, 3) := by decide +kernel
theorem dX3_openPlace_21 : decode cX3_openPlace 21 = .ok (.return_, 1) := by decide +kernel
theorem dX3_openPlace_22 : decode cX3_openPlace 22 = .ok (.aload_n 0, 1) := by decide +kernel
theorem dX3_openPlace_23 : decode cX3_openPlace 23 = .ok (.getfield 42, 3) := by decide +kernel
theorem dX3_openPlace_26 : decode cX3_openPlace 26 = .ok (.getfield 86, 3) := by decide +kernel
theorem dX3_openPlace_29 : decode cX3_openPlace 29 = .ok (.aload_n 0, 1) := by decide +kernel
theorem dX3_openPlace_30 : decode cX3_openPlace 30 = .ok (.getfield 15, 3) := by decide +kernel
theorem dX3_openPlace_33 : decode cX3_openPlace 33 = .ok (.iload_n 1, 1) := by decide +kernel
theorem dX3_openPlace_34 : decode cX3_openPlace 34 = .ok (.iastore, 1) := by decide +kernel
theorem dX3_openPlace_35 : decode cX3_openPlace 35 = .ok (.aload_n 0, 1) := by decide +kernel
theorem dX3_openPlace_36 : decode cX3_openPlace 36 = .ok (.getfield 42, 3) := by decide +kernel
theorem dX3_openPlace_39 : decode cX3_openPlace 39 = .ok (.getfield 67, 3) := by decide +kernel
theorem dX3_openPlace_42 : decode cX3_openPlace 42 = .ok (.aload_n 0, 1) := by decide +kernel
theorem dX3_openPlace_43 : decode cX3_openPlace 43 = .ok (.getfield 15, 3) := by decide +kernel
theorem dX3_openPlace_46 : decode cX3_openPlace 46 = .ok (.aload_n 0, 1) := by decide +kernel
theorem dX3_openPlace_47 : decode cX3_openPlace 47 = .ok (.getfield 30, 3) := by decide +kernel
theorem dX3_openPlace_50 : decode cX3_openPlace 50 = .ok (.getfield 89, 3) := by decide +kernel
theorem dX3_openPlace_53 : decode cX3_openPlace 53 = .ok (.iload_n 1, 1) := by decide +kernel
theorem dX3_openPlace_54 : decode cX3_openPlace 54 = .ok (.iaload, 1) := by decide +kernel
theorem dX3_openPlace_55 : decode cX3_openPlace 55 = .ok (.iastore, 1) := by decide +kernel
theorem dX3_openPlace_56 : decode cX3_openPlace 56 = .ok (.aload_n 0, 1) := by decide +kernel
theorem dX3_openPlace_57 : decode cX3_openPlace 57 = .ok (.getfield 42, 3) := by decide +kernel
theorem dX3_openPlace_60 : decode cX3_openPlace 60 = .ok (.getfield 92, 3) := by decide +kernel
theorem dX3_openPlace_63 : decode cX3_openPlace 63 = .ok (.aload_n 0, 1) := by decide +kernel
theorem dX3_openPlace_64 : decode cX3_openPlace 64 = .ok (.getfield 15, 3) := by decide +kernel
theorem dX3_openPlace_67 : decode cX3_openPlace 67 = .ok (.lconst 0, 1) := by decide +kernel
theorem dX3_openPlace_68 : decode cX3_openPlace 68 = .ok (.lastore, 1) := by decide +kernel
theorem dX3_openPlace_69 : decode cX3_openPlace 69 = .ok (.aload_n 0, 1) := by decide +kernel
theorem dX3_openPlace_70 : decode cX3_openPlace 70 = .ok (.getfield 42, 3) := by decide +kernel
theorem dX3_openPlace_73 : decode cX3_openPlace 73 = .ok (.getfield 96, 3) := by decide +kernel
theorem dX3_openPlace_76 : decode cX3_openPlace 76 = .ok (.aload_n 0, 1) := by decide +kernel
theorem dX3_openPlace_77 : decode cX3_openPlace 77 = .ok (.getfield 15, 3) := by decide +kernel
theorem dX3_openPlace_80 : decode cX3_openPlace 80 = .ok (.aload_n 0, 1) := by decide +kernel
theorem dX3_openPlace_81 : decode cX3_openPlace 81 = .ok (.getfield 38, 3) := by decide +kernel
theorem dX3_openPlace_84 : decode cX3_openPlace 84 = .ok (.getfield 79, 3) := by decide +kernel
theorem dX3_openPlace_87 : decode cX3_openPlace 87 = .ok (.iastore, 1) := by decide +kernel
theorem dX3_openPlace_88 : decode cX3_openPlace 88 = .ok (.aload_n 0, 1) := by decide +kernel
theorem dX3_openPlace_89 : decode cX3_openPlace 89 = .ok (.getfield 42, 3) := by decide +kernel
theorem dX3_openPlace_92 : decode cX3_openPlace 92 = .ok (.getfield 99, 3) := by decide +kernel
theorem dX3_openPlace_95 : decode cX3_openPlace 95 = .ok (.aload_n 0, 1) := by decide +kernel
theorem dX3_openPlace_96 : decode cX3_openPlace 96 = .ok (.getfield 15, 3) := by decide +kernel
theorem dX3_openPlace_99 : decode cX3_openPlace 99 = .ok (.aload_n 0, 1) := by decide +kernel
theorem dX3_openPlace_100 : decode cX3_openPlace 100 = .ok (.getfield 18, 3) := by decide +kernel
theorem dX3_openPlace_103 : decode cX3_openPlace 103 = .ok (.iastore, 1) := by decide +kernel
theorem dX3_openPlace_104 : decode cX3_openPlace 104 = .ok (.aload_n 0, 1) := by decide +kernel
theorem dX3_openPlace_105 : decode cX3_openPlace 105 = .ok (.getfield 42, 3) := by decide +kernel
theorem dX3_openPlace_108 : decode cX3_openPlace 108 = .ok (.getfield 101, 3) := by decide +kernel
theorem dX3_openPlace_111 : decode cX3_openPlace 111 = .ok (.aload_n 0, 1) := by decide +kernel
theorem dX3_openPlace_112 : decode cX3_openPlace 112 = .ok (.getfield 15, 3) := by decide +kernel
theorem dX3_openPlace_115 : decode cX3_openPlace 115 = .ok (.aload_n 0, 1) := by decide +kernel
theorem dX3_openPlace_116 : decode cX3_openPlace 116 = .ok (.getfield 21, 3) := by decide +kernel
theorem dX3_openPlace_119 : decode cX3_openPlace 119 = .ok (.iastore, 1) := by decide +kernel
theorem dX3_openPlace_120 : decode cX3_openPlace 120 = .ok (.aload_n 0, 1) := by decide +kernel
theorem dX3_openPlace_121 : decode cX3_openPlace 121 = .ok (.getfield 42, 3) := by decide +kernel
theorem dX3_openPlace_124 : decode cX3_openPlace 124 = .ok (.getfield 104, 3) := by decide +kernel
theorem dX3_openPlace_127 : decode cX3_openPlace 127 = .ok (.aload_n 0, 1) := by decide +kernel
theorem dX3_openPlace_128 : decode cX3_openPlace 128 = .ok (.getfield 15, 3) := by decide +kernel
theorem dX3_openPlace_131 : decode cX3_openPlace 131 = .ok (.aload_n 0, 1) := by decide +kernel
theorem dX3_openPlace_132 : decode cX3_openPlace 132 = .ok (.getfield 24, 3) := by decide +kernel
theorem dX3_openPlace_135 : decode cX3_openPlace 135 = .ok (.iastore, 1) := by decide +kernel
theorem dX3_openPlace_136 : decode cX3_openPlace 136 = .ok (.aload_n 0, 1) := by decide +kernel
theorem dX3_openPlace_137 : decode cX3_openPlace 137 = .ok (.getfield 42, 3) := by decide +kernel
theorem dX3_openPlace_140 : decode cX3_openPlace 140 = .ok (.getfield 107, 3) := by decide +kernel
theorem dX3_openPlace_143 : decode cX3_openPlace 143 = .ok (.aload_n 0, 1) := by decide +kernel
theorem dX3_openPlace_144 : decode cX3_openPlace 144 = .ok (.getfield 15, 3) := by decide +kernel
theorem dX3_openPlace_147 : decode cX3_openPlace 147 = .ok (.aload_n 0, 1) := by decide +kernel
theorem dX3_openPlace_148 : decode cX3_openPlace 148 = .ok (.getfield 27, 3) := by decide +kernel
theorem dX3_openPlace_151 : decode cX3_openPlace 151 = .ok (.iastore, 1) := by decide +kernel
theorem dX3_openPlace_152 : decode cX3_openPlace 152 = .ok (.aload_n 0, 1) := by decide +kernel
theorem dX3_openPlace_153 : decode cX3_openPlace 153 = .ok (.dup, 1) := by decide +kernel
theorem dX3_openPlace_154 : decode cX3_openPlace 154 = .ok (.getfield 15, 3) := by decide +kernel
theorem dX3_openPlace_157 : decode cX3_openPlace 157 = .ok (.iconst 1, 1) := by decide +kernel
theorem dX3_openPlace_158 : decode cX3_openPlace 158 = .ok (.iadd, 1) := by decide +kernel
theorem dX3_openPlace_159 : decode cX3_openPlace 159 = .ok (.putfield 15, 3) := by decide +kernel
theorem dX3_openPlace_162 : decode cX3_openPlace 162 = .ok (.return_, 1) := by decide +kernel
set_option maxRecDepth 20000 in
theorem ggX3_takeAnother_X3_choose : GoodIn wsX3_takeAnother wsX3_choose := goodIn_r _ [13, 3, 4, 14, 15, 16, 17, 18, 19, 20, 21, 22, 23, 24, 25, 26, 27, 28, 29, 39, 40, 41, 42, 43, 44, 45, 46, 47, 48, 49, 50, 51, 52, 53, 54, 55, 56, 57, 58, 59, 60, 61, 62, 63, 64, 65, 66, 67, 68, 69, 70, 71, 72, 73, 74, 75] (by decide +kernel) (by decide +kernel)
set_option maxRecDepth 20000 in
theorem gX3_takeAnother_X3_choose : GoodIn wsX3_takeAnother (wsV RX3 110 RX3 yX3_choose wsX3_choose) := goodIn_app (goodIn_of _ (by decide +kernel)) ggX3_takeAnother_X3_choose
set_option maxRecDepth 20000 in
theorem ggX3_takeAnother_X8_shorten : GoodIn wsX3_takeAnother wsX8_shorten := goodIn_r _ [34, 35, 36, 37, 38, 76, 77, 78, 79, 80, 81, 82] (by decide +kernel) (by decide +kernel)
set_option maxRecDepth 20000 in
theorem gX3_takeAnother_X8_shorten : GoodIn wsX3_takeAnother (wsV RX3 53 RX8 yX8_shorten wsX8_shorten) := goodIn_app (goodIn_of _ (by decide +kernel)) ggX3_takeAnother_X8_shorten
theorem dX3_takeAnother_0 : decode cX3_takeAnother 0 = .ok (.aload_n 0, 1) := by decide +kernel
theorem dX3_takeAnother_1 : decode cX3_takeAnother 1 = .ok (.iload_n 1, 1) := by decide +kernel
theorem dX3_takeAnother_2 : decode cX3_takeAnother 2 = .ok (.invokevirtual 110, 3) := by decide +kernel
theorem dX3_takeAnother_5 : decode cX3_takeAnother 5 = .ok (.istore_n 2, 1) := by decide +kernel
theorem dX3_takeAnother_6 : decode cX3_takeAnother 6 = .ok (.aload_n 0, 1) := by decide +kernel
theorem dX3_takeAnother_7 : decode cX3_takeAnother 7 = .ok (.dup, 1) := by decide +kernel
theorem dX3_takeAnother_8 : decode cX3_takeAnother 8 = .ok (.getfield 9, 3) := by decide +kernel
theorem dX3_takeAnother_11 : decode cX3_takeAnother 11 = .ok (.iconst 1, 1) := by decide +kernel
theorem dX3_takeAnother_12 : decode cX3_takeAnother 12 = .ok (.iadd, 1) := by decide +kernel
theorem dX3_takeAnother_13 : decode cX3_takeAnother 13 = .ok (.putfield 9, 3) := by decide +kernel
theorem dX3_takeAnother_16 : decode cX3_takeAnother 16 = .ok (.aload_n 0, 1) := by decide +kernel
theorem dX3_takeAnother_17 : decode cX3_takeAnother 17 = .ok (.getfield 38, 3) := by decide +kernel
theorem dX3_takeAnother_20 : decode cX3_takeAnother 20 = .ok (.aload_n 0, 1) := by decide +kernel
theorem dX3_takeAnother_21 : decode cX3_takeAnother 21 = .ok (.getfield 42, 3) := by decide +kernel
theorem dX3_takeAnother_24 : decode cX3_takeAnother 24 = .ok (.getfield 96, 3) := by decide +kernel
theorem dX3_takeAnother_27 : decode cX3_takeAnother 27 = .ok (.iload_n 1, 1) := by decide +kernel
theorem dX3_takeAnother_28 : decode cX3_takeAnother 28 = .ok (.iaload, 1) := by decide +kernel
theorem dX3_takeAnother_29 : decode cX3_takeAnother 29 = .ok (.invokevirtual 53, 3) := by decide +kernel
theorem dX3_takeAnother_32 : decode cX3_takeAnother 32 = .ok (.aload_n 0, 1) := by decide +kernel
theorem dX3_takeAnother_33 : decode cX3_takeAnother 33 = .ok (.aload_n 0, 1) := by decide +kernel
theorem dX3_takeAnother_34 : decode cX3_takeAnother 34 = .ok (.getfield 30, 3) := by decide +kernel
theorem dX3_takeAnother_37 : decode cX3_takeAnother 37 = .ok (.getfield 114, 3) := by decide +kernel
theorem dX3_takeAnother_40 : decode cX3_takeAnother 40 = .ok (.iload_n 2, 1) := by decide +kernel
theorem dX3_takeAnother_41 : decode cX3_takeAnother 41 = .ok (.iaload, 1) := by decide +kernel
theorem dX3_takeAnother_42 : decode cX3_takeAnother 42 = .ok (.putfield 21, 3) := by decide +kernel
theorem dX3_takeAnother_45 : decode cX3_takeAnother 45 = .ok (.aload_n 0, 1) := by decide +kernel
theorem dX3_takeAnother_46 : decode cX3_takeAnother 46 = .ok (.aload_n 0, 1) := by decide +kernel
theorem dX3_takeAnother_47 : decode cX3_takeAnother 47 = .ok (.getfield 30, 3) := by decide +kernel
theorem dX3_takeAnother_50 : decode cX3_takeAnother 50 = .ok (.getfield 117, 3) := by decide +kernel
theorem dX3_takeAnother_53 : decode cX3_takeAnother 53 = .ok (.iload_n 2, 1) := by decide +kernel
theorem dX3_takeAnother_54 : decode cX3_takeAnother 54 = .ok (.iaload, 1) := by decide +kernel
theorem dX3_takeAnother_55 : decode cX3_takeAnother 55 = .ok (.putfield 24, 3) := by decide +kernel
theorem dX3_takeAnother_58 : decode cX3_takeAnother 58 = .ok (.aload_n 0, 1) := by decide +kernel
theorem dX3_takeAnother_59 : decode cX3_takeAnother 59 = .ok (.iload_n 1, 1) := by decide +kernel
theorem dX3_takeAnother_60 : decode cX3_takeAnother 60 = .ok (.putfield 27, 3) := by decide +kernel
theorem dX3_takeAnother_63 : decode cX3_takeAnother 63 = .ok (.aload_n 0, 1) := by decide +kernel
theorem dX3_takeAnother_64 : decode cX3_takeAnother 64 = .ok (.aload_n 0, 1) := by decide +kernel
theorem dX3_takeAnother_65 : decode cX3_takeAnother 65 = .ok (.getfield 42, 3) := by decide +kernel
theorem dX3_takeAnother_68 : decode cX3_takeAnother 68 = .ok (.getfield 99, 3) := by decide +kernel
theorem dX3_takeAnother_71 : decode cX3_takeAnother 71 = .ok (.iload_n 1, 1) := by decide +kernel
theorem dX3_takeAnother_72 : decode cX3_takeAnother 72 = .ok (.iaload, 1) := by decide +kernel
theorem dX3_takeAnother_73 : decode cX3_takeAnother 73 = .ok (.aload_n 0, 1) := by decide +kernel
theorem dX3_takeAnother_74 : decode cX3_takeAnother 74 = .ok (.getfield 24, 3) := by decide +kernel
theorem dX3_takeAnother_77 : decode cX3_takeAnother 77 = .ok (.iadd, 1) := by decide +kernel
theorem dX3_takeAnother_78 : decode cX3_takeAnother 78 = .ok (.aload_n 0, 1) := by decide +kernel
theorem dX3_takeAnother_79 : decode cX3_takeAnother 79 = .ok (.getfield 21, 3) := by decide +kernel
theorem dX3_takeAnother_82 : decode cX3_takeAnother 82 = .ok (.isub, 1) := by decide +kernel
theorem dX3_takeAnother_83 : decode cX3_takeAnother 83 = .ok (.putfield 18, 3) := by decide +kernel
theorem dX3_takeAnother_86 : decode cX3_takeAnother 86 = .ok (.return_, 1) := by decide +kernel
set_option maxRecDepth 20000 in
theorem ggX3_choose_X1_drawUnder : GoodIn wsX3_choose wsX1_drawUnder := goodIn_r _ [8, 9, 10, 11, 12, 13, 7, 14, 15, 16, 17, 18, 55] (by decide +kernel) (by decide +kernel)
set_option maxRecDepth 20000 in
theorem gX3_choose_X1_drawUnder : GoodIn wsX3_choose (wsV RX3 123 RX1 yX1_drawUnder wsX1_drawUnder) := goodIn_app (goodIn_of _ (by decide +kernel)) ggX3_choose_X1_drawUnder
theorem dX3_choose_0 : decode cX3_choose 0 = .ok (.aload_n 0, 1) := by decide +kernel
theorem dX3_choose_1 : decode cX3_choose 1 = .ok (.getfield 42, 3) := by decide +kernel
theorem dX3_choose_4 : decode cX3_choose 4 = .ok (.getfield 86, 3) := by decide +kernel
theorem dX3_choose_7 : decode cX3_choose 7 = .ok (.iload_n 1, 1) := by decide +kernel
theorem dX3_choose_8 : decode cX3_choose 8 = .ok (.iaload, 1) := by decide +kernel
theorem dX3_choose_9 : decode cX3_choose 9 = .ok (.istore_n 2, 1) := by decide +kernel
theorem dX3_choose_10 : decode cX3_choose 10 = .ok (.aload_n 0, 1) := by decide +kernel
theorem dX3_choose_11 : decode cX3_choose 11 = .ok (.getfield 30, 3) := by decide +kernel
theorem dX3_choose_14 : decode cX3_choose 14 = .ok (.getfield 120, 3) := by decide +kernel
theorem dX3_choose_17 : decode cX3_choose 17 = .ok (.iload_n 2, 1) := by decide +kernel
theorem dX3_choose_18 : decode cX3_choose 18 = .ok (.iaload, 1) := by decide +kernel
theorem dX3_choose_19 : decode cX3_choose 19 = .ok (.istore_n 3, 1) := by decide +kernel
theorem dX3_choose_20 : decode cX3_choose 20 = .ok (.aload_n 0, 1) := by decide +kernel
theorem dX3_choose_21 : decode cX3_choose 21 = .ok (.getfield 46, 3) := by decide +kernel
theorem dX3_choose_24 : decode cX3_choose 24 = .ok (.aload_n 0, 1) := by decide +kernel
theorem dX3_choose_25 : decode cX3_choose 25 = .ok (.getfield 42, 3) := by decide +kernel
theorem dX3_choose_28 : decode cX3_choose 28 = .ok (.getfield 67, 3) := by decide +kernel
theorem dX3_choose_31 : decode cX3_choose 31 = .ok (.iload_n 1, 1) := by decide +kernel
theorem dX3_choose_32 : decode cX3_choose 32 = .ok (.iaload, 1) := by decide +kernel
theorem dX3_choose_33 : decode cX3_choose 33 = .ok (.invokevirtual 123, 3) := by decide +kernel
theorem dX3_choose_36 : decode cX3_choose 36 = .ok (.istore 4, 2) := by decide +kernel
theorem dX3_choose_38 : decode cX3_choose 38 = .ok (.iconst 0, 1) := by decide +kernel
theorem dX3_choose_39 : decode cX3_choose 39 = .ok (.istore 5, 2) := by decide +kernel
theorem dX3_choose_41 : decode cX3_choose 41 = .ok (.iconst 0, 1) := by decide +kernel
theorem dX3_choose_42 : decode cX3_choose 42 = .ok (.istore 6, 2) := by decide +kernel
theorem dX3_choose_44 : decode cX3_choose 44 = .ok (.iload 6, 2) := by decide +kernel
theorem dX3_choose_46 : decode cX3_choose 46 = .ok (.aload_n 0, 1) := by decide +kernel
theorem dX3_choose_47 : decode cX3_choose 47 = .ok (.getfield 30, 3) := by decide +kernel
theorem dX3_choose_50 : decode cX3_choose 50 = .ok (.getfield 128, 3) := by decide +kernel
theorem dX3_choose_53 : decode cX3_choose 53 = .ok (.iload_n 2, 1) := by decide +kernel
theorem dX3_choose_54 : decode cX3_choose 54 = .ok (.iaload, 1) := by decide +kernel
theorem dX3_choose_55 : decode cX3_choose 55 = .ok (.if_icmp .ge 60, 3) := by decide +kernel
theorem dX3_choose_58 : decode cX3_choose 58 = .ok (.aload_n 0, 1) := by decide +kernel
theorem dX3_choose_59 : decode cX3_choose 59 = .ok (.getfield 42, 3) := by decide +kernel
theorem dX3_choose_62 : decode cX3_choose 62 = .ok (.getfield 92, 3) := by decide +kernel
theorem dX3_choose_65 : decode cX3_choose 65 = .ok (.iload_n 1, 1) := by decide +kernel
theorem dX3_choose_66 : decode cX3_choose 66 = .ok (.laload, 1) := by decide +kernel
theorem dX3_choose_67 : decode cX3_choose 67 = .ok (.iload 6, 2) := by decide +kernel
theorem dX3_choose_69 : decode cX3_choose 69 = .ok (.lushr, 1) := by decide +kernel
theorem dX3_choose_70 : decode cX3_choose 70 = .ok (.lconst 1, 1) := by decide +kernel
theorem dX3_choose_71 : decode cX3_choose 71 = .ok (.land, 1) := by decide +kernel
theorem dX3_choose_72 : decode cX3_choose 72 = .ok (.lconst 0, 1) := by decide +kernel
theorem dX3_choose_73 : decode cX3_choose 73 = .ok (.lcmp, 1) := by decide +kernel
theorem dX3_choose_74 : decode cX3_choose 74 = .ok (.ifCond .eq 6, 3) := by decide +kernel
theorem dX3_choose_77 : decode cX3_choose 77 = .ok (.goto 32, 3) := by decide +kernel
theorem dX3_choose_80 : decode cX3_choose 80 = .ok (.iload 6, 2) := by decide +kernel
theorem dX3_choose_82 : decode cX3_choose 82 = .ok (.istore 5, 2) := by decide +kernel
theorem dX3_choose_84 : decode cX3_choose 84 = .ok (.iload 4, 2) := by decide +kernel
theorem dX3_choose_86 : decode cX3_choose 86 = .ok (.aload_n 0, 1) := by decide +kernel
theorem dX3_choose_87 : decode cX3_choose 87 = .ok (.getfield 30, 3) := by decide +kernel
theorem dX3_choose_90 : decode cX3_choose 90 = .ok (.getfield 131, 3) := by decide +kernel
theorem dX3_choose_93 : decode cX3_choose 93 = .ok (.iload_n 3, 1) := by decide +kernel
theorem dX3_choose_94 : decode cX3_choose 94 = .ok (.iload 6, 2) := by decide +kernel
theorem dX3_choose_96 : decode cX3_choose 96 = .ok (.iadd, 1) := by decide +kernel
theorem dX3_choose_97 : decode cX3_choose 97 = .ok (.iaload, 1) := by decide +kernel
theorem dX3_choose_98 : decode cX3_choose 98 = .ok (.isub, 1) := by decide +kernel
theorem dX3_choose_99 : decode cX3_choose 99 = .ok (.istore 4, 2) := by decide +kernel
theorem dX3_choose_101 : decode cX3_choose 101 = .ok (.iload 4, 2) := by decide +kernel
theorem dX3_choose_103 : decode cX3_choose 103 = .ok (.ifCond .ge 6, 3) := by decide +kernel
theorem dX3_choose_106 : decode cX3_choose 106 = .ok (.goto 9, 3) := by decide +kernel
theorem dX3_choose_109 : decode cX3_choose 109 = .ok (.iinc 6 1, 3) := by decide +kernel
theorem dX3_choose_112 : decode cX3_choose 112 = .ok (.goto (-68), 3) := by decide +kernel
theorem dX3_choose_115 : decode cX3_choose 115 = .ok (.aload_n 0, 1) := by decide +kernel
theorem dX3_choose_116 : decode cX3_choose 116 = .ok (.getfield 42, 3) := by decide +kernel
theorem dX3_choose_119 : decode cX3_choose 119 = .ok (.getfield 92, 3) := by decide +kernel
theorem dX3_choose_122 : decode cX3_choose 122 = .ok (.iload_n 1, 1) := by decide +kernel
theorem dX3_choose_123 : decode cX3_choose 123 = .ok (.dup2, 1) := by decide +kernel
theorem dX3_choose_124 : decode cX3_choose 124 = .ok (.laload, 1) := by decide +kernel
theorem dX3_choose_125 : decode cX3_choose 125 = .ok (.lconst 1, 1) := by decide +kernel
theorem dX3_choose_126 : decode cX3_choose 126 = .ok (.iload 5, 2) := by decide +kernel
theorem dX3_choose_128 : decode cX3_choose 128 = .ok (.lshl, 1) := by decide +kernel
theorem dX3_choose_129 : decode cX3_choose 129 = .ok (.lor, 1) := by decide +kernel
theorem dX3_choose_130 : decode cX3_choose 130 = .ok (.lastore, 1) := by decide +kernel
theorem dX3_choose_131 : decode cX3_choose 131 = .ok (.aload_n 0, 1) := by decide +kernel
theorem dX3_choose_132 : decode cX3_choose 132 = .ok (.getfield 42, 3) := by decide +kernel
theorem dX3_choose_135 : decode cX3_choose 135 = .ok (.getfield 67, 3) := by decide +kernel
theorem dX3_choose_138 : decode cX3_choose 138 = .ok (.iload_n 1, 1) := by decide +kernel
theorem dX3_choose_139 : decode cX3_choose 139 = .ok (.dup2, 1) := by decide +kernel
theorem dX3_choose_140 : decode cX3_choose 140 = .ok (.iaload, 1) := by decide +kernel
theorem dX3_choose_141 : decode cX3_choose 141 = .ok (.aload_n 0, 1) := by decide +kernel
theorem dX3_choose_142 : decode cX3_choose 142 = .ok (.getfield 30, 3) := by decide +kernel
theorem dX3_choose_145 : decode cX3_choose 145 = .ok (.getfield 131, 3) := by decide +kernel
theorem dX3_choose_148 : decode cX3_choose 148 = .ok (.iload_n 3, 1) := by decide +kernel
theorem dX3_choose_149 : decode cX3_choose 149 = .ok (.iload 5, 2) := by decide +kernel
theorem dX3_choose_151 : decode cX3_choose 151 = .ok (.iadd, 1) := by decide +kernel
theorem dX3_choose_152 : decode cX3_choose 152 = .ok (.iaload, 1) := by decide +kernel
theorem dX3_choose_153 : decode cX3_choose 153 = .ok (.isub, 1) := by decide +kernel
theorem dX3_choose_154 : decode cX3_choose 154 = .ok (.iastore, 1) := by decide +kernel
theorem dX3_choose_155 : decode cX3_choose 155 = .ok (.iload_n 3, 1) := by decide +kernel
theorem dX3_choose_156 : decode cX3_choose 156 = .ok (.iload 5, 2) := by decide +kernel
theorem dX3_choose_158 : decode cX3_choose 158 = .ok (.iadd, 1) := by decide +kernel
theorem dX3_choose_159 : decode cX3_choose 159 = .ok (.ireturn, 1) := by decide +kernel
set_option maxRecDepth 20000 in
theorem ggX3_goToLetter_X3_takeFirst : GoodIn wsX3_goToLetter wsX3_takeFirst := goodIn_r _ [8, 1, 9, 2, 10, 11, 69, 70, 71, 72, 73, 74, 75, 76, 77, 78, 79, 80, 97, 98, 99, 100, 101, 102, 103, 104] (by decide +kernel) (by decide +kernel)
set_option maxRecDepth 20000 in
theorem gX3_goToLetter_X3_takeFirst : GoodIn wsX3_goToLetter (wsV RX3 134 RX3 yX3_takeFirst wsX3_takeFirst) := goodIn_app (goodIn_of _ (by decide +kernel)) ggX3_goToLetter_X3_takeFirst
set_option maxRecDepth 20000 in
theorem ggX3_goToLetter_X3_addIfItFits : GoodIn wsX3_goToLetter wsX3_addIfItFits := goodIn_r _ [15, 3, 16, 17, 18, 19, 20, 21, 22, 23, 24, 25, 26, 27, 28, 29, 30, 31, 32, 33, 34, 35, 36, 7, 37, 38, 39, 40, 41, 42, 43, 44, 45, 46, 47, 48, 49, 50, 51, 52, 53, 54, 55, 56, 57, 58, 59, 60, 69, 70, 71, 72, 73, 74, 75, 76, 77, 78, 79, 80, 81, 82, 83, 84, 85, 86, 87, 88, 89, 90, 91, 92, 93, 94, 95, 96, 105, 106, 107, 108, 109, 110, 111] (by decide +kernel) (by decide +kernel)
set_option maxRecDepth 20000 in
theorem gX3_goToLetter_X3_addIfItFits : GoodIn wsX3_goToLetter (wsV RX3 138 RX3 yX3_addIfItFits wsX3_addIfItFits) := goodIn_app (goodIn_of _ (by decide +kernel)) ggX3_goToLetter_X3_addIfItFits
set_option maxRecDepth 20000 in
theorem ggX3_goToLetter_X3_isWhole : GoodIn wsX3_goToLetter wsX3_isWhole := goodIn_r _ [64, 1, 2, 16, 17, 18, 27, 28, 29, 21, 30, 31, 32, 33, 65, 66, 67, 68, 46, 58, 69, 70, 71, 72, 73, 74, 75, 76, 77, 78, 79, 80, 105, 106, 107, 108, 109, 110, 111] (by decide +kernel) (by decide +kernel)
set_option maxRecDepth 20000 in
theorem gX3_goToLetter_X3_isWhole : GoodIn wsX3_goToLetter (wsV RX3 141 RX3 yX3_isWhole wsX3_isWhole) := goodIn_app (goodIn_of _ (by decide +kernel)) ggX3_goToLetter_X3_isWhole
theorem dX3_goToLetter_0 : decode cX3_goToLetter 0 = .ok (.iconst 0, 1) := by decide +kernel
theorem dX3_goToLetter_1 : decode cX3_goToLetter 1 = .ok (.istore_n 1, 1) := by decide +kernel
theorem dX3_goToLetter_2 : decode cX3_goToLetter 2 = .ok (.iload_n 1, 1) := by decide +kernel
theorem dX3_goToLetter_3 : decode cX3_goToLetter 3 = .ok (.sipush 200, 3) := by decide +kernel
theorem dX3_goToLetter_6 : decode cX3_goToLetter 6 = .ok (.if_icmp .gt 59, 3) := by decide +kernel
theorem dX3_goToLetter_9 : decode cX3_goToLetter 9 = .ok (.aload_n 0, 1) := by decide +kernel
theorem dX3_goToLetter_10 : decode cX3_goToLetter 10 = .ok (.getfield 21, 3) := by decide +kernel
theorem dX3_goToLetter_13 : decode cX3_goToLetter 13 = .ok (.aload_n 0, 1) := by decide +kernel
theorem dX3_goToLetter_14 : decode cX3_goToLetter 14 = .ok (.getfield 24, 3) := by decide +kernel
theorem dX3_goToLetter_17 : decode cX3_goToLetter 17 = .ok (.if_icmp .ge 48, 3) := by decide +kernel
theorem dX3_goToLetter_20 : decode cX3_goToLetter 20 = .ok (.aload_n 0, 1) := by decide +kernel
theorem dX3_goToLetter_21 : decode cX3_goToLetter 21 = .ok (.invokevirtual 134, 3) := by decide +kernel
theorem dX3_goToLetter_24 : decode cX3_goToLetter 24 = .ok (.istore_n 2, 1) := by decide +kernel
theorem dX3_goToLetter_25 : decode cX3_goToLetter 25 = .ok (.aload_n 0, 1) := by decide +kernel
theorem dX3_goToLetter_26 : decode cX3_goToLetter 26 = .ok (.getfield 30, 3) := by decide +kernel
theorem dX3_goToLetter_29 : decode cX3_goToLetter 29 = .ok (.getfield 137, 3) := by decide +kernel
theorem dX3_goToLetter_32 : decode cX3_goToLetter 32 = .ok (.iload_n 2, 1) := by decide +kernel
theorem dX3_goToLetter_33 : decode cX3_goToLetter 33 = .ok (.iaload, 1) := by decide +kernel
theorem dX3_goToLetter_34 : decode cX3_goToLetter 34 = .ok (.iconst (-1), 1) := by decide +kernel
theorem dX3_goToLetter_35 : decode cX3_goToLetter 35 = .ok (.if_icmp .eq 13, 3) := by decide +kernel
theorem dX3_goToLetter_38 : decode cX3_goToLetter 38 = .ok (.aload_n 0, 1) := by decide +kernel
theorem dX3_goToLetter_39 : decode cX3_goToLetter 39 = .ok (.getfield 30, 3) := by decide +kernel
theorem dX3_goToLetter_42 : decode cX3_goToLetter 42 = .ok (.getfield 137, 3) := by decide +kernel
theorem dX3_goToLetter_45 : decode cX3_goToLetter 45 = .ok (.iload_n 2, 1) := by decide +kernel
theorem dX3_goToLetter_46 : decode cX3_goToLetter 46 = .ok (.iaload, 1) := by decide +kernel
theorem dX3_goToLetter_47 : decode cX3_goToLetter 47 = .ok (.ireturn, 1) := by decide +kernel
theorem dX3_goToLetter_48 : decode cX3_goToLetter 48 = .ok (.aload_n 0, 1) := by decide +kernel
theorem dX3_goToLetter_49 : decode cX3_goToLetter 49 = .ok (.iload_n 2, 1) := by decide +kernel
theorem dX3_goToLetter_50 : decode cX3_goToLetter 50 = .ok (.invokevirtual 138, 3) := by decide +kernel
theorem dX3_goToLetter_53 : decode cX3_goToLetter 53 = .ok (.ifCond .ne 6, 3) := by decide +kernel
theorem dX3_goToLetter_56 : decode cX3_goToLetter 56 = .ok (.bipush (-12), 2) := by decide +kernel
theorem dX3_goToLetter_58 : decode cX3_goToLetter 58 = .ok (.ireturn, 1) := by decide +kernel
theorem dX3_goToLetter_59 : decode cX3_goToLetter 59 = .ok (.iinc 1 1, 3) := by decide +kernel
theorem dX3_goToLetter_62 : decode cX3_goToLetter 62 = .ok (.goto (-60), 3) := by decide +kernel
theorem dX3_goToLetter_65 : decode cX3_goToLetter 65 = .ok (.aload_n 0, 1) := by decide +kernel
theorem dX3_goToLetter_66 : decode cX3_goToLetter 66 = .ok (.invokevirtual 141, 3) := by decide +kernel
theorem dX3_goToLetter_69 : decode cX3_goToLetter 69 = .ok (.ifCond .eq 8, 3) := by decide +kernel
theorem dX3_goToLetter_72 : decode cX3_goToLetter 72 = .ok (.bipush (-11), 2) := by decide +kernel
theorem dX3_goToLetter_74 : decode cX3_goToLetter 74 = .ok (.goto 5, 3) := by decide +kernel
theorem dX3_goToLetter_77 : decode cX3_goToLetter 77 = .ok (.bipush (-12), 2) := by decide +kernel
theorem dX3_goToLetter_79 : decode cX3_goToLetter 79 = .ok (.ireturn, 1) := by decide +kernel
theorem dX3_takeFirst_0 : decode cX3_takeFirst 0 = .ok (.aload_n 0, 1) := by decide +kernel
theorem dX3_takeFirst_1 : decode cX3_takeFirst 1 = .ok (.getfield 21, 3) := by decide +kernel
theorem dX3_takeFirst_4 : decode cX3_takeFirst 4 = .ok (.istore_n 1, 1) := by decide +kernel
theorem dX3_takeFirst_5 : decode cX3_takeFirst 5 = .ok (.aload_n 0, 1) := by decide +kernel
theorem dX3_takeFirst_6 : decode cX3_takeFirst 6 = .ok (.dup, 1) := by decide +kernel
theorem dX3_takeFirst_7 : decode cX3_takeFirst 7 = .ok (.getfield 21, 3) := by decide +kernel
theorem dX3_takeFirst_10 : decode cX3_takeFirst 10 = .ok (.iconst 1, 1) := by decide +kernel
theorem dX3_takeFirst_11 : decode cX3_takeFirst 11 = .ok (.iadd, 1) := by decide +kernel
theorem dX3_takeFirst_12 : decode cX3_takeFirst 12 = .ok (.putfield 21, 3) := by decide +kernel
theorem dX3_takeFirst_15 : decode cX3_takeFirst 15 = .ok (.aload_n 0, 1) := by decide +kernel
theorem dX3_takeFirst_16 : decode cX3_takeFirst 16 = .ok (.dup, 1) := by decide +kernel
theorem dX3_takeFirst_17 : decode cX3_takeFirst 17 = .ok (.getfield 18, 3) := by decide +kernel
theorem dX3_takeFirst_20 : decode cX3_takeFirst 20 = .ok (.iconst 1, 1) := by decide +kernel
theorem dX3_takeFirst_21 : decode cX3_takeFirst 21 = .ok (.isub, 1) := by decide +kernel
theorem dX3_takeFirst_22 : decode cX3_takeFirst 22 = .ok (.putfield 18, 3) := by decide +kernel
theorem dX3_takeFirst_25 : decode cX3_takeFirst 25 = .ok (.aload_n 0, 1) := by decide +kernel
theorem dX3_takeFirst_26 : decode cX3_takeFirst 26 = .ok (.getfield 21, 3) := by decide +kernel
theorem dX3_takeFirst_29 : decode cX3_takeFirst 29 = .ok (.aload_n 0, 1) := by decide +kernel
theorem dX3_takeFirst_30 : decode cX3_takeFirst 30 = .ok (.getfield 24, 3) := by decide +kernel
theorem dX3_takeFirst_33 : decode cX3_takeFirst 33 = .ok (.if_icmp .lt 55, 3) := by decide +kernel
theorem dX3_takeFirst_36 : decode cX3_takeFirst 36 = .ok (.aload_n 0, 1) := by decide +kernel
theorem dX3_takeFirst_37 : decode cX3_takeFirst 37 = .ok (.getfield 27, 3) := by decide +kernel
theorem dX3_takeFirst_40 : decode cX3_takeFirst 40 = .ok (.iconst (-1), 1) := by decide +kernel
theorem dX3_takeFirst_41 : decode cX3_takeFirst 41 = .ok (.if_icmp .eq 47, 3) := by decide +kernel
theorem dX3_takeFirst_44 : decode cX3_takeFirst 44 = .ok (.aload_n 0, 1) := by decide +kernel
theorem dX3_takeFirst_45 : decode cX3_takeFirst 45 = .ok (.getfield 27, 3) := by decide +kernel
theorem dX3_takeFirst_48 : decode cX3_takeFirst 48 = .ok (.istore_n 2, 1) := by decide +kernel
theorem dX3_takeFirst_49 : decode cX3_takeFirst 49 = .ok (.aload_n 0, 1) := by decide +kernel
theorem dX3_takeFirst_50 : decode cX3_takeFirst 50 = .ok (.aload_n 0, 1) := by decide +kernel
theorem dX3_takeFirst_51 : decode cX3_takeFirst 51 = .ok (.getfield 42, 3) := by decide +kernel
theorem dX3_takeFirst_54 : decode cX3_takeFirst 54 = .ok (.getfield 101, 3) := by decide +kernel
theorem dX3_takeFirst_57 : decode cX3_takeFirst 57 = .ok (.iload_n 2, 1) := by decide +kernel
theorem dX3_takeFirst_58 : decode cX3_takeFirst 58 = .ok (.iaload, 1) := by decide +kernel
theorem dX3_takeFirst_59 : decode cX3_takeFirst 59 = .ok (.putfield 21, 3) := by decide +kernel
theorem dX3_takeFirst_62 : decode cX3_takeFirst 62 = .ok (.aload_n 0, 1) := by decide +kernel
theorem dX3_takeFirst_63 : decode cX3_takeFirst 63 = .ok (.aload_n 0, 1) := by decide +kernel
theorem dX3_takeFirst_64 : decode cX3_takeFirst 64 = .ok (.getfield 42, 3) := by decide +kernel
theorem dX3_takeFirst_67 : decode cX3_takeFirst 67 = .ok (.getfield 104, 3) := by decide +kernel
theorem dX3_takeFirst_70 : decode cX3_takeFirst 70 = .ok (.iload_n 2, 1) := by decide +kernel
theorem dX3_takeFirst_71 : decode cX3_takeFirst 71 = .ok (.iaload, 1) := by decide +kernel
theorem dX3_takeFirst_72 : decode cX3_takeFirst 72 = .ok (.putfield 24, 3) := by decide +kernel
theorem dX3_takeFirst_75 : decode cX3_takeFirst 75 = .ok (.aload_n 0, 1) := by decide +kernel
theorem dX3_takeFirst_76 : decode cX3_takeFirst 76 = .ok (.aload_n 0, 1) := by decide +kernel
theorem dX3_takeFirst_77 : decode cX3_takeFirst 77 = .ok (.getfield 42, 3) := by decide +kernel
theorem dX3_takeFirst_80 : decode cX3_takeFirst 80 = .ok (.getfield 107, 3) := by decide +kernel
theorem dX3_takeFirst_83 : decode cX3_takeFirst 83 = .ok (.iload_n 2, 1) := by decide +kernel
theorem dX3_takeFirst_84 : decode cX3_takeFirst 84 = .ok (.iaload, 1) := by decide +kernel
theorem dX3_takeFirst_85 : decode cX3_takeFirst 85 = .ok (.putfield 27, 3) := by decide +kernel
theorem dX3_takeFirst_88 : decode cX3_takeFirst 88 = .ok (.iload_n 1, 1) := by decide +kernel
theorem dX3_takeFirst_89 : decode cX3_takeFirst 89 = .ok (.ireturn, 1) := by decide +kernel
set_option maxRecDepth 20000 in
theorem ggX3_addIfItFits_X8_pitchOf : GoodIn wsX3_addIfItFits wsX8_pitchOf := goodIn_r _ [8, 9, 10, 11, 12] (by decide +kernel) (by decide +kernel)
set_option maxRecDepth 20000 in
theorem gX3_addIfItFits_X8_pitchOf : GoodIn wsX3_addIfItFits (va_wsS RX3 151 yX8_pitchOf wsX8_pitchOf) := goodIn_app (goodIn_of _ (by decide +kernel)) ggX3_addIfItFits_X8_pitchOf
set_option maxRecDepth 20000 in
theorem ggX3_addIfItFits_X8_time : GoodIn wsX3_addIfItFits wsX8_time := goodIn_r _ [16, 17, 18, 19, 76, 77, 78, 79, 80, 81, 82] (by decide +kernel) (by decide +kernel)
set_option maxRecDepth 20000 in
theorem gX3_addIfItFits_X8_time : GoodIn wsX3_addIfItFits (wsV RX3 155 RX8 yX8_time wsX8_time) := goodIn_app (goodIn_of _ (by decide +kernel)) ggX3_addIfItFits_X8_time
set_option maxRecDepth 20000 in
theorem ggX3_addIfItFits_X3_pitchFits : GoodIn wsX3_addIfItFits wsX3_pitchFits := goodIn_r _ [24, 4, 2, 25, 26, 27, 28, 10, 11, 12, 29, 30, 31, 7, 32, 17, 33, 34, 35, 36, 37, 38, 39, 40, 48, 49, 50, 51, 52, 53, 54, 55, 56, 57, 58, 59, 76, 77, 78, 79, 80, 81, 82] (by decide +kernel) (by decide +kernel)
set_option maxRecDepth 20000 in
theorem gX3_addIfItFits_X3_pitchFits : GoodIn wsX3_addIfItFits (wsV RX3 161 RX3 yX3_pitchFits wsX3_pitchFits) := goodIn_app (goodIn_of _ (by decide +kernel)) ggX3_addIfItFits_X3_pitchFits
set_option maxRecDepth 20000 in
theorem ggX3_addIfItFits_X8_add : GoodIn wsX3_addIfItFits wsX8_add := goodIn_r _ [44, 17, 33, 39, 18, 34, 19, 45, 46, 14, 15, 7, 16, 47, 36, 37, 38, 40, 30, 31, 32, 76, 77, 78, 79, 80, 81, 82] (by decide +kernel) (by decide +kernel)
set_option maxRecDepth 20000 in
theorem gX3_addIfItFits_X8_add : GoodIn wsX3_addIfItFits (wsV RX3 164 RX8 yX8_add wsX8_add) := goodIn_app (goodIn_of _ (by decide +kernel)) ggX3_addIfItFits_X8_add
theorem dX3_addIfItFits_0 : decode cX3_addIfItFits 0 = .ok (.aload_n 0, 1) := by decide +kernel
theorem dX3_addIfItFits_1 : decode cX3_addIfItFits 1 = .ok (.getfield 30, 3) := by decide +kernel
theorem dX3_addIfItFits_4 : decode cX3_addIfItFits 4 = .ok (.getfield 145, 3) := by decide +kernel
theorem dX3_addIfItFits_7 : decode cX3_addIfItFits 7 = .ok (.iload_n 1, 1) := by decide +kernel
theorem dX3_addIfItFits_8 : decode cX3_addIfItFits 8 = .ok (.iaload, 1) := by decide +kernel
theorem dX3_addIfItFits_9 : decode cX3_addIfItFits 9 = .ok (.istore_n 2, 1) := by decide +kernel
theorem dX3_addIfItFits_10 : decode cX3_addIfItFits 10 = .ok (.iload_n 2, 1) := by decide +kernel
theorem dX3_addIfItFits_11 : decode cX3_addIfItFits 11 = .ok (.aload_n 0, 1) := by decide +kernel
theorem dX3_addIfItFits_12 : decode cX3_addIfItFits 12 = .ok (.getfield 30, 3) := by decide +kernel
theorem dX3_addIfItFits_15 : decode cX3_addIfItFits 15 = .ok (.getfield 148, 3) := by decide +kernel
theorem dX3_addIfItFits_18 : decode cX3_addIfItFits 18 = .ok (.iload_n 1, 1) := by decide +kernel
theorem dX3_addIfItFits_19 : decode cX3_addIfItFits 19 = .ok (.iaload, 1) := by decide +kernel
theorem dX3_addIfItFits_20 : decode cX3_addIfItFits 20 = .ok (.invokestatic 151, 3) := by decide +kernel
theorem dX3_addIfItFits_23 : decode cX3_addIfItFits 23 = .ok (.istore_n 3, 1) := by decide +kernel
theorem dX3_addIfItFits_24 : decode cX3_addIfItFits 24 = .ok (.aload_n 0, 1) := by decide +kernel
theorem dX3_addIfItFits_25 : decode cX3_addIfItFits 25 = .ok (.getfield 38, 3) := by decide +kernel
theorem dX3_addIfItFits_28 : decode cX3_addIfItFits 28 = .ok (.invokevirtual 155, 3) := by decide +kernel
theorem dX3_addIfItFits_31 : decode cX3_addIfItFits 31 = .ok (.istore 4, 2) := by decide +kernel
theorem dX3_addIfItFits_33 : decode cX3_addIfItFits 33 = .ok (.iload 4, 2) := by decide +kernel
theorem dX3_addIfItFits_35 : decode cX3_addIfItFits 35 = .ok (.aload_n 0, 1) := by decide +kernel
theorem dX3_addIfItFits_36 : decode cX3_addIfItFits 36 = .ok (.getfield 30, 3) := by decide +kernel
theorem dX3_addIfItFits_39 : decode cX3_addIfItFits 39 = .ok (.getfield 158, 3) := by decide +kernel
theorem dX3_addIfItFits_42 : decode cX3_addIfItFits 42 = .ok (.iload_n 1, 1) := by decide +kernel
theorem dX3_addIfItFits_43 : decode cX3_addIfItFits 43 = .ok (.iaload, 1) := by decide +kernel
theorem dX3_addIfItFits_44 : decode cX3_addIfItFits 44 = .ok (.iadd, 1) := by decide +kernel
theorem dX3_addIfItFits_45 : decode cX3_addIfItFits 45 = .ok (.istore 5, 2) := by decide +kernel
theorem dX3_addIfItFits_47 : decode cX3_addIfItFits 47 = .ok (.iload 5, 2) := by decide +kernel
theorem dX3_addIfItFits_49 : decode cX3_addIfItFits 49 = .ok (.aload_n 0, 1) := by decide +kernel
theorem dX3_addIfItFits_50 : decode cX3_addIfItFits 50 = .ok (.getfield 50, 3) := by decide +kernel
theorem dX3_addIfItFits_53 : decode cX3_addIfItFits 53 = .ok (.if_icmp .le 5, 3) := by decide +kernel
theorem dX3_addIfItFits_56 : decode cX3_addIfItFits 56 = .ok (.iconst 0, 1) := by decide +kernel
theorem dX3_addIfItFits_57 : decode cX3_addIfItFits 57 = .ok (.ireturn, 1) := by decide +kernel
theorem dX3_addIfItFits_58 : decode cX3_addIfItFits 58 = .ok (.aload_n 0, 1) := by decide +kernel
theorem dX3_addIfItFits_59 : decode cX3_addIfItFits 59 = .ok (.getfield 34, 3) := by decide +kernel
theorem dX3_addIfItFits_62 : decode cX3_addIfItFits 62 = .ok (.iconst 4, 1) := by decide +kernel
theorem dX3_addIfItFits_63 : decode cX3_addIfItFits 63 = .ok (.iaload, 1) := by decide +kernel
theorem dX3_addIfItFits_64 : decode cX3_addIfItFits 64 = .ok (.ifCond .ne 20, 3) := by decide +kernel
theorem dX3_addIfItFits_67 : decode cX3_addIfItFits 67 = .ok (.iload 4, 2) := by decide +kernel
theorem dX3_addIfItFits_69 : decode cX3_addIfItFits 69 = .ok (.bipush 16, 2) := by decide +kernel
theorem dX3_addIfItFits_71 : decode cX3_addIfItFits 71 = .ok (.idiv, 1) := by decide +kernel
theorem dX3_addIfItFits_72 : decode cX3_addIfItFits 72 = .ok (.iload 5, 2) := by decide +kernel
theorem dX3_addIfItFits_74 : decode cX3_addIfItFits 74 = .ok (.iconst 1, 1) := by decide +kernel
theorem dX3_addIfItFits_75 : decode cX3_addIfItFits 75 = .ok (.isub, 1) := by decide +kernel
theorem dX3_addIfItFits_76 : decode cX3_addIfItFits 76 = .ok (.bipush 16, 2) := by decide +kernel
theorem dX3_addIfItFits_78 : decode cX3_addIfItFits 78 = .ok (.idiv, 1) := by decide +kernel
theorem dX3_addIfItFits_79 : decode cX3_addIfItFits 79 = .ok (.if_icmp .eq 5, 3) := by decide +kernel
theorem dX3_addIfItFits_82 : decode cX3_addIfItFits 82 = .ok (.iconst 0, 1) := by decide +kernel
theorem dX3_addIfItFits_83 : decode cX3_addIfItFits 83 = .ok (.ireturn, 1) := by decide +kernel
theorem dX3_addIfItFits_84 : decode cX3_addIfItFits 84 = .ok (.iload_n 2, 1) := by decide +kernel
theorem dX3_addIfItFits_85 : decode cX3_addIfItFits 85 = .ok (.iconst (-1), 1) := by decide +kernel
theorem dX3_addIfItFits_86 : decode cX3_addIfItFits 86 = .ok (.if_icmp .eq 13, 3) := by decide +kernel
theorem dX3_addIfItFits_89 : decode cX3_addIfItFits 89 = .ok (.aload_n 0, 1) := by decide +kernel
theorem dX3_addIfItFits_90 : decode cX3_addIfItFits 90 = .ok (.iload_n 3, 1) := by decide +kernel
theorem dX3_addIfItFits_91 : decode cX3_addIfItFits 91 = .ok (.invokevirtual 161, 3) := by decide +kernel
theorem dX3_addIfItFits_94 : decode cX3_addIfItFits 94 = .ok (.ifCond .ne 5, 3) := by decide +kernel
theorem dX3_addIfItFits_97 : decode cX3_addIfItFits 97 = .ok (.iconst 0, 1) := by decide +kernel
theorem dX3_addIfItFits_98 : decode cX3_addIfItFits 98 = .ok (.ireturn, 1) := by decide +kernel
theorem dX3_addIfItFits_99 : decode cX3_addIfItFits 99 = .ok (.aload_n 0, 1) := by decide +kernel
theorem dX3_addIfItFits_100 : decode cX3_addIfItFits 100 = .ok (.getfield 38, 3) := by decide +kernel
theorem dX3_addIfItFits_103 : decode cX3_addIfItFits 103 = .ok (.iload_n 2, 1) := by decide +kernel
theorem dX3_addIfItFits_104 : decode cX3_addIfItFits 104 = .ok (.iload_n 3, 1) := by decide +kernel
theorem dX3_addIfItFits_105 : decode cX3_addIfItFits 105 = .ok (.aload_n 0, 1) := by decide +kernel
theorem dX3_addIfItFits_106 : decode cX3_addIfItFits 106 = .ok (.getfield 30, 3) := by decide +kernel
theorem dX3_addIfItFits_109 : decode cX3_addIfItFits 109 = .ok (.getfield 158, 3) := by decide +kernel
theorem dX3_addIfItFits_112 : decode cX3_addIfItFits 112 = .ok (.iload_n 1, 1) := by decide +kernel
theorem dX3_addIfItFits_113 : decode cX3_addIfItFits 113 = .ok (.iaload, 1) := by decide +kernel
theorem dX3_addIfItFits_114 : decode cX3_addIfItFits 114 = .ok (.invokevirtual 164, 3) := by decide +kernel
theorem dX3_addIfItFits_117 : decode cX3_addIfItFits 117 = .ok (.iconst 1, 1) := by decide +kernel
theorem dX3_addIfItFits_118 : decode cX3_addIfItFits 118 = .ok (.ireturn, 1) := by decide +kernel
set_option maxRecDepth 20000 in
theorem ggX3_pitchFits_X9_isWithin : GoodIn wsX3_pitchFits wsX9_isWithin := goodIn_r _ [9] (by decide +kernel) (by decide +kernel)
set_option maxRecDepth 20000 in
theorem gX3_pitchFits_X9_isWithin_n168 : GoodIn wsX3_pitchFits (wsX9_isWithin) := ggX3_pitchFits_X9_isWithin
set_option maxRecDepth 20000 in
theorem ggX3_pitchFits_X8_latestPitch : GoodIn wsX3_pitchFits wsX8_latestPitch := goodIn_r _ [14, 15, 16, 17, 36, 37, 38, 39, 40, 41, 42] (by decide +kernel) (by decide +kernel)
set_option maxRecDepth 20000 in
theorem gX3_pitchFits_X8_latestPitch : GoodIn wsX3_pitchFits (wsV RX3 172 RX8 yX8_latestPitch wsX8_latestPitch) := goodIn_app (goodIn_of _ (by decide +kernel)) ggX3_pitchFits_X8_latestPitch
set_option maxRecDepth 20000 in
theorem ggX3_pitchFits_X8_alikeWith : GoodIn wsX3_pitchFits wsX8_alikeWith := goodIn_r _ [21, 22, 15, 23, 11, 12, 13, 14, 16, 17, 36, 37, 38, 39, 40, 41, 42] (by decide +kernel) (by decide +kernel)
set_option maxRecDepth 20000 in
theorem gX3_pitchFits_X8_alikeWith : GoodIn wsX3_pitchFits (wsV RX3 180 RX8 yX8_alikeWith wsX8_alikeWith) := goodIn_app (goodIn_of _ (by decide +kernel)) ggX3_pitchFits_X8_alikeWith
theorem dX3_pitchFits_0 : decode cX3_pitchFits 0 = .ok (.iload_n 1, 1) := by decide +kernel
theorem dX3_pitchFits_1 : decode cX3_pitchFits 1 = .ok (.aload_n 0, 1) := by decide +kernel
theorem dX3_pitchFits_2 : decode cX3_pitchFits 2 = .ok (.getfield 34, 3) := by decide +kernel
theorem dX3_pitchFits_5 : decode cX3_pitchFits 5 = .ok (.iconst 0, 1) := by decide +kernel
theorem dX3_pitchFits_6 : decode cX3_pitchFits 6 = .ok (.iaload, 1) := by decide +kernel
theorem dX3_pitchFits_7 : decode cX3_pitchFits 7 = .ok (.aload_n 0, 1) := by decide +kernel
theorem dX3_pitchFits_8 : decode cX3_pitchFits 8 = .ok (.getfield 34, 3) := by decide +kernel
theorem dX3_pitchFits_11 : decode cX3_pitchFits 11 = .ok (.iconst 1, 1) := by decide +kernel
theorem dX3_pitchFits_12 : decode cX3_pitchFits 12 = .ok (.iaload, 1) := by decide +kernel
theorem dX3_pitchFits_13 : decode cX3_pitchFits 13 = .ok (.invokestatic 168, 3) := by decide +kernel
theorem dX3_pitchFits_16 : decode cX3_pitchFits 16 = .ok (.ifCond .ne 5, 3) := by decide +kernel
theorem dX3_pitchFits_19 : decode cX3_pitchFits 19 = .ok (.iconst 0, 1) := by decide +kernel
theorem dX3_pitchFits_20 : decode cX3_pitchFits 20 = .ok (.ireturn, 1) := by decide +kernel
theorem dX3_pitchFits_21 : decode cX3_pitchFits 21 = .ok (.aload_n 0, 1) := by decide +kernel
theorem dX3_pitchFits_22 : decode cX3_pitchFits 22 = .ok (.getfield 38, 3) := by decide +kernel
theorem dX3_pitchFits_25 : decode cX3_pitchFits 25 = .ok (.invokevirtual 172, 3) := by decide +kernel
theorem dX3_pitchFits_28 : decode cX3_pitchFits 28 = .ok (.istore_n 2, 1) := by decide +kernel
theorem dX3_pitchFits_29 : decode cX3_pitchFits 29 = .ok (.iload_n 2, 1) := by decide +kernel
theorem dX3_pitchFits_30 : decode cX3_pitchFits 30 = .ok (.iconst (-1), 1) := by decide +kernel
theorem dX3_pitchFits_31 : decode cX3_pitchFits 31 = .ok (.if_icmp .eq 20, 3) := by decide +kernel
theorem dX3_pitchFits_34 : decode cX3_pitchFits 34 = .ok (.iload_n 1, 1) := by decide +kernel
theorem dX3_pitchFits_35 : decode cX3_pitchFits 35 = .ok (.iload_n 2, 1) := by decide +kernel
theorem dX3_pitchFits_36 : decode cX3_pitchFits 36 = .ok (.isub, 1) := by decide +kernel
theorem dX3_pitchFits_37 : decode cX3_pitchFits 37 = .ok (.invokestatic 175, 3) := by decide +kernel
theorem dX3_pitchFits_40 : decode cX3_pitchFits 40 = .ok (.aload_n 0, 1) := by decide +kernel
theorem dX3_pitchFits_41 : decode cX3_pitchFits 41 = .ok (.getfield 34, 3) := by decide +kernel
theorem dX3_pitchFits_44 : decode cX3_pitchFits 44 = .ok (.iconst 2, 1) := by decide +kernel
theorem dX3_pitchFits_45 : decode cX3_pitchFits 45 = .ok (.iaload, 1) := by decide +kernel
theorem dX3_pitchFits_46 : decode cX3_pitchFits 46 = .ok (.if_icmp .le 5, 3) := by decide +kernel
theorem dX3_pitchFits_49 : decode cX3_pitchFits 49 = .ok (.iconst 0, 1) := by decide +kernel
theorem dX3_pitchFits_50 : decode cX3_pitchFits 50 = .ok (.ireturn, 1) := by decide +kernel
theorem dX3_pitchFits_51 : decode cX3_pitchFits 51 = .ok (.aload_n 0, 1) := by decide +kernel
theorem dX3_pitchFits_52 : decode cX3_pitchFits 52 = .ok (.getfield 38, 3) := by decide +kernel
theorem dX3_pitchFits_55 : decode cX3_pitchFits 55 = .ok (.iload_n 1, 1) := by decide +kernel
theorem dX3_pitchFits_56 : decode cX3_pitchFits 56 = .ok (.invokevirtual 180, 3) := by decide +kernel
theorem dX3_pitchFits_59 : decode cX3_pitchFits 59 = .ok (.aload_n 0, 1) := by decide +kernel
theorem dX3_pitchFits_60 : decode cX3_pitchFits 60 = .ok (.getfield 34, 3) := by decide +kernel
theorem dX3_pitchFits_63 : decode cX3_pitchFits 63 = .ok (.iconst 3, 1) := by decide +kernel
theorem dX3_pitchFits_64 : decode cX3_pitchFits 64 = .ok (.iaload, 1) := by decide +kernel
theorem dX3_pitchFits_65 : decode cX3_pitchFits 65 = .ok (.if_icmp .gt 7, 3) := by decide +kernel
theorem dX3_pitchFits_68 : decode cX3_pitchFits 68 = .ok (.iconst 1, 1) := by decide +kernel
theorem dX3_pitchFits_69 : decode cX3_pitchFits 69 = .ok (.goto 4, 3) := by decide +kernel
theorem dX3_pitchFits_72 : decode cX3_pitchFits 72 = .ok (.iconst 0, 1) := by decide +kernel
theorem dX3_pitchFits_73 : decode cX3_pitchFits 73 = .ok (.ireturn, 1) := by decide +kernel
