def qX8_latestPitch_0 : List (Nat × Instr × Nat) := [(0, .aload_n 0, 1), (1, .getfield 30, 3), (4, .ifCond .ne 7, 3), (7, .iconst (-1), 1), (8, .goto 14, 3), (11, .aload_n 0, 1), (12, .getfield 24, 3), (15, .aload_n 0, 1), (16, .getfield 30, 3), (19, .iconst 1, 1), (20, .isub, 1), (21, .iaload, 1), (22, .istore_n 1, 1), (23, .iload_n 1, 1), (24, .iconst (-1), 1), (25, .if_icmp .ne 7, 3), (28, .iconst (-1), 1), (29, .goto 9, 3), (32, .aload_n 0, 1), (33, .getfield 9, 3), (36, .iload_n 1, 1), (37, .iaload, 1), (38, .ireturn, 1)]
theorem QX8_latestPitch_0 : qX8_latestPitch_0.all (fun q => decide (decode cX8_latestPitch q.1 = .ok q.2)) = true := by decide +kernel
theorem dX8_latestPitch_0 : decode cX8_latestPitch 0 = .ok (.aload_n 0, 1) := of_q QX8_latestPitch_0 0 rfl
theorem dX8_latestPitch_1 : decode cX8_latestPitch 1 = .ok (.getfield 30, 3) := of_q QX8_latestPitch_0 1 rfl
theorem dX8_latestPitch_4 : decode cX8_latestPitch 4 = .ok (.ifCond .ne 7, 3) := of_q QX8_latestPitch_0 2 rfl
theorem dX8_latestPitch_7 : decode cX8_latestPitch 7 = .ok (.iconst (-1), 1) := of_q QX8_latestPitch_0 3 rfl
theorem dX8_latestPitch_8 : decode cX8_latestPitch 8 = .ok (.goto 14, 3) := of_q QX8_latestPitch_0 4 rfl
theorem dX8_latestPitch_11 : decode cX8_latestPitch 11 = .ok (.aload_n 0, 1) := of_q QX8_latestPitch_0 5 rfl
theorem dX8_latestPitch_12 : decode cX8_latestPitch 12 = .ok (.getfield 24, 3) := of_q QX8_latestPitch_0 6 rfl
theorem dX8_latestPitch_15 : decode cX8_latestPitch 15 = .ok (.aload_n 0, 1) := of_q QX8_latestPitch_0 7 rfl
theorem dX8_latestPitch_16 : decode cX8_latestPitch 16 = .ok (.getfield 30, 3) := of_q QX8_latestPitch_0 8 rfl
theorem dX8_latestPitch_19 : decode cX8_latestPitch 19 = .ok (.iconst 1, 1) := of_q QX8_latestPitch_0 9 rfl
theorem dX8_latestPitch_20 : decode cX8_latestPitch 20 = .ok (.isub, 1) := of_q QX8_latestPitch_0 10 rfl
theorem dX8_latestPitch_21 : decode cX8_latestPitch 21 = .ok (.iaload, 1) := of_q QX8_latestPitch_0 11 rfl
theorem dX8_latestPitch_22 : decode cX8_latestPitch 22 = .ok (.istore_n 1, 1) := of_q QX8_latestPitch_0 12 rfl
theorem dX8_latestPitch_23 : decode cX8_latestPitch 23 = .ok (.iload_n 1, 1) := of_q QX8_latestPitch_0 13 rfl
theorem dX8_latestPitch_24 : decode cX8_latestPitch 24 = .ok (.iconst (-1), 1) := of_q QX8_latestPitch_0 14 rfl
theorem dX8_latestPitch_25 : decode cX8_latestPitch 25 = .ok (.if_icmp .ne 7, 3) := of_q QX8_latestPitch_0 15 rfl
theorem dX8_latestPitch_28 : decode cX8_latestPitch 28 = .ok (.iconst (-1), 1) := of_q QX8_latestPitch_0 16 rfl
theorem dX8_latestPitch_29 : decode cX8_latestPitch 29 = .ok (.goto 9, 3) := of_q QX8_latestPitch_0 17 rfl
theorem dX8_latestPitch_32 : decode cX8_latestPitch 32 = .ok (.aload_n 0, 1) := of_q QX8_latestPitch_0 18 rfl
theorem dX8_latestPitch_33 : decode cX8_latestPitch 33 = .ok (.getfield 9, 3) := of_q QX8_latestPitch_0 19 rfl
theorem dX8_latestPitch_36 : decode cX8_latestPitch 36 = .ok (.iload_n 1, 1) := of_q QX8_latestPitch_0 20 rfl
theorem dX8_latestPitch_37 : decode cX8_latestPitch 37 = .ok (.iaload, 1) := of_q QX8_latestPitch_0 21 rfl
theorem dX8_latestPitch_38 : decode cX8_latestPitch 38 = .ok (.ireturn, 1) := of_q QX8_latestPitch_0 22 rfl
def qX8_latestDegree_0 : List (Nat × Instr × Nat) := [(0, .aload_n 0, 1), (1, .getfield 30, 3), (4, .ifCond .ne 7, 3), (7, .iconst (-1), 1), (8, .goto 14, 3), (11, .aload_n 0, 1), (12, .getfield 24, 3), (15, .aload_n 0, 1), (16, .getfield 30, 3), (19, .iconst 1, 1), (20, .isub, 1), (21, .iaload, 1), (22, .istore_n 1, 1), (23, .iload_n 1, 1), (24, .iconst (-1), 1), (25, .if_icmp .ne 7, 3), (28, .iconst (-1), 1), (29, .goto 9, 3), (32, .aload_n 0, 1), (33, .getfield 21, 3), (36, .iload_n 1, 1), (37, .iaload, 1), (38, .ireturn, 1)]
theorem QX8_latestDegree_0 : qX8_latestDegree_0.all (fun q => decide (decode cX8_latestDegree q.1 = .ok q.2)) = true := by decide +kernel
theorem dX8_latestDegree_0 : decode cX8_latestDegree 0 = .ok (.aload_n 0, 1) := of_q QX8_latestDegree_0 0 rfl
theorem dX8_latestDegree_1 : decode cX8_latestDegree 1 = .ok (.getfield 30, 3) := of_q QX8_latestDegree_0 1 rfl
theorem dX8_latestDegree_4 : decode cX8_latestDegree 4 = .ok (.ifCond .ne 7, 3) := of_q QX8_latestDegree_0 2 rfl
theorem dX8_latestDegree_7 : decode cX8_latestDegree 7 = .ok (.iconst (-1), 1) := of_q QX8_latestDegree_0 3 rfl
theorem dX8_latestDegree_8 : decode cX8_latestDegree 8 = .ok (.goto 14, 3) := of_q QX8_latestDegree_0 4 rfl
theorem dX8_latestDegree_11 : decode cX8_latestDegree 11 = .ok (.aload_n 0, 1) := of_q QX8_latestDegree_0 5 rfl
theorem dX8_latestDegree_12 : decode cX8_latestDegree 12 = .ok (.getfield 24, 3) := of_q QX8_latestDegree_0 6 rfl
theorem dX8_latestDegree_15 : decode cX8_latestDegree 15 = .ok (.aload_n 0, 1) := of_q QX8_latestDegree_0 7 rfl
theorem dX8_latestDegree_16 : decode cX8_latestDegree 16 = .ok (.getfield 30, 3) := of_q QX8_latestDegree_0 8 rfl
theorem dX8_latestDegree_19 : decode cX8_latestDegree 19 = .ok (.iconst 1, 1) := of_q QX8_latestDegree_0 9 rfl
theorem dX8_latestDegree_20 : decode cX8_latestDegree 20 = .ok (.isub, 1) := of_q QX8_latestDegree_0 10 rfl
theorem dX8_latestDegree_21 : decode cX8_latestDegree 21 = .ok (.iaload, 1) := of_q QX8_latestDegree_0 11 rfl
theorem dX8_latestDegree_22 : decode cX8_latestDegree 22 = .ok (.istore_n 1, 1) := of_q QX8_latestDegree_0 12 rfl
theorem dX8_latestDegree_23 : decode cX8_latestDegree 23 = .ok (.iload_n 1, 1) := of_q QX8_latestDegree_0 13 rfl
theorem dX8_latestDegree_24 : decode cX8_latestDegree 24 = .ok (.iconst (-1), 1) := of_q QX8_latestDegree_0 14 rfl
theorem dX8_latestDegree_25 : decode cX8_latestDegree 25 = .ok (.if_icmp .ne 7, 3) := of_q QX8_latestDegree_0 15 rfl
theorem dX8_latestDegree_28 : decode cX8_latestDegree 28 = .ok (.iconst (-1), 1) := of_q QX8_latestDegree_0 16 rfl
theorem dX8_latestDegree_29 : decode cX8_latestDegree 29 = .ok (.goto 9, 3) := of_q QX8_latestDegree_0 17 rfl
theorem dX8_latestDegree_32 : decode cX8_latestDegree 32 = .ok (.aload_n 0, 1) := of_q QX8_latestDegree_0 18 rfl
theorem dX8_latestDegree_33 : decode cX8_latestDegree 33 = .ok (.getfield 21, 3) := of_q QX8_latestDegree_0 19 rfl
theorem dX8_latestDegree_36 : decode cX8_latestDegree 36 = .ok (.iload_n 1, 1) := of_q QX8_latestDegree_0 20 rfl
theorem dX8_latestDegree_37 : decode cX8_latestDegree 37 = .ok (.iaload, 1) := of_q QX8_latestDegree_0 21 rfl
theorem dX8_latestDegree_38 : decode cX8_latestDegree 38 = .ok (.ireturn, 1) := of_q QX8_latestDegree_0 22 rfl
def qX8_alikeWith_0 : List (Nat × Instr × Nat) := [(0, .aload_n 0, 1), (1, .invokevirtual 41, 3), (4, .iload_n 1, 1), (5, .if_icmp .ne 19, 3), (8, .aload_n 0, 1), (9, .getfield 27, 3), (12, .aload_n 0, 1), (13, .getfield 30, 3), (16, .iconst 1, 1), (17, .isub, 1), (18, .iaload, 1), (19, .iconst 1, 1), (20, .iadd, 1), (21, .goto 4, 3), (24, .iconst 1, 1), (25, .ireturn, 1)]
theorem QX8_alikeWith_0 : qX8_alikeWith_0.all (fun q => decide (decode cX8_alikeWith q.1 = .ok q.2)) = true := by decide +kernel
theorem dX8_alikeWith_0 : decode cX8_alikeWith 0 = .ok (.aload_n 0, 1) := of_q QX8_alikeWith_0 0 rfl
theorem dX8_alikeWith_1 : decode cX8_alikeWith 1 = .ok (.invokevirtual 41, 3) := of_q QX8_alikeWith_0 1 rfl
theorem dX8_alikeWith_4 : decode cX8_alikeWith 4 = .ok (.iload_n 1, 1) := of_q QX8_alikeWith_0 2 rfl
theorem dX8_alikeWith_5 : decode cX8_alikeWith 5 = .ok (.if_icmp .ne 19, 3) := of_q QX8_alikeWith_0 3 rfl
theorem dX8_alikeWith_8 : decode cX8_alikeWith 8 = .ok (.aload_n 0, 1) := of_q QX8_alikeWith_0 4 rfl
theorem dX8_alikeWith_9 : decode cX8_alikeWith 9 = .ok (.getfield 27, 3) := of_q QX8_alikeWith_0 5 rfl
theorem dX8_alikeWith_12 : decode cX8_alikeWith 12 = .ok (.aload_n 0, 1) := of_q QX8_alikeWith_0 6 rfl
theorem dX8_alikeWith_13 : decode cX8_alikeWith 13 = .ok (.getfield 30, 3) := of_q QX8_alikeWith_0 7 rfl
theorem dX8_alikeWith_16 : decode cX8_alikeWith 16 = .ok (.iconst 1, 1) := of_q QX8_alikeWith_0 8 rfl
theorem dX8_alikeWith_17 : decode cX8_alikeWith 17 = .ok (.isub, 1) := of_q QX8_alikeWith_0 9 rfl
theorem dX8_alikeWith_18 : decode cX8_alikeWith 18 = .ok (.iaload, 1) := of_q QX8_alikeWith_0 10 rfl
theorem dX8_alikeWith_19 : decode cX8_alikeWith 19 = .ok (.iconst 1, 1) := of_q QX8_alikeWith_0 11 rfl
theorem dX8_alikeWith_20 : decode cX8_alikeWith 20 = .ok (.iadd, 1) := of_q QX8_alikeWith_0 12 rfl
theorem dX8_alikeWith_21 : decode cX8_alikeWith 21 = .ok (.goto 4, 3) := of_q QX8_alikeWith_0 13 rfl
theorem dX8_alikeWith_24 : decode cX8_alikeWith 24 = .ok (.iconst 1, 1) := of_q QX8_alikeWith_0 14 rfl
theorem dX8_alikeWith_25 : decode cX8_alikeWith 25 = .ok (.ireturn, 1) := of_q QX8_alikeWith_0 15 rfl
def qX8_add_0 : List (Nat × Instr × Nat) := [(0, .aload_n 0, 1), (1, .getfield 30, 3), (4, .sipush 256, 3), (7, .if_icmp .lt 4, 3), (10, .return_, 1), (11, .iload_n 1, 1), (12, .iconst (-1), 1), (13, .if_icmp .ne 7, 3), (16, .iconst 1, 1), (17, .goto 4, 3), (20, .iconst 0, 1), (21, .istore 4, 2), (23, .aload_n 0, 1), (24, .getfield 30, 3), (27, .ifCond .ne 7, 3), (30, .iconst (-1), 1), (31, .goto 14, 3), (34, .aload_n 0, 1), (35, .getfield 24, 3), (38, .aload_n 0, 1), (39, .getfield 30, 3), (42, .iconst 1, 1), (43, .isub, 1), (44, .iaload, 1), (45, .istore 5, 2), (47, .aload_n 0, 1), (48, .getfield 30, 3), (51, .ifCond .ne 7, 3), (54, .iconst 0, 1), (55, .goto 14, 3), (58, .aload_n 0, 1), (59, .getfield 27, 3), (62, .aload_n 0, 1), (63, .getfield 30, 3), (66, .iconst 1, 1), (67, .isub, 1), (68, .iaload, 1), (69, .istore 6, 2), (71, .aload_n 0, 1), (72, .getfield 18, 3), (75, .aload_n 0, 1), (76, .getfield 30, 3), (79, .aload_n 0, 1), (80, .invokevirtual 45, 3), (83, .iastore, 1), (84, .aload_n 0, 1), (85, .getfield 27, 3), (88, .aload_n 0, 1), (89, .getfield 30, 3), (92, .iload 4, 2), (94, .ifCond .eq 8, 3), (97, .iload 6, 2), (99, .goto 8, 3), (102, .aload_n 0, 1), (103, .iload_n 2, 1), (104, .invokevirtual 48, 3), (107, .iastore, 1), (108, .aload_n 0, 1), (109, .getfield 24, 3), (112, .aload_n 0, 1)]
theorem QX8_add_0 : qX8_add_0.all (fun q => decide (decode cX8_add q.1 = .ok q.2)) = true := by decide +kernel
theorem dX8_add_0 : decode cX8_add 0 = .ok (.aload_n 0, 1) := of_q QX8_add_0 0 rfl
theorem dX8_add_1 : decode cX8_add 1 = .ok (.getfield 30, 3) := of_q QX8_add_0 1 rfl
theorem dX8_add_4 : decode cX8_add 4 = .ok (.sipush 256, 3) := of_q QX8_add_0 2 rfl
theorem dX8_add_7 : decode cX8_add 7 = .ok (.if_icmp .lt 4, 3) := of_q QX8_add_0 3 rfl
theorem dX8_add_10 : decode cX8_add 10 = .ok (.return_, 1) := of_q QX8_add_0 4 rfl
theorem dX8_add_11 : decode cX8_add 11 = .ok (.iload_n 1, 1) := of_q QX8_add_0 5 rfl
theorem dX8_add_12 : decode cX8_add 12 = .ok (.iconst (-1), 1) := of_q QX8_add_0 6 rfl
theorem dX8_add_13 : decode cX8_add 13 = .ok (.if_icmp .ne 7, 3) := of_q QX8_add_0 7 rfl
theorem dX8_add_16 : decode cX8_add 16 = .ok (.iconst 1, 1) := of_q QX8_add_0 8 rfl
theorem dX8_add_17 : decode cX8_add 17 = .ok (.goto 4, 3) := of_q QX8_add_0 9 rfl
theorem dX8_add_20 : decode cX8_add 20 = .ok (.iconst 0, 1) := of_q QX8_add_0 10 rfl
theorem dX8_add_21 : decode cX8_add 21 = .ok (.istore 4, 2) := of_q QX8_add_0 11 rfl
theorem dX8_add_23 : decode cX8_add 23 = .ok (.aload_n 0, 1) := of_q QX8_add_0 12 rfl
theorem dX8_add_24 : decode cX8_add 24 = .ok (.getfield 30, 3) := of_q QX8_add_0 13 rfl
theorem dX8_add_27 : decode cX8_add 27 = .ok (.ifCond .ne 7, 3) := of_q QX8_add_0 14 rfl
theorem dX8_add_30 : decode cX8_add 30 = .ok (.iconst (-1), 1) := of_q QX8_add_0 15 rfl
theorem dX8_add_31 : decode cX8_add 31 = .ok (.goto 14, 3) := of_q QX8_add_0 16 rfl
theorem dX8_add_34 : decode cX8_add 34 = .ok (.aload_n 0, 1) := of_q QX8_add_0 17 rfl
theorem dX8_add_35 : decode cX8_add 35 = .ok (.getfield 24, 3) := of_q QX8_add_0 18 rfl
theorem dX8_add_38 : decode cX8_add 38 = .ok (.aload_n 0, 1) := of_q QX8_add_0 19 rfl
theorem dX8_add_39 : decode cX8_add 39 = .ok (.getfield 30, 3) := of_q QX8_add_0 20 rfl
theorem dX8_add_42 : decode cX8_add 42 = .ok (.iconst 1, 1) := of_q QX8_add_0 21 rfl
theorem dX8_add_43 : decode cX8_add 43 = .ok (.isub, 1) := of_q QX8_add_0 22 rfl
theorem dX8_add_44 : decode cX8_add 44 = .ok (.iaload, 1) := of_q QX8_add_0 23 rfl
theorem dX8_add_45 : decode cX8_add 45 = .ok (.istore 5, 2) := of_q QX8_add_0 24 rfl
theorem dX8_add_47 : decode cX8_add 47 = .ok (.aload_n 0, 1) := of_q QX8_add_0 25 rfl
theorem dX8_add_48 : decode cX8_add 48 = .ok (.getfield 30, 3) := of_q QX8_add_0 26 rfl
theorem dX8_add_51 : decode cX8_add 51 = .ok (.ifCond .ne 7, 3) := of_q QX8_add_0 27 rfl
theorem dX8_add_54 : decode cX8_add 54 = .ok (.iconst 0, 1) := of_q QX8_add_0 28 rfl
theorem dX8_add_55 : decode cX8_add 55 = .ok (.goto 14, 3) := of_q QX8_add_0 29 rfl
theorem dX8_add_58 : decode cX8_add 58 = .ok (.aload_n 0, 1) := of_q QX8_add_0 30 rfl
theorem dX8_add_59 : decode cX8_add 59 = .ok (.getfield 27, 3) := of_q QX8_add_0 31 rfl
theorem dX8_add_62 : decode cX8_add 62 = .ok (.aload_n 0, 1) := of_q QX8_add_0 32 rfl
theorem dX8_add_63 : decode cX8_add 63 = .ok (.getfield 30, 3) := of_q QX8_add_0 33 rfl
theorem dX8_add_66 : decode cX8_add 66 = .ok (.iconst 1, 1) := of_q QX8_add_0 34 rfl
theorem dX8_add_67 : decode cX8_add 67 = .ok (.isub, 1) := of_q QX8_add_0 35 rfl
theorem dX8_add_68 : decode cX8_add 68 = .ok (.iaload, 1) := of_q QX8_add_0 36 rfl
theorem dX8_add_69 : decode cX8_add 69 = .ok (.istore 6, 2) := of_q QX8_add_0 37 rfl
theorem dX8_add_71 : decode cX8_add 71 = .ok (.aload_n 0, 1) := of_q QX8_add_0 38 rfl
theorem dX8_add_72 : decode cX8_add 72 = .ok (.getfield 18, 3) := of_q QX8_add_0 39 rfl
theorem dX8_add_75 : decode cX8_add 75 = .ok (.aload_n 0, 1) := of_q QX8_add_0 40 rfl
theorem dX8_add_76 : decode cX8_add 76 = .ok (.getfield 30, 3) := of_q QX8_add_0 41 rfl
theorem dX8_add_79 : decode cX8_add 79 = .ok (.aload_n 0, 1) := of_q QX8_add_0 42 rfl
theorem dX8_add_80 : decode cX8_add 80 = .ok (.invokevirtual 45, 3) := of_q QX8_add_0 43 rfl
theorem dX8_add_83 : decode cX8_add 83 = .ok (.iastore, 1) := of_q QX8_add_0 44 rfl
theorem dX8_add_84 : decode cX8_add 84 = .ok (.aload_n 0, 1) := of_q QX8_add_0 45 rfl
theorem dX8_add_85 : decode cX8_add 85 = .ok (.getfield 27, 3) := of_q QX8_add_0 46 rfl
theorem dX8_add_88 : decode cX8_add 88 = .ok (.aload_n 0, 1) := of_q QX8_add_0 47 rfl
theorem dX8_add_89 : decode cX8_add 89 = .ok (.getfield 30, 3) := of_q QX8_add_0 48 rfl
theorem dX8_add_92 : decode cX8_add 92 = .ok (.iload 4, 2) := of_q QX8_add_0 49 rfl
theorem dX8_add_94 : decode cX8_add 94 = .ok (.ifCond .eq 8, 3) := of_q QX8_add_0 50 rfl
theorem dX8_add_97 : decode cX8_add 97 = .ok (.iload 6, 2) := of_q QX8_add_0 51 rfl
theorem dX8_add_99 : decode cX8_add 99 = .ok (.goto 8, 3) := of_q QX8_add_0 52 rfl
theorem dX8_add_102 : decode cX8_add 102 = .ok (.aload_n 0, 1) := of_q QX8_add_0 53 rfl
theorem dX8_add_103 : decode cX8_add 103 = .ok (.iload_n 2, 1) := of_q QX8_add_0 54 rfl
theorem dX8_add_104 : decode cX8_add 104 = .ok (.invokevirtual 48, 3) := of_q QX8_add_0 55 rfl
theorem dX8_add_107 : decode cX8_add 107 = .ok (.iastore, 1) := of_q QX8_add_0 56 rfl
theorem dX8_add_108 : decode cX8_add 108 = .ok (.aload_n 0, 1) := of_q QX8_add_0 57 rfl
theorem dX8_add_109 : decode cX8_add 109 = .ok (.getfield 24, 3) := of_q QX8_add_0 58 rfl
theorem dX8_add_112 : decode cX8_add 112 = .ok (.aload_n 0, 1) := of_q QX8_add_0 59 rfl
def qX8_add_1 : List (Nat × Instr × Nat) := [(113, .getfield 30, 3), (116, .iload 4, 2), (118, .ifCond .eq 8, 3), (121, .iload 5, 2), (123, .goto 7, 3), (126, .aload_n 0, 1), (127, .getfield 30, 3), (130, .iastore, 1), (131, .aload_n 0, 1), (132, .getfield 9, 3), (135, .aload_n 0, 1), (136, .getfield 30, 3), (139, .iload_n 2, 1), (140, .iastore, 1), (141, .aload_n 0, 1), (142, .getfield 15, 3), (145, .aload_n 0, 1), (146, .getfield 30, 3), (149, .iload_n 3, 1), (150, .iastore, 1), (151, .aload_n 0, 1), (152, .getfield 21, 3), (155, .aload_n 0, 1), (156, .getfield 30, 3), (159, .iload_n 1, 1), (160, .iastore, 1), (161, .aload_n 0, 1), (162, .dup, 1), (163, .getfield 30, 3), (166, .iconst 1, 1), (167, .iadd, 1), (168, .putfield 30, 3), (171, .return_, 1)]
theorem QX8_add_1 : qX8_add_1.all (fun q => decide (decode cX8_add q.1 = .ok q.2)) = true := by decide +kernel
theorem dX8_add_113 : decode cX8_add 113 = .ok (.getfield 30, 3) := of_q QX8_add_1 0 rfl
theorem dX8_add_116 : decode cX8_add 116 = .ok (.iload 4, 2) := of_q QX8_add_1 1 rfl
theorem dX8_add_118 : decode cX8_add 118 = .ok (.ifCond .eq 8, 3) := of_q QX8_add_1 2 rfl
theorem dX8_add_121 : decode cX8_add 121 = .ok (.iload 5, 2) := of_q QX8_add_1 3 rfl
theorem dX8_add_123 : decode cX8_add 123 = .ok (.goto 7, 3) := of_q QX8_add_1 4 rfl
theorem dX8_add_126 : decode cX8_add 126 = .ok (.aload_n 0, 1) := of_q QX8_add_1 5 rfl
theorem dX8_add_127 : decode cX8_add 127 = .ok (.getfield 30, 3) := of_q QX8_add_1 6 rfl
theorem dX8_add_130 : decode cX8_add 130 = .ok (.iastore, 1) := of_q QX8_add_1 7 rfl
theorem dX8_add_131 : decode cX8_add 131 = .ok (.aload_n 0, 1) := of_q QX8_add_1 8 rfl
theorem dX8_add_132 : decode cX8_add 132 = .ok (.getfield 9, 3) := of_q QX8_add_1 9 rfl
theorem dX8_add_135 : decode cX8_add 135 = .ok (.aload_n 0, 1) := of_q QX8_add_1 10 rfl
theorem dX8_add_136 : decode cX8_add 136 = .ok (.getfield 30, 3) := of_q QX8_add_1 11 rfl
theorem dX8_add_139 : decode cX8_add 139 = .ok (.iload_n 2, 1) := of_q QX8_add_1 12 rfl
theorem dX8_add_140 : decode cX8_add 140 = .ok (.iastore, 1) := of_q QX8_add_1 13 rfl
theorem dX8_add_141 : decode cX8_add 141 = .ok (.aload_n 0, 1) := of_q QX8_add_1 14 rfl
theorem dX8_add_142 : decode cX8_add 142 = .ok (.getfield 15, 3) := of_q QX8_add_1 15 rfl
theorem dX8_add_145 : decode cX8_add 145 = .ok (.aload_n 0, 1) := of_q QX8_add_1 16 rfl
theorem dX8_add_146 : decode cX8_add 146 = .ok (.getfield 30, 3) := of_q QX8_add_1 17 rfl
theorem dX8_add_149 : decode cX8_add 149 = .ok (.iload_n 3, 1) := of_q QX8_add_1 18 rfl
theorem dX8_add_150 : decode cX8_add 150 = .ok (.iastore, 1) := of_q QX8_add_1 19 rfl
theorem dX8_add_151 : decode cX8_add 151 = .ok (.aload_n 0, 1) := of_q QX8_add_1 20 rfl
theorem dX8_add_152 : decode cX8_add 152 = .ok (.getfield 21, 3) := of_q QX8_add_1 21 rfl
theorem dX8_add_155 : decode cX8_add 155 = .ok (.aload_n 0, 1) := of_q QX8_add_1 22 rfl
theorem dX8_add_156 : decode cX8_add 156 = .ok (.getfield 30, 3) := of_q QX8_add_1 23 rfl
theorem dX8_add_159 : decode cX8_add 159 = .ok (.iload_n 1, 1) := of_q QX8_add_1 24 rfl
theorem dX8_add_160 : decode cX8_add 160 = .ok (.iastore, 1) := of_q QX8_add_1 25 rfl
theorem dX8_add_161 : decode cX8_add 161 = .ok (.aload_n 0, 1) := of_q QX8_add_1 26 rfl
theorem dX8_add_162 : decode cX8_add 162 = .ok (.dup, 1) := of_q QX8_add_1 27 rfl
theorem dX8_add_163 : decode cX8_add 163 = .ok (.getfield 30, 3) := of_q QX8_add_1 28 rfl
theorem dX8_add_166 : decode cX8_add 166 = .ok (.iconst 1, 1) := of_q QX8_add_1 29 rfl
theorem dX8_add_167 : decode cX8_add 167 = .ok (.iadd, 1) := of_q QX8_add_1 30 rfl
theorem dX8_add_168 : decode cX8_add 168 = .ok (.putfield 30, 3) := of_q QX8_add_1 31 rfl
theorem dX8_add_171 : decode cX8_add 171 = .ok (.return_, 1) := of_q QX8_add_1 32 rfl
def qX9_init_0 : List (Nat × Instr × Nat) := [(0, .aload_n 0, 1), (1, .invokespecial 3, 3), (4, .aload_n 0, 1), (5, .new 9, 3), (8, .dup, 1), (9, .invokespecial 11, 3), (12, .putfield 12, 3), (15, .aload_n 0, 1), (16, .new 16, 3), (19, .dup, 1), (20, .invokespecial 18, 3), (23, .putfield 19, 3), (26, .aload_n 0, 1), (27, .new 16, 3), (30, .dup, 1), (31, .invokespecial 18, 3), (34, .putfield 23, 3), (37, .aload_n 0, 1), (38, .bipush 7, 2), (40, .newarray .int, 2), (42, .putfield 26, 3), (45, .aload_n 0, 1), (46, .new 30, 3), (49, .dup, 1), (50, .invokespecial 32, 3), (53, .putfield 33, 3), (56, .aload_n 0, 1), (57, .new 37, 3), (60, .dup, 1), (61, .invokespecial 39, 3), (64, .putfield 40, 3), (67, .aload_n 0, 1), (68, .iconst 0, 1), (69, .putfield 44, 3), (72, .aload_n 0, 1), (73, .new 48, 3), (76, .dup, 1), (77, .invokespecial 50, 3), (80, .putfield 51, 3), (83, .aload_n 0, 1), (84, .new 55, 3), (87, .dup, 1), (88, .invokespecial 57, 3), (91, .putfield 58, 3), (94, .getstatic 62, 3), (97, .iconst 0, 1), (98, .aload_n 0, 1), (99, .getfield 26, 3), (102, .iconst 0, 1), (103, .bipush 7, 2), (105, .invokestatic 65, 3), (108, .return_, 1)]
theorem QX9_init_0 : qX9_init_0.all (fun q => decide (decode cX9_init q.1 = .ok q.2)) = true := by decide +kernel
theorem dX9_init_0 : decode cX9_init 0 = .ok (.aload_n 0, 1) := of_q QX9_init_0 0 rfl
theorem dX9_init_1 : decode cX9_init 1 = .ok (.invokespecial 3, 3) := of_q QX9_init_0 1 rfl
theorem dX9_init_4 : decode cX9_init 4 = .ok (.aload_n 0, 1) := of_q QX9_init_0 2 rfl
theorem dX9_init_5 : decode cX9_init 5 = .ok (.new 9, 3) := of_q QX9_init_0 3 rfl
theorem dX9_init_8 : decode cX9_init 8 = .ok (.dup, 1) := of_q QX9_init_0 4 rfl
theorem dX9_init_9 : decode cX9_init 9 = .ok (.invokespecial 11, 3) := of_q QX9_init_0 5 rfl
theorem dX9_init_12 : decode cX9_init 12 = .ok (.putfield 12, 3) := of_q QX9_init_0 6 rfl
theorem dX9_init_15 : decode cX9_init 15 = .ok (.aload_n 0, 1) := of_q QX9_init_0 7 rfl
theorem dX9_init_16 : decode cX9_init 16 = .ok (.new 16, 3) := of_q QX9_init_0 8 rfl
theorem dX9_init_19 : decode cX9_init 19 = .ok (.dup, 1) := of_q QX9_init_0 9 rfl
theorem dX9_init_20 : decode cX9_init 20 = .ok (.invokespecial 18, 3) := of_q QX9_init_0 10 rfl
theorem dX9_init_23 : decode cX9_init 23 = .ok (.putfield 19, 3) := of_q QX9_init_0 11 rfl
theorem dX9_init_26 : decode cX9_init 26 = .ok (.aload_n 0, 1) := of_q QX9_init_0 12 rfl
theorem dX9_init_27 : decode cX9_init 27 = .ok (.new 16, 3) := of_q QX9_init_0 13 rfl
theorem dX9_init_30 : decode cX9_init 30 = .ok (.dup, 1) := of_q QX9_init_0 14 rfl
theorem dX9_init_31 : decode cX9_init 31 = .ok (.invokespecial 18, 3) := of_q QX9_init_0 15 rfl
theorem dX9_init_34 : decode cX9_init 34 = .ok (.putfield 23, 3) := of_q QX9_init_0 16 rfl
theorem dX9_init_37 : decode cX9_init 37 = .ok (.aload_n 0, 1) := of_q QX9_init_0 17 rfl
theorem dX9_init_38 : decode cX9_init 38 = .ok (.bipush 7, 2) := of_q QX9_init_0 18 rfl
theorem dX9_init_40 : decode cX9_init 40 = .ok (.newarray .int, 2) := of_q QX9_init_0 19 rfl
theorem dX9_init_42 : decode cX9_init 42 = .ok (.putfield 26, 3) := of_q QX9_init_0 20 rfl
theorem dX9_init_45 : decode cX9_init 45 = .ok (.aload_n 0, 1) := of_q QX9_init_0 21 rfl
theorem dX9_init_46 : decode cX9_init 46 = .ok (.new 30, 3) := of_q QX9_init_0 22 rfl
theorem dX9_init_49 : decode cX9_init 49 = .ok (.dup, 1) := of_q QX9_init_0 23 rfl
theorem dX9_init_50 : decode cX9_init 50 = .ok (.invokespecial 32, 3) := of_q QX9_init_0 24 rfl
theorem dX9_init_53 : decode cX9_init 53 = .ok (.putfield 33, 3) := of_q QX9_init_0 25 rfl
theorem dX9_init_56 : decode cX9_init 56 = .ok (.aload_n 0, 1) := of_q QX9_init_0 26 rfl
theorem dX9_init_57 : decode cX9_init 57 = .ok (.new 37, 3) := of_q QX9_init_0 27 rfl
theorem dX9_init_60 : decode cX9_init 60 = .ok (.dup, 1) := of_q QX9_init_0 28 rfl
theorem dX9_init_61 : decode cX9_init 61 = .ok (.invokespecial 39, 3) := of_q QX9_init_0 29 rfl
theorem dX9_init_64 : decode cX9_init 64 = .ok (.putfield 40, 3) := of_q QX9_init_0 30 rfl
theorem dX9_init_67 : decode cX9_init 67 = .ok (.aload_n 0, 1) := of_q QX9_init_0 31 rfl
theorem dX9_init_68 : decode cX9_init 68 = .ok (.iconst 0, 1) := of_q QX9_init_0 32 rfl
theorem dX9_init_69 : decode cX9_init 69 = .ok (.putfield 44, 3) := of_q QX9_init_0 33 rfl
theorem dX9_init_72 : decode cX9_init 72 = .ok (.aload_n 0, 1) := of_q QX9_init_0 34 rfl
theorem dX9_init_73 : decode cX9_init 73 = .ok (.new 48, 3) := of_q QX9_init_0 35 rfl
theorem dX9_init_76 : decode cX9_init 76 = .ok (.dup, 1) := of_q QX9_init_0 36 rfl
theorem dX9_init_77 : decode cX9_init 77 = .ok (.invokespecial 50, 3) := of_q QX9_init_0 37 rfl
theorem dX9_init_80 : decode cX9_init 80 = .ok (.putfield 51, 3) := of_q QX9_init_0 38 rfl
theorem dX9_init_83 : decode cX9_init 83 = .ok (.aload_n 0, 1) := of_q QX9_init_0 39 rfl
theorem dX9_init_84 : decode cX9_init 84 = .ok (.new 55, 3) := of_q QX9_init_0 40 rfl
theorem dX9_init_87 : decode cX9_init 87 = .ok (.dup, 1) := of_q QX9_init_0 41 rfl
theorem dX9_init_88 : decode cX9_init 88 = .ok (.invokespecial 57, 3) := of_q QX9_init_0 42 rfl
theorem dX9_init_91 : decode cX9_init 91 = .ok (.putfield 58, 3) := of_q QX9_init_0 43 rfl
theorem dX9_init_94 : decode cX9_init 94 = .ok (.getstatic 62, 3) := of_q QX9_init_0 44 rfl
theorem dX9_init_97 : decode cX9_init 97 = .ok (.iconst 0, 1) := of_q QX9_init_0 45 rfl
theorem dX9_init_98 : decode cX9_init 98 = .ok (.aload_n 0, 1) := of_q QX9_init_0 46 rfl
theorem dX9_init_99 : decode cX9_init 99 = .ok (.getfield 26, 3) := of_q QX9_init_0 47 rfl
theorem dX9_init_102 : decode cX9_init 102 = .ok (.iconst 0, 1) := of_q QX9_init_0 48 rfl
theorem dX9_init_103 : decode cX9_init 103 = .ok (.bipush 7, 2) := of_q QX9_init_0 49 rfl
theorem dX9_init_105 : decode cX9_init 105 = .ok (.invokestatic 65, 3) := of_q QX9_init_0 50 rfl
theorem dX9_init_108 : decode cX9_init 108 = .ok (.return_, 1) := of_q QX9_init_0 51 rfl
def qX9_text_0 : List (Nat × Instr × Nat) := [(0, .aload_n 0, 1), (1, .getfield 12, 3), (4, .lload_n 1, 1), (5, .invokevirtual 71, 3), (8, .ireturn, 1)]
theorem QX9_text_0 : qX9_text_0.all (fun q => decide (decode cX9_text q.1 = .ok q.2)) = true := by decide +kernel
theorem dX9_text_0 : decode cX9_text 0 = .ok (.aload_n 0, 1) := of_q QX9_text_0 0 rfl
theorem dX9_text_1 : decode cX9_text 1 = .ok (.getfield 12, 3) := of_q QX9_text_0 1 rfl
theorem dX9_text_4 : decode cX9_text 4 = .ok (.lload_n 1, 1) := of_q QX9_text_0 2 rfl
theorem dX9_text_5 : decode cX9_text 5 = .ok (.invokevirtual 71, 3) := of_q QX9_text_0 3 rfl
theorem dX9_text_8 : decode cX9_text 8 = .ok (.ireturn, 1) := of_q QX9_text_0 4 rfl
def qX9_cut_0 : List (Nat × Instr × Nat) := [(0, .aload_n 0, 1), (1, .getfield 12, 3), (4, .iload_n 1, 1), (5, .invokevirtual 75, 3), (8, .ireturn, 1)]
theorem QX9_cut_0 : qX9_cut_0.all (fun q => decide (decode cX9_cut q.1 = .ok q.2)) = true := by decide +kernel
theorem dX9_cut_0 : decode cX9_cut 0 = .ok (.aload_n 0, 1) := of_q QX9_cut_0 0 rfl
theorem dX9_cut_1 : decode cX9_cut 1 = .ok (.getfield 12, 3) := of_q QX9_cut_0 1 rfl
theorem dX9_cut_4 : decode cX9_cut 4 = .ok (.iload_n 1, 1) := of_q QX9_cut_0 2 rfl
theorem dX9_cut_5 : decode cX9_cut 5 = .ok (.invokevirtual 75, 3) := of_q QX9_cut_0 3 rfl
theorem dX9_cut_8 : decode cX9_cut 8 = .ok (.ireturn, 1) := of_q QX9_cut_0 4 rfl
def qX9_read_0 : List (Nat × Instr × Nat) := [(0, .new 79, 3), (3, .dup, 1), (4, .aload_n 0, 1), (5, .getfield 12, 3), (8, .aload_n 0, 1), (9, .getfield 23, 3), (12, .invokespecial 81, 3), (15, .invokevirtual 84, 3), (18, .istore_n 1, 1), (19, .iload_n 1, 1), (20, .iconst (-1), 1), (21, .if_icmp .eq 8, 3), (24, .bipush (-10), 2), (26, .iload_n 1, 1), (27, .isub, 1), (28, .ireturn, 1), (29, .aload_n 0, 1), (30, .getfield 19, 3), (33, .astore_n 2, 1), (34, .aload_n 0, 1), (35, .aload_n 0, 1), (36, .getfield 23, 3), (39, .putfield 19, 3), (42, .aload_n 0, 1), (43, .aload_n 2, 1), (44, .putfield 23, 3), (47, .aload_n 0, 1), (48, .getfield 19, 3), (51, .getfield 88, 3), (54, .ireturn, 1)]
theorem QX9_read_0 : qX9_read_0.all (fun q => decide (decode cX9_read q.1 = .ok q.2)) = true := by decide +kernel
theorem dX9_read_0 : decode cX9_read 0 = .ok (.new 79, 3) := of_q QX9_read_0 0 rfl
theorem dX9_read_3 : decode cX9_read 3 = .ok (.dup, 1) := of_q QX9_read_0 1 rfl
theorem dX9_read_4 : decode cX9_read 4 = .ok (.aload_n 0, 1) := of_q QX9_read_0 2 rfl
theorem dX9_read_5 : decode cX9_read 5 = .ok (.getfield 12, 3) := of_q QX9_read_0 3 rfl
theorem dX9_read_8 : decode cX9_read 8 = .ok (.aload_n 0, 1) := of_q QX9_read_0 4 rfl
theorem dX9_read_9 : decode cX9_read 9 = .ok (.getfield 23, 3) := of_q QX9_read_0 5 rfl
theorem dX9_read_12 : decode cX9_read 12 = .ok (.invokespecial 81, 3) := of_q QX9_read_0 6 rfl
theorem dX9_read_15 : decode cX9_read 15 = .ok (.invokevirtual 84, 3) := of_q QX9_read_0 7 rfl
theorem dX9_read_18 : decode cX9_read 18 = .ok (.istore_n 1, 1) := of_q QX9_read_0 8 rfl
theorem dX9_read_19 : decode cX9_read 19 = .ok (.iload_n 1, 1) := of_q QX9_read_0 9 rfl
theorem dX9_read_20 : decode cX9_read 20 = .ok (.iconst (-1), 1) := of_q QX9_read_0 10 rfl
theorem dX9_read_21 : decode cX9_read 21 = .ok (.if_icmp .eq 8, 3) := of_q QX9_read_0 11 rfl
theorem dX9_read_24 : decode cX9_read 24 = .ok (.bipush (-10), 2) := of_q QX9_read_0 12 rfl
theorem dX9_read_26 : decode cX9_read 26 = .ok (.iload_n 1, 1) := of_q QX9_read_0 13 rfl
theorem dX9_read_27 : decode cX9_read 27 = .ok (.isub, 1) := of_q QX9_read_0 14 rfl
theorem dX9_read_28 : decode cX9_read 28 = .ok (.ireturn, 1) := of_q QX9_read_0 15 rfl
theorem dX9_read_29 : decode cX9_read 29 = .ok (.aload_n 0, 1) := of_q QX9_read_0 16 rfl
theorem dX9_read_30 : decode cX9_read 30 = .ok (.getfield 19, 3) := of_q QX9_read_0 17 rfl
theorem dX9_read_33 : decode cX9_read 33 = .ok (.astore_n 2, 1) := of_q QX9_read_0 18 rfl
theorem dX9_read_34 : decode cX9_read 34 = .ok (.aload_n 0, 1) := of_q QX9_read_0 19 rfl
theorem dX9_read_35 : decode cX9_read 35 = .ok (.aload_n 0, 1) := of_q QX9_read_0 20 rfl
theorem dX9_read_36 : decode cX9_read 36 = .ok (.getfield 23, 3) := of_q QX9_read_0 21 rfl
theorem dX9_read_39 : decode cX9_read 39 = .ok (.putfield 19, 3) := of_q QX9_read_0 22 rfl
theorem dX9_read_42 : decode cX9_read 42 = .ok (.aload_n 0, 1) := of_q QX9_read_0 23 rfl
theorem dX9_read_43 : decode cX9_read 43 = .ok (.aload_n 2, 1) := of_q QX9_read_0 24 rfl
theorem dX9_read_44 : decode cX9_read 44 = .ok (.putfield 23, 3) := of_q QX9_read_0 25 rfl
theorem dX9_read_47 : decode cX9_read 47 = .ok (.aload_n 0, 1) := of_q QX9_read_0 26 rfl
theorem dX9_read_48 : decode cX9_read 48 = .ok (.getfield 19, 3) := of_q QX9_read_0 27 rfl
theorem dX9_read_51 : decode cX9_read 51 = .ok (.getfield 88, 3) := of_q QX9_read_0 28 rfl
theorem dX9_read_54 : decode cX9_read 54 = .ok (.ireturn, 1) := of_q QX9_read_0 29 rfl
def qX9_rule_0 : List (Nat × Instr × Nat) := [(0, .iload_n 1, 1), (1, .iconst 0, 1), (2, .bipush 25, 2), (4, .invokestatic 91, 3), (7, .ifCond .eq 12, 3), (10, .iload_n 2, 1), (11, .iconst 0, 1), (12, .iconst 1, 1), (13, .invokestatic 91, 3), (16, .ifCond .ne 6, 3), (19, .bipush (-2), 2), (21, .ireturn, 1), (22, .aload_n 0, 1), (23, .getfield 19, 3), (26, .iload_n 1, 1), (27, .invokevirtual 95, 3), (30, .ifCond .ne 5, 3), (33, .iconst (-1), 1), (34, .ireturn, 1), (35, .iload_n 2, 1), (36, .ifCond .ne 15, 3), (39, .aload_n 0, 1), (40, .getfield 19, 3), (43, .getfield 99, 3), (46, .iload_n 1, 1), (47, .iaload, 1), (48, .goto 12, 3), (51, .aload_n 0, 1), (52, .getfield 19, 3), (55, .getfield 102, 3), (58, .iload_n 1, 1), (59, .iaload, 1), (60, .ireturn, 1)]
theorem QX9_rule_0 : qX9_rule_0.all (fun q => decide (decode cX9_rule q.1 = .ok q.2)) = true := by decide +kernel
theorem dX9_rule_0 : decode cX9_rule 0 = .ok (.iload_n 1, 1) := of_q QX9_rule_0 0 rfl
theorem dX9_rule_1 : decode cX9_rule 1 = .ok (.iconst 0, 1) := of_q QX9_rule_0 1 rfl
theorem dX9_rule_2 : decode cX9_rule 2 = .ok (.bipush 25, 2) := of_q QX9_rule_0 2 rfl
theorem dX9_rule_4 : decode cX9_rule 4 = .ok (.invokestatic 91, 3) := of_q QX9_rule_0 3 rfl
theorem dX9_rule_7 : decode cX9_rule 7 = .ok (.ifCond .eq 12, 3) := of_q QX9_rule_0 4 rfl
theorem dX9_rule_10 : decode cX9_rule 10 = .ok (.iload_n 2, 1) := of_q QX9_rule_0 5 rfl
theorem dX9_rule_11 : decode cX9_rule 11 = .ok (.iconst 0, 1) := of_q QX9_rule_0 6 rfl
theorem dX9_rule_12 : decode cX9_rule 12 = .ok (.iconst 1, 1) := of_q QX9_rule_0 7 rfl
theorem dX9_rule_13 : decode cX9_rule 13 = .ok (.invokestatic 91, 3) := of_q QX9_rule_0 8 rfl
theorem dX9_rule_16 : decode cX9_rule 16 = .ok (.ifCond .ne 6, 3) := of_q QX9_rule_0 9 rfl
theorem dX9_rule_19 : decode cX9_rule 19 = .ok (.bipush (-2), 2) := of_q QX9_rule_0 10 rfl
theorem dX9_rule_21 : decode cX9_rule 21 = .ok (.ireturn, 1) := of_q QX9_rule_0 11 rfl
theorem dX9_rule_22 : decode cX9_rule 22 = .ok (.aload_n 0, 1) := of_q QX9_rule_0 12 rfl
theorem dX9_rule_23 : decode cX9_rule 23 = .ok (.getfield 19, 3) := of_q QX9_rule_0 13 rfl
theorem dX9_rule_26 : decode cX9_rule 26 = .ok (.iload_n 1, 1) := of_q QX9_rule_0 14 rfl
theorem dX9_rule_27 : decode cX9_rule 27 = .ok (.invokevirtual 95, 3) := of_q QX9_rule_0 15 rfl
theorem dX9_rule_30 : decode cX9_rule 30 = .ok (.ifCond .ne 5, 3) := of_q QX9_rule_0 16 rfl
theorem dX9_rule_33 : decode cX9_rule 33 = .ok (.iconst (-1), 1) := of_q QX9_rule_0 17 rfl
theorem dX9_rule_34 : decode cX9_rule 34 = .ok (.ireturn, 1) := of_q QX9_rule_0 18 rfl
theorem dX9_rule_35 : decode cX9_rule 35 = .ok (.iload_n 2, 1) := of_q QX9_rule_0 19 rfl
theorem dX9_rule_36 : decode cX9_rule 36 = .ok (.ifCond .ne 15, 3) := of_q QX9_rule_0 20 rfl
theorem dX9_rule_39 : decode cX9_rule 39 = .ok (.aload_n 0, 1) := of_q QX9_rule_0 21 rfl
theorem dX9_rule_40 : decode cX9_rule 40 = .ok (.getfield 19, 3) := of_q QX9_rule_0 22 rfl
theorem dX9_rule_43 : decode cX9_rule 43 = .ok (.getfield 99, 3) := of_q QX9_rule_0 23 rfl
theorem dX9_rule_46 : decode cX9_rule 46 = .ok (.iload_n 1, 1) := of_q QX9_rule_0 24 rfl
theorem dX9_rule_47 : decode cX9_rule 47 = .ok (.iaload, 1) := of_q QX9_rule_0 25 rfl
theorem dX9_rule_48 : decode cX9_rule 48 = .ok (.goto 12, 3) := of_q QX9_rule_0 26 rfl
theorem dX9_rule_51 : decode cX9_rule 51 = .ok (.aload_n 0, 1) := of_q QX9_rule_0 27 rfl
theorem dX9_rule_52 : decode cX9_rule 52 = .ok (.getfield 19, 3) := of_q QX9_rule_0 28 rfl
theorem dX9_rule_55 : decode cX9_rule 55 = .ok (.getfield 102, 3) := of_q QX9_rule_0 29 rfl
theorem dX9_rule_58 : decode cX9_rule 58 = .ok (.iload_n 1, 1) := of_q QX9_rule_0 30 rfl
theorem dX9_rule_59 : decode cX9_rule 59 = .ok (.iaload, 1) := of_q QX9_rule_0 31 rfl
theorem dX9_rule_60 : decode cX9_rule 60 = .ok (.ireturn, 1) := of_q QX9_rule_0 32 rfl
def qX9_want_0 : List (Nat × Instr × Nat) := [(0, .iload_n 1, 1), (1, .iconst 0, 1), (2, .bipush 6, 2), (4, .invokestatic 91, 3), (7, .ifCond .ne 6, 3), (10, .bipush (-2), 2), (12, .ireturn, 1), (13, .iload_n 2, 1), (14, .getstatic 105, 3), (17, .iload_n 1, 1), (18, .iaload, 1), (19, .getstatic 108, 3), (22, .iload_n 1, 1), (23, .iaload, 1), (24, .invokestatic 91, 3), (27, .ifCond .ne 6, 3), (30, .bipush (-2), 2), (32, .ireturn, 1), (33, .aload_n 0, 1), (34, .getfield 26, 3), (37, .iload_n 1, 1), (38, .iaload, 1), (39, .istore_n 3, 1), (40, .aload_n 0, 1), (41, .getfield 26, 3), (44, .iload_n 1, 1), (45, .iload_n 2, 1), (46, .iastore, 1), (47, .iload_n 3, 1), (48, .ireturn, 1)]
theorem QX9_want_0 : qX9_want_0.all (fun q => decide (decode cX9_want q.1 = .ok q.2)) = true := by decide +kernel
theorem dX9_want_0 : decode cX9_want 0 = .ok (.iload_n 1, 1) := of_q QX9_want_0 0 rfl
theorem dX9_want_1 : decode cX9_want 1 = .ok (.iconst 0, 1) := of_q QX9_want_0 1 rfl
theorem dX9_want_2 : decode cX9_want 2 = .ok (.bipush 6, 2) := of_q QX9_want_0 2 rfl
theorem dX9_want_4 : decode cX9_want 4 = .ok (.invokestatic 91, 3) := of_q QX9_want_0 3 rfl
theorem dX9_want_7 : decode cX9_want 7 = .ok (.ifCond .ne 6, 3) := of_q QX9_want_0 4 rfl
theorem dX9_want_10 : decode cX9_want 10 = .ok (.bipush (-2), 2) := of_q QX9_want_0 5 rfl
theorem dX9_want_12 : decode cX9_want 12 = .ok (.ireturn, 1) := of_q QX9_want_0 6 rfl
theorem dX9_want_13 : decode cX9_want 13 = .ok (.iload_n 2, 1) := of_q QX9_want_0 7 rfl
theorem dX9_want_14 : decode cX9_want 14 = .ok (.getstatic 105, 3) := of_q QX9_want_0 8 rfl
theorem dX9_want_17 : decode cX9_want 17 = .ok (.iload_n 1, 1) := of_q QX9_want_0 9 rfl
theorem dX9_want_18 : decode cX9_want 18 = .ok (.iaload, 1) := of_q QX9_want_0 10 rfl
theorem dX9_want_19 : decode cX9_want 19 = .ok (.getstatic 108, 3) := of_q QX9_want_0 11 rfl
theorem dX9_want_22 : decode cX9_want 22 = .ok (.iload_n 1, 1) := of_q QX9_want_0 12 rfl
theorem dX9_want_23 : decode cX9_want 23 = .ok (.iaload, 1) := of_q QX9_want_0 13 rfl
theorem dX9_want_24 : decode cX9_want 24 = .ok (.invokestatic 91, 3) := of_q QX9_want_0 14 rfl
theorem dX9_want_27 : decode cX9_want 27 = .ok (.ifCond .ne 6, 3) := of_q QX9_want_0 15 rfl
theorem dX9_want_30 : decode cX9_want 30 = .ok (.bipush (-2), 2) := of_q QX9_want_0 16 rfl
theorem dX9_want_32 : decode cX9_want 32 = .ok (.ireturn, 1) := of_q QX9_want_0 17 rfl
theorem dX9_want_33 : decode cX9_want 33 = .ok (.aload_n 0, 1) := of_q QX9_want_0 18 rfl
theorem dX9_want_34 : decode cX9_want 34 = .ok (.getfield 26, 3) := of_q QX9_want_0 19 rfl
theorem dX9_want_37 : decode cX9_want 37 = .ok (.iload_n 1, 1) := of_q QX9_want_0 20 rfl
theorem dX9_want_38 : decode cX9_want 38 = .ok (.iaload, 1) := of_q QX9_want_0 21 rfl
theorem dX9_want_39 : decode cX9_want 39 = .ok (.istore_n 3, 1) := of_q QX9_want_0 22 rfl
theorem dX9_want_40 : decode cX9_want 40 = .ok (.aload_n 0, 1) := of_q QX9_want_0 23 rfl
theorem dX9_want_41 : decode cX9_want 41 = .ok (.getfield 26, 3) := of_q QX9_want_0 24 rfl
theorem dX9_want_44 : decode cX9_want 44 = .ok (.iload_n 1, 1) := of_q QX9_want_0 25 rfl
theorem dX9_want_45 : decode cX9_want 45 = .ok (.iload_n 2, 1) := of_q QX9_want_0 26 rfl
theorem dX9_want_46 : decode cX9_want 46 = .ok (.iastore, 1) := of_q QX9_want_0 27 rfl
theorem dX9_want_47 : decode cX9_want 47 = .ok (.iload_n 3, 1) := of_q QX9_want_0 28 rfl
theorem dX9_want_48 : decode cX9_want 48 = .ok (.ireturn, 1) := of_q QX9_want_0 29 rfl
def qX9_make_0 : List (Nat × Instr × Nat) := [(0, .iload_n 1, 1), (1, .iconst 1, 1), (2, .bipush 16, 2), (4, .invokestatic 91, 3), (7, .ifCond .ne 6, 3), (10, .bipush (-2), 2), (12, .ireturn, 1), (13, .aload_n 0, 1), (14, .getfield 19, 3), (17, .getfield 88, 3), (20, .ifCond .ne 6, 3), (23, .bipush (-3), 2), (25, .ireturn, 1), (26, .new 111, 3), (29, .dup, 1), (30, .aload_n 0, 1), (31, .getfield 19, 3), (34, .aload_n 0, 1), (35, .getfield 26, 3), (38, .aload_n 0, 1), (39, .getfield 33, 3), (42, .aload_n 0, 1), (43, .getfield 40, 3), (46, .new 113, 3), (49, .dup, 1), (50, .lload_n 2, 1), (51, .invokespecial 115, 3), (54, .iload_n 1, 1), (55, .bipush 16, 2), (57, .imul, 1), (58, .invokespecial 118, 3), (61, .astore 4, 2), (63, .aload 4, 2), (65, .invokevirtual 121, 3), (68, .istore 5, 2), (70, .aload_n 0, 1), (71, .aload 4, 2), (73, .getfield 124, 3), (76, .putfield 44, 3), (79, .iload 5, 2), (81, .ifCond .ge 11, 3), (84, .aload_n 0, 1), (85, .getfield 33, 3), (88, .iconst 0, 1), (89, .invokevirtual 127, 3), (92, .iload 5, 2), (94, .ireturn, 1)]
theorem QX9_make_0 : qX9_make_0.all (fun q => decide (decode cX9_make q.1 = .ok q.2)) = true := by decide +kernel
theorem dX9_make_0 : decode cX9_make 0 = .ok (.iload_n 1, 1) := of_q QX9_make_0 0 rfl
theorem dX9_make_1 : decode cX9_make 1 = .ok (.iconst 1, 1) := of_q QX9_make_0 1 rfl
theorem dX9_make_2 : decode cX9_make 2 = .ok (.bipush 16, 2) := of_q QX9_make_0 2 rfl
theorem dX9_make_4 : decode cX9_make 4 = .ok (.invokestatic 91, 3) := of_q QX9_make_0 3 rfl
theorem dX9_make_7 : decode cX9_make 7 = .ok (.ifCond .ne 6, 3) := of_q QX9_make_0 4 rfl
theorem dX9_make_10 : decode cX9_make 10 = .ok (.bipush (-2), 2) := of_q QX9_make_0 5 rfl
theorem dX9_make_12 : decode cX9_make 12 = .ok (.ireturn, 1) := of_q QX9_make_0 6 rfl
theorem dX9_make_13 : decode cX9_make 13 = .ok (.aload_n 0, 1) := of_q QX9_make_0 7 rfl
theorem dX9_make_14 : decode cX9_make 14 = .ok (.getfield 19, 3) := of_q QX9_make_0 8 rfl
theorem dX9_make_17 : decode cX9_make 17 = .ok (.getfield 88, 3) := of_q QX9_make_0 9 rfl
theorem dX9_make_20 : decode cX9_make 20 = .ok (.ifCond .ne 6, 3) := of_q QX9_make_0 10 rfl
theorem dX9_make_23 : decode cX9_make 23 = .ok (.bipush (-3), 2) := of_q QX9_make_0 11 rfl
theorem dX9_make_25 : decode cX9_make 25 = .ok (.ireturn, 1) := of_q QX9_make_0 12 rfl
theorem dX9_make_26 : decode cX9_make 26 = .ok (.new 111, 3) := of_q QX9_make_0 13 rfl
theorem dX9_make_29 : decode cX9_make 29 = .ok (.dup, 1) := of_q QX9_make_0 14 rfl
theorem dX9_make_30 : decode cX9_make 30 = .ok (.aload_n 0, 1) := of_q QX9_make_0 15 rfl
theorem dX9_make_31 : decode cX9_make 31 = .ok (.getfield 19, 3) := of_q QX9_make_0 16 rfl
theorem dX9_make_34 : decode cX9_make 34 = .ok (.aload_n 0, 1) := of_q QX9_make_0 17 rfl
theorem dX9_make_35 : decode cX9_make 35 = .ok (.getfield 26, 3) := of_q QX9_make_0 18 rfl
theorem dX9_make_38 : decode cX9_make 38 = .ok (.aload_n 0, 1) := of_q QX9_make_0 19 rfl
theorem dX9_make_39 : decode cX9_make 39 = .ok (.getfield 33, 3) := of_q QX9_make_0 20 rfl
theorem dX9_make_42 : decode cX9_make 42 = .ok (.aload_n 0, 1) := of_q QX9_make_0 21 rfl
theorem dX9_make_43 : decode cX9_make 43 = .ok (.getfield 40, 3) := of_q QX9_make_0 22 rfl
theorem dX9_make_46 : decode cX9_make 46 = .ok (.new 113, 3) := of_q QX9_make_0 23 rfl
theorem dX9_make_49 : decode cX9_make 49 = .ok (.dup, 1) := of_q QX9_make_0 24 rfl
theorem dX9_make_50 : decode cX9_make 50 = .ok (.lload_n 2, 1) := of_q QX9_make_0 25 rfl
theorem dX9_make_51 : decode cX9_make 51 = .ok (.invokespecial 115, 3) := of_q QX9_make_0 26 rfl
theorem dX9_make_54 : decode cX9_make 54 = .ok (.iload_n 1, 1) := of_q QX9_make_0 27 rfl
theorem dX9_make_55 : decode cX9_make 55 = .ok (.bipush 16, 2) := of_q QX9_make_0 28 rfl
theorem dX9_make_57 : decode cX9_make 57 = .ok (.imul, 1) := of_q QX9_make_0 29 rfl
theorem dX9_make_58 : decode cX9_make 58 = .ok (.invokespecial 118, 3) := of_q QX9_make_0 30 rfl
theorem dX9_make_61 : decode cX9_make 61 = .ok (.astore 4, 2) := of_q QX9_make_0 31 rfl
theorem dX9_make_63 : decode cX9_make 63 = .ok (.aload 4, 2) := of_q QX9_make_0 32 rfl
theorem dX9_make_65 : decode cX9_make 65 = .ok (.invokevirtual 121, 3) := of_q QX9_make_0 33 rfl
theorem dX9_make_68 : decode cX9_make 68 = .ok (.istore 5, 2) := of_q QX9_make_0 34 rfl
theorem dX9_make_70 : decode cX9_make 70 = .ok (.aload_n 0, 1) := of_q QX9_make_0 35 rfl
theorem dX9_make_71 : decode cX9_make 71 = .ok (.aload 4, 2) := of_q QX9_make_0 36 rfl
theorem dX9_make_73 : decode cX9_make 73 = .ok (.getfield 124, 3) := of_q QX9_make_0 37 rfl
theorem dX9_make_76 : decode cX9_make 76 = .ok (.putfield 44, 3) := of_q QX9_make_0 38 rfl
theorem dX9_make_79 : decode cX9_make 79 = .ok (.iload 5, 2) := of_q QX9_make_0 39 rfl
theorem dX9_make_81 : decode cX9_make 81 = .ok (.ifCond .ge 11, 3) := of_q QX9_make_0 40 rfl
theorem dX9_make_84 : decode cX9_make 84 = .ok (.aload_n 0, 1) := of_q QX9_make_0 41 rfl
theorem dX9_make_85 : decode cX9_make 85 = .ok (.getfield 33, 3) := of_q QX9_make_0 42 rfl
theorem dX9_make_88 : decode cX9_make 88 = .ok (.iconst 0, 1) := of_q QX9_make_0 43 rfl
theorem dX9_make_89 : decode cX9_make 89 = .ok (.invokevirtual 127, 3) := of_q QX9_make_0 44 rfl
theorem dX9_make_92 : decode cX9_make 92 = .ok (.iload 5, 2) := of_q QX9_make_0 45 rfl
theorem dX9_make_94 : decode cX9_make 94 = .ok (.ireturn, 1) := of_q QX9_make_0 46 rfl
def qX9_tries_0 : List (Nat × Instr × Nat) := [(0, .aload_n 0, 1), (1, .getfield 44, 3), (4, .ireturn, 1)]
theorem QX9_tries_0 : qX9_tries_0.all (fun q => decide (decode cX9_tries q.1 = .ok q.2)) = true := by decide +kernel
theorem dX9_tries_0 : decode cX9_tries 0 = .ok (.aload_n 0, 1) := of_q QX9_tries_0 0 rfl
theorem dX9_tries_1 : decode cX9_tries 1 = .ok (.getfield 44, 3) := of_q QX9_tries_0 1 rfl
theorem dX9_tries_4 : decode cX9_tries 4 = .ok (.ireturn, 1) := of_q QX9_tries_0 2 rfl
def qX9_item_0 : List (Nat × Instr × Nat) := [(0, .iload_n 2, 1), (1, .iconst 0, 1), (2, .iconst 3, 1), (3, .invokestatic 91, 3), (6, .ifCond .ne 6, 3), (9, .bipush (-2), 2), (11, .ireturn, 1), (12, .iload_n 1, 1), (13, .iconst 0, 1), (14, .aload_n 0, 1), (15, .getfield 33, 3), (18, .getfield 130, 3), (21, .iconst 1, 1), (22, .isub, 1), (23, .invokestatic 91, 3), (26, .ifCond .ne 5, 3), (29, .iconst (-1), 1), (30, .ireturn, 1), (31, .iload_n 2, 1), (32, .tableswitch 58 0 2 #[28, 38, 48], 28), (60, .aload_n 0, 1), (61, .getfield 33, 3), (64, .getfield 133, 3), (67, .iload_n 1, 1), (68, .iaload, 1), (69, .ireturn, 1), (70, .aload_n 0, 1), (71, .getfield 33, 3), (74, .getfield 136, 3), (77, .iload_n 1, 1), (78, .iaload, 1), (79, .ireturn, 1), (80, .aload_n 0, 1), (81, .getfield 33, 3), (84, .getfield 139, 3), (87, .iload_n 1, 1), (88, .iaload, 1), (89, .ireturn, 1), (90, .aload_n 0, 1), (91, .getfield 33, 3), (94, .getfield 142, 3), (97, .iload_n 1, 1), (98, .iaload, 1), (99, .ireturn, 1)]
theorem QX9_item_0 : qX9_item_0.all (fun q => decide (decode cX9_item q.1 = .ok q.2)) = true := by decide +kernel
theorem dX9_item_0 : decode cX9_item 0 = .ok (.iload_n 2, 1) := of_q QX9_item_0 0 rfl
theorem dX9_item_1 : decode cX9_item 1 = .ok (.iconst 0, 1) := of_q QX9_item_0 1 rfl
theorem dX9_item_2 : decode cX9_item 2 = .ok (.iconst 3, 1) := of_q QX9_item_0 2 rfl
theorem dX9_item_3 : decode cX9_item 3 = .ok (.invokestatic 91, 3) := of_q QX9_item_0 3 rfl
theorem dX9_item_6 : decode cX9_item 6 = .ok (.ifCond .ne 6, 3) := of_q QX9_item_0 4 rfl
theorem dX9_item_9 : decode cX9_item 9 = .ok (.bipush (-2), 2) := of_q QX9_item_0 5 rfl
theorem dX9_item_11 : decode cX9_item 11 = .ok (.ireturn, 1) := of_q QX9_item_0 6 rfl
theorem dX9_item_12 : decode cX9_item 12 = .ok (.iload_n 1, 1) := of_q QX9_item_0 7 rfl
theorem dX9_item_13 : decode cX9_item 13 = .ok (.iconst 0, 1) := of_q QX9_item_0 8 rfl
theorem dX9_item_14 : decode cX9_item 14 = .ok (.aload_n 0, 1) := of_q QX9_item_0 9 rfl
theorem dX9_item_15 : decode cX9_item 15 = .ok (.getfield 33, 3) := of_q QX9_item_0 10 rfl
theorem dX9_item_18 : decode cX9_item 18 = .ok (.getfield 130, 3) := of_q QX9_item_0 11 rfl
theorem dX9_item_21 : decode cX9_item 21 = .ok (.iconst 1, 1) := of_q QX9_item_0 12 rfl
theorem dX9_item_22 : decode cX9_item 22 = .ok (.isub, 1) := of_q QX9_item_0 13 rfl
theorem dX9_item_23 : decode cX9_item 23 = .ok (.invokestatic 91, 3) := of_q QX9_item_0 14 rfl
theorem dX9_item_26 : decode cX9_item 26 = .ok (.ifCond .ne 5, 3) := of_q QX9_item_0 15 rfl
theorem dX9_item_29 : decode cX9_item 29 = .ok (.iconst (-1), 1) := of_q QX9_item_0 16 rfl
theorem dX9_item_30 : decode cX9_item 30 = .ok (.ireturn, 1) := of_q QX9_item_0 17 rfl
theorem dX9_item_31 : decode cX9_item 31 = .ok (.iload_n 2, 1) := of_q QX9_item_0 18 rfl
theorem dX9_item_32 : decode cX9_item 32 = .ok (.tableswitch 58 0 2 #[28, 38, 48], 28) := of_q QX9_item_0 19 rfl
theorem dX9_item_60 : decode cX9_item 60 = .ok (.aload_n 0, 1) := of_q QX9_item_0 20 rfl
theorem dX9_item_61 : decode cX9_item 61 = .ok (.getfield 33, 3) := of_q QX9_item_0 21 rfl
theorem dX9_item_64 : decode cX9_item 64 = .ok (.getfield 133, 3) := of_q QX9_item_0 22 rfl
theorem dX9_item_67 : decode cX9_item 67 = .ok (.iload_n 1, 1) := of_q QX9_item_0 23 rfl
theorem dX9_item_68 : decode cX9_item 68 = .ok (.iaload, 1) := of_q QX9_item_0 24 rfl
theorem dX9_item_69 : decode cX9_item 69 = .ok (.ireturn, 1) := of_q QX9_item_0 25 rfl
theorem dX9_item_70 : decode cX9_item 70 = .ok (.aload_n 0, 1) := of_q QX9_item_0 26 rfl
theorem dX9_item_71 : decode cX9_item 71 = .ok (.getfield 33, 3) := of_q QX9_item_0 27 rfl
theorem dX9_item_74 : decode cX9_item 74 = .ok (.getfield 136, 3) := of_q QX9_item_0 28 rfl
theorem dX9_item_77 : decode cX9_item 77 = .ok (.iload_n 1, 1) := of_q QX9_item_0 29 rfl
theorem dX9_item_78 : decode cX9_item 78 = .ok (.iaload, 1) := of_q QX9_item_0 30 rfl
theorem dX9_item_79 : decode cX9_item 79 = .ok (.ireturn, 1) := of_q QX9_item_0 31 rfl
theorem dX9_item_80 : decode cX9_item 80 = .ok (.aload_n 0, 1) := of_q QX9_item_0 32 rfl
theorem dX9_item_81 : decode cX9_item 81 = .ok (.getfield 33, 3) := of_q QX9_item_0 33 rfl
theorem dX9_item_84 : decode cX9_item 84 = .ok (.getfield 139, 3) := of_q QX9_item_0 34 rfl
theorem dX9_item_87 : decode cX9_item 87 = .ok (.iload_n 1, 1) := of_q QX9_item_0 35 rfl
theorem dX9_item_88 : decode cX9_item 88 = .ok (.iaload, 1) := of_q QX9_item_0 36 rfl
theorem dX9_item_89 : decode cX9_item 89 = .ok (.ireturn, 1) := of_q QX9_item_0 37 rfl
theorem dX9_item_90 : decode cX9_item 90 = .ok (.aload_n 0, 1) := of_q QX9_item_0 38 rfl
theorem dX9_item_91 : decode cX9_item 91 = .ok (.getfield 33, 3) := of_q QX9_item_0 39 rfl
theorem dX9_item_94 : decode cX9_item 94 = .ok (.getfield 142, 3) := of_q QX9_item_0 40 rfl
theorem dX9_item_97 : decode cX9_item 97 = .ok (.iload_n 1, 1) := of_q QX9_item_0 41 rfl
theorem dX9_item_98 : decode cX9_item 98 = .ok (.iaload, 1) := of_q QX9_item_0 42 rfl
theorem dX9_item_99 : decode cX9_item 99 = .ok (.ireturn, 1) := of_q QX9_item_0 43 rfl
def qX9_below_0 : List (Nat × Instr × Nat) := [(0, .iload_n 3, 1), (1, .iconst 1, 1), (2, .if_icmp .lt 15, 3), (5, .iload 4, 2), (7, .iconst 0, 1), (8, .sipush 1000, 3), (11, .invokestatic 91, 3), (14, .ifCond .ne 6, 3), (17, .bipush (-2), 2), (19, .ireturn, 1), (20, .new 113, 3), (23, .dup, 1), (24, .lload_n 1, 1), (25, .invokespecial 115, 3), (28, .astore 5, 2), (30, .iconst 0, 1), (31, .istore 6, 2), (33, .iload 6, 2), (35, .iload 4, 2), (37, .if_icmp .ge 16, 3), (40, .aload 5, 2), (42, .iload_n 3, 1), (43, .invokevirtual 145, 3), (46, .pop, 1), (47, .iinc 6 1, 3), (50, .goto (-17), 3), (53, .aload 5, 2), (55, .iload_n 3, 1), (56, .invokevirtual 145, 3), (59, .ireturn, 1)]
theorem QX9_below_0 : qX9_below_0.all (fun q => decide (decode cX9_below q.1 = .ok q.2)) = true := by decide +kernel
theorem dX9_below_0 : decode cX9_below 0 = .ok (.iload_n 3, 1) := of_q QX9_below_0 0 rfl
theorem dX9_below_1 : decode cX9_below 1 = .ok (.iconst 1, 1) := of_q QX9_below_0 1 rfl
theorem dX9_below_2 : decode cX9_below 2 = .ok (.if_icmp .lt 15, 3) := of_q QX9_below_0 2 rfl
theorem dX9_below_5 : decode cX9_below 5 = .ok (.iload 4, 2) := of_q QX9_below_0 3 rfl
theorem dX9_below_7 : decode cX9_below 7 = .ok (.iconst 0, 1) := of_q QX9_below_0 4 rfl
theorem dX9_below_8 : decode cX9_below 8 = .ok (.sipush 1000, 3) := of_q QX9_below_0 5 rfl
theorem dX9_below_11 : decode cX9_below 11 = .ok (.invokestatic 91, 3) := of_q QX9_below_0 6 rfl
theorem dX9_below_14 : decode cX9_below 14 = .ok (.ifCond .ne 6, 3) := of_q QX9_below_0 7 rfl
theorem dX9_below_17 : decode cX9_below 17 = .ok (.bipush (-2), 2) := of_q QX9_below_0 8 rfl
theorem dX9_below_19 : decode cX9_below 19 = .ok (.ireturn, 1) := of_q QX9_below_0 9 rfl
theorem dX9_below_20 : decode cX9_below 20 = .ok (.new 113, 3) := of_q QX9_below_0 10 rfl
theorem dX9_below_23 : decode cX9_below 23 = .ok (.dup, 1) := of_q QX9_below_0 11 rfl
theorem dX9_below_24 : decode cX9_below 24 = .ok (.lload_n 1, 1) := of_q QX9_below_0 12 rfl
theorem dX9_below_25 : decode cX9_below 25 = .ok (.invokespecial 115, 3) := of_q QX9_below_0 13 rfl
theorem dX9_below_28 : decode cX9_below 28 = .ok (.astore 5, 2) := of_q QX9_below_0 14 rfl
theorem dX9_below_30 : decode cX9_below 30 = .ok (.iconst 0, 1) := of_q QX9_below_0 15 rfl
theorem dX9_below_31 : decode cX9_below 31 = .ok (.istore 6, 2) := of_q QX9_below_0 16 rfl
theorem dX9_below_33 : decode cX9_below 33 = .ok (.iload 6, 2) := of_q QX9_below_0 17 rfl
theorem dX9_below_35 : decode cX9_below 35 = .ok (.iload 4, 2) := of_q QX9_below_0 18 rfl
theorem dX9_below_37 : decode cX9_below 37 = .ok (.if_icmp .ge 16, 3) := of_q QX9_below_0 19 rfl
theorem dX9_below_40 : decode cX9_below 40 = .ok (.aload 5, 2) := of_q QX9_below_0 20 rfl
theorem dX9_below_42 : decode cX9_below 42 = .ok (.iload_n 3, 1) := of_q QX9_below_0 21 rfl
theorem dX9_below_43 : decode cX9_below 43 = .ok (.invokevirtual 145, 3) := of_q QX9_below_0 22 rfl
theorem dX9_below_46 : decode cX9_below 46 = .ok (.pop, 1) := of_q QX9_below_0 23 rfl
theorem dX9_below_47 : decode cX9_below 47 = .ok (.iinc 6 1, 3) := of_q QX9_below_0 24 rfl
theorem dX9_below_50 : decode cX9_below 50 = .ok (.goto (-17), 3) := of_q QX9_below_0 25 rfl
theorem dX9_below_53 : decode cX9_below 53 = .ok (.aload 5, 2) := of_q QX9_below_0 26 rfl
theorem dX9_below_55 : decode cX9_below 55 = .ok (.iload_n 3, 1) := of_q QX9_below_0 27 rfl
theorem dX9_below_56 : decode cX9_below 56 = .ok (.invokevirtual 145, 3) := of_q QX9_below_0 28 rfl
theorem dX9_below_59 : decode cX9_below 59 = .ok (.ireturn, 1) := of_q QX9_below_0 29 rfl
def qX9_corpus_0 : List (Nat × Instr × Nat) := [(0, .aload_n 0, 1), (1, .getfield 51, 3), (4, .iload_n 1, 1), (5, .invokevirtual 148, 3), (8, .ireturn, 1)]
theorem QX9_corpus_0 : qX9_corpus_0.all (fun q => decide (decode cX9_corpus q.1 = .ok q.2)) = true := by decide +kernel
theorem dX9_corpus_0 : decode cX9_corpus 0 = .ok (.aload_n 0, 1) := of_q QX9_corpus_0 0 rfl
theorem dX9_corpus_1 : decode cX9_corpus 1 = .ok (.getfield 51, 3) := of_q QX9_corpus_0 1 rfl
theorem dX9_corpus_4 : decode cX9_corpus 4 = .ok (.iload_n 1, 1) := of_q QX9_corpus_0 2 rfl
theorem dX9_corpus_5 : decode cX9_corpus 5 = .ok (.invokevirtual 148, 3) := of_q QX9_corpus_0 3 rfl
theorem dX9_corpus_8 : decode cX9_corpus 8 = .ok (.ireturn, 1) := of_q QX9_corpus_0 4 rfl
def qX9_forget_0 : List (Nat × Instr × Nat) := [(0, .aload_n 0, 1), (1, .getfield 51, 3), (4, .invokevirtual 151, 3), (7, .ireturn, 1)]
theorem QX9_forget_0 : qX9_forget_0.all (fun q => decide (decode cX9_forget q.1 = .ok q.2)) = true := by decide +kernel
theorem dX9_forget_0 : decode cX9_forget 0 = .ok (.aload_n 0, 1) := of_q QX9_forget_0 0 rfl
theorem dX9_forget_1 : decode cX9_forget 1 = .ok (.getfield 51, 3) := of_q QX9_forget_0 1 rfl
theorem dX9_forget_4 : decode cX9_forget 4 = .ok (.invokevirtual 151, 3) := of_q QX9_forget_0 2 rfl
theorem dX9_forget_7 : decode cX9_forget 7 = .ok (.ireturn, 1) := of_q QX9_forget_0 3 rfl
def qX9_walk_0 : List (Nat × Instr × Nat) := [(0, .iload_n 1, 1), (1, .iconst 1, 1), (2, .iconst 3, 1), (3, .invokestatic 91, 3), (6, .ifCond .eq 14, 3), (9, .iload_n 3, 1), (10, .iconst 0, 1), (11, .sipush 200, 3), (14, .invokestatic 91, 3), (17, .ifCond .ne 6, 3), (20, .bipush (-2), 2), (22, .ireturn, 1), (23, .iload_n 2, 1), (24, .iconst 0, 1), (25, .aload_n 0, 1), (26, .getfield 51, 3), (29, .getfield 154, 3), (32, .iload_n 1, 1), (33, .isub, 1), (34, .invokestatic 91, 3), (37, .ifCond .ne 6, 3), (40, .bipush (-3), 2), (42, .ireturn, 1), (43, .aload_n 0, 1), (44, .getfield 51, 3), (47, .iload_n 1, 1), (48, .iload_n 2, 1), (49, .iload_n 3, 1), (50, .new 113, 3), (53, .dup, 1), (54, .lload 4, 2), (56, .invokespecial 115, 3), (59, .invokevirtual 155, 3), (62, .ireturn, 1)]
theorem QX9_walk_0 : qX9_walk_0.all (fun q => decide (decode cX9_walk q.1 = .ok q.2)) = true := by decide +kernel
theorem dX9_walk_0 : decode cX9_walk 0 = .ok (.iload_n 1, 1) := of_q QX9_walk_0 0 rfl
theorem dX9_walk_1 : decode cX9_walk 1 = .ok (.iconst 1, 1) := of_q QX9_walk_0 1 rfl
theorem dX9_walk_2 : decode cX9_walk 2 = .ok (.iconst 3, 1) := of_q QX9_walk_0 2 rfl
theorem dX9_walk_3 : decode cX9_walk 3 = .ok (.invokestatic 91, 3) := of_q QX9_walk_0 3 rfl
theorem dX9_walk_6 : decode cX9_walk 6 = .ok (.ifCond .eq 14, 3) := of_q QX9_walk_0 4 rfl
theorem dX9_walk_9 : decode cX9_walk 9 = .ok (.iload_n 3, 1) := of_q QX9_walk_0 5 rfl
theorem dX9_walk_10 : decode cX9_walk 10 = .ok (.iconst 0, 1) := of_q QX9_walk_0 6 rfl
theorem dX9_walk_11 : decode cX9_walk 11 = .ok (.sipush 200, 3) := of_q QX9_walk_0 7 rfl
theorem dX9_walk_14 : decode cX9_walk 14 = .ok (.invokestatic 91, 3) := of_q QX9_walk_0 8 rfl
theorem dX9_walk_17 : decode cX9_walk 17 = .ok (.ifCond .ne 6, 3) := of_q QX9_walk_0 9 rfl
theorem dX9_walk_20 : decode cX9_walk 20 = .ok (.bipush (-2), 2) := of_q QX9_walk_0 10 rfl
theorem dX9_walk_22 : decode cX9_walk 22 = .ok (.ireturn, 1) := of_q QX9_walk_0 11 rfl
theorem dX9_walk_23 : decode cX9_walk 23 = .ok (.iload_n 2, 1) := of_q QX9_walk_0 12 rfl
theorem dX9_walk_24 : decode cX9_walk 24 = .ok (.iconst 0, 1) := of_q QX9_walk_0 13 rfl
theorem dX9_walk_25 : decode cX9_walk 25 = .ok (.aload_n 0, 1) := of_q QX9_walk_0 14 rfl
theorem dX9_walk_26 : decode cX9_walk 26 = .ok (.getfield 51, 3) := of_q QX9_walk_0 15 rfl
theorem dX9_walk_29 : decode cX9_walk 29 = .ok (.getfield 154, 3) := of_q QX9_walk_0 16 rfl
theorem dX9_walk_32 : decode cX9_walk 32 = .ok (.iload_n 1, 1) := of_q QX9_walk_0 17 rfl
theorem dX9_walk_33 : decode cX9_walk 33 = .ok (.isub, 1) := of_q QX9_walk_0 18 rfl
theorem dX9_walk_34 : decode cX9_walk 34 = .ok (.invokestatic 91, 3) := of_q QX9_walk_0 19 rfl
theorem dX9_walk_37 : decode cX9_walk 37 = .ok (.ifCond .ne 6, 3) := of_q QX9_walk_0 20 rfl
theorem dX9_walk_40 : decode cX9_walk 40 = .ok (.bipush (-3), 2) := of_q QX9_walk_0 21 rfl
theorem dX9_walk_42 : decode cX9_walk 42 = .ok (.ireturn, 1) := of_q QX9_walk_0 22 rfl
theorem dX9_walk_43 : decode cX9_walk 43 = .ok (.aload_n 0, 1) := of_q QX9_walk_0 23 rfl
theorem dX9_walk_44 : decode cX9_walk 44 = .ok (.getfield 51, 3) := of_q QX9_walk_0 24 rfl
theorem dX9_walk_47 : decode cX9_walk 47 = .ok (.iload_n 1, 1) := of_q QX9_walk_0 25 rfl
theorem dX9_walk_48 : decode cX9_walk 48 = .ok (.iload_n 2, 1) := of_q QX9_walk_0 26 rfl
theorem dX9_walk_49 : decode cX9_walk 49 = .ok (.iload_n 3, 1) := of_q QX9_walk_0 27 rfl
theorem dX9_walk_50 : decode cX9_walk 50 = .ok (.new 113, 3) := of_q QX9_walk_0 28 rfl
theorem dX9_walk_53 : decode cX9_walk 53 = .ok (.dup, 1) := of_q QX9_walk_0 29 rfl
theorem dX9_walk_54 : decode cX9_walk 54 = .ok (.lload 4, 2) := of_q QX9_walk_0 30 rfl
theorem dX9_walk_56 : decode cX9_walk 56 = .ok (.invokespecial 115, 3) := of_q QX9_walk_0 31 rfl
theorem dX9_walk_59 : decode cX9_walk 59 = .ok (.invokevirtual 155, 3) := of_q QX9_walk_0 32 rfl
theorem dX9_walk_62 : decode cX9_walk 62 = .ok (.ireturn, 1) := of_q QX9_walk_0 33 rfl
def qX9_step_0 : List (Nat × Instr × Nat) := [(0, .iload_n 1, 1), (1, .iconst 0, 1), (2, .aload_n 0, 1), (3, .getfield 51, 3), (6, .getfield 159, 3), (9, .iconst 1, 1), (10, .isub, 1), (11, .invokestatic 91, 3), (14, .ifCond .eq 15, 3), (17, .aload_n 0, 1), (18, .getfield 51, 3), (21, .getfield 162, 3), (24, .iload_n 1, 1), (25, .iaload, 1), (26, .goto 4, 3), (29, .iconst 0, 1), (30, .ireturn, 1)]
theorem QX9_step_0 : qX9_step_0.all (fun q => decide (decode cX9_step q.1 = .ok q.2)) = true := by decide +kernel
theorem dX9_step_0 : decode cX9_step 0 = .ok (.iload_n 1, 1) := of_q QX9_step_0 0 rfl
theorem dX9_step_1 : decode cX9_step 1 = .ok (.iconst 0, 1) := of_q QX9_step_0 1 rfl
theorem dX9_step_2 : decode cX9_step 2 = .ok (.aload_n 0, 1) := of_q QX9_step_0 2 rfl
theorem dX9_step_3 : decode cX9_step 3 = .ok (.getfield 51, 3) := of_q QX9_step_0 3 rfl
theorem dX9_step_6 : decode cX9_step 6 = .ok (.getfield 159, 3) := of_q QX9_step_0 4 rfl
theorem dX9_step_9 : decode cX9_step 9 = .ok (.iconst 1, 1) := of_q QX9_step_0 5 rfl
theorem dX9_step_10 : decode cX9_step 10 = .ok (.isub, 1) := of_q QX9_step_0 6 rfl
theorem dX9_step_11 : decode cX9_step 11 = .ok (.invokestatic 91, 3) := of_q QX9_step_0 7 rfl
theorem dX9_step_14 : decode cX9_step 14 = .ok (.ifCond .eq 15, 3) := of_q QX9_step_0 8 rfl
theorem dX9_step_17 : decode cX9_step 17 = .ok (.aload_n 0, 1) := of_q QX9_step_0 9 rfl
theorem dX9_step_18 : decode cX9_step 18 = .ok (.getfield 51, 3) := of_q QX9_step_0 10 rfl
theorem dX9_step_21 : decode cX9_step 21 = .ok (.getfield 162, 3) := of_q QX9_step_0 11 rfl
theorem dX9_step_24 : decode cX9_step 24 = .ok (.iload_n 1, 1) := of_q QX9_step_0 12 rfl
theorem dX9_step_25 : decode cX9_step 25 = .ok (.iaload, 1) := of_q QX9_step_0 13 rfl
theorem dX9_step_26 : decode cX9_step 26 = .ok (.goto 4, 3) := of_q QX9_step_0 14 rfl
theorem dX9_step_29 : decode cX9_step 29 = .ok (.iconst 0, 1) := of_q QX9_step_0 15 rfl
theorem dX9_step_30 : decode cX9_step 30 = .ok (.ireturn, 1) := of_q QX9_step_0 16 rfl
def qX9_steps_0 : List (Nat × Instr × Nat) := [(0, .aload_n 0, 1), (1, .getfield 51, 3), (4, .getfield 159, 3), (7, .ireturn, 1)]
theorem QX9_steps_0 : qX9_steps_0.all (fun q => decide (decode cX9_steps q.1 = .ok q.2)) = true := by decide +kernel
theorem dX9_steps_0 : decode cX9_steps 0 = .ok (.aload_n 0, 1) := of_q QX9_steps_0 0 rfl
theorem dX9_steps_1 : decode cX9_steps 1 = .ok (.getfield 51, 3) := of_q QX9_steps_0 1 rfl
theorem dX9_steps_4 : decode cX9_steps 4 = .ok (.getfield 159, 3) := of_q QX9_steps_0 2 rfl
theorem dX9_steps_7 : decode cX9_steps 7 = .ok (.ireturn, 1) := of_q QX9_steps_0 3 rfl
def qX9_stroke_0 : List (Nat × Instr × Nat) := [(0, .iload_n 2, 1), (1, .iconst 1, 1), (2, .bipush 64, 2), (4, .invokestatic 91, 3), (7, .ifCond .eq 12, 3), (10, .iload_n 1, 1), (11, .iconst 0, 1), (12, .iload_n 2, 1), (13, .invokestatic 91, 3), (16, .ifCond .ne 6, 3), (19, .bipush (-2), 2), (21, .ireturn, 1), (22, .iload_n 3, 1), (23, .iconst 0, 1), (24, .iload_n 2, 1), (25, .iconst 1, 1), (26, .isub, 1), (27, .invokestatic 91, 3), (30, .ifCond .eq 14, 3), (33, .iload 4, 2), (35, .iconst 0, 1), (36, .ldc 165, 2), (38, .invokestatic 91, 3), (41, .ifCond .ne 6, 3), (44, .bipush (-2), 2), (46, .ireturn, 1), (47, .iload 4, 2), (49, .iload_n 3, 1), (50, .iadd, 1), (51, .iload_n 1, 1), (52, .imul, 1), (53, .iload_n 2, 1), (54, .irem, 1), (55, .iload_n 1, 1), (56, .if_icmp .ge 7, 3), (59, .iconst 1, 1), (60, .goto 4, 3), (63, .iconst 0, 1), (64, .ireturn, 1)]
theorem QX9_stroke_0 : qX9_stroke_0.all (fun q => decide (decode cX9_stroke q.1 = .ok q.2)) = true := by decide +kernel
theorem dX9_stroke_0 : decode cX9_stroke 0 = .ok (.iload_n 2, 1) := of_q QX9_stroke_0 0 rfl
theorem dX9_stroke_1 : decode cX9_stroke 1 = .ok (.iconst 1, 1) := of_q QX9_stroke_0 1 rfl
theorem dX9_stroke_2 : decode cX9_stroke 2 = .ok (.bipush 64, 2) := of_q QX9_stroke_0 2 rfl
theorem dX9_stroke_4 : decode cX9_stroke 4 = .ok (.invokestatic 91, 3) := of_q QX9_stroke_0 3 rfl
theorem dX9_stroke_7 : decode cX9_stroke 7 = .ok (.ifCond .eq 12, 3) := of_q QX9_stroke_0 4 rfl
theorem dX9_stroke_10 : decode cX9_stroke 10 = .ok (.iload_n 1, 1) := of_q QX9_stroke_0 5 rfl
theorem dX9_stroke_11 : decode cX9_stroke 11 = .ok (.iconst 0, 1) := of_q QX9_stroke_0 6 rfl
theorem dX9_stroke_12 : decode cX9_stroke 12 = .ok (.iload_n 2, 1) := of_q QX9_stroke_0 7 rfl
theorem dX9_stroke_13 : decode cX9_stroke 13 = .ok (.invokestatic 91, 3) := of_q QX9_stroke_0 8 rfl
theorem dX9_stroke_16 : decode cX9_stroke 16 = .ok (.ifCond .ne 6, 3) := of_q QX9_stroke_0 9 rfl
theorem dX9_stroke_19 : decode cX9_stroke 19 = .ok (.bipush (-2), 2) := of_q QX9_stroke_0 10 rfl
theorem dX9_stroke_21 : decode cX9_stroke 21 = .ok (.ireturn, 1) := of_q QX9_stroke_0 11 rfl
theorem dX9_stroke_22 : decode cX9_stroke 22 = .ok (.iload_n 3, 1) := of_q QX9_stroke_0 12 rfl
theorem dX9_stroke_23 : decode cX9_stroke 23 = .ok (.iconst 0, 1) := of_q QX9_stroke_0 13 rfl
theorem dX9_stroke_24 : decode cX9_stroke 24 = .ok (.iload_n 2, 1) := of_q QX9_stroke_0 14 rfl
theorem dX9_stroke_25 : decode cX9_stroke 25 = .ok (.iconst 1, 1) := of_q QX9_stroke_0 15 rfl
theorem dX9_stroke_26 : decode cX9_stroke 26 = .ok (.isub, 1) := of_q QX9_stroke_0 16 rfl
theorem dX9_stroke_27 : decode cX9_stroke 27 = .ok (.invokestatic 91, 3) := of_q QX9_stroke_0 17 rfl
theorem dX9_stroke_30 : decode cX9_stroke 30 = .ok (.ifCond .eq 14, 3) := of_q QX9_stroke_0 18 rfl
theorem dX9_stroke_33 : decode cX9_stroke 33 = .ok (.iload 4, 2) := of_q QX9_stroke_0 19 rfl
theorem dX9_stroke_35 : decode cX9_stroke 35 = .ok (.iconst 0, 1) := of_q QX9_stroke_0 20 rfl
theorem dX9_stroke_36 : decode cX9_stroke 36 = .ok (.ldc 165, 2) := of_q QX9_stroke_0 21 rfl
theorem dX9_stroke_38 : decode cX9_stroke 38 = .ok (.invokestatic 91, 3) := of_q QX9_stroke_0 22 rfl
theorem dX9_stroke_41 : decode cX9_stroke 41 = .ok (.ifCond .ne 6, 3) := of_q QX9_stroke_0 23 rfl
theorem dX9_stroke_44 : decode cX9_stroke 44 = .ok (.bipush (-2), 2) := of_q QX9_stroke_0 24 rfl
theorem dX9_stroke_46 : decode cX9_stroke 46 = .ok (.ireturn, 1) := of_q QX9_stroke_0 25 rfl
theorem dX9_stroke_47 : decode cX9_stroke 47 = .ok (.iload 4, 2) := of_q QX9_stroke_0 26 rfl
theorem dX9_stroke_49 : decode cX9_stroke 49 = .ok (.iload_n 3, 1) := of_q QX9_stroke_0 27 rfl
theorem dX9_stroke_50 : decode cX9_stroke 50 = .ok (.iadd, 1) := of_q QX9_stroke_0 28 rfl
theorem dX9_stroke_51 : decode cX9_stroke 51 = .ok (.iload_n 1, 1) := of_q QX9_stroke_0 29 rfl
theorem dX9_stroke_52 : decode cX9_stroke 52 = .ok (.imul, 1) := of_q QX9_stroke_0 30 rfl
theorem dX9_stroke_53 : decode cX9_stroke 53 = .ok (.iload_n 2, 1) := of_q QX9_stroke_0 31 rfl
theorem dX9_stroke_54 : decode cX9_stroke 54 = .ok (.irem, 1) := of_q QX9_stroke_0 32 rfl
theorem dX9_stroke_55 : decode cX9_stroke 55 = .ok (.iload_n 1, 1) := of_q QX9_stroke_0 33 rfl
theorem dX9_stroke_56 : decode cX9_stroke 56 = .ok (.if_icmp .ge 7, 3) := of_q QX9_stroke_0 34 rfl
theorem dX9_stroke_59 : decode cX9_stroke 59 = .ok (.iconst 1, 1) := of_q QX9_stroke_0 35 rfl
theorem dX9_stroke_60 : decode cX9_stroke 60 = .ok (.goto 4, 3) := of_q QX9_stroke_0 36 rfl
theorem dX9_stroke_63 : decode cX9_stroke 63 = .ok (.iconst 0, 1) := of_q QX9_stroke_0 37 rfl
theorem dX9_stroke_64 : decode cX9_stroke 64 = .ok (.ireturn, 1) := of_q QX9_stroke_0 38 rfl
def qX9_turned_0 : List (Nat × Instr × Nat) := [(0, .iload 5, 2), (2, .iconst 1, 1), (3, .bipush 64, 2), (5, .invokestatic 91, 3), (8, .ifCond .ne 6, 3), (11, .bipush (-2), 2), (13, .ireturn, 1), (14, .ldc2_w 166, 3), (17, .bipush 64, 2), (19, .iload 5, 2), (21, .isub, 1), (22, .lushr, 1), (23, .lstore 6, 2), (25, .lload_n 1, 1), (26, .lload 6, 2), (28, .land, 1), (29, .lstore 8, 2), (31, .lload_n 3, 1), (32, .lload 6, 2), (34, .land, 1), (35, .lstore 10, 2), (37, .lload 8, 2), (39, .lload 10, 2), (41, .lcmp, 1), (42, .ifCond .ne 5, 3), (45, .iconst 0, 1), (46, .ireturn, 1), (47, .iconst 1, 1), (48, .istore 12, 2), (50, .iload 12, 2), (52, .iload 5, 2), (54, .if_icmp .ge 35, 3), (57, .lload 8, 2), (59, .iload 12, 2), (61, .lushr, 1), (62, .lload 8, 2), (64, .iload 5, 2), (66, .iload 12, 2), (68, .isub, 1), (69, .lshl, 1), (70, .lor, 1), (71, .lload 6, 2), (73, .land, 1), (74, .lload 10, 2), (76, .lcmp, 1), (77, .ifCond .ne 6, 3), (80, .iload 12, 2), (82, .ireturn, 1), (83, .iinc 12 1, 3), (86, .goto (-36), 3), (89, .iconst (-1), 1), (90, .ireturn, 1)]
theorem QX9_turned_0 : qX9_turned_0.all (fun q => decide (decode cX9_turned q.1 = .ok q.2)) = true := by decide +kernel
theorem dX9_turned_0 : decode cX9_turned 0 = .ok (.iload 5, 2) := of_q QX9_turned_0 0 rfl
theorem dX9_turned_2 : decode cX9_turned 2 = .ok (.iconst 1, 1) := of_q QX9_turned_0 1 rfl
theorem dX9_turned_3 : decode cX9_turned 3 = .ok (.bipush 64, 2) := of_q QX9_turned_0 2 rfl
theorem dX9_turned_5 : decode cX9_turned 5 = .ok (.invokestatic 91, 3) := of_q QX9_turned_0 3 rfl
theorem dX9_turned_8 : decode cX9_turned 8 = .ok (.ifCond .ne 6, 3) := of_q QX9_turned_0 4 rfl
theorem dX9_turned_11 : decode cX9_turned 11 = .ok (.bipush (-2), 2) := of_q QX9_turned_0 5 rfl
theorem dX9_turned_13 : decode cX9_turned 13 = .ok (.ireturn, 1) := of_q QX9_turned_0 6 rfl
theorem dX9_turned_14 : decode cX9_turned 14 = .ok (.ldc2_w 166, 3) := of_q QX9_turned_0 7 rfl
theorem dX9_turned_17 : decode cX9_turned 17 = .ok (.bipush 64, 2) := of_q QX9_turned_0 8 rfl
theorem dX9_turned_19 : decode cX9_turned 19 = .ok (.iload 5, 2) := of_q QX9_turned_0 9 rfl
theorem dX9_turned_21 : decode cX9_turned 21 = .ok (.isub, 1) := of_q QX9_turned_0 10 rfl
theorem dX9_turned_22 : decode cX9_turned 22 = .ok (.lushr, 1) := of_q QX9_turned_0 11 rfl
theorem dX9_turned_23 : decode cX9_turned 23 = .ok (.lstore 6, 2) := of_q QX9_turned_0 12 rfl
theorem dX9_turned_25 : decode cX9_turned 25 = .ok (.lload_n 1, 1) := of_q QX9_turned_0 13 rfl
theorem dX9_turned_26 : decode cX9_turned 26 = .ok (.lload 6, 2) := of_q QX9_turned_0 14 rfl
theorem dX9_turned_28 : decode cX9_turned 28 = .ok (.land, 1) := of_q QX9_turned_0 15 rfl
theorem dX9_turned_29 : decode cX9_turned 29 = .ok (.lstore 8, 2) := of_q QX9_turned_0 16 rfl
theorem dX9_turned_31 : decode cX9_turned 31 = .ok (.lload_n 3, 1) := of_q QX9_turned_0 17 rfl
theorem dX9_turned_32 : decode cX9_turned 32 = .ok (.lload 6, 2) := of_q QX9_turned_0 18 rfl
theorem dX9_turned_34 : decode cX9_turned 34 = .ok (.land, 1) := of_q QX9_turned_0 19 rfl
theorem dX9_turned_35 : decode cX9_turned 35 = .ok (.lstore 10, 2) := of_q QX9_turned_0 20 rfl
theorem dX9_turned_37 : decode cX9_turned 37 = .ok (.lload 8, 2) := of_q QX9_turned_0 21 rfl
theorem dX9_turned_39 : decode cX9_turned 39 = .ok (.lload 10, 2) := of_q QX9_turned_0 22 rfl
theorem dX9_turned_41 : decode cX9_turned 41 = .ok (.lcmp, 1) := of_q QX9_turned_0 23 rfl
theorem dX9_turned_42 : decode cX9_turned 42 = .ok (.ifCond .ne 5, 3) := of_q QX9_turned_0 24 rfl
theorem dX9_turned_45 : decode cX9_turned 45 = .ok (.iconst 0, 1) := of_q QX9_turned_0 25 rfl
theorem dX9_turned_46 : decode cX9_turned 46 = .ok (.ireturn, 1) := of_q QX9_turned_0 26 rfl
theorem dX9_turned_47 : decode cX9_turned 47 = .ok (.iconst 1, 1) := of_q QX9_turned_0 27 rfl
theorem dX9_turned_48 : decode cX9_turned 48 = .ok (.istore 12, 2) := of_q QX9_turned_0 28 rfl
theorem dX9_turned_50 : decode cX9_turned 50 = .ok (.iload 12, 2) := of_q QX9_turned_0 29 rfl
theorem dX9_turned_52 : decode cX9_turned 52 = .ok (.iload 5, 2) := of_q QX9_turned_0 30 rfl
theorem dX9_turned_54 : decode cX9_turned 54 = .ok (.if_icmp .ge 35, 3) := of_q QX9_turned_0 31 rfl
theorem dX9_turned_57 : decode cX9_turned 57 = .ok (.lload 8, 2) := of_q QX9_turned_0 32 rfl
theorem dX9_turned_59 : decode cX9_turned 59 = .ok (.iload 12, 2) := of_q QX9_turned_0 33 rfl
theorem dX9_turned_61 : decode cX9_turned 61 = .ok (.lushr, 1) := of_q QX9_turned_0 34 rfl
theorem dX9_turned_62 : decode cX9_turned 62 = .ok (.lload 8, 2) := of_q QX9_turned_0 35 rfl
theorem dX9_turned_64 : decode cX9_turned 64 = .ok (.iload 5, 2) := of_q QX9_turned_0 36 rfl
theorem dX9_turned_66 : decode cX9_turned 66 = .ok (.iload 12, 2) := of_q QX9_turned_0 37 rfl
theorem dX9_turned_68 : decode cX9_turned 68 = .ok (.isub, 1) := of_q QX9_turned_0 38 rfl
theorem dX9_turned_69 : decode cX9_turned 69 = .ok (.lshl, 1) := of_q QX9_turned_0 39 rfl
theorem dX9_turned_70 : decode cX9_turned 70 = .ok (.lor, 1) := of_q QX9_turned_0 40 rfl
theorem dX9_turned_71 : decode cX9_turned 71 = .ok (.lload 6, 2) := of_q QX9_turned_0 41 rfl
theorem dX9_turned_73 : decode cX9_turned 73 = .ok (.land, 1) := of_q QX9_turned_0 42 rfl
theorem dX9_turned_74 : decode cX9_turned 74 = .ok (.lload 10, 2) := of_q QX9_turned_0 43 rfl
theorem dX9_turned_76 : decode cX9_turned 76 = .ok (.lcmp, 1) := of_q QX9_turned_0 44 rfl
theorem dX9_turned_77 : decode cX9_turned 77 = .ok (.ifCond .ne 6, 3) := of_q QX9_turned_0 45 rfl
theorem dX9_turned_80 : decode cX9_turned 80 = .ok (.iload 12, 2) := of_q QX9_turned_0 46 rfl
theorem dX9_turned_82 : decode cX9_turned 82 = .ok (.ireturn, 1) := of_q QX9_turned_0 47 rfl
theorem dX9_turned_83 : decode cX9_turned 83 = .ok (.iinc 12 1, 3) := of_q QX9_turned_0 48 rfl
theorem dX9_turned_86 : decode cX9_turned 86 = .ok (.goto (-36), 3) := of_q QX9_turned_0 49 rfl
theorem dX9_turned_89 : decode cX9_turned 89 = .ok (.iconst (-1), 1) := of_q QX9_turned_0 50 rfl
theorem dX9_turned_90 : decode cX9_turned 90 = .ok (.ireturn, 1) := of_q QX9_turned_0 51 rfl
def qX9_place_0 : List (Nat × Instr × Nat) := [(0, .iload_n 1, 1), (1, .iconst 0, 1), (2, .bipush 11, 2), (4, .invokestatic 91, 3), (7, .ifCond .eq 13, 3), (10, .iload_n 2, 1), (11, .iconst 0, 1), (12, .bipush 11, 2), (14, .invokestatic 91, 3), (17, .ifCond .ne 6, 3), (20, .bipush (-2), 2), (22, .ireturn, 1), (23, .aload_n 0, 1), (24, .getfield 58, 3), (27, .iload_n 1, 1), (28, .iload_n 2, 1), (29, .invokevirtual 168, 3), (32, .iconst 1, 1), (33, .ireturn, 1)]
theorem QX9_place_0 : qX9_place_0.all (fun q => decide (decode cX9_place q.1 = .ok q.2)) = true := by decide +kernel
theorem dX9_place_0 : decode cX9_place 0 = .ok (.iload_n 1, 1) := of_q QX9_place_0 0 rfl
theorem dX9_place_1 : decode cX9_place 1 = .ok (.iconst 0, 1) := of_q QX9_place_0 1 rfl
theorem dX9_place_2 : decode cX9_place 2 = .ok (.bipush 11, 2) := of_q QX9_place_0 2 rfl
theorem dX9_place_4 : decode cX9_place 4 = .ok (.invokestatic 91, 3) := of_q QX9_place_0 3 rfl
theorem dX9_place_7 : decode cX9_place 7 = .ok (.ifCond .eq 13, 3) := of_q QX9_place_0 4 rfl
theorem dX9_place_10 : decode cX9_place 10 = .ok (.iload_n 2, 1) := of_q QX9_place_0 5 rfl
theorem dX9_place_11 : decode cX9_place 11 = .ok (.iconst 0, 1) := of_q QX9_place_0 6 rfl
theorem dX9_place_12 : decode cX9_place 12 = .ok (.bipush 11, 2) := of_q QX9_place_0 7 rfl
theorem dX9_place_14 : decode cX9_place 14 = .ok (.invokestatic 91, 3) := of_q QX9_place_0 8 rfl
theorem dX9_place_17 : decode cX9_place 17 = .ok (.ifCond .ne 6, 3) := of_q QX9_place_0 9 rfl
theorem dX9_place_20 : decode cX9_place 20 = .ok (.bipush (-2), 2) := of_q QX9_place_0 10 rfl
theorem dX9_place_22 : decode cX9_place 22 = .ok (.ireturn, 1) := of_q QX9_place_0 11 rfl
theorem dX9_place_23 : decode cX9_place 23 = .ok (.aload_n 0, 1) := of_q QX9_place_0 12 rfl
theorem dX9_place_24 : decode cX9_place 24 = .ok (.getfield 58, 3) := of_q QX9_place_0 13 rfl
theorem dX9_place_27 : decode cX9_place 27 = .ok (.iload_n 1, 1) := of_q QX9_place_0 14 rfl
theorem dX9_place_28 : decode cX9_place 28 = .ok (.iload_n 2, 1) := of_q QX9_place_0 15 rfl
theorem dX9_place_29 : decode cX9_place 29 = .ok (.invokevirtual 168, 3) := of_q QX9_place_0 16 rfl
theorem dX9_place_32 : decode cX9_place 32 = .ok (.iconst 1, 1) := of_q QX9_place_0 17 rfl
theorem dX9_place_33 : decode cX9_place 33 = .ok (.ireturn, 1) := of_q QX9_place_0 18 rfl
def qX9_form_0 : List (Nat × Instr × Nat) := [(0, .iload_n 1, 1), (1, .iconst 0, 1), (2, .iconst 3, 1), (3, .invokestatic 91, 3), (6, .ifCond .eq 13, 3), (9, .iload_n 2, 1), (10, .iconst 0, 1), (11, .bipush 11, 2), (13, .invokestatic 91, 3), (16, .ifCond .ne 6, 3), (19, .bipush (-2), 2), (21, .ireturn, 1), (22, .iload_n 3, 1), (23, .iconst 0, 1), (24, .bipush 11, 2), (26, .invokestatic 91, 3), (29, .ifCond .ne 6, 3), (32, .bipush (-2), 2), (34, .ireturn, 1), (35, .aload_n 0, 1), (36, .getfield 58, 3), (39, .iload_n 1, 1), (40, .iload_n 2, 1), (41, .iload_n 3, 1), (42, .invokevirtual 172, 3), (45, .ireturn, 1)]
theorem QX9_form_0 : qX9_form_0.all (fun q => decide (decode cX9_form q.1 = .ok q.2)) = true := by decide +kernel
theorem dX9_form_0 : decode cX9_form 0 = .ok (.iload_n 1, 1) := of_q QX9_form_0 0 rfl
theorem dX9_form_1 : decode cX9_form 1 = .ok (.iconst 0, 1) := of_q QX9_form_0 1 rfl
theorem dX9_form_2 : decode cX9_form 2 = .ok (.iconst 3, 1) := of_q QX9_form_0 2 rfl
theorem dX9_form_3 : decode cX9_form 3 = .ok (.invokestatic 91, 3) := of_q QX9_form_0 3 rfl
theorem dX9_form_6 : decode cX9_form 6 = .ok (.ifCond .eq 13, 3) := of_q QX9_form_0 4 rfl
theorem dX9_form_9 : decode cX9_form 9 = .ok (.iload_n 2, 1) := of_q QX9_form_0 5 rfl
theorem dX9_form_10 : decode cX9_form 10 = .ok (.iconst 0, 1) := of_q QX9_form_0 6 rfl
theorem dX9_form_11 : decode cX9_form 11 = .ok (.bipush 11, 2) := of_q QX9_form_0 7 rfl
theorem dX9_form_13 : decode cX9_form 13 = .ok (.invokestatic 91, 3) := of_q QX9_form_0 8 rfl
theorem dX9_form_16 : decode cX9_form 16 = .ok (.ifCond .ne 6, 3) := of_q QX9_form_0 9 rfl
theorem dX9_form_19 : decode cX9_form 19 = .ok (.bipush (-2), 2) := of_q QX9_form_0 10 rfl
theorem dX9_form_21 : decode cX9_form 21 = .ok (.ireturn, 1) := of_q QX9_form_0 11 rfl
theorem dX9_form_22 : decode cX9_form 22 = .ok (.iload_n 3, 1) := of_q QX9_form_0 12 rfl
theorem dX9_form_23 : decode cX9_form 23 = .ok (.iconst 0, 1) := of_q QX9_form_0 13 rfl
theorem dX9_form_24 : decode cX9_form 24 = .ok (.bipush 11, 2) := of_q QX9_form_0 14 rfl
theorem dX9_form_26 : decode cX9_form 26 = .ok (.invokestatic 91, 3) := of_q QX9_form_0 15 rfl
theorem dX9_form_29 : decode cX9_form 29 = .ok (.ifCond .ne 6, 3) := of_q QX9_form_0 16 rfl
theorem dX9_form_32 : decode cX9_form 32 = .ok (.bipush (-2), 2) := of_q QX9_form_0 17 rfl
theorem dX9_form_34 : decode cX9_form 34 = .ok (.ireturn, 1) := of_q QX9_form_0 18 rfl
theorem dX9_form_35 : decode cX9_form 35 = .ok (.aload_n 0, 1) := of_q QX9_form_0 19 rfl
theorem dX9_form_36 : decode cX9_form 36 = .ok (.getfield 58, 3) := of_q QX9_form_0 20 rfl
theorem dX9_form_39 : decode cX9_form 39 = .ok (.iload_n 1, 1) := of_q QX9_form_0 21 rfl
theorem dX9_form_40 : decode cX9_form 40 = .ok (.iload_n 2, 1) := of_q QX9_form_0 22 rfl
theorem dX9_form_41 : decode cX9_form 41 = .ok (.iload_n 3, 1) := of_q QX9_form_0 23 rfl
theorem dX9_form_42 : decode cX9_form 42 = .ok (.invokevirtual 172, 3) := of_q QX9_form_0 24 rfl
theorem dX9_form_45 : decode cX9_form 45 = .ok (.ireturn, 1) := of_q QX9_form_0 25 rfl
def qX9_doubled_0 : List (Nat × Instr × Nat) := [(0, .aload_n 0, 1), (1, .getfield 58, 3), (4, .invokevirtual 176, 3), (7, .ireturn, 1)]
theorem QX9_doubled_0 : qX9_doubled_0.all (fun q => decide (decode cX9_doubled q.1 = .ok q.2)) = true := by decide +kernel
theorem dX9_doubled_0 : decode cX9_doubled 0 = .ok (.aload_n 0, 1) := of_q QX9_doubled_0 0 rfl
theorem dX9_doubled_1 : decode cX9_doubled 1 = .ok (.getfield 58, 3) := of_q QX9_doubled_0 1 rfl
theorem dX9_doubled_4 : decode cX9_doubled 4 = .ok (.invokevirtual 176, 3) := of_q QX9_doubled_0 2 rfl
theorem dX9_doubled_7 : decode cX9_doubled 7 = .ok (.ireturn, 1) := of_q QX9_doubled_0 3 rfl
def qX9_told_0 : List (Nat × Instr × Nat) := [(0, .iload_n 1, 1), (1, .tableswitch 87 0 5 #[39, 47, 55, 63, 71, 79], 39), (40, .aload_n 0, 1), (41, .getfield 12, 3), (44, .getfield 179, 3), (47, .ireturn, 1), (48, .aload_n 0, 1), (49, .getfield 19, 3), (52, .getfield 88, 3), (55, .ireturn, 1), (56, .aload_n 0, 1), (57, .getfield 33, 3), (60, .getfield 130, 3), (63, .ireturn, 1), (64, .aload_n 0, 1), (65, .getfield 51, 3), (68, .getfield 154, 3), (71, .ireturn, 1), (72, .aload_n 0, 1), (73, .getfield 19, 3), (76, .getfield 181, 3), (79, .ireturn, 1), (80, .aload_n 0, 1), (81, .getfield 19, 3), (84, .getfield 184, 3), (87, .ireturn, 1), (88, .bipush (-2), 2), (90, .ireturn, 1)]
theorem QX9_told_0 : qX9_told_0.all (fun q => decide (decode cX9_told q.1 = .ok q.2)) = true := by decide +kernel
theorem dX9_told_0 : decode cX9_told 0 = .ok (.iload_n 1, 1) := of_q QX9_told_0 0 rfl
theorem dX9_told_1 : decode cX9_told 1 = .ok (.tableswitch 87 0 5 #[39, 47, 55, 63, 71, 79], 39) := of_q QX9_told_0 1 rfl
theorem dX9_told_40 : decode cX9_told 40 = .ok (.aload_n 0, 1) := of_q QX9_told_0 2 rfl
theorem dX9_told_41 : decode cX9_told 41 = .ok (.getfield 12, 3) := of_q QX9_told_0 3 rfl
theorem dX9_told_44 : decode cX9_told 44 = .ok (.getfield 179, 3) := of_q QX9_told_0 4 rfl
theorem dX9_told_47 : decode cX9_told 47 = .ok (.ireturn, 1) := of_q QX9_told_0 5 rfl
theorem dX9_told_48 : decode cX9_told 48 = .ok (.aload_n 0, 1) := of_q QX9_told_0 6 rfl
theorem dX9_told_49 : decode cX9_told 49 = .ok (.getfield 19, 3) := of_q QX9_told_0 7 rfl
theorem dX9_told_52 : decode cX9_told 52 = .ok (.getfield 88, 3) := of_q QX9_told_0 8 rfl
theorem dX9_told_55 : decode cX9_told 55 = .ok (.ireturn, 1) := of_q QX9_told_0 9 rfl
theorem dX9_told_56 : decode cX9_told 56 = .ok (.aload_n 0, 1) := of_q QX9_told_0 10 rfl
theorem dX9_told_57 : decode cX9_told 57 = .ok (.getfield 33, 3) := of_q QX9_told_0 11 rfl
theorem dX9_told_60 : decode cX9_told 60 = .ok (.getfield 130, 3) := of_q QX9_told_0 12 rfl
theorem dX9_told_63 : decode cX9_told 63 = .ok (.ireturn, 1) := of_q QX9_told_0 13 rfl
theorem dX9_told_64 : decode cX9_told 64 = .ok (.aload_n 0, 1) := of_q QX9_told_0 14 rfl
theorem dX9_told_65 : decode cX9_told 65 = .ok (.getfield 51, 3) := of_q QX9_told_0 15 rfl
theorem dX9_told_68 : decode cX9_told 68 = .ok (.getfield 154, 3) := of_q QX9_told_0 16 rfl
theorem dX9_told_71 : decode cX9_told 71 = .ok (.ireturn, 1) := of_q QX9_told_0 17 rfl
theorem dX9_told_72 : decode cX9_told 72 = .ok (.aload_n 0, 1) := of_q QX9_told_0 18 rfl
theorem dX9_told_73 : decode cX9_told 73 = .ok (.getfield 19, 3) := of_q QX9_told_0 19 rfl
theorem dX9_told_76 : decode cX9_told 76 = .ok (.getfield 181, 3) := of_q QX9_told_0 20 rfl
theorem dX9_told_79 : decode cX9_told 79 = .ok (.ireturn, 1) := of_q QX9_told_0 21 rfl
theorem dX9_told_80 : decode cX9_told 80 = .ok (.aload_n 0, 1) := of_q QX9_told_0 22 rfl
theorem dX9_told_81 : decode cX9_told 81 = .ok (.getfield 19, 3) := of_q QX9_told_0 23 rfl
theorem dX9_told_84 : decode cX9_told 84 = .ok (.getfield 184, 3) := of_q QX9_told_0 24 rfl
theorem dX9_told_87 : decode cX9_told 87 = .ok (.ireturn, 1) := of_q QX9_told_0 25 rfl
theorem dX9_told_88 : decode cX9_told 88 = .ok (.bipush (-2), 2) := of_q QX9_told_0 26 rfl
theorem dX9_told_90 : decode cX9_told 90 = .ok (.ireturn, 1) := of_q QX9_told_0 27 rfl
def qX9_isWithin_0 : List (Nat × Instr × Nat) := [(0, .iload_n 0, 1), (1, .iload_n 1, 1), (2, .if_icmp .lt 12, 3), (5, .iload_n 0, 1), (6, .iload_n 2, 1), (7, .if_icmp .gt 7, 3), (10, .iconst 1, 1), (11, .goto 4, 3), (14, .iconst 0, 1), (15, .ireturn, 1)]
theorem QX9_isWithin_0 : qX9_isWithin_0.all (fun q => decide (decode cX9_isWithin q.1 = .ok q.2)) = true := by decide +kernel
theorem dX9_isWithin_0 : decode cX9_isWithin 0 = .ok (.iload_n 0, 1) := of_q QX9_isWithin_0 0 rfl
theorem dX9_isWithin_1 : decode cX9_isWithin 1 = .ok (.iload_n 1, 1) := of_q QX9_isWithin_0 1 rfl
theorem dX9_isWithin_2 : decode cX9_isWithin 2 = .ok (.if_icmp .lt 12, 3) := of_q QX9_isWithin_0 2 rfl
theorem dX9_isWithin_5 : decode cX9_isWithin 5 = .ok (.iload_n 0, 1) := of_q QX9_isWithin_0 3 rfl
theorem dX9_isWithin_6 : decode cX9_isWithin 6 = .ok (.iload_n 2, 1) := of_q QX9_isWithin_0 4 rfl
theorem dX9_isWithin_7 : decode cX9_isWithin 7 = .ok (.if_icmp .gt 7, 3) := of_q QX9_isWithin_0 5 rfl
theorem dX9_isWithin_10 : decode cX9_isWithin 10 = .ok (.iconst 1, 1) := of_q QX9_isWithin_0 6 rfl
theorem dX9_isWithin_11 : decode cX9_isWithin 11 = .ok (.goto 4, 3) := of_q QX9_isWithin_0 7 rfl
theorem dX9_isWithin_14 : decode cX9_isWithin 14 = .ok (.iconst 0, 1) := of_q QX9_isWithin_0 8 rfl
theorem dX9_isWithin_15 : decode cX9_isWithin 15 = .ok (.ireturn, 1) := of_q QX9_isWithin_0 9 rfl
def qX9_isLetter_0 : List (Nat × Instr × Nat) := [(0, .iload_n 0, 1), (1, .bipush 65, 2), (3, .if_icmp .lt 13, 3), (6, .iload_n 0, 1), (7, .bipush 90, 2), (9, .if_icmp .gt 7, 3), (12, .iconst 1, 1), (13, .goto 4, 3), (16, .iconst 0, 1), (17, .ireturn, 1)]
theorem QX9_isLetter_0 : qX9_isLetter_0.all (fun q => decide (decode cX9_isLetter q.1 = .ok q.2)) = true := by decide +kernel
theorem dX9_isLetter_0 : decode cX9_isLetter 0 = .ok (.iload_n 0, 1) := of_q QX9_isLetter_0 0 rfl
theorem dX9_isLetter_1 : decode cX9_isLetter 1 = .ok (.bipush 65, 2) := of_q QX9_isLetter_0 1 rfl
theorem dX9_isLetter_3 : decode cX9_isLetter 3 = .ok (.if_icmp .lt 13, 3) := of_q QX9_isLetter_0 2 rfl
theorem dX9_isLetter_6 : decode cX9_isLetter 6 = .ok (.iload_n 0, 1) := of_q QX9_isLetter_0 3 rfl
theorem dX9_isLetter_7 : decode cX9_isLetter 7 = .ok (.bipush 90, 2) := of_q QX9_isLetter_0 4 rfl
theorem dX9_isLetter_9 : decode cX9_isLetter 9 = .ok (.if_icmp .gt 7, 3) := of_q QX9_isLetter_0 5 rfl
theorem dX9_isLetter_12 : decode cX9_isLetter 12 = .ok (.iconst 1, 1) := of_q QX9_isLetter_0 6 rfl
theorem dX9_isLetter_13 : decode cX9_isLetter 13 = .ok (.goto 4, 3) := of_q QX9_isLetter_0 7 rfl
theorem dX9_isLetter_16 : decode cX9_isLetter 16 = .ok (.iconst 0, 1) := of_q QX9_isLetter_0 8 rfl
theorem dX9_isLetter_17 : decode cX9_isLetter 17 = .ok (.ireturn, 1) := of_q QX9_isLetter_0 9 rfl
def qX9_isDigit_0 : List (Nat × Instr × Nat) := [(0, .iload_n 0, 1), (1, .bipush 48, 2), (3, .if_icmp .lt 13, 3), (6, .iload_n 0, 1), (7, .bipush 57, 2), (9, .if_icmp .gt 7, 3), (12, .iconst 1, 1), (13, .goto 4, 3), (16, .iconst 0, 1), (17, .ireturn, 1)]
theorem QX9_isDigit_0 : qX9_isDigit_0.all (fun q => decide (decode cX9_isDigit q.1 = .ok q.2)) = true := by decide +kernel
theorem dX9_isDigit_0 : decode cX9_isDigit 0 = .ok (.iload_n 0, 1) := of_q QX9_isDigit_0 0 rfl
theorem dX9_isDigit_1 : decode cX9_isDigit 1 = .ok (.bipush 48, 2) := of_q QX9_isDigit_0 1 rfl
theorem dX9_isDigit_3 : decode cX9_isDigit 3 = .ok (.if_icmp .lt 13, 3) := of_q QX9_isDigit_0 2 rfl
theorem dX9_isDigit_6 : decode cX9_isDigit 6 = .ok (.iload_n 0, 1) := of_q QX9_isDigit_0 3 rfl
theorem dX9_isDigit_7 : decode cX9_isDigit 7 = .ok (.bipush 57, 2) := of_q QX9_isDigit_0 4 rfl
theorem dX9_isDigit_9 : decode cX9_isDigit 9 = .ok (.if_icmp .gt 7, 3) := of_q QX9_isDigit_0 5 rfl
theorem dX9_isDigit_12 : decode cX9_isDigit 12 = .ok (.iconst 1, 1) := of_q QX9_isDigit_0 6 rfl
theorem dX9_isDigit_13 : decode cX9_isDigit 13 = .ok (.goto 4, 3) := of_q QX9_isDigit_0 7 rfl
theorem dX9_isDigit_16 : decode cX9_isDigit 16 = .ok (.iconst 0, 1) := of_q QX9_isDigit_0 8 rfl
theorem dX9_isDigit_17 : decode cX9_isDigit 17 = .ok (.ireturn, 1) := of_q QX9_isDigit_0 9 rfl
def qX9_isDegree_0 : List (Nat × Instr × Nat) := [(0, .iload_n 0, 1), (1, .bipush 48, 2), (3, .if_icmp .lt 13, 3), (6, .iload_n 0, 1), (7, .bipush 54, 2), (9, .if_icmp .gt 7, 3), (12, .iconst 1, 1), (13, .goto 4, 3), (16, .iconst 0, 1), (17, .ireturn, 1)]
theorem QX9_isDegree_0 : qX9_isDegree_0.all (fun q => decide (decode cX9_isDegree q.1 = .ok q.2)) = true := by decide +kernel
theorem dX9_isDegree_0 : decode cX9_isDegree 0 = .ok (.iload_n 0, 1) := of_q QX9_isDegree_0 0 rfl
theorem dX9_isDegree_1 : decode cX9_isDegree 1 = .ok (.bipush 48, 2) := of_q QX9_isDegree_0 1 rfl
theorem dX9_isDegree_3 : decode cX9_isDegree 3 = .ok (.if_icmp .lt 13, 3) := of_q QX9_isDegree_0 2 rfl
theorem dX9_isDegree_6 : decode cX9_isDegree 6 = .ok (.iload_n 0, 1) := of_q QX9_isDegree_0 3 rfl
theorem dX9_isDegree_7 : decode cX9_isDegree 7 = .ok (.bipush 54, 2) := of_q QX9_isDegree_0 4 rfl
theorem dX9_isDegree_9 : decode cX9_isDegree 9 = .ok (.if_icmp .gt 7, 3) := of_q QX9_isDegree_0 5 rfl
theorem dX9_isDegree_12 : decode cX9_isDegree 12 = .ok (.iconst 1, 1) := of_q QX9_isDegree_0 6 rfl
theorem dX9_isDegree_13 : decode cX9_isDegree 13 = .ok (.goto 4, 3) := of_q QX9_isDegree_0 7 rfl
theorem dX9_isDegree_16 : decode cX9_isDegree 16 = .ok (.iconst 0, 1) := of_q QX9_isDegree_0 8 rfl
theorem dX9_isDegree_17 : decode cX9_isDegree 17 = .ok (.ireturn, 1) := of_q QX9_isDegree_0 9 rfl
def qX9_isBlank_0 : List (Nat × Instr × Nat) := [(0, .iload_n 0, 1), (1, .bipush 32, 2), (3, .if_icmp .eq 9, 3), (6, .iload_n 0, 1), (7, .bipush 10, 2), (9, .if_icmp .ne 7, 3), (12, .iconst 1, 1), (13, .goto 4, 3), (16, .iconst 0, 1), (17, .ireturn, 1)]
theorem QX9_isBlank_0 : qX9_isBlank_0.all (fun q => decide (decode cX9_isBlank q.1 = .ok q.2)) = true := by decide +kernel
theorem dX9_isBlank_0 : decode cX9_isBlank 0 = .ok (.iload_n 0, 1) := of_q QX9_isBlank_0 0 rfl
theorem dX9_isBlank_1 : decode cX9_isBlank 1 = .ok (.bipush 32, 2) := of_q QX9_isBlank_0 1 rfl
theorem dX9_isBlank_3 : decode cX9_isBlank 3 = .ok (.if_icmp .eq 9, 3) := of_q QX9_isBlank_0 2 rfl
theorem dX9_isBlank_6 : decode cX9_isBlank 6 = .ok (.iload_n 0, 1) := of_q QX9_isBlank_0 3 rfl
theorem dX9_isBlank_7 : decode cX9_isBlank 7 = .ok (.bipush 10, 2) := of_q QX9_isBlank_0 4 rfl
theorem dX9_isBlank_9 : decode cX9_isBlank 9 = .ok (.if_icmp .ne 7, 3) := of_q QX9_isBlank_0 5 rfl
theorem dX9_isBlank_12 : decode cX9_isBlank 12 = .ok (.iconst 1, 1) := of_q QX9_isBlank_0 6 rfl
theorem dX9_isBlank_13 : decode cX9_isBlank 13 = .ok (.goto 4, 3) := of_q QX9_isBlank_0 7 rfl
theorem dX9_isBlank_16 : decode cX9_isBlank 16 = .ok (.iconst 0, 1) := of_q QX9_isBlank_0 8 rfl
theorem dX9_isBlank_17 : decode cX9_isBlank 17 = .ok (.ireturn, 1) := of_q QX9_isBlank_0 9 rfl
def qX10_init_0 : List (Nat × Instr × Nat) := [(0, .aload_n 0, 1), (1, .invokespecial 1, 3), (4, .aload_n 0, 1), (5, .bipush 7, 2), (7, .newarray .int, 2), (9, .dup, 1), (10, .iconst 0, 1), (11, .iconst 0, 1), (12, .iastore, 1), (13, .dup, 1), (14, .iconst 1, 1), (15, .iconst 2, 1), (16, .iastore, 1), (17, .dup, 1), (18, .iconst 2, 1), (19, .iconst 4, 1), (20, .iastore, 1), (21, .dup, 1), (22, .iconst 3, 1), (23, .iconst 5, 1), (24, .iastore, 1), (25, .dup, 1), (26, .iconst 4, 1), (27, .bipush 7, 2), (29, .iastore, 1), (30, .dup, 1), (31, .iconst 5, 1), (32, .bipush 9, 2), (34, .iastore, 1), (35, .dup, 1), (36, .bipush 6, 2), (38, .bipush 11, 2), (40, .iastore, 1), (41, .putfield 7, 3), (44, .aload_n 0, 1), (45, .sipush 1200, 3), (48, .newarray .int, 2), (50, .putfield 13, 3), (53, .aload_n 0, 1), (54, .bipush 52, 2), (56, .newarray .int, 2), (58, .putfield 16, 3), (61, .aload_n 0, 1), (62, .bipush 52, 2), (64, .newarray .int, 2), (66, .putfield 19, 3), (69, .aload_n 0, 1), (70, .bipush 96, 2), (72, .newarray .int, 2), (74, .putfield 22, 3), (77, .aload_n 0, 1), (78, .bipush 96, 2), (80, .newarray .int, 2), (82, .putfield 25, 3), (85, .aload_n 0, 1), (86, .bipush 96, 2), (88, .newarray .int, 2), (90, .putfield 28, 3), (93, .aload_n 0, 1), (94, .sipush 482, 3)]
theorem QX10_init_0 : qX10_init_0.all (fun q => decide (decode cX10_init q.1 = .ok q.2)) = true := by decide +kernel
theorem dX10_init_0 : decode cX10_init 0 = .ok (.aload_n 0, 1) := of_q QX10_init_0 0 rfl
theorem dX10_init_1 : decode cX10_init 1 = .ok (.invokespecial 1, 3) := of_q QX10_init_0 1 rfl
theorem dX10_init_4 : decode cX10_init 4 = .ok (.aload_n 0, 1) := of_q QX10_init_0 2 rfl
theorem dX10_init_5 : decode cX10_init 5 = .ok (.bipush 7, 2) := of_q QX10_init_0 3 rfl
theorem dX10_init_7 : decode cX10_init 7 = .ok (.newarray .int, 2) := of_q QX10_init_0 4 rfl
theorem dX10_init_9 : decode cX10_init 9 = .ok (.dup, 1) := of_q QX10_init_0 5 rfl
theorem dX10_init_10 : decode cX10_init 10 = .ok (.iconst 0, 1) := of_q QX10_init_0 6 rfl
theorem dX10_init_11 : decode cX10_init 11 = .ok (.iconst 0, 1) := of_q QX10_init_0 7 rfl
theorem dX10_init_12 : decode cX10_init 12 = .ok (.iastore, 1) := of_q QX10_init_0 8 rfl
theorem dX10_init_13 : decode cX10_init 13 = .ok (.dup, 1) := of_q QX10_init_0 9 rfl
theorem dX10_init_14 : decode cX10_init 14 = .ok (.iconst 1, 1) := of_q QX10_init_0 10 rfl
theorem dX10_init_15 : decode cX10_init 15 = .ok (.iconst 2, 1) := of_q QX10_init_0 11 rfl
theorem dX10_init_16 : decode cX10_init 16 = .ok (.iastore, 1) := of_q QX10_init_0 12 rfl
theorem dX10_init_17 : decode cX10_init 17 = .ok (.dup, 1) := of_q QX10_init_0 13 rfl
theorem dX10_init_18 : decode cX10_init 18 = .ok (.iconst 2, 1) := of_q QX10_init_0 14 rfl
theorem dX10_init_19 : decode cX10_init 19 = .ok (.iconst 4, 1) := of_q QX10_init_0 15 rfl
theorem dX10_init_20 : decode cX10_init 20 = .ok (.iastore, 1) := of_q QX10_init_0 16 rfl
theorem dX10_init_21 : decode cX10_init 21 = .ok (.dup, 1) := of_q QX10_init_0 17 rfl
theorem dX10_init_22 : decode cX10_init 22 = .ok (.iconst 3, 1) := of_q QX10_init_0 18 rfl
theorem dX10_init_23 : decode cX10_init 23 = .ok (.iconst 5, 1) := of_q QX10_init_0 19 rfl
theorem dX10_init_24 : decode cX10_init 24 = .ok (.iastore, 1) := of_q QX10_init_0 20 rfl
theorem dX10_init_25 : decode cX10_init 25 = .ok (.dup, 1) := of_q QX10_init_0 21 rfl
theorem dX10_init_26 : decode cX10_init 26 = .ok (.iconst 4, 1) := of_q QX10_init_0 22 rfl
theorem dX10_init_27 : decode cX10_init 27 = .ok (.bipush 7, 2) := of_q QX10_init_0 23 rfl
theorem dX10_init_29 : decode cX10_init 29 = .ok (.iastore, 1) := of_q QX10_init_0 24 rfl
theorem dX10_init_30 : decode cX10_init 30 = .ok (.dup, 1) := of_q QX10_init_0 25 rfl
theorem dX10_init_31 : decode cX10_init 31 = .ok (.iconst 5, 1) := of_q QX10_init_0 26 rfl
theorem dX10_init_32 : decode cX10_init 32 = .ok (.bipush 9, 2) := of_q QX10_init_0 27 rfl
theorem dX10_init_34 : decode cX10_init 34 = .ok (.iastore, 1) := of_q QX10_init_0 28 rfl
theorem dX10_init_35 : decode cX10_init 35 = .ok (.dup, 1) := of_q QX10_init_0 29 rfl
theorem dX10_init_36 : decode cX10_init 36 = .ok (.bipush 6, 2) := of_q QX10_init_0 30 rfl
theorem dX10_init_38 : decode cX10_init 38 = .ok (.bipush 11, 2) := of_q QX10_init_0 31 rfl
theorem dX10_init_40 : decode cX10_init 40 = .ok (.iastore, 1) := of_q QX10_init_0 32 rfl
theorem dX10_init_41 : decode cX10_init 41 = .ok (.putfield 7, 3) := of_q QX10_init_0 33 rfl
theorem dX10_init_44 : decode cX10_init 44 = .ok (.aload_n 0, 1) := of_q QX10_init_0 34 rfl
theorem dX10_init_45 : decode cX10_init 45 = .ok (.sipush 1200, 3) := of_q QX10_init_0 35 rfl
theorem dX10_init_48 : decode cX10_init 48 = .ok (.newarray .int, 2) := of_q QX10_init_0 36 rfl
theorem dX10_init_50 : decode cX10_init 50 = .ok (.putfield 13, 3) := of_q QX10_init_0 37 rfl
theorem dX10_init_53 : decode cX10_init 53 = .ok (.aload_n 0, 1) := of_q QX10_init_0 38 rfl
theorem dX10_init_54 : decode cX10_init 54 = .ok (.bipush 52, 2) := of_q QX10_init_0 39 rfl
theorem dX10_init_56 : decode cX10_init 56 = .ok (.newarray .int, 2) := of_q QX10_init_0 40 rfl
theorem dX10_init_58 : decode cX10_init 58 = .ok (.putfield 16, 3) := of_q QX10_init_0 41 rfl
theorem dX10_init_61 : decode cX10_init 61 = .ok (.aload_n 0, 1) := of_q QX10_init_0 42 rfl
theorem dX10_init_62 : decode cX10_init 62 = .ok (.bipush 52, 2) := of_q QX10_init_0 43 rfl
theorem dX10_init_64 : decode cX10_init 64 = .ok (.newarray .int, 2) := of_q QX10_init_0 44 rfl
theorem dX10_init_66 : decode cX10_init 66 = .ok (.putfield 19, 3) := of_q QX10_init_0 45 rfl
theorem dX10_init_69 : decode cX10_init 69 = .ok (.aload_n 0, 1) := of_q QX10_init_0 46 rfl
theorem dX10_init_70 : decode cX10_init 70 = .ok (.bipush 96, 2) := of_q QX10_init_0 47 rfl
theorem dX10_init_72 : decode cX10_init 72 = .ok (.newarray .int, 2) := of_q QX10_init_0 48 rfl
theorem dX10_init_74 : decode cX10_init 74 = .ok (.putfield 22, 3) := of_q QX10_init_0 49 rfl
theorem dX10_init_77 : decode cX10_init 77 = .ok (.aload_n 0, 1) := of_q QX10_init_0 50 rfl
theorem dX10_init_78 : decode cX10_init 78 = .ok (.bipush 96, 2) := of_q QX10_init_0 51 rfl
theorem dX10_init_80 : decode cX10_init 80 = .ok (.newarray .int, 2) := of_q QX10_init_0 52 rfl
theorem dX10_init_82 : decode cX10_init 82 = .ok (.putfield 25, 3) := of_q QX10_init_0 53 rfl
theorem dX10_init_85 : decode cX10_init 85 = .ok (.aload_n 0, 1) := of_q QX10_init_0 54 rfl
theorem dX10_init_86 : decode cX10_init 86 = .ok (.bipush 96, 2) := of_q QX10_init_0 55 rfl
theorem dX10_init_88 : decode cX10_init 88 = .ok (.newarray .int, 2) := of_q QX10_init_0 56 rfl
theorem dX10_init_90 : decode cX10_init 90 = .ok (.putfield 28, 3) := of_q QX10_init_0 57 rfl
theorem dX10_init_93 : decode cX10_init 93 = .ok (.aload_n 0, 1) := of_q QX10_init_0 58 rfl
theorem dX10_init_94 : decode cX10_init 94 = .ok (.sipush 482, 3) := of_q QX10_init_0 59 rfl
def qX10_init_1 : List (Nat × Instr × Nat) := [(97, .newarray .int, 2), (99, .putfield 31, 3), (102, .aload_n 0, 1), (103, .sipush 482, 3), (106, .newarray .int, 2), (108, .putfield 34, 3), (111, .aload_n 0, 1), (112, .sipush 482, 3), (115, .newarray .int, 2), (117, .putfield 37, 3), (120, .aload_n 0, 1), (121, .sipush 482, 3), (124, .newarray .int, 2), (126, .putfield 40, 3), (129, .aload_n 0, 1), (130, .sipush 482, 3), (133, .newarray .int, 2), (135, .putfield 43, 3), (138, .aload_n 0, 1), (139, .iconst 2, 1), (140, .newarray .int, 2), (142, .putfield 46, 3), (145, .aload_n 0, 1), (146, .iconst 2, 1), (147, .newarray .int, 2), (149, .putfield 49, 3), (152, .aload_n 0, 1), (153, .iconst 2, 1), (154, .newarray .int, 2), (156, .putfield 52, 3), (159, .aload_n 0, 1), (160, .iconst 2, 1), (161, .newarray .int, 2), (163, .putfield 55, 3), (166, .aload_n 0, 1), (167, .bipush 7, 2), (169, .newarray .int, 2), (171, .dup, 1), (172, .iconst 0, 1), (173, .iconst 0, 1), (174, .iastore, 1), (175, .dup, 1), (176, .iconst 1, 1), (177, .bipush 127, 2), (179, .iastore, 1), (180, .dup, 1), (181, .iconst 2, 1), (182, .bipush 127, 2), (184, .iastore, 1), (185, .dup, 1), (186, .iconst 3, 1), (187, .bipush 127, 2), (189, .iastore, 1), (190, .dup, 1), (191, .iconst 4, 1), (192, .iconst 1, 1), (193, .iastore, 1), (194, .dup, 1), (195, .iconst 5, 1), (196, .iconst (-1), 1)]
theorem QX10_init_1 : qX10_init_1.all (fun q => decide (decode cX10_init q.1 = .ok q.2)) = true := by decide +kernel
theorem dX10_init_97 : decode cX10_init 97 = .ok (.newarray .int, 2) := of_q QX10_init_1 0 rfl
theorem dX10_init_99 : decode cX10_init 99 = .ok (.putfield 31, 3) := of_q QX10_init_1 1 rfl
theorem dX10_init_102 : decode cX10_init 102 = .ok (.aload_n 0, 1) := of_q QX10_init_1 2 rfl
theorem dX10_init_103 : decode cX10_init 103 = .ok (.sipush 482, 3) := of_q QX10_init_1 3 rfl
theorem dX10_init_106 : decode cX10_init 106 = .ok (.newarray .int, 2) := of_q QX10_init_1 4 rfl
theorem dX10_init_108 : decode cX10_init 108 = .ok (.putfield 34, 3) := of_q QX10_init_1 5 rfl
theorem dX10_init_111 : decode cX10_init 111 = .ok (.aload_n 0, 1) := of_q QX10_init_1 6 rfl
theorem dX10_init_112 : decode cX10_init 112 = .ok (.sipush 482, 3) := of_q QX10_init_1 7 rfl
theorem dX10_init_115 : decode cX10_init 115 = .ok (.newarray .int, 2) := of_q QX10_init_1 8 rfl
theorem dX10_init_117 : decode cX10_init 117 = .ok (.putfield 37, 3) := of_q QX10_init_1 9 rfl
theorem dX10_init_120 : decode cX10_init 120 = .ok (.aload_n 0, 1) := of_q QX10_init_1 10 rfl
theorem dX10_init_121 : decode cX10_init 121 = .ok (.sipush 482, 3) := of_q QX10_init_1 11 rfl
theorem dX10_init_124 : decode cX10_init 124 = .ok (.newarray .int, 2) := of_q QX10_init_1 12 rfl
theorem dX10_init_126 : decode cX10_init 126 = .ok (.putfield 40, 3) := of_q QX10_init_1 13 rfl
theorem dX10_init_129 : decode cX10_init 129 = .ok (.aload_n 0, 1) := of_q QX10_init_1 14 rfl
theorem dX10_init_130 : decode cX10_init 130 = .ok (.sipush 482, 3) := of_q QX10_init_1 15 rfl
theorem dX10_init_133 : decode cX10_init 133 = .ok (.newarray .int, 2) := of_q QX10_init_1 16 rfl
theorem dX10_init_135 : decode cX10_init 135 = .ok (.putfield 43, 3) := of_q QX10_init_1 17 rfl
theorem dX10_init_138 : decode cX10_init 138 = .ok (.aload_n 0, 1) := of_q QX10_init_1 18 rfl
theorem dX10_init_139 : decode cX10_init 139 = .ok (.iconst 2, 1) := of_q QX10_init_1 19 rfl
theorem dX10_init_140 : decode cX10_init 140 = .ok (.newarray .int, 2) := of_q QX10_init_1 20 rfl
theorem dX10_init_142 : decode cX10_init 142 = .ok (.putfield 46, 3) := of_q QX10_init_1 21 rfl
theorem dX10_init_145 : decode cX10_init 145 = .ok (.aload_n 0, 1) := of_q QX10_init_1 22 rfl
theorem dX10_init_146 : decode cX10_init 146 = .ok (.iconst 2, 1) := of_q QX10_init_1 23 rfl
theorem dX10_init_147 : decode cX10_init 147 = .ok (.newarray .int, 2) := of_q QX10_init_1 24 rfl
theorem dX10_init_149 : decode cX10_init 149 = .ok (.putfield 49, 3) := of_q QX10_init_1 25 rfl
theorem dX10_init_152 : decode cX10_init 152 = .ok (.aload_n 0, 1) := of_q QX10_init_1 26 rfl
theorem dX10_init_153 : decode cX10_init 153 = .ok (.iconst 2, 1) := of_q QX10_init_1 27 rfl
theorem dX10_init_154 : decode cX10_init 154 = .ok (.newarray .int, 2) := of_q QX10_init_1 28 rfl
theorem dX10_init_156 : decode cX10_init 156 = .ok (.putfield 52, 3) := of_q QX10_init_1 29 rfl
theorem dX10_init_159 : decode cX10_init 159 = .ok (.aload_n 0, 1) := of_q QX10_init_1 30 rfl
theorem dX10_init_160 : decode cX10_init 160 = .ok (.iconst 2, 1) := of_q QX10_init_1 31 rfl
theorem dX10_init_161 : decode cX10_init 161 = .ok (.newarray .int, 2) := of_q QX10_init_1 32 rfl
theorem dX10_init_163 : decode cX10_init 163 = .ok (.putfield 55, 3) := of_q QX10_init_1 33 rfl
theorem dX10_init_166 : decode cX10_init 166 = .ok (.aload_n 0, 1) := of_q QX10_init_1 34 rfl
theorem dX10_init_167 : decode cX10_init 167 = .ok (.bipush 7, 2) := of_q QX10_init_1 35 rfl
theorem dX10_init_169 : decode cX10_init 169 = .ok (.newarray .int, 2) := of_q QX10_init_1 36 rfl
theorem dX10_init_171 : decode cX10_init 171 = .ok (.dup, 1) := of_q QX10_init_1 37 rfl
theorem dX10_init_172 : decode cX10_init 172 = .ok (.iconst 0, 1) := of_q QX10_init_1 38 rfl
theorem dX10_init_173 : decode cX10_init 173 = .ok (.iconst 0, 1) := of_q QX10_init_1 39 rfl
theorem dX10_init_174 : decode cX10_init 174 = .ok (.iastore, 1) := of_q QX10_init_1 40 rfl
theorem dX10_init_175 : decode cX10_init 175 = .ok (.dup, 1) := of_q QX10_init_1 41 rfl
theorem dX10_init_176 : decode cX10_init 176 = .ok (.iconst 1, 1) := of_q QX10_init_1 42 rfl
theorem dX10_init_177 : decode cX10_init 177 = .ok (.bipush 127, 2) := of_q QX10_init_1 43 rfl
theorem dX10_init_179 : decode cX10_init 179 = .ok (.iastore, 1) := of_q QX10_init_1 44 rfl
theorem dX10_init_180 : decode cX10_init 180 = .ok (.dup, 1) := of_q QX10_init_1 45 rfl
theorem dX10_init_181 : decode cX10_init 181 = .ok (.iconst 2, 1) := of_q QX10_init_1 46 rfl
theorem dX10_init_182 : decode cX10_init 182 = .ok (.bipush 127, 2) := of_q QX10_init_1 47 rfl
theorem dX10_init_184 : decode cX10_init 184 = .ok (.iastore, 1) := of_q QX10_init_1 48 rfl
theorem dX10_init_185 : decode cX10_init 185 = .ok (.dup, 1) := of_q QX10_init_1 49 rfl
theorem dX10_init_186 : decode cX10_init 186 = .ok (.iconst 3, 1) := of_q QX10_init_1 50 rfl
theorem dX10_init_187 : decode cX10_init 187 = .ok (.bipush 127, 2) := of_q QX10_init_1 51 rfl
theorem dX10_init_189 : decode cX10_init 189 = .ok (.iastore, 1) := of_q QX10_init_1 52 rfl
theorem dX10_init_190 : decode cX10_init 190 = .ok (.dup, 1) := of_q QX10_init_1 53 rfl
theorem dX10_init_191 : decode cX10_init 191 = .ok (.iconst 4, 1) := of_q QX10_init_1 54 rfl
theorem dX10_init_192 : decode cX10_init 192 = .ok (.iconst 1, 1) := of_q QX10_init_1 55 rfl
theorem dX10_init_193 : decode cX10_init 193 = .ok (.iastore, 1) := of_q QX10_init_1 56 rfl
theorem dX10_init_194 : decode cX10_init 194 = .ok (.dup, 1) := of_q QX10_init_1 57 rfl
theorem dX10_init_195 : decode cX10_init 195 = .ok (.iconst 5, 1) := of_q QX10_init_1 58 rfl
theorem dX10_init_196 : decode cX10_init 196 = .ok (.iconst (-1), 1) := of_q QX10_init_1 59 rfl
def qX10_init_2 : List (Nat × Instr × Nat) := [(197, .iastore, 1), (198, .dup, 1), (199, .bipush 6, 2), (201, .sipush 500, 3), (204, .iastore, 1), (205, .putfield 58, 3), (208, .aload_n 0, 1), (209, .sipush 260, 3), (212, .newarray .int, 2), (214, .putfield 61, 3), (217, .aload_n 0, 1), (218, .sipush 260, 3), (221, .newarray .int, 2), (223, .putfield 64, 3), (226, .aload_n 0, 1), (227, .sipush 260, 3), (230, .newarray .int, 2), (232, .putfield 67, 3), (235, .aload_n 0, 1), (236, .sipush 260, 3), (239, .newarray .int, 2), (241, .putfield 70, 3), (244, .aload_n 0, 1), (245, .ldc 73, 2), (247, .newarray .int, 2), (249, .putfield 74, 3), (252, .aload_n 0, 1), (253, .ldc 73, 2), (255, .newarray .int, 2), (257, .putfield 77, 3), (260, .aload_n 0, 1), (261, .sipush 3002, 3), (264, .newarray .int, 2), (266, .putfield 80, 3), (269, .aload_n 0, 1), (270, .sipush 3002, 3), (273, .newarray .int, 2), (275, .putfield 83, 3), (278, .aload_n 0, 1), (279, .sipush 3002, 3), (282, .newarray .int, 2), (284, .putfield 86, 3), (287, .aload_n 0, 1), (288, .sipush 3002, 3), (291, .newarray .int, 2), (293, .putfield 89, 3), (296, .aload_n 0, 1), (297, .sipush 3002, 3), (300, .newarray .int, 2), (302, .putfield 92, 3), (305, .aload_n 0, 1), (306, .sipush 3002, 3), (309, .newarray .int, 2), (311, .putfield 95, 3), (314, .aload_n 0, 1), (315, .sipush 3002, 3), (318, .newarray .int, 2), (320, .putfield 98, 3), (323, .aload_n 0, 1), (324, .sipush 3002, 3)]
theorem QX10_init_2 : qX10_init_2.all (fun q => decide (decode cX10_init q.1 = .ok q.2)) = true := by decide +kernel
theorem dX10_init_197 : decode cX10_init 197 = .ok (.iastore, 1) := of_q QX10_init_2 0 rfl
theorem dX10_init_198 : decode cX10_init 198 = .ok (.dup, 1) := of_q QX10_init_2 1 rfl
theorem dX10_init_199 : decode cX10_init 199 = .ok (.bipush 6, 2) := of_q QX10_init_2 2 rfl
theorem dX10_init_201 : decode cX10_init 201 = .ok (.sipush 500, 3) := of_q QX10_init_2 3 rfl
theorem dX10_init_204 : decode cX10_init 204 = .ok (.iastore, 1) := of_q QX10_init_2 4 rfl
theorem dX10_init_205 : decode cX10_init 205 = .ok (.putfield 58, 3) := of_q QX10_init_2 5 rfl
theorem dX10_init_208 : decode cX10_init 208 = .ok (.aload_n 0, 1) := of_q QX10_init_2 6 rfl
theorem dX10_init_209 : decode cX10_init 209 = .ok (.sipush 260, 3) := of_q QX10_init_2 7 rfl
theorem dX10_init_212 : decode cX10_init 212 = .ok (.newarray .int, 2) := of_q QX10_init_2 8 rfl
theorem dX10_init_214 : decode cX10_init 214 = .ok (.putfield 61, 3) := of_q QX10_init_2 9 rfl
theorem dX10_init_217 : decode cX10_init 217 = .ok (.aload_n 0, 1) := of_q QX10_init_2 10 rfl
theorem dX10_init_218 : decode cX10_init 218 = .ok (.sipush 260, 3) := of_q QX10_init_2 11 rfl
theorem dX10_init_221 : decode cX10_init 221 = .ok (.newarray .int, 2) := of_q QX10_init_2 12 rfl
theorem dX10_init_223 : decode cX10_init 223 = .ok (.putfield 64, 3) := of_q QX10_init_2 13 rfl
theorem dX10_init_226 : decode cX10_init 226 = .ok (.aload_n 0, 1) := of_q QX10_init_2 14 rfl
theorem dX10_init_227 : decode cX10_init 227 = .ok (.sipush 260, 3) := of_q QX10_init_2 15 rfl
theorem dX10_init_230 : decode cX10_init 230 = .ok (.newarray .int, 2) := of_q QX10_init_2 16 rfl
theorem dX10_init_232 : decode cX10_init 232 = .ok (.putfield 67, 3) := of_q QX10_init_2 17 rfl
theorem dX10_init_235 : decode cX10_init 235 = .ok (.aload_n 0, 1) := of_q QX10_init_2 18 rfl
theorem dX10_init_236 : decode cX10_init 236 = .ok (.sipush 260, 3) := of_q QX10_init_2 19 rfl
theorem dX10_init_239 : decode cX10_init 239 = .ok (.newarray .int, 2) := of_q QX10_init_2 20 rfl
theorem dX10_init_241 : decode cX10_init 241 = .ok (.putfield 70, 3) := of_q QX10_init_2 21 rfl
theorem dX10_init_244 : decode cX10_init 244 = .ok (.aload_n 0, 1) := of_q QX10_init_2 22 rfl
theorem dX10_init_245 : decode cX10_init 245 = .ok (.ldc 73, 2) := of_q QX10_init_2 23 rfl
theorem dX10_init_247 : decode cX10_init 247 = .ok (.newarray .int, 2) := of_q QX10_init_2 24 rfl
theorem dX10_init_249 : decode cX10_init 249 = .ok (.putfield 74, 3) := of_q QX10_init_2 25 rfl
theorem dX10_init_252 : decode cX10_init 252 = .ok (.aload_n 0, 1) := of_q QX10_init_2 26 rfl
theorem dX10_init_253 : decode cX10_init 253 = .ok (.ldc 73, 2) := of_q QX10_init_2 27 rfl
theorem dX10_init_255 : decode cX10_init 255 = .ok (.newarray .int, 2) := of_q QX10_init_2 28 rfl
theorem dX10_init_257 : decode cX10_init 257 = .ok (.putfield 77, 3) := of_q QX10_init_2 29 rfl
theorem dX10_init_260 : decode cX10_init 260 = .ok (.aload_n 0, 1) := of_q QX10_init_2 30 rfl
theorem dX10_init_261 : decode cX10_init 261 = .ok (.sipush 3002, 3) := of_q QX10_init_2 31 rfl
theorem dX10_init_264 : decode cX10_init 264 = .ok (.newarray .int, 2) := of_q QX10_init_2 32 rfl
theorem dX10_init_266 : decode cX10_init 266 = .ok (.putfield 80, 3) := of_q QX10_init_2 33 rfl
theorem dX10_init_269 : decode cX10_init 269 = .ok (.aload_n 0, 1) := of_q QX10_init_2 34 rfl
theorem dX10_init_270 : decode cX10_init 270 = .ok (.sipush 3002, 3) := of_q QX10_init_2 35 rfl
theorem dX10_init_273 : decode cX10_init 273 = .ok (.newarray .int, 2) := of_q QX10_init_2 36 rfl
theorem dX10_init_275 : decode cX10_init 275 = .ok (.putfield 83, 3) := of_q QX10_init_2 37 rfl
theorem dX10_init_278 : decode cX10_init 278 = .ok (.aload_n 0, 1) := of_q QX10_init_2 38 rfl
theorem dX10_init_279 : decode cX10_init 279 = .ok (.sipush 3002, 3) := of_q QX10_init_2 39 rfl
theorem dX10_init_282 : decode cX10_init 282 = .ok (.newarray .int, 2) := of_q QX10_init_2 40 rfl
theorem dX10_init_284 : decode cX10_init 284 = .ok (.putfield 86, 3) := of_q QX10_init_2 41 rfl
theorem dX10_init_287 : decode cX10_init 287 = .ok (.aload_n 0, 1) := of_q QX10_init_2 42 rfl
theorem dX10_init_288 : decode cX10_init 288 = .ok (.sipush 3002, 3) := of_q QX10_init_2 43 rfl
theorem dX10_init_291 : decode cX10_init 291 = .ok (.newarray .int, 2) := of_q QX10_init_2 44 rfl
theorem dX10_init_293 : decode cX10_init 293 = .ok (.putfield 89, 3) := of_q QX10_init_2 45 rfl
theorem dX10_init_296 : decode cX10_init 296 = .ok (.aload_n 0, 1) := of_q QX10_init_2 46 rfl
theorem dX10_init_297 : decode cX10_init 297 = .ok (.sipush 3002, 3) := of_q QX10_init_2 47 rfl
theorem dX10_init_300 : decode cX10_init 300 = .ok (.newarray .int, 2) := of_q QX10_init_2 48 rfl
theorem dX10_init_302 : decode cX10_init 302 = .ok (.putfield 92, 3) := of_q QX10_init_2 49 rfl
theorem dX10_init_305 : decode cX10_init 305 = .ok (.aload_n 0, 1) := of_q QX10_init_2 50 rfl
theorem dX10_init_306 : decode cX10_init 306 = .ok (.sipush 3002, 3) := of_q QX10_init_2 51 rfl
theorem dX10_init_309 : decode cX10_init 309 = .ok (.newarray .int, 2) := of_q QX10_init_2 52 rfl
theorem dX10_init_311 : decode cX10_init 311 = .ok (.putfield 95, 3) := of_q QX10_init_2 53 rfl
theorem dX10_init_314 : decode cX10_init 314 = .ok (.aload_n 0, 1) := of_q QX10_init_2 54 rfl
theorem dX10_init_315 : decode cX10_init 315 = .ok (.sipush 3002, 3) := of_q QX10_init_2 55 rfl
theorem dX10_init_318 : decode cX10_init 318 = .ok (.newarray .int, 2) := of_q QX10_init_2 56 rfl
theorem dX10_init_320 : decode cX10_init 320 = .ok (.putfield 98, 3) := of_q QX10_init_2 57 rfl
theorem dX10_init_323 : decode cX10_init 323 = .ok (.aload_n 0, 1) := of_q QX10_init_2 58 rfl
theorem dX10_init_324 : decode cX10_init 324 = .ok (.sipush 3002, 3) := of_q QX10_init_2 59 rfl
def qX10_init_3 : List (Nat × Instr × Nat) := [(327, .newarray .int, 2), (329, .putfield 101, 3), (332, .aload_n 0, 1), (333, .sipush 3002, 3), (336, .newarray .int, 2), (338, .putfield 104, 3), (341, .aload_n 0, 1), (342, .sipush 3002, 3), (345, .newarray .long, 2), (347, .putfield 107, 3), (350, .aload_n 0, 1), (351, .sipush 300, 3), (354, .newarray .int, 2), (356, .putfield 111, 3), (359, .aload_n 0, 1), (360, .sipush 210, 3), (363, .newarray .int, 2), (365, .putfield 114, 3), (368, .aload_n 0, 1), (369, .bipush 12, 2), (371, .newarray .int, 2), (373, .dup, 1), (374, .iconst 0, 1), (375, .iconst 0, 1), (376, .iastore, 1), (377, .dup, 1), (378, .iconst 1, 1), (379, .iconst 1, 1), (380, .iastore, 1), (381, .dup, 1), (382, .iconst 2, 1), (383, .iconst 2, 1), (384, .iastore, 1), (385, .dup, 1), (386, .iconst 3, 1), (387, .iconst 3, 1), (388, .iastore, 1), (389, .dup, 1), (390, .iconst 4, 1), (391, .iconst 4, 1), (392, .iastore, 1), (393, .dup, 1), (394, .iconst 5, 1), (395, .iconst 5, 1), (396, .iastore, 1), (397, .dup, 1), (398, .bipush 6, 2), (400, .bipush 6, 2), (402, .iastore, 1), (403, .dup, 1), (404, .bipush 7, 2), (406, .bipush 7, 2), (408, .iastore, 1), (409, .dup, 1), (410, .bipush 8, 2), (412, .bipush 8, 2), (414, .iastore, 1), (415, .dup, 1), (416, .bipush 9, 2), (418, .bipush 9, 2)]
theorem QX10_init_3 : qX10_init_3.all (fun q => decide (decode cX10_init q.1 = .ok q.2)) = true := by decide +kernel
theorem dX10_init_327 : decode cX10_init 327 = .ok (.newarray .int, 2) := of_q QX10_init_3 0 rfl
theorem dX10_init_329 : decode cX10_init 329 = .ok (.putfield 101, 3) := of_q QX10_init_3 1 rfl
theorem dX10_init_332 : decode cX10_init 332 = .ok (.aload_n 0, 1) := of_q QX10_init_3 2 rfl
theorem dX10_init_333 : decode cX10_init 333 = .ok (.sipush 3002, 3) := of_q QX10_init_3 3 rfl
theorem dX10_init_336 : decode cX10_init 336 = .ok (.newarray .int, 2) := of_q QX10_init_3 4 rfl
theorem dX10_init_338 : decode cX10_init 338 = .ok (.putfield 104, 3) := of_q QX10_init_3 5 rfl
theorem dX10_init_341 : decode cX10_init 341 = .ok (.aload_n 0, 1) := of_q QX10_init_3 6 rfl
theorem dX10_init_342 : decode cX10_init 342 = .ok (.sipush 3002, 3) := of_q QX10_init_3 7 rfl
theorem dX10_init_345 : decode cX10_init 345 = .ok (.newarray .long, 2) := of_q QX10_init_3 8 rfl
theorem dX10_init_347 : decode cX10_init 347 = .ok (.putfield 107, 3) := of_q QX10_init_3 9 rfl
theorem dX10_init_350 : decode cX10_init 350 = .ok (.aload_n 0, 1) := of_q QX10_init_3 10 rfl
theorem dX10_init_351 : decode cX10_init 351 = .ok (.sipush 300, 3) := of_q QX10_init_3 11 rfl
theorem dX10_init_354 : decode cX10_init 354 = .ok (.newarray .int, 2) := of_q QX10_init_3 12 rfl
theorem dX10_init_356 : decode cX10_init 356 = .ok (.putfield 111, 3) := of_q QX10_init_3 13 rfl
theorem dX10_init_359 : decode cX10_init 359 = .ok (.aload_n 0, 1) := of_q QX10_init_3 14 rfl
theorem dX10_init_360 : decode cX10_init 360 = .ok (.sipush 210, 3) := of_q QX10_init_3 15 rfl
theorem dX10_init_363 : decode cX10_init 363 = .ok (.newarray .int, 2) := of_q QX10_init_3 16 rfl
theorem dX10_init_365 : decode cX10_init 365 = .ok (.putfield 114, 3) := of_q QX10_init_3 17 rfl
theorem dX10_init_368 : decode cX10_init 368 = .ok (.aload_n 0, 1) := of_q QX10_init_3 18 rfl
theorem dX10_init_369 : decode cX10_init 369 = .ok (.bipush 12, 2) := of_q QX10_init_3 19 rfl
theorem dX10_init_371 : decode cX10_init 371 = .ok (.newarray .int, 2) := of_q QX10_init_3 20 rfl
theorem dX10_init_373 : decode cX10_init 373 = .ok (.dup, 1) := of_q QX10_init_3 21 rfl
theorem dX10_init_374 : decode cX10_init 374 = .ok (.iconst 0, 1) := of_q QX10_init_3 22 rfl
theorem dX10_init_375 : decode cX10_init 375 = .ok (.iconst 0, 1) := of_q QX10_init_3 23 rfl
theorem dX10_init_376 : decode cX10_init 376 = .ok (.iastore, 1) := of_q QX10_init_3 24 rfl
theorem dX10_init_377 : decode cX10_init 377 = .ok (.dup, 1) := of_q QX10_init_3 25 rfl
theorem dX10_init_378 : decode cX10_init 378 = .ok (.iconst 1, 1) := of_q QX10_init_3 26 rfl
theorem dX10_init_379 : decode cX10_init 379 = .ok (.iconst 1, 1) := of_q QX10_init_3 27 rfl
theorem dX10_init_380 : decode cX10_init 380 = .ok (.iastore, 1) := of_q QX10_init_3 28 rfl
theorem dX10_init_381 : decode cX10_init 381 = .ok (.dup, 1) := of_q QX10_init_3 29 rfl
theorem dX10_init_382 : decode cX10_init 382 = .ok (.iconst 2, 1) := of_q QX10_init_3 30 rfl
theorem dX10_init_383 : decode cX10_init 383 = .ok (.iconst 2, 1) := of_q QX10_init_3 31 rfl
theorem dX10_init_384 : decode cX10_init 384 = .ok (.iastore, 1) := of_q QX10_init_3 32 rfl
theorem dX10_init_385 : decode cX10_init 385 = .ok (.dup, 1) := of_q QX10_init_3 33 rfl
theorem dX10_init_386 : decode cX10_init 386 = .ok (.iconst 3, 1) := of_q QX10_init_3 34 rfl
theorem dX10_init_387 : decode cX10_init 387 = .ok (.iconst 3, 1) := of_q QX10_init_3 35 rfl
theorem dX10_init_388 : decode cX10_init 388 = .ok (.iastore, 1) := of_q QX10_init_3 36 rfl
theorem dX10_init_389 : decode cX10_init 389 = .ok (.dup, 1) := of_q QX10_init_3 37 rfl
theorem dX10_init_390 : decode cX10_init 390 = .ok (.iconst 4, 1) := of_q QX10_init_3 38 rfl
theorem dX10_init_391 : decode cX10_init 391 = .ok (.iconst 4, 1) := of_q QX10_init_3 39 rfl
theorem dX10_init_392 : decode cX10_init 392 = .ok (.iastore, 1) := of_q QX10_init_3 40 rfl
theorem dX10_init_393 : decode cX10_init 393 = .ok (.dup, 1) := of_q QX10_init_3 41 rfl
theorem dX10_init_394 : decode cX10_init 394 = .ok (.iconst 5, 1) := of_q QX10_init_3 42 rfl
theorem dX10_init_395 : decode cX10_init 395 = .ok (.iconst 5, 1) := of_q QX10_init_3 43 rfl
theorem dX10_init_396 : decode cX10_init 396 = .ok (.iastore, 1) := of_q QX10_init_3 44 rfl
theorem dX10_init_397 : decode cX10_init 397 = .ok (.dup, 1) := of_q QX10_init_3 45 rfl
theorem dX10_init_398 : decode cX10_init 398 = .ok (.bipush 6, 2) := of_q QX10_init_3 46 rfl
theorem dX10_init_400 : decode cX10_init 400 = .ok (.bipush 6, 2) := of_q QX10_init_3 47 rfl
theorem dX10_init_402 : decode cX10_init 402 = .ok (.iastore, 1) := of_q QX10_init_3 48 rfl
theorem dX10_init_403 : decode cX10_init 403 = .ok (.dup, 1) := of_q QX10_init_3 49 rfl
theorem dX10_init_404 : decode cX10_init 404 = .ok (.bipush 7, 2) := of_q QX10_init_3 50 rfl
theorem dX10_init_406 : decode cX10_init 406 = .ok (.bipush 7, 2) := of_q QX10_init_3 51 rfl
theorem dX10_init_408 : decode cX10_init 408 = .ok (.iastore, 1) := of_q QX10_init_3 52 rfl
theorem dX10_init_409 : decode cX10_init 409 = .ok (.dup, 1) := of_q QX10_init_3 53 rfl
theorem dX10_init_410 : decode cX10_init 410 = .ok (.bipush 8, 2) := of_q QX10_init_3 54 rfl
theorem dX10_init_412 : decode cX10_init 412 = .ok (.bipush 8, 2) := of_q QX10_init_3 55 rfl
theorem dX10_init_414 : decode cX10_init 414 = .ok (.iastore, 1) := of_q QX10_init_3 56 rfl
theorem dX10_init_415 : decode cX10_init 415 = .ok (.dup, 1) := of_q QX10_init_3 57 rfl
theorem dX10_init_416 : decode cX10_init 416 = .ok (.bipush 9, 2) := of_q QX10_init_3 58 rfl
theorem dX10_init_418 : decode cX10_init 418 = .ok (.bipush 9, 2) := of_q QX10_init_3 59 rfl
def qX10_init_4 : List (Nat × Instr × Nat) := [(420, .iastore, 1), (421, .dup, 1), (422, .bipush 10, 2), (424, .bipush 10, 2), (426, .iastore, 1), (427, .dup, 1), (428, .bipush 11, 2), (430, .bipush 11, 2), (432, .iastore, 1), (433, .putfield 117, 3), (436, .return_, 1)]
theorem QX10_init_4 : qX10_init_4.all (fun q => decide (decode cX10_init q.1 = .ok q.2)) = true := by decide +kernel
theorem dX10_init_420 : decode cX10_init 420 = .ok (.iastore, 1) := of_q QX10_init_4 0 rfl
theorem dX10_init_421 : decode cX10_init 421 = .ok (.dup, 1) := of_q QX10_init_4 1 rfl
theorem dX10_init_422 : decode cX10_init 422 = .ok (.bipush 10, 2) := of_q QX10_init_4 2 rfl
theorem dX10_init_424 : decode cX10_init 424 = .ok (.bipush 10, 2) := of_q QX10_init_4 3 rfl
theorem dX10_init_426 : decode cX10_init 426 = .ok (.iastore, 1) := of_q QX10_init_4 4 rfl
theorem dX10_init_427 : decode cX10_init 427 = .ok (.dup, 1) := of_q QX10_init_4 5 rfl
theorem dX10_init_428 : decode cX10_init 428 = .ok (.bipush 11, 2) := of_q QX10_init_4 6 rfl
theorem dX10_init_430 : decode cX10_init 430 = .ok (.bipush 11, 2) := of_q QX10_init_4 7 rfl
theorem dX10_init_432 : decode cX10_init 432 = .ok (.iastore, 1) := of_q QX10_init_4 8 rfl
theorem dX10_init_433 : decode cX10_init 433 = .ok (.putfield 117, 3) := of_q QX10_init_4 9 rfl
theorem dX10_init_436 : decode cX10_init 436 = .ok (.return_, 1) := of_q QX10_init_4 10 rfl
def qX10_text_0 : List (Nat × Instr × Nat) := [(0, .iconst 0, 1), (1, .istore_n 3, 1), (2, .iconst 0, 1), (3, .istore 4, 2), (5, .iload 4, 2), (7, .bipush 8, 2), (9, .if_icmp .ge 68, 3), (12, .lload_n 1, 1), (13, .bipush 56, 2), (15, .bipush 8, 2), (17, .iload 4, 2), (19, .imul, 1), (20, .isub, 1), (21, .lshr, 1), (22, .l2i, 1), (23, .sipush 255, 3), (26, .iand, 1), (27, .istore 5, 2), (29, .iload 5, 2), (31, .bipush 126, 2), (33, .if_icmp .gt 22, 3), (36, .iload 5, 2), (38, .bipush 32, 2), (40, .if_icmp .ge 18, 3), (43, .iload 5, 2), (45, .ifCond .eq 13, 3), (48, .iload 5, 2), (50, .bipush 10, 2), (52, .if_icmp .eq 6, 3), (55, .bipush (-2), 2), (57, .ireturn, 1), (58, .iload_n 3, 1), (59, .iload 5, 2), (61, .ifCond .eq 7, 3), (64, .iconst 1, 1), (65, .goto 4, 3), (68, .iconst 0, 1), (69, .iadd, 1), (70, .istore_n 3, 1), (71, .iinc 4 1, 3), (74, .goto (-69), 3), (77, .aload_n 0, 1), (78, .getfield 120, 3), (81, .iload_n 3, 1), (82, .iadd, 1), (83, .sipush 1200, 3), (86, .if_icmp .le 6, 3), (89, .bipush (-4), 2), (91, .ireturn, 1), (92, .iconst 0, 1), (93, .istore 4, 2), (95, .iload 4, 2), (97, .bipush 8, 2), (99, .if_icmp .ge 52, 3), (102, .lload_n 1, 1), (103, .bipush 56, 2), (105, .bipush 8, 2), (107, .iload 4, 2), (109, .imul, 1), (110, .isub, 1)]
theorem QX10_text_0 : qX10_text_0.all (fun q => decide (decode cX10_text q.1 = .ok q.2)) = true := by decide +kernel
theorem dX10_text_0 : decode cX10_text 0 = .ok (.iconst 0, 1) := of_q QX10_text_0 0 rfl
theorem dX10_text_1 : decode cX10_text 1 = .ok (.istore_n 3, 1) := of_q QX10_text_0 1 rfl
theorem dX10_text_2 : decode cX10_text 2 = .ok (.iconst 0, 1) := of_q QX10_text_0 2 rfl
theorem dX10_text_3 : decode cX10_text 3 = .ok (.istore 4, 2) := of_q QX10_text_0 3 rfl
theorem dX10_text_5 : decode cX10_text 5 = .ok (.iload 4, 2) := of_q QX10_text_0 4 rfl
theorem dX10_text_7 : decode cX10_text 7 = .ok (.bipush 8, 2) := of_q QX10_text_0 5 rfl
theorem dX10_text_9 : decode cX10_text 9 = .ok (.if_icmp .ge 68, 3) := of_q QX10_text_0 6 rfl
theorem dX10_text_12 : decode cX10_text 12 = .ok (.lload_n 1, 1) := of_q QX10_text_0 7 rfl
theorem dX10_text_13 : decode cX10_text 13 = .ok (.bipush 56, 2) := of_q QX10_text_0 8 rfl
theorem dX10_text_15 : decode cX10_text 15 = .ok (.bipush 8, 2) := of_q QX10_text_0 9 rfl
theorem dX10_text_17 : decode cX10_text 17 = .ok (.iload 4, 2) := of_q QX10_text_0 10 rfl
theorem dX10_text_19 : decode cX10_text 19 = .ok (.imul, 1) := of_q QX10_text_0 11 rfl
theorem dX10_text_20 : decode cX10_text 20 = .ok (.isub, 1) := of_q QX10_text_0 12 rfl
theorem dX10_text_21 : decode cX10_text 21 = .ok (.lshr, 1) := of_q QX10_text_0 13 rfl
theorem dX10_text_22 : decode cX10_text 22 = .ok (.l2i, 1) := of_q QX10_text_0 14 rfl
theorem dX10_text_23 : decode cX10_text 23 = .ok (.sipush 255, 3) := of_q QX10_text_0 15 rfl
theorem dX10_text_26 : decode cX10_text 26 = .ok (.iand, 1) := of_q QX10_text_0 16 rfl
theorem dX10_text_27 : decode cX10_text 27 = .ok (.istore 5, 2) := of_q QX10_text_0 17 rfl
theorem dX10_text_29 : decode cX10_text 29 = .ok (.iload 5, 2) := of_q QX10_text_0 18 rfl
theorem dX10_text_31 : decode cX10_text 31 = .ok (.bipush 126, 2) := of_q QX10_text_0 19 rfl
theorem dX10_text_33 : decode cX10_text 33 = .ok (.if_icmp .gt 22, 3) := of_q QX10_text_0 20 rfl
theorem dX10_text_36 : decode cX10_text 36 = .ok (.iload 5, 2) := of_q QX10_text_0 21 rfl
theorem dX10_text_38 : decode cX10_text 38 = .ok (.bipush 32, 2) := of_q QX10_text_0 22 rfl
theorem dX10_text_40 : decode cX10_text 40 = .ok (.if_icmp .ge 18, 3) := of_q QX10_text_0 23 rfl
theorem dX10_text_43 : decode cX10_text 43 = .ok (.iload 5, 2) := of_q QX10_text_0 24 rfl
theorem dX10_text_45 : decode cX10_text 45 = .ok (.ifCond .eq 13, 3) := of_q QX10_text_0 25 rfl
theorem dX10_text_48 : decode cX10_text 48 = .ok (.iload 5, 2) := of_q QX10_text_0 26 rfl
theorem dX10_text_50 : decode cX10_text 50 = .ok (.bipush 10, 2) := of_q QX10_text_0 27 rfl
theorem dX10_text_52 : decode cX10_text 52 = .ok (.if_icmp .eq 6, 3) := of_q QX10_text_0 28 rfl
theorem dX10_text_55 : decode cX10_text 55 = .ok (.bipush (-2), 2) := of_q QX10_text_0 29 rfl
theorem dX10_text_57 : decode cX10_text 57 = .ok (.ireturn, 1) := of_q QX10_text_0 30 rfl
theorem dX10_text_58 : decode cX10_text 58 = .ok (.iload_n 3, 1) := of_q QX10_text_0 31 rfl
theorem dX10_text_59 : decode cX10_text 59 = .ok (.iload 5, 2) := of_q QX10_text_0 32 rfl
theorem dX10_text_61 : decode cX10_text 61 = .ok (.ifCond .eq 7, 3) := of_q QX10_text_0 33 rfl
theorem dX10_text_64 : decode cX10_text 64 = .ok (.iconst 1, 1) := of_q QX10_text_0 34 rfl
theorem dX10_text_65 : decode cX10_text 65 = .ok (.goto 4, 3) := of_q QX10_text_0 35 rfl
theorem dX10_text_68 : decode cX10_text 68 = .ok (.iconst 0, 1) := of_q QX10_text_0 36 rfl
theorem dX10_text_69 : decode cX10_text 69 = .ok (.iadd, 1) := of_q QX10_text_0 37 rfl
theorem dX10_text_70 : decode cX10_text 70 = .ok (.istore_n 3, 1) := of_q QX10_text_0 38 rfl
theorem dX10_text_71 : decode cX10_text 71 = .ok (.iinc 4 1, 3) := of_q QX10_text_0 39 rfl
theorem dX10_text_74 : decode cX10_text 74 = .ok (.goto (-69), 3) := of_q QX10_text_0 40 rfl
theorem dX10_text_77 : decode cX10_text 77 = .ok (.aload_n 0, 1) := of_q QX10_text_0 41 rfl
theorem dX10_text_78 : decode cX10_text 78 = .ok (.getfield 120, 3) := of_q QX10_text_0 42 rfl
theorem dX10_text_81 : decode cX10_text 81 = .ok (.iload_n 3, 1) := of_q QX10_text_0 43 rfl
theorem dX10_text_82 : decode cX10_text 82 = .ok (.iadd, 1) := of_q QX10_text_0 44 rfl
theorem dX10_text_83 : decode cX10_text 83 = .ok (.sipush 1200, 3) := of_q QX10_text_0 45 rfl
theorem dX10_text_86 : decode cX10_text 86 = .ok (.if_icmp .le 6, 3) := of_q QX10_text_0 46 rfl
theorem dX10_text_89 : decode cX10_text 89 = .ok (.bipush (-4), 2) := of_q QX10_text_0 47 rfl
theorem dX10_text_91 : decode cX10_text 91 = .ok (.ireturn, 1) := of_q QX10_text_0 48 rfl
theorem dX10_text_92 : decode cX10_text 92 = .ok (.iconst 0, 1) := of_q QX10_text_0 49 rfl
theorem dX10_text_93 : decode cX10_text 93 = .ok (.istore 4, 2) := of_q QX10_text_0 50 rfl
theorem dX10_text_95 : decode cX10_text 95 = .ok (.iload 4, 2) := of_q QX10_text_0 51 rfl
theorem dX10_text_97 : decode cX10_text 97 = .ok (.bipush 8, 2) := of_q QX10_text_0 52 rfl
theorem dX10_text_99 : decode cX10_text 99 = .ok (.if_icmp .ge 52, 3) := of_q QX10_text_0 53 rfl
theorem dX10_text_102 : decode cX10_text 102 = .ok (.lload_n 1, 1) := of_q QX10_text_0 54 rfl
theorem dX10_text_103 : decode cX10_text 103 = .ok (.bipush 56, 2) := of_q QX10_text_0 55 rfl
theorem dX10_text_105 : decode cX10_text 105 = .ok (.bipush 8, 2) := of_q QX10_text_0 56 rfl
theorem dX10_text_107 : decode cX10_text 107 = .ok (.iload 4, 2) := of_q QX10_text_0 57 rfl
theorem dX10_text_109 : decode cX10_text 109 = .ok (.imul, 1) := of_q QX10_text_0 58 rfl
theorem dX10_text_110 : decode cX10_text 110 = .ok (.isub, 1) := of_q QX10_text_0 59 rfl
def qX10_text_1 : List (Nat × Instr × Nat) := [(111, .lshr, 1), (112, .l2i, 1), (113, .sipush 255, 3), (116, .iand, 1), (117, .istore 5, 2), (119, .iload 5, 2), (121, .ifCond .eq 24, 3), (124, .aload_n 0, 1), (125, .getfield 13, 3), (128, .aload_n 0, 1), (129, .getfield 120, 3), (132, .iload 5, 2), (134, .iastore, 1), (135, .aload_n 0, 1), (136, .dup, 1), (137, .getfield 120, 3), (140, .iconst 1, 1), (141, .iadd, 1), (142, .putfield 120, 3), (145, .iinc 4 1, 3), (148, .goto (-53), 3), (151, .aload_n 0, 1), (152, .getfield 120, 3), (155, .ireturn, 1)]
theorem QX10_text_1 : qX10_text_1.all (fun q => decide (decode cX10_text q.1 = .ok q.2)) = true := by decide +kernel
theorem dX10_text_111 : decode cX10_text 111 = .ok (.lshr, 1) := of_q QX10_text_1 0 rfl
theorem dX10_text_112 : decode cX10_text 112 = .ok (.l2i, 1) := of_q QX10_text_1 1 rfl
theorem dX10_text_113 : decode cX10_text 113 = .ok (.sipush 255, 3) := of_q QX10_text_1 2 rfl
theorem dX10_text_116 : decode cX10_text 116 = .ok (.iand, 1) := of_q QX10_text_1 3 rfl
theorem dX10_text_117 : decode cX10_text 117 = .ok (.istore 5, 2) := of_q QX10_text_1 4 rfl
theorem dX10_text_119 : decode cX10_text 119 = .ok (.iload 5, 2) := of_q QX10_text_1 5 rfl
theorem dX10_text_121 : decode cX10_text 121 = .ok (.ifCond .eq 24, 3) := of_q QX10_text_1 6 rfl
theorem dX10_text_124 : decode cX10_text 124 = .ok (.aload_n 0, 1) := of_q QX10_text_1 7 rfl
theorem dX10_text_125 : decode cX10_text 125 = .ok (.getfield 13, 3) := of_q QX10_text_1 8 rfl
theorem dX10_text_128 : decode cX10_text 128 = .ok (.aload_n 0, 1) := of_q QX10_text_1 9 rfl
theorem dX10_text_129 : decode cX10_text 129 = .ok (.getfield 120, 3) := of_q QX10_text_1 10 rfl
theorem dX10_text_132 : decode cX10_text 132 = .ok (.iload 5, 2) := of_q QX10_text_1 11 rfl
theorem dX10_text_134 : decode cX10_text 134 = .ok (.iastore, 1) := of_q QX10_text_1 12 rfl
theorem dX10_text_135 : decode cX10_text 135 = .ok (.aload_n 0, 1) := of_q QX10_text_1 13 rfl
theorem dX10_text_136 : decode cX10_text 136 = .ok (.dup, 1) := of_q QX10_text_1 14 rfl
theorem dX10_text_137 : decode cX10_text 137 = .ok (.getfield 120, 3) := of_q QX10_text_1 15 rfl
theorem dX10_text_140 : decode cX10_text 140 = .ok (.iconst 1, 1) := of_q QX10_text_1 16 rfl
theorem dX10_text_141 : decode cX10_text 141 = .ok (.iadd, 1) := of_q QX10_text_1 17 rfl
theorem dX10_text_142 : decode cX10_text 142 = .ok (.putfield 120, 3) := of_q QX10_text_1 18 rfl
theorem dX10_text_145 : decode cX10_text 145 = .ok (.iinc 4 1, 3) := of_q QX10_text_1 19 rfl
theorem dX10_text_148 : decode cX10_text 148 = .ok (.goto (-53), 3) := of_q QX10_text_1 20 rfl
theorem dX10_text_151 : decode cX10_text 151 = .ok (.aload_n 0, 1) := of_q QX10_text_1 21 rfl
theorem dX10_text_152 : decode cX10_text 152 = .ok (.getfield 120, 3) := of_q QX10_text_1 22 rfl
theorem dX10_text_155 : decode cX10_text 155 = .ok (.ireturn, 1) := of_q QX10_text_1 23 rfl
def qX10_cut_0 : List (Nat × Instr × Nat) := [(0, .iload_n 1, 1), (1, .ifCond .lt 11, 3), (4, .iload_n 1, 1), (5, .aload_n 0, 1), (6, .getfield 120, 3), (9, .if_icmp .le 6, 3), (12, .bipush (-2), 2), (14, .ireturn, 1), (15, .aload_n 0, 1), (16, .getfield 120, 3), (19, .iload_n 1, 1), (20, .isub, 1), (21, .istore_n 2, 1), (22, .aload_n 0, 1), (23, .iload_n 1, 1), (24, .putfield 120, 3), (27, .iload_n 2, 1), (28, .ireturn, 1)]
theorem QX10_cut_0 : qX10_cut_0.all (fun q => decide (decode cX10_cut q.1 = .ok q.2)) = true := by decide +kernel
theorem dX10_cut_0 : decode cX10_cut 0 = .ok (.iload_n 1, 1) := of_q QX10_cut_0 0 rfl
theorem dX10_cut_1 : decode cX10_cut 1 = .ok (.ifCond .lt 11, 3) := of_q QX10_cut_0 1 rfl
theorem dX10_cut_4 : decode cX10_cut 4 = .ok (.iload_n 1, 1) := of_q QX10_cut_0 2 rfl
theorem dX10_cut_5 : decode cX10_cut 5 = .ok (.aload_n 0, 1) := of_q QX10_cut_0 3 rfl
theorem dX10_cut_6 : decode cX10_cut 6 = .ok (.getfield 120, 3) := of_q QX10_cut_0 4 rfl
theorem dX10_cut_9 : decode cX10_cut 9 = .ok (.if_icmp .le 6, 3) := of_q QX10_cut_0 5 rfl
theorem dX10_cut_12 : decode cX10_cut 12 = .ok (.bipush (-2), 2) := of_q QX10_cut_0 6 rfl
theorem dX10_cut_14 : decode cX10_cut 14 = .ok (.ireturn, 1) := of_q QX10_cut_0 7 rfl
theorem dX10_cut_15 : decode cX10_cut 15 = .ok (.aload_n 0, 1) := of_q QX10_cut_0 8 rfl
theorem dX10_cut_16 : decode cX10_cut 16 = .ok (.getfield 120, 3) := of_q QX10_cut_0 9 rfl
theorem dX10_cut_19 : decode cX10_cut 19 = .ok (.iload_n 1, 1) := of_q QX10_cut_0 10 rfl
theorem dX10_cut_20 : decode cX10_cut 20 = .ok (.isub, 1) := of_q QX10_cut_0 11 rfl
theorem dX10_cut_21 : decode cX10_cut 21 = .ok (.istore_n 2, 1) := of_q QX10_cut_0 12 rfl
theorem dX10_cut_22 : decode cX10_cut 22 = .ok (.aload_n 0, 1) := of_q QX10_cut_0 13 rfl
theorem dX10_cut_23 : decode cX10_cut 23 = .ok (.iload_n 1, 1) := of_q QX10_cut_0 14 rfl
theorem dX10_cut_24 : decode cX10_cut 24 = .ok (.putfield 120, 3) := of_q QX10_cut_0 15 rfl
theorem dX10_cut_27 : decode cX10_cut 27 = .ok (.iload_n 2, 1) := of_q QX10_cut_0 16 rfl
theorem dX10_cut_28 : decode cX10_cut 28 = .ok (.ireturn, 1) := of_q QX10_cut_0 17 rfl
def qX10_peek_0 : List (Nat × Instr × Nat) := [(0, .iload_n 1, 1), (1, .aload_n 0, 1), (2, .getfield 120, 3), (5, .if_icmp .ge 12, 3), (8, .aload_n 0, 1), (9, .getfield 13, 3), (12, .iload_n 1, 1), (13, .iaload, 1), (14, .goto 4, 3), (17, .iconst (-1), 1), (18, .ireturn, 1)]
theorem QX10_peek_0 : qX10_peek_0.all (fun q => decide (decode cX10_peek q.1 = .ok q.2)) = true := by decide +kernel
theorem dX10_peek_0 : decode cX10_peek 0 = .ok (.iload_n 1, 1) := of_q QX10_peek_0 0 rfl
theorem dX10_peek_1 : decode cX10_peek 1 = .ok (.aload_n 0, 1) := of_q QX10_peek_0 1 rfl
theorem dX10_peek_2 : decode cX10_peek 2 = .ok (.getfield 120, 3) := of_q QX10_peek_0 2 rfl
theorem dX10_peek_5 : decode cX10_peek 5 = .ok (.if_icmp .ge 12, 3) := of_q QX10_peek_0 3 rfl
theorem dX10_peek_8 : decode cX10_peek 8 = .ok (.aload_n 0, 1) := of_q QX10_peek_0 4 rfl
theorem dX10_peek_9 : decode cX10_peek 9 = .ok (.getfield 13, 3) := of_q QX10_peek_0 5 rfl
theorem dX10_peek_12 : decode cX10_peek 12 = .ok (.iload_n 1, 1) := of_q QX10_peek_0 6 rfl
theorem dX10_peek_13 : decode cX10_peek 13 = .ok (.iaload, 1) := of_q QX10_peek_0 7 rfl
theorem dX10_peek_14 : decode cX10_peek 14 = .ok (.goto 4, 3) := of_q QX10_peek_0 8 rfl
theorem dX10_peek_17 : decode cX10_peek 17 = .ok (.iconst (-1), 1) := of_q QX10_peek_0 9 rfl
theorem dX10_peek_18 : decode cX10_peek 18 = .ok (.ireturn, 1) := of_q QX10_peek_0 10 rfl
def qX10_fail_0 : List (Nat × Instr × Nat) := [(0, .aload_n 0, 1), (1, .aload_n 0, 1), (2, .getfield 124, 3), (5, .ifCond .ge 7, 3), (8, .iload_n 1, 1), (9, .goto 7, 3), (12, .aload_n 0, 1), (13, .getfield 124, 3), (16, .putfield 124, 3), (19, .return_, 1)]
theorem QX10_fail_0 : qX10_fail_0.all (fun q => decide (decode cX10_fail q.1 = .ok q.2)) = true := by decide +kernel
theorem dX10_fail_0 : decode cX10_fail 0 = .ok (.aload_n 0, 1) := of_q QX10_fail_0 0 rfl
theorem dX10_fail_1 : decode cX10_fail 1 = .ok (.aload_n 0, 1) := of_q QX10_fail_0 1 rfl
theorem dX10_fail_2 : decode cX10_fail 2 = .ok (.getfield 124, 3) := of_q QX10_fail_0 2 rfl
theorem dX10_fail_5 : decode cX10_fail 5 = .ok (.ifCond .ge 7, 3) := of_q QX10_fail_0 3 rfl
theorem dX10_fail_8 : decode cX10_fail 8 = .ok (.iload_n 1, 1) := of_q QX10_fail_0 4 rfl
theorem dX10_fail_9 : decode cX10_fail 9 = .ok (.goto 7, 3) := of_q QX10_fail_0 5 rfl
theorem dX10_fail_12 : decode cX10_fail 12 = .ok (.aload_n 0, 1) := of_q QX10_fail_0 6 rfl
theorem dX10_fail_13 : decode cX10_fail 13 = .ok (.getfield 124, 3) := of_q QX10_fail_0 7 rfl
theorem dX10_fail_16 : decode cX10_fail 16 = .ok (.putfield 124, 3) := of_q QX10_fail_0 8 rfl
theorem dX10_fail_19 : decode cX10_fail 19 = .ok (.return_, 1) := of_q QX10_fail_0 9 rfl
def qX10_blanks_0 : List (Nat × Instr × Nat) := [(0, .iload_n 1, 1), (1, .istore_n 2, 1), (2, .aload_n 0, 1), (3, .iload_n 2, 1), (4, .invokevirtual 127, 3), (7, .bipush 32, 2), (9, .if_icmp .eq 13, 3), (12, .aload_n 0, 1), (13, .iload_n 2, 1), (14, .invokevirtual 127, 3), (17, .bipush 10, 2), (19, .if_icmp .ne 9, 3), (22, .iinc 2 1, 3), (25, .goto (-23), 3), (28, .iload_n 2, 1), (29, .ireturn, 1)]
theorem QX10_blanks_0 : qX10_blanks_0.all (fun q => decide (decode cX10_blanks q.1 = .ok q.2)) = true := by decide +kernel
theorem dX10_blanks_0 : decode cX10_blanks 0 = .ok (.iload_n 1, 1) := of_q QX10_blanks_0 0 rfl
theorem dX10_blanks_1 : decode cX10_blanks 1 = .ok (.istore_n 2, 1) := of_q QX10_blanks_0 1 rfl
theorem dX10_blanks_2 : decode cX10_blanks 2 = .ok (.aload_n 0, 1) := of_q QX10_blanks_0 2 rfl
theorem dX10_blanks_3 : decode cX10_blanks 3 = .ok (.iload_n 2, 1) := of_q QX10_blanks_0 3 rfl
theorem dX10_blanks_4 : decode cX10_blanks 4 = .ok (.invokevirtual 127, 3) := of_q QX10_blanks_0 4 rfl
theorem dX10_blanks_7 : decode cX10_blanks 7 = .ok (.bipush 32, 2) := of_q QX10_blanks_0 5 rfl
theorem dX10_blanks_9 : decode cX10_blanks 9 = .ok (.if_icmp .eq 13, 3) := of_q QX10_blanks_0 6 rfl
theorem dX10_blanks_12 : decode cX10_blanks 12 = .ok (.aload_n 0, 1) := of_q QX10_blanks_0 7 rfl
theorem dX10_blanks_13 : decode cX10_blanks 13 = .ok (.iload_n 2, 1) := of_q QX10_blanks_0 8 rfl
theorem dX10_blanks_14 : decode cX10_blanks 14 = .ok (.invokevirtual 127, 3) := of_q QX10_blanks_0 9 rfl
theorem dX10_blanks_17 : decode cX10_blanks 17 = .ok (.bipush 10, 2) := of_q QX10_blanks_0 10 rfl
theorem dX10_blanks_19 : decode cX10_blanks 19 = .ok (.if_icmp .ne 9, 3) := of_q QX10_blanks_0 11 rfl
theorem dX10_blanks_22 : decode cX10_blanks 22 = .ok (.iinc 2 1, 3) := of_q QX10_blanks_0 12 rfl
theorem dX10_blanks_25 : decode cX10_blanks 25 = .ok (.goto (-23), 3) := of_q QX10_blanks_0 13 rfl
theorem dX10_blanks_28 : decode cX10_blanks 28 = .ok (.iload_n 2, 1) := of_q QX10_blanks_0 14 rfl
theorem dX10_blanks_29 : decode cX10_blanks 29 = .ok (.ireturn, 1) := of_q QX10_blanks_0 15 rfl
def qX10_isDigit_0 : List (Nat × Instr × Nat) := [(0, .iload_n 0, 1), (1, .bipush 48, 2), (3, .if_icmp .lt 13, 3), (6, .iload_n 0, 1), (7, .bipush 57, 2), (9, .if_icmp .gt 7, 3), (12, .iconst 1, 1), (13, .goto 4, 3), (16, .iconst 0, 1), (17, .ireturn, 1)]
theorem QX10_isDigit_0 : qX10_isDigit_0.all (fun q => decide (decode cX10_isDigit q.1 = .ok q.2)) = true := by decide +kernel
theorem dX10_isDigit_0 : decode cX10_isDigit 0 = .ok (.iload_n 0, 1) := of_q QX10_isDigit_0 0 rfl
theorem dX10_isDigit_1 : decode cX10_isDigit 1 = .ok (.bipush 48, 2) := of_q QX10_isDigit_0 1 rfl
theorem dX10_isDigit_3 : decode cX10_isDigit 3 = .ok (.if_icmp .lt 13, 3) := of_q QX10_isDigit_0 2 rfl
theorem dX10_isDigit_6 : decode cX10_isDigit 6 = .ok (.iload_n 0, 1) := of_q QX10_isDigit_0 3 rfl
theorem dX10_isDigit_7 : decode cX10_isDigit 7 = .ok (.bipush 57, 2) := of_q QX10_isDigit_0 4 rfl
theorem dX10_isDigit_9 : decode cX10_isDigit 9 = .ok (.if_icmp .gt 7, 3) := of_q QX10_isDigit_0 5 rfl
theorem dX10_isDigit_12 : decode cX10_isDigit 12 = .ok (.iconst 1, 1) := of_q QX10_isDigit_0 6 rfl
theorem dX10_isDigit_13 : decode cX10_isDigit 13 = .ok (.goto 4, 3) := of_q QX10_isDigit_0 7 rfl
theorem dX10_isDigit_16 : decode cX10_isDigit 16 = .ok (.iconst 0, 1) := of_q QX10_isDigit_0 8 rfl
theorem dX10_isDigit_17 : decode cX10_isDigit 17 = .ok (.ireturn, 1) := of_q QX10_isDigit_0 9 rfl
def qX10_isLetter_0 : List (Nat × Instr × Nat) := [(0, .iload_n 0, 1), (1, .bipush 65, 2), (3, .if_icmp .lt 13, 3), (6, .iload_n 0, 1), (7, .bipush 90, 2), (9, .if_icmp .gt 7, 3), (12, .iconst 1, 1), (13, .goto 4, 3), (16, .iconst 0, 1), (17, .ireturn, 1)]
theorem QX10_isLetter_0 : qX10_isLetter_0.all (fun q => decide (decode cX10_isLetter q.1 = .ok q.2)) = true := by decide +kernel
theorem dX10_isLetter_0 : decode cX10_isLetter 0 = .ok (.iload_n 0, 1) := of_q QX10_isLetter_0 0 rfl
theorem dX10_isLetter_1 : decode cX10_isLetter 1 = .ok (.bipush 65, 2) := of_q QX10_isLetter_0 1 rfl
theorem dX10_isLetter_3 : decode cX10_isLetter 3 = .ok (.if_icmp .lt 13, 3) := of_q QX10_isLetter_0 2 rfl
theorem dX10_isLetter_6 : decode cX10_isLetter 6 = .ok (.iload_n 0, 1) := of_q QX10_isLetter_0 3 rfl
theorem dX10_isLetter_7 : decode cX10_isLetter 7 = .ok (.bipush 90, 2) := of_q QX10_isLetter_0 4 rfl
theorem dX10_isLetter_9 : decode cX10_isLetter 9 = .ok (.if_icmp .gt 7, 3) := of_q QX10_isLetter_0 5 rfl
theorem dX10_isLetter_12 : decode cX10_isLetter 12 = .ok (.iconst 1, 1) := of_q QX10_isLetter_0 6 rfl
theorem dX10_isLetter_13 : decode cX10_isLetter 13 = .ok (.goto 4, 3) := of_q QX10_isLetter_0 7 rfl
theorem dX10_isLetter_16 : decode cX10_isLetter 16 = .ok (.iconst 0, 1) := of_q QX10_isLetter_0 8 rfl
theorem dX10_isLetter_17 : decode cX10_isLetter 17 = .ok (.ireturn, 1) := of_q QX10_isLetter_0 9 rfl
def qX10_read_0 : List (Nat × Instr × Nat) := [(0, .aload_n 0, 1), (1, .iconst (-1), 1), (2, .putfield 124, 3), (5, .aload_n 0, 1), (6, .iconst 0, 1), (7, .putfield 131, 3), (10, .aload_n 0, 1), (11, .getfield 46, 3), (14, .iconst 1, 1), (15, .iconst 0, 1), (16, .iastore, 1), (17, .aload_n 0, 1), (18, .getfield 49, 3), (21, .iconst 1, 1), (22, .iconst 0, 1), (23, .iastore, 1), (24, .aload_n 0, 1), (25, .getfield 52, 3), (28, .iconst 1, 1), (29, .iconst 0, 1), (30, .iastore, 1), (31, .bipush 26, 2), (33, .istore_n 1, 1), (34, .iload_n 1, 1), (35, .bipush 52, 2), (37, .if_icmp .ge 16, 3), (40, .aload_n 0, 1), (41, .getfield 19, 3), (44, .iload_n 1, 1), (45, .iconst 0, 1), (46, .iastore, 1), (47, .iinc 1 1, 3), (50, .goto (-16), 3), (53, .iconst 1, 1), (54, .istore_n 1, 1), (55, .iload_n 1, 1), (56, .ifCond .eq 18, 3), (59, .aload_n 0, 1), (60, .getfield 124, 3), (63, .ifCond .ge 11, 3), (66, .aload_n 0, 1), (67, .invokevirtual 134, 3), (70, .istore_n 1, 1), (71, .goto (-16), 3), (74, .sipush 241, 3), (77, .istore_n 2, 1), (78, .iload_n 2, 1), (79, .sipush 241, 3), (82, .aload_n 0, 1), (83, .getfield 52, 3), (86, .iconst 1, 1), (87, .iaload, 1), (88, .iadd, 1), (89, .if_icmp .ge 52, 3), (92, .aload_n 0, 1), (93, .getfield 124, 3), (96, .ifCond .ge 45, 3), (99, .aload_n 0, 1), (100, .getfield 31, 3), (103, .iload_n 2, 1)]
theorem QX10_read_0 : qX10_read_0.all (fun q => decide (decode cX10_read q.1 = .ok q.2)) = true := by decide +kernel
theorem dX10_read_0 : decode cX10_read 0 = .ok (.aload_n 0, 1) := of_q QX10_read_0 0 rfl
theorem dX10_read_1 : decode cX10_read 1 = .ok (.iconst (-1), 1) := of_q QX10_read_0 1 rfl
theorem dX10_read_2 : decode cX10_read 2 = .ok (.putfield 124, 3) := of_q QX10_read_0 2 rfl
theorem dX10_read_5 : decode cX10_read 5 = .ok (.aload_n 0, 1) := of_q QX10_read_0 3 rfl
theorem dX10_read_6 : decode cX10_read 6 = .ok (.iconst 0, 1) := of_q QX10_read_0 4 rfl
theorem dX10_read_7 : decode cX10_read 7 = .ok (.putfield 131, 3) := of_q QX10_read_0 5 rfl
theorem dX10_read_10 : decode cX10_read 10 = .ok (.aload_n 0, 1) := of_q QX10_read_0 6 rfl
theorem dX10_read_11 : decode cX10_read 11 = .ok (.getfield 46, 3) := of_q QX10_read_0 7 rfl
theorem dX10_read_14 : decode cX10_read 14 = .ok (.iconst 1, 1) := of_q QX10_read_0 8 rfl
theorem dX10_read_15 : decode cX10_read 15 = .ok (.iconst 0, 1) := of_q QX10_read_0 9 rfl
theorem dX10_read_16 : decode cX10_read 16 = .ok (.iastore, 1) := of_q QX10_read_0 10 rfl
theorem dX10_read_17 : decode cX10_read 17 = .ok (.aload_n 0, 1) := of_q QX10_read_0 11 rfl
theorem dX10_read_18 : decode cX10_read 18 = .ok (.getfield 49, 3) := of_q QX10_read_0 12 rfl
theorem dX10_read_21 : decode cX10_read 21 = .ok (.iconst 1, 1) := of_q QX10_read_0 13 rfl
theorem dX10_read_22 : decode cX10_read 22 = .ok (.iconst 0, 1) := of_q QX10_read_0 14 rfl
theorem dX10_read_23 : decode cX10_read 23 = .ok (.iastore, 1) := of_q QX10_read_0 15 rfl
theorem dX10_read_24 : decode cX10_read 24 = .ok (.aload_n 0, 1) := of_q QX10_read_0 16 rfl
theorem dX10_read_25 : decode cX10_read 25 = .ok (.getfield 52, 3) := of_q QX10_read_0 17 rfl
theorem dX10_read_28 : decode cX10_read 28 = .ok (.iconst 1, 1) := of_q QX10_read_0 18 rfl
theorem dX10_read_29 : decode cX10_read 29 = .ok (.iconst 0, 1) := of_q QX10_read_0 19 rfl
theorem dX10_read_30 : decode cX10_read 30 = .ok (.iastore, 1) := of_q QX10_read_0 20 rfl
theorem dX10_read_31 : decode cX10_read 31 = .ok (.bipush 26, 2) := of_q QX10_read_0 21 rfl
theorem dX10_read_33 : decode cX10_read 33 = .ok (.istore_n 1, 1) := of_q QX10_read_0 22 rfl
theorem dX10_read_34 : decode cX10_read 34 = .ok (.iload_n 1, 1) := of_q QX10_read_0 23 rfl
theorem dX10_read_35 : decode cX10_read 35 = .ok (.bipush 52, 2) := of_q QX10_read_0 24 rfl
theorem dX10_read_37 : decode cX10_read 37 = .ok (.if_icmp .ge 16, 3) := of_q QX10_read_0 25 rfl
theorem dX10_read_40 : decode cX10_read 40 = .ok (.aload_n 0, 1) := of_q QX10_read_0 26 rfl
theorem dX10_read_41 : decode cX10_read 41 = .ok (.getfield 19, 3) := of_q QX10_read_0 27 rfl
theorem dX10_read_44 : decode cX10_read 44 = .ok (.iload_n 1, 1) := of_q QX10_read_0 28 rfl
theorem dX10_read_45 : decode cX10_read 45 = .ok (.iconst 0, 1) := of_q QX10_read_0 29 rfl
theorem dX10_read_46 : decode cX10_read 46 = .ok (.iastore, 1) := of_q QX10_read_0 30 rfl
theorem dX10_read_47 : decode cX10_read 47 = .ok (.iinc 1 1, 3) := of_q QX10_read_0 31 rfl
theorem dX10_read_50 : decode cX10_read 50 = .ok (.goto (-16), 3) := of_q QX10_read_0 32 rfl
theorem dX10_read_53 : decode cX10_read 53 = .ok (.iconst 1, 1) := of_q QX10_read_0 33 rfl
theorem dX10_read_54 : decode cX10_read 54 = .ok (.istore_n 1, 1) := of_q QX10_read_0 34 rfl
theorem dX10_read_55 : decode cX10_read 55 = .ok (.iload_n 1, 1) := of_q QX10_read_0 35 rfl
theorem dX10_read_56 : decode cX10_read 56 = .ok (.ifCond .eq 18, 3) := of_q QX10_read_0 36 rfl
theorem dX10_read_59 : decode cX10_read 59 = .ok (.aload_n 0, 1) := of_q QX10_read_0 37 rfl
theorem dX10_read_60 : decode cX10_read 60 = .ok (.getfield 124, 3) := of_q QX10_read_0 38 rfl
theorem dX10_read_63 : decode cX10_read 63 = .ok (.ifCond .ge 11, 3) := of_q QX10_read_0 39 rfl
theorem dX10_read_66 : decode cX10_read 66 = .ok (.aload_n 0, 1) := of_q QX10_read_0 40 rfl
theorem dX10_read_67 : decode cX10_read 67 = .ok (.invokevirtual 134, 3) := of_q QX10_read_0 41 rfl
theorem dX10_read_70 : decode cX10_read 70 = .ok (.istore_n 1, 1) := of_q QX10_read_0 42 rfl
theorem dX10_read_71 : decode cX10_read 71 = .ok (.goto (-16), 3) := of_q QX10_read_0 43 rfl
theorem dX10_read_74 : decode cX10_read 74 = .ok (.sipush 241, 3) := of_q QX10_read_0 44 rfl
theorem dX10_read_77 : decode cX10_read 77 = .ok (.istore_n 2, 1) := of_q QX10_read_0 45 rfl
theorem dX10_read_78 : decode cX10_read 78 = .ok (.iload_n 2, 1) := of_q QX10_read_0 46 rfl
theorem dX10_read_79 : decode cX10_read 79 = .ok (.sipush 241, 3) := of_q QX10_read_0 47 rfl
theorem dX10_read_82 : decode cX10_read 82 = .ok (.aload_n 0, 1) := of_q QX10_read_0 48 rfl
theorem dX10_read_83 : decode cX10_read 83 = .ok (.getfield 52, 3) := of_q QX10_read_0 49 rfl
theorem dX10_read_86 : decode cX10_read 86 = .ok (.iconst 1, 1) := of_q QX10_read_0 50 rfl
theorem dX10_read_87 : decode cX10_read 87 = .ok (.iaload, 1) := of_q QX10_read_0 51 rfl
theorem dX10_read_88 : decode cX10_read 88 = .ok (.iadd, 1) := of_q QX10_read_0 52 rfl
theorem dX10_read_89 : decode cX10_read 89 = .ok (.if_icmp .ge 52, 3) := of_q QX10_read_0 53 rfl
theorem dX10_read_92 : decode cX10_read 92 = .ok (.aload_n 0, 1) := of_q QX10_read_0 54 rfl
theorem dX10_read_93 : decode cX10_read 93 = .ok (.getfield 124, 3) := of_q QX10_read_0 55 rfl
theorem dX10_read_96 : decode cX10_read 96 = .ok (.ifCond .ge 45, 3) := of_q QX10_read_0 56 rfl
theorem dX10_read_99 : decode cX10_read 99 = .ok (.aload_n 0, 1) := of_q QX10_read_0 57 rfl
theorem dX10_read_100 : decode cX10_read 100 = .ok (.getfield 31, 3) := of_q QX10_read_0 58 rfl
theorem dX10_read_103 : decode cX10_read 103 = .ok (.iload_n 2, 1) := of_q QX10_read_0 59 rfl
def qX10_read_1 : List (Nat × Instr × Nat) := [(104, .iaload, 1), (105, .ifCond .ne 30, 3), (108, .aload_n 0, 1), (109, .getfield 19, 3), (112, .bipush 26, 2), (114, .aload_n 0, 1), (115, .getfield 34, 3), (118, .iload_n 2, 1), (119, .iaload, 1), (120, .iadd, 1), (121, .iaload, 1), (122, .ifCond .ne 13, 3), (125, .aload_n 0, 1), (126, .aload_n 0, 1), (127, .getfield 43, 3), (130, .iload_n 2, 1), (131, .iaload, 1), (132, .invokevirtual 138, 3), (135, .iinc 2 1, 3), (138, .goto (-60), 3), (141, .aload_n 0, 1), (142, .getfield 124, 3), (145, .ifCond .lt 11, 3), (148, .bipush (-10), 2), (150, .aload_n 0, 1), (151, .getfield 124, 3), (154, .isub, 1), (155, .ireturn, 1), (156, .iconst 0, 1), (157, .istore_n 2, 1), (158, .iload_n 2, 1), (159, .bipush 26, 2), (161, .if_icmp .ge 39, 3), (164, .aload_n 0, 1), (165, .getfield 16, 3), (168, .iload_n 2, 1), (169, .aload_n 0, 1), (170, .getfield 16, 3), (173, .bipush 26, 2), (175, .iload_n 2, 1), (176, .iadd, 1), (177, .iaload, 1), (178, .iastore, 1), (179, .aload_n 0, 1), (180, .getfield 19, 3), (183, .iload_n 2, 1), (184, .aload_n 0, 1), (185, .getfield 19, 3), (188, .bipush 26, 2), (190, .iload_n 2, 1), (191, .iadd, 1), (192, .iaload, 1), (193, .iastore, 1), (194, .iinc 2 1, 3), (197, .goto (-39), 3), (200, .iconst 0, 1), (201, .istore_n 2, 1), (202, .iload_n 2, 1), (203, .aload_n 0, 1), (204, .getfield 49, 3)]
theorem QX10_read_1 : qX10_read_1.all (fun q => decide (decode cX10_read q.1 = .ok q.2)) = true := by decide +kernel
theorem dX10_read_104 : decode cX10_read 104 = .ok (.iaload, 1) := of_q QX10_read_1 0 rfl
theorem dX10_read_105 : decode cX10_read 105 = .ok (.ifCond .ne 30, 3) := of_q QX10_read_1 1 rfl
theorem dX10_read_108 : decode cX10_read 108 = .ok (.aload_n 0, 1) := of_q QX10_read_1 2 rfl
theorem dX10_read_109 : decode cX10_read 109 = .ok (.getfield 19, 3) := of_q QX10_read_1 3 rfl
theorem dX10_read_112 : decode cX10_read 112 = .ok (.bipush 26, 2) := of_q QX10_read_1 4 rfl
theorem dX10_read_114 : decode cX10_read 114 = .ok (.aload_n 0, 1) := of_q QX10_read_1 5 rfl
theorem dX10_read_115 : decode cX10_read 115 = .ok (.getfield 34, 3) := of_q QX10_read_1 6 rfl
theorem dX10_read_118 : decode cX10_read 118 = .ok (.iload_n 2, 1) := of_q QX10_read_1 7 rfl
theorem dX10_read_119 : decode cX10_read 119 = .ok (.iaload, 1) := of_q QX10_read_1 8 rfl
theorem dX10_read_120 : decode cX10_read 120 = .ok (.iadd, 1) := of_q QX10_read_1 9 rfl
theorem dX10_read_121 : decode cX10_read 121 = .ok (.iaload, 1) := of_q QX10_read_1 10 rfl
theorem dX10_read_122 : decode cX10_read 122 = .ok (.ifCond .ne 13, 3) := of_q QX10_read_1 11 rfl
theorem dX10_read_125 : decode cX10_read 125 = .ok (.aload_n 0, 1) := of_q QX10_read_1 12 rfl
theorem dX10_read_126 : decode cX10_read 126 = .ok (.aload_n 0, 1) := of_q QX10_read_1 13 rfl
theorem dX10_read_127 : decode cX10_read 127 = .ok (.getfield 43, 3) := of_q QX10_read_1 14 rfl
theorem dX10_read_130 : decode cX10_read 130 = .ok (.iload_n 2, 1) := of_q QX10_read_1 15 rfl
theorem dX10_read_131 : decode cX10_read 131 = .ok (.iaload, 1) := of_q QX10_read_1 16 rfl
theorem dX10_read_132 : decode cX10_read 132 = .ok (.invokevirtual 138, 3) := of_q QX10_read_1 17 rfl
theorem dX10_read_135 : decode cX10_read 135 = .ok (.iinc 2 1, 3) := of_q QX10_read_1 18 rfl
theorem dX10_read_138 : decode cX10_read 138 = .ok (.goto (-60), 3) := of_q QX10_read_1 19 rfl
theorem dX10_read_141 : decode cX10_read 141 = .ok (.aload_n 0, 1) := of_q QX10_read_1 20 rfl
theorem dX10_read_142 : decode cX10_read 142 = .ok (.getfield 124, 3) := of_q QX10_read_1 21 rfl
theorem dX10_read_145 : decode cX10_read 145 = .ok (.ifCond .lt 11, 3) := of_q QX10_read_1 22 rfl
theorem dX10_read_148 : decode cX10_read 148 = .ok (.bipush (-10), 2) := of_q QX10_read_1 23 rfl
theorem dX10_read_150 : decode cX10_read 150 = .ok (.aload_n 0, 1) := of_q QX10_read_1 24 rfl
theorem dX10_read_151 : decode cX10_read 151 = .ok (.getfield 124, 3) := of_q QX10_read_1 25 rfl
theorem dX10_read_154 : decode cX10_read 154 = .ok (.isub, 1) := of_q QX10_read_1 26 rfl
theorem dX10_read_155 : decode cX10_read 155 = .ok (.ireturn, 1) := of_q QX10_read_1 27 rfl
theorem dX10_read_156 : decode cX10_read 156 = .ok (.iconst 0, 1) := of_q QX10_read_1 28 rfl
theorem dX10_read_157 : decode cX10_read 157 = .ok (.istore_n 2, 1) := of_q QX10_read_1 29 rfl
theorem dX10_read_158 : decode cX10_read 158 = .ok (.iload_n 2, 1) := of_q QX10_read_1 30 rfl
theorem dX10_read_159 : decode cX10_read 159 = .ok (.bipush 26, 2) := of_q QX10_read_1 31 rfl
theorem dX10_read_161 : decode cX10_read 161 = .ok (.if_icmp .ge 39, 3) := of_q QX10_read_1 32 rfl
theorem dX10_read_164 : decode cX10_read 164 = .ok (.aload_n 0, 1) := of_q QX10_read_1 33 rfl
theorem dX10_read_165 : decode cX10_read 165 = .ok (.getfield 16, 3) := of_q QX10_read_1 34 rfl
theorem dX10_read_168 : decode cX10_read 168 = .ok (.iload_n 2, 1) := of_q QX10_read_1 35 rfl
theorem dX10_read_169 : decode cX10_read 169 = .ok (.aload_n 0, 1) := of_q QX10_read_1 36 rfl
theorem dX10_read_170 : decode cX10_read 170 = .ok (.getfield 16, 3) := of_q QX10_read_1 37 rfl
theorem dX10_read_173 : decode cX10_read 173 = .ok (.bipush 26, 2) := of_q QX10_read_1 38 rfl
theorem dX10_read_175 : decode cX10_read 175 = .ok (.iload_n 2, 1) := of_q QX10_read_1 39 rfl
theorem dX10_read_176 : decode cX10_read 176 = .ok (.iadd, 1) := of_q QX10_read_1 40 rfl
theorem dX10_read_177 : decode cX10_read 177 = .ok (.iaload, 1) := of_q QX10_read_1 41 rfl
theorem dX10_read_178 : decode cX10_read 178 = .ok (.iastore, 1) := of_q QX10_read_1 42 rfl
theorem dX10_read_179 : decode cX10_read 179 = .ok (.aload_n 0, 1) := of_q QX10_read_1 43 rfl
theorem dX10_read_180 : decode cX10_read 180 = .ok (.getfield 19, 3) := of_q QX10_read_1 44 rfl
theorem dX10_read_183 : decode cX10_read 183 = .ok (.iload_n 2, 1) := of_q QX10_read_1 45 rfl
theorem dX10_read_184 : decode cX10_read 184 = .ok (.aload_n 0, 1) := of_q QX10_read_1 46 rfl
theorem dX10_read_185 : decode cX10_read 185 = .ok (.getfield 19, 3) := of_q QX10_read_1 47 rfl
theorem dX10_read_188 : decode cX10_read 188 = .ok (.bipush 26, 2) := of_q QX10_read_1 48 rfl
theorem dX10_read_190 : decode cX10_read 190 = .ok (.iload_n 2, 1) := of_q QX10_read_1 49 rfl
theorem dX10_read_191 : decode cX10_read 191 = .ok (.iadd, 1) := of_q QX10_read_1 50 rfl
theorem dX10_read_192 : decode cX10_read 192 = .ok (.iaload, 1) := of_q QX10_read_1 51 rfl
theorem dX10_read_193 : decode cX10_read 193 = .ok (.iastore, 1) := of_q QX10_read_1 52 rfl
theorem dX10_read_194 : decode cX10_read 194 = .ok (.iinc 2 1, 3) := of_q QX10_read_1 53 rfl
theorem dX10_read_197 : decode cX10_read 197 = .ok (.goto (-39), 3) := of_q QX10_read_1 54 rfl
theorem dX10_read_200 : decode cX10_read 200 = .ok (.iconst 0, 1) := of_q QX10_read_1 55 rfl
theorem dX10_read_201 : decode cX10_read 201 = .ok (.istore_n 2, 1) := of_q QX10_read_1 56 rfl
theorem dX10_read_202 : decode cX10_read 202 = .ok (.iload_n 2, 1) := of_q QX10_read_1 57 rfl
theorem dX10_read_203 : decode cX10_read 203 = .ok (.aload_n 0, 1) := of_q QX10_read_1 58 rfl
theorem dX10_read_204 : decode cX10_read 204 = .ok (.getfield 49, 3) := of_q QX10_read_1 59 rfl
def qX10_read_2 : List (Nat × Instr × Nat) := [(207, .iconst 1, 1), (208, .iaload, 1), (209, .if_icmp .ge 54, 3), (212, .aload_n 0, 1), (213, .getfield 22, 3), (216, .iload_n 2, 1), (217, .aload_n 0, 1), (218, .getfield 22, 3), (221, .bipush 48, 2), (223, .iload_n 2, 1), (224, .iadd, 1), (225, .iaload, 1), (226, .iastore, 1), (227, .aload_n 0, 1), (228, .getfield 25, 3), (231, .iload_n 2, 1), (232, .aload_n 0, 1), (233, .getfield 25, 3), (236, .bipush 48, 2), (238, .iload_n 2, 1), (239, .iadd, 1), (240, .iaload, 1), (241, .iastore, 1), (242, .aload_n 0, 1), (243, .getfield 28, 3), (246, .iload_n 2, 1), (247, .aload_n 0, 1), (248, .getfield 28, 3), (251, .bipush 48, 2), (253, .iload_n 2, 1), (254, .iadd, 1), (255, .iaload, 1), (256, .iastore, 1), (257, .iinc 2 1, 3), (260, .goto (-58), 3), (263, .iconst 0, 1), (264, .istore_n 2, 1), (265, .iload_n 2, 1), (266, .aload_n 0, 1), (267, .getfield 52, 3), (270, .iconst 1, 1), (271, .iaload, 1), (272, .if_icmp .ge 73, 3), (275, .aload_n 0, 1), (276, .getfield 31, 3), (279, .iload_n 2, 1), (280, .aload_n 0, 1), (281, .getfield 31, 3), (284, .sipush 241, 3), (287, .iload_n 2, 1), (288, .iadd, 1), (289, .iaload, 1), (290, .iastore, 1), (291, .aload_n 0, 1), (292, .getfield 34, 3), (295, .iload_n 2, 1), (296, .aload_n 0, 1), (297, .getfield 34, 3), (300, .sipush 241, 3), (303, .iload_n 2, 1)]
theorem QX10_read_2 : qX10_read_2.all (fun q => decide (decode cX10_read q.1 = .ok q.2)) = true := by decide +kernel
theorem dX10_read_207 : decode cX10_read 207 = .ok (.iconst 1, 1) := of_q QX10_read_2 0 rfl
theorem dX10_read_208 : decode cX10_read 208 = .ok (.iaload, 1) := of_q QX10_read_2 1 rfl
theorem dX10_read_209 : decode cX10_read 209 = .ok (.if_icmp .ge 54, 3) := of_q QX10_read_2 2 rfl
theorem dX10_read_212 : decode cX10_read 212 = .ok (.aload_n 0, 1) := of_q QX10_read_2 3 rfl
theorem dX10_read_213 : decode cX10_read 213 = .ok (.getfield 22, 3) := of_q QX10_read_2 4 rfl
theorem dX10_read_216 : decode cX10_read 216 = .ok (.iload_n 2, 1) := of_q QX10_read_2 5 rfl
theorem dX10_read_217 : decode cX10_read 217 = .ok (.aload_n 0, 1) := of_q QX10_read_2 6 rfl
theorem dX10_read_218 : decode cX10_read 218 = .ok (.getfield 22, 3) := of_q QX10_read_2 7 rfl
theorem dX10_read_221 : decode cX10_read 221 = .ok (.bipush 48, 2) := of_q QX10_read_2 8 rfl
theorem dX10_read_223 : decode cX10_read 223 = .ok (.iload_n 2, 1) := of_q QX10_read_2 9 rfl
theorem dX10_read_224 : decode cX10_read 224 = .ok (.iadd, 1) := of_q QX10_read_2 10 rfl
theorem dX10_read_225 : decode cX10_read 225 = .ok (.iaload, 1) := of_q QX10_read_2 11 rfl
theorem dX10_read_226 : decode cX10_read 226 = .ok (.iastore, 1) := of_q QX10_read_2 12 rfl
theorem dX10_read_227 : decode cX10_read 227 = .ok (.aload_n 0, 1) := of_q QX10_read_2 13 rfl
theorem dX10_read_228 : decode cX10_read 228 = .ok (.getfield 25, 3) := of_q QX10_read_2 14 rfl
theorem dX10_read_231 : decode cX10_read 231 = .ok (.iload_n 2, 1) := of_q QX10_read_2 15 rfl
theorem dX10_read_232 : decode cX10_read 232 = .ok (.aload_n 0, 1) := of_q QX10_read_2 16 rfl
theorem dX10_read_233 : decode cX10_read 233 = .ok (.getfield 25, 3) := of_q QX10_read_2 17 rfl
theorem dX10_read_236 : decode cX10_read 236 = .ok (.bipush 48, 2) := of_q QX10_read_2 18 rfl
theorem dX10_read_238 : decode cX10_read 238 = .ok (.iload_n 2, 1) := of_q QX10_read_2 19 rfl
theorem dX10_read_239 : decode cX10_read 239 = .ok (.iadd, 1) := of_q QX10_read_2 20 rfl
theorem dX10_read_240 : decode cX10_read 240 = .ok (.iaload, 1) := of_q QX10_read_2 21 rfl
theorem dX10_read_241 : decode cX10_read 241 = .ok (.iastore, 1) := of_q QX10_read_2 22 rfl
theorem dX10_read_242 : decode cX10_read 242 = .ok (.aload_n 0, 1) := of_q QX10_read_2 23 rfl
theorem dX10_read_243 : decode cX10_read 243 = .ok (.getfield 28, 3) := of_q QX10_read_2 24 rfl
theorem dX10_read_246 : decode cX10_read 246 = .ok (.iload_n 2, 1) := of_q QX10_read_2 25 rfl
theorem dX10_read_247 : decode cX10_read 247 = .ok (.aload_n 0, 1) := of_q QX10_read_2 26 rfl
theorem dX10_read_248 : decode cX10_read 248 = .ok (.getfield 28, 3) := of_q QX10_read_2 27 rfl
theorem dX10_read_251 : decode cX10_read 251 = .ok (.bipush 48, 2) := of_q QX10_read_2 28 rfl
theorem dX10_read_253 : decode cX10_read 253 = .ok (.iload_n 2, 1) := of_q QX10_read_2 29 rfl
theorem dX10_read_254 : decode cX10_read 254 = .ok (.iadd, 1) := of_q QX10_read_2 30 rfl
theorem dX10_read_255 : decode cX10_read 255 = .ok (.iaload, 1) := of_q QX10_read_2 31 rfl
theorem dX10_read_256 : decode cX10_read 256 = .ok (.iastore, 1) := of_q QX10_read_2 32 rfl
theorem dX10_read_257 : decode cX10_read 257 = .ok (.iinc 2 1, 3) := of_q QX10_read_2 33 rfl
theorem dX10_read_260 : decode cX10_read 260 = .ok (.goto (-58), 3) := of_q QX10_read_2 34 rfl
theorem dX10_read_263 : decode cX10_read 263 = .ok (.iconst 0, 1) := of_q QX10_read_2 35 rfl
theorem dX10_read_264 : decode cX10_read 264 = .ok (.istore_n 2, 1) := of_q QX10_read_2 36 rfl
theorem dX10_read_265 : decode cX10_read 265 = .ok (.iload_n 2, 1) := of_q QX10_read_2 37 rfl
theorem dX10_read_266 : decode cX10_read 266 = .ok (.aload_n 0, 1) := of_q QX10_read_2 38 rfl
theorem dX10_read_267 : decode cX10_read 267 = .ok (.getfield 52, 3) := of_q QX10_read_2 39 rfl
theorem dX10_read_270 : decode cX10_read 270 = .ok (.iconst 1, 1) := of_q QX10_read_2 40 rfl
theorem dX10_read_271 : decode cX10_read 271 = .ok (.iaload, 1) := of_q QX10_read_2 41 rfl
theorem dX10_read_272 : decode cX10_read 272 = .ok (.if_icmp .ge 73, 3) := of_q QX10_read_2 42 rfl
theorem dX10_read_275 : decode cX10_read 275 = .ok (.aload_n 0, 1) := of_q QX10_read_2 43 rfl
theorem dX10_read_276 : decode cX10_read 276 = .ok (.getfield 31, 3) := of_q QX10_read_2 44 rfl
theorem dX10_read_279 : decode cX10_read 279 = .ok (.iload_n 2, 1) := of_q QX10_read_2 45 rfl
theorem dX10_read_280 : decode cX10_read 280 = .ok (.aload_n 0, 1) := of_q QX10_read_2 46 rfl
theorem dX10_read_281 : decode cX10_read 281 = .ok (.getfield 31, 3) := of_q QX10_read_2 47 rfl
theorem dX10_read_284 : decode cX10_read 284 = .ok (.sipush 241, 3) := of_q QX10_read_2 48 rfl
theorem dX10_read_287 : decode cX10_read 287 = .ok (.iload_n 2, 1) := of_q QX10_read_2 49 rfl
theorem dX10_read_288 : decode cX10_read 288 = .ok (.iadd, 1) := of_q QX10_read_2 50 rfl
theorem dX10_read_289 : decode cX10_read 289 = .ok (.iaload, 1) := of_q QX10_read_2 51 rfl
theorem dX10_read_290 : decode cX10_read 290 = .ok (.iastore, 1) := of_q QX10_read_2 52 rfl
theorem dX10_read_291 : decode cX10_read 291 = .ok (.aload_n 0, 1) := of_q QX10_read_2 53 rfl
theorem dX10_read_292 : decode cX10_read 292 = .ok (.getfield 34, 3) := of_q QX10_read_2 54 rfl
theorem dX10_read_295 : decode cX10_read 295 = .ok (.iload_n 2, 1) := of_q QX10_read_2 55 rfl
theorem dX10_read_296 : decode cX10_read 296 = .ok (.aload_n 0, 1) := of_q QX10_read_2 56 rfl
theorem dX10_read_297 : decode cX10_read 297 = .ok (.getfield 34, 3) := of_q QX10_read_2 57 rfl
theorem dX10_read_300 : decode cX10_read 300 = .ok (.sipush 241, 3) := of_q QX10_read_2 58 rfl
theorem dX10_read_303 : decode cX10_read 303 = .ok (.iload_n 2, 1) := of_q QX10_read_2 59 rfl
def qX10_read_3 : List (Nat × Instr × Nat) := [(304, .iadd, 1), (305, .iaload, 1), (306, .iastore, 1), (307, .aload_n 0, 1), (308, .getfield 37, 3), (311, .iload_n 2, 1), (312, .aload_n 0, 1), (313, .getfield 37, 3), (316, .sipush 241, 3), (319, .iload_n 2, 1), (320, .iadd, 1), (321, .iaload, 1), (322, .iastore, 1), (323, .aload_n 0, 1), (324, .getfield 40, 3), (327, .iload_n 2, 1), (328, .aload_n 0, 1), (329, .getfield 40, 3), (332, .sipush 241, 3), (335, .iload_n 2, 1), (336, .iadd, 1), (337, .iaload, 1), (338, .iastore, 1), (339, .iinc 2 1, 3), (342, .goto (-77), 3), (345, .aload_n 0, 1), (346, .getfield 46, 3), (349, .iconst 0, 1), (350, .aload_n 0, 1), (351, .getfield 46, 3), (354, .iconst 1, 1), (355, .iaload, 1), (356, .iastore, 1), (357, .aload_n 0, 1), (358, .getfield 49, 3), (361, .iconst 0, 1), (362, .aload_n 0, 1), (363, .getfield 49, 3), (366, .iconst 1, 1), (367, .iaload, 1), (368, .iastore, 1), (369, .aload_n 0, 1), (370, .getfield 52, 3), (373, .iconst 0, 1), (374, .aload_n 0, 1), (375, .getfield 52, 3), (378, .iconst 1, 1), (379, .iaload, 1), (380, .iastore, 1), (381, .aload_n 0, 1), (382, .getfield 55, 3), (385, .iconst 0, 1), (386, .aload_n 0, 1), (387, .getfield 55, 3), (390, .iconst 1, 1), (391, .iaload, 1), (392, .iastore, 1), (393, .aload_n 0, 1), (394, .getfield 46, 3), (397, .iconst 0, 1)]
theorem QX10_read_3 : qX10_read_3.all (fun q => decide (decode cX10_read q.1 = .ok q.2)) = true := by decide +kernel
theorem dX10_read_304 : decode cX10_read 304 = .ok (.iadd, 1) := of_q QX10_read_3 0 rfl
theorem dX10_read_305 : decode cX10_read 305 = .ok (.iaload, 1) := of_q QX10_read_3 1 rfl
theorem dX10_read_306 : decode cX10_read 306 = .ok (.iastore, 1) := of_q QX10_read_3 2 rfl
theorem dX10_read_307 : decode cX10_read 307 = .ok (.aload_n 0, 1) := of_q QX10_read_3 3 rfl
theorem dX10_read_308 : decode cX10_read 308 = .ok (.getfield 37, 3) := of_q QX10_read_3 4 rfl
theorem dX10_read_311 : decode cX10_read 311 = .ok (.iload_n 2, 1) := of_q QX10_read_3 5 rfl
theorem dX10_read_312 : decode cX10_read 312 = .ok (.aload_n 0, 1) := of_q QX10_read_3 6 rfl
theorem dX10_read_313 : decode cX10_read 313 = .ok (.getfield 37, 3) := of_q QX10_read_3 7 rfl
theorem dX10_read_316 : decode cX10_read 316 = .ok (.sipush 241, 3) := of_q QX10_read_3 8 rfl
theorem dX10_read_319 : decode cX10_read 319 = .ok (.iload_n 2, 1) := of_q QX10_read_3 9 rfl
theorem dX10_read_320 : decode cX10_read 320 = .ok (.iadd, 1) := of_q QX10_read_3 10 rfl
theorem dX10_read_321 : decode cX10_read 321 = .ok (.iaload, 1) := of_q QX10_read_3 11 rfl
theorem dX10_read_322 : decode cX10_read 322 = .ok (.iastore, 1) := of_q QX10_read_3 12 rfl
theorem dX10_read_323 : decode cX10_read 323 = .ok (.aload_n 0, 1) := of_q QX10_read_3 13 rfl
theorem dX10_read_324 : decode cX10_read 324 = .ok (.getfield 40, 3) := of_q QX10_read_3 14 rfl
theorem dX10_read_327 : decode cX10_read 327 = .ok (.iload_n 2, 1) := of_q QX10_read_3 15 rfl
theorem dX10_read_328 : decode cX10_read 328 = .ok (.aload_n 0, 1) := of_q QX10_read_3 16 rfl
theorem dX10_read_329 : decode cX10_read 329 = .ok (.getfield 40, 3) := of_q QX10_read_3 17 rfl
theorem dX10_read_332 : decode cX10_read 332 = .ok (.sipush 241, 3) := of_q QX10_read_3 18 rfl
theorem dX10_read_335 : decode cX10_read 335 = .ok (.iload_n 2, 1) := of_q QX10_read_3 19 rfl
theorem dX10_read_336 : decode cX10_read 336 = .ok (.iadd, 1) := of_q QX10_read_3 20 rfl
theorem dX10_read_337 : decode cX10_read 337 = .ok (.iaload, 1) := of_q QX10_read_3 21 rfl
theorem dX10_read_338 : decode cX10_read 338 = .ok (.iastore, 1) := of_q QX10_read_3 22 rfl
theorem dX10_read_339 : decode cX10_read 339 = .ok (.iinc 2 1, 3) := of_q QX10_read_3 23 rfl
theorem dX10_read_342 : decode cX10_read 342 = .ok (.goto (-77), 3) := of_q QX10_read_3 24 rfl
theorem dX10_read_345 : decode cX10_read 345 = .ok (.aload_n 0, 1) := of_q QX10_read_3 25 rfl
theorem dX10_read_346 : decode cX10_read 346 = .ok (.getfield 46, 3) := of_q QX10_read_3 26 rfl
theorem dX10_read_349 : decode cX10_read 349 = .ok (.iconst 0, 1) := of_q QX10_read_3 27 rfl
theorem dX10_read_350 : decode cX10_read 350 = .ok (.aload_n 0, 1) := of_q QX10_read_3 28 rfl
theorem dX10_read_351 : decode cX10_read 351 = .ok (.getfield 46, 3) := of_q QX10_read_3 29 rfl
theorem dX10_read_354 : decode cX10_read 354 = .ok (.iconst 1, 1) := of_q QX10_read_3 30 rfl
theorem dX10_read_355 : decode cX10_read 355 = .ok (.iaload, 1) := of_q QX10_read_3 31 rfl
theorem dX10_read_356 : decode cX10_read 356 = .ok (.iastore, 1) := of_q QX10_read_3 32 rfl
theorem dX10_read_357 : decode cX10_read 357 = .ok (.aload_n 0, 1) := of_q QX10_read_3 33 rfl
theorem dX10_read_358 : decode cX10_read 358 = .ok (.getfield 49, 3) := of_q QX10_read_3 34 rfl
theorem dX10_read_361 : decode cX10_read 361 = .ok (.iconst 0, 1) := of_q QX10_read_3 35 rfl
theorem dX10_read_362 : decode cX10_read 362 = .ok (.aload_n 0, 1) := of_q QX10_read_3 36 rfl
theorem dX10_read_363 : decode cX10_read 363 = .ok (.getfield 49, 3) := of_q QX10_read_3 37 rfl
theorem dX10_read_366 : decode cX10_read 366 = .ok (.iconst 1, 1) := of_q QX10_read_3 38 rfl
theorem dX10_read_367 : decode cX10_read 367 = .ok (.iaload, 1) := of_q QX10_read_3 39 rfl
theorem dX10_read_368 : decode cX10_read 368 = .ok (.iastore, 1) := of_q QX10_read_3 40 rfl
theorem dX10_read_369 : decode cX10_read 369 = .ok (.aload_n 0, 1) := of_q QX10_read_3 41 rfl
theorem dX10_read_370 : decode cX10_read 370 = .ok (.getfield 52, 3) := of_q QX10_read_3 42 rfl
theorem dX10_read_373 : decode cX10_read 373 = .ok (.iconst 0, 1) := of_q QX10_read_3 43 rfl
theorem dX10_read_374 : decode cX10_read 374 = .ok (.aload_n 0, 1) := of_q QX10_read_3 44 rfl
theorem dX10_read_375 : decode cX10_read 375 = .ok (.getfield 52, 3) := of_q QX10_read_3 45 rfl
theorem dX10_read_378 : decode cX10_read 378 = .ok (.iconst 1, 1) := of_q QX10_read_3 46 rfl
theorem dX10_read_379 : decode cX10_read 379 = .ok (.iaload, 1) := of_q QX10_read_3 47 rfl
theorem dX10_read_380 : decode cX10_read 380 = .ok (.iastore, 1) := of_q QX10_read_3 48 rfl
theorem dX10_read_381 : decode cX10_read 381 = .ok (.aload_n 0, 1) := of_q QX10_read_3 49 rfl
theorem dX10_read_382 : decode cX10_read 382 = .ok (.getfield 55, 3) := of_q QX10_read_3 50 rfl
theorem dX10_read_385 : decode cX10_read 385 = .ok (.iconst 0, 1) := of_q QX10_read_3 51 rfl
theorem dX10_read_386 : decode cX10_read 386 = .ok (.aload_n 0, 1) := of_q QX10_read_3 52 rfl
theorem dX10_read_387 : decode cX10_read 387 = .ok (.getfield 55, 3) := of_q QX10_read_3 53 rfl
theorem dX10_read_390 : decode cX10_read 390 = .ok (.iconst 1, 1) := of_q QX10_read_3 54 rfl
theorem dX10_read_391 : decode cX10_read 391 = .ok (.iaload, 1) := of_q QX10_read_3 55 rfl
theorem dX10_read_392 : decode cX10_read 392 = .ok (.iastore, 1) := of_q QX10_read_3 56 rfl
theorem dX10_read_393 : decode cX10_read 393 = .ok (.aload_n 0, 1) := of_q QX10_read_3 57 rfl
theorem dX10_read_394 : decode cX10_read 394 = .ok (.getfield 46, 3) := of_q QX10_read_3 58 rfl
theorem dX10_read_397 : decode cX10_read 397 = .ok (.iconst 0, 1) := of_q QX10_read_3 59 rfl
def qX10_read_4 : List (Nat × Instr × Nat) := [(398, .iaload, 1), (399, .ireturn, 1)]
theorem QX10_read_4 : qX10_read_4.all (fun q => decide (decode cX10_read q.1 = .ok q.2)) = true := by decide +kernel
theorem dX10_read_398 : decode cX10_read 398 = .ok (.iaload, 1) := of_q QX10_read_4 0 rfl
theorem dX10_read_399 : decode cX10_read 399 = .ok (.ireturn, 1) := of_q QX10_read_4 1 rfl
def qX10_readRule_0 : List (Nat × Instr × Nat) := [(0, .aload_n 0, 1), (1, .aload_n 0, 1), (2, .aload_n 0, 1), (3, .getfield 131, 3), (6, .invokevirtual 142, 3), (9, .putfield 131, 3), (12, .aload_n 0, 1), (13, .getfield 131, 3), (16, .istore_n 1, 1), (17, .aload_n 0, 1), (18, .aload_n 0, 1), (19, .getfield 131, 3), (22, .invokevirtual 127, 3), (25, .invokestatic 145, 3), (28, .ifCond .ne 13, 3), (31, .aload_n 0, 1), (32, .aload_n 0, 1), (33, .getfield 131, 3), (36, .invokevirtual 138, 3), (39, .iconst 0, 1), (40, .ireturn, 1), (41, .aload_n 0, 1), (42, .aload_n 0, 1), (43, .getfield 131, 3), (46, .invokevirtual 127, 3), (49, .bipush 65, 2), (51, .isub, 1), (52, .istore_n 2, 1), (53, .aload_n 0, 1), (54, .aload_n 0, 1), (55, .aload_n 0, 1), (56, .getfield 131, 3), (59, .iconst 1, 1), (60, .iadd, 1), (61, .invokevirtual 142, 3), (64, .putfield 131, 3), (67, .aload_n 0, 1), (68, .aload_n 0, 1), (69, .getfield 131, 3), (72, .invokevirtual 127, 3), (75, .bipush 61, 2), (77, .if_icmp .eq 13, 3), (80, .aload_n 0, 1), (81, .aload_n 0, 1), (82, .getfield 131, 3), (85, .invokevirtual 138, 3), (88, .iconst 0, 1), (89, .ireturn, 1), (90, .aload_n 0, 1), (91, .getfield 19, 3), (94, .bipush 26, 2), (96, .iload_n 2, 1), (97, .iadd, 1), (98, .iaload, 1), (99, .ifCond .gt 14, 3), (102, .aload_n 0, 1), (103, .getfield 46, 3), (106, .iconst 1, 1), (107, .iaload, 1), (108, .bipush 16, 2)]
theorem QX10_readRule_0 : qX10_readRule_0.all (fun q => decide (decode cX10_readRule q.1 = .ok q.2)) = true := by decide +kernel
theorem dX10_readRule_0 : decode cX10_readRule 0 = .ok (.aload_n 0, 1) := of_q QX10_readRule_0 0 rfl
theorem dX10_readRule_1 : decode cX10_readRule 1 = .ok (.aload_n 0, 1) := of_q QX10_readRule_0 1 rfl
theorem dX10_readRule_2 : decode cX10_readRule 2 = .ok (.aload_n 0, 1) := of_q QX10_readRule_0 2 rfl
theorem dX10_readRule_3 : decode cX10_readRule 3 = .ok (.getfield 131, 3) := of_q QX10_readRule_0 3 rfl
theorem dX10_readRule_6 : decode cX10_readRule 6 = .ok (.invokevirtual 142, 3) := of_q QX10_readRule_0 4 rfl
theorem dX10_readRule_9 : decode cX10_readRule 9 = .ok (.putfield 131, 3) := of_q QX10_readRule_0 5 rfl
theorem dX10_readRule_12 : decode cX10_readRule 12 = .ok (.aload_n 0, 1) := of_q QX10_readRule_0 6 rfl
theorem dX10_readRule_13 : decode cX10_readRule 13 = .ok (.getfield 131, 3) := of_q QX10_readRule_0 7 rfl
theorem dX10_readRule_16 : decode cX10_readRule 16 = .ok (.istore_n 1, 1) := of_q QX10_readRule_0 8 rfl
theorem dX10_readRule_17 : decode cX10_readRule 17 = .ok (.aload_n 0, 1) := of_q QX10_readRule_0 9 rfl
theorem dX10_readRule_18 : decode cX10_readRule 18 = .ok (.aload_n 0, 1) := of_q QX10_readRule_0 10 rfl
theorem dX10_readRule_19 : decode cX10_readRule 19 = .ok (.getfield 131, 3) := of_q QX10_readRule_0 11 rfl
theorem dX10_readRule_22 : decode cX10_readRule 22 = .ok (.invokevirtual 127, 3) := of_q QX10_readRule_0 12 rfl
theorem dX10_readRule_25 : decode cX10_readRule 25 = .ok (.invokestatic 145, 3) := of_q QX10_readRule_0 13 rfl
theorem dX10_readRule_28 : decode cX10_readRule 28 = .ok (.ifCond .ne 13, 3) := of_q QX10_readRule_0 14 rfl
theorem dX10_readRule_31 : decode cX10_readRule 31 = .ok (.aload_n 0, 1) := of_q QX10_readRule_0 15 rfl
theorem dX10_readRule_32 : decode cX10_readRule 32 = .ok (.aload_n 0, 1) := of_q QX10_readRule_0 16 rfl
theorem dX10_readRule_33 : decode cX10_readRule 33 = .ok (.getfield 131, 3) := of_q QX10_readRule_0 17 rfl
theorem dX10_readRule_36 : decode cX10_readRule 36 = .ok (.invokevirtual 138, 3) := of_q QX10_readRule_0 18 rfl
theorem dX10_readRule_39 : decode cX10_readRule 39 = .ok (.iconst 0, 1) := of_q QX10_readRule_0 19 rfl
theorem dX10_readRule_40 : decode cX10_readRule 40 = .ok (.ireturn, 1) := of_q QX10_readRule_0 20 rfl
theorem dX10_readRule_41 : decode cX10_readRule 41 = .ok (.aload_n 0, 1) := of_q QX10_readRule_0 21 rfl
theorem dX10_readRule_42 : decode cX10_readRule 42 = .ok (.aload_n 0, 1) := of_q QX10_readRule_0 22 rfl
theorem dX10_readRule_43 : decode cX10_readRule 43 = .ok (.getfield 131, 3) := of_q QX10_readRule_0 23 rfl
theorem dX10_readRule_46 : decode cX10_readRule 46 = .ok (.invokevirtual 127, 3) := of_q QX10_readRule_0 24 rfl
theorem dX10_readRule_49 : decode cX10_readRule 49 = .ok (.bipush 65, 2) := of_q QX10_readRule_0 25 rfl
theorem dX10_readRule_51 : decode cX10_readRule 51 = .ok (.isub, 1) := of_q QX10_readRule_0 26 rfl
theorem dX10_readRule_52 : decode cX10_readRule 52 = .ok (.istore_n 2, 1) := of_q QX10_readRule_0 27 rfl
theorem dX10_readRule_53 : decode cX10_readRule 53 = .ok (.aload_n 0, 1) := of_q QX10_readRule_0 28 rfl
theorem dX10_readRule_54 : decode cX10_readRule 54 = .ok (.aload_n 0, 1) := of_q QX10_readRule_0 29 rfl
theorem dX10_readRule_55 : decode cX10_readRule 55 = .ok (.aload_n 0, 1) := of_q QX10_readRule_0 30 rfl
theorem dX10_readRule_56 : decode cX10_readRule 56 = .ok (.getfield 131, 3) := of_q QX10_readRule_0 31 rfl
theorem dX10_readRule_59 : decode cX10_readRule 59 = .ok (.iconst 1, 1) := of_q QX10_readRule_0 32 rfl
theorem dX10_readRule_60 : decode cX10_readRule 60 = .ok (.iadd, 1) := of_q QX10_readRule_0 33 rfl
theorem dX10_readRule_61 : decode cX10_readRule 61 = .ok (.invokevirtual 142, 3) := of_q QX10_readRule_0 34 rfl
theorem dX10_readRule_64 : decode cX10_readRule 64 = .ok (.putfield 131, 3) := of_q QX10_readRule_0 35 rfl
theorem dX10_readRule_67 : decode cX10_readRule 67 = .ok (.aload_n 0, 1) := of_q QX10_readRule_0 36 rfl
theorem dX10_readRule_68 : decode cX10_readRule 68 = .ok (.aload_n 0, 1) := of_q QX10_readRule_0 37 rfl
theorem dX10_readRule_69 : decode cX10_readRule 69 = .ok (.getfield 131, 3) := of_q QX10_readRule_0 38 rfl
theorem dX10_readRule_72 : decode cX10_readRule 72 = .ok (.invokevirtual 127, 3) := of_q QX10_readRule_0 39 rfl
theorem dX10_readRule_75 : decode cX10_readRule 75 = .ok (.bipush 61, 2) := of_q QX10_readRule_0 40 rfl
theorem dX10_readRule_77 : decode cX10_readRule 77 = .ok (.if_icmp .eq 13, 3) := of_q QX10_readRule_0 41 rfl
theorem dX10_readRule_80 : decode cX10_readRule 80 = .ok (.aload_n 0, 1) := of_q QX10_readRule_0 42 rfl
theorem dX10_readRule_81 : decode cX10_readRule 81 = .ok (.aload_n 0, 1) := of_q QX10_readRule_0 43 rfl
theorem dX10_readRule_82 : decode cX10_readRule 82 = .ok (.getfield 131, 3) := of_q QX10_readRule_0 44 rfl
theorem dX10_readRule_85 : decode cX10_readRule 85 = .ok (.invokevirtual 138, 3) := of_q QX10_readRule_0 45 rfl
theorem dX10_readRule_88 : decode cX10_readRule 88 = .ok (.iconst 0, 1) := of_q QX10_readRule_0 46 rfl
theorem dX10_readRule_89 : decode cX10_readRule 89 = .ok (.ireturn, 1) := of_q QX10_readRule_0 47 rfl
theorem dX10_readRule_90 : decode cX10_readRule 90 = .ok (.aload_n 0, 1) := of_q QX10_readRule_0 48 rfl
theorem dX10_readRule_91 : decode cX10_readRule 91 = .ok (.getfield 19, 3) := of_q QX10_readRule_0 49 rfl
theorem dX10_readRule_94 : decode cX10_readRule 94 = .ok (.bipush 26, 2) := of_q QX10_readRule_0 50 rfl
theorem dX10_readRule_96 : decode cX10_readRule 96 = .ok (.iload_n 2, 1) := of_q QX10_readRule_0 51 rfl
theorem dX10_readRule_97 : decode cX10_readRule 97 = .ok (.iadd, 1) := of_q QX10_readRule_0 52 rfl
theorem dX10_readRule_98 : decode cX10_readRule 98 = .ok (.iaload, 1) := of_q QX10_readRule_0 53 rfl
theorem dX10_readRule_99 : decode cX10_readRule 99 = .ok (.ifCond .gt 14, 3) := of_q QX10_readRule_0 54 rfl
theorem dX10_readRule_102 : decode cX10_readRule 102 = .ok (.aload_n 0, 1) := of_q QX10_readRule_0 55 rfl
theorem dX10_readRule_103 : decode cX10_readRule 103 = .ok (.getfield 46, 3) := of_q QX10_readRule_0 56 rfl
theorem dX10_readRule_106 : decode cX10_readRule 106 = .ok (.iconst 1, 1) := of_q QX10_readRule_0 57 rfl
theorem dX10_readRule_107 : decode cX10_readRule 107 = .ok (.iaload, 1) := of_q QX10_readRule_0 58 rfl
theorem dX10_readRule_108 : decode cX10_readRule 108 = .ok (.bipush 16, 2) := of_q QX10_readRule_0 59 rfl
def qX10_readRule_1 : List (Nat × Instr × Nat) := [(110, .if_icmp .ne 10, 3), (113, .aload_n 0, 1), (114, .iload_n 1, 1), (115, .invokevirtual 138, 3), (118, .iconst 0, 1), (119, .ireturn, 1), (120, .aload_n 0, 1), (121, .dup, 1), (122, .getfield 131, 3), (125, .iconst 1, 1), (126, .iadd, 1), (127, .putfield 131, 3), (130, .aload_n 0, 1), (131, .getfield 46, 3), (134, .iconst 1, 1), (135, .iaload, 1), (136, .ifCond .ne 10, 3), (139, .aload_n 0, 1), (140, .getfield 55, 3), (143, .iconst 1, 1), (144, .iload_n 2, 1), (145, .iastore, 1), (146, .aload_n 0, 1), (147, .getfield 46, 3), (150, .iconst 1, 1), (151, .dup2, 1), (152, .iaload, 1), (153, .iconst 1, 1), (154, .iadd, 1), (155, .iastore, 1), (156, .aload_n 0, 1), (157, .getfield 16, 3), (160, .bipush 26, 2), (162, .iload_n 2, 1), (163, .iadd, 1), (164, .aload_n 0, 1), (165, .getfield 49, 3), (168, .iconst 1, 1), (169, .iaload, 1), (170, .iastore, 1), (171, .iconst 0, 1), (172, .istore_n 3, 1), (173, .iload_n 3, 1), (174, .ifCond .ne 34, 3), (177, .aload_n 0, 1), (178, .getfield 124, 3), (181, .ifCond .ge 27, 3), (184, .aload_n 0, 1), (185, .iload_n 2, 1), (186, .invokevirtual 149, 3), (189, .aload_n 0, 1), (190, .getfield 124, 3), (193, .ifCond .ge 10, 3), (196, .aload_n 0, 1), (197, .invokevirtual 152, 3), (200, .goto 4, 3), (203, .iconst 2, 1), (204, .istore_n 3, 1), (205, .goto (-32), 3), (208, .iload_n 3, 1)]
theorem QX10_readRule_1 : qX10_readRule_1.all (fun q => decide (decode cX10_readRule q.1 = .ok q.2)) = true := by decide +kernel
theorem dX10_readRule_110 : decode cX10_readRule 110 = .ok (.if_icmp .ne 10, 3) := of_q QX10_readRule_1 0 rfl
theorem dX10_readRule_113 : decode cX10_readRule 113 = .ok (.aload_n 0, 1) := of_q QX10_readRule_1 1 rfl
theorem dX10_readRule_114 : decode cX10_readRule 114 = .ok (.iload_n 1, 1) := of_q QX10_readRule_1 2 rfl
theorem dX10_readRule_115 : decode cX10_readRule 115 = .ok (.invokevirtual 138, 3) := of_q QX10_readRule_1 3 rfl
theorem dX10_readRule_118 : decode cX10_readRule 118 = .ok (.iconst 0, 1) := of_q QX10_readRule_1 4 rfl
theorem dX10_readRule_119 : decode cX10_readRule 119 = .ok (.ireturn, 1) := of_q QX10_readRule_1 5 rfl
theorem dX10_readRule_120 : decode cX10_readRule 120 = .ok (.aload_n 0, 1) := of_q QX10_readRule_1 6 rfl
theorem dX10_readRule_121 : decode cX10_readRule 121 = .ok (.dup, 1) := of_q QX10_readRule_1 7 rfl
theorem dX10_readRule_122 : decode cX10_readRule 122 = .ok (.getfield 131, 3) := of_q QX10_readRule_1 8 rfl
theorem dX10_readRule_125 : decode cX10_readRule 125 = .ok (.iconst 1, 1) := of_q QX10_readRule_1 9 rfl
theorem dX10_readRule_126 : decode cX10_readRule 126 = .ok (.iadd, 1) := of_q QX10_readRule_1 10 rfl
theorem dX10_readRule_127 : decode cX10_readRule 127 = .ok (.putfield 131, 3) := of_q QX10_readRule_1 11 rfl
theorem dX10_readRule_130 : decode cX10_readRule 130 = .ok (.aload_n 0, 1) := of_q QX10_readRule_1 12 rfl
theorem dX10_readRule_131 : decode cX10_readRule 131 = .ok (.getfield 46, 3) := of_q QX10_readRule_1 13 rfl
theorem dX10_readRule_134 : decode cX10_readRule 134 = .ok (.iconst 1, 1) := of_q QX10_readRule_1 14 rfl
theorem dX10_readRule_135 : decode cX10_readRule 135 = .ok (.iaload, 1) := of_q QX10_readRule_1 15 rfl
theorem dX10_readRule_136 : decode cX10_readRule 136 = .ok (.ifCond .ne 10, 3) := of_q QX10_readRule_1 16 rfl
theorem dX10_readRule_139 : decode cX10_readRule 139 = .ok (.aload_n 0, 1) := of_q QX10_readRule_1 17 rfl
theorem dX10_readRule_140 : decode cX10_readRule 140 = .ok (.getfield 55, 3) := of_q QX10_readRule_1 18 rfl
theorem dX10_readRule_143 : decode cX10_readRule 143 = .ok (.iconst 1, 1) := of_q QX10_readRule_1 19 rfl
theorem dX10_readRule_144 : decode cX10_readRule 144 = .ok (.iload_n 2, 1) := of_q QX10_readRule_1 20 rfl
theorem dX10_readRule_145 : decode cX10_readRule 145 = .ok (.iastore, 1) := of_q QX10_readRule_1 21 rfl
theorem dX10_readRule_146 : decode cX10_readRule 146 = .ok (.aload_n 0, 1) := of_q QX10_readRule_1 22 rfl
theorem dX10_readRule_147 : decode cX10_readRule 147 = .ok (.getfield 46, 3) := of_q QX10_readRule_1 23 rfl
theorem dX10_readRule_150 : decode cX10_readRule 150 = .ok (.iconst 1, 1) := of_q QX10_readRule_1 24 rfl
theorem dX10_readRule_151 : decode cX10_readRule 151 = .ok (.dup2, 1) := of_q QX10_readRule_1 25 rfl
theorem dX10_readRule_152 : decode cX10_readRule 152 = .ok (.iaload, 1) := of_q QX10_readRule_1 26 rfl
theorem dX10_readRule_153 : decode cX10_readRule 153 = .ok (.iconst 1, 1) := of_q QX10_readRule_1 27 rfl
theorem dX10_readRule_154 : decode cX10_readRule 154 = .ok (.iadd, 1) := of_q QX10_readRule_1 28 rfl
theorem dX10_readRule_155 : decode cX10_readRule 155 = .ok (.iastore, 1) := of_q QX10_readRule_1 29 rfl
theorem dX10_readRule_156 : decode cX10_readRule 156 = .ok (.aload_n 0, 1) := of_q QX10_readRule_1 30 rfl
theorem dX10_readRule_157 : decode cX10_readRule 157 = .ok (.getfield 16, 3) := of_q QX10_readRule_1 31 rfl
theorem dX10_readRule_160 : decode cX10_readRule 160 = .ok (.bipush 26, 2) := of_q QX10_readRule_1 32 rfl
theorem dX10_readRule_162 : decode cX10_readRule 162 = .ok (.iload_n 2, 1) := of_q QX10_readRule_1 33 rfl
theorem dX10_readRule_163 : decode cX10_readRule 163 = .ok (.iadd, 1) := of_q QX10_readRule_1 34 rfl
theorem dX10_readRule_164 : decode cX10_readRule 164 = .ok (.aload_n 0, 1) := of_q QX10_readRule_1 35 rfl
theorem dX10_readRule_165 : decode cX10_readRule 165 = .ok (.getfield 49, 3) := of_q QX10_readRule_1 36 rfl
theorem dX10_readRule_168 : decode cX10_readRule 168 = .ok (.iconst 1, 1) := of_q QX10_readRule_1 37 rfl
theorem dX10_readRule_169 : decode cX10_readRule 169 = .ok (.iaload, 1) := of_q QX10_readRule_1 38 rfl
theorem dX10_readRule_170 : decode cX10_readRule 170 = .ok (.iastore, 1) := of_q QX10_readRule_1 39 rfl
theorem dX10_readRule_171 : decode cX10_readRule 171 = .ok (.iconst 0, 1) := of_q QX10_readRule_1 40 rfl
theorem dX10_readRule_172 : decode cX10_readRule 172 = .ok (.istore_n 3, 1) := of_q QX10_readRule_1 41 rfl
theorem dX10_readRule_173 : decode cX10_readRule 173 = .ok (.iload_n 3, 1) := of_q QX10_readRule_1 42 rfl
theorem dX10_readRule_174 : decode cX10_readRule 174 = .ok (.ifCond .ne 34, 3) := of_q QX10_readRule_1 43 rfl
theorem dX10_readRule_177 : decode cX10_readRule 177 = .ok (.aload_n 0, 1) := of_q QX10_readRule_1 44 rfl
theorem dX10_readRule_178 : decode cX10_readRule 178 = .ok (.getfield 124, 3) := of_q QX10_readRule_1 45 rfl
theorem dX10_readRule_181 : decode cX10_readRule 181 = .ok (.ifCond .ge 27, 3) := of_q QX10_readRule_1 46 rfl
theorem dX10_readRule_184 : decode cX10_readRule 184 = .ok (.aload_n 0, 1) := of_q QX10_readRule_1 47 rfl
theorem dX10_readRule_185 : decode cX10_readRule 185 = .ok (.iload_n 2, 1) := of_q QX10_readRule_1 48 rfl
theorem dX10_readRule_186 : decode cX10_readRule 186 = .ok (.invokevirtual 149, 3) := of_q QX10_readRule_1 49 rfl
theorem dX10_readRule_189 : decode cX10_readRule 189 = .ok (.aload_n 0, 1) := of_q QX10_readRule_1 50 rfl
theorem dX10_readRule_190 : decode cX10_readRule 190 = .ok (.getfield 124, 3) := of_q QX10_readRule_1 51 rfl
theorem dX10_readRule_193 : decode cX10_readRule 193 = .ok (.ifCond .ge 10, 3) := of_q QX10_readRule_1 52 rfl
theorem dX10_readRule_196 : decode cX10_readRule 196 = .ok (.aload_n 0, 1) := of_q QX10_readRule_1 53 rfl
theorem dX10_readRule_197 : decode cX10_readRule 197 = .ok (.invokevirtual 152, 3) := of_q QX10_readRule_1 54 rfl
theorem dX10_readRule_200 : decode cX10_readRule 200 = .ok (.goto 4, 3) := of_q QX10_readRule_1 55 rfl
theorem dX10_readRule_203 : decode cX10_readRule 203 = .ok (.iconst 2, 1) := of_q QX10_readRule_1 56 rfl
theorem dX10_readRule_204 : decode cX10_readRule 204 = .ok (.istore_n 3, 1) := of_q QX10_readRule_1 57 rfl
theorem dX10_readRule_205 : decode cX10_readRule 205 = .ok (.goto (-32), 3) := of_q QX10_readRule_1 58 rfl
theorem dX10_readRule_208 : decode cX10_readRule 208 = .ok (.iload_n 3, 1) := of_q QX10_readRule_1 59 rfl
def qX10_readRule_2 : List (Nat × Instr × Nat) := [(209, .iconst 1, 1), (210, .if_icmp .ne 7, 3), (213, .iconst 1, 1), (214, .goto 4, 3), (217, .iconst 0, 1), (218, .ireturn, 1)]
theorem QX10_readRule_2 : qX10_readRule_2.all (fun q => decide (decode cX10_readRule q.1 = .ok q.2)) = true := by decide +kernel
theorem dX10_readRule_209 : decode cX10_readRule 209 = .ok (.iconst 1, 1) := of_q QX10_readRule_2 0 rfl
theorem dX10_readRule_210 : decode cX10_readRule 210 = .ok (.if_icmp .ne 7, 3) := of_q QX10_readRule_2 1 rfl
theorem dX10_readRule_213 : decode cX10_readRule 213 = .ok (.iconst 1, 1) := of_q QX10_readRule_2 2 rfl
theorem dX10_readRule_214 : decode cX10_readRule 214 = .ok (.goto 4, 3) := of_q QX10_readRule_2 3 rfl
theorem dX10_readRule_217 : decode cX10_readRule 217 = .ok (.iconst 0, 1) := of_q QX10_readRule_2 4 rfl
theorem dX10_readRule_218 : decode cX10_readRule 218 = .ok (.ireturn, 1) := of_q QX10_readRule_2 5 rfl
def qX10_readWeight_0 : List (Nat × Instr × Nat) := [(0, .aload_n 0, 1), (1, .aload_n 0, 1), (2, .aload_n 0, 1), (3, .getfield 131, 3), (6, .invokevirtual 142, 3), (9, .putfield 131, 3), (12, .aload_n 0, 1), (13, .getfield 131, 3), (16, .istore_n 2, 1), (17, .iconst 0, 1), (18, .istore_n 3, 1), (19, .aload_n 0, 1), (20, .aload_n 0, 1), (21, .getfield 131, 3), (24, .invokevirtual 127, 3), (27, .invokestatic 156, 3), (30, .ifCond .eq 40, 3), (33, .iload_n 3, 1), (34, .sipush 1000, 3), (37, .if_icmp .ge 33, 3), (40, .bipush 10, 2), (42, .iload_n 3, 1), (43, .imul, 1), (44, .aload_n 0, 1), (45, .aload_n 0, 1), (46, .getfield 131, 3), (49, .invokevirtual 127, 3), (52, .iadd, 1), (53, .bipush 48, 2), (55, .isub, 1), (56, .istore_n 3, 1), (57, .aload_n 0, 1), (58, .dup, 1), (59, .getfield 131, 3), (62, .iconst 1, 1), (63, .iadd, 1), (64, .putfield 131, 3), (67, .goto (-48), 3), (70, .aload_n 0, 1), (71, .getfield 131, 3), (74, .iload_n 2, 1), (75, .if_icmp .eq 31, 3), (78, .aload_n 0, 1), (79, .iload_n 2, 1), (80, .invokevirtual 127, 3), (83, .bipush 48, 2), (85, .if_icmp .eq 21, 3), (88, .iload_n 3, 1), (89, .sipush 999, 3), (92, .if_icmp .gt 14, 3), (95, .aload_n 0, 1), (96, .getfield 49, 3), (99, .iconst 1, 1), (100, .iaload, 1), (101, .bipush 48, 2), (103, .if_icmp .ne 9, 3), (106, .aload_n 0, 1), (107, .iload_n 2, 1), (108, .invokevirtual 138, 3), (111, .return_, 1)]
theorem QX10_readWeight_0 : qX10_readWeight_0.all (fun q => decide (decode cX10_readWeight q.1 = .ok q.2)) = true := by decide +kernel
theorem dX10_readWeight_0 : decode cX10_readWeight 0 = .ok (.aload_n 0, 1) := of_q QX10_readWeight_0 0 rfl
theorem dX10_readWeight_1 : decode cX10_readWeight 1 = .ok (.aload_n 0, 1) := of_q QX10_readWeight_0 1 rfl
theorem dX10_readWeight_2 : decode cX10_readWeight 2 = .ok (.aload_n 0, 1) := of_q QX10_readWeight_0 2 rfl
theorem dX10_readWeight_3 : decode cX10_readWeight 3 = .ok (.getfield 131, 3) := of_q QX10_readWeight_0 3 rfl
theorem dX10_readWeight_6 : decode cX10_readWeight 6 = .ok (.invokevirtual 142, 3) := of_q QX10_readWeight_0 4 rfl
theorem dX10_readWeight_9 : decode cX10_readWeight 9 = .ok (.putfield 131, 3) := of_q QX10_readWeight_0 5 rfl
theorem dX10_readWeight_12 : decode cX10_readWeight 12 = .ok (.aload_n 0, 1) := of_q QX10_readWeight_0 6 rfl
theorem dX10_readWeight_13 : decode cX10_readWeight 13 = .ok (.getfield 131, 3) := of_q QX10_readWeight_0 7 rfl
theorem dX10_readWeight_16 : decode cX10_readWeight 16 = .ok (.istore_n 2, 1) := of_q QX10_readWeight_0 8 rfl
theorem dX10_readWeight_17 : decode cX10_readWeight 17 = .ok (.iconst 0, 1) := of_q QX10_readWeight_0 9 rfl
theorem dX10_readWeight_18 : decode cX10_readWeight 18 = .ok (.istore_n 3, 1) := of_q QX10_readWeight_0 10 rfl
theorem dX10_readWeight_19 : decode cX10_readWeight 19 = .ok (.aload_n 0, 1) := of_q QX10_readWeight_0 11 rfl
theorem dX10_readWeight_20 : decode cX10_readWeight 20 = .ok (.aload_n 0, 1) := of_q QX10_readWeight_0 12 rfl
theorem dX10_readWeight_21 : decode cX10_readWeight 21 = .ok (.getfield 131, 3) := of_q QX10_readWeight_0 13 rfl
theorem dX10_readWeight_24 : decode cX10_readWeight 24 = .ok (.invokevirtual 127, 3) := of_q QX10_readWeight_0 14 rfl
theorem dX10_readWeight_27 : decode cX10_readWeight 27 = .ok (.invokestatic 156, 3) := of_q QX10_readWeight_0 15 rfl
theorem dX10_readWeight_30 : decode cX10_readWeight 30 = .ok (.ifCond .eq 40, 3) := of_q QX10_readWeight_0 16 rfl
theorem dX10_readWeight_33 : decode cX10_readWeight 33 = .ok (.iload_n 3, 1) := of_q QX10_readWeight_0 17 rfl
theorem dX10_readWeight_34 : decode cX10_readWeight 34 = .ok (.sipush 1000, 3) := of_q QX10_readWeight_0 18 rfl
theorem dX10_readWeight_37 : decode cX10_readWeight 37 = .ok (.if_icmp .ge 33, 3) := of_q QX10_readWeight_0 19 rfl
theorem dX10_readWeight_40 : decode cX10_readWeight 40 = .ok (.bipush 10, 2) := of_q QX10_readWeight_0 20 rfl
theorem dX10_readWeight_42 : decode cX10_readWeight 42 = .ok (.iload_n 3, 1) := of_q QX10_readWeight_0 21 rfl
theorem dX10_readWeight_43 : decode cX10_readWeight 43 = .ok (.imul, 1) := of_q QX10_readWeight_0 22 rfl
theorem dX10_readWeight_44 : decode cX10_readWeight 44 = .ok (.aload_n 0, 1) := of_q QX10_readWeight_0 23 rfl
theorem dX10_readWeight_45 : decode cX10_readWeight 45 = .ok (.aload_n 0, 1) := of_q QX10_readWeight_0 24 rfl
theorem dX10_readWeight_46 : decode cX10_readWeight 46 = .ok (.getfield 131, 3) := of_q QX10_readWeight_0 25 rfl
theorem dX10_readWeight_49 : decode cX10_readWeight 49 = .ok (.invokevirtual 127, 3) := of_q QX10_readWeight_0 26 rfl
theorem dX10_readWeight_52 : decode cX10_readWeight 52 = .ok (.iadd, 1) := of_q QX10_readWeight_0 27 rfl
theorem dX10_readWeight_53 : decode cX10_readWeight 53 = .ok (.bipush 48, 2) := of_q QX10_readWeight_0 28 rfl
theorem dX10_readWeight_55 : decode cX10_readWeight 55 = .ok (.isub, 1) := of_q QX10_readWeight_0 29 rfl
theorem dX10_readWeight_56 : decode cX10_readWeight 56 = .ok (.istore_n 3, 1) := of_q QX10_readWeight_0 30 rfl
theorem dX10_readWeight_57 : decode cX10_readWeight 57 = .ok (.aload_n 0, 1) := of_q QX10_readWeight_0 31 rfl
theorem dX10_readWeight_58 : decode cX10_readWeight 58 = .ok (.dup, 1) := of_q QX10_readWeight_0 32 rfl
theorem dX10_readWeight_59 : decode cX10_readWeight 59 = .ok (.getfield 131, 3) := of_q QX10_readWeight_0 33 rfl
theorem dX10_readWeight_62 : decode cX10_readWeight 62 = .ok (.iconst 1, 1) := of_q QX10_readWeight_0 34 rfl
theorem dX10_readWeight_63 : decode cX10_readWeight 63 = .ok (.iadd, 1) := of_q QX10_readWeight_0 35 rfl
theorem dX10_readWeight_64 : decode cX10_readWeight 64 = .ok (.putfield 131, 3) := of_q QX10_readWeight_0 36 rfl
theorem dX10_readWeight_67 : decode cX10_readWeight 67 = .ok (.goto (-48), 3) := of_q QX10_readWeight_0 37 rfl
theorem dX10_readWeight_70 : decode cX10_readWeight 70 = .ok (.aload_n 0, 1) := of_q QX10_readWeight_0 38 rfl
theorem dX10_readWeight_71 : decode cX10_readWeight 71 = .ok (.getfield 131, 3) := of_q QX10_readWeight_0 39 rfl
theorem dX10_readWeight_74 : decode cX10_readWeight 74 = .ok (.iload_n 2, 1) := of_q QX10_readWeight_0 40 rfl
theorem dX10_readWeight_75 : decode cX10_readWeight 75 = .ok (.if_icmp .eq 31, 3) := of_q QX10_readWeight_0 41 rfl
theorem dX10_readWeight_78 : decode cX10_readWeight 78 = .ok (.aload_n 0, 1) := of_q QX10_readWeight_0 42 rfl
theorem dX10_readWeight_79 : decode cX10_readWeight 79 = .ok (.iload_n 2, 1) := of_q QX10_readWeight_0 43 rfl
theorem dX10_readWeight_80 : decode cX10_readWeight 80 = .ok (.invokevirtual 127, 3) := of_q QX10_readWeight_0 44 rfl
theorem dX10_readWeight_83 : decode cX10_readWeight 83 = .ok (.bipush 48, 2) := of_q QX10_readWeight_0 45 rfl
theorem dX10_readWeight_85 : decode cX10_readWeight 85 = .ok (.if_icmp .eq 21, 3) := of_q QX10_readWeight_0 46 rfl
theorem dX10_readWeight_88 : decode cX10_readWeight 88 = .ok (.iload_n 3, 1) := of_q QX10_readWeight_0 47 rfl
theorem dX10_readWeight_89 : decode cX10_readWeight 89 = .ok (.sipush 999, 3) := of_q QX10_readWeight_0 48 rfl
theorem dX10_readWeight_92 : decode cX10_readWeight 92 = .ok (.if_icmp .gt 14, 3) := of_q QX10_readWeight_0 49 rfl
theorem dX10_readWeight_95 : decode cX10_readWeight 95 = .ok (.aload_n 0, 1) := of_q QX10_readWeight_0 50 rfl
theorem dX10_readWeight_96 : decode cX10_readWeight 96 = .ok (.getfield 49, 3) := of_q QX10_readWeight_0 51 rfl
theorem dX10_readWeight_99 : decode cX10_readWeight 99 = .ok (.iconst 1, 1) := of_q QX10_readWeight_0 52 rfl
theorem dX10_readWeight_100 : decode cX10_readWeight 100 = .ok (.iaload, 1) := of_q QX10_readWeight_0 53 rfl
theorem dX10_readWeight_101 : decode cX10_readWeight 101 = .ok (.bipush 48, 2) := of_q QX10_readWeight_0 54 rfl
theorem dX10_readWeight_103 : decode cX10_readWeight 103 = .ok (.if_icmp .ne 9, 3) := of_q QX10_readWeight_0 55 rfl
theorem dX10_readWeight_106 : decode cX10_readWeight 106 = .ok (.aload_n 0, 1) := of_q QX10_readWeight_0 56 rfl
theorem dX10_readWeight_107 : decode cX10_readWeight 107 = .ok (.iload_n 2, 1) := of_q QX10_readWeight_0 57 rfl
theorem dX10_readWeight_108 : decode cX10_readWeight 108 = .ok (.invokevirtual 138, 3) := of_q QX10_readWeight_0 58 rfl
theorem dX10_readWeight_111 : decode cX10_readWeight 111 = .ok (.return_, 1) := of_q QX10_readWeight_0 59 rfl
def qX10_readWeight_1 : List (Nat × Instr × Nat) := [(112, .bipush 48, 2), (114, .aload_n 0, 1), (115, .getfield 49, 3), (118, .iconst 1, 1), (119, .iaload, 1), (120, .iadd, 1), (121, .istore 4, 2), (123, .aload_n 0, 1), (124, .getfield 22, 3), (127, .iload 4, 2), (129, .iload_n 3, 1), (130, .iastore, 1), (131, .aload_n 0, 1), (132, .getfield 25, 3), (135, .iload 4, 2), (137, .aload_n 0, 1), (138, .getfield 52, 3), (141, .iconst 1, 1), (142, .iaload, 1), (143, .iastore, 1), (144, .aload_n 0, 1), (145, .getfield 28, 3), (148, .iload 4, 2), (150, .iconst 0, 1), (151, .iastore, 1), (152, .aload_n 0, 1), (153, .getfield 49, 3), (156, .iconst 1, 1), (157, .dup2, 1), (158, .iaload, 1), (159, .iconst 1, 1), (160, .iadd, 1), (161, .iastore, 1), (162, .aload_n 0, 1), (163, .getfield 19, 3), (166, .bipush 26, 2), (168, .iload_n 1, 1), (169, .iadd, 1), (170, .dup2, 1), (171, .iaload, 1), (172, .iconst 1, 1), (173, .iadd, 1), (174, .iastore, 1), (175, .return_, 1)]
theorem QX10_readWeight_1 : qX10_readWeight_1.all (fun q => decide (decode cX10_readWeight q.1 = .ok q.2)) = true := by decide +kernel
theorem dX10_readWeight_112 : decode cX10_readWeight 112 = .ok (.bipush 48, 2) := of_q QX10_readWeight_1 0 rfl
theorem dX10_readWeight_114 : decode cX10_readWeight 114 = .ok (.aload_n 0, 1) := of_q QX10_readWeight_1 1 rfl
theorem dX10_readWeight_115 : decode cX10_readWeight 115 = .ok (.getfield 49, 3) := of_q QX10_readWeight_1 2 rfl
theorem dX10_readWeight_118 : decode cX10_readWeight 118 = .ok (.iconst 1, 1) := of_q QX10_readWeight_1 3 rfl
theorem dX10_readWeight_119 : decode cX10_readWeight 119 = .ok (.iaload, 1) := of_q QX10_readWeight_1 4 rfl
theorem dX10_readWeight_120 : decode cX10_readWeight 120 = .ok (.iadd, 1) := of_q QX10_readWeight_1 5 rfl
theorem dX10_readWeight_121 : decode cX10_readWeight 121 = .ok (.istore 4, 2) := of_q QX10_readWeight_1 6 rfl
theorem dX10_readWeight_123 : decode cX10_readWeight 123 = .ok (.aload_n 0, 1) := of_q QX10_readWeight_1 7 rfl
theorem dX10_readWeight_124 : decode cX10_readWeight 124 = .ok (.getfield 22, 3) := of_q QX10_readWeight_1 8 rfl
theorem dX10_readWeight_127 : decode cX10_readWeight 127 = .ok (.iload 4, 2) := of_q QX10_readWeight_1 9 rfl
theorem dX10_readWeight_129 : decode cX10_readWeight 129 = .ok (.iload_n 3, 1) := of_q QX10_readWeight_1 10 rfl
theorem dX10_readWeight_130 : decode cX10_readWeight 130 = .ok (.iastore, 1) := of_q QX10_readWeight_1 11 rfl
theorem dX10_readWeight_131 : decode cX10_readWeight 131 = .ok (.aload_n 0, 1) := of_q QX10_readWeight_1 12 rfl
theorem dX10_readWeight_132 : decode cX10_readWeight 132 = .ok (.getfield 25, 3) := of_q QX10_readWeight_1 13 rfl
theorem dX10_readWeight_135 : decode cX10_readWeight 135 = .ok (.iload 4, 2) := of_q QX10_readWeight_1 14 rfl
theorem dX10_readWeight_137 : decode cX10_readWeight 137 = .ok (.aload_n 0, 1) := of_q QX10_readWeight_1 15 rfl
theorem dX10_readWeight_138 : decode cX10_readWeight 138 = .ok (.getfield 52, 3) := of_q QX10_readWeight_1 16 rfl
theorem dX10_readWeight_141 : decode cX10_readWeight 141 = .ok (.iconst 1, 1) := of_q QX10_readWeight_1 17 rfl
theorem dX10_readWeight_142 : decode cX10_readWeight 142 = .ok (.iaload, 1) := of_q QX10_readWeight_1 18 rfl
theorem dX10_readWeight_143 : decode cX10_readWeight 143 = .ok (.iastore, 1) := of_q QX10_readWeight_1 19 rfl
theorem dX10_readWeight_144 : decode cX10_readWeight 144 = .ok (.aload_n 0, 1) := of_q QX10_readWeight_1 20 rfl
theorem dX10_readWeight_145 : decode cX10_readWeight 145 = .ok (.getfield 28, 3) := of_q QX10_readWeight_1 21 rfl
theorem dX10_readWeight_148 : decode cX10_readWeight 148 = .ok (.iload 4, 2) := of_q QX10_readWeight_1 22 rfl
theorem dX10_readWeight_150 : decode cX10_readWeight 150 = .ok (.iconst 0, 1) := of_q QX10_readWeight_1 23 rfl
theorem dX10_readWeight_151 : decode cX10_readWeight 151 = .ok (.iastore, 1) := of_q QX10_readWeight_1 24 rfl
theorem dX10_readWeight_152 : decode cX10_readWeight 152 = .ok (.aload_n 0, 1) := of_q QX10_readWeight_1 25 rfl
theorem dX10_readWeight_153 : decode cX10_readWeight 153 = .ok (.getfield 49, 3) := of_q QX10_readWeight_1 26 rfl
theorem dX10_readWeight_156 : decode cX10_readWeight 156 = .ok (.iconst 1, 1) := of_q QX10_readWeight_1 27 rfl
theorem dX10_readWeight_157 : decode cX10_readWeight 157 = .ok (.dup2, 1) := of_q QX10_readWeight_1 28 rfl
theorem dX10_readWeight_158 : decode cX10_readWeight 158 = .ok (.iaload, 1) := of_q QX10_readWeight_1 29 rfl
theorem dX10_readWeight_159 : decode cX10_readWeight 159 = .ok (.iconst 1, 1) := of_q QX10_readWeight_1 30 rfl
theorem dX10_readWeight_160 : decode cX10_readWeight 160 = .ok (.iadd, 1) := of_q QX10_readWeight_1 31 rfl
theorem dX10_readWeight_161 : decode cX10_readWeight 161 = .ok (.iastore, 1) := of_q QX10_readWeight_1 32 rfl
theorem dX10_readWeight_162 : decode cX10_readWeight 162 = .ok (.aload_n 0, 1) := of_q QX10_readWeight_1 33 rfl
theorem dX10_readWeight_163 : decode cX10_readWeight 163 = .ok (.getfield 19, 3) := of_q QX10_readWeight_1 34 rfl
theorem dX10_readWeight_166 : decode cX10_readWeight 166 = .ok (.bipush 26, 2) := of_q QX10_readWeight_1 35 rfl
theorem dX10_readWeight_168 : decode cX10_readWeight 168 = .ok (.iload_n 1, 1) := of_q QX10_readWeight_1 36 rfl
theorem dX10_readWeight_169 : decode cX10_readWeight 169 = .ok (.iadd, 1) := of_q QX10_readWeight_1 37 rfl
theorem dX10_readWeight_170 : decode cX10_readWeight 170 = .ok (.dup2, 1) := of_q QX10_readWeight_1 38 rfl
theorem dX10_readWeight_171 : decode cX10_readWeight 171 = .ok (.iaload, 1) := of_q QX10_readWeight_1 39 rfl
theorem dX10_readWeight_172 : decode cX10_readWeight 172 = .ok (.iconst 1, 1) := of_q QX10_readWeight_1 40 rfl
theorem dX10_readWeight_173 : decode cX10_readWeight 173 = .ok (.iadd, 1) := of_q QX10_readWeight_1 41 rfl
theorem dX10_readWeight_174 : decode cX10_readWeight 174 = .ok (.iastore, 1) := of_q QX10_readWeight_1 42 rfl
theorem dX10_readWeight_175 : decode cX10_readWeight 175 = .ok (.return_, 1) := of_q QX10_readWeight_1 43 rfl
def qX10_readSigns_0 : List (Nat × Instr × Nat) := [(0, .bipush 47, 2), (2, .aload_n 0, 1), (3, .getfield 49, 3), (6, .iconst 1, 1), (7, .iaload, 1), (8, .iadd, 1), (9, .istore_n 1, 1), (10, .aload_n 0, 1), (11, .getfield 124, 3), (14, .ifCond .ge 212, 3), (17, .aload_n 0, 1), (18, .aload_n 0, 1), (19, .aload_n 0, 1), (20, .getfield 131, 3), (23, .invokevirtual 142, 3), (26, .putfield 131, 3), (29, .aload_n 0, 1), (30, .aload_n 0, 1), (31, .getfield 131, 3), (34, .invokevirtual 127, 3), (37, .istore_n 2, 1), (38, .iload_n 2, 1), (39, .iconst (-1), 1), (40, .if_icmp .ne 14, 3), (43, .aload_n 0, 1), (44, .getfield 28, 3), (47, .iload_n 1, 1), (48, .iaload, 1), (49, .ifCond .le 5, 3), (52, .iconst 2, 1), (53, .ireturn, 1), (54, .iload_n 2, 1), (55, .bipush 124, 2), (57, .if_icmp .ne 24, 3), (60, .aload_n 0, 1), (61, .getfield 28, 3), (64, .iload_n 1, 1), (65, .iaload, 1), (66, .ifCond .le 15, 3), (69, .aload_n 0, 1), (70, .dup, 1), (71, .getfield 131, 3), (74, .iconst 1, 1), (75, .iadd, 1), (76, .putfield 131, 3), (79, .iconst 0, 1), (80, .ireturn, 1), (81, .iload_n 2, 1), (82, .invokestatic 145, 3), (85, .istore_n 3, 1), (86, .iload_n 3, 1), (87, .ifCond .eq 33, 3), (90, .aload_n 0, 1), (91, .getfield 28, 3), (94, .iload_n 1, 1), (95, .iaload, 1), (96, .ifCond .le 24, 3), (99, .aload_n 0, 1), (100, .aload_n 0, 1), (101, .aload_n 0, 1)]
theorem QX10_readSigns_0 : qX10_readSigns_0.all (fun q => decide (decode cX10_readSigns q.1 = .ok q.2)) = true := by decide +kernel
theorem dX10_readSigns_0 : decode cX10_readSigns 0 = .ok (.bipush 47, 2) := of_q QX10_readSigns_0 0 rfl
theorem dX10_readSigns_2 : decode cX10_readSigns 2 = .ok (.aload_n 0, 1) := of_q QX10_readSigns_0 1 rfl
theorem dX10_readSigns_3 : decode cX10_readSigns 3 = .ok (.getfield 49, 3) := of_q QX10_readSigns_0 2 rfl
theorem dX10_readSigns_6 : decode cX10_readSigns 6 = .ok (.iconst 1, 1) := of_q QX10_readSigns_0 3 rfl
theorem dX10_readSigns_7 : decode cX10_readSigns 7 = .ok (.iaload, 1) := of_q QX10_readSigns_0 4 rfl
theorem dX10_readSigns_8 : decode cX10_readSigns 8 = .ok (.iadd, 1) := of_q QX10_readSigns_0 5 rfl
theorem dX10_readSigns_9 : decode cX10_readSigns 9 = .ok (.istore_n 1, 1) := of_q QX10_readSigns_0 6 rfl
theorem dX10_readSigns_10 : decode cX10_readSigns 10 = .ok (.aload_n 0, 1) := of_q QX10_readSigns_0 7 rfl
theorem dX10_readSigns_11 : decode cX10_readSigns 11 = .ok (.getfield 124, 3) := of_q QX10_readSigns_0 8 rfl
theorem dX10_readSigns_14 : decode cX10_readSigns 14 = .ok (.ifCond .ge 212, 3) := of_q QX10_readSigns_0 9 rfl
theorem dX10_readSigns_17 : decode cX10_readSigns 17 = .ok (.aload_n 0, 1) := of_q QX10_readSigns_0 10 rfl
theorem dX10_readSigns_18 : decode cX10_readSigns 18 = .ok (.aload_n 0, 1) := of_q QX10_readSigns_0 11 rfl
theorem dX10_readSigns_19 : decode cX10_readSigns 19 = .ok (.aload_n 0, 1) := of_q QX10_readSigns_0 12 rfl
theorem dX10_readSigns_20 : decode cX10_readSigns 20 = .ok (.getfield 131, 3) := of_q QX10_readSigns_0 13 rfl
theorem dX10_readSigns_23 : decode cX10_readSigns 23 = .ok (.invokevirtual 142, 3) := of_q QX10_readSigns_0 14 rfl
theorem dX10_readSigns_26 : decode cX10_readSigns 26 = .ok (.putfield 131, 3) := of_q QX10_readSigns_0 15 rfl
theorem dX10_readSigns_29 : decode cX10_readSigns 29 = .ok (.aload_n 0, 1) := of_q QX10_readSigns_0 16 rfl
theorem dX10_readSigns_30 : decode cX10_readSigns 30 = .ok (.aload_n 0, 1) := of_q QX10_readSigns_0 17 rfl
theorem dX10_readSigns_31 : decode cX10_readSigns 31 = .ok (.getfield 131, 3) := of_q QX10_readSigns_0 18 rfl
theorem dX10_readSigns_34 : decode cX10_readSigns 34 = .ok (.invokevirtual 127, 3) := of_q QX10_readSigns_0 19 rfl
theorem dX10_readSigns_37 : decode cX10_readSigns 37 = .ok (.istore_n 2, 1) := of_q QX10_readSigns_0 20 rfl
theorem dX10_readSigns_38 : decode cX10_readSigns 38 = .ok (.iload_n 2, 1) := of_q QX10_readSigns_0 21 rfl
theorem dX10_readSigns_39 : decode cX10_readSigns 39 = .ok (.iconst (-1), 1) := of_q QX10_readSigns_0 22 rfl
theorem dX10_readSigns_40 : decode cX10_readSigns 40 = .ok (.if_icmp .ne 14, 3) := of_q QX10_readSigns_0 23 rfl
theorem dX10_readSigns_43 : decode cX10_readSigns 43 = .ok (.aload_n 0, 1) := of_q QX10_readSigns_0 24 rfl
theorem dX10_readSigns_44 : decode cX10_readSigns 44 = .ok (.getfield 28, 3) := of_q QX10_readSigns_0 25 rfl
theorem dX10_readSigns_47 : decode cX10_readSigns 47 = .ok (.iload_n 1, 1) := of_q QX10_readSigns_0 26 rfl
theorem dX10_readSigns_48 : decode cX10_readSigns 48 = .ok (.iaload, 1) := of_q QX10_readSigns_0 27 rfl
theorem dX10_readSigns_49 : decode cX10_readSigns 49 = .ok (.ifCond .le 5, 3) := of_q QX10_readSigns_0 28 rfl
theorem dX10_readSigns_52 : decode cX10_readSigns 52 = .ok (.iconst 2, 1) := of_q QX10_readSigns_0 29 rfl
theorem dX10_readSigns_53 : decode cX10_readSigns 53 = .ok (.ireturn, 1) := of_q QX10_readSigns_0 30 rfl
theorem dX10_readSigns_54 : decode cX10_readSigns 54 = .ok (.iload_n 2, 1) := of_q QX10_readSigns_0 31 rfl
theorem dX10_readSigns_55 : decode cX10_readSigns 55 = .ok (.bipush 124, 2) := of_q QX10_readSigns_0 32 rfl
theorem dX10_readSigns_57 : decode cX10_readSigns 57 = .ok (.if_icmp .ne 24, 3) := of_q QX10_readSigns_0 33 rfl
theorem dX10_readSigns_60 : decode cX10_readSigns 60 = .ok (.aload_n 0, 1) := of_q QX10_readSigns_0 34 rfl
theorem dX10_readSigns_61 : decode cX10_readSigns 61 = .ok (.getfield 28, 3) := of_q QX10_readSigns_0 35 rfl
theorem dX10_readSigns_64 : decode cX10_readSigns 64 = .ok (.iload_n 1, 1) := of_q QX10_readSigns_0 36 rfl
theorem dX10_readSigns_65 : decode cX10_readSigns 65 = .ok (.iaload, 1) := of_q QX10_readSigns_0 37 rfl
theorem dX10_readSigns_66 : decode cX10_readSigns 66 = .ok (.ifCond .le 15, 3) := of_q QX10_readSigns_0 38 rfl
theorem dX10_readSigns_69 : decode cX10_readSigns 69 = .ok (.aload_n 0, 1) := of_q QX10_readSigns_0 39 rfl
theorem dX10_readSigns_70 : decode cX10_readSigns 70 = .ok (.dup, 1) := of_q QX10_readSigns_0 40 rfl
theorem dX10_readSigns_71 : decode cX10_readSigns 71 = .ok (.getfield 131, 3) := of_q QX10_readSigns_0 41 rfl
theorem dX10_readSigns_74 : decode cX10_readSigns 74 = .ok (.iconst 1, 1) := of_q QX10_readSigns_0 42 rfl
theorem dX10_readSigns_75 : decode cX10_readSigns 75 = .ok (.iadd, 1) := of_q QX10_readSigns_0 43 rfl
theorem dX10_readSigns_76 : decode cX10_readSigns 76 = .ok (.putfield 131, 3) := of_q QX10_readSigns_0 44 rfl
theorem dX10_readSigns_79 : decode cX10_readSigns 79 = .ok (.iconst 0, 1) := of_q QX10_readSigns_0 45 rfl
theorem dX10_readSigns_80 : decode cX10_readSigns 80 = .ok (.ireturn, 1) := of_q QX10_readSigns_0 46 rfl
theorem dX10_readSigns_81 : decode cX10_readSigns 81 = .ok (.iload_n 2, 1) := of_q QX10_readSigns_0 47 rfl
theorem dX10_readSigns_82 : decode cX10_readSigns 82 = .ok (.invokestatic 145, 3) := of_q QX10_readSigns_0 48 rfl
theorem dX10_readSigns_85 : decode cX10_readSigns 85 = .ok (.istore_n 3, 1) := of_q QX10_readSigns_0 49 rfl
theorem dX10_readSigns_86 : decode cX10_readSigns 86 = .ok (.iload_n 3, 1) := of_q QX10_readSigns_0 50 rfl
theorem dX10_readSigns_87 : decode cX10_readSigns 87 = .ok (.ifCond .eq 33, 3) := of_q QX10_readSigns_0 51 rfl
theorem dX10_readSigns_90 : decode cX10_readSigns 90 = .ok (.aload_n 0, 1) := of_q QX10_readSigns_0 52 rfl
theorem dX10_readSigns_91 : decode cX10_readSigns 91 = .ok (.getfield 28, 3) := of_q QX10_readSigns_0 53 rfl
theorem dX10_readSigns_94 : decode cX10_readSigns 94 = .ok (.iload_n 1, 1) := of_q QX10_readSigns_0 54 rfl
theorem dX10_readSigns_95 : decode cX10_readSigns 95 = .ok (.iaload, 1) := of_q QX10_readSigns_0 55 rfl
theorem dX10_readSigns_96 : decode cX10_readSigns 96 = .ok (.ifCond .le 24, 3) := of_q QX10_readSigns_0 56 rfl
theorem dX10_readSigns_99 : decode cX10_readSigns 99 = .ok (.aload_n 0, 1) := of_q QX10_readSigns_0 57 rfl
theorem dX10_readSigns_100 : decode cX10_readSigns 100 = .ok (.aload_n 0, 1) := of_q QX10_readSigns_0 58 rfl
theorem dX10_readSigns_101 : decode cX10_readSigns 101 = .ok (.aload_n 0, 1) := of_q QX10_readSigns_0 59 rfl
def qX10_readSigns_1 : List (Nat × Instr × Nat) := [(102, .getfield 131, 3), (105, .iconst 1, 1), (106, .iadd, 1), (107, .invokevirtual 142, 3), (110, .invokevirtual 127, 3), (113, .bipush 61, 2), (115, .if_icmp .ne 5, 3), (118, .iconst 1, 1), (119, .ireturn, 1), (120, .iload_n 3, 1), (121, .ifCond .ne 21, 3), (124, .iload_n 2, 1), (125, .bipush 48, 2), (127, .if_icmp .lt 9, 3), (130, .iload_n 2, 1), (131, .bipush 54, 2), (133, .if_icmp .le 9, 3), (136, .iload_n 2, 1), (137, .bipush 114, 2), (139, .if_icmp .ne 7, 3), (142, .iconst 1, 1), (143, .goto 4, 3), (146, .iconst 0, 1), (147, .istore 4, 2), (149, .iload 4, 2), (151, .ifCond .eq 26, 3), (154, .aload_n 0, 1), (155, .getfield 28, 3), (158, .iload_n 1, 1), (159, .iaload, 1), (160, .bipush 12, 2), (162, .if_icmp .eq 15, 3), (165, .aload_n 0, 1), (166, .getfield 52, 3), (169, .iconst 1, 1), (170, .iaload, 1), (171, .sipush 240, 3), (174, .if_icmp .ne 14, 3), (177, .aload_n 0, 1), (178, .aload_n 0, 1), (179, .getfield 131, 3), (182, .invokevirtual 138, 3), (185, .goto 38, 3), (188, .aload_n 0, 1), (189, .sipush 241, 3), (192, .aload_n 0, 1), (193, .getfield 52, 3), (196, .iconst 1, 1), (197, .iaload, 1), (198, .iadd, 1), (199, .iload_n 2, 1), (200, .invokevirtual 159, 3), (203, .aload_n 0, 1), (204, .getfield 28, 3), (207, .iload_n 1, 1), (208, .dup2, 1), (209, .iaload, 1), (210, .iconst 1, 1), (211, .iadd, 1), (212, .iastore, 1)]
theorem QX10_readSigns_1 : qX10_readSigns_1.all (fun q => decide (decode cX10_readSigns q.1 = .ok q.2)) = true := by decide +kernel
theorem dX10_readSigns_102 : decode cX10_readSigns 102 = .ok (.getfield 131, 3) := of_q QX10_readSigns_1 0 rfl
theorem dX10_readSigns_105 : decode cX10_readSigns 105 = .ok (.iconst 1, 1) := of_q QX10_readSigns_1 1 rfl
theorem dX10_readSigns_106 : decode cX10_readSigns 106 = .ok (.iadd, 1) := of_q QX10_readSigns_1 2 rfl
theorem dX10_readSigns_107 : decode cX10_readSigns 107 = .ok (.invokevirtual 142, 3) := of_q QX10_readSigns_1 3 rfl
theorem dX10_readSigns_110 : decode cX10_readSigns 110 = .ok (.invokevirtual 127, 3) := of_q QX10_readSigns_1 4 rfl
theorem dX10_readSigns_113 : decode cX10_readSigns 113 = .ok (.bipush 61, 2) := of_q QX10_readSigns_1 5 rfl
theorem dX10_readSigns_115 : decode cX10_readSigns 115 = .ok (.if_icmp .ne 5, 3) := of_q QX10_readSigns_1 6 rfl
theorem dX10_readSigns_118 : decode cX10_readSigns 118 = .ok (.iconst 1, 1) := of_q QX10_readSigns_1 7 rfl
theorem dX10_readSigns_119 : decode cX10_readSigns 119 = .ok (.ireturn, 1) := of_q QX10_readSigns_1 8 rfl
theorem dX10_readSigns_120 : decode cX10_readSigns 120 = .ok (.iload_n 3, 1) := of_q QX10_readSigns_1 9 rfl
theorem dX10_readSigns_121 : decode cX10_readSigns 121 = .ok (.ifCond .ne 21, 3) := of_q QX10_readSigns_1 10 rfl
theorem dX10_readSigns_124 : decode cX10_readSigns 124 = .ok (.iload_n 2, 1) := of_q QX10_readSigns_1 11 rfl
theorem dX10_readSigns_125 : decode cX10_readSigns 125 = .ok (.bipush 48, 2) := of_q QX10_readSigns_1 12 rfl
theorem dX10_readSigns_127 : decode cX10_readSigns 127 = .ok (.if_icmp .lt 9, 3) := of_q QX10_readSigns_1 13 rfl
theorem dX10_readSigns_130 : decode cX10_readSigns 130 = .ok (.iload_n 2, 1) := of_q QX10_readSigns_1 14 rfl
theorem dX10_readSigns_131 : decode cX10_readSigns 131 = .ok (.bipush 54, 2) := of_q QX10_readSigns_1 15 rfl
theorem dX10_readSigns_133 : decode cX10_readSigns 133 = .ok (.if_icmp .le 9, 3) := of_q QX10_readSigns_1 16 rfl
theorem dX10_readSigns_136 : decode cX10_readSigns 136 = .ok (.iload_n 2, 1) := of_q QX10_readSigns_1 17 rfl
theorem dX10_readSigns_137 : decode cX10_readSigns 137 = .ok (.bipush 114, 2) := of_q QX10_readSigns_1 18 rfl
theorem dX10_readSigns_139 : decode cX10_readSigns 139 = .ok (.if_icmp .ne 7, 3) := of_q QX10_readSigns_1 19 rfl
theorem dX10_readSigns_142 : decode cX10_readSigns 142 = .ok (.iconst 1, 1) := of_q QX10_readSigns_1 20 rfl
theorem dX10_readSigns_143 : decode cX10_readSigns 143 = .ok (.goto 4, 3) := of_q QX10_readSigns_1 21 rfl
theorem dX10_readSigns_146 : decode cX10_readSigns 146 = .ok (.iconst 0, 1) := of_q QX10_readSigns_1 22 rfl
theorem dX10_readSigns_147 : decode cX10_readSigns 147 = .ok (.istore 4, 2) := of_q QX10_readSigns_1 23 rfl
theorem dX10_readSigns_149 : decode cX10_readSigns 149 = .ok (.iload 4, 2) := of_q QX10_readSigns_1 24 rfl
theorem dX10_readSigns_151 : decode cX10_readSigns 151 = .ok (.ifCond .eq 26, 3) := of_q QX10_readSigns_1 25 rfl
theorem dX10_readSigns_154 : decode cX10_readSigns 154 = .ok (.aload_n 0, 1) := of_q QX10_readSigns_1 26 rfl
theorem dX10_readSigns_155 : decode cX10_readSigns 155 = .ok (.getfield 28, 3) := of_q QX10_readSigns_1 27 rfl
theorem dX10_readSigns_158 : decode cX10_readSigns 158 = .ok (.iload_n 1, 1) := of_q QX10_readSigns_1 28 rfl
theorem dX10_readSigns_159 : decode cX10_readSigns 159 = .ok (.iaload, 1) := of_q QX10_readSigns_1 29 rfl
theorem dX10_readSigns_160 : decode cX10_readSigns 160 = .ok (.bipush 12, 2) := of_q QX10_readSigns_1 30 rfl
theorem dX10_readSigns_162 : decode cX10_readSigns 162 = .ok (.if_icmp .eq 15, 3) := of_q QX10_readSigns_1 31 rfl
theorem dX10_readSigns_165 : decode cX10_readSigns 165 = .ok (.aload_n 0, 1) := of_q QX10_readSigns_1 32 rfl
theorem dX10_readSigns_166 : decode cX10_readSigns 166 = .ok (.getfield 52, 3) := of_q QX10_readSigns_1 33 rfl
theorem dX10_readSigns_169 : decode cX10_readSigns 169 = .ok (.iconst 1, 1) := of_q QX10_readSigns_1 34 rfl
theorem dX10_readSigns_170 : decode cX10_readSigns 170 = .ok (.iaload, 1) := of_q QX10_readSigns_1 35 rfl
theorem dX10_readSigns_171 : decode cX10_readSigns 171 = .ok (.sipush 240, 3) := of_q QX10_readSigns_1 36 rfl
theorem dX10_readSigns_174 : decode cX10_readSigns 174 = .ok (.if_icmp .ne 14, 3) := of_q QX10_readSigns_1 37 rfl
theorem dX10_readSigns_177 : decode cX10_readSigns 177 = .ok (.aload_n 0, 1) := of_q QX10_readSigns_1 38 rfl
theorem dX10_readSigns_178 : decode cX10_readSigns 178 = .ok (.aload_n 0, 1) := of_q QX10_readSigns_1 39 rfl
theorem dX10_readSigns_179 : decode cX10_readSigns 179 = .ok (.getfield 131, 3) := of_q QX10_readSigns_1 40 rfl
theorem dX10_readSigns_182 : decode cX10_readSigns 182 = .ok (.invokevirtual 138, 3) := of_q QX10_readSigns_1 41 rfl
theorem dX10_readSigns_185 : decode cX10_readSigns 185 = .ok (.goto 38, 3) := of_q QX10_readSigns_1 42 rfl
theorem dX10_readSigns_188 : decode cX10_readSigns 188 = .ok (.aload_n 0, 1) := of_q QX10_readSigns_1 43 rfl
theorem dX10_readSigns_189 : decode cX10_readSigns 189 = .ok (.sipush 241, 3) := of_q QX10_readSigns_1 44 rfl
theorem dX10_readSigns_192 : decode cX10_readSigns 192 = .ok (.aload_n 0, 1) := of_q QX10_readSigns_1 45 rfl
theorem dX10_readSigns_193 : decode cX10_readSigns 193 = .ok (.getfield 52, 3) := of_q QX10_readSigns_1 46 rfl
theorem dX10_readSigns_196 : decode cX10_readSigns 196 = .ok (.iconst 1, 1) := of_q QX10_readSigns_1 47 rfl
theorem dX10_readSigns_197 : decode cX10_readSigns 197 = .ok (.iaload, 1) := of_q QX10_readSigns_1 48 rfl
theorem dX10_readSigns_198 : decode cX10_readSigns 198 = .ok (.iadd, 1) := of_q QX10_readSigns_1 49 rfl
theorem dX10_readSigns_199 : decode cX10_readSigns 199 = .ok (.iload_n 2, 1) := of_q QX10_readSigns_1 50 rfl
theorem dX10_readSigns_200 : decode cX10_readSigns 200 = .ok (.invokevirtual 159, 3) := of_q QX10_readSigns_1 51 rfl
theorem dX10_readSigns_203 : decode cX10_readSigns 203 = .ok (.aload_n 0, 1) := of_q QX10_readSigns_1 52 rfl
theorem dX10_readSigns_204 : decode cX10_readSigns 204 = .ok (.getfield 28, 3) := of_q QX10_readSigns_1 53 rfl
theorem dX10_readSigns_207 : decode cX10_readSigns 207 = .ok (.iload_n 1, 1) := of_q QX10_readSigns_1 54 rfl
theorem dX10_readSigns_208 : decode cX10_readSigns 208 = .ok (.dup2, 1) := of_q QX10_readSigns_1 55 rfl
theorem dX10_readSigns_209 : decode cX10_readSigns 209 = .ok (.iaload, 1) := of_q QX10_readSigns_1 56 rfl
theorem dX10_readSigns_210 : decode cX10_readSigns 210 = .ok (.iconst 1, 1) := of_q QX10_readSigns_1 57 rfl
theorem dX10_readSigns_211 : decode cX10_readSigns 211 = .ok (.iadd, 1) := of_q QX10_readSigns_1 58 rfl
theorem dX10_readSigns_212 : decode cX10_readSigns 212 = .ok (.iastore, 1) := of_q QX10_readSigns_1 59 rfl
def qX10_readSigns_2 : List (Nat × Instr × Nat) := [(213, .aload_n 0, 1), (214, .getfield 52, 3), (217, .iconst 1, 1), (218, .dup2, 1), (219, .iaload, 1), (220, .iconst 1, 1), (221, .iadd, 1), (222, .iastore, 1), (223, .goto (-213), 3), (226, .iconst 2, 1), (227, .ireturn, 1)]
theorem QX10_readSigns_2 : qX10_readSigns_2.all (fun q => decide (decode cX10_readSigns q.1 = .ok q.2)) = true := by decide +kernel
theorem dX10_readSigns_213 : decode cX10_readSigns 213 = .ok (.aload_n 0, 1) := of_q QX10_readSigns_2 0 rfl
theorem dX10_readSigns_214 : decode cX10_readSigns 214 = .ok (.getfield 52, 3) := of_q QX10_readSigns_2 1 rfl
theorem dX10_readSigns_217 : decode cX10_readSigns 217 = .ok (.iconst 1, 1) := of_q QX10_readSigns_2 2 rfl
theorem dX10_readSigns_218 : decode cX10_readSigns 218 = .ok (.dup2, 1) := of_q QX10_readSigns_2 3 rfl
theorem dX10_readSigns_219 : decode cX10_readSigns 219 = .ok (.iaload, 1) := of_q QX10_readSigns_2 4 rfl
theorem dX10_readSigns_220 : decode cX10_readSigns 220 = .ok (.iconst 1, 1) := of_q QX10_readSigns_2 5 rfl
theorem dX10_readSigns_221 : decode cX10_readSigns 221 = .ok (.iadd, 1) := of_q QX10_readSigns_2 6 rfl
theorem dX10_readSigns_222 : decode cX10_readSigns 222 = .ok (.iastore, 1) := of_q QX10_readSigns_2 7 rfl
theorem dX10_readSigns_223 : decode cX10_readSigns 223 = .ok (.goto (-213), 3) := of_q QX10_readSigns_2 8 rfl
theorem dX10_readSigns_226 : decode cX10_readSigns 226 = .ok (.iconst 2, 1) := of_q QX10_readSigns_2 9 rfl
theorem dX10_readSigns_227 : decode cX10_readSigns 227 = .ok (.ireturn, 1) := of_q QX10_readSigns_2 10 rfl
def qX10_readSign_0 : List (Nat × Instr × Nat) := [(0, .aload_n 0, 1), (1, .getfield 43, 3), (4, .iload_n 1, 1), (5, .aload_n 0, 1), (6, .getfield 131, 3), (9, .iastore, 1), (10, .aload_n 0, 1), (11, .getfield 37, 3), (14, .iload_n 1, 1), (15, .iconst 0, 1), (16, .iastore, 1), (17, .aload_n 0, 1), (18, .getfield 40, 3), (21, .iload_n 1, 1), (22, .iconst 4, 1), (23, .iastore, 1), (24, .aload_n 0, 1), (25, .dup, 1), (26, .getfield 131, 3), (29, .iconst 1, 1), (30, .iadd, 1), (31, .putfield 131, 3), (34, .iload_n 2, 1), (35, .invokestatic 145, 3), (38, .ifCond .eq 21, 3), (41, .aload_n 0, 1), (42, .getfield 31, 3), (45, .iload_n 1, 1), (46, .iconst 0, 1), (47, .iastore, 1), (48, .aload_n 0, 1), (49, .getfield 34, 3), (52, .iload_n 1, 1), (53, .iload_n 2, 1), (54, .bipush 65, 2), (56, .isub, 1), (57, .iastore, 1), (58, .return_, 1), (59, .aload_n 0, 1), (60, .getfield 31, 3), (63, .iload_n 1, 1), (64, .iload_n 2, 1), (65, .bipush 114, 2), (67, .if_icmp .ne 7, 3), (70, .iconst 2, 1), (71, .goto 4, 3), (74, .iconst 1, 1), (75, .iastore, 1), (76, .aload_n 0, 1), (77, .getfield 34, 3), (80, .iload_n 1, 1), (81, .iload_n 2, 1), (82, .bipush 48, 2), (84, .isub, 1), (85, .iastore, 1), (86, .iload_n 2, 1), (87, .bipush 114, 2), (89, .if_icmp .eq 81, 3), (92, .aload_n 0, 1), (93, .aload_n 0, 1)]
theorem QX10_readSign_0 : qX10_readSign_0.all (fun q => decide (decode cX10_readSign q.1 = .ok q.2)) = true := by decide +kernel
theorem dX10_readSign_0 : decode cX10_readSign 0 = .ok (.aload_n 0, 1) := of_q QX10_readSign_0 0 rfl
theorem dX10_readSign_1 : decode cX10_readSign 1 = .ok (.getfield 43, 3) := of_q QX10_readSign_0 1 rfl
theorem dX10_readSign_4 : decode cX10_readSign 4 = .ok (.iload_n 1, 1) := of_q QX10_readSign_0 2 rfl
theorem dX10_readSign_5 : decode cX10_readSign 5 = .ok (.aload_n 0, 1) := of_q QX10_readSign_0 3 rfl
theorem dX10_readSign_6 : decode cX10_readSign 6 = .ok (.getfield 131, 3) := of_q QX10_readSign_0 4 rfl
theorem dX10_readSign_9 : decode cX10_readSign 9 = .ok (.iastore, 1) := of_q QX10_readSign_0 5 rfl
theorem dX10_readSign_10 : decode cX10_readSign 10 = .ok (.aload_n 0, 1) := of_q QX10_readSign_0 6 rfl
theorem dX10_readSign_11 : decode cX10_readSign 11 = .ok (.getfield 37, 3) := of_q QX10_readSign_0 7 rfl
theorem dX10_readSign_14 : decode cX10_readSign 14 = .ok (.iload_n 1, 1) := of_q QX10_readSign_0 8 rfl
theorem dX10_readSign_15 : decode cX10_readSign 15 = .ok (.iconst 0, 1) := of_q QX10_readSign_0 9 rfl
theorem dX10_readSign_16 : decode cX10_readSign 16 = .ok (.iastore, 1) := of_q QX10_readSign_0 10 rfl
theorem dX10_readSign_17 : decode cX10_readSign 17 = .ok (.aload_n 0, 1) := of_q QX10_readSign_0 11 rfl
theorem dX10_readSign_18 : decode cX10_readSign 18 = .ok (.getfield 40, 3) := of_q QX10_readSign_0 12 rfl
theorem dX10_readSign_21 : decode cX10_readSign 21 = .ok (.iload_n 1, 1) := of_q QX10_readSign_0 13 rfl
theorem dX10_readSign_22 : decode cX10_readSign 22 = .ok (.iconst 4, 1) := of_q QX10_readSign_0 14 rfl
theorem dX10_readSign_23 : decode cX10_readSign 23 = .ok (.iastore, 1) := of_q QX10_readSign_0 15 rfl
theorem dX10_readSign_24 : decode cX10_readSign 24 = .ok (.aload_n 0, 1) := of_q QX10_readSign_0 16 rfl
theorem dX10_readSign_25 : decode cX10_readSign 25 = .ok (.dup, 1) := of_q QX10_readSign_0 17 rfl
theorem dX10_readSign_26 : decode cX10_readSign 26 = .ok (.getfield 131, 3) := of_q QX10_readSign_0 18 rfl
theorem dX10_readSign_29 : decode cX10_readSign 29 = .ok (.iconst 1, 1) := of_q QX10_readSign_0 19 rfl
theorem dX10_readSign_30 : decode cX10_readSign 30 = .ok (.iadd, 1) := of_q QX10_readSign_0 20 rfl
theorem dX10_readSign_31 : decode cX10_readSign 31 = .ok (.putfield 131, 3) := of_q QX10_readSign_0 21 rfl
theorem dX10_readSign_34 : decode cX10_readSign 34 = .ok (.iload_n 2, 1) := of_q QX10_readSign_0 22 rfl
theorem dX10_readSign_35 : decode cX10_readSign 35 = .ok (.invokestatic 145, 3) := of_q QX10_readSign_0 23 rfl
theorem dX10_readSign_38 : decode cX10_readSign 38 = .ok (.ifCond .eq 21, 3) := of_q QX10_readSign_0 24 rfl
theorem dX10_readSign_41 : decode cX10_readSign 41 = .ok (.aload_n 0, 1) := of_q QX10_readSign_0 25 rfl
theorem dX10_readSign_42 : decode cX10_readSign 42 = .ok (.getfield 31, 3) := of_q QX10_readSign_0 26 rfl
theorem dX10_readSign_45 : decode cX10_readSign 45 = .ok (.iload_n 1, 1) := of_q QX10_readSign_0 27 rfl
theorem dX10_readSign_46 : decode cX10_readSign 46 = .ok (.iconst 0, 1) := of_q QX10_readSign_0 28 rfl
theorem dX10_readSign_47 : decode cX10_readSign 47 = .ok (.iastore, 1) := of_q QX10_readSign_0 29 rfl
theorem dX10_readSign_48 : decode cX10_readSign 48 = .ok (.aload_n 0, 1) := of_q QX10_readSign_0 30 rfl
theorem dX10_readSign_49 : decode cX10_readSign 49 = .ok (.getfield 34, 3) := of_q QX10_readSign_0 31 rfl
theorem dX10_readSign_52 : decode cX10_readSign 52 = .ok (.iload_n 1, 1) := of_q QX10_readSign_0 32 rfl
theorem dX10_readSign_53 : decode cX10_readSign 53 = .ok (.iload_n 2, 1) := of_q QX10_readSign_0 33 rfl
theorem dX10_readSign_54 : decode cX10_readSign 54 = .ok (.bipush 65, 2) := of_q QX10_readSign_0 34 rfl
theorem dX10_readSign_56 : decode cX10_readSign 56 = .ok (.isub, 1) := of_q QX10_readSign_0 35 rfl
theorem dX10_readSign_57 : decode cX10_readSign 57 = .ok (.iastore, 1) := of_q QX10_readSign_0 36 rfl
theorem dX10_readSign_58 : decode cX10_readSign 58 = .ok (.return_, 1) := of_q QX10_readSign_0 37 rfl
theorem dX10_readSign_59 : decode cX10_readSign 59 = .ok (.aload_n 0, 1) := of_q QX10_readSign_0 38 rfl
theorem dX10_readSign_60 : decode cX10_readSign 60 = .ok (.getfield 31, 3) := of_q QX10_readSign_0 39 rfl
theorem dX10_readSign_63 : decode cX10_readSign 63 = .ok (.iload_n 1, 1) := of_q QX10_readSign_0 40 rfl
theorem dX10_readSign_64 : decode cX10_readSign 64 = .ok (.iload_n 2, 1) := of_q QX10_readSign_0 41 rfl
theorem dX10_readSign_65 : decode cX10_readSign 65 = .ok (.bipush 114, 2) := of_q QX10_readSign_0 42 rfl
theorem dX10_readSign_67 : decode cX10_readSign 67 = .ok (.if_icmp .ne 7, 3) := of_q QX10_readSign_0 43 rfl
theorem dX10_readSign_70 : decode cX10_readSign 70 = .ok (.iconst 2, 1) := of_q QX10_readSign_0 44 rfl
theorem dX10_readSign_71 : decode cX10_readSign 71 = .ok (.goto 4, 3) := of_q QX10_readSign_0 45 rfl
theorem dX10_readSign_74 : decode cX10_readSign 74 = .ok (.iconst 1, 1) := of_q QX10_readSign_0 46 rfl
theorem dX10_readSign_75 : decode cX10_readSign 75 = .ok (.iastore, 1) := of_q QX10_readSign_0 47 rfl
theorem dX10_readSign_76 : decode cX10_readSign 76 = .ok (.aload_n 0, 1) := of_q QX10_readSign_0 48 rfl
theorem dX10_readSign_77 : decode cX10_readSign 77 = .ok (.getfield 34, 3) := of_q QX10_readSign_0 49 rfl
theorem dX10_readSign_80 : decode cX10_readSign 80 = .ok (.iload_n 1, 1) := of_q QX10_readSign_0 50 rfl
theorem dX10_readSign_81 : decode cX10_readSign 81 = .ok (.iload_n 2, 1) := of_q QX10_readSign_0 51 rfl
theorem dX10_readSign_82 : decode cX10_readSign 82 = .ok (.bipush 48, 2) := of_q QX10_readSign_0 52 rfl
theorem dX10_readSign_84 : decode cX10_readSign 84 = .ok (.isub, 1) := of_q QX10_readSign_0 53 rfl
theorem dX10_readSign_85 : decode cX10_readSign 85 = .ok (.iastore, 1) := of_q QX10_readSign_0 54 rfl
theorem dX10_readSign_86 : decode cX10_readSign 86 = .ok (.iload_n 2, 1) := of_q QX10_readSign_0 55 rfl
theorem dX10_readSign_87 : decode cX10_readSign 87 = .ok (.bipush 114, 2) := of_q QX10_readSign_0 56 rfl
theorem dX10_readSign_89 : decode cX10_readSign 89 = .ok (.if_icmp .eq 81, 3) := of_q QX10_readSign_0 57 rfl
theorem dX10_readSign_92 : decode cX10_readSign 92 = .ok (.aload_n 0, 1) := of_q QX10_readSign_0 58 rfl
theorem dX10_readSign_93 : decode cX10_readSign 93 = .ok (.aload_n 0, 1) := of_q QX10_readSign_0 59 rfl
def qX10_readSign_1 : List (Nat × Instr × Nat) := [(94, .getfield 131, 3), (97, .invokevirtual 127, 3), (100, .istore_n 3, 1), (101, .iconst 0, 1), (102, .istore 4, 2), (104, .iload_n 3, 1), (105, .bipush 39, 2), (107, .if_icmp .eq 9, 3), (110, .iload_n 3, 1), (111, .bipush 44, 2), (113, .if_icmp .ne 37, 3), (116, .aload_n 0, 1), (117, .aload_n 0, 1), (118, .getfield 131, 3), (121, .invokevirtual 127, 3), (124, .iload_n 3, 1), (125, .if_icmp .ne 25, 3), (128, .iload 4, 2), (130, .iconst 2, 1), (131, .if_icmp .ge 19, 3), (134, .iinc 4 1, 3), (137, .aload_n 0, 1), (138, .dup, 1), (139, .getfield 131, 3), (142, .iconst 1, 1), (143, .iadd, 1), (144, .putfield 131, 3), (147, .goto (-43), 3), (150, .aload_n 0, 1), (151, .getfield 37, 3), (154, .iload_n 1, 1), (155, .iload_n 3, 1), (156, .bipush 44, 2), (158, .if_icmp .ne 9, 3), (161, .iload 4, 2), (163, .ineg, 1), (164, .goto 5, 3), (167, .iload 4, 2), (169, .iastore, 1), (170, .aload_n 0, 1), (171, .aload_n 0, 1), (172, .getfield 131, 3), (175, .invokevirtual 127, 3), (178, .bipush 58, 2), (180, .if_icmp .ne 18, 3), (183, .aload_n 0, 1), (184, .dup, 1), (185, .getfield 131, 3), (188, .iconst 1, 1), (189, .iadd, 1), (190, .putfield 131, 3), (193, .aload_n 0, 1), (194, .iload_n 1, 1), (195, .invokevirtual 163, 3), (198, .return_, 1)]
theorem QX10_readSign_1 : qX10_readSign_1.all (fun q => decide (decode cX10_readSign q.1 = .ok q.2)) = true := by decide +kernel
theorem dX10_readSign_94 : decode cX10_readSign 94 = .ok (.getfield 131, 3) := of_q QX10_readSign_1 0 rfl
theorem dX10_readSign_97 : decode cX10_readSign 97 = .ok (.invokevirtual 127, 3) := of_q QX10_readSign_1 1 rfl
theorem dX10_readSign_100 : decode cX10_readSign 100 = .ok (.istore_n 3, 1) := of_q QX10_readSign_1 2 rfl
theorem dX10_readSign_101 : decode cX10_readSign 101 = .ok (.iconst 0, 1) := of_q QX10_readSign_1 3 rfl
theorem dX10_readSign_102 : decode cX10_readSign 102 = .ok (.istore 4, 2) := of_q QX10_readSign_1 4 rfl
theorem dX10_readSign_104 : decode cX10_readSign 104 = .ok (.iload_n 3, 1) := of_q QX10_readSign_1 5 rfl
theorem dX10_readSign_105 : decode cX10_readSign 105 = .ok (.bipush 39, 2) := of_q QX10_readSign_1 6 rfl
theorem dX10_readSign_107 : decode cX10_readSign 107 = .ok (.if_icmp .eq 9, 3) := of_q QX10_readSign_1 7 rfl
theorem dX10_readSign_110 : decode cX10_readSign 110 = .ok (.iload_n 3, 1) := of_q QX10_readSign_1 8 rfl
theorem dX10_readSign_111 : decode cX10_readSign 111 = .ok (.bipush 44, 2) := of_q QX10_readSign_1 9 rfl
theorem dX10_readSign_113 : decode cX10_readSign 113 = .ok (.if_icmp .ne 37, 3) := of_q QX10_readSign_1 10 rfl
theorem dX10_readSign_116 : decode cX10_readSign 116 = .ok (.aload_n 0, 1) := of_q QX10_readSign_1 11 rfl
theorem dX10_readSign_117 : decode cX10_readSign 117 = .ok (.aload_n 0, 1) := of_q QX10_readSign_1 12 rfl
theorem dX10_readSign_118 : decode cX10_readSign 118 = .ok (.getfield 131, 3) := of_q QX10_readSign_1 13 rfl
theorem dX10_readSign_121 : decode cX10_readSign 121 = .ok (.invokevirtual 127, 3) := of_q QX10_readSign_1 14 rfl
theorem dX10_readSign_124 : decode cX10_readSign 124 = .ok (.iload_n 3, 1) := of_q QX10_readSign_1 15 rfl
theorem dX10_readSign_125 : decode cX10_readSign 125 = .ok (.if_icmp .ne 25, 3) := of_q QX10_readSign_1 16 rfl
theorem dX10_readSign_128 : decode cX10_readSign 128 = .ok (.iload 4, 2) := of_q QX10_readSign_1 17 rfl
theorem dX10_readSign_130 : decode cX10_readSign 130 = .ok (.iconst 2, 1) := of_q QX10_readSign_1 18 rfl
theorem dX10_readSign_131 : decode cX10_readSign 131 = .ok (.if_icmp .ge 19, 3) := of_q QX10_readSign_1 19 rfl
theorem dX10_readSign_134 : decode cX10_readSign 134 = .ok (.iinc 4 1, 3) := of_q QX10_readSign_1 20 rfl
theorem dX10_readSign_137 : decode cX10_readSign 137 = .ok (.aload_n 0, 1) := of_q QX10_readSign_1 21 rfl
theorem dX10_readSign_138 : decode cX10_readSign 138 = .ok (.dup, 1) := of_q QX10_readSign_1 22 rfl
theorem dX10_readSign_139 : decode cX10_readSign 139 = .ok (.getfield 131, 3) := of_q QX10_readSign_1 23 rfl
theorem dX10_readSign_142 : decode cX10_readSign 142 = .ok (.iconst 1, 1) := of_q QX10_readSign_1 24 rfl
theorem dX10_readSign_143 : decode cX10_readSign 143 = .ok (.iadd, 1) := of_q QX10_readSign_1 25 rfl
theorem dX10_readSign_144 : decode cX10_readSign 144 = .ok (.putfield 131, 3) := of_q QX10_readSign_1 26 rfl
theorem dX10_readSign_147 : decode cX10_readSign 147 = .ok (.goto (-43), 3) := of_q QX10_readSign_1 27 rfl
theorem dX10_readSign_150 : decode cX10_readSign 150 = .ok (.aload_n 0, 1) := of_q QX10_readSign_1 28 rfl
theorem dX10_readSign_151 : decode cX10_readSign 151 = .ok (.getfield 37, 3) := of_q QX10_readSign_1 29 rfl
theorem dX10_readSign_154 : decode cX10_readSign 154 = .ok (.iload_n 1, 1) := of_q QX10_readSign_1 30 rfl
theorem dX10_readSign_155 : decode cX10_readSign 155 = .ok (.iload_n 3, 1) := of_q QX10_readSign_1 31 rfl
theorem dX10_readSign_156 : decode cX10_readSign 156 = .ok (.bipush 44, 2) := of_q QX10_readSign_1 32 rfl
theorem dX10_readSign_158 : decode cX10_readSign 158 = .ok (.if_icmp .ne 9, 3) := of_q QX10_readSign_1 33 rfl
theorem dX10_readSign_161 : decode cX10_readSign 161 = .ok (.iload 4, 2) := of_q QX10_readSign_1 34 rfl
theorem dX10_readSign_163 : decode cX10_readSign 163 = .ok (.ineg, 1) := of_q QX10_readSign_1 35 rfl
theorem dX10_readSign_164 : decode cX10_readSign 164 = .ok (.goto 5, 3) := of_q QX10_readSign_1 36 rfl
theorem dX10_readSign_167 : decode cX10_readSign 167 = .ok (.iload 4, 2) := of_q QX10_readSign_1 37 rfl
theorem dX10_readSign_169 : decode cX10_readSign 169 = .ok (.iastore, 1) := of_q QX10_readSign_1 38 rfl
theorem dX10_readSign_170 : decode cX10_readSign 170 = .ok (.aload_n 0, 1) := of_q QX10_readSign_1 39 rfl
theorem dX10_readSign_171 : decode cX10_readSign 171 = .ok (.aload_n 0, 1) := of_q QX10_readSign_1 40 rfl
theorem dX10_readSign_172 : decode cX10_readSign 172 = .ok (.getfield 131, 3) := of_q QX10_readSign_1 41 rfl
theorem dX10_readSign_175 : decode cX10_readSign 175 = .ok (.invokevirtual 127, 3) := of_q QX10_readSign_1 42 rfl
theorem dX10_readSign_178 : decode cX10_readSign 178 = .ok (.bipush 58, 2) := of_q QX10_readSign_1 43 rfl
theorem dX10_readSign_180 : decode cX10_readSign 180 = .ok (.if_icmp .ne 18, 3) := of_q QX10_readSign_1 44 rfl
theorem dX10_readSign_183 : decode cX10_readSign 183 = .ok (.aload_n 0, 1) := of_q QX10_readSign_1 45 rfl
theorem dX10_readSign_184 : decode cX10_readSign 184 = .ok (.dup, 1) := of_q QX10_readSign_1 46 rfl
theorem dX10_readSign_185 : decode cX10_readSign 185 = .ok (.getfield 131, 3) := of_q QX10_readSign_1 47 rfl
theorem dX10_readSign_188 : decode cX10_readSign 188 = .ok (.iconst 1, 1) := of_q QX10_readSign_1 48 rfl
theorem dX10_readSign_189 : decode cX10_readSign 189 = .ok (.iadd, 1) := of_q QX10_readSign_1 49 rfl
theorem dX10_readSign_190 : decode cX10_readSign 190 = .ok (.putfield 131, 3) := of_q QX10_readSign_1 50 rfl
theorem dX10_readSign_193 : decode cX10_readSign 193 = .ok (.aload_n 0, 1) := of_q QX10_readSign_1 51 rfl
theorem dX10_readSign_194 : decode cX10_readSign 194 = .ok (.iload_n 1, 1) := of_q QX10_readSign_1 52 rfl
theorem dX10_readSign_195 : decode cX10_readSign 195 = .ok (.invokevirtual 163, 3) := of_q QX10_readSign_1 53 rfl
theorem dX10_readSign_198 : decode cX10_readSign 198 = .ok (.return_, 1) := of_q QX10_readSign_1 54 rfl
def qX10_readLength_0 : List (Nat × Instr × Nat) := [(0, .aload_n 0, 1), (1, .aload_n 0, 1), (2, .getfield 131, 3), (5, .invokevirtual 127, 3), (8, .istore_n 2, 1), (9, .iload_n 2, 1), (10, .bipush 49, 2), (12, .if_icmp .lt 9, 3), (15, .iload_n 2, 1), (16, .bipush 57, 2), (18, .if_icmp .le 12, 3), (21, .aload_n 0, 1), (22, .aload_n 0, 1), (23, .getfield 131, 3), (26, .invokevirtual 138, 3), (29, .return_, 1), (30, .iload_n 2, 1), (31, .bipush 48, 2), (33, .isub, 1), (34, .istore_n 3, 1), (35, .aload_n 0, 1), (36, .dup, 1), (37, .getfield 131, 3), (40, .iconst 1, 1), (41, .iadd, 1), (42, .putfield 131, 3), (45, .iload_n 3, 1), (46, .iconst 1, 1), (47, .if_icmp .ne 54, 3), (50, .aload_n 0, 1), (51, .aload_n 0, 1), (52, .getfield 131, 3), (55, .invokevirtual 127, 3), (58, .bipush 48, 2), (60, .if_icmp .lt 41, 3), (63, .aload_n 0, 1), (64, .aload_n 0, 1), (65, .getfield 131, 3), (68, .invokevirtual 127, 3), (71, .bipush 54, 2), (73, .if_icmp .gt 28, 3), (76, .bipush 10, 2), (78, .aload_n 0, 1), (79, .aload_n 0, 1), (80, .getfield 131, 3), (83, .invokevirtual 127, 3), (86, .iadd, 1), (87, .bipush 48, 2), (89, .isub, 1), (90, .istore_n 3, 1), (91, .aload_n 0, 1), (92, .dup, 1), (93, .getfield 131, 3), (96, .iconst 1, 1), (97, .iadd, 1), (98, .putfield 131, 3), (101, .aload_n 0, 1), (102, .aload_n 0, 1), (103, .getfield 131, 3), (106, .invokevirtual 127, 3)]
theorem QX10_readLength_0 : qX10_readLength_0.all (fun q => decide (decode cX10_readLength q.1 = .ok q.2)) = true := by decide +kernel
theorem dX10_readLength_0 : decode cX10_readLength 0 = .ok (.aload_n 0, 1) := of_q QX10_readLength_0 0 rfl
theorem dX10_readLength_1 : decode cX10_readLength 1 = .ok (.aload_n 0, 1) := of_q QX10_readLength_0 1 rfl
theorem dX10_readLength_2 : decode cX10_readLength 2 = .ok (.getfield 131, 3) := of_q QX10_readLength_0 2 rfl
theorem dX10_readLength_5 : decode cX10_readLength 5 = .ok (.invokevirtual 127, 3) := of_q QX10_readLength_0 3 rfl
theorem dX10_readLength_8 : decode cX10_readLength 8 = .ok (.istore_n 2, 1) := of_q QX10_readLength_0 4 rfl
theorem dX10_readLength_9 : decode cX10_readLength 9 = .ok (.iload_n 2, 1) := of_q QX10_readLength_0 5 rfl
theorem dX10_readLength_10 : decode cX10_readLength 10 = .ok (.bipush 49, 2) := of_q QX10_readLength_0 6 rfl
theorem dX10_readLength_12 : decode cX10_readLength 12 = .ok (.if_icmp .lt 9, 3) := of_q QX10_readLength_0 7 rfl
theorem dX10_readLength_15 : decode cX10_readLength 15 = .ok (.iload_n 2, 1) := of_q QX10_readLength_0 8 rfl
theorem dX10_readLength_16 : decode cX10_readLength 16 = .ok (.bipush 57, 2) := of_q QX10_readLength_0 9 rfl
theorem dX10_readLength_18 : decode cX10_readLength 18 = .ok (.if_icmp .le 12, 3) := of_q QX10_readLength_0 10 rfl
theorem dX10_readLength_21 : decode cX10_readLength 21 = .ok (.aload_n 0, 1) := of_q QX10_readLength_0 11 rfl
theorem dX10_readLength_22 : decode cX10_readLength 22 = .ok (.aload_n 0, 1) := of_q QX10_readLength_0 12 rfl
theorem dX10_readLength_23 : decode cX10_readLength 23 = .ok (.getfield 131, 3) := of_q QX10_readLength_0 13 rfl
theorem dX10_readLength_26 : decode cX10_readLength 26 = .ok (.invokevirtual 138, 3) := of_q QX10_readLength_0 14 rfl
theorem dX10_readLength_29 : decode cX10_readLength 29 = .ok (.return_, 1) := of_q QX10_readLength_0 15 rfl
theorem dX10_readLength_30 : decode cX10_readLength 30 = .ok (.iload_n 2, 1) := of_q QX10_readLength_0 16 rfl
theorem dX10_readLength_31 : decode cX10_readLength 31 = .ok (.bipush 48, 2) := of_q QX10_readLength_0 17 rfl
theorem dX10_readLength_33 : decode cX10_readLength 33 = .ok (.isub, 1) := of_q QX10_readLength_0 18 rfl
theorem dX10_readLength_34 : decode cX10_readLength 34 = .ok (.istore_n 3, 1) := of_q QX10_readLength_0 19 rfl
theorem dX10_readLength_35 : decode cX10_readLength 35 = .ok (.aload_n 0, 1) := of_q QX10_readLength_0 20 rfl
theorem dX10_readLength_36 : decode cX10_readLength 36 = .ok (.dup, 1) := of_q QX10_readLength_0 21 rfl
theorem dX10_readLength_37 : decode cX10_readLength 37 = .ok (.getfield 131, 3) := of_q QX10_readLength_0 22 rfl
theorem dX10_readLength_40 : decode cX10_readLength 40 = .ok (.iconst 1, 1) := of_q QX10_readLength_0 23 rfl
theorem dX10_readLength_41 : decode cX10_readLength 41 = .ok (.iadd, 1) := of_q QX10_readLength_0 24 rfl
theorem dX10_readLength_42 : decode cX10_readLength 42 = .ok (.putfield 131, 3) := of_q QX10_readLength_0 25 rfl
theorem dX10_readLength_45 : decode cX10_readLength 45 = .ok (.iload_n 3, 1) := of_q QX10_readLength_0 26 rfl
theorem dX10_readLength_46 : decode cX10_readLength 46 = .ok (.iconst 1, 1) := of_q QX10_readLength_0 27 rfl
theorem dX10_readLength_47 : decode cX10_readLength 47 = .ok (.if_icmp .ne 54, 3) := of_q QX10_readLength_0 28 rfl
theorem dX10_readLength_50 : decode cX10_readLength 50 = .ok (.aload_n 0, 1) := of_q QX10_readLength_0 29 rfl
theorem dX10_readLength_51 : decode cX10_readLength 51 = .ok (.aload_n 0, 1) := of_q QX10_readLength_0 30 rfl
theorem dX10_readLength_52 : decode cX10_readLength 52 = .ok (.getfield 131, 3) := of_q QX10_readLength_0 31 rfl
theorem dX10_readLength_55 : decode cX10_readLength 55 = .ok (.invokevirtual 127, 3) := of_q QX10_readLength_0 32 rfl
theorem dX10_readLength_58 : decode cX10_readLength 58 = .ok (.bipush 48, 2) := of_q QX10_readLength_0 33 rfl
theorem dX10_readLength_60 : decode cX10_readLength 60 = .ok (.if_icmp .lt 41, 3) := of_q QX10_readLength_0 34 rfl
theorem dX10_readLength_63 : decode cX10_readLength 63 = .ok (.aload_n 0, 1) := of_q QX10_readLength_0 35 rfl
theorem dX10_readLength_64 : decode cX10_readLength 64 = .ok (.aload_n 0, 1) := of_q QX10_readLength_0 36 rfl
theorem dX10_readLength_65 : decode cX10_readLength 65 = .ok (.getfield 131, 3) := of_q QX10_readLength_0 37 rfl
theorem dX10_readLength_68 : decode cX10_readLength 68 = .ok (.invokevirtual 127, 3) := of_q QX10_readLength_0 38 rfl
theorem dX10_readLength_71 : decode cX10_readLength 71 = .ok (.bipush 54, 2) := of_q QX10_readLength_0 39 rfl
theorem dX10_readLength_73 : decode cX10_readLength 73 = .ok (.if_icmp .gt 28, 3) := of_q QX10_readLength_0 40 rfl
theorem dX10_readLength_76 : decode cX10_readLength 76 = .ok (.bipush 10, 2) := of_q QX10_readLength_0 41 rfl
theorem dX10_readLength_78 : decode cX10_readLength 78 = .ok (.aload_n 0, 1) := of_q QX10_readLength_0 42 rfl
theorem dX10_readLength_79 : decode cX10_readLength 79 = .ok (.aload_n 0, 1) := of_q QX10_readLength_0 43 rfl
theorem dX10_readLength_80 : decode cX10_readLength 80 = .ok (.getfield 131, 3) := of_q QX10_readLength_0 44 rfl
theorem dX10_readLength_83 : decode cX10_readLength 83 = .ok (.invokevirtual 127, 3) := of_q QX10_readLength_0 45 rfl
theorem dX10_readLength_86 : decode cX10_readLength 86 = .ok (.iadd, 1) := of_q QX10_readLength_0 46 rfl
theorem dX10_readLength_87 : decode cX10_readLength 87 = .ok (.bipush 48, 2) := of_q QX10_readLength_0 47 rfl
theorem dX10_readLength_89 : decode cX10_readLength 89 = .ok (.isub, 1) := of_q QX10_readLength_0 48 rfl
theorem dX10_readLength_90 : decode cX10_readLength 90 = .ok (.istore_n 3, 1) := of_q QX10_readLength_0 49 rfl
theorem dX10_readLength_91 : decode cX10_readLength 91 = .ok (.aload_n 0, 1) := of_q QX10_readLength_0 50 rfl
theorem dX10_readLength_92 : decode cX10_readLength 92 = .ok (.dup, 1) := of_q QX10_readLength_0 51 rfl
theorem dX10_readLength_93 : decode cX10_readLength 93 = .ok (.getfield 131, 3) := of_q QX10_readLength_0 52 rfl
theorem dX10_readLength_96 : decode cX10_readLength 96 = .ok (.iconst 1, 1) := of_q QX10_readLength_0 53 rfl
theorem dX10_readLength_97 : decode cX10_readLength 97 = .ok (.iadd, 1) := of_q QX10_readLength_0 54 rfl
theorem dX10_readLength_98 : decode cX10_readLength 98 = .ok (.putfield 131, 3) := of_q QX10_readLength_0 55 rfl
theorem dX10_readLength_101 : decode cX10_readLength 101 = .ok (.aload_n 0, 1) := of_q QX10_readLength_0 56 rfl
theorem dX10_readLength_102 : decode cX10_readLength 102 = .ok (.aload_n 0, 1) := of_q QX10_readLength_0 57 rfl
theorem dX10_readLength_103 : decode cX10_readLength 103 = .ok (.getfield 131, 3) := of_q QX10_readLength_0 58 rfl
theorem dX10_readLength_106 : decode cX10_readLength 106 = .ok (.invokevirtual 127, 3) := of_q QX10_readLength_0 59 rfl
def qX10_readLength_1 : List (Nat × Instr × Nat) := [(109, .invokestatic 156, 3), (112, .ifCond .eq 11, 3), (115, .aload_n 0, 1), (116, .aload_n 0, 1), (117, .getfield 131, 3), (120, .invokevirtual 138, 3), (123, .aload_n 0, 1), (124, .getfield 40, 3), (127, .iload_n 1, 1), (128, .iload_n 3, 1), (129, .iastore, 1), (130, .return_, 1)]
theorem QX10_readLength_1 : qX10_readLength_1.all (fun q => decide (decode cX10_readLength q.1 = .ok q.2)) = true := by decide +kernel
theorem dX10_readLength_109 : decode cX10_readLength 109 = .ok (.invokestatic 156, 3) := of_q QX10_readLength_1 0 rfl
theorem dX10_readLength_112 : decode cX10_readLength 112 = .ok (.ifCond .eq 11, 3) := of_q QX10_readLength_1 1 rfl
theorem dX10_readLength_115 : decode cX10_readLength 115 = .ok (.aload_n 0, 1) := of_q QX10_readLength_1 2 rfl
theorem dX10_readLength_116 : decode cX10_readLength 116 = .ok (.aload_n 0, 1) := of_q QX10_readLength_1 3 rfl
theorem dX10_readLength_117 : decode cX10_readLength 117 = .ok (.getfield 131, 3) := of_q QX10_readLength_1 4 rfl
theorem dX10_readLength_120 : decode cX10_readLength 120 = .ok (.invokevirtual 138, 3) := of_q QX10_readLength_1 5 rfl
theorem dX10_readLength_123 : decode cX10_readLength 123 = .ok (.aload_n 0, 1) := of_q QX10_readLength_1 6 rfl
theorem dX10_readLength_124 : decode cX10_readLength 124 = .ok (.getfield 40, 3) := of_q QX10_readLength_1 7 rfl
theorem dX10_readLength_127 : decode cX10_readLength 127 = .ok (.iload_n 1, 1) := of_q QX10_readLength_1 8 rfl
theorem dX10_readLength_128 : decode cX10_readLength 128 = .ok (.iload_n 3, 1) := of_q QX10_readLength_1 9 rfl
theorem dX10_readLength_129 : decode cX10_readLength 129 = .ok (.iastore, 1) := of_q QX10_readLength_1 10 rfl
theorem dX10_readLength_130 : decode cX10_readLength 130 = .ok (.return_, 1) := of_q QX10_readLength_1 11 rfl
def qX10_rule_0 : List (Nat × Instr × Nat) := [(0, .iload_n 1, 1), (1, .ifCond .lt 18, 3), (4, .iload_n 1, 1), (5, .bipush 25, 2), (7, .if_icmp .gt 12, 3), (10, .iload_n 2, 1), (11, .ifCond .lt 8, 3), (14, .iload_n 2, 1), (15, .iconst 1, 1), (16, .if_icmp .le 6, 3), (19, .bipush (-2), 2), (21, .ireturn, 1), (22, .aload_n 0, 1), (23, .getfield 46, 3), (26, .iconst 0, 1), (27, .iaload, 1), (28, .ifCond .eq 12, 3), (31, .aload_n 0, 1), (32, .getfield 19, 3), (35, .iload_n 1, 1), (36, .iaload, 1), (37, .ifCond .ne 5, 3), (40, .iconst (-1), 1), (41, .ireturn, 1), (42, .iconst 0, 1), (43, .istore_n 3, 1), (44, .iconst 0, 1), (45, .istore 4, 2), (47, .iload 4, 2), (49, .aload_n 0, 1), (50, .getfield 19, 3), (53, .iload_n 1, 1), (54, .iaload, 1), (55, .if_icmp .ge 26, 3), (58, .iload_n 3, 1), (59, .aload_n 0, 1), (60, .getfield 22, 3), (63, .aload_n 0, 1), (64, .getfield 16, 3), (67, .iload_n 1, 1), (68, .iaload, 1), (69, .iload 4, 2), (71, .iadd, 1), (72, .iaload, 1), (73, .iadd, 1), (74, .istore_n 3, 1), (75, .iinc 4 1, 3), (78, .goto (-31), 3), (81, .iload_n 2, 1), (82, .ifCond .ne 12, 3), (85, .aload_n 0, 1), (86, .getfield 19, 3), (89, .iload_n 1, 1), (90, .iaload, 1), (91, .goto 4, 3), (94, .iload_n 3, 1), (95, .ireturn, 1)]
theorem QX10_rule_0 : qX10_rule_0.all (fun q => decide (decode cX10_rule q.1 = .ok q.2)) = true := by decide +kernel
theorem dX10_rule_0 : decode cX10_rule 0 = .ok (.iload_n 1, 1) := of_q QX10_rule_0 0 rfl
theorem dX10_rule_1 : decode cX10_rule 1 = .ok (.ifCond .lt 18, 3) := of_q QX10_rule_0 1 rfl
theorem dX10_rule_4 : decode cX10_rule 4 = .ok (.iload_n 1, 1) := of_q QX10_rule_0 2 rfl
theorem dX10_rule_5 : decode cX10_rule 5 = .ok (.bipush 25, 2) := of_q QX10_rule_0 3 rfl
theorem dX10_rule_7 : decode cX10_rule 7 = .ok (.if_icmp .gt 12, 3) := of_q QX10_rule_0 4 rfl
theorem dX10_rule_10 : decode cX10_rule 10 = .ok (.iload_n 2, 1) := of_q QX10_rule_0 5 rfl
theorem dX10_rule_11 : decode cX10_rule 11 = .ok (.ifCond .lt 8, 3) := of_q QX10_rule_0 6 rfl
theorem dX10_rule_14 : decode cX10_rule 14 = .ok (.iload_n 2, 1) := of_q QX10_rule_0 7 rfl
theorem dX10_rule_15 : decode cX10_rule 15 = .ok (.iconst 1, 1) := of_q QX10_rule_0 8 rfl
theorem dX10_rule_16 : decode cX10_rule 16 = .ok (.if_icmp .le 6, 3) := of_q QX10_rule_0 9 rfl
theorem dX10_rule_19 : decode cX10_rule 19 = .ok (.bipush (-2), 2) := of_q QX10_rule_0 10 rfl
theorem dX10_rule_21 : decode cX10_rule 21 = .ok (.ireturn, 1) := of_q QX10_rule_0 11 rfl
theorem dX10_rule_22 : decode cX10_rule 22 = .ok (.aload_n 0, 1) := of_q QX10_rule_0 12 rfl
theorem dX10_rule_23 : decode cX10_rule 23 = .ok (.getfield 46, 3) := of_q QX10_rule_0 13 rfl
theorem dX10_rule_26 : decode cX10_rule 26 = .ok (.iconst 0, 1) := of_q QX10_rule_0 14 rfl
theorem dX10_rule_27 : decode cX10_rule 27 = .ok (.iaload, 1) := of_q QX10_rule_0 15 rfl
theorem dX10_rule_28 : decode cX10_rule 28 = .ok (.ifCond .eq 12, 3) := of_q QX10_rule_0 16 rfl
theorem dX10_rule_31 : decode cX10_rule 31 = .ok (.aload_n 0, 1) := of_q QX10_rule_0 17 rfl
theorem dX10_rule_32 : decode cX10_rule 32 = .ok (.getfield 19, 3) := of_q QX10_rule_0 18 rfl
theorem dX10_rule_35 : decode cX10_rule 35 = .ok (.iload_n 1, 1) := of_q QX10_rule_0 19 rfl
theorem dX10_rule_36 : decode cX10_rule 36 = .ok (.iaload, 1) := of_q QX10_rule_0 20 rfl
theorem dX10_rule_37 : decode cX10_rule 37 = .ok (.ifCond .ne 5, 3) := of_q QX10_rule_0 21 rfl
theorem dX10_rule_40 : decode cX10_rule 40 = .ok (.iconst (-1), 1) := of_q QX10_rule_0 22 rfl
theorem dX10_rule_41 : decode cX10_rule 41 = .ok (.ireturn, 1) := of_q QX10_rule_0 23 rfl
theorem dX10_rule_42 : decode cX10_rule 42 = .ok (.iconst 0, 1) := of_q QX10_rule_0 24 rfl
theorem dX10_rule_43 : decode cX10_rule 43 = .ok (.istore_n 3, 1) := of_q QX10_rule_0 25 rfl
theorem dX10_rule_44 : decode cX10_rule 44 = .ok (.iconst 0, 1) := of_q QX10_rule_0 26 rfl
theorem dX10_rule_45 : decode cX10_rule 45 = .ok (.istore 4, 2) := of_q QX10_rule_0 27 rfl
theorem dX10_rule_47 : decode cX10_rule 47 = .ok (.iload 4, 2) := of_q QX10_rule_0 28 rfl
theorem dX10_rule_49 : decode cX10_rule 49 = .ok (.aload_n 0, 1) := of_q QX10_rule_0 29 rfl
theorem dX10_rule_50 : decode cX10_rule 50 = .ok (.getfield 19, 3) := of_q QX10_rule_0 30 rfl
theorem dX10_rule_53 : decode cX10_rule 53 = .ok (.iload_n 1, 1) := of_q QX10_rule_0 31 rfl
theorem dX10_rule_54 : decode cX10_rule 54 = .ok (.iaload, 1) := of_q QX10_rule_0 32 rfl
theorem dX10_rule_55 : decode cX10_rule 55 = .ok (.if_icmp .ge 26, 3) := of_q QX10_rule_0 33 rfl
theorem dX10_rule_58 : decode cX10_rule 58 = .ok (.iload_n 3, 1) := of_q QX10_rule_0 34 rfl
theorem dX10_rule_59 : decode cX10_rule 59 = .ok (.aload_n 0, 1) := of_q QX10_rule_0 35 rfl
theorem dX10_rule_60 : decode cX10_rule 60 = .ok (.getfield 22, 3) := of_q QX10_rule_0 36 rfl
theorem dX10_rule_63 : decode cX10_rule 63 = .ok (.aload_n 0, 1) := of_q QX10_rule_0 37 rfl
theorem dX10_rule_64 : decode cX10_rule 64 = .ok (.getfield 16, 3) := of_q QX10_rule_0 38 rfl
theorem dX10_rule_67 : decode cX10_rule 67 = .ok (.iload_n 1, 1) := of_q QX10_rule_0 39 rfl
theorem dX10_rule_68 : decode cX10_rule 68 = .ok (.iaload, 1) := of_q QX10_rule_0 40 rfl
theorem dX10_rule_69 : decode cX10_rule 69 = .ok (.iload 4, 2) := of_q QX10_rule_0 41 rfl
theorem dX10_rule_71 : decode cX10_rule 71 = .ok (.iadd, 1) := of_q QX10_rule_0 42 rfl
theorem dX10_rule_72 : decode cX10_rule 72 = .ok (.iaload, 1) := of_q QX10_rule_0 43 rfl
theorem dX10_rule_73 : decode cX10_rule 73 = .ok (.iadd, 1) := of_q QX10_rule_0 44 rfl
theorem dX10_rule_74 : decode cX10_rule 74 = .ok (.istore_n 3, 1) := of_q QX10_rule_0 45 rfl
theorem dX10_rule_75 : decode cX10_rule 75 = .ok (.iinc 4 1, 3) := of_q QX10_rule_0 46 rfl
theorem dX10_rule_78 : decode cX10_rule 78 = .ok (.goto (-31), 3) := of_q QX10_rule_0 47 rfl
theorem dX10_rule_81 : decode cX10_rule 81 = .ok (.iload_n 2, 1) := of_q QX10_rule_0 48 rfl
theorem dX10_rule_82 : decode cX10_rule 82 = .ok (.ifCond .ne 12, 3) := of_q QX10_rule_0 49 rfl
theorem dX10_rule_85 : decode cX10_rule 85 = .ok (.aload_n 0, 1) := of_q QX10_rule_0 50 rfl
theorem dX10_rule_86 : decode cX10_rule 86 = .ok (.getfield 19, 3) := of_q QX10_rule_0 51 rfl
theorem dX10_rule_89 : decode cX10_rule 89 = .ok (.iload_n 1, 1) := of_q QX10_rule_0 52 rfl
theorem dX10_rule_90 : decode cX10_rule 90 = .ok (.iaload, 1) := of_q QX10_rule_0 53 rfl
theorem dX10_rule_91 : decode cX10_rule 91 = .ok (.goto 4, 3) := of_q QX10_rule_0 54 rfl
theorem dX10_rule_94 : decode cX10_rule 94 = .ok (.iload_n 3, 1) := of_q QX10_rule_0 55 rfl
theorem dX10_rule_95 : decode cX10_rule 95 = .ok (.ireturn, 1) := of_q QX10_rule_0 56 rfl
def qX10_want_0 : List (Nat × Instr × Nat) := [(0, .iload_n 1, 1), (1, .ifCond .lt 9, 3), (4, .iload_n 1, 1), (5, .bipush 6, 2), (7, .if_icmp .le 6, 3), (10, .bipush (-2), 2), (12, .ireturn, 1), (13, .iload_n 1, 1), (14, .iconst 5, 1), (15, .if_icmp .ne 7, 3), (18, .iconst (-1), 1), (19, .goto 14, 3), (22, .iload_n 1, 1), (23, .bipush 6, 2), (25, .if_icmp .ne 7, 3), (28, .iconst 1, 1), (29, .goto 4, 3), (32, .iconst 0, 1), (33, .istore_n 3, 1), (34, .iload_n 1, 1), (35, .iconst 4, 1), (36, .if_icmp .ge 8, 3), (39, .bipush 127, 2), (41, .goto 25, 3), (44, .iload_n 1, 1), (45, .iconst 4, 1), (46, .if_icmp .ne 7, 3), (49, .iconst 1, 1), (50, .goto 16, 3), (53, .iload_n 1, 1), (54, .iconst 5, 1), (55, .if_icmp .ne 8, 3), (58, .bipush 6, 2), (60, .goto 6, 3), (63, .sipush 3000, 3), (66, .istore 4, 2), (68, .iload_n 2, 1), (69, .iload_n 3, 1), (70, .if_icmp .lt 9, 3), (73, .iload_n 2, 1), (74, .iload 4, 2), (76, .if_icmp .le 6, 3), (79, .bipush (-2), 2), (81, .ireturn, 1), (82, .aload_n 0, 1), (83, .getfield 58, 3), (86, .iload_n 1, 1), (87, .iaload, 1), (88, .istore 5, 2), (90, .aload_n 0, 1), (91, .getfield 58, 3), (94, .iload_n 1, 1), (95, .iload_n 2, 1), (96, .iastore, 1), (97, .iload 5, 2), (99, .ireturn, 1)]
theorem QX10_want_0 : qX10_want_0.all (fun q => decide (decode cX10_want q.1 = .ok q.2)) = true := by decide +kernel
theorem dX10_want_0 : decode cX10_want 0 = .ok (.iload_n 1, 1) := of_q QX10_want_0 0 rfl
theorem dX10_want_1 : decode cX10_want 1 = .ok (.ifCond .lt 9, 3) := of_q QX10_want_0 1 rfl
theorem dX10_want_4 : decode cX10_want 4 = .ok (.iload_n 1, 1) := of_q QX10_want_0 2 rfl
theorem dX10_want_5 : decode cX10_want 5 = .ok (.bipush 6, 2) := of_q QX10_want_0 3 rfl
theorem dX10_want_7 : decode cX10_want 7 = .ok (.if_icmp .le 6, 3) := of_q QX10_want_0 4 rfl
theorem dX10_want_10 : decode cX10_want 10 = .ok (.bipush (-2), 2) := of_q QX10_want_0 5 rfl
theorem dX10_want_12 : decode cX10_want 12 = .ok (.ireturn, 1) := of_q QX10_want_0 6 rfl
theorem dX10_want_13 : decode cX10_want 13 = .ok (.iload_n 1, 1) := of_q QX10_want_0 7 rfl
theorem dX10_want_14 : decode cX10_want 14 = .ok (.iconst 5, 1) := of_q QX10_want_0 8 rfl
theorem dX10_want_15 : decode cX10_want 15 = .ok (.if_icmp .ne 7, 3) := of_q QX10_want_0 9 rfl
theorem dX10_want_18 : decode cX10_want 18 = .ok (.iconst (-1), 1) := of_q QX10_want_0 10 rfl
theorem dX10_want_19 : decode cX10_want 19 = .ok (.goto 14, 3) := of_q QX10_want_0 11 rfl
theorem dX10_want_22 : decode cX10_want 22 = .ok (.iload_n 1, 1) := of_q QX10_want_0 12 rfl
theorem dX10_want_23 : decode cX10_want 23 = .ok (.bipush 6, 2) := of_q QX10_want_0 13 rfl
theorem dX10_want_25 : decode cX10_want 25 = .ok (.if_icmp .ne 7, 3) := of_q QX10_want_0 14 rfl
theorem dX10_want_28 : decode cX10_want 28 = .ok (.iconst 1, 1) := of_q QX10_want_0 15 rfl
theorem dX10_want_29 : decode cX10_want 29 = .ok (.goto 4, 3) := of_q QX10_want_0 16 rfl
theorem dX10_want_32 : decode cX10_want 32 = .ok (.iconst 0, 1) := of_q QX10_want_0 17 rfl
theorem dX10_want_33 : decode cX10_want 33 = .ok (.istore_n 3, 1) := of_q QX10_want_0 18 rfl
theorem dX10_want_34 : decode cX10_want 34 = .ok (.iload_n 1, 1) := of_q QX10_want_0 19 rfl
theorem dX10_want_35 : decode cX10_want 35 = .ok (.iconst 4, 1) := of_q QX10_want_0 20 rfl
theorem dX10_want_36 : decode cX10_want 36 = .ok (.if_icmp .ge 8, 3) := of_q QX10_want_0 21 rfl
theorem dX10_want_39 : decode cX10_want 39 = .ok (.bipush 127, 2) := of_q QX10_want_0 22 rfl
theorem dX10_want_41 : decode cX10_want 41 = .ok (.goto 25, 3) := of_q QX10_want_0 23 rfl
theorem dX10_want_44 : decode cX10_want 44 = .ok (.iload_n 1, 1) := of_q QX10_want_0 24 rfl
theorem dX10_want_45 : decode cX10_want 45 = .ok (.iconst 4, 1) := of_q QX10_want_0 25 rfl
theorem dX10_want_46 : decode cX10_want 46 = .ok (.if_icmp .ne 7, 3) := of_q QX10_want_0 26 rfl
theorem dX10_want_49 : decode cX10_want 49 = .ok (.iconst 1, 1) := of_q QX10_want_0 27 rfl
theorem dX10_want_50 : decode cX10_want 50 = .ok (.goto 16, 3) := of_q QX10_want_0 28 rfl
theorem dX10_want_53 : decode cX10_want 53 = .ok (.iload_n 1, 1) := of_q QX10_want_0 29 rfl
theorem dX10_want_54 : decode cX10_want 54 = .ok (.iconst 5, 1) := of_q QX10_want_0 30 rfl
theorem dX10_want_55 : decode cX10_want 55 = .ok (.if_icmp .ne 8, 3) := of_q QX10_want_0 31 rfl
theorem dX10_want_58 : decode cX10_want 58 = .ok (.bipush 6, 2) := of_q QX10_want_0 32 rfl
theorem dX10_want_60 : decode cX10_want 60 = .ok (.goto 6, 3) := of_q QX10_want_0 33 rfl
theorem dX10_want_63 : decode cX10_want 63 = .ok (.sipush 3000, 3) := of_q QX10_want_0 34 rfl
theorem dX10_want_66 : decode cX10_want 66 = .ok (.istore 4, 2) := of_q QX10_want_0 35 rfl
theorem dX10_want_68 : decode cX10_want 68 = .ok (.iload_n 2, 1) := of_q QX10_want_0 36 rfl
theorem dX10_want_69 : decode cX10_want 69 = .ok (.iload_n 3, 1) := of_q QX10_want_0 37 rfl
theorem dX10_want_70 : decode cX10_want 70 = .ok (.if_icmp .lt 9, 3) := of_q QX10_want_0 38 rfl
theorem dX10_want_73 : decode cX10_want 73 = .ok (.iload_n 2, 1) := of_q QX10_want_0 39 rfl
theorem dX10_want_74 : decode cX10_want 74 = .ok (.iload 4, 2) := of_q QX10_want_0 40 rfl
theorem dX10_want_76 : decode cX10_want 76 = .ok (.if_icmp .le 6, 3) := of_q QX10_want_0 41 rfl
theorem dX10_want_79 : decode cX10_want 79 = .ok (.bipush (-2), 2) := of_q QX10_want_0 42 rfl
theorem dX10_want_81 : decode cX10_want 81 = .ok (.ireturn, 1) := of_q QX10_want_0 43 rfl
theorem dX10_want_82 : decode cX10_want 82 = .ok (.aload_n 0, 1) := of_q QX10_want_0 44 rfl
theorem dX10_want_83 : decode cX10_want 83 = .ok (.getfield 58, 3) := of_q QX10_want_0 45 rfl
theorem dX10_want_86 : decode cX10_want 86 = .ok (.iload_n 1, 1) := of_q QX10_want_0 46 rfl
theorem dX10_want_87 : decode cX10_want 87 = .ok (.iaload, 1) := of_q QX10_want_0 47 rfl
theorem dX10_want_88 : decode cX10_want 88 = .ok (.istore 5, 2) := of_q QX10_want_0 48 rfl
theorem dX10_want_90 : decode cX10_want 90 = .ok (.aload_n 0, 1) := of_q QX10_want_0 49 rfl
theorem dX10_want_91 : decode cX10_want 91 = .ok (.getfield 58, 3) := of_q QX10_want_0 50 rfl
theorem dX10_want_94 : decode cX10_want 94 = .ok (.iload_n 1, 1) := of_q QX10_want_0 51 rfl
theorem dX10_want_95 : decode cX10_want 95 = .ok (.iload_n 2, 1) := of_q QX10_want_0 52 rfl
theorem dX10_want_96 : decode cX10_want 96 = .ok (.iastore, 1) := of_q QX10_want_0 53 rfl
theorem dX10_want_97 : decode cX10_want 97 = .ok (.iload 5, 2) := of_q QX10_want_0 54 rfl
theorem dX10_want_99 : decode cX10_want 99 = .ok (.ireturn, 1) := of_q QX10_want_0 55 rfl
def qX10_draw_0 : List (Nat × Instr × Nat) := [(0, .aload_n 0, 1), (1, .dup, 1), (2, .getfield 166, 3), (5, .ldc2_w 170, 3), (8, .ladd, 1), (9, .putfield 166, 3), (12, .aload_n 0, 1), (13, .getfield 166, 3), (16, .lstore_n 1, 1), (17, .lload_n 1, 1), (18, .lload_n 1, 1), (19, .bipush 30, 2), (21, .lushr, 1), (22, .lxor, 1), (23, .ldc2_w 172, 3), (26, .lmul, 1), (27, .lstore_n 1, 1), (28, .lload_n 1, 1), (29, .lload_n 1, 1), (30, .bipush 27, 2), (32, .lushr, 1), (33, .lxor, 1), (34, .ldc2_w 174, 3), (37, .lmul, 1), (38, .lstore_n 1, 1), (39, .lload_n 1, 1), (40, .lload_n 1, 1), (41, .bipush 31, 2), (43, .lushr, 1), (44, .lxor, 1), (45, .iconst 1, 1), (46, .lushr, 1), (47, .lreturn, 1)]
theorem QX10_draw_0 : qX10_draw_0.all (fun q => decide (decode cX10_draw q.1 = .ok q.2)) = true := by decide +kernel
theorem dX10_draw_0 : decode cX10_draw 0 = .ok (.aload_n 0, 1) := of_q QX10_draw_0 0 rfl
theorem dX10_draw_1 : decode cX10_draw 1 = .ok (.dup, 1) := of_q QX10_draw_0 1 rfl
theorem dX10_draw_2 : decode cX10_draw 2 = .ok (.getfield 166, 3) := of_q QX10_draw_0 2 rfl
theorem dX10_draw_5 : decode cX10_draw 5 = .ok (.ldc2_w 170, 3) := of_q QX10_draw_0 3 rfl
theorem dX10_draw_8 : decode cX10_draw 8 = .ok (.ladd, 1) := of_q QX10_draw_0 4 rfl
theorem dX10_draw_9 : decode cX10_draw 9 = .ok (.putfield 166, 3) := of_q QX10_draw_0 5 rfl
theorem dX10_draw_12 : decode cX10_draw 12 = .ok (.aload_n 0, 1) := of_q QX10_draw_0 6 rfl
theorem dX10_draw_13 : decode cX10_draw 13 = .ok (.getfield 166, 3) := of_q QX10_draw_0 7 rfl
theorem dX10_draw_16 : decode cX10_draw 16 = .ok (.lstore_n 1, 1) := of_q QX10_draw_0 8 rfl
theorem dX10_draw_17 : decode cX10_draw 17 = .ok (.lload_n 1, 1) := of_q QX10_draw_0 9 rfl
theorem dX10_draw_18 : decode cX10_draw 18 = .ok (.lload_n 1, 1) := of_q QX10_draw_0 10 rfl
theorem dX10_draw_19 : decode cX10_draw 19 = .ok (.bipush 30, 2) := of_q QX10_draw_0 11 rfl
theorem dX10_draw_21 : decode cX10_draw 21 = .ok (.lushr, 1) := of_q QX10_draw_0 12 rfl
theorem dX10_draw_22 : decode cX10_draw 22 = .ok (.lxor, 1) := of_q QX10_draw_0 13 rfl
theorem dX10_draw_23 : decode cX10_draw 23 = .ok (.ldc2_w 172, 3) := of_q QX10_draw_0 14 rfl
theorem dX10_draw_26 : decode cX10_draw 26 = .ok (.lmul, 1) := of_q QX10_draw_0 15 rfl
theorem dX10_draw_27 : decode cX10_draw 27 = .ok (.lstore_n 1, 1) := of_q QX10_draw_0 16 rfl
theorem dX10_draw_28 : decode cX10_draw 28 = .ok (.lload_n 1, 1) := of_q QX10_draw_0 17 rfl
theorem dX10_draw_29 : decode cX10_draw 29 = .ok (.lload_n 1, 1) := of_q QX10_draw_0 18 rfl
theorem dX10_draw_30 : decode cX10_draw 30 = .ok (.bipush 27, 2) := of_q QX10_draw_0 19 rfl
theorem dX10_draw_32 : decode cX10_draw 32 = .ok (.lushr, 1) := of_q QX10_draw_0 20 rfl
theorem dX10_draw_33 : decode cX10_draw 33 = .ok (.lxor, 1) := of_q QX10_draw_0 21 rfl
theorem dX10_draw_34 : decode cX10_draw 34 = .ok (.ldc2_w 174, 3) := of_q QX10_draw_0 22 rfl
theorem dX10_draw_37 : decode cX10_draw 37 = .ok (.lmul, 1) := of_q QX10_draw_0 23 rfl
theorem dX10_draw_38 : decode cX10_draw 38 = .ok (.lstore_n 1, 1) := of_q QX10_draw_0 24 rfl
theorem dX10_draw_39 : decode cX10_draw 39 = .ok (.lload_n 1, 1) := of_q QX10_draw_0 25 rfl
theorem dX10_draw_40 : decode cX10_draw 40 = .ok (.lload_n 1, 1) := of_q QX10_draw_0 26 rfl
theorem dX10_draw_41 : decode cX10_draw 41 = .ok (.bipush 31, 2) := of_q QX10_draw_0 27 rfl
theorem dX10_draw_43 : decode cX10_draw 43 = .ok (.lushr, 1) := of_q QX10_draw_0 28 rfl
theorem dX10_draw_44 : decode cX10_draw 44 = .ok (.lxor, 1) := of_q QX10_draw_0 29 rfl
theorem dX10_draw_45 : decode cX10_draw 45 = .ok (.iconst 1, 1) := of_q QX10_draw_0 30 rfl
theorem dX10_draw_46 : decode cX10_draw 46 = .ok (.lushr, 1) := of_q QX10_draw_0 31 rfl
theorem dX10_draw_47 : decode cX10_draw 47 = .ok (.lreturn, 1) := of_q QX10_draw_0 32 rfl
def qX10_drawBelow_0 : List (Nat × Instr × Nat) := [(0, .ldc2_w 176, 3), (3, .iload_n 1, 1), (4, .i2l, 1), (5, .lrem, 1), (6, .lconst 1, 1), (7, .ladd, 1), (8, .iload_n 1, 1), (9, .i2l, 1), (10, .lrem, 1), (11, .lstore_n 2, 1), (12, .aload_n 0, 1), (13, .invokevirtual 178, 3), (16, .lstore 4, 2), (18, .lload 4, 2), (20, .ldc2_w 176, 3), (23, .lload_n 2, 1), (24, .lsub, 1), (25, .lcmp, 1), (26, .ifCond .le 12, 3), (29, .aload_n 0, 1), (30, .invokevirtual 178, 3), (33, .lstore 4, 2), (35, .goto (-17), 3), (38, .lload 4, 2), (40, .iload_n 1, 1), (41, .i2l, 1), (42, .lrem, 1), (43, .l2i, 1), (44, .ireturn, 1)]
theorem QX10_drawBelow_0 : qX10_drawBelow_0.all (fun q => decide (decode cX10_drawBelow q.1 = .ok q.2)) = true := by decide +kernel
theorem dX10_drawBelow_0 : decode cX10_drawBelow 0 = .ok (.ldc2_w 176, 3) := of_q QX10_drawBelow_0 0 rfl
theorem dX10_drawBelow_3 : decode cX10_drawBelow 3 = .ok (.iload_n 1, 1) := of_q QX10_drawBelow_0 1 rfl
theorem dX10_drawBelow_4 : decode cX10_drawBelow 4 = .ok (.i2l, 1) := of_q QX10_drawBelow_0 2 rfl
theorem dX10_drawBelow_5 : decode cX10_drawBelow 5 = .ok (.lrem, 1) := of_q QX10_drawBelow_0 3 rfl
theorem dX10_drawBelow_6 : decode cX10_drawBelow 6 = .ok (.lconst 1, 1) := of_q QX10_drawBelow_0 4 rfl
theorem dX10_drawBelow_7 : decode cX10_drawBelow 7 = .ok (.ladd, 1) := of_q QX10_drawBelow_0 5 rfl
theorem dX10_drawBelow_8 : decode cX10_drawBelow 8 = .ok (.iload_n 1, 1) := of_q QX10_drawBelow_0 6 rfl
theorem dX10_drawBelow_9 : decode cX10_drawBelow 9 = .ok (.i2l, 1) := of_q QX10_drawBelow_0 7 rfl
theorem dX10_drawBelow_10 : decode cX10_drawBelow 10 = .ok (.lrem, 1) := of_q QX10_drawBelow_0 8 rfl
theorem dX10_drawBelow_11 : decode cX10_drawBelow 11 = .ok (.lstore_n 2, 1) := of_q QX10_drawBelow_0 9 rfl
theorem dX10_drawBelow_12 : decode cX10_drawBelow 12 = .ok (.aload_n 0, 1) := of_q QX10_drawBelow_0 10 rfl
theorem dX10_drawBelow_13 : decode cX10_drawBelow 13 = .ok (.invokevirtual 178, 3) := of_q QX10_drawBelow_0 11 rfl
theorem dX10_drawBelow_16 : decode cX10_drawBelow 16 = .ok (.lstore 4, 2) := of_q QX10_drawBelow_0 12 rfl
theorem dX10_drawBelow_18 : decode cX10_drawBelow 18 = .ok (.lload 4, 2) := of_q QX10_drawBelow_0 13 rfl
theorem dX10_drawBelow_20 : decode cX10_drawBelow 20 = .ok (.ldc2_w 176, 3) := of_q QX10_drawBelow_0 14 rfl
theorem dX10_drawBelow_23 : decode cX10_drawBelow 23 = .ok (.lload_n 2, 1) := of_q QX10_drawBelow_0 15 rfl
theorem dX10_drawBelow_24 : decode cX10_drawBelow 24 = .ok (.lsub, 1) := of_q QX10_drawBelow_0 16 rfl
theorem dX10_drawBelow_25 : decode cX10_drawBelow 25 = .ok (.lcmp, 1) := of_q QX10_drawBelow_0 17 rfl
theorem dX10_drawBelow_26 : decode cX10_drawBelow 26 = .ok (.ifCond .le 12, 3) := of_q QX10_drawBelow_0 18 rfl
theorem dX10_drawBelow_29 : decode cX10_drawBelow 29 = .ok (.aload_n 0, 1) := of_q QX10_drawBelow_0 19 rfl
theorem dX10_drawBelow_30 : decode cX10_drawBelow 30 = .ok (.invokevirtual 178, 3) := of_q QX10_drawBelow_0 20 rfl
theorem dX10_drawBelow_33 : decode cX10_drawBelow 33 = .ok (.lstore 4, 2) := of_q QX10_drawBelow_0 21 rfl
theorem dX10_drawBelow_35 : decode cX10_drawBelow 35 = .ok (.goto (-17), 3) := of_q QX10_drawBelow_0 22 rfl
theorem dX10_drawBelow_38 : decode cX10_drawBelow 38 = .ok (.lload 4, 2) := of_q QX10_drawBelow_0 23 rfl
theorem dX10_drawBelow_40 : decode cX10_drawBelow 40 = .ok (.iload_n 1, 1) := of_q QX10_drawBelow_0 24 rfl
theorem dX10_drawBelow_41 : decode cX10_drawBelow 41 = .ok (.i2l, 1) := of_q QX10_drawBelow_0 25 rfl
theorem dX10_drawBelow_42 : decode cX10_drawBelow 42 = .ok (.lrem, 1) := of_q QX10_drawBelow_0 26 rfl
theorem dX10_drawBelow_43 : decode cX10_drawBelow 43 = .ok (.l2i, 1) := of_q QX10_drawBelow_0 27 rfl
theorem dX10_drawBelow_44 : decode cX10_drawBelow 44 = .ok (.ireturn, 1) := of_q QX10_drawBelow_0 28 rfl
def qX10_below_0 : List (Nat × Instr × Nat) := [(0, .iload_n 3, 1), (1, .iconst 1, 1), (2, .if_icmp .lt 16, 3), (5, .iload 4, 2), (7, .ifCond .lt 11, 3), (10, .iload 4, 2), (12, .sipush 1000, 3), (15, .if_icmp .le 6, 3), (18, .bipush (-2), 2), (20, .ireturn, 1), (21, .aload_n 0, 1), (22, .lload_n 1, 1), (23, .putfield 166, 3), (26, .aload_n 0, 1), (27, .iload_n 3, 1), (28, .invokevirtual 182, 3), (31, .istore 5, 2), (33, .iconst 0, 1), (34, .istore 6, 2), (36, .iload 6, 2), (38, .iload 4, 2), (40, .if_icmp .ge 16, 3), (43, .aload_n 0, 1), (44, .iload_n 3, 1), (45, .invokevirtual 182, 3), (48, .istore 5, 2), (50, .iinc 6 1, 3), (53, .goto (-17), 3), (56, .iload 5, 2), (58, .ireturn, 1)]
theorem QX10_below_0 : qX10_below_0.all (fun q => decide (decode cX10_below q.1 = .ok q.2)) = true := by decide +kernel
theorem dX10_below_0 : decode cX10_below 0 = .ok (.iload_n 3, 1) := of_q QX10_below_0 0 rfl
theorem dX10_below_1 : decode cX10_below 1 = .ok (.iconst 1, 1) := of_q QX10_below_0 1 rfl
theorem dX10_below_2 : decode cX10_below 2 = .ok (.if_icmp .lt 16, 3) := of_q QX10_below_0 2 rfl
theorem dX10_below_5 : decode cX10_below 5 = .ok (.iload 4, 2) := of_q QX10_below_0 3 rfl
theorem dX10_below_7 : decode cX10_below 7 = .ok (.ifCond .lt 11, 3) := of_q QX10_below_0 4 rfl
theorem dX10_below_10 : decode cX10_below 10 = .ok (.iload 4, 2) := of_q QX10_below_0 5 rfl
theorem dX10_below_12 : decode cX10_below 12 = .ok (.sipush 1000, 3) := of_q QX10_below_0 6 rfl
theorem dX10_below_15 : decode cX10_below 15 = .ok (.if_icmp .le 6, 3) := of_q QX10_below_0 7 rfl
theorem dX10_below_18 : decode cX10_below 18 = .ok (.bipush (-2), 2) := of_q QX10_below_0 8 rfl
theorem dX10_below_20 : decode cX10_below 20 = .ok (.ireturn, 1) := of_q QX10_below_0 9 rfl
theorem dX10_below_21 : decode cX10_below 21 = .ok (.aload_n 0, 1) := of_q QX10_below_0 10 rfl
theorem dX10_below_22 : decode cX10_below 22 = .ok (.lload_n 1, 1) := of_q QX10_below_0 11 rfl
theorem dX10_below_23 : decode cX10_below 23 = .ok (.putfield 166, 3) := of_q QX10_below_0 12 rfl
theorem dX10_below_26 : decode cX10_below 26 = .ok (.aload_n 0, 1) := of_q QX10_below_0 13 rfl
theorem dX10_below_27 : decode cX10_below 27 = .ok (.iload_n 3, 1) := of_q QX10_below_0 14 rfl
theorem dX10_below_28 : decode cX10_below 28 = .ok (.invokevirtual 182, 3) := of_q QX10_below_0 15 rfl
theorem dX10_below_31 : decode cX10_below 31 = .ok (.istore 5, 2) := of_q QX10_below_0 16 rfl
theorem dX10_below_33 : decode cX10_below 33 = .ok (.iconst 0, 1) := of_q QX10_below_0 17 rfl
theorem dX10_below_34 : decode cX10_below 34 = .ok (.istore 6, 2) := of_q QX10_below_0 18 rfl
theorem dX10_below_36 : decode cX10_below 36 = .ok (.iload 6, 2) := of_q QX10_below_0 19 rfl
theorem dX10_below_38 : decode cX10_below 38 = .ok (.iload 4, 2) := of_q QX10_below_0 20 rfl
theorem dX10_below_40 : decode cX10_below 40 = .ok (.if_icmp .ge 16, 3) := of_q QX10_below_0 21 rfl
theorem dX10_below_43 : decode cX10_below 43 = .ok (.aload_n 0, 1) := of_q QX10_below_0 22 rfl
theorem dX10_below_44 : decode cX10_below 44 = .ok (.iload_n 3, 1) := of_q QX10_below_0 23 rfl
theorem dX10_below_45 : decode cX10_below 45 = .ok (.invokevirtual 182, 3) := of_q QX10_below_0 24 rfl
theorem dX10_below_48 : decode cX10_below 48 = .ok (.istore 5, 2) := of_q QX10_below_0 25 rfl
theorem dX10_below_50 : decode cX10_below 50 = .ok (.iinc 6 1, 3) := of_q QX10_below_0 26 rfl
theorem dX10_below_53 : decode cX10_below 53 = .ok (.goto (-17), 3) := of_q QX10_below_0 27 rfl
theorem dX10_below_56 : decode cX10_below 56 = .ok (.iload 5, 2) := of_q QX10_below_0 28 rfl
theorem dX10_below_58 : decode cX10_below 58 = .ok (.ireturn, 1) := of_q QX10_below_0 29 rfl
