def qX10_keep_0 : List (Nat × Instr × Nat) := [(0, .aload_n 0, 1), (1, .getfield 80, 3), (4, .aload_n 0, 1), (5, .getfield 185, 3), (8, .iload_n 1, 1), (9, .iastore, 1), (10, .aload_n 0, 1), (11, .getfield 83, 3), (14, .aload_n 0, 1), (15, .getfield 185, 3), (18, .aload_n 0, 1), (19, .getfield 188, 3), (22, .iastore, 1), (23, .aload_n 0, 1), (24, .getfield 86, 3), (27, .aload_n 0, 1), (28, .getfield 185, 3), (31, .aload_n 0, 1), (32, .getfield 191, 3), (35, .iastore, 1), (36, .aload_n 0, 1), (37, .getfield 89, 3), (40, .aload_n 0, 1), (41, .getfield 185, 3), (44, .aload_n 0, 1), (45, .getfield 194, 3), (48, .iastore, 1), (49, .aload_n 0, 1), (50, .getfield 92, 3), (53, .aload_n 0, 1), (54, .getfield 185, 3), (57, .aload_n 0, 1), (58, .getfield 197, 3), (61, .iastore, 1), (62, .aload_n 0, 1), (63, .getfield 95, 3), (66, .aload_n 0, 1), (67, .getfield 185, 3), (70, .aload_n 0, 1), (71, .getfield 200, 3), (74, .iastore, 1), (75, .aload_n 0, 1), (76, .getfield 98, 3), (79, .aload_n 0, 1), (80, .getfield 185, 3), (83, .aload_n 0, 1), (84, .getfield 203, 3), (87, .iastore, 1), (88, .aload_n 0, 1), (89, .getfield 101, 3), (92, .aload_n 0, 1), (93, .getfield 185, 3), (96, .aload_n 0, 1), (97, .getfield 206, 3), (100, .iastore, 1), (101, .aload_n 0, 1), (102, .getfield 104, 3), (105, .aload_n 0, 1), (106, .getfield 185, 3), (109, .aload_n 0, 1)]
theorem QX10_keep_0 : qX10_keep_0.all (fun q => decide (decode cX10_keep q.1 = .ok q.2)) = true := by decide +kernel
theorem dX10_keep_0 : decode cX10_keep 0 = .ok (.aload_n 0, 1) := of_q QX10_keep_0 0 rfl
theorem dX10_keep_1 : decode cX10_keep 1 = .ok (.getfield 80, 3) := of_q QX10_keep_0 1 rfl
theorem dX10_keep_4 : decode cX10_keep 4 = .ok (.aload_n 0, 1) := of_q QX10_keep_0 2 rfl
theorem dX10_keep_5 : decode cX10_keep 5 = .ok (.getfield 185, 3) := of_q QX10_keep_0 3 rfl
theorem dX10_keep_8 : decode cX10_keep 8 = .ok (.iload_n 1, 1) := of_q QX10_keep_0 4 rfl
theorem dX10_keep_9 : decode cX10_keep 9 = .ok (.iastore, 1) := of_q QX10_keep_0 5 rfl
theorem dX10_keep_10 : decode cX10_keep 10 = .ok (.aload_n 0, 1) := of_q QX10_keep_0 6 rfl
theorem dX10_keep_11 : decode cX10_keep 11 = .ok (.getfield 83, 3) := of_q QX10_keep_0 7 rfl
theorem dX10_keep_14 : decode cX10_keep 14 = .ok (.aload_n 0, 1) := of_q QX10_keep_0 8 rfl
theorem dX10_keep_15 : decode cX10_keep 15 = .ok (.getfield 185, 3) := of_q QX10_keep_0 9 rfl
theorem dX10_keep_18 : decode cX10_keep 18 = .ok (.aload_n 0, 1) := of_q QX10_keep_0 10 rfl
theorem dX10_keep_19 : decode cX10_keep 19 = .ok (.getfield 188, 3) := of_q QX10_keep_0 11 rfl
theorem dX10_keep_22 : decode cX10_keep 22 = .ok (.iastore, 1) := of_q QX10_keep_0 12 rfl
theorem dX10_keep_23 : decode cX10_keep 23 = .ok (.aload_n 0, 1) := of_q QX10_keep_0 13 rfl
theorem dX10_keep_24 : decode cX10_keep 24 = .ok (.getfield 86, 3) := of_q QX10_keep_0 14 rfl
theorem dX10_keep_27 : decode cX10_keep 27 = .ok (.aload_n 0, 1) := of_q QX10_keep_0 15 rfl
theorem dX10_keep_28 : decode cX10_keep 28 = .ok (.getfield 185, 3) := of_q QX10_keep_0 16 rfl
theorem dX10_keep_31 : decode cX10_keep 31 = .ok (.aload_n 0, 1) := of_q QX10_keep_0 17 rfl
theorem dX10_keep_32 : decode cX10_keep 32 = .ok (.getfield 191, 3) := of_q QX10_keep_0 18 rfl
theorem dX10_keep_35 : decode cX10_keep 35 = .ok (.iastore, 1) := of_q QX10_keep_0 19 rfl
theorem dX10_keep_36 : decode cX10_keep 36 = .ok (.aload_n 0, 1) := of_q QX10_keep_0 20 rfl
theorem dX10_keep_37 : decode cX10_keep 37 = .ok (.getfield 89, 3) := of_q QX10_keep_0 21 rfl
theorem dX10_keep_40 : decode cX10_keep 40 = .ok (.aload_n 0, 1) := of_q QX10_keep_0 22 rfl
theorem dX10_keep_41 : decode cX10_keep 41 = .ok (.getfield 185, 3) := of_q QX10_keep_0 23 rfl
theorem dX10_keep_44 : decode cX10_keep 44 = .ok (.aload_n 0, 1) := of_q QX10_keep_0 24 rfl
theorem dX10_keep_45 : decode cX10_keep 45 = .ok (.getfield 194, 3) := of_q QX10_keep_0 25 rfl
theorem dX10_keep_48 : decode cX10_keep 48 = .ok (.iastore, 1) := of_q QX10_keep_0 26 rfl
theorem dX10_keep_49 : decode cX10_keep 49 = .ok (.aload_n 0, 1) := of_q QX10_keep_0 27 rfl
theorem dX10_keep_50 : decode cX10_keep 50 = .ok (.getfield 92, 3) := of_q QX10_keep_0 28 rfl
theorem dX10_keep_53 : decode cX10_keep 53 = .ok (.aload_n 0, 1) := of_q QX10_keep_0 29 rfl
theorem dX10_keep_54 : decode cX10_keep 54 = .ok (.getfield 185, 3) := of_q QX10_keep_0 30 rfl
theorem dX10_keep_57 : decode cX10_keep 57 = .ok (.aload_n 0, 1) := of_q QX10_keep_0 31 rfl
theorem dX10_keep_58 : decode cX10_keep 58 = .ok (.getfield 197, 3) := of_q QX10_keep_0 32 rfl
theorem dX10_keep_61 : decode cX10_keep 61 = .ok (.iastore, 1) := of_q QX10_keep_0 33 rfl
theorem dX10_keep_62 : decode cX10_keep 62 = .ok (.aload_n 0, 1) := of_q QX10_keep_0 34 rfl
theorem dX10_keep_63 : decode cX10_keep 63 = .ok (.getfield 95, 3) := of_q QX10_keep_0 35 rfl
theorem dX10_keep_66 : decode cX10_keep 66 = .ok (.aload_n 0, 1) := of_q QX10_keep_0 36 rfl
theorem dX10_keep_67 : decode cX10_keep 67 = .ok (.getfield 185, 3) := of_q QX10_keep_0 37 rfl
theorem dX10_keep_70 : decode cX10_keep 70 = .ok (.aload_n 0, 1) := of_q QX10_keep_0 38 rfl
theorem dX10_keep_71 : decode cX10_keep 71 = .ok (.getfield 200, 3) := of_q QX10_keep_0 39 rfl
theorem dX10_keep_74 : decode cX10_keep 74 = .ok (.iastore, 1) := of_q QX10_keep_0 40 rfl
theorem dX10_keep_75 : decode cX10_keep 75 = .ok (.aload_n 0, 1) := of_q QX10_keep_0 41 rfl
theorem dX10_keep_76 : decode cX10_keep 76 = .ok (.getfield 98, 3) := of_q QX10_keep_0 42 rfl
theorem dX10_keep_79 : decode cX10_keep 79 = .ok (.aload_n 0, 1) := of_q QX10_keep_0 43 rfl
theorem dX10_keep_80 : decode cX10_keep 80 = .ok (.getfield 185, 3) := of_q QX10_keep_0 44 rfl
theorem dX10_keep_83 : decode cX10_keep 83 = .ok (.aload_n 0, 1) := of_q QX10_keep_0 45 rfl
theorem dX10_keep_84 : decode cX10_keep 84 = .ok (.getfield 203, 3) := of_q QX10_keep_0 46 rfl
theorem dX10_keep_87 : decode cX10_keep 87 = .ok (.iastore, 1) := of_q QX10_keep_0 47 rfl
theorem dX10_keep_88 : decode cX10_keep 88 = .ok (.aload_n 0, 1) := of_q QX10_keep_0 48 rfl
theorem dX10_keep_89 : decode cX10_keep 89 = .ok (.getfield 101, 3) := of_q QX10_keep_0 49 rfl
theorem dX10_keep_92 : decode cX10_keep 92 = .ok (.aload_n 0, 1) := of_q QX10_keep_0 50 rfl
theorem dX10_keep_93 : decode cX10_keep 93 = .ok (.getfield 185, 3) := of_q QX10_keep_0 51 rfl
theorem dX10_keep_96 : decode cX10_keep 96 = .ok (.aload_n 0, 1) := of_q QX10_keep_0 52 rfl
theorem dX10_keep_97 : decode cX10_keep 97 = .ok (.getfield 206, 3) := of_q QX10_keep_0 53 rfl
theorem dX10_keep_100 : decode cX10_keep 100 = .ok (.iastore, 1) := of_q QX10_keep_0 54 rfl
theorem dX10_keep_101 : decode cX10_keep 101 = .ok (.aload_n 0, 1) := of_q QX10_keep_0 55 rfl
theorem dX10_keep_102 : decode cX10_keep 102 = .ok (.getfield 104, 3) := of_q QX10_keep_0 56 rfl
theorem dX10_keep_105 : decode cX10_keep 105 = .ok (.aload_n 0, 1) := of_q QX10_keep_0 57 rfl
theorem dX10_keep_106 : decode cX10_keep 106 = .ok (.getfield 185, 3) := of_q QX10_keep_0 58 rfl
theorem dX10_keep_109 : decode cX10_keep 109 = .ok (.aload_n 0, 1) := of_q QX10_keep_0 59 rfl
def qX10_keep_1 : List (Nat × Instr × Nat) := [(110, .getfield 209, 3), (113, .iastore, 1), (114, .aload_n 0, 1), (115, .getfield 107, 3), (118, .aload_n 0, 1), (119, .getfield 185, 3), (122, .lconst 0, 1), (123, .lastore, 1), (124, .aload_n 0, 1), (125, .dup, 1), (126, .getfield 185, 3), (129, .iconst 1, 1), (130, .iadd, 1), (131, .putfield 185, 3), (134, .return_, 1)]
theorem QX10_keep_1 : qX10_keep_1.all (fun q => decide (decode cX10_keep q.1 = .ok q.2)) = true := by decide +kernel
theorem dX10_keep_110 : decode cX10_keep 110 = .ok (.getfield 209, 3) := of_q QX10_keep_1 0 rfl
theorem dX10_keep_113 : decode cX10_keep 113 = .ok (.iastore, 1) := of_q QX10_keep_1 1 rfl
theorem dX10_keep_114 : decode cX10_keep 114 = .ok (.aload_n 0, 1) := of_q QX10_keep_1 2 rfl
theorem dX10_keep_115 : decode cX10_keep 115 = .ok (.getfield 107, 3) := of_q QX10_keep_1 3 rfl
theorem dX10_keep_118 : decode cX10_keep 118 = .ok (.aload_n 0, 1) := of_q QX10_keep_1 4 rfl
theorem dX10_keep_119 : decode cX10_keep 119 = .ok (.getfield 185, 3) := of_q QX10_keep_1 5 rfl
theorem dX10_keep_122 : decode cX10_keep 122 = .ok (.lconst 0, 1) := of_q QX10_keep_1 6 rfl
theorem dX10_keep_123 : decode cX10_keep 123 = .ok (.lastore, 1) := of_q QX10_keep_1 7 rfl
theorem dX10_keep_124 : decode cX10_keep 124 = .ok (.aload_n 0, 1) := of_q QX10_keep_1 8 rfl
theorem dX10_keep_125 : decode cX10_keep 125 = .ok (.dup, 1) := of_q QX10_keep_1 9 rfl
theorem dX10_keep_126 : decode cX10_keep 126 = .ok (.getfield 185, 3) := of_q QX10_keep_1 10 rfl
theorem dX10_keep_129 : decode cX10_keep 129 = .ok (.iconst 1, 1) := of_q QX10_keep_1 11 rfl
theorem dX10_keep_130 : decode cX10_keep 130 = .ok (.iadd, 1) := of_q QX10_keep_1 12 rfl
theorem dX10_keep_131 : decode cX10_keep 131 = .ok (.putfield 185, 3) := of_q QX10_keep_1 13 rfl
theorem dX10_keep_134 : decode cX10_keep 134 = .ok (.return_, 1) := of_q QX10_keep_1 14 rfl
def qX10_back_0 : List (Nat × Instr × Nat) := [(0, .aload_n 0, 1), (1, .getfield 185, 3), (4, .iconst 1, 1), (5, .isub, 1), (6, .istore_n 1, 1), (7, .aload_n 0, 1), (8, .aload_n 0, 1), (9, .getfield 83, 3), (12, .iload_n 1, 1), (13, .iaload, 1), (14, .putfield 188, 3), (17, .aload_n 0, 1), (18, .aload_n 0, 1), (19, .getfield 86, 3), (22, .iload_n 1, 1), (23, .iaload, 1), (24, .putfield 191, 3), (27, .aload_n 0, 1), (28, .aload_n 0, 1), (29, .getfield 89, 3), (32, .iload_n 1, 1), (33, .iaload, 1), (34, .putfield 194, 3), (37, .aload_n 0, 1), (38, .aload_n 0, 1), (39, .getfield 92, 3), (42, .iload_n 1, 1), (43, .iaload, 1), (44, .putfield 197, 3), (47, .aload_n 0, 1), (48, .aload_n 0, 1), (49, .getfield 95, 3), (52, .iload_n 1, 1), (53, .iaload, 1), (54, .putfield 200, 3), (57, .aload_n 0, 1), (58, .aload_n 0, 1), (59, .getfield 98, 3), (62, .iload_n 1, 1), (63, .iaload, 1), (64, .putfield 203, 3), (67, .aload_n 0, 1), (68, .aload_n 0, 1), (69, .getfield 101, 3), (72, .iload_n 1, 1), (73, .iaload, 1), (74, .putfield 206, 3), (77, .aload_n 0, 1), (78, .aload_n 0, 1), (79, .getfield 104, 3), (82, .iload_n 1, 1), (83, .iaload, 1), (84, .putfield 209, 3), (87, .return_, 1)]
theorem QX10_back_0 : qX10_back_0.all (fun q => decide (decode cX10_back q.1 = .ok q.2)) = true := by decide +kernel
theorem dX10_back_0 : decode cX10_back 0 = .ok (.aload_n 0, 1) := of_q QX10_back_0 0 rfl
theorem dX10_back_1 : decode cX10_back 1 = .ok (.getfield 185, 3) := of_q QX10_back_0 1 rfl
theorem dX10_back_4 : decode cX10_back 4 = .ok (.iconst 1, 1) := of_q QX10_back_0 2 rfl
theorem dX10_back_5 : decode cX10_back 5 = .ok (.isub, 1) := of_q QX10_back_0 3 rfl
theorem dX10_back_6 : decode cX10_back 6 = .ok (.istore_n 1, 1) := of_q QX10_back_0 4 rfl
theorem dX10_back_7 : decode cX10_back 7 = .ok (.aload_n 0, 1) := of_q QX10_back_0 5 rfl
theorem dX10_back_8 : decode cX10_back 8 = .ok (.aload_n 0, 1) := of_q QX10_back_0 6 rfl
theorem dX10_back_9 : decode cX10_back 9 = .ok (.getfield 83, 3) := of_q QX10_back_0 7 rfl
theorem dX10_back_12 : decode cX10_back 12 = .ok (.iload_n 1, 1) := of_q QX10_back_0 8 rfl
theorem dX10_back_13 : decode cX10_back 13 = .ok (.iaload, 1) := of_q QX10_back_0 9 rfl
theorem dX10_back_14 : decode cX10_back 14 = .ok (.putfield 188, 3) := of_q QX10_back_0 10 rfl
theorem dX10_back_17 : decode cX10_back 17 = .ok (.aload_n 0, 1) := of_q QX10_back_0 11 rfl
theorem dX10_back_18 : decode cX10_back 18 = .ok (.aload_n 0, 1) := of_q QX10_back_0 12 rfl
theorem dX10_back_19 : decode cX10_back 19 = .ok (.getfield 86, 3) := of_q QX10_back_0 13 rfl
theorem dX10_back_22 : decode cX10_back 22 = .ok (.iload_n 1, 1) := of_q QX10_back_0 14 rfl
theorem dX10_back_23 : decode cX10_back 23 = .ok (.iaload, 1) := of_q QX10_back_0 15 rfl
theorem dX10_back_24 : decode cX10_back 24 = .ok (.putfield 191, 3) := of_q QX10_back_0 16 rfl
theorem dX10_back_27 : decode cX10_back 27 = .ok (.aload_n 0, 1) := of_q QX10_back_0 17 rfl
theorem dX10_back_28 : decode cX10_back 28 = .ok (.aload_n 0, 1) := of_q QX10_back_0 18 rfl
theorem dX10_back_29 : decode cX10_back 29 = .ok (.getfield 89, 3) := of_q QX10_back_0 19 rfl
theorem dX10_back_32 : decode cX10_back 32 = .ok (.iload_n 1, 1) := of_q QX10_back_0 20 rfl
theorem dX10_back_33 : decode cX10_back 33 = .ok (.iaload, 1) := of_q QX10_back_0 21 rfl
theorem dX10_back_34 : decode cX10_back 34 = .ok (.putfield 194, 3) := of_q QX10_back_0 22 rfl
theorem dX10_back_37 : decode cX10_back 37 = .ok (.aload_n 0, 1) := of_q QX10_back_0 23 rfl
theorem dX10_back_38 : decode cX10_back 38 = .ok (.aload_n 0, 1) := of_q QX10_back_0 24 rfl
theorem dX10_back_39 : decode cX10_back 39 = .ok (.getfield 92, 3) := of_q QX10_back_0 25 rfl
theorem dX10_back_42 : decode cX10_back 42 = .ok (.iload_n 1, 1) := of_q QX10_back_0 26 rfl
theorem dX10_back_43 : decode cX10_back 43 = .ok (.iaload, 1) := of_q QX10_back_0 27 rfl
theorem dX10_back_44 : decode cX10_back 44 = .ok (.putfield 197, 3) := of_q QX10_back_0 28 rfl
theorem dX10_back_47 : decode cX10_back 47 = .ok (.aload_n 0, 1) := of_q QX10_back_0 29 rfl
theorem dX10_back_48 : decode cX10_back 48 = .ok (.aload_n 0, 1) := of_q QX10_back_0 30 rfl
theorem dX10_back_49 : decode cX10_back 49 = .ok (.getfield 95, 3) := of_q QX10_back_0 31 rfl
theorem dX10_back_52 : decode cX10_back 52 = .ok (.iload_n 1, 1) := of_q QX10_back_0 32 rfl
theorem dX10_back_53 : decode cX10_back 53 = .ok (.iaload, 1) := of_q QX10_back_0 33 rfl
theorem dX10_back_54 : decode cX10_back 54 = .ok (.putfield 200, 3) := of_q QX10_back_0 34 rfl
theorem dX10_back_57 : decode cX10_back 57 = .ok (.aload_n 0, 1) := of_q QX10_back_0 35 rfl
theorem dX10_back_58 : decode cX10_back 58 = .ok (.aload_n 0, 1) := of_q QX10_back_0 36 rfl
theorem dX10_back_59 : decode cX10_back 59 = .ok (.getfield 98, 3) := of_q QX10_back_0 37 rfl
theorem dX10_back_62 : decode cX10_back 62 = .ok (.iload_n 1, 1) := of_q QX10_back_0 38 rfl
theorem dX10_back_63 : decode cX10_back 63 = .ok (.iaload, 1) := of_q QX10_back_0 39 rfl
theorem dX10_back_64 : decode cX10_back 64 = .ok (.putfield 203, 3) := of_q QX10_back_0 40 rfl
theorem dX10_back_67 : decode cX10_back 67 = .ok (.aload_n 0, 1) := of_q QX10_back_0 41 rfl
theorem dX10_back_68 : decode cX10_back 68 = .ok (.aload_n 0, 1) := of_q QX10_back_0 42 rfl
theorem dX10_back_69 : decode cX10_back 69 = .ok (.getfield 101, 3) := of_q QX10_back_0 43 rfl
theorem dX10_back_72 : decode cX10_back 72 = .ok (.iload_n 1, 1) := of_q QX10_back_0 44 rfl
theorem dX10_back_73 : decode cX10_back 73 = .ok (.iaload, 1) := of_q QX10_back_0 45 rfl
theorem dX10_back_74 : decode cX10_back 74 = .ok (.putfield 206, 3) := of_q QX10_back_0 46 rfl
theorem dX10_back_77 : decode cX10_back 77 = .ok (.aload_n 0, 1) := of_q QX10_back_0 47 rfl
theorem dX10_back_78 : decode cX10_back 78 = .ok (.aload_n 0, 1) := of_q QX10_back_0 48 rfl
theorem dX10_back_79 : decode cX10_back 79 = .ok (.getfield 104, 3) := of_q QX10_back_0 49 rfl
theorem dX10_back_82 : decode cX10_back 82 = .ok (.iload_n 1, 1) := of_q QX10_back_0 50 rfl
theorem dX10_back_83 : decode cX10_back 83 = .ok (.iaload, 1) := of_q QX10_back_0 51 rfl
theorem dX10_back_84 : decode cX10_back 84 = .ok (.putfield 209, 3) := of_q QX10_back_0 52 rfl
theorem dX10_back_87 : decode cX10_back 87 = .ok (.return_, 1) := of_q QX10_back_0 53 rfl
def qX10_left_0 : List (Nat × Instr × Nat) := [(0, .aload_n 0, 1), (1, .getfield 80, 3), (4, .aload_n 0, 1), (5, .getfield 185, 3), (8, .iconst 1, 1), (9, .isub, 1), (10, .iaload, 1), (11, .istore_n 1, 1), (12, .iconst 0, 1), (13, .istore_n 2, 1), (14, .iconst 0, 1), (15, .istore_n 3, 1), (16, .iload_n 3, 1), (17, .aload_n 0, 1), (18, .getfield 19, 3), (21, .iload_n 1, 1), (22, .iaload, 1), (23, .if_icmp .ge 49, 3), (26, .iload_n 2, 1), (27, .aload_n 0, 1), (28, .getfield 107, 3), (31, .aload_n 0, 1), (32, .getfield 185, 3), (35, .iconst 1, 1), (36, .isub, 1), (37, .laload, 1), (38, .iload_n 3, 1), (39, .lshr, 1), (40, .lconst 1, 1), (41, .land, 1), (42, .lconst 0, 1), (43, .lcmp, 1), (44, .ifCond .ne 19, 3), (47, .aload_n 0, 1), (48, .getfield 22, 3), (51, .aload_n 0, 1), (52, .getfield 16, 3), (55, .iload_n 1, 1), (56, .iaload, 1), (57, .iload_n 3, 1), (58, .iadd, 1), (59, .iaload, 1), (60, .goto 4, 3), (63, .iconst 0, 1), (64, .iadd, 1), (65, .istore_n 2, 1), (66, .iinc 3 1, 3), (69, .goto (-53), 3), (72, .iload_n 2, 1), (73, .ireturn, 1)]
theorem QX10_left_0 : qX10_left_0.all (fun q => decide (decode cX10_left q.1 = .ok q.2)) = true := by decide +kernel
theorem dX10_left_0 : decode cX10_left 0 = .ok (.aload_n 0, 1) := of_q QX10_left_0 0 rfl
theorem dX10_left_1 : decode cX10_left 1 = .ok (.getfield 80, 3) := of_q QX10_left_0 1 rfl
theorem dX10_left_4 : decode cX10_left 4 = .ok (.aload_n 0, 1) := of_q QX10_left_0 2 rfl
theorem dX10_left_5 : decode cX10_left 5 = .ok (.getfield 185, 3) := of_q QX10_left_0 3 rfl
theorem dX10_left_8 : decode cX10_left 8 = .ok (.iconst 1, 1) := of_q QX10_left_0 4 rfl
theorem dX10_left_9 : decode cX10_left 9 = .ok (.isub, 1) := of_q QX10_left_0 5 rfl
theorem dX10_left_10 : decode cX10_left 10 = .ok (.iaload, 1) := of_q QX10_left_0 6 rfl
theorem dX10_left_11 : decode cX10_left 11 = .ok (.istore_n 1, 1) := of_q QX10_left_0 7 rfl
theorem dX10_left_12 : decode cX10_left 12 = .ok (.iconst 0, 1) := of_q QX10_left_0 8 rfl
theorem dX10_left_13 : decode cX10_left 13 = .ok (.istore_n 2, 1) := of_q QX10_left_0 9 rfl
theorem dX10_left_14 : decode cX10_left 14 = .ok (.iconst 0, 1) := of_q QX10_left_0 10 rfl
theorem dX10_left_15 : decode cX10_left 15 = .ok (.istore_n 3, 1) := of_q QX10_left_0 11 rfl
theorem dX10_left_16 : decode cX10_left 16 = .ok (.iload_n 3, 1) := of_q QX10_left_0 12 rfl
theorem dX10_left_17 : decode cX10_left 17 = .ok (.aload_n 0, 1) := of_q QX10_left_0 13 rfl
theorem dX10_left_18 : decode cX10_left 18 = .ok (.getfield 19, 3) := of_q QX10_left_0 14 rfl
theorem dX10_left_21 : decode cX10_left 21 = .ok (.iload_n 1, 1) := of_q QX10_left_0 15 rfl
theorem dX10_left_22 : decode cX10_left 22 = .ok (.iaload, 1) := of_q QX10_left_0 16 rfl
theorem dX10_left_23 : decode cX10_left 23 = .ok (.if_icmp .ge 49, 3) := of_q QX10_left_0 17 rfl
theorem dX10_left_26 : decode cX10_left 26 = .ok (.iload_n 2, 1) := of_q QX10_left_0 18 rfl
theorem dX10_left_27 : decode cX10_left 27 = .ok (.aload_n 0, 1) := of_q QX10_left_0 19 rfl
theorem dX10_left_28 : decode cX10_left 28 = .ok (.getfield 107, 3) := of_q QX10_left_0 20 rfl
theorem dX10_left_31 : decode cX10_left 31 = .ok (.aload_n 0, 1) := of_q QX10_left_0 21 rfl
theorem dX10_left_32 : decode cX10_left 32 = .ok (.getfield 185, 3) := of_q QX10_left_0 22 rfl
theorem dX10_left_35 : decode cX10_left 35 = .ok (.iconst 1, 1) := of_q QX10_left_0 23 rfl
theorem dX10_left_36 : decode cX10_left 36 = .ok (.isub, 1) := of_q QX10_left_0 24 rfl
theorem dX10_left_37 : decode cX10_left 37 = .ok (.laload, 1) := of_q QX10_left_0 25 rfl
theorem dX10_left_38 : decode cX10_left 38 = .ok (.iload_n 3, 1) := of_q QX10_left_0 26 rfl
theorem dX10_left_39 : decode cX10_left 39 = .ok (.lshr, 1) := of_q QX10_left_0 27 rfl
theorem dX10_left_40 : decode cX10_left 40 = .ok (.lconst 1, 1) := of_q QX10_left_0 28 rfl
theorem dX10_left_41 : decode cX10_left 41 = .ok (.land, 1) := of_q QX10_left_0 29 rfl
theorem dX10_left_42 : decode cX10_left 42 = .ok (.lconst 0, 1) := of_q QX10_left_0 30 rfl
theorem dX10_left_43 : decode cX10_left 43 = .ok (.lcmp, 1) := of_q QX10_left_0 31 rfl
theorem dX10_left_44 : decode cX10_left 44 = .ok (.ifCond .ne 19, 3) := of_q QX10_left_0 32 rfl
theorem dX10_left_47 : decode cX10_left 47 = .ok (.aload_n 0, 1) := of_q QX10_left_0 33 rfl
theorem dX10_left_48 : decode cX10_left 48 = .ok (.getfield 22, 3) := of_q QX10_left_0 34 rfl
theorem dX10_left_51 : decode cX10_left 51 = .ok (.aload_n 0, 1) := of_q QX10_left_0 35 rfl
theorem dX10_left_52 : decode cX10_left 52 = .ok (.getfield 16, 3) := of_q QX10_left_0 36 rfl
theorem dX10_left_55 : decode cX10_left 55 = .ok (.iload_n 1, 1) := of_q QX10_left_0 37 rfl
theorem dX10_left_56 : decode cX10_left 56 = .ok (.iaload, 1) := of_q QX10_left_0 38 rfl
theorem dX10_left_57 : decode cX10_left 57 = .ok (.iload_n 3, 1) := of_q QX10_left_0 39 rfl
theorem dX10_left_58 : decode cX10_left 58 = .ok (.iadd, 1) := of_q QX10_left_0 40 rfl
theorem dX10_left_59 : decode cX10_left 59 = .ok (.iaload, 1) := of_q QX10_left_0 41 rfl
theorem dX10_left_60 : decode cX10_left 60 = .ok (.goto 4, 3) := of_q QX10_left_0 42 rfl
theorem dX10_left_63 : decode cX10_left 63 = .ok (.iconst 0, 1) := of_q QX10_left_0 43 rfl
theorem dX10_left_64 : decode cX10_left 64 = .ok (.iadd, 1) := of_q QX10_left_0 44 rfl
theorem dX10_left_65 : decode cX10_left 65 = .ok (.istore_n 2, 1) := of_q QX10_left_0 45 rfl
theorem dX10_left_66 : decode cX10_left 66 = .ok (.iinc 3 1, 3) := of_q QX10_left_0 46 rfl
theorem dX10_left_69 : decode cX10_left 69 = .ok (.goto (-53), 3) := of_q QX10_left_0 47 rfl
theorem dX10_left_72 : decode cX10_left 72 = .ok (.iload_n 2, 1) := of_q QX10_left_0 48 rfl
theorem dX10_left_73 : decode cX10_left 73 = .ok (.ireturn, 1) := of_q QX10_left_0 49 rfl
def qX10_choose_0 : List (Nat × Instr × Nat) := [(0, .aload_n 0, 1), (1, .getfield 80, 3), (4, .aload_n 0, 1), (5, .getfield 185, 3), (8, .iconst 1, 1), (9, .isub, 1), (10, .iaload, 1), (11, .istore_n 2, 1), (12, .aload_n 0, 1), (13, .iload_n 1, 1), (14, .invokevirtual 182, 3), (17, .istore_n 3, 1), (18, .aload_n 0, 1), (19, .dup, 1), (20, .getfield 212, 3), (23, .iconst 1, 1), (24, .iadd, 1), (25, .putfield 212, 3), (28, .iconst (-1), 1), (29, .istore 4, 2), (31, .iconst 0, 1), (32, .istore 5, 2), (34, .iload 5, 2), (36, .aload_n 0, 1), (37, .getfield 19, 3), (40, .iload_n 2, 1), (41, .iaload, 1), (42, .if_icmp .ge 65, 3), (45, .iload 4, 2), (47, .ifCond .ge 60, 3), (50, .aload_n 0, 1), (51, .getfield 107, 3), (54, .aload_n 0, 1), (55, .getfield 185, 3), (58, .iconst 1, 1), (59, .isub, 1), (60, .laload, 1), (61, .iload 5, 2), (63, .lshr, 1), (64, .lconst 1, 1), (65, .land, 1), (66, .lconst 0, 1), (67, .lcmp, 1), (68, .ifCond .ne 33, 3), (71, .iload_n 3, 1), (72, .aload_n 0, 1), (73, .getfield 22, 3), (76, .aload_n 0, 1), (77, .getfield 16, 3), (80, .iload_n 2, 1), (81, .iaload, 1), (82, .iload 5, 2), (84, .iadd, 1), (85, .iaload, 1), (86, .isub, 1), (87, .istore_n 3, 1), (88, .iload_n 3, 1), (89, .ifCond .ge 8, 3), (92, .iload 5, 2), (94, .goto 5, 3)]
theorem QX10_choose_0 : qX10_choose_0.all (fun q => decide (decode cX10_choose q.1 = .ok q.2)) = true := by decide +kernel
theorem dX10_choose_0 : decode cX10_choose 0 = .ok (.aload_n 0, 1) := of_q QX10_choose_0 0 rfl
theorem dX10_choose_1 : decode cX10_choose 1 = .ok (.getfield 80, 3) := of_q QX10_choose_0 1 rfl
theorem dX10_choose_4 : decode cX10_choose 4 = .ok (.aload_n 0, 1) := of_q QX10_choose_0 2 rfl
theorem dX10_choose_5 : decode cX10_choose 5 = .ok (.getfield 185, 3) := of_q QX10_choose_0 3 rfl
theorem dX10_choose_8 : decode cX10_choose 8 = .ok (.iconst 1, 1) := of_q QX10_choose_0 4 rfl
theorem dX10_choose_9 : decode cX10_choose 9 = .ok (.isub, 1) := of_q QX10_choose_0 5 rfl
theorem dX10_choose_10 : decode cX10_choose 10 = .ok (.iaload, 1) := of_q QX10_choose_0 6 rfl
theorem dX10_choose_11 : decode cX10_choose 11 = .ok (.istore_n 2, 1) := of_q QX10_choose_0 7 rfl
theorem dX10_choose_12 : decode cX10_choose 12 = .ok (.aload_n 0, 1) := of_q QX10_choose_0 8 rfl
theorem dX10_choose_13 : decode cX10_choose 13 = .ok (.iload_n 1, 1) := of_q QX10_choose_0 9 rfl
theorem dX10_choose_14 : decode cX10_choose 14 = .ok (.invokevirtual 182, 3) := of_q QX10_choose_0 10 rfl
theorem dX10_choose_17 : decode cX10_choose 17 = .ok (.istore_n 3, 1) := of_q QX10_choose_0 11 rfl
theorem dX10_choose_18 : decode cX10_choose 18 = .ok (.aload_n 0, 1) := of_q QX10_choose_0 12 rfl
theorem dX10_choose_19 : decode cX10_choose 19 = .ok (.dup, 1) := of_q QX10_choose_0 13 rfl
theorem dX10_choose_20 : decode cX10_choose 20 = .ok (.getfield 212, 3) := of_q QX10_choose_0 14 rfl
theorem dX10_choose_23 : decode cX10_choose 23 = .ok (.iconst 1, 1) := of_q QX10_choose_0 15 rfl
theorem dX10_choose_24 : decode cX10_choose 24 = .ok (.iadd, 1) := of_q QX10_choose_0 16 rfl
theorem dX10_choose_25 : decode cX10_choose 25 = .ok (.putfield 212, 3) := of_q QX10_choose_0 17 rfl
theorem dX10_choose_28 : decode cX10_choose 28 = .ok (.iconst (-1), 1) := of_q QX10_choose_0 18 rfl
theorem dX10_choose_29 : decode cX10_choose 29 = .ok (.istore 4, 2) := of_q QX10_choose_0 19 rfl
theorem dX10_choose_31 : decode cX10_choose 31 = .ok (.iconst 0, 1) := of_q QX10_choose_0 20 rfl
theorem dX10_choose_32 : decode cX10_choose 32 = .ok (.istore 5, 2) := of_q QX10_choose_0 21 rfl
theorem dX10_choose_34 : decode cX10_choose 34 = .ok (.iload 5, 2) := of_q QX10_choose_0 22 rfl
theorem dX10_choose_36 : decode cX10_choose 36 = .ok (.aload_n 0, 1) := of_q QX10_choose_0 23 rfl
theorem dX10_choose_37 : decode cX10_choose 37 = .ok (.getfield 19, 3) := of_q QX10_choose_0 24 rfl
theorem dX10_choose_40 : decode cX10_choose 40 = .ok (.iload_n 2, 1) := of_q QX10_choose_0 25 rfl
theorem dX10_choose_41 : decode cX10_choose 41 = .ok (.iaload, 1) := of_q QX10_choose_0 26 rfl
theorem dX10_choose_42 : decode cX10_choose 42 = .ok (.if_icmp .ge 65, 3) := of_q QX10_choose_0 27 rfl
theorem dX10_choose_45 : decode cX10_choose 45 = .ok (.iload 4, 2) := of_q QX10_choose_0 28 rfl
theorem dX10_choose_47 : decode cX10_choose 47 = .ok (.ifCond .ge 60, 3) := of_q QX10_choose_0 29 rfl
theorem dX10_choose_50 : decode cX10_choose 50 = .ok (.aload_n 0, 1) := of_q QX10_choose_0 30 rfl
theorem dX10_choose_51 : decode cX10_choose 51 = .ok (.getfield 107, 3) := of_q QX10_choose_0 31 rfl
theorem dX10_choose_54 : decode cX10_choose 54 = .ok (.aload_n 0, 1) := of_q QX10_choose_0 32 rfl
theorem dX10_choose_55 : decode cX10_choose 55 = .ok (.getfield 185, 3) := of_q QX10_choose_0 33 rfl
theorem dX10_choose_58 : decode cX10_choose 58 = .ok (.iconst 1, 1) := of_q QX10_choose_0 34 rfl
theorem dX10_choose_59 : decode cX10_choose 59 = .ok (.isub, 1) := of_q QX10_choose_0 35 rfl
theorem dX10_choose_60 : decode cX10_choose 60 = .ok (.laload, 1) := of_q QX10_choose_0 36 rfl
theorem dX10_choose_61 : decode cX10_choose 61 = .ok (.iload 5, 2) := of_q QX10_choose_0 37 rfl
theorem dX10_choose_63 : decode cX10_choose 63 = .ok (.lshr, 1) := of_q QX10_choose_0 38 rfl
theorem dX10_choose_64 : decode cX10_choose 64 = .ok (.lconst 1, 1) := of_q QX10_choose_0 39 rfl
theorem dX10_choose_65 : decode cX10_choose 65 = .ok (.land, 1) := of_q QX10_choose_0 40 rfl
theorem dX10_choose_66 : decode cX10_choose 66 = .ok (.lconst 0, 1) := of_q QX10_choose_0 41 rfl
theorem dX10_choose_67 : decode cX10_choose 67 = .ok (.lcmp, 1) := of_q QX10_choose_0 42 rfl
theorem dX10_choose_68 : decode cX10_choose 68 = .ok (.ifCond .ne 33, 3) := of_q QX10_choose_0 43 rfl
theorem dX10_choose_71 : decode cX10_choose 71 = .ok (.iload_n 3, 1) := of_q QX10_choose_0 44 rfl
theorem dX10_choose_72 : decode cX10_choose 72 = .ok (.aload_n 0, 1) := of_q QX10_choose_0 45 rfl
theorem dX10_choose_73 : decode cX10_choose 73 = .ok (.getfield 22, 3) := of_q QX10_choose_0 46 rfl
theorem dX10_choose_76 : decode cX10_choose 76 = .ok (.aload_n 0, 1) := of_q QX10_choose_0 47 rfl
theorem dX10_choose_77 : decode cX10_choose 77 = .ok (.getfield 16, 3) := of_q QX10_choose_0 48 rfl
theorem dX10_choose_80 : decode cX10_choose 80 = .ok (.iload_n 2, 1) := of_q QX10_choose_0 49 rfl
theorem dX10_choose_81 : decode cX10_choose 81 = .ok (.iaload, 1) := of_q QX10_choose_0 50 rfl
theorem dX10_choose_82 : decode cX10_choose 82 = .ok (.iload 5, 2) := of_q QX10_choose_0 51 rfl
theorem dX10_choose_84 : decode cX10_choose 84 = .ok (.iadd, 1) := of_q QX10_choose_0 52 rfl
theorem dX10_choose_85 : decode cX10_choose 85 = .ok (.iaload, 1) := of_q QX10_choose_0 53 rfl
theorem dX10_choose_86 : decode cX10_choose 86 = .ok (.isub, 1) := of_q QX10_choose_0 54 rfl
theorem dX10_choose_87 : decode cX10_choose 87 = .ok (.istore_n 3, 1) := of_q QX10_choose_0 55 rfl
theorem dX10_choose_88 : decode cX10_choose 88 = .ok (.iload_n 3, 1) := of_q QX10_choose_0 56 rfl
theorem dX10_choose_89 : decode cX10_choose 89 = .ok (.ifCond .ge 8, 3) := of_q QX10_choose_0 57 rfl
theorem dX10_choose_92 : decode cX10_choose 92 = .ok (.iload 5, 2) := of_q QX10_choose_0 58 rfl
theorem dX10_choose_94 : decode cX10_choose 94 = .ok (.goto 5, 3) := of_q QX10_choose_0 59 rfl
def qX10_choose_1 : List (Nat × Instr × Nat) := [(97, .iload 4, 2), (99, .istore 4, 2), (101, .iinc 5 1, 3), (104, .goto (-70), 3), (107, .aload_n 0, 1), (108, .getfield 107, 3), (111, .aload_n 0, 1), (112, .getfield 185, 3), (115, .iconst 1, 1), (116, .isub, 1), (117, .dup2, 1), (118, .laload, 1), (119, .lconst 1, 1), (120, .iload 4, 2), (122, .lshl, 1), (123, .lor, 1), (124, .lastore, 1), (125, .aload_n 0, 1), (126, .getfield 16, 3), (129, .iload_n 2, 1), (130, .iaload, 1), (131, .iload 4, 2), (133, .iadd, 1), (134, .istore 5, 2), (136, .aload_n 0, 1), (137, .getfield 28, 3), (140, .iload 5, 2), (142, .iaload, 1), (143, .iconst 1, 1), (144, .isub, 1), (145, .istore 6, 2), (147, .iload 6, 2), (149, .ifCond .lt 23, 3), (152, .aload_n 0, 1), (153, .aload_n 0, 1), (154, .getfield 25, 3), (157, .iload 5, 2), (159, .iaload, 1), (160, .iload 6, 2), (162, .iadd, 1), (163, .invokevirtual 215, 3), (166, .iinc 6 (-1), 3), (169, .goto (-22), 3), (172, .aload_n 0, 1), (173, .getfield 191, 3), (176, .sipush 200, 3), (179, .if_icmp .gt 7, 3), (182, .iconst 1, 1), (183, .goto 4, 3), (186, .iconst 0, 1), (187, .ireturn, 1)]
theorem QX10_choose_1 : qX10_choose_1.all (fun q => decide (decode cX10_choose q.1 = .ok q.2)) = true := by decide +kernel
theorem dX10_choose_97 : decode cX10_choose 97 = .ok (.iload 4, 2) := of_q QX10_choose_1 0 rfl
theorem dX10_choose_99 : decode cX10_choose 99 = .ok (.istore 4, 2) := of_q QX10_choose_1 1 rfl
theorem dX10_choose_101 : decode cX10_choose 101 = .ok (.iinc 5 1, 3) := of_q QX10_choose_1 2 rfl
theorem dX10_choose_104 : decode cX10_choose 104 = .ok (.goto (-70), 3) := of_q QX10_choose_1 3 rfl
theorem dX10_choose_107 : decode cX10_choose 107 = .ok (.aload_n 0, 1) := of_q QX10_choose_1 4 rfl
theorem dX10_choose_108 : decode cX10_choose 108 = .ok (.getfield 107, 3) := of_q QX10_choose_1 5 rfl
theorem dX10_choose_111 : decode cX10_choose 111 = .ok (.aload_n 0, 1) := of_q QX10_choose_1 6 rfl
theorem dX10_choose_112 : decode cX10_choose 112 = .ok (.getfield 185, 3) := of_q QX10_choose_1 7 rfl
theorem dX10_choose_115 : decode cX10_choose 115 = .ok (.iconst 1, 1) := of_q QX10_choose_1 8 rfl
theorem dX10_choose_116 : decode cX10_choose 116 = .ok (.isub, 1) := of_q QX10_choose_1 9 rfl
theorem dX10_choose_117 : decode cX10_choose 117 = .ok (.dup2, 1) := of_q QX10_choose_1 10 rfl
theorem dX10_choose_118 : decode cX10_choose 118 = .ok (.laload, 1) := of_q QX10_choose_1 11 rfl
theorem dX10_choose_119 : decode cX10_choose 119 = .ok (.lconst 1, 1) := of_q QX10_choose_1 12 rfl
theorem dX10_choose_120 : decode cX10_choose 120 = .ok (.iload 4, 2) := of_q QX10_choose_1 13 rfl
theorem dX10_choose_122 : decode cX10_choose 122 = .ok (.lshl, 1) := of_q QX10_choose_1 14 rfl
theorem dX10_choose_123 : decode cX10_choose 123 = .ok (.lor, 1) := of_q QX10_choose_1 15 rfl
theorem dX10_choose_124 : decode cX10_choose 124 = .ok (.lastore, 1) := of_q QX10_choose_1 16 rfl
theorem dX10_choose_125 : decode cX10_choose 125 = .ok (.aload_n 0, 1) := of_q QX10_choose_1 17 rfl
theorem dX10_choose_126 : decode cX10_choose 126 = .ok (.getfield 16, 3) := of_q QX10_choose_1 18 rfl
theorem dX10_choose_129 : decode cX10_choose 129 = .ok (.iload_n 2, 1) := of_q QX10_choose_1 19 rfl
theorem dX10_choose_130 : decode cX10_choose 130 = .ok (.iaload, 1) := of_q QX10_choose_1 20 rfl
theorem dX10_choose_131 : decode cX10_choose 131 = .ok (.iload 4, 2) := of_q QX10_choose_1 21 rfl
theorem dX10_choose_133 : decode cX10_choose 133 = .ok (.iadd, 1) := of_q QX10_choose_1 22 rfl
theorem dX10_choose_134 : decode cX10_choose 134 = .ok (.istore 5, 2) := of_q QX10_choose_1 23 rfl
theorem dX10_choose_136 : decode cX10_choose 136 = .ok (.aload_n 0, 1) := of_q QX10_choose_1 24 rfl
theorem dX10_choose_137 : decode cX10_choose 137 = .ok (.getfield 28, 3) := of_q QX10_choose_1 25 rfl
theorem dX10_choose_140 : decode cX10_choose 140 = .ok (.iload 5, 2) := of_q QX10_choose_1 26 rfl
theorem dX10_choose_142 : decode cX10_choose 142 = .ok (.iaload, 1) := of_q QX10_choose_1 27 rfl
theorem dX10_choose_143 : decode cX10_choose 143 = .ok (.iconst 1, 1) := of_q QX10_choose_1 28 rfl
theorem dX10_choose_144 : decode cX10_choose 144 = .ok (.isub, 1) := of_q QX10_choose_1 29 rfl
theorem dX10_choose_145 : decode cX10_choose 145 = .ok (.istore 6, 2) := of_q QX10_choose_1 30 rfl
theorem dX10_choose_147 : decode cX10_choose 147 = .ok (.iload 6, 2) := of_q QX10_choose_1 31 rfl
theorem dX10_choose_149 : decode cX10_choose 149 = .ok (.ifCond .lt 23, 3) := of_q QX10_choose_1 32 rfl
theorem dX10_choose_152 : decode cX10_choose 152 = .ok (.aload_n 0, 1) := of_q QX10_choose_1 33 rfl
theorem dX10_choose_153 : decode cX10_choose 153 = .ok (.aload_n 0, 1) := of_q QX10_choose_1 34 rfl
theorem dX10_choose_154 : decode cX10_choose 154 = .ok (.getfield 25, 3) := of_q QX10_choose_1 35 rfl
theorem dX10_choose_157 : decode cX10_choose 157 = .ok (.iload 5, 2) := of_q QX10_choose_1 36 rfl
theorem dX10_choose_159 : decode cX10_choose 159 = .ok (.iaload, 1) := of_q QX10_choose_1 37 rfl
theorem dX10_choose_160 : decode cX10_choose 160 = .ok (.iload 6, 2) := of_q QX10_choose_1 38 rfl
theorem dX10_choose_162 : decode cX10_choose 162 = .ok (.iadd, 1) := of_q QX10_choose_1 39 rfl
theorem dX10_choose_163 : decode cX10_choose 163 = .ok (.invokevirtual 215, 3) := of_q QX10_choose_1 40 rfl
theorem dX10_choose_166 : decode cX10_choose 166 = .ok (.iinc 6 (-1), 3) := of_q QX10_choose_1 41 rfl
theorem dX10_choose_169 : decode cX10_choose 169 = .ok (.goto (-22), 3) := of_q QX10_choose_1 42 rfl
theorem dX10_choose_172 : decode cX10_choose 172 = .ok (.aload_n 0, 1) := of_q QX10_choose_1 43 rfl
theorem dX10_choose_173 : decode cX10_choose 173 = .ok (.getfield 191, 3) := of_q QX10_choose_1 44 rfl
theorem dX10_choose_176 : decode cX10_choose 176 = .ok (.sipush 200, 3) := of_q QX10_choose_1 45 rfl
theorem dX10_choose_179 : decode cX10_choose 179 = .ok (.if_icmp .gt 7, 3) := of_q QX10_choose_1 46 rfl
theorem dX10_choose_182 : decode cX10_choose 182 = .ok (.iconst 1, 1) := of_q QX10_choose_1 47 rfl
theorem dX10_choose_183 : decode cX10_choose 183 = .ok (.goto 4, 3) := of_q QX10_choose_1 48 rfl
theorem dX10_choose_186 : decode cX10_choose 186 = .ok (.iconst 0, 1) := of_q QX10_choose_1 49 rfl
theorem dX10_choose_187 : decode cX10_choose 187 = .ok (.ireturn, 1) := of_q QX10_choose_1 50 rfl
def qX10_put_0 : List (Nat × Instr × Nat) := [(0, .aload_n 0, 1), (1, .getfield 74, 3), (4, .aload_n 0, 1), (5, .getfield 209, 3), (8, .iload_n 1, 1), (9, .iastore, 1), (10, .aload_n 0, 1), (11, .getfield 77, 3), (14, .aload_n 0, 1), (15, .getfield 209, 3), (18, .aload_n 0, 1), (19, .getfield 188, 3), (22, .iastore, 1), (23, .aload_n 0, 1), (24, .aload_n 0, 1), (25, .getfield 209, 3), (28, .putfield 188, 3), (31, .aload_n 0, 1), (32, .dup, 1), (33, .getfield 209, 3), (36, .iconst 1, 1), (37, .iadd, 1), (38, .putfield 209, 3), (41, .aload_n 0, 1), (42, .dup, 1), (43, .getfield 191, 3), (46, .iconst 1, 1), (47, .iadd, 1), (48, .putfield 191, 3), (51, .return_, 1)]
theorem QX10_put_0 : qX10_put_0.all (fun q => decide (decode cX10_put q.1 = .ok q.2)) = true := by decide +kernel
theorem dX10_put_0 : decode cX10_put 0 = .ok (.aload_n 0, 1) := of_q QX10_put_0 0 rfl
theorem dX10_put_1 : decode cX10_put 1 = .ok (.getfield 74, 3) := of_q QX10_put_0 1 rfl
theorem dX10_put_4 : decode cX10_put 4 = .ok (.aload_n 0, 1) := of_q QX10_put_0 2 rfl
theorem dX10_put_5 : decode cX10_put 5 = .ok (.getfield 209, 3) := of_q QX10_put_0 3 rfl
theorem dX10_put_8 : decode cX10_put 8 = .ok (.iload_n 1, 1) := of_q QX10_put_0 4 rfl
theorem dX10_put_9 : decode cX10_put 9 = .ok (.iastore, 1) := of_q QX10_put_0 5 rfl
theorem dX10_put_10 : decode cX10_put 10 = .ok (.aload_n 0, 1) := of_q QX10_put_0 6 rfl
theorem dX10_put_11 : decode cX10_put 11 = .ok (.getfield 77, 3) := of_q QX10_put_0 7 rfl
theorem dX10_put_14 : decode cX10_put 14 = .ok (.aload_n 0, 1) := of_q QX10_put_0 8 rfl
theorem dX10_put_15 : decode cX10_put 15 = .ok (.getfield 209, 3) := of_q QX10_put_0 9 rfl
theorem dX10_put_18 : decode cX10_put 18 = .ok (.aload_n 0, 1) := of_q QX10_put_0 10 rfl
theorem dX10_put_19 : decode cX10_put 19 = .ok (.getfield 188, 3) := of_q QX10_put_0 11 rfl
theorem dX10_put_22 : decode cX10_put 22 = .ok (.iastore, 1) := of_q QX10_put_0 12 rfl
theorem dX10_put_23 : decode cX10_put 23 = .ok (.aload_n 0, 1) := of_q QX10_put_0 13 rfl
theorem dX10_put_24 : decode cX10_put 24 = .ok (.aload_n 0, 1) := of_q QX10_put_0 14 rfl
theorem dX10_put_25 : decode cX10_put 25 = .ok (.getfield 209, 3) := of_q QX10_put_0 15 rfl
theorem dX10_put_28 : decode cX10_put 28 = .ok (.putfield 188, 3) := of_q QX10_put_0 16 rfl
theorem dX10_put_31 : decode cX10_put 31 = .ok (.aload_n 0, 1) := of_q QX10_put_0 17 rfl
theorem dX10_put_32 : decode cX10_put 32 = .ok (.dup, 1) := of_q QX10_put_0 18 rfl
theorem dX10_put_33 : decode cX10_put 33 = .ok (.getfield 209, 3) := of_q QX10_put_0 19 rfl
theorem dX10_put_36 : decode cX10_put 36 = .ok (.iconst 1, 1) := of_q QX10_put_0 20 rfl
theorem dX10_put_37 : decode cX10_put 37 = .ok (.iadd, 1) := of_q QX10_put_0 21 rfl
theorem dX10_put_38 : decode cX10_put 38 = .ok (.putfield 209, 3) := of_q QX10_put_0 22 rfl
theorem dX10_put_41 : decode cX10_put 41 = .ok (.aload_n 0, 1) := of_q QX10_put_0 23 rfl
theorem dX10_put_42 : decode cX10_put 42 = .ok (.dup, 1) := of_q QX10_put_0 24 rfl
theorem dX10_put_43 : decode cX10_put 43 = .ok (.getfield 191, 3) := of_q QX10_put_0 25 rfl
theorem dX10_put_46 : decode cX10_put 46 = .ok (.iconst 1, 1) := of_q QX10_put_0 26 rfl
theorem dX10_put_47 : decode cX10_put 47 = .ok (.iadd, 1) := of_q QX10_put_0 27 rfl
theorem dX10_put_48 : decode cX10_put 48 = .ok (.putfield 191, 3) := of_q QX10_put_0 28 rfl
theorem dX10_put_51 : decode cX10_put 51 = .ok (.return_, 1) := of_q QX10_put_0 29 rfl
def qX10_sound_0 : List (Nat × Instr × Nat) := [(0, .aload_n 0, 1), (1, .getfield 194, 3), (4, .istore_n 3, 1), (5, .aload_n 0, 1), (6, .getfield 40, 3), (9, .iload_n 1, 1), (10, .iaload, 1), (11, .istore 4, 2), (13, .iload_n 3, 1), (14, .iload 4, 2), (16, .iadd, 1), (17, .bipush 16, 2), (19, .iload_n 2, 1), (20, .imul, 1), (21, .if_icmp .gt 33, 3), (24, .aload_n 0, 1), (25, .getfield 58, 3), (28, .iconst 4, 1), (29, .iaload, 1), (30, .iconst 1, 1), (31, .if_icmp .eq 19, 3), (34, .iload_n 3, 1), (35, .bipush 16, 2), (37, .idiv, 1), (38, .iload_n 3, 1), (39, .iload 4, 2), (41, .iadd, 1), (42, .iconst 1, 1), (43, .isub, 1), (44, .bipush 16, 2), (46, .idiv, 1), (47, .if_icmp .ne 7, 3), (50, .iconst 1, 1), (51, .goto 4, 3), (54, .iconst 0, 1), (55, .istore 5, 2), (57, .iconst (-1), 1), (58, .istore 6, 2), (60, .aload_n 0, 1), (61, .getfield 31, 3), (64, .iload_n 1, 1), (65, .iaload, 1), (66, .iconst 1, 1), (67, .if_icmp .ne 163, 3), (70, .bipush 60, 2), (72, .aload_n 0, 1), (73, .getfield 7, 3), (76, .aload_n 0, 1), (77, .getfield 34, 3), (80, .iload_n 1, 1), (81, .iaload, 1), (82, .iaload, 1), (83, .iadd, 1), (84, .bipush 12, 2), (86, .aload_n 0, 1), (87, .getfield 37, 3), (90, .iload_n 1, 1), (91, .iaload, 1), (92, .imul, 1), (93, .iadd, 1)]
theorem QX10_sound_0 : qX10_sound_0.all (fun q => decide (decode cX10_sound q.1 = .ok q.2)) = true := by decide +kernel
theorem dX10_sound_0 : decode cX10_sound 0 = .ok (.aload_n 0, 1) := of_q QX10_sound_0 0 rfl
theorem dX10_sound_1 : decode cX10_sound 1 = .ok (.getfield 194, 3) := of_q QX10_sound_0 1 rfl
theorem dX10_sound_4 : decode cX10_sound 4 = .ok (.istore_n 3, 1) := of_q QX10_sound_0 2 rfl
theorem dX10_sound_5 : decode cX10_sound 5 = .ok (.aload_n 0, 1) := of_q QX10_sound_0 3 rfl
theorem dX10_sound_6 : decode cX10_sound 6 = .ok (.getfield 40, 3) := of_q QX10_sound_0 4 rfl
theorem dX10_sound_9 : decode cX10_sound 9 = .ok (.iload_n 1, 1) := of_q QX10_sound_0 5 rfl
theorem dX10_sound_10 : decode cX10_sound 10 = .ok (.iaload, 1) := of_q QX10_sound_0 6 rfl
theorem dX10_sound_11 : decode cX10_sound 11 = .ok (.istore 4, 2) := of_q QX10_sound_0 7 rfl
theorem dX10_sound_13 : decode cX10_sound 13 = .ok (.iload_n 3, 1) := of_q QX10_sound_0 8 rfl
theorem dX10_sound_14 : decode cX10_sound 14 = .ok (.iload 4, 2) := of_q QX10_sound_0 9 rfl
theorem dX10_sound_16 : decode cX10_sound 16 = .ok (.iadd, 1) := of_q QX10_sound_0 10 rfl
theorem dX10_sound_17 : decode cX10_sound 17 = .ok (.bipush 16, 2) := of_q QX10_sound_0 11 rfl
theorem dX10_sound_19 : decode cX10_sound 19 = .ok (.iload_n 2, 1) := of_q QX10_sound_0 12 rfl
theorem dX10_sound_20 : decode cX10_sound 20 = .ok (.imul, 1) := of_q QX10_sound_0 13 rfl
theorem dX10_sound_21 : decode cX10_sound 21 = .ok (.if_icmp .gt 33, 3) := of_q QX10_sound_0 14 rfl
theorem dX10_sound_24 : decode cX10_sound 24 = .ok (.aload_n 0, 1) := of_q QX10_sound_0 15 rfl
theorem dX10_sound_25 : decode cX10_sound 25 = .ok (.getfield 58, 3) := of_q QX10_sound_0 16 rfl
theorem dX10_sound_28 : decode cX10_sound 28 = .ok (.iconst 4, 1) := of_q QX10_sound_0 17 rfl
theorem dX10_sound_29 : decode cX10_sound 29 = .ok (.iaload, 1) := of_q QX10_sound_0 18 rfl
theorem dX10_sound_30 : decode cX10_sound 30 = .ok (.iconst 1, 1) := of_q QX10_sound_0 19 rfl
theorem dX10_sound_31 : decode cX10_sound 31 = .ok (.if_icmp .eq 19, 3) := of_q QX10_sound_0 20 rfl
theorem dX10_sound_34 : decode cX10_sound 34 = .ok (.iload_n 3, 1) := of_q QX10_sound_0 21 rfl
theorem dX10_sound_35 : decode cX10_sound 35 = .ok (.bipush 16, 2) := of_q QX10_sound_0 22 rfl
theorem dX10_sound_37 : decode cX10_sound 37 = .ok (.idiv, 1) := of_q QX10_sound_0 23 rfl
theorem dX10_sound_38 : decode cX10_sound 38 = .ok (.iload_n 3, 1) := of_q QX10_sound_0 24 rfl
theorem dX10_sound_39 : decode cX10_sound 39 = .ok (.iload 4, 2) := of_q QX10_sound_0 25 rfl
theorem dX10_sound_41 : decode cX10_sound 41 = .ok (.iadd, 1) := of_q QX10_sound_0 26 rfl
theorem dX10_sound_42 : decode cX10_sound 42 = .ok (.iconst 1, 1) := of_q QX10_sound_0 27 rfl
theorem dX10_sound_43 : decode cX10_sound 43 = .ok (.isub, 1) := of_q QX10_sound_0 28 rfl
theorem dX10_sound_44 : decode cX10_sound 44 = .ok (.bipush 16, 2) := of_q QX10_sound_0 29 rfl
theorem dX10_sound_46 : decode cX10_sound 46 = .ok (.idiv, 1) := of_q QX10_sound_0 30 rfl
theorem dX10_sound_47 : decode cX10_sound 47 = .ok (.if_icmp .ne 7, 3) := of_q QX10_sound_0 31 rfl
theorem dX10_sound_50 : decode cX10_sound 50 = .ok (.iconst 1, 1) := of_q QX10_sound_0 32 rfl
theorem dX10_sound_51 : decode cX10_sound 51 = .ok (.goto 4, 3) := of_q QX10_sound_0 33 rfl
theorem dX10_sound_54 : decode cX10_sound 54 = .ok (.iconst 0, 1) := of_q QX10_sound_0 34 rfl
theorem dX10_sound_55 : decode cX10_sound 55 = .ok (.istore 5, 2) := of_q QX10_sound_0 35 rfl
theorem dX10_sound_57 : decode cX10_sound 57 = .ok (.iconst (-1), 1) := of_q QX10_sound_0 36 rfl
theorem dX10_sound_58 : decode cX10_sound 58 = .ok (.istore 6, 2) := of_q QX10_sound_0 37 rfl
theorem dX10_sound_60 : decode cX10_sound 60 = .ok (.aload_n 0, 1) := of_q QX10_sound_0 38 rfl
theorem dX10_sound_61 : decode cX10_sound 61 = .ok (.getfield 31, 3) := of_q QX10_sound_0 39 rfl
theorem dX10_sound_64 : decode cX10_sound 64 = .ok (.iload_n 1, 1) := of_q QX10_sound_0 40 rfl
theorem dX10_sound_65 : decode cX10_sound 65 = .ok (.iaload, 1) := of_q QX10_sound_0 41 rfl
theorem dX10_sound_66 : decode cX10_sound 66 = .ok (.iconst 1, 1) := of_q QX10_sound_0 42 rfl
theorem dX10_sound_67 : decode cX10_sound 67 = .ok (.if_icmp .ne 163, 3) := of_q QX10_sound_0 43 rfl
theorem dX10_sound_70 : decode cX10_sound 70 = .ok (.bipush 60, 2) := of_q QX10_sound_0 44 rfl
theorem dX10_sound_72 : decode cX10_sound 72 = .ok (.aload_n 0, 1) := of_q QX10_sound_0 45 rfl
theorem dX10_sound_73 : decode cX10_sound 73 = .ok (.getfield 7, 3) := of_q QX10_sound_0 46 rfl
theorem dX10_sound_76 : decode cX10_sound 76 = .ok (.aload_n 0, 1) := of_q QX10_sound_0 47 rfl
theorem dX10_sound_77 : decode cX10_sound 77 = .ok (.getfield 34, 3) := of_q QX10_sound_0 48 rfl
theorem dX10_sound_80 : decode cX10_sound 80 = .ok (.iload_n 1, 1) := of_q QX10_sound_0 49 rfl
theorem dX10_sound_81 : decode cX10_sound 81 = .ok (.iaload, 1) := of_q QX10_sound_0 50 rfl
theorem dX10_sound_82 : decode cX10_sound 82 = .ok (.iaload, 1) := of_q QX10_sound_0 51 rfl
theorem dX10_sound_83 : decode cX10_sound 83 = .ok (.iadd, 1) := of_q QX10_sound_0 52 rfl
theorem dX10_sound_84 : decode cX10_sound 84 = .ok (.bipush 12, 2) := of_q QX10_sound_0 53 rfl
theorem dX10_sound_86 : decode cX10_sound 86 = .ok (.aload_n 0, 1) := of_q QX10_sound_0 54 rfl
theorem dX10_sound_87 : decode cX10_sound 87 = .ok (.getfield 37, 3) := of_q QX10_sound_0 55 rfl
theorem dX10_sound_90 : decode cX10_sound 90 = .ok (.iload_n 1, 1) := of_q QX10_sound_0 56 rfl
theorem dX10_sound_91 : decode cX10_sound 91 = .ok (.iaload, 1) := of_q QX10_sound_0 57 rfl
theorem dX10_sound_92 : decode cX10_sound 92 = .ok (.imul, 1) := of_q QX10_sound_0 58 rfl
theorem dX10_sound_93 : decode cX10_sound 93 = .ok (.iadd, 1) := of_q QX10_sound_0 59 rfl
def qX10_sound_1 : List (Nat × Instr × Nat) := [(94, .istore 6, 2), (96, .aload_n 0, 1), (97, .getfield 200, 3), (100, .ifCond .ge 7, 3), (103, .iconst 0, 1), (104, .goto 29, 3), (107, .iload 6, 2), (109, .aload_n 0, 1), (110, .getfield 200, 3), (113, .if_icmp .le 13, 3), (116, .iload 6, 2), (118, .aload_n 0, 1), (119, .getfield 200, 3), (122, .isub, 1), (123, .goto 10, 3), (126, .aload_n 0, 1), (127, .getfield 200, 3), (130, .iload 6, 2), (132, .isub, 1), (133, .istore 7, 2), (135, .aload_n 0, 1), (136, .iload 6, 2), (138, .aload_n 0, 1), (139, .getfield 200, 3), (142, .if_icmp .ne 12, 3), (145, .aload_n 0, 1), (146, .getfield 206, 3), (149, .iconst 1, 1), (150, .iadd, 1), (151, .goto 4, 3), (154, .iconst 1, 1), (155, .putfield 206, 3), (158, .iload 5, 2), (160, .iload 6, 2), (162, .aload_n 0, 1), (163, .getfield 58, 3), (166, .iconst 0, 1), (167, .iaload, 1), (168, .if_icmp .lt 42, 3), (171, .iload 6, 2), (173, .aload_n 0, 1), (174, .getfield 58, 3), (177, .iconst 1, 1), (178, .iaload, 1), (179, .if_icmp .gt 31, 3), (182, .iload 7, 2), (184, .aload_n 0, 1), (185, .getfield 58, 3), (188, .iconst 2, 1), (189, .iaload, 1), (190, .if_icmp .gt 20, 3), (193, .aload_n 0, 1), (194, .getfield 206, 3), (197, .aload_n 0, 1), (198, .getfield 58, 3), (201, .iconst 3, 1), (202, .iaload, 1), (203, .if_icmp .gt 7, 3), (206, .iconst 1, 1), (207, .goto 4, 3)]
theorem QX10_sound_1 : qX10_sound_1.all (fun q => decide (decode cX10_sound q.1 = .ok q.2)) = true := by decide +kernel
theorem dX10_sound_94 : decode cX10_sound 94 = .ok (.istore 6, 2) := of_q QX10_sound_1 0 rfl
theorem dX10_sound_96 : decode cX10_sound 96 = .ok (.aload_n 0, 1) := of_q QX10_sound_1 1 rfl
theorem dX10_sound_97 : decode cX10_sound 97 = .ok (.getfield 200, 3) := of_q QX10_sound_1 2 rfl
theorem dX10_sound_100 : decode cX10_sound 100 = .ok (.ifCond .ge 7, 3) := of_q QX10_sound_1 3 rfl
theorem dX10_sound_103 : decode cX10_sound 103 = .ok (.iconst 0, 1) := of_q QX10_sound_1 4 rfl
theorem dX10_sound_104 : decode cX10_sound 104 = .ok (.goto 29, 3) := of_q QX10_sound_1 5 rfl
theorem dX10_sound_107 : decode cX10_sound 107 = .ok (.iload 6, 2) := of_q QX10_sound_1 6 rfl
theorem dX10_sound_109 : decode cX10_sound 109 = .ok (.aload_n 0, 1) := of_q QX10_sound_1 7 rfl
theorem dX10_sound_110 : decode cX10_sound 110 = .ok (.getfield 200, 3) := of_q QX10_sound_1 8 rfl
theorem dX10_sound_113 : decode cX10_sound 113 = .ok (.if_icmp .le 13, 3) := of_q QX10_sound_1 9 rfl
theorem dX10_sound_116 : decode cX10_sound 116 = .ok (.iload 6, 2) := of_q QX10_sound_1 10 rfl
theorem dX10_sound_118 : decode cX10_sound 118 = .ok (.aload_n 0, 1) := of_q QX10_sound_1 11 rfl
theorem dX10_sound_119 : decode cX10_sound 119 = .ok (.getfield 200, 3) := of_q QX10_sound_1 12 rfl
theorem dX10_sound_122 : decode cX10_sound 122 = .ok (.isub, 1) := of_q QX10_sound_1 13 rfl
theorem dX10_sound_123 : decode cX10_sound 123 = .ok (.goto 10, 3) := of_q QX10_sound_1 14 rfl
theorem dX10_sound_126 : decode cX10_sound 126 = .ok (.aload_n 0, 1) := of_q QX10_sound_1 15 rfl
theorem dX10_sound_127 : decode cX10_sound 127 = .ok (.getfield 200, 3) := of_q QX10_sound_1 16 rfl
theorem dX10_sound_130 : decode cX10_sound 130 = .ok (.iload 6, 2) := of_q QX10_sound_1 17 rfl
theorem dX10_sound_132 : decode cX10_sound 132 = .ok (.isub, 1) := of_q QX10_sound_1 18 rfl
theorem dX10_sound_133 : decode cX10_sound 133 = .ok (.istore 7, 2) := of_q QX10_sound_1 19 rfl
theorem dX10_sound_135 : decode cX10_sound 135 = .ok (.aload_n 0, 1) := of_q QX10_sound_1 20 rfl
theorem dX10_sound_136 : decode cX10_sound 136 = .ok (.iload 6, 2) := of_q QX10_sound_1 21 rfl
theorem dX10_sound_138 : decode cX10_sound 138 = .ok (.aload_n 0, 1) := of_q QX10_sound_1 22 rfl
theorem dX10_sound_139 : decode cX10_sound 139 = .ok (.getfield 200, 3) := of_q QX10_sound_1 23 rfl
theorem dX10_sound_142 : decode cX10_sound 142 = .ok (.if_icmp .ne 12, 3) := of_q QX10_sound_1 24 rfl
theorem dX10_sound_145 : decode cX10_sound 145 = .ok (.aload_n 0, 1) := of_q QX10_sound_1 25 rfl
theorem dX10_sound_146 : decode cX10_sound 146 = .ok (.getfield 206, 3) := of_q QX10_sound_1 26 rfl
theorem dX10_sound_149 : decode cX10_sound 149 = .ok (.iconst 1, 1) := of_q QX10_sound_1 27 rfl
theorem dX10_sound_150 : decode cX10_sound 150 = .ok (.iadd, 1) := of_q QX10_sound_1 28 rfl
theorem dX10_sound_151 : decode cX10_sound 151 = .ok (.goto 4, 3) := of_q QX10_sound_1 29 rfl
theorem dX10_sound_154 : decode cX10_sound 154 = .ok (.iconst 1, 1) := of_q QX10_sound_1 30 rfl
theorem dX10_sound_155 : decode cX10_sound 155 = .ok (.putfield 206, 3) := of_q QX10_sound_1 31 rfl
theorem dX10_sound_158 : decode cX10_sound 158 = .ok (.iload 5, 2) := of_q QX10_sound_1 32 rfl
theorem dX10_sound_160 : decode cX10_sound 160 = .ok (.iload 6, 2) := of_q QX10_sound_1 33 rfl
theorem dX10_sound_162 : decode cX10_sound 162 = .ok (.aload_n 0, 1) := of_q QX10_sound_1 34 rfl
theorem dX10_sound_163 : decode cX10_sound 163 = .ok (.getfield 58, 3) := of_q QX10_sound_1 35 rfl
theorem dX10_sound_166 : decode cX10_sound 166 = .ok (.iconst 0, 1) := of_q QX10_sound_1 36 rfl
theorem dX10_sound_167 : decode cX10_sound 167 = .ok (.iaload, 1) := of_q QX10_sound_1 37 rfl
theorem dX10_sound_168 : decode cX10_sound 168 = .ok (.if_icmp .lt 42, 3) := of_q QX10_sound_1 38 rfl
theorem dX10_sound_171 : decode cX10_sound 171 = .ok (.iload 6, 2) := of_q QX10_sound_1 39 rfl
theorem dX10_sound_173 : decode cX10_sound 173 = .ok (.aload_n 0, 1) := of_q QX10_sound_1 40 rfl
theorem dX10_sound_174 : decode cX10_sound 174 = .ok (.getfield 58, 3) := of_q QX10_sound_1 41 rfl
theorem dX10_sound_177 : decode cX10_sound 177 = .ok (.iconst 1, 1) := of_q QX10_sound_1 42 rfl
theorem dX10_sound_178 : decode cX10_sound 178 = .ok (.iaload, 1) := of_q QX10_sound_1 43 rfl
theorem dX10_sound_179 : decode cX10_sound 179 = .ok (.if_icmp .gt 31, 3) := of_q QX10_sound_1 44 rfl
theorem dX10_sound_182 : decode cX10_sound 182 = .ok (.iload 7, 2) := of_q QX10_sound_1 45 rfl
theorem dX10_sound_184 : decode cX10_sound 184 = .ok (.aload_n 0, 1) := of_q QX10_sound_1 46 rfl
theorem dX10_sound_185 : decode cX10_sound 185 = .ok (.getfield 58, 3) := of_q QX10_sound_1 47 rfl
theorem dX10_sound_188 : decode cX10_sound 188 = .ok (.iconst 2, 1) := of_q QX10_sound_1 48 rfl
theorem dX10_sound_189 : decode cX10_sound 189 = .ok (.iaload, 1) := of_q QX10_sound_1 49 rfl
theorem dX10_sound_190 : decode cX10_sound 190 = .ok (.if_icmp .gt 20, 3) := of_q QX10_sound_1 50 rfl
theorem dX10_sound_193 : decode cX10_sound 193 = .ok (.aload_n 0, 1) := of_q QX10_sound_1 51 rfl
theorem dX10_sound_194 : decode cX10_sound 194 = .ok (.getfield 206, 3) := of_q QX10_sound_1 52 rfl
theorem dX10_sound_197 : decode cX10_sound 197 = .ok (.aload_n 0, 1) := of_q QX10_sound_1 53 rfl
theorem dX10_sound_198 : decode cX10_sound 198 = .ok (.getfield 58, 3) := of_q QX10_sound_1 54 rfl
theorem dX10_sound_201 : decode cX10_sound 201 = .ok (.iconst 3, 1) := of_q QX10_sound_1 55 rfl
theorem dX10_sound_202 : decode cX10_sound 202 = .ok (.iaload, 1) := of_q QX10_sound_1 56 rfl
theorem dX10_sound_203 : decode cX10_sound 203 = .ok (.if_icmp .gt 7, 3) := of_q QX10_sound_1 57 rfl
theorem dX10_sound_206 : decode cX10_sound 206 = .ok (.iconst 1, 1) := of_q QX10_sound_1 58 rfl
theorem dX10_sound_207 : decode cX10_sound 207 = .ok (.goto 4, 3) := of_q QX10_sound_1 59 rfl
def qX10_sound_2 : List (Nat × Instr × Nat) := [(210, .iconst 0, 1), (211, .iand, 1), (212, .istore 5, 2), (214, .aload_n 0, 1), (215, .iload 6, 2), (217, .putfield 200, 3), (220, .aload_n 0, 1), (221, .aload_n 0, 1), (222, .getfield 34, 3), (225, .iload_n 1, 1), (226, .iaload, 1), (227, .putfield 203, 3), (230, .iload 5, 2), (232, .ifCond .eq 80, 3), (235, .aload_n 0, 1), (236, .getfield 61, 3), (239, .aload_n 0, 1), (240, .getfield 197, 3), (243, .iload 6, 2), (245, .iastore, 1), (246, .aload_n 0, 1), (247, .getfield 64, 3), (250, .aload_n 0, 1), (251, .getfield 197, 3), (254, .iload 4, 2), (256, .iastore, 1), (257, .aload_n 0, 1), (258, .getfield 67, 3), (261, .aload_n 0, 1), (262, .getfield 197, 3), (265, .iload_n 3, 1), (266, .iastore, 1), (267, .aload_n 0, 1), (268, .getfield 70, 3), (271, .aload_n 0, 1), (272, .getfield 197, 3), (275, .iload 6, 2), (277, .ifCond .ge 7, 3), (280, .iconst (-1), 1), (281, .goto 9, 3), (284, .aload_n 0, 1), (285, .getfield 34, 3), (288, .iload_n 1, 1), (289, .iaload, 1), (290, .iastore, 1), (291, .aload_n 0, 1), (292, .dup, 1), (293, .getfield 197, 3), (296, .iconst 1, 1), (297, .iadd, 1), (298, .putfield 197, 3), (301, .aload_n 0, 1), (302, .dup, 1), (303, .getfield 194, 3), (306, .iload 4, 2), (308, .iadd, 1), (309, .putfield 194, 3), (312, .iload 5, 2), (314, .ireturn, 1)]
theorem QX10_sound_2 : qX10_sound_2.all (fun q => decide (decode cX10_sound q.1 = .ok q.2)) = true := by decide +kernel
theorem dX10_sound_210 : decode cX10_sound 210 = .ok (.iconst 0, 1) := of_q QX10_sound_2 0 rfl
theorem dX10_sound_211 : decode cX10_sound 211 = .ok (.iand, 1) := of_q QX10_sound_2 1 rfl
theorem dX10_sound_212 : decode cX10_sound 212 = .ok (.istore 5, 2) := of_q QX10_sound_2 2 rfl
theorem dX10_sound_214 : decode cX10_sound 214 = .ok (.aload_n 0, 1) := of_q QX10_sound_2 3 rfl
theorem dX10_sound_215 : decode cX10_sound 215 = .ok (.iload 6, 2) := of_q QX10_sound_2 4 rfl
theorem dX10_sound_217 : decode cX10_sound 217 = .ok (.putfield 200, 3) := of_q QX10_sound_2 5 rfl
theorem dX10_sound_220 : decode cX10_sound 220 = .ok (.aload_n 0, 1) := of_q QX10_sound_2 6 rfl
theorem dX10_sound_221 : decode cX10_sound 221 = .ok (.aload_n 0, 1) := of_q QX10_sound_2 7 rfl
theorem dX10_sound_222 : decode cX10_sound 222 = .ok (.getfield 34, 3) := of_q QX10_sound_2 8 rfl
theorem dX10_sound_225 : decode cX10_sound 225 = .ok (.iload_n 1, 1) := of_q QX10_sound_2 9 rfl
theorem dX10_sound_226 : decode cX10_sound 226 = .ok (.iaload, 1) := of_q QX10_sound_2 10 rfl
theorem dX10_sound_227 : decode cX10_sound 227 = .ok (.putfield 203, 3) := of_q QX10_sound_2 11 rfl
theorem dX10_sound_230 : decode cX10_sound 230 = .ok (.iload 5, 2) := of_q QX10_sound_2 12 rfl
theorem dX10_sound_232 : decode cX10_sound 232 = .ok (.ifCond .eq 80, 3) := of_q QX10_sound_2 13 rfl
theorem dX10_sound_235 : decode cX10_sound 235 = .ok (.aload_n 0, 1) := of_q QX10_sound_2 14 rfl
theorem dX10_sound_236 : decode cX10_sound 236 = .ok (.getfield 61, 3) := of_q QX10_sound_2 15 rfl
theorem dX10_sound_239 : decode cX10_sound 239 = .ok (.aload_n 0, 1) := of_q QX10_sound_2 16 rfl
theorem dX10_sound_240 : decode cX10_sound 240 = .ok (.getfield 197, 3) := of_q QX10_sound_2 17 rfl
theorem dX10_sound_243 : decode cX10_sound 243 = .ok (.iload 6, 2) := of_q QX10_sound_2 18 rfl
theorem dX10_sound_245 : decode cX10_sound 245 = .ok (.iastore, 1) := of_q QX10_sound_2 19 rfl
theorem dX10_sound_246 : decode cX10_sound 246 = .ok (.aload_n 0, 1) := of_q QX10_sound_2 20 rfl
theorem dX10_sound_247 : decode cX10_sound 247 = .ok (.getfield 64, 3) := of_q QX10_sound_2 21 rfl
theorem dX10_sound_250 : decode cX10_sound 250 = .ok (.aload_n 0, 1) := of_q QX10_sound_2 22 rfl
theorem dX10_sound_251 : decode cX10_sound 251 = .ok (.getfield 197, 3) := of_q QX10_sound_2 23 rfl
theorem dX10_sound_254 : decode cX10_sound 254 = .ok (.iload 4, 2) := of_q QX10_sound_2 24 rfl
theorem dX10_sound_256 : decode cX10_sound 256 = .ok (.iastore, 1) := of_q QX10_sound_2 25 rfl
theorem dX10_sound_257 : decode cX10_sound 257 = .ok (.aload_n 0, 1) := of_q QX10_sound_2 26 rfl
theorem dX10_sound_258 : decode cX10_sound 258 = .ok (.getfield 67, 3) := of_q QX10_sound_2 27 rfl
theorem dX10_sound_261 : decode cX10_sound 261 = .ok (.aload_n 0, 1) := of_q QX10_sound_2 28 rfl
theorem dX10_sound_262 : decode cX10_sound 262 = .ok (.getfield 197, 3) := of_q QX10_sound_2 29 rfl
theorem dX10_sound_265 : decode cX10_sound 265 = .ok (.iload_n 3, 1) := of_q QX10_sound_2 30 rfl
theorem dX10_sound_266 : decode cX10_sound 266 = .ok (.iastore, 1) := of_q QX10_sound_2 31 rfl
theorem dX10_sound_267 : decode cX10_sound 267 = .ok (.aload_n 0, 1) := of_q QX10_sound_2 32 rfl
theorem dX10_sound_268 : decode cX10_sound 268 = .ok (.getfield 70, 3) := of_q QX10_sound_2 33 rfl
theorem dX10_sound_271 : decode cX10_sound 271 = .ok (.aload_n 0, 1) := of_q QX10_sound_2 34 rfl
theorem dX10_sound_272 : decode cX10_sound 272 = .ok (.getfield 197, 3) := of_q QX10_sound_2 35 rfl
theorem dX10_sound_275 : decode cX10_sound 275 = .ok (.iload 6, 2) := of_q QX10_sound_2 36 rfl
theorem dX10_sound_277 : decode cX10_sound 277 = .ok (.ifCond .ge 7, 3) := of_q QX10_sound_2 37 rfl
theorem dX10_sound_280 : decode cX10_sound 280 = .ok (.iconst (-1), 1) := of_q QX10_sound_2 38 rfl
theorem dX10_sound_281 : decode cX10_sound 281 = .ok (.goto 9, 3) := of_q QX10_sound_2 39 rfl
theorem dX10_sound_284 : decode cX10_sound 284 = .ok (.aload_n 0, 1) := of_q QX10_sound_2 40 rfl
theorem dX10_sound_285 : decode cX10_sound 285 = .ok (.getfield 34, 3) := of_q QX10_sound_2 41 rfl
theorem dX10_sound_288 : decode cX10_sound 288 = .ok (.iload_n 1, 1) := of_q QX10_sound_2 42 rfl
theorem dX10_sound_289 : decode cX10_sound 289 = .ok (.iaload, 1) := of_q QX10_sound_2 43 rfl
theorem dX10_sound_290 : decode cX10_sound 290 = .ok (.iastore, 1) := of_q QX10_sound_2 44 rfl
theorem dX10_sound_291 : decode cX10_sound 291 = .ok (.aload_n 0, 1) := of_q QX10_sound_2 45 rfl
theorem dX10_sound_292 : decode cX10_sound 292 = .ok (.dup, 1) := of_q QX10_sound_2 46 rfl
theorem dX10_sound_293 : decode cX10_sound 293 = .ok (.getfield 197, 3) := of_q QX10_sound_2 47 rfl
theorem dX10_sound_296 : decode cX10_sound 296 = .ok (.iconst 1, 1) := of_q QX10_sound_2 48 rfl
theorem dX10_sound_297 : decode cX10_sound 297 = .ok (.iadd, 1) := of_q QX10_sound_2 49 rfl
theorem dX10_sound_298 : decode cX10_sound 298 = .ok (.putfield 197, 3) := of_q QX10_sound_2 50 rfl
theorem dX10_sound_301 : decode cX10_sound 301 = .ok (.aload_n 0, 1) := of_q QX10_sound_2 51 rfl
theorem dX10_sound_302 : decode cX10_sound 302 = .ok (.dup, 1) := of_q QX10_sound_2 52 rfl
theorem dX10_sound_303 : decode cX10_sound 303 = .ok (.getfield 194, 3) := of_q QX10_sound_2 53 rfl
theorem dX10_sound_306 : decode cX10_sound 306 = .ok (.iload 4, 2) := of_q QX10_sound_2 54 rfl
theorem dX10_sound_308 : decode cX10_sound 308 = .ok (.iadd, 1) := of_q QX10_sound_2 55 rfl
theorem dX10_sound_309 : decode cX10_sound 309 = .ok (.putfield 194, 3) := of_q QX10_sound_2 56 rfl
theorem dX10_sound_312 : decode cX10_sound 312 = .ok (.iload 5, 2) := of_q QX10_sound_2 57 rfl
theorem dX10_sound_314 : decode cX10_sound 314 = .ok (.ireturn, 1) := of_q QX10_sound_2 58 rfl
def qX10_make_0 : List (Nat × Instr × Nat) := [(0, .iload_n 1, 1), (1, .iconst 1, 1), (2, .if_icmp .lt 9, 3), (5, .iload_n 1, 1), (6, .bipush 16, 2), (8, .if_icmp .le 6, 3), (11, .bipush (-2), 2), (13, .ireturn, 1), (14, .aload_n 0, 1), (15, .getfield 46, 3), (18, .iconst 0, 1), (19, .iaload, 1), (20, .ifCond .ne 6, 3), (23, .bipush (-3), 2), (25, .ireturn, 1), (26, .aload_n 0, 1), (27, .lload_n 2, 1), (28, .putfield 166, 3), (31, .aload_n 0, 1), (32, .iconst 0, 1), (33, .putfield 212, 3), (36, .aload_n 0, 1), (37, .iconst 0, 1), (38, .putfield 218, 3), (41, .aload_n 0, 1), (42, .iconst 0, 1), (43, .putfield 209, 3), (46, .aload_n 0, 1), (47, .iconst (-1), 1), (48, .putfield 188, 3), (51, .aload_n 0, 1), (52, .iconst 0, 1), (53, .putfield 191, 3), (56, .aload_n 0, 1), (57, .iconst 0, 1), (58, .putfield 194, 3), (61, .aload_n 0, 1), (62, .iconst 0, 1), (63, .putfield 197, 3), (66, .aload_n 0, 1), (67, .iconst (-1), 1), (68, .putfield 200, 3), (71, .aload_n 0, 1), (72, .iconst (-1), 1), (73, .putfield 203, 3), (76, .aload_n 0, 1), (77, .iconst 0, 1), (78, .putfield 206, 3), (81, .aload_n 0, 1), (82, .iconst 0, 1), (83, .putfield 185, 3), (86, .aload_n 0, 1), (87, .getfield 31, 3), (90, .sipush 240, 3), (93, .iconst 0, 1), (94, .iastore, 1), (95, .aload_n 0, 1), (96, .getfield 34, 3), (99, .sipush 240, 3), (102, .aload_n 0, 1)]
theorem QX10_make_0 : qX10_make_0.all (fun q => decide (decode cX10_make q.1 = .ok q.2)) = true := by decide +kernel
theorem dX10_make_0 : decode cX10_make 0 = .ok (.iload_n 1, 1) := of_q QX10_make_0 0 rfl
theorem dX10_make_1 : decode cX10_make 1 = .ok (.iconst 1, 1) := of_q QX10_make_0 1 rfl
theorem dX10_make_2 : decode cX10_make 2 = .ok (.if_icmp .lt 9, 3) := of_q QX10_make_0 2 rfl
theorem dX10_make_5 : decode cX10_make 5 = .ok (.iload_n 1, 1) := of_q QX10_make_0 3 rfl
theorem dX10_make_6 : decode cX10_make 6 = .ok (.bipush 16, 2) := of_q QX10_make_0 4 rfl
theorem dX10_make_8 : decode cX10_make 8 = .ok (.if_icmp .le 6, 3) := of_q QX10_make_0 5 rfl
theorem dX10_make_11 : decode cX10_make 11 = .ok (.bipush (-2), 2) := of_q QX10_make_0 6 rfl
theorem dX10_make_13 : decode cX10_make 13 = .ok (.ireturn, 1) := of_q QX10_make_0 7 rfl
theorem dX10_make_14 : decode cX10_make 14 = .ok (.aload_n 0, 1) := of_q QX10_make_0 8 rfl
theorem dX10_make_15 : decode cX10_make 15 = .ok (.getfield 46, 3) := of_q QX10_make_0 9 rfl
theorem dX10_make_18 : decode cX10_make 18 = .ok (.iconst 0, 1) := of_q QX10_make_0 10 rfl
theorem dX10_make_19 : decode cX10_make 19 = .ok (.iaload, 1) := of_q QX10_make_0 11 rfl
theorem dX10_make_20 : decode cX10_make 20 = .ok (.ifCond .ne 6, 3) := of_q QX10_make_0 12 rfl
theorem dX10_make_23 : decode cX10_make 23 = .ok (.bipush (-3), 2) := of_q QX10_make_0 13 rfl
theorem dX10_make_25 : decode cX10_make 25 = .ok (.ireturn, 1) := of_q QX10_make_0 14 rfl
theorem dX10_make_26 : decode cX10_make 26 = .ok (.aload_n 0, 1) := of_q QX10_make_0 15 rfl
theorem dX10_make_27 : decode cX10_make 27 = .ok (.lload_n 2, 1) := of_q QX10_make_0 16 rfl
theorem dX10_make_28 : decode cX10_make 28 = .ok (.putfield 166, 3) := of_q QX10_make_0 17 rfl
theorem dX10_make_31 : decode cX10_make 31 = .ok (.aload_n 0, 1) := of_q QX10_make_0 18 rfl
theorem dX10_make_32 : decode cX10_make 32 = .ok (.iconst 0, 1) := of_q QX10_make_0 19 rfl
theorem dX10_make_33 : decode cX10_make 33 = .ok (.putfield 212, 3) := of_q QX10_make_0 20 rfl
theorem dX10_make_36 : decode cX10_make 36 = .ok (.aload_n 0, 1) := of_q QX10_make_0 21 rfl
theorem dX10_make_37 : decode cX10_make 37 = .ok (.iconst 0, 1) := of_q QX10_make_0 22 rfl
theorem dX10_make_38 : decode cX10_make 38 = .ok (.putfield 218, 3) := of_q QX10_make_0 23 rfl
theorem dX10_make_41 : decode cX10_make 41 = .ok (.aload_n 0, 1) := of_q QX10_make_0 24 rfl
theorem dX10_make_42 : decode cX10_make 42 = .ok (.iconst 0, 1) := of_q QX10_make_0 25 rfl
theorem dX10_make_43 : decode cX10_make 43 = .ok (.putfield 209, 3) := of_q QX10_make_0 26 rfl
theorem dX10_make_46 : decode cX10_make 46 = .ok (.aload_n 0, 1) := of_q QX10_make_0 27 rfl
theorem dX10_make_47 : decode cX10_make 47 = .ok (.iconst (-1), 1) := of_q QX10_make_0 28 rfl
theorem dX10_make_48 : decode cX10_make 48 = .ok (.putfield 188, 3) := of_q QX10_make_0 29 rfl
theorem dX10_make_51 : decode cX10_make 51 = .ok (.aload_n 0, 1) := of_q QX10_make_0 30 rfl
theorem dX10_make_52 : decode cX10_make 52 = .ok (.iconst 0, 1) := of_q QX10_make_0 31 rfl
theorem dX10_make_53 : decode cX10_make 53 = .ok (.putfield 191, 3) := of_q QX10_make_0 32 rfl
theorem dX10_make_56 : decode cX10_make 56 = .ok (.aload_n 0, 1) := of_q QX10_make_0 33 rfl
theorem dX10_make_57 : decode cX10_make 57 = .ok (.iconst 0, 1) := of_q QX10_make_0 34 rfl
theorem dX10_make_58 : decode cX10_make 58 = .ok (.putfield 194, 3) := of_q QX10_make_0 35 rfl
theorem dX10_make_61 : decode cX10_make 61 = .ok (.aload_n 0, 1) := of_q QX10_make_0 36 rfl
theorem dX10_make_62 : decode cX10_make 62 = .ok (.iconst 0, 1) := of_q QX10_make_0 37 rfl
theorem dX10_make_63 : decode cX10_make 63 = .ok (.putfield 197, 3) := of_q QX10_make_0 38 rfl
theorem dX10_make_66 : decode cX10_make 66 = .ok (.aload_n 0, 1) := of_q QX10_make_0 39 rfl
theorem dX10_make_67 : decode cX10_make 67 = .ok (.iconst (-1), 1) := of_q QX10_make_0 40 rfl
theorem dX10_make_68 : decode cX10_make 68 = .ok (.putfield 200, 3) := of_q QX10_make_0 41 rfl
theorem dX10_make_71 : decode cX10_make 71 = .ok (.aload_n 0, 1) := of_q QX10_make_0 42 rfl
theorem dX10_make_72 : decode cX10_make 72 = .ok (.iconst (-1), 1) := of_q QX10_make_0 43 rfl
theorem dX10_make_73 : decode cX10_make 73 = .ok (.putfield 203, 3) := of_q QX10_make_0 44 rfl
theorem dX10_make_76 : decode cX10_make 76 = .ok (.aload_n 0, 1) := of_q QX10_make_0 45 rfl
theorem dX10_make_77 : decode cX10_make 77 = .ok (.iconst 0, 1) := of_q QX10_make_0 46 rfl
theorem dX10_make_78 : decode cX10_make 78 = .ok (.putfield 206, 3) := of_q QX10_make_0 47 rfl
theorem dX10_make_81 : decode cX10_make 81 = .ok (.aload_n 0, 1) := of_q QX10_make_0 48 rfl
theorem dX10_make_82 : decode cX10_make 82 = .ok (.iconst 0, 1) := of_q QX10_make_0 49 rfl
theorem dX10_make_83 : decode cX10_make 83 = .ok (.putfield 185, 3) := of_q QX10_make_0 50 rfl
theorem dX10_make_86 : decode cX10_make 86 = .ok (.aload_n 0, 1) := of_q QX10_make_0 51 rfl
theorem dX10_make_87 : decode cX10_make 87 = .ok (.getfield 31, 3) := of_q QX10_make_0 52 rfl
theorem dX10_make_90 : decode cX10_make 90 = .ok (.sipush 240, 3) := of_q QX10_make_0 53 rfl
theorem dX10_make_93 : decode cX10_make 93 = .ok (.iconst 0, 1) := of_q QX10_make_0 54 rfl
theorem dX10_make_94 : decode cX10_make 94 = .ok (.iastore, 1) := of_q QX10_make_0 55 rfl
theorem dX10_make_95 : decode cX10_make 95 = .ok (.aload_n 0, 1) := of_q QX10_make_0 56 rfl
theorem dX10_make_96 : decode cX10_make 96 = .ok (.getfield 34, 3) := of_q QX10_make_0 57 rfl
theorem dX10_make_99 : decode cX10_make 99 = .ok (.sipush 240, 3) := of_q QX10_make_0 58 rfl
theorem dX10_make_102 : decode cX10_make 102 = .ok (.aload_n 0, 1) := of_q QX10_make_0 59 rfl
def qX10_make_1 : List (Nat × Instr × Nat) := [(103, .getfield 55, 3), (106, .iconst 0, 1), (107, .iaload, 1), (108, .iastore, 1), (109, .aload_n 0, 1), (110, .sipush 240, 3), (113, .invokevirtual 215, 3), (116, .iconst 1, 1), (117, .istore 4, 2), (119, .iconst 0, 1), (120, .istore 5, 2), (122, .aload_n 0, 1), (123, .getfield 188, 3), (126, .ifCond .ge 61, 3), (129, .aload_n 0, 1), (130, .getfield 194, 3), (133, .bipush 16, 2), (135, .iload_n 1, 1), (136, .imul, 1), (137, .if_icmp .ne 29, 3), (140, .aload_n 0, 1), (141, .getfield 58, 3), (144, .iconst 5, 1), (145, .iaload, 1), (146, .ifCond .lt 16, 3), (149, .aload_n 0, 1), (150, .getfield 203, 3), (153, .aload_n 0, 1), (154, .getfield 58, 3), (157, .iconst 5, 1), (158, .iaload, 1), (159, .if_icmp .ne 7, 3), (162, .iconst 1, 1), (163, .goto 4, 3), (166, .iconst 0, 1), (167, .istore 4, 2), (169, .iload 4, 2), (171, .ifCond .eq 86, 3), (174, .aload_n 0, 1), (175, .aload_n 0, 1), (176, .getfield 197, 3), (179, .putfield 218, 3), (182, .aload_n 0, 1), (183, .getfield 218, 3), (186, .ireturn, 1), (187, .aload_n 0, 1), (188, .getfield 74, 3), (191, .aload_n 0, 1), (192, .getfield 188, 3), (195, .iaload, 1), (196, .istore 6, 2), (198, .aload_n 0, 1), (199, .aload_n 0, 1), (200, .getfield 77, 3), (203, .aload_n 0, 1), (204, .getfield 188, 3), (207, .iaload, 1), (208, .putfield 188, 3), (211, .aload_n 0, 1), (212, .dup, 1)]
theorem QX10_make_1 : qX10_make_1.all (fun q => decide (decode cX10_make q.1 = .ok q.2)) = true := by decide +kernel
theorem dX10_make_103 : decode cX10_make 103 = .ok (.getfield 55, 3) := of_q QX10_make_1 0 rfl
theorem dX10_make_106 : decode cX10_make 106 = .ok (.iconst 0, 1) := of_q QX10_make_1 1 rfl
theorem dX10_make_107 : decode cX10_make 107 = .ok (.iaload, 1) := of_q QX10_make_1 2 rfl
theorem dX10_make_108 : decode cX10_make 108 = .ok (.iastore, 1) := of_q QX10_make_1 3 rfl
theorem dX10_make_109 : decode cX10_make 109 = .ok (.aload_n 0, 1) := of_q QX10_make_1 4 rfl
theorem dX10_make_110 : decode cX10_make 110 = .ok (.sipush 240, 3) := of_q QX10_make_1 5 rfl
theorem dX10_make_113 : decode cX10_make 113 = .ok (.invokevirtual 215, 3) := of_q QX10_make_1 6 rfl
theorem dX10_make_116 : decode cX10_make 116 = .ok (.iconst 1, 1) := of_q QX10_make_1 7 rfl
theorem dX10_make_117 : decode cX10_make 117 = .ok (.istore 4, 2) := of_q QX10_make_1 8 rfl
theorem dX10_make_119 : decode cX10_make 119 = .ok (.iconst 0, 1) := of_q QX10_make_1 9 rfl
theorem dX10_make_120 : decode cX10_make 120 = .ok (.istore 5, 2) := of_q QX10_make_1 10 rfl
theorem dX10_make_122 : decode cX10_make 122 = .ok (.aload_n 0, 1) := of_q QX10_make_1 11 rfl
theorem dX10_make_123 : decode cX10_make 123 = .ok (.getfield 188, 3) := of_q QX10_make_1 12 rfl
theorem dX10_make_126 : decode cX10_make 126 = .ok (.ifCond .ge 61, 3) := of_q QX10_make_1 13 rfl
theorem dX10_make_129 : decode cX10_make 129 = .ok (.aload_n 0, 1) := of_q QX10_make_1 14 rfl
theorem dX10_make_130 : decode cX10_make 130 = .ok (.getfield 194, 3) := of_q QX10_make_1 15 rfl
theorem dX10_make_133 : decode cX10_make 133 = .ok (.bipush 16, 2) := of_q QX10_make_1 16 rfl
theorem dX10_make_135 : decode cX10_make 135 = .ok (.iload_n 1, 1) := of_q QX10_make_1 17 rfl
theorem dX10_make_136 : decode cX10_make 136 = .ok (.imul, 1) := of_q QX10_make_1 18 rfl
theorem dX10_make_137 : decode cX10_make 137 = .ok (.if_icmp .ne 29, 3) := of_q QX10_make_1 19 rfl
theorem dX10_make_140 : decode cX10_make 140 = .ok (.aload_n 0, 1) := of_q QX10_make_1 20 rfl
theorem dX10_make_141 : decode cX10_make 141 = .ok (.getfield 58, 3) := of_q QX10_make_1 21 rfl
theorem dX10_make_144 : decode cX10_make 144 = .ok (.iconst 5, 1) := of_q QX10_make_1 22 rfl
theorem dX10_make_145 : decode cX10_make 145 = .ok (.iaload, 1) := of_q QX10_make_1 23 rfl
theorem dX10_make_146 : decode cX10_make 146 = .ok (.ifCond .lt 16, 3) := of_q QX10_make_1 24 rfl
theorem dX10_make_149 : decode cX10_make 149 = .ok (.aload_n 0, 1) := of_q QX10_make_1 25 rfl
theorem dX10_make_150 : decode cX10_make 150 = .ok (.getfield 203, 3) := of_q QX10_make_1 26 rfl
theorem dX10_make_153 : decode cX10_make 153 = .ok (.aload_n 0, 1) := of_q QX10_make_1 27 rfl
theorem dX10_make_154 : decode cX10_make 154 = .ok (.getfield 58, 3) := of_q QX10_make_1 28 rfl
theorem dX10_make_157 : decode cX10_make 157 = .ok (.iconst 5, 1) := of_q QX10_make_1 29 rfl
theorem dX10_make_158 : decode cX10_make 158 = .ok (.iaload, 1) := of_q QX10_make_1 30 rfl
theorem dX10_make_159 : decode cX10_make 159 = .ok (.if_icmp .ne 7, 3) := of_q QX10_make_1 31 rfl
theorem dX10_make_162 : decode cX10_make 162 = .ok (.iconst 1, 1) := of_q QX10_make_1 32 rfl
theorem dX10_make_163 : decode cX10_make 163 = .ok (.goto 4, 3) := of_q QX10_make_1 33 rfl
theorem dX10_make_166 : decode cX10_make 166 = .ok (.iconst 0, 1) := of_q QX10_make_1 34 rfl
theorem dX10_make_167 : decode cX10_make 167 = .ok (.istore 4, 2) := of_q QX10_make_1 35 rfl
theorem dX10_make_169 : decode cX10_make 169 = .ok (.iload 4, 2) := of_q QX10_make_1 36 rfl
theorem dX10_make_171 : decode cX10_make 171 = .ok (.ifCond .eq 86, 3) := of_q QX10_make_1 37 rfl
theorem dX10_make_174 : decode cX10_make 174 = .ok (.aload_n 0, 1) := of_q QX10_make_1 38 rfl
theorem dX10_make_175 : decode cX10_make 175 = .ok (.aload_n 0, 1) := of_q QX10_make_1 39 rfl
theorem dX10_make_176 : decode cX10_make 176 = .ok (.getfield 197, 3) := of_q QX10_make_1 40 rfl
theorem dX10_make_179 : decode cX10_make 179 = .ok (.putfield 218, 3) := of_q QX10_make_1 41 rfl
theorem dX10_make_182 : decode cX10_make 182 = .ok (.aload_n 0, 1) := of_q QX10_make_1 42 rfl
theorem dX10_make_183 : decode cX10_make 183 = .ok (.getfield 218, 3) := of_q QX10_make_1 43 rfl
theorem dX10_make_186 : decode cX10_make 186 = .ok (.ireturn, 1) := of_q QX10_make_1 44 rfl
theorem dX10_make_187 : decode cX10_make 187 = .ok (.aload_n 0, 1) := of_q QX10_make_1 45 rfl
theorem dX10_make_188 : decode cX10_make 188 = .ok (.getfield 74, 3) := of_q QX10_make_1 46 rfl
theorem dX10_make_191 : decode cX10_make 191 = .ok (.aload_n 0, 1) := of_q QX10_make_1 47 rfl
theorem dX10_make_192 : decode cX10_make 192 = .ok (.getfield 188, 3) := of_q QX10_make_1 48 rfl
theorem dX10_make_195 : decode cX10_make 195 = .ok (.iaload, 1) := of_q QX10_make_1 49 rfl
theorem dX10_make_196 : decode cX10_make 196 = .ok (.istore 6, 2) := of_q QX10_make_1 50 rfl
theorem dX10_make_198 : decode cX10_make 198 = .ok (.aload_n 0, 1) := of_q QX10_make_1 51 rfl
theorem dX10_make_199 : decode cX10_make 199 = .ok (.aload_n 0, 1) := of_q QX10_make_1 52 rfl
theorem dX10_make_200 : decode cX10_make 200 = .ok (.getfield 77, 3) := of_q QX10_make_1 53 rfl
theorem dX10_make_203 : decode cX10_make 203 = .ok (.aload_n 0, 1) := of_q QX10_make_1 54 rfl
theorem dX10_make_204 : decode cX10_make 204 = .ok (.getfield 188, 3) := of_q QX10_make_1 55 rfl
theorem dX10_make_207 : decode cX10_make 207 = .ok (.iaload, 1) := of_q QX10_make_1 56 rfl
theorem dX10_make_208 : decode cX10_make 208 = .ok (.putfield 188, 3) := of_q QX10_make_1 57 rfl
theorem dX10_make_211 : decode cX10_make 211 = .ok (.aload_n 0, 1) := of_q QX10_make_1 58 rfl
theorem dX10_make_212 : decode cX10_make 212 = .ok (.dup, 1) := of_q QX10_make_1 59 rfl
def qX10_make_2 : List (Nat × Instr × Nat) := [(213, .getfield 191, 3), (216, .iconst 1, 1), (217, .isub, 1), (218, .putfield 191, 3), (221, .aload_n 0, 1), (222, .getfield 31, 3), (225, .iload 6, 2), (227, .iaload, 1), (228, .ifCond .ne 20, 3), (231, .aload_n 0, 1), (232, .aload_n 0, 1), (233, .getfield 34, 3), (236, .iload 6, 2), (238, .iaload, 1), (239, .invokevirtual 221, 3), (242, .iconst 1, 1), (243, .istore 5, 2), (245, .goto 12, 3), (248, .aload_n 0, 1), (249, .iload 6, 2), (251, .iload_n 1, 1), (252, .invokevirtual 224, 3), (255, .istore 4, 2), (257, .iload 5, 2), (259, .ifCond .ne 8, 3), (262, .iload 4, 2), (264, .ifCond .ne 74, 3), (267, .aload_n 0, 1), (268, .getfield 185, 3), (271, .ifCond .ne 5, 3), (274, .iconst (-1), 1), (275, .ireturn, 1), (276, .aload_n 0, 1), (277, .invokevirtual 228, 3), (280, .aload_n 0, 1), (281, .invokevirtual 231, 3), (284, .istore 6, 2), (286, .iload 6, 2), (288, .ifCond .ne 19, 3), (291, .aload_n 0, 1), (292, .dup, 1), (293, .getfield 185, 3), (296, .iconst 1, 1), (297, .isub, 1), (298, .putfield 185, 3), (301, .iconst 0, 1), (302, .istore 4, 2), (304, .goto 28, 3), (307, .aload_n 0, 1), (308, .getfield 212, 3), (311, .aload_n 0, 1), (312, .getfield 58, 3), (315, .bipush 6, 2), (317, .iaload, 1), (318, .if_icmp .ne 6, 3), (321, .bipush (-5), 2), (323, .ireturn, 1), (324, .aload_n 0, 1), (325, .iload 6, 2), (327, .invokevirtual 234, 3)]
theorem QX10_make_2 : qX10_make_2.all (fun q => decide (decode cX10_make q.1 = .ok q.2)) = true := by decide +kernel
theorem dX10_make_213 : decode cX10_make 213 = .ok (.getfield 191, 3) := of_q QX10_make_2 0 rfl
theorem dX10_make_216 : decode cX10_make 216 = .ok (.iconst 1, 1) := of_q QX10_make_2 1 rfl
theorem dX10_make_217 : decode cX10_make 217 = .ok (.isub, 1) := of_q QX10_make_2 2 rfl
theorem dX10_make_218 : decode cX10_make 218 = .ok (.putfield 191, 3) := of_q QX10_make_2 3 rfl
theorem dX10_make_221 : decode cX10_make 221 = .ok (.aload_n 0, 1) := of_q QX10_make_2 4 rfl
theorem dX10_make_222 : decode cX10_make 222 = .ok (.getfield 31, 3) := of_q QX10_make_2 5 rfl
theorem dX10_make_225 : decode cX10_make 225 = .ok (.iload 6, 2) := of_q QX10_make_2 6 rfl
theorem dX10_make_227 : decode cX10_make 227 = .ok (.iaload, 1) := of_q QX10_make_2 7 rfl
theorem dX10_make_228 : decode cX10_make 228 = .ok (.ifCond .ne 20, 3) := of_q QX10_make_2 8 rfl
theorem dX10_make_231 : decode cX10_make 231 = .ok (.aload_n 0, 1) := of_q QX10_make_2 9 rfl
theorem dX10_make_232 : decode cX10_make 232 = .ok (.aload_n 0, 1) := of_q QX10_make_2 10 rfl
theorem dX10_make_233 : decode cX10_make 233 = .ok (.getfield 34, 3) := of_q QX10_make_2 11 rfl
theorem dX10_make_236 : decode cX10_make 236 = .ok (.iload 6, 2) := of_q QX10_make_2 12 rfl
theorem dX10_make_238 : decode cX10_make 238 = .ok (.iaload, 1) := of_q QX10_make_2 13 rfl
theorem dX10_make_239 : decode cX10_make 239 = .ok (.invokevirtual 221, 3) := of_q QX10_make_2 14 rfl
theorem dX10_make_242 : decode cX10_make 242 = .ok (.iconst 1, 1) := of_q QX10_make_2 15 rfl
theorem dX10_make_243 : decode cX10_make 243 = .ok (.istore 5, 2) := of_q QX10_make_2 16 rfl
theorem dX10_make_245 : decode cX10_make 245 = .ok (.goto 12, 3) := of_q QX10_make_2 17 rfl
theorem dX10_make_248 : decode cX10_make 248 = .ok (.aload_n 0, 1) := of_q QX10_make_2 18 rfl
theorem dX10_make_249 : decode cX10_make 249 = .ok (.iload 6, 2) := of_q QX10_make_2 19 rfl
theorem dX10_make_251 : decode cX10_make 251 = .ok (.iload_n 1, 1) := of_q QX10_make_2 20 rfl
theorem dX10_make_252 : decode cX10_make 252 = .ok (.invokevirtual 224, 3) := of_q QX10_make_2 21 rfl
theorem dX10_make_255 : decode cX10_make 255 = .ok (.istore 4, 2) := of_q QX10_make_2 22 rfl
theorem dX10_make_257 : decode cX10_make 257 = .ok (.iload 5, 2) := of_q QX10_make_2 23 rfl
theorem dX10_make_259 : decode cX10_make 259 = .ok (.ifCond .ne 8, 3) := of_q QX10_make_2 24 rfl
theorem dX10_make_262 : decode cX10_make 262 = .ok (.iload 4, 2) := of_q QX10_make_2 25 rfl
theorem dX10_make_264 : decode cX10_make 264 = .ok (.ifCond .ne 74, 3) := of_q QX10_make_2 26 rfl
theorem dX10_make_267 : decode cX10_make 267 = .ok (.aload_n 0, 1) := of_q QX10_make_2 27 rfl
theorem dX10_make_268 : decode cX10_make 268 = .ok (.getfield 185, 3) := of_q QX10_make_2 28 rfl
theorem dX10_make_271 : decode cX10_make 271 = .ok (.ifCond .ne 5, 3) := of_q QX10_make_2 29 rfl
theorem dX10_make_274 : decode cX10_make 274 = .ok (.iconst (-1), 1) := of_q QX10_make_2 30 rfl
theorem dX10_make_275 : decode cX10_make 275 = .ok (.ireturn, 1) := of_q QX10_make_2 31 rfl
theorem dX10_make_276 : decode cX10_make 276 = .ok (.aload_n 0, 1) := of_q QX10_make_2 32 rfl
theorem dX10_make_277 : decode cX10_make 277 = .ok (.invokevirtual 228, 3) := of_q QX10_make_2 33 rfl
theorem dX10_make_280 : decode cX10_make 280 = .ok (.aload_n 0, 1) := of_q QX10_make_2 34 rfl
theorem dX10_make_281 : decode cX10_make 281 = .ok (.invokevirtual 231, 3) := of_q QX10_make_2 35 rfl
theorem dX10_make_284 : decode cX10_make 284 = .ok (.istore 6, 2) := of_q QX10_make_2 36 rfl
theorem dX10_make_286 : decode cX10_make 286 = .ok (.iload 6, 2) := of_q QX10_make_2 37 rfl
theorem dX10_make_288 : decode cX10_make 288 = .ok (.ifCond .ne 19, 3) := of_q QX10_make_2 38 rfl
theorem dX10_make_291 : decode cX10_make 291 = .ok (.aload_n 0, 1) := of_q QX10_make_2 39 rfl
theorem dX10_make_292 : decode cX10_make 292 = .ok (.dup, 1) := of_q QX10_make_2 40 rfl
theorem dX10_make_293 : decode cX10_make 293 = .ok (.getfield 185, 3) := of_q QX10_make_2 41 rfl
theorem dX10_make_296 : decode cX10_make 296 = .ok (.iconst 1, 1) := of_q QX10_make_2 42 rfl
theorem dX10_make_297 : decode cX10_make 297 = .ok (.isub, 1) := of_q QX10_make_2 43 rfl
theorem dX10_make_298 : decode cX10_make 298 = .ok (.putfield 185, 3) := of_q QX10_make_2 44 rfl
theorem dX10_make_301 : decode cX10_make 301 = .ok (.iconst 0, 1) := of_q QX10_make_2 45 rfl
theorem dX10_make_302 : decode cX10_make 302 = .ok (.istore 4, 2) := of_q QX10_make_2 46 rfl
theorem dX10_make_304 : decode cX10_make 304 = .ok (.goto 28, 3) := of_q QX10_make_2 47 rfl
theorem dX10_make_307 : decode cX10_make 307 = .ok (.aload_n 0, 1) := of_q QX10_make_2 48 rfl
theorem dX10_make_308 : decode cX10_make 308 = .ok (.getfield 212, 3) := of_q QX10_make_2 49 rfl
theorem dX10_make_311 : decode cX10_make 311 = .ok (.aload_n 0, 1) := of_q QX10_make_2 50 rfl
theorem dX10_make_312 : decode cX10_make 312 = .ok (.getfield 58, 3) := of_q QX10_make_2 51 rfl
theorem dX10_make_315 : decode cX10_make 315 = .ok (.bipush 6, 2) := of_q QX10_make_2 52 rfl
theorem dX10_make_317 : decode cX10_make 317 = .ok (.iaload, 1) := of_q QX10_make_2 53 rfl
theorem dX10_make_318 : decode cX10_make 318 = .ok (.if_icmp .ne 6, 3) := of_q QX10_make_2 54 rfl
theorem dX10_make_321 : decode cX10_make 321 = .ok (.bipush (-5), 2) := of_q QX10_make_2 55 rfl
theorem dX10_make_323 : decode cX10_make 323 = .ok (.ireturn, 1) := of_q QX10_make_2 56 rfl
theorem dX10_make_324 : decode cX10_make 324 = .ok (.aload_n 0, 1) := of_q QX10_make_2 57 rfl
theorem dX10_make_325 : decode cX10_make 325 = .ok (.iload 6, 2) := of_q QX10_make_2 58 rfl
theorem dX10_make_327 : decode cX10_make 327 = .ok (.invokevirtual 234, 3) := of_q QX10_make_2 59 rfl
def qX10_make_3 : List (Nat × Instr × Nat) := [(330, .istore 4, 2), (332, .iconst 0, 1), (333, .istore 5, 2), (335, .goto (-78), 3), (338, .goto (-222), 3)]
theorem QX10_make_3 : qX10_make_3.all (fun q => decide (decode cX10_make q.1 = .ok q.2)) = true := by decide +kernel
theorem dX10_make_330 : decode cX10_make 330 = .ok (.istore 4, 2) := of_q QX10_make_3 0 rfl
theorem dX10_make_332 : decode cX10_make 332 = .ok (.iconst 0, 1) := of_q QX10_make_3 1 rfl
theorem dX10_make_333 : decode cX10_make 333 = .ok (.istore 5, 2) := of_q QX10_make_3 2 rfl
theorem dX10_make_335 : decode cX10_make 335 = .ok (.goto (-78), 3) := of_q QX10_make_3 3 rfl
theorem dX10_make_338 : decode cX10_make 338 = .ok (.goto (-222), 3) := of_q QX10_make_3 4 rfl
def qX10_tries_0 : List (Nat × Instr × Nat) := [(0, .aload_n 0, 1), (1, .getfield 212, 3), (4, .ireturn, 1)]
theorem QX10_tries_0 : qX10_tries_0.all (fun q => decide (decode cX10_tries q.1 = .ok q.2)) = true := by decide +kernel
theorem dX10_tries_0 : decode cX10_tries 0 = .ok (.aload_n 0, 1) := of_q QX10_tries_0 0 rfl
theorem dX10_tries_1 : decode cX10_tries 1 = .ok (.getfield 212, 3) := of_q QX10_tries_0 1 rfl
theorem dX10_tries_4 : decode cX10_tries 4 = .ok (.ireturn, 1) := of_q QX10_tries_0 2 rfl
def qX10_item_0 : List (Nat × Instr × Nat) := [(0, .iload_n 2, 1), (1, .ifCond .lt 8, 3), (4, .iload_n 2, 1), (5, .iconst 3, 1), (6, .if_icmp .le 6, 3), (9, .bipush (-2), 2), (11, .ireturn, 1), (12, .iload_n 1, 1), (13, .ifCond .lt 11, 3), (16, .iload_n 1, 1), (17, .aload_n 0, 1), (18, .getfield 218, 3), (21, .if_icmp .lt 5, 3), (24, .iconst (-1), 1), (25, .ireturn, 1), (26, .iload_n 2, 1), (27, .ifCond .ne 12, 3), (30, .aload_n 0, 1), (31, .getfield 61, 3), (34, .iload_n 1, 1), (35, .iaload, 1), (36, .goto 37, 3), (39, .iload_n 2, 1), (40, .iconst 1, 1), (41, .if_icmp .ne 12, 3), (44, .aload_n 0, 1), (45, .getfield 64, 3), (48, .iload_n 1, 1), (49, .iaload, 1), (50, .goto 23, 3), (53, .iload_n 2, 1), (54, .iconst 2, 1), (55, .if_icmp .ne 12, 3), (58, .aload_n 0, 1), (59, .getfield 67, 3), (62, .iload_n 1, 1), (63, .iaload, 1), (64, .goto 9, 3), (67, .aload_n 0, 1), (68, .getfield 70, 3), (71, .iload_n 1, 1), (72, .iaload, 1), (73, .ireturn, 1)]
theorem QX10_item_0 : qX10_item_0.all (fun q => decide (decode cX10_item q.1 = .ok q.2)) = true := by decide +kernel
theorem dX10_item_0 : decode cX10_item 0 = .ok (.iload_n 2, 1) := of_q QX10_item_0 0 rfl
theorem dX10_item_1 : decode cX10_item 1 = .ok (.ifCond .lt 8, 3) := of_q QX10_item_0 1 rfl
theorem dX10_item_4 : decode cX10_item 4 = .ok (.iload_n 2, 1) := of_q QX10_item_0 2 rfl
theorem dX10_item_5 : decode cX10_item 5 = .ok (.iconst 3, 1) := of_q QX10_item_0 3 rfl
theorem dX10_item_6 : decode cX10_item 6 = .ok (.if_icmp .le 6, 3) := of_q QX10_item_0 4 rfl
theorem dX10_item_9 : decode cX10_item 9 = .ok (.bipush (-2), 2) := of_q QX10_item_0 5 rfl
theorem dX10_item_11 : decode cX10_item 11 = .ok (.ireturn, 1) := of_q QX10_item_0 6 rfl
theorem dX10_item_12 : decode cX10_item 12 = .ok (.iload_n 1, 1) := of_q QX10_item_0 7 rfl
theorem dX10_item_13 : decode cX10_item 13 = .ok (.ifCond .lt 11, 3) := of_q QX10_item_0 8 rfl
theorem dX10_item_16 : decode cX10_item 16 = .ok (.iload_n 1, 1) := of_q QX10_item_0 9 rfl
theorem dX10_item_17 : decode cX10_item 17 = .ok (.aload_n 0, 1) := of_q QX10_item_0 10 rfl
theorem dX10_item_18 : decode cX10_item 18 = .ok (.getfield 218, 3) := of_q QX10_item_0 11 rfl
theorem dX10_item_21 : decode cX10_item 21 = .ok (.if_icmp .lt 5, 3) := of_q QX10_item_0 12 rfl
theorem dX10_item_24 : decode cX10_item 24 = .ok (.iconst (-1), 1) := of_q QX10_item_0 13 rfl
theorem dX10_item_25 : decode cX10_item 25 = .ok (.ireturn, 1) := of_q QX10_item_0 14 rfl
theorem dX10_item_26 : decode cX10_item 26 = .ok (.iload_n 2, 1) := of_q QX10_item_0 15 rfl
theorem dX10_item_27 : decode cX10_item 27 = .ok (.ifCond .ne 12, 3) := of_q QX10_item_0 16 rfl
theorem dX10_item_30 : decode cX10_item 30 = .ok (.aload_n 0, 1) := of_q QX10_item_0 17 rfl
theorem dX10_item_31 : decode cX10_item 31 = .ok (.getfield 61, 3) := of_q QX10_item_0 18 rfl
theorem dX10_item_34 : decode cX10_item 34 = .ok (.iload_n 1, 1) := of_q QX10_item_0 19 rfl
theorem dX10_item_35 : decode cX10_item 35 = .ok (.iaload, 1) := of_q QX10_item_0 20 rfl
theorem dX10_item_36 : decode cX10_item 36 = .ok (.goto 37, 3) := of_q QX10_item_0 21 rfl
theorem dX10_item_39 : decode cX10_item 39 = .ok (.iload_n 2, 1) := of_q QX10_item_0 22 rfl
theorem dX10_item_40 : decode cX10_item 40 = .ok (.iconst 1, 1) := of_q QX10_item_0 23 rfl
theorem dX10_item_41 : decode cX10_item 41 = .ok (.if_icmp .ne 12, 3) := of_q QX10_item_0 24 rfl
theorem dX10_item_44 : decode cX10_item 44 = .ok (.aload_n 0, 1) := of_q QX10_item_0 25 rfl
theorem dX10_item_45 : decode cX10_item 45 = .ok (.getfield 64, 3) := of_q QX10_item_0 26 rfl
theorem dX10_item_48 : decode cX10_item 48 = .ok (.iload_n 1, 1) := of_q QX10_item_0 27 rfl
theorem dX10_item_49 : decode cX10_item 49 = .ok (.iaload, 1) := of_q QX10_item_0 28 rfl
theorem dX10_item_50 : decode cX10_item 50 = .ok (.goto 23, 3) := of_q QX10_item_0 29 rfl
theorem dX10_item_53 : decode cX10_item 53 = .ok (.iload_n 2, 1) := of_q QX10_item_0 30 rfl
theorem dX10_item_54 : decode cX10_item 54 = .ok (.iconst 2, 1) := of_q QX10_item_0 31 rfl
theorem dX10_item_55 : decode cX10_item 55 = .ok (.if_icmp .ne 12, 3) := of_q QX10_item_0 32 rfl
theorem dX10_item_58 : decode cX10_item 58 = .ok (.aload_n 0, 1) := of_q QX10_item_0 33 rfl
theorem dX10_item_59 : decode cX10_item 59 = .ok (.getfield 67, 3) := of_q QX10_item_0 34 rfl
theorem dX10_item_62 : decode cX10_item 62 = .ok (.iload_n 1, 1) := of_q QX10_item_0 35 rfl
theorem dX10_item_63 : decode cX10_item 63 = .ok (.iaload, 1) := of_q QX10_item_0 36 rfl
theorem dX10_item_64 : decode cX10_item 64 = .ok (.goto 9, 3) := of_q QX10_item_0 37 rfl
theorem dX10_item_67 : decode cX10_item 67 = .ok (.aload_n 0, 1) := of_q QX10_item_0 38 rfl
theorem dX10_item_68 : decode cX10_item 68 = .ok (.getfield 70, 3) := of_q QX10_item_0 39 rfl
theorem dX10_item_71 : decode cX10_item 71 = .ok (.iload_n 1, 1) := of_q QX10_item_0 40 rfl
theorem dX10_item_72 : decode cX10_item 72 = .ok (.iaload, 1) := of_q QX10_item_0 41 rfl
theorem dX10_item_73 : decode cX10_item 73 = .ok (.ireturn, 1) := of_q QX10_item_0 42 rfl
def qX10_corpus_0 : List (Nat × Instr × Nat) := [(0, .aload_n 0, 1), (1, .getfield 237, 3), (4, .sipush 300, 3), (7, .if_icmp .ne 6, 3), (10, .bipush (-4), 2), (12, .ireturn, 1), (13, .aload_n 0, 1), (14, .getfield 111, 3), (17, .aload_n 0, 1), (18, .getfield 237, 3), (21, .iload_n 1, 1), (22, .iastore, 1), (23, .aload_n 0, 1), (24, .dup, 1), (25, .getfield 237, 3), (28, .iconst 1, 1), (29, .iadd, 1), (30, .putfield 237, 3), (33, .aload_n 0, 1), (34, .getfield 237, 3), (37, .ireturn, 1)]
theorem QX10_corpus_0 : qX10_corpus_0.all (fun q => decide (decode cX10_corpus q.1 = .ok q.2)) = true := by decide +kernel
theorem dX10_corpus_0 : decode cX10_corpus 0 = .ok (.aload_n 0, 1) := of_q QX10_corpus_0 0 rfl
theorem dX10_corpus_1 : decode cX10_corpus 1 = .ok (.getfield 237, 3) := of_q QX10_corpus_0 1 rfl
theorem dX10_corpus_4 : decode cX10_corpus 4 = .ok (.sipush 300, 3) := of_q QX10_corpus_0 2 rfl
theorem dX10_corpus_7 : decode cX10_corpus 7 = .ok (.if_icmp .ne 6, 3) := of_q QX10_corpus_0 3 rfl
theorem dX10_corpus_10 : decode cX10_corpus 10 = .ok (.bipush (-4), 2) := of_q QX10_corpus_0 4 rfl
theorem dX10_corpus_12 : decode cX10_corpus 12 = .ok (.ireturn, 1) := of_q QX10_corpus_0 5 rfl
theorem dX10_corpus_13 : decode cX10_corpus 13 = .ok (.aload_n 0, 1) := of_q QX10_corpus_0 6 rfl
theorem dX10_corpus_14 : decode cX10_corpus 14 = .ok (.getfield 111, 3) := of_q QX10_corpus_0 7 rfl
theorem dX10_corpus_17 : decode cX10_corpus 17 = .ok (.aload_n 0, 1) := of_q QX10_corpus_0 8 rfl
theorem dX10_corpus_18 : decode cX10_corpus 18 = .ok (.getfield 237, 3) := of_q QX10_corpus_0 9 rfl
theorem dX10_corpus_21 : decode cX10_corpus 21 = .ok (.iload_n 1, 1) := of_q QX10_corpus_0 10 rfl
theorem dX10_corpus_22 : decode cX10_corpus 22 = .ok (.iastore, 1) := of_q QX10_corpus_0 11 rfl
theorem dX10_corpus_23 : decode cX10_corpus 23 = .ok (.aload_n 0, 1) := of_q QX10_corpus_0 12 rfl
theorem dX10_corpus_24 : decode cX10_corpus 24 = .ok (.dup, 1) := of_q QX10_corpus_0 13 rfl
theorem dX10_corpus_25 : decode cX10_corpus 25 = .ok (.getfield 237, 3) := of_q QX10_corpus_0 14 rfl
theorem dX10_corpus_28 : decode cX10_corpus 28 = .ok (.iconst 1, 1) := of_q QX10_corpus_0 15 rfl
theorem dX10_corpus_29 : decode cX10_corpus 29 = .ok (.iadd, 1) := of_q QX10_corpus_0 16 rfl
theorem dX10_corpus_30 : decode cX10_corpus 30 = .ok (.putfield 237, 3) := of_q QX10_corpus_0 17 rfl
theorem dX10_corpus_33 : decode cX10_corpus 33 = .ok (.aload_n 0, 1) := of_q QX10_corpus_0 18 rfl
theorem dX10_corpus_34 : decode cX10_corpus 34 = .ok (.getfield 237, 3) := of_q QX10_corpus_0 19 rfl
theorem dX10_corpus_37 : decode cX10_corpus 37 = .ok (.ireturn, 1) := of_q QX10_corpus_0 20 rfl
def qX10_forget_0 : List (Nat × Instr × Nat) := [(0, .aload_n 0, 1), (1, .getfield 237, 3), (4, .istore_n 1, 1), (5, .aload_n 0, 1), (6, .iconst 0, 1), (7, .putfield 237, 3), (10, .iload_n 1, 1), (11, .ireturn, 1)]
theorem QX10_forget_0 : qX10_forget_0.all (fun q => decide (decode cX10_forget q.1 = .ok q.2)) = true := by decide +kernel
theorem dX10_forget_0 : decode cX10_forget 0 = .ok (.aload_n 0, 1) := of_q QX10_forget_0 0 rfl
theorem dX10_forget_1 : decode cX10_forget 1 = .ok (.getfield 237, 3) := of_q QX10_forget_0 1 rfl
theorem dX10_forget_4 : decode cX10_forget 4 = .ok (.istore_n 1, 1) := of_q QX10_forget_0 2 rfl
theorem dX10_forget_5 : decode cX10_forget 5 = .ok (.aload_n 0, 1) := of_q QX10_forget_0 3 rfl
theorem dX10_forget_6 : decode cX10_forget 6 = .ok (.iconst 0, 1) := of_q QX10_forget_0 4 rfl
theorem dX10_forget_7 : decode cX10_forget 7 = .ok (.putfield 237, 3) := of_q QX10_forget_0 5 rfl
theorem dX10_forget_10 : decode cX10_forget 10 = .ok (.iload_n 1, 1) := of_q QX10_forget_0 6 rfl
theorem dX10_forget_11 : decode cX10_forget 11 = .ok (.ireturn, 1) := of_q QX10_forget_0 7 rfl
def qX10_isAhead_0 : List (Nat × Instr × Nat) := [(0, .iload_n 1, 1), (1, .iload_n 2, 1), (2, .if_icmp .lt 7, 3), (5, .iconst 1, 1), (6, .goto 4, 3), (9, .iconst 0, 1), (10, .istore_n 3, 1), (11, .iconst 1, 1), (12, .istore 4, 2), (14, .iload 4, 2), (16, .iload_n 2, 1), (17, .if_icmp .gt 43, 3), (20, .iload_n 3, 1), (21, .ifCond .eq 39, 3), (24, .aload_n 0, 1), (25, .getfield 111, 3), (28, .iload_n 1, 1), (29, .iload 4, 2), (31, .isub, 1), (32, .iaload, 1), (33, .aload_n 0, 1), (34, .getfield 114, 3), (37, .aload_n 0, 1), (38, .getfield 240, 3), (41, .iload 4, 2), (43, .isub, 1), (44, .iaload, 1), (45, .if_icmp .ne 7, 3), (48, .iconst 1, 1), (49, .goto 4, 3), (52, .iconst 0, 1), (53, .istore_n 3, 1), (54, .iinc 4 1, 3), (57, .goto (-43), 3), (60, .iload_n 3, 1), (61, .ireturn, 1)]
theorem QX10_isAhead_0 : qX10_isAhead_0.all (fun q => decide (decode cX10_isAhead q.1 = .ok q.2)) = true := by decide +kernel
theorem dX10_isAhead_0 : decode cX10_isAhead 0 = .ok (.iload_n 1, 1) := of_q QX10_isAhead_0 0 rfl
theorem dX10_isAhead_1 : decode cX10_isAhead 1 = .ok (.iload_n 2, 1) := of_q QX10_isAhead_0 1 rfl
theorem dX10_isAhead_2 : decode cX10_isAhead 2 = .ok (.if_icmp .lt 7, 3) := of_q QX10_isAhead_0 2 rfl
theorem dX10_isAhead_5 : decode cX10_isAhead 5 = .ok (.iconst 1, 1) := of_q QX10_isAhead_0 3 rfl
theorem dX10_isAhead_6 : decode cX10_isAhead 6 = .ok (.goto 4, 3) := of_q QX10_isAhead_0 4 rfl
theorem dX10_isAhead_9 : decode cX10_isAhead 9 = .ok (.iconst 0, 1) := of_q QX10_isAhead_0 5 rfl
theorem dX10_isAhead_10 : decode cX10_isAhead 10 = .ok (.istore_n 3, 1) := of_q QX10_isAhead_0 6 rfl
theorem dX10_isAhead_11 : decode cX10_isAhead 11 = .ok (.iconst 1, 1) := of_q QX10_isAhead_0 7 rfl
theorem dX10_isAhead_12 : decode cX10_isAhead 12 = .ok (.istore 4, 2) := of_q QX10_isAhead_0 8 rfl
theorem dX10_isAhead_14 : decode cX10_isAhead 14 = .ok (.iload 4, 2) := of_q QX10_isAhead_0 9 rfl
theorem dX10_isAhead_16 : decode cX10_isAhead 16 = .ok (.iload_n 2, 1) := of_q QX10_isAhead_0 10 rfl
theorem dX10_isAhead_17 : decode cX10_isAhead 17 = .ok (.if_icmp .gt 43, 3) := of_q QX10_isAhead_0 11 rfl
theorem dX10_isAhead_20 : decode cX10_isAhead 20 = .ok (.iload_n 3, 1) := of_q QX10_isAhead_0 12 rfl
theorem dX10_isAhead_21 : decode cX10_isAhead 21 = .ok (.ifCond .eq 39, 3) := of_q QX10_isAhead_0 13 rfl
theorem dX10_isAhead_24 : decode cX10_isAhead 24 = .ok (.aload_n 0, 1) := of_q QX10_isAhead_0 14 rfl
theorem dX10_isAhead_25 : decode cX10_isAhead 25 = .ok (.getfield 111, 3) := of_q QX10_isAhead_0 15 rfl
theorem dX10_isAhead_28 : decode cX10_isAhead 28 = .ok (.iload_n 1, 1) := of_q QX10_isAhead_0 16 rfl
theorem dX10_isAhead_29 : decode cX10_isAhead 29 = .ok (.iload 4, 2) := of_q QX10_isAhead_0 17 rfl
theorem dX10_isAhead_31 : decode cX10_isAhead 31 = .ok (.isub, 1) := of_q QX10_isAhead_0 18 rfl
theorem dX10_isAhead_32 : decode cX10_isAhead 32 = .ok (.iaload, 1) := of_q QX10_isAhead_0 19 rfl
theorem dX10_isAhead_33 : decode cX10_isAhead 33 = .ok (.aload_n 0, 1) := of_q QX10_isAhead_0 20 rfl
theorem dX10_isAhead_34 : decode cX10_isAhead 34 = .ok (.getfield 114, 3) := of_q QX10_isAhead_0 21 rfl
theorem dX10_isAhead_37 : decode cX10_isAhead 37 = .ok (.aload_n 0, 1) := of_q QX10_isAhead_0 22 rfl
theorem dX10_isAhead_38 : decode cX10_isAhead 38 = .ok (.getfield 240, 3) := of_q QX10_isAhead_0 23 rfl
theorem dX10_isAhead_41 : decode cX10_isAhead 41 = .ok (.iload 4, 2) := of_q QX10_isAhead_0 24 rfl
theorem dX10_isAhead_43 : decode cX10_isAhead 43 = .ok (.isub, 1) := of_q QX10_isAhead_0 25 rfl
theorem dX10_isAhead_44 : decode cX10_isAhead 44 = .ok (.iaload, 1) := of_q QX10_isAhead_0 26 rfl
theorem dX10_isAhead_45 : decode cX10_isAhead 45 = .ok (.if_icmp .ne 7, 3) := of_q QX10_isAhead_0 27 rfl
theorem dX10_isAhead_48 : decode cX10_isAhead 48 = .ok (.iconst 1, 1) := of_q QX10_isAhead_0 28 rfl
theorem dX10_isAhead_49 : decode cX10_isAhead 49 = .ok (.goto 4, 3) := of_q QX10_isAhead_0 29 rfl
theorem dX10_isAhead_52 : decode cX10_isAhead 52 = .ok (.iconst 0, 1) := of_q QX10_isAhead_0 30 rfl
theorem dX10_isAhead_53 : decode cX10_isAhead 53 = .ok (.istore_n 3, 1) := of_q QX10_isAhead_0 31 rfl
theorem dX10_isAhead_54 : decode cX10_isAhead 54 = .ok (.iinc 4 1, 3) := of_q QX10_isAhead_0 32 rfl
theorem dX10_isAhead_57 : decode cX10_isAhead 57 = .ok (.goto (-43), 3) := of_q QX10_isAhead_0 33 rfl
theorem dX10_isAhead_60 : decode cX10_isAhead 60 = .ok (.iload_n 3, 1) := of_q QX10_isAhead_0 34 rfl
theorem dX10_isAhead_61 : decode cX10_isAhead 61 = .ok (.ireturn, 1) := of_q QX10_isAhead_0 35 rfl
def qX10_walk_0 : List (Nat × Instr × Nat) := [(0, .iload_n 1, 1), (1, .iconst 1, 1), (2, .if_icmp .lt 19, 3), (5, .iload_n 1, 1), (6, .iconst 3, 1), (7, .if_icmp .gt 14, 3), (10, .iload_n 3, 1), (11, .ifCond .lt 10, 3), (14, .iload_n 3, 1), (15, .sipush 200, 3), (18, .if_icmp .le 6, 3), (21, .bipush (-2), 2), (23, .ireturn, 1), (24, .iload_n 2, 1), (25, .ifCond .lt 13, 3), (28, .iload_n 2, 1), (29, .aload_n 0, 1), (30, .getfield 237, 3), (33, .iload_n 1, 1), (34, .isub, 1), (35, .if_icmp .le 6, 3), (38, .bipush (-3), 2), (40, .ireturn, 1), (41, .aload_n 0, 1), (42, .lload 4, 2), (44, .putfield 166, 3), (47, .iconst 0, 1), (48, .istore 6, 2), (50, .iload 6, 2), (52, .iload_n 1, 1), (53, .if_icmp .ge 25, 3), (56, .aload_n 0, 1), (57, .getfield 114, 3), (60, .iload 6, 2), (62, .aload_n 0, 1), (63, .getfield 111, 3), (66, .iload_n 2, 1), (67, .iload 6, 2), (69, .iadd, 1), (70, .iaload, 1), (71, .iastore, 1), (72, .iinc 6 1, 3), (75, .goto (-25), 3), (78, .aload_n 0, 1), (79, .iload_n 1, 1), (80, .putfield 240, 3), (83, .iconst 0, 1), (84, .istore 6, 2), (86, .iload 6, 2), (88, .iload_n 3, 1), (89, .if_icmp .ge 142, 3), (92, .iconst 0, 1), (93, .istore 7, 2), (95, .iconst 0, 1), (96, .istore 8, 2), (98, .iload 8, 2), (100, .aload_n 0, 1), (101, .getfield 237, 3), (104, .if_icmp .ge 29, 3), (107, .iload 7, 2)]
theorem QX10_walk_0 : qX10_walk_0.all (fun q => decide (decode cX10_walk q.1 = .ok q.2)) = true := by decide +kernel
theorem dX10_walk_0 : decode cX10_walk 0 = .ok (.iload_n 1, 1) := of_q QX10_walk_0 0 rfl
theorem dX10_walk_1 : decode cX10_walk 1 = .ok (.iconst 1, 1) := of_q QX10_walk_0 1 rfl
theorem dX10_walk_2 : decode cX10_walk 2 = .ok (.if_icmp .lt 19, 3) := of_q QX10_walk_0 2 rfl
theorem dX10_walk_5 : decode cX10_walk 5 = .ok (.iload_n 1, 1) := of_q QX10_walk_0 3 rfl
theorem dX10_walk_6 : decode cX10_walk 6 = .ok (.iconst 3, 1) := of_q QX10_walk_0 4 rfl
theorem dX10_walk_7 : decode cX10_walk 7 = .ok (.if_icmp .gt 14, 3) := of_q QX10_walk_0 5 rfl
theorem dX10_walk_10 : decode cX10_walk 10 = .ok (.iload_n 3, 1) := of_q QX10_walk_0 6 rfl
theorem dX10_walk_11 : decode cX10_walk 11 = .ok (.ifCond .lt 10, 3) := of_q QX10_walk_0 7 rfl
theorem dX10_walk_14 : decode cX10_walk 14 = .ok (.iload_n 3, 1) := of_q QX10_walk_0 8 rfl
theorem dX10_walk_15 : decode cX10_walk 15 = .ok (.sipush 200, 3) := of_q QX10_walk_0 9 rfl
theorem dX10_walk_18 : decode cX10_walk 18 = .ok (.if_icmp .le 6, 3) := of_q QX10_walk_0 10 rfl
theorem dX10_walk_21 : decode cX10_walk 21 = .ok (.bipush (-2), 2) := of_q QX10_walk_0 11 rfl
theorem dX10_walk_23 : decode cX10_walk 23 = .ok (.ireturn, 1) := of_q QX10_walk_0 12 rfl
theorem dX10_walk_24 : decode cX10_walk 24 = .ok (.iload_n 2, 1) := of_q QX10_walk_0 13 rfl
theorem dX10_walk_25 : decode cX10_walk 25 = .ok (.ifCond .lt 13, 3) := of_q QX10_walk_0 14 rfl
theorem dX10_walk_28 : decode cX10_walk 28 = .ok (.iload_n 2, 1) := of_q QX10_walk_0 15 rfl
theorem dX10_walk_29 : decode cX10_walk 29 = .ok (.aload_n 0, 1) := of_q QX10_walk_0 16 rfl
theorem dX10_walk_30 : decode cX10_walk 30 = .ok (.getfield 237, 3) := of_q QX10_walk_0 17 rfl
theorem dX10_walk_33 : decode cX10_walk 33 = .ok (.iload_n 1, 1) := of_q QX10_walk_0 18 rfl
theorem dX10_walk_34 : decode cX10_walk 34 = .ok (.isub, 1) := of_q QX10_walk_0 19 rfl
theorem dX10_walk_35 : decode cX10_walk 35 = .ok (.if_icmp .le 6, 3) := of_q QX10_walk_0 20 rfl
theorem dX10_walk_38 : decode cX10_walk 38 = .ok (.bipush (-3), 2) := of_q QX10_walk_0 21 rfl
theorem dX10_walk_40 : decode cX10_walk 40 = .ok (.ireturn, 1) := of_q QX10_walk_0 22 rfl
theorem dX10_walk_41 : decode cX10_walk 41 = .ok (.aload_n 0, 1) := of_q QX10_walk_0 23 rfl
theorem dX10_walk_42 : decode cX10_walk 42 = .ok (.lload 4, 2) := of_q QX10_walk_0 24 rfl
theorem dX10_walk_44 : decode cX10_walk 44 = .ok (.putfield 166, 3) := of_q QX10_walk_0 25 rfl
theorem dX10_walk_47 : decode cX10_walk 47 = .ok (.iconst 0, 1) := of_q QX10_walk_0 26 rfl
theorem dX10_walk_48 : decode cX10_walk 48 = .ok (.istore 6, 2) := of_q QX10_walk_0 27 rfl
theorem dX10_walk_50 : decode cX10_walk 50 = .ok (.iload 6, 2) := of_q QX10_walk_0 28 rfl
theorem dX10_walk_52 : decode cX10_walk 52 = .ok (.iload_n 1, 1) := of_q QX10_walk_0 29 rfl
theorem dX10_walk_53 : decode cX10_walk 53 = .ok (.if_icmp .ge 25, 3) := of_q QX10_walk_0 30 rfl
theorem dX10_walk_56 : decode cX10_walk 56 = .ok (.aload_n 0, 1) := of_q QX10_walk_0 31 rfl
theorem dX10_walk_57 : decode cX10_walk 57 = .ok (.getfield 114, 3) := of_q QX10_walk_0 32 rfl
theorem dX10_walk_60 : decode cX10_walk 60 = .ok (.iload 6, 2) := of_q QX10_walk_0 33 rfl
theorem dX10_walk_62 : decode cX10_walk 62 = .ok (.aload_n 0, 1) := of_q QX10_walk_0 34 rfl
theorem dX10_walk_63 : decode cX10_walk 63 = .ok (.getfield 111, 3) := of_q QX10_walk_0 35 rfl
theorem dX10_walk_66 : decode cX10_walk 66 = .ok (.iload_n 2, 1) := of_q QX10_walk_0 36 rfl
theorem dX10_walk_67 : decode cX10_walk 67 = .ok (.iload 6, 2) := of_q QX10_walk_0 37 rfl
theorem dX10_walk_69 : decode cX10_walk 69 = .ok (.iadd, 1) := of_q QX10_walk_0 38 rfl
theorem dX10_walk_70 : decode cX10_walk 70 = .ok (.iaload, 1) := of_q QX10_walk_0 39 rfl
theorem dX10_walk_71 : decode cX10_walk 71 = .ok (.iastore, 1) := of_q QX10_walk_0 40 rfl
theorem dX10_walk_72 : decode cX10_walk 72 = .ok (.iinc 6 1, 3) := of_q QX10_walk_0 41 rfl
theorem dX10_walk_75 : decode cX10_walk 75 = .ok (.goto (-25), 3) := of_q QX10_walk_0 42 rfl
theorem dX10_walk_78 : decode cX10_walk 78 = .ok (.aload_n 0, 1) := of_q QX10_walk_0 43 rfl
theorem dX10_walk_79 : decode cX10_walk 79 = .ok (.iload_n 1, 1) := of_q QX10_walk_0 44 rfl
theorem dX10_walk_80 : decode cX10_walk 80 = .ok (.putfield 240, 3) := of_q QX10_walk_0 45 rfl
theorem dX10_walk_83 : decode cX10_walk 83 = .ok (.iconst 0, 1) := of_q QX10_walk_0 46 rfl
theorem dX10_walk_84 : decode cX10_walk 84 = .ok (.istore 6, 2) := of_q QX10_walk_0 47 rfl
theorem dX10_walk_86 : decode cX10_walk 86 = .ok (.iload 6, 2) := of_q QX10_walk_0 48 rfl
theorem dX10_walk_88 : decode cX10_walk 88 = .ok (.iload_n 3, 1) := of_q QX10_walk_0 49 rfl
theorem dX10_walk_89 : decode cX10_walk 89 = .ok (.if_icmp .ge 142, 3) := of_q QX10_walk_0 50 rfl
theorem dX10_walk_92 : decode cX10_walk 92 = .ok (.iconst 0, 1) := of_q QX10_walk_0 51 rfl
theorem dX10_walk_93 : decode cX10_walk 93 = .ok (.istore 7, 2) := of_q QX10_walk_0 52 rfl
theorem dX10_walk_95 : decode cX10_walk 95 = .ok (.iconst 0, 1) := of_q QX10_walk_0 53 rfl
theorem dX10_walk_96 : decode cX10_walk 96 = .ok (.istore 8, 2) := of_q QX10_walk_0 54 rfl
theorem dX10_walk_98 : decode cX10_walk 98 = .ok (.iload 8, 2) := of_q QX10_walk_0 55 rfl
theorem dX10_walk_100 : decode cX10_walk 100 = .ok (.aload_n 0, 1) := of_q QX10_walk_0 56 rfl
theorem dX10_walk_101 : decode cX10_walk 101 = .ok (.getfield 237, 3) := of_q QX10_walk_0 57 rfl
theorem dX10_walk_104 : decode cX10_walk 104 = .ok (.if_icmp .ge 29, 3) := of_q QX10_walk_0 58 rfl
theorem dX10_walk_107 : decode cX10_walk 107 = .ok (.iload 7, 2) := of_q QX10_walk_0 59 rfl
def qX10_walk_1 : List (Nat × Instr × Nat) := [(109, .aload_n 0, 1), (110, .iload 8, 2), (112, .iload_n 1, 1), (113, .invokevirtual 243, 3), (116, .ifCond .eq 7, 3), (119, .iconst 1, 1), (120, .goto 4, 3), (123, .iconst 0, 1), (124, .iadd, 1), (125, .istore 7, 2), (127, .iinc 8 1, 3), (130, .goto (-32), 3), (133, .aload_n 0, 1), (134, .getfield 111, 3), (137, .iload_n 2, 1), (138, .iaload, 1), (139, .istore 8, 2), (141, .iload 7, 2), (143, .ifCond .le 61, 3), (146, .aload_n 0, 1), (147, .iload 7, 2), (149, .invokevirtual 182, 3), (152, .istore 9, 2), (154, .iconst 0, 1), (155, .istore 10, 2), (157, .iload 10, 2), (159, .aload_n 0, 1), (160, .getfield 237, 3), (163, .if_icmp .ge 41, 3), (166, .aload_n 0, 1), (167, .iload 10, 2), (169, .iload_n 1, 1), (170, .invokevirtual 243, 3), (173, .ifCond .eq 25, 3), (176, .iload 9, 2), (178, .ifCond .ne 13, 3), (181, .aload_n 0, 1), (182, .getfield 111, 3), (185, .iload 10, 2), (187, .iaload, 1), (188, .goto 5, 3), (191, .iload 8, 2), (193, .istore 8, 2), (195, .iinc 9 (-1), 3), (198, .iinc 10 1, 3), (201, .goto (-44), 3), (204, .aload_n 0, 1), (205, .getfield 114, 3), (208, .aload_n 0, 1), (209, .getfield 240, 3), (212, .iload 8, 2), (214, .iastore, 1), (215, .aload_n 0, 1), (216, .dup, 1), (217, .getfield 240, 3), (220, .iconst 1, 1), (221, .iadd, 1), (222, .putfield 240, 3), (225, .iinc 6 1, 3), (228, .goto (-142), 3)]
theorem QX10_walk_1 : qX10_walk_1.all (fun q => decide (decode cX10_walk q.1 = .ok q.2)) = true := by decide +kernel
theorem dX10_walk_109 : decode cX10_walk 109 = .ok (.aload_n 0, 1) := of_q QX10_walk_1 0 rfl
theorem dX10_walk_110 : decode cX10_walk 110 = .ok (.iload 8, 2) := of_q QX10_walk_1 1 rfl
theorem dX10_walk_112 : decode cX10_walk 112 = .ok (.iload_n 1, 1) := of_q QX10_walk_1 2 rfl
theorem dX10_walk_113 : decode cX10_walk 113 = .ok (.invokevirtual 243, 3) := of_q QX10_walk_1 3 rfl
theorem dX10_walk_116 : decode cX10_walk 116 = .ok (.ifCond .eq 7, 3) := of_q QX10_walk_1 4 rfl
theorem dX10_walk_119 : decode cX10_walk 119 = .ok (.iconst 1, 1) := of_q QX10_walk_1 5 rfl
theorem dX10_walk_120 : decode cX10_walk 120 = .ok (.goto 4, 3) := of_q QX10_walk_1 6 rfl
theorem dX10_walk_123 : decode cX10_walk 123 = .ok (.iconst 0, 1) := of_q QX10_walk_1 7 rfl
theorem dX10_walk_124 : decode cX10_walk 124 = .ok (.iadd, 1) := of_q QX10_walk_1 8 rfl
theorem dX10_walk_125 : decode cX10_walk 125 = .ok (.istore 7, 2) := of_q QX10_walk_1 9 rfl
theorem dX10_walk_127 : decode cX10_walk 127 = .ok (.iinc 8 1, 3) := of_q QX10_walk_1 10 rfl
theorem dX10_walk_130 : decode cX10_walk 130 = .ok (.goto (-32), 3) := of_q QX10_walk_1 11 rfl
theorem dX10_walk_133 : decode cX10_walk 133 = .ok (.aload_n 0, 1) := of_q QX10_walk_1 12 rfl
theorem dX10_walk_134 : decode cX10_walk 134 = .ok (.getfield 111, 3) := of_q QX10_walk_1 13 rfl
theorem dX10_walk_137 : decode cX10_walk 137 = .ok (.iload_n 2, 1) := of_q QX10_walk_1 14 rfl
theorem dX10_walk_138 : decode cX10_walk 138 = .ok (.iaload, 1) := of_q QX10_walk_1 15 rfl
theorem dX10_walk_139 : decode cX10_walk 139 = .ok (.istore 8, 2) := of_q QX10_walk_1 16 rfl
theorem dX10_walk_141 : decode cX10_walk 141 = .ok (.iload 7, 2) := of_q QX10_walk_1 17 rfl
theorem dX10_walk_143 : decode cX10_walk 143 = .ok (.ifCond .le 61, 3) := of_q QX10_walk_1 18 rfl
theorem dX10_walk_146 : decode cX10_walk 146 = .ok (.aload_n 0, 1) := of_q QX10_walk_1 19 rfl
theorem dX10_walk_147 : decode cX10_walk 147 = .ok (.iload 7, 2) := of_q QX10_walk_1 20 rfl
theorem dX10_walk_149 : decode cX10_walk 149 = .ok (.invokevirtual 182, 3) := of_q QX10_walk_1 21 rfl
theorem dX10_walk_152 : decode cX10_walk 152 = .ok (.istore 9, 2) := of_q QX10_walk_1 22 rfl
theorem dX10_walk_154 : decode cX10_walk 154 = .ok (.iconst 0, 1) := of_q QX10_walk_1 23 rfl
theorem dX10_walk_155 : decode cX10_walk 155 = .ok (.istore 10, 2) := of_q QX10_walk_1 24 rfl
theorem dX10_walk_157 : decode cX10_walk 157 = .ok (.iload 10, 2) := of_q QX10_walk_1 25 rfl
theorem dX10_walk_159 : decode cX10_walk 159 = .ok (.aload_n 0, 1) := of_q QX10_walk_1 26 rfl
theorem dX10_walk_160 : decode cX10_walk 160 = .ok (.getfield 237, 3) := of_q QX10_walk_1 27 rfl
theorem dX10_walk_163 : decode cX10_walk 163 = .ok (.if_icmp .ge 41, 3) := of_q QX10_walk_1 28 rfl
theorem dX10_walk_166 : decode cX10_walk 166 = .ok (.aload_n 0, 1) := of_q QX10_walk_1 29 rfl
theorem dX10_walk_167 : decode cX10_walk 167 = .ok (.iload 10, 2) := of_q QX10_walk_1 30 rfl
theorem dX10_walk_169 : decode cX10_walk 169 = .ok (.iload_n 1, 1) := of_q QX10_walk_1 31 rfl
theorem dX10_walk_170 : decode cX10_walk 170 = .ok (.invokevirtual 243, 3) := of_q QX10_walk_1 32 rfl
theorem dX10_walk_173 : decode cX10_walk 173 = .ok (.ifCond .eq 25, 3) := of_q QX10_walk_1 33 rfl
theorem dX10_walk_176 : decode cX10_walk 176 = .ok (.iload 9, 2) := of_q QX10_walk_1 34 rfl
theorem dX10_walk_178 : decode cX10_walk 178 = .ok (.ifCond .ne 13, 3) := of_q QX10_walk_1 35 rfl
theorem dX10_walk_181 : decode cX10_walk 181 = .ok (.aload_n 0, 1) := of_q QX10_walk_1 36 rfl
theorem dX10_walk_182 : decode cX10_walk 182 = .ok (.getfield 111, 3) := of_q QX10_walk_1 37 rfl
theorem dX10_walk_185 : decode cX10_walk 185 = .ok (.iload 10, 2) := of_q QX10_walk_1 38 rfl
theorem dX10_walk_187 : decode cX10_walk 187 = .ok (.iaload, 1) := of_q QX10_walk_1 39 rfl
theorem dX10_walk_188 : decode cX10_walk 188 = .ok (.goto 5, 3) := of_q QX10_walk_1 40 rfl
theorem dX10_walk_191 : decode cX10_walk 191 = .ok (.iload 8, 2) := of_q QX10_walk_1 41 rfl
theorem dX10_walk_193 : decode cX10_walk 193 = .ok (.istore 8, 2) := of_q QX10_walk_1 42 rfl
theorem dX10_walk_195 : decode cX10_walk 195 = .ok (.iinc 9 (-1), 3) := of_q QX10_walk_1 43 rfl
theorem dX10_walk_198 : decode cX10_walk 198 = .ok (.iinc 10 1, 3) := of_q QX10_walk_1 44 rfl
theorem dX10_walk_201 : decode cX10_walk 201 = .ok (.goto (-44), 3) := of_q QX10_walk_1 45 rfl
theorem dX10_walk_204 : decode cX10_walk 204 = .ok (.aload_n 0, 1) := of_q QX10_walk_1 46 rfl
theorem dX10_walk_205 : decode cX10_walk 205 = .ok (.getfield 114, 3) := of_q QX10_walk_1 47 rfl
theorem dX10_walk_208 : decode cX10_walk 208 = .ok (.aload_n 0, 1) := of_q QX10_walk_1 48 rfl
theorem dX10_walk_209 : decode cX10_walk 209 = .ok (.getfield 240, 3) := of_q QX10_walk_1 49 rfl
theorem dX10_walk_212 : decode cX10_walk 212 = .ok (.iload 8, 2) := of_q QX10_walk_1 50 rfl
theorem dX10_walk_214 : decode cX10_walk 214 = .ok (.iastore, 1) := of_q QX10_walk_1 51 rfl
theorem dX10_walk_215 : decode cX10_walk 215 = .ok (.aload_n 0, 1) := of_q QX10_walk_1 52 rfl
theorem dX10_walk_216 : decode cX10_walk 216 = .ok (.dup, 1) := of_q QX10_walk_1 53 rfl
theorem dX10_walk_217 : decode cX10_walk 217 = .ok (.getfield 240, 3) := of_q QX10_walk_1 54 rfl
theorem dX10_walk_220 : decode cX10_walk 220 = .ok (.iconst 1, 1) := of_q QX10_walk_1 55 rfl
theorem dX10_walk_221 : decode cX10_walk 221 = .ok (.iadd, 1) := of_q QX10_walk_1 56 rfl
theorem dX10_walk_222 : decode cX10_walk 222 = .ok (.putfield 240, 3) := of_q QX10_walk_1 57 rfl
theorem dX10_walk_225 : decode cX10_walk 225 = .ok (.iinc 6 1, 3) := of_q QX10_walk_1 58 rfl
theorem dX10_walk_228 : decode cX10_walk 228 = .ok (.goto (-142), 3) := of_q QX10_walk_1 59 rfl
def qX10_walk_2 : List (Nat × Instr × Nat) := [(231, .aload_n 0, 1), (232, .getfield 240, 3), (235, .ireturn, 1)]
theorem QX10_walk_2 : qX10_walk_2.all (fun q => decide (decode cX10_walk q.1 = .ok q.2)) = true := by decide +kernel
theorem dX10_walk_231 : decode cX10_walk 231 = .ok (.aload_n 0, 1) := of_q QX10_walk_2 0 rfl
theorem dX10_walk_232 : decode cX10_walk 232 = .ok (.getfield 240, 3) := of_q QX10_walk_2 1 rfl
theorem dX10_walk_235 : decode cX10_walk 235 = .ok (.ireturn, 1) := of_q QX10_walk_2 2 rfl
def qX10_step_0 : List (Nat × Instr × Nat) := [(0, .iload_n 1, 1), (1, .ifCond .lt 20, 3), (4, .iload_n 1, 1), (5, .aload_n 0, 1), (6, .getfield 240, 3), (9, .if_icmp .ge 12, 3), (12, .aload_n 0, 1), (13, .getfield 114, 3), (16, .iload_n 1, 1), (17, .iaload, 1), (18, .goto 4, 3), (21, .iconst 0, 1), (22, .ireturn, 1)]
theorem QX10_step_0 : qX10_step_0.all (fun q => decide (decode cX10_step q.1 = .ok q.2)) = true := by decide +kernel
theorem dX10_step_0 : decode cX10_step 0 = .ok (.iload_n 1, 1) := of_q QX10_step_0 0 rfl
theorem dX10_step_1 : decode cX10_step 1 = .ok (.ifCond .lt 20, 3) := of_q QX10_step_0 1 rfl
theorem dX10_step_4 : decode cX10_step 4 = .ok (.iload_n 1, 1) := of_q QX10_step_0 2 rfl
theorem dX10_step_5 : decode cX10_step 5 = .ok (.aload_n 0, 1) := of_q QX10_step_0 3 rfl
theorem dX10_step_6 : decode cX10_step 6 = .ok (.getfield 240, 3) := of_q QX10_step_0 4 rfl
theorem dX10_step_9 : decode cX10_step 9 = .ok (.if_icmp .ge 12, 3) := of_q QX10_step_0 5 rfl
theorem dX10_step_12 : decode cX10_step 12 = .ok (.aload_n 0, 1) := of_q QX10_step_0 6 rfl
theorem dX10_step_13 : decode cX10_step 13 = .ok (.getfield 114, 3) := of_q QX10_step_0 7 rfl
theorem dX10_step_16 : decode cX10_step 16 = .ok (.iload_n 1, 1) := of_q QX10_step_0 8 rfl
theorem dX10_step_17 : decode cX10_step 17 = .ok (.iaload, 1) := of_q QX10_step_0 9 rfl
theorem dX10_step_18 : decode cX10_step 18 = .ok (.goto 4, 3) := of_q QX10_step_0 10 rfl
theorem dX10_step_21 : decode cX10_step 21 = .ok (.iconst 0, 1) := of_q QX10_step_0 11 rfl
theorem dX10_step_22 : decode cX10_step 22 = .ok (.ireturn, 1) := of_q QX10_step_0 12 rfl
def qX10_steps_0 : List (Nat × Instr × Nat) := [(0, .aload_n 0, 1), (1, .getfield 240, 3), (4, .ireturn, 1)]
theorem QX10_steps_0 : qX10_steps_0.all (fun q => decide (decode cX10_steps q.1 = .ok q.2)) = true := by decide +kernel
theorem dX10_steps_0 : decode cX10_steps 0 = .ok (.aload_n 0, 1) := of_q QX10_steps_0 0 rfl
theorem dX10_steps_1 : decode cX10_steps 1 = .ok (.getfield 240, 3) := of_q QX10_steps_0 1 rfl
theorem dX10_steps_4 : decode cX10_steps 4 = .ok (.ireturn, 1) := of_q QX10_steps_0 2 rfl
def qX10_stroke_0 : List (Nat × Instr × Nat) := [(0, .iload_n 2, 1), (1, .iconst 1, 1), (2, .if_icmp .lt 39, 3), (5, .iload_n 2, 1), (6, .bipush 64, 2), (8, .if_icmp .gt 33, 3), (11, .iload_n 1, 1), (12, .ifCond .lt 29, 3), (15, .iload_n 1, 1), (16, .iload_n 2, 1), (17, .if_icmp .gt 24, 3), (20, .iload_n 3, 1), (21, .ifCond .lt 20, 3), (24, .iload_n 3, 1), (25, .iload_n 2, 1), (26, .if_icmp .ge 15, 3), (29, .iload 4, 2), (31, .ifCond .lt 10, 3), (34, .iload 4, 2), (36, .ldc 246, 2), (38, .if_icmp .le 6, 3), (41, .bipush (-2), 2), (43, .ireturn, 1), (44, .iload 4, 2), (46, .iload_n 3, 1), (47, .iadd, 1), (48, .iload_n 1, 1), (49, .imul, 1), (50, .iload_n 2, 1), (51, .irem, 1), (52, .iload_n 1, 1), (53, .if_icmp .ge 7, 3), (56, .iconst 1, 1), (57, .goto 4, 3), (60, .iconst 0, 1), (61, .ireturn, 1)]
theorem QX10_stroke_0 : qX10_stroke_0.all (fun q => decide (decode cX10_stroke q.1 = .ok q.2)) = true := by decide +kernel
theorem dX10_stroke_0 : decode cX10_stroke 0 = .ok (.iload_n 2, 1) := of_q QX10_stroke_0 0 rfl
theorem dX10_stroke_1 : decode cX10_stroke 1 = .ok (.iconst 1, 1) := of_q QX10_stroke_0 1 rfl
theorem dX10_stroke_2 : decode cX10_stroke 2 = .ok (.if_icmp .lt 39, 3) := of_q QX10_stroke_0 2 rfl
theorem dX10_stroke_5 : decode cX10_stroke 5 = .ok (.iload_n 2, 1) := of_q QX10_stroke_0 3 rfl
theorem dX10_stroke_6 : decode cX10_stroke 6 = .ok (.bipush 64, 2) := of_q QX10_stroke_0 4 rfl
theorem dX10_stroke_8 : decode cX10_stroke 8 = .ok (.if_icmp .gt 33, 3) := of_q QX10_stroke_0 5 rfl
theorem dX10_stroke_11 : decode cX10_stroke 11 = .ok (.iload_n 1, 1) := of_q QX10_stroke_0 6 rfl
theorem dX10_stroke_12 : decode cX10_stroke 12 = .ok (.ifCond .lt 29, 3) := of_q QX10_stroke_0 7 rfl
theorem dX10_stroke_15 : decode cX10_stroke 15 = .ok (.iload_n 1, 1) := of_q QX10_stroke_0 8 rfl
theorem dX10_stroke_16 : decode cX10_stroke 16 = .ok (.iload_n 2, 1) := of_q QX10_stroke_0 9 rfl
theorem dX10_stroke_17 : decode cX10_stroke 17 = .ok (.if_icmp .gt 24, 3) := of_q QX10_stroke_0 10 rfl
theorem dX10_stroke_20 : decode cX10_stroke 20 = .ok (.iload_n 3, 1) := of_q QX10_stroke_0 11 rfl
theorem dX10_stroke_21 : decode cX10_stroke 21 = .ok (.ifCond .lt 20, 3) := of_q QX10_stroke_0 12 rfl
theorem dX10_stroke_24 : decode cX10_stroke 24 = .ok (.iload_n 3, 1) := of_q QX10_stroke_0 13 rfl
theorem dX10_stroke_25 : decode cX10_stroke 25 = .ok (.iload_n 2, 1) := of_q QX10_stroke_0 14 rfl
theorem dX10_stroke_26 : decode cX10_stroke 26 = .ok (.if_icmp .ge 15, 3) := of_q QX10_stroke_0 15 rfl
theorem dX10_stroke_29 : decode cX10_stroke 29 = .ok (.iload 4, 2) := of_q QX10_stroke_0 16 rfl
theorem dX10_stroke_31 : decode cX10_stroke 31 = .ok (.ifCond .lt 10, 3) := of_q QX10_stroke_0 17 rfl
theorem dX10_stroke_34 : decode cX10_stroke 34 = .ok (.iload 4, 2) := of_q QX10_stroke_0 18 rfl
theorem dX10_stroke_36 : decode cX10_stroke 36 = .ok (.ldc 246, 2) := of_q QX10_stroke_0 19 rfl
theorem dX10_stroke_38 : decode cX10_stroke 38 = .ok (.if_icmp .le 6, 3) := of_q QX10_stroke_0 20 rfl
theorem dX10_stroke_41 : decode cX10_stroke 41 = .ok (.bipush (-2), 2) := of_q QX10_stroke_0 21 rfl
theorem dX10_stroke_43 : decode cX10_stroke 43 = .ok (.ireturn, 1) := of_q QX10_stroke_0 22 rfl
theorem dX10_stroke_44 : decode cX10_stroke 44 = .ok (.iload 4, 2) := of_q QX10_stroke_0 23 rfl
theorem dX10_stroke_46 : decode cX10_stroke 46 = .ok (.iload_n 3, 1) := of_q QX10_stroke_0 24 rfl
theorem dX10_stroke_47 : decode cX10_stroke 47 = .ok (.iadd, 1) := of_q QX10_stroke_0 25 rfl
theorem dX10_stroke_48 : decode cX10_stroke 48 = .ok (.iload_n 1, 1) := of_q QX10_stroke_0 26 rfl
theorem dX10_stroke_49 : decode cX10_stroke 49 = .ok (.imul, 1) := of_q QX10_stroke_0 27 rfl
theorem dX10_stroke_50 : decode cX10_stroke 50 = .ok (.iload_n 2, 1) := of_q QX10_stroke_0 28 rfl
theorem dX10_stroke_51 : decode cX10_stroke 51 = .ok (.irem, 1) := of_q QX10_stroke_0 29 rfl
theorem dX10_stroke_52 : decode cX10_stroke 52 = .ok (.iload_n 1, 1) := of_q QX10_stroke_0 30 rfl
theorem dX10_stroke_53 : decode cX10_stroke 53 = .ok (.if_icmp .ge 7, 3) := of_q QX10_stroke_0 31 rfl
theorem dX10_stroke_56 : decode cX10_stroke 56 = .ok (.iconst 1, 1) := of_q QX10_stroke_0 32 rfl
theorem dX10_stroke_57 : decode cX10_stroke 57 = .ok (.goto 4, 3) := of_q QX10_stroke_0 33 rfl
theorem dX10_stroke_60 : decode cX10_stroke 60 = .ok (.iconst 0, 1) := of_q QX10_stroke_0 34 rfl
theorem dX10_stroke_61 : decode cX10_stroke 61 = .ok (.ireturn, 1) := of_q QX10_stroke_0 35 rfl
def qX10_turned_0 : List (Nat × Instr × Nat) := [(0, .iload 5, 2), (2, .iconst 1, 1), (3, .if_icmp .lt 10, 3), (6, .iload 5, 2), (8, .bipush 64, 2), (10, .if_icmp .le 6, 3), (13, .bipush (-2), 2), (15, .ireturn, 1), (16, .iconst 0, 1), (17, .istore 6, 2), (19, .iload 6, 2), (21, .iload 5, 2), (23, .if_icmp .ge 68, 3), (26, .iconst 1, 1), (27, .istore 7, 2), (29, .iconst 0, 1), (30, .istore 8, 2), (32, .iload 8, 2), (34, .iload 5, 2), (36, .if_icmp .ge 41, 3), (39, .iload 7, 2), (41, .lload_n 3, 1), (42, .iload 8, 2), (44, .lshr, 1), (45, .lconst 1, 1), (46, .land, 1), (47, .lload_n 1, 1), (48, .iload 8, 2), (50, .iload 6, 2), (52, .iadd, 1), (53, .iload 5, 2), (55, .irem, 1), (56, .lshr, 1), (57, .lconst 1, 1), (58, .land, 1), (59, .lcmp, 1), (60, .ifCond .ne 7, 3), (63, .iconst 1, 1), (64, .goto 4, 3), (67, .iconst 0, 1), (68, .iand, 1), (69, .istore 7, 2), (71, .iinc 8 1, 3), (74, .goto (-42), 3), (77, .iload 7, 2), (79, .ifCond .eq 6, 3), (82, .iload 6, 2), (84, .ireturn, 1), (85, .iinc 6 1, 3), (88, .goto (-69), 3), (91, .iconst (-1), 1), (92, .ireturn, 1)]
theorem QX10_turned_0 : qX10_turned_0.all (fun q => decide (decode cX10_turned q.1 = .ok q.2)) = true := by decide +kernel
theorem dX10_turned_0 : decode cX10_turned 0 = .ok (.iload 5, 2) := of_q QX10_turned_0 0 rfl
theorem dX10_turned_2 : decode cX10_turned 2 = .ok (.iconst 1, 1) := of_q QX10_turned_0 1 rfl
theorem dX10_turned_3 : decode cX10_turned 3 = .ok (.if_icmp .lt 10, 3) := of_q QX10_turned_0 2 rfl
theorem dX10_turned_6 : decode cX10_turned 6 = .ok (.iload 5, 2) := of_q QX10_turned_0 3 rfl
theorem dX10_turned_8 : decode cX10_turned 8 = .ok (.bipush 64, 2) := of_q QX10_turned_0 4 rfl
theorem dX10_turned_10 : decode cX10_turned 10 = .ok (.if_icmp .le 6, 3) := of_q QX10_turned_0 5 rfl
theorem dX10_turned_13 : decode cX10_turned 13 = .ok (.bipush (-2), 2) := of_q QX10_turned_0 6 rfl
theorem dX10_turned_15 : decode cX10_turned 15 = .ok (.ireturn, 1) := of_q QX10_turned_0 7 rfl
theorem dX10_turned_16 : decode cX10_turned 16 = .ok (.iconst 0, 1) := of_q QX10_turned_0 8 rfl
theorem dX10_turned_17 : decode cX10_turned 17 = .ok (.istore 6, 2) := of_q QX10_turned_0 9 rfl
theorem dX10_turned_19 : decode cX10_turned 19 = .ok (.iload 6, 2) := of_q QX10_turned_0 10 rfl
theorem dX10_turned_21 : decode cX10_turned 21 = .ok (.iload 5, 2) := of_q QX10_turned_0 11 rfl
theorem dX10_turned_23 : decode cX10_turned 23 = .ok (.if_icmp .ge 68, 3) := of_q QX10_turned_0 12 rfl
theorem dX10_turned_26 : decode cX10_turned 26 = .ok (.iconst 1, 1) := of_q QX10_turned_0 13 rfl
theorem dX10_turned_27 : decode cX10_turned 27 = .ok (.istore 7, 2) := of_q QX10_turned_0 14 rfl
theorem dX10_turned_29 : decode cX10_turned 29 = .ok (.iconst 0, 1) := of_q QX10_turned_0 15 rfl
theorem dX10_turned_30 : decode cX10_turned 30 = .ok (.istore 8, 2) := of_q QX10_turned_0 16 rfl
theorem dX10_turned_32 : decode cX10_turned 32 = .ok (.iload 8, 2) := of_q QX10_turned_0 17 rfl
theorem dX10_turned_34 : decode cX10_turned 34 = .ok (.iload 5, 2) := of_q QX10_turned_0 18 rfl
theorem dX10_turned_36 : decode cX10_turned 36 = .ok (.if_icmp .ge 41, 3) := of_q QX10_turned_0 19 rfl
theorem dX10_turned_39 : decode cX10_turned 39 = .ok (.iload 7, 2) := of_q QX10_turned_0 20 rfl
theorem dX10_turned_41 : decode cX10_turned 41 = .ok (.lload_n 3, 1) := of_q QX10_turned_0 21 rfl
theorem dX10_turned_42 : decode cX10_turned 42 = .ok (.iload 8, 2) := of_q QX10_turned_0 22 rfl
theorem dX10_turned_44 : decode cX10_turned 44 = .ok (.lshr, 1) := of_q QX10_turned_0 23 rfl
theorem dX10_turned_45 : decode cX10_turned 45 = .ok (.lconst 1, 1) := of_q QX10_turned_0 24 rfl
theorem dX10_turned_46 : decode cX10_turned 46 = .ok (.land, 1) := of_q QX10_turned_0 25 rfl
theorem dX10_turned_47 : decode cX10_turned 47 = .ok (.lload_n 1, 1) := of_q QX10_turned_0 26 rfl
theorem dX10_turned_48 : decode cX10_turned 48 = .ok (.iload 8, 2) := of_q QX10_turned_0 27 rfl
theorem dX10_turned_50 : decode cX10_turned 50 = .ok (.iload 6, 2) := of_q QX10_turned_0 28 rfl
theorem dX10_turned_52 : decode cX10_turned 52 = .ok (.iadd, 1) := of_q QX10_turned_0 29 rfl
theorem dX10_turned_53 : decode cX10_turned 53 = .ok (.iload 5, 2) := of_q QX10_turned_0 30 rfl
theorem dX10_turned_55 : decode cX10_turned 55 = .ok (.irem, 1) := of_q QX10_turned_0 31 rfl
theorem dX10_turned_56 : decode cX10_turned 56 = .ok (.lshr, 1) := of_q QX10_turned_0 32 rfl
theorem dX10_turned_57 : decode cX10_turned 57 = .ok (.lconst 1, 1) := of_q QX10_turned_0 33 rfl
theorem dX10_turned_58 : decode cX10_turned 58 = .ok (.land, 1) := of_q QX10_turned_0 34 rfl
theorem dX10_turned_59 : decode cX10_turned 59 = .ok (.lcmp, 1) := of_q QX10_turned_0 35 rfl
theorem dX10_turned_60 : decode cX10_turned 60 = .ok (.ifCond .ne 7, 3) := of_q QX10_turned_0 36 rfl
theorem dX10_turned_63 : decode cX10_turned 63 = .ok (.iconst 1, 1) := of_q QX10_turned_0 37 rfl
theorem dX10_turned_64 : decode cX10_turned 64 = .ok (.goto 4, 3) := of_q QX10_turned_0 38 rfl
theorem dX10_turned_67 : decode cX10_turned 67 = .ok (.iconst 0, 1) := of_q QX10_turned_0 39 rfl
theorem dX10_turned_68 : decode cX10_turned 68 = .ok (.iand, 1) := of_q QX10_turned_0 40 rfl
theorem dX10_turned_69 : decode cX10_turned 69 = .ok (.istore 7, 2) := of_q QX10_turned_0 41 rfl
theorem dX10_turned_71 : decode cX10_turned 71 = .ok (.iinc 8 1, 3) := of_q QX10_turned_0 42 rfl
theorem dX10_turned_74 : decode cX10_turned 74 = .ok (.goto (-42), 3) := of_q QX10_turned_0 43 rfl
theorem dX10_turned_77 : decode cX10_turned 77 = .ok (.iload 7, 2) := of_q QX10_turned_0 44 rfl
theorem dX10_turned_79 : decode cX10_turned 79 = .ok (.ifCond .eq 6, 3) := of_q QX10_turned_0 45 rfl
theorem dX10_turned_82 : decode cX10_turned 82 = .ok (.iload 6, 2) := of_q QX10_turned_0 46 rfl
theorem dX10_turned_84 : decode cX10_turned 84 = .ok (.ireturn, 1) := of_q QX10_turned_0 47 rfl
theorem dX10_turned_85 : decode cX10_turned 85 = .ok (.iinc 6 1, 3) := of_q QX10_turned_0 48 rfl
theorem dX10_turned_88 : decode cX10_turned 88 = .ok (.goto (-69), 3) := of_q QX10_turned_0 49 rfl
theorem dX10_turned_91 : decode cX10_turned 91 = .ok (.iconst (-1), 1) := of_q QX10_turned_0 50 rfl
theorem dX10_turned_92 : decode cX10_turned 92 = .ok (.ireturn, 1) := of_q QX10_turned_0 51 rfl
def qX10_place_0 : List (Nat × Instr × Nat) := [(0, .iload_n 1, 1), (1, .ifCond .lt 19, 3), (4, .iload_n 1, 1), (5, .bipush 11, 2), (7, .if_icmp .gt 13, 3), (10, .iload_n 2, 1), (11, .ifCond .lt 9, 3), (14, .iload_n 2, 1), (15, .bipush 11, 2), (17, .if_icmp .le 6, 3), (20, .bipush (-2), 2), (22, .ireturn, 1), (23, .aload_n 0, 1), (24, .getfield 117, 3), (27, .iload_n 1, 1), (28, .iaload, 1), (29, .istore_n 3, 1), (30, .iconst 0, 1), (31, .istore 4, 2), (33, .iload 4, 2), (35, .bipush 12, 2), (37, .if_icmp .ge 38, 3), (40, .aload_n 0, 1), (41, .getfield 117, 3), (44, .iload 4, 2), (46, .aload_n 0, 1), (47, .getfield 117, 3), (50, .iload 4, 2), (52, .iaload, 1), (53, .iload_n 2, 1), (54, .if_icmp .ne 7, 3), (57, .iload_n 3, 1), (58, .goto 10, 3), (61, .aload_n 0, 1), (62, .getfield 117, 3), (65, .iload 4, 2), (67, .iaload, 1), (68, .iastore, 1), (69, .iinc 4 1, 3), (72, .goto (-39), 3), (75, .aload_n 0, 1), (76, .getfield 117, 3), (79, .iload_n 1, 1), (80, .iload_n 2, 1), (81, .iastore, 1), (82, .iconst 1, 1), (83, .ireturn, 1)]
theorem QX10_place_0 : qX10_place_0.all (fun q => decide (decode cX10_place q.1 = .ok q.2)) = true := by decide +kernel
theorem dX10_place_0 : decode cX10_place 0 = .ok (.iload_n 1, 1) := of_q QX10_place_0 0 rfl
theorem dX10_place_1 : decode cX10_place 1 = .ok (.ifCond .lt 19, 3) := of_q QX10_place_0 1 rfl
theorem dX10_place_4 : decode cX10_place 4 = .ok (.iload_n 1, 1) := of_q QX10_place_0 2 rfl
theorem dX10_place_5 : decode cX10_place 5 = .ok (.bipush 11, 2) := of_q QX10_place_0 3 rfl
theorem dX10_place_7 : decode cX10_place 7 = .ok (.if_icmp .gt 13, 3) := of_q QX10_place_0 4 rfl
theorem dX10_place_10 : decode cX10_place 10 = .ok (.iload_n 2, 1) := of_q QX10_place_0 5 rfl
theorem dX10_place_11 : decode cX10_place 11 = .ok (.ifCond .lt 9, 3) := of_q QX10_place_0 6 rfl
theorem dX10_place_14 : decode cX10_place 14 = .ok (.iload_n 2, 1) := of_q QX10_place_0 7 rfl
theorem dX10_place_15 : decode cX10_place 15 = .ok (.bipush 11, 2) := of_q QX10_place_0 8 rfl
theorem dX10_place_17 : decode cX10_place 17 = .ok (.if_icmp .le 6, 3) := of_q QX10_place_0 9 rfl
theorem dX10_place_20 : decode cX10_place 20 = .ok (.bipush (-2), 2) := of_q QX10_place_0 10 rfl
theorem dX10_place_22 : decode cX10_place 22 = .ok (.ireturn, 1) := of_q QX10_place_0 11 rfl
theorem dX10_place_23 : decode cX10_place 23 = .ok (.aload_n 0, 1) := of_q QX10_place_0 12 rfl
theorem dX10_place_24 : decode cX10_place 24 = .ok (.getfield 117, 3) := of_q QX10_place_0 13 rfl
theorem dX10_place_27 : decode cX10_place 27 = .ok (.iload_n 1, 1) := of_q QX10_place_0 14 rfl
theorem dX10_place_28 : decode cX10_place 28 = .ok (.iaload, 1) := of_q QX10_place_0 15 rfl
theorem dX10_place_29 : decode cX10_place 29 = .ok (.istore_n 3, 1) := of_q QX10_place_0 16 rfl
theorem dX10_place_30 : decode cX10_place 30 = .ok (.iconst 0, 1) := of_q QX10_place_0 17 rfl
theorem dX10_place_31 : decode cX10_place 31 = .ok (.istore 4, 2) := of_q QX10_place_0 18 rfl
theorem dX10_place_33 : decode cX10_place 33 = .ok (.iload 4, 2) := of_q QX10_place_0 19 rfl
theorem dX10_place_35 : decode cX10_place 35 = .ok (.bipush 12, 2) := of_q QX10_place_0 20 rfl
theorem dX10_place_37 : decode cX10_place 37 = .ok (.if_icmp .ge 38, 3) := of_q QX10_place_0 21 rfl
theorem dX10_place_40 : decode cX10_place 40 = .ok (.aload_n 0, 1) := of_q QX10_place_0 22 rfl
theorem dX10_place_41 : decode cX10_place 41 = .ok (.getfield 117, 3) := of_q QX10_place_0 23 rfl
theorem dX10_place_44 : decode cX10_place 44 = .ok (.iload 4, 2) := of_q QX10_place_0 24 rfl
theorem dX10_place_46 : decode cX10_place 46 = .ok (.aload_n 0, 1) := of_q QX10_place_0 25 rfl
theorem dX10_place_47 : decode cX10_place 47 = .ok (.getfield 117, 3) := of_q QX10_place_0 26 rfl
theorem dX10_place_50 : decode cX10_place 50 = .ok (.iload 4, 2) := of_q QX10_place_0 27 rfl
theorem dX10_place_52 : decode cX10_place 52 = .ok (.iaload, 1) := of_q QX10_place_0 28 rfl
theorem dX10_place_53 : decode cX10_place 53 = .ok (.iload_n 2, 1) := of_q QX10_place_0 29 rfl
theorem dX10_place_54 : decode cX10_place 54 = .ok (.if_icmp .ne 7, 3) := of_q QX10_place_0 30 rfl
theorem dX10_place_57 : decode cX10_place 57 = .ok (.iload_n 3, 1) := of_q QX10_place_0 31 rfl
theorem dX10_place_58 : decode cX10_place 58 = .ok (.goto 10, 3) := of_q QX10_place_0 32 rfl
theorem dX10_place_61 : decode cX10_place 61 = .ok (.aload_n 0, 1) := of_q QX10_place_0 33 rfl
theorem dX10_place_62 : decode cX10_place 62 = .ok (.getfield 117, 3) := of_q QX10_place_0 34 rfl
theorem dX10_place_65 : decode cX10_place 65 = .ok (.iload 4, 2) := of_q QX10_place_0 35 rfl
theorem dX10_place_67 : decode cX10_place 67 = .ok (.iaload, 1) := of_q QX10_place_0 36 rfl
theorem dX10_place_68 : decode cX10_place 68 = .ok (.iastore, 1) := of_q QX10_place_0 37 rfl
theorem dX10_place_69 : decode cX10_place 69 = .ok (.iinc 4 1, 3) := of_q QX10_place_0 38 rfl
theorem dX10_place_72 : decode cX10_place 72 = .ok (.goto (-39), 3) := of_q QX10_place_0 39 rfl
theorem dX10_place_75 : decode cX10_place 75 = .ok (.aload_n 0, 1) := of_q QX10_place_0 40 rfl
theorem dX10_place_76 : decode cX10_place 76 = .ok (.getfield 117, 3) := of_q QX10_place_0 41 rfl
theorem dX10_place_79 : decode cX10_place 79 = .ok (.iload_n 1, 1) := of_q QX10_place_0 42 rfl
theorem dX10_place_80 : decode cX10_place 80 = .ok (.iload_n 2, 1) := of_q QX10_place_0 43 rfl
theorem dX10_place_81 : decode cX10_place 81 = .ok (.iastore, 1) := of_q QX10_place_0 44 rfl
theorem dX10_place_82 : decode cX10_place 82 = .ok (.iconst 1, 1) := of_q QX10_place_0 45 rfl
theorem dX10_place_83 : decode cX10_place 83 = .ok (.ireturn, 1) := of_q QX10_place_0 46 rfl
def qX10_formOf_0 : List (Nat × Instr × Nat) := [(0, .aload_n 0, 1), (1, .getfield 117, 3), (4, .iload_n 1, 1), (5, .iconst 1, 1), (6, .if_icmp .le 10, 3), (9, .bipush 11, 2), (11, .iload_n 3, 1), (12, .isub, 1), (13, .goto 4, 3), (16, .iload_n 3, 1), (17, .iaload, 1), (18, .istore 4, 2), (20, .iload_n 1, 1), (21, .iconst 2, 1), (22, .irem, 1), (23, .iconst 1, 1), (24, .if_icmp .ne 17, 3), (27, .iconst 2, 1), (28, .aload_n 0, 1), (29, .getfield 117, 3), (32, .iconst 0, 1), (33, .iaload, 1), (34, .imul, 1), (35, .iload 4, 2), (37, .isub, 1), (38, .goto 5, 3), (41, .iload 4, 2), (43, .istore 5, 2), (45, .iload 5, 2), (47, .iload_n 2, 1), (48, .iadd, 1), (49, .bipush 24, 2), (51, .iadd, 1), (52, .bipush 12, 2), (54, .irem, 1), (55, .ireturn, 1)]
theorem QX10_formOf_0 : qX10_formOf_0.all (fun q => decide (decode cX10_formOf q.1 = .ok q.2)) = true := by decide +kernel
theorem dX10_formOf_0 : decode cX10_formOf 0 = .ok (.aload_n 0, 1) := of_q QX10_formOf_0 0 rfl
theorem dX10_formOf_1 : decode cX10_formOf 1 = .ok (.getfield 117, 3) := of_q QX10_formOf_0 1 rfl
theorem dX10_formOf_4 : decode cX10_formOf 4 = .ok (.iload_n 1, 1) := of_q QX10_formOf_0 2 rfl
theorem dX10_formOf_5 : decode cX10_formOf 5 = .ok (.iconst 1, 1) := of_q QX10_formOf_0 3 rfl
theorem dX10_formOf_6 : decode cX10_formOf 6 = .ok (.if_icmp .le 10, 3) := of_q QX10_formOf_0 4 rfl
theorem dX10_formOf_9 : decode cX10_formOf 9 = .ok (.bipush 11, 2) := of_q QX10_formOf_0 5 rfl
theorem dX10_formOf_11 : decode cX10_formOf 11 = .ok (.iload_n 3, 1) := of_q QX10_formOf_0 6 rfl
theorem dX10_formOf_12 : decode cX10_formOf 12 = .ok (.isub, 1) := of_q QX10_formOf_0 7 rfl
theorem dX10_formOf_13 : decode cX10_formOf 13 = .ok (.goto 4, 3) := of_q QX10_formOf_0 8 rfl
theorem dX10_formOf_16 : decode cX10_formOf 16 = .ok (.iload_n 3, 1) := of_q QX10_formOf_0 9 rfl
theorem dX10_formOf_17 : decode cX10_formOf 17 = .ok (.iaload, 1) := of_q QX10_formOf_0 10 rfl
theorem dX10_formOf_18 : decode cX10_formOf 18 = .ok (.istore 4, 2) := of_q QX10_formOf_0 11 rfl
theorem dX10_formOf_20 : decode cX10_formOf 20 = .ok (.iload_n 1, 1) := of_q QX10_formOf_0 12 rfl
theorem dX10_formOf_21 : decode cX10_formOf 21 = .ok (.iconst 2, 1) := of_q QX10_formOf_0 13 rfl
theorem dX10_formOf_22 : decode cX10_formOf 22 = .ok (.irem, 1) := of_q QX10_formOf_0 14 rfl
theorem dX10_formOf_23 : decode cX10_formOf 23 = .ok (.iconst 1, 1) := of_q QX10_formOf_0 15 rfl
theorem dX10_formOf_24 : decode cX10_formOf 24 = .ok (.if_icmp .ne 17, 3) := of_q QX10_formOf_0 16 rfl
theorem dX10_formOf_27 : decode cX10_formOf 27 = .ok (.iconst 2, 1) := of_q QX10_formOf_0 17 rfl
theorem dX10_formOf_28 : decode cX10_formOf 28 = .ok (.aload_n 0, 1) := of_q QX10_formOf_0 18 rfl
theorem dX10_formOf_29 : decode cX10_formOf 29 = .ok (.getfield 117, 3) := of_q QX10_formOf_0 19 rfl
theorem dX10_formOf_32 : decode cX10_formOf 32 = .ok (.iconst 0, 1) := of_q QX10_formOf_0 20 rfl
theorem dX10_formOf_33 : decode cX10_formOf 33 = .ok (.iaload, 1) := of_q QX10_formOf_0 21 rfl
theorem dX10_formOf_34 : decode cX10_formOf 34 = .ok (.imul, 1) := of_q QX10_formOf_0 22 rfl
theorem dX10_formOf_35 : decode cX10_formOf 35 = .ok (.iload 4, 2) := of_q QX10_formOf_0 23 rfl
theorem dX10_formOf_37 : decode cX10_formOf 37 = .ok (.isub, 1) := of_q QX10_formOf_0 24 rfl
theorem dX10_formOf_38 : decode cX10_formOf 38 = .ok (.goto 5, 3) := of_q QX10_formOf_0 25 rfl
theorem dX10_formOf_41 : decode cX10_formOf 41 = .ok (.iload 4, 2) := of_q QX10_formOf_0 26 rfl
theorem dX10_formOf_43 : decode cX10_formOf 43 = .ok (.istore 5, 2) := of_q QX10_formOf_0 27 rfl
theorem dX10_formOf_45 : decode cX10_formOf 45 = .ok (.iload 5, 2) := of_q QX10_formOf_0 28 rfl
theorem dX10_formOf_47 : decode cX10_formOf 47 = .ok (.iload_n 2, 1) := of_q QX10_formOf_0 29 rfl
theorem dX10_formOf_48 : decode cX10_formOf 48 = .ok (.iadd, 1) := of_q QX10_formOf_0 30 rfl
theorem dX10_formOf_49 : decode cX10_formOf 49 = .ok (.bipush 24, 2) := of_q QX10_formOf_0 31 rfl
theorem dX10_formOf_51 : decode cX10_formOf 51 = .ok (.iadd, 1) := of_q QX10_formOf_0 32 rfl
theorem dX10_formOf_52 : decode cX10_formOf 52 = .ok (.bipush 12, 2) := of_q QX10_formOf_0 33 rfl
theorem dX10_formOf_54 : decode cX10_formOf 54 = .ok (.irem, 1) := of_q QX10_formOf_0 34 rfl
theorem dX10_formOf_55 : decode cX10_formOf 55 = .ok (.ireturn, 1) := of_q QX10_formOf_0 35 rfl
def qX10_form_0 : List (Nat × Instr × Nat) := [(0, .iload_n 1, 1), (1, .ifCond .lt 28, 3), (4, .iload_n 1, 1), (5, .iconst 3, 1), (6, .if_icmp .gt 23, 3), (9, .iload_n 2, 1), (10, .ifCond .lt 19, 3), (13, .iload_n 2, 1), (14, .bipush 11, 2), (16, .if_icmp .gt 13, 3), (19, .iload_n 3, 1), (20, .ifCond .lt 9, 3), (23, .iload_n 3, 1), (24, .bipush 11, 2), (26, .if_icmp .le 6, 3), (29, .bipush (-2), 2), (31, .ireturn, 1), (32, .aload_n 0, 1), (33, .iload_n 1, 1), (34, .iload_n 2, 1), (35, .iload_n 3, 1), (36, .invokevirtual 247, 3), (39, .ireturn, 1)]
theorem QX10_form_0 : qX10_form_0.all (fun q => decide (decode cX10_form q.1 = .ok q.2)) = true := by decide +kernel
theorem dX10_form_0 : decode cX10_form 0 = .ok (.iload_n 1, 1) := of_q QX10_form_0 0 rfl
theorem dX10_form_1 : decode cX10_form 1 = .ok (.ifCond .lt 28, 3) := of_q QX10_form_0 1 rfl
theorem dX10_form_4 : decode cX10_form 4 = .ok (.iload_n 1, 1) := of_q QX10_form_0 2 rfl
theorem dX10_form_5 : decode cX10_form 5 = .ok (.iconst 3, 1) := of_q QX10_form_0 3 rfl
theorem dX10_form_6 : decode cX10_form 6 = .ok (.if_icmp .gt 23, 3) := of_q QX10_form_0 4 rfl
theorem dX10_form_9 : decode cX10_form 9 = .ok (.iload_n 2, 1) := of_q QX10_form_0 5 rfl
theorem dX10_form_10 : decode cX10_form 10 = .ok (.ifCond .lt 19, 3) := of_q QX10_form_0 6 rfl
theorem dX10_form_13 : decode cX10_form 13 = .ok (.iload_n 2, 1) := of_q QX10_form_0 7 rfl
theorem dX10_form_14 : decode cX10_form 14 = .ok (.bipush 11, 2) := of_q QX10_form_0 8 rfl
theorem dX10_form_16 : decode cX10_form 16 = .ok (.if_icmp .gt 13, 3) := of_q QX10_form_0 9 rfl
theorem dX10_form_19 : decode cX10_form 19 = .ok (.iload_n 3, 1) := of_q QX10_form_0 10 rfl
theorem dX10_form_20 : decode cX10_form 20 = .ok (.ifCond .lt 9, 3) := of_q QX10_form_0 11 rfl
theorem dX10_form_23 : decode cX10_form 23 = .ok (.iload_n 3, 1) := of_q QX10_form_0 12 rfl
theorem dX10_form_24 : decode cX10_form 24 = .ok (.bipush 11, 2) := of_q QX10_form_0 13 rfl
theorem dX10_form_26 : decode cX10_form 26 = .ok (.if_icmp .le 6, 3) := of_q QX10_form_0 14 rfl
theorem dX10_form_29 : decode cX10_form 29 = .ok (.bipush (-2), 2) := of_q QX10_form_0 15 rfl
theorem dX10_form_31 : decode cX10_form 31 = .ok (.ireturn, 1) := of_q QX10_form_0 16 rfl
theorem dX10_form_32 : decode cX10_form 32 = .ok (.aload_n 0, 1) := of_q QX10_form_0 17 rfl
theorem dX10_form_33 : decode cX10_form 33 = .ok (.iload_n 1, 1) := of_q QX10_form_0 18 rfl
theorem dX10_form_34 : decode cX10_form 34 = .ok (.iload_n 2, 1) := of_q QX10_form_0 19 rfl
theorem dX10_form_35 : decode cX10_form 35 = .ok (.iload_n 3, 1) := of_q QX10_form_0 20 rfl
theorem dX10_form_36 : decode cX10_form 36 = .ok (.invokevirtual 247, 3) := of_q QX10_form_0 21 rfl
theorem dX10_form_39 : decode cX10_form 39 = .ok (.ireturn, 1) := of_q QX10_form_0 22 rfl
def qX10_doubled_0 : List (Nat × Instr × Nat) := [(0, .iconst 0, 1), (1, .istore_n 1, 1), (2, .iconst 0, 1), (3, .istore_n 2, 1), (4, .iload_n 2, 1), (5, .bipush 48, 2), (7, .if_icmp .ge 105, 3), (10, .iconst 0, 1), (11, .istore_n 3, 1), (12, .iconst 0, 1), (13, .istore 4, 2), (15, .iload 4, 2), (17, .iload_n 2, 1), (18, .if_icmp .ge 76, 3), (21, .iconst 1, 1), (22, .istore 5, 2), (24, .iconst 0, 1), (25, .istore 6, 2), (27, .iload 6, 2), (29, .bipush 12, 2), (31, .if_icmp .ge 52, 3), (34, .iload 5, 2), (36, .aload_n 0, 1), (37, .iload_n 2, 1), (38, .bipush 12, 2), (40, .idiv, 1), (41, .iload_n 2, 1), (42, .bipush 12, 2), (44, .irem, 1), (45, .iload 6, 2), (47, .invokevirtual 247, 3), (50, .aload_n 0, 1), (51, .iload 4, 2), (53, .bipush 12, 2), (55, .idiv, 1), (56, .iload 4, 2), (58, .bipush 12, 2), (60, .irem, 1), (61, .iload 6, 2), (63, .invokevirtual 247, 3), (66, .if_icmp .ne 7, 3), (69, .iconst 1, 1), (70, .goto 4, 3), (73, .iconst 0, 1), (74, .iand, 1), (75, .istore 5, 2), (77, .iinc 6 1, 3), (80, .goto (-53), 3), (83, .iload_n 3, 1), (84, .iload 5, 2), (86, .ior, 1), (87, .istore_n 3, 1), (88, .iinc 4 1, 3), (91, .goto (-76), 3), (94, .iload_n 1, 1), (95, .iload_n 3, 1), (96, .ifCond .eq 7, 3), (99, .iconst 1, 1), (100, .goto 4, 3), (103, .iconst 0, 1)]
theorem QX10_doubled_0 : qX10_doubled_0.all (fun q => decide (decode cX10_doubled q.1 = .ok q.2)) = true := by decide +kernel
theorem dX10_doubled_0 : decode cX10_doubled 0 = .ok (.iconst 0, 1) := of_q QX10_doubled_0 0 rfl
theorem dX10_doubled_1 : decode cX10_doubled 1 = .ok (.istore_n 1, 1) := of_q QX10_doubled_0 1 rfl
theorem dX10_doubled_2 : decode cX10_doubled 2 = .ok (.iconst 0, 1) := of_q QX10_doubled_0 2 rfl
theorem dX10_doubled_3 : decode cX10_doubled 3 = .ok (.istore_n 2, 1) := of_q QX10_doubled_0 3 rfl
theorem dX10_doubled_4 : decode cX10_doubled 4 = .ok (.iload_n 2, 1) := of_q QX10_doubled_0 4 rfl
theorem dX10_doubled_5 : decode cX10_doubled 5 = .ok (.bipush 48, 2) := of_q QX10_doubled_0 5 rfl
theorem dX10_doubled_7 : decode cX10_doubled 7 = .ok (.if_icmp .ge 105, 3) := of_q QX10_doubled_0 6 rfl
theorem dX10_doubled_10 : decode cX10_doubled 10 = .ok (.iconst 0, 1) := of_q QX10_doubled_0 7 rfl
theorem dX10_doubled_11 : decode cX10_doubled 11 = .ok (.istore_n 3, 1) := of_q QX10_doubled_0 8 rfl
theorem dX10_doubled_12 : decode cX10_doubled 12 = .ok (.iconst 0, 1) := of_q QX10_doubled_0 9 rfl
theorem dX10_doubled_13 : decode cX10_doubled 13 = .ok (.istore 4, 2) := of_q QX10_doubled_0 10 rfl
theorem dX10_doubled_15 : decode cX10_doubled 15 = .ok (.iload 4, 2) := of_q QX10_doubled_0 11 rfl
theorem dX10_doubled_17 : decode cX10_doubled 17 = .ok (.iload_n 2, 1) := of_q QX10_doubled_0 12 rfl
theorem dX10_doubled_18 : decode cX10_doubled 18 = .ok (.if_icmp .ge 76, 3) := of_q QX10_doubled_0 13 rfl
theorem dX10_doubled_21 : decode cX10_doubled 21 = .ok (.iconst 1, 1) := of_q QX10_doubled_0 14 rfl
theorem dX10_doubled_22 : decode cX10_doubled 22 = .ok (.istore 5, 2) := of_q QX10_doubled_0 15 rfl
theorem dX10_doubled_24 : decode cX10_doubled 24 = .ok (.iconst 0, 1) := of_q QX10_doubled_0 16 rfl
theorem dX10_doubled_25 : decode cX10_doubled 25 = .ok (.istore 6, 2) := of_q QX10_doubled_0 17 rfl
theorem dX10_doubled_27 : decode cX10_doubled 27 = .ok (.iload 6, 2) := of_q QX10_doubled_0 18 rfl
theorem dX10_doubled_29 : decode cX10_doubled 29 = .ok (.bipush 12, 2) := of_q QX10_doubled_0 19 rfl
theorem dX10_doubled_31 : decode cX10_doubled 31 = .ok (.if_icmp .ge 52, 3) := of_q QX10_doubled_0 20 rfl
theorem dX10_doubled_34 : decode cX10_doubled 34 = .ok (.iload 5, 2) := of_q QX10_doubled_0 21 rfl
theorem dX10_doubled_36 : decode cX10_doubled 36 = .ok (.aload_n 0, 1) := of_q QX10_doubled_0 22 rfl
theorem dX10_doubled_37 : decode cX10_doubled 37 = .ok (.iload_n 2, 1) := of_q QX10_doubled_0 23 rfl
theorem dX10_doubled_38 : decode cX10_doubled 38 = .ok (.bipush 12, 2) := of_q QX10_doubled_0 24 rfl
theorem dX10_doubled_40 : decode cX10_doubled 40 = .ok (.idiv, 1) := of_q QX10_doubled_0 25 rfl
theorem dX10_doubled_41 : decode cX10_doubled 41 = .ok (.iload_n 2, 1) := of_q QX10_doubled_0 26 rfl
theorem dX10_doubled_42 : decode cX10_doubled 42 = .ok (.bipush 12, 2) := of_q QX10_doubled_0 27 rfl
theorem dX10_doubled_44 : decode cX10_doubled 44 = .ok (.irem, 1) := of_q QX10_doubled_0 28 rfl
theorem dX10_doubled_45 : decode cX10_doubled 45 = .ok (.iload 6, 2) := of_q QX10_doubled_0 29 rfl
theorem dX10_doubled_47 : decode cX10_doubled 47 = .ok (.invokevirtual 247, 3) := of_q QX10_doubled_0 30 rfl
theorem dX10_doubled_50 : decode cX10_doubled 50 = .ok (.aload_n 0, 1) := of_q QX10_doubled_0 31 rfl
theorem dX10_doubled_51 : decode cX10_doubled 51 = .ok (.iload 4, 2) := of_q QX10_doubled_0 32 rfl
theorem dX10_doubled_53 : decode cX10_doubled 53 = .ok (.bipush 12, 2) := of_q QX10_doubled_0 33 rfl
theorem dX10_doubled_55 : decode cX10_doubled 55 = .ok (.idiv, 1) := of_q QX10_doubled_0 34 rfl
theorem dX10_doubled_56 : decode cX10_doubled 56 = .ok (.iload 4, 2) := of_q QX10_doubled_0 35 rfl
theorem dX10_doubled_58 : decode cX10_doubled 58 = .ok (.bipush 12, 2) := of_q QX10_doubled_0 36 rfl
theorem dX10_doubled_60 : decode cX10_doubled 60 = .ok (.irem, 1) := of_q QX10_doubled_0 37 rfl
theorem dX10_doubled_61 : decode cX10_doubled 61 = .ok (.iload 6, 2) := of_q QX10_doubled_0 38 rfl
theorem dX10_doubled_63 : decode cX10_doubled 63 = .ok (.invokevirtual 247, 3) := of_q QX10_doubled_0 39 rfl
theorem dX10_doubled_66 : decode cX10_doubled 66 = .ok (.if_icmp .ne 7, 3) := of_q QX10_doubled_0 40 rfl
theorem dX10_doubled_69 : decode cX10_doubled 69 = .ok (.iconst 1, 1) := of_q QX10_doubled_0 41 rfl
theorem dX10_doubled_70 : decode cX10_doubled 70 = .ok (.goto 4, 3) := of_q QX10_doubled_0 42 rfl
theorem dX10_doubled_73 : decode cX10_doubled 73 = .ok (.iconst 0, 1) := of_q QX10_doubled_0 43 rfl
theorem dX10_doubled_74 : decode cX10_doubled 74 = .ok (.iand, 1) := of_q QX10_doubled_0 44 rfl
theorem dX10_doubled_75 : decode cX10_doubled 75 = .ok (.istore 5, 2) := of_q QX10_doubled_0 45 rfl
theorem dX10_doubled_77 : decode cX10_doubled 77 = .ok (.iinc 6 1, 3) := of_q QX10_doubled_0 46 rfl
theorem dX10_doubled_80 : decode cX10_doubled 80 = .ok (.goto (-53), 3) := of_q QX10_doubled_0 47 rfl
theorem dX10_doubled_83 : decode cX10_doubled 83 = .ok (.iload_n 3, 1) := of_q QX10_doubled_0 48 rfl
theorem dX10_doubled_84 : decode cX10_doubled 84 = .ok (.iload 5, 2) := of_q QX10_doubled_0 49 rfl
theorem dX10_doubled_86 : decode cX10_doubled 86 = .ok (.ior, 1) := of_q QX10_doubled_0 50 rfl
theorem dX10_doubled_87 : decode cX10_doubled 87 = .ok (.istore_n 3, 1) := of_q QX10_doubled_0 51 rfl
theorem dX10_doubled_88 : decode cX10_doubled 88 = .ok (.iinc 4 1, 3) := of_q QX10_doubled_0 52 rfl
theorem dX10_doubled_91 : decode cX10_doubled 91 = .ok (.goto (-76), 3) := of_q QX10_doubled_0 53 rfl
theorem dX10_doubled_94 : decode cX10_doubled 94 = .ok (.iload_n 1, 1) := of_q QX10_doubled_0 54 rfl
theorem dX10_doubled_95 : decode cX10_doubled 95 = .ok (.iload_n 3, 1) := of_q QX10_doubled_0 55 rfl
theorem dX10_doubled_96 : decode cX10_doubled 96 = .ok (.ifCond .eq 7, 3) := of_q QX10_doubled_0 56 rfl
theorem dX10_doubled_99 : decode cX10_doubled 99 = .ok (.iconst 1, 1) := of_q QX10_doubled_0 57 rfl
theorem dX10_doubled_100 : decode cX10_doubled 100 = .ok (.goto 4, 3) := of_q QX10_doubled_0 58 rfl
theorem dX10_doubled_103 : decode cX10_doubled 103 = .ok (.iconst 0, 1) := of_q QX10_doubled_0 59 rfl
def qX10_doubled_1 : List (Nat × Instr × Nat) := [(104, .iadd, 1), (105, .istore_n 1, 1), (106, .iinc 2 1, 3), (109, .goto (-105), 3), (112, .iload_n 1, 1), (113, .ireturn, 1)]
theorem QX10_doubled_1 : qX10_doubled_1.all (fun q => decide (decode cX10_doubled q.1 = .ok q.2)) = true := by decide +kernel
theorem dX10_doubled_104 : decode cX10_doubled 104 = .ok (.iadd, 1) := of_q QX10_doubled_1 0 rfl
theorem dX10_doubled_105 : decode cX10_doubled 105 = .ok (.istore_n 1, 1) := of_q QX10_doubled_1 1 rfl
theorem dX10_doubled_106 : decode cX10_doubled 106 = .ok (.iinc 2 1, 3) := of_q QX10_doubled_1 2 rfl
theorem dX10_doubled_109 : decode cX10_doubled 109 = .ok (.goto (-105), 3) := of_q QX10_doubled_1 3 rfl
theorem dX10_doubled_112 : decode cX10_doubled 112 = .ok (.iload_n 1, 1) := of_q QX10_doubled_1 4 rfl
theorem dX10_doubled_113 : decode cX10_doubled 113 = .ok (.ireturn, 1) := of_q QX10_doubled_1 5 rfl
def qX10_told_0 : List (Nat × Instr × Nat) := [(0, .iload_n 1, 1), (1, .ifCond .lt 8, 3), (4, .iload_n 1, 1), (5, .iconst 5, 1), (6, .if_icmp .le 6, 3), (9, .bipush (-2), 2), (11, .ireturn, 1), (12, .iload_n 1, 1), (13, .ifCond .ne 10, 3), (16, .aload_n 0, 1), (17, .getfield 120, 3), (20, .goto 61, 3), (23, .iload_n 1, 1), (24, .iconst 1, 1), (25, .if_icmp .ne 12, 3), (28, .aload_n 0, 1), (29, .getfield 46, 3), (32, .iconst 0, 1), (33, .iaload, 1), (34, .goto 47, 3), (37, .iload_n 1, 1), (38, .iconst 2, 1), (39, .if_icmp .ne 10, 3), (42, .aload_n 0, 1), (43, .getfield 218, 3), (46, .goto 35, 3), (49, .iload_n 1, 1), (50, .iconst 3, 1), (51, .if_icmp .ne 10, 3), (54, .aload_n 0, 1), (55, .getfield 237, 3), (58, .goto 23, 3), (61, .iload_n 1, 1), (62, .iconst 4, 1), (63, .if_icmp .ne 12, 3), (66, .aload_n 0, 1), (67, .getfield 49, 3), (70, .iconst 0, 1), (71, .iaload, 1), (72, .goto 9, 3), (75, .aload_n 0, 1), (76, .getfield 52, 3), (79, .iconst 0, 1), (80, .iaload, 1), (81, .ireturn, 1)]
theorem QX10_told_0 : qX10_told_0.all (fun q => decide (decode cX10_told q.1 = .ok q.2)) = true := by decide +kernel
theorem dX10_told_0 : decode cX10_told 0 = .ok (.iload_n 1, 1) := of_q QX10_told_0 0 rfl
theorem dX10_told_1 : decode cX10_told 1 = .ok (.ifCond .lt 8, 3) := of_q QX10_told_0 1 rfl
theorem dX10_told_4 : decode cX10_told 4 = .ok (.iload_n 1, 1) := of_q QX10_told_0 2 rfl
theorem dX10_told_5 : decode cX10_told 5 = .ok (.iconst 5, 1) := of_q QX10_told_0 3 rfl
theorem dX10_told_6 : decode cX10_told 6 = .ok (.if_icmp .le 6, 3) := of_q QX10_told_0 4 rfl
theorem dX10_told_9 : decode cX10_told 9 = .ok (.bipush (-2), 2) := of_q QX10_told_0 5 rfl
theorem dX10_told_11 : decode cX10_told 11 = .ok (.ireturn, 1) := of_q QX10_told_0 6 rfl
theorem dX10_told_12 : decode cX10_told 12 = .ok (.iload_n 1, 1) := of_q QX10_told_0 7 rfl
theorem dX10_told_13 : decode cX10_told 13 = .ok (.ifCond .ne 10, 3) := of_q QX10_told_0 8 rfl
theorem dX10_told_16 : decode cX10_told 16 = .ok (.aload_n 0, 1) := of_q QX10_told_0 9 rfl
theorem dX10_told_17 : decode cX10_told 17 = .ok (.getfield 120, 3) := of_q QX10_told_0 10 rfl
theorem dX10_told_20 : decode cX10_told 20 = .ok (.goto 61, 3) := of_q QX10_told_0 11 rfl
theorem dX10_told_23 : decode cX10_told 23 = .ok (.iload_n 1, 1) := of_q QX10_told_0 12 rfl
theorem dX10_told_24 : decode cX10_told 24 = .ok (.iconst 1, 1) := of_q QX10_told_0 13 rfl
theorem dX10_told_25 : decode cX10_told 25 = .ok (.if_icmp .ne 12, 3) := of_q QX10_told_0 14 rfl
theorem dX10_told_28 : decode cX10_told 28 = .ok (.aload_n 0, 1) := of_q QX10_told_0 15 rfl
theorem dX10_told_29 : decode cX10_told 29 = .ok (.getfield 46, 3) := of_q QX10_told_0 16 rfl
theorem dX10_told_32 : decode cX10_told 32 = .ok (.iconst 0, 1) := of_q QX10_told_0 17 rfl
theorem dX10_told_33 : decode cX10_told 33 = .ok (.iaload, 1) := of_q QX10_told_0 18 rfl
theorem dX10_told_34 : decode cX10_told 34 = .ok (.goto 47, 3) := of_q QX10_told_0 19 rfl
theorem dX10_told_37 : decode cX10_told 37 = .ok (.iload_n 1, 1) := of_q QX10_told_0 20 rfl
theorem dX10_told_38 : decode cX10_told 38 = .ok (.iconst 2, 1) := of_q QX10_told_0 21 rfl
theorem dX10_told_39 : decode cX10_told 39 = .ok (.if_icmp .ne 10, 3) := of_q QX10_told_0 22 rfl
theorem dX10_told_42 : decode cX10_told 42 = .ok (.aload_n 0, 1) := of_q QX10_told_0 23 rfl
theorem dX10_told_43 : decode cX10_told 43 = .ok (.getfield 218, 3) := of_q QX10_told_0 24 rfl
theorem dX10_told_46 : decode cX10_told 46 = .ok (.goto 35, 3) := of_q QX10_told_0 25 rfl
theorem dX10_told_49 : decode cX10_told 49 = .ok (.iload_n 1, 1) := of_q QX10_told_0 26 rfl
theorem dX10_told_50 : decode cX10_told 50 = .ok (.iconst 3, 1) := of_q QX10_told_0 27 rfl
theorem dX10_told_51 : decode cX10_told 51 = .ok (.if_icmp .ne 10, 3) := of_q QX10_told_0 28 rfl
theorem dX10_told_54 : decode cX10_told 54 = .ok (.aload_n 0, 1) := of_q QX10_told_0 29 rfl
theorem dX10_told_55 : decode cX10_told 55 = .ok (.getfield 237, 3) := of_q QX10_told_0 30 rfl
theorem dX10_told_58 : decode cX10_told 58 = .ok (.goto 23, 3) := of_q QX10_told_0 31 rfl
theorem dX10_told_61 : decode cX10_told 61 = .ok (.iload_n 1, 1) := of_q QX10_told_0 32 rfl
theorem dX10_told_62 : decode cX10_told 62 = .ok (.iconst 4, 1) := of_q QX10_told_0 33 rfl
theorem dX10_told_63 : decode cX10_told 63 = .ok (.if_icmp .ne 12, 3) := of_q QX10_told_0 34 rfl
theorem dX10_told_66 : decode cX10_told 66 = .ok (.aload_n 0, 1) := of_q QX10_told_0 35 rfl
theorem dX10_told_67 : decode cX10_told 67 = .ok (.getfield 49, 3) := of_q QX10_told_0 36 rfl
theorem dX10_told_70 : decode cX10_told 70 = .ok (.iconst 0, 1) := of_q QX10_told_0 37 rfl
theorem dX10_told_71 : decode cX10_told 71 = .ok (.iaload, 1) := of_q QX10_told_0 38 rfl
theorem dX10_told_72 : decode cX10_told 72 = .ok (.goto 9, 3) := of_q QX10_told_0 39 rfl
theorem dX10_told_75 : decode cX10_told 75 = .ok (.aload_n 0, 1) := of_q QX10_told_0 40 rfl
theorem dX10_told_76 : decode cX10_told 76 = .ok (.getfield 52, 3) := of_q QX10_told_0 41 rfl
theorem dX10_told_79 : decode cX10_told 79 = .ok (.iconst 0, 1) := of_q QX10_told_0 42 rfl
theorem dX10_told_80 : decode cX10_told 80 = .ok (.iaload, 1) := of_q QX10_told_0 43 rfl
theorem dX10_told_81 : decode cX10_told 81 = .ok (.ireturn, 1) := of_q QX10_told_0 44 rfl
def qJ9_floorMod_7cf53_0 : List (Nat × Instr × Nat) := [(0, .iload_n 0, 1), (1, .iload_n 1, 1), (2, .irem, 1), (3, .istore_n 2, 1), (4, .iload_n 0, 1), (5, .iload_n 1, 1), (6, .ixor, 1), (7, .ifCond .ge 11, 3), (10, .iload_n 2, 1), (11, .ifCond .eq 7, 3), (14, .iload_n 2, 1), (15, .iload_n 1, 1), (16, .iadd, 1), (17, .ireturn, 1), (18, .iload_n 2, 1), (19, .ireturn, 1)]
theorem QJ9_floorMod_7cf53_0 : qJ9_floorMod_7cf53_0.all (fun q => decide (decode cJ9_floorMod_7cf53 q.1 = .ok q.2)) = true := by decide +kernel
theorem dJ9_floorMod_7cf53_0 : decode cJ9_floorMod_7cf53 0 = .ok (.iload_n 0, 1) := of_q QJ9_floorMod_7cf53_0 0 rfl
theorem dJ9_floorMod_7cf53_1 : decode cJ9_floorMod_7cf53 1 = .ok (.iload_n 1, 1) := of_q QJ9_floorMod_7cf53_0 1 rfl
theorem dJ9_floorMod_7cf53_2 : decode cJ9_floorMod_7cf53 2 = .ok (.irem, 1) := of_q QJ9_floorMod_7cf53_0 2 rfl
theorem dJ9_floorMod_7cf53_3 : decode cJ9_floorMod_7cf53 3 = .ok (.istore_n 2, 1) := of_q QJ9_floorMod_7cf53_0 3 rfl
theorem dJ9_floorMod_7cf53_4 : decode cJ9_floorMod_7cf53 4 = .ok (.iload_n 0, 1) := of_q QJ9_floorMod_7cf53_0 4 rfl
theorem dJ9_floorMod_7cf53_5 : decode cJ9_floorMod_7cf53 5 = .ok (.iload_n 1, 1) := of_q QJ9_floorMod_7cf53_0 5 rfl
theorem dJ9_floorMod_7cf53_6 : decode cJ9_floorMod_7cf53 6 = .ok (.ixor, 1) := of_q QJ9_floorMod_7cf53_0 6 rfl
theorem dJ9_floorMod_7cf53_7 : decode cJ9_floorMod_7cf53 7 = .ok (.ifCond .ge 11, 3) := of_q QJ9_floorMod_7cf53_0 7 rfl
theorem dJ9_floorMod_7cf53_10 : decode cJ9_floorMod_7cf53 10 = .ok (.iload_n 2, 1) := of_q QJ9_floorMod_7cf53_0 8 rfl
theorem dJ9_floorMod_7cf53_11 : decode cJ9_floorMod_7cf53 11 = .ok (.ifCond .eq 7, 3) := of_q QJ9_floorMod_7cf53_0 9 rfl
theorem dJ9_floorMod_7cf53_14 : decode cJ9_floorMod_7cf53 14 = .ok (.iload_n 2, 1) := of_q QJ9_floorMod_7cf53_0 10 rfl
theorem dJ9_floorMod_7cf53_15 : decode cJ9_floorMod_7cf53 15 = .ok (.iload_n 1, 1) := of_q QJ9_floorMod_7cf53_0 11 rfl
theorem dJ9_floorMod_7cf53_16 : decode cJ9_floorMod_7cf53 16 = .ok (.iadd, 1) := of_q QJ9_floorMod_7cf53_0 12 rfl
theorem dJ9_floorMod_7cf53_17 : decode cJ9_floorMod_7cf53 17 = .ok (.ireturn, 1) := of_q QJ9_floorMod_7cf53_0 13 rfl
theorem dJ9_floorMod_7cf53_18 : decode cJ9_floorMod_7cf53 18 = .ok (.iload_n 2, 1) := of_q QJ9_floorMod_7cf53_0 14 rfl
theorem dJ9_floorMod_7cf53_19 : decode cJ9_floorMod_7cf53 19 = .ok (.ireturn, 1) := of_q QJ9_floorMod_7cf53_0 15 rfl
def qJ9_abs_0f7a4_0 : List (Nat × Instr × Nat) := [(0, .iload_n 0, 1), (1, .ifCond .ge 8, 3), (4, .iload_n 0, 1), (5, .ineg, 1), (6, .goto 4, 3), (9, .iload_n 0, 1), (10, .ireturn, 1)]
theorem QJ9_abs_0f7a4_0 : qJ9_abs_0f7a4_0.all (fun q => decide (decode cJ9_abs_0f7a4 q.1 = .ok q.2)) = true := by decide +kernel
theorem dJ9_abs_0f7a4_0 : decode cJ9_abs_0f7a4 0 = .ok (.iload_n 0, 1) := of_q QJ9_abs_0f7a4_0 0 rfl
theorem dJ9_abs_0f7a4_1 : decode cJ9_abs_0f7a4 1 = .ok (.ifCond .ge 8, 3) := of_q QJ9_abs_0f7a4_0 1 rfl
theorem dJ9_abs_0f7a4_4 : decode cJ9_abs_0f7a4 4 = .ok (.iload_n 0, 1) := of_q QJ9_abs_0f7a4_0 2 rfl
theorem dJ9_abs_0f7a4_5 : decode cJ9_abs_0f7a4 5 = .ok (.ineg, 1) := of_q QJ9_abs_0f7a4_0 3 rfl
theorem dJ9_abs_0f7a4_6 : decode cJ9_abs_0f7a4 6 = .ok (.goto 4, 3) := of_q QJ9_abs_0f7a4_0 4 rfl
theorem dJ9_abs_0f7a4_9 : decode cJ9_abs_0f7a4 9 = .ok (.iload_n 0, 1) := of_q QJ9_abs_0f7a4_0 5 rfl
theorem dJ9_abs_0f7a4_10 : decode cJ9_abs_0f7a4 10 = .ok (.ireturn, 1) := of_q QJ9_abs_0f7a4_0 6 rfl
def qJ7_fill_53178_0 : List (Nat × Instr × Nat) := [(0, .iconst 0, 1), (1, .istore_n 2, 1), (2, .aload_n 0, 1), (3, .arraylength, 1), (4, .istore_n 3, 1), (5, .iload_n 2, 1), (6, .iload_n 3, 1), (7, .if_icmp .ge 13, 3), (10, .aload_n 0, 1), (11, .iload_n 2, 1), (12, .iload_n 1, 1), (13, .iastore, 1), (14, .iinc 2 1, 3), (17, .goto (-12), 3), (20, .return_, 1)]
theorem QJ7_fill_53178_0 : qJ7_fill_53178_0.all (fun q => decide (decode cJ7_fill_53178 q.1 = .ok q.2)) = true := by decide +kernel
theorem dJ7_fill_53178_0 : decode cJ7_fill_53178 0 = .ok (.iconst 0, 1) := of_q QJ7_fill_53178_0 0 rfl
theorem dJ7_fill_53178_1 : decode cJ7_fill_53178 1 = .ok (.istore_n 2, 1) := of_q QJ7_fill_53178_0 1 rfl
theorem dJ7_fill_53178_2 : decode cJ7_fill_53178 2 = .ok (.aload_n 0, 1) := of_q QJ7_fill_53178_0 2 rfl
theorem dJ7_fill_53178_3 : decode cJ7_fill_53178 3 = .ok (.arraylength, 1) := of_q QJ7_fill_53178_0 3 rfl
theorem dJ7_fill_53178_4 : decode cJ7_fill_53178 4 = .ok (.istore_n 3, 1) := of_q QJ7_fill_53178_0 4 rfl
theorem dJ7_fill_53178_5 : decode cJ7_fill_53178 5 = .ok (.iload_n 2, 1) := of_q QJ7_fill_53178_0 5 rfl
theorem dJ7_fill_53178_6 : decode cJ7_fill_53178 6 = .ok (.iload_n 3, 1) := of_q QJ7_fill_53178_0 6 rfl
theorem dJ7_fill_53178_7 : decode cJ7_fill_53178 7 = .ok (.if_icmp .ge 13, 3) := of_q QJ7_fill_53178_0 7 rfl
theorem dJ7_fill_53178_10 : decode cJ7_fill_53178 10 = .ok (.aload_n 0, 1) := of_q QJ7_fill_53178_0 8 rfl
theorem dJ7_fill_53178_11 : decode cJ7_fill_53178 11 = .ok (.iload_n 2, 1) := of_q QJ7_fill_53178_0 9 rfl
theorem dJ7_fill_53178_12 : decode cJ7_fill_53178 12 = .ok (.iload_n 1, 1) := of_q QJ7_fill_53178_0 10 rfl
theorem dJ7_fill_53178_13 : decode cJ7_fill_53178 13 = .ok (.iastore, 1) := of_q QJ7_fill_53178_0 11 rfl
theorem dJ7_fill_53178_14 : decode cJ7_fill_53178 14 = .ok (.iinc 2 1, 3) := of_q QJ7_fill_53178_0 12 rfl
theorem dJ7_fill_53178_17 : decode cJ7_fill_53178 17 = .ok (.goto (-12), 3) := of_q QJ7_fill_53178_0 13 rfl
theorem dJ7_fill_53178_20 : decode cJ7_fill_53178 20 = .ok (.return_, 1) := of_q QJ7_fill_53178_0 14 rfl
def qL_law_0 : List (Nat × Instr × Nat) := [(0, .new 7, 3), (3, .dup, 1), (4, .invokespecial 9, 3), (7, .astore_n 1, 1), (8, .new 10, 3), (11, .dup, 1), (12, .invokespecial 12, 3), (15, .astore_n 2, 1), (16, .iconst 0, 1), (17, .istore_n 3, 1), (18, .iload_n 3, 1), (19, .aload_n 0, 1), (20, .arraylength, 1), (21, .bipush 6, 2), (23, .isub, 1), (24, .if_icmp .gt 870, 3), (27, .aload_n 0, 1), (28, .iload_n 3, 1), (29, .iaload, 1), (30, .bipush 31, 2), (32, .iand, 1), (33, .tableswitch 855 0 19 #[95, 148, 171, 184, 217, 250, 313, 326, 359, 432, 455, 468, 551, 574, 587, 640, 743, 776, 819, 832], 95), (128, .aload_n 1, 1), (129, .aload_n 0, 1), (130, .iload_n 3, 1), (131, .iconst 1, 1), (132, .iadd, 1), (133, .iaload, 1), (134, .i2l, 1), (135, .bipush 32, 2), (137, .lshl, 1), (138, .aload_n 0, 1), (139, .iload_n 3, 1), (140, .iconst 2, 1), (141, .iadd, 1), (142, .iaload, 1), (143, .i2l, 1), (144, .ldc2_w 13, 3), (147, .land, 1), (148, .lor, 1), (149, .invokevirtual 15, 3), (152, .aload_n 2, 1), (153, .aload_n 0, 1), (154, .iload_n 3, 1), (155, .iconst 1, 1), (156, .iadd, 1), (157, .iaload, 1), (158, .i2l, 1), (159, .bipush 32, 2), (161, .lshl, 1), (162, .aload_n 0, 1), (163, .iload_n 3, 1), (164, .iconst 2, 1), (165, .iadd, 1), (166, .iaload, 1), (167, .i2l, 1), (168, .ldc2_w 13, 3), (171, .land, 1), (172, .lor, 1), (173, .invokevirtual 19, 3)]
theorem QL_law_0 : qL_law_0.all (fun q => decide (decode cL_law q.1 = .ok q.2)) = true := by decide +kernel
theorem dL_law_0 : decode cL_law 0 = .ok (.new 7, 3) := of_q QL_law_0 0 rfl
theorem dL_law_3 : decode cL_law 3 = .ok (.dup, 1) := of_q QL_law_0 1 rfl
theorem dL_law_4 : decode cL_law 4 = .ok (.invokespecial 9, 3) := of_q QL_law_0 2 rfl
theorem dL_law_7 : decode cL_law 7 = .ok (.astore_n 1, 1) := of_q QL_law_0 3 rfl
theorem dL_law_8 : decode cL_law 8 = .ok (.new 10, 3) := of_q QL_law_0 4 rfl
theorem dL_law_11 : decode cL_law 11 = .ok (.dup, 1) := of_q QL_law_0 5 rfl
theorem dL_law_12 : decode cL_law 12 = .ok (.invokespecial 12, 3) := of_q QL_law_0 6 rfl
theorem dL_law_15 : decode cL_law 15 = .ok (.astore_n 2, 1) := of_q QL_law_0 7 rfl
theorem dL_law_16 : decode cL_law 16 = .ok (.iconst 0, 1) := of_q QL_law_0 8 rfl
theorem dL_law_17 : decode cL_law 17 = .ok (.istore_n 3, 1) := of_q QL_law_0 9 rfl
theorem dL_law_18 : decode cL_law 18 = .ok (.iload_n 3, 1) := of_q QL_law_0 10 rfl
theorem dL_law_19 : decode cL_law 19 = .ok (.aload_n 0, 1) := of_q QL_law_0 11 rfl
theorem dL_law_20 : decode cL_law 20 = .ok (.arraylength, 1) := of_q QL_law_0 12 rfl
theorem dL_law_21 : decode cL_law 21 = .ok (.bipush 6, 2) := of_q QL_law_0 13 rfl
theorem dL_law_23 : decode cL_law 23 = .ok (.isub, 1) := of_q QL_law_0 14 rfl
theorem dL_law_24 : decode cL_law 24 = .ok (.if_icmp .gt 870, 3) := of_q QL_law_0 15 rfl
theorem dL_law_27 : decode cL_law 27 = .ok (.aload_n 0, 1) := of_q QL_law_0 16 rfl
theorem dL_law_28 : decode cL_law 28 = .ok (.iload_n 3, 1) := of_q QL_law_0 17 rfl
theorem dL_law_29 : decode cL_law 29 = .ok (.iaload, 1) := of_q QL_law_0 18 rfl
theorem dL_law_30 : decode cL_law 30 = .ok (.bipush 31, 2) := of_q QL_law_0 19 rfl
theorem dL_law_32 : decode cL_law 32 = .ok (.iand, 1) := of_q QL_law_0 20 rfl
theorem dL_law_33 : decode cL_law 33 = .ok (.tableswitch 855 0 19 #[95, 148, 171, 184, 217, 250, 313, 326, 359, 432, 455, 468, 551, 574, 587, 640, 743, 776, 819, 832], 95) := of_q QL_law_0 21 rfl
theorem dL_law_128 : decode cL_law 128 = .ok (.aload_n 1, 1) := of_q QL_law_0 22 rfl
theorem dL_law_129 : decode cL_law 129 = .ok (.aload_n 0, 1) := of_q QL_law_0 23 rfl
theorem dL_law_130 : decode cL_law 130 = .ok (.iload_n 3, 1) := of_q QL_law_0 24 rfl
theorem dL_law_131 : decode cL_law 131 = .ok (.iconst 1, 1) := of_q QL_law_0 25 rfl
theorem dL_law_132 : decode cL_law 132 = .ok (.iadd, 1) := of_q QL_law_0 26 rfl
theorem dL_law_133 : decode cL_law 133 = .ok (.iaload, 1) := of_q QL_law_0 27 rfl
theorem dL_law_134 : decode cL_law 134 = .ok (.i2l, 1) := of_q QL_law_0 28 rfl
theorem dL_law_135 : decode cL_law 135 = .ok (.bipush 32, 2) := of_q QL_law_0 29 rfl
theorem dL_law_137 : decode cL_law 137 = .ok (.lshl, 1) := of_q QL_law_0 30 rfl
theorem dL_law_138 : decode cL_law 138 = .ok (.aload_n 0, 1) := of_q QL_law_0 31 rfl
theorem dL_law_139 : decode cL_law 139 = .ok (.iload_n 3, 1) := of_q QL_law_0 32 rfl
theorem dL_law_140 : decode cL_law 140 = .ok (.iconst 2, 1) := of_q QL_law_0 33 rfl
theorem dL_law_141 : decode cL_law 141 = .ok (.iadd, 1) := of_q QL_law_0 34 rfl
theorem dL_law_142 : decode cL_law 142 = .ok (.iaload, 1) := of_q QL_law_0 35 rfl
theorem dL_law_143 : decode cL_law 143 = .ok (.i2l, 1) := of_q QL_law_0 36 rfl
theorem dL_law_144 : decode cL_law 144 = .ok (.ldc2_w 13, 3) := of_q QL_law_0 37 rfl
theorem dL_law_147 : decode cL_law 147 = .ok (.land, 1) := of_q QL_law_0 38 rfl
theorem dL_law_148 : decode cL_law 148 = .ok (.lor, 1) := of_q QL_law_0 39 rfl
theorem dL_law_149 : decode cL_law 149 = .ok (.invokevirtual 15, 3) := of_q QL_law_0 40 rfl
theorem dL_law_152 : decode cL_law 152 = .ok (.aload_n 2, 1) := of_q QL_law_0 41 rfl
theorem dL_law_153 : decode cL_law 153 = .ok (.aload_n 0, 1) := of_q QL_law_0 42 rfl
theorem dL_law_154 : decode cL_law 154 = .ok (.iload_n 3, 1) := of_q QL_law_0 43 rfl
theorem dL_law_155 : decode cL_law 155 = .ok (.iconst 1, 1) := of_q QL_law_0 44 rfl
theorem dL_law_156 : decode cL_law 156 = .ok (.iadd, 1) := of_q QL_law_0 45 rfl
theorem dL_law_157 : decode cL_law 157 = .ok (.iaload, 1) := of_q QL_law_0 46 rfl
theorem dL_law_158 : decode cL_law 158 = .ok (.i2l, 1) := of_q QL_law_0 47 rfl
theorem dL_law_159 : decode cL_law 159 = .ok (.bipush 32, 2) := of_q QL_law_0 48 rfl
theorem dL_law_161 : decode cL_law 161 = .ok (.lshl, 1) := of_q QL_law_0 49 rfl
theorem dL_law_162 : decode cL_law 162 = .ok (.aload_n 0, 1) := of_q QL_law_0 50 rfl
theorem dL_law_163 : decode cL_law 163 = .ok (.iload_n 3, 1) := of_q QL_law_0 51 rfl
theorem dL_law_164 : decode cL_law 164 = .ok (.iconst 2, 1) := of_q QL_law_0 52 rfl
theorem dL_law_165 : decode cL_law 165 = .ok (.iadd, 1) := of_q QL_law_0 53 rfl
theorem dL_law_166 : decode cL_law 166 = .ok (.iaload, 1) := of_q QL_law_0 54 rfl
theorem dL_law_167 : decode cL_law 167 = .ok (.i2l, 1) := of_q QL_law_0 55 rfl
theorem dL_law_168 : decode cL_law 168 = .ok (.ldc2_w 13, 3) := of_q QL_law_0 56 rfl
theorem dL_law_171 : decode cL_law 171 = .ok (.land, 1) := of_q QL_law_0 57 rfl
theorem dL_law_172 : decode cL_law 172 = .ok (.lor, 1) := of_q QL_law_0 58 rfl
theorem dL_law_173 : decode cL_law 173 = .ok (.invokevirtual 19, 3) := of_q QL_law_0 59 rfl
def qL_law_1 : List (Nat × Instr × Nat) := [(176, .if_icmp .eq 712, 3), (179, .iconst 0, 1), (180, .ireturn, 1), (181, .aload_n 1, 1), (182, .aload_n 0, 1), (183, .iload_n 3, 1), (184, .iconst 1, 1), (185, .iadd, 1), (186, .iaload, 1), (187, .invokevirtual 20, 3), (190, .aload_n 2, 1), (191, .aload_n 0, 1), (192, .iload_n 3, 1), (193, .iconst 1, 1), (194, .iadd, 1), (195, .iaload, 1), (196, .invokevirtual 24, 3), (199, .if_icmp .eq 689, 3), (202, .iconst 0, 1), (203, .ireturn, 1), (204, .aload_n 1, 1), (205, .invokevirtual 25, 3), (208, .aload_n 2, 1), (209, .invokevirtual 29, 3), (212, .if_icmp .eq 676, 3), (215, .iconst 0, 1), (216, .ireturn, 1), (217, .aload_n 1, 1), (218, .aload_n 0, 1), (219, .iload_n 3, 1), (220, .iconst 1, 1), (221, .iadd, 1), (222, .iaload, 1), (223, .aload_n 0, 1), (224, .iload_n 3, 1), (225, .iconst 2, 1), (226, .iadd, 1), (227, .iaload, 1), (228, .invokevirtual 30, 3), (231, .aload_n 2, 1), (232, .aload_n 0, 1), (233, .iload_n 3, 1), (234, .iconst 1, 1), (235, .iadd, 1), (236, .iaload, 1), (237, .aload_n 0, 1), (238, .iload_n 3, 1), (239, .iconst 2, 1), (240, .iadd, 1), (241, .iaload, 1), (242, .invokevirtual 34, 3), (245, .if_icmp .eq 643, 3), (248, .iconst 0, 1), (249, .ireturn, 1), (250, .aload_n 1, 1), (251, .aload_n 0, 1), (252, .iload_n 3, 1), (253, .iconst 1, 1), (254, .iadd, 1), (255, .iaload, 1)]
theorem QL_law_1 : qL_law_1.all (fun q => decide (decode cL_law q.1 = .ok q.2)) = true := by decide +kernel
theorem dL_law_176 : decode cL_law 176 = .ok (.if_icmp .eq 712, 3) := of_q QL_law_1 0 rfl
theorem dL_law_179 : decode cL_law 179 = .ok (.iconst 0, 1) := of_q QL_law_1 1 rfl
theorem dL_law_180 : decode cL_law 180 = .ok (.ireturn, 1) := of_q QL_law_1 2 rfl
theorem dL_law_181 : decode cL_law 181 = .ok (.aload_n 1, 1) := of_q QL_law_1 3 rfl
theorem dL_law_182 : decode cL_law 182 = .ok (.aload_n 0, 1) := of_q QL_law_1 4 rfl
theorem dL_law_183 : decode cL_law 183 = .ok (.iload_n 3, 1) := of_q QL_law_1 5 rfl
theorem dL_law_184 : decode cL_law 184 = .ok (.iconst 1, 1) := of_q QL_law_1 6 rfl
theorem dL_law_185 : decode cL_law 185 = .ok (.iadd, 1) := of_q QL_law_1 7 rfl
theorem dL_law_186 : decode cL_law 186 = .ok (.iaload, 1) := of_q QL_law_1 8 rfl
theorem dL_law_187 : decode cL_law 187 = .ok (.invokevirtual 20, 3) := of_q QL_law_1 9 rfl
theorem dL_law_190 : decode cL_law 190 = .ok (.aload_n 2, 1) := of_q QL_law_1 10 rfl
theorem dL_law_191 : decode cL_law 191 = .ok (.aload_n 0, 1) := of_q QL_law_1 11 rfl
theorem dL_law_192 : decode cL_law 192 = .ok (.iload_n 3, 1) := of_q QL_law_1 12 rfl
theorem dL_law_193 : decode cL_law 193 = .ok (.iconst 1, 1) := of_q QL_law_1 13 rfl
theorem dL_law_194 : decode cL_law 194 = .ok (.iadd, 1) := of_q QL_law_1 14 rfl
theorem dL_law_195 : decode cL_law 195 = .ok (.iaload, 1) := of_q QL_law_1 15 rfl
theorem dL_law_196 : decode cL_law 196 = .ok (.invokevirtual 24, 3) := of_q QL_law_1 16 rfl
theorem dL_law_199 : decode cL_law 199 = .ok (.if_icmp .eq 689, 3) := of_q QL_law_1 17 rfl
theorem dL_law_202 : decode cL_law 202 = .ok (.iconst 0, 1) := of_q QL_law_1 18 rfl
theorem dL_law_203 : decode cL_law 203 = .ok (.ireturn, 1) := of_q QL_law_1 19 rfl
theorem dL_law_204 : decode cL_law 204 = .ok (.aload_n 1, 1) := of_q QL_law_1 20 rfl
theorem dL_law_205 : decode cL_law 205 = .ok (.invokevirtual 25, 3) := of_q QL_law_1 21 rfl
theorem dL_law_208 : decode cL_law 208 = .ok (.aload_n 2, 1) := of_q QL_law_1 22 rfl
theorem dL_law_209 : decode cL_law 209 = .ok (.invokevirtual 29, 3) := of_q QL_law_1 23 rfl
theorem dL_law_212 : decode cL_law 212 = .ok (.if_icmp .eq 676, 3) := of_q QL_law_1 24 rfl
theorem dL_law_215 : decode cL_law 215 = .ok (.iconst 0, 1) := of_q QL_law_1 25 rfl
theorem dL_law_216 : decode cL_law 216 = .ok (.ireturn, 1) := of_q QL_law_1 26 rfl
theorem dL_law_217 : decode cL_law 217 = .ok (.aload_n 1, 1) := of_q QL_law_1 27 rfl
theorem dL_law_218 : decode cL_law 218 = .ok (.aload_n 0, 1) := of_q QL_law_1 28 rfl
theorem dL_law_219 : decode cL_law 219 = .ok (.iload_n 3, 1) := of_q QL_law_1 29 rfl
theorem dL_law_220 : decode cL_law 220 = .ok (.iconst 1, 1) := of_q QL_law_1 30 rfl
theorem dL_law_221 : decode cL_law 221 = .ok (.iadd, 1) := of_q QL_law_1 31 rfl
theorem dL_law_222 : decode cL_law 222 = .ok (.iaload, 1) := of_q QL_law_1 32 rfl
theorem dL_law_223 : decode cL_law 223 = .ok (.aload_n 0, 1) := of_q QL_law_1 33 rfl
theorem dL_law_224 : decode cL_law 224 = .ok (.iload_n 3, 1) := of_q QL_law_1 34 rfl
theorem dL_law_225 : decode cL_law 225 = .ok (.iconst 2, 1) := of_q QL_law_1 35 rfl
theorem dL_law_226 : decode cL_law 226 = .ok (.iadd, 1) := of_q QL_law_1 36 rfl
theorem dL_law_227 : decode cL_law 227 = .ok (.iaload, 1) := of_q QL_law_1 37 rfl
theorem dL_law_228 : decode cL_law 228 = .ok (.invokevirtual 30, 3) := of_q QL_law_1 38 rfl
theorem dL_law_231 : decode cL_law 231 = .ok (.aload_n 2, 1) := of_q QL_law_1 39 rfl
theorem dL_law_232 : decode cL_law 232 = .ok (.aload_n 0, 1) := of_q QL_law_1 40 rfl
theorem dL_law_233 : decode cL_law 233 = .ok (.iload_n 3, 1) := of_q QL_law_1 41 rfl
theorem dL_law_234 : decode cL_law 234 = .ok (.iconst 1, 1) := of_q QL_law_1 42 rfl
theorem dL_law_235 : decode cL_law 235 = .ok (.iadd, 1) := of_q QL_law_1 43 rfl
theorem dL_law_236 : decode cL_law 236 = .ok (.iaload, 1) := of_q QL_law_1 44 rfl
theorem dL_law_237 : decode cL_law 237 = .ok (.aload_n 0, 1) := of_q QL_law_1 45 rfl
theorem dL_law_238 : decode cL_law 238 = .ok (.iload_n 3, 1) := of_q QL_law_1 46 rfl
theorem dL_law_239 : decode cL_law 239 = .ok (.iconst 2, 1) := of_q QL_law_1 47 rfl
theorem dL_law_240 : decode cL_law 240 = .ok (.iadd, 1) := of_q QL_law_1 48 rfl
theorem dL_law_241 : decode cL_law 241 = .ok (.iaload, 1) := of_q QL_law_1 49 rfl
theorem dL_law_242 : decode cL_law 242 = .ok (.invokevirtual 34, 3) := of_q QL_law_1 50 rfl
theorem dL_law_245 : decode cL_law 245 = .ok (.if_icmp .eq 643, 3) := of_q QL_law_1 51 rfl
theorem dL_law_248 : decode cL_law 248 = .ok (.iconst 0, 1) := of_q QL_law_1 52 rfl
theorem dL_law_249 : decode cL_law 249 = .ok (.ireturn, 1) := of_q QL_law_1 53 rfl
theorem dL_law_250 : decode cL_law 250 = .ok (.aload_n 1, 1) := of_q QL_law_1 54 rfl
theorem dL_law_251 : decode cL_law 251 = .ok (.aload_n 0, 1) := of_q QL_law_1 55 rfl
theorem dL_law_252 : decode cL_law 252 = .ok (.iload_n 3, 1) := of_q QL_law_1 56 rfl
theorem dL_law_253 : decode cL_law 253 = .ok (.iconst 1, 1) := of_q QL_law_1 57 rfl
theorem dL_law_254 : decode cL_law 254 = .ok (.iadd, 1) := of_q QL_law_1 58 rfl
theorem dL_law_255 : decode cL_law 255 = .ok (.iaload, 1) := of_q QL_law_1 59 rfl
def qL_law_2 : List (Nat × Instr × Nat) := [(256, .aload_n 0, 1), (257, .iload_n 3, 1), (258, .iconst 2, 1), (259, .iadd, 1), (260, .iaload, 1), (261, .invokevirtual 35, 3), (264, .aload_n 2, 1), (265, .aload_n 0, 1), (266, .iload_n 3, 1), (267, .iconst 1, 1), (268, .iadd, 1), (269, .iaload, 1), (270, .aload_n 0, 1), (271, .iload_n 3, 1), (272, .iconst 2, 1), (273, .iadd, 1), (274, .iaload, 1), (275, .invokevirtual 38, 3), (278, .if_icmp .eq 610, 3), (281, .iconst 0, 1), (282, .ireturn, 1), (283, .aload_n 1, 1), (284, .aload_n 0, 1), (285, .iload_n 3, 1), (286, .iconst 1, 1), (287, .iadd, 1), (288, .iaload, 1), (289, .aload_n 0, 1), (290, .iload_n 3, 1), (291, .iconst 2, 1), (292, .iadd, 1), (293, .iaload, 1), (294, .i2l, 1), (295, .bipush 32, 2), (297, .lshl, 1), (298, .aload_n 0, 1), (299, .iload_n 3, 1), (300, .iconst 3, 1), (301, .iadd, 1), (302, .iaload, 1), (303, .i2l, 1), (304, .ldc2_w 13, 3), (307, .land, 1), (308, .lor, 1), (309, .invokevirtual 39, 3), (312, .aload_n 2, 1), (313, .aload_n 0, 1), (314, .iload_n 3, 1), (315, .iconst 1, 1), (316, .iadd, 1), (317, .iaload, 1), (318, .aload_n 0, 1), (319, .iload_n 3, 1), (320, .iconst 2, 1), (321, .iadd, 1), (322, .iaload, 1), (323, .i2l, 1), (324, .bipush 32, 2), (326, .lshl, 1), (327, .aload_n 0, 1)]
theorem QL_law_2 : qL_law_2.all (fun q => decide (decode cL_law q.1 = .ok q.2)) = true := by decide +kernel
theorem dL_law_256 : decode cL_law 256 = .ok (.aload_n 0, 1) := of_q QL_law_2 0 rfl
theorem dL_law_257 : decode cL_law 257 = .ok (.iload_n 3, 1) := of_q QL_law_2 1 rfl
theorem dL_law_258 : decode cL_law 258 = .ok (.iconst 2, 1) := of_q QL_law_2 2 rfl
theorem dL_law_259 : decode cL_law 259 = .ok (.iadd, 1) := of_q QL_law_2 3 rfl
theorem dL_law_260 : decode cL_law 260 = .ok (.iaload, 1) := of_q QL_law_2 4 rfl
theorem dL_law_261 : decode cL_law 261 = .ok (.invokevirtual 35, 3) := of_q QL_law_2 5 rfl
theorem dL_law_264 : decode cL_law 264 = .ok (.aload_n 2, 1) := of_q QL_law_2 6 rfl
theorem dL_law_265 : decode cL_law 265 = .ok (.aload_n 0, 1) := of_q QL_law_2 7 rfl
theorem dL_law_266 : decode cL_law 266 = .ok (.iload_n 3, 1) := of_q QL_law_2 8 rfl
theorem dL_law_267 : decode cL_law 267 = .ok (.iconst 1, 1) := of_q QL_law_2 9 rfl
theorem dL_law_268 : decode cL_law 268 = .ok (.iadd, 1) := of_q QL_law_2 10 rfl
theorem dL_law_269 : decode cL_law 269 = .ok (.iaload, 1) := of_q QL_law_2 11 rfl
theorem dL_law_270 : decode cL_law 270 = .ok (.aload_n 0, 1) := of_q QL_law_2 12 rfl
theorem dL_law_271 : decode cL_law 271 = .ok (.iload_n 3, 1) := of_q QL_law_2 13 rfl
theorem dL_law_272 : decode cL_law 272 = .ok (.iconst 2, 1) := of_q QL_law_2 14 rfl
theorem dL_law_273 : decode cL_law 273 = .ok (.iadd, 1) := of_q QL_law_2 15 rfl
theorem dL_law_274 : decode cL_law 274 = .ok (.iaload, 1) := of_q QL_law_2 16 rfl
theorem dL_law_275 : decode cL_law 275 = .ok (.invokevirtual 38, 3) := of_q QL_law_2 17 rfl
theorem dL_law_278 : decode cL_law 278 = .ok (.if_icmp .eq 610, 3) := of_q QL_law_2 18 rfl
theorem dL_law_281 : decode cL_law 281 = .ok (.iconst 0, 1) := of_q QL_law_2 19 rfl
theorem dL_law_282 : decode cL_law 282 = .ok (.ireturn, 1) := of_q QL_law_2 20 rfl
theorem dL_law_283 : decode cL_law 283 = .ok (.aload_n 1, 1) := of_q QL_law_2 21 rfl
theorem dL_law_284 : decode cL_law 284 = .ok (.aload_n 0, 1) := of_q QL_law_2 22 rfl
theorem dL_law_285 : decode cL_law 285 = .ok (.iload_n 3, 1) := of_q QL_law_2 23 rfl
theorem dL_law_286 : decode cL_law 286 = .ok (.iconst 1, 1) := of_q QL_law_2 24 rfl
theorem dL_law_287 : decode cL_law 287 = .ok (.iadd, 1) := of_q QL_law_2 25 rfl
theorem dL_law_288 : decode cL_law 288 = .ok (.iaload, 1) := of_q QL_law_2 26 rfl
theorem dL_law_289 : decode cL_law 289 = .ok (.aload_n 0, 1) := of_q QL_law_2 27 rfl
theorem dL_law_290 : decode cL_law 290 = .ok (.iload_n 3, 1) := of_q QL_law_2 28 rfl
theorem dL_law_291 : decode cL_law 291 = .ok (.iconst 2, 1) := of_q QL_law_2 29 rfl
theorem dL_law_292 : decode cL_law 292 = .ok (.iadd, 1) := of_q QL_law_2 30 rfl
theorem dL_law_293 : decode cL_law 293 = .ok (.iaload, 1) := of_q QL_law_2 31 rfl
theorem dL_law_294 : decode cL_law 294 = .ok (.i2l, 1) := of_q QL_law_2 32 rfl
theorem dL_law_295 : decode cL_law 295 = .ok (.bipush 32, 2) := of_q QL_law_2 33 rfl
theorem dL_law_297 : decode cL_law 297 = .ok (.lshl, 1) := of_q QL_law_2 34 rfl
theorem dL_law_298 : decode cL_law 298 = .ok (.aload_n 0, 1) := of_q QL_law_2 35 rfl
theorem dL_law_299 : decode cL_law 299 = .ok (.iload_n 3, 1) := of_q QL_law_2 36 rfl
theorem dL_law_300 : decode cL_law 300 = .ok (.iconst 3, 1) := of_q QL_law_2 37 rfl
theorem dL_law_301 : decode cL_law 301 = .ok (.iadd, 1) := of_q QL_law_2 38 rfl
theorem dL_law_302 : decode cL_law 302 = .ok (.iaload, 1) := of_q QL_law_2 39 rfl
theorem dL_law_303 : decode cL_law 303 = .ok (.i2l, 1) := of_q QL_law_2 40 rfl
theorem dL_law_304 : decode cL_law 304 = .ok (.ldc2_w 13, 3) := of_q QL_law_2 41 rfl
theorem dL_law_307 : decode cL_law 307 = .ok (.land, 1) := of_q QL_law_2 42 rfl
theorem dL_law_308 : decode cL_law 308 = .ok (.lor, 1) := of_q QL_law_2 43 rfl
theorem dL_law_309 : decode cL_law 309 = .ok (.invokevirtual 39, 3) := of_q QL_law_2 44 rfl
theorem dL_law_312 : decode cL_law 312 = .ok (.aload_n 2, 1) := of_q QL_law_2 45 rfl
theorem dL_law_313 : decode cL_law 313 = .ok (.aload_n 0, 1) := of_q QL_law_2 46 rfl
theorem dL_law_314 : decode cL_law 314 = .ok (.iload_n 3, 1) := of_q QL_law_2 47 rfl
theorem dL_law_315 : decode cL_law 315 = .ok (.iconst 1, 1) := of_q QL_law_2 48 rfl
theorem dL_law_316 : decode cL_law 316 = .ok (.iadd, 1) := of_q QL_law_2 49 rfl
theorem dL_law_317 : decode cL_law 317 = .ok (.iaload, 1) := of_q QL_law_2 50 rfl
theorem dL_law_318 : decode cL_law 318 = .ok (.aload_n 0, 1) := of_q QL_law_2 51 rfl
theorem dL_law_319 : decode cL_law 319 = .ok (.iload_n 3, 1) := of_q QL_law_2 52 rfl
theorem dL_law_320 : decode cL_law 320 = .ok (.iconst 2, 1) := of_q QL_law_2 53 rfl
theorem dL_law_321 : decode cL_law 321 = .ok (.iadd, 1) := of_q QL_law_2 54 rfl
theorem dL_law_322 : decode cL_law 322 = .ok (.iaload, 1) := of_q QL_law_2 55 rfl
theorem dL_law_323 : decode cL_law 323 = .ok (.i2l, 1) := of_q QL_law_2 56 rfl
theorem dL_law_324 : decode cL_law 324 = .ok (.bipush 32, 2) := of_q QL_law_2 57 rfl
theorem dL_law_326 : decode cL_law 326 = .ok (.lshl, 1) := of_q QL_law_2 58 rfl
theorem dL_law_327 : decode cL_law 327 = .ok (.aload_n 0, 1) := of_q QL_law_2 59 rfl
def qL_law_3 : List (Nat × Instr × Nat) := [(328, .iload_n 3, 1), (329, .iconst 3, 1), (330, .iadd, 1), (331, .iaload, 1), (332, .i2l, 1), (333, .ldc2_w 13, 3), (336, .land, 1), (337, .lor, 1), (338, .invokevirtual 43, 3), (341, .if_icmp .eq 547, 3), (344, .iconst 0, 1), (345, .ireturn, 1), (346, .aload_n 1, 1), (347, .invokevirtual 44, 3), (350, .aload_n 2, 1), (351, .invokevirtual 47, 3), (354, .if_icmp .eq 534, 3), (357, .iconst 0, 1), (358, .ireturn, 1), (359, .aload_n 1, 1), (360, .aload_n 0, 1), (361, .iload_n 3, 1), (362, .iconst 1, 1), (363, .iadd, 1), (364, .iaload, 1), (365, .aload_n 0, 1), (366, .iload_n 3, 1), (367, .iconst 2, 1), (368, .iadd, 1), (369, .iaload, 1), (370, .invokevirtual 48, 3), (373, .aload_n 2, 1), (374, .aload_n 0, 1), (375, .iload_n 3, 1), (376, .iconst 1, 1), (377, .iadd, 1), (378, .iaload, 1), (379, .aload_n 0, 1), (380, .iload_n 3, 1), (381, .iconst 2, 1), (382, .iadd, 1), (383, .iaload, 1), (384, .invokevirtual 51, 3), (387, .if_icmp .eq 501, 3), (390, .iconst 0, 1), (391, .ireturn, 1), (392, .aload_n 1, 1), (393, .aload_n 0, 1), (394, .iload_n 3, 1), (395, .iconst 1, 1), (396, .iadd, 1), (397, .iaload, 1), (398, .i2l, 1), (399, .bipush 32, 2), (401, .lshl, 1), (402, .aload_n 0, 1), (403, .iload_n 3, 1), (404, .iconst 2, 1), (405, .iadd, 1), (406, .iaload, 1)]
theorem QL_law_3 : qL_law_3.all (fun q => decide (decode cL_law q.1 = .ok q.2)) = true := by decide +kernel
theorem dL_law_328 : decode cL_law 328 = .ok (.iload_n 3, 1) := of_q QL_law_3 0 rfl
theorem dL_law_329 : decode cL_law 329 = .ok (.iconst 3, 1) := of_q QL_law_3 1 rfl
theorem dL_law_330 : decode cL_law 330 = .ok (.iadd, 1) := of_q QL_law_3 2 rfl
theorem dL_law_331 : decode cL_law 331 = .ok (.iaload, 1) := of_q QL_law_3 3 rfl
theorem dL_law_332 : decode cL_law 332 = .ok (.i2l, 1) := of_q QL_law_3 4 rfl
theorem dL_law_333 : decode cL_law 333 = .ok (.ldc2_w 13, 3) := of_q QL_law_3 5 rfl
theorem dL_law_336 : decode cL_law 336 = .ok (.land, 1) := of_q QL_law_3 6 rfl
theorem dL_law_337 : decode cL_law 337 = .ok (.lor, 1) := of_q QL_law_3 7 rfl
theorem dL_law_338 : decode cL_law 338 = .ok (.invokevirtual 43, 3) := of_q QL_law_3 8 rfl
theorem dL_law_341 : decode cL_law 341 = .ok (.if_icmp .eq 547, 3) := of_q QL_law_3 9 rfl
theorem dL_law_344 : decode cL_law 344 = .ok (.iconst 0, 1) := of_q QL_law_3 10 rfl
theorem dL_law_345 : decode cL_law 345 = .ok (.ireturn, 1) := of_q QL_law_3 11 rfl
theorem dL_law_346 : decode cL_law 346 = .ok (.aload_n 1, 1) := of_q QL_law_3 12 rfl
theorem dL_law_347 : decode cL_law 347 = .ok (.invokevirtual 44, 3) := of_q QL_law_3 13 rfl
theorem dL_law_350 : decode cL_law 350 = .ok (.aload_n 2, 1) := of_q QL_law_3 14 rfl
theorem dL_law_351 : decode cL_law 351 = .ok (.invokevirtual 47, 3) := of_q QL_law_3 15 rfl
theorem dL_law_354 : decode cL_law 354 = .ok (.if_icmp .eq 534, 3) := of_q QL_law_3 16 rfl
theorem dL_law_357 : decode cL_law 357 = .ok (.iconst 0, 1) := of_q QL_law_3 17 rfl
theorem dL_law_358 : decode cL_law 358 = .ok (.ireturn, 1) := of_q QL_law_3 18 rfl
theorem dL_law_359 : decode cL_law 359 = .ok (.aload_n 1, 1) := of_q QL_law_3 19 rfl
theorem dL_law_360 : decode cL_law 360 = .ok (.aload_n 0, 1) := of_q QL_law_3 20 rfl
theorem dL_law_361 : decode cL_law 361 = .ok (.iload_n 3, 1) := of_q QL_law_3 21 rfl
theorem dL_law_362 : decode cL_law 362 = .ok (.iconst 1, 1) := of_q QL_law_3 22 rfl
theorem dL_law_363 : decode cL_law 363 = .ok (.iadd, 1) := of_q QL_law_3 23 rfl
theorem dL_law_364 : decode cL_law 364 = .ok (.iaload, 1) := of_q QL_law_3 24 rfl
theorem dL_law_365 : decode cL_law 365 = .ok (.aload_n 0, 1) := of_q QL_law_3 25 rfl
theorem dL_law_366 : decode cL_law 366 = .ok (.iload_n 3, 1) := of_q QL_law_3 26 rfl
theorem dL_law_367 : decode cL_law 367 = .ok (.iconst 2, 1) := of_q QL_law_3 27 rfl
theorem dL_law_368 : decode cL_law 368 = .ok (.iadd, 1) := of_q QL_law_3 28 rfl
theorem dL_law_369 : decode cL_law 369 = .ok (.iaload, 1) := of_q QL_law_3 29 rfl
theorem dL_law_370 : decode cL_law 370 = .ok (.invokevirtual 48, 3) := of_q QL_law_3 30 rfl
theorem dL_law_373 : decode cL_law 373 = .ok (.aload_n 2, 1) := of_q QL_law_3 31 rfl
theorem dL_law_374 : decode cL_law 374 = .ok (.aload_n 0, 1) := of_q QL_law_3 32 rfl
theorem dL_law_375 : decode cL_law 375 = .ok (.iload_n 3, 1) := of_q QL_law_3 33 rfl
theorem dL_law_376 : decode cL_law 376 = .ok (.iconst 1, 1) := of_q QL_law_3 34 rfl
theorem dL_law_377 : decode cL_law 377 = .ok (.iadd, 1) := of_q QL_law_3 35 rfl
theorem dL_law_378 : decode cL_law 378 = .ok (.iaload, 1) := of_q QL_law_3 36 rfl
theorem dL_law_379 : decode cL_law 379 = .ok (.aload_n 0, 1) := of_q QL_law_3 37 rfl
theorem dL_law_380 : decode cL_law 380 = .ok (.iload_n 3, 1) := of_q QL_law_3 38 rfl
theorem dL_law_381 : decode cL_law 381 = .ok (.iconst 2, 1) := of_q QL_law_3 39 rfl
theorem dL_law_382 : decode cL_law 382 = .ok (.iadd, 1) := of_q QL_law_3 40 rfl
theorem dL_law_383 : decode cL_law 383 = .ok (.iaload, 1) := of_q QL_law_3 41 rfl
theorem dL_law_384 : decode cL_law 384 = .ok (.invokevirtual 51, 3) := of_q QL_law_3 42 rfl
theorem dL_law_387 : decode cL_law 387 = .ok (.if_icmp .eq 501, 3) := of_q QL_law_3 43 rfl
theorem dL_law_390 : decode cL_law 390 = .ok (.iconst 0, 1) := of_q QL_law_3 44 rfl
theorem dL_law_391 : decode cL_law 391 = .ok (.ireturn, 1) := of_q QL_law_3 45 rfl
theorem dL_law_392 : decode cL_law 392 = .ok (.aload_n 1, 1) := of_q QL_law_3 46 rfl
theorem dL_law_393 : decode cL_law 393 = .ok (.aload_n 0, 1) := of_q QL_law_3 47 rfl
theorem dL_law_394 : decode cL_law 394 = .ok (.iload_n 3, 1) := of_q QL_law_3 48 rfl
theorem dL_law_395 : decode cL_law 395 = .ok (.iconst 1, 1) := of_q QL_law_3 49 rfl
theorem dL_law_396 : decode cL_law 396 = .ok (.iadd, 1) := of_q QL_law_3 50 rfl
theorem dL_law_397 : decode cL_law 397 = .ok (.iaload, 1) := of_q QL_law_3 51 rfl
theorem dL_law_398 : decode cL_law 398 = .ok (.i2l, 1) := of_q QL_law_3 52 rfl
theorem dL_law_399 : decode cL_law 399 = .ok (.bipush 32, 2) := of_q QL_law_3 53 rfl
theorem dL_law_401 : decode cL_law 401 = .ok (.lshl, 1) := of_q QL_law_3 54 rfl
theorem dL_law_402 : decode cL_law 402 = .ok (.aload_n 0, 1) := of_q QL_law_3 55 rfl
theorem dL_law_403 : decode cL_law 403 = .ok (.iload_n 3, 1) := of_q QL_law_3 56 rfl
theorem dL_law_404 : decode cL_law 404 = .ok (.iconst 2, 1) := of_q QL_law_3 57 rfl
theorem dL_law_405 : decode cL_law 405 = .ok (.iadd, 1) := of_q QL_law_3 58 rfl
theorem dL_law_406 : decode cL_law 406 = .ok (.iaload, 1) := of_q QL_law_3 59 rfl
def qL_law_4 : List (Nat × Instr × Nat) := [(407, .i2l, 1), (408, .ldc2_w 13, 3), (411, .land, 1), (412, .lor, 1), (413, .aload_n 0, 1), (414, .iload_n 3, 1), (415, .iconst 3, 1), (416, .iadd, 1), (417, .iaload, 1), (418, .aload_n 0, 1), (419, .iload_n 3, 1), (420, .iconst 4, 1), (421, .iadd, 1), (422, .iaload, 1), (423, .invokevirtual 52, 3), (426, .aload_n 2, 1), (427, .aload_n 0, 1), (428, .iload_n 3, 1), (429, .iconst 1, 1), (430, .iadd, 1), (431, .iaload, 1), (432, .i2l, 1), (433, .bipush 32, 2), (435, .lshl, 1), (436, .aload_n 0, 1), (437, .iload_n 3, 1), (438, .iconst 2, 1), (439, .iadd, 1), (440, .iaload, 1), (441, .i2l, 1), (442, .ldc2_w 13, 3), (445, .land, 1), (446, .lor, 1), (447, .aload_n 0, 1), (448, .iload_n 3, 1), (449, .iconst 3, 1), (450, .iadd, 1), (451, .iaload, 1), (452, .aload_n 0, 1), (453, .iload_n 3, 1), (454, .iconst 4, 1), (455, .iadd, 1), (456, .iaload, 1), (457, .invokevirtual 56, 3), (460, .if_icmp .eq 428, 3), (463, .iconst 0, 1), (464, .ireturn, 1), (465, .aload_n 1, 1), (466, .aload_n 0, 1), (467, .iload_n 3, 1), (468, .iconst 1, 1), (469, .iadd, 1), (470, .iaload, 1), (471, .invokevirtual 57, 3), (474, .aload_n 2, 1), (475, .aload_n 0, 1), (476, .iload_n 3, 1), (477, .iconst 1, 1), (478, .iadd, 1), (479, .iaload, 1)]
theorem QL_law_4 : qL_law_4.all (fun q => decide (decode cL_law q.1 = .ok q.2)) = true := by decide +kernel
theorem dL_law_407 : decode cL_law 407 = .ok (.i2l, 1) := of_q QL_law_4 0 rfl
theorem dL_law_408 : decode cL_law 408 = .ok (.ldc2_w 13, 3) := of_q QL_law_4 1 rfl
theorem dL_law_411 : decode cL_law 411 = .ok (.land, 1) := of_q QL_law_4 2 rfl
theorem dL_law_412 : decode cL_law 412 = .ok (.lor, 1) := of_q QL_law_4 3 rfl
theorem dL_law_413 : decode cL_law 413 = .ok (.aload_n 0, 1) := of_q QL_law_4 4 rfl
theorem dL_law_414 : decode cL_law 414 = .ok (.iload_n 3, 1) := of_q QL_law_4 5 rfl
theorem dL_law_415 : decode cL_law 415 = .ok (.iconst 3, 1) := of_q QL_law_4 6 rfl
theorem dL_law_416 : decode cL_law 416 = .ok (.iadd, 1) := of_q QL_law_4 7 rfl
theorem dL_law_417 : decode cL_law 417 = .ok (.iaload, 1) := of_q QL_law_4 8 rfl
theorem dL_law_418 : decode cL_law 418 = .ok (.aload_n 0, 1) := of_q QL_law_4 9 rfl
theorem dL_law_419 : decode cL_law 419 = .ok (.iload_n 3, 1) := of_q QL_law_4 10 rfl
theorem dL_law_420 : decode cL_law 420 = .ok (.iconst 4, 1) := of_q QL_law_4 11 rfl
theorem dL_law_421 : decode cL_law 421 = .ok (.iadd, 1) := of_q QL_law_4 12 rfl
theorem dL_law_422 : decode cL_law 422 = .ok (.iaload, 1) := of_q QL_law_4 13 rfl
theorem dL_law_423 : decode cL_law 423 = .ok (.invokevirtual 52, 3) := of_q QL_law_4 14 rfl
theorem dL_law_426 : decode cL_law 426 = .ok (.aload_n 2, 1) := of_q QL_law_4 15 rfl
theorem dL_law_427 : decode cL_law 427 = .ok (.aload_n 0, 1) := of_q QL_law_4 16 rfl
theorem dL_law_428 : decode cL_law 428 = .ok (.iload_n 3, 1) := of_q QL_law_4 17 rfl
theorem dL_law_429 : decode cL_law 429 = .ok (.iconst 1, 1) := of_q QL_law_4 18 rfl
theorem dL_law_430 : decode cL_law 430 = .ok (.iadd, 1) := of_q QL_law_4 19 rfl
theorem dL_law_431 : decode cL_law 431 = .ok (.iaload, 1) := of_q QL_law_4 20 rfl
theorem dL_law_432 : decode cL_law 432 = .ok (.i2l, 1) := of_q QL_law_4 21 rfl
theorem dL_law_433 : decode cL_law 433 = .ok (.bipush 32, 2) := of_q QL_law_4 22 rfl
theorem dL_law_435 : decode cL_law 435 = .ok (.lshl, 1) := of_q QL_law_4 23 rfl
theorem dL_law_436 : decode cL_law 436 = .ok (.aload_n 0, 1) := of_q QL_law_4 24 rfl
theorem dL_law_437 : decode cL_law 437 = .ok (.iload_n 3, 1) := of_q QL_law_4 25 rfl
theorem dL_law_438 : decode cL_law 438 = .ok (.iconst 2, 1) := of_q QL_law_4 26 rfl
theorem dL_law_439 : decode cL_law 439 = .ok (.iadd, 1) := of_q QL_law_4 27 rfl
theorem dL_law_440 : decode cL_law 440 = .ok (.iaload, 1) := of_q QL_law_4 28 rfl
theorem dL_law_441 : decode cL_law 441 = .ok (.i2l, 1) := of_q QL_law_4 29 rfl
theorem dL_law_442 : decode cL_law 442 = .ok (.ldc2_w 13, 3) := of_q QL_law_4 30 rfl
theorem dL_law_445 : decode cL_law 445 = .ok (.land, 1) := of_q QL_law_4 31 rfl
theorem dL_law_446 : decode cL_law 446 = .ok (.lor, 1) := of_q QL_law_4 32 rfl
theorem dL_law_447 : decode cL_law 447 = .ok (.aload_n 0, 1) := of_q QL_law_4 33 rfl
theorem dL_law_448 : decode cL_law 448 = .ok (.iload_n 3, 1) := of_q QL_law_4 34 rfl
theorem dL_law_449 : decode cL_law 449 = .ok (.iconst 3, 1) := of_q QL_law_4 35 rfl
theorem dL_law_450 : decode cL_law 450 = .ok (.iadd, 1) := of_q QL_law_4 36 rfl
theorem dL_law_451 : decode cL_law 451 = .ok (.iaload, 1) := of_q QL_law_4 37 rfl
theorem dL_law_452 : decode cL_law 452 = .ok (.aload_n 0, 1) := of_q QL_law_4 38 rfl
theorem dL_law_453 : decode cL_law 453 = .ok (.iload_n 3, 1) := of_q QL_law_4 39 rfl
theorem dL_law_454 : decode cL_law 454 = .ok (.iconst 4, 1) := of_q QL_law_4 40 rfl
theorem dL_law_455 : decode cL_law 455 = .ok (.iadd, 1) := of_q QL_law_4 41 rfl
theorem dL_law_456 : decode cL_law 456 = .ok (.iaload, 1) := of_q QL_law_4 42 rfl
theorem dL_law_457 : decode cL_law 457 = .ok (.invokevirtual 56, 3) := of_q QL_law_4 43 rfl
theorem dL_law_460 : decode cL_law 460 = .ok (.if_icmp .eq 428, 3) := of_q QL_law_4 44 rfl
theorem dL_law_463 : decode cL_law 463 = .ok (.iconst 0, 1) := of_q QL_law_4 45 rfl
theorem dL_law_464 : decode cL_law 464 = .ok (.ireturn, 1) := of_q QL_law_4 46 rfl
theorem dL_law_465 : decode cL_law 465 = .ok (.aload_n 1, 1) := of_q QL_law_4 47 rfl
theorem dL_law_466 : decode cL_law 466 = .ok (.aload_n 0, 1) := of_q QL_law_4 48 rfl
theorem dL_law_467 : decode cL_law 467 = .ok (.iload_n 3, 1) := of_q QL_law_4 49 rfl
theorem dL_law_468 : decode cL_law 468 = .ok (.iconst 1, 1) := of_q QL_law_4 50 rfl
theorem dL_law_469 : decode cL_law 469 = .ok (.iadd, 1) := of_q QL_law_4 51 rfl
theorem dL_law_470 : decode cL_law 470 = .ok (.iaload, 1) := of_q QL_law_4 52 rfl
theorem dL_law_471 : decode cL_law 471 = .ok (.invokevirtual 57, 3) := of_q QL_law_4 53 rfl
theorem dL_law_474 : decode cL_law 474 = .ok (.aload_n 2, 1) := of_q QL_law_4 54 rfl
theorem dL_law_475 : decode cL_law 475 = .ok (.aload_n 0, 1) := of_q QL_law_4 55 rfl
theorem dL_law_476 : decode cL_law 476 = .ok (.iload_n 3, 1) := of_q QL_law_4 56 rfl
theorem dL_law_477 : decode cL_law 477 = .ok (.iconst 1, 1) := of_q QL_law_4 57 rfl
theorem dL_law_478 : decode cL_law 478 = .ok (.iadd, 1) := of_q QL_law_4 58 rfl
theorem dL_law_479 : decode cL_law 479 = .ok (.iaload, 1) := of_q QL_law_4 59 rfl
def qL_law_5 : List (Nat × Instr × Nat) := [(480, .invokevirtual 60, 3), (483, .if_icmp .eq 405, 3), (486, .iconst 0, 1), (487, .ireturn, 1), (488, .aload_n 1, 1), (489, .invokevirtual 61, 3), (492, .aload_n 2, 1), (493, .invokevirtual 64, 3), (496, .if_icmp .eq 392, 3), (499, .iconst 0, 1), (500, .ireturn, 1), (501, .aload_n 1, 1), (502, .aload_n 0, 1), (503, .iload_n 3, 1), (504, .iconst 1, 1), (505, .iadd, 1), (506, .iaload, 1), (507, .aload_n 0, 1), (508, .iload_n 3, 1), (509, .iconst 2, 1), (510, .iadd, 1), (511, .iaload, 1), (512, .aload_n 0, 1), (513, .iload_n 3, 1), (514, .iconst 3, 1), (515, .iadd, 1), (516, .iaload, 1), (517, .aload_n 0, 1), (518, .iload_n 3, 1), (519, .iconst 4, 1), (520, .iadd, 1), (521, .iaload, 1), (522, .i2l, 1), (523, .bipush 32, 2), (525, .lshl, 1), (526, .aload_n 0, 1), (527, .iload_n 3, 1), (528, .iconst 5, 1), (529, .iadd, 1), (530, .iaload, 1), (531, .i2l, 1), (532, .ldc2_w 13, 3), (535, .land, 1), (536, .lor, 1), (537, .invokevirtual 65, 3), (540, .aload_n 2, 1), (541, .aload_n 0, 1), (542, .iload_n 3, 1), (543, .iconst 1, 1), (544, .iadd, 1), (545, .iaload, 1), (546, .aload_n 0, 1), (547, .iload_n 3, 1), (548, .iconst 2, 1), (549, .iadd, 1), (550, .iaload, 1), (551, .aload_n 0, 1), (552, .iload_n 3, 1), (553, .iconst 3, 1), (554, .iadd, 1)]
theorem QL_law_5 : qL_law_5.all (fun q => decide (decode cL_law q.1 = .ok q.2)) = true := by decide +kernel
theorem dL_law_480 : decode cL_law 480 = .ok (.invokevirtual 60, 3) := of_q QL_law_5 0 rfl
theorem dL_law_483 : decode cL_law 483 = .ok (.if_icmp .eq 405, 3) := of_q QL_law_5 1 rfl
theorem dL_law_486 : decode cL_law 486 = .ok (.iconst 0, 1) := of_q QL_law_5 2 rfl
theorem dL_law_487 : decode cL_law 487 = .ok (.ireturn, 1) := of_q QL_law_5 3 rfl
theorem dL_law_488 : decode cL_law 488 = .ok (.aload_n 1, 1) := of_q QL_law_5 4 rfl
theorem dL_law_489 : decode cL_law 489 = .ok (.invokevirtual 61, 3) := of_q QL_law_5 5 rfl
theorem dL_law_492 : decode cL_law 492 = .ok (.aload_n 2, 1) := of_q QL_law_5 6 rfl
theorem dL_law_493 : decode cL_law 493 = .ok (.invokevirtual 64, 3) := of_q QL_law_5 7 rfl
theorem dL_law_496 : decode cL_law 496 = .ok (.if_icmp .eq 392, 3) := of_q QL_law_5 8 rfl
theorem dL_law_499 : decode cL_law 499 = .ok (.iconst 0, 1) := of_q QL_law_5 9 rfl
theorem dL_law_500 : decode cL_law 500 = .ok (.ireturn, 1) := of_q QL_law_5 10 rfl
theorem dL_law_501 : decode cL_law 501 = .ok (.aload_n 1, 1) := of_q QL_law_5 11 rfl
theorem dL_law_502 : decode cL_law 502 = .ok (.aload_n 0, 1) := of_q QL_law_5 12 rfl
theorem dL_law_503 : decode cL_law 503 = .ok (.iload_n 3, 1) := of_q QL_law_5 13 rfl
theorem dL_law_504 : decode cL_law 504 = .ok (.iconst 1, 1) := of_q QL_law_5 14 rfl
theorem dL_law_505 : decode cL_law 505 = .ok (.iadd, 1) := of_q QL_law_5 15 rfl
theorem dL_law_506 : decode cL_law 506 = .ok (.iaload, 1) := of_q QL_law_5 16 rfl
theorem dL_law_507 : decode cL_law 507 = .ok (.aload_n 0, 1) := of_q QL_law_5 17 rfl
theorem dL_law_508 : decode cL_law 508 = .ok (.iload_n 3, 1) := of_q QL_law_5 18 rfl
theorem dL_law_509 : decode cL_law 509 = .ok (.iconst 2, 1) := of_q QL_law_5 19 rfl
theorem dL_law_510 : decode cL_law 510 = .ok (.iadd, 1) := of_q QL_law_5 20 rfl
theorem dL_law_511 : decode cL_law 511 = .ok (.iaload, 1) := of_q QL_law_5 21 rfl
theorem dL_law_512 : decode cL_law 512 = .ok (.aload_n 0, 1) := of_q QL_law_5 22 rfl
theorem dL_law_513 : decode cL_law 513 = .ok (.iload_n 3, 1) := of_q QL_law_5 23 rfl
theorem dL_law_514 : decode cL_law 514 = .ok (.iconst 3, 1) := of_q QL_law_5 24 rfl
theorem dL_law_515 : decode cL_law 515 = .ok (.iadd, 1) := of_q QL_law_5 25 rfl
theorem dL_law_516 : decode cL_law 516 = .ok (.iaload, 1) := of_q QL_law_5 26 rfl
theorem dL_law_517 : decode cL_law 517 = .ok (.aload_n 0, 1) := of_q QL_law_5 27 rfl
theorem dL_law_518 : decode cL_law 518 = .ok (.iload_n 3, 1) := of_q QL_law_5 28 rfl
theorem dL_law_519 : decode cL_law 519 = .ok (.iconst 4, 1) := of_q QL_law_5 29 rfl
theorem dL_law_520 : decode cL_law 520 = .ok (.iadd, 1) := of_q QL_law_5 30 rfl
theorem dL_law_521 : decode cL_law 521 = .ok (.iaload, 1) := of_q QL_law_5 31 rfl
theorem dL_law_522 : decode cL_law 522 = .ok (.i2l, 1) := of_q QL_law_5 32 rfl
theorem dL_law_523 : decode cL_law 523 = .ok (.bipush 32, 2) := of_q QL_law_5 33 rfl
theorem dL_law_525 : decode cL_law 525 = .ok (.lshl, 1) := of_q QL_law_5 34 rfl
theorem dL_law_526 : decode cL_law 526 = .ok (.aload_n 0, 1) := of_q QL_law_5 35 rfl
theorem dL_law_527 : decode cL_law 527 = .ok (.iload_n 3, 1) := of_q QL_law_5 36 rfl
theorem dL_law_528 : decode cL_law 528 = .ok (.iconst 5, 1) := of_q QL_law_5 37 rfl
theorem dL_law_529 : decode cL_law 529 = .ok (.iadd, 1) := of_q QL_law_5 38 rfl
theorem dL_law_530 : decode cL_law 530 = .ok (.iaload, 1) := of_q QL_law_5 39 rfl
theorem dL_law_531 : decode cL_law 531 = .ok (.i2l, 1) := of_q QL_law_5 40 rfl
theorem dL_law_532 : decode cL_law 532 = .ok (.ldc2_w 13, 3) := of_q QL_law_5 41 rfl
theorem dL_law_535 : decode cL_law 535 = .ok (.land, 1) := of_q QL_law_5 42 rfl
theorem dL_law_536 : decode cL_law 536 = .ok (.lor, 1) := of_q QL_law_5 43 rfl
theorem dL_law_537 : decode cL_law 537 = .ok (.invokevirtual 65, 3) := of_q QL_law_5 44 rfl
theorem dL_law_540 : decode cL_law 540 = .ok (.aload_n 2, 1) := of_q QL_law_5 45 rfl
theorem dL_law_541 : decode cL_law 541 = .ok (.aload_n 0, 1) := of_q QL_law_5 46 rfl
theorem dL_law_542 : decode cL_law 542 = .ok (.iload_n 3, 1) := of_q QL_law_5 47 rfl
theorem dL_law_543 : decode cL_law 543 = .ok (.iconst 1, 1) := of_q QL_law_5 48 rfl
theorem dL_law_544 : decode cL_law 544 = .ok (.iadd, 1) := of_q QL_law_5 49 rfl
theorem dL_law_545 : decode cL_law 545 = .ok (.iaload, 1) := of_q QL_law_5 50 rfl
theorem dL_law_546 : decode cL_law 546 = .ok (.aload_n 0, 1) := of_q QL_law_5 51 rfl
theorem dL_law_547 : decode cL_law 547 = .ok (.iload_n 3, 1) := of_q QL_law_5 52 rfl
theorem dL_law_548 : decode cL_law 548 = .ok (.iconst 2, 1) := of_q QL_law_5 53 rfl
theorem dL_law_549 : decode cL_law 549 = .ok (.iadd, 1) := of_q QL_law_5 54 rfl
theorem dL_law_550 : decode cL_law 550 = .ok (.iaload, 1) := of_q QL_law_5 55 rfl
theorem dL_law_551 : decode cL_law 551 = .ok (.aload_n 0, 1) := of_q QL_law_5 56 rfl
theorem dL_law_552 : decode cL_law 552 = .ok (.iload_n 3, 1) := of_q QL_law_5 57 rfl
theorem dL_law_553 : decode cL_law 553 = .ok (.iconst 3, 1) := of_q QL_law_5 58 rfl
theorem dL_law_554 : decode cL_law 554 = .ok (.iadd, 1) := of_q QL_law_5 59 rfl
def qL_law_6 : List (Nat × Instr × Nat) := [(555, .iaload, 1), (556, .aload_n 0, 1), (557, .iload_n 3, 1), (558, .iconst 4, 1), (559, .iadd, 1), (560, .iaload, 1), (561, .i2l, 1), (562, .bipush 32, 2), (564, .lshl, 1), (565, .aload_n 0, 1), (566, .iload_n 3, 1), (567, .iconst 5, 1), (568, .iadd, 1), (569, .iaload, 1), (570, .i2l, 1), (571, .ldc2_w 13, 3), (574, .land, 1), (575, .lor, 1), (576, .invokevirtual 69, 3), (579, .if_icmp .eq 309, 3), (582, .iconst 0, 1), (583, .ireturn, 1), (584, .aload_n 1, 1), (585, .aload_n 0, 1), (586, .iload_n 3, 1), (587, .iconst 1, 1), (588, .iadd, 1), (589, .iaload, 1), (590, .invokevirtual 70, 3), (593, .aload_n 2, 1), (594, .aload_n 0, 1), (595, .iload_n 3, 1), (596, .iconst 1, 1), (597, .iadd, 1), (598, .iaload, 1), (599, .invokevirtual 73, 3), (602, .if_icmp .eq 286, 3), (605, .iconst 0, 1), (606, .ireturn, 1), (607, .aload_n 1, 1), (608, .invokevirtual 74, 3), (611, .aload_n 2, 1), (612, .invokevirtual 77, 3), (615, .if_icmp .eq 273, 3), (618, .iconst 0, 1), (619, .ireturn, 1), (620, .aload_n 1, 1), (621, .aload_n 0, 1), (622, .iload_n 3, 1), (623, .iconst 1, 1), (624, .iadd, 1), (625, .iaload, 1), (626, .aload_n 0, 1), (627, .iload_n 3, 1), (628, .iconst 2, 1), (629, .iadd, 1), (630, .iaload, 1), (631, .aload_n 0, 1), (632, .iload_n 3, 1), (633, .iconst 3, 1)]
theorem QL_law_6 : qL_law_6.all (fun q => decide (decode cL_law q.1 = .ok q.2)) = true := by decide +kernel
theorem dL_law_555 : decode cL_law 555 = .ok (.iaload, 1) := of_q QL_law_6 0 rfl
theorem dL_law_556 : decode cL_law 556 = .ok (.aload_n 0, 1) := of_q QL_law_6 1 rfl
theorem dL_law_557 : decode cL_law 557 = .ok (.iload_n 3, 1) := of_q QL_law_6 2 rfl
theorem dL_law_558 : decode cL_law 558 = .ok (.iconst 4, 1) := of_q QL_law_6 3 rfl
theorem dL_law_559 : decode cL_law 559 = .ok (.iadd, 1) := of_q QL_law_6 4 rfl
theorem dL_law_560 : decode cL_law 560 = .ok (.iaload, 1) := of_q QL_law_6 5 rfl
theorem dL_law_561 : decode cL_law 561 = .ok (.i2l, 1) := of_q QL_law_6 6 rfl
theorem dL_law_562 : decode cL_law 562 = .ok (.bipush 32, 2) := of_q QL_law_6 7 rfl
theorem dL_law_564 : decode cL_law 564 = .ok (.lshl, 1) := of_q QL_law_6 8 rfl
theorem dL_law_565 : decode cL_law 565 = .ok (.aload_n 0, 1) := of_q QL_law_6 9 rfl
theorem dL_law_566 : decode cL_law 566 = .ok (.iload_n 3, 1) := of_q QL_law_6 10 rfl
theorem dL_law_567 : decode cL_law 567 = .ok (.iconst 5, 1) := of_q QL_law_6 11 rfl
theorem dL_law_568 : decode cL_law 568 = .ok (.iadd, 1) := of_q QL_law_6 12 rfl
theorem dL_law_569 : decode cL_law 569 = .ok (.iaload, 1) := of_q QL_law_6 13 rfl
theorem dL_law_570 : decode cL_law 570 = .ok (.i2l, 1) := of_q QL_law_6 14 rfl
theorem dL_law_571 : decode cL_law 571 = .ok (.ldc2_w 13, 3) := of_q QL_law_6 15 rfl
theorem dL_law_574 : decode cL_law 574 = .ok (.land, 1) := of_q QL_law_6 16 rfl
theorem dL_law_575 : decode cL_law 575 = .ok (.lor, 1) := of_q QL_law_6 17 rfl
theorem dL_law_576 : decode cL_law 576 = .ok (.invokevirtual 69, 3) := of_q QL_law_6 18 rfl
theorem dL_law_579 : decode cL_law 579 = .ok (.if_icmp .eq 309, 3) := of_q QL_law_6 19 rfl
theorem dL_law_582 : decode cL_law 582 = .ok (.iconst 0, 1) := of_q QL_law_6 20 rfl
theorem dL_law_583 : decode cL_law 583 = .ok (.ireturn, 1) := of_q QL_law_6 21 rfl
theorem dL_law_584 : decode cL_law 584 = .ok (.aload_n 1, 1) := of_q QL_law_6 22 rfl
theorem dL_law_585 : decode cL_law 585 = .ok (.aload_n 0, 1) := of_q QL_law_6 23 rfl
theorem dL_law_586 : decode cL_law 586 = .ok (.iload_n 3, 1) := of_q QL_law_6 24 rfl
theorem dL_law_587 : decode cL_law 587 = .ok (.iconst 1, 1) := of_q QL_law_6 25 rfl
theorem dL_law_588 : decode cL_law 588 = .ok (.iadd, 1) := of_q QL_law_6 26 rfl
theorem dL_law_589 : decode cL_law 589 = .ok (.iaload, 1) := of_q QL_law_6 27 rfl
theorem dL_law_590 : decode cL_law 590 = .ok (.invokevirtual 70, 3) := of_q QL_law_6 28 rfl
theorem dL_law_593 : decode cL_law 593 = .ok (.aload_n 2, 1) := of_q QL_law_6 29 rfl
theorem dL_law_594 : decode cL_law 594 = .ok (.aload_n 0, 1) := of_q QL_law_6 30 rfl
theorem dL_law_595 : decode cL_law 595 = .ok (.iload_n 3, 1) := of_q QL_law_6 31 rfl
theorem dL_law_596 : decode cL_law 596 = .ok (.iconst 1, 1) := of_q QL_law_6 32 rfl
theorem dL_law_597 : decode cL_law 597 = .ok (.iadd, 1) := of_q QL_law_6 33 rfl
theorem dL_law_598 : decode cL_law 598 = .ok (.iaload, 1) := of_q QL_law_6 34 rfl
theorem dL_law_599 : decode cL_law 599 = .ok (.invokevirtual 73, 3) := of_q QL_law_6 35 rfl
theorem dL_law_602 : decode cL_law 602 = .ok (.if_icmp .eq 286, 3) := of_q QL_law_6 36 rfl
theorem dL_law_605 : decode cL_law 605 = .ok (.iconst 0, 1) := of_q QL_law_6 37 rfl
theorem dL_law_606 : decode cL_law 606 = .ok (.ireturn, 1) := of_q QL_law_6 38 rfl
theorem dL_law_607 : decode cL_law 607 = .ok (.aload_n 1, 1) := of_q QL_law_6 39 rfl
theorem dL_law_608 : decode cL_law 608 = .ok (.invokevirtual 74, 3) := of_q QL_law_6 40 rfl
theorem dL_law_611 : decode cL_law 611 = .ok (.aload_n 2, 1) := of_q QL_law_6 41 rfl
theorem dL_law_612 : decode cL_law 612 = .ok (.invokevirtual 77, 3) := of_q QL_law_6 42 rfl
theorem dL_law_615 : decode cL_law 615 = .ok (.if_icmp .eq 273, 3) := of_q QL_law_6 43 rfl
theorem dL_law_618 : decode cL_law 618 = .ok (.iconst 0, 1) := of_q QL_law_6 44 rfl
theorem dL_law_619 : decode cL_law 619 = .ok (.ireturn, 1) := of_q QL_law_6 45 rfl
theorem dL_law_620 : decode cL_law 620 = .ok (.aload_n 1, 1) := of_q QL_law_6 46 rfl
theorem dL_law_621 : decode cL_law 621 = .ok (.aload_n 0, 1) := of_q QL_law_6 47 rfl
theorem dL_law_622 : decode cL_law 622 = .ok (.iload_n 3, 1) := of_q QL_law_6 48 rfl
theorem dL_law_623 : decode cL_law 623 = .ok (.iconst 1, 1) := of_q QL_law_6 49 rfl
theorem dL_law_624 : decode cL_law 624 = .ok (.iadd, 1) := of_q QL_law_6 50 rfl
theorem dL_law_625 : decode cL_law 625 = .ok (.iaload, 1) := of_q QL_law_6 51 rfl
theorem dL_law_626 : decode cL_law 626 = .ok (.aload_n 0, 1) := of_q QL_law_6 52 rfl
theorem dL_law_627 : decode cL_law 627 = .ok (.iload_n 3, 1) := of_q QL_law_6 53 rfl
theorem dL_law_628 : decode cL_law 628 = .ok (.iconst 2, 1) := of_q QL_law_6 54 rfl
theorem dL_law_629 : decode cL_law 629 = .ok (.iadd, 1) := of_q QL_law_6 55 rfl
theorem dL_law_630 : decode cL_law 630 = .ok (.iaload, 1) := of_q QL_law_6 56 rfl
theorem dL_law_631 : decode cL_law 631 = .ok (.aload_n 0, 1) := of_q QL_law_6 57 rfl
theorem dL_law_632 : decode cL_law 632 = .ok (.iload_n 3, 1) := of_q QL_law_6 58 rfl
theorem dL_law_633 : decode cL_law 633 = .ok (.iconst 3, 1) := of_q QL_law_6 59 rfl
def qL_law_7 : List (Nat × Instr × Nat) := [(634, .iadd, 1), (635, .iaload, 1), (636, .aload_n 0, 1), (637, .iload_n 3, 1), (638, .iconst 4, 1), (639, .iadd, 1), (640, .iaload, 1), (641, .invokevirtual 78, 3), (644, .aload_n 2, 1), (645, .aload_n 0, 1), (646, .iload_n 3, 1), (647, .iconst 1, 1), (648, .iadd, 1), (649, .iaload, 1), (650, .aload_n 0, 1), (651, .iload_n 3, 1), (652, .iconst 2, 1), (653, .iadd, 1), (654, .iaload, 1), (655, .aload_n 0, 1), (656, .iload_n 3, 1), (657, .iconst 3, 1), (658, .iadd, 1), (659, .iaload, 1), (660, .aload_n 0, 1), (661, .iload_n 3, 1), (662, .iconst 4, 1), (663, .iadd, 1), (664, .iaload, 1), (665, .invokevirtual 82, 3), (668, .if_icmp .eq 220, 3), (671, .iconst 0, 1), (672, .ireturn, 1), (673, .aload_n 1, 1), (674, .aload_n 0, 1), (675, .iload_n 3, 1), (676, .iconst 1, 1), (677, .iadd, 1), (678, .iaload, 1), (679, .i2l, 1), (680, .bipush 32, 2), (682, .lshl, 1), (683, .aload_n 0, 1), (684, .iload_n 3, 1), (685, .iconst 2, 1), (686, .iadd, 1), (687, .iaload, 1), (688, .i2l, 1), (689, .ldc2_w 13, 3), (692, .land, 1), (693, .lor, 1), (694, .aload_n 0, 1), (695, .iload_n 3, 1), (696, .iconst 3, 1), (697, .iadd, 1), (698, .iaload, 1), (699, .i2l, 1), (700, .bipush 32, 2), (702, .lshl, 1), (703, .aload_n 0, 1)]
theorem QL_law_7 : qL_law_7.all (fun q => decide (decode cL_law q.1 = .ok q.2)) = true := by decide +kernel
theorem dL_law_634 : decode cL_law 634 = .ok (.iadd, 1) := of_q QL_law_7 0 rfl
theorem dL_law_635 : decode cL_law 635 = .ok (.iaload, 1) := of_q QL_law_7 1 rfl
theorem dL_law_636 : decode cL_law 636 = .ok (.aload_n 0, 1) := of_q QL_law_7 2 rfl
theorem dL_law_637 : decode cL_law 637 = .ok (.iload_n 3, 1) := of_q QL_law_7 3 rfl
theorem dL_law_638 : decode cL_law 638 = .ok (.iconst 4, 1) := of_q QL_law_7 4 rfl
theorem dL_law_639 : decode cL_law 639 = .ok (.iadd, 1) := of_q QL_law_7 5 rfl
theorem dL_law_640 : decode cL_law 640 = .ok (.iaload, 1) := of_q QL_law_7 6 rfl
theorem dL_law_641 : decode cL_law 641 = .ok (.invokevirtual 78, 3) := of_q QL_law_7 7 rfl
theorem dL_law_644 : decode cL_law 644 = .ok (.aload_n 2, 1) := of_q QL_law_7 8 rfl
theorem dL_law_645 : decode cL_law 645 = .ok (.aload_n 0, 1) := of_q QL_law_7 9 rfl
theorem dL_law_646 : decode cL_law 646 = .ok (.iload_n 3, 1) := of_q QL_law_7 10 rfl
theorem dL_law_647 : decode cL_law 647 = .ok (.iconst 1, 1) := of_q QL_law_7 11 rfl
theorem dL_law_648 : decode cL_law 648 = .ok (.iadd, 1) := of_q QL_law_7 12 rfl
theorem dL_law_649 : decode cL_law 649 = .ok (.iaload, 1) := of_q QL_law_7 13 rfl
theorem dL_law_650 : decode cL_law 650 = .ok (.aload_n 0, 1) := of_q QL_law_7 14 rfl
theorem dL_law_651 : decode cL_law 651 = .ok (.iload_n 3, 1) := of_q QL_law_7 15 rfl
theorem dL_law_652 : decode cL_law 652 = .ok (.iconst 2, 1) := of_q QL_law_7 16 rfl
theorem dL_law_653 : decode cL_law 653 = .ok (.iadd, 1) := of_q QL_law_7 17 rfl
theorem dL_law_654 : decode cL_law 654 = .ok (.iaload, 1) := of_q QL_law_7 18 rfl
theorem dL_law_655 : decode cL_law 655 = .ok (.aload_n 0, 1) := of_q QL_law_7 19 rfl
theorem dL_law_656 : decode cL_law 656 = .ok (.iload_n 3, 1) := of_q QL_law_7 20 rfl
theorem dL_law_657 : decode cL_law 657 = .ok (.iconst 3, 1) := of_q QL_law_7 21 rfl
theorem dL_law_658 : decode cL_law 658 = .ok (.iadd, 1) := of_q QL_law_7 22 rfl
theorem dL_law_659 : decode cL_law 659 = .ok (.iaload, 1) := of_q QL_law_7 23 rfl
theorem dL_law_660 : decode cL_law 660 = .ok (.aload_n 0, 1) := of_q QL_law_7 24 rfl
theorem dL_law_661 : decode cL_law 661 = .ok (.iload_n 3, 1) := of_q QL_law_7 25 rfl
theorem dL_law_662 : decode cL_law 662 = .ok (.iconst 4, 1) := of_q QL_law_7 26 rfl
theorem dL_law_663 : decode cL_law 663 = .ok (.iadd, 1) := of_q QL_law_7 27 rfl
theorem dL_law_664 : decode cL_law 664 = .ok (.iaload, 1) := of_q QL_law_7 28 rfl
theorem dL_law_665 : decode cL_law 665 = .ok (.invokevirtual 82, 3) := of_q QL_law_7 29 rfl
theorem dL_law_668 : decode cL_law 668 = .ok (.if_icmp .eq 220, 3) := of_q QL_law_7 30 rfl
theorem dL_law_671 : decode cL_law 671 = .ok (.iconst 0, 1) := of_q QL_law_7 31 rfl
theorem dL_law_672 : decode cL_law 672 = .ok (.ireturn, 1) := of_q QL_law_7 32 rfl
theorem dL_law_673 : decode cL_law 673 = .ok (.aload_n 1, 1) := of_q QL_law_7 33 rfl
theorem dL_law_674 : decode cL_law 674 = .ok (.aload_n 0, 1) := of_q QL_law_7 34 rfl
theorem dL_law_675 : decode cL_law 675 = .ok (.iload_n 3, 1) := of_q QL_law_7 35 rfl
theorem dL_law_676 : decode cL_law 676 = .ok (.iconst 1, 1) := of_q QL_law_7 36 rfl
theorem dL_law_677 : decode cL_law 677 = .ok (.iadd, 1) := of_q QL_law_7 37 rfl
theorem dL_law_678 : decode cL_law 678 = .ok (.iaload, 1) := of_q QL_law_7 38 rfl
theorem dL_law_679 : decode cL_law 679 = .ok (.i2l, 1) := of_q QL_law_7 39 rfl
theorem dL_law_680 : decode cL_law 680 = .ok (.bipush 32, 2) := of_q QL_law_7 40 rfl
theorem dL_law_682 : decode cL_law 682 = .ok (.lshl, 1) := of_q QL_law_7 41 rfl
theorem dL_law_683 : decode cL_law 683 = .ok (.aload_n 0, 1) := of_q QL_law_7 42 rfl
theorem dL_law_684 : decode cL_law 684 = .ok (.iload_n 3, 1) := of_q QL_law_7 43 rfl
theorem dL_law_685 : decode cL_law 685 = .ok (.iconst 2, 1) := of_q QL_law_7 44 rfl
theorem dL_law_686 : decode cL_law 686 = .ok (.iadd, 1) := of_q QL_law_7 45 rfl
theorem dL_law_687 : decode cL_law 687 = .ok (.iaload, 1) := of_q QL_law_7 46 rfl
theorem dL_law_688 : decode cL_law 688 = .ok (.i2l, 1) := of_q QL_law_7 47 rfl
theorem dL_law_689 : decode cL_law 689 = .ok (.ldc2_w 13, 3) := of_q QL_law_7 48 rfl
theorem dL_law_692 : decode cL_law 692 = .ok (.land, 1) := of_q QL_law_7 49 rfl
theorem dL_law_693 : decode cL_law 693 = .ok (.lor, 1) := of_q QL_law_7 50 rfl
theorem dL_law_694 : decode cL_law 694 = .ok (.aload_n 0, 1) := of_q QL_law_7 51 rfl
theorem dL_law_695 : decode cL_law 695 = .ok (.iload_n 3, 1) := of_q QL_law_7 52 rfl
theorem dL_law_696 : decode cL_law 696 = .ok (.iconst 3, 1) := of_q QL_law_7 53 rfl
theorem dL_law_697 : decode cL_law 697 = .ok (.iadd, 1) := of_q QL_law_7 54 rfl
theorem dL_law_698 : decode cL_law 698 = .ok (.iaload, 1) := of_q QL_law_7 55 rfl
theorem dL_law_699 : decode cL_law 699 = .ok (.i2l, 1) := of_q QL_law_7 56 rfl
theorem dL_law_700 : decode cL_law 700 = .ok (.bipush 32, 2) := of_q QL_law_7 57 rfl
theorem dL_law_702 : decode cL_law 702 = .ok (.lshl, 1) := of_q QL_law_7 58 rfl
theorem dL_law_703 : decode cL_law 703 = .ok (.aload_n 0, 1) := of_q QL_law_7 59 rfl
def qL_law_8 : List (Nat × Instr × Nat) := [(704, .iload_n 3, 1), (705, .iconst 4, 1), (706, .iadd, 1), (707, .iaload, 1), (708, .i2l, 1), (709, .ldc2_w 13, 3), (712, .land, 1), (713, .lor, 1), (714, .aload_n 0, 1), (715, .iload_n 3, 1), (716, .iconst 5, 1), (717, .iadd, 1), (718, .iaload, 1), (719, .invokevirtual 83, 3), (722, .aload_n 2, 1), (723, .aload_n 0, 1), (724, .iload_n 3, 1), (725, .iconst 1, 1), (726, .iadd, 1), (727, .iaload, 1), (728, .i2l, 1), (729, .bipush 32, 2), (731, .lshl, 1), (732, .aload_n 0, 1), (733, .iload_n 3, 1), (734, .iconst 2, 1), (735, .iadd, 1), (736, .iaload, 1), (737, .i2l, 1), (738, .ldc2_w 13, 3), (741, .land, 1), (742, .lor, 1), (743, .aload_n 0, 1), (744, .iload_n 3, 1), (745, .iconst 3, 1), (746, .iadd, 1), (747, .iaload, 1), (748, .i2l, 1), (749, .bipush 32, 2), (751, .lshl, 1), (752, .aload_n 0, 1), (753, .iload_n 3, 1), (754, .iconst 4, 1), (755, .iadd, 1), (756, .iaload, 1), (757, .i2l, 1), (758, .ldc2_w 13, 3), (761, .land, 1), (762, .lor, 1), (763, .aload_n 0, 1), (764, .iload_n 3, 1), (765, .iconst 5, 1), (766, .iadd, 1), (767, .iaload, 1), (768, .invokevirtual 87, 3), (771, .if_icmp .eq 117, 3), (774, .iconst 0, 1), (775, .ireturn, 1), (776, .aload_n 1, 1), (777, .aload_n 0, 1)]
theorem QL_law_8 : qL_law_8.all (fun q => decide (decode cL_law q.1 = .ok q.2)) = true := by decide +kernel
theorem dL_law_704 : decode cL_law 704 = .ok (.iload_n 3, 1) := of_q QL_law_8 0 rfl
theorem dL_law_705 : decode cL_law 705 = .ok (.iconst 4, 1) := of_q QL_law_8 1 rfl
theorem dL_law_706 : decode cL_law 706 = .ok (.iadd, 1) := of_q QL_law_8 2 rfl
theorem dL_law_707 : decode cL_law 707 = .ok (.iaload, 1) := of_q QL_law_8 3 rfl
theorem dL_law_708 : decode cL_law 708 = .ok (.i2l, 1) := of_q QL_law_8 4 rfl
theorem dL_law_709 : decode cL_law 709 = .ok (.ldc2_w 13, 3) := of_q QL_law_8 5 rfl
theorem dL_law_712 : decode cL_law 712 = .ok (.land, 1) := of_q QL_law_8 6 rfl
theorem dL_law_713 : decode cL_law 713 = .ok (.lor, 1) := of_q QL_law_8 7 rfl
theorem dL_law_714 : decode cL_law 714 = .ok (.aload_n 0, 1) := of_q QL_law_8 8 rfl
theorem dL_law_715 : decode cL_law 715 = .ok (.iload_n 3, 1) := of_q QL_law_8 9 rfl
theorem dL_law_716 : decode cL_law 716 = .ok (.iconst 5, 1) := of_q QL_law_8 10 rfl
theorem dL_law_717 : decode cL_law 717 = .ok (.iadd, 1) := of_q QL_law_8 11 rfl
theorem dL_law_718 : decode cL_law 718 = .ok (.iaload, 1) := of_q QL_law_8 12 rfl
theorem dL_law_719 : decode cL_law 719 = .ok (.invokevirtual 83, 3) := of_q QL_law_8 13 rfl
theorem dL_law_722 : decode cL_law 722 = .ok (.aload_n 2, 1) := of_q QL_law_8 14 rfl
theorem dL_law_723 : decode cL_law 723 = .ok (.aload_n 0, 1) := of_q QL_law_8 15 rfl
theorem dL_law_724 : decode cL_law 724 = .ok (.iload_n 3, 1) := of_q QL_law_8 16 rfl
theorem dL_law_725 : decode cL_law 725 = .ok (.iconst 1, 1) := of_q QL_law_8 17 rfl
theorem dL_law_726 : decode cL_law 726 = .ok (.iadd, 1) := of_q QL_law_8 18 rfl
theorem dL_law_727 : decode cL_law 727 = .ok (.iaload, 1) := of_q QL_law_8 19 rfl
theorem dL_law_728 : decode cL_law 728 = .ok (.i2l, 1) := of_q QL_law_8 20 rfl
theorem dL_law_729 : decode cL_law 729 = .ok (.bipush 32, 2) := of_q QL_law_8 21 rfl
theorem dL_law_731 : decode cL_law 731 = .ok (.lshl, 1) := of_q QL_law_8 22 rfl
theorem dL_law_732 : decode cL_law 732 = .ok (.aload_n 0, 1) := of_q QL_law_8 23 rfl
theorem dL_law_733 : decode cL_law 733 = .ok (.iload_n 3, 1) := of_q QL_law_8 24 rfl
theorem dL_law_734 : decode cL_law 734 = .ok (.iconst 2, 1) := of_q QL_law_8 25 rfl
theorem dL_law_735 : decode cL_law 735 = .ok (.iadd, 1) := of_q QL_law_8 26 rfl
theorem dL_law_736 : decode cL_law 736 = .ok (.iaload, 1) := of_q QL_law_8 27 rfl
theorem dL_law_737 : decode cL_law 737 = .ok (.i2l, 1) := of_q QL_law_8 28 rfl
theorem dL_law_738 : decode cL_law 738 = .ok (.ldc2_w 13, 3) := of_q QL_law_8 29 rfl
theorem dL_law_741 : decode cL_law 741 = .ok (.land, 1) := of_q QL_law_8 30 rfl
theorem dL_law_742 : decode cL_law 742 = .ok (.lor, 1) := of_q QL_law_8 31 rfl
theorem dL_law_743 : decode cL_law 743 = .ok (.aload_n 0, 1) := of_q QL_law_8 32 rfl
theorem dL_law_744 : decode cL_law 744 = .ok (.iload_n 3, 1) := of_q QL_law_8 33 rfl
theorem dL_law_745 : decode cL_law 745 = .ok (.iconst 3, 1) := of_q QL_law_8 34 rfl
theorem dL_law_746 : decode cL_law 746 = .ok (.iadd, 1) := of_q QL_law_8 35 rfl
theorem dL_law_747 : decode cL_law 747 = .ok (.iaload, 1) := of_q QL_law_8 36 rfl
theorem dL_law_748 : decode cL_law 748 = .ok (.i2l, 1) := of_q QL_law_8 37 rfl
theorem dL_law_749 : decode cL_law 749 = .ok (.bipush 32, 2) := of_q QL_law_8 38 rfl
theorem dL_law_751 : decode cL_law 751 = .ok (.lshl, 1) := of_q QL_law_8 39 rfl
theorem dL_law_752 : decode cL_law 752 = .ok (.aload_n 0, 1) := of_q QL_law_8 40 rfl
theorem dL_law_753 : decode cL_law 753 = .ok (.iload_n 3, 1) := of_q QL_law_8 41 rfl
theorem dL_law_754 : decode cL_law 754 = .ok (.iconst 4, 1) := of_q QL_law_8 42 rfl
theorem dL_law_755 : decode cL_law 755 = .ok (.iadd, 1) := of_q QL_law_8 43 rfl
theorem dL_law_756 : decode cL_law 756 = .ok (.iaload, 1) := of_q QL_law_8 44 rfl
theorem dL_law_757 : decode cL_law 757 = .ok (.i2l, 1) := of_q QL_law_8 45 rfl
theorem dL_law_758 : decode cL_law 758 = .ok (.ldc2_w 13, 3) := of_q QL_law_8 46 rfl
theorem dL_law_761 : decode cL_law 761 = .ok (.land, 1) := of_q QL_law_8 47 rfl
theorem dL_law_762 : decode cL_law 762 = .ok (.lor, 1) := of_q QL_law_8 48 rfl
theorem dL_law_763 : decode cL_law 763 = .ok (.aload_n 0, 1) := of_q QL_law_8 49 rfl
theorem dL_law_764 : decode cL_law 764 = .ok (.iload_n 3, 1) := of_q QL_law_8 50 rfl
theorem dL_law_765 : decode cL_law 765 = .ok (.iconst 5, 1) := of_q QL_law_8 51 rfl
theorem dL_law_766 : decode cL_law 766 = .ok (.iadd, 1) := of_q QL_law_8 52 rfl
theorem dL_law_767 : decode cL_law 767 = .ok (.iaload, 1) := of_q QL_law_8 53 rfl
theorem dL_law_768 : decode cL_law 768 = .ok (.invokevirtual 87, 3) := of_q QL_law_8 54 rfl
theorem dL_law_771 : decode cL_law 771 = .ok (.if_icmp .eq 117, 3) := of_q QL_law_8 55 rfl
theorem dL_law_774 : decode cL_law 774 = .ok (.iconst 0, 1) := of_q QL_law_8 56 rfl
theorem dL_law_775 : decode cL_law 775 = .ok (.ireturn, 1) := of_q QL_law_8 57 rfl
theorem dL_law_776 : decode cL_law 776 = .ok (.aload_n 1, 1) := of_q QL_law_8 58 rfl
theorem dL_law_777 : decode cL_law 777 = .ok (.aload_n 0, 1) := of_q QL_law_8 59 rfl
def qL_law_9 : List (Nat × Instr × Nat) := [(778, .iload_n 3, 1), (779, .iconst 1, 1), (780, .iadd, 1), (781, .iaload, 1), (782, .aload_n 0, 1), (783, .iload_n 3, 1), (784, .iconst 2, 1), (785, .iadd, 1), (786, .iaload, 1), (787, .invokevirtual 88, 3), (790, .aload_n 2, 1), (791, .aload_n 0, 1), (792, .iload_n 3, 1), (793, .iconst 1, 1), (794, .iadd, 1), (795, .iaload, 1), (796, .aload_n 0, 1), (797, .iload_n 3, 1), (798, .iconst 2, 1), (799, .iadd, 1), (800, .iaload, 1), (801, .invokevirtual 91, 3), (804, .if_icmp .eq 84, 3), (807, .iconst 0, 1), (808, .ireturn, 1), (809, .aload_n 1, 1), (810, .aload_n 0, 1), (811, .iload_n 3, 1), (812, .iconst 1, 1), (813, .iadd, 1), (814, .iaload, 1), (815, .aload_n 0, 1), (816, .iload_n 3, 1), (817, .iconst 2, 1), (818, .iadd, 1), (819, .iaload, 1), (820, .aload_n 0, 1), (821, .iload_n 3, 1), (822, .iconst 3, 1), (823, .iadd, 1), (824, .iaload, 1), (825, .invokevirtual 92, 3), (828, .aload_n 2, 1), (829, .aload_n 0, 1), (830, .iload_n 3, 1), (831, .iconst 1, 1), (832, .iadd, 1), (833, .iaload, 1), (834, .aload_n 0, 1), (835, .iload_n 3, 1), (836, .iconst 2, 1), (837, .iadd, 1), (838, .iaload, 1), (839, .aload_n 0, 1), (840, .iload_n 3, 1), (841, .iconst 3, 1), (842, .iadd, 1), (843, .iaload, 1), (844, .invokevirtual 96, 3), (847, .if_icmp .eq 41, 3)]
theorem QL_law_9 : qL_law_9.all (fun q => decide (decode cL_law q.1 = .ok q.2)) = true := by decide +kernel
theorem dL_law_778 : decode cL_law 778 = .ok (.iload_n 3, 1) := of_q QL_law_9 0 rfl
theorem dL_law_779 : decode cL_law 779 = .ok (.iconst 1, 1) := of_q QL_law_9 1 rfl
theorem dL_law_780 : decode cL_law 780 = .ok (.iadd, 1) := of_q QL_law_9 2 rfl
theorem dL_law_781 : decode cL_law 781 = .ok (.iaload, 1) := of_q QL_law_9 3 rfl
theorem dL_law_782 : decode cL_law 782 = .ok (.aload_n 0, 1) := of_q QL_law_9 4 rfl
theorem dL_law_783 : decode cL_law 783 = .ok (.iload_n 3, 1) := of_q QL_law_9 5 rfl
theorem dL_law_784 : decode cL_law 784 = .ok (.iconst 2, 1) := of_q QL_law_9 6 rfl
theorem dL_law_785 : decode cL_law 785 = .ok (.iadd, 1) := of_q QL_law_9 7 rfl
theorem dL_law_786 : decode cL_law 786 = .ok (.iaload, 1) := of_q QL_law_9 8 rfl
theorem dL_law_787 : decode cL_law 787 = .ok (.invokevirtual 88, 3) := of_q QL_law_9 9 rfl
theorem dL_law_790 : decode cL_law 790 = .ok (.aload_n 2, 1) := of_q QL_law_9 10 rfl
theorem dL_law_791 : decode cL_law 791 = .ok (.aload_n 0, 1) := of_q QL_law_9 11 rfl
theorem dL_law_792 : decode cL_law 792 = .ok (.iload_n 3, 1) := of_q QL_law_9 12 rfl
theorem dL_law_793 : decode cL_law 793 = .ok (.iconst 1, 1) := of_q QL_law_9 13 rfl
theorem dL_law_794 : decode cL_law 794 = .ok (.iadd, 1) := of_q QL_law_9 14 rfl
theorem dL_law_795 : decode cL_law 795 = .ok (.iaload, 1) := of_q QL_law_9 15 rfl
theorem dL_law_796 : decode cL_law 796 = .ok (.aload_n 0, 1) := of_q QL_law_9 16 rfl
theorem dL_law_797 : decode cL_law 797 = .ok (.iload_n 3, 1) := of_q QL_law_9 17 rfl
theorem dL_law_798 : decode cL_law 798 = .ok (.iconst 2, 1) := of_q QL_law_9 18 rfl
theorem dL_law_799 : decode cL_law 799 = .ok (.iadd, 1) := of_q QL_law_9 19 rfl
theorem dL_law_800 : decode cL_law 800 = .ok (.iaload, 1) := of_q QL_law_9 20 rfl
theorem dL_law_801 : decode cL_law 801 = .ok (.invokevirtual 91, 3) := of_q QL_law_9 21 rfl
theorem dL_law_804 : decode cL_law 804 = .ok (.if_icmp .eq 84, 3) := of_q QL_law_9 22 rfl
theorem dL_law_807 : decode cL_law 807 = .ok (.iconst 0, 1) := of_q QL_law_9 23 rfl
theorem dL_law_808 : decode cL_law 808 = .ok (.ireturn, 1) := of_q QL_law_9 24 rfl
theorem dL_law_809 : decode cL_law 809 = .ok (.aload_n 1, 1) := of_q QL_law_9 25 rfl
theorem dL_law_810 : decode cL_law 810 = .ok (.aload_n 0, 1) := of_q QL_law_9 26 rfl
theorem dL_law_811 : decode cL_law 811 = .ok (.iload_n 3, 1) := of_q QL_law_9 27 rfl
theorem dL_law_812 : decode cL_law 812 = .ok (.iconst 1, 1) := of_q QL_law_9 28 rfl
theorem dL_law_813 : decode cL_law 813 = .ok (.iadd, 1) := of_q QL_law_9 29 rfl
theorem dL_law_814 : decode cL_law 814 = .ok (.iaload, 1) := of_q QL_law_9 30 rfl
theorem dL_law_815 : decode cL_law 815 = .ok (.aload_n 0, 1) := of_q QL_law_9 31 rfl
theorem dL_law_816 : decode cL_law 816 = .ok (.iload_n 3, 1) := of_q QL_law_9 32 rfl
theorem dL_law_817 : decode cL_law 817 = .ok (.iconst 2, 1) := of_q QL_law_9 33 rfl
theorem dL_law_818 : decode cL_law 818 = .ok (.iadd, 1) := of_q QL_law_9 34 rfl
theorem dL_law_819 : decode cL_law 819 = .ok (.iaload, 1) := of_q QL_law_9 35 rfl
theorem dL_law_820 : decode cL_law 820 = .ok (.aload_n 0, 1) := of_q QL_law_9 36 rfl
theorem dL_law_821 : decode cL_law 821 = .ok (.iload_n 3, 1) := of_q QL_law_9 37 rfl
theorem dL_law_822 : decode cL_law 822 = .ok (.iconst 3, 1) := of_q QL_law_9 38 rfl
theorem dL_law_823 : decode cL_law 823 = .ok (.iadd, 1) := of_q QL_law_9 39 rfl
theorem dL_law_824 : decode cL_law 824 = .ok (.iaload, 1) := of_q QL_law_9 40 rfl
theorem dL_law_825 : decode cL_law 825 = .ok (.invokevirtual 92, 3) := of_q QL_law_9 41 rfl
theorem dL_law_828 : decode cL_law 828 = .ok (.aload_n 2, 1) := of_q QL_law_9 42 rfl
theorem dL_law_829 : decode cL_law 829 = .ok (.aload_n 0, 1) := of_q QL_law_9 43 rfl
theorem dL_law_830 : decode cL_law 830 = .ok (.iload_n 3, 1) := of_q QL_law_9 44 rfl
theorem dL_law_831 : decode cL_law 831 = .ok (.iconst 1, 1) := of_q QL_law_9 45 rfl
theorem dL_law_832 : decode cL_law 832 = .ok (.iadd, 1) := of_q QL_law_9 46 rfl
theorem dL_law_833 : decode cL_law 833 = .ok (.iaload, 1) := of_q QL_law_9 47 rfl
theorem dL_law_834 : decode cL_law 834 = .ok (.aload_n 0, 1) := of_q QL_law_9 48 rfl
theorem dL_law_835 : decode cL_law 835 = .ok (.iload_n 3, 1) := of_q QL_law_9 49 rfl
theorem dL_law_836 : decode cL_law 836 = .ok (.iconst 2, 1) := of_q QL_law_9 50 rfl
theorem dL_law_837 : decode cL_law 837 = .ok (.iadd, 1) := of_q QL_law_9 51 rfl
theorem dL_law_838 : decode cL_law 838 = .ok (.iaload, 1) := of_q QL_law_9 52 rfl
theorem dL_law_839 : decode cL_law 839 = .ok (.aload_n 0, 1) := of_q QL_law_9 53 rfl
theorem dL_law_840 : decode cL_law 840 = .ok (.iload_n 3, 1) := of_q QL_law_9 54 rfl
theorem dL_law_841 : decode cL_law 841 = .ok (.iconst 3, 1) := of_q QL_law_9 55 rfl
theorem dL_law_842 : decode cL_law 842 = .ok (.iadd, 1) := of_q QL_law_9 56 rfl
theorem dL_law_843 : decode cL_law 843 = .ok (.iaload, 1) := of_q QL_law_9 57 rfl
theorem dL_law_844 : decode cL_law 844 = .ok (.invokevirtual 96, 3) := of_q QL_law_9 58 rfl
theorem dL_law_847 : decode cL_law 847 = .ok (.if_icmp .eq 41, 3) := of_q QL_law_9 59 rfl
def qL_law_10 : List (Nat × Instr × Nat) := [(850, .iconst 0, 1), (851, .ireturn, 1), (852, .aload_n 1, 1), (853, .invokevirtual 97, 3), (856, .aload_n 2, 1), (857, .invokevirtual 100, 3), (860, .if_icmp .eq 28, 3), (863, .iconst 0, 1), (864, .ireturn, 1), (865, .aload_n 1, 1), (866, .aload_n 0, 1), (867, .iload_n 3, 1), (868, .iconst 1, 1), (869, .iadd, 1), (870, .iaload, 1), (871, .invokevirtual 101, 3), (874, .aload_n 2, 1), (875, .aload_n 0, 1), (876, .iload_n 3, 1), (877, .iconst 1, 1), (878, .iadd, 1), (879, .iaload, 1), (880, .invokevirtual 104, 3), (883, .if_icmp .eq 5, 3), (886, .iconst 0, 1), (887, .ireturn, 1), (888, .iinc 3 6, 3), (891, .goto (-873), 3), (894, .iconst 1, 1), (895, .ireturn, 1)]
theorem QL_law_10 : qL_law_10.all (fun q => decide (decode cL_law q.1 = .ok q.2)) = true := by decide +kernel
theorem dL_law_850 : decode cL_law 850 = .ok (.iconst 0, 1) := of_q QL_law_10 0 rfl
theorem dL_law_851 : decode cL_law 851 = .ok (.ireturn, 1) := of_q QL_law_10 1 rfl
theorem dL_law_852 : decode cL_law 852 = .ok (.aload_n 1, 1) := of_q QL_law_10 2 rfl
theorem dL_law_853 : decode cL_law 853 = .ok (.invokevirtual 97, 3) := of_q QL_law_10 3 rfl
theorem dL_law_856 : decode cL_law 856 = .ok (.aload_n 2, 1) := of_q QL_law_10 4 rfl
theorem dL_law_857 : decode cL_law 857 = .ok (.invokevirtual 100, 3) := of_q QL_law_10 5 rfl
theorem dL_law_860 : decode cL_law 860 = .ok (.if_icmp .eq 28, 3) := of_q QL_law_10 6 rfl
theorem dL_law_863 : decode cL_law 863 = .ok (.iconst 0, 1) := of_q QL_law_10 7 rfl
theorem dL_law_864 : decode cL_law 864 = .ok (.ireturn, 1) := of_q QL_law_10 8 rfl
theorem dL_law_865 : decode cL_law 865 = .ok (.aload_n 1, 1) := of_q QL_law_10 9 rfl
theorem dL_law_866 : decode cL_law 866 = .ok (.aload_n 0, 1) := of_q QL_law_10 10 rfl
theorem dL_law_867 : decode cL_law 867 = .ok (.iload_n 3, 1) := of_q QL_law_10 11 rfl
theorem dL_law_868 : decode cL_law 868 = .ok (.iconst 1, 1) := of_q QL_law_10 12 rfl
theorem dL_law_869 : decode cL_law 869 = .ok (.iadd, 1) := of_q QL_law_10 13 rfl
theorem dL_law_870 : decode cL_law 870 = .ok (.iaload, 1) := of_q QL_law_10 14 rfl
theorem dL_law_871 : decode cL_law 871 = .ok (.invokevirtual 101, 3) := of_q QL_law_10 15 rfl
theorem dL_law_874 : decode cL_law 874 = .ok (.aload_n 2, 1) := of_q QL_law_10 16 rfl
theorem dL_law_875 : decode cL_law 875 = .ok (.aload_n 0, 1) := of_q QL_law_10 17 rfl
theorem dL_law_876 : decode cL_law 876 = .ok (.iload_n 3, 1) := of_q QL_law_10 18 rfl
theorem dL_law_877 : decode cL_law 877 = .ok (.iconst 1, 1) := of_q QL_law_10 19 rfl
theorem dL_law_878 : decode cL_law 878 = .ok (.iadd, 1) := of_q QL_law_10 20 rfl
theorem dL_law_879 : decode cL_law 879 = .ok (.iaload, 1) := of_q QL_law_10 21 rfl
theorem dL_law_880 : decode cL_law 880 = .ok (.invokevirtual 104, 3) := of_q QL_law_10 22 rfl
theorem dL_law_883 : decode cL_law 883 = .ok (.if_icmp .eq 5, 3) := of_q QL_law_10 23 rfl
theorem dL_law_886 : decode cL_law 886 = .ok (.iconst 0, 1) := of_q QL_law_10 24 rfl
theorem dL_law_887 : decode cL_law 887 = .ok (.ireturn, 1) := of_q QL_law_10 25 rfl
theorem dL_law_888 : decode cL_law 888 = .ok (.iinc 3 6, 3) := of_q QL_law_10 26 rfl
theorem dL_law_891 : decode cL_law 891 = .ok (.goto (-873), 3) := of_q QL_law_10 27 rfl
theorem dL_law_894 : decode cL_law 894 = .ok (.iconst 1, 1) := of_q QL_law_10 28 rfl
theorem dL_law_895 : decode cL_law 895 = .ok (.ireturn, 1) := of_q QL_law_10 29 rfl
