theorem of_q {c : ByteArray} {L : List (Nat × Instr × Nat)} (h : L.all (fun q => decide (decode c q.1 = .ok q.2)) = true) (i : Nat) {pc : Nat} {v : Instr × Nat} (hi : L[i]? = some (pc, v)) : decode c pc = .ok v := by
  have h1 := List.all_eq_true.mp h _ (List.mem_of_getElem? hi)
  exact of_decide_eq_true h1
def qX0_init_0 : List (Nat × Instr × Nat) := [(0, .aload_n 0, 1), (1, .invokespecial 3, 3), (4, .aload_n 0, 1), (5, .sipush 300, 3), (8, .newarray .int, 2), (10, .putfield 9, 3), (13, .aload_n 0, 1), (14, .sipush 203, 3), (17, .newarray .int, 2), (19, .putfield 15, 3), (22, .aload_n 0, 1), (23, .sipush 300, 3), (26, .newarray .int, 2), (28, .putfield 18, 3), (31, .aload_n 0, 1), (32, .iconst 0, 1), (33, .putfield 21, 3), (36, .aload_n 0, 1), (37, .iconst 0, 1), (38, .putfield 25, 3), (41, .return_, 1)]
theorem QX0_init_0 : qX0_init_0.all (fun q => decide (decode cX0_init q.1 = .ok q.2)) = true := by decide +kernel
theorem dX0_init_0 : decode cX0_init 0 = .ok (.aload_n 0, 1) := of_q QX0_init_0 0 rfl
theorem dX0_init_1 : decode cX0_init 1 = .ok (.invokespecial 3, 3) := of_q QX0_init_0 1 rfl
theorem dX0_init_4 : decode cX0_init 4 = .ok (.aload_n 0, 1) := of_q QX0_init_0 2 rfl
theorem dX0_init_5 : decode cX0_init 5 = .ok (.sipush 300, 3) := of_q QX0_init_0 3 rfl
theorem dX0_init_8 : decode cX0_init 8 = .ok (.newarray .int, 2) := of_q QX0_init_0 4 rfl
theorem dX0_init_10 : decode cX0_init 10 = .ok (.putfield 9, 3) := of_q QX0_init_0 5 rfl
theorem dX0_init_13 : decode cX0_init 13 = .ok (.aload_n 0, 1) := of_q QX0_init_0 6 rfl
theorem dX0_init_14 : decode cX0_init 14 = .ok (.sipush 203, 3) := of_q QX0_init_0 7 rfl
theorem dX0_init_17 : decode cX0_init 17 = .ok (.newarray .int, 2) := of_q QX0_init_0 8 rfl
theorem dX0_init_19 : decode cX0_init 19 = .ok (.putfield 15, 3) := of_q QX0_init_0 9 rfl
theorem dX0_init_22 : decode cX0_init 22 = .ok (.aload_n 0, 1) := of_q QX0_init_0 10 rfl
theorem dX0_init_23 : decode cX0_init 23 = .ok (.sipush 300, 3) := of_q QX0_init_0 11 rfl
theorem dX0_init_26 : decode cX0_init 26 = .ok (.newarray .int, 2) := of_q QX0_init_0 12 rfl
theorem dX0_init_28 : decode cX0_init 28 = .ok (.putfield 18, 3) := of_q QX0_init_0 13 rfl
theorem dX0_init_31 : decode cX0_init 31 = .ok (.aload_n 0, 1) := of_q QX0_init_0 14 rfl
theorem dX0_init_32 : decode cX0_init 32 = .ok (.iconst 0, 1) := of_q QX0_init_0 15 rfl
theorem dX0_init_33 : decode cX0_init 33 = .ok (.putfield 21, 3) := of_q QX0_init_0 16 rfl
theorem dX0_init_36 : decode cX0_init 36 = .ok (.aload_n 0, 1) := of_q QX0_init_0 17 rfl
theorem dX0_init_37 : decode cX0_init 37 = .ok (.iconst 0, 1) := of_q QX0_init_0 18 rfl
theorem dX0_init_38 : decode cX0_init 38 = .ok (.putfield 25, 3) := of_q QX0_init_0 19 rfl
theorem dX0_init_41 : decode cX0_init 41 = .ok (.return_, 1) := of_q QX0_init_0 20 rfl
def qX0_add_0 : List (Nat × Instr × Nat) := [(0, .aload_n 0, 1), (1, .getfield 21, 3), (4, .sipush 300, 3), (7, .if_icmp .lt 6, 3), (10, .bipush (-4), 2), (12, .ireturn, 1), (13, .aload_n 0, 1), (14, .getfield 9, 3), (17, .aload_n 0, 1), (18, .getfield 21, 3), (21, .iload_n 1, 1), (22, .iastore, 1), (23, .aload_n 0, 1), (24, .dup, 1), (25, .getfield 21, 3), (28, .iconst 1, 1), (29, .iadd, 1), (30, .putfield 21, 3), (33, .aload_n 0, 1), (34, .getfield 21, 3), (37, .ireturn, 1)]
theorem QX0_add_0 : qX0_add_0.all (fun q => decide (decode cX0_add q.1 = .ok q.2)) = true := by decide +kernel
theorem dX0_add_0 : decode cX0_add 0 = .ok (.aload_n 0, 1) := of_q QX0_add_0 0 rfl
theorem dX0_add_1 : decode cX0_add 1 = .ok (.getfield 21, 3) := of_q QX0_add_0 1 rfl
theorem dX0_add_4 : decode cX0_add 4 = .ok (.sipush 300, 3) := of_q QX0_add_0 2 rfl
theorem dX0_add_7 : decode cX0_add 7 = .ok (.if_icmp .lt 6, 3) := of_q QX0_add_0 3 rfl
theorem dX0_add_10 : decode cX0_add 10 = .ok (.bipush (-4), 2) := of_q QX0_add_0 4 rfl
theorem dX0_add_12 : decode cX0_add 12 = .ok (.ireturn, 1) := of_q QX0_add_0 5 rfl
theorem dX0_add_13 : decode cX0_add 13 = .ok (.aload_n 0, 1) := of_q QX0_add_0 6 rfl
theorem dX0_add_14 : decode cX0_add 14 = .ok (.getfield 9, 3) := of_q QX0_add_0 7 rfl
theorem dX0_add_17 : decode cX0_add 17 = .ok (.aload_n 0, 1) := of_q QX0_add_0 8 rfl
theorem dX0_add_18 : decode cX0_add 18 = .ok (.getfield 21, 3) := of_q QX0_add_0 9 rfl
theorem dX0_add_21 : decode cX0_add 21 = .ok (.iload_n 1, 1) := of_q QX0_add_0 10 rfl
theorem dX0_add_22 : decode cX0_add 22 = .ok (.iastore, 1) := of_q QX0_add_0 11 rfl
theorem dX0_add_23 : decode cX0_add 23 = .ok (.aload_n 0, 1) := of_q QX0_add_0 12 rfl
theorem dX0_add_24 : decode cX0_add 24 = .ok (.dup, 1) := of_q QX0_add_0 13 rfl
theorem dX0_add_25 : decode cX0_add 25 = .ok (.getfield 21, 3) := of_q QX0_add_0 14 rfl
theorem dX0_add_28 : decode cX0_add 28 = .ok (.iconst 1, 1) := of_q QX0_add_0 15 rfl
theorem dX0_add_29 : decode cX0_add 29 = .ok (.iadd, 1) := of_q QX0_add_0 16 rfl
theorem dX0_add_30 : decode cX0_add 30 = .ok (.putfield 21, 3) := of_q QX0_add_0 17 rfl
theorem dX0_add_33 : decode cX0_add 33 = .ok (.aload_n 0, 1) := of_q QX0_add_0 18 rfl
theorem dX0_add_34 : decode cX0_add 34 = .ok (.getfield 21, 3) := of_q QX0_add_0 19 rfl
theorem dX0_add_37 : decode cX0_add 37 = .ok (.ireturn, 1) := of_q QX0_add_0 20 rfl
def qX0_clear_0 : List (Nat × Instr × Nat) := [(0, .aload_n 0, 1), (1, .getfield 21, 3), (4, .istore_n 1, 1), (5, .aload_n 0, 1), (6, .iconst 0, 1), (7, .putfield 21, 3), (10, .iload_n 1, 1), (11, .ireturn, 1)]
theorem QX0_clear_0 : qX0_clear_0.all (fun q => decide (decode cX0_clear q.1 = .ok q.2)) = true := by decide +kernel
theorem dX0_clear_0 : decode cX0_clear 0 = .ok (.aload_n 0, 1) := of_q QX0_clear_0 0 rfl
theorem dX0_clear_1 : decode cX0_clear 1 = .ok (.getfield 21, 3) := of_q QX0_clear_0 1 rfl
theorem dX0_clear_4 : decode cX0_clear 4 = .ok (.istore_n 1, 1) := of_q QX0_clear_0 2 rfl
theorem dX0_clear_5 : decode cX0_clear 5 = .ok (.aload_n 0, 1) := of_q QX0_clear_0 3 rfl
theorem dX0_clear_6 : decode cX0_clear 6 = .ok (.iconst 0, 1) := of_q QX0_clear_0 4 rfl
theorem dX0_clear_7 : decode cX0_clear 7 = .ok (.putfield 21, 3) := of_q QX0_clear_0 5 rfl
theorem dX0_clear_10 : decode cX0_clear 10 = .ok (.iload_n 1, 1) := of_q QX0_clear_0 6 rfl
theorem dX0_clear_11 : decode cX0_clear 11 = .ok (.ireturn, 1) := of_q QX0_clear_0 7 rfl
def qX0_wander_0 : List (Nat × Instr × Nat) := [(0, .aload_n 0, 1), (1, .getfield 9, 3), (4, .iload_n 2, 1), (5, .aload_n 0, 1), (6, .getfield 15, 3), (9, .iconst 0, 1), (10, .iload_n 1, 1), (11, .invokestatic 28, 3), (14, .aload_n 0, 1), (15, .iload_n 1, 1), (16, .putfield 25, 3), (19, .iconst 0, 1), (20, .istore 5, 2), (22, .iload 5, 2), (24, .iload_n 3, 1), (25, .if_icmp .ge 65, 3), (28, .aload_n 0, 1), (29, .iload_n 1, 1), (30, .invokevirtual 34, 3), (33, .istore 6, 2), (35, .iload 6, 2), (37, .ifCond .ne 7, 3), (40, .iload_n 2, 1), (41, .goto 15, 3), (44, .aload_n 0, 1), (45, .getfield 18, 3), (48, .aload 4, 2), (50, .iload 6, 2), (52, .invokevirtual 38, 3), (55, .iaload, 1), (56, .istore 7, 2), (58, .aload_n 0, 1), (59, .getfield 15, 3), (62, .aload_n 0, 1), (63, .getfield 25, 3), (66, .aload_n 0, 1), (67, .getfield 9, 3), (70, .iload 7, 2), (72, .iaload, 1), (73, .iastore, 1), (74, .aload_n 0, 1), (75, .dup, 1), (76, .getfield 25, 3), (79, .iconst 1, 1), (80, .iadd, 1), (81, .putfield 25, 3), (84, .iinc 5 1, 3), (87, .goto (-65), 3), (90, .aload_n 0, 1), (91, .getfield 25, 3), (94, .ireturn, 1)]
theorem QX0_wander_0 : qX0_wander_0.all (fun q => decide (decode cX0_wander q.1 = .ok q.2)) = true := by decide +kernel
theorem dX0_wander_0 : decode cX0_wander 0 = .ok (.aload_n 0, 1) := of_q QX0_wander_0 0 rfl
theorem dX0_wander_1 : decode cX0_wander 1 = .ok (.getfield 9, 3) := of_q QX0_wander_0 1 rfl
theorem dX0_wander_4 : decode cX0_wander 4 = .ok (.iload_n 2, 1) := of_q QX0_wander_0 2 rfl
theorem dX0_wander_5 : decode cX0_wander 5 = .ok (.aload_n 0, 1) := of_q QX0_wander_0 3 rfl
theorem dX0_wander_6 : decode cX0_wander 6 = .ok (.getfield 15, 3) := of_q QX0_wander_0 4 rfl
theorem dX0_wander_9 : decode cX0_wander 9 = .ok (.iconst 0, 1) := of_q QX0_wander_0 5 rfl
theorem dX0_wander_10 : decode cX0_wander 10 = .ok (.iload_n 1, 1) := of_q QX0_wander_0 6 rfl
theorem dX0_wander_11 : decode cX0_wander 11 = .ok (.invokestatic 28, 3) := of_q QX0_wander_0 7 rfl
theorem dX0_wander_14 : decode cX0_wander 14 = .ok (.aload_n 0, 1) := of_q QX0_wander_0 8 rfl
theorem dX0_wander_15 : decode cX0_wander 15 = .ok (.iload_n 1, 1) := of_q QX0_wander_0 9 rfl
theorem dX0_wander_16 : decode cX0_wander 16 = .ok (.putfield 25, 3) := of_q QX0_wander_0 10 rfl
theorem dX0_wander_19 : decode cX0_wander 19 = .ok (.iconst 0, 1) := of_q QX0_wander_0 11 rfl
theorem dX0_wander_20 : decode cX0_wander 20 = .ok (.istore 5, 2) := of_q QX0_wander_0 12 rfl
theorem dX0_wander_22 : decode cX0_wander 22 = .ok (.iload 5, 2) := of_q QX0_wander_0 13 rfl
theorem dX0_wander_24 : decode cX0_wander 24 = .ok (.iload_n 3, 1) := of_q QX0_wander_0 14 rfl
theorem dX0_wander_25 : decode cX0_wander 25 = .ok (.if_icmp .ge 65, 3) := of_q QX0_wander_0 15 rfl
theorem dX0_wander_28 : decode cX0_wander 28 = .ok (.aload_n 0, 1) := of_q QX0_wander_0 16 rfl
theorem dX0_wander_29 : decode cX0_wander 29 = .ok (.iload_n 1, 1) := of_q QX0_wander_0 17 rfl
theorem dX0_wander_30 : decode cX0_wander 30 = .ok (.invokevirtual 34, 3) := of_q QX0_wander_0 18 rfl
theorem dX0_wander_33 : decode cX0_wander 33 = .ok (.istore 6, 2) := of_q QX0_wander_0 19 rfl
theorem dX0_wander_35 : decode cX0_wander 35 = .ok (.iload 6, 2) := of_q QX0_wander_0 20 rfl
theorem dX0_wander_37 : decode cX0_wander 37 = .ok (.ifCond .ne 7, 3) := of_q QX0_wander_0 21 rfl
theorem dX0_wander_40 : decode cX0_wander 40 = .ok (.iload_n 2, 1) := of_q QX0_wander_0 22 rfl
theorem dX0_wander_41 : decode cX0_wander 41 = .ok (.goto 15, 3) := of_q QX0_wander_0 23 rfl
theorem dX0_wander_44 : decode cX0_wander 44 = .ok (.aload_n 0, 1) := of_q QX0_wander_0 24 rfl
theorem dX0_wander_45 : decode cX0_wander 45 = .ok (.getfield 18, 3) := of_q QX0_wander_0 25 rfl
theorem dX0_wander_48 : decode cX0_wander 48 = .ok (.aload 4, 2) := of_q QX0_wander_0 26 rfl
theorem dX0_wander_50 : decode cX0_wander 50 = .ok (.iload 6, 2) := of_q QX0_wander_0 27 rfl
theorem dX0_wander_52 : decode cX0_wander 52 = .ok (.invokevirtual 38, 3) := of_q QX0_wander_0 28 rfl
theorem dX0_wander_55 : decode cX0_wander 55 = .ok (.iaload, 1) := of_q QX0_wander_0 29 rfl
theorem dX0_wander_56 : decode cX0_wander 56 = .ok (.istore 7, 2) := of_q QX0_wander_0 30 rfl
theorem dX0_wander_58 : decode cX0_wander 58 = .ok (.aload_n 0, 1) := of_q QX0_wander_0 31 rfl
theorem dX0_wander_59 : decode cX0_wander 59 = .ok (.getfield 15, 3) := of_q QX0_wander_0 32 rfl
theorem dX0_wander_62 : decode cX0_wander 62 = .ok (.aload_n 0, 1) := of_q QX0_wander_0 33 rfl
theorem dX0_wander_63 : decode cX0_wander 63 = .ok (.getfield 25, 3) := of_q QX0_wander_0 34 rfl
theorem dX0_wander_66 : decode cX0_wander 66 = .ok (.aload_n 0, 1) := of_q QX0_wander_0 35 rfl
theorem dX0_wander_67 : decode cX0_wander 67 = .ok (.getfield 9, 3) := of_q QX0_wander_0 36 rfl
theorem dX0_wander_70 : decode cX0_wander 70 = .ok (.iload 7, 2) := of_q QX0_wander_0 37 rfl
theorem dX0_wander_72 : decode cX0_wander 72 = .ok (.iaload, 1) := of_q QX0_wander_0 38 rfl
theorem dX0_wander_73 : decode cX0_wander 73 = .ok (.iastore, 1) := of_q QX0_wander_0 39 rfl
theorem dX0_wander_74 : decode cX0_wander 74 = .ok (.aload_n 0, 1) := of_q QX0_wander_0 40 rfl
theorem dX0_wander_75 : decode cX0_wander 75 = .ok (.dup, 1) := of_q QX0_wander_0 41 rfl
theorem dX0_wander_76 : decode cX0_wander 76 = .ok (.getfield 25, 3) := of_q QX0_wander_0 42 rfl
theorem dX0_wander_79 : decode cX0_wander 79 = .ok (.iconst 1, 1) := of_q QX0_wander_0 43 rfl
theorem dX0_wander_80 : decode cX0_wander 80 = .ok (.iadd, 1) := of_q QX0_wander_0 44 rfl
theorem dX0_wander_81 : decode cX0_wander 81 = .ok (.putfield 25, 3) := of_q QX0_wander_0 45 rfl
theorem dX0_wander_84 : decode cX0_wander 84 = .ok (.iinc 5 1, 3) := of_q QX0_wander_0 46 rfl
theorem dX0_wander_87 : decode cX0_wander 87 = .ok (.goto (-65), 3) := of_q QX0_wander_0 47 rfl
theorem dX0_wander_90 : decode cX0_wander 90 = .ok (.aload_n 0, 1) := of_q QX0_wander_0 48 rfl
theorem dX0_wander_91 : decode cX0_wander 91 = .ok (.getfield 25, 3) := of_q QX0_wander_0 49 rfl
theorem dX0_wander_94 : decode cX0_wander 94 = .ok (.ireturn, 1) := of_q QX0_wander_0 50 rfl
def qX0_findFollowers_0 : List (Nat × Instr × Nat) := [(0, .iconst 0, 1), (1, .istore_n 2, 1), (2, .iload_n 1, 1), (3, .istore_n 3, 1), (4, .iload_n 3, 1), (5, .aload_n 0, 1), (6, .getfield 21, 3), (9, .if_icmp .ge 28, 3), (12, .aload_n 0, 1), (13, .iload_n 3, 1), (14, .iload_n 1, 1), (15, .invokevirtual 43, 3), (18, .ifCond .eq 13, 3), (21, .aload_n 0, 1), (22, .getfield 18, 3), (25, .iload_n 2, 1), (26, .iload_n 3, 1), (27, .iastore, 1), (28, .iinc 2 1, 3), (31, .iinc 3 1, 3), (34, .goto (-30), 3), (37, .iload_n 2, 1), (38, .ireturn, 1)]
theorem QX0_findFollowers_0 : qX0_findFollowers_0.all (fun q => decide (decode cX0_findFollowers q.1 = .ok q.2)) = true := by decide +kernel
theorem dX0_findFollowers_0 : decode cX0_findFollowers 0 = .ok (.iconst 0, 1) := of_q QX0_findFollowers_0 0 rfl
theorem dX0_findFollowers_1 : decode cX0_findFollowers 1 = .ok (.istore_n 2, 1) := of_q QX0_findFollowers_0 1 rfl
theorem dX0_findFollowers_2 : decode cX0_findFollowers 2 = .ok (.iload_n 1, 1) := of_q QX0_findFollowers_0 2 rfl
theorem dX0_findFollowers_3 : decode cX0_findFollowers 3 = .ok (.istore_n 3, 1) := of_q QX0_findFollowers_0 3 rfl
theorem dX0_findFollowers_4 : decode cX0_findFollowers 4 = .ok (.iload_n 3, 1) := of_q QX0_findFollowers_0 4 rfl
theorem dX0_findFollowers_5 : decode cX0_findFollowers 5 = .ok (.aload_n 0, 1) := of_q QX0_findFollowers_0 5 rfl
theorem dX0_findFollowers_6 : decode cX0_findFollowers 6 = .ok (.getfield 21, 3) := of_q QX0_findFollowers_0 6 rfl
theorem dX0_findFollowers_9 : decode cX0_findFollowers 9 = .ok (.if_icmp .ge 28, 3) := of_q QX0_findFollowers_0 7 rfl
theorem dX0_findFollowers_12 : decode cX0_findFollowers 12 = .ok (.aload_n 0, 1) := of_q QX0_findFollowers_0 8 rfl
theorem dX0_findFollowers_13 : decode cX0_findFollowers 13 = .ok (.iload_n 3, 1) := of_q QX0_findFollowers_0 9 rfl
theorem dX0_findFollowers_14 : decode cX0_findFollowers 14 = .ok (.iload_n 1, 1) := of_q QX0_findFollowers_0 10 rfl
theorem dX0_findFollowers_15 : decode cX0_findFollowers 15 = .ok (.invokevirtual 43, 3) := of_q QX0_findFollowers_0 11 rfl
theorem dX0_findFollowers_18 : decode cX0_findFollowers 18 = .ok (.ifCond .eq 13, 3) := of_q QX0_findFollowers_0 12 rfl
theorem dX0_findFollowers_21 : decode cX0_findFollowers 21 = .ok (.aload_n 0, 1) := of_q QX0_findFollowers_0 13 rfl
theorem dX0_findFollowers_22 : decode cX0_findFollowers 22 = .ok (.getfield 18, 3) := of_q QX0_findFollowers_0 14 rfl
theorem dX0_findFollowers_25 : decode cX0_findFollowers 25 = .ok (.iload_n 2, 1) := of_q QX0_findFollowers_0 15 rfl
theorem dX0_findFollowers_26 : decode cX0_findFollowers 26 = .ok (.iload_n 3, 1) := of_q QX0_findFollowers_0 16 rfl
theorem dX0_findFollowers_27 : decode cX0_findFollowers 27 = .ok (.iastore, 1) := of_q QX0_findFollowers_0 17 rfl
theorem dX0_findFollowers_28 : decode cX0_findFollowers 28 = .ok (.iinc 2 1, 3) := of_q QX0_findFollowers_0 18 rfl
theorem dX0_findFollowers_31 : decode cX0_findFollowers 31 = .ok (.iinc 3 1, 3) := of_q QX0_findFollowers_0 19 rfl
theorem dX0_findFollowers_34 : decode cX0_findFollowers 34 = .ok (.goto (-30), 3) := of_q QX0_findFollowers_0 20 rfl
theorem dX0_findFollowers_37 : decode cX0_findFollowers 37 = .ok (.iload_n 2, 1) := of_q QX0_findFollowers_0 21 rfl
theorem dX0_findFollowers_38 : decode cX0_findFollowers 38 = .ok (.ireturn, 1) := of_q QX0_findFollowers_0 22 rfl
def qX0_isBehindLatest_0 : List (Nat × Instr × Nat) := [(0, .iconst 1, 1), (1, .istore_n 3, 1), (2, .iload_n 3, 1), (3, .iload_n 2, 1), (4, .if_icmp .gt 33, 3), (7, .aload_n 0, 1), (8, .getfield 9, 3), (11, .iload_n 1, 1), (12, .iload_n 3, 1), (13, .isub, 1), (14, .iaload, 1), (15, .aload_n 0, 1), (16, .getfield 15, 3), (19, .aload_n 0, 1), (20, .getfield 25, 3), (23, .iload_n 3, 1), (24, .isub, 1), (25, .iaload, 1), (26, .if_icmp .eq 5, 3), (29, .iconst 0, 1), (30, .ireturn, 1), (31, .iinc 3 1, 3), (34, .goto (-32), 3), (37, .iconst 1, 1), (38, .ireturn, 1)]
theorem QX0_isBehindLatest_0 : qX0_isBehindLatest_0.all (fun q => decide (decode cX0_isBehindLatest q.1 = .ok q.2)) = true := by decide +kernel
theorem dX0_isBehindLatest_0 : decode cX0_isBehindLatest 0 = .ok (.iconst 1, 1) := of_q QX0_isBehindLatest_0 0 rfl
theorem dX0_isBehindLatest_1 : decode cX0_isBehindLatest 1 = .ok (.istore_n 3, 1) := of_q QX0_isBehindLatest_0 1 rfl
theorem dX0_isBehindLatest_2 : decode cX0_isBehindLatest 2 = .ok (.iload_n 3, 1) := of_q QX0_isBehindLatest_0 2 rfl
theorem dX0_isBehindLatest_3 : decode cX0_isBehindLatest 3 = .ok (.iload_n 2, 1) := of_q QX0_isBehindLatest_0 3 rfl
theorem dX0_isBehindLatest_4 : decode cX0_isBehindLatest 4 = .ok (.if_icmp .gt 33, 3) := of_q QX0_isBehindLatest_0 4 rfl
theorem dX0_isBehindLatest_7 : decode cX0_isBehindLatest 7 = .ok (.aload_n 0, 1) := of_q QX0_isBehindLatest_0 5 rfl
theorem dX0_isBehindLatest_8 : decode cX0_isBehindLatest 8 = .ok (.getfield 9, 3) := of_q QX0_isBehindLatest_0 6 rfl
theorem dX0_isBehindLatest_11 : decode cX0_isBehindLatest 11 = .ok (.iload_n 1, 1) := of_q QX0_isBehindLatest_0 7 rfl
theorem dX0_isBehindLatest_12 : decode cX0_isBehindLatest 12 = .ok (.iload_n 3, 1) := of_q QX0_isBehindLatest_0 8 rfl
theorem dX0_isBehindLatest_13 : decode cX0_isBehindLatest 13 = .ok (.isub, 1) := of_q QX0_isBehindLatest_0 9 rfl
theorem dX0_isBehindLatest_14 : decode cX0_isBehindLatest 14 = .ok (.iaload, 1) := of_q QX0_isBehindLatest_0 10 rfl
theorem dX0_isBehindLatest_15 : decode cX0_isBehindLatest 15 = .ok (.aload_n 0, 1) := of_q QX0_isBehindLatest_0 11 rfl
theorem dX0_isBehindLatest_16 : decode cX0_isBehindLatest 16 = .ok (.getfield 15, 3) := of_q QX0_isBehindLatest_0 12 rfl
theorem dX0_isBehindLatest_19 : decode cX0_isBehindLatest 19 = .ok (.aload_n 0, 1) := of_q QX0_isBehindLatest_0 13 rfl
theorem dX0_isBehindLatest_20 : decode cX0_isBehindLatest 20 = .ok (.getfield 25, 3) := of_q QX0_isBehindLatest_0 14 rfl
theorem dX0_isBehindLatest_23 : decode cX0_isBehindLatest 23 = .ok (.iload_n 3, 1) := of_q QX0_isBehindLatest_0 15 rfl
theorem dX0_isBehindLatest_24 : decode cX0_isBehindLatest 24 = .ok (.isub, 1) := of_q QX0_isBehindLatest_0 16 rfl
theorem dX0_isBehindLatest_25 : decode cX0_isBehindLatest 25 = .ok (.iaload, 1) := of_q QX0_isBehindLatest_0 17 rfl
theorem dX0_isBehindLatest_26 : decode cX0_isBehindLatest 26 = .ok (.if_icmp .eq 5, 3) := of_q QX0_isBehindLatest_0 18 rfl
theorem dX0_isBehindLatest_29 : decode cX0_isBehindLatest 29 = .ok (.iconst 0, 1) := of_q QX0_isBehindLatest_0 19 rfl
theorem dX0_isBehindLatest_30 : decode cX0_isBehindLatest 30 = .ok (.ireturn, 1) := of_q QX0_isBehindLatest_0 20 rfl
theorem dX0_isBehindLatest_31 : decode cX0_isBehindLatest 31 = .ok (.iinc 3 1, 3) := of_q QX0_isBehindLatest_0 21 rfl
theorem dX0_isBehindLatest_34 : decode cX0_isBehindLatest 34 = .ok (.goto (-32), 3) := of_q QX0_isBehindLatest_0 22 rfl
theorem dX0_isBehindLatest_37 : decode cX0_isBehindLatest 37 = .ok (.iconst 1, 1) := of_q QX0_isBehindLatest_0 23 rfl
theorem dX0_isBehindLatest_38 : decode cX0_isBehindLatest 38 = .ok (.ireturn, 1) := of_q QX0_isBehindLatest_0 24 rfl
def qX1_init_0 : List (Nat × Instr × Nat) := [(0, .aload_n 0, 1), (1, .invokespecial 1, 3), (4, .aload_n 0, 1), (5, .lload_n 1, 1), (6, .putfield 7, 3), (9, .return_, 1)]
theorem QX1_init_0 : qX1_init_0.all (fun q => decide (decode cX1_init q.1 = .ok q.2)) = true := by decide +kernel
theorem dX1_init_0 : decode cX1_init 0 = .ok (.aload_n 0, 1) := of_q QX1_init_0 0 rfl
theorem dX1_init_1 : decode cX1_init 1 = .ok (.invokespecial 1, 3) := of_q QX1_init_0 1 rfl
theorem dX1_init_4 : decode cX1_init 4 = .ok (.aload_n 0, 1) := of_q QX1_init_0 2 rfl
theorem dX1_init_5 : decode cX1_init 5 = .ok (.lload_n 1, 1) := of_q QX1_init_0 3 rfl
theorem dX1_init_6 : decode cX1_init 6 = .ok (.putfield 7, 3) := of_q QX1_init_0 4 rfl
theorem dX1_init_9 : decode cX1_init 9 = .ok (.return_, 1) := of_q QX1_init_0 5 rfl
def qX1_draw_0 : List (Nat × Instr × Nat) := [(0, .aload_n 0, 1), (1, .dup, 1), (2, .getfield 7, 3), (5, .ldc2_w 13, 3), (8, .ladd, 1), (9, .putfield 7, 3), (12, .aload_n 0, 1), (13, .getfield 7, 3), (16, .lstore_n 1, 1), (17, .lload_n 1, 1), (18, .lload_n 1, 1), (19, .bipush 30, 2), (21, .lushr, 1), (22, .lxor, 1), (23, .ldc2_w 15, 3), (26, .lmul, 1), (27, .lstore_n 1, 1), (28, .lload_n 1, 1), (29, .lload_n 1, 1), (30, .bipush 27, 2), (32, .lushr, 1), (33, .lxor, 1), (34, .ldc2_w 17, 3), (37, .lmul, 1), (38, .lstore_n 1, 1), (39, .lload_n 1, 1), (40, .lload_n 1, 1), (41, .bipush 31, 2), (43, .lushr, 1), (44, .lxor, 1), (45, .iconst 1, 1), (46, .lushr, 1), (47, .lreturn, 1)]
theorem QX1_draw_0 : qX1_draw_0.all (fun q => decide (decode cX1_draw q.1 = .ok q.2)) = true := by decide +kernel
theorem dX1_draw_0 : decode cX1_draw 0 = .ok (.aload_n 0, 1) := of_q QX1_draw_0 0 rfl
theorem dX1_draw_1 : decode cX1_draw 1 = .ok (.dup, 1) := of_q QX1_draw_0 1 rfl
theorem dX1_draw_2 : decode cX1_draw 2 = .ok (.getfield 7, 3) := of_q QX1_draw_0 2 rfl
theorem dX1_draw_5 : decode cX1_draw 5 = .ok (.ldc2_w 13, 3) := of_q QX1_draw_0 3 rfl
theorem dX1_draw_8 : decode cX1_draw 8 = .ok (.ladd, 1) := of_q QX1_draw_0 4 rfl
theorem dX1_draw_9 : decode cX1_draw 9 = .ok (.putfield 7, 3) := of_q QX1_draw_0 5 rfl
theorem dX1_draw_12 : decode cX1_draw 12 = .ok (.aload_n 0, 1) := of_q QX1_draw_0 6 rfl
theorem dX1_draw_13 : decode cX1_draw 13 = .ok (.getfield 7, 3) := of_q QX1_draw_0 7 rfl
theorem dX1_draw_16 : decode cX1_draw 16 = .ok (.lstore_n 1, 1) := of_q QX1_draw_0 8 rfl
theorem dX1_draw_17 : decode cX1_draw 17 = .ok (.lload_n 1, 1) := of_q QX1_draw_0 9 rfl
theorem dX1_draw_18 : decode cX1_draw 18 = .ok (.lload_n 1, 1) := of_q QX1_draw_0 10 rfl
theorem dX1_draw_19 : decode cX1_draw 19 = .ok (.bipush 30, 2) := of_q QX1_draw_0 11 rfl
theorem dX1_draw_21 : decode cX1_draw 21 = .ok (.lushr, 1) := of_q QX1_draw_0 12 rfl
theorem dX1_draw_22 : decode cX1_draw 22 = .ok (.lxor, 1) := of_q QX1_draw_0 13 rfl
theorem dX1_draw_23 : decode cX1_draw 23 = .ok (.ldc2_w 15, 3) := of_q QX1_draw_0 14 rfl
theorem dX1_draw_26 : decode cX1_draw 26 = .ok (.lmul, 1) := of_q QX1_draw_0 15 rfl
theorem dX1_draw_27 : decode cX1_draw 27 = .ok (.lstore_n 1, 1) := of_q QX1_draw_0 16 rfl
theorem dX1_draw_28 : decode cX1_draw 28 = .ok (.lload_n 1, 1) := of_q QX1_draw_0 17 rfl
theorem dX1_draw_29 : decode cX1_draw 29 = .ok (.lload_n 1, 1) := of_q QX1_draw_0 18 rfl
theorem dX1_draw_30 : decode cX1_draw 30 = .ok (.bipush 27, 2) := of_q QX1_draw_0 19 rfl
theorem dX1_draw_32 : decode cX1_draw 32 = .ok (.lushr, 1) := of_q QX1_draw_0 20 rfl
theorem dX1_draw_33 : decode cX1_draw 33 = .ok (.lxor, 1) := of_q QX1_draw_0 21 rfl
theorem dX1_draw_34 : decode cX1_draw 34 = .ok (.ldc2_w 17, 3) := of_q QX1_draw_0 22 rfl
theorem dX1_draw_37 : decode cX1_draw 37 = .ok (.lmul, 1) := of_q QX1_draw_0 23 rfl
theorem dX1_draw_38 : decode cX1_draw 38 = .ok (.lstore_n 1, 1) := of_q QX1_draw_0 24 rfl
theorem dX1_draw_39 : decode cX1_draw 39 = .ok (.lload_n 1, 1) := of_q QX1_draw_0 25 rfl
theorem dX1_draw_40 : decode cX1_draw 40 = .ok (.lload_n 1, 1) := of_q QX1_draw_0 26 rfl
theorem dX1_draw_41 : decode cX1_draw 41 = .ok (.bipush 31, 2) := of_q QX1_draw_0 27 rfl
theorem dX1_draw_43 : decode cX1_draw 43 = .ok (.lushr, 1) := of_q QX1_draw_0 28 rfl
theorem dX1_draw_44 : decode cX1_draw 44 = .ok (.lxor, 1) := of_q QX1_draw_0 29 rfl
theorem dX1_draw_45 : decode cX1_draw 45 = .ok (.iconst 1, 1) := of_q QX1_draw_0 30 rfl
theorem dX1_draw_46 : decode cX1_draw 46 = .ok (.lushr, 1) := of_q QX1_draw_0 31 rfl
theorem dX1_draw_47 : decode cX1_draw 47 = .ok (.lreturn, 1) := of_q QX1_draw_0 32 rfl
def qX1_drawUnder_0 : List (Nat × Instr × Nat) := [(0, .iload_n 1, 1), (1, .iconst 1, 1), (2, .if_icmp .ge 5, 3), (5, .iconst 0, 1), (6, .ireturn, 1), (7, .ldc2_w 19, 3), (10, .iload_n 1, 1), (11, .i2l, 1), (12, .lrem, 1), (13, .lconst 1, 1), (14, .ladd, 1), (15, .iload_n 1, 1), (16, .i2l, 1), (17, .lrem, 1), (18, .lstore_n 2, 1), (19, .ldc2_w 19, 3), (22, .lload_n 2, 1), (23, .lsub, 1), (24, .lstore 4, 2), (26, .iconst 0, 1), (27, .istore 6, 2), (29, .iload 6, 2), (31, .ldc 21, 2), (33, .if_icmp .ge 30, 3), (36, .aload_n 0, 1), (37, .invokevirtual 22, 3), (40, .lstore 7, 2), (42, .lload 7, 2), (44, .lload 4, 2), (46, .lcmp, 1), (47, .ifCond .gt 10, 3), (50, .lload 7, 2), (52, .iload_n 1, 1), (53, .i2l, 1), (54, .lrem, 1), (55, .l2i, 1), (56, .ireturn, 1), (57, .iinc 6 1, 3), (60, .goto (-31), 3), (63, .iconst 0, 1), (64, .ireturn, 1)]
theorem QX1_drawUnder_0 : qX1_drawUnder_0.all (fun q => decide (decode cX1_drawUnder q.1 = .ok q.2)) = true := by decide +kernel
theorem dX1_drawUnder_0 : decode cX1_drawUnder 0 = .ok (.iload_n 1, 1) := of_q QX1_drawUnder_0 0 rfl
theorem dX1_drawUnder_1 : decode cX1_drawUnder 1 = .ok (.iconst 1, 1) := of_q QX1_drawUnder_0 1 rfl
theorem dX1_drawUnder_2 : decode cX1_drawUnder 2 = .ok (.if_icmp .ge 5, 3) := of_q QX1_drawUnder_0 2 rfl
theorem dX1_drawUnder_5 : decode cX1_drawUnder 5 = .ok (.iconst 0, 1) := of_q QX1_drawUnder_0 3 rfl
theorem dX1_drawUnder_6 : decode cX1_drawUnder 6 = .ok (.ireturn, 1) := of_q QX1_drawUnder_0 4 rfl
theorem dX1_drawUnder_7 : decode cX1_drawUnder 7 = .ok (.ldc2_w 19, 3) := of_q QX1_drawUnder_0 5 rfl
theorem dX1_drawUnder_10 : decode cX1_drawUnder 10 = .ok (.iload_n 1, 1) := of_q QX1_drawUnder_0 6 rfl
theorem dX1_drawUnder_11 : decode cX1_drawUnder 11 = .ok (.i2l, 1) := of_q QX1_drawUnder_0 7 rfl
theorem dX1_drawUnder_12 : decode cX1_drawUnder 12 = .ok (.lrem, 1) := of_q QX1_drawUnder_0 8 rfl
theorem dX1_drawUnder_13 : decode cX1_drawUnder 13 = .ok (.lconst 1, 1) := of_q QX1_drawUnder_0 9 rfl
theorem dX1_drawUnder_14 : decode cX1_drawUnder 14 = .ok (.ladd, 1) := of_q QX1_drawUnder_0 10 rfl
theorem dX1_drawUnder_15 : decode cX1_drawUnder 15 = .ok (.iload_n 1, 1) := of_q QX1_drawUnder_0 11 rfl
theorem dX1_drawUnder_16 : decode cX1_drawUnder 16 = .ok (.i2l, 1) := of_q QX1_drawUnder_0 12 rfl
theorem dX1_drawUnder_17 : decode cX1_drawUnder 17 = .ok (.lrem, 1) := of_q QX1_drawUnder_0 13 rfl
theorem dX1_drawUnder_18 : decode cX1_drawUnder 18 = .ok (.lstore_n 2, 1) := of_q QX1_drawUnder_0 14 rfl
theorem dX1_drawUnder_19 : decode cX1_drawUnder 19 = .ok (.ldc2_w 19, 3) := of_q QX1_drawUnder_0 15 rfl
theorem dX1_drawUnder_22 : decode cX1_drawUnder 22 = .ok (.lload_n 2, 1) := of_q QX1_drawUnder_0 16 rfl
theorem dX1_drawUnder_23 : decode cX1_drawUnder 23 = .ok (.lsub, 1) := of_q QX1_drawUnder_0 17 rfl
theorem dX1_drawUnder_24 : decode cX1_drawUnder 24 = .ok (.lstore 4, 2) := of_q QX1_drawUnder_0 18 rfl
theorem dX1_drawUnder_26 : decode cX1_drawUnder 26 = .ok (.iconst 0, 1) := of_q QX1_drawUnder_0 19 rfl
theorem dX1_drawUnder_27 : decode cX1_drawUnder 27 = .ok (.istore 6, 2) := of_q QX1_drawUnder_0 20 rfl
theorem dX1_drawUnder_29 : decode cX1_drawUnder 29 = .ok (.iload 6, 2) := of_q QX1_drawUnder_0 21 rfl
theorem dX1_drawUnder_31 : decode cX1_drawUnder 31 = .ok (.ldc 21, 2) := of_q QX1_drawUnder_0 22 rfl
theorem dX1_drawUnder_33 : decode cX1_drawUnder 33 = .ok (.if_icmp .ge 30, 3) := of_q QX1_drawUnder_0 23 rfl
theorem dX1_drawUnder_36 : decode cX1_drawUnder 36 = .ok (.aload_n 0, 1) := of_q QX1_drawUnder_0 24 rfl
theorem dX1_drawUnder_37 : decode cX1_drawUnder 37 = .ok (.invokevirtual 22, 3) := of_q QX1_drawUnder_0 25 rfl
theorem dX1_drawUnder_40 : decode cX1_drawUnder 40 = .ok (.lstore 7, 2) := of_q QX1_drawUnder_0 26 rfl
theorem dX1_drawUnder_42 : decode cX1_drawUnder 42 = .ok (.lload 7, 2) := of_q QX1_drawUnder_0 27 rfl
theorem dX1_drawUnder_44 : decode cX1_drawUnder 44 = .ok (.lload 4, 2) := of_q QX1_drawUnder_0 28 rfl
theorem dX1_drawUnder_46 : decode cX1_drawUnder 46 = .ok (.lcmp, 1) := of_q QX1_drawUnder_0 29 rfl
theorem dX1_drawUnder_47 : decode cX1_drawUnder 47 = .ok (.ifCond .gt 10, 3) := of_q QX1_drawUnder_0 30 rfl
theorem dX1_drawUnder_50 : decode cX1_drawUnder 50 = .ok (.lload 7, 2) := of_q QX1_drawUnder_0 31 rfl
theorem dX1_drawUnder_52 : decode cX1_drawUnder 52 = .ok (.iload_n 1, 1) := of_q QX1_drawUnder_0 32 rfl
theorem dX1_drawUnder_53 : decode cX1_drawUnder 53 = .ok (.i2l, 1) := of_q QX1_drawUnder_0 33 rfl
theorem dX1_drawUnder_54 : decode cX1_drawUnder 54 = .ok (.lrem, 1) := of_q QX1_drawUnder_0 34 rfl
theorem dX1_drawUnder_55 : decode cX1_drawUnder 55 = .ok (.l2i, 1) := of_q QX1_drawUnder_0 35 rfl
theorem dX1_drawUnder_56 : decode cX1_drawUnder 56 = .ok (.ireturn, 1) := of_q QX1_drawUnder_0 36 rfl
theorem dX1_drawUnder_57 : decode cX1_drawUnder 57 = .ok (.iinc 6 1, 3) := of_q QX1_drawUnder_0 37 rfl
theorem dX1_drawUnder_60 : decode cX1_drawUnder 60 = .ok (.goto (-31), 3) := of_q QX1_drawUnder_0 38 rfl
theorem dX1_drawUnder_63 : decode cX1_drawUnder 63 = .ok (.iconst 0, 1) := of_q QX1_drawUnder_0 39 rfl
theorem dX1_drawUnder_64 : decode cX1_drawUnder 64 = .ok (.ireturn, 1) := of_q QX1_drawUnder_0 40 rfl
def qX2_init_0 : List (Nat × Instr × Nat) := [(0, .aload_n 0, 1), (1, .invokespecial 3, 3), (4, .aload_n 0, 1), (5, .bipush 26, 2), (7, .newarray .int, 2), (9, .putfield 9, 3), (12, .aload_n 0, 1), (13, .bipush 26, 2), (15, .newarray .int, 2), (17, .putfield 15, 3), (20, .aload_n 0, 1), (21, .bipush 26, 2), (23, .newarray .int, 2), (25, .putfield 18, 3), (28, .aload_n 0, 1), (29, .bipush 26, 2), (31, .newarray .int, 2), (33, .putfield 21, 3), (36, .aload_n 0, 1), (37, .bipush 48, 2), (39, .newarray .int, 2), (41, .putfield 24, 3), (44, .aload_n 0, 1), (45, .bipush 48, 2), (47, .newarray .int, 2), (49, .putfield 27, 3), (52, .aload_n 0, 1), (53, .bipush 48, 2), (55, .newarray .int, 2), (57, .putfield 30, 3), (60, .aload_n 0, 1), (61, .sipush 240, 3), (64, .newarray .int, 2), (66, .putfield 33, 3), (69, .aload_n 0, 1), (70, .sipush 240, 3), (73, .newarray .int, 2), (75, .putfield 36, 3), (78, .aload_n 0, 1), (79, .sipush 240, 3), (82, .newarray .int, 2), (84, .putfield 39, 3), (87, .aload_n 0, 1), (88, .sipush 240, 3), (91, .newarray .int, 2), (93, .putfield 42, 3), (96, .aload_n 0, 1), (97, .iconst 0, 1), (98, .putfield 45, 3), (101, .aload_n 0, 1), (102, .iconst 0, 1), (103, .putfield 49, 3), (106, .aload_n 0, 1), (107, .iconst 0, 1), (108, .putfield 52, 3), (111, .aload_n 0, 1), (112, .iconst 0, 1), (113, .putfield 55, 3), (116, .aload_n 0, 1), (117, .iconst 0, 1)]
theorem QX2_init_0 : qX2_init_0.all (fun q => decide (decode cX2_init q.1 = .ok q.2)) = true := by decide +kernel
theorem dX2_init_0 : decode cX2_init 0 = .ok (.aload_n 0, 1) := of_q QX2_init_0 0 rfl
theorem dX2_init_1 : decode cX2_init 1 = .ok (.invokespecial 3, 3) := of_q QX2_init_0 1 rfl
theorem dX2_init_4 : decode cX2_init 4 = .ok (.aload_n 0, 1) := of_q QX2_init_0 2 rfl
theorem dX2_init_5 : decode cX2_init 5 = .ok (.bipush 26, 2) := of_q QX2_init_0 3 rfl
theorem dX2_init_7 : decode cX2_init 7 = .ok (.newarray .int, 2) := of_q QX2_init_0 4 rfl
theorem dX2_init_9 : decode cX2_init 9 = .ok (.putfield 9, 3) := of_q QX2_init_0 5 rfl
theorem dX2_init_12 : decode cX2_init 12 = .ok (.aload_n 0, 1) := of_q QX2_init_0 6 rfl
theorem dX2_init_13 : decode cX2_init 13 = .ok (.bipush 26, 2) := of_q QX2_init_0 7 rfl
theorem dX2_init_15 : decode cX2_init 15 = .ok (.newarray .int, 2) := of_q QX2_init_0 8 rfl
theorem dX2_init_17 : decode cX2_init 17 = .ok (.putfield 15, 3) := of_q QX2_init_0 9 rfl
theorem dX2_init_20 : decode cX2_init 20 = .ok (.aload_n 0, 1) := of_q QX2_init_0 10 rfl
theorem dX2_init_21 : decode cX2_init 21 = .ok (.bipush 26, 2) := of_q QX2_init_0 11 rfl
theorem dX2_init_23 : decode cX2_init 23 = .ok (.newarray .int, 2) := of_q QX2_init_0 12 rfl
theorem dX2_init_25 : decode cX2_init 25 = .ok (.putfield 18, 3) := of_q QX2_init_0 13 rfl
theorem dX2_init_28 : decode cX2_init 28 = .ok (.aload_n 0, 1) := of_q QX2_init_0 14 rfl
theorem dX2_init_29 : decode cX2_init 29 = .ok (.bipush 26, 2) := of_q QX2_init_0 15 rfl
theorem dX2_init_31 : decode cX2_init 31 = .ok (.newarray .int, 2) := of_q QX2_init_0 16 rfl
theorem dX2_init_33 : decode cX2_init 33 = .ok (.putfield 21, 3) := of_q QX2_init_0 17 rfl
theorem dX2_init_36 : decode cX2_init 36 = .ok (.aload_n 0, 1) := of_q QX2_init_0 18 rfl
theorem dX2_init_37 : decode cX2_init 37 = .ok (.bipush 48, 2) := of_q QX2_init_0 19 rfl
theorem dX2_init_39 : decode cX2_init 39 = .ok (.newarray .int, 2) := of_q QX2_init_0 20 rfl
theorem dX2_init_41 : decode cX2_init 41 = .ok (.putfield 24, 3) := of_q QX2_init_0 21 rfl
theorem dX2_init_44 : decode cX2_init 44 = .ok (.aload_n 0, 1) := of_q QX2_init_0 22 rfl
theorem dX2_init_45 : decode cX2_init 45 = .ok (.bipush 48, 2) := of_q QX2_init_0 23 rfl
theorem dX2_init_47 : decode cX2_init 47 = .ok (.newarray .int, 2) := of_q QX2_init_0 24 rfl
theorem dX2_init_49 : decode cX2_init 49 = .ok (.putfield 27, 3) := of_q QX2_init_0 25 rfl
theorem dX2_init_52 : decode cX2_init 52 = .ok (.aload_n 0, 1) := of_q QX2_init_0 26 rfl
theorem dX2_init_53 : decode cX2_init 53 = .ok (.bipush 48, 2) := of_q QX2_init_0 27 rfl
theorem dX2_init_55 : decode cX2_init 55 = .ok (.newarray .int, 2) := of_q QX2_init_0 28 rfl
theorem dX2_init_57 : decode cX2_init 57 = .ok (.putfield 30, 3) := of_q QX2_init_0 29 rfl
theorem dX2_init_60 : decode cX2_init 60 = .ok (.aload_n 0, 1) := of_q QX2_init_0 30 rfl
theorem dX2_init_61 : decode cX2_init 61 = .ok (.sipush 240, 3) := of_q QX2_init_0 31 rfl
theorem dX2_init_64 : decode cX2_init 64 = .ok (.newarray .int, 2) := of_q QX2_init_0 32 rfl
theorem dX2_init_66 : decode cX2_init 66 = .ok (.putfield 33, 3) := of_q QX2_init_0 33 rfl
theorem dX2_init_69 : decode cX2_init 69 = .ok (.aload_n 0, 1) := of_q QX2_init_0 34 rfl
theorem dX2_init_70 : decode cX2_init 70 = .ok (.sipush 240, 3) := of_q QX2_init_0 35 rfl
theorem dX2_init_73 : decode cX2_init 73 = .ok (.newarray .int, 2) := of_q QX2_init_0 36 rfl
theorem dX2_init_75 : decode cX2_init 75 = .ok (.putfield 36, 3) := of_q QX2_init_0 37 rfl
theorem dX2_init_78 : decode cX2_init 78 = .ok (.aload_n 0, 1) := of_q QX2_init_0 38 rfl
theorem dX2_init_79 : decode cX2_init 79 = .ok (.sipush 240, 3) := of_q QX2_init_0 39 rfl
theorem dX2_init_82 : decode cX2_init 82 = .ok (.newarray .int, 2) := of_q QX2_init_0 40 rfl
theorem dX2_init_84 : decode cX2_init 84 = .ok (.putfield 39, 3) := of_q QX2_init_0 41 rfl
theorem dX2_init_87 : decode cX2_init 87 = .ok (.aload_n 0, 1) := of_q QX2_init_0 42 rfl
theorem dX2_init_88 : decode cX2_init 88 = .ok (.sipush 240, 3) := of_q QX2_init_0 43 rfl
theorem dX2_init_91 : decode cX2_init 91 = .ok (.newarray .int, 2) := of_q QX2_init_0 44 rfl
theorem dX2_init_93 : decode cX2_init 93 = .ok (.putfield 42, 3) := of_q QX2_init_0 45 rfl
theorem dX2_init_96 : decode cX2_init 96 = .ok (.aload_n 0, 1) := of_q QX2_init_0 46 rfl
theorem dX2_init_97 : decode cX2_init 97 = .ok (.iconst 0, 1) := of_q QX2_init_0 47 rfl
theorem dX2_init_98 : decode cX2_init 98 = .ok (.putfield 45, 3) := of_q QX2_init_0 48 rfl
theorem dX2_init_101 : decode cX2_init 101 = .ok (.aload_n 0, 1) := of_q QX2_init_0 49 rfl
theorem dX2_init_102 : decode cX2_init 102 = .ok (.iconst 0, 1) := of_q QX2_init_0 50 rfl
theorem dX2_init_103 : decode cX2_init 103 = .ok (.putfield 49, 3) := of_q QX2_init_0 51 rfl
theorem dX2_init_106 : decode cX2_init 106 = .ok (.aload_n 0, 1) := of_q QX2_init_0 52 rfl
theorem dX2_init_107 : decode cX2_init 107 = .ok (.iconst 0, 1) := of_q QX2_init_0 53 rfl
theorem dX2_init_108 : decode cX2_init 108 = .ok (.putfield 52, 3) := of_q QX2_init_0 54 rfl
theorem dX2_init_111 : decode cX2_init 111 = .ok (.aload_n 0, 1) := of_q QX2_init_0 55 rfl
theorem dX2_init_112 : decode cX2_init 112 = .ok (.iconst 0, 1) := of_q QX2_init_0 56 rfl
theorem dX2_init_113 : decode cX2_init 113 = .ok (.putfield 55, 3) := of_q QX2_init_0 57 rfl
theorem dX2_init_116 : decode cX2_init 116 = .ok (.aload_n 0, 1) := of_q QX2_init_0 58 rfl
theorem dX2_init_117 : decode cX2_init 117 = .ok (.iconst 0, 1) := of_q QX2_init_0 59 rfl
def qX2_init_1 : List (Nat × Instr × Nat) := [(118, .putfield 58, 3), (121, .return_, 1)]
theorem QX2_init_1 : qX2_init_1.all (fun q => decide (decode cX2_init q.1 = .ok q.2)) = true := by decide +kernel
theorem dX2_init_118 : decode cX2_init 118 = .ok (.putfield 58, 3) := of_q QX2_init_1 0 rfl
theorem dX2_init_121 : decode cX2_init 121 = .ok (.return_, 1) := of_q QX2_init_1 1 rfl
def qX2_clear_0 : List (Nat × Instr × Nat) := [(0, .aload_n 0, 1), (1, .iconst 0, 1), (2, .putfield 45, 3), (5, .aload_n 0, 1), (6, .iconst 0, 1), (7, .putfield 49, 3), (10, .aload_n 0, 1), (11, .iconst 0, 1), (12, .putfield 52, 3), (15, .aload_n 0, 1), (16, .getfield 15, 3), (19, .iconst 0, 1), (20, .invokestatic 61, 3), (23, .aload_n 0, 1), (24, .getfield 18, 3), (27, .iconst 0, 1), (28, .invokestatic 61, 3), (31, .aload_n 0, 1), (32, .getfield 21, 3), (35, .iconst (-1), 1), (36, .invokestatic 61, 3), (39, .return_, 1)]
theorem QX2_clear_0 : qX2_clear_0.all (fun q => decide (decode cX2_clear q.1 = .ok q.2)) = true := by decide +kernel
theorem dX2_clear_0 : decode cX2_clear 0 = .ok (.aload_n 0, 1) := of_q QX2_clear_0 0 rfl
theorem dX2_clear_1 : decode cX2_clear 1 = .ok (.iconst 0, 1) := of_q QX2_clear_0 1 rfl
theorem dX2_clear_2 : decode cX2_clear 2 = .ok (.putfield 45, 3) := of_q QX2_clear_0 2 rfl
theorem dX2_clear_5 : decode cX2_clear 5 = .ok (.aload_n 0, 1) := of_q QX2_clear_0 3 rfl
theorem dX2_clear_6 : decode cX2_clear 6 = .ok (.iconst 0, 1) := of_q QX2_clear_0 4 rfl
theorem dX2_clear_7 : decode cX2_clear 7 = .ok (.putfield 49, 3) := of_q QX2_clear_0 5 rfl
theorem dX2_clear_10 : decode cX2_clear 10 = .ok (.aload_n 0, 1) := of_q QX2_clear_0 6 rfl
theorem dX2_clear_11 : decode cX2_clear 11 = .ok (.iconst 0, 1) := of_q QX2_clear_0 7 rfl
theorem dX2_clear_12 : decode cX2_clear 12 = .ok (.putfield 52, 3) := of_q QX2_clear_0 8 rfl
theorem dX2_clear_15 : decode cX2_clear 15 = .ok (.aload_n 0, 1) := of_q QX2_clear_0 9 rfl
theorem dX2_clear_16 : decode cX2_clear 16 = .ok (.getfield 15, 3) := of_q QX2_clear_0 10 rfl
theorem dX2_clear_19 : decode cX2_clear 19 = .ok (.iconst 0, 1) := of_q QX2_clear_0 11 rfl
theorem dX2_clear_20 : decode cX2_clear 20 = .ok (.invokestatic 61, 3) := of_q QX2_clear_0 12 rfl
theorem dX2_clear_23 : decode cX2_clear 23 = .ok (.aload_n 0, 1) := of_q QX2_clear_0 13 rfl
theorem dX2_clear_24 : decode cX2_clear 24 = .ok (.getfield 18, 3) := of_q QX2_clear_0 14 rfl
theorem dX2_clear_27 : decode cX2_clear 27 = .ok (.iconst 0, 1) := of_q QX2_clear_0 15 rfl
theorem dX2_clear_28 : decode cX2_clear 28 = .ok (.invokestatic 61, 3) := of_q QX2_clear_0 16 rfl
theorem dX2_clear_31 : decode cX2_clear 31 = .ok (.aload_n 0, 1) := of_q QX2_clear_0 17 rfl
theorem dX2_clear_32 : decode cX2_clear 32 = .ok (.getfield 21, 3) := of_q QX2_clear_0 18 rfl
theorem dX2_clear_35 : decode cX2_clear 35 = .ok (.iconst (-1), 1) := of_q QX2_clear_0 19 rfl
theorem dX2_clear_36 : decode cX2_clear 36 = .ok (.invokestatic 61, 3) := of_q QX2_clear_0 20 rfl
theorem dX2_clear_39 : decode cX2_clear 39 = .ok (.return_, 1) := of_q QX2_clear_0 21 rfl
def qX2_hasRule_0 : List (Nat × Instr × Nat) := [(0, .iload_n 1, 1), (1, .iconst 0, 1), (2, .bipush 25, 2), (4, .invokestatic 67, 3), (7, .ifCond .eq 16, 3), (10, .aload_n 0, 1), (11, .getfield 15, 3), (14, .iload_n 1, 1), (15, .iaload, 1), (16, .ifCond .le 7, 3), (19, .iconst 1, 1), (20, .goto 4, 3), (23, .iconst 0, 1), (24, .ireturn, 1)]
theorem QX2_hasRule_0 : qX2_hasRule_0.all (fun q => decide (decode cX2_hasRule q.1 = .ok q.2)) = true := by decide +kernel
theorem dX2_hasRule_0 : decode cX2_hasRule 0 = .ok (.iload_n 1, 1) := of_q QX2_hasRule_0 0 rfl
theorem dX2_hasRule_1 : decode cX2_hasRule 1 = .ok (.iconst 0, 1) := of_q QX2_hasRule_0 1 rfl
theorem dX2_hasRule_2 : decode cX2_hasRule 2 = .ok (.bipush 25, 2) := of_q QX2_hasRule_0 2 rfl
theorem dX2_hasRule_4 : decode cX2_hasRule 4 = .ok (.invokestatic 67, 3) := of_q QX2_hasRule_0 3 rfl
theorem dX2_hasRule_7 : decode cX2_hasRule 7 = .ok (.ifCond .eq 16, 3) := of_q QX2_hasRule_0 4 rfl
theorem dX2_hasRule_10 : decode cX2_hasRule 10 = .ok (.aload_n 0, 1) := of_q QX2_hasRule_0 5 rfl
theorem dX2_hasRule_11 : decode cX2_hasRule 11 = .ok (.getfield 15, 3) := of_q QX2_hasRule_0 6 rfl
theorem dX2_hasRule_14 : decode cX2_hasRule 14 = .ok (.iload_n 1, 1) := of_q QX2_hasRule_0 7 rfl
theorem dX2_hasRule_15 : decode cX2_hasRule 15 = .ok (.iaload, 1) := of_q QX2_hasRule_0 8 rfl
theorem dX2_hasRule_16 : decode cX2_hasRule 16 = .ok (.ifCond .le 7, 3) := of_q QX2_hasRule_0 9 rfl
theorem dX2_hasRule_19 : decode cX2_hasRule 19 = .ok (.iconst 1, 1) := of_q QX2_hasRule_0 10 rfl
theorem dX2_hasRule_20 : decode cX2_hasRule 20 = .ok (.goto 4, 3) := of_q QX2_hasRule_0 11 rfl
theorem dX2_hasRule_23 : decode cX2_hasRule 23 = .ok (.iconst 0, 1) := of_q QX2_hasRule_0 12 rfl
theorem dX2_hasRule_24 : decode cX2_hasRule 24 = .ok (.ireturn, 1) := of_q QX2_hasRule_0 13 rfl
def qX2_canOpenRule_0 : List (Nat × Instr × Nat) := [(0, .iload_n 1, 1), (1, .iconst 0, 1), (2, .bipush 25, 2), (4, .invokestatic 67, 3), (7, .ifCond .eq 24, 3), (10, .aload_n 0, 1), (11, .iload_n 1, 1), (12, .invokevirtual 71, 3), (15, .ifCond .ne 16, 3), (18, .aload_n 0, 1), (19, .getfield 45, 3), (22, .bipush 16, 2), (24, .if_icmp .ge 7, 3), (27, .iconst 1, 1), (28, .goto 4, 3), (31, .iconst 0, 1), (32, .ireturn, 1)]
theorem QX2_canOpenRule_0 : qX2_canOpenRule_0.all (fun q => decide (decode cX2_canOpenRule q.1 = .ok q.2)) = true := by decide +kernel
theorem dX2_canOpenRule_0 : decode cX2_canOpenRule 0 = .ok (.iload_n 1, 1) := of_q QX2_canOpenRule_0 0 rfl
theorem dX2_canOpenRule_1 : decode cX2_canOpenRule 1 = .ok (.iconst 0, 1) := of_q QX2_canOpenRule_0 1 rfl
theorem dX2_canOpenRule_2 : decode cX2_canOpenRule 2 = .ok (.bipush 25, 2) := of_q QX2_canOpenRule_0 2 rfl
theorem dX2_canOpenRule_4 : decode cX2_canOpenRule 4 = .ok (.invokestatic 67, 3) := of_q QX2_canOpenRule_0 3 rfl
theorem dX2_canOpenRule_7 : decode cX2_canOpenRule 7 = .ok (.ifCond .eq 24, 3) := of_q QX2_canOpenRule_0 4 rfl
theorem dX2_canOpenRule_10 : decode cX2_canOpenRule 10 = .ok (.aload_n 0, 1) := of_q QX2_canOpenRule_0 5 rfl
theorem dX2_canOpenRule_11 : decode cX2_canOpenRule 11 = .ok (.iload_n 1, 1) := of_q QX2_canOpenRule_0 6 rfl
theorem dX2_canOpenRule_12 : decode cX2_canOpenRule 12 = .ok (.invokevirtual 71, 3) := of_q QX2_canOpenRule_0 7 rfl
theorem dX2_canOpenRule_15 : decode cX2_canOpenRule 15 = .ok (.ifCond .ne 16, 3) := of_q QX2_canOpenRule_0 8 rfl
theorem dX2_canOpenRule_18 : decode cX2_canOpenRule 18 = .ok (.aload_n 0, 1) := of_q QX2_canOpenRule_0 9 rfl
theorem dX2_canOpenRule_19 : decode cX2_canOpenRule 19 = .ok (.getfield 45, 3) := of_q QX2_canOpenRule_0 10 rfl
theorem dX2_canOpenRule_22 : decode cX2_canOpenRule 22 = .ok (.bipush 16, 2) := of_q QX2_canOpenRule_0 11 rfl
theorem dX2_canOpenRule_24 : decode cX2_canOpenRule 24 = .ok (.if_icmp .ge 7, 3) := of_q QX2_canOpenRule_0 12 rfl
theorem dX2_canOpenRule_27 : decode cX2_canOpenRule 27 = .ok (.iconst 1, 1) := of_q QX2_canOpenRule_0 13 rfl
theorem dX2_canOpenRule_28 : decode cX2_canOpenRule 28 = .ok (.goto 4, 3) := of_q QX2_canOpenRule_0 14 rfl
theorem dX2_canOpenRule_31 : decode cX2_canOpenRule 31 = .ok (.iconst 0, 1) := of_q QX2_canOpenRule_0 15 rfl
theorem dX2_canOpenRule_32 : decode cX2_canOpenRule 32 = .ok (.ireturn, 1) := of_q QX2_canOpenRule_0 16 rfl
def qX2_openRule_0 : List (Nat × Instr × Nat) := [(0, .aload_n 0, 1), (1, .getfield 45, 3), (4, .ifCond .ne 8, 3), (7, .aload_n 0, 1), (8, .iload_n 1, 1), (9, .putfield 55, 3), (12, .aload_n 0, 1), (13, .iload_n 1, 1), (14, .putfield 58, 3), (17, .aload_n 0, 1), (18, .getfield 9, 3), (21, .iload_n 1, 1), (22, .aload_n 0, 1), (23, .getfield 49, 3), (26, .iastore, 1), (27, .aload_n 0, 1), (28, .dup, 1), (29, .getfield 45, 3), (32, .iconst 1, 1), (33, .iadd, 1), (34, .putfield 45, 3), (37, .return_, 1)]
theorem QX2_openRule_0 : qX2_openRule_0.all (fun q => decide (decode cX2_openRule q.1 = .ok q.2)) = true := by decide +kernel
theorem dX2_openRule_0 : decode cX2_openRule 0 = .ok (.aload_n 0, 1) := of_q QX2_openRule_0 0 rfl
theorem dX2_openRule_1 : decode cX2_openRule 1 = .ok (.getfield 45, 3) := of_q QX2_openRule_0 1 rfl
theorem dX2_openRule_4 : decode cX2_openRule 4 = .ok (.ifCond .ne 8, 3) := of_q QX2_openRule_0 2 rfl
theorem dX2_openRule_7 : decode cX2_openRule 7 = .ok (.aload_n 0, 1) := of_q QX2_openRule_0 3 rfl
theorem dX2_openRule_8 : decode cX2_openRule 8 = .ok (.iload_n 1, 1) := of_q QX2_openRule_0 4 rfl
theorem dX2_openRule_9 : decode cX2_openRule 9 = .ok (.putfield 55, 3) := of_q QX2_openRule_0 5 rfl
theorem dX2_openRule_12 : decode cX2_openRule 12 = .ok (.aload_n 0, 1) := of_q QX2_openRule_0 6 rfl
theorem dX2_openRule_13 : decode cX2_openRule 13 = .ok (.iload_n 1, 1) := of_q QX2_openRule_0 7 rfl
theorem dX2_openRule_14 : decode cX2_openRule 14 = .ok (.putfield 58, 3) := of_q QX2_openRule_0 8 rfl
theorem dX2_openRule_17 : decode cX2_openRule 17 = .ok (.aload_n 0, 1) := of_q QX2_openRule_0 9 rfl
theorem dX2_openRule_18 : decode cX2_openRule 18 = .ok (.getfield 9, 3) := of_q QX2_openRule_0 10 rfl
theorem dX2_openRule_21 : decode cX2_openRule 21 = .ok (.iload_n 1, 1) := of_q QX2_openRule_0 11 rfl
theorem dX2_openRule_22 : decode cX2_openRule 22 = .ok (.aload_n 0, 1) := of_q QX2_openRule_0 12 rfl
theorem dX2_openRule_23 : decode cX2_openRule 23 = .ok (.getfield 49, 3) := of_q QX2_openRule_0 13 rfl
theorem dX2_openRule_26 : decode cX2_openRule 26 = .ok (.iastore, 1) := of_q QX2_openRule_0 14 rfl
theorem dX2_openRule_27 : decode cX2_openRule 27 = .ok (.aload_n 0, 1) := of_q QX2_openRule_0 15 rfl
theorem dX2_openRule_28 : decode cX2_openRule 28 = .ok (.dup, 1) := of_q QX2_openRule_0 16 rfl
theorem dX2_openRule_29 : decode cX2_openRule 29 = .ok (.getfield 45, 3) := of_q QX2_openRule_0 17 rfl
theorem dX2_openRule_32 : decode cX2_openRule 32 = .ok (.iconst 1, 1) := of_q QX2_openRule_0 18 rfl
theorem dX2_openRule_33 : decode cX2_openRule 33 = .ok (.iadd, 1) := of_q QX2_openRule_0 19 rfl
theorem dX2_openRule_34 : decode cX2_openRule 34 = .ok (.putfield 45, 3) := of_q QX2_openRule_0 20 rfl
theorem dX2_openRule_37 : decode cX2_openRule 37 = .ok (.return_, 1) := of_q QX2_openRule_0 21 rfl
def qX2_canOpenAlternative_0 : List (Nat × Instr × Nat) := [(0, .aload_n 0, 1), (1, .getfield 49, 3), (4, .bipush 48, 2), (6, .if_icmp .ge 7, 3), (9, .iconst 1, 1), (10, .goto 4, 3), (13, .iconst 0, 1), (14, .ireturn, 1)]
theorem QX2_canOpenAlternative_0 : qX2_canOpenAlternative_0.all (fun q => decide (decode cX2_canOpenAlternative q.1 = .ok q.2)) = true := by decide +kernel
theorem dX2_canOpenAlternative_0 : decode cX2_canOpenAlternative 0 = .ok (.aload_n 0, 1) := of_q QX2_canOpenAlternative_0 0 rfl
theorem dX2_canOpenAlternative_1 : decode cX2_canOpenAlternative 1 = .ok (.getfield 49, 3) := of_q QX2_canOpenAlternative_0 1 rfl
theorem dX2_canOpenAlternative_4 : decode cX2_canOpenAlternative 4 = .ok (.bipush 48, 2) := of_q QX2_canOpenAlternative_0 2 rfl
theorem dX2_canOpenAlternative_6 : decode cX2_canOpenAlternative 6 = .ok (.if_icmp .ge 7, 3) := of_q QX2_canOpenAlternative_0 3 rfl
theorem dX2_canOpenAlternative_9 : decode cX2_canOpenAlternative 9 = .ok (.iconst 1, 1) := of_q QX2_canOpenAlternative_0 4 rfl
theorem dX2_canOpenAlternative_10 : decode cX2_canOpenAlternative 10 = .ok (.goto 4, 3) := of_q QX2_canOpenAlternative_0 5 rfl
theorem dX2_canOpenAlternative_13 : decode cX2_canOpenAlternative 13 = .ok (.iconst 0, 1) := of_q QX2_canOpenAlternative_0 6 rfl
theorem dX2_canOpenAlternative_14 : decode cX2_canOpenAlternative 14 = .ok (.ireturn, 1) := of_q QX2_canOpenAlternative_0 7 rfl
def qX2_openAlternative_0 : List (Nat × Instr × Nat) := [(0, .aload_n 0, 1), (1, .getfield 24, 3), (4, .aload_n 0, 1), (5, .getfield 49, 3), (8, .iload_n 1, 1), (9, .iastore, 1), (10, .aload_n 0, 1), (11, .getfield 27, 3), (14, .aload_n 0, 1), (15, .getfield 49, 3), (18, .aload_n 0, 1), (19, .getfield 52, 3), (22, .iastore, 1), (23, .aload_n 0, 1), (24, .getfield 30, 3), (27, .aload_n 0, 1), (28, .getfield 49, 3), (31, .aload_n 0, 1), (32, .getfield 52, 3), (35, .iastore, 1), (36, .aload_n 0, 1), (37, .dup, 1), (38, .getfield 49, 3), (41, .iconst 1, 1), (42, .iadd, 1), (43, .putfield 49, 3), (46, .aload_n 0, 1), (47, .getfield 15, 3), (50, .aload_n 0, 1), (51, .getfield 58, 3), (54, .dup2, 1), (55, .iaload, 1), (56, .iconst 1, 1), (57, .iadd, 1), (58, .iastore, 1), (59, .aload_n 0, 1), (60, .getfield 18, 3), (63, .aload_n 0, 1), (64, .getfield 58, 3), (67, .dup2, 1), (68, .iaload, 1), (69, .iload_n 1, 1), (70, .iadd, 1), (71, .iastore, 1), (72, .return_, 1)]
theorem QX2_openAlternative_0 : qX2_openAlternative_0.all (fun q => decide (decode cX2_openAlternative q.1 = .ok q.2)) = true := by decide +kernel
theorem dX2_openAlternative_0 : decode cX2_openAlternative 0 = .ok (.aload_n 0, 1) := of_q QX2_openAlternative_0 0 rfl
theorem dX2_openAlternative_1 : decode cX2_openAlternative 1 = .ok (.getfield 24, 3) := of_q QX2_openAlternative_0 1 rfl
theorem dX2_openAlternative_4 : decode cX2_openAlternative 4 = .ok (.aload_n 0, 1) := of_q QX2_openAlternative_0 2 rfl
theorem dX2_openAlternative_5 : decode cX2_openAlternative 5 = .ok (.getfield 49, 3) := of_q QX2_openAlternative_0 3 rfl
theorem dX2_openAlternative_8 : decode cX2_openAlternative 8 = .ok (.iload_n 1, 1) := of_q QX2_openAlternative_0 4 rfl
theorem dX2_openAlternative_9 : decode cX2_openAlternative 9 = .ok (.iastore, 1) := of_q QX2_openAlternative_0 5 rfl
theorem dX2_openAlternative_10 : decode cX2_openAlternative 10 = .ok (.aload_n 0, 1) := of_q QX2_openAlternative_0 6 rfl
theorem dX2_openAlternative_11 : decode cX2_openAlternative 11 = .ok (.getfield 27, 3) := of_q QX2_openAlternative_0 7 rfl
theorem dX2_openAlternative_14 : decode cX2_openAlternative 14 = .ok (.aload_n 0, 1) := of_q QX2_openAlternative_0 8 rfl
theorem dX2_openAlternative_15 : decode cX2_openAlternative 15 = .ok (.getfield 49, 3) := of_q QX2_openAlternative_0 9 rfl
theorem dX2_openAlternative_18 : decode cX2_openAlternative 18 = .ok (.aload_n 0, 1) := of_q QX2_openAlternative_0 10 rfl
theorem dX2_openAlternative_19 : decode cX2_openAlternative 19 = .ok (.getfield 52, 3) := of_q QX2_openAlternative_0 11 rfl
theorem dX2_openAlternative_22 : decode cX2_openAlternative 22 = .ok (.iastore, 1) := of_q QX2_openAlternative_0 12 rfl
theorem dX2_openAlternative_23 : decode cX2_openAlternative 23 = .ok (.aload_n 0, 1) := of_q QX2_openAlternative_0 13 rfl
theorem dX2_openAlternative_24 : decode cX2_openAlternative 24 = .ok (.getfield 30, 3) := of_q QX2_openAlternative_0 14 rfl
theorem dX2_openAlternative_27 : decode cX2_openAlternative 27 = .ok (.aload_n 0, 1) := of_q QX2_openAlternative_0 15 rfl
theorem dX2_openAlternative_28 : decode cX2_openAlternative 28 = .ok (.getfield 49, 3) := of_q QX2_openAlternative_0 16 rfl
theorem dX2_openAlternative_31 : decode cX2_openAlternative 31 = .ok (.aload_n 0, 1) := of_q QX2_openAlternative_0 17 rfl
theorem dX2_openAlternative_32 : decode cX2_openAlternative 32 = .ok (.getfield 52, 3) := of_q QX2_openAlternative_0 18 rfl
theorem dX2_openAlternative_35 : decode cX2_openAlternative 35 = .ok (.iastore, 1) := of_q QX2_openAlternative_0 19 rfl
theorem dX2_openAlternative_36 : decode cX2_openAlternative 36 = .ok (.aload_n 0, 1) := of_q QX2_openAlternative_0 20 rfl
theorem dX2_openAlternative_37 : decode cX2_openAlternative 37 = .ok (.dup, 1) := of_q QX2_openAlternative_0 21 rfl
theorem dX2_openAlternative_38 : decode cX2_openAlternative 38 = .ok (.getfield 49, 3) := of_q QX2_openAlternative_0 22 rfl
theorem dX2_openAlternative_41 : decode cX2_openAlternative 41 = .ok (.iconst 1, 1) := of_q QX2_openAlternative_0 23 rfl
theorem dX2_openAlternative_42 : decode cX2_openAlternative 42 = .ok (.iadd, 1) := of_q QX2_openAlternative_0 24 rfl
theorem dX2_openAlternative_43 : decode cX2_openAlternative 43 = .ok (.putfield 49, 3) := of_q QX2_openAlternative_0 25 rfl
theorem dX2_openAlternative_46 : decode cX2_openAlternative 46 = .ok (.aload_n 0, 1) := of_q QX2_openAlternative_0 26 rfl
theorem dX2_openAlternative_47 : decode cX2_openAlternative 47 = .ok (.getfield 15, 3) := of_q QX2_openAlternative_0 27 rfl
theorem dX2_openAlternative_50 : decode cX2_openAlternative 50 = .ok (.aload_n 0, 1) := of_q QX2_openAlternative_0 28 rfl
theorem dX2_openAlternative_51 : decode cX2_openAlternative 51 = .ok (.getfield 58, 3) := of_q QX2_openAlternative_0 29 rfl
theorem dX2_openAlternative_54 : decode cX2_openAlternative 54 = .ok (.dup2, 1) := of_q QX2_openAlternative_0 30 rfl
theorem dX2_openAlternative_55 : decode cX2_openAlternative 55 = .ok (.iaload, 1) := of_q QX2_openAlternative_0 31 rfl
theorem dX2_openAlternative_56 : decode cX2_openAlternative 56 = .ok (.iconst 1, 1) := of_q QX2_openAlternative_0 32 rfl
theorem dX2_openAlternative_57 : decode cX2_openAlternative 57 = .ok (.iadd, 1) := of_q QX2_openAlternative_0 33 rfl
theorem dX2_openAlternative_58 : decode cX2_openAlternative 58 = .ok (.iastore, 1) := of_q QX2_openAlternative_0 34 rfl
theorem dX2_openAlternative_59 : decode cX2_openAlternative 59 = .ok (.aload_n 0, 1) := of_q QX2_openAlternative_0 35 rfl
theorem dX2_openAlternative_60 : decode cX2_openAlternative 60 = .ok (.getfield 18, 3) := of_q QX2_openAlternative_0 36 rfl
theorem dX2_openAlternative_63 : decode cX2_openAlternative 63 = .ok (.aload_n 0, 1) := of_q QX2_openAlternative_0 37 rfl
theorem dX2_openAlternative_64 : decode cX2_openAlternative 64 = .ok (.getfield 58, 3) := of_q QX2_openAlternative_0 38 rfl
theorem dX2_openAlternative_67 : decode cX2_openAlternative 67 = .ok (.dup2, 1) := of_q QX2_openAlternative_0 39 rfl
theorem dX2_openAlternative_68 : decode cX2_openAlternative 68 = .ok (.iaload, 1) := of_q QX2_openAlternative_0 40 rfl
theorem dX2_openAlternative_69 : decode cX2_openAlternative 69 = .ok (.iload_n 1, 1) := of_q QX2_openAlternative_0 41 rfl
theorem dX2_openAlternative_70 : decode cX2_openAlternative 70 = .ok (.iadd, 1) := of_q QX2_openAlternative_0 42 rfl
theorem dX2_openAlternative_71 : decode cX2_openAlternative 71 = .ok (.iastore, 1) := of_q QX2_openAlternative_0 43 rfl
theorem dX2_openAlternative_72 : decode cX2_openAlternative 72 = .ok (.return_, 1) := of_q QX2_openAlternative_0 44 rfl
def qX2_canAddSign_0 : List (Nat × Instr × Nat) := [(0, .aload_n 0, 1), (1, .getfield 52, 3), (4, .sipush 240, 3), (7, .if_icmp .ge 35, 3), (10, .aload_n 0, 1), (11, .getfield 49, 3), (14, .ifCond .le 28, 3), (17, .aload_n 0, 1), (18, .getfield 52, 3), (21, .aload_n 0, 1), (22, .getfield 27, 3), (25, .aload_n 0, 1), (26, .getfield 49, 3), (29, .iconst 1, 1), (30, .isub, 1), (31, .iaload, 1), (32, .isub, 1), (33, .bipush 12, 2), (35, .if_icmp .ge 7, 3), (38, .iconst 1, 1), (39, .goto 4, 3), (42, .iconst 0, 1), (43, .ireturn, 1)]
theorem QX2_canAddSign_0 : qX2_canAddSign_0.all (fun q => decide (decode cX2_canAddSign q.1 = .ok q.2)) = true := by decide +kernel
theorem dX2_canAddSign_0 : decode cX2_canAddSign 0 = .ok (.aload_n 0, 1) := of_q QX2_canAddSign_0 0 rfl
theorem dX2_canAddSign_1 : decode cX2_canAddSign 1 = .ok (.getfield 52, 3) := of_q QX2_canAddSign_0 1 rfl
theorem dX2_canAddSign_4 : decode cX2_canAddSign 4 = .ok (.sipush 240, 3) := of_q QX2_canAddSign_0 2 rfl
theorem dX2_canAddSign_7 : decode cX2_canAddSign 7 = .ok (.if_icmp .ge 35, 3) := of_q QX2_canAddSign_0 3 rfl
theorem dX2_canAddSign_10 : decode cX2_canAddSign 10 = .ok (.aload_n 0, 1) := of_q QX2_canAddSign_0 4 rfl
theorem dX2_canAddSign_11 : decode cX2_canAddSign 11 = .ok (.getfield 49, 3) := of_q QX2_canAddSign_0 5 rfl
theorem dX2_canAddSign_14 : decode cX2_canAddSign 14 = .ok (.ifCond .le 28, 3) := of_q QX2_canAddSign_0 6 rfl
theorem dX2_canAddSign_17 : decode cX2_canAddSign 17 = .ok (.aload_n 0, 1) := of_q QX2_canAddSign_0 7 rfl
theorem dX2_canAddSign_18 : decode cX2_canAddSign 18 = .ok (.getfield 52, 3) := of_q QX2_canAddSign_0 8 rfl
theorem dX2_canAddSign_21 : decode cX2_canAddSign 21 = .ok (.aload_n 0, 1) := of_q QX2_canAddSign_0 9 rfl
theorem dX2_canAddSign_22 : decode cX2_canAddSign 22 = .ok (.getfield 27, 3) := of_q QX2_canAddSign_0 10 rfl
theorem dX2_canAddSign_25 : decode cX2_canAddSign 25 = .ok (.aload_n 0, 1) := of_q QX2_canAddSign_0 11 rfl
theorem dX2_canAddSign_26 : decode cX2_canAddSign 26 = .ok (.getfield 49, 3) := of_q QX2_canAddSign_0 12 rfl
theorem dX2_canAddSign_29 : decode cX2_canAddSign 29 = .ok (.iconst 1, 1) := of_q QX2_canAddSign_0 13 rfl
theorem dX2_canAddSign_30 : decode cX2_canAddSign 30 = .ok (.isub, 1) := of_q QX2_canAddSign_0 14 rfl
theorem dX2_canAddSign_31 : decode cX2_canAddSign 31 = .ok (.iaload, 1) := of_q QX2_canAddSign_0 15 rfl
theorem dX2_canAddSign_32 : decode cX2_canAddSign 32 = .ok (.isub, 1) := of_q QX2_canAddSign_0 16 rfl
theorem dX2_canAddSign_33 : decode cX2_canAddSign 33 = .ok (.bipush 12, 2) := of_q QX2_canAddSign_0 17 rfl
theorem dX2_canAddSign_35 : decode cX2_canAddSign 35 = .ok (.if_icmp .ge 7, 3) := of_q QX2_canAddSign_0 18 rfl
theorem dX2_canAddSign_38 : decode cX2_canAddSign 38 = .ok (.iconst 1, 1) := of_q QX2_canAddSign_0 19 rfl
theorem dX2_canAddSign_39 : decode cX2_canAddSign 39 = .ok (.goto 4, 3) := of_q QX2_canAddSign_0 20 rfl
theorem dX2_canAddSign_42 : decode cX2_canAddSign 42 = .ok (.iconst 0, 1) := of_q QX2_canAddSign_0 21 rfl
theorem dX2_canAddSign_43 : decode cX2_canAddSign 43 = .ok (.ireturn, 1) := of_q QX2_canAddSign_0 22 rfl
def qX2_addLetter_0 : List (Nat × Instr × Nat) := [(0, .aload_n 0, 1), (1, .getfield 21, 3), (4, .iload_n 1, 1), (5, .iaload, 1), (6, .iconst (-1), 1), (7, .if_icmp .ne 10, 3), (10, .aload_n 0, 1), (11, .getfield 21, 3), (14, .iload_n 1, 1), (15, .iload_n 2, 1), (16, .iastore, 1), (17, .aload_n 0, 1), (18, .iload_n 1, 1), (19, .iconst (-1), 1), (20, .iconst 0, 1), (21, .iconst 0, 1), (22, .invokevirtual 75, 3), (25, .return_, 1)]
theorem QX2_addLetter_0 : qX2_addLetter_0.all (fun q => decide (decode cX2_addLetter q.1 = .ok q.2)) = true := by decide +kernel
theorem dX2_addLetter_0 : decode cX2_addLetter 0 = .ok (.aload_n 0, 1) := of_q QX2_addLetter_0 0 rfl
theorem dX2_addLetter_1 : decode cX2_addLetter 1 = .ok (.getfield 21, 3) := of_q QX2_addLetter_0 1 rfl
theorem dX2_addLetter_4 : decode cX2_addLetter 4 = .ok (.iload_n 1, 1) := of_q QX2_addLetter_0 2 rfl
theorem dX2_addLetter_5 : decode cX2_addLetter 5 = .ok (.iaload, 1) := of_q QX2_addLetter_0 3 rfl
theorem dX2_addLetter_6 : decode cX2_addLetter 6 = .ok (.iconst (-1), 1) := of_q QX2_addLetter_0 4 rfl
theorem dX2_addLetter_7 : decode cX2_addLetter 7 = .ok (.if_icmp .ne 10, 3) := of_q QX2_addLetter_0 5 rfl
theorem dX2_addLetter_10 : decode cX2_addLetter 10 = .ok (.aload_n 0, 1) := of_q QX2_addLetter_0 6 rfl
theorem dX2_addLetter_11 : decode cX2_addLetter 11 = .ok (.getfield 21, 3) := of_q QX2_addLetter_0 7 rfl
theorem dX2_addLetter_14 : decode cX2_addLetter 14 = .ok (.iload_n 1, 1) := of_q QX2_addLetter_0 8 rfl
theorem dX2_addLetter_15 : decode cX2_addLetter 15 = .ok (.iload_n 2, 1) := of_q QX2_addLetter_0 9 rfl
theorem dX2_addLetter_16 : decode cX2_addLetter 16 = .ok (.iastore, 1) := of_q QX2_addLetter_0 10 rfl
theorem dX2_addLetter_17 : decode cX2_addLetter 17 = .ok (.aload_n 0, 1) := of_q QX2_addLetter_0 11 rfl
theorem dX2_addLetter_18 : decode cX2_addLetter 18 = .ok (.iload_n 1, 1) := of_q QX2_addLetter_0 12 rfl
theorem dX2_addLetter_19 : decode cX2_addLetter 19 = .ok (.iconst (-1), 1) := of_q QX2_addLetter_0 13 rfl
theorem dX2_addLetter_20 : decode cX2_addLetter 20 = .ok (.iconst 0, 1) := of_q QX2_addLetter_0 14 rfl
theorem dX2_addLetter_21 : decode cX2_addLetter 21 = .ok (.iconst 0, 1) := of_q QX2_addLetter_0 15 rfl
theorem dX2_addLetter_22 : decode cX2_addLetter 22 = .ok (.invokevirtual 75, 3) := of_q QX2_addLetter_0 16 rfl
theorem dX2_addLetter_25 : decode cX2_addLetter 25 = .ok (.return_, 1) := of_q QX2_addLetter_0 17 rfl
def qX2_addSound_0 : List (Nat × Instr × Nat) := [(0, .aload_n 0, 1), (1, .iconst (-1), 1), (2, .iload_n 1, 1), (3, .iload_n 2, 1), (4, .iload_n 3, 1), (5, .invokevirtual 75, 3), (8, .return_, 1)]
theorem QX2_addSound_0 : qX2_addSound_0.all (fun q => decide (decode cX2_addSound q.1 = .ok q.2)) = true := by decide +kernel
theorem dX2_addSound_0 : decode cX2_addSound 0 = .ok (.aload_n 0, 1) := of_q QX2_addSound_0 0 rfl
theorem dX2_addSound_1 : decode cX2_addSound 1 = .ok (.iconst (-1), 1) := of_q QX2_addSound_0 1 rfl
theorem dX2_addSound_2 : decode cX2_addSound 2 = .ok (.iload_n 1, 1) := of_q QX2_addSound_0 2 rfl
theorem dX2_addSound_3 : decode cX2_addSound 3 = .ok (.iload_n 2, 1) := of_q QX2_addSound_0 3 rfl
theorem dX2_addSound_4 : decode cX2_addSound 4 = .ok (.iload_n 3, 1) := of_q QX2_addSound_0 4 rfl
theorem dX2_addSound_5 : decode cX2_addSound 5 = .ok (.invokevirtual 75, 3) := of_q QX2_addSound_0 5 rfl
theorem dX2_addSound_8 : decode cX2_addSound 8 = .ok (.return_, 1) := of_q QX2_addSound_0 6 rfl
def qX2_addSign_0 : List (Nat × Instr × Nat) := [(0, .aload_n 0, 1), (1, .getfield 33, 3), (4, .aload_n 0, 1), (5, .getfield 52, 3), (8, .iload_n 1, 1), (9, .iastore, 1), (10, .aload_n 0, 1), (11, .getfield 36, 3), (14, .aload_n 0, 1), (15, .getfield 52, 3), (18, .iload_n 2, 1), (19, .iastore, 1), (20, .aload_n 0, 1), (21, .getfield 39, 3), (24, .aload_n 0, 1), (25, .getfield 52, 3), (28, .iload_n 3, 1), (29, .iastore, 1), (30, .aload_n 0, 1), (31, .getfield 42, 3), (34, .aload_n 0, 1), (35, .getfield 52, 3), (38, .iload 4, 2), (40, .iastore, 1), (41, .aload_n 0, 1), (42, .dup, 1), (43, .getfield 52, 3), (46, .iconst 1, 1), (47, .iadd, 1), (48, .putfield 52, 3), (51, .aload_n 0, 1), (52, .getfield 30, 3), (55, .aload_n 0, 1), (56, .getfield 49, 3), (59, .iconst 1, 1), (60, .isub, 1), (61, .aload_n 0, 1), (62, .getfield 52, 3), (65, .iastore, 1), (66, .return_, 1)]
theorem QX2_addSign_0 : qX2_addSign_0.all (fun q => decide (decode cX2_addSign q.1 = .ok q.2)) = true := by decide +kernel
theorem dX2_addSign_0 : decode cX2_addSign 0 = .ok (.aload_n 0, 1) := of_q QX2_addSign_0 0 rfl
theorem dX2_addSign_1 : decode cX2_addSign 1 = .ok (.getfield 33, 3) := of_q QX2_addSign_0 1 rfl
theorem dX2_addSign_4 : decode cX2_addSign 4 = .ok (.aload_n 0, 1) := of_q QX2_addSign_0 2 rfl
theorem dX2_addSign_5 : decode cX2_addSign 5 = .ok (.getfield 52, 3) := of_q QX2_addSign_0 3 rfl
theorem dX2_addSign_8 : decode cX2_addSign 8 = .ok (.iload_n 1, 1) := of_q QX2_addSign_0 4 rfl
theorem dX2_addSign_9 : decode cX2_addSign 9 = .ok (.iastore, 1) := of_q QX2_addSign_0 5 rfl
theorem dX2_addSign_10 : decode cX2_addSign 10 = .ok (.aload_n 0, 1) := of_q QX2_addSign_0 6 rfl
theorem dX2_addSign_11 : decode cX2_addSign 11 = .ok (.getfield 36, 3) := of_q QX2_addSign_0 7 rfl
theorem dX2_addSign_14 : decode cX2_addSign 14 = .ok (.aload_n 0, 1) := of_q QX2_addSign_0 8 rfl
theorem dX2_addSign_15 : decode cX2_addSign 15 = .ok (.getfield 52, 3) := of_q QX2_addSign_0 9 rfl
theorem dX2_addSign_18 : decode cX2_addSign 18 = .ok (.iload_n 2, 1) := of_q QX2_addSign_0 10 rfl
theorem dX2_addSign_19 : decode cX2_addSign 19 = .ok (.iastore, 1) := of_q QX2_addSign_0 11 rfl
theorem dX2_addSign_20 : decode cX2_addSign 20 = .ok (.aload_n 0, 1) := of_q QX2_addSign_0 12 rfl
theorem dX2_addSign_21 : decode cX2_addSign 21 = .ok (.getfield 39, 3) := of_q QX2_addSign_0 13 rfl
theorem dX2_addSign_24 : decode cX2_addSign 24 = .ok (.aload_n 0, 1) := of_q QX2_addSign_0 14 rfl
theorem dX2_addSign_25 : decode cX2_addSign 25 = .ok (.getfield 52, 3) := of_q QX2_addSign_0 15 rfl
theorem dX2_addSign_28 : decode cX2_addSign 28 = .ok (.iload_n 3, 1) := of_q QX2_addSign_0 16 rfl
theorem dX2_addSign_29 : decode cX2_addSign 29 = .ok (.iastore, 1) := of_q QX2_addSign_0 17 rfl
theorem dX2_addSign_30 : decode cX2_addSign 30 = .ok (.aload_n 0, 1) := of_q QX2_addSign_0 18 rfl
theorem dX2_addSign_31 : decode cX2_addSign 31 = .ok (.getfield 42, 3) := of_q QX2_addSign_0 19 rfl
theorem dX2_addSign_34 : decode cX2_addSign 34 = .ok (.aload_n 0, 1) := of_q QX2_addSign_0 20 rfl
theorem dX2_addSign_35 : decode cX2_addSign 35 = .ok (.getfield 52, 3) := of_q QX2_addSign_0 21 rfl
theorem dX2_addSign_38 : decode cX2_addSign 38 = .ok (.iload 4, 2) := of_q QX2_addSign_0 22 rfl
theorem dX2_addSign_40 : decode cX2_addSign 40 = .ok (.iastore, 1) := of_q QX2_addSign_0 23 rfl
theorem dX2_addSign_41 : decode cX2_addSign 41 = .ok (.aload_n 0, 1) := of_q QX2_addSign_0 24 rfl
theorem dX2_addSign_42 : decode cX2_addSign 42 = .ok (.dup, 1) := of_q QX2_addSign_0 25 rfl
theorem dX2_addSign_43 : decode cX2_addSign 43 = .ok (.getfield 52, 3) := of_q QX2_addSign_0 26 rfl
theorem dX2_addSign_46 : decode cX2_addSign 46 = .ok (.iconst 1, 1) := of_q QX2_addSign_0 27 rfl
theorem dX2_addSign_47 : decode cX2_addSign 47 = .ok (.iadd, 1) := of_q QX2_addSign_0 28 rfl
theorem dX2_addSign_48 : decode cX2_addSign 48 = .ok (.putfield 52, 3) := of_q QX2_addSign_0 29 rfl
theorem dX2_addSign_51 : decode cX2_addSign 51 = .ok (.aload_n 0, 1) := of_q QX2_addSign_0 30 rfl
theorem dX2_addSign_52 : decode cX2_addSign 52 = .ok (.getfield 30, 3) := of_q QX2_addSign_0 31 rfl
theorem dX2_addSign_55 : decode cX2_addSign 55 = .ok (.aload_n 0, 1) := of_q QX2_addSign_0 32 rfl
theorem dX2_addSign_56 : decode cX2_addSign 56 = .ok (.getfield 49, 3) := of_q QX2_addSign_0 33 rfl
theorem dX2_addSign_59 : decode cX2_addSign 59 = .ok (.iconst 1, 1) := of_q QX2_addSign_0 34 rfl
theorem dX2_addSign_60 : decode cX2_addSign 60 = .ok (.isub, 1) := of_q QX2_addSign_0 35 rfl
theorem dX2_addSign_61 : decode cX2_addSign 61 = .ok (.aload_n 0, 1) := of_q QX2_addSign_0 36 rfl
theorem dX2_addSign_62 : decode cX2_addSign 62 = .ok (.getfield 52, 3) := of_q QX2_addSign_0 37 rfl
theorem dX2_addSign_65 : decode cX2_addSign 65 = .ok (.iastore, 1) := of_q QX2_addSign_0 38 rfl
theorem dX2_addSign_66 : decode cX2_addSign 66 = .ok (.return_, 1) := of_q QX2_addSign_0 39 rfl
def qX2_firstUseWithoutRule_0 : List (Nat × Instr × Nat) := [(0, .iconst (-1), 1), (1, .istore_n 1, 1), (2, .iconst 0, 1), (3, .istore_n 2, 1), (4, .iload_n 2, 1), (5, .bipush 26, 2), (7, .if_icmp .ge 41, 3), (10, .aload_n 0, 1), (11, .getfield 21, 3), (14, .iload_n 2, 1), (15, .iaload, 1), (16, .istore_n 3, 1), (17, .iload_n 3, 1), (18, .iconst (-1), 1), (19, .if_icmp .eq 23, 3), (22, .aload_n 0, 1), (23, .iload_n 2, 1), (24, .invokevirtual 71, 3), (27, .ifCond .ne 15, 3), (30, .iload_n 1, 1), (31, .iconst (-1), 1), (32, .if_icmp .eq 8, 3), (35, .iload_n 3, 1), (36, .iload_n 1, 1), (37, .if_icmp .ge 5, 3), (40, .iload_n 3, 1), (41, .istore_n 1, 1), (42, .iinc 2 1, 3), (45, .goto (-41), 3), (48, .iload_n 1, 1), (49, .ireturn, 1)]
theorem QX2_firstUseWithoutRule_0 : qX2_firstUseWithoutRule_0.all (fun q => decide (decode cX2_firstUseWithoutRule q.1 = .ok q.2)) = true := by decide +kernel
theorem dX2_firstUseWithoutRule_0 : decode cX2_firstUseWithoutRule 0 = .ok (.iconst (-1), 1) := of_q QX2_firstUseWithoutRule_0 0 rfl
theorem dX2_firstUseWithoutRule_1 : decode cX2_firstUseWithoutRule 1 = .ok (.istore_n 1, 1) := of_q QX2_firstUseWithoutRule_0 1 rfl
theorem dX2_firstUseWithoutRule_2 : decode cX2_firstUseWithoutRule 2 = .ok (.iconst 0, 1) := of_q QX2_firstUseWithoutRule_0 2 rfl
theorem dX2_firstUseWithoutRule_3 : decode cX2_firstUseWithoutRule 3 = .ok (.istore_n 2, 1) := of_q QX2_firstUseWithoutRule_0 3 rfl
theorem dX2_firstUseWithoutRule_4 : decode cX2_firstUseWithoutRule 4 = .ok (.iload_n 2, 1) := of_q QX2_firstUseWithoutRule_0 4 rfl
theorem dX2_firstUseWithoutRule_5 : decode cX2_firstUseWithoutRule 5 = .ok (.bipush 26, 2) := of_q QX2_firstUseWithoutRule_0 5 rfl
theorem dX2_firstUseWithoutRule_7 : decode cX2_firstUseWithoutRule 7 = .ok (.if_icmp .ge 41, 3) := of_q QX2_firstUseWithoutRule_0 6 rfl
theorem dX2_firstUseWithoutRule_10 : decode cX2_firstUseWithoutRule 10 = .ok (.aload_n 0, 1) := of_q QX2_firstUseWithoutRule_0 7 rfl
theorem dX2_firstUseWithoutRule_11 : decode cX2_firstUseWithoutRule 11 = .ok (.getfield 21, 3) := of_q QX2_firstUseWithoutRule_0 8 rfl
theorem dX2_firstUseWithoutRule_14 : decode cX2_firstUseWithoutRule 14 = .ok (.iload_n 2, 1) := of_q QX2_firstUseWithoutRule_0 9 rfl
theorem dX2_firstUseWithoutRule_15 : decode cX2_firstUseWithoutRule 15 = .ok (.iaload, 1) := of_q QX2_firstUseWithoutRule_0 10 rfl
theorem dX2_firstUseWithoutRule_16 : decode cX2_firstUseWithoutRule 16 = .ok (.istore_n 3, 1) := of_q QX2_firstUseWithoutRule_0 11 rfl
theorem dX2_firstUseWithoutRule_17 : decode cX2_firstUseWithoutRule 17 = .ok (.iload_n 3, 1) := of_q QX2_firstUseWithoutRule_0 12 rfl
theorem dX2_firstUseWithoutRule_18 : decode cX2_firstUseWithoutRule 18 = .ok (.iconst (-1), 1) := of_q QX2_firstUseWithoutRule_0 13 rfl
theorem dX2_firstUseWithoutRule_19 : decode cX2_firstUseWithoutRule 19 = .ok (.if_icmp .eq 23, 3) := of_q QX2_firstUseWithoutRule_0 14 rfl
theorem dX2_firstUseWithoutRule_22 : decode cX2_firstUseWithoutRule 22 = .ok (.aload_n 0, 1) := of_q QX2_firstUseWithoutRule_0 15 rfl
theorem dX2_firstUseWithoutRule_23 : decode cX2_firstUseWithoutRule 23 = .ok (.iload_n 2, 1) := of_q QX2_firstUseWithoutRule_0 16 rfl
theorem dX2_firstUseWithoutRule_24 : decode cX2_firstUseWithoutRule 24 = .ok (.invokevirtual 71, 3) := of_q QX2_firstUseWithoutRule_0 17 rfl
theorem dX2_firstUseWithoutRule_27 : decode cX2_firstUseWithoutRule 27 = .ok (.ifCond .ne 15, 3) := of_q QX2_firstUseWithoutRule_0 18 rfl
theorem dX2_firstUseWithoutRule_30 : decode cX2_firstUseWithoutRule 30 = .ok (.iload_n 1, 1) := of_q QX2_firstUseWithoutRule_0 19 rfl
theorem dX2_firstUseWithoutRule_31 : decode cX2_firstUseWithoutRule 31 = .ok (.iconst (-1), 1) := of_q QX2_firstUseWithoutRule_0 20 rfl
theorem dX2_firstUseWithoutRule_32 : decode cX2_firstUseWithoutRule 32 = .ok (.if_icmp .eq 8, 3) := of_q QX2_firstUseWithoutRule_0 21 rfl
theorem dX2_firstUseWithoutRule_35 : decode cX2_firstUseWithoutRule 35 = .ok (.iload_n 3, 1) := of_q QX2_firstUseWithoutRule_0 22 rfl
theorem dX2_firstUseWithoutRule_36 : decode cX2_firstUseWithoutRule 36 = .ok (.iload_n 1, 1) := of_q QX2_firstUseWithoutRule_0 23 rfl
theorem dX2_firstUseWithoutRule_37 : decode cX2_firstUseWithoutRule 37 = .ok (.if_icmp .ge 5, 3) := of_q QX2_firstUseWithoutRule_0 24 rfl
theorem dX2_firstUseWithoutRule_40 : decode cX2_firstUseWithoutRule 40 = .ok (.iload_n 3, 1) := of_q QX2_firstUseWithoutRule_0 25 rfl
theorem dX2_firstUseWithoutRule_41 : decode cX2_firstUseWithoutRule 41 = .ok (.istore_n 1, 1) := of_q QX2_firstUseWithoutRule_0 26 rfl
theorem dX2_firstUseWithoutRule_42 : decode cX2_firstUseWithoutRule 42 = .ok (.iinc 2 1, 3) := of_q QX2_firstUseWithoutRule_0 27 rfl
theorem dX2_firstUseWithoutRule_45 : decode cX2_firstUseWithoutRule 45 = .ok (.goto (-41), 3) := of_q QX2_firstUseWithoutRule_0 28 rfl
theorem dX2_firstUseWithoutRule_48 : decode cX2_firstUseWithoutRule 48 = .ok (.iload_n 1, 1) := of_q QX2_firstUseWithoutRule_0 29 rfl
theorem dX2_firstUseWithoutRule_49 : decode cX2_firstUseWithoutRule 49 = .ok (.ireturn, 1) := of_q QX2_firstUseWithoutRule_0 30 rfl
def qX3_init_0 : List (Nat × Instr × Nat) := [(0, .aload_n 0, 1), (1, .invokespecial 3, 3), (4, .aload_n 0, 1), (5, .iconst 0, 1), (6, .putfield 9, 3), (9, .aload_n 0, 1), (10, .iconst 0, 1), (11, .putfield 15, 3), (14, .aload_n 0, 1), (15, .iconst 0, 1), (16, .putfield 18, 3), (19, .aload_n 0, 1), (20, .iconst 0, 1), (21, .putfield 21, 3), (24, .aload_n 0, 1), (25, .iconst 0, 1), (26, .putfield 24, 3), (29, .aload_n 0, 1), (30, .iconst (-1), 1), (31, .putfield 27, 3), (34, .aload_n 0, 1), (35, .aload_n 1, 1), (36, .putfield 30, 3), (39, .aload_n 0, 1), (40, .aload_n 2, 1), (41, .putfield 34, 3), (44, .aload_n 0, 1), (45, .aload_n 3, 1), (46, .putfield 38, 3), (49, .aload_n 0, 1), (50, .aload 4, 2), (52, .putfield 42, 3), (55, .aload_n 0, 1), (56, .aload 5, 2), (58, .putfield 46, 3), (61, .aload_n 0, 1), (62, .iload 6, 2), (64, .putfield 50, 3), (67, .return_, 1)]
theorem QX3_init_0 : qX3_init_0.all (fun q => decide (decode cX3_init q.1 = .ok q.2)) = true := by decide +kernel
theorem dX3_init_0 : decode cX3_init 0 = .ok (.aload_n 0, 1) := of_q QX3_init_0 0 rfl
theorem dX3_init_1 : decode cX3_init 1 = .ok (.invokespecial 3, 3) := of_q QX3_init_0 1 rfl
theorem dX3_init_4 : decode cX3_init 4 = .ok (.aload_n 0, 1) := of_q QX3_init_0 2 rfl
theorem dX3_init_5 : decode cX3_init 5 = .ok (.iconst 0, 1) := of_q QX3_init_0 3 rfl
theorem dX3_init_6 : decode cX3_init 6 = .ok (.putfield 9, 3) := of_q QX3_init_0 4 rfl
theorem dX3_init_9 : decode cX3_init 9 = .ok (.aload_n 0, 1) := of_q QX3_init_0 5 rfl
theorem dX3_init_10 : decode cX3_init 10 = .ok (.iconst 0, 1) := of_q QX3_init_0 6 rfl
theorem dX3_init_11 : decode cX3_init 11 = .ok (.putfield 15, 3) := of_q QX3_init_0 7 rfl
theorem dX3_init_14 : decode cX3_init 14 = .ok (.aload_n 0, 1) := of_q QX3_init_0 8 rfl
theorem dX3_init_15 : decode cX3_init 15 = .ok (.iconst 0, 1) := of_q QX3_init_0 9 rfl
theorem dX3_init_16 : decode cX3_init 16 = .ok (.putfield 18, 3) := of_q QX3_init_0 10 rfl
theorem dX3_init_19 : decode cX3_init 19 = .ok (.aload_n 0, 1) := of_q QX3_init_0 11 rfl
theorem dX3_init_20 : decode cX3_init 20 = .ok (.iconst 0, 1) := of_q QX3_init_0 12 rfl
theorem dX3_init_21 : decode cX3_init 21 = .ok (.putfield 21, 3) := of_q QX3_init_0 13 rfl
theorem dX3_init_24 : decode cX3_init 24 = .ok (.aload_n 0, 1) := of_q QX3_init_0 14 rfl
theorem dX3_init_25 : decode cX3_init 25 = .ok (.iconst 0, 1) := of_q QX3_init_0 15 rfl
theorem dX3_init_26 : decode cX3_init 26 = .ok (.putfield 24, 3) := of_q QX3_init_0 16 rfl
theorem dX3_init_29 : decode cX3_init 29 = .ok (.aload_n 0, 1) := of_q QX3_init_0 17 rfl
theorem dX3_init_30 : decode cX3_init 30 = .ok (.iconst (-1), 1) := of_q QX3_init_0 18 rfl
theorem dX3_init_31 : decode cX3_init 31 = .ok (.putfield 27, 3) := of_q QX3_init_0 19 rfl
theorem dX3_init_34 : decode cX3_init 34 = .ok (.aload_n 0, 1) := of_q QX3_init_0 20 rfl
theorem dX3_init_35 : decode cX3_init 35 = .ok (.aload_n 1, 1) := of_q QX3_init_0 21 rfl
theorem dX3_init_36 : decode cX3_init 36 = .ok (.putfield 30, 3) := of_q QX3_init_0 22 rfl
theorem dX3_init_39 : decode cX3_init 39 = .ok (.aload_n 0, 1) := of_q QX3_init_0 23 rfl
theorem dX3_init_40 : decode cX3_init 40 = .ok (.aload_n 2, 1) := of_q QX3_init_0 24 rfl
theorem dX3_init_41 : decode cX3_init 41 = .ok (.putfield 34, 3) := of_q QX3_init_0 25 rfl
theorem dX3_init_44 : decode cX3_init 44 = .ok (.aload_n 0, 1) := of_q QX3_init_0 26 rfl
theorem dX3_init_45 : decode cX3_init 45 = .ok (.aload_n 3, 1) := of_q QX3_init_0 27 rfl
theorem dX3_init_46 : decode cX3_init 46 = .ok (.putfield 38, 3) := of_q QX3_init_0 28 rfl
theorem dX3_init_49 : decode cX3_init 49 = .ok (.aload_n 0, 1) := of_q QX3_init_0 29 rfl
theorem dX3_init_50 : decode cX3_init 50 = .ok (.aload 4, 2) := of_q QX3_init_0 30 rfl
theorem dX3_init_52 : decode cX3_init 52 = .ok (.putfield 42, 3) := of_q QX3_init_0 31 rfl
theorem dX3_init_55 : decode cX3_init 55 = .ok (.aload_n 0, 1) := of_q QX3_init_0 32 rfl
theorem dX3_init_56 : decode cX3_init 56 = .ok (.aload 5, 2) := of_q QX3_init_0 33 rfl
theorem dX3_init_58 : decode cX3_init 58 = .ok (.putfield 46, 3) := of_q QX3_init_0 34 rfl
theorem dX3_init_61 : decode cX3_init 61 = .ok (.aload_n 0, 1) := of_q QX3_init_0 35 rfl
theorem dX3_init_62 : decode cX3_init 62 = .ok (.iload 6, 2) := of_q QX3_init_0 36 rfl
theorem dX3_init_64 : decode cX3_init 64 = .ok (.putfield 50, 3) := of_q QX3_init_0 37 rfl
theorem dX3_init_67 : decode cX3_init 67 = .ok (.return_, 1) := of_q QX3_init_0 38 rfl
def qX3_unfold_0 : List (Nat × Instr × Nat) := [(0, .aload_n 0, 1), (1, .getfield 38, 3), (4, .iconst 0, 1), (5, .invokevirtual 53, 3), (8, .aload_n 0, 1), (9, .aload_n 0, 1), (10, .getfield 30, 3), (13, .getfield 59, 3), (16, .invokevirtual 64, 3), (19, .iconst 0, 1), (20, .istore_n 1, 1), (21, .iload_n 1, 1), (22, .sipush 6002, 3), (25, .if_icmp .ge 118, 3), (28, .aload_n 0, 1), (29, .getfield 15, 3), (32, .ifCond .le 111, 3), (35, .aload_n 0, 1), (36, .getfield 42, 3), (39, .getfield 67, 3), (42, .aload_n 0, 1), (43, .getfield 15, 3), (46, .iconst 1, 1), (47, .isub, 1), (48, .iaload, 1), (49, .ifCond .ne 16, 3), (52, .aload_n 0, 1), (53, .dup, 1), (54, .getfield 15, 3), (57, .iconst 1, 1), (58, .isub, 1), (59, .putfield 15, 3), (62, .goto 75, 3), (65, .aload_n 0, 1), (66, .getfield 9, 3), (69, .aload_n 0, 1), (70, .getfield 34, 3), (73, .bipush 6, 2), (75, .iaload, 1), (76, .if_icmp .lt 6, 3), (79, .bipush (-5), 2), (81, .ireturn, 1), (82, .aload_n 0, 1), (83, .aload_n 0, 1), (84, .getfield 15, 3), (87, .iconst 1, 1), (88, .isub, 1), (89, .invokevirtual 72, 3), (92, .aload_n 0, 1), (93, .getfield 18, 3), (96, .sipush 200, 3), (99, .if_icmp .le 8, 3), (102, .bipush (-12), 2), (104, .goto 7, 3), (107, .aload_n 0, 1), (108, .invokevirtual 75, 3), (111, .istore_n 2, 1), (112, .iload_n 2, 1), (113, .bipush (-11), 2), (115, .if_icmp .ne 11, 3)]
theorem QX3_unfold_0 : qX3_unfold_0.all (fun q => decide (decode cX3_unfold q.1 = .ok q.2)) = true := by decide +kernel
theorem dX3_unfold_0 : decode cX3_unfold 0 = .ok (.aload_n 0, 1) := of_q QX3_unfold_0 0 rfl
theorem dX3_unfold_1 : decode cX3_unfold 1 = .ok (.getfield 38, 3) := of_q QX3_unfold_0 1 rfl
theorem dX3_unfold_4 : decode cX3_unfold 4 = .ok (.iconst 0, 1) := of_q QX3_unfold_0 2 rfl
theorem dX3_unfold_5 : decode cX3_unfold 5 = .ok (.invokevirtual 53, 3) := of_q QX3_unfold_0 3 rfl
theorem dX3_unfold_8 : decode cX3_unfold 8 = .ok (.aload_n 0, 1) := of_q QX3_unfold_0 4 rfl
theorem dX3_unfold_9 : decode cX3_unfold 9 = .ok (.aload_n 0, 1) := of_q QX3_unfold_0 5 rfl
theorem dX3_unfold_10 : decode cX3_unfold 10 = .ok (.getfield 30, 3) := of_q QX3_unfold_0 6 rfl
theorem dX3_unfold_13 : decode cX3_unfold 13 = .ok (.getfield 59, 3) := of_q QX3_unfold_0 7 rfl
theorem dX3_unfold_16 : decode cX3_unfold 16 = .ok (.invokevirtual 64, 3) := of_q QX3_unfold_0 8 rfl
theorem dX3_unfold_19 : decode cX3_unfold 19 = .ok (.iconst 0, 1) := of_q QX3_unfold_0 9 rfl
theorem dX3_unfold_20 : decode cX3_unfold 20 = .ok (.istore_n 1, 1) := of_q QX3_unfold_0 10 rfl
theorem dX3_unfold_21 : decode cX3_unfold 21 = .ok (.iload_n 1, 1) := of_q QX3_unfold_0 11 rfl
theorem dX3_unfold_22 : decode cX3_unfold 22 = .ok (.sipush 6002, 3) := of_q QX3_unfold_0 12 rfl
theorem dX3_unfold_25 : decode cX3_unfold 25 = .ok (.if_icmp .ge 118, 3) := of_q QX3_unfold_0 13 rfl
theorem dX3_unfold_28 : decode cX3_unfold 28 = .ok (.aload_n 0, 1) := of_q QX3_unfold_0 14 rfl
theorem dX3_unfold_29 : decode cX3_unfold 29 = .ok (.getfield 15, 3) := of_q QX3_unfold_0 15 rfl
theorem dX3_unfold_32 : decode cX3_unfold 32 = .ok (.ifCond .le 111, 3) := of_q QX3_unfold_0 16 rfl
theorem dX3_unfold_35 : decode cX3_unfold 35 = .ok (.aload_n 0, 1) := of_q QX3_unfold_0 17 rfl
theorem dX3_unfold_36 : decode cX3_unfold 36 = .ok (.getfield 42, 3) := of_q QX3_unfold_0 18 rfl
theorem dX3_unfold_39 : decode cX3_unfold 39 = .ok (.getfield 67, 3) := of_q QX3_unfold_0 19 rfl
theorem dX3_unfold_42 : decode cX3_unfold 42 = .ok (.aload_n 0, 1) := of_q QX3_unfold_0 20 rfl
theorem dX3_unfold_43 : decode cX3_unfold 43 = .ok (.getfield 15, 3) := of_q QX3_unfold_0 21 rfl
theorem dX3_unfold_46 : decode cX3_unfold 46 = .ok (.iconst 1, 1) := of_q QX3_unfold_0 22 rfl
theorem dX3_unfold_47 : decode cX3_unfold 47 = .ok (.isub, 1) := of_q QX3_unfold_0 23 rfl
theorem dX3_unfold_48 : decode cX3_unfold 48 = .ok (.iaload, 1) := of_q QX3_unfold_0 24 rfl
theorem dX3_unfold_49 : decode cX3_unfold 49 = .ok (.ifCond .ne 16, 3) := of_q QX3_unfold_0 25 rfl
theorem dX3_unfold_52 : decode cX3_unfold 52 = .ok (.aload_n 0, 1) := of_q QX3_unfold_0 26 rfl
theorem dX3_unfold_53 : decode cX3_unfold 53 = .ok (.dup, 1) := of_q QX3_unfold_0 27 rfl
theorem dX3_unfold_54 : decode cX3_unfold 54 = .ok (.getfield 15, 3) := of_q QX3_unfold_0 28 rfl
theorem dX3_unfold_57 : decode cX3_unfold 57 = .ok (.iconst 1, 1) := of_q QX3_unfold_0 29 rfl
theorem dX3_unfold_58 : decode cX3_unfold 58 = .ok (.isub, 1) := of_q QX3_unfold_0 30 rfl
theorem dX3_unfold_59 : decode cX3_unfold 59 = .ok (.putfield 15, 3) := of_q QX3_unfold_0 31 rfl
theorem dX3_unfold_62 : decode cX3_unfold 62 = .ok (.goto 75, 3) := of_q QX3_unfold_0 32 rfl
theorem dX3_unfold_65 : decode cX3_unfold 65 = .ok (.aload_n 0, 1) := of_q QX3_unfold_0 33 rfl
theorem dX3_unfold_66 : decode cX3_unfold 66 = .ok (.getfield 9, 3) := of_q QX3_unfold_0 34 rfl
theorem dX3_unfold_69 : decode cX3_unfold 69 = .ok (.aload_n 0, 1) := of_q QX3_unfold_0 35 rfl
theorem dX3_unfold_70 : decode cX3_unfold 70 = .ok (.getfield 34, 3) := of_q QX3_unfold_0 36 rfl
theorem dX3_unfold_73 : decode cX3_unfold 73 = .ok (.bipush 6, 2) := of_q QX3_unfold_0 37 rfl
theorem dX3_unfold_75 : decode cX3_unfold 75 = .ok (.iaload, 1) := of_q QX3_unfold_0 38 rfl
theorem dX3_unfold_76 : decode cX3_unfold 76 = .ok (.if_icmp .lt 6, 3) := of_q QX3_unfold_0 39 rfl
theorem dX3_unfold_79 : decode cX3_unfold 79 = .ok (.bipush (-5), 2) := of_q QX3_unfold_0 40 rfl
theorem dX3_unfold_81 : decode cX3_unfold 81 = .ok (.ireturn, 1) := of_q QX3_unfold_0 41 rfl
theorem dX3_unfold_82 : decode cX3_unfold 82 = .ok (.aload_n 0, 1) := of_q QX3_unfold_0 42 rfl
theorem dX3_unfold_83 : decode cX3_unfold 83 = .ok (.aload_n 0, 1) := of_q QX3_unfold_0 43 rfl
theorem dX3_unfold_84 : decode cX3_unfold 84 = .ok (.getfield 15, 3) := of_q QX3_unfold_0 44 rfl
theorem dX3_unfold_87 : decode cX3_unfold 87 = .ok (.iconst 1, 1) := of_q QX3_unfold_0 45 rfl
theorem dX3_unfold_88 : decode cX3_unfold 88 = .ok (.isub, 1) := of_q QX3_unfold_0 46 rfl
theorem dX3_unfold_89 : decode cX3_unfold 89 = .ok (.invokevirtual 72, 3) := of_q QX3_unfold_0 47 rfl
theorem dX3_unfold_92 : decode cX3_unfold 92 = .ok (.aload_n 0, 1) := of_q QX3_unfold_0 48 rfl
theorem dX3_unfold_93 : decode cX3_unfold 93 = .ok (.getfield 18, 3) := of_q QX3_unfold_0 49 rfl
theorem dX3_unfold_96 : decode cX3_unfold 96 = .ok (.sipush 200, 3) := of_q QX3_unfold_0 50 rfl
theorem dX3_unfold_99 : decode cX3_unfold 99 = .ok (.if_icmp .le 8, 3) := of_q QX3_unfold_0 51 rfl
theorem dX3_unfold_102 : decode cX3_unfold 102 = .ok (.bipush (-12), 2) := of_q QX3_unfold_0 52 rfl
theorem dX3_unfold_104 : decode cX3_unfold 104 = .ok (.goto 7, 3) := of_q QX3_unfold_0 53 rfl
theorem dX3_unfold_107 : decode cX3_unfold 107 = .ok (.aload_n 0, 1) := of_q QX3_unfold_0 54 rfl
theorem dX3_unfold_108 : decode cX3_unfold 108 = .ok (.invokevirtual 75, 3) := of_q QX3_unfold_0 55 rfl
theorem dX3_unfold_111 : decode cX3_unfold 111 = .ok (.istore_n 2, 1) := of_q QX3_unfold_0 56 rfl
theorem dX3_unfold_112 : decode cX3_unfold 112 = .ok (.iload_n 2, 1) := of_q QX3_unfold_0 57 rfl
theorem dX3_unfold_113 : decode cX3_unfold 113 = .ok (.bipush (-11), 2) := of_q QX3_unfold_0 58 rfl
theorem dX3_unfold_115 : decode cX3_unfold 115 = .ok (.if_icmp .ne 11, 3) := of_q QX3_unfold_0 59 rfl
def qX3_unfold_1 : List (Nat × Instr × Nat) := [(118, .aload_n 0, 1), (119, .getfield 38, 3), (122, .getfield 79, 3), (125, .ireturn, 1), (126, .iload_n 2, 1), (127, .bipush (-12), 2), (129, .if_icmp .eq 8, 3), (132, .aload_n 0, 1), (133, .iload_n 2, 1), (134, .invokevirtual 64, 3), (137, .iinc 1 1, 3), (140, .goto (-119), 3), (143, .aload_n 0, 1), (144, .getfield 15, 3), (147, .ifCond .ne 7, 3), (150, .iconst (-1), 1), (151, .goto 5, 3), (154, .bipush (-5), 2), (156, .ireturn, 1)]
theorem QX3_unfold_1 : qX3_unfold_1.all (fun q => decide (decode cX3_unfold q.1 = .ok q.2)) = true := by decide +kernel
theorem dX3_unfold_118 : decode cX3_unfold 118 = .ok (.aload_n 0, 1) := of_q QX3_unfold_1 0 rfl
theorem dX3_unfold_119 : decode cX3_unfold 119 = .ok (.getfield 38, 3) := of_q QX3_unfold_1 1 rfl
theorem dX3_unfold_122 : decode cX3_unfold 122 = .ok (.getfield 79, 3) := of_q QX3_unfold_1 2 rfl
theorem dX3_unfold_125 : decode cX3_unfold 125 = .ok (.ireturn, 1) := of_q QX3_unfold_1 3 rfl
theorem dX3_unfold_126 : decode cX3_unfold 126 = .ok (.iload_n 2, 1) := of_q QX3_unfold_1 4 rfl
theorem dX3_unfold_127 : decode cX3_unfold 127 = .ok (.bipush (-12), 2) := of_q QX3_unfold_1 5 rfl
theorem dX3_unfold_129 : decode cX3_unfold 129 = .ok (.if_icmp .eq 8, 3) := of_q QX3_unfold_1 6 rfl
theorem dX3_unfold_132 : decode cX3_unfold 132 = .ok (.aload_n 0, 1) := of_q QX3_unfold_1 7 rfl
theorem dX3_unfold_133 : decode cX3_unfold 133 = .ok (.iload_n 2, 1) := of_q QX3_unfold_1 8 rfl
theorem dX3_unfold_134 : decode cX3_unfold 134 = .ok (.invokevirtual 64, 3) := of_q QX3_unfold_1 9 rfl
theorem dX3_unfold_137 : decode cX3_unfold 137 = .ok (.iinc 1 1, 3) := of_q QX3_unfold_1 10 rfl
theorem dX3_unfold_140 : decode cX3_unfold 140 = .ok (.goto (-119), 3) := of_q QX3_unfold_1 11 rfl
theorem dX3_unfold_143 : decode cX3_unfold 143 = .ok (.aload_n 0, 1) := of_q QX3_unfold_1 12 rfl
theorem dX3_unfold_144 : decode cX3_unfold 144 = .ok (.getfield 15, 3) := of_q QX3_unfold_1 13 rfl
theorem dX3_unfold_147 : decode cX3_unfold 147 = .ok (.ifCond .ne 7, 3) := of_q QX3_unfold_1 14 rfl
theorem dX3_unfold_150 : decode cX3_unfold 150 = .ok (.iconst (-1), 1) := of_q QX3_unfold_1 15 rfl
theorem dX3_unfold_151 : decode cX3_unfold 151 = .ok (.goto 5, 3) := of_q QX3_unfold_1 16 rfl
theorem dX3_unfold_154 : decode cX3_unfold 154 = .ok (.bipush (-5), 2) := of_q QX3_unfold_1 17 rfl
theorem dX3_unfold_156 : decode cX3_unfold 156 = .ok (.ireturn, 1) := of_q QX3_unfold_1 18 rfl
def qX3_openPlace_0 : List (Nat × Instr × Nat) := [(0, .aload_n 0, 1), (1, .getfield 15, 3), (4, .sipush 3001, 3), (7, .if_icmp .ge 14, 3), (10, .aload_n 0, 1), (11, .getfield 30, 3), (14, .iload_n 1, 1), (15, .invokevirtual 82, 3), (18, .ifCond .ne 4, 3), (21, .return_, 1), (22, .aload_n 0, 1), (23, .getfield 42, 3), (26, .getfield 86, 3), (29, .aload_n 0, 1), (30, .getfield 15, 3), (33, .iload_n 1, 1), (34, .iastore, 1), (35, .aload_n 0, 1), (36, .getfield 42, 3), (39, .getfield 67, 3), (42, .aload_n 0, 1), (43, .getfield 15, 3), (46, .aload_n 0, 1), (47, .getfield 30, 3), (50, .getfield 89, 3), (53, .iload_n 1, 1), (54, .iaload, 1), (55, .iastore, 1), (56, .aload_n 0, 1), (57, .getfield 42, 3), (60, .getfield 92, 3), (63, .aload_n 0, 1), (64, .getfield 15, 3), (67, .lconst 0, 1), (68, .lastore, 1), (69, .aload_n 0, 1), (70, .getfield 42, 3), (73, .getfield 96, 3), (76, .aload_n 0, 1), (77, .getfield 15, 3), (80, .aload_n 0, 1), (81, .getfield 38, 3), (84, .getfield 79, 3), (87, .iastore, 1), (88, .aload_n 0, 1), (89, .getfield 42, 3), (92, .getfield 99, 3), (95, .aload_n 0, 1), (96, .getfield 15, 3), (99, .aload_n 0, 1), (100, .getfield 18, 3), (103, .iastore, 1), (104, .aload_n 0, 1), (105, .getfield 42, 3), (108, .getfield 101, 3), (111, .aload_n 0, 1), (112, .getfield 15, 3), (115, .aload_n 0, 1), (116, .getfield 21, 3), (119, .iastore, 1)]
theorem QX3_openPlace_0 : qX3_openPlace_0.all (fun q => decide (decode cX3_openPlace q.1 = .ok q.2)) = true := by decide +kernel
theorem dX3_openPlace_0 : decode cX3_openPlace 0 = .ok (.aload_n 0, 1) := of_q QX3_openPlace_0 0 rfl
theorem dX3_openPlace_1 : decode cX3_openPlace 1 = .ok (.getfield 15, 3) := of_q QX3_openPlace_0 1 rfl
theorem dX3_openPlace_4 : decode cX3_openPlace 4 = .ok (.sipush 3001, 3) := of_q QX3_openPlace_0 2 rfl
theorem dX3_openPlace_7 : decode cX3_openPlace 7 = .ok (.if_icmp .ge 14, 3) := of_q QX3_openPlace_0 3 rfl
theorem dX3_openPlace_10 : decode cX3_openPlace 10 = .ok (.aload_n 0, 1) := of_q QX3_openPlace_0 4 rfl
theorem dX3_openPlace_11 : decode cX3_openPlace 11 = .ok (.getfield 30, 3) := of_q QX3_openPlace_0 5 rfl
theorem dX3_openPlace_14 : decode cX3_openPlace 14 = .ok (.iload_n 1, 1) := of_q QX3_openPlace_0 6 rfl
theorem dX3_openPlace_15 : decode cX3_openPlace 15 = .ok (.invokevirtual 82, 3) := of_q QX3_openPlace_0 7 rfl
theorem dX3_openPlace_18 : decode cX3_openPlace 18 = .ok (.ifCond .ne 4, 3) := of_q QX3_openPlace_0 8 rfl
theorem dX3_openPlace_21 : decode cX3_openPlace 21 = .ok (.return_, 1) := of_q QX3_openPlace_0 9 rfl
theorem dX3_openPlace_22 : decode cX3_openPlace 22 = .ok (.aload_n 0, 1) := of_q QX3_openPlace_0 10 rfl
theorem dX3_openPlace_23 : decode cX3_openPlace 23 = .ok (.getfield 42, 3) := of_q QX3_openPlace_0 11 rfl
theorem dX3_openPlace_26 : decode cX3_openPlace 26 = .ok (.getfield 86, 3) := of_q QX3_openPlace_0 12 rfl
theorem dX3_openPlace_29 : decode cX3_openPlace 29 = .ok (.aload_n 0, 1) := of_q QX3_openPlace_0 13 rfl
theorem dX3_openPlace_30 : decode cX3_openPlace 30 = .ok (.getfield 15, 3) := of_q QX3_openPlace_0 14 rfl
theorem dX3_openPlace_33 : decode cX3_openPlace 33 = .ok (.iload_n 1, 1) := of_q QX3_openPlace_0 15 rfl
theorem dX3_openPlace_34 : decode cX3_openPlace 34 = .ok (.iastore, 1) := of_q QX3_openPlace_0 16 rfl
theorem dX3_openPlace_35 : decode cX3_openPlace 35 = .ok (.aload_n 0, 1) := of_q QX3_openPlace_0 17 rfl
theorem dX3_openPlace_36 : decode cX3_openPlace 36 = .ok (.getfield 42, 3) := of_q QX3_openPlace_0 18 rfl
theorem dX3_openPlace_39 : decode cX3_openPlace 39 = .ok (.getfield 67, 3) := of_q QX3_openPlace_0 19 rfl
theorem dX3_openPlace_42 : decode cX3_openPlace 42 = .ok (.aload_n 0, 1) := of_q QX3_openPlace_0 20 rfl
theorem dX3_openPlace_43 : decode cX3_openPlace 43 = .ok (.getfield 15, 3) := of_q QX3_openPlace_0 21 rfl
theorem dX3_openPlace_46 : decode cX3_openPlace 46 = .ok (.aload_n 0, 1) := of_q QX3_openPlace_0 22 rfl
theorem dX3_openPlace_47 : decode cX3_openPlace 47 = .ok (.getfield 30, 3) := of_q QX3_openPlace_0 23 rfl
theorem dX3_openPlace_50 : decode cX3_openPlace 50 = .ok (.getfield 89, 3) := of_q QX3_openPlace_0 24 rfl
theorem dX3_openPlace_53 : decode cX3_openPlace 53 = .ok (.iload_n 1, 1) := of_q QX3_openPlace_0 25 rfl
theorem dX3_openPlace_54 : decode cX3_openPlace 54 = .ok (.iaload, 1) := of_q QX3_openPlace_0 26 rfl
theorem dX3_openPlace_55 : decode cX3_openPlace 55 = .ok (.iastore, 1) := of_q QX3_openPlace_0 27 rfl
theorem dX3_openPlace_56 : decode cX3_openPlace 56 = .ok (.aload_n 0, 1) := of_q QX3_openPlace_0 28 rfl
theorem dX3_openPlace_57 : decode cX3_openPlace 57 = .ok (.getfield 42, 3) := of_q QX3_openPlace_0 29 rfl
theorem dX3_openPlace_60 : decode cX3_openPlace 60 = .ok (.getfield 92, 3) := of_q QX3_openPlace_0 30 rfl
theorem dX3_openPlace_63 : decode cX3_openPlace 63 = .ok (.aload_n 0, 1) := of_q QX3_openPlace_0 31 rfl
theorem dX3_openPlace_64 : decode cX3_openPlace 64 = .ok (.getfield 15, 3) := of_q QX3_openPlace_0 32 rfl
theorem dX3_openPlace_67 : decode cX3_openPlace 67 = .ok (.lconst 0, 1) := of_q QX3_openPlace_0 33 rfl
theorem dX3_openPlace_68 : decode cX3_openPlace 68 = .ok (.lastore, 1) := of_q QX3_openPlace_0 34 rfl
theorem dX3_openPlace_69 : decode cX3_openPlace 69 = .ok (.aload_n 0, 1) := of_q QX3_openPlace_0 35 rfl
theorem dX3_openPlace_70 : decode cX3_openPlace 70 = .ok (.getfield 42, 3) := of_q QX3_openPlace_0 36 rfl
theorem dX3_openPlace_73 : decode cX3_openPlace 73 = .ok (.getfield 96, 3) := of_q QX3_openPlace_0 37 rfl
theorem dX3_openPlace_76 : decode cX3_openPlace 76 = .ok (.aload_n 0, 1) := of_q QX3_openPlace_0 38 rfl
theorem dX3_openPlace_77 : decode cX3_openPlace 77 = .ok (.getfield 15, 3) := of_q QX3_openPlace_0 39 rfl
theorem dX3_openPlace_80 : decode cX3_openPlace 80 = .ok (.aload_n 0, 1) := of_q QX3_openPlace_0 40 rfl
theorem dX3_openPlace_81 : decode cX3_openPlace 81 = .ok (.getfield 38, 3) := of_q QX3_openPlace_0 41 rfl
theorem dX3_openPlace_84 : decode cX3_openPlace 84 = .ok (.getfield 79, 3) := of_q QX3_openPlace_0 42 rfl
theorem dX3_openPlace_87 : decode cX3_openPlace 87 = .ok (.iastore, 1) := of_q QX3_openPlace_0 43 rfl
theorem dX3_openPlace_88 : decode cX3_openPlace 88 = .ok (.aload_n 0, 1) := of_q QX3_openPlace_0 44 rfl
theorem dX3_openPlace_89 : decode cX3_openPlace 89 = .ok (.getfield 42, 3) := of_q QX3_openPlace_0 45 rfl
theorem dX3_openPlace_92 : decode cX3_openPlace 92 = .ok (.getfield 99, 3) := of_q QX3_openPlace_0 46 rfl
theorem dX3_openPlace_95 : decode cX3_openPlace 95 = .ok (.aload_n 0, 1) := of_q QX3_openPlace_0 47 rfl
theorem dX3_openPlace_96 : decode cX3_openPlace 96 = .ok (.getfield 15, 3) := of_q QX3_openPlace_0 48 rfl
theorem dX3_openPlace_99 : decode cX3_openPlace 99 = .ok (.aload_n 0, 1) := of_q QX3_openPlace_0 49 rfl
theorem dX3_openPlace_100 : decode cX3_openPlace 100 = .ok (.getfield 18, 3) := of_q QX3_openPlace_0 50 rfl
theorem dX3_openPlace_103 : decode cX3_openPlace 103 = .ok (.iastore, 1) := of_q QX3_openPlace_0 51 rfl
theorem dX3_openPlace_104 : decode cX3_openPlace 104 = .ok (.aload_n 0, 1) := of_q QX3_openPlace_0 52 rfl
theorem dX3_openPlace_105 : decode cX3_openPlace 105 = .ok (.getfield 42, 3) := of_q QX3_openPlace_0 53 rfl
theorem dX3_openPlace_108 : decode cX3_openPlace 108 = .ok (.getfield 101, 3) := of_q QX3_openPlace_0 54 rfl
theorem dX3_openPlace_111 : decode cX3_openPlace 111 = .ok (.aload_n 0, 1) := of_q QX3_openPlace_0 55 rfl
theorem dX3_openPlace_112 : decode cX3_openPlace 112 = .ok (.getfield 15, 3) := of_q QX3_openPlace_0 56 rfl
theorem dX3_openPlace_115 : decode cX3_openPlace 115 = .ok (.aload_n 0, 1) := of_q QX3_openPlace_0 57 rfl
theorem dX3_openPlace_116 : decode cX3_openPlace 116 = .ok (.getfield 21, 3) := of_q QX3_openPlace_0 58 rfl
theorem dX3_openPlace_119 : decode cX3_openPlace 119 = .ok (.iastore, 1) := of_q QX3_openPlace_0 59 rfl
def qX3_openPlace_1 : List (Nat × Instr × Nat) := [(120, .aload_n 0, 1), (121, .getfield 42, 3), (124, .getfield 104, 3), (127, .aload_n 0, 1), (128, .getfield 15, 3), (131, .aload_n 0, 1), (132, .getfield 24, 3), (135, .iastore, 1), (136, .aload_n 0, 1), (137, .getfield 42, 3), (140, .getfield 107, 3), (143, .aload_n 0, 1), (144, .getfield 15, 3), (147, .aload_n 0, 1), (148, .getfield 27, 3), (151, .iastore, 1), (152, .aload_n 0, 1), (153, .dup, 1), (154, .getfield 15, 3), (157, .iconst 1, 1), (158, .iadd, 1), (159, .putfield 15, 3), (162, .return_, 1)]
theorem QX3_openPlace_1 : qX3_openPlace_1.all (fun q => decide (decode cX3_openPlace q.1 = .ok q.2)) = true := by decide +kernel
theorem dX3_openPlace_120 : decode cX3_openPlace 120 = .ok (.aload_n 0, 1) := of_q QX3_openPlace_1 0 rfl
theorem dX3_openPlace_121 : decode cX3_openPlace 121 = .ok (.getfield 42, 3) := of_q QX3_openPlace_1 1 rfl
theorem dX3_openPlace_124 : decode cX3_openPlace 124 = .ok (.getfield 104, 3) := of_q QX3_openPlace_1 2 rfl
theorem dX3_openPlace_127 : decode cX3_openPlace 127 = .ok (.aload_n 0, 1) := of_q QX3_openPlace_1 3 rfl
theorem dX3_openPlace_128 : decode cX3_openPlace 128 = .ok (.getfield 15, 3) := of_q QX3_openPlace_1 4 rfl
theorem dX3_openPlace_131 : decode cX3_openPlace 131 = .ok (.aload_n 0, 1) := of_q QX3_openPlace_1 5 rfl
theorem dX3_openPlace_132 : decode cX3_openPlace 132 = .ok (.getfield 24, 3) := of_q QX3_openPlace_1 6 rfl
theorem dX3_openPlace_135 : decode cX3_openPlace 135 = .ok (.iastore, 1) := of_q QX3_openPlace_1 7 rfl
theorem dX3_openPlace_136 : decode cX3_openPlace 136 = .ok (.aload_n 0, 1) := of_q QX3_openPlace_1 8 rfl
theorem dX3_openPlace_137 : decode cX3_openPlace 137 = .ok (.getfield 42, 3) := of_q QX3_openPlace_1 9 rfl
theorem dX3_openPlace_140 : decode cX3_openPlace 140 = .ok (.getfield 107, 3) := of_q QX3_openPlace_1 10 rfl
theorem dX3_openPlace_143 : decode cX3_openPlace 143 = .ok (.aload_n 0, 1) := of_q QX3_openPlace_1 11 rfl
theorem dX3_openPlace_144 : decode cX3_openPlace 144 = .ok (.getfield 15, 3) := of_q QX3_openPlace_1 12 rfl
theorem dX3_openPlace_147 : decode cX3_openPlace 147 = .ok (.aload_n 0, 1) := of_q QX3_openPlace_1 13 rfl
theorem dX3_openPlace_148 : decode cX3_openPlace 148 = .ok (.getfield 27, 3) := of_q QX3_openPlace_1 14 rfl
theorem dX3_openPlace_151 : decode cX3_openPlace 151 = .ok (.iastore, 1) := of_q QX3_openPlace_1 15 rfl
theorem dX3_openPlace_152 : decode cX3_openPlace 152 = .ok (.aload_n 0, 1) := of_q QX3_openPlace_1 16 rfl
theorem dX3_openPlace_153 : decode cX3_openPlace 153 = .ok (.dup, 1) := of_q QX3_openPlace_1 17 rfl
theorem dX3_openPlace_154 : decode cX3_openPlace 154 = .ok (.getfield 15, 3) := of_q QX3_openPlace_1 18 rfl
theorem dX3_openPlace_157 : decode cX3_openPlace 157 = .ok (.iconst 1, 1) := of_q QX3_openPlace_1 19 rfl
theorem dX3_openPlace_158 : decode cX3_openPlace 158 = .ok (.iadd, 1) := of_q QX3_openPlace_1 20 rfl
theorem dX3_openPlace_159 : decode cX3_openPlace 159 = .ok (.putfield 15, 3) := of_q QX3_openPlace_1 21 rfl
theorem dX3_openPlace_162 : decode cX3_openPlace 162 = .ok (.return_, 1) := of_q QX3_openPlace_1 22 rfl
def qX3_takeAnother_0 : List (Nat × Instr × Nat) := [(0, .aload_n 0, 1), (1, .iload_n 1, 1), (2, .invokevirtual 110, 3), (5, .istore_n 2, 1), (6, .aload_n 0, 1), (7, .dup, 1), (8, .getfield 9, 3), (11, .iconst 1, 1), (12, .iadd, 1), (13, .putfield 9, 3), (16, .aload_n 0, 1), (17, .getfield 38, 3), (20, .aload_n 0, 1), (21, .getfield 42, 3), (24, .getfield 96, 3), (27, .iload_n 1, 1), (28, .iaload, 1), (29, .invokevirtual 53, 3), (32, .aload_n 0, 1), (33, .aload_n 0, 1), (34, .getfield 30, 3), (37, .getfield 114, 3), (40, .iload_n 2, 1), (41, .iaload, 1), (42, .putfield 21, 3), (45, .aload_n 0, 1), (46, .aload_n 0, 1), (47, .getfield 30, 3), (50, .getfield 117, 3), (53, .iload_n 2, 1), (54, .iaload, 1), (55, .putfield 24, 3), (58, .aload_n 0, 1), (59, .iload_n 1, 1), (60, .putfield 27, 3), (63, .aload_n 0, 1), (64, .aload_n 0, 1), (65, .getfield 42, 3), (68, .getfield 99, 3), (71, .iload_n 1, 1), (72, .iaload, 1), (73, .aload_n 0, 1), (74, .getfield 24, 3), (77, .iadd, 1), (78, .aload_n 0, 1), (79, .getfield 21, 3), (82, .isub, 1), (83, .putfield 18, 3), (86, .return_, 1)]
theorem QX3_takeAnother_0 : qX3_takeAnother_0.all (fun q => decide (decode cX3_takeAnother q.1 = .ok q.2)) = true := by decide +kernel
theorem dX3_takeAnother_0 : decode cX3_takeAnother 0 = .ok (.aload_n 0, 1) := of_q QX3_takeAnother_0 0 rfl
theorem dX3_takeAnother_1 : decode cX3_takeAnother 1 = .ok (.iload_n 1, 1) := of_q QX3_takeAnother_0 1 rfl
theorem dX3_takeAnother_2 : decode cX3_takeAnother 2 = .ok (.invokevirtual 110, 3) := of_q QX3_takeAnother_0 2 rfl
theorem dX3_takeAnother_5 : decode cX3_takeAnother 5 = .ok (.istore_n 2, 1) := of_q QX3_takeAnother_0 3 rfl
theorem dX3_takeAnother_6 : decode cX3_takeAnother 6 = .ok (.aload_n 0, 1) := of_q QX3_takeAnother_0 4 rfl
theorem dX3_takeAnother_7 : decode cX3_takeAnother 7 = .ok (.dup, 1) := of_q QX3_takeAnother_0 5 rfl
theorem dX3_takeAnother_8 : decode cX3_takeAnother 8 = .ok (.getfield 9, 3) := of_q QX3_takeAnother_0 6 rfl
theorem dX3_takeAnother_11 : decode cX3_takeAnother 11 = .ok (.iconst 1, 1) := of_q QX3_takeAnother_0 7 rfl
theorem dX3_takeAnother_12 : decode cX3_takeAnother 12 = .ok (.iadd, 1) := of_q QX3_takeAnother_0 8 rfl
theorem dX3_takeAnother_13 : decode cX3_takeAnother 13 = .ok (.putfield 9, 3) := of_q QX3_takeAnother_0 9 rfl
theorem dX3_takeAnother_16 : decode cX3_takeAnother 16 = .ok (.aload_n 0, 1) := of_q QX3_takeAnother_0 10 rfl
theorem dX3_takeAnother_17 : decode cX3_takeAnother 17 = .ok (.getfield 38, 3) := of_q QX3_takeAnother_0 11 rfl
theorem dX3_takeAnother_20 : decode cX3_takeAnother 20 = .ok (.aload_n 0, 1) := of_q QX3_takeAnother_0 12 rfl
theorem dX3_takeAnother_21 : decode cX3_takeAnother 21 = .ok (.getfield 42, 3) := of_q QX3_takeAnother_0 13 rfl
theorem dX3_takeAnother_24 : decode cX3_takeAnother 24 = .ok (.getfield 96, 3) := of_q QX3_takeAnother_0 14 rfl
theorem dX3_takeAnother_27 : decode cX3_takeAnother 27 = .ok (.iload_n 1, 1) := of_q QX3_takeAnother_0 15 rfl
theorem dX3_takeAnother_28 : decode cX3_takeAnother 28 = .ok (.iaload, 1) := of_q QX3_takeAnother_0 16 rfl
theorem dX3_takeAnother_29 : decode cX3_takeAnother 29 = .ok (.invokevirtual 53, 3) := of_q QX3_takeAnother_0 17 rfl
theorem dX3_takeAnother_32 : decode cX3_takeAnother 32 = .ok (.aload_n 0, 1) := of_q QX3_takeAnother_0 18 rfl
theorem dX3_takeAnother_33 : decode cX3_takeAnother 33 = .ok (.aload_n 0, 1) := of_q QX3_takeAnother_0 19 rfl
theorem dX3_takeAnother_34 : decode cX3_takeAnother 34 = .ok (.getfield 30, 3) := of_q QX3_takeAnother_0 20 rfl
theorem dX3_takeAnother_37 : decode cX3_takeAnother 37 = .ok (.getfield 114, 3) := of_q QX3_takeAnother_0 21 rfl
theorem dX3_takeAnother_40 : decode cX3_takeAnother 40 = .ok (.iload_n 2, 1) := of_q QX3_takeAnother_0 22 rfl
theorem dX3_takeAnother_41 : decode cX3_takeAnother 41 = .ok (.iaload, 1) := of_q QX3_takeAnother_0 23 rfl
theorem dX3_takeAnother_42 : decode cX3_takeAnother 42 = .ok (.putfield 21, 3) := of_q QX3_takeAnother_0 24 rfl
theorem dX3_takeAnother_45 : decode cX3_takeAnother 45 = .ok (.aload_n 0, 1) := of_q QX3_takeAnother_0 25 rfl
theorem dX3_takeAnother_46 : decode cX3_takeAnother 46 = .ok (.aload_n 0, 1) := of_q QX3_takeAnother_0 26 rfl
theorem dX3_takeAnother_47 : decode cX3_takeAnother 47 = .ok (.getfield 30, 3) := of_q QX3_takeAnother_0 27 rfl
theorem dX3_takeAnother_50 : decode cX3_takeAnother 50 = .ok (.getfield 117, 3) := of_q QX3_takeAnother_0 28 rfl
theorem dX3_takeAnother_53 : decode cX3_takeAnother 53 = .ok (.iload_n 2, 1) := of_q QX3_takeAnother_0 29 rfl
theorem dX3_takeAnother_54 : decode cX3_takeAnother 54 = .ok (.iaload, 1) := of_q QX3_takeAnother_0 30 rfl
theorem dX3_takeAnother_55 : decode cX3_takeAnother 55 = .ok (.putfield 24, 3) := of_q QX3_takeAnother_0 31 rfl
theorem dX3_takeAnother_58 : decode cX3_takeAnother 58 = .ok (.aload_n 0, 1) := of_q QX3_takeAnother_0 32 rfl
theorem dX3_takeAnother_59 : decode cX3_takeAnother 59 = .ok (.iload_n 1, 1) := of_q QX3_takeAnother_0 33 rfl
theorem dX3_takeAnother_60 : decode cX3_takeAnother 60 = .ok (.putfield 27, 3) := of_q QX3_takeAnother_0 34 rfl
theorem dX3_takeAnother_63 : decode cX3_takeAnother 63 = .ok (.aload_n 0, 1) := of_q QX3_takeAnother_0 35 rfl
theorem dX3_takeAnother_64 : decode cX3_takeAnother 64 = .ok (.aload_n 0, 1) := of_q QX3_takeAnother_0 36 rfl
theorem dX3_takeAnother_65 : decode cX3_takeAnother 65 = .ok (.getfield 42, 3) := of_q QX3_takeAnother_0 37 rfl
theorem dX3_takeAnother_68 : decode cX3_takeAnother 68 = .ok (.getfield 99, 3) := of_q QX3_takeAnother_0 38 rfl
theorem dX3_takeAnother_71 : decode cX3_takeAnother 71 = .ok (.iload_n 1, 1) := of_q QX3_takeAnother_0 39 rfl
theorem dX3_takeAnother_72 : decode cX3_takeAnother 72 = .ok (.iaload, 1) := of_q QX3_takeAnother_0 40 rfl
theorem dX3_takeAnother_73 : decode cX3_takeAnother 73 = .ok (.aload_n 0, 1) := of_q QX3_takeAnother_0 41 rfl
theorem dX3_takeAnother_74 : decode cX3_takeAnother 74 = .ok (.getfield 24, 3) := of_q QX3_takeAnother_0 42 rfl
theorem dX3_takeAnother_77 : decode cX3_takeAnother 77 = .ok (.iadd, 1) := of_q QX3_takeAnother_0 43 rfl
theorem dX3_takeAnother_78 : decode cX3_takeAnother 78 = .ok (.aload_n 0, 1) := of_q QX3_takeAnother_0 44 rfl
theorem dX3_takeAnother_79 : decode cX3_takeAnother 79 = .ok (.getfield 21, 3) := of_q QX3_takeAnother_0 45 rfl
theorem dX3_takeAnother_82 : decode cX3_takeAnother 82 = .ok (.isub, 1) := of_q QX3_takeAnother_0 46 rfl
theorem dX3_takeAnother_83 : decode cX3_takeAnother 83 = .ok (.putfield 18, 3) := of_q QX3_takeAnother_0 47 rfl
theorem dX3_takeAnother_86 : decode cX3_takeAnother 86 = .ok (.return_, 1) := of_q QX3_takeAnother_0 48 rfl
def qX3_choose_0 : List (Nat × Instr × Nat) := [(0, .aload_n 0, 1), (1, .getfield 42, 3), (4, .getfield 86, 3), (7, .iload_n 1, 1), (8, .iaload, 1), (9, .istore_n 2, 1), (10, .aload_n 0, 1), (11, .getfield 30, 3), (14, .getfield 120, 3), (17, .iload_n 2, 1), (18, .iaload, 1), (19, .istore_n 3, 1), (20, .aload_n 0, 1), (21, .getfield 46, 3), (24, .aload_n 0, 1), (25, .getfield 42, 3), (28, .getfield 67, 3), (31, .iload_n 1, 1), (32, .iaload, 1), (33, .invokevirtual 123, 3), (36, .istore 4, 2), (38, .iconst 0, 1), (39, .istore 5, 2), (41, .iconst 0, 1), (42, .istore 6, 2), (44, .iload 6, 2), (46, .aload_n 0, 1), (47, .getfield 30, 3), (50, .getfield 128, 3), (53, .iload_n 2, 1), (54, .iaload, 1), (55, .if_icmp .ge 60, 3), (58, .aload_n 0, 1), (59, .getfield 42, 3), (62, .getfield 92, 3), (65, .iload_n 1, 1), (66, .laload, 1), (67, .iload 6, 2), (69, .lushr, 1), (70, .lconst 1, 1), (71, .land, 1), (72, .lconst 0, 1), (73, .lcmp, 1), (74, .ifCond .eq 6, 3), (77, .goto 32, 3), (80, .iload 6, 2), (82, .istore 5, 2), (84, .iload 4, 2), (86, .aload_n 0, 1), (87, .getfield 30, 3), (90, .getfield 131, 3), (93, .iload_n 3, 1), (94, .iload 6, 2), (96, .iadd, 1), (97, .iaload, 1), (98, .isub, 1), (99, .istore 4, 2), (101, .iload 4, 2), (103, .ifCond .ge 6, 3), (106, .goto 9, 3)]
theorem QX3_choose_0 : qX3_choose_0.all (fun q => decide (decode cX3_choose q.1 = .ok q.2)) = true := by decide +kernel
theorem dX3_choose_0 : decode cX3_choose 0 = .ok (.aload_n 0, 1) := of_q QX3_choose_0 0 rfl
theorem dX3_choose_1 : decode cX3_choose 1 = .ok (.getfield 42, 3) := of_q QX3_choose_0 1 rfl
theorem dX3_choose_4 : decode cX3_choose 4 = .ok (.getfield 86, 3) := of_q QX3_choose_0 2 rfl
theorem dX3_choose_7 : decode cX3_choose 7 = .ok (.iload_n 1, 1) := of_q QX3_choose_0 3 rfl
theorem dX3_choose_8 : decode cX3_choose 8 = .ok (.iaload, 1) := of_q QX3_choose_0 4 rfl
theorem dX3_choose_9 : decode cX3_choose 9 = .ok (.istore_n 2, 1) := of_q QX3_choose_0 5 rfl
theorem dX3_choose_10 : decode cX3_choose 10 = .ok (.aload_n 0, 1) := of_q QX3_choose_0 6 rfl
theorem dX3_choose_11 : decode cX3_choose 11 = .ok (.getfield 30, 3) := of_q QX3_choose_0 7 rfl
theorem dX3_choose_14 : decode cX3_choose 14 = .ok (.getfield 120, 3) := of_q QX3_choose_0 8 rfl
theorem dX3_choose_17 : decode cX3_choose 17 = .ok (.iload_n 2, 1) := of_q QX3_choose_0 9 rfl
theorem dX3_choose_18 : decode cX3_choose 18 = .ok (.iaload, 1) := of_q QX3_choose_0 10 rfl
theorem dX3_choose_19 : decode cX3_choose 19 = .ok (.istore_n 3, 1) := of_q QX3_choose_0 11 rfl
theorem dX3_choose_20 : decode cX3_choose 20 = .ok (.aload_n 0, 1) := of_q QX3_choose_0 12 rfl
theorem dX3_choose_21 : decode cX3_choose 21 = .ok (.getfield 46, 3) := of_q QX3_choose_0 13 rfl
theorem dX3_choose_24 : decode cX3_choose 24 = .ok (.aload_n 0, 1) := of_q QX3_choose_0 14 rfl
theorem dX3_choose_25 : decode cX3_choose 25 = .ok (.getfield 42, 3) := of_q QX3_choose_0 15 rfl
theorem dX3_choose_28 : decode cX3_choose 28 = .ok (.getfield 67, 3) := of_q QX3_choose_0 16 rfl
theorem dX3_choose_31 : decode cX3_choose 31 = .ok (.iload_n 1, 1) := of_q QX3_choose_0 17 rfl
theorem dX3_choose_32 : decode cX3_choose 32 = .ok (.iaload, 1) := of_q QX3_choose_0 18 rfl
theorem dX3_choose_33 : decode cX3_choose 33 = .ok (.invokevirtual 123, 3) := of_q QX3_choose_0 19 rfl
theorem dX3_choose_36 : decode cX3_choose 36 = .ok (.istore 4, 2) := of_q QX3_choose_0 20 rfl
theorem dX3_choose_38 : decode cX3_choose 38 = .ok (.iconst 0, 1) := of_q QX3_choose_0 21 rfl
theorem dX3_choose_39 : decode cX3_choose 39 = .ok (.istore 5, 2) := of_q QX3_choose_0 22 rfl
theorem dX3_choose_41 : decode cX3_choose 41 = .ok (.iconst 0, 1) := of_q QX3_choose_0 23 rfl
theorem dX3_choose_42 : decode cX3_choose 42 = .ok (.istore 6, 2) := of_q QX3_choose_0 24 rfl
theorem dX3_choose_44 : decode cX3_choose 44 = .ok (.iload 6, 2) := of_q QX3_choose_0 25 rfl
theorem dX3_choose_46 : decode cX3_choose 46 = .ok (.aload_n 0, 1) := of_q QX3_choose_0 26 rfl
theorem dX3_choose_47 : decode cX3_choose 47 = .ok (.getfield 30, 3) := of_q QX3_choose_0 27 rfl
theorem dX3_choose_50 : decode cX3_choose 50 = .ok (.getfield 128, 3) := of_q QX3_choose_0 28 rfl
theorem dX3_choose_53 : decode cX3_choose 53 = .ok (.iload_n 2, 1) := of_q QX3_choose_0 29 rfl
theorem dX3_choose_54 : decode cX3_choose 54 = .ok (.iaload, 1) := of_q QX3_choose_0 30 rfl
theorem dX3_choose_55 : decode cX3_choose 55 = .ok (.if_icmp .ge 60, 3) := of_q QX3_choose_0 31 rfl
theorem dX3_choose_58 : decode cX3_choose 58 = .ok (.aload_n 0, 1) := of_q QX3_choose_0 32 rfl
theorem dX3_choose_59 : decode cX3_choose 59 = .ok (.getfield 42, 3) := of_q QX3_choose_0 33 rfl
theorem dX3_choose_62 : decode cX3_choose 62 = .ok (.getfield 92, 3) := of_q QX3_choose_0 34 rfl
theorem dX3_choose_65 : decode cX3_choose 65 = .ok (.iload_n 1, 1) := of_q QX3_choose_0 35 rfl
theorem dX3_choose_66 : decode cX3_choose 66 = .ok (.laload, 1) := of_q QX3_choose_0 36 rfl
theorem dX3_choose_67 : decode cX3_choose 67 = .ok (.iload 6, 2) := of_q QX3_choose_0 37 rfl
theorem dX3_choose_69 : decode cX3_choose 69 = .ok (.lushr, 1) := of_q QX3_choose_0 38 rfl
theorem dX3_choose_70 : decode cX3_choose 70 = .ok (.lconst 1, 1) := of_q QX3_choose_0 39 rfl
theorem dX3_choose_71 : decode cX3_choose 71 = .ok (.land, 1) := of_q QX3_choose_0 40 rfl
theorem dX3_choose_72 : decode cX3_choose 72 = .ok (.lconst 0, 1) := of_q QX3_choose_0 41 rfl
theorem dX3_choose_73 : decode cX3_choose 73 = .ok (.lcmp, 1) := of_q QX3_choose_0 42 rfl
theorem dX3_choose_74 : decode cX3_choose 74 = .ok (.ifCond .eq 6, 3) := of_q QX3_choose_0 43 rfl
theorem dX3_choose_77 : decode cX3_choose 77 = .ok (.goto 32, 3) := of_q QX3_choose_0 44 rfl
theorem dX3_choose_80 : decode cX3_choose 80 = .ok (.iload 6, 2) := of_q QX3_choose_0 45 rfl
theorem dX3_choose_82 : decode cX3_choose 82 = .ok (.istore 5, 2) := of_q QX3_choose_0 46 rfl
theorem dX3_choose_84 : decode cX3_choose 84 = .ok (.iload 4, 2) := of_q QX3_choose_0 47 rfl
theorem dX3_choose_86 : decode cX3_choose 86 = .ok (.aload_n 0, 1) := of_q QX3_choose_0 48 rfl
theorem dX3_choose_87 : decode cX3_choose 87 = .ok (.getfield 30, 3) := of_q QX3_choose_0 49 rfl
theorem dX3_choose_90 : decode cX3_choose 90 = .ok (.getfield 131, 3) := of_q QX3_choose_0 50 rfl
theorem dX3_choose_93 : decode cX3_choose 93 = .ok (.iload_n 3, 1) := of_q QX3_choose_0 51 rfl
theorem dX3_choose_94 : decode cX3_choose 94 = .ok (.iload 6, 2) := of_q QX3_choose_0 52 rfl
theorem dX3_choose_96 : decode cX3_choose 96 = .ok (.iadd, 1) := of_q QX3_choose_0 53 rfl
theorem dX3_choose_97 : decode cX3_choose 97 = .ok (.iaload, 1) := of_q QX3_choose_0 54 rfl
theorem dX3_choose_98 : decode cX3_choose 98 = .ok (.isub, 1) := of_q QX3_choose_0 55 rfl
theorem dX3_choose_99 : decode cX3_choose 99 = .ok (.istore 4, 2) := of_q QX3_choose_0 56 rfl
theorem dX3_choose_101 : decode cX3_choose 101 = .ok (.iload 4, 2) := of_q QX3_choose_0 57 rfl
theorem dX3_choose_103 : decode cX3_choose 103 = .ok (.ifCond .ge 6, 3) := of_q QX3_choose_0 58 rfl
theorem dX3_choose_106 : decode cX3_choose 106 = .ok (.goto 9, 3) := of_q QX3_choose_0 59 rfl
def qX3_choose_1 : List (Nat × Instr × Nat) := [(109, .iinc 6 1, 3), (112, .goto (-68), 3), (115, .aload_n 0, 1), (116, .getfield 42, 3), (119, .getfield 92, 3), (122, .iload_n 1, 1), (123, .dup2, 1), (124, .laload, 1), (125, .lconst 1, 1), (126, .iload 5, 2), (128, .lshl, 1), (129, .lor, 1), (130, .lastore, 1), (131, .aload_n 0, 1), (132, .getfield 42, 3), (135, .getfield 67, 3), (138, .iload_n 1, 1), (139, .dup2, 1), (140, .iaload, 1), (141, .aload_n 0, 1), (142, .getfield 30, 3), (145, .getfield 131, 3), (148, .iload_n 3, 1), (149, .iload 5, 2), (151, .iadd, 1), (152, .iaload, 1), (153, .isub, 1), (154, .iastore, 1), (155, .iload_n 3, 1), (156, .iload 5, 2), (158, .iadd, 1), (159, .ireturn, 1)]
theorem QX3_choose_1 : qX3_choose_1.all (fun q => decide (decode cX3_choose q.1 = .ok q.2)) = true := by decide +kernel
theorem dX3_choose_109 : decode cX3_choose 109 = .ok (.iinc 6 1, 3) := of_q QX3_choose_1 0 rfl
theorem dX3_choose_112 : decode cX3_choose 112 = .ok (.goto (-68), 3) := of_q QX3_choose_1 1 rfl
theorem dX3_choose_115 : decode cX3_choose 115 = .ok (.aload_n 0, 1) := of_q QX3_choose_1 2 rfl
theorem dX3_choose_116 : decode cX3_choose 116 = .ok (.getfield 42, 3) := of_q QX3_choose_1 3 rfl
theorem dX3_choose_119 : decode cX3_choose 119 = .ok (.getfield 92, 3) := of_q QX3_choose_1 4 rfl
theorem dX3_choose_122 : decode cX3_choose 122 = .ok (.iload_n 1, 1) := of_q QX3_choose_1 5 rfl
theorem dX3_choose_123 : decode cX3_choose 123 = .ok (.dup2, 1) := of_q QX3_choose_1 6 rfl
theorem dX3_choose_124 : decode cX3_choose 124 = .ok (.laload, 1) := of_q QX3_choose_1 7 rfl
theorem dX3_choose_125 : decode cX3_choose 125 = .ok (.lconst 1, 1) := of_q QX3_choose_1 8 rfl
theorem dX3_choose_126 : decode cX3_choose 126 = .ok (.iload 5, 2) := of_q QX3_choose_1 9 rfl
theorem dX3_choose_128 : decode cX3_choose 128 = .ok (.lshl, 1) := of_q QX3_choose_1 10 rfl
theorem dX3_choose_129 : decode cX3_choose 129 = .ok (.lor, 1) := of_q QX3_choose_1 11 rfl
theorem dX3_choose_130 : decode cX3_choose 130 = .ok (.lastore, 1) := of_q QX3_choose_1 12 rfl
theorem dX3_choose_131 : decode cX3_choose 131 = .ok (.aload_n 0, 1) := of_q QX3_choose_1 13 rfl
theorem dX3_choose_132 : decode cX3_choose 132 = .ok (.getfield 42, 3) := of_q QX3_choose_1 14 rfl
theorem dX3_choose_135 : decode cX3_choose 135 = .ok (.getfield 67, 3) := of_q QX3_choose_1 15 rfl
theorem dX3_choose_138 : decode cX3_choose 138 = .ok (.iload_n 1, 1) := of_q QX3_choose_1 16 rfl
theorem dX3_choose_139 : decode cX3_choose 139 = .ok (.dup2, 1) := of_q QX3_choose_1 17 rfl
theorem dX3_choose_140 : decode cX3_choose 140 = .ok (.iaload, 1) := of_q QX3_choose_1 18 rfl
theorem dX3_choose_141 : decode cX3_choose 141 = .ok (.aload_n 0, 1) := of_q QX3_choose_1 19 rfl
theorem dX3_choose_142 : decode cX3_choose 142 = .ok (.getfield 30, 3) := of_q QX3_choose_1 20 rfl
theorem dX3_choose_145 : decode cX3_choose 145 = .ok (.getfield 131, 3) := of_q QX3_choose_1 21 rfl
theorem dX3_choose_148 : decode cX3_choose 148 = .ok (.iload_n 3, 1) := of_q QX3_choose_1 22 rfl
theorem dX3_choose_149 : decode cX3_choose 149 = .ok (.iload 5, 2) := of_q QX3_choose_1 23 rfl
theorem dX3_choose_151 : decode cX3_choose 151 = .ok (.iadd, 1) := of_q QX3_choose_1 24 rfl
theorem dX3_choose_152 : decode cX3_choose 152 = .ok (.iaload, 1) := of_q QX3_choose_1 25 rfl
theorem dX3_choose_153 : decode cX3_choose 153 = .ok (.isub, 1) := of_q QX3_choose_1 26 rfl
theorem dX3_choose_154 : decode cX3_choose 154 = .ok (.iastore, 1) := of_q QX3_choose_1 27 rfl
theorem dX3_choose_155 : decode cX3_choose 155 = .ok (.iload_n 3, 1) := of_q QX3_choose_1 28 rfl
theorem dX3_choose_156 : decode cX3_choose 156 = .ok (.iload 5, 2) := of_q QX3_choose_1 29 rfl
theorem dX3_choose_158 : decode cX3_choose 158 = .ok (.iadd, 1) := of_q QX3_choose_1 30 rfl
theorem dX3_choose_159 : decode cX3_choose 159 = .ok (.ireturn, 1) := of_q QX3_choose_1 31 rfl
def qX3_goToLetter_0 : List (Nat × Instr × Nat) := [(0, .iconst 0, 1), (1, .istore_n 1, 1), (2, .iload_n 1, 1), (3, .sipush 200, 3), (6, .if_icmp .gt 59, 3), (9, .aload_n 0, 1), (10, .getfield 21, 3), (13, .aload_n 0, 1), (14, .getfield 24, 3), (17, .if_icmp .ge 48, 3), (20, .aload_n 0, 1), (21, .invokevirtual 134, 3), (24, .istore_n 2, 1), (25, .aload_n 0, 1), (26, .getfield 30, 3), (29, .getfield 137, 3), (32, .iload_n 2, 1), (33, .iaload, 1), (34, .iconst (-1), 1), (35, .if_icmp .eq 13, 3), (38, .aload_n 0, 1), (39, .getfield 30, 3), (42, .getfield 137, 3), (45, .iload_n 2, 1), (46, .iaload, 1), (47, .ireturn, 1), (48, .aload_n 0, 1), (49, .iload_n 2, 1), (50, .invokevirtual 138, 3), (53, .ifCond .ne 6, 3), (56, .bipush (-12), 2), (58, .ireturn, 1), (59, .iinc 1 1, 3), (62, .goto (-60), 3), (65, .aload_n 0, 1), (66, .invokevirtual 141, 3), (69, .ifCond .eq 8, 3), (72, .bipush (-11), 2), (74, .goto 5, 3), (77, .bipush (-12), 2), (79, .ireturn, 1)]
theorem QX3_goToLetter_0 : qX3_goToLetter_0.all (fun q => decide (decode cX3_goToLetter q.1 = .ok q.2)) = true := by decide +kernel
theorem dX3_goToLetter_0 : decode cX3_goToLetter 0 = .ok (.iconst 0, 1) := of_q QX3_goToLetter_0 0 rfl
theorem dX3_goToLetter_1 : decode cX3_goToLetter 1 = .ok (.istore_n 1, 1) := of_q QX3_goToLetter_0 1 rfl
theorem dX3_goToLetter_2 : decode cX3_goToLetter 2 = .ok (.iload_n 1, 1) := of_q QX3_goToLetter_0 2 rfl
theorem dX3_goToLetter_3 : decode cX3_goToLetter 3 = .ok (.sipush 200, 3) := of_q QX3_goToLetter_0 3 rfl
theorem dX3_goToLetter_6 : decode cX3_goToLetter 6 = .ok (.if_icmp .gt 59, 3) := of_q QX3_goToLetter_0 4 rfl
theorem dX3_goToLetter_9 : decode cX3_goToLetter 9 = .ok (.aload_n 0, 1) := of_q QX3_goToLetter_0 5 rfl
theorem dX3_goToLetter_10 : decode cX3_goToLetter 10 = .ok (.getfield 21, 3) := of_q QX3_goToLetter_0 6 rfl
theorem dX3_goToLetter_13 : decode cX3_goToLetter 13 = .ok (.aload_n 0, 1) := of_q QX3_goToLetter_0 7 rfl
theorem dX3_goToLetter_14 : decode cX3_goToLetter 14 = .ok (.getfield 24, 3) := of_q QX3_goToLetter_0 8 rfl
theorem dX3_goToLetter_17 : decode cX3_goToLetter 17 = .ok (.if_icmp .ge 48, 3) := of_q QX3_goToLetter_0 9 rfl
theorem dX3_goToLetter_20 : decode cX3_goToLetter 20 = .ok (.aload_n 0, 1) := of_q QX3_goToLetter_0 10 rfl
theorem dX3_goToLetter_21 : decode cX3_goToLetter 21 = .ok (.invokevirtual 134, 3) := of_q QX3_goToLetter_0 11 rfl
theorem dX3_goToLetter_24 : decode cX3_goToLetter 24 = .ok (.istore_n 2, 1) := of_q QX3_goToLetter_0 12 rfl
theorem dX3_goToLetter_25 : decode cX3_goToLetter 25 = .ok (.aload_n 0, 1) := of_q QX3_goToLetter_0 13 rfl
theorem dX3_goToLetter_26 : decode cX3_goToLetter 26 = .ok (.getfield 30, 3) := of_q QX3_goToLetter_0 14 rfl
theorem dX3_goToLetter_29 : decode cX3_goToLetter 29 = .ok (.getfield 137, 3) := of_q QX3_goToLetter_0 15 rfl
theorem dX3_goToLetter_32 : decode cX3_goToLetter 32 = .ok (.iload_n 2, 1) := of_q QX3_goToLetter_0 16 rfl
theorem dX3_goToLetter_33 : decode cX3_goToLetter 33 = .ok (.iaload, 1) := of_q QX3_goToLetter_0 17 rfl
theorem dX3_goToLetter_34 : decode cX3_goToLetter 34 = .ok (.iconst (-1), 1) := of_q QX3_goToLetter_0 18 rfl
theorem dX3_goToLetter_35 : decode cX3_goToLetter 35 = .ok (.if_icmp .eq 13, 3) := of_q QX3_goToLetter_0 19 rfl
theorem dX3_goToLetter_38 : decode cX3_goToLetter 38 = .ok (.aload_n 0, 1) := of_q QX3_goToLetter_0 20 rfl
theorem dX3_goToLetter_39 : decode cX3_goToLetter 39 = .ok (.getfield 30, 3) := of_q QX3_goToLetter_0 21 rfl
theorem dX3_goToLetter_42 : decode cX3_goToLetter 42 = .ok (.getfield 137, 3) := of_q QX3_goToLetter_0 22 rfl
theorem dX3_goToLetter_45 : decode cX3_goToLetter 45 = .ok (.iload_n 2, 1) := of_q QX3_goToLetter_0 23 rfl
theorem dX3_goToLetter_46 : decode cX3_goToLetter 46 = .ok (.iaload, 1) := of_q QX3_goToLetter_0 24 rfl
theorem dX3_goToLetter_47 : decode cX3_goToLetter 47 = .ok (.ireturn, 1) := of_q QX3_goToLetter_0 25 rfl
theorem dX3_goToLetter_48 : decode cX3_goToLetter 48 = .ok (.aload_n 0, 1) := of_q QX3_goToLetter_0 26 rfl
theorem dX3_goToLetter_49 : decode cX3_goToLetter 49 = .ok (.iload_n 2, 1) := of_q QX3_goToLetter_0 27 rfl
theorem dX3_goToLetter_50 : decode cX3_goToLetter 50 = .ok (.invokevirtual 138, 3) := of_q QX3_goToLetter_0 28 rfl
theorem dX3_goToLetter_53 : decode cX3_goToLetter 53 = .ok (.ifCond .ne 6, 3) := of_q QX3_goToLetter_0 29 rfl
theorem dX3_goToLetter_56 : decode cX3_goToLetter 56 = .ok (.bipush (-12), 2) := of_q QX3_goToLetter_0 30 rfl
theorem dX3_goToLetter_58 : decode cX3_goToLetter 58 = .ok (.ireturn, 1) := of_q QX3_goToLetter_0 31 rfl
theorem dX3_goToLetter_59 : decode cX3_goToLetter 59 = .ok (.iinc 1 1, 3) := of_q QX3_goToLetter_0 32 rfl
theorem dX3_goToLetter_62 : decode cX3_goToLetter 62 = .ok (.goto (-60), 3) := of_q QX3_goToLetter_0 33 rfl
theorem dX3_goToLetter_65 : decode cX3_goToLetter 65 = .ok (.aload_n 0, 1) := of_q QX3_goToLetter_0 34 rfl
theorem dX3_goToLetter_66 : decode cX3_goToLetter 66 = .ok (.invokevirtual 141, 3) := of_q QX3_goToLetter_0 35 rfl
theorem dX3_goToLetter_69 : decode cX3_goToLetter 69 = .ok (.ifCond .eq 8, 3) := of_q QX3_goToLetter_0 36 rfl
theorem dX3_goToLetter_72 : decode cX3_goToLetter 72 = .ok (.bipush (-11), 2) := of_q QX3_goToLetter_0 37 rfl
theorem dX3_goToLetter_74 : decode cX3_goToLetter 74 = .ok (.goto 5, 3) := of_q QX3_goToLetter_0 38 rfl
theorem dX3_goToLetter_77 : decode cX3_goToLetter 77 = .ok (.bipush (-12), 2) := of_q QX3_goToLetter_0 39 rfl
theorem dX3_goToLetter_79 : decode cX3_goToLetter 79 = .ok (.ireturn, 1) := of_q QX3_goToLetter_0 40 rfl
def qX3_takeFirst_0 : List (Nat × Instr × Nat) := [(0, .aload_n 0, 1), (1, .getfield 21, 3), (4, .istore_n 1, 1), (5, .aload_n 0, 1), (6, .dup, 1), (7, .getfield 21, 3), (10, .iconst 1, 1), (11, .iadd, 1), (12, .putfield 21, 3), (15, .aload_n 0, 1), (16, .dup, 1), (17, .getfield 18, 3), (20, .iconst 1, 1), (21, .isub, 1), (22, .putfield 18, 3), (25, .aload_n 0, 1), (26, .getfield 21, 3), (29, .aload_n 0, 1), (30, .getfield 24, 3), (33, .if_icmp .lt 55, 3), (36, .aload_n 0, 1), (37, .getfield 27, 3), (40, .iconst (-1), 1), (41, .if_icmp .eq 47, 3), (44, .aload_n 0, 1), (45, .getfield 27, 3), (48, .istore_n 2, 1), (49, .aload_n 0, 1), (50, .aload_n 0, 1), (51, .getfield 42, 3), (54, .getfield 101, 3), (57, .iload_n 2, 1), (58, .iaload, 1), (59, .putfield 21, 3), (62, .aload_n 0, 1), (63, .aload_n 0, 1), (64, .getfield 42, 3), (67, .getfield 104, 3), (70, .iload_n 2, 1), (71, .iaload, 1), (72, .putfield 24, 3), (75, .aload_n 0, 1), (76, .aload_n 0, 1), (77, .getfield 42, 3), (80, .getfield 107, 3), (83, .iload_n 2, 1), (84, .iaload, 1), (85, .putfield 27, 3), (88, .iload_n 1, 1), (89, .ireturn, 1)]
theorem QX3_takeFirst_0 : qX3_takeFirst_0.all (fun q => decide (decode cX3_takeFirst q.1 = .ok q.2)) = true := by decide +kernel
theorem dX3_takeFirst_0 : decode cX3_takeFirst 0 = .ok (.aload_n 0, 1) := of_q QX3_takeFirst_0 0 rfl
theorem dX3_takeFirst_1 : decode cX3_takeFirst 1 = .ok (.getfield 21, 3) := of_q QX3_takeFirst_0 1 rfl
theorem dX3_takeFirst_4 : decode cX3_takeFirst 4 = .ok (.istore_n 1, 1) := of_q QX3_takeFirst_0 2 rfl
theorem dX3_takeFirst_5 : decode cX3_takeFirst 5 = .ok (.aload_n 0, 1) := of_q QX3_takeFirst_0 3 rfl
theorem dX3_takeFirst_6 : decode cX3_takeFirst 6 = .ok (.dup, 1) := of_q QX3_takeFirst_0 4 rfl
theorem dX3_takeFirst_7 : decode cX3_takeFirst 7 = .ok (.getfield 21, 3) := of_q QX3_takeFirst_0 5 rfl
theorem dX3_takeFirst_10 : decode cX3_takeFirst 10 = .ok (.iconst 1, 1) := of_q QX3_takeFirst_0 6 rfl
theorem dX3_takeFirst_11 : decode cX3_takeFirst 11 = .ok (.iadd, 1) := of_q QX3_takeFirst_0 7 rfl
theorem dX3_takeFirst_12 : decode cX3_takeFirst 12 = .ok (.putfield 21, 3) := of_q QX3_takeFirst_0 8 rfl
theorem dX3_takeFirst_15 : decode cX3_takeFirst 15 = .ok (.aload_n 0, 1) := of_q QX3_takeFirst_0 9 rfl
theorem dX3_takeFirst_16 : decode cX3_takeFirst 16 = .ok (.dup, 1) := of_q QX3_takeFirst_0 10 rfl
theorem dX3_takeFirst_17 : decode cX3_takeFirst 17 = .ok (.getfield 18, 3) := of_q QX3_takeFirst_0 11 rfl
theorem dX3_takeFirst_20 : decode cX3_takeFirst 20 = .ok (.iconst 1, 1) := of_q QX3_takeFirst_0 12 rfl
theorem dX3_takeFirst_21 : decode cX3_takeFirst 21 = .ok (.isub, 1) := of_q QX3_takeFirst_0 13 rfl
theorem dX3_takeFirst_22 : decode cX3_takeFirst 22 = .ok (.putfield 18, 3) := of_q QX3_takeFirst_0 14 rfl
theorem dX3_takeFirst_25 : decode cX3_takeFirst 25 = .ok (.aload_n 0, 1) := of_q QX3_takeFirst_0 15 rfl
theorem dX3_takeFirst_26 : decode cX3_takeFirst 26 = .ok (.getfield 21, 3) := of_q QX3_takeFirst_0 16 rfl
theorem dX3_takeFirst_29 : decode cX3_takeFirst 29 = .ok (.aload_n 0, 1) := of_q QX3_takeFirst_0 17 rfl
theorem dX3_takeFirst_30 : decode cX3_takeFirst 30 = .ok (.getfield 24, 3) := of_q QX3_takeFirst_0 18 rfl
theorem dX3_takeFirst_33 : decode cX3_takeFirst 33 = .ok (.if_icmp .lt 55, 3) := of_q QX3_takeFirst_0 19 rfl
theorem dX3_takeFirst_36 : decode cX3_takeFirst 36 = .ok (.aload_n 0, 1) := of_q QX3_takeFirst_0 20 rfl
theorem dX3_takeFirst_37 : decode cX3_takeFirst 37 = .ok (.getfield 27, 3) := of_q QX3_takeFirst_0 21 rfl
theorem dX3_takeFirst_40 : decode cX3_takeFirst 40 = .ok (.iconst (-1), 1) := of_q QX3_takeFirst_0 22 rfl
theorem dX3_takeFirst_41 : decode cX3_takeFirst 41 = .ok (.if_icmp .eq 47, 3) := of_q QX3_takeFirst_0 23 rfl
theorem dX3_takeFirst_44 : decode cX3_takeFirst 44 = .ok (.aload_n 0, 1) := of_q QX3_takeFirst_0 24 rfl
theorem dX3_takeFirst_45 : decode cX3_takeFirst 45 = .ok (.getfield 27, 3) := of_q QX3_takeFirst_0 25 rfl
theorem dX3_takeFirst_48 : decode cX3_takeFirst 48 = .ok (.istore_n 2, 1) := of_q QX3_takeFirst_0 26 rfl
theorem dX3_takeFirst_49 : decode cX3_takeFirst 49 = .ok (.aload_n 0, 1) := of_q QX3_takeFirst_0 27 rfl
theorem dX3_takeFirst_50 : decode cX3_takeFirst 50 = .ok (.aload_n 0, 1) := of_q QX3_takeFirst_0 28 rfl
theorem dX3_takeFirst_51 : decode cX3_takeFirst 51 = .ok (.getfield 42, 3) := of_q QX3_takeFirst_0 29 rfl
theorem dX3_takeFirst_54 : decode cX3_takeFirst 54 = .ok (.getfield 101, 3) := of_q QX3_takeFirst_0 30 rfl
theorem dX3_takeFirst_57 : decode cX3_takeFirst 57 = .ok (.iload_n 2, 1) := of_q QX3_takeFirst_0 31 rfl
theorem dX3_takeFirst_58 : decode cX3_takeFirst 58 = .ok (.iaload, 1) := of_q QX3_takeFirst_0 32 rfl
theorem dX3_takeFirst_59 : decode cX3_takeFirst 59 = .ok (.putfield 21, 3) := of_q QX3_takeFirst_0 33 rfl
theorem dX3_takeFirst_62 : decode cX3_takeFirst 62 = .ok (.aload_n 0, 1) := of_q QX3_takeFirst_0 34 rfl
theorem dX3_takeFirst_63 : decode cX3_takeFirst 63 = .ok (.aload_n 0, 1) := of_q QX3_takeFirst_0 35 rfl
theorem dX3_takeFirst_64 : decode cX3_takeFirst 64 = .ok (.getfield 42, 3) := of_q QX3_takeFirst_0 36 rfl
theorem dX3_takeFirst_67 : decode cX3_takeFirst 67 = .ok (.getfield 104, 3) := of_q QX3_takeFirst_0 37 rfl
theorem dX3_takeFirst_70 : decode cX3_takeFirst 70 = .ok (.iload_n 2, 1) := of_q QX3_takeFirst_0 38 rfl
theorem dX3_takeFirst_71 : decode cX3_takeFirst 71 = .ok (.iaload, 1) := of_q QX3_takeFirst_0 39 rfl
theorem dX3_takeFirst_72 : decode cX3_takeFirst 72 = .ok (.putfield 24, 3) := of_q QX3_takeFirst_0 40 rfl
theorem dX3_takeFirst_75 : decode cX3_takeFirst 75 = .ok (.aload_n 0, 1) := of_q QX3_takeFirst_0 41 rfl
theorem dX3_takeFirst_76 : decode cX3_takeFirst 76 = .ok (.aload_n 0, 1) := of_q QX3_takeFirst_0 42 rfl
theorem dX3_takeFirst_77 : decode cX3_takeFirst 77 = .ok (.getfield 42, 3) := of_q QX3_takeFirst_0 43 rfl
theorem dX3_takeFirst_80 : decode cX3_takeFirst 80 = .ok (.getfield 107, 3) := of_q QX3_takeFirst_0 44 rfl
theorem dX3_takeFirst_83 : decode cX3_takeFirst 83 = .ok (.iload_n 2, 1) := of_q QX3_takeFirst_0 45 rfl
theorem dX3_takeFirst_84 : decode cX3_takeFirst 84 = .ok (.iaload, 1) := of_q QX3_takeFirst_0 46 rfl
theorem dX3_takeFirst_85 : decode cX3_takeFirst 85 = .ok (.putfield 27, 3) := of_q QX3_takeFirst_0 47 rfl
theorem dX3_takeFirst_88 : decode cX3_takeFirst 88 = .ok (.iload_n 1, 1) := of_q QX3_takeFirst_0 48 rfl
theorem dX3_takeFirst_89 : decode cX3_takeFirst 89 = .ok (.ireturn, 1) := of_q QX3_takeFirst_0 49 rfl
def qX3_addIfItFits_0 : List (Nat × Instr × Nat) := [(0, .aload_n 0, 1), (1, .getfield 30, 3), (4, .getfield 145, 3), (7, .iload_n 1, 1), (8, .iaload, 1), (9, .istore_n 2, 1), (10, .iload_n 2, 1), (11, .aload_n 0, 1), (12, .getfield 30, 3), (15, .getfield 148, 3), (18, .iload_n 1, 1), (19, .iaload, 1), (20, .invokestatic 151, 3), (23, .istore_n 3, 1), (24, .aload_n 0, 1), (25, .getfield 38, 3), (28, .invokevirtual 155, 3), (31, .istore 4, 2), (33, .iload 4, 2), (35, .aload_n 0, 1), (36, .getfield 30, 3), (39, .getfield 158, 3), (42, .iload_n 1, 1), (43, .iaload, 1), (44, .iadd, 1), (45, .istore 5, 2), (47, .iload 5, 2), (49, .aload_n 0, 1), (50, .getfield 50, 3), (53, .if_icmp .le 5, 3), (56, .iconst 0, 1), (57, .ireturn, 1), (58, .aload_n 0, 1), (59, .getfield 34, 3), (62, .iconst 4, 1), (63, .iaload, 1), (64, .ifCond .ne 20, 3), (67, .iload 4, 2), (69, .bipush 16, 2), (71, .idiv, 1), (72, .iload 5, 2), (74, .iconst 1, 1), (75, .isub, 1), (76, .bipush 16, 2), (78, .idiv, 1), (79, .if_icmp .eq 5, 3), (82, .iconst 0, 1), (83, .ireturn, 1), (84, .iload_n 2, 1), (85, .iconst (-1), 1), (86, .if_icmp .eq 13, 3), (89, .aload_n 0, 1), (90, .iload_n 3, 1), (91, .invokevirtual 161, 3), (94, .ifCond .ne 5, 3), (97, .iconst 0, 1), (98, .ireturn, 1), (99, .aload_n 0, 1), (100, .getfield 38, 3), (103, .iload_n 2, 1)]
theorem QX3_addIfItFits_0 : qX3_addIfItFits_0.all (fun q => decide (decode cX3_addIfItFits q.1 = .ok q.2)) = true := by decide +kernel
theorem dX3_addIfItFits_0 : decode cX3_addIfItFits 0 = .ok (.aload_n 0, 1) := of_q QX3_addIfItFits_0 0 rfl
theorem dX3_addIfItFits_1 : decode cX3_addIfItFits 1 = .ok (.getfield 30, 3) := of_q QX3_addIfItFits_0 1 rfl
theorem dX3_addIfItFits_4 : decode cX3_addIfItFits 4 = .ok (.getfield 145, 3) := of_q QX3_addIfItFits_0 2 rfl
theorem dX3_addIfItFits_7 : decode cX3_addIfItFits 7 = .ok (.iload_n 1, 1) := of_q QX3_addIfItFits_0 3 rfl
theorem dX3_addIfItFits_8 : decode cX3_addIfItFits 8 = .ok (.iaload, 1) := of_q QX3_addIfItFits_0 4 rfl
theorem dX3_addIfItFits_9 : decode cX3_addIfItFits 9 = .ok (.istore_n 2, 1) := of_q QX3_addIfItFits_0 5 rfl
theorem dX3_addIfItFits_10 : decode cX3_addIfItFits 10 = .ok (.iload_n 2, 1) := of_q QX3_addIfItFits_0 6 rfl
theorem dX3_addIfItFits_11 : decode cX3_addIfItFits 11 = .ok (.aload_n 0, 1) := of_q QX3_addIfItFits_0 7 rfl
theorem dX3_addIfItFits_12 : decode cX3_addIfItFits 12 = .ok (.getfield 30, 3) := of_q QX3_addIfItFits_0 8 rfl
theorem dX3_addIfItFits_15 : decode cX3_addIfItFits 15 = .ok (.getfield 148, 3) := of_q QX3_addIfItFits_0 9 rfl
theorem dX3_addIfItFits_18 : decode cX3_addIfItFits 18 = .ok (.iload_n 1, 1) := of_q QX3_addIfItFits_0 10 rfl
theorem dX3_addIfItFits_19 : decode cX3_addIfItFits 19 = .ok (.iaload, 1) := of_q QX3_addIfItFits_0 11 rfl
theorem dX3_addIfItFits_20 : decode cX3_addIfItFits 20 = .ok (.invokestatic 151, 3) := of_q QX3_addIfItFits_0 12 rfl
theorem dX3_addIfItFits_23 : decode cX3_addIfItFits 23 = .ok (.istore_n 3, 1) := of_q QX3_addIfItFits_0 13 rfl
theorem dX3_addIfItFits_24 : decode cX3_addIfItFits 24 = .ok (.aload_n 0, 1) := of_q QX3_addIfItFits_0 14 rfl
theorem dX3_addIfItFits_25 : decode cX3_addIfItFits 25 = .ok (.getfield 38, 3) := of_q QX3_addIfItFits_0 15 rfl
theorem dX3_addIfItFits_28 : decode cX3_addIfItFits 28 = .ok (.invokevirtual 155, 3) := of_q QX3_addIfItFits_0 16 rfl
theorem dX3_addIfItFits_31 : decode cX3_addIfItFits 31 = .ok (.istore 4, 2) := of_q QX3_addIfItFits_0 17 rfl
theorem dX3_addIfItFits_33 : decode cX3_addIfItFits 33 = .ok (.iload 4, 2) := of_q QX3_addIfItFits_0 18 rfl
theorem dX3_addIfItFits_35 : decode cX3_addIfItFits 35 = .ok (.aload_n 0, 1) := of_q QX3_addIfItFits_0 19 rfl
theorem dX3_addIfItFits_36 : decode cX3_addIfItFits 36 = .ok (.getfield 30, 3) := of_q QX3_addIfItFits_0 20 rfl
theorem dX3_addIfItFits_39 : decode cX3_addIfItFits 39 = .ok (.getfield 158, 3) := of_q QX3_addIfItFits_0 21 rfl
theorem dX3_addIfItFits_42 : decode cX3_addIfItFits 42 = .ok (.iload_n 1, 1) := of_q QX3_addIfItFits_0 22 rfl
theorem dX3_addIfItFits_43 : decode cX3_addIfItFits 43 = .ok (.iaload, 1) := of_q QX3_addIfItFits_0 23 rfl
theorem dX3_addIfItFits_44 : decode cX3_addIfItFits 44 = .ok (.iadd, 1) := of_q QX3_addIfItFits_0 24 rfl
theorem dX3_addIfItFits_45 : decode cX3_addIfItFits 45 = .ok (.istore 5, 2) := of_q QX3_addIfItFits_0 25 rfl
theorem dX3_addIfItFits_47 : decode cX3_addIfItFits 47 = .ok (.iload 5, 2) := of_q QX3_addIfItFits_0 26 rfl
theorem dX3_addIfItFits_49 : decode cX3_addIfItFits 49 = .ok (.aload_n 0, 1) := of_q QX3_addIfItFits_0 27 rfl
theorem dX3_addIfItFits_50 : decode cX3_addIfItFits 50 = .ok (.getfield 50, 3) := of_q QX3_addIfItFits_0 28 rfl
theorem dX3_addIfItFits_53 : decode cX3_addIfItFits 53 = .ok (.if_icmp .le 5, 3) := of_q QX3_addIfItFits_0 29 rfl
theorem dX3_addIfItFits_56 : decode cX3_addIfItFits 56 = .ok (.iconst 0, 1) := of_q QX3_addIfItFits_0 30 rfl
theorem dX3_addIfItFits_57 : decode cX3_addIfItFits 57 = .ok (.ireturn, 1) := of_q QX3_addIfItFits_0 31 rfl
theorem dX3_addIfItFits_58 : decode cX3_addIfItFits 58 = .ok (.aload_n 0, 1) := of_q QX3_addIfItFits_0 32 rfl
theorem dX3_addIfItFits_59 : decode cX3_addIfItFits 59 = .ok (.getfield 34, 3) := of_q QX3_addIfItFits_0 33 rfl
theorem dX3_addIfItFits_62 : decode cX3_addIfItFits 62 = .ok (.iconst 4, 1) := of_q QX3_addIfItFits_0 34 rfl
theorem dX3_addIfItFits_63 : decode cX3_addIfItFits 63 = .ok (.iaload, 1) := of_q QX3_addIfItFits_0 35 rfl
theorem dX3_addIfItFits_64 : decode cX3_addIfItFits 64 = .ok (.ifCond .ne 20, 3) := of_q QX3_addIfItFits_0 36 rfl
theorem dX3_addIfItFits_67 : decode cX3_addIfItFits 67 = .ok (.iload 4, 2) := of_q QX3_addIfItFits_0 37 rfl
theorem dX3_addIfItFits_69 : decode cX3_addIfItFits 69 = .ok (.bipush 16, 2) := of_q QX3_addIfItFits_0 38 rfl
theorem dX3_addIfItFits_71 : decode cX3_addIfItFits 71 = .ok (.idiv, 1) := of_q QX3_addIfItFits_0 39 rfl
theorem dX3_addIfItFits_72 : decode cX3_addIfItFits 72 = .ok (.iload 5, 2) := of_q QX3_addIfItFits_0 40 rfl
theorem dX3_addIfItFits_74 : decode cX3_addIfItFits 74 = .ok (.iconst 1, 1) := of_q QX3_addIfItFits_0 41 rfl
theorem dX3_addIfItFits_75 : decode cX3_addIfItFits 75 = .ok (.isub, 1) := of_q QX3_addIfItFits_0 42 rfl
theorem dX3_addIfItFits_76 : decode cX3_addIfItFits 76 = .ok (.bipush 16, 2) := of_q QX3_addIfItFits_0 43 rfl
theorem dX3_addIfItFits_78 : decode cX3_addIfItFits 78 = .ok (.idiv, 1) := of_q QX3_addIfItFits_0 44 rfl
theorem dX3_addIfItFits_79 : decode cX3_addIfItFits 79 = .ok (.if_icmp .eq 5, 3) := of_q QX3_addIfItFits_0 45 rfl
theorem dX3_addIfItFits_82 : decode cX3_addIfItFits 82 = .ok (.iconst 0, 1) := of_q QX3_addIfItFits_0 46 rfl
theorem dX3_addIfItFits_83 : decode cX3_addIfItFits 83 = .ok (.ireturn, 1) := of_q QX3_addIfItFits_0 47 rfl
theorem dX3_addIfItFits_84 : decode cX3_addIfItFits 84 = .ok (.iload_n 2, 1) := of_q QX3_addIfItFits_0 48 rfl
theorem dX3_addIfItFits_85 : decode cX3_addIfItFits 85 = .ok (.iconst (-1), 1) := of_q QX3_addIfItFits_0 49 rfl
theorem dX3_addIfItFits_86 : decode cX3_addIfItFits 86 = .ok (.if_icmp .eq 13, 3) := of_q QX3_addIfItFits_0 50 rfl
theorem dX3_addIfItFits_89 : decode cX3_addIfItFits 89 = .ok (.aload_n 0, 1) := of_q QX3_addIfItFits_0 51 rfl
theorem dX3_addIfItFits_90 : decode cX3_addIfItFits 90 = .ok (.iload_n 3, 1) := of_q QX3_addIfItFits_0 52 rfl
theorem dX3_addIfItFits_91 : decode cX3_addIfItFits 91 = .ok (.invokevirtual 161, 3) := of_q QX3_addIfItFits_0 53 rfl
theorem dX3_addIfItFits_94 : decode cX3_addIfItFits 94 = .ok (.ifCond .ne 5, 3) := of_q QX3_addIfItFits_0 54 rfl
theorem dX3_addIfItFits_97 : decode cX3_addIfItFits 97 = .ok (.iconst 0, 1) := of_q QX3_addIfItFits_0 55 rfl
theorem dX3_addIfItFits_98 : decode cX3_addIfItFits 98 = .ok (.ireturn, 1) := of_q QX3_addIfItFits_0 56 rfl
theorem dX3_addIfItFits_99 : decode cX3_addIfItFits 99 = .ok (.aload_n 0, 1) := of_q QX3_addIfItFits_0 57 rfl
theorem dX3_addIfItFits_100 : decode cX3_addIfItFits 100 = .ok (.getfield 38, 3) := of_q QX3_addIfItFits_0 58 rfl
theorem dX3_addIfItFits_103 : decode cX3_addIfItFits 103 = .ok (.iload_n 2, 1) := of_q QX3_addIfItFits_0 59 rfl
def qX3_addIfItFits_1 : List (Nat × Instr × Nat) := [(104, .iload_n 3, 1), (105, .aload_n 0, 1), (106, .getfield 30, 3), (109, .getfield 158, 3), (112, .iload_n 1, 1), (113, .iaload, 1), (114, .invokevirtual 164, 3), (117, .iconst 1, 1), (118, .ireturn, 1)]
theorem QX3_addIfItFits_1 : qX3_addIfItFits_1.all (fun q => decide (decode cX3_addIfItFits q.1 = .ok q.2)) = true := by decide +kernel
theorem dX3_addIfItFits_104 : decode cX3_addIfItFits 104 = .ok (.iload_n 3, 1) := of_q QX3_addIfItFits_1 0 rfl
theorem dX3_addIfItFits_105 : decode cX3_addIfItFits 105 = .ok (.aload_n 0, 1) := of_q QX3_addIfItFits_1 1 rfl
theorem dX3_addIfItFits_106 : decode cX3_addIfItFits 106 = .ok (.getfield 30, 3) := of_q QX3_addIfItFits_1 2 rfl
theorem dX3_addIfItFits_109 : decode cX3_addIfItFits 109 = .ok (.getfield 158, 3) := of_q QX3_addIfItFits_1 3 rfl
theorem dX3_addIfItFits_112 : decode cX3_addIfItFits 112 = .ok (.iload_n 1, 1) := of_q QX3_addIfItFits_1 4 rfl
theorem dX3_addIfItFits_113 : decode cX3_addIfItFits 113 = .ok (.iaload, 1) := of_q QX3_addIfItFits_1 5 rfl
theorem dX3_addIfItFits_114 : decode cX3_addIfItFits 114 = .ok (.invokevirtual 164, 3) := of_q QX3_addIfItFits_1 6 rfl
theorem dX3_addIfItFits_117 : decode cX3_addIfItFits 117 = .ok (.iconst 1, 1) := of_q QX3_addIfItFits_1 7 rfl
theorem dX3_addIfItFits_118 : decode cX3_addIfItFits 118 = .ok (.ireturn, 1) := of_q QX3_addIfItFits_1 8 rfl
def qX3_pitchFits_0 : List (Nat × Instr × Nat) := [(0, .iload_n 1, 1), (1, .aload_n 0, 1), (2, .getfield 34, 3), (5, .iconst 0, 1), (6, .iaload, 1), (7, .aload_n 0, 1), (8, .getfield 34, 3), (11, .iconst 1, 1), (12, .iaload, 1), (13, .invokestatic 168, 3), (16, .ifCond .ne 5, 3), (19, .iconst 0, 1), (20, .ireturn, 1), (21, .aload_n 0, 1), (22, .getfield 38, 3), (25, .invokevirtual 172, 3), (28, .istore_n 2, 1), (29, .iload_n 2, 1), (30, .iconst (-1), 1), (31, .if_icmp .eq 20, 3), (34, .iload_n 1, 1), (35, .iload_n 2, 1), (36, .isub, 1), (37, .invokestatic 175, 3), (40, .aload_n 0, 1), (41, .getfield 34, 3), (44, .iconst 2, 1), (45, .iaload, 1), (46, .if_icmp .le 5, 3), (49, .iconst 0, 1), (50, .ireturn, 1), (51, .aload_n 0, 1), (52, .getfield 38, 3), (55, .iload_n 1, 1), (56, .invokevirtual 180, 3), (59, .aload_n 0, 1), (60, .getfield 34, 3), (63, .iconst 3, 1), (64, .iaload, 1), (65, .if_icmp .gt 7, 3), (68, .iconst 1, 1), (69, .goto 4, 3), (72, .iconst 0, 1), (73, .ireturn, 1)]
theorem QX3_pitchFits_0 : qX3_pitchFits_0.all (fun q => decide (decode cX3_pitchFits q.1 = .ok q.2)) = true := by decide +kernel
theorem dX3_pitchFits_0 : decode cX3_pitchFits 0 = .ok (.iload_n 1, 1) := of_q QX3_pitchFits_0 0 rfl
theorem dX3_pitchFits_1 : decode cX3_pitchFits 1 = .ok (.aload_n 0, 1) := of_q QX3_pitchFits_0 1 rfl
theorem dX3_pitchFits_2 : decode cX3_pitchFits 2 = .ok (.getfield 34, 3) := of_q QX3_pitchFits_0 2 rfl
theorem dX3_pitchFits_5 : decode cX3_pitchFits 5 = .ok (.iconst 0, 1) := of_q QX3_pitchFits_0 3 rfl
theorem dX3_pitchFits_6 : decode cX3_pitchFits 6 = .ok (.iaload, 1) := of_q QX3_pitchFits_0 4 rfl
theorem dX3_pitchFits_7 : decode cX3_pitchFits 7 = .ok (.aload_n 0, 1) := of_q QX3_pitchFits_0 5 rfl
theorem dX3_pitchFits_8 : decode cX3_pitchFits 8 = .ok (.getfield 34, 3) := of_q QX3_pitchFits_0 6 rfl
theorem dX3_pitchFits_11 : decode cX3_pitchFits 11 = .ok (.iconst 1, 1) := of_q QX3_pitchFits_0 7 rfl
theorem dX3_pitchFits_12 : decode cX3_pitchFits 12 = .ok (.iaload, 1) := of_q QX3_pitchFits_0 8 rfl
theorem dX3_pitchFits_13 : decode cX3_pitchFits 13 = .ok (.invokestatic 168, 3) := of_q QX3_pitchFits_0 9 rfl
theorem dX3_pitchFits_16 : decode cX3_pitchFits 16 = .ok (.ifCond .ne 5, 3) := of_q QX3_pitchFits_0 10 rfl
theorem dX3_pitchFits_19 : decode cX3_pitchFits 19 = .ok (.iconst 0, 1) := of_q QX3_pitchFits_0 11 rfl
theorem dX3_pitchFits_20 : decode cX3_pitchFits 20 = .ok (.ireturn, 1) := of_q QX3_pitchFits_0 12 rfl
theorem dX3_pitchFits_21 : decode cX3_pitchFits 21 = .ok (.aload_n 0, 1) := of_q QX3_pitchFits_0 13 rfl
theorem dX3_pitchFits_22 : decode cX3_pitchFits 22 = .ok (.getfield 38, 3) := of_q QX3_pitchFits_0 14 rfl
theorem dX3_pitchFits_25 : decode cX3_pitchFits 25 = .ok (.invokevirtual 172, 3) := of_q QX3_pitchFits_0 15 rfl
theorem dX3_pitchFits_28 : decode cX3_pitchFits 28 = .ok (.istore_n 2, 1) := of_q QX3_pitchFits_0 16 rfl
theorem dX3_pitchFits_29 : decode cX3_pitchFits 29 = .ok (.iload_n 2, 1) := of_q QX3_pitchFits_0 17 rfl
theorem dX3_pitchFits_30 : decode cX3_pitchFits 30 = .ok (.iconst (-1), 1) := of_q QX3_pitchFits_0 18 rfl
theorem dX3_pitchFits_31 : decode cX3_pitchFits 31 = .ok (.if_icmp .eq 20, 3) := of_q QX3_pitchFits_0 19 rfl
theorem dX3_pitchFits_34 : decode cX3_pitchFits 34 = .ok (.iload_n 1, 1) := of_q QX3_pitchFits_0 20 rfl
theorem dX3_pitchFits_35 : decode cX3_pitchFits 35 = .ok (.iload_n 2, 1) := of_q QX3_pitchFits_0 21 rfl
theorem dX3_pitchFits_36 : decode cX3_pitchFits 36 = .ok (.isub, 1) := of_q QX3_pitchFits_0 22 rfl
theorem dX3_pitchFits_37 : decode cX3_pitchFits 37 = .ok (.invokestatic 175, 3) := of_q QX3_pitchFits_0 23 rfl
theorem dX3_pitchFits_40 : decode cX3_pitchFits 40 = .ok (.aload_n 0, 1) := of_q QX3_pitchFits_0 24 rfl
theorem dX3_pitchFits_41 : decode cX3_pitchFits 41 = .ok (.getfield 34, 3) := of_q QX3_pitchFits_0 25 rfl
theorem dX3_pitchFits_44 : decode cX3_pitchFits 44 = .ok (.iconst 2, 1) := of_q QX3_pitchFits_0 26 rfl
theorem dX3_pitchFits_45 : decode cX3_pitchFits 45 = .ok (.iaload, 1) := of_q QX3_pitchFits_0 27 rfl
theorem dX3_pitchFits_46 : decode cX3_pitchFits 46 = .ok (.if_icmp .le 5, 3) := of_q QX3_pitchFits_0 28 rfl
theorem dX3_pitchFits_49 : decode cX3_pitchFits 49 = .ok (.iconst 0, 1) := of_q QX3_pitchFits_0 29 rfl
theorem dX3_pitchFits_50 : decode cX3_pitchFits 50 = .ok (.ireturn, 1) := of_q QX3_pitchFits_0 30 rfl
theorem dX3_pitchFits_51 : decode cX3_pitchFits 51 = .ok (.aload_n 0, 1) := of_q QX3_pitchFits_0 31 rfl
theorem dX3_pitchFits_52 : decode cX3_pitchFits 52 = .ok (.getfield 38, 3) := of_q QX3_pitchFits_0 32 rfl
theorem dX3_pitchFits_55 : decode cX3_pitchFits 55 = .ok (.iload_n 1, 1) := of_q QX3_pitchFits_0 33 rfl
theorem dX3_pitchFits_56 : decode cX3_pitchFits 56 = .ok (.invokevirtual 180, 3) := of_q QX3_pitchFits_0 34 rfl
theorem dX3_pitchFits_59 : decode cX3_pitchFits 59 = .ok (.aload_n 0, 1) := of_q QX3_pitchFits_0 35 rfl
theorem dX3_pitchFits_60 : decode cX3_pitchFits 60 = .ok (.getfield 34, 3) := of_q QX3_pitchFits_0 36 rfl
theorem dX3_pitchFits_63 : decode cX3_pitchFits 63 = .ok (.iconst 3, 1) := of_q QX3_pitchFits_0 37 rfl
theorem dX3_pitchFits_64 : decode cX3_pitchFits 64 = .ok (.iaload, 1) := of_q QX3_pitchFits_0 38 rfl
theorem dX3_pitchFits_65 : decode cX3_pitchFits 65 = .ok (.if_icmp .gt 7, 3) := of_q QX3_pitchFits_0 39 rfl
theorem dX3_pitchFits_68 : decode cX3_pitchFits 68 = .ok (.iconst 1, 1) := of_q QX3_pitchFits_0 40 rfl
theorem dX3_pitchFits_69 : decode cX3_pitchFits 69 = .ok (.goto 4, 3) := of_q QX3_pitchFits_0 41 rfl
theorem dX3_pitchFits_72 : decode cX3_pitchFits 72 = .ok (.iconst 0, 1) := of_q QX3_pitchFits_0 42 rfl
theorem dX3_pitchFits_73 : decode cX3_pitchFits 73 = .ok (.ireturn, 1) := of_q QX3_pitchFits_0 43 rfl
def qX3_isWhole_0 : List (Nat × Instr × Nat) := [(0, .aload_n 0, 1), (1, .getfield 21, 3), (4, .aload_n 0, 1), (5, .getfield 24, 3), (8, .if_icmp .lt 17, 3), (11, .aload_n 0, 1), (12, .getfield 38, 3), (15, .invokevirtual 155, 3), (18, .aload_n 0, 1), (19, .getfield 50, 3), (22, .if_icmp .eq 5, 3), (25, .iconst 0, 1), (26, .ireturn, 1), (27, .aload_n 0, 1), (28, .getfield 34, 3), (31, .iconst 5, 1), (32, .iaload, 1), (33, .iconst (-1), 1), (34, .if_icmp .eq 19, 3), (37, .aload_n 0, 1), (38, .getfield 38, 3), (41, .invokevirtual 183, 3), (44, .aload_n 0, 1), (45, .getfield 34, 3), (48, .iconst 5, 1), (49, .iaload, 1), (50, .if_icmp .ne 7, 3), (53, .iconst 1, 1), (54, .goto 4, 3), (57, .iconst 0, 1), (58, .ireturn, 1)]
theorem QX3_isWhole_0 : qX3_isWhole_0.all (fun q => decide (decode cX3_isWhole q.1 = .ok q.2)) = true := by decide +kernel
theorem dX3_isWhole_0 : decode cX3_isWhole 0 = .ok (.aload_n 0, 1) := of_q QX3_isWhole_0 0 rfl
theorem dX3_isWhole_1 : decode cX3_isWhole 1 = .ok (.getfield 21, 3) := of_q QX3_isWhole_0 1 rfl
theorem dX3_isWhole_4 : decode cX3_isWhole 4 = .ok (.aload_n 0, 1) := of_q QX3_isWhole_0 2 rfl
theorem dX3_isWhole_5 : decode cX3_isWhole 5 = .ok (.getfield 24, 3) := of_q QX3_isWhole_0 3 rfl
theorem dX3_isWhole_8 : decode cX3_isWhole 8 = .ok (.if_icmp .lt 17, 3) := of_q QX3_isWhole_0 4 rfl
theorem dX3_isWhole_11 : decode cX3_isWhole 11 = .ok (.aload_n 0, 1) := of_q QX3_isWhole_0 5 rfl
theorem dX3_isWhole_12 : decode cX3_isWhole 12 = .ok (.getfield 38, 3) := of_q QX3_isWhole_0 6 rfl
theorem dX3_isWhole_15 : decode cX3_isWhole 15 = .ok (.invokevirtual 155, 3) := of_q QX3_isWhole_0 7 rfl
theorem dX3_isWhole_18 : decode cX3_isWhole 18 = .ok (.aload_n 0, 1) := of_q QX3_isWhole_0 8 rfl
theorem dX3_isWhole_19 : decode cX3_isWhole 19 = .ok (.getfield 50, 3) := of_q QX3_isWhole_0 9 rfl
theorem dX3_isWhole_22 : decode cX3_isWhole 22 = .ok (.if_icmp .eq 5, 3) := of_q QX3_isWhole_0 10 rfl
theorem dX3_isWhole_25 : decode cX3_isWhole 25 = .ok (.iconst 0, 1) := of_q QX3_isWhole_0 11 rfl
theorem dX3_isWhole_26 : decode cX3_isWhole 26 = .ok (.ireturn, 1) := of_q QX3_isWhole_0 12 rfl
theorem dX3_isWhole_27 : decode cX3_isWhole 27 = .ok (.aload_n 0, 1) := of_q QX3_isWhole_0 13 rfl
theorem dX3_isWhole_28 : decode cX3_isWhole 28 = .ok (.getfield 34, 3) := of_q QX3_isWhole_0 14 rfl
theorem dX3_isWhole_31 : decode cX3_isWhole 31 = .ok (.iconst 5, 1) := of_q QX3_isWhole_0 15 rfl
theorem dX3_isWhole_32 : decode cX3_isWhole 32 = .ok (.iaload, 1) := of_q QX3_isWhole_0 16 rfl
theorem dX3_isWhole_33 : decode cX3_isWhole 33 = .ok (.iconst (-1), 1) := of_q QX3_isWhole_0 17 rfl
theorem dX3_isWhole_34 : decode cX3_isWhole 34 = .ok (.if_icmp .eq 19, 3) := of_q QX3_isWhole_0 18 rfl
theorem dX3_isWhole_37 : decode cX3_isWhole 37 = .ok (.aload_n 0, 1) := of_q QX3_isWhole_0 19 rfl
theorem dX3_isWhole_38 : decode cX3_isWhole 38 = .ok (.getfield 38, 3) := of_q QX3_isWhole_0 20 rfl
theorem dX3_isWhole_41 : decode cX3_isWhole 41 = .ok (.invokevirtual 183, 3) := of_q QX3_isWhole_0 21 rfl
theorem dX3_isWhole_44 : decode cX3_isWhole 44 = .ok (.aload_n 0, 1) := of_q QX3_isWhole_0 22 rfl
theorem dX3_isWhole_45 : decode cX3_isWhole 45 = .ok (.getfield 34, 3) := of_q QX3_isWhole_0 23 rfl
theorem dX3_isWhole_48 : decode cX3_isWhole 48 = .ok (.iconst 5, 1) := of_q QX3_isWhole_0 24 rfl
theorem dX3_isWhole_49 : decode cX3_isWhole 49 = .ok (.iaload, 1) := of_q QX3_isWhole_0 25 rfl
theorem dX3_isWhole_50 : decode cX3_isWhole 50 = .ok (.if_icmp .ne 7, 3) := of_q QX3_isWhole_0 26 rfl
theorem dX3_isWhole_53 : decode cX3_isWhole 53 = .ok (.iconst 1, 1) := of_q QX3_isWhole_0 27 rfl
theorem dX3_isWhole_54 : decode cX3_isWhole 54 = .ok (.goto 4, 3) := of_q QX3_isWhole_0 28 rfl
theorem dX3_isWhole_57 : decode cX3_isWhole 57 = .ok (.iconst 0, 1) := of_q QX3_isWhole_0 29 rfl
theorem dX3_isWhole_58 : decode cX3_isWhole 58 = .ok (.ireturn, 1) := of_q QX3_isWhole_0 30 rfl
def qX4_init_0 : List (Nat × Instr × Nat) := [(0, .aload_n 0, 1), (1, .invokespecial 3, 3), (4, .aload_n 0, 1), (5, .sipush 3001, 3), (8, .newarray .int, 2), (10, .putfield 11, 3), (13, .aload_n 0, 1), (14, .sipush 3001, 3), (17, .newarray .int, 2), (19, .putfield 15, 3), (22, .aload_n 0, 1), (23, .sipush 3001, 3), (26, .newarray .long, 2), (28, .putfield 18, 3), (31, .aload_n 0, 1), (32, .sipush 3001, 3), (35, .newarray .int, 2), (37, .putfield 22, 3), (40, .aload_n 0, 1), (41, .sipush 3001, 3), (44, .newarray .int, 2), (46, .putfield 25, 3), (49, .aload_n 0, 1), (50, .sipush 3001, 3), (53, .newarray .int, 2), (55, .putfield 28, 3), (58, .aload_n 0, 1), (59, .sipush 3001, 3), (62, .newarray .int, 2), (64, .putfield 31, 3), (67, .aload_n 0, 1), (68, .sipush 3001, 3), (71, .newarray .int, 2), (73, .putfield 34, 3), (76, .return_, 1)]
theorem QX4_init_0 : qX4_init_0.all (fun q => decide (decode cX4_init q.1 = .ok q.2)) = true := by decide +kernel
theorem dX4_init_0 : decode cX4_init 0 = .ok (.aload_n 0, 1) := of_q QX4_init_0 0 rfl
theorem dX4_init_1 : decode cX4_init 1 = .ok (.invokespecial 3, 3) := of_q QX4_init_0 1 rfl
theorem dX4_init_4 : decode cX4_init 4 = .ok (.aload_n 0, 1) := of_q QX4_init_0 2 rfl
theorem dX4_init_5 : decode cX4_init 5 = .ok (.sipush 3001, 3) := of_q QX4_init_0 3 rfl
theorem dX4_init_8 : decode cX4_init 8 = .ok (.newarray .int, 2) := of_q QX4_init_0 4 rfl
theorem dX4_init_10 : decode cX4_init 10 = .ok (.putfield 11, 3) := of_q QX4_init_0 5 rfl
theorem dX4_init_13 : decode cX4_init 13 = .ok (.aload_n 0, 1) := of_q QX4_init_0 6 rfl
theorem dX4_init_14 : decode cX4_init 14 = .ok (.sipush 3001, 3) := of_q QX4_init_0 7 rfl
theorem dX4_init_17 : decode cX4_init 17 = .ok (.newarray .int, 2) := of_q QX4_init_0 8 rfl
theorem dX4_init_19 : decode cX4_init 19 = .ok (.putfield 15, 3) := of_q QX4_init_0 9 rfl
theorem dX4_init_22 : decode cX4_init 22 = .ok (.aload_n 0, 1) := of_q QX4_init_0 10 rfl
theorem dX4_init_23 : decode cX4_init 23 = .ok (.sipush 3001, 3) := of_q QX4_init_0 11 rfl
theorem dX4_init_26 : decode cX4_init 26 = .ok (.newarray .long, 2) := of_q QX4_init_0 12 rfl
theorem dX4_init_28 : decode cX4_init 28 = .ok (.putfield 18, 3) := of_q QX4_init_0 13 rfl
theorem dX4_init_31 : decode cX4_init 31 = .ok (.aload_n 0, 1) := of_q QX4_init_0 14 rfl
theorem dX4_init_32 : decode cX4_init 32 = .ok (.sipush 3001, 3) := of_q QX4_init_0 15 rfl
theorem dX4_init_35 : decode cX4_init 35 = .ok (.newarray .int, 2) := of_q QX4_init_0 16 rfl
theorem dX4_init_37 : decode cX4_init 37 = .ok (.putfield 22, 3) := of_q QX4_init_0 17 rfl
theorem dX4_init_40 : decode cX4_init 40 = .ok (.aload_n 0, 1) := of_q QX4_init_0 18 rfl
theorem dX4_init_41 : decode cX4_init 41 = .ok (.sipush 3001, 3) := of_q QX4_init_0 19 rfl
theorem dX4_init_44 : decode cX4_init 44 = .ok (.newarray .int, 2) := of_q QX4_init_0 20 rfl
theorem dX4_init_46 : decode cX4_init 46 = .ok (.putfield 25, 3) := of_q QX4_init_0 21 rfl
theorem dX4_init_49 : decode cX4_init 49 = .ok (.aload_n 0, 1) := of_q QX4_init_0 22 rfl
theorem dX4_init_50 : decode cX4_init 50 = .ok (.sipush 3001, 3) := of_q QX4_init_0 23 rfl
theorem dX4_init_53 : decode cX4_init 53 = .ok (.newarray .int, 2) := of_q QX4_init_0 24 rfl
theorem dX4_init_55 : decode cX4_init 55 = .ok (.putfield 28, 3) := of_q QX4_init_0 25 rfl
theorem dX4_init_58 : decode cX4_init 58 = .ok (.aload_n 0, 1) := of_q QX4_init_0 26 rfl
theorem dX4_init_59 : decode cX4_init 59 = .ok (.sipush 3001, 3) := of_q QX4_init_0 27 rfl
theorem dX4_init_62 : decode cX4_init 62 = .ok (.newarray .int, 2) := of_q QX4_init_0 28 rfl
theorem dX4_init_64 : decode cX4_init 64 = .ok (.putfield 31, 3) := of_q QX4_init_0 29 rfl
theorem dX4_init_67 : decode cX4_init 67 = .ok (.aload_n 0, 1) := of_q QX4_init_0 30 rfl
theorem dX4_init_68 : decode cX4_init 68 = .ok (.sipush 3001, 3) := of_q QX4_init_0 31 rfl
theorem dX4_init_71 : decode cX4_init 71 = .ok (.newarray .int, 2) := of_q QX4_init_0 32 rfl
theorem dX4_init_73 : decode cX4_init 73 = .ok (.putfield 34, 3) := of_q QX4_init_0 33 rfl
theorem dX4_init_76 : decode cX4_init 76 = .ok (.return_, 1) := of_q QX4_init_0 34 rfl
def qX5_init_0 : List (Nat × Instr × Nat) := [(0, .aload_n 0, 1), (1, .invokespecial 3, 3), (4, .aload_n 0, 1), (5, .iconst 0, 1), (6, .putfield 9, 3), (9, .aload_n 0, 1), (10, .iconst (-1), 1), (11, .putfield 15, 3), (14, .aload_n 0, 1), (15, .aload_n 1, 1), (16, .putfield 18, 3), (19, .aload_n 0, 1), (20, .aload_n 2, 1), (21, .putfield 22, 3), (24, .return_, 1)]
theorem QX5_init_0 : qX5_init_0.all (fun q => decide (decode cX5_init q.1 = .ok q.2)) = true := by decide +kernel
theorem dX5_init_0 : decode cX5_init 0 = .ok (.aload_n 0, 1) := of_q QX5_init_0 0 rfl
theorem dX5_init_1 : decode cX5_init 1 = .ok (.invokespecial 3, 3) := of_q QX5_init_0 1 rfl
theorem dX5_init_4 : decode cX5_init 4 = .ok (.aload_n 0, 1) := of_q QX5_init_0 2 rfl
theorem dX5_init_5 : decode cX5_init 5 = .ok (.iconst 0, 1) := of_q QX5_init_0 3 rfl
theorem dX5_init_6 : decode cX5_init 6 = .ok (.putfield 9, 3) := of_q QX5_init_0 4 rfl
theorem dX5_init_9 : decode cX5_init 9 = .ok (.aload_n 0, 1) := of_q QX5_init_0 5 rfl
theorem dX5_init_10 : decode cX5_init 10 = .ok (.iconst (-1), 1) := of_q QX5_init_0 6 rfl
theorem dX5_init_11 : decode cX5_init 11 = .ok (.putfield 15, 3) := of_q QX5_init_0 7 rfl
theorem dX5_init_14 : decode cX5_init 14 = .ok (.aload_n 0, 1) := of_q QX5_init_0 8 rfl
theorem dX5_init_15 : decode cX5_init 15 = .ok (.aload_n 1, 1) := of_q QX5_init_0 9 rfl
theorem dX5_init_16 : decode cX5_init 16 = .ok (.putfield 18, 3) := of_q QX5_init_0 10 rfl
theorem dX5_init_19 : decode cX5_init 19 = .ok (.aload_n 0, 1) := of_q QX5_init_0 11 rfl
theorem dX5_init_20 : decode cX5_init 20 = .ok (.aload_n 2, 1) := of_q QX5_init_0 12 rfl
theorem dX5_init_21 : decode cX5_init 21 = .ok (.putfield 22, 3) := of_q QX5_init_0 13 rfl
theorem dX5_init_24 : decode cX5_init 24 = .ok (.return_, 1) := of_q QX5_init_0 14 rfl
def qX5_readAll_0 : List (Nat × Instr × Nat) := [(0, .aload_n 0, 1), (1, .getfield 22, 3), (4, .invokevirtual 26, 3), (7, .aload_n 0, 1), (8, .aload_n 0, 1), (9, .getfield 18, 3), (12, .iconst 0, 1), (13, .invokevirtual 31, 3), (16, .putfield 9, 3), (19, .iconst 0, 1), (20, .istore_n 1, 1), (21, .iload_n 1, 1), (22, .bipush 16, 2), (24, .if_icmp .gt 48, 3), (27, .iload_n 1, 1), (28, .ifCond .le 19, 3), (31, .aload_n 0, 1), (32, .invokevirtual 37, 3), (35, .iconst (-1), 1), (36, .if_icmp .ne 11, 3), (39, .aload_n 0, 1), (40, .getfield 22, 3), (43, .invokevirtual 41, 3), (46, .ireturn, 1), (47, .aload_n 0, 1), (48, .invokevirtual 44, 3), (51, .ifCond .eq 10, 3), (54, .aload_n 0, 1), (55, .invokevirtual 48, 3), (58, .ifCond .ne 8, 3), (61, .aload_n 0, 1), (62, .getfield 15, 3), (65, .ireturn, 1), (66, .iinc 1 1, 3), (69, .goto (-48), 3), (72, .aload_n 0, 1), (73, .getfield 9, 3), (76, .ireturn, 1)]
theorem QX5_readAll_0 : qX5_readAll_0.all (fun q => decide (decode cX5_readAll q.1 = .ok q.2)) = true := by decide +kernel
theorem dX5_readAll_0 : decode cX5_readAll 0 = .ok (.aload_n 0, 1) := of_q QX5_readAll_0 0 rfl
theorem dX5_readAll_1 : decode cX5_readAll 1 = .ok (.getfield 22, 3) := of_q QX5_readAll_0 1 rfl
theorem dX5_readAll_4 : decode cX5_readAll 4 = .ok (.invokevirtual 26, 3) := of_q QX5_readAll_0 2 rfl
theorem dX5_readAll_7 : decode cX5_readAll 7 = .ok (.aload_n 0, 1) := of_q QX5_readAll_0 3 rfl
theorem dX5_readAll_8 : decode cX5_readAll 8 = .ok (.aload_n 0, 1) := of_q QX5_readAll_0 4 rfl
theorem dX5_readAll_9 : decode cX5_readAll 9 = .ok (.getfield 18, 3) := of_q QX5_readAll_0 5 rfl
theorem dX5_readAll_12 : decode cX5_readAll 12 = .ok (.iconst 0, 1) := of_q QX5_readAll_0 6 rfl
theorem dX5_readAll_13 : decode cX5_readAll 13 = .ok (.invokevirtual 31, 3) := of_q QX5_readAll_0 7 rfl
theorem dX5_readAll_16 : decode cX5_readAll 16 = .ok (.putfield 9, 3) := of_q QX5_readAll_0 8 rfl
theorem dX5_readAll_19 : decode cX5_readAll 19 = .ok (.iconst 0, 1) := of_q QX5_readAll_0 9 rfl
theorem dX5_readAll_20 : decode cX5_readAll 20 = .ok (.istore_n 1, 1) := of_q QX5_readAll_0 10 rfl
theorem dX5_readAll_21 : decode cX5_readAll 21 = .ok (.iload_n 1, 1) := of_q QX5_readAll_0 11 rfl
theorem dX5_readAll_22 : decode cX5_readAll 22 = .ok (.bipush 16, 2) := of_q QX5_readAll_0 12 rfl
theorem dX5_readAll_24 : decode cX5_readAll 24 = .ok (.if_icmp .gt 48, 3) := of_q QX5_readAll_0 13 rfl
theorem dX5_readAll_27 : decode cX5_readAll 27 = .ok (.iload_n 1, 1) := of_q QX5_readAll_0 14 rfl
theorem dX5_readAll_28 : decode cX5_readAll 28 = .ok (.ifCond .le 19, 3) := of_q QX5_readAll_0 15 rfl
theorem dX5_readAll_31 : decode cX5_readAll 31 = .ok (.aload_n 0, 1) := of_q QX5_readAll_0 16 rfl
theorem dX5_readAll_32 : decode cX5_readAll 32 = .ok (.invokevirtual 37, 3) := of_q QX5_readAll_0 17 rfl
theorem dX5_readAll_35 : decode cX5_readAll 35 = .ok (.iconst (-1), 1) := of_q QX5_readAll_0 18 rfl
theorem dX5_readAll_36 : decode cX5_readAll 36 = .ok (.if_icmp .ne 11, 3) := of_q QX5_readAll_0 19 rfl
theorem dX5_readAll_39 : decode cX5_readAll 39 = .ok (.aload_n 0, 1) := of_q QX5_readAll_0 20 rfl
theorem dX5_readAll_40 : decode cX5_readAll 40 = .ok (.getfield 22, 3) := of_q QX5_readAll_0 21 rfl
theorem dX5_readAll_43 : decode cX5_readAll 43 = .ok (.invokevirtual 41, 3) := of_q QX5_readAll_0 22 rfl
theorem dX5_readAll_46 : decode cX5_readAll 46 = .ok (.ireturn, 1) := of_q QX5_readAll_0 23 rfl
theorem dX5_readAll_47 : decode cX5_readAll 47 = .ok (.aload_n 0, 1) := of_q QX5_readAll_0 24 rfl
theorem dX5_readAll_48 : decode cX5_readAll 48 = .ok (.invokevirtual 44, 3) := of_q QX5_readAll_0 25 rfl
theorem dX5_readAll_51 : decode cX5_readAll 51 = .ok (.ifCond .eq 10, 3) := of_q QX5_readAll_0 26 rfl
theorem dX5_readAll_54 : decode cX5_readAll 54 = .ok (.aload_n 0, 1) := of_q QX5_readAll_0 27 rfl
theorem dX5_readAll_55 : decode cX5_readAll 55 = .ok (.invokevirtual 48, 3) := of_q QX5_readAll_0 28 rfl
theorem dX5_readAll_58 : decode cX5_readAll 58 = .ok (.ifCond .ne 8, 3) := of_q QX5_readAll_0 29 rfl
theorem dX5_readAll_61 : decode cX5_readAll 61 = .ok (.aload_n 0, 1) := of_q QX5_readAll_0 30 rfl
theorem dX5_readAll_62 : decode cX5_readAll 62 = .ok (.getfield 15, 3) := of_q QX5_readAll_0 31 rfl
theorem dX5_readAll_65 : decode cX5_readAll 65 = .ok (.ireturn, 1) := of_q QX5_readAll_0 32 rfl
theorem dX5_readAll_66 : decode cX5_readAll 66 = .ok (.iinc 1 1, 3) := of_q QX5_readAll_0 33 rfl
theorem dX5_readAll_69 : decode cX5_readAll 69 = .ok (.goto (-48), 3) := of_q QX5_readAll_0 34 rfl
theorem dX5_readAll_72 : decode cX5_readAll 72 = .ok (.aload_n 0, 1) := of_q QX5_readAll_0 35 rfl
theorem dX5_readAll_73 : decode cX5_readAll 73 = .ok (.getfield 9, 3) := of_q QX5_readAll_0 36 rfl
theorem dX5_readAll_76 : decode cX5_readAll 76 = .ok (.ireturn, 1) := of_q QX5_readAll_0 37 rfl
def qX5_here_0 : List (Nat × Instr × Nat) := [(0, .aload_n 0, 1), (1, .getfield 9, 3), (4, .ifCond .lt 32, 3), (7, .aload_n 0, 1), (8, .getfield 9, 3), (11, .aload_n 0, 1), (12, .getfield 18, 3), (15, .getfield 51, 3), (18, .if_icmp .ge 18, 3), (21, .aload_n 0, 1), (22, .getfield 18, 3), (25, .getfield 54, 3), (28, .aload_n 0, 1), (29, .getfield 9, 3), (32, .caload, 1), (33, .goto 4, 3), (36, .iconst (-1), 1), (37, .ireturn, 1)]
theorem QX5_here_0 : qX5_here_0.all (fun q => decide (decode cX5_here q.1 = .ok q.2)) = true := by decide +kernel
theorem dX5_here_0 : decode cX5_here 0 = .ok (.aload_n 0, 1) := of_q QX5_here_0 0 rfl
theorem dX5_here_1 : decode cX5_here 1 = .ok (.getfield 9, 3) := of_q QX5_here_0 1 rfl
theorem dX5_here_4 : decode cX5_here 4 = .ok (.ifCond .lt 32, 3) := of_q QX5_here_0 2 rfl
theorem dX5_here_7 : decode cX5_here 7 = .ok (.aload_n 0, 1) := of_q QX5_here_0 3 rfl
theorem dX5_here_8 : decode cX5_here 8 = .ok (.getfield 9, 3) := of_q QX5_here_0 4 rfl
theorem dX5_here_11 : decode cX5_here 11 = .ok (.aload_n 0, 1) := of_q QX5_here_0 5 rfl
theorem dX5_here_12 : decode cX5_here 12 = .ok (.getfield 18, 3) := of_q QX5_here_0 6 rfl
theorem dX5_here_15 : decode cX5_here 15 = .ok (.getfield 51, 3) := of_q QX5_here_0 7 rfl
theorem dX5_here_18 : decode cX5_here 18 = .ok (.if_icmp .ge 18, 3) := of_q QX5_here_0 8 rfl
theorem dX5_here_21 : decode cX5_here 21 = .ok (.aload_n 0, 1) := of_q QX5_here_0 9 rfl
theorem dX5_here_22 : decode cX5_here 22 = .ok (.getfield 18, 3) := of_q QX5_here_0 10 rfl
theorem dX5_here_25 : decode cX5_here 25 = .ok (.getfield 54, 3) := of_q QX5_here_0 11 rfl
theorem dX5_here_28 : decode cX5_here 28 = .ok (.aload_n 0, 1) := of_q QX5_here_0 12 rfl
theorem dX5_here_29 : decode cX5_here 29 = .ok (.getfield 9, 3) := of_q QX5_here_0 13 rfl
theorem dX5_here_32 : decode cX5_here 32 = .ok (.caload, 1) := of_q QX5_here_0 14 rfl
theorem dX5_here_33 : decode cX5_here 33 = .ok (.goto 4, 3) := of_q QX5_here_0 15 rfl
theorem dX5_here_36 : decode cX5_here 36 = .ok (.iconst (-1), 1) := of_q QX5_here_0 16 rfl
theorem dX5_here_37 : decode cX5_here 37 = .ok (.ireturn, 1) := of_q QX5_here_0 17 rfl
def qX5_failAt_0 : List (Nat × Instr × Nat) := [(0, .aload_n 0, 1), (1, .iload_n 1, 1), (2, .putfield 15, 3), (5, .iconst 0, 1), (6, .ireturn, 1)]
theorem QX5_failAt_0 : qX5_failAt_0.all (fun q => decide (decode cX5_failAt q.1 = .ok q.2)) = true := by decide +kernel
theorem dX5_failAt_0 : decode cX5_failAt 0 = .ok (.aload_n 0, 1) := of_q QX5_failAt_0 0 rfl
theorem dX5_failAt_1 : decode cX5_failAt 1 = .ok (.iload_n 1, 1) := of_q QX5_failAt_0 1 rfl
theorem dX5_failAt_2 : decode cX5_failAt 2 = .ok (.putfield 15, 3) := of_q QX5_failAt_0 2 rfl
theorem dX5_failAt_5 : decode cX5_failAt 5 = .ok (.iconst 0, 1) := of_q QX5_failAt_0 3 rfl
theorem dX5_failAt_6 : decode cX5_failAt 6 = .ok (.ireturn, 1) := of_q QX5_failAt_0 4 rfl
def qX5_readHead_0 : List (Nat × Instr × Nat) := [(0, .aload_n 0, 1), (1, .invokevirtual 37, 3), (4, .bipush 65, 2), (6, .isub, 1), (7, .istore_n 1, 1), (8, .aload_n 0, 1), (9, .getfield 22, 3), (12, .iload_n 1, 1), (13, .invokevirtual 58, 3), (16, .ifCond .ne 12, 3), (19, .aload_n 0, 1), (20, .aload_n 0, 1), (21, .getfield 9, 3), (24, .invokevirtual 62, 3), (27, .ireturn, 1), (28, .aload_n 0, 1), (29, .aload_n 0, 1), (30, .getfield 18, 3), (33, .aload_n 0, 1), (34, .getfield 9, 3), (37, .iconst 1, 1), (38, .iadd, 1), (39, .invokevirtual 31, 3), (42, .putfield 9, 3), (45, .aload_n 0, 1), (46, .invokevirtual 37, 3), (49, .bipush 61, 2), (51, .if_icmp .eq 12, 3), (54, .aload_n 0, 1), (55, .aload_n 0, 1), (56, .getfield 9, 3), (59, .invokevirtual 62, 3), (62, .ireturn, 1), (63, .aload_n 0, 1), (64, .getfield 22, 3), (67, .iload_n 1, 1), (68, .invokevirtual 65, 3), (71, .iconst 1, 1), (72, .ireturn, 1)]
theorem QX5_readHead_0 : qX5_readHead_0.all (fun q => decide (decode cX5_readHead q.1 = .ok q.2)) = true := by decide +kernel
theorem dX5_readHead_0 : decode cX5_readHead 0 = .ok (.aload_n 0, 1) := of_q QX5_readHead_0 0 rfl
theorem dX5_readHead_1 : decode cX5_readHead 1 = .ok (.invokevirtual 37, 3) := of_q QX5_readHead_0 1 rfl
theorem dX5_readHead_4 : decode cX5_readHead 4 = .ok (.bipush 65, 2) := of_q QX5_readHead_0 2 rfl
theorem dX5_readHead_6 : decode cX5_readHead 6 = .ok (.isub, 1) := of_q QX5_readHead_0 3 rfl
theorem dX5_readHead_7 : decode cX5_readHead 7 = .ok (.istore_n 1, 1) := of_q QX5_readHead_0 4 rfl
theorem dX5_readHead_8 : decode cX5_readHead 8 = .ok (.aload_n 0, 1) := of_q QX5_readHead_0 5 rfl
theorem dX5_readHead_9 : decode cX5_readHead 9 = .ok (.getfield 22, 3) := of_q QX5_readHead_0 6 rfl
theorem dX5_readHead_12 : decode cX5_readHead 12 = .ok (.iload_n 1, 1) := of_q QX5_readHead_0 7 rfl
theorem dX5_readHead_13 : decode cX5_readHead 13 = .ok (.invokevirtual 58, 3) := of_q QX5_readHead_0 8 rfl
theorem dX5_readHead_16 : decode cX5_readHead 16 = .ok (.ifCond .ne 12, 3) := of_q QX5_readHead_0 9 rfl
theorem dX5_readHead_19 : decode cX5_readHead 19 = .ok (.aload_n 0, 1) := of_q QX5_readHead_0 10 rfl
theorem dX5_readHead_20 : decode cX5_readHead 20 = .ok (.aload_n 0, 1) := of_q QX5_readHead_0 11 rfl
theorem dX5_readHead_21 : decode cX5_readHead 21 = .ok (.getfield 9, 3) := of_q QX5_readHead_0 12 rfl
theorem dX5_readHead_24 : decode cX5_readHead 24 = .ok (.invokevirtual 62, 3) := of_q QX5_readHead_0 13 rfl
theorem dX5_readHead_27 : decode cX5_readHead 27 = .ok (.ireturn, 1) := of_q QX5_readHead_0 14 rfl
theorem dX5_readHead_28 : decode cX5_readHead 28 = .ok (.aload_n 0, 1) := of_q QX5_readHead_0 15 rfl
theorem dX5_readHead_29 : decode cX5_readHead 29 = .ok (.aload_n 0, 1) := of_q QX5_readHead_0 16 rfl
theorem dX5_readHead_30 : decode cX5_readHead 30 = .ok (.getfield 18, 3) := of_q QX5_readHead_0 17 rfl
theorem dX5_readHead_33 : decode cX5_readHead 33 = .ok (.aload_n 0, 1) := of_q QX5_readHead_0 18 rfl
theorem dX5_readHead_34 : decode cX5_readHead 34 = .ok (.getfield 9, 3) := of_q QX5_readHead_0 19 rfl
theorem dX5_readHead_37 : decode cX5_readHead 37 = .ok (.iconst 1, 1) := of_q QX5_readHead_0 20 rfl
theorem dX5_readHead_38 : decode cX5_readHead 38 = .ok (.iadd, 1) := of_q QX5_readHead_0 21 rfl
theorem dX5_readHead_39 : decode cX5_readHead 39 = .ok (.invokevirtual 31, 3) := of_q QX5_readHead_0 22 rfl
theorem dX5_readHead_42 : decode cX5_readHead 42 = .ok (.putfield 9, 3) := of_q QX5_readHead_0 23 rfl
theorem dX5_readHead_45 : decode cX5_readHead 45 = .ok (.aload_n 0, 1) := of_q QX5_readHead_0 24 rfl
theorem dX5_readHead_46 : decode cX5_readHead 46 = .ok (.invokevirtual 37, 3) := of_q QX5_readHead_0 25 rfl
theorem dX5_readHead_49 : decode cX5_readHead 49 = .ok (.bipush 61, 2) := of_q QX5_readHead_0 26 rfl
theorem dX5_readHead_51 : decode cX5_readHead 51 = .ok (.if_icmp .eq 12, 3) := of_q QX5_readHead_0 27 rfl
theorem dX5_readHead_54 : decode cX5_readHead 54 = .ok (.aload_n 0, 1) := of_q QX5_readHead_0 28 rfl
theorem dX5_readHead_55 : decode cX5_readHead 55 = .ok (.aload_n 0, 1) := of_q QX5_readHead_0 29 rfl
theorem dX5_readHead_56 : decode cX5_readHead 56 = .ok (.getfield 9, 3) := of_q QX5_readHead_0 30 rfl
theorem dX5_readHead_59 : decode cX5_readHead 59 = .ok (.invokevirtual 62, 3) := of_q QX5_readHead_0 31 rfl
theorem dX5_readHead_62 : decode cX5_readHead 62 = .ok (.ireturn, 1) := of_q QX5_readHead_0 32 rfl
theorem dX5_readHead_63 : decode cX5_readHead 63 = .ok (.aload_n 0, 1) := of_q QX5_readHead_0 33 rfl
theorem dX5_readHead_64 : decode cX5_readHead 64 = .ok (.getfield 22, 3) := of_q QX5_readHead_0 34 rfl
theorem dX5_readHead_67 : decode cX5_readHead 67 = .ok (.iload_n 1, 1) := of_q QX5_readHead_0 35 rfl
theorem dX5_readHead_68 : decode cX5_readHead 68 = .ok (.invokevirtual 65, 3) := of_q QX5_readHead_0 36 rfl
theorem dX5_readHead_71 : decode cX5_readHead 71 = .ok (.iconst 1, 1) := of_q QX5_readHead_0 37 rfl
theorem dX5_readHead_72 : decode cX5_readHead 72 = .ok (.ireturn, 1) := of_q QX5_readHead_0 38 rfl
def qX5_readAlternatives_0 : List (Nat × Instr × Nat) := [(0, .iconst 0, 1), (1, .istore_n 1, 1), (2, .iload_n 1, 1), (3, .bipush 48, 2), (5, .if_icmp .gt 53, 3), (8, .aload_n 0, 1), (9, .aload_n 0, 1), (10, .getfield 18, 3), (13, .aload_n 0, 1), (14, .getfield 9, 3), (17, .iconst 1, 1), (18, .iadd, 1), (19, .invokevirtual 31, 3), (22, .putfield 9, 3), (25, .aload_n 0, 1), (26, .invokevirtual 69, 3), (29, .ifCond .eq 10, 3), (32, .aload_n 0, 1), (33, .invokevirtual 72, 3), (36, .ifCond .ne 5, 3), (39, .iconst 0, 1), (40, .ireturn, 1), (41, .aload_n 0, 1), (42, .invokevirtual 37, 3), (45, .bipush 124, 2), (47, .if_icmp .eq 5, 3), (50, .iconst 1, 1), (51, .ireturn, 1), (52, .iinc 1 1, 3), (55, .goto (-53), 3), (58, .aload_n 0, 1), (59, .aload_n 0, 1), (60, .getfield 9, 3), (63, .invokevirtual 62, 3), (66, .ireturn, 1)]
theorem QX5_readAlternatives_0 : qX5_readAlternatives_0.all (fun q => decide (decode cX5_readAlternatives q.1 = .ok q.2)) = true := by decide +kernel
theorem dX5_readAlternatives_0 : decode cX5_readAlternatives 0 = .ok (.iconst 0, 1) := of_q QX5_readAlternatives_0 0 rfl
theorem dX5_readAlternatives_1 : decode cX5_readAlternatives 1 = .ok (.istore_n 1, 1) := of_q QX5_readAlternatives_0 1 rfl
theorem dX5_readAlternatives_2 : decode cX5_readAlternatives 2 = .ok (.iload_n 1, 1) := of_q QX5_readAlternatives_0 2 rfl
theorem dX5_readAlternatives_3 : decode cX5_readAlternatives 3 = .ok (.bipush 48, 2) := of_q QX5_readAlternatives_0 3 rfl
theorem dX5_readAlternatives_5 : decode cX5_readAlternatives 5 = .ok (.if_icmp .gt 53, 3) := of_q QX5_readAlternatives_0 4 rfl
theorem dX5_readAlternatives_8 : decode cX5_readAlternatives 8 = .ok (.aload_n 0, 1) := of_q QX5_readAlternatives_0 5 rfl
theorem dX5_readAlternatives_9 : decode cX5_readAlternatives 9 = .ok (.aload_n 0, 1) := of_q QX5_readAlternatives_0 6 rfl
theorem dX5_readAlternatives_10 : decode cX5_readAlternatives 10 = .ok (.getfield 18, 3) := of_q QX5_readAlternatives_0 7 rfl
theorem dX5_readAlternatives_13 : decode cX5_readAlternatives 13 = .ok (.aload_n 0, 1) := of_q QX5_readAlternatives_0 8 rfl
theorem dX5_readAlternatives_14 : decode cX5_readAlternatives 14 = .ok (.getfield 9, 3) := of_q QX5_readAlternatives_0 9 rfl
theorem dX5_readAlternatives_17 : decode cX5_readAlternatives 17 = .ok (.iconst 1, 1) := of_q QX5_readAlternatives_0 10 rfl
theorem dX5_readAlternatives_18 : decode cX5_readAlternatives 18 = .ok (.iadd, 1) := of_q QX5_readAlternatives_0 11 rfl
theorem dX5_readAlternatives_19 : decode cX5_readAlternatives 19 = .ok (.invokevirtual 31, 3) := of_q QX5_readAlternatives_0 12 rfl
theorem dX5_readAlternatives_22 : decode cX5_readAlternatives 22 = .ok (.putfield 9, 3) := of_q QX5_readAlternatives_0 13 rfl
theorem dX5_readAlternatives_25 : decode cX5_readAlternatives 25 = .ok (.aload_n 0, 1) := of_q QX5_readAlternatives_0 14 rfl
theorem dX5_readAlternatives_26 : decode cX5_readAlternatives 26 = .ok (.invokevirtual 69, 3) := of_q QX5_readAlternatives_0 15 rfl
theorem dX5_readAlternatives_29 : decode cX5_readAlternatives 29 = .ok (.ifCond .eq 10, 3) := of_q QX5_readAlternatives_0 16 rfl
theorem dX5_readAlternatives_32 : decode cX5_readAlternatives 32 = .ok (.aload_n 0, 1) := of_q QX5_readAlternatives_0 17 rfl
theorem dX5_readAlternatives_33 : decode cX5_readAlternatives 33 = .ok (.invokevirtual 72, 3) := of_q QX5_readAlternatives_0 18 rfl
theorem dX5_readAlternatives_36 : decode cX5_readAlternatives 36 = .ok (.ifCond .ne 5, 3) := of_q QX5_readAlternatives_0 19 rfl
theorem dX5_readAlternatives_39 : decode cX5_readAlternatives 39 = .ok (.iconst 0, 1) := of_q QX5_readAlternatives_0 20 rfl
theorem dX5_readAlternatives_40 : decode cX5_readAlternatives 40 = .ok (.ireturn, 1) := of_q QX5_readAlternatives_0 21 rfl
theorem dX5_readAlternatives_41 : decode cX5_readAlternatives 41 = .ok (.aload_n 0, 1) := of_q QX5_readAlternatives_0 22 rfl
theorem dX5_readAlternatives_42 : decode cX5_readAlternatives 42 = .ok (.invokevirtual 37, 3) := of_q QX5_readAlternatives_0 23 rfl
theorem dX5_readAlternatives_45 : decode cX5_readAlternatives 45 = .ok (.bipush 124, 2) := of_q QX5_readAlternatives_0 24 rfl
theorem dX5_readAlternatives_47 : decode cX5_readAlternatives 47 = .ok (.if_icmp .eq 5, 3) := of_q QX5_readAlternatives_0 25 rfl
theorem dX5_readAlternatives_50 : decode cX5_readAlternatives 50 = .ok (.iconst 1, 1) := of_q QX5_readAlternatives_0 26 rfl
theorem dX5_readAlternatives_51 : decode cX5_readAlternatives 51 = .ok (.ireturn, 1) := of_q QX5_readAlternatives_0 27 rfl
theorem dX5_readAlternatives_52 : decode cX5_readAlternatives 52 = .ok (.iinc 1 1, 3) := of_q QX5_readAlternatives_0 28 rfl
theorem dX5_readAlternatives_55 : decode cX5_readAlternatives 55 = .ok (.goto (-53), 3) := of_q QX5_readAlternatives_0 29 rfl
theorem dX5_readAlternatives_58 : decode cX5_readAlternatives 58 = .ok (.aload_n 0, 1) := of_q QX5_readAlternatives_0 30 rfl
theorem dX5_readAlternatives_59 : decode cX5_readAlternatives 59 = .ok (.aload_n 0, 1) := of_q QX5_readAlternatives_0 31 rfl
theorem dX5_readAlternatives_60 : decode cX5_readAlternatives 60 = .ok (.getfield 9, 3) := of_q QX5_readAlternatives_0 32 rfl
theorem dX5_readAlternatives_63 : decode cX5_readAlternatives 63 = .ok (.invokevirtual 62, 3) := of_q QX5_readAlternatives_0 33 rfl
theorem dX5_readAlternatives_66 : decode cX5_readAlternatives 66 = .ok (.ireturn, 1) := of_q QX5_readAlternatives_0 34 rfl
def qX5_readWeight_0 : List (Nat × Instr × Nat) := [(0, .aload_n 0, 1), (1, .getfield 9, 3), (4, .istore_n 1, 1), (5, .aload_n 0, 1), (6, .invokevirtual 37, 3), (9, .invokestatic 75, 3), (12, .ifCond .eq 22, 3), (15, .aload_n 0, 1), (16, .invokevirtual 37, 3), (19, .bipush 48, 2), (21, .if_icmp .eq 13, 3), (24, .aload_n 0, 1), (25, .getfield 22, 3), (28, .invokevirtual 78, 3), (31, .ifCond .ne 9, 3), (34, .aload_n 0, 1), (35, .iload_n 1, 1), (36, .invokevirtual 62, 3), (39, .ireturn, 1), (40, .iconst 0, 1), (41, .istore_n 2, 1), (42, .aload_n 0, 1), (43, .getfield 9, 3), (46, .aload_n 0, 1), (47, .getfield 18, 3), (50, .getfield 51, 3), (53, .if_icmp .ge 52, 3), (56, .aload_n 0, 1), (57, .invokevirtual 37, 3), (60, .invokestatic 75, 3), (63, .ifCond .eq 42, 3), (66, .iload_n 2, 1), (67, .bipush 10, 2), (69, .imul, 1), (70, .aload_n 0, 1), (71, .invokevirtual 37, 3), (74, .iadd, 1), (75, .bipush 48, 2), (77, .isub, 1), (78, .istore_n 2, 1), (79, .iload_n 2, 1), (80, .sipush 999, 3), (83, .if_icmp .le 9, 3), (86, .aload_n 0, 1), (87, .iload_n 1, 1), (88, .invokevirtual 62, 3), (91, .ireturn, 1), (92, .aload_n 0, 1), (93, .dup, 1), (94, .getfield 9, 3), (97, .iconst 1, 1), (98, .iadd, 1), (99, .putfield 9, 3), (102, .goto (-60), 3), (105, .aload_n 0, 1), (106, .getfield 22, 3), (109, .iload_n 2, 1), (110, .invokevirtual 81, 3), (113, .iconst 1, 1), (114, .ireturn, 1)]
theorem QX5_readWeight_0 : qX5_readWeight_0.all (fun q => decide (decode cX5_readWeight q.1 = .ok q.2)) = true := by decide +kernel
theorem dX5_readWeight_0 : decode cX5_readWeight 0 = .ok (.aload_n 0, 1) := of_q QX5_readWeight_0 0 rfl
theorem dX5_readWeight_1 : decode cX5_readWeight 1 = .ok (.getfield 9, 3) := of_q QX5_readWeight_0 1 rfl
theorem dX5_readWeight_4 : decode cX5_readWeight 4 = .ok (.istore_n 1, 1) := of_q QX5_readWeight_0 2 rfl
theorem dX5_readWeight_5 : decode cX5_readWeight 5 = .ok (.aload_n 0, 1) := of_q QX5_readWeight_0 3 rfl
theorem dX5_readWeight_6 : decode cX5_readWeight 6 = .ok (.invokevirtual 37, 3) := of_q QX5_readWeight_0 4 rfl
theorem dX5_readWeight_9 : decode cX5_readWeight 9 = .ok (.invokestatic 75, 3) := of_q QX5_readWeight_0 5 rfl
theorem dX5_readWeight_12 : decode cX5_readWeight 12 = .ok (.ifCond .eq 22, 3) := of_q QX5_readWeight_0 6 rfl
theorem dX5_readWeight_15 : decode cX5_readWeight 15 = .ok (.aload_n 0, 1) := of_q QX5_readWeight_0 7 rfl
theorem dX5_readWeight_16 : decode cX5_readWeight 16 = .ok (.invokevirtual 37, 3) := of_q QX5_readWeight_0 8 rfl
theorem dX5_readWeight_19 : decode cX5_readWeight 19 = .ok (.bipush 48, 2) := of_q QX5_readWeight_0 9 rfl
theorem dX5_readWeight_21 : decode cX5_readWeight 21 = .ok (.if_icmp .eq 13, 3) := of_q QX5_readWeight_0 10 rfl
theorem dX5_readWeight_24 : decode cX5_readWeight 24 = .ok (.aload_n 0, 1) := of_q QX5_readWeight_0 11 rfl
theorem dX5_readWeight_25 : decode cX5_readWeight 25 = .ok (.getfield 22, 3) := of_q QX5_readWeight_0 12 rfl
theorem dX5_readWeight_28 : decode cX5_readWeight 28 = .ok (.invokevirtual 78, 3) := of_q QX5_readWeight_0 13 rfl
theorem dX5_readWeight_31 : decode cX5_readWeight 31 = .ok (.ifCond .ne 9, 3) := of_q QX5_readWeight_0 14 rfl
theorem dX5_readWeight_34 : decode cX5_readWeight 34 = .ok (.aload_n 0, 1) := of_q QX5_readWeight_0 15 rfl
theorem dX5_readWeight_35 : decode cX5_readWeight 35 = .ok (.iload_n 1, 1) := of_q QX5_readWeight_0 16 rfl
theorem dX5_readWeight_36 : decode cX5_readWeight 36 = .ok (.invokevirtual 62, 3) := of_q QX5_readWeight_0 17 rfl
theorem dX5_readWeight_39 : decode cX5_readWeight 39 = .ok (.ireturn, 1) := of_q QX5_readWeight_0 18 rfl
theorem dX5_readWeight_40 : decode cX5_readWeight 40 = .ok (.iconst 0, 1) := of_q QX5_readWeight_0 19 rfl
theorem dX5_readWeight_41 : decode cX5_readWeight 41 = .ok (.istore_n 2, 1) := of_q QX5_readWeight_0 20 rfl
theorem dX5_readWeight_42 : decode cX5_readWeight 42 = .ok (.aload_n 0, 1) := of_q QX5_readWeight_0 21 rfl
theorem dX5_readWeight_43 : decode cX5_readWeight 43 = .ok (.getfield 9, 3) := of_q QX5_readWeight_0 22 rfl
theorem dX5_readWeight_46 : decode cX5_readWeight 46 = .ok (.aload_n 0, 1) := of_q QX5_readWeight_0 23 rfl
theorem dX5_readWeight_47 : decode cX5_readWeight 47 = .ok (.getfield 18, 3) := of_q QX5_readWeight_0 24 rfl
theorem dX5_readWeight_50 : decode cX5_readWeight 50 = .ok (.getfield 51, 3) := of_q QX5_readWeight_0 25 rfl
theorem dX5_readWeight_53 : decode cX5_readWeight 53 = .ok (.if_icmp .ge 52, 3) := of_q QX5_readWeight_0 26 rfl
theorem dX5_readWeight_56 : decode cX5_readWeight 56 = .ok (.aload_n 0, 1) := of_q QX5_readWeight_0 27 rfl
theorem dX5_readWeight_57 : decode cX5_readWeight 57 = .ok (.invokevirtual 37, 3) := of_q QX5_readWeight_0 28 rfl
theorem dX5_readWeight_60 : decode cX5_readWeight 60 = .ok (.invokestatic 75, 3) := of_q QX5_readWeight_0 29 rfl
theorem dX5_readWeight_63 : decode cX5_readWeight 63 = .ok (.ifCond .eq 42, 3) := of_q QX5_readWeight_0 30 rfl
theorem dX5_readWeight_66 : decode cX5_readWeight 66 = .ok (.iload_n 2, 1) := of_q QX5_readWeight_0 31 rfl
theorem dX5_readWeight_67 : decode cX5_readWeight 67 = .ok (.bipush 10, 2) := of_q QX5_readWeight_0 32 rfl
theorem dX5_readWeight_69 : decode cX5_readWeight 69 = .ok (.imul, 1) := of_q QX5_readWeight_0 33 rfl
theorem dX5_readWeight_70 : decode cX5_readWeight 70 = .ok (.aload_n 0, 1) := of_q QX5_readWeight_0 34 rfl
theorem dX5_readWeight_71 : decode cX5_readWeight 71 = .ok (.invokevirtual 37, 3) := of_q QX5_readWeight_0 35 rfl
theorem dX5_readWeight_74 : decode cX5_readWeight 74 = .ok (.iadd, 1) := of_q QX5_readWeight_0 36 rfl
theorem dX5_readWeight_75 : decode cX5_readWeight 75 = .ok (.bipush 48, 2) := of_q QX5_readWeight_0 37 rfl
theorem dX5_readWeight_77 : decode cX5_readWeight 77 = .ok (.isub, 1) := of_q QX5_readWeight_0 38 rfl
theorem dX5_readWeight_78 : decode cX5_readWeight 78 = .ok (.istore_n 2, 1) := of_q QX5_readWeight_0 39 rfl
theorem dX5_readWeight_79 : decode cX5_readWeight 79 = .ok (.iload_n 2, 1) := of_q QX5_readWeight_0 40 rfl
theorem dX5_readWeight_80 : decode cX5_readWeight 80 = .ok (.sipush 999, 3) := of_q QX5_readWeight_0 41 rfl
theorem dX5_readWeight_83 : decode cX5_readWeight 83 = .ok (.if_icmp .le 9, 3) := of_q QX5_readWeight_0 42 rfl
theorem dX5_readWeight_86 : decode cX5_readWeight 86 = .ok (.aload_n 0, 1) := of_q QX5_readWeight_0 43 rfl
theorem dX5_readWeight_87 : decode cX5_readWeight 87 = .ok (.iload_n 1, 1) := of_q QX5_readWeight_0 44 rfl
theorem dX5_readWeight_88 : decode cX5_readWeight 88 = .ok (.invokevirtual 62, 3) := of_q QX5_readWeight_0 45 rfl
theorem dX5_readWeight_91 : decode cX5_readWeight 91 = .ok (.ireturn, 1) := of_q QX5_readWeight_0 46 rfl
theorem dX5_readWeight_92 : decode cX5_readWeight 92 = .ok (.aload_n 0, 1) := of_q QX5_readWeight_0 47 rfl
theorem dX5_readWeight_93 : decode cX5_readWeight 93 = .ok (.dup, 1) := of_q QX5_readWeight_0 48 rfl
theorem dX5_readWeight_94 : decode cX5_readWeight 94 = .ok (.getfield 9, 3) := of_q QX5_readWeight_0 49 rfl
theorem dX5_readWeight_97 : decode cX5_readWeight 97 = .ok (.iconst 1, 1) := of_q QX5_readWeight_0 50 rfl
theorem dX5_readWeight_98 : decode cX5_readWeight 98 = .ok (.iadd, 1) := of_q QX5_readWeight_0 51 rfl
theorem dX5_readWeight_99 : decode cX5_readWeight 99 = .ok (.putfield 9, 3) := of_q QX5_readWeight_0 52 rfl
theorem dX5_readWeight_102 : decode cX5_readWeight 102 = .ok (.goto (-60), 3) := of_q QX5_readWeight_0 53 rfl
theorem dX5_readWeight_105 : decode cX5_readWeight 105 = .ok (.aload_n 0, 1) := of_q QX5_readWeight_0 54 rfl
theorem dX5_readWeight_106 : decode cX5_readWeight 106 = .ok (.getfield 22, 3) := of_q QX5_readWeight_0 55 rfl
theorem dX5_readWeight_109 : decode cX5_readWeight 109 = .ok (.iload_n 2, 1) := of_q QX5_readWeight_0 56 rfl
theorem dX5_readWeight_110 : decode cX5_readWeight 110 = .ok (.invokevirtual 81, 3) := of_q QX5_readWeight_0 57 rfl
theorem dX5_readWeight_113 : decode cX5_readWeight 113 = .ok (.iconst 1, 1) := of_q QX5_readWeight_0 58 rfl
theorem dX5_readWeight_114 : decode cX5_readWeight 114 = .ok (.ireturn, 1) := of_q QX5_readWeight_0 59 rfl
def qX5_readSigns_0 : List (Nat × Instr × Nat) := [(0, .iconst 0, 1), (1, .istore_n 1, 1), (2, .iload_n 1, 1), (3, .bipush 12, 2), (5, .if_icmp .gt 103, 3), (8, .aload_n 0, 1), (9, .aload_n 0, 1), (10, .getfield 18, 3), (13, .aload_n 0, 1), (14, .getfield 9, 3), (17, .invokevirtual 31, 3), (20, .putfield 9, 3), (23, .aload_n 0, 1), (24, .invokevirtual 37, 3), (27, .iconst (-1), 1), (28, .if_icmp .eq 12, 3), (31, .aload_n 0, 1), (32, .invokevirtual 37, 3), (35, .bipush 124, 2), (37, .if_icmp .ne 24, 3), (40, .iload_n 1, 1), (41, .ifCond .gt 14, 3), (44, .aload_n 0, 1), (45, .aload_n 0, 1), (46, .getfield 9, 3), (49, .invokevirtual 62, 3), (52, .ifCond .eq 7, 3), (55, .iconst 1, 1), (56, .goto 4, 3), (59, .iconst 0, 1), (60, .ireturn, 1), (61, .iload_n 1, 1), (62, .ifCond .le 12, 3), (65, .aload_n 0, 1), (66, .invokevirtual 84, 3), (69, .ifCond .eq 5, 3), (72, .iconst 1, 1), (73, .ireturn, 1), (74, .aload_n 0, 1), (75, .getfield 22, 3), (78, .invokevirtual 87, 3), (81, .ifCond .ne 12, 3), (84, .aload_n 0, 1), (85, .aload_n 0, 1), (86, .getfield 9, 3), (89, .invokevirtual 62, 3), (92, .ireturn, 1), (93, .aload_n 0, 1), (94, .invokevirtual 90, 3), (97, .ifCond .ne 5, 3), (100, .iconst 0, 1), (101, .ireturn, 1), (102, .iinc 1 1, 3), (105, .goto (-103), 3), (108, .aload_n 0, 1), (109, .aload_n 0, 1), (110, .getfield 9, 3), (113, .invokevirtual 62, 3), (116, .ireturn, 1)]
theorem QX5_readSigns_0 : qX5_readSigns_0.all (fun q => decide (decode cX5_readSigns q.1 = .ok q.2)) = true := by decide +kernel
theorem dX5_readSigns_0 : decode cX5_readSigns 0 = .ok (.iconst 0, 1) := of_q QX5_readSigns_0 0 rfl
theorem dX5_readSigns_1 : decode cX5_readSigns 1 = .ok (.istore_n 1, 1) := of_q QX5_readSigns_0 1 rfl
theorem dX5_readSigns_2 : decode cX5_readSigns 2 = .ok (.iload_n 1, 1) := of_q QX5_readSigns_0 2 rfl
theorem dX5_readSigns_3 : decode cX5_readSigns 3 = .ok (.bipush 12, 2) := of_q QX5_readSigns_0 3 rfl
theorem dX5_readSigns_5 : decode cX5_readSigns 5 = .ok (.if_icmp .gt 103, 3) := of_q QX5_readSigns_0 4 rfl
theorem dX5_readSigns_8 : decode cX5_readSigns 8 = .ok (.aload_n 0, 1) := of_q QX5_readSigns_0 5 rfl
theorem dX5_readSigns_9 : decode cX5_readSigns 9 = .ok (.aload_n 0, 1) := of_q QX5_readSigns_0 6 rfl
theorem dX5_readSigns_10 : decode cX5_readSigns 10 = .ok (.getfield 18, 3) := of_q QX5_readSigns_0 7 rfl
theorem dX5_readSigns_13 : decode cX5_readSigns 13 = .ok (.aload_n 0, 1) := of_q QX5_readSigns_0 8 rfl
theorem dX5_readSigns_14 : decode cX5_readSigns 14 = .ok (.getfield 9, 3) := of_q QX5_readSigns_0 9 rfl
theorem dX5_readSigns_17 : decode cX5_readSigns 17 = .ok (.invokevirtual 31, 3) := of_q QX5_readSigns_0 10 rfl
theorem dX5_readSigns_20 : decode cX5_readSigns 20 = .ok (.putfield 9, 3) := of_q QX5_readSigns_0 11 rfl
theorem dX5_readSigns_23 : decode cX5_readSigns 23 = .ok (.aload_n 0, 1) := of_q QX5_readSigns_0 12 rfl
theorem dX5_readSigns_24 : decode cX5_readSigns 24 = .ok (.invokevirtual 37, 3) := of_q QX5_readSigns_0 13 rfl
theorem dX5_readSigns_27 : decode cX5_readSigns 27 = .ok (.iconst (-1), 1) := of_q QX5_readSigns_0 14 rfl
theorem dX5_readSigns_28 : decode cX5_readSigns 28 = .ok (.if_icmp .eq 12, 3) := of_q QX5_readSigns_0 15 rfl
theorem dX5_readSigns_31 : decode cX5_readSigns 31 = .ok (.aload_n 0, 1) := of_q QX5_readSigns_0 16 rfl
theorem dX5_readSigns_32 : decode cX5_readSigns 32 = .ok (.invokevirtual 37, 3) := of_q QX5_readSigns_0 17 rfl
theorem dX5_readSigns_35 : decode cX5_readSigns 35 = .ok (.bipush 124, 2) := of_q QX5_readSigns_0 18 rfl
theorem dX5_readSigns_37 : decode cX5_readSigns 37 = .ok (.if_icmp .ne 24, 3) := of_q QX5_readSigns_0 19 rfl
theorem dX5_readSigns_40 : decode cX5_readSigns 40 = .ok (.iload_n 1, 1) := of_q QX5_readSigns_0 20 rfl
theorem dX5_readSigns_41 : decode cX5_readSigns 41 = .ok (.ifCond .gt 14, 3) := of_q QX5_readSigns_0 21 rfl
theorem dX5_readSigns_44 : decode cX5_readSigns 44 = .ok (.aload_n 0, 1) := of_q QX5_readSigns_0 22 rfl
theorem dX5_readSigns_45 : decode cX5_readSigns 45 = .ok (.aload_n 0, 1) := of_q QX5_readSigns_0 23 rfl
theorem dX5_readSigns_46 : decode cX5_readSigns 46 = .ok (.getfield 9, 3) := of_q QX5_readSigns_0 24 rfl
theorem dX5_readSigns_49 : decode cX5_readSigns 49 = .ok (.invokevirtual 62, 3) := of_q QX5_readSigns_0 25 rfl
theorem dX5_readSigns_52 : decode cX5_readSigns 52 = .ok (.ifCond .eq 7, 3) := of_q QX5_readSigns_0 26 rfl
theorem dX5_readSigns_55 : decode cX5_readSigns 55 = .ok (.iconst 1, 1) := of_q QX5_readSigns_0 27 rfl
theorem dX5_readSigns_56 : decode cX5_readSigns 56 = .ok (.goto 4, 3) := of_q QX5_readSigns_0 28 rfl
theorem dX5_readSigns_59 : decode cX5_readSigns 59 = .ok (.iconst 0, 1) := of_q QX5_readSigns_0 29 rfl
theorem dX5_readSigns_60 : decode cX5_readSigns 60 = .ok (.ireturn, 1) := of_q QX5_readSigns_0 30 rfl
theorem dX5_readSigns_61 : decode cX5_readSigns 61 = .ok (.iload_n 1, 1) := of_q QX5_readSigns_0 31 rfl
theorem dX5_readSigns_62 : decode cX5_readSigns 62 = .ok (.ifCond .le 12, 3) := of_q QX5_readSigns_0 32 rfl
theorem dX5_readSigns_65 : decode cX5_readSigns 65 = .ok (.aload_n 0, 1) := of_q QX5_readSigns_0 33 rfl
theorem dX5_readSigns_66 : decode cX5_readSigns 66 = .ok (.invokevirtual 84, 3) := of_q QX5_readSigns_0 34 rfl
theorem dX5_readSigns_69 : decode cX5_readSigns 69 = .ok (.ifCond .eq 5, 3) := of_q QX5_readSigns_0 35 rfl
theorem dX5_readSigns_72 : decode cX5_readSigns 72 = .ok (.iconst 1, 1) := of_q QX5_readSigns_0 36 rfl
theorem dX5_readSigns_73 : decode cX5_readSigns 73 = .ok (.ireturn, 1) := of_q QX5_readSigns_0 37 rfl
theorem dX5_readSigns_74 : decode cX5_readSigns 74 = .ok (.aload_n 0, 1) := of_q QX5_readSigns_0 38 rfl
theorem dX5_readSigns_75 : decode cX5_readSigns 75 = .ok (.getfield 22, 3) := of_q QX5_readSigns_0 39 rfl
theorem dX5_readSigns_78 : decode cX5_readSigns 78 = .ok (.invokevirtual 87, 3) := of_q QX5_readSigns_0 40 rfl
theorem dX5_readSigns_81 : decode cX5_readSigns 81 = .ok (.ifCond .ne 12, 3) := of_q QX5_readSigns_0 41 rfl
theorem dX5_readSigns_84 : decode cX5_readSigns 84 = .ok (.aload_n 0, 1) := of_q QX5_readSigns_0 42 rfl
theorem dX5_readSigns_85 : decode cX5_readSigns 85 = .ok (.aload_n 0, 1) := of_q QX5_readSigns_0 43 rfl
theorem dX5_readSigns_86 : decode cX5_readSigns 86 = .ok (.getfield 9, 3) := of_q QX5_readSigns_0 44 rfl
theorem dX5_readSigns_89 : decode cX5_readSigns 89 = .ok (.invokevirtual 62, 3) := of_q QX5_readSigns_0 45 rfl
theorem dX5_readSigns_92 : decode cX5_readSigns 92 = .ok (.ireturn, 1) := of_q QX5_readSigns_0 46 rfl
theorem dX5_readSigns_93 : decode cX5_readSigns 93 = .ok (.aload_n 0, 1) := of_q QX5_readSigns_0 47 rfl
theorem dX5_readSigns_94 : decode cX5_readSigns 94 = .ok (.invokevirtual 90, 3) := of_q QX5_readSigns_0 48 rfl
theorem dX5_readSigns_97 : decode cX5_readSigns 97 = .ok (.ifCond .ne 5, 3) := of_q QX5_readSigns_0 49 rfl
theorem dX5_readSigns_100 : decode cX5_readSigns 100 = .ok (.iconst 0, 1) := of_q QX5_readSigns_0 50 rfl
theorem dX5_readSigns_101 : decode cX5_readSigns 101 = .ok (.ireturn, 1) := of_q QX5_readSigns_0 51 rfl
theorem dX5_readSigns_102 : decode cX5_readSigns 102 = .ok (.iinc 1 1, 3) := of_q QX5_readSigns_0 52 rfl
theorem dX5_readSigns_105 : decode cX5_readSigns 105 = .ok (.goto (-103), 3) := of_q QX5_readSigns_0 53 rfl
theorem dX5_readSigns_108 : decode cX5_readSigns 108 = .ok (.aload_n 0, 1) := of_q QX5_readSigns_0 54 rfl
theorem dX5_readSigns_109 : decode cX5_readSigns 109 = .ok (.aload_n 0, 1) := of_q QX5_readSigns_0 55 rfl
theorem dX5_readSigns_110 : decode cX5_readSigns 110 = .ok (.getfield 9, 3) := of_q QX5_readSigns_0 56 rfl
theorem dX5_readSigns_113 : decode cX5_readSigns 113 = .ok (.invokevirtual 62, 3) := of_q QX5_readSigns_0 57 rfl
theorem dX5_readSigns_116 : decode cX5_readSigns 116 = .ok (.ireturn, 1) := of_q QX5_readSigns_0 58 rfl
def qX5_isLetterOfRule_0 : List (Nat × Instr × Nat) := [(0, .aload_n 0, 1), (1, .invokevirtual 37, 3), (4, .invokestatic 93, 3), (7, .ifCond .eq 32, 3), (10, .aload_n 0, 1), (11, .getfield 18, 3), (14, .aload_n 0, 1), (15, .getfield 18, 3), (18, .aload_n 0, 1), (19, .getfield 9, 3), (22, .iconst 1, 1), (23, .iadd, 1), (24, .invokevirtual 31, 3), (27, .invokevirtual 96, 3), (30, .bipush 61, 2), (32, .if_icmp .ne 7, 3), (35, .iconst 1, 1), (36, .goto 4, 3), (39, .iconst 0, 1), (40, .ireturn, 1)]
theorem QX5_isLetterOfRule_0 : qX5_isLetterOfRule_0.all (fun q => decide (decode cX5_isLetterOfRule q.1 = .ok q.2)) = true := by decide +kernel
theorem dX5_isLetterOfRule_0 : decode cX5_isLetterOfRule 0 = .ok (.aload_n 0, 1) := of_q QX5_isLetterOfRule_0 0 rfl
theorem dX5_isLetterOfRule_1 : decode cX5_isLetterOfRule 1 = .ok (.invokevirtual 37, 3) := of_q QX5_isLetterOfRule_0 1 rfl
theorem dX5_isLetterOfRule_4 : decode cX5_isLetterOfRule 4 = .ok (.invokestatic 93, 3) := of_q QX5_isLetterOfRule_0 2 rfl
theorem dX5_isLetterOfRule_7 : decode cX5_isLetterOfRule 7 = .ok (.ifCond .eq 32, 3) := of_q QX5_isLetterOfRule_0 3 rfl
theorem dX5_isLetterOfRule_10 : decode cX5_isLetterOfRule 10 = .ok (.aload_n 0, 1) := of_q QX5_isLetterOfRule_0 4 rfl
theorem dX5_isLetterOfRule_11 : decode cX5_isLetterOfRule 11 = .ok (.getfield 18, 3) := of_q QX5_isLetterOfRule_0 5 rfl
theorem dX5_isLetterOfRule_14 : decode cX5_isLetterOfRule 14 = .ok (.aload_n 0, 1) := of_q QX5_isLetterOfRule_0 6 rfl
theorem dX5_isLetterOfRule_15 : decode cX5_isLetterOfRule 15 = .ok (.getfield 18, 3) := of_q QX5_isLetterOfRule_0 7 rfl
theorem dX5_isLetterOfRule_18 : decode cX5_isLetterOfRule 18 = .ok (.aload_n 0, 1) := of_q QX5_isLetterOfRule_0 8 rfl
theorem dX5_isLetterOfRule_19 : decode cX5_isLetterOfRule 19 = .ok (.getfield 9, 3) := of_q QX5_isLetterOfRule_0 9 rfl
theorem dX5_isLetterOfRule_22 : decode cX5_isLetterOfRule 22 = .ok (.iconst 1, 1) := of_q QX5_isLetterOfRule_0 10 rfl
theorem dX5_isLetterOfRule_23 : decode cX5_isLetterOfRule 23 = .ok (.iadd, 1) := of_q QX5_isLetterOfRule_0 11 rfl
theorem dX5_isLetterOfRule_24 : decode cX5_isLetterOfRule 24 = .ok (.invokevirtual 31, 3) := of_q QX5_isLetterOfRule_0 12 rfl
theorem dX5_isLetterOfRule_27 : decode cX5_isLetterOfRule 27 = .ok (.invokevirtual 96, 3) := of_q QX5_isLetterOfRule_0 13 rfl
theorem dX5_isLetterOfRule_30 : decode cX5_isLetterOfRule 30 = .ok (.bipush 61, 2) := of_q QX5_isLetterOfRule_0 14 rfl
theorem dX5_isLetterOfRule_32 : decode cX5_isLetterOfRule 32 = .ok (.if_icmp .ne 7, 3) := of_q QX5_isLetterOfRule_0 15 rfl
theorem dX5_isLetterOfRule_35 : decode cX5_isLetterOfRule 35 = .ok (.iconst 1, 1) := of_q QX5_isLetterOfRule_0 16 rfl
theorem dX5_isLetterOfRule_36 : decode cX5_isLetterOfRule 36 = .ok (.goto 4, 3) := of_q QX5_isLetterOfRule_0 17 rfl
theorem dX5_isLetterOfRule_39 : decode cX5_isLetterOfRule 39 = .ok (.iconst 0, 1) := of_q QX5_isLetterOfRule_0 18 rfl
theorem dX5_isLetterOfRule_40 : decode cX5_isLetterOfRule 40 = .ok (.ireturn, 1) := of_q QX5_isLetterOfRule_0 19 rfl
def qX5_readSign_0 : List (Nat × Instr × Nat) := [(0, .aload_n 0, 1), (1, .invokevirtual 37, 3), (4, .istore_n 1, 1), (5, .iload_n 1, 1), (6, .invokestatic 93, 3), (9, .ifCond .eq 30, 3), (12, .aload_n 0, 1), (13, .getfield 22, 3), (16, .iload_n 1, 1), (17, .bipush 65, 2), (19, .isub, 1), (20, .aload_n 0, 1), (21, .getfield 9, 3), (24, .invokevirtual 98, 3), (27, .aload_n 0, 1), (28, .dup, 1), (29, .getfield 9, 3), (32, .iconst 1, 1), (33, .iadd, 1), (34, .putfield 9, 3), (37, .iconst 1, 1), (38, .ireturn, 1), (39, .iload_n 1, 1), (40, .invokestatic 102, 3), (43, .ifCond .ne 18, 3), (46, .iload_n 1, 1), (47, .bipush 114, 2), (49, .if_icmp .eq 12, 3), (52, .aload_n 0, 1), (53, .aload_n 0, 1), (54, .getfield 9, 3), (57, .invokevirtual 62, 3), (60, .ireturn, 1), (61, .aload_n 0, 1), (62, .dup, 1), (63, .getfield 9, 3), (66, .iconst 1, 1), (67, .iadd, 1), (68, .putfield 9, 3), (71, .iload_n 1, 1), (72, .bipush 114, 2), (74, .if_icmp .ne 7, 3), (77, .iconst 0, 1), (78, .goto 7, 3), (81, .aload_n 0, 1), (82, .invokevirtual 105, 3), (85, .istore_n 2, 1), (86, .aload_n 0, 1), (87, .invokevirtual 108, 3), (90, .istore_n 3, 1), (91, .iload_n 3, 1), (92, .iconst (-1), 1), (93, .if_icmp .ne 5, 3), (96, .iconst 0, 1), (97, .ireturn, 1), (98, .aload_n 0, 1), (99, .getfield 22, 3), (102, .iload_n 1, 1), (103, .bipush 114, 2), (105, .if_icmp .ne 7, 3)]
theorem QX5_readSign_0 : qX5_readSign_0.all (fun q => decide (decode cX5_readSign q.1 = .ok q.2)) = true := by decide +kernel
theorem dX5_readSign_0 : decode cX5_readSign 0 = .ok (.aload_n 0, 1) := of_q QX5_readSign_0 0 rfl
theorem dX5_readSign_1 : decode cX5_readSign 1 = .ok (.invokevirtual 37, 3) := of_q QX5_readSign_0 1 rfl
theorem dX5_readSign_4 : decode cX5_readSign 4 = .ok (.istore_n 1, 1) := of_q QX5_readSign_0 2 rfl
theorem dX5_readSign_5 : decode cX5_readSign 5 = .ok (.iload_n 1, 1) := of_q QX5_readSign_0 3 rfl
theorem dX5_readSign_6 : decode cX5_readSign 6 = .ok (.invokestatic 93, 3) := of_q QX5_readSign_0 4 rfl
theorem dX5_readSign_9 : decode cX5_readSign 9 = .ok (.ifCond .eq 30, 3) := of_q QX5_readSign_0 5 rfl
theorem dX5_readSign_12 : decode cX5_readSign 12 = .ok (.aload_n 0, 1) := of_q QX5_readSign_0 6 rfl
theorem dX5_readSign_13 : decode cX5_readSign 13 = .ok (.getfield 22, 3) := of_q QX5_readSign_0 7 rfl
theorem dX5_readSign_16 : decode cX5_readSign 16 = .ok (.iload_n 1, 1) := of_q QX5_readSign_0 8 rfl
theorem dX5_readSign_17 : decode cX5_readSign 17 = .ok (.bipush 65, 2) := of_q QX5_readSign_0 9 rfl
theorem dX5_readSign_19 : decode cX5_readSign 19 = .ok (.isub, 1) := of_q QX5_readSign_0 10 rfl
theorem dX5_readSign_20 : decode cX5_readSign 20 = .ok (.aload_n 0, 1) := of_q QX5_readSign_0 11 rfl
theorem dX5_readSign_21 : decode cX5_readSign 21 = .ok (.getfield 9, 3) := of_q QX5_readSign_0 12 rfl
theorem dX5_readSign_24 : decode cX5_readSign 24 = .ok (.invokevirtual 98, 3) := of_q QX5_readSign_0 13 rfl
theorem dX5_readSign_27 : decode cX5_readSign 27 = .ok (.aload_n 0, 1) := of_q QX5_readSign_0 14 rfl
theorem dX5_readSign_28 : decode cX5_readSign 28 = .ok (.dup, 1) := of_q QX5_readSign_0 15 rfl
theorem dX5_readSign_29 : decode cX5_readSign 29 = .ok (.getfield 9, 3) := of_q QX5_readSign_0 16 rfl
theorem dX5_readSign_32 : decode cX5_readSign 32 = .ok (.iconst 1, 1) := of_q QX5_readSign_0 17 rfl
theorem dX5_readSign_33 : decode cX5_readSign 33 = .ok (.iadd, 1) := of_q QX5_readSign_0 18 rfl
theorem dX5_readSign_34 : decode cX5_readSign 34 = .ok (.putfield 9, 3) := of_q QX5_readSign_0 19 rfl
theorem dX5_readSign_37 : decode cX5_readSign 37 = .ok (.iconst 1, 1) := of_q QX5_readSign_0 20 rfl
theorem dX5_readSign_38 : decode cX5_readSign 38 = .ok (.ireturn, 1) := of_q QX5_readSign_0 21 rfl
theorem dX5_readSign_39 : decode cX5_readSign 39 = .ok (.iload_n 1, 1) := of_q QX5_readSign_0 22 rfl
theorem dX5_readSign_40 : decode cX5_readSign 40 = .ok (.invokestatic 102, 3) := of_q QX5_readSign_0 23 rfl
theorem dX5_readSign_43 : decode cX5_readSign 43 = .ok (.ifCond .ne 18, 3) := of_q QX5_readSign_0 24 rfl
theorem dX5_readSign_46 : decode cX5_readSign 46 = .ok (.iload_n 1, 1) := of_q QX5_readSign_0 25 rfl
theorem dX5_readSign_47 : decode cX5_readSign 47 = .ok (.bipush 114, 2) := of_q QX5_readSign_0 26 rfl
theorem dX5_readSign_49 : decode cX5_readSign 49 = .ok (.if_icmp .eq 12, 3) := of_q QX5_readSign_0 27 rfl
theorem dX5_readSign_52 : decode cX5_readSign 52 = .ok (.aload_n 0, 1) := of_q QX5_readSign_0 28 rfl
theorem dX5_readSign_53 : decode cX5_readSign 53 = .ok (.aload_n 0, 1) := of_q QX5_readSign_0 29 rfl
theorem dX5_readSign_54 : decode cX5_readSign 54 = .ok (.getfield 9, 3) := of_q QX5_readSign_0 30 rfl
theorem dX5_readSign_57 : decode cX5_readSign 57 = .ok (.invokevirtual 62, 3) := of_q QX5_readSign_0 31 rfl
theorem dX5_readSign_60 : decode cX5_readSign 60 = .ok (.ireturn, 1) := of_q QX5_readSign_0 32 rfl
theorem dX5_readSign_61 : decode cX5_readSign 61 = .ok (.aload_n 0, 1) := of_q QX5_readSign_0 33 rfl
theorem dX5_readSign_62 : decode cX5_readSign 62 = .ok (.dup, 1) := of_q QX5_readSign_0 34 rfl
theorem dX5_readSign_63 : decode cX5_readSign 63 = .ok (.getfield 9, 3) := of_q QX5_readSign_0 35 rfl
theorem dX5_readSign_66 : decode cX5_readSign 66 = .ok (.iconst 1, 1) := of_q QX5_readSign_0 36 rfl
theorem dX5_readSign_67 : decode cX5_readSign 67 = .ok (.iadd, 1) := of_q QX5_readSign_0 37 rfl
theorem dX5_readSign_68 : decode cX5_readSign 68 = .ok (.putfield 9, 3) := of_q QX5_readSign_0 38 rfl
theorem dX5_readSign_71 : decode cX5_readSign 71 = .ok (.iload_n 1, 1) := of_q QX5_readSign_0 39 rfl
theorem dX5_readSign_72 : decode cX5_readSign 72 = .ok (.bipush 114, 2) := of_q QX5_readSign_0 40 rfl
theorem dX5_readSign_74 : decode cX5_readSign 74 = .ok (.if_icmp .ne 7, 3) := of_q QX5_readSign_0 41 rfl
theorem dX5_readSign_77 : decode cX5_readSign 77 = .ok (.iconst 0, 1) := of_q QX5_readSign_0 42 rfl
theorem dX5_readSign_78 : decode cX5_readSign 78 = .ok (.goto 7, 3) := of_q QX5_readSign_0 43 rfl
theorem dX5_readSign_81 : decode cX5_readSign 81 = .ok (.aload_n 0, 1) := of_q QX5_readSign_0 44 rfl
theorem dX5_readSign_82 : decode cX5_readSign 82 = .ok (.invokevirtual 105, 3) := of_q QX5_readSign_0 45 rfl
theorem dX5_readSign_85 : decode cX5_readSign 85 = .ok (.istore_n 2, 1) := of_q QX5_readSign_0 46 rfl
theorem dX5_readSign_86 : decode cX5_readSign 86 = .ok (.aload_n 0, 1) := of_q QX5_readSign_0 47 rfl
theorem dX5_readSign_87 : decode cX5_readSign 87 = .ok (.invokevirtual 108, 3) := of_q QX5_readSign_0 48 rfl
theorem dX5_readSign_90 : decode cX5_readSign 90 = .ok (.istore_n 3, 1) := of_q QX5_readSign_0 49 rfl
theorem dX5_readSign_91 : decode cX5_readSign 91 = .ok (.iload_n 3, 1) := of_q QX5_readSign_0 50 rfl
theorem dX5_readSign_92 : decode cX5_readSign 92 = .ok (.iconst (-1), 1) := of_q QX5_readSign_0 51 rfl
theorem dX5_readSign_93 : decode cX5_readSign 93 = .ok (.if_icmp .ne 5, 3) := of_q QX5_readSign_0 52 rfl
theorem dX5_readSign_96 : decode cX5_readSign 96 = .ok (.iconst 0, 1) := of_q QX5_readSign_0 53 rfl
theorem dX5_readSign_97 : decode cX5_readSign 97 = .ok (.ireturn, 1) := of_q QX5_readSign_0 54 rfl
theorem dX5_readSign_98 : decode cX5_readSign 98 = .ok (.aload_n 0, 1) := of_q QX5_readSign_0 55 rfl
theorem dX5_readSign_99 : decode cX5_readSign 99 = .ok (.getfield 22, 3) := of_q QX5_readSign_0 56 rfl
theorem dX5_readSign_102 : decode cX5_readSign 102 = .ok (.iload_n 1, 1) := of_q QX5_readSign_0 57 rfl
theorem dX5_readSign_103 : decode cX5_readSign 103 = .ok (.bipush 114, 2) := of_q QX5_readSign_0 58 rfl
theorem dX5_readSign_105 : decode cX5_readSign 105 = .ok (.if_icmp .ne 7, 3) := of_q QX5_readSign_0 59 rfl
def qX5_readSign_1 : List (Nat × Instr × Nat) := [(108, .iconst (-1), 1), (109, .goto 7, 3), (112, .iload_n 1, 1), (113, .bipush 48, 2), (115, .isub, 1), (116, .iload_n 2, 1), (117, .iload_n 3, 1), (118, .invokevirtual 111, 3), (121, .iconst 1, 1), (122, .ireturn, 1)]
theorem QX5_readSign_1 : qX5_readSign_1.all (fun q => decide (decode cX5_readSign q.1 = .ok q.2)) = true := by decide +kernel
theorem dX5_readSign_108 : decode cX5_readSign 108 = .ok (.iconst (-1), 1) := of_q QX5_readSign_1 0 rfl
theorem dX5_readSign_109 : decode cX5_readSign 109 = .ok (.goto 7, 3) := of_q QX5_readSign_1 1 rfl
theorem dX5_readSign_112 : decode cX5_readSign 112 = .ok (.iload_n 1, 1) := of_q QX5_readSign_1 2 rfl
theorem dX5_readSign_113 : decode cX5_readSign 113 = .ok (.bipush 48, 2) := of_q QX5_readSign_1 3 rfl
theorem dX5_readSign_115 : decode cX5_readSign 115 = .ok (.isub, 1) := of_q QX5_readSign_1 4 rfl
theorem dX5_readSign_116 : decode cX5_readSign 116 = .ok (.iload_n 2, 1) := of_q QX5_readSign_1 5 rfl
theorem dX5_readSign_117 : decode cX5_readSign 117 = .ok (.iload_n 3, 1) := of_q QX5_readSign_1 6 rfl
theorem dX5_readSign_118 : decode cX5_readSign 118 = .ok (.invokevirtual 111, 3) := of_q QX5_readSign_1 7 rfl
theorem dX5_readSign_121 : decode cX5_readSign 121 = .ok (.iconst 1, 1) := of_q QX5_readSign_1 8 rfl
theorem dX5_readSign_122 : decode cX5_readSign 122 = .ok (.ireturn, 1) := of_q QX5_readSign_1 9 rfl
def qX5_readOctave_0 : List (Nat × Instr × Nat) := [(0, .aload_n 0, 1), (1, .invokevirtual 37, 3), (4, .istore_n 1, 1), (5, .iload_n 1, 1), (6, .bipush 39, 2), (8, .if_icmp .eq 11, 3), (11, .iload_n 1, 1), (12, .bipush 44, 2), (14, .if_icmp .eq 5, 3), (17, .iconst 0, 1), (18, .ireturn, 1), (19, .aload_n 0, 1), (20, .dup, 1), (21, .getfield 9, 3), (24, .iconst 1, 1), (25, .iadd, 1), (26, .putfield 9, 3), (29, .iconst 1, 1), (30, .istore_n 2, 1), (31, .aload_n 0, 1), (32, .invokevirtual 37, 3), (35, .iload_n 1, 1), (36, .if_icmp .ne 16, 3), (39, .aload_n 0, 1), (40, .dup, 1), (41, .getfield 9, 3), (44, .iconst 1, 1), (45, .iadd, 1), (46, .putfield 9, 3), (49, .iinc 2 1, 3), (52, .iload_n 1, 1), (53, .bipush 44, 2), (55, .if_icmp .ne 8, 3), (58, .iload_n 2, 1), (59, .ineg, 1), (60, .goto 4, 3), (63, .iload_n 2, 1), (64, .ireturn, 1)]
theorem QX5_readOctave_0 : qX5_readOctave_0.all (fun q => decide (decode cX5_readOctave q.1 = .ok q.2)) = true := by decide +kernel
theorem dX5_readOctave_0 : decode cX5_readOctave 0 = .ok (.aload_n 0, 1) := of_q QX5_readOctave_0 0 rfl
theorem dX5_readOctave_1 : decode cX5_readOctave 1 = .ok (.invokevirtual 37, 3) := of_q QX5_readOctave_0 1 rfl
theorem dX5_readOctave_4 : decode cX5_readOctave 4 = .ok (.istore_n 1, 1) := of_q QX5_readOctave_0 2 rfl
theorem dX5_readOctave_5 : decode cX5_readOctave 5 = .ok (.iload_n 1, 1) := of_q QX5_readOctave_0 3 rfl
theorem dX5_readOctave_6 : decode cX5_readOctave 6 = .ok (.bipush 39, 2) := of_q QX5_readOctave_0 4 rfl
theorem dX5_readOctave_8 : decode cX5_readOctave 8 = .ok (.if_icmp .eq 11, 3) := of_q QX5_readOctave_0 5 rfl
theorem dX5_readOctave_11 : decode cX5_readOctave 11 = .ok (.iload_n 1, 1) := of_q QX5_readOctave_0 6 rfl
theorem dX5_readOctave_12 : decode cX5_readOctave 12 = .ok (.bipush 44, 2) := of_q QX5_readOctave_0 7 rfl
theorem dX5_readOctave_14 : decode cX5_readOctave 14 = .ok (.if_icmp .eq 5, 3) := of_q QX5_readOctave_0 8 rfl
theorem dX5_readOctave_17 : decode cX5_readOctave 17 = .ok (.iconst 0, 1) := of_q QX5_readOctave_0 9 rfl
theorem dX5_readOctave_18 : decode cX5_readOctave 18 = .ok (.ireturn, 1) := of_q QX5_readOctave_0 10 rfl
theorem dX5_readOctave_19 : decode cX5_readOctave 19 = .ok (.aload_n 0, 1) := of_q QX5_readOctave_0 11 rfl
theorem dX5_readOctave_20 : decode cX5_readOctave 20 = .ok (.dup, 1) := of_q QX5_readOctave_0 12 rfl
theorem dX5_readOctave_21 : decode cX5_readOctave 21 = .ok (.getfield 9, 3) := of_q QX5_readOctave_0 13 rfl
theorem dX5_readOctave_24 : decode cX5_readOctave 24 = .ok (.iconst 1, 1) := of_q QX5_readOctave_0 14 rfl
theorem dX5_readOctave_25 : decode cX5_readOctave 25 = .ok (.iadd, 1) := of_q QX5_readOctave_0 15 rfl
theorem dX5_readOctave_26 : decode cX5_readOctave 26 = .ok (.putfield 9, 3) := of_q QX5_readOctave_0 16 rfl
theorem dX5_readOctave_29 : decode cX5_readOctave 29 = .ok (.iconst 1, 1) := of_q QX5_readOctave_0 17 rfl
theorem dX5_readOctave_30 : decode cX5_readOctave 30 = .ok (.istore_n 2, 1) := of_q QX5_readOctave_0 18 rfl
theorem dX5_readOctave_31 : decode cX5_readOctave 31 = .ok (.aload_n 0, 1) := of_q QX5_readOctave_0 19 rfl
theorem dX5_readOctave_32 : decode cX5_readOctave 32 = .ok (.invokevirtual 37, 3) := of_q QX5_readOctave_0 20 rfl
theorem dX5_readOctave_35 : decode cX5_readOctave 35 = .ok (.iload_n 1, 1) := of_q QX5_readOctave_0 21 rfl
theorem dX5_readOctave_36 : decode cX5_readOctave 36 = .ok (.if_icmp .ne 16, 3) := of_q QX5_readOctave_0 22 rfl
theorem dX5_readOctave_39 : decode cX5_readOctave 39 = .ok (.aload_n 0, 1) := of_q QX5_readOctave_0 23 rfl
theorem dX5_readOctave_40 : decode cX5_readOctave 40 = .ok (.dup, 1) := of_q QX5_readOctave_0 24 rfl
theorem dX5_readOctave_41 : decode cX5_readOctave 41 = .ok (.getfield 9, 3) := of_q QX5_readOctave_0 25 rfl
theorem dX5_readOctave_44 : decode cX5_readOctave 44 = .ok (.iconst 1, 1) := of_q QX5_readOctave_0 26 rfl
theorem dX5_readOctave_45 : decode cX5_readOctave 45 = .ok (.iadd, 1) := of_q QX5_readOctave_0 27 rfl
theorem dX5_readOctave_46 : decode cX5_readOctave 46 = .ok (.putfield 9, 3) := of_q QX5_readOctave_0 28 rfl
theorem dX5_readOctave_49 : decode cX5_readOctave 49 = .ok (.iinc 2 1, 3) := of_q QX5_readOctave_0 29 rfl
theorem dX5_readOctave_52 : decode cX5_readOctave 52 = .ok (.iload_n 1, 1) := of_q QX5_readOctave_0 30 rfl
theorem dX5_readOctave_53 : decode cX5_readOctave 53 = .ok (.bipush 44, 2) := of_q QX5_readOctave_0 31 rfl
theorem dX5_readOctave_55 : decode cX5_readOctave 55 = .ok (.if_icmp .ne 8, 3) := of_q QX5_readOctave_0 32 rfl
theorem dX5_readOctave_58 : decode cX5_readOctave 58 = .ok (.iload_n 2, 1) := of_q QX5_readOctave_0 33 rfl
theorem dX5_readOctave_59 : decode cX5_readOctave 59 = .ok (.ineg, 1) := of_q QX5_readOctave_0 34 rfl
theorem dX5_readOctave_60 : decode cX5_readOctave 60 = .ok (.goto 4, 3) := of_q QX5_readOctave_0 35 rfl
theorem dX5_readOctave_63 : decode cX5_readOctave 63 = .ok (.iload_n 2, 1) := of_q QX5_readOctave_0 36 rfl
theorem dX5_readOctave_64 : decode cX5_readOctave 64 = .ok (.ireturn, 1) := of_q QX5_readOctave_0 37 rfl
def qX5_readLength_0 : List (Nat × Instr × Nat) := [(0, .aload_n 0, 1), (1, .invokevirtual 37, 3), (4, .bipush 58, 2), (6, .if_icmp .eq 5, 3), (9, .iconst 4, 1), (10, .ireturn, 1), (11, .aload_n 0, 1), (12, .dup, 1), (13, .getfield 9, 3), (16, .iconst 1, 1), (17, .iadd, 1), (18, .putfield 9, 3), (21, .aload_n 0, 1), (22, .invokevirtual 37, 3), (25, .invokestatic 75, 3), (28, .ifCond .eq 12, 3), (31, .aload_n 0, 1), (32, .invokevirtual 37, 3), (35, .bipush 48, 2), (37, .if_icmp .ne 14, 3), (40, .aload_n 0, 1), (41, .aload_n 0, 1), (42, .getfield 9, 3), (45, .invokevirtual 62, 3), (48, .pop, 1), (49, .iconst (-1), 1), (50, .ireturn, 1), (51, .iconst 0, 1), (52, .istore_n 1, 1), (53, .aload_n 0, 1), (54, .getfield 9, 3), (57, .aload_n 0, 1), (58, .getfield 18, 3), (61, .getfield 51, 3), (64, .if_icmp .ge 56, 3), (67, .aload_n 0, 1), (68, .invokevirtual 37, 3), (71, .invokestatic 75, 3), (74, .ifCond .eq 46, 3), (77, .iload_n 1, 1), (78, .bipush 10, 2), (80, .imul, 1), (81, .aload_n 0, 1), (82, .invokevirtual 37, 3), (85, .iadd, 1), (86, .bipush 48, 2), (88, .isub, 1), (89, .istore_n 1, 1), (90, .iload_n 1, 1), (91, .bipush 16, 2), (93, .if_icmp .le 14, 3), (96, .aload_n 0, 1), (97, .aload_n 0, 1), (98, .getfield 9, 3), (101, .invokevirtual 62, 3), (104, .pop, 1), (105, .iconst (-1), 1), (106, .ireturn, 1), (107, .aload_n 0, 1), (108, .dup, 1)]
theorem QX5_readLength_0 : qX5_readLength_0.all (fun q => decide (decode cX5_readLength q.1 = .ok q.2)) = true := by decide +kernel
theorem dX5_readLength_0 : decode cX5_readLength 0 = .ok (.aload_n 0, 1) := of_q QX5_readLength_0 0 rfl
theorem dX5_readLength_1 : decode cX5_readLength 1 = .ok (.invokevirtual 37, 3) := of_q QX5_readLength_0 1 rfl
theorem dX5_readLength_4 : decode cX5_readLength 4 = .ok (.bipush 58, 2) := of_q QX5_readLength_0 2 rfl
theorem dX5_readLength_6 : decode cX5_readLength 6 = .ok (.if_icmp .eq 5, 3) := of_q QX5_readLength_0 3 rfl
theorem dX5_readLength_9 : decode cX5_readLength 9 = .ok (.iconst 4, 1) := of_q QX5_readLength_0 4 rfl
theorem dX5_readLength_10 : decode cX5_readLength 10 = .ok (.ireturn, 1) := of_q QX5_readLength_0 5 rfl
theorem dX5_readLength_11 : decode cX5_readLength 11 = .ok (.aload_n 0, 1) := of_q QX5_readLength_0 6 rfl
theorem dX5_readLength_12 : decode cX5_readLength 12 = .ok (.dup, 1) := of_q QX5_readLength_0 7 rfl
theorem dX5_readLength_13 : decode cX5_readLength 13 = .ok (.getfield 9, 3) := of_q QX5_readLength_0 8 rfl
theorem dX5_readLength_16 : decode cX5_readLength 16 = .ok (.iconst 1, 1) := of_q QX5_readLength_0 9 rfl
theorem dX5_readLength_17 : decode cX5_readLength 17 = .ok (.iadd, 1) := of_q QX5_readLength_0 10 rfl
theorem dX5_readLength_18 : decode cX5_readLength 18 = .ok (.putfield 9, 3) := of_q QX5_readLength_0 11 rfl
theorem dX5_readLength_21 : decode cX5_readLength 21 = .ok (.aload_n 0, 1) := of_q QX5_readLength_0 12 rfl
theorem dX5_readLength_22 : decode cX5_readLength 22 = .ok (.invokevirtual 37, 3) := of_q QX5_readLength_0 13 rfl
theorem dX5_readLength_25 : decode cX5_readLength 25 = .ok (.invokestatic 75, 3) := of_q QX5_readLength_0 14 rfl
theorem dX5_readLength_28 : decode cX5_readLength 28 = .ok (.ifCond .eq 12, 3) := of_q QX5_readLength_0 15 rfl
theorem dX5_readLength_31 : decode cX5_readLength 31 = .ok (.aload_n 0, 1) := of_q QX5_readLength_0 16 rfl
theorem dX5_readLength_32 : decode cX5_readLength 32 = .ok (.invokevirtual 37, 3) := of_q QX5_readLength_0 17 rfl
theorem dX5_readLength_35 : decode cX5_readLength 35 = .ok (.bipush 48, 2) := of_q QX5_readLength_0 18 rfl
theorem dX5_readLength_37 : decode cX5_readLength 37 = .ok (.if_icmp .ne 14, 3) := of_q QX5_readLength_0 19 rfl
theorem dX5_readLength_40 : decode cX5_readLength 40 = .ok (.aload_n 0, 1) := of_q QX5_readLength_0 20 rfl
theorem dX5_readLength_41 : decode cX5_readLength 41 = .ok (.aload_n 0, 1) := of_q QX5_readLength_0 21 rfl
theorem dX5_readLength_42 : decode cX5_readLength 42 = .ok (.getfield 9, 3) := of_q QX5_readLength_0 22 rfl
theorem dX5_readLength_45 : decode cX5_readLength 45 = .ok (.invokevirtual 62, 3) := of_q QX5_readLength_0 23 rfl
theorem dX5_readLength_48 : decode cX5_readLength 48 = .ok (.pop, 1) := of_q QX5_readLength_0 24 rfl
theorem dX5_readLength_49 : decode cX5_readLength 49 = .ok (.iconst (-1), 1) := of_q QX5_readLength_0 25 rfl
theorem dX5_readLength_50 : decode cX5_readLength 50 = .ok (.ireturn, 1) := of_q QX5_readLength_0 26 rfl
theorem dX5_readLength_51 : decode cX5_readLength 51 = .ok (.iconst 0, 1) := of_q QX5_readLength_0 27 rfl
theorem dX5_readLength_52 : decode cX5_readLength 52 = .ok (.istore_n 1, 1) := of_q QX5_readLength_0 28 rfl
theorem dX5_readLength_53 : decode cX5_readLength 53 = .ok (.aload_n 0, 1) := of_q QX5_readLength_0 29 rfl
theorem dX5_readLength_54 : decode cX5_readLength 54 = .ok (.getfield 9, 3) := of_q QX5_readLength_0 30 rfl
theorem dX5_readLength_57 : decode cX5_readLength 57 = .ok (.aload_n 0, 1) := of_q QX5_readLength_0 31 rfl
theorem dX5_readLength_58 : decode cX5_readLength 58 = .ok (.getfield 18, 3) := of_q QX5_readLength_0 32 rfl
theorem dX5_readLength_61 : decode cX5_readLength 61 = .ok (.getfield 51, 3) := of_q QX5_readLength_0 33 rfl
theorem dX5_readLength_64 : decode cX5_readLength 64 = .ok (.if_icmp .ge 56, 3) := of_q QX5_readLength_0 34 rfl
theorem dX5_readLength_67 : decode cX5_readLength 67 = .ok (.aload_n 0, 1) := of_q QX5_readLength_0 35 rfl
theorem dX5_readLength_68 : decode cX5_readLength 68 = .ok (.invokevirtual 37, 3) := of_q QX5_readLength_0 36 rfl
theorem dX5_readLength_71 : decode cX5_readLength 71 = .ok (.invokestatic 75, 3) := of_q QX5_readLength_0 37 rfl
theorem dX5_readLength_74 : decode cX5_readLength 74 = .ok (.ifCond .eq 46, 3) := of_q QX5_readLength_0 38 rfl
theorem dX5_readLength_77 : decode cX5_readLength 77 = .ok (.iload_n 1, 1) := of_q QX5_readLength_0 39 rfl
theorem dX5_readLength_78 : decode cX5_readLength 78 = .ok (.bipush 10, 2) := of_q QX5_readLength_0 40 rfl
theorem dX5_readLength_80 : decode cX5_readLength 80 = .ok (.imul, 1) := of_q QX5_readLength_0 41 rfl
theorem dX5_readLength_81 : decode cX5_readLength 81 = .ok (.aload_n 0, 1) := of_q QX5_readLength_0 42 rfl
theorem dX5_readLength_82 : decode cX5_readLength 82 = .ok (.invokevirtual 37, 3) := of_q QX5_readLength_0 43 rfl
theorem dX5_readLength_85 : decode cX5_readLength 85 = .ok (.iadd, 1) := of_q QX5_readLength_0 44 rfl
theorem dX5_readLength_86 : decode cX5_readLength 86 = .ok (.bipush 48, 2) := of_q QX5_readLength_0 45 rfl
theorem dX5_readLength_88 : decode cX5_readLength 88 = .ok (.isub, 1) := of_q QX5_readLength_0 46 rfl
theorem dX5_readLength_89 : decode cX5_readLength 89 = .ok (.istore_n 1, 1) := of_q QX5_readLength_0 47 rfl
theorem dX5_readLength_90 : decode cX5_readLength 90 = .ok (.iload_n 1, 1) := of_q QX5_readLength_0 48 rfl
theorem dX5_readLength_91 : decode cX5_readLength 91 = .ok (.bipush 16, 2) := of_q QX5_readLength_0 49 rfl
theorem dX5_readLength_93 : decode cX5_readLength 93 = .ok (.if_icmp .le 14, 3) := of_q QX5_readLength_0 50 rfl
theorem dX5_readLength_96 : decode cX5_readLength 96 = .ok (.aload_n 0, 1) := of_q QX5_readLength_0 51 rfl
theorem dX5_readLength_97 : decode cX5_readLength 97 = .ok (.aload_n 0, 1) := of_q QX5_readLength_0 52 rfl
theorem dX5_readLength_98 : decode cX5_readLength 98 = .ok (.getfield 9, 3) := of_q QX5_readLength_0 53 rfl
theorem dX5_readLength_101 : decode cX5_readLength 101 = .ok (.invokevirtual 62, 3) := of_q QX5_readLength_0 54 rfl
theorem dX5_readLength_104 : decode cX5_readLength 104 = .ok (.pop, 1) := of_q QX5_readLength_0 55 rfl
theorem dX5_readLength_105 : decode cX5_readLength 105 = .ok (.iconst (-1), 1) := of_q QX5_readLength_0 56 rfl
theorem dX5_readLength_106 : decode cX5_readLength 106 = .ok (.ireturn, 1) := of_q QX5_readLength_0 57 rfl
theorem dX5_readLength_107 : decode cX5_readLength 107 = .ok (.aload_n 0, 1) := of_q QX5_readLength_0 58 rfl
theorem dX5_readLength_108 : decode cX5_readLength 108 = .ok (.dup, 1) := of_q QX5_readLength_0 59 rfl
def qX5_readLength_1 : List (Nat × Instr × Nat) := [(109, .getfield 9, 3), (112, .iconst 1, 1), (113, .iadd, 1), (114, .putfield 9, 3), (117, .goto (-64), 3), (120, .iload_n 1, 1), (121, .ireturn, 1)]
theorem QX5_readLength_1 : qX5_readLength_1.all (fun q => decide (decode cX5_readLength q.1 = .ok q.2)) = true := by decide +kernel
theorem dX5_readLength_109 : decode cX5_readLength 109 = .ok (.getfield 9, 3) := of_q QX5_readLength_1 0 rfl
theorem dX5_readLength_112 : decode cX5_readLength 112 = .ok (.iconst 1, 1) := of_q QX5_readLength_1 1 rfl
theorem dX5_readLength_113 : decode cX5_readLength 113 = .ok (.iadd, 1) := of_q QX5_readLength_1 2 rfl
theorem dX5_readLength_114 : decode cX5_readLength 114 = .ok (.putfield 9, 3) := of_q QX5_readLength_1 3 rfl
theorem dX5_readLength_117 : decode cX5_readLength 117 = .ok (.goto (-64), 3) := of_q QX5_readLength_1 4 rfl
theorem dX5_readLength_120 : decode cX5_readLength 120 = .ok (.iload_n 1, 1) := of_q QX5_readLength_1 5 rfl
theorem dX5_readLength_121 : decode cX5_readLength 121 = .ok (.ireturn, 1) := of_q QX5_readLength_1 6 rfl
def qX6_init_0 : List (Nat × Instr × Nat) := [(0, .aload_n 0, 1), (1, .invokespecial 3, 3), (4, .aload_n 0, 1), (5, .sipush 1200, 3), (8, .newarray .char, 2), (10, .putfield 9, 3), (13, .aload_n 0, 1), (14, .iconst 0, 1), (15, .putfield 15, 3), (18, .return_, 1)]
theorem QX6_init_0 : qX6_init_0.all (fun q => decide (decode cX6_init q.1 = .ok q.2)) = true := by decide +kernel
theorem dX6_init_0 : decode cX6_init 0 = .ok (.aload_n 0, 1) := of_q QX6_init_0 0 rfl
theorem dX6_init_1 : decode cX6_init 1 = .ok (.invokespecial 3, 3) := of_q QX6_init_0 1 rfl
theorem dX6_init_4 : decode cX6_init 4 = .ok (.aload_n 0, 1) := of_q QX6_init_0 2 rfl
theorem dX6_init_5 : decode cX6_init 5 = .ok (.sipush 1200, 3) := of_q QX6_init_0 3 rfl
theorem dX6_init_8 : decode cX6_init 8 = .ok (.newarray .char, 2) := of_q QX6_init_0 4 rfl
theorem dX6_init_10 : decode cX6_init 10 = .ok (.putfield 9, 3) := of_q QX6_init_0 5 rfl
theorem dX6_init_13 : decode cX6_init 13 = .ok (.aload_n 0, 1) := of_q QX6_init_0 6 rfl
theorem dX6_init_14 : decode cX6_init 14 = .ok (.iconst 0, 1) := of_q QX6_init_0 7 rfl
theorem dX6_init_15 : decode cX6_init 15 = .ok (.putfield 15, 3) := of_q QX6_init_0 8 rfl
theorem dX6_init_18 : decode cX6_init 18 = .ok (.return_, 1) := of_q QX6_init_0 9 rfl
def qX6_append_0 : List (Nat × Instr × Nat) := [(0, .iconst 0, 1), (1, .istore_n 3, 1), (2, .bipush 56, 2), (4, .istore 4, 2), (6, .iload 4, 2), (8, .ifCond .lt 41, 3), (11, .lload_n 1, 1), (12, .iload 4, 2), (14, .invokestatic 19, 3), (17, .istore 5, 2), (19, .iload 5, 2), (21, .invokestatic 23, 3), (24, .ifCond .ne 6, 3), (27, .bipush (-2), 2), (29, .ireturn, 1), (30, .iload_n 3, 1), (31, .iload 5, 2), (33, .ifCond .ne 7, 3), (36, .iconst 0, 1), (37, .goto 4, 3), (40, .iconst 1, 1), (41, .iadd, 1), (42, .istore_n 3, 1), (43, .iinc 4 (-8), 3), (46, .goto (-40), 3), (49, .aload_n 0, 1), (50, .getfield 15, 3), (53, .iload_n 3, 1), (54, .iadd, 1), (55, .sipush 1200, 3), (58, .if_icmp .le 6, 3), (61, .bipush (-4), 2), (63, .ireturn, 1), (64, .bipush 56, 2), (66, .istore 4, 2), (68, .iload 4, 2), (70, .ifCond .lt 44, 3), (73, .lload_n 1, 1), (74, .iload 4, 2), (76, .invokestatic 19, 3), (79, .istore 5, 2), (81, .iload 5, 2), (83, .ifCond .eq 25, 3), (86, .aload_n 0, 1), (87, .getfield 9, 3), (90, .aload_n 0, 1), (91, .getfield 15, 3), (94, .iload 5, 2), (96, .i2c, 1), (97, .castore, 1), (98, .aload_n 0, 1), (99, .dup, 1), (100, .getfield 15, 3), (103, .iconst 1, 1), (104, .iadd, 1), (105, .putfield 15, 3), (108, .iinc 4 (-8), 3), (111, .goto (-43), 3), (114, .aload_n 0, 1), (115, .getfield 15, 3)]
theorem QX6_append_0 : qX6_append_0.all (fun q => decide (decode cX6_append q.1 = .ok q.2)) = true := by decide +kernel
theorem dX6_append_0 : decode cX6_append 0 = .ok (.iconst 0, 1) := of_q QX6_append_0 0 rfl
theorem dX6_append_1 : decode cX6_append 1 = .ok (.istore_n 3, 1) := of_q QX6_append_0 1 rfl
theorem dX6_append_2 : decode cX6_append 2 = .ok (.bipush 56, 2) := of_q QX6_append_0 2 rfl
theorem dX6_append_4 : decode cX6_append 4 = .ok (.istore 4, 2) := of_q QX6_append_0 3 rfl
theorem dX6_append_6 : decode cX6_append 6 = .ok (.iload 4, 2) := of_q QX6_append_0 4 rfl
theorem dX6_append_8 : decode cX6_append 8 = .ok (.ifCond .lt 41, 3) := of_q QX6_append_0 5 rfl
theorem dX6_append_11 : decode cX6_append 11 = .ok (.lload_n 1, 1) := of_q QX6_append_0 6 rfl
theorem dX6_append_12 : decode cX6_append 12 = .ok (.iload 4, 2) := of_q QX6_append_0 7 rfl
theorem dX6_append_14 : decode cX6_append 14 = .ok (.invokestatic 19, 3) := of_q QX6_append_0 8 rfl
theorem dX6_append_17 : decode cX6_append 17 = .ok (.istore 5, 2) := of_q QX6_append_0 9 rfl
theorem dX6_append_19 : decode cX6_append 19 = .ok (.iload 5, 2) := of_q QX6_append_0 10 rfl
theorem dX6_append_21 : decode cX6_append 21 = .ok (.invokestatic 23, 3) := of_q QX6_append_0 11 rfl
theorem dX6_append_24 : decode cX6_append 24 = .ok (.ifCond .ne 6, 3) := of_q QX6_append_0 12 rfl
theorem dX6_append_27 : decode cX6_append 27 = .ok (.bipush (-2), 2) := of_q QX6_append_0 13 rfl
theorem dX6_append_29 : decode cX6_append 29 = .ok (.ireturn, 1) := of_q QX6_append_0 14 rfl
theorem dX6_append_30 : decode cX6_append 30 = .ok (.iload_n 3, 1) := of_q QX6_append_0 15 rfl
theorem dX6_append_31 : decode cX6_append 31 = .ok (.iload 5, 2) := of_q QX6_append_0 16 rfl
theorem dX6_append_33 : decode cX6_append 33 = .ok (.ifCond .ne 7, 3) := of_q QX6_append_0 17 rfl
theorem dX6_append_36 : decode cX6_append 36 = .ok (.iconst 0, 1) := of_q QX6_append_0 18 rfl
theorem dX6_append_37 : decode cX6_append 37 = .ok (.goto 4, 3) := of_q QX6_append_0 19 rfl
theorem dX6_append_40 : decode cX6_append 40 = .ok (.iconst 1, 1) := of_q QX6_append_0 20 rfl
theorem dX6_append_41 : decode cX6_append 41 = .ok (.iadd, 1) := of_q QX6_append_0 21 rfl
theorem dX6_append_42 : decode cX6_append 42 = .ok (.istore_n 3, 1) := of_q QX6_append_0 22 rfl
theorem dX6_append_43 : decode cX6_append 43 = .ok (.iinc 4 (-8), 3) := of_q QX6_append_0 23 rfl
theorem dX6_append_46 : decode cX6_append 46 = .ok (.goto (-40), 3) := of_q QX6_append_0 24 rfl
theorem dX6_append_49 : decode cX6_append 49 = .ok (.aload_n 0, 1) := of_q QX6_append_0 25 rfl
theorem dX6_append_50 : decode cX6_append 50 = .ok (.getfield 15, 3) := of_q QX6_append_0 26 rfl
theorem dX6_append_53 : decode cX6_append 53 = .ok (.iload_n 3, 1) := of_q QX6_append_0 27 rfl
theorem dX6_append_54 : decode cX6_append 54 = .ok (.iadd, 1) := of_q QX6_append_0 28 rfl
theorem dX6_append_55 : decode cX6_append 55 = .ok (.sipush 1200, 3) := of_q QX6_append_0 29 rfl
theorem dX6_append_58 : decode cX6_append 58 = .ok (.if_icmp .le 6, 3) := of_q QX6_append_0 30 rfl
theorem dX6_append_61 : decode cX6_append 61 = .ok (.bipush (-4), 2) := of_q QX6_append_0 31 rfl
theorem dX6_append_63 : decode cX6_append 63 = .ok (.ireturn, 1) := of_q QX6_append_0 32 rfl
theorem dX6_append_64 : decode cX6_append 64 = .ok (.bipush 56, 2) := of_q QX6_append_0 33 rfl
theorem dX6_append_66 : decode cX6_append 66 = .ok (.istore 4, 2) := of_q QX6_append_0 34 rfl
theorem dX6_append_68 : decode cX6_append 68 = .ok (.iload 4, 2) := of_q QX6_append_0 35 rfl
theorem dX6_append_70 : decode cX6_append 70 = .ok (.ifCond .lt 44, 3) := of_q QX6_append_0 36 rfl
theorem dX6_append_73 : decode cX6_append 73 = .ok (.lload_n 1, 1) := of_q QX6_append_0 37 rfl
theorem dX6_append_74 : decode cX6_append 74 = .ok (.iload 4, 2) := of_q QX6_append_0 38 rfl
theorem dX6_append_76 : decode cX6_append 76 = .ok (.invokestatic 19, 3) := of_q QX6_append_0 39 rfl
theorem dX6_append_79 : decode cX6_append 79 = .ok (.istore 5, 2) := of_q QX6_append_0 40 rfl
theorem dX6_append_81 : decode cX6_append 81 = .ok (.iload 5, 2) := of_q QX6_append_0 41 rfl
theorem dX6_append_83 : decode cX6_append 83 = .ok (.ifCond .eq 25, 3) := of_q QX6_append_0 42 rfl
theorem dX6_append_86 : decode cX6_append 86 = .ok (.aload_n 0, 1) := of_q QX6_append_0 43 rfl
theorem dX6_append_87 : decode cX6_append 87 = .ok (.getfield 9, 3) := of_q QX6_append_0 44 rfl
theorem dX6_append_90 : decode cX6_append 90 = .ok (.aload_n 0, 1) := of_q QX6_append_0 45 rfl
theorem dX6_append_91 : decode cX6_append 91 = .ok (.getfield 15, 3) := of_q QX6_append_0 46 rfl
theorem dX6_append_94 : decode cX6_append 94 = .ok (.iload 5, 2) := of_q QX6_append_0 47 rfl
theorem dX6_append_96 : decode cX6_append 96 = .ok (.i2c, 1) := of_q QX6_append_0 48 rfl
theorem dX6_append_97 : decode cX6_append 97 = .ok (.castore, 1) := of_q QX6_append_0 49 rfl
theorem dX6_append_98 : decode cX6_append 98 = .ok (.aload_n 0, 1) := of_q QX6_append_0 50 rfl
theorem dX6_append_99 : decode cX6_append 99 = .ok (.dup, 1) := of_q QX6_append_0 51 rfl
theorem dX6_append_100 : decode cX6_append 100 = .ok (.getfield 15, 3) := of_q QX6_append_0 52 rfl
theorem dX6_append_103 : decode cX6_append 103 = .ok (.iconst 1, 1) := of_q QX6_append_0 53 rfl
theorem dX6_append_104 : decode cX6_append 104 = .ok (.iadd, 1) := of_q QX6_append_0 54 rfl
theorem dX6_append_105 : decode cX6_append 105 = .ok (.putfield 15, 3) := of_q QX6_append_0 55 rfl
theorem dX6_append_108 : decode cX6_append 108 = .ok (.iinc 4 (-8), 3) := of_q QX6_append_0 56 rfl
theorem dX6_append_111 : decode cX6_append 111 = .ok (.goto (-43), 3) := of_q QX6_append_0 57 rfl
theorem dX6_append_114 : decode cX6_append 114 = .ok (.aload_n 0, 1) := of_q QX6_append_0 58 rfl
theorem dX6_append_115 : decode cX6_append 115 = .ok (.getfield 15, 3) := of_q QX6_append_0 59 rfl
def qX6_append_1 : List (Nat × Instr × Nat) := [(118, .ireturn, 1)]
theorem QX6_append_1 : qX6_append_1.all (fun q => decide (decode cX6_append q.1 = .ok q.2)) = true := by decide +kernel
theorem dX6_append_118 : decode cX6_append 118 = .ok (.ireturn, 1) := of_q QX6_append_1 0 rfl
def qX6_shorten_0 : List (Nat × Instr × Nat) := [(0, .iload_n 1, 1), (1, .iconst 0, 1), (2, .aload_n 0, 1), (3, .getfield 15, 3), (6, .invokestatic 27, 3), (9, .ifCond .ne 6, 3), (12, .bipush (-2), 2), (14, .ireturn, 1), (15, .aload_n 0, 1), (16, .getfield 15, 3), (19, .iload_n 1, 1), (20, .isub, 1), (21, .istore_n 2, 1), (22, .aload_n 0, 1), (23, .iload_n 1, 1), (24, .putfield 15, 3), (27, .iload_n 2, 1), (28, .ireturn, 1)]
theorem QX6_shorten_0 : qX6_shorten_0.all (fun q => decide (decode cX6_shorten q.1 = .ok q.2)) = true := by decide +kernel
theorem dX6_shorten_0 : decode cX6_shorten 0 = .ok (.iload_n 1, 1) := of_q QX6_shorten_0 0 rfl
theorem dX6_shorten_1 : decode cX6_shorten 1 = .ok (.iconst 0, 1) := of_q QX6_shorten_0 1 rfl
theorem dX6_shorten_2 : decode cX6_shorten 2 = .ok (.aload_n 0, 1) := of_q QX6_shorten_0 2 rfl
theorem dX6_shorten_3 : decode cX6_shorten 3 = .ok (.getfield 15, 3) := of_q QX6_shorten_0 3 rfl
theorem dX6_shorten_6 : decode cX6_shorten 6 = .ok (.invokestatic 27, 3) := of_q QX6_shorten_0 4 rfl
theorem dX6_shorten_9 : decode cX6_shorten 9 = .ok (.ifCond .ne 6, 3) := of_q QX6_shorten_0 5 rfl
theorem dX6_shorten_12 : decode cX6_shorten 12 = .ok (.bipush (-2), 2) := of_q QX6_shorten_0 6 rfl
theorem dX6_shorten_14 : decode cX6_shorten 14 = .ok (.ireturn, 1) := of_q QX6_shorten_0 7 rfl
theorem dX6_shorten_15 : decode cX6_shorten 15 = .ok (.aload_n 0, 1) := of_q QX6_shorten_0 8 rfl
theorem dX6_shorten_16 : decode cX6_shorten 16 = .ok (.getfield 15, 3) := of_q QX6_shorten_0 9 rfl
theorem dX6_shorten_19 : decode cX6_shorten 19 = .ok (.iload_n 1, 1) := of_q QX6_shorten_0 10 rfl
theorem dX6_shorten_20 : decode cX6_shorten 20 = .ok (.isub, 1) := of_q QX6_shorten_0 11 rfl
theorem dX6_shorten_21 : decode cX6_shorten 21 = .ok (.istore_n 2, 1) := of_q QX6_shorten_0 12 rfl
theorem dX6_shorten_22 : decode cX6_shorten 22 = .ok (.aload_n 0, 1) := of_q QX6_shorten_0 13 rfl
theorem dX6_shorten_23 : decode cX6_shorten 23 = .ok (.iload_n 1, 1) := of_q QX6_shorten_0 14 rfl
theorem dX6_shorten_24 : decode cX6_shorten 24 = .ok (.putfield 15, 3) := of_q QX6_shorten_0 15 rfl
theorem dX6_shorten_27 : decode cX6_shorten 27 = .ok (.iload_n 2, 1) := of_q QX6_shorten_0 16 rfl
theorem dX6_shorten_28 : decode cX6_shorten 28 = .ok (.ireturn, 1) := of_q QX6_shorten_0 17 rfl
def qX6_at_0 : List (Nat × Instr × Nat) := [(0, .iload_n 1, 1), (1, .ifCond .lt 20, 3), (4, .iload_n 1, 1), (5, .aload_n 0, 1), (6, .getfield 15, 3), (9, .if_icmp .ge 12, 3), (12, .aload_n 0, 1), (13, .getfield 9, 3), (16, .iload_n 1, 1), (17, .caload, 1), (18, .goto 4, 3), (21, .iconst (-1), 1), (22, .ireturn, 1)]
theorem QX6_at_0 : qX6_at_0.all (fun q => decide (decode cX6_at q.1 = .ok q.2)) = true := by decide +kernel
theorem dX6_at_0 : decode cX6_at 0 = .ok (.iload_n 1, 1) := of_q QX6_at_0 0 rfl
theorem dX6_at_1 : decode cX6_at 1 = .ok (.ifCond .lt 20, 3) := of_q QX6_at_0 1 rfl
theorem dX6_at_4 : decode cX6_at 4 = .ok (.iload_n 1, 1) := of_q QX6_at_0 2 rfl
theorem dX6_at_5 : decode cX6_at 5 = .ok (.aload_n 0, 1) := of_q QX6_at_0 3 rfl
theorem dX6_at_6 : decode cX6_at 6 = .ok (.getfield 15, 3) := of_q QX6_at_0 4 rfl
theorem dX6_at_9 : decode cX6_at 9 = .ok (.if_icmp .ge 12, 3) := of_q QX6_at_0 5 rfl
theorem dX6_at_12 : decode cX6_at 12 = .ok (.aload_n 0, 1) := of_q QX6_at_0 6 rfl
theorem dX6_at_13 : decode cX6_at 13 = .ok (.getfield 9, 3) := of_q QX6_at_0 7 rfl
theorem dX6_at_16 : decode cX6_at 16 = .ok (.iload_n 1, 1) := of_q QX6_at_0 8 rfl
theorem dX6_at_17 : decode cX6_at 17 = .ok (.caload, 1) := of_q QX6_at_0 9 rfl
theorem dX6_at_18 : decode cX6_at 18 = .ok (.goto 4, 3) := of_q QX6_at_0 10 rfl
theorem dX6_at_21 : decode cX6_at 21 = .ok (.iconst (-1), 1) := of_q QX6_at_0 11 rfl
theorem dX6_at_22 : decode cX6_at 22 = .ok (.ireturn, 1) := of_q QX6_at_0 12 rfl
def qX6_skipBlanks_0 : List (Nat × Instr × Nat) := [(0, .iload_n 1, 1), (1, .istore_n 2, 1), (2, .iload_n 2, 1), (3, .aload_n 0, 1), (4, .getfield 15, 3), (7, .if_icmp .ge 20, 3), (10, .aload_n 0, 1), (11, .iload_n 2, 1), (12, .invokevirtual 31, 3), (15, .invokestatic 35, 3), (18, .ifCond .eq 9, 3), (21, .iinc 2 1, 3), (24, .goto (-22), 3), (27, .iload_n 2, 1), (28, .ireturn, 1)]
theorem QX6_skipBlanks_0 : qX6_skipBlanks_0.all (fun q => decide (decode cX6_skipBlanks q.1 = .ok q.2)) = true := by decide +kernel
theorem dX6_skipBlanks_0 : decode cX6_skipBlanks 0 = .ok (.iload_n 1, 1) := of_q QX6_skipBlanks_0 0 rfl
theorem dX6_skipBlanks_1 : decode cX6_skipBlanks 1 = .ok (.istore_n 2, 1) := of_q QX6_skipBlanks_0 1 rfl
theorem dX6_skipBlanks_2 : decode cX6_skipBlanks 2 = .ok (.iload_n 2, 1) := of_q QX6_skipBlanks_0 2 rfl
theorem dX6_skipBlanks_3 : decode cX6_skipBlanks 3 = .ok (.aload_n 0, 1) := of_q QX6_skipBlanks_0 3 rfl
theorem dX6_skipBlanks_4 : decode cX6_skipBlanks 4 = .ok (.getfield 15, 3) := of_q QX6_skipBlanks_0 4 rfl
theorem dX6_skipBlanks_7 : decode cX6_skipBlanks 7 = .ok (.if_icmp .ge 20, 3) := of_q QX6_skipBlanks_0 5 rfl
theorem dX6_skipBlanks_10 : decode cX6_skipBlanks 10 = .ok (.aload_n 0, 1) := of_q QX6_skipBlanks_0 6 rfl
theorem dX6_skipBlanks_11 : decode cX6_skipBlanks 11 = .ok (.iload_n 2, 1) := of_q QX6_skipBlanks_0 7 rfl
theorem dX6_skipBlanks_12 : decode cX6_skipBlanks 12 = .ok (.invokevirtual 31, 3) := of_q QX6_skipBlanks_0 8 rfl
theorem dX6_skipBlanks_15 : decode cX6_skipBlanks 15 = .ok (.invokestatic 35, 3) := of_q QX6_skipBlanks_0 9 rfl
theorem dX6_skipBlanks_18 : decode cX6_skipBlanks 18 = .ok (.ifCond .eq 9, 3) := of_q QX6_skipBlanks_0 10 rfl
theorem dX6_skipBlanks_21 : decode cX6_skipBlanks 21 = .ok (.iinc 2 1, 3) := of_q QX6_skipBlanks_0 11 rfl
theorem dX6_skipBlanks_24 : decode cX6_skipBlanks 24 = .ok (.goto (-22), 3) := of_q QX6_skipBlanks_0 12 rfl
theorem dX6_skipBlanks_27 : decode cX6_skipBlanks 27 = .ok (.iload_n 2, 1) := of_q QX6_skipBlanks_0 13 rfl
theorem dX6_skipBlanks_28 : decode cX6_skipBlanks 28 = .ok (.ireturn, 1) := of_q QX6_skipBlanks_0 14 rfl
def qX6_byteOf_0 : List (Nat × Instr × Nat) := [(0, .lload_n 0, 1), (1, .iload_n 2, 1), (2, .lushr, 1), (3, .l2i, 1), (4, .sipush 255, 3), (7, .iand, 1), (8, .ireturn, 1)]
theorem QX6_byteOf_0 : qX6_byteOf_0.all (fun q => decide (decode cX6_byteOf q.1 = .ok q.2)) = true := by decide +kernel
theorem dX6_byteOf_0 : decode cX6_byteOf 0 = .ok (.lload_n 0, 1) := of_q QX6_byteOf_0 0 rfl
theorem dX6_byteOf_1 : decode cX6_byteOf 1 = .ok (.iload_n 2, 1) := of_q QX6_byteOf_0 1 rfl
theorem dX6_byteOf_2 : decode cX6_byteOf 2 = .ok (.lushr, 1) := of_q QX6_byteOf_0 2 rfl
theorem dX6_byteOf_3 : decode cX6_byteOf 3 = .ok (.l2i, 1) := of_q QX6_byteOf_0 3 rfl
theorem dX6_byteOf_4 : decode cX6_byteOf 4 = .ok (.sipush 255, 3) := of_q QX6_byteOf_0 4 rfl
theorem dX6_byteOf_7 : decode cX6_byteOf 7 = .ok (.iand, 1) := of_q QX6_byteOf_0 5 rfl
theorem dX6_byteOf_8 : decode cX6_byteOf 8 = .ok (.ireturn, 1) := of_q QX6_byteOf_0 6 rfl
def qX6_isAllowed_0 : List (Nat × Instr × Nat) := [(0, .iload_n 0, 1), (1, .ifCond .eq 20, 3), (4, .iload_n 0, 1), (5, .bipush 10, 2), (7, .if_icmp .eq 14, 3), (10, .iload_n 0, 1), (11, .bipush 32, 2), (13, .bipush 126, 2), (15, .invokestatic 27, 3), (18, .ifCond .eq 7, 3), (21, .iconst 1, 1), (22, .goto 4, 3), (25, .iconst 0, 1), (26, .ireturn, 1)]
theorem QX6_isAllowed_0 : qX6_isAllowed_0.all (fun q => decide (decode cX6_isAllowed q.1 = .ok q.2)) = true := by decide +kernel
theorem dX6_isAllowed_0 : decode cX6_isAllowed 0 = .ok (.iload_n 0, 1) := of_q QX6_isAllowed_0 0 rfl
theorem dX6_isAllowed_1 : decode cX6_isAllowed 1 = .ok (.ifCond .eq 20, 3) := of_q QX6_isAllowed_0 1 rfl
theorem dX6_isAllowed_4 : decode cX6_isAllowed 4 = .ok (.iload_n 0, 1) := of_q QX6_isAllowed_0 2 rfl
theorem dX6_isAllowed_5 : decode cX6_isAllowed 5 = .ok (.bipush 10, 2) := of_q QX6_isAllowed_0 3 rfl
theorem dX6_isAllowed_7 : decode cX6_isAllowed 7 = .ok (.if_icmp .eq 14, 3) := of_q QX6_isAllowed_0 4 rfl
theorem dX6_isAllowed_10 : decode cX6_isAllowed 10 = .ok (.iload_n 0, 1) := of_q QX6_isAllowed_0 5 rfl
theorem dX6_isAllowed_11 : decode cX6_isAllowed 11 = .ok (.bipush 32, 2) := of_q QX6_isAllowed_0 6 rfl
theorem dX6_isAllowed_13 : decode cX6_isAllowed 13 = .ok (.bipush 126, 2) := of_q QX6_isAllowed_0 7 rfl
theorem dX6_isAllowed_15 : decode cX6_isAllowed 15 = .ok (.invokestatic 27, 3) := of_q QX6_isAllowed_0 8 rfl
theorem dX6_isAllowed_18 : decode cX6_isAllowed 18 = .ok (.ifCond .eq 7, 3) := of_q QX6_isAllowed_0 9 rfl
theorem dX6_isAllowed_21 : decode cX6_isAllowed 21 = .ok (.iconst 1, 1) := of_q QX6_isAllowed_0 10 rfl
theorem dX6_isAllowed_22 : decode cX6_isAllowed 22 = .ok (.goto 4, 3) := of_q QX6_isAllowed_0 11 rfl
theorem dX6_isAllowed_25 : decode cX6_isAllowed 25 = .ok (.iconst 0, 1) := of_q QX6_isAllowed_0 12 rfl
theorem dX6_isAllowed_26 : decode cX6_isAllowed 26 = .ok (.ireturn, 1) := of_q QX6_isAllowed_0 13 rfl
def qX7_init_0 : List (Nat × Instr × Nat) := [(0, .aload_n 0, 1), (1, .invokespecial 3, 3), (4, .aload_n 0, 1), (5, .bipush 12, 2), (7, .newarray .int, 2), (9, .dup, 1), (10, .iconst 0, 1), (11, .iconst 0, 1), (12, .iastore, 1), (13, .dup, 1), (14, .iconst 1, 1), (15, .iconst 1, 1), (16, .iastore, 1), (17, .dup, 1), (18, .iconst 2, 1), (19, .iconst 2, 1), (20, .iastore, 1), (21, .dup, 1), (22, .iconst 3, 1), (23, .iconst 3, 1), (24, .iastore, 1), (25, .dup, 1), (26, .iconst 4, 1), (27, .iconst 4, 1), (28, .iastore, 1), (29, .dup, 1), (30, .iconst 5, 1), (31, .iconst 5, 1), (32, .iastore, 1), (33, .dup, 1), (34, .bipush 6, 2), (36, .bipush 6, 2), (38, .iastore, 1), (39, .dup, 1), (40, .bipush 7, 2), (42, .bipush 7, 2), (44, .iastore, 1), (45, .dup, 1), (46, .bipush 8, 2), (48, .bipush 8, 2), (50, .iastore, 1), (51, .dup, 1), (52, .bipush 9, 2), (54, .bipush 9, 2), (56, .iastore, 1), (57, .dup, 1), (58, .bipush 10, 2), (60, .bipush 10, 2), (62, .iastore, 1), (63, .dup, 1), (64, .bipush 11, 2), (66, .bipush 11, 2), (68, .iastore, 1), (69, .putfield 9, 3), (72, .return_, 1)]
theorem QX7_init_0 : qX7_init_0.all (fun q => decide (decode cX7_init q.1 = .ok q.2)) = true := by decide +kernel
theorem dX7_init_0 : decode cX7_init 0 = .ok (.aload_n 0, 1) := of_q QX7_init_0 0 rfl
theorem dX7_init_1 : decode cX7_init 1 = .ok (.invokespecial 3, 3) := of_q QX7_init_0 1 rfl
theorem dX7_init_4 : decode cX7_init 4 = .ok (.aload_n 0, 1) := of_q QX7_init_0 2 rfl
theorem dX7_init_5 : decode cX7_init 5 = .ok (.bipush 12, 2) := of_q QX7_init_0 3 rfl
theorem dX7_init_7 : decode cX7_init 7 = .ok (.newarray .int, 2) := of_q QX7_init_0 4 rfl
theorem dX7_init_9 : decode cX7_init 9 = .ok (.dup, 1) := of_q QX7_init_0 5 rfl
theorem dX7_init_10 : decode cX7_init 10 = .ok (.iconst 0, 1) := of_q QX7_init_0 6 rfl
theorem dX7_init_11 : decode cX7_init 11 = .ok (.iconst 0, 1) := of_q QX7_init_0 7 rfl
theorem dX7_init_12 : decode cX7_init 12 = .ok (.iastore, 1) := of_q QX7_init_0 8 rfl
theorem dX7_init_13 : decode cX7_init 13 = .ok (.dup, 1) := of_q QX7_init_0 9 rfl
theorem dX7_init_14 : decode cX7_init 14 = .ok (.iconst 1, 1) := of_q QX7_init_0 10 rfl
theorem dX7_init_15 : decode cX7_init 15 = .ok (.iconst 1, 1) := of_q QX7_init_0 11 rfl
theorem dX7_init_16 : decode cX7_init 16 = .ok (.iastore, 1) := of_q QX7_init_0 12 rfl
theorem dX7_init_17 : decode cX7_init 17 = .ok (.dup, 1) := of_q QX7_init_0 13 rfl
theorem dX7_init_18 : decode cX7_init 18 = .ok (.iconst 2, 1) := of_q QX7_init_0 14 rfl
theorem dX7_init_19 : decode cX7_init 19 = .ok (.iconst 2, 1) := of_q QX7_init_0 15 rfl
theorem dX7_init_20 : decode cX7_init 20 = .ok (.iastore, 1) := of_q QX7_init_0 16 rfl
theorem dX7_init_21 : decode cX7_init 21 = .ok (.dup, 1) := of_q QX7_init_0 17 rfl
theorem dX7_init_22 : decode cX7_init 22 = .ok (.iconst 3, 1) := of_q QX7_init_0 18 rfl
theorem dX7_init_23 : decode cX7_init 23 = .ok (.iconst 3, 1) := of_q QX7_init_0 19 rfl
theorem dX7_init_24 : decode cX7_init 24 = .ok (.iastore, 1) := of_q QX7_init_0 20 rfl
theorem dX7_init_25 : decode cX7_init 25 = .ok (.dup, 1) := of_q QX7_init_0 21 rfl
theorem dX7_init_26 : decode cX7_init 26 = .ok (.iconst 4, 1) := of_q QX7_init_0 22 rfl
theorem dX7_init_27 : decode cX7_init 27 = .ok (.iconst 4, 1) := of_q QX7_init_0 23 rfl
theorem dX7_init_28 : decode cX7_init 28 = .ok (.iastore, 1) := of_q QX7_init_0 24 rfl
theorem dX7_init_29 : decode cX7_init 29 = .ok (.dup, 1) := of_q QX7_init_0 25 rfl
theorem dX7_init_30 : decode cX7_init 30 = .ok (.iconst 5, 1) := of_q QX7_init_0 26 rfl
theorem dX7_init_31 : decode cX7_init 31 = .ok (.iconst 5, 1) := of_q QX7_init_0 27 rfl
theorem dX7_init_32 : decode cX7_init 32 = .ok (.iastore, 1) := of_q QX7_init_0 28 rfl
theorem dX7_init_33 : decode cX7_init 33 = .ok (.dup, 1) := of_q QX7_init_0 29 rfl
theorem dX7_init_34 : decode cX7_init 34 = .ok (.bipush 6, 2) := of_q QX7_init_0 30 rfl
theorem dX7_init_36 : decode cX7_init 36 = .ok (.bipush 6, 2) := of_q QX7_init_0 31 rfl
theorem dX7_init_38 : decode cX7_init 38 = .ok (.iastore, 1) := of_q QX7_init_0 32 rfl
theorem dX7_init_39 : decode cX7_init 39 = .ok (.dup, 1) := of_q QX7_init_0 33 rfl
theorem dX7_init_40 : decode cX7_init 40 = .ok (.bipush 7, 2) := of_q QX7_init_0 34 rfl
theorem dX7_init_42 : decode cX7_init 42 = .ok (.bipush 7, 2) := of_q QX7_init_0 35 rfl
theorem dX7_init_44 : decode cX7_init 44 = .ok (.iastore, 1) := of_q QX7_init_0 36 rfl
theorem dX7_init_45 : decode cX7_init 45 = .ok (.dup, 1) := of_q QX7_init_0 37 rfl
theorem dX7_init_46 : decode cX7_init 46 = .ok (.bipush 8, 2) := of_q QX7_init_0 38 rfl
theorem dX7_init_48 : decode cX7_init 48 = .ok (.bipush 8, 2) := of_q QX7_init_0 39 rfl
theorem dX7_init_50 : decode cX7_init 50 = .ok (.iastore, 1) := of_q QX7_init_0 40 rfl
theorem dX7_init_51 : decode cX7_init 51 = .ok (.dup, 1) := of_q QX7_init_0 41 rfl
theorem dX7_init_52 : decode cX7_init 52 = .ok (.bipush 9, 2) := of_q QX7_init_0 42 rfl
theorem dX7_init_54 : decode cX7_init 54 = .ok (.bipush 9, 2) := of_q QX7_init_0 43 rfl
theorem dX7_init_56 : decode cX7_init 56 = .ok (.iastore, 1) := of_q QX7_init_0 44 rfl
theorem dX7_init_57 : decode cX7_init 57 = .ok (.dup, 1) := of_q QX7_init_0 45 rfl
theorem dX7_init_58 : decode cX7_init 58 = .ok (.bipush 10, 2) := of_q QX7_init_0 46 rfl
theorem dX7_init_60 : decode cX7_init 60 = .ok (.bipush 10, 2) := of_q QX7_init_0 47 rfl
theorem dX7_init_62 : decode cX7_init 62 = .ok (.iastore, 1) := of_q QX7_init_0 48 rfl
theorem dX7_init_63 : decode cX7_init 63 = .ok (.dup, 1) := of_q QX7_init_0 49 rfl
theorem dX7_init_64 : decode cX7_init 64 = .ok (.bipush 11, 2) := of_q QX7_init_0 50 rfl
theorem dX7_init_66 : decode cX7_init 66 = .ok (.bipush 11, 2) := of_q QX7_init_0 51 rfl
theorem dX7_init_68 : decode cX7_init 68 = .ok (.iastore, 1) := of_q QX7_init_0 52 rfl
theorem dX7_init_69 : decode cX7_init 69 = .ok (.putfield 9, 3) := of_q QX7_init_0 53 rfl
theorem dX7_init_72 : decode cX7_init 72 = .ok (.return_, 1) := of_q QX7_init_0 54 rfl
def qX7_swapIn_0 : List (Nat × Instr × Nat) := [(0, .iconst 0, 1), (1, .istore_n 3, 1), (2, .iload_n 3, 1), (3, .bipush 12, 2), (5, .if_icmp .ge 39, 3), (8, .aload_n 0, 1), (9, .getfield 9, 3), (12, .iload_n 3, 1), (13, .iaload, 1), (14, .iload_n 2, 1), (15, .if_icmp .ne 23, 3), (18, .aload_n 0, 1), (19, .getfield 9, 3), (22, .iload_n 3, 1), (23, .aload_n 0, 1), (24, .getfield 9, 3), (27, .iload_n 1, 1), (28, .iaload, 1), (29, .iastore, 1), (30, .aload_n 0, 1), (31, .getfield 9, 3), (34, .iload_n 1, 1), (35, .iload_n 2, 1), (36, .iastore, 1), (37, .return_, 1), (38, .iinc 3 1, 3), (41, .goto (-39), 3), (44, .return_, 1)]
theorem QX7_swapIn_0 : qX7_swapIn_0.all (fun q => decide (decode cX7_swapIn q.1 = .ok q.2)) = true := by decide +kernel
theorem dX7_swapIn_0 : decode cX7_swapIn 0 = .ok (.iconst 0, 1) := of_q QX7_swapIn_0 0 rfl
theorem dX7_swapIn_1 : decode cX7_swapIn 1 = .ok (.istore_n 3, 1) := of_q QX7_swapIn_0 1 rfl
theorem dX7_swapIn_2 : decode cX7_swapIn 2 = .ok (.iload_n 3, 1) := of_q QX7_swapIn_0 2 rfl
theorem dX7_swapIn_3 : decode cX7_swapIn 3 = .ok (.bipush 12, 2) := of_q QX7_swapIn_0 3 rfl
theorem dX7_swapIn_5 : decode cX7_swapIn 5 = .ok (.if_icmp .ge 39, 3) := of_q QX7_swapIn_0 4 rfl
theorem dX7_swapIn_8 : decode cX7_swapIn 8 = .ok (.aload_n 0, 1) := of_q QX7_swapIn_0 5 rfl
theorem dX7_swapIn_9 : decode cX7_swapIn 9 = .ok (.getfield 9, 3) := of_q QX7_swapIn_0 6 rfl
theorem dX7_swapIn_12 : decode cX7_swapIn 12 = .ok (.iload_n 3, 1) := of_q QX7_swapIn_0 7 rfl
theorem dX7_swapIn_13 : decode cX7_swapIn 13 = .ok (.iaload, 1) := of_q QX7_swapIn_0 8 rfl
theorem dX7_swapIn_14 : decode cX7_swapIn 14 = .ok (.iload_n 2, 1) := of_q QX7_swapIn_0 9 rfl
theorem dX7_swapIn_15 : decode cX7_swapIn 15 = .ok (.if_icmp .ne 23, 3) := of_q QX7_swapIn_0 10 rfl
theorem dX7_swapIn_18 : decode cX7_swapIn 18 = .ok (.aload_n 0, 1) := of_q QX7_swapIn_0 11 rfl
theorem dX7_swapIn_19 : decode cX7_swapIn 19 = .ok (.getfield 9, 3) := of_q QX7_swapIn_0 12 rfl
theorem dX7_swapIn_22 : decode cX7_swapIn 22 = .ok (.iload_n 3, 1) := of_q QX7_swapIn_0 13 rfl
theorem dX7_swapIn_23 : decode cX7_swapIn 23 = .ok (.aload_n 0, 1) := of_q QX7_swapIn_0 14 rfl
theorem dX7_swapIn_24 : decode cX7_swapIn 24 = .ok (.getfield 9, 3) := of_q QX7_swapIn_0 15 rfl
theorem dX7_swapIn_27 : decode cX7_swapIn 27 = .ok (.iload_n 1, 1) := of_q QX7_swapIn_0 16 rfl
theorem dX7_swapIn_28 : decode cX7_swapIn 28 = .ok (.iaload, 1) := of_q QX7_swapIn_0 17 rfl
theorem dX7_swapIn_29 : decode cX7_swapIn 29 = .ok (.iastore, 1) := of_q QX7_swapIn_0 18 rfl
theorem dX7_swapIn_30 : decode cX7_swapIn 30 = .ok (.aload_n 0, 1) := of_q QX7_swapIn_0 19 rfl
theorem dX7_swapIn_31 : decode cX7_swapIn 31 = .ok (.getfield 9, 3) := of_q QX7_swapIn_0 20 rfl
theorem dX7_swapIn_34 : decode cX7_swapIn 34 = .ok (.iload_n 1, 1) := of_q QX7_swapIn_0 21 rfl
theorem dX7_swapIn_35 : decode cX7_swapIn 35 = .ok (.iload_n 2, 1) := of_q QX7_swapIn_0 22 rfl
theorem dX7_swapIn_36 : decode cX7_swapIn 36 = .ok (.iastore, 1) := of_q QX7_swapIn_0 23 rfl
theorem dX7_swapIn_37 : decode cX7_swapIn 37 = .ok (.return_, 1) := of_q QX7_swapIn_0 24 rfl
theorem dX7_swapIn_38 : decode cX7_swapIn 38 = .ok (.iinc 3 1, 3) := of_q QX7_swapIn_0 25 rfl
theorem dX7_swapIn_41 : decode cX7_swapIn 41 = .ok (.goto (-39), 3) := of_q QX7_swapIn_0 26 rfl
theorem dX7_swapIn_44 : decode cX7_swapIn 44 = .ok (.return_, 1) := of_q QX7_swapIn_0 27 rfl
def qX7_numberOf_0 : List (Nat × Instr × Nat) := [(0, .iload_n 1, 1), (1, .iconst 1, 1), (2, .if_icmp .eq 8, 3), (5, .iload_n 1, 1), (6, .iconst 3, 1), (7, .if_icmp .ne 7, 3), (10, .iconst 1, 1), (11, .goto 4, 3), (14, .iconst 0, 1), (15, .istore 4, 2), (17, .iload_n 1, 1), (18, .iconst 2, 1), (19, .if_icmp .eq 8, 3), (22, .iload_n 1, 1), (23, .iconst 3, 1), (24, .if_icmp .ne 7, 3), (27, .iconst 1, 1), (28, .goto 4, 3), (31, .iconst 0, 1), (32, .istore 5, 2), (34, .aload_n 0, 1), (35, .getfield 9, 3), (38, .iload 5, 2), (40, .ifCond .eq 10, 3), (43, .bipush 11, 2), (45, .iload_n 3, 1), (46, .isub, 1), (47, .goto 4, 3), (50, .iload_n 3, 1), (51, .iaload, 1), (52, .istore 6, 2), (54, .iload 4, 2), (56, .ifCond .eq 17, 3), (59, .iconst 2, 1), (60, .aload_n 0, 1), (61, .getfield 9, 3), (64, .iconst 0, 1), (65, .iaload, 1), (66, .imul, 1), (67, .iload 6, 2), (69, .isub, 1), (70, .goto 5, 3), (73, .iload 6, 2), (75, .istore 7, 2), (77, .iload 7, 2), (79, .iload_n 2, 1), (80, .iadd, 1), (81, .bipush 12, 2), (83, .invokestatic 15, 3), (86, .ireturn, 1)]
theorem QX7_numberOf_0 : qX7_numberOf_0.all (fun q => decide (decode cX7_numberOf q.1 = .ok q.2)) = true := by decide +kernel
theorem dX7_numberOf_0 : decode cX7_numberOf 0 = .ok (.iload_n 1, 1) := of_q QX7_numberOf_0 0 rfl
theorem dX7_numberOf_1 : decode cX7_numberOf 1 = .ok (.iconst 1, 1) := of_q QX7_numberOf_0 1 rfl
theorem dX7_numberOf_2 : decode cX7_numberOf 2 = .ok (.if_icmp .eq 8, 3) := of_q QX7_numberOf_0 2 rfl
theorem dX7_numberOf_5 : decode cX7_numberOf 5 = .ok (.iload_n 1, 1) := of_q QX7_numberOf_0 3 rfl
theorem dX7_numberOf_6 : decode cX7_numberOf 6 = .ok (.iconst 3, 1) := of_q QX7_numberOf_0 4 rfl
theorem dX7_numberOf_7 : decode cX7_numberOf 7 = .ok (.if_icmp .ne 7, 3) := of_q QX7_numberOf_0 5 rfl
theorem dX7_numberOf_10 : decode cX7_numberOf 10 = .ok (.iconst 1, 1) := of_q QX7_numberOf_0 6 rfl
theorem dX7_numberOf_11 : decode cX7_numberOf 11 = .ok (.goto 4, 3) := of_q QX7_numberOf_0 7 rfl
theorem dX7_numberOf_14 : decode cX7_numberOf 14 = .ok (.iconst 0, 1) := of_q QX7_numberOf_0 8 rfl
theorem dX7_numberOf_15 : decode cX7_numberOf 15 = .ok (.istore 4, 2) := of_q QX7_numberOf_0 9 rfl
theorem dX7_numberOf_17 : decode cX7_numberOf 17 = .ok (.iload_n 1, 1) := of_q QX7_numberOf_0 10 rfl
theorem dX7_numberOf_18 : decode cX7_numberOf 18 = .ok (.iconst 2, 1) := of_q QX7_numberOf_0 11 rfl
theorem dX7_numberOf_19 : decode cX7_numberOf 19 = .ok (.if_icmp .eq 8, 3) := of_q QX7_numberOf_0 12 rfl
theorem dX7_numberOf_22 : decode cX7_numberOf 22 = .ok (.iload_n 1, 1) := of_q QX7_numberOf_0 13 rfl
theorem dX7_numberOf_23 : decode cX7_numberOf 23 = .ok (.iconst 3, 1) := of_q QX7_numberOf_0 14 rfl
theorem dX7_numberOf_24 : decode cX7_numberOf 24 = .ok (.if_icmp .ne 7, 3) := of_q QX7_numberOf_0 15 rfl
theorem dX7_numberOf_27 : decode cX7_numberOf 27 = .ok (.iconst 1, 1) := of_q QX7_numberOf_0 16 rfl
theorem dX7_numberOf_28 : decode cX7_numberOf 28 = .ok (.goto 4, 3) := of_q QX7_numberOf_0 17 rfl
theorem dX7_numberOf_31 : decode cX7_numberOf 31 = .ok (.iconst 0, 1) := of_q QX7_numberOf_0 18 rfl
theorem dX7_numberOf_32 : decode cX7_numberOf 32 = .ok (.istore 5, 2) := of_q QX7_numberOf_0 19 rfl
theorem dX7_numberOf_34 : decode cX7_numberOf 34 = .ok (.aload_n 0, 1) := of_q QX7_numberOf_0 20 rfl
theorem dX7_numberOf_35 : decode cX7_numberOf 35 = .ok (.getfield 9, 3) := of_q QX7_numberOf_0 21 rfl
theorem dX7_numberOf_38 : decode cX7_numberOf 38 = .ok (.iload 5, 2) := of_q QX7_numberOf_0 22 rfl
theorem dX7_numberOf_40 : decode cX7_numberOf 40 = .ok (.ifCond .eq 10, 3) := of_q QX7_numberOf_0 23 rfl
theorem dX7_numberOf_43 : decode cX7_numberOf 43 = .ok (.bipush 11, 2) := of_q QX7_numberOf_0 24 rfl
theorem dX7_numberOf_45 : decode cX7_numberOf 45 = .ok (.iload_n 3, 1) := of_q QX7_numberOf_0 25 rfl
theorem dX7_numberOf_46 : decode cX7_numberOf 46 = .ok (.isub, 1) := of_q QX7_numberOf_0 26 rfl
theorem dX7_numberOf_47 : decode cX7_numberOf 47 = .ok (.goto 4, 3) := of_q QX7_numberOf_0 27 rfl
theorem dX7_numberOf_50 : decode cX7_numberOf 50 = .ok (.iload_n 3, 1) := of_q QX7_numberOf_0 28 rfl
theorem dX7_numberOf_51 : decode cX7_numberOf 51 = .ok (.iaload, 1) := of_q QX7_numberOf_0 29 rfl
theorem dX7_numberOf_52 : decode cX7_numberOf 52 = .ok (.istore 6, 2) := of_q QX7_numberOf_0 30 rfl
theorem dX7_numberOf_54 : decode cX7_numberOf 54 = .ok (.iload 4, 2) := of_q QX7_numberOf_0 31 rfl
theorem dX7_numberOf_56 : decode cX7_numberOf 56 = .ok (.ifCond .eq 17, 3) := of_q QX7_numberOf_0 32 rfl
theorem dX7_numberOf_59 : decode cX7_numberOf 59 = .ok (.iconst 2, 1) := of_q QX7_numberOf_0 33 rfl
theorem dX7_numberOf_60 : decode cX7_numberOf 60 = .ok (.aload_n 0, 1) := of_q QX7_numberOf_0 34 rfl
theorem dX7_numberOf_61 : decode cX7_numberOf 61 = .ok (.getfield 9, 3) := of_q QX7_numberOf_0 35 rfl
theorem dX7_numberOf_64 : decode cX7_numberOf 64 = .ok (.iconst 0, 1) := of_q QX7_numberOf_0 36 rfl
theorem dX7_numberOf_65 : decode cX7_numberOf 65 = .ok (.iaload, 1) := of_q QX7_numberOf_0 37 rfl
theorem dX7_numberOf_66 : decode cX7_numberOf 66 = .ok (.imul, 1) := of_q QX7_numberOf_0 38 rfl
theorem dX7_numberOf_67 : decode cX7_numberOf 67 = .ok (.iload 6, 2) := of_q QX7_numberOf_0 39 rfl
theorem dX7_numberOf_69 : decode cX7_numberOf 69 = .ok (.isub, 1) := of_q QX7_numberOf_0 40 rfl
theorem dX7_numberOf_70 : decode cX7_numberOf 70 = .ok (.goto 5, 3) := of_q QX7_numberOf_0 41 rfl
theorem dX7_numberOf_73 : decode cX7_numberOf 73 = .ok (.iload 6, 2) := of_q QX7_numberOf_0 42 rfl
theorem dX7_numberOf_75 : decode cX7_numberOf 75 = .ok (.istore 7, 2) := of_q QX7_numberOf_0 43 rfl
theorem dX7_numberOf_77 : decode cX7_numberOf 77 = .ok (.iload 7, 2) := of_q QX7_numberOf_0 44 rfl
theorem dX7_numberOf_79 : decode cX7_numberOf 79 = .ok (.iload_n 2, 1) := of_q QX7_numberOf_0 45 rfl
theorem dX7_numberOf_80 : decode cX7_numberOf 80 = .ok (.iadd, 1) := of_q QX7_numberOf_0 46 rfl
theorem dX7_numberOf_81 : decode cX7_numberOf 81 = .ok (.bipush 12, 2) := of_q QX7_numberOf_0 47 rfl
theorem dX7_numberOf_83 : decode cX7_numberOf 83 = .ok (.invokestatic 15, 3) := of_q QX7_numberOf_0 48 rfl
theorem dX7_numberOf_86 : decode cX7_numberOf 86 = .ok (.ireturn, 1) := of_q QX7_numberOf_0 49 rfl
def qX7_countDoubled_0 : List (Nat × Instr × Nat) := [(0, .iconst 0, 1), (1, .istore_n 1, 1), (2, .iconst 1, 1), (3, .istore_n 2, 1), (4, .iload_n 2, 1), (5, .bipush 48, 2), (7, .if_icmp .ge 20, 3), (10, .aload_n 0, 1), (11, .iload_n 2, 1), (12, .invokevirtual 21, 3), (15, .ifCond .eq 6, 3), (18, .iinc 1 1, 3), (21, .iinc 2 1, 3), (24, .goto (-20), 3), (27, .iload_n 1, 1), (28, .ireturn, 1)]
theorem QX7_countDoubled_0 : qX7_countDoubled_0.all (fun q => decide (decode cX7_countDoubled q.1 = .ok q.2)) = true := by decide +kernel
theorem dX7_countDoubled_0 : decode cX7_countDoubled 0 = .ok (.iconst 0, 1) := of_q QX7_countDoubled_0 0 rfl
theorem dX7_countDoubled_1 : decode cX7_countDoubled 1 = .ok (.istore_n 1, 1) := of_q QX7_countDoubled_0 1 rfl
theorem dX7_countDoubled_2 : decode cX7_countDoubled 2 = .ok (.iconst 1, 1) := of_q QX7_countDoubled_0 2 rfl
theorem dX7_countDoubled_3 : decode cX7_countDoubled 3 = .ok (.istore_n 2, 1) := of_q QX7_countDoubled_0 3 rfl
theorem dX7_countDoubled_4 : decode cX7_countDoubled 4 = .ok (.iload_n 2, 1) := of_q QX7_countDoubled_0 4 rfl
theorem dX7_countDoubled_5 : decode cX7_countDoubled 5 = .ok (.bipush 48, 2) := of_q QX7_countDoubled_0 5 rfl
theorem dX7_countDoubled_7 : decode cX7_countDoubled 7 = .ok (.if_icmp .ge 20, 3) := of_q QX7_countDoubled_0 6 rfl
theorem dX7_countDoubled_10 : decode cX7_countDoubled 10 = .ok (.aload_n 0, 1) := of_q QX7_countDoubled_0 7 rfl
theorem dX7_countDoubled_11 : decode cX7_countDoubled 11 = .ok (.iload_n 2, 1) := of_q QX7_countDoubled_0 8 rfl
theorem dX7_countDoubled_12 : decode cX7_countDoubled 12 = .ok (.invokevirtual 21, 3) := of_q QX7_countDoubled_0 9 rfl
theorem dX7_countDoubled_15 : decode cX7_countDoubled 15 = .ok (.ifCond .eq 6, 3) := of_q QX7_countDoubled_0 10 rfl
theorem dX7_countDoubled_18 : decode cX7_countDoubled 18 = .ok (.iinc 1 1, 3) := of_q QX7_countDoubled_0 11 rfl
theorem dX7_countDoubled_21 : decode cX7_countDoubled 21 = .ok (.iinc 2 1, 3) := of_q QX7_countDoubled_0 12 rfl
theorem dX7_countDoubled_24 : decode cX7_countDoubled 24 = .ok (.goto (-20), 3) := of_q QX7_countDoubled_0 13 rfl
theorem dX7_countDoubled_27 : decode cX7_countDoubled 27 = .ok (.iload_n 1, 1) := of_q QX7_countDoubled_0 14 rfl
theorem dX7_countDoubled_28 : decode cX7_countDoubled 28 = .ok (.ireturn, 1) := of_q QX7_countDoubled_0 15 rfl
def qX7_isAsOneBefore_0 : List (Nat × Instr × Nat) := [(0, .iconst 0, 1), (1, .istore_n 2, 1), (2, .iload_n 2, 1), (3, .iload_n 1, 1), (4, .if_icmp .ge 20, 3), (7, .aload_n 0, 1), (8, .iload_n 1, 1), (9, .iload_n 2, 1), (10, .invokevirtual 25, 3), (13, .ifCond .eq 5, 3), (16, .iconst 1, 1), (17, .ireturn, 1), (18, .iinc 2 1, 3), (21, .goto (-19), 3), (24, .iconst 0, 1), (25, .ireturn, 1)]
theorem QX7_isAsOneBefore_0 : qX7_isAsOneBefore_0.all (fun q => decide (decode cX7_isAsOneBefore q.1 = .ok q.2)) = true := by decide +kernel
theorem dX7_isAsOneBefore_0 : decode cX7_isAsOneBefore 0 = .ok (.iconst 0, 1) := of_q QX7_isAsOneBefore_0 0 rfl
theorem dX7_isAsOneBefore_1 : decode cX7_isAsOneBefore 1 = .ok (.istore_n 2, 1) := of_q QX7_isAsOneBefore_0 1 rfl
theorem dX7_isAsOneBefore_2 : decode cX7_isAsOneBefore 2 = .ok (.iload_n 2, 1) := of_q QX7_isAsOneBefore_0 2 rfl
theorem dX7_isAsOneBefore_3 : decode cX7_isAsOneBefore 3 = .ok (.iload_n 1, 1) := of_q QX7_isAsOneBefore_0 3 rfl
theorem dX7_isAsOneBefore_4 : decode cX7_isAsOneBefore 4 = .ok (.if_icmp .ge 20, 3) := of_q QX7_isAsOneBefore_0 4 rfl
theorem dX7_isAsOneBefore_7 : decode cX7_isAsOneBefore 7 = .ok (.aload_n 0, 1) := of_q QX7_isAsOneBefore_0 5 rfl
theorem dX7_isAsOneBefore_8 : decode cX7_isAsOneBefore 8 = .ok (.iload_n 1, 1) := of_q QX7_isAsOneBefore_0 6 rfl
theorem dX7_isAsOneBefore_9 : decode cX7_isAsOneBefore 9 = .ok (.iload_n 2, 1) := of_q QX7_isAsOneBefore_0 7 rfl
theorem dX7_isAsOneBefore_10 : decode cX7_isAsOneBefore 10 = .ok (.invokevirtual 25, 3) := of_q QX7_isAsOneBefore_0 8 rfl
theorem dX7_isAsOneBefore_13 : decode cX7_isAsOneBefore 13 = .ok (.ifCond .eq 5, 3) := of_q QX7_isAsOneBefore_0 9 rfl
theorem dX7_isAsOneBefore_16 : decode cX7_isAsOneBefore 16 = .ok (.iconst 1, 1) := of_q QX7_isAsOneBefore_0 10 rfl
theorem dX7_isAsOneBefore_17 : decode cX7_isAsOneBefore 17 = .ok (.ireturn, 1) := of_q QX7_isAsOneBefore_0 11 rfl
theorem dX7_isAsOneBefore_18 : decode cX7_isAsOneBefore 18 = .ok (.iinc 2 1, 3) := of_q QX7_isAsOneBefore_0 12 rfl
theorem dX7_isAsOneBefore_21 : decode cX7_isAsOneBefore 21 = .ok (.goto (-19), 3) := of_q QX7_isAsOneBefore_0 13 rfl
theorem dX7_isAsOneBefore_24 : decode cX7_isAsOneBefore 24 = .ok (.iconst 0, 1) := of_q QX7_isAsOneBefore_0 14 rfl
theorem dX7_isAsOneBefore_25 : decode cX7_isAsOneBefore 25 = .ok (.ireturn, 1) := of_q QX7_isAsOneBefore_0 15 rfl
def qX7_isSame_0 : List (Nat × Instr × Nat) := [(0, .iconst 0, 1), (1, .istore_n 3, 1), (2, .iload_n 3, 1), (3, .bipush 12, 2), (5, .if_icmp .ge 40, 3), (8, .aload_n 0, 1), (9, .iload_n 1, 1), (10, .bipush 12, 2), (12, .idiv, 1), (13, .iload_n 1, 1), (14, .bipush 12, 2), (16, .irem, 1), (17, .iload_n 3, 1), (18, .invokevirtual 29, 3), (21, .aload_n 0, 1), (22, .iload_n 2, 1), (23, .bipush 12, 2), (25, .idiv, 1), (26, .iload_n 2, 1), (27, .bipush 12, 2), (29, .irem, 1), (30, .iload_n 3, 1), (31, .invokevirtual 29, 3), (34, .if_icmp .eq 5, 3), (37, .iconst 0, 1), (38, .ireturn, 1), (39, .iinc 3 1, 3), (42, .goto (-40), 3), (45, .iconst 1, 1), (46, .ireturn, 1)]
theorem QX7_isSame_0 : qX7_isSame_0.all (fun q => decide (decode cX7_isSame q.1 = .ok q.2)) = true := by decide +kernel
theorem dX7_isSame_0 : decode cX7_isSame 0 = .ok (.iconst 0, 1) := of_q QX7_isSame_0 0 rfl
theorem dX7_isSame_1 : decode cX7_isSame 1 = .ok (.istore_n 3, 1) := of_q QX7_isSame_0 1 rfl
theorem dX7_isSame_2 : decode cX7_isSame 2 = .ok (.iload_n 3, 1) := of_q QX7_isSame_0 2 rfl
theorem dX7_isSame_3 : decode cX7_isSame 3 = .ok (.bipush 12, 2) := of_q QX7_isSame_0 3 rfl
theorem dX7_isSame_5 : decode cX7_isSame 5 = .ok (.if_icmp .ge 40, 3) := of_q QX7_isSame_0 4 rfl
theorem dX7_isSame_8 : decode cX7_isSame 8 = .ok (.aload_n 0, 1) := of_q QX7_isSame_0 5 rfl
theorem dX7_isSame_9 : decode cX7_isSame 9 = .ok (.iload_n 1, 1) := of_q QX7_isSame_0 6 rfl
theorem dX7_isSame_10 : decode cX7_isSame 10 = .ok (.bipush 12, 2) := of_q QX7_isSame_0 7 rfl
theorem dX7_isSame_12 : decode cX7_isSame 12 = .ok (.idiv, 1) := of_q QX7_isSame_0 8 rfl
theorem dX7_isSame_13 : decode cX7_isSame 13 = .ok (.iload_n 1, 1) := of_q QX7_isSame_0 9 rfl
theorem dX7_isSame_14 : decode cX7_isSame 14 = .ok (.bipush 12, 2) := of_q QX7_isSame_0 10 rfl
theorem dX7_isSame_16 : decode cX7_isSame 16 = .ok (.irem, 1) := of_q QX7_isSame_0 11 rfl
theorem dX7_isSame_17 : decode cX7_isSame 17 = .ok (.iload_n 3, 1) := of_q QX7_isSame_0 12 rfl
theorem dX7_isSame_18 : decode cX7_isSame 18 = .ok (.invokevirtual 29, 3) := of_q QX7_isSame_0 13 rfl
theorem dX7_isSame_21 : decode cX7_isSame 21 = .ok (.aload_n 0, 1) := of_q QX7_isSame_0 14 rfl
theorem dX7_isSame_22 : decode cX7_isSame 22 = .ok (.iload_n 2, 1) := of_q QX7_isSame_0 15 rfl
theorem dX7_isSame_23 : decode cX7_isSame 23 = .ok (.bipush 12, 2) := of_q QX7_isSame_0 16 rfl
theorem dX7_isSame_25 : decode cX7_isSame 25 = .ok (.idiv, 1) := of_q QX7_isSame_0 17 rfl
theorem dX7_isSame_26 : decode cX7_isSame 26 = .ok (.iload_n 2, 1) := of_q QX7_isSame_0 18 rfl
theorem dX7_isSame_27 : decode cX7_isSame 27 = .ok (.bipush 12, 2) := of_q QX7_isSame_0 19 rfl
theorem dX7_isSame_29 : decode cX7_isSame 29 = .ok (.irem, 1) := of_q QX7_isSame_0 20 rfl
theorem dX7_isSame_30 : decode cX7_isSame 30 = .ok (.iload_n 3, 1) := of_q QX7_isSame_0 21 rfl
theorem dX7_isSame_31 : decode cX7_isSame 31 = .ok (.invokevirtual 29, 3) := of_q QX7_isSame_0 22 rfl
theorem dX7_isSame_34 : decode cX7_isSame 34 = .ok (.if_icmp .eq 5, 3) := of_q QX7_isSame_0 23 rfl
theorem dX7_isSame_37 : decode cX7_isSame 37 = .ok (.iconst 0, 1) := of_q QX7_isSame_0 24 rfl
theorem dX7_isSame_38 : decode cX7_isSame 38 = .ok (.ireturn, 1) := of_q QX7_isSame_0 25 rfl
theorem dX7_isSame_39 : decode cX7_isSame 39 = .ok (.iinc 3 1, 3) := of_q QX7_isSame_0 26 rfl
theorem dX7_isSame_42 : decode cX7_isSame 42 = .ok (.goto (-40), 3) := of_q QX7_isSame_0 27 rfl
theorem dX7_isSame_45 : decode cX7_isSame 45 = .ok (.iconst 1, 1) := of_q QX7_isSame_0 28 rfl
theorem dX7_isSame_46 : decode cX7_isSame 46 = .ok (.ireturn, 1) := of_q QX7_isSame_0 29 rfl
def qX8_init_0 : List (Nat × Instr × Nat) := [(0, .aload_n 0, 1), (1, .invokespecial 3, 3), (4, .aload_n 0, 1), (5, .sipush 256, 3), (8, .newarray .int, 2), (10, .putfield 9, 3), (13, .aload_n 0, 1), (14, .sipush 256, 3), (17, .newarray .int, 2), (19, .putfield 15, 3), (22, .aload_n 0, 1), (23, .sipush 256, 3), (26, .newarray .int, 2), (28, .putfield 18, 3), (31, .aload_n 0, 1), (32, .sipush 256, 3), (35, .newarray .int, 2), (37, .putfield 21, 3), (40, .aload_n 0, 1), (41, .sipush 256, 3), (44, .newarray .int, 2), (46, .putfield 24, 3), (49, .aload_n 0, 1), (50, .sipush 256, 3), (53, .newarray .int, 2), (55, .putfield 27, 3), (58, .aload_n 0, 1), (59, .iconst 0, 1), (60, .putfield 30, 3), (63, .return_, 1)]
theorem QX8_init_0 : qX8_init_0.all (fun q => decide (decode cX8_init q.1 = .ok q.2)) = true := by decide +kernel
theorem dX8_init_0 : decode cX8_init 0 = .ok (.aload_n 0, 1) := of_q QX8_init_0 0 rfl
theorem dX8_init_1 : decode cX8_init 1 = .ok (.invokespecial 3, 3) := of_q QX8_init_0 1 rfl
theorem dX8_init_4 : decode cX8_init 4 = .ok (.aload_n 0, 1) := of_q QX8_init_0 2 rfl
theorem dX8_init_5 : decode cX8_init 5 = .ok (.sipush 256, 3) := of_q QX8_init_0 3 rfl
theorem dX8_init_8 : decode cX8_init 8 = .ok (.newarray .int, 2) := of_q QX8_init_0 4 rfl
theorem dX8_init_10 : decode cX8_init 10 = .ok (.putfield 9, 3) := of_q QX8_init_0 5 rfl
theorem dX8_init_13 : decode cX8_init 13 = .ok (.aload_n 0, 1) := of_q QX8_init_0 6 rfl
theorem dX8_init_14 : decode cX8_init 14 = .ok (.sipush 256, 3) := of_q QX8_init_0 7 rfl
theorem dX8_init_17 : decode cX8_init 17 = .ok (.newarray .int, 2) := of_q QX8_init_0 8 rfl
theorem dX8_init_19 : decode cX8_init 19 = .ok (.putfield 15, 3) := of_q QX8_init_0 9 rfl
theorem dX8_init_22 : decode cX8_init 22 = .ok (.aload_n 0, 1) := of_q QX8_init_0 10 rfl
theorem dX8_init_23 : decode cX8_init 23 = .ok (.sipush 256, 3) := of_q QX8_init_0 11 rfl
theorem dX8_init_26 : decode cX8_init 26 = .ok (.newarray .int, 2) := of_q QX8_init_0 12 rfl
theorem dX8_init_28 : decode cX8_init 28 = .ok (.putfield 18, 3) := of_q QX8_init_0 13 rfl
theorem dX8_init_31 : decode cX8_init 31 = .ok (.aload_n 0, 1) := of_q QX8_init_0 14 rfl
theorem dX8_init_32 : decode cX8_init 32 = .ok (.sipush 256, 3) := of_q QX8_init_0 15 rfl
theorem dX8_init_35 : decode cX8_init 35 = .ok (.newarray .int, 2) := of_q QX8_init_0 16 rfl
theorem dX8_init_37 : decode cX8_init 37 = .ok (.putfield 21, 3) := of_q QX8_init_0 17 rfl
theorem dX8_init_40 : decode cX8_init 40 = .ok (.aload_n 0, 1) := of_q QX8_init_0 18 rfl
theorem dX8_init_41 : decode cX8_init 41 = .ok (.sipush 256, 3) := of_q QX8_init_0 19 rfl
theorem dX8_init_44 : decode cX8_init 44 = .ok (.newarray .int, 2) := of_q QX8_init_0 20 rfl
theorem dX8_init_46 : decode cX8_init 46 = .ok (.putfield 24, 3) := of_q QX8_init_0 21 rfl
theorem dX8_init_49 : decode cX8_init 49 = .ok (.aload_n 0, 1) := of_q QX8_init_0 22 rfl
theorem dX8_init_50 : decode cX8_init 50 = .ok (.sipush 256, 3) := of_q QX8_init_0 23 rfl
theorem dX8_init_53 : decode cX8_init 53 = .ok (.newarray .int, 2) := of_q QX8_init_0 24 rfl
theorem dX8_init_55 : decode cX8_init 55 = .ok (.putfield 27, 3) := of_q QX8_init_0 25 rfl
theorem dX8_init_58 : decode cX8_init 58 = .ok (.aload_n 0, 1) := of_q QX8_init_0 26 rfl
theorem dX8_init_59 : decode cX8_init 59 = .ok (.iconst 0, 1) := of_q QX8_init_0 27 rfl
theorem dX8_init_60 : decode cX8_init 60 = .ok (.putfield 30, 3) := of_q QX8_init_0 28 rfl
theorem dX8_init_63 : decode cX8_init 63 = .ok (.return_, 1) := of_q QX8_init_0 29 rfl
def qX8_pitchOf_0 : List (Nat × Instr × Nat) := [(0, .iload_n 0, 1), (1, .iconst 0, 1), (2, .bipush 6, 2), (4, .invokestatic 34, 3), (7, .ifCond .eq 16, 3), (10, .getstatic 38, 3), (13, .iload_n 0, 1), (14, .iaload, 1), (15, .bipush 12, 2), (17, .iload_n 1, 1), (18, .imul, 1), (19, .iadd, 1), (20, .goto 4, 3), (23, .iconst (-1), 1), (24, .ireturn, 1)]
theorem QX8_pitchOf_0 : qX8_pitchOf_0.all (fun q => decide (decode cX8_pitchOf q.1 = .ok q.2)) = true := by decide +kernel
theorem dX8_pitchOf_0 : decode cX8_pitchOf 0 = .ok (.iload_n 0, 1) := of_q QX8_pitchOf_0 0 rfl
theorem dX8_pitchOf_1 : decode cX8_pitchOf 1 = .ok (.iconst 0, 1) := of_q QX8_pitchOf_0 1 rfl
theorem dX8_pitchOf_2 : decode cX8_pitchOf 2 = .ok (.bipush 6, 2) := of_q QX8_pitchOf_0 2 rfl
theorem dX8_pitchOf_4 : decode cX8_pitchOf 4 = .ok (.invokestatic 34, 3) := of_q QX8_pitchOf_0 3 rfl
theorem dX8_pitchOf_7 : decode cX8_pitchOf 7 = .ok (.ifCond .eq 16, 3) := of_q QX8_pitchOf_0 4 rfl
theorem dX8_pitchOf_10 : decode cX8_pitchOf 10 = .ok (.getstatic 38, 3) := of_q QX8_pitchOf_0 5 rfl
theorem dX8_pitchOf_13 : decode cX8_pitchOf 13 = .ok (.iload_n 0, 1) := of_q QX8_pitchOf_0 6 rfl
theorem dX8_pitchOf_14 : decode cX8_pitchOf 14 = .ok (.iaload, 1) := of_q QX8_pitchOf_0 7 rfl
theorem dX8_pitchOf_15 : decode cX8_pitchOf 15 = .ok (.bipush 12, 2) := of_q QX8_pitchOf_0 8 rfl
theorem dX8_pitchOf_17 : decode cX8_pitchOf 17 = .ok (.iload_n 1, 1) := of_q QX8_pitchOf_0 9 rfl
theorem dX8_pitchOf_18 : decode cX8_pitchOf 18 = .ok (.imul, 1) := of_q QX8_pitchOf_0 10 rfl
theorem dX8_pitchOf_19 : decode cX8_pitchOf 19 = .ok (.iadd, 1) := of_q QX8_pitchOf_0 11 rfl
theorem dX8_pitchOf_20 : decode cX8_pitchOf 20 = .ok (.goto 4, 3) := of_q QX8_pitchOf_0 12 rfl
theorem dX8_pitchOf_23 : decode cX8_pitchOf 23 = .ok (.iconst (-1), 1) := of_q QX8_pitchOf_0 13 rfl
theorem dX8_pitchOf_24 : decode cX8_pitchOf 24 = .ok (.ireturn, 1) := of_q QX8_pitchOf_0 14 rfl
def qX8_shorten_0 : List (Nat × Instr × Nat) := [(0, .iload_n 1, 1), (1, .iconst 0, 1), (2, .aload_n 0, 1), (3, .getfield 30, 3), (6, .invokestatic 34, 3), (9, .ifCond .eq 8, 3), (12, .aload_n 0, 1), (13, .iload_n 1, 1), (14, .putfield 30, 3), (17, .return_, 1)]
theorem QX8_shorten_0 : qX8_shorten_0.all (fun q => decide (decode cX8_shorten q.1 = .ok q.2)) = true := by decide +kernel
theorem dX8_shorten_0 : decode cX8_shorten 0 = .ok (.iload_n 1, 1) := of_q QX8_shorten_0 0 rfl
theorem dX8_shorten_1 : decode cX8_shorten 1 = .ok (.iconst 0, 1) := of_q QX8_shorten_0 1 rfl
theorem dX8_shorten_2 : decode cX8_shorten 2 = .ok (.aload_n 0, 1) := of_q QX8_shorten_0 2 rfl
theorem dX8_shorten_3 : decode cX8_shorten 3 = .ok (.getfield 30, 3) := of_q QX8_shorten_0 3 rfl
theorem dX8_shorten_6 : decode cX8_shorten 6 = .ok (.invokestatic 34, 3) := of_q QX8_shorten_0 4 rfl
theorem dX8_shorten_9 : decode cX8_shorten 9 = .ok (.ifCond .eq 8, 3) := of_q QX8_shorten_0 5 rfl
theorem dX8_shorten_12 : decode cX8_shorten 12 = .ok (.aload_n 0, 1) := of_q QX8_shorten_0 6 rfl
theorem dX8_shorten_13 : decode cX8_shorten 13 = .ok (.iload_n 1, 1) := of_q QX8_shorten_0 7 rfl
theorem dX8_shorten_14 : decode cX8_shorten 14 = .ok (.putfield 30, 3) := of_q QX8_shorten_0 8 rfl
theorem dX8_shorten_17 : decode cX8_shorten 17 = .ok (.return_, 1) := of_q QX8_shorten_0 9 rfl
def qX8_time_0 : List (Nat × Instr × Nat) := [(0, .aload_n 0, 1), (1, .getfield 30, 3), (4, .ifCond .ne 7, 3), (7, .iconst 0, 1), (8, .goto 26, 3), (11, .aload_n 0, 1), (12, .getfield 18, 3), (15, .aload_n 0, 1), (16, .getfield 30, 3), (19, .iconst 1, 1), (20, .isub, 1), (21, .iaload, 1), (22, .aload_n 0, 1), (23, .getfield 15, 3), (26, .aload_n 0, 1), (27, .getfield 30, 3), (30, .iconst 1, 1), (31, .isub, 1), (32, .iaload, 1), (33, .iadd, 1), (34, .ireturn, 1)]
theorem QX8_time_0 : qX8_time_0.all (fun q => decide (decode cX8_time q.1 = .ok q.2)) = true := by decide +kernel
theorem dX8_time_0 : decode cX8_time 0 = .ok (.aload_n 0, 1) := of_q QX8_time_0 0 rfl
theorem dX8_time_1 : decode cX8_time 1 = .ok (.getfield 30, 3) := of_q QX8_time_0 1 rfl
theorem dX8_time_4 : decode cX8_time 4 = .ok (.ifCond .ne 7, 3) := of_q QX8_time_0 2 rfl
theorem dX8_time_7 : decode cX8_time 7 = .ok (.iconst 0, 1) := of_q QX8_time_0 3 rfl
theorem dX8_time_8 : decode cX8_time 8 = .ok (.goto 26, 3) := of_q QX8_time_0 4 rfl
theorem dX8_time_11 : decode cX8_time 11 = .ok (.aload_n 0, 1) := of_q QX8_time_0 5 rfl
theorem dX8_time_12 : decode cX8_time 12 = .ok (.getfield 18, 3) := of_q QX8_time_0 6 rfl
theorem dX8_time_15 : decode cX8_time 15 = .ok (.aload_n 0, 1) := of_q QX8_time_0 7 rfl
theorem dX8_time_16 : decode cX8_time 16 = .ok (.getfield 30, 3) := of_q QX8_time_0 8 rfl
theorem dX8_time_19 : decode cX8_time 19 = .ok (.iconst 1, 1) := of_q QX8_time_0 9 rfl
theorem dX8_time_20 : decode cX8_time 20 = .ok (.isub, 1) := of_q QX8_time_0 10 rfl
theorem dX8_time_21 : decode cX8_time 21 = .ok (.iaload, 1) := of_q QX8_time_0 11 rfl
theorem dX8_time_22 : decode cX8_time 22 = .ok (.aload_n 0, 1) := of_q QX8_time_0 12 rfl
theorem dX8_time_23 : decode cX8_time 23 = .ok (.getfield 15, 3) := of_q QX8_time_0 13 rfl
theorem dX8_time_26 : decode cX8_time 26 = .ok (.aload_n 0, 1) := of_q QX8_time_0 14 rfl
theorem dX8_time_27 : decode cX8_time 27 = .ok (.getfield 30, 3) := of_q QX8_time_0 15 rfl
theorem dX8_time_30 : decode cX8_time 30 = .ok (.iconst 1, 1) := of_q QX8_time_0 16 rfl
theorem dX8_time_31 : decode cX8_time 31 = .ok (.isub, 1) := of_q QX8_time_0 17 rfl
theorem dX8_time_32 : decode cX8_time 32 = .ok (.iaload, 1) := of_q QX8_time_0 18 rfl
theorem dX8_time_33 : decode cX8_time 33 = .ok (.iadd, 1) := of_q QX8_time_0 19 rfl
theorem dX8_time_34 : decode cX8_time 34 = .ok (.ireturn, 1) := of_q QX8_time_0 20 rfl
