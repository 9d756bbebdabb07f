theorem dX10_cut_28 : decode cX10_cut 28 = .ok (.ireturn, 1) := by decide +kernel
theorem dX10_peek_0 : decode cX10_peek 0 = .ok (.iload_n 1, 1) := by decide +kernel
theorem dX10_peek_1 : decode cX10_peek 1 = .ok (.aload_n 0, 1) := by decide +kernel
theorem dX10_peek_2 : decode cX10_peek 2 = .ok (.getfield 120, 3) := by decide +kernel
theorem dX10_peek_5 : decode cX10_peek 5 = .ok (.if_icmp .ge 12, 3) := by decide +kernel
theorem dX10_peek_8 : decode cX10_peek 8 = .ok (.aload_n 0, 1) := by decide +kernel
theorem dX10_peek_9 : decode cX10_peek 9 = .ok (.getfield 13, 3) := by decide +kernel
theorem dX10_peek_12 : decode cX10_peek 12 = .ok (.iload_n 1, 1) := by decide +kernel
theorem dX10_peek_13 : decode cX10_peek 13 = .ok (.iaload, 1) := by decide +kernel
theorem dX10_peek_14 : decode cX10_peek 14 = .ok (.goto 4, 3) := by decide +kernel
theorem dX10_peek_17 : decode cX10_peek 17 = .ok (.iconst (-1), 1) := by decide +kernel
theorem dX10_peek_18 : decode cX10_peek 18 = .ok (.ireturn, 1) := by decide +kernel
theorem dX10_fail_0 : decode cX10_fail 0 = .ok (.aload_n 0, 1) := by decide +kernel
theorem dX10_fail_1 : decode cX10_fail 1 = .ok (.aload_n 0, 1) := by decide +kernel
theorem dX10_fail_2 : decode cX10_fail 2 = .ok (.getfield 124, 3) := by decide +kernel
theorem dX10_fail_5 : decode cX10_fail 5 = .ok (.ifCond .ge 7, 3) := by decide +kernel
theorem dX10_fail_8 : decode cX10_fail 8 = .ok (.iload_n 1, 1) := by decide +kernel
theorem dX10_fail_9 : decode cX10_fail 9 = .ok (.goto 7, 3) := by decide +kernel
theorem dX10_fail_12 : decode cX10_fail 12 = .ok (.aload_n 0, 1) := by decide +kernel
theorem dX10_fail_13 : decode cX10_fail 13 = .ok (.getfield 124, 3) := by decide +kernel
theorem dX10_fail_16 : decode cX10_fail 16 = .ok (.putfield 124, 3) := by decide +kernel
theorem dX10_fail_19 : decode cX10_fail 19 = .ok (.return_, 1) := by decide +kernel
set_option maxRecDepth 20000 in
theorem ggX10_blanks_X10_peek : GoodIn wsX10_blanks wsX10_peek := goodIn_r _ [5, 6, 7, 8, 9, 10, 11, 12, 13, 14, 15, 16, 17, 18, 19, 20, 21, 22, 23, 24, 25, 26, 27, 28, 29, 30, 31, 32, 33, 34, 35, 36, 37, 38, 39, 40, 41, 42, 43, 44, 45, 46, 47, 48, 49, 50, 51, 52, 53, 54, 55, 56, 57, 58, 59, 60] (by decide +kernel) (by decide +kernel)
set_option maxRecDepth 20000 in
theorem gX10_blanks_X10_peek : GoodIn wsX10_blanks (wsV RX10 127 RX10 yX10_peek wsX10_peek) := goodIn_app (goodIn_of _ (by decide +kernel)) ggX10_blanks_X10_peek
theorem dX10_blanks_0 : decode cX10_blanks 0 = .ok (.iload_n 1, 1) := by decide +kernel
theorem dX10_blanks_1 : decode cX10_blanks 1 = .ok (.istore_n 2, 1) := by decide +kernel
theorem dX10_blanks_2 : decode cX10_blanks 2 = .ok (.aload_n 0, 1) := by decide +kernel
theorem dX10_blanks_3 : decode cX10_blanks 3 = .ok (.iload_n 2, 1) := by decide +kernel
theorem dX10_blanks_4 : decode cX10_blanks 4 = .ok (.invokevirtual 127, 3) := by decide +kernel
theorem dX10_blanks_7 : decode cX10_blanks 7 = .ok (.bipush 32, 2) := by decide +kernel
theorem dX10_blanks_9 : decode cX10_blanks 9 = .ok (.if_icmp .eq 13, 3) := by decide +kernel
theorem dX10_blanks_12 : decode cX10_blanks 12 = .ok (.aload_n 0, 1) := by decide +kernel
theorem dX10_blanks_13 : decode cX10_blanks 13 = .ok (.iload_n 2, 1) := by decide +kernel
theorem dX10_blanks_14 : decode cX10_blanks 14 = .ok (.invokevirtual 127, 3) := by decide +kernel
theorem dX10_blanks_17 : decode cX10_blanks 17 = .ok (.bipush 10, 2) := by decide +kernel
theorem dX10_blanks_19 : decode cX10_blanks 19 = .ok (.if_icmp .ne 9, 3) := by decide +kernel
theorem dX10_blanks_22 : decode cX10_blanks 22 = .ok (.iinc 2 1, 3) := by decide +kernel
theorem dX10_blanks_25 : decode cX10_blanks 25 = .ok (.goto (-23), 3) := by decide +kernel
theorem dX10_blanks_28 : decode cX10_blanks 28 = .ok (.iload_n 2, 1) := by decide +kernel
theorem dX10_blanks_29 : decode cX10_blanks 29 = .ok (.ireturn, 1) := by decide +kernel
theorem dX10_isDigit_0 : decode cX10_isDigit 0 = .ok (.iload_n 0, 1) := by decide +kernel
theorem dX10_isDigit_1 : decode cX10_isDigit 1 = .ok (.bipush 48, 2) := by decide +kernel
theorem dX10_isDigit_3 : decode cX10_isDigit 3 = .ok (.if_icmp .lt 13, 3) := by decide +kernel
theorem dX10_isDigit_6 : decode cX10_isDigit 6 = .ok (.iload_n 0, 1) := by decide +kernel
theorem dX10_isDigit_7 : decode cX10_isDigit 7 = .ok (.bipush 57, 2) := by decide +kernel
theorem dX10_isDigit_9 : decode cX10_isDigit 9 = .ok (.if_icmp .gt 7, 3) := by decide +kernel
theorem dX10_isDigit_12 : decode cX10_isDigit 12 = .ok (.iconst 1, 1) := by decide +kernel
theorem dX10_isDigit_13 : decode cX10_isDigit 13 = .ok (.goto 4, 3) := by decide +kernel
theorem dX10_isDigit_16 : decode cX10_isDigit 16 = .ok (.iconst 0, 1) := by decide +kernel
theorem dX10_isDigit_17 : decode cX10_isDigit 17 = .ok (.ireturn, 1) := by decide +kernel
theorem dX10_isLetter_0 : decode cX10_isLetter 0 = .ok (.iload_n 0, 1) := by decide +kernel
theorem dX10_isLetter_1 : decode cX10_isLetter 1 = .ok (.bipush 65, 2) := by decide +kernel
theorem dX10_isLetter_3 : decode cX10_isLetter 3 = .ok (.if_icmp .lt 13, 3) := by decide +kernel
theorem dX10_isLetter_6 : decode cX10_isLetter 6 = .ok (.iload_n 0, 1) := by decide +kernel
theorem dX10_isLetter_7 : decode cX10_isLetter 7 = .ok (.bipush 90, 2) := by decide +kernel
theorem dX10_isLetter_9 : decode cX10_isLetter 9 = .ok (.if_icmp .gt 7, 3) := by decide +kernel
theorem dX10_isLetter_12 : decode cX10_isLetter 12 = .ok (.iconst 1, 1) := by decide +kernel
theorem dX10_isLetter_13 : decode cX10_isLetter 13 = .ok (.goto 4, 3) := by decide +kernel
theorem dX10_isLetter_16 : decode cX10_isLetter 16 = .ok (.iconst 0, 1) := by decide +kernel
theorem dX10_isLetter_17 : decode cX10_isLetter 17 = .ok (.ireturn, 1) := by decide +kernel
set_option maxRecDepth 20000 in
theorem ggX10_read_X10_readRule : GoodIn wsX10_read wsX10_readRule := goodIn_r _ [21, 2, 6, 3, 16, 10, 4, 1, 22, 23, 24, 20, 25, 26, 27, 28, 29, 30, 31, 32, 33, 34, 35, 36, 37, 38, 39, 40, 41, 42, 11, 12, 5, 13, 43, 44, 45, 46, 47, 48, 49, 50, 51, 52, 53, 9, 14, 15, 7, 8, 54, 55, 56, 57, 58, 59, 60, 61, 62, 63, 64, 65, 66, 67, 68, 69, 70, 71, 72, 73, 74, 75, 76, 77, 78, 79, 80, 81, 82, 83, 84, 85, 86, 87, 88, 89, 90, 91, 92, 93, 94, 95, 96, 97, 98, 99, 100, 101, 102, 103, 104, 105, 106, 107, 108, 109, 110] (by decide +kernel) (by decide +kernel)
set_option maxRecDepth 20000 in
theorem gX10_read_X10_readRule : GoodIn wsX10_read (wsV RX10 134 RX10 yX10_readRule wsX10_readRule) := goodIn_app (goodIn_of _ (by decide +kernel)) ggX10_read_X10_readRule
set_option maxRecDepth 20000 in
theorem ggX10_read_X10_fail : GoodIn wsX10_read wsX10_fail := goodIn_r _ [38, 1, 58, 59, 60, 61, 62, 63, 64, 65, 66, 67, 68, 69, 70, 71, 72, 73, 74, 75, 76, 77, 78, 79, 80, 81, 82, 83, 84, 85, 86, 87, 88, 89, 90, 91, 92, 93, 94, 95, 96, 97, 98, 99, 100, 101, 102, 103, 104, 105, 106, 107, 108, 109, 110] (by decide +kernel) (by decide +kernel)
set_option maxRecDepth 20000 in
theorem gX10_read_X10_fail : GoodIn wsX10_read (wsV RX10 138 RX10 yX10_fail wsX10_fail) := goodIn_app (goodIn_of _ (by decide +kernel)) ggX10_read_X10_fail
theorem dX10_read_0 : decode cX10_read 0 = .ok (.aload_n 0, 1) := by decide +kernel
theorem dX10_read_1 : decode cX10_read 1 = .ok (.iconst (-1), 1) := by decide +kernel
theorem dX10_read_2 : decode cX10_read 2 = .ok (.putfield 124, 3) := by decide +kernel
theorem dX10_read_5 : decode cX10_read 5 = .ok (.aload_n 0, 1) := by decide +kernel
theorem dX10_read_6 : decode cX10_read 6 = .ok (.iconst 0, 1) := by decide +kernel
theorem dX10_read_7 : decode cX10_read 7 = .ok (.putfield 131, 3) := by decide +kernel
theorem dX10_read_10 : decode cX10_read 10 = .ok (.aload_n 0, 1) := by decide +kernel
theorem dX10_read_11 : decode cX10_read 11 = .ok (.getfield 46, 3) := by decide +kernel
theorem dX10_read_14 : decode cX10_read 14 = .ok (.iconst 1, 1) := by decide +kernel
theorem dX10_read_15 : decode cX10_read 15 = .ok (.iconst 0, 1) := by decide +kernel
theorem dX10_read_16 : decode cX10_read 16 = .ok (.iastore, 1) := by decide +kernel
theorem dX10_read_17 : decode cX10_read 17 = .ok (.aload_n 0, 1) := by decide +kernel
theorem dX10_read_18 : decode cX10_read 18 = .ok (.getfield 49, 3) := by decide +kernel
theorem dX10_read_21 : decode cX10_read 21 = .ok (.iconst 1, 1) := by decide +kernel
theorem dX10_read_22 : decode cX10_read 22 = .ok (.iconst 0, 1) := by decide +kernel
theorem dX10_read_23 : decode cX10_read 23 = .ok (.iastore, 1) := by decide +kernel
theorem dX10_read_24 : decode cX10_read 24 = .ok (.aload_n 0, 1) := by decide +kernel
theorem dX10_read_25 : decode cX10_read 25 = .ok (.getfield 52, 3) := by decide +kernel
theorem dX10_read_28 : decode cX10_read 28 = .ok (.iconst 1, 1) := by decide +kernel
theorem dX10_read_29 : decode cX10_read 29 = .ok (.iconst 0, 1) := by decide +kernel
theorem dX10_read_30 : decode cX10_read 30 = .ok (.iastore, 1) := by decide +kernel
theorem dX10_read_31 : decode cX10_read 31 = .ok (.bipush 26, 2) := by decide +kernel
theorem dX10_read_33 : decode cX10_read 33 = .ok (.istore_n 1, 1) := by decide +kernel
theorem dX10_read_34 : decode cX10_read 34 = .ok (.iload_n 1, 1) := by decide +kernel
theorem dX10_read_35 : decode cX10_read 35 = .ok (.bipush 52, 2) := by decide +kernel
theorem dX10_read_37 : decode cX10_read 37 = .ok (.if_icmp .ge 16, 3) := by decide +kernel
theorem dX10_read_40 : decode cX10_read 40 = .ok (.aload_n 0, 1) := by decide +kernel
theorem dX10_read_41 : decode cX10_read 41 = .ok (.getfield 19, 3) := by decide +kernel
theorem dX10_read_44 : decode cX10_read 44 = .ok (.iload_n 1, 1) := by decide +kernel
theorem dX10_read_45 : decode cX10_read 45 = .ok (.iconst 0, 1) := by decide +kernel
theorem dX10_read_46 : decode cX10_read 46 = .ok (.iastore, 1) := by decide +kernel
theorem dX10_read_47 : decode cX10_read 47 = .ok (.iinc 1 1, 3) := by decide +kernel
theorem dX10_read_50 : decode cX10_read 50 = .ok (.goto (-16), 3) := by decide +kernel
theorem dX10_read_53 : decode cX10_read 53 = .ok (.iconst 1, 1) := by decide +kernel
theorem dX10_read_54 : decode cX10_read 54 = .ok (.istore_n 1, 1) := by decide +kernel
theorem dX10_read_55 : decode cX10_read 55 = .ok (.iload_n 1, 1) := by decide +kernel
theorem dX10_read_56 : decode cX10_read 56 = .ok (.ifCond .eq 18, 3) := by decide +kernel
theorem dX10_read_59 : decode cX10_read 59 = .ok (.aload_n 0, 1) := by decide +kernel
theorem dX10_read_60 : decode cX10_read 60 = .ok (.getfield 124, 3) := by decide +kernel
theorem dX10_read_63 : decode cX10_read 63 = .ok (.ifCond .ge 11, 3) := by decide +kernel
theorem dX10_read_66 : decode cX10_read 66 = .ok (.aload_n 0, 1) := by decide +kernel
theorem dX10_read_67 : decode cX10_read 67 = .ok (.invokevirtual 134, 3) := by decide +kernel
theorem dX10_read_70 : decode cX10_read 70 = .ok (.istore_n 1, 1) := by decide +kernel
theorem dX10_read_71 : decode cX10_read 71 = .ok (.goto (-16), 3) := by decide +kernel
theorem dX10_read_74 : decode cX10_read 74 = .ok (.sipush 241, 3) := by decide +kernel
theorem dX10_read_77 : decode cX10_read 77 = .ok (.istore_n 2, 1) := by decide +kernel
theorem dX10_read_78 : decode cX10_read 78 = .ok (.iload_n 2, 1) := by decide +kernel
theorem dX10_read_79 : decode cX10_read 79 = .ok (.sipush 241, 3) := by decide +kernel
theorem dX10_read_82 : decode cX10_read 82 = .ok (.aload_n 0, 1) := by decide +kernel
theorem dX10_read_83 : decode cX10_read 83 = .ok (.getfield 52, 3) := by decide +kernel
theorem dX10_read_86 : decode cX10_read 86 = .ok (.iconst 1, 1) := by decide +kernel
theorem dX10_read_87 : decode cX10_read 87 = .ok (.iaload, 1) := by decide +kernel
theorem dX10_read_88 : decode cX10_read 88 = .ok (.iadd, 1) := by decide +kernel
theorem dX10_read_89 : decode cX10_read 89 = .ok (.if_icmp .ge 52, 3) := by decide +kernel
theorem dX10_read_92 : decode cX10_read 92 = .ok (.aload_n 0, 1) := by decide +kernel
theorem dX10_read_93 : decode cX10_read 93 = .ok (.getfield 124, 3) := by decide +kernel
theorem dX10_read_96 : decode cX10_read 96 = .ok (.ifCond .ge 45, 3) := by decide +kernel
theorem dX10_read_99 : decode cX10_read 99 = .ok (.aload_n 0, 1) := by decide +kernel
theorem dX10_read_100 : decode cX10_read 100 = .ok (.getfield 31, 3) := by decide +kernel
theorem dX10_read_103 : decode cX10_read 103 = .ok (.iload_n 2, 1) := by decide +kernel
theorem dX10_read_104 : decode cX10_read 104 = .ok (.iaload, 1) := by decide +kernel
theorem dX10_read_105 : decode cX10_read 105 = .ok (.ifCond .ne 30, 3) := by decide +kernel
theorem dX10_read_108 : decode cX10_read 108 = .ok (.aload_n 0, 1) := by decide +kernel
theorem dX10_read_109 : decode cX10_read 109 = .ok (.getfield 19, 3) := by decide +kernel
theorem dX10_read_112 : decode cX10_read 112 = .ok (.bipush 26, 2) := by decide +kernel
theorem dX10_read_114 : decode cX10_read 114 = .ok (.aload_n 0, 1) := by decide +kernel
theorem dX10_read_115 : decode cX10_read 115 = .ok (.getfield 34, 3) := by decide +kernel
theorem dX10_read_118 : decode cX10_read 118 = .ok (.iload_n 2, 1) := by decide +kernel
theorem dX10_read_119 : decode cX10_read 119 = .ok (.iaload, 1) := by decide +kernel
theorem dX10_read_120 : decode cX10_read 120 = .ok (.iadd, 1) := by decide +kernel
theorem dX10_read_121 : decode cX10_read 121 = .ok (.iaload, 1) := by decide +kernel
theorem dX10_read_122 : decode cX10_read 122 = .ok (.ifCond .ne 13, 3) := by decide +kernel
theorem dX10_read_125 : decode cX10_read 125 = .ok (.aload_n 0, 1) := by decide +kernel
theorem dX10_read_126 : decode cX10_read 126 = .ok (.aload_n 0, 1) := by decide +kernel
theorem dX10_read_127 : decode cX10_read 127 = .ok (.getfield 43, 3) := by decide +kernel
theorem dX10_read_130 : decode cX10_read 130 = .ok (.iload_n 2, 1) := by decide +kernel
theorem dX10_read_131 : decode cX10_read 131 = .ok (.iaload, 1) := by decide +kernel
theorem dX10_read_132 : decode cX10_read 132 = .ok (.invokevirtual 138, 3) := by decide +kernel
theorem dX10_read_135 : decode cX10_read 135 = .ok (.iinc 2 1, 3) := by decide +kernel
theorem dX10_read_138 : decode cX10_read 138 = .ok (.goto (-60), 3) := by decide +kernel
theorem dX10_read_141 : decode cX10_read 141 = .ok (.aload_n 0, 1) := by decide +kernel
theorem dX10_read_142 : decode cX10_read 142 = .ok (.getfield 124, 3) := by decide +kernel
theorem dX10_read_145 : decode cX10_read 145 = .ok (.ifCond .lt 11, 3) := by decide +kernel
theorem dX10_read_148 : decode cX10_read 148 = .ok (.bipush (-10), 2) := by decide +kernel
theorem dX10_read_150 : decode cX10_read 150 = .ok (.aload_n 0, 1) := by decide +kernel
theorem dX10_read_151 : decode cX10_read 151 = .ok (.getfield 124, 3) := by decide +kernel
theorem dX10_read_154 : decode cX10_read 154 = .ok (.isub, 1) := by decide +kernel
theorem dX10_read_155 : decode cX10_read 155 = .ok (.ireturn, 1) := by decide +kernel
theorem dX10_read_156 : decode cX10_read 156 = .ok (.iconst 0, 1) := by decide +kernel
theorem dX10_read_157 : decode cX10_read 157 = .ok (.istore_n 2, 1) := by decide +kernel
theorem dX10_read_158 : decode cX10_read 158 = .ok (.iload_n 2, 1) := by decide +kernel
theorem dX10_read_159 : decode cX10_read 159 = .ok (.bipush 26, 2) := by decide +kernel
theorem dX10_read_161 : decode cX10_read 161 = .ok (.if_icmp .ge 39, 3) := by decide +kernel
theorem dX10_read_164 : decode cX10_read 164 = .ok (.aload_n 0, 1) := by decide +kernel
theorem dX10_read_165 : decode cX10_read 165 = .ok (.getfield 16, 3) := by decide +kernel
theorem dX10_read_168 : decode cX10_read 168 = .ok (.iload_n 2, 1) := by decide +kernel
theorem dX10_read_169 : decode cX10_read 169 = .ok (.aload_n 0, 1) := by decide +kernel
theorem dX10_read_170 : decode cX10_read 170 = .ok (.getfield 16, 3) := by decide +kernel
theorem dX10_read_173 : decode cX10_read 173 = .ok (.bipush 26, 2) := by decide +kernel
theorem dX10_read_175 : decode cX10_read 175 = .ok (.iload_n 2, 1) := by decide +kernel
theorem dX10_read_176 : decode cX10_read 176 = .ok (.iadd, 1) := by decide +kernel
theorem dX10_read_177 : decode cX10_read 177 = .ok (.iaload, 1) := by decide +kernel
theorem dX10_read_178 : decode cX10_read 178 = .ok (.iastore, 1) := by decide +kernel
theorem dX10_read_179 : decode cX10_read 179 = .ok (.aload_n 0, 1) := by decide +kernel
theorem dX10_read_180 : decode cX10_read 180 = .ok (.getfield 19, 3) := by decide +kernel
theorem dX10_read_183 : decode cX10_read 183 = .ok (.iload_n 2, 1) := by decide +kernel
theorem dX10_read_184 : decode cX10_read 184 = .ok (.aload_n 0, 1) := by decide +kernel
theorem dX10_read_185 : decode cX10_read 185 = .ok (.getfield 19, 3) := by decide +kernel
theorem dX10_read_188 : decode cX10_read 188 = .ok (.bipush 26, 2) := by decide +kernel
theorem dX10_read_190 : decode cX10_read 190 = .ok (.iload_n 2, 1) := by decide +kernel
theorem dX10_read_191 : decode cX10_read 191 = .ok (.iadd, 1) := by decide +kernel
theorem dX10_read_192 : decode cX10_read 192 = .ok (.iaload, 1) := by decide +kernel
theorem dX10_read_193 : decode cX10_read 193 = .ok (.iastore, 1) := by decide +kernel
theorem dX10_read_194 : decode cX10_read 194 = .ok (.iinc 2 1, 3) := by decide +kernel
theorem dX10_read_197 : decode cX10_read 197 = .ok (.goto (-39), 3) := by decide +kernel
theorem dX10_read_200 : decode cX10_read 200 = .ok (.iconst 0, 1) := by decide +kernel
theorem dX10_read_201 : decode cX10_read 201 = .ok (.istore_n 2, 1) := by decide +kernel
theorem dX10_read_202 : decode cX10_read 202 = .ok (.iload_n 2, 1) := by decide +kernel
theorem dX10_read_203 : decode cX10_read 203 = .ok (.aload_n 0, 1) := by decide +kernel
theorem dX10_read_204 : decode cX10_read 204 = .ok (.getfield 49, 3) := by decide +kernel
theorem dX10_read_207 : decode cX10_read 207 = .ok (.iconst 1, 1) := by decide +kernel
theorem dX10_read_208 : decode cX10_read 208 = .ok (.iaload, 1) := by decide +kernel
theorem dX10_read_209 : decode cX10_read 209 = .ok (.if_icmp .ge 54, 3) := by decide +kernel
theorem dX10_read_212 : decode cX10_read 212 = .ok (.aload_n 0, 1) := by decide +kernel
theorem dX10_read_213 : decode cX10_read 213 = .ok (.getfield 22, 3) := by decide +kernel
theorem dX10_read_216 : decode cX10_read 216 = .ok (.iload_n 2, 1) := by decide +kernel
theorem dX10_read_217 : decode cX10_read 217 = .ok (.aload_n 0, 1) := by decide +kernel
theorem dX10_read_218 : decode cX10_read 218 = .ok (.getfield 22, 3) := by decide +kernel
theorem dX10_read_221 : decode cX10_read 221 = .ok (.bipush 48, 2) := by decide +kernel
theorem dX10_read_223 : decode cX10_read 223 = .ok (.iload_n 2, 1) := by decide +kernel
theorem dX10_read_224 : decode cX10_read 224 = .ok (.iadd, 1) := by decide +kernel
theorem dX10_read_225 : decode cX10_read 225 = .ok (.iaload, 1) := by decide +kernel
theorem dX10_read_226 : decode cX10_read 226 = .ok (.iastore, 1) := by decide +kernel
theorem dX10_read_227 : decode cX10_read 227 = .ok (.aload_n 0, 1) := by decide +kernel
theorem dX10_read_228 : decode cX10_read 228 = .ok (.getfield 25, 3) := by decide +kernel
theorem dX10_read_231 : decode cX10_read 231 = .ok (.iload_n 2, 1) := by decide +kernel
theorem dX10_read_232 : decode cX10_read 232 = .ok (.aload_n 0, 1) := by decide +kernel
theorem dX10_read_233 : decode cX10_read 233 = .ok (.getfield 25, 3) := by decide +kernel
theorem dX10_read_236 : decode cX10_read 236 = .ok (.bipush 48, 2) := by decide +kernel
theorem dX10_read_238 : decode cX10_read 238 = .ok (.iload_n 2, 1) := by decide +kernel
theorem dX10_read_239 : decode cX10_read 239 = .ok (.iadd, 1) := by decide +kernel
theorem dX10_read_240 : decode cX10_read 240 = .ok (.iaload, 1) := by decide +kernel
theorem dX10_read_241 : decode cX10_read 241 = .ok (.iastore, 1) := by decide +kernel
theorem dX10_read_242 : decode cX10_read 242 = .ok (.aload_n 0, 1) := by decide +kernel
theorem dX10_read_243 : decode cX10_read 243 = .ok (.getfield 28, 3) := by decide +kernel
theorem dX10_read_246 : decode cX10_read 246 = .ok (.iload_n 2, 1) := by decide +kernel
theorem dX10_read_247 : decode cX10_read 247 = .ok (.aload_n 0, 1) := by decide +kernel
theorem dX10_read_248 : decode cX10_read 248 = .ok (.getfield 28, 3) := by decide +kernel
theorem dX10_read_251 : decode cX10_read 251 = .ok (.bipush 48, 2) := by decide +kernel
theorem dX10_read_253 : decode cX10_read 253 = .ok (.iload_n 2, 1) := by decide +kernel
theorem dX10_read_254 : decode cX10_read 254 = .ok (.iadd, 1) := by decide +kernel
theorem dX10_read_255 : decode cX10_read 255 = .ok (.iaload, 1) := by decide +kernel
theorem dX10_read_256 : decode cX10_read 256 = .ok (.iastore, 1) := by decide +kernel
theorem dX10_read_257 : decode cX10_read 257 = .ok (.iinc 2 1, 3) := by decide +kernel
theorem dX10_read_260 : decode cX10_read 260 = .ok (.goto (-58), 3) := by decide +kernel
theorem dX10_read_263 : decode cX10_read 263 = .ok (.iconst 0, 1) := by decide +kernel
theorem dX10_read_264 : decode cX10_read 264 = .ok (.istore_n 2, 1) := by decide +kernel
theorem dX10_read_265 : decode cX10_read 265 = .ok (.iload_n 2, 1) := by decide +kernel
theorem dX10_read_266 : decode cX10_read 266 = .ok (.aload_n 0, 1) := by decide +kernel
theorem dX10_read_267 : decode cX10_read 267 = .ok (.getfield 52, 3) := by decide +kernel
theorem dX10_read_270 : decode cX10_read 270 = .ok (.iconst 1, 1) := by decide +kernel
theorem dX10_read_271 : decode cX10_read 271 = .ok (.iaload, 1) := by decide +kernel
theorem dX10_read_272 : decode cX10_read 272 = .ok (.if_icmp .ge 73, 3) := by decide +kernel
theorem dX10_read_275 : decode cX10_read 275 = .ok (.aload_n 0, 1) := by decide +kernel
theorem dX10_read_276 : decode cX10_read 276 = .ok (.getfield 31, 3) := by decide +kernel
theorem dX10_read_279 : decode cX10_read 279 = .ok (.iload_n 2, 1) := by decide +kernel
theorem dX10_read_280 : decode cX10_read 280 = .ok (.aload_n 0, 1) := by decide +kernel
theorem dX10_read_281 : decode cX10_read 281 = .ok (.getfield 31, 3) := by decide +kernel
theorem dX10_read_284 : decode cX10_read 284 = .ok (.sipush 241, 3) := by decide +kernel
theorem dX10_read_287 : decode cX10_read 287 = .ok (.iload_n 2, 1) := by decide +kernel
theorem dX10_read_288 : decode cX10_read 288 = .ok (.iadd, 1) := by decide +kernel
theorem dX10_read_289 : decode cX10_read 289 = .ok (.iaload, 1) := by decide +kernel
theorem dX10_read_290 : decode cX10_read 290 = .ok (.iastore, 1) := by decide +kernel
theorem dX10_read_291 : decode cX10_read 291 = .ok (.aload_n 0, 1) := by decide +kernel
theorem dX10_read_292 : decode cX10_read 292 = .ok (.getfield 34, 3) := by decide +kernel
theorem dX10_read_295 : decode cX10_read 295 = .ok (.iload_n 2, 1) := by decide +kernel
theorem dX10_read_296 : decode cX10_read 296 = .ok (.aload_n 0, 1) := by decide +kernel
theorem dX10_read_297 : decode cX10_read 297 = .ok (.getfield 34, 3) := by decide +kernel
theorem dX10_read_300 : decode cX10_read 300 = .ok (.sipush 241, 3) := by decide +kernel
theorem dX10_read_303 : decode cX10_read 303 = .ok (.iload_n 2, 1) := by decide +kernel
theorem dX10_read_304 : decode cX10_read 304 = .ok (.iadd, 1) := by decide +kernel
theorem dX10_read_305 : decode cX10_read 305 = .ok (.iaload, 1) := by decide +kernel
theorem dX10_read_306 : decode cX10_read 306 = .ok (.iastore, 1) := by decide +kernel
theorem dX10_read_307 : decode cX10_read 307 = .ok (.aload_n 0, 1) := by decide +kernel
theorem dX10_read_308 : decode cX10_read 308 = .ok (.getfield 37, 3) := by decide +kernel
theorem dX10_read_311 : decode cX10_read 311 = .ok (.iload_n 2, 1) := by decide +kernel
theorem dX10_read_312 : decode cX10_read 312 = .ok (.aload_n 0, 1) := by decide +kernel
theorem dX10_read_313 : decode cX10_read 313 = .ok (.getfield 37, 3) := by decide +kernel
theorem dX10_read_316 : decode cX10_read 316 = .ok (.sipush 241, 3) := by decide +kernel
theorem dX10_read_319 : decode cX10_read 319 = .ok (.iload_n 2, 1) := by decide +kernel
theorem dX10_read_320 : decode cX10_read 320 = .ok (.iadd, 1) := by decide +kernel
theorem dX10_read_321 : decode cX10_read 321 = .ok (.iaload, 1) := by decide +kernel
theorem dX10_read_322 : decode cX10_read 322 = .ok (.iastore, 1) := by decide +kernel
theorem dX10_read_323 : decode cX10_read 323 = .ok (.aload_n 0, 1) := by decide +kernel
theorem dX10_read_324 : decode cX10_read 324 = .ok (.getfield 40, 3) := by decide +kernel
theorem dX10_read_327 : decode cX10_read 327 = .ok (.iload_n 2, 1) := by decide +kernel
theorem dX10_read_328 : decode cX10_read 328 = .ok (.aload_n 0, 1) := by decide +kernel
theorem dX10_read_329 : decode cX10_read 329 = .ok (.getfield 40, 3) := by decide +kernel
theorem dX10_read_332 : decode cX10_read 332 = .ok (.sipush 241, 3) := by decide +kernel
theorem dX10_read_335 : decode cX10_read 335 = .ok (.iload_n 2, 1) := by decide +kernel
theorem dX10_read_336 : decode cX10_read 336 = .ok (.iadd, 1) := by decide +kernel
theorem dX10_read_337 : decode cX10_read 337 = .ok (.iaload, 1) := by decide +kernel
theorem dX10_read_338 : decode cX10_read 338 = .ok (.iastore, 1) := by decide +kernel
theorem dX10_read_339 : decode cX10_read 339 = .ok (.iinc 2 1, 3) := by decide +kernel
theorem dX10_read_342 : decode cX10_read 342 = .ok (.goto (-77), 3) := by decide +kernel
theorem dX10_read_345 : decode cX10_read 345 = .ok (.aload_n 0, 1) := by decide +kernel
theorem dX10_read_346 : decode cX10_read 346 = .ok (.getfield 46, 3) := by decide +kernel
theorem dX10_read_349 : decode cX10_read 349 = .ok (.iconst 0, 1) := by decide +kernel
theorem dX10_read_350 : decode cX10_read 350 = .ok (.aload_n 0, 1) := by decide +kernel
theorem dX10_read_351 : decode cX10_read 351 = .ok (.getfield 46, 3) := by decide +kernel
theorem dX10_read_354 : decode cX10_read 354 = .ok (.iconst 1, 1) := by decide +kernel
theorem dX10_read_355 : decode cX10_read 355 = .ok (.iaload, 1) := by decide +kernel
theorem dX10_read_356 : decode cX10_read 356 = .ok (.iastore, 1) := by decide +kernel
theorem dX10_read_357 : decode cX10_read 357 = .ok (.aload_n 0, 1) := by decide +kernel
theorem dX10_read_358 : decode cX10_read 358 = .ok (.getfield 49, 3) := by decide +kernel
theorem dX10_read_361 : decode cX10_read 361 = .ok (.iconst 0, 1) := by decide +kernel
theorem dX10_read_362 : decode cX10_read 362 = .ok (.aload_n 0, 1) := by decide +kernel
theorem dX10_read_363 : decode cX10_read 363 = .ok (.getfield 49, 3) := by decide +kernel
theorem dX10_read_366 : decode cX10_read 366 = .ok (.iconst 1, 1) := by decide +kernel
theorem dX10_read_367 : decode cX10_read 367 = .ok (.iaload, 1) := by decide +kernel
theorem dX10_read_368 : decode cX10_read 368 = .ok (.iastore, 1) := by decide +kernel
theorem dX10_read_369 : decode cX10_read 369 = .ok (.aload_n 0, 1) := by decide +kernel
theorem dX10_read_370 : decode cX10_read 370 = .ok (.getfield 52, 3) := by decide +kernel
theorem dX10_read_373 : decode cX10_read 373 = .ok (.iconst 0, 1) := by decide +kernel
theorem dX10_read_374 : decode cX10_read 374 = .ok (.aload_n 0, 1) := by decide +kernel
theorem dX10_read_375 : decode cX10_read 375 = .ok (.getfield 52, 3) := by decide +kernel
theorem dX10_read_378 : decode cX10_read 378 = .ok (.iconst 1, 1) := by decide +kernel
theorem dX10_read_379 : decode cX10_read 379 = .ok (.iaload, 1) := by decide +kernel
theorem dX10_read_380 : decode cX10_read 380 = .ok (.iastore, 1) := by decide +kernel
theorem dX10_read_381 : decode cX10_read 381 = .ok (.aload_n 0, 1) := by decide +kernel
theorem dX10_read_382 : decode cX10_read 382 = .ok (.getfield 55, 3) := by decide +kernel
theorem dX10_read_385 : decode cX10_read 385 = .ok (.iconst 0, 1) := by decide +kernel
theorem dX10_read_386 : decode cX10_read 386 = .ok (.aload_n 0, 1) := by decide +kernel
theorem dX10_read_387 : decode cX10_read 387 = .ok (.getfield 55, 3) := by decide +kernel
theorem dX10_read_390 : decode cX10_read 390 = .ok (.iconst 1, 1) := by decide +kernel
theorem dX10_read_391 : decode cX10_read 391 = .ok (.iaload, 1) := by decide +kernel
theorem dX10_read_392 : decode cX10_read 392 = .ok (.iastore, 1) := by decide +kernel
theorem dX10_read_393 : decode cX10_read 393 = .ok (.aload_n 0, 1) := by decide +kernel
theorem dX10_read_394 : decode cX10_read 394 = .ok (.getfield 46, 3) := by decide +kernel
theorem dX10_read_397 : decode cX10_read 397 = .ok (.iconst 0, 1) := by decide +kernel
theorem dX10_read_398 : decode cX10_read 398 = .ok (.iaload, 1) := by decide +kernel
theorem dX10_read_399 : decode cX10_read 399 = .ok (.ireturn, 1) := by decide +kernel
set_option maxRecDepth 20000 in
theorem ggX10_readRule_X10_blanks : GoodIn wsX10_readRule wsX10_blanks := goodIn_r _ [12, 13, 14, 15, 11, 16, 17, 18, 54, 55, 56, 57, 58, 59, 60, 61, 62, 63, 64, 65, 66, 67, 68, 69, 70, 71, 72, 73, 74, 75, 76, 77, 78, 79, 80, 81, 82, 83, 84, 85, 86, 87, 88, 89, 90, 91, 92, 93, 94, 95, 96, 97, 98, 99, 100, 101, 102, 103, 104, 105, 106] (by decide +kernel) (by decide +kernel)
set_option maxRecDepth 20000 in
theorem gX10_readRule_X10_blanks : GoodIn wsX10_readRule (wsV RX10 142 RX10 yX10_blanks wsX10_blanks) := goodIn_app (goodIn_of _ (by decide +kernel)) ggX10_readRule_X10_blanks
set_option maxRecDepth 20000 in
theorem ggX10_readRule_X10_peek : GoodIn wsX10_readRule wsX10_peek := goodIn_r _ [16, 17, 18, 54, 55, 56, 57, 58, 59, 60, 61, 62, 63, 64, 65, 66, 67, 68, 69, 70, 71, 72, 73, 74, 75, 76, 77, 78, 79, 80, 81, 82, 83, 84, 85, 86, 87, 88, 89, 90, 91, 92, 93, 94, 95, 96, 97, 98, 99, 100, 101, 102, 103, 104, 105, 106] (by decide +kernel) (by decide +kernel)
set_option maxRecDepth 20000 in
theorem gX10_readRule_X10_peek : GoodIn wsX10_readRule (wsV RX10 127 RX10 yX10_peek wsX10_peek) := goodIn_app (goodIn_of _ (by decide +kernel)) ggX10_readRule_X10_peek
set_option maxRecDepth 20000 in
theorem ggX10_readRule_X10_isLetter : GoodIn wsX10_readRule wsX10_isLetter := goodIn_r _ [21] (by decide +kernel) (by decide +kernel)
set_option maxRecDepth 20000 in
theorem gX10_readRule_X10_isLetter : GoodIn wsX10_readRule (va_wsS RX10 145 yX10_isLetter wsX10_isLetter) := goodIn_app (goodIn_of _ (by decide +kernel)) ggX10_readRule_X10_isLetter
set_option maxRecDepth 20000 in
theorem ggX10_readRule_X10_fail : GoodIn wsX10_readRule wsX10_fail := goodIn_r _ [25, 7, 54, 55, 56, 57, 58, 59, 60, 61, 62, 63, 64, 65, 66, 67, 68, 69, 70, 71, 72, 73, 74, 75, 76, 77, 78, 79, 80, 81, 82, 83, 84, 85, 86, 87, 88, 89, 90, 91, 92, 93, 94, 95, 96, 97, 98, 99, 100, 101, 102, 103, 104, 105, 106] (by decide +kernel) (by decide +kernel)
set_option maxRecDepth 20000 in
theorem gX10_readRule_X10_fail : GoodIn wsX10_readRule (wsV RX10 138 RX10 yX10_fail wsX10_fail) := goodIn_app (goodIn_of _ (by decide +kernel)) ggX10_readRule_X10_fail
set_option maxRecDepth 20000 in
theorem ggX10_readRule_X10_readWeight : GoodIn wsX10_readRule wsX10_readWeight := goodIn_r _ [29, 1, 6, 30, 31, 32, 33, 2, 8, 9, 10, 11, 12, 13, 14, 15, 16, 17, 18, 34, 35, 36, 22, 23, 24, 25, 7, 54, 55, 56, 57, 58, 59, 60, 61, 62, 63, 64, 65, 66, 67, 68, 69, 70, 71, 72, 73, 74, 75, 76, 77, 78, 79, 80, 81, 82, 83, 84, 85, 86, 87, 88, 89, 90, 91, 92, 93, 94, 95, 96, 97, 98, 99, 100, 101, 102, 103, 104, 105, 106] (by decide +kernel) (by decide +kernel)
set_option maxRecDepth 20000 in
theorem gX10_readRule_X10_readWeight : GoodIn wsX10_readRule (wsV RX10 149 RX10 yX10_readWeight wsX10_readWeight) := goodIn_app (goodIn_of _ (by decide +kernel)) ggX10_readRule_X10_readWeight
set_option maxRecDepth 20000 in
theorem ggX10_readRule_X10_readSigns : GoodIn wsX10_readRule wsX10_readSigns := goodIn_r _ [40, 6, 7, 1, 33, 32, 8, 9, 10, 11, 12, 13, 14, 15, 16, 17, 18, 19, 20, 21, 22, 23, 24, 25, 41, 42, 43, 44, 45, 46, 47, 48, 49, 50, 51, 52, 53, 34, 35, 36, 54, 55, 56, 57, 58, 59, 60, 61, 62, 63, 64, 65, 66, 67, 68, 69, 70, 71, 72, 73, 74, 75, 76, 77, 78, 79, 80, 81, 82, 83, 84, 85, 86, 87, 88, 89, 90, 91, 92, 93, 94, 95, 96, 97, 98, 99, 100, 101, 102, 103, 104, 105, 106] (by decide +kernel) (by decide +kernel)
set_option maxRecDepth 20000 in
theorem gX10_readRule_X10_readSigns : GoodIn wsX10_readRule (wsV RX10 152 RX10 yX10_readSigns wsX10_readSigns) := goodIn_app (goodIn_of _ (by decide +kernel)) ggX10_readRule_X10_readSigns
theorem dX10_readRule_0 : decode cX10_readRule 0 = .ok (.aload_n 0, 1) := by decide +kernel
theorem dX10_readRule_1 : decode cX10_readRule 1 = .ok (.aload_n 0, 1) := by decide +kernel
theorem dX10_readRule_2 : decode cX10_readRule 2 = .ok (.aload_n 0, 1) := by decide +kernel
theorem dX10_readRule_3 : decode cX10_readRule 3 = .ok (.getfield 131, 3) := by decide +kernel
theorem dX10_readRule_6 : decode cX10_readRule 6 = .ok (.invokevirtual 142, 3) := by decide +kernel
theorem dX10_readRule_9 : decode cX10_readRule 9 = .ok (.putfield 131, 3) := by decide +kernel
theorem dX10_readRule_12 : decode cX10_readRule 12 = .ok (.aload_n 0, 1) := by decide +kernel
theorem dX10_readRule_13 : decode cX10_readRule 13 = .ok (.getfield 131, 3) := by decide +kernel
theorem dX10_readRule_16 : decode cX10_readRule 16 = .ok (.istore_n 1, 1) := by decide +kernel
theorem dX10_readRule_17 : decode cX10_readRule 17 = .ok (.aload_n 0, 1) := by decide +kernel
theorem dX10_readRule_18 : decode cX10_readRule 18 = .ok (.aload_n 0, 1) := by decide +kernel
theorem dX10_readRule_19 : decode cX10_readRule 19 = .ok (.getfield 131, 3) := by decide +kernel
theorem dX10_readRule_22 : decode cX10_readRule 22 = .ok (.invokevirtual 127, 3) := by decide +kernel
theorem dX10_readRule_25 : decode cX10_readRule 25 = .ok (.invokestatic 145, 3) := by decide +kernel
theorem dX10_readRule_28 : decode cX10_readRule 28 = .ok (.ifCond .ne 13, 3) := by decide +kernel
theorem dX10_readRule_31 : decode cX10_readRule 31 = .ok (.aload_n 0, 1) := by decide +kernel
theorem dX10_readRule_32 : decode cX10_readRule 32 = .ok (.aload_n 0, 1) := by decide +kernel
theorem dX10_readRule_33 : decode cX10_readRule 33 = .ok (.getfield 131, 3) := by decide +kernel
theorem dX10_readRule_36 : decode cX10_readRule 36 = .ok (.invokevirtual 138, 3) := by decide +kernel
theorem dX10_readRule_39 : decode cX10_readRule 39 = .ok (.iconst 0, 1) := by decide +kernel
theorem dX10_readRule_40 : decode cX10_readRule 40 = .ok (.ireturn, 1) := by decide +kernel
theorem dX10_readRule_41 : decode cX10_readRule 41 = .ok (.aload_n 0, 1) := by decide +kernel
theorem dX10_readRule_42 : decode cX10_readRule 42 = .ok (.aload_n 0, 1) := by decide +kernel
theorem dX10_readRule_43 : decode cX10_readRule 43 = .ok (.getfield 131, 3) := by decide +kernel
theorem dX10_readRule_46 : decode cX10_readRule 46 = .ok (.invokevirtual 127, 3) := by decide +kernel
theorem dX10_readRule_49 : decode cX10_readRule 49 = .ok (.bipush 65, 2) := by decide +kernel
theorem dX10_readRule_51 : decode cX10_readRule 51 = .ok (.isub, 1) := by decide +kernel
theorem dX10_readRule_52 : decode cX10_readRule 52 = .ok (.istore_n 2, 1) := by decide +kernel
theorem dX10_readRule_53 : decode cX10_readRule 53 = .ok (.aload_n 0, 1) := by decide +kernel
theorem dX10_readRule_54 : decode cX10_readRule 54 = .ok (.aload_n 0, 1) := by decide +kernel
theorem dX10_readRule_55 : decode cX10_readRule 55 = .ok (.aload_n 0, 1) := by decide +kernel
theorem dX10_readRule_56 : decode cX10_readRule 56 = .ok (.getfield 131, 3) := by decide +kernel
theorem dX10_readRule_59 : decode cX10_readRule 59 = .ok (.iconst 1, 1) := by decide +kernel
theorem dX10_readRule_60 : decode cX10_readRule 60 = .ok (.iadd, 1) := by decide +kernel
theorem dX10_readRule_61 : decode cX10_readRule 61 = .ok (.invokevirtual 142, 3) := by decide +kernel
theorem dX10_readRule_64 : decode cX10_readRule 64 = .ok (.putfield 131, 3) := by decide +kernel
theorem dX10_readRule_67 : decode cX10_readRule 67 = .ok (.aload_n 0, 1) := by decide +kernel
theorem dX10_readRule_68 : decode cX10_readRule 68 = .ok (.aload_n 0, 1) := by decide +kernel
theorem dX10_readRule_69 : decode cX10_readRule 69 = .ok (.getfield 131, 3) := by decide +kernel
theorem dX10_readRule_72 : decode cX10_readRule 72 = .ok (.invokevirtual 127, 3) := by decide +kernel
theorem dX10_readRule_75 : decode cX10_readRule 75 = .ok (.bipush 61, 2) := by decide +kernel
theorem dX10_readRule_77 : decode cX10_readRule 77 = .ok (.if_icmp .eq 13, 3) := by decide +kernel
theorem dX10_readRule_80 : decode cX10_readRule 80 = .ok (.aload_n 0, 1) := by decide +kernel
theorem dX10_readRule_81 : decode cX10_readRule 81 = .ok (.aload_n 0, 1) := by decide +kernel
theorem dX10_readRule_82 : decode cX10_readRule 82 = .ok (.getfield 131, 3) := by decide +kernel
theorem dX10_readRule_85 : decode cX10_readRule 85 = .ok (.invokevirtual 138, 3) := by decide +kernel
theorem dX10_readRule_88 : decode cX10_readRule 88 = .ok (.iconst 0, 1) := by decide +kernel
theorem dX10_readRule_89 : decode cX10_readRule 89 = .ok (.ireturn, 1) := by decide +kernel
theorem dX10_readRule_90 : decode cX10_readRule 90 = .ok (.aload_n 0, 1) := by decide +kernel
theorem dX10_readRule_91 : decode cX10_readRule 91 = .ok (.getfield 19, 3) := by decide +kernel
theorem dX10_readRule_94 : decode cX10_readRule 94 = .ok (.bipush 26, 2) := by decide +kernel
theorem dX10_readRule_96 : decode cX10_readRule 96 = .ok (.iload_n 2, 1) := by decide +kernel
theorem dX10_readRule_97 : decode cX10_readRule 97 = .ok (.iadd, 1) := by decide +kernel
theorem dX10_readRule_98 : decode cX10_readRule 98 = .ok (.iaload, 1) := by decide +kernel
theorem dX10_readRule_99 : decode cX10_readRule 99 = .ok (.ifCond .gt 14, 3) := by decide +kernel
theorem dX10_readRule_102 : decode cX10_readRule 102 = .ok (.aload_n 0, 1) := by decide +kernel
theorem dX10_readRule_103 : decode cX10_readRule 103 = .ok (.getfield 46, 3) := by decide +kernel
theorem dX10_readRule_106 : decode cX10_readRule 106 = .ok (.iconst 1, 1) := by decide +kernel
theorem dX10_readRule_107 : decode cX10_readRule 107 = .ok (.iaload, 1) := by decide +kernel
theorem dX10_readRule_108 : decode cX10_readRule 108 = .ok (.bipush 16, 2) := by decide +kernel
theorem dX10_readRule_110 : decode cX10_readRule 110 = .ok (.if_icmp .ne 10, 3) := by decide +kernel
theorem dX10_readRule_113 : decode cX10_readRule 113 = .ok (.aload_n 0, 1) := by decide +kernel
theorem dX10_readRule_114 : decode cX10_readRule 114 = .ok (.iload_n 1, 1) := by decide +kernel
theorem dX10_readRule_115 : decode cX10_readRule 115 = .ok (.invokevirtual 138, 3) := by decide +kernel
theorem dX10_readRule_118 : decode cX10_readRule 118 = .ok (.iconst 0, 1) := by decide +kernel
theorem dX10_readRule_119 : decode cX10_readRule 119 = .ok (.ireturn, 1) := by decide +kernel
theorem dX10_readRule_120 : decode cX10_readRule 120 = .ok (.aload_n 0, 1) := by decide +kernel
theorem dX10_readRule_121 : decode cX10_readRule 121 = .ok (.dup, 1) := by decide +kernel
theorem dX10_readRule_122 : decode cX10_readRule 122 = .ok (.getfield 131, 3) := by decide +kernel
theorem dX10_readRule_125 : decode cX10_readRule 125 = .ok (.iconst 1, 1) := by decide +kernel
theorem dX10_readRule_126 : decode cX10_readRule 126 = .ok (.iadd, 1) := by decide +kernel
theorem dX10_readRule_127 : decode cX10_readRule 127 = .ok (.putfield 131, 3) := by decide +kernel
theorem dX10_readRule_130 : decode cX10_readRule 130 = .ok (.aload_n 0, 1) := by decide +kernel
theorem dX10_readRule_131 : decode cX10_readRule 131 = .ok (.getfield 46, 3) := by decide +kernel
theorem dX10_readRule_134 : decode cX10_readRule 134 = .ok (.iconst 1, 1) := by decide +kernel
theorem dX10_readRule_135 : decode cX10_readRule 135 = .ok (.iaload, 1) := by decide +kernel
theorem dX10_readRule_136 : decode cX10_readRule 136 = .ok (.ifCond .ne 10, 3) := by decide +kernel
theorem dX10_readRule_139 : decode cX10_readRule 139 = .ok (.aload_n 0, 1) := by decide +kernel
theorem dX10_readRule_140 : decode cX10_readRule 140 = .ok (.getfield 55, 3) := by decide +kernel
theorem dX10_readRule_143 : decode cX10_readRule 143 = .ok (.iconst 1, 1) := by decide +kernel
theorem dX10_readRule_144 : decode cX10_readRule 144 = .ok (.iload_n 2, 1) := by decide +kernel
theorem dX10_readRule_145 : decode cX10_readRule 145 = .ok (.iastore, 1) := by decide +kernel
theorem dX10_readRule_146 : decode cX10_readRule 146 = .ok (.aload_n 0, 1) := by decide +kernel
theorem dX10_readRule_147 : decode cX10_readRule 147 = .ok (.getfield 46, 3) := by decide +kernel
theorem dX10_readRule_150 : decode cX10_readRule 150 = .ok (.iconst 1, 1) := by decide +kernel
theorem dX10_readRule_151 : decode cX10_readRule 151 = .ok (.dup2, 1) := by decide +kernel
theorem dX10_readRule_152 : decode cX10_readRule 152 = .ok (.iaload, 1) := by decide +kernel
theorem dX10_readRule_153 : decode cX10_readRule 153 = .ok (.iconst 1, 1) := by decide +kernel
theorem dX10_readRule_154 : decode cX10_readRule 154 = .ok (.iadd, 1) := by decide +kernel
theorem dX10_readRule_155 : decode cX10_readRule 155 = .ok (.iastore, 1) := by decide +kernel
theorem dX10_readRule_156 : decode cX10_readRule 156 = .ok (.aload_n 0, 1) := by decide +kernel
theorem dX10_readRule_157 : decode cX10_readRule 157 = .ok (.getfield 16, 3) := by decide +kernel
theorem dX10_readRule_160 : decode cX10_readRule 160 = .ok (.bipush 26, 2) := by decide +kernel
theorem dX10_readRule_162 : decode cX10_readRule 162 = .ok (.iload_n 2, 1) := by decide +kernel
theorem dX10_readRule_163 : decode cX10_readRule 163 = .ok (.iadd, 1) := by decide +kernel
theorem dX10_readRule_164 : decode cX10_readRule 164 = .ok (.aload_n 0, 1) := by decide +kernel
theorem dX10_readRule_165 : decode cX10_readRule 165 = .ok (.getfield 49, 3) := by decide +kernel
theorem dX10_readRule_168 : decode cX10_readRule 168 = .ok (.iconst 1, 1) := by decide +kernel
theorem dX10_readRule_169 : decode cX10_readRule 169 = .ok (.iaload, 1) := by decide +kernel
theorem dX10_readRule_170 : decode cX10_readRule 170 = .ok (.iastore, 1) := by decide +kernel
theorem dX10_readRule_171 : decode cX10_readRule 171 = .ok (.iconst 0, 1) := by decide +kernel
theorem dX10_readRule_172 : decode cX10_readRule 172 = .ok (.istore_n 3, 1) := by decide +kernel
theorem dX10_readRule_173 : decode cX10_readRule 173 = .ok (.iload_n 3, 1) := by decide +kernel
theorem dX10_readRule_174 : decode cX10_readRule 174 = .ok (.ifCond .ne 34, 3) := by decide +kernel
theorem dX10_readRule_177 : decode cX10_readRule 177 = .ok (.aload_n 0, 1) := by decide +kernel
theorem dX10_readRule_178 : decode cX10_readRule 178 = .ok (.getfield 124, 3) := by decide +kernel
theorem dX10_readRule_181 : decode cX10_readRule 181 = .ok (.ifCond .ge 27, 3) := by decide +kernel
theorem dX10_readRule_184 : decode cX10_readRule 184 = .ok (.aload_n 0, 1) := by decide +kernel
theorem dX10_readRule_185 : decode cX10_readRule 185 = .ok (.iload_n 2, 1) := by decide +kernel
theorem dX10_readRule_186 : decode cX10_readRule 186 = .ok (.invokevirtual 149, 3) := by decide +kernel
theorem dX10_readRule_189 : decode cX10_readRule 189 = .ok (.aload_n 0, 1) := by decide +kernel
theorem dX10_readRule_190 : decode cX10_readRule 190 = .ok (.getfield 124, 3) := by decide +kernel
theorem dX10_readRule_193 : decode cX10_readRule 193 = .ok (.ifCond .ge 10, 3) := by decide +kernel
theorem dX10_readRule_196 : decode cX10_readRule 196 = .ok (.aload_n 0, 1) := by decide +kernel
theorem dX10_readRule_197 : decode cX10_readRule 197 = .ok (.invokevirtual 152, 3) := by decide +kernel
theorem dX10_readRule_200 : decode cX10_readRule 200 = .ok (.goto 4, 3) := by decide +kernel
theorem dX10_readRule_203 : decode cX10_readRule 203 = .ok (.iconst 2, 1) := by decide +kernel
theorem dX10_readRule_204 : decode cX10_readRule 204 = .ok (.istore_n 3, 1) := by decide +kernel
theorem dX10_readRule_205 : decode cX10_readRule 205 = .ok (.goto (-32), 3) := by decide +kernel
theorem dX10_readRule_208 : decode cX10_readRule 208 = .ok (.iload_n 3, 1) := by decide +kernel
theorem dX10_readRule_209 : decode cX10_readRule 209 = .ok (.iconst 1, 1) := by decide +kernel
theorem dX10_readRule_210 : decode cX10_readRule 210 = .ok (.if_icmp .ne 7, 3) := by decide +kernel
theorem dX10_readRule_213 : decode cX10_readRule 213 = .ok (.iconst 1, 1) := by decide +kernel
theorem dX10_readRule_214 : decode cX10_readRule 214 = .ok (.goto 4, 3) := by decide +kernel
theorem dX10_readRule_217 : decode cX10_readRule 217 = .ok (.iconst 0, 1) := by decide +kernel
theorem dX10_readRule_218 : decode cX10_readRule 218 = .ok (.ireturn, 1) := by decide +kernel
set_option maxRecDepth 20000 in
theorem ggX10_readWeight_X10_blanks : GoodIn wsX10_readWeight wsX10_blanks := goodIn_r _ [12, 13, 14, 15, 11, 16, 17, 18, 27, 28, 29, 30, 31, 32, 33, 34, 35, 36, 37, 38, 39, 40, 41, 42, 43, 44, 45, 46, 47, 48, 49, 50, 51, 52, 53, 54, 55, 56, 57, 58, 59, 60, 61, 62, 63, 64, 65, 66, 67, 68, 69, 70, 71, 72, 73, 74, 75, 76, 77, 78, 79] (by decide +kernel) (by decide +kernel)
set_option maxRecDepth 20000 in
theorem gX10_readWeight_X10_blanks : GoodIn wsX10_readWeight (wsV RX10 142 RX10 yX10_blanks wsX10_blanks) := goodIn_app (goodIn_of _ (by decide +kernel)) ggX10_readWeight_X10_blanks
set_option maxRecDepth 20000 in
theorem ggX10_readWeight_X10_peek : GoodIn wsX10_readWeight wsX10_peek := goodIn_r _ [16, 17, 18, 27, 28, 29, 30, 31, 32, 33, 34, 35, 36, 37, 38, 39, 40, 41, 42, 43, 44, 45, 46, 47, 48, 49, 50, 51, 52, 53, 54, 55, 56, 57, 58, 59, 60, 61, 62, 63, 64, 65, 66, 67, 68, 69, 70, 71, 72, 73, 74, 75, 76, 77, 78, 79] (by decide +kernel) (by decide +kernel)
set_option maxRecDepth 20000 in
theorem gX10_readWeight_X10_peek : GoodIn wsX10_readWeight (wsV RX10 127 RX10 yX10_peek wsX10_peek) := goodIn_app (goodIn_of _ (by decide +kernel)) ggX10_readWeight_X10_peek
set_option maxRecDepth 20000 in
theorem ggX10_readWeight_X10_isDigit : GoodIn wsX10_readWeight wsX10_isDigit := goodIn_r _ [21] (by decide +kernel) (by decide +kernel)
set_option maxRecDepth 20000 in
theorem gX10_readWeight_X10_isDigit : GoodIn wsX10_readWeight (va_wsS RX10 156 yX10_isDigit wsX10_isDigit) := goodIn_app (goodIn_of _ (by decide +kernel)) ggX10_readWeight_X10_isDigit
set_option maxRecDepth 20000 in
theorem ggX10_readWeight_X10_fail : GoodIn wsX10_readWeight wsX10_fail := goodIn_r _ [25, 26, 27, 28, 29, 30, 31, 32, 33, 34, 35, 36, 37, 38, 39, 40, 41, 42, 43, 44, 45, 46, 47, 48, 49, 50, 51, 52, 53, 54, 55, 56, 57, 58, 59, 60, 61, 62, 63, 64, 65, 66, 67, 68, 69, 70, 71, 72, 73, 74, 75, 76, 77, 78, 79] (by decide +kernel) (by decide +kernel)
set_option maxRecDepth 20000 in
theorem gX10_readWeight_X10_fail : GoodIn wsX10_readWeight (wsV RX10 138 RX10 yX10_fail wsX10_fail) := goodIn_app (goodIn_of _ (by decide +kernel)) ggX10_readWeight_X10_fail
theorem dX10_readWeight_0 : decode cX10_readWeight 0 = .ok (.aload_n 0, 1) := by decide +kernel
theorem dX10_readWeight_1 : decode cX10_readWeight 1 = .ok (.aload_n 0, 1) := by decide +kernel
theorem dX10_readWeight_2 : decode cX10_readWeight 2 = .ok (.aload_n 0, 1) := by decide +kernel
theorem dX10_readWeight_3 : decode cX10_readWeight 3 = .ok (.getfield 131, 3) := by decide +kernel
theorem dX10_readWeight_6 : decode cX10_readWeight 6 = .ok (.invokevirtual 142, 3) := by decide +kernel
theorem dX10_readWeight_9 : decode cX10_readWeight 9 = .ok (.putfield 131, 3) := by decide +kernel
theorem dX10_readWeight_12 : decode cX10_readWeight 12 = .ok (.aload_n 0, 1) := by decide +kernel
theorem dX10_readWeight_13 : decode cX10_readWeight 13 = .ok (.getfield 131, 3) := by decide +kernel
theorem dX10_readWeight_16 : decode cX10_readWeight 16 = .ok (.istore_n 2, 1) := by decide +kernel
theorem dX10_readWeight_17 : decode cX10_readWeight 17 = .ok (.iconst 0, 1) := by decide +kernel
theorem dX10_readWeight_18 : decode cX10_readWeight 18 = .ok (.istore_n 3, 1) := by decide +kernel
theorem dX10_readWeight_19 : decode cX10_readWeight 19 = .ok (.aload_n 0, 1) := by decide +kernel
theorem dX10_readWeight_20 : decode cX10_readWeight 20 = .ok (.aload_n 0, 1) := by decide +kernel
theorem dX10_readWeight_21 : decode cX10_readWeight 21 = .ok (.getfield 131, 3) := by decide +kernel
theorem dX10_readWeight_24 : decode cX10_readWeight 24 = .ok (.invokevirtual 127, 3) := by decide +kernel
theorem dX10_readWeight_27 : decode cX10_readWeight 27 = .ok (.invokestatic 156, 3) := by decide +kernel
theorem dX10_readWeight_30 : decode cX10_readWeight 30 = .ok (.ifCond .eq 40, 3) := by decide +kernel
theorem dX10_readWeight_33 : decode cX10_readWeight 33 = .ok (.iload_n 3, 1) := by decide +kernel
theorem dX10_readWeight_34 : decode cX10_readWeight 34 = .ok (.sipush 1000, 3) := by decide +kernel
theorem dX10_readWeight_37 : decode cX10_readWeight 37 = .ok (.if_icmp .ge 33, 3) := by decide +kernel
theorem dX10_readWeight_40 : decode cX10_readWeight 40 = .ok (.bipush 10, 2) := by decide +kernel
theorem dX10_readWeight_42 : decode cX10_readWeight 42 = .ok (.iload_n 3, 1) := by decide +kernel
theorem dX10_readWeight_43 : decode cX10_readWeight 43 = .ok (.imul, 1) := by decide +kernel
theorem dX10_readWeight_44 : decode cX10_readWeight 44 = .ok (.aload_n 0, 1) := by decide +kernel
theorem dX10_readWeight_45 : decode cX10_readWeight 45 = .ok (.aload_n 0, 1) := by decide +kernel
theorem dX10_readWeight_46 : decode cX10_readWeight 46 = .ok (.getfield 131, 3) := by decide +kernel
theorem dX10_readWeight_49 : decode cX10_readWeight 49 = .ok (.invokevirtual 127, 3) := by decide +kernel
theorem dX10_readWeight_52 : decode cX10_readWeight 52 = .ok (.iadd, 1) := by decide +kernel
theorem dX10_readWeight_53 : decode cX10_readWeight 53 = .ok (.bipush 48, 2) := by decide +kernel
theorem dX10_readWeight_55 : decode cX10_readWeight 55 = .ok (.isub, 1) := by decide +kernel
theorem dX10_readWeight_56 : decode cX10_readWeight 56 = .ok (.istore_n 3, 1) := by decide +kernel
theorem dX10_readWeight_57 : decode cX10_readWeight 57 = .ok (.aload_n 0, 1) := by decide +kernel
theorem dX10_readWeight_58 : decode cX10_readWeight 58 = .ok (.dup, 1) := by decide +kernel
theorem dX10_readWeight_59 : decode cX10_readWeight 59 = .ok (.getfield 131, 3) := by decide +kernel
theorem dX10_readWeight_62 : decode cX10_readWeight 62 = .ok (.iconst 1, 1) := by decide +kernel
theorem dX10_readWeight_63 : decode cX10_readWeight 63 = .ok (.iadd, 1) := by decide +kernel
theorem dX10_readWeight_64 : decode cX10_readWeight 64 = .ok (.putfield 131, 3) := by decide +kernel
theorem dX10_readWeight_67 : decode cX10_readWeight 67 = .ok (.goto (-48), 3) := by decide +kernel
theorem dX10_readWeight_70 : decode cX10_readWeight 70 = .ok (.aload_n 0, 1) := by decide +kernel
theorem dX10_readWeight_71 : decode cX10_readWeight 71 = .ok (.getfield 131, 3) := by decide +kernel
theorem dX10_readWeight_74 : decode cX10_readWeight 74 = .ok (.iload_n 2, 1) := by decide +kernel
theorem dX10_readWeight_75 : decode cX10_readWeight 75 = .ok (.if_icmp .eq 31, 3) := by decide +kernel
theorem dX10_readWeight_78 : decode cX10_readWeight 78 = .ok (.aload_n 0, 1) := by decide +kernel
theorem dX10_readWeight_79 : decode cX10_readWeight 79 = .ok (.iload_n 2, 1) := by decide +kernel
theorem dX10_readWeight_80 : decode cX10_readWeight 80 = .ok (.invokevirtual 127, 3) := by decide +kernel
theorem dX10_readWeight_83 : decode cX10_readWeight 83 = .ok (.bipush 48, 2) := by decide +kernel
theorem dX10_readWeight_85 : decode cX10_readWeight 85 = .ok (.if_icmp .eq 21, 3) := by decide +kernel
theorem dX10_readWeight_88 : decode cX10_readWeight 88 = .ok (.iload_n 3, 1) := by decide +kernel
theorem dX10_readWeight_89 : decode cX10_readWeight 89 = .ok (.sipush 999, 3) := by decide +kernel
theorem dX10_readWeight_92 : decode cX10_readWeight 92 = .ok (.if_icmp .gt 14, 3) := by decide +kernel
theorem dX10_readWeight_95 : decode cX10_readWeight 95 = .ok (.aload_n 0, 1) := by decide +kernel
theorem dX10_readWeight_96 : decode cX10_readWeight 96 = .ok (.getfield 49, 3) := by decide +kernel
theorem dX10_readWeight_99 : decode cX10_readWeight 99 = .ok (.iconst 1, 1) := by decide +kernel
theorem dX10_readWeight_100 : decode cX10_readWeight 100 = .ok (.iaload, 1) := by decide +kernel
theorem dX10_readWeight_101 : decode cX10_readWeight 101 = .ok (.bipush 48, 2) := by decide +kernel
theorem dX10_readWeight_103 : decode cX10_readWeight 103 = .ok (.if_icmp .ne 9, 3) := by decide +kernel
theorem dX10_readWeight_106 : decode cX10_readWeight 106 = .ok (.aload_n 0, 1) := by decide +kernel
theorem dX10_readWeight_107 : decode cX10_readWeight 107 = .ok (.iload_n 2, 1) := by decide +kernel
theorem dX10_readWeight_108 : decode cX10_readWeight 108 = .ok (.invokevirtual 138, 3) := by decide +kernel
theorem dX10_readWeight_111 : decode cX10_readWeight 111 = .ok (.return_, 1) := by decide +kernel
theorem dX10_readWeight_112 : decode cX10_readWeight 112 = .ok (.bipush 48, 2) := by decide +kernel
theorem dX10_readWeight_114 : decode cX10_readWeight 114 = .ok (.aload_n 0, 1) := by decide +kernel
theorem dX10_readWeight_115 : decode cX10_readWeight 115 = .ok (.getfield 49, 3) := by decide +kernel
theorem dX10_readWeight_118 : decode cX10_readWeight 118 = .ok (.iconst 1, 1) := by decide +kernel
theorem dX10_readWeight_119 : decode cX10_readWeight 119 = .ok (.iaload, 1) := by decide +kernel
theorem dX10_readWeight_120 : decode cX10_readWeight 120 = .ok (.iadd, 1) := by decide +kernel
theorem dX10_readWeight_121 : decode cX10_readWeight 121 = .ok (.istore 4, 2) := by decide +kernel
theorem dX10_readWeight_123 : decode cX10_readWeight 123 = .ok (.aload_n 0, 1) := by decide +kernel
theorem dX10_readWeight_124 : decode cX10_readWeight 124 = .ok (.getfield 22, 3) := by decide +kernel
theorem dX10_readWeight_127 : decode cX10_readWeight 127 = .ok (.iload 4, 2) := by decide +kernel
theorem dX10_readWeight_129 : decode cX10_readWeight 129 = .ok (.iload_n 3, 1) := by decide +kernel
theorem dX10_readWeight_130 : decode cX10_readWeight 130 = .ok (.iastore, 1) := by decide +kernel
theorem dX10_readWeight_131 : decode cX10_readWeight 131 = .ok (.aload_n 0, 1) := by decide +kernel
theorem dX10_readWeight_132 : decode cX10_readWeight 132 = .ok (.getfield 25, 3) := by decide +kernel
theorem dX10_readWeight_135 : decode cX10_readWeight 135 = .ok (.iload 4, 2) := by decide +kernel
theorem dX10_readWeight_137 : decode cX10_readWeight 137 = .ok (.aload_n 0, 1) := by decide +kernel
theorem dX10_readWeight_138 : decode cX10_readWeight 138 = .ok (.getfield 52, 3) := by decide +kernel
theorem dX10_readWeight_141 : decode cX10_readWeight 141 = .ok (.iconst 1, 1) := by decide +kernel
theorem dX10_readWeight_142 : decode cX10_readWeight 142 = .ok (.iaload, 1) := by decide +kernel
theorem dX10_readWeight_143 : decode cX10_readWeight 143 = .ok (.iastore, 1) := by decide +kernel
theorem dX10_readWeight_144 : decode cX10_readWeight 144 = .ok (.aload_n 0, 1) := by decide +kernel
theorem dX10_readWeight_145 : decode cX10_readWeight 145 = .ok (.getfield 28, 3) := by decide +kernel
theorem dX10_readWeight_148 : decode cX10_readWeight 148 = .ok (.iload 4, 2) := by decide +kernel
theorem dX10_readWeight_150 : decode cX10_readWeight 150 = .ok (.iconst 0, 1) := by decide +kernel
theorem dX10_readWeight_151 : decode cX10_readWeight 151 = .ok (.iastore, 1) := by decide +kernel
theorem dX10_readWeight_152 : decode cX10_readWeight 152 = .ok (.aload_n 0, 1) := by decide +kernel
theorem dX10_readWeight_153 : decode cX10_readWeight 153 = .ok (.getfield 49, 3) := by decide +kernel
theorem dX10_readWeight_156 : decode cX10_readWeight 156 = .ok (.iconst 1, 1) := by decide +kernel
theorem dX10_readWeight_157 : decode cX10_readWeight 157 = .ok (.dup2, 1) := by decide +kernel
theorem dX10_readWeight_158 : decode cX10_readWeight 158 = .ok (.iaload, 1) := by decide +kernel
theorem dX10_readWeight_159 : decode cX10_readWeight 159 = .ok (.iconst 1, 1) := by decide +kernel
theorem dX10_readWeight_160 : decode cX10_readWeight 160 = .ok (.iadd, 1) := by decide +kernel
theorem dX10_readWeight_161 : decode cX10_readWeight 161 = .ok (.iastore, 1) := by decide +kernel
theorem dX10_readWeight_162 : decode cX10_readWeight 162 = .ok (.aload_n 0, 1) := by decide +kernel
theorem dX10_readWeight_163 : decode cX10_readWeight 163 = .ok (.getfield 19, 3) := by decide +kernel
theorem dX10_readWeight_166 : decode cX10_readWeight 166 = .ok (.bipush 26, 2) := by decide +kernel
theorem dX10_readWeight_168 : decode cX10_readWeight 168 = .ok (.iload_n 1, 1) := by decide +kernel
theorem dX10_readWeight_169 : decode cX10_readWeight 169 = .ok (.iadd, 1) := by decide +kernel
theorem dX10_readWeight_170 : decode cX10_readWeight 170 = .ok (.dup2, 1) := by decide +kernel
theorem dX10_readWeight_171 : decode cX10_readWeight 171 = .ok (.iaload, 1) := by decide +kernel
theorem dX10_readWeight_172 : decode cX10_readWeight 172 = .ok (.iconst 1, 1) := by decide +kernel
theorem dX10_readWeight_173 : decode cX10_readWeight 173 = .ok (.iadd, 1) := by decide +kernel
theorem dX10_readWeight_174 : decode cX10_readWeight 174 = .ok (.iastore, 1) := by decide +kernel
theorem dX10_readWeight_175 : decode cX10_readWeight 175 = .ok (.return_, 1) := by decide +kernel
set_option maxRecDepth 20000 in
theorem ggX10_readSigns_X10_blanks : GoodIn wsX10_readSigns wsX10_blanks := goodIn_r _ [10, 11, 12, 13, 9, 14, 15, 16, 40, 41, 42, 43, 44, 45, 46, 47, 48, 49, 50, 51, 52, 53, 54, 55, 56, 57, 58, 59, 60, 61, 62, 63, 64, 65, 66, 67, 68, 69, 70, 71, 72, 73, 74, 75, 76, 77, 78, 79, 80, 81, 82, 83, 84, 85, 86, 87, 88, 89, 90, 91, 92] (by decide +kernel) (by decide +kernel)
set_option maxRecDepth 20000 in
theorem gX10_readSigns_X10_blanks : GoodIn wsX10_readSigns (wsV RX10 142 RX10 yX10_blanks wsX10_blanks) := goodIn_app (goodIn_of _ (by decide +kernel)) ggX10_readSigns_X10_blanks
set_option maxRecDepth 20000 in
theorem ggX10_readSigns_X10_peek : GoodIn wsX10_readSigns wsX10_peek := goodIn_r _ [14, 15, 16, 40, 41, 42, 43, 44, 45, 46, 47, 48, 49, 50, 51, 52, 53, 54, 55, 56, 57, 58, 59, 60, 61, 62, 63, 64, 65, 66, 67, 68, 69, 70, 71, 72, 73, 74, 75, 76, 77, 78, 79, 80, 81, 82, 83, 84, 85, 86, 87, 88, 89, 90, 91, 92] (by decide +kernel) (by decide +kernel)
set_option maxRecDepth 20000 in
theorem gX10_readSigns_X10_peek : GoodIn wsX10_readSigns (wsV RX10 127 RX10 yX10_peek wsX10_peek) := goodIn_app (goodIn_of _ (by decide +kernel)) ggX10_readSigns_X10_peek
set_option maxRecDepth 20000 in
theorem ggX10_readSigns_X10_isLetter : GoodIn wsX10_readSigns wsX10_isLetter := goodIn_r _ [19] (by decide +kernel) (by decide +kernel)
set_option maxRecDepth 20000 in
theorem gX10_readSigns_X10_isLetter : GoodIn wsX10_readSigns (va_wsS RX10 145 yX10_isLetter wsX10_isLetter) := goodIn_app (goodIn_of _ (by decide +kernel)) ggX10_readSigns_X10_isLetter
set_option maxRecDepth 20000 in
theorem ggX10_readSigns_X10_fail : GoodIn wsX10_readSigns wsX10_fail := goodIn_r _ [23, 2, 40, 41, 42, 43, 44, 45, 46, 47, 48, 49, 50, 51, 52, 53, 54, 55, 56, 57, 58, 59, 60, 61, 62, 63, 64, 65, 66, 67, 68, 69, 70, 71, 72, 73, 74, 75, 76, 77, 78, 79, 80, 81, 82, 83, 84, 85, 86, 87, 88, 89, 90, 91, 92] (by decide +kernel) (by decide +kernel)
set_option maxRecDepth 20000 in
theorem gX10_readSigns_X10_fail : GoodIn wsX10_readSigns (wsV RX10 138 RX10 yX10_fail wsX10_fail) := goodIn_app (goodIn_of _ (by decide +kernel)) ggX10_readSigns_X10_fail
set_option maxRecDepth 20000 in
theorem ggX10_readSigns_X10_readSign : GoodIn wsX10_readSigns wsX10_readSign := goodIn_r _ [27, 28, 3, 29, 30, 31, 32, 17, 18, 9, 19, 11, 12, 13, 14, 15, 16, 33, 34, 35, 36, 20, 21, 22, 23, 2, 37, 38, 39, 40, 41, 42, 43, 44, 45, 46, 47, 48, 49, 50, 51, 52, 53, 54, 55, 56, 57, 58, 59, 60, 61, 62, 63, 64, 65, 66, 67, 68, 69, 70, 71, 72, 73, 74, 75, 76, 77, 78, 79, 80, 81, 82, 83, 84, 85, 86, 87, 88, 89, 90, 91, 92] (by decide +kernel) (by decide +kernel)
set_option maxRecDepth 20000 in
theorem gX10_readSigns_X10_readSign : GoodIn wsX10_readSigns (wsV RX10 159 RX10 yX10_readSign wsX10_readSign) := goodIn_app (goodIn_of _ (by decide +kernel)) ggX10_readSigns_X10_readSign
theorem dX10_readSigns_0 : decode cX10_readSigns 0 = .ok (.bipush 47, 2) := by decide +kernel
theorem dX10_readSigns_2 : decode cX10_readSigns 2 = .ok (.aload_n 0, 1) := by decide +kernel
theorem dX10_readSigns_3 : decode cX10_readSigns 3 = .ok (.getfield 49, 3) := by decide +kernel
theorem dX10_readSigns_6 : decode cX10_readSigns 6 = .ok (.iconst 1, 1) := by decide +kernel
theorem dX10_readSigns_7 : decode cX10_readSigns 7 = .ok (.iaload, 1) := by decide +kernel
theorem dX10_readSigns_8 : decode cX10_readSigns 8 = .ok (.iadd, 1) := by decide +kernel
theorem dX10_readSigns_9 : decode cX10_readSigns 9 = .ok (.istore_n 1, 1) := by decide +kernel
theorem dX10_readSigns_10 : decode cX10_readSigns 10 = .ok (.aload_n 0, 1) := by decide +kernel
theorem dX10_readSigns_11 : decode cX10_readSigns 11 = .ok (.getfield 124, 3) := by decide +kernel
theorem dX10_readSigns_14 : decode cX10_readSigns 14 = .ok (.ifCond .ge 212, 3) := by decide +kernel
theorem dX10_readSigns_17 : decode cX10_readSigns 17 = .ok (.aload_n 0, 1) := by decide +kernel
theorem dX10_readSigns_18 : decode cX10_readSigns 18 = .ok (.aload_n 0, 1) := by decide +kernel
theorem dX10_readSigns_19 : decode cX10_readSigns 19 = .ok (.aload_n 0, 1) := by decide +kernel
theorem dX10_readSigns_20 : decode cX10_readSigns 20 = .ok (.getfield 131, 3) := by decide +kernel
theorem dX10_readSigns_23 : decode cX10_readSigns 23 = .ok (.invokevirtual 142, 3) := by decide +kernel
theorem dX10_readSigns_26 : decode cX10_readSigns 26 = .ok (.putfield 131, 3) := by decide +kernel
theorem dX10_readSigns_29 : decode cX10_readSigns 29 = .ok (.aload_n 0, 1) := by decide +kernel
theorem dX10_readSigns_30 : decode cX10_readSigns 30 = .ok (.aload_n 0, 1) := by decide +kernel
theorem dX10_readSigns_31 : decode cX10_readSigns 31 = .ok (.getfield 131, 3) := by decide +kernel
theorem dX10_readSigns_34 : decode cX10_readSigns 34 = .ok (.invokevirtual 127, 3) := by decide +kernel
theorem dX10_readSigns_37 : decode cX10_readSigns 37 = .ok (.istore_n 2, 1) := by decide +kernel
theorem dX10_readSigns_38 : decode cX10_readSigns 38 = .ok (.iload_n 2, 1) := by decide +kernel
theorem dX10_readSigns_39 : decode cX10_readSigns 39 = .ok (.iconst (-1), 1) := by decide +kernel
theorem dX10_readSigns_40 : decode cX10_readSigns 40 = .ok (.if_icmp .ne 14, 3) := by decide +kernel
theorem dX10_readSigns_43 : decode cX10_readSigns 43 = .ok (.aload_n 0, 1) := by decide +kernel
theorem dX10_readSigns_44 : decode cX10_readSigns 44 = .ok (.getfield 28, 3) := by decide +kernel
theorem dX10_readSigns_47 : decode cX10_readSigns 47 = .ok (.iload_n 1, 1) := by decide +kernel
theorem dX10_readSigns_48 : decode cX10_readSigns 48 = .ok (.iaload, 1) := by decide +kernel
theorem dX10_readSigns_49 : decode cX10_readSigns 49 = .ok (.ifCond .le 5, 3) := by decide +kernel
theorem dX10_readSigns_52 : decode cX10_readSigns 52 = .ok (.iconst 2, 1) := by decide +kernel
theorem dX10_readSigns_53 : decode cX10_readSigns 53 = .ok (.ireturn, 1) := by decide +kernel
theorem dX10_readSigns_54 : decode cX10_readSigns 54 = .ok (.iload_n 2, 1) := by decide +kernel
theorem dX10_readSigns_55 : decode cX10_readSigns 55 = .ok (.bipush 124, 2) := by decide +kernel
theorem dX10_readSigns_57 : decode cX10_readSigns 57 = .ok (.if_icmp .ne 24, 3) := by decide +kernel
theorem dX10_readSigns_60 : decode cX10_readSigns 60 = .ok (.aload_n 0, 1) := by decide +kernel
theorem dX10_readSigns_61 : decode cX10_readSigns 61 = .ok (.getfield 28, 3) := by decide +kernel
theorem dX10_readSigns_64 : decode cX10_readSigns 64 = .ok (.iload_n 1, 1) := by decide +kernel
theorem dX10_readSigns_65 : decode cX10_readSigns 65 = .ok (.iaload, 1) := by decide +kernel
theorem dX10_readSigns_66 : decode cX10_readSigns 66 = .ok (.ifCond .le 15, 3) := by decide +kernel
theorem dX10_readSigns_69 : decode cX10_readSigns 69 = .ok (.aload_n 0, 1) := by decide +kernel
theorem dX10_readSigns_70 : decode cX10_readSigns 70 = .ok (.dup, 1) := by decide +kernel
theorem dX10_readSigns_71 : decode cX10_readSigns 71 = .ok (.getfield 131, 3) := by decide +kernel
theorem dX10_readSigns_74 : decode cX10_readSigns 74 = .ok (.iconst 1, 1) := by decide +kernel
theorem dX10_readSigns_75 : decode cX10_readSigns 75 = .ok (.iadd, 1) := by decide +kernel
theorem dX10_readSigns_76 : decode cX10_readSigns 76 = .ok (.putfield 131, 3) := by decide +kernel
theorem dX10_readSigns_79 : decode cX10_readSigns 79 = .ok (.iconst 0, 1) := by decide +kernel
theorem dX10_readSigns_80 : decode cX10_readSigns 80 = .ok (.ireturn, 1) := by decide +kernel
theorem dX10_readSigns_81 : decode cX10_readSigns 81 = .ok (.iload_n 2, 1) := by decide +kernel
theorem dX10_readSigns_82 : decode cX10_readSigns 82 = .ok (.invokestatic 145, 3) := by decide +kernel
theorem dX10_readSigns_85 : decode cX10_readSigns 85 = .ok (.istore_n 3, 1) := by decide +kernel
theorem dX10_readSigns_86 : decode cX10_readSigns 86 = .ok (.iload_n 3, 1) := by decide +kernel
theorem dX10_readSigns_87 : decode cX10_readSigns 87 = .ok (.ifCond .eq 33, 3) := by decide +kernel
theorem dX10_readSigns_90 : decode cX10_readSigns 90 = .ok (.aload_n 0, 1) := by decide +kernel
theorem dX10_readSigns_91 : decode cX10_readSigns 91 = .ok (.getfield 28, 3) := by decide +kernel
theorem dX10_readSigns_94 : decode cX10_readSigns 94 = .ok (.iload_n 1, 1) := by decide +kernel
theorem dX10_readSigns_95 : decode cX10_readSigns 95 = .ok (.iaload, 1) := by decide +kernel
theorem dX10_readSigns_96 : decode cX10_readSigns 96 = .ok (.ifCond .le 24, 3) := by decide +kernel
theorem dX10_readSigns_99 : decode cX10_readSigns 99 = .ok (.aload_n 0, 1) := by decide +kernel
theorem dX10_readSigns_100 : decode cX10_readSigns 100 = .ok (.aload_n 0, 1) := by decide +kernel
theorem dX10_readSigns_101 : decode cX10_readSigns 101 = .ok (.aload_n 0, 1) := by decide +kernel
theorem dX10_readSigns_102 : decode cX10_readSigns 102 = .ok (.getfield 131, 3) := by decide +kernel
theorem dX10_readSigns_105 : decode cX10_readSigns 105 = .ok (.iconst 1, 1) := by decide +kernel
theorem dX10_readSigns_106 : decode cX10_readSigns 106 = .ok (.iadd, 1) := by decide +kernel
theorem dX10_readSigns_107 : decode cX10_readSigns 107 = .ok (.invokevirtual 142, 3) := by decide +kernel
theorem dX10_readSigns_110 : decode cX10_readSigns 110 = .ok (.invokevirtual 127, 3) := by decide +kernel
theorem dX10_readSigns_113 : decode cX10_readSigns 113 = .ok (.bipush 61, 2) := by decide +kernel
theorem dX10_readSigns_115 : decode cX10_readSigns 115 = .ok (.if_icmp .ne 5, 3) := by decide +kernel
theorem dX10_readSigns_118 : decode cX10_readSigns 118 = .ok (.iconst 1, 1) := by decide +kernel
theorem dX10_readSigns_119 : decode cX10_readSigns 119 = .ok (.ireturn, 1) := by decide +kernel
theorem dX10_readSigns_120 : decode cX10_readSigns 120 = .ok (.iload_n 3, 1) := by decide +kernel
theorem dX10_readSigns_121 : decode cX10_readSigns 121 = .ok (.ifCond .ne 21, 3) := by decide +kernel
theorem dX10_readSigns_124 : decode cX10_readSigns 124 = .ok (.iload_n 2, 1) := by decide +kernel
theorem dX10_readSigns_125 : decode cX10_readSigns 125 = .ok (.bipush 48, 2) := by decide +kernel
theorem dX10_readSigns_127 : decode cX10_readSigns 127 = .ok (.if_icmp .lt 9, 3) := by decide +kernel
theorem dX10_readSigns_130 : decode cX10_readSigns 130 = .ok (.iload_n 2, 1) := by decide +kernel
theorem dX10_readSigns_131 : decode cX10_readSigns 131 = .ok (.bipush 54, 2) := by decide +kernel
theorem dX10_readSigns_133 : decode cX10_readSigns 133 = .ok (.if_icmp .le 9, 3) := by decide +kernel
theorem dX10_readSigns_136 : decode cX10_readSigns 136 = .ok (.iload_n 2, 1) := by decide +kernel
theorem dX10_readSigns_137 : decode cX10_readSigns 137 = .ok (.bipush 114, 2) := by decide +kernel
theorem dX10_readSigns_139 : decode cX10_readSigns 139 = .ok (.if_icmp .ne 7, 3) := by decide +kernel
theorem dX10_readSigns_142 : decode cX10_readSigns 142 = .ok (.iconst 1, 1) := by decide +kernel
theorem dX10_readSigns_143 : decode cX10_readSigns 143 = .ok (.goto 4, 3) := by decide +kernel
theorem dX10_readSigns_146 : decode cX10_readSigns 146 = .ok (.iconst 0, 1) := by decide +kernel
theorem dX10_readSigns_147 : decode cX10_readSigns 147 = .ok (.istore 4, 2) := by decide +kernel
theorem dX10_readSigns_149 : decode cX10_readSigns 149 = .ok (.iload 4, 2) := by decide +kernel
theorem dX10_readSigns_151 : decode cX10_readSigns 151 = .ok (.ifCond .eq 26, 3) := by decide +kernel
theorem dX10_readSigns_154 : decode cX10_readSigns 154 = .ok (.aload_n 0, 1) := by decide +kernel
theorem dX10_readSigns_155 : decode cX10_readSigns 155 = .ok (.getfield 28, 3) := by decide +kernel
theorem dX10_readSigns_158 : decode cX10_readSigns 158 = .ok (.iload_n 1, 1) := by decide +kernel
theorem dX10_readSigns_159 : decode cX10_readSigns 159 = .ok (.iaload, 1) := by decide +kernel
theorem dX10_readSigns_160 : decode cX10_readSigns 160 = .ok (.bipush 12, 2) := by decide +kernel
theorem dX10_readSigns_162 : decode cX10_readSigns 162 = .ok (.if_icmp .eq 15, 3) := by decide +kernel
theorem dX10_readSigns_165 : decode cX10_readSigns 165 = .ok (.aload_n 0, 1) := by decide +kernel
theorem dX10_readSigns_166 : decode cX10_readSigns 166 = .ok (.getfield 52, 3) := by decide +kernel
theorem dX10_readSigns_169 : decode cX10_readSigns 169 = .ok (.iconst 1, 1) := by decide +kernel
theorem dX10_readSigns_170 : decode cX10_readSigns 170 = .ok (.iaload, 1) := by decide +kernel
theorem dX10_readSigns_171 : decode cX10_readSigns 171 = .ok (.sipush 240, 3) := by decide +kernel
theorem dX10_readSigns_174 : decode cX10_readSigns 174 = .ok (.if_icmp .ne 14, 3) := by decide +kernel
theorem dX10_readSigns_177 : decode cX10_readSigns 177 = .ok (.aload_n 0, 1) := by decide +kernel
theorem dX10_readSigns_178 : decode cX10_readSigns 178 = .ok (.aload_n 0, 1) := by decide +kernel
theorem dX10_readSigns_179 : decode cX10_readSigns 179 = .ok (.getfield 131, 3) := by decide +kernel
theorem dX10_readSigns_182 : decode cX10_readSigns 182 = .ok (.invokevirtual 138, 3) := by decide +kernel
theorem dX10_readSigns_185 : decode cX10_readSigns 185 = .ok (.goto 38, 3) := by decide +kernel
theorem dX10_readSigns_188 : decode cX10_readSigns 188 = .ok (.aload_n 0, 1) := by decide +kernel
theorem dX10_readSigns_189 : decode cX10_readSigns 189 = .ok (.sipush 241, 3) := by decide +kernel
theorem dX10_readSigns_192 : decode cX10_readSigns 192 = .ok (.aload_n 0, 1) := by decide +kernel
theorem dX10_readSigns_193 : decode cX10_readSigns 193 = .ok (.getfield 52, 3) := by decide +kernel
theorem dX10_readSigns_196 : decode cX10_readSigns 196 = .ok (.iconst 1, 1) := by decide +kernel
theorem dX10_readSigns_197 : decode cX10_readSigns 197 = .ok (.iaload, 1) := by decide +kernel
theorem dX10_readSigns_198 : decode cX10_readSigns 198 = .ok (.iadd, 1) := by decide +kernel
theorem dX10_readSigns_199 : decode cX10_readSigns 199 = .ok (.iload_n 2, 1) := by decide +kernel
theorem dX10_readSigns_200 : decode cX10_readSigns 200 = .ok (.invokevirtual 159, 3) := by decide +kernel
theorem dX10_readSigns_203 : decode cX10_readSigns 203 = .ok (.aload_n 0, 1) := by decide +kernel
theorem dX10_readSigns_204 : decode cX10_readSigns 204 = .ok (.getfield 28, 3) := by decide +kernel
theorem dX10_readSigns_207 : decode cX10_readSigns 207 = .ok (.iload_n 1, 1) := by decide +kernel
theorem dX10_readSigns_208 : decode cX10_readSigns 208 = .ok (.dup2, 1) := by decide +kernel
theorem dX10_readSigns_209 : decode cX10_readSigns 209 = .ok (.iaload, 1) := by decide +kernel
theorem dX10_readSigns_210 : decode cX10_readSigns 210 = .ok (.iconst 1, 1) := by decide +kernel
theorem dX10_readSigns_211 : decode cX10_readSigns 211 = .ok (.iadd, 1) := by decide +kernel
theorem dX10_readSigns_212 : decode cX10_readSigns 212 = .ok (.iastore, 1) := by decide +kernel
theorem dX10_readSigns_213 : decode cX10_readSigns 213 = .ok (.aload_n 0, 1) := by decide +kernel
theorem dX10_readSigns_214 : decode cX10_readSigns 214 = .ok (.getfield 52, 3) := by decide +kernel
theorem dX10_readSigns_217 : decode cX10_readSigns 217 = .ok (.iconst 1, 1) := by decide +kernel
theorem dX10_readSigns_218 : decode cX10_readSigns 218 = .ok (.dup2, 1) := by decide +kernel
theorem dX10_readSigns_219 : decode cX10_readSigns 219 = .ok (.iaload, 1) := by decide +kernel
theorem dX10_readSigns_220 : decode cX10_readSigns 220 = .ok (.iconst 1, 1) := by decide +kernel
theorem dX10_readSigns_221 : decode cX10_readSigns 221 = .ok (.iadd, 1) := by decide +kernel
theorem dX10_readSigns_222 : decode cX10_readSigns 222 = .ok (.iastore, 1) := by decide +kernel
theorem dX10_readSigns_223 : decode cX10_readSigns 223 = .ok (.goto (-213), 3) := by decide +kernel
theorem dX10_readSigns_226 : decode cX10_readSigns 226 = .ok (.iconst 2, 1) := by decide +kernel
theorem dX10_readSigns_227 : decode cX10_readSigns 227 = .ok (.ireturn, 1) := by decide +kernel
set_option maxRecDepth 20000 in
theorem ggX10_readSign_X10_isLetter : GoodIn wsX10_readSign wsX10_isLetter := goodIn_r _ [10] (by decide +kernel) (by decide +kernel)
set_option maxRecDepth 20000 in
theorem gX10_readSign_X10_isLetter : GoodIn wsX10_readSign (va_wsS RX10 145 yX10_isLetter wsX10_isLetter) := goodIn_app (goodIn_of _ (by decide +kernel)) ggX10_readSign_X10_isLetter
set_option maxRecDepth 20000 in
theorem ggX10_readSign_X10_peek : GoodIn wsX10_readSign wsX10_peek := goodIn_r _ [14, 15, 16, 29, 30, 31, 32, 33, 34, 35, 36, 37, 38, 39, 40, 41, 42, 43, 44, 45, 46, 47, 48, 49, 50, 51, 52, 53, 54, 55, 56, 57, 58, 59, 60, 61, 62, 63, 64, 65, 66, 67, 68, 69, 70, 71, 72, 73, 74, 75, 76, 77, 78, 79, 80, 81] (by decide +kernel) (by decide +kernel)
set_option maxRecDepth 20000 in
theorem gX10_readSign_X10_peek : GoodIn wsX10_readSign (wsV RX10 127 RX10 yX10_peek wsX10_peek) := goodIn_app (goodIn_of _ (by decide +kernel)) ggX10_readSign_X10_peek
set_option maxRecDepth 20000 in
theorem ggX10_readSign_X10_readLength : GoodIn wsX10_readSign wsX10_readLength := goodIn_r _ [20, 2, 4, 11, 12, 13, 9, 14, 15, 16, 21, 22, 23, 24, 25, 26, 27, 28, 29, 30, 31, 32, 33, 34, 35, 36, 37, 38, 39, 40, 41, 42, 43, 44, 45, 46, 47, 48, 49, 50, 51, 52, 53, 54, 55, 56, 57, 58, 59, 60, 61, 62, 63, 64, 65, 66, 67, 68, 69, 70, 71, 72, 73, 74, 75, 76, 77, 78, 79, 80, 81] (by decide +kernel) (by decide +kernel)
set_option maxRecDepth 20000 in
theorem gX10_readSign_X10_readLength : GoodIn wsX10_readSign (wsV RX10 163 RX10 yX10_readLength wsX10_readLength) := goodIn_app (goodIn_of _ (by decide +kernel)) ggX10_readSign_X10_readLength
theorem dX10_readSign_0 : decode cX10_readSign 0 = .ok (.aload_n 0, 1) := by decide +kernel
theorem dX10_readSign_1 : decode cX10_readSign 1 = .ok (.getfield 43, 3) := by decide +kernel
theorem dX10_readSign_4 : decode cX10_readSign 4 = .ok (.iload_n 1, 1) := by decide +kernel
theorem dX10_readSign_5 : decode cX10_readSign 5 = .ok (.aload_n 0, 1) := by decide +kernel
theorem dX10_readSign_6 : decode cX10_readSign 6 = .ok (.getfield 131, 3) := by decide +kernel
theorem dX10_readSign_9 : decode cX10_readSign 9 = .ok (.iastore, 1) := by decide +kernel
theorem dX10_readSign_10 : decode cX10_readSign 10 = .ok (.aload_n 0, 1) := by decide +kernel
theorem dX10_readSign_11 : decode cX10_readSign 11 = .ok (.getfield 37, 3) := by decide +kernel
theorem dX10_readSign_14 : decode cX10_readSign 14 = .ok (.iload_n 1, 1) := by decide +kernel
theorem dX10_readSign_15 : decode cX10_readSign 15 = .ok (.iconst 0, 1) := by decide +kernel
theorem dX10_readSign_16 : decode cX10_readSign 16 = .ok (.iastore, 1) := by decide +kernel
theorem dX10_readSign_17 : decode cX10_readSign 17 = .ok (.aload_n 0, 1) := by decide +kernel
theorem dX10_readSign_18 : decode cX10_readSign 18 = .ok (.getfield 40, 3) := by decide +kernel
theorem dX10_readSign_21 : decode cX10_readSign 21 = .ok (.iload_n 1, 1) := by decide +kernel
theorem dX10_readSign_22 : decode cX10_readSign 22 = .ok (.iconst 4, 1) := by decide +kernel
theorem dX10_readSign_23 : decode cX10_readSign 23 = .ok (.iastore, 1) := by decide +kernel
theorem dX10_readSign_24 : decode cX10_readSign 24 = .ok (.aload_n 0, 1) := by decide +kernel
theorem dX10_readSign_25 : decode cX10_readSign 25 = .ok (.dup, 1) := by decide +kernel
theorem dX10_readSign_26 : decode cX10_readSign 26 = .ok (.getfield 131, 3) := by decide +kernel
theorem dX10_readSign_29 : decode cX10_readSign 29 = .ok (.iconst 1, 1) := by decide +kernel
theorem dX10_readSign_30 : decode cX10_readSign 30 = .ok (.iadd, 1) := by decide +kernel
theorem dX10_readSign_31 : decode cX10_readSign 31 = .ok (.putfield 131, 3) := by decide +kernel
theorem dX10_readSign_34 : decode cX10_readSign 34 = .ok (.iload_n 2, 1) := by decide +kernel
theorem dX10_readSign_35 : decode cX10_readSign 35 = .ok (.invokestatic 145, 3) := by decide +kernel
theorem dX10_readSign_38 : decode cX10_readSign 38 = .ok (.ifCond .eq 21, 3) := by decide +kernel
theorem dX10_readSign_41 : decode cX10_readSign 41 = .ok (.aload_n 0, 1) := by decide +kernel
theorem dX10_readSign_42 : decode cX10_readSign 42 = .ok (.getfield 31, 3) := by decide +kernel
theorem dX10_readSign_45 : decode cX10_readSign 45 = .ok (.iload_n 1, 1) := by decide +kernel
theorem dX10_readSign_46 : decode cX10_readSign 46 = .ok (.iconst 0, 1) := by decide +kernel
theorem dX10_readSign_47 : decode cX10_readSign 47 = .ok (.iastore, 1) := by decide +kernel
theorem dX10_readSign_48 : decode cX10_readSign 48 = .ok (.aload_n 0, 1) := by decide +kernel
theorem dX10_readSign_49 : decode cX10_readSign 49 = .ok (.getfield 34, 3) := by decide +kernel
theorem dX10_readSign_52 : decode cX10_readSign 52 = .ok (.iload_n 1, 1) := by decide +kernel
theorem dX10_readSign_53 : decode cX10_readSign 53 = .ok (.iload_n 2, 1) := by decide +kernel
theorem dX10_readSign_54 : decode cX10_readSign 54 = .ok (.bipush 65, 2) := by decide +kernel
theorem dX10_readSign_56 : decode cX10_readSign 56 = .ok (.isub, 1) := by decide +kernel
theorem dX10_readSign_57 : decode cX10_readSign 57 = .ok (.iastore, 1) := by decide +kernel
theorem dX10_readSign_58 : decode cX10_readSign 58 = .ok (.return_, 1) := by decide +kernel
theorem dX10_readSign_59 : decode cX10_readSign 59 = .ok (.aload_n 0, 1) := by decide +kernel
theorem dX10_readSign_60 : decode cX10_readSign 60 = .ok (.getfield 31, 3) := by decide +kernel
theorem dX10_readSign_63 : decode cX10_readSign 63 = .ok (.iload_n 1, 1) := by decide +kernel
theorem dX10_readSign_64 : decode cX10_readSign 64 = .ok (.iload_n 2, 1) := by decide +kernel
theorem dX10_readSign_65 : decode cX10_readSign 65 = .ok (.bipush 114, 2) := by decide +kernel
theorem dX10_readSign_67 : decode cX10_readSign 67 = .ok (.if_icmp .ne 7, 3) := by decide +kernel
theorem dX10_readSign_70 : decode cX10_readSign 70 = .ok (.iconst 2, 1) := by decide +kernel
theorem dX10_readSign_71 : decode cX10_readSign 71 = .ok (.goto 4, 3) := by decide +kernel
theorem dX10_readSign_74 : decode cX10_readSign 74 = .ok (.iconst 1, 1) := by decide +kernel
theorem dX10_readSign_75 : decode cX10_readSign 75 = .ok (.iastore, 1) := by decide +kernel
theorem dX10_readSign_76 : decode cX10_readSign 76 = .ok (.aload_n 0, 1) := by decide +kernel
theorem dX10_readSign_77 : decode cX10_readSign 77 = .ok (.getfield 34, 3) := by decide +kernel
theorem dX10_readSign_80 : decode cX10_readSign 80 = .ok (.iload_n 1, 1) := by decide +kernel
theorem dX10_readSign_81 : decode cX10_readSign 81 = .ok (.iload_n 2, 1) := by decide +kernel
theorem dX10_readSign_82 : decode cX10_readSign 82 = .ok (.bipush 48, 2) := by decide +kernel
theorem dX10_readSign_84 : decode cX10_readSign 84 = .ok (.isub, 1) := by decide +kernel
theorem dX10_readSign_85 : decode cX10_readSign 85 = .ok (.iastore, 1) := by decide +kernel
theorem dX10_readSign_86 : decode cX10_readSign 86 = .ok (.iload_n 2, 1) := by decide +kernel
theorem dX10_readSign_87 : decode cX10_readSign 87 = .ok (.bipush 114, 2) := by decide +kernel
theorem dX10_readSign_89 : decode cX10_readSign 89 = .ok (.if_icmp .eq 81, 3) := by decide +kernel
theorem dX10_readSign_92 : decode cX10_readSign 92 = .ok (.aload_n 0, 1) := by decide +kernel
theorem dX10_readSign_93 : decode cX10_readSign 93 = .ok (.aload_n 0, 1) := by decide +kernel
theorem dX10_readSign_94 : decode cX10_readSign 94 = .ok (.getfield 131, 3) := by decide +kernel
theorem dX10_readSign_97 : decode cX10_readSign 97 = .ok (.invokevirtual 127, 3) := by decide +kernel
theorem dX10_readSign_100 : decode cX10_readSign 100 = .ok (.istore_n 3, 1) := by decide +kernel
theorem dX10_readSign_101 : decode cX10_readSign 101 = .ok (.iconst 0, 1) := by decide +kernel
theorem dX10_readSign_102 : decode cX10_readSign 102 = .ok (.istore 4, 2) := by decide +kernel
theorem dX10_readSign_104 : decode cX10_readSign 104 = .ok (.iload_n 3, 1) := by decide +kernel
theorem dX10_readSign_105 : decode cX10_readSign 105 = .ok (.bipush 39, 2) := by decide +kernel
theorem dX10_readSign_107 : decode cX10_readSign 107 = .ok (.if_icmp .eq 9, 3) := by decide +kernel
theorem dX10_readSign_110 : decode cX10_readSign 110 = .ok (.iload_n 3, 1) := by decide +kernel
theorem dX10_readSign_111 : decode cX10_readSign 111 = .ok (.bipush 44, 2) := by decide +kernel
theorem dX10_readSign_113 : decode cX10_readSign 113 = .ok (.if_icmp .ne 37, 3) := by decide +kernel
theorem dX10_readSign_116 : decode cX10_readSign 116 = .ok (.aload_n 0, 1) := by decide +kernel
theorem dX10_readSign_117 : decode cX10_readSign 117 = .ok (.aload_n 0, 1) := by decide +kernel
theorem dX10_readSign_118 : decode cX10_readSign 118 = .ok (.getfield 131, 3) := by decide +kernel
theorem dX10_readSign_121 : decode cX10_readSign 121 = .ok (.invokevirtual 127, 3) := by decide +kernel
theorem dX10_readSign_124 : decode cX10_readSign 124 = .ok (.iload_n 3, 1) := by decide +kernel
theorem dX10_readSign_125 : decode cX10_readSign 125 = .ok (.if_icmp .ne 25, 3) := by decide +kernel
theorem dX10_readSign_128 : decode cX10_readSign 128 = .ok (.iload 4, 2) := by decide +kernel
theorem dX10_readSign_130 : decode cX10_readSign 130 = .ok (.iconst 2, 1) := by decide +kernel
theorem dX10_readSign_131 : decode cX10_readSign 131 = .ok (.if_icmp .ge 19, 3) := by decide +kernel
theorem dX10_readSign_134 : decode cX10_readSign 134 = .ok (.iinc 4 1, 3) := by decide +kernel
theorem dX10_readSign_137 : decode cX10_readSign 137 = .ok (.aload_n 0, 1) := by decide +kernel
theorem dX10_readSign_138 : decode cX10_readSign 138 = .ok (.dup, 1) := by decide +kernel
theorem dX10_readSign_139 : decode cX10_readSign 139 = .ok (.getfield 131, 3) := by decide +kernel
theorem dX10_readSign_142 : decode cX10_readSign 142 = .ok (.iconst 1, 1) := by decide +kernel
theorem dX10_readSign_143 : decode cX10_readSign 143 = .ok (.iadd, 1) := by decide +kernel
theorem dX10_readSign_144 : decode cX10_readSign 144 = .ok (.putfield 131, 3) := by decide +kernel
theorem dX10_readSign_147 : decode cX10_readSign 147 = .ok (.goto (-43), 3) := by decide +kernel
theorem dX10_readSign_150 : decode cX10_readSign 150 = .ok (.aload_n 0, 1) := by decide +kernel
theorem dX10_readSign_151 : decode cX10_readSign 151 = .ok (.getfield 37, 3) := by decide +kernel
theorem dX10_readSign_154 : decode cX10_readSign 154 = .ok (.iload_n 1, 1) := by decide +kernel
theorem dX10_readSign_155 : decode cX10_readSign 155 = .ok (.iload_n 3, 1) := by decide +kernel
theorem dX10_readSign_156 : decode cX10_readSign 156 = .ok (.bipush 44, 2) := by decide +kernel
theorem dX10_readSign_158 : decode cX10_readSign 158 = .ok (.if_icmp .ne 9, 3) := by decide +kernel
theorem dX10_readSign_161 : decode cX10_readSign 161 = .ok (.iload 4, 2) := by decide +kernel
theorem dX10_readSign_163 : decode cX10_readSign 163 = .ok (.ineg, 1) := by decide +kernel
theorem dX10_readSign_164 : decode cX10_readSign 164 = .ok (.goto 5, 3) := by decide +kernel
theorem dX10_readSign_167 : decode cX10_readSign 167 = .ok (.iload 4, 2) := by decide +kernel
theorem dX10_readSign_169 : decode cX10_readSign 169 = .ok (.iastore, 1) := by decide +kernel
theorem dX10_readSign_170 : decode cX10_readSign 170 = .ok (.aload_n 0, 1) := by decide +kernel
theorem dX10_readSign_171 : decode cX10_readSign 171 = .ok (.aload_n 0, 1) := by decide +kernel
theorem dX10_readSign_172 : decode cX10_readSign 172 = .ok (.getfield 131, 3) := by decide +kernel
theorem dX10_readSign_175 : decode cX10_readSign 175 = .ok (.invokevirtual 127, 3) := by decide +kernel
theorem dX10_readSign_178 : decode cX10_readSign 178 = .ok (.bipush 58, 2) := by decide +kernel
theorem dX10_readSign_180 : decode cX10_readSign 180 = .ok (.if_icmp .ne 18, 3) := by decide +kernel
theorem dX10_readSign_183 : decode cX10_readSign 183 = .ok (.aload_n 0, 1) := by decide +kernel
theorem dX10_readSign_184 : decode cX10_readSign 184 = .ok (.dup, 1) := by decide +kernel
theorem dX10_readSign_185 : decode cX10_readSign 185 = .ok (.getfield 131, 3) := by decide +kernel
theorem dX10_readSign_188 : decode cX10_readSign 188 = .ok (.iconst 1, 1) := by decide +kernel
theorem dX10_readSign_189 : decode cX10_readSign 189 = .ok (.iadd, 1) := by decide +kernel
theorem dX10_readSign_190 : decode cX10_readSign 190 = .ok (.putfield 131, 3) := by decide +kernel
theorem dX10_readSign_193 : decode cX10_readSign 193 = .ok (.aload_n 0, 1) := by decide +kernel
theorem dX10_readSign_194 : decode cX10_readSign 194 = .ok (.iload_n 1, 1) := by decide +kernel
theorem dX10_readSign_195 : decode cX10_readSign 195 = .ok (.invokevirtual 163, 3) := by decide +kernel
theorem dX10_readSign_198 : decode cX10_readSign 198 = .ok (.return_, 1) := by decide +kernel
set_option maxRecDepth 20000 in
theorem ggX10_readLength_X10_peek : GoodIn wsX10_readLength wsX10_peek := goodIn_r _ [7, 8, 9, 18, 19, 20, 21, 22, 23, 24, 25, 26, 27, 28, 29, 30, 31, 32, 33, 34, 35, 36, 37, 38, 39, 40, 41, 42, 43, 44, 45, 46, 47, 48, 49, 50, 51, 52, 53, 54, 55, 56, 57, 58, 59, 60, 61, 62, 63, 64, 65, 66, 67, 68, 69, 70] (by decide +kernel) (by decide +kernel)
set_option maxRecDepth 20000 in
theorem gX10_readLength_X10_peek : GoodIn wsX10_readLength (wsV RX10 127 RX10 yX10_peek wsX10_peek) := goodIn_app (goodIn_of _ (by decide +kernel)) ggX10_readLength_X10_peek
set_option maxRecDepth 20000 in
theorem ggX10_readLength_X10_fail : GoodIn wsX10_readLength wsX10_fail := goodIn_r _ [13, 14, 18, 19, 20, 21, 22, 23, 24, 25, 26, 27, 28, 29, 30, 31, 32, 33, 34, 35, 36, 37, 38, 39, 40, 41, 42, 43, 44, 45, 46, 47, 48, 49, 50, 51, 52, 53, 54, 55, 56, 57, 58, 59, 60, 61, 62, 63, 64, 65, 66, 67, 68, 69, 70] (by decide +kernel) (by decide +kernel)
set_option maxRecDepth 20000 in
theorem gX10_readLength_X10_fail : GoodIn wsX10_readLength (wsV RX10 138 RX10 yX10_fail wsX10_fail) := goodIn_app (goodIn_of _ (by decide +kernel)) ggX10_readLength_X10_fail
set_option maxRecDepth 20000 in
theorem ggX10_readLength_X10_isDigit : GoodIn wsX10_readLength wsX10_isDigit := goodIn_r _ [17] (by decide +kernel) (by decide +kernel)
set_option maxRecDepth 20000 in
theorem gX10_readLength_X10_isDigit : GoodIn wsX10_readLength (va_wsS RX10 156 yX10_isDigit wsX10_isDigit) := goodIn_app (goodIn_of _ (by decide +kernel)) ggX10_readLength_X10_isDigit
theorem dX10_readLength_0 : decode cX10_readLength 0 = .ok (.aload_n 0, 1) := by decide +kernel
theorem dX10_readLength_1 : decode cX10_readLength 1 = .ok (.aload_n 0, 1) := by decide +kernel
theorem dX10_readLength_2 : decode cX10_readLength 2 = .ok (.getfield 131, 3) := by decide +kernel
theorem dX10_readLength_5 : decode cX10_readLength 5 = .ok (.invokevirtual 127, 3) := by decide +kernel
theorem dX10_readLength_8 : decode cX10_readLength 8 = .ok (.istore_n 2, 1) := by decide +kernel
theorem dX10_readLength_9 : decode cX10_readLength 9 = .ok (.iload_n 2, 1) := by decide +kernel
theorem dX10_readLength_10 : decode cX10_readLength 10 = .ok (.bipush 49, 2) := by decide +kernel
theorem dX10_readLength_12 : decode cX10_readLength 12 = .ok (.if_icmp .lt 9, 3) := by decide +kernel
theorem dX10_readLength_15 : decode cX10_readLength 15 = .ok (.iload_n 2, 1) := by decide +kernel
theorem dX10_readLength_16 : decode cX10_readLength 16 = .ok (.bipush 57, 2) := by decide +kernel
theorem dX10_readLength_18 : decode cX10_readLength 18 = .ok (.if_icmp .le 12, 3) := by decide +kernel
theorem dX10_readLength_21 : decode cX10_readLength 21 = .ok (.aload_n 0, 1) := by decide +kernel
theorem dX10_readLength_22 : decode cX10_readLength 22 = .ok (.aload_n 0, 1) := by decide +kernel
theorem dX10_readLength_23 : decode cX10_readLength 23 = .ok (.getfield 131, 3) := by decide +kernel
theorem dX10_readLength_26 : decode cX10_readLength 26 = .ok (.invokevirtual 138, 3) := by decide +kernel
theorem dX10_readLength_29 : decode cX10_readLength 29 = .ok (.return_, 1) := by decide +kernel
theorem dX10_readLength_30 : decode cX10_readLength 30 = .ok (.iload_n 2, 1) := by decide +kernel
theorem dX10_readLength_31 : decode cX10_readLength 31 = .ok (.bipush 48, 2) := by decide +kernel
theorem dX10_readLength_33 : decode cX10_readLength 33 = .ok (.isub, 1) := by decide +kernel
theorem dX10_readLength_34 : decode cX10_readLength 34 = .ok (.istore_n 3, 1) := by decide +kernel
theorem dX10_readLength_35 : decode cX10_readLength 35 = .ok (.aload_n 0, 1) := by decide +kernel
theorem dX10_readLength_36 : decode cX10_readLength 36 = .ok (.dup, 1) := by decide +kernel
theorem dX10_readLength_37 : decode cX10_readLength 37 = .ok (.getfield 131, 3) := by decide +kernel
theorem dX10_readLength_40 : decode cX10_readLength 40 = .ok (.iconst 1, 1) := by decide +kernel
theorem dX10_readLength_41 : decode cX10_readLength 41 = .ok (.iadd, 1) := by decide +kernel
theorem dX10_readLength_42 : decode cX10_readLength 42 = .ok (.putfield 131, 3) := by decide +kernel
theorem dX10_readLength_45 : decode cX10_readLength 45 = .ok (.iload_n 3, 1) := by decide +kernel
theorem dX10_readLength_46 : decode cX10_readLength 46 = .ok (.iconst 1, 1) := by decide +kernel
theorem dX10_readLength_47 : decode cX10_readLength 47 = .ok (.if_icmp .ne 54, 3) := by decide +kernel
theorem dX10_readLength_50 : decode cX10_readLength 50 = .ok (.aload_n 0, 1) := by decide +kernel
theorem dX10_readLength_51 : decode cX10_readLength 51 = .ok (.aload_n 0, 1) := by decide +kernel
theorem dX10_readLength_52 : decode cX10_readLength 52 = .ok (.getfield 131, 3) := by decide +kernel
theorem dX10_readLength_55 : decode cX10_readLength 55 = .ok (.invokevirtual 127, 3) := by decide +kernel
theorem dX10_readLength_58 : decode cX10_readLength 58 = .ok (.bipush 48, 2) := by decide +kernel
theorem dX10_readLength_60 : decode cX10_readLength 60 = .ok (.if_icmp .lt 41, 3) := by decide +kernel
theorem dX10_readLength_63 : decode cX10_readLength 63 = .ok (.aload_n 0, 1) := by decide +kernel
theorem dX10_readLength_64 : decode cX10_readLength 64 = .ok (.aload_n 0, 1) := by decide +kernel
theorem dX10_readLength_65 : decode cX10_readLength 65 = .ok (.getfield 131, 3) := by decide +kernel
theorem dX10_readLength_68 : decode cX10_readLength 68 = .ok (.invokevirtual 127, 3) := by decide +kernel
theorem dX10_readLength_71 : decode cX10_readLength 71 = .ok (.bipush 54, 2) := by decide +kernel
theorem dX10_readLength_73 : decode cX10_readLength 73 = .ok (.if_icmp .gt 28, 3) := by decide +kernel
theorem dX10_readLength_76 : decode cX10_readLength 76 = .ok (.bipush 10, 2) := by decide +kernel
theorem dX10_readLength_78 : decode cX10_readLength 78 = .ok (.aload_n 0, 1) := by decide +kernel
theorem dX10_readLength_79 : decode cX10_readLength 79 = .ok (.aload_n 0, 1) := by decide +kernel
theorem dX10_readLength_80 : decode cX10_readLength 80 = .ok (.getfield 131, 3) := by decide +kernel
theorem dX10_readLength_83 : decode cX10_readLength 83 = .ok (.invokevirtual 127, 3) := by decide +kernel
theorem dX10_readLength_86 : decode cX10_readLength 86 = .ok (.iadd, 1) := by decide +kernel
theorem dX10_readLength_87 : decode cX10_readLength 87 = .ok (.bipush 48, 2) := by decide +kernel
theorem dX10_readLength_89 : decode cX10_readLength 89 = .ok (.isub, 1) := by decide +kernel
theorem dX10_readLength_90 : decode cX10_readLength 90 = .ok (.istore_n 3, 1) := by decide +kernel
theorem dX10_readLength_91 : decode cX10_readLength 91 = .ok (.aload_n 0, 1) := by decide +kernel
theorem dX10_readLength_92 : decode cX10_readLength 92 = .ok (.dup, 1) := by decide +kernel
theorem dX10_readLength_93 : decode cX10_readLength 93 = .ok (.getfield 131, 3) := by decide +kernel
theorem dX10_readLength_96 : decode cX10_readLength 96 = .ok (.iconst 1, 1) := by decide +kernel
theorem dX10_readLength_97 : decode cX10_readLength 97 = .ok (.iadd, 1) := by decide +kernel
theorem dX10_readLength_98 : decode cX10_readLength 98 = .ok (.putfield 131, 3) := by decide +kernel
theorem dX10_readLength_101 : decode cX10_readLength 101 = .ok (.aload_n 0, 1) := by decide +kernel
theorem dX10_readLength_102 : decode cX10_readLength 102 = .ok (.aload_n 0, 1) := by decide +kernel
theorem dX10_readLength_103 : decode cX10_readLength 103 = .ok (.getfield 131, 3) := by decide +kernel
theorem dX10_readLength_106 : decode cX10_readLength 106 = .ok (.invokevirtual 127, 3) := by decide +kernel
theorem dX10_readLength_109 : decode cX10_readLength 109 = .ok (.invokestatic 156, 3) := by decide +kernel
theorem dX10_readLength_112 : decode cX10_readLength 112 = .ok (.ifCond .eq 11, 3) := by decide +kernel
theorem dX10_readLength_115 : decode cX10_readLength 115 = .ok (.aload_n 0, 1) := by decide +kernel
theorem dX10_readLength_116 : decode cX10_readLength 116 = .ok (.aload_n 0, 1) := by decide +kernel
theorem dX10_readLength_117 : decode cX10_readLength 117 = .ok (.getfield 131, 3) := by decide +kernel
theorem dX10_readLength_120 : decode cX10_readLength 120 = .ok (.invokevirtual 138, 3) := by decide +kernel
theorem dX10_readLength_123 : decode cX10_readLength 123 = .ok (.aload_n 0, 1) := by decide +kernel
theorem dX10_readLength_124 : decode cX10_readLength 124 = .ok (.getfield 40, 3) := by decide +kernel
theorem dX10_readLength_127 : decode cX10_readLength 127 = .ok (.iload_n 1, 1) := by decide +kernel
theorem dX10_readLength_128 : decode cX10_readLength 128 = .ok (.iload_n 3, 1) := by decide +kernel
theorem dX10_readLength_129 : decode cX10_readLength 129 = .ok (.iastore, 1) := by decide +kernel
theorem dX10_readLength_130 : decode cX10_readLength 130 = .ok (.return_, 1) := by decide +kernel
theorem dX10_rule_0 : decode cX10_rule 0 = .ok (.iload_n 1, 1) := by decide +kernel
theorem dX10_rule_1 : decode cX10_rule 1 = .ok (.ifCond .lt 18, 3) := by decide +kernel
theorem dX10_rule_4 : decode cX10_rule 4 = .ok (.iload_n 1, 1) := by decide +kernel
theorem dX10_rule_5 : decode cX10_rule 5 = .ok (.bipush 25, 2) := by decide +kernel
theorem dX10_rule_7 : decode cX10_rule 7 = .ok (.if_icmp .gt 12, 3) := by decide +kernel
theorem dX10_rule_10 : decode cX10_rule 10 = .ok (.iload_n 2, 1) := by decide +kernel
theorem dX10_rule_11 : decode cX10_rule 11 = .ok (.ifCond .lt 8, 3) := by decide +kernel
theorem dX10_rule_14 : decode cX10_rule 14 = .ok (.iload_n 2, 1) := by decide +kernel
theorem dX10_rule_15 : decode cX10_rule 15 = .ok (.iconst 1, 1) := by decide +kernel
theorem dX10_rule_16 : decode cX10_rule 16 = .ok (.if_icmp .le 6, 3) := by decide +kernel
theorem dX10_rule_19 : decode cX10_rule 19 = .ok (.bipush (-2), 2) := by decide +kernel
theorem dX10_rule_21 : decode cX10_rule 21 = .ok (.ireturn, 1) := by decide +kernel
theorem dX10_rule_22 : decode cX10_rule 22 = .ok (.aload_n 0, 1) := by decide +kernel
theorem dX10_rule_23 : decode cX10_rule 23 = .ok (.getfield 46, 3) := by decide +kernel
theorem dX10_rule_26 : decode cX10_rule 26 = .ok (.iconst 0, 1) := by decide +kernel
theorem dX10_rule_27 : decode cX10_rule 27 = .ok (.iaload, 1) := by decide +kernel
theorem dX10_rule_28 : decode cX10_rule 28 = .ok (.ifCond .eq 12, 3) := by decide +kernel
theorem dX10_rule_31 : decode cX10_rule 31 = .ok (.aload_n 0, 1) := by decide +kernel
theorem dX10_rule_32 : decode cX10_rule 32 = .ok (.getfield 19, 3) := by decide +kernel
theorem dX10_rule_35 : decode cX10_rule 35 = .ok (.iload_n 1, 1) := by decide +kernel
theorem dX10_rule_36 : decode cX10_rule 36 = .ok (.iaload, 1) := by decide +kernel
theorem dX10_rule_37 : decode cX10_rule 37 = .ok (.ifCond .ne 5, 3) := by decide +kernel
theorem dX10_rule_40 : decode cX10_rule 40 = .ok (.iconst (-1), 1) := by decide +kernel
theorem dX10_rule_41 : decode cX10_rule 41 = .ok (.ireturn, 1) := by decide +kernel
theorem dX10_rule_42 : decode cX10_rule 42 = .ok (.iconst 0, 1) := by decide +kernel
theorem dX10_rule_43 : decode cX10_rule 43 = .ok (.istore_n 3, 1) := by decide +kernel
theorem dX10_rule_44 : decode cX10_rule 44 = .ok (.iconst 0, 1) := by decide +kernel
theorem dX10_rule_45 : decode cX10_rule 45 = .ok (.istore 4, 2) := by decide +kernel
theorem dX10_rule_47 : decode cX10_rule 47 = .ok (.iload 4, 2) := by decide +kernel
theorem dX10_rule_49 : decode cX10_rule 49 = .ok (.aload_n 0, 1) := by decide +kernel
theorem dX10_rule_50 : decode cX10_rule 50 = .ok (.getfield 19, 3) := by decide +kernel
theorem dX10_rule_53 : decode cX10_rule 53 = .ok (.iload_n 1, 1) := by decide +kernel
theorem dX10_rule_54 : decode cX10_rule 54 = .ok (.iaload, 1) := by decide +kernel
theorem dX10_rule_55 : decode cX10_rule 55 = .ok (.if_icmp .ge 26, 3) := by decide +kernel
theorem dX10_rule_58 : decode cX10_rule 58 = .ok (.iload_n 3, 1) := by decide +kernel
theorem dX10_rule_59 : decode cX10_rule 59 = .ok (.aload_n 0, 1) := by decide +kernel
theorem dX10_rule_60 : decode cX10_rule 60 = .ok (.getfield 22, 3) := by decide +kernel
theorem dX10_rule_63 : decode cX10_rule 63 = .ok (.aload_n 0, 1) := by decide +kernel
theorem dX10_rule_64 : decode cX10_rule 64 = .ok (.getfield 16, 3) := by decide +kernel
theorem dX10_rule_67 : decode cX10_rule 67 = .ok (.iload_n 1, 1) := by decide +kernel
theorem dX10_rule_68 : decode cX10_rule 68 = .ok (.iaload, 1) := by decide +kernel
theorem dX10_rule_69 : decode cX10_rule 69 = .ok (.iload 4, 2) := by decide +kernel
theorem dX10_rule_71 : decode cX10_rule 71 = .ok (.iadd, 1) := by decide +kernel
theorem dX10_rule_72 : decode cX10_rule 72 = .ok (.iaload, 1) := by decide +kernel
theorem dX10_rule_73 : decode cX10_rule 73 = .ok (.iadd, 1) := by decide +kernel
theorem dX10_rule_74 : decode cX10_rule 74 = .ok (.istore_n 3, 1) := by decide +kernel
theorem dX10_rule_75 : decode cX10_rule 75 = .ok (.iinc 4 1, 3) := by decide +kernel
theorem dX10_rule_78 : decode cX10_rule 78 = .ok (.goto (-31), 3) := by decide +kernel
theorem dX10_rule_81 : decode cX10_rule 81 = .ok (.iload_n 2, 1) := by decide +kernel
theorem dX10_rule_82 : decode cX10_rule 82 = .ok (.ifCond .ne 12, 3) := by decide +kernel
theorem dX10_rule_85 : decode cX10_rule 85 = .ok (.aload_n 0, 1) := by decide +kernel
theorem dX10_rule_86 : decode cX10_rule 86 = .ok (.getfield 19, 3) := by decide +kernel
theorem dX10_rule_89 : decode cX10_rule 89 = .ok (.iload_n 1, 1) := by decide +kernel
theorem dX10_rule_90 : decode cX10_rule 90 = .ok (.iaload, 1) := by decide +kernel
theorem dX10_rule_91 : decode cX10_rule 91 = .ok (.goto 4, 3) := by decide +kernel
theorem dX10_rule_94 : decode cX10_rule 94 = .ok (.iload_n 3, 1) := by decide +kernel
theorem dX10_rule_95 : decode cX10_rule 95 = .ok (.ireturn, 1) := by decide +kernel
theorem dX10_want_0 : decode cX10_want 0 = .ok (.iload_n 1, 1) := by decide +kernel
theorem dX10_want_1 : decode cX10_want 1 = .ok (.ifCond .lt 9, 3) := by decide +kernel
theorem dX10_want_4 : decode cX10_want 4 = .ok (.iload_n 1, 1) := by decide +kernel
theorem dX10_want_5 : decode cX10_want 5 = .ok (.bipush 6, 2) := by decide +kernel
theorem dX10_want_7 : decode cX10_want 7 = .ok (.if_icmp .le 6, 3) := by decide +kernel
theorem dX10_want_10 : decode cX10_want 10 = .ok (.bipush (-2), 2) := by decide +kernel
theorem dX10_want_12 : decode cX10_want 12 = .ok (.ireturn, 1) := by decide +kernel
theorem dX10_want_13 : decode cX10_want 13 = .ok (.iload_n 1, 1) := by decide +kernel
theorem dX10_want_14 : decode cX10_want 14 = .ok (.iconst 5, 1) := by decide +kernel
theorem dX10_want_15 : decode cX10_want 15 = .ok (.if_icmp .ne 7, 3) := by decide +kernel
theorem dX10_want_18 : decode cX10_want 18 = .ok (.iconst (-1), 1) := by decide +kernel
theorem dX10_want_19 : decode cX10_want 19 = .ok (.goto 14, 3) := by decide +kernel
theorem dX10_want_22 : decode cX10_want 22 = .ok (.iload_n 1, 1) := by decide +kernel
theorem dX10_want_23 : decode cX10_want 23 = .ok (.bipush 6, 2) := by decide +kernel
theorem dX10_want_25 : decode cX10_want 25 = .ok (.if_icmp .ne 7, 3) := by decide +kernel
theorem dX10_want_28 : decode cX10_want 28 = .ok (.iconst 1, 1) := by decide +kernel
theorem dX10_want_29 : decode cX10_want 29 = .ok (.goto 4, 3) := by decide +kernel
theorem dX10_want_32 : decode cX10_want 32 = .ok (.iconst 0, 1) := by decide +kernel
theorem dX10_want_33 : decode cX10_want 33 = .ok (.istore_n 3, 1) := by decide +kernel
theorem dX10_want_34 : decode cX10_want 34 = .ok (.iload_n 1, 1) := by decide +kernel
theorem dX10_want_35 : decode cX10_want 35 = .ok (.iconst 4, 1) := by decide +kernel
theorem dX10_want_36 : decode cX10_want 36 = .ok (.if_icmp .ge 8, 3) := by decide +kernel
theorem dX10_want_39 : decode cX10_want 39 = .ok (.bipush 127, 2) := by decide +kernel
theorem dX10_want_41 : decode cX10_want 41 = .ok (.goto 25, 3) := by decide +kernel
theorem dX10_want_44 : decode cX10_want 44 = .ok (.iload_n 1, 1) := by decide +kernel
theorem dX10_want_45 : decode cX10_want 45 = .ok (.iconst 4, 1) := by decide +kernel
theorem dX10_want_46 : decode cX10_want 46 = .ok (.if_icmp .ne 7, 3) := by decide +kernel
theorem dX10_want_49 : decode cX10_want 49 = .ok (.iconst 1, 1) := by decide +kernel
theorem dX10_want_50 : decode cX10_want 50 = .ok (.goto 16, 3) := by decide +kernel
theorem dX10_want_53 : decode cX10_want 53 = .ok (.iload_n 1, 1) := by decide +kernel
theorem dX10_want_54 : decode cX10_want 54 = .ok (.iconst 5, 1) := by decide +kernel
theorem dX10_want_55 : decode cX10_want 55 = .ok (.if_icmp .ne 8, 3) := by decide +kernel
theorem dX10_want_58 : decode cX10_want 58 = .ok (.bipush 6, 2) := by decide +kernel
theorem dX10_want_60 : decode cX10_want 60 = .ok (.goto 6, 3) := by decide +kernel
theorem dX10_want_63 : decode cX10_want 63 = .ok (.sipush 3000, 3) := by decide +kernel
theorem dX10_want_66 : decode cX10_want 66 = .ok (.istore 4, 2) := by decide +kernel
theorem dX10_want_68 : decode cX10_want 68 = .ok (.iload_n 2, 1) := by decide +kernel
theorem dX10_want_69 : decode cX10_want 69 = .ok (.iload_n 3, 1) := by decide +kernel
theorem dX10_want_70 : decode cX10_want 70 = .ok (.if_icmp .lt 9, 3) := by decide +kernel
theorem dX10_want_73 : decode cX10_want 73 = .ok (.iload_n 2, 1) := by decide +kernel
theorem dX10_want_74 : decode cX10_want 74 = .ok (.iload 4, 2) := by decide +kernel
theorem dX10_want_76 : decode cX10_want 76 = .ok (.if_icmp .le 6, 3) := by decide +kernel
theorem dX10_want_79 : decode cX10_want 79 = .ok (.bipush (-2), 2) := by decide +kernel
theorem dX10_want_81 : decode cX10_want 81 = .ok (.ireturn, 1) := by decide +kernel
theorem dX10_want_82 : decode cX10_want 82 = .ok (.aload_n 0, 1) := by decide +kernel
theorem dX10_want_83 : decode cX10_want 83 = .ok (.getfield 58, 3) := by decide +kernel
theorem dX10_want_86 : decode cX10_want 86 = .ok (.iload_n 1, 1) := by decide +kernel
theorem dX10_want_87 : decode cX10_want 87 = .ok (.iaload, 1) := by decide +kernel
theorem dX10_want_88 : decode cX10_want 88 = .ok (.istore 5, 2) := by decide +kernel
theorem dX10_want_90 : decode cX10_want 90 = .ok (.aload_n 0, 1) := by decide +kernel
theorem dX10_want_91 : decode cX10_want 91 = .ok (.getfield 58, 3) := by decide +kernel
theorem dX10_want_94 : decode cX10_want 94 = .ok (.iload_n 1, 1) := by decide +kernel
theorem dX10_want_95 : decode cX10_want 95 = .ok (.iload_n 2, 1) := by decide +kernel
theorem dX10_want_96 : decode cX10_want 96 = .ok (.iastore, 1) := by decide +kernel
theorem dX10_want_97 : decode cX10_want 97 = .ok (.iload 5, 2) := by decide +kernel
theorem dX10_want_99 : decode cX10_want 99 = .ok (.ireturn, 1) := by decide +kernel
theorem dX10_draw_0 : decode cX10_draw 0 = .ok (.aload_n 0, 1) := by decide +kernel
theorem dX10_draw_1 : decode cX10_draw 1 = .ok (.dup, 1) := by decide +kernel
theorem dX10_draw_2 : decode cX10_draw 2 = .ok (.getfield 166, 3) := by decide +kernel
theorem dX10_draw_5 : decode cX10_draw 5 = .ok (.ldc2_w 170, 3) := by decide +kernel
theorem dX10_draw_8 : decode cX10_draw 8 = .ok (.ladd, 1) := by decide +kernel
theorem dX10_draw_9 : decode cX10_draw 9 = .ok (.putfield 166, 3) := by decide +kernel
theorem dX10_draw_12 : decode cX10_draw 12 = .ok (.aload_n 0, 1) := by decide +kernel
theorem dX10_draw_13 : decode cX10_draw 13 = .ok (.getfield 166, 3) := by decide +kernel
theorem dX10_draw_16 : decode cX10_draw 16 = .ok (.lstore_n 1, 1) := by decide +kernel
theorem dX10_draw_17 : decode cX10_draw 17 = .ok (.lload_n 1, 1) := by decide +kernel
theorem dX10_draw_18 : decode cX10_draw 18 = .ok (.lload_n 1, 1) := by decide +kernel
theorem dX10_draw_19 : decode cX10_draw 19 = .ok (.bipush 30, 2) := by decide +kernel
theorem dX10_draw_21 : decode cX10_draw 21 = .ok (.lushr, 1) := by decide +kernel
theorem dX10_draw_22 : decode cX10_draw 22 = .ok (.lxor, 1) := by decide +kernel
theorem dX10_draw_23 : decode cX10_draw 23 = .ok (.ldc2_w 172, 3) := by decide +kernel
theorem dX10_draw_26 : decode cX10_draw 26 = .ok (.lmul, 1) := by decide +kernel
theorem dX10_draw_27 : decode cX10_draw 27 = .ok (.lstore_n 1, 1) := by decide +kernel
theorem dX10_draw_28 : decode cX10_draw 28 = .ok (.lload_n 1, 1) := by decide +kernel
theorem dX10_draw_29 : decode cX10_draw 29 = .ok (.lload_n 1, 1) := by decide +kernel
theorem dX10_draw_30 : decode cX10_draw 30 = .ok (.bipush 27, 2) := by decide +kernel
theorem dX10_draw_32 : decode cX10_draw 32 = .ok (.lushr, 1) := by decide +kernel
theorem dX10_draw_33 : decode cX10_draw 33 = .ok (.lxor, 1) := by decide +kernel
theorem dX10_draw_34 : decode cX10_draw 34 = .ok (.ldc2_w 174, 3) := by decide +kernel
theorem dX10_draw_37 : decode cX10_draw 37 = .ok (.lmul, 1) := by decide +kernel
theorem dX10_draw_38 : decode cX10_draw 38 = .ok (.lstore_n 1, 1) := by decide +kernel
theorem dX10_draw_39 : decode cX10_draw 39 = .ok (.lload_n 1, 1) := by decide +kernel
theorem dX10_draw_40 : decode cX10_draw 40 = .ok (.lload_n 1, 1) := by decide +kernel
theorem dX10_draw_41 : decode cX10_draw 41 = .ok (.bipush 31, 2) := by decide +kernel
theorem dX10_draw_43 : decode cX10_draw 43 = .ok (.lushr, 1) := by decide +kernel
theorem dX10_draw_44 : decode cX10_draw 44 = .ok (.lxor, 1) := by decide +kernel
theorem dX10_draw_45 : decode cX10_draw 45 = .ok (.iconst 1, 1) := by decide +kernel
theorem dX10_draw_46 : decode cX10_draw 46 = .ok (.lushr, 1) := by decide +kernel
theorem dX10_draw_47 : decode cX10_draw 47 = .ok (.lreturn, 1) := by decide +kernel
set_option maxRecDepth 20000 in
theorem ggX10_drawBelow_X10_draw : GoodIn wsX10_drawBelow wsX10_draw := goodIn_r _ [6, 7, 8, 9, 10, 11, 12, 13, 14, 15, 16, 17, 18, 19, 20, 21, 22, 23, 24, 25, 26, 27, 28, 29, 30, 31, 32, 33, 34, 35, 36, 37, 38, 39, 40, 41, 42, 43, 44, 45, 46, 47, 48, 49, 50, 51, 52, 53, 54, 55, 56, 57, 58, 59, 60, 61, 62, 63] (by decide +kernel) (by decide +kernel)
set_option maxRecDepth 20000 in
theorem gX10_drawBelow_X10_draw : GoodIn wsX10_drawBelow (wsV RX10 178 RX10 yX10_draw wsX10_draw) := goodIn_app (goodIn_of _ (by decide +kernel)) ggX10_drawBelow_X10_draw
theorem dX10_drawBelow_0 : decode cX10_drawBelow 0 = .ok (.ldc2_w 176, 3) := by decide +kernel
theorem dX10_drawBelow_3 : decode cX10_drawBelow 3 = .ok (.iload_n 1, 1) := by decide +kernel
theorem dX10_drawBelow_4 : decode cX10_drawBelow 4 = .ok (.i2l, 1) := by decide +kernel
theorem dX10_drawBelow_5 : decode cX10_drawBelow 5 = .ok (.lrem, 1) := by decide +kernel
theorem dX10_drawBelow_6 : decode cX10_drawBelow 6 = .ok (.lconst 1, 1) := by decide +kernel
theorem dX10_drawBelow_7 : decode cX10_drawBelow 7 = .ok (.ladd, 1) := by decide +kernel
theorem dX10_drawBelow_8 : decode cX10_drawBelow 8 = .ok (.iload_n 1, 1) := by decide +kernel
theorem dX10_drawBelow_9 : decode cX10_drawBelow 9 = .ok (.i2l, 1) := by decide +kernel
theorem dX10_drawBelow_10 : decode cX10_drawBelow 10 = .ok (.lrem, 1) := by decide +kernel
theorem dX10_drawBelow_11 : decode cX10_drawBelow 11 = .ok (.lstore_n 2, 1) := by decide +kernel
theorem dX10_drawBelow_12 : decode cX10_drawBelow 12 = .ok (.aload_n 0, 1) := by decide +kernel
theorem dX10_drawBelow_13 : decode cX10_drawBelow 13 = .ok (.invokevirtual 178, 3) := by decide +kernel
theorem dX10_drawBelow_16 : decode cX10_drawBelow 16 = .ok (.lstore 4, 2) := by decide +kernel
theorem dX10_drawBelow_18 : decode cX10_drawBelow 18 = .ok (.lload 4, 2) := by decide +kernel
theorem dX10_drawBelow_20 : decode cX10_drawBelow 20 = .ok (.ldc2_w 176, 3) := by decide +kernel
theorem dX10_drawBelow_23 : decode cX10_drawBelow 23 = .ok (.lload_n 2, 1) := by decide +kernel
theorem dX10_drawBelow_24 : decode cX10_drawBelow 24 = .ok (.lsub, 1) := by decide +kernel
theorem dX10_drawBelow_25 : decode cX10_drawBelow 25 = .ok (.lcmp, 1) := by decide +kernel
theorem dX10_drawBelow_26 : decode cX10_drawBelow 26 = .ok (.ifCond .le 12, 3) := by decide +kernel
theorem dX10_drawBelow_29 : decode cX10_drawBelow 29 = .ok (.aload_n 0, 1) := by decide +kernel
theorem dX10_drawBelow_30 : decode cX10_drawBelow 30 = .ok (.invokevirtual 178, 3) := by decide +kernel
theorem dX10_drawBelow_33 : decode cX10_drawBelow 33 = .ok (.lstore 4, 2) := by decide +kernel
theorem dX10_drawBelow_35 : decode cX10_drawBelow 35 = .ok (.goto (-17), 3) := by decide +kernel
theorem dX10_drawBelow_38 : decode cX10_drawBelow 38 = .ok (.lload 4, 2) := by decide +kernel
theorem dX10_drawBelow_40 : decode cX10_drawBelow 40 = .ok (.iload_n 1, 1) := by decide +kernel
theorem dX10_drawBelow_41 : decode cX10_drawBelow 41 = .ok (.i2l, 1) := by decide +kernel
theorem dX10_drawBelow_42 : decode cX10_drawBelow 42 = .ok (.lrem, 1) := by decide +kernel
theorem dX10_drawBelow_43 : decode cX10_drawBelow 43 = .ok (.l2i, 1) := by decide +kernel
theorem dX10_drawBelow_44 : decode cX10_drawBelow 44 = .ok (.ireturn, 1) := by decide +kernel
set_option maxRecDepth 20000 in
theorem ggX10_below_X10_drawBelow : GoodIn wsX10_below wsX10_drawBelow := goodIn_r _ [6, 7, 8, 9, 10, 5, 11, 1, 12, 13, 14, 15, 16, 17, 18, 19, 20, 21, 22, 23, 24, 25, 26, 27, 28, 29, 30, 31, 32, 33, 34, 35, 36, 37, 38, 39, 40, 41, 42, 43, 44, 45, 46, 47, 48, 49, 50, 51, 52, 53, 54, 55, 56, 57, 58, 59, 60, 61, 62, 63, 64, 65, 66, 67] (by decide +kernel) (by decide +kernel)
set_option maxRecDepth 20000 in
theorem gX10_below_X10_drawBelow : GoodIn wsX10_below (wsV RX10 182 RX10 yX10_drawBelow wsX10_drawBelow) := goodIn_app (goodIn_of _ (by decide +kernel)) ggX10_below_X10_drawBelow
theorem dX10_below_0 : decode cX10_below 0 = .ok (.iload_n 3, 1) := by decide +kernel
theorem dX10_below_1 : decode cX10_below 1 = .ok (.iconst 1, 1) := by decide +kernel
theorem dX10_below_2 : decode cX10_below 2 = .ok (.if_icmp .lt 16, 3) := by decide +kernel
theorem dX10_below_5 : decode cX10_below 5 = .ok (.iload 4, 2) := by decide +kernel
theorem dX10_below_7 : decode cX10_below 7 = .ok (.ifCond .lt 11, 3) := by decide +kernel
theorem dX10_below_10 : decode cX10_below 10 = .ok (.iload 4, 2) := by decide +kernel
theorem dX10_below_12 : decode cX10_below 12 = .ok (.sipush 1000, 3) := by decide +kernel
theorem dX10_below_15 : decode cX10_below 15 = .ok (.if_icmp .le 6, 3) := by decide +kernel
theorem dX10_below_18 : decode cX10_below 18 = .ok (.bipush (-2), 2) := by decide +kernel
theorem dX10_below_20 : decode cX10_below 20 = .ok (.ireturn, 1) := by decide +kernel
theorem dX10_below_21 : decode cX10_below 21 = .ok (.aload_n 0, 1) := by decide +kernel
theorem dX10_below_22 : decode cX10_below 22 = .ok (.lload_n 1, 1) := by decide +kernel
theorem dX10_below_23 : decode cX10_below 23 = .ok (.putfield 166, 3) := by decide +kernel
theorem dX10_below_26 : decode cX10_below 26 = .ok (.aload_n 0, 1) := by decide +kernel
theorem dX10_below_27 : decode cX10_below 27 = .ok (.iload_n 3, 1) := by decide +kernel
theorem dX10_below_28 : decode cX10_below 28 = .ok (.invokevirtual 182, 3) := by decide +kernel
theorem dX10_below_31 : decode cX10_below 31 = .ok (.istore 5, 2) := by decide +kernel
theorem dX10_below_33 : decode cX10_below 33 = .ok (.iconst 0, 1) := by decide +kernel
theorem dX10_below_34 : decode cX10_below 34 = .ok (.istore 6, 2) := by decide +kernel
theorem dX10_below_36 : decode cX10_below 36 = .ok (.iload 6, 2) := by decide +kernel
theorem dX10_below_38 : decode cX10_below 38 = .ok (.iload 4, 2) := by decide +kernel
theorem dX10_below_40 : decode cX10_below 40 = .ok (.if_icmp .ge 16, 3) := by decide +kernel
theorem dX10_below_43 : decode cX10_below 43 = .ok (.aload_n 0, 1) := by decide +kernel
theorem dX10_below_44 : decode cX10_below 44 = .ok (.iload_n 3, 1) := by decide +kernel
theorem dX10_below_45 : decode cX10_below 45 = .ok (.invokevirtual 182, 3) := by decide +kernel
theorem dX10_below_48 : decode cX10_below 48 = .ok (.istore 5, 2) := by decide +kernel
theorem dX10_below_50 : decode cX10_below 50 = .ok (.iinc 6 1, 3) := by decide +kernel
theorem dX10_below_53 : decode cX10_below 53 = .ok (.goto (-17), 3) := by decide +kernel
theorem dX10_below_56 : decode cX10_below 56 = .ok (.iload 5, 2) := by decide +kernel
theorem dX10_below_58 : decode cX10_below 58 = .ok (.ireturn, 1) := by decide +kernel
theorem dX10_keep_0 : decode cX10_keep 0 = .ok (.aload_n 0, 1) := by decide +kernel
theorem dX10_keep_1 : decode cX10_keep 1 = .ok (.getfield 80, 3) := by decide +kernel
theorem dX10_keep_4 : decode cX10_keep 4 = .ok (.aload_n 0, 1) := by decide +kernel
theorem dX10_keep_5 : decode cX10_keep 5 = .ok (.getfield 185, 3) := by decide +kernel
theorem dX10_keep_8 : decode cX10_keep 8 = .ok (.iload_n 1, 1) := by decide +kernel
theorem dX10_keep_9 : decode cX10_keep 9 = .ok (.iastore, 1) := by decide +kernel
theorem dX10_keep_10 : decode cX10_keep 10 = .ok (.aload_n 0, 1) := by decide +kernel
theorem dX10_keep_11 : decode cX10_keep 11 = .ok (.getfield 83, 3) := by decide +kernel
theorem dX10_keep_14 : decode cX10_keep 14 = .ok (.aload_n 0, 1) := by decide +kernel
theorem dX10_keep_15 : decode cX10_keep 15 = .ok (.getfield 185, 3) := by decide +kernel
theorem dX10_keep_18 : decode cX10_keep 18 = .ok (.aload_n 0, 1) := by decide +kernel
theorem dX10_keep_19 : decode cX10_keep 19 = .ok (.getfield 188, 3) := by decide +kernel
theorem dX10_keep_22 : decode cX10_keep 22 = .ok (.iastore, 1) := by decide +kernel
theorem dX10_keep_23 : decode cX10_keep 23 = .ok (.aload_n 0, 1) := by decide +kernel
theorem dX10_keep_24 : decode cX10_keep 24 = .ok (.getfield 86, 3) := by decide +kernel
theorem dX10_keep_27 : decode cX10_keep 27 = .ok (.aload_n 0, 1) := by decide +kernel
theorem dX10_keep_28 : decode cX10_keep 28 = .ok (.getfield 185, 3) := by decide +kernel
theorem dX10_keep_31 : decode cX10_keep 31 = .ok (.aload_n 0, 1) := by decide +kernel
theorem dX10_keep_32 : decode cX10_keep 32 = .ok (.getfield 191, 3) := by decide +kernel
theorem dX10_keep_35 : decode cX10_keep 35 = .ok (.iastore, 1) := by decide +kernel
theorem dX10_keep_36 : decode cX10_keep 36 = .ok (.aload_n 0, 1) := by decide +kernel
theorem dX10_keep_37 : decode cX10_keep 37 = .ok (.getfield 89, 3) := by decide +kernel
theorem dX10_keep_40 : decode cX10_keep 40 = .ok (.aload_n 0, 1) := by decide +kernel
theorem dX10_keep_41 : decode cX10_keep 41 = .ok (.getfield 185, 3) := by decide +kernel
theorem dX10_keep_44 : decode cX10_keep 44 = .ok (.aload_n 0, 1) := by decide +kernel
theorem dX10_keep_45 : decode cX10_keep 45 = .ok (.getfield 194, 3) := by decide +kernel
theorem dX10_keep_48 : decode cX10_keep 48 = .ok (.iastore, 1) := by decide +kernel
theorem dX10_keep_49 : decode cX10_keep 49 = .ok (.aload_n 0, 1) := by decide +kernel
theorem dX10_keep_50 : decode cX10_keep 50 = .ok (.getfield 92, 3) := by decide +kernel
theorem dX10_keep_53 : decode cX10_keep 53 = .ok (.aload_n 0, 1) := by decide +kernel
theorem dX10_keep_54 : decode cX10_keep 54 = .ok (.getfield 185, 3) := by decide +kernel
theorem dX10_keep_57 : decode cX10_keep 57 = .ok (.aload_n 0, 1) := by decide +kernel
theorem dX10_keep_58 : decode cX10_keep 58 = .ok (.getfield 197, 3) := by decide +kernel
theorem dX10_keep_61 : decode cX10_keep 61 = .ok (.iastore, 1) := by decide +kernel
theorem dX10_keep_62 : decode cX10_keep 62 = .ok (.aload_n 0, 1) := by decide +kernel
theorem dX10_keep_63 : decode cX10_keep 63 = .ok (.getfield 95, 3) := by decide +kernel
theorem dX10_keep_66 : decode cX10_keep 66 = .ok (.aload_n 0, 1) := by decide +kernel
theorem dX10_keep_67 : decode cX10_keep 67 = .ok (.getfield 185, 3) := by decide +kernel
theorem dX10_keep_70 : decode cX10_keep 70 = .ok (.aload_n 0, 1) := by decide +kernel
theorem dX10_keep_71 : decode cX10_keep 71 = .ok (.getfield 200, 3) := by decide +kernel
theorem dX10_keep_74 : decode cX10_keep 74 = .ok (.iastore, 1) := by decide +kernel
theorem dX10_keep_75 : decode cX10_keep 75 = .ok (.aload_n 0, 1) := by decide +kernel
theorem dX10_keep_76 : decode cX10_keep 76 = .ok (.getfield 98, 3) := by decide +kernel
