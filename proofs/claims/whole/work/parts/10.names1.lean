/-! CircuitChecker$Lanes: cards, decoded instructions, links -/
def kLa_all : pmK := (⟨"CircuitChecker$Lanes", "all", "(I)J"⟩, prog_5_method_2_code, 1, (some .long))
def kLa_choose : pmK := (⟨"CircuitChecker$Lanes", "choose", "(JJJ)J"⟩, prog_5_method_5_code, 6, (some .long))
def kLa_truth : pmK := (⟨"CircuitChecker$Lanes", "truth", "(J)J"⟩, prog_5_method_6_code, 2, (some .long))
def kLa_pick : pmK := (⟨"CircuitChecker$Lanes", "pick", "(JJJ)J"⟩, prog_5_method_8_code, 8, (some .long))
def kLa_alter : pmK := (⟨"CircuitChecker$Lanes", "alter", "(IJ)J"⟩, prog_5_method_4_code, 3, (some .long))
def kLa_minus : pmK := (⟨"CircuitChecker$Lanes", "minus", "(JJ)J"⟩, prog_5_method_10_code, 4, (some .long))
def kLa_not : pmK := (⟨"CircuitChecker$Lanes", "not", "(J)J"⟩, prog_5_method_7_code, 2, (some .long))
def kLa_join : pmK := (⟨"CircuitChecker$Lanes", "join", "(IJJ)J"⟩, prog_5_method_3_code, 5, (some .long))
def kLa_less : pmK := (⟨"CircuitChecker$Lanes", "less", "(JJ)J"⟩, prog_5_method_11_code, 4, (some .long))
def kLa_shift : pmK := (⟨"CircuitChecker$Lanes", "shift", "(ZJJ)J"⟩, prog_5_method_12_code, 11, (some .long))
def kLa_plus : pmK := (⟨"CircuitChecker$Lanes", "plus", "(JJ)J"⟩, prog_5_method_9_code, 4, (some .long))
def kLa_times : pmK := (⟨"CircuitChecker$Lanes", "times", "(JJ)J"⟩, prog_5_method_13_code, 9, (some .long))
theorem dLa_all_0 : decode kLa_all.2.1 0 = .ok (.ldc2_w 11, 3) := by decide +kernel
theorem dLa_all_3 : decode kLa_all.2.1 3 = .ok (.iload_n 0, 1) := by decide +kernel
theorem dLa_all_4 : decode kLa_all.2.1 4 = .ok (.i2l, 1) := by decide +kernel
theorem dLa_all_5 : decode kLa_all.2.1 5 = .ok (.lmul, 1) := by decide +kernel
theorem dLa_all_6 : decode kLa_all.2.1 6 = .ok (.lreturn, 1) := by decide +kernel
theorem dLa_choose_0 : decode kLa_choose.2.1 0 = .ok (.lload_n 0, 1) := by decide +kernel
theorem dLa_choose_1 : decode kLa_choose.2.1 1 = .ok (.invokestatic 13, 3) := by decide +kernel
theorem dLa_choose_4 : decode kLa_choose.2.1 4 = .ok (.lload_n 2, 1) := by decide +kernel
theorem dLa_choose_5 : decode kLa_choose.2.1 5 = .ok (.lload 4, 2) := by decide +kernel
theorem dLa_choose_7 : decode kLa_choose.2.1 7 = .ok (.invokestatic 39, 3) := by decide +kernel
theorem dLa_choose_10 : decode kLa_choose.2.1 10 = .ok (.lreturn, 1) := by decide +kernel
theorem dLa_truth_0 : decode kLa_truth.2.1 0 = .ok (.lload_n 0, 1) := by decide +kernel
theorem dLa_truth_1 : decode kLa_truth.2.1 1 = .ok (.ldc2_w 43, 3) := by decide +kernel
theorem dLa_truth_4 : decode kLa_truth.2.1 4 = .ok (.land, 1) := by decide +kernel
theorem dLa_truth_5 : decode kLa_truth.2.1 5 = .ok (.ldc2_w 43, 3) := by decide +kernel
theorem dLa_truth_8 : decode kLa_truth.2.1 8 = .ok (.ladd, 1) := by decide +kernel
theorem dLa_truth_9 : decode kLa_truth.2.1 9 = .ok (.lload_n 0, 1) := by decide +kernel
theorem dLa_truth_10 : decode kLa_truth.2.1 10 = .ok (.lor, 1) := by decide +kernel
theorem dLa_truth_11 : decode kLa_truth.2.1 11 = .ok (.bipush 7, 2) := by decide +kernel
theorem dLa_truth_13 : decode kLa_truth.2.1 13 = .ok (.lushr, 1) := by decide +kernel
theorem dLa_truth_14 : decode kLa_truth.2.1 14 = .ok (.ldc2_w 11, 3) := by decide +kernel
theorem dLa_truth_17 : decode kLa_truth.2.1 17 = .ok (.land, 1) := by decide +kernel
theorem dLa_truth_18 : decode kLa_truth.2.1 18 = .ok (.lreturn, 1) := by decide +kernel
theorem dLa_pick_0 : decode kLa_pick.2.1 0 = .ok (.lload_n 0, 1) := by decide +kernel
theorem dLa_pick_1 : decode kLa_pick.2.1 1 = .ok (.bipush 8, 2) := by decide +kernel
theorem dLa_pick_3 : decode kLa_pick.2.1 3 = .ok (.lshl, 1) := by decide +kernel
theorem dLa_pick_4 : decode kLa_pick.2.1 4 = .ok (.lload_n 0, 1) := by decide +kernel
theorem dLa_pick_5 : decode kLa_pick.2.1 5 = .ok (.lsub, 1) := by decide +kernel
theorem dLa_pick_6 : decode kLa_pick.2.1 6 = .ok (.lstore 6, 2) := by decide +kernel
theorem dLa_pick_8 : decode kLa_pick.2.1 8 = .ok (.lload_n 2, 1) := by decide +kernel
theorem dLa_pick_9 : decode kLa_pick.2.1 9 = .ok (.lload 6, 2) := by decide +kernel
theorem dLa_pick_11 : decode kLa_pick.2.1 11 = .ok (.land, 1) := by decide +kernel
theorem dLa_pick_12 : decode kLa_pick.2.1 12 = .ok (.lload 4, 2) := by decide +kernel
theorem dLa_pick_14 : decode kLa_pick.2.1 14 = .ok (.lload 6, 2) := by decide +kernel
theorem dLa_pick_16 : decode kLa_pick.2.1 16 = .ok (.ldc2_w 37, 3) := by decide +kernel
theorem dLa_pick_19 : decode kLa_pick.2.1 19 = .ok (.lxor, 1) := by decide +kernel
theorem dLa_pick_20 : decode kLa_pick.2.1 20 = .ok (.land, 1) := by decide +kernel
theorem dLa_pick_21 : decode kLa_pick.2.1 21 = .ok (.lor, 1) := by decide +kernel
theorem dLa_pick_22 : decode kLa_pick.2.1 22 = .ok (.lreturn, 1) := by decide +kernel
theorem dLa_alter_0 : decode kLa_alter.2.1 0 = .ok (.iload_n 0, 1) := by decide +kernel
theorem dLa_alter_1 : decode kLa_alter.2.1 1 = .ok (.bipush 49, 2) := by decide +kernel
theorem dLa_alter_3 : decode kLa_alter.2.1 3 = .ok (.if_icmp .ne 9, 3) := by decide +kernel
theorem dLa_alter_6 : decode kLa_alter.2.1 6 = .ok (.lconst 0, 1) := by decide +kernel
theorem dLa_alter_7 : decode kLa_alter.2.1 7 = .ok (.lload_n 1, 1) := by decide +kernel
theorem dLa_alter_8 : decode kLa_alter.2.1 8 = .ok (.invokestatic 31, 3) := by decide +kernel
theorem dLa_alter_11 : decode kLa_alter.2.1 11 = .ok (.lreturn, 1) := by decide +kernel
theorem dLa_alter_12 : decode kLa_alter.2.1 12 = .ok (.iload_n 0, 1) := by decide +kernel
theorem dLa_alter_13 : decode kLa_alter.2.1 13 = .ok (.bipush 19, 2) := by decide +kernel
theorem dLa_alter_15 : decode kLa_alter.2.1 15 = .ok (.if_icmp .ne 10, 3) := by decide +kernel
theorem dLa_alter_18 : decode kLa_alter.2.1 18 = .ok (.lload_n 1, 1) := by decide +kernel
theorem dLa_alter_19 : decode kLa_alter.2.1 19 = .ok (.invokestatic 17, 3) := by decide +kernel
theorem dLa_alter_22 : decode kLa_alter.2.1 22 = .ok (.goto 8, 3) := by decide +kernel
theorem dLa_alter_25 : decode kLa_alter.2.1 25 = .ok (.lload_n 1, 1) := by decide +kernel
theorem dLa_alter_26 : decode kLa_alter.2.1 26 = .ok (.ldc2_w 37, 3) := by decide +kernel
theorem dLa_alter_29 : decode kLa_alter.2.1 29 = .ok (.lxor, 1) := by decide +kernel
theorem dLa_alter_30 : decode kLa_alter.2.1 30 = .ok (.lreturn, 1) := by decide +kernel
theorem dLa_minus_0 : decode kLa_minus.2.1 0 = .ok (.lload_n 0, 1) := by decide +kernel
theorem dLa_minus_1 : decode kLa_minus.2.1 1 = .ok (.ldc2_w 45, 3) := by decide +kernel
theorem dLa_minus_4 : decode kLa_minus.2.1 4 = .ok (.lor, 1) := by decide +kernel
theorem dLa_minus_5 : decode kLa_minus.2.1 5 = .ok (.lload_n 2, 1) := by decide +kernel
theorem dLa_minus_6 : decode kLa_minus.2.1 6 = .ok (.ldc2_w 43, 3) := by decide +kernel
theorem dLa_minus_9 : decode kLa_minus.2.1 9 = .ok (.land, 1) := by decide +kernel
theorem dLa_minus_10 : decode kLa_minus.2.1 10 = .ok (.lsub, 1) := by decide +kernel
theorem dLa_minus_11 : decode kLa_minus.2.1 11 = .ok (.lload_n 0, 1) := by decide +kernel
theorem dLa_minus_12 : decode kLa_minus.2.1 12 = .ok (.lload_n 2, 1) := by decide +kernel
theorem dLa_minus_13 : decode kLa_minus.2.1 13 = .ok (.ldc2_w 37, 3) := by decide +kernel
theorem dLa_minus_16 : decode kLa_minus.2.1 16 = .ok (.lxor, 1) := by decide +kernel
theorem dLa_minus_17 : decode kLa_minus.2.1 17 = .ok (.lxor, 1) := by decide +kernel
theorem dLa_minus_18 : decode kLa_minus.2.1 18 = .ok (.ldc2_w 45, 3) := by decide +kernel
theorem dLa_minus_21 : decode kLa_minus.2.1 21 = .ok (.land, 1) := by decide +kernel
theorem dLa_minus_22 : decode kLa_minus.2.1 22 = .ok (.lxor, 1) := by decide +kernel
theorem dLa_minus_23 : decode kLa_minus.2.1 23 = .ok (.lreturn, 1) := by decide +kernel
theorem dLa_not_0 : decode kLa_not.2.1 0 = .ok (.lload_n 0, 1) := by decide +kernel
theorem dLa_not_1 : decode kLa_not.2.1 1 = .ok (.invokestatic 13, 3) := by decide +kernel
theorem dLa_not_4 : decode kLa_not.2.1 4 = .ok (.ldc2_w 11, 3) := by decide +kernel
theorem dLa_not_7 : decode kLa_not.2.1 7 = .ok (.lxor, 1) := by decide +kernel
theorem dLa_not_8 : decode kLa_not.2.1 8 = .ok (.lreturn, 1) := by decide +kernel
theorem dLa_join_0 : decode kLa_join.2.1 0 = .ok (.iload_n 0, 1) := by decide +kernel
theorem dLa_join_1 : decode kLa_join.2.1 1 = .ok (.tableswitch 186 10 27 #[130, 136, 174, 180, 186, 112, 104, 108, 186, 186, 116, 123, 142, 151, 160, 167, 94, 87], 87) := by decide +kernel
theorem dLa_join_88 : decode kLa_join.2.1 88 = .ok (.lload_n 1, 1) := by decide +kernel
theorem dLa_join_89 : decode kLa_join.2.1 89 = .ok (.lload_n 3, 1) := by decide +kernel
theorem dLa_join_90 : decode kLa_join.2.1 90 = .ok (.lor, 1) := by decide +kernel
theorem dLa_join_91 : decode kLa_join.2.1 91 = .ok (.invokestatic 13, 3) := by decide +kernel
theorem dLa_join_94 : decode kLa_join.2.1 94 = .ok (.lreturn, 1) := by decide +kernel
theorem dLa_join_95 : decode kLa_join.2.1 95 = .ok (.lload_n 1, 1) := by decide +kernel
theorem dLa_join_96 : decode kLa_join.2.1 96 = .ok (.invokestatic 13, 3) := by decide +kernel
theorem dLa_join_99 : decode kLa_join.2.1 99 = .ok (.lload_n 3, 1) := by decide +kernel
theorem dLa_join_100 : decode kLa_join.2.1 100 = .ok (.invokestatic 13, 3) := by decide +kernel
theorem dLa_join_103 : decode kLa_join.2.1 103 = .ok (.land, 1) := by decide +kernel
theorem dLa_join_104 : decode kLa_join.2.1 104 = .ok (.lreturn, 1) := by decide +kernel
theorem dLa_join_105 : decode kLa_join.2.1 105 = .ok (.lload_n 1, 1) := by decide +kernel
theorem dLa_join_106 : decode kLa_join.2.1 106 = .ok (.lload_n 3, 1) := by decide +kernel
theorem dLa_join_107 : decode kLa_join.2.1 107 = .ok (.lor, 1) := by decide +kernel
theorem dLa_join_108 : decode kLa_join.2.1 108 = .ok (.lreturn, 1) := by decide +kernel
theorem dLa_join_109 : decode kLa_join.2.1 109 = .ok (.lload_n 1, 1) := by decide +kernel
theorem dLa_join_110 : decode kLa_join.2.1 110 = .ok (.lload_n 3, 1) := by decide +kernel
theorem dLa_join_111 : decode kLa_join.2.1 111 = .ok (.lxor, 1) := by decide +kernel
theorem dLa_join_112 : decode kLa_join.2.1 112 = .ok (.lreturn, 1) := by decide +kernel
theorem dLa_join_113 : decode kLa_join.2.1 113 = .ok (.lload_n 1, 1) := by decide +kernel
theorem dLa_join_114 : decode kLa_join.2.1 114 = .ok (.lload_n 3, 1) := by decide +kernel
theorem dLa_join_115 : decode kLa_join.2.1 115 = .ok (.land, 1) := by decide +kernel
theorem dLa_join_116 : decode kLa_join.2.1 116 = .ok (.lreturn, 1) := by decide +kernel
theorem dLa_join_117 : decode kLa_join.2.1 117 = .ok (.lload_n 1, 1) := by decide +kernel
theorem dLa_join_118 : decode kLa_join.2.1 118 = .ok (.lload_n 3, 1) := by decide +kernel
theorem dLa_join_119 : decode kLa_join.2.1 119 = .ok (.lxor, 1) := by decide +kernel
theorem dLa_join_120 : decode kLa_join.2.1 120 = .ok (.invokestatic 17, 3) := by decide +kernel
theorem dLa_join_123 : decode kLa_join.2.1 123 = .ok (.lreturn, 1) := by decide +kernel
theorem dLa_join_124 : decode kLa_join.2.1 124 = .ok (.lload_n 1, 1) := by decide +kernel
theorem dLa_join_125 : decode kLa_join.2.1 125 = .ok (.lload_n 3, 1) := by decide +kernel
theorem dLa_join_126 : decode kLa_join.2.1 126 = .ok (.lxor, 1) := by decide +kernel
theorem dLa_join_127 : decode kLa_join.2.1 127 = .ok (.invokestatic 13, 3) := by decide +kernel
theorem dLa_join_130 : decode kLa_join.2.1 130 = .ok (.lreturn, 1) := by decide +kernel
theorem dLa_join_131 : decode kLa_join.2.1 131 = .ok (.lload_n 1, 1) := by decide +kernel
theorem dLa_join_132 : decode kLa_join.2.1 132 = .ok (.lload_n 3, 1) := by decide +kernel
theorem dLa_join_133 : decode kLa_join.2.1 133 = .ok (.invokestatic 20, 3) := by decide +kernel
theorem dLa_join_136 : decode kLa_join.2.1 136 = .ok (.lreturn, 1) := by decide +kernel
theorem dLa_join_137 : decode kLa_join.2.1 137 = .ok (.lload_n 3, 1) := by decide +kernel
theorem dLa_join_138 : decode kLa_join.2.1 138 = .ok (.lload_n 1, 1) := by decide +kernel
theorem dLa_join_139 : decode kLa_join.2.1 139 = .ok (.invokestatic 20, 3) := by decide +kernel
theorem dLa_join_142 : decode kLa_join.2.1 142 = .ok (.lreturn, 1) := by decide +kernel
theorem dLa_join_143 : decode kLa_join.2.1 143 = .ok (.lload_n 3, 1) := by decide +kernel
theorem dLa_join_144 : decode kLa_join.2.1 144 = .ok (.lload_n 1, 1) := by decide +kernel
theorem dLa_join_145 : decode kLa_join.2.1 145 = .ok (.invokestatic 20, 3) := by decide +kernel
theorem dLa_join_148 : decode kLa_join.2.1 148 = .ok (.invokestatic 17, 3) := by decide +kernel
theorem dLa_join_151 : decode kLa_join.2.1 151 = .ok (.lreturn, 1) := by decide +kernel
theorem dLa_join_152 : decode kLa_join.2.1 152 = .ok (.lload_n 1, 1) := by decide +kernel
theorem dLa_join_153 : decode kLa_join.2.1 153 = .ok (.lload_n 3, 1) := by decide +kernel
theorem dLa_join_154 : decode kLa_join.2.1 154 = .ok (.invokestatic 20, 3) := by decide +kernel
theorem dLa_join_157 : decode kLa_join.2.1 157 = .ok (.invokestatic 17, 3) := by decide +kernel
theorem dLa_join_160 : decode kLa_join.2.1 160 = .ok (.lreturn, 1) := by decide +kernel
theorem dLa_join_161 : decode kLa_join.2.1 161 = .ok (.iconst 1, 1) := by decide +kernel
theorem dLa_join_162 : decode kLa_join.2.1 162 = .ok (.lload_n 1, 1) := by decide +kernel
theorem dLa_join_163 : decode kLa_join.2.1 163 = .ok (.lload_n 3, 1) := by decide +kernel
theorem dLa_join_164 : decode kLa_join.2.1 164 = .ok (.invokestatic 24, 3) := by decide +kernel
theorem dLa_join_167 : decode kLa_join.2.1 167 = .ok (.lreturn, 1) := by decide +kernel
theorem dLa_join_168 : decode kLa_join.2.1 168 = .ok (.iconst 0, 1) := by decide +kernel
theorem dLa_join_169 : decode kLa_join.2.1 169 = .ok (.lload_n 1, 1) := by decide +kernel
theorem dLa_join_170 : decode kLa_join.2.1 170 = .ok (.lload_n 3, 1) := by decide +kernel
theorem dLa_join_171 : decode kLa_join.2.1 171 = .ok (.invokestatic 24, 3) := by decide +kernel
theorem dLa_join_174 : decode kLa_join.2.1 174 = .ok (.lreturn, 1) := by decide +kernel
theorem dLa_join_175 : decode kLa_join.2.1 175 = .ok (.lload_n 1, 1) := by decide +kernel
theorem dLa_join_176 : decode kLa_join.2.1 176 = .ok (.lload_n 3, 1) := by decide +kernel
theorem dLa_join_177 : decode kLa_join.2.1 177 = .ok (.invokestatic 28, 3) := by decide +kernel
theorem dLa_join_180 : decode kLa_join.2.1 180 = .ok (.lreturn, 1) := by decide +kernel
theorem dLa_join_181 : decode kLa_join.2.1 181 = .ok (.lload_n 1, 1) := by decide +kernel
theorem dLa_join_182 : decode kLa_join.2.1 182 = .ok (.lload_n 3, 1) := by decide +kernel
theorem dLa_join_183 : decode kLa_join.2.1 183 = .ok (.invokestatic 31, 3) := by decide +kernel
theorem dLa_join_186 : decode kLa_join.2.1 186 = .ok (.lreturn, 1) := by decide +kernel
theorem dLa_join_187 : decode kLa_join.2.1 187 = .ok (.lload_n 1, 1) := by decide +kernel
theorem dLa_join_188 : decode kLa_join.2.1 188 = .ok (.lload_n 3, 1) := by decide +kernel
theorem dLa_join_189 : decode kLa_join.2.1 189 = .ok (.invokestatic 34, 3) := by decide +kernel
theorem dLa_join_192 : decode kLa_join.2.1 192 = .ok (.lreturn, 1) := by decide +kernel
theorem dLa_less_0 : decode kLa_less.2.1 0 = .ok (.lload_n 0, 1) := by decide +kernel
theorem dLa_less_1 : decode kLa_less.2.1 1 = .ok (.ldc2_w 37, 3) := by decide +kernel
theorem dLa_less_4 : decode kLa_less.2.1 4 = .ok (.lxor, 1) := by decide +kernel
theorem dLa_less_5 : decode kLa_less.2.1 5 = .ok (.lload_n 2, 1) := by decide +kernel
theorem dLa_less_6 : decode kLa_less.2.1 6 = .ok (.land, 1) := by decide +kernel
theorem dLa_less_7 : decode kLa_less.2.1 7 = .ok (.lload_n 0, 1) := by decide +kernel
theorem dLa_less_8 : decode kLa_less.2.1 8 = .ok (.ldc2_w 37, 3) := by decide +kernel
theorem dLa_less_11 : decode kLa_less.2.1 11 = .ok (.lxor, 1) := by decide +kernel
theorem dLa_less_12 : decode kLa_less.2.1 12 = .ok (.lload_n 2, 1) := by decide +kernel
theorem dLa_less_13 : decode kLa_less.2.1 13 = .ok (.lor, 1) := by decide +kernel
theorem dLa_less_14 : decode kLa_less.2.1 14 = .ok (.lload_n 0, 1) := by decide +kernel
theorem dLa_less_15 : decode kLa_less.2.1 15 = .ok (.lload_n 2, 1) := by decide +kernel
theorem dLa_less_16 : decode kLa_less.2.1 16 = .ok (.invokestatic 31, 3) := by decide +kernel
theorem dLa_less_19 : decode kLa_less.2.1 19 = .ok (.land, 1) := by decide +kernel
theorem dLa_less_20 : decode kLa_less.2.1 20 = .ok (.lor, 1) := by decide +kernel
theorem dLa_less_21 : decode kLa_less.2.1 21 = .ok (.bipush 7, 2) := by decide +kernel
theorem dLa_less_23 : decode kLa_less.2.1 23 = .ok (.lushr, 1) := by decide +kernel
theorem dLa_less_24 : decode kLa_less.2.1 24 = .ok (.ldc2_w 11, 3) := by decide +kernel
theorem dLa_less_27 : decode kLa_less.2.1 27 = .ok (.land, 1) := by decide +kernel
theorem dLa_less_28 : decode kLa_less.2.1 28 = .ok (.lreturn, 1) := by decide +kernel
theorem dLa_shift_0 : decode kLa_shift.2.1 0 = .ok (.lload_n 1, 1) := by decide +kernel
theorem dLa_shift_1 : decode kLa_shift.2.1 1 = .ok (.lstore 5, 2) := by decide +kernel
theorem dLa_shift_3 : decode kLa_shift.2.1 3 = .ok (.iconst 0, 1) := by decide +kernel
theorem dLa_shift_4 : decode kLa_shift.2.1 4 = .ok (.istore 7, 2) := by decide +kernel
theorem dLa_shift_6 : decode kLa_shift.2.1 6 = .ok (.iload 7, 2) := by decide +kernel
theorem dLa_shift_8 : decode kLa_shift.2.1 8 = .ok (.iconst 3, 1) := by decide +kernel
theorem dLa_shift_9 : decode kLa_shift.2.1 9 = .ok (.if_icmp .ge 75, 3) := by decide +kernel
theorem dLa_shift_12 : decode kLa_shift.2.1 12 = .ok (.iconst 1, 1) := by decide +kernel
theorem dLa_shift_13 : decode kLa_shift.2.1 13 = .ok (.iload 7, 2) := by decide +kernel
theorem dLa_shift_15 : decode kLa_shift.2.1 15 = .ok (.ishl, 1) := by decide +kernel
theorem dLa_shift_16 : decode kLa_shift.2.1 16 = .ok (.istore 8, 2) := by decide +kernel
theorem dLa_shift_18 : decode kLa_shift.2.1 18 = .ok (.iload_n 0, 1) := by decide +kernel
theorem dLa_shift_19 : decode kLa_shift.2.1 19 = .ok (.ifCond .eq 25, 3) := by decide +kernel
theorem dLa_shift_22 : decode kLa_shift.2.1 22 = .ok (.lload 5, 2) := by decide +kernel
theorem dLa_shift_24 : decode kLa_shift.2.1 24 = .ok (.iload 8, 2) := by decide +kernel
theorem dLa_shift_26 : decode kLa_shift.2.1 26 = .ok (.lshl, 1) := by decide +kernel
theorem dLa_shift_27 : decode kLa_shift.2.1 27 = .ok (.sipush 255, 3) := by decide +kernel
theorem dLa_shift_30 : decode kLa_shift.2.1 30 = .ok (.iload 8, 2) := by decide +kernel
theorem dLa_shift_32 : decode kLa_shift.2.1 32 = .ok (.ishl, 1) := by decide +kernel
theorem dLa_shift_33 : decode kLa_shift.2.1 33 = .ok (.sipush 255, 3) := by decide +kernel
theorem dLa_shift_36 : decode kLa_shift.2.1 36 = .ok (.iand, 1) := by decide +kernel
theorem dLa_shift_37 : decode kLa_shift.2.1 37 = .ok (.invokestatic 47, 3) := by decide +kernel
theorem dLa_shift_40 : decode kLa_shift.2.1 40 = .ok (.land, 1) := by decide +kernel
theorem dLa_shift_41 : decode kLa_shift.2.1 41 = .ok (.goto 18, 3) := by decide +kernel
theorem dLa_shift_44 : decode kLa_shift.2.1 44 = .ok (.lload 5, 2) := by decide +kernel
theorem dLa_shift_46 : decode kLa_shift.2.1 46 = .ok (.iload 8, 2) := by decide +kernel
theorem dLa_shift_48 : decode kLa_shift.2.1 48 = .ok (.lushr, 1) := by decide +kernel
theorem dLa_shift_49 : decode kLa_shift.2.1 49 = .ok (.sipush 255, 3) := by decide +kernel
theorem dLa_shift_52 : decode kLa_shift.2.1 52 = .ok (.iload 8, 2) := by decide +kernel
theorem dLa_shift_54 : decode kLa_shift.2.1 54 = .ok (.iushr, 1) := by decide +kernel
theorem dLa_shift_55 : decode kLa_shift.2.1 55 = .ok (.invokestatic 47, 3) := by decide +kernel
theorem dLa_shift_58 : decode kLa_shift.2.1 58 = .ok (.land, 1) := by decide +kernel
theorem dLa_shift_59 : decode kLa_shift.2.1 59 = .ok (.lstore 9, 2) := by decide +kernel
theorem dLa_shift_61 : decode kLa_shift.2.1 61 = .ok (.lload_n 3, 1) := by decide +kernel
theorem dLa_shift_62 : decode kLa_shift.2.1 62 = .ok (.iload 7, 2) := by decide +kernel
theorem dLa_shift_64 : decode kLa_shift.2.1 64 = .ok (.lushr, 1) := by decide +kernel
theorem dLa_shift_65 : decode kLa_shift.2.1 65 = .ok (.ldc2_w 11, 3) := by decide +kernel
theorem dLa_shift_68 : decode kLa_shift.2.1 68 = .ok (.land, 1) := by decide +kernel
theorem dLa_shift_69 : decode kLa_shift.2.1 69 = .ok (.lload 9, 2) := by decide +kernel
theorem dLa_shift_71 : decode kLa_shift.2.1 71 = .ok (.lload 5, 2) := by decide +kernel
theorem dLa_shift_73 : decode kLa_shift.2.1 73 = .ok (.invokestatic 39, 3) := by decide +kernel
theorem dLa_shift_76 : decode kLa_shift.2.1 76 = .ok (.lstore 5, 2) := by decide +kernel
theorem dLa_shift_78 : decode kLa_shift.2.1 78 = .ok (.iinc 7 1, 3) := by decide +kernel
theorem dLa_shift_81 : decode kLa_shift.2.1 81 = .ok (.goto (-75), 3) := by decide +kernel
theorem dLa_shift_84 : decode kLa_shift.2.1 84 = .ok (.lload_n 3, 1) := by decide +kernel
theorem dLa_shift_85 : decode kLa_shift.2.1 85 = .ok (.sipush 248, 3) := by decide +kernel
theorem dLa_shift_88 : decode kLa_shift.2.1 88 = .ok (.invokestatic 47, 3) := by decide +kernel
theorem dLa_shift_91 : decode kLa_shift.2.1 91 = .ok (.land, 1) := by decide +kernel
theorem dLa_shift_92 : decode kLa_shift.2.1 92 = .ok (.invokestatic 13, 3) := by decide +kernel
theorem dLa_shift_95 : decode kLa_shift.2.1 95 = .ok (.lconst 0, 1) := by decide +kernel
theorem dLa_shift_96 : decode kLa_shift.2.1 96 = .ok (.lload 5, 2) := by decide +kernel
theorem dLa_shift_98 : decode kLa_shift.2.1 98 = .ok (.invokestatic 39, 3) := by decide +kernel
theorem dLa_shift_101 : decode kLa_shift.2.1 101 = .ok (.lreturn, 1) := by decide +kernel
theorem dLa_plus_0 : decode kLa_plus.2.1 0 = .ok (.lload_n 0, 1) := by decide +kernel
theorem dLa_plus_1 : decode kLa_plus.2.1 1 = .ok (.ldc2_w 43, 3) := by decide +kernel
theorem dLa_plus_4 : decode kLa_plus.2.1 4 = .ok (.land, 1) := by decide +kernel
theorem dLa_plus_5 : decode kLa_plus.2.1 5 = .ok (.lload_n 2, 1) := by decide +kernel
theorem dLa_plus_6 : decode kLa_plus.2.1 6 = .ok (.ldc2_w 43, 3) := by decide +kernel
theorem dLa_plus_9 : decode kLa_plus.2.1 9 = .ok (.land, 1) := by decide +kernel
theorem dLa_plus_10 : decode kLa_plus.2.1 10 = .ok (.ladd, 1) := by decide +kernel
theorem dLa_plus_11 : decode kLa_plus.2.1 11 = .ok (.lload_n 0, 1) := by decide +kernel
theorem dLa_plus_12 : decode kLa_plus.2.1 12 = .ok (.lload_n 2, 1) := by decide +kernel
theorem dLa_plus_13 : decode kLa_plus.2.1 13 = .ok (.lxor, 1) := by decide +kernel
theorem dLa_plus_14 : decode kLa_plus.2.1 14 = .ok (.ldc2_w 45, 3) := by decide +kernel
theorem dLa_plus_17 : decode kLa_plus.2.1 17 = .ok (.land, 1) := by decide +kernel
theorem dLa_plus_18 : decode kLa_plus.2.1 18 = .ok (.lxor, 1) := by decide +kernel
theorem dLa_plus_19 : decode kLa_plus.2.1 19 = .ok (.lreturn, 1) := by decide +kernel
theorem dLa_times_0 : decode kLa_times.2.1 0 = .ok (.lconst 0, 1) := by decide +kernel
theorem dLa_times_1 : decode kLa_times.2.1 1 = .ok (.lstore 4, 2) := by decide +kernel
theorem dLa_times_3 : decode kLa_times.2.1 3 = .ok (.iconst 0, 1) := by decide +kernel
theorem dLa_times_4 : decode kLa_times.2.1 4 = .ok (.istore 6, 2) := by decide +kernel
theorem dLa_times_6 : decode kLa_times.2.1 6 = .ok (.iload 6, 2) := by decide +kernel
theorem dLa_times_8 : decode kLa_times.2.1 8 = .ok (.bipush 8, 2) := by decide +kernel
theorem dLa_times_10 : decode kLa_times.2.1 10 = .ok (.if_icmp .ge 50, 3) := by decide +kernel
theorem dLa_times_13 : decode kLa_times.2.1 13 = .ok (.lload_n 0, 1) := by decide +kernel
theorem dLa_times_14 : decode kLa_times.2.1 14 = .ok (.iload 6, 2) := by decide +kernel
theorem dLa_times_16 : decode kLa_times.2.1 16 = .ok (.lshl, 1) := by decide +kernel
theorem dLa_times_17 : decode kLa_times.2.1 17 = .ok (.sipush 255, 3) := by decide +kernel
theorem dLa_times_20 : decode kLa_times.2.1 20 = .ok (.iload 6, 2) := by decide +kernel
theorem dLa_times_22 : decode kLa_times.2.1 22 = .ok (.ishl, 1) := by decide +kernel
theorem dLa_times_23 : decode kLa_times.2.1 23 = .ok (.sipush 255, 3) := by decide +kernel
theorem dLa_times_26 : decode kLa_times.2.1 26 = .ok (.iand, 1) := by decide +kernel
theorem dLa_times_27 : decode kLa_times.2.1 27 = .ok (.invokestatic 47, 3) := by decide +kernel
theorem dLa_times_30 : decode kLa_times.2.1 30 = .ok (.land, 1) := by decide +kernel
theorem dLa_times_31 : decode kLa_times.2.1 31 = .ok (.lstore 7, 2) := by decide +kernel
theorem dLa_times_33 : decode kLa_times.2.1 33 = .ok (.lload 4, 2) := by decide +kernel
theorem dLa_times_35 : decode kLa_times.2.1 35 = .ok (.lload_n 2, 1) := by decide +kernel
theorem dLa_times_36 : decode kLa_times.2.1 36 = .ok (.iload 6, 2) := by decide +kernel
theorem dLa_times_38 : decode kLa_times.2.1 38 = .ok (.lushr, 1) := by decide +kernel
theorem dLa_times_39 : decode kLa_times.2.1 39 = .ok (.ldc2_w 11, 3) := by decide +kernel
theorem dLa_times_42 : decode kLa_times.2.1 42 = .ok (.land, 1) := by decide +kernel
theorem dLa_times_43 : decode kLa_times.2.1 43 = .ok (.lload 7, 2) := by decide +kernel
theorem dLa_times_45 : decode kLa_times.2.1 45 = .ok (.lconst 0, 1) := by decide +kernel
theorem dLa_times_46 : decode kLa_times.2.1 46 = .ok (.invokestatic 39, 3) := by decide +kernel
theorem dLa_times_49 : decode kLa_times.2.1 49 = .ok (.invokestatic 28, 3) := by decide +kernel
theorem dLa_times_52 : decode kLa_times.2.1 52 = .ok (.lstore 4, 2) := by decide +kernel
theorem dLa_times_54 : decode kLa_times.2.1 54 = .ok (.iinc 6 1, 3) := by decide +kernel
theorem dLa_times_57 : decode kLa_times.2.1 57 = .ok (.goto (-51), 3) := by decide +kernel
theorem dLa_times_60 : decode kLa_times.2.1 60 = .ok (.lload 4, 2) := by decide +kernel
theorem dLa_times_62 : decode kLa_times.2.1 62 = .ok (.lreturn, 1) := by decide +kernel
theorem cLa_11 : Cond.constantLong "CircuitChecker$Lanes" 11 (72340172838076673) ∈ pm_TS := pm_in 494 (by decide +kernel) rfl
theorem cLa_37 : Cond.constantLong "CircuitChecker$Lanes" 37 (-1) ∈ pm_TS := pm_in 519 (by decide +kernel) rfl
theorem cLa_43 : Cond.constantLong "CircuitChecker$Lanes" 43 (9187201950435737471) ∈ pm_TS := pm_in 515 (by decide +kernel) rfl
theorem cLa_45 : Cond.constantLong "CircuitChecker$Lanes" 45 (-9187201950435737472) ∈ pm_TS := pm_in 530 (by decide +kernel) rfl
theorem wLa_all : Cond.code kLa_all.1 kLa_all.2.1 kLa_all.2.2.1 kLa_all.2.2.2 ∈ pm_TS := pm_in 493 (by decide +kernel) rfl
theorem tLa_all : Cond.static kLa_all.1 ∈ pm_TS := pm_in 492 (by decide +kernel) rfl
theorem wLa_choose : Cond.code kLa_choose.1 kLa_choose.2.1 kLa_choose.2.2.1 kLa_choose.2.2.2 ∈ pm_TS := pm_in 511 (by decide +kernel) rfl
theorem tLa_choose : Cond.static kLa_choose.1 ∈ pm_TS := pm_in 510 (by decide +kernel) rfl
theorem wLa_truth : Cond.code kLa_truth.1 kLa_truth.2.1 kLa_truth.2.2.1 kLa_truth.2.2.2 ∈ pm_TS := pm_in 514 (by decide +kernel) rfl
theorem tLa_truth : Cond.static kLa_truth.1 ∈ pm_TS := pm_in 513 (by decide +kernel) rfl
theorem wLa_pick : Cond.code kLa_pick.1 kLa_pick.2.1 kLa_pick.2.2.1 kLa_pick.2.2.2 ∈ pm_TS := pm_in 518 (by decide +kernel) rfl
theorem tLa_pick : Cond.static kLa_pick.1 ∈ pm_TS := pm_in 517 (by decide +kernel) rfl
theorem wLa_alter : Cond.code kLa_alter.1 kLa_alter.2.1 kLa_alter.2.2.1 kLa_alter.2.2.2 ∈ pm_TS := pm_in 526 (by decide +kernel) rfl
theorem tLa_alter : Cond.static kLa_alter.1 ∈ pm_TS := pm_in 525 (by decide +kernel) rfl
theorem wLa_minus : Cond.code kLa_minus.1 kLa_minus.2.1 kLa_minus.2.2.1 kLa_minus.2.2.2 ∈ pm_TS := pm_in 529 (by decide +kernel) rfl
theorem tLa_minus : Cond.static kLa_minus.1 ∈ pm_TS := pm_in 528 (by decide +kernel) rfl
theorem wLa_not : Cond.code kLa_not.1 kLa_not.2.1 kLa_not.2.2.1 kLa_not.2.2.2 ∈ pm_TS := pm_in 533 (by decide +kernel) rfl
theorem tLa_not : Cond.static kLa_not.1 ∈ pm_TS := pm_in 532 (by decide +kernel) rfl
theorem wLa_join : Cond.code kLa_join.1 kLa_join.2.1 kLa_join.2.2.1 kLa_join.2.2.2 ∈ pm_TS := pm_in 540 (by decide +kernel) rfl
theorem tLa_join : Cond.static kLa_join.1 ∈ pm_TS := pm_in 539 (by decide +kernel) rfl
theorem wLa_less : Cond.code kLa_less.1 kLa_less.2.1 kLa_less.2.2.1 kLa_less.2.2.2 ∈ pm_TS := pm_in 543 (by decide +kernel) rfl
theorem tLa_less : Cond.static kLa_less.1 ∈ pm_TS := pm_in 542 (by decide +kernel) rfl
theorem wLa_shift : Cond.code kLa_shift.1 kLa_shift.2.1 kLa_shift.2.2.1 kLa_shift.2.2.2 ∈ pm_TS := pm_in 546 (by decide +kernel) rfl
theorem tLa_shift : Cond.static kLa_shift.1 ∈ pm_TS := pm_in 545 (by decide +kernel) rfl
theorem wLa_plus : Cond.code kLa_plus.1 kLa_plus.2.1 kLa_plus.2.2.1 kLa_plus.2.2.2 ∈ pm_TS := pm_in 550 (by decide +kernel) rfl
theorem tLa_plus : Cond.static kLa_plus.1 ∈ pm_TS := pm_in 549 (by decide +kernel) rfl
theorem wLa_times : Cond.code kLa_times.1 kLa_times.2.1 kLa_times.2.2.1 kLa_times.2.2.2 ∈ pm_TS := pm_in 553 (by decide +kernel) rfl
theorem tLa_times : Cond.static kLa_times.1 ∈ pm_TS := pm_in 552 (by decide +kernel) rfl
/-! CircuitChecker$Tape: cards, decoded instructions, links -/
def kTp_init : pmK := (⟨"CircuitChecker$Tape", "<init>", "()V"⟩, prog_7_method_1_code, 1, none)
def kTp_byteAt : pmK := (⟨"CircuitChecker$Tape", "byteAt", "(I)I"⟩, prog_7_method_3_code, 2, (some .int))
def kTp_add : pmK := (⟨"CircuitChecker$Tape", "add", "(I)V"⟩, prog_7_method_2_code, 3, none)
theorem dTp_init_0 : decode kTp_init.2.1 0 = .ok (.aload_n 0, 1) := by decide +kernel
theorem dTp_init_1 : decode kTp_init.2.1 1 = .ok (.invokespecial 3, 3) := by decide +kernel
theorem dTp_init_4 : decode kTp_init.2.1 4 = .ok (.aload_n 0, 1) := by decide +kernel
theorem dTp_init_5 : decode kTp_init.2.1 5 = .ok (.ldc 9, 2) := by decide +kernel
theorem dTp_init_7 : decode kTp_init.2.1 7 = .ok (.newarray .byte, 2) := by decide +kernel
theorem dTp_init_9 : decode kTp_init.2.1 9 = .ok (.putfield 10, 3) := by decide +kernel
theorem dTp_init_12 : decode kTp_init.2.1 12 = .ok (.return_, 1) := by decide +kernel
theorem dTp_byteAt_0 : decode kTp_byteAt.2.1 0 = .ok (.iload_n 1, 1) := by decide +kernel
theorem dTp_byteAt_1 : decode kTp_byteAt.2.1 1 = .ok (.ifCond .lt 24, 3) := by decide +kernel
theorem dTp_byteAt_4 : decode kTp_byteAt.2.1 4 = .ok (.iload_n 1, 1) := by decide +kernel
theorem dTp_byteAt_5 : decode kTp_byteAt.2.1 5 = .ok (.aload_n 0, 1) := by decide +kernel
theorem dTp_byteAt_6 : decode kTp_byteAt.2.1 6 = .ok (.getfield 16, 3) := by decide +kernel
theorem dTp_byteAt_9 : decode kTp_byteAt.2.1 9 = .ok (.if_icmp .ge 16, 3) := by decide +kernel
theorem dTp_byteAt_12 : decode kTp_byteAt.2.1 12 = .ok (.aload_n 0, 1) := by decide +kernel
theorem dTp_byteAt_13 : decode kTp_byteAt.2.1 13 = .ok (.getfield 10, 3) := by decide +kernel
theorem dTp_byteAt_16 : decode kTp_byteAt.2.1 16 = .ok (.iload_n 1, 1) := by decide +kernel
theorem dTp_byteAt_17 : decode kTp_byteAt.2.1 17 = .ok (.baload, 1) := by decide +kernel
theorem dTp_byteAt_18 : decode kTp_byteAt.2.1 18 = .ok (.sipush 255, 3) := by decide +kernel
theorem dTp_byteAt_21 : decode kTp_byteAt.2.1 21 = .ok (.iand, 1) := by decide +kernel
theorem dTp_byteAt_22 : decode kTp_byteAt.2.1 22 = .ok (.goto 4, 3) := by decide +kernel
theorem dTp_byteAt_25 : decode kTp_byteAt.2.1 25 = .ok (.iconst 0, 1) := by decide +kernel
theorem dTp_byteAt_26 : decode kTp_byteAt.2.1 26 = .ok (.ireturn, 1) := by decide +kernel
theorem dTp_add_0 : decode kTp_add.2.1 0 = .ok (.bipush 24, 2) := by decide +kernel
theorem dTp_add_2 : decode kTp_add.2.1 2 = .ok (.istore_n 2, 1) := by decide +kernel
theorem dTp_add_3 : decode kTp_add.2.1 3 = .ok (.iload_n 2, 1) := by decide +kernel
theorem dTp_add_4 : decode kTp_add.2.1 4 = .ok (.ifCond .lt 41, 3) := by decide +kernel
theorem dTp_add_7 : decode kTp_add.2.1 7 = .ok (.aload_n 0, 1) := by decide +kernel
theorem dTp_add_8 : decode kTp_add.2.1 8 = .ok (.getfield 16, 3) := by decide +kernel
theorem dTp_add_11 : decode kTp_add.2.1 11 = .ok (.ldc 9, 2) := by decide +kernel
theorem dTp_add_13 : decode kTp_add.2.1 13 = .ok (.if_icmp .ge 32, 3) := by decide +kernel
theorem dTp_add_16 : decode kTp_add.2.1 16 = .ok (.aload_n 0, 1) := by decide +kernel
theorem dTp_add_17 : decode kTp_add.2.1 17 = .ok (.getfield 10, 3) := by decide +kernel
theorem dTp_add_20 : decode kTp_add.2.1 20 = .ok (.aload_n 0, 1) := by decide +kernel
theorem dTp_add_21 : decode kTp_add.2.1 21 = .ok (.getfield 16, 3) := by decide +kernel
theorem dTp_add_24 : decode kTp_add.2.1 24 = .ok (.iload_n 1, 1) := by decide +kernel
theorem dTp_add_25 : decode kTp_add.2.1 25 = .ok (.iload_n 2, 1) := by decide +kernel
theorem dTp_add_26 : decode kTp_add.2.1 26 = .ok (.iushr, 1) := by decide +kernel
theorem dTp_add_27 : decode kTp_add.2.1 27 = .ok (.i2b, 1) := by decide +kernel
theorem dTp_add_28 : decode kTp_add.2.1 28 = .ok (.bastore, 1) := by decide +kernel
theorem dTp_add_29 : decode kTp_add.2.1 29 = .ok (.aload_n 0, 1) := by decide +kernel
theorem dTp_add_30 : decode kTp_add.2.1 30 = .ok (.dup, 1) := by decide +kernel
theorem dTp_add_31 : decode kTp_add.2.1 31 = .ok (.getfield 16, 3) := by decide +kernel
theorem dTp_add_34 : decode kTp_add.2.1 34 = .ok (.iconst 1, 1) := by decide +kernel
theorem dTp_add_35 : decode kTp_add.2.1 35 = .ok (.iadd, 1) := by decide +kernel
theorem dTp_add_36 : decode kTp_add.2.1 36 = .ok (.putfield 16, 3) := by decide +kernel
theorem dTp_add_39 : decode kTp_add.2.1 39 = .ok (.iinc 2 (-8), 3) := by decide +kernel
theorem dTp_add_42 : decode kTp_add.2.1 42 = .ok (.goto (-39), 3) := by decide +kernel
theorem dTp_add_45 : decode kTp_add.2.1 45 = .ok (.return_, 1) := by decide +kernel
theorem fTp_10 : pm_Fl "CircuitChecker$Tape" 10 1 0 true := ⟨_, _, _, rfl, by decide, by decide +kernel, pW1, Or.inl (pm_in 44 (by decide +kernel) rfl)⟩ -- bytes
theorem sTp_10 : pm_Fs "CircuitChecker$Tape" 1 0 (.array .byte) true := ⟨_, _, _, pY1, rfl, pY1_ok, pN1_ok, rfl, rfl, fun _ => rfl⟩
theorem fTp_16 : pm_Fl "CircuitChecker$Tape" 16 1 1 false := ⟨_, _, _, rfl, by decide, by decide +kernel, pW1, Or.inl (pm_in 47 (by decide +kernel) rfl)⟩ -- length
theorem sTp_16 : pm_Fs "CircuitChecker$Tape" 1 1 .int false := ⟨_, _, _, pY1, rfl, pY1_ok, pN1_ok, rfl, rfl, fun h => by cases h⟩
theorem cTp_9 : Cond.constant "CircuitChecker$Tape" 9 (65536) ∈ pm_TS := pm_in 43 (by decide +kernel) rfl
theorem wTp_init : Cond.code kTp_init.1 kTp_init.2.1 kTp_init.2.2.1 kTp_init.2.2.2 ∈ pm_TS := pm_in 41 (by decide +kernel) rfl
theorem iTp_init : kTp_init.1.name = "<init>" ∧ kTp_init.2.2.2 = none ∧ Cond.instanceMethod kTp_init.1 ∈ pm_TS := ⟨rfl, rfl, pm_in 40 (by decide +kernel) rfl⟩
theorem wTp_byteAt : Cond.code kTp_byteAt.1 kTp_byteAt.2.1 kTp_byteAt.2.2.1 kTp_byteAt.2.2.2 ∈ pm_TS := pm_in 635 (by decide +kernel) rfl
theorem vTp_byteAt : pm_Vt kTp_byteAt := ⟨pm_in 633 (by decide +kernel) rfl, pm_in 634 (by decide +kernel) rfl⟩
theorem wTp_add : Cond.code kTp_add.1 kTp_add.2.1 kTp_add.2.2.1 kTp_add.2.2.2 ∈ pm_TS := pm_in 1028 (by decide +kernel) rfl
theorem vTp_add : pm_Vt kTp_add := ⟨pm_in 1026 (by decide +kernel) rfl, pm_in 1027 (by decide +kernel) rfl⟩
/-! CircuitChecker$Code: cards, decoded instructions, links -/
def kCo_init : pmK := (⟨"CircuitChecker$Code", "<init>", "()V"⟩, prog_4_method_1_code, 1, none)
def kCo_add : pmK := (⟨"CircuitChecker$Code", "add", "(II)V"⟩, prog_4_method_2_code, 3, none)
theorem dCo_init_0 : decode kCo_init.2.1 0 = .ok (.aload_n 0, 1) := by decide +kernel
theorem dCo_init_1 : decode kCo_init.2.1 1 = .ok (.invokespecial 3, 3) := by decide +kernel
theorem dCo_init_4 : decode kCo_init.2.1 4 = .ok (.aload_n 0, 1) := by decide +kernel
theorem dCo_init_5 : decode kCo_init.2.1 5 = .ok (.sipush 4000, 3) := by decide +kernel
theorem dCo_init_8 : decode kCo_init.2.1 8 = .ok (.newarray .int, 2) := by decide +kernel
theorem dCo_init_10 : decode kCo_init.2.1 10 = .ok (.putfield 9, 3) := by decide +kernel
theorem dCo_init_13 : decode kCo_init.2.1 13 = .ok (.aload_n 0, 1) := by decide +kernel
theorem dCo_init_14 : decode kCo_init.2.1 14 = .ok (.sipush 4000, 3) := by decide +kernel
theorem dCo_init_17 : decode kCo_init.2.1 17 = .ok (.newarray .int, 2) := by decide +kernel
theorem dCo_init_19 : decode kCo_init.2.1 19 = .ok (.putfield 15, 3) := by decide +kernel
theorem dCo_init_22 : decode kCo_init.2.1 22 = .ok (.return_, 1) := by decide +kernel
theorem dCo_add_0 : decode kCo_add.2.1 0 = .ok (.aload_n 0, 1) := by decide +kernel
theorem dCo_add_1 : decode kCo_add.2.1 1 = .ok (.getfield 18, 3) := by decide +kernel
theorem dCo_add_4 : decode kCo_add.2.1 4 = .ok (.sipush 4000, 3) := by decide +kernel
theorem dCo_add_7 : decode kCo_add.2.1 7 = .ok (.if_icmp .ge 33, 3) := by decide +kernel
theorem dCo_add_10 : decode kCo_add.2.1 10 = .ok (.aload_n 0, 1) := by decide +kernel
theorem dCo_add_11 : decode kCo_add.2.1 11 = .ok (.getfield 9, 3) := by decide +kernel
theorem dCo_add_14 : decode kCo_add.2.1 14 = .ok (.aload_n 0, 1) := by decide +kernel
theorem dCo_add_15 : decode kCo_add.2.1 15 = .ok (.getfield 18, 3) := by decide +kernel
theorem dCo_add_18 : decode kCo_add.2.1 18 = .ok (.iload_n 1, 1) := by decide +kernel
theorem dCo_add_19 : decode kCo_add.2.1 19 = .ok (.iastore, 1) := by decide +kernel
theorem dCo_add_20 : decode kCo_add.2.1 20 = .ok (.aload_n 0, 1) := by decide +kernel
theorem dCo_add_21 : decode kCo_add.2.1 21 = .ok (.getfield 15, 3) := by decide +kernel
theorem dCo_add_24 : decode kCo_add.2.1 24 = .ok (.aload_n 0, 1) := by decide +kernel
theorem dCo_add_25 : decode kCo_add.2.1 25 = .ok (.getfield 18, 3) := by decide +kernel
theorem dCo_add_28 : decode kCo_add.2.1 28 = .ok (.iload_n 2, 1) := by decide +kernel
theorem dCo_add_29 : decode kCo_add.2.1 29 = .ok (.iastore, 1) := by decide +kernel
theorem dCo_add_30 : decode kCo_add.2.1 30 = .ok (.aload_n 0, 1) := by decide +kernel
theorem dCo_add_31 : decode kCo_add.2.1 31 = .ok (.dup, 1) := by decide +kernel
theorem dCo_add_32 : decode kCo_add.2.1 32 = .ok (.getfield 18, 3) := by decide +kernel
theorem dCo_add_35 : decode kCo_add.2.1 35 = .ok (.iconst 1, 1) := by decide +kernel
theorem dCo_add_36 : decode kCo_add.2.1 36 = .ok (.iadd, 1) := by decide +kernel
theorem dCo_add_37 : decode kCo_add.2.1 37 = .ok (.putfield 18, 3) := by decide +kernel
theorem dCo_add_40 : decode kCo_add.2.1 40 = .ok (.return_, 1) := by decide +kernel
theorem fCo_9 : pm_Fl "CircuitChecker$Code" 9 3 0 true := ⟨_, _, _, rfl, by decide, by decide +kernel, pW3, Or.inl (pm_in 67 (by decide +kernel) rfl)⟩ -- orders
theorem sCo_9 : pm_Fs "CircuitChecker$Code" 3 0 (.array .int) true := ⟨_, _, _, pY3, rfl, pY3_ok, pN3_ok, rfl, rfl, fun _ => rfl⟩
theorem fCo_15 : pm_Fl "CircuitChecker$Code" 15 3 1 true := ⟨_, _, _, rfl, by decide, by decide +kernel, pW3, Or.inl (pm_in 69 (by decide +kernel) rfl)⟩ -- abouts
theorem sCo_15 : pm_Fs "CircuitChecker$Code" 3 1 (.array .int) true := ⟨_, _, _, pY3, rfl, pY3_ok, pN3_ok, rfl, rfl, fun _ => rfl⟩
theorem fCo_18 : pm_Fl "CircuitChecker$Code" 18 3 2 false := ⟨_, _, _, rfl, by decide, by decide +kernel, pW3, Or.inl (pm_in 71 (by decide +kernel) rfl)⟩ -- length
theorem sCo_18 : pm_Fs "CircuitChecker$Code" 3 2 .int false := ⟨_, _, _, pY3, rfl, pY3_ok, pN3_ok, rfl, rfl, fun h => by cases h⟩
theorem wCo_init : Cond.code kCo_init.1 kCo_init.2.1 kCo_init.2.2.1 kCo_init.2.2.2 ∈ pm_TS := pm_in 65 (by decide +kernel) rfl
theorem iCo_init : kCo_init.1.name = "<init>" ∧ kCo_init.2.2.2 = none ∧ Cond.instanceMethod kCo_init.1 ∈ pm_TS := ⟨rfl, rfl, pm_in 64 (by decide +kernel) rfl⟩
theorem wCo_add : Cond.code kCo_add.1 kCo_add.2.1 kCo_add.2.2.1 kCo_add.2.2.2 ∈ pm_TS := pm_in 876 (by decide +kernel) rfl
theorem vCo_add : pm_Vt kCo_add := ⟨pm_in 874 (by decide +kernel) rfl, pm_in 875 (by decide +kernel) rfl⟩
/-! CircuitChecker$Circuit: cards, decoded instructions, links -/
def kCi_init : pmK := (⟨"CircuitChecker$Circuit", "<init>", "()V"⟩, prog_2_method_1_code, 1, none)
def kCi_bitsBehind : pmK := (⟨"CircuitChecker$Circuit", "bitsBehind", "(I)I"⟩, prog_2_method_9_code, 2, (some .int))
def kCi_bitsBehindReg : pmK := (⟨"CircuitChecker$Circuit", "bitsBehindReg", "(I)I"⟩, prog_2_method_8_code, 2, (some .int))
def kCi_clear : pmK := (⟨"CircuitChecker$Circuit", "clear", "()V"⟩, prog_2_method_2_code, 1, none)
def kCi_addReg : pmK := (⟨"CircuitChecker$Circuit", "addReg", "(II)V"⟩, prog_2_method_3_code, 3, none)
def kCi_addName : pmK := (⟨"CircuitChecker$Circuit", "addName", "(III)V"⟩, prog_2_method_7_code, 4, none)
def kCi_addInput : pmK := (⟨"CircuitChecker$Circuit", "addInput", "(I)V"⟩, prog_2_method_4_code, 2, none)
def kCi_addWire : pmK := (⟨"CircuitChecker$Circuit", "addWire", "()V"⟩, prog_2_method_5_code, 1, none)
def kCi_addSpec : pmK := (⟨"CircuitChecker$Circuit", "addSpec", "()V"⟩, prog_2_method_6_code, 1, none)
theorem dCi_init_0 : decode kCi_init.2.1 0 = .ok (.aload_n 0, 1) := by decide +kernel
theorem dCi_init_1 : decode kCi_init.2.1 1 = .ok (.invokespecial 3, 3) := by decide +kernel
theorem dCi_init_4 : decode kCi_init.2.1 4 = .ok (.aload_n 0, 1) := by decide +kernel
theorem dCi_init_5 : decode kCi_init.2.1 5 = .ok (.bipush 60, 2) := by decide +kernel
theorem dCi_init_7 : decode kCi_init.2.1 7 = .ok (.newarray .int, 2) := by decide +kernel
theorem dCi_init_9 : decode kCi_init.2.1 9 = .ok (.putfield 9, 3) := by decide +kernel
theorem dCi_init_12 : decode kCi_init.2.1 12 = .ok (.aload_n 0, 1) := by decide +kernel
theorem dCi_init_13 : decode kCi_init.2.1 13 = .ok (.bipush 60, 2) := by decide +kernel
theorem dCi_init_15 : decode kCi_init.2.1 15 = .ok (.newarray .int, 2) := by decide +kernel
theorem dCi_init_17 : decode kCi_init.2.1 17 = .ok (.putfield 15, 3) := by decide +kernel
theorem dCi_init_20 : decode kCi_init.2.1 20 = .ok (.aload_n 0, 1) := by decide +kernel
theorem dCi_init_21 : decode kCi_init.2.1 21 = .ok (.bipush 60, 2) := by decide +kernel
theorem dCi_init_23 : decode kCi_init.2.1 23 = .ok (.newarray .int, 2) := by decide +kernel
theorem dCi_init_25 : decode kCi_init.2.1 25 = .ok (.putfield 18, 3) := by decide +kernel
theorem dCi_init_28 : decode kCi_init.2.1 28 = .ok (.aload_n 0, 1) := by decide +kernel
theorem dCi_init_29 : decode kCi_init.2.1 29 = .ok (.new 21, 3) := by decide +kernel
theorem dCi_init_32 : decode kCi_init.2.1 32 = .ok (.dup, 1) := by decide +kernel
theorem dCi_init_33 : decode kCi_init.2.1 33 = .ok (.invokespecial 23, 3) := by decide +kernel
theorem dCi_init_36 : decode kCi_init.2.1 36 = .ok (.putfield 24, 3) := by decide +kernel
theorem dCi_init_39 : decode kCi_init.2.1 39 = .ok (.aload_n 0, 1) := by decide +kernel
theorem dCi_init_40 : decode kCi_init.2.1 40 = .ok (.new 21, 3) := by decide +kernel
theorem dCi_init_43 : decode kCi_init.2.1 43 = .ok (.dup, 1) := by decide +kernel
theorem dCi_init_44 : decode kCi_init.2.1 44 = .ok (.invokespecial 23, 3) := by decide +kernel
theorem dCi_init_47 : decode kCi_init.2.1 47 = .ok (.putfield 28, 3) := by decide +kernel
theorem dCi_init_50 : decode kCi_init.2.1 50 = .ok (.return_, 1) := by decide +kernel
theorem dCi_bitsBehind_0 : decode kCi_bitsBehind.2.1 0 = .ok (.aload_n 0, 1) := by decide +kernel
theorem dCi_bitsBehind_1 : decode kCi_bitsBehind.2.1 1 = .ok (.getfield 9, 3) := by decide +kernel
theorem dCi_bitsBehind_4 : decode kCi_bitsBehind.2.1 4 = .ok (.iload_n 1, 1) := by decide +kernel
theorem dCi_bitsBehind_5 : decode kCi_bitsBehind.2.1 5 = .ok (.iaload, 1) := by decide +kernel
theorem dCi_bitsBehind_6 : decode kCi_bitsBehind.2.1 6 = .ok (.bipush 29, 2) := by decide +kernel
theorem dCi_bitsBehind_8 : decode kCi_bitsBehind.2.1 8 = .ok (.if_icmp .ne 16, 3) := by decide +kernel
theorem dCi_bitsBehind_11 : decode kCi_bitsBehind.2.1 11 = .ok (.aload_n 0, 1) := by decide +kernel
theorem dCi_bitsBehind_12 : decode kCi_bitsBehind.2.1 12 = .ok (.iload_n 1, 1) := by decide +kernel
theorem dCi_bitsBehind_13 : decode kCi_bitsBehind.2.1 13 = .ok (.invokevirtual 57, 3) := by decide +kernel
theorem dCi_bitsBehind_16 : decode kCi_bitsBehind.2.1 16 = .ok (.aload_n 0, 1) := by decide +kernel
theorem dCi_bitsBehind_17 : decode kCi_bitsBehind.2.1 17 = .ok (.getfield 41, 3) := by decide +kernel
theorem dCi_bitsBehind_20 : decode kCi_bitsBehind.2.1 20 = .ok (.iadd, 1) := by decide +kernel
theorem dCi_bitsBehind_21 : decode kCi_bitsBehind.2.1 21 = .ok (.goto 14, 3) := by decide +kernel
theorem dCi_bitsBehind_24 : decode kCi_bitsBehind.2.1 24 = .ok (.aload_n 0, 1) := by decide +kernel
theorem dCi_bitsBehind_25 : decode kCi_bitsBehind.2.1 25 = .ok (.getfield 41, 3) := by decide +kernel
theorem dCi_bitsBehind_28 : decode kCi_bitsBehind.2.1 28 = .ok (.aload_n 0, 1) := by decide +kernel
theorem dCi_bitsBehind_29 : decode kCi_bitsBehind.2.1 29 = .ok (.getfield 18, 3) := by decide +kernel
theorem dCi_bitsBehind_32 : decode kCi_bitsBehind.2.1 32 = .ok (.iload_n 1, 1) := by decide +kernel
theorem dCi_bitsBehind_33 : decode kCi_bitsBehind.2.1 33 = .ok (.iaload, 1) := by decide +kernel
theorem dCi_bitsBehind_34 : decode kCi_bitsBehind.2.1 34 = .ok (.isub, 1) := by decide +kernel
theorem dCi_bitsBehind_35 : decode kCi_bitsBehind.2.1 35 = .ok (.ireturn, 1) := by decide +kernel
theorem dCi_bitsBehindReg_0 : decode kCi_bitsBehindReg.2.1 0 = .ok (.aload_n 0, 1) := by decide +kernel
theorem dCi_bitsBehindReg_1 : decode kCi_bitsBehindReg.2.1 1 = .ok (.getfield 38, 3) := by decide +kernel
theorem dCi_bitsBehindReg_4 : decode kCi_bitsBehindReg.2.1 4 = .ok (.aload_n 0, 1) := by decide +kernel
theorem dCi_bitsBehindReg_5 : decode kCi_bitsBehindReg.2.1 5 = .ok (.getfield 18, 3) := by decide +kernel
theorem dCi_bitsBehindReg_8 : decode kCi_bitsBehindReg.2.1 8 = .ok (.iload_n 1, 1) := by decide +kernel
theorem dCi_bitsBehindReg_9 : decode kCi_bitsBehindReg.2.1 9 = .ok (.iaload, 1) := by decide +kernel
theorem dCi_bitsBehindReg_10 : decode kCi_bitsBehindReg.2.1 10 = .ok (.isub, 1) := by decide +kernel
theorem dCi_bitsBehindReg_11 : decode kCi_bitsBehindReg.2.1 11 = .ok (.ireturn, 1) := by decide +kernel
theorem dCi_clear_0 : decode kCi_clear.2.1 0 = .ok (.aload_n 0, 1) := by decide +kernel
theorem dCi_clear_1 : decode kCi_clear.2.1 1 = .ok (.iconst 0, 1) := by decide +kernel
theorem dCi_clear_2 : decode kCi_clear.2.1 2 = .ok (.putfield 31, 3) := by decide +kernel
theorem dCi_clear_5 : decode kCi_clear.2.1 5 = .ok (.aload_n 0, 1) := by decide +kernel
theorem dCi_clear_6 : decode kCi_clear.2.1 6 = .ok (.iconst 0, 1) := by decide +kernel
theorem dCi_clear_7 : decode kCi_clear.2.1 7 = .ok (.putfield 35, 3) := by decide +kernel
theorem dCi_clear_10 : decode kCi_clear.2.1 10 = .ok (.aload_n 0, 1) := by decide +kernel
theorem dCi_clear_11 : decode kCi_clear.2.1 11 = .ok (.iconst 0, 1) := by decide +kernel
theorem dCi_clear_12 : decode kCi_clear.2.1 12 = .ok (.putfield 38, 3) := by decide +kernel
theorem dCi_clear_15 : decode kCi_clear.2.1 15 = .ok (.aload_n 0, 1) := by decide +kernel
theorem dCi_clear_16 : decode kCi_clear.2.1 16 = .ok (.iconst 0, 1) := by decide +kernel
theorem dCi_clear_17 : decode kCi_clear.2.1 17 = .ok (.putfield 41, 3) := by decide +kernel
theorem dCi_clear_20 : decode kCi_clear.2.1 20 = .ok (.aload_n 0, 1) := by decide +kernel
theorem dCi_clear_21 : decode kCi_clear.2.1 21 = .ok (.iconst 0, 1) := by decide +kernel
theorem dCi_clear_22 : decode kCi_clear.2.1 22 = .ok (.putfield 44, 3) := by decide +kernel
theorem dCi_clear_25 : decode kCi_clear.2.1 25 = .ok (.aload_n 0, 1) := by decide +kernel
theorem dCi_clear_26 : decode kCi_clear.2.1 26 = .ok (.iconst 0, 1) := by decide +kernel
theorem dCi_clear_27 : decode kCi_clear.2.1 27 = .ok (.putfield 47, 3) := by decide +kernel
theorem dCi_clear_30 : decode kCi_clear.2.1 30 = .ok (.aload_n 0, 1) := by decide +kernel
theorem dCi_clear_31 : decode kCi_clear.2.1 31 = .ok (.getfield 24, 3) := by decide +kernel
theorem dCi_clear_34 : decode kCi_clear.2.1 34 = .ok (.iconst 0, 1) := by decide +kernel
theorem dCi_clear_35 : decode kCi_clear.2.1 35 = .ok (.putfield 50, 3) := by decide +kernel
theorem dCi_clear_38 : decode kCi_clear.2.1 38 = .ok (.aload_n 0, 1) := by decide +kernel
theorem dCi_clear_39 : decode kCi_clear.2.1 39 = .ok (.getfield 28, 3) := by decide +kernel
theorem dCi_clear_42 : decode kCi_clear.2.1 42 = .ok (.iconst 0, 1) := by decide +kernel
theorem dCi_clear_43 : decode kCi_clear.2.1 43 = .ok (.putfield 50, 3) := by decide +kernel
theorem dCi_clear_46 : decode kCi_clear.2.1 46 = .ok (.return_, 1) := by decide +kernel
theorem dCi_addReg_0 : decode kCi_addReg.2.1 0 = .ok (.aload_n 0, 1) := by decide +kernel
theorem dCi_addReg_1 : decode kCi_addReg.2.1 1 = .ok (.dup, 1) := by decide +kernel
theorem dCi_addReg_2 : decode kCi_addReg.2.1 2 = .ok (.getfield 38, 3) := by decide +kernel
theorem dCi_addReg_5 : decode kCi_addReg.2.1 5 = .ok (.iload_n 1, 1) := by decide +kernel
theorem dCi_addReg_6 : decode kCi_addReg.2.1 6 = .ok (.iadd, 1) := by decide +kernel
theorem dCi_addReg_7 : decode kCi_addReg.2.1 7 = .ok (.putfield 38, 3) := by decide +kernel
theorem dCi_addReg_10 : decode kCi_addReg.2.1 10 = .ok (.aload_n 0, 1) := by decide +kernel
theorem dCi_addReg_11 : decode kCi_addReg.2.1 11 = .ok (.aload_n 0, 1) := by decide +kernel
theorem dCi_addReg_12 : decode kCi_addReg.2.1 12 = .ok (.getfield 47, 3) := by decide +kernel
theorem dCi_addReg_15 : decode kCi_addReg.2.1 15 = .ok (.iload_n 1, 1) := by decide +kernel
theorem dCi_addReg_16 : decode kCi_addReg.2.1 16 = .ok (.ishl, 1) := by decide +kernel
theorem dCi_addReg_17 : decode kCi_addReg.2.1 17 = .ok (.iload_n 2, 1) := by decide +kernel
theorem dCi_addReg_18 : decode kCi_addReg.2.1 18 = .ok (.ior, 1) := by decide +kernel
theorem dCi_addReg_19 : decode kCi_addReg.2.1 19 = .ok (.putfield 47, 3) := by decide +kernel
theorem dCi_addReg_22 : decode kCi_addReg.2.1 22 = .ok (.aload_n 0, 1) := by decide +kernel
theorem dCi_addReg_23 : decode kCi_addReg.2.1 23 = .ok (.bipush 29, 2) := by decide +kernel
theorem dCi_addReg_25 : decode kCi_addReg.2.1 25 = .ok (.iload_n 1, 1) := by decide +kernel
theorem dCi_addReg_26 : decode kCi_addReg.2.1 26 = .ok (.aload_n 0, 1) := by decide +kernel
theorem dCi_addReg_27 : decode kCi_addReg.2.1 27 = .ok (.getfield 38, 3) := by decide +kernel
theorem dCi_addReg_30 : decode kCi_addReg.2.1 30 = .ok (.invokevirtual 53, 3) := by decide +kernel
theorem dCi_addReg_33 : decode kCi_addReg.2.1 33 = .ok (.return_, 1) := by decide +kernel
theorem dCi_addName_0 : decode kCi_addName.2.1 0 = .ok (.aload_n 0, 1) := by decide +kernel
theorem dCi_addName_1 : decode kCi_addName.2.1 1 = .ok (.getfield 31, 3) := by decide +kernel
theorem dCi_addName_4 : decode kCi_addName.2.1 4 = .ok (.bipush 60, 2) := by decide +kernel
theorem dCi_addName_6 : decode kCi_addName.2.1 6 = .ok (.if_icmp .ge 43, 3) := by decide +kernel
theorem dCi_addName_9 : decode kCi_addName.2.1 9 = .ok (.aload_n 0, 1) := by decide +kernel
theorem dCi_addName_10 : decode kCi_addName.2.1 10 = .ok (.getfield 9, 3) := by decide +kernel
theorem dCi_addName_13 : decode kCi_addName.2.1 13 = .ok (.aload_n 0, 1) := by decide +kernel
theorem dCi_addName_14 : decode kCi_addName.2.1 14 = .ok (.getfield 31, 3) := by decide +kernel
theorem dCi_addName_17 : decode kCi_addName.2.1 17 = .ok (.iload_n 1, 1) := by decide +kernel
theorem dCi_addName_18 : decode kCi_addName.2.1 18 = .ok (.iastore, 1) := by decide +kernel
theorem dCi_addName_19 : decode kCi_addName.2.1 19 = .ok (.aload_n 0, 1) := by decide +kernel
theorem dCi_addName_20 : decode kCi_addName.2.1 20 = .ok (.getfield 15, 3) := by decide +kernel
theorem dCi_addName_23 : decode kCi_addName.2.1 23 = .ok (.aload_n 0, 1) := by decide +kernel
theorem dCi_addName_24 : decode kCi_addName.2.1 24 = .ok (.getfield 31, 3) := by decide +kernel
theorem dCi_addName_27 : decode kCi_addName.2.1 27 = .ok (.iload_n 2, 1) := by decide +kernel
theorem dCi_addName_28 : decode kCi_addName.2.1 28 = .ok (.iastore, 1) := by decide +kernel
theorem dCi_addName_29 : decode kCi_addName.2.1 29 = .ok (.aload_n 0, 1) := by decide +kernel
theorem dCi_addName_30 : decode kCi_addName.2.1 30 = .ok (.getfield 18, 3) := by decide +kernel
theorem dCi_addName_33 : decode kCi_addName.2.1 33 = .ok (.aload_n 0, 1) := by decide +kernel
theorem dCi_addName_34 : decode kCi_addName.2.1 34 = .ok (.getfield 31, 3) := by decide +kernel
theorem dCi_addName_37 : decode kCi_addName.2.1 37 = .ok (.iload_n 3, 1) := by decide +kernel
theorem dCi_addName_38 : decode kCi_addName.2.1 38 = .ok (.iastore, 1) := by decide +kernel
theorem dCi_addName_39 : decode kCi_addName.2.1 39 = .ok (.aload_n 0, 1) := by decide +kernel
theorem dCi_addName_40 : decode kCi_addName.2.1 40 = .ok (.dup, 1) := by decide +kernel
theorem dCi_addName_41 : decode kCi_addName.2.1 41 = .ok (.getfield 31, 3) := by decide +kernel
theorem dCi_addName_44 : decode kCi_addName.2.1 44 = .ok (.iconst 1, 1) := by decide +kernel
theorem dCi_addName_45 : decode kCi_addName.2.1 45 = .ok (.iadd, 1) := by decide +kernel
theorem dCi_addName_46 : decode kCi_addName.2.1 46 = .ok (.putfield 31, 3) := by decide +kernel
theorem dCi_addName_49 : decode kCi_addName.2.1 49 = .ok (.return_, 1) := by decide +kernel
theorem dCi_addInput_0 : decode kCi_addInput.2.1 0 = .ok (.aload_n 0, 1) := by decide +kernel
theorem dCi_addInput_1 : decode kCi_addInput.2.1 1 = .ok (.dup, 1) := by decide +kernel
theorem dCi_addInput_2 : decode kCi_addInput.2.1 2 = .ok (.getfield 41, 3) := by decide +kernel
theorem dCi_addInput_5 : decode kCi_addInput.2.1 5 = .ok (.iload_n 1, 1) := by decide +kernel
theorem dCi_addInput_6 : decode kCi_addInput.2.1 6 = .ok (.iadd, 1) := by decide +kernel
theorem dCi_addInput_7 : decode kCi_addInput.2.1 7 = .ok (.putfield 41, 3) := by decide +kernel
theorem dCi_addInput_10 : decode kCi_addInput.2.1 10 = .ok (.aload_n 0, 1) := by decide +kernel
theorem dCi_addInput_11 : decode kCi_addInput.2.1 11 = .ok (.bipush 30, 2) := by decide +kernel
theorem dCi_addInput_13 : decode kCi_addInput.2.1 13 = .ok (.iload_n 1, 1) := by decide +kernel
theorem dCi_addInput_14 : decode kCi_addInput.2.1 14 = .ok (.aload_n 0, 1) := by decide +kernel
theorem dCi_addInput_15 : decode kCi_addInput.2.1 15 = .ok (.getfield 41, 3) := by decide +kernel
theorem dCi_addInput_18 : decode kCi_addInput.2.1 18 = .ok (.invokevirtual 53, 3) := by decide +kernel
theorem dCi_addInput_21 : decode kCi_addInput.2.1 21 = .ok (.return_, 1) := by decide +kernel
theorem dCi_addWire_0 : decode kCi_addWire.2.1 0 = .ok (.aload_n 0, 1) := by decide +kernel
theorem dCi_addWire_1 : decode kCi_addWire.2.1 1 = .ok (.bipush 31, 2) := by decide +kernel
theorem dCi_addWire_3 : decode kCi_addWire.2.1 3 = .ok (.iconst 0, 1) := by decide +kernel
theorem dCi_addWire_4 : decode kCi_addWire.2.1 4 = .ok (.iconst 0, 1) := by decide +kernel
theorem dCi_addWire_5 : decode kCi_addWire.2.1 5 = .ok (.invokevirtual 53, 3) := by decide +kernel
theorem dCi_addWire_8 : decode kCi_addWire.2.1 8 = .ok (.return_, 1) := by decide +kernel
theorem dCi_addSpec_0 : decode kCi_addSpec.2.1 0 = .ok (.aload_n 0, 1) := by decide +kernel
theorem dCi_addSpec_1 : decode kCi_addSpec.2.1 1 = .ok (.bipush 33, 2) := by decide +kernel
theorem dCi_addSpec_3 : decode kCi_addSpec.2.1 3 = .ok (.iconst 0, 1) := by decide +kernel
theorem dCi_addSpec_4 : decode kCi_addSpec.2.1 4 = .ok (.aload_n 0, 1) := by decide +kernel
theorem dCi_addSpec_5 : decode kCi_addSpec.2.1 5 = .ok (.getfield 35, 3) := by decide +kernel
theorem dCi_addSpec_8 : decode kCi_addSpec.2.1 8 = .ok (.invokevirtual 53, 3) := by decide +kernel
theorem dCi_addSpec_11 : decode kCi_addSpec.2.1 11 = .ok (.aload_n 0, 1) := by decide +kernel
theorem dCi_addSpec_12 : decode kCi_addSpec.2.1 12 = .ok (.dup, 1) := by decide +kernel
theorem dCi_addSpec_13 : decode kCi_addSpec.2.1 13 = .ok (.getfield 35, 3) := by decide +kernel
theorem dCi_addSpec_16 : decode kCi_addSpec.2.1 16 = .ok (.iconst 1, 1) := by decide +kernel
theorem dCi_addSpec_17 : decode kCi_addSpec.2.1 17 = .ok (.iadd, 1) := by decide +kernel
theorem dCi_addSpec_18 : decode kCi_addSpec.2.1 18 = .ok (.putfield 35, 3) := by decide +kernel
theorem dCi_addSpec_21 : decode kCi_addSpec.2.1 21 = .ok (.return_, 1) := by decide +kernel
theorem fCi_9 : pm_Fl "CircuitChecker$Circuit" 9 2 0 true := ⟨_, _, _, rfl, by decide, by decide +kernel, pW2, Or.inl (pm_in 82 (by decide +kernel) rfl)⟩ -- kind
theorem sCi_9 : pm_Fs "CircuitChecker$Circuit" 2 0 (.array .int) true := ⟨_, _, _, pY2, rfl, pY2_ok, pN2_ok, rfl, rfl, fun _ => rfl⟩
theorem fCi_15 : pm_Fl "CircuitChecker$Circuit" 15 2 1 true := ⟨_, _, _, rfl, by decide, by decide +kernel, pW2, Or.inl (pm_in 86 (by decide +kernel) rfl)⟩ -- bits
theorem sCi_15 : pm_Fs "CircuitChecker$Circuit" 2 1 (.array .int) true := ⟨_, _, _, pY2, rfl, pY2_ok, pN2_ok, rfl, rfl, fun _ => rfl⟩
theorem fCi_18 : pm_Fl "CircuitChecker$Circuit" 18 2 2 true := ⟨_, _, _, rfl, by decide, by decide +kernel, pW2, Or.inl (pm_in 89 (by decide +kernel) rfl)⟩ -- part
theorem sCi_18 : pm_Fs "CircuitChecker$Circuit" 2 2 (.array .int) true := ⟨_, _, _, pY2, rfl, pY2_ok, pN2_ok, rfl, rfl, fun _ => rfl⟩
theorem fCi_24 : pm_Fl "CircuitChecker$Circuit" 24 2 3 true := ⟨_, _, _, rfl, by decide, by decide +kernel, pW2, Or.inl (pm_in 92 (by decide +kernel) rfl)⟩ -- logic
theorem sCi_24 : pm_Fs "CircuitChecker$Circuit" 2 3 (.object "CircuitChecker$Code") true := ⟨_, _, _, pY2, rfl, pY2_ok, pN2_ok, rfl, rfl, fun _ => rfl⟩
theorem fCi_28 : pm_Fl "CircuitChecker$Circuit" 28 2 4 true := ⟨_, _, _, rfl, by decide, by decide +kernel, pW2, Or.inl (pm_in 95 (by decide +kernel) rfl)⟩ -- formulas
theorem sCi_28 : pm_Fs "CircuitChecker$Circuit" 2 4 (.object "CircuitChecker$Code") true := ⟨_, _, _, pY2, rfl, pY2_ok, pN2_ok, rfl, rfl, fun _ => rfl⟩
theorem fCi_31 : pm_Fl "CircuitChecker$Circuit" 31 2 5 false := ⟨_, _, _, rfl, by decide, by decide +kernel, pW2, Or.inl (pm_in 98 (by decide +kernel) rfl)⟩ -- names
theorem sCi_31 : pm_Fs "CircuitChecker$Circuit" 2 5 .int false := ⟨_, _, _, pY2, rfl, pY2_ok, pN2_ok, rfl, rfl, fun h => by cases h⟩
theorem fCi_35 : pm_Fl "CircuitChecker$Circuit" 35 2 6 false := ⟨_, _, _, rfl, by decide, by decide +kernel, pW2, Or.inl (pm_in 102 (by decide +kernel) rfl)⟩ -- specs
theorem sCi_35 : pm_Fs "CircuitChecker$Circuit" 2 6 .int false := ⟨_, _, _, pY2, rfl, pY2_ok, pN2_ok, rfl, rfl, fun h => by cases h⟩
theorem fCi_38 : pm_Fl "CircuitChecker$Circuit" 38 2 7 false := ⟨_, _, _, rfl, by decide, by decide +kernel, pW2, Or.inl (pm_in 107 (by decide +kernel) rfl)⟩ -- regBits
theorem sCi_38 : pm_Fs "CircuitChecker$Circuit" 2 7 .int false := ⟨_, _, _, pY2, rfl, pY2_ok, pN2_ok, rfl, rfl, fun h => by cases h⟩
theorem fCi_41 : pm_Fl "CircuitChecker$Circuit" 41 2 8 false := ⟨_, _, _, rfl, by decide, by decide +kernel, pW2, Or.inl (pm_in 111 (by decide +kernel) rfl)⟩ -- inputBits
theorem sCi_41 : pm_Fs "CircuitChecker$Circuit" 2 8 .int false := ⟨_, _, _, pY2, rfl, pY2_ok, pN2_ok, rfl, rfl, fun h => by cases h⟩
theorem fCi_44 : pm_Fl "CircuitChecker$Circuit" 44 2 9 false := ⟨_, _, _, rfl, by decide, by decide +kernel, pW2, Or.inl (pm_in 115 (by decide +kernel) rfl)⟩ -- costs
theorem sCi_44 : pm_Fs "CircuitChecker$Circuit" 2 9 .int false := ⟨_, _, _, pY2, rfl, pY2_ok, pN2_ok, rfl, rfl, fun h => by cases h⟩
theorem fCi_47 : pm_Fl "CircuitChecker$Circuit" 47 2 10 false := ⟨_, _, _, rfl, by decide, by decide +kernel, pW2, Or.inl (pm_in 118 (by decide +kernel) rfl)⟩ -- first
theorem sCi_47 : pm_Fs "CircuitChecker$Circuit" 2 10 .int false := ⟨_, _, _, pY2, rfl, pY2_ok, pN2_ok, rfl, rfl, fun h => by cases h⟩
theorem fCi_50 : pm_Fl "CircuitChecker$Circuit" 50 3 2 false := ⟨_, _, _, rfl, by decide, by decide +kernel, pW3, Or.inr ⟨"CircuitChecker", pm_inN 72 (by decide +kernel) rfl⟩⟩ -- length
theorem sCi_50 : pm_Fs "CircuitChecker$Circuit" 3 2 .int false := ⟨_, _, _, pY3, rfl, pY3_ok, pN3_ok, rfl, rfl, fun h => by cases h⟩
theorem nCi_21 : pm_Cn "CircuitChecker$Circuit" 21 3 3 := ⟨_, _, pY3, rfl, pW3, pY3_ok, by decide +kernel, pm_in 61 (by decide +kernel) rfl, pm_in 62 (by decide +kernel) rfl, pm_in 4 (by decide +kernel) rfl⟩
theorem wCi_init : Cond.code kCi_init.1 kCi_init.2.1 kCi_init.2.2.1 kCi_init.2.2.2 ∈ pm_TS := pm_in 59 (by decide +kernel) rfl
theorem iCi_init : kCi_init.1.name = "<init>" ∧ kCi_init.2.2.2 = none ∧ Cond.instanceMethod kCi_init.1 ∈ pm_TS := ⟨rfl, rfl, pm_in 58 (by decide +kernel) rfl⟩
theorem wCi_bitsBehind : Cond.code kCi_bitsBehind.1 kCi_bitsBehind.2.1 kCi_bitsBehind.2.2.1 kCi_bitsBehind.2.2.2 ∈ pm_TS := pm_in 368 (by decide +kernel) rfl
theorem vCi_bitsBehind : pm_Vt kCi_bitsBehind := ⟨pm_in 366 (by decide +kernel) rfl, pm_in 367 (by decide +kernel) rfl⟩
theorem wCi_bitsBehindReg : Cond.code kCi_bitsBehindReg.1 kCi_bitsBehindReg.2.1 kCi_bitsBehindReg.2.2.1 kCi_bitsBehindReg.2.2.2 ∈ pm_TS := pm_in 372 (by decide +kernel) rfl
theorem vCi_bitsBehindReg : pm_Vt kCi_bitsBehindReg := ⟨pm_in 370 (by decide +kernel) rfl, pm_in 371 (by decide +kernel) rfl⟩
theorem wCi_clear : Cond.code kCi_clear.1 kCi_clear.2.1 kCi_clear.2.2.1 kCi_clear.2.2.2 ∈ pm_TS := pm_in 622 (by decide +kernel) rfl
theorem vCi_clear : pm_Vt kCi_clear := ⟨pm_in 620 (by decide +kernel) rfl, pm_in 621 (by decide +kernel) rfl⟩
theorem wCi_addReg : Cond.code kCi_addReg.1 kCi_addReg.2.1 kCi_addReg.2.2.1 kCi_addReg.2.2.2 ∈ pm_TS := pm_in 826 (by decide +kernel) rfl
theorem vCi_addReg : pm_Vt kCi_addReg := ⟨pm_in 824 (by decide +kernel) rfl, pm_in 825 (by decide +kernel) rfl⟩
theorem wCi_addName : Cond.code kCi_addName.1 kCi_addName.2.1 kCi_addName.2.2.1 kCi_addName.2.2.2 ∈ pm_TS := pm_in 830 (by decide +kernel) rfl
theorem vCi_addName : pm_Vt kCi_addName := ⟨pm_in 829 (by decide +kernel) rfl, pm_inS (q := (kCi_addName.1, 11)) 47 (by decide +kernel)⟩
theorem wCi_addInput : Cond.code kCi_addInput.1 kCi_addInput.2.1 kCi_addInput.2.2.1 kCi_addInput.2.2.2 ∈ pm_TS := pm_in 838 (by decide +kernel) rfl
theorem vCi_addInput : pm_Vt kCi_addInput := ⟨pm_in 836 (by decide +kernel) rfl, pm_in 837 (by decide +kernel) rfl⟩
theorem wCi_addWire : Cond.code kCi_addWire.1 kCi_addWire.2.1 kCi_addWire.2.2.1 kCi_addWire.2.2.2 ∈ pm_TS := pm_in 897 (by decide +kernel) rfl
theorem vCi_addWire : pm_Vt kCi_addWire := ⟨pm_in 895 (by decide +kernel) rfl, pm_in 896 (by decide +kernel) rfl⟩
theorem wCi_addSpec : Cond.code kCi_addSpec.1 kCi_addSpec.2.1 kCi_addSpec.2.2.1 kCi_addSpec.2.2.2 ∈ pm_TS := pm_in 937 (by decide +kernel) rfl
theorem vCi_addSpec : pm_Vt kCi_addSpec := ⟨pm_in 935 (by decide +kernel) rfl, pm_in 936 (by decide +kernel) rfl⟩
/-! CircuitChecker$Trace: cards, decoded instructions, links -/
def kTr_init : pmK := (⟨"CircuitChecker$Trace", "<init>", "()V"⟩, prog_10_method_1_code, 1, none)
def kTr_forget : pmK := (⟨"CircuitChecker$Trace", "forget", "()V"⟩, prog_10_method_2_code, 1, none)
def kTr_lead : pmK := (⟨"CircuitChecker$Trace", "lead", "(LCircuitChecker$Steps;I)V"⟩, prog_10_method_3_code, 5, none)
theorem dTr_init_0 : decode kTr_init.2.1 0 = .ok (.aload_n 0, 1) := by decide +kernel
theorem dTr_init_1 : decode kTr_init.2.1 1 = .ok (.invokespecial 3, 3) := by decide +kernel
theorem dTr_init_4 : decode kTr_init.2.1 4 = .ok (.aload_n 0, 1) := by decide +kernel
theorem dTr_init_5 : decode kTr_init.2.1 5 = .ok (.sipush 256, 3) := by decide +kernel
theorem dTr_init_8 : decode kTr_init.2.1 8 = .ok (.newarray .int, 2) := by decide +kernel
theorem dTr_init_10 : decode kTr_init.2.1 10 = .ok (.putfield 9, 3) := by decide +kernel
theorem dTr_init_13 : decode kTr_init.2.1 13 = .ok (.aload_n 0, 1) := by decide +kernel
theorem dTr_init_14 : decode kTr_init.2.1 14 = .ok (.sipush 256, 3) := by decide +kernel
theorem dTr_init_17 : decode kTr_init.2.1 17 = .ok (.newarray .int, 2) := by decide +kernel
theorem dTr_init_19 : decode kTr_init.2.1 19 = .ok (.putfield 15, 3) := by decide +kernel
theorem dTr_init_22 : decode kTr_init.2.1 22 = .ok (.return_, 1) := by decide +kernel
theorem dTr_forget_0 : decode kTr_forget.2.1 0 = .ok (.aload_n 0, 1) := by decide +kernel
theorem dTr_forget_1 : decode kTr_forget.2.1 1 = .ok (.iconst 0, 1) := by decide +kernel
theorem dTr_forget_2 : decode kTr_forget.2.1 2 = .ok (.putfield 18, 3) := by decide +kernel
theorem dTr_forget_5 : decode kTr_forget.2.1 5 = .ok (.aload_n 0, 1) := by decide +kernel
theorem dTr_forget_6 : decode kTr_forget.2.1 6 = .ok (.iconst 0, 1) := by decide +kernel
theorem dTr_forget_7 : decode kTr_forget.2.1 7 = .ok (.putfield 22, 3) := by decide +kernel
theorem dTr_forget_10 : decode kTr_forget.2.1 10 = .ok (.return_, 1) := by decide +kernel
theorem dTr_lead_0 : decode kTr_lead.2.1 0 = .ok (.aload_n 0, 1) := by decide +kernel
theorem dTr_lead_1 : decode kTr_lead.2.1 1 = .ok (.iconst 1, 1) := by decide +kernel
theorem dTr_lead_2 : decode kTr_lead.2.1 2 = .ok (.putfield 18, 3) := by decide +kernel
theorem dTr_lead_5 : decode kTr_lead.2.1 5 = .ok (.aload_n 0, 1) := by decide +kernel
theorem dTr_lead_6 : decode kTr_lead.2.1 6 = .ok (.aload_n 1, 1) := by decide +kernel
theorem dTr_lead_7 : decode kTr_lead.2.1 7 = .ok (.getfield 26, 3) := by decide +kernel
theorem dTr_lead_10 : decode kTr_lead.2.1 10 = .ok (.iload_n 2, 1) := by decide +kernel
theorem dTr_lead_11 : decode kTr_lead.2.1 11 = .ok (.iaload, 1) := by decide +kernel
theorem dTr_lead_12 : decode kTr_lead.2.1 12 = .ok (.putfield 22, 3) := by decide +kernel
theorem dTr_lead_15 : decode kTr_lead.2.1 15 = .ok (.iload_n 2, 1) := by decide +kernel
theorem dTr_lead_16 : decode kTr_lead.2.1 16 = .ok (.istore_n 3, 1) := by decide +kernel
theorem dTr_lead_17 : decode kTr_lead.2.1 17 = .ok (.aload_n 0, 1) := by decide +kernel
theorem dTr_lead_18 : decode kTr_lead.2.1 18 = .ok (.getfield 22, 3) := by decide +kernel
theorem dTr_lead_21 : decode kTr_lead.2.1 21 = .ok (.istore 4, 2) := by decide +kernel
theorem dTr_lead_23 : decode kTr_lead.2.1 23 = .ok (.iload 4, 2) := by decide +kernel
theorem dTr_lead_25 : decode kTr_lead.2.1 25 = .ok (.ifCond .le 39, 3) := by decide +kernel
theorem dTr_lead_28 : decode kTr_lead.2.1 28 = .ok (.aload_n 0, 1) := by decide +kernel
theorem dTr_lead_29 : decode kTr_lead.2.1 29 = .ok (.getfield 9, 3) := by decide +kernel
theorem dTr_lead_32 : decode kTr_lead.2.1 32 = .ok (.iload 4, 2) := by decide +kernel
theorem dTr_lead_34 : decode kTr_lead.2.1 34 = .ok (.iload_n 3, 1) := by decide +kernel
theorem dTr_lead_35 : decode kTr_lead.2.1 35 = .ok (.iastore, 1) := by decide +kernel
theorem dTr_lead_36 : decode kTr_lead.2.1 36 = .ok (.aload_n 0, 1) := by decide +kernel
theorem dTr_lead_37 : decode kTr_lead.2.1 37 = .ok (.getfield 15, 3) := by decide +kernel
theorem dTr_lead_40 : decode kTr_lead.2.1 40 = .ok (.iload 4, 2) := by decide +kernel
theorem dTr_lead_42 : decode kTr_lead.2.1 42 = .ok (.iconst 1, 1) := by decide +kernel
theorem dTr_lead_43 : decode kTr_lead.2.1 43 = .ok (.isub, 1) := by decide +kernel
theorem dTr_lead_44 : decode kTr_lead.2.1 44 = .ok (.aload_n 1, 1) := by decide +kernel
theorem dTr_lead_45 : decode kTr_lead.2.1 45 = .ok (.getfield 31, 3) := by decide +kernel
theorem dTr_lead_48 : decode kTr_lead.2.1 48 = .ok (.iload_n 3, 1) := by decide +kernel
theorem dTr_lead_49 : decode kTr_lead.2.1 49 = .ok (.iaload, 1) := by decide +kernel
theorem dTr_lead_50 : decode kTr_lead.2.1 50 = .ok (.iastore, 1) := by decide +kernel
theorem dTr_lead_51 : decode kTr_lead.2.1 51 = .ok (.aload_n 1, 1) := by decide +kernel
theorem dTr_lead_52 : decode kTr_lead.2.1 52 = .ok (.getfield 32, 3) := by decide +kernel
theorem dTr_lead_55 : decode kTr_lead.2.1 55 = .ok (.iload_n 3, 1) := by decide +kernel
theorem dTr_lead_56 : decode kTr_lead.2.1 56 = .ok (.iaload, 1) := by decide +kernel
theorem dTr_lead_57 : decode kTr_lead.2.1 57 = .ok (.istore_n 3, 1) := by decide +kernel
theorem dTr_lead_58 : decode kTr_lead.2.1 58 = .ok (.iinc 4 (-1), 3) := by decide +kernel
theorem dTr_lead_61 : decode kTr_lead.2.1 61 = .ok (.goto (-38), 3) := by decide +kernel
theorem dTr_lead_64 : decode kTr_lead.2.1 64 = .ok (.aload_n 0, 1) := by decide +kernel
theorem dTr_lead_65 : decode kTr_lead.2.1 65 = .ok (.getfield 9, 3) := by decide +kernel
theorem dTr_lead_68 : decode kTr_lead.2.1 68 = .ok (.iconst 0, 1) := by decide +kernel
theorem dTr_lead_69 : decode kTr_lead.2.1 69 = .ok (.iload_n 3, 1) := by decide +kernel
theorem dTr_lead_70 : decode kTr_lead.2.1 70 = .ok (.iastore, 1) := by decide +kernel
theorem dTr_lead_71 : decode kTr_lead.2.1 71 = .ok (.return_, 1) := by decide +kernel
theorem fTr_9 : pm_Fl "CircuitChecker$Trace" 9 9 0 true := ⟨_, _, _, rfl, by decide, by decide +kernel, pW9, Or.inl (pm_in 329 (by decide +kernel) rfl)⟩ -- state
theorem sTr_9 : pm_Fs "CircuitChecker$Trace" 9 0 (.array .int) true := ⟨_, _, _, pY9, rfl, pY9_ok, pN9_ok, rfl, rfl, fun _ => rfl⟩
theorem fTr_15 : pm_Fl "CircuitChecker$Trace" 15 9 1 true := ⟨_, _, _, rfl, by decide, by decide +kernel, pW9, Or.inl (pm_in 331 (by decide +kernel) rfl)⟩ -- inputs
theorem sTr_15 : pm_Fs "CircuitChecker$Trace" 9 1 (.array .int) true := ⟨_, _, _, pY9, rfl, pY9_ok, pN9_ok, rfl, rfl, fun _ => rfl⟩
theorem fTr_18 : pm_Fl "CircuitChecker$Trace" 18 9 3 false := ⟨_, _, _, rfl, by decide, by decide +kernel, pW9, Or.inl (pm_in 335 (by decide +kernel) rfl)⟩ -- there
theorem sTr_18 : pm_Fs "CircuitChecker$Trace" 9 3 .boolean false := ⟨_, _, _, pY9, rfl, pY9_ok, pN9_ok, rfl, rfl, fun h => by cases h⟩
theorem fTr_22 : pm_Fl "CircuitChecker$Trace" 22 9 2 false := ⟨_, _, _, rfl, by decide, by decide +kernel, pW9, Or.inl (pm_in 333 (by decide +kernel) rfl)⟩ -- length
theorem sTr_22 : pm_Fs "CircuitChecker$Trace" 9 2 .int false := ⟨_, _, _, pY9, rfl, pY9_ok, pN9_ok, rfl, rfl, fun h => by cases h⟩
theorem fTr_26 : pm_Fl "CircuitChecker$Trace" 26 7 9 true := ⟨_, _, _, rfl, by decide, by decide +kernel, pW7, Or.inr ⟨"CircuitChecker", pm_inN 268 (by decide +kernel) rfl⟩⟩ -- distance
theorem fTr_31 : pm_Fl "CircuitChecker$Trace" 31 7 11 true := ⟨_, _, _, rfl, by decide, by decide +kernel, pW7, Or.inr ⟨"CircuitChecker", pm_inN 272 (by decide +kernel) rfl⟩⟩ -- inputs
theorem fTr_32 : pm_Fl "CircuitChecker$Trace" 32 7 10 true := ⟨_, _, _, rfl, by decide, by decide +kernel, pW7, Or.inr ⟨"CircuitChecker", pm_inN 270 (by decide +kernel) rfl⟩⟩ -- before
theorem wTr_init : Cond.code kTr_init.1 kTr_init.2.1 kTr_init.2.2.1 kTr_init.2.2.2 ∈ pm_TS := pm_in 327 (by decide +kernel) rfl
theorem iTr_init : kTr_init.1.name = "<init>" ∧ kTr_init.2.2.2 = none ∧ Cond.instanceMethod kTr_init.1 ∈ pm_TS := ⟨rfl, rfl, pm_in 326 (by decide +kernel) rfl⟩
theorem wTr_forget : Cond.code kTr_forget.1 kTr_forget.2.1 kTr_forget.2.2.1 kTr_forget.2.2.2 ∈ pm_TS := pm_in 581 (by decide +kernel) rfl
theorem vTr_forget : pm_Vt kTr_forget := ⟨pm_in 579 (by decide +kernel) rfl, pm_in 580 (by decide +kernel) rfl⟩
theorem wTr_lead : Cond.code kTr_lead.1 kTr_lead.2.1 kTr_lead.2.2.1 kTr_lead.2.2.2 ∈ pm_TS := pm_in 1125 (by decide +kernel) rfl
theorem vTr_lead : pm_Vt kTr_lead := ⟨pm_in 1123 (by decide +kernel) rfl, pm_in 1124 (by decide +kernel) rfl⟩
