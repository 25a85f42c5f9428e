/-! CircuitCheckerModel: cards, decoded instructions, links -/
def kMo_init : pmK := (⟨"CircuitCheckerModel", "<init>", "()V"⟩, prog_13_method_1_code, 1, none)
def kMo_thrown : pmK := (⟨"CircuitCheckerModel", "thrown", "()I"⟩, prog_13_method_2_code, 1, (some .int))
def kMo_feed : pmK := (⟨"CircuitCheckerModel", "feed", "(IIIII)I"⟩, prog_13_method_4_code, 8, (some .int))
def kMo_refuse : pmK := (⟨"CircuitCheckerModel", "refuse", "(IZ)Z"⟩, prog_13_method_3_code, 3, (some .boolean))
def kMo_end : pmK := (⟨"CircuitCheckerModel", "end", "(I)I"⟩, prog_13_method_5_code, 2, (some .int))
def kMo_read : pmK := (⟨"CircuitCheckerModel", "read", "()I"⟩, prog_13_method_40_code, 3, (some .int))
def kMo_clear : pmK := (⟨"CircuitCheckerModel", "clear", "()V"⟩, prog_13_method_39_code, 1, none)
def kMo_lines : pmK := (⟨"CircuitCheckerModel", "lines", "()V"⟩, prog_13_method_33_code, 1, none)
def kMo_peek : pmK := (⟨"CircuitCheckerModel", "peek", "()I"⟩, prog_13_method_10_code, 2, (some .int))
def kMo_parts : pmK := (⟨"CircuitCheckerModel", "parts", "()V"⟩, prog_13_method_9_code, 2, none)
def kMo_letter : pmK := (⟨"CircuitCheckerModel", "letter", "(I)Z"⟩, prog_13_method_7_code, 1, (some .boolean))
def kMo_digit : pmK := (⟨"CircuitCheckerModel", "digit", "(I)Z"⟩, prog_13_method_6_code, 1, (some .boolean))
def kMo_byteAt : pmK := (⟨"CircuitCheckerModel", "byteAt", "(I)I"⟩, prog_13_method_8_code, 2, (some .int))
def kMo_sign : pmK := (⟨"CircuitCheckerModel", "sign", "(II)I"⟩, prog_13_method_11_code, 2, (some .int))
def kMo_is : pmK := (⟨"CircuitCheckerModel", "is", "(Ljava/lang/String;)Z"⟩, prog_13_method_16_code, 3, (some .boolean))
def kMo_reg : pmK := (⟨"CircuitCheckerModel", "reg", "()V"⟩, prog_13_method_34_code, 4, none)
def kMo_take : pmK := (⟨"CircuitCheckerModel", "take", "()V"⟩, prog_13_method_12_code, 1, none)
def kMo_declare : pmK := (⟨"CircuitCheckerModel", "declare", "()I"⟩, prog_13_method_21_code, 1, (some .int))
def kMo_reserved : pmK := (⟨"CircuitCheckerModel", "reserved", "()Z"⟩, prog_13_method_17_code, 1, (some .boolean))
def kMo_cant : pmK := (⟨"CircuitCheckerModel", "cant", "()LCircuitCheckerModel$Wrong;"⟩, prog_13_method_13_code, 1, (some (.object "CircuitCheckerModel$Wrong")))
def kMo_named : pmK := (⟨"CircuitCheckerModel", "named", "()I"⟩, prog_13_method_20_code, 4, (some .int))
def kMo_must : pmK := (⟨"CircuitCheckerModel", "must", "(I)V"⟩, prog_13_method_14_code, 2, none)
def kMo_number : pmK := (⟨"CircuitCheckerModel", "number", "(II)I"⟩, prog_13_method_18_code, 5, (some .int))
def kMo_input : pmK := (⟨"CircuitCheckerModel", "input", "()V"⟩, prog_13_method_35_code, 4, none)
def kMo_wire : pmK := (⟨"CircuitCheckerModel", "wire", "()V"⟩, prog_13_method_36_code, 2, none)
def kMo_expression : pmK := (⟨"CircuitCheckerModel", "expression", "(I)I"⟩, prog_13_method_23_code, 3, (some .int))
def kMo_chain : pmK := (⟨"CircuitCheckerModel", "chain", "(II)I"⟩, prog_13_method_26_code, 7, (some .int))
def kMo_unary : pmK := (⟨"CircuitCheckerModel", "unary", "(I)I"⟩, prog_13_method_27_code, 4, (some .int))
def kMo_pays : pmK := (⟨"CircuitCheckerModel", "pays", "(I)V"⟩, prog_13_method_19_code, 2, none)
def kMo_nest : pmK := (⟨"CircuitCheckerModel", "nest", "(I)I"⟩, prog_13_method_15_code, 2, (some .int))
def kMo_node : pmK := (⟨"CircuitCheckerModel", "node", "(III)I"⟩, prog_13_method_22_code, 4, (some .int))
def kMo_joins : pmK := (⟨"CircuitCheckerModel", "joins", "(II)Z"⟩, prog_13_method_24_code, 2, (some .boolean))
def kMo_price : pmK := (⟨"CircuitCheckerModel", "price", "(I)I"⟩, prog_13_method_25_code, 1, (some .int))
def kMo_next : pmK := (⟨"CircuitCheckerModel", "next", "()V"⟩, prog_13_method_37_code, 2, none)
def kMo_spec : pmK := (⟨"CircuitCheckerModel", "spec", "()V"⟩, prog_13_method_38_code, 2, none)
def kMo_formula : pmK := (⟨"CircuitCheckerModel", "formula", "(I)I"⟩, prog_13_method_29_code, 3, (some .int))
def kMo_either : pmK := (⟨"CircuitCheckerModel", "either", "(I)I"⟩, prog_13_method_30_code, 4, (some .int))
def kMo_both : pmK := (⟨"CircuitCheckerModel", "both", "(I)I"⟩, prog_13_method_31_code, 4, (some .int))
def kMo_single : pmK := (⟨"CircuitCheckerModel", "single", "(I)I"⟩, prog_13_method_32_code, 8, (some .int))
def kMo_make : pmK := (⟨"CircuitCheckerModel", "make", "(III)I"⟩, prog_13_method_28_code, 4, (some .int))
def kMo_workOut : pmK := (⟨"CircuitCheckerModel", "workOut", "()V"⟩, prog_13_method_47_code, 5, none)
def kMo_all : pmK := (⟨"CircuitCheckerModel", "all", "()I"⟩, prog_13_method_45_code, 1, (some .int))
def kMo_allInputs : pmK := (⟨"CircuitCheckerModel", "allInputs", "()I"⟩, prog_13_method_46_code, 1, (some .int))
def kMo_set : pmK := (⟨"CircuitCheckerModel", "set", "(II)V"⟩, prog_13_method_42_code, 5, none)
def kMo_value : pmK := (⟨"CircuitCheckerModel", "value", "(I)I"⟩, prog_13_method_43_code, 5, (some .int))
def kMo_joined : pmK := (⟨"CircuitCheckerModel", "joined", "(III)I"⟩, prog_13_method_44_code, 3, (some .int))
def kMo_judge : pmK := (⟨"CircuitCheckerModel", "judge", "(I)V"⟩, prog_13_method_49_code, 6, none)
def kMo_next2 : pmK := (⟨"CircuitCheckerModel", "next", "([ZIZ)Z"⟩, prog_13_method_48_code, 5, (some .boolean))
def kMo_always : pmK := (⟨"CircuitCheckerModel", "always", "(II)Z"⟩, prog_13_method_50_code, 4, (some .boolean))
def kMo_fixed : pmK := (⟨"CircuitCheckerModel", "fixed", "(I[Z[Z[Z)V"⟩, prog_13_method_51_code, 8, none)
def kMo_fault : pmK := (⟨"CircuitCheckerModel", "fault", "(I)I"⟩, prog_13_method_41_code, 2, (some .int))
def kMo_holds : pmK := (⟨"CircuitCheckerModel", "holds", "(I)Z"⟩, prog_13_method_53_code, 2, (some .boolean))
def kMo_noSpec : pmK := (⟨"CircuitCheckerModel", "noSpec", "(I)Z"⟩, prog_13_method_52_code, 2, (some .boolean))
def kMo_states : pmK := (⟨"CircuitCheckerModel", "states", "(I)I"⟩, prog_13_method_54_code, 4, (some .int))
def kMo_at : pmK := (⟨"CircuitCheckerModel", "at", "(II)Z"⟩, prog_13_method_55_code, 3, (some .boolean))
def kMo_reachable : pmK := (⟨"CircuitCheckerModel", "reachable", "()I"⟩, prog_13_method_56_code, 4, (some .int))
def kMo_trace : pmK := (⟨"CircuitCheckerModel", "trace", "(I)I"⟩, prog_13_method_57_code, 6, (some .int))
def kMo_step : pmK := (⟨"CircuitCheckerModel", "step", "(II)I"⟩, prog_13_method_58_code, 3, (some .int))
def kMo_tick : pmK := (⟨"CircuitCheckerModel", "tick", "(I)I"⟩, prog_13_method_59_code, 2, (some .int))
def kMo_go : pmK := (⟨"CircuitCheckerModel", "go", "(I)I"⟩, prog_13_method_60_code, 3, (some .int))
def kMo_value2 : pmK := (⟨"CircuitCheckerModel", "value", "(II)I"⟩, prog_13_method_61_code, 3, (some .int))
def kMo_count : pmK := (⟨"CircuitCheckerModel", "count", "(I)I"⟩, prog_13_method_62_code, 2, (some .int))
theorem dMo_init_0 : decode kMo_init.2.1 0 = .ok (.aload_n 0, 1) := by decide +kernel
theorem dMo_init_1 : decode kMo_init.2.1 1 = .ok (.invokespecial 1, 3) := by decide +kernel
theorem dMo_init_4 : decode kMo_init.2.1 4 = .ok (.aload_n 0, 1) := by decide +kernel
theorem dMo_init_5 : decode kMo_init.2.1 5 = .ok (.ldc 7, 2) := by decide +kernel
theorem dMo_init_7 : decode kMo_init.2.1 7 = .ok (.newarray .byte, 2) := by decide +kernel
theorem dMo_init_9 : decode kMo_init.2.1 9 = .ok (.putfield 8, 3) := by decide +kernel
theorem dMo_init_12 : decode kMo_init.2.1 12 = .ok (.aload_n 0, 1) := by decide +kernel
theorem dMo_init_13 : decode kMo_init.2.1 13 = .ok (.iconst 0, 1) := by decide +kernel
theorem dMo_init_14 : decode kMo_init.2.1 14 = .ok (.putfield 14, 3) := by decide +kernel
theorem dMo_init_17 : decode kMo_init.2.1 17 = .ok (.aload_n 0, 1) := by decide +kernel
theorem dMo_init_18 : decode kMo_init.2.1 18 = .ok (.iconst 0, 1) := by decide +kernel
theorem dMo_init_19 : decode kMo_init.2.1 19 = .ok (.putfield 18, 3) := by decide +kernel
theorem dMo_init_22 : decode kMo_init.2.1 22 = .ok (.aload_n 0, 1) := by decide +kernel
theorem dMo_init_23 : decode kMo_init.2.1 23 = .ok (.iconst 0, 1) := by decide +kernel
theorem dMo_init_24 : decode kMo_init.2.1 24 = .ok (.putfield 21, 3) := by decide +kernel
theorem dMo_init_27 : decode kMo_init.2.1 27 = .ok (.aload_n 0, 1) := by decide +kernel
theorem dMo_init_28 : decode kMo_init.2.1 28 = .ok (.iconst 0, 1) := by decide +kernel
theorem dMo_init_29 : decode kMo_init.2.1 29 = .ok (.putfield 24, 3) := by decide +kernel
theorem dMo_init_32 : decode kMo_init.2.1 32 = .ok (.aload_n 0, 1) := by decide +kernel
theorem dMo_init_33 : decode kMo_init.2.1 33 = .ok (.iconst 0, 1) := by decide +kernel
theorem dMo_init_34 : decode kMo_init.2.1 34 = .ok (.putfield 27, 3) := by decide +kernel
theorem dMo_init_37 : decode kMo_init.2.1 37 = .ok (.aload_n 0, 1) := by decide +kernel
theorem dMo_init_38 : decode kMo_init.2.1 38 = .ok (.iconst 0, 1) := by decide +kernel
theorem dMo_init_39 : decode kMo_init.2.1 39 = .ok (.putfield 30, 3) := by decide +kernel
theorem dMo_init_42 : decode kMo_init.2.1 42 = .ok (.aload_n 0, 1) := by decide +kernel
theorem dMo_init_43 : decode kMo_init.2.1 43 = .ok (.iconst 0, 1) := by decide +kernel
theorem dMo_init_44 : decode kMo_init.2.1 44 = .ok (.putfield 33, 3) := by decide +kernel
theorem dMo_init_47 : decode kMo_init.2.1 47 = .ok (.aload_n 0, 1) := by decide +kernel
theorem dMo_init_48 : decode kMo_init.2.1 48 = .ok (.iconst 0, 1) := by decide +kernel
theorem dMo_init_49 : decode kMo_init.2.1 49 = .ok (.putfield 36, 3) := by decide +kernel
theorem dMo_init_52 : decode kMo_init.2.1 52 = .ok (.aload_n 0, 1) := by decide +kernel
theorem dMo_init_53 : decode kMo_init.2.1 53 = .ok (.iconst 0, 1) := by decide +kernel
theorem dMo_init_54 : decode kMo_init.2.1 54 = .ok (.putfield 39, 3) := by decide +kernel
theorem dMo_init_57 : decode kMo_init.2.1 57 = .ok (.aload_n 0, 1) := by decide +kernel
theorem dMo_init_58 : decode kMo_init.2.1 58 = .ok (.iconst 0, 1) := by decide +kernel
theorem dMo_init_59 : decode kMo_init.2.1 59 = .ok (.putfield 42, 3) := by decide +kernel
theorem dMo_init_62 : decode kMo_init.2.1 62 = .ok (.aload_n 0, 1) := by decide +kernel
theorem dMo_init_63 : decode kMo_init.2.1 63 = .ok (.iconst 0, 1) := by decide +kernel
theorem dMo_init_64 : decode kMo_init.2.1 64 = .ok (.putfield 46, 3) := by decide +kernel
theorem dMo_init_67 : decode kMo_init.2.1 67 = .ok (.aload_n 0, 1) := by decide +kernel
theorem dMo_init_68 : decode kMo_init.2.1 68 = .ok (.bipush 60, 2) := by decide +kernel
theorem dMo_init_70 : decode kMo_init.2.1 70 = .ok (.newarray .int, 2) := by decide +kernel
theorem dMo_init_72 : decode kMo_init.2.1 72 = .ok (.putfield 49, 3) := by decide +kernel
theorem dMo_init_75 : decode kMo_init.2.1 75 = .ok (.aload_n 0, 1) := by decide +kernel
theorem dMo_init_76 : decode kMo_init.2.1 76 = .ok (.bipush 60, 2) := by decide +kernel
theorem dMo_init_78 : decode kMo_init.2.1 78 = .ok (.newarray .int, 2) := by decide +kernel
theorem dMo_init_80 : decode kMo_init.2.1 80 = .ok (.putfield 53, 3) := by decide +kernel
theorem dMo_init_83 : decode kMo_init.2.1 83 = .ok (.aload_n 0, 1) := by decide +kernel
theorem dMo_init_84 : decode kMo_init.2.1 84 = .ok (.bipush 60, 2) := by decide +kernel
theorem dMo_init_86 : decode kMo_init.2.1 86 = .ok (.newarray .int, 2) := by decide +kernel
theorem dMo_init_88 : decode kMo_init.2.1 88 = .ok (.putfield 56, 3) := by decide +kernel
theorem dMo_init_91 : decode kMo_init.2.1 91 = .ok (.aload_n 0, 1) := by decide +kernel
theorem dMo_init_92 : decode kMo_init.2.1 92 = .ok (.bipush 60, 2) := by decide +kernel
theorem dMo_init_94 : decode kMo_init.2.1 94 = .ok (.newarray .int, 2) := by decide +kernel
theorem dMo_init_96 : decode kMo_init.2.1 96 = .ok (.putfield 59, 3) := by decide +kernel
theorem dMo_init_99 : decode kMo_init.2.1 99 = .ok (.aload_n 0, 1) := by decide +kernel
theorem dMo_init_100 : decode kMo_init.2.1 100 = .ok (.iconst 0, 1) := by decide +kernel
theorem dMo_init_101 : decode kMo_init.2.1 101 = .ok (.putfield 62, 3) := by decide +kernel
theorem dMo_init_104 : decode kMo_init.2.1 104 = .ok (.aload_n 0, 1) := by decide +kernel
theorem dMo_init_105 : decode kMo_init.2.1 105 = .ok (.bipush 8, 2) := by decide +kernel
theorem dMo_init_107 : decode kMo_init.2.1 107 = .ok (.newarray .int, 2) := by decide +kernel
theorem dMo_init_109 : decode kMo_init.2.1 109 = .ok (.putfield 65, 3) := by decide +kernel
theorem dMo_init_112 : decode kMo_init.2.1 112 = .ok (.aload_n 0, 1) := by decide +kernel
theorem dMo_init_113 : decode kMo_init.2.1 113 = .ok (.bipush 8, 2) := by decide +kernel
theorem dMo_init_115 : decode kMo_init.2.1 115 = .ok (.newarray .int, 2) := by decide +kernel
theorem dMo_init_117 : decode kMo_init.2.1 117 = .ok (.putfield 68, 3) := by decide +kernel
theorem dMo_init_120 : decode kMo_init.2.1 120 = .ok (.aload_n 0, 1) := by decide +kernel
theorem dMo_init_121 : decode kMo_init.2.1 121 = .ok (.bipush 8, 2) := by decide +kernel
theorem dMo_init_123 : decode kMo_init.2.1 123 = .ok (.newarray .int, 2) := by decide +kernel
theorem dMo_init_125 : decode kMo_init.2.1 125 = .ok (.putfield 71, 3) := by decide +kernel
theorem dMo_init_128 : decode kMo_init.2.1 128 = .ok (.aload_n 0, 1) := by decide +kernel
theorem dMo_init_129 : decode kMo_init.2.1 129 = .ok (.iconst 3, 1) := by decide +kernel
theorem dMo_init_130 : decode kMo_init.2.1 130 = .ok (.newarray .int, 2) := by decide +kernel
theorem dMo_init_132 : decode kMo_init.2.1 132 = .ok (.putfield 74, 3) := by decide +kernel
theorem dMo_init_135 : decode kMo_init.2.1 135 = .ok (.aload_n 0, 1) := by decide +kernel
theorem dMo_init_136 : decode kMo_init.2.1 136 = .ok (.bipush 60, 2) := by decide +kernel
theorem dMo_init_138 : decode kMo_init.2.1 138 = .ok (.newarray .int, 2) := by decide +kernel
theorem dMo_init_140 : decode kMo_init.2.1 140 = .ok (.putfield 77, 3) := by decide +kernel
theorem dMo_init_143 : decode kMo_init.2.1 143 = .ok (.aload_n 0, 1) := by decide +kernel
theorem dMo_init_144 : decode kMo_init.2.1 144 = .ok (.bipush 30, 2) := by decide +kernel
theorem dMo_init_146 : decode kMo_init.2.1 146 = .ok (.newarray .int, 2) := by decide +kernel
theorem dMo_init_148 : decode kMo_init.2.1 148 = .ok (.putfield 80, 3) := by decide +kernel
theorem dMo_init_151 : decode kMo_init.2.1 151 = .ok (.aload_n 0, 1) := by decide +kernel
theorem dMo_init_152 : decode kMo_init.2.1 152 = .ok (.iconst 0, 1) := by decide +kernel
theorem dMo_init_153 : decode kMo_init.2.1 153 = .ok (.putfield 83, 3) := by decide +kernel
theorem dMo_init_156 : decode kMo_init.2.1 156 = .ok (.aload_n 0, 1) := by decide +kernel
theorem dMo_init_157 : decode kMo_init.2.1 157 = .ok (.iconst 0, 1) := by decide +kernel
theorem dMo_init_158 : decode kMo_init.2.1 158 = .ok (.putfield 86, 3) := by decide +kernel
theorem dMo_init_161 : decode kMo_init.2.1 161 = .ok (.aload_n 0, 1) := by decide +kernel
theorem dMo_init_162 : decode kMo_init.2.1 162 = .ok (.iconst 0, 1) := by decide +kernel
theorem dMo_init_163 : decode kMo_init.2.1 163 = .ok (.putfield 89, 3) := by decide +kernel
theorem dMo_init_166 : decode kMo_init.2.1 166 = .ok (.aload_n 0, 1) := by decide +kernel
theorem dMo_init_167 : decode kMo_init.2.1 167 = .ok (.iconst 0, 1) := by decide +kernel
theorem dMo_init_168 : decode kMo_init.2.1 168 = .ok (.putfield 92, 3) := by decide +kernel
theorem dMo_init_171 : decode kMo_init.2.1 171 = .ok (.aload_n 0, 1) := by decide +kernel
theorem dMo_init_172 : decode kMo_init.2.1 172 = .ok (.iconst 0, 1) := by decide +kernel
theorem dMo_init_173 : decode kMo_init.2.1 173 = .ok (.putfield 95, 3) := by decide +kernel
theorem dMo_init_176 : decode kMo_init.2.1 176 = .ok (.aload_n 0, 1) := by decide +kernel
theorem dMo_init_177 : decode kMo_init.2.1 177 = .ok (.iconst 0, 1) := by decide +kernel
theorem dMo_init_178 : decode kMo_init.2.1 178 = .ok (.putfield 98, 3) := by decide +kernel
theorem dMo_init_181 : decode kMo_init.2.1 181 = .ok (.aload_n 0, 1) := by decide +kernel
theorem dMo_init_182 : decode kMo_init.2.1 182 = .ok (.sipush 4200, 3) := by decide +kernel
theorem dMo_init_185 : decode kMo_init.2.1 185 = .ok (.newarray .int, 2) := by decide +kernel
theorem dMo_init_187 : decode kMo_init.2.1 187 = .ok (.putfield 101, 3) := by decide +kernel
theorem dMo_init_190 : decode kMo_init.2.1 190 = .ok (.aload_n 0, 1) := by decide +kernel
theorem dMo_init_191 : decode kMo_init.2.1 191 = .ok (.sipush 4200, 3) := by decide +kernel
theorem dMo_init_194 : decode kMo_init.2.1 194 = .ok (.newarray .int, 2) := by decide +kernel
theorem dMo_init_196 : decode kMo_init.2.1 196 = .ok (.putfield 104, 3) := by decide +kernel
theorem dMo_init_199 : decode kMo_init.2.1 199 = .ok (.aload_n 0, 1) := by decide +kernel
theorem dMo_init_200 : decode kMo_init.2.1 200 = .ok (.sipush 4200, 3) := by decide +kernel
theorem dMo_init_203 : decode kMo_init.2.1 203 = .ok (.newarray .int, 2) := by decide +kernel
theorem dMo_init_205 : decode kMo_init.2.1 205 = .ok (.putfield 107, 3) := by decide +kernel
theorem dMo_init_208 : decode kMo_init.2.1 208 = .ok (.aload_n 0, 1) := by decide +kernel
theorem dMo_init_209 : decode kMo_init.2.1 209 = .ok (.sipush 4200, 3) := by decide +kernel
theorem dMo_init_212 : decode kMo_init.2.1 212 = .ok (.newarray .int, 2) := by decide +kernel
theorem dMo_init_214 : decode kMo_init.2.1 214 = .ok (.putfield 110, 3) := by decide +kernel
theorem dMo_init_217 : decode kMo_init.2.1 217 = .ok (.aload_n 0, 1) := by decide +kernel
theorem dMo_init_218 : decode kMo_init.2.1 218 = .ok (.sipush 4200, 3) := by decide +kernel
theorem dMo_init_221 : decode kMo_init.2.1 221 = .ok (.newarray .int, 2) := by decide +kernel
theorem dMo_init_223 : decode kMo_init.2.1 223 = .ok (.putfield 113, 3) := by decide +kernel
theorem dMo_init_226 : decode kMo_init.2.1 226 = .ok (.aload_n 0, 1) := by decide +kernel
theorem dMo_init_227 : decode kMo_init.2.1 227 = .ok (.iconst 0, 1) := by decide +kernel
theorem dMo_init_228 : decode kMo_init.2.1 228 = .ok (.putfield 116, 3) := by decide +kernel
theorem dMo_init_231 : decode kMo_init.2.1 231 = .ok (.aload_n 0, 1) := by decide +kernel
theorem dMo_init_232 : decode kMo_init.2.1 232 = .ok (.sipush 4200, 3) := by decide +kernel
theorem dMo_init_235 : decode kMo_init.2.1 235 = .ok (.newarray .int, 2) := by decide +kernel
theorem dMo_init_237 : decode kMo_init.2.1 237 = .ok (.putfield 119, 3) := by decide +kernel
theorem dMo_init_240 : decode kMo_init.2.1 240 = .ok (.aload_n 0, 1) := by decide +kernel
theorem dMo_init_241 : decode kMo_init.2.1 241 = .ok (.sipush 4200, 3) := by decide +kernel
theorem dMo_init_244 : decode kMo_init.2.1 244 = .ok (.newarray .int, 2) := by decide +kernel
theorem dMo_init_246 : decode kMo_init.2.1 246 = .ok (.putfield 122, 3) := by decide +kernel
theorem dMo_init_249 : decode kMo_init.2.1 249 = .ok (.aload_n 0, 1) := by decide +kernel
theorem dMo_init_250 : decode kMo_init.2.1 250 = .ok (.sipush 4200, 3) := by decide +kernel
theorem dMo_init_253 : decode kMo_init.2.1 253 = .ok (.newarray .int, 2) := by decide +kernel
theorem dMo_init_255 : decode kMo_init.2.1 255 = .ok (.putfield 125, 3) := by decide +kernel
theorem dMo_init_258 : decode kMo_init.2.1 258 = .ok (.aload_n 0, 1) := by decide +kernel
theorem dMo_init_259 : decode kMo_init.2.1 259 = .ok (.iconst 0, 1) := by decide +kernel
theorem dMo_init_260 : decode kMo_init.2.1 260 = .ok (.putfield 128, 3) := by decide +kernel
theorem dMo_init_263 : decode kMo_init.2.1 263 = .ok (.aload_n 0, 1) := by decide +kernel
theorem dMo_init_264 : decode kMo_init.2.1 264 = .ok (.bipush 8, 2) := by decide +kernel
theorem dMo_init_266 : decode kMo_init.2.1 266 = .ok (.newarray .int, 2) := by decide +kernel
theorem dMo_init_268 : decode kMo_init.2.1 268 = .ok (.putfield 131, 3) := by decide +kernel
theorem dMo_init_271 : decode kMo_init.2.1 271 = .ok (.aload_n 0, 1) := by decide +kernel
theorem dMo_init_272 : decode kMo_init.2.1 272 = .ok (.iconst 3, 1) := by decide +kernel
theorem dMo_init_273 : decode kMo_init.2.1 273 = .ok (.newarray .int, 2) := by decide +kernel
theorem dMo_init_275 : decode kMo_init.2.1 275 = .ok (.putfield 134, 3) := by decide +kernel
theorem dMo_init_278 : decode kMo_init.2.1 278 = .ok (.aload_n 0, 1) := by decide +kernel
theorem dMo_init_279 : decode kMo_init.2.1 279 = .ok (.bipush 60, 2) := by decide +kernel
theorem dMo_init_281 : decode kMo_init.2.1 281 = .ok (.newarray .int, 2) := by decide +kernel
theorem dMo_init_283 : decode kMo_init.2.1 283 = .ok (.putfield 137, 3) := by decide +kernel
theorem dMo_init_286 : decode kMo_init.2.1 286 = .ok (.aload_n 0, 1) := by decide +kernel
theorem dMo_init_287 : decode kMo_init.2.1 287 = .ok (.sipush 256, 3) := by decide +kernel
theorem dMo_init_290 : decode kMo_init.2.1 290 = .ok (.bipush 8, 2) := by decide +kernel
theorem dMo_init_292 : decode kMo_init.2.1 292 = .ok (.multianewarray 140 2, 4) := by decide +kernel
theorem dMo_init_296 : decode kMo_init.2.1 296 = .ok (.putfield 142, 3) := by decide +kernel
theorem dMo_init_299 : decode kMo_init.2.1 299 = .ok (.aload_n 0, 1) := by decide +kernel
theorem dMo_init_300 : decode kMo_init.2.1 300 = .ok (.sipush 4200, 3) := by decide +kernel
theorem dMo_init_303 : decode kMo_init.2.1 303 = .ok (.anewarray 145, 3) := by decide +kernel
theorem dMo_init_306 : decode kMo_init.2.1 306 = .ok (.putfield 147, 3) := by decide +kernel
theorem dMo_init_309 : decode kMo_init.2.1 309 = .ok (.aload_n 0, 1) := by decide +kernel
theorem dMo_init_310 : decode kMo_init.2.1 310 = .ok (.sipush 256, 3) := by decide +kernel
theorem dMo_init_313 : decode kMo_init.2.1 313 = .ok (.newarray .boolean, 2) := by decide +kernel
theorem dMo_init_315 : decode kMo_init.2.1 315 = .ok (.putfield 151, 3) := by decide +kernel
theorem dMo_init_318 : decode kMo_init.2.1 318 = .ok (.aload_n 0, 1) := by decide +kernel
theorem dMo_init_319 : decode kMo_init.2.1 319 = .ok (.bipush 30, 2) := by decide +kernel
theorem dMo_init_321 : decode kMo_init.2.1 321 = .ok (.sipush 256, 3) := by decide +kernel
theorem dMo_init_324 : decode kMo_init.2.1 324 = .ok (.multianewarray 154 2, 4) := by decide +kernel
theorem dMo_init_328 : decode kMo_init.2.1 328 = .ok (.putfield 155, 3) := by decide +kernel
theorem dMo_init_331 : decode kMo_init.2.1 331 = .ok (.aload_n 0, 1) := by decide +kernel
theorem dMo_init_332 : decode kMo_init.2.1 332 = .ok (.iconst 0, 1) := by decide +kernel
theorem dMo_init_333 : decode kMo_init.2.1 333 = .ok (.putfield 158, 3) := by decide +kernel
theorem dMo_init_336 : decode kMo_init.2.1 336 = .ok (.aload_n 0, 1) := by decide +kernel
theorem dMo_init_337 : decode kMo_init.2.1 337 = .ok (.iconst 0, 1) := by decide +kernel
theorem dMo_init_338 : decode kMo_init.2.1 338 = .ok (.putfield 161, 3) := by decide +kernel
theorem dMo_init_341 : decode kMo_init.2.1 341 = .ok (.aload_n 0, 1) := by decide +kernel
theorem dMo_init_342 : decode kMo_init.2.1 342 = .ok (.sipush 256, 3) := by decide +kernel
theorem dMo_init_345 : decode kMo_init.2.1 345 = .ok (.newarray .int, 2) := by decide +kernel
theorem dMo_init_347 : decode kMo_init.2.1 347 = .ok (.putfield 164, 3) := by decide +kernel
theorem dMo_init_350 : decode kMo_init.2.1 350 = .ok (.aload_n 0, 1) := by decide +kernel
theorem dMo_init_351 : decode kMo_init.2.1 351 = .ok (.sipush 257, 3) := by decide +kernel
theorem dMo_init_354 : decode kMo_init.2.1 354 = .ok (.newarray .int, 2) := by decide +kernel
theorem dMo_init_356 : decode kMo_init.2.1 356 = .ok (.putfield 167, 3) := by decide +kernel
theorem dMo_init_359 : decode kMo_init.2.1 359 = .ok (.aload_n 0, 1) := by decide +kernel
theorem dMo_init_360 : decode kMo_init.2.1 360 = .ok (.sipush 256, 3) := by decide +kernel
theorem dMo_init_363 : decode kMo_init.2.1 363 = .ok (.newarray .int, 2) := by decide +kernel
theorem dMo_init_365 : decode kMo_init.2.1 365 = .ok (.putfield 170, 3) := by decide +kernel
theorem dMo_init_368 : decode kMo_init.2.1 368 = .ok (.aload_n 0, 1) := by decide +kernel
theorem dMo_init_369 : decode kMo_init.2.1 369 = .ok (.iconst 0, 1) := by decide +kernel
theorem dMo_init_370 : decode kMo_init.2.1 370 = .ok (.putfield 173, 3) := by decide +kernel
theorem dMo_init_373 : decode kMo_init.2.1 373 = .ok (.aload_n 0, 1) := by decide +kernel
theorem dMo_init_374 : decode kMo_init.2.1 374 = .ok (.iconst 0, 1) := by decide +kernel
theorem dMo_init_375 : decode kMo_init.2.1 375 = .ok (.putfield 176, 3) := by decide +kernel
theorem dMo_init_378 : decode kMo_init.2.1 378 = .ok (.return_, 1) := by decide +kernel
theorem dMo_thrown_0 : decode kMo_thrown.2.1 0 = .ok (.aload_n 0, 1) := by decide +kernel
theorem dMo_thrown_1 : decode kMo_thrown.2.1 1 = .ok (.getfield 18, 3) := by decide +kernel
theorem dMo_thrown_4 : decode kMo_thrown.2.1 4 = .ok (.ireturn, 1) := by decide +kernel
theorem dMo_feed_0 : decode kMo_feed.2.1 0 = .ok (.aload_n 0, 1) := by decide +kernel
theorem dMo_feed_1 : decode kMo_feed.2.1 1 = .ok (.iconst 0, 1) := by decide +kernel
theorem dMo_feed_2 : decode kMo_feed.2.1 2 = .ok (.putfield 18, 3) := by decide +kernel
theorem dMo_feed_5 : decode kMo_feed.2.1 5 = .ok (.aload_n 0, 1) := by decide +kernel
theorem dMo_feed_6 : decode kMo_feed.2.1 6 = .ok (.iconst 1, 1) := by decide +kernel
theorem dMo_feed_7 : decode kMo_feed.2.1 7 = .ok (.aload_n 0, 1) := by decide +kernel
theorem dMo_feed_8 : decode kMo_feed.2.1 8 = .ok (.getfield 14, 3) := by decide +kernel
theorem dMo_feed_11 : decode kMo_feed.2.1 11 = .ok (.ldc 179, 2) := by decide +kernel
theorem dMo_feed_13 : decode kMo_feed.2.1 13 = .ok (.if_icmp .le 7, 3) := by decide +kernel
theorem dMo_feed_16 : decode kMo_feed.2.1 16 = .ok (.iconst 1, 1) := by decide +kernel
theorem dMo_feed_17 : decode kMo_feed.2.1 17 = .ok (.goto 4, 3) := by decide +kernel
theorem dMo_feed_20 : decode kMo_feed.2.1 20 = .ok (.iconst 0, 1) := by decide +kernel
theorem dMo_feed_21 : decode kMo_feed.2.1 21 = .ok (.invokevirtual 180, 3) := by decide +kernel
theorem dMo_feed_24 : decode kMo_feed.2.1 24 = .ok (.ifCond .eq 5, 3) := by decide +kernel
theorem dMo_feed_27 : decode kMo_feed.2.1 27 = .ok (.iconst 0, 1) := by decide +kernel
theorem dMo_feed_28 : decode kMo_feed.2.1 28 = .ok (.ireturn, 1) := by decide +kernel
theorem dMo_feed_29 : decode kMo_feed.2.1 29 = .ok (.iconst 0, 1) := by decide +kernel
theorem dMo_feed_30 : decode kMo_feed.2.1 30 = .ok (.istore 6, 2) := by decide +kernel
theorem dMo_feed_32 : decode kMo_feed.2.1 32 = .ok (.iload 6, 2) := by decide +kernel
theorem dMo_feed_34 : decode kMo_feed.2.1 34 = .ok (.bipush 20, 2) := by decide +kernel
theorem dMo_feed_36 : decode kMo_feed.2.1 36 = .ok (.if_icmp .ge 87, 3) := by decide +kernel
theorem dMo_feed_39 : decode kMo_feed.2.1 39 = .ok (.iload 6, 2) := by decide +kernel
theorem dMo_feed_41 : decode kMo_feed.2.1 41 = .ok (.iconst 4, 1) := by decide +kernel
theorem dMo_feed_42 : decode kMo_feed.2.1 42 = .ok (.if_icmp .ge 7, 3) := by decide +kernel
theorem dMo_feed_45 : decode kMo_feed.2.1 45 = .ok (.iload_n 1, 1) := by decide +kernel
theorem dMo_feed_46 : decode kMo_feed.2.1 46 = .ok (.goto 39, 3) := by decide +kernel
theorem dMo_feed_49 : decode kMo_feed.2.1 49 = .ok (.iload 6, 2) := by decide +kernel
theorem dMo_feed_51 : decode kMo_feed.2.1 51 = .ok (.bipush 8, 2) := by decide +kernel
theorem dMo_feed_53 : decode kMo_feed.2.1 53 = .ok (.if_icmp .ge 7, 3) := by decide +kernel
theorem dMo_feed_56 : decode kMo_feed.2.1 56 = .ok (.iload_n 2, 1) := by decide +kernel
theorem dMo_feed_57 : decode kMo_feed.2.1 57 = .ok (.goto 28, 3) := by decide +kernel
theorem dMo_feed_60 : decode kMo_feed.2.1 60 = .ok (.iload 6, 2) := by decide +kernel
theorem dMo_feed_62 : decode kMo_feed.2.1 62 = .ok (.bipush 12, 2) := by decide +kernel
theorem dMo_feed_64 : decode kMo_feed.2.1 64 = .ok (.if_icmp .ge 7, 3) := by decide +kernel
theorem dMo_feed_67 : decode kMo_feed.2.1 67 = .ok (.iload_n 3, 1) := by decide +kernel
theorem dMo_feed_68 : decode kMo_feed.2.1 68 = .ok (.goto 17, 3) := by decide +kernel
theorem dMo_feed_71 : decode kMo_feed.2.1 71 = .ok (.iload 6, 2) := by decide +kernel
theorem dMo_feed_73 : decode kMo_feed.2.1 73 = .ok (.bipush 16, 2) := by decide +kernel
theorem dMo_feed_75 : decode kMo_feed.2.1 75 = .ok (.if_icmp .ge 8, 3) := by decide +kernel
theorem dMo_feed_78 : decode kMo_feed.2.1 78 = .ok (.iload 4, 2) := by decide +kernel
theorem dMo_feed_80 : decode kMo_feed.2.1 80 = .ok (.goto 5, 3) := by decide +kernel
theorem dMo_feed_83 : decode kMo_feed.2.1 83 = .ok (.iload 5, 2) := by decide +kernel
theorem dMo_feed_85 : decode kMo_feed.2.1 85 = .ok (.istore 7, 2) := by decide +kernel
theorem dMo_feed_87 : decode kMo_feed.2.1 87 = .ok (.aload_n 0, 1) := by decide +kernel
theorem dMo_feed_88 : decode kMo_feed.2.1 88 = .ok (.getfield 8, 3) := by decide +kernel
theorem dMo_feed_91 : decode kMo_feed.2.1 91 = .ok (.aload_n 0, 1) := by decide +kernel
theorem dMo_feed_92 : decode kMo_feed.2.1 92 = .ok (.dup, 1) := by decide +kernel
theorem dMo_feed_93 : decode kMo_feed.2.1 93 = .ok (.getfield 14, 3) := by decide +kernel
theorem dMo_feed_96 : decode kMo_feed.2.1 96 = .ok (.dup_x1, 1) := by decide +kernel
theorem dMo_feed_97 : decode kMo_feed.2.1 97 = .ok (.iconst 1, 1) := by decide +kernel
theorem dMo_feed_98 : decode kMo_feed.2.1 98 = .ok (.iadd, 1) := by decide +kernel
theorem dMo_feed_99 : decode kMo_feed.2.1 99 = .ok (.putfield 14, 3) := by decide +kernel
theorem dMo_feed_102 : decode kMo_feed.2.1 102 = .ok (.iload 7, 2) := by decide +kernel
theorem dMo_feed_104 : decode kMo_feed.2.1 104 = .ok (.bipush 24, 2) := by decide +kernel
theorem dMo_feed_106 : decode kMo_feed.2.1 106 = .ok (.bipush 8, 2) := by decide +kernel
theorem dMo_feed_108 : decode kMo_feed.2.1 108 = .ok (.iload 6, 2) := by decide +kernel
theorem dMo_feed_110 : decode kMo_feed.2.1 110 = .ok (.iconst 4, 1) := by decide +kernel
theorem dMo_feed_111 : decode kMo_feed.2.1 111 = .ok (.irem, 1) := by decide +kernel
theorem dMo_feed_112 : decode kMo_feed.2.1 112 = .ok (.imul, 1) := by decide +kernel
theorem dMo_feed_113 : decode kMo_feed.2.1 113 = .ok (.isub, 1) := by decide +kernel
theorem dMo_feed_114 : decode kMo_feed.2.1 114 = .ok (.iushr, 1) := by decide +kernel
theorem dMo_feed_115 : decode kMo_feed.2.1 115 = .ok (.i2b, 1) := by decide +kernel
theorem dMo_feed_116 : decode kMo_feed.2.1 116 = .ok (.bastore, 1) := by decide +kernel
theorem dMo_feed_117 : decode kMo_feed.2.1 117 = .ok (.iinc 6 1, 3) := by decide +kernel
theorem dMo_feed_120 : decode kMo_feed.2.1 120 = .ok (.goto (-88), 3) := by decide +kernel
theorem dMo_feed_123 : decode kMo_feed.2.1 123 = .ok (.aload_n 0, 1) := by decide +kernel
theorem dMo_feed_124 : decode kMo_feed.2.1 124 = .ok (.getfield 14, 3) := by decide +kernel
theorem dMo_feed_127 : decode kMo_feed.2.1 127 = .ok (.ireturn, 1) := by decide +kernel
theorem dMo_refuse_0 : decode kMo_refuse.2.1 0 = .ok (.iload_n 2, 1) := by decide +kernel
theorem dMo_refuse_1 : decode kMo_refuse.2.1 1 = .ok (.ifCond .eq 8, 3) := by decide +kernel
theorem dMo_refuse_4 : decode kMo_refuse.2.1 4 = .ok (.aload_n 0, 1) := by decide +kernel
theorem dMo_refuse_5 : decode kMo_refuse.2.1 5 = .ok (.iload_n 1, 1) := by decide +kernel
theorem dMo_refuse_6 : decode kMo_refuse.2.1 6 = .ok (.putfield 18, 3) := by decide +kernel
theorem dMo_refuse_9 : decode kMo_refuse.2.1 9 = .ok (.iload_n 2, 1) := by decide +kernel
theorem dMo_refuse_10 : decode kMo_refuse.2.1 10 = .ok (.ireturn, 1) := by decide +kernel
theorem dMo_end_0 : decode kMo_end.2.1 0 = .ok (.aload_n 0, 1) := by decide +kernel
theorem dMo_end_1 : decode kMo_end.2.1 1 = .ok (.iconst 0, 1) := by decide +kernel
theorem dMo_end_2 : decode kMo_end.2.1 2 = .ok (.putfield 18, 3) := by decide +kernel
theorem dMo_end_5 : decode kMo_end.2.1 5 = .ok (.aload_n 0, 1) := by decide +kernel
theorem dMo_end_6 : decode kMo_end.2.1 6 = .ok (.iconst 1, 1) := by decide +kernel
theorem dMo_end_7 : decode kMo_end.2.1 7 = .ok (.iload_n 1, 1) := by decide +kernel
theorem dMo_end_8 : decode kMo_end.2.1 8 = .ok (.ifCond .lt 11, 3) := by decide +kernel
theorem dMo_end_11 : decode kMo_end.2.1 11 = .ok (.iload_n 1, 1) := by decide +kernel
theorem dMo_end_12 : decode kMo_end.2.1 12 = .ok (.aload_n 0, 1) := by decide +kernel
theorem dMo_end_13 : decode kMo_end.2.1 13 = .ok (.getfield 14, 3) := by decide +kernel
theorem dMo_end_16 : decode kMo_end.2.1 16 = .ok (.if_icmp .le 7, 3) := by decide +kernel
theorem dMo_end_19 : decode kMo_end.2.1 19 = .ok (.iconst 1, 1) := by decide +kernel
theorem dMo_end_20 : decode kMo_end.2.1 20 = .ok (.goto 4, 3) := by decide +kernel
theorem dMo_end_23 : decode kMo_end.2.1 23 = .ok (.iconst 0, 1) := by decide +kernel
theorem dMo_end_24 : decode kMo_end.2.1 24 = .ok (.invokevirtual 180, 3) := by decide +kernel
theorem dMo_end_27 : decode kMo_end.2.1 27 = .ok (.ifCond .eq 5, 3) := by decide +kernel
theorem dMo_end_30 : decode kMo_end.2.1 30 = .ok (.iconst 0, 1) := by decide +kernel
theorem dMo_end_31 : decode kMo_end.2.1 31 = .ok (.ireturn, 1) := by decide +kernel
theorem dMo_end_32 : decode kMo_end.2.1 32 = .ok (.aload_n 0, 1) := by decide +kernel
theorem dMo_end_33 : decode kMo_end.2.1 33 = .ok (.iload_n 1, 1) := by decide +kernel
theorem dMo_end_34 : decode kMo_end.2.1 34 = .ok (.putfield 14, 3) := by decide +kernel
theorem dMo_end_37 : decode kMo_end.2.1 37 = .ok (.iload_n 1, 1) := by decide +kernel
theorem dMo_end_38 : decode kMo_end.2.1 38 = .ok (.ireturn, 1) := by decide +kernel
theorem dMo_read_0 : decode kMo_read.2.1 0 = .ok (.aload_n 0, 1) := by decide +kernel
theorem dMo_read_1 : decode kMo_read.2.1 1 = .ok (.iconst 0, 1) := by decide +kernel
theorem dMo_read_2 : decode kMo_read.2.1 2 = .ok (.putfield 18, 3) := by decide +kernel
theorem dMo_read_5 : decode kMo_read.2.1 5 = .ok (.aload_n 0, 1) := by decide +kernel
theorem dMo_read_6 : decode kMo_read.2.1 6 = .ok (.iconst 0, 1) := by decide +kernel
theorem dMo_read_7 : decode kMo_read.2.1 7 = .ok (.putfield 21, 3) := by decide +kernel
theorem dMo_read_10 : decode kMo_read.2.1 10 = .ok (.aload_n 0, 1) := by decide +kernel
theorem dMo_read_11 : decode kMo_read.2.1 11 = .ok (.iconst 0, 1) := by decide +kernel
theorem dMo_read_12 : decode kMo_read.2.1 12 = .ok (.putfield 24, 3) := by decide +kernel
theorem dMo_read_15 : decode kMo_read.2.1 15 = .ok (.aload_n 0, 1) := by decide +kernel
theorem dMo_read_16 : decode kMo_read.2.1 16 = .ok (.invokevirtual 325, 3) := by decide +kernel
theorem dMo_read_19 : decode kMo_read.2.1 19 = .ok (.aload_n 0, 1) := by decide +kernel
theorem dMo_read_20 : decode kMo_read.2.1 20 = .ok (.invokevirtual 328, 3) := by decide +kernel
theorem dMo_read_23 : decode kMo_read.2.1 23 = .ok (.goto 24, 3) := by decide +kernel
theorem dMo_read_26 : decode kMo_read.2.1 26 = .ok (.astore_n 1, 1) := by decide +kernel
theorem dMo_read_27 : decode kMo_read.2.1 27 = .ok (.aload_n 0, 1) := by decide +kernel
theorem dMo_read_28 : decode kMo_read.2.1 28 = .ok (.aload_n 1, 1) := by decide +kernel
theorem dMo_read_29 : decode kMo_read.2.1 29 = .ok (.getfield 331, 3) := by decide +kernel
theorem dMo_read_32 : decode kMo_read.2.1 32 = .ok (.putfield 21, 3) := by decide +kernel
theorem dMo_read_35 : decode kMo_read.2.1 35 = .ok (.aload_n 0, 1) := by decide +kernel
theorem dMo_read_36 : decode kMo_read.2.1 36 = .ok (.aload_n 1, 1) := by decide +kernel
theorem dMo_read_37 : decode kMo_read.2.1 37 = .ok (.getfield 333, 3) := by decide +kernel
theorem dMo_read_40 : decode kMo_read.2.1 40 = .ok (.putfield 24, 3) := by decide +kernel
theorem dMo_read_43 : decode kMo_read.2.1 43 = .ok (.aload_n 0, 1) := by decide +kernel
theorem dMo_read_44 : decode kMo_read.2.1 44 = .ok (.invokevirtual 325, 3) := by decide +kernel
theorem dMo_read_47 : decode kMo_read.2.1 47 = .ok (.aload_n 0, 1) := by decide +kernel
theorem dMo_read_48 : decode kMo_read.2.1 48 = .ok (.iconst 0, 1) := by decide +kernel
theorem dMo_read_49 : decode kMo_read.2.1 49 = .ok (.putfield 14, 3) := by decide +kernel
theorem dMo_read_52 : decode kMo_read.2.1 52 = .ok (.aload_n 0, 1) := by decide +kernel
theorem dMo_read_53 : decode kMo_read.2.1 53 = .ok (.iconst 0, 1) := by decide +kernel
theorem dMo_read_54 : decode kMo_read.2.1 54 = .ok (.putfield 176, 3) := by decide +kernel
theorem dMo_read_57 : decode kMo_read.2.1 57 = .ok (.aload_n 0, 1) := by decide +kernel
theorem dMo_read_58 : decode kMo_read.2.1 58 = .ok (.iconst 0, 1) := by decide +kernel
theorem dMo_read_59 : decode kMo_read.2.1 59 = .ok (.putfield 173, 3) := by decide +kernel
theorem dMo_read_62 : decode kMo_read.2.1 62 = .ok (.iconst 0, 1) := by decide +kernel
theorem dMo_read_63 : decode kMo_read.2.1 63 = .ok (.istore_n 1, 1) := by decide +kernel
theorem dMo_read_64 : decode kMo_read.2.1 64 = .ok (.iconst 0, 1) := by decide +kernel
theorem dMo_read_65 : decode kMo_read.2.1 65 = .ok (.istore_n 2, 1) := by decide +kernel
theorem dMo_read_66 : decode kMo_read.2.1 66 = .ok (.iload_n 2, 1) := by decide +kernel
theorem dMo_read_67 : decode kMo_read.2.1 67 = .ok (.aload_n 0, 1) := by decide +kernel
theorem dMo_read_68 : decode kMo_read.2.1 68 = .ok (.getfield 83, 3) := by decide +kernel
theorem dMo_read_71 : decode kMo_read.2.1 71 = .ok (.if_icmp .ge 25, 3) := by decide +kernel
theorem dMo_read_74 : decode kMo_read.2.1 74 = .ok (.iload_n 1, 1) := by decide +kernel
theorem dMo_read_75 : decode kMo_read.2.1 75 = .ok (.aload_n 0, 1) := by decide +kernel
theorem dMo_read_76 : decode kMo_read.2.1 76 = .ok (.getfield 65, 3) := by decide +kernel
theorem dMo_read_79 : decode kMo_read.2.1 79 = .ok (.iload_n 2, 1) := by decide +kernel
theorem dMo_read_80 : decode kMo_read.2.1 80 = .ok (.iaload, 1) := by decide +kernel
theorem dMo_read_81 : decode kMo_read.2.1 81 = .ok (.ishl, 1) := by decide +kernel
theorem dMo_read_82 : decode kMo_read.2.1 82 = .ok (.aload_n 0, 1) := by decide +kernel
theorem dMo_read_83 : decode kMo_read.2.1 83 = .ok (.getfield 68, 3) := by decide +kernel
theorem dMo_read_86 : decode kMo_read.2.1 86 = .ok (.iload_n 2, 1) := by decide +kernel
theorem dMo_read_87 : decode kMo_read.2.1 87 = .ok (.iaload, 1) := by decide +kernel
theorem dMo_read_88 : decode kMo_read.2.1 88 = .ok (.ior, 1) := by decide +kernel
theorem dMo_read_89 : decode kMo_read.2.1 89 = .ok (.istore_n 1, 1) := by decide +kernel
theorem dMo_read_90 : decode kMo_read.2.1 90 = .ok (.iinc 2 1, 3) := by decide +kernel
theorem dMo_read_93 : decode kMo_read.2.1 93 = .ok (.goto (-27), 3) := by decide +kernel
theorem dMo_read_96 : decode kMo_read.2.1 96 = .ok (.aload_n 0, 1) := by decide +kernel
theorem dMo_read_97 : decode kMo_read.2.1 97 = .ok (.iload_n 1, 1) := by decide +kernel
theorem dMo_read_98 : decode kMo_read.2.1 98 = .ok (.putfield 158, 3) := by decide +kernel
theorem dMo_read_101 : decode kMo_read.2.1 101 = .ok (.aload_n 0, 1) := by decide +kernel
theorem dMo_read_102 : decode kMo_read.2.1 102 = .ok (.iload_n 1, 1) := by decide +kernel
theorem dMo_read_103 : decode kMo_read.2.1 103 = .ok (.putfield 161, 3) := by decide +kernel
theorem dMo_read_106 : decode kMo_read.2.1 106 = .ok (.aload_n 0, 1) := by decide +kernel
theorem dMo_read_107 : decode kMo_read.2.1 107 = .ok (.invokevirtual 336, 3) := by decide +kernel
theorem dMo_read_110 : decode kMo_read.2.1 110 = .ok (.aload_n 0, 1) := by decide +kernel
theorem dMo_read_111 : decode kMo_read.2.1 111 = .ok (.getfield 21, 3) := by decide +kernel
theorem dMo_read_114 : decode kMo_read.2.1 114 = .ok (.ifCond .le 7, 3) := by decide +kernel
theorem dMo_read_117 : decode kMo_read.2.1 117 = .ok (.iconst (-1), 1) := by decide +kernel
theorem dMo_read_118 : decode kMo_read.2.1 118 = .ok (.goto 7, 3) := by decide +kernel
theorem dMo_read_121 : decode kMo_read.2.1 121 = .ok (.aload_n 0, 1) := by decide +kernel
theorem dMo_read_122 : decode kMo_read.2.1 122 = .ok (.getfield 92, 3) := by decide +kernel
theorem dMo_read_125 : decode kMo_read.2.1 125 = .ok (.ireturn, 1) := by decide +kernel
theorem dMo_clear_0 : decode kMo_clear.2.1 0 = .ok (.aload_n 0, 1) := by decide +kernel
theorem dMo_clear_1 : decode kMo_clear.2.1 1 = .ok (.iconst 0, 1) := by decide +kernel
theorem dMo_clear_2 : decode kMo_clear.2.1 2 = .ok (.putfield 27, 3) := by decide +kernel
theorem dMo_clear_5 : decode kMo_clear.2.1 5 = .ok (.aload_n 0, 1) := by decide +kernel
theorem dMo_clear_6 : decode kMo_clear.2.1 6 = .ok (.iconst 0, 1) := by decide +kernel
theorem dMo_clear_7 : decode kMo_clear.2.1 7 = .ok (.putfield 42, 3) := by decide +kernel
theorem dMo_clear_10 : decode kMo_clear.2.1 10 = .ok (.aload_n 0, 1) := by decide +kernel
theorem dMo_clear_11 : decode kMo_clear.2.1 11 = .ok (.iconst 0, 1) := by decide +kernel
theorem dMo_clear_12 : decode kMo_clear.2.1 12 = .ok (.putfield 39, 3) := by decide +kernel
theorem dMo_clear_15 : decode kMo_clear.2.1 15 = .ok (.aload_n 0, 1) := by decide +kernel
theorem dMo_clear_16 : decode kMo_clear.2.1 16 = .ok (.iconst 0, 1) := by decide +kernel
theorem dMo_clear_17 : decode kMo_clear.2.1 17 = .ok (.putfield 46, 3) := by decide +kernel
theorem dMo_clear_20 : decode kMo_clear.2.1 20 = .ok (.aload_n 0, 1) := by decide +kernel
theorem dMo_clear_21 : decode kMo_clear.2.1 21 = .ok (.iconst 0, 1) := by decide +kernel
theorem dMo_clear_22 : decode kMo_clear.2.1 22 = .ok (.putfield 62, 3) := by decide +kernel
theorem dMo_clear_25 : decode kMo_clear.2.1 25 = .ok (.aload_n 0, 1) := by decide +kernel
theorem dMo_clear_26 : decode kMo_clear.2.1 26 = .ok (.iconst 0, 1) := by decide +kernel
theorem dMo_clear_27 : decode kMo_clear.2.1 27 = .ok (.putfield 116, 3) := by decide +kernel
theorem dMo_clear_30 : decode kMo_clear.2.1 30 = .ok (.aload_n 0, 1) := by decide +kernel
theorem dMo_clear_31 : decode kMo_clear.2.1 31 = .ok (.iconst 0, 1) := by decide +kernel
theorem dMo_clear_32 : decode kMo_clear.2.1 32 = .ok (.putfield 128, 3) := by decide +kernel
theorem dMo_clear_35 : decode kMo_clear.2.1 35 = .ok (.aload_n 0, 1) := by decide +kernel
theorem dMo_clear_36 : decode kMo_clear.2.1 36 = .ok (.iconst 0, 1) := by decide +kernel
theorem dMo_clear_37 : decode kMo_clear.2.1 37 = .ok (.putfield 83, 3) := by decide +kernel
theorem dMo_clear_40 : decode kMo_clear.2.1 40 = .ok (.aload_n 0, 1) := by decide +kernel
theorem dMo_clear_41 : decode kMo_clear.2.1 41 = .ok (.iconst 0, 1) := by decide +kernel
theorem dMo_clear_42 : decode kMo_clear.2.1 42 = .ok (.putfield 86, 3) := by decide +kernel
theorem dMo_clear_45 : decode kMo_clear.2.1 45 = .ok (.aload_n 0, 1) := by decide +kernel
theorem dMo_clear_46 : decode kMo_clear.2.1 46 = .ok (.iconst 0, 1) := by decide +kernel
theorem dMo_clear_47 : decode kMo_clear.2.1 47 = .ok (.putfield 89, 3) := by decide +kernel
theorem dMo_clear_50 : decode kMo_clear.2.1 50 = .ok (.aload_n 0, 1) := by decide +kernel
theorem dMo_clear_51 : decode kMo_clear.2.1 51 = .ok (.iconst 0, 1) := by decide +kernel
theorem dMo_clear_52 : decode kMo_clear.2.1 52 = .ok (.putfield 92, 3) := by decide +kernel
theorem dMo_clear_55 : decode kMo_clear.2.1 55 = .ok (.aload_n 0, 1) := by decide +kernel
theorem dMo_clear_56 : decode kMo_clear.2.1 56 = .ok (.iconst 0, 1) := by decide +kernel
theorem dMo_clear_57 : decode kMo_clear.2.1 57 = .ok (.putfield 95, 3) := by decide +kernel
theorem dMo_clear_60 : decode kMo_clear.2.1 60 = .ok (.aload_n 0, 1) := by decide +kernel
theorem dMo_clear_61 : decode kMo_clear.2.1 61 = .ok (.iconst 0, 1) := by decide +kernel
theorem dMo_clear_62 : decode kMo_clear.2.1 62 = .ok (.putfield 98, 3) := by decide +kernel
theorem dMo_clear_65 : decode kMo_clear.2.1 65 = .ok (.return_, 1) := by decide +kernel
theorem dMo_lines_0 : decode kMo_lines.2.1 0 = .ok (.aload_n 0, 1) := by decide +kernel
theorem dMo_lines_1 : decode kMo_lines.2.1 1 = .ok (.invokevirtual 207, 3) := by decide +kernel
theorem dMo_lines_4 : decode kMo_lines.2.1 4 = .ok (.ifCond .eq 97, 3) := by decide +kernel
theorem dMo_lines_7 : decode kMo_lines.2.1 7 = .ok (.aload_n 0, 1) := by decide +kernel
theorem dMo_lines_8 : decode kMo_lines.2.1 8 = .ok (.ldc 227, 2) := by decide +kernel
theorem dMo_lines_10 : decode kMo_lines.2.1 10 = .ok (.invokevirtual 229, 3) := by decide +kernel
theorem dMo_lines_13 : decode kMo_lines.2.1 13 = .ok (.ifCond .eq 10, 3) := by decide +kernel
theorem dMo_lines_16 : decode kMo_lines.2.1 16 = .ok (.aload_n 0, 1) := by decide +kernel
theorem dMo_lines_17 : decode kMo_lines.2.1 17 = .ok (.invokevirtual 312, 3) := by decide +kernel
theorem dMo_lines_20 : decode kMo_lines.2.1 20 = .ok (.goto 72, 3) := by decide +kernel
theorem dMo_lines_23 : decode kMo_lines.2.1 23 = .ok (.aload_n 0, 1) := by decide +kernel
theorem dMo_lines_24 : decode kMo_lines.2.1 24 = .ok (.ldc 233, 2) := by decide +kernel
theorem dMo_lines_26 : decode kMo_lines.2.1 26 = .ok (.invokevirtual 229, 3) := by decide +kernel
theorem dMo_lines_29 : decode kMo_lines.2.1 29 = .ok (.ifCond .eq 10, 3) := by decide +kernel
theorem dMo_lines_32 : decode kMo_lines.2.1 32 = .ok (.aload_n 0, 1) := by decide +kernel
theorem dMo_lines_33 : decode kMo_lines.2.1 33 = .ok (.invokevirtual 314, 3) := by decide +kernel
theorem dMo_lines_36 : decode kMo_lines.2.1 36 = .ok (.goto 56, 3) := by decide +kernel
theorem dMo_lines_39 : decode kMo_lines.2.1 39 = .ok (.aload_n 0, 1) := by decide +kernel
theorem dMo_lines_40 : decode kMo_lines.2.1 40 = .ok (.ldc 235, 2) := by decide +kernel
theorem dMo_lines_42 : decode kMo_lines.2.1 42 = .ok (.invokevirtual 229, 3) := by decide +kernel
theorem dMo_lines_45 : decode kMo_lines.2.1 45 = .ok (.ifCond .eq 10, 3) := by decide +kernel
theorem dMo_lines_48 : decode kMo_lines.2.1 48 = .ok (.aload_n 0, 1) := by decide +kernel
theorem dMo_lines_49 : decode kMo_lines.2.1 49 = .ok (.invokevirtual 316, 3) := by decide +kernel
theorem dMo_lines_52 : decode kMo_lines.2.1 52 = .ok (.goto 40, 3) := by decide +kernel
theorem dMo_lines_55 : decode kMo_lines.2.1 55 = .ok (.aload_n 0, 1) := by decide +kernel
theorem dMo_lines_56 : decode kMo_lines.2.1 56 = .ok (.ldc 236, 2) := by decide +kernel
theorem dMo_lines_58 : decode kMo_lines.2.1 58 = .ok (.invokevirtual 229, 3) := by decide +kernel
theorem dMo_lines_61 : decode kMo_lines.2.1 61 = .ok (.ifCond .eq 10, 3) := by decide +kernel
theorem dMo_lines_64 : decode kMo_lines.2.1 64 = .ok (.aload_n 0, 1) := by decide +kernel
theorem dMo_lines_65 : decode kMo_lines.2.1 65 = .ok (.invokevirtual 318, 3) := by decide +kernel
theorem dMo_lines_68 : decode kMo_lines.2.1 68 = .ok (.goto 24, 3) := by decide +kernel
theorem dMo_lines_71 : decode kMo_lines.2.1 71 = .ok (.aload_n 0, 1) := by decide +kernel
theorem dMo_lines_72 : decode kMo_lines.2.1 72 = .ok (.ldc 238, 2) := by decide +kernel
theorem dMo_lines_74 : decode kMo_lines.2.1 74 = .ok (.invokevirtual 229, 3) := by decide +kernel
theorem dMo_lines_77 : decode kMo_lines.2.1 77 = .ok (.ifCond .eq 10, 3) := by decide +kernel
theorem dMo_lines_80 : decode kMo_lines.2.1 80 = .ok (.aload_n 0, 1) := by decide +kernel
theorem dMo_lines_81 : decode kMo_lines.2.1 81 = .ok (.invokevirtual 320, 3) := by decide +kernel
theorem dMo_lines_84 : decode kMo_lines.2.1 84 = .ok (.goto 8, 3) := by decide +kernel
theorem dMo_lines_87 : decode kMo_lines.2.1 87 = .ok (.aload_n 0, 1) := by decide +kernel
theorem dMo_lines_88 : decode kMo_lines.2.1 88 = .ok (.invokevirtual 211, 3) := by decide +kernel
theorem dMo_lines_91 : decode kMo_lines.2.1 91 = .ok (.athrow, 1) := by decide +kernel
theorem dMo_lines_92 : decode kMo_lines.2.1 92 = .ok (.aload_n 0, 1) := by decide +kernel
theorem dMo_lines_93 : decode kMo_lines.2.1 93 = .ok (.bipush 59, 2) := by decide +kernel
theorem dMo_lines_95 : decode kMo_lines.2.1 95 = .ok (.invokevirtual 277, 3) := by decide +kernel
theorem dMo_lines_98 : decode kMo_lines.2.1 98 = .ok (.goto (-98), 3) := by decide +kernel
theorem dMo_lines_101 : decode kMo_lines.2.1 101 = .ok (.return_, 1) := by decide +kernel
theorem dMo_peek_0 : decode kMo_peek.2.1 0 = .ok (.aload_n 0, 1) := by decide +kernel
theorem dMo_peek_1 : decode kMo_peek.2.1 1 = .ok (.getfield 42, 3) := by decide +kernel
theorem dMo_peek_4 : decode kMo_peek.2.1 4 = .ok (.ifCond .eq 8, 3) := by decide +kernel
theorem dMo_peek_7 : decode kMo_peek.2.1 7 = .ok (.aload_n 0, 1) := by decide +kernel
theorem dMo_peek_8 : decode kMo_peek.2.1 8 = .ok (.getfield 30, 3) := by decide +kernel
theorem dMo_peek_11 : decode kMo_peek.2.1 11 = .ok (.ireturn, 1) := by decide +kernel
theorem dMo_peek_12 : decode kMo_peek.2.1 12 = .ok (.aload_n 0, 1) := by decide +kernel
theorem dMo_peek_13 : decode kMo_peek.2.1 13 = .ok (.invokevirtual 184, 3) := by decide +kernel
theorem dMo_peek_16 : decode kMo_peek.2.1 16 = .ok (.aload_n 0, 1) := by decide +kernel
theorem dMo_peek_17 : decode kMo_peek.2.1 17 = .ok (.iconst 1, 1) := by decide +kernel
theorem dMo_peek_18 : decode kMo_peek.2.1 18 = .ok (.putfield 42, 3) := by decide +kernel
theorem dMo_peek_21 : decode kMo_peek.2.1 21 = .ok (.aload_n 0, 1) := by decide +kernel
theorem dMo_peek_22 : decode kMo_peek.2.1 22 = .ok (.aload_n 0, 1) := by decide +kernel
theorem dMo_peek_23 : decode kMo_peek.2.1 23 = .ok (.getfield 27, 3) := by decide +kernel
theorem dMo_peek_26 : decode kMo_peek.2.1 26 = .ok (.putfield 33, 3) := by decide +kernel
theorem dMo_peek_29 : decode kMo_peek.2.1 29 = .ok (.aload_n 0, 1) := by decide +kernel
theorem dMo_peek_30 : decode kMo_peek.2.1 30 = .ok (.aload_n 0, 1) := by decide +kernel
theorem dMo_peek_31 : decode kMo_peek.2.1 31 = .ok (.getfield 27, 3) := by decide +kernel
theorem dMo_peek_34 : decode kMo_peek.2.1 34 = .ok (.putfield 36, 3) := by decide +kernel
theorem dMo_peek_37 : decode kMo_peek.2.1 37 = .ok (.aload_n 0, 1) := by decide +kernel
theorem dMo_peek_38 : decode kMo_peek.2.1 38 = .ok (.iconst 0, 1) := by decide +kernel
theorem dMo_peek_39 : decode kMo_peek.2.1 39 = .ok (.putfield 30, 3) := by decide +kernel
theorem dMo_peek_42 : decode kMo_peek.2.1 42 = .ok (.aload_n 0, 1) := by decide +kernel
theorem dMo_peek_43 : decode kMo_peek.2.1 43 = .ok (.getfield 27, 3) := by decide +kernel
theorem dMo_peek_46 : decode kMo_peek.2.1 46 = .ok (.aload_n 0, 1) := by decide +kernel
theorem dMo_peek_47 : decode kMo_peek.2.1 47 = .ok (.getfield 14, 3) := by decide +kernel
theorem dMo_peek_50 : decode kMo_peek.2.1 50 = .ok (.if_icmp .ne 5, 3) := by decide +kernel
theorem dMo_peek_53 : decode kMo_peek.2.1 53 = .ok (.iconst 0, 1) := by decide +kernel
theorem dMo_peek_54 : decode kMo_peek.2.1 54 = .ok (.ireturn, 1) := by decide +kernel
theorem dMo_peek_55 : decode kMo_peek.2.1 55 = .ok (.aload_n 0, 1) := by decide +kernel
theorem dMo_peek_56 : decode kMo_peek.2.1 56 = .ok (.dup, 1) := by decide +kernel
theorem dMo_peek_57 : decode kMo_peek.2.1 57 = .ok (.getfield 39, 3) := by decide +kernel
theorem dMo_peek_60 : decode kMo_peek.2.1 60 = .ok (.iconst 1, 1) := by decide +kernel
theorem dMo_peek_61 : decode kMo_peek.2.1 61 = .ok (.iadd, 1) := by decide +kernel
theorem dMo_peek_62 : decode kMo_peek.2.1 62 = .ok (.putfield 39, 3) := by decide +kernel
theorem dMo_peek_65 : decode kMo_peek.2.1 65 = .ok (.aload_n 0, 1) := by decide +kernel
theorem dMo_peek_66 : decode kMo_peek.2.1 66 = .ok (.getfield 39, 3) := by decide +kernel
theorem dMo_peek_69 : decode kMo_peek.2.1 69 = .ok (.sipush 4001, 3) := by decide +kernel
theorem dMo_peek_72 : decode kMo_peek.2.1 72 = .ok (.if_icmp .ne 16, 3) := by decide +kernel
theorem dMo_peek_75 : decode kMo_peek.2.1 75 = .ok (.new 187, 3) := by decide +kernel
theorem dMo_peek_78 : decode kMo_peek.2.1 78 = .ok (.dup, 1) := by decide +kernel
theorem dMo_peek_79 : decode kMo_peek.2.1 79 = .ok (.iconst 4, 1) := by decide +kernel
theorem dMo_peek_80 : decode kMo_peek.2.1 80 = .ok (.aload_n 0, 1) := by decide +kernel
theorem dMo_peek_81 : decode kMo_peek.2.1 81 = .ok (.getfield 27, 3) := by decide +kernel
theorem dMo_peek_84 : decode kMo_peek.2.1 84 = .ok (.invokespecial 189, 3) := by decide +kernel
theorem dMo_peek_87 : decode kMo_peek.2.1 87 = .ok (.athrow, 1) := by decide +kernel
theorem dMo_peek_88 : decode kMo_peek.2.1 88 = .ok (.aload_n 0, 1) := by decide +kernel
theorem dMo_peek_89 : decode kMo_peek.2.1 89 = .ok (.getfield 8, 3) := by decide +kernel
theorem dMo_peek_92 : decode kMo_peek.2.1 92 = .ok (.aload_n 0, 1) := by decide +kernel
theorem dMo_peek_93 : decode kMo_peek.2.1 93 = .ok (.getfield 27, 3) := by decide +kernel
theorem dMo_peek_96 : decode kMo_peek.2.1 96 = .ok (.baload, 1) := by decide +kernel
theorem dMo_peek_97 : decode kMo_peek.2.1 97 = .ok (.istore_n 1, 1) := by decide +kernel
theorem dMo_peek_98 : decode kMo_peek.2.1 98 = .ok (.iload_n 1, 1) := by decide +kernel
theorem dMo_peek_99 : decode kMo_peek.2.1 99 = .ok (.invokestatic 192, 3) := by decide +kernel
theorem dMo_peek_102 : decode kMo_peek.2.1 102 = .ok (.ifCond .eq 97, 3) := by decide +kernel
theorem dMo_peek_105 : decode kMo_peek.2.1 105 = .ok (.aload_n 0, 1) := by decide +kernel
theorem dMo_peek_106 : decode kMo_peek.2.1 106 = .ok (.getfield 36, 3) := by decide +kernel
theorem dMo_peek_109 : decode kMo_peek.2.1 109 = .ok (.aload_n 0, 1) := by decide +kernel
theorem dMo_peek_110 : decode kMo_peek.2.1 110 = .ok (.getfield 14, 3) := by decide +kernel
theorem dMo_peek_113 : decode kMo_peek.2.1 113 = .ok (.if_icmp .ge 60, 3) := by decide +kernel
theorem dMo_peek_116 : decode kMo_peek.2.1 116 = .ok (.aload_n 0, 1) := by decide +kernel
theorem dMo_peek_117 : decode kMo_peek.2.1 117 = .ok (.getfield 8, 3) := by decide +kernel
theorem dMo_peek_120 : decode kMo_peek.2.1 120 = .ok (.aload_n 0, 1) := by decide +kernel
theorem dMo_peek_121 : decode kMo_peek.2.1 121 = .ok (.getfield 36, 3) := by decide +kernel
theorem dMo_peek_124 : decode kMo_peek.2.1 124 = .ok (.baload, 1) := by decide +kernel
theorem dMo_peek_125 : decode kMo_peek.2.1 125 = .ok (.invokestatic 192, 3) := by decide +kernel
theorem dMo_peek_128 : decode kMo_peek.2.1 128 = .ok (.ifCond .ne 32, 3) := by decide +kernel
theorem dMo_peek_131 : decode kMo_peek.2.1 131 = .ok (.aload_n 0, 1) := by decide +kernel
theorem dMo_peek_132 : decode kMo_peek.2.1 132 = .ok (.getfield 8, 3) := by decide +kernel
theorem dMo_peek_135 : decode kMo_peek.2.1 135 = .ok (.aload_n 0, 1) := by decide +kernel
theorem dMo_peek_136 : decode kMo_peek.2.1 136 = .ok (.getfield 36, 3) := by decide +kernel
theorem dMo_peek_139 : decode kMo_peek.2.1 139 = .ok (.baload, 1) := by decide +kernel
theorem dMo_peek_140 : decode kMo_peek.2.1 140 = .ok (.invokestatic 196, 3) := by decide +kernel
theorem dMo_peek_143 : decode kMo_peek.2.1 143 = .ok (.ifCond .ne 17, 3) := by decide +kernel
theorem dMo_peek_146 : decode kMo_peek.2.1 146 = .ok (.aload_n 0, 1) := by decide +kernel
theorem dMo_peek_147 : decode kMo_peek.2.1 147 = .ok (.getfield 8, 3) := by decide +kernel
theorem dMo_peek_150 : decode kMo_peek.2.1 150 = .ok (.aload_n 0, 1) := by decide +kernel
theorem dMo_peek_151 : decode kMo_peek.2.1 151 = .ok (.getfield 36, 3) := by decide +kernel
theorem dMo_peek_154 : decode kMo_peek.2.1 154 = .ok (.baload, 1) := by decide +kernel
theorem dMo_peek_155 : decode kMo_peek.2.1 155 = .ok (.bipush 95, 2) := by decide +kernel
theorem dMo_peek_157 : decode kMo_peek.2.1 157 = .ok (.if_icmp .ne 16, 3) := by decide +kernel
theorem dMo_peek_160 : decode kMo_peek.2.1 160 = .ok (.aload_n 0, 1) := by decide +kernel
theorem dMo_peek_161 : decode kMo_peek.2.1 161 = .ok (.dup, 1) := by decide +kernel
theorem dMo_peek_162 : decode kMo_peek.2.1 162 = .ok (.getfield 36, 3) := by decide +kernel
theorem dMo_peek_165 : decode kMo_peek.2.1 165 = .ok (.iconst 1, 1) := by decide +kernel
theorem dMo_peek_166 : decode kMo_peek.2.1 166 = .ok (.iadd, 1) := by decide +kernel
theorem dMo_peek_167 : decode kMo_peek.2.1 167 = .ok (.putfield 36, 3) := by decide +kernel
theorem dMo_peek_170 : decode kMo_peek.2.1 170 = .ok (.goto (-65), 3) := by decide +kernel
theorem dMo_peek_173 : decode kMo_peek.2.1 173 = .ok (.aload_n 0, 1) := by decide +kernel
theorem dMo_peek_174 : decode kMo_peek.2.1 174 = .ok (.aload_n 0, 1) := by decide +kernel
theorem dMo_peek_175 : decode kMo_peek.2.1 175 = .ok (.getfield 36, 3) := by decide +kernel
theorem dMo_peek_178 : decode kMo_peek.2.1 178 = .ok (.aload_n 0, 1) := by decide +kernel
theorem dMo_peek_179 : decode kMo_peek.2.1 179 = .ok (.getfield 27, 3) := by decide +kernel
theorem dMo_peek_182 : decode kMo_peek.2.1 182 = .ok (.isub, 1) := by decide +kernel
theorem dMo_peek_183 : decode kMo_peek.2.1 183 = .ok (.bipush 31, 2) := by decide +kernel
theorem dMo_peek_185 : decode kMo_peek.2.1 185 = .ok (.if_icmp .le 7, 3) := by decide +kernel
theorem dMo_peek_188 : decode kMo_peek.2.1 188 = .ok (.iconst 3, 1) := by decide +kernel
theorem dMo_peek_189 : decode kMo_peek.2.1 189 = .ok (.goto 4, 3) := by decide +kernel
theorem dMo_peek_192 : decode kMo_peek.2.1 192 = .ok (.iconst 1, 1) := by decide +kernel
theorem dMo_peek_193 : decode kMo_peek.2.1 193 = .ok (.putfield 30, 3) := by decide +kernel
theorem dMo_peek_196 : decode kMo_peek.2.1 196 = .ok (.goto 123, 3) := by decide +kernel
theorem dMo_peek_199 : decode kMo_peek.2.1 199 = .ok (.iload_n 1, 1) := by decide +kernel
theorem dMo_peek_200 : decode kMo_peek.2.1 200 = .ok (.invokestatic 196, 3) := by decide +kernel
theorem dMo_peek_203 : decode kMo_peek.2.1 203 = .ok (.ifCond .eq 68, 3) := by decide +kernel
theorem dMo_peek_206 : decode kMo_peek.2.1 206 = .ok (.aload_n 0, 1) := by decide +kernel
theorem dMo_peek_207 : decode kMo_peek.2.1 207 = .ok (.getfield 36, 3) := by decide +kernel
theorem dMo_peek_210 : decode kMo_peek.2.1 210 = .ok (.aload_n 0, 1) := by decide +kernel
theorem dMo_peek_211 : decode kMo_peek.2.1 211 = .ok (.getfield 14, 3) := by decide +kernel
theorem dMo_peek_214 : decode kMo_peek.2.1 214 = .ok (.if_icmp .ge 31, 3) := by decide +kernel
theorem dMo_peek_217 : decode kMo_peek.2.1 217 = .ok (.aload_n 0, 1) := by decide +kernel
theorem dMo_peek_218 : decode kMo_peek.2.1 218 = .ok (.getfield 8, 3) := by decide +kernel
theorem dMo_peek_221 : decode kMo_peek.2.1 221 = .ok (.aload_n 0, 1) := by decide +kernel
theorem dMo_peek_222 : decode kMo_peek.2.1 222 = .ok (.getfield 36, 3) := by decide +kernel
theorem dMo_peek_225 : decode kMo_peek.2.1 225 = .ok (.baload, 1) := by decide +kernel
theorem dMo_peek_226 : decode kMo_peek.2.1 226 = .ok (.invokestatic 196, 3) := by decide +kernel
theorem dMo_peek_229 : decode kMo_peek.2.1 229 = .ok (.ifCond .eq 16, 3) := by decide +kernel
theorem dMo_peek_232 : decode kMo_peek.2.1 232 = .ok (.aload_n 0, 1) := by decide +kernel
theorem dMo_peek_233 : decode kMo_peek.2.1 233 = .ok (.dup, 1) := by decide +kernel
theorem dMo_peek_234 : decode kMo_peek.2.1 234 = .ok (.getfield 36, 3) := by decide +kernel
theorem dMo_peek_237 : decode kMo_peek.2.1 237 = .ok (.iconst 1, 1) := by decide +kernel
theorem dMo_peek_238 : decode kMo_peek.2.1 238 = .ok (.iadd, 1) := by decide +kernel
theorem dMo_peek_239 : decode kMo_peek.2.1 239 = .ok (.putfield 36, 3) := by decide +kernel
theorem dMo_peek_242 : decode kMo_peek.2.1 242 = .ok (.goto (-36), 3) := by decide +kernel
theorem dMo_peek_245 : decode kMo_peek.2.1 245 = .ok (.aload_n 0, 1) := by decide +kernel
theorem dMo_peek_246 : decode kMo_peek.2.1 246 = .ok (.aload_n 0, 1) := by decide +kernel
theorem dMo_peek_247 : decode kMo_peek.2.1 247 = .ok (.getfield 36, 3) := by decide +kernel
theorem dMo_peek_250 : decode kMo_peek.2.1 250 = .ok (.aload_n 0, 1) := by decide +kernel
theorem dMo_peek_251 : decode kMo_peek.2.1 251 = .ok (.getfield 27, 3) := by decide +kernel
theorem dMo_peek_254 : decode kMo_peek.2.1 254 = .ok (.isub, 1) := by decide +kernel
theorem dMo_peek_255 : decode kMo_peek.2.1 255 = .ok (.bipush 9, 2) := by decide +kernel
theorem dMo_peek_257 : decode kMo_peek.2.1 257 = .ok (.if_icmp .le 7, 3) := by decide +kernel
theorem dMo_peek_260 : decode kMo_peek.2.1 260 = .ok (.iconst 3, 1) := by decide +kernel
theorem dMo_peek_261 : decode kMo_peek.2.1 261 = .ok (.goto 4, 3) := by decide +kernel
theorem dMo_peek_264 : decode kMo_peek.2.1 264 = .ok (.iconst 2, 1) := by decide +kernel
theorem dMo_peek_265 : decode kMo_peek.2.1 265 = .ok (.putfield 30, 3) := by decide +kernel
theorem dMo_peek_268 : decode kMo_peek.2.1 268 = .ok (.goto 51, 3) := by decide +kernel
theorem dMo_peek_271 : decode kMo_peek.2.1 271 = .ok (.aload_n 0, 1) := by decide +kernel
theorem dMo_peek_272 : decode kMo_peek.2.1 272 = .ok (.aload_n 0, 1) := by decide +kernel
theorem dMo_peek_273 : decode kMo_peek.2.1 273 = .ok (.getfield 27, 3) := by decide +kernel
theorem dMo_peek_276 : decode kMo_peek.2.1 276 = .ok (.iconst 1, 1) := by decide +kernel
theorem dMo_peek_277 : decode kMo_peek.2.1 277 = .ok (.iadd, 1) := by decide +kernel
theorem dMo_peek_278 : decode kMo_peek.2.1 278 = .ok (.putfield 36, 3) := by decide +kernel
theorem dMo_peek_281 : decode kMo_peek.2.1 281 = .ok (.aload_n 0, 1) := by decide +kernel
theorem dMo_peek_282 : decode kMo_peek.2.1 282 = .ok (.iload_n 1, 1) := by decide +kernel
theorem dMo_peek_283 : decode kMo_peek.2.1 283 = .ok (.aload_n 0, 1) := by decide +kernel
theorem dMo_peek_284 : decode kMo_peek.2.1 284 = .ok (.aload_n 0, 1) := by decide +kernel
theorem dMo_peek_285 : decode kMo_peek.2.1 285 = .ok (.getfield 27, 3) := by decide +kernel
theorem dMo_peek_288 : decode kMo_peek.2.1 288 = .ok (.iconst 1, 1) := by decide +kernel
theorem dMo_peek_289 : decode kMo_peek.2.1 289 = .ok (.iadd, 1) := by decide +kernel
theorem dMo_peek_290 : decode kMo_peek.2.1 290 = .ok (.invokevirtual 199, 3) := by decide +kernel
theorem dMo_peek_293 : decode kMo_peek.2.1 293 = .ok (.invokestatic 203, 3) := by decide +kernel
theorem dMo_peek_296 : decode kMo_peek.2.1 296 = .ok (.putfield 30, 3) := by decide +kernel
theorem dMo_peek_299 : decode kMo_peek.2.1 299 = .ok (.aload_n 0, 1) := by decide +kernel
theorem dMo_peek_300 : decode kMo_peek.2.1 300 = .ok (.getfield 30, 3) := by decide +kernel
theorem dMo_peek_303 : decode kMo_peek.2.1 303 = .ok (.sipush 299, 3) := by decide +kernel
theorem dMo_peek_306 : decode kMo_peek.2.1 306 = .ok (.if_icmp .le 13, 3) := by decide +kernel
theorem dMo_peek_309 : decode kMo_peek.2.1 309 = .ok (.aload_n 0, 1) := by decide +kernel
theorem dMo_peek_310 : decode kMo_peek.2.1 310 = .ok (.dup, 1) := by decide +kernel
theorem dMo_peek_311 : decode kMo_peek.2.1 311 = .ok (.getfield 36, 3) := by decide +kernel
theorem dMo_peek_314 : decode kMo_peek.2.1 314 = .ok (.iconst 1, 1) := by decide +kernel
theorem dMo_peek_315 : decode kMo_peek.2.1 315 = .ok (.iadd, 1) := by decide +kernel
theorem dMo_peek_316 : decode kMo_peek.2.1 316 = .ok (.putfield 36, 3) := by decide +kernel
theorem dMo_peek_319 : decode kMo_peek.2.1 319 = .ok (.aload_n 0, 1) := by decide +kernel
theorem dMo_peek_320 : decode kMo_peek.2.1 320 = .ok (.getfield 30, 3) := by decide +kernel
theorem dMo_peek_323 : decode kMo_peek.2.1 323 = .ok (.ireturn, 1) := by decide +kernel
theorem dMo_parts_0 : decode kMo_parts.2.1 0 = .ok (.aload_n 0, 1) := by decide +kernel
theorem dMo_parts_1 : decode kMo_parts.2.1 1 = .ok (.getfield 27, 3) := by decide +kernel
theorem dMo_parts_4 : decode kMo_parts.2.1 4 = .ok (.aload_n 0, 1) := by decide +kernel
theorem dMo_parts_5 : decode kMo_parts.2.1 5 = .ok (.getfield 14, 3) := by decide +kernel
theorem dMo_parts_8 : decode kMo_parts.2.1 8 = .ok (.if_icmp .ge 98, 3) := by decide +kernel
theorem dMo_parts_11 : decode kMo_parts.2.1 11 = .ok (.aload_n 0, 1) := by decide +kernel
theorem dMo_parts_12 : decode kMo_parts.2.1 12 = .ok (.getfield 8, 3) := by decide +kernel
theorem dMo_parts_15 : decode kMo_parts.2.1 15 = .ok (.aload_n 0, 1) := by decide +kernel
theorem dMo_parts_16 : decode kMo_parts.2.1 16 = .ok (.getfield 27, 3) := by decide +kernel
theorem dMo_parts_19 : decode kMo_parts.2.1 19 = .ok (.baload, 1) := by decide +kernel
theorem dMo_parts_20 : decode kMo_parts.2.1 20 = .ok (.istore_n 1, 1) := by decide +kernel
theorem dMo_parts_21 : decode kMo_parts.2.1 21 = .ok (.iload_n 1, 1) := by decide +kernel
theorem dMo_parts_22 : decode kMo_parts.2.1 22 = .ok (.bipush 35, 2) := by decide +kernel
theorem dMo_parts_24 : decode kMo_parts.2.1 24 = .ok (.if_icmp .ne 41, 3) := by decide +kernel
theorem dMo_parts_27 : decode kMo_parts.2.1 27 = .ok (.aload_n 0, 1) := by decide +kernel
theorem dMo_parts_28 : decode kMo_parts.2.1 28 = .ok (.getfield 27, 3) := by decide +kernel
theorem dMo_parts_31 : decode kMo_parts.2.1 31 = .ok (.aload_n 0, 1) := by decide +kernel
theorem dMo_parts_32 : decode kMo_parts.2.1 32 = .ok (.getfield 14, 3) := by decide +kernel
theorem dMo_parts_35 : decode kMo_parts.2.1 35 = .ok (.if_icmp .ge 68, 3) := by decide +kernel
theorem dMo_parts_38 : decode kMo_parts.2.1 38 = .ok (.aload_n 0, 1) := by decide +kernel
theorem dMo_parts_39 : decode kMo_parts.2.1 39 = .ok (.getfield 8, 3) := by decide +kernel
theorem dMo_parts_42 : decode kMo_parts.2.1 42 = .ok (.aload_n 0, 1) := by decide +kernel
theorem dMo_parts_43 : decode kMo_parts.2.1 43 = .ok (.getfield 27, 3) := by decide +kernel
theorem dMo_parts_46 : decode kMo_parts.2.1 46 = .ok (.baload, 1) := by decide +kernel
theorem dMo_parts_47 : decode kMo_parts.2.1 47 = .ok (.bipush 10, 2) := by decide +kernel
theorem dMo_parts_49 : decode kMo_parts.2.1 49 = .ok (.if_icmp .eq 54, 3) := by decide +kernel
theorem dMo_parts_52 : decode kMo_parts.2.1 52 = .ok (.aload_n 0, 1) := by decide +kernel
theorem dMo_parts_53 : decode kMo_parts.2.1 53 = .ok (.dup, 1) := by decide +kernel
theorem dMo_parts_54 : decode kMo_parts.2.1 54 = .ok (.getfield 27, 3) := by decide +kernel
theorem dMo_parts_57 : decode kMo_parts.2.1 57 = .ok (.iconst 1, 1) := by decide +kernel
theorem dMo_parts_58 : decode kMo_parts.2.1 58 = .ok (.iadd, 1) := by decide +kernel
theorem dMo_parts_59 : decode kMo_parts.2.1 59 = .ok (.putfield 27, 3) := by decide +kernel
theorem dMo_parts_62 : decode kMo_parts.2.1 62 = .ok (.goto (-35), 3) := by decide +kernel
theorem dMo_parts_65 : decode kMo_parts.2.1 65 = .ok (.iload_n 1, 1) := by decide +kernel
theorem dMo_parts_66 : decode kMo_parts.2.1 66 = .ok (.bipush 32, 2) := by decide +kernel
theorem dMo_parts_68 : decode kMo_parts.2.1 68 = .ok (.if_icmp .eq 21, 3) := by decide +kernel
theorem dMo_parts_71 : decode kMo_parts.2.1 71 = .ok (.iload_n 1, 1) := by decide +kernel
theorem dMo_parts_72 : decode kMo_parts.2.1 72 = .ok (.bipush 9, 2) := by decide +kernel
theorem dMo_parts_74 : decode kMo_parts.2.1 74 = .ok (.if_icmp .eq 15, 3) := by decide +kernel
theorem dMo_parts_77 : decode kMo_parts.2.1 77 = .ok (.iload_n 1, 1) := by decide +kernel
theorem dMo_parts_78 : decode kMo_parts.2.1 78 = .ok (.bipush 10, 2) := by decide +kernel
theorem dMo_parts_80 : decode kMo_parts.2.1 80 = .ok (.if_icmp .eq 9, 3) := by decide +kernel
theorem dMo_parts_83 : decode kMo_parts.2.1 83 = .ok (.iload_n 1, 1) := by decide +kernel
theorem dMo_parts_84 : decode kMo_parts.2.1 84 = .ok (.bipush 13, 2) := by decide +kernel
theorem dMo_parts_86 : decode kMo_parts.2.1 86 = .ok (.if_icmp .ne 16, 3) := by decide +kernel
theorem dMo_parts_89 : decode kMo_parts.2.1 89 = .ok (.aload_n 0, 1) := by decide +kernel
theorem dMo_parts_90 : decode kMo_parts.2.1 90 = .ok (.dup, 1) := by decide +kernel
theorem dMo_parts_91 : decode kMo_parts.2.1 91 = .ok (.getfield 27, 3) := by decide +kernel
theorem dMo_parts_94 : decode kMo_parts.2.1 94 = .ok (.iconst 1, 1) := by decide +kernel
theorem dMo_parts_95 : decode kMo_parts.2.1 95 = .ok (.iadd, 1) := by decide +kernel
theorem dMo_parts_96 : decode kMo_parts.2.1 96 = .ok (.putfield 27, 3) := by decide +kernel
theorem dMo_parts_99 : decode kMo_parts.2.1 99 = .ok (.goto 4, 3) := by decide +kernel
theorem dMo_parts_102 : decode kMo_parts.2.1 102 = .ok (.return_, 1) := by decide +kernel
theorem dMo_parts_103 : decode kMo_parts.2.1 103 = .ok (.goto (-103), 3) := by decide +kernel
theorem dMo_parts_106 : decode kMo_parts.2.1 106 = .ok (.return_, 1) := by decide +kernel
theorem dMo_letter_0 : decode kMo_letter.2.1 0 = .ok (.iload_n 0, 1) := by decide +kernel
theorem dMo_letter_1 : decode kMo_letter.2.1 1 = .ok (.bipush 97, 2) := by decide +kernel
theorem dMo_letter_3 : decode kMo_letter.2.1 3 = .ok (.if_icmp .lt 9, 3) := by decide +kernel
theorem dMo_letter_6 : decode kMo_letter.2.1 6 = .ok (.iload_n 0, 1) := by decide +kernel
theorem dMo_letter_7 : decode kMo_letter.2.1 7 = .ok (.bipush 122, 2) := by decide +kernel
theorem dMo_letter_9 : decode kMo_letter.2.1 9 = .ok (.if_icmp .le 15, 3) := by decide +kernel
theorem dMo_letter_12 : decode kMo_letter.2.1 12 = .ok (.iload_n 0, 1) := by decide +kernel
theorem dMo_letter_13 : decode kMo_letter.2.1 13 = .ok (.bipush 65, 2) := by decide +kernel
theorem dMo_letter_15 : decode kMo_letter.2.1 15 = .ok (.if_icmp .lt 13, 3) := by decide +kernel
theorem dMo_letter_18 : decode kMo_letter.2.1 18 = .ok (.iload_n 0, 1) := by decide +kernel
theorem dMo_letter_19 : decode kMo_letter.2.1 19 = .ok (.bipush 90, 2) := by decide +kernel
theorem dMo_letter_21 : decode kMo_letter.2.1 21 = .ok (.if_icmp .gt 7, 3) := by decide +kernel
theorem dMo_letter_24 : decode kMo_letter.2.1 24 = .ok (.iconst 1, 1) := by decide +kernel
theorem dMo_letter_25 : decode kMo_letter.2.1 25 = .ok (.goto 4, 3) := by decide +kernel
theorem dMo_letter_28 : decode kMo_letter.2.1 28 = .ok (.iconst 0, 1) := by decide +kernel
theorem dMo_letter_29 : decode kMo_letter.2.1 29 = .ok (.ireturn, 1) := by decide +kernel
theorem dMo_digit_0 : decode kMo_digit.2.1 0 = .ok (.iload_n 0, 1) := by decide +kernel
theorem dMo_digit_1 : decode kMo_digit.2.1 1 = .ok (.bipush 48, 2) := by decide +kernel
theorem dMo_digit_3 : decode kMo_digit.2.1 3 = .ok (.if_icmp .lt 13, 3) := by decide +kernel
theorem dMo_digit_6 : decode kMo_digit.2.1 6 = .ok (.iload_n 0, 1) := by decide +kernel
theorem dMo_digit_7 : decode kMo_digit.2.1 7 = .ok (.bipush 57, 2) := by decide +kernel
theorem dMo_digit_9 : decode kMo_digit.2.1 9 = .ok (.if_icmp .gt 7, 3) := by decide +kernel
theorem dMo_digit_12 : decode kMo_digit.2.1 12 = .ok (.iconst 1, 1) := by decide +kernel
theorem dMo_digit_13 : decode kMo_digit.2.1 13 = .ok (.goto 4, 3) := by decide +kernel
theorem dMo_digit_16 : decode kMo_digit.2.1 16 = .ok (.iconst 0, 1) := by decide +kernel
theorem dMo_digit_17 : decode kMo_digit.2.1 17 = .ok (.ireturn, 1) := by decide +kernel
theorem dMo_byteAt_0 : decode kMo_byteAt.2.1 0 = .ok (.iload_n 1, 1) := by decide +kernel
theorem dMo_byteAt_1 : decode kMo_byteAt.2.1 1 = .ok (.aload_n 0, 1) := by decide +kernel
theorem dMo_byteAt_2 : decode kMo_byteAt.2.1 2 = .ok (.getfield 14, 3) := by decide +kernel
theorem dMo_byteAt_5 : decode kMo_byteAt.2.1 5 = .ok (.if_icmp .ge 12, 3) := by decide +kernel
theorem dMo_byteAt_8 : decode kMo_byteAt.2.1 8 = .ok (.aload_n 0, 1) := by decide +kernel
theorem dMo_byteAt_9 : decode kMo_byteAt.2.1 9 = .ok (.getfield 8, 3) := by decide +kernel
theorem dMo_byteAt_12 : decode kMo_byteAt.2.1 12 = .ok (.iload_n 1, 1) := by decide +kernel
theorem dMo_byteAt_13 : decode kMo_byteAt.2.1 13 = .ok (.baload, 1) := by decide +kernel
theorem dMo_byteAt_14 : decode kMo_byteAt.2.1 14 = .ok (.goto 4, 3) := by decide +kernel
theorem dMo_byteAt_17 : decode kMo_byteAt.2.1 17 = .ok (.iconst 0, 1) := by decide +kernel
theorem dMo_byteAt_18 : decode kMo_byteAt.2.1 18 = .ok (.ireturn, 1) := by decide +kernel
theorem dMo_sign_0 : decode kMo_sign.2.1 0 = .ok (.iload_n 0, 1) := by decide +kernel
theorem dMo_sign_1 : decode kMo_sign.2.1 1 = .ok (.lookupswitch 295 #[(33, 187), (38, 253), (40, 171), (41, 171), (42, 171), (43, 171), (45, 281), (58, 171), (59, 171), (60, 201), (61, 173), (62, 227), (63, 171), (91, 171), (93, 171), (94, 171), (123, 171), (124, 267), (125, 171), (126, 171)], 171) := by decide +kernel
theorem dMo_sign_172 : decode kMo_sign.2.1 172 = .ok (.iload_n 0, 1) := by decide +kernel
theorem dMo_sign_173 : decode kMo_sign.2.1 173 = .ok (.ireturn, 1) := by decide +kernel
theorem dMo_sign_174 : decode kMo_sign.2.1 174 = .ok (.iload_n 1, 1) := by decide +kernel
theorem dMo_sign_175 : decode kMo_sign.2.1 175 = .ok (.bipush 61, 2) := by decide +kernel
theorem dMo_sign_177 : decode kMo_sign.2.1 177 = .ok (.if_icmp .ne 9, 3) := by decide +kernel
theorem dMo_sign_180 : decode kMo_sign.2.1 180 = .ok (.sipush 300, 3) := by decide +kernel
theorem dMo_sign_183 : decode kMo_sign.2.1 183 = .ok (.goto 4, 3) := by decide +kernel
theorem dMo_sign_186 : decode kMo_sign.2.1 186 = .ok (.iload_n 0, 1) := by decide +kernel
theorem dMo_sign_187 : decode kMo_sign.2.1 187 = .ok (.ireturn, 1) := by decide +kernel
theorem dMo_sign_188 : decode kMo_sign.2.1 188 = .ok (.iload_n 1, 1) := by decide +kernel
theorem dMo_sign_189 : decode kMo_sign.2.1 189 = .ok (.bipush 61, 2) := by decide +kernel
theorem dMo_sign_191 : decode kMo_sign.2.1 191 = .ok (.if_icmp .ne 9, 3) := by decide +kernel
theorem dMo_sign_194 : decode kMo_sign.2.1 194 = .ok (.sipush 301, 3) := by decide +kernel
theorem dMo_sign_197 : decode kMo_sign.2.1 197 = .ok (.goto 4, 3) := by decide +kernel
theorem dMo_sign_200 : decode kMo_sign.2.1 200 = .ok (.iload_n 0, 1) := by decide +kernel
theorem dMo_sign_201 : decode kMo_sign.2.1 201 = .ok (.ireturn, 1) := by decide +kernel
theorem dMo_sign_202 : decode kMo_sign.2.1 202 = .ok (.iload_n 1, 1) := by decide +kernel
theorem dMo_sign_203 : decode kMo_sign.2.1 203 = .ok (.bipush 61, 2) := by decide +kernel
theorem dMo_sign_205 : decode kMo_sign.2.1 205 = .ok (.if_icmp .ne 9, 3) := by decide +kernel
theorem dMo_sign_208 : decode kMo_sign.2.1 208 = .ok (.sipush 302, 3) := by decide +kernel
theorem dMo_sign_211 : decode kMo_sign.2.1 211 = .ok (.goto 16, 3) := by decide +kernel
theorem dMo_sign_214 : decode kMo_sign.2.1 214 = .ok (.iload_n 1, 1) := by decide +kernel
theorem dMo_sign_215 : decode kMo_sign.2.1 215 = .ok (.bipush 60, 2) := by decide +kernel
theorem dMo_sign_217 : decode kMo_sign.2.1 217 = .ok (.if_icmp .ne 9, 3) := by decide +kernel
theorem dMo_sign_220 : decode kMo_sign.2.1 220 = .ok (.sipush 304, 3) := by decide +kernel
theorem dMo_sign_223 : decode kMo_sign.2.1 223 = .ok (.goto 4, 3) := by decide +kernel
theorem dMo_sign_226 : decode kMo_sign.2.1 226 = .ok (.iload_n 0, 1) := by decide +kernel
theorem dMo_sign_227 : decode kMo_sign.2.1 227 = .ok (.ireturn, 1) := by decide +kernel
theorem dMo_sign_228 : decode kMo_sign.2.1 228 = .ok (.iload_n 1, 1) := by decide +kernel
theorem dMo_sign_229 : decode kMo_sign.2.1 229 = .ok (.bipush 61, 2) := by decide +kernel
theorem dMo_sign_231 : decode kMo_sign.2.1 231 = .ok (.if_icmp .ne 9, 3) := by decide +kernel
theorem dMo_sign_234 : decode kMo_sign.2.1 234 = .ok (.sipush 303, 3) := by decide +kernel
theorem dMo_sign_237 : decode kMo_sign.2.1 237 = .ok (.goto 16, 3) := by decide +kernel
theorem dMo_sign_240 : decode kMo_sign.2.1 240 = .ok (.iload_n 1, 1) := by decide +kernel
theorem dMo_sign_241 : decode kMo_sign.2.1 241 = .ok (.bipush 62, 2) := by decide +kernel
theorem dMo_sign_243 : decode kMo_sign.2.1 243 = .ok (.if_icmp .ne 9, 3) := by decide +kernel
theorem dMo_sign_246 : decode kMo_sign.2.1 246 = .ok (.sipush 305, 3) := by decide +kernel
theorem dMo_sign_249 : decode kMo_sign.2.1 249 = .ok (.goto 4, 3) := by decide +kernel
theorem dMo_sign_252 : decode kMo_sign.2.1 252 = .ok (.iload_n 0, 1) := by decide +kernel
theorem dMo_sign_253 : decode kMo_sign.2.1 253 = .ok (.ireturn, 1) := by decide +kernel
theorem dMo_sign_254 : decode kMo_sign.2.1 254 = .ok (.iload_n 1, 1) := by decide +kernel
theorem dMo_sign_255 : decode kMo_sign.2.1 255 = .ok (.bipush 38, 2) := by decide +kernel
theorem dMo_sign_257 : decode kMo_sign.2.1 257 = .ok (.if_icmp .ne 9, 3) := by decide +kernel
theorem dMo_sign_260 : decode kMo_sign.2.1 260 = .ok (.sipush 306, 3) := by decide +kernel
theorem dMo_sign_263 : decode kMo_sign.2.1 263 = .ok (.goto 4, 3) := by decide +kernel
theorem dMo_sign_266 : decode kMo_sign.2.1 266 = .ok (.iload_n 0, 1) := by decide +kernel
theorem dMo_sign_267 : decode kMo_sign.2.1 267 = .ok (.ireturn, 1) := by decide +kernel
theorem dMo_sign_268 : decode kMo_sign.2.1 268 = .ok (.iload_n 1, 1) := by decide +kernel
theorem dMo_sign_269 : decode kMo_sign.2.1 269 = .ok (.bipush 124, 2) := by decide +kernel
theorem dMo_sign_271 : decode kMo_sign.2.1 271 = .ok (.if_icmp .ne 9, 3) := by decide +kernel
theorem dMo_sign_274 : decode kMo_sign.2.1 274 = .ok (.sipush 307, 3) := by decide +kernel
theorem dMo_sign_277 : decode kMo_sign.2.1 277 = .ok (.goto 4, 3) := by decide +kernel
theorem dMo_sign_280 : decode kMo_sign.2.1 280 = .ok (.iload_n 0, 1) := by decide +kernel
theorem dMo_sign_281 : decode kMo_sign.2.1 281 = .ok (.ireturn, 1) := by decide +kernel
theorem dMo_sign_282 : decode kMo_sign.2.1 282 = .ok (.iload_n 1, 1) := by decide +kernel
theorem dMo_sign_283 : decode kMo_sign.2.1 283 = .ok (.bipush 62, 2) := by decide +kernel
theorem dMo_sign_285 : decode kMo_sign.2.1 285 = .ok (.if_icmp .ne 9, 3) := by decide +kernel
theorem dMo_sign_288 : decode kMo_sign.2.1 288 = .ok (.sipush 308, 3) := by decide +kernel
theorem dMo_sign_291 : decode kMo_sign.2.1 291 = .ok (.goto 4, 3) := by decide +kernel
theorem dMo_sign_294 : decode kMo_sign.2.1 294 = .ok (.iload_n 0, 1) := by decide +kernel
theorem dMo_sign_295 : decode kMo_sign.2.1 295 = .ok (.ireturn, 1) := by decide +kernel
theorem dMo_sign_296 : decode kMo_sign.2.1 296 = .ok (.iconst 3, 1) := by decide +kernel
theorem dMo_sign_297 : decode kMo_sign.2.1 297 = .ok (.ireturn, 1) := by decide +kernel
theorem dMo_is_0 : decode kMo_is.2.1 0 = .ok (.aload_n 0, 1) := by decide +kernel
theorem dMo_is_1 : decode kMo_is.2.1 1 = .ok (.invokevirtual 207, 3) := by decide +kernel
theorem dMo_is_4 : decode kMo_is.2.1 4 = .ok (.iconst 1, 1) := by decide +kernel
theorem dMo_is_5 : decode kMo_is.2.1 5 = .ok (.if_icmp .ne 19, 3) := by decide +kernel
theorem dMo_is_8 : decode kMo_is.2.1 8 = .ok (.aload_n 0, 1) := by decide +kernel
theorem dMo_is_9 : decode kMo_is.2.1 9 = .ok (.getfield 36, 3) := by decide +kernel
theorem dMo_is_12 : decode kMo_is.2.1 12 = .ok (.aload_n 0, 1) := by decide +kernel
theorem dMo_is_13 : decode kMo_is.2.1 13 = .ok (.getfield 33, 3) := by decide +kernel
theorem dMo_is_16 : decode kMo_is.2.1 16 = .ok (.isub, 1) := by decide +kernel
theorem dMo_is_17 : decode kMo_is.2.1 17 = .ok (.aload_n 1, 1) := by decide +kernel
theorem dMo_is_18 : decode kMo_is.2.1 18 = .ok (.invokevirtual 218, 3) := by decide +kernel
theorem dMo_is_21 : decode kMo_is.2.1 21 = .ok (.if_icmp .eq 5, 3) := by decide +kernel
theorem dMo_is_24 : decode kMo_is.2.1 24 = .ok (.iconst 0, 1) := by decide +kernel
theorem dMo_is_25 : decode kMo_is.2.1 25 = .ok (.ireturn, 1) := by decide +kernel
theorem dMo_is_26 : decode kMo_is.2.1 26 = .ok (.iconst 0, 1) := by decide +kernel
theorem dMo_is_27 : decode kMo_is.2.1 27 = .ok (.istore_n 2, 1) := by decide +kernel
theorem dMo_is_28 : decode kMo_is.2.1 28 = .ok (.iload_n 2, 1) := by decide +kernel
theorem dMo_is_29 : decode kMo_is.2.1 29 = .ok (.aload_n 1, 1) := by decide +kernel
theorem dMo_is_30 : decode kMo_is.2.1 30 = .ok (.invokevirtual 218, 3) := by decide +kernel
theorem dMo_is_33 : decode kMo_is.2.1 33 = .ok (.if_icmp .ge 30, 3) := by decide +kernel
theorem dMo_is_36 : decode kMo_is.2.1 36 = .ok (.aload_n 0, 1) := by decide +kernel
theorem dMo_is_37 : decode kMo_is.2.1 37 = .ok (.getfield 8, 3) := by decide +kernel
theorem dMo_is_40 : decode kMo_is.2.1 40 = .ok (.aload_n 0, 1) := by decide +kernel
theorem dMo_is_41 : decode kMo_is.2.1 41 = .ok (.getfield 33, 3) := by decide +kernel
theorem dMo_is_44 : decode kMo_is.2.1 44 = .ok (.iload_n 2, 1) := by decide +kernel
theorem dMo_is_45 : decode kMo_is.2.1 45 = .ok (.iadd, 1) := by decide +kernel
theorem dMo_is_46 : decode kMo_is.2.1 46 = .ok (.baload, 1) := by decide +kernel
theorem dMo_is_47 : decode kMo_is.2.1 47 = .ok (.aload_n 1, 1) := by decide +kernel
theorem dMo_is_48 : decode kMo_is.2.1 48 = .ok (.iload_n 2, 1) := by decide +kernel
theorem dMo_is_49 : decode kMo_is.2.1 49 = .ok (.invokevirtual 223, 3) := by decide +kernel
theorem dMo_is_52 : decode kMo_is.2.1 52 = .ok (.if_icmp .eq 5, 3) := by decide +kernel
theorem dMo_is_55 : decode kMo_is.2.1 55 = .ok (.iconst 0, 1) := by decide +kernel
theorem dMo_is_56 : decode kMo_is.2.1 56 = .ok (.ireturn, 1) := by decide +kernel
theorem dMo_is_57 : decode kMo_is.2.1 57 = .ok (.iinc 2 1, 3) := by decide +kernel
theorem dMo_is_60 : decode kMo_is.2.1 60 = .ok (.goto (-32), 3) := by decide +kernel
theorem dMo_is_63 : decode kMo_is.2.1 63 = .ok (.iconst 1, 1) := by decide +kernel
theorem dMo_is_64 : decode kMo_is.2.1 64 = .ok (.ireturn, 1) := by decide +kernel
theorem dMo_reg_0 : decode kMo_reg.2.1 0 = .ok (.aload_n 0, 1) := by decide +kernel
theorem dMo_reg_1 : decode kMo_reg.2.1 1 = .ok (.invokevirtual 215, 3) := by decide +kernel
theorem dMo_reg_4 : decode kMo_reg.2.1 4 = .ok (.aload_n 0, 1) := by decide +kernel
theorem dMo_reg_5 : decode kMo_reg.2.1 5 = .ok (.invokevirtual 322, 3) := by decide +kernel
theorem dMo_reg_8 : decode kMo_reg.2.1 8 = .ok (.istore_n 1, 1) := by decide +kernel
theorem dMo_reg_9 : decode kMo_reg.2.1 9 = .ok (.aload_n 0, 1) := by decide +kernel
theorem dMo_reg_10 : decode kMo_reg.2.1 10 = .ok (.bipush 58, 2) := by decide +kernel
theorem dMo_reg_12 : decode kMo_reg.2.1 12 = .ok (.invokevirtual 277, 3) := by decide +kernel
theorem dMo_reg_15 : decode kMo_reg.2.1 15 = .ok (.aload_n 0, 1) := by decide +kernel
theorem dMo_reg_16 : decode kMo_reg.2.1 16 = .ok (.invokevirtual 207, 3) := by decide +kernel
theorem dMo_reg_19 : decode kMo_reg.2.1 19 = .ok (.iconst 2, 1) := by decide +kernel
theorem dMo_reg_20 : decode kMo_reg.2.1 20 = .ok (.if_icmp .ne 10, 3) := by decide +kernel
theorem dMo_reg_23 : decode kMo_reg.2.1 23 = .ok (.aload_n 0, 1) := by decide +kernel
theorem dMo_reg_24 : decode kMo_reg.2.1 24 = .ok (.getfield 33, 3) := by decide +kernel
theorem dMo_reg_27 : decode kMo_reg.2.1 27 = .ok (.goto 4, 3) := by decide +kernel
theorem dMo_reg_30 : decode kMo_reg.2.1 30 = .ok (.iconst 0, 1) := by decide +kernel
theorem dMo_reg_31 : decode kMo_reg.2.1 31 = .ok (.istore_n 2, 1) := by decide +kernel
theorem dMo_reg_32 : decode kMo_reg.2.1 32 = .ok (.aload_n 0, 1) := by decide +kernel
theorem dMo_reg_33 : decode kMo_reg.2.1 33 = .ok (.iconst 1, 1) := by decide +kernel
theorem dMo_reg_34 : decode kMo_reg.2.1 34 = .ok (.bipush 8, 2) := by decide +kernel
theorem dMo_reg_36 : decode kMo_reg.2.1 36 = .ok (.invokevirtual 294, 3) := by decide +kernel
theorem dMo_reg_39 : decode kMo_reg.2.1 39 = .ok (.istore_n 3, 1) := by decide +kernel
theorem dMo_reg_40 : decode kMo_reg.2.1 40 = .ok (.aload_n 0, 1) := by decide +kernel
theorem dMo_reg_41 : decode kMo_reg.2.1 41 = .ok (.getfield 95, 3) := by decide +kernel
theorem dMo_reg_44 : decode kMo_reg.2.1 44 = .ok (.iload_n 3, 1) := by decide +kernel
theorem dMo_reg_45 : decode kMo_reg.2.1 45 = .ok (.iadd, 1) := by decide +kernel
theorem dMo_reg_46 : decode kMo_reg.2.1 46 = .ok (.bipush 8, 2) := by decide +kernel
theorem dMo_reg_48 : decode kMo_reg.2.1 48 = .ok (.if_icmp .le 13, 3) := by decide +kernel
theorem dMo_reg_51 : decode kMo_reg.2.1 51 = .ok (.new 187, 3) := by decide +kernel
theorem dMo_reg_54 : decode kMo_reg.2.1 54 = .ok (.dup, 1) := by decide +kernel
theorem dMo_reg_55 : decode kMo_reg.2.1 55 = .ok (.iconst 3, 1) := by decide +kernel
theorem dMo_reg_56 : decode kMo_reg.2.1 56 = .ok (.iload_n 2, 1) := by decide +kernel
theorem dMo_reg_57 : decode kMo_reg.2.1 57 = .ok (.invokespecial 189, 3) := by decide +kernel
theorem dMo_reg_60 : decode kMo_reg.2.1 60 = .ok (.athrow, 1) := by decide +kernel
theorem dMo_reg_61 : decode kMo_reg.2.1 61 = .ok (.aload_n 0, 1) := by decide +kernel
theorem dMo_reg_62 : decode kMo_reg.2.1 62 = .ok (.bipush 61, 2) := by decide +kernel
theorem dMo_reg_64 : decode kMo_reg.2.1 64 = .ok (.invokevirtual 277, 3) := by decide +kernel
theorem dMo_reg_67 : decode kMo_reg.2.1 67 = .ok (.aload_n 0, 1) := by decide +kernel
theorem dMo_reg_68 : decode kMo_reg.2.1 68 = .ok (.getfield 68, 3) := by decide +kernel
theorem dMo_reg_71 : decode kMo_reg.2.1 71 = .ok (.aload_n 0, 1) := by decide +kernel
theorem dMo_reg_72 : decode kMo_reg.2.1 72 = .ok (.getfield 83, 3) := by decide +kernel
theorem dMo_reg_75 : decode kMo_reg.2.1 75 = .ok (.aload_n 0, 1) := by decide +kernel
theorem dMo_reg_76 : decode kMo_reg.2.1 76 = .ok (.iconst 0, 1) := by decide +kernel
theorem dMo_reg_77 : decode kMo_reg.2.1 77 = .ok (.iconst 1, 1) := by decide +kernel
theorem dMo_reg_78 : decode kMo_reg.2.1 78 = .ok (.iload_n 3, 1) := by decide +kernel
theorem dMo_reg_79 : decode kMo_reg.2.1 79 = .ok (.ishl, 1) := by decide +kernel
theorem dMo_reg_80 : decode kMo_reg.2.1 80 = .ok (.iconst 1, 1) := by decide +kernel
theorem dMo_reg_81 : decode kMo_reg.2.1 81 = .ok (.isub, 1) := by decide +kernel
theorem dMo_reg_82 : decode kMo_reg.2.1 82 = .ok (.invokevirtual 294, 3) := by decide +kernel
theorem dMo_reg_85 : decode kMo_reg.2.1 85 = .ok (.iastore, 1) := by decide +kernel
theorem dMo_reg_86 : decode kMo_reg.2.1 86 = .ok (.aload_n 0, 1) := by decide +kernel
theorem dMo_reg_87 : decode kMo_reg.2.1 87 = .ok (.getfield 65, 3) := by decide +kernel
theorem dMo_reg_90 : decode kMo_reg.2.1 90 = .ok (.aload_n 0, 1) := by decide +kernel
theorem dMo_reg_91 : decode kMo_reg.2.1 91 = .ok (.getfield 83, 3) := by decide +kernel
theorem dMo_reg_94 : decode kMo_reg.2.1 94 = .ok (.iload_n 3, 1) := by decide +kernel
theorem dMo_reg_95 : decode kMo_reg.2.1 95 = .ok (.iastore, 1) := by decide +kernel
theorem dMo_reg_96 : decode kMo_reg.2.1 96 = .ok (.aload_n 0, 1) := by decide +kernel
theorem dMo_reg_97 : decode kMo_reg.2.1 97 = .ok (.getfield 71, 3) := by decide +kernel
theorem dMo_reg_100 : decode kMo_reg.2.1 100 = .ok (.aload_n 0, 1) := by decide +kernel
theorem dMo_reg_101 : decode kMo_reg.2.1 101 = .ok (.getfield 83, 3) := by decide +kernel
theorem dMo_reg_104 : decode kMo_reg.2.1 104 = .ok (.iconst (-1), 1) := by decide +kernel
theorem dMo_reg_105 : decode kMo_reg.2.1 105 = .ok (.iastore, 1) := by decide +kernel
theorem dMo_reg_106 : decode kMo_reg.2.1 106 = .ok (.aload_n 0, 1) := by decide +kernel
theorem dMo_reg_107 : decode kMo_reg.2.1 107 = .ok (.dup, 1) := by decide +kernel
theorem dMo_reg_108 : decode kMo_reg.2.1 108 = .ok (.getfield 95, 3) := by decide +kernel
theorem dMo_reg_111 : decode kMo_reg.2.1 111 = .ok (.iload_n 3, 1) := by decide +kernel
theorem dMo_reg_112 : decode kMo_reg.2.1 112 = .ok (.iadd, 1) := by decide +kernel
theorem dMo_reg_113 : decode kMo_reg.2.1 113 = .ok (.putfield 95, 3) := by decide +kernel
theorem dMo_reg_116 : decode kMo_reg.2.1 116 = .ok (.aload_n 0, 1) := by decide +kernel
theorem dMo_reg_117 : decode kMo_reg.2.1 117 = .ok (.getfield 56, 3) := by decide +kernel
theorem dMo_reg_120 : decode kMo_reg.2.1 120 = .ok (.iload_n 1, 1) := by decide +kernel
theorem dMo_reg_121 : decode kMo_reg.2.1 121 = .ok (.iconst 1, 1) := by decide +kernel
theorem dMo_reg_122 : decode kMo_reg.2.1 122 = .ok (.iastore, 1) := by decide +kernel
theorem dMo_reg_123 : decode kMo_reg.2.1 123 = .ok (.aload_n 0, 1) := by decide +kernel
theorem dMo_reg_124 : decode kMo_reg.2.1 124 = .ok (.getfield 59, 3) := by decide +kernel
theorem dMo_reg_127 : decode kMo_reg.2.1 127 = .ok (.iload_n 1, 1) := by decide +kernel
theorem dMo_reg_128 : decode kMo_reg.2.1 128 = .ok (.aload_n 0, 1) := by decide +kernel
theorem dMo_reg_129 : decode kMo_reg.2.1 129 = .ok (.dup, 1) := by decide +kernel
theorem dMo_reg_130 : decode kMo_reg.2.1 130 = .ok (.getfield 83, 3) := by decide +kernel
theorem dMo_reg_133 : decode kMo_reg.2.1 133 = .ok (.dup_x1, 1) := by decide +kernel
theorem dMo_reg_134 : decode kMo_reg.2.1 134 = .ok (.iconst 1, 1) := by decide +kernel
theorem dMo_reg_135 : decode kMo_reg.2.1 135 = .ok (.iadd, 1) := by decide +kernel
theorem dMo_reg_136 : decode kMo_reg.2.1 136 = .ok (.putfield 83, 3) := by decide +kernel
theorem dMo_reg_139 : decode kMo_reg.2.1 139 = .ok (.iastore, 1) := by decide +kernel
theorem dMo_reg_140 : decode kMo_reg.2.1 140 = .ok (.return_, 1) := by decide +kernel
theorem dMo_take_0 : decode kMo_take.2.1 0 = .ok (.aload_n 0, 1) := by decide +kernel
theorem dMo_take_1 : decode kMo_take.2.1 1 = .ok (.invokevirtual 207, 3) := by decide +kernel
theorem dMo_take_4 : decode kMo_take.2.1 4 = .ok (.pop, 1) := by decide +kernel
theorem dMo_take_5 : decode kMo_take.2.1 5 = .ok (.aload_n 0, 1) := by decide +kernel
theorem dMo_take_6 : decode kMo_take.2.1 6 = .ok (.aload_n 0, 1) := by decide +kernel
theorem dMo_take_7 : decode kMo_take.2.1 7 = .ok (.getfield 36, 3) := by decide +kernel
theorem dMo_take_10 : decode kMo_take.2.1 10 = .ok (.putfield 27, 3) := by decide +kernel
theorem dMo_take_13 : decode kMo_take.2.1 13 = .ok (.aload_n 0, 1) := by decide +kernel
theorem dMo_take_14 : decode kMo_take.2.1 14 = .ok (.iconst 0, 1) := by decide +kernel
theorem dMo_take_15 : decode kMo_take.2.1 15 = .ok (.putfield 42, 3) := by decide +kernel
theorem dMo_take_18 : decode kMo_take.2.1 18 = .ok (.return_, 1) := by decide +kernel
theorem dMo_declare_0 : decode kMo_declare.2.1 0 = .ok (.aload_n 0, 1) := by decide +kernel
theorem dMo_declare_1 : decode kMo_declare.2.1 1 = .ok (.invokevirtual 207, 3) := by decide +kernel
theorem dMo_declare_4 : decode kMo_declare.2.1 4 = .ok (.iconst 1, 1) := by decide +kernel
theorem dMo_declare_5 : decode kMo_declare.2.1 5 = .ok (.if_icmp .ne 10, 3) := by decide +kernel
theorem dMo_declare_8 : decode kMo_declare.2.1 8 = .ok (.aload_n 0, 1) := by decide +kernel
theorem dMo_declare_9 : decode kMo_declare.2.1 9 = .ok (.invokevirtual 257, 3) := by decide +kernel
theorem dMo_declare_12 : decode kMo_declare.2.1 12 = .ok (.ifCond .eq 8, 3) := by decide +kernel
theorem dMo_declare_15 : decode kMo_declare.2.1 15 = .ok (.aload_n 0, 1) := by decide +kernel
theorem dMo_declare_16 : decode kMo_declare.2.1 16 = .ok (.invokevirtual 211, 3) := by decide +kernel
theorem dMo_declare_19 : decode kMo_declare.2.1 19 = .ok (.athrow, 1) := by decide +kernel
theorem dMo_declare_20 : decode kMo_declare.2.1 20 = .ok (.aload_n 0, 1) := by decide +kernel
theorem dMo_declare_21 : decode kMo_declare.2.1 21 = .ok (.invokevirtual 261, 3) := by decide +kernel
theorem dMo_declare_24 : decode kMo_declare.2.1 24 = .ok (.ifCond .lt 16, 3) := by decide +kernel
theorem dMo_declare_27 : decode kMo_declare.2.1 27 = .ok (.new 187, 3) := by decide +kernel
theorem dMo_declare_30 : decode kMo_declare.2.1 30 = .ok (.dup, 1) := by decide +kernel
theorem dMo_declare_31 : decode kMo_declare.2.1 31 = .ok (.iconst 2, 1) := by decide +kernel
theorem dMo_declare_32 : decode kMo_declare.2.1 32 = .ok (.aload_n 0, 1) := by decide +kernel
theorem dMo_declare_33 : decode kMo_declare.2.1 33 = .ok (.getfield 33, 3) := by decide +kernel
theorem dMo_declare_36 : decode kMo_declare.2.1 36 = .ok (.invokespecial 189, 3) := by decide +kernel
theorem dMo_declare_39 : decode kMo_declare.2.1 39 = .ok (.athrow, 1) := by decide +kernel
theorem dMo_declare_40 : decode kMo_declare.2.1 40 = .ok (.aload_n 0, 1) := by decide +kernel
theorem dMo_declare_41 : decode kMo_declare.2.1 41 = .ok (.getfield 62, 3) := by decide +kernel
theorem dMo_declare_44 : decode kMo_declare.2.1 44 = .ok (.bipush 60, 2) := by decide +kernel
theorem dMo_declare_46 : decode kMo_declare.2.1 46 = .ok (.if_icmp .ne 16, 3) := by decide +kernel
theorem dMo_declare_49 : decode kMo_declare.2.1 49 = .ok (.new 187, 3) := by decide +kernel
theorem dMo_declare_52 : decode kMo_declare.2.1 52 = .ok (.dup, 1) := by decide +kernel
theorem dMo_declare_53 : decode kMo_declare.2.1 53 = .ok (.iconst 4, 1) := by decide +kernel
theorem dMo_declare_54 : decode kMo_declare.2.1 54 = .ok (.aload_n 0, 1) := by decide +kernel
theorem dMo_declare_55 : decode kMo_declare.2.1 55 = .ok (.getfield 33, 3) := by decide +kernel
theorem dMo_declare_58 : decode kMo_declare.2.1 58 = .ok (.invokespecial 189, 3) := by decide +kernel
theorem dMo_declare_61 : decode kMo_declare.2.1 61 = .ok (.athrow, 1) := by decide +kernel
theorem dMo_declare_62 : decode kMo_declare.2.1 62 = .ok (.aload_n 0, 1) := by decide +kernel
theorem dMo_declare_63 : decode kMo_declare.2.1 63 = .ok (.getfield 49, 3) := by decide +kernel
theorem dMo_declare_66 : decode kMo_declare.2.1 66 = .ok (.aload_n 0, 1) := by decide +kernel
theorem dMo_declare_67 : decode kMo_declare.2.1 67 = .ok (.getfield 62, 3) := by decide +kernel
theorem dMo_declare_70 : decode kMo_declare.2.1 70 = .ok (.aload_n 0, 1) := by decide +kernel
theorem dMo_declare_71 : decode kMo_declare.2.1 71 = .ok (.getfield 33, 3) := by decide +kernel
theorem dMo_declare_74 : decode kMo_declare.2.1 74 = .ok (.iastore, 1) := by decide +kernel
theorem dMo_declare_75 : decode kMo_declare.2.1 75 = .ok (.aload_n 0, 1) := by decide +kernel
theorem dMo_declare_76 : decode kMo_declare.2.1 76 = .ok (.getfield 53, 3) := by decide +kernel
theorem dMo_declare_79 : decode kMo_declare.2.1 79 = .ok (.aload_n 0, 1) := by decide +kernel
theorem dMo_declare_80 : decode kMo_declare.2.1 80 = .ok (.getfield 62, 3) := by decide +kernel
theorem dMo_declare_83 : decode kMo_declare.2.1 83 = .ok (.aload_n 0, 1) := by decide +kernel
theorem dMo_declare_84 : decode kMo_declare.2.1 84 = .ok (.getfield 36, 3) := by decide +kernel
theorem dMo_declare_87 : decode kMo_declare.2.1 87 = .ok (.aload_n 0, 1) := by decide +kernel
theorem dMo_declare_88 : decode kMo_declare.2.1 88 = .ok (.getfield 33, 3) := by decide +kernel
theorem dMo_declare_91 : decode kMo_declare.2.1 91 = .ok (.isub, 1) := by decide +kernel
theorem dMo_declare_92 : decode kMo_declare.2.1 92 = .ok (.iastore, 1) := by decide +kernel
theorem dMo_declare_93 : decode kMo_declare.2.1 93 = .ok (.aload_n 0, 1) := by decide +kernel
theorem dMo_declare_94 : decode kMo_declare.2.1 94 = .ok (.getfield 56, 3) := by decide +kernel
theorem dMo_declare_97 : decode kMo_declare.2.1 97 = .ok (.aload_n 0, 1) := by decide +kernel
theorem dMo_declare_98 : decode kMo_declare.2.1 98 = .ok (.getfield 62, 3) := by decide +kernel
theorem dMo_declare_101 : decode kMo_declare.2.1 101 = .ok (.iconst 0, 1) := by decide +kernel
theorem dMo_declare_102 : decode kMo_declare.2.1 102 = .ok (.iastore, 1) := by decide +kernel
theorem dMo_declare_103 : decode kMo_declare.2.1 103 = .ok (.aload_n 0, 1) := by decide +kernel
theorem dMo_declare_104 : decode kMo_declare.2.1 104 = .ok (.invokevirtual 215, 3) := by decide +kernel
theorem dMo_declare_107 : decode kMo_declare.2.1 107 = .ok (.aload_n 0, 1) := by decide +kernel
theorem dMo_declare_108 : decode kMo_declare.2.1 108 = .ok (.dup, 1) := by decide +kernel
theorem dMo_declare_109 : decode kMo_declare.2.1 109 = .ok (.getfield 62, 3) := by decide +kernel
theorem dMo_declare_112 : decode kMo_declare.2.1 112 = .ok (.dup_x1, 1) := by decide +kernel
theorem dMo_declare_113 : decode kMo_declare.2.1 113 = .ok (.iconst 1, 1) := by decide +kernel
theorem dMo_declare_114 : decode kMo_declare.2.1 114 = .ok (.iadd, 1) := by decide +kernel
theorem dMo_declare_115 : decode kMo_declare.2.1 115 = .ok (.putfield 62, 3) := by decide +kernel
theorem dMo_declare_118 : decode kMo_declare.2.1 118 = .ok (.ireturn, 1) := by decide +kernel
theorem dMo_reserved_0 : decode kMo_reserved.2.1 0 = .ok (.aload_n 0, 1) := by decide +kernel
theorem dMo_reserved_1 : decode kMo_reserved.2.1 1 = .ok (.ldc 227, 2) := by decide +kernel
theorem dMo_reserved_3 : decode kMo_reserved.2.1 3 = .ok (.invokevirtual 229, 3) := by decide +kernel
theorem dMo_reserved_6 : decode kMo_reserved.2.1 6 = .ok (.ifCond .ne 120, 3) := by decide +kernel
theorem dMo_reserved_9 : decode kMo_reserved.2.1 9 = .ok (.aload_n 0, 1) := by decide +kernel
theorem dMo_reserved_10 : decode kMo_reserved.2.1 10 = .ok (.ldc 233, 2) := by decide +kernel
theorem dMo_reserved_12 : decode kMo_reserved.2.1 12 = .ok (.invokevirtual 229, 3) := by decide +kernel
theorem dMo_reserved_15 : decode kMo_reserved.2.1 15 = .ok (.ifCond .ne 111, 3) := by decide +kernel
theorem dMo_reserved_18 : decode kMo_reserved.2.1 18 = .ok (.aload_n 0, 1) := by decide +kernel
theorem dMo_reserved_19 : decode kMo_reserved.2.1 19 = .ok (.ldc 235, 2) := by decide +kernel
theorem dMo_reserved_21 : decode kMo_reserved.2.1 21 = .ok (.invokevirtual 229, 3) := by decide +kernel
theorem dMo_reserved_24 : decode kMo_reserved.2.1 24 = .ok (.ifCond .ne 102, 3) := by decide +kernel
theorem dMo_reserved_27 : decode kMo_reserved.2.1 27 = .ok (.aload_n 0, 1) := by decide +kernel
theorem dMo_reserved_28 : decode kMo_reserved.2.1 28 = .ok (.ldc 236, 2) := by decide +kernel
theorem dMo_reserved_30 : decode kMo_reserved.2.1 30 = .ok (.invokevirtual 229, 3) := by decide +kernel
theorem dMo_reserved_33 : decode kMo_reserved.2.1 33 = .ok (.ifCond .ne 93, 3) := by decide +kernel
theorem dMo_reserved_36 : decode kMo_reserved.2.1 36 = .ok (.aload_n 0, 1) := by decide +kernel
theorem dMo_reserved_37 : decode kMo_reserved.2.1 37 = .ok (.ldc 238, 2) := by decide +kernel
theorem dMo_reserved_39 : decode kMo_reserved.2.1 39 = .ok (.invokevirtual 229, 3) := by decide +kernel
theorem dMo_reserved_42 : decode kMo_reserved.2.1 42 = .ok (.ifCond .ne 84, 3) := by decide +kernel
theorem dMo_reserved_45 : decode kMo_reserved.2.1 45 = .ok (.aload_n 0, 1) := by decide +kernel
theorem dMo_reserved_46 : decode kMo_reserved.2.1 46 = .ok (.ldc 239, 2) := by decide +kernel
theorem dMo_reserved_48 : decode kMo_reserved.2.1 48 = .ok (.invokevirtual 229, 3) := by decide +kernel
theorem dMo_reserved_51 : decode kMo_reserved.2.1 51 = .ok (.ifCond .ne 75, 3) := by decide +kernel
theorem dMo_reserved_54 : decode kMo_reserved.2.1 54 = .ok (.aload_n 0, 1) := by decide +kernel
theorem dMo_reserved_55 : decode kMo_reserved.2.1 55 = .ok (.ldc 241, 2) := by decide +kernel
theorem dMo_reserved_57 : decode kMo_reserved.2.1 57 = .ok (.invokevirtual 229, 3) := by decide +kernel
theorem dMo_reserved_60 : decode kMo_reserved.2.1 60 = .ok (.ifCond .ne 66, 3) := by decide +kernel
theorem dMo_reserved_63 : decode kMo_reserved.2.1 63 = .ok (.aload_n 0, 1) := by decide +kernel
theorem dMo_reserved_64 : decode kMo_reserved.2.1 64 = .ok (.ldc 243, 2) := by decide +kernel
theorem dMo_reserved_66 : decode kMo_reserved.2.1 66 = .ok (.invokevirtual 229, 3) := by decide +kernel
theorem dMo_reserved_69 : decode kMo_reserved.2.1 69 = .ok (.ifCond .ne 57, 3) := by decide +kernel
theorem dMo_reserved_72 : decode kMo_reserved.2.1 72 = .ok (.aload_n 0, 1) := by decide +kernel
theorem dMo_reserved_73 : decode kMo_reserved.2.1 73 = .ok (.ldc 245, 2) := by decide +kernel
theorem dMo_reserved_75 : decode kMo_reserved.2.1 75 = .ok (.invokevirtual 229, 3) := by decide +kernel
theorem dMo_reserved_78 : decode kMo_reserved.2.1 78 = .ok (.ifCond .ne 48, 3) := by decide +kernel
theorem dMo_reserved_81 : decode kMo_reserved.2.1 81 = .ok (.aload_n 0, 1) := by decide +kernel
theorem dMo_reserved_82 : decode kMo_reserved.2.1 82 = .ok (.ldc 247, 2) := by decide +kernel
theorem dMo_reserved_84 : decode kMo_reserved.2.1 84 = .ok (.invokevirtual 229, 3) := by decide +kernel
theorem dMo_reserved_87 : decode kMo_reserved.2.1 87 = .ok (.ifCond .ne 39, 3) := by decide +kernel
theorem dMo_reserved_90 : decode kMo_reserved.2.1 90 = .ok (.aload_n 0, 1) := by decide +kernel
theorem dMo_reserved_91 : decode kMo_reserved.2.1 91 = .ok (.ldc 249, 2) := by decide +kernel
theorem dMo_reserved_93 : decode kMo_reserved.2.1 93 = .ok (.invokevirtual 229, 3) := by decide +kernel
theorem dMo_reserved_96 : decode kMo_reserved.2.1 96 = .ok (.ifCond .ne 30, 3) := by decide +kernel
theorem dMo_reserved_99 : decode kMo_reserved.2.1 99 = .ok (.aload_n 0, 1) := by decide +kernel
theorem dMo_reserved_100 : decode kMo_reserved.2.1 100 = .ok (.ldc 251, 2) := by decide +kernel
theorem dMo_reserved_102 : decode kMo_reserved.2.1 102 = .ok (.invokevirtual 229, 3) := by decide +kernel
theorem dMo_reserved_105 : decode kMo_reserved.2.1 105 = .ok (.ifCond .ne 21, 3) := by decide +kernel
theorem dMo_reserved_108 : decode kMo_reserved.2.1 108 = .ok (.aload_n 0, 1) := by decide +kernel
theorem dMo_reserved_109 : decode kMo_reserved.2.1 109 = .ok (.ldc 253, 2) := by decide +kernel
theorem dMo_reserved_111 : decode kMo_reserved.2.1 111 = .ok (.invokevirtual 229, 3) := by decide +kernel
theorem dMo_reserved_114 : decode kMo_reserved.2.1 114 = .ok (.ifCond .ne 12, 3) := by decide +kernel
theorem dMo_reserved_117 : decode kMo_reserved.2.1 117 = .ok (.aload_n 0, 1) := by decide +kernel
theorem dMo_reserved_118 : decode kMo_reserved.2.1 118 = .ok (.ldc 255, 2) := by decide +kernel
theorem dMo_reserved_120 : decode kMo_reserved.2.1 120 = .ok (.invokevirtual 229, 3) := by decide +kernel
theorem dMo_reserved_123 : decode kMo_reserved.2.1 123 = .ok (.ifCond .eq 7, 3) := by decide +kernel
theorem dMo_reserved_126 : decode kMo_reserved.2.1 126 = .ok (.iconst 1, 1) := by decide +kernel
theorem dMo_reserved_127 : decode kMo_reserved.2.1 127 = .ok (.goto 4, 3) := by decide +kernel
theorem dMo_reserved_130 : decode kMo_reserved.2.1 130 = .ok (.iconst 0, 1) := by decide +kernel
theorem dMo_reserved_131 : decode kMo_reserved.2.1 131 = .ok (.ireturn, 1) := by decide +kernel
theorem dMo_cant_0 : decode kMo_cant.2.1 0 = .ok (.aload_n 0, 1) := by decide +kernel
theorem dMo_cant_1 : decode kMo_cant.2.1 1 = .ok (.invokevirtual 207, 3) := by decide +kernel
theorem dMo_cant_4 : decode kMo_cant.2.1 4 = .ok (.pop, 1) := by decide +kernel
theorem dMo_cant_5 : decode kMo_cant.2.1 5 = .ok (.new 187, 3) := by decide +kernel
theorem dMo_cant_8 : decode kMo_cant.2.1 8 = .ok (.dup, 1) := by decide +kernel
theorem dMo_cant_9 : decode kMo_cant.2.1 9 = .ok (.iconst 1, 1) := by decide +kernel
theorem dMo_cant_10 : decode kMo_cant.2.1 10 = .ok (.aload_n 0, 1) := by decide +kernel
theorem dMo_cant_11 : decode kMo_cant.2.1 11 = .ok (.getfield 33, 3) := by decide +kernel
theorem dMo_cant_14 : decode kMo_cant.2.1 14 = .ok (.invokespecial 189, 3) := by decide +kernel
theorem dMo_cant_17 : decode kMo_cant.2.1 17 = .ok (.areturn, 1) := by decide +kernel
theorem dMo_named_0 : decode kMo_named.2.1 0 = .ok (.iconst 0, 1) := by decide +kernel
theorem dMo_named_1 : decode kMo_named.2.1 1 = .ok (.istore_n 1, 1) := by decide +kernel
theorem dMo_named_2 : decode kMo_named.2.1 2 = .ok (.iload_n 1, 1) := by decide +kernel
theorem dMo_named_3 : decode kMo_named.2.1 3 = .ok (.aload_n 0, 1) := by decide +kernel
theorem dMo_named_4 : decode kMo_named.2.1 4 = .ok (.getfield 62, 3) := by decide +kernel
theorem dMo_named_7 : decode kMo_named.2.1 7 = .ok (.if_icmp .ge 94, 3) := by decide +kernel
theorem dMo_named_10 : decode kMo_named.2.1 10 = .ok (.aload_n 0, 1) := by decide +kernel
theorem dMo_named_11 : decode kMo_named.2.1 11 = .ok (.getfield 53, 3) := by decide +kernel
theorem dMo_named_14 : decode kMo_named.2.1 14 = .ok (.iload_n 1, 1) := by decide +kernel
theorem dMo_named_15 : decode kMo_named.2.1 15 = .ok (.iaload, 1) := by decide +kernel
theorem dMo_named_16 : decode kMo_named.2.1 16 = .ok (.aload_n 0, 1) := by decide +kernel
theorem dMo_named_17 : decode kMo_named.2.1 17 = .ok (.getfield 36, 3) := by decide +kernel
theorem dMo_named_20 : decode kMo_named.2.1 20 = .ok (.aload_n 0, 1) := by decide +kernel
theorem dMo_named_21 : decode kMo_named.2.1 21 = .ok (.getfield 33, 3) := by decide +kernel
theorem dMo_named_24 : decode kMo_named.2.1 24 = .ok (.isub, 1) := by decide +kernel
theorem dMo_named_25 : decode kMo_named.2.1 25 = .ok (.if_icmp .ne 7, 3) := by decide +kernel
theorem dMo_named_28 : decode kMo_named.2.1 28 = .ok (.iconst 1, 1) := by decide +kernel
theorem dMo_named_29 : decode kMo_named.2.1 29 = .ok (.goto 4, 3) := by decide +kernel
theorem dMo_named_32 : decode kMo_named.2.1 32 = .ok (.iconst 0, 1) := by decide +kernel
theorem dMo_named_33 : decode kMo_named.2.1 33 = .ok (.istore_n 2, 1) := by decide +kernel
theorem dMo_named_34 : decode kMo_named.2.1 34 = .ok (.iconst 0, 1) := by decide +kernel
theorem dMo_named_35 : decode kMo_named.2.1 35 = .ok (.istore_n 3, 1) := by decide +kernel
theorem dMo_named_36 : decode kMo_named.2.1 36 = .ok (.iload_n 2, 1) := by decide +kernel
theorem dMo_named_37 : decode kMo_named.2.1 37 = .ok (.ifCond .eq 52, 3) := by decide +kernel
theorem dMo_named_40 : decode kMo_named.2.1 40 = .ok (.iload_n 3, 1) := by decide +kernel
theorem dMo_named_41 : decode kMo_named.2.1 41 = .ok (.aload_n 0, 1) := by decide +kernel
theorem dMo_named_42 : decode kMo_named.2.1 42 = .ok (.getfield 53, 3) := by decide +kernel
theorem dMo_named_45 : decode kMo_named.2.1 45 = .ok (.iload_n 1, 1) := by decide +kernel
theorem dMo_named_46 : decode kMo_named.2.1 46 = .ok (.iaload, 1) := by decide +kernel
theorem dMo_named_47 : decode kMo_named.2.1 47 = .ok (.if_icmp .ge 42, 3) := by decide +kernel
theorem dMo_named_50 : decode kMo_named.2.1 50 = .ok (.aload_n 0, 1) := by decide +kernel
theorem dMo_named_51 : decode kMo_named.2.1 51 = .ok (.getfield 8, 3) := by decide +kernel
theorem dMo_named_54 : decode kMo_named.2.1 54 = .ok (.aload_n 0, 1) := by decide +kernel
theorem dMo_named_55 : decode kMo_named.2.1 55 = .ok (.getfield 49, 3) := by decide +kernel
theorem dMo_named_58 : decode kMo_named.2.1 58 = .ok (.iload_n 1, 1) := by decide +kernel
theorem dMo_named_59 : decode kMo_named.2.1 59 = .ok (.iaload, 1) := by decide +kernel
theorem dMo_named_60 : decode kMo_named.2.1 60 = .ok (.iload_n 3, 1) := by decide +kernel
theorem dMo_named_61 : decode kMo_named.2.1 61 = .ok (.iadd, 1) := by decide +kernel
theorem dMo_named_62 : decode kMo_named.2.1 62 = .ok (.baload, 1) := by decide +kernel
theorem dMo_named_63 : decode kMo_named.2.1 63 = .ok (.aload_n 0, 1) := by decide +kernel
theorem dMo_named_64 : decode kMo_named.2.1 64 = .ok (.getfield 8, 3) := by decide +kernel
theorem dMo_named_67 : decode kMo_named.2.1 67 = .ok (.aload_n 0, 1) := by decide +kernel
theorem dMo_named_68 : decode kMo_named.2.1 68 = .ok (.getfield 33, 3) := by decide +kernel
theorem dMo_named_71 : decode kMo_named.2.1 71 = .ok (.iload_n 3, 1) := by decide +kernel
theorem dMo_named_72 : decode kMo_named.2.1 72 = .ok (.iadd, 1) := by decide +kernel
theorem dMo_named_73 : decode kMo_named.2.1 73 = .ok (.baload, 1) := by decide +kernel
theorem dMo_named_74 : decode kMo_named.2.1 74 = .ok (.if_icmp .ne 7, 3) := by decide +kernel
theorem dMo_named_77 : decode kMo_named.2.1 77 = .ok (.iconst 1, 1) := by decide +kernel
theorem dMo_named_78 : decode kMo_named.2.1 78 = .ok (.goto 4, 3) := by decide +kernel
theorem dMo_named_81 : decode kMo_named.2.1 81 = .ok (.iconst 0, 1) := by decide +kernel
theorem dMo_named_82 : decode kMo_named.2.1 82 = .ok (.istore_n 2, 1) := by decide +kernel
theorem dMo_named_83 : decode kMo_named.2.1 83 = .ok (.iinc 3 1, 3) := by decide +kernel
theorem dMo_named_86 : decode kMo_named.2.1 86 = .ok (.goto (-50), 3) := by decide +kernel
theorem dMo_named_89 : decode kMo_named.2.1 89 = .ok (.iload_n 2, 1) := by decide +kernel
theorem dMo_named_90 : decode kMo_named.2.1 90 = .ok (.ifCond .eq 5, 3) := by decide +kernel
theorem dMo_named_93 : decode kMo_named.2.1 93 = .ok (.iload_n 1, 1) := by decide +kernel
theorem dMo_named_94 : decode kMo_named.2.1 94 = .ok (.ireturn, 1) := by decide +kernel
theorem dMo_named_95 : decode kMo_named.2.1 95 = .ok (.iinc 1 1, 3) := by decide +kernel
theorem dMo_named_98 : decode kMo_named.2.1 98 = .ok (.goto (-96), 3) := by decide +kernel
theorem dMo_named_101 : decode kMo_named.2.1 101 = .ok (.iconst (-1), 1) := by decide +kernel
theorem dMo_named_102 : decode kMo_named.2.1 102 = .ok (.ireturn, 1) := by decide +kernel
theorem dMo_must_0 : decode kMo_must.2.1 0 = .ok (.aload_n 0, 1) := by decide +kernel
theorem dMo_must_1 : decode kMo_must.2.1 1 = .ok (.invokevirtual 207, 3) := by decide +kernel
theorem dMo_must_4 : decode kMo_must.2.1 4 = .ok (.iload_n 1, 1) := by decide +kernel
theorem dMo_must_5 : decode kMo_must.2.1 5 = .ok (.if_icmp .eq 8, 3) := by decide +kernel
theorem dMo_must_8 : decode kMo_must.2.1 8 = .ok (.aload_n 0, 1) := by decide +kernel
theorem dMo_must_9 : decode kMo_must.2.1 9 = .ok (.invokevirtual 211, 3) := by decide +kernel
theorem dMo_must_12 : decode kMo_must.2.1 12 = .ok (.athrow, 1) := by decide +kernel
theorem dMo_must_13 : decode kMo_must.2.1 13 = .ok (.aload_n 0, 1) := by decide +kernel
theorem dMo_must_14 : decode kMo_must.2.1 14 = .ok (.invokevirtual 215, 3) := by decide +kernel
theorem dMo_must_17 : decode kMo_must.2.1 17 = .ok (.return_, 1) := by decide +kernel
theorem dMo_number_0 : decode kMo_number.2.1 0 = .ok (.aload_n 0, 1) := by decide +kernel
theorem dMo_number_1 : decode kMo_number.2.1 1 = .ok (.invokevirtual 207, 3) := by decide +kernel
theorem dMo_number_4 : decode kMo_number.2.1 4 = .ok (.iconst 2, 1) := by decide +kernel
theorem dMo_number_5 : decode kMo_number.2.1 5 = .ok (.if_icmp .eq 8, 3) := by decide +kernel
theorem dMo_number_8 : decode kMo_number.2.1 8 = .ok (.aload_n 0, 1) := by decide +kernel
theorem dMo_number_9 : decode kMo_number.2.1 9 = .ok (.invokevirtual 211, 3) := by decide +kernel
theorem dMo_number_12 : decode kMo_number.2.1 12 = .ok (.athrow, 1) := by decide +kernel
theorem dMo_number_13 : decode kMo_number.2.1 13 = .ok (.iconst 0, 1) := by decide +kernel
theorem dMo_number_14 : decode kMo_number.2.1 14 = .ok (.istore_n 3, 1) := by decide +kernel
theorem dMo_number_15 : decode kMo_number.2.1 15 = .ok (.aload_n 0, 1) := by decide +kernel
theorem dMo_number_16 : decode kMo_number.2.1 16 = .ok (.getfield 33, 3) := by decide +kernel
theorem dMo_number_19 : decode kMo_number.2.1 19 = .ok (.istore 4, 2) := by decide +kernel
theorem dMo_number_21 : decode kMo_number.2.1 21 = .ok (.iload 4, 2) := by decide +kernel
theorem dMo_number_23 : decode kMo_number.2.1 23 = .ok (.aload_n 0, 1) := by decide +kernel
theorem dMo_number_24 : decode kMo_number.2.1 24 = .ok (.getfield 36, 3) := by decide +kernel
theorem dMo_number_27 : decode kMo_number.2.1 27 = .ok (.if_icmp .ge 25, 3) := by decide +kernel
theorem dMo_number_30 : decode kMo_number.2.1 30 = .ok (.bipush 10, 2) := by decide +kernel
theorem dMo_number_32 : decode kMo_number.2.1 32 = .ok (.iload_n 3, 1) := by decide +kernel
theorem dMo_number_33 : decode kMo_number.2.1 33 = .ok (.imul, 1) := by decide +kernel
theorem dMo_number_34 : decode kMo_number.2.1 34 = .ok (.aload_n 0, 1) := by decide +kernel
theorem dMo_number_35 : decode kMo_number.2.1 35 = .ok (.getfield 8, 3) := by decide +kernel
theorem dMo_number_38 : decode kMo_number.2.1 38 = .ok (.iload 4, 2) := by decide +kernel
theorem dMo_number_40 : decode kMo_number.2.1 40 = .ok (.baload, 1) := by decide +kernel
theorem dMo_number_41 : decode kMo_number.2.1 41 = .ok (.iadd, 1) := by decide +kernel
theorem dMo_number_42 : decode kMo_number.2.1 42 = .ok (.bipush 48, 2) := by decide +kernel
theorem dMo_number_44 : decode kMo_number.2.1 44 = .ok (.isub, 1) := by decide +kernel
theorem dMo_number_45 : decode kMo_number.2.1 45 = .ok (.istore_n 3, 1) := by decide +kernel
theorem dMo_number_46 : decode kMo_number.2.1 46 = .ok (.iinc 4 1, 3) := by decide +kernel
theorem dMo_number_49 : decode kMo_number.2.1 49 = .ok (.goto (-28), 3) := by decide +kernel
theorem dMo_number_52 : decode kMo_number.2.1 52 = .ok (.iload_n 3, 1) := by decide +kernel
theorem dMo_number_53 : decode kMo_number.2.1 53 = .ok (.iload_n 1, 1) := by decide +kernel
theorem dMo_number_54 : decode kMo_number.2.1 54 = .ok (.if_icmp .lt 8, 3) := by decide +kernel
theorem dMo_number_57 : decode kMo_number.2.1 57 = .ok (.iload_n 3, 1) := by decide +kernel
theorem dMo_number_58 : decode kMo_number.2.1 58 = .ok (.iload_n 2, 1) := by decide +kernel
theorem dMo_number_59 : decode kMo_number.2.1 59 = .ok (.if_icmp .le 16, 3) := by decide +kernel
theorem dMo_number_62 : decode kMo_number.2.1 62 = .ok (.new 187, 3) := by decide +kernel
theorem dMo_number_65 : decode kMo_number.2.1 65 = .ok (.dup, 1) := by decide +kernel
theorem dMo_number_66 : decode kMo_number.2.1 66 = .ok (.iconst 3, 1) := by decide +kernel
theorem dMo_number_67 : decode kMo_number.2.1 67 = .ok (.aload_n 0, 1) := by decide +kernel
theorem dMo_number_68 : decode kMo_number.2.1 68 = .ok (.getfield 33, 3) := by decide +kernel
theorem dMo_number_71 : decode kMo_number.2.1 71 = .ok (.invokespecial 189, 3) := by decide +kernel
theorem dMo_number_74 : decode kMo_number.2.1 74 = .ok (.athrow, 1) := by decide +kernel
theorem dMo_number_75 : decode kMo_number.2.1 75 = .ok (.aload_n 0, 1) := by decide +kernel
theorem dMo_number_76 : decode kMo_number.2.1 76 = .ok (.invokevirtual 215, 3) := by decide +kernel
theorem dMo_number_79 : decode kMo_number.2.1 79 = .ok (.iload_n 3, 1) := by decide +kernel
theorem dMo_number_80 : decode kMo_number.2.1 80 = .ok (.ireturn, 1) := by decide +kernel
theorem dMo_input_0 : decode kMo_input.2.1 0 = .ok (.aload_n 0, 1) := by decide +kernel
theorem dMo_input_1 : decode kMo_input.2.1 1 = .ok (.invokevirtual 215, 3) := by decide +kernel
theorem dMo_input_4 : decode kMo_input.2.1 4 = .ok (.aload_n 0, 1) := by decide +kernel
theorem dMo_input_5 : decode kMo_input.2.1 5 = .ok (.invokevirtual 322, 3) := by decide +kernel
theorem dMo_input_8 : decode kMo_input.2.1 8 = .ok (.istore_n 1, 1) := by decide +kernel
theorem dMo_input_9 : decode kMo_input.2.1 9 = .ok (.aload_n 0, 1) := by decide +kernel
theorem dMo_input_10 : decode kMo_input.2.1 10 = .ok (.bipush 58, 2) := by decide +kernel
theorem dMo_input_12 : decode kMo_input.2.1 12 = .ok (.invokevirtual 277, 3) := by decide +kernel
theorem dMo_input_15 : decode kMo_input.2.1 15 = .ok (.aload_n 0, 1) := by decide +kernel
theorem dMo_input_16 : decode kMo_input.2.1 16 = .ok (.invokevirtual 207, 3) := by decide +kernel
theorem dMo_input_19 : decode kMo_input.2.1 19 = .ok (.iconst 2, 1) := by decide +kernel
theorem dMo_input_20 : decode kMo_input.2.1 20 = .ok (.if_icmp .ne 10, 3) := by decide +kernel
theorem dMo_input_23 : decode kMo_input.2.1 23 = .ok (.aload_n 0, 1) := by decide +kernel
theorem dMo_input_24 : decode kMo_input.2.1 24 = .ok (.getfield 33, 3) := by decide +kernel
theorem dMo_input_27 : decode kMo_input.2.1 27 = .ok (.goto 4, 3) := by decide +kernel
theorem dMo_input_30 : decode kMo_input.2.1 30 = .ok (.iconst 0, 1) := by decide +kernel
theorem dMo_input_31 : decode kMo_input.2.1 31 = .ok (.istore_n 2, 1) := by decide +kernel
theorem dMo_input_32 : decode kMo_input.2.1 32 = .ok (.aload_n 0, 1) := by decide +kernel
theorem dMo_input_33 : decode kMo_input.2.1 33 = .ok (.iconst 1, 1) := by decide +kernel
theorem dMo_input_34 : decode kMo_input.2.1 34 = .ok (.iconst 3, 1) := by decide +kernel
theorem dMo_input_35 : decode kMo_input.2.1 35 = .ok (.invokevirtual 294, 3) := by decide +kernel
theorem dMo_input_38 : decode kMo_input.2.1 38 = .ok (.istore_n 3, 1) := by decide +kernel
theorem dMo_input_39 : decode kMo_input.2.1 39 = .ok (.aload_n 0, 1) := by decide +kernel
theorem dMo_input_40 : decode kMo_input.2.1 40 = .ok (.getfield 98, 3) := by decide +kernel
theorem dMo_input_43 : decode kMo_input.2.1 43 = .ok (.iload_n 3, 1) := by decide +kernel
theorem dMo_input_44 : decode kMo_input.2.1 44 = .ok (.iadd, 1) := by decide +kernel
theorem dMo_input_45 : decode kMo_input.2.1 45 = .ok (.iconst 3, 1) := by decide +kernel
theorem dMo_input_46 : decode kMo_input.2.1 46 = .ok (.if_icmp .le 13, 3) := by decide +kernel
theorem dMo_input_49 : decode kMo_input.2.1 49 = .ok (.new 187, 3) := by decide +kernel
theorem dMo_input_52 : decode kMo_input.2.1 52 = .ok (.dup, 1) := by decide +kernel
theorem dMo_input_53 : decode kMo_input.2.1 53 = .ok (.iconst 3, 1) := by decide +kernel
theorem dMo_input_54 : decode kMo_input.2.1 54 = .ok (.iload_n 2, 1) := by decide +kernel
theorem dMo_input_55 : decode kMo_input.2.1 55 = .ok (.invokespecial 189, 3) := by decide +kernel
theorem dMo_input_58 : decode kMo_input.2.1 58 = .ok (.athrow, 1) := by decide +kernel
theorem dMo_input_59 : decode kMo_input.2.1 59 = .ok (.aload_n 0, 1) := by decide +kernel
theorem dMo_input_60 : decode kMo_input.2.1 60 = .ok (.getfield 74, 3) := by decide +kernel
theorem dMo_input_63 : decode kMo_input.2.1 63 = .ok (.aload_n 0, 1) := by decide +kernel
theorem dMo_input_64 : decode kMo_input.2.1 64 = .ok (.getfield 86, 3) := by decide +kernel
theorem dMo_input_67 : decode kMo_input.2.1 67 = .ok (.iload_n 3, 1) := by decide +kernel
theorem dMo_input_68 : decode kMo_input.2.1 68 = .ok (.iastore, 1) := by decide +kernel
theorem dMo_input_69 : decode kMo_input.2.1 69 = .ok (.aload_n 0, 1) := by decide +kernel
theorem dMo_input_70 : decode kMo_input.2.1 70 = .ok (.dup, 1) := by decide +kernel
theorem dMo_input_71 : decode kMo_input.2.1 71 = .ok (.getfield 98, 3) := by decide +kernel
theorem dMo_input_74 : decode kMo_input.2.1 74 = .ok (.iload_n 3, 1) := by decide +kernel
theorem dMo_input_75 : decode kMo_input.2.1 75 = .ok (.iadd, 1) := by decide +kernel
theorem dMo_input_76 : decode kMo_input.2.1 76 = .ok (.putfield 98, 3) := by decide +kernel
theorem dMo_input_79 : decode kMo_input.2.1 79 = .ok (.aload_n 0, 1) := by decide +kernel
theorem dMo_input_80 : decode kMo_input.2.1 80 = .ok (.getfield 56, 3) := by decide +kernel
theorem dMo_input_83 : decode kMo_input.2.1 83 = .ok (.iload_n 1, 1) := by decide +kernel
theorem dMo_input_84 : decode kMo_input.2.1 84 = .ok (.iconst 2, 1) := by decide +kernel
theorem dMo_input_85 : decode kMo_input.2.1 85 = .ok (.iastore, 1) := by decide +kernel
theorem dMo_input_86 : decode kMo_input.2.1 86 = .ok (.aload_n 0, 1) := by decide +kernel
theorem dMo_input_87 : decode kMo_input.2.1 87 = .ok (.getfield 59, 3) := by decide +kernel
theorem dMo_input_90 : decode kMo_input.2.1 90 = .ok (.iload_n 1, 1) := by decide +kernel
theorem dMo_input_91 : decode kMo_input.2.1 91 = .ok (.aload_n 0, 1) := by decide +kernel
theorem dMo_input_92 : decode kMo_input.2.1 92 = .ok (.dup, 1) := by decide +kernel
theorem dMo_input_93 : decode kMo_input.2.1 93 = .ok (.getfield 86, 3) := by decide +kernel
theorem dMo_input_96 : decode kMo_input.2.1 96 = .ok (.dup_x1, 1) := by decide +kernel
theorem dMo_input_97 : decode kMo_input.2.1 97 = .ok (.iconst 1, 1) := by decide +kernel
theorem dMo_input_98 : decode kMo_input.2.1 98 = .ok (.iadd, 1) := by decide +kernel
theorem dMo_input_99 : decode kMo_input.2.1 99 = .ok (.putfield 86, 3) := by decide +kernel
theorem dMo_input_102 : decode kMo_input.2.1 102 = .ok (.iastore, 1) := by decide +kernel
theorem dMo_input_103 : decode kMo_input.2.1 103 = .ok (.return_, 1) := by decide +kernel
theorem dMo_wire_0 : decode kMo_wire.2.1 0 = .ok (.aload_n 0, 1) := by decide +kernel
theorem dMo_wire_1 : decode kMo_wire.2.1 1 = .ok (.invokevirtual 215, 3) := by decide +kernel
theorem dMo_wire_4 : decode kMo_wire.2.1 4 = .ok (.aload_n 0, 1) := by decide +kernel
theorem dMo_wire_5 : decode kMo_wire.2.1 5 = .ok (.invokevirtual 322, 3) := by decide +kernel
theorem dMo_wire_8 : decode kMo_wire.2.1 8 = .ok (.istore_n 1, 1) := by decide +kernel
theorem dMo_wire_9 : decode kMo_wire.2.1 9 = .ok (.aload_n 0, 1) := by decide +kernel
theorem dMo_wire_10 : decode kMo_wire.2.1 10 = .ok (.bipush 61, 2) := by decide +kernel
theorem dMo_wire_12 : decode kMo_wire.2.1 12 = .ok (.invokevirtual 277, 3) := by decide +kernel
theorem dMo_wire_15 : decode kMo_wire.2.1 15 = .ok (.aload_n 0, 1) := by decide +kernel
theorem dMo_wire_16 : decode kMo_wire.2.1 16 = .ok (.getfield 77, 3) := by decide +kernel
theorem dMo_wire_19 : decode kMo_wire.2.1 19 = .ok (.aload_n 0, 1) := by decide +kernel
theorem dMo_wire_20 : decode kMo_wire.2.1 20 = .ok (.getfield 89, 3) := by decide +kernel
theorem dMo_wire_23 : decode kMo_wire.2.1 23 = .ok (.aload_n 0, 1) := by decide +kernel
theorem dMo_wire_24 : decode kMo_wire.2.1 24 = .ok (.iconst 0, 1) := by decide +kernel
theorem dMo_wire_25 : decode kMo_wire.2.1 25 = .ok (.invokevirtual 274, 3) := by decide +kernel
theorem dMo_wire_28 : decode kMo_wire.2.1 28 = .ok (.iastore, 1) := by decide +kernel
theorem dMo_wire_29 : decode kMo_wire.2.1 29 = .ok (.aload_n 0, 1) := by decide +kernel
theorem dMo_wire_30 : decode kMo_wire.2.1 30 = .ok (.getfield 56, 3) := by decide +kernel
theorem dMo_wire_33 : decode kMo_wire.2.1 33 = .ok (.iload_n 1, 1) := by decide +kernel
theorem dMo_wire_34 : decode kMo_wire.2.1 34 = .ok (.iconst 3, 1) := by decide +kernel
theorem dMo_wire_35 : decode kMo_wire.2.1 35 = .ok (.iastore, 1) := by decide +kernel
theorem dMo_wire_36 : decode kMo_wire.2.1 36 = .ok (.aload_n 0, 1) := by decide +kernel
theorem dMo_wire_37 : decode kMo_wire.2.1 37 = .ok (.getfield 59, 3) := by decide +kernel
theorem dMo_wire_40 : decode kMo_wire.2.1 40 = .ok (.iload_n 1, 1) := by decide +kernel
theorem dMo_wire_41 : decode kMo_wire.2.1 41 = .ok (.aload_n 0, 1) := by decide +kernel
theorem dMo_wire_42 : decode kMo_wire.2.1 42 = .ok (.dup, 1) := by decide +kernel
theorem dMo_wire_43 : decode kMo_wire.2.1 43 = .ok (.getfield 89, 3) := by decide +kernel
theorem dMo_wire_46 : decode kMo_wire.2.1 46 = .ok (.dup_x1, 1) := by decide +kernel
theorem dMo_wire_47 : decode kMo_wire.2.1 47 = .ok (.iconst 1, 1) := by decide +kernel
theorem dMo_wire_48 : decode kMo_wire.2.1 48 = .ok (.iadd, 1) := by decide +kernel
theorem dMo_wire_49 : decode kMo_wire.2.1 49 = .ok (.putfield 89, 3) := by decide +kernel
theorem dMo_wire_52 : decode kMo_wire.2.1 52 = .ok (.iastore, 1) := by decide +kernel
theorem dMo_wire_53 : decode kMo_wire.2.1 53 = .ok (.return_, 1) := by decide +kernel
theorem dMo_expression_0 : decode kMo_expression.2.1 0 = .ok (.aload_n 0, 1) := by decide +kernel
theorem dMo_expression_1 : decode kMo_expression.2.1 1 = .ok (.iconst 0, 1) := by decide +kernel
theorem dMo_expression_2 : decode kMo_expression.2.1 2 = .ok (.iload_n 1, 1) := by decide +kernel
theorem dMo_expression_3 : decode kMo_expression.2.1 3 = .ok (.invokevirtual 264, 3) := by decide +kernel
theorem dMo_expression_6 : decode kMo_expression.2.1 6 = .ok (.istore_n 2, 1) := by decide +kernel
theorem dMo_expression_7 : decode kMo_expression.2.1 7 = .ok (.aload_n 0, 1) := by decide +kernel
theorem dMo_expression_8 : decode kMo_expression.2.1 8 = .ok (.invokevirtual 207, 3) := by decide +kernel
theorem dMo_expression_11 : decode kMo_expression.2.1 11 = .ok (.bipush 63, 2) := by decide +kernel
theorem dMo_expression_13 : decode kMo_expression.2.1 13 = .ok (.if_icmp .eq 5, 3) := by decide +kernel
theorem dMo_expression_16 : decode kMo_expression.2.1 16 = .ok (.iload_n 2, 1) := by decide +kernel
theorem dMo_expression_17 : decode kMo_expression.2.1 17 = .ok (.ireturn, 1) := by decide +kernel
theorem dMo_expression_18 : decode kMo_expression.2.1 18 = .ok (.aload_n 0, 1) := by decide +kernel
theorem dMo_expression_19 : decode kMo_expression.2.1 19 = .ok (.bipush 40, 2) := by decide +kernel
theorem dMo_expression_21 : decode kMo_expression.2.1 21 = .ok (.invokevirtual 267, 3) := by decide +kernel
theorem dMo_expression_24 : decode kMo_expression.2.1 24 = .ok (.aload_n 0, 1) := by decide +kernel
theorem dMo_expression_25 : decode kMo_expression.2.1 25 = .ok (.invokevirtual 215, 3) := by decide +kernel
theorem dMo_expression_28 : decode kMo_expression.2.1 28 = .ok (.aload_n 0, 1) := by decide +kernel
theorem dMo_expression_29 : decode kMo_expression.2.1 29 = .ok (.getfield 110, 3) := by decide +kernel
theorem dMo_expression_32 : decode kMo_expression.2.1 32 = .ok (.iload_n 2, 1) := by decide +kernel
theorem dMo_expression_33 : decode kMo_expression.2.1 33 = .ok (.aload_n 0, 1) := by decide +kernel
theorem dMo_expression_34 : decode kMo_expression.2.1 34 = .ok (.aload_n 0, 1) := by decide +kernel
theorem dMo_expression_35 : decode kMo_expression.2.1 35 = .ok (.iload_n 1, 1) := by decide +kernel
theorem dMo_expression_36 : decode kMo_expression.2.1 36 = .ok (.invokevirtual 271, 3) := by decide +kernel
theorem dMo_expression_39 : decode kMo_expression.2.1 39 = .ok (.invokevirtual 274, 3) := by decide +kernel
theorem dMo_expression_42 : decode kMo_expression.2.1 42 = .ok (.iastore, 1) := by decide +kernel
theorem dMo_expression_43 : decode kMo_expression.2.1 43 = .ok (.aload_n 0, 1) := by decide +kernel
theorem dMo_expression_44 : decode kMo_expression.2.1 44 = .ok (.bipush 58, 2) := by decide +kernel
theorem dMo_expression_46 : decode kMo_expression.2.1 46 = .ok (.invokevirtual 277, 3) := by decide +kernel
theorem dMo_expression_49 : decode kMo_expression.2.1 49 = .ok (.aload_n 0, 1) := by decide +kernel
theorem dMo_expression_50 : decode kMo_expression.2.1 50 = .ok (.getfield 110, 3) := by decide +kernel
theorem dMo_expression_53 : decode kMo_expression.2.1 53 = .ok (.aload_n 0, 1) := by decide +kernel
theorem dMo_expression_54 : decode kMo_expression.2.1 54 = .ok (.getfield 110, 3) := by decide +kernel
theorem dMo_expression_57 : decode kMo_expression.2.1 57 = .ok (.iload_n 2, 1) := by decide +kernel
theorem dMo_expression_58 : decode kMo_expression.2.1 58 = .ok (.iaload, 1) := by decide +kernel
theorem dMo_expression_59 : decode kMo_expression.2.1 59 = .ok (.aload_n 0, 1) := by decide +kernel
theorem dMo_expression_60 : decode kMo_expression.2.1 60 = .ok (.aload_n 0, 1) := by decide +kernel
theorem dMo_expression_61 : decode kMo_expression.2.1 61 = .ok (.iload_n 1, 1) := by decide +kernel
theorem dMo_expression_62 : decode kMo_expression.2.1 62 = .ok (.invokevirtual 271, 3) := by decide +kernel
theorem dMo_expression_65 : decode kMo_expression.2.1 65 = .ok (.invokevirtual 274, 3) := by decide +kernel
theorem dMo_expression_68 : decode kMo_expression.2.1 68 = .ok (.iastore, 1) := by decide +kernel
theorem dMo_expression_69 : decode kMo_expression.2.1 69 = .ok (.aload_n 0, 1) := by decide +kernel
theorem dMo_expression_70 : decode kMo_expression.2.1 70 = .ok (.iconst 4, 1) := by decide +kernel
theorem dMo_expression_71 : decode kMo_expression.2.1 71 = .ok (.iconst 0, 1) := by decide +kernel
theorem dMo_expression_72 : decode kMo_expression.2.1 72 = .ok (.iload_n 2, 1) := by decide +kernel
theorem dMo_expression_73 : decode kMo_expression.2.1 73 = .ok (.invokevirtual 280, 3) := by decide +kernel
theorem dMo_expression_76 : decode kMo_expression.2.1 76 = .ok (.ireturn, 1) := by decide +kernel
theorem dMo_chain_0 : decode kMo_chain.2.1 0 = .ok (.iload_n 1, 1) := by decide +kernel
theorem dMo_chain_1 : decode kMo_chain.2.1 1 = .ok (.bipush 10, 2) := by decide +kernel
theorem dMo_chain_3 : decode kMo_chain.2.1 3 = .ok (.if_icmp .ne 9, 3) := by decide +kernel
theorem dMo_chain_6 : decode kMo_chain.2.1 6 = .ok (.aload_n 0, 1) := by decide +kernel
theorem dMo_chain_7 : decode kMo_chain.2.1 7 = .ok (.iload_n 2, 1) := by decide +kernel
theorem dMo_chain_8 : decode kMo_chain.2.1 8 = .ok (.invokevirtual 284, 3) := by decide +kernel
theorem dMo_chain_11 : decode kMo_chain.2.1 11 = .ok (.ireturn, 1) := by decide +kernel
theorem dMo_chain_12 : decode kMo_chain.2.1 12 = .ok (.aload_n 0, 1) := by decide +kernel
theorem dMo_chain_13 : decode kMo_chain.2.1 13 = .ok (.iload_n 1, 1) := by decide +kernel
theorem dMo_chain_14 : decode kMo_chain.2.1 14 = .ok (.iconst 1, 1) := by decide +kernel
theorem dMo_chain_15 : decode kMo_chain.2.1 15 = .ok (.iadd, 1) := by decide +kernel
theorem dMo_chain_16 : decode kMo_chain.2.1 16 = .ok (.iload_n 2, 1) := by decide +kernel
theorem dMo_chain_17 : decode kMo_chain.2.1 17 = .ok (.invokevirtual 264, 3) := by decide +kernel
theorem dMo_chain_20 : decode kMo_chain.2.1 20 = .ok (.istore_n 3, 1) := by decide +kernel
theorem dMo_chain_21 : decode kMo_chain.2.1 21 = .ok (.iload_n 1, 1) := by decide +kernel
theorem dMo_chain_22 : decode kMo_chain.2.1 22 = .ok (.aload_n 0, 1) := by decide +kernel
theorem dMo_chain_23 : decode kMo_chain.2.1 23 = .ok (.invokevirtual 207, 3) := by decide +kernel
theorem dMo_chain_26 : decode kMo_chain.2.1 26 = .ok (.invokestatic 287, 3) := by decide +kernel
theorem dMo_chain_29 : decode kMo_chain.2.1 29 = .ok (.ifCond .ne 5, 3) := by decide +kernel
theorem dMo_chain_32 : decode kMo_chain.2.1 32 = .ok (.iload_n 3, 1) := by decide +kernel
theorem dMo_chain_33 : decode kMo_chain.2.1 33 = .ok (.ireturn, 1) := by decide +kernel
theorem dMo_chain_34 : decode kMo_chain.2.1 34 = .ok (.iload_n 3, 1) := by decide +kernel
theorem dMo_chain_35 : decode kMo_chain.2.1 35 = .ok (.istore 4, 2) := by decide +kernel
theorem dMo_chain_37 : decode kMo_chain.2.1 37 = .ok (.iload_n 1, 1) := by decide +kernel
theorem dMo_chain_38 : decode kMo_chain.2.1 38 = .ok (.aload_n 0, 1) := by decide +kernel
theorem dMo_chain_39 : decode kMo_chain.2.1 39 = .ok (.invokevirtual 207, 3) := by decide +kernel
theorem dMo_chain_42 : decode kMo_chain.2.1 42 = .ok (.invokestatic 287, 3) := by decide +kernel
theorem dMo_chain_45 : decode kMo_chain.2.1 45 = .ok (.ifCond .eq 56, 3) := by decide +kernel
theorem dMo_chain_48 : decode kMo_chain.2.1 48 = .ok (.aload_n 0, 1) := by decide +kernel
theorem dMo_chain_49 : decode kMo_chain.2.1 49 = .ok (.invokevirtual 207, 3) := by decide +kernel
theorem dMo_chain_52 : decode kMo_chain.2.1 52 = .ok (.istore 5, 2) := by decide +kernel
theorem dMo_chain_54 : decode kMo_chain.2.1 54 = .ok (.aload_n 0, 1) := by decide +kernel
theorem dMo_chain_55 : decode kMo_chain.2.1 55 = .ok (.iload_n 1, 1) := by decide +kernel
theorem dMo_chain_56 : decode kMo_chain.2.1 56 = .ok (.invokestatic 291, 3) := by decide +kernel
theorem dMo_chain_59 : decode kMo_chain.2.1 59 = .ok (.invokevirtual 267, 3) := by decide +kernel
theorem dMo_chain_62 : decode kMo_chain.2.1 62 = .ok (.aload_n 0, 1) := by decide +kernel
theorem dMo_chain_63 : decode kMo_chain.2.1 63 = .ok (.invokevirtual 215, 3) := by decide +kernel
theorem dMo_chain_66 : decode kMo_chain.2.1 66 = .ok (.aload_n 0, 1) := by decide +kernel
theorem dMo_chain_67 : decode kMo_chain.2.1 67 = .ok (.iload_n 1, 1) := by decide +kernel
theorem dMo_chain_68 : decode kMo_chain.2.1 68 = .ok (.iconst 1, 1) := by decide +kernel
theorem dMo_chain_69 : decode kMo_chain.2.1 69 = .ok (.iadd, 1) := by decide +kernel
theorem dMo_chain_70 : decode kMo_chain.2.1 70 = .ok (.iload_n 2, 1) := by decide +kernel
theorem dMo_chain_71 : decode kMo_chain.2.1 71 = .ok (.invokevirtual 264, 3) := by decide +kernel
theorem dMo_chain_74 : decode kMo_chain.2.1 74 = .ok (.istore 6, 2) := by decide +kernel
theorem dMo_chain_76 : decode kMo_chain.2.1 76 = .ok (.aload_n 0, 1) := by decide +kernel
theorem dMo_chain_77 : decode kMo_chain.2.1 77 = .ok (.getfield 113, 3) := by decide +kernel
theorem dMo_chain_80 : decode kMo_chain.2.1 80 = .ok (.iload 6, 2) := by decide +kernel
theorem dMo_chain_82 : decode kMo_chain.2.1 82 = .ok (.iload 5, 2) := by decide +kernel
theorem dMo_chain_84 : decode kMo_chain.2.1 84 = .ok (.iastore, 1) := by decide +kernel
theorem dMo_chain_85 : decode kMo_chain.2.1 85 = .ok (.aload_n 0, 1) := by decide +kernel
theorem dMo_chain_86 : decode kMo_chain.2.1 86 = .ok (.getfield 110, 3) := by decide +kernel
theorem dMo_chain_89 : decode kMo_chain.2.1 89 = .ok (.iload 4, 2) := by decide +kernel
theorem dMo_chain_91 : decode kMo_chain.2.1 91 = .ok (.iload 6, 2) := by decide +kernel
theorem dMo_chain_93 : decode kMo_chain.2.1 93 = .ok (.iastore, 1) := by decide +kernel
theorem dMo_chain_94 : decode kMo_chain.2.1 94 = .ok (.iload 6, 2) := by decide +kernel
theorem dMo_chain_96 : decode kMo_chain.2.1 96 = .ok (.istore 4, 2) := by decide +kernel
theorem dMo_chain_98 : decode kMo_chain.2.1 98 = .ok (.goto (-61), 3) := by decide +kernel
theorem dMo_chain_101 : decode kMo_chain.2.1 101 = .ok (.aload_n 0, 1) := by decide +kernel
theorem dMo_chain_102 : decode kMo_chain.2.1 102 = .ok (.iconst 3, 1) := by decide +kernel
theorem dMo_chain_103 : decode kMo_chain.2.1 103 = .ok (.iconst 0, 1) := by decide +kernel
theorem dMo_chain_104 : decode kMo_chain.2.1 104 = .ok (.iload_n 3, 1) := by decide +kernel
theorem dMo_chain_105 : decode kMo_chain.2.1 105 = .ok (.invokevirtual 280, 3) := by decide +kernel
theorem dMo_chain_108 : decode kMo_chain.2.1 108 = .ok (.ireturn, 1) := by decide +kernel
theorem dMo_unary_0 : decode kMo_unary.2.1 0 = .ok (.aload_n 0, 1) := by decide +kernel
theorem dMo_unary_1 : decode kMo_unary.2.1 1 = .ok (.invokevirtual 207, 3) := by decide +kernel
theorem dMo_unary_4 : decode kMo_unary.2.1 4 = .ok (.istore_n 2, 1) := by decide +kernel
theorem dMo_unary_5 : decode kMo_unary.2.1 5 = .ok (.iload_n 2, 1) := by decide +kernel
theorem dMo_unary_6 : decode kMo_unary.2.1 6 = .ok (.bipush 45, 2) := by decide +kernel
theorem dMo_unary_8 : decode kMo_unary.2.1 8 = .ok (.if_icmp .eq 15, 3) := by decide +kernel
theorem dMo_unary_11 : decode kMo_unary.2.1 11 = .ok (.iload_n 2, 1) := by decide +kernel
theorem dMo_unary_12 : decode kMo_unary.2.1 12 = .ok (.bipush 126, 2) := by decide +kernel
theorem dMo_unary_14 : decode kMo_unary.2.1 14 = .ok (.if_icmp .eq 9, 3) := by decide +kernel
theorem dMo_unary_17 : decode kMo_unary.2.1 17 = .ok (.iload_n 2, 1) := by decide +kernel
theorem dMo_unary_18 : decode kMo_unary.2.1 18 = .ok (.bipush 33, 2) := by decide +kernel
theorem dMo_unary_20 : decode kMo_unary.2.1 20 = .ok (.if_icmp .ne 50, 3) := by decide +kernel
theorem dMo_unary_23 : decode kMo_unary.2.1 23 = .ok (.aload_n 0, 1) := by decide +kernel
theorem dMo_unary_24 : decode kMo_unary.2.1 24 = .ok (.iload_n 2, 1) := by decide +kernel
theorem dMo_unary_25 : decode kMo_unary.2.1 25 = .ok (.bipush 45, 2) := by decide +kernel
theorem dMo_unary_27 : decode kMo_unary.2.1 27 = .ok (.if_icmp .ne 8, 3) := by decide +kernel
theorem dMo_unary_30 : decode kMo_unary.2.1 30 = .ok (.bipush 96, 2) := by decide +kernel
theorem dMo_unary_32 : decode kMo_unary.2.1 32 = .ok (.goto 15, 3) := by decide +kernel
theorem dMo_unary_35 : decode kMo_unary.2.1 35 = .ok (.iload_n 2, 1) := by decide +kernel
theorem dMo_unary_36 : decode kMo_unary.2.1 36 = .ok (.bipush 33, 2) := by decide +kernel
theorem dMo_unary_38 : decode kMo_unary.2.1 38 = .ok (.if_icmp .ne 8, 3) := by decide +kernel
theorem dMo_unary_41 : decode kMo_unary.2.1 41 = .ok (.bipush 24, 2) := by decide +kernel
theorem dMo_unary_43 : decode kMo_unary.2.1 43 = .ok (.goto 4, 3) := by decide +kernel
theorem dMo_unary_46 : decode kMo_unary.2.1 46 = .ok (.iconst 0, 1) := by decide +kernel
theorem dMo_unary_47 : decode kMo_unary.2.1 47 = .ok (.invokevirtual 267, 3) := by decide +kernel
theorem dMo_unary_50 : decode kMo_unary.2.1 50 = .ok (.aload_n 0, 1) := by decide +kernel
theorem dMo_unary_51 : decode kMo_unary.2.1 51 = .ok (.invokevirtual 215, 3) := by decide +kernel
theorem dMo_unary_54 : decode kMo_unary.2.1 54 = .ok (.aload_n 0, 1) := by decide +kernel
theorem dMo_unary_55 : decode kMo_unary.2.1 55 = .ok (.iconst 2, 1) := by decide +kernel
theorem dMo_unary_56 : decode kMo_unary.2.1 56 = .ok (.iload_n 2, 1) := by decide +kernel
theorem dMo_unary_57 : decode kMo_unary.2.1 57 = .ok (.aload_n 0, 1) := by decide +kernel
theorem dMo_unary_58 : decode kMo_unary.2.1 58 = .ok (.aload_n 0, 1) := by decide +kernel
theorem dMo_unary_59 : decode kMo_unary.2.1 59 = .ok (.iload_n 1, 1) := by decide +kernel
theorem dMo_unary_60 : decode kMo_unary.2.1 60 = .ok (.invokevirtual 271, 3) := by decide +kernel
theorem dMo_unary_63 : decode kMo_unary.2.1 63 = .ok (.invokevirtual 284, 3) := by decide +kernel
theorem dMo_unary_66 : decode kMo_unary.2.1 66 = .ok (.invokevirtual 280, 3) := by decide +kernel
theorem dMo_unary_69 : decode kMo_unary.2.1 69 = .ok (.ireturn, 1) := by decide +kernel
theorem dMo_unary_70 : decode kMo_unary.2.1 70 = .ok (.iload_n 2, 1) := by decide +kernel
theorem dMo_unary_71 : decode kMo_unary.2.1 71 = .ok (.bipush 40, 2) := by decide +kernel
theorem dMo_unary_73 : decode kMo_unary.2.1 73 = .ok (.if_icmp .ne 31, 3) := by decide +kernel
theorem dMo_unary_76 : decode kMo_unary.2.1 76 = .ok (.aload_n 0, 1) := by decide +kernel
theorem dMo_unary_77 : decode kMo_unary.2.1 77 = .ok (.invokevirtual 215, 3) := by decide +kernel
theorem dMo_unary_80 : decode kMo_unary.2.1 80 = .ok (.aload_n 0, 1) := by decide +kernel
theorem dMo_unary_81 : decode kMo_unary.2.1 81 = .ok (.aload_n 0, 1) := by decide +kernel
theorem dMo_unary_82 : decode kMo_unary.2.1 82 = .ok (.iload_n 1, 1) := by decide +kernel
theorem dMo_unary_83 : decode kMo_unary.2.1 83 = .ok (.invokevirtual 271, 3) := by decide +kernel
theorem dMo_unary_86 : decode kMo_unary.2.1 86 = .ok (.invokevirtual 274, 3) := by decide +kernel
theorem dMo_unary_89 : decode kMo_unary.2.1 89 = .ok (.istore_n 3, 1) := by decide +kernel
theorem dMo_unary_90 : decode kMo_unary.2.1 90 = .ok (.aload_n 0, 1) := by decide +kernel
theorem dMo_unary_91 : decode kMo_unary.2.1 91 = .ok (.bipush 41, 2) := by decide +kernel
theorem dMo_unary_93 : decode kMo_unary.2.1 93 = .ok (.invokevirtual 277, 3) := by decide +kernel
theorem dMo_unary_96 : decode kMo_unary.2.1 96 = .ok (.aload_n 0, 1) := by decide +kernel
theorem dMo_unary_97 : decode kMo_unary.2.1 97 = .ok (.iconst 3, 1) := by decide +kernel
theorem dMo_unary_98 : decode kMo_unary.2.1 98 = .ok (.iconst 0, 1) := by decide +kernel
theorem dMo_unary_99 : decode kMo_unary.2.1 99 = .ok (.iload_n 3, 1) := by decide +kernel
theorem dMo_unary_100 : decode kMo_unary.2.1 100 = .ok (.invokevirtual 280, 3) := by decide +kernel
theorem dMo_unary_103 : decode kMo_unary.2.1 103 = .ok (.ireturn, 1) := by decide +kernel
theorem dMo_unary_104 : decode kMo_unary.2.1 104 = .ok (.iload_n 2, 1) := by decide +kernel
theorem dMo_unary_105 : decode kMo_unary.2.1 105 = .ok (.iconst 2, 1) := by decide +kernel
theorem dMo_unary_106 : decode kMo_unary.2.1 106 = .ok (.if_icmp .ne 18, 3) := by decide +kernel
theorem dMo_unary_109 : decode kMo_unary.2.1 109 = .ok (.aload_n 0, 1) := by decide +kernel
theorem dMo_unary_110 : decode kMo_unary.2.1 110 = .ok (.iconst 0, 1) := by decide +kernel
theorem dMo_unary_111 : decode kMo_unary.2.1 111 = .ok (.aload_n 0, 1) := by decide +kernel
theorem dMo_unary_112 : decode kMo_unary.2.1 112 = .ok (.iconst 0, 1) := by decide +kernel
theorem dMo_unary_113 : decode kMo_unary.2.1 113 = .ok (.sipush 255, 3) := by decide +kernel
theorem dMo_unary_116 : decode kMo_unary.2.1 116 = .ok (.invokevirtual 294, 3) := by decide +kernel
theorem dMo_unary_119 : decode kMo_unary.2.1 119 = .ok (.iconst (-1), 1) := by decide +kernel
theorem dMo_unary_120 : decode kMo_unary.2.1 120 = .ok (.invokevirtual 280, 3) := by decide +kernel
theorem dMo_unary_123 : decode kMo_unary.2.1 123 = .ok (.ireturn, 1) := by decide +kernel
theorem dMo_unary_124 : decode kMo_unary.2.1 124 = .ok (.iload_n 2, 1) := by decide +kernel
theorem dMo_unary_125 : decode kMo_unary.2.1 125 = .ok (.iconst 1, 1) := by decide +kernel
theorem dMo_unary_126 : decode kMo_unary.2.1 126 = .ok (.if_icmp .ne 10, 3) := by decide +kernel
theorem dMo_unary_129 : decode kMo_unary.2.1 129 = .ok (.aload_n 0, 1) := by decide +kernel
theorem dMo_unary_130 : decode kMo_unary.2.1 130 = .ok (.invokevirtual 257, 3) := by decide +kernel
theorem dMo_unary_133 : decode kMo_unary.2.1 133 = .ok (.ifCond .eq 8, 3) := by decide +kernel
theorem dMo_unary_136 : decode kMo_unary.2.1 136 = .ok (.aload_n 0, 1) := by decide +kernel
theorem dMo_unary_137 : decode kMo_unary.2.1 137 = .ok (.invokevirtual 211, 3) := by decide +kernel
theorem dMo_unary_140 : decode kMo_unary.2.1 140 = .ok (.athrow, 1) := by decide +kernel
theorem dMo_unary_141 : decode kMo_unary.2.1 141 = .ok (.aload_n 0, 1) := by decide +kernel
theorem dMo_unary_142 : decode kMo_unary.2.1 142 = .ok (.invokevirtual 261, 3) := by decide +kernel
theorem dMo_unary_145 : decode kMo_unary.2.1 145 = .ok (.istore_n 3, 1) := by decide +kernel
theorem dMo_unary_146 : decode kMo_unary.2.1 146 = .ok (.iload_n 3, 1) := by decide +kernel
theorem dMo_unary_147 : decode kMo_unary.2.1 147 = .ok (.ifCond .lt 22, 3) := by decide +kernel
theorem dMo_unary_150 : decode kMo_unary.2.1 150 = .ok (.aload_n 0, 1) := by decide +kernel
theorem dMo_unary_151 : decode kMo_unary.2.1 151 = .ok (.getfield 56, 3) := by decide +kernel
theorem dMo_unary_154 : decode kMo_unary.2.1 154 = .ok (.iload_n 3, 1) := by decide +kernel
theorem dMo_unary_155 : decode kMo_unary.2.1 155 = .ok (.iaload, 1) := by decide +kernel
theorem dMo_unary_156 : decode kMo_unary.2.1 156 = .ok (.ifCond .eq 13, 3) := by decide +kernel
theorem dMo_unary_159 : decode kMo_unary.2.1 159 = .ok (.aload_n 0, 1) := by decide +kernel
theorem dMo_unary_160 : decode kMo_unary.2.1 160 = .ok (.getfield 56, 3) := by decide +kernel
theorem dMo_unary_163 : decode kMo_unary.2.1 163 = .ok (.iload_n 3, 1) := by decide +kernel
theorem dMo_unary_164 : decode kMo_unary.2.1 164 = .ok (.iaload, 1) := by decide +kernel
theorem dMo_unary_165 : decode kMo_unary.2.1 165 = .ok (.iconst 4, 1) := by decide +kernel
theorem dMo_unary_166 : decode kMo_unary.2.1 166 = .ok (.if_icmp .ne 16, 3) := by decide +kernel
theorem dMo_unary_169 : decode kMo_unary.2.1 169 = .ok (.new 187, 3) := by decide +kernel
theorem dMo_unary_172 : decode kMo_unary.2.1 172 = .ok (.dup, 1) := by decide +kernel
theorem dMo_unary_173 : decode kMo_unary.2.1 173 = .ok (.iconst 2, 1) := by decide +kernel
theorem dMo_unary_174 : decode kMo_unary.2.1 174 = .ok (.aload_n 0, 1) := by decide +kernel
theorem dMo_unary_175 : decode kMo_unary.2.1 175 = .ok (.getfield 33, 3) := by decide +kernel
theorem dMo_unary_178 : decode kMo_unary.2.1 178 = .ok (.invokespecial 189, 3) := by decide +kernel
theorem dMo_unary_181 : decode kMo_unary.2.1 181 = .ok (.athrow, 1) := by decide +kernel
theorem dMo_unary_182 : decode kMo_unary.2.1 182 = .ok (.aload_n 0, 1) := by decide +kernel
theorem dMo_unary_183 : decode kMo_unary.2.1 183 = .ok (.invokevirtual 215, 3) := by decide +kernel
theorem dMo_unary_186 : decode kMo_unary.2.1 186 = .ok (.aload_n 0, 1) := by decide +kernel
theorem dMo_unary_187 : decode kMo_unary.2.1 187 = .ok (.iconst 1, 1) := by decide +kernel
theorem dMo_unary_188 : decode kMo_unary.2.1 188 = .ok (.iload_n 3, 1) := by decide +kernel
theorem dMo_unary_189 : decode kMo_unary.2.1 189 = .ok (.iconst (-1), 1) := by decide +kernel
theorem dMo_unary_190 : decode kMo_unary.2.1 190 = .ok (.invokevirtual 280, 3) := by decide +kernel
theorem dMo_unary_193 : decode kMo_unary.2.1 193 = .ok (.ireturn, 1) := by decide +kernel
theorem dMo_pays_0 : decode kMo_pays.2.1 0 = .ok (.aload_n 0, 1) := by decide +kernel
theorem dMo_pays_1 : decode kMo_pays.2.1 1 = .ok (.dup, 1) := by decide +kernel
theorem dMo_pays_2 : decode kMo_pays.2.1 2 = .ok (.getfield 46, 3) := by decide +kernel
theorem dMo_pays_5 : decode kMo_pays.2.1 5 = .ok (.iload_n 1, 1) := by decide +kernel
theorem dMo_pays_6 : decode kMo_pays.2.1 6 = .ok (.iadd, 1) := by decide +kernel
theorem dMo_pays_7 : decode kMo_pays.2.1 7 = .ok (.putfield 46, 3) := by decide +kernel
theorem dMo_pays_10 : decode kMo_pays.2.1 10 = .ok (.aload_n 0, 1) := by decide +kernel
theorem dMo_pays_11 : decode kMo_pays.2.1 11 = .ok (.getfield 46, 3) := by decide +kernel
theorem dMo_pays_14 : decode kMo_pays.2.1 14 = .ok (.sipush 3000, 3) := by decide +kernel
theorem dMo_pays_17 : decode kMo_pays.2.1 17 = .ok (.if_icmp .le 16, 3) := by decide +kernel
theorem dMo_pays_20 : decode kMo_pays.2.1 20 = .ok (.new 187, 3) := by decide +kernel
theorem dMo_pays_23 : decode kMo_pays.2.1 23 = .ok (.dup, 1) := by decide +kernel
theorem dMo_pays_24 : decode kMo_pays.2.1 24 = .ok (.iconst 4, 1) := by decide +kernel
theorem dMo_pays_25 : decode kMo_pays.2.1 25 = .ok (.aload_n 0, 1) := by decide +kernel
theorem dMo_pays_26 : decode kMo_pays.2.1 26 = .ok (.getfield 33, 3) := by decide +kernel
theorem dMo_pays_29 : decode kMo_pays.2.1 29 = .ok (.invokespecial 189, 3) := by decide +kernel
theorem dMo_pays_32 : decode kMo_pays.2.1 32 = .ok (.athrow, 1) := by decide +kernel
theorem dMo_pays_33 : decode kMo_pays.2.1 33 = .ok (.return_, 1) := by decide +kernel
theorem dMo_nest_0 : decode kMo_nest.2.1 0 = .ok (.iload_n 1, 1) := by decide +kernel
theorem dMo_nest_1 : decode kMo_nest.2.1 1 = .ok (.bipush 40, 2) := by decide +kernel
theorem dMo_nest_3 : decode kMo_nest.2.1 3 = .ok (.if_icmp .ge 7, 3) := by decide +kernel
theorem dMo_nest_6 : decode kMo_nest.2.1 6 = .ok (.iload_n 1, 1) := by decide +kernel
theorem dMo_nest_7 : decode kMo_nest.2.1 7 = .ok (.iconst 1, 1) := by decide +kernel
theorem dMo_nest_8 : decode kMo_nest.2.1 8 = .ok (.iadd, 1) := by decide +kernel
theorem dMo_nest_9 : decode kMo_nest.2.1 9 = .ok (.ireturn, 1) := by decide +kernel
theorem dMo_nest_10 : decode kMo_nest.2.1 10 = .ok (.aload_n 0, 1) := by decide +kernel
theorem dMo_nest_11 : decode kMo_nest.2.1 11 = .ok (.invokevirtual 207, 3) := by decide +kernel
theorem dMo_nest_14 : decode kMo_nest.2.1 14 = .ok (.pop, 1) := by decide +kernel
theorem dMo_nest_15 : decode kMo_nest.2.1 15 = .ok (.new 187, 3) := by decide +kernel
theorem dMo_nest_18 : decode kMo_nest.2.1 18 = .ok (.dup, 1) := by decide +kernel
theorem dMo_nest_19 : decode kMo_nest.2.1 19 = .ok (.iconst 4, 1) := by decide +kernel
theorem dMo_nest_20 : decode kMo_nest.2.1 20 = .ok (.aload_n 0, 1) := by decide +kernel
theorem dMo_nest_21 : decode kMo_nest.2.1 21 = .ok (.getfield 33, 3) := by decide +kernel
theorem dMo_nest_24 : decode kMo_nest.2.1 24 = .ok (.invokespecial 189, 3) := by decide +kernel
theorem dMo_nest_27 : decode kMo_nest.2.1 27 = .ok (.athrow, 1) := by decide +kernel
theorem dMo_node_0 : decode kMo_node.2.1 0 = .ok (.aload_n 0, 1) := by decide +kernel
theorem dMo_node_1 : decode kMo_node.2.1 1 = .ok (.getfield 101, 3) := by decide +kernel
theorem dMo_node_4 : decode kMo_node.2.1 4 = .ok (.aload_n 0, 1) := by decide +kernel
theorem dMo_node_5 : decode kMo_node.2.1 5 = .ok (.getfield 116, 3) := by decide +kernel
theorem dMo_node_8 : decode kMo_node.2.1 8 = .ok (.iload_n 1, 1) := by decide +kernel
theorem dMo_node_9 : decode kMo_node.2.1 9 = .ok (.iastore, 1) := by decide +kernel
theorem dMo_node_10 : decode kMo_node.2.1 10 = .ok (.aload_n 0, 1) := by decide +kernel
theorem dMo_node_11 : decode kMo_node.2.1 11 = .ok (.getfield 104, 3) := by decide +kernel
theorem dMo_node_14 : decode kMo_node.2.1 14 = .ok (.aload_n 0, 1) := by decide +kernel
theorem dMo_node_15 : decode kMo_node.2.1 15 = .ok (.getfield 116, 3) := by decide +kernel
theorem dMo_node_18 : decode kMo_node.2.1 18 = .ok (.iload_n 2, 1) := by decide +kernel
theorem dMo_node_19 : decode kMo_node.2.1 19 = .ok (.iastore, 1) := by decide +kernel
theorem dMo_node_20 : decode kMo_node.2.1 20 = .ok (.aload_n 0, 1) := by decide +kernel
theorem dMo_node_21 : decode kMo_node.2.1 21 = .ok (.getfield 107, 3) := by decide +kernel
theorem dMo_node_24 : decode kMo_node.2.1 24 = .ok (.aload_n 0, 1) := by decide +kernel
theorem dMo_node_25 : decode kMo_node.2.1 25 = .ok (.getfield 116, 3) := by decide +kernel
theorem dMo_node_28 : decode kMo_node.2.1 28 = .ok (.iload_n 3, 1) := by decide +kernel
theorem dMo_node_29 : decode kMo_node.2.1 29 = .ok (.iastore, 1) := by decide +kernel
theorem dMo_node_30 : decode kMo_node.2.1 30 = .ok (.aload_n 0, 1) := by decide +kernel
theorem dMo_node_31 : decode kMo_node.2.1 31 = .ok (.getfield 110, 3) := by decide +kernel
theorem dMo_node_34 : decode kMo_node.2.1 34 = .ok (.aload_n 0, 1) := by decide +kernel
theorem dMo_node_35 : decode kMo_node.2.1 35 = .ok (.getfield 116, 3) := by decide +kernel
theorem dMo_node_38 : decode kMo_node.2.1 38 = .ok (.iconst (-1), 1) := by decide +kernel
theorem dMo_node_39 : decode kMo_node.2.1 39 = .ok (.iastore, 1) := by decide +kernel
theorem dMo_node_40 : decode kMo_node.2.1 40 = .ok (.aload_n 0, 1) := by decide +kernel
theorem dMo_node_41 : decode kMo_node.2.1 41 = .ok (.dup, 1) := by decide +kernel
theorem dMo_node_42 : decode kMo_node.2.1 42 = .ok (.getfield 116, 3) := by decide +kernel
theorem dMo_node_45 : decode kMo_node.2.1 45 = .ok (.dup_x1, 1) := by decide +kernel
theorem dMo_node_46 : decode kMo_node.2.1 46 = .ok (.iconst 1, 1) := by decide +kernel
theorem dMo_node_47 : decode kMo_node.2.1 47 = .ok (.iadd, 1) := by decide +kernel
theorem dMo_node_48 : decode kMo_node.2.1 48 = .ok (.putfield 116, 3) := by decide +kernel
theorem dMo_node_51 : decode kMo_node.2.1 51 = .ok (.ireturn, 1) := by decide +kernel
theorem dMo_joins_0 : decode kMo_joins.2.1 0 = .ok (.iload_n 0, 1) := by decide +kernel
theorem dMo_joins_1 : decode kMo_joins.2.1 1 = .ok (.tableswitch 203 0 8 #[51, 64, 77, 89, 101, 113, 133, 165, 185], 51) := by decide +kernel
theorem dMo_joins_52 : decode kMo_joins.2.1 52 = .ok (.iload_n 1, 1) := by decide +kernel
theorem dMo_joins_53 : decode kMo_joins.2.1 53 = .ok (.sipush 307, 3) := by decide +kernel
theorem dMo_joins_56 : decode kMo_joins.2.1 56 = .ok (.if_icmp .ne 7, 3) := by decide +kernel
theorem dMo_joins_59 : decode kMo_joins.2.1 59 = .ok (.iconst 1, 1) := by decide +kernel
theorem dMo_joins_60 : decode kMo_joins.2.1 60 = .ok (.goto 4, 3) := by decide +kernel
theorem dMo_joins_63 : decode kMo_joins.2.1 63 = .ok (.iconst 0, 1) := by decide +kernel
theorem dMo_joins_64 : decode kMo_joins.2.1 64 = .ok (.ireturn, 1) := by decide +kernel
theorem dMo_joins_65 : decode kMo_joins.2.1 65 = .ok (.iload_n 1, 1) := by decide +kernel
theorem dMo_joins_66 : decode kMo_joins.2.1 66 = .ok (.sipush 306, 3) := by decide +kernel
theorem dMo_joins_69 : decode kMo_joins.2.1 69 = .ok (.if_icmp .ne 7, 3) := by decide +kernel
theorem dMo_joins_72 : decode kMo_joins.2.1 72 = .ok (.iconst 1, 1) := by decide +kernel
theorem dMo_joins_73 : decode kMo_joins.2.1 73 = .ok (.goto 4, 3) := by decide +kernel
theorem dMo_joins_76 : decode kMo_joins.2.1 76 = .ok (.iconst 0, 1) := by decide +kernel
theorem dMo_joins_77 : decode kMo_joins.2.1 77 = .ok (.ireturn, 1) := by decide +kernel
theorem dMo_joins_78 : decode kMo_joins.2.1 78 = .ok (.iload_n 1, 1) := by decide +kernel
theorem dMo_joins_79 : decode kMo_joins.2.1 79 = .ok (.bipush 124, 2) := by decide +kernel
theorem dMo_joins_81 : decode kMo_joins.2.1 81 = .ok (.if_icmp .ne 7, 3) := by decide +kernel
theorem dMo_joins_84 : decode kMo_joins.2.1 84 = .ok (.iconst 1, 1) := by decide +kernel
theorem dMo_joins_85 : decode kMo_joins.2.1 85 = .ok (.goto 4, 3) := by decide +kernel
theorem dMo_joins_88 : decode kMo_joins.2.1 88 = .ok (.iconst 0, 1) := by decide +kernel
theorem dMo_joins_89 : decode kMo_joins.2.1 89 = .ok (.ireturn, 1) := by decide +kernel
theorem dMo_joins_90 : decode kMo_joins.2.1 90 = .ok (.iload_n 1, 1) := by decide +kernel
theorem dMo_joins_91 : decode kMo_joins.2.1 91 = .ok (.bipush 94, 2) := by decide +kernel
theorem dMo_joins_93 : decode kMo_joins.2.1 93 = .ok (.if_icmp .ne 7, 3) := by decide +kernel
theorem dMo_joins_96 : decode kMo_joins.2.1 96 = .ok (.iconst 1, 1) := by decide +kernel
theorem dMo_joins_97 : decode kMo_joins.2.1 97 = .ok (.goto 4, 3) := by decide +kernel
theorem dMo_joins_100 : decode kMo_joins.2.1 100 = .ok (.iconst 0, 1) := by decide +kernel
theorem dMo_joins_101 : decode kMo_joins.2.1 101 = .ok (.ireturn, 1) := by decide +kernel
theorem dMo_joins_102 : decode kMo_joins.2.1 102 = .ok (.iload_n 1, 1) := by decide +kernel
theorem dMo_joins_103 : decode kMo_joins.2.1 103 = .ok (.bipush 38, 2) := by decide +kernel
theorem dMo_joins_105 : decode kMo_joins.2.1 105 = .ok (.if_icmp .ne 7, 3) := by decide +kernel
theorem dMo_joins_108 : decode kMo_joins.2.1 108 = .ok (.iconst 1, 1) := by decide +kernel
theorem dMo_joins_109 : decode kMo_joins.2.1 109 = .ok (.goto 4, 3) := by decide +kernel
theorem dMo_joins_112 : decode kMo_joins.2.1 112 = .ok (.iconst 0, 1) := by decide +kernel
theorem dMo_joins_113 : decode kMo_joins.2.1 113 = .ok (.ireturn, 1) := by decide +kernel
theorem dMo_joins_114 : decode kMo_joins.2.1 114 = .ok (.iload_n 1, 1) := by decide +kernel
theorem dMo_joins_115 : decode kMo_joins.2.1 115 = .ok (.sipush 300, 3) := by decide +kernel
theorem dMo_joins_118 : decode kMo_joins.2.1 118 = .ok (.if_icmp .eq 10, 3) := by decide +kernel
theorem dMo_joins_121 : decode kMo_joins.2.1 121 = .ok (.iload_n 1, 1) := by decide +kernel
theorem dMo_joins_122 : decode kMo_joins.2.1 122 = .ok (.sipush 301, 3) := by decide +kernel
theorem dMo_joins_125 : decode kMo_joins.2.1 125 = .ok (.if_icmp .ne 7, 3) := by decide +kernel
theorem dMo_joins_128 : decode kMo_joins.2.1 128 = .ok (.iconst 1, 1) := by decide +kernel
theorem dMo_joins_129 : decode kMo_joins.2.1 129 = .ok (.goto 4, 3) := by decide +kernel
theorem dMo_joins_132 : decode kMo_joins.2.1 132 = .ok (.iconst 0, 1) := by decide +kernel
theorem dMo_joins_133 : decode kMo_joins.2.1 133 = .ok (.ireturn, 1) := by decide +kernel
theorem dMo_joins_134 : decode kMo_joins.2.1 134 = .ok (.iload_n 1, 1) := by decide +kernel
theorem dMo_joins_135 : decode kMo_joins.2.1 135 = .ok (.bipush 60, 2) := by decide +kernel
theorem dMo_joins_137 : decode kMo_joins.2.1 137 = .ok (.if_icmp .eq 23, 3) := by decide +kernel
theorem dMo_joins_140 : decode kMo_joins.2.1 140 = .ok (.iload_n 1, 1) := by decide +kernel
theorem dMo_joins_141 : decode kMo_joins.2.1 141 = .ok (.sipush 302, 3) := by decide +kernel
theorem dMo_joins_144 : decode kMo_joins.2.1 144 = .ok (.if_icmp .eq 16, 3) := by decide +kernel
theorem dMo_joins_147 : decode kMo_joins.2.1 147 = .ok (.iload_n 1, 1) := by decide +kernel
theorem dMo_joins_148 : decode kMo_joins.2.1 148 = .ok (.bipush 62, 2) := by decide +kernel
theorem dMo_joins_150 : decode kMo_joins.2.1 150 = .ok (.if_icmp .eq 10, 3) := by decide +kernel
theorem dMo_joins_153 : decode kMo_joins.2.1 153 = .ok (.iload_n 1, 1) := by decide +kernel
theorem dMo_joins_154 : decode kMo_joins.2.1 154 = .ok (.sipush 303, 3) := by decide +kernel
theorem dMo_joins_157 : decode kMo_joins.2.1 157 = .ok (.if_icmp .ne 7, 3) := by decide +kernel
theorem dMo_joins_160 : decode kMo_joins.2.1 160 = .ok (.iconst 1, 1) := by decide +kernel
theorem dMo_joins_161 : decode kMo_joins.2.1 161 = .ok (.goto 4, 3) := by decide +kernel
theorem dMo_joins_164 : decode kMo_joins.2.1 164 = .ok (.iconst 0, 1) := by decide +kernel
theorem dMo_joins_165 : decode kMo_joins.2.1 165 = .ok (.ireturn, 1) := by decide +kernel
theorem dMo_joins_166 : decode kMo_joins.2.1 166 = .ok (.iload_n 1, 1) := by decide +kernel
theorem dMo_joins_167 : decode kMo_joins.2.1 167 = .ok (.sipush 304, 3) := by decide +kernel
theorem dMo_joins_170 : decode kMo_joins.2.1 170 = .ok (.if_icmp .eq 10, 3) := by decide +kernel
theorem dMo_joins_173 : decode kMo_joins.2.1 173 = .ok (.iload_n 1, 1) := by decide +kernel
theorem dMo_joins_174 : decode kMo_joins.2.1 174 = .ok (.sipush 305, 3) := by decide +kernel
theorem dMo_joins_177 : decode kMo_joins.2.1 177 = .ok (.if_icmp .ne 7, 3) := by decide +kernel
theorem dMo_joins_180 : decode kMo_joins.2.1 180 = .ok (.iconst 1, 1) := by decide +kernel
theorem dMo_joins_181 : decode kMo_joins.2.1 181 = .ok (.goto 4, 3) := by decide +kernel
theorem dMo_joins_184 : decode kMo_joins.2.1 184 = .ok (.iconst 0, 1) := by decide +kernel
theorem dMo_joins_185 : decode kMo_joins.2.1 185 = .ok (.ireturn, 1) := by decide +kernel
theorem dMo_joins_186 : decode kMo_joins.2.1 186 = .ok (.iload_n 1, 1) := by decide +kernel
theorem dMo_joins_187 : decode kMo_joins.2.1 187 = .ok (.bipush 43, 2) := by decide +kernel
theorem dMo_joins_189 : decode kMo_joins.2.1 189 = .ok (.if_icmp .eq 9, 3) := by decide +kernel
theorem dMo_joins_192 : decode kMo_joins.2.1 192 = .ok (.iload_n 1, 1) := by decide +kernel
theorem dMo_joins_193 : decode kMo_joins.2.1 193 = .ok (.bipush 45, 2) := by decide +kernel
theorem dMo_joins_195 : decode kMo_joins.2.1 195 = .ok (.if_icmp .ne 7, 3) := by decide +kernel
theorem dMo_joins_198 : decode kMo_joins.2.1 198 = .ok (.iconst 1, 1) := by decide +kernel
theorem dMo_joins_199 : decode kMo_joins.2.1 199 = .ok (.goto 4, 3) := by decide +kernel
theorem dMo_joins_202 : decode kMo_joins.2.1 202 = .ok (.iconst 0, 1) := by decide +kernel
theorem dMo_joins_203 : decode kMo_joins.2.1 203 = .ok (.ireturn, 1) := by decide +kernel
theorem dMo_joins_204 : decode kMo_joins.2.1 204 = .ok (.iload_n 1, 1) := by decide +kernel
theorem dMo_joins_205 : decode kMo_joins.2.1 205 = .ok (.bipush 42, 2) := by decide +kernel
theorem dMo_joins_207 : decode kMo_joins.2.1 207 = .ok (.if_icmp .ne 7, 3) := by decide +kernel
theorem dMo_joins_210 : decode kMo_joins.2.1 210 = .ok (.iconst 1, 1) := by decide +kernel
theorem dMo_joins_211 : decode kMo_joins.2.1 211 = .ok (.goto 4, 3) := by decide +kernel
theorem dMo_joins_214 : decode kMo_joins.2.1 214 = .ok (.iconst 0, 1) := by decide +kernel
theorem dMo_joins_215 : decode kMo_joins.2.1 215 = .ok (.ireturn, 1) := by decide +kernel
theorem dMo_price_0 : decode kMo_price.2.1 0 = .ok (.iload_n 0, 1) := by decide +kernel
theorem dMo_price_1 : decode kMo_price.2.1 1 = .ok (.iconst 5, 1) := by decide +kernel
theorem dMo_price_2 : decode kMo_price.2.1 2 = .ok (.if_icmp .ge 8, 3) := by decide +kernel
theorem dMo_price_5 : decode kMo_price.2.1 5 = .ok (.bipush 24, 2) := by decide +kernel
theorem dMo_price_7 : decode kMo_price.2.1 7 = .ok (.goto 39, 3) := by decide +kernel
theorem dMo_price_10 : decode kMo_price.2.1 10 = .ok (.iload_n 0, 1) := by decide +kernel
theorem dMo_price_11 : decode kMo_price.2.1 11 = .ok (.iconst 5, 1) := by decide +kernel
theorem dMo_price_12 : decode kMo_price.2.1 12 = .ok (.if_icmp .ne 8, 3) := by decide +kernel
theorem dMo_price_15 : decode kMo_price.2.1 15 = .ok (.bipush 32, 2) := by decide +kernel
theorem dMo_price_17 : decode kMo_price.2.1 17 = .ok (.goto 29, 3) := by decide +kernel
theorem dMo_price_20 : decode kMo_price.2.1 20 = .ok (.iload_n 0, 1) := by decide +kernel
theorem dMo_price_21 : decode kMo_price.2.1 21 = .ok (.bipush 7, 2) := by decide +kernel
theorem dMo_price_23 : decode kMo_price.2.1 23 = .ok (.if_icmp .ne 9, 3) := by decide +kernel
theorem dMo_price_26 : decode kMo_price.2.1 26 = .ok (.sipush 128, 3) := by decide +kernel
theorem dMo_price_29 : decode kMo_price.2.1 29 = .ok (.goto 17, 3) := by decide +kernel
theorem dMo_price_32 : decode kMo_price.2.1 32 = .ok (.iload_n 0, 1) := by decide +kernel
theorem dMo_price_33 : decode kMo_price.2.1 33 = .ok (.bipush 9, 2) := by decide +kernel
theorem dMo_price_35 : decode kMo_price.2.1 35 = .ok (.if_icmp .ne 9, 3) := by decide +kernel
theorem dMo_price_38 : decode kMo_price.2.1 38 = .ok (.sipush 900, 3) := by decide +kernel
theorem dMo_price_41 : decode kMo_price.2.1 41 = .ok (.goto 5, 3) := by decide +kernel
theorem dMo_price_44 : decode kMo_price.2.1 44 = .ok (.bipush 96, 2) := by decide +kernel
theorem dMo_price_46 : decode kMo_price.2.1 46 = .ok (.ireturn, 1) := by decide +kernel
theorem dMo_next_0 : decode kMo_next.2.1 0 = .ok (.aload_n 0, 1) := by decide +kernel
theorem dMo_next_1 : decode kMo_next.2.1 1 = .ok (.bipush 8, 2) := by decide +kernel
theorem dMo_next_3 : decode kMo_next.2.1 3 = .ok (.invokevirtual 267, 3) := by decide +kernel
theorem dMo_next_6 : decode kMo_next.2.1 6 = .ok (.aload_n 0, 1) := by decide +kernel
theorem dMo_next_7 : decode kMo_next.2.1 7 = .ok (.invokevirtual 215, 3) := by decide +kernel
theorem dMo_next_10 : decode kMo_next.2.1 10 = .ok (.aload_n 0, 1) := by decide +kernel
theorem dMo_next_11 : decode kMo_next.2.1 11 = .ok (.invokevirtual 207, 3) := by decide +kernel
theorem dMo_next_14 : decode kMo_next.2.1 14 = .ok (.iconst 1, 1) := by decide +kernel
theorem dMo_next_15 : decode kMo_next.2.1 15 = .ok (.if_icmp .ne 10, 3) := by decide +kernel
theorem dMo_next_18 : decode kMo_next.2.1 18 = .ok (.aload_n 0, 1) := by decide +kernel
theorem dMo_next_19 : decode kMo_next.2.1 19 = .ok (.invokevirtual 257, 3) := by decide +kernel
theorem dMo_next_22 : decode kMo_next.2.1 22 = .ok (.ifCond .eq 8, 3) := by decide +kernel
theorem dMo_next_25 : decode kMo_next.2.1 25 = .ok (.aload_n 0, 1) := by decide +kernel
theorem dMo_next_26 : decode kMo_next.2.1 26 = .ok (.invokevirtual 211, 3) := by decide +kernel
theorem dMo_next_29 : decode kMo_next.2.1 29 = .ok (.athrow, 1) := by decide +kernel
theorem dMo_next_30 : decode kMo_next.2.1 30 = .ok (.aload_n 0, 1) := by decide +kernel
theorem dMo_next_31 : decode kMo_next.2.1 31 = .ok (.invokevirtual 261, 3) := by decide +kernel
theorem dMo_next_34 : decode kMo_next.2.1 34 = .ok (.istore_n 1, 1) := by decide +kernel
theorem dMo_next_35 : decode kMo_next.2.1 35 = .ok (.iload_n 1, 1) := by decide +kernel
theorem dMo_next_36 : decode kMo_next.2.1 36 = .ok (.ifCond .lt 27, 3) := by decide +kernel
theorem dMo_next_39 : decode kMo_next.2.1 39 = .ok (.aload_n 0, 1) := by decide +kernel
theorem dMo_next_40 : decode kMo_next.2.1 40 = .ok (.getfield 56, 3) := by decide +kernel
theorem dMo_next_43 : decode kMo_next.2.1 43 = .ok (.iload_n 1, 1) := by decide +kernel
theorem dMo_next_44 : decode kMo_next.2.1 44 = .ok (.iaload, 1) := by decide +kernel
theorem dMo_next_45 : decode kMo_next.2.1 45 = .ok (.iconst 1, 1) := by decide +kernel
theorem dMo_next_46 : decode kMo_next.2.1 46 = .ok (.if_icmp .ne 17, 3) := by decide +kernel
theorem dMo_next_49 : decode kMo_next.2.1 49 = .ok (.aload_n 0, 1) := by decide +kernel
theorem dMo_next_50 : decode kMo_next.2.1 50 = .ok (.getfield 71, 3) := by decide +kernel
theorem dMo_next_53 : decode kMo_next.2.1 53 = .ok (.aload_n 0, 1) := by decide +kernel
theorem dMo_next_54 : decode kMo_next.2.1 54 = .ok (.getfield 59, 3) := by decide +kernel
theorem dMo_next_57 : decode kMo_next.2.1 57 = .ok (.iload_n 1, 1) := by decide +kernel
theorem dMo_next_58 : decode kMo_next.2.1 58 = .ok (.iaload, 1) := by decide +kernel
theorem dMo_next_59 : decode kMo_next.2.1 59 = .ok (.iaload, 1) := by decide +kernel
theorem dMo_next_60 : decode kMo_next.2.1 60 = .ok (.ifCond .lt 16, 3) := by decide +kernel
theorem dMo_next_63 : decode kMo_next.2.1 63 = .ok (.new 187, 3) := by decide +kernel
theorem dMo_next_66 : decode kMo_next.2.1 66 = .ok (.dup, 1) := by decide +kernel
theorem dMo_next_67 : decode kMo_next.2.1 67 = .ok (.iconst 2, 1) := by decide +kernel
theorem dMo_next_68 : decode kMo_next.2.1 68 = .ok (.aload_n 0, 1) := by decide +kernel
theorem dMo_next_69 : decode kMo_next.2.1 69 = .ok (.getfield 33, 3) := by decide +kernel
theorem dMo_next_72 : decode kMo_next.2.1 72 = .ok (.invokespecial 189, 3) := by decide +kernel
theorem dMo_next_75 : decode kMo_next.2.1 75 = .ok (.athrow, 1) := by decide +kernel
theorem dMo_next_76 : decode kMo_next.2.1 76 = .ok (.aload_n 0, 1) := by decide +kernel
theorem dMo_next_77 : decode kMo_next.2.1 77 = .ok (.invokevirtual 215, 3) := by decide +kernel
theorem dMo_next_80 : decode kMo_next.2.1 80 = .ok (.aload_n 0, 1) := by decide +kernel
theorem dMo_next_81 : decode kMo_next.2.1 81 = .ok (.bipush 61, 2) := by decide +kernel
theorem dMo_next_83 : decode kMo_next.2.1 83 = .ok (.invokevirtual 277, 3) := by decide +kernel
theorem dMo_next_86 : decode kMo_next.2.1 86 = .ok (.aload_n 0, 1) := by decide +kernel
theorem dMo_next_87 : decode kMo_next.2.1 87 = .ok (.getfield 71, 3) := by decide +kernel
theorem dMo_next_90 : decode kMo_next.2.1 90 = .ok (.aload_n 0, 1) := by decide +kernel
theorem dMo_next_91 : decode kMo_next.2.1 91 = .ok (.getfield 59, 3) := by decide +kernel
theorem dMo_next_94 : decode kMo_next.2.1 94 = .ok (.iload_n 1, 1) := by decide +kernel
theorem dMo_next_95 : decode kMo_next.2.1 95 = .ok (.iaload, 1) := by decide +kernel
theorem dMo_next_96 : decode kMo_next.2.1 96 = .ok (.aload_n 0, 1) := by decide +kernel
theorem dMo_next_97 : decode kMo_next.2.1 97 = .ok (.iconst 0, 1) := by decide +kernel
theorem dMo_next_98 : decode kMo_next.2.1 98 = .ok (.invokevirtual 274, 3) := by decide +kernel
theorem dMo_next_101 : decode kMo_next.2.1 101 = .ok (.iastore, 1) := by decide +kernel
theorem dMo_next_102 : decode kMo_next.2.1 102 = .ok (.return_, 1) := by decide +kernel
theorem dMo_spec_0 : decode kMo_spec.2.1 0 = .ok (.aload_n 0, 1) := by decide +kernel
theorem dMo_spec_1 : decode kMo_spec.2.1 1 = .ok (.getfield 92, 3) := by decide +kernel
theorem dMo_spec_4 : decode kMo_spec.2.1 4 = .ok (.bipush 30, 2) := by decide +kernel
theorem dMo_spec_6 : decode kMo_spec.2.1 6 = .ok (.if_icmp .ne 16, 3) := by decide +kernel
theorem dMo_spec_9 : decode kMo_spec.2.1 9 = .ok (.new 187, 3) := by decide +kernel
theorem dMo_spec_12 : decode kMo_spec.2.1 12 = .ok (.dup, 1) := by decide +kernel
theorem dMo_spec_13 : decode kMo_spec.2.1 13 = .ok (.iconst 4, 1) := by decide +kernel
theorem dMo_spec_14 : decode kMo_spec.2.1 14 = .ok (.aload_n 0, 1) := by decide +kernel
theorem dMo_spec_15 : decode kMo_spec.2.1 15 = .ok (.getfield 33, 3) := by decide +kernel
theorem dMo_spec_18 : decode kMo_spec.2.1 18 = .ok (.invokespecial 189, 3) := by decide +kernel
theorem dMo_spec_21 : decode kMo_spec.2.1 21 = .ok (.athrow, 1) := by decide +kernel
theorem dMo_spec_22 : decode kMo_spec.2.1 22 = .ok (.aload_n 0, 1) := by decide +kernel
theorem dMo_spec_23 : decode kMo_spec.2.1 23 = .ok (.invokevirtual 215, 3) := by decide +kernel
theorem dMo_spec_26 : decode kMo_spec.2.1 26 = .ok (.aload_n 0, 1) := by decide +kernel
theorem dMo_spec_27 : decode kMo_spec.2.1 27 = .ok (.invokevirtual 322, 3) := by decide +kernel
theorem dMo_spec_30 : decode kMo_spec.2.1 30 = .ok (.istore_n 1, 1) := by decide +kernel
theorem dMo_spec_31 : decode kMo_spec.2.1 31 = .ok (.aload_n 0, 1) := by decide +kernel
theorem dMo_spec_32 : decode kMo_spec.2.1 32 = .ok (.bipush 61, 2) := by decide +kernel
theorem dMo_spec_34 : decode kMo_spec.2.1 34 = .ok (.invokevirtual 277, 3) := by decide +kernel
theorem dMo_spec_37 : decode kMo_spec.2.1 37 = .ok (.aload_n 0, 1) := by decide +kernel
theorem dMo_spec_38 : decode kMo_spec.2.1 38 = .ok (.getfield 80, 3) := by decide +kernel
theorem dMo_spec_41 : decode kMo_spec.2.1 41 = .ok (.aload_n 0, 1) := by decide +kernel
theorem dMo_spec_42 : decode kMo_spec.2.1 42 = .ok (.getfield 92, 3) := by decide +kernel
theorem dMo_spec_45 : decode kMo_spec.2.1 45 = .ok (.aload_n 0, 1) := by decide +kernel
theorem dMo_spec_46 : decode kMo_spec.2.1 46 = .ok (.iconst 0, 1) := by decide +kernel
theorem dMo_spec_47 : decode kMo_spec.2.1 47 = .ok (.invokevirtual 300, 3) := by decide +kernel
theorem dMo_spec_50 : decode kMo_spec.2.1 50 = .ok (.iastore, 1) := by decide +kernel
theorem dMo_spec_51 : decode kMo_spec.2.1 51 = .ok (.aload_n 0, 1) := by decide +kernel
theorem dMo_spec_52 : decode kMo_spec.2.1 52 = .ok (.getfield 56, 3) := by decide +kernel
theorem dMo_spec_55 : decode kMo_spec.2.1 55 = .ok (.iload_n 1, 1) := by decide +kernel
theorem dMo_spec_56 : decode kMo_spec.2.1 56 = .ok (.iconst 4, 1) := by decide +kernel
theorem dMo_spec_57 : decode kMo_spec.2.1 57 = .ok (.iastore, 1) := by decide +kernel
theorem dMo_spec_58 : decode kMo_spec.2.1 58 = .ok (.aload_n 0, 1) := by decide +kernel
theorem dMo_spec_59 : decode kMo_spec.2.1 59 = .ok (.getfield 59, 3) := by decide +kernel
theorem dMo_spec_62 : decode kMo_spec.2.1 62 = .ok (.iload_n 1, 1) := by decide +kernel
theorem dMo_spec_63 : decode kMo_spec.2.1 63 = .ok (.aload_n 0, 1) := by decide +kernel
theorem dMo_spec_64 : decode kMo_spec.2.1 64 = .ok (.dup, 1) := by decide +kernel
theorem dMo_spec_65 : decode kMo_spec.2.1 65 = .ok (.getfield 92, 3) := by decide +kernel
theorem dMo_spec_68 : decode kMo_spec.2.1 68 = .ok (.dup_x1, 1) := by decide +kernel
theorem dMo_spec_69 : decode kMo_spec.2.1 69 = .ok (.iconst 1, 1) := by decide +kernel
theorem dMo_spec_70 : decode kMo_spec.2.1 70 = .ok (.iadd, 1) := by decide +kernel
theorem dMo_spec_71 : decode kMo_spec.2.1 71 = .ok (.putfield 92, 3) := by decide +kernel
theorem dMo_spec_74 : decode kMo_spec.2.1 74 = .ok (.iastore, 1) := by decide +kernel
theorem dMo_spec_75 : decode kMo_spec.2.1 75 = .ok (.return_, 1) := by decide +kernel
theorem dMo_formula_0 : decode kMo_formula.2.1 0 = .ok (.aload_n 0, 1) := by decide +kernel
theorem dMo_formula_1 : decode kMo_formula.2.1 1 = .ok (.iload_n 1, 1) := by decide +kernel
theorem dMo_formula_2 : decode kMo_formula.2.1 2 = .ok (.invokevirtual 297, 3) := by decide +kernel
theorem dMo_formula_5 : decode kMo_formula.2.1 5 = .ok (.istore_n 2, 1) := by decide +kernel
theorem dMo_formula_6 : decode kMo_formula.2.1 6 = .ok (.aload_n 0, 1) := by decide +kernel
theorem dMo_formula_7 : decode kMo_formula.2.1 7 = .ok (.invokevirtual 207, 3) := by decide +kernel
theorem dMo_formula_10 : decode kMo_formula.2.1 10 = .ok (.sipush 308, 3) := by decide +kernel
theorem dMo_formula_13 : decode kMo_formula.2.1 13 = .ok (.if_icmp .eq 5, 3) := by decide +kernel
theorem dMo_formula_16 : decode kMo_formula.2.1 16 = .ok (.iload_n 2, 1) := by decide +kernel
theorem dMo_formula_17 : decode kMo_formula.2.1 17 = .ok (.ireturn, 1) := by decide +kernel
theorem dMo_formula_18 : decode kMo_formula.2.1 18 = .ok (.aload_n 0, 1) := by decide +kernel
theorem dMo_formula_19 : decode kMo_formula.2.1 19 = .ok (.invokevirtual 215, 3) := by decide +kernel
theorem dMo_formula_22 : decode kMo_formula.2.1 22 = .ok (.aload_n 0, 1) := by decide +kernel
theorem dMo_formula_23 : decode kMo_formula.2.1 23 = .ok (.iconst 3, 1) := by decide +kernel
theorem dMo_formula_24 : decode kMo_formula.2.1 24 = .ok (.iload_n 2, 1) := by decide +kernel
theorem dMo_formula_25 : decode kMo_formula.2.1 25 = .ok (.aload_n 0, 1) := by decide +kernel
theorem dMo_formula_26 : decode kMo_formula.2.1 26 = .ok (.aload_n 0, 1) := by decide +kernel
theorem dMo_formula_27 : decode kMo_formula.2.1 27 = .ok (.iload_n 1, 1) := by decide +kernel
theorem dMo_formula_28 : decode kMo_formula.2.1 28 = .ok (.invokevirtual 271, 3) := by decide +kernel
theorem dMo_formula_31 : decode kMo_formula.2.1 31 = .ok (.invokevirtual 300, 3) := by decide +kernel
theorem dMo_formula_34 : decode kMo_formula.2.1 34 = .ok (.invokevirtual 303, 3) := by decide +kernel
theorem dMo_formula_37 : decode kMo_formula.2.1 37 = .ok (.ireturn, 1) := by decide +kernel
theorem dMo_either_0 : decode kMo_either.2.1 0 = .ok (.aload_n 0, 1) := by decide +kernel
theorem dMo_either_1 : decode kMo_either.2.1 1 = .ok (.iload_n 1, 1) := by decide +kernel
theorem dMo_either_2 : decode kMo_either.2.1 2 = .ok (.invokevirtual 306, 3) := by decide +kernel
theorem dMo_either_5 : decode kMo_either.2.1 5 = .ok (.istore_n 2, 1) := by decide +kernel
theorem dMo_either_6 : decode kMo_either.2.1 6 = .ok (.aload_n 0, 1) := by decide +kernel
theorem dMo_either_7 : decode kMo_either.2.1 7 = .ok (.invokevirtual 207, 3) := by decide +kernel
theorem dMo_either_10 : decode kMo_either.2.1 10 = .ok (.sipush 307, 3) := by decide +kernel
theorem dMo_either_13 : decode kMo_either.2.1 13 = .ok (.if_icmp .ne 24, 3) := by decide +kernel
theorem dMo_either_16 : decode kMo_either.2.1 16 = .ok (.aload_n 0, 1) := by decide +kernel
theorem dMo_either_17 : decode kMo_either.2.1 17 = .ok (.invokevirtual 215, 3) := by decide +kernel
theorem dMo_either_20 : decode kMo_either.2.1 20 = .ok (.aload_n 0, 1) := by decide +kernel
theorem dMo_either_21 : decode kMo_either.2.1 21 = .ok (.iload_n 1, 1) := by decide +kernel
theorem dMo_either_22 : decode kMo_either.2.1 22 = .ok (.invokevirtual 306, 3) := by decide +kernel
theorem dMo_either_25 : decode kMo_either.2.1 25 = .ok (.istore_n 3, 1) := by decide +kernel
theorem dMo_either_26 : decode kMo_either.2.1 26 = .ok (.aload_n 0, 1) := by decide +kernel
theorem dMo_either_27 : decode kMo_either.2.1 27 = .ok (.iconst 2, 1) := by decide +kernel
theorem dMo_either_28 : decode kMo_either.2.1 28 = .ok (.iload_n 2, 1) := by decide +kernel
theorem dMo_either_29 : decode kMo_either.2.1 29 = .ok (.iload_n 3, 1) := by decide +kernel
theorem dMo_either_30 : decode kMo_either.2.1 30 = .ok (.invokevirtual 303, 3) := by decide +kernel
theorem dMo_either_33 : decode kMo_either.2.1 33 = .ok (.istore_n 2, 1) := by decide +kernel
theorem dMo_either_34 : decode kMo_either.2.1 34 = .ok (.goto (-28), 3) := by decide +kernel
theorem dMo_either_37 : decode kMo_either.2.1 37 = .ok (.iload_n 2, 1) := by decide +kernel
theorem dMo_either_38 : decode kMo_either.2.1 38 = .ok (.ireturn, 1) := by decide +kernel
theorem dMo_both_0 : decode kMo_both.2.1 0 = .ok (.aload_n 0, 1) := by decide +kernel
theorem dMo_both_1 : decode kMo_both.2.1 1 = .ok (.iload_n 1, 1) := by decide +kernel
theorem dMo_both_2 : decode kMo_both.2.1 2 = .ok (.invokevirtual 309, 3) := by decide +kernel
theorem dMo_both_5 : decode kMo_both.2.1 5 = .ok (.istore_n 2, 1) := by decide +kernel
theorem dMo_both_6 : decode kMo_both.2.1 6 = .ok (.aload_n 0, 1) := by decide +kernel
theorem dMo_both_7 : decode kMo_both.2.1 7 = .ok (.invokevirtual 207, 3) := by decide +kernel
theorem dMo_both_10 : decode kMo_both.2.1 10 = .ok (.sipush 306, 3) := by decide +kernel
theorem dMo_both_13 : decode kMo_both.2.1 13 = .ok (.if_icmp .ne 24, 3) := by decide +kernel
theorem dMo_both_16 : decode kMo_both.2.1 16 = .ok (.aload_n 0, 1) := by decide +kernel
theorem dMo_both_17 : decode kMo_both.2.1 17 = .ok (.invokevirtual 215, 3) := by decide +kernel
theorem dMo_both_20 : decode kMo_both.2.1 20 = .ok (.aload_n 0, 1) := by decide +kernel
theorem dMo_both_21 : decode kMo_both.2.1 21 = .ok (.iload_n 1, 1) := by decide +kernel
theorem dMo_both_22 : decode kMo_both.2.1 22 = .ok (.invokevirtual 309, 3) := by decide +kernel
theorem dMo_both_25 : decode kMo_both.2.1 25 = .ok (.istore_n 3, 1) := by decide +kernel
theorem dMo_both_26 : decode kMo_both.2.1 26 = .ok (.aload_n 0, 1) := by decide +kernel
theorem dMo_both_27 : decode kMo_both.2.1 27 = .ok (.iconst 1, 1) := by decide +kernel
theorem dMo_both_28 : decode kMo_both.2.1 28 = .ok (.iload_n 2, 1) := by decide +kernel
theorem dMo_both_29 : decode kMo_both.2.1 29 = .ok (.iload_n 3, 1) := by decide +kernel
theorem dMo_both_30 : decode kMo_both.2.1 30 = .ok (.invokevirtual 303, 3) := by decide +kernel
theorem dMo_both_33 : decode kMo_both.2.1 33 = .ok (.istore_n 2, 1) := by decide +kernel
theorem dMo_both_34 : decode kMo_both.2.1 34 = .ok (.goto (-28), 3) := by decide +kernel
theorem dMo_both_37 : decode kMo_both.2.1 37 = .ok (.iload_n 2, 1) := by decide +kernel
theorem dMo_both_38 : decode kMo_both.2.1 38 = .ok (.ireturn, 1) := by decide +kernel
theorem dMo_single_0 : decode kMo_single.2.1 0 = .ok (.aload_n 0, 1) := by decide +kernel
theorem dMo_single_1 : decode kMo_single.2.1 1 = .ok (.invokevirtual 207, 3) := by decide +kernel
theorem dMo_single_4 : decode kMo_single.2.1 4 = .ok (.istore_n 2, 1) := by decide +kernel
theorem dMo_single_5 : decode kMo_single.2.1 5 = .ok (.iload_n 2, 1) := by decide +kernel
theorem dMo_single_6 : decode kMo_single.2.1 6 = .ok (.bipush 33, 2) := by decide +kernel
theorem dMo_single_8 : decode kMo_single.2.1 8 = .ok (.if_icmp .ne 23, 3) := by decide +kernel
theorem dMo_single_11 : decode kMo_single.2.1 11 = .ok (.aload_n 0, 1) := by decide +kernel
theorem dMo_single_12 : decode kMo_single.2.1 12 = .ok (.invokevirtual 215, 3) := by decide +kernel
theorem dMo_single_15 : decode kMo_single.2.1 15 = .ok (.aload_n 0, 1) := by decide +kernel
theorem dMo_single_16 : decode kMo_single.2.1 16 = .ok (.iconst 0, 1) := by decide +kernel
theorem dMo_single_17 : decode kMo_single.2.1 17 = .ok (.aload_n 0, 1) := by decide +kernel
theorem dMo_single_18 : decode kMo_single.2.1 18 = .ok (.aload_n 0, 1) := by decide +kernel
theorem dMo_single_19 : decode kMo_single.2.1 19 = .ok (.iload_n 1, 1) := by decide +kernel
theorem dMo_single_20 : decode kMo_single.2.1 20 = .ok (.invokevirtual 271, 3) := by decide +kernel
theorem dMo_single_23 : decode kMo_single.2.1 23 = .ok (.invokevirtual 309, 3) := by decide +kernel
theorem dMo_single_26 : decode kMo_single.2.1 26 = .ok (.iconst 0, 1) := by decide +kernel
theorem dMo_single_27 : decode kMo_single.2.1 27 = .ok (.invokevirtual 303, 3) := by decide +kernel
theorem dMo_single_30 : decode kMo_single.2.1 30 = .ok (.ireturn, 1) := by decide +kernel
theorem dMo_single_31 : decode kMo_single.2.1 31 = .ok (.aload_n 0, 1) := by decide +kernel
theorem dMo_single_32 : decode kMo_single.2.1 32 = .ok (.ldc 245, 2) := by decide +kernel
theorem dMo_single_34 : decode kMo_single.2.1 34 = .ok (.invokevirtual 229, 3) := by decide +kernel
theorem dMo_single_37 : decode kMo_single.2.1 37 = .ok (.ifCond .eq 7, 3) := by decide +kernel
theorem dMo_single_40 : decode kMo_single.2.1 40 = .ok (.iconst 5, 1) := by decide +kernel
theorem dMo_single_41 : decode kMo_single.2.1 41 = .ok (.goto 73, 3) := by decide +kernel
theorem dMo_single_44 : decode kMo_single.2.1 44 = .ok (.aload_n 0, 1) := by decide +kernel
theorem dMo_single_45 : decode kMo_single.2.1 45 = .ok (.ldc 247, 2) := by decide +kernel
theorem dMo_single_47 : decode kMo_single.2.1 47 = .ok (.invokevirtual 229, 3) := by decide +kernel
theorem dMo_single_50 : decode kMo_single.2.1 50 = .ok (.ifCond .eq 7, 3) := by decide +kernel
theorem dMo_single_53 : decode kMo_single.2.1 53 = .ok (.iconst 4, 1) := by decide +kernel
theorem dMo_single_54 : decode kMo_single.2.1 54 = .ok (.goto 60, 3) := by decide +kernel
theorem dMo_single_57 : decode kMo_single.2.1 57 = .ok (.aload_n 0, 1) := by decide +kernel
theorem dMo_single_58 : decode kMo_single.2.1 58 = .ok (.ldc 249, 2) := by decide +kernel
theorem dMo_single_60 : decode kMo_single.2.1 60 = .ok (.invokevirtual 229, 3) := by decide +kernel
theorem dMo_single_63 : decode kMo_single.2.1 63 = .ok (.ifCond .eq 8, 3) := by decide +kernel
theorem dMo_single_66 : decode kMo_single.2.1 66 = .ok (.bipush 9, 2) := by decide +kernel
theorem dMo_single_68 : decode kMo_single.2.1 68 = .ok (.goto 46, 3) := by decide +kernel
theorem dMo_single_71 : decode kMo_single.2.1 71 = .ok (.aload_n 0, 1) := by decide +kernel
theorem dMo_single_72 : decode kMo_single.2.1 72 = .ok (.ldc 251, 2) := by decide +kernel
theorem dMo_single_74 : decode kMo_single.2.1 74 = .ok (.invokevirtual 229, 3) := by decide +kernel
theorem dMo_single_77 : decode kMo_single.2.1 77 = .ok (.ifCond .eq 8, 3) := by decide +kernel
theorem dMo_single_80 : decode kMo_single.2.1 80 = .ok (.bipush 8, 2) := by decide +kernel
theorem dMo_single_82 : decode kMo_single.2.1 82 = .ok (.goto 32, 3) := by decide +kernel
theorem dMo_single_85 : decode kMo_single.2.1 85 = .ok (.aload_n 0, 1) := by decide +kernel
theorem dMo_single_86 : decode kMo_single.2.1 86 = .ok (.ldc 253, 2) := by decide +kernel
theorem dMo_single_88 : decode kMo_single.2.1 88 = .ok (.invokevirtual 229, 3) := by decide +kernel
theorem dMo_single_91 : decode kMo_single.2.1 91 = .ok (.ifCond .eq 8, 3) := by decide +kernel
theorem dMo_single_94 : decode kMo_single.2.1 94 = .ok (.bipush 11, 2) := by decide +kernel
theorem dMo_single_96 : decode kMo_single.2.1 96 = .ok (.goto 18, 3) := by decide +kernel
theorem dMo_single_99 : decode kMo_single.2.1 99 = .ok (.aload_n 0, 1) := by decide +kernel
theorem dMo_single_100 : decode kMo_single.2.1 100 = .ok (.ldc 255, 2) := by decide +kernel
theorem dMo_single_102 : decode kMo_single.2.1 102 = .ok (.invokevirtual 229, 3) := by decide +kernel
theorem dMo_single_105 : decode kMo_single.2.1 105 = .ok (.ifCond .eq 8, 3) := by decide +kernel
theorem dMo_single_108 : decode kMo_single.2.1 108 = .ok (.bipush 10, 2) := by decide +kernel
theorem dMo_single_110 : decode kMo_single.2.1 110 = .ok (.goto 4, 3) := by decide +kernel
theorem dMo_single_113 : decode kMo_single.2.1 113 = .ok (.iconst 0, 1) := by decide +kernel
theorem dMo_single_114 : decode kMo_single.2.1 114 = .ok (.istore_n 3, 1) := by decide +kernel
theorem dMo_single_115 : decode kMo_single.2.1 115 = .ok (.iload_n 3, 1) := by decide +kernel
theorem dMo_single_116 : decode kMo_single.2.1 116 = .ok (.ifCond .le 23, 3) := by decide +kernel
theorem dMo_single_119 : decode kMo_single.2.1 119 = .ok (.aload_n 0, 1) := by decide +kernel
theorem dMo_single_120 : decode kMo_single.2.1 120 = .ok (.invokevirtual 215, 3) := by decide +kernel
theorem dMo_single_123 : decode kMo_single.2.1 123 = .ok (.aload_n 0, 1) := by decide +kernel
theorem dMo_single_124 : decode kMo_single.2.1 124 = .ok (.iload_n 3, 1) := by decide +kernel
theorem dMo_single_125 : decode kMo_single.2.1 125 = .ok (.aload_n 0, 1) := by decide +kernel
theorem dMo_single_126 : decode kMo_single.2.1 126 = .ok (.aload_n 0, 1) := by decide +kernel
theorem dMo_single_127 : decode kMo_single.2.1 127 = .ok (.iload_n 1, 1) := by decide +kernel
theorem dMo_single_128 : decode kMo_single.2.1 128 = .ok (.invokevirtual 271, 3) := by decide +kernel
theorem dMo_single_131 : decode kMo_single.2.1 131 = .ok (.invokevirtual 309, 3) := by decide +kernel
theorem dMo_single_134 : decode kMo_single.2.1 134 = .ok (.iconst 0, 1) := by decide +kernel
theorem dMo_single_135 : decode kMo_single.2.1 135 = .ok (.invokevirtual 303, 3) := by decide +kernel
theorem dMo_single_138 : decode kMo_single.2.1 138 = .ok (.ireturn, 1) := by decide +kernel
theorem dMo_single_139 : decode kMo_single.2.1 139 = .ok (.aload_n 0, 1) := by decide +kernel
theorem dMo_single_140 : decode kMo_single.2.1 140 = .ok (.ldc 239, 2) := by decide +kernel
theorem dMo_single_142 : decode kMo_single.2.1 142 = .ok (.invokevirtual 229, 3) := by decide +kernel
theorem dMo_single_145 : decode kMo_single.2.1 145 = .ok (.ifCond .ne 12, 3) := by decide +kernel
theorem dMo_single_148 : decode kMo_single.2.1 148 = .ok (.aload_n 0, 1) := by decide +kernel
theorem dMo_single_149 : decode kMo_single.2.1 149 = .ok (.ldc 241, 2) := by decide +kernel
theorem dMo_single_151 : decode kMo_single.2.1 151 = .ok (.invokevirtual 229, 3) := by decide +kernel
theorem dMo_single_154 : decode kMo_single.2.1 154 = .ok (.ifCond .eq 92, 3) := by decide +kernel
theorem dMo_single_157 : decode kMo_single.2.1 157 = .ok (.aload_n 0, 1) := by decide +kernel
theorem dMo_single_158 : decode kMo_single.2.1 158 = .ok (.ldc 239, 2) := by decide +kernel
theorem dMo_single_160 : decode kMo_single.2.1 160 = .ok (.invokevirtual 229, 3) := by decide +kernel
theorem dMo_single_163 : decode kMo_single.2.1 163 = .ok (.istore 4, 2) := by decide +kernel
theorem dMo_single_165 : decode kMo_single.2.1 165 = .ok (.aload_n 0, 1) := by decide +kernel
theorem dMo_single_166 : decode kMo_single.2.1 166 = .ok (.invokevirtual 215, 3) := by decide +kernel
theorem dMo_single_169 : decode kMo_single.2.1 169 = .ok (.aload_n 0, 1) := by decide +kernel
theorem dMo_single_170 : decode kMo_single.2.1 170 = .ok (.bipush 91, 2) := by decide +kernel
theorem dMo_single_172 : decode kMo_single.2.1 172 = .ok (.invokevirtual 277, 3) := by decide +kernel
theorem dMo_single_175 : decode kMo_single.2.1 175 = .ok (.aload_n 0, 1) := by decide +kernel
theorem dMo_single_176 : decode kMo_single.2.1 176 = .ok (.iload_n 1, 1) := by decide +kernel
theorem dMo_single_177 : decode kMo_single.2.1 177 = .ok (.invokevirtual 271, 3) := by decide +kernel
theorem dMo_single_180 : decode kMo_single.2.1 180 = .ok (.istore 5, 2) := by decide +kernel
theorem dMo_single_182 : decode kMo_single.2.1 182 = .ok (.aload_n 0, 1) := by decide +kernel
theorem dMo_single_183 : decode kMo_single.2.1 183 = .ok (.iload 5, 2) := by decide +kernel
theorem dMo_single_185 : decode kMo_single.2.1 185 = .ok (.invokevirtual 300, 3) := by decide +kernel
theorem dMo_single_188 : decode kMo_single.2.1 188 = .ok (.istore 6, 2) := by decide +kernel
theorem dMo_single_190 : decode kMo_single.2.1 190 = .ok (.aload_n 0, 1) := by decide +kernel
theorem dMo_single_191 : decode kMo_single.2.1 191 = .ok (.ldc 243, 2) := by decide +kernel
theorem dMo_single_193 : decode kMo_single.2.1 193 = .ok (.invokevirtual 229, 3) := by decide +kernel
theorem dMo_single_196 : decode kMo_single.2.1 196 = .ok (.ifCond .ne 8, 3) := by decide +kernel
theorem dMo_single_199 : decode kMo_single.2.1 199 = .ok (.aload_n 0, 1) := by decide +kernel
theorem dMo_single_200 : decode kMo_single.2.1 200 = .ok (.invokevirtual 211, 3) := by decide +kernel
theorem dMo_single_203 : decode kMo_single.2.1 203 = .ok (.athrow, 1) := by decide +kernel
theorem dMo_single_204 : decode kMo_single.2.1 204 = .ok (.aload_n 0, 1) := by decide +kernel
theorem dMo_single_205 : decode kMo_single.2.1 205 = .ok (.invokevirtual 215, 3) := by decide +kernel
theorem dMo_single_208 : decode kMo_single.2.1 208 = .ok (.aload_n 0, 1) := by decide +kernel
theorem dMo_single_209 : decode kMo_single.2.1 209 = .ok (.aload_n 0, 1) := by decide +kernel
theorem dMo_single_210 : decode kMo_single.2.1 210 = .ok (.iload_n 1, 1) := by decide +kernel
theorem dMo_single_211 : decode kMo_single.2.1 211 = .ok (.invokevirtual 271, 3) := by decide +kernel
theorem dMo_single_214 : decode kMo_single.2.1 214 = .ok (.invokevirtual 300, 3) := by decide +kernel
theorem dMo_single_217 : decode kMo_single.2.1 217 = .ok (.istore 7, 2) := by decide +kernel
theorem dMo_single_219 : decode kMo_single.2.1 219 = .ok (.aload_n 0, 1) := by decide +kernel
theorem dMo_single_220 : decode kMo_single.2.1 220 = .ok (.bipush 93, 2) := by decide +kernel
theorem dMo_single_222 : decode kMo_single.2.1 222 = .ok (.invokevirtual 277, 3) := by decide +kernel
theorem dMo_single_225 : decode kMo_single.2.1 225 = .ok (.aload_n 0, 1) := by decide +kernel
theorem dMo_single_226 : decode kMo_single.2.1 226 = .ok (.iload 4, 2) := by decide +kernel
theorem dMo_single_228 : decode kMo_single.2.1 228 = .ok (.ifCond .eq 8, 3) := by decide +kernel
theorem dMo_single_231 : decode kMo_single.2.1 231 = .ok (.bipush 7, 2) := by decide +kernel
theorem dMo_single_233 : decode kMo_single.2.1 233 = .ok (.goto 5, 3) := by decide +kernel
theorem dMo_single_236 : decode kMo_single.2.1 236 = .ok (.bipush 6, 2) := by decide +kernel
theorem dMo_single_238 : decode kMo_single.2.1 238 = .ok (.iload 6, 2) := by decide +kernel
theorem dMo_single_240 : decode kMo_single.2.1 240 = .ok (.iload 7, 2) := by decide +kernel
theorem dMo_single_242 : decode kMo_single.2.1 242 = .ok (.invokevirtual 303, 3) := by decide +kernel
theorem dMo_single_245 : decode kMo_single.2.1 245 = .ok (.ireturn, 1) := by decide +kernel
theorem dMo_single_246 : decode kMo_single.2.1 246 = .ok (.iload_n 2, 1) := by decide +kernel
theorem dMo_single_247 : decode kMo_single.2.1 247 = .ok (.bipush 40, 2) := by decide +kernel
theorem dMo_single_249 : decode kMo_single.2.1 249 = .ok (.if_icmp .ne 27, 3) := by decide +kernel
theorem dMo_single_252 : decode kMo_single.2.1 252 = .ok (.aload_n 0, 1) := by decide +kernel
theorem dMo_single_253 : decode kMo_single.2.1 253 = .ok (.invokevirtual 215, 3) := by decide +kernel
theorem dMo_single_256 : decode kMo_single.2.1 256 = .ok (.aload_n 0, 1) := by decide +kernel
theorem dMo_single_257 : decode kMo_single.2.1 257 = .ok (.aload_n 0, 1) := by decide +kernel
theorem dMo_single_258 : decode kMo_single.2.1 258 = .ok (.iload_n 1, 1) := by decide +kernel
theorem dMo_single_259 : decode kMo_single.2.1 259 = .ok (.invokevirtual 271, 3) := by decide +kernel
theorem dMo_single_262 : decode kMo_single.2.1 262 = .ok (.invokevirtual 300, 3) := by decide +kernel
theorem dMo_single_265 : decode kMo_single.2.1 265 = .ok (.istore 4, 2) := by decide +kernel
theorem dMo_single_267 : decode kMo_single.2.1 267 = .ok (.aload_n 0, 1) := by decide +kernel
theorem dMo_single_268 : decode kMo_single.2.1 268 = .ok (.bipush 41, 2) := by decide +kernel
theorem dMo_single_270 : decode kMo_single.2.1 270 = .ok (.invokevirtual 277, 3) := by decide +kernel
theorem dMo_single_273 : decode kMo_single.2.1 273 = .ok (.iload 4, 2) := by decide +kernel
theorem dMo_single_275 : decode kMo_single.2.1 275 = .ok (.ireturn, 1) := by decide +kernel
theorem dMo_single_276 : decode kMo_single.2.1 276 = .ok (.iload_n 2, 1) := by decide +kernel
theorem dMo_single_277 : decode kMo_single.2.1 277 = .ok (.bipush 123, 2) := by decide +kernel
theorem dMo_single_279 : decode kMo_single.2.1 279 = .ok (.if_icmp .ne 40, 3) := by decide +kernel
theorem dMo_single_282 : decode kMo_single.2.1 282 = .ok (.aload_n 0, 1) := by decide +kernel
theorem dMo_single_283 : decode kMo_single.2.1 283 = .ok (.bipush 8, 2) := by decide +kernel
theorem dMo_single_285 : decode kMo_single.2.1 285 = .ok (.invokevirtual 267, 3) := by decide +kernel
theorem dMo_single_288 : decode kMo_single.2.1 288 = .ok (.aload_n 0, 1) := by decide +kernel
theorem dMo_single_289 : decode kMo_single.2.1 289 = .ok (.invokevirtual 215, 3) := by decide +kernel
theorem dMo_single_292 : decode kMo_single.2.1 292 = .ok (.aload_n 0, 1) := by decide +kernel
theorem dMo_single_293 : decode kMo_single.2.1 293 = .ok (.aload_n 0, 1) := by decide +kernel
theorem dMo_single_294 : decode kMo_single.2.1 294 = .ok (.iload_n 1, 1) := by decide +kernel
theorem dMo_single_295 : decode kMo_single.2.1 295 = .ok (.invokevirtual 271, 3) := by decide +kernel
theorem dMo_single_298 : decode kMo_single.2.1 298 = .ok (.invokevirtual 274, 3) := by decide +kernel
theorem dMo_single_301 : decode kMo_single.2.1 301 = .ok (.istore 4, 2) := by decide +kernel
theorem dMo_single_303 : decode kMo_single.2.1 303 = .ok (.aload_n 0, 1) := by decide +kernel
theorem dMo_single_304 : decode kMo_single.2.1 304 = .ok (.bipush 125, 2) := by decide +kernel
theorem dMo_single_306 : decode kMo_single.2.1 306 = .ok (.invokevirtual 277, 3) := by decide +kernel
theorem dMo_single_309 : decode kMo_single.2.1 309 = .ok (.aload_n 0, 1) := by decide +kernel
theorem dMo_single_310 : decode kMo_single.2.1 310 = .ok (.bipush 12, 2) := by decide +kernel
theorem dMo_single_312 : decode kMo_single.2.1 312 = .ok (.iload 4, 2) := by decide +kernel
theorem dMo_single_314 : decode kMo_single.2.1 314 = .ok (.iconst 0, 1) := by decide +kernel
theorem dMo_single_315 : decode kMo_single.2.1 315 = .ok (.invokevirtual 303, 3) := by decide +kernel
theorem dMo_single_318 : decode kMo_single.2.1 318 = .ok (.ireturn, 1) := by decide +kernel
theorem dMo_single_319 : decode kMo_single.2.1 319 = .ok (.iload_n 2, 1) := by decide +kernel
theorem dMo_single_320 : decode kMo_single.2.1 320 = .ok (.iconst 1, 1) := by decide +kernel
theorem dMo_single_321 : decode kMo_single.2.1 321 = .ok (.if_icmp .ne 10, 3) := by decide +kernel
theorem dMo_single_324 : decode kMo_single.2.1 324 = .ok (.aload_n 0, 1) := by decide +kernel
theorem dMo_single_325 : decode kMo_single.2.1 325 = .ok (.invokevirtual 257, 3) := by decide +kernel
theorem dMo_single_328 : decode kMo_single.2.1 328 = .ok (.ifCond .eq 8, 3) := by decide +kernel
theorem dMo_single_331 : decode kMo_single.2.1 331 = .ok (.aload_n 0, 1) := by decide +kernel
theorem dMo_single_332 : decode kMo_single.2.1 332 = .ok (.invokevirtual 211, 3) := by decide +kernel
theorem dMo_single_335 : decode kMo_single.2.1 335 = .ok (.athrow, 1) := by decide +kernel
theorem dMo_single_336 : decode kMo_single.2.1 336 = .ok (.aload_n 0, 1) := by decide +kernel
theorem dMo_single_337 : decode kMo_single.2.1 337 = .ok (.invokevirtual 261, 3) := by decide +kernel
theorem dMo_single_340 : decode kMo_single.2.1 340 = .ok (.istore 4, 2) := by decide +kernel
theorem dMo_single_342 : decode kMo_single.2.1 342 = .ok (.iload 4, 2) := by decide +kernel
theorem dMo_single_344 : decode kMo_single.2.1 344 = .ok (.ifCond .lt 14, 3) := by decide +kernel
theorem dMo_single_347 : decode kMo_single.2.1 347 = .ok (.aload_n 0, 1) := by decide +kernel
theorem dMo_single_348 : decode kMo_single.2.1 348 = .ok (.getfield 56, 3) := by decide +kernel
theorem dMo_single_351 : decode kMo_single.2.1 351 = .ok (.iload 4, 2) := by decide +kernel
theorem dMo_single_353 : decode kMo_single.2.1 353 = .ok (.iaload, 1) := by decide +kernel
theorem dMo_single_354 : decode kMo_single.2.1 354 = .ok (.iconst 4, 1) := by decide +kernel
theorem dMo_single_355 : decode kMo_single.2.1 355 = .ok (.if_icmp .eq 16, 3) := by decide +kernel
theorem dMo_single_358 : decode kMo_single.2.1 358 = .ok (.new 187, 3) := by decide +kernel
theorem dMo_single_361 : decode kMo_single.2.1 361 = .ok (.dup, 1) := by decide +kernel
theorem dMo_single_362 : decode kMo_single.2.1 362 = .ok (.iconst 2, 1) := by decide +kernel
theorem dMo_single_363 : decode kMo_single.2.1 363 = .ok (.aload_n 0, 1) := by decide +kernel
theorem dMo_single_364 : decode kMo_single.2.1 364 = .ok (.getfield 33, 3) := by decide +kernel
theorem dMo_single_367 : decode kMo_single.2.1 367 = .ok (.invokespecial 189, 3) := by decide +kernel
theorem dMo_single_370 : decode kMo_single.2.1 370 = .ok (.athrow, 1) := by decide +kernel
theorem dMo_single_371 : decode kMo_single.2.1 371 = .ok (.aload_n 0, 1) := by decide +kernel
theorem dMo_single_372 : decode kMo_single.2.1 372 = .ok (.invokevirtual 215, 3) := by decide +kernel
theorem dMo_single_375 : decode kMo_single.2.1 375 = .ok (.aload_n 0, 1) := by decide +kernel
theorem dMo_single_376 : decode kMo_single.2.1 376 = .ok (.bipush 13, 2) := by decide +kernel
theorem dMo_single_378 : decode kMo_single.2.1 378 = .ok (.aload_n 0, 1) := by decide +kernel
theorem dMo_single_379 : decode kMo_single.2.1 379 = .ok (.getfield 59, 3) := by decide +kernel
theorem dMo_single_382 : decode kMo_single.2.1 382 = .ok (.iload 4, 2) := by decide +kernel
theorem dMo_single_384 : decode kMo_single.2.1 384 = .ok (.iaload, 1) := by decide +kernel
theorem dMo_single_385 : decode kMo_single.2.1 385 = .ok (.iconst 0, 1) := by decide +kernel
theorem dMo_single_386 : decode kMo_single.2.1 386 = .ok (.invokevirtual 303, 3) := by decide +kernel
theorem dMo_single_389 : decode kMo_single.2.1 389 = .ok (.ireturn, 1) := by decide +kernel
theorem dMo_make_0 : decode kMo_make.2.1 0 = .ok (.aload_n 0, 1) := by decide +kernel
theorem dMo_make_1 : decode kMo_make.2.1 1 = .ok (.getfield 119, 3) := by decide +kernel
theorem dMo_make_4 : decode kMo_make.2.1 4 = .ok (.aload_n 0, 1) := by decide +kernel
theorem dMo_make_5 : decode kMo_make.2.1 5 = .ok (.getfield 128, 3) := by decide +kernel
theorem dMo_make_8 : decode kMo_make.2.1 8 = .ok (.iload_n 1, 1) := by decide +kernel
theorem dMo_make_9 : decode kMo_make.2.1 9 = .ok (.iastore, 1) := by decide +kernel
theorem dMo_make_10 : decode kMo_make.2.1 10 = .ok (.aload_n 0, 1) := by decide +kernel
theorem dMo_make_11 : decode kMo_make.2.1 11 = .ok (.getfield 122, 3) := by decide +kernel
theorem dMo_make_14 : decode kMo_make.2.1 14 = .ok (.aload_n 0, 1) := by decide +kernel
theorem dMo_make_15 : decode kMo_make.2.1 15 = .ok (.getfield 128, 3) := by decide +kernel
theorem dMo_make_18 : decode kMo_make.2.1 18 = .ok (.iload_n 2, 1) := by decide +kernel
theorem dMo_make_19 : decode kMo_make.2.1 19 = .ok (.iastore, 1) := by decide +kernel
theorem dMo_make_20 : decode kMo_make.2.1 20 = .ok (.aload_n 0, 1) := by decide +kernel
theorem dMo_make_21 : decode kMo_make.2.1 21 = .ok (.getfield 125, 3) := by decide +kernel
theorem dMo_make_24 : decode kMo_make.2.1 24 = .ok (.aload_n 0, 1) := by decide +kernel
theorem dMo_make_25 : decode kMo_make.2.1 25 = .ok (.getfield 128, 3) := by decide +kernel
theorem dMo_make_28 : decode kMo_make.2.1 28 = .ok (.iload_n 3, 1) := by decide +kernel
theorem dMo_make_29 : decode kMo_make.2.1 29 = .ok (.iastore, 1) := by decide +kernel
theorem dMo_make_30 : decode kMo_make.2.1 30 = .ok (.aload_n 0, 1) := by decide +kernel
theorem dMo_make_31 : decode kMo_make.2.1 31 = .ok (.dup, 1) := by decide +kernel
theorem dMo_make_32 : decode kMo_make.2.1 32 = .ok (.getfield 128, 3) := by decide +kernel
theorem dMo_make_35 : decode kMo_make.2.1 35 = .ok (.dup_x1, 1) := by decide +kernel
theorem dMo_make_36 : decode kMo_make.2.1 36 = .ok (.iconst 1, 1) := by decide +kernel
theorem dMo_make_37 : decode kMo_make.2.1 37 = .ok (.iadd, 1) := by decide +kernel
theorem dMo_make_38 : decode kMo_make.2.1 38 = .ok (.putfield 128, 3) := by decide +kernel
theorem dMo_make_41 : decode kMo_make.2.1 41 = .ok (.ireturn, 1) := by decide +kernel
theorem dMo_workOut_0 : decode kMo_workOut.2.1 0 = .ok (.iconst 0, 1) := by decide +kernel
theorem dMo_workOut_1 : decode kMo_workOut.2.1 1 = .ok (.istore_n 1, 1) := by decide +kernel
theorem dMo_workOut_2 : decode kMo_workOut.2.1 2 = .ok (.iload_n 1, 1) := by decide +kernel
theorem dMo_workOut_3 : decode kMo_workOut.2.1 3 = .ok (.aload_n 0, 1) := by decide +kernel
theorem dMo_workOut_4 : decode kMo_workOut.2.1 4 = .ok (.invokevirtual 345, 3) := by decide +kernel
theorem dMo_workOut_7 : decode kMo_workOut.2.1 7 = .ok (.if_icmp .ge 114, 3) := by decide +kernel
theorem dMo_workOut_10 : decode kMo_workOut.2.1 10 = .ok (.iconst 0, 1) := by decide +kernel
theorem dMo_workOut_11 : decode kMo_workOut.2.1 11 = .ok (.istore_n 2, 1) := by decide +kernel
theorem dMo_workOut_12 : decode kMo_workOut.2.1 12 = .ok (.iload_n 2, 1) := by decide +kernel
theorem dMo_workOut_13 : decode kMo_workOut.2.1 13 = .ok (.aload_n 0, 1) := by decide +kernel
theorem dMo_workOut_14 : decode kMo_workOut.2.1 14 = .ok (.invokevirtual 348, 3) := by decide +kernel
theorem dMo_workOut_17 : decode kMo_workOut.2.1 17 = .ok (.if_icmp .ge 98, 3) := by decide +kernel
theorem dMo_workOut_20 : decode kMo_workOut.2.1 20 = .ok (.aload_n 0, 1) := by decide +kernel
theorem dMo_workOut_21 : decode kMo_workOut.2.1 21 = .ok (.iload_n 1, 1) := by decide +kernel
theorem dMo_workOut_22 : decode kMo_workOut.2.1 22 = .ok (.iload_n 2, 1) := by decide +kernel
theorem dMo_workOut_23 : decode kMo_workOut.2.1 23 = .ok (.invokevirtual 351, 3) := by decide +kernel
theorem dMo_workOut_26 : decode kMo_workOut.2.1 26 = .ok (.iconst 0, 1) := by decide +kernel
theorem dMo_workOut_27 : decode kMo_workOut.2.1 27 = .ok (.istore_n 3, 1) := by decide +kernel
theorem dMo_workOut_28 : decode kMo_workOut.2.1 28 = .ok (.iconst 0, 1) := by decide +kernel
theorem dMo_workOut_29 : decode kMo_workOut.2.1 29 = .ok (.istore 4, 2) := by decide +kernel
theorem dMo_workOut_31 : decode kMo_workOut.2.1 31 = .ok (.iload 4, 2) := by decide +kernel
theorem dMo_workOut_33 : decode kMo_workOut.2.1 33 = .ok (.aload_n 0, 1) := by decide +kernel
theorem dMo_workOut_34 : decode kMo_workOut.2.1 34 = .ok (.getfield 83, 3) := by decide +kernel
theorem dMo_workOut_37 : decode kMo_workOut.2.1 37 = .ok (.if_icmp .ge 63, 3) := by decide +kernel
theorem dMo_workOut_40 : decode kMo_workOut.2.1 40 = .ok (.iload_n 3, 1) := by decide +kernel
theorem dMo_workOut_41 : decode kMo_workOut.2.1 41 = .ok (.aload_n 0, 1) := by decide +kernel
theorem dMo_workOut_42 : decode kMo_workOut.2.1 42 = .ok (.getfield 65, 3) := by decide +kernel
theorem dMo_workOut_45 : decode kMo_workOut.2.1 45 = .ok (.iload 4, 2) := by decide +kernel
theorem dMo_workOut_47 : decode kMo_workOut.2.1 47 = .ok (.iaload, 1) := by decide +kernel
theorem dMo_workOut_48 : decode kMo_workOut.2.1 48 = .ok (.ishl, 1) := by decide +kernel
theorem dMo_workOut_49 : decode kMo_workOut.2.1 49 = .ok (.aload_n 0, 1) := by decide +kernel
theorem dMo_workOut_50 : decode kMo_workOut.2.1 50 = .ok (.getfield 71, 3) := by decide +kernel
theorem dMo_workOut_53 : decode kMo_workOut.2.1 53 = .ok (.iload 4, 2) := by decide +kernel
theorem dMo_workOut_55 : decode kMo_workOut.2.1 55 = .ok (.iaload, 1) := by decide +kernel
theorem dMo_workOut_56 : decode kMo_workOut.2.1 56 = .ok (.ifCond .ge 13, 3) := by decide +kernel
theorem dMo_workOut_59 : decode kMo_workOut.2.1 59 = .ok (.aload_n 0, 1) := by decide +kernel
theorem dMo_workOut_60 : decode kMo_workOut.2.1 60 = .ok (.getfield 131, 3) := by decide +kernel
theorem dMo_workOut_63 : decode kMo_workOut.2.1 63 = .ok (.iload 4, 2) := by decide +kernel
theorem dMo_workOut_65 : decode kMo_workOut.2.1 65 = .ok (.iaload, 1) := by decide +kernel
theorem dMo_workOut_66 : decode kMo_workOut.2.1 66 = .ok (.goto 14, 3) := by decide +kernel
theorem dMo_workOut_69 : decode kMo_workOut.2.1 69 = .ok (.aload_n 0, 1) := by decide +kernel
theorem dMo_workOut_70 : decode kMo_workOut.2.1 70 = .ok (.aload_n 0, 1) := by decide +kernel
theorem dMo_workOut_71 : decode kMo_workOut.2.1 71 = .ok (.getfield 71, 3) := by decide +kernel
theorem dMo_workOut_74 : decode kMo_workOut.2.1 74 = .ok (.iload 4, 2) := by decide +kernel
theorem dMo_workOut_76 : decode kMo_workOut.2.1 76 = .ok (.iaload, 1) := by decide +kernel
theorem dMo_workOut_77 : decode kMo_workOut.2.1 77 = .ok (.invokevirtual 339, 3) := by decide +kernel
theorem dMo_workOut_80 : decode kMo_workOut.2.1 80 = .ok (.iconst 1, 1) := by decide +kernel
theorem dMo_workOut_81 : decode kMo_workOut.2.1 81 = .ok (.aload_n 0, 1) := by decide +kernel
theorem dMo_workOut_82 : decode kMo_workOut.2.1 82 = .ok (.getfield 65, 3) := by decide +kernel
theorem dMo_workOut_85 : decode kMo_workOut.2.1 85 = .ok (.iload 4, 2) := by decide +kernel
theorem dMo_workOut_87 : decode kMo_workOut.2.1 87 = .ok (.iaload, 1) := by decide +kernel
theorem dMo_workOut_88 : decode kMo_workOut.2.1 88 = .ok (.ishl, 1) := by decide +kernel
theorem dMo_workOut_89 : decode kMo_workOut.2.1 89 = .ok (.iconst 1, 1) := by decide +kernel
theorem dMo_workOut_90 : decode kMo_workOut.2.1 90 = .ok (.isub, 1) := by decide +kernel
theorem dMo_workOut_91 : decode kMo_workOut.2.1 91 = .ok (.iand, 1) := by decide +kernel
theorem dMo_workOut_92 : decode kMo_workOut.2.1 92 = .ok (.ior, 1) := by decide +kernel
theorem dMo_workOut_93 : decode kMo_workOut.2.1 93 = .ok (.istore_n 3, 1) := by decide +kernel
theorem dMo_workOut_94 : decode kMo_workOut.2.1 94 = .ok (.iinc 4 1, 3) := by decide +kernel
theorem dMo_workOut_97 : decode kMo_workOut.2.1 97 = .ok (.goto (-66), 3) := by decide +kernel
theorem dMo_workOut_100 : decode kMo_workOut.2.1 100 = .ok (.aload_n 0, 1) := by decide +kernel
theorem dMo_workOut_101 : decode kMo_workOut.2.1 101 = .ok (.getfield 142, 3) := by decide +kernel
theorem dMo_workOut_104 : decode kMo_workOut.2.1 104 = .ok (.iload_n 1, 1) := by decide +kernel
theorem dMo_workOut_105 : decode kMo_workOut.2.1 105 = .ok (.aaload, 1) := by decide +kernel
theorem dMo_workOut_106 : decode kMo_workOut.2.1 106 = .ok (.iload_n 2, 1) := by decide +kernel
theorem dMo_workOut_107 : decode kMo_workOut.2.1 107 = .ok (.iload_n 3, 1) := by decide +kernel
theorem dMo_workOut_108 : decode kMo_workOut.2.1 108 = .ok (.iastore, 1) := by decide +kernel
theorem dMo_workOut_109 : decode kMo_workOut.2.1 109 = .ok (.iinc 2 1, 3) := by decide +kernel
theorem dMo_workOut_112 : decode kMo_workOut.2.1 112 = .ok (.goto (-100), 3) := by decide +kernel
theorem dMo_workOut_115 : decode kMo_workOut.2.1 115 = .ok (.iinc 1 1, 3) := by decide +kernel
theorem dMo_workOut_118 : decode kMo_workOut.2.1 118 = .ok (.goto (-116), 3) := by decide +kernel
theorem dMo_workOut_121 : decode kMo_workOut.2.1 121 = .ok (.iconst 0, 1) := by decide +kernel
theorem dMo_workOut_122 : decode kMo_workOut.2.1 122 = .ok (.istore_n 1, 1) := by decide +kernel
theorem dMo_workOut_123 : decode kMo_workOut.2.1 123 = .ok (.iload_n 1, 1) := by decide +kernel
theorem dMo_workOut_124 : decode kMo_workOut.2.1 124 = .ok (.aload_n 0, 1) := by decide +kernel
theorem dMo_workOut_125 : decode kMo_workOut.2.1 125 = .ok (.getfield 128, 3) := by decide +kernel
theorem dMo_workOut_128 : decode kMo_workOut.2.1 128 = .ok (.if_icmp .ge 80, 3) := by decide +kernel
theorem dMo_workOut_131 : decode kMo_workOut.2.1 131 = .ok (.aload_n 0, 1) := by decide +kernel
theorem dMo_workOut_132 : decode kMo_workOut.2.1 132 = .ok (.getfield 147, 3) := by decide +kernel
theorem dMo_workOut_135 : decode kMo_workOut.2.1 135 = .ok (.iload_n 1, 1) := by decide +kernel
theorem dMo_workOut_136 : decode kMo_workOut.2.1 136 = .ok (.aaload, 1) := by decide +kernel
theorem dMo_workOut_137 : decode kMo_workOut.2.1 137 = .ok (.ifnonnull 14, 3) := by decide +kernel
theorem dMo_workOut_140 : decode kMo_workOut.2.1 140 = .ok (.aload_n 0, 1) := by decide +kernel
theorem dMo_workOut_141 : decode kMo_workOut.2.1 141 = .ok (.getfield 147, 3) := by decide +kernel
theorem dMo_workOut_144 : decode kMo_workOut.2.1 144 = .ok (.iload_n 1, 1) := by decide +kernel
theorem dMo_workOut_145 : decode kMo_workOut.2.1 145 = .ok (.sipush 256, 3) := by decide +kernel
theorem dMo_workOut_148 : decode kMo_workOut.2.1 148 = .ok (.newarray .boolean, 2) := by decide +kernel
theorem dMo_workOut_150 : decode kMo_workOut.2.1 150 = .ok (.aastore, 1) := by decide +kernel
theorem dMo_workOut_151 : decode kMo_workOut.2.1 151 = .ok (.aload_n 0, 1) := by decide +kernel
theorem dMo_workOut_152 : decode kMo_workOut.2.1 152 = .ok (.iload_n 1, 1) := by decide +kernel
theorem dMo_workOut_153 : decode kMo_workOut.2.1 153 = .ok (.invokevirtual 353, 3) := by decide +kernel
theorem dMo_workOut_156 : decode kMo_workOut.2.1 156 = .ok (.iconst 0, 1) := by decide +kernel
theorem dMo_workOut_157 : decode kMo_workOut.2.1 157 = .ok (.istore_n 2, 1) := by decide +kernel
theorem dMo_workOut_158 : decode kMo_workOut.2.1 158 = .ok (.iload_n 2, 1) := by decide +kernel
theorem dMo_workOut_159 : decode kMo_workOut.2.1 159 = .ok (.aload_n 0, 1) := by decide +kernel
theorem dMo_workOut_160 : decode kMo_workOut.2.1 160 = .ok (.getfield 92, 3) := by decide +kernel
theorem dMo_workOut_163 : decode kMo_workOut.2.1 163 = .ok (.if_icmp .ge 39, 3) := by decide +kernel
theorem dMo_workOut_166 : decode kMo_workOut.2.1 166 = .ok (.aload_n 0, 1) := by decide +kernel
theorem dMo_workOut_167 : decode kMo_workOut.2.1 167 = .ok (.getfield 80, 3) := by decide +kernel
theorem dMo_workOut_170 : decode kMo_workOut.2.1 170 = .ok (.iload_n 2, 1) := by decide +kernel
theorem dMo_workOut_171 : decode kMo_workOut.2.1 171 = .ok (.iaload, 1) := by decide +kernel
theorem dMo_workOut_172 : decode kMo_workOut.2.1 172 = .ok (.iload_n 1, 1) := by decide +kernel
theorem dMo_workOut_173 : decode kMo_workOut.2.1 173 = .ok (.if_icmp .ne 23, 3) := by decide +kernel
theorem dMo_workOut_176 : decode kMo_workOut.2.1 176 = .ok (.aload_n 0, 1) := by decide +kernel
theorem dMo_workOut_177 : decode kMo_workOut.2.1 177 = .ok (.getfield 147, 3) := by decide +kernel
theorem dMo_workOut_180 : decode kMo_workOut.2.1 180 = .ok (.iload_n 1, 1) := by decide +kernel
theorem dMo_workOut_181 : decode kMo_workOut.2.1 181 = .ok (.aaload, 1) := by decide +kernel
theorem dMo_workOut_182 : decode kMo_workOut.2.1 182 = .ok (.iconst 0, 1) := by decide +kernel
theorem dMo_workOut_183 : decode kMo_workOut.2.1 183 = .ok (.aload_n 0, 1) := by decide +kernel
theorem dMo_workOut_184 : decode kMo_workOut.2.1 184 = .ok (.getfield 155, 3) := by decide +kernel
theorem dMo_workOut_187 : decode kMo_workOut.2.1 187 = .ok (.iload_n 2, 1) := by decide +kernel
theorem dMo_workOut_188 : decode kMo_workOut.2.1 188 = .ok (.aaload, 1) := by decide +kernel
theorem dMo_workOut_189 : decode kMo_workOut.2.1 189 = .ok (.iconst 0, 1) := by decide +kernel
theorem dMo_workOut_190 : decode kMo_workOut.2.1 190 = .ok (.sipush 256, 3) := by decide +kernel
theorem dMo_workOut_193 : decode kMo_workOut.2.1 193 = .ok (.invokestatic 356, 3) := by decide +kernel
theorem dMo_workOut_196 : decode kMo_workOut.2.1 196 = .ok (.iinc 2 1, 3) := by decide +kernel
theorem dMo_workOut_199 : decode kMo_workOut.2.1 199 = .ok (.goto (-41), 3) := by decide +kernel
theorem dMo_workOut_202 : decode kMo_workOut.2.1 202 = .ok (.iinc 1 1, 3) := by decide +kernel
theorem dMo_workOut_205 : decode kMo_workOut.2.1 205 = .ok (.goto (-82), 3) := by decide +kernel
theorem dMo_workOut_208 : decode kMo_workOut.2.1 208 = .ok (.return_, 1) := by decide +kernel
theorem dMo_all_0 : decode kMo_all.2.1 0 = .ok (.iconst 1, 1) := by decide +kernel
theorem dMo_all_1 : decode kMo_all.2.1 1 = .ok (.aload_n 0, 1) := by decide +kernel
theorem dMo_all_2 : decode kMo_all.2.1 2 = .ok (.getfield 95, 3) := by decide +kernel
theorem dMo_all_5 : decode kMo_all.2.1 5 = .ok (.ishl, 1) := by decide +kernel
theorem dMo_all_6 : decode kMo_all.2.1 6 = .ok (.ireturn, 1) := by decide +kernel
theorem dMo_allInputs_0 : decode kMo_allInputs.2.1 0 = .ok (.iconst 1, 1) := by decide +kernel
theorem dMo_allInputs_1 : decode kMo_allInputs.2.1 1 = .ok (.aload_n 0, 1) := by decide +kernel
theorem dMo_allInputs_2 : decode kMo_allInputs.2.1 2 = .ok (.getfield 98, 3) := by decide +kernel
theorem dMo_allInputs_5 : decode kMo_allInputs.2.1 5 = .ok (.ishl, 1) := by decide +kernel
theorem dMo_allInputs_6 : decode kMo_allInputs.2.1 6 = .ok (.ireturn, 1) := by decide +kernel
theorem dMo_set_0 : decode kMo_set.2.1 0 = .ok (.iload_n 1, 1) := by decide +kernel
theorem dMo_set_1 : decode kMo_set.2.1 1 = .ok (.istore_n 3, 1) := by decide +kernel
theorem dMo_set_2 : decode kMo_set.2.1 2 = .ok (.aload_n 0, 1) := by decide +kernel
theorem dMo_set_3 : decode kMo_set.2.1 3 = .ok (.getfield 83, 3) := by decide +kernel
theorem dMo_set_6 : decode kMo_set.2.1 6 = .ok (.iconst 1, 1) := by decide +kernel
theorem dMo_set_7 : decode kMo_set.2.1 7 = .ok (.isub, 1) := by decide +kernel
theorem dMo_set_8 : decode kMo_set.2.1 8 = .ok (.istore 4, 2) := by decide +kernel
theorem dMo_set_10 : decode kMo_set.2.1 10 = .ok (.iload 4, 2) := by decide +kernel
theorem dMo_set_12 : decode kMo_set.2.1 12 = .ok (.ifCond .lt 39, 3) := by decide +kernel
theorem dMo_set_15 : decode kMo_set.2.1 15 = .ok (.aload_n 0, 1) := by decide +kernel
theorem dMo_set_16 : decode kMo_set.2.1 16 = .ok (.getfield 131, 3) := by decide +kernel
theorem dMo_set_19 : decode kMo_set.2.1 19 = .ok (.iload 4, 2) := by decide +kernel
theorem dMo_set_21 : decode kMo_set.2.1 21 = .ok (.iload_n 3, 1) := by decide +kernel
theorem dMo_set_22 : decode kMo_set.2.1 22 = .ok (.iconst 1, 1) := by decide +kernel
theorem dMo_set_23 : decode kMo_set.2.1 23 = .ok (.aload_n 0, 1) := by decide +kernel
theorem dMo_set_24 : decode kMo_set.2.1 24 = .ok (.getfield 65, 3) := by decide +kernel
theorem dMo_set_27 : decode kMo_set.2.1 27 = .ok (.iload 4, 2) := by decide +kernel
theorem dMo_set_29 : decode kMo_set.2.1 29 = .ok (.iaload, 1) := by decide +kernel
theorem dMo_set_30 : decode kMo_set.2.1 30 = .ok (.ishl, 1) := by decide +kernel
theorem dMo_set_31 : decode kMo_set.2.1 31 = .ok (.iconst 1, 1) := by decide +kernel
theorem dMo_set_32 : decode kMo_set.2.1 32 = .ok (.isub, 1) := by decide +kernel
theorem dMo_set_33 : decode kMo_set.2.1 33 = .ok (.iand, 1) := by decide +kernel
theorem dMo_set_34 : decode kMo_set.2.1 34 = .ok (.iastore, 1) := by decide +kernel
theorem dMo_set_35 : decode kMo_set.2.1 35 = .ok (.iload_n 3, 1) := by decide +kernel
theorem dMo_set_36 : decode kMo_set.2.1 36 = .ok (.aload_n 0, 1) := by decide +kernel
theorem dMo_set_37 : decode kMo_set.2.1 37 = .ok (.getfield 65, 3) := by decide +kernel
theorem dMo_set_40 : decode kMo_set.2.1 40 = .ok (.iload 4, 2) := by decide +kernel
theorem dMo_set_42 : decode kMo_set.2.1 42 = .ok (.iaload, 1) := by decide +kernel
theorem dMo_set_43 : decode kMo_set.2.1 43 = .ok (.ishr, 1) := by decide +kernel
theorem dMo_set_44 : decode kMo_set.2.1 44 = .ok (.istore_n 3, 1) := by decide +kernel
theorem dMo_set_45 : decode kMo_set.2.1 45 = .ok (.iinc 4 (-1), 3) := by decide +kernel
theorem dMo_set_48 : decode kMo_set.2.1 48 = .ok (.goto (-38), 3) := by decide +kernel
theorem dMo_set_51 : decode kMo_set.2.1 51 = .ok (.iload_n 2, 1) := by decide +kernel
theorem dMo_set_52 : decode kMo_set.2.1 52 = .ok (.istore_n 3, 1) := by decide +kernel
theorem dMo_set_53 : decode kMo_set.2.1 53 = .ok (.aload_n 0, 1) := by decide +kernel
theorem dMo_set_54 : decode kMo_set.2.1 54 = .ok (.getfield 86, 3) := by decide +kernel
theorem dMo_set_57 : decode kMo_set.2.1 57 = .ok (.iconst 1, 1) := by decide +kernel
theorem dMo_set_58 : decode kMo_set.2.1 58 = .ok (.isub, 1) := by decide +kernel
theorem dMo_set_59 : decode kMo_set.2.1 59 = .ok (.istore 4, 2) := by decide +kernel
theorem dMo_set_61 : decode kMo_set.2.1 61 = .ok (.iload 4, 2) := by decide +kernel
theorem dMo_set_63 : decode kMo_set.2.1 63 = .ok (.ifCond .lt 39, 3) := by decide +kernel
theorem dMo_set_66 : decode kMo_set.2.1 66 = .ok (.aload_n 0, 1) := by decide +kernel
theorem dMo_set_67 : decode kMo_set.2.1 67 = .ok (.getfield 134, 3) := by decide +kernel
theorem dMo_set_70 : decode kMo_set.2.1 70 = .ok (.iload 4, 2) := by decide +kernel
theorem dMo_set_72 : decode kMo_set.2.1 72 = .ok (.iload_n 3, 1) := by decide +kernel
theorem dMo_set_73 : decode kMo_set.2.1 73 = .ok (.iconst 1, 1) := by decide +kernel
theorem dMo_set_74 : decode kMo_set.2.1 74 = .ok (.aload_n 0, 1) := by decide +kernel
theorem dMo_set_75 : decode kMo_set.2.1 75 = .ok (.getfield 74, 3) := by decide +kernel
theorem dMo_set_78 : decode kMo_set.2.1 78 = .ok (.iload 4, 2) := by decide +kernel
theorem dMo_set_80 : decode kMo_set.2.1 80 = .ok (.iaload, 1) := by decide +kernel
theorem dMo_set_81 : decode kMo_set.2.1 81 = .ok (.ishl, 1) := by decide +kernel
theorem dMo_set_82 : decode kMo_set.2.1 82 = .ok (.iconst 1, 1) := by decide +kernel
theorem dMo_set_83 : decode kMo_set.2.1 83 = .ok (.isub, 1) := by decide +kernel
theorem dMo_set_84 : decode kMo_set.2.1 84 = .ok (.iand, 1) := by decide +kernel
theorem dMo_set_85 : decode kMo_set.2.1 85 = .ok (.iastore, 1) := by decide +kernel
theorem dMo_set_86 : decode kMo_set.2.1 86 = .ok (.iload_n 3, 1) := by decide +kernel
theorem dMo_set_87 : decode kMo_set.2.1 87 = .ok (.aload_n 0, 1) := by decide +kernel
theorem dMo_set_88 : decode kMo_set.2.1 88 = .ok (.getfield 74, 3) := by decide +kernel
theorem dMo_set_91 : decode kMo_set.2.1 91 = .ok (.iload 4, 2) := by decide +kernel
theorem dMo_set_93 : decode kMo_set.2.1 93 = .ok (.iaload, 1) := by decide +kernel
theorem dMo_set_94 : decode kMo_set.2.1 94 = .ok (.ishr, 1) := by decide +kernel
theorem dMo_set_95 : decode kMo_set.2.1 95 = .ok (.istore_n 3, 1) := by decide +kernel
theorem dMo_set_96 : decode kMo_set.2.1 96 = .ok (.iinc 4 (-1), 3) := by decide +kernel
theorem dMo_set_99 : decode kMo_set.2.1 99 = .ok (.goto (-38), 3) := by decide +kernel
theorem dMo_set_102 : decode kMo_set.2.1 102 = .ok (.iconst 0, 1) := by decide +kernel
theorem dMo_set_103 : decode kMo_set.2.1 103 = .ok (.istore 4, 2) := by decide +kernel
theorem dMo_set_105 : decode kMo_set.2.1 105 = .ok (.iload 4, 2) := by decide +kernel
theorem dMo_set_107 : decode kMo_set.2.1 107 = .ok (.aload_n 0, 1) := by decide +kernel
theorem dMo_set_108 : decode kMo_set.2.1 108 = .ok (.getfield 89, 3) := by decide +kernel
theorem dMo_set_111 : decode kMo_set.2.1 111 = .ok (.if_icmp .ge 27, 3) := by decide +kernel
theorem dMo_set_114 : decode kMo_set.2.1 114 = .ok (.aload_n 0, 1) := by decide +kernel
theorem dMo_set_115 : decode kMo_set.2.1 115 = .ok (.getfield 137, 3) := by decide +kernel
theorem dMo_set_118 : decode kMo_set.2.1 118 = .ok (.iload 4, 2) := by decide +kernel
theorem dMo_set_120 : decode kMo_set.2.1 120 = .ok (.aload_n 0, 1) := by decide +kernel
theorem dMo_set_121 : decode kMo_set.2.1 121 = .ok (.aload_n 0, 1) := by decide +kernel
theorem dMo_set_122 : decode kMo_set.2.1 122 = .ok (.getfield 77, 3) := by decide +kernel
theorem dMo_set_125 : decode kMo_set.2.1 125 = .ok (.iload 4, 2) := by decide +kernel
theorem dMo_set_127 : decode kMo_set.2.1 127 = .ok (.iaload, 1) := by decide +kernel
theorem dMo_set_128 : decode kMo_set.2.1 128 = .ok (.invokevirtual 339, 3) := by decide +kernel
theorem dMo_set_131 : decode kMo_set.2.1 131 = .ok (.iastore, 1) := by decide +kernel
theorem dMo_set_132 : decode kMo_set.2.1 132 = .ok (.iinc 4 1, 3) := by decide +kernel
theorem dMo_set_135 : decode kMo_set.2.1 135 = .ok (.goto (-30), 3) := by decide +kernel
theorem dMo_set_138 : decode kMo_set.2.1 138 = .ok (.return_, 1) := by decide +kernel
theorem dMo_value_0 : decode kMo_value.2.1 0 = .ok (.aload_n 0, 1) := by decide +kernel
theorem dMo_value_1 : decode kMo_value.2.1 1 = .ok (.getfield 101, 3) := by decide +kernel
theorem dMo_value_4 : decode kMo_value.2.1 4 = .ok (.iload_n 1, 1) := by decide +kernel
theorem dMo_value_5 : decode kMo_value.2.1 5 = .ok (.iaload, 1) := by decide +kernel
theorem dMo_value_6 : decode kMo_value.2.1 6 = .ok (.tableswitch 245 0 3 #[30, 37, 122, 184], 30) := by decide +kernel
theorem dMo_value_36 : decode kMo_value.2.1 36 = .ok (.aload_n 0, 1) := by decide +kernel
theorem dMo_value_37 : decode kMo_value.2.1 37 = .ok (.getfield 104, 3) := by decide +kernel
theorem dMo_value_40 : decode kMo_value.2.1 40 = .ok (.iload_n 1, 1) := by decide +kernel
theorem dMo_value_41 : decode kMo_value.2.1 41 = .ok (.iaload, 1) := by decide +kernel
theorem dMo_value_42 : decode kMo_value.2.1 42 = .ok (.ireturn, 1) := by decide +kernel
theorem dMo_value_43 : decode kMo_value.2.1 43 = .ok (.aload_n 0, 1) := by decide +kernel
theorem dMo_value_44 : decode kMo_value.2.1 44 = .ok (.getfield 56, 3) := by decide +kernel
theorem dMo_value_47 : decode kMo_value.2.1 47 = .ok (.aload_n 0, 1) := by decide +kernel
theorem dMo_value_48 : decode kMo_value.2.1 48 = .ok (.getfield 104, 3) := by decide +kernel
theorem dMo_value_51 : decode kMo_value.2.1 51 = .ok (.iload_n 1, 1) := by decide +kernel
theorem dMo_value_52 : decode kMo_value.2.1 52 = .ok (.iaload, 1) := by decide +kernel
theorem dMo_value_53 : decode kMo_value.2.1 53 = .ok (.iaload, 1) := by decide +kernel
theorem dMo_value_54 : decode kMo_value.2.1 54 = .ok (.iconst 1, 1) := by decide +kernel
theorem dMo_value_55 : decode kMo_value.2.1 55 = .ok (.if_icmp .ne 22, 3) := by decide +kernel
theorem dMo_value_58 : decode kMo_value.2.1 58 = .ok (.aload_n 0, 1) := by decide +kernel
theorem dMo_value_59 : decode kMo_value.2.1 59 = .ok (.getfield 131, 3) := by decide +kernel
theorem dMo_value_62 : decode kMo_value.2.1 62 = .ok (.aload_n 0, 1) := by decide +kernel
theorem dMo_value_63 : decode kMo_value.2.1 63 = .ok (.getfield 59, 3) := by decide +kernel
theorem dMo_value_66 : decode kMo_value.2.1 66 = .ok (.aload_n 0, 1) := by decide +kernel
theorem dMo_value_67 : decode kMo_value.2.1 67 = .ok (.getfield 104, 3) := by decide +kernel
theorem dMo_value_70 : decode kMo_value.2.1 70 = .ok (.iload_n 1, 1) := by decide +kernel
theorem dMo_value_71 : decode kMo_value.2.1 71 = .ok (.iaload, 1) := by decide +kernel
theorem dMo_value_72 : decode kMo_value.2.1 72 = .ok (.iaload, 1) := by decide +kernel
theorem dMo_value_73 : decode kMo_value.2.1 73 = .ok (.iaload, 1) := by decide +kernel
theorem dMo_value_74 : decode kMo_value.2.1 74 = .ok (.goto 53, 3) := by decide +kernel
theorem dMo_value_77 : decode kMo_value.2.1 77 = .ok (.aload_n 0, 1) := by decide +kernel
theorem dMo_value_78 : decode kMo_value.2.1 78 = .ok (.getfield 56, 3) := by decide +kernel
theorem dMo_value_81 : decode kMo_value.2.1 81 = .ok (.aload_n 0, 1) := by decide +kernel
theorem dMo_value_82 : decode kMo_value.2.1 82 = .ok (.getfield 104, 3) := by decide +kernel
theorem dMo_value_85 : decode kMo_value.2.1 85 = .ok (.iload_n 1, 1) := by decide +kernel
theorem dMo_value_86 : decode kMo_value.2.1 86 = .ok (.iaload, 1) := by decide +kernel
theorem dMo_value_87 : decode kMo_value.2.1 87 = .ok (.iaload, 1) := by decide +kernel
theorem dMo_value_88 : decode kMo_value.2.1 88 = .ok (.iconst 2, 1) := by decide +kernel
theorem dMo_value_89 : decode kMo_value.2.1 89 = .ok (.if_icmp .ne 22, 3) := by decide +kernel
theorem dMo_value_92 : decode kMo_value.2.1 92 = .ok (.aload_n 0, 1) := by decide +kernel
theorem dMo_value_93 : decode kMo_value.2.1 93 = .ok (.getfield 134, 3) := by decide +kernel
theorem dMo_value_96 : decode kMo_value.2.1 96 = .ok (.aload_n 0, 1) := by decide +kernel
theorem dMo_value_97 : decode kMo_value.2.1 97 = .ok (.getfield 59, 3) := by decide +kernel
theorem dMo_value_100 : decode kMo_value.2.1 100 = .ok (.aload_n 0, 1) := by decide +kernel
theorem dMo_value_101 : decode kMo_value.2.1 101 = .ok (.getfield 104, 3) := by decide +kernel
theorem dMo_value_104 : decode kMo_value.2.1 104 = .ok (.iload_n 1, 1) := by decide +kernel
theorem dMo_value_105 : decode kMo_value.2.1 105 = .ok (.iaload, 1) := by decide +kernel
theorem dMo_value_106 : decode kMo_value.2.1 106 = .ok (.iaload, 1) := by decide +kernel
theorem dMo_value_107 : decode kMo_value.2.1 107 = .ok (.iaload, 1) := by decide +kernel
theorem dMo_value_108 : decode kMo_value.2.1 108 = .ok (.goto 19, 3) := by decide +kernel
theorem dMo_value_111 : decode kMo_value.2.1 111 = .ok (.aload_n 0, 1) := by decide +kernel
theorem dMo_value_112 : decode kMo_value.2.1 112 = .ok (.getfield 137, 3) := by decide +kernel
theorem dMo_value_115 : decode kMo_value.2.1 115 = .ok (.aload_n 0, 1) := by decide +kernel
theorem dMo_value_116 : decode kMo_value.2.1 116 = .ok (.getfield 59, 3) := by decide +kernel
theorem dMo_value_119 : decode kMo_value.2.1 119 = .ok (.aload_n 0, 1) := by decide +kernel
theorem dMo_value_120 : decode kMo_value.2.1 120 = .ok (.getfield 104, 3) := by decide +kernel
theorem dMo_value_123 : decode kMo_value.2.1 123 = .ok (.iload_n 1, 1) := by decide +kernel
theorem dMo_value_124 : decode kMo_value.2.1 124 = .ok (.iaload, 1) := by decide +kernel
theorem dMo_value_125 : decode kMo_value.2.1 125 = .ok (.iaload, 1) := by decide +kernel
theorem dMo_value_126 : decode kMo_value.2.1 126 = .ok (.iaload, 1) := by decide +kernel
theorem dMo_value_127 : decode kMo_value.2.1 127 = .ok (.ireturn, 1) := by decide +kernel
theorem dMo_value_128 : decode kMo_value.2.1 128 = .ok (.aload_n 0, 1) := by decide +kernel
theorem dMo_value_129 : decode kMo_value.2.1 129 = .ok (.aload_n 0, 1) := by decide +kernel
theorem dMo_value_130 : decode kMo_value.2.1 130 = .ok (.getfield 107, 3) := by decide +kernel
theorem dMo_value_133 : decode kMo_value.2.1 133 = .ok (.iload_n 1, 1) := by decide +kernel
theorem dMo_value_134 : decode kMo_value.2.1 134 = .ok (.iaload, 1) := by decide +kernel
theorem dMo_value_135 : decode kMo_value.2.1 135 = .ok (.invokevirtual 339, 3) := by decide +kernel
theorem dMo_value_138 : decode kMo_value.2.1 138 = .ok (.istore_n 2, 1) := by decide +kernel
theorem dMo_value_139 : decode kMo_value.2.1 139 = .ok (.aload_n 0, 1) := by decide +kernel
theorem dMo_value_140 : decode kMo_value.2.1 140 = .ok (.getfield 104, 3) := by decide +kernel
theorem dMo_value_143 : decode kMo_value.2.1 143 = .ok (.iload_n 1, 1) := by decide +kernel
theorem dMo_value_144 : decode kMo_value.2.1 144 = .ok (.iaload, 1) := by decide +kernel
theorem dMo_value_145 : decode kMo_value.2.1 145 = .ok (.bipush 45, 2) := by decide +kernel
theorem dMo_value_147 : decode kMo_value.2.1 147 = .ok (.if_icmp .ne 12, 3) := by decide +kernel
theorem dMo_value_150 : decode kMo_value.2.1 150 = .ok (.iload_n 2, 1) := by decide +kernel
theorem dMo_value_151 : decode kMo_value.2.1 151 = .ok (.ineg, 1) := by decide +kernel
theorem dMo_value_152 : decode kMo_value.2.1 152 = .ok (.sipush 255, 3) := by decide +kernel
theorem dMo_value_155 : decode kMo_value.2.1 155 = .ok (.iand, 1) := by decide +kernel
theorem dMo_value_156 : decode kMo_value.2.1 156 = .ok (.goto 33, 3) := by decide +kernel
theorem dMo_value_159 : decode kMo_value.2.1 159 = .ok (.aload_n 0, 1) := by decide +kernel
theorem dMo_value_160 : decode kMo_value.2.1 160 = .ok (.getfield 104, 3) := by decide +kernel
theorem dMo_value_163 : decode kMo_value.2.1 163 = .ok (.iload_n 1, 1) := by decide +kernel
theorem dMo_value_164 : decode kMo_value.2.1 164 = .ok (.iaload, 1) := by decide +kernel
theorem dMo_value_165 : decode kMo_value.2.1 165 = .ok (.bipush 126, 2) := by decide +kernel
theorem dMo_value_167 : decode kMo_value.2.1 167 = .ok (.if_icmp .ne 13, 3) := by decide +kernel
theorem dMo_value_170 : decode kMo_value.2.1 170 = .ok (.iload_n 2, 1) := by decide +kernel
theorem dMo_value_171 : decode kMo_value.2.1 171 = .ok (.iconst (-1), 1) := by decide +kernel
theorem dMo_value_172 : decode kMo_value.2.1 172 = .ok (.ixor, 1) := by decide +kernel
theorem dMo_value_173 : decode kMo_value.2.1 173 = .ok (.sipush 255, 3) := by decide +kernel
theorem dMo_value_176 : decode kMo_value.2.1 176 = .ok (.iand, 1) := by decide +kernel
theorem dMo_value_177 : decode kMo_value.2.1 177 = .ok (.goto 12, 3) := by decide +kernel
theorem dMo_value_180 : decode kMo_value.2.1 180 = .ok (.iload_n 2, 1) := by decide +kernel
theorem dMo_value_181 : decode kMo_value.2.1 181 = .ok (.ifCond .ne 7, 3) := by decide +kernel
theorem dMo_value_184 : decode kMo_value.2.1 184 = .ok (.iconst 1, 1) := by decide +kernel
theorem dMo_value_185 : decode kMo_value.2.1 185 = .ok (.goto 4, 3) := by decide +kernel
theorem dMo_value_188 : decode kMo_value.2.1 188 = .ok (.iconst 0, 1) := by decide +kernel
theorem dMo_value_189 : decode kMo_value.2.1 189 = .ok (.ireturn, 1) := by decide +kernel
theorem dMo_value_190 : decode kMo_value.2.1 190 = .ok (.aload_n 0, 1) := by decide +kernel
theorem dMo_value_191 : decode kMo_value.2.1 191 = .ok (.aload_n 0, 1) := by decide +kernel
theorem dMo_value_192 : decode kMo_value.2.1 192 = .ok (.getfield 107, 3) := by decide +kernel
theorem dMo_value_195 : decode kMo_value.2.1 195 = .ok (.iload_n 1, 1) := by decide +kernel
theorem dMo_value_196 : decode kMo_value.2.1 196 = .ok (.iaload, 1) := by decide +kernel
theorem dMo_value_197 : decode kMo_value.2.1 197 = .ok (.invokevirtual 339, 3) := by decide +kernel
theorem dMo_value_200 : decode kMo_value.2.1 200 = .ok (.istore_n 3, 1) := by decide +kernel
theorem dMo_value_201 : decode kMo_value.2.1 201 = .ok (.aload_n 0, 1) := by decide +kernel
theorem dMo_value_202 : decode kMo_value.2.1 202 = .ok (.getfield 110, 3) := by decide +kernel
theorem dMo_value_205 : decode kMo_value.2.1 205 = .ok (.aload_n 0, 1) := by decide +kernel
theorem dMo_value_206 : decode kMo_value.2.1 206 = .ok (.getfield 107, 3) := by decide +kernel
theorem dMo_value_209 : decode kMo_value.2.1 209 = .ok (.iload_n 1, 1) := by decide +kernel
theorem dMo_value_210 : decode kMo_value.2.1 210 = .ok (.iaload, 1) := by decide +kernel
theorem dMo_value_211 : decode kMo_value.2.1 211 = .ok (.iaload, 1) := by decide +kernel
theorem dMo_value_212 : decode kMo_value.2.1 212 = .ok (.istore 4, 2) := by decide +kernel
theorem dMo_value_214 : decode kMo_value.2.1 214 = .ok (.iload 4, 2) := by decide +kernel
theorem dMo_value_216 : decode kMo_value.2.1 216 = .ok (.ifCond .lt 33, 3) := by decide +kernel
theorem dMo_value_219 : decode kMo_value.2.1 219 = .ok (.aload_n 0, 1) := by decide +kernel
theorem dMo_value_220 : decode kMo_value.2.1 220 = .ok (.getfield 113, 3) := by decide +kernel
theorem dMo_value_223 : decode kMo_value.2.1 223 = .ok (.iload 4, 2) := by decide +kernel
theorem dMo_value_225 : decode kMo_value.2.1 225 = .ok (.iaload, 1) := by decide +kernel
theorem dMo_value_226 : decode kMo_value.2.1 226 = .ok (.iload_n 3, 1) := by decide +kernel
theorem dMo_value_227 : decode kMo_value.2.1 227 = .ok (.aload_n 0, 1) := by decide +kernel
theorem dMo_value_228 : decode kMo_value.2.1 228 = .ok (.iload 4, 2) := by decide +kernel
theorem dMo_value_230 : decode kMo_value.2.1 230 = .ok (.invokevirtual 339, 3) := by decide +kernel
theorem dMo_value_233 : decode kMo_value.2.1 233 = .ok (.invokestatic 342, 3) := by decide +kernel
theorem dMo_value_236 : decode kMo_value.2.1 236 = .ok (.istore_n 3, 1) := by decide +kernel
theorem dMo_value_237 : decode kMo_value.2.1 237 = .ok (.aload_n 0, 1) := by decide +kernel
theorem dMo_value_238 : decode kMo_value.2.1 238 = .ok (.getfield 110, 3) := by decide +kernel
theorem dMo_value_241 : decode kMo_value.2.1 241 = .ok (.iload 4, 2) := by decide +kernel
theorem dMo_value_243 : decode kMo_value.2.1 243 = .ok (.iaload, 1) := by decide +kernel
theorem dMo_value_244 : decode kMo_value.2.1 244 = .ok (.istore 4, 2) := by decide +kernel
theorem dMo_value_246 : decode kMo_value.2.1 246 = .ok (.goto (-32), 3) := by decide +kernel
theorem dMo_value_249 : decode kMo_value.2.1 249 = .ok (.iload_n 3, 1) := by decide +kernel
theorem dMo_value_250 : decode kMo_value.2.1 250 = .ok (.ireturn, 1) := by decide +kernel
theorem dMo_value_251 : decode kMo_value.2.1 251 = .ok (.aload_n 0, 1) := by decide +kernel
theorem dMo_value_252 : decode kMo_value.2.1 252 = .ok (.getfield 107, 3) := by decide +kernel
theorem dMo_value_255 : decode kMo_value.2.1 255 = .ok (.iload_n 1, 1) := by decide +kernel
theorem dMo_value_256 : decode kMo_value.2.1 256 = .ok (.iaload, 1) := by decide +kernel
theorem dMo_value_257 : decode kMo_value.2.1 257 = .ok (.istore 4, 2) := by decide +kernel
theorem dMo_value_259 : decode kMo_value.2.1 259 = .ok (.aload_n 0, 1) := by decide +kernel
theorem dMo_value_260 : decode kMo_value.2.1 260 = .ok (.iload 4, 2) := by decide +kernel
theorem dMo_value_262 : decode kMo_value.2.1 262 = .ok (.invokevirtual 339, 3) := by decide +kernel
theorem dMo_value_265 : decode kMo_value.2.1 265 = .ok (.ifCond .eq 17, 3) := by decide +kernel
theorem dMo_value_268 : decode kMo_value.2.1 268 = .ok (.aload_n 0, 1) := by decide +kernel
theorem dMo_value_269 : decode kMo_value.2.1 269 = .ok (.aload_n 0, 1) := by decide +kernel
theorem dMo_value_270 : decode kMo_value.2.1 270 = .ok (.getfield 110, 3) := by decide +kernel
theorem dMo_value_273 : decode kMo_value.2.1 273 = .ok (.iload 4, 2) := by decide +kernel
theorem dMo_value_275 : decode kMo_value.2.1 275 = .ok (.iaload, 1) := by decide +kernel
theorem dMo_value_276 : decode kMo_value.2.1 276 = .ok (.invokevirtual 339, 3) := by decide +kernel
theorem dMo_value_279 : decode kMo_value.2.1 279 = .ok (.goto 19, 3) := by decide +kernel
theorem dMo_value_282 : decode kMo_value.2.1 282 = .ok (.aload_n 0, 1) := by decide +kernel
theorem dMo_value_283 : decode kMo_value.2.1 283 = .ok (.aload_n 0, 1) := by decide +kernel
theorem dMo_value_284 : decode kMo_value.2.1 284 = .ok (.getfield 110, 3) := by decide +kernel
theorem dMo_value_287 : decode kMo_value.2.1 287 = .ok (.aload_n 0, 1) := by decide +kernel
theorem dMo_value_288 : decode kMo_value.2.1 288 = .ok (.getfield 110, 3) := by decide +kernel
theorem dMo_value_291 : decode kMo_value.2.1 291 = .ok (.iload 4, 2) := by decide +kernel
theorem dMo_value_293 : decode kMo_value.2.1 293 = .ok (.iaload, 1) := by decide +kernel
theorem dMo_value_294 : decode kMo_value.2.1 294 = .ok (.iaload, 1) := by decide +kernel
theorem dMo_value_295 : decode kMo_value.2.1 295 = .ok (.invokevirtual 339, 3) := by decide +kernel
theorem dMo_value_298 : decode kMo_value.2.1 298 = .ok (.ireturn, 1) := by decide +kernel
theorem dMo_joined_0 : decode kMo_joined.2.1 0 = .ok (.iload_n 0, 1) := by decide +kernel
theorem dMo_joined_1 : decode kMo_joined.2.1 1 = .ok (.lookupswitch 285 #[(38, 167), (43, 269), (45, 277), (60, 193), (62, 215), (94, 163), (124, 159), (300, 171), (301, 182), (302, 204), (303, 226), (304, 237), (305, 255), (306, 145), (307, 131)], 131) := by decide +kernel
theorem dMo_joined_132 : decode kMo_joined.2.1 132 = .ok (.iload_n 1, 1) := by decide +kernel
theorem dMo_joined_133 : decode kMo_joined.2.1 133 = .ok (.ifCond .ne 7, 3) := by decide +kernel
theorem dMo_joined_136 : decode kMo_joined.2.1 136 = .ok (.iload_n 2, 1) := by decide +kernel
theorem dMo_joined_137 : decode kMo_joined.2.1 137 = .ok (.ifCond .eq 7, 3) := by decide +kernel
theorem dMo_joined_140 : decode kMo_joined.2.1 140 = .ok (.iconst 1, 1) := by decide +kernel
theorem dMo_joined_141 : decode kMo_joined.2.1 141 = .ok (.goto 4, 3) := by decide +kernel
theorem dMo_joined_144 : decode kMo_joined.2.1 144 = .ok (.iconst 0, 1) := by decide +kernel
theorem dMo_joined_145 : decode kMo_joined.2.1 145 = .ok (.ireturn, 1) := by decide +kernel
theorem dMo_joined_146 : decode kMo_joined.2.1 146 = .ok (.iload_n 1, 1) := by decide +kernel
theorem dMo_joined_147 : decode kMo_joined.2.1 147 = .ok (.ifCond .eq 11, 3) := by decide +kernel
theorem dMo_joined_150 : decode kMo_joined.2.1 150 = .ok (.iload_n 2, 1) := by decide +kernel
theorem dMo_joined_151 : decode kMo_joined.2.1 151 = .ok (.ifCond .eq 7, 3) := by decide +kernel
theorem dMo_joined_154 : decode kMo_joined.2.1 154 = .ok (.iconst 1, 1) := by decide +kernel
theorem dMo_joined_155 : decode kMo_joined.2.1 155 = .ok (.goto 4, 3) := by decide +kernel
theorem dMo_joined_158 : decode kMo_joined.2.1 158 = .ok (.iconst 0, 1) := by decide +kernel
theorem dMo_joined_159 : decode kMo_joined.2.1 159 = .ok (.ireturn, 1) := by decide +kernel
theorem dMo_joined_160 : decode kMo_joined.2.1 160 = .ok (.iload_n 1, 1) := by decide +kernel
theorem dMo_joined_161 : decode kMo_joined.2.1 161 = .ok (.iload_n 2, 1) := by decide +kernel
theorem dMo_joined_162 : decode kMo_joined.2.1 162 = .ok (.ior, 1) := by decide +kernel
theorem dMo_joined_163 : decode kMo_joined.2.1 163 = .ok (.ireturn, 1) := by decide +kernel
theorem dMo_joined_164 : decode kMo_joined.2.1 164 = .ok (.iload_n 1, 1) := by decide +kernel
theorem dMo_joined_165 : decode kMo_joined.2.1 165 = .ok (.iload_n 2, 1) := by decide +kernel
theorem dMo_joined_166 : decode kMo_joined.2.1 166 = .ok (.ixor, 1) := by decide +kernel
theorem dMo_joined_167 : decode kMo_joined.2.1 167 = .ok (.ireturn, 1) := by decide +kernel
theorem dMo_joined_168 : decode kMo_joined.2.1 168 = .ok (.iload_n 1, 1) := by decide +kernel
theorem dMo_joined_169 : decode kMo_joined.2.1 169 = .ok (.iload_n 2, 1) := by decide +kernel
theorem dMo_joined_170 : decode kMo_joined.2.1 170 = .ok (.iand, 1) := by decide +kernel
theorem dMo_joined_171 : decode kMo_joined.2.1 171 = .ok (.ireturn, 1) := by decide +kernel
theorem dMo_joined_172 : decode kMo_joined.2.1 172 = .ok (.iload_n 1, 1) := by decide +kernel
theorem dMo_joined_173 : decode kMo_joined.2.1 173 = .ok (.iload_n 2, 1) := by decide +kernel
theorem dMo_joined_174 : decode kMo_joined.2.1 174 = .ok (.if_icmp .ne 7, 3) := by decide +kernel
theorem dMo_joined_177 : decode kMo_joined.2.1 177 = .ok (.iconst 1, 1) := by decide +kernel
theorem dMo_joined_178 : decode kMo_joined.2.1 178 = .ok (.goto 4, 3) := by decide +kernel
theorem dMo_joined_181 : decode kMo_joined.2.1 181 = .ok (.iconst 0, 1) := by decide +kernel
theorem dMo_joined_182 : decode kMo_joined.2.1 182 = .ok (.ireturn, 1) := by decide +kernel
theorem dMo_joined_183 : decode kMo_joined.2.1 183 = .ok (.iload_n 1, 1) := by decide +kernel
theorem dMo_joined_184 : decode kMo_joined.2.1 184 = .ok (.iload_n 2, 1) := by decide +kernel
theorem dMo_joined_185 : decode kMo_joined.2.1 185 = .ok (.if_icmp .eq 7, 3) := by decide +kernel
theorem dMo_joined_188 : decode kMo_joined.2.1 188 = .ok (.iconst 1, 1) := by decide +kernel
theorem dMo_joined_189 : decode kMo_joined.2.1 189 = .ok (.goto 4, 3) := by decide +kernel
theorem dMo_joined_192 : decode kMo_joined.2.1 192 = .ok (.iconst 0, 1) := by decide +kernel
theorem dMo_joined_193 : decode kMo_joined.2.1 193 = .ok (.ireturn, 1) := by decide +kernel
theorem dMo_joined_194 : decode kMo_joined.2.1 194 = .ok (.iload_n 1, 1) := by decide +kernel
theorem dMo_joined_195 : decode kMo_joined.2.1 195 = .ok (.iload_n 2, 1) := by decide +kernel
theorem dMo_joined_196 : decode kMo_joined.2.1 196 = .ok (.if_icmp .ge 7, 3) := by decide +kernel
theorem dMo_joined_199 : decode kMo_joined.2.1 199 = .ok (.iconst 1, 1) := by decide +kernel
theorem dMo_joined_200 : decode kMo_joined.2.1 200 = .ok (.goto 4, 3) := by decide +kernel
theorem dMo_joined_203 : decode kMo_joined.2.1 203 = .ok (.iconst 0, 1) := by decide +kernel
theorem dMo_joined_204 : decode kMo_joined.2.1 204 = .ok (.ireturn, 1) := by decide +kernel
theorem dMo_joined_205 : decode kMo_joined.2.1 205 = .ok (.iload_n 1, 1) := by decide +kernel
theorem dMo_joined_206 : decode kMo_joined.2.1 206 = .ok (.iload_n 2, 1) := by decide +kernel
theorem dMo_joined_207 : decode kMo_joined.2.1 207 = .ok (.if_icmp .gt 7, 3) := by decide +kernel
theorem dMo_joined_210 : decode kMo_joined.2.1 210 = .ok (.iconst 1, 1) := by decide +kernel
theorem dMo_joined_211 : decode kMo_joined.2.1 211 = .ok (.goto 4, 3) := by decide +kernel
theorem dMo_joined_214 : decode kMo_joined.2.1 214 = .ok (.iconst 0, 1) := by decide +kernel
theorem dMo_joined_215 : decode kMo_joined.2.1 215 = .ok (.ireturn, 1) := by decide +kernel
theorem dMo_joined_216 : decode kMo_joined.2.1 216 = .ok (.iload_n 1, 1) := by decide +kernel
theorem dMo_joined_217 : decode kMo_joined.2.1 217 = .ok (.iload_n 2, 1) := by decide +kernel
theorem dMo_joined_218 : decode kMo_joined.2.1 218 = .ok (.if_icmp .le 7, 3) := by decide +kernel
theorem dMo_joined_221 : decode kMo_joined.2.1 221 = .ok (.iconst 1, 1) := by decide +kernel
theorem dMo_joined_222 : decode kMo_joined.2.1 222 = .ok (.goto 4, 3) := by decide +kernel
theorem dMo_joined_225 : decode kMo_joined.2.1 225 = .ok (.iconst 0, 1) := by decide +kernel
theorem dMo_joined_226 : decode kMo_joined.2.1 226 = .ok (.ireturn, 1) := by decide +kernel
theorem dMo_joined_227 : decode kMo_joined.2.1 227 = .ok (.iload_n 1, 1) := by decide +kernel
theorem dMo_joined_228 : decode kMo_joined.2.1 228 = .ok (.iload_n 2, 1) := by decide +kernel
theorem dMo_joined_229 : decode kMo_joined.2.1 229 = .ok (.if_icmp .lt 7, 3) := by decide +kernel
theorem dMo_joined_232 : decode kMo_joined.2.1 232 = .ok (.iconst 1, 1) := by decide +kernel
theorem dMo_joined_233 : decode kMo_joined.2.1 233 = .ok (.goto 4, 3) := by decide +kernel
theorem dMo_joined_236 : decode kMo_joined.2.1 236 = .ok (.iconst 0, 1) := by decide +kernel
theorem dMo_joined_237 : decode kMo_joined.2.1 237 = .ok (.ireturn, 1) := by decide +kernel
theorem dMo_joined_238 : decode kMo_joined.2.1 238 = .ok (.iload_n 2, 1) := by decide +kernel
theorem dMo_joined_239 : decode kMo_joined.2.1 239 = .ok (.bipush 8, 2) := by decide +kernel
theorem dMo_joined_241 : decode kMo_joined.2.1 241 = .ok (.if_icmp .lt 7, 3) := by decide +kernel
theorem dMo_joined_244 : decode kMo_joined.2.1 244 = .ok (.iconst 0, 1) := by decide +kernel
theorem dMo_joined_245 : decode kMo_joined.2.1 245 = .ok (.goto 10, 3) := by decide +kernel
theorem dMo_joined_248 : decode kMo_joined.2.1 248 = .ok (.iload_n 1, 1) := by decide +kernel
theorem dMo_joined_249 : decode kMo_joined.2.1 249 = .ok (.iload_n 2, 1) := by decide +kernel
theorem dMo_joined_250 : decode kMo_joined.2.1 250 = .ok (.ishl, 1) := by decide +kernel
theorem dMo_joined_251 : decode kMo_joined.2.1 251 = .ok (.sipush 255, 3) := by decide +kernel
theorem dMo_joined_254 : decode kMo_joined.2.1 254 = .ok (.iand, 1) := by decide +kernel
theorem dMo_joined_255 : decode kMo_joined.2.1 255 = .ok (.ireturn, 1) := by decide +kernel
theorem dMo_joined_256 : decode kMo_joined.2.1 256 = .ok (.iload_n 2, 1) := by decide +kernel
theorem dMo_joined_257 : decode kMo_joined.2.1 257 = .ok (.bipush 8, 2) := by decide +kernel
theorem dMo_joined_259 : decode kMo_joined.2.1 259 = .ok (.if_icmp .lt 7, 3) := by decide +kernel
theorem dMo_joined_262 : decode kMo_joined.2.1 262 = .ok (.iconst 0, 1) := by decide +kernel
theorem dMo_joined_263 : decode kMo_joined.2.1 263 = .ok (.goto 6, 3) := by decide +kernel
theorem dMo_joined_266 : decode kMo_joined.2.1 266 = .ok (.iload_n 1, 1) := by decide +kernel
theorem dMo_joined_267 : decode kMo_joined.2.1 267 = .ok (.iload_n 2, 1) := by decide +kernel
theorem dMo_joined_268 : decode kMo_joined.2.1 268 = .ok (.ishr, 1) := by decide +kernel
theorem dMo_joined_269 : decode kMo_joined.2.1 269 = .ok (.ireturn, 1) := by decide +kernel
theorem dMo_joined_270 : decode kMo_joined.2.1 270 = .ok (.iload_n 1, 1) := by decide +kernel
theorem dMo_joined_271 : decode kMo_joined.2.1 271 = .ok (.iload_n 2, 1) := by decide +kernel
theorem dMo_joined_272 : decode kMo_joined.2.1 272 = .ok (.iadd, 1) := by decide +kernel
theorem dMo_joined_273 : decode kMo_joined.2.1 273 = .ok (.sipush 255, 3) := by decide +kernel
theorem dMo_joined_276 : decode kMo_joined.2.1 276 = .ok (.iand, 1) := by decide +kernel
theorem dMo_joined_277 : decode kMo_joined.2.1 277 = .ok (.ireturn, 1) := by decide +kernel
theorem dMo_joined_278 : decode kMo_joined.2.1 278 = .ok (.iload_n 1, 1) := by decide +kernel
theorem dMo_joined_279 : decode kMo_joined.2.1 279 = .ok (.iload_n 2, 1) := by decide +kernel
theorem dMo_joined_280 : decode kMo_joined.2.1 280 = .ok (.isub, 1) := by decide +kernel
theorem dMo_joined_281 : decode kMo_joined.2.1 281 = .ok (.sipush 255, 3) := by decide +kernel
theorem dMo_joined_284 : decode kMo_joined.2.1 284 = .ok (.iand, 1) := by decide +kernel
theorem dMo_joined_285 : decode kMo_joined.2.1 285 = .ok (.ireturn, 1) := by decide +kernel
theorem dMo_joined_286 : decode kMo_joined.2.1 286 = .ok (.iload_n 1, 1) := by decide +kernel
theorem dMo_joined_287 : decode kMo_joined.2.1 287 = .ok (.iload_n 2, 1) := by decide +kernel
theorem dMo_joined_288 : decode kMo_joined.2.1 288 = .ok (.imul, 1) := by decide +kernel
theorem dMo_joined_289 : decode kMo_joined.2.1 289 = .ok (.sipush 255, 3) := by decide +kernel
theorem dMo_joined_292 : decode kMo_joined.2.1 292 = .ok (.iand, 1) := by decide +kernel
theorem dMo_joined_293 : decode kMo_joined.2.1 293 = .ok (.ireturn, 1) := by decide +kernel
theorem dMo_judge_0 : decode kMo_judge.2.1 0 = .ok (.aload_n 0, 1) := by decide +kernel
theorem dMo_judge_1 : decode kMo_judge.2.1 1 = .ok (.getfield 147, 3) := by decide +kernel
theorem dMo_judge_4 : decode kMo_judge.2.1 4 = .ok (.iload_n 1, 1) := by decide +kernel
theorem dMo_judge_5 : decode kMo_judge.2.1 5 = .ok (.aaload, 1) := by decide +kernel
theorem dMo_judge_6 : decode kMo_judge.2.1 6 = .ok (.astore_n 2, 1) := by decide +kernel
theorem dMo_judge_7 : decode kMo_judge.2.1 7 = .ok (.aload_n 0, 1) := by decide +kernel
theorem dMo_judge_8 : decode kMo_judge.2.1 8 = .ok (.getfield 119, 3) := by decide +kernel
theorem dMo_judge_11 : decode kMo_judge.2.1 11 = .ok (.iload_n 1, 1) := by decide +kernel
theorem dMo_judge_12 : decode kMo_judge.2.1 12 = .ok (.iaload, 1) := by decide +kernel
theorem dMo_judge_13 : decode kMo_judge.2.1 13 = .ok (.bipush 12, 2) := by decide +kernel
theorem dMo_judge_15 : decode kMo_judge.2.1 15 = .ok (.if_icmp .eq 14, 3) := by decide +kernel
theorem dMo_judge_18 : decode kMo_judge.2.1 18 = .ok (.aload_n 0, 1) := by decide +kernel
theorem dMo_judge_19 : decode kMo_judge.2.1 19 = .ok (.getfield 119, 3) := by decide +kernel
theorem dMo_judge_22 : decode kMo_judge.2.1 22 = .ok (.iload_n 1, 1) := by decide +kernel
theorem dMo_judge_23 : decode kMo_judge.2.1 23 = .ok (.iaload, 1) := by decide +kernel
theorem dMo_judge_24 : decode kMo_judge.2.1 24 = .ok (.bipush 13, 2) := by decide +kernel
theorem dMo_judge_26 : decode kMo_judge.2.1 26 = .ok (.if_icmp .ne 7, 3) := by decide +kernel
theorem dMo_judge_29 : decode kMo_judge.2.1 29 = .ok (.aconst_null, 1) := by decide +kernel
theorem dMo_judge_30 : decode kMo_judge.2.1 30 = .ok (.goto 14, 3) := by decide +kernel
theorem dMo_judge_33 : decode kMo_judge.2.1 33 = .ok (.aload_n 0, 1) := by decide +kernel
theorem dMo_judge_34 : decode kMo_judge.2.1 34 = .ok (.getfield 147, 3) := by decide +kernel
theorem dMo_judge_37 : decode kMo_judge.2.1 37 = .ok (.aload_n 0, 1) := by decide +kernel
theorem dMo_judge_38 : decode kMo_judge.2.1 38 = .ok (.getfield 122, 3) := by decide +kernel
theorem dMo_judge_41 : decode kMo_judge.2.1 41 = .ok (.iload_n 1, 1) := by decide +kernel
theorem dMo_judge_42 : decode kMo_judge.2.1 42 = .ok (.iaload, 1) := by decide +kernel
theorem dMo_judge_43 : decode kMo_judge.2.1 43 = .ok (.aaload, 1) := by decide +kernel
theorem dMo_judge_44 : decode kMo_judge.2.1 44 = .ok (.astore_n 3, 1) := by decide +kernel
theorem dMo_judge_45 : decode kMo_judge.2.1 45 = .ok (.aload_n 0, 1) := by decide +kernel
theorem dMo_judge_46 : decode kMo_judge.2.1 46 = .ok (.getfield 119, 3) := by decide +kernel
theorem dMo_judge_49 : decode kMo_judge.2.1 49 = .ok (.iload_n 1, 1) := by decide +kernel
theorem dMo_judge_50 : decode kMo_judge.2.1 50 = .ok (.iaload, 1) := by decide +kernel
theorem dMo_judge_51 : decode kMo_judge.2.1 51 = .ok (.iconst 1, 1) := by decide +kernel
theorem dMo_judge_52 : decode kMo_judge.2.1 52 = .ok (.if_icmp .lt 13, 3) := by decide +kernel
theorem dMo_judge_55 : decode kMo_judge.2.1 55 = .ok (.aload_n 0, 1) := by decide +kernel
theorem dMo_judge_56 : decode kMo_judge.2.1 56 = .ok (.getfield 119, 3) := by decide +kernel
theorem dMo_judge_59 : decode kMo_judge.2.1 59 = .ok (.iload_n 1, 1) := by decide +kernel
theorem dMo_judge_60 : decode kMo_judge.2.1 60 = .ok (.iaload, 1) := by decide +kernel
theorem dMo_judge_61 : decode kMo_judge.2.1 61 = .ok (.iconst 3, 1) := by decide +kernel
theorem dMo_judge_62 : decode kMo_judge.2.1 62 = .ok (.if_icmp .le 25, 3) := by decide +kernel
theorem dMo_judge_65 : decode kMo_judge.2.1 65 = .ok (.aload_n 0, 1) := by decide +kernel
theorem dMo_judge_66 : decode kMo_judge.2.1 66 = .ok (.getfield 119, 3) := by decide +kernel
theorem dMo_judge_69 : decode kMo_judge.2.1 69 = .ok (.iload_n 1, 1) := by decide +kernel
theorem dMo_judge_70 : decode kMo_judge.2.1 70 = .ok (.iaload, 1) := by decide +kernel
theorem dMo_judge_71 : decode kMo_judge.2.1 71 = .ok (.bipush 6, 2) := by decide +kernel
theorem dMo_judge_73 : decode kMo_judge.2.1 73 = .ok (.if_icmp .eq 14, 3) := by decide +kernel
theorem dMo_judge_76 : decode kMo_judge.2.1 76 = .ok (.aload_n 0, 1) := by decide +kernel
theorem dMo_judge_77 : decode kMo_judge.2.1 77 = .ok (.getfield 119, 3) := by decide +kernel
theorem dMo_judge_80 : decode kMo_judge.2.1 80 = .ok (.iload_n 1, 1) := by decide +kernel
theorem dMo_judge_81 : decode kMo_judge.2.1 81 = .ok (.iaload, 1) := by decide +kernel
theorem dMo_judge_82 : decode kMo_judge.2.1 82 = .ok (.bipush 7, 2) := by decide +kernel
theorem dMo_judge_84 : decode kMo_judge.2.1 84 = .ok (.if_icmp .ne 17, 3) := by decide +kernel
theorem dMo_judge_87 : decode kMo_judge.2.1 87 = .ok (.aload_n 0, 1) := by decide +kernel
theorem dMo_judge_88 : decode kMo_judge.2.1 88 = .ok (.getfield 147, 3) := by decide +kernel
theorem dMo_judge_91 : decode kMo_judge.2.1 91 = .ok (.aload_n 0, 1) := by decide +kernel
theorem dMo_judge_92 : decode kMo_judge.2.1 92 = .ok (.getfield 125, 3) := by decide +kernel
theorem dMo_judge_95 : decode kMo_judge.2.1 95 = .ok (.iload_n 1, 1) := by decide +kernel
theorem dMo_judge_96 : decode kMo_judge.2.1 96 = .ok (.iaload, 1) := by decide +kernel
theorem dMo_judge_97 : decode kMo_judge.2.1 97 = .ok (.aaload, 1) := by decide +kernel
theorem dMo_judge_98 : decode kMo_judge.2.1 98 = .ok (.goto 4, 3) := by decide +kernel
theorem dMo_judge_101 : decode kMo_judge.2.1 101 = .ok (.aconst_null, 1) := by decide +kernel
theorem dMo_judge_102 : decode kMo_judge.2.1 102 = .ok (.astore 4, 2) := by decide +kernel
theorem dMo_judge_104 : decode kMo_judge.2.1 104 = .ok (.iconst 0, 1) := by decide +kernel
theorem dMo_judge_105 : decode kMo_judge.2.1 105 = .ok (.istore 5, 2) := by decide +kernel
theorem dMo_judge_107 : decode kMo_judge.2.1 107 = .ok (.iload 5, 2) := by decide +kernel
theorem dMo_judge_109 : decode kMo_judge.2.1 109 = .ok (.aload_n 0, 1) := by decide +kernel
theorem dMo_judge_110 : decode kMo_judge.2.1 110 = .ok (.invokevirtual 345, 3) := by decide +kernel
theorem dMo_judge_113 : decode kMo_judge.2.1 113 = .ok (.if_icmp .ge 268, 3) := by decide +kernel
theorem dMo_judge_116 : decode kMo_judge.2.1 116 = .ok (.aload_n 0, 1) := by decide +kernel
theorem dMo_judge_117 : decode kMo_judge.2.1 117 = .ok (.getfield 119, 3) := by decide +kernel
theorem dMo_judge_120 : decode kMo_judge.2.1 120 = .ok (.iload_n 1, 1) := by decide +kernel
theorem dMo_judge_121 : decode kMo_judge.2.1 121 = .ok (.iaload, 1) := by decide +kernel
theorem dMo_judge_122 : decode kMo_judge.2.1 122 = .ok (.tableswitch 248 0 13 #[70, 89, 116, 143, 170, 185, 248, 248, 248, 248, 240, 240, 200, 219], 70) := by decide +kernel
theorem dMo_judge_192 : decode kMo_judge.2.1 192 = .ok (.aload_n 2, 1) := by decide +kernel
theorem dMo_judge_193 : decode kMo_judge.2.1 193 = .ok (.iload 5, 2) := by decide +kernel
theorem dMo_judge_195 : decode kMo_judge.2.1 195 = .ok (.aload_n 3, 1) := by decide +kernel
theorem dMo_judge_196 : decode kMo_judge.2.1 196 = .ok (.iload 5, 2) := by decide +kernel
theorem dMo_judge_198 : decode kMo_judge.2.1 198 = .ok (.baload, 1) := by decide +kernel
theorem dMo_judge_199 : decode kMo_judge.2.1 199 = .ok (.ifCond .ne 7, 3) := by decide +kernel
theorem dMo_judge_202 : decode kMo_judge.2.1 202 = .ok (.iconst 1, 1) := by decide +kernel
theorem dMo_judge_203 : decode kMo_judge.2.1 203 = .ok (.goto 4, 3) := by decide +kernel
theorem dMo_judge_206 : decode kMo_judge.2.1 206 = .ok (.iconst 0, 1) := by decide +kernel
theorem dMo_judge_207 : decode kMo_judge.2.1 207 = .ok (.bastore, 1) := by decide +kernel
theorem dMo_judge_208 : decode kMo_judge.2.1 208 = .ok (.goto 167, 3) := by decide +kernel
theorem dMo_judge_211 : decode kMo_judge.2.1 211 = .ok (.aload_n 2, 1) := by decide +kernel
theorem dMo_judge_212 : decode kMo_judge.2.1 212 = .ok (.iload 5, 2) := by decide +kernel
theorem dMo_judge_214 : decode kMo_judge.2.1 214 = .ok (.aload_n 3, 1) := by decide +kernel
theorem dMo_judge_215 : decode kMo_judge.2.1 215 = .ok (.iload 5, 2) := by decide +kernel
theorem dMo_judge_217 : decode kMo_judge.2.1 217 = .ok (.baload, 1) := by decide +kernel
theorem dMo_judge_218 : decode kMo_judge.2.1 218 = .ok (.ifCond .eq 15, 3) := by decide +kernel
theorem dMo_judge_221 : decode kMo_judge.2.1 221 = .ok (.aload 4, 2) := by decide +kernel
theorem dMo_judge_223 : decode kMo_judge.2.1 223 = .ok (.iload 5, 2) := by decide +kernel
theorem dMo_judge_225 : decode kMo_judge.2.1 225 = .ok (.baload, 1) := by decide +kernel
theorem dMo_judge_226 : decode kMo_judge.2.1 226 = .ok (.ifCond .eq 7, 3) := by decide +kernel
theorem dMo_judge_229 : decode kMo_judge.2.1 229 = .ok (.iconst 1, 1) := by decide +kernel
theorem dMo_judge_230 : decode kMo_judge.2.1 230 = .ok (.goto 4, 3) := by decide +kernel
theorem dMo_judge_233 : decode kMo_judge.2.1 233 = .ok (.iconst 0, 1) := by decide +kernel
theorem dMo_judge_234 : decode kMo_judge.2.1 234 = .ok (.bastore, 1) := by decide +kernel
theorem dMo_judge_235 : decode kMo_judge.2.1 235 = .ok (.goto 140, 3) := by decide +kernel
theorem dMo_judge_238 : decode kMo_judge.2.1 238 = .ok (.aload_n 2, 1) := by decide +kernel
theorem dMo_judge_239 : decode kMo_judge.2.1 239 = .ok (.iload 5, 2) := by decide +kernel
theorem dMo_judge_241 : decode kMo_judge.2.1 241 = .ok (.aload_n 3, 1) := by decide +kernel
theorem dMo_judge_242 : decode kMo_judge.2.1 242 = .ok (.iload 5, 2) := by decide +kernel
theorem dMo_judge_244 : decode kMo_judge.2.1 244 = .ok (.baload, 1) := by decide +kernel
theorem dMo_judge_245 : decode kMo_judge.2.1 245 = .ok (.ifCond .ne 11, 3) := by decide +kernel
theorem dMo_judge_248 : decode kMo_judge.2.1 248 = .ok (.aload 4, 2) := by decide +kernel
theorem dMo_judge_250 : decode kMo_judge.2.1 250 = .ok (.iload 5, 2) := by decide +kernel
theorem dMo_judge_252 : decode kMo_judge.2.1 252 = .ok (.baload, 1) := by decide +kernel
theorem dMo_judge_253 : decode kMo_judge.2.1 253 = .ok (.ifCond .eq 7, 3) := by decide +kernel
theorem dMo_judge_256 : decode kMo_judge.2.1 256 = .ok (.iconst 1, 1) := by decide +kernel
theorem dMo_judge_257 : decode kMo_judge.2.1 257 = .ok (.goto 4, 3) := by decide +kernel
theorem dMo_judge_260 : decode kMo_judge.2.1 260 = .ok (.iconst 0, 1) := by decide +kernel
theorem dMo_judge_261 : decode kMo_judge.2.1 261 = .ok (.bastore, 1) := by decide +kernel
theorem dMo_judge_262 : decode kMo_judge.2.1 262 = .ok (.goto 113, 3) := by decide +kernel
theorem dMo_judge_265 : decode kMo_judge.2.1 265 = .ok (.aload_n 2, 1) := by decide +kernel
theorem dMo_judge_266 : decode kMo_judge.2.1 266 = .ok (.iload 5, 2) := by decide +kernel
theorem dMo_judge_268 : decode kMo_judge.2.1 268 = .ok (.aload_n 3, 1) := by decide +kernel
theorem dMo_judge_269 : decode kMo_judge.2.1 269 = .ok (.iload 5, 2) := by decide +kernel
theorem dMo_judge_271 : decode kMo_judge.2.1 271 = .ok (.baload, 1) := by decide +kernel
theorem dMo_judge_272 : decode kMo_judge.2.1 272 = .ok (.ifCond .eq 11, 3) := by decide +kernel
theorem dMo_judge_275 : decode kMo_judge.2.1 275 = .ok (.aload 4, 2) := by decide +kernel
theorem dMo_judge_277 : decode kMo_judge.2.1 277 = .ok (.iload 5, 2) := by decide +kernel
theorem dMo_judge_279 : decode kMo_judge.2.1 279 = .ok (.baload, 1) := by decide +kernel
theorem dMo_judge_280 : decode kMo_judge.2.1 280 = .ok (.ifCond .eq 7, 3) := by decide +kernel
theorem dMo_judge_283 : decode kMo_judge.2.1 283 = .ok (.iconst 1, 1) := by decide +kernel
theorem dMo_judge_284 : decode kMo_judge.2.1 284 = .ok (.goto 4, 3) := by decide +kernel
theorem dMo_judge_287 : decode kMo_judge.2.1 287 = .ok (.iconst 0, 1) := by decide +kernel
theorem dMo_judge_288 : decode kMo_judge.2.1 288 = .ok (.bastore, 1) := by decide +kernel
theorem dMo_judge_289 : decode kMo_judge.2.1 289 = .ok (.goto 86, 3) := by decide +kernel
theorem dMo_judge_292 : decode kMo_judge.2.1 292 = .ok (.aload_n 2, 1) := by decide +kernel
theorem dMo_judge_293 : decode kMo_judge.2.1 293 = .ok (.iload 5, 2) := by decide +kernel
theorem dMo_judge_295 : decode kMo_judge.2.1 295 = .ok (.aload_n 0, 1) := by decide +kernel
theorem dMo_judge_296 : decode kMo_judge.2.1 296 = .ok (.aload_n 3, 1) := by decide +kernel
theorem dMo_judge_297 : decode kMo_judge.2.1 297 = .ok (.iload 5, 2) := by decide +kernel
theorem dMo_judge_299 : decode kMo_judge.2.1 299 = .ok (.iconst 0, 1) := by decide +kernel
theorem dMo_judge_300 : decode kMo_judge.2.1 300 = .ok (.invokevirtual 362, 3) := by decide +kernel
theorem dMo_judge_303 : decode kMo_judge.2.1 303 = .ok (.bastore, 1) := by decide +kernel
theorem dMo_judge_304 : decode kMo_judge.2.1 304 = .ok (.goto 71, 3) := by decide +kernel
theorem dMo_judge_307 : decode kMo_judge.2.1 307 = .ok (.aload_n 2, 1) := by decide +kernel
theorem dMo_judge_308 : decode kMo_judge.2.1 308 = .ok (.iload 5, 2) := by decide +kernel
theorem dMo_judge_310 : decode kMo_judge.2.1 310 = .ok (.aload_n 0, 1) := by decide +kernel
theorem dMo_judge_311 : decode kMo_judge.2.1 311 = .ok (.aload_n 3, 1) := by decide +kernel
theorem dMo_judge_312 : decode kMo_judge.2.1 312 = .ok (.iload 5, 2) := by decide +kernel
theorem dMo_judge_314 : decode kMo_judge.2.1 314 = .ok (.iconst 1, 1) := by decide +kernel
theorem dMo_judge_315 : decode kMo_judge.2.1 315 = .ok (.invokevirtual 362, 3) := by decide +kernel
theorem dMo_judge_318 : decode kMo_judge.2.1 318 = .ok (.bastore, 1) := by decide +kernel
theorem dMo_judge_319 : decode kMo_judge.2.1 319 = .ok (.goto 56, 3) := by decide +kernel
theorem dMo_judge_322 : decode kMo_judge.2.1 322 = .ok (.aload_n 2, 1) := by decide +kernel
theorem dMo_judge_323 : decode kMo_judge.2.1 323 = .ok (.iload 5, 2) := by decide +kernel
theorem dMo_judge_325 : decode kMo_judge.2.1 325 = .ok (.aload_n 0, 1) := by decide +kernel
theorem dMo_judge_326 : decode kMo_judge.2.1 326 = .ok (.aload_n 0, 1) := by decide +kernel
theorem dMo_judge_327 : decode kMo_judge.2.1 327 = .ok (.getfield 122, 3) := by decide +kernel
theorem dMo_judge_330 : decode kMo_judge.2.1 330 = .ok (.iload_n 1, 1) := by decide +kernel
theorem dMo_judge_331 : decode kMo_judge.2.1 331 = .ok (.iaload, 1) := by decide +kernel
theorem dMo_judge_332 : decode kMo_judge.2.1 332 = .ok (.iload 5, 2) := by decide +kernel
theorem dMo_judge_334 : decode kMo_judge.2.1 334 = .ok (.invokevirtual 365, 3) := by decide +kernel
theorem dMo_judge_337 : decode kMo_judge.2.1 337 = .ok (.bastore, 1) := by decide +kernel
theorem dMo_judge_338 : decode kMo_judge.2.1 338 = .ok (.goto 37, 3) := by decide +kernel
theorem dMo_judge_341 : decode kMo_judge.2.1 341 = .ok (.aload_n 2, 1) := by decide +kernel
theorem dMo_judge_342 : decode kMo_judge.2.1 342 = .ok (.iload 5, 2) := by decide +kernel
theorem dMo_judge_344 : decode kMo_judge.2.1 344 = .ok (.aload_n 0, 1) := by decide +kernel
theorem dMo_judge_345 : decode kMo_judge.2.1 345 = .ok (.getfield 155, 3) := by decide +kernel
theorem dMo_judge_348 : decode kMo_judge.2.1 348 = .ok (.aload_n 0, 1) := by decide +kernel
theorem dMo_judge_349 : decode kMo_judge.2.1 349 = .ok (.getfield 122, 3) := by decide +kernel
theorem dMo_judge_352 : decode kMo_judge.2.1 352 = .ok (.iload_n 1, 1) := by decide +kernel
theorem dMo_judge_353 : decode kMo_judge.2.1 353 = .ok (.iaload, 1) := by decide +kernel
theorem dMo_judge_354 : decode kMo_judge.2.1 354 = .ok (.aaload, 1) := by decide +kernel
theorem dMo_judge_355 : decode kMo_judge.2.1 355 = .ok (.iload 5, 2) := by decide +kernel
theorem dMo_judge_357 : decode kMo_judge.2.1 357 = .ok (.baload, 1) := by decide +kernel
theorem dMo_judge_358 : decode kMo_judge.2.1 358 = .ok (.bastore, 1) := by decide +kernel
theorem dMo_judge_359 : decode kMo_judge.2.1 359 = .ok (.goto 16, 3) := by decide +kernel
theorem dMo_judge_362 : decode kMo_judge.2.1 362 = .ok (.aload_n 2, 1) := by decide +kernel
theorem dMo_judge_363 : decode kMo_judge.2.1 363 = .ok (.iload 5, 2) := by decide +kernel
theorem dMo_judge_365 : decode kMo_judge.2.1 365 = .ok (.iconst 1, 1) := by decide +kernel
theorem dMo_judge_366 : decode kMo_judge.2.1 366 = .ok (.bastore, 1) := by decide +kernel
theorem dMo_judge_367 : decode kMo_judge.2.1 367 = .ok (.goto 8, 3) := by decide +kernel
theorem dMo_judge_370 : decode kMo_judge.2.1 370 = .ok (.aload_n 2, 1) := by decide +kernel
theorem dMo_judge_371 : decode kMo_judge.2.1 371 = .ok (.iload 5, 2) := by decide +kernel
theorem dMo_judge_373 : decode kMo_judge.2.1 373 = .ok (.iconst 0, 1) := by decide +kernel
theorem dMo_judge_374 : decode kMo_judge.2.1 374 = .ok (.bastore, 1) := by decide +kernel
theorem dMo_judge_375 : decode kMo_judge.2.1 375 = .ok (.iinc 5 1, 3) := by decide +kernel
theorem dMo_judge_378 : decode kMo_judge.2.1 378 = .ok (.goto (-271), 3) := by decide +kernel
theorem dMo_judge_381 : decode kMo_judge.2.1 381 = .ok (.aload_n 0, 1) := by decide +kernel
theorem dMo_judge_382 : decode kMo_judge.2.1 382 = .ok (.getfield 119, 3) := by decide +kernel
theorem dMo_judge_385 : decode kMo_judge.2.1 385 = .ok (.iload_n 1, 1) := by decide +kernel
theorem dMo_judge_386 : decode kMo_judge.2.1 386 = .ok (.iaload, 1) := by decide +kernel
theorem dMo_judge_387 : decode kMo_judge.2.1 387 = .ok (.bipush 6, 2) := by decide +kernel
theorem dMo_judge_389 : decode kMo_judge.2.1 389 = .ok (.if_icmp .lt 23, 3) := by decide +kernel
theorem dMo_judge_392 : decode kMo_judge.2.1 392 = .ok (.aload_n 0, 1) := by decide +kernel
theorem dMo_judge_393 : decode kMo_judge.2.1 393 = .ok (.getfield 119, 3) := by decide +kernel
theorem dMo_judge_396 : decode kMo_judge.2.1 396 = .ok (.iload_n 1, 1) := by decide +kernel
theorem dMo_judge_397 : decode kMo_judge.2.1 397 = .ok (.iaload, 1) := by decide +kernel
theorem dMo_judge_398 : decode kMo_judge.2.1 398 = .ok (.bipush 11, 2) := by decide +kernel
theorem dMo_judge_400 : decode kMo_judge.2.1 400 = .ok (.if_icmp .gt 12, 3) := by decide +kernel
theorem dMo_judge_403 : decode kMo_judge.2.1 403 = .ok (.aload_n 0, 1) := by decide +kernel
theorem dMo_judge_404 : decode kMo_judge.2.1 404 = .ok (.iload_n 1, 1) := by decide +kernel
theorem dMo_judge_405 : decode kMo_judge.2.1 405 = .ok (.aload_n 2, 1) := by decide +kernel
theorem dMo_judge_406 : decode kMo_judge.2.1 406 = .ok (.aload_n 3, 1) := by decide +kernel
theorem dMo_judge_407 : decode kMo_judge.2.1 407 = .ok (.aload 4, 2) := by decide +kernel
theorem dMo_judge_409 : decode kMo_judge.2.1 409 = .ok (.invokevirtual 368, 3) := by decide +kernel
theorem dMo_judge_412 : decode kMo_judge.2.1 412 = .ok (.return_, 1) := by decide +kernel
theorem dMo_next2_0 : decode kMo_next2.2.1 0 = .ok (.iconst 0, 1) := by decide +kernel
theorem dMo_next2_1 : decode kMo_next2.2.1 1 = .ok (.istore 4, 2) := by decide +kernel
theorem dMo_next2_3 : decode kMo_next2.2.1 3 = .ok (.iload 4, 2) := by decide +kernel
theorem dMo_next2_5 : decode kMo_next2.2.1 5 = .ok (.aload_n 0, 1) := by decide +kernel
theorem dMo_next2_6 : decode kMo_next2.2.1 6 = .ok (.invokevirtual 348, 3) := by decide +kernel
theorem dMo_next2_9 : decode kMo_next2.2.1 9 = .ok (.if_icmp .ge 34, 3) := by decide +kernel
theorem dMo_next2_12 : decode kMo_next2.2.1 12 = .ok (.aload_n 1, 1) := by decide +kernel
theorem dMo_next2_13 : decode kMo_next2.2.1 13 = .ok (.aload_n 0, 1) := by decide +kernel
theorem dMo_next2_14 : decode kMo_next2.2.1 14 = .ok (.getfield 142, 3) := by decide +kernel
theorem dMo_next2_17 : decode kMo_next2.2.1 17 = .ok (.iload_n 2, 1) := by decide +kernel
theorem dMo_next2_18 : decode kMo_next2.2.1 18 = .ok (.aaload, 1) := by decide +kernel
theorem dMo_next2_19 : decode kMo_next2.2.1 19 = .ok (.iload 4, 2) := by decide +kernel
theorem dMo_next2_21 : decode kMo_next2.2.1 21 = .ok (.iaload, 1) := by decide +kernel
theorem dMo_next2_22 : decode kMo_next2.2.1 22 = .ok (.baload, 1) := by decide +kernel
theorem dMo_next2_23 : decode kMo_next2.2.1 23 = .ok (.iload_n 3, 1) := by decide +kernel
theorem dMo_next2_24 : decode kMo_next2.2.1 24 = .ok (.if_icmp .eq 13, 3) := by decide +kernel
theorem dMo_next2_27 : decode kMo_next2.2.1 27 = .ok (.iload_n 3, 1) := by decide +kernel
theorem dMo_next2_28 : decode kMo_next2.2.1 28 = .ok (.ifCond .ne 7, 3) := by decide +kernel
theorem dMo_next2_31 : decode kMo_next2.2.1 31 = .ok (.iconst 1, 1) := by decide +kernel
theorem dMo_next2_32 : decode kMo_next2.2.1 32 = .ok (.goto 4, 3) := by decide +kernel
theorem dMo_next2_35 : decode kMo_next2.2.1 35 = .ok (.iconst 0, 1) := by decide +kernel
theorem dMo_next2_36 : decode kMo_next2.2.1 36 = .ok (.ireturn, 1) := by decide +kernel
theorem dMo_next2_37 : decode kMo_next2.2.1 37 = .ok (.iinc 4 1, 3) := by decide +kernel
theorem dMo_next2_40 : decode kMo_next2.2.1 40 = .ok (.goto (-37), 3) := by decide +kernel
theorem dMo_next2_43 : decode kMo_next2.2.1 43 = .ok (.iload_n 3, 1) := by decide +kernel
theorem dMo_next2_44 : decode kMo_next2.2.1 44 = .ok (.ireturn, 1) := by decide +kernel
theorem dMo_always_0 : decode kMo_always.2.1 0 = .ok (.iconst 0, 1) := by decide +kernel
theorem dMo_always_1 : decode kMo_always.2.1 1 = .ok (.istore_n 3, 1) := by decide +kernel
theorem dMo_always_2 : decode kMo_always.2.1 2 = .ok (.iload_n 3, 1) := by decide +kernel
theorem dMo_always_3 : decode kMo_always.2.1 3 = .ok (.aload_n 0, 1) := by decide +kernel
theorem dMo_always_4 : decode kMo_always.2.1 4 = .ok (.invokevirtual 348, 3) := by decide +kernel
theorem dMo_always_7 : decode kMo_always.2.1 7 = .ok (.if_icmp .ge 25, 3) := by decide +kernel
theorem dMo_always_10 : decode kMo_always.2.1 10 = .ok (.aload_n 0, 1) := by decide +kernel
theorem dMo_always_11 : decode kMo_always.2.1 11 = .ok (.iload_n 2, 1) := by decide +kernel
theorem dMo_always_12 : decode kMo_always.2.1 12 = .ok (.iload_n 3, 1) := by decide +kernel
theorem dMo_always_13 : decode kMo_always.2.1 13 = .ok (.invokevirtual 351, 3) := by decide +kernel
theorem dMo_always_16 : decode kMo_always.2.1 16 = .ok (.aload_n 0, 1) := by decide +kernel
theorem dMo_always_17 : decode kMo_always.2.1 17 = .ok (.iload_n 1, 1) := by decide +kernel
theorem dMo_always_18 : decode kMo_always.2.1 18 = .ok (.invokevirtual 339, 3) := by decide +kernel
theorem dMo_always_21 : decode kMo_always.2.1 21 = .ok (.ifCond .ne 5, 3) := by decide +kernel
theorem dMo_always_24 : decode kMo_always.2.1 24 = .ok (.iconst 0, 1) := by decide +kernel
theorem dMo_always_25 : decode kMo_always.2.1 25 = .ok (.ireturn, 1) := by decide +kernel
theorem dMo_always_26 : decode kMo_always.2.1 26 = .ok (.iinc 3 1, 3) := by decide +kernel
theorem dMo_always_29 : decode kMo_always.2.1 29 = .ok (.goto (-27), 3) := by decide +kernel
theorem dMo_always_32 : decode kMo_always.2.1 32 = .ok (.iconst 1, 1) := by decide +kernel
theorem dMo_always_33 : decode kMo_always.2.1 33 = .ok (.ireturn, 1) := by decide +kernel
theorem dMo_fixed_0 : decode kMo_fixed.2.1 0 = .ok (.iconst 1, 1) := by decide +kernel
theorem dMo_fixed_1 : decode kMo_fixed.2.1 1 = .ok (.istore 5, 2) := by decide +kernel
theorem dMo_fixed_3 : decode kMo_fixed.2.1 3 = .ok (.iload 5, 2) := by decide +kernel
theorem dMo_fixed_5 : decode kMo_fixed.2.1 5 = .ok (.ifCond .eq 276, 3) := by decide +kernel
theorem dMo_fixed_8 : decode kMo_fixed.2.1 8 = .ok (.iconst 0, 1) := by decide +kernel
theorem dMo_fixed_9 : decode kMo_fixed.2.1 9 = .ok (.istore 5, 2) := by decide +kernel
theorem dMo_fixed_11 : decode kMo_fixed.2.1 11 = .ok (.iconst 0, 1) := by decide +kernel
theorem dMo_fixed_12 : decode kMo_fixed.2.1 12 = .ok (.istore 6, 2) := by decide +kernel
theorem dMo_fixed_14 : decode kMo_fixed.2.1 14 = .ok (.iload 6, 2) := by decide +kernel
theorem dMo_fixed_16 : decode kMo_fixed.2.1 16 = .ok (.aload_n 0, 1) := by decide +kernel
theorem dMo_fixed_17 : decode kMo_fixed.2.1 17 = .ok (.invokevirtual 345, 3) := by decide +kernel
theorem dMo_fixed_20 : decode kMo_fixed.2.1 20 = .ok (.if_icmp .ge 258, 3) := by decide +kernel
theorem dMo_fixed_23 : decode kMo_fixed.2.1 23 = .ok (.aload_n 0, 1) := by decide +kernel
theorem dMo_fixed_24 : decode kMo_fixed.2.1 24 = .ok (.getfield 119, 3) := by decide +kernel
theorem dMo_fixed_27 : decode kMo_fixed.2.1 27 = .ok (.iload_n 1, 1) := by decide +kernel
theorem dMo_fixed_28 : decode kMo_fixed.2.1 28 = .ok (.iaload, 1) := by decide +kernel
theorem dMo_fixed_29 : decode kMo_fixed.2.1 29 = .ok (.tableswitch 191 6 10 #[35, 71, 107, 135, 163], 35) := by decide +kernel
theorem dMo_fixed_64 : decode kMo_fixed.2.1 64 = .ok (.aload 4, 2) := by decide +kernel
theorem dMo_fixed_66 : decode kMo_fixed.2.1 66 = .ok (.iload 6, 2) := by decide +kernel
theorem dMo_fixed_68 : decode kMo_fixed.2.1 68 = .ok (.baload, 1) := by decide +kernel
theorem dMo_fixed_69 : decode kMo_fixed.2.1 69 = .ok (.ifCond .ne 21, 3) := by decide +kernel
theorem dMo_fixed_72 : decode kMo_fixed.2.1 72 = .ok (.aload_n 3, 1) := by decide +kernel
theorem dMo_fixed_73 : decode kMo_fixed.2.1 73 = .ok (.iload 6, 2) := by decide +kernel
theorem dMo_fixed_75 : decode kMo_fixed.2.1 75 = .ok (.baload, 1) := by decide +kernel
theorem dMo_fixed_76 : decode kMo_fixed.2.1 76 = .ok (.ifCond .eq 18, 3) := by decide +kernel
theorem dMo_fixed_79 : decode kMo_fixed.2.1 79 = .ok (.aload_n 0, 1) := by decide +kernel
theorem dMo_fixed_80 : decode kMo_fixed.2.1 80 = .ok (.aload_n 2, 1) := by decide +kernel
theorem dMo_fixed_81 : decode kMo_fixed.2.1 81 = .ok (.iload 6, 2) := by decide +kernel
theorem dMo_fixed_83 : decode kMo_fixed.2.1 83 = .ok (.iconst 0, 1) := by decide +kernel
theorem dMo_fixed_84 : decode kMo_fixed.2.1 84 = .ok (.invokevirtual 362, 3) := by decide +kernel
theorem dMo_fixed_87 : decode kMo_fixed.2.1 87 = .ok (.ifCond .eq 7, 3) := by decide +kernel
theorem dMo_fixed_90 : decode kMo_fixed.2.1 90 = .ok (.iconst 1, 1) := by decide +kernel
theorem dMo_fixed_91 : decode kMo_fixed.2.1 91 = .ok (.goto 4, 3) := by decide +kernel
theorem dMo_fixed_94 : decode kMo_fixed.2.1 94 = .ok (.iconst 0, 1) := by decide +kernel
theorem dMo_fixed_95 : decode kMo_fixed.2.1 95 = .ok (.istore 7, 2) := by decide +kernel
theorem dMo_fixed_97 : decode kMo_fixed.2.1 97 = .ok (.goto 148, 3) := by decide +kernel
theorem dMo_fixed_100 : decode kMo_fixed.2.1 100 = .ok (.aload 4, 2) := by decide +kernel
theorem dMo_fixed_102 : decode kMo_fixed.2.1 102 = .ok (.iload 6, 2) := by decide +kernel
theorem dMo_fixed_104 : decode kMo_fixed.2.1 104 = .ok (.baload, 1) := by decide +kernel
theorem dMo_fixed_105 : decode kMo_fixed.2.1 105 = .ok (.ifCond .ne 21, 3) := by decide +kernel
theorem dMo_fixed_108 : decode kMo_fixed.2.1 108 = .ok (.aload_n 3, 1) := by decide +kernel
theorem dMo_fixed_109 : decode kMo_fixed.2.1 109 = .ok (.iload 6, 2) := by decide +kernel
theorem dMo_fixed_111 : decode kMo_fixed.2.1 111 = .ok (.baload, 1) := by decide +kernel
theorem dMo_fixed_112 : decode kMo_fixed.2.1 112 = .ok (.ifCond .eq 18, 3) := by decide +kernel
theorem dMo_fixed_115 : decode kMo_fixed.2.1 115 = .ok (.aload_n 0, 1) := by decide +kernel
theorem dMo_fixed_116 : decode kMo_fixed.2.1 116 = .ok (.aload_n 2, 1) := by decide +kernel
theorem dMo_fixed_117 : decode kMo_fixed.2.1 117 = .ok (.iload 6, 2) := by decide +kernel
theorem dMo_fixed_119 : decode kMo_fixed.2.1 119 = .ok (.iconst 1, 1) := by decide +kernel
theorem dMo_fixed_120 : decode kMo_fixed.2.1 120 = .ok (.invokevirtual 362, 3) := by decide +kernel
theorem dMo_fixed_123 : decode kMo_fixed.2.1 123 = .ok (.ifCond .eq 7, 3) := by decide +kernel
theorem dMo_fixed_126 : decode kMo_fixed.2.1 126 = .ok (.iconst 1, 1) := by decide +kernel
theorem dMo_fixed_127 : decode kMo_fixed.2.1 127 = .ok (.goto 4, 3) := by decide +kernel
theorem dMo_fixed_130 : decode kMo_fixed.2.1 130 = .ok (.iconst 0, 1) := by decide +kernel
theorem dMo_fixed_131 : decode kMo_fixed.2.1 131 = .ok (.istore 7, 2) := by decide +kernel
theorem dMo_fixed_133 : decode kMo_fixed.2.1 133 = .ok (.goto 112, 3) := by decide +kernel
theorem dMo_fixed_136 : decode kMo_fixed.2.1 136 = .ok (.aload_n 3, 1) := by decide +kernel
theorem dMo_fixed_137 : decode kMo_fixed.2.1 137 = .ok (.iload 6, 2) := by decide +kernel
theorem dMo_fixed_139 : decode kMo_fixed.2.1 139 = .ok (.baload, 1) := by decide +kernel
theorem dMo_fixed_140 : decode kMo_fixed.2.1 140 = .ok (.ifCond .ne 14, 3) := by decide +kernel
theorem dMo_fixed_143 : decode kMo_fixed.2.1 143 = .ok (.aload_n 0, 1) := by decide +kernel
theorem dMo_fixed_144 : decode kMo_fixed.2.1 144 = .ok (.aload_n 2, 1) := by decide +kernel
theorem dMo_fixed_145 : decode kMo_fixed.2.1 145 = .ok (.iload 6, 2) := by decide +kernel
theorem dMo_fixed_147 : decode kMo_fixed.2.1 147 = .ok (.iconst 0, 1) := by decide +kernel
theorem dMo_fixed_148 : decode kMo_fixed.2.1 148 = .ok (.invokevirtual 362, 3) := by decide +kernel
theorem dMo_fixed_151 : decode kMo_fixed.2.1 151 = .ok (.ifCond .eq 7, 3) := by decide +kernel
theorem dMo_fixed_154 : decode kMo_fixed.2.1 154 = .ok (.iconst 1, 1) := by decide +kernel
theorem dMo_fixed_155 : decode kMo_fixed.2.1 155 = .ok (.goto 4, 3) := by decide +kernel
theorem dMo_fixed_158 : decode kMo_fixed.2.1 158 = .ok (.iconst 0, 1) := by decide +kernel
theorem dMo_fixed_159 : decode kMo_fixed.2.1 159 = .ok (.istore 7, 2) := by decide +kernel
theorem dMo_fixed_161 : decode kMo_fixed.2.1 161 = .ok (.goto 84, 3) := by decide +kernel
theorem dMo_fixed_164 : decode kMo_fixed.2.1 164 = .ok (.aload_n 3, 1) := by decide +kernel
theorem dMo_fixed_165 : decode kMo_fixed.2.1 165 = .ok (.iload 6, 2) := by decide +kernel
theorem dMo_fixed_167 : decode kMo_fixed.2.1 167 = .ok (.baload, 1) := by decide +kernel
theorem dMo_fixed_168 : decode kMo_fixed.2.1 168 = .ok (.ifCond .ne 14, 3) := by decide +kernel
theorem dMo_fixed_171 : decode kMo_fixed.2.1 171 = .ok (.aload_n 0, 1) := by decide +kernel
theorem dMo_fixed_172 : decode kMo_fixed.2.1 172 = .ok (.aload_n 2, 1) := by decide +kernel
theorem dMo_fixed_173 : decode kMo_fixed.2.1 173 = .ok (.iload 6, 2) := by decide +kernel
theorem dMo_fixed_175 : decode kMo_fixed.2.1 175 = .ok (.iconst 1, 1) := by decide +kernel
theorem dMo_fixed_176 : decode kMo_fixed.2.1 176 = .ok (.invokevirtual 362, 3) := by decide +kernel
theorem dMo_fixed_179 : decode kMo_fixed.2.1 179 = .ok (.ifCond .eq 7, 3) := by decide +kernel
theorem dMo_fixed_182 : decode kMo_fixed.2.1 182 = .ok (.iconst 1, 1) := by decide +kernel
theorem dMo_fixed_183 : decode kMo_fixed.2.1 183 = .ok (.goto 4, 3) := by decide +kernel
theorem dMo_fixed_186 : decode kMo_fixed.2.1 186 = .ok (.iconst 0, 1) := by decide +kernel
theorem dMo_fixed_187 : decode kMo_fixed.2.1 187 = .ok (.istore 7, 2) := by decide +kernel
theorem dMo_fixed_189 : decode kMo_fixed.2.1 189 = .ok (.goto 56, 3) := by decide +kernel
theorem dMo_fixed_192 : decode kMo_fixed.2.1 192 = .ok (.aload_n 3, 1) := by decide +kernel
theorem dMo_fixed_193 : decode kMo_fixed.2.1 193 = .ok (.iload 6, 2) := by decide +kernel
theorem dMo_fixed_195 : decode kMo_fixed.2.1 195 = .ok (.baload, 1) := by decide +kernel
theorem dMo_fixed_196 : decode kMo_fixed.2.1 196 = .ok (.ifCond .eq 18, 3) := by decide +kernel
theorem dMo_fixed_199 : decode kMo_fixed.2.1 199 = .ok (.aload_n 0, 1) := by decide +kernel
theorem dMo_fixed_200 : decode kMo_fixed.2.1 200 = .ok (.aload_n 2, 1) := by decide +kernel
theorem dMo_fixed_201 : decode kMo_fixed.2.1 201 = .ok (.iload 6, 2) := by decide +kernel
theorem dMo_fixed_203 : decode kMo_fixed.2.1 203 = .ok (.iconst 0, 1) := by decide +kernel
theorem dMo_fixed_204 : decode kMo_fixed.2.1 204 = .ok (.invokevirtual 362, 3) := by decide +kernel
theorem dMo_fixed_207 : decode kMo_fixed.2.1 207 = .ok (.ifCond .eq 7, 3) := by decide +kernel
theorem dMo_fixed_210 : decode kMo_fixed.2.1 210 = .ok (.iconst 1, 1) := by decide +kernel
theorem dMo_fixed_211 : decode kMo_fixed.2.1 211 = .ok (.goto 4, 3) := by decide +kernel
theorem dMo_fixed_214 : decode kMo_fixed.2.1 214 = .ok (.iconst 0, 1) := by decide +kernel
theorem dMo_fixed_215 : decode kMo_fixed.2.1 215 = .ok (.istore 7, 2) := by decide +kernel
theorem dMo_fixed_217 : decode kMo_fixed.2.1 217 = .ok (.goto 28, 3) := by decide +kernel
theorem dMo_fixed_220 : decode kMo_fixed.2.1 220 = .ok (.aload_n 3, 1) := by decide +kernel
theorem dMo_fixed_221 : decode kMo_fixed.2.1 221 = .ok (.iload 6, 2) := by decide +kernel
theorem dMo_fixed_223 : decode kMo_fixed.2.1 223 = .ok (.baload, 1) := by decide +kernel
theorem dMo_fixed_224 : decode kMo_fixed.2.1 224 = .ok (.ifCond .eq 18, 3) := by decide +kernel
theorem dMo_fixed_227 : decode kMo_fixed.2.1 227 = .ok (.aload_n 0, 1) := by decide +kernel
theorem dMo_fixed_228 : decode kMo_fixed.2.1 228 = .ok (.aload_n 2, 1) := by decide +kernel
theorem dMo_fixed_229 : decode kMo_fixed.2.1 229 = .ok (.iload 6, 2) := by decide +kernel
theorem dMo_fixed_231 : decode kMo_fixed.2.1 231 = .ok (.iconst 1, 1) := by decide +kernel
theorem dMo_fixed_232 : decode kMo_fixed.2.1 232 = .ok (.invokevirtual 362, 3) := by decide +kernel
theorem dMo_fixed_235 : decode kMo_fixed.2.1 235 = .ok (.ifCond .eq 7, 3) := by decide +kernel
theorem dMo_fixed_238 : decode kMo_fixed.2.1 238 = .ok (.iconst 1, 1) := by decide +kernel
theorem dMo_fixed_239 : decode kMo_fixed.2.1 239 = .ok (.goto 4, 3) := by decide +kernel
theorem dMo_fixed_242 : decode kMo_fixed.2.1 242 = .ok (.iconst 0, 1) := by decide +kernel
theorem dMo_fixed_243 : decode kMo_fixed.2.1 243 = .ok (.istore 7, 2) := by decide +kernel
theorem dMo_fixed_245 : decode kMo_fixed.2.1 245 = .ok (.iload 5, 2) := by decide +kernel
theorem dMo_fixed_247 : decode kMo_fixed.2.1 247 = .ok (.ifCond .ne 12, 3) := by decide +kernel
theorem dMo_fixed_250 : decode kMo_fixed.2.1 250 = .ok (.iload 7, 2) := by decide +kernel
theorem dMo_fixed_252 : decode kMo_fixed.2.1 252 = .ok (.aload_n 2, 1) := by decide +kernel
theorem dMo_fixed_253 : decode kMo_fixed.2.1 253 = .ok (.iload 6, 2) := by decide +kernel
theorem dMo_fixed_255 : decode kMo_fixed.2.1 255 = .ok (.baload, 1) := by decide +kernel
theorem dMo_fixed_256 : decode kMo_fixed.2.1 256 = .ok (.if_icmp .eq 7, 3) := by decide +kernel
theorem dMo_fixed_259 : decode kMo_fixed.2.1 259 = .ok (.iconst 1, 1) := by decide +kernel
theorem dMo_fixed_260 : decode kMo_fixed.2.1 260 = .ok (.goto 4, 3) := by decide +kernel
theorem dMo_fixed_263 : decode kMo_fixed.2.1 263 = .ok (.iconst 0, 1) := by decide +kernel
theorem dMo_fixed_264 : decode kMo_fixed.2.1 264 = .ok (.istore 5, 2) := by decide +kernel
theorem dMo_fixed_266 : decode kMo_fixed.2.1 266 = .ok (.aload_n 2, 1) := by decide +kernel
theorem dMo_fixed_267 : decode kMo_fixed.2.1 267 = .ok (.iload 6, 2) := by decide +kernel
theorem dMo_fixed_269 : decode kMo_fixed.2.1 269 = .ok (.iload 7, 2) := by decide +kernel
theorem dMo_fixed_271 : decode kMo_fixed.2.1 271 = .ok (.bastore, 1) := by decide +kernel
theorem dMo_fixed_272 : decode kMo_fixed.2.1 272 = .ok (.iinc 6 1, 3) := by decide +kernel
theorem dMo_fixed_275 : decode kMo_fixed.2.1 275 = .ok (.goto (-261), 3) := by decide +kernel
theorem dMo_fixed_278 : decode kMo_fixed.2.1 278 = .ok (.goto (-275), 3) := by decide +kernel
theorem dMo_fixed_281 : decode kMo_fixed.2.1 281 = .ok (.return_, 1) := by decide +kernel
theorem dMo_fault_0 : decode kMo_fault.2.1 0 = .ok (.aload_n 0, 1) := by decide +kernel
theorem dMo_fault_1 : decode kMo_fault.2.1 1 = .ok (.iconst 0, 1) := by decide +kernel
theorem dMo_fault_2 : decode kMo_fault.2.1 2 = .ok (.putfield 18, 3) := by decide +kernel
theorem dMo_fault_5 : decode kMo_fault.2.1 5 = .ok (.iload_n 1, 1) := by decide +kernel
theorem dMo_fault_6 : decode kMo_fault.2.1 6 = .ok (.ifCond .ne 10, 3) := by decide +kernel
theorem dMo_fault_9 : decode kMo_fault.2.1 9 = .ok (.aload_n 0, 1) := by decide +kernel
theorem dMo_fault_10 : decode kMo_fault.2.1 10 = .ok (.getfield 21, 3) := by decide +kernel
theorem dMo_fault_13 : decode kMo_fault.2.1 13 = .ok (.goto 16, 3) := by decide +kernel
theorem dMo_fault_16 : decode kMo_fault.2.1 16 = .ok (.iload_n 1, 1) := by decide +kernel
theorem dMo_fault_17 : decode kMo_fault.2.1 17 = .ok (.iconst 1, 1) := by decide +kernel
theorem dMo_fault_18 : decode kMo_fault.2.1 18 = .ok (.if_icmp .ne 10, 3) := by decide +kernel
theorem dMo_fault_21 : decode kMo_fault.2.1 21 = .ok (.aload_n 0, 1) := by decide +kernel
theorem dMo_fault_22 : decode kMo_fault.2.1 22 = .ok (.getfield 24, 3) := by decide +kernel
theorem dMo_fault_25 : decode kMo_fault.2.1 25 = .ok (.goto 4, 3) := by decide +kernel
theorem dMo_fault_28 : decode kMo_fault.2.1 28 = .ok (.iconst (-1), 1) := by decide +kernel
theorem dMo_fault_29 : decode kMo_fault.2.1 29 = .ok (.ireturn, 1) := by decide +kernel
theorem dMo_holds_0 : decode kMo_holds.2.1 0 = .ok (.aload_n 0, 1) := by decide +kernel
theorem dMo_holds_1 : decode kMo_holds.2.1 1 = .ok (.iload_n 1, 1) := by decide +kernel
theorem dMo_holds_2 : decode kMo_holds.2.1 2 = .ok (.invokevirtual 372, 3) := by decide +kernel
theorem dMo_holds_5 : decode kMo_holds.2.1 5 = .ok (.ifCond .eq 5, 3) := by decide +kernel
theorem dMo_holds_8 : decode kMo_holds.2.1 8 = .ok (.iconst 0, 1) := by decide +kernel
theorem dMo_holds_9 : decode kMo_holds.2.1 9 = .ok (.ireturn, 1) := by decide +kernel
theorem dMo_holds_10 : decode kMo_holds.2.1 10 = .ok (.aload_n 0, 1) := by decide +kernel
theorem dMo_holds_11 : decode kMo_holds.2.1 11 = .ok (.getfield 155, 3) := by decide +kernel
theorem dMo_holds_14 : decode kMo_holds.2.1 14 = .ok (.iload_n 1, 1) := by decide +kernel
theorem dMo_holds_15 : decode kMo_holds.2.1 15 = .ok (.aaload, 1) := by decide +kernel
theorem dMo_holds_16 : decode kMo_holds.2.1 16 = .ok (.aload_n 0, 1) := by decide +kernel
theorem dMo_holds_17 : decode kMo_holds.2.1 17 = .ok (.getfield 161, 3) := by decide +kernel
theorem dMo_holds_20 : decode kMo_holds.2.1 20 = .ok (.baload, 1) := by decide +kernel
theorem dMo_holds_21 : decode kMo_holds.2.1 21 = .ok (.ireturn, 1) := by decide +kernel
theorem dMo_noSpec_0 : decode kMo_noSpec.2.1 0 = .ok (.aload_n 0, 1) := by decide +kernel
theorem dMo_noSpec_1 : decode kMo_noSpec.2.1 1 = .ok (.iconst 0, 1) := by decide +kernel
theorem dMo_noSpec_2 : decode kMo_noSpec.2.1 2 = .ok (.putfield 18, 3) := by decide +kernel
theorem dMo_noSpec_5 : decode kMo_noSpec.2.1 5 = .ok (.aload_n 0, 1) := by decide +kernel
theorem dMo_noSpec_6 : decode kMo_noSpec.2.1 6 = .ok (.iconst 1, 1) := by decide +kernel
theorem dMo_noSpec_7 : decode kMo_noSpec.2.1 7 = .ok (.iload_n 1, 1) := by decide +kernel
theorem dMo_noSpec_8 : decode kMo_noSpec.2.1 8 = .ok (.ifCond .lt 11, 3) := by decide +kernel
theorem dMo_noSpec_11 : decode kMo_noSpec.2.1 11 = .ok (.iload_n 1, 1) := by decide +kernel
theorem dMo_noSpec_12 : decode kMo_noSpec.2.1 12 = .ok (.aload_n 0, 1) := by decide +kernel
theorem dMo_noSpec_13 : decode kMo_noSpec.2.1 13 = .ok (.getfield 92, 3) := by decide +kernel
theorem dMo_noSpec_16 : decode kMo_noSpec.2.1 16 = .ok (.if_icmp .lt 7, 3) := by decide +kernel
theorem dMo_noSpec_19 : decode kMo_noSpec.2.1 19 = .ok (.iconst 1, 1) := by decide +kernel
theorem dMo_noSpec_20 : decode kMo_noSpec.2.1 20 = .ok (.goto 4, 3) := by decide +kernel
theorem dMo_noSpec_23 : decode kMo_noSpec.2.1 23 = .ok (.iconst 0, 1) := by decide +kernel
theorem dMo_noSpec_24 : decode kMo_noSpec.2.1 24 = .ok (.invokevirtual 180, 3) := by decide +kernel
theorem dMo_noSpec_27 : decode kMo_noSpec.2.1 27 = .ok (.ireturn, 1) := by decide +kernel
theorem dMo_states_0 : decode kMo_states.2.1 0 = .ok (.aload_n 0, 1) := by decide +kernel
theorem dMo_states_1 : decode kMo_states.2.1 1 = .ok (.iload_n 1, 1) := by decide +kernel
theorem dMo_states_2 : decode kMo_states.2.1 2 = .ok (.invokevirtual 372, 3) := by decide +kernel
theorem dMo_states_5 : decode kMo_states.2.1 5 = .ok (.ifCond .eq 5, 3) := by decide +kernel
theorem dMo_states_8 : decode kMo_states.2.1 8 = .ok (.iconst 0, 1) := by decide +kernel
theorem dMo_states_9 : decode kMo_states.2.1 9 = .ok (.ireturn, 1) := by decide +kernel
theorem dMo_states_10 : decode kMo_states.2.1 10 = .ok (.iconst 0, 1) := by decide +kernel
theorem dMo_states_11 : decode kMo_states.2.1 11 = .ok (.istore_n 2, 1) := by decide +kernel
theorem dMo_states_12 : decode kMo_states.2.1 12 = .ok (.iconst 0, 1) := by decide +kernel
theorem dMo_states_13 : decode kMo_states.2.1 13 = .ok (.istore_n 3, 1) := by decide +kernel
theorem dMo_states_14 : decode kMo_states.2.1 14 = .ok (.iload_n 3, 1) := by decide +kernel
theorem dMo_states_15 : decode kMo_states.2.1 15 = .ok (.aload_n 0, 1) := by decide +kernel
theorem dMo_states_16 : decode kMo_states.2.1 16 = .ok (.invokevirtual 345, 3) := by decide +kernel
theorem dMo_states_19 : decode kMo_states.2.1 19 = .ok (.if_icmp .ge 23, 3) := by decide +kernel
theorem dMo_states_22 : decode kMo_states.2.1 22 = .ok (.aload_n 0, 1) := by decide +kernel
theorem dMo_states_23 : decode kMo_states.2.1 23 = .ok (.getfield 155, 3) := by decide +kernel
theorem dMo_states_26 : decode kMo_states.2.1 26 = .ok (.iload_n 1, 1) := by decide +kernel
theorem dMo_states_27 : decode kMo_states.2.1 27 = .ok (.aaload, 1) := by decide +kernel
theorem dMo_states_28 : decode kMo_states.2.1 28 = .ok (.iload_n 3, 1) := by decide +kernel
theorem dMo_states_29 : decode kMo_states.2.1 29 = .ok (.baload, 1) := by decide +kernel
theorem dMo_states_30 : decode kMo_states.2.1 30 = .ok (.ifCond .eq 6, 3) := by decide +kernel
theorem dMo_states_33 : decode kMo_states.2.1 33 = .ok (.iinc 2 1, 3) := by decide +kernel
theorem dMo_states_36 : decode kMo_states.2.1 36 = .ok (.iinc 3 1, 3) := by decide +kernel
theorem dMo_states_39 : decode kMo_states.2.1 39 = .ok (.goto (-25), 3) := by decide +kernel
theorem dMo_states_42 : decode kMo_states.2.1 42 = .ok (.iload_n 2, 1) := by decide +kernel
theorem dMo_states_43 : decode kMo_states.2.1 43 = .ok (.ireturn, 1) := by decide +kernel
theorem dMo_at_0 : decode kMo_at.2.1 0 = .ok (.aload_n 0, 1) := by decide +kernel
theorem dMo_at_1 : decode kMo_at.2.1 1 = .ok (.iload_n 1, 1) := by decide +kernel
theorem dMo_at_2 : decode kMo_at.2.1 2 = .ok (.invokevirtual 372, 3) := by decide +kernel
theorem dMo_at_5 : decode kMo_at.2.1 5 = .ok (.ifCond .ne 28, 3) := by decide +kernel
theorem dMo_at_8 : decode kMo_at.2.1 8 = .ok (.aload_n 0, 1) := by decide +kernel
theorem dMo_at_9 : decode kMo_at.2.1 9 = .ok (.iconst 1, 1) := by decide +kernel
theorem dMo_at_10 : decode kMo_at.2.1 10 = .ok (.iload_n 2, 1) := by decide +kernel
theorem dMo_at_11 : decode kMo_at.2.1 11 = .ok (.ifCond .lt 11, 3) := by decide +kernel
theorem dMo_at_14 : decode kMo_at.2.1 14 = .ok (.iload_n 2, 1) := by decide +kernel
theorem dMo_at_15 : decode kMo_at.2.1 15 = .ok (.aload_n 0, 1) := by decide +kernel
theorem dMo_at_16 : decode kMo_at.2.1 16 = .ok (.invokevirtual 345, 3) := by decide +kernel
theorem dMo_at_19 : decode kMo_at.2.1 19 = .ok (.if_icmp .lt 7, 3) := by decide +kernel
theorem dMo_at_22 : decode kMo_at.2.1 22 = .ok (.iconst 1, 1) := by decide +kernel
theorem dMo_at_23 : decode kMo_at.2.1 23 = .ok (.goto 4, 3) := by decide +kernel
theorem dMo_at_26 : decode kMo_at.2.1 26 = .ok (.iconst 0, 1) := by decide +kernel
theorem dMo_at_27 : decode kMo_at.2.1 27 = .ok (.invokevirtual 180, 3) := by decide +kernel
theorem dMo_at_30 : decode kMo_at.2.1 30 = .ok (.ifCond .eq 5, 3) := by decide +kernel
theorem dMo_at_33 : decode kMo_at.2.1 33 = .ok (.iconst 0, 1) := by decide +kernel
theorem dMo_at_34 : decode kMo_at.2.1 34 = .ok (.ireturn, 1) := by decide +kernel
theorem dMo_at_35 : decode kMo_at.2.1 35 = .ok (.aload_n 0, 1) := by decide +kernel
theorem dMo_at_36 : decode kMo_at.2.1 36 = .ok (.getfield 155, 3) := by decide +kernel
theorem dMo_at_39 : decode kMo_at.2.1 39 = .ok (.iload_n 1, 1) := by decide +kernel
theorem dMo_at_40 : decode kMo_at.2.1 40 = .ok (.aaload, 1) := by decide +kernel
theorem dMo_at_41 : decode kMo_at.2.1 41 = .ok (.iload_n 2, 1) := by decide +kernel
theorem dMo_at_42 : decode kMo_at.2.1 42 = .ok (.baload, 1) := by decide +kernel
theorem dMo_at_43 : decode kMo_at.2.1 43 = .ok (.ireturn, 1) := by decide +kernel
theorem dMo_reachable_0 : decode kMo_reachable.2.1 0 = .ok (.aload_n 0, 1) := by decide +kernel
theorem dMo_reachable_1 : decode kMo_reachable.2.1 1 = .ok (.iconst 0, 1) := by decide +kernel
theorem dMo_reachable_2 : decode kMo_reachable.2.1 2 = .ok (.putfield 18, 3) := by decide +kernel
theorem dMo_reachable_5 : decode kMo_reachable.2.1 5 = .ok (.iconst 0, 1) := by decide +kernel
theorem dMo_reachable_6 : decode kMo_reachable.2.1 6 = .ok (.istore_n 1, 1) := by decide +kernel
theorem dMo_reachable_7 : decode kMo_reachable.2.1 7 = .ok (.iload_n 1, 1) := by decide +kernel
theorem dMo_reachable_8 : decode kMo_reachable.2.1 8 = .ok (.aload_n 0, 1) := by decide +kernel
theorem dMo_reachable_9 : decode kMo_reachable.2.1 9 = .ok (.invokevirtual 345, 3) := by decide +kernel
theorem dMo_reachable_12 : decode kMo_reachable.2.1 12 = .ok (.if_icmp .ge 28, 3) := by decide +kernel
theorem dMo_reachable_15 : decode kMo_reachable.2.1 15 = .ok (.aload_n 0, 1) := by decide +kernel
theorem dMo_reachable_16 : decode kMo_reachable.2.1 16 = .ok (.getfield 151, 3) := by decide +kernel
theorem dMo_reachable_19 : decode kMo_reachable.2.1 19 = .ok (.iload_n 1, 1) := by decide +kernel
theorem dMo_reachable_20 : decode kMo_reachable.2.1 20 = .ok (.iload_n 1, 1) := by decide +kernel
theorem dMo_reachable_21 : decode kMo_reachable.2.1 21 = .ok (.aload_n 0, 1) := by decide +kernel
theorem dMo_reachable_22 : decode kMo_reachable.2.1 22 = .ok (.getfield 161, 3) := by decide +kernel
theorem dMo_reachable_25 : decode kMo_reachable.2.1 25 = .ok (.if_icmp .ne 7, 3) := by decide +kernel
theorem dMo_reachable_28 : decode kMo_reachable.2.1 28 = .ok (.iconst 1, 1) := by decide +kernel
theorem dMo_reachable_29 : decode kMo_reachable.2.1 29 = .ok (.goto 4, 3) := by decide +kernel
theorem dMo_reachable_32 : decode kMo_reachable.2.1 32 = .ok (.iconst 0, 1) := by decide +kernel
theorem dMo_reachable_33 : decode kMo_reachable.2.1 33 = .ok (.bastore, 1) := by decide +kernel
theorem dMo_reachable_34 : decode kMo_reachable.2.1 34 = .ok (.iinc 1 1, 3) := by decide +kernel
theorem dMo_reachable_37 : decode kMo_reachable.2.1 37 = .ok (.goto (-30), 3) := by decide +kernel
theorem dMo_reachable_40 : decode kMo_reachable.2.1 40 = .ok (.iconst 1, 1) := by decide +kernel
theorem dMo_reachable_41 : decode kMo_reachable.2.1 41 = .ok (.istore_n 1, 1) := by decide +kernel
theorem dMo_reachable_42 : decode kMo_reachable.2.1 42 = .ok (.iload_n 1, 1) := by decide +kernel
theorem dMo_reachable_43 : decode kMo_reachable.2.1 43 = .ok (.ifCond .eq 84, 3) := by decide +kernel
theorem dMo_reachable_46 : decode kMo_reachable.2.1 46 = .ok (.iconst 0, 1) := by decide +kernel
theorem dMo_reachable_47 : decode kMo_reachable.2.1 47 = .ok (.istore_n 1, 1) := by decide +kernel
theorem dMo_reachable_48 : decode kMo_reachable.2.1 48 = .ok (.iconst 0, 1) := by decide +kernel
theorem dMo_reachable_49 : decode kMo_reachable.2.1 49 = .ok (.istore_n 2, 1) := by decide +kernel
theorem dMo_reachable_50 : decode kMo_reachable.2.1 50 = .ok (.iload_n 2, 1) := by decide +kernel
theorem dMo_reachable_51 : decode kMo_reachable.2.1 51 = .ok (.aload_n 0, 1) := by decide +kernel
theorem dMo_reachable_52 : decode kMo_reachable.2.1 52 = .ok (.invokevirtual 345, 3) := by decide +kernel
theorem dMo_reachable_55 : decode kMo_reachable.2.1 55 = .ok (.if_icmp .ge 69, 3) := by decide +kernel
theorem dMo_reachable_58 : decode kMo_reachable.2.1 58 = .ok (.iconst 0, 1) := by decide +kernel
theorem dMo_reachable_59 : decode kMo_reachable.2.1 59 = .ok (.istore_n 3, 1) := by decide +kernel
theorem dMo_reachable_60 : decode kMo_reachable.2.1 60 = .ok (.iload_n 3, 1) := by decide +kernel
theorem dMo_reachable_61 : decode kMo_reachable.2.1 61 = .ok (.aload_n 0, 1) := by decide +kernel
theorem dMo_reachable_62 : decode kMo_reachable.2.1 62 = .ok (.invokevirtual 348, 3) := by decide +kernel
theorem dMo_reachable_65 : decode kMo_reachable.2.1 65 = .ok (.if_icmp .ge 53, 3) := by decide +kernel
theorem dMo_reachable_68 : decode kMo_reachable.2.1 68 = .ok (.aload_n 0, 1) := by decide +kernel
theorem dMo_reachable_69 : decode kMo_reachable.2.1 69 = .ok (.getfield 151, 3) := by decide +kernel
theorem dMo_reachable_72 : decode kMo_reachable.2.1 72 = .ok (.iload_n 2, 1) := by decide +kernel
theorem dMo_reachable_73 : decode kMo_reachable.2.1 73 = .ok (.baload, 1) := by decide +kernel
theorem dMo_reachable_74 : decode kMo_reachable.2.1 74 = .ok (.ifCond .eq 38, 3) := by decide +kernel
theorem dMo_reachable_77 : decode kMo_reachable.2.1 77 = .ok (.aload_n 0, 1) := by decide +kernel
theorem dMo_reachable_78 : decode kMo_reachable.2.1 78 = .ok (.getfield 151, 3) := by decide +kernel
theorem dMo_reachable_81 : decode kMo_reachable.2.1 81 = .ok (.aload_n 0, 1) := by decide +kernel
theorem dMo_reachable_82 : decode kMo_reachable.2.1 82 = .ok (.getfield 142, 3) := by decide +kernel
theorem dMo_reachable_85 : decode kMo_reachable.2.1 85 = .ok (.iload_n 2, 1) := by decide +kernel
theorem dMo_reachable_86 : decode kMo_reachable.2.1 86 = .ok (.aaload, 1) := by decide +kernel
theorem dMo_reachable_87 : decode kMo_reachable.2.1 87 = .ok (.iload_n 3, 1) := by decide +kernel
theorem dMo_reachable_88 : decode kMo_reachable.2.1 88 = .ok (.iaload, 1) := by decide +kernel
theorem dMo_reachable_89 : decode kMo_reachable.2.1 89 = .ok (.baload, 1) := by decide +kernel
theorem dMo_reachable_90 : decode kMo_reachable.2.1 90 = .ok (.ifCond .eq 6, 3) := by decide +kernel
theorem dMo_reachable_93 : decode kMo_reachable.2.1 93 = .ok (.goto 19, 3) := by decide +kernel
theorem dMo_reachable_96 : decode kMo_reachable.2.1 96 = .ok (.aload_n 0, 1) := by decide +kernel
theorem dMo_reachable_97 : decode kMo_reachable.2.1 97 = .ok (.getfield 151, 3) := by decide +kernel
theorem dMo_reachable_100 : decode kMo_reachable.2.1 100 = .ok (.aload_n 0, 1) := by decide +kernel
theorem dMo_reachable_101 : decode kMo_reachable.2.1 101 = .ok (.getfield 142, 3) := by decide +kernel
theorem dMo_reachable_104 : decode kMo_reachable.2.1 104 = .ok (.iload_n 2, 1) := by decide +kernel
theorem dMo_reachable_105 : decode kMo_reachable.2.1 105 = .ok (.aaload, 1) := by decide +kernel
theorem dMo_reachable_106 : decode kMo_reachable.2.1 106 = .ok (.iload_n 3, 1) := by decide +kernel
theorem dMo_reachable_107 : decode kMo_reachable.2.1 107 = .ok (.iaload, 1) := by decide +kernel
theorem dMo_reachable_108 : decode kMo_reachable.2.1 108 = .ok (.iconst 1, 1) := by decide +kernel
theorem dMo_reachable_109 : decode kMo_reachable.2.1 109 = .ok (.bastore, 1) := by decide +kernel
theorem dMo_reachable_110 : decode kMo_reachable.2.1 110 = .ok (.iconst 1, 1) := by decide +kernel
theorem dMo_reachable_111 : decode kMo_reachable.2.1 111 = .ok (.istore_n 1, 1) := by decide +kernel
theorem dMo_reachable_112 : decode kMo_reachable.2.1 112 = .ok (.iinc 3 1, 3) := by decide +kernel
theorem dMo_reachable_115 : decode kMo_reachable.2.1 115 = .ok (.goto (-55), 3) := by decide +kernel
theorem dMo_reachable_118 : decode kMo_reachable.2.1 118 = .ok (.iinc 2 1, 3) := by decide +kernel
theorem dMo_reachable_121 : decode kMo_reachable.2.1 121 = .ok (.goto (-71), 3) := by decide +kernel
theorem dMo_reachable_124 : decode kMo_reachable.2.1 124 = .ok (.goto (-82), 3) := by decide +kernel
theorem dMo_reachable_127 : decode kMo_reachable.2.1 127 = .ok (.iconst 0, 1) := by decide +kernel
theorem dMo_reachable_128 : decode kMo_reachable.2.1 128 = .ok (.istore_n 2, 1) := by decide +kernel
theorem dMo_reachable_129 : decode kMo_reachable.2.1 129 = .ok (.iconst 0, 1) := by decide +kernel
theorem dMo_reachable_130 : decode kMo_reachable.2.1 130 = .ok (.istore_n 3, 1) := by decide +kernel
theorem dMo_reachable_131 : decode kMo_reachable.2.1 131 = .ok (.iload_n 3, 1) := by decide +kernel
theorem dMo_reachable_132 : decode kMo_reachable.2.1 132 = .ok (.aload_n 0, 1) := by decide +kernel
theorem dMo_reachable_133 : decode kMo_reachable.2.1 133 = .ok (.invokevirtual 345, 3) := by decide +kernel
theorem dMo_reachable_136 : decode kMo_reachable.2.1 136 = .ok (.if_icmp .ge 21, 3) := by decide +kernel
theorem dMo_reachable_139 : decode kMo_reachable.2.1 139 = .ok (.aload_n 0, 1) := by decide +kernel
theorem dMo_reachable_140 : decode kMo_reachable.2.1 140 = .ok (.getfield 151, 3) := by decide +kernel
theorem dMo_reachable_143 : decode kMo_reachable.2.1 143 = .ok (.iload_n 3, 1) := by decide +kernel
theorem dMo_reachable_144 : decode kMo_reachable.2.1 144 = .ok (.baload, 1) := by decide +kernel
theorem dMo_reachable_145 : decode kMo_reachable.2.1 145 = .ok (.ifCond .eq 6, 3) := by decide +kernel
theorem dMo_reachable_148 : decode kMo_reachable.2.1 148 = .ok (.iinc 2 1, 3) := by decide +kernel
theorem dMo_reachable_151 : decode kMo_reachable.2.1 151 = .ok (.iinc 3 1, 3) := by decide +kernel
theorem dMo_reachable_154 : decode kMo_reachable.2.1 154 = .ok (.goto (-23), 3) := by decide +kernel
theorem dMo_reachable_157 : decode kMo_reachable.2.1 157 = .ok (.iload_n 2, 1) := by decide +kernel
theorem dMo_reachable_158 : decode kMo_reachable.2.1 158 = .ok (.ireturn, 1) := by decide +kernel
theorem dMo_trace_0 : decode kMo_trace.2.1 0 = .ok (.aload_n 0, 1) := by decide +kernel
theorem dMo_trace_1 : decode kMo_trace.2.1 1 = .ok (.iload_n 1, 1) := by decide +kernel
theorem dMo_trace_2 : decode kMo_trace.2.1 2 = .ok (.invokevirtual 372, 3) := by decide +kernel
theorem dMo_trace_5 : decode kMo_trace.2.1 5 = .ok (.ifCond .eq 5, 3) := by decide +kernel
theorem dMo_trace_8 : decode kMo_trace.2.1 8 = .ok (.iconst 0, 1) := by decide +kernel
theorem dMo_trace_9 : decode kMo_trace.2.1 9 = .ok (.ireturn, 1) := by decide +kernel
theorem dMo_trace_10 : decode kMo_trace.2.1 10 = .ok (.iconst 0, 1) := by decide +kernel
theorem dMo_trace_11 : decode kMo_trace.2.1 11 = .ok (.istore_n 2, 1) := by decide +kernel
theorem dMo_trace_12 : decode kMo_trace.2.1 12 = .ok (.iload_n 2, 1) := by decide +kernel
theorem dMo_trace_13 : decode kMo_trace.2.1 13 = .ok (.aload_n 0, 1) := by decide +kernel
theorem dMo_trace_14 : decode kMo_trace.2.1 14 = .ok (.invokevirtual 345, 3) := by decide +kernel
theorem dMo_trace_17 : decode kMo_trace.2.1 17 = .ok (.if_icmp .ge 33, 3) := by decide +kernel
theorem dMo_trace_20 : decode kMo_trace.2.1 20 = .ok (.aload_n 0, 1) := by decide +kernel
theorem dMo_trace_21 : decode kMo_trace.2.1 21 = .ok (.getfield 164, 3) := by decide +kernel
theorem dMo_trace_24 : decode kMo_trace.2.1 24 = .ok (.iload_n 2, 1) := by decide +kernel
theorem dMo_trace_25 : decode kMo_trace.2.1 25 = .ok (.aload_n 0, 1) := by decide +kernel
theorem dMo_trace_26 : decode kMo_trace.2.1 26 = .ok (.getfield 155, 3) := by decide +kernel
theorem dMo_trace_29 : decode kMo_trace.2.1 29 = .ok (.iload_n 1, 1) := by decide +kernel
theorem dMo_trace_30 : decode kMo_trace.2.1 30 = .ok (.aaload, 1) := by decide +kernel
theorem dMo_trace_31 : decode kMo_trace.2.1 31 = .ok (.iload_n 2, 1) := by decide +kernel
theorem dMo_trace_32 : decode kMo_trace.2.1 32 = .ok (.baload, 1) := by decide +kernel
theorem dMo_trace_33 : decode kMo_trace.2.1 33 = .ok (.ifCond .eq 7, 3) := by decide +kernel
theorem dMo_trace_36 : decode kMo_trace.2.1 36 = .ok (.iconst 0, 1) := by decide +kernel
theorem dMo_trace_37 : decode kMo_trace.2.1 37 = .ok (.goto 6, 3) := by decide +kernel
theorem dMo_trace_40 : decode kMo_trace.2.1 40 = .ok (.sipush 1000, 3) := by decide +kernel
theorem dMo_trace_43 : decode kMo_trace.2.1 43 = .ok (.iastore, 1) := by decide +kernel
theorem dMo_trace_44 : decode kMo_trace.2.1 44 = .ok (.iinc 2 1, 3) := by decide +kernel
theorem dMo_trace_47 : decode kMo_trace.2.1 47 = .ok (.goto (-35), 3) := by decide +kernel
theorem dMo_trace_50 : decode kMo_trace.2.1 50 = .ok (.iconst 1, 1) := by decide +kernel
theorem dMo_trace_51 : decode kMo_trace.2.1 51 = .ok (.istore_n 2, 1) := by decide +kernel
theorem dMo_trace_52 : decode kMo_trace.2.1 52 = .ok (.iload_n 2, 1) := by decide +kernel
theorem dMo_trace_53 : decode kMo_trace.2.1 53 = .ok (.ifCond .eq 94, 3) := by decide +kernel
theorem dMo_trace_56 : decode kMo_trace.2.1 56 = .ok (.iconst 0, 1) := by decide +kernel
theorem dMo_trace_57 : decode kMo_trace.2.1 57 = .ok (.istore_n 2, 1) := by decide +kernel
theorem dMo_trace_58 : decode kMo_trace.2.1 58 = .ok (.iconst 0, 1) := by decide +kernel
theorem dMo_trace_59 : decode kMo_trace.2.1 59 = .ok (.istore_n 3, 1) := by decide +kernel
theorem dMo_trace_60 : decode kMo_trace.2.1 60 = .ok (.iload_n 3, 1) := by decide +kernel
theorem dMo_trace_61 : decode kMo_trace.2.1 61 = .ok (.aload_n 0, 1) := by decide +kernel
theorem dMo_trace_62 : decode kMo_trace.2.1 62 = .ok (.invokevirtual 345, 3) := by decide +kernel
theorem dMo_trace_65 : decode kMo_trace.2.1 65 = .ok (.if_icmp .ge 79, 3) := by decide +kernel
theorem dMo_trace_68 : decode kMo_trace.2.1 68 = .ok (.iconst 0, 1) := by decide +kernel
theorem dMo_trace_69 : decode kMo_trace.2.1 69 = .ok (.istore 4, 2) := by decide +kernel
theorem dMo_trace_71 : decode kMo_trace.2.1 71 = .ok (.iload 4, 2) := by decide +kernel
theorem dMo_trace_73 : decode kMo_trace.2.1 73 = .ok (.aload_n 0, 1) := by decide +kernel
theorem dMo_trace_74 : decode kMo_trace.2.1 74 = .ok (.invokevirtual 348, 3) := by decide +kernel
theorem dMo_trace_77 : decode kMo_trace.2.1 77 = .ok (.if_icmp .ge 61, 3) := by decide +kernel
theorem dMo_trace_80 : decode kMo_trace.2.1 80 = .ok (.aload_n 0, 1) := by decide +kernel
theorem dMo_trace_81 : decode kMo_trace.2.1 81 = .ok (.getfield 164, 3) := by decide +kernel
theorem dMo_trace_84 : decode kMo_trace.2.1 84 = .ok (.aload_n 0, 1) := by decide +kernel
theorem dMo_trace_85 : decode kMo_trace.2.1 85 = .ok (.getfield 142, 3) := by decide +kernel
theorem dMo_trace_88 : decode kMo_trace.2.1 88 = .ok (.iload_n 3, 1) := by decide +kernel
theorem dMo_trace_89 : decode kMo_trace.2.1 89 = .ok (.aaload, 1) := by decide +kernel
theorem dMo_trace_90 : decode kMo_trace.2.1 90 = .ok (.iload 4, 2) := by decide +kernel
theorem dMo_trace_92 : decode kMo_trace.2.1 92 = .ok (.iaload, 1) := by decide +kernel
theorem dMo_trace_93 : decode kMo_trace.2.1 93 = .ok (.iaload, 1) := by decide +kernel
theorem dMo_trace_94 : decode kMo_trace.2.1 94 = .ok (.iconst 1, 1) := by decide +kernel
theorem dMo_trace_95 : decode kMo_trace.2.1 95 = .ok (.iadd, 1) := by decide +kernel
theorem dMo_trace_96 : decode kMo_trace.2.1 96 = .ok (.aload_n 0, 1) := by decide +kernel
theorem dMo_trace_97 : decode kMo_trace.2.1 97 = .ok (.getfield 164, 3) := by decide +kernel
theorem dMo_trace_100 : decode kMo_trace.2.1 100 = .ok (.iload_n 3, 1) := by decide +kernel
theorem dMo_trace_101 : decode kMo_trace.2.1 101 = .ok (.iaload, 1) := by decide +kernel
theorem dMo_trace_102 : decode kMo_trace.2.1 102 = .ok (.if_icmp .lt 6, 3) := by decide +kernel
theorem dMo_trace_105 : decode kMo_trace.2.1 105 = .ok (.goto 27, 3) := by decide +kernel
theorem dMo_trace_108 : decode kMo_trace.2.1 108 = .ok (.aload_n 0, 1) := by decide +kernel
theorem dMo_trace_109 : decode kMo_trace.2.1 109 = .ok (.getfield 164, 3) := by decide +kernel
theorem dMo_trace_112 : decode kMo_trace.2.1 112 = .ok (.iload_n 3, 1) := by decide +kernel
theorem dMo_trace_113 : decode kMo_trace.2.1 113 = .ok (.aload_n 0, 1) := by decide +kernel
theorem dMo_trace_114 : decode kMo_trace.2.1 114 = .ok (.getfield 164, 3) := by decide +kernel
theorem dMo_trace_117 : decode kMo_trace.2.1 117 = .ok (.aload_n 0, 1) := by decide +kernel
theorem dMo_trace_118 : decode kMo_trace.2.1 118 = .ok (.getfield 142, 3) := by decide +kernel
theorem dMo_trace_121 : decode kMo_trace.2.1 121 = .ok (.iload_n 3, 1) := by decide +kernel
theorem dMo_trace_122 : decode kMo_trace.2.1 122 = .ok (.aaload, 1) := by decide +kernel
theorem dMo_trace_123 : decode kMo_trace.2.1 123 = .ok (.iload 4, 2) := by decide +kernel
theorem dMo_trace_125 : decode kMo_trace.2.1 125 = .ok (.iaload, 1) := by decide +kernel
theorem dMo_trace_126 : decode kMo_trace.2.1 126 = .ok (.iaload, 1) := by decide +kernel
theorem dMo_trace_127 : decode kMo_trace.2.1 127 = .ok (.iconst 1, 1) := by decide +kernel
theorem dMo_trace_128 : decode kMo_trace.2.1 128 = .ok (.iadd, 1) := by decide +kernel
theorem dMo_trace_129 : decode kMo_trace.2.1 129 = .ok (.iastore, 1) := by decide +kernel
theorem dMo_trace_130 : decode kMo_trace.2.1 130 = .ok (.iconst 1, 1) := by decide +kernel
theorem dMo_trace_131 : decode kMo_trace.2.1 131 = .ok (.istore_n 2, 1) := by decide +kernel
theorem dMo_trace_132 : decode kMo_trace.2.1 132 = .ok (.iinc 4 1, 3) := by decide +kernel
theorem dMo_trace_135 : decode kMo_trace.2.1 135 = .ok (.goto (-64), 3) := by decide +kernel
theorem dMo_trace_138 : decode kMo_trace.2.1 138 = .ok (.iinc 3 1, 3) := by decide +kernel
theorem dMo_trace_141 : decode kMo_trace.2.1 141 = .ok (.goto (-81), 3) := by decide +kernel
theorem dMo_trace_144 : decode kMo_trace.2.1 144 = .ok (.goto (-92), 3) := by decide +kernel
theorem dMo_trace_147 : decode kMo_trace.2.1 147 = .ok (.aload_n 0, 1) := by decide +kernel
theorem dMo_trace_148 : decode kMo_trace.2.1 148 = .ok (.getfield 164, 3) := by decide +kernel
theorem dMo_trace_151 : decode kMo_trace.2.1 151 = .ok (.aload_n 0, 1) := by decide +kernel
theorem dMo_trace_152 : decode kMo_trace.2.1 152 = .ok (.getfield 161, 3) := by decide +kernel
theorem dMo_trace_155 : decode kMo_trace.2.1 155 = .ok (.iaload, 1) := by decide +kernel
theorem dMo_trace_156 : decode kMo_trace.2.1 156 = .ok (.sipush 1000, 3) := by decide +kernel
theorem dMo_trace_159 : decode kMo_trace.2.1 159 = .ok (.if_icmp .ne 5, 3) := by decide +kernel
theorem dMo_trace_162 : decode kMo_trace.2.1 162 = .ok (.iconst (-1), 1) := by decide +kernel
theorem dMo_trace_163 : decode kMo_trace.2.1 163 = .ok (.ireturn, 1) := by decide +kernel
theorem dMo_trace_164 : decode kMo_trace.2.1 164 = .ok (.aload_n 0, 1) := by decide +kernel
theorem dMo_trace_165 : decode kMo_trace.2.1 165 = .ok (.iconst 1, 1) := by decide +kernel
theorem dMo_trace_166 : decode kMo_trace.2.1 166 = .ok (.putfield 176, 3) := by decide +kernel
theorem dMo_trace_169 : decode kMo_trace.2.1 169 = .ok (.aload_n 0, 1) := by decide +kernel
theorem dMo_trace_170 : decode kMo_trace.2.1 170 = .ok (.aload_n 0, 1) := by decide +kernel
theorem dMo_trace_171 : decode kMo_trace.2.1 171 = .ok (.getfield 164, 3) := by decide +kernel
theorem dMo_trace_174 : decode kMo_trace.2.1 174 = .ok (.aload_n 0, 1) := by decide +kernel
theorem dMo_trace_175 : decode kMo_trace.2.1 175 = .ok (.getfield 161, 3) := by decide +kernel
theorem dMo_trace_178 : decode kMo_trace.2.1 178 = .ok (.iaload, 1) := by decide +kernel
theorem dMo_trace_179 : decode kMo_trace.2.1 179 = .ok (.putfield 173, 3) := by decide +kernel
theorem dMo_trace_182 : decode kMo_trace.2.1 182 = .ok (.aload_n 0, 1) := by decide +kernel
theorem dMo_trace_183 : decode kMo_trace.2.1 183 = .ok (.getfield 161, 3) := by decide +kernel
theorem dMo_trace_186 : decode kMo_trace.2.1 186 = .ok (.istore_n 3, 1) := by decide +kernel
theorem dMo_trace_187 : decode kMo_trace.2.1 187 = .ok (.iconst 0, 1) := by decide +kernel
theorem dMo_trace_188 : decode kMo_trace.2.1 188 = .ok (.istore 4, 2) := by decide +kernel
theorem dMo_trace_190 : decode kMo_trace.2.1 190 = .ok (.iload 4, 2) := by decide +kernel
theorem dMo_trace_192 : decode kMo_trace.2.1 192 = .ok (.aload_n 0, 1) := by decide +kernel
theorem dMo_trace_193 : decode kMo_trace.2.1 193 = .ok (.getfield 173, 3) := by decide +kernel
theorem dMo_trace_196 : decode kMo_trace.2.1 196 = .ok (.if_icmp .ge 70, 3) := by decide +kernel
theorem dMo_trace_199 : decode kMo_trace.2.1 199 = .ok (.iconst 0, 1) := by decide +kernel
theorem dMo_trace_200 : decode kMo_trace.2.1 200 = .ok (.istore 5, 2) := by decide +kernel
theorem dMo_trace_202 : decode kMo_trace.2.1 202 = .ok (.aload_n 0, 1) := by decide +kernel
theorem dMo_trace_203 : decode kMo_trace.2.1 203 = .ok (.getfield 164, 3) := by decide +kernel
theorem dMo_trace_206 : decode kMo_trace.2.1 206 = .ok (.aload_n 0, 1) := by decide +kernel
theorem dMo_trace_207 : decode kMo_trace.2.1 207 = .ok (.getfield 142, 3) := by decide +kernel
theorem dMo_trace_210 : decode kMo_trace.2.1 210 = .ok (.iload_n 3, 1) := by decide +kernel
theorem dMo_trace_211 : decode kMo_trace.2.1 211 = .ok (.aaload, 1) := by decide +kernel
theorem dMo_trace_212 : decode kMo_trace.2.1 212 = .ok (.iload 5, 2) := by decide +kernel
theorem dMo_trace_214 : decode kMo_trace.2.1 214 = .ok (.iaload, 1) := by decide +kernel
theorem dMo_trace_215 : decode kMo_trace.2.1 215 = .ok (.iaload, 1) := by decide +kernel
theorem dMo_trace_216 : decode kMo_trace.2.1 216 = .ok (.aload_n 0, 1) := by decide +kernel
theorem dMo_trace_217 : decode kMo_trace.2.1 217 = .ok (.getfield 164, 3) := by decide +kernel
theorem dMo_trace_220 : decode kMo_trace.2.1 220 = .ok (.iload_n 3, 1) := by decide +kernel
theorem dMo_trace_221 : decode kMo_trace.2.1 221 = .ok (.iaload, 1) := by decide +kernel
theorem dMo_trace_222 : decode kMo_trace.2.1 222 = .ok (.iconst 1, 1) := by decide +kernel
theorem dMo_trace_223 : decode kMo_trace.2.1 223 = .ok (.isub, 1) := by decide +kernel
theorem dMo_trace_224 : decode kMo_trace.2.1 224 = .ok (.if_icmp .eq 9, 3) := by decide +kernel
theorem dMo_trace_227 : decode kMo_trace.2.1 227 = .ok (.iinc 5 1, 3) := by decide +kernel
theorem dMo_trace_230 : decode kMo_trace.2.1 230 = .ok (.goto (-28), 3) := by decide +kernel
theorem dMo_trace_233 : decode kMo_trace.2.1 233 = .ok (.aload_n 0, 1) := by decide +kernel
theorem dMo_trace_234 : decode kMo_trace.2.1 234 = .ok (.getfield 167, 3) := by decide +kernel
theorem dMo_trace_237 : decode kMo_trace.2.1 237 = .ok (.iload 4, 2) := by decide +kernel
theorem dMo_trace_239 : decode kMo_trace.2.1 239 = .ok (.iload_n 3, 1) := by decide +kernel
theorem dMo_trace_240 : decode kMo_trace.2.1 240 = .ok (.iastore, 1) := by decide +kernel
theorem dMo_trace_241 : decode kMo_trace.2.1 241 = .ok (.aload_n 0, 1) := by decide +kernel
theorem dMo_trace_242 : decode kMo_trace.2.1 242 = .ok (.getfield 170, 3) := by decide +kernel
theorem dMo_trace_245 : decode kMo_trace.2.1 245 = .ok (.iload 4, 2) := by decide +kernel
theorem dMo_trace_247 : decode kMo_trace.2.1 247 = .ok (.iload 5, 2) := by decide +kernel
theorem dMo_trace_249 : decode kMo_trace.2.1 249 = .ok (.iastore, 1) := by decide +kernel
theorem dMo_trace_250 : decode kMo_trace.2.1 250 = .ok (.aload_n 0, 1) := by decide +kernel
theorem dMo_trace_251 : decode kMo_trace.2.1 251 = .ok (.getfield 142, 3) := by decide +kernel
theorem dMo_trace_254 : decode kMo_trace.2.1 254 = .ok (.iload_n 3, 1) := by decide +kernel
theorem dMo_trace_255 : decode kMo_trace.2.1 255 = .ok (.aaload, 1) := by decide +kernel
theorem dMo_trace_256 : decode kMo_trace.2.1 256 = .ok (.iload 5, 2) := by decide +kernel
theorem dMo_trace_258 : decode kMo_trace.2.1 258 = .ok (.iaload, 1) := by decide +kernel
theorem dMo_trace_259 : decode kMo_trace.2.1 259 = .ok (.istore_n 3, 1) := by decide +kernel
theorem dMo_trace_260 : decode kMo_trace.2.1 260 = .ok (.iinc 4 1, 3) := by decide +kernel
theorem dMo_trace_263 : decode kMo_trace.2.1 263 = .ok (.goto (-73), 3) := by decide +kernel
theorem dMo_trace_266 : decode kMo_trace.2.1 266 = .ok (.aload_n 0, 1) := by decide +kernel
theorem dMo_trace_267 : decode kMo_trace.2.1 267 = .ok (.getfield 167, 3) := by decide +kernel
theorem dMo_trace_270 : decode kMo_trace.2.1 270 = .ok (.aload_n 0, 1) := by decide +kernel
theorem dMo_trace_271 : decode kMo_trace.2.1 271 = .ok (.getfield 173, 3) := by decide +kernel
theorem dMo_trace_274 : decode kMo_trace.2.1 274 = .ok (.iload_n 3, 1) := by decide +kernel
theorem dMo_trace_275 : decode kMo_trace.2.1 275 = .ok (.iastore, 1) := by decide +kernel
theorem dMo_trace_276 : decode kMo_trace.2.1 276 = .ok (.aload_n 0, 1) := by decide +kernel
theorem dMo_trace_277 : decode kMo_trace.2.1 277 = .ok (.getfield 173, 3) := by decide +kernel
theorem dMo_trace_280 : decode kMo_trace.2.1 280 = .ok (.ireturn, 1) := by decide +kernel
theorem dMo_step_0 : decode kMo_step.2.1 0 = .ok (.aload_n 0, 1) := by decide +kernel
theorem dMo_step_1 : decode kMo_step.2.1 1 = .ok (.iconst 0, 1) := by decide +kernel
theorem dMo_step_2 : decode kMo_step.2.1 2 = .ok (.putfield 18, 3) := by decide +kernel
theorem dMo_step_5 : decode kMo_step.2.1 5 = .ok (.aload_n 0, 1) := by decide +kernel
theorem dMo_step_6 : decode kMo_step.2.1 6 = .ok (.iconst 1, 1) := by decide +kernel
theorem dMo_step_7 : decode kMo_step.2.1 7 = .ok (.aload_n 0, 1) := by decide +kernel
theorem dMo_step_8 : decode kMo_step.2.1 8 = .ok (.getfield 176, 3) := by decide +kernel
theorem dMo_step_11 : decode kMo_step.2.1 11 = .ok (.ifCond .eq 28, 3) := by decide +kernel
theorem dMo_step_14 : decode kMo_step.2.1 14 = .ok (.iload_n 1, 1) := by decide +kernel
theorem dMo_step_15 : decode kMo_step.2.1 15 = .ok (.ifCond .lt 24, 3) := by decide +kernel
theorem dMo_step_18 : decode kMo_step.2.1 18 = .ok (.iload_n 1, 1) := by decide +kernel
theorem dMo_step_19 : decode kMo_step.2.1 19 = .ok (.aload_n 0, 1) := by decide +kernel
theorem dMo_step_20 : decode kMo_step.2.1 20 = .ok (.getfield 173, 3) := by decide +kernel
theorem dMo_step_23 : decode kMo_step.2.1 23 = .ok (.if_icmp .gt 16, 3) := by decide +kernel
theorem dMo_step_26 : decode kMo_step.2.1 26 = .ok (.iload_n 2, 1) := by decide +kernel
theorem dMo_step_27 : decode kMo_step.2.1 27 = .ok (.iconst 1, 1) := by decide +kernel
theorem dMo_step_28 : decode kMo_step.2.1 28 = .ok (.if_icmp .ne 15, 3) := by decide +kernel
theorem dMo_step_31 : decode kMo_step.2.1 31 = .ok (.iload_n 1, 1) := by decide +kernel
theorem dMo_step_32 : decode kMo_step.2.1 32 = .ok (.aload_n 0, 1) := by decide +kernel
theorem dMo_step_33 : decode kMo_step.2.1 33 = .ok (.getfield 173, 3) := by decide +kernel
theorem dMo_step_36 : decode kMo_step.2.1 36 = .ok (.if_icmp .ne 7, 3) := by decide +kernel
theorem dMo_step_39 : decode kMo_step.2.1 39 = .ok (.iconst 1, 1) := by decide +kernel
theorem dMo_step_40 : decode kMo_step.2.1 40 = .ok (.goto 4, 3) := by decide +kernel
theorem dMo_step_43 : decode kMo_step.2.1 43 = .ok (.iconst 0, 1) := by decide +kernel
theorem dMo_step_44 : decode kMo_step.2.1 44 = .ok (.invokevirtual 180, 3) := by decide +kernel
theorem dMo_step_47 : decode kMo_step.2.1 47 = .ok (.ifCond .ne 25, 3) := by decide +kernel
theorem dMo_step_50 : decode kMo_step.2.1 50 = .ok (.aload_n 0, 1) := by decide +kernel
theorem dMo_step_51 : decode kMo_step.2.1 51 = .ok (.iconst 2, 1) := by decide +kernel
theorem dMo_step_52 : decode kMo_step.2.1 52 = .ok (.iload_n 2, 1) := by decide +kernel
theorem dMo_step_53 : decode kMo_step.2.1 53 = .ok (.ifCond .lt 8, 3) := by decide +kernel
theorem dMo_step_56 : decode kMo_step.2.1 56 = .ok (.iload_n 2, 1) := by decide +kernel
theorem dMo_step_57 : decode kMo_step.2.1 57 = .ok (.iconst 1, 1) := by decide +kernel
theorem dMo_step_58 : decode kMo_step.2.1 58 = .ok (.if_icmp .le 7, 3) := by decide +kernel
theorem dMo_step_61 : decode kMo_step.2.1 61 = .ok (.iconst 1, 1) := by decide +kernel
theorem dMo_step_62 : decode kMo_step.2.1 62 = .ok (.goto 4, 3) := by decide +kernel
theorem dMo_step_65 : decode kMo_step.2.1 65 = .ok (.iconst 0, 1) := by decide +kernel
theorem dMo_step_66 : decode kMo_step.2.1 66 = .ok (.invokevirtual 180, 3) := by decide +kernel
theorem dMo_step_69 : decode kMo_step.2.1 69 = .ok (.ifCond .eq 5, 3) := by decide +kernel
theorem dMo_step_72 : decode kMo_step.2.1 72 = .ok (.iconst 0, 1) := by decide +kernel
theorem dMo_step_73 : decode kMo_step.2.1 73 = .ok (.ireturn, 1) := by decide +kernel
theorem dMo_step_74 : decode kMo_step.2.1 74 = .ok (.iload_n 2, 1) := by decide +kernel
theorem dMo_step_75 : decode kMo_step.2.1 75 = .ok (.ifCond .ne 12, 3) := by decide +kernel
theorem dMo_step_78 : decode kMo_step.2.1 78 = .ok (.aload_n 0, 1) := by decide +kernel
theorem dMo_step_79 : decode kMo_step.2.1 79 = .ok (.getfield 167, 3) := by decide +kernel
theorem dMo_step_82 : decode kMo_step.2.1 82 = .ok (.iload_n 1, 1) := by decide +kernel
theorem dMo_step_83 : decode kMo_step.2.1 83 = .ok (.iaload, 1) := by decide +kernel
theorem dMo_step_84 : decode kMo_step.2.1 84 = .ok (.goto 9, 3) := by decide +kernel
theorem dMo_step_87 : decode kMo_step.2.1 87 = .ok (.aload_n 0, 1) := by decide +kernel
theorem dMo_step_88 : decode kMo_step.2.1 88 = .ok (.getfield 170, 3) := by decide +kernel
theorem dMo_step_91 : decode kMo_step.2.1 91 = .ok (.iload_n 1, 1) := by decide +kernel
theorem dMo_step_92 : decode kMo_step.2.1 92 = .ok (.iaload, 1) := by decide +kernel
theorem dMo_step_93 : decode kMo_step.2.1 93 = .ok (.ireturn, 1) := by decide +kernel
theorem dMo_tick_0 : decode kMo_tick.2.1 0 = .ok (.aload_n 0, 1) := by decide +kernel
theorem dMo_tick_1 : decode kMo_tick.2.1 1 = .ok (.iconst 0, 1) := by decide +kernel
theorem dMo_tick_2 : decode kMo_tick.2.1 2 = .ok (.putfield 18, 3) := by decide +kernel
theorem dMo_tick_5 : decode kMo_tick.2.1 5 = .ok (.aload_n 0, 1) := by decide +kernel
theorem dMo_tick_6 : decode kMo_tick.2.1 6 = .ok (.iconst 1, 1) := by decide +kernel
theorem dMo_tick_7 : decode kMo_tick.2.1 7 = .ok (.iload_n 1, 1) := by decide +kernel
theorem dMo_tick_8 : decode kMo_tick.2.1 8 = .ok (.ifCond .lt 11, 3) := by decide +kernel
theorem dMo_tick_11 : decode kMo_tick.2.1 11 = .ok (.iload_n 1, 1) := by decide +kernel
theorem dMo_tick_12 : decode kMo_tick.2.1 12 = .ok (.aload_n 0, 1) := by decide +kernel
theorem dMo_tick_13 : decode kMo_tick.2.1 13 = .ok (.invokevirtual 348, 3) := by decide +kernel
theorem dMo_tick_16 : decode kMo_tick.2.1 16 = .ok (.if_icmp .lt 7, 3) := by decide +kernel
theorem dMo_tick_19 : decode kMo_tick.2.1 19 = .ok (.iconst 1, 1) := by decide +kernel
theorem dMo_tick_20 : decode kMo_tick.2.1 20 = .ok (.goto 4, 3) := by decide +kernel
theorem dMo_tick_23 : decode kMo_tick.2.1 23 = .ok (.iconst 0, 1) := by decide +kernel
theorem dMo_tick_24 : decode kMo_tick.2.1 24 = .ok (.invokevirtual 180, 3) := by decide +kernel
theorem dMo_tick_27 : decode kMo_tick.2.1 27 = .ok (.ifCond .eq 5, 3) := by decide +kernel
theorem dMo_tick_30 : decode kMo_tick.2.1 30 = .ok (.iconst 0, 1) := by decide +kernel
theorem dMo_tick_31 : decode kMo_tick.2.1 31 = .ok (.ireturn, 1) := by decide +kernel
theorem dMo_tick_32 : decode kMo_tick.2.1 32 = .ok (.aload_n 0, 1) := by decide +kernel
theorem dMo_tick_33 : decode kMo_tick.2.1 33 = .ok (.aload_n 0, 1) := by decide +kernel
theorem dMo_tick_34 : decode kMo_tick.2.1 34 = .ok (.getfield 142, 3) := by decide +kernel
theorem dMo_tick_37 : decode kMo_tick.2.1 37 = .ok (.aload_n 0, 1) := by decide +kernel
theorem dMo_tick_38 : decode kMo_tick.2.1 38 = .ok (.getfield 158, 3) := by decide +kernel
theorem dMo_tick_41 : decode kMo_tick.2.1 41 = .ok (.aaload, 1) := by decide +kernel
theorem dMo_tick_42 : decode kMo_tick.2.1 42 = .ok (.iload_n 1, 1) := by decide +kernel
theorem dMo_tick_43 : decode kMo_tick.2.1 43 = .ok (.iaload, 1) := by decide +kernel
theorem dMo_tick_44 : decode kMo_tick.2.1 44 = .ok (.putfield 158, 3) := by decide +kernel
theorem dMo_tick_47 : decode kMo_tick.2.1 47 = .ok (.aload_n 0, 1) := by decide +kernel
theorem dMo_tick_48 : decode kMo_tick.2.1 48 = .ok (.getfield 158, 3) := by decide +kernel
theorem dMo_tick_51 : decode kMo_tick.2.1 51 = .ok (.ireturn, 1) := by decide +kernel
theorem dMo_go_0 : decode kMo_go.2.1 0 = .ok (.aload_n 0, 1) := by decide +kernel
theorem dMo_go_1 : decode kMo_go.2.1 1 = .ok (.iconst 0, 1) := by decide +kernel
theorem dMo_go_2 : decode kMo_go.2.1 2 = .ok (.putfield 18, 3) := by decide +kernel
theorem dMo_go_5 : decode kMo_go.2.1 5 = .ok (.aload_n 0, 1) := by decide +kernel
theorem dMo_go_6 : decode kMo_go.2.1 6 = .ok (.iconst 1, 1) := by decide +kernel
theorem dMo_go_7 : decode kMo_go.2.1 7 = .ok (.iload_n 1, 1) := by decide +kernel
theorem dMo_go_8 : decode kMo_go.2.1 8 = .ok (.ifCond .lt 11, 3) := by decide +kernel
theorem dMo_go_11 : decode kMo_go.2.1 11 = .ok (.iload_n 1, 1) := by decide +kernel
theorem dMo_go_12 : decode kMo_go.2.1 12 = .ok (.aload_n 0, 1) := by decide +kernel
theorem dMo_go_13 : decode kMo_go.2.1 13 = .ok (.invokevirtual 345, 3) := by decide +kernel
theorem dMo_go_16 : decode kMo_go.2.1 16 = .ok (.if_icmp .lt 7, 3) := by decide +kernel
theorem dMo_go_19 : decode kMo_go.2.1 19 = .ok (.iconst 1, 1) := by decide +kernel
theorem dMo_go_20 : decode kMo_go.2.1 20 = .ok (.goto 4, 3) := by decide +kernel
theorem dMo_go_23 : decode kMo_go.2.1 23 = .ok (.iconst 0, 1) := by decide +kernel
theorem dMo_go_24 : decode kMo_go.2.1 24 = .ok (.invokevirtual 180, 3) := by decide +kernel
theorem dMo_go_27 : decode kMo_go.2.1 27 = .ok (.ifCond .eq 5, 3) := by decide +kernel
theorem dMo_go_30 : decode kMo_go.2.1 30 = .ok (.iconst 0, 1) := by decide +kernel
theorem dMo_go_31 : decode kMo_go.2.1 31 = .ok (.ireturn, 1) := by decide +kernel
theorem dMo_go_32 : decode kMo_go.2.1 32 = .ok (.aload_n 0, 1) := by decide +kernel
theorem dMo_go_33 : decode kMo_go.2.1 33 = .ok (.getfield 158, 3) := by decide +kernel
theorem dMo_go_36 : decode kMo_go.2.1 36 = .ok (.istore_n 2, 1) := by decide +kernel
theorem dMo_go_37 : decode kMo_go.2.1 37 = .ok (.aload_n 0, 1) := by decide +kernel
theorem dMo_go_38 : decode kMo_go.2.1 38 = .ok (.iload_n 1, 1) := by decide +kernel
theorem dMo_go_39 : decode kMo_go.2.1 39 = .ok (.putfield 158, 3) := by decide +kernel
theorem dMo_go_42 : decode kMo_go.2.1 42 = .ok (.iload_n 2, 1) := by decide +kernel
theorem dMo_go_43 : decode kMo_go.2.1 43 = .ok (.ireturn, 1) := by decide +kernel
theorem dMo_value2_0 : decode kMo_value2.2.1 0 = .ok (.aload_n 0, 1) := by decide +kernel
theorem dMo_value2_1 : decode kMo_value2.2.1 1 = .ok (.iconst 0, 1) := by decide +kernel
theorem dMo_value2_2 : decode kMo_value2.2.1 2 = .ok (.putfield 18, 3) := by decide +kernel
theorem dMo_value2_5 : decode kMo_value2.2.1 5 = .ok (.aload_n 0, 1) := by decide +kernel
theorem dMo_value2_6 : decode kMo_value2.2.1 6 = .ok (.iconst 1, 1) := by decide +kernel
theorem dMo_value2_7 : decode kMo_value2.2.1 7 = .ok (.iload_n 1, 1) := by decide +kernel
theorem dMo_value2_8 : decode kMo_value2.2.1 8 = .ok (.ifCond .lt 11, 3) := by decide +kernel
theorem dMo_value2_11 : decode kMo_value2.2.1 11 = .ok (.iload_n 1, 1) := by decide +kernel
theorem dMo_value2_12 : decode kMo_value2.2.1 12 = .ok (.aload_n 0, 1) := by decide +kernel
theorem dMo_value2_13 : decode kMo_value2.2.1 13 = .ok (.getfield 62, 3) := by decide +kernel
theorem dMo_value2_16 : decode kMo_value2.2.1 16 = .ok (.if_icmp .lt 7, 3) := by decide +kernel
theorem dMo_value2_19 : decode kMo_value2.2.1 19 = .ok (.iconst 1, 1) := by decide +kernel
theorem dMo_value2_20 : decode kMo_value2.2.1 20 = .ok (.goto 4, 3) := by decide +kernel
theorem dMo_value2_23 : decode kMo_value2.2.1 23 = .ok (.iconst 0, 1) := by decide +kernel
theorem dMo_value2_24 : decode kMo_value2.2.1 24 = .ok (.invokevirtual 180, 3) := by decide +kernel
theorem dMo_value2_27 : decode kMo_value2.2.1 27 = .ok (.ifCond .ne 28, 3) := by decide +kernel
theorem dMo_value2_30 : decode kMo_value2.2.1 30 = .ok (.aload_n 0, 1) := by decide +kernel
theorem dMo_value2_31 : decode kMo_value2.2.1 31 = .ok (.iconst 2, 1) := by decide +kernel
theorem dMo_value2_32 : decode kMo_value2.2.1 32 = .ok (.iload_n 2, 1) := by decide +kernel
theorem dMo_value2_33 : decode kMo_value2.2.1 33 = .ok (.ifCond .lt 11, 3) := by decide +kernel
theorem dMo_value2_36 : decode kMo_value2.2.1 36 = .ok (.iload_n 2, 1) := by decide +kernel
theorem dMo_value2_37 : decode kMo_value2.2.1 37 = .ok (.aload_n 0, 1) := by decide +kernel
theorem dMo_value2_38 : decode kMo_value2.2.1 38 = .ok (.invokevirtual 348, 3) := by decide +kernel
theorem dMo_value2_41 : decode kMo_value2.2.1 41 = .ok (.if_icmp .lt 7, 3) := by decide +kernel
theorem dMo_value2_44 : decode kMo_value2.2.1 44 = .ok (.iconst 1, 1) := by decide +kernel
theorem dMo_value2_45 : decode kMo_value2.2.1 45 = .ok (.goto 4, 3) := by decide +kernel
theorem dMo_value2_48 : decode kMo_value2.2.1 48 = .ok (.iconst 0, 1) := by decide +kernel
theorem dMo_value2_49 : decode kMo_value2.2.1 49 = .ok (.invokevirtual 180, 3) := by decide +kernel
theorem dMo_value2_52 : decode kMo_value2.2.1 52 = .ok (.ifCond .eq 5, 3) := by decide +kernel
theorem dMo_value2_55 : decode kMo_value2.2.1 55 = .ok (.iconst 0, 1) := by decide +kernel
theorem dMo_value2_56 : decode kMo_value2.2.1 56 = .ok (.ireturn, 1) := by decide +kernel
theorem dMo_value2_57 : decode kMo_value2.2.1 57 = .ok (.aload_n 0, 1) := by decide +kernel
theorem dMo_value2_58 : decode kMo_value2.2.1 58 = .ok (.aload_n 0, 1) := by decide +kernel
theorem dMo_value2_59 : decode kMo_value2.2.1 59 = .ok (.getfield 158, 3) := by decide +kernel
theorem dMo_value2_62 : decode kMo_value2.2.1 62 = .ok (.iload_n 2, 1) := by decide +kernel
theorem dMo_value2_63 : decode kMo_value2.2.1 63 = .ok (.invokevirtual 351, 3) := by decide +kernel
theorem dMo_value2_66 : decode kMo_value2.2.1 66 = .ok (.aload_n 0, 1) := by decide +kernel
theorem dMo_value2_67 : decode kMo_value2.2.1 67 = .ok (.getfield 56, 3) := by decide +kernel
theorem dMo_value2_70 : decode kMo_value2.2.1 70 = .ok (.iload_n 1, 1) := by decide +kernel
theorem dMo_value2_71 : decode kMo_value2.2.1 71 = .ok (.iaload, 1) := by decide +kernel
theorem dMo_value2_72 : decode kMo_value2.2.1 72 = .ok (.tableswitch 64 1 3 #[28, 40, 52], 28) := by decide +kernel
theorem dMo_value2_100 : decode kMo_value2.2.1 100 = .ok (.aload_n 0, 1) := by decide +kernel
theorem dMo_value2_101 : decode kMo_value2.2.1 101 = .ok (.getfield 131, 3) := by decide +kernel
theorem dMo_value2_104 : decode kMo_value2.2.1 104 = .ok (.aload_n 0, 1) := by decide +kernel
theorem dMo_value2_105 : decode kMo_value2.2.1 105 = .ok (.getfield 59, 3) := by decide +kernel
theorem dMo_value2_108 : decode kMo_value2.2.1 108 = .ok (.iload_n 1, 1) := by decide +kernel
theorem dMo_value2_109 : decode kMo_value2.2.1 109 = .ok (.iaload, 1) := by decide +kernel
theorem dMo_value2_110 : decode kMo_value2.2.1 110 = .ok (.iaload, 1) := by decide +kernel
theorem dMo_value2_111 : decode kMo_value2.2.1 111 = .ok (.ireturn, 1) := by decide +kernel
theorem dMo_value2_112 : decode kMo_value2.2.1 112 = .ok (.aload_n 0, 1) := by decide +kernel
theorem dMo_value2_113 : decode kMo_value2.2.1 113 = .ok (.getfield 134, 3) := by decide +kernel
theorem dMo_value2_116 : decode kMo_value2.2.1 116 = .ok (.aload_n 0, 1) := by decide +kernel
theorem dMo_value2_117 : decode kMo_value2.2.1 117 = .ok (.getfield 59, 3) := by decide +kernel
theorem dMo_value2_120 : decode kMo_value2.2.1 120 = .ok (.iload_n 1, 1) := by decide +kernel
theorem dMo_value2_121 : decode kMo_value2.2.1 121 = .ok (.iaload, 1) := by decide +kernel
theorem dMo_value2_122 : decode kMo_value2.2.1 122 = .ok (.iaload, 1) := by decide +kernel
theorem dMo_value2_123 : decode kMo_value2.2.1 123 = .ok (.ireturn, 1) := by decide +kernel
theorem dMo_value2_124 : decode kMo_value2.2.1 124 = .ok (.aload_n 0, 1) := by decide +kernel
theorem dMo_value2_125 : decode kMo_value2.2.1 125 = .ok (.getfield 137, 3) := by decide +kernel
theorem dMo_value2_128 : decode kMo_value2.2.1 128 = .ok (.aload_n 0, 1) := by decide +kernel
theorem dMo_value2_129 : decode kMo_value2.2.1 129 = .ok (.getfield 59, 3) := by decide +kernel
theorem dMo_value2_132 : decode kMo_value2.2.1 132 = .ok (.iload_n 1, 1) := by decide +kernel
theorem dMo_value2_133 : decode kMo_value2.2.1 133 = .ok (.iaload, 1) := by decide +kernel
theorem dMo_value2_134 : decode kMo_value2.2.1 134 = .ok (.iaload, 1) := by decide +kernel
theorem dMo_value2_135 : decode kMo_value2.2.1 135 = .ok (.ireturn, 1) := by decide +kernel
theorem dMo_value2_136 : decode kMo_value2.2.1 136 = .ok (.aload_n 0, 1) := by decide +kernel
theorem dMo_value2_137 : decode kMo_value2.2.1 137 = .ok (.getfield 155, 3) := by decide +kernel
theorem dMo_value2_140 : decode kMo_value2.2.1 140 = .ok (.aload_n 0, 1) := by decide +kernel
theorem dMo_value2_141 : decode kMo_value2.2.1 141 = .ok (.getfield 59, 3) := by decide +kernel
theorem dMo_value2_144 : decode kMo_value2.2.1 144 = .ok (.iload_n 1, 1) := by decide +kernel
theorem dMo_value2_145 : decode kMo_value2.2.1 145 = .ok (.iaload, 1) := by decide +kernel
theorem dMo_value2_146 : decode kMo_value2.2.1 146 = .ok (.aaload, 1) := by decide +kernel
theorem dMo_value2_147 : decode kMo_value2.2.1 147 = .ok (.aload_n 0, 1) := by decide +kernel
theorem dMo_value2_148 : decode kMo_value2.2.1 148 = .ok (.getfield 158, 3) := by decide +kernel
theorem dMo_value2_151 : decode kMo_value2.2.1 151 = .ok (.baload, 1) := by decide +kernel
theorem dMo_value2_152 : decode kMo_value2.2.1 152 = .ok (.ifCond .eq 7, 3) := by decide +kernel
theorem dMo_value2_155 : decode kMo_value2.2.1 155 = .ok (.iconst 1, 1) := by decide +kernel
theorem dMo_value2_156 : decode kMo_value2.2.1 156 = .ok (.goto 4, 3) := by decide +kernel
theorem dMo_value2_159 : decode kMo_value2.2.1 159 = .ok (.iconst 0, 1) := by decide +kernel
theorem dMo_value2_160 : decode kMo_value2.2.1 160 = .ok (.ireturn, 1) := by decide +kernel
theorem dMo_count_0 : decode kMo_count.2.1 0 = .ok (.aload_n 0, 1) := by decide +kernel
theorem dMo_count_1 : decode kMo_count.2.1 1 = .ok (.iconst 0, 1) := by decide +kernel
theorem dMo_count_2 : decode kMo_count.2.1 2 = .ok (.putfield 18, 3) := by decide +kernel
theorem dMo_count_5 : decode kMo_count.2.1 5 = .ok (.iload_n 1, 1) := by decide +kernel
theorem dMo_count_6 : decode kMo_count.2.1 6 = .ok (.tableswitch 86 0 7 #[46, 51, 56, 61, 66, 71, 76, 81], 46) := by decide +kernel
theorem dMo_count_52 : decode kMo_count.2.1 52 = .ok (.aload_n 0, 1) := by decide +kernel
theorem dMo_count_53 : decode kMo_count.2.1 53 = .ok (.getfield 92, 3) := by decide +kernel
theorem dMo_count_56 : decode kMo_count.2.1 56 = .ok (.ireturn, 1) := by decide +kernel
theorem dMo_count_57 : decode kMo_count.2.1 57 = .ok (.aload_n 0, 1) := by decide +kernel
theorem dMo_count_58 : decode kMo_count.2.1 58 = .ok (.getfield 62, 3) := by decide +kernel
theorem dMo_count_61 : decode kMo_count.2.1 61 = .ok (.ireturn, 1) := by decide +kernel
theorem dMo_count_62 : decode kMo_count.2.1 62 = .ok (.aload_n 0, 1) := by decide +kernel
theorem dMo_count_63 : decode kMo_count.2.1 63 = .ok (.getfield 95, 3) := by decide +kernel
theorem dMo_count_66 : decode kMo_count.2.1 66 = .ok (.ireturn, 1) := by decide +kernel
theorem dMo_count_67 : decode kMo_count.2.1 67 = .ok (.aload_n 0, 1) := by decide +kernel
theorem dMo_count_68 : decode kMo_count.2.1 68 = .ok (.getfield 98, 3) := by decide +kernel
theorem dMo_count_71 : decode kMo_count.2.1 71 = .ok (.ireturn, 1) := by decide +kernel
theorem dMo_count_72 : decode kMo_count.2.1 72 = .ok (.aload_n 0, 1) := by decide +kernel
theorem dMo_count_73 : decode kMo_count.2.1 73 = .ok (.getfield 46, 3) := by decide +kernel
theorem dMo_count_76 : decode kMo_count.2.1 76 = .ok (.ireturn, 1) := by decide +kernel
theorem dMo_count_77 : decode kMo_count.2.1 77 = .ok (.aload_n 0, 1) := by decide +kernel
theorem dMo_count_78 : decode kMo_count.2.1 78 = .ok (.getfield 14, 3) := by decide +kernel
theorem dMo_count_81 : decode kMo_count.2.1 81 = .ok (.ireturn, 1) := by decide +kernel
theorem dMo_count_82 : decode kMo_count.2.1 82 = .ok (.aload_n 0, 1) := by decide +kernel
theorem dMo_count_83 : decode kMo_count.2.1 83 = .ok (.getfield 158, 3) := by decide +kernel
theorem dMo_count_86 : decode kMo_count.2.1 86 = .ok (.ireturn, 1) := by decide +kernel
theorem dMo_count_87 : decode kMo_count.2.1 87 = .ok (.aload_n 0, 1) := by decide +kernel
theorem dMo_count_88 : decode kMo_count.2.1 88 = .ok (.getfield 173, 3) := by decide +kernel
theorem dMo_count_91 : decode kMo_count.2.1 91 = .ok (.ireturn, 1) := by decide +kernel
theorem dMo_count_92 : decode kMo_count.2.1 92 = .ok (.iconst (-1), 1) := by decide +kernel
theorem dMo_count_93 : decode kMo_count.2.1 93 = .ok (.ireturn, 1) := by decide +kernel
theorem fMo_8 : pm_Fl "CircuitCheckerModel" 8 10 0 true := ⟨_, _, _, rfl, by decide, by decide +kernel, pW10, Or.inl (pm_in 1175 (by decide +kernel) rfl)⟩ -- tape
theorem sMo_8 : pm_Fs "CircuitCheckerModel" 10 0 (.array .byte) true := ⟨_, _, _, pY10, rfl, pY10_ok, pN10_ok, rfl, rfl, fun _ => rfl⟩
theorem fMo_14 : pm_Fl "CircuitCheckerModel" 14 10 1 false := ⟨_, _, _, rfl, by decide, by decide +kernel, pW10, Or.inl (pm_in 1176 (by decide +kernel) rfl)⟩ -- size
theorem sMo_14 : pm_Fs "CircuitCheckerModel" 10 1 .int false := ⟨_, _, _, pY10, rfl, pY10_ok, pN10_ok, rfl, rfl, fun h => by cases h⟩
theorem fMo_18 : pm_Fl "CircuitCheckerModel" 18 10 2 false := ⟨_, _, _, rfl, by decide, by decide +kernel, pW10, Or.inl (pm_in 1177 (by decide +kernel) rfl)⟩ -- thrown
theorem sMo_18 : pm_Fs "CircuitCheckerModel" 10 2 .int false := ⟨_, _, _, pY10, rfl, pY10_ok, pN10_ok, rfl, rfl, fun h => by cases h⟩
theorem fMo_21 : pm_Fl "CircuitCheckerModel" 21 10 3 false := ⟨_, _, _, rfl, by decide, by decide +kernel, pW10, Or.inl (pm_in 1178 (by decide +kernel) rfl)⟩ -- faultKind
theorem sMo_21 : pm_Fs "CircuitCheckerModel" 10 3 .int false := ⟨_, _, _, pY10, rfl, pY10_ok, pN10_ok, rfl, rfl, fun h => by cases h⟩
theorem fMo_24 : pm_Fl "CircuitCheckerModel" 24 10 4 false := ⟨_, _, _, rfl, by decide, by decide +kernel, pW10, Or.inl (pm_in 1179 (by decide +kernel) rfl)⟩ -- faultPlace
theorem sMo_24 : pm_Fs "CircuitCheckerModel" 10 4 .int false := ⟨_, _, _, pY10, rfl, pY10_ok, pN10_ok, rfl, rfl, fun h => by cases h⟩
theorem fMo_27 : pm_Fl "CircuitCheckerModel" 27 10 5 false := ⟨_, _, _, rfl, by decide, by decide +kernel, pW10, Or.inl (pm_in 1180 (by decide +kernel) rfl)⟩ -- pos
theorem sMo_27 : pm_Fs "CircuitCheckerModel" 10 5 .int false := ⟨_, _, _, pY10, rfl, pY10_ok, pN10_ok, rfl, rfl, fun h => by cases h⟩
theorem fMo_30 : pm_Fl "CircuitCheckerModel" 30 10 6 false := ⟨_, _, _, rfl, by decide, by decide +kernel, pW10, Or.inl (pm_in 1181 (by decide +kernel) rfl)⟩ -- token
theorem sMo_30 : pm_Fs "CircuitCheckerModel" 10 6 .int false := ⟨_, _, _, pY10, rfl, pY10_ok, pN10_ok, rfl, rfl, fun h => by cases h⟩
theorem fMo_33 : pm_Fl "CircuitCheckerModel" 33 10 7 false := ⟨_, _, _, rfl, by decide, by decide +kernel, pW10, Or.inl (pm_in 1182 (by decide +kernel) rfl)⟩ -- tokenAt
theorem sMo_33 : pm_Fs "CircuitCheckerModel" 10 7 .int false := ⟨_, _, _, pY10, rfl, pY10_ok, pN10_ok, rfl, rfl, fun h => by cases h⟩
theorem fMo_36 : pm_Fl "CircuitCheckerModel" 36 10 8 false := ⟨_, _, _, rfl, by decide, by decide +kernel, pW10, Or.inl (pm_in 1183 (by decide +kernel) rfl)⟩ -- tokenEnd
theorem sMo_36 : pm_Fs "CircuitCheckerModel" 10 8 .int false := ⟨_, _, _, pY10, rfl, pY10_ok, pN10_ok, rfl, rfl, fun h => by cases h⟩
theorem fMo_39 : pm_Fl "CircuitCheckerModel" 39 10 9 false := ⟨_, _, _, rfl, by decide, by decide +kernel, pW10, Or.inl (pm_in 1184 (by decide +kernel) rfl)⟩ -- tokens
theorem sMo_39 : pm_Fs "CircuitCheckerModel" 10 9 .int false := ⟨_, _, _, pY10, rfl, pY10_ok, pN10_ok, rfl, rfl, fun h => by cases h⟩
theorem fMo_42 : pm_Fl "CircuitCheckerModel" 42 10 10 false := ⟨_, _, _, rfl, by decide, by decide +kernel, pW10, Or.inl (pm_in 1185 (by decide +kernel) rfl)⟩ -- seen
theorem sMo_42 : pm_Fs "CircuitCheckerModel" 10 10 .boolean false := ⟨_, _, _, pY10, rfl, pY10_ok, pN10_ok, rfl, rfl, fun h => by cases h⟩
theorem fMo_46 : pm_Fl "CircuitCheckerModel" 46 10 11 false := ⟨_, _, _, rfl, by decide, by decide +kernel, pW10, Or.inl (pm_in 1186 (by decide +kernel) rfl)⟩ -- costs
theorem sMo_46 : pm_Fs "CircuitCheckerModel" 10 11 .int false := ⟨_, _, _, pY10, rfl, pY10_ok, pN10_ok, rfl, rfl, fun h => by cases h⟩
theorem fMo_49 : pm_Fl "CircuitCheckerModel" 49 10 12 true := ⟨_, _, _, rfl, by decide, by decide +kernel, pW10, Or.inl (pm_in 1187 (by decide +kernel) rfl)⟩ -- wordAt
theorem sMo_49 : pm_Fs "CircuitCheckerModel" 10 12 (.array .int) true := ⟨_, _, _, pY10, rfl, pY10_ok, pN10_ok, rfl, rfl, fun _ => rfl⟩
theorem fMo_53 : pm_Fl "CircuitCheckerModel" 53 10 13 true := ⟨_, _, _, rfl, by decide, by decide +kernel, pW10, Or.inl (pm_in 1188 (by decide +kernel) rfl)⟩ -- wordSize
theorem sMo_53 : pm_Fs "CircuitCheckerModel" 10 13 (.array .int) true := ⟨_, _, _, pY10, rfl, pY10_ok, pN10_ok, rfl, rfl, fun _ => rfl⟩
theorem fMo_56 : pm_Fl "CircuitCheckerModel" 56 10 14 true := ⟨_, _, _, rfl, by decide, by decide +kernel, pW10, Or.inl (pm_in 1189 (by decide +kernel) rfl)⟩ -- kind
theorem sMo_56 : pm_Fs "CircuitCheckerModel" 10 14 (.array .int) true := ⟨_, _, _, pY10, rfl, pY10_ok, pN10_ok, rfl, rfl, fun _ => rfl⟩
theorem fMo_59 : pm_Fl "CircuitCheckerModel" 59 10 15 true := ⟨_, _, _, rfl, by decide, by decide +kernel, pW10, Or.inl (pm_in 1190 (by decide +kernel) rfl)⟩ -- what
theorem sMo_59 : pm_Fs "CircuitCheckerModel" 10 15 (.array .int) true := ⟨_, _, _, pY10, rfl, pY10_ok, pN10_ok, rfl, rfl, fun _ => rfl⟩
theorem fMo_62 : pm_Fl "CircuitCheckerModel" 62 10 16 false := ⟨_, _, _, rfl, by decide, by decide +kernel, pW10, Or.inl (pm_in 1191 (by decide +kernel) rfl)⟩ -- names
theorem sMo_62 : pm_Fs "CircuitCheckerModel" 10 16 .int false := ⟨_, _, _, pY10, rfl, pY10_ok, pN10_ok, rfl, rfl, fun h => by cases h⟩
theorem fMo_65 : pm_Fl "CircuitCheckerModel" 65 10 17 true := ⟨_, _, _, rfl, by decide, by decide +kernel, pW10, Or.inl (pm_in 1192 (by decide +kernel) rfl)⟩ -- regBits
theorem sMo_65 : pm_Fs "CircuitCheckerModel" 10 17 (.array .int) true := ⟨_, _, _, pY10, rfl, pY10_ok, pN10_ok, rfl, rfl, fun _ => rfl⟩
theorem fMo_68 : pm_Fl "CircuitCheckerModel" 68 10 18 true := ⟨_, _, _, rfl, by decide, by decide +kernel, pW10, Or.inl (pm_in 1193 (by decide +kernel) rfl)⟩ -- regFirst
theorem sMo_68 : pm_Fs "CircuitCheckerModel" 10 18 (.array .int) true := ⟨_, _, _, pY10, rfl, pY10_ok, pN10_ok, rfl, rfl, fun _ => rfl⟩
theorem fMo_71 : pm_Fl "CircuitCheckerModel" 71 10 19 true := ⟨_, _, _, rfl, by decide, by decide +kernel, pW10, Or.inl (pm_in 1194 (by decide +kernel) rfl)⟩ -- regNext
theorem sMo_71 : pm_Fs "CircuitCheckerModel" 10 19 (.array .int) true := ⟨_, _, _, pY10, rfl, pY10_ok, pN10_ok, rfl, rfl, fun _ => rfl⟩
theorem fMo_74 : pm_Fl "CircuitCheckerModel" 74 10 20 true := ⟨_, _, _, rfl, by decide, by decide +kernel, pW10, Or.inl (pm_in 1195 (by decide +kernel) rfl)⟩ -- inputBits
theorem sMo_74 : pm_Fs "CircuitCheckerModel" 10 20 (.array .int) true := ⟨_, _, _, pY10, rfl, pY10_ok, pN10_ok, rfl, rfl, fun _ => rfl⟩
theorem fMo_77 : pm_Fl "CircuitCheckerModel" 77 10 21 true := ⟨_, _, _, rfl, by decide, by decide +kernel, pW10, Or.inl (pm_in 1196 (by decide +kernel) rfl)⟩ -- wire
theorem sMo_77 : pm_Fs "CircuitCheckerModel" 10 21 (.array .int) true := ⟨_, _, _, pY10, rfl, pY10_ok, pN10_ok, rfl, rfl, fun _ => rfl⟩
theorem fMo_80 : pm_Fl "CircuitCheckerModel" 80 10 22 true := ⟨_, _, _, rfl, by decide, by decide +kernel, pW10, Or.inl (pm_in 1197 (by decide +kernel) rfl)⟩ -- spec
theorem sMo_80 : pm_Fs "CircuitCheckerModel" 10 22 (.array .int) true := ⟨_, _, _, pY10, rfl, pY10_ok, pN10_ok, rfl, rfl, fun _ => rfl⟩
theorem fMo_83 : pm_Fl "CircuitCheckerModel" 83 10 23 false := ⟨_, _, _, rfl, by decide, by decide +kernel, pW10, Or.inl (pm_in 1198 (by decide +kernel) rfl)⟩ -- regs
theorem sMo_83 : pm_Fs "CircuitCheckerModel" 10 23 .int false := ⟨_, _, _, pY10, rfl, pY10_ok, pN10_ok, rfl, rfl, fun h => by cases h⟩
theorem fMo_86 : pm_Fl "CircuitCheckerModel" 86 10 24 false := ⟨_, _, _, rfl, by decide, by decide +kernel, pW10, Or.inl (pm_in 1199 (by decide +kernel) rfl)⟩ -- inputs
theorem sMo_86 : pm_Fs "CircuitCheckerModel" 10 24 .int false := ⟨_, _, _, pY10, rfl, pY10_ok, pN10_ok, rfl, rfl, fun h => by cases h⟩
theorem fMo_89 : pm_Fl "CircuitCheckerModel" 89 10 25 false := ⟨_, _, _, rfl, by decide, by decide +kernel, pW10, Or.inl (pm_in 1200 (by decide +kernel) rfl)⟩ -- wires
theorem sMo_89 : pm_Fs "CircuitCheckerModel" 10 25 .int false := ⟨_, _, _, pY10, rfl, pY10_ok, pN10_ok, rfl, rfl, fun h => by cases h⟩
theorem fMo_92 : pm_Fl "CircuitCheckerModel" 92 10 26 false := ⟨_, _, _, rfl, by decide, by decide +kernel, pW10, Or.inl (pm_in 1201 (by decide +kernel) rfl)⟩ -- specs
theorem sMo_92 : pm_Fs "CircuitCheckerModel" 10 26 .int false := ⟨_, _, _, pY10, rfl, pY10_ok, pN10_ok, rfl, rfl, fun h => by cases h⟩
theorem fMo_95 : pm_Fl "CircuitCheckerModel" 95 10 27 false := ⟨_, _, _, rfl, by decide, by decide +kernel, pW10, Or.inl (pm_in 1202 (by decide +kernel) rfl)⟩ -- stateBits
theorem sMo_95 : pm_Fs "CircuitCheckerModel" 10 27 .int false := ⟨_, _, _, pY10, rfl, pY10_ok, pN10_ok, rfl, rfl, fun h => by cases h⟩
theorem fMo_98 : pm_Fl "CircuitCheckerModel" 98 10 28 false := ⟨_, _, _, rfl, by decide, by decide +kernel, pW10, Or.inl (pm_in 1203 (by decide +kernel) rfl)⟩ -- allInputBits
theorem sMo_98 : pm_Fs "CircuitCheckerModel" 10 28 .int false := ⟨_, _, _, pY10, rfl, pY10_ok, pN10_ok, rfl, rfl, fun h => by cases h⟩
theorem fMo_101 : pm_Fl "CircuitCheckerModel" 101 10 29 true := ⟨_, _, _, rfl, by decide, by decide +kernel, pW10, Or.inl (pm_in 1204 (by decide +kernel) rfl)⟩ -- sort
theorem sMo_101 : pm_Fs "CircuitCheckerModel" 10 29 (.array .int) true := ⟨_, _, _, pY10, rfl, pY10_ok, pN10_ok, rfl, rfl, fun _ => rfl⟩
theorem fMo_104 : pm_Fl "CircuitCheckerModel" 104 10 30 true := ⟨_, _, _, rfl, by decide, by decide +kernel, pW10, Or.inl (pm_in 1205 (by decide +kernel) rfl)⟩ -- of
theorem sMo_104 : pm_Fs "CircuitCheckerModel" 10 30 (.array .int) true := ⟨_, _, _, pY10, rfl, pY10_ok, pN10_ok, rfl, rfl, fun _ => rfl⟩
theorem fMo_107 : pm_Fl "CircuitCheckerModel" 107 10 31 true := ⟨_, _, _, rfl, by decide, by decide +kernel, pW10, Or.inl (pm_in 1206 (by decide +kernel) rfl)⟩ -- kid
theorem sMo_107 : pm_Fs "CircuitCheckerModel" 10 31 (.array .int) true := ⟨_, _, _, pY10, rfl, pY10_ok, pN10_ok, rfl, rfl, fun _ => rfl⟩
theorem fMo_110 : pm_Fl "CircuitCheckerModel" 110 10 32 true := ⟨_, _, _, rfl, by decide, by decide +kernel, pW10, Or.inl (pm_in 1207 (by decide +kernel) rfl)⟩ -- beside
theorem sMo_110 : pm_Fs "CircuitCheckerModel" 10 32 (.array .int) true := ⟨_, _, _, pY10, rfl, pY10_ok, pN10_ok, rfl, rfl, fun _ => rfl⟩
theorem fMo_113 : pm_Fl "CircuitCheckerModel" 113 10 33 true := ⟨_, _, _, rfl, by decide, by decide +kernel, pW10, Or.inl (pm_in 1208 (by decide +kernel) rfl)⟩ -- by
theorem sMo_113 : pm_Fs "CircuitCheckerModel" 10 33 (.array .int) true := ⟨_, _, _, pY10, rfl, pY10_ok, pN10_ok, rfl, rfl, fun _ => rfl⟩
theorem fMo_116 : pm_Fl "CircuitCheckerModel" 116 10 34 false := ⟨_, _, _, rfl, by decide, by decide +kernel, pW10, Or.inl (pm_in 1209 (by decide +kernel) rfl)⟩ -- nodes
theorem sMo_116 : pm_Fs "CircuitCheckerModel" 10 34 .int false := ⟨_, _, _, pY10, rfl, pY10_ok, pN10_ok, rfl, rfl, fun h => by cases h⟩
theorem fMo_119 : pm_Fl "CircuitCheckerModel" 119 10 35 true := ⟨_, _, _, rfl, by decide, by decide +kernel, pW10, Or.inl (pm_in 1210 (by decide +kernel) rfl)⟩ -- how
theorem sMo_119 : pm_Fs "CircuitCheckerModel" 10 35 (.array .int) true := ⟨_, _, _, pY10, rfl, pY10_ok, pN10_ok, rfl, rfl, fun _ => rfl⟩
theorem fMo_122 : pm_Fl "CircuitCheckerModel" 122 10 36 true := ⟨_, _, _, rfl, by decide, by decide +kernel, pW10, Or.inl (pm_in 1211 (by decide +kernel) rfl)⟩ -- one
theorem sMo_122 : pm_Fs "CircuitCheckerModel" 10 36 (.array .int) true := ⟨_, _, _, pY10, rfl, pY10_ok, pN10_ok, rfl, rfl, fun _ => rfl⟩
theorem fMo_125 : pm_Fl "CircuitCheckerModel" 125 10 37 true := ⟨_, _, _, rfl, by decide, by decide +kernel, pW10, Or.inl (pm_in 1212 (by decide +kernel) rfl)⟩ -- two
theorem sMo_125 : pm_Fs "CircuitCheckerModel" 10 37 (.array .int) true := ⟨_, _, _, pY10, rfl, pY10_ok, pN10_ok, rfl, rfl, fun _ => rfl⟩
theorem fMo_128 : pm_Fl "CircuitCheckerModel" 128 10 38 false := ⟨_, _, _, rfl, by decide, by decide +kernel, pW10, Or.inl (pm_in 1213 (by decide +kernel) rfl)⟩ -- formulas
theorem sMo_128 : pm_Fs "CircuitCheckerModel" 10 38 .int false := ⟨_, _, _, pY10, rfl, pY10_ok, pN10_ok, rfl, rfl, fun h => by cases h⟩
theorem fMo_131 : pm_Fl "CircuitCheckerModel" 131 10 39 true := ⟨_, _, _, rfl, by decide, by decide +kernel, pW10, Or.inl (pm_in 1214 (by decide +kernel) rfl)⟩ -- regNow
theorem sMo_131 : pm_Fs "CircuitCheckerModel" 10 39 (.array .int) true := ⟨_, _, _, pY10, rfl, pY10_ok, pN10_ok, rfl, rfl, fun _ => rfl⟩
theorem fMo_134 : pm_Fl "CircuitCheckerModel" 134 10 40 true := ⟨_, _, _, rfl, by decide, by decide +kernel, pW10, Or.inl (pm_in 1215 (by decide +kernel) rfl)⟩ -- inputNow
theorem sMo_134 : pm_Fs "CircuitCheckerModel" 10 40 (.array .int) true := ⟨_, _, _, pY10, rfl, pY10_ok, pN10_ok, rfl, rfl, fun _ => rfl⟩
theorem fMo_137 : pm_Fl "CircuitCheckerModel" 137 10 41 true := ⟨_, _, _, rfl, by decide, by decide +kernel, pW10, Or.inl (pm_in 1216 (by decide +kernel) rfl)⟩ -- wireNow
theorem sMo_137 : pm_Fs "CircuitCheckerModel" 10 41 (.array .int) true := ⟨_, _, _, pY10, rfl, pY10_ok, pN10_ok, rfl, rfl, fun _ => rfl⟩
theorem fMo_142 : pm_Fl "CircuitCheckerModel" 142 10 42 true := ⟨_, _, _, rfl, by decide, by decide +kernel, pW10, Or.inl (pm_in 1217 (by decide +kernel) rfl)⟩ -- after
theorem sMo_142 : pm_Fs "CircuitCheckerModel" 10 42 (.array (.array .int)) true := ⟨_, _, _, pY10, rfl, pY10_ok, pN10_ok, rfl, rfl, fun _ => rfl⟩
theorem fMo_147 : pm_Fl "CircuitCheckerModel" 147 10 43 true := ⟨_, _, _, rfl, by decide, by decide +kernel, pW10, Or.inl (pm_in 1218 (by decide +kernel) rfl)⟩ -- set
theorem sMo_147 : pm_Fs "CircuitCheckerModel" 10 43 (.array (.array .boolean)) true := ⟨_, _, _, pY10, rfl, pY10_ok, pN10_ok, rfl, rfl, fun _ => rfl⟩
theorem fMo_151 : pm_Fl "CircuitCheckerModel" 151 10 44 true := ⟨_, _, _, rfl, by decide, by decide +kernel, pW10, Or.inl (pm_in 1219 (by decide +kernel) rfl)⟩ -- work
theorem sMo_151 : pm_Fs "CircuitCheckerModel" 10 44 (.array .boolean) true := ⟨_, _, _, pY10, rfl, pY10_ok, pN10_ok, rfl, rfl, fun _ => rfl⟩
theorem fMo_155 : pm_Fl "CircuitCheckerModel" 155 10 45 true := ⟨_, _, _, rfl, by decide, by decide +kernel, pW10, Or.inl (pm_in 1220 (by decide +kernel) rfl)⟩ -- specSet
theorem sMo_155 : pm_Fs "CircuitCheckerModel" 10 45 (.array (.array .boolean)) true := ⟨_, _, _, pY10, rfl, pY10_ok, pN10_ok, rfl, rfl, fun _ => rfl⟩
theorem fMo_158 : pm_Fl "CircuitCheckerModel" 158 10 46 false := ⟨_, _, _, rfl, by decide, by decide +kernel, pW10, Or.inl (pm_in 1221 (by decide +kernel) rfl)⟩ -- state
theorem sMo_158 : pm_Fs "CircuitCheckerModel" 10 46 .int false := ⟨_, _, _, pY10, rfl, pY10_ok, pN10_ok, rfl, rfl, fun h => by cases h⟩
theorem fMo_161 : pm_Fl "CircuitCheckerModel" 161 10 47 false := ⟨_, _, _, rfl, by decide, by decide +kernel, pW10, Or.inl (pm_in 1222 (by decide +kernel) rfl)⟩ -- first
theorem sMo_161 : pm_Fs "CircuitCheckerModel" 10 47 .int false := ⟨_, _, _, pY10, rfl, pY10_ok, pN10_ok, rfl, rfl, fun h => by cases h⟩
theorem fMo_164 : pm_Fl "CircuitCheckerModel" 164 10 48 true := ⟨_, _, _, rfl, by decide, by decide +kernel, pW10, Or.inl (pm_in 1223 (by decide +kernel) rfl)⟩ -- away
theorem sMo_164 : pm_Fs "CircuitCheckerModel" 10 48 (.array .int) true := ⟨_, _, _, pY10, rfl, pY10_ok, pN10_ok, rfl, rfl, fun _ => rfl⟩
theorem fMo_167 : pm_Fl "CircuitCheckerModel" 167 10 49 true := ⟨_, _, _, rfl, by decide, by decide +kernel, pW10, Or.inl (pm_in 1224 (by decide +kernel) rfl)⟩ -- traceState
theorem sMo_167 : pm_Fs "CircuitCheckerModel" 10 49 (.array .int) true := ⟨_, _, _, pY10, rfl, pY10_ok, pN10_ok, rfl, rfl, fun _ => rfl⟩
theorem fMo_170 : pm_Fl "CircuitCheckerModel" 170 10 50 true := ⟨_, _, _, rfl, by decide, by decide +kernel, pW10, Or.inl (pm_in 1225 (by decide +kernel) rfl)⟩ -- traceInput
theorem sMo_170 : pm_Fs "CircuitCheckerModel" 10 50 (.array .int) true := ⟨_, _, _, pY10, rfl, pY10_ok, pN10_ok, rfl, rfl, fun _ => rfl⟩
theorem fMo_173 : pm_Fl "CircuitCheckerModel" 173 10 51 false := ⟨_, _, _, rfl, by decide, by decide +kernel, pW10, Or.inl (pm_in 1226 (by decide +kernel) rfl)⟩ -- steps
theorem sMo_173 : pm_Fs "CircuitCheckerModel" 10 51 .int false := ⟨_, _, _, pY10, rfl, pY10_ok, pN10_ok, rfl, rfl, fun h => by cases h⟩
theorem fMo_176 : pm_Fl "CircuitCheckerModel" 176 10 52 false := ⟨_, _, _, rfl, by decide, by decide +kernel, pW10, Or.inl (pm_in 1227 (by decide +kernel) rfl)⟩ -- traced
theorem sMo_176 : pm_Fs "CircuitCheckerModel" 10 52 .boolean false := ⟨_, _, _, pY10, rfl, pY10_ok, pN10_ok, rfl, rfl, fun h => by cases h⟩
theorem fMo_331 : pm_Fl "CircuitCheckerModel" 331 11 5 false := ⟨_, _, _, rfl, by decide, by decide +kernel, pW11, Or.inl (pm_in 1395 (by decide +kernel) rfl)⟩ -- kind
theorem fMo_333 : pm_Fl "CircuitCheckerModel" 333 11 6 false := ⟨_, _, _, rfl, by decide, by decide +kernel, pW11, Or.inl (pm_in 1397 (by decide +kernel) rfl)⟩ -- place
theorem cMo_7 : Cond.constant "CircuitCheckerModel" 7 (65536) ∈ pm_TS := pm_in 1169 (by decide +kernel) rfl
theorem cMo_179 : Cond.constant "CircuitCheckerModel" 179 (65516) ∈ pm_TS := pm_in 1344 (by decide +kernel) rfl
theorem nMo_187 : pm_Cn "CircuitCheckerModel" 187 11 8 := ⟨_, _, pY11, rfl, pW11, pY11_ok, by decide +kernel, pm_in 1357 (by decide +kernel) rfl, pm_in 1374 (by decide +kernel) rfl, pm_in 26 (by decide +kernel) rfl⟩
theorem wMo_init : Cond.code kMo_init.1 kMo_init.2.1 kMo_init.2.2.1 kMo_init.2.2.2 ∈ pm_TS := pm_in 1167 (by decide +kernel) rfl
theorem iMo_init : kMo_init.1.name = "<init>" ∧ kMo_init.2.2.2 = none ∧ Cond.instanceMethod kMo_init.1 ∈ pm_TS := ⟨rfl, rfl, pm_in 1166 (by decide +kernel) rfl⟩
theorem wMo_thrown : Cond.code kMo_thrown.1 kMo_thrown.2.1 kMo_thrown.2.2.1 kMo_thrown.2.2.2 ∈ pm_TS := pm_in 1339 (by decide +kernel) rfl
theorem vMo_thrown : pm_Vt kMo_thrown := ⟨pm_in 1337 (by decide +kernel) rfl, pm_in 1338 (by decide +kernel) rfl⟩
theorem wMo_feed : Cond.code kMo_feed.1 kMo_feed.2.1 kMo_feed.2.2.1 kMo_feed.2.2.2 ∈ pm_TS := pm_in 1343 (by decide +kernel) rfl
theorem vMo_feed : pm_Vt kMo_feed := ⟨pm_in 1341 (by decide +kernel) rfl, pm_in 1342 (by decide +kernel) rfl⟩
theorem wMo_refuse : Cond.code kMo_refuse.1 kMo_refuse.2.1 kMo_refuse.2.2.1 kMo_refuse.2.2.2 ∈ pm_TS := pm_in 1348 (by decide +kernel) rfl
theorem vMo_refuse : pm_Vt kMo_refuse := ⟨pm_in 1347 (by decide +kernel) rfl, pm_inS (q := (kMo_refuse.1, 53)) 74 (by decide +kernel)⟩
theorem wMo_end : Cond.code kMo_end.1 kMo_end.2.1 kMo_end.2.2.1 kMo_end.2.2.2 ∈ pm_TS := pm_in 1352 (by decide +kernel) rfl
theorem vMo_end : pm_Vt kMo_end := ⟨pm_in 1350 (by decide +kernel) rfl, pm_in 1351 (by decide +kernel) rfl⟩
theorem wMo_clear : Cond.code kMo_clear.1 kMo_clear.2.1 kMo_clear.2.2.1 kMo_clear.2.2.2 ∈ pm_TS := pm_in 1361 (by decide +kernel) rfl
theorem vMo_clear : pm_Vt kMo_clear := ⟨pm_in 1360 (by decide +kernel) rfl, pm_inS (q := (kMo_clear.1, 53)) 75 (by decide +kernel)⟩
theorem wMo_lines : Cond.code kMo_lines.1 kMo_lines.2.1 kMo_lines.2.2.1 kMo_lines.2.2.2 ∈ pm_TS := pm_in 1365 (by decide +kernel) rfl
theorem vMo_lines : pm_Vt kMo_lines := ⟨pm_in 1364 (by decide +kernel) rfl, pm_inS (q := (kMo_lines.1, 53)) 76 (by decide +kernel)⟩
theorem wMo_peek : Cond.code kMo_peek.1 kMo_peek.2.1 kMo_peek.2.2.1 kMo_peek.2.2.2 ∈ pm_TS := pm_in 1369 (by decide +kernel) rfl
theorem vMo_peek : pm_Vt kMo_peek := ⟨pm_in 1368 (by decide +kernel) rfl, pm_inS (q := (kMo_peek.1, 53)) 77 (by decide +kernel)⟩
theorem wMo_parts : Cond.code kMo_parts.1 kMo_parts.2.1 kMo_parts.2.2.1 kMo_parts.2.2.2 ∈ pm_TS := pm_in 1373 (by decide +kernel) rfl
theorem vMo_parts : pm_Vt kMo_parts := ⟨pm_in 1372 (by decide +kernel) rfl, pm_inS (q := (kMo_parts.1, 53)) 78 (by decide +kernel)⟩
theorem wMo_letter : Cond.code kMo_letter.1 kMo_letter.2.1 kMo_letter.2.2.1 kMo_letter.2.2.2 ∈ pm_TS := pm_in 1406 (by decide +kernel) rfl
theorem tMo_letter : Cond.static kMo_letter.1 ∈ pm_TS := pm_in 1405 (by decide +kernel) rfl
theorem wMo_digit : Cond.code kMo_digit.1 kMo_digit.2.1 kMo_digit.2.2.1 kMo_digit.2.2.2 ∈ pm_TS := pm_in 1409 (by decide +kernel) rfl
theorem tMo_digit : Cond.static kMo_digit.1 ∈ pm_TS := pm_in 1408 (by decide +kernel) rfl
theorem wMo_byteAt : Cond.code kMo_byteAt.1 kMo_byteAt.2.1 kMo_byteAt.2.2.1 kMo_byteAt.2.2.2 ∈ pm_TS := pm_in 1413 (by decide +kernel) rfl
theorem vMo_byteAt : pm_Vt kMo_byteAt := ⟨pm_in 1412 (by decide +kernel) rfl, pm_inS (q := (kMo_byteAt.1, 53)) 79 (by decide +kernel)⟩
theorem wMo_sign : Cond.code kMo_sign.1 kMo_sign.2.1 kMo_sign.2.2.1 kMo_sign.2.2.2 ∈ pm_TS := pm_in 1416 (by decide +kernel) rfl
theorem tMo_sign : Cond.static kMo_sign.1 ∈ pm_TS := pm_in 1415 (by decide +kernel) rfl
theorem wMo_is : Cond.code kMo_is.1 kMo_is.2.1 kMo_is.2.2.1 kMo_is.2.2.2 ∈ pm_TS := pm_in 1421 (by decide +kernel) rfl
theorem vMo_is : pm_Vt kMo_is := ⟨pm_in 1420 (by decide +kernel) rfl, pm_inS (q := (kMo_is.1, 53)) 80 (by decide +kernel)⟩
theorem wMo_reg : Cond.code kMo_reg.1 kMo_reg.2.1 kMo_reg.2.2.1 kMo_reg.2.2.2 ∈ pm_TS := pm_in 1427 (by decide +kernel) rfl
theorem vMo_reg : pm_Vt kMo_reg := ⟨pm_in 1426 (by decide +kernel) rfl, pm_inS (q := (kMo_reg.1, 53)) 81 (by decide +kernel)⟩
theorem wMo_take : Cond.code kMo_take.1 kMo_take.2.1 kMo_take.2.2.1 kMo_take.2.2.2 ∈ pm_TS := pm_in 1431 (by decide +kernel) rfl
theorem vMo_take : pm_Vt kMo_take := ⟨pm_in 1430 (by decide +kernel) rfl, pm_inS (q := (kMo_take.1, 53)) 82 (by decide +kernel)⟩
theorem wMo_declare : Cond.code kMo_declare.1 kMo_declare.2.1 kMo_declare.2.2.1 kMo_declare.2.2.2 ∈ pm_TS := pm_in 1435 (by decide +kernel) rfl
theorem vMo_declare : pm_Vt kMo_declare := ⟨pm_in 1434 (by decide +kernel) rfl, pm_inS (q := (kMo_declare.1, 53)) 83 (by decide +kernel)⟩
theorem wMo_reserved : Cond.code kMo_reserved.1 kMo_reserved.2.1 kMo_reserved.2.2.1 kMo_reserved.2.2.2 ∈ pm_TS := pm_in 1439 (by decide +kernel) rfl
theorem vMo_reserved : pm_Vt kMo_reserved := ⟨pm_in 1438 (by decide +kernel) rfl, pm_inS (q := (kMo_reserved.1, 53)) 84 (by decide +kernel)⟩
theorem wMo_cant : Cond.code kMo_cant.1 kMo_cant.2.1 kMo_cant.2.2.1 kMo_cant.2.2.2 ∈ pm_TS := pm_in 1456 (by decide +kernel) rfl
theorem vMo_cant : pm_Vt kMo_cant := ⟨pm_in 1455 (by decide +kernel) rfl, pm_inS (q := (kMo_cant.1, 53)) 85 (by decide +kernel)⟩
theorem wMo_named : Cond.code kMo_named.1 kMo_named.2.1 kMo_named.2.2.1 kMo_named.2.2.2 ∈ pm_TS := pm_in 1460 (by decide +kernel) rfl
theorem vMo_named : pm_Vt kMo_named := ⟨pm_in 1459 (by decide +kernel) rfl, pm_inS (q := (kMo_named.1, 53)) 86 (by decide +kernel)⟩
theorem wMo_must : Cond.code kMo_must.1 kMo_must.2.1 kMo_must.2.2.1 kMo_must.2.2.2 ∈ pm_TS := pm_in 1464 (by decide +kernel) rfl
theorem vMo_must : pm_Vt kMo_must := ⟨pm_in 1463 (by decide +kernel) rfl, pm_inS (q := (kMo_must.1, 53)) 87 (by decide +kernel)⟩
theorem wMo_number : Cond.code kMo_number.1 kMo_number.2.1 kMo_number.2.2.1 kMo_number.2.2.2 ∈ pm_TS := pm_in 1468 (by decide +kernel) rfl
theorem vMo_number : pm_Vt kMo_number := ⟨pm_in 1467 (by decide +kernel) rfl, pm_inS (q := (kMo_number.1, 53)) 88 (by decide +kernel)⟩
theorem wMo_input : Cond.code kMo_input.1 kMo_input.2.1 kMo_input.2.2.1 kMo_input.2.2.2 ∈ pm_TS := pm_in 1472 (by decide +kernel) rfl
theorem vMo_input : pm_Vt kMo_input := ⟨pm_in 1471 (by decide +kernel) rfl, pm_inS (q := (kMo_input.1, 53)) 89 (by decide +kernel)⟩
theorem wMo_wire : Cond.code kMo_wire.1 kMo_wire.2.1 kMo_wire.2.2.1 kMo_wire.2.2.2 ∈ pm_TS := pm_in 1476 (by decide +kernel) rfl
theorem vMo_wire : pm_Vt kMo_wire := ⟨pm_in 1475 (by decide +kernel) rfl, pm_inS (q := (kMo_wire.1, 53)) 90 (by decide +kernel)⟩
theorem wMo_expression : Cond.code kMo_expression.1 kMo_expression.2.1 kMo_expression.2.2.1 kMo_expression.2.2.2 ∈ pm_TS := pm_in 1480 (by decide +kernel) rfl
theorem vMo_expression : pm_Vt kMo_expression := ⟨pm_in 1479 (by decide +kernel) rfl, pm_inS (q := (kMo_expression.1, 53)) 91 (by decide +kernel)⟩
theorem wMo_chain : Cond.code kMo_chain.1 kMo_chain.2.1 kMo_chain.2.2.1 kMo_chain.2.2.2 ∈ pm_TS := pm_in 1484 (by decide +kernel) rfl
theorem vMo_chain : pm_Vt kMo_chain := ⟨pm_in 1483 (by decide +kernel) rfl, pm_inS (q := (kMo_chain.1, 53)) 92 (by decide +kernel)⟩
theorem wMo_unary : Cond.code kMo_unary.1 kMo_unary.2.1 kMo_unary.2.2.1 kMo_unary.2.2.2 ∈ pm_TS := pm_in 1488 (by decide +kernel) rfl
theorem vMo_unary : pm_Vt kMo_unary := ⟨pm_in 1487 (by decide +kernel) rfl, pm_inS (q := (kMo_unary.1, 53)) 93 (by decide +kernel)⟩
theorem wMo_pays : Cond.code kMo_pays.1 kMo_pays.2.1 kMo_pays.2.2.1 kMo_pays.2.2.2 ∈ pm_TS := pm_in 1492 (by decide +kernel) rfl
theorem vMo_pays : pm_Vt kMo_pays := ⟨pm_in 1491 (by decide +kernel) rfl, pm_inS (q := (kMo_pays.1, 53)) 94 (by decide +kernel)⟩
theorem wMo_nest : Cond.code kMo_nest.1 kMo_nest.2.1 kMo_nest.2.2.1 kMo_nest.2.2.2 ∈ pm_TS := pm_in 1496 (by decide +kernel) rfl
theorem vMo_nest : pm_Vt kMo_nest := ⟨pm_in 1495 (by decide +kernel) rfl, pm_inS (q := (kMo_nest.1, 53)) 95 (by decide +kernel)⟩
theorem wMo_node : Cond.code kMo_node.1 kMo_node.2.1 kMo_node.2.2.1 kMo_node.2.2.2 ∈ pm_TS := pm_in 1500 (by decide +kernel) rfl
theorem vMo_node : pm_Vt kMo_node := ⟨pm_in 1499 (by decide +kernel) rfl, pm_inS (q := (kMo_node.1, 53)) 96 (by decide +kernel)⟩
theorem wMo_joins : Cond.code kMo_joins.1 kMo_joins.2.1 kMo_joins.2.2.1 kMo_joins.2.2.2 ∈ pm_TS := pm_in 1503 (by decide +kernel) rfl
theorem tMo_joins : Cond.static kMo_joins.1 ∈ pm_TS := pm_in 1502 (by decide +kernel) rfl
theorem wMo_price : Cond.code kMo_price.1 kMo_price.2.1 kMo_price.2.2.1 kMo_price.2.2.2 ∈ pm_TS := pm_in 1506 (by decide +kernel) rfl
theorem tMo_price : Cond.static kMo_price.1 ∈ pm_TS := pm_in 1505 (by decide +kernel) rfl
theorem wMo_next : Cond.code kMo_next.1 kMo_next.2.1 kMo_next.2.2.1 kMo_next.2.2.2 ∈ pm_TS := pm_in 1510 (by decide +kernel) rfl
theorem vMo_next : pm_Vt kMo_next := ⟨pm_in 1509 (by decide +kernel) rfl, pm_inS (q := (kMo_next.1, 53)) 97 (by decide +kernel)⟩
theorem wMo_spec : Cond.code kMo_spec.1 kMo_spec.2.1 kMo_spec.2.2.1 kMo_spec.2.2.2 ∈ pm_TS := pm_in 1514 (by decide +kernel) rfl
theorem vMo_spec : pm_Vt kMo_spec := ⟨pm_in 1513 (by decide +kernel) rfl, pm_inS (q := (kMo_spec.1, 53)) 98 (by decide +kernel)⟩
theorem wMo_formula : Cond.code kMo_formula.1 kMo_formula.2.1 kMo_formula.2.2.1 kMo_formula.2.2.2 ∈ pm_TS := pm_in 1518 (by decide +kernel) rfl
theorem vMo_formula : pm_Vt kMo_formula := ⟨pm_in 1517 (by decide +kernel) rfl, pm_inS (q := (kMo_formula.1, 53)) 99 (by decide +kernel)⟩
theorem wMo_either : Cond.code kMo_either.1 kMo_either.2.1 kMo_either.2.2.1 kMo_either.2.2.2 ∈ pm_TS := pm_in 1522 (by decide +kernel) rfl
theorem vMo_either : pm_Vt kMo_either := ⟨pm_in 1521 (by decide +kernel) rfl, pm_inS (q := (kMo_either.1, 53)) 100 (by decide +kernel)⟩
theorem wMo_both : Cond.code kMo_both.1 kMo_both.2.1 kMo_both.2.2.1 kMo_both.2.2.2 ∈ pm_TS := pm_in 1526 (by decide +kernel) rfl
theorem vMo_both : pm_Vt kMo_both := ⟨pm_in 1525 (by decide +kernel) rfl, pm_inS (q := (kMo_both.1, 53)) 101 (by decide +kernel)⟩
theorem wMo_single : Cond.code kMo_single.1 kMo_single.2.1 kMo_single.2.2.1 kMo_single.2.2.2 ∈ pm_TS := pm_in 1530 (by decide +kernel) rfl
theorem vMo_single : pm_Vt kMo_single := ⟨pm_in 1529 (by decide +kernel) rfl, pm_inS (q := (kMo_single.1, 53)) 102 (by decide +kernel)⟩
theorem wMo_make : Cond.code kMo_make.1 kMo_make.2.1 kMo_make.2.2.1 kMo_make.2.2.2 ∈ pm_TS := pm_in 1534 (by decide +kernel) rfl
theorem vMo_make : pm_Vt kMo_make := ⟨pm_in 1533 (by decide +kernel) rfl, pm_inS (q := (kMo_make.1, 53)) 103 (by decide +kernel)⟩
theorem wMo_workOut : Cond.code kMo_workOut.1 kMo_workOut.2.1 kMo_workOut.2.2.1 kMo_workOut.2.2.2 ∈ pm_TS := pm_in 1538 (by decide +kernel) rfl
theorem vMo_workOut : pm_Vt kMo_workOut := ⟨pm_in 1537 (by decide +kernel) rfl, pm_inS (q := (kMo_workOut.1, 53)) 104 (by decide +kernel)⟩
theorem wMo_all : Cond.code kMo_all.1 kMo_all.2.1 kMo_all.2.2.1 kMo_all.2.2.2 ∈ pm_TS := pm_in 1542 (by decide +kernel) rfl
theorem vMo_all : pm_Vt kMo_all := ⟨pm_in 1541 (by decide +kernel) rfl, pm_inS (q := (kMo_all.1, 53)) 105 (by decide +kernel)⟩
theorem wMo_allInputs : Cond.code kMo_allInputs.1 kMo_allInputs.2.1 kMo_allInputs.2.2.1 kMo_allInputs.2.2.2 ∈ pm_TS := pm_in 1546 (by decide +kernel) rfl
theorem vMo_allInputs : pm_Vt kMo_allInputs := ⟨pm_in 1545 (by decide +kernel) rfl, pm_inS (q := (kMo_allInputs.1, 53)) 106 (by decide +kernel)⟩
theorem wMo_set : Cond.code kMo_set.1 kMo_set.2.1 kMo_set.2.2.1 kMo_set.2.2.2 ∈ pm_TS := pm_in 1550 (by decide +kernel) rfl
theorem vMo_set : pm_Vt kMo_set := ⟨pm_in 1549 (by decide +kernel) rfl, pm_inS (q := (kMo_set.1, 53)) 107 (by decide +kernel)⟩
theorem wMo_value : Cond.code kMo_value.1 kMo_value.2.1 kMo_value.2.2.1 kMo_value.2.2.2 ∈ pm_TS := pm_in 1554 (by decide +kernel) rfl
theorem vMo_value : pm_Vt kMo_value := ⟨pm_in 1553 (by decide +kernel) rfl, pm_inS (q := (kMo_value.1, 53)) 108 (by decide +kernel)⟩
theorem wMo_joined : Cond.code kMo_joined.1 kMo_joined.2.1 kMo_joined.2.2.1 kMo_joined.2.2.2 ∈ pm_TS := pm_in 1557 (by decide +kernel) rfl
theorem tMo_joined : Cond.static kMo_joined.1 ∈ pm_TS := pm_in 1556 (by decide +kernel) rfl
theorem wMo_judge : Cond.code kMo_judge.1 kMo_judge.2.1 kMo_judge.2.2.1 kMo_judge.2.2.2 ∈ pm_TS := pm_in 1561 (by decide +kernel) rfl
theorem vMo_judge : pm_Vt kMo_judge := ⟨pm_in 1560 (by decide +kernel) rfl, pm_inS (q := (kMo_judge.1, 53)) 109 (by decide +kernel)⟩
theorem wMo_next2 : Cond.code kMo_next2.1 kMo_next2.2.1 kMo_next2.2.2.1 kMo_next2.2.2.2 ∈ pm_TS := pm_in 1565 (by decide +kernel) rfl
theorem vMo_next2 : pm_Vt kMo_next2 := ⟨pm_in 1564 (by decide +kernel) rfl, pm_inS (q := (kMo_next2.1, 53)) 110 (by decide +kernel)⟩
theorem wMo_always : Cond.code kMo_always.1 kMo_always.2.1 kMo_always.2.2.1 kMo_always.2.2.2 ∈ pm_TS := pm_in 1569 (by decide +kernel) rfl
theorem vMo_always : pm_Vt kMo_always := ⟨pm_in 1568 (by decide +kernel) rfl, pm_inS (q := (kMo_always.1, 53)) 111 (by decide +kernel)⟩
theorem wMo_fixed : Cond.code kMo_fixed.1 kMo_fixed.2.1 kMo_fixed.2.2.1 kMo_fixed.2.2.2 ∈ pm_TS := pm_in 1573 (by decide +kernel) rfl
theorem vMo_fixed : pm_Vt kMo_fixed := ⟨pm_in 1572 (by decide +kernel) rfl, pm_inS (q := (kMo_fixed.1, 53)) 112 (by decide +kernel)⟩
theorem wMo_fault : Cond.code kMo_fault.1 kMo_fault.2.1 kMo_fault.2.2.1 kMo_fault.2.2.2 ∈ pm_TS := pm_in 1578 (by decide +kernel) rfl
theorem vMo_fault : pm_Vt kMo_fault := ⟨pm_in 1576 (by decide +kernel) rfl, pm_in 1577 (by decide +kernel) rfl⟩
theorem wMo_holds : Cond.code kMo_holds.1 kMo_holds.2.1 kMo_holds.2.2.1 kMo_holds.2.2.2 ∈ pm_TS := pm_in 1582 (by decide +kernel) rfl
theorem vMo_holds : pm_Vt kMo_holds := ⟨pm_in 1580 (by decide +kernel) rfl, pm_in 1581 (by decide +kernel) rfl⟩
theorem wMo_noSpec : Cond.code kMo_noSpec.1 kMo_noSpec.2.1 kMo_noSpec.2.2.1 kMo_noSpec.2.2.2 ∈ pm_TS := pm_in 1586 (by decide +kernel) rfl
theorem vMo_noSpec : pm_Vt kMo_noSpec := ⟨pm_in 1585 (by decide +kernel) rfl, pm_inS (q := (kMo_noSpec.1, 53)) 113 (by decide +kernel)⟩
theorem wMo_states : Cond.code kMo_states.1 kMo_states.2.1 kMo_states.2.2.1 kMo_states.2.2.2 ∈ pm_TS := pm_in 1590 (by decide +kernel) rfl
theorem vMo_states : pm_Vt kMo_states := ⟨pm_in 1588 (by decide +kernel) rfl, pm_in 1589 (by decide +kernel) rfl⟩
theorem wMo_at : Cond.code kMo_at.1 kMo_at.2.1 kMo_at.2.2.1 kMo_at.2.2.2 ∈ pm_TS := pm_in 1594 (by decide +kernel) rfl
theorem vMo_at : pm_Vt kMo_at := ⟨pm_in 1592 (by decide +kernel) rfl, pm_in 1593 (by decide +kernel) rfl⟩
theorem wMo_reachable : Cond.code kMo_reachable.1 kMo_reachable.2.1 kMo_reachable.2.2.1 kMo_reachable.2.2.2 ∈ pm_TS := pm_in 1598 (by decide +kernel) rfl
theorem vMo_reachable : pm_Vt kMo_reachable := ⟨pm_in 1596 (by decide +kernel) rfl, pm_in 1597 (by decide +kernel) rfl⟩
theorem wMo_trace : Cond.code kMo_trace.1 kMo_trace.2.1 kMo_trace.2.2.1 kMo_trace.2.2.2 ∈ pm_TS := pm_in 1602 (by decide +kernel) rfl
theorem vMo_trace : pm_Vt kMo_trace := ⟨pm_in 1600 (by decide +kernel) rfl, pm_in 1601 (by decide +kernel) rfl⟩
theorem wMo_step : Cond.code kMo_step.1 kMo_step.2.1 kMo_step.2.2.1 kMo_step.2.2.2 ∈ pm_TS := pm_in 1606 (by decide +kernel) rfl
theorem vMo_step : pm_Vt kMo_step := ⟨pm_in 1604 (by decide +kernel) rfl, pm_in 1605 (by decide +kernel) rfl⟩
theorem wMo_tick : Cond.code kMo_tick.1 kMo_tick.2.1 kMo_tick.2.2.1 kMo_tick.2.2.2 ∈ pm_TS := pm_in 1610 (by decide +kernel) rfl
theorem vMo_tick : pm_Vt kMo_tick := ⟨pm_in 1608 (by decide +kernel) rfl, pm_in 1609 (by decide +kernel) rfl⟩
theorem wMo_go : Cond.code kMo_go.1 kMo_go.2.1 kMo_go.2.2.1 kMo_go.2.2.2 ∈ pm_TS := pm_in 1614 (by decide +kernel) rfl
theorem vMo_go : pm_Vt kMo_go := ⟨pm_in 1612 (by decide +kernel) rfl, pm_in 1613 (by decide +kernel) rfl⟩
theorem wMo_value2 : Cond.code kMo_value2.1 kMo_value2.2.1 kMo_value2.2.2.1 kMo_value2.2.2.2 ∈ pm_TS := pm_in 1618 (by decide +kernel) rfl
theorem vMo_value2 : pm_Vt kMo_value2 := ⟨pm_in 1616 (by decide +kernel) rfl, pm_in 1617 (by decide +kernel) rfl⟩
theorem wMo_count : Cond.code kMo_count.1 kMo_count.2.1 kMo_count.2.2.1 kMo_count.2.2.2 ∈ pm_TS := pm_in 1622 (by decide +kernel) rfl
theorem vMo_count : pm_Vt kMo_count := ⟨pm_in 1620 (by decide +kernel) rfl, pm_in 1621 (by decide +kernel) rfl⟩
/-! CircuitCheckerModel$Wrong: cards, decoded instructions, links -/
def kWr_init : pmK := (⟨"CircuitCheckerModel$Wrong", "<init>", "(II)V"⟩, prog_14_method_1_code, 3, none)
theorem dWr_init_0 : decode kWr_init.2.1 0 = .ok (.aload_n 0, 1) := by decide +kernel
theorem dWr_init_1 : decode kWr_init.2.1 1 = .ok (.aconst_null, 1) := by decide +kernel
theorem dWr_init_2 : decode kWr_init.2.1 2 = .ok (.aconst_null, 1) := by decide +kernel
theorem dWr_init_3 : decode kWr_init.2.1 3 = .ok (.iconst 0, 1) := by decide +kernel
theorem dWr_init_4 : decode kWr_init.2.1 4 = .ok (.iconst 0, 1) := by decide +kernel
theorem dWr_init_5 : decode kWr_init.2.1 5 = .ok (.invokespecial 1, 3) := by decide +kernel
theorem dWr_init_8 : decode kWr_init.2.1 8 = .ok (.aload_n 0, 1) := by decide +kernel
theorem dWr_init_9 : decode kWr_init.2.1 9 = .ok (.iload_n 1, 1) := by decide +kernel
theorem dWr_init_10 : decode kWr_init.2.1 10 = .ok (.putfield 7, 3) := by decide +kernel
theorem dWr_init_13 : decode kWr_init.2.1 13 = .ok (.aload_n 0, 1) := by decide +kernel
theorem dWr_init_14 : decode kWr_init.2.1 14 = .ok (.iload_n 2, 1) := by decide +kernel
theorem dWr_init_15 : decode kWr_init.2.1 15 = .ok (.putfield 13, 3) := by decide +kernel
theorem dWr_init_18 : decode kWr_init.2.1 18 = .ok (.return_, 1) := by decide +kernel
theorem fWr_7 : pm_Fl "CircuitCheckerModel$Wrong" 7 11 5 false := ⟨_, _, _, rfl, by decide, by decide +kernel, pW11, Or.inl (pm_in 1394 (by decide +kernel) rfl)⟩ -- kind
theorem sWr_7 : pm_Fs "CircuitCheckerModel$Wrong" 11 5 .int true := ⟨_, _, _, pY11, rfl, pY11_ok, pN11_ok, rfl, rfl, fun _ => rfl⟩
theorem fWr_13 : pm_Fl "CircuitCheckerModel$Wrong" 13 11 6 false := ⟨_, _, _, rfl, by decide, by decide +kernel, pW11, Or.inl (pm_in 1396 (by decide +kernel) rfl)⟩ -- place
theorem sWr_13 : pm_Fs "CircuitCheckerModel$Wrong" 11 6 .int true := ⟨_, _, _, pY11, rfl, pY11_ok, pN11_ok, rfl, rfl, fun _ => rfl⟩
theorem wWr_init : Cond.code kWr_init.1 kWr_init.2.1 kWr_init.2.2.1 kWr_init.2.2.2 ∈ pm_TS := pm_in 1384 (by decide +kernel) rfl
theorem iWr_init : kWr_init.1.name = "<init>" ∧ kWr_init.2.2.2 = none ∧ Cond.instanceMethod kWr_init.1 ∈ pm_TS := ⟨rfl, rfl, pm_in 1383 (by decide +kernel) rfl⟩
/-! java/lang/RuntimeException: cards, decoded instructions, links -/
def kRe_init : pmK := (⟨"java/lang/RuntimeException", "<init>", "()V"⟩, prog_21_method_1_code, 1, none)
def kRe_init2 : pmK := (⟨"java/lang/RuntimeException", "<init>", "(Ljava/lang/String;Ljava/lang/Throwable;ZZ)V"⟩, prog_21_method_5_code, 5, none)
theorem dRe_init_0 : decode kRe_init.2.1 0 = .ok (.aload_n 0, 1) := by decide +kernel
theorem dRe_init_1 : decode kRe_init.2.1 1 = .ok (.invokespecial 1, 3) := by decide +kernel
theorem dRe_init_4 : decode kRe_init.2.1 4 = .ok (.return_, 1) := by decide +kernel
theorem dRe_init2_0 : decode kRe_init2.2.1 0 = .ok (.aload_n 0, 1) := by decide +kernel
theorem dRe_init2_1 : decode kRe_init2.2.1 1 = .ok (.aload_n 1, 1) := by decide +kernel
theorem dRe_init2_2 : decode kRe_init2.2.1 2 = .ok (.aload_n 2, 1) := by decide +kernel
theorem dRe_init2_3 : decode kRe_init2.2.1 3 = .ok (.iload_n 3, 1) := by decide +kernel
theorem dRe_init2_4 : decode kRe_init2.2.1 4 = .ok (.iload 4, 2) := by decide +kernel
theorem dRe_init2_6 : decode kRe_init2.2.1 6 = .ok (.invokespecial 16, 3) := by decide +kernel
theorem dRe_init2_9 : decode kRe_init2.2.1 9 = .ok (.return_, 1) := by decide +kernel
theorem wRe_init : Cond.code kRe_init.1 kRe_init.2.1 kRe_init.2.2.1 kRe_init.2.2.2 ∈ pm_TS := pm_in 1007 (by decide +kernel) rfl
theorem iRe_init : kRe_init.1.name = "<init>" ∧ kRe_init.2.2.2 = none ∧ Cond.instanceMethod kRe_init.1 ∈ pm_TS := ⟨rfl, rfl, pm_in 1006 (by decide +kernel) rfl⟩
theorem wRe_init2 : Cond.code kRe_init2.1 kRe_init2.2.1 kRe_init2.2.2.1 kRe_init2.2.2.2 ∈ pm_TS := pm_in 1387 (by decide +kernel) rfl
theorem iRe_init2 : kRe_init2.1.name = "<init>" ∧ kRe_init2.2.2.2 = none ∧ Cond.instanceMethod kRe_init2.1 ∈ pm_TS := ⟨rfl, rfl, pm_in 1386 (by decide +kernel) rfl⟩
/-! java/lang/Exception: cards, decoded instructions, links -/
def kEx_init : pmK := (⟨"java/lang/Exception", "<init>", "()V"⟩, prog_16_method_1_code, 1, none)
def kEx_init2 : pmK := (⟨"java/lang/Exception", "<init>", "(Ljava/lang/String;Ljava/lang/Throwable;ZZ)V"⟩, prog_16_method_5_code, 5, none)
theorem dEx_init_0 : decode kEx_init.2.1 0 = .ok (.aload_n 0, 1) := by decide +kernel
theorem dEx_init_1 : decode kEx_init.2.1 1 = .ok (.invokespecial 1, 3) := by decide +kernel
theorem dEx_init_4 : decode kEx_init.2.1 4 = .ok (.return_, 1) := by decide +kernel
theorem dEx_init2_0 : decode kEx_init2.2.1 0 = .ok (.aload_n 0, 1) := by decide +kernel
theorem dEx_init2_1 : decode kEx_init2.2.1 1 = .ok (.aload_n 1, 1) := by decide +kernel
theorem dEx_init2_2 : decode kEx_init2.2.1 2 = .ok (.aload_n 2, 1) := by decide +kernel
theorem dEx_init2_3 : decode kEx_init2.2.1 3 = .ok (.iload_n 3, 1) := by decide +kernel
theorem dEx_init2_4 : decode kEx_init2.2.1 4 = .ok (.iload 4, 2) := by decide +kernel
theorem dEx_init2_6 : decode kEx_init2.2.1 6 = .ok (.invokespecial 16, 3) := by decide +kernel
theorem dEx_init2_9 : decode kEx_init2.2.1 9 = .ok (.return_, 1) := by decide +kernel
theorem wEx_init : Cond.code kEx_init.1 kEx_init.2.1 kEx_init.2.2.1 kEx_init.2.2.2 ∈ pm_TS := pm_in 1010 (by decide +kernel) rfl
theorem iEx_init : kEx_init.1.name = "<init>" ∧ kEx_init.2.2.2 = none ∧ Cond.instanceMethod kEx_init.1 ∈ pm_TS := ⟨rfl, rfl, pm_in 1009 (by decide +kernel) rfl⟩
theorem wEx_init2 : Cond.code kEx_init2.1 kEx_init2.2.1 kEx_init2.2.2.1 kEx_init2.2.2.2 ∈ pm_TS := pm_in 1390 (by decide +kernel) rfl
theorem iEx_init2 : kEx_init2.1.name = "<init>" ∧ kEx_init2.2.2.2 = none ∧ Cond.instanceMethod kEx_init2.1 ∈ pm_TS := ⟨rfl, rfl, pm_in 1389 (by decide +kernel) rfl⟩
/-! java/lang/Throwable: cards, decoded instructions, links -/
def kTh_init : pmK := (⟨"java/lang/Throwable", "<init>", "()V"⟩, prog_26_method_1_code, 1, none)
def kTh_fillInStackTrace : pmK := (⟨"java/lang/Throwable", "fillInStackTrace", "()Ljava/lang/Throwable;"⟩, prog_26_method_18_code, 1, (some (.object "java/lang/Throwable")))
def kTh_init2 : pmK := (⟨"java/lang/Throwable", "<init>", "(Ljava/lang/String;Ljava/lang/Throwable;ZZ)V"⟩, prog_26_method_5_code, 5, none)
theorem dTh_init_0 : decode kTh_init.2.1 0 = .ok (.aload_n 0, 1) := by decide +kernel
theorem dTh_init_1 : decode kTh_init.2.1 1 = .ok (.invokespecial 1, 3) := by decide +kernel
theorem dTh_init_4 : decode kTh_init.2.1 4 = .ok (.aload_n 0, 1) := by decide +kernel
theorem dTh_init_5 : decode kTh_init.2.1 5 = .ok (.aload_n 0, 1) := by decide +kernel
theorem dTh_init_6 : decode kTh_init.2.1 6 = .ok (.putfield 7, 3) := by decide +kernel
theorem dTh_init_9 : decode kTh_init.2.1 9 = .ok (.aload_n 0, 1) := by decide +kernel
theorem dTh_init_10 : decode kTh_init.2.1 10 = .ok (.getstatic 13, 3) := by decide +kernel
theorem dTh_init_13 : decode kTh_init.2.1 13 = .ok (.putfield 17, 3) := by decide +kernel
theorem dTh_init_16 : decode kTh_init.2.1 16 = .ok (.aload_n 0, 1) := by decide +kernel
theorem dTh_init_17 : decode kTh_init.2.1 17 = .ok (.getstatic 20, 3) := by decide +kernel
theorem dTh_init_20 : decode kTh_init.2.1 20 = .ok (.putfield 24, 3) := by decide +kernel
theorem dTh_init_23 : decode kTh_init.2.1 23 = .ok (.aload_n 0, 1) := by decide +kernel
theorem dTh_init_24 : decode kTh_init.2.1 24 = .ok (.invokevirtual 27, 3) := by decide +kernel
theorem dTh_init_27 : decode kTh_init.2.1 27 = .ok (.pop, 1) := by decide +kernel
theorem dTh_init_28 : decode kTh_init.2.1 28 = .ok (.return_, 1) := by decide +kernel
theorem dTh_fillInStackTrace_0 : decode kTh_fillInStackTrace.2.1 0 = .ok (.aload_n 0, 1) := by decide +kernel
theorem dTh_fillInStackTrace_1 : decode kTh_fillInStackTrace.2.1 1 = .ok (.getfield 17, 3) := by decide +kernel
theorem dTh_fillInStackTrace_4 : decode kTh_fillInStackTrace.2.1 4 = .ok (.ifnonnull 10, 3) := by decide +kernel
theorem dTh_fillInStackTrace_7 : decode kTh_fillInStackTrace.2.1 7 = .ok (.aload_n 0, 1) := by decide +kernel
theorem dTh_fillInStackTrace_8 : decode kTh_fillInStackTrace.2.1 8 = .ok (.getfield 198, 3) := by decide +kernel
theorem dTh_fillInStackTrace_11 : decode kTh_fillInStackTrace.2.1 11 = .ok (.ifnull 16, 3) := by decide +kernel
theorem dTh_fillInStackTrace_14 : decode kTh_fillInStackTrace.2.1 14 = .ok (.aload_n 0, 1) := by decide +kernel
theorem dTh_fillInStackTrace_15 : decode kTh_fillInStackTrace.2.1 15 = .ok (.iconst 0, 1) := by decide +kernel
theorem dTh_fillInStackTrace_16 : decode kTh_fillInStackTrace.2.1 16 = .ok (.invokevirtual 202, 3) := by decide +kernel
theorem dTh_fillInStackTrace_19 : decode kTh_fillInStackTrace.2.1 19 = .ok (.pop, 1) := by decide +kernel
theorem dTh_fillInStackTrace_20 : decode kTh_fillInStackTrace.2.1 20 = .ok (.aload_n 0, 1) := by decide +kernel
theorem dTh_fillInStackTrace_21 : decode kTh_fillInStackTrace.2.1 21 = .ok (.getstatic 13, 3) := by decide +kernel
theorem dTh_fillInStackTrace_24 : decode kTh_fillInStackTrace.2.1 24 = .ok (.putfield 17, 3) := by decide +kernel
theorem dTh_fillInStackTrace_27 : decode kTh_fillInStackTrace.2.1 27 = .ok (.aload_n 0, 1) := by decide +kernel
theorem dTh_fillInStackTrace_28 : decode kTh_fillInStackTrace.2.1 28 = .ok (.areturn, 1) := by decide +kernel
theorem dTh_init2_0 : decode kTh_init2.2.1 0 = .ok (.aload_n 0, 1) := by decide +kernel
theorem dTh_init2_1 : decode kTh_init2.2.1 1 = .ok (.invokespecial 1, 3) := by decide +kernel
theorem dTh_init2_4 : decode kTh_init2.2.1 4 = .ok (.aload_n 0, 1) := by decide +kernel
theorem dTh_init2_5 : decode kTh_init2.2.1 5 = .ok (.aload_n 0, 1) := by decide +kernel
theorem dTh_init2_6 : decode kTh_init2.2.1 6 = .ok (.putfield 7, 3) := by decide +kernel
theorem dTh_init2_9 : decode kTh_init2.2.1 9 = .ok (.aload_n 0, 1) := by decide +kernel
theorem dTh_init2_10 : decode kTh_init2.2.1 10 = .ok (.getstatic 13, 3) := by decide +kernel
theorem dTh_init2_13 : decode kTh_init2.2.1 13 = .ok (.putfield 17, 3) := by decide +kernel
theorem dTh_init2_16 : decode kTh_init2.2.1 16 = .ok (.aload_n 0, 1) := by decide +kernel
theorem dTh_init2_17 : decode kTh_init2.2.1 17 = .ok (.getstatic 20, 3) := by decide +kernel
theorem dTh_init2_20 : decode kTh_init2.2.1 20 = .ok (.putfield 24, 3) := by decide +kernel
theorem dTh_init2_23 : decode kTh_init2.2.1 23 = .ok (.iload 4, 2) := by decide +kernel
theorem dTh_init2_25 : decode kTh_init2.2.1 25 = .ok (.ifCond .eq 11, 3) := by decide +kernel
theorem dTh_init2_28 : decode kTh_init2.2.1 28 = .ok (.aload_n 0, 1) := by decide +kernel
theorem dTh_init2_29 : decode kTh_init2.2.1 29 = .ok (.invokevirtual 27, 3) := by decide +kernel
theorem dTh_init2_32 : decode kTh_init2.2.1 32 = .ok (.pop, 1) := by decide +kernel
theorem dTh_init2_33 : decode kTh_init2.2.1 33 = .ok (.goto 8, 3) := by decide +kernel
theorem dTh_init2_36 : decode kTh_init2.2.1 36 = .ok (.aload_n 0, 1) := by decide +kernel
theorem dTh_init2_37 : decode kTh_init2.2.1 37 = .ok (.aconst_null, 1) := by decide +kernel
theorem dTh_init2_38 : decode kTh_init2.2.1 38 = .ok (.putfield 17, 3) := by decide +kernel
theorem dTh_init2_41 : decode kTh_init2.2.1 41 = .ok (.aload_n 0, 1) := by decide +kernel
theorem dTh_init2_42 : decode kTh_init2.2.1 42 = .ok (.aload_n 1, 1) := by decide +kernel
theorem dTh_init2_43 : decode kTh_init2.2.1 43 = .ok (.putfield 31, 3) := by decide +kernel
theorem dTh_init2_46 : decode kTh_init2.2.1 46 = .ok (.aload_n 0, 1) := by decide +kernel
theorem dTh_init2_47 : decode kTh_init2.2.1 47 = .ok (.aload_n 2, 1) := by decide +kernel
theorem dTh_init2_48 : decode kTh_init2.2.1 48 = .ok (.putfield 7, 3) := by decide +kernel
theorem dTh_init2_51 : decode kTh_init2.2.1 51 = .ok (.iload_n 3, 1) := by decide +kernel
theorem dTh_init2_52 : decode kTh_init2.2.1 52 = .ok (.ifCond .ne 8, 3) := by decide +kernel
theorem dTh_init2_55 : decode kTh_init2.2.1 55 = .ok (.aload_n 0, 1) := by decide +kernel
theorem dTh_init2_56 : decode kTh_init2.2.1 56 = .ok (.aconst_null, 1) := by decide +kernel
theorem dTh_init2_57 : decode kTh_init2.2.1 57 = .ok (.putfield 24, 3) := by decide +kernel
theorem dTh_init2_60 : decode kTh_init2.2.1 60 = .ok (.return_, 1) := by decide +kernel
theorem wTh_init : Cond.code kTh_init.1 kTh_init.2.1 kTh_init.2.2.1 kTh_init.2.2.2 ∈ pm_TS := pm_in 984 (by decide +kernel) rfl
theorem iTh_init : kTh_init.1.name = "<init>" ∧ kTh_init.2.2.2 = none ∧ Cond.instanceMethod kTh_init.1 ∈ pm_TS := ⟨rfl, rfl, pm_in 983 (by decide +kernel) rfl⟩
theorem wTh_init2 : Cond.code kTh_init2.1 kTh_init2.2.1 kTh_init2.2.2.1 kTh_init2.2.2.2 ∈ pm_TS := pm_in 1393 (by decide +kernel) rfl
theorem iTh_init2 : kTh_init2.1.name = "<init>" ∧ kTh_init2.2.2.2 = none ∧ Cond.instanceMethod kTh_init2.1 ∈ pm_TS := ⟨rfl, rfl, pm_in 1392 (by decide +kernel) rfl⟩
theorem lMo_180 : pm_Lk "CircuitCheckerModel" 180 kMo_refuse 2 := ⟨wMo_refuse, pm_in 14 (by decide +kernel) rfl, ⟨by decide +kernel, by decide +kernel, by decide +kernel⟩, by decide, Or.inl (pm_in 1345 (by decide +kernel) rfl)⟩
theorem lMo_184 : pm_Lk "CircuitCheckerModel" 184 kMo_parts 0 := ⟨wMo_parts, pm_in 14 (by decide +kernel) rfl, ⟨by decide +kernel, by decide +kernel, by decide +kernel⟩, by decide, Or.inl (pm_in 1370 (by decide +kernel) rfl)⟩
theorem lMo_189 : pm_Lk "CircuitCheckerModel" 189 kWr_init 2 := ⟨wWr_init, pm_in 26 (by decide +kernel) rfl, ⟨by decide +kernel, by decide +kernel, by decide +kernel⟩, by decide, Or.inl (pm_in 1382 (by decide +kernel) rfl)⟩
theorem lMo_192 : pm_Lk "CircuitCheckerModel" 192 kMo_letter 1 := ⟨wMo_letter, pm_in 14 (by decide +kernel) rfl, ⟨by decide +kernel, by decide +kernel, by decide +kernel⟩, by decide, Or.inl (pm_in 1404 (by decide +kernel) rfl)⟩
theorem lMo_196 : pm_Lk "CircuitCheckerModel" 196 kMo_digit 1 := ⟨wMo_digit, pm_in 14 (by decide +kernel) rfl, ⟨by decide +kernel, by decide +kernel, by decide +kernel⟩, by decide, Or.inl (pm_in 1407 (by decide +kernel) rfl)⟩
theorem lMo_199 : pm_Lk "CircuitCheckerModel" 199 kMo_byteAt 1 := ⟨wMo_byteAt, pm_in 14 (by decide +kernel) rfl, ⟨by decide +kernel, by decide +kernel, by decide +kernel⟩, by decide, Or.inl (pm_in 1410 (by decide +kernel) rfl)⟩
theorem lMo_203 : pm_Lk "CircuitCheckerModel" 203 kMo_sign 2 := ⟨wMo_sign, pm_in 14 (by decide +kernel) rfl, ⟨by decide +kernel, by decide +kernel, by decide +kernel⟩, by decide, Or.inl (pm_in 1414 (by decide +kernel) rfl)⟩
theorem lMo_207 : pm_Lk "CircuitCheckerModel" 207 kMo_peek 0 := ⟨wMo_peek, pm_in 14 (by decide +kernel) rfl, ⟨by decide +kernel, by decide +kernel, by decide +kernel⟩, by decide, Or.inl (pm_in 1366 (by decide +kernel) rfl)⟩
theorem lMo_211 : pm_Lk "CircuitCheckerModel" 211 kMo_cant 0 := ⟨wMo_cant, pm_in 14 (by decide +kernel) rfl, ⟨by decide +kernel, by decide +kernel, by decide +kernel⟩, by decide, Or.inl (pm_in 1453 (by decide +kernel) rfl)⟩
theorem lMo_215 : pm_Lk "CircuitCheckerModel" 215 kMo_take 0 := ⟨wMo_take, pm_in 14 (by decide +kernel) rfl, ⟨by decide +kernel, by decide +kernel, by decide +kernel⟩, by decide, Or.inl (pm_in 1428 (by decide +kernel) rfl)⟩
theorem lMo_218 : pm_Lk "CircuitCheckerModel" 218 kSg_length 0 := ⟨wSg_length, pm_in 20 (by decide +kernel) rfl, ⟨by decide +kernel, by decide +kernel, by decide +kernel⟩, by decide, Or.inl (pm_in 1422 (by decide +kernel) rfl)⟩
theorem lMo_223 : pm_Lk "CircuitCheckerModel" 223 kSg_charAt 1 := ⟨wSg_charAt, pm_in 20 (by decide +kernel) rfl, ⟨by decide +kernel, by decide +kernel, by decide +kernel⟩, by decide, Or.inl (pm_in 1423 (by decide +kernel) rfl)⟩
theorem lMo_229 : pm_Lk "CircuitCheckerModel" 229 kMo_is 1 := ⟨wMo_is, pm_in 14 (by decide +kernel) rfl, ⟨by decide +kernel, by decide +kernel, by decide +kernel⟩, by decide, Or.inl (pm_in 1418 (by decide +kernel) rfl)⟩
theorem lMo_257 : pm_Lk "CircuitCheckerModel" 257 kMo_reserved 0 := ⟨wMo_reserved, pm_in 14 (by decide +kernel) rfl, ⟨by decide +kernel, by decide +kernel, by decide +kernel⟩, by decide, Or.inl (pm_in 1436 (by decide +kernel) rfl)⟩
theorem lMo_261 : pm_Lk "CircuitCheckerModel" 261 kMo_named 0 := ⟨wMo_named, pm_in 14 (by decide +kernel) rfl, ⟨by decide +kernel, by decide +kernel, by decide +kernel⟩, by decide, Or.inl (pm_in 1457 (by decide +kernel) rfl)⟩
theorem lMo_264 : pm_Lk "CircuitCheckerModel" 264 kMo_chain 2 := ⟨wMo_chain, pm_in 14 (by decide +kernel) rfl, ⟨by decide +kernel, by decide +kernel, by decide +kernel⟩, by decide, Or.inl (pm_in 1481 (by decide +kernel) rfl)⟩
theorem lMo_267 : pm_Lk "CircuitCheckerModel" 267 kMo_pays 1 := ⟨wMo_pays, pm_in 14 (by decide +kernel) rfl, ⟨by decide +kernel, by decide +kernel, by decide +kernel⟩, by decide, Or.inl (pm_in 1489 (by decide +kernel) rfl)⟩
theorem lMo_271 : pm_Lk "CircuitCheckerModel" 271 kMo_nest 1 := ⟨wMo_nest, pm_in 14 (by decide +kernel) rfl, ⟨by decide +kernel, by decide +kernel, by decide +kernel⟩, by decide, Or.inl (pm_in 1493 (by decide +kernel) rfl)⟩
theorem lMo_274 : pm_Lk "CircuitCheckerModel" 274 kMo_expression 1 := ⟨wMo_expression, pm_in 14 (by decide +kernel) rfl, ⟨by decide +kernel, by decide +kernel, by decide +kernel⟩, by decide, Or.inl (pm_in 1477 (by decide +kernel) rfl)⟩
theorem lMo_277 : pm_Lk "CircuitCheckerModel" 277 kMo_must 1 := ⟨wMo_must, pm_in 14 (by decide +kernel) rfl, ⟨by decide +kernel, by decide +kernel, by decide +kernel⟩, by decide, Or.inl (pm_in 1461 (by decide +kernel) rfl)⟩
theorem lMo_280 : pm_Lk "CircuitCheckerModel" 280 kMo_node 3 := ⟨wMo_node, pm_in 14 (by decide +kernel) rfl, ⟨by decide +kernel, by decide +kernel, by decide +kernel⟩, by decide, Or.inl (pm_in 1497 (by decide +kernel) rfl)⟩
theorem lMo_284 : pm_Lk "CircuitCheckerModel" 284 kMo_unary 1 := ⟨wMo_unary, pm_in 14 (by decide +kernel) rfl, ⟨by decide +kernel, by decide +kernel, by decide +kernel⟩, by decide, Or.inl (pm_in 1485 (by decide +kernel) rfl)⟩
theorem lMo_287 : pm_Lk "CircuitCheckerModel" 287 kMo_joins 2 := ⟨wMo_joins, pm_in 14 (by decide +kernel) rfl, ⟨by decide +kernel, by decide +kernel, by decide +kernel⟩, by decide, Or.inl (pm_in 1501 (by decide +kernel) rfl)⟩
theorem lMo_291 : pm_Lk "CircuitCheckerModel" 291 kMo_price 1 := ⟨wMo_price, pm_in 14 (by decide +kernel) rfl, ⟨by decide +kernel, by decide +kernel, by decide +kernel⟩, by decide, Or.inl (pm_in 1504 (by decide +kernel) rfl)⟩
theorem lMo_294 : pm_Lk "CircuitCheckerModel" 294 kMo_number 2 := ⟨wMo_number, pm_in 14 (by decide +kernel) rfl, ⟨by decide +kernel, by decide +kernel, by decide +kernel⟩, by decide, Or.inl (pm_in 1465 (by decide +kernel) rfl)⟩
theorem lMo_297 : pm_Lk "CircuitCheckerModel" 297 kMo_either 1 := ⟨wMo_either, pm_in 14 (by decide +kernel) rfl, ⟨by decide +kernel, by decide +kernel, by decide +kernel⟩, by decide, Or.inl (pm_in 1519 (by decide +kernel) rfl)⟩
theorem lMo_300 : pm_Lk "CircuitCheckerModel" 300 kMo_formula 1 := ⟨wMo_formula, pm_in 14 (by decide +kernel) rfl, ⟨by decide +kernel, by decide +kernel, by decide +kernel⟩, by decide, Or.inl (pm_in 1515 (by decide +kernel) rfl)⟩
theorem lMo_303 : pm_Lk "CircuitCheckerModel" 303 kMo_make 3 := ⟨wMo_make, pm_in 14 (by decide +kernel) rfl, ⟨by decide +kernel, by decide +kernel, by decide +kernel⟩, by decide, Or.inl (pm_in 1531 (by decide +kernel) rfl)⟩
theorem lMo_306 : pm_Lk "CircuitCheckerModel" 306 kMo_both 1 := ⟨wMo_both, pm_in 14 (by decide +kernel) rfl, ⟨by decide +kernel, by decide +kernel, by decide +kernel⟩, by decide, Or.inl (pm_in 1523 (by decide +kernel) rfl)⟩
theorem lMo_309 : pm_Lk "CircuitCheckerModel" 309 kMo_single 1 := ⟨wMo_single, pm_in 14 (by decide +kernel) rfl, ⟨by decide +kernel, by decide +kernel, by decide +kernel⟩, by decide, Or.inl (pm_in 1527 (by decide +kernel) rfl)⟩
theorem lMo_312 : pm_Lk "CircuitCheckerModel" 312 kMo_reg 0 := ⟨wMo_reg, pm_in 14 (by decide +kernel) rfl, ⟨by decide +kernel, by decide +kernel, by decide +kernel⟩, by decide, Or.inl (pm_in 1424 (by decide +kernel) rfl)⟩
theorem lMo_314 : pm_Lk "CircuitCheckerModel" 314 kMo_input 0 := ⟨wMo_input, pm_in 14 (by decide +kernel) rfl, ⟨by decide +kernel, by decide +kernel, by decide +kernel⟩, by decide, Or.inl (pm_in 1469 (by decide +kernel) rfl)⟩
theorem lMo_316 : pm_Lk "CircuitCheckerModel" 316 kMo_wire 0 := ⟨wMo_wire, pm_in 14 (by decide +kernel) rfl, ⟨by decide +kernel, by decide +kernel, by decide +kernel⟩, by decide, Or.inl (pm_in 1473 (by decide +kernel) rfl)⟩
theorem lMo_318 : pm_Lk "CircuitCheckerModel" 318 kMo_next 0 := ⟨wMo_next, pm_in 14 (by decide +kernel) rfl, ⟨by decide +kernel, by decide +kernel, by decide +kernel⟩, by decide, Or.inl (pm_in 1507 (by decide +kernel) rfl)⟩
theorem lMo_320 : pm_Lk "CircuitCheckerModel" 320 kMo_spec 0 := ⟨wMo_spec, pm_in 14 (by decide +kernel) rfl, ⟨by decide +kernel, by decide +kernel, by decide +kernel⟩, by decide, Or.inl (pm_in 1511 (by decide +kernel) rfl)⟩
theorem lMo_322 : pm_Lk "CircuitCheckerModel" 322 kMo_declare 0 := ⟨wMo_declare, pm_in 14 (by decide +kernel) rfl, ⟨by decide +kernel, by decide +kernel, by decide +kernel⟩, by decide, Or.inl (pm_in 1432 (by decide +kernel) rfl)⟩
theorem lMo_325 : pm_Lk "CircuitCheckerModel" 325 kMo_clear 0 := ⟨wMo_clear, pm_in 14 (by decide +kernel) rfl, ⟨by decide +kernel, by decide +kernel, by decide +kernel⟩, by decide, Or.inl (pm_in 1358 (by decide +kernel) rfl)⟩
theorem lMo_328 : pm_Lk "CircuitCheckerModel" 328 kMo_lines 0 := ⟨wMo_lines, pm_in 14 (by decide +kernel) rfl, ⟨by decide +kernel, by decide +kernel, by decide +kernel⟩, by decide, Or.inl (pm_in 1362 (by decide +kernel) rfl)⟩
theorem lMo_336 : pm_Lk "CircuitCheckerModel" 336 kMo_workOut 0 := ⟨wMo_workOut, pm_in 14 (by decide +kernel) rfl, ⟨by decide +kernel, by decide +kernel, by decide +kernel⟩, by decide, Or.inl (pm_in 1535 (by decide +kernel) rfl)⟩
theorem lMo_339 : pm_Lk "CircuitCheckerModel" 339 kMo_value 1 := ⟨wMo_value, pm_in 14 (by decide +kernel) rfl, ⟨by decide +kernel, by decide +kernel, by decide +kernel⟩, by decide, Or.inl (pm_in 1551 (by decide +kernel) rfl)⟩
theorem lMo_342 : pm_Lk "CircuitCheckerModel" 342 kMo_joined 3 := ⟨wMo_joined, pm_in 14 (by decide +kernel) rfl, ⟨by decide +kernel, by decide +kernel, by decide +kernel⟩, by decide, Or.inl (pm_in 1555 (by decide +kernel) rfl)⟩
theorem lMo_345 : pm_Lk "CircuitCheckerModel" 345 kMo_all 0 := ⟨wMo_all, pm_in 14 (by decide +kernel) rfl, ⟨by decide +kernel, by decide +kernel, by decide +kernel⟩, by decide, Or.inl (pm_in 1539 (by decide +kernel) rfl)⟩
theorem lMo_348 : pm_Lk "CircuitCheckerModel" 348 kMo_allInputs 0 := ⟨wMo_allInputs, pm_in 14 (by decide +kernel) rfl, ⟨by decide +kernel, by decide +kernel, by decide +kernel⟩, by decide, Or.inl (pm_in 1543 (by decide +kernel) rfl)⟩
theorem lMo_351 : pm_Lk "CircuitCheckerModel" 351 kMo_set 2 := ⟨wMo_set, pm_in 14 (by decide +kernel) rfl, ⟨by decide +kernel, by decide +kernel, by decide +kernel⟩, by decide, Or.inl (pm_in 1547 (by decide +kernel) rfl)⟩
theorem lMo_353 : pm_Lk "CircuitCheckerModel" 353 kMo_judge 1 := ⟨wMo_judge, pm_in 14 (by decide +kernel) rfl, ⟨by decide +kernel, by decide +kernel, by decide +kernel⟩, by decide, Or.inl (pm_in 1558 (by decide +kernel) rfl)⟩
theorem lMo_362 : pm_Lk "CircuitCheckerModel" 362 kMo_next2 3 := ⟨wMo_next2, pm_in 14 (by decide +kernel) rfl, ⟨by decide +kernel, by decide +kernel, by decide +kernel⟩, by decide, Or.inl (pm_in 1562 (by decide +kernel) rfl)⟩
theorem lMo_365 : pm_Lk "CircuitCheckerModel" 365 kMo_always 2 := ⟨wMo_always, pm_in 14 (by decide +kernel) rfl, ⟨by decide +kernel, by decide +kernel, by decide +kernel⟩, by decide, Or.inl (pm_in 1566 (by decide +kernel) rfl)⟩
theorem lMo_368 : pm_Lk "CircuitCheckerModel" 368 kMo_fixed 4 := ⟨wMo_fixed, pm_in 14 (by decide +kernel) rfl, ⟨by decide +kernel, by decide +kernel, by decide +kernel⟩, by decide, Or.inl (pm_in 1570 (by decide +kernel) rfl)⟩
theorem lMo_372 : pm_Lk "CircuitCheckerModel" 372 kMo_noSpec 1 := ⟨wMo_noSpec, pm_in 14 (by decide +kernel) rfl, ⟨by decide +kernel, by decide +kernel, by decide +kernel⟩, by decide, Or.inl (pm_in 1583 (by decide +kernel) rfl)⟩
theorem lWr_1 : pm_Lk "CircuitCheckerModel$Wrong" 1 kRe_init2 4 := ⟨wRe_init2, pm_in 17 (by decide +kernel) rfl, ⟨by decide +kernel, by decide +kernel, by decide +kernel⟩, by decide, Or.inl (pm_in 1385 (by decide +kernel) rfl)⟩
theorem lRe_1 : pm_Lk "java/lang/RuntimeException" 1 kEx_init 0 := ⟨wEx_init, pm_in 16 (by decide +kernel) rfl, ⟨by decide +kernel, by decide +kernel, by decide +kernel⟩, by decide, Or.inl (pm_in 1008 (by decide +kernel) rfl)⟩
theorem lRe_16 : pm_Lk "java/lang/RuntimeException" 16 kEx_init2 4 := ⟨wEx_init2, pm_in 16 (by decide +kernel) rfl, ⟨by decide +kernel, by decide +kernel, by decide +kernel⟩, by decide, Or.inl (pm_in 1388 (by decide +kernel) rfl)⟩
theorem lEx_1 : pm_Lk "java/lang/Exception" 1 kTh_init 0 := ⟨wTh_init, pm_in 15 (by decide +kernel) rfl, ⟨by decide +kernel, by decide +kernel, by decide +kernel⟩, by decide, Or.inl (pm_in 1011 (by decide +kernel) rfl)⟩
theorem lEx_16 : pm_Lk "java/lang/Exception" 16 kTh_init2 4 := ⟨wTh_init2, pm_in 15 (by decide +kernel) rfl, ⟨by decide +kernel, by decide +kernel, by decide +kernel⟩, by decide, Or.inl (pm_in 1391 (by decide +kernel) rfl)⟩

