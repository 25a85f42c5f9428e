/-! CircuitChecker$Values: cards, decoded instructions, links -/
def kVa_init : pmK := (⟨"CircuitChecker$Values", "<init>", "(LCircuitChecker$Circuit;)V"⟩, prog_11_method_1_code, 2, none)
def kVa_begin : pmK := (⟨"CircuitChecker$Values", "begin", "()V"⟩, prog_11_method_2_code, 3, none)
def kVa_fillRow : pmK := (⟨"CircuitChecker$Values", "fillRow", "(I)V"⟩, prog_11_method_3_code, 9, none)
def kVa_rowOfName : pmK := (⟨"CircuitChecker$Values", "rowOfName", "(I)I"⟩, prog_11_method_9_code, 1, (some .int))
def kVa_ofLast : pmK := (⟨"CircuitChecker$Values", "ofLast", "(I)I"⟩, prog_11_method_6_code, 2, (some .int))
def kVa_lane : pmK := (⟨"CircuitChecker$Values", "lane", "(II)I"⟩, prog_11_method_8_code, 3, (some .int))
def kVa_drop : pmK := (⟨"CircuitChecker$Values", "drop", "()V"⟩, prog_11_method_7_code, 1, none)
def kVa_perform : pmK := (⟨"CircuitChecker$Values", "perform", "(II)V"⟩, prog_11_method_4_code, 3, none)
def kVa_pushNumber : pmK := (⟨"CircuitChecker$Values", "pushNumber", "(I)V"⟩, prog_11_method_12_code, 6, none)
def kVa_rowOfPlace : pmK := (⟨"CircuitChecker$Values", "rowOfPlace", "(I)I"⟩, prog_11_method_10_code, 1, (some .int))
def kVa_push : pmK := (⟨"CircuitChecker$Values", "push", "(I)V"⟩, prog_11_method_11_code, 2, none)
def kVa_keep : pmK := (⟨"CircuitChecker$Values", "keep", "(I)V"⟩, prog_11_method_13_code, 2, none)
def kVa_choose : pmK := (⟨"CircuitChecker$Values", "choose", "()V"⟩, prog_11_method_16_code, 6, none)
def kVa_alter : pmK := (⟨"CircuitChecker$Values", "alter", "(I)V"⟩, prog_11_method_14_code, 5, none)
def kVa_join : pmK := (⟨"CircuitChecker$Values", "join", "(I)V"⟩, prog_11_method_15_code, 6, none)
def kVa_ofName : pmK := (⟨"CircuitChecker$Values", "ofName", "(II)I"⟩, prog_11_method_5_code, 3, (some .int))
theorem dVa_init_0 : decode kVa_init.2.1 0 = .ok (.aload_n 0, 1) := by decide +kernel
theorem dVa_init_1 : decode kVa_init.2.1 1 = .ok (.invokespecial 3, 3) := by decide +kernel
theorem dVa_init_4 : decode kVa_init.2.1 4 = .ok (.aload_n 0, 1) := by decide +kernel
theorem dVa_init_5 : decode kVa_init.2.1 5 = .ok (.ldc 11, 2) := by decide +kernel
theorem dVa_init_7 : decode kVa_init.2.1 7 = .ok (.newarray .long, 2) := by decide +kernel
theorem dVa_init_9 : decode kVa_init.2.1 9 = .ok (.putfield 12, 3) := by decide +kernel
theorem dVa_init_12 : decode kVa_init.2.1 12 = .ok (.aload_n 0, 1) := by decide +kernel
theorem dVa_init_13 : decode kVa_init.2.1 13 = .ok (.sipush 140, 3) := by decide +kernel
theorem dVa_init_16 : decode kVa_init.2.1 16 = .ok (.newarray .int, 2) := by decide +kernel
theorem dVa_init_18 : decode kVa_init.2.1 18 = .ok (.putfield 16, 3) := by decide +kernel
theorem dVa_init_21 : decode kVa_init.2.1 21 = .ok (.aload_n 0, 1) := by decide +kernel
theorem dVa_init_22 : decode kVa_init.2.1 22 = .ok (.aload_n 1, 1) := by decide +kernel
theorem dVa_init_23 : decode kVa_init.2.1 23 = .ok (.putfield 20, 3) := by decide +kernel
theorem dVa_init_26 : decode kVa_init.2.1 26 = .ok (.return_, 1) := by decide +kernel
theorem dVa_begin_0 : decode kVa_begin.2.1 0 = .ok (.aload_n 0, 1) := by decide +kernel
theorem dVa_begin_1 : decode kVa_begin.2.1 1 = .ok (.iconst 0, 1) := by decide +kernel
theorem dVa_begin_2 : decode kVa_begin.2.1 2 = .ok (.putfield 24, 3) := by decide +kernel
theorem dVa_begin_5 : decode kVa_begin.2.1 5 = .ok (.aload_n 0, 1) := by decide +kernel
theorem dVa_begin_6 : decode kVa_begin.2.1 6 = .ok (.getfield 20, 3) := by decide +kernel
theorem dVa_begin_9 : decode kVa_begin.2.1 9 = .ok (.getfield 28, 3) := by decide +kernel
theorem dVa_begin_12 : decode kVa_begin.2.1 12 = .ok (.aload_n 0, 1) := by decide +kernel
theorem dVa_begin_13 : decode kVa_begin.2.1 13 = .ok (.getfield 20, 3) := by decide +kernel
theorem dVa_begin_16 : decode kVa_begin.2.1 16 = .ok (.getfield 33, 3) := by decide +kernel
theorem dVa_begin_19 : decode kVa_begin.2.1 19 = .ok (.iadd, 1) := by decide +kernel
theorem dVa_begin_20 : decode kVa_begin.2.1 20 = .ok (.istore_n 1, 1) := by decide +kernel
theorem dVa_begin_21 : decode kVa_begin.2.1 21 = .ok (.aload_n 0, 1) := by decide +kernel
theorem dVa_begin_22 : decode kVa_begin.2.1 22 = .ok (.iload_n 1, 1) := by decide +kernel
theorem dVa_begin_23 : decode kVa_begin.2.1 23 = .ok (.iconst 3, 1) := by decide +kernel
theorem dVa_begin_24 : decode kVa_begin.2.1 24 = .ok (.if_icmp .le 11, 3) := by decide +kernel
theorem dVa_begin_27 : decode kVa_begin.2.1 27 = .ok (.iconst 1, 1) := by decide +kernel
theorem dVa_begin_28 : decode kVa_begin.2.1 28 = .ok (.iload_n 1, 1) := by decide +kernel
theorem dVa_begin_29 : decode kVa_begin.2.1 29 = .ok (.iconst 3, 1) := by decide +kernel
theorem dVa_begin_30 : decode kVa_begin.2.1 30 = .ok (.isub, 1) := by decide +kernel
theorem dVa_begin_31 : decode kVa_begin.2.1 31 = .ok (.ishl, 1) := by decide +kernel
theorem dVa_begin_32 : decode kVa_begin.2.1 32 = .ok (.goto 4, 3) := by decide +kernel
theorem dVa_begin_35 : decode kVa_begin.2.1 35 = .ok (.iconst 1, 1) := by decide +kernel
theorem dVa_begin_36 : decode kVa_begin.2.1 36 = .ok (.putfield 36, 3) := by decide +kernel
theorem dVa_begin_39 : decode kVa_begin.2.1 39 = .ok (.iconst 0, 1) := by decide +kernel
theorem dVa_begin_40 : decode kVa_begin.2.1 40 = .ok (.istore_n 2, 1) := by decide +kernel
theorem dVa_begin_41 : decode kVa_begin.2.1 41 = .ok (.iload_n 2, 1) := by decide +kernel
theorem dVa_begin_42 : decode kVa_begin.2.1 42 = .ok (.aload_n 0, 1) := by decide +kernel
theorem dVa_begin_43 : decode kVa_begin.2.1 43 = .ok (.getfield 20, 3) := by decide +kernel
theorem dVa_begin_46 : decode kVa_begin.2.1 46 = .ok (.getfield 39, 3) := by decide +kernel
theorem dVa_begin_49 : decode kVa_begin.2.1 49 = .ok (.if_icmp .ge 42, 3) := by decide +kernel
theorem dVa_begin_52 : decode kVa_begin.2.1 52 = .ok (.aload_n 0, 1) := by decide +kernel
theorem dVa_begin_53 : decode kVa_begin.2.1 53 = .ok (.getfield 20, 3) := by decide +kernel
theorem dVa_begin_56 : decode kVa_begin.2.1 56 = .ok (.getfield 42, 3) := by decide +kernel
theorem dVa_begin_59 : decode kVa_begin.2.1 59 = .ok (.iload_n 2, 1) := by decide +kernel
theorem dVa_begin_60 : decode kVa_begin.2.1 60 = .ok (.iaload, 1) := by decide +kernel
theorem dVa_begin_61 : decode kVa_begin.2.1 61 = .ok (.bipush 29, 2) := by decide +kernel
theorem dVa_begin_63 : decode kVa_begin.2.1 63 = .ok (.if_icmp .eq 17, 3) := by decide +kernel
theorem dVa_begin_66 : decode kVa_begin.2.1 66 = .ok (.aload_n 0, 1) := by decide +kernel
theorem dVa_begin_67 : decode kVa_begin.2.1 67 = .ok (.getfield 20, 3) := by decide +kernel
theorem dVa_begin_70 : decode kVa_begin.2.1 70 = .ok (.getfield 42, 3) := by decide +kernel
theorem dVa_begin_73 : decode kVa_begin.2.1 73 = .ok (.iload_n 2, 1) := by decide +kernel
theorem dVa_begin_74 : decode kVa_begin.2.1 74 = .ok (.iaload, 1) := by decide +kernel
theorem dVa_begin_75 : decode kVa_begin.2.1 75 = .ok (.bipush 30, 2) := by decide +kernel
theorem dVa_begin_77 : decode kVa_begin.2.1 77 = .ok (.if_icmp .ne 8, 3) := by decide +kernel
theorem dVa_begin_80 : decode kVa_begin.2.1 80 = .ok (.aload_n 0, 1) := by decide +kernel
theorem dVa_begin_81 : decode kVa_begin.2.1 81 = .ok (.iload_n 2, 1) := by decide +kernel
theorem dVa_begin_82 : decode kVa_begin.2.1 82 = .ok (.invokevirtual 45, 3) := by decide +kernel
theorem dVa_begin_85 : decode kVa_begin.2.1 85 = .ok (.iinc 2 1, 3) := by decide +kernel
theorem dVa_begin_88 : decode kVa_begin.2.1 88 = .ok (.goto (-47), 3) := by decide +kernel
theorem dVa_begin_91 : decode kVa_begin.2.1 91 = .ok (.return_, 1) := by decide +kernel
theorem dVa_fillRow_0 : decode kVa_fillRow.2.1 0 = .ok (.iload_n 1, 1) := by decide +kernel
theorem dVa_fillRow_1 : decode kVa_fillRow.2.1 1 = .ok (.invokestatic 49, 3) := by decide +kernel
theorem dVa_fillRow_4 : decode kVa_fillRow.2.1 4 = .ok (.istore_n 2, 1) := by decide +kernel
theorem dVa_fillRow_5 : decode kVa_fillRow.2.1 5 = .ok (.aload_n 0, 1) := by decide +kernel
theorem dVa_fillRow_6 : decode kVa_fillRow.2.1 6 = .ok (.getfield 20, 3) := by decide +kernel
theorem dVa_fillRow_9 : decode kVa_fillRow.2.1 9 = .ok (.iload_n 1, 1) := by decide +kernel
theorem dVa_fillRow_10 : decode kVa_fillRow.2.1 10 = .ok (.invokevirtual 53, 3) := by decide +kernel
theorem dVa_fillRow_13 : decode kVa_fillRow.2.1 13 = .ok (.istore_n 3, 1) := by decide +kernel
theorem dVa_fillRow_14 : decode kVa_fillRow.2.1 14 = .ok (.iconst 1, 1) := by decide +kernel
theorem dVa_fillRow_15 : decode kVa_fillRow.2.1 15 = .ok (.aload_n 0, 1) := by decide +kernel
theorem dVa_fillRow_16 : decode kVa_fillRow.2.1 16 = .ok (.getfield 20, 3) := by decide +kernel
theorem dVa_fillRow_19 : decode kVa_fillRow.2.1 19 = .ok (.getfield 56, 3) := by decide +kernel
theorem dVa_fillRow_22 : decode kVa_fillRow.2.1 22 = .ok (.iload_n 1, 1) := by decide +kernel
theorem dVa_fillRow_23 : decode kVa_fillRow.2.1 23 = .ok (.iaload, 1) := by decide +kernel
theorem dVa_fillRow_24 : decode kVa_fillRow.2.1 24 = .ok (.ishl, 1) := by decide +kernel
theorem dVa_fillRow_25 : decode kVa_fillRow.2.1 25 = .ok (.iconst 1, 1) := by decide +kernel
theorem dVa_fillRow_26 : decode kVa_fillRow.2.1 26 = .ok (.isub, 1) := by decide +kernel
theorem dVa_fillRow_27 : decode kVa_fillRow.2.1 27 = .ok (.istore 4, 2) := by decide +kernel
theorem dVa_fillRow_29 : decode kVa_fillRow.2.1 29 = .ok (.iconst 0, 1) := by decide +kernel
theorem dVa_fillRow_30 : decode kVa_fillRow.2.1 30 = .ok (.istore 5, 2) := by decide +kernel
theorem dVa_fillRow_32 : decode kVa_fillRow.2.1 32 = .ok (.iload 5, 2) := by decide +kernel
theorem dVa_fillRow_34 : decode kVa_fillRow.2.1 34 = .ok (.aload_n 0, 1) := by decide +kernel
theorem dVa_fillRow_35 : decode kVa_fillRow.2.1 35 = .ok (.getfield 36, 3) := by decide +kernel
theorem dVa_fillRow_38 : decode kVa_fillRow.2.1 38 = .ok (.if_icmp .ge 60, 3) := by decide +kernel
theorem dVa_fillRow_41 : decode kVa_fillRow.2.1 41 = .ok (.lconst 0, 1) := by decide +kernel
theorem dVa_fillRow_42 : decode kVa_fillRow.2.1 42 = .ok (.lstore 6, 2) := by decide +kernel
theorem dVa_fillRow_44 : decode kVa_fillRow.2.1 44 = .ok (.bipush 7, 2) := by decide +kernel
theorem dVa_fillRow_46 : decode kVa_fillRow.2.1 46 = .ok (.istore 8, 2) := by decide +kernel
theorem dVa_fillRow_48 : decode kVa_fillRow.2.1 48 = .ok (.iload 8, 2) := by decide +kernel
theorem dVa_fillRow_50 : decode kVa_fillRow.2.1 50 = .ok (.ifCond .lt 31, 3) := by decide +kernel
theorem dVa_fillRow_53 : decode kVa_fillRow.2.1 53 = .ok (.lload 6, 2) := by decide +kernel
theorem dVa_fillRow_55 : decode kVa_fillRow.2.1 55 = .ok (.bipush 8, 2) := by decide +kernel
theorem dVa_fillRow_57 : decode kVa_fillRow.2.1 57 = .ok (.lshl, 1) := by decide +kernel
theorem dVa_fillRow_58 : decode kVa_fillRow.2.1 58 = .ok (.iload 5, 2) := by decide +kernel
theorem dVa_fillRow_60 : decode kVa_fillRow.2.1 60 = .ok (.bipush 8, 2) := by decide +kernel
theorem dVa_fillRow_62 : decode kVa_fillRow.2.1 62 = .ok (.imul, 1) := by decide +kernel
theorem dVa_fillRow_63 : decode kVa_fillRow.2.1 63 = .ok (.iload 8, 2) := by decide +kernel
theorem dVa_fillRow_65 : decode kVa_fillRow.2.1 65 = .ok (.iadd, 1) := by decide +kernel
theorem dVa_fillRow_66 : decode kVa_fillRow.2.1 66 = .ok (.iload_n 3, 1) := by decide +kernel
theorem dVa_fillRow_67 : decode kVa_fillRow.2.1 67 = .ok (.ishr, 1) := by decide +kernel
theorem dVa_fillRow_68 : decode kVa_fillRow.2.1 68 = .ok (.iload 4, 2) := by decide +kernel
theorem dVa_fillRow_70 : decode kVa_fillRow.2.1 70 = .ok (.iand, 1) := by decide +kernel
theorem dVa_fillRow_71 : decode kVa_fillRow.2.1 71 = .ok (.i2l, 1) := by decide +kernel
theorem dVa_fillRow_72 : decode kVa_fillRow.2.1 72 = .ok (.lor, 1) := by decide +kernel
theorem dVa_fillRow_73 : decode kVa_fillRow.2.1 73 = .ok (.lstore 6, 2) := by decide +kernel
theorem dVa_fillRow_75 : decode kVa_fillRow.2.1 75 = .ok (.iinc 8 (-1), 3) := by decide +kernel
theorem dVa_fillRow_78 : decode kVa_fillRow.2.1 78 = .ok (.goto (-30), 3) := by decide +kernel
theorem dVa_fillRow_81 : decode kVa_fillRow.2.1 81 = .ok (.aload_n 0, 1) := by decide +kernel
theorem dVa_fillRow_82 : decode kVa_fillRow.2.1 82 = .ok (.getfield 12, 3) := by decide +kernel
theorem dVa_fillRow_85 : decode kVa_fillRow.2.1 85 = .ok (.iload_n 2, 1) := by decide +kernel
theorem dVa_fillRow_86 : decode kVa_fillRow.2.1 86 = .ok (.iload 5, 2) := by decide +kernel
theorem dVa_fillRow_88 : decode kVa_fillRow.2.1 88 = .ok (.iadd, 1) := by decide +kernel
theorem dVa_fillRow_89 : decode kVa_fillRow.2.1 89 = .ok (.lload 6, 2) := by decide +kernel
theorem dVa_fillRow_91 : decode kVa_fillRow.2.1 91 = .ok (.lastore, 1) := by decide +kernel
theorem dVa_fillRow_92 : decode kVa_fillRow.2.1 92 = .ok (.iinc 5 1, 3) := by decide +kernel
theorem dVa_fillRow_95 : decode kVa_fillRow.2.1 95 = .ok (.goto (-63), 3) := by decide +kernel
theorem dVa_fillRow_98 : decode kVa_fillRow.2.1 98 = .ok (.return_, 1) := by decide +kernel
theorem dVa_rowOfName_0 : decode kVa_rowOfName.2.1 0 = .ok (.iload_n 0, 1) := by decide +kernel
theorem dVa_rowOfName_1 : decode kVa_rowOfName.2.1 1 = .ok (.sipush 256, 3) := by decide +kernel
theorem dVa_rowOfName_4 : decode kVa_rowOfName.2.1 4 = .ok (.imul, 1) := by decide +kernel
theorem dVa_rowOfName_5 : decode kVa_rowOfName.2.1 5 = .ok (.ireturn, 1) := by decide +kernel
theorem dVa_ofLast_0 : decode kVa_ofLast.2.1 0 = .ok (.aload_n 0, 1) := by decide +kernel
theorem dVa_ofLast_1 : decode kVa_ofLast.2.1 1 = .ok (.getfield 24, 3) := by decide +kernel
theorem dVa_ofLast_4 : decode kVa_ofLast.2.1 4 = .ok (.ifCond .le 22, 3) := by decide +kernel
theorem dVa_ofLast_7 : decode kVa_ofLast.2.1 7 = .ok (.aload_n 0, 1) := by decide +kernel
theorem dVa_ofLast_8 : decode kVa_ofLast.2.1 8 = .ok (.aload_n 0, 1) := by decide +kernel
theorem dVa_ofLast_9 : decode kVa_ofLast.2.1 9 = .ok (.getfield 16, 3) := by decide +kernel
theorem dVa_ofLast_12 : decode kVa_ofLast.2.1 12 = .ok (.aload_n 0, 1) := by decide +kernel
theorem dVa_ofLast_13 : decode kVa_ofLast.2.1 13 = .ok (.getfield 24, 3) := by decide +kernel
theorem dVa_ofLast_16 : decode kVa_ofLast.2.1 16 = .ok (.iconst 1, 1) := by decide +kernel
theorem dVa_ofLast_17 : decode kVa_ofLast.2.1 17 = .ok (.isub, 1) := by decide +kernel
theorem dVa_ofLast_18 : decode kVa_ofLast.2.1 18 = .ok (.iaload, 1) := by decide +kernel
theorem dVa_ofLast_19 : decode kVa_ofLast.2.1 19 = .ok (.iload_n 1, 1) := by decide +kernel
theorem dVa_ofLast_20 : decode kVa_ofLast.2.1 20 = .ok (.invokevirtual 77, 3) := by decide +kernel
theorem dVa_ofLast_23 : decode kVa_ofLast.2.1 23 = .ok (.goto 4, 3) := by decide +kernel
theorem dVa_ofLast_26 : decode kVa_ofLast.2.1 26 = .ok (.iconst 0, 1) := by decide +kernel
theorem dVa_ofLast_27 : decode kVa_ofLast.2.1 27 = .ok (.ireturn, 1) := by decide +kernel
theorem dVa_lane_0 : decode kVa_lane.2.1 0 = .ok (.aload_n 0, 1) := by decide +kernel
theorem dVa_lane_1 : decode kVa_lane.2.1 1 = .ok (.getfield 12, 3) := by decide +kernel
theorem dVa_lane_4 : decode kVa_lane.2.1 4 = .ok (.iload_n 1, 1) := by decide +kernel
theorem dVa_lane_5 : decode kVa_lane.2.1 5 = .ok (.iload_n 2, 1) := by decide +kernel
theorem dVa_lane_6 : decode kVa_lane.2.1 6 = .ok (.iconst 3, 1) := by decide +kernel
theorem dVa_lane_7 : decode kVa_lane.2.1 7 = .ok (.ishr, 1) := by decide +kernel
theorem dVa_lane_8 : decode kVa_lane.2.1 8 = .ok (.iadd, 1) := by decide +kernel
theorem dVa_lane_9 : decode kVa_lane.2.1 9 = .ok (.laload, 1) := by decide +kernel
theorem dVa_lane_10 : decode kVa_lane.2.1 10 = .ok (.iload_n 2, 1) := by decide +kernel
theorem dVa_lane_11 : decode kVa_lane.2.1 11 = .ok (.bipush 7, 2) := by decide +kernel
theorem dVa_lane_13 : decode kVa_lane.2.1 13 = .ok (.iand, 1) := by decide +kernel
theorem dVa_lane_14 : decode kVa_lane.2.1 14 = .ok (.bipush 8, 2) := by decide +kernel
theorem dVa_lane_16 : decode kVa_lane.2.1 16 = .ok (.imul, 1) := by decide +kernel
theorem dVa_lane_17 : decode kVa_lane.2.1 17 = .ok (.lushr, 1) := by decide +kernel
theorem dVa_lane_18 : decode kVa_lane.2.1 18 = .ok (.l2i, 1) := by decide +kernel
theorem dVa_lane_19 : decode kVa_lane.2.1 19 = .ok (.sipush 255, 3) := by decide +kernel
theorem dVa_lane_22 : decode kVa_lane.2.1 22 = .ok (.iand, 1) := by decide +kernel
theorem dVa_lane_23 : decode kVa_lane.2.1 23 = .ok (.ireturn, 1) := by decide +kernel
theorem dVa_drop_0 : decode kVa_drop.2.1 0 = .ok (.aload_n 0, 1) := by decide +kernel
theorem dVa_drop_1 : decode kVa_drop.2.1 1 = .ok (.getfield 24, 3) := by decide +kernel
theorem dVa_drop_4 : decode kVa_drop.2.1 4 = .ok (.ifCond .le 13, 3) := by decide +kernel
theorem dVa_drop_7 : decode kVa_drop.2.1 7 = .ok (.aload_n 0, 1) := by decide +kernel
theorem dVa_drop_8 : decode kVa_drop.2.1 8 = .ok (.dup, 1) := by decide +kernel
theorem dVa_drop_9 : decode kVa_drop.2.1 9 = .ok (.getfield 24, 3) := by decide +kernel
theorem dVa_drop_12 : decode kVa_drop.2.1 12 = .ok (.iconst 1, 1) := by decide +kernel
theorem dVa_drop_13 : decode kVa_drop.2.1 13 = .ok (.isub, 1) := by decide +kernel
theorem dVa_drop_14 : decode kVa_drop.2.1 14 = .ok (.putfield 24, 3) := by decide +kernel
theorem dVa_drop_17 : decode kVa_drop.2.1 17 = .ok (.return_, 1) := by decide +kernel
theorem dVa_perform_0 : decode kVa_perform.2.1 0 = .ok (.iload_n 1, 1) := by decide +kernel
theorem dVa_perform_1 : decode kVa_perform.2.1 1 = .ok (.lookupswitch 109 #[(18, 101), (19, 101), (31, 86), (43, 75), (44, 67), (49, 101), (50, 94)], 67) := by decide +kernel
theorem dVa_perform_68 : decode kVa_perform.2.1 68 = .ok (.aload_n 0, 1) := by decide +kernel
theorem dVa_perform_69 : decode kVa_perform.2.1 69 = .ok (.iload_n 2, 1) := by decide +kernel
theorem dVa_perform_70 : decode kVa_perform.2.1 70 = .ok (.invokevirtual 59, 3) := by decide +kernel
theorem dVa_perform_73 : decode kVa_perform.2.1 73 = .ok (.goto 42, 3) := by decide +kernel
theorem dVa_perform_76 : decode kVa_perform.2.1 76 = .ok (.aload_n 0, 1) := by decide +kernel
theorem dVa_perform_77 : decode kVa_perform.2.1 77 = .ok (.iload_n 2, 1) := by decide +kernel
theorem dVa_perform_78 : decode kVa_perform.2.1 78 = .ok (.invokestatic 49, 3) := by decide +kernel
theorem dVa_perform_81 : decode kVa_perform.2.1 81 = .ok (.invokevirtual 62, 3) := by decide +kernel
theorem dVa_perform_84 : decode kVa_perform.2.1 84 = .ok (.goto 31, 3) := by decide +kernel
theorem dVa_perform_87 : decode kVa_perform.2.1 87 = .ok (.aload_n 0, 1) := by decide +kernel
theorem dVa_perform_88 : decode kVa_perform.2.1 88 = .ok (.iload_n 2, 1) := by decide +kernel
theorem dVa_perform_89 : decode kVa_perform.2.1 89 = .ok (.invokevirtual 65, 3) := by decide +kernel
theorem dVa_perform_92 : decode kVa_perform.2.1 92 = .ok (.goto 23, 3) := by decide +kernel
theorem dVa_perform_95 : decode kVa_perform.2.1 95 = .ok (.aload_n 0, 1) := by decide +kernel
theorem dVa_perform_96 : decode kVa_perform.2.1 96 = .ok (.invokevirtual 68, 3) := by decide +kernel
theorem dVa_perform_99 : decode kVa_perform.2.1 99 = .ok (.goto 16, 3) := by decide +kernel
theorem dVa_perform_102 : decode kVa_perform.2.1 102 = .ok (.aload_n 0, 1) := by decide +kernel
theorem dVa_perform_103 : decode kVa_perform.2.1 103 = .ok (.iload_n 1, 1) := by decide +kernel
theorem dVa_perform_104 : decode kVa_perform.2.1 104 = .ok (.invokevirtual 71, 3) := by decide +kernel
theorem dVa_perform_107 : decode kVa_perform.2.1 107 = .ok (.goto 8, 3) := by decide +kernel
theorem dVa_perform_110 : decode kVa_perform.2.1 110 = .ok (.aload_n 0, 1) := by decide +kernel
theorem dVa_perform_111 : decode kVa_perform.2.1 111 = .ok (.iload_n 1, 1) := by decide +kernel
theorem dVa_perform_112 : decode kVa_perform.2.1 112 = .ok (.invokevirtual 74, 3) := by decide +kernel
theorem dVa_perform_115 : decode kVa_perform.2.1 115 = .ok (.return_, 1) := by decide +kernel
theorem dVa_pushNumber_0 : decode kVa_pushNumber.2.1 0 = .ok (.aload_n 0, 1) := by decide +kernel
theorem dVa_pushNumber_1 : decode kVa_pushNumber.2.1 1 = .ok (.getfield 24, 3) := by decide +kernel
theorem dVa_pushNumber_4 : decode kVa_pushNumber.2.1 4 = .ok (.sipush 140, 3) := by decide +kernel
theorem dVa_pushNumber_7 : decode kVa_pushNumber.2.1 7 = .ok (.if_icmp .ge 49, 3) := by decide +kernel
theorem dVa_pushNumber_10 : decode kVa_pushNumber.2.1 10 = .ok (.aload_n 0, 1) := by decide +kernel
theorem dVa_pushNumber_11 : decode kVa_pushNumber.2.1 11 = .ok (.getfield 24, 3) := by decide +kernel
theorem dVa_pushNumber_14 : decode kVa_pushNumber.2.1 14 = .ok (.invokestatic 81, 3) := by decide +kernel
theorem dVa_pushNumber_17 : decode kVa_pushNumber.2.1 17 = .ok (.istore_n 2, 1) := by decide +kernel
theorem dVa_pushNumber_18 : decode kVa_pushNumber.2.1 18 = .ok (.iload_n 1, 1) := by decide +kernel
theorem dVa_pushNumber_19 : decode kVa_pushNumber.2.1 19 = .ok (.invokestatic 84, 3) := by decide +kernel
theorem dVa_pushNumber_22 : decode kVa_pushNumber.2.1 22 = .ok (.lstore_n 3, 1) := by decide +kernel
theorem dVa_pushNumber_23 : decode kVa_pushNumber.2.1 23 = .ok (.iconst 0, 1) := by decide +kernel
theorem dVa_pushNumber_24 : decode kVa_pushNumber.2.1 24 = .ok (.istore 5, 2) := by decide +kernel
theorem dVa_pushNumber_26 : decode kVa_pushNumber.2.1 26 = .ok (.iload 5, 2) := by decide +kernel
theorem dVa_pushNumber_28 : decode kVa_pushNumber.2.1 28 = .ok (.aload_n 0, 1) := by decide +kernel
theorem dVa_pushNumber_29 : decode kVa_pushNumber.2.1 29 = .ok (.getfield 36, 3) := by decide +kernel
theorem dVa_pushNumber_32 : decode kVa_pushNumber.2.1 32 = .ok (.if_icmp .ge 19, 3) := by decide +kernel
theorem dVa_pushNumber_35 : decode kVa_pushNumber.2.1 35 = .ok (.aload_n 0, 1) := by decide +kernel
theorem dVa_pushNumber_36 : decode kVa_pushNumber.2.1 36 = .ok (.getfield 12, 3) := by decide +kernel
theorem dVa_pushNumber_39 : decode kVa_pushNumber.2.1 39 = .ok (.iload_n 2, 1) := by decide +kernel
theorem dVa_pushNumber_40 : decode kVa_pushNumber.2.1 40 = .ok (.iload 5, 2) := by decide +kernel
theorem dVa_pushNumber_42 : decode kVa_pushNumber.2.1 42 = .ok (.iadd, 1) := by decide +kernel
theorem dVa_pushNumber_43 : decode kVa_pushNumber.2.1 43 = .ok (.lload_n 3, 1) := by decide +kernel
theorem dVa_pushNumber_44 : decode kVa_pushNumber.2.1 44 = .ok (.lastore, 1) := by decide +kernel
theorem dVa_pushNumber_45 : decode kVa_pushNumber.2.1 45 = .ok (.iinc 5 1, 3) := by decide +kernel
theorem dVa_pushNumber_48 : decode kVa_pushNumber.2.1 48 = .ok (.goto (-22), 3) := by decide +kernel
theorem dVa_pushNumber_51 : decode kVa_pushNumber.2.1 51 = .ok (.aload_n 0, 1) := by decide +kernel
theorem dVa_pushNumber_52 : decode kVa_pushNumber.2.1 52 = .ok (.iload_n 2, 1) := by decide +kernel
theorem dVa_pushNumber_53 : decode kVa_pushNumber.2.1 53 = .ok (.invokevirtual 62, 3) := by decide +kernel
theorem dVa_pushNumber_56 : decode kVa_pushNumber.2.1 56 = .ok (.return_, 1) := by decide +kernel
theorem dVa_rowOfPlace_0 : decode kVa_rowOfPlace.2.1 0 = .ok (.bipush 60, 2) := by decide +kernel
theorem dVa_rowOfPlace_2 : decode kVa_rowOfPlace.2.1 2 = .ok (.iload_n 0, 1) := by decide +kernel
theorem dVa_rowOfPlace_3 : decode kVa_rowOfPlace.2.1 3 = .ok (.iadd, 1) := by decide +kernel
theorem dVa_rowOfPlace_4 : decode kVa_rowOfPlace.2.1 4 = .ok (.sipush 256, 3) := by decide +kernel
theorem dVa_rowOfPlace_7 : decode kVa_rowOfPlace.2.1 7 = .ok (.imul, 1) := by decide +kernel
theorem dVa_rowOfPlace_8 : decode kVa_rowOfPlace.2.1 8 = .ok (.ireturn, 1) := by decide +kernel
theorem dVa_push_0 : decode kVa_push.2.1 0 = .ok (.aload_n 0, 1) := by decide +kernel
theorem dVa_push_1 : decode kVa_push.2.1 1 = .ok (.getfield 24, 3) := by decide +kernel
theorem dVa_push_4 : decode kVa_push.2.1 4 = .ok (.sipush 140, 3) := by decide +kernel
theorem dVa_push_7 : decode kVa_push.2.1 7 = .ok (.if_icmp .ge 23, 3) := by decide +kernel
theorem dVa_push_10 : decode kVa_push.2.1 10 = .ok (.aload_n 0, 1) := by decide +kernel
theorem dVa_push_11 : decode kVa_push.2.1 11 = .ok (.getfield 16, 3) := by decide +kernel
theorem dVa_push_14 : decode kVa_push.2.1 14 = .ok (.aload_n 0, 1) := by decide +kernel
theorem dVa_push_15 : decode kVa_push.2.1 15 = .ok (.getfield 24, 3) := by decide +kernel
theorem dVa_push_18 : decode kVa_push.2.1 18 = .ok (.iload_n 1, 1) := by decide +kernel
theorem dVa_push_19 : decode kVa_push.2.1 19 = .ok (.iastore, 1) := by decide +kernel
theorem dVa_push_20 : decode kVa_push.2.1 20 = .ok (.aload_n 0, 1) := by decide +kernel
theorem dVa_push_21 : decode kVa_push.2.1 21 = .ok (.dup, 1) := by decide +kernel
theorem dVa_push_22 : decode kVa_push.2.1 22 = .ok (.getfield 24, 3) := by decide +kernel
theorem dVa_push_25 : decode kVa_push.2.1 25 = .ok (.iconst 1, 1) := by decide +kernel
theorem dVa_push_26 : decode kVa_push.2.1 26 = .ok (.iadd, 1) := by decide +kernel
theorem dVa_push_27 : decode kVa_push.2.1 27 = .ok (.putfield 24, 3) := by decide +kernel
theorem dVa_push_30 : decode kVa_push.2.1 30 = .ok (.return_, 1) := by decide +kernel
theorem dVa_keep_0 : decode kVa_keep.2.1 0 = .ok (.aload_n 0, 1) := by decide +kernel
theorem dVa_keep_1 : decode kVa_keep.2.1 1 = .ok (.getfield 24, 3) := by decide +kernel
theorem dVa_keep_4 : decode kVa_keep.2.1 4 = .ok (.ifCond .le 37, 3) := by decide +kernel
theorem dVa_keep_7 : decode kVa_keep.2.1 7 = .ok (.aload_n 0, 1) := by decide +kernel
theorem dVa_keep_8 : decode kVa_keep.2.1 8 = .ok (.getfield 12, 3) := by decide +kernel
theorem dVa_keep_11 : decode kVa_keep.2.1 11 = .ok (.aload_n 0, 1) := by decide +kernel
theorem dVa_keep_12 : decode kVa_keep.2.1 12 = .ok (.getfield 16, 3) := by decide +kernel
theorem dVa_keep_15 : decode kVa_keep.2.1 15 = .ok (.aload_n 0, 1) := by decide +kernel
theorem dVa_keep_16 : decode kVa_keep.2.1 16 = .ok (.getfield 24, 3) := by decide +kernel
theorem dVa_keep_19 : decode kVa_keep.2.1 19 = .ok (.iconst 1, 1) := by decide +kernel
theorem dVa_keep_20 : decode kVa_keep.2.1 20 = .ok (.isub, 1) := by decide +kernel
theorem dVa_keep_21 : decode kVa_keep.2.1 21 = .ok (.iaload, 1) := by decide +kernel
theorem dVa_keep_22 : decode kVa_keep.2.1 22 = .ok (.aload_n 0, 1) := by decide +kernel
theorem dVa_keep_23 : decode kVa_keep.2.1 23 = .ok (.getfield 12, 3) := by decide +kernel
theorem dVa_keep_26 : decode kVa_keep.2.1 26 = .ok (.iload_n 1, 1) := by decide +kernel
theorem dVa_keep_27 : decode kVa_keep.2.1 27 = .ok (.invokestatic 49, 3) := by decide +kernel
theorem dVa_keep_30 : decode kVa_keep.2.1 30 = .ok (.aload_n 0, 1) := by decide +kernel
theorem dVa_keep_31 : decode kVa_keep.2.1 31 = .ok (.getfield 36, 3) := by decide +kernel
theorem dVa_keep_34 : decode kVa_keep.2.1 34 = .ok (.invokestatic 90, 3) := by decide +kernel
theorem dVa_keep_37 : decode kVa_keep.2.1 37 = .ok (.aload_n 0, 1) := by decide +kernel
theorem dVa_keep_38 : decode kVa_keep.2.1 38 = .ok (.invokevirtual 96, 3) := by decide +kernel
theorem dVa_keep_41 : decode kVa_keep.2.1 41 = .ok (.return_, 1) := by decide +kernel
theorem dVa_choose_0 : decode kVa_choose.2.1 0 = .ok (.aload_n 0, 1) := by decide +kernel
theorem dVa_choose_1 : decode kVa_choose.2.1 1 = .ok (.getfield 24, 3) := by decide +kernel
theorem dVa_choose_4 : decode kVa_choose.2.1 4 = .ok (.iconst 3, 1) := by decide +kernel
theorem dVa_choose_5 : decode kVa_choose.2.1 5 = .ok (.if_icmp .ge 4, 3) := by decide +kernel
theorem dVa_choose_8 : decode kVa_choose.2.1 8 = .ok (.return_, 1) := by decide +kernel
theorem dVa_choose_9 : decode kVa_choose.2.1 9 = .ok (.aload_n 0, 1) := by decide +kernel
theorem dVa_choose_10 : decode kVa_choose.2.1 10 = .ok (.getfield 16, 3) := by decide +kernel
theorem dVa_choose_13 : decode kVa_choose.2.1 13 = .ok (.aload_n 0, 1) := by decide +kernel
theorem dVa_choose_14 : decode kVa_choose.2.1 14 = .ok (.getfield 24, 3) := by decide +kernel
theorem dVa_choose_17 : decode kVa_choose.2.1 17 = .ok (.iconst 3, 1) := by decide +kernel
theorem dVa_choose_18 : decode kVa_choose.2.1 18 = .ok (.isub, 1) := by decide +kernel
theorem dVa_choose_19 : decode kVa_choose.2.1 19 = .ok (.iaload, 1) := by decide +kernel
theorem dVa_choose_20 : decode kVa_choose.2.1 20 = .ok (.istore_n 1, 1) := by decide +kernel
theorem dVa_choose_21 : decode kVa_choose.2.1 21 = .ok (.aload_n 0, 1) := by decide +kernel
theorem dVa_choose_22 : decode kVa_choose.2.1 22 = .ok (.getfield 16, 3) := by decide +kernel
theorem dVa_choose_25 : decode kVa_choose.2.1 25 = .ok (.aload_n 0, 1) := by decide +kernel
theorem dVa_choose_26 : decode kVa_choose.2.1 26 = .ok (.getfield 24, 3) := by decide +kernel
theorem dVa_choose_29 : decode kVa_choose.2.1 29 = .ok (.iconst 2, 1) := by decide +kernel
theorem dVa_choose_30 : decode kVa_choose.2.1 30 = .ok (.isub, 1) := by decide +kernel
theorem dVa_choose_31 : decode kVa_choose.2.1 31 = .ok (.iaload, 1) := by decide +kernel
theorem dVa_choose_32 : decode kVa_choose.2.1 32 = .ok (.istore_n 2, 1) := by decide +kernel
theorem dVa_choose_33 : decode kVa_choose.2.1 33 = .ok (.aload_n 0, 1) := by decide +kernel
theorem dVa_choose_34 : decode kVa_choose.2.1 34 = .ok (.getfield 16, 3) := by decide +kernel
theorem dVa_choose_37 : decode kVa_choose.2.1 37 = .ok (.aload_n 0, 1) := by decide +kernel
theorem dVa_choose_38 : decode kVa_choose.2.1 38 = .ok (.getfield 24, 3) := by decide +kernel
theorem dVa_choose_41 : decode kVa_choose.2.1 41 = .ok (.iconst 1, 1) := by decide +kernel
theorem dVa_choose_42 : decode kVa_choose.2.1 42 = .ok (.isub, 1) := by decide +kernel
theorem dVa_choose_43 : decode kVa_choose.2.1 43 = .ok (.iaload, 1) := by decide +kernel
theorem dVa_choose_44 : decode kVa_choose.2.1 44 = .ok (.istore_n 3, 1) := by decide +kernel
theorem dVa_choose_45 : decode kVa_choose.2.1 45 = .ok (.aload_n 0, 1) := by decide +kernel
theorem dVa_choose_46 : decode kVa_choose.2.1 46 = .ok (.getfield 24, 3) := by decide +kernel
theorem dVa_choose_49 : decode kVa_choose.2.1 49 = .ok (.iconst 3, 1) := by decide +kernel
theorem dVa_choose_50 : decode kVa_choose.2.1 50 = .ok (.isub, 1) := by decide +kernel
theorem dVa_choose_51 : decode kVa_choose.2.1 51 = .ok (.invokestatic 81, 3) := by decide +kernel
theorem dVa_choose_54 : decode kVa_choose.2.1 54 = .ok (.istore 4, 2) := by decide +kernel
theorem dVa_choose_56 : decode kVa_choose.2.1 56 = .ok (.iconst 0, 1) := by decide +kernel
theorem dVa_choose_57 : decode kVa_choose.2.1 57 = .ok (.istore 5, 2) := by decide +kernel
theorem dVa_choose_59 : decode kVa_choose.2.1 59 = .ok (.iload 5, 2) := by decide +kernel
theorem dVa_choose_61 : decode kVa_choose.2.1 61 = .ok (.aload_n 0, 1) := by decide +kernel
theorem dVa_choose_62 : decode kVa_choose.2.1 62 = .ok (.getfield 36, 3) := by decide +kernel
theorem dVa_choose_65 : decode kVa_choose.2.1 65 = .ok (.if_icmp .ge 49, 3) := by decide +kernel
theorem dVa_choose_68 : decode kVa_choose.2.1 68 = .ok (.aload_n 0, 1) := by decide +kernel
theorem dVa_choose_69 : decode kVa_choose.2.1 69 = .ok (.getfield 12, 3) := by decide +kernel
theorem dVa_choose_72 : decode kVa_choose.2.1 72 = .ok (.iload 4, 2) := by decide +kernel
theorem dVa_choose_74 : decode kVa_choose.2.1 74 = .ok (.iload 5, 2) := by decide +kernel
theorem dVa_choose_76 : decode kVa_choose.2.1 76 = .ok (.iadd, 1) := by decide +kernel
theorem dVa_choose_77 : decode kVa_choose.2.1 77 = .ok (.aload_n 0, 1) := by decide +kernel
theorem dVa_choose_78 : decode kVa_choose.2.1 78 = .ok (.getfield 12, 3) := by decide +kernel
theorem dVa_choose_81 : decode kVa_choose.2.1 81 = .ok (.iload_n 1, 1) := by decide +kernel
theorem dVa_choose_82 : decode kVa_choose.2.1 82 = .ok (.iload 5, 2) := by decide +kernel
theorem dVa_choose_84 : decode kVa_choose.2.1 84 = .ok (.iadd, 1) := by decide +kernel
theorem dVa_choose_85 : decode kVa_choose.2.1 85 = .ok (.laload, 1) := by decide +kernel
theorem dVa_choose_86 : decode kVa_choose.2.1 86 = .ok (.aload_n 0, 1) := by decide +kernel
theorem dVa_choose_87 : decode kVa_choose.2.1 87 = .ok (.getfield 12, 3) := by decide +kernel
theorem dVa_choose_90 : decode kVa_choose.2.1 90 = .ok (.iload_n 2, 1) := by decide +kernel
theorem dVa_choose_91 : decode kVa_choose.2.1 91 = .ok (.iload 5, 2) := by decide +kernel
theorem dVa_choose_93 : decode kVa_choose.2.1 93 = .ok (.iadd, 1) := by decide +kernel
theorem dVa_choose_94 : decode kVa_choose.2.1 94 = .ok (.laload, 1) := by decide +kernel
theorem dVa_choose_95 : decode kVa_choose.2.1 95 = .ok (.aload_n 0, 1) := by decide +kernel
theorem dVa_choose_96 : decode kVa_choose.2.1 96 = .ok (.getfield 12, 3) := by decide +kernel
theorem dVa_choose_99 : decode kVa_choose.2.1 99 = .ok (.iload_n 3, 1) := by decide +kernel
theorem dVa_choose_100 : decode kVa_choose.2.1 100 = .ok (.iload 5, 2) := by decide +kernel
theorem dVa_choose_102 : decode kVa_choose.2.1 102 = .ok (.iadd, 1) := by decide +kernel
theorem dVa_choose_103 : decode kVa_choose.2.1 103 = .ok (.laload, 1) := by decide +kernel
theorem dVa_choose_104 : decode kVa_choose.2.1 104 = .ok (.invokestatic 105, 3) := by decide +kernel
theorem dVa_choose_107 : decode kVa_choose.2.1 107 = .ok (.lastore, 1) := by decide +kernel
theorem dVa_choose_108 : decode kVa_choose.2.1 108 = .ok (.iinc 5 1, 3) := by decide +kernel
theorem dVa_choose_111 : decode kVa_choose.2.1 111 = .ok (.goto (-52), 3) := by decide +kernel
theorem dVa_choose_114 : decode kVa_choose.2.1 114 = .ok (.aload_n 0, 1) := by decide +kernel
theorem dVa_choose_115 : decode kVa_choose.2.1 115 = .ok (.dup, 1) := by decide +kernel
theorem dVa_choose_116 : decode kVa_choose.2.1 116 = .ok (.getfield 24, 3) := by decide +kernel
theorem dVa_choose_119 : decode kVa_choose.2.1 119 = .ok (.iconst 2, 1) := by decide +kernel
theorem dVa_choose_120 : decode kVa_choose.2.1 120 = .ok (.isub, 1) := by decide +kernel
theorem dVa_choose_121 : decode kVa_choose.2.1 121 = .ok (.putfield 24, 3) := by decide +kernel
theorem dVa_choose_124 : decode kVa_choose.2.1 124 = .ok (.aload_n 0, 1) := by decide +kernel
theorem dVa_choose_125 : decode kVa_choose.2.1 125 = .ok (.getfield 16, 3) := by decide +kernel
theorem dVa_choose_128 : decode kVa_choose.2.1 128 = .ok (.aload_n 0, 1) := by decide +kernel
theorem dVa_choose_129 : decode kVa_choose.2.1 129 = .ok (.getfield 24, 3) := by decide +kernel
theorem dVa_choose_132 : decode kVa_choose.2.1 132 = .ok (.iconst 1, 1) := by decide +kernel
theorem dVa_choose_133 : decode kVa_choose.2.1 133 = .ok (.isub, 1) := by decide +kernel
theorem dVa_choose_134 : decode kVa_choose.2.1 134 = .ok (.iload 4, 2) := by decide +kernel
theorem dVa_choose_136 : decode kVa_choose.2.1 136 = .ok (.iastore, 1) := by decide +kernel
theorem dVa_choose_137 : decode kVa_choose.2.1 137 = .ok (.return_, 1) := by decide +kernel
theorem dVa_alter_0 : decode kVa_alter.2.1 0 = .ok (.aload_n 0, 1) := by decide +kernel
theorem dVa_alter_1 : decode kVa_alter.2.1 1 = .ok (.getfield 24, 3) := by decide +kernel
theorem dVa_alter_4 : decode kVa_alter.2.1 4 = .ok (.iconst 1, 1) := by decide +kernel
theorem dVa_alter_5 : decode kVa_alter.2.1 5 = .ok (.if_icmp .ge 4, 3) := by decide +kernel
theorem dVa_alter_8 : decode kVa_alter.2.1 8 = .ok (.return_, 1) := by decide +kernel
theorem dVa_alter_9 : decode kVa_alter.2.1 9 = .ok (.aload_n 0, 1) := by decide +kernel
theorem dVa_alter_10 : decode kVa_alter.2.1 10 = .ok (.getfield 16, 3) := by decide +kernel
theorem dVa_alter_13 : decode kVa_alter.2.1 13 = .ok (.aload_n 0, 1) := by decide +kernel
theorem dVa_alter_14 : decode kVa_alter.2.1 14 = .ok (.getfield 24, 3) := by decide +kernel
theorem dVa_alter_17 : decode kVa_alter.2.1 17 = .ok (.iconst 1, 1) := by decide +kernel
theorem dVa_alter_18 : decode kVa_alter.2.1 18 = .ok (.isub, 1) := by decide +kernel
theorem dVa_alter_19 : decode kVa_alter.2.1 19 = .ok (.iaload, 1) := by decide +kernel
theorem dVa_alter_20 : decode kVa_alter.2.1 20 = .ok (.istore_n 2, 1) := by decide +kernel
theorem dVa_alter_21 : decode kVa_alter.2.1 21 = .ok (.aload_n 0, 1) := by decide +kernel
theorem dVa_alter_22 : decode kVa_alter.2.1 22 = .ok (.getfield 24, 3) := by decide +kernel
theorem dVa_alter_25 : decode kVa_alter.2.1 25 = .ok (.iconst 1, 1) := by decide +kernel
theorem dVa_alter_26 : decode kVa_alter.2.1 26 = .ok (.isub, 1) := by decide +kernel
theorem dVa_alter_27 : decode kVa_alter.2.1 27 = .ok (.invokestatic 81, 3) := by decide +kernel
theorem dVa_alter_30 : decode kVa_alter.2.1 30 = .ok (.istore_n 3, 1) := by decide +kernel
theorem dVa_alter_31 : decode kVa_alter.2.1 31 = .ok (.iconst 0, 1) := by decide +kernel
theorem dVa_alter_32 : decode kVa_alter.2.1 32 = .ok (.istore 4, 2) := by decide +kernel
theorem dVa_alter_34 : decode kVa_alter.2.1 34 = .ok (.iload 4, 2) := by decide +kernel
theorem dVa_alter_36 : decode kVa_alter.2.1 36 = .ok (.aload_n 0, 1) := by decide +kernel
theorem dVa_alter_37 : decode kVa_alter.2.1 37 = .ok (.getfield 36, 3) := by decide +kernel
theorem dVa_alter_40 : decode kVa_alter.2.1 40 = .ok (.if_icmp .ge 31, 3) := by decide +kernel
theorem dVa_alter_43 : decode kVa_alter.2.1 43 = .ok (.aload_n 0, 1) := by decide +kernel
theorem dVa_alter_44 : decode kVa_alter.2.1 44 = .ok (.getfield 12, 3) := by decide +kernel
theorem dVa_alter_47 : decode kVa_alter.2.1 47 = .ok (.iload_n 3, 1) := by decide +kernel
theorem dVa_alter_48 : decode kVa_alter.2.1 48 = .ok (.iload 4, 2) := by decide +kernel
theorem dVa_alter_50 : decode kVa_alter.2.1 50 = .ok (.iadd, 1) := by decide +kernel
theorem dVa_alter_51 : decode kVa_alter.2.1 51 = .ok (.iload_n 1, 1) := by decide +kernel
theorem dVa_alter_52 : decode kVa_alter.2.1 52 = .ok (.aload_n 0, 1) := by decide +kernel
theorem dVa_alter_53 : decode kVa_alter.2.1 53 = .ok (.getfield 12, 3) := by decide +kernel
theorem dVa_alter_56 : decode kVa_alter.2.1 56 = .ok (.iload_n 2, 1) := by decide +kernel
theorem dVa_alter_57 : decode kVa_alter.2.1 57 = .ok (.iload 4, 2) := by decide +kernel
theorem dVa_alter_59 : decode kVa_alter.2.1 59 = .ok (.iadd, 1) := by decide +kernel
theorem dVa_alter_60 : decode kVa_alter.2.1 60 = .ok (.laload, 1) := by decide +kernel
theorem dVa_alter_61 : decode kVa_alter.2.1 61 = .ok (.invokestatic 99, 3) := by decide +kernel
theorem dVa_alter_64 : decode kVa_alter.2.1 64 = .ok (.lastore, 1) := by decide +kernel
theorem dVa_alter_65 : decode kVa_alter.2.1 65 = .ok (.iinc 4 1, 3) := by decide +kernel
theorem dVa_alter_68 : decode kVa_alter.2.1 68 = .ok (.goto (-34), 3) := by decide +kernel
theorem dVa_alter_71 : decode kVa_alter.2.1 71 = .ok (.aload_n 0, 1) := by decide +kernel
theorem dVa_alter_72 : decode kVa_alter.2.1 72 = .ok (.getfield 16, 3) := by decide +kernel
theorem dVa_alter_75 : decode kVa_alter.2.1 75 = .ok (.aload_n 0, 1) := by decide +kernel
theorem dVa_alter_76 : decode kVa_alter.2.1 76 = .ok (.getfield 24, 3) := by decide +kernel
theorem dVa_alter_79 : decode kVa_alter.2.1 79 = .ok (.iconst 1, 1) := by decide +kernel
theorem dVa_alter_80 : decode kVa_alter.2.1 80 = .ok (.isub, 1) := by decide +kernel
theorem dVa_alter_81 : decode kVa_alter.2.1 81 = .ok (.iload_n 3, 1) := by decide +kernel
theorem dVa_alter_82 : decode kVa_alter.2.1 82 = .ok (.iastore, 1) := by decide +kernel
theorem dVa_alter_83 : decode kVa_alter.2.1 83 = .ok (.return_, 1) := by decide +kernel
theorem dVa_join_0 : decode kVa_join.2.1 0 = .ok (.aload_n 0, 1) := by decide +kernel
theorem dVa_join_1 : decode kVa_join.2.1 1 = .ok (.getfield 24, 3) := by decide +kernel
theorem dVa_join_4 : decode kVa_join.2.1 4 = .ok (.iconst 2, 1) := by decide +kernel
theorem dVa_join_5 : decode kVa_join.2.1 5 = .ok (.if_icmp .ge 4, 3) := by decide +kernel
theorem dVa_join_8 : decode kVa_join.2.1 8 = .ok (.return_, 1) := by decide +kernel
theorem dVa_join_9 : decode kVa_join.2.1 9 = .ok (.aload_n 0, 1) := by decide +kernel
theorem dVa_join_10 : decode kVa_join.2.1 10 = .ok (.getfield 16, 3) := by decide +kernel
theorem dVa_join_13 : decode kVa_join.2.1 13 = .ok (.aload_n 0, 1) := by decide +kernel
theorem dVa_join_14 : decode kVa_join.2.1 14 = .ok (.getfield 24, 3) := by decide +kernel
theorem dVa_join_17 : decode kVa_join.2.1 17 = .ok (.iconst 2, 1) := by decide +kernel
theorem dVa_join_18 : decode kVa_join.2.1 18 = .ok (.isub, 1) := by decide +kernel
theorem dVa_join_19 : decode kVa_join.2.1 19 = .ok (.iaload, 1) := by decide +kernel
theorem dVa_join_20 : decode kVa_join.2.1 20 = .ok (.istore_n 2, 1) := by decide +kernel
theorem dVa_join_21 : decode kVa_join.2.1 21 = .ok (.aload_n 0, 1) := by decide +kernel
theorem dVa_join_22 : decode kVa_join.2.1 22 = .ok (.getfield 16, 3) := by decide +kernel
theorem dVa_join_25 : decode kVa_join.2.1 25 = .ok (.aload_n 0, 1) := by decide +kernel
theorem dVa_join_26 : decode kVa_join.2.1 26 = .ok (.getfield 24, 3) := by decide +kernel
theorem dVa_join_29 : decode kVa_join.2.1 29 = .ok (.iconst 1, 1) := by decide +kernel
theorem dVa_join_30 : decode kVa_join.2.1 30 = .ok (.isub, 1) := by decide +kernel
theorem dVa_join_31 : decode kVa_join.2.1 31 = .ok (.iaload, 1) := by decide +kernel
theorem dVa_join_32 : decode kVa_join.2.1 32 = .ok (.istore_n 3, 1) := by decide +kernel
theorem dVa_join_33 : decode kVa_join.2.1 33 = .ok (.aload_n 0, 1) := by decide +kernel
theorem dVa_join_34 : decode kVa_join.2.1 34 = .ok (.getfield 24, 3) := by decide +kernel
theorem dVa_join_37 : decode kVa_join.2.1 37 = .ok (.iconst 2, 1) := by decide +kernel
theorem dVa_join_38 : decode kVa_join.2.1 38 = .ok (.isub, 1) := by decide +kernel
theorem dVa_join_39 : decode kVa_join.2.1 39 = .ok (.invokestatic 81, 3) := by decide +kernel
theorem dVa_join_42 : decode kVa_join.2.1 42 = .ok (.istore 4, 2) := by decide +kernel
theorem dVa_join_44 : decode kVa_join.2.1 44 = .ok (.iconst 0, 1) := by decide +kernel
theorem dVa_join_45 : decode kVa_join.2.1 45 = .ok (.istore 5, 2) := by decide +kernel
theorem dVa_join_47 : decode kVa_join.2.1 47 = .ok (.iload 5, 2) := by decide +kernel
theorem dVa_join_49 : decode kVa_join.2.1 49 = .ok (.aload_n 0, 1) := by decide +kernel
theorem dVa_join_50 : decode kVa_join.2.1 50 = .ok (.getfield 36, 3) := by decide +kernel
theorem dVa_join_53 : decode kVa_join.2.1 53 = .ok (.if_icmp .ge 41, 3) := by decide +kernel
theorem dVa_join_56 : decode kVa_join.2.1 56 = .ok (.aload_n 0, 1) := by decide +kernel
theorem dVa_join_57 : decode kVa_join.2.1 57 = .ok (.getfield 12, 3) := by decide +kernel
theorem dVa_join_60 : decode kVa_join.2.1 60 = .ok (.iload 4, 2) := by decide +kernel
theorem dVa_join_62 : decode kVa_join.2.1 62 = .ok (.iload 5, 2) := by decide +kernel
theorem dVa_join_64 : decode kVa_join.2.1 64 = .ok (.iadd, 1) := by decide +kernel
theorem dVa_join_65 : decode kVa_join.2.1 65 = .ok (.iload_n 1, 1) := by decide +kernel
theorem dVa_join_66 : decode kVa_join.2.1 66 = .ok (.aload_n 0, 1) := by decide +kernel
theorem dVa_join_67 : decode kVa_join.2.1 67 = .ok (.getfield 12, 3) := by decide +kernel
theorem dVa_join_70 : decode kVa_join.2.1 70 = .ok (.iload_n 2, 1) := by decide +kernel
theorem dVa_join_71 : decode kVa_join.2.1 71 = .ok (.iload 5, 2) := by decide +kernel
theorem dVa_join_73 : decode kVa_join.2.1 73 = .ok (.iadd, 1) := by decide +kernel
theorem dVa_join_74 : decode kVa_join.2.1 74 = .ok (.laload, 1) := by decide +kernel
theorem dVa_join_75 : decode kVa_join.2.1 75 = .ok (.aload_n 0, 1) := by decide +kernel
theorem dVa_join_76 : decode kVa_join.2.1 76 = .ok (.getfield 12, 3) := by decide +kernel
theorem dVa_join_79 : decode kVa_join.2.1 79 = .ok (.iload_n 3, 1) := by decide +kernel
theorem dVa_join_80 : decode kVa_join.2.1 80 = .ok (.iload 5, 2) := by decide +kernel
theorem dVa_join_82 : decode kVa_join.2.1 82 = .ok (.iadd, 1) := by decide +kernel
theorem dVa_join_83 : decode kVa_join.2.1 83 = .ok (.laload, 1) := by decide +kernel
theorem dVa_join_84 : decode kVa_join.2.1 84 = .ok (.invokestatic 102, 3) := by decide +kernel
theorem dVa_join_87 : decode kVa_join.2.1 87 = .ok (.lastore, 1) := by decide +kernel
theorem dVa_join_88 : decode kVa_join.2.1 88 = .ok (.iinc 5 1, 3) := by decide +kernel
theorem dVa_join_91 : decode kVa_join.2.1 91 = .ok (.goto (-44), 3) := by decide +kernel
theorem dVa_join_94 : decode kVa_join.2.1 94 = .ok (.aload_n 0, 1) := by decide +kernel
theorem dVa_join_95 : decode kVa_join.2.1 95 = .ok (.dup, 1) := by decide +kernel
theorem dVa_join_96 : decode kVa_join.2.1 96 = .ok (.getfield 24, 3) := by decide +kernel
theorem dVa_join_99 : decode kVa_join.2.1 99 = .ok (.iconst 1, 1) := by decide +kernel
theorem dVa_join_100 : decode kVa_join.2.1 100 = .ok (.isub, 1) := by decide +kernel
theorem dVa_join_101 : decode kVa_join.2.1 101 = .ok (.putfield 24, 3) := by decide +kernel
theorem dVa_join_104 : decode kVa_join.2.1 104 = .ok (.aload_n 0, 1) := by decide +kernel
theorem dVa_join_105 : decode kVa_join.2.1 105 = .ok (.getfield 16, 3) := by decide +kernel
theorem dVa_join_108 : decode kVa_join.2.1 108 = .ok (.aload_n 0, 1) := by decide +kernel
theorem dVa_join_109 : decode kVa_join.2.1 109 = .ok (.getfield 24, 3) := by decide +kernel
theorem dVa_join_112 : decode kVa_join.2.1 112 = .ok (.iconst 1, 1) := by decide +kernel
theorem dVa_join_113 : decode kVa_join.2.1 113 = .ok (.isub, 1) := by decide +kernel
theorem dVa_join_114 : decode kVa_join.2.1 114 = .ok (.iload 4, 2) := by decide +kernel
theorem dVa_join_116 : decode kVa_join.2.1 116 = .ok (.iastore, 1) := by decide +kernel
theorem dVa_join_117 : decode kVa_join.2.1 117 = .ok (.return_, 1) := by decide +kernel
theorem dVa_ofName_0 : decode kVa_ofName.2.1 0 = .ok (.aload_n 0, 1) := by decide +kernel
theorem dVa_ofName_1 : decode kVa_ofName.2.1 1 = .ok (.iload_n 1, 1) := by decide +kernel
theorem dVa_ofName_2 : decode kVa_ofName.2.1 2 = .ok (.invokestatic 49, 3) := by decide +kernel
theorem dVa_ofName_5 : decode kVa_ofName.2.1 5 = .ok (.iload_n 2, 1) := by decide +kernel
theorem dVa_ofName_6 : decode kVa_ofName.2.1 6 = .ok (.invokevirtual 77, 3) := by decide +kernel
theorem dVa_ofName_9 : decode kVa_ofName.2.1 9 = .ok (.ireturn, 1) := by decide +kernel
theorem fVa_12 : pm_Fl "CircuitChecker$Values" 12 6 1 true := ⟨_, _, _, rfl, by decide, by decide +kernel, pW6, Or.inl (pm_in 226 (by decide +kernel) rfl)⟩ -- cells
theorem sVa_12 : pm_Fs "CircuitChecker$Values" 6 1 (.array .long) true := ⟨_, _, _, pY6, rfl, pY6_ok, pN6_ok, rfl, rfl, fun _ => rfl⟩
theorem fVa_16 : pm_Fl "CircuitChecker$Values" 16 6 2 true := ⟨_, _, _, rfl, by decide, by decide +kernel, pW6, Or.inl (pm_in 227 (by decide +kernel) rfl)⟩ -- stack
theorem sVa_16 : pm_Fs "CircuitChecker$Values" 6 2 (.array .int) true := ⟨_, _, _, pY6, rfl, pY6_ok, pN6_ok, rfl, rfl, fun _ => rfl⟩
theorem fVa_20 : pm_Fl "CircuitChecker$Values" 20 6 0 true := ⟨_, _, _, rfl, by decide, by decide +kernel, pW6, Or.inl (pm_in 225 (by decide +kernel) rfl)⟩ -- circuit
theorem sVa_20 : pm_Fs "CircuitChecker$Values" 6 0 (.object "CircuitChecker$Circuit") true := ⟨_, _, _, pY6, rfl, pY6_ok, pN6_ok, rfl, rfl, fun _ => rfl⟩
theorem fVa_24 : pm_Fl "CircuitChecker$Values" 24 6 3 false := ⟨_, _, _, rfl, by decide, by decide +kernel, pW6, Or.inl (pm_in 228 (by decide +kernel) rfl)⟩ -- top
theorem sVa_24 : pm_Fs "CircuitChecker$Values" 6 3 .int false := ⟨_, _, _, pY6, rfl, pY6_ok, pN6_ok, rfl, rfl, fun h => by cases h⟩
theorem fVa_28 : pm_Fl "CircuitChecker$Values" 28 2 7 false := ⟨_, _, _, rfl, by decide, by decide +kernel, pW2, Or.inr ⟨"CircuitChecker", pm_inN 106 (by decide +kernel) rfl⟩⟩ -- regBits
theorem sVa_28 : pm_Fs "CircuitChecker$Values" 2 7 .int false := ⟨_, _, _, pY2, rfl, pY2_ok, pN2_ok, rfl, rfl, fun h => by cases h⟩
theorem fVa_33 : pm_Fl "CircuitChecker$Values" 33 2 8 false := ⟨_, _, _, rfl, by decide, by decide +kernel, pW2, Or.inr ⟨"CircuitChecker", pm_inN 110 (by decide +kernel) rfl⟩⟩ -- inputBits
theorem sVa_33 : pm_Fs "CircuitChecker$Values" 2 8 .int false := ⟨_, _, _, pY2, rfl, pY2_ok, pN2_ok, rfl, rfl, fun h => by cases h⟩
theorem fVa_36 : pm_Fl "CircuitChecker$Values" 36 6 4 false := ⟨_, _, _, rfl, by decide, by decide +kernel, pW6, Or.inl (pm_in 229 (by decide +kernel) rfl)⟩ -- longs
theorem sVa_36 : pm_Fs "CircuitChecker$Values" 6 4 .int false := ⟨_, _, _, pY6, rfl, pY6_ok, pN6_ok, rfl, rfl, fun h => by cases h⟩
theorem fVa_39 : pm_Fl "CircuitChecker$Values" 39 2 5 false := ⟨_, _, _, rfl, by decide, by decide +kernel, pW2, Or.inr ⟨"CircuitChecker", pm_inN 99 (by decide +kernel) rfl⟩⟩ -- names
theorem sVa_39 : pm_Fs "CircuitChecker$Values" 2 5 .int false := ⟨_, _, _, pY2, rfl, pY2_ok, pN2_ok, rfl, rfl, fun h => by cases h⟩
theorem fVa_42 : pm_Fl "CircuitChecker$Values" 42 2 0 true := ⟨_, _, _, rfl, by decide, by decide +kernel, pW2, Or.inr ⟨"CircuitChecker", pm_inN 83 (by decide +kernel) rfl⟩⟩ -- kind
theorem fVa_56 : pm_Fl "CircuitChecker$Values" 56 2 1 true := ⟨_, _, _, rfl, by decide, by decide +kernel, pW2, Or.inr ⟨"CircuitChecker", pm_inN 88 (by decide +kernel) rfl⟩⟩ -- bits
theorem cVa_11 : Cond.constant "CircuitChecker$Values" 11 (51200) ∈ pm_TS := pm_in 224 (by decide +kernel) rfl
theorem wVa_init : Cond.code kVa_init.1 kVa_init.2.1 kVa_init.2.2.1 kVa_init.2.2.2 ∈ pm_TS := pm_in 222 (by decide +kernel) rfl
theorem iVa_init : kVa_init.1.name = "<init>" ∧ kVa_init.2.2.2 = none ∧ Cond.instanceMethod kVa_init.1 ∈ pm_TS := ⟨rfl, rfl, pm_in 221 (by decide +kernel) rfl⟩
theorem wVa_begin : Cond.code kVa_begin.1 kVa_begin.2.1 kVa_begin.2.2.1 kVa_begin.2.2.2 ∈ pm_TS := pm_in 357 (by decide +kernel) rfl
theorem vVa_begin : pm_Vt kVa_begin := ⟨pm_in 355 (by decide +kernel) rfl, pm_in 356 (by decide +kernel) rfl⟩
theorem wVa_fillRow : Cond.code kVa_fillRow.1 kVa_fillRow.2.1 kVa_fillRow.2.2.1 kVa_fillRow.2.2.2 ∈ pm_TS := pm_in 361 (by decide +kernel) rfl
theorem vVa_fillRow : pm_Vt kVa_fillRow := ⟨pm_in 360 (by decide +kernel) rfl, pm_inS (q := (kVa_fillRow.1, 5)) 1 (by decide +kernel)⟩
theorem wVa_rowOfName : Cond.code kVa_rowOfName.1 kVa_rowOfName.2.1 kVa_rowOfName.2.2.1 kVa_rowOfName.2.2.2 ∈ pm_TS := pm_in 364 (by decide +kernel) rfl
theorem tVa_rowOfName : Cond.static kVa_rowOfName.1 ∈ pm_TS := pm_in 363 (by decide +kernel) rfl
theorem wVa_ofLast : Cond.code kVa_ofLast.1 kVa_ofLast.2.1 kVa_ofLast.2.2.1 kVa_ofLast.2.2.2 ∈ pm_TS := pm_in 385 (by decide +kernel) rfl
theorem vVa_ofLast : pm_Vt kVa_ofLast := ⟨pm_in 383 (by decide +kernel) rfl, pm_in 384 (by decide +kernel) rfl⟩
theorem wVa_lane : Cond.code kVa_lane.1 kVa_lane.2.1 kVa_lane.2.2.1 kVa_lane.2.2.2 ∈ pm_TS := pm_in 389 (by decide +kernel) rfl
theorem vVa_lane : pm_Vt kVa_lane := ⟨pm_in 388 (by decide +kernel) rfl, pm_inS (q := (kVa_lane.1, 5)) 3 (by decide +kernel)⟩
theorem wVa_drop : Cond.code kVa_drop.1 kVa_drop.2.1 kVa_drop.2.2.1 kVa_drop.2.2.2 ∈ pm_TS := pm_in 393 (by decide +kernel) rfl
theorem vVa_drop : pm_Vt kVa_drop := ⟨pm_in 391 (by decide +kernel) rfl, pm_in 392 (by decide +kernel) rfl⟩
theorem wVa_perform : Cond.code kVa_perform.1 kVa_perform.2.1 kVa_perform.2.2.1 kVa_perform.2.2.2 ∈ pm_TS := pm_in 483 (by decide +kernel) rfl
theorem vVa_perform : pm_Vt kVa_perform := ⟨pm_in 481 (by decide +kernel) rfl, pm_in 482 (by decide +kernel) rfl⟩
theorem wVa_pushNumber : Cond.code kVa_pushNumber.1 kVa_pushNumber.2.1 kVa_pushNumber.2.2.1 kVa_pushNumber.2.2.2 ∈ pm_TS := pm_in 487 (by decide +kernel) rfl
theorem vVa_pushNumber : pm_Vt kVa_pushNumber := ⟨pm_in 486 (by decide +kernel) rfl, pm_inS (q := (kVa_pushNumber.1, 5)) 21 (by decide +kernel)⟩
theorem wVa_rowOfPlace : Cond.code kVa_rowOfPlace.1 kVa_rowOfPlace.2.1 kVa_rowOfPlace.2.2.1 kVa_rowOfPlace.2.2.2 ∈ pm_TS := pm_in 490 (by decide +kernel) rfl
theorem tVa_rowOfPlace : Cond.static kVa_rowOfPlace.1 ∈ pm_TS := pm_in 489 (by decide +kernel) rfl
theorem wVa_push : Cond.code kVa_push.1 kVa_push.2.1 kVa_push.2.2.1 kVa_push.2.2.2 ∈ pm_TS := pm_in 498 (by decide +kernel) rfl
theorem vVa_push : pm_Vt kVa_push := ⟨pm_in 497 (by decide +kernel) rfl, pm_inS (q := (kVa_push.1, 5)) 22 (by decide +kernel)⟩
theorem wVa_keep : Cond.code kVa_keep.1 kVa_keep.2.1 kVa_keep.2.2.1 kVa_keep.2.2.2 ∈ pm_TS := pm_in 502 (by decide +kernel) rfl
theorem vVa_keep : pm_Vt kVa_keep := ⟨pm_in 501 (by decide +kernel) rfl, pm_inS (q := (kVa_keep.1, 5)) 23 (by decide +kernel)⟩
theorem wVa_choose : Cond.code kVa_choose.1 kVa_choose.2.1 kVa_choose.2.2.1 kVa_choose.2.2.2 ∈ pm_TS := pm_in 508 (by decide +kernel) rfl
theorem vVa_choose : pm_Vt kVa_choose := ⟨pm_in 507 (by decide +kernel) rfl, pm_inS (q := (kVa_choose.1, 5)) 24 (by decide +kernel)⟩
theorem wVa_alter : Cond.code kVa_alter.1 kVa_alter.2.1 kVa_alter.2.2.1 kVa_alter.2.2.2 ∈ pm_TS := pm_in 523 (by decide +kernel) rfl
theorem vVa_alter : pm_Vt kVa_alter := ⟨pm_in 522 (by decide +kernel) rfl, pm_inS (q := (kVa_alter.1, 5)) 25 (by decide +kernel)⟩
theorem wVa_join : Cond.code kVa_join.1 kVa_join.2.1 kVa_join.2.2.1 kVa_join.2.2.2 ∈ pm_TS := pm_in 537 (by decide +kernel) rfl
theorem vVa_join : pm_Vt kVa_join := ⟨pm_in 536 (by decide +kernel) rfl, pm_inS (q := (kVa_join.1, 5)) 26 (by decide +kernel)⟩
theorem wVa_ofName : Cond.code kVa_ofName.1 kVa_ofName.2.1 kVa_ofName.2.2.1 kVa_ofName.2.2.2 ∈ pm_TS := pm_in 1162 (by decide +kernel) rfl
theorem vVa_ofName : pm_Vt kVa_ofName := ⟨pm_in 1160 (by decide +kernel) rfl, pm_in 1161 (by decide +kernel) rfl⟩
/-! CircuitChecker$Steps: cards, decoded instructions, links -/
def kSt_init : pmK := (⟨"CircuitChecker$Steps", "<init>", "(LCircuitChecker$Circuit;)V"⟩, prog_6_method_1_code, 2, none)
def kSt_begin : pmK := (⟨"CircuitChecker$Steps", "begin", "()V"⟩, prog_6_method_2_code, 2, none)
def kSt_change : pmK := (⟨"CircuitChecker$Steps", "change", "(ILCircuitChecker$Values;)V"⟩, prog_6_method_3_code, 6, none)
def kSt_caseOf : pmK := (⟨"CircuitChecker$Steps", "caseOf", "(II)I"⟩, prog_6_method_5_code, 3, (some .int))
def kSt_finish : pmK := (⟨"CircuitChecker$Steps", "finish", "()V"⟩, prog_6_method_4_code, 1, none)
def kSt_turnBack : pmK := (⟨"CircuitChecker$Steps", "turnBack", "()V"⟩, prog_6_method_6_code, 2, none)
def kSt_meetAll : pmK := (⟨"CircuitChecker$Steps", "meetAll", "()V"⟩, prog_6_method_7_code, 3, none)
def kSt_meet : pmK := (⟨"CircuitChecker$Steps", "meet", "(II)V"⟩, prog_6_method_8_code, 4, none)
theorem dSt_init_0 : decode kSt_init.2.1 0 = .ok (.aload_n 0, 1) := by decide +kernel
theorem dSt_init_1 : decode kSt_init.2.1 1 = .ok (.invokespecial 3, 3) := by decide +kernel
theorem dSt_init_4 : decode kSt_init.2.1 4 = .ok (.aload_n 0, 1) := by decide +kernel
theorem dSt_init_5 : decode kSt_init.2.1 5 = .ok (.sipush 2048, 3) := by decide +kernel
theorem dSt_init_8 : decode kSt_init.2.1 8 = .ok (.newarray .int, 2) := by decide +kernel
theorem dSt_init_10 : decode kSt_init.2.1 10 = .ok (.putfield 9, 3) := by decide +kernel
theorem dSt_init_13 : decode kSt_init.2.1 13 = .ok (.aload_n 0, 1) := by decide +kernel
theorem dSt_init_14 : decode kSt_init.2.1 14 = .ok (.sipush 2048, 3) := by decide +kernel
theorem dSt_init_17 : decode kSt_init.2.1 17 = .ok (.newarray .int, 2) := by decide +kernel
theorem dSt_init_19 : decode kSt_init.2.1 19 = .ok (.putfield 15, 3) := by decide +kernel
theorem dSt_init_22 : decode kSt_init.2.1 22 = .ok (.aload_n 0, 1) := by decide +kernel
theorem dSt_init_23 : decode kSt_init.2.1 23 = .ok (.sipush 257, 3) := by decide +kernel
theorem dSt_init_26 : decode kSt_init.2.1 26 = .ok (.newarray .int, 2) := by decide +kernel
theorem dSt_init_28 : decode kSt_init.2.1 28 = .ok (.putfield 18, 3) := by decide +kernel
theorem dSt_init_31 : decode kSt_init.2.1 31 = .ok (.aload_n 0, 1) := by decide +kernel
theorem dSt_init_32 : decode kSt_init.2.1 32 = .ok (.sipush 256, 3) := by decide +kernel
theorem dSt_init_35 : decode kSt_init.2.1 35 = .ok (.newarray .int, 2) := by decide +kernel
theorem dSt_init_37 : decode kSt_init.2.1 37 = .ok (.putfield 21, 3) := by decide +kernel
theorem dSt_init_40 : decode kSt_init.2.1 40 = .ok (.aload_n 0, 1) := by decide +kernel
theorem dSt_init_41 : decode kSt_init.2.1 41 = .ok (.sipush 256, 3) := by decide +kernel
theorem dSt_init_44 : decode kSt_init.2.1 44 = .ok (.newarray .int, 2) := by decide +kernel
theorem dSt_init_46 : decode kSt_init.2.1 46 = .ok (.putfield 24, 3) := by decide +kernel
theorem dSt_init_49 : decode kSt_init.2.1 49 = .ok (.aload_n 0, 1) := by decide +kernel
theorem dSt_init_50 : decode kSt_init.2.1 50 = .ok (.sipush 256, 3) := by decide +kernel
theorem dSt_init_53 : decode kSt_init.2.1 53 = .ok (.newarray .int, 2) := by decide +kernel
theorem dSt_init_55 : decode kSt_init.2.1 55 = .ok (.putfield 27, 3) := by decide +kernel
theorem dSt_init_58 : decode kSt_init.2.1 58 = .ok (.aload_n 0, 1) := by decide +kernel
theorem dSt_init_59 : decode kSt_init.2.1 59 = .ok (.sipush 256, 3) := by decide +kernel
theorem dSt_init_62 : decode kSt_init.2.1 62 = .ok (.newarray .int, 2) := by decide +kernel
theorem dSt_init_64 : decode kSt_init.2.1 64 = .ok (.putfield 30, 3) := by decide +kernel
theorem dSt_init_67 : decode kSt_init.2.1 67 = .ok (.aload_n 0, 1) := by decide +kernel
theorem dSt_init_68 : decode kSt_init.2.1 68 = .ok (.aload_n 1, 1) := by decide +kernel
theorem dSt_init_69 : decode kSt_init.2.1 69 = .ok (.putfield 33, 3) := by decide +kernel
theorem dSt_init_72 : decode kSt_init.2.1 72 = .ok (.return_, 1) := by decide +kernel
theorem dSt_begin_0 : decode kSt_begin.2.1 0 = .ok (.aload_n 0, 1) := by decide +kernel
theorem dSt_begin_1 : decode kSt_begin.2.1 1 = .ok (.iconst 1, 1) := by decide +kernel
theorem dSt_begin_2 : decode kSt_begin.2.1 2 = .ok (.aload_n 0, 1) := by decide +kernel
theorem dSt_begin_3 : decode kSt_begin.2.1 3 = .ok (.getfield 33, 3) := by decide +kernel
theorem dSt_begin_6 : decode kSt_begin.2.1 6 = .ok (.getfield 37, 3) := by decide +kernel
theorem dSt_begin_9 : decode kSt_begin.2.1 9 = .ok (.ishl, 1) := by decide +kernel
theorem dSt_begin_10 : decode kSt_begin.2.1 10 = .ok (.putfield 43, 3) := by decide +kernel
theorem dSt_begin_13 : decode kSt_begin.2.1 13 = .ok (.aload_n 0, 1) := by decide +kernel
theorem dSt_begin_14 : decode kSt_begin.2.1 14 = .ok (.iconst 1, 1) := by decide +kernel
theorem dSt_begin_15 : decode kSt_begin.2.1 15 = .ok (.aload_n 0, 1) := by decide +kernel
theorem dSt_begin_16 : decode kSt_begin.2.1 16 = .ok (.getfield 33, 3) := by decide +kernel
theorem dSt_begin_19 : decode kSt_begin.2.1 19 = .ok (.getfield 46, 3) := by decide +kernel
theorem dSt_begin_22 : decode kSt_begin.2.1 22 = .ok (.ishl, 1) := by decide +kernel
theorem dSt_begin_23 : decode kSt_begin.2.1 23 = .ok (.putfield 49, 3) := by decide +kernel
theorem dSt_begin_26 : decode kSt_begin.2.1 26 = .ok (.aload_n 0, 1) := by decide +kernel
theorem dSt_begin_27 : decode kSt_begin.2.1 27 = .ok (.aload_n 0, 1) := by decide +kernel
theorem dSt_begin_28 : decode kSt_begin.2.1 28 = .ok (.getfield 43, 3) := by decide +kernel
theorem dSt_begin_31 : decode kSt_begin.2.1 31 = .ok (.aload_n 0, 1) := by decide +kernel
theorem dSt_begin_32 : decode kSt_begin.2.1 32 = .ok (.getfield 49, 3) := by decide +kernel
theorem dSt_begin_35 : decode kSt_begin.2.1 35 = .ok (.imul, 1) := by decide +kernel
theorem dSt_begin_36 : decode kSt_begin.2.1 36 = .ok (.putfield 52, 3) := by decide +kernel
theorem dSt_begin_39 : decode kSt_begin.2.1 39 = .ok (.iconst 0, 1) := by decide +kernel
theorem dSt_begin_40 : decode kSt_begin.2.1 40 = .ok (.istore_n 1, 1) := by decide +kernel
theorem dSt_begin_41 : decode kSt_begin.2.1 41 = .ok (.iload_n 1, 1) := by decide +kernel
theorem dSt_begin_42 : decode kSt_begin.2.1 42 = .ok (.aload_n 0, 1) := by decide +kernel
theorem dSt_begin_43 : decode kSt_begin.2.1 43 = .ok (.getfield 52, 3) := by decide +kernel
theorem dSt_begin_46 : decode kSt_begin.2.1 46 = .ok (.if_icmp .ge 24, 3) := by decide +kernel
theorem dSt_begin_49 : decode kSt_begin.2.1 49 = .ok (.aload_n 0, 1) := by decide +kernel
theorem dSt_begin_50 : decode kSt_begin.2.1 50 = .ok (.getfield 9, 3) := by decide +kernel
theorem dSt_begin_53 : decode kSt_begin.2.1 53 = .ok (.iload_n 1, 1) := by decide +kernel
theorem dSt_begin_54 : decode kSt_begin.2.1 54 = .ok (.iload_n 1, 1) := by decide +kernel
theorem dSt_begin_55 : decode kSt_begin.2.1 55 = .ok (.aload_n 0, 1) := by decide +kernel
theorem dSt_begin_56 : decode kSt_begin.2.1 56 = .ok (.getfield 33, 3) := by decide +kernel
theorem dSt_begin_59 : decode kSt_begin.2.1 59 = .ok (.getfield 46, 3) := by decide +kernel
theorem dSt_begin_62 : decode kSt_begin.2.1 62 = .ok (.ishr, 1) := by decide +kernel
theorem dSt_begin_63 : decode kSt_begin.2.1 63 = .ok (.iastore, 1) := by decide +kernel
theorem dSt_begin_64 : decode kSt_begin.2.1 64 = .ok (.iinc 1 1, 3) := by decide +kernel
theorem dSt_begin_67 : decode kSt_begin.2.1 67 = .ok (.goto (-26), 3) := by decide +kernel
theorem dSt_begin_70 : decode kSt_begin.2.1 70 = .ok (.return_, 1) := by decide +kernel
theorem dSt_change_0 : decode kSt_change.2.1 0 = .ok (.aload_n 0, 1) := by decide +kernel
theorem dSt_change_1 : decode kSt_change.2.1 1 = .ok (.getfield 33, 3) := by decide +kernel
theorem dSt_change_4 : decode kSt_change.2.1 4 = .ok (.iload_n 1, 1) := by decide +kernel
theorem dSt_change_5 : decode kSt_change.2.1 5 = .ok (.invokevirtual 55, 3) := by decide +kernel
theorem dSt_change_8 : decode kSt_change.2.1 8 = .ok (.istore_n 3, 1) := by decide +kernel
theorem dSt_change_9 : decode kSt_change.2.1 9 = .ok (.iconst 1, 1) := by decide +kernel
theorem dSt_change_10 : decode kSt_change.2.1 10 = .ok (.aload_n 0, 1) := by decide +kernel
theorem dSt_change_11 : decode kSt_change.2.1 11 = .ok (.getfield 33, 3) := by decide +kernel
theorem dSt_change_14 : decode kSt_change.2.1 14 = .ok (.getfield 59, 3) := by decide +kernel
theorem dSt_change_17 : decode kSt_change.2.1 17 = .ok (.iload_n 1, 1) := by decide +kernel
theorem dSt_change_18 : decode kSt_change.2.1 18 = .ok (.iaload, 1) := by decide +kernel
theorem dSt_change_19 : decode kSt_change.2.1 19 = .ok (.ishl, 1) := by decide +kernel
theorem dSt_change_20 : decode kSt_change.2.1 20 = .ok (.iconst 1, 1) := by decide +kernel
theorem dSt_change_21 : decode kSt_change.2.1 21 = .ok (.isub, 1) := by decide +kernel
theorem dSt_change_22 : decode kSt_change.2.1 22 = .ok (.istore 4, 2) := by decide +kernel
theorem dSt_change_24 : decode kSt_change.2.1 24 = .ok (.iconst 0, 1) := by decide +kernel
theorem dSt_change_25 : decode kSt_change.2.1 25 = .ok (.istore 5, 2) := by decide +kernel
theorem dSt_change_27 : decode kSt_change.2.1 27 = .ok (.iload 5, 2) := by decide +kernel
theorem dSt_change_29 : decode kSt_change.2.1 29 = .ok (.aload_n 0, 1) := by decide +kernel
theorem dSt_change_30 : decode kSt_change.2.1 30 = .ok (.getfield 52, 3) := by decide +kernel
theorem dSt_change_33 : decode kSt_change.2.1 33 = .ok (.if_icmp .ge 42, 3) := by decide +kernel
theorem dSt_change_36 : decode kSt_change.2.1 36 = .ok (.aload_n 0, 1) := by decide +kernel
theorem dSt_change_37 : decode kSt_change.2.1 37 = .ok (.getfield 9, 3) := by decide +kernel
theorem dSt_change_40 : decode kSt_change.2.1 40 = .ok (.iload 5, 2) := by decide +kernel
theorem dSt_change_42 : decode kSt_change.2.1 42 = .ok (.aload_n 0, 1) := by decide +kernel
theorem dSt_change_43 : decode kSt_change.2.1 43 = .ok (.getfield 9, 3) := by decide +kernel
theorem dSt_change_46 : decode kSt_change.2.1 46 = .ok (.iload 5, 2) := by decide +kernel
theorem dSt_change_48 : decode kSt_change.2.1 48 = .ok (.iaload, 1) := by decide +kernel
theorem dSt_change_49 : decode kSt_change.2.1 49 = .ok (.iload 4, 2) := by decide +kernel
theorem dSt_change_51 : decode kSt_change.2.1 51 = .ok (.iload_n 3, 1) := by decide +kernel
theorem dSt_change_52 : decode kSt_change.2.1 52 = .ok (.ishl, 1) := by decide +kernel
theorem dSt_change_53 : decode kSt_change.2.1 53 = .ok (.iconst (-1), 1) := by decide +kernel
theorem dSt_change_54 : decode kSt_change.2.1 54 = .ok (.ixor, 1) := by decide +kernel
theorem dSt_change_55 : decode kSt_change.2.1 55 = .ok (.iand, 1) := by decide +kernel
theorem dSt_change_56 : decode kSt_change.2.1 56 = .ok (.aload_n 2, 1) := by decide +kernel
theorem dSt_change_57 : decode kSt_change.2.1 57 = .ok (.iload 5, 2) := by decide +kernel
theorem dSt_change_59 : decode kSt_change.2.1 59 = .ok (.invokevirtual 62, 3) := by decide +kernel
theorem dSt_change_62 : decode kSt_change.2.1 62 = .ok (.iload 4, 2) := by decide +kernel
theorem dSt_change_64 : decode kSt_change.2.1 64 = .ok (.iand, 1) := by decide +kernel
theorem dSt_change_65 : decode kSt_change.2.1 65 = .ok (.iload_n 3, 1) := by decide +kernel
theorem dSt_change_66 : decode kSt_change.2.1 66 = .ok (.ishl, 1) := by decide +kernel
theorem dSt_change_67 : decode kSt_change.2.1 67 = .ok (.ior, 1) := by decide +kernel
theorem dSt_change_68 : decode kSt_change.2.1 68 = .ok (.iastore, 1) := by decide +kernel
theorem dSt_change_69 : decode kSt_change.2.1 69 = .ok (.iinc 5 1, 3) := by decide +kernel
theorem dSt_change_72 : decode kSt_change.2.1 72 = .ok (.goto (-45), 3) := by decide +kernel
theorem dSt_change_75 : decode kSt_change.2.1 75 = .ok (.aload_n 2, 1) := by decide +kernel
theorem dSt_change_76 : decode kSt_change.2.1 76 = .ok (.invokevirtual 67, 3) := by decide +kernel
theorem dSt_change_79 : decode kSt_change.2.1 79 = .ok (.return_, 1) := by decide +kernel
theorem dSt_caseOf_0 : decode kSt_caseOf.2.1 0 = .ok (.iload_n 1, 1) := by decide +kernel
theorem dSt_caseOf_1 : decode kSt_caseOf.2.1 1 = .ok (.aload_n 0, 1) := by decide +kernel
theorem dSt_caseOf_2 : decode kSt_caseOf.2.1 2 = .ok (.getfield 33, 3) := by decide +kernel
theorem dSt_caseOf_5 : decode kSt_caseOf.2.1 5 = .ok (.getfield 46, 3) := by decide +kernel
theorem dSt_caseOf_8 : decode kSt_caseOf.2.1 8 = .ok (.ishl, 1) := by decide +kernel
theorem dSt_caseOf_9 : decode kSt_caseOf.2.1 9 = .ok (.iload_n 2, 1) := by decide +kernel
theorem dSt_caseOf_10 : decode kSt_caseOf.2.1 10 = .ok (.ior, 1) := by decide +kernel
theorem dSt_caseOf_11 : decode kSt_caseOf.2.1 11 = .ok (.ireturn, 1) := by decide +kernel
theorem dSt_finish_0 : decode kSt_finish.2.1 0 = .ok (.aload_n 0, 1) := by decide +kernel
theorem dSt_finish_1 : decode kSt_finish.2.1 1 = .ok (.invokevirtual 70, 3) := by decide +kernel
theorem dSt_finish_4 : decode kSt_finish.2.1 4 = .ok (.aload_n 0, 1) := by decide +kernel
theorem dSt_finish_5 : decode kSt_finish.2.1 5 = .ok (.invokevirtual 73, 3) := by decide +kernel
theorem dSt_finish_8 : decode kSt_finish.2.1 8 = .ok (.return_, 1) := by decide +kernel
theorem dSt_turnBack_0 : decode kSt_turnBack.2.1 0 = .ok (.aload_n 0, 1) := by decide +kernel
theorem dSt_turnBack_1 : decode kSt_turnBack.2.1 1 = .ok (.getfield 18, 3) := by decide +kernel
theorem dSt_turnBack_4 : decode kSt_turnBack.2.1 4 = .ok (.iconst 0, 1) := by decide +kernel
theorem dSt_turnBack_5 : decode kSt_turnBack.2.1 5 = .ok (.invokestatic 76, 3) := by decide +kernel
theorem dSt_turnBack_8 : decode kSt_turnBack.2.1 8 = .ok (.iconst 0, 1) := by decide +kernel
theorem dSt_turnBack_9 : decode kSt_turnBack.2.1 9 = .ok (.istore_n 1, 1) := by decide +kernel
theorem dSt_turnBack_10 : decode kSt_turnBack.2.1 10 = .ok (.iload_n 1, 1) := by decide +kernel
theorem dSt_turnBack_11 : decode kSt_turnBack.2.1 11 = .ok (.aload_n 0, 1) := by decide +kernel
theorem dSt_turnBack_12 : decode kSt_turnBack.2.1 12 = .ok (.getfield 52, 3) := by decide +kernel
theorem dSt_turnBack_15 : decode kSt_turnBack.2.1 15 = .ok (.if_icmp .ge 24, 3) := by decide +kernel
theorem dSt_turnBack_18 : decode kSt_turnBack.2.1 18 = .ok (.aload_n 0, 1) := by decide +kernel
theorem dSt_turnBack_19 : decode kSt_turnBack.2.1 19 = .ok (.getfield 18, 3) := by decide +kernel
theorem dSt_turnBack_22 : decode kSt_turnBack.2.1 22 = .ok (.aload_n 0, 1) := by decide +kernel
theorem dSt_turnBack_23 : decode kSt_turnBack.2.1 23 = .ok (.getfield 9, 3) := by decide +kernel
theorem dSt_turnBack_26 : decode kSt_turnBack.2.1 26 = .ok (.iload_n 1, 1) := by decide +kernel
theorem dSt_turnBack_27 : decode kSt_turnBack.2.1 27 = .ok (.iaload, 1) := by decide +kernel
theorem dSt_turnBack_28 : decode kSt_turnBack.2.1 28 = .ok (.dup2, 1) := by decide +kernel
theorem dSt_turnBack_29 : decode kSt_turnBack.2.1 29 = .ok (.iaload, 1) := by decide +kernel
theorem dSt_turnBack_30 : decode kSt_turnBack.2.1 30 = .ok (.iconst 1, 1) := by decide +kernel
theorem dSt_turnBack_31 : decode kSt_turnBack.2.1 31 = .ok (.iadd, 1) := by decide +kernel
theorem dSt_turnBack_32 : decode kSt_turnBack.2.1 32 = .ok (.iastore, 1) := by decide +kernel
theorem dSt_turnBack_33 : decode kSt_turnBack.2.1 33 = .ok (.iinc 1 1, 3) := by decide +kernel
theorem dSt_turnBack_36 : decode kSt_turnBack.2.1 36 = .ok (.goto (-26), 3) := by decide +kernel
theorem dSt_turnBack_39 : decode kSt_turnBack.2.1 39 = .ok (.iconst 1, 1) := by decide +kernel
theorem dSt_turnBack_40 : decode kSt_turnBack.2.1 40 = .ok (.istore_n 1, 1) := by decide +kernel
theorem dSt_turnBack_41 : decode kSt_turnBack.2.1 41 = .ok (.iload_n 1, 1) := by decide +kernel
theorem dSt_turnBack_42 : decode kSt_turnBack.2.1 42 = .ok (.aload_n 0, 1) := by decide +kernel
theorem dSt_turnBack_43 : decode kSt_turnBack.2.1 43 = .ok (.getfield 43, 3) := by decide +kernel
theorem dSt_turnBack_46 : decode kSt_turnBack.2.1 46 = .ok (.if_icmp .gt 26, 3) := by decide +kernel
theorem dSt_turnBack_49 : decode kSt_turnBack.2.1 49 = .ok (.aload_n 0, 1) := by decide +kernel
theorem dSt_turnBack_50 : decode kSt_turnBack.2.1 50 = .ok (.getfield 18, 3) := by decide +kernel
theorem dSt_turnBack_53 : decode kSt_turnBack.2.1 53 = .ok (.iload_n 1, 1) := by decide +kernel
theorem dSt_turnBack_54 : decode kSt_turnBack.2.1 54 = .ok (.dup2, 1) := by decide +kernel
theorem dSt_turnBack_55 : decode kSt_turnBack.2.1 55 = .ok (.iaload, 1) := by decide +kernel
theorem dSt_turnBack_56 : decode kSt_turnBack.2.1 56 = .ok (.aload_n 0, 1) := by decide +kernel
theorem dSt_turnBack_57 : decode kSt_turnBack.2.1 57 = .ok (.getfield 18, 3) := by decide +kernel
theorem dSt_turnBack_60 : decode kSt_turnBack.2.1 60 = .ok (.iload_n 1, 1) := by decide +kernel
theorem dSt_turnBack_61 : decode kSt_turnBack.2.1 61 = .ok (.iconst 1, 1) := by decide +kernel
theorem dSt_turnBack_62 : decode kSt_turnBack.2.1 62 = .ok (.isub, 1) := by decide +kernel
theorem dSt_turnBack_63 : decode kSt_turnBack.2.1 63 = .ok (.iaload, 1) := by decide +kernel
theorem dSt_turnBack_64 : decode kSt_turnBack.2.1 64 = .ok (.iadd, 1) := by decide +kernel
theorem dSt_turnBack_65 : decode kSt_turnBack.2.1 65 = .ok (.iastore, 1) := by decide +kernel
theorem dSt_turnBack_66 : decode kSt_turnBack.2.1 66 = .ok (.iinc 1 1, 3) := by decide +kernel
theorem dSt_turnBack_69 : decode kSt_turnBack.2.1 69 = .ok (.goto (-28), 3) := by decide +kernel
theorem dSt_turnBack_72 : decode kSt_turnBack.2.1 72 = .ok (.iconst 0, 1) := by decide +kernel
theorem dSt_turnBack_73 : decode kSt_turnBack.2.1 73 = .ok (.istore_n 1, 1) := by decide +kernel
theorem dSt_turnBack_74 : decode kSt_turnBack.2.1 74 = .ok (.iload_n 1, 1) := by decide +kernel
theorem dSt_turnBack_75 : decode kSt_turnBack.2.1 75 = .ok (.aload_n 0, 1) := by decide +kernel
theorem dSt_turnBack_76 : decode kSt_turnBack.2.1 76 = .ok (.getfield 52, 3) := by decide +kernel
theorem dSt_turnBack_79 : decode kSt_turnBack.2.1 79 = .ok (.if_icmp .ge 49, 3) := by decide +kernel
theorem dSt_turnBack_82 : decode kSt_turnBack.2.1 82 = .ok (.aload_n 0, 1) := by decide +kernel
theorem dSt_turnBack_83 : decode kSt_turnBack.2.1 83 = .ok (.getfield 18, 3) := by decide +kernel
theorem dSt_turnBack_86 : decode kSt_turnBack.2.1 86 = .ok (.aload_n 0, 1) := by decide +kernel
theorem dSt_turnBack_87 : decode kSt_turnBack.2.1 87 = .ok (.getfield 9, 3) := by decide +kernel
theorem dSt_turnBack_90 : decode kSt_turnBack.2.1 90 = .ok (.iload_n 1, 1) := by decide +kernel
theorem dSt_turnBack_91 : decode kSt_turnBack.2.1 91 = .ok (.iaload, 1) := by decide +kernel
theorem dSt_turnBack_92 : decode kSt_turnBack.2.1 92 = .ok (.dup2, 1) := by decide +kernel
theorem dSt_turnBack_93 : decode kSt_turnBack.2.1 93 = .ok (.iaload, 1) := by decide +kernel
theorem dSt_turnBack_94 : decode kSt_turnBack.2.1 94 = .ok (.iconst 1, 1) := by decide +kernel
theorem dSt_turnBack_95 : decode kSt_turnBack.2.1 95 = .ok (.isub, 1) := by decide +kernel
theorem dSt_turnBack_96 : decode kSt_turnBack.2.1 96 = .ok (.iastore, 1) := by decide +kernel
theorem dSt_turnBack_97 : decode kSt_turnBack.2.1 97 = .ok (.aload_n 0, 1) := by decide +kernel
theorem dSt_turnBack_98 : decode kSt_turnBack.2.1 98 = .ok (.getfield 15, 3) := by decide +kernel
theorem dSt_turnBack_101 : decode kSt_turnBack.2.1 101 = .ok (.aload_n 0, 1) := by decide +kernel
theorem dSt_turnBack_102 : decode kSt_turnBack.2.1 102 = .ok (.getfield 18, 3) := by decide +kernel
theorem dSt_turnBack_105 : decode kSt_turnBack.2.1 105 = .ok (.aload_n 0, 1) := by decide +kernel
theorem dSt_turnBack_106 : decode kSt_turnBack.2.1 106 = .ok (.getfield 9, 3) := by decide +kernel
theorem dSt_turnBack_109 : decode kSt_turnBack.2.1 109 = .ok (.iload_n 1, 1) := by decide +kernel
theorem dSt_turnBack_110 : decode kSt_turnBack.2.1 110 = .ok (.iaload, 1) := by decide +kernel
theorem dSt_turnBack_111 : decode kSt_turnBack.2.1 111 = .ok (.iaload, 1) := by decide +kernel
theorem dSt_turnBack_112 : decode kSt_turnBack.2.1 112 = .ok (.iload_n 1, 1) := by decide +kernel
theorem dSt_turnBack_113 : decode kSt_turnBack.2.1 113 = .ok (.aload_n 0, 1) := by decide +kernel
theorem dSt_turnBack_114 : decode kSt_turnBack.2.1 114 = .ok (.getfield 33, 3) := by decide +kernel
theorem dSt_turnBack_117 : decode kSt_turnBack.2.1 117 = .ok (.getfield 46, 3) := by decide +kernel
theorem dSt_turnBack_120 : decode kSt_turnBack.2.1 120 = .ok (.ishr, 1) := by decide +kernel
theorem dSt_turnBack_121 : decode kSt_turnBack.2.1 121 = .ok (.iastore, 1) := by decide +kernel
theorem dSt_turnBack_122 : decode kSt_turnBack.2.1 122 = .ok (.iinc 1 1, 3) := by decide +kernel
theorem dSt_turnBack_125 : decode kSt_turnBack.2.1 125 = .ok (.goto (-51), 3) := by decide +kernel
theorem dSt_turnBack_128 : decode kSt_turnBack.2.1 128 = .ok (.return_, 1) := by decide +kernel
theorem dSt_meetAll_0 : decode kSt_meetAll.2.1 0 = .ok (.aload_n 0, 1) := by decide +kernel
theorem dSt_meetAll_1 : decode kSt_meetAll.2.1 1 = .ok (.getfield 24, 3) := by decide +kernel
theorem dSt_meetAll_4 : decode kSt_meetAll.2.1 4 = .ok (.iconst (-1), 1) := by decide +kernel
theorem dSt_meetAll_5 : decode kSt_meetAll.2.1 5 = .ok (.invokestatic 76, 3) := by decide +kernel
theorem dSt_meetAll_8 : decode kSt_meetAll.2.1 8 = .ok (.aload_n 0, 1) := by decide +kernel
theorem dSt_meetAll_9 : decode kSt_meetAll.2.1 9 = .ok (.getfield 21, 3) := by decide +kernel
theorem dSt_meetAll_12 : decode kSt_meetAll.2.1 12 = .ok (.iconst 0, 1) := by decide +kernel
theorem dSt_meetAll_13 : decode kSt_meetAll.2.1 13 = .ok (.aload_n 0, 1) := by decide +kernel
theorem dSt_meetAll_14 : decode kSt_meetAll.2.1 14 = .ok (.getfield 33, 3) := by decide +kernel
theorem dSt_meetAll_17 : decode kSt_meetAll.2.1 17 = .ok (.getfield 82, 3) := by decide +kernel
theorem dSt_meetAll_20 : decode kSt_meetAll.2.1 20 = .ok (.iastore, 1) := by decide +kernel
theorem dSt_meetAll_21 : decode kSt_meetAll.2.1 21 = .ok (.aload_n 0, 1) := by decide +kernel
theorem dSt_meetAll_22 : decode kSt_meetAll.2.1 22 = .ok (.getfield 24, 3) := by decide +kernel
theorem dSt_meetAll_25 : decode kSt_meetAll.2.1 25 = .ok (.aload_n 0, 1) := by decide +kernel
theorem dSt_meetAll_26 : decode kSt_meetAll.2.1 26 = .ok (.getfield 33, 3) := by decide +kernel
theorem dSt_meetAll_29 : decode kSt_meetAll.2.1 29 = .ok (.getfield 82, 3) := by decide +kernel
theorem dSt_meetAll_32 : decode kSt_meetAll.2.1 32 = .ok (.iconst 0, 1) := by decide +kernel
theorem dSt_meetAll_33 : decode kSt_meetAll.2.1 33 = .ok (.iastore, 1) := by decide +kernel
theorem dSt_meetAll_34 : decode kSt_meetAll.2.1 34 = .ok (.aload_n 0, 1) := by decide +kernel
theorem dSt_meetAll_35 : decode kSt_meetAll.2.1 35 = .ok (.iconst 1, 1) := by decide +kernel
theorem dSt_meetAll_36 : decode kSt_meetAll.2.1 36 = .ok (.putfield 85, 3) := by decide +kernel
theorem dSt_meetAll_39 : decode kSt_meetAll.2.1 39 = .ok (.iconst 0, 1) := by decide +kernel
theorem dSt_meetAll_40 : decode kSt_meetAll.2.1 40 = .ok (.istore_n 1, 1) := by decide +kernel
theorem dSt_meetAll_41 : decode kSt_meetAll.2.1 41 = .ok (.iload_n 1, 1) := by decide +kernel
theorem dSt_meetAll_42 : decode kSt_meetAll.2.1 42 = .ok (.aload_n 0, 1) := by decide +kernel
theorem dSt_meetAll_43 : decode kSt_meetAll.2.1 43 = .ok (.getfield 85, 3) := by decide +kernel
theorem dSt_meetAll_46 : decode kSt_meetAll.2.1 46 = .ok (.if_icmp .ge 44, 3) := by decide +kernel
theorem dSt_meetAll_49 : decode kSt_meetAll.2.1 49 = .ok (.iload_n 1, 1) := by decide +kernel
theorem dSt_meetAll_50 : decode kSt_meetAll.2.1 50 = .ok (.aload_n 0, 1) := by decide +kernel
theorem dSt_meetAll_51 : decode kSt_meetAll.2.1 51 = .ok (.getfield 43, 3) := by decide +kernel
theorem dSt_meetAll_54 : decode kSt_meetAll.2.1 54 = .ok (.if_icmp .ge 36, 3) := by decide +kernel
theorem dSt_meetAll_57 : decode kSt_meetAll.2.1 57 = .ok (.iconst 0, 1) := by decide +kernel
theorem dSt_meetAll_58 : decode kSt_meetAll.2.1 58 = .ok (.istore_n 2, 1) := by decide +kernel
theorem dSt_meetAll_59 : decode kSt_meetAll.2.1 59 = .ok (.iload_n 2, 1) := by decide +kernel
theorem dSt_meetAll_60 : decode kSt_meetAll.2.1 60 = .ok (.aload_n 0, 1) := by decide +kernel
theorem dSt_meetAll_61 : decode kSt_meetAll.2.1 61 = .ok (.getfield 49, 3) := by decide +kernel
theorem dSt_meetAll_64 : decode kSt_meetAll.2.1 64 = .ok (.if_icmp .ge 20, 3) := by decide +kernel
theorem dSt_meetAll_67 : decode kSt_meetAll.2.1 67 = .ok (.aload_n 0, 1) := by decide +kernel
theorem dSt_meetAll_68 : decode kSt_meetAll.2.1 68 = .ok (.aload_n 0, 1) := by decide +kernel
theorem dSt_meetAll_69 : decode kSt_meetAll.2.1 69 = .ok (.getfield 21, 3) := by decide +kernel
theorem dSt_meetAll_72 : decode kSt_meetAll.2.1 72 = .ok (.iload_n 1, 1) := by decide +kernel
theorem dSt_meetAll_73 : decode kSt_meetAll.2.1 73 = .ok (.iaload, 1) := by decide +kernel
theorem dSt_meetAll_74 : decode kSt_meetAll.2.1 74 = .ok (.iload_n 2, 1) := by decide +kernel
theorem dSt_meetAll_75 : decode kSt_meetAll.2.1 75 = .ok (.invokevirtual 88, 3) := by decide +kernel
theorem dSt_meetAll_78 : decode kSt_meetAll.2.1 78 = .ok (.iinc 2 1, 3) := by decide +kernel
theorem dSt_meetAll_81 : decode kSt_meetAll.2.1 81 = .ok (.goto (-22), 3) := by decide +kernel
theorem dSt_meetAll_84 : decode kSt_meetAll.2.1 84 = .ok (.iinc 1 1, 3) := by decide +kernel
theorem dSt_meetAll_87 : decode kSt_meetAll.2.1 87 = .ok (.goto (-46), 3) := by decide +kernel
theorem dSt_meetAll_90 : decode kSt_meetAll.2.1 90 = .ok (.return_, 1) := by decide +kernel
theorem dSt_meet_0 : decode kSt_meet.2.1 0 = .ok (.aload_n 0, 1) := by decide +kernel
theorem dSt_meet_1 : decode kSt_meet.2.1 1 = .ok (.getfield 9, 3) := by decide +kernel
theorem dSt_meet_4 : decode kSt_meet.2.1 4 = .ok (.aload_n 0, 1) := by decide +kernel
theorem dSt_meet_5 : decode kSt_meet.2.1 5 = .ok (.iload_n 1, 1) := by decide +kernel
theorem dSt_meet_6 : decode kSt_meet.2.1 6 = .ok (.iload_n 2, 1) := by decide +kernel
theorem dSt_meet_7 : decode kSt_meet.2.1 7 = .ok (.invokevirtual 92, 3) := by decide +kernel
theorem dSt_meet_10 : decode kSt_meet.2.1 10 = .ok (.iaload, 1) := by decide +kernel
theorem dSt_meet_11 : decode kSt_meet.2.1 11 = .ok (.istore_n 3, 1) := by decide +kernel
theorem dSt_meet_12 : decode kSt_meet.2.1 12 = .ok (.aload_n 0, 1) := by decide +kernel
theorem dSt_meet_13 : decode kSt_meet.2.1 13 = .ok (.getfield 24, 3) := by decide +kernel
theorem dSt_meet_16 : decode kSt_meet.2.1 16 = .ok (.iload_n 3, 1) := by decide +kernel
theorem dSt_meet_17 : decode kSt_meet.2.1 17 = .ok (.iaload, 1) := by decide +kernel
theorem dSt_meet_18 : decode kSt_meet.2.1 18 = .ok (.ifCond .ge 61, 3) := by decide +kernel
theorem dSt_meet_21 : decode kSt_meet.2.1 21 = .ok (.aload_n 0, 1) := by decide +kernel
theorem dSt_meet_22 : decode kSt_meet.2.1 22 = .ok (.getfield 85, 3) := by decide +kernel
theorem dSt_meet_25 : decode kSt_meet.2.1 25 = .ok (.sipush 256, 3) := by decide +kernel
theorem dSt_meet_28 : decode kSt_meet.2.1 28 = .ok (.if_icmp .ge 51, 3) := by decide +kernel
theorem dSt_meet_31 : decode kSt_meet.2.1 31 = .ok (.aload_n 0, 1) := by decide +kernel
theorem dSt_meet_32 : decode kSt_meet.2.1 32 = .ok (.getfield 24, 3) := by decide +kernel
theorem dSt_meet_35 : decode kSt_meet.2.1 35 = .ok (.iload_n 3, 1) := by decide +kernel
theorem dSt_meet_36 : decode kSt_meet.2.1 36 = .ok (.aload_n 0, 1) := by decide +kernel
theorem dSt_meet_37 : decode kSt_meet.2.1 37 = .ok (.getfield 24, 3) := by decide +kernel
theorem dSt_meet_40 : decode kSt_meet.2.1 40 = .ok (.iload_n 1, 1) := by decide +kernel
theorem dSt_meet_41 : decode kSt_meet.2.1 41 = .ok (.iaload, 1) := by decide +kernel
theorem dSt_meet_42 : decode kSt_meet.2.1 42 = .ok (.iconst 1, 1) := by decide +kernel
theorem dSt_meet_43 : decode kSt_meet.2.1 43 = .ok (.iadd, 1) := by decide +kernel
theorem dSt_meet_44 : decode kSt_meet.2.1 44 = .ok (.iastore, 1) := by decide +kernel
theorem dSt_meet_45 : decode kSt_meet.2.1 45 = .ok (.aload_n 0, 1) := by decide +kernel
theorem dSt_meet_46 : decode kSt_meet.2.1 46 = .ok (.getfield 27, 3) := by decide +kernel
theorem dSt_meet_49 : decode kSt_meet.2.1 49 = .ok (.iload_n 3, 1) := by decide +kernel
theorem dSt_meet_50 : decode kSt_meet.2.1 50 = .ok (.iload_n 1, 1) := by decide +kernel
theorem dSt_meet_51 : decode kSt_meet.2.1 51 = .ok (.iastore, 1) := by decide +kernel
theorem dSt_meet_52 : decode kSt_meet.2.1 52 = .ok (.aload_n 0, 1) := by decide +kernel
theorem dSt_meet_53 : decode kSt_meet.2.1 53 = .ok (.getfield 30, 3) := by decide +kernel
theorem dSt_meet_56 : decode kSt_meet.2.1 56 = .ok (.iload_n 3, 1) := by decide +kernel
theorem dSt_meet_57 : decode kSt_meet.2.1 57 = .ok (.iload_n 2, 1) := by decide +kernel
theorem dSt_meet_58 : decode kSt_meet.2.1 58 = .ok (.iastore, 1) := by decide +kernel
theorem dSt_meet_59 : decode kSt_meet.2.1 59 = .ok (.aload_n 0, 1) := by decide +kernel
theorem dSt_meet_60 : decode kSt_meet.2.1 60 = .ok (.getfield 21, 3) := by decide +kernel
theorem dSt_meet_63 : decode kSt_meet.2.1 63 = .ok (.aload_n 0, 1) := by decide +kernel
theorem dSt_meet_64 : decode kSt_meet.2.1 64 = .ok (.getfield 85, 3) := by decide +kernel
theorem dSt_meet_67 : decode kSt_meet.2.1 67 = .ok (.iload_n 3, 1) := by decide +kernel
theorem dSt_meet_68 : decode kSt_meet.2.1 68 = .ok (.iastore, 1) := by decide +kernel
theorem dSt_meet_69 : decode kSt_meet.2.1 69 = .ok (.aload_n 0, 1) := by decide +kernel
theorem dSt_meet_70 : decode kSt_meet.2.1 70 = .ok (.dup, 1) := by decide +kernel
theorem dSt_meet_71 : decode kSt_meet.2.1 71 = .ok (.getfield 85, 3) := by decide +kernel
theorem dSt_meet_74 : decode kSt_meet.2.1 74 = .ok (.iconst 1, 1) := by decide +kernel
theorem dSt_meet_75 : decode kSt_meet.2.1 75 = .ok (.iadd, 1) := by decide +kernel
theorem dSt_meet_76 : decode kSt_meet.2.1 76 = .ok (.putfield 85, 3) := by decide +kernel
theorem dSt_meet_79 : decode kSt_meet.2.1 79 = .ok (.return_, 1) := by decide +kernel
theorem fSt_9 : pm_Fl "CircuitChecker$Steps" 9 7 4 true := ⟨_, _, _, rfl, by decide, by decide +kernel, pW7, Or.inl (pm_in 256 (by decide +kernel) rfl)⟩ -- next
theorem sSt_9 : pm_Fs "CircuitChecker$Steps" 7 4 (.array .int) true := ⟨_, _, _, pY7, rfl, pY7_ok, pN7_ok, rfl, rfl, fun _ => rfl⟩
theorem fSt_15 : pm_Fl "CircuitChecker$Steps" 15 7 5 true := ⟨_, _, _, rfl, by decide, by decide +kernel, pW7, Or.inl (pm_in 259 (by decide +kernel) rfl)⟩ -- into
theorem sSt_15 : pm_Fs "CircuitChecker$Steps" 7 5 (.array .int) true := ⟨_, _, _, pY7, rfl, pY7_ok, pN7_ok, rfl, rfl, fun _ => rfl⟩
theorem fSt_18 : pm_Fl "CircuitChecker$Steps" 18 7 6 true := ⟨_, _, _, rfl, by decide, by decide +kernel, pW7, Or.inl (pm_in 261 (by decide +kernel) rfl)⟩ -- intoFrom
theorem sSt_18 : pm_Fs "CircuitChecker$Steps" 7 6 (.array .int) true := ⟨_, _, _, pY7, rfl, pY7_ok, pN7_ok, rfl, rfl, fun _ => rfl⟩
theorem fSt_21 : pm_Fl "CircuitChecker$Steps" 21 7 7 true := ⟨_, _, _, rfl, by decide, by decide +kernel, pW7, Or.inl (pm_in 263 (by decide +kernel) rfl)⟩ -- order
theorem sSt_21 : pm_Fs "CircuitChecker$Steps" 7 7 (.array .int) true := ⟨_, _, _, pY7, rfl, pY7_ok, pN7_ok, rfl, rfl, fun _ => rfl⟩
theorem fSt_24 : pm_Fl "CircuitChecker$Steps" 24 7 9 true := ⟨_, _, _, rfl, by decide, by decide +kernel, pW7, Or.inl (pm_in 267 (by decide +kernel) rfl)⟩ -- distance
theorem sSt_24 : pm_Fs "CircuitChecker$Steps" 7 9 (.array .int) true := ⟨_, _, _, pY7, rfl, pY7_ok, pN7_ok, rfl, rfl, fun _ => rfl⟩
theorem fSt_27 : pm_Fl "CircuitChecker$Steps" 27 7 10 true := ⟨_, _, _, rfl, by decide, by decide +kernel, pW7, Or.inl (pm_in 269 (by decide +kernel) rfl)⟩ -- before
theorem sSt_27 : pm_Fs "CircuitChecker$Steps" 7 10 (.array .int) true := ⟨_, _, _, pY7, rfl, pY7_ok, pN7_ok, rfl, rfl, fun _ => rfl⟩
theorem fSt_30 : pm_Fl "CircuitChecker$Steps" 30 7 11 true := ⟨_, _, _, rfl, by decide, by decide +kernel, pW7, Or.inl (pm_in 271 (by decide +kernel) rfl)⟩ -- inputs
theorem sSt_30 : pm_Fs "CircuitChecker$Steps" 7 11 (.array .int) true := ⟨_, _, _, pY7, rfl, pY7_ok, pN7_ok, rfl, rfl, fun _ => rfl⟩
theorem fSt_33 : pm_Fl "CircuitChecker$Steps" 33 7 0 true := ⟨_, _, _, rfl, by decide, by decide +kernel, pW7, Or.inl (pm_in 248 (by decide +kernel) rfl)⟩ -- circuit
theorem sSt_33 : pm_Fs "CircuitChecker$Steps" 7 0 (.object "CircuitChecker$Circuit") true := ⟨_, _, _, pY7, rfl, pY7_ok, pN7_ok, rfl, rfl, fun _ => rfl⟩
theorem fSt_37 : pm_Fl "CircuitChecker$Steps" 37 2 7 false := ⟨_, _, _, rfl, by decide, by decide +kernel, pW2, Or.inr ⟨"CircuitChecker", pm_inN 105 (by decide +kernel) rfl⟩⟩ -- regBits
theorem sSt_37 : pm_Fs "CircuitChecker$Steps" 2 7 .int false := ⟨_, _, _, pY2, rfl, pY2_ok, pN2_ok, rfl, rfl, fun h => by cases h⟩
theorem fSt_43 : pm_Fl "CircuitChecker$Steps" 43 7 1 false := ⟨_, _, _, rfl, by decide, by decide +kernel, pW7, Or.inl (pm_in 249 (by decide +kernel) rfl)⟩ -- stateCount
theorem sSt_43 : pm_Fs "CircuitChecker$Steps" 7 1 .int false := ⟨_, _, _, pY7, rfl, pY7_ok, pN7_ok, rfl, rfl, fun h => by cases h⟩
theorem fSt_46 : pm_Fl "CircuitChecker$Steps" 46 2 8 false := ⟨_, _, _, rfl, by decide, by decide +kernel, pW2, Or.inr ⟨"CircuitChecker", pm_inN 112 (by decide +kernel) rfl⟩⟩ -- inputBits
theorem sSt_46 : pm_Fs "CircuitChecker$Steps" 2 8 .int false := ⟨_, _, _, pY2, rfl, pY2_ok, pN2_ok, rfl, rfl, fun h => by cases h⟩
theorem fSt_49 : pm_Fl "CircuitChecker$Steps" 49 7 2 false := ⟨_, _, _, rfl, by decide, by decide +kernel, pW7, Or.inl (pm_in 252 (by decide +kernel) rfl)⟩ -- choices
theorem sSt_49 : pm_Fs "CircuitChecker$Steps" 7 2 .int false := ⟨_, _, _, pY7, rfl, pY7_ok, pN7_ok, rfl, rfl, fun h => by cases h⟩
theorem fSt_52 : pm_Fl "CircuitChecker$Steps" 52 7 3 false := ⟨_, _, _, rfl, by decide, by decide +kernel, pW7, Or.inl (pm_in 255 (by decide +kernel) rfl)⟩ -- cases
theorem sSt_52 : pm_Fs "CircuitChecker$Steps" 7 3 .int false := ⟨_, _, _, pY7, rfl, pY7_ok, pN7_ok, rfl, rfl, fun h => by cases h⟩
theorem fSt_59 : pm_Fl "CircuitChecker$Steps" 59 2 1 true := ⟨_, _, _, rfl, by decide, by decide +kernel, pW2, Or.inr ⟨"CircuitChecker", pm_inN 87 (by decide +kernel) rfl⟩⟩ -- bits
theorem fSt_82 : pm_Fl "CircuitChecker$Steps" 82 2 10 false := ⟨_, _, _, rfl, by decide, by decide +kernel, pW2, Or.inr ⟨"CircuitChecker", pm_inN 120 (by decide +kernel) rfl⟩⟩ -- first
theorem sSt_82 : pm_Fs "CircuitChecker$Steps" 2 10 .int false := ⟨_, _, _, pY2, rfl, pY2_ok, pN2_ok, rfl, rfl, fun h => by cases h⟩
theorem fSt_85 : pm_Fl "CircuitChecker$Steps" 85 7 8 false := ⟨_, _, _, rfl, by decide, by decide +kernel, pW7, Or.inl (pm_in 265 (by decide +kernel) rfl)⟩ -- met
theorem sSt_85 : pm_Fs "CircuitChecker$Steps" 7 8 .int false := ⟨_, _, _, pY7, rfl, pY7_ok, pN7_ok, rfl, rfl, fun h => by cases h⟩
theorem wSt_init : Cond.code kSt_init.1 kSt_init.2.1 kSt_init.2.2.1 kSt_init.2.2.2 ∈ pm_TS := pm_in 246 (by decide +kernel) rfl
theorem iSt_init : kSt_init.1.name = "<init>" ∧ kSt_init.2.2.2 = none ∧ Cond.instanceMethod kSt_init.1 ∈ pm_TS := ⟨rfl, rfl, pm_in 245 (by decide +kernel) rfl⟩
theorem wSt_begin : Cond.code kSt_begin.1 kSt_begin.2.1 kSt_begin.2.2.1 kSt_begin.2.2.2 ∈ pm_TS := pm_in 353 (by decide +kernel) rfl
theorem vSt_begin : pm_Vt kSt_begin := ⟨pm_in 351 (by decide +kernel) rfl, pm_in 352 (by decide +kernel) rfl⟩
theorem wSt_change : Cond.code kSt_change.1 kSt_change.2.1 kSt_change.2.2.1 kSt_change.2.2.2 ∈ pm_TS := pm_in 380 (by decide +kernel) rfl
theorem vSt_change : pm_Vt kSt_change := ⟨pm_in 378 (by decide +kernel) rfl, pm_in 379 (by decide +kernel) rfl⟩
theorem wSt_caseOf : Cond.code kSt_caseOf.1 kSt_caseOf.2.1 kSt_caseOf.2.2.1 kSt_caseOf.2.2.2 ∈ pm_TS := pm_in 417 (by decide +kernel) rfl
theorem vSt_caseOf : pm_Vt kSt_caseOf := ⟨pm_in 415 (by decide +kernel) rfl, pm_in 416 (by decide +kernel) rfl⟩
theorem wSt_finish : Cond.code kSt_finish.1 kSt_finish.2.1 kSt_finish.2.2.1 kSt_finish.2.2.2 ∈ pm_TS := pm_in 557 (by decide +kernel) rfl
theorem vSt_finish : pm_Vt kSt_finish := ⟨pm_in 555 (by decide +kernel) rfl, pm_in 556 (by decide +kernel) rfl⟩
theorem wSt_turnBack : Cond.code kSt_turnBack.1 kSt_turnBack.2.1 kSt_turnBack.2.2.1 kSt_turnBack.2.2.2 ∈ pm_TS := pm_in 561 (by decide +kernel) rfl
theorem vSt_turnBack : pm_Vt kSt_turnBack := ⟨pm_in 560 (by decide +kernel) rfl, pm_inS (q := (kSt_turnBack.1, 12)) 27 (by decide +kernel)⟩
theorem wSt_meetAll : Cond.code kSt_meetAll.1 kSt_meetAll.2.1 kSt_meetAll.2.2.1 kSt_meetAll.2.2.2 ∈ pm_TS := pm_in 568 (by decide +kernel) rfl
theorem vSt_meetAll : pm_Vt kSt_meetAll := ⟨pm_in 567 (by decide +kernel) rfl, pm_inS (q := (kSt_meetAll.1, 12)) 28 (by decide +kernel)⟩
theorem wSt_meet : Cond.code kSt_meet.1 kSt_meet.2.1 kSt_meet.2.2.1 kSt_meet.2.2.2 ∈ pm_TS := pm_in 572 (by decide +kernel) rfl
theorem vSt_meet : pm_Vt kSt_meet := ⟨pm_in 571 (by decide +kernel) rfl, pm_inS (q := (kSt_meet.1, 12)) 29 (by decide +kernel)⟩
/-! CircuitChecker$Claims: cards, decoded instructions, links -/
def kCm_init : pmK := (⟨"CircuitChecker$Claims", "<init>", "(LCircuitChecker$Steps;)V"⟩, prog_3_method_1_code, 2, none)
def kCm_test : pmK := (⟨"CircuitChecker$Claims", "test", "(LCircuitChecker$Values;)V"⟩, prog_3_method_5_code, 4, none)
def kCm_pushEmpty : pmK := (⟨"CircuitChecker$Claims", "pushEmpty", "()I"⟩, prog_3_method_16_code, 1, (some .int))
def kCm_last : pmK := (⟨"CircuitChecker$Claims", "last", "()I"⟩, prog_3_method_18_code, 1, (some .int))
def kCm_empty : pmK := (⟨"CircuitChecker$Claims", "empty", "(I)V"⟩, prog_3_method_19_code, 3, none)
def kCm_isTrueWithAllInputs : pmK := (⟨"CircuitChecker$Claims", "isTrueWithAllInputs", "(LCircuitChecker$Values;I)Z"⟩, prog_3_method_6_code, 4, (some .boolean))
def kCm_put : pmK := (⟨"CircuitChecker$Claims", "put", "(II)V"⟩, prog_3_method_23_code, 3, none)
def kCm_perform : pmK := (⟨"CircuitChecker$Claims", "perform", "(II)V"⟩, prog_3_method_7_code, 3, none)
def kCm_copy : pmK := (⟨"CircuitChecker$Claims", "copy", "(II)V"⟩, prog_3_method_20_code, 3, none)
def kCm_pop : pmK := (⟨"CircuitChecker$Claims", "pop", "()I"⟩, prog_3_method_17_code, 2, (some .int))
def kCm_turn : pmK := (⟨"CircuitChecker$Claims", "turn", "(I)V"⟩, prog_3_method_21_code, 3, none)
def kCm_join : pmK := (⟨"CircuitChecker$Claims", "join", "(I)V"⟩, prog_3_method_8_code, 5, none)
def kCm_joinUntil : pmK := (⟨"CircuitChecker$Claims", "joinUntil", "(Z)V"⟩, prog_3_method_9_code, 4, none)
def kCm_until : pmK := (⟨"CircuitChecker$Claims", "until", "(ZII)V"⟩, prog_3_method_13_code, 7, none)
def kCm_has : pmK := (⟨"CircuitChecker$Claims", "has", "(II)Z"⟩, prog_3_method_22_code, 3, (some .boolean))
def kCm_enqueue : pmK := (⟨"CircuitChecker$Claims", "enqueue", "(I)V"⟩, prog_3_method_15_code, 2, none)
def kCm_leadBack : pmK := (⟨"CircuitChecker$Claims", "leadBack", "(I)V"⟩, prog_3_method_14_code, 4, none)
def kCm_comeTo : pmK := (⟨"CircuitChecker$Claims", "comeTo", "(I)V"⟩, prog_3_method_10_code, 4, none)
def kCm_allNext : pmK := (⟨"CircuitChecker$Claims", "allNext", "(I)V"⟩, prog_3_method_11_code, 4, none)
def kCm_isAtAllNext : pmK := (⟨"CircuitChecker$Claims", "isAtAllNext", "(II)Z"⟩, prog_3_method_12_code, 4, (some .boolean))
def kCm_begin : pmK := (⟨"CircuitChecker$Claims", "begin", "()V"⟩, prog_3_method_2_code, 2, none)
def kCm_isSo : pmK := (⟨"CircuitChecker$Claims", "isSo", "(II)Z"⟩, prog_3_method_3_code, 3, (some .boolean))
def kCm_sizeOf : pmK := (⟨"CircuitChecker$Claims", "sizeOf", "(I)I"⟩, prog_3_method_4_code, 4, (some .int))
theorem dCm_init_0 : decode kCm_init.2.1 0 = .ok (.aload_n 0, 1) := by decide +kernel
theorem dCm_init_1 : decode kCm_init.2.1 1 = .ok (.invokespecial 5, 3) := by decide +kernel
theorem dCm_init_4 : decode kCm_init.2.1 4 = .ok (.aload_n 0, 1) := by decide +kernel
theorem dCm_init_5 : decode kCm_init.2.1 5 = .ok (.sipush 624, 3) := by decide +kernel
theorem dCm_init_8 : decode kCm_init.2.1 8 = .ok (.newarray .long, 2) := by decide +kernel
theorem dCm_init_10 : decode kCm_init.2.1 10 = .ok (.putfield 11, 3) := by decide +kernel
theorem dCm_init_13 : decode kCm_init.2.1 13 = .ok (.aload_n 0, 1) := by decide +kernel
theorem dCm_init_14 : decode kCm_init.2.1 14 = .ok (.sipush 256, 3) := by decide +kernel
theorem dCm_init_17 : decode kCm_init.2.1 17 = .ok (.newarray .int, 2) := by decide +kernel
theorem dCm_init_19 : decode kCm_init.2.1 19 = .ok (.putfield 15, 3) := by decide +kernel
theorem dCm_init_22 : decode kCm_init.2.1 22 = .ok (.aload_n 0, 1) := by decide +kernel
theorem dCm_init_23 : decode kCm_init.2.1 23 = .ok (.sipush 256, 3) := by decide +kernel
theorem dCm_init_26 : decode kCm_init.2.1 26 = .ok (.newarray .int, 2) := by decide +kernel
theorem dCm_init_28 : decode kCm_init.2.1 28 = .ok (.putfield 19, 3) := by decide +kernel
theorem dCm_init_31 : decode kCm_init.2.1 31 = .ok (.aload_n 0, 1) := by decide +kernel
theorem dCm_init_32 : decode kCm_init.2.1 32 = .ok (.aload_n 1, 1) := by decide +kernel
theorem dCm_init_33 : decode kCm_init.2.1 33 = .ok (.putfield 22, 3) := by decide +kernel
theorem dCm_init_36 : decode kCm_init.2.1 36 = .ok (.return_, 1) := by decide +kernel
theorem dCm_test_0 : decode kCm_test.2.1 0 = .ok (.aload_n 0, 1) := by decide +kernel
theorem dCm_test_1 : decode kCm_test.2.1 1 = .ok (.invokevirtual 53, 3) := by decide +kernel
theorem dCm_test_4 : decode kCm_test.2.1 4 = .ok (.istore_n 2, 1) := by decide +kernel
theorem dCm_test_5 : decode kCm_test.2.1 5 = .ok (.iconst 0, 1) := by decide +kernel
theorem dCm_test_6 : decode kCm_test.2.1 6 = .ok (.istore_n 3, 1) := by decide +kernel
theorem dCm_test_7 : decode kCm_test.2.1 7 = .ok (.iload_n 3, 1) := by decide +kernel
theorem dCm_test_8 : decode kCm_test.2.1 8 = .ok (.aload_n 0, 1) := by decide +kernel
theorem dCm_test_9 : decode kCm_test.2.1 9 = .ok (.getfield 22, 3) := by decide +kernel
theorem dCm_test_12 : decode kCm_test.2.1 12 = .ok (.getfield 34, 3) := by decide +kernel
theorem dCm_test_15 : decode kCm_test.2.1 15 = .ok (.if_icmp .ge 24, 3) := by decide +kernel
theorem dCm_test_18 : decode kCm_test.2.1 18 = .ok (.aload_n 0, 1) := by decide +kernel
theorem dCm_test_19 : decode kCm_test.2.1 19 = .ok (.aload_n 1, 1) := by decide +kernel
theorem dCm_test_20 : decode kCm_test.2.1 20 = .ok (.iload_n 3, 1) := by decide +kernel
theorem dCm_test_21 : decode kCm_test.2.1 21 = .ok (.invokevirtual 57, 3) := by decide +kernel
theorem dCm_test_24 : decode kCm_test.2.1 24 = .ok (.ifCond .eq 9, 3) := by decide +kernel
theorem dCm_test_27 : decode kCm_test.2.1 27 = .ok (.aload_n 0, 1) := by decide +kernel
theorem dCm_test_28 : decode kCm_test.2.1 28 = .ok (.iload_n 2, 1) := by decide +kernel
theorem dCm_test_29 : decode kCm_test.2.1 29 = .ok (.iload_n 3, 1) := by decide +kernel
theorem dCm_test_30 : decode kCm_test.2.1 30 = .ok (.invokevirtual 39, 3) := by decide +kernel
theorem dCm_test_33 : decode kCm_test.2.1 33 = .ok (.iinc 3 1, 3) := by decide +kernel
theorem dCm_test_36 : decode kCm_test.2.1 36 = .ok (.goto (-29), 3) := by decide +kernel
theorem dCm_test_39 : decode kCm_test.2.1 39 = .ok (.aload_n 1, 1) := by decide +kernel
theorem dCm_test_40 : decode kCm_test.2.1 40 = .ok (.invokevirtual 61, 3) := by decide +kernel
theorem dCm_test_43 : decode kCm_test.2.1 43 = .ok (.return_, 1) := by decide +kernel
theorem dCm_pushEmpty_0 : decode kCm_pushEmpty.2.1 0 = .ok (.aload_n 0, 1) := by decide +kernel
theorem dCm_pushEmpty_1 : decode kCm_pushEmpty.2.1 1 = .ok (.getfield 26, 3) := by decide +kernel
theorem dCm_pushEmpty_4 : decode kCm_pushEmpty.2.1 4 = .ok (.iconst 4, 1) := by decide +kernel
theorem dCm_pushEmpty_5 : decode kCm_pushEmpty.2.1 5 = .ok (.iadd, 1) := by decide +kernel
theorem dCm_pushEmpty_6 : decode kCm_pushEmpty.2.1 6 = .ok (.aload_n 0, 1) := by decide +kernel
theorem dCm_pushEmpty_7 : decode kCm_pushEmpty.2.1 7 = .ok (.getfield 11, 3) := by decide +kernel
theorem dCm_pushEmpty_10 : decode kCm_pushEmpty.2.1 10 = .ok (.arraylength, 1) := by decide +kernel
theorem dCm_pushEmpty_11 : decode kCm_pushEmpty.2.1 11 = .ok (.if_icmp .gt 13, 3) := by decide +kernel
theorem dCm_pushEmpty_14 : decode kCm_pushEmpty.2.1 14 = .ok (.aload_n 0, 1) := by decide +kernel
theorem dCm_pushEmpty_15 : decode kCm_pushEmpty.2.1 15 = .ok (.dup, 1) := by decide +kernel
theorem dCm_pushEmpty_16 : decode kCm_pushEmpty.2.1 16 = .ok (.getfield 26, 3) := by decide +kernel
theorem dCm_pushEmpty_19 : decode kCm_pushEmpty.2.1 19 = .ok (.iconst 4, 1) := by decide +kernel
theorem dCm_pushEmpty_20 : decode kCm_pushEmpty.2.1 20 = .ok (.iadd, 1) := by decide +kernel
theorem dCm_pushEmpty_21 : decode kCm_pushEmpty.2.1 21 = .ok (.putfield 26, 3) := by decide +kernel
theorem dCm_pushEmpty_24 : decode kCm_pushEmpty.2.1 24 = .ok (.aload_n 0, 1) := by decide +kernel
theorem dCm_pushEmpty_25 : decode kCm_pushEmpty.2.1 25 = .ok (.aload_n 0, 1) := by decide +kernel
theorem dCm_pushEmpty_26 : decode kCm_pushEmpty.2.1 26 = .ok (.invokevirtual 83, 3) := by decide +kernel
theorem dCm_pushEmpty_29 : decode kCm_pushEmpty.2.1 29 = .ok (.invokevirtual 30, 3) := by decide +kernel
theorem dCm_pushEmpty_32 : decode kCm_pushEmpty.2.1 32 = .ok (.aload_n 0, 1) := by decide +kernel
theorem dCm_pushEmpty_33 : decode kCm_pushEmpty.2.1 33 = .ok (.invokevirtual 83, 3) := by decide +kernel
theorem dCm_pushEmpty_36 : decode kCm_pushEmpty.2.1 36 = .ok (.ireturn, 1) := by decide +kernel
theorem dCm_last_0 : decode kCm_last.2.1 0 = .ok (.aload_n 0, 1) := by decide +kernel
theorem dCm_last_1 : decode kCm_last.2.1 1 = .ok (.getfield 26, 3) := by decide +kernel
theorem dCm_last_4 : decode kCm_last.2.1 4 = .ok (.bipush 124, 2) := by decide +kernel
theorem dCm_last_6 : decode kCm_last.2.1 6 = .ok (.if_icmp .le 12, 3) := by decide +kernel
theorem dCm_last_9 : decode kCm_last.2.1 9 = .ok (.aload_n 0, 1) := by decide +kernel
theorem dCm_last_10 : decode kCm_last.2.1 10 = .ok (.getfield 26, 3) := by decide +kernel
theorem dCm_last_13 : decode kCm_last.2.1 13 = .ok (.iconst 4, 1) := by decide +kernel
theorem dCm_last_14 : decode kCm_last.2.1 14 = .ok (.isub, 1) := by decide +kernel
theorem dCm_last_15 : decode kCm_last.2.1 15 = .ok (.goto 5, 3) := by decide +kernel
theorem dCm_last_18 : decode kCm_last.2.1 18 = .ok (.bipush 124, 2) := by decide +kernel
theorem dCm_last_20 : decode kCm_last.2.1 20 = .ok (.ireturn, 1) := by decide +kernel
theorem dCm_empty_0 : decode kCm_empty.2.1 0 = .ok (.iconst 0, 1) := by decide +kernel
theorem dCm_empty_1 : decode kCm_empty.2.1 1 = .ok (.istore_n 2, 1) := by decide +kernel
theorem dCm_empty_2 : decode kCm_empty.2.1 2 = .ok (.iload_n 2, 1) := by decide +kernel
theorem dCm_empty_3 : decode kCm_empty.2.1 3 = .ok (.iconst 4, 1) := by decide +kernel
theorem dCm_empty_4 : decode kCm_empty.2.1 4 = .ok (.if_icmp .ge 18, 3) := by decide +kernel
theorem dCm_empty_7 : decode kCm_empty.2.1 7 = .ok (.aload_n 0, 1) := by decide +kernel
theorem dCm_empty_8 : decode kCm_empty.2.1 8 = .ok (.getfield 11, 3) := by decide +kernel
theorem dCm_empty_11 : decode kCm_empty.2.1 11 = .ok (.iload_n 1, 1) := by decide +kernel
theorem dCm_empty_12 : decode kCm_empty.2.1 12 = .ok (.iload_n 2, 1) := by decide +kernel
theorem dCm_empty_13 : decode kCm_empty.2.1 13 = .ok (.iadd, 1) := by decide +kernel
theorem dCm_empty_14 : decode kCm_empty.2.1 14 = .ok (.lconst 0, 1) := by decide +kernel
theorem dCm_empty_15 : decode kCm_empty.2.1 15 = .ok (.lastore, 1) := by decide +kernel
theorem dCm_empty_16 : decode kCm_empty.2.1 16 = .ok (.iinc 2 1, 3) := by decide +kernel
theorem dCm_empty_19 : decode kCm_empty.2.1 19 = .ok (.goto (-17), 3) := by decide +kernel
theorem dCm_empty_22 : decode kCm_empty.2.1 22 = .ok (.return_, 1) := by decide +kernel
theorem dCm_isTrueWithAllInputs_0 : decode kCm_isTrueWithAllInputs.2.1 0 = .ok (.iconst 0, 1) := by decide +kernel
theorem dCm_isTrueWithAllInputs_1 : decode kCm_isTrueWithAllInputs.2.1 1 = .ok (.istore_n 3, 1) := by decide +kernel
theorem dCm_isTrueWithAllInputs_2 : decode kCm_isTrueWithAllInputs.2.1 2 = .ok (.iload_n 3, 1) := by decide +kernel
theorem dCm_isTrueWithAllInputs_3 : decode kCm_isTrueWithAllInputs.2.1 3 = .ok (.aload_n 0, 1) := by decide +kernel
theorem dCm_isTrueWithAllInputs_4 : decode kCm_isTrueWithAllInputs.2.1 4 = .ok (.getfield 22, 3) := by decide +kernel
theorem dCm_isTrueWithAllInputs_7 : decode kCm_isTrueWithAllInputs.2.1 7 = .ok (.getfield 66, 3) := by decide +kernel
theorem dCm_isTrueWithAllInputs_10 : decode kCm_isTrueWithAllInputs.2.1 10 = .ok (.if_icmp .ge 27, 3) := by decide +kernel
theorem dCm_isTrueWithAllInputs_13 : decode kCm_isTrueWithAllInputs.2.1 13 = .ok (.aload_n 1, 1) := by decide +kernel
theorem dCm_isTrueWithAllInputs_14 : decode kCm_isTrueWithAllInputs.2.1 14 = .ok (.aload_n 0, 1) := by decide +kernel
theorem dCm_isTrueWithAllInputs_15 : decode kCm_isTrueWithAllInputs.2.1 15 = .ok (.getfield 22, 3) := by decide +kernel
theorem dCm_isTrueWithAllInputs_18 : decode kCm_isTrueWithAllInputs.2.1 18 = .ok (.iload_n 2, 1) := by decide +kernel
theorem dCm_isTrueWithAllInputs_19 : decode kCm_isTrueWithAllInputs.2.1 19 = .ok (.iload_n 3, 1) := by decide +kernel
theorem dCm_isTrueWithAllInputs_20 : decode kCm_isTrueWithAllInputs.2.1 20 = .ok (.invokevirtual 69, 3) := by decide +kernel
theorem dCm_isTrueWithAllInputs_23 : decode kCm_isTrueWithAllInputs.2.1 23 = .ok (.invokevirtual 73, 3) := by decide +kernel
theorem dCm_isTrueWithAllInputs_26 : decode kCm_isTrueWithAllInputs.2.1 26 = .ok (.ifCond .ne 5, 3) := by decide +kernel
theorem dCm_isTrueWithAllInputs_29 : decode kCm_isTrueWithAllInputs.2.1 29 = .ok (.iconst 0, 1) := by decide +kernel
theorem dCm_isTrueWithAllInputs_30 : decode kCm_isTrueWithAllInputs.2.1 30 = .ok (.ireturn, 1) := by decide +kernel
theorem dCm_isTrueWithAllInputs_31 : decode kCm_isTrueWithAllInputs.2.1 31 = .ok (.iinc 3 1, 3) := by decide +kernel
theorem dCm_isTrueWithAllInputs_34 : decode kCm_isTrueWithAllInputs.2.1 34 = .ok (.goto (-32), 3) := by decide +kernel
theorem dCm_isTrueWithAllInputs_37 : decode kCm_isTrueWithAllInputs.2.1 37 = .ok (.iconst 1, 1) := by decide +kernel
theorem dCm_isTrueWithAllInputs_38 : decode kCm_isTrueWithAllInputs.2.1 38 = .ok (.ireturn, 1) := by decide +kernel
theorem dCm_put_0 : decode kCm_put.2.1 0 = .ok (.aload_n 0, 1) := by decide +kernel
theorem dCm_put_1 : decode kCm_put.2.1 1 = .ok (.getfield 11, 3) := by decide +kernel
theorem dCm_put_4 : decode kCm_put.2.1 4 = .ok (.iload_n 1, 1) := by decide +kernel
theorem dCm_put_5 : decode kCm_put.2.1 5 = .ok (.iload_n 2, 1) := by decide +kernel
theorem dCm_put_6 : decode kCm_put.2.1 6 = .ok (.bipush 6, 2) := by decide +kernel
theorem dCm_put_8 : decode kCm_put.2.1 8 = .ok (.ishr, 1) := by decide +kernel
theorem dCm_put_9 : decode kCm_put.2.1 9 = .ok (.iadd, 1) := by decide +kernel
theorem dCm_put_10 : decode kCm_put.2.1 10 = .ok (.dup2, 1) := by decide +kernel
theorem dCm_put_11 : decode kCm_put.2.1 11 = .ok (.laload, 1) := by decide +kernel
theorem dCm_put_12 : decode kCm_put.2.1 12 = .ok (.lconst 1, 1) := by decide +kernel
theorem dCm_put_13 : decode kCm_put.2.1 13 = .ok (.iload_n 2, 1) := by decide +kernel
theorem dCm_put_14 : decode kCm_put.2.1 14 = .ok (.bipush 63, 2) := by decide +kernel
theorem dCm_put_16 : decode kCm_put.2.1 16 = .ok (.iand, 1) := by decide +kernel
theorem dCm_put_17 : decode kCm_put.2.1 17 = .ok (.lshl, 1) := by decide +kernel
theorem dCm_put_18 : decode kCm_put.2.1 18 = .ok (.lor, 1) := by decide +kernel
theorem dCm_put_19 : decode kCm_put.2.1 19 = .ok (.lastore, 1) := by decide +kernel
theorem dCm_put_20 : decode kCm_put.2.1 20 = .ok (.return_, 1) := by decide +kernel
theorem dCm_perform_0 : decode kCm_perform.2.1 0 = .ok (.iload_n 1, 1) := by decide +kernel
theorem dCm_perform_1 : decode kCm_perform.2.1 1 = .ok (.tableswitch 176 33 56 #[125, 158, 158, 176, 176, 176, 176, 176, 176, 176, 176, 176, 176, 176, 176, 176, 176, 176, 176, 111, 139, 150, 150, 150], 111) := by decide +kernel
theorem dCm_perform_112 : decode kCm_perform.2.1 112 = .ok (.aload_n 0, 1) := by decide +kernel
theorem dCm_perform_113 : decode kCm_perform.2.1 113 = .ok (.iload_n 2, 1) := by decide +kernel
theorem dCm_perform_114 : decode kCm_perform.2.1 114 = .ok (.iconst 4, 1) := by decide +kernel
theorem dCm_perform_115 : decode kCm_perform.2.1 115 = .ok (.imul, 1) := by decide +kernel
theorem dCm_perform_116 : decode kCm_perform.2.1 116 = .ok (.aload_n 0, 1) := by decide +kernel
theorem dCm_perform_117 : decode kCm_perform.2.1 117 = .ok (.invokevirtual 53, 3) := by decide +kernel
theorem dCm_perform_120 : decode kCm_perform.2.1 120 = .ok (.invokevirtual 77, 3) := by decide +kernel
theorem dCm_perform_123 : decode kCm_perform.2.1 123 = .ok (.goto 59, 3) := by decide +kernel
theorem dCm_perform_126 : decode kCm_perform.2.1 126 = .ok (.aload_n 0, 1) := by decide +kernel
theorem dCm_perform_127 : decode kCm_perform.2.1 127 = .ok (.aload_n 0, 1) := by decide +kernel
theorem dCm_perform_128 : decode kCm_perform.2.1 128 = .ok (.invokevirtual 80, 3) := by decide +kernel
theorem dCm_perform_131 : decode kCm_perform.2.1 131 = .ok (.iload_n 2, 1) := by decide +kernel
theorem dCm_perform_132 : decode kCm_perform.2.1 132 = .ok (.iconst 4, 1) := by decide +kernel
theorem dCm_perform_133 : decode kCm_perform.2.1 133 = .ok (.imul, 1) := by decide +kernel
theorem dCm_perform_134 : decode kCm_perform.2.1 134 = .ok (.invokevirtual 77, 3) := by decide +kernel
theorem dCm_perform_137 : decode kCm_perform.2.1 137 = .ok (.goto 45, 3) := by decide +kernel
theorem dCm_perform_140 : decode kCm_perform.2.1 140 = .ok (.aload_n 0, 1) := by decide +kernel
theorem dCm_perform_141 : decode kCm_perform.2.1 141 = .ok (.aload_n 0, 1) := by decide +kernel
theorem dCm_perform_142 : decode kCm_perform.2.1 142 = .ok (.invokevirtual 83, 3) := by decide +kernel
theorem dCm_perform_145 : decode kCm_perform.2.1 145 = .ok (.invokevirtual 86, 3) := by decide +kernel
theorem dCm_perform_148 : decode kCm_perform.2.1 148 = .ok (.goto 34, 3) := by decide +kernel
theorem dCm_perform_151 : decode kCm_perform.2.1 151 = .ok (.aload_n 0, 1) := by decide +kernel
theorem dCm_perform_152 : decode kCm_perform.2.1 152 = .ok (.iload_n 1, 1) := by decide +kernel
theorem dCm_perform_153 : decode kCm_perform.2.1 153 = .ok (.invokevirtual 89, 3) := by decide +kernel
theorem dCm_perform_156 : decode kCm_perform.2.1 156 = .ok (.goto 26, 3) := by decide +kernel
theorem dCm_perform_159 : decode kCm_perform.2.1 159 = .ok (.aload_n 0, 1) := by decide +kernel
theorem dCm_perform_160 : decode kCm_perform.2.1 160 = .ok (.iload_n 1, 1) := by decide +kernel
theorem dCm_perform_161 : decode kCm_perform.2.1 161 = .ok (.bipush 34, 2) := by decide +kernel
theorem dCm_perform_163 : decode kCm_perform.2.1 163 = .ok (.if_icmp .ne 7, 3) := by decide +kernel
theorem dCm_perform_166 : decode kCm_perform.2.1 166 = .ok (.iconst 1, 1) := by decide +kernel
theorem dCm_perform_167 : decode kCm_perform.2.1 167 = .ok (.goto 4, 3) := by decide +kernel
theorem dCm_perform_170 : decode kCm_perform.2.1 170 = .ok (.iconst 0, 1) := by decide +kernel
theorem dCm_perform_171 : decode kCm_perform.2.1 171 = .ok (.invokevirtual 92, 3) := by decide +kernel
theorem dCm_perform_174 : decode kCm_perform.2.1 174 = .ok (.goto 8, 3) := by decide +kernel
theorem dCm_perform_177 : decode kCm_perform.2.1 177 = .ok (.aload_n 0, 1) := by decide +kernel
theorem dCm_perform_178 : decode kCm_perform.2.1 178 = .ok (.iload_n 1, 1) := by decide +kernel
theorem dCm_perform_179 : decode kCm_perform.2.1 179 = .ok (.invokevirtual 96, 3) := by decide +kernel
theorem dCm_perform_182 : decode kCm_perform.2.1 182 = .ok (.return_, 1) := by decide +kernel
theorem dCm_copy_0 : decode kCm_copy.2.1 0 = .ok (.aload_n 0, 1) := by decide +kernel
theorem dCm_copy_1 : decode kCm_copy.2.1 1 = .ok (.getfield 11, 3) := by decide +kernel
theorem dCm_copy_4 : decode kCm_copy.2.1 4 = .ok (.iload_n 1, 1) := by decide +kernel
theorem dCm_copy_5 : decode kCm_copy.2.1 5 = .ok (.aload_n 0, 1) := by decide +kernel
theorem dCm_copy_6 : decode kCm_copy.2.1 6 = .ok (.getfield 11, 3) := by decide +kernel
theorem dCm_copy_9 : decode kCm_copy.2.1 9 = .ok (.iload_n 2, 1) := by decide +kernel
theorem dCm_copy_10 : decode kCm_copy.2.1 10 = .ok (.iconst 4, 1) := by decide +kernel
theorem dCm_copy_11 : decode kCm_copy.2.1 11 = .ok (.invokestatic 129, 3) := by decide +kernel
theorem dCm_copy_14 : decode kCm_copy.2.1 14 = .ok (.return_, 1) := by decide +kernel
theorem dCm_pop_0 : decode kCm_pop.2.1 0 = .ok (.aload_n 0, 1) := by decide +kernel
theorem dCm_pop_1 : decode kCm_pop.2.1 1 = .ok (.invokevirtual 83, 3) := by decide +kernel
theorem dCm_pop_4 : decode kCm_pop.2.1 4 = .ok (.istore_n 1, 1) := by decide +kernel
theorem dCm_pop_5 : decode kCm_pop.2.1 5 = .ok (.aload_n 0, 1) := by decide +kernel
theorem dCm_pop_6 : decode kCm_pop.2.1 6 = .ok (.getfield 26, 3) := by decide +kernel
theorem dCm_pop_9 : decode kCm_pop.2.1 9 = .ok (.bipush 124, 2) := by decide +kernel
theorem dCm_pop_11 : decode kCm_pop.2.1 11 = .ok (.if_icmp .le 13, 3) := by decide +kernel
theorem dCm_pop_14 : decode kCm_pop.2.1 14 = .ok (.aload_n 0, 1) := by decide +kernel
theorem dCm_pop_15 : decode kCm_pop.2.1 15 = .ok (.dup, 1) := by decide +kernel
theorem dCm_pop_16 : decode kCm_pop.2.1 16 = .ok (.getfield 26, 3) := by decide +kernel
theorem dCm_pop_19 : decode kCm_pop.2.1 19 = .ok (.iconst 4, 1) := by decide +kernel
theorem dCm_pop_20 : decode kCm_pop.2.1 20 = .ok (.isub, 1) := by decide +kernel
theorem dCm_pop_21 : decode kCm_pop.2.1 21 = .ok (.putfield 26, 3) := by decide +kernel
theorem dCm_pop_24 : decode kCm_pop.2.1 24 = .ok (.iload_n 1, 1) := by decide +kernel
theorem dCm_pop_25 : decode kCm_pop.2.1 25 = .ok (.ireturn, 1) := by decide +kernel
theorem dCm_turn_0 : decode kCm_turn.2.1 0 = .ok (.iconst 0, 1) := by decide +kernel
theorem dCm_turn_1 : decode kCm_turn.2.1 1 = .ok (.istore_n 2, 1) := by decide +kernel
theorem dCm_turn_2 : decode kCm_turn.2.1 2 = .ok (.iload_n 2, 1) := by decide +kernel
theorem dCm_turn_3 : decode kCm_turn.2.1 3 = .ok (.iconst 4, 1) := by decide +kernel
theorem dCm_turn_4 : decode kCm_turn.2.1 4 = .ok (.if_icmp .ge 29, 3) := by decide +kernel
theorem dCm_turn_7 : decode kCm_turn.2.1 7 = .ok (.aload_n 0, 1) := by decide +kernel
theorem dCm_turn_8 : decode kCm_turn.2.1 8 = .ok (.getfield 11, 3) := by decide +kernel
theorem dCm_turn_11 : decode kCm_turn.2.1 11 = .ok (.iload_n 1, 1) := by decide +kernel
theorem dCm_turn_12 : decode kCm_turn.2.1 12 = .ok (.iload_n 2, 1) := by decide +kernel
theorem dCm_turn_13 : decode kCm_turn.2.1 13 = .ok (.iadd, 1) := by decide +kernel
theorem dCm_turn_14 : decode kCm_turn.2.1 14 = .ok (.dup2, 1) := by decide +kernel
theorem dCm_turn_15 : decode kCm_turn.2.1 15 = .ok (.laload, 1) := by decide +kernel
theorem dCm_turn_16 : decode kCm_turn.2.1 16 = .ok (.aload_n 0, 1) := by decide +kernel
theorem dCm_turn_17 : decode kCm_turn.2.1 17 = .ok (.getfield 11, 3) := by decide +kernel
theorem dCm_turn_20 : decode kCm_turn.2.1 20 = .ok (.bipush 120, 2) := by decide +kernel
theorem dCm_turn_22 : decode kCm_turn.2.1 22 = .ok (.iload_n 2, 1) := by decide +kernel
theorem dCm_turn_23 : decode kCm_turn.2.1 23 = .ok (.iadd, 1) := by decide +kernel
theorem dCm_turn_24 : decode kCm_turn.2.1 24 = .ok (.laload, 1) := by decide +kernel
theorem dCm_turn_25 : decode kCm_turn.2.1 25 = .ok (.lxor, 1) := by decide +kernel
theorem dCm_turn_26 : decode kCm_turn.2.1 26 = .ok (.lastore, 1) := by decide +kernel
theorem dCm_turn_27 : decode kCm_turn.2.1 27 = .ok (.iinc 2 1, 3) := by decide +kernel
theorem dCm_turn_30 : decode kCm_turn.2.1 30 = .ok (.goto (-28), 3) := by decide +kernel
theorem dCm_turn_33 : decode kCm_turn.2.1 33 = .ok (.return_, 1) := by decide +kernel
theorem dCm_join_0 : decode kCm_join.2.1 0 = .ok (.aload_n 0, 1) := by decide +kernel
theorem dCm_join_1 : decode kCm_join.2.1 1 = .ok (.invokevirtual 80, 3) := by decide +kernel
theorem dCm_join_4 : decode kCm_join.2.1 4 = .ok (.istore_n 2, 1) := by decide +kernel
theorem dCm_join_5 : decode kCm_join.2.1 5 = .ok (.aload_n 0, 1) := by decide +kernel
theorem dCm_join_6 : decode kCm_join.2.1 6 = .ok (.invokevirtual 83, 3) := by decide +kernel
theorem dCm_join_9 : decode kCm_join.2.1 9 = .ok (.istore_n 3, 1) := by decide +kernel
theorem dCm_join_10 : decode kCm_join.2.1 10 = .ok (.iconst 0, 1) := by decide +kernel
theorem dCm_join_11 : decode kCm_join.2.1 11 = .ok (.istore 4, 2) := by decide +kernel
theorem dCm_join_13 : decode kCm_join.2.1 13 = .ok (.iload 4, 2) := by decide +kernel
theorem dCm_join_15 : decode kCm_join.2.1 15 = .ok (.iconst 4, 1) := by decide +kernel
theorem dCm_join_16 : decode kCm_join.2.1 16 = .ok (.if_icmp .ge 112, 3) := by decide +kernel
theorem dCm_join_19 : decode kCm_join.2.1 19 = .ok (.iload_n 1, 1) := by decide +kernel
theorem dCm_join_20 : decode kCm_join.2.1 20 = .ok (.bipush 54, 2) := by decide +kernel
theorem dCm_join_22 : decode kCm_join.2.1 22 = .ok (.if_icmp .ne 27, 3) := by decide +kernel
theorem dCm_join_25 : decode kCm_join.2.1 25 = .ok (.aload_n 0, 1) := by decide +kernel
theorem dCm_join_26 : decode kCm_join.2.1 26 = .ok (.getfield 11, 3) := by decide +kernel
theorem dCm_join_29 : decode kCm_join.2.1 29 = .ok (.iload_n 3, 1) := by decide +kernel
theorem dCm_join_30 : decode kCm_join.2.1 30 = .ok (.iload 4, 2) := by decide +kernel
theorem dCm_join_32 : decode kCm_join.2.1 32 = .ok (.iadd, 1) := by decide +kernel
theorem dCm_join_33 : decode kCm_join.2.1 33 = .ok (.dup2, 1) := by decide +kernel
theorem dCm_join_34 : decode kCm_join.2.1 34 = .ok (.laload, 1) := by decide +kernel
theorem dCm_join_35 : decode kCm_join.2.1 35 = .ok (.aload_n 0, 1) := by decide +kernel
theorem dCm_join_36 : decode kCm_join.2.1 36 = .ok (.getfield 11, 3) := by decide +kernel
theorem dCm_join_39 : decode kCm_join.2.1 39 = .ok (.iload_n 2, 1) := by decide +kernel
theorem dCm_join_40 : decode kCm_join.2.1 40 = .ok (.iload 4, 2) := by decide +kernel
theorem dCm_join_42 : decode kCm_join.2.1 42 = .ok (.iadd, 1) := by decide +kernel
theorem dCm_join_43 : decode kCm_join.2.1 43 = .ok (.laload, 1) := by decide +kernel
theorem dCm_join_44 : decode kCm_join.2.1 44 = .ok (.land, 1) := by decide +kernel
theorem dCm_join_45 : decode kCm_join.2.1 45 = .ok (.lastore, 1) := by decide +kernel
theorem dCm_join_46 : decode kCm_join.2.1 46 = .ok (.goto 76, 3) := by decide +kernel
theorem dCm_join_49 : decode kCm_join.2.1 49 = .ok (.iload_n 1, 1) := by decide +kernel
theorem dCm_join_50 : decode kCm_join.2.1 50 = .ok (.bipush 55, 2) := by decide +kernel
theorem dCm_join_52 : decode kCm_join.2.1 52 = .ok (.if_icmp .ne 27, 3) := by decide +kernel
theorem dCm_join_55 : decode kCm_join.2.1 55 = .ok (.aload_n 0, 1) := by decide +kernel
theorem dCm_join_56 : decode kCm_join.2.1 56 = .ok (.getfield 11, 3) := by decide +kernel
theorem dCm_join_59 : decode kCm_join.2.1 59 = .ok (.iload_n 3, 1) := by decide +kernel
theorem dCm_join_60 : decode kCm_join.2.1 60 = .ok (.iload 4, 2) := by decide +kernel
theorem dCm_join_62 : decode kCm_join.2.1 62 = .ok (.iadd, 1) := by decide +kernel
theorem dCm_join_63 : decode kCm_join.2.1 63 = .ok (.dup2, 1) := by decide +kernel
theorem dCm_join_64 : decode kCm_join.2.1 64 = .ok (.laload, 1) := by decide +kernel
theorem dCm_join_65 : decode kCm_join.2.1 65 = .ok (.aload_n 0, 1) := by decide +kernel
theorem dCm_join_66 : decode kCm_join.2.1 66 = .ok (.getfield 11, 3) := by decide +kernel
theorem dCm_join_69 : decode kCm_join.2.1 69 = .ok (.iload_n 2, 1) := by decide +kernel
theorem dCm_join_70 : decode kCm_join.2.1 70 = .ok (.iload 4, 2) := by decide +kernel
theorem dCm_join_72 : decode kCm_join.2.1 72 = .ok (.iadd, 1) := by decide +kernel
theorem dCm_join_73 : decode kCm_join.2.1 73 = .ok (.laload, 1) := by decide +kernel
theorem dCm_join_74 : decode kCm_join.2.1 74 = .ok (.lor, 1) := by decide +kernel
theorem dCm_join_75 : decode kCm_join.2.1 75 = .ok (.lastore, 1) := by decide +kernel
theorem dCm_join_76 : decode kCm_join.2.1 76 = .ok (.goto 46, 3) := by decide +kernel
theorem dCm_join_79 : decode kCm_join.2.1 79 = .ok (.aload_n 0, 1) := by decide +kernel
theorem dCm_join_80 : decode kCm_join.2.1 80 = .ok (.getfield 11, 3) := by decide +kernel
theorem dCm_join_83 : decode kCm_join.2.1 83 = .ok (.iload_n 3, 1) := by decide +kernel
theorem dCm_join_84 : decode kCm_join.2.1 84 = .ok (.iload 4, 2) := by decide +kernel
theorem dCm_join_86 : decode kCm_join.2.1 86 = .ok (.iadd, 1) := by decide +kernel
theorem dCm_join_87 : decode kCm_join.2.1 87 = .ok (.aload_n 0, 1) := by decide +kernel
theorem dCm_join_88 : decode kCm_join.2.1 88 = .ok (.getfield 11, 3) := by decide +kernel
theorem dCm_join_91 : decode kCm_join.2.1 91 = .ok (.bipush 120, 2) := by decide +kernel
theorem dCm_join_93 : decode kCm_join.2.1 93 = .ok (.iload 4, 2) := by decide +kernel
theorem dCm_join_95 : decode kCm_join.2.1 95 = .ok (.iadd, 1) := by decide +kernel
theorem dCm_join_96 : decode kCm_join.2.1 96 = .ok (.laload, 1) := by decide +kernel
theorem dCm_join_97 : decode kCm_join.2.1 97 = .ok (.aload_n 0, 1) := by decide +kernel
theorem dCm_join_98 : decode kCm_join.2.1 98 = .ok (.getfield 11, 3) := by decide +kernel
theorem dCm_join_101 : decode kCm_join.2.1 101 = .ok (.iload_n 3, 1) := by decide +kernel
theorem dCm_join_102 : decode kCm_join.2.1 102 = .ok (.iload 4, 2) := by decide +kernel
theorem dCm_join_104 : decode kCm_join.2.1 104 = .ok (.iadd, 1) := by decide +kernel
theorem dCm_join_105 : decode kCm_join.2.1 105 = .ok (.laload, 1) := by decide +kernel
theorem dCm_join_106 : decode kCm_join.2.1 106 = .ok (.ldc2_w 99, 3) := by decide +kernel
theorem dCm_join_109 : decode kCm_join.2.1 109 = .ok (.lxor, 1) := by decide +kernel
theorem dCm_join_110 : decode kCm_join.2.1 110 = .ok (.land, 1) := by decide +kernel
theorem dCm_join_111 : decode kCm_join.2.1 111 = .ok (.aload_n 0, 1) := by decide +kernel
theorem dCm_join_112 : decode kCm_join.2.1 112 = .ok (.getfield 11, 3) := by decide +kernel
theorem dCm_join_115 : decode kCm_join.2.1 115 = .ok (.iload_n 2, 1) := by decide +kernel
theorem dCm_join_116 : decode kCm_join.2.1 116 = .ok (.iload 4, 2) := by decide +kernel
theorem dCm_join_118 : decode kCm_join.2.1 118 = .ok (.iadd, 1) := by decide +kernel
theorem dCm_join_119 : decode kCm_join.2.1 119 = .ok (.laload, 1) := by decide +kernel
theorem dCm_join_120 : decode kCm_join.2.1 120 = .ok (.lor, 1) := by decide +kernel
theorem dCm_join_121 : decode kCm_join.2.1 121 = .ok (.lastore, 1) := by decide +kernel
theorem dCm_join_122 : decode kCm_join.2.1 122 = .ok (.iinc 4 1, 3) := by decide +kernel
theorem dCm_join_125 : decode kCm_join.2.1 125 = .ok (.goto (-112), 3) := by decide +kernel
theorem dCm_join_128 : decode kCm_join.2.1 128 = .ok (.return_, 1) := by decide +kernel
theorem dCm_joinUntil_0 : decode kCm_joinUntil.2.1 0 = .ok (.aload_n 0, 1) := by decide +kernel
theorem dCm_joinUntil_1 : decode kCm_joinUntil.2.1 1 = .ok (.invokevirtual 80, 3) := by decide +kernel
theorem dCm_joinUntil_4 : decode kCm_joinUntil.2.1 4 = .ok (.istore_n 2, 1) := by decide +kernel
theorem dCm_joinUntil_5 : decode kCm_joinUntil.2.1 5 = .ok (.aload_n 0, 1) := by decide +kernel
theorem dCm_joinUntil_6 : decode kCm_joinUntil.2.1 6 = .ok (.invokevirtual 83, 3) := by decide +kernel
theorem dCm_joinUntil_9 : decode kCm_joinUntil.2.1 9 = .ok (.istore_n 3, 1) := by decide +kernel
theorem dCm_joinUntil_10 : decode kCm_joinUntil.2.1 10 = .ok (.aload_n 0, 1) := by decide +kernel
theorem dCm_joinUntil_11 : decode kCm_joinUntil.2.1 11 = .ok (.iload_n 1, 1) := by decide +kernel
theorem dCm_joinUntil_12 : decode kCm_joinUntil.2.1 12 = .ok (.iload_n 3, 1) := by decide +kernel
theorem dCm_joinUntil_13 : decode kCm_joinUntil.2.1 13 = .ok (.iload_n 2, 1) := by decide +kernel
theorem dCm_joinUntil_14 : decode kCm_joinUntil.2.1 14 = .ok (.invokevirtual 101, 3) := by decide +kernel
theorem dCm_joinUntil_17 : decode kCm_joinUntil.2.1 17 = .ok (.aload_n 0, 1) := by decide +kernel
theorem dCm_joinUntil_18 : decode kCm_joinUntil.2.1 18 = .ok (.iload_n 2, 1) := by decide +kernel
theorem dCm_joinUntil_19 : decode kCm_joinUntil.2.1 19 = .ok (.iload_n 3, 1) := by decide +kernel
theorem dCm_joinUntil_20 : decode kCm_joinUntil.2.1 20 = .ok (.invokevirtual 77, 3) := by decide +kernel
theorem dCm_joinUntil_23 : decode kCm_joinUntil.2.1 23 = .ok (.return_, 1) := by decide +kernel
theorem dCm_until_0 : decode kCm_until.2.1 0 = .ok (.iload_n 1, 1) := by decide +kernel
theorem dCm_until_1 : decode kCm_until.2.1 1 = .ok (.ifCond .eq 13, 3) := by decide +kernel
theorem dCm_until_4 : decode kCm_until.2.1 4 = .ok (.aload_n 0, 1) := by decide +kernel
theorem dCm_until_5 : decode kCm_until.2.1 5 = .ok (.getfield 22, 3) := by decide +kernel
theorem dCm_until_8 : decode kCm_until.2.1 8 = .ok (.getfield 66, 3) := by decide +kernel
theorem dCm_until_11 : decode kCm_until.2.1 11 = .ok (.goto 4, 3) := by decide +kernel
theorem dCm_until_14 : decode kCm_until.2.1 14 = .ok (.iconst 1, 1) := by decide +kernel
theorem dCm_until_15 : decode kCm_until.2.1 15 = .ok (.istore 4, 2) := by decide +kernel
theorem dCm_until_17 : decode kCm_until.2.1 17 = .ok (.aload_n 0, 1) := by decide +kernel
theorem dCm_until_18 : decode kCm_until.2.1 18 = .ok (.getfield 22, 3) := by decide +kernel
theorem dCm_until_21 : decode kCm_until.2.1 21 = .ok (.getfield 66, 3) := by decide +kernel
theorem dCm_until_24 : decode kCm_until.2.1 24 = .ok (.iconst 1, 1) := by decide +kernel
theorem dCm_until_25 : decode kCm_until.2.1 25 = .ok (.iadd, 1) := by decide +kernel
theorem dCm_until_26 : decode kCm_until.2.1 26 = .ok (.istore 5, 2) := by decide +kernel
theorem dCm_until_28 : decode kCm_until.2.1 28 = .ok (.aload_n 0, 1) := by decide +kernel
theorem dCm_until_29 : decode kCm_until.2.1 29 = .ok (.iconst 0, 1) := by decide +kernel
theorem dCm_until_30 : decode kCm_until.2.1 30 = .ok (.putfield 114, 3) := by decide +kernel
theorem dCm_until_33 : decode kCm_until.2.1 33 = .ok (.iconst 0, 1) := by decide +kernel
theorem dCm_until_34 : decode kCm_until.2.1 34 = .ok (.istore 6, 2) := by decide +kernel
theorem dCm_until_36 : decode kCm_until.2.1 36 = .ok (.iload 6, 2) := by decide +kernel
theorem dCm_until_38 : decode kCm_until.2.1 38 = .ok (.aload_n 0, 1) := by decide +kernel
theorem dCm_until_39 : decode kCm_until.2.1 39 = .ok (.getfield 22, 3) := by decide +kernel
theorem dCm_until_42 : decode kCm_until.2.1 42 = .ok (.getfield 34, 3) := by decide +kernel
theorem dCm_until_45 : decode kCm_until.2.1 45 = .ok (.if_icmp .ge 57, 3) := by decide +kernel
theorem dCm_until_48 : decode kCm_until.2.1 48 = .ok (.aload_n 0, 1) := by decide +kernel
theorem dCm_until_49 : decode kCm_until.2.1 49 = .ok (.getfield 19, 3) := by decide +kernel
theorem dCm_until_52 : decode kCm_until.2.1 52 = .ok (.iload 6, 2) := by decide +kernel
theorem dCm_until_54 : decode kCm_until.2.1 54 = .ok (.aload_n 0, 1) := by decide +kernel
theorem dCm_until_55 : decode kCm_until.2.1 55 = .ok (.iload_n 2, 1) := by decide +kernel
theorem dCm_until_56 : decode kCm_until.2.1 56 = .ok (.iload 6, 2) := by decide +kernel
theorem dCm_until_58 : decode kCm_until.2.1 58 = .ok (.invokevirtual 43, 3) := by decide +kernel
theorem dCm_until_61 : decode kCm_until.2.1 61 = .ok (.ifCond .eq 8, 3) := by decide +kernel
theorem dCm_until_64 : decode kCm_until.2.1 64 = .ok (.iload 4, 2) := by decide +kernel
theorem dCm_until_66 : decode kCm_until.2.1 66 = .ok (.goto 5, 3) := by decide +kernel
theorem dCm_until_69 : decode kCm_until.2.1 69 = .ok (.iload 5, 2) := by decide +kernel
theorem dCm_until_71 : decode kCm_until.2.1 71 = .ok (.iastore, 1) := by decide +kernel
theorem dCm_until_72 : decode kCm_until.2.1 72 = .ok (.aload_n 0, 1) := by decide +kernel
theorem dCm_until_73 : decode kCm_until.2.1 73 = .ok (.iload_n 3, 1) := by decide +kernel
theorem dCm_until_74 : decode kCm_until.2.1 74 = .ok (.iload 6, 2) := by decide +kernel
theorem dCm_until_76 : decode kCm_until.2.1 76 = .ok (.invokevirtual 43, 3) := by decide +kernel
theorem dCm_until_79 : decode kCm_until.2.1 79 = .ok (.ifCond .eq 17, 3) := by decide +kernel
theorem dCm_until_82 : decode kCm_until.2.1 82 = .ok (.aload_n 0, 1) := by decide +kernel
theorem dCm_until_83 : decode kCm_until.2.1 83 = .ok (.getfield 19, 3) := by decide +kernel
theorem dCm_until_86 : decode kCm_until.2.1 86 = .ok (.iload 6, 2) := by decide +kernel
theorem dCm_until_88 : decode kCm_until.2.1 88 = .ok (.iconst 0, 1) := by decide +kernel
theorem dCm_until_89 : decode kCm_until.2.1 89 = .ok (.iastore, 1) := by decide +kernel
theorem dCm_until_90 : decode kCm_until.2.1 90 = .ok (.aload_n 0, 1) := by decide +kernel
theorem dCm_until_91 : decode kCm_until.2.1 91 = .ok (.iload 6, 2) := by decide +kernel
theorem dCm_until_93 : decode kCm_until.2.1 93 = .ok (.invokevirtual 117, 3) := by decide +kernel
theorem dCm_until_96 : decode kCm_until.2.1 96 = .ok (.iinc 6 1, 3) := by decide +kernel
theorem dCm_until_99 : decode kCm_until.2.1 99 = .ok (.goto (-63), 3) := by decide +kernel
theorem dCm_until_102 : decode kCm_until.2.1 102 = .ok (.iconst 0, 1) := by decide +kernel
theorem dCm_until_103 : decode kCm_until.2.1 103 = .ok (.istore 6, 2) := by decide +kernel
theorem dCm_until_105 : decode kCm_until.2.1 105 = .ok (.iload 6, 2) := by decide +kernel
theorem dCm_until_107 : decode kCm_until.2.1 107 = .ok (.aload_n 0, 1) := by decide +kernel
theorem dCm_until_108 : decode kCm_until.2.1 108 = .ok (.getfield 114, 3) := by decide +kernel
theorem dCm_until_111 : decode kCm_until.2.1 111 = .ok (.if_icmp .ge 40, 3) := by decide +kernel
theorem dCm_until_114 : decode kCm_until.2.1 114 = .ok (.iload 6, 2) := by decide +kernel
theorem dCm_until_116 : decode kCm_until.2.1 116 = .ok (.sipush 256, 3) := by decide +kernel
theorem dCm_until_119 : decode kCm_until.2.1 119 = .ok (.if_icmp .ge 32, 3) := by decide +kernel
theorem dCm_until_122 : decode kCm_until.2.1 122 = .ok (.aload_n 0, 1) := by decide +kernel
theorem dCm_until_123 : decode kCm_until.2.1 123 = .ok (.iload_n 3, 1) := by decide +kernel
theorem dCm_until_124 : decode kCm_until.2.1 124 = .ok (.aload_n 0, 1) := by decide +kernel
theorem dCm_until_125 : decode kCm_until.2.1 125 = .ok (.getfield 15, 3) := by decide +kernel
theorem dCm_until_128 : decode kCm_until.2.1 128 = .ok (.iload 6, 2) := by decide +kernel
theorem dCm_until_130 : decode kCm_until.2.1 130 = .ok (.iaload, 1) := by decide +kernel
theorem dCm_until_131 : decode kCm_until.2.1 131 = .ok (.invokevirtual 39, 3) := by decide +kernel
theorem dCm_until_134 : decode kCm_until.2.1 134 = .ok (.aload_n 0, 1) := by decide +kernel
theorem dCm_until_135 : decode kCm_until.2.1 135 = .ok (.aload_n 0, 1) := by decide +kernel
theorem dCm_until_136 : decode kCm_until.2.1 136 = .ok (.getfield 15, 3) := by decide +kernel
theorem dCm_until_139 : decode kCm_until.2.1 139 = .ok (.iload 6, 2) := by decide +kernel
theorem dCm_until_141 : decode kCm_until.2.1 141 = .ok (.iaload, 1) := by decide +kernel
theorem dCm_until_142 : decode kCm_until.2.1 142 = .ok (.invokevirtual 120, 3) := by decide +kernel
theorem dCm_until_145 : decode kCm_until.2.1 145 = .ok (.iinc 6 1, 3) := by decide +kernel
theorem dCm_until_148 : decode kCm_until.2.1 148 = .ok (.goto (-43), 3) := by decide +kernel
theorem dCm_until_151 : decode kCm_until.2.1 151 = .ok (.return_, 1) := by decide +kernel
theorem dCm_has_0 : decode kCm_has.2.1 0 = .ok (.aload_n 0, 1) := by decide +kernel
theorem dCm_has_1 : decode kCm_has.2.1 1 = .ok (.getfield 11, 3) := by decide +kernel
theorem dCm_has_4 : decode kCm_has.2.1 4 = .ok (.iload_n 1, 1) := by decide +kernel
theorem dCm_has_5 : decode kCm_has.2.1 5 = .ok (.iload_n 2, 1) := by decide +kernel
theorem dCm_has_6 : decode kCm_has.2.1 6 = .ok (.bipush 6, 2) := by decide +kernel
theorem dCm_has_8 : decode kCm_has.2.1 8 = .ok (.ishr, 1) := by decide +kernel
theorem dCm_has_9 : decode kCm_has.2.1 9 = .ok (.iadd, 1) := by decide +kernel
theorem dCm_has_10 : decode kCm_has.2.1 10 = .ok (.laload, 1) := by decide +kernel
theorem dCm_has_11 : decode kCm_has.2.1 11 = .ok (.iload_n 2, 1) := by decide +kernel
theorem dCm_has_12 : decode kCm_has.2.1 12 = .ok (.bipush 63, 2) := by decide +kernel
theorem dCm_has_14 : decode kCm_has.2.1 14 = .ok (.iand, 1) := by decide +kernel
theorem dCm_has_15 : decode kCm_has.2.1 15 = .ok (.lushr, 1) := by decide +kernel
theorem dCm_has_16 : decode kCm_has.2.1 16 = .ok (.lconst 1, 1) := by decide +kernel
theorem dCm_has_17 : decode kCm_has.2.1 17 = .ok (.land, 1) := by decide +kernel
theorem dCm_has_18 : decode kCm_has.2.1 18 = .ok (.lconst 0, 1) := by decide +kernel
theorem dCm_has_19 : decode kCm_has.2.1 19 = .ok (.lcmp, 1) := by decide +kernel
theorem dCm_has_20 : decode kCm_has.2.1 20 = .ok (.ifCond .eq 7, 3) := by decide +kernel
theorem dCm_has_23 : decode kCm_has.2.1 23 = .ok (.iconst 1, 1) := by decide +kernel
theorem dCm_has_24 : decode kCm_has.2.1 24 = .ok (.goto 4, 3) := by decide +kernel
theorem dCm_has_27 : decode kCm_has.2.1 27 = .ok (.iconst 0, 1) := by decide +kernel
theorem dCm_has_28 : decode kCm_has.2.1 28 = .ok (.ireturn, 1) := by decide +kernel
theorem dCm_enqueue_0 : decode kCm_enqueue.2.1 0 = .ok (.aload_n 0, 1) := by decide +kernel
theorem dCm_enqueue_1 : decode kCm_enqueue.2.1 1 = .ok (.getfield 114, 3) := by decide +kernel
theorem dCm_enqueue_4 : decode kCm_enqueue.2.1 4 = .ok (.sipush 256, 3) := by decide +kernel
theorem dCm_enqueue_7 : decode kCm_enqueue.2.1 7 = .ok (.if_icmp .ge 23, 3) := by decide +kernel
theorem dCm_enqueue_10 : decode kCm_enqueue.2.1 10 = .ok (.aload_n 0, 1) := by decide +kernel
theorem dCm_enqueue_11 : decode kCm_enqueue.2.1 11 = .ok (.getfield 15, 3) := by decide +kernel
theorem dCm_enqueue_14 : decode kCm_enqueue.2.1 14 = .ok (.aload_n 0, 1) := by decide +kernel
theorem dCm_enqueue_15 : decode kCm_enqueue.2.1 15 = .ok (.getfield 114, 3) := by decide +kernel
theorem dCm_enqueue_18 : decode kCm_enqueue.2.1 18 = .ok (.iload_n 1, 1) := by decide +kernel
theorem dCm_enqueue_19 : decode kCm_enqueue.2.1 19 = .ok (.iastore, 1) := by decide +kernel
theorem dCm_enqueue_20 : decode kCm_enqueue.2.1 20 = .ok (.aload_n 0, 1) := by decide +kernel
theorem dCm_enqueue_21 : decode kCm_enqueue.2.1 21 = .ok (.dup, 1) := by decide +kernel
theorem dCm_enqueue_22 : decode kCm_enqueue.2.1 22 = .ok (.getfield 114, 3) := by decide +kernel
theorem dCm_enqueue_25 : decode kCm_enqueue.2.1 25 = .ok (.iconst 1, 1) := by decide +kernel
theorem dCm_enqueue_26 : decode kCm_enqueue.2.1 26 = .ok (.iadd, 1) := by decide +kernel
theorem dCm_enqueue_27 : decode kCm_enqueue.2.1 27 = .ok (.putfield 114, 3) := by decide +kernel
theorem dCm_enqueue_30 : decode kCm_enqueue.2.1 30 = .ok (.return_, 1) := by decide +kernel
theorem dCm_leadBack_0 : decode kCm_leadBack.2.1 0 = .ok (.aload_n 0, 1) := by decide +kernel
theorem dCm_leadBack_1 : decode kCm_leadBack.2.1 1 = .ok (.getfield 22, 3) := by decide +kernel
theorem dCm_leadBack_4 : decode kCm_leadBack.2.1 4 = .ok (.getfield 123, 3) := by decide +kernel
theorem dCm_leadBack_7 : decode kCm_leadBack.2.1 7 = .ok (.iload_n 1, 1) := by decide +kernel
theorem dCm_leadBack_8 : decode kCm_leadBack.2.1 8 = .ok (.iaload, 1) := by decide +kernel
theorem dCm_leadBack_9 : decode kCm_leadBack.2.1 9 = .ok (.istore_n 2, 1) := by decide +kernel
theorem dCm_leadBack_10 : decode kCm_leadBack.2.1 10 = .ok (.iload_n 2, 1) := by decide +kernel
theorem dCm_leadBack_11 : decode kCm_leadBack.2.1 11 = .ok (.aload_n 0, 1) := by decide +kernel
theorem dCm_leadBack_12 : decode kCm_leadBack.2.1 12 = .ok (.getfield 22, 3) := by decide +kernel
theorem dCm_leadBack_15 : decode kCm_leadBack.2.1 15 = .ok (.getfield 123, 3) := by decide +kernel
theorem dCm_leadBack_18 : decode kCm_leadBack.2.1 18 = .ok (.iload_n 1, 1) := by decide +kernel
theorem dCm_leadBack_19 : decode kCm_leadBack.2.1 19 = .ok (.iconst 1, 1) := by decide +kernel
theorem dCm_leadBack_20 : decode kCm_leadBack.2.1 20 = .ok (.iadd, 1) := by decide +kernel
theorem dCm_leadBack_21 : decode kCm_leadBack.2.1 21 = .ok (.iaload, 1) := by decide +kernel
theorem dCm_leadBack_22 : decode kCm_leadBack.2.1 22 = .ok (.if_icmp .ge 43, 3) := by decide +kernel
theorem dCm_leadBack_25 : decode kCm_leadBack.2.1 25 = .ok (.aload_n 0, 1) := by decide +kernel
theorem dCm_leadBack_26 : decode kCm_leadBack.2.1 26 = .ok (.getfield 22, 3) := by decide +kernel
theorem dCm_leadBack_29 : decode kCm_leadBack.2.1 29 = .ok (.getfield 126, 3) := by decide +kernel
theorem dCm_leadBack_32 : decode kCm_leadBack.2.1 32 = .ok (.iload_n 2, 1) := by decide +kernel
theorem dCm_leadBack_33 : decode kCm_leadBack.2.1 33 = .ok (.iaload, 1) := by decide +kernel
theorem dCm_leadBack_34 : decode kCm_leadBack.2.1 34 = .ok (.istore_n 3, 1) := by decide +kernel
theorem dCm_leadBack_35 : decode kCm_leadBack.2.1 35 = .ok (.aload_n 0, 1) := by decide +kernel
theorem dCm_leadBack_36 : decode kCm_leadBack.2.1 36 = .ok (.getfield 19, 3) := by decide +kernel
theorem dCm_leadBack_39 : decode kCm_leadBack.2.1 39 = .ok (.iload_n 3, 1) := by decide +kernel
theorem dCm_leadBack_40 : decode kCm_leadBack.2.1 40 = .ok (.dup2, 1) := by decide +kernel
theorem dCm_leadBack_41 : decode kCm_leadBack.2.1 41 = .ok (.iaload, 1) := by decide +kernel
theorem dCm_leadBack_42 : decode kCm_leadBack.2.1 42 = .ok (.iconst 1, 1) := by decide +kernel
theorem dCm_leadBack_43 : decode kCm_leadBack.2.1 43 = .ok (.isub, 1) := by decide +kernel
theorem dCm_leadBack_44 : decode kCm_leadBack.2.1 44 = .ok (.iastore, 1) := by decide +kernel
theorem dCm_leadBack_45 : decode kCm_leadBack.2.1 45 = .ok (.aload_n 0, 1) := by decide +kernel
theorem dCm_leadBack_46 : decode kCm_leadBack.2.1 46 = .ok (.getfield 19, 3) := by decide +kernel
theorem dCm_leadBack_49 : decode kCm_leadBack.2.1 49 = .ok (.iload_n 3, 1) := by decide +kernel
theorem dCm_leadBack_50 : decode kCm_leadBack.2.1 50 = .ok (.iaload, 1) := by decide +kernel
theorem dCm_leadBack_51 : decode kCm_leadBack.2.1 51 = .ok (.ifCond .ne 8, 3) := by decide +kernel
theorem dCm_leadBack_54 : decode kCm_leadBack.2.1 54 = .ok (.aload_n 0, 1) := by decide +kernel
theorem dCm_leadBack_55 : decode kCm_leadBack.2.1 55 = .ok (.iload_n 3, 1) := by decide +kernel
theorem dCm_leadBack_56 : decode kCm_leadBack.2.1 56 = .ok (.invokevirtual 117, 3) := by decide +kernel
theorem dCm_leadBack_59 : decode kCm_leadBack.2.1 59 = .ok (.iinc 2 1, 3) := by decide +kernel
theorem dCm_leadBack_62 : decode kCm_leadBack.2.1 62 = .ok (.goto (-52), 3) := by decide +kernel
theorem dCm_leadBack_65 : decode kCm_leadBack.2.1 65 = .ok (.return_, 1) := by decide +kernel
theorem dCm_comeTo_0 : decode kCm_comeTo.2.1 0 = .ok (.iload_n 1, 1) := by decide +kernel
theorem dCm_comeTo_1 : decode kCm_comeTo.2.1 1 = .ok (.bipush 38, 2) := by decide +kernel
theorem dCm_comeTo_3 : decode kCm_comeTo.2.1 3 = .ok (.if_icmp .eq 15, 3) := by decide +kernel
theorem dCm_comeTo_6 : decode kCm_comeTo.2.1 6 = .ok (.iload_n 1, 1) := by decide +kernel
theorem dCm_comeTo_7 : decode kCm_comeTo.2.1 7 = .ok (.bipush 41, 2) := by decide +kernel
theorem dCm_comeTo_9 : decode kCm_comeTo.2.1 9 = .ok (.if_icmp .eq 9, 3) := by decide +kernel
theorem dCm_comeTo_12 : decode kCm_comeTo.2.1 12 = .ok (.iload_n 1, 1) := by decide +kernel
theorem dCm_comeTo_13 : decode kCm_comeTo.2.1 13 = .ok (.bipush 42, 2) := by decide +kernel
theorem dCm_comeTo_15 : decode kCm_comeTo.2.1 15 = .ok (.if_icmp .ne 7, 3) := by decide +kernel
theorem dCm_comeTo_18 : decode kCm_comeTo.2.1 18 = .ok (.iconst 1, 1) := by decide +kernel
theorem dCm_comeTo_19 : decode kCm_comeTo.2.1 19 = .ok (.goto 4, 3) := by decide +kernel
theorem dCm_comeTo_22 : decode kCm_comeTo.2.1 22 = .ok (.iconst 0, 1) := by decide +kernel
theorem dCm_comeTo_23 : decode kCm_comeTo.2.1 23 = .ok (.istore_n 2, 1) := by decide +kernel
theorem dCm_comeTo_24 : decode kCm_comeTo.2.1 24 = .ok (.aload_n 0, 1) := by decide +kernel
theorem dCm_comeTo_25 : decode kCm_comeTo.2.1 25 = .ok (.invokevirtual 83, 3) := by decide +kernel
theorem dCm_comeTo_28 : decode kCm_comeTo.2.1 28 = .ok (.istore_n 3, 1) := by decide +kernel
theorem dCm_comeTo_29 : decode kCm_comeTo.2.1 29 = .ok (.iload_n 2, 1) := by decide +kernel
theorem dCm_comeTo_30 : decode kCm_comeTo.2.1 30 = .ok (.ifCond .eq 8, 3) := by decide +kernel
theorem dCm_comeTo_33 : decode kCm_comeTo.2.1 33 = .ok (.aload_n 0, 1) := by decide +kernel
theorem dCm_comeTo_34 : decode kCm_comeTo.2.1 34 = .ok (.iload_n 3, 1) := by decide +kernel
theorem dCm_comeTo_35 : decode kCm_comeTo.2.1 35 = .ok (.invokevirtual 86, 3) := by decide +kernel
theorem dCm_comeTo_38 : decode kCm_comeTo.2.1 38 = .ok (.iload_n 1, 1) := by decide +kernel
theorem dCm_comeTo_39 : decode kCm_comeTo.2.1 39 = .ok (.bipush 37, 2) := by decide +kernel
theorem dCm_comeTo_41 : decode kCm_comeTo.2.1 41 = .ok (.if_icmp .eq 9, 3) := by decide +kernel
theorem dCm_comeTo_44 : decode kCm_comeTo.2.1 44 = .ok (.iload_n 1, 1) := by decide +kernel
theorem dCm_comeTo_45 : decode kCm_comeTo.2.1 45 = .ok (.bipush 38, 2) := by decide +kernel
theorem dCm_comeTo_47 : decode kCm_comeTo.2.1 47 = .ok (.if_icmp .ne 11, 3) := by decide +kernel
theorem dCm_comeTo_50 : decode kCm_comeTo.2.1 50 = .ok (.aload_n 0, 1) := by decide +kernel
theorem dCm_comeTo_51 : decode kCm_comeTo.2.1 51 = .ok (.iload_n 3, 1) := by decide +kernel
theorem dCm_comeTo_52 : decode kCm_comeTo.2.1 52 = .ok (.invokevirtual 105, 3) := by decide +kernel
theorem dCm_comeTo_55 : decode kCm_comeTo.2.1 55 = .ok (.goto 27, 3) := by decide +kernel
theorem dCm_comeTo_58 : decode kCm_comeTo.2.1 58 = .ok (.aload_n 0, 1) := by decide +kernel
theorem dCm_comeTo_59 : decode kCm_comeTo.2.1 59 = .ok (.iload_n 1, 1) := by decide +kernel
theorem dCm_comeTo_60 : decode kCm_comeTo.2.1 60 = .ok (.bipush 39, 2) := by decide +kernel
theorem dCm_comeTo_62 : decode kCm_comeTo.2.1 62 = .ok (.if_icmp .eq 9, 3) := by decide +kernel
theorem dCm_comeTo_65 : decode kCm_comeTo.2.1 65 = .ok (.iload_n 1, 1) := by decide +kernel
theorem dCm_comeTo_66 : decode kCm_comeTo.2.1 66 = .ok (.bipush 42, 2) := by decide +kernel
theorem dCm_comeTo_68 : decode kCm_comeTo.2.1 68 = .ok (.if_icmp .ne 7, 3) := by decide +kernel
theorem dCm_comeTo_71 : decode kCm_comeTo.2.1 71 = .ok (.iconst 1, 1) := by decide +kernel
theorem dCm_comeTo_72 : decode kCm_comeTo.2.1 72 = .ok (.goto 4, 3) := by decide +kernel
theorem dCm_comeTo_75 : decode kCm_comeTo.2.1 75 = .ok (.iconst 0, 1) := by decide +kernel
theorem dCm_comeTo_76 : decode kCm_comeTo.2.1 76 = .ok (.bipush 120, 2) := by decide +kernel
theorem dCm_comeTo_78 : decode kCm_comeTo.2.1 78 = .ok (.iload_n 3, 1) := by decide +kernel
theorem dCm_comeTo_79 : decode kCm_comeTo.2.1 79 = .ok (.invokevirtual 101, 3) := by decide +kernel
theorem dCm_comeTo_82 : decode kCm_comeTo.2.1 82 = .ok (.iload_n 2, 1) := by decide +kernel
theorem dCm_comeTo_83 : decode kCm_comeTo.2.1 83 = .ok (.ifCond .eq 8, 3) := by decide +kernel
theorem dCm_comeTo_86 : decode kCm_comeTo.2.1 86 = .ok (.aload_n 0, 1) := by decide +kernel
theorem dCm_comeTo_87 : decode kCm_comeTo.2.1 87 = .ok (.iload_n 3, 1) := by decide +kernel
theorem dCm_comeTo_88 : decode kCm_comeTo.2.1 88 = .ok (.invokevirtual 86, 3) := by decide +kernel
theorem dCm_comeTo_91 : decode kCm_comeTo.2.1 91 = .ok (.return_, 1) := by decide +kernel
theorem dCm_allNext_0 : decode kCm_allNext.2.1 0 = .ok (.aload_n 0, 1) := by decide +kernel
theorem dCm_allNext_1 : decode kCm_allNext.2.1 1 = .ok (.invokevirtual 53, 3) := by decide +kernel
theorem dCm_allNext_4 : decode kCm_allNext.2.1 4 = .ok (.istore_n 2, 1) := by decide +kernel
theorem dCm_allNext_5 : decode kCm_allNext.2.1 5 = .ok (.iconst 0, 1) := by decide +kernel
theorem dCm_allNext_6 : decode kCm_allNext.2.1 6 = .ok (.istore_n 3, 1) := by decide +kernel
theorem dCm_allNext_7 : decode kCm_allNext.2.1 7 = .ok (.iload_n 3, 1) := by decide +kernel
theorem dCm_allNext_8 : decode kCm_allNext.2.1 8 = .ok (.aload_n 0, 1) := by decide +kernel
theorem dCm_allNext_9 : decode kCm_allNext.2.1 9 = .ok (.getfield 22, 3) := by decide +kernel
theorem dCm_allNext_12 : decode kCm_allNext.2.1 12 = .ok (.getfield 34, 3) := by decide +kernel
theorem dCm_allNext_15 : decode kCm_allNext.2.1 15 = .ok (.if_icmp .ge 24, 3) := by decide +kernel
theorem dCm_allNext_18 : decode kCm_allNext.2.1 18 = .ok (.aload_n 0, 1) := by decide +kernel
theorem dCm_allNext_19 : decode kCm_allNext.2.1 19 = .ok (.iload_n 1, 1) := by decide +kernel
theorem dCm_allNext_20 : decode kCm_allNext.2.1 20 = .ok (.iload_n 3, 1) := by decide +kernel
theorem dCm_allNext_21 : decode kCm_allNext.2.1 21 = .ok (.invokevirtual 108, 3) := by decide +kernel
theorem dCm_allNext_24 : decode kCm_allNext.2.1 24 = .ok (.ifCond .eq 9, 3) := by decide +kernel
theorem dCm_allNext_27 : decode kCm_allNext.2.1 27 = .ok (.aload_n 0, 1) := by decide +kernel
theorem dCm_allNext_28 : decode kCm_allNext.2.1 28 = .ok (.iload_n 2, 1) := by decide +kernel
theorem dCm_allNext_29 : decode kCm_allNext.2.1 29 = .ok (.iload_n 3, 1) := by decide +kernel
theorem dCm_allNext_30 : decode kCm_allNext.2.1 30 = .ok (.invokevirtual 39, 3) := by decide +kernel
theorem dCm_allNext_33 : decode kCm_allNext.2.1 33 = .ok (.iinc 3 1, 3) := by decide +kernel
theorem dCm_allNext_36 : decode kCm_allNext.2.1 36 = .ok (.goto (-29), 3) := by decide +kernel
theorem dCm_allNext_39 : decode kCm_allNext.2.1 39 = .ok (.aload_n 0, 1) := by decide +kernel
theorem dCm_allNext_40 : decode kCm_allNext.2.1 40 = .ok (.aload_n 0, 1) := by decide +kernel
theorem dCm_allNext_41 : decode kCm_allNext.2.1 41 = .ok (.invokevirtual 80, 3) := by decide +kernel
theorem dCm_allNext_44 : decode kCm_allNext.2.1 44 = .ok (.iload_n 1, 1) := by decide +kernel
theorem dCm_allNext_45 : decode kCm_allNext.2.1 45 = .ok (.invokevirtual 77, 3) := by decide +kernel
theorem dCm_allNext_48 : decode kCm_allNext.2.1 48 = .ok (.return_, 1) := by decide +kernel
theorem dCm_isAtAllNext_0 : decode kCm_isAtAllNext.2.1 0 = .ok (.iconst 0, 1) := by decide +kernel
theorem dCm_isAtAllNext_1 : decode kCm_isAtAllNext.2.1 1 = .ok (.istore_n 3, 1) := by decide +kernel
theorem dCm_isAtAllNext_2 : decode kCm_isAtAllNext.2.1 2 = .ok (.iload_n 3, 1) := by decide +kernel
theorem dCm_isAtAllNext_3 : decode kCm_isAtAllNext.2.1 3 = .ok (.aload_n 0, 1) := by decide +kernel
theorem dCm_isAtAllNext_4 : decode kCm_isAtAllNext.2.1 4 = .ok (.getfield 22, 3) := by decide +kernel
theorem dCm_isAtAllNext_7 : decode kCm_isAtAllNext.2.1 7 = .ok (.getfield 66, 3) := by decide +kernel
theorem dCm_isAtAllNext_10 : decode kCm_isAtAllNext.2.1 10 = .ok (.if_icmp .ge 36, 3) := by decide +kernel
theorem dCm_isAtAllNext_13 : decode kCm_isAtAllNext.2.1 13 = .ok (.aload_n 0, 1) := by decide +kernel
theorem dCm_isAtAllNext_14 : decode kCm_isAtAllNext.2.1 14 = .ok (.iload_n 1, 1) := by decide +kernel
theorem dCm_isAtAllNext_15 : decode kCm_isAtAllNext.2.1 15 = .ok (.aload_n 0, 1) := by decide +kernel
theorem dCm_isAtAllNext_16 : decode kCm_isAtAllNext.2.1 16 = .ok (.getfield 22, 3) := by decide +kernel
theorem dCm_isAtAllNext_19 : decode kCm_isAtAllNext.2.1 19 = .ok (.getfield 111, 3) := by decide +kernel
theorem dCm_isAtAllNext_22 : decode kCm_isAtAllNext.2.1 22 = .ok (.aload_n 0, 1) := by decide +kernel
theorem dCm_isAtAllNext_23 : decode kCm_isAtAllNext.2.1 23 = .ok (.getfield 22, 3) := by decide +kernel
theorem dCm_isAtAllNext_26 : decode kCm_isAtAllNext.2.1 26 = .ok (.iload_n 2, 1) := by decide +kernel
theorem dCm_isAtAllNext_27 : decode kCm_isAtAllNext.2.1 27 = .ok (.iload_n 3, 1) := by decide +kernel
theorem dCm_isAtAllNext_28 : decode kCm_isAtAllNext.2.1 28 = .ok (.invokevirtual 69, 3) := by decide +kernel
theorem dCm_isAtAllNext_31 : decode kCm_isAtAllNext.2.1 31 = .ok (.iaload, 1) := by decide +kernel
theorem dCm_isAtAllNext_32 : decode kCm_isAtAllNext.2.1 32 = .ok (.invokevirtual 43, 3) := by decide +kernel
theorem dCm_isAtAllNext_35 : decode kCm_isAtAllNext.2.1 35 = .ok (.ifCond .ne 5, 3) := by decide +kernel
theorem dCm_isAtAllNext_38 : decode kCm_isAtAllNext.2.1 38 = .ok (.iconst 0, 1) := by decide +kernel
theorem dCm_isAtAllNext_39 : decode kCm_isAtAllNext.2.1 39 = .ok (.ireturn, 1) := by decide +kernel
theorem dCm_isAtAllNext_40 : decode kCm_isAtAllNext.2.1 40 = .ok (.iinc 3 1, 3) := by decide +kernel
theorem dCm_isAtAllNext_43 : decode kCm_isAtAllNext.2.1 43 = .ok (.goto (-41), 3) := by decide +kernel
theorem dCm_isAtAllNext_46 : decode kCm_isAtAllNext.2.1 46 = .ok (.iconst 1, 1) := by decide +kernel
theorem dCm_isAtAllNext_47 : decode kCm_isAtAllNext.2.1 47 = .ok (.ireturn, 1) := by decide +kernel
theorem dCm_begin_0 : decode kCm_begin.2.1 0 = .ok (.aload_n 0, 1) := by decide +kernel
theorem dCm_begin_1 : decode kCm_begin.2.1 1 = .ok (.bipush 124, 2) := by decide +kernel
theorem dCm_begin_3 : decode kCm_begin.2.1 3 = .ok (.putfield 26, 3) := by decide +kernel
theorem dCm_begin_6 : decode kCm_begin.2.1 6 = .ok (.aload_n 0, 1) := by decide +kernel
theorem dCm_begin_7 : decode kCm_begin.2.1 7 = .ok (.bipush 120, 2) := by decide +kernel
theorem dCm_begin_9 : decode kCm_begin.2.1 9 = .ok (.invokevirtual 30, 3) := by decide +kernel
theorem dCm_begin_12 : decode kCm_begin.2.1 12 = .ok (.iconst 0, 1) := by decide +kernel
theorem dCm_begin_13 : decode kCm_begin.2.1 13 = .ok (.istore_n 1, 1) := by decide +kernel
theorem dCm_begin_14 : decode kCm_begin.2.1 14 = .ok (.iload_n 1, 1) := by decide +kernel
theorem dCm_begin_15 : decode kCm_begin.2.1 15 = .ok (.aload_n 0, 1) := by decide +kernel
theorem dCm_begin_16 : decode kCm_begin.2.1 16 = .ok (.getfield 22, 3) := by decide +kernel
theorem dCm_begin_19 : decode kCm_begin.2.1 19 = .ok (.getfield 34, 3) := by decide +kernel
theorem dCm_begin_22 : decode kCm_begin.2.1 22 = .ok (.if_icmp .ge 16, 3) := by decide +kernel
theorem dCm_begin_25 : decode kCm_begin.2.1 25 = .ok (.aload_n 0, 1) := by decide +kernel
theorem dCm_begin_26 : decode kCm_begin.2.1 26 = .ok (.bipush 120, 2) := by decide +kernel
theorem dCm_begin_28 : decode kCm_begin.2.1 28 = .ok (.iload_n 1, 1) := by decide +kernel
theorem dCm_begin_29 : decode kCm_begin.2.1 29 = .ok (.invokevirtual 39, 3) := by decide +kernel
theorem dCm_begin_32 : decode kCm_begin.2.1 32 = .ok (.iinc 1 1, 3) := by decide +kernel
theorem dCm_begin_35 : decode kCm_begin.2.1 35 = .ok (.goto (-21), 3) := by decide +kernel
theorem dCm_begin_38 : decode kCm_begin.2.1 38 = .ok (.return_, 1) := by decide +kernel
theorem dCm_isSo_0 : decode kCm_isSo.2.1 0 = .ok (.aload_n 0, 1) := by decide +kernel
theorem dCm_isSo_1 : decode kCm_isSo.2.1 1 = .ok (.iload_n 1, 1) := by decide +kernel
theorem dCm_isSo_2 : decode kCm_isSo.2.1 2 = .ok (.iconst 4, 1) := by decide +kernel
theorem dCm_isSo_3 : decode kCm_isSo.2.1 3 = .ok (.imul, 1) := by decide +kernel
theorem dCm_isSo_4 : decode kCm_isSo.2.1 4 = .ok (.iload_n 2, 1) := by decide +kernel
theorem dCm_isSo_5 : decode kCm_isSo.2.1 5 = .ok (.invokevirtual 43, 3) := by decide +kernel
theorem dCm_isSo_8 : decode kCm_isSo.2.1 8 = .ok (.ireturn, 1) := by decide +kernel
theorem dCm_sizeOf_0 : decode kCm_sizeOf.2.1 0 = .ok (.iconst 0, 1) := by decide +kernel
theorem dCm_sizeOf_1 : decode kCm_sizeOf.2.1 1 = .ok (.istore_n 2, 1) := by decide +kernel
theorem dCm_sizeOf_2 : decode kCm_sizeOf.2.1 2 = .ok (.iconst 0, 1) := by decide +kernel
theorem dCm_sizeOf_3 : decode kCm_sizeOf.2.1 3 = .ok (.istore_n 3, 1) := by decide +kernel
theorem dCm_sizeOf_4 : decode kCm_sizeOf.2.1 4 = .ok (.iload_n 3, 1) := by decide +kernel
theorem dCm_sizeOf_5 : decode kCm_sizeOf.2.1 5 = .ok (.iconst 4, 1) := by decide +kernel
theorem dCm_sizeOf_6 : decode kCm_sizeOf.2.1 6 = .ok (.if_icmp .ge 25, 3) := by decide +kernel
theorem dCm_sizeOf_9 : decode kCm_sizeOf.2.1 9 = .ok (.iload_n 2, 1) := by decide +kernel
theorem dCm_sizeOf_10 : decode kCm_sizeOf.2.1 10 = .ok (.aload_n 0, 1) := by decide +kernel
theorem dCm_sizeOf_11 : decode kCm_sizeOf.2.1 11 = .ok (.getfield 11, 3) := by decide +kernel
theorem dCm_sizeOf_14 : decode kCm_sizeOf.2.1 14 = .ok (.iload_n 1, 1) := by decide +kernel
theorem dCm_sizeOf_15 : decode kCm_sizeOf.2.1 15 = .ok (.iconst 4, 1) := by decide +kernel
theorem dCm_sizeOf_16 : decode kCm_sizeOf.2.1 16 = .ok (.imul, 1) := by decide +kernel
theorem dCm_sizeOf_17 : decode kCm_sizeOf.2.1 17 = .ok (.iload_n 3, 1) := by decide +kernel
theorem dCm_sizeOf_18 : decode kCm_sizeOf.2.1 18 = .ok (.iadd, 1) := by decide +kernel
theorem dCm_sizeOf_19 : decode kCm_sizeOf.2.1 19 = .ok (.laload, 1) := by decide +kernel
theorem dCm_sizeOf_20 : decode kCm_sizeOf.2.1 20 = .ok (.invokestatic 47, 3) := by decide +kernel
theorem dCm_sizeOf_23 : decode kCm_sizeOf.2.1 23 = .ok (.iadd, 1) := by decide +kernel
theorem dCm_sizeOf_24 : decode kCm_sizeOf.2.1 24 = .ok (.istore_n 2, 1) := by decide +kernel
theorem dCm_sizeOf_25 : decode kCm_sizeOf.2.1 25 = .ok (.iinc 3 1, 3) := by decide +kernel
theorem dCm_sizeOf_28 : decode kCm_sizeOf.2.1 28 = .ok (.goto (-24), 3) := by decide +kernel
theorem dCm_sizeOf_31 : decode kCm_sizeOf.2.1 31 = .ok (.iload_n 2, 1) := by decide +kernel
theorem dCm_sizeOf_32 : decode kCm_sizeOf.2.1 32 = .ok (.ireturn, 1) := by decide +kernel
theorem fCm_11 : pm_Fl "CircuitChecker$Claims" 11 8 1 true := ⟨_, _, _, rfl, by decide, by decide +kernel, pW8, Or.inl (pm_in 305 (by decide +kernel) rfl)⟩ -- sets
theorem sCm_11 : pm_Fs "CircuitChecker$Claims" 8 1 (.array .long) true := ⟨_, _, _, pY8, rfl, pY8_ok, pN8_ok, rfl, rfl, fun _ => rfl⟩
theorem fCm_15 : pm_Fl "CircuitChecker$Claims" 15 8 3 true := ⟨_, _, _, rfl, by decide, by decide +kernel, pW8, Or.inl (pm_in 307 (by decide +kernel) rfl)⟩ -- queue
theorem sCm_15 : pm_Fs "CircuitChecker$Claims" 8 3 (.array .int) true := ⟨_, _, _, pY8, rfl, pY8_ok, pN8_ok, rfl, rfl, fun _ => rfl⟩
theorem fCm_19 : pm_Fl "CircuitChecker$Claims" 19 8 5 true := ⟨_, _, _, rfl, by decide, by decide +kernel, pW8, Or.inl (pm_in 309 (by decide +kernel) rfl)⟩ -- missing
theorem sCm_19 : pm_Fs "CircuitChecker$Claims" 8 5 (.array .int) true := ⟨_, _, _, pY8, rfl, pY8_ok, pN8_ok, rfl, rfl, fun _ => rfl⟩
theorem fCm_22 : pm_Fl "CircuitChecker$Claims" 22 8 0 true := ⟨_, _, _, rfl, by decide, by decide +kernel, pW8, Or.inl (pm_in 304 (by decide +kernel) rfl)⟩ -- steps
theorem sCm_22 : pm_Fs "CircuitChecker$Claims" 8 0 (.object "CircuitChecker$Steps") true := ⟨_, _, _, pY8, rfl, pY8_ok, pN8_ok, rfl, rfl, fun _ => rfl⟩
theorem fCm_26 : pm_Fl "CircuitChecker$Claims" 26 8 2 false := ⟨_, _, _, rfl, by decide, by decide +kernel, pW8, Or.inl (pm_in 306 (by decide +kernel) rfl)⟩ -- top
theorem sCm_26 : pm_Fs "CircuitChecker$Claims" 8 2 .int false := ⟨_, _, _, pY8, rfl, pY8_ok, pN8_ok, rfl, rfl, fun h => by cases h⟩
theorem fCm_34 : pm_Fl "CircuitChecker$Claims" 34 7 1 false := ⟨_, _, _, rfl, by decide, by decide +kernel, pW7, Or.inr ⟨"CircuitChecker", pm_inN 250 (by decide +kernel) rfl⟩⟩ -- stateCount
theorem sCm_34 : pm_Fs "CircuitChecker$Claims" 7 1 .int false := ⟨_, _, _, pY7, rfl, pY7_ok, pN7_ok, rfl, rfl, fun h => by cases h⟩
theorem fCm_66 : pm_Fl "CircuitChecker$Claims" 66 7 2 false := ⟨_, _, _, rfl, by decide, by decide +kernel, pW7, Or.inr ⟨"CircuitChecker", pm_inN 253 (by decide +kernel) rfl⟩⟩ -- choices
theorem sCm_66 : pm_Fs "CircuitChecker$Claims" 7 2 .int false := ⟨_, _, _, pY7, rfl, pY7_ok, pN7_ok, rfl, rfl, fun h => by cases h⟩
theorem fCm_111 : pm_Fl "CircuitChecker$Claims" 111 7 4 true := ⟨_, _, _, rfl, by decide, by decide +kernel, pW7, Or.inr ⟨"CircuitChecker", pm_inN 257 (by decide +kernel) rfl⟩⟩ -- next
theorem fCm_114 : pm_Fl "CircuitChecker$Claims" 114 8 4 false := ⟨_, _, _, rfl, by decide, by decide +kernel, pW8, Or.inl (pm_in 308 (by decide +kernel) rfl)⟩ -- queued
theorem sCm_114 : pm_Fs "CircuitChecker$Claims" 8 4 .int false := ⟨_, _, _, pY8, rfl, pY8_ok, pN8_ok, rfl, rfl, fun h => by cases h⟩
theorem fCm_123 : pm_Fl "CircuitChecker$Claims" 123 7 6 true := ⟨_, _, _, rfl, by decide, by decide +kernel, pW7, Or.inr ⟨"CircuitChecker", pm_inN 262 (by decide +kernel) rfl⟩⟩ -- intoFrom
theorem fCm_126 : pm_Fl "CircuitChecker$Claims" 126 7 5 true := ⟨_, _, _, rfl, by decide, by decide +kernel, pW7, Or.inr ⟨"CircuitChecker", pm_inN 260 (by decide +kernel) rfl⟩⟩ -- into
theorem cCm_99 : Cond.constantLong "CircuitChecker$Claims" 99 (-1) ∈ pm_TS := pm_in 447 (by decide +kernel) rfl
theorem wCm_init : Cond.code kCm_init.1 kCm_init.2.1 kCm_init.2.2.1 kCm_init.2.2.2 ∈ pm_TS := pm_in 302 (by decide +kernel) rfl
theorem iCm_init : kCm_init.1.name = "<init>" ∧ kCm_init.2.2.2 = none ∧ Cond.instanceMethod kCm_init.1 ∈ pm_TS := ⟨rfl, rfl, pm_in 301 (by decide +kernel) rfl⟩
theorem wCm_test : Cond.code kCm_test.1 kCm_test.2.1 kCm_test.2.2.1 kCm_test.2.2.2 ∈ pm_TS := pm_in 397 (by decide +kernel) rfl
theorem vCm_test : pm_Vt kCm_test := ⟨pm_in 395 (by decide +kernel) rfl, pm_in 396 (by decide +kernel) rfl⟩
theorem wCm_pushEmpty : Cond.code kCm_pushEmpty.1 kCm_pushEmpty.2.1 kCm_pushEmpty.2.2.1 kCm_pushEmpty.2.2.2 ∈ pm_TS := pm_in 401 (by decide +kernel) rfl
theorem vCm_pushEmpty : pm_Vt kCm_pushEmpty := ⟨pm_in 400 (by decide +kernel) rfl, pm_inS (q := (kCm_pushEmpty.1, 6)) 4 (by decide +kernel)⟩
theorem wCm_last : Cond.code kCm_last.1 kCm_last.2.1 kCm_last.2.2.1 kCm_last.2.2.2 ∈ pm_TS := pm_in 405 (by decide +kernel) rfl
theorem vCm_last : pm_Vt kCm_last := ⟨pm_in 404 (by decide +kernel) rfl, pm_inS (q := (kCm_last.1, 6)) 5 (by decide +kernel)⟩
theorem wCm_empty : Cond.code kCm_empty.1 kCm_empty.2.1 kCm_empty.2.2.1 kCm_empty.2.2.2 ∈ pm_TS := pm_in 409 (by decide +kernel) rfl
theorem vCm_empty : pm_Vt kCm_empty := ⟨pm_in 408 (by decide +kernel) rfl, pm_inS (q := (kCm_empty.1, 6)) 6 (by decide +kernel)⟩
theorem wCm_isTrueWithAllInputs : Cond.code kCm_isTrueWithAllInputs.1 kCm_isTrueWithAllInputs.2.1 kCm_isTrueWithAllInputs.2.2.1 kCm_isTrueWithAllInputs.2.2.2 ∈ pm_TS := pm_in 413 (by decide +kernel) rfl
theorem vCm_isTrueWithAllInputs : pm_Vt kCm_isTrueWithAllInputs := ⟨pm_in 412 (by decide +kernel) rfl, pm_inS (q := (kCm_isTrueWithAllInputs.1, 6)) 7 (by decide +kernel)⟩
theorem wCm_put : Cond.code kCm_put.1 kCm_put.2.1 kCm_put.2.2.1 kCm_put.2.2.2 ∈ pm_TS := pm_in 422 (by decide +kernel) rfl
theorem vCm_put : pm_Vt kCm_put := ⟨pm_in 421 (by decide +kernel) rfl, pm_inS (q := (kCm_put.1, 6)) 8 (by decide +kernel)⟩
theorem wCm_perform : Cond.code kCm_perform.1 kCm_perform.2.1 kCm_perform.2.2.1 kCm_perform.2.2.2 ∈ pm_TS := pm_in 427 (by decide +kernel) rfl
theorem vCm_perform : pm_Vt kCm_perform := ⟨pm_in 425 (by decide +kernel) rfl, pm_in 426 (by decide +kernel) rfl⟩
theorem wCm_copy : Cond.code kCm_copy.1 kCm_copy.2.1 kCm_copy.2.2.1 kCm_copy.2.2.2 ∈ pm_TS := pm_in 431 (by decide +kernel) rfl
theorem vCm_copy : pm_Vt kCm_copy := ⟨pm_in 430 (by decide +kernel) rfl, pm_inS (q := (kCm_copy.1, 6)) 9 (by decide +kernel)⟩
theorem wCm_pop : Cond.code kCm_pop.1 kCm_pop.2.1 kCm_pop.2.2.1 kCm_pop.2.2.2 ∈ pm_TS := pm_in 438 (by decide +kernel) rfl
theorem vCm_pop : pm_Vt kCm_pop := ⟨pm_in 437 (by decide +kernel) rfl, pm_inS (q := (kCm_pop.1, 6)) 10 (by decide +kernel)⟩
theorem wCm_turn : Cond.code kCm_turn.1 kCm_turn.2.1 kCm_turn.2.2.1 kCm_turn.2.2.2 ∈ pm_TS := pm_in 442 (by decide +kernel) rfl
theorem vCm_turn : pm_Vt kCm_turn := ⟨pm_in 441 (by decide +kernel) rfl, pm_inS (q := (kCm_turn.1, 6)) 11 (by decide +kernel)⟩
theorem wCm_join : Cond.code kCm_join.1 kCm_join.2.1 kCm_join.2.2.1 kCm_join.2.2.2 ∈ pm_TS := pm_in 446 (by decide +kernel) rfl
theorem vCm_join : pm_Vt kCm_join := ⟨pm_in 445 (by decide +kernel) rfl, pm_inS (q := (kCm_join.1, 6)) 12 (by decide +kernel)⟩
theorem wCm_joinUntil : Cond.code kCm_joinUntil.1 kCm_joinUntil.2.1 kCm_joinUntil.2.2.1 kCm_joinUntil.2.2.2 ∈ pm_TS := pm_in 451 (by decide +kernel) rfl
theorem vCm_joinUntil : pm_Vt kCm_joinUntil := ⟨pm_in 450 (by decide +kernel) rfl, pm_inS (q := (kCm_joinUntil.1, 6)) 13 (by decide +kernel)⟩
theorem wCm_until : Cond.code kCm_until.1 kCm_until.2.1 kCm_until.2.2.1 kCm_until.2.2.2 ∈ pm_TS := pm_in 455 (by decide +kernel) rfl
theorem vCm_until : pm_Vt kCm_until := ⟨pm_in 454 (by decide +kernel) rfl, pm_inS (q := (kCm_until.1, 6)) 14 (by decide +kernel)⟩
theorem wCm_has : Cond.code kCm_has.1 kCm_has.2.1 kCm_has.2.2.1 kCm_has.2.2.2 ∈ pm_TS := pm_in 459 (by decide +kernel) rfl
theorem vCm_has : pm_Vt kCm_has := ⟨pm_in 458 (by decide +kernel) rfl, pm_inS (q := (kCm_has.1, 6)) 15 (by decide +kernel)⟩
theorem wCm_enqueue : Cond.code kCm_enqueue.1 kCm_enqueue.2.1 kCm_enqueue.2.2.1 kCm_enqueue.2.2.2 ∈ pm_TS := pm_in 463 (by decide +kernel) rfl
theorem vCm_enqueue : pm_Vt kCm_enqueue := ⟨pm_in 462 (by decide +kernel) rfl, pm_inS (q := (kCm_enqueue.1, 6)) 16 (by decide +kernel)⟩
theorem wCm_leadBack : Cond.code kCm_leadBack.1 kCm_leadBack.2.1 kCm_leadBack.2.2.1 kCm_leadBack.2.2.2 ∈ pm_TS := pm_in 467 (by decide +kernel) rfl
theorem vCm_leadBack : pm_Vt kCm_leadBack := ⟨pm_in 466 (by decide +kernel) rfl, pm_inS (q := (kCm_leadBack.1, 6)) 17 (by decide +kernel)⟩
theorem wCm_comeTo : Cond.code kCm_comeTo.1 kCm_comeTo.2.1 kCm_comeTo.2.2.1 kCm_comeTo.2.2.2 ∈ pm_TS := pm_in 471 (by decide +kernel) rfl
theorem vCm_comeTo : pm_Vt kCm_comeTo := ⟨pm_in 470 (by decide +kernel) rfl, pm_inS (q := (kCm_comeTo.1, 6)) 18 (by decide +kernel)⟩
theorem wCm_allNext : Cond.code kCm_allNext.1 kCm_allNext.2.1 kCm_allNext.2.2.1 kCm_allNext.2.2.2 ∈ pm_TS := pm_in 475 (by decide +kernel) rfl
theorem vCm_allNext : pm_Vt kCm_allNext := ⟨pm_in 474 (by decide +kernel) rfl, pm_inS (q := (kCm_allNext.1, 6)) 19 (by decide +kernel)⟩
theorem wCm_isAtAllNext : Cond.code kCm_isAtAllNext.1 kCm_isAtAllNext.2.1 kCm_isAtAllNext.2.2.1 kCm_isAtAllNext.2.2.2 ∈ pm_TS := pm_in 479 (by decide +kernel) rfl
theorem vCm_isAtAllNext : pm_Vt kCm_isAtAllNext := ⟨pm_in 478 (by decide +kernel) rfl, pm_inS (q := (kCm_isAtAllNext.1, 6)) 20 (by decide +kernel)⟩
theorem wCm_begin : Cond.code kCm_begin.1 kCm_begin.2.1 kCm_begin.2.2.1 kCm_begin.2.2.2 ∈ pm_TS := pm_in 577 (by decide +kernel) rfl
theorem vCm_begin : pm_Vt kCm_begin := ⟨pm_in 575 (by decide +kernel) rfl, pm_in 576 (by decide +kernel) rfl⟩
theorem wCm_isSo : Cond.code kCm_isSo.1 kCm_isSo.2.1 kCm_isSo.2.2.1 kCm_isSo.2.2.2 ∈ pm_TS := pm_in 1082 (by decide +kernel) rfl
theorem vCm_isSo : pm_Vt kCm_isSo := ⟨pm_in 1080 (by decide +kernel) rfl, pm_in 1081 (by decide +kernel) rfl⟩
theorem wCm_sizeOf : Cond.code kCm_sizeOf.1 kCm_sizeOf.2.1 kCm_sizeOf.2.2.1 kCm_sizeOf.2.2.2 ∈ pm_TS := pm_in 1093 (by decide +kernel) rfl
theorem vCm_sizeOf : pm_Vt kCm_sizeOf := ⟨pm_in 1091 (by decide +kernel) rfl, pm_in 1092 (by decide +kernel) rfl⟩
