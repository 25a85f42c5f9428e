/-! CircuitChecker: cards, decoded instructions, links -/
def kCh_init : pmK := (⟨"CircuitChecker", "<init>", "()V"⟩, prog_1_method_1_code, 1, none)
def kCh_workOut : pmK := (⟨"CircuitChecker", "workOut", "()V"⟩, prog_1_method_20_code, 1, none)
def kCh_perform : pmK := (⟨"CircuitChecker", "perform", "(LCircuitChecker$Code;)V"⟩, prog_1_method_21_code, 5, none)
def kCh_read : pmK := (⟨"CircuitChecker", "read", "()I"⟩, prog_1_method_4_code, 1, (some .int))
def kCh_fault : pmK := (⟨"CircuitChecker", "fault", "(I)I"⟩, prog_1_method_5_code, 2, (some .int))
def kCh_reachable : pmK := (⟨"CircuitChecker", "reachable", "()I"⟩, prog_1_method_9_code, 1, (some .int))
def kCh_count : pmK := (⟨"CircuitChecker", "count", "(I)I"⟩, prog_1_method_15_code, 2, (some .int))
def kCh_feed : pmK := (⟨"CircuitChecker", "feed", "(IIIII)I"⟩, prog_1_method_2_code, 6, (some .int))
def kCh_end : pmK := (⟨"CircuitChecker", "end", "(I)I"⟩, prog_1_method_3_code, 2, (some .int))
def kCh_holds : pmK := (⟨"CircuitChecker", "holds", "(I)Z"⟩, prog_1_method_6_code, 2, (some .boolean))
def kCh_isSpec : pmK := (⟨"CircuitChecker", "isSpec", "(I)Z"⟩, prog_1_method_16_code, 2, (some .boolean))
def kCh_states : pmK := (⟨"CircuitChecker", "states", "(I)I"⟩, prog_1_method_7_code, 2, (some .int))
def kCh_at : pmK := (⟨"CircuitChecker", "at", "(II)Z"⟩, prog_1_method_8_code, 3, (some .boolean))
def kCh_isState : pmK := (⟨"CircuitChecker", "isState", "(I)Z"⟩, prog_1_method_17_code, 2, (some .boolean))
def kCh_trace : pmK := (⟨"CircuitChecker", "trace", "(I)I"⟩, prog_1_method_10_code, 3, (some .int))
def kCh_firstMet : pmK := (⟨"CircuitChecker", "firstMet", "(I)I"⟩, prog_1_method_19_code, 3, (some .int))
def kCh_step : pmK := (⟨"CircuitChecker", "step", "(II)I"⟩, prog_1_method_11_code, 4, (some .int))
def kCh_tick : pmK := (⟨"CircuitChecker", "tick", "(I)I"⟩, prog_1_method_12_code, 2, (some .int))
def kCh_areInputs : pmK := (⟨"CircuitChecker", "areInputs", "(I)Z"⟩, prog_1_method_18_code, 2, (some .boolean))
def kCh_go : pmK := (⟨"CircuitChecker", "go", "(I)I"⟩, prog_1_method_13_code, 3, (some .int))
def kCh_value : pmK := (⟨"CircuitChecker", "value", "(II)I"⟩, prog_1_method_14_code, 3, (some .int))
theorem dCh_init_0 : decode kCh_init.2.1 0 = .ok (.aload_n 0, 1) := by decide +kernel
theorem dCh_init_1 : decode kCh_init.2.1 1 = .ok (.invokespecial 1, 3) := by decide +kernel
theorem dCh_init_4 : decode kCh_init.2.1 4 = .ok (.aload_n 0, 1) := by decide +kernel
theorem dCh_init_5 : decode kCh_init.2.1 5 = .ok (.new 7, 3) := by decide +kernel
theorem dCh_init_8 : decode kCh_init.2.1 8 = .ok (.dup, 1) := by decide +kernel
theorem dCh_init_9 : decode kCh_init.2.1 9 = .ok (.invokespecial 9, 3) := by decide +kernel
theorem dCh_init_12 : decode kCh_init.2.1 12 = .ok (.putfield 10, 3) := by decide +kernel
theorem dCh_init_15 : decode kCh_init.2.1 15 = .ok (.aload_n 0, 1) := by decide +kernel
theorem dCh_init_16 : decode kCh_init.2.1 16 = .ok (.new 16, 3) := by decide +kernel
theorem dCh_init_19 : decode kCh_init.2.1 19 = .ok (.dup, 1) := by decide +kernel
theorem dCh_init_20 : decode kCh_init.2.1 20 = .ok (.invokespecial 18, 3) := by decide +kernel
theorem dCh_init_23 : decode kCh_init.2.1 23 = .ok (.putfield 19, 3) := by decide +kernel
theorem dCh_init_26 : decode kCh_init.2.1 26 = .ok (.aload_n 0, 1) := by decide +kernel
theorem dCh_init_27 : decode kCh_init.2.1 27 = .ok (.new 23, 3) := by decide +kernel
theorem dCh_init_30 : decode kCh_init.2.1 30 = .ok (.dup, 1) := by decide +kernel
theorem dCh_init_31 : decode kCh_init.2.1 31 = .ok (.aload_n 0, 1) := by decide +kernel
theorem dCh_init_32 : decode kCh_init.2.1 32 = .ok (.getfield 10, 3) := by decide +kernel
theorem dCh_init_35 : decode kCh_init.2.1 35 = .ok (.aload_n 0, 1) := by decide +kernel
theorem dCh_init_36 : decode kCh_init.2.1 36 = .ok (.getfield 19, 3) := by decide +kernel
theorem dCh_init_39 : decode kCh_init.2.1 39 = .ok (.invokespecial 25, 3) := by decide +kernel
theorem dCh_init_42 : decode kCh_init.2.1 42 = .ok (.putfield 28, 3) := by decide +kernel
theorem dCh_init_45 : decode kCh_init.2.1 45 = .ok (.aload_n 0, 1) := by decide +kernel
theorem dCh_init_46 : decode kCh_init.2.1 46 = .ok (.new 32, 3) := by decide +kernel
theorem dCh_init_49 : decode kCh_init.2.1 49 = .ok (.dup, 1) := by decide +kernel
theorem dCh_init_50 : decode kCh_init.2.1 50 = .ok (.aload_n 0, 1) := by decide +kernel
theorem dCh_init_51 : decode kCh_init.2.1 51 = .ok (.getfield 19, 3) := by decide +kernel
theorem dCh_init_54 : decode kCh_init.2.1 54 = .ok (.invokespecial 34, 3) := by decide +kernel
theorem dCh_init_57 : decode kCh_init.2.1 57 = .ok (.putfield 37, 3) := by decide +kernel
theorem dCh_init_60 : decode kCh_init.2.1 60 = .ok (.aload_n 0, 1) := by decide +kernel
theorem dCh_init_61 : decode kCh_init.2.1 61 = .ok (.new 41, 3) := by decide +kernel
theorem dCh_init_64 : decode kCh_init.2.1 64 = .ok (.dup, 1) := by decide +kernel
theorem dCh_init_65 : decode kCh_init.2.1 65 = .ok (.aload_n 0, 1) := by decide +kernel
theorem dCh_init_66 : decode kCh_init.2.1 66 = .ok (.getfield 19, 3) := by decide +kernel
theorem dCh_init_69 : decode kCh_init.2.1 69 = .ok (.invokespecial 43, 3) := by decide +kernel
theorem dCh_init_72 : decode kCh_init.2.1 72 = .ok (.putfield 44, 3) := by decide +kernel
theorem dCh_init_75 : decode kCh_init.2.1 75 = .ok (.aload_n 0, 1) := by decide +kernel
theorem dCh_init_76 : decode kCh_init.2.1 76 = .ok (.new 48, 3) := by decide +kernel
theorem dCh_init_79 : decode kCh_init.2.1 79 = .ok (.dup, 1) := by decide +kernel
theorem dCh_init_80 : decode kCh_init.2.1 80 = .ok (.aload_n 0, 1) := by decide +kernel
theorem dCh_init_81 : decode kCh_init.2.1 81 = .ok (.getfield 44, 3) := by decide +kernel
theorem dCh_init_84 : decode kCh_init.2.1 84 = .ok (.invokespecial 50, 3) := by decide +kernel
theorem dCh_init_87 : decode kCh_init.2.1 87 = .ok (.putfield 53, 3) := by decide +kernel
theorem dCh_init_90 : decode kCh_init.2.1 90 = .ok (.aload_n 0, 1) := by decide +kernel
theorem dCh_init_91 : decode kCh_init.2.1 91 = .ok (.new 57, 3) := by decide +kernel
theorem dCh_init_94 : decode kCh_init.2.1 94 = .ok (.dup, 1) := by decide +kernel
theorem dCh_init_95 : decode kCh_init.2.1 95 = .ok (.invokespecial 59, 3) := by decide +kernel
theorem dCh_init_98 : decode kCh_init.2.1 98 = .ok (.putfield 60, 3) := by decide +kernel
theorem dCh_init_101 : decode kCh_init.2.1 101 = .ok (.aload_n 0, 1) := by decide +kernel
theorem dCh_init_102 : decode kCh_init.2.1 102 = .ok (.invokevirtual 64, 3) := by decide +kernel
theorem dCh_init_105 : decode kCh_init.2.1 105 = .ok (.return_, 1) := by decide +kernel
theorem dCh_workOut_0 : decode kCh_workOut.2.1 0 = .ok (.aload_n 0, 1) := by decide +kernel
theorem dCh_workOut_1 : decode kCh_workOut.2.1 1 = .ok (.getfield 44, 3) := by decide +kernel
theorem dCh_workOut_4 : decode kCh_workOut.2.1 4 = .ok (.invokevirtual 182, 3) := by decide +kernel
theorem dCh_workOut_7 : decode kCh_workOut.2.1 7 = .ok (.aload_n 0, 1) := by decide +kernel
theorem dCh_workOut_8 : decode kCh_workOut.2.1 8 = .ok (.getfield 37, 3) := by decide +kernel
theorem dCh_workOut_11 : decode kCh_workOut.2.1 11 = .ok (.invokevirtual 185, 3) := by decide +kernel
theorem dCh_workOut_14 : decode kCh_workOut.2.1 14 = .ok (.aload_n 0, 1) := by decide +kernel
theorem dCh_workOut_15 : decode kCh_workOut.2.1 15 = .ok (.aload_n 0, 1) := by decide +kernel
theorem dCh_workOut_16 : decode kCh_workOut.2.1 16 = .ok (.getfield 19, 3) := by decide +kernel
theorem dCh_workOut_19 : decode kCh_workOut.2.1 19 = .ok (.getfield 186, 3) := by decide +kernel
theorem dCh_workOut_22 : decode kCh_workOut.2.1 22 = .ok (.invokevirtual 190, 3) := by decide +kernel
theorem dCh_workOut_25 : decode kCh_workOut.2.1 25 = .ok (.aload_n 0, 1) := by decide +kernel
theorem dCh_workOut_26 : decode kCh_workOut.2.1 26 = .ok (.getfield 44, 3) := by decide +kernel
theorem dCh_workOut_29 : decode kCh_workOut.2.1 29 = .ok (.invokevirtual 194, 3) := by decide +kernel
theorem dCh_workOut_32 : decode kCh_workOut.2.1 32 = .ok (.aload_n 0, 1) := by decide +kernel
theorem dCh_workOut_33 : decode kCh_workOut.2.1 33 = .ok (.getfield 53, 3) := by decide +kernel
theorem dCh_workOut_36 : decode kCh_workOut.2.1 36 = .ok (.invokevirtual 197, 3) := by decide +kernel
theorem dCh_workOut_39 : decode kCh_workOut.2.1 39 = .ok (.aload_n 0, 1) := by decide +kernel
theorem dCh_workOut_40 : decode kCh_workOut.2.1 40 = .ok (.aload_n 0, 1) := by decide +kernel
theorem dCh_workOut_41 : decode kCh_workOut.2.1 41 = .ok (.getfield 19, 3) := by decide +kernel
theorem dCh_workOut_44 : decode kCh_workOut.2.1 44 = .ok (.getfield 198, 3) := by decide +kernel
theorem dCh_workOut_47 : decode kCh_workOut.2.1 47 = .ok (.invokevirtual 190, 3) := by decide +kernel
theorem dCh_workOut_50 : decode kCh_workOut.2.1 50 = .ok (.aload_n 0, 1) := by decide +kernel
theorem dCh_workOut_51 : decode kCh_workOut.2.1 51 = .ok (.aload_n 0, 1) := by decide +kernel
theorem dCh_workOut_52 : decode kCh_workOut.2.1 52 = .ok (.getfield 19, 3) := by decide +kernel
theorem dCh_workOut_55 : decode kCh_workOut.2.1 55 = .ok (.getfield 104, 3) := by decide +kernel
theorem dCh_workOut_58 : decode kCh_workOut.2.1 58 = .ok (.putfield 146, 3) := by decide +kernel
theorem dCh_workOut_61 : decode kCh_workOut.2.1 61 = .ok (.aload_n 0, 1) := by decide +kernel
theorem dCh_workOut_62 : decode kCh_workOut.2.1 62 = .ok (.getfield 60, 3) := by decide +kernel
theorem dCh_workOut_65 : decode kCh_workOut.2.1 65 = .ok (.invokevirtual 201, 3) := by decide +kernel
theorem dCh_workOut_68 : decode kCh_workOut.2.1 68 = .ok (.return_, 1) := by decide +kernel
theorem dCh_perform_0 : decode kCh_perform.2.1 0 = .ok (.iconst 0, 1) := by decide +kernel
theorem dCh_perform_1 : decode kCh_perform.2.1 1 = .ok (.istore_n 2, 1) := by decide +kernel
theorem dCh_perform_2 : decode kCh_perform.2.1 2 = .ok (.iload_n 2, 1) := by decide +kernel
theorem dCh_perform_3 : decode kCh_perform.2.1 3 = .ok (.aload_n 1, 1) := by decide +kernel
theorem dCh_perform_4 : decode kCh_perform.2.1 4 = .ok (.getfield 204, 3) := by decide +kernel
theorem dCh_perform_7 : decode kCh_perform.2.1 7 = .ok (.if_icmp .ge 107, 3) := by decide +kernel
theorem dCh_perform_10 : decode kCh_perform.2.1 10 = .ok (.aload_n 1, 1) := by decide +kernel
theorem dCh_perform_11 : decode kCh_perform.2.1 11 = .ok (.getfield 207, 3) := by decide +kernel
theorem dCh_perform_14 : decode kCh_perform.2.1 14 = .ok (.iload_n 2, 1) := by decide +kernel
theorem dCh_perform_15 : decode kCh_perform.2.1 15 = .ok (.iaload, 1) := by decide +kernel
theorem dCh_perform_16 : decode kCh_perform.2.1 16 = .ok (.istore_n 3, 1) := by decide +kernel
theorem dCh_perform_17 : decode kCh_perform.2.1 17 = .ok (.aload_n 1, 1) := by decide +kernel
theorem dCh_perform_18 : decode kCh_perform.2.1 18 = .ok (.getfield 210, 3) := by decide +kernel
theorem dCh_perform_21 : decode kCh_perform.2.1 21 = .ok (.iload_n 2, 1) := by decide +kernel
theorem dCh_perform_22 : decode kCh_perform.2.1 22 = .ok (.iaload, 1) := by decide +kernel
theorem dCh_perform_23 : decode kCh_perform.2.1 23 = .ok (.istore 4, 2) := by decide +kernel
theorem dCh_perform_25 : decode kCh_perform.2.1 25 = .ok (.iload_n 3, 1) := by decide +kernel
theorem dCh_perform_26 : decode kCh_perform.2.1 26 = .ok (.bipush 32, 2) := by decide +kernel
theorem dCh_perform_28 : decode kCh_perform.2.1 28 = .ok (.if_icmp .ne 19, 3) := by decide +kernel
theorem dCh_perform_31 : decode kCh_perform.2.1 31 = .ok (.aload_n 0, 1) := by decide +kernel
theorem dCh_perform_32 : decode kCh_perform.2.1 32 = .ok (.getfield 44, 3) := by decide +kernel
theorem dCh_perform_35 : decode kCh_perform.2.1 35 = .ok (.iload 4, 2) := by decide +kernel
theorem dCh_perform_37 : decode kCh_perform.2.1 37 = .ok (.aload_n 0, 1) := by decide +kernel
theorem dCh_perform_38 : decode kCh_perform.2.1 38 = .ok (.getfield 37, 3) := by decide +kernel
theorem dCh_perform_41 : decode kCh_perform.2.1 41 = .ok (.invokevirtual 213, 3) := by decide +kernel
theorem dCh_perform_44 : decode kCh_perform.2.1 44 = .ok (.goto 64, 3) := by decide +kernel
theorem dCh_perform_47 : decode kCh_perform.2.1 47 = .ok (.iload_n 3, 1) := by decide +kernel
theorem dCh_perform_48 : decode kCh_perform.2.1 48 = .ok (.bipush 51, 2) := by decide +kernel
theorem dCh_perform_50 : decode kCh_perform.2.1 50 = .ok (.if_icmp .ne 17, 3) := by decide +kernel
theorem dCh_perform_53 : decode kCh_perform.2.1 53 = .ok (.aload_n 0, 1) := by decide +kernel
theorem dCh_perform_54 : decode kCh_perform.2.1 54 = .ok (.getfield 53, 3) := by decide +kernel
theorem dCh_perform_57 : decode kCh_perform.2.1 57 = .ok (.aload_n 0, 1) := by decide +kernel
theorem dCh_perform_58 : decode kCh_perform.2.1 58 = .ok (.getfield 37, 3) := by decide +kernel
theorem dCh_perform_61 : decode kCh_perform.2.1 61 = .ok (.invokevirtual 217, 3) := by decide +kernel
theorem dCh_perform_64 : decode kCh_perform.2.1 64 = .ok (.goto 44, 3) := by decide +kernel
theorem dCh_perform_67 : decode kCh_perform.2.1 67 = .ok (.iload_n 3, 1) := by decide +kernel
theorem dCh_perform_68 : decode kCh_perform.2.1 68 = .ok (.bipush 51, 2) := by decide +kernel
theorem dCh_perform_70 : decode kCh_perform.2.1 70 = .ok (.if_icmp .gt 15, 3) := by decide +kernel
theorem dCh_perform_73 : decode kCh_perform.2.1 73 = .ok (.iload_n 3, 1) := by decide +kernel
theorem dCh_perform_74 : decode kCh_perform.2.1 74 = .ok (.bipush 33, 2) := by decide +kernel
theorem dCh_perform_76 : decode kCh_perform.2.1 76 = .ok (.if_icmp .lt 22, 3) := by decide +kernel
theorem dCh_perform_79 : decode kCh_perform.2.1 79 = .ok (.iload_n 3, 1) := by decide +kernel
theorem dCh_perform_80 : decode kCh_perform.2.1 80 = .ok (.bipush 42, 2) := by decide +kernel
theorem dCh_perform_82 : decode kCh_perform.2.1 82 = .ok (.if_icmp .gt 16, 3) := by decide +kernel
theorem dCh_perform_85 : decode kCh_perform.2.1 85 = .ok (.aload_n 0, 1) := by decide +kernel
theorem dCh_perform_86 : decode kCh_perform.2.1 86 = .ok (.getfield 53, 3) := by decide +kernel
theorem dCh_perform_89 : decode kCh_perform.2.1 89 = .ok (.iload_n 3, 1) := by decide +kernel
theorem dCh_perform_90 : decode kCh_perform.2.1 90 = .ok (.iload 4, 2) := by decide +kernel
theorem dCh_perform_92 : decode kCh_perform.2.1 92 = .ok (.invokevirtual 221, 3) := by decide +kernel
theorem dCh_perform_95 : decode kCh_perform.2.1 95 = .ok (.goto 13, 3) := by decide +kernel
theorem dCh_perform_98 : decode kCh_perform.2.1 98 = .ok (.aload_n 0, 1) := by decide +kernel
theorem dCh_perform_99 : decode kCh_perform.2.1 99 = .ok (.getfield 37, 3) := by decide +kernel
theorem dCh_perform_102 : decode kCh_perform.2.1 102 = .ok (.iload_n 3, 1) := by decide +kernel
theorem dCh_perform_103 : decode kCh_perform.2.1 103 = .ok (.iload 4, 2) := by decide +kernel
theorem dCh_perform_105 : decode kCh_perform.2.1 105 = .ok (.invokevirtual 224, 3) := by decide +kernel
theorem dCh_perform_108 : decode kCh_perform.2.1 108 = .ok (.iinc 2 1, 3) := by decide +kernel
theorem dCh_perform_111 : decode kCh_perform.2.1 111 = .ok (.goto (-109), 3) := by decide +kernel
theorem dCh_perform_114 : decode kCh_perform.2.1 114 = .ok (.return_, 1) := by decide +kernel
theorem dCh_read_0 : decode kCh_read.2.1 0 = .ok (.aload_n 0, 1) := by decide +kernel
theorem dCh_read_1 : decode kCh_read.2.1 1 = .ok (.getfield 28, 3) := by decide +kernel
theorem dCh_read_4 : decode kCh_read.2.1 4 = .ok (.invokevirtual 82, 3) := by decide +kernel
theorem dCh_read_7 : decode kCh_read.2.1 7 = .ok (.aload_n 0, 1) := by decide +kernel
theorem dCh_read_8 : decode kCh_read.2.1 8 = .ok (.getfield 28, 3) := by decide +kernel
theorem dCh_read_11 : decode kCh_read.2.1 11 = .ok (.getfield 85, 3) := by decide +kernel
theorem dCh_read_14 : decode kCh_read.2.1 14 = .ok (.ifCond .eq 10, 3) := by decide +kernel
theorem dCh_read_17 : decode kCh_read.2.1 17 = .ok (.aload_n 0, 1) := by decide +kernel
theorem dCh_read_18 : decode kCh_read.2.1 18 = .ok (.getfield 19, 3) := by decide +kernel
theorem dCh_read_21 : decode kCh_read.2.1 21 = .ok (.invokevirtual 88, 3) := by decide +kernel
theorem dCh_read_24 : decode kCh_read.2.1 24 = .ok (.aload_n 0, 1) := by decide +kernel
theorem dCh_read_25 : decode kCh_read.2.1 25 = .ok (.getfield 10, 3) := by decide +kernel
theorem dCh_read_28 : decode kCh_read.2.1 28 = .ok (.iconst 0, 1) := by decide +kernel
theorem dCh_read_29 : decode kCh_read.2.1 29 = .ok (.putfield 67, 3) := by decide +kernel
theorem dCh_read_32 : decode kCh_read.2.1 32 = .ok (.aload_n 0, 1) := by decide +kernel
theorem dCh_read_33 : decode kCh_read.2.1 33 = .ok (.invokevirtual 64, 3) := by decide +kernel
theorem dCh_read_36 : decode kCh_read.2.1 36 = .ok (.aload_n 0, 1) := by decide +kernel
theorem dCh_read_37 : decode kCh_read.2.1 37 = .ok (.getfield 28, 3) := by decide +kernel
theorem dCh_read_40 : decode kCh_read.2.1 40 = .ok (.getfield 85, 3) := by decide +kernel
theorem dCh_read_43 : decode kCh_read.2.1 43 = .ok (.ifCond .ne 13, 3) := by decide +kernel
theorem dCh_read_46 : decode kCh_read.2.1 46 = .ok (.aload_n 0, 1) := by decide +kernel
theorem dCh_read_47 : decode kCh_read.2.1 47 = .ok (.getfield 19, 3) := by decide +kernel
theorem dCh_read_50 : decode kCh_read.2.1 50 = .ok (.getfield 91, 3) := by decide +kernel
theorem dCh_read_53 : decode kCh_read.2.1 53 = .ok (.goto 4, 3) := by decide +kernel
theorem dCh_read_56 : decode kCh_read.2.1 56 = .ok (.iconst (-1), 1) := by decide +kernel
theorem dCh_read_57 : decode kCh_read.2.1 57 = .ok (.ireturn, 1) := by decide +kernel
theorem dCh_fault_0 : decode kCh_fault.2.1 0 = .ok (.iload_n 1, 1) := by decide +kernel
theorem dCh_fault_1 : decode kCh_fault.2.1 1 = .ok (.ifCond .ne 11, 3) := by decide +kernel
theorem dCh_fault_4 : decode kCh_fault.2.1 4 = .ok (.aload_n 0, 1) := by decide +kernel
theorem dCh_fault_5 : decode kCh_fault.2.1 5 = .ok (.getfield 28, 3) := by decide +kernel
theorem dCh_fault_8 : decode kCh_fault.2.1 8 = .ok (.getfield 85, 3) := by decide +kernel
theorem dCh_fault_11 : decode kCh_fault.2.1 11 = .ok (.ireturn, 1) := by decide +kernel
theorem dCh_fault_12 : decode kCh_fault.2.1 12 = .ok (.iload_n 1, 1) := by decide +kernel
theorem dCh_fault_13 : decode kCh_fault.2.1 13 = .ok (.iconst 1, 1) := by decide +kernel
theorem dCh_fault_14 : decode kCh_fault.2.1 14 = .ok (.if_icmp .ne 13, 3) := by decide +kernel
theorem dCh_fault_17 : decode kCh_fault.2.1 17 = .ok (.aload_n 0, 1) := by decide +kernel
theorem dCh_fault_18 : decode kCh_fault.2.1 18 = .ok (.getfield 28, 3) := by decide +kernel
theorem dCh_fault_21 : decode kCh_fault.2.1 21 = .ok (.getfield 94, 3) := by decide +kernel
theorem dCh_fault_24 : decode kCh_fault.2.1 24 = .ok (.goto 4, 3) := by decide +kernel
theorem dCh_fault_27 : decode kCh_fault.2.1 27 = .ok (.iconst (-1), 1) := by decide +kernel
theorem dCh_fault_28 : decode kCh_fault.2.1 28 = .ok (.ireturn, 1) := by decide +kernel
theorem dCh_reachable_0 : decode kCh_reachable.2.1 0 = .ok (.aload_n 0, 1) := by decide +kernel
theorem dCh_reachable_1 : decode kCh_reachable.2.1 1 = .ok (.getfield 44, 3) := by decide +kernel
theorem dCh_reachable_4 : decode kCh_reachable.2.1 4 = .ok (.getfield 118, 3) := by decide +kernel
theorem dCh_reachable_7 : decode kCh_reachable.2.1 7 = .ok (.ireturn, 1) := by decide +kernel
theorem dCh_count_0 : decode kCh_count.2.1 0 = .ok (.iload_n 1, 1) := by decide +kernel
theorem dCh_count_1 : decode kCh_count.2.1 1 = .ok (.tableswitch 108 0 7 #[47, 55, 63, 71, 79, 87, 95, 100], 47) := by decide +kernel
theorem dCh_count_48 : decode kCh_count.2.1 48 = .ok (.aload_n 0, 1) := by decide +kernel
theorem dCh_count_49 : decode kCh_count.2.1 49 = .ok (.getfield 19, 3) := by decide +kernel
theorem dCh_count_52 : decode kCh_count.2.1 52 = .ok (.getfield 91, 3) := by decide +kernel
theorem dCh_count_55 : decode kCh_count.2.1 55 = .ok (.ireturn, 1) := by decide +kernel
theorem dCh_count_56 : decode kCh_count.2.1 56 = .ok (.aload_n 0, 1) := by decide +kernel
theorem dCh_count_57 : decode kCh_count.2.1 57 = .ok (.getfield 19, 3) := by decide +kernel
theorem dCh_count_60 : decode kCh_count.2.1 60 = .ok (.getfield 152, 3) := by decide +kernel
theorem dCh_count_63 : decode kCh_count.2.1 63 = .ok (.ireturn, 1) := by decide +kernel
theorem dCh_count_64 : decode kCh_count.2.1 64 = .ok (.aload_n 0, 1) := by decide +kernel
theorem dCh_count_65 : decode kCh_count.2.1 65 = .ok (.getfield 19, 3) := by decide +kernel
theorem dCh_count_68 : decode kCh_count.2.1 68 = .ok (.getfield 164, 3) := by decide +kernel
theorem dCh_count_71 : decode kCh_count.2.1 71 = .ok (.ireturn, 1) := by decide +kernel
theorem dCh_count_72 : decode kCh_count.2.1 72 = .ok (.aload_n 0, 1) := by decide +kernel
theorem dCh_count_73 : decode kCh_count.2.1 73 = .ok (.getfield 19, 3) := by decide +kernel
theorem dCh_count_76 : decode kCh_count.2.1 76 = .ok (.getfield 167, 3) := by decide +kernel
theorem dCh_count_79 : decode kCh_count.2.1 79 = .ok (.ireturn, 1) := by decide +kernel
theorem dCh_count_80 : decode kCh_count.2.1 80 = .ok (.aload_n 0, 1) := by decide +kernel
theorem dCh_count_81 : decode kCh_count.2.1 81 = .ok (.getfield 19, 3) := by decide +kernel
theorem dCh_count_84 : decode kCh_count.2.1 84 = .ok (.getfield 170, 3) := by decide +kernel
theorem dCh_count_87 : decode kCh_count.2.1 87 = .ok (.ireturn, 1) := by decide +kernel
theorem dCh_count_88 : decode kCh_count.2.1 88 = .ok (.aload_n 0, 1) := by decide +kernel
theorem dCh_count_89 : decode kCh_count.2.1 89 = .ok (.getfield 10, 3) := by decide +kernel
theorem dCh_count_92 : decode kCh_count.2.1 92 = .ok (.getfield 67, 3) := by decide +kernel
theorem dCh_count_95 : decode kCh_count.2.1 95 = .ok (.ireturn, 1) := by decide +kernel
theorem dCh_count_96 : decode kCh_count.2.1 96 = .ok (.aload_n 0, 1) := by decide +kernel
theorem dCh_count_97 : decode kCh_count.2.1 97 = .ok (.getfield 146, 3) := by decide +kernel
theorem dCh_count_100 : decode kCh_count.2.1 100 = .ok (.ireturn, 1) := by decide +kernel
theorem dCh_count_101 : decode kCh_count.2.1 101 = .ok (.aload_n 0, 1) := by decide +kernel
theorem dCh_count_102 : decode kCh_count.2.1 102 = .ok (.getfield 60, 3) := by decide +kernel
theorem dCh_count_105 : decode kCh_count.2.1 105 = .ok (.getfield 128, 3) := by decide +kernel
theorem dCh_count_108 : decode kCh_count.2.1 108 = .ok (.ireturn, 1) := by decide +kernel
theorem dCh_count_109 : decode kCh_count.2.1 109 = .ok (.iconst (-1), 1) := by decide +kernel
theorem dCh_count_110 : decode kCh_count.2.1 110 = .ok (.ireturn, 1) := by decide +kernel
theorem dCh_feed_0 : decode kCh_feed.2.1 0 = .ok (.aload_n 0, 1) := by decide +kernel
theorem dCh_feed_1 : decode kCh_feed.2.1 1 = .ok (.getfield 10, 3) := by decide +kernel
theorem dCh_feed_4 : decode kCh_feed.2.1 4 = .ok (.getfield 67, 3) := by decide +kernel
theorem dCh_feed_7 : decode kCh_feed.2.1 7 = .ok (.ldc 71, 2) := by decide +kernel
theorem dCh_feed_9 : decode kCh_feed.2.1 9 = .ok (.if_icmp .le 11, 3) := by decide +kernel
theorem dCh_feed_12 : decode kCh_feed.2.1 12 = .ok (.new 72, 3) := by decide +kernel
theorem dCh_feed_15 : decode kCh_feed.2.1 15 = .ok (.dup, 1) := by decide +kernel
theorem dCh_feed_16 : decode kCh_feed.2.1 16 = .ok (.invokespecial 74, 3) := by decide +kernel
theorem dCh_feed_19 : decode kCh_feed.2.1 19 = .ok (.athrow, 1) := by decide +kernel
theorem dCh_feed_20 : decode kCh_feed.2.1 20 = .ok (.aload_n 0, 1) := by decide +kernel
theorem dCh_feed_21 : decode kCh_feed.2.1 21 = .ok (.getfield 10, 3) := by decide +kernel
theorem dCh_feed_24 : decode kCh_feed.2.1 24 = .ok (.iload_n 1, 1) := by decide +kernel
theorem dCh_feed_25 : decode kCh_feed.2.1 25 = .ok (.invokevirtual 75, 3) := by decide +kernel
theorem dCh_feed_28 : decode kCh_feed.2.1 28 = .ok (.aload_n 0, 1) := by decide +kernel
theorem dCh_feed_29 : decode kCh_feed.2.1 29 = .ok (.getfield 10, 3) := by decide +kernel
theorem dCh_feed_32 : decode kCh_feed.2.1 32 = .ok (.iload_n 2, 1) := by decide +kernel
theorem dCh_feed_33 : decode kCh_feed.2.1 33 = .ok (.invokevirtual 75, 3) := by decide +kernel
theorem dCh_feed_36 : decode kCh_feed.2.1 36 = .ok (.aload_n 0, 1) := by decide +kernel
theorem dCh_feed_37 : decode kCh_feed.2.1 37 = .ok (.getfield 10, 3) := by decide +kernel
theorem dCh_feed_40 : decode kCh_feed.2.1 40 = .ok (.iload_n 3, 1) := by decide +kernel
theorem dCh_feed_41 : decode kCh_feed.2.1 41 = .ok (.invokevirtual 75, 3) := by decide +kernel
theorem dCh_feed_44 : decode kCh_feed.2.1 44 = .ok (.aload_n 0, 1) := by decide +kernel
theorem dCh_feed_45 : decode kCh_feed.2.1 45 = .ok (.getfield 10, 3) := by decide +kernel
theorem dCh_feed_48 : decode kCh_feed.2.1 48 = .ok (.iload 4, 2) := by decide +kernel
theorem dCh_feed_50 : decode kCh_feed.2.1 50 = .ok (.invokevirtual 75, 3) := by decide +kernel
theorem dCh_feed_53 : decode kCh_feed.2.1 53 = .ok (.aload_n 0, 1) := by decide +kernel
theorem dCh_feed_54 : decode kCh_feed.2.1 54 = .ok (.getfield 10, 3) := by decide +kernel
theorem dCh_feed_57 : decode kCh_feed.2.1 57 = .ok (.iload 5, 2) := by decide +kernel
theorem dCh_feed_59 : decode kCh_feed.2.1 59 = .ok (.invokevirtual 75, 3) := by decide +kernel
theorem dCh_feed_62 : decode kCh_feed.2.1 62 = .ok (.aload_n 0, 1) := by decide +kernel
theorem dCh_feed_63 : decode kCh_feed.2.1 63 = .ok (.getfield 10, 3) := by decide +kernel
theorem dCh_feed_66 : decode kCh_feed.2.1 66 = .ok (.getfield 67, 3) := by decide +kernel
theorem dCh_feed_69 : decode kCh_feed.2.1 69 = .ok (.ireturn, 1) := by decide +kernel
theorem dCh_end_0 : decode kCh_end.2.1 0 = .ok (.iload_n 1, 1) := by decide +kernel
theorem dCh_end_1 : decode kCh_end.2.1 1 = .ok (.ifCond .lt 14, 3) := by decide +kernel
theorem dCh_end_4 : decode kCh_end.2.1 4 = .ok (.iload_n 1, 1) := by decide +kernel
theorem dCh_end_5 : decode kCh_end.2.1 5 = .ok (.aload_n 0, 1) := by decide +kernel
theorem dCh_end_6 : decode kCh_end.2.1 6 = .ok (.getfield 10, 3) := by decide +kernel
theorem dCh_end_9 : decode kCh_end.2.1 9 = .ok (.getfield 67, 3) := by decide +kernel
theorem dCh_end_12 : decode kCh_end.2.1 12 = .ok (.if_icmp .le 11, 3) := by decide +kernel
theorem dCh_end_15 : decode kCh_end.2.1 15 = .ok (.new 79, 3) := by decide +kernel
theorem dCh_end_18 : decode kCh_end.2.1 18 = .ok (.dup, 1) := by decide +kernel
theorem dCh_end_19 : decode kCh_end.2.1 19 = .ok (.invokespecial 81, 3) := by decide +kernel
theorem dCh_end_22 : decode kCh_end.2.1 22 = .ok (.athrow, 1) := by decide +kernel
theorem dCh_end_23 : decode kCh_end.2.1 23 = .ok (.aload_n 0, 1) := by decide +kernel
theorem dCh_end_24 : decode kCh_end.2.1 24 = .ok (.getfield 10, 3) := by decide +kernel
theorem dCh_end_27 : decode kCh_end.2.1 27 = .ok (.iload_n 1, 1) := by decide +kernel
theorem dCh_end_28 : decode kCh_end.2.1 28 = .ok (.putfield 67, 3) := by decide +kernel
theorem dCh_end_31 : decode kCh_end.2.1 31 = .ok (.iload_n 1, 1) := by decide +kernel
theorem dCh_end_32 : decode kCh_end.2.1 32 = .ok (.ireturn, 1) := by decide +kernel
theorem dCh_holds_0 : decode kCh_holds.2.1 0 = .ok (.aload_n 0, 1) := by decide +kernel
theorem dCh_holds_1 : decode kCh_holds.2.1 1 = .ok (.iload_n 1, 1) := by decide +kernel
theorem dCh_holds_2 : decode kCh_holds.2.1 2 = .ok (.invokevirtual 97, 3) := by decide +kernel
theorem dCh_holds_5 : decode kCh_holds.2.1 5 = .ok (.ifCond .ne 11, 3) := by decide +kernel
theorem dCh_holds_8 : decode kCh_holds.2.1 8 = .ok (.new 101, 3) := by decide +kernel
theorem dCh_holds_11 : decode kCh_holds.2.1 11 = .ok (.dup, 1) := by decide +kernel
theorem dCh_holds_12 : decode kCh_holds.2.1 12 = .ok (.invokespecial 103, 3) := by decide +kernel
theorem dCh_holds_15 : decode kCh_holds.2.1 15 = .ok (.athrow, 1) := by decide +kernel
theorem dCh_holds_16 : decode kCh_holds.2.1 16 = .ok (.aload_n 0, 1) := by decide +kernel
theorem dCh_holds_17 : decode kCh_holds.2.1 17 = .ok (.getfield 53, 3) := by decide +kernel
theorem dCh_holds_20 : decode kCh_holds.2.1 20 = .ok (.iload_n 1, 1) := by decide +kernel
theorem dCh_holds_21 : decode kCh_holds.2.1 21 = .ok (.aload_n 0, 1) := by decide +kernel
theorem dCh_holds_22 : decode kCh_holds.2.1 22 = .ok (.getfield 19, 3) := by decide +kernel
theorem dCh_holds_25 : decode kCh_holds.2.1 25 = .ok (.getfield 104, 3) := by decide +kernel
theorem dCh_holds_28 : decode kCh_holds.2.1 28 = .ok (.invokevirtual 107, 3) := by decide +kernel
theorem dCh_holds_31 : decode kCh_holds.2.1 31 = .ok (.ireturn, 1) := by decide +kernel
theorem dCh_isSpec_0 : decode kCh_isSpec.2.1 0 = .ok (.iload_n 1, 1) := by decide +kernel
theorem dCh_isSpec_1 : decode kCh_isSpec.2.1 1 = .ok (.ifCond .lt 18, 3) := by decide +kernel
theorem dCh_isSpec_4 : decode kCh_isSpec.2.1 4 = .ok (.iload_n 1, 1) := by decide +kernel
theorem dCh_isSpec_5 : decode kCh_isSpec.2.1 5 = .ok (.aload_n 0, 1) := by decide +kernel
theorem dCh_isSpec_6 : decode kCh_isSpec.2.1 6 = .ok (.getfield 19, 3) := by decide +kernel
theorem dCh_isSpec_9 : decode kCh_isSpec.2.1 9 = .ok (.getfield 91, 3) := by decide +kernel
theorem dCh_isSpec_12 : decode kCh_isSpec.2.1 12 = .ok (.if_icmp .ge 7, 3) := by decide +kernel
theorem dCh_isSpec_15 : decode kCh_isSpec.2.1 15 = .ok (.iconst 1, 1) := by decide +kernel
theorem dCh_isSpec_16 : decode kCh_isSpec.2.1 16 = .ok (.goto 4, 3) := by decide +kernel
theorem dCh_isSpec_19 : decode kCh_isSpec.2.1 19 = .ok (.iconst 0, 1) := by decide +kernel
theorem dCh_isSpec_20 : decode kCh_isSpec.2.1 20 = .ok (.ireturn, 1) := by decide +kernel
theorem dCh_states_0 : decode kCh_states.2.1 0 = .ok (.aload_n 0, 1) := by decide +kernel
theorem dCh_states_1 : decode kCh_states.2.1 1 = .ok (.iload_n 1, 1) := by decide +kernel
theorem dCh_states_2 : decode kCh_states.2.1 2 = .ok (.invokevirtual 97, 3) := by decide +kernel
theorem dCh_states_5 : decode kCh_states.2.1 5 = .ok (.ifCond .ne 11, 3) := by decide +kernel
theorem dCh_states_8 : decode kCh_states.2.1 8 = .ok (.new 101, 3) := by decide +kernel
theorem dCh_states_11 : decode kCh_states.2.1 11 = .ok (.dup, 1) := by decide +kernel
theorem dCh_states_12 : decode kCh_states.2.1 12 = .ok (.invokespecial 103, 3) := by decide +kernel
theorem dCh_states_15 : decode kCh_states.2.1 15 = .ok (.athrow, 1) := by decide +kernel
theorem dCh_states_16 : decode kCh_states.2.1 16 = .ok (.aload_n 0, 1) := by decide +kernel
theorem dCh_states_17 : decode kCh_states.2.1 17 = .ok (.getfield 53, 3) := by decide +kernel
theorem dCh_states_20 : decode kCh_states.2.1 20 = .ok (.iload_n 1, 1) := by decide +kernel
theorem dCh_states_21 : decode kCh_states.2.1 21 = .ok (.invokevirtual 111, 3) := by decide +kernel
theorem dCh_states_24 : decode kCh_states.2.1 24 = .ok (.ireturn, 1) := by decide +kernel
theorem dCh_at_0 : decode kCh_at.2.1 0 = .ok (.aload_n 0, 1) := by decide +kernel
theorem dCh_at_1 : decode kCh_at.2.1 1 = .ok (.iload_n 1, 1) := by decide +kernel
theorem dCh_at_2 : decode kCh_at.2.1 2 = .ok (.invokevirtual 97, 3) := by decide +kernel
theorem dCh_at_5 : decode kCh_at.2.1 5 = .ok (.ifCond .eq 11, 3) := by decide +kernel
theorem dCh_at_8 : decode kCh_at.2.1 8 = .ok (.aload_n 0, 1) := by decide +kernel
theorem dCh_at_9 : decode kCh_at.2.1 9 = .ok (.iload_n 2, 1) := by decide +kernel
theorem dCh_at_10 : decode kCh_at.2.1 10 = .ok (.invokevirtual 115, 3) := by decide +kernel
theorem dCh_at_13 : decode kCh_at.2.1 13 = .ok (.ifCond .ne 11, 3) := by decide +kernel
theorem dCh_at_16 : decode kCh_at.2.1 16 = .ok (.new 101, 3) := by decide +kernel
theorem dCh_at_19 : decode kCh_at.2.1 19 = .ok (.dup, 1) := by decide +kernel
theorem dCh_at_20 : decode kCh_at.2.1 20 = .ok (.invokespecial 103, 3) := by decide +kernel
theorem dCh_at_23 : decode kCh_at.2.1 23 = .ok (.athrow, 1) := by decide +kernel
theorem dCh_at_24 : decode kCh_at.2.1 24 = .ok (.aload_n 0, 1) := by decide +kernel
theorem dCh_at_25 : decode kCh_at.2.1 25 = .ok (.getfield 53, 3) := by decide +kernel
theorem dCh_at_28 : decode kCh_at.2.1 28 = .ok (.iload_n 1, 1) := by decide +kernel
theorem dCh_at_29 : decode kCh_at.2.1 29 = .ok (.iload_n 2, 1) := by decide +kernel
theorem dCh_at_30 : decode kCh_at.2.1 30 = .ok (.invokevirtual 107, 3) := by decide +kernel
theorem dCh_at_33 : decode kCh_at.2.1 33 = .ok (.ireturn, 1) := by decide +kernel
theorem dCh_isState_0 : decode kCh_isState.2.1 0 = .ok (.iload_n 1, 1) := by decide +kernel
theorem dCh_isState_1 : decode kCh_isState.2.1 1 = .ok (.ifCond .lt 18, 3) := by decide +kernel
theorem dCh_isState_4 : decode kCh_isState.2.1 4 = .ok (.iload_n 1, 1) := by decide +kernel
theorem dCh_isState_5 : decode kCh_isState.2.1 5 = .ok (.aload_n 0, 1) := by decide +kernel
theorem dCh_isState_6 : decode kCh_isState.2.1 6 = .ok (.getfield 44, 3) := by decide +kernel
theorem dCh_isState_9 : decode kCh_isState.2.1 9 = .ok (.getfield 173, 3) := by decide +kernel
theorem dCh_isState_12 : decode kCh_isState.2.1 12 = .ok (.if_icmp .ge 7, 3) := by decide +kernel
theorem dCh_isState_15 : decode kCh_isState.2.1 15 = .ok (.iconst 1, 1) := by decide +kernel
theorem dCh_isState_16 : decode kCh_isState.2.1 16 = .ok (.goto 4, 3) := by decide +kernel
theorem dCh_isState_19 : decode kCh_isState.2.1 19 = .ok (.iconst 0, 1) := by decide +kernel
theorem dCh_isState_20 : decode kCh_isState.2.1 20 = .ok (.ireturn, 1) := by decide +kernel
theorem dCh_trace_0 : decode kCh_trace.2.1 0 = .ok (.aload_n 0, 1) := by decide +kernel
theorem dCh_trace_1 : decode kCh_trace.2.1 1 = .ok (.iload_n 1, 1) := by decide +kernel
theorem dCh_trace_2 : decode kCh_trace.2.1 2 = .ok (.invokevirtual 97, 3) := by decide +kernel
theorem dCh_trace_5 : decode kCh_trace.2.1 5 = .ok (.ifCond .ne 11, 3) := by decide +kernel
theorem dCh_trace_8 : decode kCh_trace.2.1 8 = .ok (.new 101, 3) := by decide +kernel
theorem dCh_trace_11 : decode kCh_trace.2.1 11 = .ok (.dup, 1) := by decide +kernel
theorem dCh_trace_12 : decode kCh_trace.2.1 12 = .ok (.invokespecial 103, 3) := by decide +kernel
theorem dCh_trace_15 : decode kCh_trace.2.1 15 = .ok (.athrow, 1) := by decide +kernel
theorem dCh_trace_16 : decode kCh_trace.2.1 16 = .ok (.aload_n 0, 1) := by decide +kernel
theorem dCh_trace_17 : decode kCh_trace.2.1 17 = .ok (.iload_n 1, 1) := by decide +kernel
theorem dCh_trace_18 : decode kCh_trace.2.1 18 = .ok (.invokevirtual 121, 3) := by decide +kernel
theorem dCh_trace_21 : decode kCh_trace.2.1 21 = .ok (.istore_n 2, 1) := by decide +kernel
theorem dCh_trace_22 : decode kCh_trace.2.1 22 = .ok (.iload_n 2, 1) := by decide +kernel
theorem dCh_trace_23 : decode kCh_trace.2.1 23 = .ok (.ifCond .ge 5, 3) := by decide +kernel
theorem dCh_trace_26 : decode kCh_trace.2.1 26 = .ok (.iconst (-1), 1) := by decide +kernel
theorem dCh_trace_27 : decode kCh_trace.2.1 27 = .ok (.ireturn, 1) := by decide +kernel
theorem dCh_trace_28 : decode kCh_trace.2.1 28 = .ok (.aload_n 0, 1) := by decide +kernel
theorem dCh_trace_29 : decode kCh_trace.2.1 29 = .ok (.getfield 60, 3) := by decide +kernel
theorem dCh_trace_32 : decode kCh_trace.2.1 32 = .ok (.aload_n 0, 1) := by decide +kernel
theorem dCh_trace_33 : decode kCh_trace.2.1 33 = .ok (.getfield 44, 3) := by decide +kernel
theorem dCh_trace_36 : decode kCh_trace.2.1 36 = .ok (.iload_n 2, 1) := by decide +kernel
theorem dCh_trace_37 : decode kCh_trace.2.1 37 = .ok (.invokevirtual 124, 3) := by decide +kernel
theorem dCh_trace_40 : decode kCh_trace.2.1 40 = .ok (.aload_n 0, 1) := by decide +kernel
theorem dCh_trace_41 : decode kCh_trace.2.1 41 = .ok (.getfield 60, 3) := by decide +kernel
theorem dCh_trace_44 : decode kCh_trace.2.1 44 = .ok (.getfield 128, 3) := by decide +kernel
theorem dCh_trace_47 : decode kCh_trace.2.1 47 = .ok (.ireturn, 1) := by decide +kernel
theorem dCh_firstMet_0 : decode kCh_firstMet.2.1 0 = .ok (.iconst 0, 1) := by decide +kernel
theorem dCh_firstMet_1 : decode kCh_firstMet.2.1 1 = .ok (.istore_n 2, 1) := by decide +kernel
theorem dCh_firstMet_2 : decode kCh_firstMet.2.1 2 = .ok (.iload_n 2, 1) := by decide +kernel
theorem dCh_firstMet_3 : decode kCh_firstMet.2.1 3 = .ok (.aload_n 0, 1) := by decide +kernel
theorem dCh_firstMet_4 : decode kCh_firstMet.2.1 4 = .ok (.getfield 44, 3) := by decide +kernel
theorem dCh_firstMet_7 : decode kCh_firstMet.2.1 7 = .ok (.getfield 118, 3) := by decide +kernel
theorem dCh_firstMet_10 : decode kCh_firstMet.2.1 10 = .ok (.if_icmp .ge 39, 3) := by decide +kernel
theorem dCh_firstMet_13 : decode kCh_firstMet.2.1 13 = .ok (.aload_n 0, 1) := by decide +kernel
theorem dCh_firstMet_14 : decode kCh_firstMet.2.1 14 = .ok (.getfield 53, 3) := by decide +kernel
theorem dCh_firstMet_17 : decode kCh_firstMet.2.1 17 = .ok (.iload_n 1, 1) := by decide +kernel
theorem dCh_firstMet_18 : decode kCh_firstMet.2.1 18 = .ok (.aload_n 0, 1) := by decide +kernel
theorem dCh_firstMet_19 : decode kCh_firstMet.2.1 19 = .ok (.getfield 44, 3) := by decide +kernel
theorem dCh_firstMet_22 : decode kCh_firstMet.2.1 22 = .ok (.getfield 179, 3) := by decide +kernel
theorem dCh_firstMet_25 : decode kCh_firstMet.2.1 25 = .ok (.iload_n 2, 1) := by decide +kernel
theorem dCh_firstMet_26 : decode kCh_firstMet.2.1 26 = .ok (.iaload, 1) := by decide +kernel
theorem dCh_firstMet_27 : decode kCh_firstMet.2.1 27 = .ok (.invokevirtual 107, 3) := by decide +kernel
theorem dCh_firstMet_30 : decode kCh_firstMet.2.1 30 = .ok (.ifCond .eq 13, 3) := by decide +kernel
theorem dCh_firstMet_33 : decode kCh_firstMet.2.1 33 = .ok (.aload_n 0, 1) := by decide +kernel
theorem dCh_firstMet_34 : decode kCh_firstMet.2.1 34 = .ok (.getfield 44, 3) := by decide +kernel
theorem dCh_firstMet_37 : decode kCh_firstMet.2.1 37 = .ok (.getfield 179, 3) := by decide +kernel
theorem dCh_firstMet_40 : decode kCh_firstMet.2.1 40 = .ok (.iload_n 2, 1) := by decide +kernel
theorem dCh_firstMet_41 : decode kCh_firstMet.2.1 41 = .ok (.iaload, 1) := by decide +kernel
theorem dCh_firstMet_42 : decode kCh_firstMet.2.1 42 = .ok (.ireturn, 1) := by decide +kernel
theorem dCh_firstMet_43 : decode kCh_firstMet.2.1 43 = .ok (.iinc 2 1, 3) := by decide +kernel
theorem dCh_firstMet_46 : decode kCh_firstMet.2.1 46 = .ok (.goto (-44), 3) := by decide +kernel
theorem dCh_firstMet_49 : decode kCh_firstMet.2.1 49 = .ok (.iconst (-1), 1) := by decide +kernel
theorem dCh_firstMet_50 : decode kCh_firstMet.2.1 50 = .ok (.ireturn, 1) := by decide +kernel
theorem dCh_step_0 : decode kCh_step.2.1 0 = .ok (.iload_n 2, 1) := by decide +kernel
theorem dCh_step_1 : decode kCh_step.2.1 1 = .ok (.iconst 1, 1) := by decide +kernel
theorem dCh_step_2 : decode kCh_step.2.1 2 = .ok (.if_icmp .ne 18, 3) := by decide +kernel
theorem dCh_step_5 : decode kCh_step.2.1 5 = .ok (.iload_n 1, 1) := by decide +kernel
theorem dCh_step_6 : decode kCh_step.2.1 6 = .ok (.aload_n 0, 1) := by decide +kernel
theorem dCh_step_7 : decode kCh_step.2.1 7 = .ok (.getfield 60, 3) := by decide +kernel
theorem dCh_step_10 : decode kCh_step.2.1 10 = .ok (.getfield 128, 3) := by decide +kernel
theorem dCh_step_13 : decode kCh_step.2.1 13 = .ok (.if_icmp .ne 7, 3) := by decide +kernel
theorem dCh_step_16 : decode kCh_step.2.1 16 = .ok (.iconst 1, 1) := by decide +kernel
theorem dCh_step_17 : decode kCh_step.2.1 17 = .ok (.goto 4, 3) := by decide +kernel
theorem dCh_step_20 : decode kCh_step.2.1 20 = .ok (.iconst 0, 1) := by decide +kernel
theorem dCh_step_21 : decode kCh_step.2.1 21 = .ok (.istore_n 3, 1) := by decide +kernel
theorem dCh_step_22 : decode kCh_step.2.1 22 = .ok (.aload_n 0, 1) := by decide +kernel
theorem dCh_step_23 : decode kCh_step.2.1 23 = .ok (.getfield 60, 3) := by decide +kernel
theorem dCh_step_26 : decode kCh_step.2.1 26 = .ok (.getfield 129, 3) := by decide +kernel
theorem dCh_step_29 : decode kCh_step.2.1 29 = .ok (.ifCond .eq 22, 3) := by decide +kernel
theorem dCh_step_32 : decode kCh_step.2.1 32 = .ok (.iload_n 1, 1) := by decide +kernel
theorem dCh_step_33 : decode kCh_step.2.1 33 = .ok (.ifCond .lt 18, 3) := by decide +kernel
theorem dCh_step_36 : decode kCh_step.2.1 36 = .ok (.iload_n 1, 1) := by decide +kernel
theorem dCh_step_37 : decode kCh_step.2.1 37 = .ok (.aload_n 0, 1) := by decide +kernel
theorem dCh_step_38 : decode kCh_step.2.1 38 = .ok (.getfield 60, 3) := by decide +kernel
theorem dCh_step_41 : decode kCh_step.2.1 41 = .ok (.getfield 128, 3) := by decide +kernel
theorem dCh_step_44 : decode kCh_step.2.1 44 = .ok (.if_icmp .gt 7, 3) := by decide +kernel
theorem dCh_step_47 : decode kCh_step.2.1 47 = .ok (.iload_n 3, 1) := by decide +kernel
theorem dCh_step_48 : decode kCh_step.2.1 48 = .ok (.ifCond .eq 11, 3) := by decide +kernel
theorem dCh_step_51 : decode kCh_step.2.1 51 = .ok (.new 101, 3) := by decide +kernel
theorem dCh_step_54 : decode kCh_step.2.1 54 = .ok (.dup, 1) := by decide +kernel
theorem dCh_step_55 : decode kCh_step.2.1 55 = .ok (.invokespecial 103, 3) := by decide +kernel
theorem dCh_step_58 : decode kCh_step.2.1 58 = .ok (.athrow, 1) := by decide +kernel
theorem dCh_step_59 : decode kCh_step.2.1 59 = .ok (.iload_n 2, 1) := by decide +kernel
theorem dCh_step_60 : decode kCh_step.2.1 60 = .ok (.ifCond .eq 16, 3) := by decide +kernel
theorem dCh_step_63 : decode kCh_step.2.1 63 = .ok (.iload_n 2, 1) := by decide +kernel
theorem dCh_step_64 : decode kCh_step.2.1 64 = .ok (.iconst 1, 1) := by decide +kernel
theorem dCh_step_65 : decode kCh_step.2.1 65 = .ok (.if_icmp .eq 11, 3) := by decide +kernel
theorem dCh_step_68 : decode kCh_step.2.1 68 = .ok (.new 79, 3) := by decide +kernel
theorem dCh_step_71 : decode kCh_step.2.1 71 = .ok (.dup, 1) := by decide +kernel
theorem dCh_step_72 : decode kCh_step.2.1 72 = .ok (.invokespecial 81, 3) := by decide +kernel
theorem dCh_step_75 : decode kCh_step.2.1 75 = .ok (.athrow, 1) := by decide +kernel
theorem dCh_step_76 : decode kCh_step.2.1 76 = .ok (.iload_n 2, 1) := by decide +kernel
theorem dCh_step_77 : decode kCh_step.2.1 77 = .ok (.ifCond .ne 15, 3) := by decide +kernel
theorem dCh_step_80 : decode kCh_step.2.1 80 = .ok (.aload_n 0, 1) := by decide +kernel
theorem dCh_step_81 : decode kCh_step.2.1 81 = .ok (.getfield 60, 3) := by decide +kernel
theorem dCh_step_84 : decode kCh_step.2.1 84 = .ok (.getfield 133, 3) := by decide +kernel
theorem dCh_step_87 : decode kCh_step.2.1 87 = .ok (.iload_n 1, 1) := by decide +kernel
theorem dCh_step_88 : decode kCh_step.2.1 88 = .ok (.iaload, 1) := by decide +kernel
theorem dCh_step_89 : decode kCh_step.2.1 89 = .ok (.goto 12, 3) := by decide +kernel
theorem dCh_step_92 : decode kCh_step.2.1 92 = .ok (.aload_n 0, 1) := by decide +kernel
theorem dCh_step_93 : decode kCh_step.2.1 93 = .ok (.getfield 60, 3) := by decide +kernel
theorem dCh_step_96 : decode kCh_step.2.1 96 = .ok (.getfield 137, 3) := by decide +kernel
theorem dCh_step_99 : decode kCh_step.2.1 99 = .ok (.iload_n 1, 1) := by decide +kernel
theorem dCh_step_100 : decode kCh_step.2.1 100 = .ok (.iaload, 1) := by decide +kernel
theorem dCh_step_101 : decode kCh_step.2.1 101 = .ok (.ireturn, 1) := by decide +kernel
theorem dCh_tick_0 : decode kCh_tick.2.1 0 = .ok (.aload_n 0, 1) := by decide +kernel
theorem dCh_tick_1 : decode kCh_tick.2.1 1 = .ok (.iload_n 1, 1) := by decide +kernel
theorem dCh_tick_2 : decode kCh_tick.2.1 2 = .ok (.invokevirtual 140, 3) := by decide +kernel
theorem dCh_tick_5 : decode kCh_tick.2.1 5 = .ok (.ifCond .ne 11, 3) := by decide +kernel
theorem dCh_tick_8 : decode kCh_tick.2.1 8 = .ok (.new 79, 3) := by decide +kernel
theorem dCh_tick_11 : decode kCh_tick.2.1 11 = .ok (.dup, 1) := by decide +kernel
theorem dCh_tick_12 : decode kCh_tick.2.1 12 = .ok (.invokespecial 81, 3) := by decide +kernel
theorem dCh_tick_15 : decode kCh_tick.2.1 15 = .ok (.athrow, 1) := by decide +kernel
theorem dCh_tick_16 : decode kCh_tick.2.1 16 = .ok (.aload_n 0, 1) := by decide +kernel
theorem dCh_tick_17 : decode kCh_tick.2.1 17 = .ok (.aload_n 0, 1) := by decide +kernel
theorem dCh_tick_18 : decode kCh_tick.2.1 18 = .ok (.getfield 44, 3) := by decide +kernel
theorem dCh_tick_21 : decode kCh_tick.2.1 21 = .ok (.getfield 143, 3) := by decide +kernel
theorem dCh_tick_24 : decode kCh_tick.2.1 24 = .ok (.aload_n 0, 1) := by decide +kernel
theorem dCh_tick_25 : decode kCh_tick.2.1 25 = .ok (.getfield 44, 3) := by decide +kernel
theorem dCh_tick_28 : decode kCh_tick.2.1 28 = .ok (.aload_n 0, 1) := by decide +kernel
theorem dCh_tick_29 : decode kCh_tick.2.1 29 = .ok (.getfield 146, 3) := by decide +kernel
theorem dCh_tick_32 : decode kCh_tick.2.1 32 = .ok (.iload_n 1, 1) := by decide +kernel
theorem dCh_tick_33 : decode kCh_tick.2.1 33 = .ok (.invokevirtual 148, 3) := by decide +kernel
theorem dCh_tick_36 : decode kCh_tick.2.1 36 = .ok (.iaload, 1) := by decide +kernel
theorem dCh_tick_37 : decode kCh_tick.2.1 37 = .ok (.putfield 146, 3) := by decide +kernel
theorem dCh_tick_40 : decode kCh_tick.2.1 40 = .ok (.aload_n 0, 1) := by decide +kernel
theorem dCh_tick_41 : decode kCh_tick.2.1 41 = .ok (.getfield 146, 3) := by decide +kernel
theorem dCh_tick_44 : decode kCh_tick.2.1 44 = .ok (.ireturn, 1) := by decide +kernel
theorem dCh_areInputs_0 : decode kCh_areInputs.2.1 0 = .ok (.iload_n 1, 1) := by decide +kernel
theorem dCh_areInputs_1 : decode kCh_areInputs.2.1 1 = .ok (.ifCond .lt 18, 3) := by decide +kernel
theorem dCh_areInputs_4 : decode kCh_areInputs.2.1 4 = .ok (.iload_n 1, 1) := by decide +kernel
theorem dCh_areInputs_5 : decode kCh_areInputs.2.1 5 = .ok (.aload_n 0, 1) := by decide +kernel
theorem dCh_areInputs_6 : decode kCh_areInputs.2.1 6 = .ok (.getfield 44, 3) := by decide +kernel
theorem dCh_areInputs_9 : decode kCh_areInputs.2.1 9 = .ok (.getfield 176, 3) := by decide +kernel
theorem dCh_areInputs_12 : decode kCh_areInputs.2.1 12 = .ok (.if_icmp .ge 7, 3) := by decide +kernel
theorem dCh_areInputs_15 : decode kCh_areInputs.2.1 15 = .ok (.iconst 1, 1) := by decide +kernel
theorem dCh_areInputs_16 : decode kCh_areInputs.2.1 16 = .ok (.goto 4, 3) := by decide +kernel
theorem dCh_areInputs_19 : decode kCh_areInputs.2.1 19 = .ok (.iconst 0, 1) := by decide +kernel
theorem dCh_areInputs_20 : decode kCh_areInputs.2.1 20 = .ok (.ireturn, 1) := by decide +kernel
theorem dCh_go_0 : decode kCh_go.2.1 0 = .ok (.aload_n 0, 1) := by decide +kernel
theorem dCh_go_1 : decode kCh_go.2.1 1 = .ok (.iload_n 1, 1) := by decide +kernel
theorem dCh_go_2 : decode kCh_go.2.1 2 = .ok (.invokevirtual 115, 3) := by decide +kernel
theorem dCh_go_5 : decode kCh_go.2.1 5 = .ok (.ifCond .ne 11, 3) := by decide +kernel
theorem dCh_go_8 : decode kCh_go.2.1 8 = .ok (.new 79, 3) := by decide +kernel
theorem dCh_go_11 : decode kCh_go.2.1 11 = .ok (.dup, 1) := by decide +kernel
theorem dCh_go_12 : decode kCh_go.2.1 12 = .ok (.invokespecial 81, 3) := by decide +kernel
theorem dCh_go_15 : decode kCh_go.2.1 15 = .ok (.athrow, 1) := by decide +kernel
theorem dCh_go_16 : decode kCh_go.2.1 16 = .ok (.aload_n 0, 1) := by decide +kernel
theorem dCh_go_17 : decode kCh_go.2.1 17 = .ok (.getfield 146, 3) := by decide +kernel
theorem dCh_go_20 : decode kCh_go.2.1 20 = .ok (.istore_n 2, 1) := by decide +kernel
theorem dCh_go_21 : decode kCh_go.2.1 21 = .ok (.aload_n 0, 1) := by decide +kernel
theorem dCh_go_22 : decode kCh_go.2.1 22 = .ok (.iload_n 1, 1) := by decide +kernel
theorem dCh_go_23 : decode kCh_go.2.1 23 = .ok (.putfield 146, 3) := by decide +kernel
theorem dCh_go_26 : decode kCh_go.2.1 26 = .ok (.iload_n 2, 1) := by decide +kernel
theorem dCh_go_27 : decode kCh_go.2.1 27 = .ok (.ireturn, 1) := by decide +kernel
theorem dCh_value_0 : decode kCh_value.2.1 0 = .ok (.iload_n 1, 1) := by decide +kernel
theorem dCh_value_1 : decode kCh_value.2.1 1 = .ok (.ifCond .lt 14, 3) := by decide +kernel
theorem dCh_value_4 : decode kCh_value.2.1 4 = .ok (.iload_n 1, 1) := by decide +kernel
theorem dCh_value_5 : decode kCh_value.2.1 5 = .ok (.aload_n 0, 1) := by decide +kernel
theorem dCh_value_6 : decode kCh_value.2.1 6 = .ok (.getfield 19, 3) := by decide +kernel
theorem dCh_value_9 : decode kCh_value.2.1 9 = .ok (.getfield 152, 3) := by decide +kernel
theorem dCh_value_12 : decode kCh_value.2.1 12 = .ok (.if_icmp .lt 11, 3) := by decide +kernel
theorem dCh_value_15 : decode kCh_value.2.1 15 = .ok (.new 101, 3) := by decide +kernel
theorem dCh_value_18 : decode kCh_value.2.1 18 = .ok (.dup, 1) := by decide +kernel
theorem dCh_value_19 : decode kCh_value.2.1 19 = .ok (.invokespecial 103, 3) := by decide +kernel
theorem dCh_value_22 : decode kCh_value.2.1 22 = .ok (.athrow, 1) := by decide +kernel
theorem dCh_value_23 : decode kCh_value.2.1 23 = .ok (.aload_n 0, 1) := by decide +kernel
theorem dCh_value_24 : decode kCh_value.2.1 24 = .ok (.iload_n 2, 1) := by decide +kernel
theorem dCh_value_25 : decode kCh_value.2.1 25 = .ok (.invokevirtual 140, 3) := by decide +kernel
theorem dCh_value_28 : decode kCh_value.2.1 28 = .ok (.ifCond .ne 11, 3) := by decide +kernel
theorem dCh_value_31 : decode kCh_value.2.1 31 = .ok (.new 79, 3) := by decide +kernel
theorem dCh_value_34 : decode kCh_value.2.1 34 = .ok (.dup, 1) := by decide +kernel
theorem dCh_value_35 : decode kCh_value.2.1 35 = .ok (.invokespecial 81, 3) := by decide +kernel
theorem dCh_value_38 : decode kCh_value.2.1 38 = .ok (.athrow, 1) := by decide +kernel
theorem dCh_value_39 : decode kCh_value.2.1 39 = .ok (.aload_n 0, 1) := by decide +kernel
theorem dCh_value_40 : decode kCh_value.2.1 40 = .ok (.getfield 19, 3) := by decide +kernel
theorem dCh_value_43 : decode kCh_value.2.1 43 = .ok (.getfield 155, 3) := by decide +kernel
theorem dCh_value_46 : decode kCh_value.2.1 46 = .ok (.iload_n 1, 1) := by decide +kernel
theorem dCh_value_47 : decode kCh_value.2.1 47 = .ok (.iaload, 1) := by decide +kernel
theorem dCh_value_48 : decode kCh_value.2.1 48 = .ok (.bipush 33, 2) := by decide +kernel
theorem dCh_value_50 : decode kCh_value.2.1 50 = .ok (.if_icmp .ne 32, 3) := by decide +kernel
theorem dCh_value_53 : decode kCh_value.2.1 53 = .ok (.aload_n 0, 1) := by decide +kernel
theorem dCh_value_54 : decode kCh_value.2.1 54 = .ok (.getfield 53, 3) := by decide +kernel
theorem dCh_value_57 : decode kCh_value.2.1 57 = .ok (.aload_n 0, 1) := by decide +kernel
theorem dCh_value_58 : decode kCh_value.2.1 58 = .ok (.getfield 19, 3) := by decide +kernel
theorem dCh_value_61 : decode kCh_value.2.1 61 = .ok (.getfield 158, 3) := by decide +kernel
theorem dCh_value_64 : decode kCh_value.2.1 64 = .ok (.iload_n 1, 1) := by decide +kernel
theorem dCh_value_65 : decode kCh_value.2.1 65 = .ok (.iaload, 1) := by decide +kernel
theorem dCh_value_66 : decode kCh_value.2.1 66 = .ok (.aload_n 0, 1) := by decide +kernel
theorem dCh_value_67 : decode kCh_value.2.1 67 = .ok (.getfield 146, 3) := by decide +kernel
theorem dCh_value_70 : decode kCh_value.2.1 70 = .ok (.invokevirtual 107, 3) := by decide +kernel
theorem dCh_value_73 : decode kCh_value.2.1 73 = .ok (.ifCond .eq 7, 3) := by decide +kernel
theorem dCh_value_76 : decode kCh_value.2.1 76 = .ok (.iconst 1, 1) := by decide +kernel
theorem dCh_value_77 : decode kCh_value.2.1 77 = .ok (.goto 4, 3) := by decide +kernel
theorem dCh_value_80 : decode kCh_value.2.1 80 = .ok (.iconst 0, 1) := by decide +kernel
theorem dCh_value_81 : decode kCh_value.2.1 81 = .ok (.ireturn, 1) := by decide +kernel
theorem dCh_value_82 : decode kCh_value.2.1 82 = .ok (.aload_n 0, 1) := by decide +kernel
theorem dCh_value_83 : decode kCh_value.2.1 83 = .ok (.getfield 37, 3) := by decide +kernel
theorem dCh_value_86 : decode kCh_value.2.1 86 = .ok (.iload_n 1, 1) := by decide +kernel
theorem dCh_value_87 : decode kCh_value.2.1 87 = .ok (.aload_n 0, 1) := by decide +kernel
theorem dCh_value_88 : decode kCh_value.2.1 88 = .ok (.getfield 44, 3) := by decide +kernel
theorem dCh_value_91 : decode kCh_value.2.1 91 = .ok (.aload_n 0, 1) := by decide +kernel
theorem dCh_value_92 : decode kCh_value.2.1 92 = .ok (.getfield 146, 3) := by decide +kernel
theorem dCh_value_95 : decode kCh_value.2.1 95 = .ok (.iload_n 2, 1) := by decide +kernel
theorem dCh_value_96 : decode kCh_value.2.1 96 = .ok (.invokevirtual 148, 3) := by decide +kernel
theorem dCh_value_99 : decode kCh_value.2.1 99 = .ok (.invokevirtual 161, 3) := by decide +kernel
theorem dCh_value_102 : decode kCh_value.2.1 102 = .ok (.ireturn, 1) := by decide +kernel
theorem fCh_10 : pm_Fl "CircuitChecker" 10 0 0 true := ⟨_, _, _, rfl, by decide, by decide +kernel, pW0, Or.inl (pm_in 582 (by decide +kernel) rfl)⟩ -- tape
theorem sCh_10 : pm_Fs "CircuitChecker" 0 0 (.object "CircuitChecker$Tape") true := ⟨_, _, _, pY0, rfl, pY0_ok, pN0_ok, rfl, rfl, fun _ => rfl⟩
theorem fCh_19 : pm_Fl "CircuitChecker" 19 0 1 true := ⟨_, _, _, rfl, by decide, by decide +kernel, pW0, Or.inl (pm_in 583 (by decide +kernel) rfl)⟩ -- circuit
theorem sCh_19 : pm_Fs "CircuitChecker" 0 1 (.object "CircuitChecker$Circuit") true := ⟨_, _, _, pY0, rfl, pY0_ok, pN0_ok, rfl, rfl, fun _ => rfl⟩
theorem fCh_28 : pm_Fl "CircuitChecker" 28 0 2 true := ⟨_, _, _, rfl, by decide, by decide +kernel, pW0, Or.inl (pm_in 584 (by decide +kernel) rfl)⟩ -- reader
theorem sCh_28 : pm_Fs "CircuitChecker" 0 2 (.object "CircuitChecker$TextReader") true := ⟨_, _, _, pY0, rfl, pY0_ok, pN0_ok, rfl, rfl, fun _ => rfl⟩
theorem fCh_37 : pm_Fl "CircuitChecker" 37 0 3 true := ⟨_, _, _, rfl, by decide, by decide +kernel, pW0, Or.inl (pm_in 585 (by decide +kernel) rfl)⟩ -- values
theorem sCh_37 : pm_Fs "CircuitChecker" 0 3 (.object "CircuitChecker$Values") true := ⟨_, _, _, pY0, rfl, pY0_ok, pN0_ok, rfl, rfl, fun _ => rfl⟩
theorem fCh_44 : pm_Fl "CircuitChecker" 44 0 4 true := ⟨_, _, _, rfl, by decide, by decide +kernel, pW0, Or.inl (pm_in 586 (by decide +kernel) rfl)⟩ -- steps
theorem sCh_44 : pm_Fs "CircuitChecker" 0 4 (.object "CircuitChecker$Steps") true := ⟨_, _, _, pY0, rfl, pY0_ok, pN0_ok, rfl, rfl, fun _ => rfl⟩
theorem fCh_53 : pm_Fl "CircuitChecker" 53 0 5 true := ⟨_, _, _, rfl, by decide, by decide +kernel, pW0, Or.inl (pm_in 587 (by decide +kernel) rfl)⟩ -- claims
theorem sCh_53 : pm_Fs "CircuitChecker" 0 5 (.object "CircuitChecker$Claims") true := ⟨_, _, _, pY0, rfl, pY0_ok, pN0_ok, rfl, rfl, fun _ => rfl⟩
theorem fCh_60 : pm_Fl "CircuitChecker" 60 0 6 true := ⟨_, _, _, rfl, by decide, by decide +kernel, pW0, Or.inl (pm_in 588 (by decide +kernel) rfl)⟩ -- shortest
theorem sCh_60 : pm_Fs "CircuitChecker" 0 6 (.object "CircuitChecker$Trace") true := ⟨_, _, _, pY0, rfl, pY0_ok, pN0_ok, rfl, rfl, fun _ => rfl⟩
theorem fCh_67 : pm_Fl "CircuitChecker" 67 1 1 false := ⟨_, _, _, rfl, by decide, by decide +kernel, pW1, Or.inr ⟨"CircuitChecker", pm_inN 46 (by decide +kernel) rfl⟩⟩ -- length
theorem sCh_67 : pm_Fs "CircuitChecker" 1 1 .int false := ⟨_, _, _, pY1, rfl, pY1_ok, pN1_ok, rfl, rfl, fun h => by cases h⟩
theorem fCh_85 : pm_Fl "CircuitChecker" 85 4 9 false := ⟨_, _, _, rfl, by decide, by decide +kernel, pW4, Or.inr ⟨"CircuitChecker", pm_inN 192 (by decide +kernel) rfl⟩⟩ -- found
theorem sCh_85 : pm_Fs "CircuitChecker" 4 9 .int false := ⟨_, _, _, pY4, rfl, pY4_ok, pN4_ok, rfl, rfl, fun h => by cases h⟩
theorem fCh_91 : pm_Fl "CircuitChecker" 91 2 6 false := ⟨_, _, _, rfl, by decide, by decide +kernel, pW2, Or.inr ⟨"CircuitChecker", pm_inN 103 (by decide +kernel) rfl⟩⟩ -- specs
theorem sCh_91 : pm_Fs "CircuitChecker" 2 6 .int false := ⟨_, _, _, pY2, rfl, pY2_ok, pN2_ok, rfl, rfl, fun h => by cases h⟩
theorem fCh_94 : pm_Fl "CircuitChecker" 94 4 10 false := ⟨_, _, _, rfl, by decide, by decide +kernel, pW4, Or.inr ⟨"CircuitChecker", pm_inN 194 (by decide +kernel) rfl⟩⟩ -- place
theorem sCh_94 : pm_Fs "CircuitChecker" 4 10 .int false := ⟨_, _, _, pY4, rfl, pY4_ok, pN4_ok, rfl, rfl, fun h => by cases h⟩
theorem fCh_104 : pm_Fl "CircuitChecker" 104 2 10 false := ⟨_, _, _, rfl, by decide, by decide +kernel, pW2, Or.inr ⟨"CircuitChecker", pm_inN 119 (by decide +kernel) rfl⟩⟩ -- first
theorem sCh_104 : pm_Fs "CircuitChecker" 2 10 .int false := ⟨_, _, _, pY2, rfl, pY2_ok, pN2_ok, rfl, rfl, fun h => by cases h⟩
theorem fCh_118 : pm_Fl "CircuitChecker" 118 7 8 false := ⟨_, _, _, rfl, by decide, by decide +kernel, pW7, Or.inr ⟨"CircuitChecker", pm_inN 266 (by decide +kernel) rfl⟩⟩ -- met
theorem sCh_118 : pm_Fs "CircuitChecker" 7 8 .int false := ⟨_, _, _, pY7, rfl, pY7_ok, pN7_ok, rfl, rfl, fun h => by cases h⟩
theorem fCh_128 : pm_Fl "CircuitChecker" 128 9 2 false := ⟨_, _, _, rfl, by decide, by decide +kernel, pW9, Or.inr ⟨"CircuitChecker", pm_inN 334 (by decide +kernel) rfl⟩⟩ -- length
theorem sCh_128 : pm_Fs "CircuitChecker" 9 2 .int false := ⟨_, _, _, pY9, rfl, pY9_ok, pN9_ok, rfl, rfl, fun h => by cases h⟩
theorem fCh_129 : pm_Fl "CircuitChecker" 129 9 3 false := ⟨_, _, _, rfl, by decide, by decide +kernel, pW9, Or.inr ⟨"CircuitChecker", pm_inN 336 (by decide +kernel) rfl⟩⟩ -- there
theorem sCh_129 : pm_Fs "CircuitChecker" 9 3 .boolean false := ⟨_, _, _, pY9, rfl, pY9_ok, pN9_ok, rfl, rfl, fun h => by cases h⟩
theorem fCh_133 : pm_Fl "CircuitChecker" 133 9 0 true := ⟨_, _, _, rfl, by decide, by decide +kernel, pW9, Or.inr ⟨"CircuitChecker", pm_inN 330 (by decide +kernel) rfl⟩⟩ -- state
theorem fCh_137 : pm_Fl "CircuitChecker" 137 9 1 true := ⟨_, _, _, rfl, by decide, by decide +kernel, pW9, Or.inr ⟨"CircuitChecker", pm_inN 332 (by decide +kernel) rfl⟩⟩ -- inputs
theorem fCh_143 : pm_Fl "CircuitChecker" 143 7 4 true := ⟨_, _, _, rfl, by decide, by decide +kernel, pW7, Or.inr ⟨"CircuitChecker", pm_inN 258 (by decide +kernel) rfl⟩⟩ -- next
theorem fCh_146 : pm_Fl "CircuitChecker" 146 0 7 false := ⟨_, _, _, rfl, by decide, by decide +kernel, pW0, Or.inl (pm_in 589 (by decide +kernel) rfl)⟩ -- state
theorem sCh_146 : pm_Fs "CircuitChecker" 0 7 .int false := ⟨_, _, _, pY0, rfl, pY0_ok, pN0_ok, rfl, rfl, fun h => by cases h⟩
theorem fCh_152 : pm_Fl "CircuitChecker" 152 2 5 false := ⟨_, _, _, rfl, by decide, by decide +kernel, pW2, Or.inr ⟨"CircuitChecker", pm_inN 101 (by decide +kernel) rfl⟩⟩ -- names
theorem sCh_152 : pm_Fs "CircuitChecker" 2 5 .int false := ⟨_, _, _, pY2, rfl, pY2_ok, pN2_ok, rfl, rfl, fun h => by cases h⟩
theorem fCh_155 : pm_Fl "CircuitChecker" 155 2 0 true := ⟨_, _, _, rfl, by decide, by decide +kernel, pW2, Or.inr ⟨"CircuitChecker", pm_inN 85 (by decide +kernel) rfl⟩⟩ -- kind
theorem fCh_158 : pm_Fl "CircuitChecker" 158 2 2 true := ⟨_, _, _, rfl, by decide, by decide +kernel, pW2, Or.inr ⟨"CircuitChecker", pm_inN 90 (by decide +kernel) rfl⟩⟩ -- part
theorem fCh_164 : pm_Fl "CircuitChecker" 164 2 7 false := ⟨_, _, _, rfl, by decide, by decide +kernel, pW2, Or.inr ⟨"CircuitChecker", pm_inN 109 (by decide +kernel) rfl⟩⟩ -- regBits
theorem sCh_164 : pm_Fs "CircuitChecker" 2 7 .int false := ⟨_, _, _, pY2, rfl, pY2_ok, pN2_ok, rfl, rfl, fun h => by cases h⟩
theorem fCh_167 : pm_Fl "CircuitChecker" 167 2 8 false := ⟨_, _, _, rfl, by decide, by decide +kernel, pW2, Or.inr ⟨"CircuitChecker", pm_inN 114 (by decide +kernel) rfl⟩⟩ -- inputBits
theorem sCh_167 : pm_Fs "CircuitChecker" 2 8 .int false := ⟨_, _, _, pY2, rfl, pY2_ok, pN2_ok, rfl, rfl, fun h => by cases h⟩
theorem fCh_170 : pm_Fl "CircuitChecker" 170 2 9 false := ⟨_, _, _, rfl, by decide, by decide +kernel, pW2, Or.inr ⟨"CircuitChecker", pm_inN 116 (by decide +kernel) rfl⟩⟩ -- costs
theorem sCh_170 : pm_Fs "CircuitChecker" 2 9 .int false := ⟨_, _, _, pY2, rfl, pY2_ok, pN2_ok, rfl, rfl, fun h => by cases h⟩
theorem fCh_173 : pm_Fl "CircuitChecker" 173 7 1 false := ⟨_, _, _, rfl, by decide, by decide +kernel, pW7, Or.inr ⟨"CircuitChecker", pm_inN 251 (by decide +kernel) rfl⟩⟩ -- stateCount
theorem sCh_173 : pm_Fs "CircuitChecker" 7 1 .int false := ⟨_, _, _, pY7, rfl, pY7_ok, pN7_ok, rfl, rfl, fun h => by cases h⟩
theorem fCh_176 : pm_Fl "CircuitChecker" 176 7 2 false := ⟨_, _, _, rfl, by decide, by decide +kernel, pW7, Or.inr ⟨"CircuitChecker", pm_inN 254 (by decide +kernel) rfl⟩⟩ -- choices
theorem sCh_176 : pm_Fs "CircuitChecker" 7 2 .int false := ⟨_, _, _, pY7, rfl, pY7_ok, pN7_ok, rfl, rfl, fun h => by cases h⟩
theorem fCh_179 : pm_Fl "CircuitChecker" 179 7 7 true := ⟨_, _, _, rfl, by decide, by decide +kernel, pW7, Or.inr ⟨"CircuitChecker", pm_inN 264 (by decide +kernel) rfl⟩⟩ -- order
theorem fCh_186 : pm_Fl "CircuitChecker" 186 2 3 true := ⟨_, _, _, rfl, by decide, by decide +kernel, pW2, Or.inr ⟨"CircuitChecker", pm_inN 94 (by decide +kernel) rfl⟩⟩ -- logic
theorem fCh_198 : pm_Fl "CircuitChecker" 198 2 4 true := ⟨_, _, _, rfl, by decide, by decide +kernel, pW2, Or.inr ⟨"CircuitChecker", pm_inN 97 (by decide +kernel) rfl⟩⟩ -- formulas
theorem fCh_204 : pm_Fl "CircuitChecker" 204 3 2 false := ⟨_, _, _, rfl, by decide, by decide +kernel, pW3, Or.inr ⟨"CircuitChecker", pm_inN 73 (by decide +kernel) rfl⟩⟩ -- length
theorem sCh_204 : pm_Fs "CircuitChecker" 3 2 .int false := ⟨_, _, _, pY3, rfl, pY3_ok, pN3_ok, rfl, rfl, fun h => by cases h⟩
theorem fCh_207 : pm_Fl "CircuitChecker" 207 3 0 true := ⟨_, _, _, rfl, by decide, by decide +kernel, pW3, Or.inr ⟨"CircuitChecker", pm_inN 68 (by decide +kernel) rfl⟩⟩ -- orders
theorem fCh_210 : pm_Fl "CircuitChecker" 210 3 1 true := ⟨_, _, _, rfl, by decide, by decide +kernel, pW3, Or.inr ⟨"CircuitChecker", pm_inN 70 (by decide +kernel) rfl⟩⟩ -- abouts
theorem cCh_71 : Cond.constant "CircuitChecker" 71 (65516) ∈ pm_TS := pm_in 959 (by decide +kernel) rfl
theorem nCh_7 : pm_Cn "CircuitChecker" 7 1 2 := ⟨_, _, pY1, rfl, pW1, pY1_ok, by decide +kernel, pm_in 37 (by decide +kernel) rfl, pm_in 38 (by decide +kernel) rfl, pm_in 2 (by decide +kernel) rfl⟩
theorem nCh_16 : pm_Cn "CircuitChecker" 16 2 11 := ⟨_, _, pY2, rfl, pW2, pY2_ok, by decide +kernel, pm_in 55 (by decide +kernel) rfl, pm_in 56 (by decide +kernel) rfl, pm_in 3 (by decide +kernel) rfl⟩
theorem nCh_23 : pm_Cn "CircuitChecker" 23 4 11 := ⟨_, _, pY4, rfl, pW4, pY4_ok, by decide +kernel, pm_in 144 (by decide +kernel) rfl, pm_in 145 (by decide +kernel) rfl, pm_in 5 (by decide +kernel) rfl⟩
theorem nCh_32 : pm_Cn "CircuitChecker" 32 6 5 := ⟨_, _, pY6, rfl, pW6, pY6_ok, by decide +kernel, pm_in 218 (by decide +kernel) rfl, pm_in 219 (by decide +kernel) rfl, pm_in 7 (by decide +kernel) rfl⟩
theorem nCh_41 : pm_Cn "CircuitChecker" 41 7 12 := ⟨_, _, pY7, rfl, pW7, pY7_ok, by decide +kernel, pm_in 242 (by decide +kernel) rfl, pm_in 243 (by decide +kernel) rfl, pm_in 8 (by decide +kernel) rfl⟩
theorem nCh_48 : pm_Cn "CircuitChecker" 48 8 6 := ⟨_, _, pY8, rfl, pW8, pY8_ok, by decide +kernel, pm_in 298 (by decide +kernel) rfl, pm_in 299 (by decide +kernel) rfl, pm_in 9 (by decide +kernel) rfl⟩
theorem nCh_57 : pm_Cn "CircuitChecker" 57 9 4 := ⟨_, _, pY9, rfl, pW9, pY9_ok, by decide +kernel, pm_in 323 (by decide +kernel) rfl, pm_in 324 (by decide +kernel) rfl, pm_in 10 (by decide +kernel) rfl⟩
theorem wCh_init : Cond.code kCh_init.1 kCh_init.2.1 kCh_init.2.2.1 kCh_init.2.2.2 ∈ pm_TS := pm_in 33 (by decide +kernel) rfl
theorem iCh_init : kCh_init.1.name = "<init>" ∧ kCh_init.2.2.2 = none ∧ Cond.instanceMethod kCh_init.1 ∈ pm_TS := ⟨rfl, rfl, pm_in 32 (by decide +kernel) rfl⟩
theorem wCh_workOut : Cond.code kCh_workOut.1 kCh_workOut.2.1 kCh_workOut.2.2.1 kCh_workOut.2.2.2 ∈ pm_TS := pm_in 349 (by decide +kernel) rfl
theorem vCh_workOut : pm_Vt kCh_workOut := ⟨pm_in 348 (by decide +kernel) rfl, pm_inS (q := (kCh_workOut.1, 8)) 0 (by decide +kernel)⟩
theorem wCh_perform : Cond.code kCh_perform.1 kCh_perform.2.1 kCh_perform.2.2.1 kCh_perform.2.2.2 ∈ pm_TS := pm_in 376 (by decide +kernel) rfl
theorem vCh_perform : pm_Vt kCh_perform := ⟨pm_in 375 (by decide +kernel) rfl, pm_inS (q := (kCh_perform.1, 8)) 2 (by decide +kernel)⟩
theorem wCh_read : Cond.code kCh_read.1 kCh_read.2.1 kCh_read.2.2.1 kCh_read.2.2.2 ∈ pm_TS := pm_in 610 (by decide +kernel) rfl
theorem vCh_read : pm_Vt kCh_read := ⟨pm_in 608 (by decide +kernel) rfl, pm_in 609 (by decide +kernel) rfl⟩
theorem wCh_fault : Cond.code kCh_fault.1 kCh_fault.2.1 kCh_fault.2.2.1 kCh_fault.2.2.2 ∈ pm_TS := pm_in 942 (by decide +kernel) rfl
theorem vCh_fault : pm_Vt kCh_fault := ⟨pm_in 940 (by decide +kernel) rfl, pm_in 941 (by decide +kernel) rfl⟩
theorem wCh_reachable : Cond.code kCh_reachable.1 kCh_reachable.2.1 kCh_reachable.2.2.1 kCh_reachable.2.2.2 ∈ pm_TS := pm_in 946 (by decide +kernel) rfl
theorem vCh_reachable : pm_Vt kCh_reachable := ⟨pm_in 944 (by decide +kernel) rfl, pm_in 945 (by decide +kernel) rfl⟩
theorem wCh_count : Cond.code kCh_count.1 kCh_count.2.1 kCh_count.2.2.1 kCh_count.2.2.2 ∈ pm_TS := pm_in 950 (by decide +kernel) rfl
theorem vCh_count : pm_Vt kCh_count := ⟨pm_in 948 (by decide +kernel) rfl, pm_in 949 (by decide +kernel) rfl⟩
theorem wCh_feed : Cond.code kCh_feed.1 kCh_feed.2.1 kCh_feed.2.2.1 kCh_feed.2.2.2 ∈ pm_TS := pm_in 958 (by decide +kernel) rfl
theorem vCh_feed : pm_Vt kCh_feed := ⟨pm_in 956 (by decide +kernel) rfl, pm_in 957 (by decide +kernel) rfl⟩
theorem wCh_end : Cond.code kCh_end.1 kCh_end.2.1 kCh_end.2.2.1 kCh_end.2.2.2 ∈ pm_TS := pm_in 1036 (by decide +kernel) rfl
theorem vCh_end : pm_Vt kCh_end := ⟨pm_in 1034 (by decide +kernel) rfl, pm_in 1035 (by decide +kernel) rfl⟩
theorem wCh_holds : Cond.code kCh_holds.1 kCh_holds.2.1 kCh_holds.2.2.1 kCh_holds.2.2.2 ∈ pm_TS := pm_in 1059 (by decide +kernel) rfl
theorem vCh_holds : pm_Vt kCh_holds := ⟨pm_in 1057 (by decide +kernel) rfl, pm_in 1058 (by decide +kernel) rfl⟩
theorem wCh_isSpec : Cond.code kCh_isSpec.1 kCh_isSpec.2.1 kCh_isSpec.2.2.1 kCh_isSpec.2.2.2 ∈ pm_TS := pm_in 1063 (by decide +kernel) rfl
theorem vCh_isSpec : pm_Vt kCh_isSpec := ⟨pm_in 1062 (by decide +kernel) rfl, pm_inS (q := (kCh_isSpec.1, 8)) 70 (by decide +kernel)⟩
theorem wCh_states : Cond.code kCh_states.1 kCh_states.2.1 kCh_states.2.2.1 kCh_states.2.2.2 ∈ pm_TS := pm_in 1089 (by decide +kernel) rfl
theorem vCh_states : pm_Vt kCh_states := ⟨pm_in 1087 (by decide +kernel) rfl, pm_in 1088 (by decide +kernel) rfl⟩
theorem wCh_at : Cond.code kCh_at.1 kCh_at.2.1 kCh_at.2.2.1 kCh_at.2.2.2 ∈ pm_TS := pm_in 1106 (by decide +kernel) rfl
theorem vCh_at : pm_Vt kCh_at := ⟨pm_in 1104 (by decide +kernel) rfl, pm_in 1105 (by decide +kernel) rfl⟩
theorem wCh_isState : Cond.code kCh_isState.1 kCh_isState.2.1 kCh_isState.2.2.1 kCh_isState.2.2.2 ∈ pm_TS := pm_in 1110 (by decide +kernel) rfl
theorem vCh_isState : pm_Vt kCh_isState := ⟨pm_in 1109 (by decide +kernel) rfl, pm_inS (q := (kCh_isState.1, 8)) 71 (by decide +kernel)⟩
theorem wCh_trace : Cond.code kCh_trace.1 kCh_trace.2.1 kCh_trace.2.2.1 kCh_trace.2.2.2 ∈ pm_TS := pm_in 1117 (by decide +kernel) rfl
theorem vCh_trace : pm_Vt kCh_trace := ⟨pm_in 1115 (by decide +kernel) rfl, pm_in 1116 (by decide +kernel) rfl⟩
theorem wCh_firstMet : Cond.code kCh_firstMet.1 kCh_firstMet.2.1 kCh_firstMet.2.2.1 kCh_firstMet.2.2.2 ∈ pm_TS := pm_in 1121 (by decide +kernel) rfl
theorem vCh_firstMet : pm_Vt kCh_firstMet := ⟨pm_in 1120 (by decide +kernel) rfl, pm_inS (q := (kCh_firstMet.1, 8)) 72 (by decide +kernel)⟩
theorem wCh_step : Cond.code kCh_step.1 kCh_step.2.1 kCh_step.2.2.1 kCh_step.2.2.2 ∈ pm_TS := pm_in 1132 (by decide +kernel) rfl
theorem vCh_step : pm_Vt kCh_step := ⟨pm_in 1130 (by decide +kernel) rfl, pm_in 1131 (by decide +kernel) rfl⟩
theorem wCh_tick : Cond.code kCh_tick.1 kCh_tick.2.1 kCh_tick.2.2.1 kCh_tick.2.2.2 ∈ pm_TS := pm_in 1139 (by decide +kernel) rfl
theorem vCh_tick : pm_Vt kCh_tick := ⟨pm_in 1137 (by decide +kernel) rfl, pm_in 1138 (by decide +kernel) rfl⟩
theorem wCh_areInputs : Cond.code kCh_areInputs.1 kCh_areInputs.2.1 kCh_areInputs.2.2.1 kCh_areInputs.2.2.2 ∈ pm_TS := pm_in 1143 (by decide +kernel) rfl
theorem vCh_areInputs : pm_Vt kCh_areInputs := ⟨pm_in 1142 (by decide +kernel) rfl, pm_inS (q := (kCh_areInputs.1, 8)) 73 (by decide +kernel)⟩
theorem wCh_go : Cond.code kCh_go.1 kCh_go.2.1 kCh_go.2.2.1 kCh_go.2.2.2 ∈ pm_TS := pm_in 1151 (by decide +kernel) rfl
theorem vCh_go : pm_Vt kCh_go := ⟨pm_in 1149 (by decide +kernel) rfl, pm_in 1150 (by decide +kernel) rfl⟩
theorem wCh_value : Cond.code kCh_value.1 kCh_value.2.1 kCh_value.2.2.1 kCh_value.2.2.2 ∈ pm_TS := pm_in 1158 (by decide +kernel) rfl
theorem vCh_value : pm_Vt kCh_value := ⟨pm_in 1156 (by decide +kernel) rfl, pm_in 1157 (by decide +kernel) rfl⟩
/-! java/util/Arrays: cards, decoded instructions, links -/
def kAr_fill : pmK := (⟨"java/util/Arrays", "fill", "([II)V"⟩, prog_27_method_103_code, 4, none)
theorem dAr_fill_0 : decode kAr_fill.2.1 0 = .ok (.iconst 0, 1) := by decide +kernel
theorem dAr_fill_1 : decode kAr_fill.2.1 1 = .ok (.istore_n 2, 1) := by decide +kernel
theorem dAr_fill_2 : decode kAr_fill.2.1 2 = .ok (.aload_n 0, 1) := by decide +kernel
theorem dAr_fill_3 : decode kAr_fill.2.1 3 = .ok (.arraylength, 1) := by decide +kernel
theorem dAr_fill_4 : decode kAr_fill.2.1 4 = .ok (.istore_n 3, 1) := by decide +kernel
theorem dAr_fill_5 : decode kAr_fill.2.1 5 = .ok (.iload_n 2, 1) := by decide +kernel
theorem dAr_fill_6 : decode kAr_fill.2.1 6 = .ok (.iload_n 3, 1) := by decide +kernel
theorem dAr_fill_7 : decode kAr_fill.2.1 7 = .ok (.if_icmp .ge 13, 3) := by decide +kernel
theorem dAr_fill_10 : decode kAr_fill.2.1 10 = .ok (.aload_n 0, 1) := by decide +kernel
theorem dAr_fill_11 : decode kAr_fill.2.1 11 = .ok (.iload_n 2, 1) := by decide +kernel
theorem dAr_fill_12 : decode kAr_fill.2.1 12 = .ok (.iload_n 1, 1) := by decide +kernel
theorem dAr_fill_13 : decode kAr_fill.2.1 13 = .ok (.iastore, 1) := by decide +kernel
theorem dAr_fill_14 : decode kAr_fill.2.1 14 = .ok (.iinc 2 1, 3) := by decide +kernel
theorem dAr_fill_17 : decode kAr_fill.2.1 17 = .ok (.goto (-12), 3) := by decide +kernel
theorem dAr_fill_20 : decode kAr_fill.2.1 20 = .ok (.return_, 1) := by decide +kernel
theorem wAr_fill : Cond.code kAr_fill.1 kAr_fill.2.1 kAr_fill.2.2.1 kAr_fill.2.2.2 ∈ pm_TS := pm_in 564 (by decide +kernel) rfl
theorem tAr_fill : Cond.static kAr_fill.1 ∈ pm_TS := pm_in 563 (by decide +kernel) rfl
/-! java/lang/Long: cards, decoded instructions, links -/
def kLo_bitCount : pmK := (⟨"java/lang/Long", "bitCount", "(J)I"⟩, prog_19_method_50_code, 2, (some .int))
theorem dLo_bitCount_0 : decode kLo_bitCount.2.1 0 = .ok (.lload_n 0, 1) := by decide +kernel
theorem dLo_bitCount_1 : decode kLo_bitCount.2.1 1 = .ok (.lload_n 0, 1) := by decide +kernel
theorem dLo_bitCount_2 : decode kLo_bitCount.2.1 2 = .ok (.iconst 1, 1) := by decide +kernel
theorem dLo_bitCount_3 : decode kLo_bitCount.2.1 3 = .ok (.lushr, 1) := by decide +kernel
theorem dLo_bitCount_4 : decode kLo_bitCount.2.1 4 = .ok (.ldc2_w 314, 3) := by decide +kernel
theorem dLo_bitCount_7 : decode kLo_bitCount.2.1 7 = .ok (.land, 1) := by decide +kernel
theorem dLo_bitCount_8 : decode kLo_bitCount.2.1 8 = .ok (.lsub, 1) := by decide +kernel
theorem dLo_bitCount_9 : decode kLo_bitCount.2.1 9 = .ok (.lstore_n 0, 1) := by decide +kernel
theorem dLo_bitCount_10 : decode kLo_bitCount.2.1 10 = .ok (.lload_n 0, 1) := by decide +kernel
theorem dLo_bitCount_11 : decode kLo_bitCount.2.1 11 = .ok (.ldc2_w 316, 3) := by decide +kernel
theorem dLo_bitCount_14 : decode kLo_bitCount.2.1 14 = .ok (.land, 1) := by decide +kernel
theorem dLo_bitCount_15 : decode kLo_bitCount.2.1 15 = .ok (.lload_n 0, 1) := by decide +kernel
theorem dLo_bitCount_16 : decode kLo_bitCount.2.1 16 = .ok (.iconst 2, 1) := by decide +kernel
theorem dLo_bitCount_17 : decode kLo_bitCount.2.1 17 = .ok (.lushr, 1) := by decide +kernel
theorem dLo_bitCount_18 : decode kLo_bitCount.2.1 18 = .ok (.ldc2_w 316, 3) := by decide +kernel
theorem dLo_bitCount_21 : decode kLo_bitCount.2.1 21 = .ok (.land, 1) := by decide +kernel
theorem dLo_bitCount_22 : decode kLo_bitCount.2.1 22 = .ok (.ladd, 1) := by decide +kernel
theorem dLo_bitCount_23 : decode kLo_bitCount.2.1 23 = .ok (.lstore_n 0, 1) := by decide +kernel
theorem dLo_bitCount_24 : decode kLo_bitCount.2.1 24 = .ok (.lload_n 0, 1) := by decide +kernel
theorem dLo_bitCount_25 : decode kLo_bitCount.2.1 25 = .ok (.lload_n 0, 1) := by decide +kernel
theorem dLo_bitCount_26 : decode kLo_bitCount.2.1 26 = .ok (.iconst 4, 1) := by decide +kernel
theorem dLo_bitCount_27 : decode kLo_bitCount.2.1 27 = .ok (.lushr, 1) := by decide +kernel
theorem dLo_bitCount_28 : decode kLo_bitCount.2.1 28 = .ok (.ladd, 1) := by decide +kernel
theorem dLo_bitCount_29 : decode kLo_bitCount.2.1 29 = .ok (.ldc2_w 318, 3) := by decide +kernel
theorem dLo_bitCount_32 : decode kLo_bitCount.2.1 32 = .ok (.land, 1) := by decide +kernel
theorem dLo_bitCount_33 : decode kLo_bitCount.2.1 33 = .ok (.lstore_n 0, 1) := by decide +kernel
theorem dLo_bitCount_34 : decode kLo_bitCount.2.1 34 = .ok (.lload_n 0, 1) := by decide +kernel
theorem dLo_bitCount_35 : decode kLo_bitCount.2.1 35 = .ok (.lload_n 0, 1) := by decide +kernel
theorem dLo_bitCount_36 : decode kLo_bitCount.2.1 36 = .ok (.bipush 8, 2) := by decide +kernel
theorem dLo_bitCount_38 : decode kLo_bitCount.2.1 38 = .ok (.lushr, 1) := by decide +kernel
theorem dLo_bitCount_39 : decode kLo_bitCount.2.1 39 = .ok (.ladd, 1) := by decide +kernel
theorem dLo_bitCount_40 : decode kLo_bitCount.2.1 40 = .ok (.lstore_n 0, 1) := by decide +kernel
theorem dLo_bitCount_41 : decode kLo_bitCount.2.1 41 = .ok (.lload_n 0, 1) := by decide +kernel
theorem dLo_bitCount_42 : decode kLo_bitCount.2.1 42 = .ok (.lload_n 0, 1) := by decide +kernel
theorem dLo_bitCount_43 : decode kLo_bitCount.2.1 43 = .ok (.bipush 16, 2) := by decide +kernel
theorem dLo_bitCount_45 : decode kLo_bitCount.2.1 45 = .ok (.lushr, 1) := by decide +kernel
theorem dLo_bitCount_46 : decode kLo_bitCount.2.1 46 = .ok (.ladd, 1) := by decide +kernel
theorem dLo_bitCount_47 : decode kLo_bitCount.2.1 47 = .ok (.lstore_n 0, 1) := by decide +kernel
theorem dLo_bitCount_48 : decode kLo_bitCount.2.1 48 = .ok (.lload_n 0, 1) := by decide +kernel
theorem dLo_bitCount_49 : decode kLo_bitCount.2.1 49 = .ok (.lload_n 0, 1) := by decide +kernel
theorem dLo_bitCount_50 : decode kLo_bitCount.2.1 50 = .ok (.bipush 32, 2) := by decide +kernel
theorem dLo_bitCount_52 : decode kLo_bitCount.2.1 52 = .ok (.lushr, 1) := by decide +kernel
theorem dLo_bitCount_53 : decode kLo_bitCount.2.1 53 = .ok (.ladd, 1) := by decide +kernel
theorem dLo_bitCount_54 : decode kLo_bitCount.2.1 54 = .ok (.lstore_n 0, 1) := by decide +kernel
theorem dLo_bitCount_55 : decode kLo_bitCount.2.1 55 = .ok (.lload_n 0, 1) := by decide +kernel
theorem dLo_bitCount_56 : decode kLo_bitCount.2.1 56 = .ok (.l2i, 1) := by decide +kernel
theorem dLo_bitCount_57 : decode kLo_bitCount.2.1 57 = .ok (.bipush 127, 2) := by decide +kernel
theorem dLo_bitCount_59 : decode kLo_bitCount.2.1 59 = .ok (.iand, 1) := by decide +kernel
theorem dLo_bitCount_60 : decode kLo_bitCount.2.1 60 = .ok (.ireturn, 1) := by decide +kernel
theorem cLo_314 : Cond.constantLong "java/lang/Long" 314 (6148914691236517205) ∈ pm_TS := pm_in 1097 (by decide +kernel) rfl
theorem cLo_316 : Cond.constantLong "java/lang/Long" 316 (3689348814741910323) ∈ pm_TS := pm_in 1098 (by decide +kernel) rfl
theorem cLo_318 : Cond.constantLong "java/lang/Long" 318 (1085102592571150095) ∈ pm_TS := pm_in 1099 (by decide +kernel) rfl
theorem wLo_bitCount : Cond.code kLo_bitCount.1 kLo_bitCount.2.1 kLo_bitCount.2.2.1 kLo_bitCount.2.2.2 ∈ pm_TS := pm_in 1096 (by decide +kernel) rfl
theorem tLo_bitCount : Cond.static kLo_bitCount.1 ∈ pm_TS := pm_in 1095 (by decide +kernel) rfl
