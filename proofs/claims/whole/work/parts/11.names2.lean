/-! CircuitChecker$Tokens: cards, decoded instructions, links -/
def kTk_init : pmK := (⟨"CircuitChecker$Tokens", "<init>", "(LCircuitChecker$Tape;)V"⟩, prog_9_method_1_code, 2, none)
def kTk_part : pmK := (⟨"CircuitChecker$Tokens", "part", "()V"⟩, prog_9_method_2_code, 3, none)
def kTk_skipBlanks : pmK := (⟨"CircuitChecker$Tokens", "skipBlanks", "()V"⟩, prog_9_method_3_code, 3, none)
def kTk_scan : pmK := (⟨"CircuitChecker$Tokens", "scan", "(I)I"⟩, prog_9_method_4_code, 3, (some .int))
def kTk_isLetter : pmK := (⟨"CircuitChecker$Tokens", "isLetter", "(I)Z"⟩, prog_9_method_13_code, 1, (some .boolean))
def kTk_scanWord : pmK := (⟨"CircuitChecker$Tokens", "scanWord", "()I"⟩, prog_9_method_5_code, 3, (some .int))
def kTk_isOfWord : pmK := (⟨"CircuitChecker$Tokens", "isOfWord", "(I)Z"⟩, prog_9_method_12_code, 1, (some .boolean))
def kTk_isDigit : pmK := (⟨"CircuitChecker$Tokens", "isDigit", "(I)Z"⟩, prog_9_method_14_code, 1, (some .boolean))
def kTk_kindOfLongWord : pmK := (⟨"CircuitChecker$Tokens", "kindOfLongWord", "(II)I"⟩, prog_9_method_9_code, 3, (some .int))
def kTk_isWord : pmK := (⟨"CircuitChecker$Tokens", "isWord", "(Ljava/lang/String;II)Z"⟩, prog_9_method_10_code, 5, (some .boolean))
def kTk_kindOfShortWord : pmK := (⟨"CircuitChecker$Tokens", "kindOfShortWord", "(II)I"⟩, prog_9_method_8_code, 4, (some .int))
def kTk_scanNumber : pmK := (⟨"CircuitChecker$Tokens", "scanNumber", "(I)I"⟩, prog_9_method_6_code, 4, (some .int))
def kTk_scanSign : pmK := (⟨"CircuitChecker$Tokens", "scanSign", "(I)I"⟩, prog_9_method_7_code, 4, (some .int))
def kTk_areSame : pmK := (⟨"CircuitChecker$Tokens", "areSame", "(II)Z"⟩, prog_9_method_11_code, 5, (some .boolean))
theorem dTk_init_0 : decode kTk_init.2.1 0 = .ok (.aload_n 0, 1) := by decide +kernel
theorem dTk_init_1 : decode kTk_init.2.1 1 = .ok (.invokespecial 3, 3) := by decide +kernel
theorem dTk_init_4 : decode kTk_init.2.1 4 = .ok (.aload_n 0, 1) := by decide +kernel
theorem dTk_init_5 : decode kTk_init.2.1 5 = .ok (.sipush 4001, 3) := by decide +kernel
theorem dTk_init_8 : decode kTk_init.2.1 8 = .ok (.newarray .int, 2) := by decide +kernel
theorem dTk_init_10 : decode kTk_init.2.1 10 = .ok (.putfield 9, 3) := by decide +kernel
theorem dTk_init_13 : decode kTk_init.2.1 13 = .ok (.aload_n 0, 1) := by decide +kernel
theorem dTk_init_14 : decode kTk_init.2.1 14 = .ok (.sipush 4001, 3) := by decide +kernel
theorem dTk_init_17 : decode kTk_init.2.1 17 = .ok (.newarray .int, 2) := by decide +kernel
theorem dTk_init_19 : decode kTk_init.2.1 19 = .ok (.putfield 15, 3) := by decide +kernel
theorem dTk_init_22 : decode kTk_init.2.1 22 = .ok (.aload_n 0, 1) := by decide +kernel
theorem dTk_init_23 : decode kTk_init.2.1 23 = .ok (.sipush 4001, 3) := by decide +kernel
theorem dTk_init_26 : decode kTk_init.2.1 26 = .ok (.newarray .int, 2) := by decide +kernel
theorem dTk_init_28 : decode kTk_init.2.1 28 = .ok (.putfield 18, 3) := by decide +kernel
theorem dTk_init_31 : decode kTk_init.2.1 31 = .ok (.aload_n 0, 1) := by decide +kernel
theorem dTk_init_32 : decode kTk_init.2.1 32 = .ok (.sipush 4001, 3) := by decide +kernel
theorem dTk_init_35 : decode kTk_init.2.1 35 = .ok (.newarray .int, 2) := by decide +kernel
theorem dTk_init_37 : decode kTk_init.2.1 37 = .ok (.putfield 21, 3) := by decide +kernel
theorem dTk_init_40 : decode kTk_init.2.1 40 = .ok (.aload_n 0, 1) := by decide +kernel
theorem dTk_init_41 : decode kTk_init.2.1 41 = .ok (.aload_n 1, 1) := by decide +kernel
theorem dTk_init_42 : decode kTk_init.2.1 42 = .ok (.putfield 24, 3) := by decide +kernel
theorem dTk_init_45 : decode kTk_init.2.1 45 = .ok (.return_, 1) := by decide +kernel
theorem dTk_part_0 : decode kTk_part.2.1 0 = .ok (.aload_n 0, 1) := by decide +kernel
theorem dTk_part_1 : decode kTk_part.2.1 1 = .ok (.iconst 0, 1) := by decide +kernel
theorem dTk_part_2 : decode kTk_part.2.1 2 = .ok (.putfield 28, 3) := by decide +kernel
theorem dTk_part_5 : decode kTk_part.2.1 5 = .ok (.aload_n 0, 1) := by decide +kernel
theorem dTk_part_6 : decode kTk_part.2.1 6 = .ok (.iconst 0, 1) := by decide +kernel
theorem dTk_part_7 : decode kTk_part.2.1 7 = .ok (.putfield 32, 3) := by decide +kernel
theorem dTk_part_10 : decode kTk_part.2.1 10 = .ok (.iconst 1, 1) := by decide +kernel
theorem dTk_part_11 : decode kTk_part.2.1 11 = .ok (.istore_n 1, 1) := by decide +kernel
theorem dTk_part_12 : decode kTk_part.2.1 12 = .ok (.iconst 0, 1) := by decide +kernel
theorem dTk_part_13 : decode kTk_part.2.1 13 = .ok (.istore_n 2, 1) := by decide +kernel
theorem dTk_part_14 : decode kTk_part.2.1 14 = .ok (.iload_n 2, 1) := by decide +kernel
theorem dTk_part_15 : decode kTk_part.2.1 15 = .ok (.sipush 4000, 3) := by decide +kernel
theorem dTk_part_18 : decode kTk_part.2.1 18 = .ok (.if_icmp .gt 79, 3) := by decide +kernel
theorem dTk_part_21 : decode kTk_part.2.1 21 = .ok (.iload_n 1, 1) := by decide +kernel
theorem dTk_part_22 : decode kTk_part.2.1 22 = .ok (.ifCond .eq 75, 3) := by decide +kernel
theorem dTk_part_25 : decode kTk_part.2.1 25 = .ok (.aload_n 0, 1) := by decide +kernel
theorem dTk_part_26 : decode kTk_part.2.1 26 = .ok (.invokevirtual 35, 3) := by decide +kernel
theorem dTk_part_29 : decode kTk_part.2.1 29 = .ok (.aload_n 0, 1) := by decide +kernel
theorem dTk_part_30 : decode kTk_part.2.1 30 = .ok (.getfield 15, 3) := by decide +kernel
theorem dTk_part_33 : decode kTk_part.2.1 33 = .ok (.iload_n 2, 1) := by decide +kernel
theorem dTk_part_34 : decode kTk_part.2.1 34 = .ok (.aload_n 0, 1) := by decide +kernel
theorem dTk_part_35 : decode kTk_part.2.1 35 = .ok (.getfield 28, 3) := by decide +kernel
theorem dTk_part_38 : decode kTk_part.2.1 38 = .ok (.iastore, 1) := by decide +kernel
theorem dTk_part_39 : decode kTk_part.2.1 39 = .ok (.aload_n 0, 1) := by decide +kernel
theorem dTk_part_40 : decode kTk_part.2.1 40 = .ok (.getfield 9, 3) := by decide +kernel
theorem dTk_part_43 : decode kTk_part.2.1 43 = .ok (.iload_n 2, 1) := by decide +kernel
theorem dTk_part_44 : decode kTk_part.2.1 44 = .ok (.aload_n 0, 1) := by decide +kernel
theorem dTk_part_45 : decode kTk_part.2.1 45 = .ok (.iload_n 2, 1) := by decide +kernel
theorem dTk_part_46 : decode kTk_part.2.1 46 = .ok (.invokevirtual 38, 3) := by decide +kernel
theorem dTk_part_49 : decode kTk_part.2.1 49 = .ok (.iastore, 1) := by decide +kernel
theorem dTk_part_50 : decode kTk_part.2.1 50 = .ok (.aload_n 0, 1) := by decide +kernel
theorem dTk_part_51 : decode kTk_part.2.1 51 = .ok (.getfield 18, 3) := by decide +kernel
theorem dTk_part_54 : decode kTk_part.2.1 54 = .ok (.iload_n 2, 1) := by decide +kernel
theorem dTk_part_55 : decode kTk_part.2.1 55 = .ok (.aload_n 0, 1) := by decide +kernel
theorem dTk_part_56 : decode kTk_part.2.1 56 = .ok (.getfield 28, 3) := by decide +kernel
theorem dTk_part_59 : decode kTk_part.2.1 59 = .ok (.aload_n 0, 1) := by decide +kernel
theorem dTk_part_60 : decode kTk_part.2.1 60 = .ok (.getfield 15, 3) := by decide +kernel
theorem dTk_part_63 : decode kTk_part.2.1 63 = .ok (.iload_n 2, 1) := by decide +kernel
theorem dTk_part_64 : decode kTk_part.2.1 64 = .ok (.iaload, 1) := by decide +kernel
theorem dTk_part_65 : decode kTk_part.2.1 65 = .ok (.isub, 1) := by decide +kernel
theorem dTk_part_66 : decode kTk_part.2.1 66 = .ok (.iastore, 1) := by decide +kernel
theorem dTk_part_67 : decode kTk_part.2.1 67 = .ok (.aload_n 0, 1) := by decide +kernel
theorem dTk_part_68 : decode kTk_part.2.1 68 = .ok (.iload_n 2, 1) := by decide +kernel
theorem dTk_part_69 : decode kTk_part.2.1 69 = .ok (.iconst 1, 1) := by decide +kernel
theorem dTk_part_70 : decode kTk_part.2.1 70 = .ok (.iadd, 1) := by decide +kernel
theorem dTk_part_71 : decode kTk_part.2.1 71 = .ok (.putfield 32, 3) := by decide +kernel
theorem dTk_part_74 : decode kTk_part.2.1 74 = .ok (.aload_n 0, 1) := by decide +kernel
theorem dTk_part_75 : decode kTk_part.2.1 75 = .ok (.getfield 9, 3) := by decide +kernel
theorem dTk_part_78 : decode kTk_part.2.1 78 = .ok (.iload_n 2, 1) := by decide +kernel
theorem dTk_part_79 : decode kTk_part.2.1 79 = .ok (.iaload, 1) := by decide +kernel
theorem dTk_part_80 : decode kTk_part.2.1 80 = .ok (.bipush 45, 2) := by decide +kernel
theorem dTk_part_82 : decode kTk_part.2.1 82 = .ok (.if_icmp .ge 7, 3) := by decide +kernel
theorem dTk_part_85 : decode kTk_part.2.1 85 = .ok (.iconst 1, 1) := by decide +kernel
theorem dTk_part_86 : decode kTk_part.2.1 86 = .ok (.goto 4, 3) := by decide +kernel
theorem dTk_part_89 : decode kTk_part.2.1 89 = .ok (.iconst 0, 1) := by decide +kernel
theorem dTk_part_90 : decode kTk_part.2.1 90 = .ok (.istore_n 1, 1) := by decide +kernel
theorem dTk_part_91 : decode kTk_part.2.1 91 = .ok (.iinc 2 1, 3) := by decide +kernel
theorem dTk_part_94 : decode kTk_part.2.1 94 = .ok (.goto (-80), 3) := by decide +kernel
theorem dTk_part_97 : decode kTk_part.2.1 97 = .ok (.return_, 1) := by decide +kernel
theorem dTk_skipBlanks_0 : decode kTk_skipBlanks.2.1 0 = .ok (.iconst 0, 1) := by decide +kernel
theorem dTk_skipBlanks_1 : decode kTk_skipBlanks.2.1 1 = .ok (.istore_n 1, 1) := by decide +kernel
theorem dTk_skipBlanks_2 : decode kTk_skipBlanks.2.1 2 = .ok (.aload_n 0, 1) := by decide +kernel
theorem dTk_skipBlanks_3 : decode kTk_skipBlanks.2.1 3 = .ok (.getfield 28, 3) := by decide +kernel
theorem dTk_skipBlanks_6 : decode kTk_skipBlanks.2.1 6 = .ok (.aload_n 0, 1) := by decide +kernel
theorem dTk_skipBlanks_7 : decode kTk_skipBlanks.2.1 7 = .ok (.getfield 24, 3) := by decide +kernel
theorem dTk_skipBlanks_10 : decode kTk_skipBlanks.2.1 10 = .ok (.getfield 42, 3) := by decide +kernel
theorem dTk_skipBlanks_13 : decode kTk_skipBlanks.2.1 13 = .ok (.if_icmp .ge 83, 3) := by decide +kernel
theorem dTk_skipBlanks_16 : decode kTk_skipBlanks.2.1 16 = .ok (.aload_n 0, 1) := by decide +kernel
theorem dTk_skipBlanks_17 : decode kTk_skipBlanks.2.1 17 = .ok (.getfield 24, 3) := by decide +kernel
theorem dTk_skipBlanks_20 : decode kTk_skipBlanks.2.1 20 = .ok (.aload_n 0, 1) := by decide +kernel
theorem dTk_skipBlanks_21 : decode kTk_skipBlanks.2.1 21 = .ok (.getfield 28, 3) := by decide +kernel
theorem dTk_skipBlanks_24 : decode kTk_skipBlanks.2.1 24 = .ok (.invokevirtual 45, 3) := by decide +kernel
theorem dTk_skipBlanks_27 : decode kTk_skipBlanks.2.1 27 = .ok (.istore_n 2, 1) := by decide +kernel
theorem dTk_skipBlanks_28 : decode kTk_skipBlanks.2.1 28 = .ok (.iload_n 1, 1) := by decide +kernel
theorem dTk_skipBlanks_29 : decode kTk_skipBlanks.2.1 29 = .ok (.ifCond .eq 18, 3) := by decide +kernel
theorem dTk_skipBlanks_32 : decode kTk_skipBlanks.2.1 32 = .ok (.iload_n 2, 1) := by decide +kernel
theorem dTk_skipBlanks_33 : decode kTk_skipBlanks.2.1 33 = .ok (.bipush 10, 2) := by decide +kernel
theorem dTk_skipBlanks_35 : decode kTk_skipBlanks.2.1 35 = .ok (.if_icmp .eq 7, 3) := by decide +kernel
theorem dTk_skipBlanks_38 : decode kTk_skipBlanks.2.1 38 = .ok (.iconst 1, 1) := by decide +kernel
theorem dTk_skipBlanks_39 : decode kTk_skipBlanks.2.1 39 = .ok (.goto 4, 3) := by decide +kernel
theorem dTk_skipBlanks_42 : decode kTk_skipBlanks.2.1 42 = .ok (.iconst 0, 1) := by decide +kernel
theorem dTk_skipBlanks_43 : decode kTk_skipBlanks.2.1 43 = .ok (.istore_n 1, 1) := by decide +kernel
theorem dTk_skipBlanks_44 : decode kTk_skipBlanks.2.1 44 = .ok (.goto 39, 3) := by decide +kernel
theorem dTk_skipBlanks_47 : decode kTk_skipBlanks.2.1 47 = .ok (.iload_n 2, 1) := by decide +kernel
theorem dTk_skipBlanks_48 : decode kTk_skipBlanks.2.1 48 = .ok (.bipush 35, 2) := by decide +kernel
theorem dTk_skipBlanks_50 : decode kTk_skipBlanks.2.1 50 = .ok (.if_icmp .ne 8, 3) := by decide +kernel
theorem dTk_skipBlanks_53 : decode kTk_skipBlanks.2.1 53 = .ok (.iconst 1, 1) := by decide +kernel
theorem dTk_skipBlanks_54 : decode kTk_skipBlanks.2.1 54 = .ok (.istore_n 1, 1) := by decide +kernel
theorem dTk_skipBlanks_55 : decode kTk_skipBlanks.2.1 55 = .ok (.goto 28, 3) := by decide +kernel
theorem dTk_skipBlanks_58 : decode kTk_skipBlanks.2.1 58 = .ok (.iload_n 2, 1) := by decide +kernel
theorem dTk_skipBlanks_59 : decode kTk_skipBlanks.2.1 59 = .ok (.bipush 32, 2) := by decide +kernel
theorem dTk_skipBlanks_61 : decode kTk_skipBlanks.2.1 61 = .ok (.if_icmp .eq 22, 3) := by decide +kernel
theorem dTk_skipBlanks_64 : decode kTk_skipBlanks.2.1 64 = .ok (.iload_n 2, 1) := by decide +kernel
theorem dTk_skipBlanks_65 : decode kTk_skipBlanks.2.1 65 = .ok (.bipush 9, 2) := by decide +kernel
theorem dTk_skipBlanks_67 : decode kTk_skipBlanks.2.1 67 = .ok (.if_icmp .eq 16, 3) := by decide +kernel
theorem dTk_skipBlanks_70 : decode kTk_skipBlanks.2.1 70 = .ok (.iload_n 2, 1) := by decide +kernel
theorem dTk_skipBlanks_71 : decode kTk_skipBlanks.2.1 71 = .ok (.bipush 10, 2) := by decide +kernel
theorem dTk_skipBlanks_73 : decode kTk_skipBlanks.2.1 73 = .ok (.if_icmp .eq 10, 3) := by decide +kernel
theorem dTk_skipBlanks_76 : decode kTk_skipBlanks.2.1 76 = .ok (.iload_n 2, 1) := by decide +kernel
theorem dTk_skipBlanks_77 : decode kTk_skipBlanks.2.1 77 = .ok (.bipush 13, 2) := by decide +kernel
theorem dTk_skipBlanks_79 : decode kTk_skipBlanks.2.1 79 = .ok (.if_icmp .eq 4, 3) := by decide +kernel
theorem dTk_skipBlanks_82 : decode kTk_skipBlanks.2.1 82 = .ok (.return_, 1) := by decide +kernel
theorem dTk_skipBlanks_83 : decode kTk_skipBlanks.2.1 83 = .ok (.aload_n 0, 1) := by decide +kernel
theorem dTk_skipBlanks_84 : decode kTk_skipBlanks.2.1 84 = .ok (.dup, 1) := by decide +kernel
theorem dTk_skipBlanks_85 : decode kTk_skipBlanks.2.1 85 = .ok (.getfield 28, 3) := by decide +kernel
theorem dTk_skipBlanks_88 : decode kTk_skipBlanks.2.1 88 = .ok (.iconst 1, 1) := by decide +kernel
theorem dTk_skipBlanks_89 : decode kTk_skipBlanks.2.1 89 = .ok (.iadd, 1) := by decide +kernel
theorem dTk_skipBlanks_90 : decode kTk_skipBlanks.2.1 90 = .ok (.putfield 28, 3) := by decide +kernel
theorem dTk_skipBlanks_93 : decode kTk_skipBlanks.2.1 93 = .ok (.goto (-91), 3) := by decide +kernel
theorem dTk_skipBlanks_96 : decode kTk_skipBlanks.2.1 96 = .ok (.return_, 1) := by decide +kernel
theorem dTk_scan_0 : decode kTk_scan.2.1 0 = .ok (.aload_n 0, 1) := by decide +kernel
theorem dTk_scan_1 : decode kTk_scan.2.1 1 = .ok (.getfield 28, 3) := by decide +kernel
theorem dTk_scan_4 : decode kTk_scan.2.1 4 = .ok (.aload_n 0, 1) := by decide +kernel
theorem dTk_scan_5 : decode kTk_scan.2.1 5 = .ok (.getfield 24, 3) := by decide +kernel
theorem dTk_scan_8 : decode kTk_scan.2.1 8 = .ok (.getfield 42, 3) := by decide +kernel
theorem dTk_scan_11 : decode kTk_scan.2.1 11 = .ok (.if_icmp .lt 6, 3) := by decide +kernel
theorem dTk_scan_14 : decode kTk_scan.2.1 14 = .ok (.bipush 45, 2) := by decide +kernel
theorem dTk_scan_16 : decode kTk_scan.2.1 16 = .ok (.ireturn, 1) := by decide +kernel
theorem dTk_scan_17 : decode kTk_scan.2.1 17 = .ok (.iload_n 1, 1) := by decide +kernel
theorem dTk_scan_18 : decode kTk_scan.2.1 18 = .ok (.sipush 4000, 3) := by decide +kernel
theorem dTk_scan_21 : decode kTk_scan.2.1 21 = .ok (.if_icmp .lt 6, 3) := by decide +kernel
theorem dTk_scan_24 : decode kTk_scan.2.1 24 = .ok (.bipush 47, 2) := by decide +kernel
theorem dTk_scan_26 : decode kTk_scan.2.1 26 = .ok (.ireturn, 1) := by decide +kernel
theorem dTk_scan_27 : decode kTk_scan.2.1 27 = .ok (.aload_n 0, 1) := by decide +kernel
theorem dTk_scan_28 : decode kTk_scan.2.1 28 = .ok (.getfield 24, 3) := by decide +kernel
theorem dTk_scan_31 : decode kTk_scan.2.1 31 = .ok (.aload_n 0, 1) := by decide +kernel
theorem dTk_scan_32 : decode kTk_scan.2.1 32 = .ok (.getfield 28, 3) := by decide +kernel
theorem dTk_scan_35 : decode kTk_scan.2.1 35 = .ok (.invokevirtual 45, 3) := by decide +kernel
theorem dTk_scan_38 : decode kTk_scan.2.1 38 = .ok (.istore_n 2, 1) := by decide +kernel
theorem dTk_scan_39 : decode kTk_scan.2.1 39 = .ok (.iload_n 2, 1) := by decide +kernel
theorem dTk_scan_40 : decode kTk_scan.2.1 40 = .ok (.invokestatic 48, 3) := by decide +kernel
theorem dTk_scan_43 : decode kTk_scan.2.1 43 = .ok (.ifCond .eq 8, 3) := by decide +kernel
theorem dTk_scan_46 : decode kTk_scan.2.1 46 = .ok (.aload_n 0, 1) := by decide +kernel
theorem dTk_scan_47 : decode kTk_scan.2.1 47 = .ok (.invokevirtual 52, 3) := by decide +kernel
theorem dTk_scan_50 : decode kTk_scan.2.1 50 = .ok (.ireturn, 1) := by decide +kernel
theorem dTk_scan_51 : decode kTk_scan.2.1 51 = .ok (.iload_n 2, 1) := by decide +kernel
theorem dTk_scan_52 : decode kTk_scan.2.1 52 = .ok (.invokestatic 56, 3) := by decide +kernel
theorem dTk_scan_55 : decode kTk_scan.2.1 55 = .ok (.ifCond .eq 11, 3) := by decide +kernel
theorem dTk_scan_58 : decode kTk_scan.2.1 58 = .ok (.aload_n 0, 1) := by decide +kernel
theorem dTk_scan_59 : decode kTk_scan.2.1 59 = .ok (.iload_n 1, 1) := by decide +kernel
theorem dTk_scan_60 : decode kTk_scan.2.1 60 = .ok (.invokevirtual 59, 3) := by decide +kernel
theorem dTk_scan_63 : decode kTk_scan.2.1 63 = .ok (.goto 8, 3) := by decide +kernel
theorem dTk_scan_66 : decode kTk_scan.2.1 66 = .ok (.aload_n 0, 1) := by decide +kernel
theorem dTk_scan_67 : decode kTk_scan.2.1 67 = .ok (.iload_n 2, 1) := by decide +kernel
theorem dTk_scan_68 : decode kTk_scan.2.1 68 = .ok (.invokevirtual 62, 3) := by decide +kernel
theorem dTk_scan_71 : decode kTk_scan.2.1 71 = .ok (.ireturn, 1) := by decide +kernel
theorem dTk_isLetter_0 : decode kTk_isLetter.2.1 0 = .ok (.iload_n 0, 1) := by decide +kernel
theorem dTk_isLetter_1 : decode kTk_isLetter.2.1 1 = .ok (.bipush 97, 2) := by decide +kernel
theorem dTk_isLetter_3 : decode kTk_isLetter.2.1 3 = .ok (.if_icmp .lt 9, 3) := by decide +kernel
theorem dTk_isLetter_6 : decode kTk_isLetter.2.1 6 = .ok (.iload_n 0, 1) := by decide +kernel
theorem dTk_isLetter_7 : decode kTk_isLetter.2.1 7 = .ok (.bipush 122, 2) := by decide +kernel
theorem dTk_isLetter_9 : decode kTk_isLetter.2.1 9 = .ok (.if_icmp .le 15, 3) := by decide +kernel
theorem dTk_isLetter_12 : decode kTk_isLetter.2.1 12 = .ok (.iload_n 0, 1) := by decide +kernel
theorem dTk_isLetter_13 : decode kTk_isLetter.2.1 13 = .ok (.bipush 65, 2) := by decide +kernel
theorem dTk_isLetter_15 : decode kTk_isLetter.2.1 15 = .ok (.if_icmp .lt 13, 3) := by decide +kernel
theorem dTk_isLetter_18 : decode kTk_isLetter.2.1 18 = .ok (.iload_n 0, 1) := by decide +kernel
theorem dTk_isLetter_19 : decode kTk_isLetter.2.1 19 = .ok (.bipush 90, 2) := by decide +kernel
theorem dTk_isLetter_21 : decode kTk_isLetter.2.1 21 = .ok (.if_icmp .gt 7, 3) := by decide +kernel
theorem dTk_isLetter_24 : decode kTk_isLetter.2.1 24 = .ok (.iconst 1, 1) := by decide +kernel
theorem dTk_isLetter_25 : decode kTk_isLetter.2.1 25 = .ok (.goto 4, 3) := by decide +kernel
theorem dTk_isLetter_28 : decode kTk_isLetter.2.1 28 = .ok (.iconst 0, 1) := by decide +kernel
theorem dTk_isLetter_29 : decode kTk_isLetter.2.1 29 = .ok (.ireturn, 1) := by decide +kernel
theorem dTk_scanWord_0 : decode kTk_scanWord.2.1 0 = .ok (.aload_n 0, 1) := by decide +kernel
theorem dTk_scanWord_1 : decode kTk_scanWord.2.1 1 = .ok (.getfield 28, 3) := by decide +kernel
theorem dTk_scanWord_4 : decode kTk_scanWord.2.1 4 = .ok (.istore_n 1, 1) := by decide +kernel
theorem dTk_scanWord_5 : decode kTk_scanWord.2.1 5 = .ok (.aload_n 0, 1) := by decide +kernel
theorem dTk_scanWord_6 : decode kTk_scanWord.2.1 6 = .ok (.getfield 28, 3) := by decide +kernel
theorem dTk_scanWord_9 : decode kTk_scanWord.2.1 9 = .ok (.aload_n 0, 1) := by decide +kernel
theorem dTk_scanWord_10 : decode kTk_scanWord.2.1 10 = .ok (.getfield 24, 3) := by decide +kernel
theorem dTk_scanWord_13 : decode kTk_scanWord.2.1 13 = .ok (.getfield 42, 3) := by decide +kernel
theorem dTk_scanWord_16 : decode kTk_scanWord.2.1 16 = .ok (.if_icmp .ge 33, 3) := by decide +kernel
theorem dTk_scanWord_19 : decode kTk_scanWord.2.1 19 = .ok (.aload_n 0, 1) := by decide +kernel
theorem dTk_scanWord_20 : decode kTk_scanWord.2.1 20 = .ok (.getfield 24, 3) := by decide +kernel
theorem dTk_scanWord_23 : decode kTk_scanWord.2.1 23 = .ok (.aload_n 0, 1) := by decide +kernel
theorem dTk_scanWord_24 : decode kTk_scanWord.2.1 24 = .ok (.getfield 28, 3) := by decide +kernel
theorem dTk_scanWord_27 : decode kTk_scanWord.2.1 27 = .ok (.invokevirtual 45, 3) := by decide +kernel
theorem dTk_scanWord_30 : decode kTk_scanWord.2.1 30 = .ok (.invokestatic 65, 3) := by decide +kernel
theorem dTk_scanWord_33 : decode kTk_scanWord.2.1 33 = .ok (.ifCond .eq 16, 3) := by decide +kernel
theorem dTk_scanWord_36 : decode kTk_scanWord.2.1 36 = .ok (.aload_n 0, 1) := by decide +kernel
theorem dTk_scanWord_37 : decode kTk_scanWord.2.1 37 = .ok (.dup, 1) := by decide +kernel
theorem dTk_scanWord_38 : decode kTk_scanWord.2.1 38 = .ok (.getfield 28, 3) := by decide +kernel
theorem dTk_scanWord_41 : decode kTk_scanWord.2.1 41 = .ok (.iconst 1, 1) := by decide +kernel
theorem dTk_scanWord_42 : decode kTk_scanWord.2.1 42 = .ok (.iadd, 1) := by decide +kernel
theorem dTk_scanWord_43 : decode kTk_scanWord.2.1 43 = .ok (.putfield 28, 3) := by decide +kernel
theorem dTk_scanWord_46 : decode kTk_scanWord.2.1 46 = .ok (.goto (-41), 3) := by decide +kernel
theorem dTk_scanWord_49 : decode kTk_scanWord.2.1 49 = .ok (.aload_n 0, 1) := by decide +kernel
theorem dTk_scanWord_50 : decode kTk_scanWord.2.1 50 = .ok (.getfield 28, 3) := by decide +kernel
theorem dTk_scanWord_53 : decode kTk_scanWord.2.1 53 = .ok (.iload_n 1, 1) := by decide +kernel
theorem dTk_scanWord_54 : decode kTk_scanWord.2.1 54 = .ok (.isub, 1) := by decide +kernel
theorem dTk_scanWord_55 : decode kTk_scanWord.2.1 55 = .ok (.istore_n 2, 1) := by decide +kernel
theorem dTk_scanWord_56 : decode kTk_scanWord.2.1 56 = .ok (.iload_n 2, 1) := by decide +kernel
theorem dTk_scanWord_57 : decode kTk_scanWord.2.1 57 = .ok (.bipush 31, 2) := by decide +kernel
theorem dTk_scanWord_59 : decode kTk_scanWord.2.1 59 = .ok (.if_icmp .le 6, 3) := by decide +kernel
theorem dTk_scanWord_62 : decode kTk_scanWord.2.1 62 = .ok (.bipush 46, 2) := by decide +kernel
theorem dTk_scanWord_64 : decode kTk_scanWord.2.1 64 = .ok (.ireturn, 1) := by decide +kernel
theorem dTk_scanWord_65 : decode kTk_scanWord.2.1 65 = .ok (.iload_n 2, 1) := by decide +kernel
theorem dTk_scanWord_66 : decode kTk_scanWord.2.1 66 = .ok (.iconst 2, 1) := by decide +kernel
theorem dTk_scanWord_67 : decode kTk_scanWord.2.1 67 = .ok (.if_icmp .le 12, 3) := by decide +kernel
theorem dTk_scanWord_70 : decode kTk_scanWord.2.1 70 = .ok (.aload_n 0, 1) := by decide +kernel
theorem dTk_scanWord_71 : decode kTk_scanWord.2.1 71 = .ok (.iload_n 1, 1) := by decide +kernel
theorem dTk_scanWord_72 : decode kTk_scanWord.2.1 72 = .ok (.iload_n 2, 1) := by decide +kernel
theorem dTk_scanWord_73 : decode kTk_scanWord.2.1 73 = .ok (.invokevirtual 68, 3) := by decide +kernel
theorem dTk_scanWord_76 : decode kTk_scanWord.2.1 76 = .ok (.goto 9, 3) := by decide +kernel
theorem dTk_scanWord_79 : decode kTk_scanWord.2.1 79 = .ok (.aload_n 0, 1) := by decide +kernel
theorem dTk_scanWord_80 : decode kTk_scanWord.2.1 80 = .ok (.iload_n 1, 1) := by decide +kernel
theorem dTk_scanWord_81 : decode kTk_scanWord.2.1 81 = .ok (.iload_n 2, 1) := by decide +kernel
theorem dTk_scanWord_82 : decode kTk_scanWord.2.1 82 = .ok (.invokevirtual 72, 3) := by decide +kernel
theorem dTk_scanWord_85 : decode kTk_scanWord.2.1 85 = .ok (.ireturn, 1) := by decide +kernel
theorem dTk_isOfWord_0 : decode kTk_isOfWord.2.1 0 = .ok (.iload_n 0, 1) := by decide +kernel
theorem dTk_isOfWord_1 : decode kTk_isOfWord.2.1 1 = .ok (.invokestatic 48, 3) := by decide +kernel
theorem dTk_isOfWord_4 : decode kTk_isOfWord.2.1 4 = .ok (.ifCond .ne 16, 3) := by decide +kernel
theorem dTk_isOfWord_7 : decode kTk_isOfWord.2.1 7 = .ok (.iload_n 0, 1) := by decide +kernel
theorem dTk_isOfWord_8 : decode kTk_isOfWord.2.1 8 = .ok (.invokestatic 56, 3) := by decide +kernel
theorem dTk_isOfWord_11 : decode kTk_isOfWord.2.1 11 = .ok (.ifCond .ne 9, 3) := by decide +kernel
theorem dTk_isOfWord_14 : decode kTk_isOfWord.2.1 14 = .ok (.iload_n 0, 1) := by decide +kernel
theorem dTk_isOfWord_15 : decode kTk_isOfWord.2.1 15 = .ok (.bipush 95, 2) := by decide +kernel
theorem dTk_isOfWord_17 : decode kTk_isOfWord.2.1 17 = .ok (.if_icmp .ne 7, 3) := by decide +kernel
theorem dTk_isOfWord_20 : decode kTk_isOfWord.2.1 20 = .ok (.iconst 1, 1) := by decide +kernel
theorem dTk_isOfWord_21 : decode kTk_isOfWord.2.1 21 = .ok (.goto 4, 3) := by decide +kernel
theorem dTk_isOfWord_24 : decode kTk_isOfWord.2.1 24 = .ok (.iconst 0, 1) := by decide +kernel
theorem dTk_isOfWord_25 : decode kTk_isOfWord.2.1 25 = .ok (.ireturn, 1) := by decide +kernel
theorem dTk_isDigit_0 : decode kTk_isDigit.2.1 0 = .ok (.iload_n 0, 1) := by decide +kernel
theorem dTk_isDigit_1 : decode kTk_isDigit.2.1 1 = .ok (.bipush 48, 2) := by decide +kernel
theorem dTk_isDigit_3 : decode kTk_isDigit.2.1 3 = .ok (.if_icmp .lt 13, 3) := by decide +kernel
theorem dTk_isDigit_6 : decode kTk_isDigit.2.1 6 = .ok (.iload_n 0, 1) := by decide +kernel
theorem dTk_isDigit_7 : decode kTk_isDigit.2.1 7 = .ok (.bipush 57, 2) := by decide +kernel
theorem dTk_isDigit_9 : decode kTk_isDigit.2.1 9 = .ok (.if_icmp .gt 7, 3) := by decide +kernel
theorem dTk_isDigit_12 : decode kTk_isDigit.2.1 12 = .ok (.iconst 1, 1) := by decide +kernel
theorem dTk_isDigit_13 : decode kTk_isDigit.2.1 13 = .ok (.goto 4, 3) := by decide +kernel
theorem dTk_isDigit_16 : decode kTk_isDigit.2.1 16 = .ok (.iconst 0, 1) := by decide +kernel
theorem dTk_isDigit_17 : decode kTk_isDigit.2.1 17 = .ok (.ireturn, 1) := by decide +kernel
theorem dTk_kindOfLongWord_0 : decode kTk_kindOfLongWord.2.1 0 = .ok (.aload_n 0, 1) := by decide +kernel
theorem dTk_kindOfLongWord_1 : decode kTk_kindOfLongWord.2.1 1 = .ok (.ldc 90, 2) := by decide +kernel
theorem dTk_kindOfLongWord_3 : decode kTk_kindOfLongWord.2.1 3 = .ok (.iload_n 1, 1) := by decide +kernel
theorem dTk_kindOfLongWord_4 : decode kTk_kindOfLongWord.2.1 4 = .ok (.iload_n 2, 1) := by decide +kernel
theorem dTk_kindOfLongWord_5 : decode kTk_kindOfLongWord.2.1 5 = .ok (.invokevirtual 92, 3) := by decide +kernel
theorem dTk_kindOfLongWord_8 : decode kTk_kindOfLongWord.2.1 8 = .ok (.ifCond .eq 6, 3) := by decide +kernel
theorem dTk_kindOfLongWord_11 : decode kTk_kindOfLongWord.2.1 11 = .ok (.bipush 29, 2) := by decide +kernel
theorem dTk_kindOfLongWord_13 : decode kTk_kindOfLongWord.2.1 13 = .ok (.ireturn, 1) := by decide +kernel
theorem dTk_kindOfLongWord_14 : decode kTk_kindOfLongWord.2.1 14 = .ok (.aload_n 0, 1) := by decide +kernel
theorem dTk_kindOfLongWord_15 : decode kTk_kindOfLongWord.2.1 15 = .ok (.ldc 96, 2) := by decide +kernel
theorem dTk_kindOfLongWord_17 : decode kTk_kindOfLongWord.2.1 17 = .ok (.iload_n 1, 1) := by decide +kernel
theorem dTk_kindOfLongWord_18 : decode kTk_kindOfLongWord.2.1 18 = .ok (.iload_n 2, 1) := by decide +kernel
theorem dTk_kindOfLongWord_19 : decode kTk_kindOfLongWord.2.1 19 = .ok (.invokevirtual 92, 3) := by decide +kernel
theorem dTk_kindOfLongWord_22 : decode kTk_kindOfLongWord.2.1 22 = .ok (.ifCond .eq 6, 3) := by decide +kernel
theorem dTk_kindOfLongWord_25 : decode kTk_kindOfLongWord.2.1 25 = .ok (.bipush 30, 2) := by decide +kernel
theorem dTk_kindOfLongWord_27 : decode kTk_kindOfLongWord.2.1 27 = .ok (.ireturn, 1) := by decide +kernel
theorem dTk_kindOfLongWord_28 : decode kTk_kindOfLongWord.2.1 28 = .ok (.aload_n 0, 1) := by decide +kernel
theorem dTk_kindOfLongWord_29 : decode kTk_kindOfLongWord.2.1 29 = .ok (.ldc 98, 2) := by decide +kernel
theorem dTk_kindOfLongWord_31 : decode kTk_kindOfLongWord.2.1 31 = .ok (.iload_n 1, 1) := by decide +kernel
theorem dTk_kindOfLongWord_32 : decode kTk_kindOfLongWord.2.1 32 = .ok (.iload_n 2, 1) := by decide +kernel
theorem dTk_kindOfLongWord_33 : decode kTk_kindOfLongWord.2.1 33 = .ok (.invokevirtual 92, 3) := by decide +kernel
theorem dTk_kindOfLongWord_36 : decode kTk_kindOfLongWord.2.1 36 = .ok (.ifCond .eq 6, 3) := by decide +kernel
theorem dTk_kindOfLongWord_39 : decode kTk_kindOfLongWord.2.1 39 = .ok (.bipush 31, 2) := by decide +kernel
theorem dTk_kindOfLongWord_41 : decode kTk_kindOfLongWord.2.1 41 = .ok (.ireturn, 1) := by decide +kernel
theorem dTk_kindOfLongWord_42 : decode kTk_kindOfLongWord.2.1 42 = .ok (.aload_n 0, 1) := by decide +kernel
theorem dTk_kindOfLongWord_43 : decode kTk_kindOfLongWord.2.1 43 = .ok (.ldc 100, 2) := by decide +kernel
theorem dTk_kindOfLongWord_45 : decode kTk_kindOfLongWord.2.1 45 = .ok (.iload_n 1, 1) := by decide +kernel
theorem dTk_kindOfLongWord_46 : decode kTk_kindOfLongWord.2.1 46 = .ok (.iload_n 2, 1) := by decide +kernel
theorem dTk_kindOfLongWord_47 : decode kTk_kindOfLongWord.2.1 47 = .ok (.invokevirtual 92, 3) := by decide +kernel
theorem dTk_kindOfLongWord_50 : decode kTk_kindOfLongWord.2.1 50 = .ok (.ifCond .eq 6, 3) := by decide +kernel
theorem dTk_kindOfLongWord_53 : decode kTk_kindOfLongWord.2.1 53 = .ok (.bipush 32, 2) := by decide +kernel
theorem dTk_kindOfLongWord_55 : decode kTk_kindOfLongWord.2.1 55 = .ok (.ireturn, 1) := by decide +kernel
theorem dTk_kindOfLongWord_56 : decode kTk_kindOfLongWord.2.1 56 = .ok (.aload_n 0, 1) := by decide +kernel
theorem dTk_kindOfLongWord_57 : decode kTk_kindOfLongWord.2.1 57 = .ok (.ldc 102, 2) := by decide +kernel
theorem dTk_kindOfLongWord_59 : decode kTk_kindOfLongWord.2.1 59 = .ok (.iload_n 1, 1) := by decide +kernel
theorem dTk_kindOfLongWord_60 : decode kTk_kindOfLongWord.2.1 60 = .ok (.iload_n 2, 1) := by decide +kernel
theorem dTk_kindOfLongWord_61 : decode kTk_kindOfLongWord.2.1 61 = .ok (.invokevirtual 92, 3) := by decide +kernel
theorem dTk_kindOfLongWord_64 : decode kTk_kindOfLongWord.2.1 64 = .ok (.ifCond .eq 8, 3) := by decide +kernel
theorem dTk_kindOfLongWord_67 : decode kTk_kindOfLongWord.2.1 67 = .ok (.bipush 33, 2) := by decide +kernel
theorem dTk_kindOfLongWord_69 : decode kTk_kindOfLongWord.2.1 69 = .ok (.goto 5, 3) := by decide +kernel
theorem dTk_kindOfLongWord_72 : decode kTk_kindOfLongWord.2.1 72 = .ok (.bipush 43, 2) := by decide +kernel
theorem dTk_kindOfLongWord_74 : decode kTk_kindOfLongWord.2.1 74 = .ok (.ireturn, 1) := by decide +kernel
theorem dTk_isWord_0 : decode kTk_isWord.2.1 0 = .ok (.iload_n 3, 1) := by decide +kernel
theorem dTk_isWord_1 : decode kTk_isWord.2.1 1 = .ok (.aload_n 1, 1) := by decide +kernel
theorem dTk_isWord_2 : decode kTk_isWord.2.1 2 = .ok (.invokevirtual 77, 3) := by decide +kernel
theorem dTk_isWord_5 : decode kTk_isWord.2.1 5 = .ok (.if_icmp .eq 5, 3) := by decide +kernel
theorem dTk_isWord_8 : decode kTk_isWord.2.1 8 = .ok (.iconst 0, 1) := by decide +kernel
theorem dTk_isWord_9 : decode kTk_isWord.2.1 9 = .ok (.ireturn, 1) := by decide +kernel
theorem dTk_isWord_10 : decode kTk_isWord.2.1 10 = .ok (.iconst 0, 1) := by decide +kernel
theorem dTk_isWord_11 : decode kTk_isWord.2.1 11 = .ok (.istore 4, 2) := by decide +kernel
theorem dTk_isWord_13 : decode kTk_isWord.2.1 13 = .ok (.iload 4, 2) := by decide +kernel
theorem dTk_isWord_15 : decode kTk_isWord.2.1 15 = .ok (.iload_n 3, 1) := by decide +kernel
theorem dTk_isWord_16 : decode kTk_isWord.2.1 16 = .ok (.if_icmp .ge 31, 3) := by decide +kernel
theorem dTk_isWord_19 : decode kTk_isWord.2.1 19 = .ok (.aload_n 0, 1) := by decide +kernel
theorem dTk_isWord_20 : decode kTk_isWord.2.1 20 = .ok (.getfield 24, 3) := by decide +kernel
theorem dTk_isWord_23 : decode kTk_isWord.2.1 23 = .ok (.iload_n 2, 1) := by decide +kernel
theorem dTk_isWord_24 : decode kTk_isWord.2.1 24 = .ok (.iload 4, 2) := by decide +kernel
theorem dTk_isWord_26 : decode kTk_isWord.2.1 26 = .ok (.iadd, 1) := by decide +kernel
theorem dTk_isWord_27 : decode kTk_isWord.2.1 27 = .ok (.invokevirtual 45, 3) := by decide +kernel
theorem dTk_isWord_30 : decode kTk_isWord.2.1 30 = .ok (.aload_n 1, 1) := by decide +kernel
theorem dTk_isWord_31 : decode kTk_isWord.2.1 31 = .ok (.iload 4, 2) := by decide +kernel
theorem dTk_isWord_33 : decode kTk_isWord.2.1 33 = .ok (.invokevirtual 81, 3) := by decide +kernel
theorem dTk_isWord_36 : decode kTk_isWord.2.1 36 = .ok (.if_icmp .eq 5, 3) := by decide +kernel
theorem dTk_isWord_39 : decode kTk_isWord.2.1 39 = .ok (.iconst 0, 1) := by decide +kernel
theorem dTk_isWord_40 : decode kTk_isWord.2.1 40 = .ok (.ireturn, 1) := by decide +kernel
theorem dTk_isWord_41 : decode kTk_isWord.2.1 41 = .ok (.iinc 4 1, 3) := by decide +kernel
theorem dTk_isWord_44 : decode kTk_isWord.2.1 44 = .ok (.goto (-31), 3) := by decide +kernel
theorem dTk_isWord_47 : decode kTk_isWord.2.1 47 = .ok (.iconst 1, 1) := by decide +kernel
theorem dTk_isWord_48 : decode kTk_isWord.2.1 48 = .ok (.ireturn, 1) := by decide +kernel
theorem dTk_kindOfShortWord_0 : decode kTk_kindOfShortWord.2.1 0 = .ok (.aload_n 0, 1) := by decide +kernel
theorem dTk_kindOfShortWord_1 : decode kTk_kindOfShortWord.2.1 1 = .ok (.getfield 24, 3) := by decide +kernel
theorem dTk_kindOfShortWord_4 : decode kTk_kindOfShortWord.2.1 4 = .ok (.iload_n 1, 1) := by decide +kernel
theorem dTk_kindOfShortWord_5 : decode kTk_kindOfShortWord.2.1 5 = .ok (.invokevirtual 45, 3) := by decide +kernel
theorem dTk_kindOfShortWord_8 : decode kTk_kindOfShortWord.2.1 8 = .ok (.istore_n 3, 1) := by decide +kernel
theorem dTk_kindOfShortWord_9 : decode kTk_kindOfShortWord.2.1 9 = .ok (.iload_n 2, 1) := by decide +kernel
theorem dTk_kindOfShortWord_10 : decode kTk_kindOfShortWord.2.1 10 = .ok (.iconst 1, 1) := by decide +kernel
theorem dTk_kindOfShortWord_11 : decode kTk_kindOfShortWord.2.1 11 = .ok (.if_icmp .ne 39, 3) := by decide +kernel
theorem dTk_kindOfShortWord_14 : decode kTk_kindOfShortWord.2.1 14 = .ok (.iload_n 3, 1) := by decide +kernel
theorem dTk_kindOfShortWord_15 : decode kTk_kindOfShortWord.2.1 15 = .ok (.bipush 65, 2) := by decide +kernel
theorem dTk_kindOfShortWord_17 : decode kTk_kindOfShortWord.2.1 17 = .ok (.if_icmp .ne 8, 3) := by decide +kernel
theorem dTk_kindOfShortWord_20 : decode kTk_kindOfShortWord.2.1 20 = .ok (.bipush 34, 2) := by decide +kernel
theorem dTk_kindOfShortWord_22 : decode kTk_kindOfShortWord.2.1 22 = .ok (.goto 27, 3) := by decide +kernel
theorem dTk_kindOfShortWord_25 : decode kTk_kindOfShortWord.2.1 25 = .ok (.iload_n 3, 1) := by decide +kernel
theorem dTk_kindOfShortWord_26 : decode kTk_kindOfShortWord.2.1 26 = .ok (.bipush 69, 2) := by decide +kernel
theorem dTk_kindOfShortWord_28 : decode kTk_kindOfShortWord.2.1 28 = .ok (.if_icmp .ne 8, 3) := by decide +kernel
theorem dTk_kindOfShortWord_31 : decode kTk_kindOfShortWord.2.1 31 = .ok (.bipush 35, 2) := by decide +kernel
theorem dTk_kindOfShortWord_33 : decode kTk_kindOfShortWord.2.1 33 = .ok (.goto 16, 3) := by decide +kernel
theorem dTk_kindOfShortWord_36 : decode kTk_kindOfShortWord.2.1 36 = .ok (.iload_n 3, 1) := by decide +kernel
theorem dTk_kindOfShortWord_37 : decode kTk_kindOfShortWord.2.1 37 = .ok (.bipush 85, 2) := by decide +kernel
theorem dTk_kindOfShortWord_39 : decode kTk_kindOfShortWord.2.1 39 = .ok (.if_icmp .ne 8, 3) := by decide +kernel
theorem dTk_kindOfShortWord_42 : decode kTk_kindOfShortWord.2.1 42 = .ok (.bipush 36, 2) := by decide +kernel
theorem dTk_kindOfShortWord_44 : decode kTk_kindOfShortWord.2.1 44 = .ok (.goto 5, 3) := by decide +kernel
theorem dTk_kindOfShortWord_47 : decode kTk_kindOfShortWord.2.1 47 = .ok (.bipush 43, 2) := by decide +kernel
theorem dTk_kindOfShortWord_49 : decode kTk_kindOfShortWord.2.1 49 = .ok (.ireturn, 1) := by decide +kernel
theorem dTk_kindOfShortWord_50 : decode kTk_kindOfShortWord.2.1 50 = .ok (.iload_n 3, 1) := by decide +kernel
theorem dTk_kindOfShortWord_51 : decode kTk_kindOfShortWord.2.1 51 = .ok (.bipush 65, 2) := by decide +kernel
theorem dTk_kindOfShortWord_53 : decode kTk_kindOfShortWord.2.1 53 = .ok (.if_icmp .eq 12, 3) := by decide +kernel
theorem dTk_kindOfShortWord_56 : decode kTk_kindOfShortWord.2.1 56 = .ok (.iload_n 3, 1) := by decide +kernel
theorem dTk_kindOfShortWord_57 : decode kTk_kindOfShortWord.2.1 57 = .ok (.bipush 69, 2) := by decide +kernel
theorem dTk_kindOfShortWord_59 : decode kTk_kindOfShortWord.2.1 59 = .ok (.if_icmp .eq 6, 3) := by decide +kernel
theorem dTk_kindOfShortWord_62 : decode kTk_kindOfShortWord.2.1 62 = .ok (.bipush 43, 2) := by decide +kernel
theorem dTk_kindOfShortWord_64 : decode kTk_kindOfShortWord.2.1 64 = .ok (.ireturn, 1) := by decide +kernel
theorem dTk_kindOfShortWord_65 : decode kTk_kindOfShortWord.2.1 65 = .ok (.aload_n 0, 1) := by decide +kernel
theorem dTk_kindOfShortWord_66 : decode kTk_kindOfShortWord.2.1 66 = .ok (.getfield 24, 3) := by decide +kernel
theorem dTk_kindOfShortWord_69 : decode kTk_kindOfShortWord.2.1 69 = .ok (.iload_n 1, 1) := by decide +kernel
theorem dTk_kindOfShortWord_70 : decode kTk_kindOfShortWord.2.1 70 = .ok (.iconst 1, 1) := by decide +kernel
theorem dTk_kindOfShortWord_71 : decode kTk_kindOfShortWord.2.1 71 = .ok (.iadd, 1) := by decide +kernel
theorem dTk_kindOfShortWord_72 : decode kTk_kindOfShortWord.2.1 72 = .ok (.invokevirtual 45, 3) := by decide +kernel
theorem dTk_kindOfShortWord_75 : decode kTk_kindOfShortWord.2.1 75 = .ok (.lookupswitch 75 #[(70, 47), (71, 61), (88, 33)], 33) := by decide +kernel
theorem dTk_kindOfShortWord_108 : decode kTk_kindOfShortWord.2.1 108 = .ok (.iload_n 3, 1) := by decide +kernel
theorem dTk_kindOfShortWord_109 : decode kTk_kindOfShortWord.2.1 109 = .ok (.bipush 65, 2) := by decide +kernel
theorem dTk_kindOfShortWord_111 : decode kTk_kindOfShortWord.2.1 111 = .ok (.if_icmp .ne 8, 3) := by decide +kernel
theorem dTk_kindOfShortWord_114 : decode kTk_kindOfShortWord.2.1 114 = .ok (.bipush 37, 2) := by decide +kernel
theorem dTk_kindOfShortWord_116 : decode kTk_kindOfShortWord.2.1 116 = .ok (.goto 5, 3) := by decide +kernel
theorem dTk_kindOfShortWord_119 : decode kTk_kindOfShortWord.2.1 119 = .ok (.bipush 38, 2) := by decide +kernel
theorem dTk_kindOfShortWord_121 : decode kTk_kindOfShortWord.2.1 121 = .ok (.ireturn, 1) := by decide +kernel
theorem dTk_kindOfShortWord_122 : decode kTk_kindOfShortWord.2.1 122 = .ok (.iload_n 3, 1) := by decide +kernel
theorem dTk_kindOfShortWord_123 : decode kTk_kindOfShortWord.2.1 123 = .ok (.bipush 65, 2) := by decide +kernel
theorem dTk_kindOfShortWord_125 : decode kTk_kindOfShortWord.2.1 125 = .ok (.if_icmp .ne 8, 3) := by decide +kernel
theorem dTk_kindOfShortWord_128 : decode kTk_kindOfShortWord.2.1 128 = .ok (.bipush 39, 2) := by decide +kernel
theorem dTk_kindOfShortWord_130 : decode kTk_kindOfShortWord.2.1 130 = .ok (.goto 5, 3) := by decide +kernel
theorem dTk_kindOfShortWord_133 : decode kTk_kindOfShortWord.2.1 133 = .ok (.bipush 40, 2) := by decide +kernel
theorem dTk_kindOfShortWord_135 : decode kTk_kindOfShortWord.2.1 135 = .ok (.ireturn, 1) := by decide +kernel
theorem dTk_kindOfShortWord_136 : decode kTk_kindOfShortWord.2.1 136 = .ok (.iload_n 3, 1) := by decide +kernel
theorem dTk_kindOfShortWord_137 : decode kTk_kindOfShortWord.2.1 137 = .ok (.bipush 65, 2) := by decide +kernel
theorem dTk_kindOfShortWord_139 : decode kTk_kindOfShortWord.2.1 139 = .ok (.if_icmp .ne 8, 3) := by decide +kernel
theorem dTk_kindOfShortWord_142 : decode kTk_kindOfShortWord.2.1 142 = .ok (.bipush 41, 2) := by decide +kernel
theorem dTk_kindOfShortWord_144 : decode kTk_kindOfShortWord.2.1 144 = .ok (.goto 5, 3) := by decide +kernel
theorem dTk_kindOfShortWord_147 : decode kTk_kindOfShortWord.2.1 147 = .ok (.bipush 42, 2) := by decide +kernel
theorem dTk_kindOfShortWord_149 : decode kTk_kindOfShortWord.2.1 149 = .ok (.ireturn, 1) := by decide +kernel
theorem dTk_kindOfShortWord_150 : decode kTk_kindOfShortWord.2.1 150 = .ok (.bipush 43, 2) := by decide +kernel
theorem dTk_kindOfShortWord_152 : decode kTk_kindOfShortWord.2.1 152 = .ok (.ireturn, 1) := by decide +kernel
theorem dTk_scanNumber_0 : decode kTk_scanNumber.2.1 0 = .ok (.aload_n 0, 1) := by decide +kernel
theorem dTk_scanNumber_1 : decode kTk_scanNumber.2.1 1 = .ok (.getfield 28, 3) := by decide +kernel
theorem dTk_scanNumber_4 : decode kTk_scanNumber.2.1 4 = .ok (.istore_n 2, 1) := by decide +kernel
theorem dTk_scanNumber_5 : decode kTk_scanNumber.2.1 5 = .ok (.iconst 0, 1) := by decide +kernel
theorem dTk_scanNumber_6 : decode kTk_scanNumber.2.1 6 = .ok (.istore_n 3, 1) := by decide +kernel
theorem dTk_scanNumber_7 : decode kTk_scanNumber.2.1 7 = .ok (.aload_n 0, 1) := by decide +kernel
theorem dTk_scanNumber_8 : decode kTk_scanNumber.2.1 8 = .ok (.getfield 28, 3) := by decide +kernel
theorem dTk_scanNumber_11 : decode kTk_scanNumber.2.1 11 = .ok (.aload_n 0, 1) := by decide +kernel
theorem dTk_scanNumber_12 : decode kTk_scanNumber.2.1 12 = .ok (.getfield 24, 3) := by decide +kernel
theorem dTk_scanNumber_15 : decode kTk_scanNumber.2.1 15 = .ok (.getfield 42, 3) := by decide +kernel
theorem dTk_scanNumber_18 : decode kTk_scanNumber.2.1 18 = .ok (.if_icmp .ge 53, 3) := by decide +kernel
theorem dTk_scanNumber_21 : decode kTk_scanNumber.2.1 21 = .ok (.aload_n 0, 1) := by decide +kernel
theorem dTk_scanNumber_22 : decode kTk_scanNumber.2.1 22 = .ok (.getfield 24, 3) := by decide +kernel
theorem dTk_scanNumber_25 : decode kTk_scanNumber.2.1 25 = .ok (.aload_n 0, 1) := by decide +kernel
theorem dTk_scanNumber_26 : decode kTk_scanNumber.2.1 26 = .ok (.getfield 28, 3) := by decide +kernel
theorem dTk_scanNumber_29 : decode kTk_scanNumber.2.1 29 = .ok (.invokevirtual 45, 3) := by decide +kernel
theorem dTk_scanNumber_32 : decode kTk_scanNumber.2.1 32 = .ok (.invokestatic 56, 3) := by decide +kernel
theorem dTk_scanNumber_35 : decode kTk_scanNumber.2.1 35 = .ok (.ifCond .eq 36, 3) := by decide +kernel
theorem dTk_scanNumber_38 : decode kTk_scanNumber.2.1 38 = .ok (.iload_n 3, 1) := by decide +kernel
theorem dTk_scanNumber_39 : decode kTk_scanNumber.2.1 39 = .ok (.bipush 10, 2) := by decide +kernel
theorem dTk_scanNumber_41 : decode kTk_scanNumber.2.1 41 = .ok (.imul, 1) := by decide +kernel
theorem dTk_scanNumber_42 : decode kTk_scanNumber.2.1 42 = .ok (.aload_n 0, 1) := by decide +kernel
theorem dTk_scanNumber_43 : decode kTk_scanNumber.2.1 43 = .ok (.getfield 24, 3) := by decide +kernel
theorem dTk_scanNumber_46 : decode kTk_scanNumber.2.1 46 = .ok (.aload_n 0, 1) := by decide +kernel
theorem dTk_scanNumber_47 : decode kTk_scanNumber.2.1 47 = .ok (.getfield 28, 3) := by decide +kernel
theorem dTk_scanNumber_50 : decode kTk_scanNumber.2.1 50 = .ok (.invokevirtual 45, 3) := by decide +kernel
theorem dTk_scanNumber_53 : decode kTk_scanNumber.2.1 53 = .ok (.iadd, 1) := by decide +kernel
theorem dTk_scanNumber_54 : decode kTk_scanNumber.2.1 54 = .ok (.bipush 48, 2) := by decide +kernel
theorem dTk_scanNumber_56 : decode kTk_scanNumber.2.1 56 = .ok (.isub, 1) := by decide +kernel
theorem dTk_scanNumber_57 : decode kTk_scanNumber.2.1 57 = .ok (.istore_n 3, 1) := by decide +kernel
theorem dTk_scanNumber_58 : decode kTk_scanNumber.2.1 58 = .ok (.aload_n 0, 1) := by decide +kernel
theorem dTk_scanNumber_59 : decode kTk_scanNumber.2.1 59 = .ok (.dup, 1) := by decide +kernel
theorem dTk_scanNumber_60 : decode kTk_scanNumber.2.1 60 = .ok (.getfield 28, 3) := by decide +kernel
theorem dTk_scanNumber_63 : decode kTk_scanNumber.2.1 63 = .ok (.iconst 1, 1) := by decide +kernel
theorem dTk_scanNumber_64 : decode kTk_scanNumber.2.1 64 = .ok (.iadd, 1) := by decide +kernel
theorem dTk_scanNumber_65 : decode kTk_scanNumber.2.1 65 = .ok (.putfield 28, 3) := by decide +kernel
theorem dTk_scanNumber_68 : decode kTk_scanNumber.2.1 68 = .ok (.goto (-61), 3) := by decide +kernel
theorem dTk_scanNumber_71 : decode kTk_scanNumber.2.1 71 = .ok (.aload_n 0, 1) := by decide +kernel
theorem dTk_scanNumber_72 : decode kTk_scanNumber.2.1 72 = .ok (.getfield 21, 3) := by decide +kernel
theorem dTk_scanNumber_75 : decode kTk_scanNumber.2.1 75 = .ok (.iload_n 1, 1) := by decide +kernel
theorem dTk_scanNumber_76 : decode kTk_scanNumber.2.1 76 = .ok (.iload_n 3, 1) := by decide +kernel
theorem dTk_scanNumber_77 : decode kTk_scanNumber.2.1 77 = .ok (.iastore, 1) := by decide +kernel
theorem dTk_scanNumber_78 : decode kTk_scanNumber.2.1 78 = .ok (.aload_n 0, 1) := by decide +kernel
theorem dTk_scanNumber_79 : decode kTk_scanNumber.2.1 79 = .ok (.getfield 28, 3) := by decide +kernel
theorem dTk_scanNumber_82 : decode kTk_scanNumber.2.1 82 = .ok (.iload_n 2, 1) := by decide +kernel
theorem dTk_scanNumber_83 : decode kTk_scanNumber.2.1 83 = .ok (.isub, 1) := by decide +kernel
theorem dTk_scanNumber_84 : decode kTk_scanNumber.2.1 84 = .ok (.bipush 9, 2) := by decide +kernel
theorem dTk_scanNumber_86 : decode kTk_scanNumber.2.1 86 = .ok (.if_icmp .le 8, 3) := by decide +kernel
theorem dTk_scanNumber_89 : decode kTk_scanNumber.2.1 89 = .ok (.bipush 46, 2) := by decide +kernel
theorem dTk_scanNumber_91 : decode kTk_scanNumber.2.1 91 = .ok (.goto 5, 3) := by decide +kernel
theorem dTk_scanNumber_94 : decode kTk_scanNumber.2.1 94 = .ok (.bipush 44, 2) := by decide +kernel
theorem dTk_scanNumber_96 : decode kTk_scanNumber.2.1 96 = .ok (.ireturn, 1) := by decide +kernel
theorem dTk_scanSign_0 : decode kTk_scanSign.2.1 0 = .ok (.aload_n 0, 1) := by decide +kernel
theorem dTk_scanSign_1 : decode kTk_scanSign.2.1 1 = .ok (.getfield 24, 3) := by decide +kernel
theorem dTk_scanSign_4 : decode kTk_scanSign.2.1 4 = .ok (.aload_n 0, 1) := by decide +kernel
theorem dTk_scanSign_5 : decode kTk_scanSign.2.1 5 = .ok (.getfield 28, 3) := by decide +kernel
theorem dTk_scanSign_8 : decode kTk_scanSign.2.1 8 = .ok (.iconst 1, 1) := by decide +kernel
theorem dTk_scanSign_9 : decode kTk_scanSign.2.1 9 = .ok (.iadd, 1) := by decide +kernel
theorem dTk_scanSign_10 : decode kTk_scanSign.2.1 10 = .ok (.invokevirtual 45, 3) := by decide +kernel
theorem dTk_scanSign_13 : decode kTk_scanSign.2.1 13 = .ok (.istore_n 2, 1) := by decide +kernel
theorem dTk_scanSign_14 : decode kTk_scanSign.2.1 14 = .ok (.iconst 0, 1) := by decide +kernel
theorem dTk_scanSign_15 : decode kTk_scanSign.2.1 15 = .ok (.istore_n 3, 1) := by decide +kernel
theorem dTk_scanSign_16 : decode kTk_scanSign.2.1 16 = .ok (.iload_n 3, 1) := by decide +kernel
theorem dTk_scanSign_17 : decode kTk_scanSign.2.1 17 = .ok (.iconst 1, 1) := by decide +kernel
theorem dTk_scanSign_18 : decode kTk_scanSign.2.1 18 = .ok (.iadd, 1) := by decide +kernel
theorem dTk_scanSign_19 : decode kTk_scanSign.2.1 19 = .ok (.ldc 75, 2) := by decide +kernel
theorem dTk_scanSign_21 : decode kTk_scanSign.2.1 21 = .ok (.invokevirtual 77, 3) := by decide +kernel
theorem dTk_scanSign_24 : decode kTk_scanSign.2.1 24 = .ok (.if_icmp .ge 51, 3) := by decide +kernel
theorem dTk_scanSign_27 : decode kTk_scanSign.2.1 27 = .ok (.ldc 75, 2) := by decide +kernel
theorem dTk_scanSign_29 : decode kTk_scanSign.2.1 29 = .ok (.iload_n 3, 1) := by decide +kernel
theorem dTk_scanSign_30 : decode kTk_scanSign.2.1 30 = .ok (.invokevirtual 81, 3) := by decide +kernel
theorem dTk_scanSign_33 : decode kTk_scanSign.2.1 33 = .ok (.iload_n 1, 1) := by decide +kernel
theorem dTk_scanSign_34 : decode kTk_scanSign.2.1 34 = .ok (.if_icmp .ne 35, 3) := by decide +kernel
theorem dTk_scanSign_37 : decode kTk_scanSign.2.1 37 = .ok (.ldc 75, 2) := by decide +kernel
theorem dTk_scanSign_39 : decode kTk_scanSign.2.1 39 = .ok (.iload_n 3, 1) := by decide +kernel
theorem dTk_scanSign_40 : decode kTk_scanSign.2.1 40 = .ok (.iconst 1, 1) := by decide +kernel
theorem dTk_scanSign_41 : decode kTk_scanSign.2.1 41 = .ok (.iadd, 1) := by decide +kernel
theorem dTk_scanSign_42 : decode kTk_scanSign.2.1 42 = .ok (.invokevirtual 81, 3) := by decide +kernel
theorem dTk_scanSign_45 : decode kTk_scanSign.2.1 45 = .ok (.iload_n 2, 1) := by decide +kernel
theorem dTk_scanSign_46 : decode kTk_scanSign.2.1 46 = .ok (.if_icmp .ne 23, 3) := by decide +kernel
theorem dTk_scanSign_49 : decode kTk_scanSign.2.1 49 = .ok (.aload_n 0, 1) := by decide +kernel
theorem dTk_scanSign_50 : decode kTk_scanSign.2.1 50 = .ok (.dup, 1) := by decide +kernel
theorem dTk_scanSign_51 : decode kTk_scanSign.2.1 51 = .ok (.getfield 28, 3) := by decide +kernel
theorem dTk_scanSign_54 : decode kTk_scanSign.2.1 54 = .ok (.iconst 2, 1) := by decide +kernel
theorem dTk_scanSign_55 : decode kTk_scanSign.2.1 55 = .ok (.iadd, 1) := by decide +kernel
theorem dTk_scanSign_56 : decode kTk_scanSign.2.1 56 = .ok (.putfield 28, 3) := by decide +kernel
theorem dTk_scanSign_59 : decode kTk_scanSign.2.1 59 = .ok (.ldc 85, 2) := by decide +kernel
theorem dTk_scanSign_61 : decode kTk_scanSign.2.1 61 = .ok (.invokevirtual 77, 3) := by decide +kernel
theorem dTk_scanSign_64 : decode kTk_scanSign.2.1 64 = .ok (.iload_n 3, 1) := by decide +kernel
theorem dTk_scanSign_65 : decode kTk_scanSign.2.1 65 = .ok (.iconst 2, 1) := by decide +kernel
theorem dTk_scanSign_66 : decode kTk_scanSign.2.1 66 = .ok (.idiv, 1) := by decide +kernel
theorem dTk_scanSign_67 : decode kTk_scanSign.2.1 67 = .ok (.iadd, 1) := by decide +kernel
theorem dTk_scanSign_68 : decode kTk_scanSign.2.1 68 = .ok (.ireturn, 1) := by decide +kernel
theorem dTk_scanSign_69 : decode kTk_scanSign.2.1 69 = .ok (.iinc 3 2, 3) := by decide +kernel
theorem dTk_scanSign_72 : decode kTk_scanSign.2.1 72 = .ok (.goto (-56), 3) := by decide +kernel
theorem dTk_scanSign_75 : decode kTk_scanSign.2.1 75 = .ok (.aload_n 0, 1) := by decide +kernel
theorem dTk_scanSign_76 : decode kTk_scanSign.2.1 76 = .ok (.dup, 1) := by decide +kernel
theorem dTk_scanSign_77 : decode kTk_scanSign.2.1 77 = .ok (.getfield 28, 3) := by decide +kernel
theorem dTk_scanSign_80 : decode kTk_scanSign.2.1 80 = .ok (.iconst 1, 1) := by decide +kernel
theorem dTk_scanSign_81 : decode kTk_scanSign.2.1 81 = .ok (.iadd, 1) := by decide +kernel
theorem dTk_scanSign_82 : decode kTk_scanSign.2.1 82 = .ok (.putfield 28, 3) := by decide +kernel
theorem dTk_scanSign_85 : decode kTk_scanSign.2.1 85 = .ok (.ldc 85, 2) := by decide +kernel
theorem dTk_scanSign_87 : decode kTk_scanSign.2.1 87 = .ok (.iload_n 1, 1) := by decide +kernel
theorem dTk_scanSign_88 : decode kTk_scanSign.2.1 88 = .ok (.i2c, 1) := by decide +kernel
theorem dTk_scanSign_89 : decode kTk_scanSign.2.1 89 = .ok (.invokevirtual 87, 3) := by decide +kernel
theorem dTk_scanSign_92 : decode kTk_scanSign.2.1 92 = .ok (.istore_n 3, 1) := by decide +kernel
theorem dTk_scanSign_93 : decode kTk_scanSign.2.1 93 = .ok (.iload_n 3, 1) := by decide +kernel
theorem dTk_scanSign_94 : decode kTk_scanSign.2.1 94 = .ok (.ifCond .ge 8, 3) := by decide +kernel
theorem dTk_scanSign_97 : decode kTk_scanSign.2.1 97 = .ok (.bipush 46, 2) := by decide +kernel
theorem dTk_scanSign_99 : decode kTk_scanSign.2.1 99 = .ok (.goto 4, 3) := by decide +kernel
theorem dTk_scanSign_102 : decode kTk_scanSign.2.1 102 = .ok (.iload_n 3, 1) := by decide +kernel
theorem dTk_scanSign_103 : decode kTk_scanSign.2.1 103 = .ok (.ireturn, 1) := by decide +kernel
theorem dTk_areSame_0 : decode kTk_areSame.2.1 0 = .ok (.aload_n 0, 1) := by decide +kernel
theorem dTk_areSame_1 : decode kTk_areSame.2.1 1 = .ok (.getfield 18, 3) := by decide +kernel
theorem dTk_areSame_4 : decode kTk_areSame.2.1 4 = .ok (.iload_n 1, 1) := by decide +kernel
theorem dTk_areSame_5 : decode kTk_areSame.2.1 5 = .ok (.iaload, 1) := by decide +kernel
theorem dTk_areSame_6 : decode kTk_areSame.2.1 6 = .ok (.aload_n 0, 1) := by decide +kernel
theorem dTk_areSame_7 : decode kTk_areSame.2.1 7 = .ok (.getfield 18, 3) := by decide +kernel
theorem dTk_areSame_10 : decode kTk_areSame.2.1 10 = .ok (.iload_n 2, 1) := by decide +kernel
theorem dTk_areSame_11 : decode kTk_areSame.2.1 11 = .ok (.iaload, 1) := by decide +kernel
theorem dTk_areSame_12 : decode kTk_areSame.2.1 12 = .ok (.if_icmp .ne 7, 3) := by decide +kernel
theorem dTk_areSame_15 : decode kTk_areSame.2.1 15 = .ok (.iconst 1, 1) := by decide +kernel
theorem dTk_areSame_16 : decode kTk_areSame.2.1 16 = .ok (.goto 4, 3) := by decide +kernel
theorem dTk_areSame_19 : decode kTk_areSame.2.1 19 = .ok (.iconst 0, 1) := by decide +kernel
theorem dTk_areSame_20 : decode kTk_areSame.2.1 20 = .ok (.istore_n 3, 1) := by decide +kernel
theorem dTk_areSame_21 : decode kTk_areSame.2.1 21 = .ok (.iconst 0, 1) := by decide +kernel
theorem dTk_areSame_22 : decode kTk_areSame.2.1 22 = .ok (.istore 4, 2) := by decide +kernel
theorem dTk_areSame_24 : decode kTk_areSame.2.1 24 = .ok (.iload 4, 2) := by decide +kernel
theorem dTk_areSame_26 : decode kTk_areSame.2.1 26 = .ok (.aload_n 0, 1) := by decide +kernel
theorem dTk_areSame_27 : decode kTk_areSame.2.1 27 = .ok (.getfield 18, 3) := by decide +kernel
theorem dTk_areSame_30 : decode kTk_areSame.2.1 30 = .ok (.iload_n 1, 1) := by decide +kernel
theorem dTk_areSame_31 : decode kTk_areSame.2.1 31 = .ok (.iaload, 1) := by decide +kernel
theorem dTk_areSame_32 : decode kTk_areSame.2.1 32 = .ok (.if_icmp .ge 56, 3) := by decide +kernel
theorem dTk_areSame_35 : decode kTk_areSame.2.1 35 = .ok (.iload_n 3, 1) := by decide +kernel
theorem dTk_areSame_36 : decode kTk_areSame.2.1 36 = .ok (.ifCond .eq 52, 3) := by decide +kernel
theorem dTk_areSame_39 : decode kTk_areSame.2.1 39 = .ok (.aload_n 0, 1) := by decide +kernel
theorem dTk_areSame_40 : decode kTk_areSame.2.1 40 = .ok (.getfield 24, 3) := by decide +kernel
theorem dTk_areSame_43 : decode kTk_areSame.2.1 43 = .ok (.getfield 104, 3) := by decide +kernel
theorem dTk_areSame_46 : decode kTk_areSame.2.1 46 = .ok (.aload_n 0, 1) := by decide +kernel
theorem dTk_areSame_47 : decode kTk_areSame.2.1 47 = .ok (.getfield 15, 3) := by decide +kernel
theorem dTk_areSame_50 : decode kTk_areSame.2.1 50 = .ok (.iload_n 1, 1) := by decide +kernel
theorem dTk_areSame_51 : decode kTk_areSame.2.1 51 = .ok (.iaload, 1) := by decide +kernel
theorem dTk_areSame_52 : decode kTk_areSame.2.1 52 = .ok (.iload 4, 2) := by decide +kernel
theorem dTk_areSame_54 : decode kTk_areSame.2.1 54 = .ok (.iadd, 1) := by decide +kernel
theorem dTk_areSame_55 : decode kTk_areSame.2.1 55 = .ok (.baload, 1) := by decide +kernel
theorem dTk_areSame_56 : decode kTk_areSame.2.1 56 = .ok (.aload_n 0, 1) := by decide +kernel
theorem dTk_areSame_57 : decode kTk_areSame.2.1 57 = .ok (.getfield 24, 3) := by decide +kernel
theorem dTk_areSame_60 : decode kTk_areSame.2.1 60 = .ok (.getfield 104, 3) := by decide +kernel
theorem dTk_areSame_63 : decode kTk_areSame.2.1 63 = .ok (.aload_n 0, 1) := by decide +kernel
theorem dTk_areSame_64 : decode kTk_areSame.2.1 64 = .ok (.getfield 15, 3) := by decide +kernel
theorem dTk_areSame_67 : decode kTk_areSame.2.1 67 = .ok (.iload_n 2, 1) := by decide +kernel
theorem dTk_areSame_68 : decode kTk_areSame.2.1 68 = .ok (.iaload, 1) := by decide +kernel
theorem dTk_areSame_69 : decode kTk_areSame.2.1 69 = .ok (.iload 4, 2) := by decide +kernel
theorem dTk_areSame_71 : decode kTk_areSame.2.1 71 = .ok (.iadd, 1) := by decide +kernel
theorem dTk_areSame_72 : decode kTk_areSame.2.1 72 = .ok (.baload, 1) := by decide +kernel
theorem dTk_areSame_73 : decode kTk_areSame.2.1 73 = .ok (.if_icmp .ne 7, 3) := by decide +kernel
theorem dTk_areSame_76 : decode kTk_areSame.2.1 76 = .ok (.iconst 1, 1) := by decide +kernel
theorem dTk_areSame_77 : decode kTk_areSame.2.1 77 = .ok (.goto 4, 3) := by decide +kernel
theorem dTk_areSame_80 : decode kTk_areSame.2.1 80 = .ok (.iconst 0, 1) := by decide +kernel
theorem dTk_areSame_81 : decode kTk_areSame.2.1 81 = .ok (.istore_n 3, 1) := by decide +kernel
theorem dTk_areSame_82 : decode kTk_areSame.2.1 82 = .ok (.iinc 4 1, 3) := by decide +kernel
theorem dTk_areSame_85 : decode kTk_areSame.2.1 85 = .ok (.goto (-61), 3) := by decide +kernel
theorem dTk_areSame_88 : decode kTk_areSame.2.1 88 = .ok (.iload_n 3, 1) := by decide +kernel
theorem dTk_areSame_89 : decode kTk_areSame.2.1 89 = .ok (.ireturn, 1) := by decide +kernel
theorem fTk_9 : pm_Fl "CircuitChecker$Tokens" 9 5 1 true := ⟨_, _, _, rfl, by decide, by decide +kernel, pW5, Or.inl (pm_in 157 (by decide +kernel) rfl)⟩ -- kind
theorem sTk_9 : pm_Fs "CircuitChecker$Tokens" 5 1 (.array .int) true := ⟨_, _, _, pY5, rfl, pY5_ok, pN5_ok, rfl, rfl, fun _ => rfl⟩
theorem fTk_15 : pm_Fl "CircuitChecker$Tokens" 15 5 2 true := ⟨_, _, _, rfl, by decide, by decide +kernel, pW5, Or.inl (pm_in 159 (by decide +kernel) rfl)⟩ -- from
theorem sTk_15 : pm_Fs "CircuitChecker$Tokens" 5 2 (.array .int) true := ⟨_, _, _, pY5, rfl, pY5_ok, pN5_ok, rfl, rfl, fun _ => rfl⟩
theorem fTk_18 : pm_Fl "CircuitChecker$Tokens" 18 5 3 true := ⟨_, _, _, rfl, by decide, by decide +kernel, pW5, Or.inl (pm_in 161 (by decide +kernel) rfl)⟩ -- size
theorem sTk_18 : pm_Fs "CircuitChecker$Tokens" 5 3 (.array .int) true := ⟨_, _, _, pY5, rfl, pY5_ok, pN5_ok, rfl, rfl, fun _ => rfl⟩
theorem fTk_21 : pm_Fl "CircuitChecker$Tokens" 21 5 4 true := ⟨_, _, _, rfl, by decide, by decide +kernel, pW5, Or.inl (pm_in 162 (by decide +kernel) rfl)⟩ -- number
theorem sTk_21 : pm_Fs "CircuitChecker$Tokens" 5 4 (.array .int) true := ⟨_, _, _, pY5, rfl, pY5_ok, pN5_ok, rfl, rfl, fun _ => rfl⟩
theorem fTk_24 : pm_Fl "CircuitChecker$Tokens" 24 5 0 true := ⟨_, _, _, rfl, by decide, by decide +kernel, pW5, Or.inl (pm_in 156 (by decide +kernel) rfl)⟩ -- tape
theorem sTk_24 : pm_Fs "CircuitChecker$Tokens" 5 0 (.object "CircuitChecker$Tape") true := ⟨_, _, _, pY5, rfl, pY5_ok, pN5_ok, rfl, rfl, fun _ => rfl⟩
theorem fTk_28 : pm_Fl "CircuitChecker$Tokens" 28 5 6 false := ⟨_, _, _, rfl, by decide, by decide +kernel, pW5, Or.inl (pm_in 166 (by decide +kernel) rfl)⟩ -- behind
theorem sTk_28 : pm_Fs "CircuitChecker$Tokens" 5 6 .int false := ⟨_, _, _, pY5, rfl, pY5_ok, pN5_ok, rfl, rfl, fun h => by cases h⟩
theorem fTk_32 : pm_Fl "CircuitChecker$Tokens" 32 5 5 false := ⟨_, _, _, rfl, by decide, by decide +kernel, pW5, Or.inl (pm_in 164 (by decide +kernel) rfl)⟩ -- length
theorem sTk_32 : pm_Fs "CircuitChecker$Tokens" 5 5 .int false := ⟨_, _, _, pY5, rfl, pY5_ok, pN5_ok, rfl, rfl, fun h => by cases h⟩
theorem fTk_42 : pm_Fl "CircuitChecker$Tokens" 42 1 1 false := ⟨_, _, _, rfl, by decide, by decide +kernel, pW1, Or.inr ⟨"CircuitChecker", pm_inN 48 (by decide +kernel) rfl⟩⟩ -- length
theorem sTk_42 : pm_Fs "CircuitChecker$Tokens" 1 1 .int false := ⟨_, _, _, pY1, rfl, pY1_ok, pN1_ok, rfl, rfl, fun h => by cases h⟩
theorem fTk_104 : pm_Fl "CircuitChecker$Tokens" 104 1 0 true := ⟨_, _, _, rfl, by decide, by decide +kernel, pW1, Or.inr ⟨"CircuitChecker", pm_inN 45 (by decide +kernel) rfl⟩⟩ -- bytes
theorem wTk_init : Cond.code kTk_init.1 kTk_init.2.1 kTk_init.2.2.1 kTk_init.2.2.2 ∈ pm_TS := pm_in 154 (by decide +kernel) rfl
theorem iTk_init : kTk_init.1.name = "<init>" ∧ kTk_init.2.2.2 = none ∧ Cond.instanceMethod kTk_init.1 ∈ pm_TS := ⟨rfl, rfl, pm_in 153 (by decide +kernel) rfl⟩
theorem wTk_part : Cond.code kTk_part.1 kTk_part.2.1 kTk_part.2.2.1 kTk_part.2.2.2 ∈ pm_TS := pm_in 627 (by decide +kernel) rfl
theorem vTk_part : pm_Vt kTk_part := ⟨pm_in 625 (by decide +kernel) rfl, pm_in 626 (by decide +kernel) rfl⟩
theorem wTk_skipBlanks : Cond.code kTk_skipBlanks.1 kTk_skipBlanks.2.1 kTk_skipBlanks.2.2.1 kTk_skipBlanks.2.2.2 ∈ pm_TS := pm_in 631 (by decide +kernel) rfl
theorem vTk_skipBlanks : pm_Vt kTk_skipBlanks := ⟨pm_in 630 (by decide +kernel) rfl, pm_inS (q := (kTk_skipBlanks.1, 7)) 31 (by decide +kernel)⟩
theorem wTk_scan : Cond.code kTk_scan.1 kTk_scan.2.1 kTk_scan.2.2.1 kTk_scan.2.2.2 ∈ pm_TS := pm_in 639 (by decide +kernel) rfl
theorem vTk_scan : pm_Vt kTk_scan := ⟨pm_in 638 (by decide +kernel) rfl, pm_inS (q := (kTk_scan.1, 7)) 32 (by decide +kernel)⟩
theorem wTk_isLetter : Cond.code kTk_isLetter.1 kTk_isLetter.2.1 kTk_isLetter.2.2.1 kTk_isLetter.2.2.2 ∈ pm_TS := pm_in 642 (by decide +kernel) rfl
theorem tTk_isLetter : Cond.static kTk_isLetter.1 ∈ pm_TS := pm_in 641 (by decide +kernel) rfl
theorem wTk_scanWord : Cond.code kTk_scanWord.1 kTk_scanWord.2.1 kTk_scanWord.2.2.1 kTk_scanWord.2.2.2 ∈ pm_TS := pm_in 646 (by decide +kernel) rfl
theorem vTk_scanWord : pm_Vt kTk_scanWord := ⟨pm_in 645 (by decide +kernel) rfl, pm_inS (q := (kTk_scanWord.1, 7)) 33 (by decide +kernel)⟩
theorem wTk_isOfWord : Cond.code kTk_isOfWord.1 kTk_isOfWord.2.1 kTk_isOfWord.2.2.1 kTk_isOfWord.2.2.2 ∈ pm_TS := pm_in 649 (by decide +kernel) rfl
theorem tTk_isOfWord : Cond.static kTk_isOfWord.1 ∈ pm_TS := pm_in 648 (by decide +kernel) rfl
theorem wTk_isDigit : Cond.code kTk_isDigit.1 kTk_isDigit.2.1 kTk_isDigit.2.2.1 kTk_isDigit.2.2.2 ∈ pm_TS := pm_in 652 (by decide +kernel) rfl
theorem tTk_isDigit : Cond.static kTk_isDigit.1 ∈ pm_TS := pm_in 651 (by decide +kernel) rfl
theorem wTk_kindOfLongWord : Cond.code kTk_kindOfLongWord.1 kTk_kindOfLongWord.2.1 kTk_kindOfLongWord.2.2.1 kTk_kindOfLongWord.2.2.2 ∈ pm_TS := pm_in 656 (by decide +kernel) rfl
theorem vTk_kindOfLongWord : pm_Vt kTk_kindOfLongWord := ⟨pm_in 655 (by decide +kernel) rfl, pm_inS (q := (kTk_kindOfLongWord.1, 7)) 34 (by decide +kernel)⟩
theorem wTk_isWord : Cond.code kTk_isWord.1 kTk_isWord.2.1 kTk_isWord.2.2.1 kTk_isWord.2.2.2 ∈ pm_TS := pm_in 661 (by decide +kernel) rfl
theorem vTk_isWord : pm_Vt kTk_isWord := ⟨pm_in 660 (by decide +kernel) rfl, pm_inS (q := (kTk_isWord.1, 7)) 35 (by decide +kernel)⟩
theorem wTk_kindOfShortWord : Cond.code kTk_kindOfShortWord.1 kTk_kindOfShortWord.2.1 kTk_kindOfShortWord.2.2.1 kTk_kindOfShortWord.2.2.2 ∈ pm_TS := pm_in 717 (by decide +kernel) rfl
theorem vTk_kindOfShortWord : pm_Vt kTk_kindOfShortWord := ⟨pm_in 716 (by decide +kernel) rfl, pm_inS (q := (kTk_kindOfShortWord.1, 7)) 36 (by decide +kernel)⟩
theorem wTk_scanNumber : Cond.code kTk_scanNumber.1 kTk_scanNumber.2.1 kTk_scanNumber.2.2.1 kTk_scanNumber.2.2.2 ∈ pm_TS := pm_in 721 (by decide +kernel) rfl
theorem vTk_scanNumber : pm_Vt kTk_scanNumber := ⟨pm_in 720 (by decide +kernel) rfl, pm_inS (q := (kTk_scanNumber.1, 7)) 37 (by decide +kernel)⟩
theorem wTk_scanSign : Cond.code kTk_scanSign.1 kTk_scanSign.2.1 kTk_scanSign.2.2.1 kTk_scanSign.2.2.2 ∈ pm_TS := pm_in 725 (by decide +kernel) rfl
theorem vTk_scanSign : pm_Vt kTk_scanSign := ⟨pm_in 724 (by decide +kernel) rfl, pm_inS (q := (kTk_scanSign.1, 7)) 38 (by decide +kernel)⟩
theorem wTk_areSame : Cond.code kTk_areSame.1 kTk_areSame.2.1 kTk_areSame.2.2.1 kTk_areSame.2.2.2 ∈ pm_TS := pm_in 814 (by decide +kernel) rfl
theorem vTk_areSame : pm_Vt kTk_areSame := ⟨pm_in 812 (by decide +kernel) rfl, pm_in 813 (by decide +kernel) rfl⟩
/-! CircuitChecker$TextReader: cards, decoded instructions, links -/
def kRd_init : pmK := (⟨"CircuitChecker$TextReader", "<init>", "(LCircuitChecker$Tape;LCircuitChecker$Circuit;)V"⟩, prog_8_method_1_code, 3, none)
def kRd_readTape : pmK := (⟨"CircuitChecker$TextReader", "readTape", "()V"⟩, prog_8_method_2_code, 2, none)
def kRd_begin : pmK := (⟨"CircuitChecker$TextReader", "begin", "()V"⟩, prog_8_method_3_code, 1, none)
def kRd_readReg : pmK := (⟨"CircuitChecker$TextReader", "readReg", "()V"⟩, prog_8_method_5_code, 3, none)
def kRd_readNewName : pmK := (⟨"CircuitChecker$TextReader", "readNewName", "()V"⟩, prog_8_method_10_code, 2, none)
def kRd_advance : pmK := (⟨"CircuitChecker$TextReader", "advance", "()V"⟩, prog_8_method_4_code, 1, none)
def kRd_refuse : pmK := (⟨"CircuitChecker$TextReader", "refuse", "()V"⟩, prog_8_method_31_code, 1, none)
def kRd_halt : pmK := (⟨"CircuitChecker$TextReader", "halt", "(I)V"⟩, prog_8_method_32_code, 2, none)
def kRd_findName : pmK := (⟨"CircuitChecker$TextReader", "findName", "()I"⟩, prog_8_method_33_code, 2, (some .int))
def kRd_expect : pmK := (⟨"CircuitChecker$TextReader", "expect", "(I)Z"⟩, prog_8_method_30_code, 2, (some .boolean))
def kRd_readNumber : pmK := (⟨"CircuitChecker$TextReader", "readNumber", "(II)I"⟩, prog_8_method_12_code, 4, (some .int))
def kRd_readInput : pmK := (⟨"CircuitChecker$TextReader", "readInput", "()V"⟩, prog_8_method_6_code, 2, none)
def kRd_readWire : pmK := (⟨"CircuitChecker$TextReader", "readWire", "()V"⟩, prog_8_method_7_code, 1, none)
def kRd_readExpression : pmK := (⟨"CircuitChecker$TextReader", "readExpression", "(I)V"⟩, prog_8_method_13_code, 2, none)
def kRd_isTooDeep : pmK := (⟨"CircuitChecker$TextReader", "isTooDeep", "(I)Z"⟩, prog_8_method_27_code, 2, (some .boolean))
def kRd_readOperands : pmK := (⟨"CircuitChecker$TextReader", "readOperands", "(I)V"⟩, prog_8_method_14_code, 4, none)
def kRd_readUnary : pmK := (⟨"CircuitChecker$TextReader", "readUnary", "(I)V"⟩, prog_8_method_18_code, 2, none)
def kRd_readAltered : pmK := (⟨"CircuitChecker$TextReader", "readAltered", "(II)V"⟩, prog_8_method_19_code, 3, none)
def kRd_chargeSign : pmK := (⟨"CircuitChecker$TextReader", "chargeSign", "()V"⟩, prog_8_method_28_code, 1, none)
def kRd_charge : pmK := (⟨"CircuitChecker$TextReader", "charge", "(I)V"⟩, prog_8_method_29_code, 2, none)
def kRd_readKnownName : pmK := (⟨"CircuitChecker$TextReader", "readKnownName", "(Z)V"⟩, prog_8_method_20_code, 3, none)
def kRd_tightness : pmK := (⟨"CircuitChecker$TextReader", "tightness", "(I)I"⟩, prog_8_method_17_code, 1, (some .int))
def kRd_settle : pmK := (⟨"CircuitChecker$TextReader", "settle", "(II)V"⟩, prog_8_method_16_code, 3, none)
def kRd_await : pmK := (⟨"CircuitChecker$TextReader", "await", "(I)V"⟩, prog_8_method_15_code, 2, none)
def kRd_readNext : pmK := (⟨"CircuitChecker$TextReader", "readNext", "()V"⟩, prog_8_method_8_code, 2, none)
def kRd_readRegWithoutNext : pmK := (⟨"CircuitChecker$TextReader", "readRegWithoutNext", "()I"⟩, prog_8_method_11_code, 2, (some .int))
def kRd_readSpec : pmK := (⟨"CircuitChecker$TextReader", "readSpec", "()V"⟩, prog_8_method_9_code, 1, none)
def kRd_readFormula : pmK := (⟨"CircuitChecker$TextReader", "readFormula", "(I)V"⟩, prog_8_method_21_code, 2, none)
def kRd_readEither : pmK := (⟨"CircuitChecker$TextReader", "readEither", "(I)V"⟩, prog_8_method_22_code, 3, none)
def kRd_readBoth : pmK := (⟨"CircuitChecker$TextReader", "readBoth", "(I)V"⟩, prog_8_method_23_code, 3, none)
def kRd_readSingle : pmK := (⟨"CircuitChecker$TextReader", "readSingle", "(I)V"⟩, prog_8_method_24_code, 2, none)
def kRd_readAlteredSingle : pmK := (⟨"CircuitChecker$TextReader", "readAlteredSingle", "(II)V"⟩, prog_8_method_25_code, 3, none)
def kRd_readUntil : pmK := (⟨"CircuitChecker$TextReader", "readUntil", "(II)V"⟩, prog_8_method_26_code, 3, none)
theorem dRd_init_0 : decode kRd_init.2.1 0 = .ok (.aload_n 0, 1) := by decide +kernel
theorem dRd_init_1 : decode kRd_init.2.1 1 = .ok (.invokespecial 3, 3) := by decide +kernel
theorem dRd_init_4 : decode kRd_init.2.1 4 = .ok (.aload_n 0, 1) := by decide +kernel
theorem dRd_init_5 : decode kRd_init.2.1 5 = .ok (.bipush 60, 2) := by decide +kernel
theorem dRd_init_7 : decode kRd_init.2.1 7 = .ok (.newarray .int, 2) := by decide +kernel
theorem dRd_init_9 : decode kRd_init.2.1 9 = .ok (.putfield 9, 3) := by decide +kernel
theorem dRd_init_12 : decode kRd_init.2.1 12 = .ok (.aload_n 0, 1) := by decide +kernel
theorem dRd_init_13 : decode kRd_init.2.1 13 = .ok (.bipush 60, 2) := by decide +kernel
theorem dRd_init_15 : decode kRd_init.2.1 15 = .ok (.newarray .int, 2) := by decide +kernel
theorem dRd_init_17 : decode kRd_init.2.1 17 = .ok (.putfield 15, 3) := by decide +kernel
theorem dRd_init_20 : decode kRd_init.2.1 20 = .ok (.aload_n 0, 1) := by decide +kernel
theorem dRd_init_21 : decode kRd_init.2.1 21 = .ok (.bipush 125, 2) := by decide +kernel
theorem dRd_init_23 : decode kRd_init.2.1 23 = .ok (.newarray .int, 2) := by decide +kernel
theorem dRd_init_25 : decode kRd_init.2.1 25 = .ok (.putfield 18, 3) := by decide +kernel
theorem dRd_init_28 : decode kRd_init.2.1 28 = .ok (.aload_n 0, 1) := by decide +kernel
theorem dRd_init_29 : decode kRd_init.2.1 29 = .ok (.aload_n 2, 1) := by decide +kernel
theorem dRd_init_30 : decode kRd_init.2.1 30 = .ok (.putfield 21, 3) := by decide +kernel
theorem dRd_init_33 : decode kRd_init.2.1 33 = .ok (.aload_n 0, 1) := by decide +kernel
theorem dRd_init_34 : decode kRd_init.2.1 34 = .ok (.new 25, 3) := by decide +kernel
theorem dRd_init_37 : decode kRd_init.2.1 37 = .ok (.dup, 1) := by decide +kernel
theorem dRd_init_38 : decode kRd_init.2.1 38 = .ok (.aload_n 1, 1) := by decide +kernel
theorem dRd_init_39 : decode kRd_init.2.1 39 = .ok (.invokespecial 27, 3) := by decide +kernel
theorem dRd_init_42 : decode kRd_init.2.1 42 = .ok (.putfield 30, 3) := by decide +kernel
theorem dRd_init_45 : decode kRd_init.2.1 45 = .ok (.aload_n 0, 1) := by decide +kernel
theorem dRd_init_46 : decode kRd_init.2.1 46 = .ok (.aload_n 2, 1) := by decide +kernel
theorem dRd_init_47 : decode kRd_init.2.1 47 = .ok (.getfield 34, 3) := by decide +kernel
theorem dRd_init_50 : decode kRd_init.2.1 50 = .ok (.putfield 40, 3) := by decide +kernel
theorem dRd_init_53 : decode kRd_init.2.1 53 = .ok (.return_, 1) := by decide +kernel
theorem dRd_readTape_0 : decode kRd_readTape.2.1 0 = .ok (.aload_n 0, 1) := by decide +kernel
theorem dRd_readTape_1 : decode kRd_readTape.2.1 1 = .ok (.invokevirtual 43, 3) := by decide +kernel
theorem dRd_readTape_4 : decode kRd_readTape.2.1 4 = .ok (.aload_n 0, 1) := by decide +kernel
theorem dRd_readTape_5 : decode kRd_readTape.2.1 5 = .ok (.getfield 30, 3) := by decide +kernel
theorem dRd_readTape_8 : decode kRd_readTape.2.1 8 = .ok (.invokevirtual 46, 3) := by decide +kernel
theorem dRd_readTape_11 : decode kRd_readTape.2.1 11 = .ok (.aload_n 0, 1) := by decide +kernel
theorem dRd_readTape_12 : decode kRd_readTape.2.1 12 = .ok (.aload_n 0, 1) := by decide +kernel
theorem dRd_readTape_13 : decode kRd_readTape.2.1 13 = .ok (.getfield 30, 3) := by decide +kernel
theorem dRd_readTape_16 : decode kRd_readTape.2.1 16 = .ok (.getfield 49, 3) := by decide +kernel
theorem dRd_readTape_19 : decode kRd_readTape.2.1 19 = .ok (.iconst 0, 1) := by decide +kernel
theorem dRd_readTape_20 : decode kRd_readTape.2.1 20 = .ok (.iaload, 1) := by decide +kernel
theorem dRd_readTape_21 : decode kRd_readTape.2.1 21 = .ok (.putfield 52, 3) := by decide +kernel
theorem dRd_readTape_24 : decode kRd_readTape.2.1 24 = .ok (.iconst 0, 1) := by decide +kernel
theorem dRd_readTape_25 : decode kRd_readTape.2.1 25 = .ok (.istore_n 1, 1) := by decide +kernel
theorem dRd_readTape_26 : decode kRd_readTape.2.1 26 = .ok (.iload_n 1, 1) := by decide +kernel
theorem dRd_readTape_27 : decode kRd_readTape.2.1 27 = .ok (.sipush 4000, 3) := by decide +kernel
theorem dRd_readTape_30 : decode kRd_readTape.2.1 30 = .ok (.if_icmp .gt 103, 3) := by decide +kernel
theorem dRd_readTape_33 : decode kRd_readTape.2.1 33 = .ok (.aload_n 0, 1) := by decide +kernel
theorem dRd_readTape_34 : decode kRd_readTape.2.1 34 = .ok (.getfield 55, 3) := by decide +kernel
theorem dRd_readTape_37 : decode kRd_readTape.2.1 37 = .ok (.ifCond .ne 96, 3) := by decide +kernel
theorem dRd_readTape_40 : decode kRd_readTape.2.1 40 = .ok (.aload_n 0, 1) := by decide +kernel
theorem dRd_readTape_41 : decode kRd_readTape.2.1 41 = .ok (.getfield 52, 3) := by decide +kernel
theorem dRd_readTape_44 : decode kRd_readTape.2.1 44 = .ok (.bipush 45, 2) := by decide +kernel
theorem dRd_readTape_46 : decode kRd_readTape.2.1 46 = .ok (.if_icmp .eq 87, 3) := by decide +kernel
theorem dRd_readTape_49 : decode kRd_readTape.2.1 49 = .ok (.aload_n 0, 1) := by decide +kernel
theorem dRd_readTape_50 : decode kRd_readTape.2.1 50 = .ok (.getfield 52, 3) := by decide +kernel
theorem dRd_readTape_53 : decode kRd_readTape.2.1 53 = .ok (.tableswitch 70 29 33 #[35, 42, 49, 56, 63], 35) := by decide +kernel
theorem dRd_readTape_88 : decode kRd_readTape.2.1 88 = .ok (.aload_n 0, 1) := by decide +kernel
theorem dRd_readTape_89 : decode kRd_readTape.2.1 89 = .ok (.invokevirtual 58, 3) := by decide +kernel
theorem dRd_readTape_92 : decode kRd_readTape.2.1 92 = .ok (.goto 35, 3) := by decide +kernel
theorem dRd_readTape_95 : decode kRd_readTape.2.1 95 = .ok (.aload_n 0, 1) := by decide +kernel
theorem dRd_readTape_96 : decode kRd_readTape.2.1 96 = .ok (.invokevirtual 61, 3) := by decide +kernel
theorem dRd_readTape_99 : decode kRd_readTape.2.1 99 = .ok (.goto 28, 3) := by decide +kernel
theorem dRd_readTape_102 : decode kRd_readTape.2.1 102 = .ok (.aload_n 0, 1) := by decide +kernel
theorem dRd_readTape_103 : decode kRd_readTape.2.1 103 = .ok (.invokevirtual 64, 3) := by decide +kernel
theorem dRd_readTape_106 : decode kRd_readTape.2.1 106 = .ok (.goto 21, 3) := by decide +kernel
theorem dRd_readTape_109 : decode kRd_readTape.2.1 109 = .ok (.aload_n 0, 1) := by decide +kernel
theorem dRd_readTape_110 : decode kRd_readTape.2.1 110 = .ok (.invokevirtual 67, 3) := by decide +kernel
theorem dRd_readTape_113 : decode kRd_readTape.2.1 113 = .ok (.goto 14, 3) := by decide +kernel
theorem dRd_readTape_116 : decode kRd_readTape.2.1 116 = .ok (.aload_n 0, 1) := by decide +kernel
theorem dRd_readTape_117 : decode kRd_readTape.2.1 117 = .ok (.invokevirtual 70, 3) := by decide +kernel
theorem dRd_readTape_120 : decode kRd_readTape.2.1 120 = .ok (.goto 7, 3) := by decide +kernel
theorem dRd_readTape_123 : decode kRd_readTape.2.1 123 = .ok (.aload_n 0, 1) := by decide +kernel
theorem dRd_readTape_124 : decode kRd_readTape.2.1 124 = .ok (.invokevirtual 73, 3) := by decide +kernel
theorem dRd_readTape_127 : decode kRd_readTape.2.1 127 = .ok (.iinc 1 1, 3) := by decide +kernel
theorem dRd_readTape_130 : decode kRd_readTape.2.1 130 = .ok (.goto (-104), 3) := by decide +kernel
theorem dRd_readTape_133 : decode kRd_readTape.2.1 133 = .ok (.return_, 1) := by decide +kernel
theorem dRd_begin_0 : decode kRd_begin.2.1 0 = .ok (.aload_n 0, 1) := by decide +kernel
theorem dRd_begin_1 : decode kRd_begin.2.1 1 = .ok (.getfield 21, 3) := by decide +kernel
theorem dRd_begin_4 : decode kRd_begin.2.1 4 = .ok (.invokevirtual 76, 3) := by decide +kernel
theorem dRd_begin_7 : decode kRd_begin.2.1 7 = .ok (.aload_n 0, 1) := by decide +kernel
theorem dRd_begin_8 : decode kRd_begin.2.1 8 = .ok (.getfield 15, 3) := by decide +kernel
theorem dRd_begin_11 : decode kRd_begin.2.1 11 = .ok (.iconst 0, 1) := by decide +kernel
theorem dRd_begin_12 : decode kRd_begin.2.1 12 = .ok (.invokestatic 79, 3) := by decide +kernel
theorem dRd_begin_15 : decode kRd_begin.2.1 15 = .ok (.aload_n 0, 1) := by decide +kernel
theorem dRd_begin_16 : decode kRd_begin.2.1 16 = .ok (.iconst 0, 1) := by decide +kernel
theorem dRd_begin_17 : decode kRd_begin.2.1 17 = .ok (.putfield 85, 3) := by decide +kernel
theorem dRd_begin_20 : decode kRd_begin.2.1 20 = .ok (.aload_n 0, 1) := by decide +kernel
theorem dRd_begin_21 : decode kRd_begin.2.1 21 = .ok (.iconst 0, 1) := by decide +kernel
theorem dRd_begin_22 : decode kRd_begin.2.1 22 = .ok (.putfield 55, 3) := by decide +kernel
theorem dRd_begin_25 : decode kRd_begin.2.1 25 = .ok (.aload_n 0, 1) := by decide +kernel
theorem dRd_begin_26 : decode kRd_begin.2.1 26 = .ok (.iconst 0, 1) := by decide +kernel
theorem dRd_begin_27 : decode kRd_begin.2.1 27 = .ok (.putfield 88, 3) := by decide +kernel
theorem dRd_begin_30 : decode kRd_begin.2.1 30 = .ok (.aload_n 0, 1) := by decide +kernel
theorem dRd_begin_31 : decode kRd_begin.2.1 31 = .ok (.iconst 0, 1) := by decide +kernel
theorem dRd_begin_32 : decode kRd_begin.2.1 32 = .ok (.putfield 91, 3) := by decide +kernel
theorem dRd_begin_35 : decode kRd_begin.2.1 35 = .ok (.return_, 1) := by decide +kernel
theorem dRd_readReg_0 : decode kRd_readReg.2.1 0 = .ok (.aload_n 0, 1) := by decide +kernel
theorem dRd_readReg_1 : decode kRd_readReg.2.1 1 = .ok (.invokevirtual 97, 3) := by decide +kernel
theorem dRd_readReg_4 : decode kRd_readReg.2.1 4 = .ok (.aload_n 0, 1) := by decide +kernel
theorem dRd_readReg_5 : decode kRd_readReg.2.1 5 = .ok (.iconst 1, 1) := by decide +kernel
theorem dRd_readReg_6 : decode kRd_readReg.2.1 6 = .ok (.invokevirtual 100, 3) := by decide +kernel
theorem dRd_readReg_9 : decode kRd_readReg.2.1 9 = .ok (.pop, 1) := by decide +kernel
theorem dRd_readReg_10 : decode kRd_readReg.2.1 10 = .ok (.aload_n 0, 1) := by decide +kernel
theorem dRd_readReg_11 : decode kRd_readReg.2.1 11 = .ok (.iconst 1, 1) := by decide +kernel
theorem dRd_readReg_12 : decode kRd_readReg.2.1 12 = .ok (.bipush 8, 2) := by decide +kernel
theorem dRd_readReg_14 : decode kRd_readReg.2.1 14 = .ok (.aload_n 0, 1) := by decide +kernel
theorem dRd_readReg_15 : decode kRd_readReg.2.1 15 = .ok (.getfield 21, 3) := by decide +kernel
theorem dRd_readReg_18 : decode kRd_readReg.2.1 18 = .ok (.getfield 104, 3) := by decide +kernel
theorem dRd_readReg_21 : decode kRd_readReg.2.1 21 = .ok (.isub, 1) := by decide +kernel
theorem dRd_readReg_22 : decode kRd_readReg.2.1 22 = .ok (.invokevirtual 107, 3) := by decide +kernel
theorem dRd_readReg_25 : decode kRd_readReg.2.1 25 = .ok (.istore_n 1, 1) := by decide +kernel
theorem dRd_readReg_26 : decode kRd_readReg.2.1 26 = .ok (.aload_n 0, 1) := by decide +kernel
theorem dRd_readReg_27 : decode kRd_readReg.2.1 27 = .ok (.iconst 2, 1) := by decide +kernel
theorem dRd_readReg_28 : decode kRd_readReg.2.1 28 = .ok (.invokevirtual 100, 3) := by decide +kernel
theorem dRd_readReg_31 : decode kRd_readReg.2.1 31 = .ok (.pop, 1) := by decide +kernel
theorem dRd_readReg_32 : decode kRd_readReg.2.1 32 = .ok (.aload_n 0, 1) := by decide +kernel
theorem dRd_readReg_33 : decode kRd_readReg.2.1 33 = .ok (.iconst 0, 1) := by decide +kernel
theorem dRd_readReg_34 : decode kRd_readReg.2.1 34 = .ok (.iconst 1, 1) := by decide +kernel
theorem dRd_readReg_35 : decode kRd_readReg.2.1 35 = .ok (.iload_n 1, 1) := by decide +kernel
theorem dRd_readReg_36 : decode kRd_readReg.2.1 36 = .ok (.ishl, 1) := by decide +kernel
theorem dRd_readReg_37 : decode kRd_readReg.2.1 37 = .ok (.iconst 1, 1) := by decide +kernel
theorem dRd_readReg_38 : decode kRd_readReg.2.1 38 = .ok (.isub, 1) := by decide +kernel
theorem dRd_readReg_39 : decode kRd_readReg.2.1 39 = .ok (.invokevirtual 107, 3) := by decide +kernel
theorem dRd_readReg_42 : decode kRd_readReg.2.1 42 = .ok (.istore_n 2, 1) := by decide +kernel
theorem dRd_readReg_43 : decode kRd_readReg.2.1 43 = .ok (.aload_n 0, 1) := by decide +kernel
theorem dRd_readReg_44 : decode kRd_readReg.2.1 44 = .ok (.iconst 0, 1) := by decide +kernel
theorem dRd_readReg_45 : decode kRd_readReg.2.1 45 = .ok (.invokevirtual 100, 3) := by decide +kernel
theorem dRd_readReg_48 : decode kRd_readReg.2.1 48 = .ok (.ifCond .eq 12, 3) := by decide +kernel
theorem dRd_readReg_51 : decode kRd_readReg.2.1 51 = .ok (.aload_n 0, 1) := by decide +kernel
theorem dRd_readReg_52 : decode kRd_readReg.2.1 52 = .ok (.getfield 21, 3) := by decide +kernel
theorem dRd_readReg_55 : decode kRd_readReg.2.1 55 = .ok (.iload_n 1, 1) := by decide +kernel
theorem dRd_readReg_56 : decode kRd_readReg.2.1 56 = .ok (.iload_n 2, 1) := by decide +kernel
theorem dRd_readReg_57 : decode kRd_readReg.2.1 57 = .ok (.invokevirtual 111, 3) := by decide +kernel
theorem dRd_readReg_60 : decode kRd_readReg.2.1 60 = .ok (.return_, 1) := by decide +kernel
theorem dRd_readNewName_0 : decode kRd_readNewName.2.1 0 = .ok (.aload_n 0, 1) := by decide +kernel
theorem dRd_readNewName_1 : decode kRd_readNewName.2.1 1 = .ok (.invokevirtual 139, 3) := by decide +kernel
theorem dRd_readNewName_4 : decode kRd_readNewName.2.1 4 = .ok (.aload_n 0, 1) := by decide +kernel
theorem dRd_readNewName_5 : decode kRd_readNewName.2.1 5 = .ok (.getfield 21, 3) := by decide +kernel
theorem dRd_readNewName_8 : decode kRd_readNewName.2.1 8 = .ok (.getfield 125, 3) := by decide +kernel
theorem dRd_readNewName_11 : decode kRd_readNewName.2.1 11 = .ok (.istore_n 1, 1) := by decide +kernel
theorem dRd_readNewName_12 : decode kRd_readNewName.2.1 12 = .ok (.aload_n 0, 1) := by decide +kernel
theorem dRd_readNewName_13 : decode kRd_readNewName.2.1 13 = .ok (.getfield 52, 3) := by decide +kernel
theorem dRd_readNewName_16 : decode kRd_readNewName.2.1 16 = .ok (.bipush 43, 2) := by decide +kernel
theorem dRd_readNewName_18 : decode kRd_readNewName.2.1 18 = .ok (.if_icmp .eq 10, 3) := by decide +kernel
theorem dRd_readNewName_21 : decode kRd_readNewName.2.1 21 = .ok (.aload_n 0, 1) := by decide +kernel
theorem dRd_readNewName_22 : decode kRd_readNewName.2.1 22 = .ok (.invokevirtual 73, 3) := by decide +kernel
theorem dRd_readNewName_25 : decode kRd_readNewName.2.1 25 = .ok (.goto 46, 3) := by decide +kernel
theorem dRd_readNewName_28 : decode kRd_readNewName.2.1 28 = .ok (.aload_n 0, 1) := by decide +kernel
theorem dRd_readNewName_29 : decode kRd_readNewName.2.1 29 = .ok (.invokevirtual 161, 3) := by decide +kernel
theorem dRd_readNewName_32 : decode kRd_readNewName.2.1 32 = .ok (.ifCond .lt 11, 3) := by decide +kernel
theorem dRd_readNewName_35 : decode kRd_readNewName.2.1 35 = .ok (.aload_n 0, 1) := by decide +kernel
theorem dRd_readNewName_36 : decode kRd_readNewName.2.1 36 = .ok (.iconst 2, 1) := by decide +kernel
theorem dRd_readNewName_37 : decode kRd_readNewName.2.1 37 = .ok (.invokevirtual 149, 3) := by decide +kernel
theorem dRd_readNewName_40 : decode kRd_readNewName.2.1 40 = .ok (.goto 31, 3) := by decide +kernel
theorem dRd_readNewName_43 : decode kRd_readNewName.2.1 43 = .ok (.iload_n 1, 1) := by decide +kernel
theorem dRd_readNewName_44 : decode kRd_readNewName.2.1 44 = .ok (.bipush 60, 2) := by decide +kernel
theorem dRd_readNewName_46 : decode kRd_readNewName.2.1 46 = .ok (.if_icmp .lt 11, 3) := by decide +kernel
theorem dRd_readNewName_49 : decode kRd_readNewName.2.1 49 = .ok (.aload_n 0, 1) := by decide +kernel
theorem dRd_readNewName_50 : decode kRd_readNewName.2.1 50 = .ok (.iconst 4, 1) := by decide +kernel
theorem dRd_readNewName_51 : decode kRd_readNewName.2.1 51 = .ok (.invokevirtual 149, 3) := by decide +kernel
theorem dRd_readNewName_54 : decode kRd_readNewName.2.1 54 = .ok (.goto 17, 3) := by decide +kernel
theorem dRd_readNewName_57 : decode kRd_readNewName.2.1 57 = .ok (.aload_n 0, 1) := by decide +kernel
theorem dRd_readNewName_58 : decode kRd_readNewName.2.1 58 = .ok (.getfield 9, 3) := by decide +kernel
theorem dRd_readNewName_61 : decode kRd_readNewName.2.1 61 = .ok (.iload_n 1, 1) := by decide +kernel
theorem dRd_readNewName_62 : decode kRd_readNewName.2.1 62 = .ok (.aload_n 0, 1) := by decide +kernel
theorem dRd_readNewName_63 : decode kRd_readNewName.2.1 63 = .ok (.getfield 91, 3) := by decide +kernel
theorem dRd_readNewName_66 : decode kRd_readNewName.2.1 66 = .ok (.iastore, 1) := by decide +kernel
theorem dRd_readNewName_67 : decode kRd_readNewName.2.1 67 = .ok (.aload_n 0, 1) := by decide +kernel
theorem dRd_readNewName_68 : decode kRd_readNewName.2.1 68 = .ok (.invokevirtual 139, 3) := by decide +kernel
theorem dRd_readNewName_71 : decode kRd_readNewName.2.1 71 = .ok (.return_, 1) := by decide +kernel
theorem dRd_advance_0 : decode kRd_advance.2.1 0 = .ok (.aload_n 0, 1) := by decide +kernel
theorem dRd_advance_1 : decode kRd_advance.2.1 1 = .ok (.getfield 52, 3) := by decide +kernel
theorem dRd_advance_4 : decode kRd_advance.2.1 4 = .ok (.bipush 48, 2) := by decide +kernel
theorem dRd_advance_6 : decode kRd_advance.2.1 6 = .ok (.if_icmp .eq 45, 3) := by decide +kernel
theorem dRd_advance_9 : decode kRd_advance.2.1 9 = .ok (.aload_n 0, 1) := by decide +kernel
theorem dRd_advance_10 : decode kRd_advance.2.1 10 = .ok (.getfield 91, 3) := by decide +kernel
theorem dRd_advance_13 : decode kRd_advance.2.1 13 = .ok (.iconst 1, 1) := by decide +kernel
theorem dRd_advance_14 : decode kRd_advance.2.1 14 = .ok (.iadd, 1) := by decide +kernel
theorem dRd_advance_15 : decode kRd_advance.2.1 15 = .ok (.aload_n 0, 1) := by decide +kernel
theorem dRd_advance_16 : decode kRd_advance.2.1 16 = .ok (.getfield 30, 3) := by decide +kernel
theorem dRd_advance_19 : decode kRd_advance.2.1 19 = .ok (.getfield 94, 3) := by decide +kernel
theorem dRd_advance_22 : decode kRd_advance.2.1 22 = .ok (.if_icmp .ge 29, 3) := by decide +kernel
theorem dRd_advance_25 : decode kRd_advance.2.1 25 = .ok (.aload_n 0, 1) := by decide +kernel
theorem dRd_advance_26 : decode kRd_advance.2.1 26 = .ok (.dup, 1) := by decide +kernel
theorem dRd_advance_27 : decode kRd_advance.2.1 27 = .ok (.getfield 91, 3) := by decide +kernel
theorem dRd_advance_30 : decode kRd_advance.2.1 30 = .ok (.iconst 1, 1) := by decide +kernel
theorem dRd_advance_31 : decode kRd_advance.2.1 31 = .ok (.iadd, 1) := by decide +kernel
theorem dRd_advance_32 : decode kRd_advance.2.1 32 = .ok (.putfield 91, 3) := by decide +kernel
theorem dRd_advance_35 : decode kRd_advance.2.1 35 = .ok (.aload_n 0, 1) := by decide +kernel
theorem dRd_advance_36 : decode kRd_advance.2.1 36 = .ok (.aload_n 0, 1) := by decide +kernel
theorem dRd_advance_37 : decode kRd_advance.2.1 37 = .ok (.getfield 30, 3) := by decide +kernel
theorem dRd_advance_40 : decode kRd_advance.2.1 40 = .ok (.getfield 49, 3) := by decide +kernel
theorem dRd_advance_43 : decode kRd_advance.2.1 43 = .ok (.aload_n 0, 1) := by decide +kernel
theorem dRd_advance_44 : decode kRd_advance.2.1 44 = .ok (.getfield 91, 3) := by decide +kernel
theorem dRd_advance_47 : decode kRd_advance.2.1 47 = .ok (.iaload, 1) := by decide +kernel
theorem dRd_advance_48 : decode kRd_advance.2.1 48 = .ok (.putfield 52, 3) := by decide +kernel
theorem dRd_advance_51 : decode kRd_advance.2.1 51 = .ok (.return_, 1) := by decide +kernel
theorem dRd_refuse_0 : decode kRd_refuse.2.1 0 = .ok (.aload_n 0, 1) := by decide +kernel
theorem dRd_refuse_1 : decode kRd_refuse.2.1 1 = .ok (.aload_n 0, 1) := by decide +kernel
theorem dRd_refuse_2 : decode kRd_refuse.2.1 2 = .ok (.getfield 52, 3) := by decide +kernel
theorem dRd_refuse_5 : decode kRd_refuse.2.1 5 = .ok (.bipush 47, 2) := by decide +kernel
theorem dRd_refuse_7 : decode kRd_refuse.2.1 7 = .ok (.if_icmp .ne 7, 3) := by decide +kernel
theorem dRd_refuse_10 : decode kRd_refuse.2.1 10 = .ok (.iconst 4, 1) := by decide +kernel
theorem dRd_refuse_11 : decode kRd_refuse.2.1 11 = .ok (.goto 4, 3) := by decide +kernel
theorem dRd_refuse_14 : decode kRd_refuse.2.1 14 = .ok (.iconst 1, 1) := by decide +kernel
theorem dRd_refuse_15 : decode kRd_refuse.2.1 15 = .ok (.invokevirtual 149, 3) := by decide +kernel
theorem dRd_refuse_18 : decode kRd_refuse.2.1 18 = .ok (.return_, 1) := by decide +kernel
theorem dRd_halt_0 : decode kRd_halt.2.1 0 = .ok (.aload_n 0, 1) := by decide +kernel
theorem dRd_halt_1 : decode kRd_halt.2.1 1 = .ok (.getfield 55, 3) := by decide +kernel
theorem dRd_halt_4 : decode kRd_halt.2.1 4 = .ok (.ifCond .ne 30, 3) := by decide +kernel
theorem dRd_halt_7 : decode kRd_halt.2.1 7 = .ok (.aload_n 0, 1) := by decide +kernel
theorem dRd_halt_8 : decode kRd_halt.2.1 8 = .ok (.iload_n 1, 1) := by decide +kernel
theorem dRd_halt_9 : decode kRd_halt.2.1 9 = .ok (.putfield 55, 3) := by decide +kernel
theorem dRd_halt_12 : decode kRd_halt.2.1 12 = .ok (.aload_n 0, 1) := by decide +kernel
theorem dRd_halt_13 : decode kRd_halt.2.1 13 = .ok (.aload_n 0, 1) := by decide +kernel
theorem dRd_halt_14 : decode kRd_halt.2.1 14 = .ok (.getfield 30, 3) := by decide +kernel
theorem dRd_halt_17 : decode kRd_halt.2.1 17 = .ok (.getfield 223, 3) := by decide +kernel
theorem dRd_halt_20 : decode kRd_halt.2.1 20 = .ok (.aload_n 0, 1) := by decide +kernel
theorem dRd_halt_21 : decode kRd_halt.2.1 21 = .ok (.getfield 91, 3) := by decide +kernel
theorem dRd_halt_24 : decode kRd_halt.2.1 24 = .ok (.iaload, 1) := by decide +kernel
theorem dRd_halt_25 : decode kRd_halt.2.1 25 = .ok (.putfield 88, 3) := by decide +kernel
theorem dRd_halt_28 : decode kRd_halt.2.1 28 = .ok (.aload_n 0, 1) := by decide +kernel
theorem dRd_halt_29 : decode kRd_halt.2.1 29 = .ok (.bipush 48, 2) := by decide +kernel
theorem dRd_halt_31 : decode kRd_halt.2.1 31 = .ok (.putfield 52, 3) := by decide +kernel
theorem dRd_halt_34 : decode kRd_halt.2.1 34 = .ok (.return_, 1) := by decide +kernel
theorem dRd_findName_0 : decode kRd_findName.2.1 0 = .ok (.iconst 0, 1) := by decide +kernel
theorem dRd_findName_1 : decode kRd_findName.2.1 1 = .ok (.istore_n 1, 1) := by decide +kernel
theorem dRd_findName_2 : decode kRd_findName.2.1 2 = .ok (.iload_n 1, 1) := by decide +kernel
theorem dRd_findName_3 : decode kRd_findName.2.1 3 = .ok (.aload_n 0, 1) := by decide +kernel
theorem dRd_findName_4 : decode kRd_findName.2.1 4 = .ok (.getfield 21, 3) := by decide +kernel
theorem dRd_findName_7 : decode kRd_findName.2.1 7 = .ok (.getfield 125, 3) := by decide +kernel
theorem dRd_findName_10 : decode kRd_findName.2.1 10 = .ok (.if_icmp .ge 31, 3) := by decide +kernel
theorem dRd_findName_13 : decode kRd_findName.2.1 13 = .ok (.aload_n 0, 1) := by decide +kernel
theorem dRd_findName_14 : decode kRd_findName.2.1 14 = .ok (.getfield 30, 3) := by decide +kernel
theorem dRd_findName_17 : decode kRd_findName.2.1 17 = .ok (.aload_n 0, 1) := by decide +kernel
theorem dRd_findName_18 : decode kRd_findName.2.1 18 = .ok (.getfield 9, 3) := by decide +kernel
theorem dRd_findName_21 : decode kRd_findName.2.1 21 = .ok (.iload_n 1, 1) := by decide +kernel
theorem dRd_findName_22 : decode kRd_findName.2.1 22 = .ok (.iaload, 1) := by decide +kernel
theorem dRd_findName_23 : decode kRd_findName.2.1 23 = .ok (.aload_n 0, 1) := by decide +kernel
theorem dRd_findName_24 : decode kRd_findName.2.1 24 = .ok (.getfield 91, 3) := by decide +kernel
theorem dRd_findName_27 : decode kRd_findName.2.1 27 = .ok (.invokevirtual 226, 3) := by decide +kernel
theorem dRd_findName_30 : decode kRd_findName.2.1 30 = .ok (.ifCond .eq 5, 3) := by decide +kernel
theorem dRd_findName_33 : decode kRd_findName.2.1 33 = .ok (.iload_n 1, 1) := by decide +kernel
theorem dRd_findName_34 : decode kRd_findName.2.1 34 = .ok (.ireturn, 1) := by decide +kernel
theorem dRd_findName_35 : decode kRd_findName.2.1 35 = .ok (.iinc 1 1, 3) := by decide +kernel
theorem dRd_findName_38 : decode kRd_findName.2.1 38 = .ok (.goto (-36), 3) := by decide +kernel
theorem dRd_findName_41 : decode kRd_findName.2.1 41 = .ok (.iconst (-1), 1) := by decide +kernel
theorem dRd_findName_42 : decode kRd_findName.2.1 42 = .ok (.ireturn, 1) := by decide +kernel
theorem dRd_expect_0 : decode kRd_expect.2.1 0 = .ok (.aload_n 0, 1) := by decide +kernel
theorem dRd_expect_1 : decode kRd_expect.2.1 1 = .ok (.getfield 52, 3) := by decide +kernel
theorem dRd_expect_4 : decode kRd_expect.2.1 4 = .ok (.iload_n 1, 1) := by decide +kernel
theorem dRd_expect_5 : decode kRd_expect.2.1 5 = .ok (.if_icmp .eq 9, 3) := by decide +kernel
theorem dRd_expect_8 : decode kRd_expect.2.1 8 = .ok (.aload_n 0, 1) := by decide +kernel
theorem dRd_expect_9 : decode kRd_expect.2.1 9 = .ok (.invokevirtual 73, 3) := by decide +kernel
theorem dRd_expect_12 : decode kRd_expect.2.1 12 = .ok (.iconst 0, 1) := by decide +kernel
theorem dRd_expect_13 : decode kRd_expect.2.1 13 = .ok (.ireturn, 1) := by decide +kernel
theorem dRd_expect_14 : decode kRd_expect.2.1 14 = .ok (.aload_n 0, 1) := by decide +kernel
theorem dRd_expect_15 : decode kRd_expect.2.1 15 = .ok (.invokevirtual 139, 3) := by decide +kernel
theorem dRd_expect_18 : decode kRd_expect.2.1 18 = .ok (.iconst 1, 1) := by decide +kernel
theorem dRd_expect_19 : decode kRd_expect.2.1 19 = .ok (.ireturn, 1) := by decide +kernel
theorem dRd_readNumber_0 : decode kRd_readNumber.2.1 0 = .ok (.aload_n 0, 1) := by decide +kernel
theorem dRd_readNumber_1 : decode kRd_readNumber.2.1 1 = .ok (.getfield 52, 3) := by decide +kernel
theorem dRd_readNumber_4 : decode kRd_readNumber.2.1 4 = .ok (.bipush 44, 2) := by decide +kernel
theorem dRd_readNumber_6 : decode kRd_readNumber.2.1 6 = .ok (.if_icmp .eq 9, 3) := by decide +kernel
theorem dRd_readNumber_9 : decode kRd_readNumber.2.1 9 = .ok (.aload_n 0, 1) := by decide +kernel
theorem dRd_readNumber_10 : decode kRd_readNumber.2.1 10 = .ok (.invokevirtual 73, 3) := by decide +kernel
theorem dRd_readNumber_13 : decode kRd_readNumber.2.1 13 = .ok (.iconst 0, 1) := by decide +kernel
theorem dRd_readNumber_14 : decode kRd_readNumber.2.1 14 = .ok (.ireturn, 1) := by decide +kernel
theorem dRd_readNumber_15 : decode kRd_readNumber.2.1 15 = .ok (.aload_n 0, 1) := by decide +kernel
theorem dRd_readNumber_16 : decode kRd_readNumber.2.1 16 = .ok (.getfield 30, 3) := by decide +kernel
theorem dRd_readNumber_19 : decode kRd_readNumber.2.1 19 = .ok (.getfield 165, 3) := by decide +kernel
theorem dRd_readNumber_22 : decode kRd_readNumber.2.1 22 = .ok (.aload_n 0, 1) := by decide +kernel
theorem dRd_readNumber_23 : decode kRd_readNumber.2.1 23 = .ok (.getfield 91, 3) := by decide +kernel
theorem dRd_readNumber_26 : decode kRd_readNumber.2.1 26 = .ok (.iaload, 1) := by decide +kernel
theorem dRd_readNumber_27 : decode kRd_readNumber.2.1 27 = .ok (.istore_n 3, 1) := by decide +kernel
theorem dRd_readNumber_28 : decode kRd_readNumber.2.1 28 = .ok (.iload_n 3, 1) := by decide +kernel
theorem dRd_readNumber_29 : decode kRd_readNumber.2.1 29 = .ok (.iload_n 1, 1) := by decide +kernel
theorem dRd_readNumber_30 : decode kRd_readNumber.2.1 30 = .ok (.if_icmp .lt 8, 3) := by decide +kernel
theorem dRd_readNumber_33 : decode kRd_readNumber.2.1 33 = .ok (.iload_n 3, 1) := by decide +kernel
theorem dRd_readNumber_34 : decode kRd_readNumber.2.1 34 = .ok (.iload_n 2, 1) := by decide +kernel
theorem dRd_readNumber_35 : decode kRd_readNumber.2.1 35 = .ok (.if_icmp .le 10, 3) := by decide +kernel
theorem dRd_readNumber_38 : decode kRd_readNumber.2.1 38 = .ok (.aload_n 0, 1) := by decide +kernel
theorem dRd_readNumber_39 : decode kRd_readNumber.2.1 39 = .ok (.iconst 3, 1) := by decide +kernel
theorem dRd_readNumber_40 : decode kRd_readNumber.2.1 40 = .ok (.invokevirtual 149, 3) := by decide +kernel
theorem dRd_readNumber_43 : decode kRd_readNumber.2.1 43 = .ok (.iconst 0, 1) := by decide +kernel
theorem dRd_readNumber_44 : decode kRd_readNumber.2.1 44 = .ok (.ireturn, 1) := by decide +kernel
theorem dRd_readNumber_45 : decode kRd_readNumber.2.1 45 = .ok (.aload_n 0, 1) := by decide +kernel
theorem dRd_readNumber_46 : decode kRd_readNumber.2.1 46 = .ok (.invokevirtual 139, 3) := by decide +kernel
theorem dRd_readNumber_49 : decode kRd_readNumber.2.1 49 = .ok (.iload_n 3, 1) := by decide +kernel
theorem dRd_readNumber_50 : decode kRd_readNumber.2.1 50 = .ok (.ireturn, 1) := by decide +kernel
theorem dRd_readInput_0 : decode kRd_readInput.2.1 0 = .ok (.aload_n 0, 1) := by decide +kernel
theorem dRd_readInput_1 : decode kRd_readInput.2.1 1 = .ok (.invokevirtual 97, 3) := by decide +kernel
theorem dRd_readInput_4 : decode kRd_readInput.2.1 4 = .ok (.aload_n 0, 1) := by decide +kernel
theorem dRd_readInput_5 : decode kRd_readInput.2.1 5 = .ok (.iconst 1, 1) := by decide +kernel
theorem dRd_readInput_6 : decode kRd_readInput.2.1 6 = .ok (.invokevirtual 100, 3) := by decide +kernel
theorem dRd_readInput_9 : decode kRd_readInput.2.1 9 = .ok (.pop, 1) := by decide +kernel
theorem dRd_readInput_10 : decode kRd_readInput.2.1 10 = .ok (.aload_n 0, 1) := by decide +kernel
theorem dRd_readInput_11 : decode kRd_readInput.2.1 11 = .ok (.iconst 1, 1) := by decide +kernel
theorem dRd_readInput_12 : decode kRd_readInput.2.1 12 = .ok (.iconst 3, 1) := by decide +kernel
theorem dRd_readInput_13 : decode kRd_readInput.2.1 13 = .ok (.aload_n 0, 1) := by decide +kernel
theorem dRd_readInput_14 : decode kRd_readInput.2.1 14 = .ok (.getfield 21, 3) := by decide +kernel
theorem dRd_readInput_17 : decode kRd_readInput.2.1 17 = .ok (.getfield 115, 3) := by decide +kernel
theorem dRd_readInput_20 : decode kRd_readInput.2.1 20 = .ok (.isub, 1) := by decide +kernel
theorem dRd_readInput_21 : decode kRd_readInput.2.1 21 = .ok (.invokevirtual 107, 3) := by decide +kernel
theorem dRd_readInput_24 : decode kRd_readInput.2.1 24 = .ok (.istore_n 1, 1) := by decide +kernel
theorem dRd_readInput_25 : decode kRd_readInput.2.1 25 = .ok (.aload_n 0, 1) := by decide +kernel
theorem dRd_readInput_26 : decode kRd_readInput.2.1 26 = .ok (.iconst 0, 1) := by decide +kernel
theorem dRd_readInput_27 : decode kRd_readInput.2.1 27 = .ok (.invokevirtual 100, 3) := by decide +kernel
theorem dRd_readInput_30 : decode kRd_readInput.2.1 30 = .ok (.ifCond .eq 11, 3) := by decide +kernel
theorem dRd_readInput_33 : decode kRd_readInput.2.1 33 = .ok (.aload_n 0, 1) := by decide +kernel
theorem dRd_readInput_34 : decode kRd_readInput.2.1 34 = .ok (.getfield 21, 3) := by decide +kernel
theorem dRd_readInput_37 : decode kRd_readInput.2.1 37 = .ok (.iload_n 1, 1) := by decide +kernel
theorem dRd_readInput_38 : decode kRd_readInput.2.1 38 = .ok (.invokevirtual 118, 3) := by decide +kernel
theorem dRd_readInput_41 : decode kRd_readInput.2.1 41 = .ok (.return_, 1) := by decide +kernel
theorem dRd_readWire_0 : decode kRd_readWire.2.1 0 = .ok (.aload_n 0, 1) := by decide +kernel
theorem dRd_readWire_1 : decode kRd_readWire.2.1 1 = .ok (.invokevirtual 97, 3) := by decide +kernel
theorem dRd_readWire_4 : decode kRd_readWire.2.1 4 = .ok (.aload_n 0, 1) := by decide +kernel
theorem dRd_readWire_5 : decode kRd_readWire.2.1 5 = .ok (.iconst 2, 1) := by decide +kernel
theorem dRd_readWire_6 : decode kRd_readWire.2.1 6 = .ok (.invokevirtual 100, 3) := by decide +kernel
theorem dRd_readWire_9 : decode kRd_readWire.2.1 9 = .ok (.pop, 1) := by decide +kernel
theorem dRd_readWire_10 : decode kRd_readWire.2.1 10 = .ok (.aload_n 0, 1) := by decide +kernel
theorem dRd_readWire_11 : decode kRd_readWire.2.1 11 = .ok (.aload_n 0, 1) := by decide +kernel
theorem dRd_readWire_12 : decode kRd_readWire.2.1 12 = .ok (.getfield 21, 3) := by decide +kernel
theorem dRd_readWire_15 : decode kRd_readWire.2.1 15 = .ok (.getfield 34, 3) := by decide +kernel
theorem dRd_readWire_18 : decode kRd_readWire.2.1 18 = .ok (.putfield 40, 3) := by decide +kernel
theorem dRd_readWire_21 : decode kRd_readWire.2.1 21 = .ok (.aload_n 0, 1) := by decide +kernel
theorem dRd_readWire_22 : decode kRd_readWire.2.1 22 = .ok (.iconst 0, 1) := by decide +kernel
theorem dRd_readWire_23 : decode kRd_readWire.2.1 23 = .ok (.invokevirtual 122, 3) := by decide +kernel
theorem dRd_readWire_26 : decode kRd_readWire.2.1 26 = .ok (.aload_n 0, 1) := by decide +kernel
theorem dRd_readWire_27 : decode kRd_readWire.2.1 27 = .ok (.iconst 0, 1) := by decide +kernel
theorem dRd_readWire_28 : decode kRd_readWire.2.1 28 = .ok (.invokevirtual 100, 3) := by decide +kernel
theorem dRd_readWire_31 : decode kRd_readWire.2.1 31 = .ok (.ifCond .eq 26, 3) := by decide +kernel
theorem dRd_readWire_34 : decode kRd_readWire.2.1 34 = .ok (.aload_n 0, 1) := by decide +kernel
theorem dRd_readWire_35 : decode kRd_readWire.2.1 35 = .ok (.getfield 40, 3) := by decide +kernel
theorem dRd_readWire_38 : decode kRd_readWire.2.1 38 = .ok (.bipush 31, 2) := by decide +kernel
theorem dRd_readWire_40 : decode kRd_readWire.2.1 40 = .ok (.aload_n 0, 1) := by decide +kernel
theorem dRd_readWire_41 : decode kRd_readWire.2.1 41 = .ok (.getfield 21, 3) := by decide +kernel
theorem dRd_readWire_44 : decode kRd_readWire.2.1 44 = .ok (.getfield 125, 3) := by decide +kernel
theorem dRd_readWire_47 : decode kRd_readWire.2.1 47 = .ok (.invokevirtual 128, 3) := by decide +kernel
theorem dRd_readWire_50 : decode kRd_readWire.2.1 50 = .ok (.aload_n 0, 1) := by decide +kernel
theorem dRd_readWire_51 : decode kRd_readWire.2.1 51 = .ok (.getfield 21, 3) := by decide +kernel
theorem dRd_readWire_54 : decode kRd_readWire.2.1 54 = .ok (.invokevirtual 133, 3) := by decide +kernel
theorem dRd_readWire_57 : decode kRd_readWire.2.1 57 = .ok (.return_, 1) := by decide +kernel
theorem dRd_readExpression_0 : decode kRd_readExpression.2.1 0 = .ok (.aload_n 0, 1) := by decide +kernel
theorem dRd_readExpression_1 : decode kRd_readExpression.2.1 1 = .ok (.iload_n 1, 1) := by decide +kernel
theorem dRd_readExpression_2 : decode kRd_readExpression.2.1 2 = .ok (.invokevirtual 168, 3) := by decide +kernel
theorem dRd_readExpression_5 : decode kRd_readExpression.2.1 5 = .ok (.ifCond .eq 4, 3) := by decide +kernel
theorem dRd_readExpression_8 : decode kRd_readExpression.2.1 8 = .ok (.return_, 1) := by decide +kernel
theorem dRd_readExpression_9 : decode kRd_readExpression.2.1 9 = .ok (.aload_n 0, 1) := by decide +kernel
theorem dRd_readExpression_10 : decode kRd_readExpression.2.1 10 = .ok (.iload_n 1, 1) := by decide +kernel
theorem dRd_readExpression_11 : decode kRd_readExpression.2.1 11 = .ok (.invokevirtual 171, 3) := by decide +kernel
theorem dRd_readExpression_14 : decode kRd_readExpression.2.1 14 = .ok (.aload_n 0, 1) := by decide +kernel
theorem dRd_readExpression_15 : decode kRd_readExpression.2.1 15 = .ok (.getfield 52, 3) := by decide +kernel
theorem dRd_readExpression_18 : decode kRd_readExpression.2.1 18 = .ok (.iconst 3, 1) := by decide +kernel
theorem dRd_readExpression_19 : decode kRd_readExpression.2.1 19 = .ok (.if_icmp .ne 41, 3) := by decide +kernel
theorem dRd_readExpression_22 : decode kRd_readExpression.2.1 22 = .ok (.aload_n 0, 1) := by decide +kernel
theorem dRd_readExpression_23 : decode kRd_readExpression.2.1 23 = .ok (.invokevirtual 174, 3) := by decide +kernel
theorem dRd_readExpression_26 : decode kRd_readExpression.2.1 26 = .ok (.aload_n 0, 1) := by decide +kernel
theorem dRd_readExpression_27 : decode kRd_readExpression.2.1 27 = .ok (.invokevirtual 139, 3) := by decide +kernel
theorem dRd_readExpression_30 : decode kRd_readExpression.2.1 30 = .ok (.aload_n 0, 1) := by decide +kernel
theorem dRd_readExpression_31 : decode kRd_readExpression.2.1 31 = .ok (.iload_n 1, 1) := by decide +kernel
theorem dRd_readExpression_32 : decode kRd_readExpression.2.1 32 = .ok (.iconst 1, 1) := by decide +kernel
theorem dRd_readExpression_33 : decode kRd_readExpression.2.1 33 = .ok (.iadd, 1) := by decide +kernel
theorem dRd_readExpression_34 : decode kRd_readExpression.2.1 34 = .ok (.invokevirtual 122, 3) := by decide +kernel
theorem dRd_readExpression_37 : decode kRd_readExpression.2.1 37 = .ok (.aload_n 0, 1) := by decide +kernel
theorem dRd_readExpression_38 : decode kRd_readExpression.2.1 38 = .ok (.iconst 1, 1) := by decide +kernel
theorem dRd_readExpression_39 : decode kRd_readExpression.2.1 39 = .ok (.invokevirtual 100, 3) := by decide +kernel
theorem dRd_readExpression_42 : decode kRd_readExpression.2.1 42 = .ok (.pop, 1) := by decide +kernel
theorem dRd_readExpression_43 : decode kRd_readExpression.2.1 43 = .ok (.aload_n 0, 1) := by decide +kernel
theorem dRd_readExpression_44 : decode kRd_readExpression.2.1 44 = .ok (.iload_n 1, 1) := by decide +kernel
theorem dRd_readExpression_45 : decode kRd_readExpression.2.1 45 = .ok (.iconst 1, 1) := by decide +kernel
theorem dRd_readExpression_46 : decode kRd_readExpression.2.1 46 = .ok (.iadd, 1) := by decide +kernel
theorem dRd_readExpression_47 : decode kRd_readExpression.2.1 47 = .ok (.invokevirtual 122, 3) := by decide +kernel
theorem dRd_readExpression_50 : decode kRd_readExpression.2.1 50 = .ok (.aload_n 0, 1) := by decide +kernel
theorem dRd_readExpression_51 : decode kRd_readExpression.2.1 51 = .ok (.getfield 40, 3) := by decide +kernel
theorem dRd_readExpression_54 : decode kRd_readExpression.2.1 54 = .ok (.bipush 50, 2) := by decide +kernel
theorem dRd_readExpression_56 : decode kRd_readExpression.2.1 56 = .ok (.iconst 0, 1) := by decide +kernel
theorem dRd_readExpression_57 : decode kRd_readExpression.2.1 57 = .ok (.invokevirtual 128, 3) := by decide +kernel
theorem dRd_readExpression_60 : decode kRd_readExpression.2.1 60 = .ok (.return_, 1) := by decide +kernel
theorem dRd_isTooDeep_0 : decode kRd_isTooDeep.2.1 0 = .ok (.iload_n 1, 1) := by decide +kernel
theorem dRd_isTooDeep_1 : decode kRd_isTooDeep.2.1 1 = .ok (.bipush 40, 2) := by decide +kernel
theorem dRd_isTooDeep_3 : decode kRd_isTooDeep.2.1 3 = .ok (.if_icmp .le 8, 3) := by decide +kernel
theorem dRd_isTooDeep_6 : decode kRd_isTooDeep.2.1 6 = .ok (.aload_n 0, 1) := by decide +kernel
theorem dRd_isTooDeep_7 : decode kRd_isTooDeep.2.1 7 = .ok (.iconst 4, 1) := by decide +kernel
theorem dRd_isTooDeep_8 : decode kRd_isTooDeep.2.1 8 = .ok (.invokevirtual 149, 3) := by decide +kernel
theorem dRd_isTooDeep_11 : decode kRd_isTooDeep.2.1 11 = .ok (.iload_n 1, 1) := by decide +kernel
theorem dRd_isTooDeep_12 : decode kRd_isTooDeep.2.1 12 = .ok (.bipush 40, 2) := by decide +kernel
theorem dRd_isTooDeep_14 : decode kRd_isTooDeep.2.1 14 = .ok (.if_icmp .le 7, 3) := by decide +kernel
theorem dRd_isTooDeep_17 : decode kRd_isTooDeep.2.1 17 = .ok (.iconst 1, 1) := by decide +kernel
theorem dRd_isTooDeep_18 : decode kRd_isTooDeep.2.1 18 = .ok (.goto 4, 3) := by decide +kernel
theorem dRd_isTooDeep_21 : decode kRd_isTooDeep.2.1 21 = .ok (.iconst 0, 1) := by decide +kernel
theorem dRd_isTooDeep_22 : decode kRd_isTooDeep.2.1 22 = .ok (.ireturn, 1) := by decide +kernel
theorem dRd_readOperands_0 : decode kRd_readOperands.2.1 0 = .ok (.aload_n 0, 1) := by decide +kernel
theorem dRd_readOperands_1 : decode kRd_readOperands.2.1 1 = .ok (.getfield 85, 3) := by decide +kernel
theorem dRd_readOperands_4 : decode kRd_readOperands.2.1 4 = .ok (.istore_n 2, 1) := by decide +kernel
theorem dRd_readOperands_5 : decode kRd_readOperands.2.1 5 = .ok (.aload_n 0, 1) := by decide +kernel
theorem dRd_readOperands_6 : decode kRd_readOperands.2.1 6 = .ok (.iload_n 1, 1) := by decide +kernel
theorem dRd_readOperands_7 : decode kRd_readOperands.2.1 7 = .ok (.invokevirtual 177, 3) := by decide +kernel
theorem dRd_readOperands_10 : decode kRd_readOperands.2.1 10 = .ok (.iconst 0, 1) := by decide +kernel
theorem dRd_readOperands_11 : decode kRd_readOperands.2.1 11 = .ok (.istore_n 3, 1) := by decide +kernel
theorem dRd_readOperands_12 : decode kRd_readOperands.2.1 12 = .ok (.iload_n 3, 1) := by decide +kernel
theorem dRd_readOperands_13 : decode kRd_readOperands.2.1 13 = .ok (.sipush 4000, 3) := by decide +kernel
theorem dRd_readOperands_16 : decode kRd_readOperands.2.1 16 = .ok (.if_icmp .gt 52, 3) := by decide +kernel
theorem dRd_readOperands_19 : decode kRd_readOperands.2.1 19 = .ok (.aload_n 0, 1) := by decide +kernel
theorem dRd_readOperands_20 : decode kRd_readOperands.2.1 20 = .ok (.getfield 52, 3) := by decide +kernel
theorem dRd_readOperands_23 : decode kRd_readOperands.2.1 23 = .ok (.invokestatic 180, 3) := by decide +kernel
theorem dRd_readOperands_26 : decode kRd_readOperands.2.1 26 = .ok (.ifCond .le 42, 3) := by decide +kernel
theorem dRd_readOperands_29 : decode kRd_readOperands.2.1 29 = .ok (.aload_n 0, 1) := by decide +kernel
theorem dRd_readOperands_30 : decode kRd_readOperands.2.1 30 = .ok (.iload_n 2, 1) := by decide +kernel
theorem dRd_readOperands_31 : decode kRd_readOperands.2.1 31 = .ok (.aload_n 0, 1) := by decide +kernel
theorem dRd_readOperands_32 : decode kRd_readOperands.2.1 32 = .ok (.getfield 52, 3) := by decide +kernel
theorem dRd_readOperands_35 : decode kRd_readOperands.2.1 35 = .ok (.invokestatic 180, 3) := by decide +kernel
theorem dRd_readOperands_38 : decode kRd_readOperands.2.1 38 = .ok (.invokevirtual 184, 3) := by decide +kernel
theorem dRd_readOperands_41 : decode kRd_readOperands.2.1 41 = .ok (.aload_n 0, 1) := by decide +kernel
theorem dRd_readOperands_42 : decode kRd_readOperands.2.1 42 = .ok (.aload_n 0, 1) := by decide +kernel
theorem dRd_readOperands_43 : decode kRd_readOperands.2.1 43 = .ok (.getfield 52, 3) := by decide +kernel
theorem dRd_readOperands_46 : decode kRd_readOperands.2.1 46 = .ok (.invokevirtual 187, 3) := by decide +kernel
theorem dRd_readOperands_49 : decode kRd_readOperands.2.1 49 = .ok (.aload_n 0, 1) := by decide +kernel
theorem dRd_readOperands_50 : decode kRd_readOperands.2.1 50 = .ok (.invokevirtual 174, 3) := by decide +kernel
theorem dRd_readOperands_53 : decode kRd_readOperands.2.1 53 = .ok (.aload_n 0, 1) := by decide +kernel
theorem dRd_readOperands_54 : decode kRd_readOperands.2.1 54 = .ok (.invokevirtual 139, 3) := by decide +kernel
theorem dRd_readOperands_57 : decode kRd_readOperands.2.1 57 = .ok (.aload_n 0, 1) := by decide +kernel
theorem dRd_readOperands_58 : decode kRd_readOperands.2.1 58 = .ok (.iload_n 1, 1) := by decide +kernel
theorem dRd_readOperands_59 : decode kRd_readOperands.2.1 59 = .ok (.invokevirtual 177, 3) := by decide +kernel
theorem dRd_readOperands_62 : decode kRd_readOperands.2.1 62 = .ok (.iinc 3 1, 3) := by decide +kernel
theorem dRd_readOperands_65 : decode kRd_readOperands.2.1 65 = .ok (.goto (-53), 3) := by decide +kernel
theorem dRd_readOperands_68 : decode kRd_readOperands.2.1 68 = .ok (.aload_n 0, 1) := by decide +kernel
theorem dRd_readOperands_69 : decode kRd_readOperands.2.1 69 = .ok (.iload_n 2, 1) := by decide +kernel
theorem dRd_readOperands_70 : decode kRd_readOperands.2.1 70 = .ok (.iconst 1, 1) := by decide +kernel
theorem dRd_readOperands_71 : decode kRd_readOperands.2.1 71 = .ok (.invokevirtual 184, 3) := by decide +kernel
theorem dRd_readOperands_74 : decode kRd_readOperands.2.1 74 = .ok (.return_, 1) := by decide +kernel
theorem dRd_readUnary_0 : decode kRd_readUnary.2.1 0 = .ok (.aload_n 0, 1) := by decide +kernel
theorem dRd_readUnary_1 : decode kRd_readUnary.2.1 1 = .ok (.iload_n 1, 1) := by decide +kernel
theorem dRd_readUnary_2 : decode kRd_readUnary.2.1 2 = .ok (.invokevirtual 168, 3) := by decide +kernel
theorem dRd_readUnary_5 : decode kRd_readUnary.2.1 5 = .ok (.ifCond .eq 4, 3) := by decide +kernel
theorem dRd_readUnary_8 : decode kRd_readUnary.2.1 8 = .ok (.return_, 1) := by decide +kernel
theorem dRd_readUnary_9 : decode kRd_readUnary.2.1 9 = .ok (.aload_n 0, 1) := by decide +kernel
theorem dRd_readUnary_10 : decode kRd_readUnary.2.1 10 = .ok (.getfield 52, 3) := by decide +kernel
theorem dRd_readUnary_13 : decode kRd_readUnary.2.1 13 = .ok (.lookupswitch 137 #[(4, 89), (13, 59), (18, 69), (19, 79), (43, 129), (44, 109)], 59) := by decide +kernel
theorem dRd_readUnary_72 : decode kRd_readUnary.2.1 72 = .ok (.aload_n 0, 1) := by decide +kernel
theorem dRd_readUnary_73 : decode kRd_readUnary.2.1 73 = .ok (.bipush 49, 2) := by decide +kernel
theorem dRd_readUnary_75 : decode kRd_readUnary.2.1 75 = .ok (.iload_n 1, 1) := by decide +kernel
theorem dRd_readUnary_76 : decode kRd_readUnary.2.1 76 = .ok (.invokevirtual 193, 3) := by decide +kernel
theorem dRd_readUnary_79 : decode kRd_readUnary.2.1 79 = .ok (.goto 75, 3) := by decide +kernel
theorem dRd_readUnary_82 : decode kRd_readUnary.2.1 82 = .ok (.aload_n 0, 1) := by decide +kernel
theorem dRd_readUnary_83 : decode kRd_readUnary.2.1 83 = .ok (.bipush 18, 2) := by decide +kernel
theorem dRd_readUnary_85 : decode kRd_readUnary.2.1 85 = .ok (.iload_n 1, 1) := by decide +kernel
theorem dRd_readUnary_86 : decode kRd_readUnary.2.1 86 = .ok (.invokevirtual 193, 3) := by decide +kernel
theorem dRd_readUnary_89 : decode kRd_readUnary.2.1 89 = .ok (.goto 65, 3) := by decide +kernel
theorem dRd_readUnary_92 : decode kRd_readUnary.2.1 92 = .ok (.aload_n 0, 1) := by decide +kernel
theorem dRd_readUnary_93 : decode kRd_readUnary.2.1 93 = .ok (.bipush 19, 2) := by decide +kernel
theorem dRd_readUnary_95 : decode kRd_readUnary.2.1 95 = .ok (.iload_n 1, 1) := by decide +kernel
theorem dRd_readUnary_96 : decode kRd_readUnary.2.1 96 = .ok (.invokevirtual 193, 3) := by decide +kernel
theorem dRd_readUnary_99 : decode kRd_readUnary.2.1 99 = .ok (.goto 55, 3) := by decide +kernel
theorem dRd_readUnary_102 : decode kRd_readUnary.2.1 102 = .ok (.aload_n 0, 1) := by decide +kernel
theorem dRd_readUnary_103 : decode kRd_readUnary.2.1 103 = .ok (.invokevirtual 139, 3) := by decide +kernel
theorem dRd_readUnary_106 : decode kRd_readUnary.2.1 106 = .ok (.aload_n 0, 1) := by decide +kernel
theorem dRd_readUnary_107 : decode kRd_readUnary.2.1 107 = .ok (.iload_n 1, 1) := by decide +kernel
theorem dRd_readUnary_108 : decode kRd_readUnary.2.1 108 = .ok (.iconst 1, 1) := by decide +kernel
theorem dRd_readUnary_109 : decode kRd_readUnary.2.1 109 = .ok (.iadd, 1) := by decide +kernel
theorem dRd_readUnary_110 : decode kRd_readUnary.2.1 110 = .ok (.invokevirtual 122, 3) := by decide +kernel
theorem dRd_readUnary_113 : decode kRd_readUnary.2.1 113 = .ok (.aload_n 0, 1) := by decide +kernel
theorem dRd_readUnary_114 : decode kRd_readUnary.2.1 114 = .ok (.iconst 5, 1) := by decide +kernel
theorem dRd_readUnary_115 : decode kRd_readUnary.2.1 115 = .ok (.invokevirtual 100, 3) := by decide +kernel
theorem dRd_readUnary_118 : decode kRd_readUnary.2.1 118 = .ok (.pop, 1) := by decide +kernel
theorem dRd_readUnary_119 : decode kRd_readUnary.2.1 119 = .ok (.goto 35, 3) := by decide +kernel
theorem dRd_readUnary_122 : decode kRd_readUnary.2.1 122 = .ok (.aload_n 0, 1) := by decide +kernel
theorem dRd_readUnary_123 : decode kRd_readUnary.2.1 123 = .ok (.getfield 40, 3) := by decide +kernel
theorem dRd_readUnary_126 : decode kRd_readUnary.2.1 126 = .ok (.bipush 44, 2) := by decide +kernel
theorem dRd_readUnary_128 : decode kRd_readUnary.2.1 128 = .ok (.aload_n 0, 1) := by decide +kernel
theorem dRd_readUnary_129 : decode kRd_readUnary.2.1 129 = .ok (.iconst 0, 1) := by decide +kernel
theorem dRd_readUnary_130 : decode kRd_readUnary.2.1 130 = .ok (.sipush 255, 3) := by decide +kernel
theorem dRd_readUnary_133 : decode kRd_readUnary.2.1 133 = .ok (.invokevirtual 107, 3) := by decide +kernel
theorem dRd_readUnary_136 : decode kRd_readUnary.2.1 136 = .ok (.invokevirtual 128, 3) := by decide +kernel
theorem dRd_readUnary_139 : decode kRd_readUnary.2.1 139 = .ok (.goto 15, 3) := by decide +kernel
theorem dRd_readUnary_142 : decode kRd_readUnary.2.1 142 = .ok (.aload_n 0, 1) := by decide +kernel
theorem dRd_readUnary_143 : decode kRd_readUnary.2.1 143 = .ok (.iconst 0, 1) := by decide +kernel
theorem dRd_readUnary_144 : decode kRd_readUnary.2.1 144 = .ok (.invokevirtual 196, 3) := by decide +kernel
theorem dRd_readUnary_147 : decode kRd_readUnary.2.1 147 = .ok (.goto 7, 3) := by decide +kernel
theorem dRd_readUnary_150 : decode kRd_readUnary.2.1 150 = .ok (.aload_n 0, 1) := by decide +kernel
theorem dRd_readUnary_151 : decode kRd_readUnary.2.1 151 = .ok (.invokevirtual 73, 3) := by decide +kernel
theorem dRd_readUnary_154 : decode kRd_readUnary.2.1 154 = .ok (.return_, 1) := by decide +kernel
theorem dRd_readAltered_0 : decode kRd_readAltered.2.1 0 = .ok (.aload_n 0, 1) := by decide +kernel
theorem dRd_readAltered_1 : decode kRd_readAltered.2.1 1 = .ok (.invokevirtual 174, 3) := by decide +kernel
theorem dRd_readAltered_4 : decode kRd_readAltered.2.1 4 = .ok (.aload_n 0, 1) := by decide +kernel
theorem dRd_readAltered_5 : decode kRd_readAltered.2.1 5 = .ok (.invokevirtual 139, 3) := by decide +kernel
theorem dRd_readAltered_8 : decode kRd_readAltered.2.1 8 = .ok (.aload_n 0, 1) := by decide +kernel
theorem dRd_readAltered_9 : decode kRd_readAltered.2.1 9 = .ok (.iload_n 2, 1) := by decide +kernel
theorem dRd_readAltered_10 : decode kRd_readAltered.2.1 10 = .ok (.iconst 1, 1) := by decide +kernel
theorem dRd_readAltered_11 : decode kRd_readAltered.2.1 11 = .ok (.iadd, 1) := by decide +kernel
theorem dRd_readAltered_12 : decode kRd_readAltered.2.1 12 = .ok (.invokevirtual 177, 3) := by decide +kernel
theorem dRd_readAltered_15 : decode kRd_readAltered.2.1 15 = .ok (.aload_n 0, 1) := by decide +kernel
theorem dRd_readAltered_16 : decode kRd_readAltered.2.1 16 = .ok (.getfield 40, 3) := by decide +kernel
theorem dRd_readAltered_19 : decode kRd_readAltered.2.1 19 = .ok (.iload_n 1, 1) := by decide +kernel
theorem dRd_readAltered_20 : decode kRd_readAltered.2.1 20 = .ok (.iconst 0, 1) := by decide +kernel
theorem dRd_readAltered_21 : decode kRd_readAltered.2.1 21 = .ok (.invokevirtual 128, 3) := by decide +kernel
theorem dRd_readAltered_24 : decode kRd_readAltered.2.1 24 = .ok (.return_, 1) := by decide +kernel
theorem dRd_chargeSign_0 : decode kRd_chargeSign.2.1 0 = .ok (.aload_n 0, 1) := by decide +kernel
theorem dRd_chargeSign_1 : decode kRd_chargeSign.2.1 1 = .ok (.aload_n 0, 1) := by decide +kernel
theorem dRd_chargeSign_2 : decode kRd_chargeSign.2.1 2 = .ok (.getfield 52, 3) := by decide +kernel
theorem dRd_chargeSign_5 : decode kRd_chargeSign.2.1 5 = .ok (.ifCond .lt 25, 3) := by decide +kernel
theorem dRd_chargeSign_8 : decode kRd_chargeSign.2.1 8 = .ok (.aload_n 0, 1) := by decide +kernel
theorem dRd_chargeSign_9 : decode kRd_chargeSign.2.1 9 = .ok (.getfield 52, 3) := by decide +kernel
theorem dRd_chargeSign_12 : decode kRd_chargeSign.2.1 12 = .ok (.getstatic 217, 3) := by decide +kernel
theorem dRd_chargeSign_15 : decode kRd_chargeSign.2.1 15 = .ok (.arraylength, 1) := by decide +kernel
theorem dRd_chargeSign_16 : decode kRd_chargeSign.2.1 16 = .ok (.if_icmp .ge 14, 3) := by decide +kernel
theorem dRd_chargeSign_19 : decode kRd_chargeSign.2.1 19 = .ok (.getstatic 217, 3) := by decide +kernel
theorem dRd_chargeSign_22 : decode kRd_chargeSign.2.1 22 = .ok (.aload_n 0, 1) := by decide +kernel
theorem dRd_chargeSign_23 : decode kRd_chargeSign.2.1 23 = .ok (.getfield 52, 3) := by decide +kernel
theorem dRd_chargeSign_26 : decode kRd_chargeSign.2.1 26 = .ok (.iaload, 1) := by decide +kernel
theorem dRd_chargeSign_27 : decode kRd_chargeSign.2.1 27 = .ok (.goto 4, 3) := by decide +kernel
theorem dRd_chargeSign_30 : decode kRd_chargeSign.2.1 30 = .ok (.iconst 0, 1) := by decide +kernel
theorem dRd_chargeSign_31 : decode kRd_chargeSign.2.1 31 = .ok (.invokevirtual 136, 3) := by decide +kernel
theorem dRd_chargeSign_34 : decode kRd_chargeSign.2.1 34 = .ok (.return_, 1) := by decide +kernel
theorem dRd_charge_0 : decode kRd_charge.2.1 0 = .ok (.aload_n 0, 1) := by decide +kernel
theorem dRd_charge_1 : decode kRd_charge.2.1 1 = .ok (.getfield 21, 3) := by decide +kernel
theorem dRd_charge_4 : decode kRd_charge.2.1 4 = .ok (.dup, 1) := by decide +kernel
theorem dRd_charge_5 : decode kRd_charge.2.1 5 = .ok (.getfield 220, 3) := by decide +kernel
theorem dRd_charge_8 : decode kRd_charge.2.1 8 = .ok (.iload_n 1, 1) := by decide +kernel
theorem dRd_charge_9 : decode kRd_charge.2.1 9 = .ok (.iadd, 1) := by decide +kernel
theorem dRd_charge_10 : decode kRd_charge.2.1 10 = .ok (.putfield 220, 3) := by decide +kernel
theorem dRd_charge_13 : decode kRd_charge.2.1 13 = .ok (.aload_n 0, 1) := by decide +kernel
theorem dRd_charge_14 : decode kRd_charge.2.1 14 = .ok (.getfield 21, 3) := by decide +kernel
theorem dRd_charge_17 : decode kRd_charge.2.1 17 = .ok (.getfield 220, 3) := by decide +kernel
theorem dRd_charge_20 : decode kRd_charge.2.1 20 = .ok (.sipush 3000, 3) := by decide +kernel
theorem dRd_charge_23 : decode kRd_charge.2.1 23 = .ok (.if_icmp .le 8, 3) := by decide +kernel
theorem dRd_charge_26 : decode kRd_charge.2.1 26 = .ok (.aload_n 0, 1) := by decide +kernel
theorem dRd_charge_27 : decode kRd_charge.2.1 27 = .ok (.iconst 4, 1) := by decide +kernel
theorem dRd_charge_28 : decode kRd_charge.2.1 28 = .ok (.invokevirtual 149, 3) := by decide +kernel
theorem dRd_charge_31 : decode kRd_charge.2.1 31 = .ok (.return_, 1) := by decide +kernel
theorem dRd_readKnownName_0 : decode kRd_readKnownName.2.1 0 = .ok (.aload_n 0, 1) := by decide +kernel
theorem dRd_readKnownName_1 : decode kRd_readKnownName.2.1 1 = .ok (.invokevirtual 161, 3) := by decide +kernel
theorem dRd_readKnownName_4 : decode kRd_readKnownName.2.1 4 = .ok (.istore_n 2, 1) := by decide +kernel
theorem dRd_readKnownName_5 : decode kRd_readKnownName.2.1 5 = .ok (.iload_n 2, 1) := by decide +kernel
theorem dRd_readKnownName_6 : decode kRd_readKnownName.2.1 6 = .ok (.ifCond .lt 26, 3) := by decide +kernel
theorem dRd_readKnownName_9 : decode kRd_readKnownName.2.1 9 = .ok (.aload_n 0, 1) := by decide +kernel
theorem dRd_readKnownName_10 : decode kRd_readKnownName.2.1 10 = .ok (.getfield 21, 3) := by decide +kernel
theorem dRd_readKnownName_13 : decode kRd_readKnownName.2.1 13 = .ok (.getfield 164, 3) := by decide +kernel
theorem dRd_readKnownName_16 : decode kRd_readKnownName.2.1 16 = .ok (.iload_n 2, 1) := by decide +kernel
theorem dRd_readKnownName_17 : decode kRd_readKnownName.2.1 17 = .ok (.iaload, 1) := by decide +kernel
theorem dRd_readKnownName_18 : decode kRd_readKnownName.2.1 18 = .ok (.bipush 33, 2) := by decide +kernel
theorem dRd_readKnownName_20 : decode kRd_readKnownName.2.1 20 = .ok (.if_icmp .ne 7, 3) := by decide +kernel
theorem dRd_readKnownName_23 : decode kRd_readKnownName.2.1 23 = .ok (.iconst 1, 1) := by decide +kernel
theorem dRd_readKnownName_24 : decode kRd_readKnownName.2.1 24 = .ok (.goto 4, 3) := by decide +kernel
theorem dRd_readKnownName_27 : decode kRd_readKnownName.2.1 27 = .ok (.iconst 0, 1) := by decide +kernel
theorem dRd_readKnownName_28 : decode kRd_readKnownName.2.1 28 = .ok (.iload_n 1, 1) := by decide +kernel
theorem dRd_readKnownName_29 : decode kRd_readKnownName.2.1 29 = .ok (.if_icmp .eq 9, 3) := by decide +kernel
theorem dRd_readKnownName_32 : decode kRd_readKnownName.2.1 32 = .ok (.aload_n 0, 1) := by decide +kernel
theorem dRd_readKnownName_33 : decode kRd_readKnownName.2.1 33 = .ok (.iconst 2, 1) := by decide +kernel
theorem dRd_readKnownName_34 : decode kRd_readKnownName.2.1 34 = .ok (.invokevirtual 149, 3) := by decide +kernel
theorem dRd_readKnownName_37 : decode kRd_readKnownName.2.1 37 = .ok (.return_, 1) := by decide +kernel
theorem dRd_readKnownName_38 : decode kRd_readKnownName.2.1 38 = .ok (.iload_n 1, 1) := by decide +kernel
theorem dRd_readKnownName_39 : decode kRd_readKnownName.2.1 39 = .ok (.ifCond .eq 24, 3) := by decide +kernel
theorem dRd_readKnownName_42 : decode kRd_readKnownName.2.1 42 = .ok (.aload_n 0, 1) := by decide +kernel
theorem dRd_readKnownName_43 : decode kRd_readKnownName.2.1 43 = .ok (.getfield 40, 3) := by decide +kernel
theorem dRd_readKnownName_46 : decode kRd_readKnownName.2.1 46 = .ok (.bipush 52, 2) := by decide +kernel
theorem dRd_readKnownName_48 : decode kRd_readKnownName.2.1 48 = .ok (.aload_n 0, 1) := by decide +kernel
theorem dRd_readKnownName_49 : decode kRd_readKnownName.2.1 49 = .ok (.getfield 21, 3) := by decide +kernel
theorem dRd_readKnownName_52 : decode kRd_readKnownName.2.1 52 = .ok (.getfield 200, 3) := by decide +kernel
theorem dRd_readKnownName_55 : decode kRd_readKnownName.2.1 55 = .ok (.iload_n 2, 1) := by decide +kernel
theorem dRd_readKnownName_56 : decode kRd_readKnownName.2.1 56 = .ok (.iaload, 1) := by decide +kernel
theorem dRd_readKnownName_57 : decode kRd_readKnownName.2.1 57 = .ok (.invokevirtual 128, 3) := by decide +kernel
theorem dRd_readKnownName_60 : decode kRd_readKnownName.2.1 60 = .ok (.goto 13, 3) := by decide +kernel
theorem dRd_readKnownName_63 : decode kRd_readKnownName.2.1 63 = .ok (.aload_n 0, 1) := by decide +kernel
theorem dRd_readKnownName_64 : decode kRd_readKnownName.2.1 64 = .ok (.getfield 40, 3) := by decide +kernel
theorem dRd_readKnownName_67 : decode kRd_readKnownName.2.1 67 = .ok (.bipush 43, 2) := by decide +kernel
theorem dRd_readKnownName_69 : decode kRd_readKnownName.2.1 69 = .ok (.iload_n 2, 1) := by decide +kernel
theorem dRd_readKnownName_70 : decode kRd_readKnownName.2.1 70 = .ok (.invokevirtual 128, 3) := by decide +kernel
theorem dRd_readKnownName_73 : decode kRd_readKnownName.2.1 73 = .ok (.aload_n 0, 1) := by decide +kernel
theorem dRd_readKnownName_74 : decode kRd_readKnownName.2.1 74 = .ok (.invokevirtual 139, 3) := by decide +kernel
theorem dRd_readKnownName_77 : decode kRd_readKnownName.2.1 77 = .ok (.return_, 1) := by decide +kernel
theorem dRd_tightness_0 : decode kRd_tightness.2.1 0 = .ok (.iload_n 0, 1) := by decide +kernel
theorem dRd_tightness_1 : decode kRd_tightness.2.1 1 = .ok (.ifCond .lt 19, 3) := by decide +kernel
theorem dRd_tightness_4 : decode kRd_tightness.2.1 4 = .ok (.iload_n 0, 1) := by decide +kernel
theorem dRd_tightness_5 : decode kRd_tightness.2.1 5 = .ok (.getstatic 190, 3) := by decide +kernel
theorem dRd_tightness_8 : decode kRd_tightness.2.1 8 = .ok (.arraylength, 1) := by decide +kernel
theorem dRd_tightness_9 : decode kRd_tightness.2.1 9 = .ok (.if_icmp .ge 11, 3) := by decide +kernel
theorem dRd_tightness_12 : decode kRd_tightness.2.1 12 = .ok (.getstatic 190, 3) := by decide +kernel
theorem dRd_tightness_15 : decode kRd_tightness.2.1 15 = .ok (.iload_n 0, 1) := by decide +kernel
theorem dRd_tightness_16 : decode kRd_tightness.2.1 16 = .ok (.iaload, 1) := by decide +kernel
theorem dRd_tightness_17 : decode kRd_tightness.2.1 17 = .ok (.goto 4, 3) := by decide +kernel
theorem dRd_tightness_20 : decode kRd_tightness.2.1 20 = .ok (.iconst 0, 1) := by decide +kernel
theorem dRd_tightness_21 : decode kRd_tightness.2.1 21 = .ok (.ireturn, 1) := by decide +kernel
theorem dRd_settle_0 : decode kRd_settle.2.1 0 = .ok (.aload_n 0, 1) := by decide +kernel
theorem dRd_settle_1 : decode kRd_settle.2.1 1 = .ok (.getfield 85, 3) := by decide +kernel
theorem dRd_settle_4 : decode kRd_settle.2.1 4 = .ok (.iload_n 1, 1) := by decide +kernel
theorem dRd_settle_5 : decode kRd_settle.2.1 5 = .ok (.if_icmp .le 51, 3) := by decide +kernel
theorem dRd_settle_8 : decode kRd_settle.2.1 8 = .ok (.aload_n 0, 1) := by decide +kernel
theorem dRd_settle_9 : decode kRd_settle.2.1 9 = .ok (.getfield 18, 3) := by decide +kernel
theorem dRd_settle_12 : decode kRd_settle.2.1 12 = .ok (.aload_n 0, 1) := by decide +kernel
theorem dRd_settle_13 : decode kRd_settle.2.1 13 = .ok (.getfield 85, 3) := by decide +kernel
theorem dRd_settle_16 : decode kRd_settle.2.1 16 = .ok (.iconst 1, 1) := by decide +kernel
theorem dRd_settle_17 : decode kRd_settle.2.1 17 = .ok (.isub, 1) := by decide +kernel
theorem dRd_settle_18 : decode kRd_settle.2.1 18 = .ok (.iaload, 1) := by decide +kernel
theorem dRd_settle_19 : decode kRd_settle.2.1 19 = .ok (.invokestatic 180, 3) := by decide +kernel
theorem dRd_settle_22 : decode kRd_settle.2.1 22 = .ok (.iload_n 2, 1) := by decide +kernel
theorem dRd_settle_23 : decode kRd_settle.2.1 23 = .ok (.if_icmp .lt 33, 3) := by decide +kernel
theorem dRd_settle_26 : decode kRd_settle.2.1 26 = .ok (.aload_n 0, 1) := by decide +kernel
theorem dRd_settle_27 : decode kRd_settle.2.1 27 = .ok (.dup, 1) := by decide +kernel
theorem dRd_settle_28 : decode kRd_settle.2.1 28 = .ok (.getfield 85, 3) := by decide +kernel
theorem dRd_settle_31 : decode kRd_settle.2.1 31 = .ok (.iconst 1, 1) := by decide +kernel
theorem dRd_settle_32 : decode kRd_settle.2.1 32 = .ok (.isub, 1) := by decide +kernel
theorem dRd_settle_33 : decode kRd_settle.2.1 33 = .ok (.putfield 85, 3) := by decide +kernel
theorem dRd_settle_36 : decode kRd_settle.2.1 36 = .ok (.aload_n 0, 1) := by decide +kernel
theorem dRd_settle_37 : decode kRd_settle.2.1 37 = .ok (.getfield 40, 3) := by decide +kernel
theorem dRd_settle_40 : decode kRd_settle.2.1 40 = .ok (.aload_n 0, 1) := by decide +kernel
theorem dRd_settle_41 : decode kRd_settle.2.1 41 = .ok (.getfield 18, 3) := by decide +kernel
theorem dRd_settle_44 : decode kRd_settle.2.1 44 = .ok (.aload_n 0, 1) := by decide +kernel
theorem dRd_settle_45 : decode kRd_settle.2.1 45 = .ok (.getfield 85, 3) := by decide +kernel
theorem dRd_settle_48 : decode kRd_settle.2.1 48 = .ok (.iaload, 1) := by decide +kernel
theorem dRd_settle_49 : decode kRd_settle.2.1 49 = .ok (.iconst 0, 1) := by decide +kernel
theorem dRd_settle_50 : decode kRd_settle.2.1 50 = .ok (.invokevirtual 128, 3) := by decide +kernel
theorem dRd_settle_53 : decode kRd_settle.2.1 53 = .ok (.goto (-53), 3) := by decide +kernel
theorem dRd_settle_56 : decode kRd_settle.2.1 56 = .ok (.return_, 1) := by decide +kernel
theorem dRd_await_0 : decode kRd_await.2.1 0 = .ok (.aload_n 0, 1) := by decide +kernel
theorem dRd_await_1 : decode kRd_await.2.1 1 = .ok (.getfield 85, 3) := by decide +kernel
theorem dRd_await_4 : decode kRd_await.2.1 4 = .ok (.aload_n 0, 1) := by decide +kernel
theorem dRd_await_5 : decode kRd_await.2.1 5 = .ok (.getfield 18, 3) := by decide +kernel
theorem dRd_await_8 : decode kRd_await.2.1 8 = .ok (.arraylength, 1) := by decide +kernel
theorem dRd_await_9 : decode kRd_await.2.1 9 = .ok (.if_icmp .ge 23, 3) := by decide +kernel
theorem dRd_await_12 : decode kRd_await.2.1 12 = .ok (.aload_n 0, 1) := by decide +kernel
theorem dRd_await_13 : decode kRd_await.2.1 13 = .ok (.getfield 18, 3) := by decide +kernel
theorem dRd_await_16 : decode kRd_await.2.1 16 = .ok (.aload_n 0, 1) := by decide +kernel
theorem dRd_await_17 : decode kRd_await.2.1 17 = .ok (.getfield 85, 3) := by decide +kernel
theorem dRd_await_20 : decode kRd_await.2.1 20 = .ok (.iload_n 1, 1) := by decide +kernel
theorem dRd_await_21 : decode kRd_await.2.1 21 = .ok (.iastore, 1) := by decide +kernel
theorem dRd_await_22 : decode kRd_await.2.1 22 = .ok (.aload_n 0, 1) := by decide +kernel
theorem dRd_await_23 : decode kRd_await.2.1 23 = .ok (.dup, 1) := by decide +kernel
theorem dRd_await_24 : decode kRd_await.2.1 24 = .ok (.getfield 85, 3) := by decide +kernel
theorem dRd_await_27 : decode kRd_await.2.1 27 = .ok (.iconst 1, 1) := by decide +kernel
theorem dRd_await_28 : decode kRd_await.2.1 28 = .ok (.iadd, 1) := by decide +kernel
theorem dRd_await_29 : decode kRd_await.2.1 29 = .ok (.putfield 85, 3) := by decide +kernel
theorem dRd_await_32 : decode kRd_await.2.1 32 = .ok (.return_, 1) := by decide +kernel
theorem dRd_readNext_0 : decode kRd_readNext.2.1 0 = .ok (.aload_n 0, 1) := by decide +kernel
theorem dRd_readNext_1 : decode kRd_readNext.2.1 1 = .ok (.bipush 8, 2) := by decide +kernel
theorem dRd_readNext_3 : decode kRd_readNext.2.1 3 = .ok (.invokevirtual 136, 3) := by decide +kernel
theorem dRd_readNext_6 : decode kRd_readNext.2.1 6 = .ok (.aload_n 0, 1) := by decide +kernel
theorem dRd_readNext_7 : decode kRd_readNext.2.1 7 = .ok (.invokevirtual 139, 3) := by decide +kernel
theorem dRd_readNext_10 : decode kRd_readNext.2.1 10 = .ok (.aload_n 0, 1) := by decide +kernel
theorem dRd_readNext_11 : decode kRd_readNext.2.1 11 = .ok (.invokevirtual 142, 3) := by decide +kernel
theorem dRd_readNext_14 : decode kRd_readNext.2.1 14 = .ok (.istore_n 1, 1) := by decide +kernel
theorem dRd_readNext_15 : decode kRd_readNext.2.1 15 = .ok (.aload_n 0, 1) := by decide +kernel
theorem dRd_readNext_16 : decode kRd_readNext.2.1 16 = .ok (.iconst 2, 1) := by decide +kernel
theorem dRd_readNext_17 : decode kRd_readNext.2.1 17 = .ok (.invokevirtual 100, 3) := by decide +kernel
theorem dRd_readNext_20 : decode kRd_readNext.2.1 20 = .ok (.pop, 1) := by decide +kernel
theorem dRd_readNext_21 : decode kRd_readNext.2.1 21 = .ok (.aload_n 0, 1) := by decide +kernel
theorem dRd_readNext_22 : decode kRd_readNext.2.1 22 = .ok (.aload_n 0, 1) := by decide +kernel
theorem dRd_readNext_23 : decode kRd_readNext.2.1 23 = .ok (.getfield 21, 3) := by decide +kernel
theorem dRd_readNext_26 : decode kRd_readNext.2.1 26 = .ok (.getfield 34, 3) := by decide +kernel
theorem dRd_readNext_29 : decode kRd_readNext.2.1 29 = .ok (.putfield 40, 3) := by decide +kernel
theorem dRd_readNext_32 : decode kRd_readNext.2.1 32 = .ok (.aload_n 0, 1) := by decide +kernel
theorem dRd_readNext_33 : decode kRd_readNext.2.1 33 = .ok (.iconst 0, 1) := by decide +kernel
theorem dRd_readNext_34 : decode kRd_readNext.2.1 34 = .ok (.invokevirtual 122, 3) := by decide +kernel
theorem dRd_readNext_37 : decode kRd_readNext.2.1 37 = .ok (.aload_n 0, 1) := by decide +kernel
theorem dRd_readNext_38 : decode kRd_readNext.2.1 38 = .ok (.iconst 0, 1) := by decide +kernel
theorem dRd_readNext_39 : decode kRd_readNext.2.1 39 = .ok (.invokevirtual 100, 3) := by decide +kernel
theorem dRd_readNext_42 : decode kRd_readNext.2.1 42 = .ok (.ifCond .eq 13, 3) := by decide +kernel
theorem dRd_readNext_45 : decode kRd_readNext.2.1 45 = .ok (.aload_n 0, 1) := by decide +kernel
theorem dRd_readNext_46 : decode kRd_readNext.2.1 46 = .ok (.getfield 40, 3) := by decide +kernel
theorem dRd_readNext_49 : decode kRd_readNext.2.1 49 = .ok (.bipush 32, 2) := by decide +kernel
theorem dRd_readNext_51 : decode kRd_readNext.2.1 51 = .ok (.iload_n 1, 1) := by decide +kernel
theorem dRd_readNext_52 : decode kRd_readNext.2.1 52 = .ok (.invokevirtual 128, 3) := by decide +kernel
theorem dRd_readNext_55 : decode kRd_readNext.2.1 55 = .ok (.return_, 1) := by decide +kernel
theorem dRd_readRegWithoutNext_0 : decode kRd_readRegWithoutNext.2.1 0 = .ok (.aload_n 0, 1) := by decide +kernel
theorem dRd_readRegWithoutNext_1 : decode kRd_readRegWithoutNext.2.1 1 = .ok (.getfield 52, 3) := by decide +kernel
theorem dRd_readRegWithoutNext_4 : decode kRd_readRegWithoutNext.2.1 4 = .ok (.bipush 43, 2) := by decide +kernel
theorem dRd_readRegWithoutNext_6 : decode kRd_readRegWithoutNext.2.1 6 = .ok (.if_icmp .eq 9, 3) := by decide +kernel
theorem dRd_readRegWithoutNext_9 : decode kRd_readRegWithoutNext.2.1 9 = .ok (.aload_n 0, 1) := by decide +kernel
theorem dRd_readRegWithoutNext_10 : decode kRd_readRegWithoutNext.2.1 10 = .ok (.invokevirtual 73, 3) := by decide +kernel
theorem dRd_readRegWithoutNext_13 : decode kRd_readRegWithoutNext.2.1 13 = .ok (.iconst 0, 1) := by decide +kernel
theorem dRd_readRegWithoutNext_14 : decode kRd_readRegWithoutNext.2.1 14 = .ok (.ireturn, 1) := by decide +kernel
theorem dRd_readRegWithoutNext_15 : decode kRd_readRegWithoutNext.2.1 15 = .ok (.aload_n 0, 1) := by decide +kernel
theorem dRd_readRegWithoutNext_16 : decode kRd_readRegWithoutNext.2.1 16 = .ok (.invokevirtual 161, 3) := by decide +kernel
theorem dRd_readRegWithoutNext_19 : decode kRd_readRegWithoutNext.2.1 19 = .ok (.istore_n 1, 1) := by decide +kernel
theorem dRd_readRegWithoutNext_20 : decode kRd_readRegWithoutNext.2.1 20 = .ok (.iload_n 1, 1) := by decide +kernel
theorem dRd_readRegWithoutNext_21 : decode kRd_readRegWithoutNext.2.1 21 = .ok (.ifCond .lt 26, 3) := by decide +kernel
theorem dRd_readRegWithoutNext_24 : decode kRd_readRegWithoutNext.2.1 24 = .ok (.aload_n 0, 1) := by decide +kernel
theorem dRd_readRegWithoutNext_25 : decode kRd_readRegWithoutNext.2.1 25 = .ok (.getfield 21, 3) := by decide +kernel
theorem dRd_readRegWithoutNext_28 : decode kRd_readRegWithoutNext.2.1 28 = .ok (.getfield 164, 3) := by decide +kernel
theorem dRd_readRegWithoutNext_31 : decode kRd_readRegWithoutNext.2.1 31 = .ok (.iload_n 1, 1) := by decide +kernel
theorem dRd_readRegWithoutNext_32 : decode kRd_readRegWithoutNext.2.1 32 = .ok (.iaload, 1) := by decide +kernel
theorem dRd_readRegWithoutNext_33 : decode kRd_readRegWithoutNext.2.1 33 = .ok (.bipush 29, 2) := by decide +kernel
theorem dRd_readRegWithoutNext_35 : decode kRd_readRegWithoutNext.2.1 35 = .ok (.if_icmp .ne 12, 3) := by decide +kernel
theorem dRd_readRegWithoutNext_38 : decode kRd_readRegWithoutNext.2.1 38 = .ok (.aload_n 0, 1) := by decide +kernel
theorem dRd_readRegWithoutNext_39 : decode kRd_readRegWithoutNext.2.1 39 = .ok (.getfield 15, 3) := by decide +kernel
theorem dRd_readRegWithoutNext_42 : decode kRd_readRegWithoutNext.2.1 42 = .ok (.iload_n 1, 1) := by decide +kernel
theorem dRd_readRegWithoutNext_43 : decode kRd_readRegWithoutNext.2.1 43 = .ok (.iaload, 1) := by decide +kernel
theorem dRd_readRegWithoutNext_44 : decode kRd_readRegWithoutNext.2.1 44 = .ok (.ifCond .eq 10, 3) := by decide +kernel
theorem dRd_readRegWithoutNext_47 : decode kRd_readRegWithoutNext.2.1 47 = .ok (.aload_n 0, 1) := by decide +kernel
theorem dRd_readRegWithoutNext_48 : decode kRd_readRegWithoutNext.2.1 48 = .ok (.iconst 2, 1) := by decide +kernel
theorem dRd_readRegWithoutNext_49 : decode kRd_readRegWithoutNext.2.1 49 = .ok (.invokevirtual 149, 3) := by decide +kernel
theorem dRd_readRegWithoutNext_52 : decode kRd_readRegWithoutNext.2.1 52 = .ok (.iconst 0, 1) := by decide +kernel
theorem dRd_readRegWithoutNext_53 : decode kRd_readRegWithoutNext.2.1 53 = .ok (.ireturn, 1) := by decide +kernel
theorem dRd_readRegWithoutNext_54 : decode kRd_readRegWithoutNext.2.1 54 = .ok (.aload_n 0, 1) := by decide +kernel
theorem dRd_readRegWithoutNext_55 : decode kRd_readRegWithoutNext.2.1 55 = .ok (.getfield 15, 3) := by decide +kernel
theorem dRd_readRegWithoutNext_58 : decode kRd_readRegWithoutNext.2.1 58 = .ok (.iload_n 1, 1) := by decide +kernel
theorem dRd_readRegWithoutNext_59 : decode kRd_readRegWithoutNext.2.1 59 = .ok (.iconst 1, 1) := by decide +kernel
theorem dRd_readRegWithoutNext_60 : decode kRd_readRegWithoutNext.2.1 60 = .ok (.iastore, 1) := by decide +kernel
theorem dRd_readRegWithoutNext_61 : decode kRd_readRegWithoutNext.2.1 61 = .ok (.aload_n 0, 1) := by decide +kernel
theorem dRd_readRegWithoutNext_62 : decode kRd_readRegWithoutNext.2.1 62 = .ok (.invokevirtual 139, 3) := by decide +kernel
theorem dRd_readRegWithoutNext_65 : decode kRd_readRegWithoutNext.2.1 65 = .ok (.iload_n 1, 1) := by decide +kernel
theorem dRd_readRegWithoutNext_66 : decode kRd_readRegWithoutNext.2.1 66 = .ok (.ireturn, 1) := by decide +kernel
theorem dRd_readSpec_0 : decode kRd_readSpec.2.1 0 = .ok (.aload_n 0, 1) := by decide +kernel
theorem dRd_readSpec_1 : decode kRd_readSpec.2.1 1 = .ok (.getfield 21, 3) := by decide +kernel
theorem dRd_readSpec_4 : decode kRd_readSpec.2.1 4 = .ok (.getfield 146, 3) := by decide +kernel
theorem dRd_readSpec_7 : decode kRd_readSpec.2.1 7 = .ok (.bipush 30, 2) := by decide +kernel
theorem dRd_readSpec_9 : decode kRd_readSpec.2.1 9 = .ok (.if_icmp .lt 8, 3) := by decide +kernel
theorem dRd_readSpec_12 : decode kRd_readSpec.2.1 12 = .ok (.aload_n 0, 1) := by decide +kernel
theorem dRd_readSpec_13 : decode kRd_readSpec.2.1 13 = .ok (.iconst 4, 1) := by decide +kernel
theorem dRd_readSpec_14 : decode kRd_readSpec.2.1 14 = .ok (.invokevirtual 149, 3) := by decide +kernel
theorem dRd_readSpec_17 : decode kRd_readSpec.2.1 17 = .ok (.aload_n 0, 1) := by decide +kernel
theorem dRd_readSpec_18 : decode kRd_readSpec.2.1 18 = .ok (.invokevirtual 97, 3) := by decide +kernel
theorem dRd_readSpec_21 : decode kRd_readSpec.2.1 21 = .ok (.aload_n 0, 1) := by decide +kernel
theorem dRd_readSpec_22 : decode kRd_readSpec.2.1 22 = .ok (.iconst 2, 1) := by decide +kernel
theorem dRd_readSpec_23 : decode kRd_readSpec.2.1 23 = .ok (.invokevirtual 100, 3) := by decide +kernel
theorem dRd_readSpec_26 : decode kRd_readSpec.2.1 26 = .ok (.pop, 1) := by decide +kernel
theorem dRd_readSpec_27 : decode kRd_readSpec.2.1 27 = .ok (.aload_n 0, 1) := by decide +kernel
theorem dRd_readSpec_28 : decode kRd_readSpec.2.1 28 = .ok (.aload_n 0, 1) := by decide +kernel
theorem dRd_readSpec_29 : decode kRd_readSpec.2.1 29 = .ok (.getfield 21, 3) := by decide +kernel
theorem dRd_readSpec_32 : decode kRd_readSpec.2.1 32 = .ok (.getfield 152, 3) := by decide +kernel
theorem dRd_readSpec_35 : decode kRd_readSpec.2.1 35 = .ok (.putfield 40, 3) := by decide +kernel
theorem dRd_readSpec_38 : decode kRd_readSpec.2.1 38 = .ok (.aload_n 0, 1) := by decide +kernel
theorem dRd_readSpec_39 : decode kRd_readSpec.2.1 39 = .ok (.iconst 0, 1) := by decide +kernel
theorem dRd_readSpec_40 : decode kRd_readSpec.2.1 40 = .ok (.invokevirtual 155, 3) := by decide +kernel
theorem dRd_readSpec_43 : decode kRd_readSpec.2.1 43 = .ok (.aload_n 0, 1) := by decide +kernel
theorem dRd_readSpec_44 : decode kRd_readSpec.2.1 44 = .ok (.iconst 0, 1) := by decide +kernel
theorem dRd_readSpec_45 : decode kRd_readSpec.2.1 45 = .ok (.invokevirtual 100, 3) := by decide +kernel
theorem dRd_readSpec_48 : decode kRd_readSpec.2.1 48 = .ok (.ifCond .eq 26, 3) := by decide +kernel
theorem dRd_readSpec_51 : decode kRd_readSpec.2.1 51 = .ok (.aload_n 0, 1) := by decide +kernel
theorem dRd_readSpec_52 : decode kRd_readSpec.2.1 52 = .ok (.getfield 40, 3) := by decide +kernel
theorem dRd_readSpec_55 : decode kRd_readSpec.2.1 55 = .ok (.bipush 33, 2) := by decide +kernel
theorem dRd_readSpec_57 : decode kRd_readSpec.2.1 57 = .ok (.aload_n 0, 1) := by decide +kernel
theorem dRd_readSpec_58 : decode kRd_readSpec.2.1 58 = .ok (.getfield 21, 3) := by decide +kernel
theorem dRd_readSpec_61 : decode kRd_readSpec.2.1 61 = .ok (.getfield 146, 3) := by decide +kernel
theorem dRd_readSpec_64 : decode kRd_readSpec.2.1 64 = .ok (.invokevirtual 128, 3) := by decide +kernel
theorem dRd_readSpec_67 : decode kRd_readSpec.2.1 67 = .ok (.aload_n 0, 1) := by decide +kernel
theorem dRd_readSpec_68 : decode kRd_readSpec.2.1 68 = .ok (.getfield 21, 3) := by decide +kernel
theorem dRd_readSpec_71 : decode kRd_readSpec.2.1 71 = .ok (.invokevirtual 158, 3) := by decide +kernel
theorem dRd_readSpec_74 : decode kRd_readSpec.2.1 74 = .ok (.return_, 1) := by decide +kernel
theorem dRd_readFormula_0 : decode kRd_readFormula.2.1 0 = .ok (.aload_n 0, 1) := by decide +kernel
theorem dRd_readFormula_1 : decode kRd_readFormula.2.1 1 = .ok (.iload_n 1, 1) := by decide +kernel
theorem dRd_readFormula_2 : decode kRd_readFormula.2.1 2 = .ok (.invokevirtual 168, 3) := by decide +kernel
theorem dRd_readFormula_5 : decode kRd_readFormula.2.1 5 = .ok (.ifCond .eq 4, 3) := by decide +kernel
theorem dRd_readFormula_8 : decode kRd_readFormula.2.1 8 = .ok (.return_, 1) := by decide +kernel
theorem dRd_readFormula_9 : decode kRd_readFormula.2.1 9 = .ok (.aload_n 0, 1) := by decide +kernel
theorem dRd_readFormula_10 : decode kRd_readFormula.2.1 10 = .ok (.iload_n 1, 1) := by decide +kernel
theorem dRd_readFormula_11 : decode kRd_readFormula.2.1 11 = .ok (.invokevirtual 202, 3) := by decide +kernel
theorem dRd_readFormula_14 : decode kRd_readFormula.2.1 14 = .ok (.aload_n 0, 1) := by decide +kernel
theorem dRd_readFormula_15 : decode kRd_readFormula.2.1 15 = .ok (.getfield 52, 3) := by decide +kernel
theorem dRd_readFormula_18 : decode kRd_readFormula.2.1 18 = .ok (.bipush 28, 2) := by decide +kernel
theorem dRd_readFormula_20 : decode kRd_readFormula.2.1 20 = .ok (.if_icmp .ne 24, 3) := by decide +kernel
theorem dRd_readFormula_23 : decode kRd_readFormula.2.1 23 = .ok (.aload_n 0, 1) := by decide +kernel
theorem dRd_readFormula_24 : decode kRd_readFormula.2.1 24 = .ok (.invokevirtual 139, 3) := by decide +kernel
theorem dRd_readFormula_27 : decode kRd_readFormula.2.1 27 = .ok (.aload_n 0, 1) := by decide +kernel
theorem dRd_readFormula_28 : decode kRd_readFormula.2.1 28 = .ok (.iload_n 1, 1) := by decide +kernel
theorem dRd_readFormula_29 : decode kRd_readFormula.2.1 29 = .ok (.iconst 1, 1) := by decide +kernel
theorem dRd_readFormula_30 : decode kRd_readFormula.2.1 30 = .ok (.iadd, 1) := by decide +kernel
theorem dRd_readFormula_31 : decode kRd_readFormula.2.1 31 = .ok (.invokevirtual 155, 3) := by decide +kernel
theorem dRd_readFormula_34 : decode kRd_readFormula.2.1 34 = .ok (.aload_n 0, 1) := by decide +kernel
theorem dRd_readFormula_35 : decode kRd_readFormula.2.1 35 = .ok (.getfield 40, 3) := by decide +kernel
theorem dRd_readFormula_38 : decode kRd_readFormula.2.1 38 = .ok (.bipush 56, 2) := by decide +kernel
theorem dRd_readFormula_40 : decode kRd_readFormula.2.1 40 = .ok (.iconst 0, 1) := by decide +kernel
theorem dRd_readFormula_41 : decode kRd_readFormula.2.1 41 = .ok (.invokevirtual 128, 3) := by decide +kernel
theorem dRd_readFormula_44 : decode kRd_readFormula.2.1 44 = .ok (.return_, 1) := by decide +kernel
theorem dRd_readEither_0 : decode kRd_readEither.2.1 0 = .ok (.aload_n 0, 1) := by decide +kernel
theorem dRd_readEither_1 : decode kRd_readEither.2.1 1 = .ok (.iload_n 1, 1) := by decide +kernel
theorem dRd_readEither_2 : decode kRd_readEither.2.1 2 = .ok (.invokevirtual 205, 3) := by decide +kernel
theorem dRd_readEither_5 : decode kRd_readEither.2.1 5 = .ok (.iconst 0, 1) := by decide +kernel
theorem dRd_readEither_6 : decode kRd_readEither.2.1 6 = .ok (.istore_n 2, 1) := by decide +kernel
theorem dRd_readEither_7 : decode kRd_readEither.2.1 7 = .ok (.iload_n 2, 1) := by decide +kernel
theorem dRd_readEither_8 : decode kRd_readEither.2.1 8 = .ok (.sipush 4000, 3) := by decide +kernel
theorem dRd_readEither_11 : decode kRd_readEither.2.1 11 = .ok (.if_icmp .gt 37, 3) := by decide +kernel
theorem dRd_readEither_14 : decode kRd_readEither.2.1 14 = .ok (.aload_n 0, 1) := by decide +kernel
theorem dRd_readEither_15 : decode kRd_readEither.2.1 15 = .ok (.getfield 52, 3) := by decide +kernel
theorem dRd_readEither_18 : decode kRd_readEither.2.1 18 = .ok (.bipush 27, 2) := by decide +kernel
theorem dRd_readEither_20 : decode kRd_readEither.2.1 20 = .ok (.if_icmp .ne 28, 3) := by decide +kernel
theorem dRd_readEither_23 : decode kRd_readEither.2.1 23 = .ok (.aload_n 0, 1) := by decide +kernel
theorem dRd_readEither_24 : decode kRd_readEither.2.1 24 = .ok (.invokevirtual 139, 3) := by decide +kernel
theorem dRd_readEither_27 : decode kRd_readEither.2.1 27 = .ok (.aload_n 0, 1) := by decide +kernel
theorem dRd_readEither_28 : decode kRd_readEither.2.1 28 = .ok (.iload_n 1, 1) := by decide +kernel
theorem dRd_readEither_29 : decode kRd_readEither.2.1 29 = .ok (.invokevirtual 205, 3) := by decide +kernel
theorem dRd_readEither_32 : decode kRd_readEither.2.1 32 = .ok (.aload_n 0, 1) := by decide +kernel
theorem dRd_readEither_33 : decode kRd_readEither.2.1 33 = .ok (.getfield 40, 3) := by decide +kernel
theorem dRd_readEither_36 : decode kRd_readEither.2.1 36 = .ok (.bipush 55, 2) := by decide +kernel
theorem dRd_readEither_38 : decode kRd_readEither.2.1 38 = .ok (.iconst 0, 1) := by decide +kernel
theorem dRd_readEither_39 : decode kRd_readEither.2.1 39 = .ok (.invokevirtual 128, 3) := by decide +kernel
theorem dRd_readEither_42 : decode kRd_readEither.2.1 42 = .ok (.iinc 2 1, 3) := by decide +kernel
theorem dRd_readEither_45 : decode kRd_readEither.2.1 45 = .ok (.goto (-38), 3) := by decide +kernel
theorem dRd_readEither_48 : decode kRd_readEither.2.1 48 = .ok (.return_, 1) := by decide +kernel
theorem dRd_readBoth_0 : decode kRd_readBoth.2.1 0 = .ok (.aload_n 0, 1) := by decide +kernel
theorem dRd_readBoth_1 : decode kRd_readBoth.2.1 1 = .ok (.iload_n 1, 1) := by decide +kernel
theorem dRd_readBoth_2 : decode kRd_readBoth.2.1 2 = .ok (.invokevirtual 208, 3) := by decide +kernel
theorem dRd_readBoth_5 : decode kRd_readBoth.2.1 5 = .ok (.iconst 0, 1) := by decide +kernel
theorem dRd_readBoth_6 : decode kRd_readBoth.2.1 6 = .ok (.istore_n 2, 1) := by decide +kernel
theorem dRd_readBoth_7 : decode kRd_readBoth.2.1 7 = .ok (.iload_n 2, 1) := by decide +kernel
theorem dRd_readBoth_8 : decode kRd_readBoth.2.1 8 = .ok (.sipush 4000, 3) := by decide +kernel
theorem dRd_readBoth_11 : decode kRd_readBoth.2.1 11 = .ok (.if_icmp .gt 37, 3) := by decide +kernel
theorem dRd_readBoth_14 : decode kRd_readBoth.2.1 14 = .ok (.aload_n 0, 1) := by decide +kernel
theorem dRd_readBoth_15 : decode kRd_readBoth.2.1 15 = .ok (.getfield 52, 3) := by decide +kernel
theorem dRd_readBoth_18 : decode kRd_readBoth.2.1 18 = .ok (.bipush 26, 2) := by decide +kernel
theorem dRd_readBoth_20 : decode kRd_readBoth.2.1 20 = .ok (.if_icmp .ne 28, 3) := by decide +kernel
theorem dRd_readBoth_23 : decode kRd_readBoth.2.1 23 = .ok (.aload_n 0, 1) := by decide +kernel
theorem dRd_readBoth_24 : decode kRd_readBoth.2.1 24 = .ok (.invokevirtual 139, 3) := by decide +kernel
theorem dRd_readBoth_27 : decode kRd_readBoth.2.1 27 = .ok (.aload_n 0, 1) := by decide +kernel
theorem dRd_readBoth_28 : decode kRd_readBoth.2.1 28 = .ok (.iload_n 1, 1) := by decide +kernel
theorem dRd_readBoth_29 : decode kRd_readBoth.2.1 29 = .ok (.invokevirtual 208, 3) := by decide +kernel
theorem dRd_readBoth_32 : decode kRd_readBoth.2.1 32 = .ok (.aload_n 0, 1) := by decide +kernel
theorem dRd_readBoth_33 : decode kRd_readBoth.2.1 33 = .ok (.getfield 40, 3) := by decide +kernel
theorem dRd_readBoth_36 : decode kRd_readBoth.2.1 36 = .ok (.bipush 54, 2) := by decide +kernel
theorem dRd_readBoth_38 : decode kRd_readBoth.2.1 38 = .ok (.iconst 0, 1) := by decide +kernel
theorem dRd_readBoth_39 : decode kRd_readBoth.2.1 39 = .ok (.invokevirtual 128, 3) := by decide +kernel
theorem dRd_readBoth_42 : decode kRd_readBoth.2.1 42 = .ok (.iinc 2 1, 3) := by decide +kernel
theorem dRd_readBoth_45 : decode kRd_readBoth.2.1 45 = .ok (.goto (-38), 3) := by decide +kernel
theorem dRd_readBoth_48 : decode kRd_readBoth.2.1 48 = .ok (.return_, 1) := by decide +kernel
theorem dRd_readSingle_0 : decode kRd_readSingle.2.1 0 = .ok (.aload_n 0, 1) := by decide +kernel
theorem dRd_readSingle_1 : decode kRd_readSingle.2.1 1 = .ok (.iload_n 1, 1) := by decide +kernel
theorem dRd_readSingle_2 : decode kRd_readSingle.2.1 2 = .ok (.invokevirtual 168, 3) := by decide +kernel
theorem dRd_readSingle_5 : decode kRd_readSingle.2.1 5 = .ok (.ifCond .eq 4, 3) := by decide +kernel
theorem dRd_readSingle_8 : decode kRd_readSingle.2.1 8 = .ok (.return_, 1) := by decide +kernel
theorem dRd_readSingle_9 : decode kRd_readSingle.2.1 9 = .ok (.aload_n 0, 1) := by decide +kernel
theorem dRd_readSingle_10 : decode kRd_readSingle.2.1 10 = .ok (.getfield 52, 3) := by decide +kernel
theorem dRd_readSingle_13 : decode kRd_readSingle.2.1 13 = .ok (.bipush 19, 2) := by decide +kernel
theorem dRd_readSingle_15 : decode kRd_readSingle.2.1 15 = .ok (.if_icmp .ne 13, 3) := by decide +kernel
theorem dRd_readSingle_18 : decode kRd_readSingle.2.1 18 = .ok (.aload_n 0, 1) := by decide +kernel
theorem dRd_readSingle_19 : decode kRd_readSingle.2.1 19 = .ok (.bipush 53, 2) := by decide +kernel
theorem dRd_readSingle_21 : decode kRd_readSingle.2.1 21 = .ok (.iload_n 1, 1) := by decide +kernel
theorem dRd_readSingle_22 : decode kRd_readSingle.2.1 22 = .ok (.invokevirtual 211, 3) := by decide +kernel
theorem dRd_readSingle_25 : decode kRd_readSingle.2.1 25 = .ok (.goto 156, 3) := by decide +kernel
theorem dRd_readSingle_28 : decode kRd_readSingle.2.1 28 = .ok (.aload_n 0, 1) := by decide +kernel
theorem dRd_readSingle_29 : decode kRd_readSingle.2.1 29 = .ok (.getfield 52, 3) := by decide +kernel
theorem dRd_readSingle_32 : decode kRd_readSingle.2.1 32 = .ok (.bipush 37, 2) := by decide +kernel
theorem dRd_readSingle_34 : decode kRd_readSingle.2.1 34 = .ok (.if_icmp .lt 24, 3) := by decide +kernel
theorem dRd_readSingle_37 : decode kRd_readSingle.2.1 37 = .ok (.aload_n 0, 1) := by decide +kernel
theorem dRd_readSingle_38 : decode kRd_readSingle.2.1 38 = .ok (.getfield 52, 3) := by decide +kernel
theorem dRd_readSingle_41 : decode kRd_readSingle.2.1 41 = .ok (.bipush 42, 2) := by decide +kernel
theorem dRd_readSingle_43 : decode kRd_readSingle.2.1 43 = .ok (.if_icmp .gt 15, 3) := by decide +kernel
theorem dRd_readSingle_46 : decode kRd_readSingle.2.1 46 = .ok (.aload_n 0, 1) := by decide +kernel
theorem dRd_readSingle_47 : decode kRd_readSingle.2.1 47 = .ok (.aload_n 0, 1) := by decide +kernel
theorem dRd_readSingle_48 : decode kRd_readSingle.2.1 48 = .ok (.getfield 52, 3) := by decide +kernel
theorem dRd_readSingle_51 : decode kRd_readSingle.2.1 51 = .ok (.iload_n 1, 1) := by decide +kernel
theorem dRd_readSingle_52 : decode kRd_readSingle.2.1 52 = .ok (.invokevirtual 211, 3) := by decide +kernel
theorem dRd_readSingle_55 : decode kRd_readSingle.2.1 55 = .ok (.goto 126, 3) := by decide +kernel
theorem dRd_readSingle_58 : decode kRd_readSingle.2.1 58 = .ok (.aload_n 0, 1) := by decide +kernel
theorem dRd_readSingle_59 : decode kRd_readSingle.2.1 59 = .ok (.getfield 52, 3) := by decide +kernel
theorem dRd_readSingle_62 : decode kRd_readSingle.2.1 62 = .ok (.bipush 34, 2) := by decide +kernel
theorem dRd_readSingle_64 : decode kRd_readSingle.2.1 64 = .ok (.if_icmp .eq 12, 3) := by decide +kernel
theorem dRd_readSingle_67 : decode kRd_readSingle.2.1 67 = .ok (.aload_n 0, 1) := by decide +kernel
theorem dRd_readSingle_68 : decode kRd_readSingle.2.1 68 = .ok (.getfield 52, 3) := by decide +kernel
theorem dRd_readSingle_71 : decode kRd_readSingle.2.1 71 = .ok (.bipush 35, 2) := by decide +kernel
theorem dRd_readSingle_73 : decode kRd_readSingle.2.1 73 = .ok (.if_icmp .ne 15, 3) := by decide +kernel
theorem dRd_readSingle_76 : decode kRd_readSingle.2.1 76 = .ok (.aload_n 0, 1) := by decide +kernel
theorem dRd_readSingle_77 : decode kRd_readSingle.2.1 77 = .ok (.aload_n 0, 1) := by decide +kernel
theorem dRd_readSingle_78 : decode kRd_readSingle.2.1 78 = .ok (.getfield 52, 3) := by decide +kernel
theorem dRd_readSingle_81 : decode kRd_readSingle.2.1 81 = .ok (.iload_n 1, 1) := by decide +kernel
theorem dRd_readSingle_82 : decode kRd_readSingle.2.1 82 = .ok (.invokevirtual 214, 3) := by decide +kernel
theorem dRd_readSingle_85 : decode kRd_readSingle.2.1 85 = .ok (.goto 96, 3) := by decide +kernel
theorem dRd_readSingle_88 : decode kRd_readSingle.2.1 88 = .ok (.aload_n 0, 1) := by decide +kernel
theorem dRd_readSingle_89 : decode kRd_readSingle.2.1 89 = .ok (.getfield 52, 3) := by decide +kernel
theorem dRd_readSingle_92 : decode kRd_readSingle.2.1 92 = .ok (.iconst 4, 1) := by decide +kernel
theorem dRd_readSingle_93 : decode kRd_readSingle.2.1 93 = .ok (.if_icmp .ne 23, 3) := by decide +kernel
theorem dRd_readSingle_96 : decode kRd_readSingle.2.1 96 = .ok (.aload_n 0, 1) := by decide +kernel
theorem dRd_readSingle_97 : decode kRd_readSingle.2.1 97 = .ok (.invokevirtual 139, 3) := by decide +kernel
theorem dRd_readSingle_100 : decode kRd_readSingle.2.1 100 = .ok (.aload_n 0, 1) := by decide +kernel
theorem dRd_readSingle_101 : decode kRd_readSingle.2.1 101 = .ok (.iload_n 1, 1) := by decide +kernel
theorem dRd_readSingle_102 : decode kRd_readSingle.2.1 102 = .ok (.iconst 1, 1) := by decide +kernel
theorem dRd_readSingle_103 : decode kRd_readSingle.2.1 103 = .ok (.iadd, 1) := by decide +kernel
theorem dRd_readSingle_104 : decode kRd_readSingle.2.1 104 = .ok (.invokevirtual 155, 3) := by decide +kernel
theorem dRd_readSingle_107 : decode kRd_readSingle.2.1 107 = .ok (.aload_n 0, 1) := by decide +kernel
theorem dRd_readSingle_108 : decode kRd_readSingle.2.1 108 = .ok (.iconst 5, 1) := by decide +kernel
theorem dRd_readSingle_109 : decode kRd_readSingle.2.1 109 = .ok (.invokevirtual 100, 3) := by decide +kernel
theorem dRd_readSingle_112 : decode kRd_readSingle.2.1 112 = .ok (.pop, 1) := by decide +kernel
theorem dRd_readSingle_113 : decode kRd_readSingle.2.1 113 = .ok (.goto 68, 3) := by decide +kernel
theorem dRd_readSingle_116 : decode kRd_readSingle.2.1 116 = .ok (.aload_n 0, 1) := by decide +kernel
theorem dRd_readSingle_117 : decode kRd_readSingle.2.1 117 = .ok (.getfield 52, 3) := by decide +kernel
theorem dRd_readSingle_120 : decode kRd_readSingle.2.1 120 = .ok (.bipush 8, 2) := by decide +kernel
theorem dRd_readSingle_122 : decode kRd_readSingle.2.1 122 = .ok (.if_icmp .ne 38, 3) := by decide +kernel
theorem dRd_readSingle_125 : decode kRd_readSingle.2.1 125 = .ok (.aload_n 0, 1) := by decide +kernel
theorem dRd_readSingle_126 : decode kRd_readSingle.2.1 126 = .ok (.invokevirtual 174, 3) := by decide +kernel
theorem dRd_readSingle_129 : decode kRd_readSingle.2.1 129 = .ok (.aload_n 0, 1) := by decide +kernel
theorem dRd_readSingle_130 : decode kRd_readSingle.2.1 130 = .ok (.invokevirtual 139, 3) := by decide +kernel
theorem dRd_readSingle_133 : decode kRd_readSingle.2.1 133 = .ok (.aload_n 0, 1) := by decide +kernel
theorem dRd_readSingle_134 : decode kRd_readSingle.2.1 134 = .ok (.iload_n 1, 1) := by decide +kernel
theorem dRd_readSingle_135 : decode kRd_readSingle.2.1 135 = .ok (.iconst 1, 1) := by decide +kernel
theorem dRd_readSingle_136 : decode kRd_readSingle.2.1 136 = .ok (.iadd, 1) := by decide +kernel
theorem dRd_readSingle_137 : decode kRd_readSingle.2.1 137 = .ok (.invokevirtual 122, 3) := by decide +kernel
theorem dRd_readSingle_140 : decode kRd_readSingle.2.1 140 = .ok (.aload_n 0, 1) := by decide +kernel
theorem dRd_readSingle_141 : decode kRd_readSingle.2.1 141 = .ok (.bipush 9, 2) := by decide +kernel
theorem dRd_readSingle_143 : decode kRd_readSingle.2.1 143 = .ok (.invokevirtual 100, 3) := by decide +kernel
theorem dRd_readSingle_146 : decode kRd_readSingle.2.1 146 = .ok (.pop, 1) := by decide +kernel
theorem dRd_readSingle_147 : decode kRd_readSingle.2.1 147 = .ok (.aload_n 0, 1) := by decide +kernel
theorem dRd_readSingle_148 : decode kRd_readSingle.2.1 148 = .ok (.getfield 40, 3) := by decide +kernel
theorem dRd_readSingle_151 : decode kRd_readSingle.2.1 151 = .ok (.bipush 51, 2) := by decide +kernel
theorem dRd_readSingle_153 : decode kRd_readSingle.2.1 153 = .ok (.iconst 0, 1) := by decide +kernel
theorem dRd_readSingle_154 : decode kRd_readSingle.2.1 154 = .ok (.invokevirtual 128, 3) := by decide +kernel
theorem dRd_readSingle_157 : decode kRd_readSingle.2.1 157 = .ok (.goto 24, 3) := by decide +kernel
theorem dRd_readSingle_160 : decode kRd_readSingle.2.1 160 = .ok (.aload_n 0, 1) := by decide +kernel
theorem dRd_readSingle_161 : decode kRd_readSingle.2.1 161 = .ok (.getfield 52, 3) := by decide +kernel
theorem dRd_readSingle_164 : decode kRd_readSingle.2.1 164 = .ok (.bipush 43, 2) := by decide +kernel
theorem dRd_readSingle_166 : decode kRd_readSingle.2.1 166 = .ok (.if_icmp .ne 11, 3) := by decide +kernel
theorem dRd_readSingle_169 : decode kRd_readSingle.2.1 169 = .ok (.aload_n 0, 1) := by decide +kernel
theorem dRd_readSingle_170 : decode kRd_readSingle.2.1 170 = .ok (.iconst 1, 1) := by decide +kernel
theorem dRd_readSingle_171 : decode kRd_readSingle.2.1 171 = .ok (.invokevirtual 196, 3) := by decide +kernel
theorem dRd_readSingle_174 : decode kRd_readSingle.2.1 174 = .ok (.goto 7, 3) := by decide +kernel
theorem dRd_readSingle_177 : decode kRd_readSingle.2.1 177 = .ok (.aload_n 0, 1) := by decide +kernel
theorem dRd_readSingle_178 : decode kRd_readSingle.2.1 178 = .ok (.invokevirtual 73, 3) := by decide +kernel
theorem dRd_readSingle_181 : decode kRd_readSingle.2.1 181 = .ok (.return_, 1) := by decide +kernel
theorem dRd_readAlteredSingle_0 : decode kRd_readAlteredSingle.2.1 0 = .ok (.aload_n 0, 1) := by decide +kernel
theorem dRd_readAlteredSingle_1 : decode kRd_readAlteredSingle.2.1 1 = .ok (.invokevirtual 139, 3) := by decide +kernel
theorem dRd_readAlteredSingle_4 : decode kRd_readAlteredSingle.2.1 4 = .ok (.aload_n 0, 1) := by decide +kernel
theorem dRd_readAlteredSingle_5 : decode kRd_readAlteredSingle.2.1 5 = .ok (.iload_n 2, 1) := by decide +kernel
theorem dRd_readAlteredSingle_6 : decode kRd_readAlteredSingle.2.1 6 = .ok (.iconst 1, 1) := by decide +kernel
theorem dRd_readAlteredSingle_7 : decode kRd_readAlteredSingle.2.1 7 = .ok (.iadd, 1) := by decide +kernel
theorem dRd_readAlteredSingle_8 : decode kRd_readAlteredSingle.2.1 8 = .ok (.invokevirtual 208, 3) := by decide +kernel
theorem dRd_readAlteredSingle_11 : decode kRd_readAlteredSingle.2.1 11 = .ok (.aload_n 0, 1) := by decide +kernel
theorem dRd_readAlteredSingle_12 : decode kRd_readAlteredSingle.2.1 12 = .ok (.getfield 40, 3) := by decide +kernel
theorem dRd_readAlteredSingle_15 : decode kRd_readAlteredSingle.2.1 15 = .ok (.iload_n 1, 1) := by decide +kernel
theorem dRd_readAlteredSingle_16 : decode kRd_readAlteredSingle.2.1 16 = .ok (.iconst 0, 1) := by decide +kernel
theorem dRd_readAlteredSingle_17 : decode kRd_readAlteredSingle.2.1 17 = .ok (.invokevirtual 128, 3) := by decide +kernel
theorem dRd_readAlteredSingle_20 : decode kRd_readAlteredSingle.2.1 20 = .ok (.return_, 1) := by decide +kernel
theorem dRd_readUntil_0 : decode kRd_readUntil.2.1 0 = .ok (.aload_n 0, 1) := by decide +kernel
theorem dRd_readUntil_1 : decode kRd_readUntil.2.1 1 = .ok (.invokevirtual 139, 3) := by decide +kernel
theorem dRd_readUntil_4 : decode kRd_readUntil.2.1 4 = .ok (.aload_n 0, 1) := by decide +kernel
theorem dRd_readUntil_5 : decode kRd_readUntil.2.1 5 = .ok (.bipush 6, 2) := by decide +kernel
theorem dRd_readUntil_7 : decode kRd_readUntil.2.1 7 = .ok (.invokevirtual 100, 3) := by decide +kernel
theorem dRd_readUntil_10 : decode kRd_readUntil.2.1 10 = .ok (.pop, 1) := by decide +kernel
theorem dRd_readUntil_11 : decode kRd_readUntil.2.1 11 = .ok (.aload_n 0, 1) := by decide +kernel
theorem dRd_readUntil_12 : decode kRd_readUntil.2.1 12 = .ok (.iload_n 2, 1) := by decide +kernel
theorem dRd_readUntil_13 : decode kRd_readUntil.2.1 13 = .ok (.iconst 1, 1) := by decide +kernel
theorem dRd_readUntil_14 : decode kRd_readUntil.2.1 14 = .ok (.iadd, 1) := by decide +kernel
theorem dRd_readUntil_15 : decode kRd_readUntil.2.1 15 = .ok (.invokevirtual 155, 3) := by decide +kernel
theorem dRd_readUntil_18 : decode kRd_readUntil.2.1 18 = .ok (.aload_n 0, 1) := by decide +kernel
theorem dRd_readUntil_19 : decode kRd_readUntil.2.1 19 = .ok (.bipush 36, 2) := by decide +kernel
theorem dRd_readUntil_21 : decode kRd_readUntil.2.1 21 = .ok (.invokevirtual 100, 3) := by decide +kernel
theorem dRd_readUntil_24 : decode kRd_readUntil.2.1 24 = .ok (.pop, 1) := by decide +kernel
theorem dRd_readUntil_25 : decode kRd_readUntil.2.1 25 = .ok (.aload_n 0, 1) := by decide +kernel
theorem dRd_readUntil_26 : decode kRd_readUntil.2.1 26 = .ok (.iload_n 2, 1) := by decide +kernel
theorem dRd_readUntil_27 : decode kRd_readUntil.2.1 27 = .ok (.iconst 1, 1) := by decide +kernel
theorem dRd_readUntil_28 : decode kRd_readUntil.2.1 28 = .ok (.iadd, 1) := by decide +kernel
theorem dRd_readUntil_29 : decode kRd_readUntil.2.1 29 = .ok (.invokevirtual 155, 3) := by decide +kernel
theorem dRd_readUntil_32 : decode kRd_readUntil.2.1 32 = .ok (.aload_n 0, 1) := by decide +kernel
theorem dRd_readUntil_33 : decode kRd_readUntil.2.1 33 = .ok (.bipush 7, 2) := by decide +kernel
theorem dRd_readUntil_35 : decode kRd_readUntil.2.1 35 = .ok (.invokevirtual 100, 3) := by decide +kernel
theorem dRd_readUntil_38 : decode kRd_readUntil.2.1 38 = .ok (.pop, 1) := by decide +kernel
theorem dRd_readUntil_39 : decode kRd_readUntil.2.1 39 = .ok (.aload_n 0, 1) := by decide +kernel
theorem dRd_readUntil_40 : decode kRd_readUntil.2.1 40 = .ok (.getfield 40, 3) := by decide +kernel
theorem dRd_readUntil_43 : decode kRd_readUntil.2.1 43 = .ok (.iload_n 1, 1) := by decide +kernel
theorem dRd_readUntil_44 : decode kRd_readUntil.2.1 44 = .ok (.iconst 0, 1) := by decide +kernel
theorem dRd_readUntil_45 : decode kRd_readUntil.2.1 45 = .ok (.invokevirtual 128, 3) := by decide +kernel
theorem dRd_readUntil_48 : decode kRd_readUntil.2.1 48 = .ok (.return_, 1) := by decide +kernel
theorem fRd_9 : pm_Fl "CircuitChecker$TextReader" 9 4 4 true := ⟨_, _, _, rfl, by decide, by decide +kernel, pW4, Or.inl (pm_in 186 (by decide +kernel) rfl)⟩ -- declaredBy
theorem sRd_9 : pm_Fs "CircuitChecker$TextReader" 4 4 (.array .int) true := ⟨_, _, _, pY4, rfl, pY4_ok, pN4_ok, rfl, rfl, fun _ => rfl⟩
theorem fRd_15 : pm_Fl "CircuitChecker$TextReader" 15 4 5 true := ⟨_, _, _, rfl, by decide, by decide +kernel, pW4, Or.inl (pm_in 187 (by decide +kernel) rfl)⟩ -- hasNext
theorem sRd_15 : pm_Fs "CircuitChecker$TextReader" 4 5 (.array .int) true := ⟨_, _, _, pY4, rfl, pY4_ok, pN4_ok, rfl, rfl, fun _ => rfl⟩
theorem fRd_18 : pm_Fl "CircuitChecker$TextReader" 18 4 6 true := ⟨_, _, _, rfl, by decide, by decide +kernel, pW4, Or.inl (pm_in 188 (by decide +kernel) rfl)⟩ -- waiting
theorem sRd_18 : pm_Fs "CircuitChecker$TextReader" 4 6 (.array .int) true := ⟨_, _, _, pY4, rfl, pY4_ok, pN4_ok, rfl, rfl, fun _ => rfl⟩
theorem fRd_21 : pm_Fl "CircuitChecker$TextReader" 21 4 0 true := ⟨_, _, _, rfl, by decide, by decide +kernel, pW4, Or.inl (pm_in 182 (by decide +kernel) rfl)⟩ -- circuit
theorem sRd_21 : pm_Fs "CircuitChecker$TextReader" 4 0 (.object "CircuitChecker$Circuit") true := ⟨_, _, _, pY4, rfl, pY4_ok, pN4_ok, rfl, rfl, fun _ => rfl⟩
theorem fRd_30 : pm_Fl "CircuitChecker$TextReader" 30 4 1 true := ⟨_, _, _, rfl, by decide, by decide +kernel, pW4, Or.inl (pm_in 183 (by decide +kernel) rfl)⟩ -- tokens
theorem sRd_30 : pm_Fs "CircuitChecker$TextReader" 4 1 (.object "CircuitChecker$Tokens") true := ⟨_, _, _, pY4, rfl, pY4_ok, pN4_ok, rfl, rfl, fun _ => rfl⟩
theorem fRd_34 : pm_Fl "CircuitChecker$TextReader" 34 2 3 true := ⟨_, _, _, rfl, by decide, by decide +kernel, pW2, Or.inr ⟨"CircuitChecker", pm_inN 93 (by decide +kernel) rfl⟩⟩ -- logic
theorem fRd_40 : pm_Fl "CircuitChecker$TextReader" 40 4 8 true := ⟨_, _, _, rfl, by decide, by decide +kernel, pW4, Or.inl (pm_in 190 (by decide +kernel) rfl)⟩ -- code
theorem sRd_40 : pm_Fs "CircuitChecker$TextReader" 4 8 (.object "CircuitChecker$Code") false := ⟨_, _, _, pY4, rfl, pY4_ok, pN4_ok, rfl, rfl, fun h => by cases h⟩
theorem fRd_49 : pm_Fl "CircuitChecker$TextReader" 49 5 1 true := ⟨_, _, _, rfl, by decide, by decide +kernel, pW5, Or.inr ⟨"CircuitChecker", pm_inN 158 (by decide +kernel) rfl⟩⟩ -- kind
theorem fRd_52 : pm_Fl "CircuitChecker$TextReader" 52 4 3 false := ⟨_, _, _, rfl, by decide, by decide +kernel, pW4, Or.inl (pm_in 185 (by decide +kernel) rfl)⟩ -- kind
theorem sRd_52 : pm_Fs "CircuitChecker$TextReader" 4 3 .int false := ⟨_, _, _, pY4, rfl, pY4_ok, pN4_ok, rfl, rfl, fun h => by cases h⟩
theorem fRd_55 : pm_Fl "CircuitChecker$TextReader" 55 4 9 false := ⟨_, _, _, rfl, by decide, by decide +kernel, pW4, Or.inl (pm_in 191 (by decide +kernel) rfl)⟩ -- found
theorem sRd_55 : pm_Fs "CircuitChecker$TextReader" 4 9 .int false := ⟨_, _, _, pY4, rfl, pY4_ok, pN4_ok, rfl, rfl, fun h => by cases h⟩
theorem fRd_85 : pm_Fl "CircuitChecker$TextReader" 85 4 7 false := ⟨_, _, _, rfl, by decide, by decide +kernel, pW4, Or.inl (pm_in 189 (by decide +kernel) rfl)⟩ -- waitingCount
theorem sRd_85 : pm_Fs "CircuitChecker$TextReader" 4 7 .int false := ⟨_, _, _, pY4, rfl, pY4_ok, pN4_ok, rfl, rfl, fun h => by cases h⟩
theorem fRd_88 : pm_Fl "CircuitChecker$TextReader" 88 4 10 false := ⟨_, _, _, rfl, by decide, by decide +kernel, pW4, Or.inl (pm_in 193 (by decide +kernel) rfl)⟩ -- place
theorem sRd_88 : pm_Fs "CircuitChecker$TextReader" 4 10 .int false := ⟨_, _, _, pY4, rfl, pY4_ok, pN4_ok, rfl, rfl, fun h => by cases h⟩
theorem fRd_91 : pm_Fl "CircuitChecker$TextReader" 91 4 2 false := ⟨_, _, _, rfl, by decide, by decide +kernel, pW4, Or.inl (pm_in 184 (by decide +kernel) rfl)⟩ -- now
theorem sRd_91 : pm_Fs "CircuitChecker$TextReader" 4 2 .int false := ⟨_, _, _, pY4, rfl, pY4_ok, pN4_ok, rfl, rfl, fun h => by cases h⟩
theorem fRd_94 : pm_Fl "CircuitChecker$TextReader" 94 5 5 false := ⟨_, _, _, rfl, by decide, by decide +kernel, pW5, Or.inr ⟨"CircuitChecker", pm_inN 165 (by decide +kernel) rfl⟩⟩ -- length
theorem sRd_94 : pm_Fs "CircuitChecker$TextReader" 5 5 .int false := ⟨_, _, _, pY5, rfl, pY5_ok, pN5_ok, rfl, rfl, fun h => by cases h⟩
theorem fRd_104 : pm_Fl "CircuitChecker$TextReader" 104 2 7 false := ⟨_, _, _, rfl, by decide, by decide +kernel, pW2, Or.inr ⟨"CircuitChecker", pm_inN 108 (by decide +kernel) rfl⟩⟩ -- regBits
theorem sRd_104 : pm_Fs "CircuitChecker$TextReader" 2 7 .int false := ⟨_, _, _, pY2, rfl, pY2_ok, pN2_ok, rfl, rfl, fun h => by cases h⟩
theorem fRd_115 : pm_Fl "CircuitChecker$TextReader" 115 2 8 false := ⟨_, _, _, rfl, by decide, by decide +kernel, pW2, Or.inr ⟨"CircuitChecker", pm_inN 113 (by decide +kernel) rfl⟩⟩ -- inputBits
theorem sRd_115 : pm_Fs "CircuitChecker$TextReader" 2 8 .int false := ⟨_, _, _, pY2, rfl, pY2_ok, pN2_ok, rfl, rfl, fun h => by cases h⟩
theorem fRd_125 : pm_Fl "CircuitChecker$TextReader" 125 2 5 false := ⟨_, _, _, rfl, by decide, by decide +kernel, pW2, Or.inr ⟨"CircuitChecker", pm_inN 100 (by decide +kernel) rfl⟩⟩ -- names
theorem sRd_125 : pm_Fs "CircuitChecker$TextReader" 2 5 .int false := ⟨_, _, _, pY2, rfl, pY2_ok, pN2_ok, rfl, rfl, fun h => by cases h⟩
theorem fRd_146 : pm_Fl "CircuitChecker$TextReader" 146 2 6 false := ⟨_, _, _, rfl, by decide, by decide +kernel, pW2, Or.inr ⟨"CircuitChecker", pm_inN 104 (by decide +kernel) rfl⟩⟩ -- specs
theorem sRd_146 : pm_Fs "CircuitChecker$TextReader" 2 6 .int false := ⟨_, _, _, pY2, rfl, pY2_ok, pN2_ok, rfl, rfl, fun h => by cases h⟩
theorem fRd_152 : pm_Fl "CircuitChecker$TextReader" 152 2 4 true := ⟨_, _, _, rfl, by decide, by decide +kernel, pW2, Or.inr ⟨"CircuitChecker", pm_inN 96 (by decide +kernel) rfl⟩⟩ -- formulas
theorem fRd_164 : pm_Fl "CircuitChecker$TextReader" 164 2 0 true := ⟨_, _, _, rfl, by decide, by decide +kernel, pW2, Or.inr ⟨"CircuitChecker", pm_inN 84 (by decide +kernel) rfl⟩⟩ -- kind
theorem fRd_165 : pm_Fl "CircuitChecker$TextReader" 165 5 4 true := ⟨_, _, _, rfl, by decide, by decide +kernel, pW5, Or.inr ⟨"CircuitChecker", pm_inN 163 (by decide +kernel) rfl⟩⟩ -- number
theorem fRd_200 : pm_Fl "CircuitChecker$TextReader" 200 2 2 true := ⟨_, _, _, rfl, by decide, by decide +kernel, pW2, Or.inr ⟨"CircuitChecker", pm_inN 91 (by decide +kernel) rfl⟩⟩ -- part
theorem fRd_220 : pm_Fl "CircuitChecker$TextReader" 220 2 9 false := ⟨_, _, _, rfl, by decide, by decide +kernel, pW2, Or.inr ⟨"CircuitChecker", pm_inN 117 (by decide +kernel) rfl⟩⟩ -- costs
theorem sRd_220 : pm_Fs "CircuitChecker$TextReader" 2 9 .int false := ⟨_, _, _, pY2, rfl, pY2_ok, pN2_ok, rfl, rfl, fun h => by cases h⟩
theorem fRd_223 : pm_Fl "CircuitChecker$TextReader" 223 5 2 true := ⟨_, _, _, rfl, by decide, by decide +kernel, pW5, Or.inr ⟨"CircuitChecker", pm_inN 160 (by decide +kernel) rfl⟩⟩ -- from
theorem nRd_25 : pm_Cn "CircuitChecker$TextReader" 25 5 7 := ⟨_, _, pY5, rfl, pW5, pY5_ok, by decide +kernel, pm_in 150 (by decide +kernel) rfl, pm_in 151 (by decide +kernel) rfl, pm_in 6 (by decide +kernel) rfl⟩
theorem wRd_init : Cond.code kRd_init.1 kRd_init.2.1 kRd_init.2.2.1 kRd_init.2.2.2 ∈ pm_TS := pm_in 148 (by decide +kernel) rfl
theorem iRd_init : kRd_init.1.name = "<init>" ∧ kRd_init.2.2.2 = none ∧ Cond.instanceMethod kRd_init.1 ∈ pm_TS := ⟨rfl, rfl, pm_in 147 (by decide +kernel) rfl⟩
theorem wRd_readTape : Cond.code kRd_readTape.1 kRd_readTape.2.1 kRd_readTape.2.2.1 kRd_readTape.2.2.2 ∈ pm_TS := pm_in 614 (by decide +kernel) rfl
theorem vRd_readTape : pm_Vt kRd_readTape := ⟨pm_in 612 (by decide +kernel) rfl, pm_in 613 (by decide +kernel) rfl⟩
theorem wRd_begin : Cond.code kRd_begin.1 kRd_begin.2.1 kRd_begin.2.2.1 kRd_begin.2.2.2 ∈ pm_TS := pm_in 618 (by decide +kernel) rfl
theorem vRd_begin : pm_Vt kRd_begin := ⟨pm_in 617 (by decide +kernel) rfl, pm_inS (q := (kRd_begin.1, 11)) 30 (by decide +kernel)⟩
theorem wRd_readReg : Cond.code kRd_readReg.1 kRd_readReg.2.1 kRd_readReg.2.2.1 kRd_readReg.2.2.2 ∈ pm_TS := pm_in 790 (by decide +kernel) rfl
theorem vRd_readReg : pm_Vt kRd_readReg := ⟨pm_in 789 (by decide +kernel) rfl, pm_inS (q := (kRd_readReg.1, 11)) 39 (by decide +kernel)⟩
theorem wRd_readNewName : Cond.code kRd_readNewName.1 kRd_readNewName.2.1 kRd_readNewName.2.2.1 kRd_readNewName.2.2.2 ∈ pm_TS := pm_in 794 (by decide +kernel) rfl
theorem vRd_readNewName : pm_Vt kRd_readNewName := ⟨pm_in 793 (by decide +kernel) rfl, pm_inS (q := (kRd_readNewName.1, 11)) 40 (by decide +kernel)⟩
theorem wRd_advance : Cond.code kRd_advance.1 kRd_advance.2.1 kRd_advance.2.2.1 kRd_advance.2.2.2 ∈ pm_TS := pm_in 798 (by decide +kernel) rfl
theorem vRd_advance : pm_Vt kRd_advance := ⟨pm_in 797 (by decide +kernel) rfl, pm_inS (q := (kRd_advance.1, 11)) 41 (by decide +kernel)⟩
theorem wRd_refuse : Cond.code kRd_refuse.1 kRd_refuse.2.1 kRd_refuse.2.2.1 kRd_refuse.2.2.2 ∈ pm_TS := pm_in 802 (by decide +kernel) rfl
theorem vRd_refuse : pm_Vt kRd_refuse := ⟨pm_in 801 (by decide +kernel) rfl, pm_inS (q := (kRd_refuse.1, 11)) 42 (by decide +kernel)⟩
theorem wRd_halt : Cond.code kRd_halt.1 kRd_halt.2.1 kRd_halt.2.2.1 kRd_halt.2.2.2 ∈ pm_TS := pm_in 806 (by decide +kernel) rfl
theorem vRd_halt : pm_Vt kRd_halt := ⟨pm_in 805 (by decide +kernel) rfl, pm_inS (q := (kRd_halt.1, 11)) 43 (by decide +kernel)⟩
theorem wRd_findName : Cond.code kRd_findName.1 kRd_findName.2.1 kRd_findName.2.2.1 kRd_findName.2.2.2 ∈ pm_TS := pm_in 810 (by decide +kernel) rfl
theorem vRd_findName : pm_Vt kRd_findName := ⟨pm_in 809 (by decide +kernel) rfl, pm_inS (q := (kRd_findName.1, 11)) 44 (by decide +kernel)⟩
theorem wRd_expect : Cond.code kRd_expect.1 kRd_expect.2.1 kRd_expect.2.2.1 kRd_expect.2.2.2 ∈ pm_TS := pm_in 818 (by decide +kernel) rfl
theorem vRd_expect : pm_Vt kRd_expect := ⟨pm_in 817 (by decide +kernel) rfl, pm_inS (q := (kRd_expect.1, 11)) 45 (by decide +kernel)⟩
theorem wRd_readNumber : Cond.code kRd_readNumber.1 kRd_readNumber.2.1 kRd_readNumber.2.2.1 kRd_readNumber.2.2.2 ∈ pm_TS := pm_in 822 (by decide +kernel) rfl
theorem vRd_readNumber : pm_Vt kRd_readNumber := ⟨pm_in 821 (by decide +kernel) rfl, pm_inS (q := (kRd_readNumber.1, 11)) 46 (by decide +kernel)⟩
theorem wRd_readInput : Cond.code kRd_readInput.1 kRd_readInput.2.1 kRd_readInput.2.2.1 kRd_readInput.2.2.2 ∈ pm_TS := pm_in 834 (by decide +kernel) rfl
theorem vRd_readInput : pm_Vt kRd_readInput := ⟨pm_in 833 (by decide +kernel) rfl, pm_inS (q := (kRd_readInput.1, 11)) 48 (by decide +kernel)⟩
theorem wRd_readWire : Cond.code kRd_readWire.1 kRd_readWire.2.1 kRd_readWire.2.2.1 kRd_readWire.2.2.2 ∈ pm_TS := pm_in 842 (by decide +kernel) rfl
theorem vRd_readWire : pm_Vt kRd_readWire := ⟨pm_in 841 (by decide +kernel) rfl, pm_inS (q := (kRd_readWire.1, 11)) 49 (by decide +kernel)⟩
theorem wRd_readExpression : Cond.code kRd_readExpression.1 kRd_readExpression.2.1 kRd_readExpression.2.2.1 kRd_readExpression.2.2.2 ∈ pm_TS := pm_in 846 (by decide +kernel) rfl
theorem vRd_readExpression : pm_Vt kRd_readExpression := ⟨pm_in 845 (by decide +kernel) rfl, pm_inS (q := (kRd_readExpression.1, 11)) 50 (by decide +kernel)⟩
theorem wRd_isTooDeep : Cond.code kRd_isTooDeep.1 kRd_isTooDeep.2.1 kRd_isTooDeep.2.2.1 kRd_isTooDeep.2.2.2 ∈ pm_TS := pm_in 850 (by decide +kernel) rfl
theorem vRd_isTooDeep : pm_Vt kRd_isTooDeep := ⟨pm_in 849 (by decide +kernel) rfl, pm_inS (q := (kRd_isTooDeep.1, 11)) 51 (by decide +kernel)⟩
theorem wRd_readOperands : Cond.code kRd_readOperands.1 kRd_readOperands.2.1 kRd_readOperands.2.2.1 kRd_readOperands.2.2.2 ∈ pm_TS := pm_in 854 (by decide +kernel) rfl
theorem vRd_readOperands : pm_Vt kRd_readOperands := ⟨pm_in 853 (by decide +kernel) rfl, pm_inS (q := (kRd_readOperands.1, 11)) 52 (by decide +kernel)⟩
theorem wRd_readUnary : Cond.code kRd_readUnary.1 kRd_readUnary.2.1 kRd_readUnary.2.2.1 kRd_readUnary.2.2.2 ∈ pm_TS := pm_in 858 (by decide +kernel) rfl
theorem vRd_readUnary : pm_Vt kRd_readUnary := ⟨pm_in 857 (by decide +kernel) rfl, pm_inS (q := (kRd_readUnary.1, 11)) 53 (by decide +kernel)⟩
theorem wRd_readAltered : Cond.code kRd_readAltered.1 kRd_readAltered.2.1 kRd_readAltered.2.2.1 kRd_readAltered.2.2.2 ∈ pm_TS := pm_in 862 (by decide +kernel) rfl
theorem vRd_readAltered : pm_Vt kRd_readAltered := ⟨pm_in 861 (by decide +kernel) rfl, pm_inS (q := (kRd_readAltered.1, 11)) 54 (by decide +kernel)⟩
theorem wRd_chargeSign : Cond.code kRd_chargeSign.1 kRd_chargeSign.2.1 kRd_chargeSign.2.2.1 kRd_chargeSign.2.2.2 ∈ pm_TS := pm_in 866 (by decide +kernel) rfl
theorem vRd_chargeSign : pm_Vt kRd_chargeSign := ⟨pm_in 865 (by decide +kernel) rfl, pm_inS (q := (kRd_chargeSign.1, 11)) 55 (by decide +kernel)⟩
theorem wRd_charge : Cond.code kRd_charge.1 kRd_charge.2.1 kRd_charge.2.2.1 kRd_charge.2.2.2 ∈ pm_TS := pm_in 872 (by decide +kernel) rfl
theorem vRd_charge : pm_Vt kRd_charge := ⟨pm_in 871 (by decide +kernel) rfl, pm_inS (q := (kRd_charge.1, 11)) 56 (by decide +kernel)⟩
theorem wRd_readKnownName : Cond.code kRd_readKnownName.1 kRd_readKnownName.2.1 kRd_readKnownName.2.2.1 kRd_readKnownName.2.2.2 ∈ pm_TS := pm_in 880 (by decide +kernel) rfl
theorem vRd_readKnownName : pm_Vt kRd_readKnownName := ⟨pm_in 879 (by decide +kernel) rfl, pm_inS (q := (kRd_readKnownName.1, 11)) 57 (by decide +kernel)⟩
theorem wRd_tightness : Cond.code kRd_tightness.1 kRd_tightness.2.1 kRd_tightness.2.2.1 kRd_tightness.2.2.2 ∈ pm_TS := pm_in 883 (by decide +kernel) rfl
theorem tRd_tightness : Cond.static kRd_tightness.1 ∈ pm_TS := pm_in 882 (by decide +kernel) rfl
theorem wRd_settle : Cond.code kRd_settle.1 kRd_settle.2.1 kRd_settle.2.2.1 kRd_settle.2.2.2 ∈ pm_TS := pm_in 889 (by decide +kernel) rfl
theorem vRd_settle : pm_Vt kRd_settle := ⟨pm_in 888 (by decide +kernel) rfl, pm_inS (q := (kRd_settle.1, 11)) 58 (by decide +kernel)⟩
theorem wRd_await : Cond.code kRd_await.1 kRd_await.2.1 kRd_await.2.2.1 kRd_await.2.2.2 ∈ pm_TS := pm_in 893 (by decide +kernel) rfl
theorem vRd_await : pm_Vt kRd_await := ⟨pm_in 892 (by decide +kernel) rfl, pm_inS (q := (kRd_await.1, 11)) 59 (by decide +kernel)⟩
theorem wRd_readNext : Cond.code kRd_readNext.1 kRd_readNext.2.1 kRd_readNext.2.2.1 kRd_readNext.2.2.2 ∈ pm_TS := pm_in 901 (by decide +kernel) rfl
theorem vRd_readNext : pm_Vt kRd_readNext := ⟨pm_in 900 (by decide +kernel) rfl, pm_inS (q := (kRd_readNext.1, 11)) 60 (by decide +kernel)⟩
theorem wRd_readRegWithoutNext : Cond.code kRd_readRegWithoutNext.1 kRd_readRegWithoutNext.2.1 kRd_readRegWithoutNext.2.2.1 kRd_readRegWithoutNext.2.2.2 ∈ pm_TS := pm_in 905 (by decide +kernel) rfl
theorem vRd_readRegWithoutNext : pm_Vt kRd_readRegWithoutNext := ⟨pm_in 904 (by decide +kernel) rfl, pm_inS (q := (kRd_readRegWithoutNext.1, 11)) 61 (by decide +kernel)⟩
theorem wRd_readSpec : Cond.code kRd_readSpec.1 kRd_readSpec.2.1 kRd_readSpec.2.2.1 kRd_readSpec.2.2.2 ∈ pm_TS := pm_in 909 (by decide +kernel) rfl
theorem vRd_readSpec : pm_Vt kRd_readSpec := ⟨pm_in 908 (by decide +kernel) rfl, pm_inS (q := (kRd_readSpec.1, 11)) 62 (by decide +kernel)⟩
theorem wRd_readFormula : Cond.code kRd_readFormula.1 kRd_readFormula.2.1 kRd_readFormula.2.2.1 kRd_readFormula.2.2.2 ∈ pm_TS := pm_in 913 (by decide +kernel) rfl
theorem vRd_readFormula : pm_Vt kRd_readFormula := ⟨pm_in 912 (by decide +kernel) rfl, pm_inS (q := (kRd_readFormula.1, 11)) 63 (by decide +kernel)⟩
theorem wRd_readEither : Cond.code kRd_readEither.1 kRd_readEither.2.1 kRd_readEither.2.2.1 kRd_readEither.2.2.2 ∈ pm_TS := pm_in 917 (by decide +kernel) rfl
theorem vRd_readEither : pm_Vt kRd_readEither := ⟨pm_in 916 (by decide +kernel) rfl, pm_inS (q := (kRd_readEither.1, 11)) 64 (by decide +kernel)⟩
theorem wRd_readBoth : Cond.code kRd_readBoth.1 kRd_readBoth.2.1 kRd_readBoth.2.2.1 kRd_readBoth.2.2.2 ∈ pm_TS := pm_in 921 (by decide +kernel) rfl
theorem vRd_readBoth : pm_Vt kRd_readBoth := ⟨pm_in 920 (by decide +kernel) rfl, pm_inS (q := (kRd_readBoth.1, 11)) 65 (by decide +kernel)⟩
theorem wRd_readSingle : Cond.code kRd_readSingle.1 kRd_readSingle.2.1 kRd_readSingle.2.2.1 kRd_readSingle.2.2.2 ∈ pm_TS := pm_in 925 (by decide +kernel) rfl
theorem vRd_readSingle : pm_Vt kRd_readSingle := ⟨pm_in 924 (by decide +kernel) rfl, pm_inS (q := (kRd_readSingle.1, 11)) 66 (by decide +kernel)⟩
theorem wRd_readAlteredSingle : Cond.code kRd_readAlteredSingle.1 kRd_readAlteredSingle.2.1 kRd_readAlteredSingle.2.2.1 kRd_readAlteredSingle.2.2.2 ∈ pm_TS := pm_in 929 (by decide +kernel) rfl
theorem vRd_readAlteredSingle : pm_Vt kRd_readAlteredSingle := ⟨pm_in 928 (by decide +kernel) rfl, pm_inS (q := (kRd_readAlteredSingle.1, 11)) 67 (by decide +kernel)⟩
theorem wRd_readUntil : Cond.code kRd_readUntil.1 kRd_readUntil.2.1 kRd_readUntil.2.2.1 kRd_readUntil.2.2.2 ∈ pm_TS := pm_in 933 (by decide +kernel) rfl
theorem vRd_readUntil : pm_Vt kRd_readUntil := ⟨pm_in 932 (by decide +kernel) rfl, pm_inS (q := (kRd_readUntil.1, 11)) 68 (by decide +kernel)⟩
