/-! java/lang/String: cards, decoded instructions, links -/
def kSg_length : pmK := (⟨"java/lang/String", "length", "()I"⟩, prog_22_method_54_code, 1, (some .int))
def kSg_coder : pmK := (⟨"java/lang/String", "coder", "()B"⟩, prog_22_method_152_code, 1, (some .byte))
def kSg_charAt : pmK := (⟨"java/lang/String", "charAt", "(I)C"⟩, prog_22_method_56_code, 2, (some .char))
def kSg_isLatin1 : pmK := (⟨"java/lang/String", "isLatin1", "()Z"⟩, prog_22_method_154_code, 1, (some .boolean))
def kSg_checkIndex : pmK := (⟨"java/lang/String", "checkIndex", "(II)V"⟩, prog_22_method_155_code, 2, none)
def kSg_indexOf : pmK := (⟨"java/lang/String", "indexOf", "(I)I"⟩, prog_22_method_79_code, 2, (some .int))
def kSg_indexOf2 : pmK := (⟨"java/lang/String", "indexOf", "(II)I"⟩, prog_22_method_80_code, 3, (some .int))
def kSg_checkBoundsBeginEnd : pmK := (⟨"java/lang/String", "checkBoundsBeginEnd", "(III)V"⟩, prog_22_method_158_code, 3, none)
theorem dSg_length_0 : decode kSg_length.2.1 0 = .ok (.aload_n 0, 1) := by decide +kernel
theorem dSg_length_1 : decode kSg_length.2.1 1 = .ok (.getfield 9, 3) := by decide +kernel
theorem dSg_length_4 : decode kSg_length.2.1 4 = .ok (.arraylength, 1) := by decide +kernel
theorem dSg_length_5 : decode kSg_length.2.1 5 = .ok (.aload_n 0, 1) := by decide +kernel
theorem dSg_length_6 : decode kSg_length.2.1 6 = .ok (.invokevirtual 335, 3) := by decide +kernel
theorem dSg_length_9 : decode kSg_length.2.1 9 = .ok (.ishr, 1) := by decide +kernel
theorem dSg_length_10 : decode kSg_length.2.1 10 = .ok (.ireturn, 1) := by decide +kernel
theorem dSg_coder_0 : decode kSg_coder.2.1 0 = .ok (.getstatic 38, 3) := by decide +kernel
theorem dSg_coder_3 : decode kSg_coder.2.1 3 = .ok (.ifCond .eq 10, 3) := by decide +kernel
theorem dSg_coder_6 : decode kSg_coder.2.1 6 = .ok (.aload_n 0, 1) := by decide +kernel
theorem dSg_coder_7 : decode kSg_coder.2.1 7 = .ok (.getfield 15, 3) := by decide +kernel
theorem dSg_coder_10 : decode kSg_coder.2.1 10 = .ok (.goto 4, 3) := by decide +kernel
theorem dSg_coder_13 : decode kSg_coder.2.1 13 = .ok (.iconst 1, 1) := by decide +kernel
theorem dSg_coder_14 : decode kSg_coder.2.1 14 = .ok (.ireturn, 1) := by decide +kernel
theorem dSg_charAt_0 : decode kSg_charAt.2.1 0 = .ok (.aload_n 0, 1) := by decide +kernel
theorem dSg_charAt_1 : decode kSg_charAt.2.1 1 = .ok (.invokevirtual 492, 3) := by decide +kernel
theorem dSg_charAt_4 : decode kSg_charAt.2.1 4 = .ok (.ifCond .eq 12, 3) := by decide +kernel
theorem dSg_charAt_7 : decode kSg_charAt.2.1 7 = .ok (.aload_n 0, 1) := by decide +kernel
theorem dSg_charAt_8 : decode kSg_charAt.2.1 8 = .ok (.getfield 9, 3) := by decide +kernel
theorem dSg_charAt_11 : decode kSg_charAt.2.1 11 = .ok (.iload_n 1, 1) := by decide +kernel
theorem dSg_charAt_12 : decode kSg_charAt.2.1 12 = .ok (.invokestatic 495, 3) := by decide +kernel
theorem dSg_charAt_15 : decode kSg_charAt.2.1 15 = .ok (.ireturn, 1) := by decide +kernel
theorem dSg_charAt_16 : decode kSg_charAt.2.1 16 = .ok (.aload_n 0, 1) := by decide +kernel
theorem dSg_charAt_17 : decode kSg_charAt.2.1 17 = .ok (.getfield 9, 3) := by decide +kernel
theorem dSg_charAt_20 : decode kSg_charAt.2.1 20 = .ok (.iload_n 1, 1) := by decide +kernel
theorem dSg_charAt_21 : decode kSg_charAt.2.1 21 = .ok (.invokestatic 498, 3) := by decide +kernel
theorem dSg_charAt_24 : decode kSg_charAt.2.1 24 = .ok (.ireturn, 1) := by decide +kernel
theorem dSg_isLatin1_0 : decode kSg_isLatin1.2.1 0 = .ok (.getstatic 38, 3) := by decide +kernel
theorem dSg_isLatin1_3 : decode kSg_isLatin1.2.1 3 = .ok (.ifCond .eq 14, 3) := by decide +kernel
theorem dSg_isLatin1_6 : decode kSg_isLatin1.2.1 6 = .ok (.aload_n 0, 1) := by decide +kernel
theorem dSg_isLatin1_7 : decode kSg_isLatin1.2.1 7 = .ok (.getfield 15, 3) := by decide +kernel
theorem dSg_isLatin1_10 : decode kSg_isLatin1.2.1 10 = .ok (.ifCond .ne 7, 3) := by decide +kernel
theorem dSg_isLatin1_13 : decode kSg_isLatin1.2.1 13 = .ok (.iconst 1, 1) := by decide +kernel
theorem dSg_isLatin1_14 : decode kSg_isLatin1.2.1 14 = .ok (.goto 4, 3) := by decide +kernel
theorem dSg_isLatin1_17 : decode kSg_isLatin1.2.1 17 = .ok (.iconst 0, 1) := by decide +kernel
theorem dSg_isLatin1_18 : decode kSg_isLatin1.2.1 18 = .ok (.ireturn, 1) := by decide +kernel
theorem dSg_checkIndex_0 : decode kSg_checkIndex.2.1 0 = .ok (.iload_n 0, 1) := by decide +kernel
theorem dSg_checkIndex_1 : decode kSg_checkIndex.2.1 1 = .ok (.iload_n 1, 1) := by decide +kernel
theorem dSg_checkIndex_2 : decode kSg_checkIndex.2.1 2 = .ok (.getstatic 1053, 3) := by decide +kernel
theorem dSg_checkIndex_5 : decode kSg_checkIndex.2.1 5 = .ok (.invokestatic 1059, 3) := by decide +kernel
theorem dSg_checkIndex_8 : decode kSg_checkIndex.2.1 8 = .ok (.pop, 1) := by decide +kernel
theorem dSg_checkIndex_9 : decode kSg_checkIndex.2.1 9 = .ok (.return_, 1) := by decide +kernel
theorem dSg_indexOf_0 : decode kSg_indexOf.2.1 0 = .ok (.aload_n 0, 1) := by decide +kernel
theorem dSg_indexOf_1 : decode kSg_indexOf.2.1 1 = .ok (.iload_n 1, 1) := by decide +kernel
theorem dSg_indexOf_2 : decode kSg_indexOf.2.1 2 = .ok (.iconst 0, 1) := by decide +kernel
theorem dSg_indexOf_3 : decode kSg_indexOf.2.1 3 = .ok (.invokevirtual 633, 3) := by decide +kernel
theorem dSg_indexOf_6 : decode kSg_indexOf.2.1 6 = .ok (.ireturn, 1) := by decide +kernel
theorem dSg_indexOf2_0 : decode kSg_indexOf2.2.1 0 = .ok (.aload_n 0, 1) := by decide +kernel
theorem dSg_indexOf2_1 : decode kSg_indexOf2.2.1 1 = .ok (.invokevirtual 492, 3) := by decide +kernel
theorem dSg_indexOf2_4 : decode kSg_indexOf2.2.1 4 = .ok (.ifCond .eq 19, 3) := by decide +kernel
theorem dSg_indexOf2_7 : decode kSg_indexOf2.2.1 7 = .ok (.aload_n 0, 1) := by decide +kernel
theorem dSg_indexOf2_8 : decode kSg_indexOf2.2.1 8 = .ok (.getfield 9, 3) := by decide +kernel
theorem dSg_indexOf2_11 : decode kSg_indexOf2.2.1 11 = .ok (.iload_n 1, 1) := by decide +kernel
theorem dSg_indexOf2_12 : decode kSg_indexOf2.2.1 12 = .ok (.iload_n 2, 1) := by decide +kernel
theorem dSg_indexOf2_13 : decode kSg_indexOf2.2.1 13 = .ok (.aload_n 0, 1) := by decide +kernel
theorem dSg_indexOf2_14 : decode kSg_indexOf2.2.1 14 = .ok (.invokevirtual 505, 3) := by decide +kernel
theorem dSg_indexOf2_17 : decode kSg_indexOf2.2.1 17 = .ok (.invokestatic 637, 3) := by decide +kernel
theorem dSg_indexOf2_20 : decode kSg_indexOf2.2.1 20 = .ok (.goto 16, 3) := by decide +kernel
theorem dSg_indexOf2_23 : decode kSg_indexOf2.2.1 23 = .ok (.aload_n 0, 1) := by decide +kernel
theorem dSg_indexOf2_24 : decode kSg_indexOf2.2.1 24 = .ok (.getfield 9, 3) := by decide +kernel
theorem dSg_indexOf2_27 : decode kSg_indexOf2.2.1 27 = .ok (.iload_n 1, 1) := by decide +kernel
theorem dSg_indexOf2_28 : decode kSg_indexOf2.2.1 28 = .ok (.iload_n 2, 1) := by decide +kernel
theorem dSg_indexOf2_29 : decode kSg_indexOf2.2.1 29 = .ok (.aload_n 0, 1) := by decide +kernel
theorem dSg_indexOf2_30 : decode kSg_indexOf2.2.1 30 = .ok (.invokevirtual 505, 3) := by decide +kernel
theorem dSg_indexOf2_33 : decode kSg_indexOf2.2.1 33 = .ok (.invokestatic 640, 3) := by decide +kernel
theorem dSg_indexOf2_36 : decode kSg_indexOf2.2.1 36 = .ok (.ireturn, 1) := by decide +kernel
theorem dSg_checkBoundsBeginEnd_0 : decode kSg_checkBoundsBeginEnd.2.1 0 = .ok (.iload_n 0, 1) := by decide +kernel
theorem dSg_checkBoundsBeginEnd_1 : decode kSg_checkBoundsBeginEnd.2.1 1 = .ok (.iload_n 1, 1) := by decide +kernel
theorem dSg_checkBoundsBeginEnd_2 : decode kSg_checkBoundsBeginEnd.2.1 2 = .ok (.iload_n 2, 1) := by decide +kernel
theorem dSg_checkBoundsBeginEnd_3 : decode kSg_checkBoundsBeginEnd.2.1 3 = .ok (.getstatic 1053, 3) := by decide +kernel
theorem dSg_checkBoundsBeginEnd_6 : decode kSg_checkBoundsBeginEnd.2.1 6 = .ok (.invokestatic 1062, 3) := by decide +kernel
theorem dSg_checkBoundsBeginEnd_9 : decode kSg_checkBoundsBeginEnd.2.1 9 = .ok (.pop, 1) := by decide +kernel
theorem dSg_checkBoundsBeginEnd_10 : decode kSg_checkBoundsBeginEnd.2.1 10 = .ok (.return_, 1) := by decide +kernel
theorem wSg_length : Cond.code kSg_length.1 kSg_length.2.1 kSg_length.2.2.1 kSg_length.2.2.2 ∈ pm_TS := pm_in 665 (by decide +kernel) rfl
theorem vSg_length : pm_Vt kSg_length := ⟨pm_in 663 (by decide +kernel) rfl, pm_in 664 (by decide +kernel) rfl⟩
theorem wSg_coder : Cond.code kSg_coder.1 kSg_coder.2.1 kSg_coder.2.2.1 kSg_coder.2.2.2 ∈ pm_TS := pm_in 669 (by decide +kernel) rfl
theorem vSg_coder : pm_Vt kSg_coder := ⟨pm_in 667 (by decide +kernel) rfl, pm_in 668 (by decide +kernel) rfl⟩
theorem wSg_charAt : Cond.code kSg_charAt.1 kSg_charAt.2.1 kSg_charAt.2.2.1 kSg_charAt.2.2.2 ∈ pm_TS := pm_in 675 (by decide +kernel) rfl
theorem vSg_charAt : pm_Vt kSg_charAt := ⟨pm_in 673 (by decide +kernel) rfl, pm_in 674 (by decide +kernel) rfl⟩
theorem wSg_isLatin1 : Cond.code kSg_isLatin1.1 kSg_isLatin1.2.1 kSg_isLatin1.2.2.1 kSg_isLatin1.2.2.2 ∈ pm_TS := pm_in 679 (by decide +kernel) rfl
theorem vSg_isLatin1 : pm_Vt kSg_isLatin1 := ⟨pm_in 677 (by decide +kernel) rfl, pm_in 678 (by decide +kernel) rfl⟩
theorem wSg_checkIndex : Cond.code kSg_checkIndex.1 kSg_checkIndex.2.1 kSg_checkIndex.2.2.1 kSg_checkIndex.2.2.2 ∈ pm_TS := pm_in 685 (by decide +kernel) rfl
theorem tSg_checkIndex : Cond.static kSg_checkIndex.1 ∈ pm_TS := pm_in 684 (by decide +kernel) rfl
theorem wSg_indexOf : Cond.code kSg_indexOf.1 kSg_indexOf.2.1 kSg_indexOf.2.2.1 kSg_indexOf.2.2.2 ∈ pm_TS := pm_in 731 (by decide +kernel) rfl
theorem vSg_indexOf : pm_Vt kSg_indexOf := ⟨pm_in 729 (by decide +kernel) rfl, pm_in 730 (by decide +kernel) rfl⟩
theorem wSg_indexOf2 : Cond.code kSg_indexOf2.1 kSg_indexOf2.2.1 kSg_indexOf2.2.2.1 kSg_indexOf2.2.2.2 ∈ pm_TS := pm_in 735 (by decide +kernel) rfl
theorem vSg_indexOf2 : pm_Vt kSg_indexOf2 := ⟨pm_in 733 (by decide +kernel) rfl, pm_in 734 (by decide +kernel) rfl⟩
theorem wSg_checkBoundsBeginEnd : Cond.code kSg_checkBoundsBeginEnd.1 kSg_checkBoundsBeginEnd.2.1 kSg_checkBoundsBeginEnd.2.2.1 kSg_checkBoundsBeginEnd.2.2.2 ∈ pm_TS := pm_in 766 (by decide +kernel) rfl
theorem tSg_checkBoundsBeginEnd : Cond.static kSg_checkBoundsBeginEnd.1 ∈ pm_TS := pm_in 765 (by decide +kernel) rfl
/-! java/lang/StringLatin1: cards, decoded instructions, links -/
def kSl_charAt : pmK := (⟨"java/lang/StringLatin1", "charAt", "([BI)C"⟩, prog_23_method_2_code, 2, (some .char))
def kSl_indexOf : pmK := (⟨"java/lang/StringLatin1", "indexOf", "([BIII)I"⟩, prog_23_method_22_code, 4, (some .int))
def kSl_canEncode : pmK := (⟨"java/lang/StringLatin1", "canEncode", "(I)Z"⟩, prog_23_method_4_code, 1, (some .boolean))
def kSl_indexOfChar : pmK := (⟨"java/lang/StringLatin1", "indexOfChar", "([BIII)I"⟩, prog_23_method_23_code, 6, (some .int))
theorem dSl_charAt_0 : decode kSl_charAt.2.1 0 = .ok (.iload_n 1, 1) := by decide +kernel
theorem dSl_charAt_1 : decode kSl_charAt.2.1 1 = .ok (.aload_n 0, 1) := by decide +kernel
theorem dSl_charAt_2 : decode kSl_charAt.2.1 2 = .ok (.arraylength, 1) := by decide +kernel
theorem dSl_charAt_3 : decode kSl_charAt.2.1 3 = .ok (.invokestatic 9, 3) := by decide +kernel
theorem dSl_charAt_6 : decode kSl_charAt.2.1 6 = .ok (.aload_n 0, 1) := by decide +kernel
theorem dSl_charAt_7 : decode kSl_charAt.2.1 7 = .ok (.iload_n 1, 1) := by decide +kernel
theorem dSl_charAt_8 : decode kSl_charAt.2.1 8 = .ok (.baload, 1) := by decide +kernel
theorem dSl_charAt_9 : decode kSl_charAt.2.1 9 = .ok (.sipush 255, 3) := by decide +kernel
theorem dSl_charAt_12 : decode kSl_charAt.2.1 12 = .ok (.iand, 1) := by decide +kernel
theorem dSl_charAt_13 : decode kSl_charAt.2.1 13 = .ok (.i2c, 1) := by decide +kernel
theorem dSl_charAt_14 : decode kSl_charAt.2.1 14 = .ok (.ireturn, 1) := by decide +kernel
theorem dSl_indexOf_0 : decode kSl_indexOf.2.1 0 = .ok (.iload_n 1, 1) := by decide +kernel
theorem dSl_indexOf_1 : decode kSl_indexOf.2.1 1 = .ok (.invokestatic 88, 3) := by decide +kernel
theorem dSl_indexOf_4 : decode kSl_indexOf.2.1 4 = .ok (.ifCond .ne 5, 3) := by decide +kernel
theorem dSl_indexOf_7 : decode kSl_indexOf.2.1 7 = .ok (.iconst (-1), 1) := by decide +kernel
theorem dSl_indexOf_8 : decode kSl_indexOf.2.1 8 = .ok (.ireturn, 1) := by decide +kernel
theorem dSl_indexOf_9 : decode kSl_indexOf.2.1 9 = .ok (.iload_n 2, 1) := by decide +kernel
theorem dSl_indexOf_10 : decode kSl_indexOf.2.1 10 = .ok (.iconst 0, 1) := by decide +kernel
theorem dSl_indexOf_11 : decode kSl_indexOf.2.1 11 = .ok (.invokestatic 92, 3) := by decide +kernel
theorem dSl_indexOf_14 : decode kSl_indexOf.2.1 14 = .ok (.istore_n 2, 1) := by decide +kernel
theorem dSl_indexOf_15 : decode kSl_indexOf.2.1 15 = .ok (.iload_n 3, 1) := by decide +kernel
theorem dSl_indexOf_16 : decode kSl_indexOf.2.1 16 = .ok (.aload_n 0, 1) := by decide +kernel
theorem dSl_indexOf_17 : decode kSl_indexOf.2.1 17 = .ok (.arraylength, 1) := by decide +kernel
theorem dSl_indexOf_18 : decode kSl_indexOf.2.1 18 = .ok (.invokestatic 38, 3) := by decide +kernel
theorem dSl_indexOf_21 : decode kSl_indexOf.2.1 21 = .ok (.istore_n 3, 1) := by decide +kernel
theorem dSl_indexOf_22 : decode kSl_indexOf.2.1 22 = .ok (.iload_n 2, 1) := by decide +kernel
theorem dSl_indexOf_23 : decode kSl_indexOf.2.1 23 = .ok (.iload_n 3, 1) := by decide +kernel
theorem dSl_indexOf_24 : decode kSl_indexOf.2.1 24 = .ok (.if_icmp .lt 5, 3) := by decide +kernel
theorem dSl_indexOf_27 : decode kSl_indexOf.2.1 27 = .ok (.iconst (-1), 1) := by decide +kernel
theorem dSl_indexOf_28 : decode kSl_indexOf.2.1 28 = .ok (.ireturn, 1) := by decide +kernel
theorem dSl_indexOf_29 : decode kSl_indexOf.2.1 29 = .ok (.aload_n 0, 1) := by decide +kernel
theorem dSl_indexOf_30 : decode kSl_indexOf.2.1 30 = .ok (.iload_n 1, 1) := by decide +kernel
theorem dSl_indexOf_31 : decode kSl_indexOf.2.1 31 = .ok (.iload_n 2, 1) := by decide +kernel
theorem dSl_indexOf_32 : decode kSl_indexOf.2.1 32 = .ok (.iload_n 3, 1) := by decide +kernel
theorem dSl_indexOf_33 : decode kSl_indexOf.2.1 33 = .ok (.invokestatic 95, 3) := by decide +kernel
theorem dSl_indexOf_36 : decode kSl_indexOf.2.1 36 = .ok (.ireturn, 1) := by decide +kernel
theorem dSl_canEncode_0 : decode kSl_canEncode.2.1 0 = .ok (.iload_n 0, 1) := by decide +kernel
theorem dSl_canEncode_1 : decode kSl_canEncode.2.1 1 = .ok (.ifCond .lt 14, 3) := by decide +kernel
theorem dSl_canEncode_4 : decode kSl_canEncode.2.1 4 = .ok (.iload_n 0, 1) := by decide +kernel
theorem dSl_canEncode_5 : decode kSl_canEncode.2.1 5 = .ok (.sipush 255, 3) := by decide +kernel
theorem dSl_canEncode_8 : decode kSl_canEncode.2.1 8 = .ok (.if_icmp .gt 7, 3) := by decide +kernel
theorem dSl_canEncode_11 : decode kSl_canEncode.2.1 11 = .ok (.iconst 1, 1) := by decide +kernel
theorem dSl_canEncode_12 : decode kSl_canEncode.2.1 12 = .ok (.goto 4, 3) := by decide +kernel
theorem dSl_canEncode_15 : decode kSl_canEncode.2.1 15 = .ok (.iconst 0, 1) := by decide +kernel
theorem dSl_canEncode_16 : decode kSl_canEncode.2.1 16 = .ok (.ireturn, 1) := by decide +kernel
theorem dSl_indexOfChar_0 : decode kSl_indexOfChar.2.1 0 = .ok (.iload_n 1, 1) := by decide +kernel
theorem dSl_indexOfChar_1 : decode kSl_indexOfChar.2.1 1 = .ok (.i2b, 1) := by decide +kernel
theorem dSl_indexOfChar_2 : decode kSl_indexOfChar.2.1 2 = .ok (.istore 4, 2) := by decide +kernel
theorem dSl_indexOfChar_4 : decode kSl_indexOfChar.2.1 4 = .ok (.iload_n 2, 1) := by decide +kernel
theorem dSl_indexOfChar_5 : decode kSl_indexOfChar.2.1 5 = .ok (.istore 5, 2) := by decide +kernel
theorem dSl_indexOfChar_7 : decode kSl_indexOfChar.2.1 7 = .ok (.iload 5, 2) := by decide +kernel
theorem dSl_indexOfChar_9 : decode kSl_indexOfChar.2.1 9 = .ok (.iload_n 3, 1) := by decide +kernel
theorem dSl_indexOfChar_10 : decode kSl_indexOfChar.2.1 10 = .ok (.if_icmp .ge 21, 3) := by decide +kernel
theorem dSl_indexOfChar_13 : decode kSl_indexOfChar.2.1 13 = .ok (.aload_n 0, 1) := by decide +kernel
theorem dSl_indexOfChar_14 : decode kSl_indexOfChar.2.1 14 = .ok (.iload 5, 2) := by decide +kernel
theorem dSl_indexOfChar_16 : decode kSl_indexOfChar.2.1 16 = .ok (.baload, 1) := by decide +kernel
theorem dSl_indexOfChar_17 : decode kSl_indexOfChar.2.1 17 = .ok (.iload 4, 2) := by decide +kernel
theorem dSl_indexOfChar_19 : decode kSl_indexOfChar.2.1 19 = .ok (.if_icmp .ne 6, 3) := by decide +kernel
theorem dSl_indexOfChar_22 : decode kSl_indexOfChar.2.1 22 = .ok (.iload 5, 2) := by decide +kernel
theorem dSl_indexOfChar_24 : decode kSl_indexOfChar.2.1 24 = .ok (.ireturn, 1) := by decide +kernel
theorem dSl_indexOfChar_25 : decode kSl_indexOfChar.2.1 25 = .ok (.iinc 5 1, 3) := by decide +kernel
theorem dSl_indexOfChar_28 : decode kSl_indexOfChar.2.1 28 = .ok (.goto (-21), 3) := by decide +kernel
theorem dSl_indexOfChar_31 : decode kSl_indexOfChar.2.1 31 = .ok (.iconst (-1), 1) := by decide +kernel
theorem dSl_indexOfChar_32 : decode kSl_indexOfChar.2.1 32 = .ok (.ireturn, 1) := by decide +kernel
theorem wSl_charAt : Cond.code kSl_charAt.1 kSl_charAt.2.1 kSl_charAt.2.2.1 kSl_charAt.2.2.2 ∈ pm_TS := pm_in 682 (by decide +kernel) rfl
theorem tSl_charAt : Cond.static kSl_charAt.1 ∈ pm_TS := pm_in 681 (by decide +kernel) rfl
theorem wSl_indexOf : Cond.code kSl_indexOf.1 kSl_indexOf.2.1 kSl_indexOf.2.2.1 kSl_indexOf.2.2.2 ∈ pm_TS := pm_in 739 (by decide +kernel) rfl
theorem tSl_indexOf : Cond.static kSl_indexOf.1 ∈ pm_TS := pm_in 738 (by decide +kernel) rfl
theorem wSl_canEncode : Cond.code kSl_canEncode.1 kSl_canEncode.2.1 kSl_canEncode.2.2.1 kSl_canEncode.2.2.2 ∈ pm_TS := pm_in 742 (by decide +kernel) rfl
theorem tSl_canEncode : Cond.static kSl_canEncode.1 ∈ pm_TS := pm_in 741 (by decide +kernel) rfl
theorem wSl_indexOfChar : Cond.code kSl_indexOfChar.1 kSl_indexOfChar.2.1 kSl_indexOfChar.2.2.1 kSl_indexOfChar.2.2.2 ∈ pm_TS := pm_in 751 (by decide +kernel) rfl
theorem tSl_indexOfChar : Cond.static kSl_indexOfChar.1 ∈ pm_TS := pm_in 750 (by decide +kernel) rfl
/-! jdk/internal/util/Preconditions: cards, decoded instructions, links -/
def kPr_checkIndex : pmK := (⟨"jdk/internal/util/Preconditions", "checkIndex", "(IILjava/util/function/BiFunction;)I"⟩, prog_29_method_11_code, 3, (some .int))
def kPr_checkFromToIndex : pmK := (⟨"jdk/internal/util/Preconditions", "checkFromToIndex", "(IIILjava/util/function/BiFunction;)I"⟩, prog_29_method_12_code, 4, (some .int))
theorem dPr_checkIndex_0 : decode kPr_checkIndex.2.1 0 = .ok (.iload_n 0, 1) := by decide +kernel
theorem dPr_checkIndex_1 : decode kPr_checkIndex.2.1 1 = .ok (.ifCond .lt 8, 3) := by decide +kernel
theorem dPr_checkIndex_4 : decode kPr_checkIndex.2.1 4 = .ok (.iload_n 0, 1) := by decide +kernel
theorem dPr_checkIndex_5 : decode kPr_checkIndex.2.1 5 = .ok (.iload_n 1, 1) := by decide +kernel
theorem dPr_checkIndex_6 : decode kPr_checkIndex.2.1 6 = .ok (.if_icmp .lt 10, 3) := by decide +kernel
theorem dPr_checkIndex_9 : decode kPr_checkIndex.2.1 9 = .ok (.aload_n 2, 1) := by decide +kernel
theorem dPr_checkIndex_10 : decode kPr_checkIndex.2.1 10 = .ok (.iload_n 0, 1) := by decide +kernel
theorem dPr_checkIndex_11 : decode kPr_checkIndex.2.1 11 = .ok (.iload_n 1, 1) := by decide +kernel
theorem dPr_checkIndex_12 : decode kPr_checkIndex.2.1 12 = .ok (.invokestatic 95, 3) := by decide +kernel
theorem dPr_checkIndex_15 : decode kPr_checkIndex.2.1 15 = .ok (.athrow, 1) := by decide +kernel
theorem dPr_checkIndex_16 : decode kPr_checkIndex.2.1 16 = .ok (.iload_n 0, 1) := by decide +kernel
theorem dPr_checkIndex_17 : decode kPr_checkIndex.2.1 17 = .ok (.ireturn, 1) := by decide +kernel
theorem dPr_checkFromToIndex_0 : decode kPr_checkFromToIndex.2.1 0 = .ok (.iload_n 0, 1) := by decide +kernel
theorem dPr_checkFromToIndex_1 : decode kPr_checkFromToIndex.2.1 1 = .ok (.ifCond .lt 13, 3) := by decide +kernel
theorem dPr_checkFromToIndex_4 : decode kPr_checkFromToIndex.2.1 4 = .ok (.iload_n 0, 1) := by decide +kernel
theorem dPr_checkFromToIndex_5 : decode kPr_checkFromToIndex.2.1 5 = .ok (.iload_n 1, 1) := by decide +kernel
theorem dPr_checkFromToIndex_6 : decode kPr_checkFromToIndex.2.1 6 = .ok (.if_icmp .gt 8, 3) := by decide +kernel
theorem dPr_checkFromToIndex_9 : decode kPr_checkFromToIndex.2.1 9 = .ok (.iload_n 1, 1) := by decide +kernel
theorem dPr_checkFromToIndex_10 : decode kPr_checkFromToIndex.2.1 10 = .ok (.iload_n 2, 1) := by decide +kernel
theorem dPr_checkFromToIndex_11 : decode kPr_checkFromToIndex.2.1 11 = .ok (.if_icmp .le 11, 3) := by decide +kernel
theorem dPr_checkFromToIndex_14 : decode kPr_checkFromToIndex.2.1 14 = .ok (.aload_n 3, 1) := by decide +kernel
theorem dPr_checkFromToIndex_15 : decode kPr_checkFromToIndex.2.1 15 = .ok (.iload_n 0, 1) := by decide +kernel
theorem dPr_checkFromToIndex_16 : decode kPr_checkFromToIndex.2.1 16 = .ok (.iload_n 1, 1) := by decide +kernel
theorem dPr_checkFromToIndex_17 : decode kPr_checkFromToIndex.2.1 17 = .ok (.iload_n 2, 1) := by decide +kernel
theorem dPr_checkFromToIndex_18 : decode kPr_checkFromToIndex.2.1 18 = .ok (.invokestatic 99, 3) := by decide +kernel
theorem dPr_checkFromToIndex_21 : decode kPr_checkFromToIndex.2.1 21 = .ok (.athrow, 1) := by decide +kernel
theorem dPr_checkFromToIndex_22 : decode kPr_checkFromToIndex.2.1 22 = .ok (.iload_n 0, 1) := by decide +kernel
theorem dPr_checkFromToIndex_23 : decode kPr_checkFromToIndex.2.1 23 = .ok (.ireturn, 1) := by decide +kernel
theorem wPr_checkIndex : Cond.code kPr_checkIndex.1 kPr_checkIndex.2.1 kPr_checkIndex.2.2.1 kPr_checkIndex.2.2.2 ∈ pm_TS := pm_in 690 (by decide +kernel) rfl
theorem tPr_checkIndex : Cond.static kPr_checkIndex.1 ∈ pm_TS := pm_in 689 (by decide +kernel) rfl
theorem wPr_checkFromToIndex : Cond.code kPr_checkFromToIndex.1 kPr_checkFromToIndex.2.1 kPr_checkFromToIndex.2.2.1 kPr_checkFromToIndex.2.2.2 ∈ pm_TS := pm_in 769 (by decide +kernel) rfl
theorem tPr_checkFromToIndex : Cond.static kPr_checkFromToIndex.1 ∈ pm_TS := pm_in 768 (by decide +kernel) rfl
/-! java/lang/Math: cards, decoded instructions, links -/
def kMt_max : pmK := (⟨"java/lang/Math", "max", "(II)I"⟩, prog_20_method_65_code, 2, (some .int))
def kMt_min : pmK := (⟨"java/lang/Math", "min", "(II)I"⟩, prog_20_method_69_code, 2, (some .int))
theorem dMt_max_0 : decode kMt_max.2.1 0 = .ok (.iload_n 0, 1) := by decide +kernel
theorem dMt_max_1 : decode kMt_max.2.1 1 = .ok (.iload_n 1, 1) := by decide +kernel
theorem dMt_max_2 : decode kMt_max.2.1 2 = .ok (.if_icmp .lt 7, 3) := by decide +kernel
theorem dMt_max_5 : decode kMt_max.2.1 5 = .ok (.iload_n 0, 1) := by decide +kernel
theorem dMt_max_6 : decode kMt_max.2.1 6 = .ok (.goto 4, 3) := by decide +kernel
theorem dMt_max_9 : decode kMt_max.2.1 9 = .ok (.iload_n 1, 1) := by decide +kernel
theorem dMt_max_10 : decode kMt_max.2.1 10 = .ok (.ireturn, 1) := by decide +kernel
theorem dMt_min_0 : decode kMt_min.2.1 0 = .ok (.iload_n 0, 1) := by decide +kernel
theorem dMt_min_1 : decode kMt_min.2.1 1 = .ok (.iload_n 1, 1) := by decide +kernel
theorem dMt_min_2 : decode kMt_min.2.1 2 = .ok (.if_icmp .gt 7, 3) := by decide +kernel
theorem dMt_min_5 : decode kMt_min.2.1 5 = .ok (.iload_n 0, 1) := by decide +kernel
theorem dMt_min_6 : decode kMt_min.2.1 6 = .ok (.goto 4, 3) := by decide +kernel
theorem dMt_min_9 : decode kMt_min.2.1 9 = .ok (.iload_n 1, 1) := by decide +kernel
theorem dMt_min_10 : decode kMt_min.2.1 10 = .ok (.ireturn, 1) := by decide +kernel
theorem wMt_max : Cond.code kMt_max.1 kMt_max.2.1 kMt_max.2.2.1 kMt_max.2.2.2 ∈ pm_TS := pm_in 745 (by decide +kernel) rfl
theorem tMt_max : Cond.static kMt_max.1 ∈ pm_TS := pm_in 744 (by decide +kernel) rfl
theorem wMt_min : Cond.code kMt_min.1 kMt_min.2.1 kMt_min.2.2.1 kMt_min.2.2.2 ∈ pm_TS := pm_in 748 (by decide +kernel) rfl
theorem tMt_min : Cond.static kMt_min.1 ∈ pm_TS := pm_in 747 (by decide +kernel) rfl
theorem lSg_335 : pm_Lk "java/lang/String" 335 kSg_coder 0 := ⟨wSg_coder, pm_in 20 (by decide +kernel) rfl, ⟨by decide +kernel, by decide +kernel, by decide +kernel⟩, by decide, Or.inl (pm_in 666 (by decide +kernel) rfl)⟩
theorem lSg_492 : pm_Lk "java/lang/String" 492 kSg_isLatin1 0 := ⟨wSg_isLatin1, pm_in 20 (by decide +kernel) rfl, ⟨by decide +kernel, by decide +kernel, by decide +kernel⟩, by decide, Or.inl (pm_in 676 (by decide +kernel) rfl)⟩
theorem lSg_495 : pm_Lk "java/lang/String" 495 kSl_charAt 2 := ⟨wSl_charAt, pm_in 21 (by decide +kernel) rfl, ⟨by decide +kernel, by decide +kernel, by decide +kernel⟩, by decide, Or.inl (pm_in 680 (by decide +kernel) rfl)⟩
theorem lSg_505 : pm_Lk "java/lang/String" 505 kSg_length 0 := ⟨wSg_length, pm_in 20 (by decide +kernel) rfl, ⟨by decide +kernel, by decide +kernel, by decide +kernel⟩, by decide, Or.inl (pm_in 736 (by decide +kernel) rfl)⟩
theorem lSg_633 : pm_Lk "java/lang/String" 633 kSg_indexOf2 2 := ⟨wSg_indexOf2, pm_in 20 (by decide +kernel) rfl, ⟨by decide +kernel, by decide +kernel, by decide +kernel⟩, by decide, Or.inl (pm_in 732 (by decide +kernel) rfl)⟩
theorem lSg_637 : pm_Lk "java/lang/String" 637 kSl_indexOf 4 := ⟨wSl_indexOf, pm_in 21 (by decide +kernel) rfl, ⟨by decide +kernel, by decide +kernel, by decide +kernel⟩, by decide, Or.inl (pm_in 737 (by decide +kernel) rfl)⟩
theorem lSg_1059 : pm_Lk "java/lang/String" 1059 kPr_checkIndex 3 := ⟨wPr_checkIndex, pm_in 22 (by decide +kernel) rfl, ⟨by decide +kernel, by decide +kernel, by decide +kernel⟩, by decide, Or.inl (pm_in 688 (by decide +kernel) rfl)⟩
theorem lSg_1062 : pm_Lk "java/lang/String" 1062 kPr_checkFromToIndex 4 := ⟨wPr_checkFromToIndex, pm_in 22 (by decide +kernel) rfl, ⟨by decide +kernel, by decide +kernel, by decide +kernel⟩, by decide, Or.inl (pm_in 767 (by decide +kernel) rfl)⟩
theorem lSl_9 : pm_Lk "java/lang/StringLatin1" 9 kSg_checkIndex 2 := ⟨wSg_checkIndex, pm_in 20 (by decide +kernel) rfl, ⟨by decide +kernel, by decide +kernel, by decide +kernel⟩, by decide, Or.inl (pm_in 683 (by decide +kernel) rfl)⟩
theorem lSl_38 : pm_Lk "java/lang/StringLatin1" 38 kMt_min 2 := ⟨wMt_min, pm_in 24 (by decide +kernel) rfl, ⟨by decide +kernel, by decide +kernel, by decide +kernel⟩, by decide, Or.inl (pm_in 746 (by decide +kernel) rfl)⟩
theorem lSl_88 : pm_Lk "java/lang/StringLatin1" 88 kSl_canEncode 1 := ⟨wSl_canEncode, pm_in 21 (by decide +kernel) rfl, ⟨by decide +kernel, by decide +kernel, by decide +kernel⟩, by decide, Or.inl (pm_in 740 (by decide +kernel) rfl)⟩
theorem lSl_92 : pm_Lk "java/lang/StringLatin1" 92 kMt_max 2 := ⟨wMt_max, pm_in 24 (by decide +kernel) rfl, ⟨by decide +kernel, by decide +kernel, by decide +kernel⟩, by decide, Or.inl (pm_in 743 (by decide +kernel) rfl)⟩
theorem lSl_95 : pm_Lk "java/lang/StringLatin1" 95 kSl_indexOfChar 4 := ⟨wSl_indexOfChar, pm_in 21 (by decide +kernel) rfl, ⟨by decide +kernel, by decide +kernel, by decide +kernel⟩, by decide, Or.inl (pm_in 749 (by decide +kernel) rfl)⟩
-- no method link 95
-- no method link 99

theorem lTk_77 : pm_Lk "CircuitChecker$Tokens" 77 kSg_length 0 := ⟨wSg_length, pm_in 20 (by decide +kernel) rfl, ⟨by decide +kernel, by decide +kernel, by decide +kernel⟩, by decide, Or.inl (pm_in 662 (by decide +kernel) rfl)⟩
theorem lTk_81 : pm_Lk "CircuitChecker$Tokens" 81 kSg_charAt 1 := ⟨wSg_charAt, pm_in 20 (by decide +kernel) rfl, ⟨by decide +kernel, by decide +kernel, by decide +kernel⟩, by decide, Or.inl (pm_in 672 (by decide +kernel) rfl)⟩
theorem lTk_87 : pm_Lk "CircuitChecker$Tokens" 87 kSg_indexOf 1 := ⟨wSg_indexOf, pm_in 20 (by decide +kernel) rfl, ⟨by decide +kernel, by decide +kernel, by decide +kernel⟩, by decide, Or.inl (pm_in 728 (by decide +kernel) rfl)⟩
