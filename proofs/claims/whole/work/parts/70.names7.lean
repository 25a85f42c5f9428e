/-! CircuitCheckerLaw: cards, decoded instructions, links -/
def kLw_feed : pmK := (⟨"CircuitCheckerLaw", "feed", "(LCircuitChecker;IIIII[J)I"⟩, method_3_code, 8, (some .int))
def kLw_end : pmK := (⟨"CircuitCheckerLaw", "end", "(LCircuitChecker;I[J)I"⟩, method_4_code, 4, (some .int))
def kLw_holds : pmK := (⟨"CircuitCheckerLaw", "holds", "(LCircuitChecker;I[J)I"⟩, method_5_code, 4, (some .int))
def kLw_states : pmK := (⟨"CircuitCheckerLaw", "states", "(LCircuitChecker;I[J)I"⟩, method_6_code, 4, (some .int))
def kLw_at : pmK := (⟨"CircuitCheckerLaw", "at", "(LCircuitChecker;II[J)I"⟩, method_7_code, 5, (some .int))
def kLw_trace : pmK := (⟨"CircuitCheckerLaw", "trace", "(LCircuitChecker;I[J)I"⟩, method_8_code, 4, (some .int))
def kLw_step : pmK := (⟨"CircuitCheckerLaw", "step", "(LCircuitChecker;II[J)I"⟩, method_9_code, 5, (some .int))
def kLw_tick : pmK := (⟨"CircuitCheckerLaw", "tick", "(LCircuitChecker;I[J)I"⟩, method_10_code, 4, (some .int))
def kLw_go : pmK := (⟨"CircuitCheckerLaw", "go", "(LCircuitChecker;I[J)I"⟩, method_11_code, 4, (some .int))
def kLw_value : pmK := (⟨"CircuitCheckerLaw", "value", "(LCircuitChecker;II[J)I"⟩, method_12_code, 5, (some .int))
theorem dLw_feed_0 : decode kLw_feed.2.1 0 = .ok (.aload 6, 2) := by decide +kernel
theorem dLw_feed_2 : decode kLw_feed.2.1 2 = .ok (.iconst 0, 1) := by decide +kernel
theorem dLw_feed_3 : decode kLw_feed.2.1 3 = .ok (.aload_n 0, 1) := by decide +kernel
theorem dLw_feed_4 : decode kLw_feed.2.1 4 = .ok (.iload_n 1, 1) := by decide +kernel
theorem dLw_feed_5 : decode kLw_feed.2.1 5 = .ok (.iload_n 2, 1) := by decide +kernel
theorem dLw_feed_6 : decode kLw_feed.2.1 6 = .ok (.iload_n 3, 1) := by decide +kernel
theorem dLw_feed_7 : decode kLw_feed.2.1 7 = .ok (.iload 4, 2) := by decide +kernel
theorem dLw_feed_9 : decode kLw_feed.2.1 9 = .ok (.iload 5, 2) := by decide +kernel
theorem dLw_feed_11 : decode kLw_feed.2.1 11 = .ok (.invokevirtual 7, 3) := by decide +kernel
theorem dLw_feed_14 : decode kLw_feed.2.1 14 = .ok (.i2l, 1) := by decide +kernel
theorem dLw_feed_15 : decode kLw_feed.2.1 15 = .ok (.lastore, 1) := by decide +kernel
theorem dLw_feed_16 : decode kLw_feed.2.1 16 = .ok (.goto 7, 3) := by decide +kernel
theorem dLw_feed_19 : decode kLw_feed.2.1 19 = .ok (.astore 7, 2) := by decide +kernel
theorem dLw_feed_21 : decode kLw_feed.2.1 21 = .ok (.iconst 1, 1) := by decide +kernel
theorem dLw_feed_22 : decode kLw_feed.2.1 22 = .ok (.ireturn, 1) := by decide +kernel
theorem dLw_feed_23 : decode kLw_feed.2.1 23 = .ok (.iconst 0, 1) := by decide +kernel
theorem dLw_feed_24 : decode kLw_feed.2.1 24 = .ok (.ireturn, 1) := by decide +kernel
theorem dLw_end_0 : decode kLw_end.2.1 0 = .ok (.aload_n 2, 1) := by decide +kernel
theorem dLw_end_1 : decode kLw_end.2.1 1 = .ok (.iconst 0, 1) := by decide +kernel
theorem dLw_end_2 : decode kLw_end.2.1 2 = .ok (.aload_n 0, 1) := by decide +kernel
theorem dLw_end_3 : decode kLw_end.2.1 3 = .ok (.iload_n 1, 1) := by decide +kernel
theorem dLw_end_4 : decode kLw_end.2.1 4 = .ok (.invokevirtual 15, 3) := by decide +kernel
theorem dLw_end_7 : decode kLw_end.2.1 7 = .ok (.i2l, 1) := by decide +kernel
theorem dLw_end_8 : decode kLw_end.2.1 8 = .ok (.lastore, 1) := by decide +kernel
theorem dLw_end_9 : decode kLw_end.2.1 9 = .ok (.goto 6, 3) := by decide +kernel
theorem dLw_end_12 : decode kLw_end.2.1 12 = .ok (.astore_n 3, 1) := by decide +kernel
theorem dLw_end_13 : decode kLw_end.2.1 13 = .ok (.iconst 1, 1) := by decide +kernel
theorem dLw_end_14 : decode kLw_end.2.1 14 = .ok (.ireturn, 1) := by decide +kernel
theorem dLw_end_15 : decode kLw_end.2.1 15 = .ok (.iconst 0, 1) := by decide +kernel
theorem dLw_end_16 : decode kLw_end.2.1 16 = .ok (.ireturn, 1) := by decide +kernel
theorem dLw_holds_0 : decode kLw_holds.2.1 0 = .ok (.aload_n 2, 1) := by decide +kernel
theorem dLw_holds_1 : decode kLw_holds.2.1 1 = .ok (.iconst 0, 1) := by decide +kernel
theorem dLw_holds_2 : decode kLw_holds.2.1 2 = .ok (.aload_n 0, 1) := by decide +kernel
theorem dLw_holds_3 : decode kLw_holds.2.1 3 = .ok (.iload_n 1, 1) := by decide +kernel
theorem dLw_holds_4 : decode kLw_holds.2.1 4 = .ok (.invokevirtual 21, 3) := by decide +kernel
theorem dLw_holds_7 : decode kLw_holds.2.1 7 = .ok (.ifCond .eq 7, 3) := by decide +kernel
theorem dLw_holds_10 : decode kLw_holds.2.1 10 = .ok (.lconst 1, 1) := by decide +kernel
theorem dLw_holds_11 : decode kLw_holds.2.1 11 = .ok (.goto 4, 3) := by decide +kernel
theorem dLw_holds_14 : decode kLw_holds.2.1 14 = .ok (.lconst 0, 1) := by decide +kernel
theorem dLw_holds_15 : decode kLw_holds.2.1 15 = .ok (.lastore, 1) := by decide +kernel
theorem dLw_holds_16 : decode kLw_holds.2.1 16 = .ok (.goto 6, 3) := by decide +kernel
theorem dLw_holds_19 : decode kLw_holds.2.1 19 = .ok (.astore_n 3, 1) := by decide +kernel
theorem dLw_holds_20 : decode kLw_holds.2.1 20 = .ok (.iconst 1, 1) := by decide +kernel
theorem dLw_holds_21 : decode kLw_holds.2.1 21 = .ok (.ireturn, 1) := by decide +kernel
theorem dLw_holds_22 : decode kLw_holds.2.1 22 = .ok (.iconst 0, 1) := by decide +kernel
theorem dLw_holds_23 : decode kLw_holds.2.1 23 = .ok (.ireturn, 1) := by decide +kernel
theorem dLw_states_0 : decode kLw_states.2.1 0 = .ok (.aload_n 2, 1) := by decide +kernel
theorem dLw_states_1 : decode kLw_states.2.1 1 = .ok (.iconst 0, 1) := by decide +kernel
theorem dLw_states_2 : decode kLw_states.2.1 2 = .ok (.aload_n 0, 1) := by decide +kernel
theorem dLw_states_3 : decode kLw_states.2.1 3 = .ok (.iload_n 1, 1) := by decide +kernel
theorem dLw_states_4 : decode kLw_states.2.1 4 = .ok (.invokevirtual 27, 3) := by decide +kernel
theorem dLw_states_7 : decode kLw_states.2.1 7 = .ok (.i2l, 1) := by decide +kernel
theorem dLw_states_8 : decode kLw_states.2.1 8 = .ok (.lastore, 1) := by decide +kernel
theorem dLw_states_9 : decode kLw_states.2.1 9 = .ok (.goto 6, 3) := by decide +kernel
theorem dLw_states_12 : decode kLw_states.2.1 12 = .ok (.astore_n 3, 1) := by decide +kernel
theorem dLw_states_13 : decode kLw_states.2.1 13 = .ok (.iconst 1, 1) := by decide +kernel
theorem dLw_states_14 : decode kLw_states.2.1 14 = .ok (.ireturn, 1) := by decide +kernel
theorem dLw_states_15 : decode kLw_states.2.1 15 = .ok (.iconst 0, 1) := by decide +kernel
theorem dLw_states_16 : decode kLw_states.2.1 16 = .ok (.ireturn, 1) := by decide +kernel
theorem dLw_at_0 : decode kLw_at.2.1 0 = .ok (.aload_n 3, 1) := by decide +kernel
theorem dLw_at_1 : decode kLw_at.2.1 1 = .ok (.iconst 0, 1) := by decide +kernel
theorem dLw_at_2 : decode kLw_at.2.1 2 = .ok (.aload_n 0, 1) := by decide +kernel
theorem dLw_at_3 : decode kLw_at.2.1 3 = .ok (.iload_n 1, 1) := by decide +kernel
theorem dLw_at_4 : decode kLw_at.2.1 4 = .ok (.iload_n 2, 1) := by decide +kernel
theorem dLw_at_5 : decode kLw_at.2.1 5 = .ok (.invokevirtual 30, 3) := by decide +kernel
theorem dLw_at_8 : decode kLw_at.2.1 8 = .ok (.ifCond .eq 7, 3) := by decide +kernel
theorem dLw_at_11 : decode kLw_at.2.1 11 = .ok (.lconst 1, 1) := by decide +kernel
theorem dLw_at_12 : decode kLw_at.2.1 12 = .ok (.goto 4, 3) := by decide +kernel
theorem dLw_at_15 : decode kLw_at.2.1 15 = .ok (.lconst 0, 1) := by decide +kernel
theorem dLw_at_16 : decode kLw_at.2.1 16 = .ok (.lastore, 1) := by decide +kernel
theorem dLw_at_17 : decode kLw_at.2.1 17 = .ok (.goto 7, 3) := by decide +kernel
theorem dLw_at_20 : decode kLw_at.2.1 20 = .ok (.astore 4, 2) := by decide +kernel
theorem dLw_at_22 : decode kLw_at.2.1 22 = .ok (.iconst 1, 1) := by decide +kernel
theorem dLw_at_23 : decode kLw_at.2.1 23 = .ok (.ireturn, 1) := by decide +kernel
theorem dLw_at_24 : decode kLw_at.2.1 24 = .ok (.iconst 0, 1) := by decide +kernel
theorem dLw_at_25 : decode kLw_at.2.1 25 = .ok (.ireturn, 1) := by decide +kernel
theorem dLw_trace_0 : decode kLw_trace.2.1 0 = .ok (.aload_n 2, 1) := by decide +kernel
theorem dLw_trace_1 : decode kLw_trace.2.1 1 = .ok (.iconst 0, 1) := by decide +kernel
theorem dLw_trace_2 : decode kLw_trace.2.1 2 = .ok (.aload_n 0, 1) := by decide +kernel
theorem dLw_trace_3 : decode kLw_trace.2.1 3 = .ok (.iload_n 1, 1) := by decide +kernel
theorem dLw_trace_4 : decode kLw_trace.2.1 4 = .ok (.invokevirtual 34, 3) := by decide +kernel
theorem dLw_trace_7 : decode kLw_trace.2.1 7 = .ok (.i2l, 1) := by decide +kernel
theorem dLw_trace_8 : decode kLw_trace.2.1 8 = .ok (.lastore, 1) := by decide +kernel
theorem dLw_trace_9 : decode kLw_trace.2.1 9 = .ok (.goto 6, 3) := by decide +kernel
theorem dLw_trace_12 : decode kLw_trace.2.1 12 = .ok (.astore_n 3, 1) := by decide +kernel
theorem dLw_trace_13 : decode kLw_trace.2.1 13 = .ok (.iconst 1, 1) := by decide +kernel
theorem dLw_trace_14 : decode kLw_trace.2.1 14 = .ok (.ireturn, 1) := by decide +kernel
theorem dLw_trace_15 : decode kLw_trace.2.1 15 = .ok (.iconst 0, 1) := by decide +kernel
theorem dLw_trace_16 : decode kLw_trace.2.1 16 = .ok (.ireturn, 1) := by decide +kernel
theorem dLw_step_0 : decode kLw_step.2.1 0 = .ok (.aload_n 3, 1) := by decide +kernel
theorem dLw_step_1 : decode kLw_step.2.1 1 = .ok (.iconst 0, 1) := by decide +kernel
theorem dLw_step_2 : decode kLw_step.2.1 2 = .ok (.aload_n 0, 1) := by decide +kernel
theorem dLw_step_3 : decode kLw_step.2.1 3 = .ok (.iload_n 1, 1) := by decide +kernel
theorem dLw_step_4 : decode kLw_step.2.1 4 = .ok (.iload_n 2, 1) := by decide +kernel
theorem dLw_step_5 : decode kLw_step.2.1 5 = .ok (.invokevirtual 37, 3) := by decide +kernel
theorem dLw_step_8 : decode kLw_step.2.1 8 = .ok (.i2l, 1) := by decide +kernel
theorem dLw_step_9 : decode kLw_step.2.1 9 = .ok (.lastore, 1) := by decide +kernel
theorem dLw_step_10 : decode kLw_step.2.1 10 = .ok (.goto 11, 3) := by decide +kernel
theorem dLw_step_13 : decode kLw_step.2.1 13 = .ok (.astore 4, 2) := by decide +kernel
theorem dLw_step_15 : decode kLw_step.2.1 15 = .ok (.iconst 1, 1) := by decide +kernel
theorem dLw_step_16 : decode kLw_step.2.1 16 = .ok (.ireturn, 1) := by decide +kernel
theorem dLw_step_17 : decode kLw_step.2.1 17 = .ok (.astore 4, 2) := by decide +kernel
theorem dLw_step_19 : decode kLw_step.2.1 19 = .ok (.iconst 2, 1) := by decide +kernel
theorem dLw_step_20 : decode kLw_step.2.1 20 = .ok (.ireturn, 1) := by decide +kernel
theorem dLw_step_21 : decode kLw_step.2.1 21 = .ok (.iconst 0, 1) := by decide +kernel
theorem dLw_step_22 : decode kLw_step.2.1 22 = .ok (.ireturn, 1) := by decide +kernel
theorem dLw_tick_0 : decode kLw_tick.2.1 0 = .ok (.aload_n 2, 1) := by decide +kernel
theorem dLw_tick_1 : decode kLw_tick.2.1 1 = .ok (.iconst 0, 1) := by decide +kernel
theorem dLw_tick_2 : decode kLw_tick.2.1 2 = .ok (.aload_n 0, 1) := by decide +kernel
theorem dLw_tick_3 : decode kLw_tick.2.1 3 = .ok (.iload_n 1, 1) := by decide +kernel
theorem dLw_tick_4 : decode kLw_tick.2.1 4 = .ok (.invokevirtual 41, 3) := by decide +kernel
theorem dLw_tick_7 : decode kLw_tick.2.1 7 = .ok (.i2l, 1) := by decide +kernel
theorem dLw_tick_8 : decode kLw_tick.2.1 8 = .ok (.lastore, 1) := by decide +kernel
theorem dLw_tick_9 : decode kLw_tick.2.1 9 = .ok (.goto 6, 3) := by decide +kernel
theorem dLw_tick_12 : decode kLw_tick.2.1 12 = .ok (.astore_n 3, 1) := by decide +kernel
theorem dLw_tick_13 : decode kLw_tick.2.1 13 = .ok (.iconst 1, 1) := by decide +kernel
theorem dLw_tick_14 : decode kLw_tick.2.1 14 = .ok (.ireturn, 1) := by decide +kernel
theorem dLw_tick_15 : decode kLw_tick.2.1 15 = .ok (.iconst 0, 1) := by decide +kernel
theorem dLw_tick_16 : decode kLw_tick.2.1 16 = .ok (.ireturn, 1) := by decide +kernel
theorem dLw_go_0 : decode kLw_go.2.1 0 = .ok (.aload_n 2, 1) := by decide +kernel
theorem dLw_go_1 : decode kLw_go.2.1 1 = .ok (.iconst 0, 1) := by decide +kernel
theorem dLw_go_2 : decode kLw_go.2.1 2 = .ok (.aload_n 0, 1) := by decide +kernel
theorem dLw_go_3 : decode kLw_go.2.1 3 = .ok (.iload_n 1, 1) := by decide +kernel
theorem dLw_go_4 : decode kLw_go.2.1 4 = .ok (.invokevirtual 44, 3) := by decide +kernel
theorem dLw_go_7 : decode kLw_go.2.1 7 = .ok (.i2l, 1) := by decide +kernel
theorem dLw_go_8 : decode kLw_go.2.1 8 = .ok (.lastore, 1) := by decide +kernel
theorem dLw_go_9 : decode kLw_go.2.1 9 = .ok (.goto 6, 3) := by decide +kernel
theorem dLw_go_12 : decode kLw_go.2.1 12 = .ok (.astore_n 3, 1) := by decide +kernel
theorem dLw_go_13 : decode kLw_go.2.1 13 = .ok (.iconst 1, 1) := by decide +kernel
theorem dLw_go_14 : decode kLw_go.2.1 14 = .ok (.ireturn, 1) := by decide +kernel
theorem dLw_go_15 : decode kLw_go.2.1 15 = .ok (.iconst 0, 1) := by decide +kernel
theorem dLw_go_16 : decode kLw_go.2.1 16 = .ok (.ireturn, 1) := by decide +kernel
theorem dLw_value_0 : decode kLw_value.2.1 0 = .ok (.aload_n 3, 1) := by decide +kernel
theorem dLw_value_1 : decode kLw_value.2.1 1 = .ok (.iconst 0, 1) := by decide +kernel
theorem dLw_value_2 : decode kLw_value.2.1 2 = .ok (.aload_n 0, 1) := by decide +kernel
theorem dLw_value_3 : decode kLw_value.2.1 3 = .ok (.iload_n 1, 1) := by decide +kernel
theorem dLw_value_4 : decode kLw_value.2.1 4 = .ok (.iload_n 2, 1) := by decide +kernel
theorem dLw_value_5 : decode kLw_value.2.1 5 = .ok (.invokevirtual 47, 3) := by decide +kernel
theorem dLw_value_8 : decode kLw_value.2.1 8 = .ok (.i2l, 1) := by decide +kernel
theorem dLw_value_9 : decode kLw_value.2.1 9 = .ok (.lastore, 1) := by decide +kernel
theorem dLw_value_10 : decode kLw_value.2.1 10 = .ok (.goto 11, 3) := by decide +kernel
theorem dLw_value_13 : decode kLw_value.2.1 13 = .ok (.astore 4, 2) := by decide +kernel
theorem dLw_value_15 : decode kLw_value.2.1 15 = .ok (.iconst 1, 1) := by decide +kernel
theorem dLw_value_16 : decode kLw_value.2.1 16 = .ok (.ireturn, 1) := by decide +kernel
theorem dLw_value_17 : decode kLw_value.2.1 17 = .ok (.astore 4, 2) := by decide +kernel
theorem dLw_value_19 : decode kLw_value.2.1 19 = .ok (.iconst 2, 1) := by decide +kernel
theorem dLw_value_20 : decode kLw_value.2.1 20 = .ok (.ireturn, 1) := by decide +kernel
theorem dLw_value_21 : decode kLw_value.2.1 21 = .ok (.iconst 0, 1) := by decide +kernel
theorem dLw_value_22 : decode kLw_value.2.1 22 = .ok (.ireturn, 1) := by decide +kernel

def kLw_law : pmK := (⟨"CircuitCheckerLaw", "law", "([I)Z"⟩, code, 7, some .boolean)
theorem dLw_law_0 : decode kLw_law.2.1 0 = .ok (.new 8, 3) := by decide +kernel
theorem dLw_law_3 : decode kLw_law.2.1 3 = .ok (.dup, 1) := by decide +kernel
theorem dLw_law_4 : decode kLw_law.2.1 4 = .ok (.invokespecial 50, 3) := by decide +kernel
theorem dLw_law_7 : decode kLw_law.2.1 7 = .ok (.astore_n 1, 1) := by decide +kernel
theorem dLw_law_8 : decode kLw_law.2.1 8 = .ok (.new 51, 3) := by decide +kernel
theorem dLw_law_11 : decode kLw_law.2.1 11 = .ok (.dup, 1) := by decide +kernel
theorem dLw_law_12 : decode kLw_law.2.1 12 = .ok (.invokespecial 53, 3) := by decide +kernel
theorem dLw_law_15 : decode kLw_law.2.1 15 = .ok (.astore_n 2, 1) := by decide +kernel
theorem dLw_law_16 : decode kLw_law.2.1 16 = .ok (.iconst 1, 1) := by decide +kernel
theorem dLw_law_17 : decode kLw_law.2.1 17 = .ok (.newarray .long, 2) := by decide +kernel
theorem dLw_law_19 : decode kLw_law.2.1 19 = .ok (.astore_n 3, 1) := by decide +kernel
theorem dLw_law_20 : decode kLw_law.2.1 20 = .ok (.iconst 0, 1) := by decide +kernel
theorem dLw_law_21 : decode kLw_law.2.1 21 = .ok (.istore 4, 2) := by decide +kernel
theorem dLw_law_23 : decode kLw_law.2.1 23 = .ok (.iload 4, 2) := by decide +kernel
theorem dLw_law_25 : decode kLw_law.2.1 25 = .ok (.aload_n 0, 1) := by decide +kernel
theorem dLw_law_26 : decode kLw_law.2.1 26 = .ok (.arraylength, 1) := by decide +kernel
theorem dLw_law_27 : decode kLw_law.2.1 27 = .ok (.bipush 6, 2) := by decide +kernel
theorem dLw_law_29 : decode kLw_law.2.1 29 = .ok (.isub, 1) := by decide +kernel
theorem dLw_law_30 : decode kLw_law.2.1 30 = .ok (.if_icmp .gt 822, 3) := by decide +kernel
theorem dLw_law_33 : decode kLw_law.2.1 33 = .ok (.aload_n 0, 1) := by decide +kernel
theorem dLw_law_34 : decode kLw_law.2.1 34 = .ok (.iload 4, 2) := by decide +kernel
theorem dLw_law_36 : decode kLw_law.2.1 36 = .ok (.iaload, 1) := by decide +kernel
theorem dLw_law_37 : decode kLw_law.2.1 37 = .ok (.bipush 15, 2) := by decide +kernel
theorem dLw_law_39 : decode kLw_law.2.1 39 = .ok (.iand, 1) := by decide +kernel
theorem dLw_law_40 : decode kLw_law.2.1 40 = .ok (.tableswitch 806 0 13 #[72, 176, 232, 245, 270, 333, 389, 464, 477, 533, 601, 657, 713, 781], 72) := by decide +kernel
theorem dLw_law_112 : decode kLw_law.2.1 112 = .ok (.aload_n 1, 1) := by decide +kernel
theorem dLw_law_113 : decode kLw_law.2.1 113 = .ok (.aload_n 0, 1) := by decide +kernel
theorem dLw_law_114 : decode kLw_law.2.1 114 = .ok (.iload 4, 2) := by decide +kernel
theorem dLw_law_116 : decode kLw_law.2.1 116 = .ok (.iconst 1, 1) := by decide +kernel
theorem dLw_law_117 : decode kLw_law.2.1 117 = .ok (.iadd, 1) := by decide +kernel
theorem dLw_law_118 : decode kLw_law.2.1 118 = .ok (.iaload, 1) := by decide +kernel
theorem dLw_law_119 : decode kLw_law.2.1 119 = .ok (.aload_n 0, 1) := by decide +kernel
theorem dLw_law_120 : decode kLw_law.2.1 120 = .ok (.iload 4, 2) := by decide +kernel
theorem dLw_law_122 : decode kLw_law.2.1 122 = .ok (.iconst 2, 1) := by decide +kernel
theorem dLw_law_123 : decode kLw_law.2.1 123 = .ok (.iadd, 1) := by decide +kernel
theorem dLw_law_124 : decode kLw_law.2.1 124 = .ok (.iaload, 1) := by decide +kernel
theorem dLw_law_125 : decode kLw_law.2.1 125 = .ok (.aload_n 0, 1) := by decide +kernel
theorem dLw_law_126 : decode kLw_law.2.1 126 = .ok (.iload 4, 2) := by decide +kernel
theorem dLw_law_128 : decode kLw_law.2.1 128 = .ok (.iconst 3, 1) := by decide +kernel
theorem dLw_law_129 : decode kLw_law.2.1 129 = .ok (.iadd, 1) := by decide +kernel
theorem dLw_law_130 : decode kLw_law.2.1 130 = .ok (.iaload, 1) := by decide +kernel
theorem dLw_law_131 : decode kLw_law.2.1 131 = .ok (.aload_n 0, 1) := by decide +kernel
theorem dLw_law_132 : decode kLw_law.2.1 132 = .ok (.iload 4, 2) := by decide +kernel
theorem dLw_law_134 : decode kLw_law.2.1 134 = .ok (.iconst 4, 1) := by decide +kernel
theorem dLw_law_135 : decode kLw_law.2.1 135 = .ok (.iadd, 1) := by decide +kernel
theorem dLw_law_136 : decode kLw_law.2.1 136 = .ok (.iaload, 1) := by decide +kernel
theorem dLw_law_137 : decode kLw_law.2.1 137 = .ok (.aload_n 0, 1) := by decide +kernel
theorem dLw_law_138 : decode kLw_law.2.1 138 = .ok (.iload 4, 2) := by decide +kernel
theorem dLw_law_140 : decode kLw_law.2.1 140 = .ok (.iconst 5, 1) := by decide +kernel
theorem dLw_law_141 : decode kLw_law.2.1 141 = .ok (.iadd, 1) := by decide +kernel
theorem dLw_law_142 : decode kLw_law.2.1 142 = .ok (.iaload, 1) := by decide +kernel
theorem dLw_law_143 : decode kLw_law.2.1 143 = .ok (.aload_n 3, 1) := by decide +kernel
theorem dLw_law_144 : decode kLw_law.2.1 144 = .ok (.invokestatic 54, 3) := by decide +kernel
theorem dLw_law_147 : decode kLw_law.2.1 147 = .ok (.istore 5, 2) := by decide +kernel
theorem dLw_law_149 : decode kLw_law.2.1 149 = .ok (.aload_n 2, 1) := by decide +kernel
theorem dLw_law_150 : decode kLw_law.2.1 150 = .ok (.aload_n 0, 1) := by decide +kernel
theorem dLw_law_151 : decode kLw_law.2.1 151 = .ok (.iload 4, 2) := by decide +kernel
theorem dLw_law_153 : decode kLw_law.2.1 153 = .ok (.iconst 1, 1) := by decide +kernel
theorem dLw_law_154 : decode kLw_law.2.1 154 = .ok (.iadd, 1) := by decide +kernel
theorem dLw_law_155 : decode kLw_law.2.1 155 = .ok (.iaload, 1) := by decide +kernel
theorem dLw_law_156 : decode kLw_law.2.1 156 = .ok (.aload_n 0, 1) := by decide +kernel
theorem dLw_law_157 : decode kLw_law.2.1 157 = .ok (.iload 4, 2) := by decide +kernel
theorem dLw_law_159 : decode kLw_law.2.1 159 = .ok (.iconst 2, 1) := by decide +kernel
theorem dLw_law_160 : decode kLw_law.2.1 160 = .ok (.iadd, 1) := by decide +kernel
theorem dLw_law_161 : decode kLw_law.2.1 161 = .ok (.iaload, 1) := by decide +kernel
theorem dLw_law_162 : decode kLw_law.2.1 162 = .ok (.aload_n 0, 1) := by decide +kernel
theorem dLw_law_163 : decode kLw_law.2.1 163 = .ok (.iload 4, 2) := by decide +kernel
theorem dLw_law_165 : decode kLw_law.2.1 165 = .ok (.iconst 3, 1) := by decide +kernel
theorem dLw_law_166 : decode kLw_law.2.1 166 = .ok (.iadd, 1) := by decide +kernel
theorem dLw_law_167 : decode kLw_law.2.1 167 = .ok (.iaload, 1) := by decide +kernel
theorem dLw_law_168 : decode kLw_law.2.1 168 = .ok (.aload_n 0, 1) := by decide +kernel
theorem dLw_law_169 : decode kLw_law.2.1 169 = .ok (.iload 4, 2) := by decide +kernel
theorem dLw_law_171 : decode kLw_law.2.1 171 = .ok (.iconst 4, 1) := by decide +kernel
theorem dLw_law_172 : decode kLw_law.2.1 172 = .ok (.iadd, 1) := by decide +kernel
theorem dLw_law_173 : decode kLw_law.2.1 173 = .ok (.iaload, 1) := by decide +kernel
theorem dLw_law_174 : decode kLw_law.2.1 174 = .ok (.aload_n 0, 1) := by decide +kernel
theorem dLw_law_175 : decode kLw_law.2.1 175 = .ok (.iload 4, 2) := by decide +kernel
theorem dLw_law_177 : decode kLw_law.2.1 177 = .ok (.iconst 5, 1) := by decide +kernel
theorem dLw_law_178 : decode kLw_law.2.1 178 = .ok (.iadd, 1) := by decide +kernel
theorem dLw_law_179 : decode kLw_law.2.1 179 = .ok (.iaload, 1) := by decide +kernel
theorem dLw_law_180 : decode kLw_law.2.1 180 = .ok (.invokevirtual 59, 3) := by decide +kernel
theorem dLw_law_183 : decode kLw_law.2.1 183 = .ok (.istore 6, 2) := by decide +kernel
theorem dLw_law_185 : decode kLw_law.2.1 185 = .ok (.aload_n 2, 1) := by decide +kernel
theorem dLw_law_186 : decode kLw_law.2.1 186 = .ok (.invokevirtual 60, 3) := by decide +kernel
theorem dLw_law_189 : decode kLw_law.2.1 189 = .ok (.iload 5, 2) := by decide +kernel
theorem dLw_law_191 : decode kLw_law.2.1 191 = .ok (.if_icmp .eq 5, 3) := by decide +kernel
theorem dLw_law_194 : decode kLw_law.2.1 194 = .ok (.iconst 0, 1) := by decide +kernel
theorem dLw_law_195 : decode kLw_law.2.1 195 = .ok (.ireturn, 1) := by decide +kernel
theorem dLw_law_196 : decode kLw_law.2.1 196 = .ok (.iload 5, 2) := by decide +kernel
theorem dLw_law_198 : decode kLw_law.2.1 198 = .ok (.ifCond .ne 15, 3) := by decide +kernel
theorem dLw_law_201 : decode kLw_law.2.1 201 = .ok (.aload_n 3, 1) := by decide +kernel
theorem dLw_law_202 : decode kLw_law.2.1 202 = .ok (.iconst 0, 1) := by decide +kernel
theorem dLw_law_203 : decode kLw_law.2.1 203 = .ok (.laload, 1) := by decide +kernel
theorem dLw_law_204 : decode kLw_law.2.1 204 = .ok (.iload 6, 2) := by decide +kernel
theorem dLw_law_206 : decode kLw_law.2.1 206 = .ok (.i2l, 1) := by decide +kernel
theorem dLw_law_207 : decode kLw_law.2.1 207 = .ok (.lcmp, 1) := by decide +kernel
theorem dLw_law_208 : decode kLw_law.2.1 208 = .ok (.ifCond .eq 5, 3) := by decide +kernel
theorem dLw_law_211 : decode kLw_law.2.1 211 = .ok (.iconst 0, 1) := by decide +kernel
theorem dLw_law_212 : decode kLw_law.2.1 212 = .ok (.ireturn, 1) := by decide +kernel
theorem dLw_law_213 : decode kLw_law.2.1 213 = .ok (.goto 633, 3) := by decide +kernel
theorem dLw_law_216 : decode kLw_law.2.1 216 = .ok (.aload_n 1, 1) := by decide +kernel
theorem dLw_law_217 : decode kLw_law.2.1 217 = .ok (.aload_n 0, 1) := by decide +kernel
theorem dLw_law_218 : decode kLw_law.2.1 218 = .ok (.iload 4, 2) := by decide +kernel
theorem dLw_law_220 : decode kLw_law.2.1 220 = .ok (.iconst 1, 1) := by decide +kernel
theorem dLw_law_221 : decode kLw_law.2.1 221 = .ok (.iadd, 1) := by decide +kernel
theorem dLw_law_222 : decode kLw_law.2.1 222 = .ok (.iaload, 1) := by decide +kernel
theorem dLw_law_223 : decode kLw_law.2.1 223 = .ok (.aload_n 3, 1) := by decide +kernel
theorem dLw_law_224 : decode kLw_law.2.1 224 = .ok (.invokestatic 64, 3) := by decide +kernel
theorem dLw_law_227 : decode kLw_law.2.1 227 = .ok (.istore 5, 2) := by decide +kernel
theorem dLw_law_229 : decode kLw_law.2.1 229 = .ok (.aload_n 2, 1) := by decide +kernel
theorem dLw_law_230 : decode kLw_law.2.1 230 = .ok (.aload_n 0, 1) := by decide +kernel
theorem dLw_law_231 : decode kLw_law.2.1 231 = .ok (.iload 4, 2) := by decide +kernel
theorem dLw_law_233 : decode kLw_law.2.1 233 = .ok (.iconst 1, 1) := by decide +kernel
theorem dLw_law_234 : decode kLw_law.2.1 234 = .ok (.iadd, 1) := by decide +kernel
theorem dLw_law_235 : decode kLw_law.2.1 235 = .ok (.iaload, 1) := by decide +kernel
theorem dLw_law_236 : decode kLw_law.2.1 236 = .ok (.invokevirtual 67, 3) := by decide +kernel
theorem dLw_law_239 : decode kLw_law.2.1 239 = .ok (.istore 6, 2) := by decide +kernel
theorem dLw_law_241 : decode kLw_law.2.1 241 = .ok (.aload_n 2, 1) := by decide +kernel
theorem dLw_law_242 : decode kLw_law.2.1 242 = .ok (.invokevirtual 60, 3) := by decide +kernel
theorem dLw_law_245 : decode kLw_law.2.1 245 = .ok (.iload 5, 2) := by decide +kernel
theorem dLw_law_247 : decode kLw_law.2.1 247 = .ok (.if_icmp .eq 5, 3) := by decide +kernel
theorem dLw_law_250 : decode kLw_law.2.1 250 = .ok (.iconst 0, 1) := by decide +kernel
theorem dLw_law_251 : decode kLw_law.2.1 251 = .ok (.ireturn, 1) := by decide +kernel
theorem dLw_law_252 : decode kLw_law.2.1 252 = .ok (.iload 5, 2) := by decide +kernel
theorem dLw_law_254 : decode kLw_law.2.1 254 = .ok (.ifCond .ne 15, 3) := by decide +kernel
theorem dLw_law_257 : decode kLw_law.2.1 257 = .ok (.aload_n 3, 1) := by decide +kernel
theorem dLw_law_258 : decode kLw_law.2.1 258 = .ok (.iconst 0, 1) := by decide +kernel
theorem dLw_law_259 : decode kLw_law.2.1 259 = .ok (.laload, 1) := by decide +kernel
theorem dLw_law_260 : decode kLw_law.2.1 260 = .ok (.iload 6, 2) := by decide +kernel
theorem dLw_law_262 : decode kLw_law.2.1 262 = .ok (.i2l, 1) := by decide +kernel
theorem dLw_law_263 : decode kLw_law.2.1 263 = .ok (.lcmp, 1) := by decide +kernel
theorem dLw_law_264 : decode kLw_law.2.1 264 = .ok (.ifCond .eq 5, 3) := by decide +kernel
theorem dLw_law_267 : decode kLw_law.2.1 267 = .ok (.iconst 0, 1) := by decide +kernel
theorem dLw_law_268 : decode kLw_law.2.1 268 = .ok (.ireturn, 1) := by decide +kernel
theorem dLw_law_269 : decode kLw_law.2.1 269 = .ok (.goto 577, 3) := by decide +kernel
theorem dLw_law_272 : decode kLw_law.2.1 272 = .ok (.aload_n 1, 1) := by decide +kernel
theorem dLw_law_273 : decode kLw_law.2.1 273 = .ok (.invokevirtual 68, 3) := by decide +kernel
theorem dLw_law_276 : decode kLw_law.2.1 276 = .ok (.aload_n 2, 1) := by decide +kernel
theorem dLw_law_277 : decode kLw_law.2.1 277 = .ok (.invokevirtual 71, 3) := by decide +kernel
theorem dLw_law_280 : decode kLw_law.2.1 280 = .ok (.if_icmp .eq 566, 3) := by decide +kernel
theorem dLw_law_283 : decode kLw_law.2.1 283 = .ok (.iconst 0, 1) := by decide +kernel
theorem dLw_law_284 : decode kLw_law.2.1 284 = .ok (.ireturn, 1) := by decide +kernel
theorem dLw_law_285 : decode kLw_law.2.1 285 = .ok (.aload_n 1, 1) := by decide +kernel
theorem dLw_law_286 : decode kLw_law.2.1 286 = .ok (.aload_n 0, 1) := by decide +kernel
theorem dLw_law_287 : decode kLw_law.2.1 287 = .ok (.iload 4, 2) := by decide +kernel
theorem dLw_law_289 : decode kLw_law.2.1 289 = .ok (.iconst 1, 1) := by decide +kernel
theorem dLw_law_290 : decode kLw_law.2.1 290 = .ok (.iadd, 1) := by decide +kernel
theorem dLw_law_291 : decode kLw_law.2.1 291 = .ok (.iaload, 1) := by decide +kernel
theorem dLw_law_292 : decode kLw_law.2.1 292 = .ok (.invokevirtual 72, 3) := by decide +kernel
theorem dLw_law_295 : decode kLw_law.2.1 295 = .ok (.aload_n 2, 1) := by decide +kernel
theorem dLw_law_296 : decode kLw_law.2.1 296 = .ok (.aload_n 0, 1) := by decide +kernel
theorem dLw_law_297 : decode kLw_law.2.1 297 = .ok (.iload 4, 2) := by decide +kernel
theorem dLw_law_299 : decode kLw_law.2.1 299 = .ok (.iconst 1, 1) := by decide +kernel
theorem dLw_law_300 : decode kLw_law.2.1 300 = .ok (.iadd, 1) := by decide +kernel
theorem dLw_law_301 : decode kLw_law.2.1 301 = .ok (.iaload, 1) := by decide +kernel
theorem dLw_law_302 : decode kLw_law.2.1 302 = .ok (.invokevirtual 75, 3) := by decide +kernel
theorem dLw_law_305 : decode kLw_law.2.1 305 = .ok (.if_icmp .eq 541, 3) := by decide +kernel
theorem dLw_law_308 : decode kLw_law.2.1 308 = .ok (.iconst 0, 1) := by decide +kernel
theorem dLw_law_309 : decode kLw_law.2.1 309 = .ok (.ireturn, 1) := by decide +kernel
theorem dLw_law_310 : decode kLw_law.2.1 310 = .ok (.aload_n 1, 1) := by decide +kernel
theorem dLw_law_311 : decode kLw_law.2.1 311 = .ok (.aload_n 0, 1) := by decide +kernel
theorem dLw_law_312 : decode kLw_law.2.1 312 = .ok (.iload 4, 2) := by decide +kernel
theorem dLw_law_314 : decode kLw_law.2.1 314 = .ok (.iconst 1, 1) := by decide +kernel
theorem dLw_law_315 : decode kLw_law.2.1 315 = .ok (.iadd, 1) := by decide +kernel
theorem dLw_law_316 : decode kLw_law.2.1 316 = .ok (.iaload, 1) := by decide +kernel
theorem dLw_law_317 : decode kLw_law.2.1 317 = .ok (.aload_n 3, 1) := by decide +kernel
theorem dLw_law_318 : decode kLw_law.2.1 318 = .ok (.invokestatic 76, 3) := by decide +kernel
theorem dLw_law_321 : decode kLw_law.2.1 321 = .ok (.istore 5, 2) := by decide +kernel
theorem dLw_law_323 : decode kLw_law.2.1 323 = .ok (.aload_n 2, 1) := by decide +kernel
theorem dLw_law_324 : decode kLw_law.2.1 324 = .ok (.aload_n 0, 1) := by decide +kernel
theorem dLw_law_325 : decode kLw_law.2.1 325 = .ok (.iload 4, 2) := by decide +kernel
theorem dLw_law_327 : decode kLw_law.2.1 327 = .ok (.iconst 1, 1) := by decide +kernel
theorem dLw_law_328 : decode kLw_law.2.1 328 = .ok (.iadd, 1) := by decide +kernel
theorem dLw_law_329 : decode kLw_law.2.1 329 = .ok (.iaload, 1) := by decide +kernel
theorem dLw_law_330 : decode kLw_law.2.1 330 = .ok (.invokevirtual 78, 3) := by decide +kernel
theorem dLw_law_333 : decode kLw_law.2.1 333 = .ok (.istore 6, 2) := by decide +kernel
theorem dLw_law_335 : decode kLw_law.2.1 335 = .ok (.aload_n 2, 1) := by decide +kernel
theorem dLw_law_336 : decode kLw_law.2.1 336 = .ok (.invokevirtual 60, 3) := by decide +kernel
theorem dLw_law_339 : decode kLw_law.2.1 339 = .ok (.iload 5, 2) := by decide +kernel
theorem dLw_law_341 : decode kLw_law.2.1 341 = .ok (.if_icmp .eq 5, 3) := by decide +kernel
theorem dLw_law_344 : decode kLw_law.2.1 344 = .ok (.iconst 0, 1) := by decide +kernel
theorem dLw_law_345 : decode kLw_law.2.1 345 = .ok (.ireturn, 1) := by decide +kernel
theorem dLw_law_346 : decode kLw_law.2.1 346 = .ok (.iload 5, 2) := by decide +kernel
theorem dLw_law_348 : decode kLw_law.2.1 348 = .ok (.ifCond .ne 22, 3) := by decide +kernel
theorem dLw_law_351 : decode kLw_law.2.1 351 = .ok (.aload_n 3, 1) := by decide +kernel
theorem dLw_law_352 : decode kLw_law.2.1 352 = .ok (.iconst 0, 1) := by decide +kernel
theorem dLw_law_353 : decode kLw_law.2.1 353 = .ok (.laload, 1) := by decide +kernel
theorem dLw_law_354 : decode kLw_law.2.1 354 = .ok (.iload 6, 2) := by decide +kernel
theorem dLw_law_356 : decode kLw_law.2.1 356 = .ok (.ifCond .eq 7, 3) := by decide +kernel
theorem dLw_law_359 : decode kLw_law.2.1 359 = .ok (.lconst 1, 1) := by decide +kernel
theorem dLw_law_360 : decode kLw_law.2.1 360 = .ok (.goto 4, 3) := by decide +kernel
theorem dLw_law_363 : decode kLw_law.2.1 363 = .ok (.lconst 0, 1) := by decide +kernel
theorem dLw_law_364 : decode kLw_law.2.1 364 = .ok (.lcmp, 1) := by decide +kernel
theorem dLw_law_365 : decode kLw_law.2.1 365 = .ok (.ifCond .eq 5, 3) := by decide +kernel
theorem dLw_law_368 : decode kLw_law.2.1 368 = .ok (.iconst 0, 1) := by decide +kernel
theorem dLw_law_369 : decode kLw_law.2.1 369 = .ok (.ireturn, 1) := by decide +kernel
theorem dLw_law_370 : decode kLw_law.2.1 370 = .ok (.goto 476, 3) := by decide +kernel
theorem dLw_law_373 : decode kLw_law.2.1 373 = .ok (.aload_n 1, 1) := by decide +kernel
theorem dLw_law_374 : decode kLw_law.2.1 374 = .ok (.aload_n 0, 1) := by decide +kernel
theorem dLw_law_375 : decode kLw_law.2.1 375 = .ok (.iload 4, 2) := by decide +kernel
theorem dLw_law_377 : decode kLw_law.2.1 377 = .ok (.iconst 1, 1) := by decide +kernel
theorem dLw_law_378 : decode kLw_law.2.1 378 = .ok (.iadd, 1) := by decide +kernel
theorem dLw_law_379 : decode kLw_law.2.1 379 = .ok (.iaload, 1) := by decide +kernel
theorem dLw_law_380 : decode kLw_law.2.1 380 = .ok (.aload_n 3, 1) := by decide +kernel
theorem dLw_law_381 : decode kLw_law.2.1 381 = .ok (.invokestatic 79, 3) := by decide +kernel
theorem dLw_law_384 : decode kLw_law.2.1 384 = .ok (.istore 5, 2) := by decide +kernel
theorem dLw_law_386 : decode kLw_law.2.1 386 = .ok (.aload_n 2, 1) := by decide +kernel
theorem dLw_law_387 : decode kLw_law.2.1 387 = .ok (.aload_n 0, 1) := by decide +kernel
theorem dLw_law_388 : decode kLw_law.2.1 388 = .ok (.iload 4, 2) := by decide +kernel
theorem dLw_law_390 : decode kLw_law.2.1 390 = .ok (.iconst 1, 1) := by decide +kernel
theorem dLw_law_391 : decode kLw_law.2.1 391 = .ok (.iadd, 1) := by decide +kernel
theorem dLw_law_392 : decode kLw_law.2.1 392 = .ok (.iaload, 1) := by decide +kernel
theorem dLw_law_393 : decode kLw_law.2.1 393 = .ok (.invokevirtual 81, 3) := by decide +kernel
theorem dLw_law_396 : decode kLw_law.2.1 396 = .ok (.istore 6, 2) := by decide +kernel
theorem dLw_law_398 : decode kLw_law.2.1 398 = .ok (.aload_n 2, 1) := by decide +kernel
theorem dLw_law_399 : decode kLw_law.2.1 399 = .ok (.invokevirtual 60, 3) := by decide +kernel
theorem dLw_law_402 : decode kLw_law.2.1 402 = .ok (.iload 5, 2) := by decide +kernel
theorem dLw_law_404 : decode kLw_law.2.1 404 = .ok (.if_icmp .eq 5, 3) := by decide +kernel
theorem dLw_law_407 : decode kLw_law.2.1 407 = .ok (.iconst 0, 1) := by decide +kernel
theorem dLw_law_408 : decode kLw_law.2.1 408 = .ok (.ireturn, 1) := by decide +kernel
theorem dLw_law_409 : decode kLw_law.2.1 409 = .ok (.iload 5, 2) := by decide +kernel
theorem dLw_law_411 : decode kLw_law.2.1 411 = .ok (.ifCond .ne 15, 3) := by decide +kernel
theorem dLw_law_414 : decode kLw_law.2.1 414 = .ok (.aload_n 3, 1) := by decide +kernel
theorem dLw_law_415 : decode kLw_law.2.1 415 = .ok (.iconst 0, 1) := by decide +kernel
theorem dLw_law_416 : decode kLw_law.2.1 416 = .ok (.laload, 1) := by decide +kernel
theorem dLw_law_417 : decode kLw_law.2.1 417 = .ok (.iload 6, 2) := by decide +kernel
theorem dLw_law_419 : decode kLw_law.2.1 419 = .ok (.i2l, 1) := by decide +kernel
theorem dLw_law_420 : decode kLw_law.2.1 420 = .ok (.lcmp, 1) := by decide +kernel
theorem dLw_law_421 : decode kLw_law.2.1 421 = .ok (.ifCond .eq 5, 3) := by decide +kernel
theorem dLw_law_424 : decode kLw_law.2.1 424 = .ok (.iconst 0, 1) := by decide +kernel
theorem dLw_law_425 : decode kLw_law.2.1 425 = .ok (.ireturn, 1) := by decide +kernel
theorem dLw_law_426 : decode kLw_law.2.1 426 = .ok (.goto 420, 3) := by decide +kernel
theorem dLw_law_429 : decode kLw_law.2.1 429 = .ok (.aload_n 1, 1) := by decide +kernel
theorem dLw_law_430 : decode kLw_law.2.1 430 = .ok (.aload_n 0, 1) := by decide +kernel
theorem dLw_law_431 : decode kLw_law.2.1 431 = .ok (.iload 4, 2) := by decide +kernel
theorem dLw_law_433 : decode kLw_law.2.1 433 = .ok (.iconst 1, 1) := by decide +kernel
theorem dLw_law_434 : decode kLw_law.2.1 434 = .ok (.iadd, 1) := by decide +kernel
theorem dLw_law_435 : decode kLw_law.2.1 435 = .ok (.iaload, 1) := by decide +kernel
theorem dLw_law_436 : decode kLw_law.2.1 436 = .ok (.aload_n 0, 1) := by decide +kernel
theorem dLw_law_437 : decode kLw_law.2.1 437 = .ok (.iload 4, 2) := by decide +kernel
theorem dLw_law_439 : decode kLw_law.2.1 439 = .ok (.iconst 2, 1) := by decide +kernel
theorem dLw_law_440 : decode kLw_law.2.1 440 = .ok (.iadd, 1) := by decide +kernel
theorem dLw_law_441 : decode kLw_law.2.1 441 = .ok (.iaload, 1) := by decide +kernel
theorem dLw_law_442 : decode kLw_law.2.1 442 = .ok (.aload_n 3, 1) := by decide +kernel
theorem dLw_law_443 : decode kLw_law.2.1 443 = .ok (.invokestatic 82, 3) := by decide +kernel
theorem dLw_law_446 : decode kLw_law.2.1 446 = .ok (.istore 5, 2) := by decide +kernel
theorem dLw_law_448 : decode kLw_law.2.1 448 = .ok (.aload_n 2, 1) := by decide +kernel
theorem dLw_law_449 : decode kLw_law.2.1 449 = .ok (.aload_n 0, 1) := by decide +kernel
theorem dLw_law_450 : decode kLw_law.2.1 450 = .ok (.iload 4, 2) := by decide +kernel
theorem dLw_law_452 : decode kLw_law.2.1 452 = .ok (.iconst 1, 1) := by decide +kernel
theorem dLw_law_453 : decode kLw_law.2.1 453 = .ok (.iadd, 1) := by decide +kernel
theorem dLw_law_454 : decode kLw_law.2.1 454 = .ok (.iaload, 1) := by decide +kernel
theorem dLw_law_455 : decode kLw_law.2.1 455 = .ok (.aload_n 0, 1) := by decide +kernel
theorem dLw_law_456 : decode kLw_law.2.1 456 = .ok (.iload 4, 2) := by decide +kernel
theorem dLw_law_458 : decode kLw_law.2.1 458 = .ok (.iconst 2, 1) := by decide +kernel
theorem dLw_law_459 : decode kLw_law.2.1 459 = .ok (.iadd, 1) := by decide +kernel
theorem dLw_law_460 : decode kLw_law.2.1 460 = .ok (.iaload, 1) := by decide +kernel
theorem dLw_law_461 : decode kLw_law.2.1 461 = .ok (.invokevirtual 85, 3) := by decide +kernel
theorem dLw_law_464 : decode kLw_law.2.1 464 = .ok (.istore 6, 2) := by decide +kernel
theorem dLw_law_466 : decode kLw_law.2.1 466 = .ok (.aload_n 2, 1) := by decide +kernel
theorem dLw_law_467 : decode kLw_law.2.1 467 = .ok (.invokevirtual 60, 3) := by decide +kernel
theorem dLw_law_470 : decode kLw_law.2.1 470 = .ok (.iload 5, 2) := by decide +kernel
theorem dLw_law_472 : decode kLw_law.2.1 472 = .ok (.if_icmp .eq 5, 3) := by decide +kernel
theorem dLw_law_475 : decode kLw_law.2.1 475 = .ok (.iconst 0, 1) := by decide +kernel
theorem dLw_law_476 : decode kLw_law.2.1 476 = .ok (.ireturn, 1) := by decide +kernel
theorem dLw_law_477 : decode kLw_law.2.1 477 = .ok (.iload 5, 2) := by decide +kernel
theorem dLw_law_479 : decode kLw_law.2.1 479 = .ok (.ifCond .ne 22, 3) := by decide +kernel
theorem dLw_law_482 : decode kLw_law.2.1 482 = .ok (.aload_n 3, 1) := by decide +kernel
theorem dLw_law_483 : decode kLw_law.2.1 483 = .ok (.iconst 0, 1) := by decide +kernel
theorem dLw_law_484 : decode kLw_law.2.1 484 = .ok (.laload, 1) := by decide +kernel
theorem dLw_law_485 : decode kLw_law.2.1 485 = .ok (.iload 6, 2) := by decide +kernel
theorem dLw_law_487 : decode kLw_law.2.1 487 = .ok (.ifCond .eq 7, 3) := by decide +kernel
theorem dLw_law_490 : decode kLw_law.2.1 490 = .ok (.lconst 1, 1) := by decide +kernel
theorem dLw_law_491 : decode kLw_law.2.1 491 = .ok (.goto 4, 3) := by decide +kernel
theorem dLw_law_494 : decode kLw_law.2.1 494 = .ok (.lconst 0, 1) := by decide +kernel
theorem dLw_law_495 : decode kLw_law.2.1 495 = .ok (.lcmp, 1) := by decide +kernel
theorem dLw_law_496 : decode kLw_law.2.1 496 = .ok (.ifCond .eq 5, 3) := by decide +kernel
theorem dLw_law_499 : decode kLw_law.2.1 499 = .ok (.iconst 0, 1) := by decide +kernel
theorem dLw_law_500 : decode kLw_law.2.1 500 = .ok (.ireturn, 1) := by decide +kernel
theorem dLw_law_501 : decode kLw_law.2.1 501 = .ok (.goto 345, 3) := by decide +kernel
theorem dLw_law_504 : decode kLw_law.2.1 504 = .ok (.aload_n 1, 1) := by decide +kernel
theorem dLw_law_505 : decode kLw_law.2.1 505 = .ok (.invokevirtual 86, 3) := by decide +kernel
theorem dLw_law_508 : decode kLw_law.2.1 508 = .ok (.aload_n 2, 1) := by decide +kernel
theorem dLw_law_509 : decode kLw_law.2.1 509 = .ok (.invokevirtual 89, 3) := by decide +kernel
theorem dLw_law_512 : decode kLw_law.2.1 512 = .ok (.if_icmp .eq 334, 3) := by decide +kernel
theorem dLw_law_515 : decode kLw_law.2.1 515 = .ok (.iconst 0, 1) := by decide +kernel
theorem dLw_law_516 : decode kLw_law.2.1 516 = .ok (.ireturn, 1) := by decide +kernel
theorem dLw_law_517 : decode kLw_law.2.1 517 = .ok (.aload_n 1, 1) := by decide +kernel
theorem dLw_law_518 : decode kLw_law.2.1 518 = .ok (.aload_n 0, 1) := by decide +kernel
theorem dLw_law_519 : decode kLw_law.2.1 519 = .ok (.iload 4, 2) := by decide +kernel
theorem dLw_law_521 : decode kLw_law.2.1 521 = .ok (.iconst 1, 1) := by decide +kernel
theorem dLw_law_522 : decode kLw_law.2.1 522 = .ok (.iadd, 1) := by decide +kernel
theorem dLw_law_523 : decode kLw_law.2.1 523 = .ok (.iaload, 1) := by decide +kernel
theorem dLw_law_524 : decode kLw_law.2.1 524 = .ok (.aload_n 3, 1) := by decide +kernel
theorem dLw_law_525 : decode kLw_law.2.1 525 = .ok (.invokestatic 90, 3) := by decide +kernel
theorem dLw_law_528 : decode kLw_law.2.1 528 = .ok (.istore 5, 2) := by decide +kernel
theorem dLw_law_530 : decode kLw_law.2.1 530 = .ok (.aload_n 2, 1) := by decide +kernel
theorem dLw_law_531 : decode kLw_law.2.1 531 = .ok (.aload_n 0, 1) := by decide +kernel
theorem dLw_law_532 : decode kLw_law.2.1 532 = .ok (.iload 4, 2) := by decide +kernel
theorem dLw_law_534 : decode kLw_law.2.1 534 = .ok (.iconst 1, 1) := by decide +kernel
theorem dLw_law_535 : decode kLw_law.2.1 535 = .ok (.iadd, 1) := by decide +kernel
theorem dLw_law_536 : decode kLw_law.2.1 536 = .ok (.iaload, 1) := by decide +kernel
theorem dLw_law_537 : decode kLw_law.2.1 537 = .ok (.invokevirtual 92, 3) := by decide +kernel
theorem dLw_law_540 : decode kLw_law.2.1 540 = .ok (.istore 6, 2) := by decide +kernel
theorem dLw_law_542 : decode kLw_law.2.1 542 = .ok (.aload_n 2, 1) := by decide +kernel
theorem dLw_law_543 : decode kLw_law.2.1 543 = .ok (.invokevirtual 60, 3) := by decide +kernel
theorem dLw_law_546 : decode kLw_law.2.1 546 = .ok (.iload 5, 2) := by decide +kernel
theorem dLw_law_548 : decode kLw_law.2.1 548 = .ok (.if_icmp .eq 5, 3) := by decide +kernel
theorem dLw_law_551 : decode kLw_law.2.1 551 = .ok (.iconst 0, 1) := by decide +kernel
theorem dLw_law_552 : decode kLw_law.2.1 552 = .ok (.ireturn, 1) := by decide +kernel
theorem dLw_law_553 : decode kLw_law.2.1 553 = .ok (.iload 5, 2) := by decide +kernel
theorem dLw_law_555 : decode kLw_law.2.1 555 = .ok (.ifCond .ne 15, 3) := by decide +kernel
theorem dLw_law_558 : decode kLw_law.2.1 558 = .ok (.aload_n 3, 1) := by decide +kernel
theorem dLw_law_559 : decode kLw_law.2.1 559 = .ok (.iconst 0, 1) := by decide +kernel
theorem dLw_law_560 : decode kLw_law.2.1 560 = .ok (.laload, 1) := by decide +kernel
theorem dLw_law_561 : decode kLw_law.2.1 561 = .ok (.iload 6, 2) := by decide +kernel
theorem dLw_law_563 : decode kLw_law.2.1 563 = .ok (.i2l, 1) := by decide +kernel
theorem dLw_law_564 : decode kLw_law.2.1 564 = .ok (.lcmp, 1) := by decide +kernel
theorem dLw_law_565 : decode kLw_law.2.1 565 = .ok (.ifCond .eq 5, 3) := by decide +kernel
theorem dLw_law_568 : decode kLw_law.2.1 568 = .ok (.iconst 0, 1) := by decide +kernel
theorem dLw_law_569 : decode kLw_law.2.1 569 = .ok (.ireturn, 1) := by decide +kernel
theorem dLw_law_570 : decode kLw_law.2.1 570 = .ok (.goto 276, 3) := by decide +kernel
theorem dLw_law_573 : decode kLw_law.2.1 573 = .ok (.aload_n 1, 1) := by decide +kernel
theorem dLw_law_574 : decode kLw_law.2.1 574 = .ok (.aload_n 0, 1) := by decide +kernel
theorem dLw_law_575 : decode kLw_law.2.1 575 = .ok (.iload 4, 2) := by decide +kernel
theorem dLw_law_577 : decode kLw_law.2.1 577 = .ok (.iconst 1, 1) := by decide +kernel
theorem dLw_law_578 : decode kLw_law.2.1 578 = .ok (.iadd, 1) := by decide +kernel
theorem dLw_law_579 : decode kLw_law.2.1 579 = .ok (.iaload, 1) := by decide +kernel
theorem dLw_law_580 : decode kLw_law.2.1 580 = .ok (.aload_n 0, 1) := by decide +kernel
theorem dLw_law_581 : decode kLw_law.2.1 581 = .ok (.iload 4, 2) := by decide +kernel
theorem dLw_law_583 : decode kLw_law.2.1 583 = .ok (.iconst 2, 1) := by decide +kernel
theorem dLw_law_584 : decode kLw_law.2.1 584 = .ok (.iadd, 1) := by decide +kernel
theorem dLw_law_585 : decode kLw_law.2.1 585 = .ok (.iaload, 1) := by decide +kernel
theorem dLw_law_586 : decode kLw_law.2.1 586 = .ok (.aload_n 3, 1) := by decide +kernel
theorem dLw_law_587 : decode kLw_law.2.1 587 = .ok (.invokestatic 93, 3) := by decide +kernel
theorem dLw_law_590 : decode kLw_law.2.1 590 = .ok (.istore 5, 2) := by decide +kernel
theorem dLw_law_592 : decode kLw_law.2.1 592 = .ok (.aload_n 2, 1) := by decide +kernel
theorem dLw_law_593 : decode kLw_law.2.1 593 = .ok (.aload_n 0, 1) := by decide +kernel
theorem dLw_law_594 : decode kLw_law.2.1 594 = .ok (.iload 4, 2) := by decide +kernel
theorem dLw_law_596 : decode kLw_law.2.1 596 = .ok (.iconst 1, 1) := by decide +kernel
theorem dLw_law_597 : decode kLw_law.2.1 597 = .ok (.iadd, 1) := by decide +kernel
theorem dLw_law_598 : decode kLw_law.2.1 598 = .ok (.iaload, 1) := by decide +kernel
theorem dLw_law_599 : decode kLw_law.2.1 599 = .ok (.aload_n 0, 1) := by decide +kernel
theorem dLw_law_600 : decode kLw_law.2.1 600 = .ok (.iload 4, 2) := by decide +kernel
theorem dLw_law_602 : decode kLw_law.2.1 602 = .ok (.iconst 2, 1) := by decide +kernel
theorem dLw_law_603 : decode kLw_law.2.1 603 = .ok (.iadd, 1) := by decide +kernel
theorem dLw_law_604 : decode kLw_law.2.1 604 = .ok (.iaload, 1) := by decide +kernel
theorem dLw_law_605 : decode kLw_law.2.1 605 = .ok (.invokevirtual 95, 3) := by decide +kernel
theorem dLw_law_608 : decode kLw_law.2.1 608 = .ok (.istore 6, 2) := by decide +kernel
theorem dLw_law_610 : decode kLw_law.2.1 610 = .ok (.aload_n 2, 1) := by decide +kernel
theorem dLw_law_611 : decode kLw_law.2.1 611 = .ok (.invokevirtual 60, 3) := by decide +kernel
theorem dLw_law_614 : decode kLw_law.2.1 614 = .ok (.iload 5, 2) := by decide +kernel
theorem dLw_law_616 : decode kLw_law.2.1 616 = .ok (.if_icmp .eq 5, 3) := by decide +kernel
theorem dLw_law_619 : decode kLw_law.2.1 619 = .ok (.iconst 0, 1) := by decide +kernel
theorem dLw_law_620 : decode kLw_law.2.1 620 = .ok (.ireturn, 1) := by decide +kernel
theorem dLw_law_621 : decode kLw_law.2.1 621 = .ok (.iload 5, 2) := by decide +kernel
theorem dLw_law_623 : decode kLw_law.2.1 623 = .ok (.ifCond .ne 15, 3) := by decide +kernel
theorem dLw_law_626 : decode kLw_law.2.1 626 = .ok (.aload_n 3, 1) := by decide +kernel
theorem dLw_law_627 : decode kLw_law.2.1 627 = .ok (.iconst 0, 1) := by decide +kernel
theorem dLw_law_628 : decode kLw_law.2.1 628 = .ok (.laload, 1) := by decide +kernel
theorem dLw_law_629 : decode kLw_law.2.1 629 = .ok (.iload 6, 2) := by decide +kernel
theorem dLw_law_631 : decode kLw_law.2.1 631 = .ok (.i2l, 1) := by decide +kernel
theorem dLw_law_632 : decode kLw_law.2.1 632 = .ok (.lcmp, 1) := by decide +kernel
theorem dLw_law_633 : decode kLw_law.2.1 633 = .ok (.ifCond .eq 5, 3) := by decide +kernel
theorem dLw_law_636 : decode kLw_law.2.1 636 = .ok (.iconst 0, 1) := by decide +kernel
theorem dLw_law_637 : decode kLw_law.2.1 637 = .ok (.ireturn, 1) := by decide +kernel
theorem dLw_law_638 : decode kLw_law.2.1 638 = .ok (.goto 208, 3) := by decide +kernel
theorem dLw_law_641 : decode kLw_law.2.1 641 = .ok (.aload_n 1, 1) := by decide +kernel
theorem dLw_law_642 : decode kLw_law.2.1 642 = .ok (.aload_n 0, 1) := by decide +kernel
theorem dLw_law_643 : decode kLw_law.2.1 643 = .ok (.iload 4, 2) := by decide +kernel
theorem dLw_law_645 : decode kLw_law.2.1 645 = .ok (.iconst 1, 1) := by decide +kernel
theorem dLw_law_646 : decode kLw_law.2.1 646 = .ok (.iadd, 1) := by decide +kernel
theorem dLw_law_647 : decode kLw_law.2.1 647 = .ok (.iaload, 1) := by decide +kernel
theorem dLw_law_648 : decode kLw_law.2.1 648 = .ok (.aload_n 3, 1) := by decide +kernel
theorem dLw_law_649 : decode kLw_law.2.1 649 = .ok (.invokestatic 96, 3) := by decide +kernel
theorem dLw_law_652 : decode kLw_law.2.1 652 = .ok (.istore 5, 2) := by decide +kernel
theorem dLw_law_654 : decode kLw_law.2.1 654 = .ok (.aload_n 2, 1) := by decide +kernel
theorem dLw_law_655 : decode kLw_law.2.1 655 = .ok (.aload_n 0, 1) := by decide +kernel
theorem dLw_law_656 : decode kLw_law.2.1 656 = .ok (.iload 4, 2) := by decide +kernel
theorem dLw_law_658 : decode kLw_law.2.1 658 = .ok (.iconst 1, 1) := by decide +kernel
theorem dLw_law_659 : decode kLw_law.2.1 659 = .ok (.iadd, 1) := by decide +kernel
theorem dLw_law_660 : decode kLw_law.2.1 660 = .ok (.iaload, 1) := by decide +kernel
theorem dLw_law_661 : decode kLw_law.2.1 661 = .ok (.invokevirtual 98, 3) := by decide +kernel
theorem dLw_law_664 : decode kLw_law.2.1 664 = .ok (.istore 6, 2) := by decide +kernel
theorem dLw_law_666 : decode kLw_law.2.1 666 = .ok (.aload_n 2, 1) := by decide +kernel
theorem dLw_law_667 : decode kLw_law.2.1 667 = .ok (.invokevirtual 60, 3) := by decide +kernel
theorem dLw_law_670 : decode kLw_law.2.1 670 = .ok (.iload 5, 2) := by decide +kernel
theorem dLw_law_672 : decode kLw_law.2.1 672 = .ok (.if_icmp .eq 5, 3) := by decide +kernel
theorem dLw_law_675 : decode kLw_law.2.1 675 = .ok (.iconst 0, 1) := by decide +kernel
theorem dLw_law_676 : decode kLw_law.2.1 676 = .ok (.ireturn, 1) := by decide +kernel
theorem dLw_law_677 : decode kLw_law.2.1 677 = .ok (.iload 5, 2) := by decide +kernel
theorem dLw_law_679 : decode kLw_law.2.1 679 = .ok (.ifCond .ne 15, 3) := by decide +kernel
theorem dLw_law_682 : decode kLw_law.2.1 682 = .ok (.aload_n 3, 1) := by decide +kernel
theorem dLw_law_683 : decode kLw_law.2.1 683 = .ok (.iconst 0, 1) := by decide +kernel
theorem dLw_law_684 : decode kLw_law.2.1 684 = .ok (.laload, 1) := by decide +kernel
theorem dLw_law_685 : decode kLw_law.2.1 685 = .ok (.iload 6, 2) := by decide +kernel
theorem dLw_law_687 : decode kLw_law.2.1 687 = .ok (.i2l, 1) := by decide +kernel
theorem dLw_law_688 : decode kLw_law.2.1 688 = .ok (.lcmp, 1) := by decide +kernel
theorem dLw_law_689 : decode kLw_law.2.1 689 = .ok (.ifCond .eq 5, 3) := by decide +kernel
theorem dLw_law_692 : decode kLw_law.2.1 692 = .ok (.iconst 0, 1) := by decide +kernel
theorem dLw_law_693 : decode kLw_law.2.1 693 = .ok (.ireturn, 1) := by decide +kernel
theorem dLw_law_694 : decode kLw_law.2.1 694 = .ok (.goto 152, 3) := by decide +kernel
theorem dLw_law_697 : decode kLw_law.2.1 697 = .ok (.aload_n 1, 1) := by decide +kernel
theorem dLw_law_698 : decode kLw_law.2.1 698 = .ok (.aload_n 0, 1) := by decide +kernel
theorem dLw_law_699 : decode kLw_law.2.1 699 = .ok (.iload 4, 2) := by decide +kernel
theorem dLw_law_701 : decode kLw_law.2.1 701 = .ok (.iconst 1, 1) := by decide +kernel
theorem dLw_law_702 : decode kLw_law.2.1 702 = .ok (.iadd, 1) := by decide +kernel
theorem dLw_law_703 : decode kLw_law.2.1 703 = .ok (.iaload, 1) := by decide +kernel
theorem dLw_law_704 : decode kLw_law.2.1 704 = .ok (.aload_n 3, 1) := by decide +kernel
theorem dLw_law_705 : decode kLw_law.2.1 705 = .ok (.invokestatic 99, 3) := by decide +kernel
theorem dLw_law_708 : decode kLw_law.2.1 708 = .ok (.istore 5, 2) := by decide +kernel
theorem dLw_law_710 : decode kLw_law.2.1 710 = .ok (.aload_n 2, 1) := by decide +kernel
theorem dLw_law_711 : decode kLw_law.2.1 711 = .ok (.aload_n 0, 1) := by decide +kernel
theorem dLw_law_712 : decode kLw_law.2.1 712 = .ok (.iload 4, 2) := by decide +kernel
theorem dLw_law_714 : decode kLw_law.2.1 714 = .ok (.iconst 1, 1) := by decide +kernel
theorem dLw_law_715 : decode kLw_law.2.1 715 = .ok (.iadd, 1) := by decide +kernel
theorem dLw_law_716 : decode kLw_law.2.1 716 = .ok (.iaload, 1) := by decide +kernel
theorem dLw_law_717 : decode kLw_law.2.1 717 = .ok (.invokevirtual 101, 3) := by decide +kernel
theorem dLw_law_720 : decode kLw_law.2.1 720 = .ok (.istore 6, 2) := by decide +kernel
theorem dLw_law_722 : decode kLw_law.2.1 722 = .ok (.aload_n 2, 1) := by decide +kernel
theorem dLw_law_723 : decode kLw_law.2.1 723 = .ok (.invokevirtual 60, 3) := by decide +kernel
theorem dLw_law_726 : decode kLw_law.2.1 726 = .ok (.iload 5, 2) := by decide +kernel
theorem dLw_law_728 : decode kLw_law.2.1 728 = .ok (.if_icmp .eq 5, 3) := by decide +kernel
theorem dLw_law_731 : decode kLw_law.2.1 731 = .ok (.iconst 0, 1) := by decide +kernel
theorem dLw_law_732 : decode kLw_law.2.1 732 = .ok (.ireturn, 1) := by decide +kernel
theorem dLw_law_733 : decode kLw_law.2.1 733 = .ok (.iload 5, 2) := by decide +kernel
theorem dLw_law_735 : decode kLw_law.2.1 735 = .ok (.ifCond .ne 15, 3) := by decide +kernel
theorem dLw_law_738 : decode kLw_law.2.1 738 = .ok (.aload_n 3, 1) := by decide +kernel
theorem dLw_law_739 : decode kLw_law.2.1 739 = .ok (.iconst 0, 1) := by decide +kernel
theorem dLw_law_740 : decode kLw_law.2.1 740 = .ok (.laload, 1) := by decide +kernel
theorem dLw_law_741 : decode kLw_law.2.1 741 = .ok (.iload 6, 2) := by decide +kernel
theorem dLw_law_743 : decode kLw_law.2.1 743 = .ok (.i2l, 1) := by decide +kernel
theorem dLw_law_744 : decode kLw_law.2.1 744 = .ok (.lcmp, 1) := by decide +kernel
theorem dLw_law_745 : decode kLw_law.2.1 745 = .ok (.ifCond .eq 5, 3) := by decide +kernel
theorem dLw_law_748 : decode kLw_law.2.1 748 = .ok (.iconst 0, 1) := by decide +kernel
theorem dLw_law_749 : decode kLw_law.2.1 749 = .ok (.ireturn, 1) := by decide +kernel
theorem dLw_law_750 : decode kLw_law.2.1 750 = .ok (.goto 96, 3) := by decide +kernel
theorem dLw_law_753 : decode kLw_law.2.1 753 = .ok (.aload_n 1, 1) := by decide +kernel
theorem dLw_law_754 : decode kLw_law.2.1 754 = .ok (.aload_n 0, 1) := by decide +kernel
theorem dLw_law_755 : decode kLw_law.2.1 755 = .ok (.iload 4, 2) := by decide +kernel
theorem dLw_law_757 : decode kLw_law.2.1 757 = .ok (.iconst 1, 1) := by decide +kernel
theorem dLw_law_758 : decode kLw_law.2.1 758 = .ok (.iadd, 1) := by decide +kernel
theorem dLw_law_759 : decode kLw_law.2.1 759 = .ok (.iaload, 1) := by decide +kernel
theorem dLw_law_760 : decode kLw_law.2.1 760 = .ok (.aload_n 0, 1) := by decide +kernel
theorem dLw_law_761 : decode kLw_law.2.1 761 = .ok (.iload 4, 2) := by decide +kernel
theorem dLw_law_763 : decode kLw_law.2.1 763 = .ok (.iconst 2, 1) := by decide +kernel
theorem dLw_law_764 : decode kLw_law.2.1 764 = .ok (.iadd, 1) := by decide +kernel
theorem dLw_law_765 : decode kLw_law.2.1 765 = .ok (.iaload, 1) := by decide +kernel
theorem dLw_law_766 : decode kLw_law.2.1 766 = .ok (.aload_n 3, 1) := by decide +kernel
theorem dLw_law_767 : decode kLw_law.2.1 767 = .ok (.invokestatic 102, 3) := by decide +kernel
theorem dLw_law_770 : decode kLw_law.2.1 770 = .ok (.istore 5, 2) := by decide +kernel
theorem dLw_law_772 : decode kLw_law.2.1 772 = .ok (.aload_n 2, 1) := by decide +kernel
theorem dLw_law_773 : decode kLw_law.2.1 773 = .ok (.aload_n 0, 1) := by decide +kernel
theorem dLw_law_774 : decode kLw_law.2.1 774 = .ok (.iload 4, 2) := by decide +kernel
theorem dLw_law_776 : decode kLw_law.2.1 776 = .ok (.iconst 1, 1) := by decide +kernel
theorem dLw_law_777 : decode kLw_law.2.1 777 = .ok (.iadd, 1) := by decide +kernel
theorem dLw_law_778 : decode kLw_law.2.1 778 = .ok (.iaload, 1) := by decide +kernel
theorem dLw_law_779 : decode kLw_law.2.1 779 = .ok (.aload_n 0, 1) := by decide +kernel
theorem dLw_law_780 : decode kLw_law.2.1 780 = .ok (.iload 4, 2) := by decide +kernel
theorem dLw_law_782 : decode kLw_law.2.1 782 = .ok (.iconst 2, 1) := by decide +kernel
theorem dLw_law_783 : decode kLw_law.2.1 783 = .ok (.iadd, 1) := by decide +kernel
theorem dLw_law_784 : decode kLw_law.2.1 784 = .ok (.iaload, 1) := by decide +kernel
theorem dLw_law_785 : decode kLw_law.2.1 785 = .ok (.invokevirtual 104, 3) := by decide +kernel
theorem dLw_law_788 : decode kLw_law.2.1 788 = .ok (.istore 6, 2) := by decide +kernel
theorem dLw_law_790 : decode kLw_law.2.1 790 = .ok (.aload_n 2, 1) := by decide +kernel
theorem dLw_law_791 : decode kLw_law.2.1 791 = .ok (.invokevirtual 60, 3) := by decide +kernel
theorem dLw_law_794 : decode kLw_law.2.1 794 = .ok (.iload 5, 2) := by decide +kernel
theorem dLw_law_796 : decode kLw_law.2.1 796 = .ok (.if_icmp .eq 5, 3) := by decide +kernel
theorem dLw_law_799 : decode kLw_law.2.1 799 = .ok (.iconst 0, 1) := by decide +kernel
theorem dLw_law_800 : decode kLw_law.2.1 800 = .ok (.ireturn, 1) := by decide +kernel
theorem dLw_law_801 : decode kLw_law.2.1 801 = .ok (.iload 5, 2) := by decide +kernel
theorem dLw_law_803 : decode kLw_law.2.1 803 = .ok (.ifCond .ne 15, 3) := by decide +kernel
theorem dLw_law_806 : decode kLw_law.2.1 806 = .ok (.aload_n 3, 1) := by decide +kernel
theorem dLw_law_807 : decode kLw_law.2.1 807 = .ok (.iconst 0, 1) := by decide +kernel
theorem dLw_law_808 : decode kLw_law.2.1 808 = .ok (.laload, 1) := by decide +kernel
theorem dLw_law_809 : decode kLw_law.2.1 809 = .ok (.iload 6, 2) := by decide +kernel
theorem dLw_law_811 : decode kLw_law.2.1 811 = .ok (.i2l, 1) := by decide +kernel
theorem dLw_law_812 : decode kLw_law.2.1 812 = .ok (.lcmp, 1) := by decide +kernel
theorem dLw_law_813 : decode kLw_law.2.1 813 = .ok (.ifCond .eq 5, 3) := by decide +kernel
theorem dLw_law_816 : decode kLw_law.2.1 816 = .ok (.iconst 0, 1) := by decide +kernel
theorem dLw_law_817 : decode kLw_law.2.1 817 = .ok (.ireturn, 1) := by decide +kernel
theorem dLw_law_818 : decode kLw_law.2.1 818 = .ok (.goto 28, 3) := by decide +kernel
theorem dLw_law_821 : decode kLw_law.2.1 821 = .ok (.aload_n 1, 1) := by decide +kernel
theorem dLw_law_822 : decode kLw_law.2.1 822 = .ok (.aload_n 0, 1) := by decide +kernel
theorem dLw_law_823 : decode kLw_law.2.1 823 = .ok (.iload 4, 2) := by decide +kernel
theorem dLw_law_825 : decode kLw_law.2.1 825 = .ok (.iconst 1, 1) := by decide +kernel
theorem dLw_law_826 : decode kLw_law.2.1 826 = .ok (.iadd, 1) := by decide +kernel
theorem dLw_law_827 : decode kLw_law.2.1 827 = .ok (.iaload, 1) := by decide +kernel
theorem dLw_law_828 : decode kLw_law.2.1 828 = .ok (.invokevirtual 105, 3) := by decide +kernel
theorem dLw_law_831 : decode kLw_law.2.1 831 = .ok (.aload_n 2, 1) := by decide +kernel
theorem dLw_law_832 : decode kLw_law.2.1 832 = .ok (.aload_n 0, 1) := by decide +kernel
theorem dLw_law_833 : decode kLw_law.2.1 833 = .ok (.iload 4, 2) := by decide +kernel
theorem dLw_law_835 : decode kLw_law.2.1 835 = .ok (.iconst 1, 1) := by decide +kernel
theorem dLw_law_836 : decode kLw_law.2.1 836 = .ok (.iadd, 1) := by decide +kernel
theorem dLw_law_837 : decode kLw_law.2.1 837 = .ok (.iaload, 1) := by decide +kernel
theorem dLw_law_838 : decode kLw_law.2.1 838 = .ok (.invokevirtual 108, 3) := by decide +kernel
theorem dLw_law_841 : decode kLw_law.2.1 841 = .ok (.if_icmp .eq 5, 3) := by decide +kernel
theorem dLw_law_844 : decode kLw_law.2.1 844 = .ok (.iconst 0, 1) := by decide +kernel
theorem dLw_law_845 : decode kLw_law.2.1 845 = .ok (.ireturn, 1) := by decide +kernel
theorem dLw_law_846 : decode kLw_law.2.1 846 = .ok (.iinc 4 6, 3) := by decide +kernel
theorem dLw_law_849 : decode kLw_law.2.1 849 = .ok (.goto (-826), 3) := by decide +kernel
theorem dLw_law_852 : decode kLw_law.2.1 852 = .ok (.iconst 1, 1) := by decide +kernel
theorem dLw_law_853 : decode kLw_law.2.1 853 = .ok (.ireturn, 1) := by decide +kernel
theorem tLw_feed : Cond.static kLw_feed.1 ∈ pm_TS := pm_in 952 (by decide +kernel) rfl
theorem tLw_end : Cond.static kLw_end.1 ∈ pm_TS := pm_in 1030 (by decide +kernel) rfl
theorem tLw_holds : Cond.static kLw_holds.1 ∈ pm_TS := pm_in 1053 (by decide +kernel) rfl
theorem tLw_states : Cond.static kLw_states.1 ∈ pm_TS := pm_in 1084 (by decide +kernel) rfl
theorem tLw_at : Cond.static kLw_at.1 ∈ pm_TS := pm_in 1101 (by decide +kernel) rfl
theorem tLw_trace : Cond.static kLw_trace.1 ∈ pm_TS := pm_in 1112 (by decide +kernel) rfl
theorem tLw_step : Cond.static kLw_step.1 ∈ pm_TS := pm_in 1127 (by decide +kernel) rfl
theorem tLw_tick : Cond.static kLw_tick.1 ∈ pm_TS := pm_in 1134 (by decide +kernel) rfl
theorem tLw_go : Cond.static kLw_go.1 ∈ pm_TS := pm_in 1146 (by decide +kernel) rfl
theorem tLw_value : Cond.static kLw_value.1 ∈ pm_TS := pm_in 1153 (by decide +kernel) rfl
theorem lLw_7 : pm_Lk "CircuitCheckerLaw" 7 kCh_feed 5 := ⟨wCh_feed, pm_in 1 (by decide +kernel) rfl, ⟨by decide +kernel, by decide +kernel, by decide +kernel⟩, by decide, Or.inl (pm_in 955 (by decide +kernel) rfl)⟩
theorem lLw_15 : pm_Lk "CircuitCheckerLaw" 15 kCh_end 1 := ⟨wCh_end, pm_in 1 (by decide +kernel) rfl, ⟨by decide +kernel, by decide +kernel, by decide +kernel⟩, by decide, Or.inl (pm_in 1033 (by decide +kernel) rfl)⟩
theorem lLw_21 : pm_Lk "CircuitCheckerLaw" 21 kCh_holds 1 := ⟨wCh_holds, pm_in 1 (by decide +kernel) rfl, ⟨by decide +kernel, by decide +kernel, by decide +kernel⟩, by decide, Or.inl (pm_in 1056 (by decide +kernel) rfl)⟩
theorem lLw_27 : pm_Lk "CircuitCheckerLaw" 27 kCh_states 1 := ⟨wCh_states, pm_in 1 (by decide +kernel) rfl, ⟨by decide +kernel, by decide +kernel, by decide +kernel⟩, by decide, Or.inl (pm_in 1086 (by decide +kernel) rfl)⟩
theorem lLw_30 : pm_Lk "CircuitCheckerLaw" 30 kCh_at 2 := ⟨wCh_at, pm_in 1 (by decide +kernel) rfl, ⟨by decide +kernel, by decide +kernel, by decide +kernel⟩, by decide, Or.inl (pm_in 1103 (by decide +kernel) rfl)⟩
theorem lLw_34 : pm_Lk "CircuitCheckerLaw" 34 kCh_trace 1 := ⟨wCh_trace, pm_in 1 (by decide +kernel) rfl, ⟨by decide +kernel, by decide +kernel, by decide +kernel⟩, by decide, Or.inl (pm_in 1114 (by decide +kernel) rfl)⟩
theorem lLw_37 : pm_Lk "CircuitCheckerLaw" 37 kCh_step 2 := ⟨wCh_step, pm_in 1 (by decide +kernel) rfl, ⟨by decide +kernel, by decide +kernel, by decide +kernel⟩, by decide, Or.inl (pm_in 1129 (by decide +kernel) rfl)⟩
theorem lLw_41 : pm_Lk "CircuitCheckerLaw" 41 kCh_tick 1 := ⟨wCh_tick, pm_in 1 (by decide +kernel) rfl, ⟨by decide +kernel, by decide +kernel, by decide +kernel⟩, by decide, Or.inl (pm_in 1136 (by decide +kernel) rfl)⟩
theorem lLw_44 : pm_Lk "CircuitCheckerLaw" 44 kCh_go 1 := ⟨wCh_go, pm_in 1 (by decide +kernel) rfl, ⟨by decide +kernel, by decide +kernel, by decide +kernel⟩, by decide, Or.inl (pm_in 1148 (by decide +kernel) rfl)⟩
theorem lLw_47 : pm_Lk "CircuitCheckerLaw" 47 kCh_value 2 := ⟨wCh_value, pm_in 1 (by decide +kernel) rfl, ⟨by decide +kernel, by decide +kernel, by decide +kernel⟩, by decide, Or.inl (pm_in 1155 (by decide +kernel) rfl)⟩
theorem lLw_50 : pm_Lk "CircuitCheckerLaw" 50 kCh_init 0 := ⟨wCh_init, pm_in 1 (by decide +kernel) rfl, ⟨by decide +kernel, by decide +kernel, by decide +kernel⟩, by decide, Or.inl (pm_in 31 (by decide +kernel) rfl)⟩
theorem lLw_53 : pm_Lk "CircuitCheckerLaw" 53 kMo_init 0 := ⟨wMo_init, pm_in 14 (by decide +kernel) rfl, ⟨by decide +kernel, by decide +kernel, by decide +kernel⟩, by decide, Or.inl (pm_in 1165 (by decide +kernel) rfl)⟩
theorem lLw_54 : pm_LkW "CircuitCheckerLaw" 54 kLw_feed 7 := ⟨pm_in 953 (by decide +kernel) rfl, pm_in 0 (by decide +kernel) rfl, ⟨by decide +kernel, by decide +kernel, by decide +kernel⟩, by decide, Or.inl (pm_in 951 (by decide +kernel) rfl)⟩
theorem lLw_59 : pm_Lk "CircuitCheckerLaw" 59 kMo_feed 5 := ⟨wMo_feed, pm_in 14 (by decide +kernel) rfl, ⟨by decide +kernel, by decide +kernel, by decide +kernel⟩, by decide, Or.inl (pm_in 1340 (by decide +kernel) rfl)⟩
theorem lLw_60 : pm_Lk "CircuitCheckerLaw" 60 kMo_thrown 0 := ⟨wMo_thrown, pm_in 14 (by decide +kernel) rfl, ⟨by decide +kernel, by decide +kernel, by decide +kernel⟩, by decide, Or.inl (pm_in 1336 (by decide +kernel) rfl)⟩
theorem lLw_64 : pm_LkW "CircuitCheckerLaw" 64 kLw_end 3 := ⟨pm_in 1031 (by decide +kernel) rfl, pm_in 0 (by decide +kernel) rfl, ⟨by decide +kernel, by decide +kernel, by decide +kernel⟩, by decide, Or.inl (pm_in 1029 (by decide +kernel) rfl)⟩
theorem lLw_67 : pm_Lk "CircuitCheckerLaw" 67 kMo_end 1 := ⟨wMo_end, pm_in 14 (by decide +kernel) rfl, ⟨by decide +kernel, by decide +kernel, by decide +kernel⟩, by decide, Or.inl (pm_in 1349 (by decide +kernel) rfl)⟩
theorem lLw_68 : pm_Lk "CircuitCheckerLaw" 68 kCh_read 0 := ⟨wCh_read, pm_in 1 (by decide +kernel) rfl, ⟨by decide +kernel, by decide +kernel, by decide +kernel⟩, by decide, Or.inl (pm_in 607 (by decide +kernel) rfl)⟩
theorem lLw_71 : pm_LkW "CircuitCheckerLaw" 71 kMo_read 0 := ⟨pm_in 1356 (by decide +kernel) rfl, pm_in 14 (by decide +kernel) rfl, ⟨by decide +kernel, by decide +kernel, by decide +kernel⟩, by decide, Or.inl (pm_in 1353 (by decide +kernel) rfl)⟩
theorem lLw_72 : pm_Lk "CircuitCheckerLaw" 72 kCh_fault 1 := ⟨wCh_fault, pm_in 1 (by decide +kernel) rfl, ⟨by decide +kernel, by decide +kernel, by decide +kernel⟩, by decide, Or.inl (pm_in 939 (by decide +kernel) rfl)⟩
theorem lLw_75 : pm_Lk "CircuitCheckerLaw" 75 kMo_fault 1 := ⟨wMo_fault, pm_in 14 (by decide +kernel) rfl, ⟨by decide +kernel, by decide +kernel, by decide +kernel⟩, by decide, Or.inl (pm_in 1575 (by decide +kernel) rfl)⟩
theorem lLw_76 : pm_LkW "CircuitCheckerLaw" 76 kLw_holds 3 := ⟨pm_in 1054 (by decide +kernel) rfl, pm_in 0 (by decide +kernel) rfl, ⟨by decide +kernel, by decide +kernel, by decide +kernel⟩, by decide, Or.inl (pm_in 1052 (by decide +kernel) rfl)⟩
theorem lLw_78 : pm_Lk "CircuitCheckerLaw" 78 kMo_holds 1 := ⟨wMo_holds, pm_in 14 (by decide +kernel) rfl, ⟨by decide +kernel, by decide +kernel, by decide +kernel⟩, by decide, Or.inl (pm_in 1579 (by decide +kernel) rfl)⟩
theorem lLw_79 : pm_LkW "CircuitCheckerLaw" 79 kLw_states 3 := ⟨pm_in 1085 (by decide +kernel) rfl, pm_in 0 (by decide +kernel) rfl, ⟨by decide +kernel, by decide +kernel, by decide +kernel⟩, by decide, Or.inl (pm_in 1083 (by decide +kernel) rfl)⟩
theorem lLw_81 : pm_Lk "CircuitCheckerLaw" 81 kMo_states 1 := ⟨wMo_states, pm_in 14 (by decide +kernel) rfl, ⟨by decide +kernel, by decide +kernel, by decide +kernel⟩, by decide, Or.inl (pm_in 1587 (by decide +kernel) rfl)⟩
theorem lLw_82 : pm_LkW "CircuitCheckerLaw" 82 kLw_at 4 := ⟨pm_in 1102 (by decide +kernel) rfl, pm_in 0 (by decide +kernel) rfl, ⟨by decide +kernel, by decide +kernel, by decide +kernel⟩, by decide, Or.inl (pm_in 1100 (by decide +kernel) rfl)⟩
theorem lLw_85 : pm_Lk "CircuitCheckerLaw" 85 kMo_at 2 := ⟨wMo_at, pm_in 14 (by decide +kernel) rfl, ⟨by decide +kernel, by decide +kernel, by decide +kernel⟩, by decide, Or.inl (pm_in 1591 (by decide +kernel) rfl)⟩
theorem lLw_86 : pm_Lk "CircuitCheckerLaw" 86 kCh_reachable 0 := ⟨wCh_reachable, pm_in 1 (by decide +kernel) rfl, ⟨by decide +kernel, by decide +kernel, by decide +kernel⟩, by decide, Or.inl (pm_in 943 (by decide +kernel) rfl)⟩
theorem lLw_89 : pm_Lk "CircuitCheckerLaw" 89 kMo_reachable 0 := ⟨wMo_reachable, pm_in 14 (by decide +kernel) rfl, ⟨by decide +kernel, by decide +kernel, by decide +kernel⟩, by decide, Or.inl (pm_in 1595 (by decide +kernel) rfl)⟩
theorem lLw_90 : pm_LkW "CircuitCheckerLaw" 90 kLw_trace 3 := ⟨pm_in 1113 (by decide +kernel) rfl, pm_in 0 (by decide +kernel) rfl, ⟨by decide +kernel, by decide +kernel, by decide +kernel⟩, by decide, Or.inl (pm_in 1111 (by decide +kernel) rfl)⟩
theorem lLw_92 : pm_Lk "CircuitCheckerLaw" 92 kMo_trace 1 := ⟨wMo_trace, pm_in 14 (by decide +kernel) rfl, ⟨by decide +kernel, by decide +kernel, by decide +kernel⟩, by decide, Or.inl (pm_in 1599 (by decide +kernel) rfl)⟩
theorem lLw_93 : pm_LkW "CircuitCheckerLaw" 93 kLw_step 4 := ⟨pm_in 1128 (by decide +kernel) rfl, pm_in 0 (by decide +kernel) rfl, ⟨by decide +kernel, by decide +kernel, by decide +kernel⟩, by decide, Or.inl (pm_in 1126 (by decide +kernel) rfl)⟩
theorem lLw_95 : pm_Lk "CircuitCheckerLaw" 95 kMo_step 2 := ⟨wMo_step, pm_in 14 (by decide +kernel) rfl, ⟨by decide +kernel, by decide +kernel, by decide +kernel⟩, by decide, Or.inl (pm_in 1603 (by decide +kernel) rfl)⟩
theorem lLw_96 : pm_LkW "CircuitCheckerLaw" 96 kLw_tick 3 := ⟨pm_in 1135 (by decide +kernel) rfl, pm_in 0 (by decide +kernel) rfl, ⟨by decide +kernel, by decide +kernel, by decide +kernel⟩, by decide, Or.inl (pm_in 1133 (by decide +kernel) rfl)⟩
theorem lLw_98 : pm_Lk "CircuitCheckerLaw" 98 kMo_tick 1 := ⟨wMo_tick, pm_in 14 (by decide +kernel) rfl, ⟨by decide +kernel, by decide +kernel, by decide +kernel⟩, by decide, Or.inl (pm_in 1607 (by decide +kernel) rfl)⟩
theorem lLw_99 : pm_LkW "CircuitCheckerLaw" 99 kLw_go 3 := ⟨pm_in 1147 (by decide +kernel) rfl, pm_in 0 (by decide +kernel) rfl, ⟨by decide +kernel, by decide +kernel, by decide +kernel⟩, by decide, Or.inl (pm_in 1145 (by decide +kernel) rfl)⟩
theorem lLw_101 : pm_Lk "CircuitCheckerLaw" 101 kMo_go 1 := ⟨wMo_go, pm_in 14 (by decide +kernel) rfl, ⟨by decide +kernel, by decide +kernel, by decide +kernel⟩, by decide, Or.inl (pm_in 1611 (by decide +kernel) rfl)⟩
theorem lLw_102 : pm_LkW "CircuitCheckerLaw" 102 kLw_value 4 := ⟨pm_in 1154 (by decide +kernel) rfl, pm_in 0 (by decide +kernel) rfl, ⟨by decide +kernel, by decide +kernel, by decide +kernel⟩, by decide, Or.inl (pm_in 1152 (by decide +kernel) rfl)⟩
theorem lLw_104 : pm_Lk "CircuitCheckerLaw" 104 kMo_value2 2 := ⟨wMo_value2, pm_in 14 (by decide +kernel) rfl, ⟨by decide +kernel, by decide +kernel, by decide +kernel⟩, by decide, Or.inl (pm_in 1615 (by decide +kernel) rfl)⟩
theorem lLw_105 : pm_Lk "CircuitCheckerLaw" 105 kCh_count 1 := ⟨wCh_count, pm_in 1 (by decide +kernel) rfl, ⟨by decide +kernel, by decide +kernel, by decide +kernel⟩, by decide, Or.inl (pm_in 947 (by decide +kernel) rfl)⟩
theorem lLw_108 : pm_Lk "CircuitCheckerLaw" 108 kMo_count 1 := ⟨wMo_count, pm_in 14 (by decide +kernel) rfl, ⟨by decide +kernel, by decide +kernel, by decide +kernel⟩, by decide, Or.inl (pm_in 1619 (by decide +kernel) rfl)⟩
theorem nLw_8 : pm_Cn "CircuitCheckerLaw" 8 0 8 := ⟨_, _, pY0, rfl, pW0, pY0_ok, by decide +kernel, pm_in 29 (by decide +kernel) rfl, pm_in 30 (by decide +kernel) rfl, pm_in 1 (by decide +kernel) rfl⟩
theorem nLw_51 : pm_Cn "CircuitCheckerLaw" 51 10 53 := ⟨_, _, pY10, rfl, pW10, pY10_ok, by decide +kernel, pm_in 1163 (by decide +kernel) rfl, pm_in 1164 (by decide +kernel) rfl, pm_in 14 (by decide +kernel) rfl⟩
theorem vMo_read : pm_Vt kMo_read := ⟨pm_in 1354 (by decide +kernel) rfl, pm_in 1355 (by decide +kernel) rfl⟩
theorem qLw_feed_12 (g : pmG) : pm_Ct g kLw_feed 11 12 19 := ⟨_, _, _, rfl, Or.inl ⟨_, _, (by decide +kernel : pm_hs kLw_feed.1 = (0, 16, 19, 13) :: []), by decide, rfl, by decide, pm_in 954 (by decide +kernel) rfl⟩⟩
theorem qLw_end_13 (g : pmG) : pm_Ct g kLw_end 4 13 12 := ⟨_, _, _, rfl, Or.inl ⟨_, _, (by decide +kernel : pm_hs kLw_end.1 = (0, 9, 12, 19) :: []), by decide, rfl, by decide, pm_in 1032 (by decide +kernel) rfl⟩⟩
theorem qLw_holds_14 (g : pmG) : pm_Ct g kLw_holds 4 14 19 := ⟨_, _, _, rfl, Or.inl ⟨_, _, (by decide +kernel : pm_hs kLw_holds.1 = (0, 16, 19, 25) :: []), by decide, rfl, by decide, pm_in 1055 (by decide +kernel) rfl⟩⟩
theorem qLw_states_14 (g : pmG) : pm_Ct g kLw_states 4 14 12 := ⟨_, _, _, rfl, Or.inl ⟨_, _, (by decide +kernel : pm_hs kLw_states.1 = (0, 9, 12, 25) :: []), by decide, rfl, by decide, pm_in 1055 (by decide +kernel) rfl⟩⟩
theorem qLw_at_14 (g : pmG) : pm_Ct g kLw_at 5 14 20 := ⟨_, _, _, rfl, Or.inl ⟨_, _, (by decide +kernel : pm_hs kLw_at.1 = (0, 17, 20, 25) :: []), by decide, rfl, by decide, pm_in 1055 (by decide +kernel) rfl⟩⟩
theorem qLw_trace_14 (g : pmG) : pm_Ct g kLw_trace 4 14 12 := ⟨_, _, _, rfl, Or.inl ⟨_, _, (by decide +kernel : pm_hs kLw_trace.1 = (0, 9, 12, 25) :: []), by decide, rfl, by decide, pm_in 1055 (by decide +kernel) rfl⟩⟩
theorem qLw_step_14 (g : pmG) : pm_Ct g kLw_step 5 14 13 := ⟨_, _, _, rfl, Or.inl ⟨_, _, (by decide +kernel : pm_hs kLw_step.1 = (0, 10, 13, 25) :: [(0, 10, 17, 19)]), by decide, rfl, by decide, pm_in 1055 (by decide +kernel) rfl⟩⟩
theorem qLw_step_13 (g : pmG) : pm_Ct g kLw_step 5 13 17 := ⟨_, _, _, rfl, Or.inr ⟨_, _, _, (by decide +kernel : pm_hs kLw_step.1 = (0, 10, 13, 25) :: (0, 10, 17, 19) :: []), by decide, by decide, rfl, pm_in 1055 (by decide +kernel) rfl, by decide, rfl, by decide, pm_in 1032 (by decide +kernel) rfl⟩⟩
theorem qLw_tick_13 (g : pmG) : pm_Ct g kLw_tick 4 13 12 := ⟨_, _, _, rfl, Or.inl ⟨_, _, (by decide +kernel : pm_hs kLw_tick.1 = (0, 9, 12, 19) :: []), by decide, rfl, by decide, pm_in 1032 (by decide +kernel) rfl⟩⟩
theorem qLw_go_13 (g : pmG) : pm_Ct g kLw_go 4 13 12 := ⟨_, _, _, rfl, Or.inl ⟨_, _, (by decide +kernel : pm_hs kLw_go.1 = (0, 9, 12, 19) :: []), by decide, rfl, by decide, pm_in 1032 (by decide +kernel) rfl⟩⟩
theorem qLw_value_14 (g : pmG) : pm_Ct g kLw_value 5 14 13 := ⟨_, _, _, rfl, Or.inl ⟨_, _, (by decide +kernel : pm_hs kLw_value.1 = (0, 10, 13, 25) :: [(0, 10, 17, 19)]), by decide, rfl, by decide, pm_in 1055 (by decide +kernel) rfl⟩⟩
theorem qLw_value_13 (g : pmG) : pm_Ct g kLw_value 5 13 17 := ⟨_, _, _, rfl, Or.inr ⟨_, _, _, (by decide +kernel : pm_hs kLw_value.1 = (0, 10, 13, 25) :: (0, 10, 17, 19) :: []), by decide, by decide, rfl, pm_in 1055 (by decide +kernel) rfl, by decide, rfl, by decide, pm_in 1032 (by decide +kernel) rfl⟩⟩
theorem lw_K (X : List (Nat × Nat)) : pk_K ++ (mk_K0 ++ X) = mk_K ++ X := by
  unfold mk_K
  rw [List.append_assoc]
theorem lw_len : mk_K.length = 356 := by decide +kernel
theorem lw_out (E : List (Nat × Nat)) : (mk_K ++ (4, 1) :: E)[356]? = some (4, 1) := by
  rw [List.getElem?_append_right (Nat.le_of_eq lw_len), lw_len]; rfl
theorem lw_cmp (x : Int64) : lg_cmp x x = 0 := by
  unfold lg_cmp
  simp
