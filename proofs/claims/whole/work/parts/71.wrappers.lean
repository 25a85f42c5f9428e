set_option maxHeartbeats 4000000 in
set_option maxRecDepth 100000 in
theorem Lw_feed_r (g : pmG) (ht : g.1.stackTraces = false) (d : Nat) (E : List (Nat × Nat)) (R : Nat → Nat → Value) (hR : pk_R R) (x0 : Int32) (x1 : Int32) (x2 : Int32) (x3 : Int32) (x4 : Int32) (I : Nat → Nat → Int32) (J : Nat → Nat → Int64) (hp : pCh_feed x0 x1 x2 x3 x4 I J) (he : (fCh_feed x0 x1 x2 x3 x4 I J).1 = 0) : pmCW g kLw_feed (d + 7) 0 0 [.ref 0, .int x0, .int x1, .int x2, .int x3, .int x4, .ref 356] (mk_K ++ (4, 1) :: E, R, I, J) (.returned (some (.int 0))) (mk_K ++ (4, 1) :: E, R, (fCh_feed x0 x1 x2 x3 x4 I J).2.2, pm_u J 356 0 ((fCh_feed x0 x1 x2 x3 x4 I J).2.1).toInt64) := by
  have hc := Ch_feed_ok g ht d (mk_K0 ++ (4, 1) :: E) R hR  x0 x1 x2 x3 x4 I J hp
  rw [lw_K, show px_g (mk_K ++ (4, 1) :: E) R (fCh_feed x0 x1 x2 x3 x4 I J).1 (some (.int (fCh_feed x0 x1 x2 x3 x4 I J).2.1)) (fCh_feed x0 x1 x2 x3 x4 I J).2.2 J = (.returned (some (.int (fCh_feed x0 x1 x2 x3 x4 I J).2.1)), (mk_K ++ (4, 1) :: E, R, (fCh_feed x0 x1 x2 x3 x4 I J).2.2, J), 0, 0) from if_pos he] at hc
  refine pmCW.of (by decide) (Nat.le_of_ble_eq_true rfl) ?_
  refine pm_aload dLw_feed_0 rfl ?_
  refine pm_iconst (v := 0) dLw_feed_2 (by decide) ?_
  refine pm_aload_n dLw_feed_3 rfl ?_
  refine pm_iload_n dLw_feed_4 rfl ?_
  refine pm_iload_n dLw_feed_5 rfl ?_
  refine pm_iload_n dLw_feed_6 rfl ?_
  refine pm_iload dLw_feed_7 rfl ?_
  refine pm_iload dLw_feed_9 rfl ?_
  refine pm_callV dLw_feed_11 lLw_7 vCh_feed ⟨_, _, rfl⟩ hc rfl rfl rfl (Nat.le_of_ble_eq_true rfl) (Nat.le_refl _) (Nat.le_refl _) ?_
  refine pm_i2l dLw_feed_14 ?_
  refine pm_last dLw_feed_15 (lw_out E) (by unfold vp_in; decide) ?_
  refine pm_goto 23 dLw_feed_16 (by decide) ?_
  refine pm_iconst (v := 0) dLw_feed_23 (by decide) ?_
  exact pm_iret dLw_feed_24 rfl rfl rfl
set_option maxHeartbeats 4000000 in
set_option maxRecDepth 100000 in
theorem Lw_feed_t12 (g : pmG) (ht : g.1.stackTraces = false) (d : Nat) (E : List (Nat × Nat)) (R : Nat → Nat → Value) (hR : pk_R R) (x0 : Int32) (x1 : Int32) (x2 : Int32) (x3 : Int32) (x4 : Int32) (I : Nat → Nat → Int32) (J : Nat → Nat → Int64) (hp : pCh_feed x0 x1 x2 x3 x4 I J) (he : (fCh_feed x0 x1 x2 x3 x4 I J).1 = 12) : pmCW g kLw_feed (d + 7) 1 6 [.ref 0, .int x0, .int x1, .int x2, .int x3, .int x4, .ref 356] (mk_K ++ (4, 1) :: E, R, I, J) (.returned (some (.int 1))) (mk_K ++ (4, 1) :: (E ++ [(0, 12)]), R, (fCh_feed x0 x1 x2 x3 x4 I J).2.2, J) := by
  have hc := Ch_feed_ok g ht d (mk_K0 ++ (4, 1) :: E) R hR  x0 x1 x2 x3 x4 I J hp
  rw [lw_K, show px_g (mk_K ++ (4, 1) :: E) R (fCh_feed x0 x1 x2 x3 x4 I J).1 (some (.int (fCh_feed x0 x1 x2 x3 x4 I J).2.1)) (fCh_feed x0 x1 x2 x3 x4 I J).2.2 J = (.threw (mk_K ++ (4, 1) :: E).length, ((mk_K ++ (4, 1) :: E) ++ [(0, (fCh_feed x0 x1 x2 x3 x4 I J).1)], R, (fCh_feed x0 x1 x2 x3 x4 I J).2.2, J), 1, 6) from if_neg (by rw [he]; decide), he] at hc
  have hkx : ((mk_K ++ (4, 1) :: E) ++ [(0, 12)])[(mk_K ++ (4, 1) :: E).length]? = some (0, 12) := by rw [List.getElem?_append_right (Nat.le_refl _), Nat.sub_self]; rfl
  refine pmCW.of (by decide) (Nat.le_of_ble_eq_true rfl) ?_
  refine pm_aload dLw_feed_0 rfl ?_
  refine pm_iconst (v := 0) dLw_feed_2 (by decide) ?_
  refine pm_aload_n dLw_feed_3 rfl ?_
  refine pm_iload_n dLw_feed_4 rfl ?_
  refine pm_iload_n dLw_feed_5 rfl ?_
  refine pm_iload_n dLw_feed_6 rfl ?_
  refine pm_iload dLw_feed_7 rfl ?_
  refine pm_iload dLw_feed_9 rfl ?_
  refine pm_callVC (rc1 := 0) (rs1 := 0) dLw_feed_11 lLw_7 vCh_feed ⟨_, _, rfl⟩ hc rfl rfl rfl (Nat.le_of_ble_eq_true rfl) (Nat.le_refl _) (Nat.le_refl _) (qLw_feed_12 g) hkx ?_
  refine pm_astore dLw_feed_19 (by decide) rfl ?_
  refine pm_iconst (v := 1) dLw_feed_21 (by decide) ?_
  exact pm_iret dLw_feed_22 rfl rfl (by rw [List.append_assoc]; rfl)
set_option maxHeartbeats 4000000 in
set_option maxRecDepth 100000 in
theorem Lw_end_r (g : pmG) (ht : g.1.stackTraces = false) (d : Nat) (E : List (Nat × Nat)) (R : Nat → Nat → Value) (hR : pk_R R) (x0 : Int32) (I : Nat → Nat → Int32) (J : Nat → Nat → Int64) (hp : pCh_end x0 I J) (he : (fCh_end x0 I J).1 = 0) : pmCW g kLw_end (d + 7) 0 0 [.ref 0, .int x0, .ref 356] (mk_K ++ (4, 1) :: E, R, I, J) (.returned (some (.int 0))) (mk_K ++ (4, 1) :: E, R, (fCh_end x0 I J).2.2, pm_u J 356 0 ((fCh_end x0 I J).2.1).toInt64) := by
  have hc := Ch_end_ok g ht d (mk_K0 ++ (4, 1) :: E) R hR  x0 I J hp
  rw [lw_K, show px_g (mk_K ++ (4, 1) :: E) R (fCh_end x0 I J).1 (some (.int (fCh_end x0 I J).2.1)) (fCh_end x0 I J).2.2 J = (.returned (some (.int (fCh_end x0 I J).2.1)), (mk_K ++ (4, 1) :: E, R, (fCh_end x0 I J).2.2, J), 0, 0) from if_pos he] at hc
  refine pmCW.of (by decide) (Nat.le_of_ble_eq_true rfl) ?_
  refine pm_aload_n dLw_end_0 rfl ?_
  refine pm_iconst (v := 0) dLw_end_1 (by decide) ?_
  refine pm_aload_n dLw_end_2 rfl ?_
  refine pm_iload_n dLw_end_3 rfl ?_
  refine pm_callV dLw_end_4 lLw_15 vCh_end ⟨_, _, rfl⟩ hc rfl rfl rfl (Nat.le_of_ble_eq_true rfl) (Nat.le_refl _) (Nat.le_refl _) ?_
  refine pm_i2l dLw_end_7 ?_
  refine pm_last dLw_end_8 (lw_out E) (by unfold vp_in; decide) ?_
  refine pm_goto 15 dLw_end_9 (by decide) ?_
  refine pm_iconst (v := 0) dLw_end_15 (by decide) ?_
  exact pm_iret dLw_end_16 rfl rfl rfl
set_option maxHeartbeats 4000000 in
set_option maxRecDepth 100000 in
theorem Lw_end_t13 (g : pmG) (ht : g.1.stackTraces = false) (d : Nat) (E : List (Nat × Nat)) (R : Nat → Nat → Value) (hR : pk_R R) (x0 : Int32) (I : Nat → Nat → Int32) (J : Nat → Nat → Int64) (hp : pCh_end x0 I J) (he : (fCh_end x0 I J).1 = 13) : pmCW g kLw_end (d + 7) 1 6 [.ref 0, .int x0, .ref 356] (mk_K ++ (4, 1) :: E, R, I, J) (.returned (some (.int 1))) (mk_K ++ (4, 1) :: (E ++ [(0, 13)]), R, (fCh_end x0 I J).2.2, J) := by
  have hc := Ch_end_ok g ht d (mk_K0 ++ (4, 1) :: E) R hR  x0 I J hp
  rw [lw_K, show px_g (mk_K ++ (4, 1) :: E) R (fCh_end x0 I J).1 (some (.int (fCh_end x0 I J).2.1)) (fCh_end x0 I J).2.2 J = (.threw (mk_K ++ (4, 1) :: E).length, ((mk_K ++ (4, 1) :: E) ++ [(0, (fCh_end x0 I J).1)], R, (fCh_end x0 I J).2.2, J), 1, 6) from if_neg (by rw [he]; decide), he] at hc
  have hkx : ((mk_K ++ (4, 1) :: E) ++ [(0, 13)])[(mk_K ++ (4, 1) :: E).length]? = some (0, 13) := by rw [List.getElem?_append_right (Nat.le_refl _), Nat.sub_self]; rfl
  refine pmCW.of (by decide) (Nat.le_of_ble_eq_true rfl) ?_
  refine pm_aload_n dLw_end_0 rfl ?_
  refine pm_iconst (v := 0) dLw_end_1 (by decide) ?_
  refine pm_aload_n dLw_end_2 rfl ?_
  refine pm_iload_n dLw_end_3 rfl ?_
  refine pm_callVC (rc1 := 0) (rs1 := 0) dLw_end_4 lLw_15 vCh_end ⟨_, _, rfl⟩ hc rfl rfl rfl (Nat.le_of_ble_eq_true rfl) (Nat.le_refl _) (Nat.le_refl _) (qLw_end_13 g) hkx ?_
  refine pm_astore_n dLw_end_12 (by decide) rfl ?_
  refine pm_iconst (v := 1) dLw_end_13 (by decide) ?_
  exact pm_iret dLw_end_14 rfl rfl (by rw [List.append_assoc]; rfl)
set_option maxHeartbeats 4000000 in
set_option maxRecDepth 100000 in
theorem Lw_holds_r (g : pmG) (ht : g.1.stackTraces = false) (d : Nat) (E : List (Nat × Nat)) (R : Nat → Nat → Value) (hR : pk_R R) (x0 : Int32) (I : Nat → Nat → Int32) (J : Nat → Nat → Int64) (hp : pCh_holds x0 I J) (he : (fCh_holds x0 I J).1 = 0) : pmCW g kLw_holds (d + 7) 0 0 [.ref 0, .int x0, .ref 356] (mk_K ++ (4, 1) :: E, R, I, J) (.returned (some (.int 0))) (mk_K ++ (4, 1) :: E, R, I, pm_u J 356 0 (if (fCh_holds x0 I J).2 = 0 then 0 else 1)) := by
  have hc := Ch_holds_ok g ht d (mk_K0 ++ (4, 1) :: E) R hR  x0 I J hp
  rw [lw_K, show px_g (mk_K ++ (4, 1) :: E) R (fCh_holds x0 I J).1 (some (.int (fCh_holds x0 I J).2)) I J = (.returned (some (.int (fCh_holds x0 I J).2)), (mk_K ++ (4, 1) :: E, R, I, J), 0, 0) from if_pos he] at hc
  refine pmCW.of (by decide) (Nat.le_of_ble_eq_true rfl) ?_
  refine pm_aload_n dLw_holds_0 rfl ?_
  refine pm_iconst (v := 0) dLw_holds_1 (by decide) ?_
  refine pm_aload_n dLw_holds_2 rfl ?_
  refine pm_iload_n dLw_holds_3 rfl ?_
  refine pm_callV dLw_holds_4 lLw_21 vCh_holds ⟨_, _, rfl⟩ hc rfl rfl rfl (Nat.le_of_ble_eq_true rfl) (Nat.le_refl _) (Nat.le_refl _) ?_
  refine pm_if_eq 14 dLw_holds_7 (by decide) (fun h9 => ?_) (fun h9 => ?_)
  ·
    refine pm_lconst (v := 0) dLw_holds_14 (by decide) ?_
    refine pm_last dLw_holds_15 (lw_out E) (by unfold vp_in; decide) ?_
    refine pm_goto 22 dLw_holds_16 (by decide) ?_
    refine pm_iconst (v := 0) dLw_holds_22 (by decide) ?_
    exact pm_iret dLw_holds_23 rfl rfl (by rw [if_pos h9]; rfl)
  ·
    refine pm_lconst (v := 1) dLw_holds_10 (by decide) ?_
    refine pm_goto 15 dLw_holds_11 (by decide) ?_
    refine pm_last dLw_holds_15 (lw_out E) (by unfold vp_in; decide) ?_
    refine pm_goto 22 dLw_holds_16 (by decide) ?_
    refine pm_iconst (v := 0) dLw_holds_22 (by decide) ?_
    exact pm_iret dLw_holds_23 rfl rfl (by rw [if_neg h9]; rfl)
set_option maxHeartbeats 4000000 in
set_option maxRecDepth 100000 in
theorem Lw_holds_t14 (g : pmG) (ht : g.1.stackTraces = false) (d : Nat) (E : List (Nat × Nat)) (R : Nat → Nat → Value) (hR : pk_R R) (x0 : Int32) (I : Nat → Nat → Int32) (J : Nat → Nat → Int64) (hp : pCh_holds x0 I J) (he : (fCh_holds x0 I J).1 = 14) : pmCW g kLw_holds (d + 7) 1 6 [.ref 0, .int x0, .ref 356] (mk_K ++ (4, 1) :: E, R, I, J) (.returned (some (.int 1))) (mk_K ++ (4, 1) :: (E ++ [(0, 14)]), R, I, J) := by
  have hc := Ch_holds_ok g ht d (mk_K0 ++ (4, 1) :: E) R hR  x0 I J hp
  rw [lw_K, show px_g (mk_K ++ (4, 1) :: E) R (fCh_holds x0 I J).1 (some (.int (fCh_holds x0 I J).2)) I J = (.threw (mk_K ++ (4, 1) :: E).length, ((mk_K ++ (4, 1) :: E) ++ [(0, (fCh_holds x0 I J).1)], R, I, J), 1, 6) from if_neg (by rw [he]; decide), he] at hc
  have hkx : ((mk_K ++ (4, 1) :: E) ++ [(0, 14)])[(mk_K ++ (4, 1) :: E).length]? = some (0, 14) := by rw [List.getElem?_append_right (Nat.le_refl _), Nat.sub_self]; rfl
  refine pmCW.of (by decide) (Nat.le_of_ble_eq_true rfl) ?_
  refine pm_aload_n dLw_holds_0 rfl ?_
  refine pm_iconst (v := 0) dLw_holds_1 (by decide) ?_
  refine pm_aload_n dLw_holds_2 rfl ?_
  refine pm_iload_n dLw_holds_3 rfl ?_
  refine pm_callVC (rc1 := 0) (rs1 := 0) dLw_holds_4 lLw_21 vCh_holds ⟨_, _, rfl⟩ hc rfl rfl rfl (Nat.le_of_ble_eq_true rfl) (Nat.le_refl _) (Nat.le_refl _) (qLw_holds_14 g) hkx ?_
  refine pm_astore_n dLw_holds_19 (by decide) rfl ?_
  refine pm_iconst (v := 1) dLw_holds_20 (by decide) ?_
  exact pm_iret dLw_holds_21 rfl rfl (by rw [List.append_assoc]; rfl)
set_option maxHeartbeats 4000000 in
set_option maxRecDepth 100000 in
theorem Lw_states_r (g : pmG) (ht : g.1.stackTraces = false) (d : Nat) (E : List (Nat × Nat)) (R : Nat → Nat → Value) (hR : pk_R R) (x0 : Int32) (I : Nat → Nat → Int32) (J : Nat → Nat → Int64) (hp : pCh_states x0 I J) (he : (fCh_states x0 I J).1 = 0) : pmCW g kLw_states (d + 7) 0 0 [.ref 0, .int x0, .ref 356] (mk_K ++ (4, 1) :: E, R, I, J) (.returned (some (.int 0))) (mk_K ++ (4, 1) :: E, R, I, pm_u J 356 0 ((fCh_states x0 I J).2).toInt64) := by
  have hc := Ch_states_ok g ht d (mk_K0 ++ (4, 1) :: E) R hR  x0 I J hp
  rw [lw_K, show px_g (mk_K ++ (4, 1) :: E) R (fCh_states x0 I J).1 (some (.int (fCh_states x0 I J).2)) I J = (.returned (some (.int (fCh_states x0 I J).2)), (mk_K ++ (4, 1) :: E, R, I, J), 0, 0) from if_pos he] at hc
  refine pmCW.of (by decide) (Nat.le_of_ble_eq_true rfl) ?_
  refine pm_aload_n dLw_states_0 rfl ?_
  refine pm_iconst (v := 0) dLw_states_1 (by decide) ?_
  refine pm_aload_n dLw_states_2 rfl ?_
  refine pm_iload_n dLw_states_3 rfl ?_
  refine pm_callV dLw_states_4 lLw_27 vCh_states ⟨_, _, rfl⟩ hc rfl rfl rfl (Nat.le_of_ble_eq_true rfl) (Nat.le_refl _) (Nat.le_refl _) ?_
  refine pm_i2l dLw_states_7 ?_
  refine pm_last dLw_states_8 (lw_out E) (by unfold vp_in; decide) ?_
  refine pm_goto 15 dLw_states_9 (by decide) ?_
  refine pm_iconst (v := 0) dLw_states_15 (by decide) ?_
  exact pm_iret dLw_states_16 rfl rfl rfl
set_option maxHeartbeats 4000000 in
set_option maxRecDepth 100000 in
theorem Lw_states_t14 (g : pmG) (ht : g.1.stackTraces = false) (d : Nat) (E : List (Nat × Nat)) (R : Nat → Nat → Value) (hR : pk_R R) (x0 : Int32) (I : Nat → Nat → Int32) (J : Nat → Nat → Int64) (hp : pCh_states x0 I J) (he : (fCh_states x0 I J).1 = 14) : pmCW g kLw_states (d + 7) 1 6 [.ref 0, .int x0, .ref 356] (mk_K ++ (4, 1) :: E, R, I, J) (.returned (some (.int 1))) (mk_K ++ (4, 1) :: (E ++ [(0, 14)]), R, I, J) := by
  have hc := Ch_states_ok g ht d (mk_K0 ++ (4, 1) :: E) R hR  x0 I J hp
  rw [lw_K, show px_g (mk_K ++ (4, 1) :: E) R (fCh_states x0 I J).1 (some (.int (fCh_states x0 I J).2)) I J = (.threw (mk_K ++ (4, 1) :: E).length, ((mk_K ++ (4, 1) :: E) ++ [(0, (fCh_states x0 I J).1)], R, I, J), 1, 6) from if_neg (by rw [he]; decide), he] at hc
  have hkx : ((mk_K ++ (4, 1) :: E) ++ [(0, 14)])[(mk_K ++ (4, 1) :: E).length]? = some (0, 14) := by rw [List.getElem?_append_right (Nat.le_refl _), Nat.sub_self]; rfl
  refine pmCW.of (by decide) (Nat.le_of_ble_eq_true rfl) ?_
  refine pm_aload_n dLw_states_0 rfl ?_
  refine pm_iconst (v := 0) dLw_states_1 (by decide) ?_
  refine pm_aload_n dLw_states_2 rfl ?_
  refine pm_iload_n dLw_states_3 rfl ?_
  refine pm_callVC (rc1 := 0) (rs1 := 0) dLw_states_4 lLw_27 vCh_states ⟨_, _, rfl⟩ hc rfl rfl rfl (Nat.le_of_ble_eq_true rfl) (Nat.le_refl _) (Nat.le_refl _) (qLw_states_14 g) hkx ?_
  refine pm_astore_n dLw_states_12 (by decide) rfl ?_
  refine pm_iconst (v := 1) dLw_states_13 (by decide) ?_
  exact pm_iret dLw_states_14 rfl rfl (by rw [List.append_assoc]; rfl)
set_option maxHeartbeats 4000000 in
set_option maxRecDepth 100000 in
theorem Lw_at_r (g : pmG) (ht : g.1.stackTraces = false) (d : Nat) (E : List (Nat × Nat)) (R : Nat → Nat → Value) (hR : pk_R R) (x0 : Int32) (x1 : Int32) (I : Nat → Nat → Int32) (J : Nat → Nat → Int64) (hp : pCh_at x0 x1 I J) (he : (fCh_at x0 x1 I J).1 = 0) : pmCW g kLw_at (d + 7) 0 0 [.ref 0, .int x0, .int x1, .ref 356] (mk_K ++ (4, 1) :: E, R, I, J) (.returned (some (.int 0))) (mk_K ++ (4, 1) :: E, R, I, pm_u J 356 0 (if (fCh_at x0 x1 I J).2 = 0 then 0 else 1)) := by
  have hc := Ch_at_ok g ht d (mk_K0 ++ (4, 1) :: E) R hR  x0 x1 I J hp
  rw [lw_K, show px_g (mk_K ++ (4, 1) :: E) R (fCh_at x0 x1 I J).1 (some (.int (fCh_at x0 x1 I J).2)) I J = (.returned (some (.int (fCh_at x0 x1 I J).2)), (mk_K ++ (4, 1) :: E, R, I, J), 0, 0) from if_pos he] at hc
  refine pmCW.of (by decide) (Nat.le_of_ble_eq_true rfl) ?_
  refine pm_aload_n dLw_at_0 rfl ?_
  refine pm_iconst (v := 0) dLw_at_1 (by decide) ?_
  refine pm_aload_n dLw_at_2 rfl ?_
  refine pm_iload_n dLw_at_3 rfl ?_
  refine pm_iload_n dLw_at_4 rfl ?_
  refine pm_callV dLw_at_5 lLw_30 vCh_at ⟨_, _, rfl⟩ hc rfl rfl rfl (Nat.le_of_ble_eq_true rfl) (Nat.le_refl _) (Nat.le_refl _) ?_
  refine pm_if_eq 15 dLw_at_8 (by decide) (fun h9 => ?_) (fun h9 => ?_)
  ·
    refine pm_lconst (v := 0) dLw_at_15 (by decide) ?_
    refine pm_last dLw_at_16 (lw_out E) (by unfold vp_in; decide) ?_
    refine pm_goto 24 dLw_at_17 (by decide) ?_
    refine pm_iconst (v := 0) dLw_at_24 (by decide) ?_
    exact pm_iret dLw_at_25 rfl rfl (by rw [if_pos h9]; rfl)
  ·
    refine pm_lconst (v := 1) dLw_at_11 (by decide) ?_
    refine pm_goto 16 dLw_at_12 (by decide) ?_
    refine pm_last dLw_at_16 (lw_out E) (by unfold vp_in; decide) ?_
    refine pm_goto 24 dLw_at_17 (by decide) ?_
    refine pm_iconst (v := 0) dLw_at_24 (by decide) ?_
    exact pm_iret dLw_at_25 rfl rfl (by rw [if_neg h9]; rfl)
set_option maxHeartbeats 4000000 in
set_option maxRecDepth 100000 in
theorem Lw_at_t14 (g : pmG) (ht : g.1.stackTraces = false) (d : Nat) (E : List (Nat × Nat)) (R : Nat → Nat → Value) (hR : pk_R R) (x0 : Int32) (x1 : Int32) (I : Nat → Nat → Int32) (J : Nat → Nat → Int64) (hp : pCh_at x0 x1 I J) (he : (fCh_at x0 x1 I J).1 = 14) : pmCW g kLw_at (d + 7) 1 6 [.ref 0, .int x0, .int x1, .ref 356] (mk_K ++ (4, 1) :: E, R, I, J) (.returned (some (.int 1))) (mk_K ++ (4, 1) :: (E ++ [(0, 14)]), R, I, J) := by
  have hc := Ch_at_ok g ht d (mk_K0 ++ (4, 1) :: E) R hR  x0 x1 I J hp
  rw [lw_K, show px_g (mk_K ++ (4, 1) :: E) R (fCh_at x0 x1 I J).1 (some (.int (fCh_at x0 x1 I J).2)) I J = (.threw (mk_K ++ (4, 1) :: E).length, ((mk_K ++ (4, 1) :: E) ++ [(0, (fCh_at x0 x1 I J).1)], R, I, J), 1, 6) from if_neg (by rw [he]; decide), he] at hc
  have hkx : ((mk_K ++ (4, 1) :: E) ++ [(0, 14)])[(mk_K ++ (4, 1) :: E).length]? = some (0, 14) := by rw [List.getElem?_append_right (Nat.le_refl _), Nat.sub_self]; rfl
  refine pmCW.of (by decide) (Nat.le_of_ble_eq_true rfl) ?_
  refine pm_aload_n dLw_at_0 rfl ?_
  refine pm_iconst (v := 0) dLw_at_1 (by decide) ?_
  refine pm_aload_n dLw_at_2 rfl ?_
  refine pm_iload_n dLw_at_3 rfl ?_
  refine pm_iload_n dLw_at_4 rfl ?_
  refine pm_callVC (rc1 := 0) (rs1 := 0) dLw_at_5 lLw_30 vCh_at ⟨_, _, rfl⟩ hc rfl rfl rfl (Nat.le_of_ble_eq_true rfl) (Nat.le_refl _) (Nat.le_refl _) (qLw_at_14 g) hkx ?_
  refine pm_astore dLw_at_20 (by decide) rfl ?_
  refine pm_iconst (v := 1) dLw_at_22 (by decide) ?_
  exact pm_iret dLw_at_23 rfl rfl (by rw [List.append_assoc]; rfl)
set_option maxHeartbeats 4000000 in
set_option maxRecDepth 100000 in
theorem Lw_trace_r (g : pmG) (ht : g.1.stackTraces = false) (d : Nat) (E : List (Nat × Nat)) (R : Nat → Nat → Value) (hR : pk_R R) (x0 : Int32) (I : Nat → Nat → Int32) (J : Nat → Nat → Int64) (hp : pCh_trace x0 I J) (he : (fCh_trace x0 I J).1 = 0) : pmCW g kLw_trace (d + 7) 0 0 [.ref 0, .int x0, .ref 356] (mk_K ++ (4, 1) :: E, R, I, J) (.returned (some (.int 0))) (mk_K ++ (4, 1) :: E, R, (fCh_trace x0 I J).2.2, pm_u J 356 0 ((fCh_trace x0 I J).2.1).toInt64) := by
  have hc := Ch_trace_ok g ht d (mk_K0 ++ (4, 1) :: E) R hR  x0 I J hp
  rw [lw_K, show px_g (mk_K ++ (4, 1) :: E) R (fCh_trace x0 I J).1 (some (.int (fCh_trace x0 I J).2.1)) (fCh_trace x0 I J).2.2 J = (.returned (some (.int (fCh_trace x0 I J).2.1)), (mk_K ++ (4, 1) :: E, R, (fCh_trace x0 I J).2.2, J), 0, 0) from if_pos he] at hc
  refine pmCW.of (by decide) (Nat.le_of_ble_eq_true rfl) ?_
  refine pm_aload_n dLw_trace_0 rfl ?_
  refine pm_iconst (v := 0) dLw_trace_1 (by decide) ?_
  refine pm_aload_n dLw_trace_2 rfl ?_
  refine pm_iload_n dLw_trace_3 rfl ?_
  refine pm_callV dLw_trace_4 lLw_34 vCh_trace ⟨_, _, rfl⟩ hc rfl rfl rfl (Nat.le_of_ble_eq_true rfl) (Nat.le_refl _) (Nat.le_refl _) ?_
  refine pm_i2l dLw_trace_7 ?_
  refine pm_last dLw_trace_8 (lw_out E) (by unfold vp_in; decide) ?_
  refine pm_goto 15 dLw_trace_9 (by decide) ?_
  refine pm_iconst (v := 0) dLw_trace_15 (by decide) ?_
  exact pm_iret dLw_trace_16 rfl rfl rfl
set_option maxHeartbeats 4000000 in
set_option maxRecDepth 100000 in
theorem Lw_trace_t14 (g : pmG) (ht : g.1.stackTraces = false) (d : Nat) (E : List (Nat × Nat)) (R : Nat → Nat → Value) (hR : pk_R R) (x0 : Int32) (I : Nat → Nat → Int32) (J : Nat → Nat → Int64) (hp : pCh_trace x0 I J) (he : (fCh_trace x0 I J).1 = 14) : pmCW g kLw_trace (d + 7) 1 6 [.ref 0, .int x0, .ref 356] (mk_K ++ (4, 1) :: E, R, I, J) (.returned (some (.int 1))) (mk_K ++ (4, 1) :: (E ++ [(0, 14)]), R, (fCh_trace x0 I J).2.2, J) := by
  have hc := Ch_trace_ok g ht d (mk_K0 ++ (4, 1) :: E) R hR  x0 I J hp
  rw [lw_K, show px_g (mk_K ++ (4, 1) :: E) R (fCh_trace x0 I J).1 (some (.int (fCh_trace x0 I J).2.1)) (fCh_trace x0 I J).2.2 J = (.threw (mk_K ++ (4, 1) :: E).length, ((mk_K ++ (4, 1) :: E) ++ [(0, (fCh_trace x0 I J).1)], R, (fCh_trace x0 I J).2.2, J), 1, 6) from if_neg (by rw [he]; decide), he] at hc
  have hkx : ((mk_K ++ (4, 1) :: E) ++ [(0, 14)])[(mk_K ++ (4, 1) :: E).length]? = some (0, 14) := by rw [List.getElem?_append_right (Nat.le_refl _), Nat.sub_self]; rfl
  refine pmCW.of (by decide) (Nat.le_of_ble_eq_true rfl) ?_
  refine pm_aload_n dLw_trace_0 rfl ?_
  refine pm_iconst (v := 0) dLw_trace_1 (by decide) ?_
  refine pm_aload_n dLw_trace_2 rfl ?_
  refine pm_iload_n dLw_trace_3 rfl ?_
  refine pm_callVC (rc1 := 0) (rs1 := 0) dLw_trace_4 lLw_34 vCh_trace ⟨_, _, rfl⟩ hc rfl rfl rfl (Nat.le_of_ble_eq_true rfl) (Nat.le_refl _) (Nat.le_refl _) (qLw_trace_14 g) hkx ?_
  refine pm_astore_n dLw_trace_12 (by decide) rfl ?_
  refine pm_iconst (v := 1) dLw_trace_13 (by decide) ?_
  exact pm_iret dLw_trace_14 rfl rfl (by rw [List.append_assoc]; rfl)
set_option maxHeartbeats 4000000 in
set_option maxRecDepth 100000 in
theorem Lw_step_r (g : pmG) (ht : g.1.stackTraces = false) (d : Nat) (E : List (Nat × Nat)) (R : Nat → Nat → Value) (hR : pk_R R) (x0 : Int32) (x1 : Int32) (I : Nat → Nat → Int32) (J : Nat → Nat → Int64) (hp : pCh_step x0 x1 I J) (he : (fCh_step x0 x1 I J).1 = 0) : pmCW g kLw_step (d + 7) 0 0 [.ref 0, .int x0, .int x1, .ref 356] (mk_K ++ (4, 1) :: E, R, I, J) (.returned (some (.int 0))) (mk_K ++ (4, 1) :: E, R, I, pm_u J 356 0 ((fCh_step x0 x1 I J).2).toInt64) := by
  have hc := Ch_step_ok g ht d (mk_K0 ++ (4, 1) :: E) R hR  x0 x1 I J hp
  rw [lw_K, show px_g (mk_K ++ (4, 1) :: E) R (fCh_step x0 x1 I J).1 (some (.int (fCh_step x0 x1 I J).2)) I J = (.returned (some (.int (fCh_step x0 x1 I J).2)), (mk_K ++ (4, 1) :: E, R, I, J), 0, 0) from if_pos he] at hc
  refine pmCW.of (by decide) (Nat.le_of_ble_eq_true rfl) ?_
  refine pm_aload_n dLw_step_0 rfl ?_
  refine pm_iconst (v := 0) dLw_step_1 (by decide) ?_
  refine pm_aload_n dLw_step_2 rfl ?_
  refine pm_iload_n dLw_step_3 rfl ?_
  refine pm_iload_n dLw_step_4 rfl ?_
  refine pm_callV dLw_step_5 lLw_37 vCh_step ⟨_, _, rfl⟩ hc rfl rfl rfl (Nat.le_of_ble_eq_true rfl) (Nat.le_refl _) (Nat.le_refl _) ?_
  refine pm_i2l dLw_step_8 ?_
  refine pm_last dLw_step_9 (lw_out E) (by unfold vp_in; decide) ?_
  refine pm_goto 21 dLw_step_10 (by decide) ?_
  refine pm_iconst (v := 0) dLw_step_21 (by decide) ?_
  exact pm_iret dLw_step_22 rfl rfl rfl
set_option maxHeartbeats 4000000 in
set_option maxRecDepth 100000 in
theorem Lw_step_t14 (g : pmG) (ht : g.1.stackTraces = false) (d : Nat) (E : List (Nat × Nat)) (R : Nat → Nat → Value) (hR : pk_R R) (x0 : Int32) (x1 : Int32) (I : Nat → Nat → Int32) (J : Nat → Nat → Int64) (hp : pCh_step x0 x1 I J) (he : (fCh_step x0 x1 I J).1 = 14) : pmCW g kLw_step (d + 7) 1 6 [.ref 0, .int x0, .int x1, .ref 356] (mk_K ++ (4, 1) :: E, R, I, J) (.returned (some (.int 1))) (mk_K ++ (4, 1) :: (E ++ [(0, 14)]), R, I, J) := by
  have hc := Ch_step_ok g ht d (mk_K0 ++ (4, 1) :: E) R hR  x0 x1 I J hp
  rw [lw_K, show px_g (mk_K ++ (4, 1) :: E) R (fCh_step x0 x1 I J).1 (some (.int (fCh_step x0 x1 I J).2)) I J = (.threw (mk_K ++ (4, 1) :: E).length, ((mk_K ++ (4, 1) :: E) ++ [(0, (fCh_step x0 x1 I J).1)], R, I, J), 1, 6) from if_neg (by rw [he]; decide), he] at hc
  have hkx : ((mk_K ++ (4, 1) :: E) ++ [(0, 14)])[(mk_K ++ (4, 1) :: E).length]? = some (0, 14) := by rw [List.getElem?_append_right (Nat.le_refl _), Nat.sub_self]; rfl
  refine pmCW.of (by decide) (Nat.le_of_ble_eq_true rfl) ?_
  refine pm_aload_n dLw_step_0 rfl ?_
  refine pm_iconst (v := 0) dLw_step_1 (by decide) ?_
  refine pm_aload_n dLw_step_2 rfl ?_
  refine pm_iload_n dLw_step_3 rfl ?_
  refine pm_iload_n dLw_step_4 rfl ?_
  refine pm_callVC (rc1 := 0) (rs1 := 0) dLw_step_5 lLw_37 vCh_step ⟨_, _, rfl⟩ hc rfl rfl rfl (Nat.le_of_ble_eq_true rfl) (Nat.le_refl _) (Nat.le_refl _) (qLw_step_14 g) hkx ?_
  refine pm_astore dLw_step_13 (by decide) rfl ?_
  refine pm_iconst (v := 1) dLw_step_15 (by decide) ?_
  exact pm_iret dLw_step_16 rfl rfl (by rw [List.append_assoc]; rfl)
set_option maxHeartbeats 4000000 in
set_option maxRecDepth 100000 in
theorem Lw_step_t13 (g : pmG) (ht : g.1.stackTraces = false) (d : Nat) (E : List (Nat × Nat)) (R : Nat → Nat → Value) (hR : pk_R R) (x0 : Int32) (x1 : Int32) (I : Nat → Nat → Int32) (J : Nat → Nat → Int64) (hp : pCh_step x0 x1 I J) (he : (fCh_step x0 x1 I J).1 = 13) : pmCW g kLw_step (d + 7) 1 6 [.ref 0, .int x0, .int x1, .ref 356] (mk_K ++ (4, 1) :: E, R, I, J) (.returned (some (.int 2))) (mk_K ++ (4, 1) :: (E ++ [(0, 13)]), R, I, J) := by
  have hc := Ch_step_ok g ht d (mk_K0 ++ (4, 1) :: E) R hR  x0 x1 I J hp
  rw [lw_K, show px_g (mk_K ++ (4, 1) :: E) R (fCh_step x0 x1 I J).1 (some (.int (fCh_step x0 x1 I J).2)) I J = (.threw (mk_K ++ (4, 1) :: E).length, ((mk_K ++ (4, 1) :: E) ++ [(0, (fCh_step x0 x1 I J).1)], R, I, J), 1, 6) from if_neg (by rw [he]; decide), he] at hc
  have hkx : ((mk_K ++ (4, 1) :: E) ++ [(0, 13)])[(mk_K ++ (4, 1) :: E).length]? = some (0, 13) := by rw [List.getElem?_append_right (Nat.le_refl _), Nat.sub_self]; rfl
  refine pmCW.of (by decide) (Nat.le_of_ble_eq_true rfl) ?_
  refine pm_aload_n dLw_step_0 rfl ?_
  refine pm_iconst (v := 0) dLw_step_1 (by decide) ?_
  refine pm_aload_n dLw_step_2 rfl ?_
  refine pm_iload_n dLw_step_3 rfl ?_
  refine pm_iload_n dLw_step_4 rfl ?_
  refine pm_callVC (rc1 := 0) (rs1 := 0) dLw_step_5 lLw_37 vCh_step ⟨_, _, rfl⟩ hc rfl rfl rfl (Nat.le_of_ble_eq_true rfl) (Nat.le_refl _) (Nat.le_refl _) (qLw_step_13 g) hkx ?_
  refine pm_astore dLw_step_17 (by decide) rfl ?_
  refine pm_iconst (v := 2) dLw_step_19 (by decide) ?_
  exact pm_iret dLw_step_20 rfl rfl (by rw [List.append_assoc]; rfl)
set_option maxHeartbeats 4000000 in
set_option maxRecDepth 100000 in
theorem Lw_tick_r (g : pmG) (ht : g.1.stackTraces = false) (d : Nat) (E : List (Nat × Nat)) (R : Nat → Nat → Value) (hR : pk_R R) (x0 : Int32) (I : Nat → Nat → Int32) (J : Nat → Nat → Int64) (hp : pCh_tick x0 I J) (he : (fCh_tick x0 I J).1 = 0) : pmCW g kLw_tick (d + 7) 0 0 [.ref 0, .int x0, .ref 356] (mk_K ++ (4, 1) :: E, R, I, J) (.returned (some (.int 0))) (mk_K ++ (4, 1) :: E, R, (fCh_tick x0 I J).2.2, pm_u J 356 0 ((fCh_tick x0 I J).2.1).toInt64) := by
  have hc := Ch_tick_ok g ht d (mk_K0 ++ (4, 1) :: E) R hR  x0 I J hp
  rw [lw_K, show px_g (mk_K ++ (4, 1) :: E) R (fCh_tick x0 I J).1 (some (.int (fCh_tick x0 I J).2.1)) (fCh_tick x0 I J).2.2 J = (.returned (some (.int (fCh_tick x0 I J).2.1)), (mk_K ++ (4, 1) :: E, R, (fCh_tick x0 I J).2.2, J), 0, 0) from if_pos he] at hc
  refine pmCW.of (by decide) (Nat.le_of_ble_eq_true rfl) ?_
  refine pm_aload_n dLw_tick_0 rfl ?_
  refine pm_iconst (v := 0) dLw_tick_1 (by decide) ?_
  refine pm_aload_n dLw_tick_2 rfl ?_
  refine pm_iload_n dLw_tick_3 rfl ?_
  refine pm_callV dLw_tick_4 lLw_41 vCh_tick ⟨_, _, rfl⟩ hc rfl rfl rfl (Nat.le_of_ble_eq_true rfl) (Nat.le_refl _) (Nat.le_refl _) ?_
  refine pm_i2l dLw_tick_7 ?_
  refine pm_last dLw_tick_8 (lw_out E) (by unfold vp_in; decide) ?_
  refine pm_goto 15 dLw_tick_9 (by decide) ?_
  refine pm_iconst (v := 0) dLw_tick_15 (by decide) ?_
  exact pm_iret dLw_tick_16 rfl rfl rfl
set_option maxHeartbeats 4000000 in
set_option maxRecDepth 100000 in
theorem Lw_tick_t13 (g : pmG) (ht : g.1.stackTraces = false) (d : Nat) (E : List (Nat × Nat)) (R : Nat → Nat → Value) (hR : pk_R R) (x0 : Int32) (I : Nat → Nat → Int32) (J : Nat → Nat → Int64) (hp : pCh_tick x0 I J) (he : (fCh_tick x0 I J).1 = 13) : pmCW g kLw_tick (d + 7) 1 6 [.ref 0, .int x0, .ref 356] (mk_K ++ (4, 1) :: E, R, I, J) (.returned (some (.int 1))) (mk_K ++ (4, 1) :: (E ++ [(0, 13)]), R, (fCh_tick x0 I J).2.2, J) := by
  have hc := Ch_tick_ok g ht d (mk_K0 ++ (4, 1) :: E) R hR  x0 I J hp
  rw [lw_K, show px_g (mk_K ++ (4, 1) :: E) R (fCh_tick x0 I J).1 (some (.int (fCh_tick x0 I J).2.1)) (fCh_tick x0 I J).2.2 J = (.threw (mk_K ++ (4, 1) :: E).length, ((mk_K ++ (4, 1) :: E) ++ [(0, (fCh_tick x0 I J).1)], R, (fCh_tick x0 I J).2.2, J), 1, 6) from if_neg (by rw [he]; decide), he] at hc
  have hkx : ((mk_K ++ (4, 1) :: E) ++ [(0, 13)])[(mk_K ++ (4, 1) :: E).length]? = some (0, 13) := by rw [List.getElem?_append_right (Nat.le_refl _), Nat.sub_self]; rfl
  refine pmCW.of (by decide) (Nat.le_of_ble_eq_true rfl) ?_
  refine pm_aload_n dLw_tick_0 rfl ?_
  refine pm_iconst (v := 0) dLw_tick_1 (by decide) ?_
  refine pm_aload_n dLw_tick_2 rfl ?_
  refine pm_iload_n dLw_tick_3 rfl ?_
  refine pm_callVC (rc1 := 0) (rs1 := 0) dLw_tick_4 lLw_41 vCh_tick ⟨_, _, rfl⟩ hc rfl rfl rfl (Nat.le_of_ble_eq_true rfl) (Nat.le_refl _) (Nat.le_refl _) (qLw_tick_13 g) hkx ?_
  refine pm_astore_n dLw_tick_12 (by decide) rfl ?_
  refine pm_iconst (v := 1) dLw_tick_13 (by decide) ?_
  exact pm_iret dLw_tick_14 rfl rfl (by rw [List.append_assoc]; rfl)
set_option maxHeartbeats 4000000 in
set_option maxRecDepth 100000 in
theorem Lw_go_r (g : pmG) (ht : g.1.stackTraces = false) (d : Nat) (E : List (Nat × Nat)) (R : Nat → Nat → Value) (hR : pk_R R) (x0 : Int32) (I : Nat → Nat → Int32) (J : Nat → Nat → Int64) (hp : pCh_go x0 I J) (he : (fCh_go x0 I J).1 = 0) : pmCW g kLw_go (d + 7) 0 0 [.ref 0, .int x0, .ref 356] (mk_K ++ (4, 1) :: E, R, I, J) (.returned (some (.int 0))) (mk_K ++ (4, 1) :: E, R, (fCh_go x0 I J).2.2, pm_u J 356 0 ((fCh_go x0 I J).2.1).toInt64) := by
  have hc := Ch_go_ok g ht d (mk_K0 ++ (4, 1) :: E) R hR  x0 I J hp
  rw [lw_K, show px_g (mk_K ++ (4, 1) :: E) R (fCh_go x0 I J).1 (some (.int (fCh_go x0 I J).2.1)) (fCh_go x0 I J).2.2 J = (.returned (some (.int (fCh_go x0 I J).2.1)), (mk_K ++ (4, 1) :: E, R, (fCh_go x0 I J).2.2, J), 0, 0) from if_pos he] at hc
  refine pmCW.of (by decide) (Nat.le_of_ble_eq_true rfl) ?_
  refine pm_aload_n dLw_go_0 rfl ?_
  refine pm_iconst (v := 0) dLw_go_1 (by decide) ?_
  refine pm_aload_n dLw_go_2 rfl ?_
  refine pm_iload_n dLw_go_3 rfl ?_
  refine pm_callV dLw_go_4 lLw_44 vCh_go ⟨_, _, rfl⟩ hc rfl rfl rfl (Nat.le_of_ble_eq_true rfl) (Nat.le_refl _) (Nat.le_refl _) ?_
  refine pm_i2l dLw_go_7 ?_
  refine pm_last dLw_go_8 (lw_out E) (by unfold vp_in; decide) ?_
  refine pm_goto 15 dLw_go_9 (by decide) ?_
  refine pm_iconst (v := 0) dLw_go_15 (by decide) ?_
  exact pm_iret dLw_go_16 rfl rfl rfl
set_option maxHeartbeats 4000000 in
set_option maxRecDepth 100000 in
theorem Lw_go_t13 (g : pmG) (ht : g.1.stackTraces = false) (d : Nat) (E : List (Nat × Nat)) (R : Nat → Nat → Value) (hR : pk_R R) (x0 : Int32) (I : Nat → Nat → Int32) (J : Nat → Nat → Int64) (hp : pCh_go x0 I J) (he : (fCh_go x0 I J).1 = 13) : pmCW g kLw_go (d + 7) 1 6 [.ref 0, .int x0, .ref 356] (mk_K ++ (4, 1) :: E, R, I, J) (.returned (some (.int 1))) (mk_K ++ (4, 1) :: (E ++ [(0, 13)]), R, (fCh_go x0 I J).2.2, J) := by
  have hc := Ch_go_ok g ht d (mk_K0 ++ (4, 1) :: E) R hR  x0 I J hp
  rw [lw_K, show px_g (mk_K ++ (4, 1) :: E) R (fCh_go x0 I J).1 (some (.int (fCh_go x0 I J).2.1)) (fCh_go x0 I J).2.2 J = (.threw (mk_K ++ (4, 1) :: E).length, ((mk_K ++ (4, 1) :: E) ++ [(0, (fCh_go x0 I J).1)], R, (fCh_go x0 I J).2.2, J), 1, 6) from if_neg (by rw [he]; decide), he] at hc
  have hkx : ((mk_K ++ (4, 1) :: E) ++ [(0, 13)])[(mk_K ++ (4, 1) :: E).length]? = some (0, 13) := by rw [List.getElem?_append_right (Nat.le_refl _), Nat.sub_self]; rfl
  refine pmCW.of (by decide) (Nat.le_of_ble_eq_true rfl) ?_
  refine pm_aload_n dLw_go_0 rfl ?_
  refine pm_iconst (v := 0) dLw_go_1 (by decide) ?_
  refine pm_aload_n dLw_go_2 rfl ?_
  refine pm_iload_n dLw_go_3 rfl ?_
  refine pm_callVC (rc1 := 0) (rs1 := 0) dLw_go_4 lLw_44 vCh_go ⟨_, _, rfl⟩ hc rfl rfl rfl (Nat.le_of_ble_eq_true rfl) (Nat.le_refl _) (Nat.le_refl _) (qLw_go_13 g) hkx ?_
  refine pm_astore_n dLw_go_12 (by decide) rfl ?_
  refine pm_iconst (v := 1) dLw_go_13 (by decide) ?_
  exact pm_iret dLw_go_14 rfl rfl (by rw [List.append_assoc]; rfl)
set_option maxHeartbeats 4000000 in
set_option maxRecDepth 100000 in
theorem Lw_value_r (g : pmG) (ht : g.1.stackTraces = false) (d : Nat) (E : List (Nat × Nat)) (R : Nat → Nat → Value) (hR : pk_R R) (x0 : Int32) (x1 : Int32) (I : Nat → Nat → Int32) (J : Nat → Nat → Int64) (hp : pCh_value x0 x1 I J) (he : (fCh_value x0 x1 I J).1 = 0) : pmCW g kLw_value (d + 7) 0 0 [.ref 0, .int x0, .int x1, .ref 356] (mk_K ++ (4, 1) :: E, R, I, J) (.returned (some (.int 0))) (mk_K ++ (4, 1) :: E, R, I, pm_u J 356 0 ((fCh_value x0 x1 I J).2).toInt64) := by
  have hc := Ch_value_ok g ht d (mk_K0 ++ (4, 1) :: E) R hR  x0 x1 I J hp
  rw [lw_K, show px_g (mk_K ++ (4, 1) :: E) R (fCh_value x0 x1 I J).1 (some (.int (fCh_value x0 x1 I J).2)) I J = (.returned (some (.int (fCh_value x0 x1 I J).2)), (mk_K ++ (4, 1) :: E, R, I, J), 0, 0) from if_pos he] at hc
  refine pmCW.of (by decide) (Nat.le_of_ble_eq_true rfl) ?_
  refine pm_aload_n dLw_value_0 rfl ?_
  refine pm_iconst (v := 0) dLw_value_1 (by decide) ?_
  refine pm_aload_n dLw_value_2 rfl ?_
  refine pm_iload_n dLw_value_3 rfl ?_
  refine pm_iload_n dLw_value_4 rfl ?_
  refine pm_callV dLw_value_5 lLw_47 vCh_value ⟨_, _, rfl⟩ hc rfl rfl rfl (Nat.le_of_ble_eq_true rfl) (Nat.le_refl _) (Nat.le_refl _) ?_
  refine pm_i2l dLw_value_8 ?_
  refine pm_last dLw_value_9 (lw_out E) (by unfold vp_in; decide) ?_
  refine pm_goto 21 dLw_value_10 (by decide) ?_
  refine pm_iconst (v := 0) dLw_value_21 (by decide) ?_
  exact pm_iret dLw_value_22 rfl rfl rfl
set_option maxHeartbeats 4000000 in
set_option maxRecDepth 100000 in
theorem Lw_value_t14 (g : pmG) (ht : g.1.stackTraces = false) (d : Nat) (E : List (Nat × Nat)) (R : Nat → Nat → Value) (hR : pk_R R) (x0 : Int32) (x1 : Int32) (I : Nat → Nat → Int32) (J : Nat → Nat → Int64) (hp : pCh_value x0 x1 I J) (he : (fCh_value x0 x1 I J).1 = 14) : pmCW g kLw_value (d + 7) 1 6 [.ref 0, .int x0, .int x1, .ref 356] (mk_K ++ (4, 1) :: E, R, I, J) (.returned (some (.int 1))) (mk_K ++ (4, 1) :: (E ++ [(0, 14)]), R, I, J) := by
  have hc := Ch_value_ok g ht d (mk_K0 ++ (4, 1) :: E) R hR  x0 x1 I J hp
  rw [lw_K, show px_g (mk_K ++ (4, 1) :: E) R (fCh_value x0 x1 I J).1 (some (.int (fCh_value x0 x1 I J).2)) I J = (.threw (mk_K ++ (4, 1) :: E).length, ((mk_K ++ (4, 1) :: E) ++ [(0, (fCh_value x0 x1 I J).1)], R, I, J), 1, 6) from if_neg (by rw [he]; decide), he] at hc
  have hkx : ((mk_K ++ (4, 1) :: E) ++ [(0, 14)])[(mk_K ++ (4, 1) :: E).length]? = some (0, 14) := by rw [List.getElem?_append_right (Nat.le_refl _), Nat.sub_self]; rfl
  refine pmCW.of (by decide) (Nat.le_of_ble_eq_true rfl) ?_
  refine pm_aload_n dLw_value_0 rfl ?_
  refine pm_iconst (v := 0) dLw_value_1 (by decide) ?_
  refine pm_aload_n dLw_value_2 rfl ?_
  refine pm_iload_n dLw_value_3 rfl ?_
  refine pm_iload_n dLw_value_4 rfl ?_
  refine pm_callVC (rc1 := 0) (rs1 := 0) dLw_value_5 lLw_47 vCh_value ⟨_, _, rfl⟩ hc rfl rfl rfl (Nat.le_of_ble_eq_true rfl) (Nat.le_refl _) (Nat.le_refl _) (qLw_value_14 g) hkx ?_
  refine pm_astore dLw_value_13 (by decide) rfl ?_
  refine pm_iconst (v := 1) dLw_value_15 (by decide) ?_
  exact pm_iret dLw_value_16 rfl rfl (by rw [List.append_assoc]; rfl)
set_option maxHeartbeats 4000000 in
set_option maxRecDepth 100000 in
theorem Lw_value_t13 (g : pmG) (ht : g.1.stackTraces = false) (d : Nat) (E : List (Nat × Nat)) (R : Nat → Nat → Value) (hR : pk_R R) (x0 : Int32) (x1 : Int32) (I : Nat → Nat → Int32) (J : Nat → Nat → Int64) (hp : pCh_value x0 x1 I J) (he : (fCh_value x0 x1 I J).1 = 13) : pmCW g kLw_value (d + 7) 1 6 [.ref 0, .int x0, .int x1, .ref 356] (mk_K ++ (4, 1) :: E, R, I, J) (.returned (some (.int 2))) (mk_K ++ (4, 1) :: (E ++ [(0, 13)]), R, I, J) := by
  have hc := Ch_value_ok g ht d (mk_K0 ++ (4, 1) :: E) R hR  x0 x1 I J hp
  rw [lw_K, show px_g (mk_K ++ (4, 1) :: E) R (fCh_value x0 x1 I J).1 (some (.int (fCh_value x0 x1 I J).2)) I J = (.threw (mk_K ++ (4, 1) :: E).length, ((mk_K ++ (4, 1) :: E) ++ [(0, (fCh_value x0 x1 I J).1)], R, I, J), 1, 6) from if_neg (by rw [he]; decide), he] at hc
  have hkx : ((mk_K ++ (4, 1) :: E) ++ [(0, 13)])[(mk_K ++ (4, 1) :: E).length]? = some (0, 13) := by rw [List.getElem?_append_right (Nat.le_refl _), Nat.sub_self]; rfl
  refine pmCW.of (by decide) (Nat.le_of_ble_eq_true rfl) ?_
  refine pm_aload_n dLw_value_0 rfl ?_
  refine pm_iconst (v := 0) dLw_value_1 (by decide) ?_
  refine pm_aload_n dLw_value_2 rfl ?_
  refine pm_iload_n dLw_value_3 rfl ?_
  refine pm_iload_n dLw_value_4 rfl ?_
  refine pm_callVC (rc1 := 0) (rs1 := 0) dLw_value_5 lLw_47 vCh_value ⟨_, _, rfl⟩ hc rfl rfl rfl (Nat.le_of_ble_eq_true rfl) (Nat.le_refl _) (Nat.le_refl _) (qLw_value_13 g) hkx ?_
  refine pm_astore dLw_value_17 (by decide) rfl ?_
  refine pm_iconst (v := 2) dLw_value_19 (by decide) ?_
  exact pm_iret dLw_value_20 rfl rfl (by rw [List.append_assoc]; rfl)
