def fCh_isSpec_19  (y1 : Int32) (I : Nat → Nat → Int32) (J : Nat → Nat → Int64) : Int32 :=
  (0 : Int32)
def pCh_isSpec_19  (y1 : Int32) (I : Nat → Nat → Int32) (J : Nat → Nat → Int64) : Prop :=
  True
def fCh_isSpec  (y1 : Int32) (I : Nat → Nat → Int32) (J : Nat → Nat → Int64) : Int32 :=
  if y1 < 0 then fCh_isSpec_19 y1 I J
  else if (I 3 6) ≤ y1 then fCh_isSpec_19 y1 I J
    else (1 : Int32)
def pCh_isSpec  (y1 : Int32) (I : Nat → Nat → Int32) (J : Nat → Nat → Int64) : Prop :=
  (y1 < 0 → pCh_isSpec_19 y1 I J) ∧
  (¬ (y1 < 0) → ((I 3 6) ≤ y1 → pCh_isSpec_19 y1 I J) ∧
    (¬ ((I 3 6) ≤ y1) → True))
set_option maxHeartbeats 4000000 in
set_option maxRecDepth 100000 in
theorem Ch_isSpec_n19 (g : pmG) (d : Nat) (ex : List (Nat × Nat)) (R : Nat → Nat → Value) (hR : pk_R R) (o : Outcome) (Z : pmM)  (y1 : Int32) (I : Nat → Nat → Int32) (J : Nat → Nat → Int64) (hp : pCh_isSpec_19 y1 I J) (ho : o = .returned (some (.int (fCh_isSpec_19 y1 I J)))) (hz : Z = (pk_K ++ ex, R, I, J)) : pmE g kCh_isSpec d 0 0 19 [(0, .ref 0), (1, .int y1)] [] (pk_K ++ ex) R I J o Z := by
  unfold pCh_isSpec_19 at hp
  refine pm_iconst (v := 0) dCh_isSpec_19 (by decide) ?_
  exact pm_zret dCh_isSpec_20 rfl (by first | rfl | decide) (ho.trans (by first | rfl | (simp only [fCh_isSpec_19]; done) | (simp only [fCh_isSpec_19]; rfl))) (hz.trans (by first | rfl | (simp only [fCh_isSpec_19]; done) | (simp only [fCh_isSpec_19]; rfl)))
set_option maxHeartbeats 4000000 in
set_option maxRecDepth 100000 in
theorem Ch_isSpec_n0 (g : pmG) (d : Nat) (ex : List (Nat × Nat)) (R : Nat → Nat → Value) (hR : pk_R R) (o : Outcome) (Z : pmM)  (y1 : Int32) (I : Nat → Nat → Int32) (J : Nat → Nat → Int64) (hp : pCh_isSpec y1 I J) (ho : o = .returned (some (.int (fCh_isSpec y1 I J)))) (hz : Z = (pk_K ++ ex, R, I, J)) : pmE g kCh_isSpec d 0 0 0 [(0, .ref 0), (1, .int y1)] [] (pk_K ++ ex) R I J o Z := by
  unfold pCh_isSpec at hp
  refine pm_iload_n dCh_isSpec_0 rfl ?_
  refine pm_if_lt 19 dCh_isSpec_1 (by decide) (fun h1 => ?_) (fun h1 => ?_)
  ·
    refine pm_wk [0, 1] rfl ?_
    exact Ch_isSpec_n19 g d ex R hR _ _   _ _ _ (hp.1 h1) (ho.trans (by first | (simp only [fCh_isSpec, if_pos h1]; done) | (simp only [fCh_isSpec, if_pos h1]; rfl) | rfl)) (hz.trans (by first | (simp only [fCh_isSpec, if_pos h1]; done) | (simp only [fCh_isSpec, if_pos h1]; rfl) | rfl))
  ·
    refine pm_iload_n dCh_isSpec_4 rfl ?_
    refine pm_aload_n dCh_isSpec_5 rfl ?_
    refine pm_getr dCh_isSpec_6 fCh_19 rfl (rr_0_1 hR) ?_
    refine pm_geti dCh_isSpec_9 fCh_91 rfl ?_
    refine pm_icmp_ge 19 dCh_isSpec_12 (by decide) (fun h12 => ?_) (fun h12 => ?_)
    ·
      refine pm_wk [0, 1] rfl ?_
      exact Ch_isSpec_n19 g d ex R hR _ _   _ _ _ ((hp.2 h1).1 h12) (ho.trans (by first | (simp only [fCh_isSpec, if_neg h1, if_pos h12]; done) | (simp only [fCh_isSpec, if_neg h1, if_pos h12]; rfl) | rfl)) (hz.trans (by first | (simp only [fCh_isSpec, if_neg h1, if_pos h12]; done) | (simp only [fCh_isSpec, if_neg h1, if_pos h12]; rfl) | rfl))
    ·
      refine pm_iconst (v := 1) dCh_isSpec_15 (by decide) ?_
      refine pm_goto 20 dCh_isSpec_16 (by decide) ?_
      exact pm_zret dCh_isSpec_20 rfl (by first | rfl | decide) (ho.trans (by first | (simp only [fCh_isSpec, if_neg h1, if_neg h12]; done) | (simp only [fCh_isSpec, if_neg h1, if_neg h12]; rfl) | rfl)) (hz.trans (by first | (simp only [fCh_isSpec, if_neg h1, if_neg h12]; done) | (simp only [fCh_isSpec, if_neg h1, if_neg h12]; rfl) | rfl))
set_option maxHeartbeats 4000000 in
set_option maxRecDepth 100000 in
theorem Ch_isSpec_ok (g : pmG) (d : Nat) (ex : List (Nat × Nat)) (R : Nat → Nat → Value) (hR : pk_R R)  (x0 : Int32) (I : Nat → Nat → Int32) (J : Nat → Nat → Int64) (hp : pCh_isSpec x0 I J) : pmC g kCh_isSpec d 0 0 [.ref 0, .int x0] (pk_K ++ ex, R, I, J) (.returned (some (.int (fCh_isSpec x0 I J)))) (pk_K ++ ex, R, I, J) :=
  pmC.of (by decide) (Nat.le_of_ble_eq_true rfl) (Ch_isSpec_n0 g d ex R hR _ _  x0 I J hp rfl rfl)
def fCh_isState_19  (y1 : Int32) (I : Nat → Nat → Int32) (J : Nat → Nat → Int64) : Int32 :=
  (0 : Int32)
def pCh_isState_19  (y1 : Int32) (I : Nat → Nat → Int32) (J : Nat → Nat → Int64) : Prop :=
  True
def fCh_isState  (y1 : Int32) (I : Nat → Nat → Int32) (J : Nat → Nat → Int64) : Int32 :=
  if y1 < 0 then fCh_isState_19 y1 I J
  else if (I 25 1) ≤ y1 then fCh_isState_19 y1 I J
    else (1 : Int32)
def pCh_isState  (y1 : Int32) (I : Nat → Nat → Int32) (J : Nat → Nat → Int64) : Prop :=
  (y1 < 0 → pCh_isState_19 y1 I J) ∧
  (¬ (y1 < 0) → ((I 25 1) ≤ y1 → pCh_isState_19 y1 I J) ∧
    (¬ ((I 25 1) ≤ y1) → True))
set_option maxHeartbeats 4000000 in
set_option maxRecDepth 100000 in
theorem Ch_isState_n19 (g : pmG) (d : Nat) (ex : List (Nat × Nat)) (R : Nat → Nat → Value) (hR : pk_R R) (o : Outcome) (Z : pmM)  (y1 : Int32) (I : Nat → Nat → Int32) (J : Nat → Nat → Int64) (hp : pCh_isState_19 y1 I J) (ho : o = .returned (some (.int (fCh_isState_19 y1 I J)))) (hz : Z = (pk_K ++ ex, R, I, J)) : pmE g kCh_isState d 0 0 19 [(0, .ref 0), (1, .int y1)] [] (pk_K ++ ex) R I J o Z := by
  unfold pCh_isState_19 at hp
  refine pm_iconst (v := 0) dCh_isState_19 (by decide) ?_
  exact pm_zret dCh_isState_20 rfl (by first | rfl | decide) (ho.trans (by first | rfl | (simp only [fCh_isState_19]; done) | (simp only [fCh_isState_19]; rfl))) (hz.trans (by first | rfl | (simp only [fCh_isState_19]; done) | (simp only [fCh_isState_19]; rfl)))
set_option maxHeartbeats 4000000 in
set_option maxRecDepth 100000 in
theorem Ch_isState_n0 (g : pmG) (d : Nat) (ex : List (Nat × Nat)) (R : Nat → Nat → Value) (hR : pk_R R) (o : Outcome) (Z : pmM)  (y1 : Int32) (I : Nat → Nat → Int32) (J : Nat → Nat → Int64) (hp : pCh_isState y1 I J) (ho : o = .returned (some (.int (fCh_isState y1 I J)))) (hz : Z = (pk_K ++ ex, R, I, J)) : pmE g kCh_isState d 0 0 0 [(0, .ref 0), (1, .int y1)] [] (pk_K ++ ex) R I J o Z := by
  unfold pCh_isState at hp
  refine pm_iload_n dCh_isState_0 rfl ?_
  refine pm_if_lt 19 dCh_isState_1 (by decide) (fun h1 => ?_) (fun h1 => ?_)
  ·
    refine pm_wk [0, 1] rfl ?_
    exact Ch_isState_n19 g d ex R hR _ _   _ _ _ (hp.1 h1) (ho.trans (by first | (simp only [fCh_isState, if_pos h1]; done) | (simp only [fCh_isState, if_pos h1]; rfl) | rfl)) (hz.trans (by first | (simp only [fCh_isState, if_pos h1]; done) | (simp only [fCh_isState, if_pos h1]; rfl) | rfl))
  ·
    refine pm_iload_n dCh_isState_4 rfl ?_
    refine pm_aload_n dCh_isState_5 rfl ?_
    refine pm_getr dCh_isState_6 fCh_44 rfl (rr_0_4 hR) ?_
    refine pm_geti dCh_isState_9 fCh_173 rfl ?_
    refine pm_icmp_ge 19 dCh_isState_12 (by decide) (fun h12 => ?_) (fun h12 => ?_)
    ·
      refine pm_wk [0, 1] rfl ?_
      exact Ch_isState_n19 g d ex R hR _ _   _ _ _ ((hp.2 h1).1 h12) (ho.trans (by first | (simp only [fCh_isState, if_neg h1, if_pos h12]; done) | (simp only [fCh_isState, if_neg h1, if_pos h12]; rfl) | rfl)) (hz.trans (by first | (simp only [fCh_isState, if_neg h1, if_pos h12]; done) | (simp only [fCh_isState, if_neg h1, if_pos h12]; rfl) | rfl))
    ·
      refine pm_iconst (v := 1) dCh_isState_15 (by decide) ?_
      refine pm_goto 20 dCh_isState_16 (by decide) ?_
      exact pm_zret dCh_isState_20 rfl (by first | rfl | decide) (ho.trans (by first | (simp only [fCh_isState, if_neg h1, if_neg h12]; done) | (simp only [fCh_isState, if_neg h1, if_neg h12]; rfl) | rfl)) (hz.trans (by first | (simp only [fCh_isState, if_neg h1, if_neg h12]; done) | (simp only [fCh_isState, if_neg h1, if_neg h12]; rfl) | rfl))
set_option maxHeartbeats 4000000 in
set_option maxRecDepth 100000 in
theorem Ch_isState_ok (g : pmG) (d : Nat) (ex : List (Nat × Nat)) (R : Nat → Nat → Value) (hR : pk_R R)  (x0 : Int32) (I : Nat → Nat → Int32) (J : Nat → Nat → Int64) (hp : pCh_isState x0 I J) : pmC g kCh_isState d 0 0 [.ref 0, .int x0] (pk_K ++ ex, R, I, J) (.returned (some (.int (fCh_isState x0 I J)))) (pk_K ++ ex, R, I, J) :=
  pmC.of (by decide) (Nat.le_of_ble_eq_true rfl) (Ch_isState_n0 g d ex R hR _ _  x0 I J hp rfl rfl)
def fCh_areInputs_19  (y1 : Int32) (I : Nat → Nat → Int32) (J : Nat → Nat → Int64) : Int32 :=
  (0 : Int32)
def pCh_areInputs_19  (y1 : Int32) (I : Nat → Nat → Int32) (J : Nat → Nat → Int64) : Prop :=
  True
def fCh_areInputs  (y1 : Int32) (I : Nat → Nat → Int32) (J : Nat → Nat → Int64) : Int32 :=
  if y1 < 0 then fCh_areInputs_19 y1 I J
  else if (I 25 2) ≤ y1 then fCh_areInputs_19 y1 I J
    else (1 : Int32)
def pCh_areInputs  (y1 : Int32) (I : Nat → Nat → Int32) (J : Nat → Nat → Int64) : Prop :=
  (y1 < 0 → pCh_areInputs_19 y1 I J) ∧
  (¬ (y1 < 0) → ((I 25 2) ≤ y1 → pCh_areInputs_19 y1 I J) ∧
    (¬ ((I 25 2) ≤ y1) → True))
set_option maxHeartbeats 4000000 in
set_option maxRecDepth 100000 in
theorem Ch_areInputs_n19 (g : pmG) (d : Nat) (ex : List (Nat × Nat)) (R : Nat → Nat → Value) (hR : pk_R R) (o : Outcome) (Z : pmM)  (y1 : Int32) (I : Nat → Nat → Int32) (J : Nat → Nat → Int64) (hp : pCh_areInputs_19 y1 I J) (ho : o = .returned (some (.int (fCh_areInputs_19 y1 I J)))) (hz : Z = (pk_K ++ ex, R, I, J)) : pmE g kCh_areInputs d 0 0 19 [(0, .ref 0), (1, .int y1)] [] (pk_K ++ ex) R I J o Z := by
  unfold pCh_areInputs_19 at hp
  refine pm_iconst (v := 0) dCh_areInputs_19 (by decide) ?_
  exact pm_zret dCh_areInputs_20 rfl (by first | rfl | decide) (ho.trans (by first | rfl | (simp only [fCh_areInputs_19]; done) | (simp only [fCh_areInputs_19]; rfl))) (hz.trans (by first | rfl | (simp only [fCh_areInputs_19]; done) | (simp only [fCh_areInputs_19]; rfl)))
set_option maxHeartbeats 4000000 in
set_option maxRecDepth 100000 in
theorem Ch_areInputs_n0 (g : pmG) (d : Nat) (ex : List (Nat × Nat)) (R : Nat → Nat → Value) (hR : pk_R R) (o : Outcome) (Z : pmM)  (y1 : Int32) (I : Nat → Nat → Int32) (J : Nat → Nat → Int64) (hp : pCh_areInputs y1 I J) (ho : o = .returned (some (.int (fCh_areInputs y1 I J)))) (hz : Z = (pk_K ++ ex, R, I, J)) : pmE g kCh_areInputs d 0 0 0 [(0, .ref 0), (1, .int y1)] [] (pk_K ++ ex) R I J o Z := by
  unfold pCh_areInputs at hp
  refine pm_iload_n dCh_areInputs_0 rfl ?_
  refine pm_if_lt 19 dCh_areInputs_1 (by decide) (fun h1 => ?_) (fun h1 => ?_)
  ·
    refine pm_wk [0, 1] rfl ?_
    exact Ch_areInputs_n19 g d ex R hR _ _   _ _ _ (hp.1 h1) (ho.trans (by first | (simp only [fCh_areInputs, if_pos h1]; done) | (simp only [fCh_areInputs, if_pos h1]; rfl) | rfl)) (hz.trans (by first | (simp only [fCh_areInputs, if_pos h1]; done) | (simp only [fCh_areInputs, if_pos h1]; rfl) | rfl))
  ·
    refine pm_iload_n dCh_areInputs_4 rfl ?_
    refine pm_aload_n dCh_areInputs_5 rfl ?_
    refine pm_getr dCh_areInputs_6 fCh_44 rfl (rr_0_4 hR) ?_
    refine pm_geti dCh_areInputs_9 fCh_176 rfl ?_
    refine pm_icmp_ge 19 dCh_areInputs_12 (by decide) (fun h12 => ?_) (fun h12 => ?_)
    ·
      refine pm_wk [0, 1] rfl ?_
      exact Ch_areInputs_n19 g d ex R hR _ _   _ _ _ ((hp.2 h1).1 h12) (ho.trans (by first | (simp only [fCh_areInputs, if_neg h1, if_pos h12]; done) | (simp only [fCh_areInputs, if_neg h1, if_pos h12]; rfl) | rfl)) (hz.trans (by first | (simp only [fCh_areInputs, if_neg h1, if_pos h12]; done) | (simp only [fCh_areInputs, if_neg h1, if_pos h12]; rfl) | rfl))
    ·
      refine pm_iconst (v := 1) dCh_areInputs_15 (by decide) ?_
      refine pm_goto 20 dCh_areInputs_16 (by decide) ?_
      exact pm_zret dCh_areInputs_20 rfl (by first | rfl | decide) (ho.trans (by first | (simp only [fCh_areInputs, if_neg h1, if_neg h12]; done) | (simp only [fCh_areInputs, if_neg h1, if_neg h12]; rfl) | rfl)) (hz.trans (by first | (simp only [fCh_areInputs, if_neg h1, if_neg h12]; done) | (simp only [fCh_areInputs, if_neg h1, if_neg h12]; rfl) | rfl))
set_option maxHeartbeats 4000000 in
set_option maxRecDepth 100000 in
theorem Ch_areInputs_ok (g : pmG) (d : Nat) (ex : List (Nat × Nat)) (R : Nat → Nat → Value) (hR : pk_R R)  (x0 : Int32) (I : Nat → Nat → Int32) (J : Nat → Nat → Int64) (hp : pCh_areInputs x0 I J) : pmC g kCh_areInputs d 0 0 [.ref 0, .int x0] (pk_K ++ ex, R, I, J) (.returned (some (.int (fCh_areInputs x0 I J)))) (pk_K ++ ex, R, I, J) :=
  pmC.of (by decide) (Nat.le_of_ble_eq_true rfl) (Ch_areInputs_n0 g d ex R hR _ _  x0 I J hp rfl rfl)
def fCh_fault  (y1 : Int32) (I : Nat → Nat → Int32) (J : Nat → Nat → Int64) : Int32 :=
  if y1 = 0 then I 13 9
  else if y1 = (1 : Int32) then I 13 10
    else (-1 : Int32)
def pCh_fault  (y1 : Int32) (I : Nat → Nat → Int32) (J : Nat → Nat → Int64) : Prop :=
  (y1 = 0 → True) ∧
  (¬ (y1 = 0) → (y1 = (1 : Int32) → True) ∧
    (¬ (y1 = (1 : Int32)) → True))
set_option maxHeartbeats 4000000 in
set_option maxRecDepth 100000 in
theorem Ch_fault_n0 (g : pmG) (d : Nat) (ex : List (Nat × Nat)) (R : Nat → Nat → Value) (hR : pk_R R) (o : Outcome) (Z : pmM)  (y1 : Int32) (I : Nat → Nat → Int32) (J : Nat → Nat → Int64) (hp : pCh_fault y1 I J) (ho : o = .returned (some (.int (fCh_fault y1 I J)))) (hz : Z = (pk_K ++ ex, R, I, J)) : pmE g kCh_fault d 0 0 0 [(0, .ref 0), (1, .int y1)] [] (pk_K ++ ex) R I J o Z := by
  unfold pCh_fault at hp
  refine pm_iload_n dCh_fault_0 rfl ?_
  refine pm_if_ne 12 dCh_fault_1 (by decide) (fun h1 => ?_) (fun h1 => ?_)
  ·
    refine pm_iload_n dCh_fault_12 rfl ?_
    refine pm_iconst (v := 1) dCh_fault_13 (by decide) ?_
    refine pm_icmp_ne 27 dCh_fault_14 (by decide) (fun h14 => ?_) (fun h14 => ?_)
    ·
      refine pm_iconst (v := (-1)) dCh_fault_27 (by decide) ?_
      exact pm_iret dCh_fault_28 rfl (ho.trans (by first | (simp only [fCh_fault, if_neg h1, if_neg h14]; done) | (simp only [fCh_fault, if_neg h1, if_neg h14]; rfl) | rfl)) (hz.trans (by first | (simp only [fCh_fault, if_neg h1, if_neg h14]; done) | (simp only [fCh_fault, if_neg h1, if_neg h14]; rfl) | rfl))
    ·
      refine pm_aload_n dCh_fault_17 rfl ?_
      refine pm_getr dCh_fault_18 fCh_28 rfl (rr_0_2 hR) ?_
      refine pm_geti dCh_fault_21 fCh_94 rfl ?_
      refine pm_goto 28 dCh_fault_24 (by decide) ?_
      exact pm_iret dCh_fault_28 rfl (ho.trans (by first | (simp only [fCh_fault, if_neg h1, if_pos h14]; done) | (simp only [fCh_fault, if_neg h1, if_pos h14]; rfl) | rfl)) (hz.trans (by first | (simp only [fCh_fault, if_neg h1, if_pos h14]; done) | (simp only [fCh_fault, if_neg h1, if_pos h14]; rfl) | rfl))
  ·
    refine pm_aload_n dCh_fault_4 rfl ?_
    refine pm_getr dCh_fault_5 fCh_28 rfl (rr_0_2 hR) ?_
    refine pm_geti dCh_fault_8 fCh_85 rfl ?_
    exact pm_iret dCh_fault_11 rfl (ho.trans (by first | (simp only [fCh_fault, if_pos h1]; done) | (simp only [fCh_fault, if_pos h1]; rfl) | rfl)) (hz.trans (by first | (simp only [fCh_fault, if_pos h1]; done) | (simp only [fCh_fault, if_pos h1]; rfl) | rfl))
set_option maxHeartbeats 4000000 in
set_option maxRecDepth 100000 in
theorem Ch_fault_ok (g : pmG) (d : Nat) (ex : List (Nat × Nat)) (R : Nat → Nat → Value) (hR : pk_R R)  (x0 : Int32) (I : Nat → Nat → Int32) (J : Nat → Nat → Int64) (hp : pCh_fault x0 I J) : pmC g kCh_fault d 0 0 [.ref 0, .int x0] (pk_K ++ ex, R, I, J) (.returned (some (.int (fCh_fault x0 I J)))) (pk_K ++ ex, R, I, J) :=
  pmC.of (by decide) (Nat.le_of_ble_eq_true rfl) (Ch_fault_n0 g d ex R hR _ _  x0 I J hp rfl rfl)
def fCh_reachable  (I : Nat → Nat → Int32) (J : Nat → Nat → Int64) : Int32 :=
  I 25 8
def pCh_reachable  (I : Nat → Nat → Int32) (J : Nat → Nat → Int64) : Prop :=
  True
set_option maxHeartbeats 4000000 in
set_option maxRecDepth 100000 in
theorem Ch_reachable_n0 (g : pmG) (d : Nat) (ex : List (Nat × Nat)) (R : Nat → Nat → Value) (hR : pk_R R) (o : Outcome) (Z : pmM)  (I : Nat → Nat → Int32) (J : Nat → Nat → Int64) (hp : pCh_reachable I J) (ho : o = .returned (some (.int (fCh_reachable I J)))) (hz : Z = (pk_K ++ ex, R, I, J)) : pmE g kCh_reachable d 0 0 0 [(0, .ref 0)] [] (pk_K ++ ex) R I J o Z := by
  unfold pCh_reachable at hp
  refine pm_aload_n dCh_reachable_0 rfl ?_
  refine pm_getr dCh_reachable_1 fCh_44 rfl (rr_0_4 hR) ?_
  refine pm_geti dCh_reachable_4 fCh_118 rfl ?_
  exact pm_iret dCh_reachable_7 rfl (ho.trans (by first | rfl | (simp only [fCh_reachable]; done) | (simp only [fCh_reachable]; rfl))) (hz.trans (by first | rfl | (simp only [fCh_reachable]; done) | (simp only [fCh_reachable]; rfl)))
set_option maxHeartbeats 4000000 in
set_option maxRecDepth 100000 in
theorem Ch_reachable_ok (g : pmG) (d : Nat) (ex : List (Nat × Nat)) (R : Nat → Nat → Value) (hR : pk_R R)   (I : Nat → Nat → Int32) (J : Nat → Nat → Int64) (hp : pCh_reachable I J) : pmC g kCh_reachable d 0 0 [.ref 0] (pk_K ++ ex, R, I, J) (.returned (some (.int (fCh_reachable I J)))) (pk_K ++ ex, R, I, J) :=
  pmC.of (by decide) (Nat.le_of_ble_eq_true rfl) (Ch_reachable_n0 g d ex R hR _ _   I J hp rfl rfl)
def fCh_count  (y1 : Int32) (I : Nat → Nat → Int32) (J : Nat → Nat → Int64) : Int32 :=
  if y1 = 0 then I 3 6
  else if y1 = 1 then I 3 5
  else if y1 = 2 then I 3 7
  else if y1 = 3 then I 3 8
  else if y1 = 4 then I 3 9
  else if y1 = 5 then I 1 1
  else if y1 = 6 then I 0 7
  else if y1 = 7 then I 37 2
  else (-1 : Int32)
def pCh_count  (y1 : Int32) (I : Nat → Nat → Int32) (J : Nat → Nat → Int64) : Prop :=
  (y1 = 0 → True) ∧
  (¬ (y1 = 0) → (y1 = 1 → True) ∧
  (¬ (y1 = 1) → (y1 = 2 → True) ∧
  (¬ (y1 = 2) → (y1 = 3 → True) ∧
  (¬ (y1 = 3) → (y1 = 4 → True) ∧
  (¬ (y1 = 4) → (y1 = 5 → True) ∧
  (¬ (y1 = 5) → (y1 = 6 → True) ∧
  (¬ (y1 = 6) → (y1 = 7 → True) ∧
  (¬ (y1 = 7) → True))))))))
set_option maxHeartbeats 4000000 in
set_option maxRecDepth 100000 in
theorem Ch_count_n0 (g : pmG) (d : Nat) (ex : List (Nat × Nat)) (R : Nat → Nat → Value) (hR : pk_R R) (o : Outcome) (Z : pmM)  (y1 : Int32) (I : Nat → Nat → Int32) (J : Nat → Nat → Int64) (hp : pCh_count y1 I J) (ho : o = .returned (some (.int (fCh_count y1 I J)))) (hz : Z = (pk_K ++ ex, R, I, J)) : pmE g kCh_count d 0 0 0 [(0, .ref 0), (1, .int y1)] [] (pk_K ++ ex) R I J o Z := by
  unfold pCh_count at hp
  refine pm_iload_n dCh_count_0 rfl ?_
  by_cases h1_0 : y1 = 0
  ·
    refine pm_tableIn 48 dCh_count_1 (by rw [h1_0]; decide) (by rw [h1_0]; decide) (by first | (rw [h1_0]; rfl) | rw [h1_0]) (by decide) ?_
    refine pm_aload_n dCh_count_48 rfl ?_
    refine pm_getr dCh_count_49 fCh_19 rfl (rr_0_1 hR) ?_
    refine pm_geti dCh_count_52 fCh_91 rfl ?_
    exact pm_iret dCh_count_55 rfl (ho.trans (by first | (simp only [fCh_count, if_pos h1_0]; done) | (simp only [fCh_count, if_pos h1_0]; rfl) | rfl)) (hz.trans (by first | (simp only [fCh_count, if_pos h1_0]; done) | (simp only [fCh_count, if_pos h1_0]; rfl) | rfl))
  ·
    by_cases h1_1 : y1 = 1
    ·
      refine pm_tableIn 56 dCh_count_1 (by rw [h1_1]; decide) (by rw [h1_1]; decide) (by first | (rw [h1_1]; rfl) | rw [h1_1]) (by decide) ?_
      refine pm_aload_n dCh_count_56 rfl ?_
      refine pm_getr dCh_count_57 fCh_19 rfl (rr_0_1 hR) ?_
      refine pm_geti dCh_count_60 fCh_152 rfl ?_
      exact pm_iret dCh_count_63 rfl (ho.trans (by first | (simp only [fCh_count, if_neg h1_0, if_pos h1_1]; done) | (simp only [fCh_count, if_neg h1_0, if_pos h1_1]; rfl) | rfl)) (hz.trans (by first | (simp only [fCh_count, if_neg h1_0, if_pos h1_1]; done) | (simp only [fCh_count, if_neg h1_0, if_pos h1_1]; rfl) | rfl))
    ·
      by_cases h1_2 : y1 = 2
      ·
        refine pm_tableIn 64 dCh_count_1 (by rw [h1_2]; decide) (by rw [h1_2]; decide) (by first | (rw [h1_2]; rfl) | rw [h1_2]) (by decide) ?_
        refine pm_aload_n dCh_count_64 rfl ?_
        refine pm_getr dCh_count_65 fCh_19 rfl (rr_0_1 hR) ?_
        refine pm_geti dCh_count_68 fCh_164 rfl ?_
        exact pm_iret dCh_count_71 rfl (ho.trans (by first | (simp only [fCh_count, if_neg h1_0, if_neg h1_1, if_pos h1_2]; done) | (simp only [fCh_count, if_neg h1_0, if_neg h1_1, if_pos h1_2]; rfl) | rfl)) (hz.trans (by first | (simp only [fCh_count, if_neg h1_0, if_neg h1_1, if_pos h1_2]; done) | (simp only [fCh_count, if_neg h1_0, if_neg h1_1, if_pos h1_2]; rfl) | rfl))
      ·
        by_cases h1_3 : y1 = 3
        ·
          refine pm_tableIn 72 dCh_count_1 (by rw [h1_3]; decide) (by rw [h1_3]; decide) (by first | (rw [h1_3]; rfl) | rw [h1_3]) (by decide) ?_
          refine pm_aload_n dCh_count_72 rfl ?_
          refine pm_getr dCh_count_73 fCh_19 rfl (rr_0_1 hR) ?_
          refine pm_geti dCh_count_76 fCh_167 rfl ?_
          exact pm_iret dCh_count_79 rfl (ho.trans (by first | (simp only [fCh_count, if_neg h1_0, if_neg h1_1, if_neg h1_2, if_pos h1_3]; done) | (simp only [fCh_count, if_neg h1_0, if_neg h1_1, if_neg h1_2, if_pos h1_3]; rfl) | rfl)) (hz.trans (by first | (simp only [fCh_count, if_neg h1_0, if_neg h1_1, if_neg h1_2, if_pos h1_3]; done) | (simp only [fCh_count, if_neg h1_0, if_neg h1_1, if_neg h1_2, if_pos h1_3]; rfl) | rfl))
        ·
          by_cases h1_4 : y1 = 4
          ·
            refine pm_tableIn 80 dCh_count_1 (by rw [h1_4]; decide) (by rw [h1_4]; decide) (by first | (rw [h1_4]; rfl) | rw [h1_4]) (by decide) ?_
            refine pm_aload_n dCh_count_80 rfl ?_
            refine pm_getr dCh_count_81 fCh_19 rfl (rr_0_1 hR) ?_
            refine pm_geti dCh_count_84 fCh_170 rfl ?_
            exact pm_iret dCh_count_87 rfl (ho.trans (by first | (simp only [fCh_count, if_neg h1_0, if_neg h1_1, if_neg h1_2, if_neg h1_3, if_pos h1_4]; done) | (simp only [fCh_count, if_neg h1_0, if_neg h1_1, if_neg h1_2, if_neg h1_3, if_pos h1_4]; rfl) | rfl)) (hz.trans (by first | (simp only [fCh_count, if_neg h1_0, if_neg h1_1, if_neg h1_2, if_neg h1_3, if_pos h1_4]; done) | (simp only [fCh_count, if_neg h1_0, if_neg h1_1, if_neg h1_2, if_neg h1_3, if_pos h1_4]; rfl) | rfl))
          ·
            by_cases h1_5 : y1 = 5
            ·
              refine pm_tableIn 88 dCh_count_1 (by rw [h1_5]; decide) (by rw [h1_5]; decide) (by first | (rw [h1_5]; rfl) | rw [h1_5]) (by decide) ?_
              refine pm_aload_n dCh_count_88 rfl ?_
              refine pm_getr dCh_count_89 fCh_10 rfl (rr_0_0 hR) ?_
              refine pm_geti dCh_count_92 fCh_67 rfl ?_
              exact pm_iret dCh_count_95 rfl (ho.trans (by first | (simp only [fCh_count, if_neg h1_0, if_neg h1_1, if_neg h1_2, if_neg h1_3, if_neg h1_4, if_pos h1_5]; done) | (simp only [fCh_count, if_neg h1_0, if_neg h1_1, if_neg h1_2, if_neg h1_3, if_neg h1_4, if_pos h1_5]; rfl) | rfl)) (hz.trans (by first | (simp only [fCh_count, if_neg h1_0, if_neg h1_1, if_neg h1_2, if_neg h1_3, if_neg h1_4, if_pos h1_5]; done) | (simp only [fCh_count, if_neg h1_0, if_neg h1_1, if_neg h1_2, if_neg h1_3, if_neg h1_4, if_pos h1_5]; rfl) | rfl))
            ·
              by_cases h1_6 : y1 = 6
              ·
                refine pm_tableIn 96 dCh_count_1 (by rw [h1_6]; decide) (by rw [h1_6]; decide) (by first | (rw [h1_6]; rfl) | rw [h1_6]) (by decide) ?_
                refine pm_aload_n dCh_count_96 rfl ?_
                refine pm_geti dCh_count_97 fCh_146 rfl ?_
                exact pm_iret dCh_count_100 rfl (ho.trans (by first | (simp only [fCh_count, if_neg h1_0, if_neg h1_1, if_neg h1_2, if_neg h1_3, if_neg h1_4, if_neg h1_5, if_pos h1_6]; done) | (simp only [fCh_count, if_neg h1_0, if_neg h1_1, if_neg h1_2, if_neg h1_3, if_neg h1_4, if_neg h1_5, if_pos h1_6]; rfl) | rfl)) (hz.trans (by first | (simp only [fCh_count, if_neg h1_0, if_neg h1_1, if_neg h1_2, if_neg h1_3, if_neg h1_4, if_neg h1_5, if_pos h1_6]; done) | (simp only [fCh_count, if_neg h1_0, if_neg h1_1, if_neg h1_2, if_neg h1_3, if_neg h1_4, if_neg h1_5, if_pos h1_6]; rfl) | rfl))
              ·
                by_cases h1_7 : y1 = 7
                ·
                  refine pm_tableIn 101 dCh_count_1 (by rw [h1_7]; decide) (by rw [h1_7]; decide) (by first | (rw [h1_7]; rfl) | rw [h1_7]) (by decide) ?_
                  refine pm_aload_n dCh_count_101 rfl ?_
                  refine pm_getr dCh_count_102 fCh_60 rfl (rr_0_6 hR) ?_
                  refine pm_geti dCh_count_105 fCh_128 rfl ?_
                  exact pm_iret dCh_count_108 rfl (ho.trans (by first | (simp only [fCh_count, if_neg h1_0, if_neg h1_1, if_neg h1_2, if_neg h1_3, if_neg h1_4, if_neg h1_5, if_neg h1_6, if_pos h1_7]; done) | (simp only [fCh_count, if_neg h1_0, if_neg h1_1, if_neg h1_2, if_neg h1_3, if_neg h1_4, if_neg h1_5, if_neg h1_6, if_pos h1_7]; rfl) | rfl)) (hz.trans (by first | (simp only [fCh_count, if_neg h1_0, if_neg h1_1, if_neg h1_2, if_neg h1_3, if_neg h1_4, if_neg h1_5, if_neg h1_6, if_pos h1_7]; done) | (simp only [fCh_count, if_neg h1_0, if_neg h1_1, if_neg h1_2, if_neg h1_3, if_neg h1_4, if_neg h1_5, if_neg h1_6, if_pos h1_7]; rfl) | rfl))
                ·
                  refine pm_tableOut 109 dCh_count_1 (pm_out (fun q9 k1 k2 => by
                    have : q9 = 0 ∨ q9 = 1 ∨ q9 = 2 ∨ q9 = 3 ∨ q9 = 4 ∨ q9 = 5 ∨ q9 = 6 ∨ q9 = 7 := by omega
                    rcases this with rfl | rfl | rfl | rfl | rfl | rfl | rfl | rfl
                    · exact h1_0
                    · exact h1_1
                    · exact h1_2
                    · exact h1_3
                    · exact h1_4
                    · exact h1_5
                    · exact h1_6
                    · exact h1_7
                    )) (by decide) ?_
                  refine pm_iconst (v := (-1)) dCh_count_109 (by decide) ?_
                  exact pm_iret dCh_count_110 rfl (ho.trans (by first | (simp only [fCh_count, if_neg h1_0, if_neg h1_1, if_neg h1_2, if_neg h1_3, if_neg h1_4, if_neg h1_5, if_neg h1_6, if_neg h1_7]; done) | (simp only [fCh_count, if_neg h1_0, if_neg h1_1, if_neg h1_2, if_neg h1_3, if_neg h1_4, if_neg h1_5, if_neg h1_6, if_neg h1_7]; rfl) | rfl)) (hz.trans (by first | (simp only [fCh_count, if_neg h1_0, if_neg h1_1, if_neg h1_2, if_neg h1_3, if_neg h1_4, if_neg h1_5, if_neg h1_6, if_neg h1_7]; done) | (simp only [fCh_count, if_neg h1_0, if_neg h1_1, if_neg h1_2, if_neg h1_3, if_neg h1_4, if_neg h1_5, if_neg h1_6, if_neg h1_7]; rfl) | rfl))
set_option maxHeartbeats 4000000 in
set_option maxRecDepth 100000 in
theorem Ch_count_ok (g : pmG) (d : Nat) (ex : List (Nat × Nat)) (R : Nat → Nat → Value) (hR : pk_R R)  (x0 : Int32) (I : Nat → Nat → Int32) (J : Nat → Nat → Int64) (hp : pCh_count x0 I J) : pmC g kCh_count d 0 0 [.ref 0, .int x0] (pk_K ++ ex, R, I, J) (.returned (some (.int (fCh_count x0 I J)))) (pk_K ++ ex, R, I, J) :=
  pmC.of (by decide) (Nat.le_of_ble_eq_true rfl) (Ch_count_n0 g d ex R hR _ _  x0 I J hp rfl rfl)
def fCh_perform_L_108 (r2 : Int32 → (Nat → Nat → Int32) → (Nat → Nat → Int64) → (Nat → Nat → Int32) × (Nat → Nat → Int64)) (y2 : Int32) (y3 : Int32) (y4 : Int32) (I : Nat → Nat → Int32) (J : Nat → Nat → Int64) : (Nat → Nat → Int32) × (Nat → Nat → Int64) :=
  r2 (y2 + Int32.ofInt 1) I J
def pCh_perform_L_108 (q2 : Int32 → (Nat → Nat → Int32) → (Nat → Nat → Int64) → Prop) (y2 : Int32) (y3 : Int32) (y4 : Int32) (I : Nat → Nat → Int32) (J : Nat → Nat → Int64) : Prop :=
  q2 (y2 + Int32.ofInt 1) I J
def fCh_perform_L_44 (r2 : Int32 → (Nat → Nat → Int32) → (Nat → Nat → Int64) → (Nat → Nat → Int32) × (Nat → Nat → Int64)) (y2 : Int32) (y3 : Int32) (y4 : Int32) (I : Nat → Nat → Int32) (J : Nat → Nat → Int64) : (Nat → Nat → Int32) × (Nat → Nat → Int64) :=
  fCh_perform_L_108 r2 y2 y3 y4 I J
def pCh_perform_L_44 (q2 : Int32 → (Nat → Nat → Int32) → (Nat → Nat → Int64) → Prop) (y2 : Int32) (y3 : Int32) (y4 : Int32) (I : Nat → Nat → Int32) (J : Nat → Nat → Int64) : Prop :=
  pCh_perform_L_108 q2 y2 y3 y4 I J
def fCh_perform_L_64 (r2 : Int32 → (Nat → Nat → Int32) → (Nat → Nat → Int64) → (Nat → Nat → Int32) × (Nat → Nat → Int64)) (y2 : Int32) (y3 : Int32) (y4 : Int32) (I : Nat → Nat → Int32) (J : Nat → Nat → Int64) : (Nat → Nat → Int32) × (Nat → Nat → Int64) :=
  fCh_perform_L_108 r2 y2 y3 y4 I J
def pCh_perform_L_64 (q2 : Int32 → (Nat → Nat → Int32) → (Nat → Nat → Int64) → Prop) (y2 : Int32) (y3 : Int32) (y4 : Int32) (I : Nat → Nat → Int32) (J : Nat → Nat → Int64) : Prop :=
  pCh_perform_L_108 q2 y2 y3 y4 I J
def fCh_perform_L_95 (r2 : Int32 → (Nat → Nat → Int32) → (Nat → Nat → Int64) → (Nat → Nat → Int32) × (Nat → Nat → Int64)) (y2 : Int32) (y3 : Int32) (y4 : Int32) (I : Nat → Nat → Int32) (J : Nat → Nat → Int64) : (Nat → Nat → Int32) × (Nat → Nat → Int64) :=
  fCh_perform_L_108 r2 y2 y3 y4 I J
def pCh_perform_L_95 (q2 : Int32 → (Nat → Nat → Int32) → (Nat → Nat → Int64) → Prop) (y2 : Int32) (y3 : Int32) (y4 : Int32) (I : Nat → Nat → Int32) (J : Nat → Nat → Int64) : Prop :=
  pCh_perform_L_108 q2 y2 y3 y4 I J
def fCh_perform_L_85 (r2 : Int32 → (Nat → Nat → Int32) → (Nat → Nat → Int64) → (Nat → Nat → Int32) × (Nat → Nat → Int64)) (y2 : Int32) (y3 : Int32) (y4 : Int32) (I : Nat → Nat → Int32) (J : Nat → Nat → Int64) : (Nat → Nat → Int32) × (Nat → Nat → Int64) :=
  fCh_perform_L_95 r2 y2 y3 y4 ((fCm_perform y3 y4 I J).1) ((fCm_perform y3 y4 I J).2)
def pCh_perform_L_85 (q2 : Int32 → (Nat → Nat → Int32) → (Nat → Nat → Int64) → Prop) (y2 : Int32) (y3 : Int32) (y4 : Int32) (I : Nat → Nat → Int32) (J : Nat → Nat → Int64) : Prop :=
  (pCm_perform y3 y4 I J) ∧ (pCh_perform_L_95 q2 y2 y3 y4 ((fCm_perform y3 y4 I J).1) ((fCm_perform y3 y4 I J).2))
def fCh_perform_L_98 (r2 : Int32 → (Nat → Nat → Int32) → (Nat → Nat → Int64) → (Nat → Nat → Int32) × (Nat → Nat → Int64)) (y2 : Int32) (y3 : Int32) (y4 : Int32) (I : Nat → Nat → Int32) (J : Nat → Nat → Int64) : (Nat → Nat → Int32) × (Nat → Nat → Int64) :=
  fCh_perform_L_108 r2 y2 y3 y4 ((fVa_perform y3 y4 I J).1) ((fVa_perform y3 y4 I J).2)
def pCh_perform_L_98 (q2 : Int32 → (Nat → Nat → Int32) → (Nat → Nat → Int64) → Prop) (y2 : Int32) (y3 : Int32) (y4 : Int32) (I : Nat → Nat → Int32) (J : Nat → Nat → Int64) : Prop :=
  (pVa_perform y3 y4 I J) ∧ (pCh_perform_L_108 q2 y2 y3 y4 ((fVa_perform y3 y4 I J).1) ((fVa_perform y3 y4 I J).2))
def fCh_perform_L_2  : Nat → Int32 → (Nat → Nat → Int32) → (Nat → Nat → Int64) → (Nat → Nat → Int32) × (Nat → Nat → Int64)
  | 0, _, I, J => (I, J)
  | n + 1, y2, I, J =>
  if (I 7 2) ≤ y2 then (I, J)
  else if (I 8 y2.toNatClampNeg) = (32 : Int32) then fCh_perform_L_44 (fCh_perform_L_2 n) y2 (I 8 y2.toNatClampNeg) (I 9 y2.toNatClampNeg) ((fSt_change 2049 (I 9 y2.toNatClampNeg) I J)) J
    else if (I 8 y2.toNatClampNeg) = (51 : Int32) then fCh_perform_L_64 (fCh_perform_L_2 n) y2 (I 8 y2.toNatClampNeg) (I 9 y2.toNatClampNeg) ((fCm_test 257 I J).1) ((fCm_test 257 I J).2)
      else if (51 : Int32) < (I 8 y2.toNatClampNeg) then fCh_perform_L_85 (fCh_perform_L_2 n) y2 (I 8 y2.toNatClampNeg) (I 9 y2.toNatClampNeg) I J
        else if (I 8 y2.toNatClampNeg) < (33 : Int32) then fCh_perform_L_98 (fCh_perform_L_2 n) y2 (I 8 y2.toNatClampNeg) (I 9 y2.toNatClampNeg) I J
          else if (42 : Int32) < (I 8 y2.toNatClampNeg) then fCh_perform_L_98 (fCh_perform_L_2 n) y2 (I 8 y2.toNatClampNeg) (I 9 y2.toNatClampNeg) I J
            else fCh_perform_L_85 (fCh_perform_L_2 n) y2 (I 8 y2.toNatClampNeg) (I 9 y2.toNatClampNeg) I J
def pCh_perform_L_2  : Nat → Int32 → (Nat → Nat → Int32) → (Nat → Nat → Int64) → Prop
  | 0, _, _, _ => False
  | n + 1, y2, I, J =>
  ((I 7 2) ≤ y2 → True) ∧
  (¬ ((I 7 2) ≤ y2) → (vp_in y2 4000) ∧ ((vp_in y2 4000) ∧ (((I 8 y2.toNatClampNeg) = (32 : Int32) → (pSt_change 2049 (I 9 y2.toNatClampNeg) I J) ∧ (pCh_perform_L_44 (pCh_perform_L_2 n) y2 (I 8 y2.toNatClampNeg) (I 9 y2.toNatClampNeg) ((fSt_change 2049 (I 9 y2.toNatClampNeg) I J)) J)) ∧
    (¬ ((I 8 y2.toNatClampNeg) = (32 : Int32)) → ((I 8 y2.toNatClampNeg) = (51 : Int32) → (pCm_test 257 I J) ∧ (pCh_perform_L_64 (pCh_perform_L_2 n) y2 (I 8 y2.toNatClampNeg) (I 9 y2.toNatClampNeg) ((fCm_test 257 I J).1) ((fCm_test 257 I J).2))) ∧
      (¬ ((I 8 y2.toNatClampNeg) = (51 : Int32)) → ((51 : Int32) < (I 8 y2.toNatClampNeg) → pCh_perform_L_85 (pCh_perform_L_2 n) y2 (I 8 y2.toNatClampNeg) (I 9 y2.toNatClampNeg) I J) ∧
        (¬ ((51 : Int32) < (I 8 y2.toNatClampNeg)) → ((I 8 y2.toNatClampNeg) < (33 : Int32) → pCh_perform_L_98 (pCh_perform_L_2 n) y2 (I 8 y2.toNatClampNeg) (I 9 y2.toNatClampNeg) I J) ∧
          (¬ ((I 8 y2.toNatClampNeg) < (33 : Int32)) → ((42 : Int32) < (I 8 y2.toNatClampNeg) → pCh_perform_L_98 (pCh_perform_L_2 n) y2 (I 8 y2.toNatClampNeg) (I 9 y2.toNatClampNeg) I J) ∧
            (¬ ((42 : Int32) < (I 8 y2.toNatClampNeg)) → pCh_perform_L_85 (pCh_perform_L_2 n) y2 (I 8 y2.toNatClampNeg) (I 9 y2.toNatClampNeg) I J))))))))
def fCh_perform_L (n2 : Nat) (I : Nat → Nat → Int32) (J : Nat → Nat → Int64) : (Nat → Nat → Int32) × (Nat → Nat → Int64) :=
  fCh_perform_L_2 n2 (0 : Int32) I J
def pCh_perform_L (n2 : Nat) (I : Nat → Nat → Int32) (J : Nat → Nat → Int64) : Prop :=
  pCh_perform_L_2 n2 (0 : Int32) I J
set_option maxHeartbeats 4000000 in
set_option maxRecDepth 100000 in
theorem Ch_perform_L_n108 (g : pmG) (d : Nat) (ex : List (Nat × Nat)) (R : Nat → Nat → Value) (hR : pk_R R) (o : Outcome) (Z : pmM) (r2 : Int32 → (Nat → Nat → Int32) → (Nat → Nat → Int64) → (Nat → Nat → Int32) × (Nat → Nat → Int64)) (q2 : Int32 → (Nat → Nat → Int32) → (Nat → Nat → Int64) → Prop) (ih2 : ∀ (y2 : Int32) (I : Nat → Nat → Int32) (J : Nat → Nat → Int64), q2 y2 I J → o = .returned none → Z = (pk_K ++ ex, R, (r2 y2 I J).1, (r2 y2 I J).2) → pmE g kCh_perform (d + 5) 0 0 2 [(0, .ref 0), (1, .ref 7), (2, .int y2)] [] (pk_K ++ ex) R I J o Z)  (y2 : Int32) (y3 : Int32) (y4 : Int32) (I : Nat → Nat → Int32) (J : Nat → Nat → Int64) (hp : pCh_perform_L_108 q2 y2 y3 y4 I J) (ho : o = .returned none) (hz : Z = (pk_K ++ ex, R, (fCh_perform_L_108 r2 y2 y3 y4 I J).1, (fCh_perform_L_108 r2 y2 y3 y4 I J).2)) : pmE g kCh_perform (d + 5) 0 0 108 [(0, .ref 0), (1, .ref 7), (2, .int y2), (3, .int y3), (4, .int y4)] [] (pk_K ++ ex) R I J o Z := by
  unfold pCh_perform_L_108 at hp
  refine pm_iinc dCh_perform_108 rfl (by decide) rfl ?_
  refine pm_goto 2 dCh_perform_111 (by decide) ?_
  refine pm_wk [1, 2, 0] rfl ?_
  exact ih2 _ _ _ hp ho (hz.trans (by first | rfl | (simp only [fCh_perform_L_108]; done) | (simp only [fCh_perform_L_108]; rfl)))
set_option maxHeartbeats 4000000 in
set_option maxRecDepth 100000 in
theorem Ch_perform_L_n44 (g : pmG) (d : Nat) (ex : List (Nat × Nat)) (R : Nat → Nat → Value) (hR : pk_R R) (o : Outcome) (Z : pmM) (r2 : Int32 → (Nat → Nat → Int32) → (Nat → Nat → Int64) → (Nat → Nat → Int32) × (Nat → Nat → Int64)) (q2 : Int32 → (Nat → Nat → Int32) → (Nat → Nat → Int64) → Prop) (ih2 : ∀ (y2 : Int32) (I : Nat → Nat → Int32) (J : Nat → Nat → Int64), q2 y2 I J → o = .returned none → Z = (pk_K ++ ex, R, (r2 y2 I J).1, (r2 y2 I J).2) → pmE g kCh_perform (d + 5) 0 0 2 [(0, .ref 0), (1, .ref 7), (2, .int y2)] [] (pk_K ++ ex) R I J o Z)  (y2 : Int32) (y3 : Int32) (y4 : Int32) (I : Nat → Nat → Int32) (J : Nat → Nat → Int64) (hp : pCh_perform_L_44 q2 y2 y3 y4 I J) (ho : o = .returned none) (hz : Z = (pk_K ++ ex, R, (fCh_perform_L_44 r2 y2 y3 y4 I J).1, (fCh_perform_L_44 r2 y2 y3 y4 I J).2)) : pmE g kCh_perform (d + 5) 0 0 44 [(0, .ref 0), (1, .ref 7), (2, .int y2), (3, .int y3), (4, .int y4)] [] (pk_K ++ ex) R I J o Z := by
  unfold pCh_perform_L_44 at hp
  refine pm_goto 108 dCh_perform_44 (by decide) ?_
  refine pm_wk [0, 1, 2, 3, 4] rfl ?_
  exact Ch_perform_L_n108 g d ex R hR _ _ r2 q2 ih2  _ _ _ _ _ hp ho (hz.trans (by first | rfl | (simp only [fCh_perform_L_44]; done) | (simp only [fCh_perform_L_44]; rfl)))
set_option maxHeartbeats 4000000 in
set_option maxRecDepth 100000 in
theorem Ch_perform_L_n64 (g : pmG) (d : Nat) (ex : List (Nat × Nat)) (R : Nat → Nat → Value) (hR : pk_R R) (o : Outcome) (Z : pmM) (r2 : Int32 → (Nat → Nat → Int32) → (Nat → Nat → Int64) → (Nat → Nat → Int32) × (Nat → Nat → Int64)) (q2 : Int32 → (Nat → Nat → Int32) → (Nat → Nat → Int64) → Prop) (ih2 : ∀ (y2 : Int32) (I : Nat → Nat → Int32) (J : Nat → Nat → Int64), q2 y2 I J → o = .returned none → Z = (pk_K ++ ex, R, (r2 y2 I J).1, (r2 y2 I J).2) → pmE g kCh_perform (d + 5) 0 0 2 [(0, .ref 0), (1, .ref 7), (2, .int y2)] [] (pk_K ++ ex) R I J o Z)  (y2 : Int32) (y3 : Int32) (y4 : Int32) (I : Nat → Nat → Int32) (J : Nat → Nat → Int64) (hp : pCh_perform_L_64 q2 y2 y3 y4 I J) (ho : o = .returned none) (hz : Z = (pk_K ++ ex, R, (fCh_perform_L_64 r2 y2 y3 y4 I J).1, (fCh_perform_L_64 r2 y2 y3 y4 I J).2)) : pmE g kCh_perform (d + 5) 0 0 64 [(0, .ref 0), (1, .ref 7), (2, .int y2), (3, .int y3), (4, .int y4)] [] (pk_K ++ ex) R I J o Z := by
  unfold pCh_perform_L_64 at hp
  refine pm_goto 108 dCh_perform_64 (by decide) ?_
  refine pm_wk [0, 1, 2, 3, 4] rfl ?_
  exact Ch_perform_L_n108 g d ex R hR _ _ r2 q2 ih2  _ _ _ _ _ hp ho (hz.trans (by first | rfl | (simp only [fCh_perform_L_64]; done) | (simp only [fCh_perform_L_64]; rfl)))
set_option maxHeartbeats 4000000 in
set_option maxRecDepth 100000 in
theorem Ch_perform_L_n95 (g : pmG) (d : Nat) (ex : List (Nat × Nat)) (R : Nat → Nat → Value) (hR : pk_R R) (o : Outcome) (Z : pmM) (r2 : Int32 → (Nat → Nat → Int32) → (Nat → Nat → Int64) → (Nat → Nat → Int32) × (Nat → Nat → Int64)) (q2 : Int32 → (Nat → Nat → Int32) → (Nat → Nat → Int64) → Prop) (ih2 : ∀ (y2 : Int32) (I : Nat → Nat → Int32) (J : Nat → Nat → Int64), q2 y2 I J → o = .returned none → Z = (pk_K ++ ex, R, (r2 y2 I J).1, (r2 y2 I J).2) → pmE g kCh_perform (d + 5) 0 0 2 [(0, .ref 0), (1, .ref 7), (2, .int y2)] [] (pk_K ++ ex) R I J o Z)  (y2 : Int32) (y3 : Int32) (y4 : Int32) (I : Nat → Nat → Int32) (J : Nat → Nat → Int64) (hp : pCh_perform_L_95 q2 y2 y3 y4 I J) (ho : o = .returned none) (hz : Z = (pk_K ++ ex, R, (fCh_perform_L_95 r2 y2 y3 y4 I J).1, (fCh_perform_L_95 r2 y2 y3 y4 I J).2)) : pmE g kCh_perform (d + 5) 0 0 95 [(0, .ref 0), (1, .ref 7), (2, .int y2), (3, .int y3), (4, .int y4)] [] (pk_K ++ ex) R I J o Z := by
  unfold pCh_perform_L_95 at hp
  refine pm_goto 108 dCh_perform_95 (by decide) ?_
  refine pm_wk [0, 1, 2, 3, 4] rfl ?_
  exact Ch_perform_L_n108 g d ex R hR _ _ r2 q2 ih2  _ _ _ _ _ hp ho (hz.trans (by first | rfl | (simp only [fCh_perform_L_95]; done) | (simp only [fCh_perform_L_95]; rfl)))
set_option maxHeartbeats 4000000 in
set_option maxRecDepth 100000 in
theorem Ch_perform_L_n85 (g : pmG) (d : Nat) (ex : List (Nat × Nat)) (R : Nat → Nat → Value) (hR : pk_R R) (o : Outcome) (Z : pmM) (r2 : Int32 → (Nat → Nat → Int32) → (Nat → Nat → Int64) → (Nat → Nat → Int32) × (Nat → Nat → Int64)) (q2 : Int32 → (Nat → Nat → Int32) → (Nat → Nat → Int64) → Prop) (ih2 : ∀ (y2 : Int32) (I : Nat → Nat → Int32) (J : Nat → Nat → Int64), q2 y2 I J → o = .returned none → Z = (pk_K ++ ex, R, (r2 y2 I J).1, (r2 y2 I J).2) → pmE g kCh_perform (d + 5) 0 0 2 [(0, .ref 0), (1, .ref 7), (2, .int y2)] [] (pk_K ++ ex) R I J o Z)  (y2 : Int32) (y3 : Int32) (y4 : Int32) (I : Nat → Nat → Int32) (J : Nat → Nat → Int64) (hp : pCh_perform_L_85 q2 y2 y3 y4 I J) (ho : o = .returned none) (hz : Z = (pk_K ++ ex, R, (fCh_perform_L_85 r2 y2 y3 y4 I J).1, (fCh_perform_L_85 r2 y2 y3 y4 I J).2)) : pmE g kCh_perform (d + 5) 0 0 85 [(0, .ref 0), (1, .ref 7), (2, .int y2), (3, .int y3), (4, .int y4)] [] (pk_K ++ ex) R I J o Z := by
  unfold pCh_perform_L_85 at hp
  refine pm_aload_n dCh_perform_85 rfl ?_
  refine pm_getr dCh_perform_86 fCh_53 rfl (rr_0_5 hR) ?_
  refine pm_iload_n dCh_perform_89 rfl ?_
  refine pm_iload dCh_perform_90 rfl ?_
  refine pm_callV dCh_perform_92 lCh_221 vCm_perform ⟨_, _, rfl⟩ (Cm_perform_ok _ _ _ _ hR _ _ _ _ hp.1) rfl rfl rfl (Nat.le_of_ble_eq_true rfl) (Nat.le_refl _) (Nat.le_refl _) ?_
  refine pm_wk [0, 1, 2, 3, 4] rfl ?_
  exact Ch_perform_L_n95 g d ex R hR _ _ r2 q2 ih2  _ _ _ _ _ hp.2 ho (hz.trans (by first | rfl | (simp only [fCh_perform_L_85]; done) | (simp only [fCh_perform_L_85]; rfl)))
set_option maxHeartbeats 4000000 in
set_option maxRecDepth 100000 in
theorem Ch_perform_L_n98 (g : pmG) (d : Nat) (ex : List (Nat × Nat)) (R : Nat → Nat → Value) (hR : pk_R R) (o : Outcome) (Z : pmM) (r2 : Int32 → (Nat → Nat → Int32) → (Nat → Nat → Int64) → (Nat → Nat → Int32) × (Nat → Nat → Int64)) (q2 : Int32 → (Nat → Nat → Int32) → (Nat → Nat → Int64) → Prop) (ih2 : ∀ (y2 : Int32) (I : Nat → Nat → Int32) (J : Nat → Nat → Int64), q2 y2 I J → o = .returned none → Z = (pk_K ++ ex, R, (r2 y2 I J).1, (r2 y2 I J).2) → pmE g kCh_perform (d + 5) 0 0 2 [(0, .ref 0), (1, .ref 7), (2, .int y2)] [] (pk_K ++ ex) R I J o Z)  (y2 : Int32) (y3 : Int32) (y4 : Int32) (I : Nat → Nat → Int32) (J : Nat → Nat → Int64) (hp : pCh_perform_L_98 q2 y2 y3 y4 I J) (ho : o = .returned none) (hz : Z = (pk_K ++ ex, R, (fCh_perform_L_98 r2 y2 y3 y4 I J).1, (fCh_perform_L_98 r2 y2 y3 y4 I J).2)) : pmE g kCh_perform (d + 5) 0 0 98 [(0, .ref 0), (1, .ref 7), (2, .int y2), (3, .int y3), (4, .int y4)] [] (pk_K ++ ex) R I J o Z := by
  unfold pCh_perform_L_98 at hp
  refine pm_aload_n dCh_perform_98 rfl ?_
  refine pm_getr dCh_perform_99 fCh_37 rfl (rr_0_3 hR) ?_
  refine pm_iload_n dCh_perform_102 rfl ?_
  refine pm_iload dCh_perform_103 rfl ?_
  refine pm_callV dCh_perform_105 lCh_224 vVa_perform ⟨_, _, rfl⟩ (Va_perform_ok _ _ _ _ hR _ _ _ _ hp.1) rfl rfl rfl (Nat.le_of_ble_eq_true rfl) (Nat.le_refl _) (Nat.le_refl _) ?_
  refine pm_wk [0, 1, 2, 3, 4] rfl ?_
  exact Ch_perform_L_n108 g d ex R hR _ _ r2 q2 ih2  _ _ _ _ _ hp.2 ho (hz.trans (by first | rfl | (simp only [fCh_perform_L_98]; done) | (simp only [fCh_perform_L_98]; rfl)))
set_option maxHeartbeats 4000000 in
set_option maxRecDepth 100000 in
theorem Ch_perform_L_n2 (g : pmG) (d : Nat) (ex : List (Nat × Nat)) (R : Nat → Nat → Value) (hR : pk_R R) (o : Outcome) (Z : pmM)  : ∀ (n : Nat) (y2 : Int32) (I : Nat → Nat → Int32) (J : Nat → Nat → Int64), pCh_perform_L_2 n y2 I J → o = .returned none → Z = (pk_K ++ ex, R, (fCh_perform_L_2 n y2 I J).1, (fCh_perform_L_2 n y2 I J).2) → pmE g kCh_perform (d + 5) 0 0 2 [(0, .ref 0), (1, .ref 7), (2, .int y2)] [] (pk_K ++ ex) R I J o Z := by
  intro n
  induction n with
  | zero => intro y2 I J hp; exact False.elim hp
  | succ n ih =>
  intro y2 I J hp ho hz
  simp only [pCh_perform_L_2] at hp
  refine pm_iload_n dCh_perform_2 rfl ?_
  refine pm_aload_n dCh_perform_3 rfl ?_
  refine pm_geti dCh_perform_4 fCh_204 rfl ?_
  refine pm_icmp_ge 114 dCh_perform_7 (by decide) (fun h7 => ?_) (fun h7 => ?_)
  ·
    exact pm_vret dCh_perform_114 rfl ho (hz.trans (by first | (simp only [fCh_perform_L_2, if_pos h7]; done) | (simp only [fCh_perform_L_2, if_pos h7]; rfl) | rfl))
  ·
    refine pm_aload_n dCh_perform_10 rfl ?_
    refine pm_getr dCh_perform_11 fCh_207 rfl (rr_7_0 hR) ?_
    refine pm_iload_n dCh_perform_14 rfl ?_
    refine pm_iald dCh_perform_15 rfl (hp.2 h7).1 ?_
    refine pm_istore_n dCh_perform_16 (by decide) rfl ?_
    refine pm_aload_n dCh_perform_17 rfl ?_
    refine pm_getr dCh_perform_18 fCh_210 rfl (rr_7_1 hR) ?_
    refine pm_iload_n dCh_perform_21 rfl ?_
    refine pm_iald dCh_perform_22 rfl (hp.2 h7).2.1 ?_
    refine pm_istore dCh_perform_23 (by decide) rfl ?_
    refine pm_iload_n dCh_perform_25 rfl ?_
    refine pm_bipush (v := 32) dCh_perform_26 (by decide) ?_
    refine pm_icmp_ne 47 dCh_perform_28 (by decide) (fun h28 => ?_) (fun h28 => ?_)
    ·
      refine pm_iload_n dCh_perform_47 rfl ?_
      refine pm_bipush (v := 51) dCh_perform_48 (by decide) ?_
      refine pm_icmp_ne 67 dCh_perform_50 (by decide) (fun h50 => ?_) (fun h50 => ?_)
      ·
        refine pm_iload_n dCh_perform_67 rfl ?_
        refine pm_bipush (v := 51) dCh_perform_68 (by decide) ?_
        refine pm_icmp_gt 85 dCh_perform_70 (by decide) (fun h70 => ?_) (fun h70 => ?_)
        ·
          refine pm_wk [2, 3, 4, 1, 0] rfl ?_
          exact Ch_perform_L_n85 g d ex R hR _ _ (fCh_perform_L_2 n) (pCh_perform_L_2 n) ih  _ _ _ _ _ ((((hp.2 h7).2.2.2 h28).2 h50).1 h70) ho (hz.trans (by first | (simp only [fCh_perform_L_2, if_neg h7, if_neg h28, if_neg h50, if_pos h70]; done) | (simp only [fCh_perform_L_2, if_neg h7, if_neg h28, if_neg h50, if_pos h70]; rfl) | rfl))
        ·
          refine pm_iload_n dCh_perform_73 rfl ?_
          refine pm_bipush (v := 33) dCh_perform_74 (by decide) ?_
          refine pm_icmp_lt 98 dCh_perform_76 (by decide) (fun h76 => ?_) (fun h76 => ?_)
          ·
            refine pm_wk [2, 3, 4, 1, 0] rfl ?_
            exact Ch_perform_L_n98 g d ex R hR _ _ (fCh_perform_L_2 n) (pCh_perform_L_2 n) ih  _ _ _ _ _ (((((hp.2 h7).2.2.2 h28).2 h50).2 h70).1 h76) ho (hz.trans (by first | (simp only [fCh_perform_L_2, if_neg h7, if_neg h28, if_neg h50, if_neg h70, if_pos h76]; done) | (simp only [fCh_perform_L_2, if_neg h7, if_neg h28, if_neg h50, if_neg h70, if_pos h76]; rfl) | rfl))
          ·
            refine pm_iload_n dCh_perform_79 rfl ?_
            refine pm_bipush (v := 42) dCh_perform_80 (by decide) ?_
            refine pm_icmp_gt 98 dCh_perform_82 (by decide) (fun h82 => ?_) (fun h82 => ?_)
            ·
              refine pm_wk [2, 3, 4, 1, 0] rfl ?_
              exact Ch_perform_L_n98 g d ex R hR _ _ (fCh_perform_L_2 n) (pCh_perform_L_2 n) ih  _ _ _ _ _ ((((((hp.2 h7).2.2.2 h28).2 h50).2 h70).2 h76).1 h82) ho (hz.trans (by first | (simp only [fCh_perform_L_2, if_neg h7, if_neg h28, if_neg h50, if_neg h70, if_neg h76, if_pos h82]; done) | (simp only [fCh_perform_L_2, if_neg h7, if_neg h28, if_neg h50, if_neg h70, if_neg h76, if_pos h82]; rfl) | rfl))
            ·
              refine pm_wk [2, 3, 4, 1, 0] rfl ?_
              exact Ch_perform_L_n85 g d ex R hR _ _ (fCh_perform_L_2 n) (pCh_perform_L_2 n) ih  _ _ _ _ _ ((((((hp.2 h7).2.2.2 h28).2 h50).2 h70).2 h76).2 h82) ho (hz.trans (by first | (simp only [fCh_perform_L_2, if_neg h7, if_neg h28, if_neg h50, if_neg h70, if_neg h76, if_neg h82]; done) | (simp only [fCh_perform_L_2, if_neg h7, if_neg h28, if_neg h50, if_neg h70, if_neg h76, if_neg h82]; rfl) | rfl))
      ·
        refine pm_aload_n dCh_perform_53 rfl ?_
        refine pm_getr dCh_perform_54 fCh_53 rfl (rr_0_5 hR) ?_
        refine pm_aload_n dCh_perform_57 rfl ?_
        refine pm_getr dCh_perform_58 fCh_37 rfl (rr_0_3 hR) ?_
        refine pm_callV dCh_perform_61 lCh_217 vCm_test ⟨_, _, rfl⟩ (Cm_test_ok _ _ _ _ hR _ _ _ (((hp.2 h7).2.2.2 h28).1 h50).1) rfl rfl rfl (Nat.le_of_ble_eq_true rfl) (Nat.le_refl _) (Nat.le_refl _) ?_
        refine pm_wk [2, 3, 4, 1, 0] rfl ?_
        exact Ch_perform_L_n64 g d ex R hR _ _ (fCh_perform_L_2 n) (pCh_perform_L_2 n) ih  _ _ _ _ _ (((hp.2 h7).2.2.2 h28).1 h50).2 ho (hz.trans (by first | (simp only [fCh_perform_L_2, if_neg h7, if_neg h28, if_pos h50]; done) | (simp only [fCh_perform_L_2, if_neg h7, if_neg h28, if_pos h50]; rfl) | rfl))
    ·
      refine pm_aload_n dCh_perform_31 rfl ?_
      refine pm_getr dCh_perform_32 fCh_44 rfl (rr_0_4 hR) ?_
      refine pm_iload dCh_perform_35 rfl ?_
      refine pm_aload_n dCh_perform_37 rfl ?_
      refine pm_getr dCh_perform_38 fCh_37 rfl (rr_0_3 hR) ?_
      refine pm_callV dCh_perform_41 lCh_213 vSt_change ⟨_, _, rfl⟩ (St_change_ok _ _ _ _ hR _ _ _ _ ((hp.2 h7).2.2.1 h28).1) rfl rfl rfl (Nat.le_of_ble_eq_true rfl) (Nat.le_refl _) (Nat.le_refl _) ?_
      refine pm_wk [2, 3, 4, 1, 0] rfl ?_
      exact Ch_perform_L_n44 g d ex R hR _ _ (fCh_perform_L_2 n) (pCh_perform_L_2 n) ih  _ _ _ _ _ ((hp.2 h7).2.2.1 h28).2 ho (hz.trans (by first | (simp only [fCh_perform_L_2, if_neg h7, if_pos h28]; done) | (simp only [fCh_perform_L_2, if_neg h7, if_pos h28]; rfl) | rfl))
set_option maxHeartbeats 4000000 in
set_option maxRecDepth 100000 in
theorem Ch_perform_L_n0 (g : pmG) (d : Nat) (ex : List (Nat × Nat)) (R : Nat → Nat → Value) (hR : pk_R R) (o : Outcome) (Z : pmM) (n2 : Nat) (I : Nat → Nat → Int32) (J : Nat → Nat → Int64) (hp : pCh_perform_L n2 I J) (ho : o = .returned none) (hz : Z = (pk_K ++ ex, R, (fCh_perform_L n2 I J).1, (fCh_perform_L n2 I J).2)) : pmE g kCh_perform (d + 5) 0 0 0 [(0, .ref 0), (1, .ref 7)] [] (pk_K ++ ex) R I J o Z := by
  unfold pCh_perform_L at hp
  refine pm_iconst (v := 0) dCh_perform_0 (by decide) ?_
  refine pm_istore_n dCh_perform_1 (by decide) rfl ?_
  refine pm_wk [1, 2, 0] rfl ?_
  exact Ch_perform_L_n2 g d ex R hR _ _  n2 _ _ _ hp ho (hz.trans (by first | rfl | (simp only [fCh_perform_L]; done) | (simp only [fCh_perform_L]; rfl)))
set_option maxHeartbeats 4000000 in
set_option maxRecDepth 100000 in
theorem Ch_perform_L_ok (g : pmG) (d : Nat) (ex : List (Nat × Nat)) (R : Nat → Nat → Value) (hR : pk_R R) (n2 : Nat)  (I : Nat → Nat → Int32) (J : Nat → Nat → Int64) (hp : pCh_perform_L n2 I J) : pmC g kCh_perform (d + 5) 0 0 [.ref 0, .ref 7] (pk_K ++ ex, R, I, J) (.returned none) (pk_K ++ ex, R, (fCh_perform_L n2 I J).1, (fCh_perform_L n2 I J).2) :=
  pmC.of (by decide) (Nat.le_of_ble_eq_true rfl) (Ch_perform_L_n0 g d ex R hR _ _ n2  I J hp rfl rfl)
def fCh_perform_F_108 (r2 : Int32 → (Nat → Nat → Int32) → (Nat → Nat → Int64) → (Nat → Nat → Int32) × (Nat → Nat → Int64)) (y2 : Int32) (y3 : Int32) (y4 : Int32) (I : Nat → Nat → Int32) (J : Nat → Nat → Int64) : (Nat → Nat → Int32) × (Nat → Nat → Int64) :=
  r2 (y2 + Int32.ofInt 1) I J
def pCh_perform_F_108 (q2 : Int32 → (Nat → Nat → Int32) → (Nat → Nat → Int64) → Prop) (y2 : Int32) (y3 : Int32) (y4 : Int32) (I : Nat → Nat → Int32) (J : Nat → Nat → Int64) : Prop :=
  q2 (y2 + Int32.ofInt 1) I J
def fCh_perform_F_44 (r2 : Int32 → (Nat → Nat → Int32) → (Nat → Nat → Int64) → (Nat → Nat → Int32) × (Nat → Nat → Int64)) (y2 : Int32) (y3 : Int32) (y4 : Int32) (I : Nat → Nat → Int32) (J : Nat → Nat → Int64) : (Nat → Nat → Int32) × (Nat → Nat → Int64) :=
  fCh_perform_F_108 r2 y2 y3 y4 I J
def pCh_perform_F_44 (q2 : Int32 → (Nat → Nat → Int32) → (Nat → Nat → Int64) → Prop) (y2 : Int32) (y3 : Int32) (y4 : Int32) (I : Nat → Nat → Int32) (J : Nat → Nat → Int64) : Prop :=
  pCh_perform_F_108 q2 y2 y3 y4 I J
def fCh_perform_F_64 (r2 : Int32 → (Nat → Nat → Int32) → (Nat → Nat → Int64) → (Nat → Nat → Int32) × (Nat → Nat → Int64)) (y2 : Int32) (y3 : Int32) (y4 : Int32) (I : Nat → Nat → Int32) (J : Nat → Nat → Int64) : (Nat → Nat → Int32) × (Nat → Nat → Int64) :=
  fCh_perform_F_108 r2 y2 y3 y4 I J
def pCh_perform_F_64 (q2 : Int32 → (Nat → Nat → Int32) → (Nat → Nat → Int64) → Prop) (y2 : Int32) (y3 : Int32) (y4 : Int32) (I : Nat → Nat → Int32) (J : Nat → Nat → Int64) : Prop :=
  pCh_perform_F_108 q2 y2 y3 y4 I J
def fCh_perform_F_95 (r2 : Int32 → (Nat → Nat → Int32) → (Nat → Nat → Int64) → (Nat → Nat → Int32) × (Nat → Nat → Int64)) (y2 : Int32) (y3 : Int32) (y4 : Int32) (I : Nat → Nat → Int32) (J : Nat → Nat → Int64) : (Nat → Nat → Int32) × (Nat → Nat → Int64) :=
  fCh_perform_F_108 r2 y2 y3 y4 I J
def pCh_perform_F_95 (q2 : Int32 → (Nat → Nat → Int32) → (Nat → Nat → Int64) → Prop) (y2 : Int32) (y3 : Int32) (y4 : Int32) (I : Nat → Nat → Int32) (J : Nat → Nat → Int64) : Prop :=
  pCh_perform_F_108 q2 y2 y3 y4 I J
def fCh_perform_F_85 (r2 : Int32 → (Nat → Nat → Int32) → (Nat → Nat → Int64) → (Nat → Nat → Int32) × (Nat → Nat → Int64)) (y2 : Int32) (y3 : Int32) (y4 : Int32) (I : Nat → Nat → Int32) (J : Nat → Nat → Int64) : (Nat → Nat → Int32) × (Nat → Nat → Int64) :=
  fCh_perform_F_95 r2 y2 y3 y4 ((fCm_perform y3 y4 I J).1) ((fCm_perform y3 y4 I J).2)
def pCh_perform_F_85 (q2 : Int32 → (Nat → Nat → Int32) → (Nat → Nat → Int64) → Prop) (y2 : Int32) (y3 : Int32) (y4 : Int32) (I : Nat → Nat → Int32) (J : Nat → Nat → Int64) : Prop :=
  (pCm_perform y3 y4 I J) ∧ (pCh_perform_F_95 q2 y2 y3 y4 ((fCm_perform y3 y4 I J).1) ((fCm_perform y3 y4 I J).2))
def fCh_perform_F_98 (r2 : Int32 → (Nat → Nat → Int32) → (Nat → Nat → Int64) → (Nat → Nat → Int32) × (Nat → Nat → Int64)) (y2 : Int32) (y3 : Int32) (y4 : Int32) (I : Nat → Nat → Int32) (J : Nat → Nat → Int64) : (Nat → Nat → Int32) × (Nat → Nat → Int64) :=
  fCh_perform_F_108 r2 y2 y3 y4 ((fVa_perform y3 y4 I J).1) ((fVa_perform y3 y4 I J).2)
def pCh_perform_F_98 (q2 : Int32 → (Nat → Nat → Int32) → (Nat → Nat → Int64) → Prop) (y2 : Int32) (y3 : Int32) (y4 : Int32) (I : Nat → Nat → Int32) (J : Nat → Nat → Int64) : Prop :=
  (pVa_perform y3 y4 I J) ∧ (pCh_perform_F_108 q2 y2 y3 y4 ((fVa_perform y3 y4 I J).1) ((fVa_perform y3 y4 I J).2))
def fCh_perform_F_2  : Nat → Int32 → (Nat → Nat → Int32) → (Nat → Nat → Int64) → (Nat → Nat → Int32) × (Nat → Nat → Int64)
  | 0, _, I, J => (I, J)
  | n + 1, y2, I, J =>
  if (I 10 2) ≤ y2 then (I, J)
  else if (I 11 y2.toNatClampNeg) = (32 : Int32) then fCh_perform_F_44 (fCh_perform_F_2 n) y2 (I 11 y2.toNatClampNeg) (I 12 y2.toNatClampNeg) ((fSt_change 2049 (I 12 y2.toNatClampNeg) I J)) J
    else if (I 11 y2.toNatClampNeg) = (51 : Int32) then fCh_perform_F_64 (fCh_perform_F_2 n) y2 (I 11 y2.toNatClampNeg) (I 12 y2.toNatClampNeg) ((fCm_test 257 I J).1) ((fCm_test 257 I J).2)
      else if (51 : Int32) < (I 11 y2.toNatClampNeg) then fCh_perform_F_85 (fCh_perform_F_2 n) y2 (I 11 y2.toNatClampNeg) (I 12 y2.toNatClampNeg) I J
        else if (I 11 y2.toNatClampNeg) < (33 : Int32) then fCh_perform_F_98 (fCh_perform_F_2 n) y2 (I 11 y2.toNatClampNeg) (I 12 y2.toNatClampNeg) I J
          else if (42 : Int32) < (I 11 y2.toNatClampNeg) then fCh_perform_F_98 (fCh_perform_F_2 n) y2 (I 11 y2.toNatClampNeg) (I 12 y2.toNatClampNeg) I J
            else fCh_perform_F_85 (fCh_perform_F_2 n) y2 (I 11 y2.toNatClampNeg) (I 12 y2.toNatClampNeg) I J
def pCh_perform_F_2  : Nat → Int32 → (Nat → Nat → Int32) → (Nat → Nat → Int64) → Prop
  | 0, _, _, _ => False
  | n + 1, y2, I, J =>
  ((I 10 2) ≤ y2 → True) ∧
  (¬ ((I 10 2) ≤ y2) → (vp_in y2 4000) ∧ ((vp_in y2 4000) ∧ (((I 11 y2.toNatClampNeg) = (32 : Int32) → (pSt_change 2049 (I 12 y2.toNatClampNeg) I J) ∧ (pCh_perform_F_44 (pCh_perform_F_2 n) y2 (I 11 y2.toNatClampNeg) (I 12 y2.toNatClampNeg) ((fSt_change 2049 (I 12 y2.toNatClampNeg) I J)) J)) ∧
    (¬ ((I 11 y2.toNatClampNeg) = (32 : Int32)) → ((I 11 y2.toNatClampNeg) = (51 : Int32) → (pCm_test 257 I J) ∧ (pCh_perform_F_64 (pCh_perform_F_2 n) y2 (I 11 y2.toNatClampNeg) (I 12 y2.toNatClampNeg) ((fCm_test 257 I J).1) ((fCm_test 257 I J).2))) ∧
      (¬ ((I 11 y2.toNatClampNeg) = (51 : Int32)) → ((51 : Int32) < (I 11 y2.toNatClampNeg) → pCh_perform_F_85 (pCh_perform_F_2 n) y2 (I 11 y2.toNatClampNeg) (I 12 y2.toNatClampNeg) I J) ∧
        (¬ ((51 : Int32) < (I 11 y2.toNatClampNeg)) → ((I 11 y2.toNatClampNeg) < (33 : Int32) → pCh_perform_F_98 (pCh_perform_F_2 n) y2 (I 11 y2.toNatClampNeg) (I 12 y2.toNatClampNeg) I J) ∧
          (¬ ((I 11 y2.toNatClampNeg) < (33 : Int32)) → ((42 : Int32) < (I 11 y2.toNatClampNeg) → pCh_perform_F_98 (pCh_perform_F_2 n) y2 (I 11 y2.toNatClampNeg) (I 12 y2.toNatClampNeg) I J) ∧
            (¬ ((42 : Int32) < (I 11 y2.toNatClampNeg)) → pCh_perform_F_85 (pCh_perform_F_2 n) y2 (I 11 y2.toNatClampNeg) (I 12 y2.toNatClampNeg) I J))))))))
def fCh_perform_F (n2 : Nat) (I : Nat → Nat → Int32) (J : Nat → Nat → Int64) : (Nat → Nat → Int32) × (Nat → Nat → Int64) :=
  fCh_perform_F_2 n2 (0 : Int32) I J
def pCh_perform_F (n2 : Nat) (I : Nat → Nat → Int32) (J : Nat → Nat → Int64) : Prop :=
  pCh_perform_F_2 n2 (0 : Int32) I J
set_option maxHeartbeats 4000000 in
set_option maxRecDepth 100000 in
theorem Ch_perform_F_n108 (g : pmG) (d : Nat) (ex : List (Nat × Nat)) (R : Nat → Nat → Value) (hR : pk_R R) (o : Outcome) (Z : pmM) (r2 : Int32 → (Nat → Nat → Int32) → (Nat → Nat → Int64) → (Nat → Nat → Int32) × (Nat → Nat → Int64)) (q2 : Int32 → (Nat → Nat → Int32) → (Nat → Nat → Int64) → Prop) (ih2 : ∀ (y2 : Int32) (I : Nat → Nat → Int32) (J : Nat → Nat → Int64), q2 y2 I J → o = .returned none → Z = (pk_K ++ ex, R, (r2 y2 I J).1, (r2 y2 I J).2) → pmE g kCh_perform (d + 5) 0 0 2 [(0, .ref 0), (1, .ref 10), (2, .int y2)] [] (pk_K ++ ex) R I J o Z)  (y2 : Int32) (y3 : Int32) (y4 : Int32) (I : Nat → Nat → Int32) (J : Nat → Nat → Int64) (hp : pCh_perform_F_108 q2 y2 y3 y4 I J) (ho : o = .returned none) (hz : Z = (pk_K ++ ex, R, (fCh_perform_F_108 r2 y2 y3 y4 I J).1, (fCh_perform_F_108 r2 y2 y3 y4 I J).2)) : pmE g kCh_perform (d + 5) 0 0 108 [(0, .ref 0), (1, .ref 10), (2, .int y2), (3, .int y3), (4, .int y4)] [] (pk_K ++ ex) R I J o Z := by
  unfold pCh_perform_F_108 at hp
  refine pm_iinc dCh_perform_108 rfl (by decide) rfl ?_
  refine pm_goto 2 dCh_perform_111 (by decide) ?_
  refine pm_wk [1, 2, 0] rfl ?_
  exact ih2 _ _ _ hp ho (hz.trans (by first | rfl | (simp only [fCh_perform_F_108]; done) | (simp only [fCh_perform_F_108]; rfl)))
set_option maxHeartbeats 4000000 in
set_option maxRecDepth 100000 in
theorem Ch_perform_F_n44 (g : pmG) (d : Nat) (ex : List (Nat × Nat)) (R : Nat → Nat → Value) (hR : pk_R R) (o : Outcome) (Z : pmM) (r2 : Int32 → (Nat → Nat → Int32) → (Nat → Nat → Int64) → (Nat → Nat → Int32) × (Nat → Nat → Int64)) (q2 : Int32 → (Nat → Nat → Int32) → (Nat → Nat → Int64) → Prop) (ih2 : ∀ (y2 : Int32) (I : Nat → Nat → Int32) (J : Nat → Nat → Int64), q2 y2 I J → o = .returned none → Z = (pk_K ++ ex, R, (r2 y2 I J).1, (r2 y2 I J).2) → pmE g kCh_perform (d + 5) 0 0 2 [(0, .ref 0), (1, .ref 10), (2, .int y2)] [] (pk_K ++ ex) R I J o Z)  (y2 : Int32) (y3 : Int32) (y4 : Int32) (I : Nat → Nat → Int32) (J : Nat → Nat → Int64) (hp : pCh_perform_F_44 q2 y2 y3 y4 I J) (ho : o = .returned none) (hz : Z = (pk_K ++ ex, R, (fCh_perform_F_44 r2 y2 y3 y4 I J).1, (fCh_perform_F_44 r2 y2 y3 y4 I J).2)) : pmE g kCh_perform (d + 5) 0 0 44 [(0, .ref 0), (1, .ref 10), (2, .int y2), (3, .int y3), (4, .int y4)] [] (pk_K ++ ex) R I J o Z := by
  unfold pCh_perform_F_44 at hp
  refine pm_goto 108 dCh_perform_44 (by decide) ?_
  refine pm_wk [0, 1, 2, 3, 4] rfl ?_
  exact Ch_perform_F_n108 g d ex R hR _ _ r2 q2 ih2  _ _ _ _ _ hp ho (hz.trans (by first | rfl | (simp only [fCh_perform_F_44]; done) | (simp only [fCh_perform_F_44]; rfl)))
set_option maxHeartbeats 4000000 in
set_option maxRecDepth 100000 in
theorem Ch_perform_F_n64 (g : pmG) (d : Nat) (ex : List (Nat × Nat)) (R : Nat → Nat → Value) (hR : pk_R R) (o : Outcome) (Z : pmM) (r2 : Int32 → (Nat → Nat → Int32) → (Nat → Nat → Int64) → (Nat → Nat → Int32) × (Nat → Nat → Int64)) (q2 : Int32 → (Nat → Nat → Int32) → (Nat → Nat → Int64) → Prop) (ih2 : ∀ (y2 : Int32) (I : Nat → Nat → Int32) (J : Nat → Nat → Int64), q2 y2 I J → o = .returned none → Z = (pk_K ++ ex, R, (r2 y2 I J).1, (r2 y2 I J).2) → pmE g kCh_perform (d + 5) 0 0 2 [(0, .ref 0), (1, .ref 10), (2, .int y2)] [] (pk_K ++ ex) R I J o Z)  (y2 : Int32) (y3 : Int32) (y4 : Int32) (I : Nat → Nat → Int32) (J : Nat → Nat → Int64) (hp : pCh_perform_F_64 q2 y2 y3 y4 I J) (ho : o = .returned none) (hz : Z = (pk_K ++ ex, R, (fCh_perform_F_64 r2 y2 y3 y4 I J).1, (fCh_perform_F_64 r2 y2 y3 y4 I J).2)) : pmE g kCh_perform (d + 5) 0 0 64 [(0, .ref 0), (1, .ref 10), (2, .int y2), (3, .int y3), (4, .int y4)] [] (pk_K ++ ex) R I J o Z := by
  unfold pCh_perform_F_64 at hp
  refine pm_goto 108 dCh_perform_64 (by decide) ?_
  refine pm_wk [0, 1, 2, 3, 4] rfl ?_
  exact Ch_perform_F_n108 g d ex R hR _ _ r2 q2 ih2  _ _ _ _ _ hp ho (hz.trans (by first | rfl | (simp only [fCh_perform_F_64]; done) | (simp only [fCh_perform_F_64]; rfl)))
set_option maxHeartbeats 4000000 in
set_option maxRecDepth 100000 in
theorem Ch_perform_F_n95 (g : pmG) (d : Nat) (ex : List (Nat × Nat)) (R : Nat → Nat → Value) (hR : pk_R R) (o : Outcome) (Z : pmM) (r2 : Int32 → (Nat → Nat → Int32) → (Nat → Nat → Int64) → (Nat → Nat → Int32) × (Nat → Nat → Int64)) (q2 : Int32 → (Nat → Nat → Int32) → (Nat → Nat → Int64) → Prop) (ih2 : ∀ (y2 : Int32) (I : Nat → Nat → Int32) (J : Nat → Nat → Int64), q2 y2 I J → o = .returned none → Z = (pk_K ++ ex, R, (r2 y2 I J).1, (r2 y2 I J).2) → pmE g kCh_perform (d + 5) 0 0 2 [(0, .ref 0), (1, .ref 10), (2, .int y2)] [] (pk_K ++ ex) R I J o Z)  (y2 : Int32) (y3 : Int32) (y4 : Int32) (I : Nat → Nat → Int32) (J : Nat → Nat → Int64) (hp : pCh_perform_F_95 q2 y2 y3 y4 I J) (ho : o = .returned none) (hz : Z = (pk_K ++ ex, R, (fCh_perform_F_95 r2 y2 y3 y4 I J).1, (fCh_perform_F_95 r2 y2 y3 y4 I J).2)) : pmE g kCh_perform (d + 5) 0 0 95 [(0, .ref 0), (1, .ref 10), (2, .int y2), (3, .int y3), (4, .int y4)] [] (pk_K ++ ex) R I J o Z := by
  unfold pCh_perform_F_95 at hp
  refine pm_goto 108 dCh_perform_95 (by decide) ?_
  refine pm_wk [0, 1, 2, 3, 4] rfl ?_
  exact Ch_perform_F_n108 g d ex R hR _ _ r2 q2 ih2  _ _ _ _ _ hp ho (hz.trans (by first | rfl | (simp only [fCh_perform_F_95]; done) | (simp only [fCh_perform_F_95]; rfl)))
set_option maxHeartbeats 4000000 in
set_option maxRecDepth 100000 in
theorem Ch_perform_F_n85 (g : pmG) (d : Nat) (ex : List (Nat × Nat)) (R : Nat → Nat → Value) (hR : pk_R R) (o : Outcome) (Z : pmM) (r2 : Int32 → (Nat → Nat → Int32) → (Nat → Nat → Int64) → (Nat → Nat → Int32) × (Nat → Nat → Int64)) (q2 : Int32 → (Nat → Nat → Int32) → (Nat → Nat → Int64) → Prop) (ih2 : ∀ (y2 : Int32) (I : Nat → Nat → Int32) (J : Nat → Nat → Int64), q2 y2 I J → o = .returned none → Z = (pk_K ++ ex, R, (r2 y2 I J).1, (r2 y2 I J).2) → pmE g kCh_perform (d + 5) 0 0 2 [(0, .ref 0), (1, .ref 10), (2, .int y2)] [] (pk_K ++ ex) R I J o Z)  (y2 : Int32) (y3 : Int32) (y4 : Int32) (I : Nat → Nat → Int32) (J : Nat → Nat → Int64) (hp : pCh_perform_F_85 q2 y2 y3 y4 I J) (ho : o = .returned none) (hz : Z = (pk_K ++ ex, R, (fCh_perform_F_85 r2 y2 y3 y4 I J).1, (fCh_perform_F_85 r2 y2 y3 y4 I J).2)) : pmE g kCh_perform (d + 5) 0 0 85 [(0, .ref 0), (1, .ref 10), (2, .int y2), (3, .int y3), (4, .int y4)] [] (pk_K ++ ex) R I J o Z := by
  unfold pCh_perform_F_85 at hp
  refine pm_aload_n dCh_perform_85 rfl ?_
  refine pm_getr dCh_perform_86 fCh_53 rfl (rr_0_5 hR) ?_
  refine pm_iload_n dCh_perform_89 rfl ?_
  refine pm_iload dCh_perform_90 rfl ?_
  refine pm_callV dCh_perform_92 lCh_221 vCm_perform ⟨_, _, rfl⟩ (Cm_perform_ok _ _ _ _ hR _ _ _ _ hp.1) rfl rfl rfl (Nat.le_of_ble_eq_true rfl) (Nat.le_refl _) (Nat.le_refl _) ?_
  refine pm_wk [0, 1, 2, 3, 4] rfl ?_
  exact Ch_perform_F_n95 g d ex R hR _ _ r2 q2 ih2  _ _ _ _ _ hp.2 ho (hz.trans (by first | rfl | (simp only [fCh_perform_F_85]; done) | (simp only [fCh_perform_F_85]; rfl)))
set_option maxHeartbeats 4000000 in
set_option maxRecDepth 100000 in
theorem Ch_perform_F_n98 (g : pmG) (d : Nat) (ex : List (Nat × Nat)) (R : Nat → Nat → Value) (hR : pk_R R) (o : Outcome) (Z : pmM) (r2 : Int32 → (Nat → Nat → Int32) → (Nat → Nat → Int64) → (Nat → Nat → Int32) × (Nat → Nat → Int64)) (q2 : Int32 → (Nat → Nat → Int32) → (Nat → Nat → Int64) → Prop) (ih2 : ∀ (y2 : Int32) (I : Nat → Nat → Int32) (J : Nat → Nat → Int64), q2 y2 I J → o = .returned none → Z = (pk_K ++ ex, R, (r2 y2 I J).1, (r2 y2 I J).2) → pmE g kCh_perform (d + 5) 0 0 2 [(0, .ref 0), (1, .ref 10), (2, .int y2)] [] (pk_K ++ ex) R I J o Z)  (y2 : Int32) (y3 : Int32) (y4 : Int32) (I : Nat → Nat → Int32) (J : Nat → Nat → Int64) (hp : pCh_perform_F_98 q2 y2 y3 y4 I J) (ho : o = .returned none) (hz : Z = (pk_K ++ ex, R, (fCh_perform_F_98 r2 y2 y3 y4 I J).1, (fCh_perform_F_98 r2 y2 y3 y4 I J).2)) : pmE g kCh_perform (d + 5) 0 0 98 [(0, .ref 0), (1, .ref 10), (2, .int y2), (3, .int y3), (4, .int y4)] [] (pk_K ++ ex) R I J o Z := by
  unfold pCh_perform_F_98 at hp
  refine pm_aload_n dCh_perform_98 rfl ?_
  refine pm_getr dCh_perform_99 fCh_37 rfl (rr_0_3 hR) ?_
  refine pm_iload_n dCh_perform_102 rfl ?_
  refine pm_iload dCh_perform_103 rfl ?_
  refine pm_callV dCh_perform_105 lCh_224 vVa_perform ⟨_, _, rfl⟩ (Va_perform_ok _ _ _ _ hR _ _ _ _ hp.1) rfl rfl rfl (Nat.le_of_ble_eq_true rfl) (Nat.le_refl _) (Nat.le_refl _) ?_
  refine pm_wk [0, 1, 2, 3, 4] rfl ?_
  exact Ch_perform_F_n108 g d ex R hR _ _ r2 q2 ih2  _ _ _ _ _ hp.2 ho (hz.trans (by first | rfl | (simp only [fCh_perform_F_98]; done) | (simp only [fCh_perform_F_98]; rfl)))
set_option maxHeartbeats 4000000 in
set_option maxRecDepth 100000 in
theorem Ch_perform_F_n2 (g : pmG) (d : Nat) (ex : List (Nat × Nat)) (R : Nat → Nat → Value) (hR : pk_R R) (o : Outcome) (Z : pmM)  : ∀ (n : Nat) (y2 : Int32) (I : Nat → Nat → Int32) (J : Nat → Nat → Int64), pCh_perform_F_2 n y2 I J → o = .returned none → Z = (pk_K ++ ex, R, (fCh_perform_F_2 n y2 I J).1, (fCh_perform_F_2 n y2 I J).2) → pmE g kCh_perform (d + 5) 0 0 2 [(0, .ref 0), (1, .ref 10), (2, .int y2)] [] (pk_K ++ ex) R I J o Z := by
  intro n
  induction n with
  | zero => intro y2 I J hp; exact False.elim hp
  | succ n ih =>
  intro y2 I J hp ho hz
  simp only [pCh_perform_F_2] at hp
  refine pm_iload_n dCh_perform_2 rfl ?_
  refine pm_aload_n dCh_perform_3 rfl ?_
  refine pm_geti dCh_perform_4 fCh_204 rfl ?_
  refine pm_icmp_ge 114 dCh_perform_7 (by decide) (fun h7 => ?_) (fun h7 => ?_)
  ·
    exact pm_vret dCh_perform_114 rfl ho (hz.trans (by first | (simp only [fCh_perform_F_2, if_pos h7]; done) | (simp only [fCh_perform_F_2, if_pos h7]; rfl) | rfl))
  ·
    refine pm_aload_n dCh_perform_10 rfl ?_
    refine pm_getr dCh_perform_11 fCh_207 rfl (rr_10_0 hR) ?_
    refine pm_iload_n dCh_perform_14 rfl ?_
    refine pm_iald dCh_perform_15 rfl (hp.2 h7).1 ?_
    refine pm_istore_n dCh_perform_16 (by decide) rfl ?_
    refine pm_aload_n dCh_perform_17 rfl ?_
    refine pm_getr dCh_perform_18 fCh_210 rfl (rr_10_1 hR) ?_
    refine pm_iload_n dCh_perform_21 rfl ?_
    refine pm_iald dCh_perform_22 rfl (hp.2 h7).2.1 ?_
    refine pm_istore dCh_perform_23 (by decide) rfl ?_
    refine pm_iload_n dCh_perform_25 rfl ?_
    refine pm_bipush (v := 32) dCh_perform_26 (by decide) ?_
    refine pm_icmp_ne 47 dCh_perform_28 (by decide) (fun h28 => ?_) (fun h28 => ?_)
    ·
      refine pm_iload_n dCh_perform_47 rfl ?_
      refine pm_bipush (v := 51) dCh_perform_48 (by decide) ?_
      refine pm_icmp_ne 67 dCh_perform_50 (by decide) (fun h50 => ?_) (fun h50 => ?_)
      ·
        refine pm_iload_n dCh_perform_67 rfl ?_
        refine pm_bipush (v := 51) dCh_perform_68 (by decide) ?_
        refine pm_icmp_gt 85 dCh_perform_70 (by decide) (fun h70 => ?_) (fun h70 => ?_)
        ·
          refine pm_wk [2, 3, 4, 1, 0] rfl ?_
          exact Ch_perform_F_n85 g d ex R hR _ _ (fCh_perform_F_2 n) (pCh_perform_F_2 n) ih  _ _ _ _ _ ((((hp.2 h7).2.2.2 h28).2 h50).1 h70) ho (hz.trans (by first | (simp only [fCh_perform_F_2, if_neg h7, if_neg h28, if_neg h50, if_pos h70]; done) | (simp only [fCh_perform_F_2, if_neg h7, if_neg h28, if_neg h50, if_pos h70]; rfl) | rfl))
        ·
          refine pm_iload_n dCh_perform_73 rfl ?_
          refine pm_bipush (v := 33) dCh_perform_74 (by decide) ?_
          refine pm_icmp_lt 98 dCh_perform_76 (by decide) (fun h76 => ?_) (fun h76 => ?_)
          ·
            refine pm_wk [2, 3, 4, 1, 0] rfl ?_
            exact Ch_perform_F_n98 g d ex R hR _ _ (fCh_perform_F_2 n) (pCh_perform_F_2 n) ih  _ _ _ _ _ (((((hp.2 h7).2.2.2 h28).2 h50).2 h70).1 h76) ho (hz.trans (by first | (simp only [fCh_perform_F_2, if_neg h7, if_neg h28, if_neg h50, if_neg h70, if_pos h76]; done) | (simp only [fCh_perform_F_2, if_neg h7, if_neg h28, if_neg h50, if_neg h70, if_pos h76]; rfl) | rfl))
          ·
            refine pm_iload_n dCh_perform_79 rfl ?_
            refine pm_bipush (v := 42) dCh_perform_80 (by decide) ?_
            refine pm_icmp_gt 98 dCh_perform_82 (by decide) (fun h82 => ?_) (fun h82 => ?_)
            ·
              refine pm_wk [2, 3, 4, 1, 0] rfl ?_
              exact Ch_perform_F_n98 g d ex R hR _ _ (fCh_perform_F_2 n) (pCh_perform_F_2 n) ih  _ _ _ _ _ ((((((hp.2 h7).2.2.2 h28).2 h50).2 h70).2 h76).1 h82) ho (hz.trans (by first | (simp only [fCh_perform_F_2, if_neg h7, if_neg h28, if_neg h50, if_neg h70, if_neg h76, if_pos h82]; done) | (simp only [fCh_perform_F_2, if_neg h7, if_neg h28, if_neg h50, if_neg h70, if_neg h76, if_pos h82]; rfl) | rfl))
            ·
              refine pm_wk [2, 3, 4, 1, 0] rfl ?_
              exact Ch_perform_F_n85 g d ex R hR _ _ (fCh_perform_F_2 n) (pCh_perform_F_2 n) ih  _ _ _ _ _ ((((((hp.2 h7).2.2.2 h28).2 h50).2 h70).2 h76).2 h82) ho (hz.trans (by first | (simp only [fCh_perform_F_2, if_neg h7, if_neg h28, if_neg h50, if_neg h70, if_neg h76, if_neg h82]; done) | (simp only [fCh_perform_F_2, if_neg h7, if_neg h28, if_neg h50, if_neg h70, if_neg h76, if_neg h82]; rfl) | rfl))
      ·
        refine pm_aload_n dCh_perform_53 rfl ?_
        refine pm_getr dCh_perform_54 fCh_53 rfl (rr_0_5 hR) ?_
        refine pm_aload_n dCh_perform_57 rfl ?_
        refine pm_getr dCh_perform_58 fCh_37 rfl (rr_0_3 hR) ?_
        refine pm_callV dCh_perform_61 lCh_217 vCm_test ⟨_, _, rfl⟩ (Cm_test_ok _ _ _ _ hR _ _ _ (((hp.2 h7).2.2.2 h28).1 h50).1) rfl rfl rfl (Nat.le_of_ble_eq_true rfl) (Nat.le_refl _) (Nat.le_refl _) ?_
        refine pm_wk [2, 3, 4, 1, 0] rfl ?_
        exact Ch_perform_F_n64 g d ex R hR _ _ (fCh_perform_F_2 n) (pCh_perform_F_2 n) ih  _ _ _ _ _ (((hp.2 h7).2.2.2 h28).1 h50).2 ho (hz.trans (by first | (simp only [fCh_perform_F_2, if_neg h7, if_neg h28, if_pos h50]; done) | (simp only [fCh_perform_F_2, if_neg h7, if_neg h28, if_pos h50]; rfl) | rfl))
    ·
      refine pm_aload_n dCh_perform_31 rfl ?_
      refine pm_getr dCh_perform_32 fCh_44 rfl (rr_0_4 hR) ?_
      refine pm_iload dCh_perform_35 rfl ?_
      refine pm_aload_n dCh_perform_37 rfl ?_
      refine pm_getr dCh_perform_38 fCh_37 rfl (rr_0_3 hR) ?_
      refine pm_callV dCh_perform_41 lCh_213 vSt_change ⟨_, _, rfl⟩ (St_change_ok _ _ _ _ hR _ _ _ _ ((hp.2 h7).2.2.1 h28).1) rfl rfl rfl (Nat.le_of_ble_eq_true rfl) (Nat.le_refl _) (Nat.le_refl _) ?_
      refine pm_wk [2, 3, 4, 1, 0] rfl ?_
      exact Ch_perform_F_n44 g d ex R hR _ _ (fCh_perform_F_2 n) (pCh_perform_F_2 n) ih  _ _ _ _ _ ((hp.2 h7).2.2.1 h28).2 ho (hz.trans (by first | (simp only [fCh_perform_F_2, if_neg h7, if_pos h28]; done) | (simp only [fCh_perform_F_2, if_neg h7, if_pos h28]; rfl) | rfl))
set_option maxHeartbeats 4000000 in
set_option maxRecDepth 100000 in
theorem Ch_perform_F_n0 (g : pmG) (d : Nat) (ex : List (Nat × Nat)) (R : Nat → Nat → Value) (hR : pk_R R) (o : Outcome) (Z : pmM) (n2 : Nat) (I : Nat → Nat → Int32) (J : Nat → Nat → Int64) (hp : pCh_perform_F n2 I J) (ho : o = .returned none) (hz : Z = (pk_K ++ ex, R, (fCh_perform_F n2 I J).1, (fCh_perform_F n2 I J).2)) : pmE g kCh_perform (d + 5) 0 0 0 [(0, .ref 0), (1, .ref 10)] [] (pk_K ++ ex) R I J o Z := by
  unfold pCh_perform_F at hp
  refine pm_iconst (v := 0) dCh_perform_0 (by decide) ?_
  refine pm_istore_n dCh_perform_1 (by decide) rfl ?_
  refine pm_wk [1, 2, 0] rfl ?_
  exact Ch_perform_F_n2 g d ex R hR _ _  n2 _ _ _ hp ho (hz.trans (by first | rfl | (simp only [fCh_perform_F]; done) | (simp only [fCh_perform_F]; rfl)))
set_option maxHeartbeats 4000000 in
set_option maxRecDepth 100000 in
theorem Ch_perform_F_ok (g : pmG) (d : Nat) (ex : List (Nat × Nat)) (R : Nat → Nat → Value) (hR : pk_R R) (n2 : Nat)  (I : Nat → Nat → Int32) (J : Nat → Nat → Int64) (hp : pCh_perform_F n2 I J) : pmC g kCh_perform (d + 5) 0 0 [.ref 0, .ref 10] (pk_K ++ ex, R, I, J) (.returned none) (pk_K ++ ex, R, (fCh_perform_F n2 I J).1, (fCh_perform_F n2 I J).2) :=
  pmC.of (by decide) (Nat.le_of_ble_eq_true rfl) (Ch_perform_F_n0 g d ex R hR _ _ n2  I J hp rfl rfl)
def fCh_workOut_50  (I : Nat → Nat → Int32) (J : Nat → Nat → Int64) : (Nat → Nat → Int32) × (Nat → Nat → Int64) :=
  ((fTr_forget (pm_u I 0 7 (I 3 10)) J), J)
def pCh_workOut_50  (I : Nat → Nat → Int32) (J : Nat → Nat → Int64) : Prop :=
  (pTr_forget (pm_u I 0 7 (I 3 10)) J) ∧ True
def fCh_workOut_39  (I : Nat → Nat → Int32) (J : Nat → Nat → Int64) : (Nat → Nat → Int32) × (Nat → Nat → Int64) :=
  fCh_workOut_50 ((fCh_perform_F 4001 I J).1) ((fCh_perform_F 4001 I J).2)
def pCh_workOut_39  (I : Nat → Nat → Int32) (J : Nat → Nat → Int64) : Prop :=
  (pCh_perform_F 4001 I J) ∧ (pCh_workOut_50 ((fCh_perform_F 4001 I J).1) ((fCh_perform_F 4001 I J).2))
def fCh_workOut_32  (I : Nat → Nat → Int32) (J : Nat → Nat → Int64) : (Nat → Nat → Int32) × (Nat → Nat → Int64) :=
  fCh_workOut_39 ((fCm_begin 257 I J).1) ((fCm_begin 257 I J).2)
def pCh_workOut_32  (I : Nat → Nat → Int32) (J : Nat → Nat → Int64) : Prop :=
  (pCm_begin 257 I J) ∧ (pCh_workOut_39 ((fCm_begin 257 I J).1) ((fCm_begin 257 I J).2))
def fCh_workOut_25  (I : Nat → Nat → Int32) (J : Nat → Nat → Int64) : (Nat → Nat → Int32) × (Nat → Nat → Int64) :=
  fCh_workOut_32 ((fSt_finish I J)) J
def pCh_workOut_25  (I : Nat → Nat → Int32) (J : Nat → Nat → Int64) : Prop :=
  (pSt_finish I J) ∧ (pCh_workOut_32 ((fSt_finish I J)) J)
def fCh_workOut_14  (I : Nat → Nat → Int32) (J : Nat → Nat → Int64) : (Nat → Nat → Int32) × (Nat → Nat → Int64) :=
  fCh_workOut_25 ((fCh_perform_L 4001 I J).1) ((fCh_perform_L 4001 I J).2)
def pCh_workOut_14  (I : Nat → Nat → Int32) (J : Nat → Nat → Int64) : Prop :=
  (pCh_perform_L 4001 I J) ∧ (pCh_workOut_25 ((fCh_perform_L 4001 I J).1) ((fCh_perform_L 4001 I J).2))
def fCh_workOut_7  (I : Nat → Nat → Int32) (J : Nat → Nat → Int64) : (Nat → Nat → Int32) × (Nat → Nat → Int64) :=
  fCh_workOut_14 ((fVa_begin 61 I J).1) ((fVa_begin 61 I J).2)
def pCh_workOut_7  (I : Nat → Nat → Int32) (J : Nat → Nat → Int64) : Prop :=
  (pVa_begin 61 I J) ∧ (pCh_workOut_14 ((fVa_begin 61 I J).1) ((fVa_begin 61 I J).2))
def fCh_workOut  (I : Nat → Nat → Int32) (J : Nat → Nat → Int64) : (Nat → Nat → Int32) × (Nat → Nat → Int64) :=
  fCh_workOut_7 ((fSt_begin 2049 I J)) J
def pCh_workOut  (I : Nat → Nat → Int32) (J : Nat → Nat → Int64) : Prop :=
  (pSt_begin 2049 I J) ∧ (pCh_workOut_7 ((fSt_begin 2049 I J)) J)
set_option maxHeartbeats 4000000 in
set_option maxRecDepth 100000 in
theorem Ch_workOut_n50 (g : pmG) (d : Nat) (ex : List (Nat × Nat)) (R : Nat → Nat → Value) (hR : pk_R R) (o : Outcome) (Z : pmM)  (I : Nat → Nat → Int32) (J : Nat → Nat → Int64) (hp : pCh_workOut_50 I J) (ho : o = .returned none) (hz : Z = (pk_K ++ ex, R, (fCh_workOut_50 I J).1, (fCh_workOut_50 I J).2)) : pmE g kCh_workOut (d + 6) 0 0 50 [(0, .ref 0)] [] (pk_K ++ ex) R I J o Z := by
  unfold pCh_workOut_50 at hp
  refine pm_aload_n dCh_workOut_50 rfl ?_
  refine pm_aload_n dCh_workOut_51 rfl ?_
  refine pm_getr dCh_workOut_52 fCh_19 rfl (rr_0_1 hR) ?_
  refine pm_geti dCh_workOut_55 fCh_104 rfl ?_
  refine pm_puti dCh_workOut_58 fCh_146 sCh_146 (fun h => by cases h) rfl rfl rfl ?_
  refine pm_aload_n dCh_workOut_61 rfl ?_
  refine pm_getr dCh_workOut_62 fCh_60 rfl (rr_0_6 hR) ?_
  refine pm_callV dCh_workOut_65 lCh_201 vTr_forget ⟨_, _, rfl⟩ (Tr_forget_ok _ _ _ _ hR  _ _ hp.1) rfl rfl rfl (Nat.le_of_ble_eq_true rfl) (Nat.le_refl _) (Nat.le_refl _) ?_
  exact pm_vret dCh_workOut_68 rfl ho (hz.trans (by first | rfl | (simp only [fCh_workOut_50]; done) | (simp only [fCh_workOut_50]; rfl)))
set_option maxHeartbeats 4000000 in
set_option maxRecDepth 100000 in
theorem Ch_workOut_n39 (g : pmG) (d : Nat) (ex : List (Nat × Nat)) (R : Nat → Nat → Value) (hR : pk_R R) (o : Outcome) (Z : pmM)  (I : Nat → Nat → Int32) (J : Nat → Nat → Int64) (hp : pCh_workOut_39 I J) (ho : o = .returned none) (hz : Z = (pk_K ++ ex, R, (fCh_workOut_39 I J).1, (fCh_workOut_39 I J).2)) : pmE g kCh_workOut (d + 6) 0 0 39 [(0, .ref 0)] [] (pk_K ++ ex) R I J o Z := by
  unfold pCh_workOut_39 at hp
  refine pm_aload_n dCh_workOut_39 rfl ?_
  refine pm_aload_n dCh_workOut_40 rfl ?_
  refine pm_getr dCh_workOut_41 fCh_19 rfl (rr_0_1 hR) ?_
  refine pm_getr dCh_workOut_44 fCh_198 rfl (rr_3_4 hR) ?_
  refine pm_callV dCh_workOut_47 lCh_190 vCh_perform ⟨_, _, rfl⟩ (Ch_perform_F_ok _ _ _ _ hR _ _ _ hp.1) rfl rfl rfl (Nat.le_of_ble_eq_true rfl) (Nat.le_refl _) (Nat.le_refl _) ?_
  refine pm_wk [0] rfl ?_
  exact Ch_workOut_n50 g d ex R hR _ _   _ _ hp.2 ho (hz.trans (by first | rfl | (simp only [fCh_workOut_39]; done) | (simp only [fCh_workOut_39]; rfl)))
set_option maxHeartbeats 4000000 in
set_option maxRecDepth 100000 in
theorem Ch_workOut_n32 (g : pmG) (d : Nat) (ex : List (Nat × Nat)) (R : Nat → Nat → Value) (hR : pk_R R) (o : Outcome) (Z : pmM)  (I : Nat → Nat → Int32) (J : Nat → Nat → Int64) (hp : pCh_workOut_32 I J) (ho : o = .returned none) (hz : Z = (pk_K ++ ex, R, (fCh_workOut_32 I J).1, (fCh_workOut_32 I J).2)) : pmE g kCh_workOut (d + 6) 0 0 32 [(0, .ref 0)] [] (pk_K ++ ex) R I J o Z := by
  unfold pCh_workOut_32 at hp
  refine pm_aload_n dCh_workOut_32 rfl ?_
  refine pm_getr dCh_workOut_33 fCh_53 rfl (rr_0_5 hR) ?_
  refine pm_callV dCh_workOut_36 lCh_197 vCm_begin ⟨_, _, rfl⟩ (Cm_begin_ok _ _ _ _ hR _ _ _ hp.1) rfl rfl rfl (Nat.le_of_ble_eq_true rfl) (Nat.le_refl _) (Nat.le_refl _) ?_
  refine pm_wk [0] rfl ?_
  exact Ch_workOut_n39 g d ex R hR _ _   _ _ hp.2 ho (hz.trans (by first | rfl | (simp only [fCh_workOut_32]; done) | (simp only [fCh_workOut_32]; rfl)))
set_option maxHeartbeats 4000000 in
set_option maxRecDepth 100000 in
theorem Ch_workOut_n25 (g : pmG) (d : Nat) (ex : List (Nat × Nat)) (R : Nat → Nat → Value) (hR : pk_R R) (o : Outcome) (Z : pmM)  (I : Nat → Nat → Int32) (J : Nat → Nat → Int64) (hp : pCh_workOut_25 I J) (ho : o = .returned none) (hz : Z = (pk_K ++ ex, R, (fCh_workOut_25 I J).1, (fCh_workOut_25 I J).2)) : pmE g kCh_workOut (d + 6) 0 0 25 [(0, .ref 0)] [] (pk_K ++ ex) R I J o Z := by
  unfold pCh_workOut_25 at hp
  refine pm_aload_n dCh_workOut_25 rfl ?_
  refine pm_getr dCh_workOut_26 fCh_44 rfl (rr_0_4 hR) ?_
  refine pm_callV dCh_workOut_29 lCh_194 vSt_finish ⟨_, _, rfl⟩ (St_finish_ok _ _ _ _ hR  _ _ hp.1) rfl rfl rfl (Nat.le_of_ble_eq_true rfl) (Nat.le_refl _) (Nat.le_refl _) ?_
  refine pm_wk [0] rfl ?_
  exact Ch_workOut_n32 g d ex R hR _ _   _ _ hp.2 ho (hz.trans (by first | rfl | (simp only [fCh_workOut_25]; done) | (simp only [fCh_workOut_25]; rfl)))
set_option maxHeartbeats 4000000 in
set_option maxRecDepth 100000 in
theorem Ch_workOut_n14 (g : pmG) (d : Nat) (ex : List (Nat × Nat)) (R : Nat → Nat → Value) (hR : pk_R R) (o : Outcome) (Z : pmM)  (I : Nat → Nat → Int32) (J : Nat → Nat → Int64) (hp : pCh_workOut_14 I J) (ho : o = .returned none) (hz : Z = (pk_K ++ ex, R, (fCh_workOut_14 I J).1, (fCh_workOut_14 I J).2)) : pmE g kCh_workOut (d + 6) 0 0 14 [(0, .ref 0)] [] (pk_K ++ ex) R I J o Z := by
  unfold pCh_workOut_14 at hp
  refine pm_aload_n dCh_workOut_14 rfl ?_
  refine pm_aload_n dCh_workOut_15 rfl ?_
  refine pm_getr dCh_workOut_16 fCh_19 rfl (rr_0_1 hR) ?_
  refine pm_getr dCh_workOut_19 fCh_186 rfl (rr_3_3 hR) ?_
  refine pm_callV dCh_workOut_22 lCh_190 vCh_perform ⟨_, _, rfl⟩ (Ch_perform_L_ok _ _ _ _ hR _ _ _ hp.1) rfl rfl rfl (Nat.le_of_ble_eq_true rfl) (Nat.le_refl _) (Nat.le_refl _) ?_
  refine pm_wk [0] rfl ?_
  exact Ch_workOut_n25 g d ex R hR _ _   _ _ hp.2 ho (hz.trans (by first | rfl | (simp only [fCh_workOut_14]; done) | (simp only [fCh_workOut_14]; rfl)))
set_option maxHeartbeats 4000000 in
set_option maxRecDepth 100000 in
theorem Ch_workOut_n7 (g : pmG) (d : Nat) (ex : List (Nat × Nat)) (R : Nat → Nat → Value) (hR : pk_R R) (o : Outcome) (Z : pmM)  (I : Nat → Nat → Int32) (J : Nat → Nat → Int64) (hp : pCh_workOut_7 I J) (ho : o = .returned none) (hz : Z = (pk_K ++ ex, R, (fCh_workOut_7 I J).1, (fCh_workOut_7 I J).2)) : pmE g kCh_workOut (d + 6) 0 0 7 [(0, .ref 0)] [] (pk_K ++ ex) R I J o Z := by
  unfold pCh_workOut_7 at hp
  refine pm_aload_n dCh_workOut_7 rfl ?_
  refine pm_getr dCh_workOut_8 fCh_37 rfl (rr_0_3 hR) ?_
  refine pm_callV dCh_workOut_11 lCh_185 vVa_begin ⟨_, _, rfl⟩ (Va_begin_ok _ _ _ _ hR _ _ _ hp.1) rfl rfl rfl (Nat.le_of_ble_eq_true rfl) (Nat.le_refl _) (Nat.le_refl _) ?_
  refine pm_wk [0] rfl ?_
  exact Ch_workOut_n14 g d ex R hR _ _   _ _ hp.2 ho (hz.trans (by first | rfl | (simp only [fCh_workOut_7]; done) | (simp only [fCh_workOut_7]; rfl)))
set_option maxHeartbeats 4000000 in
set_option maxRecDepth 100000 in
theorem Ch_workOut_n0 (g : pmG) (d : Nat) (ex : List (Nat × Nat)) (R : Nat → Nat → Value) (hR : pk_R R) (o : Outcome) (Z : pmM)  (I : Nat → Nat → Int32) (J : Nat → Nat → Int64) (hp : pCh_workOut I J) (ho : o = .returned none) (hz : Z = (pk_K ++ ex, R, (fCh_workOut I J).1, (fCh_workOut I J).2)) : pmE g kCh_workOut (d + 6) 0 0 0 [(0, .ref 0)] [] (pk_K ++ ex) R I J o Z := by
  unfold pCh_workOut at hp
  refine pm_aload_n dCh_workOut_0 rfl ?_
  refine pm_getr dCh_workOut_1 fCh_44 rfl (rr_0_4 hR) ?_
  refine pm_callV dCh_workOut_4 lCh_182 vSt_begin ⟨_, _, rfl⟩ (St_begin_ok _ _ _ _ hR _ _ _ hp.1) rfl rfl rfl (Nat.le_of_ble_eq_true rfl) (Nat.le_refl _) (Nat.le_refl _) ?_
  refine pm_wk [0] rfl ?_
  exact Ch_workOut_n7 g d ex R hR _ _   _ _ hp.2 ho (hz.trans (by first | rfl | (simp only [fCh_workOut]; done) | (simp only [fCh_workOut]; rfl)))
set_option maxHeartbeats 4000000 in
set_option maxRecDepth 100000 in
theorem Ch_workOut_ok (g : pmG) (d : Nat) (ex : List (Nat × Nat)) (R : Nat → Nat → Value) (hR : pk_R R)   (I : Nat → Nat → Int32) (J : Nat → Nat → Int64) (hp : pCh_workOut I J) : pmC g kCh_workOut (d + 6) 0 0 [.ref 0] (pk_K ++ ex, R, I, J) (.returned none) (pk_K ++ ex, R, (fCh_workOut I J).1, (fCh_workOut I J).2) :=
  pmC.of (by decide) (Nat.le_of_ble_eq_true rfl) (Ch_workOut_n0 g d ex R hR _ _   I J hp rfl rfl)
def fCh_firstMet_2  : Nat → Int32 → Int32 → (Nat → Nat → Int32) → (Nat → Nat → Int64) → Int32
  | 0, _, _, _, _ => 0
  | n + 1, y1, y2, I, J =>
  if (I 25 8) ≤ y2 then (-1 : Int32)
  else if ((fCm_isSo y1 (I 29 y2.toNatClampNeg) I J)) = 0 then fCh_firstMet_2 n y1 (y2 + Int32.ofInt 1) I J
    else I 29 y2.toNatClampNeg
def pCh_firstMet_2  : Nat → Int32 → Int32 → (Nat → Nat → Int32) → (Nat → Nat → Int64) → Prop
  | 0, _, _, _, _ => False
  | n + 1, y1, y2, I, J =>
  ((I 25 8) ≤ y2 → True) ∧
  (¬ ((I 25 8) ≤ y2) → (vp_in y2 256) ∧ ((pCm_isSo y1 (I 29 y2.toNatClampNeg) I J) ∧ ((((fCm_isSo y1 (I 29 y2.toNatClampNeg) I J)) = 0 → pCh_firstMet_2 n y1 (y2 + Int32.ofInt 1) I J) ∧
    (¬ (((fCm_isSo y1 (I 29 y2.toNatClampNeg) I J)) = 0) → (vp_in y2 256) ∧ True))))
def fCh_firstMet (n2 : Nat) (y1 : Int32) (I : Nat → Nat → Int32) (J : Nat → Nat → Int64) : Int32 :=
  fCh_firstMet_2 n2 y1 (0 : Int32) I J
def pCh_firstMet (n2 : Nat) (y1 : Int32) (I : Nat → Nat → Int32) (J : Nat → Nat → Int64) : Prop :=
  pCh_firstMet_2 n2 y1 (0 : Int32) I J
set_option maxHeartbeats 4000000 in
set_option maxRecDepth 100000 in
theorem Ch_firstMet_n2 (g : pmG) (d : Nat) (ex : List (Nat × Nat)) (R : Nat → Nat → Value) (hR : pk_R R) (o : Outcome) (Z : pmM)  : ∀ (n : Nat) (y1 : Int32) (y2 : Int32) (I : Nat → Nat → Int32) (J : Nat → Nat → Int64), pCh_firstMet_2 n y1 y2 I J → o = .returned (some (.int (fCh_firstMet_2 n y1 y2 I J))) → Z = (pk_K ++ ex, R, I, J) → pmE g kCh_firstMet (d + 2) 0 0 2 [(0, .ref 0), (1, .int y1), (2, .int y2)] [] (pk_K ++ ex) R I J o Z := by
  intro n
  induction n with
  | zero => intro y1 y2 I J hp; exact False.elim hp
  | succ n ih =>
  intro y1 y2 I J hp ho hz
  simp only [pCh_firstMet_2] at hp
  refine pm_iload_n dCh_firstMet_2 rfl ?_
  refine pm_aload_n dCh_firstMet_3 rfl ?_
  refine pm_getr dCh_firstMet_4 fCh_44 rfl (rr_0_4 hR) ?_
  refine pm_geti dCh_firstMet_7 fCh_118 rfl ?_
  refine pm_icmp_ge 49 dCh_firstMet_10 (by decide) (fun h10 => ?_) (fun h10 => ?_)
  ·
    refine pm_iconst (v := (-1)) dCh_firstMet_49 (by decide) ?_
    exact pm_iret dCh_firstMet_50 rfl (ho.trans (by first | (simp only [fCh_firstMet_2, if_pos h10]; done) | (simp only [fCh_firstMet_2, if_pos h10]; rfl) | rfl)) (hz.trans (by first | (simp only [fCh_firstMet_2, if_pos h10]; done) | (simp only [fCh_firstMet_2, if_pos h10]; rfl) | rfl))
  ·
    refine pm_aload_n dCh_firstMet_13 rfl ?_
    refine pm_getr dCh_firstMet_14 fCh_53 rfl (rr_0_5 hR) ?_
    refine pm_iload_n dCh_firstMet_17 rfl ?_
    refine pm_aload_n dCh_firstMet_18 rfl ?_
    refine pm_getr dCh_firstMet_19 fCh_44 rfl (rr_0_4 hR) ?_
    refine pm_getr dCh_firstMet_22 fCh_179 rfl (rr_25_7 hR) ?_
    refine pm_iload_n dCh_firstMet_25 rfl ?_
    refine pm_iald dCh_firstMet_26 rfl (hp.2 h10).1 ?_
    refine pm_callV dCh_firstMet_27 lCh_107 vCm_isSo ⟨_, _, rfl⟩ (Cm_isSo_ok _ _ _ _ hR _ _ _ _ (hp.2 h10).2.1) rfl rfl rfl (Nat.le_of_ble_eq_true rfl) (Nat.le_refl _) (Nat.le_refl _) ?_
    refine pm_if_eq 43 dCh_firstMet_30 (by decide) (fun h30 => ?_) (fun h30 => ?_)
    ·
      refine pm_iinc dCh_firstMet_43 rfl (by decide) rfl ?_
      refine pm_goto 2 dCh_firstMet_46 (by decide) ?_
      refine pm_wk [1, 2, 0] rfl ?_
      exact ih _ _ _ _ ((hp.2 h10).2.2.1 h30) (ho.trans (by first | (simp only [fCh_firstMet_2, if_neg h10, if_pos h30]; done) | (simp only [fCh_firstMet_2, if_neg h10, if_pos h30]; rfl) | rfl)) (hz.trans (by first | (simp only [fCh_firstMet_2, if_neg h10, if_pos h30]; done) | (simp only [fCh_firstMet_2, if_neg h10, if_pos h30]; rfl) | rfl))
    ·
      refine pm_aload_n dCh_firstMet_33 rfl ?_
      refine pm_getr dCh_firstMet_34 fCh_44 rfl (rr_0_4 hR) ?_
      refine pm_getr dCh_firstMet_37 fCh_179 rfl (rr_25_7 hR) ?_
      refine pm_iload_n dCh_firstMet_40 rfl ?_
      refine pm_iald dCh_firstMet_41 rfl ((hp.2 h10).2.2.2 h30).1 ?_
      exact pm_iret dCh_firstMet_42 rfl (ho.trans (by first | (simp only [fCh_firstMet_2, if_neg h10, if_neg h30]; done) | (simp only [fCh_firstMet_2, if_neg h10, if_neg h30]; rfl) | rfl)) (hz.trans (by first | (simp only [fCh_firstMet_2, if_neg h10, if_neg h30]; done) | (simp only [fCh_firstMet_2, if_neg h10, if_neg h30]; rfl) | rfl))
set_option maxHeartbeats 4000000 in
set_option maxRecDepth 100000 in
theorem Ch_firstMet_n0 (g : pmG) (d : Nat) (ex : List (Nat × Nat)) (R : Nat → Nat → Value) (hR : pk_R R) (o : Outcome) (Z : pmM) (n2 : Nat) (y1 : Int32) (I : Nat → Nat → Int32) (J : Nat → Nat → Int64) (hp : pCh_firstMet n2 y1 I J) (ho : o = .returned (some (.int (fCh_firstMet n2 y1 I J)))) (hz : Z = (pk_K ++ ex, R, I, J)) : pmE g kCh_firstMet (d + 2) 0 0 0 [(0, .ref 0), (1, .int y1)] [] (pk_K ++ ex) R I J o Z := by
  unfold pCh_firstMet at hp
  refine pm_iconst (v := 0) dCh_firstMet_0 (by decide) ?_
  refine pm_istore_n dCh_firstMet_1 (by decide) rfl ?_
  refine pm_wk [1, 2, 0] rfl ?_
  exact Ch_firstMet_n2 g d ex R hR _ _  n2 _ _ _ _ hp (ho.trans (by first | rfl | (simp only [fCh_firstMet]; done) | (simp only [fCh_firstMet]; rfl))) (hz.trans (by first | rfl | (simp only [fCh_firstMet]; done) | (simp only [fCh_firstMet]; rfl)))
set_option maxHeartbeats 4000000 in
set_option maxRecDepth 100000 in
theorem Ch_firstMet_ok (g : pmG) (d : Nat) (ex : List (Nat × Nat)) (R : Nat → Nat → Value) (hR : pk_R R) (n2 : Nat) (x0 : Int32) (I : Nat → Nat → Int32) (J : Nat → Nat → Int64) (hp : pCh_firstMet n2 x0 I J) : pmC g kCh_firstMet (d + 2) 0 0 [.ref 0, .int x0] (pk_K ++ ex, R, I, J) (.returned (some (.int (fCh_firstMet n2 x0 I J)))) (pk_K ++ ex, R, I, J) :=
  pmC.of (by decide) (Nat.le_of_ble_eq_true rfl) (Ch_firstMet_n0 g d ex R hR _ _ n2 x0 I J hp rfl rfl)
