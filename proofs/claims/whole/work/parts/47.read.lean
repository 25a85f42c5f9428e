def fCh_read_36  (I : Nat → Nat → Int32) (J : Nat → Nat → Int64) (c : Value) : Int32 × (Nat → Nat → Int32) × (Nat → Nat → Int64) × Value :=
  if (I 13 9) = 0 then (I 3 6, I, J, c)
  else ((-1 : Int32), I, J, c)
def pCh_read_36  (I : Nat → Nat → Int32) (J : Nat → Nat → Int64) (c : Value) : Prop :=
  ((I 13 9) = 0 → True) ∧
  (¬ ((I 13 9) = 0) → True)
def fCh_read_24  (I : Nat → Nat → Int32) (J : Nat → Nat → Int64) (c : Value) : Int32 × (Nat → Nat → Int32) × (Nat → Nat → Int64) × Value :=
  fCh_read_36 ((fCh_workOut (pm_u I 1 1 (0 : Int32)) J).1) ((fCh_workOut (pm_u I 1 1 (0 : Int32)) J).2) c
def pCh_read_24  (I : Nat → Nat → Int32) (J : Nat → Nat → Int64) (c : Value) : Prop :=
  (pCh_workOut (pm_u I 1 1 (0 : Int32)) J) ∧ (pCh_read_36 ((fCh_workOut (pm_u I 1 1 (0 : Int32)) J).1) ((fCh_workOut (pm_u I 1 1 (0 : Int32)) J).2) c)
def fCh_read_7  (I : Nat → Nat → Int32) (J : Nat → Nat → Int64) (c : Value) : Int32 × (Nat → Nat → Int32) × (Nat → Nat → Int64) × Value :=
  if (I 13 9) = 0 then fCh_read_24 I J c
  else fCh_read_24 ((fCi_clear I J)) J c
def pCh_read_7  (I : Nat → Nat → Int32) (J : Nat → Nat → Int64) (c : Value) : Prop :=
  ((I 13 9) = 0 → pCh_read_24 I J c) ∧
  (¬ ((I 13 9) = 0) → (pCi_clear I J) ∧ (pCh_read_24 ((fCi_clear I J)) J c))
def fCh_read  (I : Nat → Nat → Int32) (J : Nat → Nat → Int64) (c : Value) : Int32 × (Nat → Nat → Int32) × (Nat → Nat → Int64) × Value :=
  fCh_read_7 ((fRd_readTape 4002 I J c).1) J ((fRd_readTape 4002 I J c).2)
def pCh_read  (I : Nat → Nat → Int32) (J : Nat → Nat → Int64) (c : Value) : Prop :=
  (pRd_readTape 4002 I J c) ∧ (pCh_read_7 ((fRd_readTape 4002 I J c).1) J ((fRd_readTape 4002 I J c).2))
set_option maxHeartbeats 4000000 in
set_option maxRecDepth 100000 in
theorem Ch_read_n36 (g : pmG) (d : Nat) (ex : List (Nat × Nat)) (R : Nat → Nat → Value) (hR : pk_R R) (o : Outcome) (Z : pmM)  (I : Nat → Nat → Int32) (J : Nat → Nat → Int64) (c : Value) (hp : pCh_read_36 I J c) (ho : o = .returned (some (.int (fCh_read_36 I J c).1))) (hz : Z = (pk_K ++ ex, pm_u R 13 8 (fCh_read_36 I J c).2.2.2, (fCh_read_36 I J c).2.1, (fCh_read_36 I J c).2.2.1)) : pmE g kCh_read (d + 666) 0 0 36 [(0, .ref 0)] [] (pk_K ++ ex) (pm_u R 13 8 c) I J o Z := by
  unfold pCh_read_36 at hp
  refine pm_aload_n dCh_read_36 rfl ?_
  refine pm_getr dCh_read_37 fCh_28 rfl (rr_0_2 (pk_Ru hR _)) ?_
  refine pm_geti dCh_read_40 fCh_85 rfl ?_
  refine pm_if_ne 56 dCh_read_43 (by decide) (fun h43 => ?_) (fun h43 => ?_)
  ·
    refine pm_iconst (v := (-1)) dCh_read_56 (by decide) ?_
    exact pm_iret dCh_read_57 rfl (ho.trans (by simp only [fCh_read_36, if_neg h43])) (hz.trans (by simp only [fCh_read_36, if_neg h43]))
  ·
    refine pm_aload_n dCh_read_46 rfl ?_
    refine pm_getr dCh_read_47 fCh_19 rfl (rr_0_1 (pk_Ru hR _)) ?_
    refine pm_geti dCh_read_50 fCh_91 rfl ?_
    refine pm_goto 57 dCh_read_53 (by decide) ?_
    exact pm_iret dCh_read_57 rfl (ho.trans (by simp only [fCh_read_36, if_pos h43])) (hz.trans (by simp only [fCh_read_36, if_pos h43]))
set_option maxHeartbeats 4000000 in
set_option maxRecDepth 100000 in
theorem Ch_read_n24 (g : pmG) (d : Nat) (ex : List (Nat × Nat)) (R : Nat → Nat → Value) (hR : pk_R R) (o : Outcome) (Z : pmM)  (I : Nat → Nat → Int32) (J : Nat → Nat → Int64) (c : Value) (hp : pCh_read_24 I J c) (ho : o = .returned (some (.int (fCh_read_24 I J c).1))) (hz : Z = (pk_K ++ ex, pm_u R 13 8 (fCh_read_24 I J c).2.2.2, (fCh_read_24 I J c).2.1, (fCh_read_24 I J c).2.2.1)) : pmE g kCh_read (d + 666) 0 0 24 [(0, .ref 0)] [] (pk_K ++ ex) (pm_u R 13 8 c) I J o Z := by
  unfold pCh_read_24 at hp
  refine pm_aload_n dCh_read_24 rfl ?_
  refine pm_getr dCh_read_25 fCh_10 rfl (rr_0_0 (pk_Ru hR _)) ?_
  refine pm_iconst (v := 0) dCh_read_28 (by decide) ?_
  refine pm_puti dCh_read_29 fCh_67 sCh_67 (fun h => by cases h) rfl rfl rfl ?_
  refine pm_aload_n dCh_read_32 rfl ?_
  refine pm_callV dCh_read_33 lCh_64 vCh_workOut ⟨_, _, rfl⟩ (Ch_workOut_ok _ _ _ _ (pk_Ru hR _)  _ _ hp.1) rfl rfl rfl (Nat.le_of_ble_eq_true rfl) (Nat.le_refl _) (Nat.le_refl _) ?_
  refine pm_wk [0] rfl ?_
  exact Ch_read_n36 g d ex R hR _ _   _ _ _ hp.2 (ho.trans (by simp only [fCh_read_24])) (hz.trans (by simp only [fCh_read_24]))
set_option maxHeartbeats 4000000 in
set_option maxRecDepth 100000 in
theorem Ch_read_n7 (g : pmG) (d : Nat) (ex : List (Nat × Nat)) (R : Nat → Nat → Value) (hR : pk_R R) (o : Outcome) (Z : pmM)  (I : Nat → Nat → Int32) (J : Nat → Nat → Int64) (c : Value) (hp : pCh_read_7 I J c) (ho : o = .returned (some (.int (fCh_read_7 I J c).1))) (hz : Z = (pk_K ++ ex, pm_u R 13 8 (fCh_read_7 I J c).2.2.2, (fCh_read_7 I J c).2.1, (fCh_read_7 I J c).2.2.1)) : pmE g kCh_read (d + 666) 0 0 7 [(0, .ref 0)] [] (pk_K ++ ex) (pm_u R 13 8 c) I J o Z := by
  unfold pCh_read_7 at hp
  refine pm_aload_n dCh_read_7 rfl ?_
  refine pm_getr dCh_read_8 fCh_28 rfl (rr_0_2 (pk_Ru hR _)) ?_
  refine pm_geti dCh_read_11 fCh_85 rfl ?_
  refine pm_if_eq 24 dCh_read_14 (by decide) (fun h14 => ?_) (fun h14 => ?_)
  ·
    refine pm_wk [0] rfl ?_
    exact Ch_read_n24 g d ex R hR _ _   _ _ _ (hp.1 h14) (ho.trans (by simp only [fCh_read_7, if_pos h14])) (hz.trans (by simp only [fCh_read_7, if_pos h14]))
  ·
    refine pm_aload_n dCh_read_17 rfl ?_
    refine pm_getr dCh_read_18 fCh_19 rfl (rr_0_1 (pk_Ru hR _)) ?_
    refine pm_callV dCh_read_21 lCh_88 vCi_clear ⟨_, _, rfl⟩ (Ci_clear_ok _ _ _ _ (pk_Ru hR _)  _ _ (hp.2 h14).1) rfl rfl rfl (Nat.le_of_ble_eq_true rfl) (Nat.le_refl _) (Nat.le_refl _) ?_
    refine pm_wk [0] rfl ?_
    exact Ch_read_n24 g d ex R hR _ _   _ _ _ (hp.2 h14).2 (ho.trans (by simp only [fCh_read_7, if_neg h14])) (hz.trans (by simp only [fCh_read_7, if_neg h14]))
set_option maxHeartbeats 4000000 in
set_option maxRecDepth 100000 in
theorem Ch_read_n0 (g : pmG) (d : Nat) (ex : List (Nat × Nat)) (R : Nat → Nat → Value) (hR : pk_R R) (o : Outcome) (Z : pmM)  (I : Nat → Nat → Int32) (J : Nat → Nat → Int64) (c : Value) (hp : pCh_read I J c) (ho : o = .returned (some (.int (fCh_read I J c).1))) (hz : Z = (pk_K ++ ex, pm_u R 13 8 (fCh_read I J c).2.2.2, (fCh_read I J c).2.1, (fCh_read I J c).2.2.1)) : pmE g kCh_read (d + 666) 0 0 0 [(0, .ref 0)] [] (pk_K ++ ex) (pm_u R 13 8 c) I J o Z := by
  unfold pCh_read at hp
  refine pm_aload_n dCh_read_0 rfl ?_
  refine pm_getr dCh_read_1 fCh_28 rfl (rr_0_2 (pk_Ru hR _)) ?_
  refine pm_callV dCh_read_4 lCh_82 vRd_readTape ⟨_, _, rfl⟩ (Rd_readTape_ok _ _ _ _ (pk_Ru hR _) _ _ _ hp.1) rfl rfl rfl (Nat.le_of_ble_eq_true rfl) (Nat.le_refl _) (Nat.le_refl _) ?_
  refine pm_Req (pm_uu _ _ _ _ _) ?_
  refine pm_wk [0] rfl ?_
  exact Ch_read_n7 g d ex R hR _ _   _ _ _ hp.2 (ho.trans (by simp only [fCh_read, pm_u_s])) (hz.trans (by simp only [fCh_read, pm_u_s]))
set_option maxHeartbeats 4000000 in
set_option maxRecDepth 100000 in
theorem Ch_read_ok (g : pmG) (d : Nat) (ex : List (Nat × Nat)) (R : Nat → Nat → Value) (hR : pk_R R)   (I : Nat → Nat → Int32) (J : Nat → Nat → Int64) (hp : pCh_read I J (R 13 8)) : pmC g kCh_read (d + 666) 0 0 [.ref 0] (pk_K ++ ex, R, I, J) (.returned (some (.int (fCh_read I J (R 13 8)).1))) (pk_K ++ ex, pm_u R 13 8 (fCh_read I J (R 13 8)).2.2.2, (fCh_read I J (R 13 8)).2.1, (fCh_read I J (R 13 8)).2.2.1) :=
  pmC.of (by decide) (Nat.le_of_ble_eq_true rfl) (pm_Req (pm_ui _ _ _).symm (Ch_read_n0 g d ex R hR _ _   I J (R 13 8) hp rfl rfl))
