theorem pm_Req {g : pmG} {k : pmK} {d rc rs pc : Nat} {L : List (Nat × Value)} {S : List Value} {K : List (Nat × Nat)} {R R' : Nat → Nat → Value} {I : Nat → Nat → Int32} {J : Nat → Nat → Int64} {o : Outcome} {Z : pmM} (h : R = R') (n : pmE g k d rc rs pc L S K R' I J o Z) : pmE g k d rc rs pc L S K R I J o Z := h ▸ n
theorem pm_uu {α : Type} (I : Nat → Nat → α) (a j : Nat) (v w : α) : pm_u (pm_u I a j v) a j w = pm_u I a j w := by
  funext a' j'
  unfold pm_u
  by_cases h : a' = a
  · rw [if_pos h, if_pos h, if_pos rfl]
    by_cases h2 : j' = j
    · rw [if_pos h2, if_pos h2]
    · rw [if_neg h2, if_neg h2, if_neg h2]
  · rw [if_neg h, if_neg h, if_neg h]
theorem pm_ui {α : Type} (I : Nat → Nat → α) (a j : Nat) : pm_u I a j (I a j) = I := by
  funext a' j'
  unfold pm_u
  by_cases h : a' = a
  · rw [if_pos h]
    by_cases h2 : j' = j
    · rw [if_pos h2, h, h2]
    · rw [if_neg h2, h]
  · rw [if_neg h]
theorem pk_Rn : ∀ q ∈ pk_Rl, ¬ (q.1 = 13 ∧ q.2.1 = 8) := by decide +kernel
theorem pk_Ru {R : Nat → Nat → Value} (h : pk_R R) (v : Value) : pk_R (pm_u R 13 8 v) := by
  intro q hq
  have h1 := pk_Rn q hq
  rw [← h q hq]
  by_cases h2 : q.1 = 13
  · rw [h2]; exact pm_u_j R 13 v (fun h3 => h1 ⟨h2, h3⟩)
  · rw [pm_u_n R 8 v h2]
def fRd_readWire_50  (I : Nat → Nat → Int32) (J : Nat → Nat → Int64) (c : Value) : (Nat → Nat → Int32) × Value :=
  ((fCi_addWire I J), c)
def pRd_readWire_50  (I : Nat → Nat → Int32) (J : Nat → Nat → Int64) (c : Value) : Prop :=
  (pCi_addWire I J) ∧ True
def fRd_readWire_31  (z0 : Int32) (I : Nat → Nat → Int32) (J : Nat → Nat → Int64) (c : Value) : (Nat → Nat → Int32) × Value :=
  if z0 = 0 then (I, c)
  else fRd_readWire_50 ((fCo_add_L (31 : Int32) (I 3 5) I J)) J c
def pRd_readWire_31  (z0 : Int32) (I : Nat → Nat → Int32) (J : Nat → Nat → Int64) (c : Value) : Prop :=
  (z0 = 0 → True) ∧
  (¬ (z0 = 0) → (pCo_add_L (31 : Int32) (I 3 5) I J) ∧ (pRd_readWire_50 ((fCo_add_L (31 : Int32) (I 3 5) I J)) J c))
def fRd_readWire_26  (I : Nat → Nat → Int32) (J : Nat → Nat → Int64) (c : Value) : (Nat → Nat → Int32) × Value :=
  fRd_readWire_31 ((fRd_expect (0 : Int32) I J).1) ((fRd_expect (0 : Int32) I J).2) J c
def pRd_readWire_26  (I : Nat → Nat → Int32) (J : Nat → Nat → Int64) (c : Value) : Prop :=
  (pRd_expect (0 : Int32) I J) ∧ (pRd_readWire_31 ((fRd_expect (0 : Int32) I J).1) ((fRd_expect (0 : Int32) I J).2) J c)
def fRd_readWire_9  (z0 : Int32) (I : Nat → Nat → Int32) (J : Nat → Nat → Int64) (c : Value) : (Nat → Nat → Int32) × Value :=
  fRd_readWire_26 ((fge_L_Rd_readExpression (0 : Int32) I J)) J ((Value.ref 7))
def pRd_readWire_9  (z0 : Int32) (I : Nat → Nat → Int32) (J : Nat → Nat → Int64) (c : Value) : Prop :=
  (pge_L_Rd_readExpression (0 : Int32) I J) ∧ (pRd_readWire_26 ((fge_L_Rd_readExpression (0 : Int32) I J)) J ((Value.ref 7)))
def fRd_readWire_4  (I : Nat → Nat → Int32) (J : Nat → Nat → Int64) (c : Value) : (Nat → Nat → Int32) × Value :=
  fRd_readWire_9 ((fRd_expect (2 : Int32) I J).1) ((fRd_expect (2 : Int32) I J).2) J c
def pRd_readWire_4  (I : Nat → Nat → Int32) (J : Nat → Nat → Int64) (c : Value) : Prop :=
  (pRd_expect (2 : Int32) I J) ∧ (pRd_readWire_9 ((fRd_expect (2 : Int32) I J).1) ((fRd_expect (2 : Int32) I J).2) J c)
def fRd_readWire  (I : Nat → Nat → Int32) (J : Nat → Nat → Int64) (c : Value) : (Nat → Nat → Int32) × Value :=
  fRd_readWire_4 ((fRd_readNewName I J)) J c
def pRd_readWire  (I : Nat → Nat → Int32) (J : Nat → Nat → Int64) (c : Value) : Prop :=
  (pRd_readNewName I J) ∧ (pRd_readWire_4 ((fRd_readNewName I J)) J c)
set_option maxHeartbeats 4000000 in
set_option maxRecDepth 100000 in
theorem Rd_readWire_n50 (g : pmG) (d : Nat) (ex : List (Nat × Nat)) (R : Nat → Nat → Value) (hR : pk_R R) (o : Outcome) (Z : pmM)  (I : Nat → Nat → Int32) (J : Nat → Nat → Int64) (c : Value) (hcv : c = .ref 7) (hp : pRd_readWire_50 I J c) (ho : o = .returned none) (hz : Z = (pk_K ++ ex, pm_u R 13 8 (fRd_readWire_50 I J c).2, (fRd_readWire_50 I J c).1, J)) : pmE g kRd_readWire (d + 404) 0 0 50 [(0, .ref 13)] [] (pk_K ++ ex) (pm_u R 13 8 c) I J o Z := by
  unfold pRd_readWire_50 at hp
  refine pm_aload_n dRd_readWire_50 rfl ?_
  refine pm_getr dRd_readWire_51 fRd_21 rfl (rr_13_0 (pk_Ru hR _)) ?_
  refine pm_callV dRd_readWire_54 lRd_133 vCi_addWire ⟨_, _, rfl⟩ (Ci_addWire_ok _ _ _ _ (pk_Ru hR _)  _ _ hp.1) rfl rfl rfl (Nat.le_of_ble_eq_true rfl) (Nat.le_refl _) (Nat.le_refl _) ?_
  exact pm_vret dRd_readWire_57 rfl ho (hz.trans (by first | rfl | (simp only [fRd_readWire_50]; done) | (simp only [fRd_readWire_50]; rfl)))
set_option maxHeartbeats 4000000 in
set_option maxRecDepth 100000 in
theorem Rd_readWire_n31 (g : pmG) (d : Nat) (ex : List (Nat × Nat)) (R : Nat → Nat → Value) (hR : pk_R R) (o : Outcome) (Z : pmM)  (z0 : Int32) (I : Nat → Nat → Int32) (J : Nat → Nat → Int64) (c : Value) (hcv : c = .ref 7) (hp : pRd_readWire_31 z0 I J c) (ho : o = .returned none) (hz : Z = (pk_K ++ ex, pm_u R 13 8 (fRd_readWire_31 z0 I J c).2, (fRd_readWire_31 z0 I J c).1, J)) : pmE g kRd_readWire (d + 404) 0 0 31 [(0, .ref 13)] [.int z0] (pk_K ++ ex) (pm_u R 13 8 c) I J o Z := by
  unfold pRd_readWire_31 at hp
  refine pm_if_eq 57 dRd_readWire_31 (by decide) (fun h31 => ?_) (fun h31 => ?_)
  ·
    exact pm_vret dRd_readWire_57 rfl ho (hz.trans (by first | (simp only [fRd_readWire_31, if_pos h31]; done) | (simp only [fRd_readWire_31, if_pos h31]; rfl) | rfl))
  ·
    refine pm_aload_n dRd_readWire_34 rfl ?_
    refine pm_getr dRd_readWire_35 fRd_40 rfl ((pm_u_s _ _ _ _).trans hcv) ?_
    refine pm_bipush (v := 31) dRd_readWire_38 (by decide) ?_
    refine pm_aload_n dRd_readWire_40 rfl ?_
    refine pm_getr dRd_readWire_41 fRd_21 rfl (rr_13_0 (pk_Ru hR _)) ?_
    refine pm_geti dRd_readWire_44 fRd_125 rfl ?_
    refine pm_callV dRd_readWire_47 lRd_128 vCo_add ⟨_, _, rfl⟩ (Co_add_L_ok _ _ _ _ (pk_Ru hR _) _ _ _ _ (hp.2 h31).1) rfl rfl rfl (Nat.le_of_ble_eq_true rfl) (Nat.le_refl _) (Nat.le_refl _) ?_
    refine pm_wk [0] rfl ?_
    exact Rd_readWire_n50 g d ex R hR _ _   _ _ _ hcv (hp.2 h31).2 ho (hz.trans (by first | (simp only [fRd_readWire_31, if_neg h31]; done) | (simp only [fRd_readWire_31, if_neg h31]; rfl) | rfl))
set_option maxHeartbeats 4000000 in
set_option maxRecDepth 100000 in
theorem Rd_readWire_n26 (g : pmG) (d : Nat) (ex : List (Nat × Nat)) (R : Nat → Nat → Value) (hR : pk_R R) (o : Outcome) (Z : pmM)  (I : Nat → Nat → Int32) (J : Nat → Nat → Int64) (c : Value) (hcv : c = .ref 7) (hp : pRd_readWire_26 I J c) (ho : o = .returned none) (hz : Z = (pk_K ++ ex, pm_u R 13 8 (fRd_readWire_26 I J c).2, (fRd_readWire_26 I J c).1, J)) : pmE g kRd_readWire (d + 404) 0 0 26 [(0, .ref 13)] [] (pk_K ++ ex) (pm_u R 13 8 c) I J o Z := by
  unfold pRd_readWire_26 at hp
  refine pm_aload_n dRd_readWire_26 rfl ?_
  refine pm_iconst (v := 0) dRd_readWire_27 (by decide) ?_
  refine pm_callV dRd_readWire_28 lRd_100 vRd_expect ⟨_, _, rfl⟩ (Rd_expect_ok _ _ _ _ (pk_Ru hR _) _ _ _ hp.1) rfl rfl rfl (Nat.le_of_ble_eq_true rfl) (Nat.le_refl _) (Nat.le_refl _) ?_
  refine pm_wk [0] rfl ?_
  exact Rd_readWire_n31 g d ex R hR _ _   _ _ _ _ hcv hp.2 ho (hz.trans (by first | rfl | (simp only [fRd_readWire_26]; done) | (simp only [fRd_readWire_26]; rfl)))
set_option maxHeartbeats 4000000 in
set_option maxRecDepth 100000 in
theorem Rd_readWire_n9 (g : pmG) (d : Nat) (ex : List (Nat × Nat)) (R : Nat → Nat → Value) (hR : pk_R R) (o : Outcome) (Z : pmM)  (z0 : Int32) (I : Nat → Nat → Int32) (J : Nat → Nat → Int64) (c : Value) (hp : pRd_readWire_9 z0 I J c) (ho : o = .returned none) (hz : Z = (pk_K ++ ex, pm_u R 13 8 (fRd_readWire_9 z0 I J c).2, (fRd_readWire_9 z0 I J c).1, J)) : pmE g kRd_readWire (d + 404) 0 0 9 [(0, .ref 13)] [.int z0] (pk_K ++ ex) (pm_u R 13 8 c) I J o Z := by
  unfold pRd_readWire_9 at hp
  refine pm_pop dRd_readWire_9 rfl ?_
  refine pm_aload_n dRd_readWire_10 rfl ?_
  refine pm_aload_n dRd_readWire_11 rfl ?_
  refine pm_getr dRd_readWire_12 fRd_21 rfl (rr_13_0 (pk_Ru hR _)) ?_
  refine pm_getr dRd_readWire_15 fRd_34 rfl (rr_3_3 (pk_Ru hR _)) ?_
  refine pm_putr dRd_readWire_18 fRd_40 sRd_40 (fun h => by cases h) rfl rfl rfl ?_
  refine pm_Req (pm_uu _ _ _ _ _) ?_
  refine pm_aload_n dRd_readWire_21 rfl ?_
  refine pm_iconst (v := 0) dRd_readWire_22 (by decide) ?_
  refine pm_callV dRd_readWire_23 lRd_122 vRd_readExpression ⟨_, _, rfl⟩ (ge_L_Rd_readExpression_ok _ _ _ _ (pk_Ru hR _) (pm_u_s _ _ _ _) _ _ _ hp.1) rfl rfl rfl (Nat.le_of_ble_eq_true rfl) (Nat.le_refl _) (Nat.le_refl _) ?_
  refine pm_wk [0] rfl ?_
  exact Rd_readWire_n26 g d ex R hR _ _   _ _ _ rfl hp.2 ho (hz.trans (by first | rfl | (simp only [fRd_readWire_9]; done) | (simp only [fRd_readWire_9]; rfl)))
set_option maxHeartbeats 4000000 in
set_option maxRecDepth 100000 in
theorem Rd_readWire_n4 (g : pmG) (d : Nat) (ex : List (Nat × Nat)) (R : Nat → Nat → Value) (hR : pk_R R) (o : Outcome) (Z : pmM)  (I : Nat → Nat → Int32) (J : Nat → Nat → Int64) (c : Value) (hp : pRd_readWire_4 I J c) (ho : o = .returned none) (hz : Z = (pk_K ++ ex, pm_u R 13 8 (fRd_readWire_4 I J c).2, (fRd_readWire_4 I J c).1, J)) : pmE g kRd_readWire (d + 404) 0 0 4 [(0, .ref 13)] [] (pk_K ++ ex) (pm_u R 13 8 c) I J o Z := by
  unfold pRd_readWire_4 at hp
  refine pm_aload_n dRd_readWire_4 rfl ?_
  refine pm_iconst (v := 2) dRd_readWire_5 (by decide) ?_
  refine pm_callV dRd_readWire_6 lRd_100 vRd_expect ⟨_, _, rfl⟩ (Rd_expect_ok _ _ _ _ (pk_Ru hR _) _ _ _ hp.1) rfl rfl rfl (Nat.le_of_ble_eq_true rfl) (Nat.le_refl _) (Nat.le_refl _) ?_
  refine pm_wk [0] rfl ?_
  exact Rd_readWire_n9 g d ex R hR _ _   _ _ _ _ hp.2 ho (hz.trans (by first | rfl | (simp only [fRd_readWire_4]; done) | (simp only [fRd_readWire_4]; rfl)))
set_option maxHeartbeats 4000000 in
set_option maxRecDepth 100000 in
theorem Rd_readWire_n0 (g : pmG) (d : Nat) (ex : List (Nat × Nat)) (R : Nat → Nat → Value) (hR : pk_R R) (o : Outcome) (Z : pmM)  (I : Nat → Nat → Int32) (J : Nat → Nat → Int64) (c : Value) (hp : pRd_readWire I J c) (ho : o = .returned none) (hz : Z = (pk_K ++ ex, pm_u R 13 8 (fRd_readWire I J c).2, (fRd_readWire I J c).1, J)) : pmE g kRd_readWire (d + 404) 0 0 0 [(0, .ref 13)] [] (pk_K ++ ex) (pm_u R 13 8 c) I J o Z := by
  unfold pRd_readWire at hp
  refine pm_aload_n dRd_readWire_0 rfl ?_
  refine pm_callV dRd_readWire_1 lRd_97 vRd_readNewName ⟨_, _, rfl⟩ (Rd_readNewName_ok _ _ _ _ (pk_Ru hR _)  _ _ hp.1) rfl rfl rfl (Nat.le_of_ble_eq_true rfl) (Nat.le_refl _) (Nat.le_refl _) ?_
  refine pm_wk [0] rfl ?_
  exact Rd_readWire_n4 g d ex R hR _ _   _ _ _ hp.2 ho (hz.trans (by first | rfl | (simp only [fRd_readWire]; done) | (simp only [fRd_readWire]; rfl)))
set_option maxHeartbeats 4000000 in
set_option maxRecDepth 100000 in
theorem Rd_readWire_ok (g : pmG) (d : Nat) (ex : List (Nat × Nat)) (R : Nat → Nat → Value) (hR : pk_R R)   (I : Nat → Nat → Int32) (J : Nat → Nat → Int64) (hp : pRd_readWire I J (R 13 8)) : pmC g kRd_readWire (d + 404) 0 0 [.ref 13] (pk_K ++ ex, R, I, J) (.returned none) (pk_K ++ ex, pm_u R 13 8 (fRd_readWire I J (R 13 8)).2, (fRd_readWire I J (R 13 8)).1, J) :=
  pmC.of (by decide) (Nat.le_of_ble_eq_true rfl) (pm_Req (pm_ui _ _ _).symm (Rd_readWire_n0 g d ex R hR _ _   I J (R 13 8) hp rfl rfl))
def fRd_readNext_42  (y1 : Int32) (z0 : Int32) (I : Nat → Nat → Int32) (J : Nat → Nat → Int64) (c : Value) : (Nat → Nat → Int32) × Value :=
  if z0 = 0 then (I, c)
  else ((fCo_add_L (32 : Int32) y1 I J), c)
def pRd_readNext_42  (y1 : Int32) (z0 : Int32) (I : Nat → Nat → Int32) (J : Nat → Nat → Int64) (c : Value) : Prop :=
  (z0 = 0 → True) ∧
  (¬ (z0 = 0) → (pCo_add_L (32 : Int32) y1 I J) ∧ True)
def fRd_readNext_37  (y1 : Int32) (I : Nat → Nat → Int32) (J : Nat → Nat → Int64) (c : Value) : (Nat → Nat → Int32) × Value :=
  fRd_readNext_42 y1 ((fRd_expect (0 : Int32) I J).1) ((fRd_expect (0 : Int32) I J).2) J c
def pRd_readNext_37  (y1 : Int32) (I : Nat → Nat → Int32) (J : Nat → Nat → Int64) (c : Value) : Prop :=
  (pRd_expect (0 : Int32) I J) ∧ (pRd_readNext_42 y1 ((fRd_expect (0 : Int32) I J).1) ((fRd_expect (0 : Int32) I J).2) J c)
def fRd_readNext_20  (y1 : Int32) (z0 : Int32) (I : Nat → Nat → Int32) (J : Nat → Nat → Int64) (c : Value) : (Nat → Nat → Int32) × Value :=
  fRd_readNext_37 y1 ((fge_L_Rd_readExpression (0 : Int32) I J)) J ((Value.ref 7))
def pRd_readNext_20  (y1 : Int32) (z0 : Int32) (I : Nat → Nat → Int32) (J : Nat → Nat → Int64) (c : Value) : Prop :=
  (pge_L_Rd_readExpression (0 : Int32) I J) ∧ (pRd_readNext_37 y1 ((fge_L_Rd_readExpression (0 : Int32) I J)) J ((Value.ref 7)))
def fRd_readNext_14  (z0 : Int32) (I : Nat → Nat → Int32) (J : Nat → Nat → Int64) (c : Value) : (Nat → Nat → Int32) × Value :=
  fRd_readNext_20 z0 ((fRd_expect (2 : Int32) I J).1) ((fRd_expect (2 : Int32) I J).2) J c
def pRd_readNext_14  (z0 : Int32) (I : Nat → Nat → Int32) (J : Nat → Nat → Int64) (c : Value) : Prop :=
  (pRd_expect (2 : Int32) I J) ∧ (pRd_readNext_20 z0 ((fRd_expect (2 : Int32) I J).1) ((fRd_expect (2 : Int32) I J).2) J c)
def fRd_readNext_10  (I : Nat → Nat → Int32) (J : Nat → Nat → Int64) (c : Value) : (Nat → Nat → Int32) × Value :=
  fRd_readNext_14 ((fRd_readRegWithoutNext I J).1) ((fRd_readRegWithoutNext I J).2) J c
def pRd_readNext_10  (I : Nat → Nat → Int32) (J : Nat → Nat → Int64) (c : Value) : Prop :=
  (pRd_readRegWithoutNext I J) ∧ (pRd_readNext_14 ((fRd_readRegWithoutNext I J).1) ((fRd_readRegWithoutNext I J).2) J c)
def fRd_readNext_6  (I : Nat → Nat → Int32) (J : Nat → Nat → Int64) (c : Value) : (Nat → Nat → Int32) × Value :=
  fRd_readNext_10 ((fRd_advance I J)) J c
def pRd_readNext_6  (I : Nat → Nat → Int32) (J : Nat → Nat → Int64) (c : Value) : Prop :=
  (pRd_advance I J) ∧ (pRd_readNext_10 ((fRd_advance I J)) J c)
def fRd_readNext  (I : Nat → Nat → Int32) (J : Nat → Nat → Int64) (c : Value) : (Nat → Nat → Int32) × Value :=
  fRd_readNext_6 ((fRd_charge (8 : Int32) I J)) J c
def pRd_readNext  (I : Nat → Nat → Int32) (J : Nat → Nat → Int64) (c : Value) : Prop :=
  (pRd_charge (8 : Int32) I J) ∧ (pRd_readNext_6 ((fRd_charge (8 : Int32) I J)) J c)
set_option maxHeartbeats 4000000 in
set_option maxRecDepth 100000 in
theorem Rd_readNext_n42 (g : pmG) (d : Nat) (ex : List (Nat × Nat)) (R : Nat → Nat → Value) (hR : pk_R R) (o : Outcome) (Z : pmM)  (y1 : Int32) (z0 : Int32) (I : Nat → Nat → Int32) (J : Nat → Nat → Int64) (c : Value) (hcv : c = .ref 7) (hp : pRd_readNext_42 y1 z0 I J c) (ho : o = .returned none) (hz : Z = (pk_K ++ ex, pm_u R 13 8 (fRd_readNext_42 y1 z0 I J c).2, (fRd_readNext_42 y1 z0 I J c).1, J)) : pmE g kRd_readNext (d + 404) 0 0 42 [(0, .ref 13), (1, .int y1)] [.int z0] (pk_K ++ ex) (pm_u R 13 8 c) I J o Z := by
  unfold pRd_readNext_42 at hp
  refine pm_if_eq 55 dRd_readNext_42 (by decide) (fun h42 => ?_) (fun h42 => ?_)
  ·
    exact pm_vret dRd_readNext_55 rfl ho (hz.trans (by first | (simp only [fRd_readNext_42, if_pos h42]; done) | (simp only [fRd_readNext_42, if_pos h42]; rfl) | rfl))
  ·
    refine pm_aload_n dRd_readNext_45 rfl ?_
    refine pm_getr dRd_readNext_46 fRd_40 rfl ((pm_u_s _ _ _ _).trans hcv) ?_
    refine pm_bipush (v := 32) dRd_readNext_49 (by decide) ?_
    refine pm_iload_n dRd_readNext_51 rfl ?_
    refine pm_callV dRd_readNext_52 lRd_128 vCo_add ⟨_, _, rfl⟩ (Co_add_L_ok _ _ _ _ (pk_Ru hR _) _ _ _ _ (hp.2 h42).1) rfl rfl rfl (Nat.le_of_ble_eq_true rfl) (Nat.le_refl _) (Nat.le_refl _) ?_
    exact pm_vret dRd_readNext_55 rfl ho (hz.trans (by first | (simp only [fRd_readNext_42, if_neg h42]; done) | (simp only [fRd_readNext_42, if_neg h42]; rfl) | rfl))
set_option maxHeartbeats 4000000 in
set_option maxRecDepth 100000 in
theorem Rd_readNext_n37 (g : pmG) (d : Nat) (ex : List (Nat × Nat)) (R : Nat → Nat → Value) (hR : pk_R R) (o : Outcome) (Z : pmM)  (y1 : Int32) (I : Nat → Nat → Int32) (J : Nat → Nat → Int64) (c : Value) (hcv : c = .ref 7) (hp : pRd_readNext_37 y1 I J c) (ho : o = .returned none) (hz : Z = (pk_K ++ ex, pm_u R 13 8 (fRd_readNext_37 y1 I J c).2, (fRd_readNext_37 y1 I J c).1, J)) : pmE g kRd_readNext (d + 404) 0 0 37 [(0, .ref 13), (1, .int y1)] [] (pk_K ++ ex) (pm_u R 13 8 c) I J o Z := by
  unfold pRd_readNext_37 at hp
  refine pm_aload_n dRd_readNext_37 rfl ?_
  refine pm_iconst (v := 0) dRd_readNext_38 (by decide) ?_
  refine pm_callV dRd_readNext_39 lRd_100 vRd_expect ⟨_, _, rfl⟩ (Rd_expect_ok _ _ _ _ (pk_Ru hR _) _ _ _ hp.1) rfl rfl rfl (Nat.le_of_ble_eq_true rfl) (Nat.le_refl _) (Nat.le_refl _) ?_
  refine pm_wk [0, 1] rfl ?_
  exact Rd_readNext_n42 g d ex R hR _ _   _ _ _ _ _ hcv hp.2 ho (hz.trans (by first | rfl | (simp only [fRd_readNext_37]; done) | (simp only [fRd_readNext_37]; rfl)))
set_option maxHeartbeats 4000000 in
set_option maxRecDepth 100000 in
theorem Rd_readNext_n20 (g : pmG) (d : Nat) (ex : List (Nat × Nat)) (R : Nat → Nat → Value) (hR : pk_R R) (o : Outcome) (Z : pmM)  (y1 : Int32) (z0 : Int32) (I : Nat → Nat → Int32) (J : Nat → Nat → Int64) (c : Value) (hp : pRd_readNext_20 y1 z0 I J c) (ho : o = .returned none) (hz : Z = (pk_K ++ ex, pm_u R 13 8 (fRd_readNext_20 y1 z0 I J c).2, (fRd_readNext_20 y1 z0 I J c).1, J)) : pmE g kRd_readNext (d + 404) 0 0 20 [(0, .ref 13), (1, .int y1)] [.int z0] (pk_K ++ ex) (pm_u R 13 8 c) I J o Z := by
  unfold pRd_readNext_20 at hp
  refine pm_pop dRd_readNext_20 rfl ?_
  refine pm_aload_n dRd_readNext_21 rfl ?_
  refine pm_aload_n dRd_readNext_22 rfl ?_
  refine pm_getr dRd_readNext_23 fRd_21 rfl (rr_13_0 (pk_Ru hR _)) ?_
  refine pm_getr dRd_readNext_26 fRd_34 rfl (rr_3_3 (pk_Ru hR _)) ?_
  refine pm_putr dRd_readNext_29 fRd_40 sRd_40 (fun h => by cases h) rfl rfl rfl ?_
  refine pm_Req (pm_uu _ _ _ _ _) ?_
  refine pm_aload_n dRd_readNext_32 rfl ?_
  refine pm_iconst (v := 0) dRd_readNext_33 (by decide) ?_
  refine pm_callV dRd_readNext_34 lRd_122 vRd_readExpression ⟨_, _, rfl⟩ (ge_L_Rd_readExpression_ok _ _ _ _ (pk_Ru hR _) (pm_u_s _ _ _ _) _ _ _ hp.1) rfl rfl rfl (Nat.le_of_ble_eq_true rfl) (Nat.le_refl _) (Nat.le_refl _) ?_
  refine pm_wk [0, 1] rfl ?_
  exact Rd_readNext_n37 g d ex R hR _ _   _ _ _ _ rfl hp.2 ho (hz.trans (by first | rfl | (simp only [fRd_readNext_20]; done) | (simp only [fRd_readNext_20]; rfl)))
set_option maxHeartbeats 4000000 in
set_option maxRecDepth 100000 in
theorem Rd_readNext_n14 (g : pmG) (d : Nat) (ex : List (Nat × Nat)) (R : Nat → Nat → Value) (hR : pk_R R) (o : Outcome) (Z : pmM)  (z0 : Int32) (I : Nat → Nat → Int32) (J : Nat → Nat → Int64) (c : Value) (hp : pRd_readNext_14 z0 I J c) (ho : o = .returned none) (hz : Z = (pk_K ++ ex, pm_u R 13 8 (fRd_readNext_14 z0 I J c).2, (fRd_readNext_14 z0 I J c).1, J)) : pmE g kRd_readNext (d + 404) 0 0 14 [(0, .ref 13)] [.int z0] (pk_K ++ ex) (pm_u R 13 8 c) I J o Z := by
  unfold pRd_readNext_14 at hp
  refine pm_istore_n dRd_readNext_14 (by decide) rfl ?_
  refine pm_aload_n dRd_readNext_15 rfl ?_
  refine pm_iconst (v := 2) dRd_readNext_16 (by decide) ?_
  refine pm_callV dRd_readNext_17 lRd_100 vRd_expect ⟨_, _, rfl⟩ (Rd_expect_ok _ _ _ _ (pk_Ru hR _) _ _ _ hp.1) rfl rfl rfl (Nat.le_of_ble_eq_true rfl) (Nat.le_refl _) (Nat.le_refl _) ?_
  refine pm_wk [1, 0] rfl ?_
  exact Rd_readNext_n20 g d ex R hR _ _   _ _ _ _ _ hp.2 ho (hz.trans (by first | rfl | (simp only [fRd_readNext_14]; done) | (simp only [fRd_readNext_14]; rfl)))
set_option maxHeartbeats 4000000 in
set_option maxRecDepth 100000 in
theorem Rd_readNext_n10 (g : pmG) (d : Nat) (ex : List (Nat × Nat)) (R : Nat → Nat → Value) (hR : pk_R R) (o : Outcome) (Z : pmM)  (I : Nat → Nat → Int32) (J : Nat → Nat → Int64) (c : Value) (hp : pRd_readNext_10 I J c) (ho : o = .returned none) (hz : Z = (pk_K ++ ex, pm_u R 13 8 (fRd_readNext_10 I J c).2, (fRd_readNext_10 I J c).1, J)) : pmE g kRd_readNext (d + 404) 0 0 10 [(0, .ref 13)] [] (pk_K ++ ex) (pm_u R 13 8 c) I J o Z := by
  unfold pRd_readNext_10 at hp
  refine pm_aload_n dRd_readNext_10 rfl ?_
  refine pm_callV dRd_readNext_11 lRd_142 vRd_readRegWithoutNext ⟨_, _, rfl⟩ (Rd_readRegWithoutNext_ok _ _ _ _ (pk_Ru hR _)  _ _ hp.1) rfl rfl rfl (Nat.le_of_ble_eq_true rfl) (Nat.le_refl _) (Nat.le_refl _) ?_
  refine pm_wk [0] rfl ?_
  exact Rd_readNext_n14 g d ex R hR _ _   _ _ _ _ hp.2 ho (hz.trans (by first | rfl | (simp only [fRd_readNext_10]; done) | (simp only [fRd_readNext_10]; rfl)))
set_option maxHeartbeats 4000000 in
set_option maxRecDepth 100000 in
theorem Rd_readNext_n6 (g : pmG) (d : Nat) (ex : List (Nat × Nat)) (R : Nat → Nat → Value) (hR : pk_R R) (o : Outcome) (Z : pmM)  (I : Nat → Nat → Int32) (J : Nat → Nat → Int64) (c : Value) (hp : pRd_readNext_6 I J c) (ho : o = .returned none) (hz : Z = (pk_K ++ ex, pm_u R 13 8 (fRd_readNext_6 I J c).2, (fRd_readNext_6 I J c).1, J)) : pmE g kRd_readNext (d + 404) 0 0 6 [(0, .ref 13)] [] (pk_K ++ ex) (pm_u R 13 8 c) I J o Z := by
  unfold pRd_readNext_6 at hp
  refine pm_aload_n dRd_readNext_6 rfl ?_
  refine pm_callV dRd_readNext_7 lRd_139 vRd_advance ⟨_, _, rfl⟩ (Rd_advance_ok _ _ _ _ (pk_Ru hR _)  _ _ hp.1) rfl rfl rfl (Nat.le_of_ble_eq_true rfl) (Nat.le_refl _) (Nat.le_refl _) ?_
  refine pm_wk [0] rfl ?_
  exact Rd_readNext_n10 g d ex R hR _ _   _ _ _ hp.2 ho (hz.trans (by first | rfl | (simp only [fRd_readNext_6]; done) | (simp only [fRd_readNext_6]; rfl)))
set_option maxHeartbeats 4000000 in
set_option maxRecDepth 100000 in
theorem Rd_readNext_n0 (g : pmG) (d : Nat) (ex : List (Nat × Nat)) (R : Nat → Nat → Value) (hR : pk_R R) (o : Outcome) (Z : pmM)  (I : Nat → Nat → Int32) (J : Nat → Nat → Int64) (c : Value) (hp : pRd_readNext I J c) (ho : o = .returned none) (hz : Z = (pk_K ++ ex, pm_u R 13 8 (fRd_readNext I J c).2, (fRd_readNext I J c).1, J)) : pmE g kRd_readNext (d + 404) 0 0 0 [(0, .ref 13)] [] (pk_K ++ ex) (pm_u R 13 8 c) I J o Z := by
  unfold pRd_readNext at hp
  refine pm_aload_n dRd_readNext_0 rfl ?_
  refine pm_bipush (v := 8) dRd_readNext_1 (by decide) ?_
  refine pm_callV dRd_readNext_3 lRd_136 vRd_charge ⟨_, _, rfl⟩ (Rd_charge_ok _ _ _ _ (pk_Ru hR _) _ _ _ hp.1) rfl rfl rfl (Nat.le_of_ble_eq_true rfl) (Nat.le_refl _) (Nat.le_refl _) ?_
  refine pm_wk [0] rfl ?_
  exact Rd_readNext_n6 g d ex R hR _ _   _ _ _ hp.2 ho (hz.trans (by first | rfl | (simp only [fRd_readNext]; done) | (simp only [fRd_readNext]; rfl)))
set_option maxHeartbeats 4000000 in
set_option maxRecDepth 100000 in
theorem Rd_readNext_ok (g : pmG) (d : Nat) (ex : List (Nat × Nat)) (R : Nat → Nat → Value) (hR : pk_R R)   (I : Nat → Nat → Int32) (J : Nat → Nat → Int64) (hp : pRd_readNext I J (R 13 8)) : pmC g kRd_readNext (d + 404) 0 0 [.ref 13] (pk_K ++ ex, R, I, J) (.returned none) (pk_K ++ ex, pm_u R 13 8 (fRd_readNext I J (R 13 8)).2, (fRd_readNext I J (R 13 8)).1, J) :=
  pmC.of (by decide) (Nat.le_of_ble_eq_true rfl) (pm_Req (pm_ui _ _ _).symm (Rd_readNext_n0 g d ex R hR _ _   I J (R 13 8) hp rfl rfl))
def fRd_readSpec_67  (I : Nat → Nat → Int32) (J : Nat → Nat → Int64) (c : Value) : (Nat → Nat → Int32) × Value :=
  ((fCi_addSpec I J), c)
def pRd_readSpec_67  (I : Nat → Nat → Int32) (J : Nat → Nat → Int64) (c : Value) : Prop :=
  (pCi_addSpec I J) ∧ True
def fRd_readSpec_48  (z0 : Int32) (I : Nat → Nat → Int32) (J : Nat → Nat → Int64) (c : Value) : (Nat → Nat → Int32) × Value :=
  if z0 = 0 then (I, c)
  else fRd_readSpec_67 ((fCo_add_F (33 : Int32) (I 3 6) I J)) J c
def pRd_readSpec_48  (z0 : Int32) (I : Nat → Nat → Int32) (J : Nat → Nat → Int64) (c : Value) : Prop :=
  (z0 = 0 → True) ∧
  (¬ (z0 = 0) → (pCo_add_F (33 : Int32) (I 3 6) I J) ∧ (pRd_readSpec_67 ((fCo_add_F (33 : Int32) (I 3 6) I J)) J c))
def fRd_readSpec_43  (I : Nat → Nat → Int32) (J : Nat → Nat → Int64) (c : Value) : (Nat → Nat → Int32) × Value :=
  fRd_readSpec_48 ((fRd_expect (0 : Int32) I J).1) ((fRd_expect (0 : Int32) I J).2) J c
def pRd_readSpec_43  (I : Nat → Nat → Int32) (J : Nat → Nat → Int64) (c : Value) : Prop :=
  (pRd_expect (0 : Int32) I J) ∧ (pRd_readSpec_48 ((fRd_expect (0 : Int32) I J).1) ((fRd_expect (0 : Int32) I J).2) J c)
def fRd_readSpec_26  (z0 : Int32) (I : Nat → Nat → Int32) (J : Nat → Nat → Int64) (c : Value) : (Nat → Nat → Int32) × Value :=
  fRd_readSpec_43 ((fgf_F_Rd_readFormula (0 : Int32) I J)) J ((Value.ref 10))
def pRd_readSpec_26  (z0 : Int32) (I : Nat → Nat → Int32) (J : Nat → Nat → Int64) (c : Value) : Prop :=
  (pgf_F_Rd_readFormula (0 : Int32) I J) ∧ (pRd_readSpec_43 ((fgf_F_Rd_readFormula (0 : Int32) I J)) J ((Value.ref 10)))
def fRd_readSpec_21  (I : Nat → Nat → Int32) (J : Nat → Nat → Int64) (c : Value) : (Nat → Nat → Int32) × Value :=
  fRd_readSpec_26 ((fRd_expect (2 : Int32) I J).1) ((fRd_expect (2 : Int32) I J).2) J c
def pRd_readSpec_21  (I : Nat → Nat → Int32) (J : Nat → Nat → Int64) (c : Value) : Prop :=
  (pRd_expect (2 : Int32) I J) ∧ (pRd_readSpec_26 ((fRd_expect (2 : Int32) I J).1) ((fRd_expect (2 : Int32) I J).2) J c)
def fRd_readSpec_17  (I : Nat → Nat → Int32) (J : Nat → Nat → Int64) (c : Value) : (Nat → Nat → Int32) × Value :=
  fRd_readSpec_21 ((fRd_readNewName I J)) J c
def pRd_readSpec_17  (I : Nat → Nat → Int32) (J : Nat → Nat → Int64) (c : Value) : Prop :=
  (pRd_readNewName I J) ∧ (pRd_readSpec_21 ((fRd_readNewName I J)) J c)
def fRd_readSpec  (I : Nat → Nat → Int32) (J : Nat → Nat → Int64) (c : Value) : (Nat → Nat → Int32) × Value :=
  if (I 3 6) < (30 : Int32) then fRd_readSpec_17 I J c
  else fRd_readSpec_17 ((fRd_halt (4 : Int32) I J)) J c
def pRd_readSpec  (I : Nat → Nat → Int32) (J : Nat → Nat → Int64) (c : Value) : Prop :=
  ((I 3 6) < (30 : Int32) → pRd_readSpec_17 I J c) ∧
  (¬ ((I 3 6) < (30 : Int32)) → (pRd_halt (4 : Int32) I J) ∧ (pRd_readSpec_17 ((fRd_halt (4 : Int32) I J)) J c))
set_option maxHeartbeats 4000000 in
set_option maxRecDepth 100000 in
theorem Rd_readSpec_n67 (g : pmG) (d : Nat) (ex : List (Nat × Nat)) (R : Nat → Nat → Value) (hR : pk_R R) (o : Outcome) (Z : pmM)  (I : Nat → Nat → Int32) (J : Nat → Nat → Int64) (c : Value) (hcv : c = .ref 10) (hp : pRd_readSpec_67 I J c) (ho : o = .returned none) (hz : Z = (pk_K ++ ex, pm_u R 13 8 (fRd_readSpec_67 I J c).2, (fRd_readSpec_67 I J c).1, J)) : pmE g kRd_readSpec (d + 664) 0 0 67 [(0, .ref 13)] [] (pk_K ++ ex) (pm_u R 13 8 c) I J o Z := by
  unfold pRd_readSpec_67 at hp
  refine pm_aload_n dRd_readSpec_67 rfl ?_
  refine pm_getr dRd_readSpec_68 fRd_21 rfl (rr_13_0 (pk_Ru hR _)) ?_
  refine pm_callV dRd_readSpec_71 lRd_158 vCi_addSpec ⟨_, _, rfl⟩ (Ci_addSpec_ok _ _ _ _ (pk_Ru hR _)  _ _ hp.1) rfl rfl rfl (Nat.le_of_ble_eq_true rfl) (Nat.le_refl _) (Nat.le_refl _) ?_
  exact pm_vret dRd_readSpec_74 rfl ho (hz.trans (by first | rfl | (simp only [fRd_readSpec_67]; done) | (simp only [fRd_readSpec_67]; rfl)))
set_option maxHeartbeats 4000000 in
set_option maxRecDepth 100000 in
theorem Rd_readSpec_n48 (g : pmG) (d : Nat) (ex : List (Nat × Nat)) (R : Nat → Nat → Value) (hR : pk_R R) (o : Outcome) (Z : pmM)  (z0 : Int32) (I : Nat → Nat → Int32) (J : Nat → Nat → Int64) (c : Value) (hcv : c = .ref 10) (hp : pRd_readSpec_48 z0 I J c) (ho : o = .returned none) (hz : Z = (pk_K ++ ex, pm_u R 13 8 (fRd_readSpec_48 z0 I J c).2, (fRd_readSpec_48 z0 I J c).1, J)) : pmE g kRd_readSpec (d + 664) 0 0 48 [(0, .ref 13)] [.int z0] (pk_K ++ ex) (pm_u R 13 8 c) I J o Z := by
  unfold pRd_readSpec_48 at hp
  refine pm_if_eq 74 dRd_readSpec_48 (by decide) (fun h48 => ?_) (fun h48 => ?_)
  ·
    exact pm_vret dRd_readSpec_74 rfl ho (hz.trans (by first | (simp only [fRd_readSpec_48, if_pos h48]; done) | (simp only [fRd_readSpec_48, if_pos h48]; rfl) | rfl))
  ·
    refine pm_aload_n dRd_readSpec_51 rfl ?_
    refine pm_getr dRd_readSpec_52 fRd_40 rfl ((pm_u_s _ _ _ _).trans hcv) ?_
    refine pm_bipush (v := 33) dRd_readSpec_55 (by decide) ?_
    refine pm_aload_n dRd_readSpec_57 rfl ?_
    refine pm_getr dRd_readSpec_58 fRd_21 rfl (rr_13_0 (pk_Ru hR _)) ?_
    refine pm_geti dRd_readSpec_61 fRd_146 rfl ?_
    refine pm_callV dRd_readSpec_64 lRd_128 vCo_add ⟨_, _, rfl⟩ (Co_add_F_ok _ _ _ _ (pk_Ru hR _) _ _ _ _ (hp.2 h48).1) rfl rfl rfl (Nat.le_of_ble_eq_true rfl) (Nat.le_refl _) (Nat.le_refl _) ?_
    refine pm_wk [0] rfl ?_
    exact Rd_readSpec_n67 g d ex R hR _ _   _ _ _ hcv (hp.2 h48).2 ho (hz.trans (by first | (simp only [fRd_readSpec_48, if_neg h48]; done) | (simp only [fRd_readSpec_48, if_neg h48]; rfl) | rfl))
set_option maxHeartbeats 4000000 in
set_option maxRecDepth 100000 in
theorem Rd_readSpec_n43 (g : pmG) (d : Nat) (ex : List (Nat × Nat)) (R : Nat → Nat → Value) (hR : pk_R R) (o : Outcome) (Z : pmM)  (I : Nat → Nat → Int32) (J : Nat → Nat → Int64) (c : Value) (hcv : c = .ref 10) (hp : pRd_readSpec_43 I J c) (ho : o = .returned none) (hz : Z = (pk_K ++ ex, pm_u R 13 8 (fRd_readSpec_43 I J c).2, (fRd_readSpec_43 I J c).1, J)) : pmE g kRd_readSpec (d + 664) 0 0 43 [(0, .ref 13)] [] (pk_K ++ ex) (pm_u R 13 8 c) I J o Z := by
  unfold pRd_readSpec_43 at hp
  refine pm_aload_n dRd_readSpec_43 rfl ?_
  refine pm_iconst (v := 0) dRd_readSpec_44 (by decide) ?_
  refine pm_callV dRd_readSpec_45 lRd_100 vRd_expect ⟨_, _, rfl⟩ (Rd_expect_ok _ _ _ _ (pk_Ru hR _) _ _ _ hp.1) rfl rfl rfl (Nat.le_of_ble_eq_true rfl) (Nat.le_refl _) (Nat.le_refl _) ?_
  refine pm_wk [0] rfl ?_
  exact Rd_readSpec_n48 g d ex R hR _ _   _ _ _ _ hcv hp.2 ho (hz.trans (by first | rfl | (simp only [fRd_readSpec_43]; done) | (simp only [fRd_readSpec_43]; rfl)))
set_option maxHeartbeats 4000000 in
set_option maxRecDepth 100000 in
theorem Rd_readSpec_n26 (g : pmG) (d : Nat) (ex : List (Nat × Nat)) (R : Nat → Nat → Value) (hR : pk_R R) (o : Outcome) (Z : pmM)  (z0 : Int32) (I : Nat → Nat → Int32) (J : Nat → Nat → Int64) (c : Value) (hp : pRd_readSpec_26 z0 I J c) (ho : o = .returned none) (hz : Z = (pk_K ++ ex, pm_u R 13 8 (fRd_readSpec_26 z0 I J c).2, (fRd_readSpec_26 z0 I J c).1, J)) : pmE g kRd_readSpec (d + 664) 0 0 26 [(0, .ref 13)] [.int z0] (pk_K ++ ex) (pm_u R 13 8 c) I J o Z := by
  unfold pRd_readSpec_26 at hp
  refine pm_pop dRd_readSpec_26 rfl ?_
  refine pm_aload_n dRd_readSpec_27 rfl ?_
  refine pm_aload_n dRd_readSpec_28 rfl ?_
  refine pm_getr dRd_readSpec_29 fRd_21 rfl (rr_13_0 (pk_Ru hR _)) ?_
  refine pm_getr dRd_readSpec_32 fRd_152 rfl (rr_3_4 (pk_Ru hR _)) ?_
  refine pm_putr dRd_readSpec_35 fRd_40 sRd_40 (fun h => by cases h) rfl rfl rfl ?_
  refine pm_Req (pm_uu _ _ _ _ _) ?_
  refine pm_aload_n dRd_readSpec_38 rfl ?_
  refine pm_iconst (v := 0) dRd_readSpec_39 (by decide) ?_
  refine pm_callV dRd_readSpec_40 lRd_155 vRd_readFormula ⟨_, _, rfl⟩ (gf_F_Rd_readFormula_ok _ _ _ _ (pk_Ru hR _) (pm_u_s _ _ _ _) _ _ _ hp.1) rfl rfl rfl (Nat.le_of_ble_eq_true rfl) (Nat.le_refl _) (Nat.le_refl _) ?_
  refine pm_wk [0] rfl ?_
  exact Rd_readSpec_n43 g d ex R hR _ _   _ _ _ rfl hp.2 ho (hz.trans (by first | rfl | (simp only [fRd_readSpec_26]; done) | (simp only [fRd_readSpec_26]; rfl)))
set_option maxHeartbeats 4000000 in
set_option maxRecDepth 100000 in
theorem Rd_readSpec_n21 (g : pmG) (d : Nat) (ex : List (Nat × Nat)) (R : Nat → Nat → Value) (hR : pk_R R) (o : Outcome) (Z : pmM)  (I : Nat → Nat → Int32) (J : Nat → Nat → Int64) (c : Value) (hp : pRd_readSpec_21 I J c) (ho : o = .returned none) (hz : Z = (pk_K ++ ex, pm_u R 13 8 (fRd_readSpec_21 I J c).2, (fRd_readSpec_21 I J c).1, J)) : pmE g kRd_readSpec (d + 664) 0 0 21 [(0, .ref 13)] [] (pk_K ++ ex) (pm_u R 13 8 c) I J o Z := by
  unfold pRd_readSpec_21 at hp
  refine pm_aload_n dRd_readSpec_21 rfl ?_
  refine pm_iconst (v := 2) dRd_readSpec_22 (by decide) ?_
  refine pm_callV dRd_readSpec_23 lRd_100 vRd_expect ⟨_, _, rfl⟩ (Rd_expect_ok _ _ _ _ (pk_Ru hR _) _ _ _ hp.1) rfl rfl rfl (Nat.le_of_ble_eq_true rfl) (Nat.le_refl _) (Nat.le_refl _) ?_
  refine pm_wk [0] rfl ?_
  exact Rd_readSpec_n26 g d ex R hR _ _   _ _ _ _ hp.2 ho (hz.trans (by first | rfl | (simp only [fRd_readSpec_21]; done) | (simp only [fRd_readSpec_21]; rfl)))
set_option maxHeartbeats 4000000 in
set_option maxRecDepth 100000 in
theorem Rd_readSpec_n17 (g : pmG) (d : Nat) (ex : List (Nat × Nat)) (R : Nat → Nat → Value) (hR : pk_R R) (o : Outcome) (Z : pmM)  (I : Nat → Nat → Int32) (J : Nat → Nat → Int64) (c : Value) (hp : pRd_readSpec_17 I J c) (ho : o = .returned none) (hz : Z = (pk_K ++ ex, pm_u R 13 8 (fRd_readSpec_17 I J c).2, (fRd_readSpec_17 I J c).1, J)) : pmE g kRd_readSpec (d + 664) 0 0 17 [(0, .ref 13)] [] (pk_K ++ ex) (pm_u R 13 8 c) I J o Z := by
  unfold pRd_readSpec_17 at hp
  refine pm_aload_n dRd_readSpec_17 rfl ?_
  refine pm_callV dRd_readSpec_18 lRd_97 vRd_readNewName ⟨_, _, rfl⟩ (Rd_readNewName_ok _ _ _ _ (pk_Ru hR _)  _ _ hp.1) rfl rfl rfl (Nat.le_of_ble_eq_true rfl) (Nat.le_refl _) (Nat.le_refl _) ?_
  refine pm_wk [0] rfl ?_
  exact Rd_readSpec_n21 g d ex R hR _ _   _ _ _ hp.2 ho (hz.trans (by first | rfl | (simp only [fRd_readSpec_17]; done) | (simp only [fRd_readSpec_17]; rfl)))
set_option maxHeartbeats 4000000 in
set_option maxRecDepth 100000 in
theorem Rd_readSpec_n0 (g : pmG) (d : Nat) (ex : List (Nat × Nat)) (R : Nat → Nat → Value) (hR : pk_R R) (o : Outcome) (Z : pmM)  (I : Nat → Nat → Int32) (J : Nat → Nat → Int64) (c : Value) (hp : pRd_readSpec I J c) (ho : o = .returned none) (hz : Z = (pk_K ++ ex, pm_u R 13 8 (fRd_readSpec I J c).2, (fRd_readSpec I J c).1, J)) : pmE g kRd_readSpec (d + 664) 0 0 0 [(0, .ref 13)] [] (pk_K ++ ex) (pm_u R 13 8 c) I J o Z := by
  unfold pRd_readSpec at hp
  refine pm_aload_n dRd_readSpec_0 rfl ?_
  refine pm_getr dRd_readSpec_1 fRd_21 rfl (rr_13_0 (pk_Ru hR _)) ?_
  refine pm_geti dRd_readSpec_4 fRd_146 rfl ?_
  refine pm_bipush (v := 30) dRd_readSpec_7 (by decide) ?_
  refine pm_icmp_lt 17 dRd_readSpec_9 (by decide) (fun h9 => ?_) (fun h9 => ?_)
  ·
    refine pm_wk [0] rfl ?_
    exact Rd_readSpec_n17 g d ex R hR _ _   _ _ _ (hp.1 h9) ho (hz.trans (by first | (simp only [fRd_readSpec, if_pos h9]; done) | (simp only [fRd_readSpec, if_pos h9]; rfl) | rfl))
  ·
    refine pm_aload_n dRd_readSpec_12 rfl ?_
    refine pm_iconst (v := 4) dRd_readSpec_13 (by decide) ?_
    refine pm_callV dRd_readSpec_14 lRd_149 vRd_halt ⟨_, _, rfl⟩ (Rd_halt_ok _ _ _ _ (pk_Ru hR _) _ _ _ (hp.2 h9).1) rfl rfl rfl (Nat.le_of_ble_eq_true rfl) (Nat.le_refl _) (Nat.le_refl _) ?_
    refine pm_wk [0] rfl ?_
    exact Rd_readSpec_n17 g d ex R hR _ _   _ _ _ (hp.2 h9).2 ho (hz.trans (by first | (simp only [fRd_readSpec, if_neg h9]; done) | (simp only [fRd_readSpec, if_neg h9]; rfl) | rfl))
set_option maxHeartbeats 4000000 in
set_option maxRecDepth 100000 in
theorem Rd_readSpec_ok (g : pmG) (d : Nat) (ex : List (Nat × Nat)) (R : Nat → Nat → Value) (hR : pk_R R)   (I : Nat → Nat → Int32) (J : Nat → Nat → Int64) (hp : pRd_readSpec I J (R 13 8)) : pmC g kRd_readSpec (d + 664) 0 0 [.ref 13] (pk_K ++ ex, R, I, J) (.returned none) (pk_K ++ ex, pm_u R 13 8 (fRd_readSpec I J (R 13 8)).2, (fRd_readSpec I J (R 13 8)).1, J) :=
  pmC.of (by decide) (Nat.le_of_ble_eq_true rfl) (pm_Req (pm_ui _ _ _).symm (Rd_readSpec_n0 g d ex R hR _ _   I J (R 13 8) hp rfl rfl))
