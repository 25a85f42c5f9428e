def fMo_holds_5  (y1 : Int32) (z0 : Int32) (I : Nat → Nat → Int32) (B : Nat → Value) (E : List (Nat × Nat)) : Int32 × (Nat → Nat → Int32) :=
  if z0 = 0 then (I (323 + y1.toNatClampNeg) (I 40 47).toNatClampNeg, I)
  else ((0 : Int32), I)
def pMo_holds_5  (y1 : Int32) (z0 : Int32) (I : Nat → Nat → Int32) (B : Nat → Value) (E : List (Nat × Nat)) : Prop :=
  (z0 = 0 → (vp_in y1 30) ∧ ((vp_in (I 40 47) 256) ∧ (narrow .boolean (.int (I (323 + y1.toNatClampNeg) (I 40 47).toNatClampNeg)) = .int (I (323 + y1.toNatClampNeg) (I 40 47).toNatClampNeg)))) ∧
  (¬ (z0 = 0) → True)
def fMo_holds  (y1 : Int32) (I : Nat → Nat → Int32) (B : Nat → Value) (E : List (Nat × Nat)) : Int32 × (Nat → Nat → Int32) :=
  fMo_holds_5 y1 ((fMo_noSpec y1 I).1) ((fMo_noSpec y1 I).2) B E
def pMo_holds  (y1 : Int32) (I : Nat → Nat → Int32) (B : Nat → Value) (E : List (Nat × Nat)) : Prop :=
  (pMo_noSpec y1 I) ∧ (pMo_holds_5 y1 ((fMo_noSpec y1 I).1) ((fMo_noSpec y1 I).2) B E)
set_option maxHeartbeats 4000000 in
set_option maxRecDepth 100000 in
theorem Mo_holds_n5 (g : pmG) (d : Nat) (R : Nat → Nat → Value) (hR : mk_R R) (J : Nat → Nat → Int64) (o : Outcome) (Z : pmM)  (y1 : Int32) (z0 : Int32) (I : Nat → Nat → Int32) (B : Nat → Value) (E : List (Nat × Nat)) (hp : pMo_holds_5 y1 z0 I B E) (ho : o = .returned (some (.int (fMo_holds_5 y1 z0 I B E).1))) (hz : Z = (mk_K ++ E, mk_B R B, (fMo_holds_5 y1 z0 I B E).2, J)) : pmE g kMo_holds (d + 2) 0 0 5 [(0, .ref 40), (1, .int y1)] [.int z0] (mk_K ++ E) (mk_B R B) I J o Z := by
  unfold pMo_holds_5 at hp
  refine pm_if_eq 10 dMo_holds_5 (by decide) (fun h5 => ?_) (fun h5 => ?_)
  ·
    refine pm_aload_n dMo_holds_10 rfl ?_
    refine pm_getr dMo_holds_11 fMo_155 rfl (rr_40_45 (mk_RB hR _)) ?_
    refine pm_iload_n dMo_holds_14 rfl ?_
    have hq15 := (hp.1 h5).1
    refine pm_aald dMo_holds_15 rfl (Or.inr rfl) (hp.1 h5).1 ((mk_RB hR _).2.2 _ (vp_lt (hp.1 h5).1)) (Or.inr ⟨_, rfl⟩) ?_
    refine pm_aload_n dMo_holds_16 rfl ?_
    refine pm_geti dMo_holds_17 fMo_161 rfl ?_
    refine pm_zald dMo_holds_20 (mk_fS _ (vp_lt hq15)) (hp.1 h5).2.1 ?_
    exact pm_zret dMo_holds_21 rfl (hp.1 h5).2.2 (ho.trans (by first | (simp only [fMo_holds_5, if_pos h5]; done) | (simp only [fMo_holds_5, if_pos h5]; with_reducible rfl) | with_reducible rfl)) (hz.trans (by first | (simp only [fMo_holds_5, if_pos h5]; done) | (simp only [fMo_holds_5, if_pos h5]; with_reducible rfl) | with_reducible rfl))
  ·
    refine pm_iconst (v := 0) dMo_holds_8 (by decide) ?_
    exact pm_zret dMo_holds_9 rfl (by first | rfl | decide) (ho.trans (by first | (simp only [fMo_holds_5, if_neg h5]; done) | (simp only [fMo_holds_5, if_neg h5]; with_reducible rfl) | with_reducible rfl)) (hz.trans (by first | (simp only [fMo_holds_5, if_neg h5]; done) | (simp only [fMo_holds_5, if_neg h5]; with_reducible rfl) | with_reducible rfl))
set_option maxHeartbeats 4000000 in
set_option maxRecDepth 100000 in
theorem Mo_holds_n0 (g : pmG) (d : Nat) (R : Nat → Nat → Value) (hR : mk_R R) (J : Nat → Nat → Int64) (o : Outcome) (Z : pmM)  (y1 : Int32) (I : Nat → Nat → Int32) (B : Nat → Value) (E : List (Nat × Nat)) (hp : pMo_holds y1 I B E) (ho : o = .returned (some (.int (fMo_holds y1 I B E).1))) (hz : Z = (mk_K ++ E, mk_B R B, (fMo_holds y1 I B E).2, J)) : pmE g kMo_holds (d + 2) 0 0 0 [(0, .ref 40), (1, .int y1)] [] (mk_K ++ E) (mk_B R B) I J o Z := by
  unfold pMo_holds at hp
  refine pm_aload_n dMo_holds_0 rfl ?_
  refine pm_iload_n dMo_holds_1 rfl ?_
  refine pm_callV dMo_holds_2 lMo_372 vMo_noSpec ⟨_, _, rfl⟩ (Mo_noSpec_ok _ _ _ _ (mk_RB hR _) _ _ _ hp.1) rfl rfl rfl (Nat.le_of_ble_eq_true rfl) (Nat.le_refl _) (Nat.le_refl _) ?_
  refine pm_wk [0, 1] rfl ?_
  exact Mo_holds_n5 g d R hR J _ _   _ _ _ _ _ hp.2 (ho.trans (by first | (simp only [fMo_holds]; done) | (simp only [fMo_holds]; with_reducible rfl) | with_reducible rfl)) (hz.trans (by first | (simp only [fMo_holds]; done) | (simp only [fMo_holds]; with_reducible rfl) | with_reducible rfl))
set_option maxHeartbeats 4000000 in
set_option maxRecDepth 100000 in
theorem Mo_holds_ok (g : pmG) (d : Nat) (R : Nat → Nat → Value) (hR : mk_R R)  (x0 : Int32) (I : Nat → Nat → Int32) (B : Nat → Value) (E : List (Nat × Nat)) (J : Nat → Nat → Int64) (hp : pMo_holds x0 I B E) : pmC g kMo_holds (d + 2) 0 0 [.ref 40, .int x0] (mk_K ++ E, mk_B R B, I, J) (.returned (some (.int (fMo_holds x0 I B E).1))) (mk_K ++ E, mk_B R B, (fMo_holds x0 I B E).2, J) :=
  pmC.of (by decide) (Nat.le_of_ble_eq_true rfl) (Mo_holds_n0 g d R hR J _ _  x0 I B E hp rfl rfl)
def fMo_states_36 (r14 : Int32 → Int32 → Int32 → (Nat → Nat → Int32) → (Nat → Value) → (List (Nat × Nat)) → Int32 × (Nat → Nat → Int32)) (y1 : Int32) (y2 : Int32) (y3 : Int32) (I : Nat → Nat → Int32) (B : Nat → Value) (E : List (Nat × Nat)) : Int32 × (Nat → Nat → Int32) :=
  r14 y1 y2 (y3 + Int32.ofInt 1) I B E
def pMo_states_36 (q14 : Int32 → Int32 → Int32 → (Nat → Nat → Int32) → (Nat → Value) → (List (Nat × Nat)) → Prop) (y1 : Int32) (y2 : Int32) (y3 : Int32) (I : Nat → Nat → Int32) (B : Nat → Value) (E : List (Nat × Nat)) : Prop :=
  q14 y1 y2 (y3 + Int32.ofInt 1) I B E
def fMo_states_14  : Nat → Int32 → Int32 → Int32 → (Nat → Nat → Int32) → (Nat → Value) → List (Nat × Nat) → Int32 × (Nat → Nat → Int32)
  | 0, _, _, _, I, _, _ => (0, I)
  | n + 1, y1, y2, y3, I, B, E =>
  if ((fMo_all I)) ≤ y3 then (y2, I)
  else if (I (323 + y1.toNatClampNeg) y3.toNatClampNeg) = 0 then fMo_states_36 (fMo_states_14 n) y1 y2 y3 I B E
    else fMo_states_36 (fMo_states_14 n) y1 (y2 + Int32.ofInt 1) y3 I B E
def pMo_states_14  : Nat → Int32 → Int32 → Int32 → (Nat → Nat → Int32) → (Nat → Value) → List (Nat × Nat) → Prop
  | 0, _, _, _, _, _, _ => False
  | n + 1, y1, y2, y3, I, B, E =>
  (pMo_all I) ∧ ((((fMo_all I)) ≤ y3 → True) ∧
  (¬ (((fMo_all I)) ≤ y3) → (vp_in y1 30) ∧ ((vp_in y3 256) ∧ (((I (323 + y1.toNatClampNeg) y3.toNatClampNeg) = 0 → pMo_states_36 (pMo_states_14 n) y1 y2 y3 I B E) ∧
    (¬ ((I (323 + y1.toNatClampNeg) y3.toNatClampNeg) = 0) → pMo_states_36 (pMo_states_14 n) y1 (y2 + Int32.ofInt 1) y3 I B E)))))
def fMo_states_5 (n14 : Nat) (y1 : Int32) (z0 : Int32) (I : Nat → Nat → Int32) (B : Nat → Value) (E : List (Nat × Nat)) : Int32 × (Nat → Nat → Int32) :=
  if z0 = 0 then fMo_states_14 n14 y1 (0 : Int32) (0 : Int32) I B E
  else ((0 : Int32), I)
def pMo_states_5 (n14 : Nat) (y1 : Int32) (z0 : Int32) (I : Nat → Nat → Int32) (B : Nat → Value) (E : List (Nat × Nat)) : Prop :=
  (z0 = 0 → pMo_states_14 n14 y1 (0 : Int32) (0 : Int32) I B E) ∧
  (¬ (z0 = 0) → True)
def fMo_states (n14 : Nat) (y1 : Int32) (I : Nat → Nat → Int32) (B : Nat → Value) (E : List (Nat × Nat)) : Int32 × (Nat → Nat → Int32) :=
  fMo_states_5 n14 y1 ((fMo_noSpec y1 I).1) ((fMo_noSpec y1 I).2) B E
def pMo_states (n14 : Nat) (y1 : Int32) (I : Nat → Nat → Int32) (B : Nat → Value) (E : List (Nat × Nat)) : Prop :=
  (pMo_noSpec y1 I) ∧ (pMo_states_5 n14 y1 ((fMo_noSpec y1 I).1) ((fMo_noSpec y1 I).2) B E)
set_option maxHeartbeats 4000000 in
set_option maxRecDepth 100000 in
theorem Mo_states_n36 (g : pmG) (d : Nat) (R : Nat → Nat → Value) (hR : mk_R R) (J : Nat → Nat → Int64) (o : Outcome) (Z : pmM) (r14 : Int32 → Int32 → Int32 → (Nat → Nat → Int32) → (Nat → Value) → (List (Nat × Nat)) → Int32 × (Nat → Nat → Int32)) (q14 : Int32 → Int32 → Int32 → (Nat → Nat → Int32) → (Nat → Value) → (List (Nat × Nat)) → Prop) (ih14 : ∀ (y1 : Int32) (y2 : Int32) (y3 : Int32) (I : Nat → Nat → Int32) (B : Nat → Value) (E : List (Nat × Nat)), q14 y1 y2 y3 I B E → o = .returned (some (.int (r14 y1 y2 y3 I B E).1)) → Z = (mk_K ++ E, mk_B R B, (r14 y1 y2 y3 I B E).2, J) → pmE g kMo_states (d + 2) 0 0 14 [(0, .ref 40), (1, .int y1), (2, .int y2), (3, .int y3)] [] (mk_K ++ E) (mk_B R B) I J o Z)  (y1 : Int32) (y2 : Int32) (y3 : Int32) (I : Nat → Nat → Int32) (B : Nat → Value) (E : List (Nat × Nat)) (hp : pMo_states_36 q14 y1 y2 y3 I B E) (ho : o = .returned (some (.int (fMo_states_36 r14 y1 y2 y3 I B E).1))) (hz : Z = (mk_K ++ E, mk_B R B, (fMo_states_36 r14 y1 y2 y3 I B E).2, J)) : pmE g kMo_states (d + 2) 0 0 36 [(0, .ref 40), (1, .int y1), (2, .int y2), (3, .int y3)] [] (mk_K ++ E) (mk_B R B) I J o Z := by
  unfold pMo_states_36 at hp
  refine pm_iinc dMo_states_36 rfl (by decide) rfl ?_
  refine pm_goto 14 dMo_states_39 (by decide) ?_
  refine pm_wk [1, 2, 3, 0] rfl ?_
  exact ih14 _ _ _ _ _ _ hp (ho.trans (by first | (simp only [fMo_states_36]; done) | (simp only [fMo_states_36]; with_reducible rfl) | with_reducible rfl)) (hz.trans (by first | (simp only [fMo_states_36]; done) | (simp only [fMo_states_36]; with_reducible rfl) | with_reducible rfl))
set_option maxHeartbeats 4000000 in
set_option maxRecDepth 100000 in
theorem Mo_states_n14 (g : pmG) (d : Nat) (R : Nat → Nat → Value) (hR : mk_R R) (J : Nat → Nat → Int64) (o : Outcome) (Z : pmM)  : ∀ (n : Nat) (y1 : Int32) (y2 : Int32) (y3 : Int32) (I : Nat → Nat → Int32) (B : Nat → Value) (E : List (Nat × Nat)), pMo_states_14 n y1 y2 y3 I B E → o = .returned (some (.int (fMo_states_14 n y1 y2 y3 I B E).1)) → Z = (mk_K ++ E, mk_B R B, (fMo_states_14 n y1 y2 y3 I B E).2, J) → pmE g kMo_states (d + 2) 0 0 14 [(0, .ref 40), (1, .int y1), (2, .int y2), (3, .int y3)] [] (mk_K ++ E) (mk_B R B) I J o Z := by
  intro n
  induction n with
  | zero => intro y1 y2 y3 I B E hp; exact False.elim hp
  | succ n ih =>
  intro y1 y2 y3 I B E hp ho hz
  simp only [pMo_states_14] at hp
  refine pm_iload_n dMo_states_14 rfl ?_
  refine pm_aload_n dMo_states_15 rfl ?_
  refine pm_callV dMo_states_16 lMo_345 vMo_all ⟨_, _, rfl⟩ (Mo_all_ok _ _ _ _ (mk_RB hR _)  _ _ hp.1) rfl rfl rfl (Nat.le_of_ble_eq_true rfl) (Nat.le_refl _) (Nat.le_refl _) ?_
  refine pm_icmp_ge 42 dMo_states_19 (by decide) (fun h19 => ?_) (fun h19 => ?_)
  ·
    refine pm_iload_n dMo_states_42 rfl ?_
    exact pm_iret dMo_states_43 rfl (ho.trans (by first | (simp only [fMo_states_14, if_pos h19]; done) | (simp only [fMo_states_14, if_pos h19]; with_reducible rfl) | with_reducible rfl)) (hz.trans (by first | (simp only [fMo_states_14, if_pos h19]; done) | (simp only [fMo_states_14, if_pos h19]; with_reducible rfl) | with_reducible rfl))
  ·
    refine pm_aload_n dMo_states_22 rfl ?_
    refine pm_getr dMo_states_23 fMo_155 rfl (rr_40_45 (mk_RB hR _)) ?_
    refine pm_iload_n dMo_states_26 rfl ?_
    have hq27 := (hp.2.2 h19).1
    refine pm_aald dMo_states_27 rfl (Or.inr rfl) (hp.2.2 h19).1 ((mk_RB hR _).2.2 _ (vp_lt (hp.2.2 h19).1)) (Or.inr ⟨_, rfl⟩) ?_
    refine pm_iload_n dMo_states_28 rfl ?_
    refine pm_zald dMo_states_29 (mk_fS _ (vp_lt hq27)) (hp.2.2 h19).2.1 ?_
    refine pm_if_eq 36 dMo_states_30 (by decide) (fun h30 => ?_) (fun h30 => ?_)
    ·
      refine pm_wk [0, 1, 2, 3] rfl ?_
      exact Mo_states_n36 g d R hR J _ _ (fMo_states_14 n) (pMo_states_14 n) ih  _ _ _ _ _ _ ((hp.2.2 h19).2.2.1 h30) (ho.trans (by first | (simp only [fMo_states_14, if_neg h19, if_pos h30]; done) | (simp only [fMo_states_14, if_neg h19, if_pos h30]; with_reducible rfl) | with_reducible rfl)) (hz.trans (by first | (simp only [fMo_states_14, if_neg h19, if_pos h30]; done) | (simp only [fMo_states_14, if_neg h19, if_pos h30]; with_reducible rfl) | with_reducible rfl))
    ·
      refine pm_iinc dMo_states_33 rfl (by decide) rfl ?_
      refine pm_wk [1, 2, 0, 3] rfl ?_
      exact Mo_states_n36 g d R hR J _ _ (fMo_states_14 n) (pMo_states_14 n) ih  _ _ _ _ _ _ ((hp.2.2 h19).2.2.2 h30) (ho.trans (by first | (simp only [fMo_states_14, if_neg h19, if_neg h30]; done) | (simp only [fMo_states_14, if_neg h19, if_neg h30]; with_reducible rfl) | with_reducible rfl)) (hz.trans (by first | (simp only [fMo_states_14, if_neg h19, if_neg h30]; done) | (simp only [fMo_states_14, if_neg h19, if_neg h30]; with_reducible rfl) | with_reducible rfl))
set_option maxHeartbeats 4000000 in
set_option maxRecDepth 100000 in
theorem Mo_states_n5 (g : pmG) (d : Nat) (R : Nat → Nat → Value) (hR : mk_R R) (J : Nat → Nat → Int64) (o : Outcome) (Z : pmM) (n14 : Nat) (y1 : Int32) (z0 : Int32) (I : Nat → Nat → Int32) (B : Nat → Value) (E : List (Nat × Nat)) (hp : pMo_states_5 n14 y1 z0 I B E) (ho : o = .returned (some (.int (fMo_states_5 n14 y1 z0 I B E).1))) (hz : Z = (mk_K ++ E, mk_B R B, (fMo_states_5 n14 y1 z0 I B E).2, J)) : pmE g kMo_states (d + 2) 0 0 5 [(0, .ref 40), (1, .int y1)] [.int z0] (mk_K ++ E) (mk_B R B) I J o Z := by
  unfold pMo_states_5 at hp
  refine pm_if_eq 10 dMo_states_5 (by decide) (fun h5 => ?_) (fun h5 => ?_)
  ·
    refine pm_iconst (v := 0) dMo_states_10 (by decide) ?_
    refine pm_istore_n dMo_states_11 (by decide) rfl ?_
    refine pm_iconst (v := 0) dMo_states_12 (by decide) ?_
    refine pm_istore_n dMo_states_13 (by decide) rfl ?_
    refine pm_wk [2, 3, 1, 0] rfl ?_
    exact Mo_states_n14 g d R hR J _ _  n14 _ _ _ _ _ _ (hp.1 h5) (ho.trans (by first | (simp only [fMo_states_5, if_pos h5]; done) | (simp only [fMo_states_5, if_pos h5]; with_reducible rfl) | with_reducible rfl)) (hz.trans (by first | (simp only [fMo_states_5, if_pos h5]; done) | (simp only [fMo_states_5, if_pos h5]; with_reducible rfl) | with_reducible rfl))
  ·
    refine pm_iconst (v := 0) dMo_states_8 (by decide) ?_
    exact pm_iret dMo_states_9 rfl (ho.trans (by first | (simp only [fMo_states_5, if_neg h5]; done) | (simp only [fMo_states_5, if_neg h5]; with_reducible rfl) | with_reducible rfl)) (hz.trans (by first | (simp only [fMo_states_5, if_neg h5]; done) | (simp only [fMo_states_5, if_neg h5]; with_reducible rfl) | with_reducible rfl))
set_option maxHeartbeats 4000000 in
set_option maxRecDepth 100000 in
theorem Mo_states_n0 (g : pmG) (d : Nat) (R : Nat → Nat → Value) (hR : mk_R R) (J : Nat → Nat → Int64) (o : Outcome) (Z : pmM) (n14 : Nat) (y1 : Int32) (I : Nat → Nat → Int32) (B : Nat → Value) (E : List (Nat × Nat)) (hp : pMo_states n14 y1 I B E) (ho : o = .returned (some (.int (fMo_states n14 y1 I B E).1))) (hz : Z = (mk_K ++ E, mk_B R B, (fMo_states n14 y1 I B E).2, J)) : pmE g kMo_states (d + 2) 0 0 0 [(0, .ref 40), (1, .int y1)] [] (mk_K ++ E) (mk_B R B) I J o Z := by
  unfold pMo_states at hp
  refine pm_aload_n dMo_states_0 rfl ?_
  refine pm_iload_n dMo_states_1 rfl ?_
  refine pm_callV dMo_states_2 lMo_372 vMo_noSpec ⟨_, _, rfl⟩ (Mo_noSpec_ok _ _ _ _ (mk_RB hR _) _ _ _ hp.1) rfl rfl rfl (Nat.le_of_ble_eq_true rfl) (Nat.le_refl _) (Nat.le_refl _) ?_
  refine pm_wk [0, 1] rfl ?_
  exact Mo_states_n5 g d R hR J _ _  n14 _ _ _ _ _ hp.2 (ho.trans (by first | (simp only [fMo_states]; done) | (simp only [fMo_states]; with_reducible rfl) | with_reducible rfl)) (hz.trans (by first | (simp only [fMo_states]; done) | (simp only [fMo_states]; with_reducible rfl) | with_reducible rfl))
set_option maxHeartbeats 4000000 in
set_option maxRecDepth 100000 in
theorem Mo_states_ok (g : pmG) (d : Nat) (R : Nat → Nat → Value) (hR : mk_R R) (n14 : Nat) (x0 : Int32) (I : Nat → Nat → Int32) (B : Nat → Value) (E : List (Nat × Nat)) (J : Nat → Nat → Int64) (hp : pMo_states n14 x0 I B E) : pmC g kMo_states (d + 2) 0 0 [.ref 40, .int x0] (mk_K ++ E, mk_B R B, I, J) (.returned (some (.int (fMo_states n14 x0 I B E).1))) (mk_K ++ E, mk_B R B, (fMo_states n14 x0 I B E).2, J) :=
  pmC.of (by decide) (Nat.le_of_ble_eq_true rfl) (Mo_states_n0 g d R hR J _ _ n14 x0 I B E hp rfl rfl)
def fMo_at_33  (y1 : Int32) (y2 : Int32) (I : Nat → Nat → Int32) (B : Nat → Value) (E : List (Nat × Nat)) : Int32 × (Nat → Nat → Int32) :=
  ((0 : Int32), I)
def pMo_at_33  (y1 : Int32) (y2 : Int32) (I : Nat → Nat → Int32) (B : Nat → Value) (E : List (Nat × Nat)) : Prop :=
  True
def fMo_at_30  (y1 : Int32) (y2 : Int32) (z0 : Int32) (I : Nat → Nat → Int32) (B : Nat → Value) (E : List (Nat × Nat)) : Int32 × (Nat → Nat → Int32) :=
  if z0 = 0 then (I (323 + y1.toNatClampNeg) y2.toNatClampNeg, I)
  else fMo_at_33 y1 y2 I B E
def pMo_at_30  (y1 : Int32) (y2 : Int32) (z0 : Int32) (I : Nat → Nat → Int32) (B : Nat → Value) (E : List (Nat × Nat)) : Prop :=
  (z0 = 0 → (vp_in y1 30) ∧ ((vp_in y2 256) ∧ (narrow .boolean (.int (I (323 + y1.toNatClampNeg) y2.toNatClampNeg)) = .int (I (323 + y1.toNatClampNeg) y2.toNatClampNeg)))) ∧
  (¬ (z0 = 0) → pMo_at_33 y1 y2 I B E)
def fMo_at_27  (y1 : Int32) (y2 : Int32) (z1 : Int32) (z2 : Int32) (I : Nat → Nat → Int32) (B : Nat → Value) (E : List (Nat × Nat)) : Int32 × (Nat → Nat → Int32) :=
  fMo_at_30 y1 y2 ((fMo_refuse z1 z2 I).1) ((fMo_refuse z1 z2 I).2) B E
def pMo_at_27  (y1 : Int32) (y2 : Int32) (z1 : Int32) (z2 : Int32) (I : Nat → Nat → Int32) (B : Nat → Value) (E : List (Nat × Nat)) : Prop :=
  (pMo_refuse z1 z2 I) ∧ (pMo_at_30 y1 y2 ((fMo_refuse z1 z2 I).1) ((fMo_refuse z1 z2 I).2) B E)
def fMo_at_22  (y1 : Int32) (y2 : Int32) (z1 : Int32) (I : Nat → Nat → Int32) (B : Nat → Value) (E : List (Nat × Nat)) : Int32 × (Nat → Nat → Int32) :=
  fMo_at_27 y1 y2 z1 (1 : Int32) I B E
def pMo_at_22  (y1 : Int32) (y2 : Int32) (z1 : Int32) (I : Nat → Nat → Int32) (B : Nat → Value) (E : List (Nat × Nat)) : Prop :=
  pMo_at_27 y1 y2 z1 (1 : Int32) I B E
def fMo_at_5  (y1 : Int32) (y2 : Int32) (z0 : Int32) (I : Nat → Nat → Int32) (B : Nat → Value) (E : List (Nat × Nat)) : Int32 × (Nat → Nat → Int32) :=
  if z0 = 0 then if y2 < 0 then fMo_at_22 y1 y2 (1 : Int32) I B E
    else if y2 < ((fMo_all I)) then fMo_at_27 y1 y2 (1 : Int32) (0 : Int32) I B E
      else fMo_at_22 y1 y2 (1 : Int32) I B E
  else fMo_at_33 y1 y2 I B E
def pMo_at_5  (y1 : Int32) (y2 : Int32) (z0 : Int32) (I : Nat → Nat → Int32) (B : Nat → Value) (E : List (Nat × Nat)) : Prop :=
  (z0 = 0 → (y2 < 0 → pMo_at_22 y1 y2 (1 : Int32) I B E) ∧
    (¬ (y2 < 0) → (pMo_all I) ∧ ((y2 < ((fMo_all I)) → pMo_at_27 y1 y2 (1 : Int32) (0 : Int32) I B E) ∧
      (¬ (y2 < ((fMo_all I))) → pMo_at_22 y1 y2 (1 : Int32) I B E)))) ∧
  (¬ (z0 = 0) → pMo_at_33 y1 y2 I B E)
def fMo_at  (y1 : Int32) (y2 : Int32) (I : Nat → Nat → Int32) (B : Nat → Value) (E : List (Nat × Nat)) : Int32 × (Nat → Nat → Int32) :=
  fMo_at_5 y1 y2 ((fMo_noSpec y1 I).1) ((fMo_noSpec y1 I).2) B E
def pMo_at  (y1 : Int32) (y2 : Int32) (I : Nat → Nat → Int32) (B : Nat → Value) (E : List (Nat × Nat)) : Prop :=
  (pMo_noSpec y1 I) ∧ (pMo_at_5 y1 y2 ((fMo_noSpec y1 I).1) ((fMo_noSpec y1 I).2) B E)
set_option maxHeartbeats 4000000 in
set_option maxRecDepth 100000 in
theorem Mo_at_n33 (g : pmG) (d : Nat) (R : Nat → Nat → Value) (hR : mk_R R) (J : Nat → Nat → Int64) (o : Outcome) (Z : pmM)  (y1 : Int32) (y2 : Int32) (I : Nat → Nat → Int32) (B : Nat → Value) (E : List (Nat × Nat)) (hp : pMo_at_33 y1 y2 I B E) (ho : o = .returned (some (.int (fMo_at_33 y1 y2 I B E).1))) (hz : Z = (mk_K ++ E, mk_B R B, (fMo_at_33 y1 y2 I B E).2, J)) : pmE g kMo_at (d + 2) 0 0 33 [(0, .ref 40), (1, .int y1), (2, .int y2)] [] (mk_K ++ E) (mk_B R B) I J o Z := by
  unfold pMo_at_33 at hp
  refine pm_iconst (v := 0) dMo_at_33 (by decide) ?_
  exact pm_zret dMo_at_34 rfl (by first | rfl | decide) (ho.trans (by first | (simp only [fMo_at_33]; done) | (simp only [fMo_at_33]; with_reducible rfl) | with_reducible rfl)) (hz.trans (by first | (simp only [fMo_at_33]; done) | (simp only [fMo_at_33]; with_reducible rfl) | with_reducible rfl))
set_option maxHeartbeats 4000000 in
set_option maxRecDepth 100000 in
theorem Mo_at_n30 (g : pmG) (d : Nat) (R : Nat → Nat → Value) (hR : mk_R R) (J : Nat → Nat → Int64) (o : Outcome) (Z : pmM)  (y1 : Int32) (y2 : Int32) (z0 : Int32) (I : Nat → Nat → Int32) (B : Nat → Value) (E : List (Nat × Nat)) (hp : pMo_at_30 y1 y2 z0 I B E) (ho : o = .returned (some (.int (fMo_at_30 y1 y2 z0 I B E).1))) (hz : Z = (mk_K ++ E, mk_B R B, (fMo_at_30 y1 y2 z0 I B E).2, J)) : pmE g kMo_at (d + 2) 0 0 30 [(0, .ref 40), (1, .int y1), (2, .int y2)] [.int z0] (mk_K ++ E) (mk_B R B) I J o Z := by
  unfold pMo_at_30 at hp
  refine pm_if_eq 35 dMo_at_30 (by decide) (fun h30 => ?_) (fun h30 => ?_)
  ·
    refine pm_aload_n dMo_at_35 rfl ?_
    refine pm_getr dMo_at_36 fMo_155 rfl (rr_40_45 (mk_RB hR _)) ?_
    refine pm_iload_n dMo_at_39 rfl ?_
    have hq40 := (hp.1 h30).1
    refine pm_aald dMo_at_40 rfl (Or.inr rfl) (hp.1 h30).1 ((mk_RB hR _).2.2 _ (vp_lt (hp.1 h30).1)) (Or.inr ⟨_, rfl⟩) ?_
    refine pm_iload_n dMo_at_41 rfl ?_
    refine pm_zald dMo_at_42 (mk_fS _ (vp_lt hq40)) (hp.1 h30).2.1 ?_
    exact pm_zret dMo_at_43 rfl (hp.1 h30).2.2 (ho.trans (by first | (simp only [fMo_at_30, if_pos h30]; done) | (simp only [fMo_at_30, if_pos h30]; with_reducible rfl) | with_reducible rfl)) (hz.trans (by first | (simp only [fMo_at_30, if_pos h30]; done) | (simp only [fMo_at_30, if_pos h30]; with_reducible rfl) | with_reducible rfl))
  ·
    refine pm_wk [0, 1, 2] rfl ?_
    exact Mo_at_n33 g d R hR J _ _   _ _ _ _ _ (hp.2 h30) (ho.trans (by first | (simp only [fMo_at_30, if_neg h30]; done) | (simp only [fMo_at_30, if_neg h30]; with_reducible rfl) | with_reducible rfl)) (hz.trans (by first | (simp only [fMo_at_30, if_neg h30]; done) | (simp only [fMo_at_30, if_neg h30]; with_reducible rfl) | with_reducible rfl))
set_option maxHeartbeats 4000000 in
set_option maxRecDepth 100000 in
theorem Mo_at_n27 (g : pmG) (d : Nat) (R : Nat → Nat → Value) (hR : mk_R R) (J : Nat → Nat → Int64) (o : Outcome) (Z : pmM)  (y1 : Int32) (y2 : Int32) (z1 : Int32) (z2 : Int32) (I : Nat → Nat → Int32) (B : Nat → Value) (E : List (Nat × Nat)) (hp : pMo_at_27 y1 y2 z1 z2 I B E) (ho : o = .returned (some (.int (fMo_at_27 y1 y2 z1 z2 I B E).1))) (hz : Z = (mk_K ++ E, mk_B R B, (fMo_at_27 y1 y2 z1 z2 I B E).2, J)) : pmE g kMo_at (d + 2) 0 0 27 [(0, .ref 40), (1, .int y1), (2, .int y2)] [.int z2, .int z1, .ref 40] (mk_K ++ E) (mk_B R B) I J o Z := by
  unfold pMo_at_27 at hp
  refine pm_callV dMo_at_27 lMo_180 vMo_refuse ⟨_, _, rfl⟩ (Mo_refuse_ok _ _ _ _ (mk_RB hR _) _ _ _ _ hp.1) rfl rfl rfl (Nat.le_of_ble_eq_true rfl) (Nat.le_refl _) (Nat.le_refl _) ?_
  refine pm_wk [0, 1, 2] rfl ?_
  exact Mo_at_n30 g d R hR J _ _   _ _ _ _ _ _ hp.2 (ho.trans (by first | (simp only [fMo_at_27]; done) | (simp only [fMo_at_27]; with_reducible rfl) | with_reducible rfl)) (hz.trans (by first | (simp only [fMo_at_27]; done) | (simp only [fMo_at_27]; with_reducible rfl) | with_reducible rfl))
set_option maxHeartbeats 4000000 in
set_option maxRecDepth 100000 in
theorem Mo_at_n22 (g : pmG) (d : Nat) (R : Nat → Nat → Value) (hR : mk_R R) (J : Nat → Nat → Int64) (o : Outcome) (Z : pmM)  (y1 : Int32) (y2 : Int32) (z1 : Int32) (I : Nat → Nat → Int32) (B : Nat → Value) (E : List (Nat × Nat)) (hp : pMo_at_22 y1 y2 z1 I B E) (ho : o = .returned (some (.int (fMo_at_22 y1 y2 z1 I B E).1))) (hz : Z = (mk_K ++ E, mk_B R B, (fMo_at_22 y1 y2 z1 I B E).2, J)) : pmE g kMo_at (d + 2) 0 0 22 [(0, .ref 40), (1, .int y1), (2, .int y2)] [.int z1, .ref 40] (mk_K ++ E) (mk_B R B) I J o Z := by
  unfold pMo_at_22 at hp
  refine pm_iconst (v := 1) dMo_at_22 (by decide) ?_
  refine pm_goto 27 dMo_at_23 (by decide) ?_
  refine pm_wk [0, 1, 2] rfl ?_
  exact Mo_at_n27 g d R hR J _ _   _ _ _ _ _ _ _ hp (ho.trans (by first | (simp only [fMo_at_22]; done) | (simp only [fMo_at_22]; with_reducible rfl) | with_reducible rfl)) (hz.trans (by first | (simp only [fMo_at_22]; done) | (simp only [fMo_at_22]; with_reducible rfl) | with_reducible rfl))
set_option maxHeartbeats 4000000 in
set_option maxRecDepth 100000 in
theorem Mo_at_n5 (g : pmG) (d : Nat) (R : Nat → Nat → Value) (hR : mk_R R) (J : Nat → Nat → Int64) (o : Outcome) (Z : pmM)  (y1 : Int32) (y2 : Int32) (z0 : Int32) (I : Nat → Nat → Int32) (B : Nat → Value) (E : List (Nat × Nat)) (hp : pMo_at_5 y1 y2 z0 I B E) (ho : o = .returned (some (.int (fMo_at_5 y1 y2 z0 I B E).1))) (hz : Z = (mk_K ++ E, mk_B R B, (fMo_at_5 y1 y2 z0 I B E).2, J)) : pmE g kMo_at (d + 2) 0 0 5 [(0, .ref 40), (1, .int y1), (2, .int y2)] [.int z0] (mk_K ++ E) (mk_B R B) I J o Z := by
  unfold pMo_at_5 at hp
  refine pm_if_ne 33 dMo_at_5 (by decide) (fun h5 => ?_) (fun h5 => ?_)
  ·
    refine pm_wk [0, 1, 2] rfl ?_
    exact Mo_at_n33 g d R hR J _ _   _ _ _ _ _ (hp.2 h5) (ho.trans (by first | (simp only [fMo_at_5, if_neg h5]; done) | (simp only [fMo_at_5, if_neg h5]; with_reducible rfl) | with_reducible rfl)) (hz.trans (by first | (simp only [fMo_at_5, if_neg h5]; done) | (simp only [fMo_at_5, if_neg h5]; with_reducible rfl) | with_reducible rfl))
  ·
    refine pm_aload_n dMo_at_8 rfl ?_
    refine pm_iconst (v := 1) dMo_at_9 (by decide) ?_
    refine pm_iload_n dMo_at_10 rfl ?_
    refine pm_if_lt 22 dMo_at_11 (by decide) (fun h11 => ?_) (fun h11 => ?_)
    ·
      refine pm_wk [0, 1, 2] rfl ?_
      exact Mo_at_n22 g d R hR J _ _   _ _ _ _ _ _ ((hp.1 h5).1 h11) (ho.trans (by first | (simp only [fMo_at_5, if_pos h5, if_pos h11]; done) | (simp only [fMo_at_5, if_pos h5, if_pos h11]; with_reducible rfl) | with_reducible rfl)) (hz.trans (by first | (simp only [fMo_at_5, if_pos h5, if_pos h11]; done) | (simp only [fMo_at_5, if_pos h5, if_pos h11]; with_reducible rfl) | with_reducible rfl))
    ·
      refine pm_iload_n dMo_at_14 rfl ?_
      refine pm_aload_n dMo_at_15 rfl ?_
      refine pm_callV dMo_at_16 lMo_345 vMo_all ⟨_, _, rfl⟩ (Mo_all_ok _ _ _ _ (mk_RB hR _)  _ _ ((hp.1 h5).2 h11).1) rfl rfl rfl (Nat.le_of_ble_eq_true rfl) (Nat.le_refl _) (Nat.le_refl _) ?_
      refine pm_icmp_lt 26 dMo_at_19 (by decide) (fun h19 => ?_) (fun h19 => ?_)
      ·
        refine pm_iconst (v := 0) dMo_at_26 (by decide) ?_
        refine pm_wk [0, 1, 2] rfl ?_
        exact Mo_at_n27 g d R hR J _ _   _ _ _ _ _ _ _ (((hp.1 h5).2 h11).2.1 h19) (ho.trans (by first | (simp only [fMo_at_5, if_pos h5, if_neg h11, if_pos h19]; done) | (simp only [fMo_at_5, if_pos h5, if_neg h11, if_pos h19]; with_reducible rfl) | with_reducible rfl)) (hz.trans (by first | (simp only [fMo_at_5, if_pos h5, if_neg h11, if_pos h19]; done) | (simp only [fMo_at_5, if_pos h5, if_neg h11, if_pos h19]; with_reducible rfl) | with_reducible rfl))
      ·
        refine pm_wk [0, 1, 2] rfl ?_
        exact Mo_at_n22 g d R hR J _ _   _ _ _ _ _ _ (((hp.1 h5).2 h11).2.2 h19) (ho.trans (by first | (simp only [fMo_at_5, if_pos h5, if_neg h11, if_neg h19]; done) | (simp only [fMo_at_5, if_pos h5, if_neg h11, if_neg h19]; with_reducible rfl) | with_reducible rfl)) (hz.trans (by first | (simp only [fMo_at_5, if_pos h5, if_neg h11, if_neg h19]; done) | (simp only [fMo_at_5, if_pos h5, if_neg h11, if_neg h19]; with_reducible rfl) | with_reducible rfl))
set_option maxHeartbeats 4000000 in
set_option maxRecDepth 100000 in
theorem Mo_at_n0 (g : pmG) (d : Nat) (R : Nat → Nat → Value) (hR : mk_R R) (J : Nat → Nat → Int64) (o : Outcome) (Z : pmM)  (y1 : Int32) (y2 : Int32) (I : Nat → Nat → Int32) (B : Nat → Value) (E : List (Nat × Nat)) (hp : pMo_at y1 y2 I B E) (ho : o = .returned (some (.int (fMo_at y1 y2 I B E).1))) (hz : Z = (mk_K ++ E, mk_B R B, (fMo_at y1 y2 I B E).2, J)) : pmE g kMo_at (d + 2) 0 0 0 [(0, .ref 40), (1, .int y1), (2, .int y2)] [] (mk_K ++ E) (mk_B R B) I J o Z := by
  unfold pMo_at at hp
  refine pm_aload_n dMo_at_0 rfl ?_
  refine pm_iload_n dMo_at_1 rfl ?_
  refine pm_callV dMo_at_2 lMo_372 vMo_noSpec ⟨_, _, rfl⟩ (Mo_noSpec_ok _ _ _ _ (mk_RB hR _) _ _ _ hp.1) rfl rfl rfl (Nat.le_of_ble_eq_true rfl) (Nat.le_refl _) (Nat.le_refl _) ?_
  refine pm_wk [0, 1, 2] rfl ?_
  exact Mo_at_n5 g d R hR J _ _   _ _ _ _ _ _ hp.2 (ho.trans (by first | (simp only [fMo_at]; done) | (simp only [fMo_at]; with_reducible rfl) | with_reducible rfl)) (hz.trans (by first | (simp only [fMo_at]; done) | (simp only [fMo_at]; with_reducible rfl) | with_reducible rfl))
set_option maxHeartbeats 4000000 in
set_option maxRecDepth 100000 in
theorem Mo_at_ok (g : pmG) (d : Nat) (R : Nat → Nat → Value) (hR : mk_R R)  (x0 : Int32) (x1 : Int32) (I : Nat → Nat → Int32) (B : Nat → Value) (E : List (Nat × Nat)) (J : Nat → Nat → Int64) (hp : pMo_at x0 x1 I B E) : pmC g kMo_at (d + 2) 0 0 [.ref 40, .int x0, .int x1] (mk_K ++ E, mk_B R B, I, J) (.returned (some (.int (fMo_at x0 x1 I B E).1))) (mk_K ++ E, mk_B R B, (fMo_at x0 x1 I B E).2, J) :=
  pmC.of (by decide) (Nat.le_of_ble_eq_true rfl) (Mo_at_n0 g d R hR J _ _  x0 x1 I B E hp rfl rfl)
def fMo_reachable_33 (r7 : Int32 → (Nat → Nat → Int32) → (Nat → Value) → (List (Nat × Nat)) → Int32 × (Nat → Nat → Int32)) (y1 : Int32) (z1 : Int32) (z2 : Int32) (I : Nat → Nat → Int32) (B : Nat → Value) (E : List (Nat × Nat)) : Int32 × (Nat → Nat → Int32) :=
  r7 (y1 + Int32.ofInt 1) (pm_u I 321 z1.toNatClampNeg (vp_nar .boolean z2)) B E
def pMo_reachable_33 (q7 : Int32 → (Nat → Nat → Int32) → (Nat → Value) → (List (Nat × Nat)) → Prop) (y1 : Int32) (z1 : Int32) (z2 : Int32) (I : Nat → Nat → Int32) (B : Nat → Value) (E : List (Nat × Nat)) : Prop :=
  (vp_in z1 256) ∧ (q7 (y1 + Int32.ofInt 1) (pm_u I 321 z1.toNatClampNeg (vp_nar .boolean z2)) B E)
def fMo_reachable_112 (r42 : Int32 → (Nat → Nat → Int32) → (Nat → Value) → (List (Nat × Nat)) → Int32 × (Nat → Nat → Int32)) (r50 : Int32 → Int32 → (Nat → Nat → Int32) → (Nat → Value) → (List (Nat × Nat)) → Int32 × (Nat → Nat → Int32)) (r60 : Int32 → Int32 → Int32 → (Nat → Nat → Int32) → (Nat → Value) → (List (Nat × Nat)) → Int32 × (Nat → Nat → Int32)) (y1 : Int32) (y2 : Int32) (y3 : Int32) (I : Nat → Nat → Int32) (B : Nat → Value) (E : List (Nat × Nat)) : Int32 × (Nat → Nat → Int32) :=
  r60 y1 y2 (y3 + Int32.ofInt 1) I B E
def pMo_reachable_112 (q42 : Int32 → (Nat → Nat → Int32) → (Nat → Value) → (List (Nat × Nat)) → Prop) (q50 : Int32 → Int32 → (Nat → Nat → Int32) → (Nat → Value) → (List (Nat × Nat)) → Prop) (q60 : Int32 → Int32 → Int32 → (Nat → Nat → Int32) → (Nat → Value) → (List (Nat × Nat)) → Prop) (y1 : Int32) (y2 : Int32) (y3 : Int32) (I : Nat → Nat → Int32) (B : Nat → Value) (E : List (Nat × Nat)) : Prop :=
  q60 y1 y2 (y3 + Int32.ofInt 1) I B E
def fMo_reachable_60 (r42 : Int32 → (Nat → Nat → Int32) → (Nat → Value) → (List (Nat × Nat)) → Int32 × (Nat → Nat → Int32)) (r50 : Int32 → Int32 → (Nat → Nat → Int32) → (Nat → Value) → (List (Nat × Nat)) → Int32 × (Nat → Nat → Int32)) : Nat → Int32 → Int32 → Int32 → (Nat → Nat → Int32) → (Nat → Value) → List (Nat × Nat) → Int32 × (Nat → Nat → Int32)
  | 0, _, _, _, I, _, _ => (0, I)
  | n + 1, y1, y2, y3, I, B, E =>
  if ((fMo_allInputs I)) ≤ y3 then r50 y1 (y2 + Int32.ofInt 1) I B E
  else if (I 321 y2.toNatClampNeg) = 0 then fMo_reachable_112 r42 r50 (fMo_reachable_60 r42 r50 n) y1 y2 y3 I B E
    else if (I 321 (I (64 + y2.toNatClampNeg) y3.toNatClampNeg).toNatClampNeg) = 0 then fMo_reachable_112 r42 r50 (fMo_reachable_60 r42 r50 n) (1 : Int32) y2 y3 (pm_u I 321 (I (64 + y2.toNatClampNeg) y3.toNatClampNeg).toNatClampNeg (vp_nar .boolean (1 : Int32))) B E
      else fMo_reachable_112 r42 r50 (fMo_reachable_60 r42 r50 n) y1 y2 y3 I B E
def pMo_reachable_60 (q42 : Int32 → (Nat → Nat → Int32) → (Nat → Value) → (List (Nat × Nat)) → Prop) (q50 : Int32 → Int32 → (Nat → Nat → Int32) → (Nat → Value) → (List (Nat × Nat)) → Prop) : Nat → Int32 → Int32 → Int32 → (Nat → Nat → Int32) → (Nat → Value) → List (Nat × Nat) → Prop
  | 0, _, _, _, _, _, _ => False
  | n + 1, y1, y2, y3, I, B, E =>
  (pMo_allInputs I) ∧ ((((fMo_allInputs I)) ≤ y3 → q50 y1 (y2 + Int32.ofInt 1) I B E) ∧
  (¬ (((fMo_allInputs I)) ≤ y3) → (vp_in y2 256) ∧ (((I 321 y2.toNatClampNeg) = 0 → pMo_reachable_112 q42 q50 (pMo_reachable_60 q42 q50 n) y1 y2 y3 I B E) ∧
    (¬ ((I 321 y2.toNatClampNeg) = 0) → (vp_in y2 256) ∧ ((vp_in y3 8) ∧ ((vp_in (I (64 + y2.toNatClampNeg) y3.toNatClampNeg) 256) ∧ (((I 321 (I (64 + y2.toNatClampNeg) y3.toNatClampNeg).toNatClampNeg) = 0 → (vp_in y2 256) ∧ ((vp_in y3 8) ∧ ((vp_in (I (64 + y2.toNatClampNeg) y3.toNatClampNeg) 256) ∧ (pMo_reachable_112 q42 q50 (pMo_reachable_60 q42 q50 n) (1 : Int32) y2 y3 (pm_u I 321 (I (64 + y2.toNatClampNeg) y3.toNatClampNeg).toNatClampNeg (vp_nar .boolean (1 : Int32))) B E)))) ∧
      (¬ ((I 321 (I (64 + y2.toNatClampNeg) y3.toNatClampNeg).toNatClampNeg) = 0) → pMo_reachable_112 q42 q50 (pMo_reachable_60 q42 q50 n) y1 y2 y3 I B E))))))))
def fMo_reachable_50 (r42 : Int32 → (Nat → Nat → Int32) → (Nat → Value) → (List (Nat × Nat)) → Int32 × (Nat → Nat → Int32)) (n60 : Nat) : Nat → Int32 → Int32 → (Nat → Nat → Int32) → (Nat → Value) → List (Nat × Nat) → Int32 × (Nat → Nat → Int32)
  | 0, _, _, I, _, _ => (0, I)
  | n + 1, y1, y2, I, B, E =>
  if ((fMo_all I)) ≤ y2 then r42 y1 I B E
  else fMo_reachable_60 r42 (fMo_reachable_50 r42 n60 n) n60 y1 y2 (0 : Int32) I B E
def pMo_reachable_50 (q42 : Int32 → (Nat → Nat → Int32) → (Nat → Value) → (List (Nat × Nat)) → Prop) (n60 : Nat) : Nat → Int32 → Int32 → (Nat → Nat → Int32) → (Nat → Value) → List (Nat × Nat) → Prop
  | 0, _, _, _, _, _ => False
  | n + 1, y1, y2, I, B, E =>
  (pMo_all I) ∧ ((((fMo_all I)) ≤ y2 → q42 y1 I B E) ∧
  (¬ (((fMo_all I)) ≤ y2) → pMo_reachable_60 q42 (pMo_reachable_50 q42 n60 n) n60 y1 y2 (0 : Int32) I B E))
def fMo_reachable_151 (r131 : Int32 → Int32 → Int32 → (Nat → Nat → Int32) → (Nat → Value) → (List (Nat × Nat)) → Int32 × (Nat → Nat → Int32)) (y1 : Int32) (y2 : Int32) (y3 : Int32) (I : Nat → Nat → Int32) (B : Nat → Value) (E : List (Nat × Nat)) : Int32 × (Nat → Nat → Int32) :=
  r131 y1 y2 (y3 + Int32.ofInt 1) I B E
def pMo_reachable_151 (q131 : Int32 → Int32 → Int32 → (Nat → Nat → Int32) → (Nat → Value) → (List (Nat × Nat)) → Prop) (y1 : Int32) (y2 : Int32) (y3 : Int32) (I : Nat → Nat → Int32) (B : Nat → Value) (E : List (Nat × Nat)) : Prop :=
  q131 y1 y2 (y3 + Int32.ofInt 1) I B E
def fMo_reachable_131  : Nat → Int32 → Int32 → Int32 → (Nat → Nat → Int32) → (Nat → Value) → List (Nat × Nat) → Int32 × (Nat → Nat → Int32)
  | 0, _, _, _, I, _, _ => (0, I)
  | n + 1, y1, y2, y3, I, B, E =>
  if ((fMo_all I)) ≤ y3 then (y2, I)
  else if (I 321 y3.toNatClampNeg) = 0 then fMo_reachable_151 (fMo_reachable_131 n) y1 y2 y3 I B E
    else fMo_reachable_151 (fMo_reachable_131 n) y1 (y2 + Int32.ofInt 1) y3 I B E
def pMo_reachable_131  : Nat → Int32 → Int32 → Int32 → (Nat → Nat → Int32) → (Nat → Value) → List (Nat × Nat) → Prop
  | 0, _, _, _, _, _, _ => False
  | n + 1, y1, y2, y3, I, B, E =>
  (pMo_all I) ∧ ((((fMo_all I)) ≤ y3 → True) ∧
  (¬ (((fMo_all I)) ≤ y3) → (vp_in y3 256) ∧ (((I 321 y3.toNatClampNeg) = 0 → pMo_reachable_151 (pMo_reachable_131 n) y1 y2 y3 I B E) ∧
    (¬ ((I 321 y3.toNatClampNeg) = 0) → pMo_reachable_151 (pMo_reachable_131 n) y1 (y2 + Int32.ofInt 1) y3 I B E))))
def fMo_reachable_42 (n60 : Nat) (n50 : Nat) (n131 : Nat) : Nat → Int32 → (Nat → Nat → Int32) → (Nat → Value) → List (Nat × Nat) → Int32 × (Nat → Nat → Int32)
  | 0, _, I, _, _ => (0, I)
  | n + 1, y1, I, B, E =>
  if y1 = 0 then fMo_reachable_131 n131 y1 (0 : Int32) (0 : Int32) I B E
  else fMo_reachable_50 (fMo_reachable_42 n60 n50 n131 n) n60 n50 (0 : Int32) (0 : Int32) I B E
def pMo_reachable_42 (n60 : Nat) (n50 : Nat) (n131 : Nat) : Nat → Int32 → (Nat → Nat → Int32) → (Nat → Value) → List (Nat × Nat) → Prop
  | 0, _, _, _, _ => False
  | n + 1, y1, I, B, E =>
  (y1 = 0 → pMo_reachable_131 n131 y1 (0 : Int32) (0 : Int32) I B E) ∧
  (¬ (y1 = 0) → pMo_reachable_50 (pMo_reachable_42 n60 n50 n131 n) n60 n50 (0 : Int32) (0 : Int32) I B E)
def fMo_reachable_7 (n60 : Nat) (n50 : Nat) (n131 : Nat) (n42 : Nat) : Nat → Int32 → (Nat → Nat → Int32) → (Nat → Value) → List (Nat × Nat) → Int32 × (Nat → Nat → Int32)
  | 0, _, I, _, _ => (0, I)
  | n + 1, y1, I, B, E =>
  if ((fMo_all I)) ≤ y1 then fMo_reachable_42 n60 n50 n131 n42 (1 : Int32) I B E
  else if y1 = (I 40 47) then fMo_reachable_33 (fMo_reachable_7 n60 n50 n131 n42 n) y1 y1 (1 : Int32) I B E
    else fMo_reachable_33 (fMo_reachable_7 n60 n50 n131 n42 n) y1 y1 (0 : Int32) I B E
def pMo_reachable_7 (n60 : Nat) (n50 : Nat) (n131 : Nat) (n42 : Nat) : Nat → Int32 → (Nat → Nat → Int32) → (Nat → Value) → List (Nat × Nat) → Prop
  | 0, _, _, _, _ => False
  | n + 1, y1, I, B, E =>
  (pMo_all I) ∧ ((((fMo_all I)) ≤ y1 → pMo_reachable_42 n60 n50 n131 n42 (1 : Int32) I B E) ∧
  (¬ (((fMo_all I)) ≤ y1) → (y1 = (I 40 47) → pMo_reachable_33 (pMo_reachable_7 n60 n50 n131 n42 n) y1 y1 (1 : Int32) I B E) ∧
    (¬ (y1 = (I 40 47)) → pMo_reachable_33 (pMo_reachable_7 n60 n50 n131 n42 n) y1 y1 (0 : Int32) I B E)))
def fMo_reachable (n60 : Nat) (n50 : Nat) (n131 : Nat) (n42 : Nat) (n7 : Nat) (I : Nat → Nat → Int32) (B : Nat → Value) (E : List (Nat × Nat)) : Int32 × (Nat → Nat → Int32) :=
  fMo_reachable_7 n60 n50 n131 n42 n7 (0 : Int32) (pm_u I 40 2 (0 : Int32)) B E
def pMo_reachable (n60 : Nat) (n50 : Nat) (n131 : Nat) (n42 : Nat) (n7 : Nat) (I : Nat → Nat → Int32) (B : Nat → Value) (E : List (Nat × Nat)) : Prop :=
  pMo_reachable_7 n60 n50 n131 n42 n7 (0 : Int32) (pm_u I 40 2 (0 : Int32)) B E
set_option maxHeartbeats 4000000 in
set_option maxRecDepth 100000 in
theorem Mo_reachable_n33 (g : pmG) (d : Nat) (R : Nat → Nat → Value) (hR : mk_R R) (J : Nat → Nat → Int64) (o : Outcome) (Z : pmM) (r7 : Int32 → (Nat → Nat → Int32) → (Nat → Value) → (List (Nat × Nat)) → Int32 × (Nat → Nat → Int32)) (q7 : Int32 → (Nat → Nat → Int32) → (Nat → Value) → (List (Nat × Nat)) → Prop) (ih7 : ∀ (y1 : Int32) (I : Nat → Nat → Int32) (B : Nat → Value) (E : List (Nat × Nat)), q7 y1 I B E → o = .returned (some (.int (r7 y1 I B E).1)) → Z = (mk_K ++ E, mk_B R B, (r7 y1 I B E).2, J) → pmE g kMo_reachable (d + 1) 0 0 7 [(0, .ref 40), (1, .int y1)] [] (mk_K ++ E) (mk_B R B) I J o Z)  (y1 : Int32) (z1 : Int32) (z2 : Int32) (I : Nat → Nat → Int32) (B : Nat → Value) (E : List (Nat × Nat)) (hp : pMo_reachable_33 q7 y1 z1 z2 I B E) (ho : o = .returned (some (.int (fMo_reachable_33 r7 y1 z1 z2 I B E).1))) (hz : Z = (mk_K ++ E, mk_B R B, (fMo_reachable_33 r7 y1 z1 z2 I B E).2, J)) : pmE g kMo_reachable (d + 1) 0 0 33 [(0, .ref 40), (1, .int y1)] [.int z2, .int z1, .ref 321] (mk_K ++ E) (mk_B R B) I J o Z := by
  unfold pMo_reachable_33 at hp
  refine pm_zast dMo_reachable_33 rfl hp.1 ?_
  refine pm_iinc dMo_reachable_34 rfl (by decide) rfl ?_
  refine pm_goto 7 dMo_reachable_37 (by decide) ?_
  refine pm_wk [1, 0] rfl ?_
  exact ih7 _ _ _ _ hp.2 (ho.trans (by first | (simp only [fMo_reachable_33]; done) | (simp only [fMo_reachable_33]; with_reducible rfl) | with_reducible rfl)) (hz.trans (by first | (simp only [fMo_reachable_33]; done) | (simp only [fMo_reachable_33]; with_reducible rfl) | with_reducible rfl))
set_option maxHeartbeats 4000000 in
set_option maxRecDepth 100000 in
theorem Mo_reachable_n112 (g : pmG) (d : Nat) (R : Nat → Nat → Value) (hR : mk_R R) (J : Nat → Nat → Int64) (o : Outcome) (Z : pmM) (r42 : Int32 → (Nat → Nat → Int32) → (Nat → Value) → (List (Nat × Nat)) → Int32 × (Nat → Nat → Int32)) (q42 : Int32 → (Nat → Nat → Int32) → (Nat → Value) → (List (Nat × Nat)) → Prop) (ih42 : ∀ (y1 : Int32) (I : Nat → Nat → Int32) (B : Nat → Value) (E : List (Nat × Nat)), q42 y1 I B E → o = .returned (some (.int (r42 y1 I B E).1)) → Z = (mk_K ++ E, mk_B R B, (r42 y1 I B E).2, J) → pmE g kMo_reachable (d + 1) 0 0 42 [(0, .ref 40), (1, .int y1)] [] (mk_K ++ E) (mk_B R B) I J o Z) (r50 : Int32 → Int32 → (Nat → Nat → Int32) → (Nat → Value) → (List (Nat × Nat)) → Int32 × (Nat → Nat → Int32)) (q50 : Int32 → Int32 → (Nat → Nat → Int32) → (Nat → Value) → (List (Nat × Nat)) → Prop) (ih50 : ∀ (y1 : Int32) (y2 : Int32) (I : Nat → Nat → Int32) (B : Nat → Value) (E : List (Nat × Nat)), q50 y1 y2 I B E → o = .returned (some (.int (r50 y1 y2 I B E).1)) → Z = (mk_K ++ E, mk_B R B, (r50 y1 y2 I B E).2, J) → pmE g kMo_reachable (d + 1) 0 0 50 [(0, .ref 40), (1, .int y1), (2, .int y2)] [] (mk_K ++ E) (mk_B R B) I J o Z) (r60 : Int32 → Int32 → Int32 → (Nat → Nat → Int32) → (Nat → Value) → (List (Nat × Nat)) → Int32 × (Nat → Nat → Int32)) (q60 : Int32 → Int32 → Int32 → (Nat → Nat → Int32) → (Nat → Value) → (List (Nat × Nat)) → Prop) (ih60 : ∀ (y1 : Int32) (y2 : Int32) (y3 : Int32) (I : Nat → Nat → Int32) (B : Nat → Value) (E : List (Nat × Nat)), q60 y1 y2 y3 I B E → o = .returned (some (.int (r60 y1 y2 y3 I B E).1)) → Z = (mk_K ++ E, mk_B R B, (r60 y1 y2 y3 I B E).2, J) → pmE g kMo_reachable (d + 1) 0 0 60 [(0, .ref 40), (1, .int y1), (2, .int y2), (3, .int y3)] [] (mk_K ++ E) (mk_B R B) I J o Z)  (y1 : Int32) (y2 : Int32) (y3 : Int32) (I : Nat → Nat → Int32) (B : Nat → Value) (E : List (Nat × Nat)) (hp : pMo_reachable_112 q42 q50 q60 y1 y2 y3 I B E) (ho : o = .returned (some (.int (fMo_reachable_112 r42 r50 r60 y1 y2 y3 I B E).1))) (hz : Z = (mk_K ++ E, mk_B R B, (fMo_reachable_112 r42 r50 r60 y1 y2 y3 I B E).2, J)) : pmE g kMo_reachable (d + 1) 0 0 112 [(0, .ref 40), (1, .int y1), (2, .int y2), (3, .int y3)] [] (mk_K ++ E) (mk_B R B) I J o Z := by
  unfold pMo_reachable_112 at hp
  refine pm_iinc dMo_reachable_112 rfl (by decide) rfl ?_
  refine pm_goto 60 dMo_reachable_115 (by decide) ?_
  refine pm_wk [1, 2, 3, 0] rfl ?_
  exact ih60 _ _ _ _ _ _ hp (ho.trans (by first | (simp only [fMo_reachable_112]; done) | (simp only [fMo_reachable_112]; with_reducible rfl) | with_reducible rfl)) (hz.trans (by first | (simp only [fMo_reachable_112]; done) | (simp only [fMo_reachable_112]; with_reducible rfl) | with_reducible rfl))
set_option maxHeartbeats 4000000 in
set_option maxRecDepth 100000 in
theorem Mo_reachable_n60 (g : pmG) (d : Nat) (R : Nat → Nat → Value) (hR : mk_R R) (J : Nat → Nat → Int64) (o : Outcome) (Z : pmM) (r42 : Int32 → (Nat → Nat → Int32) → (Nat → Value) → (List (Nat × Nat)) → Int32 × (Nat → Nat → Int32)) (q42 : Int32 → (Nat → Nat → Int32) → (Nat → Value) → (List (Nat × Nat)) → Prop) (ih42 : ∀ (y1 : Int32) (I : Nat → Nat → Int32) (B : Nat → Value) (E : List (Nat × Nat)), q42 y1 I B E → o = .returned (some (.int (r42 y1 I B E).1)) → Z = (mk_K ++ E, mk_B R B, (r42 y1 I B E).2, J) → pmE g kMo_reachable (d + 1) 0 0 42 [(0, .ref 40), (1, .int y1)] [] (mk_K ++ E) (mk_B R B) I J o Z) (r50 : Int32 → Int32 → (Nat → Nat → Int32) → (Nat → Value) → (List (Nat × Nat)) → Int32 × (Nat → Nat → Int32)) (q50 : Int32 → Int32 → (Nat → Nat → Int32) → (Nat → Value) → (List (Nat × Nat)) → Prop) (ih50 : ∀ (y1 : Int32) (y2 : Int32) (I : Nat → Nat → Int32) (B : Nat → Value) (E : List (Nat × Nat)), q50 y1 y2 I B E → o = .returned (some (.int (r50 y1 y2 I B E).1)) → Z = (mk_K ++ E, mk_B R B, (r50 y1 y2 I B E).2, J) → pmE g kMo_reachable (d + 1) 0 0 50 [(0, .ref 40), (1, .int y1), (2, .int y2)] [] (mk_K ++ E) (mk_B R B) I J o Z)  : ∀ (n : Nat) (y1 : Int32) (y2 : Int32) (y3 : Int32) (I : Nat → Nat → Int32) (B : Nat → Value) (E : List (Nat × Nat)), pMo_reachable_60 q42 q50 n y1 y2 y3 I B E → o = .returned (some (.int (fMo_reachable_60 r42 r50 n y1 y2 y3 I B E).1)) → Z = (mk_K ++ E, mk_B R B, (fMo_reachable_60 r42 r50 n y1 y2 y3 I B E).2, J) → pmE g kMo_reachable (d + 1) 0 0 60 [(0, .ref 40), (1, .int y1), (2, .int y2), (3, .int y3)] [] (mk_K ++ E) (mk_B R B) I J o Z := by
  intro n
  induction n with
  | zero => intro y1 y2 y3 I B E hp; exact False.elim hp
  | succ n ih =>
  intro y1 y2 y3 I B E hp ho hz
  simp only [pMo_reachable_60] at hp
  refine pm_iload_n dMo_reachable_60 rfl ?_
  refine pm_aload_n dMo_reachable_61 rfl ?_
  refine pm_callV dMo_reachable_62 lMo_348 vMo_allInputs ⟨_, _, rfl⟩ (Mo_allInputs_ok _ _ _ _ (mk_RB hR _)  _ _ hp.1) rfl rfl rfl (Nat.le_of_ble_eq_true rfl) (Nat.le_refl _) (Nat.le_refl _) ?_
  refine pm_icmp_ge 118 dMo_reachable_65 (by decide) (fun h65 => ?_) (fun h65 => ?_)
  ·
    refine pm_iinc dMo_reachable_118 rfl (by decide) rfl ?_
    refine pm_goto 50 dMo_reachable_121 (by decide) ?_
    refine pm_wk [1, 2, 0] rfl ?_
    exact ih50 _ _ _ _ _ (hp.2.1 h65) (ho.trans (by first | (simp only [fMo_reachable_60, if_pos h65]; done) | (simp only [fMo_reachable_60, if_pos h65]; with_reducible rfl) | with_reducible rfl)) (hz.trans (by first | (simp only [fMo_reachable_60, if_pos h65]; done) | (simp only [fMo_reachable_60, if_pos h65]; with_reducible rfl) | with_reducible rfl))
  ·
    refine pm_aload_n dMo_reachable_68 rfl ?_
    refine pm_getr dMo_reachable_69 fMo_151 rfl (rr_40_44 (mk_RB hR _)) ?_
    refine pm_iload_n dMo_reachable_72 rfl ?_
    refine pm_zald dMo_reachable_73 rfl (hp.2.2 h65).1 ?_
    refine pm_if_eq 112 dMo_reachable_74 (by decide) (fun h74 => ?_) (fun h74 => ?_)
    ·
      refine pm_wk [0, 1, 2, 3] rfl ?_
      exact Mo_reachable_n112 g d R hR J _ _ r42 q42 ih42 r50 q50 ih50 (fMo_reachable_60 r42 r50 n) (pMo_reachable_60 q42 q50 n) ih  _ _ _ _ _ _ ((hp.2.2 h65).2.1 h74) (ho.trans (by first | (simp only [fMo_reachable_60, if_neg h65, if_pos h74]; done) | (simp only [fMo_reachable_60, if_neg h65, if_pos h74]; with_reducible rfl) | with_reducible rfl)) (hz.trans (by first | (simp only [fMo_reachable_60, if_neg h65, if_pos h74]; done) | (simp only [fMo_reachable_60, if_neg h65, if_pos h74]; with_reducible rfl) | with_reducible rfl))
    ·
      refine pm_aload_n dMo_reachable_77 rfl ?_
      refine pm_getr dMo_reachable_78 fMo_151 rfl (rr_40_44 (mk_RB hR _)) ?_
      refine pm_aload_n dMo_reachable_81 rfl ?_
      refine pm_getr dMo_reachable_82 fMo_142 rfl (rr_40_42 (mk_RB hR _)) ?_
      refine pm_iload_n dMo_reachable_85 rfl ?_
      have hq86 := ((hp.2.2 h65).2.2 h74).1
      refine pm_aald dMo_reachable_86 rfl (Or.inl rfl) ((hp.2.2 h65).2.2 h74).1 ((mk_RB hR _).2.1 _ (vp_lt ((hp.2.2 h65).2.2 h74).1)) (Or.inr ⟨_, rfl⟩) ?_
      refine pm_iload_n dMo_reachable_87 rfl ?_
      refine pm_iald dMo_reachable_88 (mk_fA _ (vp_lt hq86)) ((hp.2.2 h65).2.2 h74).2.1 ?_
      refine pm_zald dMo_reachable_89 rfl ((hp.2.2 h65).2.2 h74).2.2.1 ?_
      refine pm_if_eq 96 dMo_reachable_90 (by decide) (fun h90 => ?_) (fun h90 => ?_)
      ·
        refine pm_aload_n dMo_reachable_96 rfl ?_
        refine pm_getr dMo_reachable_97 fMo_151 rfl (rr_40_44 (mk_RB hR _)) ?_
        refine pm_aload_n dMo_reachable_100 rfl ?_
        refine pm_getr dMo_reachable_101 fMo_142 rfl (rr_40_42 (mk_RB hR _)) ?_
        refine pm_iload_n dMo_reachable_104 rfl ?_
        have hq105 := (((hp.2.2 h65).2.2 h74).2.2.2.1 h90).1
        refine pm_aald dMo_reachable_105 rfl (Or.inl rfl) (((hp.2.2 h65).2.2 h74).2.2.2.1 h90).1 ((mk_RB hR _).2.1 _ (vp_lt (((hp.2.2 h65).2.2 h74).2.2.2.1 h90).1)) (Or.inr ⟨_, rfl⟩) ?_
        refine pm_iload_n dMo_reachable_106 rfl ?_
        refine pm_iald dMo_reachable_107 (mk_fA _ (vp_lt hq105)) (((hp.2.2 h65).2.2 h74).2.2.2.1 h90).2.1 ?_
        refine pm_iconst (v := 1) dMo_reachable_108 (by decide) ?_
        refine pm_zast dMo_reachable_109 rfl (((hp.2.2 h65).2.2 h74).2.2.2.1 h90).2.2.1 ?_
        refine pm_iconst (v := 1) dMo_reachable_110 (by decide) ?_
        refine pm_istore_n dMo_reachable_111 (by decide) rfl ?_
        refine pm_wk [1, 0, 2, 3] rfl ?_
        exact Mo_reachable_n112 g d R hR J _ _ r42 q42 ih42 r50 q50 ih50 (fMo_reachable_60 r42 r50 n) (pMo_reachable_60 q42 q50 n) ih  _ _ _ _ _ _ (((hp.2.2 h65).2.2 h74).2.2.2.1 h90).2.2.2 (ho.trans (by first | (simp only [fMo_reachable_60, if_neg h65, if_neg h74, if_pos h90]; done) | (simp only [fMo_reachable_60, if_neg h65, if_neg h74, if_pos h90]; with_reducible rfl) | with_reducible rfl)) (hz.trans (by first | (simp only [fMo_reachable_60, if_neg h65, if_neg h74, if_pos h90]; done) | (simp only [fMo_reachable_60, if_neg h65, if_neg h74, if_pos h90]; with_reducible rfl) | with_reducible rfl))
      ·
        refine pm_goto 112 dMo_reachable_93 (by decide) ?_
        refine pm_wk [0, 1, 2, 3] rfl ?_
        exact Mo_reachable_n112 g d R hR J _ _ r42 q42 ih42 r50 q50 ih50 (fMo_reachable_60 r42 r50 n) (pMo_reachable_60 q42 q50 n) ih  _ _ _ _ _ _ (((hp.2.2 h65).2.2 h74).2.2.2.2 h90) (ho.trans (by first | (simp only [fMo_reachable_60, if_neg h65, if_neg h74, if_neg h90]; done) | (simp only [fMo_reachable_60, if_neg h65, if_neg h74, if_neg h90]; with_reducible rfl) | with_reducible rfl)) (hz.trans (by first | (simp only [fMo_reachable_60, if_neg h65, if_neg h74, if_neg h90]; done) | (simp only [fMo_reachable_60, if_neg h65, if_neg h74, if_neg h90]; with_reducible rfl) | with_reducible rfl))
set_option maxHeartbeats 4000000 in
set_option maxRecDepth 100000 in
theorem Mo_reachable_n50 (g : pmG) (d : Nat) (R : Nat → Nat → Value) (hR : mk_R R) (J : Nat → Nat → Int64) (o : Outcome) (Z : pmM) (r42 : Int32 → (Nat → Nat → Int32) → (Nat → Value) → (List (Nat × Nat)) → Int32 × (Nat → Nat → Int32)) (q42 : Int32 → (Nat → Nat → Int32) → (Nat → Value) → (List (Nat × Nat)) → Prop) (ih42 : ∀ (y1 : Int32) (I : Nat → Nat → Int32) (B : Nat → Value) (E : List (Nat × Nat)), q42 y1 I B E → o = .returned (some (.int (r42 y1 I B E).1)) → Z = (mk_K ++ E, mk_B R B, (r42 y1 I B E).2, J) → pmE g kMo_reachable (d + 1) 0 0 42 [(0, .ref 40), (1, .int y1)] [] (mk_K ++ E) (mk_B R B) I J o Z) (n60 : Nat) : ∀ (n : Nat) (y1 : Int32) (y2 : Int32) (I : Nat → Nat → Int32) (B : Nat → Value) (E : List (Nat × Nat)), pMo_reachable_50 q42 n60 n y1 y2 I B E → o = .returned (some (.int (fMo_reachable_50 r42 n60 n y1 y2 I B E).1)) → Z = (mk_K ++ E, mk_B R B, (fMo_reachable_50 r42 n60 n y1 y2 I B E).2, J) → pmE g kMo_reachable (d + 1) 0 0 50 [(0, .ref 40), (1, .int y1), (2, .int y2)] [] (mk_K ++ E) (mk_B R B) I J o Z := by
  intro n
  induction n with
  | zero => intro y1 y2 I B E hp; exact False.elim hp
  | succ n ih =>
  intro y1 y2 I B E hp ho hz
  simp only [pMo_reachable_50] at hp
  refine pm_iload_n dMo_reachable_50 rfl ?_
  refine pm_aload_n dMo_reachable_51 rfl ?_
  refine pm_callV dMo_reachable_52 lMo_345 vMo_all ⟨_, _, rfl⟩ (Mo_all_ok _ _ _ _ (mk_RB hR _)  _ _ hp.1) rfl rfl rfl (Nat.le_of_ble_eq_true rfl) (Nat.le_refl _) (Nat.le_refl _) ?_
  refine pm_icmp_ge 124 dMo_reachable_55 (by decide) (fun h55 => ?_) (fun h55 => ?_)
  ·
    refine pm_goto 42 dMo_reachable_124 (by decide) ?_
    refine pm_wk [0, 1] rfl ?_
    exact ih42 _ _ _ _ (hp.2.1 h55) (ho.trans (by first | (simp only [fMo_reachable_50, if_pos h55]; done) | (simp only [fMo_reachable_50, if_pos h55]; with_reducible rfl) | with_reducible rfl)) (hz.trans (by first | (simp only [fMo_reachable_50, if_pos h55]; done) | (simp only [fMo_reachable_50, if_pos h55]; with_reducible rfl) | with_reducible rfl))
  ·
    refine pm_iconst (v := 0) dMo_reachable_58 (by decide) ?_
    refine pm_istore_n dMo_reachable_59 (by decide) rfl ?_
    refine pm_wk [1, 2, 3, 0] rfl ?_
    exact Mo_reachable_n60 g d R hR J _ _ r42 q42 ih42 (fMo_reachable_50 r42 n60 n) (pMo_reachable_50 q42 n60 n) ih n60 _ _ _ _ _ _ (hp.2.2 h55) (ho.trans (by first | (simp only [fMo_reachable_50, if_neg h55]; done) | (simp only [fMo_reachable_50, if_neg h55]; with_reducible rfl) | with_reducible rfl)) (hz.trans (by first | (simp only [fMo_reachable_50, if_neg h55]; done) | (simp only [fMo_reachable_50, if_neg h55]; with_reducible rfl) | with_reducible rfl))
set_option maxHeartbeats 4000000 in
set_option maxRecDepth 100000 in
theorem Mo_reachable_n151 (g : pmG) (d : Nat) (R : Nat → Nat → Value) (hR : mk_R R) (J : Nat → Nat → Int64) (o : Outcome) (Z : pmM) (r131 : Int32 → Int32 → Int32 → (Nat → Nat → Int32) → (Nat → Value) → (List (Nat × Nat)) → Int32 × (Nat → Nat → Int32)) (q131 : Int32 → Int32 → Int32 → (Nat → Nat → Int32) → (Nat → Value) → (List (Nat × Nat)) → Prop) (ih131 : ∀ (y1 : Int32) (y2 : Int32) (y3 : Int32) (I : Nat → Nat → Int32) (B : Nat → Value) (E : List (Nat × Nat)), q131 y1 y2 y3 I B E → o = .returned (some (.int (r131 y1 y2 y3 I B E).1)) → Z = (mk_K ++ E, mk_B R B, (r131 y1 y2 y3 I B E).2, J) → pmE g kMo_reachable (d + 1) 0 0 131 [(0, .ref 40), (1, .int y1), (2, .int y2), (3, .int y3)] [] (mk_K ++ E) (mk_B R B) I J o Z)  (y1 : Int32) (y2 : Int32) (y3 : Int32) (I : Nat → Nat → Int32) (B : Nat → Value) (E : List (Nat × Nat)) (hp : pMo_reachable_151 q131 y1 y2 y3 I B E) (ho : o = .returned (some (.int (fMo_reachable_151 r131 y1 y2 y3 I B E).1))) (hz : Z = (mk_K ++ E, mk_B R B, (fMo_reachable_151 r131 y1 y2 y3 I B E).2, J)) : pmE g kMo_reachable (d + 1) 0 0 151 [(0, .ref 40), (1, .int y1), (2, .int y2), (3, .int y3)] [] (mk_K ++ E) (mk_B R B) I J o Z := by
  unfold pMo_reachable_151 at hp
  refine pm_iinc dMo_reachable_151 rfl (by decide) rfl ?_
  refine pm_goto 131 dMo_reachable_154 (by decide) ?_
  refine pm_wk [1, 2, 3, 0] rfl ?_
  exact ih131 _ _ _ _ _ _ hp (ho.trans (by first | (simp only [fMo_reachable_151]; done) | (simp only [fMo_reachable_151]; with_reducible rfl) | with_reducible rfl)) (hz.trans (by first | (simp only [fMo_reachable_151]; done) | (simp only [fMo_reachable_151]; with_reducible rfl) | with_reducible rfl))
set_option maxHeartbeats 4000000 in
set_option maxRecDepth 100000 in
theorem Mo_reachable_n131 (g : pmG) (d : Nat) (R : Nat → Nat → Value) (hR : mk_R R) (J : Nat → Nat → Int64) (o : Outcome) (Z : pmM)  : ∀ (n : Nat) (y1 : Int32) (y2 : Int32) (y3 : Int32) (I : Nat → Nat → Int32) (B : Nat → Value) (E : List (Nat × Nat)), pMo_reachable_131 n y1 y2 y3 I B E → o = .returned (some (.int (fMo_reachable_131 n y1 y2 y3 I B E).1)) → Z = (mk_K ++ E, mk_B R B, (fMo_reachable_131 n y1 y2 y3 I B E).2, J) → pmE g kMo_reachable (d + 1) 0 0 131 [(0, .ref 40), (1, .int y1), (2, .int y2), (3, .int y3)] [] (mk_K ++ E) (mk_B R B) I J o Z := by
  intro n
  induction n with
  | zero => intro y1 y2 y3 I B E hp; exact False.elim hp
  | succ n ih =>
  intro y1 y2 y3 I B E hp ho hz
  simp only [pMo_reachable_131] at hp
  refine pm_iload_n dMo_reachable_131 rfl ?_
  refine pm_aload_n dMo_reachable_132 rfl ?_
  refine pm_callV dMo_reachable_133 lMo_345 vMo_all ⟨_, _, rfl⟩ (Mo_all_ok _ _ _ _ (mk_RB hR _)  _ _ hp.1) rfl rfl rfl (Nat.le_of_ble_eq_true rfl) (Nat.le_refl _) (Nat.le_refl _) ?_
  refine pm_icmp_ge 157 dMo_reachable_136 (by decide) (fun h136 => ?_) (fun h136 => ?_)
  ·
    refine pm_iload_n dMo_reachable_157 rfl ?_
    exact pm_iret dMo_reachable_158 rfl (ho.trans (by first | (simp only [fMo_reachable_131, if_pos h136]; done) | (simp only [fMo_reachable_131, if_pos h136]; with_reducible rfl) | with_reducible rfl)) (hz.trans (by first | (simp only [fMo_reachable_131, if_pos h136]; done) | (simp only [fMo_reachable_131, if_pos h136]; with_reducible rfl) | with_reducible rfl))
  ·
    refine pm_aload_n dMo_reachable_139 rfl ?_
    refine pm_getr dMo_reachable_140 fMo_151 rfl (rr_40_44 (mk_RB hR _)) ?_
    refine pm_iload_n dMo_reachable_143 rfl ?_
    refine pm_zald dMo_reachable_144 rfl (hp.2.2 h136).1 ?_
    refine pm_if_eq 151 dMo_reachable_145 (by decide) (fun h145 => ?_) (fun h145 => ?_)
    ·
      refine pm_wk [0, 1, 2, 3] rfl ?_
      exact Mo_reachable_n151 g d R hR J _ _ (fMo_reachable_131 n) (pMo_reachable_131 n) ih  _ _ _ _ _ _ ((hp.2.2 h136).2.1 h145) (ho.trans (by first | (simp only [fMo_reachable_131, if_neg h136, if_pos h145]; done) | (simp only [fMo_reachable_131, if_neg h136, if_pos h145]; with_reducible rfl) | with_reducible rfl)) (hz.trans (by first | (simp only [fMo_reachable_131, if_neg h136, if_pos h145]; done) | (simp only [fMo_reachable_131, if_neg h136, if_pos h145]; with_reducible rfl) | with_reducible rfl))
    ·
      refine pm_iinc dMo_reachable_148 rfl (by decide) rfl ?_
      refine pm_wk [1, 2, 0, 3] rfl ?_
      exact Mo_reachable_n151 g d R hR J _ _ (fMo_reachable_131 n) (pMo_reachable_131 n) ih  _ _ _ _ _ _ ((hp.2.2 h136).2.2 h145) (ho.trans (by first | (simp only [fMo_reachable_131, if_neg h136, if_neg h145]; done) | (simp only [fMo_reachable_131, if_neg h136, if_neg h145]; with_reducible rfl) | with_reducible rfl)) (hz.trans (by first | (simp only [fMo_reachable_131, if_neg h136, if_neg h145]; done) | (simp only [fMo_reachable_131, if_neg h136, if_neg h145]; with_reducible rfl) | with_reducible rfl))
set_option maxHeartbeats 4000000 in
set_option maxRecDepth 100000 in
theorem Mo_reachable_n42 (g : pmG) (d : Nat) (R : Nat → Nat → Value) (hR : mk_R R) (J : Nat → Nat → Int64) (o : Outcome) (Z : pmM) (n60 : Nat) (n50 : Nat) (n131 : Nat) : ∀ (n : Nat) (y1 : Int32) (I : Nat → Nat → Int32) (B : Nat → Value) (E : List (Nat × Nat)), pMo_reachable_42 n60 n50 n131 n y1 I B E → o = .returned (some (.int (fMo_reachable_42 n60 n50 n131 n y1 I B E).1)) → Z = (mk_K ++ E, mk_B R B, (fMo_reachable_42 n60 n50 n131 n y1 I B E).2, J) → pmE g kMo_reachable (d + 1) 0 0 42 [(0, .ref 40), (1, .int y1)] [] (mk_K ++ E) (mk_B R B) I J o Z := by
  intro n
  induction n with
  | zero => intro y1 I B E hp; exact False.elim hp
  | succ n ih =>
  intro y1 I B E hp ho hz
  simp only [pMo_reachable_42] at hp
  refine pm_iload_n dMo_reachable_42 rfl ?_
  refine pm_if_eq 127 dMo_reachable_43 (by decide) (fun h43 => ?_) (fun h43 => ?_)
  ·
    refine pm_iconst (v := 0) dMo_reachable_127 (by decide) ?_
    refine pm_istore_n dMo_reachable_128 (by decide) rfl ?_
    refine pm_iconst (v := 0) dMo_reachable_129 (by decide) ?_
    refine pm_istore_n dMo_reachable_130 (by decide) rfl ?_
    refine pm_wk [2, 3, 1, 0] rfl ?_
    exact Mo_reachable_n131 g d R hR J _ _  n131 _ _ _ _ _ _ (hp.1 h43) (ho.trans (by first | (simp only [fMo_reachable_42, if_pos h43]; done) | (simp only [fMo_reachable_42, if_pos h43]; with_reducible rfl) | with_reducible rfl)) (hz.trans (by first | (simp only [fMo_reachable_42, if_pos h43]; done) | (simp only [fMo_reachable_42, if_pos h43]; with_reducible rfl) | with_reducible rfl))
  ·
    refine pm_iconst (v := 0) dMo_reachable_46 (by decide) ?_
    refine pm_istore_n dMo_reachable_47 (by decide) rfl ?_
    refine pm_iconst (v := 0) dMo_reachable_48 (by decide) ?_
    refine pm_istore_n dMo_reachable_49 (by decide) rfl ?_
    refine pm_wk [2, 1, 0] rfl ?_
    exact Mo_reachable_n50 g d R hR J _ _ (fMo_reachable_42 n60 n50 n131 n) (pMo_reachable_42 n60 n50 n131 n) ih n60 n50 _ _ _ _ _ (hp.2 h43) (ho.trans (by first | (simp only [fMo_reachable_42, if_neg h43]; done) | (simp only [fMo_reachable_42, if_neg h43]; with_reducible rfl) | with_reducible rfl)) (hz.trans (by first | (simp only [fMo_reachable_42, if_neg h43]; done) | (simp only [fMo_reachable_42, if_neg h43]; with_reducible rfl) | with_reducible rfl))
set_option maxHeartbeats 4000000 in
set_option maxRecDepth 100000 in
theorem Mo_reachable_n7 (g : pmG) (d : Nat) (R : Nat → Nat → Value) (hR : mk_R R) (J : Nat → Nat → Int64) (o : Outcome) (Z : pmM) (n60 : Nat) (n50 : Nat) (n131 : Nat) (n42 : Nat) : ∀ (n : Nat) (y1 : Int32) (I : Nat → Nat → Int32) (B : Nat → Value) (E : List (Nat × Nat)), pMo_reachable_7 n60 n50 n131 n42 n y1 I B E → o = .returned (some (.int (fMo_reachable_7 n60 n50 n131 n42 n y1 I B E).1)) → Z = (mk_K ++ E, mk_B R B, (fMo_reachable_7 n60 n50 n131 n42 n y1 I B E).2, J) → pmE g kMo_reachable (d + 1) 0 0 7 [(0, .ref 40), (1, .int y1)] [] (mk_K ++ E) (mk_B R B) I J o Z := by
  intro n
  induction n with
  | zero => intro y1 I B E hp; exact False.elim hp
  | succ n ih =>
  intro y1 I B E hp ho hz
  simp only [pMo_reachable_7] at hp
  refine pm_iload_n dMo_reachable_7 rfl ?_
  refine pm_aload_n dMo_reachable_8 rfl ?_
  refine pm_callV dMo_reachable_9 lMo_345 vMo_all ⟨_, _, rfl⟩ (Mo_all_ok _ _ _ _ (mk_RB hR _)  _ _ hp.1) rfl rfl rfl (Nat.le_of_ble_eq_true rfl) (Nat.le_refl _) (Nat.le_refl _) ?_
  refine pm_icmp_ge 40 dMo_reachable_12 (by decide) (fun h12 => ?_) (fun h12 => ?_)
  ·
    refine pm_iconst (v := 1) dMo_reachable_40 (by decide) ?_
    refine pm_istore_n dMo_reachable_41 (by decide) rfl ?_
    refine pm_wk [1, 0] rfl ?_
    exact Mo_reachable_n42 g d R hR J _ _  n60 n50 n131 n42 _ _ _ _ (hp.2.1 h12) (ho.trans (by first | (simp only [fMo_reachable_7, if_pos h12]; done) | (simp only [fMo_reachable_7, if_pos h12]; with_reducible rfl) | with_reducible rfl)) (hz.trans (by first | (simp only [fMo_reachable_7, if_pos h12]; done) | (simp only [fMo_reachable_7, if_pos h12]; with_reducible rfl) | with_reducible rfl))
  ·
    refine pm_aload_n dMo_reachable_15 rfl ?_
    refine pm_getr dMo_reachable_16 fMo_151 rfl (rr_40_44 (mk_RB hR _)) ?_
    refine pm_iload_n dMo_reachable_19 rfl ?_
    refine pm_iload_n dMo_reachable_20 rfl ?_
    refine pm_aload_n dMo_reachable_21 rfl ?_
    refine pm_geti dMo_reachable_22 fMo_161 rfl ?_
    refine pm_icmp_ne 32 dMo_reachable_25 (by decide) (fun h25 => ?_) (fun h25 => ?_)
    ·
      refine pm_iconst (v := 0) dMo_reachable_32 (by decide) ?_
      refine pm_wk [0, 1] rfl ?_
      exact Mo_reachable_n33 g d R hR J _ _ (fMo_reachable_7 n60 n50 n131 n42 n) (pMo_reachable_7 n60 n50 n131 n42 n) ih  _ _ _ _ _ _ ((hp.2.2 h12).2 h25) (ho.trans (by first | (simp only [fMo_reachable_7, if_neg h12, if_neg h25]; done) | (simp only [fMo_reachable_7, if_neg h12, if_neg h25]; with_reducible rfl) | with_reducible rfl)) (hz.trans (by first | (simp only [fMo_reachable_7, if_neg h12, if_neg h25]; done) | (simp only [fMo_reachable_7, if_neg h12, if_neg h25]; with_reducible rfl) | with_reducible rfl))
    ·
      refine pm_iconst (v := 1) dMo_reachable_28 (by decide) ?_
      refine pm_goto 33 dMo_reachable_29 (by decide) ?_
      refine pm_wk [0, 1] rfl ?_
      exact Mo_reachable_n33 g d R hR J _ _ (fMo_reachable_7 n60 n50 n131 n42 n) (pMo_reachable_7 n60 n50 n131 n42 n) ih  _ _ _ _ _ _ ((hp.2.2 h12).1 h25) (ho.trans (by first | (simp only [fMo_reachable_7, if_neg h12, if_pos h25]; done) | (simp only [fMo_reachable_7, if_neg h12, if_pos h25]; with_reducible rfl) | with_reducible rfl)) (hz.trans (by first | (simp only [fMo_reachable_7, if_neg h12, if_pos h25]; done) | (simp only [fMo_reachable_7, if_neg h12, if_pos h25]; with_reducible rfl) | with_reducible rfl))
set_option maxHeartbeats 4000000 in
set_option maxRecDepth 100000 in
theorem Mo_reachable_n0 (g : pmG) (d : Nat) (R : Nat → Nat → Value) (hR : mk_R R) (J : Nat → Nat → Int64) (o : Outcome) (Z : pmM) (n60 : Nat) (n50 : Nat) (n131 : Nat) (n42 : Nat) (n7 : Nat) (I : Nat → Nat → Int32) (B : Nat → Value) (E : List (Nat × Nat)) (hp : pMo_reachable n60 n50 n131 n42 n7 I B E) (ho : o = .returned (some (.int (fMo_reachable n60 n50 n131 n42 n7 I B E).1))) (hz : Z = (mk_K ++ E, mk_B R B, (fMo_reachable n60 n50 n131 n42 n7 I B E).2, J)) : pmE g kMo_reachable (d + 1) 0 0 0 [(0, .ref 40)] [] (mk_K ++ E) (mk_B R B) I J o Z := by
  unfold pMo_reachable at hp
  refine pm_aload_n dMo_reachable_0 rfl ?_
  refine pm_iconst (v := 0) dMo_reachable_1 (by decide) ?_
  refine pm_puti dMo_reachable_2 fMo_18 sMo_18 (fun h => by cases h) rfl rfl rfl ?_
  refine pm_iconst (v := 0) dMo_reachable_5 (by decide) ?_
  refine pm_istore_n dMo_reachable_6 (by decide) rfl ?_
  refine pm_wk [1, 0] rfl ?_
  exact Mo_reachable_n7 g d R hR J _ _  n60 n50 n131 n42 n7 _ _ _ _ hp (ho.trans (by first | (simp only [fMo_reachable]; done) | (simp only [fMo_reachable]; with_reducible rfl) | with_reducible rfl)) (hz.trans (by first | (simp only [fMo_reachable]; done) | (simp only [fMo_reachable]; with_reducible rfl) | with_reducible rfl))
set_option maxHeartbeats 4000000 in
set_option maxRecDepth 100000 in
theorem Mo_reachable_ok (g : pmG) (d : Nat) (R : Nat → Nat → Value) (hR : mk_R R) (n60 : Nat) (n50 : Nat) (n131 : Nat) (n42 : Nat) (n7 : Nat)  (I : Nat → Nat → Int32) (B : Nat → Value) (E : List (Nat × Nat)) (J : Nat → Nat → Int64) (hp : pMo_reachable n60 n50 n131 n42 n7 I B E) : pmC g kMo_reachable (d + 1) 0 0 [.ref 40] (mk_K ++ E, mk_B R B, I, J) (.returned (some (.int (fMo_reachable n60 n50 n131 n42 n7 I B E).1))) (mk_K ++ E, mk_B R B, (fMo_reachable n60 n50 n131 n42 n7 I B E).2, J) :=
  pmC.of (by decide) (Nat.le_of_ble_eq_true rfl) (Mo_reachable_n0 g d R hR J _ _ n60 n50 n131 n42 n7  I B E hp rfl rfl)
def fMo_trace_43 (r12 : Int32 → Int32 → (Nat → Nat → Int32) → (Nat → Value) → (List (Nat × Nat)) → Int32 × (Nat → Nat → Int32)) (y1 : Int32) (y2 : Int32) (z1 : Int32) (z2 : Int32) (I : Nat → Nat → Int32) (B : Nat → Value) (E : List (Nat × Nat)) : Int32 × (Nat → Nat → Int32) :=
  r12 y1 (y2 + Int32.ofInt 1) (pm_u I 353 z1.toNatClampNeg z2) B E
def pMo_trace_43 (q12 : Int32 → Int32 → (Nat → Nat → Int32) → (Nat → Value) → (List (Nat × Nat)) → Prop) (y1 : Int32) (y2 : Int32) (z1 : Int32) (z2 : Int32) (I : Nat → Nat → Int32) (B : Nat → Value) (E : List (Nat × Nat)) : Prop :=
  (vp_in z1 256) ∧ (q12 y1 (y2 + Int32.ofInt 1) (pm_u I 353 z1.toNatClampNeg z2) B E)
def fMo_trace_132 (r52 : Int32 → Int32 → (Nat → Nat → Int32) → (Nat → Value) → (List (Nat × Nat)) → Int32 × (Nat → Nat → Int32)) (r60 : Int32 → Int32 → Int32 → (Nat → Nat → Int32) → (Nat → Value) → (List (Nat × Nat)) → Int32 × (Nat → Nat → Int32)) (r71 : Int32 → Int32 → Int32 → Int32 → (Nat → Nat → Int32) → (Nat → Value) → (List (Nat × Nat)) → Int32 × (Nat → Nat → Int32)) (y1 : Int32) (y2 : Int32) (y3 : Int32) (y4 : Int32) (I : Nat → Nat → Int32) (B : Nat → Value) (E : List (Nat × Nat)) : Int32 × (Nat → Nat → Int32) :=
  r71 y1 y2 y3 (y4 + Int32.ofInt 1) I B E
def pMo_trace_132 (q52 : Int32 → Int32 → (Nat → Nat → Int32) → (Nat → Value) → (List (Nat × Nat)) → Prop) (q60 : Int32 → Int32 → Int32 → (Nat → Nat → Int32) → (Nat → Value) → (List (Nat × Nat)) → Prop) (q71 : Int32 → Int32 → Int32 → Int32 → (Nat → Nat → Int32) → (Nat → Value) → (List (Nat × Nat)) → Prop) (y1 : Int32) (y2 : Int32) (y3 : Int32) (y4 : Int32) (I : Nat → Nat → Int32) (B : Nat → Value) (E : List (Nat × Nat)) : Prop :=
  q71 y1 y2 y3 (y4 + Int32.ofInt 1) I B E
def fMo_trace_71 (r52 : Int32 → Int32 → (Nat → Nat → Int32) → (Nat → Value) → (List (Nat × Nat)) → Int32 × (Nat → Nat → Int32)) (r60 : Int32 → Int32 → Int32 → (Nat → Nat → Int32) → (Nat → Value) → (List (Nat × Nat)) → Int32 × (Nat → Nat → Int32)) : Nat → Int32 → Int32 → Int32 → Int32 → (Nat → Nat → Int32) → (Nat → Value) → List (Nat × Nat) → Int32 × (Nat → Nat → Int32)
  | 0, _, _, _, _, I, _, _ => (0, I)
  | n + 1, y1, y2, y3, y4, I, B, E =>
  if ((fMo_allInputs I)) ≤ y4 then r60 y1 y2 (y3 + Int32.ofInt 1) I B E
  else if ((I 353 (I (64 + y3.toNatClampNeg) y4.toNatClampNeg).toNatClampNeg) + (1 : Int32)) < (I 353 y3.toNatClampNeg) then fMo_trace_132 r52 r60 (fMo_trace_71 r52 r60 n) y1 (1 : Int32) y3 y4 (pm_u I 353 y3.toNatClampNeg ((I 353 (I (64 + y3.toNatClampNeg) y4.toNatClampNeg).toNatClampNeg) + (1 : Int32))) B E
    else fMo_trace_132 r52 r60 (fMo_trace_71 r52 r60 n) y1 y2 y3 y4 I B E
def pMo_trace_71 (q52 : Int32 → Int32 → (Nat → Nat → Int32) → (Nat → Value) → (List (Nat × Nat)) → Prop) (q60 : Int32 → Int32 → Int32 → (Nat → Nat → Int32) → (Nat → Value) → (List (Nat × Nat)) → Prop) : Nat → Int32 → Int32 → Int32 → Int32 → (Nat → Nat → Int32) → (Nat → Value) → List (Nat × Nat) → Prop
  | 0, _, _, _, _, _, _, _ => False
  | n + 1, y1, y2, y3, y4, I, B, E =>
  (pMo_allInputs I) ∧ ((((fMo_allInputs I)) ≤ y4 → q60 y1 y2 (y3 + Int32.ofInt 1) I B E) ∧
  (¬ (((fMo_allInputs I)) ≤ y4) → (vp_in y3 256) ∧ ((vp_in y4 8) ∧ ((vp_in (I (64 + y3.toNatClampNeg) y4.toNatClampNeg) 256) ∧ ((vp_in y3 256) ∧ ((((I 353 (I (64 + y3.toNatClampNeg) y4.toNatClampNeg).toNatClampNeg) + (1 : Int32)) < (I 353 y3.toNatClampNeg) → (vp_in y3 256) ∧ ((vp_in y4 8) ∧ ((vp_in (I (64 + y3.toNatClampNeg) y4.toNatClampNeg) 256) ∧ ((vp_in y3 256) ∧ (pMo_trace_132 q52 q60 (pMo_trace_71 q52 q60 n) y1 (1 : Int32) y3 y4 (pm_u I 353 y3.toNatClampNeg ((I 353 (I (64 + y3.toNatClampNeg) y4.toNatClampNeg).toNatClampNeg) + (1 : Int32))) B E))))) ∧
    (¬ (((I 353 (I (64 + y3.toNatClampNeg) y4.toNatClampNeg).toNatClampNeg) + (1 : Int32)) < (I 353 y3.toNatClampNeg)) → pMo_trace_132 q52 q60 (pMo_trace_71 q52 q60 n) y1 y2 y3 y4 I B E)))))))
def fMo_trace_60 (r52 : Int32 → Int32 → (Nat → Nat → Int32) → (Nat → Value) → (List (Nat × Nat)) → Int32 × (Nat → Nat → Int32)) (n71 : Nat) : Nat → Int32 → Int32 → Int32 → (Nat → Nat → Int32) → (Nat → Value) → List (Nat × Nat) → Int32 × (Nat → Nat → Int32)
  | 0, _, _, _, I, _, _ => (0, I)
  | n + 1, y1, y2, y3, I, B, E =>
  if ((fMo_all I)) ≤ y3 then r52 y1 y2 I B E
  else fMo_trace_71 r52 (fMo_trace_60 r52 n71 n) n71 y1 y2 y3 (0 : Int32) I B E
def pMo_trace_60 (q52 : Int32 → Int32 → (Nat → Nat → Int32) → (Nat → Value) → (List (Nat × Nat)) → Prop) (n71 : Nat) : Nat → Int32 → Int32 → Int32 → (Nat → Nat → Int32) → (Nat → Value) → List (Nat × Nat) → Prop
  | 0, _, _, _, _, _, _ => False
  | n + 1, y1, y2, y3, I, B, E =>
  (pMo_all I) ∧ ((((fMo_all I)) ≤ y3 → q52 y1 y2 I B E) ∧
  (¬ (((fMo_all I)) ≤ y3) → pMo_trace_71 q52 (pMo_trace_60 q52 n71 n) n71 y1 y2 y3 (0 : Int32) I B E))
def fMo_trace_202 (r190 : Int32 → Int32 → Int32 → Int32 → (Nat → Nat → Int32) → (Nat → Value) → (List (Nat × Nat)) → Int32 × (Nat → Nat → Int32)) : Nat → Int32 → Int32 → Int32 → Int32 → Int32 → (Nat → Nat → Int32) → (Nat → Value) → List (Nat × Nat) → Int32 × (Nat → Nat → Int32)
  | 0, _, _, _, _, _, I, _, _ => (0, I)
  | n + 1, y1, y2, y3, y4, y5, I, B, E =>
  if (I 353 (I (64 + y3.toNatClampNeg) y5.toNatClampNeg).toNatClampNeg) = ((I 353 y3.toNatClampNeg) - (1 : Int32)) then r190 y1 y2 ((pm_u (pm_u I 354 y4.toNatClampNeg y3) 355 y4.toNatClampNeg y5) (64 + y3.toNatClampNeg) y5.toNatClampNeg) (y4 + Int32.ofInt 1) (pm_u (pm_u I 354 y4.toNatClampNeg y3) 355 y4.toNatClampNeg y5) B E
  else fMo_trace_202 r190 n y1 y2 y3 y4 (y5 + Int32.ofInt 1) I B E
def pMo_trace_202 (q190 : Int32 → Int32 → Int32 → Int32 → (Nat → Nat → Int32) → (Nat → Value) → (List (Nat × Nat)) → Prop) : Nat → Int32 → Int32 → Int32 → Int32 → Int32 → (Nat → Nat → Int32) → (Nat → Value) → List (Nat × Nat) → Prop
  | 0, _, _, _, _, _, _, _, _ => False
  | n + 1, y1, y2, y3, y4, y5, I, B, E =>
  (vp_in y3 256) ∧ ((vp_in y5 8) ∧ ((vp_in (I (64 + y3.toNatClampNeg) y5.toNatClampNeg) 256) ∧ ((vp_in y3 256) ∧ (((I 353 (I (64 + y3.toNatClampNeg) y5.toNatClampNeg).toNatClampNeg) = ((I 353 y3.toNatClampNeg) - (1 : Int32)) → (vp_in y4 257) ∧ ((vp_in y4 256) ∧ ((vp_in y3 256) ∧ ((vp_in y5 8) ∧ (q190 y1 y2 ((pm_u (pm_u I 354 y4.toNatClampNeg y3) 355 y4.toNatClampNeg y5) (64 + y3.toNatClampNeg) y5.toNatClampNeg) (y4 + Int32.ofInt 1) (pm_u (pm_u I 354 y4.toNatClampNeg y3) 355 y4.toNatClampNeg y5) B E))))) ∧
  (¬ ((I 353 (I (64 + y3.toNatClampNeg) y5.toNatClampNeg).toNatClampNeg) = ((I 353 y3.toNatClampNeg) - (1 : Int32))) → pMo_trace_202 q190 n y1 y2 y3 y4 (y5 + Int32.ofInt 1) I B E)))))
def fMo_trace_190 (n202 : Nat) : Nat → Int32 → Int32 → Int32 → Int32 → (Nat → Nat → Int32) → (Nat → Value) → List (Nat × Nat) → Int32 × (Nat → Nat → Int32)
  | 0, _, _, _, _, I, _, _ => (0, I)
  | n + 1, y1, y2, y3, y4, I, B, E =>
  if (I 40 51) ≤ y4 then (I 40 51, pm_u I 354 (I 40 51).toNatClampNeg y3)
  else fMo_trace_202 (fMo_trace_190 n202 n) n202 y1 y2 y3 y4 (0 : Int32) I B E
def pMo_trace_190 (n202 : Nat) : Nat → Int32 → Int32 → Int32 → Int32 → (Nat → Nat → Int32) → (Nat → Value) → List (Nat × Nat) → Prop
  | 0, _, _, _, _, _, _, _ => False
  | n + 1, y1, y2, y3, y4, I, B, E =>
  ((I 40 51) ≤ y4 → (vp_in (I 40 51) 257) ∧ True) ∧
  (¬ ((I 40 51) ≤ y4) → pMo_trace_202 (pMo_trace_190 n202 n) n202 y1 y2 y3 y4 (0 : Int32) I B E)
def fMo_trace_52 (n71 : Nat) (n60 : Nat) (n202 : Nat) (n190 : Nat) : Nat → Int32 → Int32 → (Nat → Nat → Int32) → (Nat → Value) → List (Nat × Nat) → Int32 × (Nat → Nat → Int32)
  | 0, _, _, I, _, _ => (0, I)
  | n + 1, y1, y2, I, B, E =>
  if y2 = 0 then if (I 353 (I 40 47).toNatClampNeg) = (1000 : Int32) then ((-1 : Int32), I)
    else fMo_trace_190 n202 n190 y1 y2 (I 40 47) (0 : Int32) (pm_u (pm_u I 40 52 (1 : Int32)) 40 51 ((pm_u I 40 52 (1 : Int32)) 353 (I 40 47).toNatClampNeg)) B E
  else fMo_trace_60 (fMo_trace_52 n71 n60 n202 n190 n) n71 n60 y1 (0 : Int32) (0 : Int32) I B E
def pMo_trace_52 (n71 : Nat) (n60 : Nat) (n202 : Nat) (n190 : Nat) : Nat → Int32 → Int32 → (Nat → Nat → Int32) → (Nat → Value) → List (Nat × Nat) → Prop
  | 0, _, _, _, _, _ => False
  | n + 1, y1, y2, I, B, E =>
  (y2 = 0 → (vp_in (I 40 47) 256) ∧ (((I 353 (I 40 47).toNatClampNeg) = (1000 : Int32) → True) ∧
    (¬ ((I 353 (I 40 47).toNatClampNeg) = (1000 : Int32)) → (vp_in (I 40 47) 256) ∧ (pMo_trace_190 n202 n190 y1 y2 (I 40 47) (0 : Int32) (pm_u (pm_u I 40 52 (1 : Int32)) 40 51 ((pm_u I 40 52 (1 : Int32)) 353 (I 40 47).toNatClampNeg)) B E)))) ∧
  (¬ (y2 = 0) → pMo_trace_60 (pMo_trace_52 n71 n60 n202 n190 n) n71 n60 y1 (0 : Int32) (0 : Int32) I B E)
def fMo_trace_12 (n71 : Nat) (n60 : Nat) (n202 : Nat) (n190 : Nat) (n52 : Nat) : Nat → Int32 → Int32 → (Nat → Nat → Int32) → (Nat → Value) → List (Nat × Nat) → Int32 × (Nat → Nat → Int32)
  | 0, _, _, I, _, _ => (0, I)
  | n + 1, y1, y2, I, B, E =>
  if ((fMo_all I)) ≤ y2 then fMo_trace_52 n71 n60 n202 n190 n52 y1 (1 : Int32) I B E
  else if (I (323 + y1.toNatClampNeg) y2.toNatClampNeg) = 0 then fMo_trace_43 (fMo_trace_12 n71 n60 n202 n190 n52 n) y1 y2 y2 (1000 : Int32) I B E
    else fMo_trace_43 (fMo_trace_12 n71 n60 n202 n190 n52 n) y1 y2 y2 (0 : Int32) I B E
def pMo_trace_12 (n71 : Nat) (n60 : Nat) (n202 : Nat) (n190 : Nat) (n52 : Nat) : Nat → Int32 → Int32 → (Nat → Nat → Int32) → (Nat → Value) → List (Nat × Nat) → Prop
  | 0, _, _, _, _, _ => False
  | n + 1, y1, y2, I, B, E =>
  (pMo_all I) ∧ ((((fMo_all I)) ≤ y2 → pMo_trace_52 n71 n60 n202 n190 n52 y1 (1 : Int32) I B E) ∧
  (¬ (((fMo_all I)) ≤ y2) → (vp_in y1 30) ∧ ((vp_in y2 256) ∧ (((I (323 + y1.toNatClampNeg) y2.toNatClampNeg) = 0 → pMo_trace_43 (pMo_trace_12 n71 n60 n202 n190 n52 n) y1 y2 y2 (1000 : Int32) I B E) ∧
    (¬ ((I (323 + y1.toNatClampNeg) y2.toNatClampNeg) = 0) → pMo_trace_43 (pMo_trace_12 n71 n60 n202 n190 n52 n) y1 y2 y2 (0 : Int32) I B E)))))
def fMo_trace_5 (n71 : Nat) (n60 : Nat) (n202 : Nat) (n190 : Nat) (n52 : Nat) (n12 : Nat) (y1 : Int32) (z0 : Int32) (I : Nat → Nat → Int32) (B : Nat → Value) (E : List (Nat × Nat)) : Int32 × (Nat → Nat → Int32) :=
  if z0 = 0 then fMo_trace_12 n71 n60 n202 n190 n52 n12 y1 (0 : Int32) I B E
  else ((0 : Int32), I)
def pMo_trace_5 (n71 : Nat) (n60 : Nat) (n202 : Nat) (n190 : Nat) (n52 : Nat) (n12 : Nat) (y1 : Int32) (z0 : Int32) (I : Nat → Nat → Int32) (B : Nat → Value) (E : List (Nat × Nat)) : Prop :=
  (z0 = 0 → pMo_trace_12 n71 n60 n202 n190 n52 n12 y1 (0 : Int32) I B E) ∧
  (¬ (z0 = 0) → True)
def fMo_trace (n71 : Nat) (n60 : Nat) (n202 : Nat) (n190 : Nat) (n52 : Nat) (n12 : Nat) (y1 : Int32) (I : Nat → Nat → Int32) (B : Nat → Value) (E : List (Nat × Nat)) : Int32 × (Nat → Nat → Int32) :=
  fMo_trace_5 n71 n60 n202 n190 n52 n12 y1 ((fMo_noSpec y1 I).1) ((fMo_noSpec y1 I).2) B E
def pMo_trace (n71 : Nat) (n60 : Nat) (n202 : Nat) (n190 : Nat) (n52 : Nat) (n12 : Nat) (y1 : Int32) (I : Nat → Nat → Int32) (B : Nat → Value) (E : List (Nat × Nat)) : Prop :=
  (pMo_noSpec y1 I) ∧ (pMo_trace_5 n71 n60 n202 n190 n52 n12 y1 ((fMo_noSpec y1 I).1) ((fMo_noSpec y1 I).2) B E)
set_option maxHeartbeats 4000000 in
set_option maxRecDepth 100000 in
theorem Mo_trace_n43 (g : pmG) (d : Nat) (R : Nat → Nat → Value) (hR : mk_R R) (J : Nat → Nat → Int64) (o : Outcome) (Z : pmM) (r12 : Int32 → Int32 → (Nat → Nat → Int32) → (Nat → Value) → (List (Nat × Nat)) → Int32 × (Nat → Nat → Int32)) (q12 : Int32 → Int32 → (Nat → Nat → Int32) → (Nat → Value) → (List (Nat × Nat)) → Prop) (ih12 : ∀ (y1 : Int32) (y2 : Int32) (I : Nat → Nat → Int32) (B : Nat → Value) (E : List (Nat × Nat)), q12 y1 y2 I B E → o = .returned (some (.int (r12 y1 y2 I B E).1)) → Z = (mk_K ++ E, mk_B R B, (r12 y1 y2 I B E).2, J) → pmE g kMo_trace (d + 2) 0 0 12 [(0, .ref 40), (1, .int y1), (2, .int y2)] [] (mk_K ++ E) (mk_B R B) I J o Z)  (y1 : Int32) (y2 : Int32) (z1 : Int32) (z2 : Int32) (I : Nat → Nat → Int32) (B : Nat → Value) (E : List (Nat × Nat)) (hp : pMo_trace_43 q12 y1 y2 z1 z2 I B E) (ho : o = .returned (some (.int (fMo_trace_43 r12 y1 y2 z1 z2 I B E).1))) (hz : Z = (mk_K ++ E, mk_B R B, (fMo_trace_43 r12 y1 y2 z1 z2 I B E).2, J)) : pmE g kMo_trace (d + 2) 0 0 43 [(0, .ref 40), (1, .int y1), (2, .int y2)] [.int z2, .int z1, .ref 353] (mk_K ++ E) (mk_B R B) I J o Z := by
  unfold pMo_trace_43 at hp
  refine pm_iast dMo_trace_43 rfl hp.1 ?_
  refine pm_iinc dMo_trace_44 rfl (by decide) rfl ?_
  refine pm_goto 12 dMo_trace_47 (by decide) ?_
  refine pm_wk [1, 2, 0] rfl ?_
  exact ih12 _ _ _ _ _ hp.2 (ho.trans (by first | (simp only [fMo_trace_43]; done) | (simp only [fMo_trace_43]; with_reducible rfl) | with_reducible rfl)) (hz.trans (by first | (simp only [fMo_trace_43]; done) | (simp only [fMo_trace_43]; with_reducible rfl) | with_reducible rfl))
set_option maxHeartbeats 4000000 in
set_option maxRecDepth 100000 in
theorem Mo_trace_n132 (g : pmG) (d : Nat) (R : Nat → Nat → Value) (hR : mk_R R) (J : Nat → Nat → Int64) (o : Outcome) (Z : pmM) (r52 : Int32 → Int32 → (Nat → Nat → Int32) → (Nat → Value) → (List (Nat × Nat)) → Int32 × (Nat → Nat → Int32)) (q52 : Int32 → Int32 → (Nat → Nat → Int32) → (Nat → Value) → (List (Nat × Nat)) → Prop) (ih52 : ∀ (y1 : Int32) (y2 : Int32) (I : Nat → Nat → Int32) (B : Nat → Value) (E : List (Nat × Nat)), q52 y1 y2 I B E → o = .returned (some (.int (r52 y1 y2 I B E).1)) → Z = (mk_K ++ E, mk_B R B, (r52 y1 y2 I B E).2, J) → pmE g kMo_trace (d + 2) 0 0 52 [(0, .ref 40), (1, .int y1), (2, .int y2)] [] (mk_K ++ E) (mk_B R B) I J o Z) (r60 : Int32 → Int32 → Int32 → (Nat → Nat → Int32) → (Nat → Value) → (List (Nat × Nat)) → Int32 × (Nat → Nat → Int32)) (q60 : Int32 → Int32 → Int32 → (Nat → Nat → Int32) → (Nat → Value) → (List (Nat × Nat)) → Prop) (ih60 : ∀ (y1 : Int32) (y2 : Int32) (y3 : Int32) (I : Nat → Nat → Int32) (B : Nat → Value) (E : List (Nat × Nat)), q60 y1 y2 y3 I B E → o = .returned (some (.int (r60 y1 y2 y3 I B E).1)) → Z = (mk_K ++ E, mk_B R B, (r60 y1 y2 y3 I B E).2, J) → pmE g kMo_trace (d + 2) 0 0 60 [(0, .ref 40), (1, .int y1), (2, .int y2), (3, .int y3)] [] (mk_K ++ E) (mk_B R B) I J o Z) (r71 : Int32 → Int32 → Int32 → Int32 → (Nat → Nat → Int32) → (Nat → Value) → (List (Nat × Nat)) → Int32 × (Nat → Nat → Int32)) (q71 : Int32 → Int32 → Int32 → Int32 → (Nat → Nat → Int32) → (Nat → Value) → (List (Nat × Nat)) → Prop) (ih71 : ∀ (y1 : Int32) (y2 : Int32) (y3 : Int32) (y4 : Int32) (I : Nat → Nat → Int32) (B : Nat → Value) (E : List (Nat × Nat)), q71 y1 y2 y3 y4 I B E → o = .returned (some (.int (r71 y1 y2 y3 y4 I B E).1)) → Z = (mk_K ++ E, mk_B R B, (r71 y1 y2 y3 y4 I B E).2, J) → pmE g kMo_trace (d + 2) 0 0 71 [(0, .ref 40), (1, .int y1), (2, .int y2), (3, .int y3), (4, .int y4)] [] (mk_K ++ E) (mk_B R B) I J o Z)  (y1 : Int32) (y2 : Int32) (y3 : Int32) (y4 : Int32) (I : Nat → Nat → Int32) (B : Nat → Value) (E : List (Nat × Nat)) (hp : pMo_trace_132 q52 q60 q71 y1 y2 y3 y4 I B E) (ho : o = .returned (some (.int (fMo_trace_132 r52 r60 r71 y1 y2 y3 y4 I B E).1))) (hz : Z = (mk_K ++ E, mk_B R B, (fMo_trace_132 r52 r60 r71 y1 y2 y3 y4 I B E).2, J)) : pmE g kMo_trace (d + 2) 0 0 132 [(0, .ref 40), (1, .int y1), (2, .int y2), (3, .int y3), (4, .int y4)] [] (mk_K ++ E) (mk_B R B) I J o Z := by
  unfold pMo_trace_132 at hp
  refine pm_iinc dMo_trace_132 rfl (by decide) rfl ?_
  refine pm_goto 71 dMo_trace_135 (by decide) ?_
  refine pm_wk [1, 2, 3, 4, 0] rfl ?_
  exact ih71 _ _ _ _ _ _ _ hp (ho.trans (by first | (simp only [fMo_trace_132]; done) | (simp only [fMo_trace_132]; with_reducible rfl) | with_reducible rfl)) (hz.trans (by first | (simp only [fMo_trace_132]; done) | (simp only [fMo_trace_132]; with_reducible rfl) | with_reducible rfl))
set_option maxHeartbeats 4000000 in
set_option maxRecDepth 100000 in
theorem Mo_trace_n71 (g : pmG) (d : Nat) (R : Nat → Nat → Value) (hR : mk_R R) (J : Nat → Nat → Int64) (o : Outcome) (Z : pmM) (r52 : Int32 → Int32 → (Nat → Nat → Int32) → (Nat → Value) → (List (Nat × Nat)) → Int32 × (Nat → Nat → Int32)) (q52 : Int32 → Int32 → (Nat → Nat → Int32) → (Nat → Value) → (List (Nat × Nat)) → Prop) (ih52 : ∀ (y1 : Int32) (y2 : Int32) (I : Nat → Nat → Int32) (B : Nat → Value) (E : List (Nat × Nat)), q52 y1 y2 I B E → o = .returned (some (.int (r52 y1 y2 I B E).1)) → Z = (mk_K ++ E, mk_B R B, (r52 y1 y2 I B E).2, J) → pmE g kMo_trace (d + 2) 0 0 52 [(0, .ref 40), (1, .int y1), (2, .int y2)] [] (mk_K ++ E) (mk_B R B) I J o Z) (r60 : Int32 → Int32 → Int32 → (Nat → Nat → Int32) → (Nat → Value) → (List (Nat × Nat)) → Int32 × (Nat → Nat → Int32)) (q60 : Int32 → Int32 → Int32 → (Nat → Nat → Int32) → (Nat → Value) → (List (Nat × Nat)) → Prop) (ih60 : ∀ (y1 : Int32) (y2 : Int32) (y3 : Int32) (I : Nat → Nat → Int32) (B : Nat → Value) (E : List (Nat × Nat)), q60 y1 y2 y3 I B E → o = .returned (some (.int (r60 y1 y2 y3 I B E).1)) → Z = (mk_K ++ E, mk_B R B, (r60 y1 y2 y3 I B E).2, J) → pmE g kMo_trace (d + 2) 0 0 60 [(0, .ref 40), (1, .int y1), (2, .int y2), (3, .int y3)] [] (mk_K ++ E) (mk_B R B) I J o Z)  : ∀ (n : Nat) (y1 : Int32) (y2 : Int32) (y3 : Int32) (y4 : Int32) (I : Nat → Nat → Int32) (B : Nat → Value) (E : List (Nat × Nat)), pMo_trace_71 q52 q60 n y1 y2 y3 y4 I B E → o = .returned (some (.int (fMo_trace_71 r52 r60 n y1 y2 y3 y4 I B E).1)) → Z = (mk_K ++ E, mk_B R B, (fMo_trace_71 r52 r60 n y1 y2 y3 y4 I B E).2, J) → pmE g kMo_trace (d + 2) 0 0 71 [(0, .ref 40), (1, .int y1), (2, .int y2), (3, .int y3), (4, .int y4)] [] (mk_K ++ E) (mk_B R B) I J o Z := by
  intro n
  induction n with
  | zero => intro y1 y2 y3 y4 I B E hp; exact False.elim hp
  | succ n ih =>
  intro y1 y2 y3 y4 I B E hp ho hz
  simp only [pMo_trace_71] at hp
  refine pm_iload dMo_trace_71 rfl ?_
  refine pm_aload_n dMo_trace_73 rfl ?_
  refine pm_callV dMo_trace_74 lMo_348 vMo_allInputs ⟨_, _, rfl⟩ (Mo_allInputs_ok _ _ _ _ (mk_RB hR _)  _ _ hp.1) rfl rfl rfl (Nat.le_of_ble_eq_true rfl) (Nat.le_refl _) (Nat.le_refl _) ?_
  refine pm_icmp_ge 138 dMo_trace_77 (by decide) (fun h77 => ?_) (fun h77 => ?_)
  ·
    refine pm_iinc dMo_trace_138 rfl (by decide) rfl ?_
    refine pm_goto 60 dMo_trace_141 (by decide) ?_
    refine pm_wk [1, 2, 3, 0] rfl ?_
    exact ih60 _ _ _ _ _ _ (hp.2.1 h77) (ho.trans (by first | (simp only [fMo_trace_71, if_pos h77]; done) | (simp only [fMo_trace_71, if_pos h77]; with_reducible rfl) | with_reducible rfl)) (hz.trans (by first | (simp only [fMo_trace_71, if_pos h77]; done) | (simp only [fMo_trace_71, if_pos h77]; with_reducible rfl) | with_reducible rfl))
  ·
    refine pm_aload_n dMo_trace_80 rfl ?_
    refine pm_getr dMo_trace_81 fMo_164 rfl (rr_40_48 (mk_RB hR _)) ?_
    refine pm_aload_n dMo_trace_84 rfl ?_
    refine pm_getr dMo_trace_85 fMo_142 rfl (rr_40_42 (mk_RB hR _)) ?_
    refine pm_iload_n dMo_trace_88 rfl ?_
    have hq89 := (hp.2.2 h77).1
    refine pm_aald dMo_trace_89 rfl (Or.inl rfl) (hp.2.2 h77).1 ((mk_RB hR _).2.1 _ (vp_lt (hp.2.2 h77).1)) (Or.inr ⟨_, rfl⟩) ?_
    refine pm_iload dMo_trace_90 rfl ?_
    refine pm_iald dMo_trace_92 (mk_fA _ (vp_lt hq89)) (hp.2.2 h77).2.1 ?_
    refine pm_iald dMo_trace_93 rfl (hp.2.2 h77).2.2.1 ?_
    refine pm_iconst (v := 1) dMo_trace_94 (by decide) ?_
    refine pm_iadd dMo_trace_95 ?_
    refine pm_aload_n dMo_trace_96 rfl ?_
    refine pm_getr dMo_trace_97 fMo_164 rfl (rr_40_48 (mk_RB hR _)) ?_
    refine pm_iload_n dMo_trace_100 rfl ?_
    refine pm_iald dMo_trace_101 rfl (hp.2.2 h77).2.2.2.1 ?_
    refine pm_icmp_lt 108 dMo_trace_102 (by decide) (fun h102 => ?_) (fun h102 => ?_)
    ·
      refine pm_aload_n dMo_trace_108 rfl ?_
      refine pm_getr dMo_trace_109 fMo_164 rfl (rr_40_48 (mk_RB hR _)) ?_
      refine pm_iload_n dMo_trace_112 rfl ?_
      refine pm_aload_n dMo_trace_113 rfl ?_
      refine pm_getr dMo_trace_114 fMo_164 rfl (rr_40_48 (mk_RB hR _)) ?_
      refine pm_aload_n dMo_trace_117 rfl ?_
      refine pm_getr dMo_trace_118 fMo_142 rfl (rr_40_42 (mk_RB hR _)) ?_
      refine pm_iload_n dMo_trace_121 rfl ?_
      have hq122 := ((hp.2.2 h77).2.2.2.2.1 h102).1
      refine pm_aald dMo_trace_122 rfl (Or.inl rfl) ((hp.2.2 h77).2.2.2.2.1 h102).1 ((mk_RB hR _).2.1 _ (vp_lt ((hp.2.2 h77).2.2.2.2.1 h102).1)) (Or.inr ⟨_, rfl⟩) ?_
      refine pm_iload dMo_trace_123 rfl ?_
      refine pm_iald dMo_trace_125 (mk_fA _ (vp_lt hq122)) ((hp.2.2 h77).2.2.2.2.1 h102).2.1 ?_
      refine pm_iald dMo_trace_126 rfl ((hp.2.2 h77).2.2.2.2.1 h102).2.2.1 ?_
      refine pm_iconst (v := 1) dMo_trace_127 (by decide) ?_
      refine pm_iadd dMo_trace_128 ?_
      refine pm_iast dMo_trace_129 rfl ((hp.2.2 h77).2.2.2.2.1 h102).2.2.2.1 ?_
      refine pm_iconst (v := 1) dMo_trace_130 (by decide) ?_
      refine pm_istore_n dMo_trace_131 (by decide) rfl ?_
      refine pm_wk [1, 2, 0, 3, 4] rfl ?_
      exact Mo_trace_n132 g d R hR J _ _ r52 q52 ih52 r60 q60 ih60 (fMo_trace_71 r52 r60 n) (pMo_trace_71 q52 q60 n) ih  _ _ _ _ _ _ _ ((hp.2.2 h77).2.2.2.2.1 h102).2.2.2.2 (ho.trans (by first | (simp only [fMo_trace_71, if_neg h77, if_pos h102]; done) | (simp only [fMo_trace_71, if_neg h77, if_pos h102]; with_reducible rfl) | with_reducible rfl)) (hz.trans (by first | (simp only [fMo_trace_71, if_neg h77, if_pos h102]; done) | (simp only [fMo_trace_71, if_neg h77, if_pos h102]; with_reducible rfl) | with_reducible rfl))
    ·
      refine pm_goto 132 dMo_trace_105 (by decide) ?_
      refine pm_wk [0, 1, 2, 3, 4] rfl ?_
      exact Mo_trace_n132 g d R hR J _ _ r52 q52 ih52 r60 q60 ih60 (fMo_trace_71 r52 r60 n) (pMo_trace_71 q52 q60 n) ih  _ _ _ _ _ _ _ ((hp.2.2 h77).2.2.2.2.2 h102) (ho.trans (by first | (simp only [fMo_trace_71, if_neg h77, if_neg h102]; done) | (simp only [fMo_trace_71, if_neg h77, if_neg h102]; with_reducible rfl) | with_reducible rfl)) (hz.trans (by first | (simp only [fMo_trace_71, if_neg h77, if_neg h102]; done) | (simp only [fMo_trace_71, if_neg h77, if_neg h102]; with_reducible rfl) | with_reducible rfl))
set_option maxHeartbeats 4000000 in
set_option maxRecDepth 100000 in
theorem Mo_trace_n60 (g : pmG) (d : Nat) (R : Nat → Nat → Value) (hR : mk_R R) (J : Nat → Nat → Int64) (o : Outcome) (Z : pmM) (r52 : Int32 → Int32 → (Nat → Nat → Int32) → (Nat → Value) → (List (Nat × Nat)) → Int32 × (Nat → Nat → Int32)) (q52 : Int32 → Int32 → (Nat → Nat → Int32) → (Nat → Value) → (List (Nat × Nat)) → Prop) (ih52 : ∀ (y1 : Int32) (y2 : Int32) (I : Nat → Nat → Int32) (B : Nat → Value) (E : List (Nat × Nat)), q52 y1 y2 I B E → o = .returned (some (.int (r52 y1 y2 I B E).1)) → Z = (mk_K ++ E, mk_B R B, (r52 y1 y2 I B E).2, J) → pmE g kMo_trace (d + 2) 0 0 52 [(0, .ref 40), (1, .int y1), (2, .int y2)] [] (mk_K ++ E) (mk_B R B) I J o Z) (n71 : Nat) : ∀ (n : Nat) (y1 : Int32) (y2 : Int32) (y3 : Int32) (I : Nat → Nat → Int32) (B : Nat → Value) (E : List (Nat × Nat)), pMo_trace_60 q52 n71 n y1 y2 y3 I B E → o = .returned (some (.int (fMo_trace_60 r52 n71 n y1 y2 y3 I B E).1)) → Z = (mk_K ++ E, mk_B R B, (fMo_trace_60 r52 n71 n y1 y2 y3 I B E).2, J) → pmE g kMo_trace (d + 2) 0 0 60 [(0, .ref 40), (1, .int y1), (2, .int y2), (3, .int y3)] [] (mk_K ++ E) (mk_B R B) I J o Z := by
  intro n
  induction n with
  | zero => intro y1 y2 y3 I B E hp; exact False.elim hp
  | succ n ih =>
  intro y1 y2 y3 I B E hp ho hz
  simp only [pMo_trace_60] at hp
  refine pm_iload_n dMo_trace_60 rfl ?_
  refine pm_aload_n dMo_trace_61 rfl ?_
  refine pm_callV dMo_trace_62 lMo_345 vMo_all ⟨_, _, rfl⟩ (Mo_all_ok _ _ _ _ (mk_RB hR _)  _ _ hp.1) rfl rfl rfl (Nat.le_of_ble_eq_true rfl) (Nat.le_refl _) (Nat.le_refl _) ?_
  refine pm_icmp_ge 144 dMo_trace_65 (by decide) (fun h65 => ?_) (fun h65 => ?_)
  ·
    refine pm_goto 52 dMo_trace_144 (by decide) ?_
    refine pm_wk [0, 1, 2] rfl ?_
    exact ih52 _ _ _ _ _ (hp.2.1 h65) (ho.trans (by first | (simp only [fMo_trace_60, if_pos h65]; done) | (simp only [fMo_trace_60, if_pos h65]; with_reducible rfl) | with_reducible rfl)) (hz.trans (by first | (simp only [fMo_trace_60, if_pos h65]; done) | (simp only [fMo_trace_60, if_pos h65]; with_reducible rfl) | with_reducible rfl))
  ·
    refine pm_iconst (v := 0) dMo_trace_68 (by decide) ?_
    refine pm_istore dMo_trace_69 (by decide) rfl ?_
    refine pm_wk [1, 2, 3, 4, 0] rfl ?_
    exact Mo_trace_n71 g d R hR J _ _ r52 q52 ih52 (fMo_trace_60 r52 n71 n) (pMo_trace_60 q52 n71 n) ih n71 _ _ _ _ _ _ _ (hp.2.2 h65) (ho.trans (by first | (simp only [fMo_trace_60, if_neg h65]; done) | (simp only [fMo_trace_60, if_neg h65]; with_reducible rfl) | with_reducible rfl)) (hz.trans (by first | (simp only [fMo_trace_60, if_neg h65]; done) | (simp only [fMo_trace_60, if_neg h65]; with_reducible rfl) | with_reducible rfl))
set_option maxHeartbeats 4000000 in
set_option maxRecDepth 100000 in
theorem Mo_trace_n202 (g : pmG) (d : Nat) (R : Nat → Nat → Value) (hR : mk_R R) (J : Nat → Nat → Int64) (o : Outcome) (Z : pmM) (r190 : Int32 → Int32 → Int32 → Int32 → (Nat → Nat → Int32) → (Nat → Value) → (List (Nat × Nat)) → Int32 × (Nat → Nat → Int32)) (q190 : Int32 → Int32 → Int32 → Int32 → (Nat → Nat → Int32) → (Nat → Value) → (List (Nat × Nat)) → Prop) (ih190 : ∀ (y1 : Int32) (y2 : Int32) (y3 : Int32) (y4 : Int32) (I : Nat → Nat → Int32) (B : Nat → Value) (E : List (Nat × Nat)), q190 y1 y2 y3 y4 I B E → o = .returned (some (.int (r190 y1 y2 y3 y4 I B E).1)) → Z = (mk_K ++ E, mk_B R B, (r190 y1 y2 y3 y4 I B E).2, J) → pmE g kMo_trace (d + 2) 0 0 190 [(0, .ref 40), (1, .int y1), (2, .int y2), (3, .int y3), (4, .int y4)] [] (mk_K ++ E) (mk_B R B) I J o Z)  : ∀ (n : Nat) (y1 : Int32) (y2 : Int32) (y3 : Int32) (y4 : Int32) (y5 : Int32) (I : Nat → Nat → Int32) (B : Nat → Value) (E : List (Nat × Nat)), pMo_trace_202 q190 n y1 y2 y3 y4 y5 I B E → o = .returned (some (.int (fMo_trace_202 r190 n y1 y2 y3 y4 y5 I B E).1)) → Z = (mk_K ++ E, mk_B R B, (fMo_trace_202 r190 n y1 y2 y3 y4 y5 I B E).2, J) → pmE g kMo_trace (d + 2) 0 0 202 [(0, .ref 40), (1, .int y1), (2, .int y2), (3, .int y3), (4, .int y4), (5, .int y5)] [] (mk_K ++ E) (mk_B R B) I J o Z := by
  intro n
  induction n with
  | zero => intro y1 y2 y3 y4 y5 I B E hp; exact False.elim hp
  | succ n ih =>
  intro y1 y2 y3 y4 y5 I B E hp ho hz
  simp only [pMo_trace_202] at hp
  refine pm_aload_n dMo_trace_202 rfl ?_
  refine pm_getr dMo_trace_203 fMo_164 rfl (rr_40_48 (mk_RB hR _)) ?_
  refine pm_aload_n dMo_trace_206 rfl ?_
  refine pm_getr dMo_trace_207 fMo_142 rfl (rr_40_42 (mk_RB hR _)) ?_
  refine pm_iload_n dMo_trace_210 rfl ?_
  have hq211 := hp.1
  refine pm_aald dMo_trace_211 rfl (Or.inl rfl) hp.1 ((mk_RB hR _).2.1 _ (vp_lt hp.1)) (Or.inr ⟨_, rfl⟩) ?_
  refine pm_iload dMo_trace_212 rfl ?_
  refine pm_iald dMo_trace_214 (mk_fA _ (vp_lt hq211)) hp.2.1 ?_
  refine pm_iald dMo_trace_215 rfl hp.2.2.1 ?_
  refine pm_aload_n dMo_trace_216 rfl ?_
  refine pm_getr dMo_trace_217 fMo_164 rfl (rr_40_48 (mk_RB hR _)) ?_
  refine pm_iload_n dMo_trace_220 rfl ?_
  refine pm_iald dMo_trace_221 rfl hp.2.2.2.1 ?_
  refine pm_iconst (v := 1) dMo_trace_222 (by decide) ?_
  refine pm_isub dMo_trace_223 ?_
  refine pm_icmp_eq 233 dMo_trace_224 (by decide) (fun h224 => ?_) (fun h224 => ?_)
  ·
    refine pm_aload_n dMo_trace_233 rfl ?_
    refine pm_getr dMo_trace_234 fMo_167 rfl (rr_40_49 (mk_RB hR _)) ?_
    refine pm_iload dMo_trace_237 rfl ?_
    refine pm_iload_n dMo_trace_239 rfl ?_
    refine pm_iast dMo_trace_240 rfl (hp.2.2.2.2.1 h224).1 ?_
    refine pm_aload_n dMo_trace_241 rfl ?_
    refine pm_getr dMo_trace_242 fMo_170 rfl (rr_40_50 (mk_RB hR _)) ?_
    refine pm_iload dMo_trace_245 rfl ?_
    refine pm_iload dMo_trace_247 rfl ?_
    refine pm_iast dMo_trace_249 rfl (hp.2.2.2.2.1 h224).2.1 ?_
    refine pm_aload_n dMo_trace_250 rfl ?_
    refine pm_getr dMo_trace_251 fMo_142 rfl (rr_40_42 (mk_RB hR _)) ?_
    refine pm_iload_n dMo_trace_254 rfl ?_
    have hq255 := (hp.2.2.2.2.1 h224).2.2.1
    refine pm_aald dMo_trace_255 rfl (Or.inl rfl) (hp.2.2.2.2.1 h224).2.2.1 ((mk_RB hR _).2.1 _ (vp_lt (hp.2.2.2.2.1 h224).2.2.1)) (Or.inr ⟨_, rfl⟩) ?_
    refine pm_iload dMo_trace_256 rfl ?_
    refine pm_iald dMo_trace_258 (mk_fA _ (vp_lt hq255)) (hp.2.2.2.2.1 h224).2.2.2.1 ?_
    refine pm_istore_n dMo_trace_259 (by decide) rfl ?_
    refine pm_iinc dMo_trace_260 rfl (by decide) rfl ?_
    refine pm_goto 190 dMo_trace_263 (by decide) ?_
    refine pm_wk [2, 3, 4, 1, 0] rfl ?_
    exact ih190 _ _ _ _ _ _ _ (hp.2.2.2.2.1 h224).2.2.2.2 (ho.trans (by first | (simp only [fMo_trace_202, if_pos h224]; done) | (simp only [fMo_trace_202, if_pos h224]; with_reducible rfl) | with_reducible rfl)) (hz.trans (by first | (simp only [fMo_trace_202, if_pos h224]; done) | (simp only [fMo_trace_202, if_pos h224]; with_reducible rfl) | with_reducible rfl))
  ·
    refine pm_iinc dMo_trace_227 rfl (by decide) rfl ?_
    refine pm_goto 202 dMo_trace_230 (by decide) ?_
    refine pm_wk [1, 2, 3, 4, 5, 0] rfl ?_
    exact ih _ _ _ _ _ _ _ _ (hp.2.2.2.2.2 h224) (ho.trans (by first | (simp only [fMo_trace_202, if_neg h224]; done) | (simp only [fMo_trace_202, if_neg h224]; with_reducible rfl) | with_reducible rfl)) (hz.trans (by first | (simp only [fMo_trace_202, if_neg h224]; done) | (simp only [fMo_trace_202, if_neg h224]; with_reducible rfl) | with_reducible rfl))
set_option maxHeartbeats 4000000 in
set_option maxRecDepth 100000 in
theorem Mo_trace_n190 (g : pmG) (d : Nat) (R : Nat → Nat → Value) (hR : mk_R R) (J : Nat → Nat → Int64) (o : Outcome) (Z : pmM) (n202 : Nat) : ∀ (n : Nat) (y1 : Int32) (y2 : Int32) (y3 : Int32) (y4 : Int32) (I : Nat → Nat → Int32) (B : Nat → Value) (E : List (Nat × Nat)), pMo_trace_190 n202 n y1 y2 y3 y4 I B E → o = .returned (some (.int (fMo_trace_190 n202 n y1 y2 y3 y4 I B E).1)) → Z = (mk_K ++ E, mk_B R B, (fMo_trace_190 n202 n y1 y2 y3 y4 I B E).2, J) → pmE g kMo_trace (d + 2) 0 0 190 [(0, .ref 40), (1, .int y1), (2, .int y2), (3, .int y3), (4, .int y4)] [] (mk_K ++ E) (mk_B R B) I J o Z := by
  intro n
  induction n with
  | zero => intro y1 y2 y3 y4 I B E hp; exact False.elim hp
  | succ n ih =>
  intro y1 y2 y3 y4 I B E hp ho hz
  simp only [pMo_trace_190] at hp
  refine pm_iload dMo_trace_190 rfl ?_
  refine pm_aload_n dMo_trace_192 rfl ?_
  refine pm_geti dMo_trace_193 fMo_173 rfl ?_
  refine pm_icmp_ge 266 dMo_trace_196 (by decide) (fun h196 => ?_) (fun h196 => ?_)
  ·
    refine pm_aload_n dMo_trace_266 rfl ?_
    refine pm_getr dMo_trace_267 fMo_167 rfl (rr_40_49 (mk_RB hR _)) ?_
    refine pm_aload_n dMo_trace_270 rfl ?_
    refine pm_geti dMo_trace_271 fMo_173 rfl ?_
    refine pm_iload_n dMo_trace_274 rfl ?_
    refine pm_iast dMo_trace_275 rfl (hp.1 h196).1 ?_
    refine pm_aload_n dMo_trace_276 rfl ?_
    refine pm_geti dMo_trace_277 fMo_173 rfl ?_
    refine pm_eqi (I 40 51) rfl ?_
    exact pm_iret dMo_trace_280 rfl (ho.trans (by first | (simp only [fMo_trace_190, if_pos h196]; done) | (simp only [fMo_trace_190, if_pos h196]; with_reducible rfl) | with_reducible rfl)) (hz.trans (by first | (simp only [fMo_trace_190, if_pos h196]; done) | (simp only [fMo_trace_190, if_pos h196]; with_reducible rfl) | with_reducible rfl))
  ·
    refine pm_iconst (v := 0) dMo_trace_199 (by decide) ?_
    refine pm_istore dMo_trace_200 (by decide) rfl ?_
    refine pm_wk [1, 2, 3, 4, 5, 0] rfl ?_
    exact Mo_trace_n202 g d R hR J _ _ (fMo_trace_190 n202 n) (pMo_trace_190 n202 n) ih n202 _ _ _ _ _ _ _ _ (hp.2 h196) (ho.trans (by first | (simp only [fMo_trace_190, if_neg h196]; done) | (simp only [fMo_trace_190, if_neg h196]; with_reducible rfl) | with_reducible rfl)) (hz.trans (by first | (simp only [fMo_trace_190, if_neg h196]; done) | (simp only [fMo_trace_190, if_neg h196]; with_reducible rfl) | with_reducible rfl))
set_option maxHeartbeats 4000000 in
set_option maxRecDepth 100000 in
theorem Mo_trace_n52 (g : pmG) (d : Nat) (R : Nat → Nat → Value) (hR : mk_R R) (J : Nat → Nat → Int64) (o : Outcome) (Z : pmM) (n71 : Nat) (n60 : Nat) (n202 : Nat) (n190 : Nat) : ∀ (n : Nat) (y1 : Int32) (y2 : Int32) (I : Nat → Nat → Int32) (B : Nat → Value) (E : List (Nat × Nat)), pMo_trace_52 n71 n60 n202 n190 n y1 y2 I B E → o = .returned (some (.int (fMo_trace_52 n71 n60 n202 n190 n y1 y2 I B E).1)) → Z = (mk_K ++ E, mk_B R B, (fMo_trace_52 n71 n60 n202 n190 n y1 y2 I B E).2, J) → pmE g kMo_trace (d + 2) 0 0 52 [(0, .ref 40), (1, .int y1), (2, .int y2)] [] (mk_K ++ E) (mk_B R B) I J o Z := by
  intro n
  induction n with
  | zero => intro y1 y2 I B E hp; exact False.elim hp
  | succ n ih =>
  intro y1 y2 I B E hp ho hz
  simp only [pMo_trace_52] at hp
  refine pm_iload_n dMo_trace_52 rfl ?_
  refine pm_if_eq 147 dMo_trace_53 (by decide) (fun h53 => ?_) (fun h53 => ?_)
  ·
    refine pm_aload_n dMo_trace_147 rfl ?_
    refine pm_getr dMo_trace_148 fMo_164 rfl (rr_40_48 (mk_RB hR _)) ?_
    refine pm_aload_n dMo_trace_151 rfl ?_
    refine pm_geti dMo_trace_152 fMo_161 rfl ?_
    refine pm_iald dMo_trace_155 rfl (hp.1 h53).1 ?_
    refine pm_sipush (v := 1000) dMo_trace_156 (by decide) ?_
    refine pm_icmp_ne 164 dMo_trace_159 (by decide) (fun h159 => ?_) (fun h159 => ?_)
    ·
      refine pm_aload_n dMo_trace_164 rfl ?_
      refine pm_iconst (v := 1) dMo_trace_165 (by decide) ?_
      refine pm_puti dMo_trace_166 fMo_176 sMo_176 (fun h => by cases h) rfl (by decide) rfl ?_
      refine pm_aload_n dMo_trace_169 rfl ?_
      refine pm_aload_n dMo_trace_170 rfl ?_
      refine pm_getr dMo_trace_171 fMo_164 rfl (rr_40_48 (mk_RB hR _)) ?_
      refine pm_aload_n dMo_trace_174 rfl ?_
      refine pm_geti dMo_trace_175 fMo_161 rfl ?_
      refine pm_eqi (I 40 47) rfl ?_
      refine pm_iald dMo_trace_178 rfl ((hp.1 h53).2.2 h159).1 ?_
      refine pm_puti dMo_trace_179 fMo_173 sMo_173 (fun h => by cases h) rfl rfl rfl ?_
      refine pm_aload_n dMo_trace_182 rfl ?_
      refine pm_geti dMo_trace_183 fMo_161 rfl ?_
      refine pm_eqi (I 40 47) rfl ?_
      refine pm_istore_n dMo_trace_186 (by decide) rfl ?_
      refine pm_iconst (v := 0) dMo_trace_187 (by decide) ?_
      refine pm_istore dMo_trace_188 (by decide) rfl ?_
      refine pm_wk [2, 3, 4, 1, 0] rfl ?_
      exact Mo_trace_n190 g d R hR J _ _  n202 n190 _ _ _ _ _ _ _ ((hp.1 h53).2.2 h159).2 (ho.trans (by first | (simp only [fMo_trace_52, if_pos h53, if_neg h159]; done) | (simp only [fMo_trace_52, if_pos h53, if_neg h159]; with_reducible rfl) | with_reducible rfl)) (hz.trans (by first | (simp only [fMo_trace_52, if_pos h53, if_neg h159]; done) | (simp only [fMo_trace_52, if_pos h53, if_neg h159]; with_reducible rfl) | with_reducible rfl))
    ·
      refine pm_iconst (v := (-1)) dMo_trace_162 (by decide) ?_
      exact pm_iret dMo_trace_163 rfl (ho.trans (by first | (simp only [fMo_trace_52, if_pos h53, if_pos h159]; done) | (simp only [fMo_trace_52, if_pos h53, if_pos h159]; with_reducible rfl) | with_reducible rfl)) (hz.trans (by first | (simp only [fMo_trace_52, if_pos h53, if_pos h159]; done) | (simp only [fMo_trace_52, if_pos h53, if_pos h159]; with_reducible rfl) | with_reducible rfl))
  ·
    refine pm_iconst (v := 0) dMo_trace_56 (by decide) ?_
    refine pm_istore_n dMo_trace_57 (by decide) rfl ?_
    refine pm_iconst (v := 0) dMo_trace_58 (by decide) ?_
    refine pm_istore_n dMo_trace_59 (by decide) rfl ?_
    refine pm_wk [2, 3, 1, 0] rfl ?_
    exact Mo_trace_n60 g d R hR J _ _ (fMo_trace_52 n71 n60 n202 n190 n) (pMo_trace_52 n71 n60 n202 n190 n) ih n71 n60 _ _ _ _ _ _ (hp.2 h53) (ho.trans (by first | (simp only [fMo_trace_52, if_neg h53]; done) | (simp only [fMo_trace_52, if_neg h53]; with_reducible rfl) | with_reducible rfl)) (hz.trans (by first | (simp only [fMo_trace_52, if_neg h53]; done) | (simp only [fMo_trace_52, if_neg h53]; with_reducible rfl) | with_reducible rfl))
set_option maxHeartbeats 4000000 in
set_option maxRecDepth 100000 in
theorem Mo_trace_n12 (g : pmG) (d : Nat) (R : Nat → Nat → Value) (hR : mk_R R) (J : Nat → Nat → Int64) (o : Outcome) (Z : pmM) (n71 : Nat) (n60 : Nat) (n202 : Nat) (n190 : Nat) (n52 : Nat) : ∀ (n : Nat) (y1 : Int32) (y2 : Int32) (I : Nat → Nat → Int32) (B : Nat → Value) (E : List (Nat × Nat)), pMo_trace_12 n71 n60 n202 n190 n52 n y1 y2 I B E → o = .returned (some (.int (fMo_trace_12 n71 n60 n202 n190 n52 n y1 y2 I B E).1)) → Z = (mk_K ++ E, mk_B R B, (fMo_trace_12 n71 n60 n202 n190 n52 n y1 y2 I B E).2, J) → pmE g kMo_trace (d + 2) 0 0 12 [(0, .ref 40), (1, .int y1), (2, .int y2)] [] (mk_K ++ E) (mk_B R B) I J o Z := by
  intro n
  induction n with
  | zero => intro y1 y2 I B E hp; exact False.elim hp
  | succ n ih =>
  intro y1 y2 I B E hp ho hz
  simp only [pMo_trace_12] at hp
  refine pm_iload_n dMo_trace_12 rfl ?_
  refine pm_aload_n dMo_trace_13 rfl ?_
  refine pm_callV dMo_trace_14 lMo_345 vMo_all ⟨_, _, rfl⟩ (Mo_all_ok _ _ _ _ (mk_RB hR _)  _ _ hp.1) rfl rfl rfl (Nat.le_of_ble_eq_true rfl) (Nat.le_refl _) (Nat.le_refl _) ?_
  refine pm_icmp_ge 50 dMo_trace_17 (by decide) (fun h17 => ?_) (fun h17 => ?_)
  ·
    refine pm_iconst (v := 1) dMo_trace_50 (by decide) ?_
    refine pm_istore_n dMo_trace_51 (by decide) rfl ?_
    refine pm_wk [1, 2, 0] rfl ?_
    exact Mo_trace_n52 g d R hR J _ _  n71 n60 n202 n190 n52 _ _ _ _ _ (hp.2.1 h17) (ho.trans (by first | (simp only [fMo_trace_12, if_pos h17]; done) | (simp only [fMo_trace_12, if_pos h17]; with_reducible rfl) | with_reducible rfl)) (hz.trans (by first | (simp only [fMo_trace_12, if_pos h17]; done) | (simp only [fMo_trace_12, if_pos h17]; with_reducible rfl) | with_reducible rfl))
  ·
    refine pm_aload_n dMo_trace_20 rfl ?_
    refine pm_getr dMo_trace_21 fMo_164 rfl (rr_40_48 (mk_RB hR _)) ?_
    refine pm_iload_n dMo_trace_24 rfl ?_
    refine pm_aload_n dMo_trace_25 rfl ?_
    refine pm_getr dMo_trace_26 fMo_155 rfl (rr_40_45 (mk_RB hR _)) ?_
    refine pm_iload_n dMo_trace_29 rfl ?_
    have hq30 := (hp.2.2 h17).1
    refine pm_aald dMo_trace_30 rfl (Or.inr rfl) (hp.2.2 h17).1 ((mk_RB hR _).2.2 _ (vp_lt (hp.2.2 h17).1)) (Or.inr ⟨_, rfl⟩) ?_
    refine pm_iload_n dMo_trace_31 rfl ?_
    refine pm_zald dMo_trace_32 (mk_fS _ (vp_lt hq30)) (hp.2.2 h17).2.1 ?_
    refine pm_if_eq 40 dMo_trace_33 (by decide) (fun h33 => ?_) (fun h33 => ?_)
    ·
      refine pm_sipush (v := 1000) dMo_trace_40 (by decide) ?_
      refine pm_wk [0, 1, 2] rfl ?_
      exact Mo_trace_n43 g d R hR J _ _ (fMo_trace_12 n71 n60 n202 n190 n52 n) (pMo_trace_12 n71 n60 n202 n190 n52 n) ih  _ _ _ _ _ _ _ ((hp.2.2 h17).2.2.1 h33) (ho.trans (by first | (simp only [fMo_trace_12, if_neg h17, if_pos h33]; done) | (simp only [fMo_trace_12, if_neg h17, if_pos h33]; with_reducible rfl) | with_reducible rfl)) (hz.trans (by first | (simp only [fMo_trace_12, if_neg h17, if_pos h33]; done) | (simp only [fMo_trace_12, if_neg h17, if_pos h33]; with_reducible rfl) | with_reducible rfl))
    ·
      refine pm_iconst (v := 0) dMo_trace_36 (by decide) ?_
      refine pm_goto 43 dMo_trace_37 (by decide) ?_
      refine pm_wk [0, 1, 2] rfl ?_
      exact Mo_trace_n43 g d R hR J _ _ (fMo_trace_12 n71 n60 n202 n190 n52 n) (pMo_trace_12 n71 n60 n202 n190 n52 n) ih  _ _ _ _ _ _ _ ((hp.2.2 h17).2.2.2 h33) (ho.trans (by first | (simp only [fMo_trace_12, if_neg h17, if_neg h33]; done) | (simp only [fMo_trace_12, if_neg h17, if_neg h33]; with_reducible rfl) | with_reducible rfl)) (hz.trans (by first | (simp only [fMo_trace_12, if_neg h17, if_neg h33]; done) | (simp only [fMo_trace_12, if_neg h17, if_neg h33]; with_reducible rfl) | with_reducible rfl))
set_option maxHeartbeats 4000000 in
set_option maxRecDepth 100000 in
theorem Mo_trace_n5 (g : pmG) (d : Nat) (R : Nat → Nat → Value) (hR : mk_R R) (J : Nat → Nat → Int64) (o : Outcome) (Z : pmM) (n71 : Nat) (n60 : Nat) (n202 : Nat) (n190 : Nat) (n52 : Nat) (n12 : Nat) (y1 : Int32) (z0 : Int32) (I : Nat → Nat → Int32) (B : Nat → Value) (E : List (Nat × Nat)) (hp : pMo_trace_5 n71 n60 n202 n190 n52 n12 y1 z0 I B E) (ho : o = .returned (some (.int (fMo_trace_5 n71 n60 n202 n190 n52 n12 y1 z0 I B E).1))) (hz : Z = (mk_K ++ E, mk_B R B, (fMo_trace_5 n71 n60 n202 n190 n52 n12 y1 z0 I B E).2, J)) : pmE g kMo_trace (d + 2) 0 0 5 [(0, .ref 40), (1, .int y1)] [.int z0] (mk_K ++ E) (mk_B R B) I J o Z := by
  unfold pMo_trace_5 at hp
  refine pm_if_eq 10 dMo_trace_5 (by decide) (fun h5 => ?_) (fun h5 => ?_)
  ·
    refine pm_iconst (v := 0) dMo_trace_10 (by decide) ?_
    refine pm_istore_n dMo_trace_11 (by decide) rfl ?_
    refine pm_wk [1, 2, 0] rfl ?_
    exact Mo_trace_n12 g d R hR J _ _  n71 n60 n202 n190 n52 n12 _ _ _ _ _ (hp.1 h5) (ho.trans (by first | (simp only [fMo_trace_5, if_pos h5]; done) | (simp only [fMo_trace_5, if_pos h5]; with_reducible rfl) | with_reducible rfl)) (hz.trans (by first | (simp only [fMo_trace_5, if_pos h5]; done) | (simp only [fMo_trace_5, if_pos h5]; with_reducible rfl) | with_reducible rfl))
  ·
    refine pm_iconst (v := 0) dMo_trace_8 (by decide) ?_
    exact pm_iret dMo_trace_9 rfl (ho.trans (by first | (simp only [fMo_trace_5, if_neg h5]; done) | (simp only [fMo_trace_5, if_neg h5]; with_reducible rfl) | with_reducible rfl)) (hz.trans (by first | (simp only [fMo_trace_5, if_neg h5]; done) | (simp only [fMo_trace_5, if_neg h5]; with_reducible rfl) | with_reducible rfl))
set_option maxHeartbeats 4000000 in
set_option maxRecDepth 100000 in
theorem Mo_trace_n0 (g : pmG) (d : Nat) (R : Nat → Nat → Value) (hR : mk_R R) (J : Nat → Nat → Int64) (o : Outcome) (Z : pmM) (n71 : Nat) (n60 : Nat) (n202 : Nat) (n190 : Nat) (n52 : Nat) (n12 : Nat) (y1 : Int32) (I : Nat → Nat → Int32) (B : Nat → Value) (E : List (Nat × Nat)) (hp : pMo_trace n71 n60 n202 n190 n52 n12 y1 I B E) (ho : o = .returned (some (.int (fMo_trace n71 n60 n202 n190 n52 n12 y1 I B E).1))) (hz : Z = (mk_K ++ E, mk_B R B, (fMo_trace n71 n60 n202 n190 n52 n12 y1 I B E).2, J)) : pmE g kMo_trace (d + 2) 0 0 0 [(0, .ref 40), (1, .int y1)] [] (mk_K ++ E) (mk_B R B) I J o Z := by
  unfold pMo_trace at hp
  refine pm_aload_n dMo_trace_0 rfl ?_
  refine pm_iload_n dMo_trace_1 rfl ?_
  refine pm_callV dMo_trace_2 lMo_372 vMo_noSpec ⟨_, _, rfl⟩ (Mo_noSpec_ok _ _ _ _ (mk_RB hR _) _ _ _ hp.1) rfl rfl rfl (Nat.le_of_ble_eq_true rfl) (Nat.le_refl _) (Nat.le_refl _) ?_
  refine pm_wk [0, 1] rfl ?_
  exact Mo_trace_n5 g d R hR J _ _  n71 n60 n202 n190 n52 n12 _ _ _ _ _ hp.2 (ho.trans (by first | (simp only [fMo_trace]; done) | (simp only [fMo_trace]; with_reducible rfl) | with_reducible rfl)) (hz.trans (by first | (simp only [fMo_trace]; done) | (simp only [fMo_trace]; with_reducible rfl) | with_reducible rfl))
set_option maxHeartbeats 4000000 in
set_option maxRecDepth 100000 in
theorem Mo_trace_ok (g : pmG) (d : Nat) (R : Nat → Nat → Value) (hR : mk_R R) (n71 : Nat) (n60 : Nat) (n202 : Nat) (n190 : Nat) (n52 : Nat) (n12 : Nat) (x0 : Int32) (I : Nat → Nat → Int32) (B : Nat → Value) (E : List (Nat × Nat)) (J : Nat → Nat → Int64) (hp : pMo_trace n71 n60 n202 n190 n52 n12 x0 I B E) : pmC g kMo_trace (d + 2) 0 0 [.ref 40, .int x0] (mk_K ++ E, mk_B R B, I, J) (.returned (some (.int (fMo_trace n71 n60 n202 n190 n52 n12 x0 I B E).1))) (mk_K ++ E, mk_B R B, (fMo_trace n71 n60 n202 n190 n52 n12 x0 I B E).2, J) :=
  pmC.of (by decide) (Nat.le_of_ble_eq_true rfl) (Mo_trace_n0 g d R hR J _ _ n71 n60 n202 n190 n52 n12 x0 I B E hp rfl rfl)
def fMo_step_72  (y1 : Int32) (y2 : Int32) (I : Nat → Nat → Int32) (B : Nat → Value) (E : List (Nat × Nat)) : Int32 × (Nat → Nat → Int32) :=
  ((0 : Int32), I)
def pMo_step_72  (y1 : Int32) (y2 : Int32) (I : Nat → Nat → Int32) (B : Nat → Value) (E : List (Nat × Nat)) : Prop :=
  True
def fMo_step_69  (y1 : Int32) (y2 : Int32) (z0 : Int32) (I : Nat → Nat → Int32) (B : Nat → Value) (E : List (Nat × Nat)) : Int32 × (Nat → Nat → Int32) :=
  if z0 = 0 then if y2 = 0 then (I 354 y1.toNatClampNeg, I)
    else (I 355 y1.toNatClampNeg, I)
  else fMo_step_72 y1 y2 I B E
def pMo_step_69  (y1 : Int32) (y2 : Int32) (z0 : Int32) (I : Nat → Nat → Int32) (B : Nat → Value) (E : List (Nat × Nat)) : Prop :=
  (z0 = 0 → (y2 = 0 → (vp_in y1 257) ∧ True) ∧
    (¬ (y2 = 0) → (vp_in y1 256) ∧ True)) ∧
  (¬ (z0 = 0) → pMo_step_72 y1 y2 I B E)
def fMo_step_66  (y1 : Int32) (y2 : Int32) (z1 : Int32) (z2 : Int32) (I : Nat → Nat → Int32) (B : Nat → Value) (E : List (Nat × Nat)) : Int32 × (Nat → Nat → Int32) :=
  fMo_step_69 y1 y2 ((fMo_refuse z1 z2 I).1) ((fMo_refuse z1 z2 I).2) B E
def pMo_step_66  (y1 : Int32) (y2 : Int32) (z1 : Int32) (z2 : Int32) (I : Nat → Nat → Int32) (B : Nat → Value) (E : List (Nat × Nat)) : Prop :=
  (pMo_refuse z1 z2 I) ∧ (pMo_step_69 y1 y2 ((fMo_refuse z1 z2 I).1) ((fMo_refuse z1 z2 I).2) B E)
def fMo_step_61  (y1 : Int32) (y2 : Int32) (z1 : Int32) (I : Nat → Nat → Int32) (B : Nat → Value) (E : List (Nat × Nat)) : Int32 × (Nat → Nat → Int32) :=
  fMo_step_66 y1 y2 z1 (1 : Int32) I B E
def pMo_step_61  (y1 : Int32) (y2 : Int32) (z1 : Int32) (I : Nat → Nat → Int32) (B : Nat → Value) (E : List (Nat × Nat)) : Prop :=
  pMo_step_66 y1 y2 z1 (1 : Int32) I B E
def fMo_step_47  (y1 : Int32) (y2 : Int32) (z0 : Int32) (I : Nat → Nat → Int32) (B : Nat → Value) (E : List (Nat × Nat)) : Int32 × (Nat → Nat → Int32) :=
  if z0 = 0 then if y2 < 0 then fMo_step_61 y1 y2 (2 : Int32) I B E
    else if y2 ≤ (1 : Int32) then fMo_step_66 y1 y2 (2 : Int32) (0 : Int32) I B E
      else fMo_step_61 y1 y2 (2 : Int32) I B E
  else fMo_step_72 y1 y2 I B E
def pMo_step_47  (y1 : Int32) (y2 : Int32) (z0 : Int32) (I : Nat → Nat → Int32) (B : Nat → Value) (E : List (Nat × Nat)) : Prop :=
  (z0 = 0 → (y2 < 0 → pMo_step_61 y1 y2 (2 : Int32) I B E) ∧
    (¬ (y2 < 0) → (y2 ≤ (1 : Int32) → pMo_step_66 y1 y2 (2 : Int32) (0 : Int32) I B E) ∧
      (¬ (y2 ≤ (1 : Int32)) → pMo_step_61 y1 y2 (2 : Int32) I B E))) ∧
  (¬ (z0 = 0) → pMo_step_72 y1 y2 I B E)
def fMo_step_44  (y1 : Int32) (y2 : Int32) (z1 : Int32) (z2 : Int32) (I : Nat → Nat → Int32) (B : Nat → Value) (E : List (Nat × Nat)) : Int32 × (Nat → Nat → Int32) :=
  fMo_step_47 y1 y2 ((fMo_refuse z1 z2 I).1) ((fMo_refuse z1 z2 I).2) B E
def pMo_step_44  (y1 : Int32) (y2 : Int32) (z1 : Int32) (z2 : Int32) (I : Nat → Nat → Int32) (B : Nat → Value) (E : List (Nat × Nat)) : Prop :=
  (pMo_refuse z1 z2 I) ∧ (pMo_step_47 y1 y2 ((fMo_refuse z1 z2 I).1) ((fMo_refuse z1 z2 I).2) B E)
def fMo_step_39  (y1 : Int32) (y2 : Int32) (z1 : Int32) (I : Nat → Nat → Int32) (B : Nat → Value) (E : List (Nat × Nat)) : Int32 × (Nat → Nat → Int32) :=
  fMo_step_44 y1 y2 z1 (1 : Int32) I B E
def pMo_step_39  (y1 : Int32) (y2 : Int32) (z1 : Int32) (I : Nat → Nat → Int32) (B : Nat → Value) (E : List (Nat × Nat)) : Prop :=
  pMo_step_44 y1 y2 z1 (1 : Int32) I B E
def fMo_step_43  (y1 : Int32) (y2 : Int32) (z1 : Int32) (I : Nat → Nat → Int32) (B : Nat → Value) (E : List (Nat × Nat)) : Int32 × (Nat → Nat → Int32) :=
  fMo_step_44 y1 y2 z1 (0 : Int32) I B E
def pMo_step_43  (y1 : Int32) (y2 : Int32) (z1 : Int32) (I : Nat → Nat → Int32) (B : Nat → Value) (E : List (Nat × Nat)) : Prop :=
  pMo_step_44 y1 y2 z1 (0 : Int32) I B E
def fMo_step  (y1 : Int32) (y2 : Int32) (I : Nat → Nat → Int32) (B : Nat → Value) (E : List (Nat × Nat)) : Int32 × (Nat → Nat → Int32) :=
  if (I 40 52) = 0 then fMo_step_39 y1 y2 (1 : Int32) (pm_u I 40 2 (0 : Int32)) B E
  else if y1 < 0 then fMo_step_39 y1 y2 (1 : Int32) (pm_u I 40 2 (0 : Int32)) B E
    else if (I 40 51) < y1 then fMo_step_39 y1 y2 (1 : Int32) (pm_u I 40 2 (0 : Int32)) B E
      else if y2 = (1 : Int32) then if y1 = (I 40 51) then fMo_step_39 y1 y2 (1 : Int32) (pm_u I 40 2 (0 : Int32)) B E
          else fMo_step_43 y1 y2 (1 : Int32) (pm_u I 40 2 (0 : Int32)) B E
        else fMo_step_43 y1 y2 (1 : Int32) (pm_u I 40 2 (0 : Int32)) B E
def pMo_step  (y1 : Int32) (y2 : Int32) (I : Nat → Nat → Int32) (B : Nat → Value) (E : List (Nat × Nat)) : Prop :=
  ((I 40 52) = 0 → pMo_step_39 y1 y2 (1 : Int32) (pm_u I 40 2 (0 : Int32)) B E) ∧
  (¬ ((I 40 52) = 0) → (y1 < 0 → pMo_step_39 y1 y2 (1 : Int32) (pm_u I 40 2 (0 : Int32)) B E) ∧
    (¬ (y1 < 0) → ((I 40 51) < y1 → pMo_step_39 y1 y2 (1 : Int32) (pm_u I 40 2 (0 : Int32)) B E) ∧
      (¬ ((I 40 51) < y1) → (y2 = (1 : Int32) → (y1 = (I 40 51) → pMo_step_39 y1 y2 (1 : Int32) (pm_u I 40 2 (0 : Int32)) B E) ∧
          (¬ (y1 = (I 40 51)) → pMo_step_43 y1 y2 (1 : Int32) (pm_u I 40 2 (0 : Int32)) B E)) ∧
        (¬ (y2 = (1 : Int32)) → pMo_step_43 y1 y2 (1 : Int32) (pm_u I 40 2 (0 : Int32)) B E))))
set_option maxHeartbeats 4000000 in
set_option maxRecDepth 100000 in
theorem Mo_step_n72 (g : pmG) (d : Nat) (R : Nat → Nat → Value) (hR : mk_R R) (J : Nat → Nat → Int64) (o : Outcome) (Z : pmM)  (y1 : Int32) (y2 : Int32) (I : Nat → Nat → Int32) (B : Nat → Value) (E : List (Nat × Nat)) (hp : pMo_step_72 y1 y2 I B E) (ho : o = .returned (some (.int (fMo_step_72 y1 y2 I B E).1))) (hz : Z = (mk_K ++ E, mk_B R B, (fMo_step_72 y1 y2 I B E).2, J)) : pmE g kMo_step (d + 1) 0 0 72 [(0, .ref 40), (1, .int y1), (2, .int y2)] [] (mk_K ++ E) (mk_B R B) I J o Z := by
  unfold pMo_step_72 at hp
  refine pm_iconst (v := 0) dMo_step_72 (by decide) ?_
  exact pm_iret dMo_step_73 rfl (ho.trans (by first | (simp only [fMo_step_72]; done) | (simp only [fMo_step_72]; with_reducible rfl) | with_reducible rfl)) (hz.trans (by first | (simp only [fMo_step_72]; done) | (simp only [fMo_step_72]; with_reducible rfl) | with_reducible rfl))
set_option maxHeartbeats 4000000 in
set_option maxRecDepth 100000 in
theorem Mo_step_n69 (g : pmG) (d : Nat) (R : Nat → Nat → Value) (hR : mk_R R) (J : Nat → Nat → Int64) (o : Outcome) (Z : pmM)  (y1 : Int32) (y2 : Int32) (z0 : Int32) (I : Nat → Nat → Int32) (B : Nat → Value) (E : List (Nat × Nat)) (hp : pMo_step_69 y1 y2 z0 I B E) (ho : o = .returned (some (.int (fMo_step_69 y1 y2 z0 I B E).1))) (hz : Z = (mk_K ++ E, mk_B R B, (fMo_step_69 y1 y2 z0 I B E).2, J)) : pmE g kMo_step (d + 1) 0 0 69 [(0, .ref 40), (1, .int y1), (2, .int y2)] [.int z0] (mk_K ++ E) (mk_B R B) I J o Z := by
  unfold pMo_step_69 at hp
  refine pm_if_eq 74 dMo_step_69 (by decide) (fun h69 => ?_) (fun h69 => ?_)
  ·
    refine pm_iload_n dMo_step_74 rfl ?_
    refine pm_if_ne 87 dMo_step_75 (by decide) (fun h75 => ?_) (fun h75 => ?_)
    ·
      refine pm_aload_n dMo_step_87 rfl ?_
      refine pm_getr dMo_step_88 fMo_170 rfl (rr_40_50 (mk_RB hR _)) ?_
      refine pm_iload_n dMo_step_91 rfl ?_
      refine pm_iald dMo_step_92 rfl ((hp.1 h69).2 h75).1 ?_
      exact pm_iret dMo_step_93 rfl (ho.trans (by first | (simp only [fMo_step_69, if_pos h69, if_neg h75]; done) | (simp only [fMo_step_69, if_pos h69, if_neg h75]; with_reducible rfl) | with_reducible rfl)) (hz.trans (by first | (simp only [fMo_step_69, if_pos h69, if_neg h75]; done) | (simp only [fMo_step_69, if_pos h69, if_neg h75]; with_reducible rfl) | with_reducible rfl))
    ·
      refine pm_aload_n dMo_step_78 rfl ?_
      refine pm_getr dMo_step_79 fMo_167 rfl (rr_40_49 (mk_RB hR _)) ?_
      refine pm_iload_n dMo_step_82 rfl ?_
      refine pm_iald dMo_step_83 rfl ((hp.1 h69).1 h75).1 ?_
      refine pm_goto 93 dMo_step_84 (by decide) ?_
      exact pm_iret dMo_step_93 rfl (ho.trans (by first | (simp only [fMo_step_69, if_pos h69, if_pos h75]; done) | (simp only [fMo_step_69, if_pos h69, if_pos h75]; with_reducible rfl) | with_reducible rfl)) (hz.trans (by first | (simp only [fMo_step_69, if_pos h69, if_pos h75]; done) | (simp only [fMo_step_69, if_pos h69, if_pos h75]; with_reducible rfl) | with_reducible rfl))
  ·
    refine pm_wk [0, 1, 2] rfl ?_
    exact Mo_step_n72 g d R hR J _ _   _ _ _ _ _ (hp.2 h69) (ho.trans (by first | (simp only [fMo_step_69, if_neg h69]; done) | (simp only [fMo_step_69, if_neg h69]; with_reducible rfl) | with_reducible rfl)) (hz.trans (by first | (simp only [fMo_step_69, if_neg h69]; done) | (simp only [fMo_step_69, if_neg h69]; with_reducible rfl) | with_reducible rfl))
set_option maxHeartbeats 4000000 in
set_option maxRecDepth 100000 in
theorem Mo_step_n66 (g : pmG) (d : Nat) (R : Nat → Nat → Value) (hR : mk_R R) (J : Nat → Nat → Int64) (o : Outcome) (Z : pmM)  (y1 : Int32) (y2 : Int32) (z1 : Int32) (z2 : Int32) (I : Nat → Nat → Int32) (B : Nat → Value) (E : List (Nat × Nat)) (hp : pMo_step_66 y1 y2 z1 z2 I B E) (ho : o = .returned (some (.int (fMo_step_66 y1 y2 z1 z2 I B E).1))) (hz : Z = (mk_K ++ E, mk_B R B, (fMo_step_66 y1 y2 z1 z2 I B E).2, J)) : pmE g kMo_step (d + 1) 0 0 66 [(0, .ref 40), (1, .int y1), (2, .int y2)] [.int z2, .int z1, .ref 40] (mk_K ++ E) (mk_B R B) I J o Z := by
  unfold pMo_step_66 at hp
  refine pm_callV dMo_step_66 lMo_180 vMo_refuse ⟨_, _, rfl⟩ (Mo_refuse_ok _ _ _ _ (mk_RB hR _) _ _ _ _ hp.1) rfl rfl rfl (Nat.le_of_ble_eq_true rfl) (Nat.le_refl _) (Nat.le_refl _) ?_
  refine pm_wk [0, 1, 2] rfl ?_
  exact Mo_step_n69 g d R hR J _ _   _ _ _ _ _ _ hp.2 (ho.trans (by first | (simp only [fMo_step_66]; done) | (simp only [fMo_step_66]; with_reducible rfl) | with_reducible rfl)) (hz.trans (by first | (simp only [fMo_step_66]; done) | (simp only [fMo_step_66]; with_reducible rfl) | with_reducible rfl))
set_option maxHeartbeats 4000000 in
set_option maxRecDepth 100000 in
theorem Mo_step_n61 (g : pmG) (d : Nat) (R : Nat → Nat → Value) (hR : mk_R R) (J : Nat → Nat → Int64) (o : Outcome) (Z : pmM)  (y1 : Int32) (y2 : Int32) (z1 : Int32) (I : Nat → Nat → Int32) (B : Nat → Value) (E : List (Nat × Nat)) (hp : pMo_step_61 y1 y2 z1 I B E) (ho : o = .returned (some (.int (fMo_step_61 y1 y2 z1 I B E).1))) (hz : Z = (mk_K ++ E, mk_B R B, (fMo_step_61 y1 y2 z1 I B E).2, J)) : pmE g kMo_step (d + 1) 0 0 61 [(0, .ref 40), (1, .int y1), (2, .int y2)] [.int z1, .ref 40] (mk_K ++ E) (mk_B R B) I J o Z := by
  unfold pMo_step_61 at hp
  refine pm_iconst (v := 1) dMo_step_61 (by decide) ?_
  refine pm_goto 66 dMo_step_62 (by decide) ?_
  refine pm_wk [0, 1, 2] rfl ?_
  exact Mo_step_n66 g d R hR J _ _   _ _ _ _ _ _ _ hp (ho.trans (by first | (simp only [fMo_step_61]; done) | (simp only [fMo_step_61]; with_reducible rfl) | with_reducible rfl)) (hz.trans (by first | (simp only [fMo_step_61]; done) | (simp only [fMo_step_61]; with_reducible rfl) | with_reducible rfl))
set_option maxHeartbeats 4000000 in
set_option maxRecDepth 100000 in
theorem Mo_step_n47 (g : pmG) (d : Nat) (R : Nat → Nat → Value) (hR : mk_R R) (J : Nat → Nat → Int64) (o : Outcome) (Z : pmM)  (y1 : Int32) (y2 : Int32) (z0 : Int32) (I : Nat → Nat → Int32) (B : Nat → Value) (E : List (Nat × Nat)) (hp : pMo_step_47 y1 y2 z0 I B E) (ho : o = .returned (some (.int (fMo_step_47 y1 y2 z0 I B E).1))) (hz : Z = (mk_K ++ E, mk_B R B, (fMo_step_47 y1 y2 z0 I B E).2, J)) : pmE g kMo_step (d + 1) 0 0 47 [(0, .ref 40), (1, .int y1), (2, .int y2)] [.int z0] (mk_K ++ E) (mk_B R B) I J o Z := by
  unfold pMo_step_47 at hp
  refine pm_if_ne 72 dMo_step_47 (by decide) (fun h47 => ?_) (fun h47 => ?_)
  ·
    refine pm_wk [0, 1, 2] rfl ?_
    exact Mo_step_n72 g d R hR J _ _   _ _ _ _ _ (hp.2 h47) (ho.trans (by first | (simp only [fMo_step_47, if_neg h47]; done) | (simp only [fMo_step_47, if_neg h47]; with_reducible rfl) | with_reducible rfl)) (hz.trans (by first | (simp only [fMo_step_47, if_neg h47]; done) | (simp only [fMo_step_47, if_neg h47]; with_reducible rfl) | with_reducible rfl))
  ·
    refine pm_aload_n dMo_step_50 rfl ?_
    refine pm_iconst (v := 2) dMo_step_51 (by decide) ?_
    refine pm_iload_n dMo_step_52 rfl ?_
    refine pm_if_lt 61 dMo_step_53 (by decide) (fun h53 => ?_) (fun h53 => ?_)
    ·
      refine pm_wk [0, 1, 2] rfl ?_
      exact Mo_step_n61 g d R hR J _ _   _ _ _ _ _ _ ((hp.1 h47).1 h53) (ho.trans (by first | (simp only [fMo_step_47, if_pos h47, if_pos h53]; done) | (simp only [fMo_step_47, if_pos h47, if_pos h53]; with_reducible rfl) | with_reducible rfl)) (hz.trans (by first | (simp only [fMo_step_47, if_pos h47, if_pos h53]; done) | (simp only [fMo_step_47, if_pos h47, if_pos h53]; with_reducible rfl) | with_reducible rfl))
    ·
      refine pm_iload_n dMo_step_56 rfl ?_
      refine pm_iconst (v := 1) dMo_step_57 (by decide) ?_
      refine pm_icmp_le 65 dMo_step_58 (by decide) (fun h58 => ?_) (fun h58 => ?_)
      ·
        refine pm_iconst (v := 0) dMo_step_65 (by decide) ?_
        refine pm_wk [0, 1, 2] rfl ?_
        exact Mo_step_n66 g d R hR J _ _   _ _ _ _ _ _ _ (((hp.1 h47).2 h53).1 h58) (ho.trans (by first | (simp only [fMo_step_47, if_pos h47, if_neg h53, if_pos h58]; done) | (simp only [fMo_step_47, if_pos h47, if_neg h53, if_pos h58]; with_reducible rfl) | with_reducible rfl)) (hz.trans (by first | (simp only [fMo_step_47, if_pos h47, if_neg h53, if_pos h58]; done) | (simp only [fMo_step_47, if_pos h47, if_neg h53, if_pos h58]; with_reducible rfl) | with_reducible rfl))
      ·
        refine pm_wk [0, 1, 2] rfl ?_
        exact Mo_step_n61 g d R hR J _ _   _ _ _ _ _ _ (((hp.1 h47).2 h53).2 h58) (ho.trans (by first | (simp only [fMo_step_47, if_pos h47, if_neg h53, if_neg h58]; done) | (simp only [fMo_step_47, if_pos h47, if_neg h53, if_neg h58]; with_reducible rfl) | with_reducible rfl)) (hz.trans (by first | (simp only [fMo_step_47, if_pos h47, if_neg h53, if_neg h58]; done) | (simp only [fMo_step_47, if_pos h47, if_neg h53, if_neg h58]; with_reducible rfl) | with_reducible rfl))
set_option maxHeartbeats 4000000 in
set_option maxRecDepth 100000 in
theorem Mo_step_n44 (g : pmG) (d : Nat) (R : Nat → Nat → Value) (hR : mk_R R) (J : Nat → Nat → Int64) (o : Outcome) (Z : pmM)  (y1 : Int32) (y2 : Int32) (z1 : Int32) (z2 : Int32) (I : Nat → Nat → Int32) (B : Nat → Value) (E : List (Nat × Nat)) (hp : pMo_step_44 y1 y2 z1 z2 I B E) (ho : o = .returned (some (.int (fMo_step_44 y1 y2 z1 z2 I B E).1))) (hz : Z = (mk_K ++ E, mk_B R B, (fMo_step_44 y1 y2 z1 z2 I B E).2, J)) : pmE g kMo_step (d + 1) 0 0 44 [(0, .ref 40), (1, .int y1), (2, .int y2)] [.int z2, .int z1, .ref 40] (mk_K ++ E) (mk_B R B) I J o Z := by
  unfold pMo_step_44 at hp
  refine pm_callV dMo_step_44 lMo_180 vMo_refuse ⟨_, _, rfl⟩ (Mo_refuse_ok _ _ _ _ (mk_RB hR _) _ _ _ _ hp.1) rfl rfl rfl (Nat.le_of_ble_eq_true rfl) (Nat.le_refl _) (Nat.le_refl _) ?_
  refine pm_wk [0, 1, 2] rfl ?_
  exact Mo_step_n47 g d R hR J _ _   _ _ _ _ _ _ hp.2 (ho.trans (by first | (simp only [fMo_step_44]; done) | (simp only [fMo_step_44]; with_reducible rfl) | with_reducible rfl)) (hz.trans (by first | (simp only [fMo_step_44]; done) | (simp only [fMo_step_44]; with_reducible rfl) | with_reducible rfl))
set_option maxHeartbeats 4000000 in
set_option maxRecDepth 100000 in
theorem Mo_step_n39 (g : pmG) (d : Nat) (R : Nat → Nat → Value) (hR : mk_R R) (J : Nat → Nat → Int64) (o : Outcome) (Z : pmM)  (y1 : Int32) (y2 : Int32) (z1 : Int32) (I : Nat → Nat → Int32) (B : Nat → Value) (E : List (Nat × Nat)) (hp : pMo_step_39 y1 y2 z1 I B E) (ho : o = .returned (some (.int (fMo_step_39 y1 y2 z1 I B E).1))) (hz : Z = (mk_K ++ E, mk_B R B, (fMo_step_39 y1 y2 z1 I B E).2, J)) : pmE g kMo_step (d + 1) 0 0 39 [(0, .ref 40), (1, .int y1), (2, .int y2)] [.int z1, .ref 40] (mk_K ++ E) (mk_B R B) I J o Z := by
  unfold pMo_step_39 at hp
  refine pm_iconst (v := 1) dMo_step_39 (by decide) ?_
  refine pm_goto 44 dMo_step_40 (by decide) ?_
  refine pm_wk [0, 1, 2] rfl ?_
  exact Mo_step_n44 g d R hR J _ _   _ _ _ _ _ _ _ hp (ho.trans (by first | (simp only [fMo_step_39]; done) | (simp only [fMo_step_39]; with_reducible rfl) | with_reducible rfl)) (hz.trans (by first | (simp only [fMo_step_39]; done) | (simp only [fMo_step_39]; with_reducible rfl) | with_reducible rfl))
set_option maxHeartbeats 4000000 in
set_option maxRecDepth 100000 in
theorem Mo_step_n43 (g : pmG) (d : Nat) (R : Nat → Nat → Value) (hR : mk_R R) (J : Nat → Nat → Int64) (o : Outcome) (Z : pmM)  (y1 : Int32) (y2 : Int32) (z1 : Int32) (I : Nat → Nat → Int32) (B : Nat → Value) (E : List (Nat × Nat)) (hp : pMo_step_43 y1 y2 z1 I B E) (ho : o = .returned (some (.int (fMo_step_43 y1 y2 z1 I B E).1))) (hz : Z = (mk_K ++ E, mk_B R B, (fMo_step_43 y1 y2 z1 I B E).2, J)) : pmE g kMo_step (d + 1) 0 0 43 [(0, .ref 40), (1, .int y1), (2, .int y2)] [.int z1, .ref 40] (mk_K ++ E) (mk_B R B) I J o Z := by
  unfold pMo_step_43 at hp
  refine pm_iconst (v := 0) dMo_step_43 (by decide) ?_
  refine pm_wk [0, 1, 2] rfl ?_
  exact Mo_step_n44 g d R hR J _ _   _ _ _ _ _ _ _ hp (ho.trans (by first | (simp only [fMo_step_43]; done) | (simp only [fMo_step_43]; with_reducible rfl) | with_reducible rfl)) (hz.trans (by first | (simp only [fMo_step_43]; done) | (simp only [fMo_step_43]; with_reducible rfl) | with_reducible rfl))
set_option maxHeartbeats 4000000 in
set_option maxRecDepth 100000 in
theorem Mo_step_n0 (g : pmG) (d : Nat) (R : Nat → Nat → Value) (hR : mk_R R) (J : Nat → Nat → Int64) (o : Outcome) (Z : pmM)  (y1 : Int32) (y2 : Int32) (I : Nat → Nat → Int32) (B : Nat → Value) (E : List (Nat × Nat)) (hp : pMo_step y1 y2 I B E) (ho : o = .returned (some (.int (fMo_step y1 y2 I B E).1))) (hz : Z = (mk_K ++ E, mk_B R B, (fMo_step y1 y2 I B E).2, J)) : pmE g kMo_step (d + 1) 0 0 0 [(0, .ref 40), (1, .int y1), (2, .int y2)] [] (mk_K ++ E) (mk_B R B) I J o Z := by
  unfold pMo_step at hp
  refine pm_aload_n dMo_step_0 rfl ?_
  refine pm_iconst (v := 0) dMo_step_1 (by decide) ?_
  refine pm_puti dMo_step_2 fMo_18 sMo_18 (fun h => by cases h) rfl rfl rfl ?_
  refine pm_aload_n dMo_step_5 rfl ?_
  refine pm_iconst (v := 1) dMo_step_6 (by decide) ?_
  refine pm_aload_n dMo_step_7 rfl ?_
  refine pm_geti dMo_step_8 fMo_176 rfl ?_
  refine pm_eqi (I 40 52) rfl ?_
  refine pm_if_eq 39 dMo_step_11 (by decide) (fun h11 => ?_) (fun h11 => ?_)
  ·
    refine pm_wk [0, 1, 2] rfl ?_
    exact Mo_step_n39 g d R hR J _ _   _ _ _ _ _ _ (hp.1 h11) (ho.trans (by first | (simp only [fMo_step, if_pos h11]; done) | (simp only [fMo_step, if_pos h11]; with_reducible rfl) | with_reducible rfl)) (hz.trans (by first | (simp only [fMo_step, if_pos h11]; done) | (simp only [fMo_step, if_pos h11]; with_reducible rfl) | with_reducible rfl))
  ·
    refine pm_iload_n dMo_step_14 rfl ?_
    refine pm_if_lt 39 dMo_step_15 (by decide) (fun h15 => ?_) (fun h15 => ?_)
    ·
      refine pm_wk [0, 1, 2] rfl ?_
      exact Mo_step_n39 g d R hR J _ _   _ _ _ _ _ _ ((hp.2 h11).1 h15) (ho.trans (by first | (simp only [fMo_step, if_neg h11, if_pos h15]; done) | (simp only [fMo_step, if_neg h11, if_pos h15]; with_reducible rfl) | with_reducible rfl)) (hz.trans (by first | (simp only [fMo_step, if_neg h11, if_pos h15]; done) | (simp only [fMo_step, if_neg h11, if_pos h15]; with_reducible rfl) | with_reducible rfl))
    ·
      refine pm_iload_n dMo_step_18 rfl ?_
      refine pm_aload_n dMo_step_19 rfl ?_
      refine pm_geti dMo_step_20 fMo_173 rfl ?_
      refine pm_eqi (I 40 51) rfl ?_
      refine pm_icmp_gt 39 dMo_step_23 (by decide) (fun h23 => ?_) (fun h23 => ?_)
      ·
        refine pm_wk [0, 1, 2] rfl ?_
        exact Mo_step_n39 g d R hR J _ _   _ _ _ _ _ _ (((hp.2 h11).2 h15).1 h23) (ho.trans (by first | (simp only [fMo_step, if_neg h11, if_neg h15, if_pos h23]; done) | (simp only [fMo_step, if_neg h11, if_neg h15, if_pos h23]; with_reducible rfl) | with_reducible rfl)) (hz.trans (by first | (simp only [fMo_step, if_neg h11, if_neg h15, if_pos h23]; done) | (simp only [fMo_step, if_neg h11, if_neg h15, if_pos h23]; with_reducible rfl) | with_reducible rfl))
      ·
        refine pm_iload_n dMo_step_26 rfl ?_
        refine pm_iconst (v := 1) dMo_step_27 (by decide) ?_
        refine pm_icmp_ne 43 dMo_step_28 (by decide) (fun h28 => ?_) (fun h28 => ?_)
        ·
          refine pm_wk [0, 1, 2] rfl ?_
          exact Mo_step_n43 g d R hR J _ _   _ _ _ _ _ _ ((((hp.2 h11).2 h15).2 h23).2 h28) (ho.trans (by first | (simp only [fMo_step, if_neg h11, if_neg h15, if_neg h23, if_neg h28]; done) | (simp only [fMo_step, if_neg h11, if_neg h15, if_neg h23, if_neg h28]; with_reducible rfl) | with_reducible rfl)) (hz.trans (by first | (simp only [fMo_step, if_neg h11, if_neg h15, if_neg h23, if_neg h28]; done) | (simp only [fMo_step, if_neg h11, if_neg h15, if_neg h23, if_neg h28]; with_reducible rfl) | with_reducible rfl))
        ·
          refine pm_iload_n dMo_step_31 rfl ?_
          refine pm_aload_n dMo_step_32 rfl ?_
          refine pm_geti dMo_step_33 fMo_173 rfl ?_
          refine pm_eqi (I 40 51) rfl ?_
          refine pm_icmp_ne 43 dMo_step_36 (by decide) (fun h36 => ?_) (fun h36 => ?_)
          ·
            refine pm_wk [0, 1, 2] rfl ?_
            exact Mo_step_n43 g d R hR J _ _   _ _ _ _ _ _ (((((hp.2 h11).2 h15).2 h23).1 h28).2 h36) (ho.trans (by first | (simp only [fMo_step, if_neg h11, if_neg h15, if_neg h23, if_pos h28, if_neg h36]; done) | (simp only [fMo_step, if_neg h11, if_neg h15, if_neg h23, if_pos h28, if_neg h36]; with_reducible rfl) | with_reducible rfl)) (hz.trans (by first | (simp only [fMo_step, if_neg h11, if_neg h15, if_neg h23, if_pos h28, if_neg h36]; done) | (simp only [fMo_step, if_neg h11, if_neg h15, if_neg h23, if_pos h28, if_neg h36]; with_reducible rfl) | with_reducible rfl))
          ·
            refine pm_wk [0, 1, 2] rfl ?_
            exact Mo_step_n39 g d R hR J _ _   _ _ _ _ _ _ (((((hp.2 h11).2 h15).2 h23).1 h28).1 h36) (ho.trans (by first | (simp only [fMo_step, if_neg h11, if_neg h15, if_neg h23, if_pos h28, if_pos h36]; done) | (simp only [fMo_step, if_neg h11, if_neg h15, if_neg h23, if_pos h28, if_pos h36]; with_reducible rfl) | with_reducible rfl)) (hz.trans (by first | (simp only [fMo_step, if_neg h11, if_neg h15, if_neg h23, if_pos h28, if_pos h36]; done) | (simp only [fMo_step, if_neg h11, if_neg h15, if_neg h23, if_pos h28, if_pos h36]; with_reducible rfl) | with_reducible rfl))
set_option maxHeartbeats 4000000 in
set_option maxRecDepth 100000 in
theorem Mo_step_ok (g : pmG) (d : Nat) (R : Nat → Nat → Value) (hR : mk_R R)  (x0 : Int32) (x1 : Int32) (I : Nat → Nat → Int32) (B : Nat → Value) (E : List (Nat × Nat)) (J : Nat → Nat → Int64) (hp : pMo_step x0 x1 I B E) : pmC g kMo_step (d + 1) 0 0 [.ref 40, .int x0, .int x1] (mk_K ++ E, mk_B R B, I, J) (.returned (some (.int (fMo_step x0 x1 I B E).1))) (mk_K ++ E, mk_B R B, (fMo_step x0 x1 I B E).2, J) :=
  pmC.of (by decide) (Nat.le_of_ble_eq_true rfl) (Mo_step_n0 g d R hR J _ _  x0 x1 I B E hp rfl rfl)
def fMo_tick_27  (y1 : Int32) (z0 : Int32) (I : Nat → Nat → Int32) (B : Nat → Value) (E : List (Nat × Nat)) : Int32 × (Nat → Nat → Int32) :=
  if z0 = 0 then (I (64 + (I 40 46).toNatClampNeg) y1.toNatClampNeg, pm_u I 40 46 (I (64 + (I 40 46).toNatClampNeg) y1.toNatClampNeg))
  else ((0 : Int32), I)
def pMo_tick_27  (y1 : Int32) (z0 : Int32) (I : Nat → Nat → Int32) (B : Nat → Value) (E : List (Nat × Nat)) : Prop :=
  (z0 = 0 → (vp_in (I 40 46) 256) ∧ ((vp_in y1 8) ∧ True)) ∧
  (¬ (z0 = 0) → True)
def fMo_tick_24  (y1 : Int32) (z1 : Int32) (z2 : Int32) (I : Nat → Nat → Int32) (B : Nat → Value) (E : List (Nat × Nat)) : Int32 × (Nat → Nat → Int32) :=
  fMo_tick_27 y1 ((fMo_refuse z1 z2 I).1) ((fMo_refuse z1 z2 I).2) B E
def pMo_tick_24  (y1 : Int32) (z1 : Int32) (z2 : Int32) (I : Nat → Nat → Int32) (B : Nat → Value) (E : List (Nat × Nat)) : Prop :=
  (pMo_refuse z1 z2 I) ∧ (pMo_tick_27 y1 ((fMo_refuse z1 z2 I).1) ((fMo_refuse z1 z2 I).2) B E)
def fMo_tick_19  (y1 : Int32) (z1 : Int32) (I : Nat → Nat → Int32) (B : Nat → Value) (E : List (Nat × Nat)) : Int32 × (Nat → Nat → Int32) :=
  fMo_tick_24 y1 z1 (1 : Int32) I B E
def pMo_tick_19  (y1 : Int32) (z1 : Int32) (I : Nat → Nat → Int32) (B : Nat → Value) (E : List (Nat × Nat)) : Prop :=
  pMo_tick_24 y1 z1 (1 : Int32) I B E
def fMo_tick  (y1 : Int32) (I : Nat → Nat → Int32) (B : Nat → Value) (E : List (Nat × Nat)) : Int32 × (Nat → Nat → Int32) :=
  if y1 < 0 then fMo_tick_19 y1 (1 : Int32) (pm_u I 40 2 (0 : Int32)) B E
  else if y1 < ((fMo_allInputs (pm_u I 40 2 (0 : Int32)))) then fMo_tick_24 y1 (1 : Int32) (0 : Int32) (pm_u I 40 2 (0 : Int32)) B E
    else fMo_tick_19 y1 (1 : Int32) (pm_u I 40 2 (0 : Int32)) B E
def pMo_tick  (y1 : Int32) (I : Nat → Nat → Int32) (B : Nat → Value) (E : List (Nat × Nat)) : Prop :=
  (y1 < 0 → pMo_tick_19 y1 (1 : Int32) (pm_u I 40 2 (0 : Int32)) B E) ∧
  (¬ (y1 < 0) → (pMo_allInputs (pm_u I 40 2 (0 : Int32))) ∧ ((y1 < ((fMo_allInputs (pm_u I 40 2 (0 : Int32)))) → pMo_tick_24 y1 (1 : Int32) (0 : Int32) (pm_u I 40 2 (0 : Int32)) B E) ∧
    (¬ (y1 < ((fMo_allInputs (pm_u I 40 2 (0 : Int32))))) → pMo_tick_19 y1 (1 : Int32) (pm_u I 40 2 (0 : Int32)) B E)))
set_option maxHeartbeats 4000000 in
set_option maxRecDepth 100000 in
theorem Mo_tick_n27 (g : pmG) (d : Nat) (R : Nat → Nat → Value) (hR : mk_R R) (J : Nat → Nat → Int64) (o : Outcome) (Z : pmM)  (y1 : Int32) (z0 : Int32) (I : Nat → Nat → Int32) (B : Nat → Value) (E : List (Nat × Nat)) (hp : pMo_tick_27 y1 z0 I B E) (ho : o = .returned (some (.int (fMo_tick_27 y1 z0 I B E).1))) (hz : Z = (mk_K ++ E, mk_B R B, (fMo_tick_27 y1 z0 I B E).2, J)) : pmE g kMo_tick (d + 1) 0 0 27 [(0, .ref 40), (1, .int y1)] [.int z0] (mk_K ++ E) (mk_B R B) I J o Z := by
  unfold pMo_tick_27 at hp
  refine pm_if_eq 32 dMo_tick_27 (by decide) (fun h27 => ?_) (fun h27 => ?_)
  ·
    refine pm_aload_n dMo_tick_32 rfl ?_
    refine pm_aload_n dMo_tick_33 rfl ?_
    refine pm_getr dMo_tick_34 fMo_142 rfl (rr_40_42 (mk_RB hR _)) ?_
    refine pm_aload_n dMo_tick_37 rfl ?_
    refine pm_geti dMo_tick_38 fMo_158 rfl ?_
    have hq41 := (hp.1 h27).1
    refine pm_aald dMo_tick_41 rfl (Or.inl rfl) (hp.1 h27).1 ((mk_RB hR _).2.1 _ (vp_lt (hp.1 h27).1)) (Or.inr ⟨_, rfl⟩) ?_
    refine pm_iload_n dMo_tick_42 rfl ?_
    refine pm_iald dMo_tick_43 (mk_fA _ (vp_lt hq41)) (hp.1 h27).2.1 ?_
    refine pm_puti dMo_tick_44 fMo_158 sMo_158 (fun h => by cases h) rfl rfl rfl ?_
    refine pm_aload_n dMo_tick_47 rfl ?_
    refine pm_geti dMo_tick_48 fMo_158 rfl ?_
    refine pm_eqi (I (64 + (I 40 46).toNatClampNeg) y1.toNatClampNeg) rfl ?_
    exact pm_iret dMo_tick_51 rfl (ho.trans (by first | (simp only [fMo_tick_27, if_pos h27]; done) | (simp only [fMo_tick_27, if_pos h27]; with_reducible rfl) | with_reducible rfl)) (hz.trans (by first | (simp only [fMo_tick_27, if_pos h27]; done) | (simp only [fMo_tick_27, if_pos h27]; with_reducible rfl) | with_reducible rfl))
  ·
    refine pm_iconst (v := 0) dMo_tick_30 (by decide) ?_
    exact pm_iret dMo_tick_31 rfl (ho.trans (by first | (simp only [fMo_tick_27, if_neg h27]; done) | (simp only [fMo_tick_27, if_neg h27]; with_reducible rfl) | with_reducible rfl)) (hz.trans (by first | (simp only [fMo_tick_27, if_neg h27]; done) | (simp only [fMo_tick_27, if_neg h27]; with_reducible rfl) | with_reducible rfl))
set_option maxHeartbeats 4000000 in
set_option maxRecDepth 100000 in
theorem Mo_tick_n24 (g : pmG) (d : Nat) (R : Nat → Nat → Value) (hR : mk_R R) (J : Nat → Nat → Int64) (o : Outcome) (Z : pmM)  (y1 : Int32) (z1 : Int32) (z2 : Int32) (I : Nat → Nat → Int32) (B : Nat → Value) (E : List (Nat × Nat)) (hp : pMo_tick_24 y1 z1 z2 I B E) (ho : o = .returned (some (.int (fMo_tick_24 y1 z1 z2 I B E).1))) (hz : Z = (mk_K ++ E, mk_B R B, (fMo_tick_24 y1 z1 z2 I B E).2, J)) : pmE g kMo_tick (d + 1) 0 0 24 [(0, .ref 40), (1, .int y1)] [.int z2, .int z1, .ref 40] (mk_K ++ E) (mk_B R B) I J o Z := by
  unfold pMo_tick_24 at hp
  refine pm_callV dMo_tick_24 lMo_180 vMo_refuse ⟨_, _, rfl⟩ (Mo_refuse_ok _ _ _ _ (mk_RB hR _) _ _ _ _ hp.1) rfl rfl rfl (Nat.le_of_ble_eq_true rfl) (Nat.le_refl _) (Nat.le_refl _) ?_
  refine pm_wk [0, 1] rfl ?_
  exact Mo_tick_n27 g d R hR J _ _   _ _ _ _ _ hp.2 (ho.trans (by first | (simp only [fMo_tick_24]; done) | (simp only [fMo_tick_24]; with_reducible rfl) | with_reducible rfl)) (hz.trans (by first | (simp only [fMo_tick_24]; done) | (simp only [fMo_tick_24]; with_reducible rfl) | with_reducible rfl))
set_option maxHeartbeats 4000000 in
set_option maxRecDepth 100000 in
theorem Mo_tick_n19 (g : pmG) (d : Nat) (R : Nat → Nat → Value) (hR : mk_R R) (J : Nat → Nat → Int64) (o : Outcome) (Z : pmM)  (y1 : Int32) (z1 : Int32) (I : Nat → Nat → Int32) (B : Nat → Value) (E : List (Nat × Nat)) (hp : pMo_tick_19 y1 z1 I B E) (ho : o = .returned (some (.int (fMo_tick_19 y1 z1 I B E).1))) (hz : Z = (mk_K ++ E, mk_B R B, (fMo_tick_19 y1 z1 I B E).2, J)) : pmE g kMo_tick (d + 1) 0 0 19 [(0, .ref 40), (1, .int y1)] [.int z1, .ref 40] (mk_K ++ E) (mk_B R B) I J o Z := by
  unfold pMo_tick_19 at hp
  refine pm_iconst (v := 1) dMo_tick_19 (by decide) ?_
  refine pm_goto 24 dMo_tick_20 (by decide) ?_
  refine pm_wk [0, 1] rfl ?_
  exact Mo_tick_n24 g d R hR J _ _   _ _ _ _ _ _ hp (ho.trans (by first | (simp only [fMo_tick_19]; done) | (simp only [fMo_tick_19]; with_reducible rfl) | with_reducible rfl)) (hz.trans (by first | (simp only [fMo_tick_19]; done) | (simp only [fMo_tick_19]; with_reducible rfl) | with_reducible rfl))
set_option maxHeartbeats 4000000 in
set_option maxRecDepth 100000 in
theorem Mo_tick_n0 (g : pmG) (d : Nat) (R : Nat → Nat → Value) (hR : mk_R R) (J : Nat → Nat → Int64) (o : Outcome) (Z : pmM)  (y1 : Int32) (I : Nat → Nat → Int32) (B : Nat → Value) (E : List (Nat × Nat)) (hp : pMo_tick y1 I B E) (ho : o = .returned (some (.int (fMo_tick y1 I B E).1))) (hz : Z = (mk_K ++ E, mk_B R B, (fMo_tick y1 I B E).2, J)) : pmE g kMo_tick (d + 1) 0 0 0 [(0, .ref 40), (1, .int y1)] [] (mk_K ++ E) (mk_B R B) I J o Z := by
  unfold pMo_tick at hp
  refine pm_aload_n dMo_tick_0 rfl ?_
  refine pm_iconst (v := 0) dMo_tick_1 (by decide) ?_
  refine pm_puti dMo_tick_2 fMo_18 sMo_18 (fun h => by cases h) rfl rfl rfl ?_
  refine pm_aload_n dMo_tick_5 rfl ?_
  refine pm_iconst (v := 1) dMo_tick_6 (by decide) ?_
  refine pm_iload_n dMo_tick_7 rfl ?_
  refine pm_if_lt 19 dMo_tick_8 (by decide) (fun h8 => ?_) (fun h8 => ?_)
  ·
    refine pm_wk [0, 1] rfl ?_
    exact Mo_tick_n19 g d R hR J _ _   _ _ _ _ _ (hp.1 h8) (ho.trans (by first | (simp only [fMo_tick, if_pos h8]; done) | (simp only [fMo_tick, if_pos h8]; with_reducible rfl) | with_reducible rfl)) (hz.trans (by first | (simp only [fMo_tick, if_pos h8]; done) | (simp only [fMo_tick, if_pos h8]; with_reducible rfl) | with_reducible rfl))
  ·
    refine pm_iload_n dMo_tick_11 rfl ?_
    refine pm_aload_n dMo_tick_12 rfl ?_
    refine pm_callV dMo_tick_13 lMo_348 vMo_allInputs ⟨_, _, rfl⟩ (Mo_allInputs_ok _ _ _ _ (mk_RB hR _)  _ _ (hp.2 h8).1) rfl rfl rfl (Nat.le_of_ble_eq_true rfl) (Nat.le_refl _) (Nat.le_refl _) ?_
    refine pm_icmp_lt 23 dMo_tick_16 (by decide) (fun h16 => ?_) (fun h16 => ?_)
    ·
      refine pm_iconst (v := 0) dMo_tick_23 (by decide) ?_
      refine pm_wk [0, 1] rfl ?_
      exact Mo_tick_n24 g d R hR J _ _   _ _ _ _ _ _ ((hp.2 h8).2.1 h16) (ho.trans (by first | (simp only [fMo_tick, if_neg h8, if_pos h16]; done) | (simp only [fMo_tick, if_neg h8, if_pos h16]; with_reducible rfl) | with_reducible rfl)) (hz.trans (by first | (simp only [fMo_tick, if_neg h8, if_pos h16]; done) | (simp only [fMo_tick, if_neg h8, if_pos h16]; with_reducible rfl) | with_reducible rfl))
    ·
      refine pm_wk [0, 1] rfl ?_
      exact Mo_tick_n19 g d R hR J _ _   _ _ _ _ _ ((hp.2 h8).2.2 h16) (ho.trans (by first | (simp only [fMo_tick, if_neg h8, if_neg h16]; done) | (simp only [fMo_tick, if_neg h8, if_neg h16]; with_reducible rfl) | with_reducible rfl)) (hz.trans (by first | (simp only [fMo_tick, if_neg h8, if_neg h16]; done) | (simp only [fMo_tick, if_neg h8, if_neg h16]; with_reducible rfl) | with_reducible rfl))
set_option maxHeartbeats 4000000 in
set_option maxRecDepth 100000 in
theorem Mo_tick_ok (g : pmG) (d : Nat) (R : Nat → Nat → Value) (hR : mk_R R)  (x0 : Int32) (I : Nat → Nat → Int32) (B : Nat → Value) (E : List (Nat × Nat)) (J : Nat → Nat → Int64) (hp : pMo_tick x0 I B E) : pmC g kMo_tick (d + 1) 0 0 [.ref 40, .int x0] (mk_K ++ E, mk_B R B, I, J) (.returned (some (.int (fMo_tick x0 I B E).1))) (mk_K ++ E, mk_B R B, (fMo_tick x0 I B E).2, J) :=
  pmC.of (by decide) (Nat.le_of_ble_eq_true rfl) (Mo_tick_n0 g d R hR J _ _  x0 I B E hp rfl rfl)
def fMo_value2_55  (y1 : Int32) (y2 : Int32) (I : Nat → Nat → Int32) (B : Nat → Value) (E : List (Nat × Nat)) : Int32 × (Nat → Nat → Int32) :=
  ((0 : Int32), I)
def pMo_value2_55  (y1 : Int32) (y2 : Int32) (I : Nat → Nat → Int32) (B : Nat → Value) (E : List (Nat × Nat)) : Prop :=
  True
def fMo_value2_66  (y1 : Int32) (y2 : Int32) (I : Nat → Nat → Int32) (B : Nat → Value) (E : List (Nat × Nat)) : Int32 × (Nat → Nat → Int32) :=
  if (I 44 y1.toNatClampNeg) = 1 then (I 60 (I 45 y1.toNatClampNeg).toNatClampNeg, I)
  else if (I 44 y1.toNatClampNeg) = 2 then (I 61 (I 45 y1.toNatClampNeg).toNatClampNeg, I)
  else if (I 44 y1.toNatClampNeg) = 3 then (I 62 (I 45 y1.toNatClampNeg).toNatClampNeg, I)
  else if (I (323 + (I 45 y1.toNatClampNeg).toNatClampNeg) (I 40 46).toNatClampNeg) = 0 then ((0 : Int32), I)
    else ((1 : Int32), I)
def pMo_value2_66  (y1 : Int32) (y2 : Int32) (I : Nat → Nat → Int32) (B : Nat → Value) (E : List (Nat × Nat)) : Prop :=
  (vp_in y1 60) ∧ (((I 44 y1.toNatClampNeg) = 1 → (vp_in y1 60) ∧ ((vp_in (I 45 y1.toNatClampNeg) 8) ∧ True)) ∧
  (¬ ((I 44 y1.toNatClampNeg) = 1) → ((I 44 y1.toNatClampNeg) = 2 → (vp_in y1 60) ∧ ((vp_in (I 45 y1.toNatClampNeg) 3) ∧ True)) ∧
  (¬ ((I 44 y1.toNatClampNeg) = 2) → ((I 44 y1.toNatClampNeg) = 3 → (vp_in y1 60) ∧ ((vp_in (I 45 y1.toNatClampNeg) 60) ∧ True)) ∧
  (¬ ((I 44 y1.toNatClampNeg) = 3) → (vp_in y1 60) ∧ ((vp_in (I 45 y1.toNatClampNeg) 30) ∧ ((vp_in (I 40 46) 256) ∧ (((I (323 + (I 45 y1.toNatClampNeg).toNatClampNeg) (I 40 46).toNatClampNeg) = 0 → True) ∧
    (¬ ((I (323 + (I 45 y1.toNatClampNeg).toNatClampNeg) (I 40 46).toNatClampNeg) = 0) → True))))))))
def fMo_value2_52  (y1 : Int32) (y2 : Int32) (z0 : Int32) (I : Nat → Nat → Int32) (B : Nat → Value) (E : List (Nat × Nat)) : Int32 × (Nat → Nat → Int32) :=
  if z0 = 0 then fMo_value2_66 y1 y2 ((fMo_set 61 61 61 (I 40 46) y2 I)) B E
  else fMo_value2_55 y1 y2 I B E
def pMo_value2_52  (y1 : Int32) (y2 : Int32) (z0 : Int32) (I : Nat → Nat → Int32) (B : Nat → Value) (E : List (Nat × Nat)) : Prop :=
  (z0 = 0 → (pMo_set 61 61 61 (I 40 46) y2 I) ∧ (pMo_value2_66 y1 y2 ((fMo_set 61 61 61 (I 40 46) y2 I)) B E)) ∧
  (¬ (z0 = 0) → pMo_value2_55 y1 y2 I B E)
def fMo_value2_49  (y1 : Int32) (y2 : Int32) (z1 : Int32) (z2 : Int32) (I : Nat → Nat → Int32) (B : Nat → Value) (E : List (Nat × Nat)) : Int32 × (Nat → Nat → Int32) :=
  fMo_value2_52 y1 y2 ((fMo_refuse z1 z2 I).1) ((fMo_refuse z1 z2 I).2) B E
def pMo_value2_49  (y1 : Int32) (y2 : Int32) (z1 : Int32) (z2 : Int32) (I : Nat → Nat → Int32) (B : Nat → Value) (E : List (Nat × Nat)) : Prop :=
  (pMo_refuse z1 z2 I) ∧ (pMo_value2_52 y1 y2 ((fMo_refuse z1 z2 I).1) ((fMo_refuse z1 z2 I).2) B E)
def fMo_value2_44  (y1 : Int32) (y2 : Int32) (z1 : Int32) (I : Nat → Nat → Int32) (B : Nat → Value) (E : List (Nat × Nat)) : Int32 × (Nat → Nat → Int32) :=
  fMo_value2_49 y1 y2 z1 (1 : Int32) I B E
def pMo_value2_44  (y1 : Int32) (y2 : Int32) (z1 : Int32) (I : Nat → Nat → Int32) (B : Nat → Value) (E : List (Nat × Nat)) : Prop :=
  pMo_value2_49 y1 y2 z1 (1 : Int32) I B E
def fMo_value2_27  (y1 : Int32) (y2 : Int32) (z0 : Int32) (I : Nat → Nat → Int32) (B : Nat → Value) (E : List (Nat × Nat)) : Int32 × (Nat → Nat → Int32) :=
  if z0 = 0 then if y2 < 0 then fMo_value2_44 y1 y2 (2 : Int32) I B E
    else if y2 < ((fMo_allInputs I)) then fMo_value2_49 y1 y2 (2 : Int32) (0 : Int32) I B E
      else fMo_value2_44 y1 y2 (2 : Int32) I B E
  else fMo_value2_55 y1 y2 I B E
def pMo_value2_27  (y1 : Int32) (y2 : Int32) (z0 : Int32) (I : Nat → Nat → Int32) (B : Nat → Value) (E : List (Nat × Nat)) : Prop :=
  (z0 = 0 → (y2 < 0 → pMo_value2_44 y1 y2 (2 : Int32) I B E) ∧
    (¬ (y2 < 0) → (pMo_allInputs I) ∧ ((y2 < ((fMo_allInputs I)) → pMo_value2_49 y1 y2 (2 : Int32) (0 : Int32) I B E) ∧
      (¬ (y2 < ((fMo_allInputs I))) → pMo_value2_44 y1 y2 (2 : Int32) I B E)))) ∧
  (¬ (z0 = 0) → pMo_value2_55 y1 y2 I B E)
def fMo_value2_24  (y1 : Int32) (y2 : Int32) (z1 : Int32) (z2 : Int32) (I : Nat → Nat → Int32) (B : Nat → Value) (E : List (Nat × Nat)) : Int32 × (Nat → Nat → Int32) :=
  fMo_value2_27 y1 y2 ((fMo_refuse z1 z2 I).1) ((fMo_refuse z1 z2 I).2) B E
def pMo_value2_24  (y1 : Int32) (y2 : Int32) (z1 : Int32) (z2 : Int32) (I : Nat → Nat → Int32) (B : Nat → Value) (E : List (Nat × Nat)) : Prop :=
  (pMo_refuse z1 z2 I) ∧ (pMo_value2_27 y1 y2 ((fMo_refuse z1 z2 I).1) ((fMo_refuse z1 z2 I).2) B E)
def fMo_value2_19  (y1 : Int32) (y2 : Int32) (z1 : Int32) (I : Nat → Nat → Int32) (B : Nat → Value) (E : List (Nat × Nat)) : Int32 × (Nat → Nat → Int32) :=
  fMo_value2_24 y1 y2 z1 (1 : Int32) I B E
def pMo_value2_19  (y1 : Int32) (y2 : Int32) (z1 : Int32) (I : Nat → Nat → Int32) (B : Nat → Value) (E : List (Nat × Nat)) : Prop :=
  pMo_value2_24 y1 y2 z1 (1 : Int32) I B E
def fMo_value2  (y1 : Int32) (y2 : Int32) (I : Nat → Nat → Int32) (B : Nat → Value) (E : List (Nat × Nat)) : Int32 × (Nat → Nat → Int32) :=
  if y1 < 0 then fMo_value2_19 y1 y2 (1 : Int32) (pm_u I 40 2 (0 : Int32)) B E
  else if y1 < (I 40 16) then fMo_value2_24 y1 y2 (1 : Int32) (0 : Int32) (pm_u I 40 2 (0 : Int32)) B E
    else fMo_value2_19 y1 y2 (1 : Int32) (pm_u I 40 2 (0 : Int32)) B E
def pMo_value2  (y1 : Int32) (y2 : Int32) (I : Nat → Nat → Int32) (B : Nat → Value) (E : List (Nat × Nat)) : Prop :=
  (y1 < 0 → pMo_value2_19 y1 y2 (1 : Int32) (pm_u I 40 2 (0 : Int32)) B E) ∧
  (¬ (y1 < 0) → (y1 < (I 40 16) → pMo_value2_24 y1 y2 (1 : Int32) (0 : Int32) (pm_u I 40 2 (0 : Int32)) B E) ∧
    (¬ (y1 < (I 40 16)) → pMo_value2_19 y1 y2 (1 : Int32) (pm_u I 40 2 (0 : Int32)) B E))
set_option maxHeartbeats 4000000 in
set_option maxRecDepth 100000 in
theorem Mo_value2_n55 (g : pmG) (d : Nat) (R : Nat → Nat → Value) (hR : mk_R R) (J : Nat → Nat → Int64) (o : Outcome) (Z : pmM)  (y1 : Int32) (y2 : Int32) (I : Nat → Nat → Int32) (B : Nat → Value) (E : List (Nat × Nat)) (hp : pMo_value2_55 y1 y2 I B E) (ho : o = .returned (some (.int (fMo_value2_55 y1 y2 I B E).1))) (hz : Z = (mk_K ++ E, mk_B R B, (fMo_value2_55 y1 y2 I B E).2, J)) : pmE g kMo_value2 (d + 605) 0 0 55 [(0, .ref 40), (1, .int y1), (2, .int y2)] [] (mk_K ++ E) (mk_B R B) I J o Z := by
  unfold pMo_value2_55 at hp
  refine pm_iconst (v := 0) dMo_value2_55 (by decide) ?_
  exact pm_iret dMo_value2_56 rfl (ho.trans (by first | (simp only [fMo_value2_55]; done) | (simp only [fMo_value2_55]; with_reducible rfl) | with_reducible rfl)) (hz.trans (by first | (simp only [fMo_value2_55]; done) | (simp only [fMo_value2_55]; with_reducible rfl) | with_reducible rfl))
set_option maxHeartbeats 4000000 in
set_option maxRecDepth 100000 in
theorem Mo_value2_n66 (g : pmG) (d : Nat) (R : Nat → Nat → Value) (hR : mk_R R) (J : Nat → Nat → Int64) (o : Outcome) (Z : pmM)  (y1 : Int32) (y2 : Int32) (I : Nat → Nat → Int32) (B : Nat → Value) (E : List (Nat × Nat)) (hp : pMo_value2_66 y1 y2 I B E) (ho : o = .returned (some (.int (fMo_value2_66 y1 y2 I B E).1))) (hz : Z = (mk_K ++ E, mk_B R B, (fMo_value2_66 y1 y2 I B E).2, J)) : pmE g kMo_value2 (d + 605) 0 0 66 [(0, .ref 40), (1, .int y1), (2, .int y2)] [] (mk_K ++ E) (mk_B R B) I J o Z := by
  unfold pMo_value2_66 at hp
  refine pm_aload_n dMo_value2_66 rfl ?_
  refine pm_getr dMo_value2_67 fMo_56 rfl (rr_40_14 (mk_RB hR _)) ?_
  refine pm_iload_n dMo_value2_70 rfl ?_
  refine pm_iald dMo_value2_71 rfl hp.1 ?_
  by_cases h72_1 : (I 44 y1.toNatClampNeg) = 1
  ·
    refine pm_tableIn 100 dMo_value2_72 (by rw [h72_1]; decide) (by rw [h72_1]; decide) (by first | (rw [h72_1]; rfl) | rw [h72_1]) (by decide) ?_
    refine pm_aload_n dMo_value2_100 rfl ?_
    refine pm_getr dMo_value2_101 fMo_131 rfl (rr_40_39 (mk_RB hR _)) ?_
    refine pm_aload_n dMo_value2_104 rfl ?_
    refine pm_getr dMo_value2_105 fMo_59 rfl (rr_40_15 (mk_RB hR _)) ?_
    refine pm_iload_n dMo_value2_108 rfl ?_
    refine pm_iald dMo_value2_109 rfl (hp.2.1 h72_1).1 ?_
    refine pm_iald dMo_value2_110 rfl (hp.2.1 h72_1).2.1 ?_
    exact pm_iret dMo_value2_111 rfl (ho.trans (by first | (simp only [fMo_value2_66, if_pos h72_1]; done) | (simp only [fMo_value2_66, if_pos h72_1]; with_reducible rfl) | with_reducible rfl)) (hz.trans (by first | (simp only [fMo_value2_66, if_pos h72_1]; done) | (simp only [fMo_value2_66, if_pos h72_1]; with_reducible rfl) | with_reducible rfl))
  ·
    by_cases h72_2 : (I 44 y1.toNatClampNeg) = 2
    ·
      refine pm_tableIn 112 dMo_value2_72 (by rw [h72_2]; decide) (by rw [h72_2]; decide) (by first | (rw [h72_2]; rfl) | rw [h72_2]) (by decide) ?_
      refine pm_aload_n dMo_value2_112 rfl ?_
      refine pm_getr dMo_value2_113 fMo_134 rfl (rr_40_40 (mk_RB hR _)) ?_
      refine pm_aload_n dMo_value2_116 rfl ?_
      refine pm_getr dMo_value2_117 fMo_59 rfl (rr_40_15 (mk_RB hR _)) ?_
      refine pm_iload_n dMo_value2_120 rfl ?_
      refine pm_iald dMo_value2_121 rfl ((hp.2.2 h72_1).1 h72_2).1 ?_
      refine pm_iald dMo_value2_122 rfl ((hp.2.2 h72_1).1 h72_2).2.1 ?_
      exact pm_iret dMo_value2_123 rfl (ho.trans (by first | (simp only [fMo_value2_66, if_neg h72_1, if_pos h72_2]; done) | (simp only [fMo_value2_66, if_neg h72_1, if_pos h72_2]; with_reducible rfl) | with_reducible rfl)) (hz.trans (by first | (simp only [fMo_value2_66, if_neg h72_1, if_pos h72_2]; done) | (simp only [fMo_value2_66, if_neg h72_1, if_pos h72_2]; with_reducible rfl) | with_reducible rfl))
    ·
      by_cases h72_3 : (I 44 y1.toNatClampNeg) = 3
      ·
        refine pm_tableIn 124 dMo_value2_72 (by rw [h72_3]; decide) (by rw [h72_3]; decide) (by first | (rw [h72_3]; rfl) | rw [h72_3]) (by decide) ?_
        refine pm_aload_n dMo_value2_124 rfl ?_
        refine pm_getr dMo_value2_125 fMo_137 rfl (rr_40_41 (mk_RB hR _)) ?_
        refine pm_aload_n dMo_value2_128 rfl ?_
        refine pm_getr dMo_value2_129 fMo_59 rfl (rr_40_15 (mk_RB hR _)) ?_
        refine pm_iload_n dMo_value2_132 rfl ?_
        refine pm_iald dMo_value2_133 rfl (((hp.2.2 h72_1).2 h72_2).1 h72_3).1 ?_
        refine pm_iald dMo_value2_134 rfl (((hp.2.2 h72_1).2 h72_2).1 h72_3).2.1 ?_
        exact pm_iret dMo_value2_135 rfl (ho.trans (by first | (simp only [fMo_value2_66, if_neg h72_1, if_neg h72_2, if_pos h72_3]; done) | (simp only [fMo_value2_66, if_neg h72_1, if_neg h72_2, if_pos h72_3]; with_reducible rfl) | with_reducible rfl)) (hz.trans (by first | (simp only [fMo_value2_66, if_neg h72_1, if_neg h72_2, if_pos h72_3]; done) | (simp only [fMo_value2_66, if_neg h72_1, if_neg h72_2, if_pos h72_3]; with_reducible rfl) | with_reducible rfl))
      ·
        refine pm_tableOut 136 dMo_value2_72 (pm_out (fun q9 k1 k2 => by
          have : q9 = 1 ∨ q9 = 2 ∨ q9 = 3 := by omega
          rcases this with rfl | rfl | rfl
          · exact h72_1
          · exact h72_2
          · exact h72_3
          )) (by decide) ?_
        refine pm_aload_n dMo_value2_136 rfl ?_
        refine pm_getr dMo_value2_137 fMo_155 rfl (rr_40_45 (mk_RB hR _)) ?_
        refine pm_aload_n dMo_value2_140 rfl ?_
        refine pm_getr dMo_value2_141 fMo_59 rfl (rr_40_15 (mk_RB hR _)) ?_
        refine pm_iload_n dMo_value2_144 rfl ?_
        refine pm_iald dMo_value2_145 rfl (((hp.2.2 h72_1).2 h72_2).2 h72_3).1 ?_
        have hq146 := (((hp.2.2 h72_1).2 h72_2).2 h72_3).2.1
        refine pm_aald dMo_value2_146 rfl (Or.inr rfl) (((hp.2.2 h72_1).2 h72_2).2 h72_3).2.1 ((mk_RB hR _).2.2 _ (vp_lt (((hp.2.2 h72_1).2 h72_2).2 h72_3).2.1)) (Or.inr ⟨_, rfl⟩) ?_
        refine pm_aload_n dMo_value2_147 rfl ?_
        refine pm_geti dMo_value2_148 fMo_158 rfl ?_
        refine pm_zald dMo_value2_151 (mk_fS _ (vp_lt hq146)) (((hp.2.2 h72_1).2 h72_2).2 h72_3).2.2.1 ?_
        refine pm_if_eq 159 dMo_value2_152 (by decide) (fun h152 => ?_) (fun h152 => ?_)
        ·
          refine pm_iconst (v := 0) dMo_value2_159 (by decide) ?_
          exact pm_iret dMo_value2_160 rfl (ho.trans (by first | (simp only [fMo_value2_66, if_neg h72_1, if_neg h72_2, if_neg h72_3, if_pos h152]; done) | (simp only [fMo_value2_66, if_neg h72_1, if_neg h72_2, if_neg h72_3, if_pos h152]; with_reducible rfl) | with_reducible rfl)) (hz.trans (by first | (simp only [fMo_value2_66, if_neg h72_1, if_neg h72_2, if_neg h72_3, if_pos h152]; done) | (simp only [fMo_value2_66, if_neg h72_1, if_neg h72_2, if_neg h72_3, if_pos h152]; with_reducible rfl) | with_reducible rfl))
        ·
          refine pm_iconst (v := 1) dMo_value2_155 (by decide) ?_
          refine pm_goto 160 dMo_value2_156 (by decide) ?_
          exact pm_iret dMo_value2_160 rfl (ho.trans (by first | (simp only [fMo_value2_66, if_neg h72_1, if_neg h72_2, if_neg h72_3, if_neg h152]; done) | (simp only [fMo_value2_66, if_neg h72_1, if_neg h72_2, if_neg h72_3, if_neg h152]; with_reducible rfl) | with_reducible rfl)) (hz.trans (by first | (simp only [fMo_value2_66, if_neg h72_1, if_neg h72_2, if_neg h72_3, if_neg h152]; done) | (simp only [fMo_value2_66, if_neg h72_1, if_neg h72_2, if_neg h72_3, if_neg h152]; with_reducible rfl) | with_reducible rfl))
set_option maxHeartbeats 4000000 in
set_option maxRecDepth 100000 in
theorem Mo_value2_n52 (g : pmG) (d : Nat) (R : Nat → Nat → Value) (hR : mk_R R) (J : Nat → Nat → Int64) (o : Outcome) (Z : pmM)  (y1 : Int32) (y2 : Int32) (z0 : Int32) (I : Nat → Nat → Int32) (B : Nat → Value) (E : List (Nat × Nat)) (hp : pMo_value2_52 y1 y2 z0 I B E) (ho : o = .returned (some (.int (fMo_value2_52 y1 y2 z0 I B E).1))) (hz : Z = (mk_K ++ E, mk_B R B, (fMo_value2_52 y1 y2 z0 I B E).2, J)) : pmE g kMo_value2 (d + 605) 0 0 52 [(0, .ref 40), (1, .int y1), (2, .int y2)] [.int z0] (mk_K ++ E) (mk_B R B) I J o Z := by
  unfold pMo_value2_52 at hp
  refine pm_if_eq 57 dMo_value2_52 (by decide) (fun h52 => ?_) (fun h52 => ?_)
  ·
    refine pm_aload_n dMo_value2_57 rfl ?_
    refine pm_aload_n dMo_value2_58 rfl ?_
    refine pm_geti dMo_value2_59 fMo_158 rfl ?_
    refine pm_iload_n dMo_value2_62 rfl ?_
    refine pm_callV dMo_value2_63 lMo_351 vMo_set ⟨_, _, rfl⟩ (Mo_set_ok _ _ _ _ (mk_RB hR _) _ _ _ _ _ _ _ (hp.1 h52).1) rfl rfl rfl (Nat.le_of_ble_eq_true rfl) (Nat.le_refl _) (Nat.le_refl _) ?_
    refine pm_wk [0, 1, 2] rfl ?_
    exact Mo_value2_n66 g d R hR J _ _   _ _ _ _ _ (hp.1 h52).2 (ho.trans (by first | (simp only [fMo_value2_52, if_pos h52]; done) | (simp only [fMo_value2_52, if_pos h52]; with_reducible rfl) | with_reducible rfl)) (hz.trans (by first | (simp only [fMo_value2_52, if_pos h52]; done) | (simp only [fMo_value2_52, if_pos h52]; with_reducible rfl) | with_reducible rfl))
  ·
    refine pm_wk [0, 1, 2] rfl ?_
    exact Mo_value2_n55 g d R hR J _ _   _ _ _ _ _ (hp.2 h52) (ho.trans (by first | (simp only [fMo_value2_52, if_neg h52]; done) | (simp only [fMo_value2_52, if_neg h52]; with_reducible rfl) | with_reducible rfl)) (hz.trans (by first | (simp only [fMo_value2_52, if_neg h52]; done) | (simp only [fMo_value2_52, if_neg h52]; with_reducible rfl) | with_reducible rfl))
set_option maxHeartbeats 4000000 in
set_option maxRecDepth 100000 in
theorem Mo_value2_n49 (g : pmG) (d : Nat) (R : Nat → Nat → Value) (hR : mk_R R) (J : Nat → Nat → Int64) (o : Outcome) (Z : pmM)  (y1 : Int32) (y2 : Int32) (z1 : Int32) (z2 : Int32) (I : Nat → Nat → Int32) (B : Nat → Value) (E : List (Nat × Nat)) (hp : pMo_value2_49 y1 y2 z1 z2 I B E) (ho : o = .returned (some (.int (fMo_value2_49 y1 y2 z1 z2 I B E).1))) (hz : Z = (mk_K ++ E, mk_B R B, (fMo_value2_49 y1 y2 z1 z2 I B E).2, J)) : pmE g kMo_value2 (d + 605) 0 0 49 [(0, .ref 40), (1, .int y1), (2, .int y2)] [.int z2, .int z1, .ref 40] (mk_K ++ E) (mk_B R B) I J o Z := by
  unfold pMo_value2_49 at hp
  refine pm_callV dMo_value2_49 lMo_180 vMo_refuse ⟨_, _, rfl⟩ (Mo_refuse_ok _ _ _ _ (mk_RB hR _) _ _ _ _ hp.1) rfl rfl rfl (Nat.le_of_ble_eq_true rfl) (Nat.le_refl _) (Nat.le_refl _) ?_
  refine pm_wk [0, 1, 2] rfl ?_
  exact Mo_value2_n52 g d R hR J _ _   _ _ _ _ _ _ hp.2 (ho.trans (by first | (simp only [fMo_value2_49]; done) | (simp only [fMo_value2_49]; with_reducible rfl) | with_reducible rfl)) (hz.trans (by first | (simp only [fMo_value2_49]; done) | (simp only [fMo_value2_49]; with_reducible rfl) | with_reducible rfl))
set_option maxHeartbeats 4000000 in
set_option maxRecDepth 100000 in
theorem Mo_value2_n44 (g : pmG) (d : Nat) (R : Nat → Nat → Value) (hR : mk_R R) (J : Nat → Nat → Int64) (o : Outcome) (Z : pmM)  (y1 : Int32) (y2 : Int32) (z1 : Int32) (I : Nat → Nat → Int32) (B : Nat → Value) (E : List (Nat × Nat)) (hp : pMo_value2_44 y1 y2 z1 I B E) (ho : o = .returned (some (.int (fMo_value2_44 y1 y2 z1 I B E).1))) (hz : Z = (mk_K ++ E, mk_B R B, (fMo_value2_44 y1 y2 z1 I B E).2, J)) : pmE g kMo_value2 (d + 605) 0 0 44 [(0, .ref 40), (1, .int y1), (2, .int y2)] [.int z1, .ref 40] (mk_K ++ E) (mk_B R B) I J o Z := by
  unfold pMo_value2_44 at hp
  refine pm_iconst (v := 1) dMo_value2_44 (by decide) ?_
  refine pm_goto 49 dMo_value2_45 (by decide) ?_
  refine pm_wk [0, 1, 2] rfl ?_
  exact Mo_value2_n49 g d R hR J _ _   _ _ _ _ _ _ _ hp (ho.trans (by first | (simp only [fMo_value2_44]; done) | (simp only [fMo_value2_44]; with_reducible rfl) | with_reducible rfl)) (hz.trans (by first | (simp only [fMo_value2_44]; done) | (simp only [fMo_value2_44]; with_reducible rfl) | with_reducible rfl))
set_option maxHeartbeats 4000000 in
set_option maxRecDepth 100000 in
theorem Mo_value2_n27 (g : pmG) (d : Nat) (R : Nat → Nat → Value) (hR : mk_R R) (J : Nat → Nat → Int64) (o : Outcome) (Z : pmM)  (y1 : Int32) (y2 : Int32) (z0 : Int32) (I : Nat → Nat → Int32) (B : Nat → Value) (E : List (Nat × Nat)) (hp : pMo_value2_27 y1 y2 z0 I B E) (ho : o = .returned (some (.int (fMo_value2_27 y1 y2 z0 I B E).1))) (hz : Z = (mk_K ++ E, mk_B R B, (fMo_value2_27 y1 y2 z0 I B E).2, J)) : pmE g kMo_value2 (d + 605) 0 0 27 [(0, .ref 40), (1, .int y1), (2, .int y2)] [.int z0] (mk_K ++ E) (mk_B R B) I J o Z := by
  unfold pMo_value2_27 at hp
  refine pm_if_ne 55 dMo_value2_27 (by decide) (fun h27 => ?_) (fun h27 => ?_)
  ·
    refine pm_wk [0, 1, 2] rfl ?_
    exact Mo_value2_n55 g d R hR J _ _   _ _ _ _ _ (hp.2 h27) (ho.trans (by first | (simp only [fMo_value2_27, if_neg h27]; done) | (simp only [fMo_value2_27, if_neg h27]; with_reducible rfl) | with_reducible rfl)) (hz.trans (by first | (simp only [fMo_value2_27, if_neg h27]; done) | (simp only [fMo_value2_27, if_neg h27]; with_reducible rfl) | with_reducible rfl))
  ·
    refine pm_aload_n dMo_value2_30 rfl ?_
    refine pm_iconst (v := 2) dMo_value2_31 (by decide) ?_
    refine pm_iload_n dMo_value2_32 rfl ?_
    refine pm_if_lt 44 dMo_value2_33 (by decide) (fun h33 => ?_) (fun h33 => ?_)
    ·
      refine pm_wk [0, 1, 2] rfl ?_
      exact Mo_value2_n44 g d R hR J _ _   _ _ _ _ _ _ ((hp.1 h27).1 h33) (ho.trans (by first | (simp only [fMo_value2_27, if_pos h27, if_pos h33]; done) | (simp only [fMo_value2_27, if_pos h27, if_pos h33]; with_reducible rfl) | with_reducible rfl)) (hz.trans (by first | (simp only [fMo_value2_27, if_pos h27, if_pos h33]; done) | (simp only [fMo_value2_27, if_pos h27, if_pos h33]; with_reducible rfl) | with_reducible rfl))
    ·
      refine pm_iload_n dMo_value2_36 rfl ?_
      refine pm_aload_n dMo_value2_37 rfl ?_
      refine pm_callV dMo_value2_38 lMo_348 vMo_allInputs ⟨_, _, rfl⟩ (Mo_allInputs_ok _ _ _ _ (mk_RB hR _)  _ _ ((hp.1 h27).2 h33).1) rfl rfl rfl (Nat.le_of_ble_eq_true rfl) (Nat.le_refl _) (Nat.le_refl _) ?_
      refine pm_icmp_lt 48 dMo_value2_41 (by decide) (fun h41 => ?_) (fun h41 => ?_)
      ·
        refine pm_iconst (v := 0) dMo_value2_48 (by decide) ?_
        refine pm_wk [0, 1, 2] rfl ?_
        exact Mo_value2_n49 g d R hR J _ _   _ _ _ _ _ _ _ (((hp.1 h27).2 h33).2.1 h41) (ho.trans (by first | (simp only [fMo_value2_27, if_pos h27, if_neg h33, if_pos h41]; done) | (simp only [fMo_value2_27, if_pos h27, if_neg h33, if_pos h41]; with_reducible rfl) | with_reducible rfl)) (hz.trans (by first | (simp only [fMo_value2_27, if_pos h27, if_neg h33, if_pos h41]; done) | (simp only [fMo_value2_27, if_pos h27, if_neg h33, if_pos h41]; with_reducible rfl) | with_reducible rfl))
      ·
        refine pm_wk [0, 1, 2] rfl ?_
        exact Mo_value2_n44 g d R hR J _ _   _ _ _ _ _ _ (((hp.1 h27).2 h33).2.2 h41) (ho.trans (by first | (simp only [fMo_value2_27, if_pos h27, if_neg h33, if_neg h41]; done) | (simp only [fMo_value2_27, if_pos h27, if_neg h33, if_neg h41]; with_reducible rfl) | with_reducible rfl)) (hz.trans (by first | (simp only [fMo_value2_27, if_pos h27, if_neg h33, if_neg h41]; done) | (simp only [fMo_value2_27, if_pos h27, if_neg h33, if_neg h41]; with_reducible rfl) | with_reducible rfl))
set_option maxHeartbeats 4000000 in
set_option maxRecDepth 100000 in
theorem Mo_value2_n24 (g : pmG) (d : Nat) (R : Nat → Nat → Value) (hR : mk_R R) (J : Nat → Nat → Int64) (o : Outcome) (Z : pmM)  (y1 : Int32) (y2 : Int32) (z1 : Int32) (z2 : Int32) (I : Nat → Nat → Int32) (B : Nat → Value) (E : List (Nat × Nat)) (hp : pMo_value2_24 y1 y2 z1 z2 I B E) (ho : o = .returned (some (.int (fMo_value2_24 y1 y2 z1 z2 I B E).1))) (hz : Z = (mk_K ++ E, mk_B R B, (fMo_value2_24 y1 y2 z1 z2 I B E).2, J)) : pmE g kMo_value2 (d + 605) 0 0 24 [(0, .ref 40), (1, .int y1), (2, .int y2)] [.int z2, .int z1, .ref 40] (mk_K ++ E) (mk_B R B) I J o Z := by
  unfold pMo_value2_24 at hp
  refine pm_callV dMo_value2_24 lMo_180 vMo_refuse ⟨_, _, rfl⟩ (Mo_refuse_ok _ _ _ _ (mk_RB hR _) _ _ _ _ hp.1) rfl rfl rfl (Nat.le_of_ble_eq_true rfl) (Nat.le_refl _) (Nat.le_refl _) ?_
  refine pm_wk [0, 1, 2] rfl ?_
  exact Mo_value2_n27 g d R hR J _ _   _ _ _ _ _ _ hp.2 (ho.trans (by first | (simp only [fMo_value2_24]; done) | (simp only [fMo_value2_24]; with_reducible rfl) | with_reducible rfl)) (hz.trans (by first | (simp only [fMo_value2_24]; done) | (simp only [fMo_value2_24]; with_reducible rfl) | with_reducible rfl))
set_option maxHeartbeats 4000000 in
set_option maxRecDepth 100000 in
theorem Mo_value2_n19 (g : pmG) (d : Nat) (R : Nat → Nat → Value) (hR : mk_R R) (J : Nat → Nat → Int64) (o : Outcome) (Z : pmM)  (y1 : Int32) (y2 : Int32) (z1 : Int32) (I : Nat → Nat → Int32) (B : Nat → Value) (E : List (Nat × Nat)) (hp : pMo_value2_19 y1 y2 z1 I B E) (ho : o = .returned (some (.int (fMo_value2_19 y1 y2 z1 I B E).1))) (hz : Z = (mk_K ++ E, mk_B R B, (fMo_value2_19 y1 y2 z1 I B E).2, J)) : pmE g kMo_value2 (d + 605) 0 0 19 [(0, .ref 40), (1, .int y1), (2, .int y2)] [.int z1, .ref 40] (mk_K ++ E) (mk_B R B) I J o Z := by
  unfold pMo_value2_19 at hp
  refine pm_iconst (v := 1) dMo_value2_19 (by decide) ?_
  refine pm_goto 24 dMo_value2_20 (by decide) ?_
  refine pm_wk [0, 1, 2] rfl ?_
  exact Mo_value2_n24 g d R hR J _ _   _ _ _ _ _ _ _ hp (ho.trans (by first | (simp only [fMo_value2_19]; done) | (simp only [fMo_value2_19]; with_reducible rfl) | with_reducible rfl)) (hz.trans (by first | (simp only [fMo_value2_19]; done) | (simp only [fMo_value2_19]; with_reducible rfl) | with_reducible rfl))
set_option maxHeartbeats 4000000 in
set_option maxRecDepth 100000 in
theorem Mo_value2_n0 (g : pmG) (d : Nat) (R : Nat → Nat → Value) (hR : mk_R R) (J : Nat → Nat → Int64) (o : Outcome) (Z : pmM)  (y1 : Int32) (y2 : Int32) (I : Nat → Nat → Int32) (B : Nat → Value) (E : List (Nat × Nat)) (hp : pMo_value2 y1 y2 I B E) (ho : o = .returned (some (.int (fMo_value2 y1 y2 I B E).1))) (hz : Z = (mk_K ++ E, mk_B R B, (fMo_value2 y1 y2 I B E).2, J)) : pmE g kMo_value2 (d + 605) 0 0 0 [(0, .ref 40), (1, .int y1), (2, .int y2)] [] (mk_K ++ E) (mk_B R B) I J o Z := by
  unfold pMo_value2 at hp
  refine pm_aload_n dMo_value2_0 rfl ?_
  refine pm_iconst (v := 0) dMo_value2_1 (by decide) ?_
  refine pm_puti dMo_value2_2 fMo_18 sMo_18 (fun h => by cases h) rfl rfl rfl ?_
  refine pm_aload_n dMo_value2_5 rfl ?_
  refine pm_iconst (v := 1) dMo_value2_6 (by decide) ?_
  refine pm_iload_n dMo_value2_7 rfl ?_
  refine pm_if_lt 19 dMo_value2_8 (by decide) (fun h8 => ?_) (fun h8 => ?_)
  ·
    refine pm_wk [0, 1, 2] rfl ?_
    exact Mo_value2_n19 g d R hR J _ _   _ _ _ _ _ _ (hp.1 h8) (ho.trans (by first | (simp only [fMo_value2, if_pos h8]; done) | (simp only [fMo_value2, if_pos h8]; with_reducible rfl) | with_reducible rfl)) (hz.trans (by first | (simp only [fMo_value2, if_pos h8]; done) | (simp only [fMo_value2, if_pos h8]; with_reducible rfl) | with_reducible rfl))
  ·
    refine pm_iload_n dMo_value2_11 rfl ?_
    refine pm_aload_n dMo_value2_12 rfl ?_
    refine pm_geti dMo_value2_13 fMo_62 rfl ?_
    refine pm_eqi (I 40 16) rfl ?_
    refine pm_icmp_lt 23 dMo_value2_16 (by decide) (fun h16 => ?_) (fun h16 => ?_)
    ·
      refine pm_iconst (v := 0) dMo_value2_23 (by decide) ?_
      refine pm_wk [0, 1, 2] rfl ?_
      exact Mo_value2_n24 g d R hR J _ _   _ _ _ _ _ _ _ ((hp.2 h8).1 h16) (ho.trans (by first | (simp only [fMo_value2, if_neg h8, if_pos h16]; done) | (simp only [fMo_value2, if_neg h8, if_pos h16]; with_reducible rfl) | with_reducible rfl)) (hz.trans (by first | (simp only [fMo_value2, if_neg h8, if_pos h16]; done) | (simp only [fMo_value2, if_neg h8, if_pos h16]; with_reducible rfl) | with_reducible rfl))
    ·
      refine pm_wk [0, 1, 2] rfl ?_
      exact Mo_value2_n19 g d R hR J _ _   _ _ _ _ _ _ ((hp.2 h8).2 h16) (ho.trans (by first | (simp only [fMo_value2, if_neg h8, if_neg h16]; done) | (simp only [fMo_value2, if_neg h8, if_neg h16]; with_reducible rfl) | with_reducible rfl)) (hz.trans (by first | (simp only [fMo_value2, if_neg h8, if_neg h16]; done) | (simp only [fMo_value2, if_neg h8, if_neg h16]; with_reducible rfl) | with_reducible rfl))
set_option maxHeartbeats 4000000 in
set_option maxRecDepth 100000 in
theorem Mo_value2_ok (g : pmG) (d : Nat) (R : Nat → Nat → Value) (hR : mk_R R)  (x0 : Int32) (x1 : Int32) (I : Nat → Nat → Int32) (B : Nat → Value) (E : List (Nat × Nat)) (J : Nat → Nat → Int64) (hp : pMo_value2 x0 x1 I B E) : pmC g kMo_value2 (d + 605) 0 0 [.ref 40, .int x0, .int x1] (mk_K ++ E, mk_B R B, I, J) (.returned (some (.int (fMo_value2 x0 x1 I B E).1))) (mk_K ++ E, mk_B R B, (fMo_value2 x0 x1 I B E).2, J) :=
  pmC.of (by decide) (Nat.le_of_ble_eq_true rfl) (Mo_value2_n0 g d R hR J _ _  x0 x1 I B E hp rfl rfl)
