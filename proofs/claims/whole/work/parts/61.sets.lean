def fMo_next2_3  : Nat → Value → Int32 → Int32 → Int32 → (Nat → Nat → Int32) → (Nat → Value) → List (Nat × Nat) → Int32
  | 0, _, _, _, _, _, _, _ => 0
  | n + 1, y1, y2, y3, y4, I, B, E =>
  if ((fMo_allInputs I)) ≤ y4 then y3
  else if (I (pa y1) (I (64 + y2.toNatClampNeg) y4.toNatClampNeg).toNatClampNeg) = y3 then fMo_next2_3 n y1 y2 y3 (y4 + Int32.ofInt 1) I B E
    else if y3 = 0 then (1 : Int32)
      else (0 : Int32)
def pMo_next2_3  : Nat → Value → Int32 → Int32 → Int32 → (Nat → Nat → Int32) → (Nat → Value) → List (Nat × Nat) → Prop
  | 0, _, _, _, _, _, _, _ => False
  | n + 1, y1, y2, y3, y4, I, B, E =>
  (pMo_allInputs I) ∧ ((((fMo_allInputs I)) ≤ y4 → narrow .boolean (.int y3) = .int y3) ∧
  (¬ (((fMo_allInputs I)) ≤ y4) → (pv y1) ∧ ((vp_in y2 256) ∧ ((vp_in y4 8) ∧ ((y1 = .ref (pa y1) ∧ (mk_K ++ E)[pa y1]? = some (3, 256) ∧ vp_in (I (64 + y2.toNatClampNeg) y4.toNatClampNeg) 256) ∧ (((I (pa y1) (I (64 + y2.toNatClampNeg) y4.toNatClampNeg).toNatClampNeg) = y3 → pMo_next2_3 n y1 y2 y3 (y4 + Int32.ofInt 1) I B E) ∧
    (¬ ((I (pa y1) (I (64 + y2.toNatClampNeg) y4.toNatClampNeg).toNatClampNeg) = y3) → (y3 = 0 → True) ∧
      (¬ (y3 = 0) → True))))))))
def fMo_next2 (n3 : Nat) (y1 : Value) (y2 : Int32) (y3 : Int32) (I : Nat → Nat → Int32) (B : Nat → Value) (E : List (Nat × Nat)) : Int32 :=
  fMo_next2_3 n3 y1 y2 y3 (0 : Int32) I B E
def pMo_next2 (n3 : Nat) (y1 : Value) (y2 : Int32) (y3 : Int32) (I : Nat → Nat → Int32) (B : Nat → Value) (E : List (Nat × Nat)) : Prop :=
  (pv y1) ∧ (pMo_next2_3 n3 y1 y2 y3 (0 : Int32) I B E)
set_option maxHeartbeats 4000000 in
set_option maxRecDepth 100000 in
theorem Mo_next2_n3 (g : pmG) (d : Nat) (R : Nat → Nat → Value) (hR : mk_R R) (J : Nat → Nat → Int64) (o : Outcome) (Z : pmM)  : ∀ (n : Nat) (y1 : Value) (y2 : Int32) (y3 : Int32) (y4 : Int32) (I : Nat → Nat → Int32) (B : Nat → Value) (E : List (Nat × Nat)), pMo_next2_3 n y1 y2 y3 y4 I B E → o = .returned (some (.int (fMo_next2_3 n y1 y2 y3 y4 I B E))) → Z = (mk_K ++ E, mk_B R B, I, J) → pmE g kMo_next2 (d + 1) 0 0 3 [(0, .ref 40), (1, y1), (2, .int y2), (3, .int y3), (4, .int y4)] [] (mk_K ++ E) (mk_B R B) I J o Z := by
  intro n
  induction n with
  | zero => intro y1 y2 y3 y4 I B E hp; exact False.elim hp
  | succ n ih =>
  intro y1 y2 y3 y4 I B E hp ho hz
  simp only [pMo_next2_3] at hp
  refine pm_iload dMo_next2_3 rfl ?_
  refine pm_aload_n dMo_next2_5 rfl ?_
  refine pm_callV dMo_next2_6 lMo_348 vMo_allInputs ⟨_, _, rfl⟩ (Mo_allInputs_ok _ _ _ _ (mk_RB hR _)  _ _ hp.1) rfl rfl rfl (Nat.le_of_ble_eq_true rfl) (Nat.le_refl _) (Nat.le_refl _) ?_
  refine pm_icmp_ge 43 dMo_next2_9 (by decide) (fun h9 => ?_) (fun h9 => ?_)
  ·
    refine pm_iload_n dMo_next2_43 rfl ?_
    exact pm_zret dMo_next2_44 rfl (hp.2.1 h9) (ho.trans (by first | (simp only [fMo_next2_3, if_pos h9]; done) | (simp only [fMo_next2_3, if_pos h9]; with_reducible rfl) | with_reducible rfl)) (hz.trans (by first | (simp only [fMo_next2_3, if_pos h9]; done) | (simp only [fMo_next2_3, if_pos h9]; with_reducible rfl) | with_reducible rfl))
  ·
    refine pm_vload_n dMo_next2_12 rfl (hp.2.2 h9).1 ?_
    refine pm_aload_n dMo_next2_13 rfl ?_
    refine pm_getr dMo_next2_14 fMo_142 rfl (rr_40_42 (mk_RB hR _)) ?_
    refine pm_iload_n dMo_next2_17 rfl ?_
    have hq18 := (hp.2.2 h9).2.1
    refine pm_aald dMo_next2_18 rfl (Or.inl rfl) (hp.2.2 h9).2.1 ((mk_RB hR _).2.1 _ (vp_lt (hp.2.2 h9).2.1)) (Or.inr ⟨_, rfl⟩) ?_
    refine pm_iload dMo_next2_19 rfl ?_
    refine pm_iald dMo_next2_21 (mk_fA _ (vp_lt hq18)) (hp.2.2 h9).2.2.1 ?_
    refine pm_vzald dMo_next2_22 (hp.2.2 h9).2.2.2.1.1 (hp.2.2 h9).2.2.2.1.2.1 (hp.2.2 h9).2.2.2.1.2.2 ?_
    refine pm_iload_n dMo_next2_23 rfl ?_
    refine pm_icmp_eq 37 dMo_next2_24 (by decide) (fun h24 => ?_) (fun h24 => ?_)
    ·
      refine pm_iinc dMo_next2_37 rfl (by decide) rfl ?_
      refine pm_goto 3 dMo_next2_40 (by decide) ?_
      refine pm_wk [1, 2, 3, 4, 0] rfl ?_
      exact ih _ _ _ _ _ _ _ ((hp.2.2 h9).2.2.2.2.1 h24) (ho.trans (by first | (simp only [fMo_next2_3, if_neg h9, if_pos h24]; done) | (simp only [fMo_next2_3, if_neg h9, if_pos h24]; with_reducible rfl) | with_reducible rfl)) (hz.trans (by first | (simp only [fMo_next2_3, if_neg h9, if_pos h24]; done) | (simp only [fMo_next2_3, if_neg h9, if_pos h24]; with_reducible rfl) | with_reducible rfl))
    ·
      refine pm_iload_n dMo_next2_27 rfl ?_
      refine pm_if_ne 35 dMo_next2_28 (by decide) (fun h28 => ?_) (fun h28 => ?_)
      ·
        refine pm_iconst (v := 0) dMo_next2_35 (by decide) ?_
        exact pm_zret dMo_next2_36 rfl (by first | rfl | decide) (ho.trans (by first | (simp only [fMo_next2_3, if_neg h9, if_neg h24, if_neg h28]; done) | (simp only [fMo_next2_3, if_neg h9, if_neg h24, if_neg h28]; with_reducible rfl) | with_reducible rfl)) (hz.trans (by first | (simp only [fMo_next2_3, if_neg h9, if_neg h24, if_neg h28]; done) | (simp only [fMo_next2_3, if_neg h9, if_neg h24, if_neg h28]; with_reducible rfl) | with_reducible rfl))
      ·
        refine pm_iconst (v := 1) dMo_next2_31 (by decide) ?_
        refine pm_goto 36 dMo_next2_32 (by decide) ?_
        exact pm_zret dMo_next2_36 rfl (by first | rfl | decide) (ho.trans (by first | (simp only [fMo_next2_3, if_neg h9, if_neg h24, if_pos h28]; done) | (simp only [fMo_next2_3, if_neg h9, if_neg h24, if_pos h28]; with_reducible rfl) | with_reducible rfl)) (hz.trans (by first | (simp only [fMo_next2_3, if_neg h9, if_neg h24, if_pos h28]; done) | (simp only [fMo_next2_3, if_neg h9, if_neg h24, if_pos h28]; with_reducible rfl) | with_reducible rfl))
set_option maxHeartbeats 4000000 in
set_option maxRecDepth 100000 in
theorem Mo_next2_n0 (g : pmG) (d : Nat) (R : Nat → Nat → Value) (hR : mk_R R) (J : Nat → Nat → Int64) (o : Outcome) (Z : pmM) (n3 : Nat) (y1 : Value) (y2 : Int32) (y3 : Int32) (I : Nat → Nat → Int32) (B : Nat → Value) (E : List (Nat × Nat)) (hp : pMo_next2 n3 y1 y2 y3 I B E) (ho : o = .returned (some (.int (fMo_next2 n3 y1 y2 y3 I B E)))) (hz : Z = (mk_K ++ E, mk_B R B, I, J)) : pmE g kMo_next2 (d + 1) 0 0 0 [(0, .ref 40), (1, y1), (2, .int y2), (3, .int y3)] [] (mk_K ++ E) (mk_B R B) I J o Z := by
  unfold pMo_next2 at hp
  have hv0 := hp.1
  refine pm_iconst (v := 0) dMo_next2_0 (by decide) ?_
  refine pm_istore dMo_next2_1 (by decide) rfl ?_
  refine pm_wk [1, 2, 3, 4, 0] rfl ?_
  exact Mo_next2_n3 g d R hR J _ _  n3 _ _ _ _ _ _ _ hp.2 (ho.trans (by first | (simp only [fMo_next2]; done) | (simp only [fMo_next2]; with_reducible rfl) | with_reducible rfl)) (hz.trans (by first | (simp only [fMo_next2]; done) | (simp only [fMo_next2]; with_reducible rfl) | with_reducible rfl))
set_option maxHeartbeats 4000000 in
set_option maxRecDepth 100000 in
theorem Mo_next2_ok (g : pmG) (d : Nat) (R : Nat → Nat → Value) (hR : mk_R R) (n3 : Nat) (v0 : Value) (x0 : Int32) (x1 : Int32) (I : Nat → Nat → Int32) (B : Nat → Value) (E : List (Nat × Nat)) (J : Nat → Nat → Int64) (hp : pMo_next2 n3 v0 x0 x1 I B E) : pmC g kMo_next2 (d + 1) 0 0 [.ref 40, v0, .int x0, .int x1] (mk_K ++ E, mk_B R B, I, J) (.returned (some (.int (fMo_next2 n3 v0 x0 x1 I B E)))) (mk_K ++ E, mk_B R B, I, J) :=
  by
  have hv9 : pv v0 := by
    unfold pMo_next2 at hp
    exact hp.1
  rcases hv9 with rfl | ⟨q0, rfl⟩ <;> exact pmC.of (by decide) (Nat.le_of_ble_eq_true rfl) (Mo_next2_n0 g d R hR J _ _ n3 _ x0 x1 I B E hp rfl rfl)
def fMo_fixed_264 (r3 : Int32 → Value → Value → Value → Int32 → (Nat → Nat → Int32) → (Nat → Value) → (List (Nat × Nat)) → (Nat → Nat → Int32)) (r14 : Int32 → Value → Value → Value → Int32 → Int32 → (Nat → Nat → Int32) → (Nat → Value) → (List (Nat × Nat)) → (Nat → Nat → Int32)) (y1 : Int32) (y2 : Value) (y3 : Value) (y4 : Value) (y5 : Int32) (y6 : Int32) (y7 : Int32) (z0 : Int32) (I : Nat → Nat → Int32) (B : Nat → Value) (E : List (Nat × Nat)) : (Nat → Nat → Int32) :=
  r14 y1 y2 y3 y4 z0 (y6 + Int32.ofInt 1) (pm_u I (pa y2) y6.toNatClampNeg (vp_nar .boolean y7)) B E
def pMo_fixed_264 (q3 : Int32 → Value → Value → Value → Int32 → (Nat → Nat → Int32) → (Nat → Value) → (List (Nat × Nat)) → Prop) (q14 : Int32 → Value → Value → Value → Int32 → Int32 → (Nat → Nat → Int32) → (Nat → Value) → (List (Nat × Nat)) → Prop) (y1 : Int32) (y2 : Value) (y3 : Value) (y4 : Value) (y5 : Int32) (y6 : Int32) (y7 : Int32) (z0 : Int32) (I : Nat → Nat → Int32) (B : Nat → Value) (E : List (Nat × Nat)) : Prop :=
  (pv y4) ∧ ((pv y2) ∧ ((y2 = .ref (pa y2) ∧ (mk_K ++ E)[pa y2]? = some (3, 256) ∧ vp_in y6 256) ∧ (q14 y1 y2 y3 y4 z0 (y6 + Int32.ofInt 1) (pm_u I (pa y2) y6.toNatClampNeg (vp_nar .boolean y7)) B E)))
def fMo_fixed_259 (r3 : Int32 → Value → Value → Value → Int32 → (Nat → Nat → Int32) → (Nat → Value) → (List (Nat × Nat)) → (Nat → Nat → Int32)) (r14 : Int32 → Value → Value → Value → Int32 → Int32 → (Nat → Nat → Int32) → (Nat → Value) → (List (Nat × Nat)) → (Nat → Nat → Int32)) (y1 : Int32) (y2 : Value) (y3 : Value) (y4 : Value) (y5 : Int32) (y6 : Int32) (y7 : Int32) (I : Nat → Nat → Int32) (B : Nat → Value) (E : List (Nat × Nat)) : (Nat → Nat → Int32) :=
  fMo_fixed_264 r3 r14 y1 y2 y3 y4 y5 y6 y7 (1 : Int32) I B E
def pMo_fixed_259 (q3 : Int32 → Value → Value → Value → Int32 → (Nat → Nat → Int32) → (Nat → Value) → (List (Nat × Nat)) → Prop) (q14 : Int32 → Value → Value → Value → Int32 → Int32 → (Nat → Nat → Int32) → (Nat → Value) → (List (Nat × Nat)) → Prop) (y1 : Int32) (y2 : Value) (y3 : Value) (y4 : Value) (y5 : Int32) (y6 : Int32) (y7 : Int32) (I : Nat → Nat → Int32) (B : Nat → Value) (E : List (Nat × Nat)) : Prop :=
  pMo_fixed_264 q3 q14 y1 y2 y3 y4 y5 y6 y7 (1 : Int32) I B E
def fMo_fixed_245 (r3 : Int32 → Value → Value → Value → Int32 → (Nat → Nat → Int32) → (Nat → Value) → (List (Nat × Nat)) → (Nat → Nat → Int32)) (r14 : Int32 → Value → Value → Value → Int32 → Int32 → (Nat → Nat → Int32) → (Nat → Value) → (List (Nat × Nat)) → (Nat → Nat → Int32)) (y1 : Int32) (y2 : Value) (y3 : Value) (y4 : Value) (y5 : Int32) (y6 : Int32) (y7 : Int32) (I : Nat → Nat → Int32) (B : Nat → Value) (E : List (Nat × Nat)) : (Nat → Nat → Int32) :=
  if y5 = 0 then if y7 = (I (pa y2) y6.toNatClampNeg) then fMo_fixed_264 r3 r14 y1 y2 y3 y4 y5 y6 y7 (0 : Int32) I B E
    else fMo_fixed_259 r3 r14 y1 y2 y3 y4 y5 y6 y7 I B E
  else fMo_fixed_259 r3 r14 y1 y2 y3 y4 y5 y6 y7 I B E
def pMo_fixed_245 (q3 : Int32 → Value → Value → Value → Int32 → (Nat → Nat → Int32) → (Nat → Value) → (List (Nat × Nat)) → Prop) (q14 : Int32 → Value → Value → Value → Int32 → Int32 → (Nat → Nat → Int32) → (Nat → Value) → (List (Nat × Nat)) → Prop) (y1 : Int32) (y2 : Value) (y3 : Value) (y4 : Value) (y5 : Int32) (y6 : Int32) (y7 : Int32) (I : Nat → Nat → Int32) (B : Nat → Value) (E : List (Nat × Nat)) : Prop :=
  (y5 = 0 → (pv y2) ∧ ((y2 = .ref (pa y2) ∧ (mk_K ++ E)[pa y2]? = some (3, 256) ∧ vp_in y6 256) ∧ ((y7 = (I (pa y2) y6.toNatClampNeg) → pMo_fixed_264 q3 q14 y1 y2 y3 y4 y5 y6 y7 (0 : Int32) I B E) ∧
    (¬ (y7 = (I (pa y2) y6.toNatClampNeg)) → pMo_fixed_259 q3 q14 y1 y2 y3 y4 y5 y6 y7 I B E)))) ∧
  (¬ (y5 = 0) → pMo_fixed_259 q3 q14 y1 y2 y3 y4 y5 y6 y7 I B E)
def fMo_fixed_95 (r3 : Int32 → Value → Value → Value → Int32 → (Nat → Nat → Int32) → (Nat → Value) → (List (Nat × Nat)) → (Nat → Nat → Int32)) (r14 : Int32 → Value → Value → Value → Int32 → Int32 → (Nat → Nat → Int32) → (Nat → Value) → (List (Nat × Nat)) → (Nat → Nat → Int32)) (y1 : Int32) (y2 : Value) (y3 : Value) (y4 : Value) (y5 : Int32) (y6 : Int32) (z0 : Int32) (I : Nat → Nat → Int32) (B : Nat → Value) (E : List (Nat × Nat)) : (Nat → Nat → Int32) :=
  fMo_fixed_245 r3 r14 y1 y2 y3 y4 y5 y6 z0 I B E
def pMo_fixed_95 (q3 : Int32 → Value → Value → Value → Int32 → (Nat → Nat → Int32) → (Nat → Value) → (List (Nat × Nat)) → Prop) (q14 : Int32 → Value → Value → Value → Int32 → Int32 → (Nat → Nat → Int32) → (Nat → Value) → (List (Nat × Nat)) → Prop) (y1 : Int32) (y2 : Value) (y3 : Value) (y4 : Value) (y5 : Int32) (y6 : Int32) (z0 : Int32) (I : Nat → Nat → Int32) (B : Nat → Value) (E : List (Nat × Nat)) : Prop :=
  pMo_fixed_245 q3 q14 y1 y2 y3 y4 y5 y6 z0 I B E
def fMo_fixed_90 (r3 : Int32 → Value → Value → Value → Int32 → (Nat → Nat → Int32) → (Nat → Value) → (List (Nat × Nat)) → (Nat → Nat → Int32)) (r14 : Int32 → Value → Value → Value → Int32 → Int32 → (Nat → Nat → Int32) → (Nat → Value) → (List (Nat × Nat)) → (Nat → Nat → Int32)) (y1 : Int32) (y2 : Value) (y3 : Value) (y4 : Value) (y5 : Int32) (y6 : Int32) (I : Nat → Nat → Int32) (B : Nat → Value) (E : List (Nat × Nat)) : (Nat → Nat → Int32) :=
  fMo_fixed_95 r3 r14 y1 y2 y3 y4 y5 y6 (1 : Int32) I B E
def pMo_fixed_90 (q3 : Int32 → Value → Value → Value → Int32 → (Nat → Nat → Int32) → (Nat → Value) → (List (Nat × Nat)) → Prop) (q14 : Int32 → Value → Value → Value → Int32 → Int32 → (Nat → Nat → Int32) → (Nat → Value) → (List (Nat × Nat)) → Prop) (y1 : Int32) (y2 : Value) (y3 : Value) (y4 : Value) (y5 : Int32) (y6 : Int32) (I : Nat → Nat → Int32) (B : Nat → Value) (E : List (Nat × Nat)) : Prop :=
  pMo_fixed_95 q3 q14 y1 y2 y3 y4 y5 y6 (1 : Int32) I B E
def fMo_fixed_94 (r3 : Int32 → Value → Value → Value → Int32 → (Nat → Nat → Int32) → (Nat → Value) → (List (Nat × Nat)) → (Nat → Nat → Int32)) (r14 : Int32 → Value → Value → Value → Int32 → Int32 → (Nat → Nat → Int32) → (Nat → Value) → (List (Nat × Nat)) → (Nat → Nat → Int32)) (y1 : Int32) (y2 : Value) (y3 : Value) (y4 : Value) (y5 : Int32) (y6 : Int32) (I : Nat → Nat → Int32) (B : Nat → Value) (E : List (Nat × Nat)) : (Nat → Nat → Int32) :=
  fMo_fixed_95 r3 r14 y1 y2 y3 y4 y5 y6 (0 : Int32) I B E
def pMo_fixed_94 (q3 : Int32 → Value → Value → Value → Int32 → (Nat → Nat → Int32) → (Nat → Value) → (List (Nat × Nat)) → Prop) (q14 : Int32 → Value → Value → Value → Int32 → Int32 → (Nat → Nat → Int32) → (Nat → Value) → (List (Nat × Nat)) → Prop) (y1 : Int32) (y2 : Value) (y3 : Value) (y4 : Value) (y5 : Int32) (y6 : Int32) (I : Nat → Nat → Int32) (B : Nat → Value) (E : List (Nat × Nat)) : Prop :=
  pMo_fixed_95 q3 q14 y1 y2 y3 y4 y5 y6 (0 : Int32) I B E
def fMo_fixed_131 (r3 : Int32 → Value → Value → Value → Int32 → (Nat → Nat → Int32) → (Nat → Value) → (List (Nat × Nat)) → (Nat → Nat → Int32)) (r14 : Int32 → Value → Value → Value → Int32 → Int32 → (Nat → Nat → Int32) → (Nat → Value) → (List (Nat × Nat)) → (Nat → Nat → Int32)) (y1 : Int32) (y2 : Value) (y3 : Value) (y4 : Value) (y5 : Int32) (y6 : Int32) (z0 : Int32) (I : Nat → Nat → Int32) (B : Nat → Value) (E : List (Nat × Nat)) : (Nat → Nat → Int32) :=
  fMo_fixed_245 r3 r14 y1 y2 y3 y4 y5 y6 z0 I B E
def pMo_fixed_131 (q3 : Int32 → Value → Value → Value → Int32 → (Nat → Nat → Int32) → (Nat → Value) → (List (Nat × Nat)) → Prop) (q14 : Int32 → Value → Value → Value → Int32 → Int32 → (Nat → Nat → Int32) → (Nat → Value) → (List (Nat × Nat)) → Prop) (y1 : Int32) (y2 : Value) (y3 : Value) (y4 : Value) (y5 : Int32) (y6 : Int32) (z0 : Int32) (I : Nat → Nat → Int32) (B : Nat → Value) (E : List (Nat × Nat)) : Prop :=
  pMo_fixed_245 q3 q14 y1 y2 y3 y4 y5 y6 z0 I B E
def fMo_fixed_126 (r3 : Int32 → Value → Value → Value → Int32 → (Nat → Nat → Int32) → (Nat → Value) → (List (Nat × Nat)) → (Nat → Nat → Int32)) (r14 : Int32 → Value → Value → Value → Int32 → Int32 → (Nat → Nat → Int32) → (Nat → Value) → (List (Nat × Nat)) → (Nat → Nat → Int32)) (y1 : Int32) (y2 : Value) (y3 : Value) (y4 : Value) (y5 : Int32) (y6 : Int32) (I : Nat → Nat → Int32) (B : Nat → Value) (E : List (Nat × Nat)) : (Nat → Nat → Int32) :=
  fMo_fixed_131 r3 r14 y1 y2 y3 y4 y5 y6 (1 : Int32) I B E
def pMo_fixed_126 (q3 : Int32 → Value → Value → Value → Int32 → (Nat → Nat → Int32) → (Nat → Value) → (List (Nat × Nat)) → Prop) (q14 : Int32 → Value → Value → Value → Int32 → Int32 → (Nat → Nat → Int32) → (Nat → Value) → (List (Nat × Nat)) → Prop) (y1 : Int32) (y2 : Value) (y3 : Value) (y4 : Value) (y5 : Int32) (y6 : Int32) (I : Nat → Nat → Int32) (B : Nat → Value) (E : List (Nat × Nat)) : Prop :=
  pMo_fixed_131 q3 q14 y1 y2 y3 y4 y5 y6 (1 : Int32) I B E
def fMo_fixed_130 (r3 : Int32 → Value → Value → Value → Int32 → (Nat → Nat → Int32) → (Nat → Value) → (List (Nat × Nat)) → (Nat → Nat → Int32)) (r14 : Int32 → Value → Value → Value → Int32 → Int32 → (Nat → Nat → Int32) → (Nat → Value) → (List (Nat × Nat)) → (Nat → Nat → Int32)) (y1 : Int32) (y2 : Value) (y3 : Value) (y4 : Value) (y5 : Int32) (y6 : Int32) (I : Nat → Nat → Int32) (B : Nat → Value) (E : List (Nat × Nat)) : (Nat → Nat → Int32) :=
  fMo_fixed_131 r3 r14 y1 y2 y3 y4 y5 y6 (0 : Int32) I B E
def pMo_fixed_130 (q3 : Int32 → Value → Value → Value → Int32 → (Nat → Nat → Int32) → (Nat → Value) → (List (Nat × Nat)) → Prop) (q14 : Int32 → Value → Value → Value → Int32 → Int32 → (Nat → Nat → Int32) → (Nat → Value) → (List (Nat × Nat)) → Prop) (y1 : Int32) (y2 : Value) (y3 : Value) (y4 : Value) (y5 : Int32) (y6 : Int32) (I : Nat → Nat → Int32) (B : Nat → Value) (E : List (Nat × Nat)) : Prop :=
  pMo_fixed_131 q3 q14 y1 y2 y3 y4 y5 y6 (0 : Int32) I B E
def fMo_fixed_159 (r3 : Int32 → Value → Value → Value → Int32 → (Nat → Nat → Int32) → (Nat → Value) → (List (Nat × Nat)) → (Nat → Nat → Int32)) (r14 : Int32 → Value → Value → Value → Int32 → Int32 → (Nat → Nat → Int32) → (Nat → Value) → (List (Nat × Nat)) → (Nat → Nat → Int32)) (y1 : Int32) (y2 : Value) (y3 : Value) (y4 : Value) (y5 : Int32) (y6 : Int32) (z0 : Int32) (I : Nat → Nat → Int32) (B : Nat → Value) (E : List (Nat × Nat)) : (Nat → Nat → Int32) :=
  fMo_fixed_245 r3 r14 y1 y2 y3 y4 y5 y6 z0 I B E
def pMo_fixed_159 (q3 : Int32 → Value → Value → Value → Int32 → (Nat → Nat → Int32) → (Nat → Value) → (List (Nat × Nat)) → Prop) (q14 : Int32 → Value → Value → Value → Int32 → Int32 → (Nat → Nat → Int32) → (Nat → Value) → (List (Nat × Nat)) → Prop) (y1 : Int32) (y2 : Value) (y3 : Value) (y4 : Value) (y5 : Int32) (y6 : Int32) (z0 : Int32) (I : Nat → Nat → Int32) (B : Nat → Value) (E : List (Nat × Nat)) : Prop :=
  pMo_fixed_245 q3 q14 y1 y2 y3 y4 y5 y6 z0 I B E
def fMo_fixed_154 (r3 : Int32 → Value → Value → Value → Int32 → (Nat → Nat → Int32) → (Nat → Value) → (List (Nat × Nat)) → (Nat → Nat → Int32)) (r14 : Int32 → Value → Value → Value → Int32 → Int32 → (Nat → Nat → Int32) → (Nat → Value) → (List (Nat × Nat)) → (Nat → Nat → Int32)) (y1 : Int32) (y2 : Value) (y3 : Value) (y4 : Value) (y5 : Int32) (y6 : Int32) (I : Nat → Nat → Int32) (B : Nat → Value) (E : List (Nat × Nat)) : (Nat → Nat → Int32) :=
  fMo_fixed_159 r3 r14 y1 y2 y3 y4 y5 y6 (1 : Int32) I B E
def pMo_fixed_154 (q3 : Int32 → Value → Value → Value → Int32 → (Nat → Nat → Int32) → (Nat → Value) → (List (Nat × Nat)) → Prop) (q14 : Int32 → Value → Value → Value → Int32 → Int32 → (Nat → Nat → Int32) → (Nat → Value) → (List (Nat × Nat)) → Prop) (y1 : Int32) (y2 : Value) (y3 : Value) (y4 : Value) (y5 : Int32) (y6 : Int32) (I : Nat → Nat → Int32) (B : Nat → Value) (E : List (Nat × Nat)) : Prop :=
  pMo_fixed_159 q3 q14 y1 y2 y3 y4 y5 y6 (1 : Int32) I B E
def fMo_fixed_187 (r3 : Int32 → Value → Value → Value → Int32 → (Nat → Nat → Int32) → (Nat → Value) → (List (Nat × Nat)) → (Nat → Nat → Int32)) (r14 : Int32 → Value → Value → Value → Int32 → Int32 → (Nat → Nat → Int32) → (Nat → Value) → (List (Nat × Nat)) → (Nat → Nat → Int32)) (y1 : Int32) (y2 : Value) (y3 : Value) (y4 : Value) (y5 : Int32) (y6 : Int32) (z0 : Int32) (I : Nat → Nat → Int32) (B : Nat → Value) (E : List (Nat × Nat)) : (Nat → Nat → Int32) :=
  fMo_fixed_245 r3 r14 y1 y2 y3 y4 y5 y6 z0 I B E
def pMo_fixed_187 (q3 : Int32 → Value → Value → Value → Int32 → (Nat → Nat → Int32) → (Nat → Value) → (List (Nat × Nat)) → Prop) (q14 : Int32 → Value → Value → Value → Int32 → Int32 → (Nat → Nat → Int32) → (Nat → Value) → (List (Nat × Nat)) → Prop) (y1 : Int32) (y2 : Value) (y3 : Value) (y4 : Value) (y5 : Int32) (y6 : Int32) (z0 : Int32) (I : Nat → Nat → Int32) (B : Nat → Value) (E : List (Nat × Nat)) : Prop :=
  pMo_fixed_245 q3 q14 y1 y2 y3 y4 y5 y6 z0 I B E
def fMo_fixed_182 (r3 : Int32 → Value → Value → Value → Int32 → (Nat → Nat → Int32) → (Nat → Value) → (List (Nat × Nat)) → (Nat → Nat → Int32)) (r14 : Int32 → Value → Value → Value → Int32 → Int32 → (Nat → Nat → Int32) → (Nat → Value) → (List (Nat × Nat)) → (Nat → Nat → Int32)) (y1 : Int32) (y2 : Value) (y3 : Value) (y4 : Value) (y5 : Int32) (y6 : Int32) (I : Nat → Nat → Int32) (B : Nat → Value) (E : List (Nat × Nat)) : (Nat → Nat → Int32) :=
  fMo_fixed_187 r3 r14 y1 y2 y3 y4 y5 y6 (1 : Int32) I B E
def pMo_fixed_182 (q3 : Int32 → Value → Value → Value → Int32 → (Nat → Nat → Int32) → (Nat → Value) → (List (Nat × Nat)) → Prop) (q14 : Int32 → Value → Value → Value → Int32 → Int32 → (Nat → Nat → Int32) → (Nat → Value) → (List (Nat × Nat)) → Prop) (y1 : Int32) (y2 : Value) (y3 : Value) (y4 : Value) (y5 : Int32) (y6 : Int32) (I : Nat → Nat → Int32) (B : Nat → Value) (E : List (Nat × Nat)) : Prop :=
  pMo_fixed_187 q3 q14 y1 y2 y3 y4 y5 y6 (1 : Int32) I B E
def fMo_fixed_215 (r3 : Int32 → Value → Value → Value → Int32 → (Nat → Nat → Int32) → (Nat → Value) → (List (Nat × Nat)) → (Nat → Nat → Int32)) (r14 : Int32 → Value → Value → Value → Int32 → Int32 → (Nat → Nat → Int32) → (Nat → Value) → (List (Nat × Nat)) → (Nat → Nat → Int32)) (y1 : Int32) (y2 : Value) (y3 : Value) (y4 : Value) (y5 : Int32) (y6 : Int32) (z0 : Int32) (I : Nat → Nat → Int32) (B : Nat → Value) (E : List (Nat × Nat)) : (Nat → Nat → Int32) :=
  fMo_fixed_245 r3 r14 y1 y2 y3 y4 y5 y6 z0 I B E
def pMo_fixed_215 (q3 : Int32 → Value → Value → Value → Int32 → (Nat → Nat → Int32) → (Nat → Value) → (List (Nat × Nat)) → Prop) (q14 : Int32 → Value → Value → Value → Int32 → Int32 → (Nat → Nat → Int32) → (Nat → Value) → (List (Nat × Nat)) → Prop) (y1 : Int32) (y2 : Value) (y3 : Value) (y4 : Value) (y5 : Int32) (y6 : Int32) (z0 : Int32) (I : Nat → Nat → Int32) (B : Nat → Value) (E : List (Nat × Nat)) : Prop :=
  pMo_fixed_245 q3 q14 y1 y2 y3 y4 y5 y6 z0 I B E
def fMo_fixed_214 (r3 : Int32 → Value → Value → Value → Int32 → (Nat → Nat → Int32) → (Nat → Value) → (List (Nat × Nat)) → (Nat → Nat → Int32)) (r14 : Int32 → Value → Value → Value → Int32 → Int32 → (Nat → Nat → Int32) → (Nat → Value) → (List (Nat × Nat)) → (Nat → Nat → Int32)) (y1 : Int32) (y2 : Value) (y3 : Value) (y4 : Value) (y5 : Int32) (y6 : Int32) (I : Nat → Nat → Int32) (B : Nat → Value) (E : List (Nat × Nat)) : (Nat → Nat → Int32) :=
  fMo_fixed_215 r3 r14 y1 y2 y3 y4 y5 y6 (0 : Int32) I B E
def pMo_fixed_214 (q3 : Int32 → Value → Value → Value → Int32 → (Nat → Nat → Int32) → (Nat → Value) → (List (Nat × Nat)) → Prop) (q14 : Int32 → Value → Value → Value → Int32 → Int32 → (Nat → Nat → Int32) → (Nat → Value) → (List (Nat × Nat)) → Prop) (y1 : Int32) (y2 : Value) (y3 : Value) (y4 : Value) (y5 : Int32) (y6 : Int32) (I : Nat → Nat → Int32) (B : Nat → Value) (E : List (Nat × Nat)) : Prop :=
  pMo_fixed_215 q3 q14 y1 y2 y3 y4 y5 y6 (0 : Int32) I B E
def fMo_fixed_243 (r3 : Int32 → Value → Value → Value → Int32 → (Nat → Nat → Int32) → (Nat → Value) → (List (Nat × Nat)) → (Nat → Nat → Int32)) (r14 : Int32 → Value → Value → Value → Int32 → Int32 → (Nat → Nat → Int32) → (Nat → Value) → (List (Nat × Nat)) → (Nat → Nat → Int32)) (y1 : Int32) (y2 : Value) (y3 : Value) (y4 : Value) (y5 : Int32) (y6 : Int32) (z0 : Int32) (I : Nat → Nat → Int32) (B : Nat → Value) (E : List (Nat × Nat)) : (Nat → Nat → Int32) :=
  fMo_fixed_245 r3 r14 y1 y2 y3 y4 y5 y6 z0 I B E
def pMo_fixed_243 (q3 : Int32 → Value → Value → Value → Int32 → (Nat → Nat → Int32) → (Nat → Value) → (List (Nat × Nat)) → Prop) (q14 : Int32 → Value → Value → Value → Int32 → Int32 → (Nat → Nat → Int32) → (Nat → Value) → (List (Nat × Nat)) → Prop) (y1 : Int32) (y2 : Value) (y3 : Value) (y4 : Value) (y5 : Int32) (y6 : Int32) (z0 : Int32) (I : Nat → Nat → Int32) (B : Nat → Value) (E : List (Nat × Nat)) : Prop :=
  pMo_fixed_245 q3 q14 y1 y2 y3 y4 y5 y6 z0 I B E
def fMo_fixed_242 (r3 : Int32 → Value → Value → Value → Int32 → (Nat → Nat → Int32) → (Nat → Value) → (List (Nat × Nat)) → (Nat → Nat → Int32)) (r14 : Int32 → Value → Value → Value → Int32 → Int32 → (Nat → Nat → Int32) → (Nat → Value) → (List (Nat × Nat)) → (Nat → Nat → Int32)) (y1 : Int32) (y2 : Value) (y3 : Value) (y4 : Value) (y5 : Int32) (y6 : Int32) (I : Nat → Nat → Int32) (B : Nat → Value) (E : List (Nat × Nat)) : (Nat → Nat → Int32) :=
  fMo_fixed_243 r3 r14 y1 y2 y3 y4 y5 y6 (0 : Int32) I B E
def pMo_fixed_242 (q3 : Int32 → Value → Value → Value → Int32 → (Nat → Nat → Int32) → (Nat → Value) → (List (Nat × Nat)) → Prop) (q14 : Int32 → Value → Value → Value → Int32 → Int32 → (Nat → Nat → Int32) → (Nat → Value) → (List (Nat × Nat)) → Prop) (y1 : Int32) (y2 : Value) (y3 : Value) (y4 : Value) (y5 : Int32) (y6 : Int32) (I : Nat → Nat → Int32) (B : Nat → Value) (E : List (Nat × Nat)) : Prop :=
  pMo_fixed_243 q3 q14 y1 y2 y3 y4 y5 y6 (0 : Int32) I B E
def fMo_fixed_14 (r3 : Int32 → Value → Value → Value → Int32 → (Nat → Nat → Int32) → (Nat → Value) → (List (Nat × Nat)) → (Nat → Nat → Int32)) : Nat → Int32 → Value → Value → Value → Int32 → Int32 → (Nat → Nat → Int32) → (Nat → Value) → List (Nat × Nat) → (Nat → Nat → Int32)
  | 0, _, _, _, _, _, _, I, _, _ => I
  | n + 1, y1, y2, y3, y4, y5, y6, I, B, E =>
  if ((fMo_all I)) ≤ y6 then r3 y1 y2 y3 y4 y5 I B E
  else if (I 57 y1.toNatClampNeg) = 6 then if (I (pa y4) y6.toNatClampNeg) = 0 then if (I (pa y3) y6.toNatClampNeg) = 0 then fMo_fixed_94 r3 (fMo_fixed_14 r3 n) y1 y2 y3 y4 y5 y6 I B E
        else if ((fMo_next2 9 y2 y6 (0 : Int32) I B E)) = 0 then fMo_fixed_94 r3 (fMo_fixed_14 r3 n) y1 y2 y3 y4 y5 y6 I B E
          else fMo_fixed_90 r3 (fMo_fixed_14 r3 n) y1 y2 y3 y4 y5 y6 I B E
      else fMo_fixed_90 r3 (fMo_fixed_14 r3 n) y1 y2 y3 y4 y5 y6 I B E
    else if (I 57 y1.toNatClampNeg) = 7 then if (I (pa y4) y6.toNatClampNeg) = 0 then if (I (pa y3) y6.toNatClampNeg) = 0 then fMo_fixed_130 r3 (fMo_fixed_14 r3 n) y1 y2 y3 y4 y5 y6 I B E
        else if ((fMo_next2 9 y2 y6 (1 : Int32) I B E)) = 0 then fMo_fixed_130 r3 (fMo_fixed_14 r3 n) y1 y2 y3 y4 y5 y6 I B E
          else fMo_fixed_126 r3 (fMo_fixed_14 r3 n) y1 y2 y3 y4 y5 y6 I B E
      else fMo_fixed_126 r3 (fMo_fixed_14 r3 n) y1 y2 y3 y4 y5 y6 I B E
    else if (I 57 y1.toNatClampNeg) = 8 then if (I (pa y3) y6.toNatClampNeg) = 0 then if ((fMo_next2 9 y2 y6 (0 : Int32) I B E)) = 0 then fMo_fixed_159 r3 (fMo_fixed_14 r3 n) y1 y2 y3 y4 y5 y6 (0 : Int32) I B E
        else fMo_fixed_154 r3 (fMo_fixed_14 r3 n) y1 y2 y3 y4 y5 y6 I B E
      else fMo_fixed_154 r3 (fMo_fixed_14 r3 n) y1 y2 y3 y4 y5 y6 I B E
    else if (I 57 y1.toNatClampNeg) = 9 then if (I (pa y3) y6.toNatClampNeg) = 0 then if ((fMo_next2 9 y2 y6 (1 : Int32) I B E)) = 0 then fMo_fixed_187 r3 (fMo_fixed_14 r3 n) y1 y2 y3 y4 y5 y6 (0 : Int32) I B E
        else fMo_fixed_182 r3 (fMo_fixed_14 r3 n) y1 y2 y3 y4 y5 y6 I B E
      else fMo_fixed_182 r3 (fMo_fixed_14 r3 n) y1 y2 y3 y4 y5 y6 I B E
    else if (I 57 y1.toNatClampNeg) = 10 then if (I (pa y3) y6.toNatClampNeg) = 0 then fMo_fixed_214 r3 (fMo_fixed_14 r3 n) y1 y2 y3 y4 y5 y6 I B E
      else if ((fMo_next2 9 y2 y6 (0 : Int32) I B E)) = 0 then fMo_fixed_214 r3 (fMo_fixed_14 r3 n) y1 y2 y3 y4 y5 y6 I B E
        else fMo_fixed_215 r3 (fMo_fixed_14 r3 n) y1 y2 y3 y4 y5 y6 (1 : Int32) I B E
    else if (I (pa y3) y6.toNatClampNeg) = 0 then fMo_fixed_242 r3 (fMo_fixed_14 r3 n) y1 y2 y3 y4 y5 y6 I B E
      else if ((fMo_next2 9 y2 y6 (1 : Int32) I B E)) = 0 then fMo_fixed_242 r3 (fMo_fixed_14 r3 n) y1 y2 y3 y4 y5 y6 I B E
        else fMo_fixed_243 r3 (fMo_fixed_14 r3 n) y1 y2 y3 y4 y5 y6 (1 : Int32) I B E
def pMo_fixed_14 (q3 : Int32 → Value → Value → Value → Int32 → (Nat → Nat → Int32) → (Nat → Value) → (List (Nat × Nat)) → Prop) : Nat → Int32 → Value → Value → Value → Int32 → Int32 → (Nat → Nat → Int32) → (Nat → Value) → List (Nat × Nat) → Prop
  | 0, _, _, _, _, _, _, _, _, _ => False
  | n + 1, y1, y2, y3, y4, y5, y6, I, B, E =>
  (pMo_all I) ∧ ((((fMo_all I)) ≤ y6 → q3 y1 y2 y3 y4 y5 I B E) ∧
  (¬ (((fMo_all I)) ≤ y6) → (vp_in y1 4200) ∧ (((I 57 y1.toNatClampNeg) = 6 → (pv y4) ∧ ((y4 = .ref (pa y4) ∧ (mk_K ++ E)[pa y4]? = some (3, 256) ∧ vp_in y6 256) ∧ (((I (pa y4) y6.toNatClampNeg) = 0 → (pv y3) ∧ ((y3 = .ref (pa y3) ∧ (mk_K ++ E)[pa y3]? = some (3, 256) ∧ vp_in y6 256) ∧ (((I (pa y3) y6.toNatClampNeg) = 0 → pMo_fixed_94 q3 (pMo_fixed_14 q3 n) y1 y2 y3 y4 y5 y6 I B E) ∧
        (¬ ((I (pa y3) y6.toNatClampNeg) = 0) → (pv y2) ∧ ((pMo_next2 9 y2 y6 (0 : Int32) I B E) ∧ ((((fMo_next2 9 y2 y6 (0 : Int32) I B E)) = 0 → pMo_fixed_94 q3 (pMo_fixed_14 q3 n) y1 y2 y3 y4 y5 y6 I B E) ∧
          (¬ (((fMo_next2 9 y2 y6 (0 : Int32) I B E)) = 0) → pMo_fixed_90 q3 (pMo_fixed_14 q3 n) y1 y2 y3 y4 y5 y6 I B E))))))) ∧
      (¬ ((I (pa y4) y6.toNatClampNeg) = 0) → pMo_fixed_90 q3 (pMo_fixed_14 q3 n) y1 y2 y3 y4 y5 y6 I B E)))) ∧
    (¬ ((I 57 y1.toNatClampNeg) = 6) → ((I 57 y1.toNatClampNeg) = 7 → (pv y4) ∧ ((y4 = .ref (pa y4) ∧ (mk_K ++ E)[pa y4]? = some (3, 256) ∧ vp_in y6 256) ∧ (((I (pa y4) y6.toNatClampNeg) = 0 → (pv y3) ∧ ((y3 = .ref (pa y3) ∧ (mk_K ++ E)[pa y3]? = some (3, 256) ∧ vp_in y6 256) ∧ (((I (pa y3) y6.toNatClampNeg) = 0 → pMo_fixed_130 q3 (pMo_fixed_14 q3 n) y1 y2 y3 y4 y5 y6 I B E) ∧
        (¬ ((I (pa y3) y6.toNatClampNeg) = 0) → (pv y2) ∧ ((pMo_next2 9 y2 y6 (1 : Int32) I B E) ∧ ((((fMo_next2 9 y2 y6 (1 : Int32) I B E)) = 0 → pMo_fixed_130 q3 (pMo_fixed_14 q3 n) y1 y2 y3 y4 y5 y6 I B E) ∧
          (¬ (((fMo_next2 9 y2 y6 (1 : Int32) I B E)) = 0) → pMo_fixed_126 q3 (pMo_fixed_14 q3 n) y1 y2 y3 y4 y5 y6 I B E))))))) ∧
      (¬ ((I (pa y4) y6.toNatClampNeg) = 0) → pMo_fixed_126 q3 (pMo_fixed_14 q3 n) y1 y2 y3 y4 y5 y6 I B E)))) ∧
    (¬ ((I 57 y1.toNatClampNeg) = 7) → ((I 57 y1.toNatClampNeg) = 8 → (pv y3) ∧ ((y3 = .ref (pa y3) ∧ (mk_K ++ E)[pa y3]? = some (3, 256) ∧ vp_in y6 256) ∧ (((I (pa y3) y6.toNatClampNeg) = 0 → (pv y2) ∧ ((pMo_next2 9 y2 y6 (0 : Int32) I B E) ∧ ((((fMo_next2 9 y2 y6 (0 : Int32) I B E)) = 0 → pMo_fixed_159 q3 (pMo_fixed_14 q3 n) y1 y2 y3 y4 y5 y6 (0 : Int32) I B E) ∧
        (¬ (((fMo_next2 9 y2 y6 (0 : Int32) I B E)) = 0) → pMo_fixed_154 q3 (pMo_fixed_14 q3 n) y1 y2 y3 y4 y5 y6 I B E)))) ∧
      (¬ ((I (pa y3) y6.toNatClampNeg) = 0) → pMo_fixed_154 q3 (pMo_fixed_14 q3 n) y1 y2 y3 y4 y5 y6 I B E)))) ∧
    (¬ ((I 57 y1.toNatClampNeg) = 8) → ((I 57 y1.toNatClampNeg) = 9 → (pv y3) ∧ ((y3 = .ref (pa y3) ∧ (mk_K ++ E)[pa y3]? = some (3, 256) ∧ vp_in y6 256) ∧ (((I (pa y3) y6.toNatClampNeg) = 0 → (pv y2) ∧ ((pMo_next2 9 y2 y6 (1 : Int32) I B E) ∧ ((((fMo_next2 9 y2 y6 (1 : Int32) I B E)) = 0 → pMo_fixed_187 q3 (pMo_fixed_14 q3 n) y1 y2 y3 y4 y5 y6 (0 : Int32) I B E) ∧
        (¬ (((fMo_next2 9 y2 y6 (1 : Int32) I B E)) = 0) → pMo_fixed_182 q3 (pMo_fixed_14 q3 n) y1 y2 y3 y4 y5 y6 I B E)))) ∧
      (¬ ((I (pa y3) y6.toNatClampNeg) = 0) → pMo_fixed_182 q3 (pMo_fixed_14 q3 n) y1 y2 y3 y4 y5 y6 I B E)))) ∧
    (¬ ((I 57 y1.toNatClampNeg) = 9) → ((I 57 y1.toNatClampNeg) = 10 → (pv y3) ∧ ((y3 = .ref (pa y3) ∧ (mk_K ++ E)[pa y3]? = some (3, 256) ∧ vp_in y6 256) ∧ (((I (pa y3) y6.toNatClampNeg) = 0 → pMo_fixed_214 q3 (pMo_fixed_14 q3 n) y1 y2 y3 y4 y5 y6 I B E) ∧
      (¬ ((I (pa y3) y6.toNatClampNeg) = 0) → (pv y2) ∧ ((pMo_next2 9 y2 y6 (0 : Int32) I B E) ∧ ((((fMo_next2 9 y2 y6 (0 : Int32) I B E)) = 0 → pMo_fixed_214 q3 (pMo_fixed_14 q3 n) y1 y2 y3 y4 y5 y6 I B E) ∧
        (¬ (((fMo_next2 9 y2 y6 (0 : Int32) I B E)) = 0) → pMo_fixed_215 q3 (pMo_fixed_14 q3 n) y1 y2 y3 y4 y5 y6 (1 : Int32) I B E))))))) ∧
    (¬ ((I 57 y1.toNatClampNeg) = 10) → (pv y3) ∧ ((y3 = .ref (pa y3) ∧ (mk_K ++ E)[pa y3]? = some (3, 256) ∧ vp_in y6 256) ∧ (((I (pa y3) y6.toNatClampNeg) = 0 → pMo_fixed_242 q3 (pMo_fixed_14 q3 n) y1 y2 y3 y4 y5 y6 I B E) ∧
      (¬ ((I (pa y3) y6.toNatClampNeg) = 0) → (pv y2) ∧ ((pMo_next2 9 y2 y6 (1 : Int32) I B E) ∧ ((((fMo_next2 9 y2 y6 (1 : Int32) I B E)) = 0 → pMo_fixed_242 q3 (pMo_fixed_14 q3 n) y1 y2 y3 y4 y5 y6 I B E) ∧
        (¬ (((fMo_next2 9 y2 y6 (1 : Int32) I B E)) = 0) → pMo_fixed_243 q3 (pMo_fixed_14 q3 n) y1 y2 y3 y4 y5 y6 (1 : Int32) I B E))))))))))))))
def fMo_fixed_3 (n14 : Nat) : Nat → Int32 → Value → Value → Value → Int32 → (Nat → Nat → Int32) → (Nat → Value) → List (Nat × Nat) → (Nat → Nat → Int32)
  | 0, _, _, _, _, _, I, _, _ => I
  | n + 1, y1, y2, y3, y4, y5, I, B, E =>
  if y5 = 0 then I
  else fMo_fixed_14 (fMo_fixed_3 n14 n) n14 y1 y2 y3 y4 (0 : Int32) (0 : Int32) I B E
def pMo_fixed_3 (n14 : Nat) : Nat → Int32 → Value → Value → Value → Int32 → (Nat → Nat → Int32) → (Nat → Value) → List (Nat × Nat) → Prop
  | 0, _, _, _, _, _, _, _, _ => False
  | n + 1, y1, y2, y3, y4, y5, I, B, E =>
  (y5 = 0 → True) ∧
  (¬ (y5 = 0) → (pv y4) ∧ (pMo_fixed_14 (pMo_fixed_3 n14 n) n14 y1 y2 y3 y4 (0 : Int32) (0 : Int32) I B E))
def fMo_fixed (n14 : Nat) (n3 : Nat) (y1 : Int32) (y2 : Value) (y3 : Value) (y4 : Value) (I : Nat → Nat → Int32) (B : Nat → Value) (E : List (Nat × Nat)) : (Nat → Nat → Int32) :=
  fMo_fixed_3 n14 n3 y1 y2 y3 y4 (1 : Int32) I B E
def pMo_fixed (n14 : Nat) (n3 : Nat) (y1 : Int32) (y2 : Value) (y3 : Value) (y4 : Value) (I : Nat → Nat → Int32) (B : Nat → Value) (E : List (Nat × Nat)) : Prop :=
  (pv y2 ∧ pv y3 ∧ pv y4) ∧ ((pv y4) ∧ (pMo_fixed_3 n14 n3 y1 y2 y3 y4 (1 : Int32) I B E))
set_option maxHeartbeats 4000000 in
set_option maxRecDepth 100000 in
theorem Mo_fixed_n264 (g : pmG) (d : Nat) (R : Nat → Nat → Value) (hR : mk_R R) (J : Nat → Nat → Int64) (o : Outcome) (Z : pmM) (r3 : Int32 → Value → Value → Value → Int32 → (Nat → Nat → Int32) → (Nat → Value) → (List (Nat × Nat)) → (Nat → Nat → Int32)) (q3 : Int32 → Value → Value → Value → Int32 → (Nat → Nat → Int32) → (Nat → Value) → (List (Nat × Nat)) → Prop) (ih3 : ∀ (y1 : Int32) (y2 : Value) (y3 : Value) (y4 : Value) (y5 : Int32) (I : Nat → Nat → Int32) (B : Nat → Value) (E : List (Nat × Nat)), q3 y1 y2 y3 y4 y5 I B E → o = .returned none → Z = (mk_K ++ E, mk_B R B, (r3 y1 y2 y3 y4 y5 I B E), J) → pmE g kMo_fixed (d + 2) 0 0 3 [(0, .ref 40), (1, .int y1), (2, y2), (3, y3), (4, y4), (5, .int y5)] [] (mk_K ++ E) (mk_B R B) I J o Z) (r14 : Int32 → Value → Value → Value → Int32 → Int32 → (Nat → Nat → Int32) → (Nat → Value) → (List (Nat × Nat)) → (Nat → Nat → Int32)) (q14 : Int32 → Value → Value → Value → Int32 → Int32 → (Nat → Nat → Int32) → (Nat → Value) → (List (Nat × Nat)) → Prop) (ih14 : ∀ (y1 : Int32) (y2 : Value) (y3 : Value) (y4 : Value) (y5 : Int32) (y6 : Int32) (I : Nat → Nat → Int32) (B : Nat → Value) (E : List (Nat × Nat)), q14 y1 y2 y3 y4 y5 y6 I B E → o = .returned none → Z = (mk_K ++ E, mk_B R B, (r14 y1 y2 y3 y4 y5 y6 I B E), J) → pmE g kMo_fixed (d + 2) 0 0 14 [(0, .ref 40), (1, .int y1), (2, y2), (3, y3), (4, y4), (5, .int y5), (6, .int y6)] [] (mk_K ++ E) (mk_B R B) I J o Z)  (y1 : Int32) (y2 : Value) (y3 : Value) (y4 : Value) (y5 : Int32) (y6 : Int32) (y7 : Int32) (z0 : Int32) (I : Nat → Nat → Int32) (B : Nat → Value) (E : List (Nat × Nat)) (hp : pMo_fixed_264 q3 q14 y1 y2 y3 y4 y5 y6 y7 z0 I B E) (ho : o = .returned none) (hz : Z = (mk_K ++ E, mk_B R B, (fMo_fixed_264 r3 r14 y1 y2 y3 y4 y5 y6 y7 z0 I B E), J)) : pmE g kMo_fixed (d + 2) 0 0 264 [(0, .ref 40), (1, .int y1), (2, y2), (3, y3), (4, y4), (5, .int y5), (6, .int y6), (7, .int y7)] [.int z0] (mk_K ++ E) (mk_B R B) I J o Z := by
  unfold pMo_fixed_264 at hp
  refine pm_istore dMo_fixed_264 (by decide) (pm_stv rfl hp.1) ?_
  refine pm_vload_n dMo_fixed_266 rfl hp.2.1 ?_
  refine pm_iload dMo_fixed_267 rfl ?_
  refine pm_iload dMo_fixed_269 rfl ?_
  refine pm_vzast dMo_fixed_271 hp.2.2.1.1 hp.2.2.1.2.1 hp.2.2.1.2.2 ?_
  refine pm_iinc dMo_fixed_272 rfl (by decide) rfl ?_
  refine pm_goto 14 dMo_fixed_275 (by decide) ?_
  refine pm_wk [2, 3, 4, 5, 6, 1, 0] rfl ?_
  exact ih14 _ _ _ _ _ _ _ _ _ hp.2.2.2 ho (hz.trans (by first | (simp only [fMo_fixed_264]; done) | (simp only [fMo_fixed_264]; with_reducible rfl) | with_reducible rfl))
set_option maxHeartbeats 4000000 in
set_option maxRecDepth 100000 in
theorem Mo_fixed_n259 (g : pmG) (d : Nat) (R : Nat → Nat → Value) (hR : mk_R R) (J : Nat → Nat → Int64) (o : Outcome) (Z : pmM) (r3 : Int32 → Value → Value → Value → Int32 → (Nat → Nat → Int32) → (Nat → Value) → (List (Nat × Nat)) → (Nat → Nat → Int32)) (q3 : Int32 → Value → Value → Value → Int32 → (Nat → Nat → Int32) → (Nat → Value) → (List (Nat × Nat)) → Prop) (ih3 : ∀ (y1 : Int32) (y2 : Value) (y3 : Value) (y4 : Value) (y5 : Int32) (I : Nat → Nat → Int32) (B : Nat → Value) (E : List (Nat × Nat)), q3 y1 y2 y3 y4 y5 I B E → o = .returned none → Z = (mk_K ++ E, mk_B R B, (r3 y1 y2 y3 y4 y5 I B E), J) → pmE g kMo_fixed (d + 2) 0 0 3 [(0, .ref 40), (1, .int y1), (2, y2), (3, y3), (4, y4), (5, .int y5)] [] (mk_K ++ E) (mk_B R B) I J o Z) (r14 : Int32 → Value → Value → Value → Int32 → Int32 → (Nat → Nat → Int32) → (Nat → Value) → (List (Nat × Nat)) → (Nat → Nat → Int32)) (q14 : Int32 → Value → Value → Value → Int32 → Int32 → (Nat → Nat → Int32) → (Nat → Value) → (List (Nat × Nat)) → Prop) (ih14 : ∀ (y1 : Int32) (y2 : Value) (y3 : Value) (y4 : Value) (y5 : Int32) (y6 : Int32) (I : Nat → Nat → Int32) (B : Nat → Value) (E : List (Nat × Nat)), q14 y1 y2 y3 y4 y5 y6 I B E → o = .returned none → Z = (mk_K ++ E, mk_B R B, (r14 y1 y2 y3 y4 y5 y6 I B E), J) → pmE g kMo_fixed (d + 2) 0 0 14 [(0, .ref 40), (1, .int y1), (2, y2), (3, y3), (4, y4), (5, .int y5), (6, .int y6)] [] (mk_K ++ E) (mk_B R B) I J o Z)  (y1 : Int32) (y2 : Value) (y3 : Value) (y4 : Value) (y5 : Int32) (y6 : Int32) (y7 : Int32) (I : Nat → Nat → Int32) (B : Nat → Value) (E : List (Nat × Nat)) (hp : pMo_fixed_259 q3 q14 y1 y2 y3 y4 y5 y6 y7 I B E) (ho : o = .returned none) (hz : Z = (mk_K ++ E, mk_B R B, (fMo_fixed_259 r3 r14 y1 y2 y3 y4 y5 y6 y7 I B E), J)) : pmE g kMo_fixed (d + 2) 0 0 259 [(0, .ref 40), (1, .int y1), (2, y2), (3, y3), (4, y4), (5, .int y5), (6, .int y6), (7, .int y7)] [] (mk_K ++ E) (mk_B R B) I J o Z := by
  unfold pMo_fixed_259 at hp
  refine pm_iconst (v := 1) dMo_fixed_259 (by decide) ?_
  refine pm_goto 264 dMo_fixed_260 (by decide) ?_
  refine pm_wk [0, 1, 2, 3, 4, 5, 6, 7] rfl ?_
  exact Mo_fixed_n264 g d R hR J _ _ r3 q3 ih3 r14 q14 ih14  _ _ _ _ _ _ _ _ _ _ _ hp ho (hz.trans (by first | (simp only [fMo_fixed_259]; done) | (simp only [fMo_fixed_259]; with_reducible rfl) | with_reducible rfl))
set_option maxHeartbeats 4000000 in
set_option maxRecDepth 100000 in
theorem Mo_fixed_n245 (g : pmG) (d : Nat) (R : Nat → Nat → Value) (hR : mk_R R) (J : Nat → Nat → Int64) (o : Outcome) (Z : pmM) (r3 : Int32 → Value → Value → Value → Int32 → (Nat → Nat → Int32) → (Nat → Value) → (List (Nat × Nat)) → (Nat → Nat → Int32)) (q3 : Int32 → Value → Value → Value → Int32 → (Nat → Nat → Int32) → (Nat → Value) → (List (Nat × Nat)) → Prop) (ih3 : ∀ (y1 : Int32) (y2 : Value) (y3 : Value) (y4 : Value) (y5 : Int32) (I : Nat → Nat → Int32) (B : Nat → Value) (E : List (Nat × Nat)), q3 y1 y2 y3 y4 y5 I B E → o = .returned none → Z = (mk_K ++ E, mk_B R B, (r3 y1 y2 y3 y4 y5 I B E), J) → pmE g kMo_fixed (d + 2) 0 0 3 [(0, .ref 40), (1, .int y1), (2, y2), (3, y3), (4, y4), (5, .int y5)] [] (mk_K ++ E) (mk_B R B) I J o Z) (r14 : Int32 → Value → Value → Value → Int32 → Int32 → (Nat → Nat → Int32) → (Nat → Value) → (List (Nat × Nat)) → (Nat → Nat → Int32)) (q14 : Int32 → Value → Value → Value → Int32 → Int32 → (Nat → Nat → Int32) → (Nat → Value) → (List (Nat × Nat)) → Prop) (ih14 : ∀ (y1 : Int32) (y2 : Value) (y3 : Value) (y4 : Value) (y5 : Int32) (y6 : Int32) (I : Nat → Nat → Int32) (B : Nat → Value) (E : List (Nat × Nat)), q14 y1 y2 y3 y4 y5 y6 I B E → o = .returned none → Z = (mk_K ++ E, mk_B R B, (r14 y1 y2 y3 y4 y5 y6 I B E), J) → pmE g kMo_fixed (d + 2) 0 0 14 [(0, .ref 40), (1, .int y1), (2, y2), (3, y3), (4, y4), (5, .int y5), (6, .int y6)] [] (mk_K ++ E) (mk_B R B) I J o Z)  (y1 : Int32) (y2 : Value) (y3 : Value) (y4 : Value) (y5 : Int32) (y6 : Int32) (y7 : Int32) (I : Nat → Nat → Int32) (B : Nat → Value) (E : List (Nat × Nat)) (hp : pMo_fixed_245 q3 q14 y1 y2 y3 y4 y5 y6 y7 I B E) (ho : o = .returned none) (hz : Z = (mk_K ++ E, mk_B R B, (fMo_fixed_245 r3 r14 y1 y2 y3 y4 y5 y6 y7 I B E), J)) : pmE g kMo_fixed (d + 2) 0 0 245 [(0, .ref 40), (1, .int y1), (2, y2), (3, y3), (4, y4), (5, .int y5), (6, .int y6), (7, .int y7)] [] (mk_K ++ E) (mk_B R B) I J o Z := by
  unfold pMo_fixed_245 at hp
  refine pm_iload dMo_fixed_245 rfl ?_
  refine pm_if_ne 259 dMo_fixed_247 (by decide) (fun h247 => ?_) (fun h247 => ?_)
  ·
    refine pm_wk [0, 1, 2, 3, 4, 5, 6, 7] rfl ?_
    exact Mo_fixed_n259 g d R hR J _ _ r3 q3 ih3 r14 q14 ih14  _ _ _ _ _ _ _ _ _ _ (hp.2 h247) ho (hz.trans (by first | (simp only [fMo_fixed_245, if_neg h247]; done) | (simp only [fMo_fixed_245, if_neg h247]; with_reducible rfl) | with_reducible rfl))
  ·
    refine pm_iload dMo_fixed_250 rfl ?_
    refine pm_vload_n dMo_fixed_252 rfl (hp.1 h247).1 ?_
    refine pm_iload dMo_fixed_253 rfl ?_
    refine pm_vzald dMo_fixed_255 (hp.1 h247).2.1.1 (hp.1 h247).2.1.2.1 (hp.1 h247).2.1.2.2 ?_
    refine pm_icmp_eq 263 dMo_fixed_256 (by decide) (fun h256 => ?_) (fun h256 => ?_)
    ·
      refine pm_iconst (v := 0) dMo_fixed_263 (by decide) ?_
      refine pm_wk [0, 1, 2, 3, 4, 5, 6, 7] rfl ?_
      exact Mo_fixed_n264 g d R hR J _ _ r3 q3 ih3 r14 q14 ih14  _ _ _ _ _ _ _ _ _ _ _ ((hp.1 h247).2.2.1 h256) ho (hz.trans (by first | (simp only [fMo_fixed_245, if_pos h247, if_pos h256]; done) | (simp only [fMo_fixed_245, if_pos h247, if_pos h256]; with_reducible rfl) | with_reducible rfl))
    ·
      refine pm_wk [0, 1, 2, 3, 4, 5, 6, 7] rfl ?_
      exact Mo_fixed_n259 g d R hR J _ _ r3 q3 ih3 r14 q14 ih14  _ _ _ _ _ _ _ _ _ _ ((hp.1 h247).2.2.2 h256) ho (hz.trans (by first | (simp only [fMo_fixed_245, if_pos h247, if_neg h256]; done) | (simp only [fMo_fixed_245, if_pos h247, if_neg h256]; with_reducible rfl) | with_reducible rfl))
set_option maxHeartbeats 4000000 in
set_option maxRecDepth 100000 in
theorem Mo_fixed_n95 (g : pmG) (d : Nat) (R : Nat → Nat → Value) (hR : mk_R R) (J : Nat → Nat → Int64) (o : Outcome) (Z : pmM) (r3 : Int32 → Value → Value → Value → Int32 → (Nat → Nat → Int32) → (Nat → Value) → (List (Nat × Nat)) → (Nat → Nat → Int32)) (q3 : Int32 → Value → Value → Value → Int32 → (Nat → Nat → Int32) → (Nat → Value) → (List (Nat × Nat)) → Prop) (ih3 : ∀ (y1 : Int32) (y2 : Value) (y3 : Value) (y4 : Value) (y5 : Int32) (I : Nat → Nat → Int32) (B : Nat → Value) (E : List (Nat × Nat)), q3 y1 y2 y3 y4 y5 I B E → o = .returned none → Z = (mk_K ++ E, mk_B R B, (r3 y1 y2 y3 y4 y5 I B E), J) → pmE g kMo_fixed (d + 2) 0 0 3 [(0, .ref 40), (1, .int y1), (2, y2), (3, y3), (4, y4), (5, .int y5)] [] (mk_K ++ E) (mk_B R B) I J o Z) (r14 : Int32 → Value → Value → Value → Int32 → Int32 → (Nat → Nat → Int32) → (Nat → Value) → (List (Nat × Nat)) → (Nat → Nat → Int32)) (q14 : Int32 → Value → Value → Value → Int32 → Int32 → (Nat → Nat → Int32) → (Nat → Value) → (List (Nat × Nat)) → Prop) (ih14 : ∀ (y1 : Int32) (y2 : Value) (y3 : Value) (y4 : Value) (y5 : Int32) (y6 : Int32) (I : Nat → Nat → Int32) (B : Nat → Value) (E : List (Nat × Nat)), q14 y1 y2 y3 y4 y5 y6 I B E → o = .returned none → Z = (mk_K ++ E, mk_B R B, (r14 y1 y2 y3 y4 y5 y6 I B E), J) → pmE g kMo_fixed (d + 2) 0 0 14 [(0, .ref 40), (1, .int y1), (2, y2), (3, y3), (4, y4), (5, .int y5), (6, .int y6)] [] (mk_K ++ E) (mk_B R B) I J o Z)  (y1 : Int32) (y2 : Value) (y3 : Value) (y4 : Value) (y5 : Int32) (y6 : Int32) (z0 : Int32) (I : Nat → Nat → Int32) (B : Nat → Value) (E : List (Nat × Nat)) (hp : pMo_fixed_95 q3 q14 y1 y2 y3 y4 y5 y6 z0 I B E) (ho : o = .returned none) (hz : Z = (mk_K ++ E, mk_B R B, (fMo_fixed_95 r3 r14 y1 y2 y3 y4 y5 y6 z0 I B E), J)) : pmE g kMo_fixed (d + 2) 0 0 95 [(0, .ref 40), (1, .int y1), (2, y2), (3, y3), (4, y4), (5, .int y5), (6, .int y6)] [.int z0] (mk_K ++ E) (mk_B R B) I J o Z := by
  unfold pMo_fixed_95 at hp
  refine pm_istore dMo_fixed_95 (by decide) rfl ?_
  refine pm_goto 245 dMo_fixed_97 (by decide) ?_
  refine pm_wk [1, 2, 3, 4, 5, 6, 7, 0] rfl ?_
  exact Mo_fixed_n245 g d R hR J _ _ r3 q3 ih3 r14 q14 ih14  _ _ _ _ _ _ _ _ _ _ hp ho (hz.trans (by first | (simp only [fMo_fixed_95]; done) | (simp only [fMo_fixed_95]; with_reducible rfl) | with_reducible rfl))
set_option maxHeartbeats 4000000 in
set_option maxRecDepth 100000 in
theorem Mo_fixed_n90 (g : pmG) (d : Nat) (R : Nat → Nat → Value) (hR : mk_R R) (J : Nat → Nat → Int64) (o : Outcome) (Z : pmM) (r3 : Int32 → Value → Value → Value → Int32 → (Nat → Nat → Int32) → (Nat → Value) → (List (Nat × Nat)) → (Nat → Nat → Int32)) (q3 : Int32 → Value → Value → Value → Int32 → (Nat → Nat → Int32) → (Nat → Value) → (List (Nat × Nat)) → Prop) (ih3 : ∀ (y1 : Int32) (y2 : Value) (y3 : Value) (y4 : Value) (y5 : Int32) (I : Nat → Nat → Int32) (B : Nat → Value) (E : List (Nat × Nat)), q3 y1 y2 y3 y4 y5 I B E → o = .returned none → Z = (mk_K ++ E, mk_B R B, (r3 y1 y2 y3 y4 y5 I B E), J) → pmE g kMo_fixed (d + 2) 0 0 3 [(0, .ref 40), (1, .int y1), (2, y2), (3, y3), (4, y4), (5, .int y5)] [] (mk_K ++ E) (mk_B R B) I J o Z) (r14 : Int32 → Value → Value → Value → Int32 → Int32 → (Nat → Nat → Int32) → (Nat → Value) → (List (Nat × Nat)) → (Nat → Nat → Int32)) (q14 : Int32 → Value → Value → Value → Int32 → Int32 → (Nat → Nat → Int32) → (Nat → Value) → (List (Nat × Nat)) → Prop) (ih14 : ∀ (y1 : Int32) (y2 : Value) (y3 : Value) (y4 : Value) (y5 : Int32) (y6 : Int32) (I : Nat → Nat → Int32) (B : Nat → Value) (E : List (Nat × Nat)), q14 y1 y2 y3 y4 y5 y6 I B E → o = .returned none → Z = (mk_K ++ E, mk_B R B, (r14 y1 y2 y3 y4 y5 y6 I B E), J) → pmE g kMo_fixed (d + 2) 0 0 14 [(0, .ref 40), (1, .int y1), (2, y2), (3, y3), (4, y4), (5, .int y5), (6, .int y6)] [] (mk_K ++ E) (mk_B R B) I J o Z)  (y1 : Int32) (y2 : Value) (y3 : Value) (y4 : Value) (y5 : Int32) (y6 : Int32) (I : Nat → Nat → Int32) (B : Nat → Value) (E : List (Nat × Nat)) (hp : pMo_fixed_90 q3 q14 y1 y2 y3 y4 y5 y6 I B E) (ho : o = .returned none) (hz : Z = (mk_K ++ E, mk_B R B, (fMo_fixed_90 r3 r14 y1 y2 y3 y4 y5 y6 I B E), J)) : pmE g kMo_fixed (d + 2) 0 0 90 [(0, .ref 40), (1, .int y1), (2, y2), (3, y3), (4, y4), (5, .int y5), (6, .int y6)] [] (mk_K ++ E) (mk_B R B) I J o Z := by
  unfold pMo_fixed_90 at hp
  refine pm_iconst (v := 1) dMo_fixed_90 (by decide) ?_
  refine pm_goto 95 dMo_fixed_91 (by decide) ?_
  refine pm_wk [0, 1, 2, 3, 4, 5, 6] rfl ?_
  exact Mo_fixed_n95 g d R hR J _ _ r3 q3 ih3 r14 q14 ih14  _ _ _ _ _ _ _ _ _ _ hp ho (hz.trans (by first | (simp only [fMo_fixed_90]; done) | (simp only [fMo_fixed_90]; with_reducible rfl) | with_reducible rfl))
set_option maxHeartbeats 4000000 in
set_option maxRecDepth 100000 in
theorem Mo_fixed_n94 (g : pmG) (d : Nat) (R : Nat → Nat → Value) (hR : mk_R R) (J : Nat → Nat → Int64) (o : Outcome) (Z : pmM) (r3 : Int32 → Value → Value → Value → Int32 → (Nat → Nat → Int32) → (Nat → Value) → (List (Nat × Nat)) → (Nat → Nat → Int32)) (q3 : Int32 → Value → Value → Value → Int32 → (Nat → Nat → Int32) → (Nat → Value) → (List (Nat × Nat)) → Prop) (ih3 : ∀ (y1 : Int32) (y2 : Value) (y3 : Value) (y4 : Value) (y5 : Int32) (I : Nat → Nat → Int32) (B : Nat → Value) (E : List (Nat × Nat)), q3 y1 y2 y3 y4 y5 I B E → o = .returned none → Z = (mk_K ++ E, mk_B R B, (r3 y1 y2 y3 y4 y5 I B E), J) → pmE g kMo_fixed (d + 2) 0 0 3 [(0, .ref 40), (1, .int y1), (2, y2), (3, y3), (4, y4), (5, .int y5)] [] (mk_K ++ E) (mk_B R B) I J o Z) (r14 : Int32 → Value → Value → Value → Int32 → Int32 → (Nat → Nat → Int32) → (Nat → Value) → (List (Nat × Nat)) → (Nat → Nat → Int32)) (q14 : Int32 → Value → Value → Value → Int32 → Int32 → (Nat → Nat → Int32) → (Nat → Value) → (List (Nat × Nat)) → Prop) (ih14 : ∀ (y1 : Int32) (y2 : Value) (y3 : Value) (y4 : Value) (y5 : Int32) (y6 : Int32) (I : Nat → Nat → Int32) (B : Nat → Value) (E : List (Nat × Nat)), q14 y1 y2 y3 y4 y5 y6 I B E → o = .returned none → Z = (mk_K ++ E, mk_B R B, (r14 y1 y2 y3 y4 y5 y6 I B E), J) → pmE g kMo_fixed (d + 2) 0 0 14 [(0, .ref 40), (1, .int y1), (2, y2), (3, y3), (4, y4), (5, .int y5), (6, .int y6)] [] (mk_K ++ E) (mk_B R B) I J o Z)  (y1 : Int32) (y2 : Value) (y3 : Value) (y4 : Value) (y5 : Int32) (y6 : Int32) (I : Nat → Nat → Int32) (B : Nat → Value) (E : List (Nat × Nat)) (hp : pMo_fixed_94 q3 q14 y1 y2 y3 y4 y5 y6 I B E) (ho : o = .returned none) (hz : Z = (mk_K ++ E, mk_B R B, (fMo_fixed_94 r3 r14 y1 y2 y3 y4 y5 y6 I B E), J)) : pmE g kMo_fixed (d + 2) 0 0 94 [(0, .ref 40), (1, .int y1), (2, y2), (3, y3), (4, y4), (5, .int y5), (6, .int y6)] [] (mk_K ++ E) (mk_B R B) I J o Z := by
  unfold pMo_fixed_94 at hp
  refine pm_iconst (v := 0) dMo_fixed_94 (by decide) ?_
  refine pm_wk [0, 1, 2, 3, 4, 5, 6] rfl ?_
  exact Mo_fixed_n95 g d R hR J _ _ r3 q3 ih3 r14 q14 ih14  _ _ _ _ _ _ _ _ _ _ hp ho (hz.trans (by first | (simp only [fMo_fixed_94]; done) | (simp only [fMo_fixed_94]; with_reducible rfl) | with_reducible rfl))
set_option maxHeartbeats 4000000 in
set_option maxRecDepth 100000 in
theorem Mo_fixed_n131 (g : pmG) (d : Nat) (R : Nat → Nat → Value) (hR : mk_R R) (J : Nat → Nat → Int64) (o : Outcome) (Z : pmM) (r3 : Int32 → Value → Value → Value → Int32 → (Nat → Nat → Int32) → (Nat → Value) → (List (Nat × Nat)) → (Nat → Nat → Int32)) (q3 : Int32 → Value → Value → Value → Int32 → (Nat → Nat → Int32) → (Nat → Value) → (List (Nat × Nat)) → Prop) (ih3 : ∀ (y1 : Int32) (y2 : Value) (y3 : Value) (y4 : Value) (y5 : Int32) (I : Nat → Nat → Int32) (B : Nat → Value) (E : List (Nat × Nat)), q3 y1 y2 y3 y4 y5 I B E → o = .returned none → Z = (mk_K ++ E, mk_B R B, (r3 y1 y2 y3 y4 y5 I B E), J) → pmE g kMo_fixed (d + 2) 0 0 3 [(0, .ref 40), (1, .int y1), (2, y2), (3, y3), (4, y4), (5, .int y5)] [] (mk_K ++ E) (mk_B R B) I J o Z) (r14 : Int32 → Value → Value → Value → Int32 → Int32 → (Nat → Nat → Int32) → (Nat → Value) → (List (Nat × Nat)) → (Nat → Nat → Int32)) (q14 : Int32 → Value → Value → Value → Int32 → Int32 → (Nat → Nat → Int32) → (Nat → Value) → (List (Nat × Nat)) → Prop) (ih14 : ∀ (y1 : Int32) (y2 : Value) (y3 : Value) (y4 : Value) (y5 : Int32) (y6 : Int32) (I : Nat → Nat → Int32) (B : Nat → Value) (E : List (Nat × Nat)), q14 y1 y2 y3 y4 y5 y6 I B E → o = .returned none → Z = (mk_K ++ E, mk_B R B, (r14 y1 y2 y3 y4 y5 y6 I B E), J) → pmE g kMo_fixed (d + 2) 0 0 14 [(0, .ref 40), (1, .int y1), (2, y2), (3, y3), (4, y4), (5, .int y5), (6, .int y6)] [] (mk_K ++ E) (mk_B R B) I J o Z)  (y1 : Int32) (y2 : Value) (y3 : Value) (y4 : Value) (y5 : Int32) (y6 : Int32) (z0 : Int32) (I : Nat → Nat → Int32) (B : Nat → Value) (E : List (Nat × Nat)) (hp : pMo_fixed_131 q3 q14 y1 y2 y3 y4 y5 y6 z0 I B E) (ho : o = .returned none) (hz : Z = (mk_K ++ E, mk_B R B, (fMo_fixed_131 r3 r14 y1 y2 y3 y4 y5 y6 z0 I B E), J)) : pmE g kMo_fixed (d + 2) 0 0 131 [(0, .ref 40), (1, .int y1), (2, y2), (3, y3), (4, y4), (5, .int y5), (6, .int y6)] [.int z0] (mk_K ++ E) (mk_B R B) I J o Z := by
  unfold pMo_fixed_131 at hp
  refine pm_istore dMo_fixed_131 (by decide) rfl ?_
  refine pm_goto 245 dMo_fixed_133 (by decide) ?_
  refine pm_wk [1, 2, 3, 4, 5, 6, 7, 0] rfl ?_
  exact Mo_fixed_n245 g d R hR J _ _ r3 q3 ih3 r14 q14 ih14  _ _ _ _ _ _ _ _ _ _ hp ho (hz.trans (by first | (simp only [fMo_fixed_131]; done) | (simp only [fMo_fixed_131]; with_reducible rfl) | with_reducible rfl))
set_option maxHeartbeats 4000000 in
set_option maxRecDepth 100000 in
theorem Mo_fixed_n126 (g : pmG) (d : Nat) (R : Nat → Nat → Value) (hR : mk_R R) (J : Nat → Nat → Int64) (o : Outcome) (Z : pmM) (r3 : Int32 → Value → Value → Value → Int32 → (Nat → Nat → Int32) → (Nat → Value) → (List (Nat × Nat)) → (Nat → Nat → Int32)) (q3 : Int32 → Value → Value → Value → Int32 → (Nat → Nat → Int32) → (Nat → Value) → (List (Nat × Nat)) → Prop) (ih3 : ∀ (y1 : Int32) (y2 : Value) (y3 : Value) (y4 : Value) (y5 : Int32) (I : Nat → Nat → Int32) (B : Nat → Value) (E : List (Nat × Nat)), q3 y1 y2 y3 y4 y5 I B E → o = .returned none → Z = (mk_K ++ E, mk_B R B, (r3 y1 y2 y3 y4 y5 I B E), J) → pmE g kMo_fixed (d + 2) 0 0 3 [(0, .ref 40), (1, .int y1), (2, y2), (3, y3), (4, y4), (5, .int y5)] [] (mk_K ++ E) (mk_B R B) I J o Z) (r14 : Int32 → Value → Value → Value → Int32 → Int32 → (Nat → Nat → Int32) → (Nat → Value) → (List (Nat × Nat)) → (Nat → Nat → Int32)) (q14 : Int32 → Value → Value → Value → Int32 → Int32 → (Nat → Nat → Int32) → (Nat → Value) → (List (Nat × Nat)) → Prop) (ih14 : ∀ (y1 : Int32) (y2 : Value) (y3 : Value) (y4 : Value) (y5 : Int32) (y6 : Int32) (I : Nat → Nat → Int32) (B : Nat → Value) (E : List (Nat × Nat)), q14 y1 y2 y3 y4 y5 y6 I B E → o = .returned none → Z = (mk_K ++ E, mk_B R B, (r14 y1 y2 y3 y4 y5 y6 I B E), J) → pmE g kMo_fixed (d + 2) 0 0 14 [(0, .ref 40), (1, .int y1), (2, y2), (3, y3), (4, y4), (5, .int y5), (6, .int y6)] [] (mk_K ++ E) (mk_B R B) I J o Z)  (y1 : Int32) (y2 : Value) (y3 : Value) (y4 : Value) (y5 : Int32) (y6 : Int32) (I : Nat → Nat → Int32) (B : Nat → Value) (E : List (Nat × Nat)) (hp : pMo_fixed_126 q3 q14 y1 y2 y3 y4 y5 y6 I B E) (ho : o = .returned none) (hz : Z = (mk_K ++ E, mk_B R B, (fMo_fixed_126 r3 r14 y1 y2 y3 y4 y5 y6 I B E), J)) : pmE g kMo_fixed (d + 2) 0 0 126 [(0, .ref 40), (1, .int y1), (2, y2), (3, y3), (4, y4), (5, .int y5), (6, .int y6)] [] (mk_K ++ E) (mk_B R B) I J o Z := by
  unfold pMo_fixed_126 at hp
  refine pm_iconst (v := 1) dMo_fixed_126 (by decide) ?_
  refine pm_goto 131 dMo_fixed_127 (by decide) ?_
  refine pm_wk [0, 1, 2, 3, 4, 5, 6] rfl ?_
  exact Mo_fixed_n131 g d R hR J _ _ r3 q3 ih3 r14 q14 ih14  _ _ _ _ _ _ _ _ _ _ hp ho (hz.trans (by first | (simp only [fMo_fixed_126]; done) | (simp only [fMo_fixed_126]; with_reducible rfl) | with_reducible rfl))
set_option maxHeartbeats 4000000 in
set_option maxRecDepth 100000 in
theorem Mo_fixed_n130 (g : pmG) (d : Nat) (R : Nat → Nat → Value) (hR : mk_R R) (J : Nat → Nat → Int64) (o : Outcome) (Z : pmM) (r3 : Int32 → Value → Value → Value → Int32 → (Nat → Nat → Int32) → (Nat → Value) → (List (Nat × Nat)) → (Nat → Nat → Int32)) (q3 : Int32 → Value → Value → Value → Int32 → (Nat → Nat → Int32) → (Nat → Value) → (List (Nat × Nat)) → Prop) (ih3 : ∀ (y1 : Int32) (y2 : Value) (y3 : Value) (y4 : Value) (y5 : Int32) (I : Nat → Nat → Int32) (B : Nat → Value) (E : List (Nat × Nat)), q3 y1 y2 y3 y4 y5 I B E → o = .returned none → Z = (mk_K ++ E, mk_B R B, (r3 y1 y2 y3 y4 y5 I B E), J) → pmE g kMo_fixed (d + 2) 0 0 3 [(0, .ref 40), (1, .int y1), (2, y2), (3, y3), (4, y4), (5, .int y5)] [] (mk_K ++ E) (mk_B R B) I J o Z) (r14 : Int32 → Value → Value → Value → Int32 → Int32 → (Nat → Nat → Int32) → (Nat → Value) → (List (Nat × Nat)) → (Nat → Nat → Int32)) (q14 : Int32 → Value → Value → Value → Int32 → Int32 → (Nat → Nat → Int32) → (Nat → Value) → (List (Nat × Nat)) → Prop) (ih14 : ∀ (y1 : Int32) (y2 : Value) (y3 : Value) (y4 : Value) (y5 : Int32) (y6 : Int32) (I : Nat → Nat → Int32) (B : Nat → Value) (E : List (Nat × Nat)), q14 y1 y2 y3 y4 y5 y6 I B E → o = .returned none → Z = (mk_K ++ E, mk_B R B, (r14 y1 y2 y3 y4 y5 y6 I B E), J) → pmE g kMo_fixed (d + 2) 0 0 14 [(0, .ref 40), (1, .int y1), (2, y2), (3, y3), (4, y4), (5, .int y5), (6, .int y6)] [] (mk_K ++ E) (mk_B R B) I J o Z)  (y1 : Int32) (y2 : Value) (y3 : Value) (y4 : Value) (y5 : Int32) (y6 : Int32) (I : Nat → Nat → Int32) (B : Nat → Value) (E : List (Nat × Nat)) (hp : pMo_fixed_130 q3 q14 y1 y2 y3 y4 y5 y6 I B E) (ho : o = .returned none) (hz : Z = (mk_K ++ E, mk_B R B, (fMo_fixed_130 r3 r14 y1 y2 y3 y4 y5 y6 I B E), J)) : pmE g kMo_fixed (d + 2) 0 0 130 [(0, .ref 40), (1, .int y1), (2, y2), (3, y3), (4, y4), (5, .int y5), (6, .int y6)] [] (mk_K ++ E) (mk_B R B) I J o Z := by
  unfold pMo_fixed_130 at hp
  refine pm_iconst (v := 0) dMo_fixed_130 (by decide) ?_
  refine pm_wk [0, 1, 2, 3, 4, 5, 6] rfl ?_
  exact Mo_fixed_n131 g d R hR J _ _ r3 q3 ih3 r14 q14 ih14  _ _ _ _ _ _ _ _ _ _ hp ho (hz.trans (by first | (simp only [fMo_fixed_130]; done) | (simp only [fMo_fixed_130]; with_reducible rfl) | with_reducible rfl))
set_option maxHeartbeats 4000000 in
set_option maxRecDepth 100000 in
theorem Mo_fixed_n159 (g : pmG) (d : Nat) (R : Nat → Nat → Value) (hR : mk_R R) (J : Nat → Nat → Int64) (o : Outcome) (Z : pmM) (r3 : Int32 → Value → Value → Value → Int32 → (Nat → Nat → Int32) → (Nat → Value) → (List (Nat × Nat)) → (Nat → Nat → Int32)) (q3 : Int32 → Value → Value → Value → Int32 → (Nat → Nat → Int32) → (Nat → Value) → (List (Nat × Nat)) → Prop) (ih3 : ∀ (y1 : Int32) (y2 : Value) (y3 : Value) (y4 : Value) (y5 : Int32) (I : Nat → Nat → Int32) (B : Nat → Value) (E : List (Nat × Nat)), q3 y1 y2 y3 y4 y5 I B E → o = .returned none → Z = (mk_K ++ E, mk_B R B, (r3 y1 y2 y3 y4 y5 I B E), J) → pmE g kMo_fixed (d + 2) 0 0 3 [(0, .ref 40), (1, .int y1), (2, y2), (3, y3), (4, y4), (5, .int y5)] [] (mk_K ++ E) (mk_B R B) I J o Z) (r14 : Int32 → Value → Value → Value → Int32 → Int32 → (Nat → Nat → Int32) → (Nat → Value) → (List (Nat × Nat)) → (Nat → Nat → Int32)) (q14 : Int32 → Value → Value → Value → Int32 → Int32 → (Nat → Nat → Int32) → (Nat → Value) → (List (Nat × Nat)) → Prop) (ih14 : ∀ (y1 : Int32) (y2 : Value) (y3 : Value) (y4 : Value) (y5 : Int32) (y6 : Int32) (I : Nat → Nat → Int32) (B : Nat → Value) (E : List (Nat × Nat)), q14 y1 y2 y3 y4 y5 y6 I B E → o = .returned none → Z = (mk_K ++ E, mk_B R B, (r14 y1 y2 y3 y4 y5 y6 I B E), J) → pmE g kMo_fixed (d + 2) 0 0 14 [(0, .ref 40), (1, .int y1), (2, y2), (3, y3), (4, y4), (5, .int y5), (6, .int y6)] [] (mk_K ++ E) (mk_B R B) I J o Z)  (y1 : Int32) (y2 : Value) (y3 : Value) (y4 : Value) (y5 : Int32) (y6 : Int32) (z0 : Int32) (I : Nat → Nat → Int32) (B : Nat → Value) (E : List (Nat × Nat)) (hp : pMo_fixed_159 q3 q14 y1 y2 y3 y4 y5 y6 z0 I B E) (ho : o = .returned none) (hz : Z = (mk_K ++ E, mk_B R B, (fMo_fixed_159 r3 r14 y1 y2 y3 y4 y5 y6 z0 I B E), J)) : pmE g kMo_fixed (d + 2) 0 0 159 [(0, .ref 40), (1, .int y1), (2, y2), (3, y3), (4, y4), (5, .int y5), (6, .int y6)] [.int z0] (mk_K ++ E) (mk_B R B) I J o Z := by
  unfold pMo_fixed_159 at hp
  refine pm_istore dMo_fixed_159 (by decide) rfl ?_
  refine pm_goto 245 dMo_fixed_161 (by decide) ?_
  refine pm_wk [1, 2, 3, 4, 5, 6, 7, 0] rfl ?_
  exact Mo_fixed_n245 g d R hR J _ _ r3 q3 ih3 r14 q14 ih14  _ _ _ _ _ _ _ _ _ _ hp ho (hz.trans (by first | (simp only [fMo_fixed_159]; done) | (simp only [fMo_fixed_159]; with_reducible rfl) | with_reducible rfl))
set_option maxHeartbeats 4000000 in
set_option maxRecDepth 100000 in
theorem Mo_fixed_n154 (g : pmG) (d : Nat) (R : Nat → Nat → Value) (hR : mk_R R) (J : Nat → Nat → Int64) (o : Outcome) (Z : pmM) (r3 : Int32 → Value → Value → Value → Int32 → (Nat → Nat → Int32) → (Nat → Value) → (List (Nat × Nat)) → (Nat → Nat → Int32)) (q3 : Int32 → Value → Value → Value → Int32 → (Nat → Nat → Int32) → (Nat → Value) → (List (Nat × Nat)) → Prop) (ih3 : ∀ (y1 : Int32) (y2 : Value) (y3 : Value) (y4 : Value) (y5 : Int32) (I : Nat → Nat → Int32) (B : Nat → Value) (E : List (Nat × Nat)), q3 y1 y2 y3 y4 y5 I B E → o = .returned none → Z = (mk_K ++ E, mk_B R B, (r3 y1 y2 y3 y4 y5 I B E), J) → pmE g kMo_fixed (d + 2) 0 0 3 [(0, .ref 40), (1, .int y1), (2, y2), (3, y3), (4, y4), (5, .int y5)] [] (mk_K ++ E) (mk_B R B) I J o Z) (r14 : Int32 → Value → Value → Value → Int32 → Int32 → (Nat → Nat → Int32) → (Nat → Value) → (List (Nat × Nat)) → (Nat → Nat → Int32)) (q14 : Int32 → Value → Value → Value → Int32 → Int32 → (Nat → Nat → Int32) → (Nat → Value) → (List (Nat × Nat)) → Prop) (ih14 : ∀ (y1 : Int32) (y2 : Value) (y3 : Value) (y4 : Value) (y5 : Int32) (y6 : Int32) (I : Nat → Nat → Int32) (B : Nat → Value) (E : List (Nat × Nat)), q14 y1 y2 y3 y4 y5 y6 I B E → o = .returned none → Z = (mk_K ++ E, mk_B R B, (r14 y1 y2 y3 y4 y5 y6 I B E), J) → pmE g kMo_fixed (d + 2) 0 0 14 [(0, .ref 40), (1, .int y1), (2, y2), (3, y3), (4, y4), (5, .int y5), (6, .int y6)] [] (mk_K ++ E) (mk_B R B) I J o Z)  (y1 : Int32) (y2 : Value) (y3 : Value) (y4 : Value) (y5 : Int32) (y6 : Int32) (I : Nat → Nat → Int32) (B : Nat → Value) (E : List (Nat × Nat)) (hp : pMo_fixed_154 q3 q14 y1 y2 y3 y4 y5 y6 I B E) (ho : o = .returned none) (hz : Z = (mk_K ++ E, mk_B R B, (fMo_fixed_154 r3 r14 y1 y2 y3 y4 y5 y6 I B E), J)) : pmE g kMo_fixed (d + 2) 0 0 154 [(0, .ref 40), (1, .int y1), (2, y2), (3, y3), (4, y4), (5, .int y5), (6, .int y6)] [] (mk_K ++ E) (mk_B R B) I J o Z := by
  unfold pMo_fixed_154 at hp
  refine pm_iconst (v := 1) dMo_fixed_154 (by decide) ?_
  refine pm_goto 159 dMo_fixed_155 (by decide) ?_
  refine pm_wk [0, 1, 2, 3, 4, 5, 6] rfl ?_
  exact Mo_fixed_n159 g d R hR J _ _ r3 q3 ih3 r14 q14 ih14  _ _ _ _ _ _ _ _ _ _ hp ho (hz.trans (by first | (simp only [fMo_fixed_154]; done) | (simp only [fMo_fixed_154]; with_reducible rfl) | with_reducible rfl))
set_option maxHeartbeats 4000000 in
set_option maxRecDepth 100000 in
theorem Mo_fixed_n187 (g : pmG) (d : Nat) (R : Nat → Nat → Value) (hR : mk_R R) (J : Nat → Nat → Int64) (o : Outcome) (Z : pmM) (r3 : Int32 → Value → Value → Value → Int32 → (Nat → Nat → Int32) → (Nat → Value) → (List (Nat × Nat)) → (Nat → Nat → Int32)) (q3 : Int32 → Value → Value → Value → Int32 → (Nat → Nat → Int32) → (Nat → Value) → (List (Nat × Nat)) → Prop) (ih3 : ∀ (y1 : Int32) (y2 : Value) (y3 : Value) (y4 : Value) (y5 : Int32) (I : Nat → Nat → Int32) (B : Nat → Value) (E : List (Nat × Nat)), q3 y1 y2 y3 y4 y5 I B E → o = .returned none → Z = (mk_K ++ E, mk_B R B, (r3 y1 y2 y3 y4 y5 I B E), J) → pmE g kMo_fixed (d + 2) 0 0 3 [(0, .ref 40), (1, .int y1), (2, y2), (3, y3), (4, y4), (5, .int y5)] [] (mk_K ++ E) (mk_B R B) I J o Z) (r14 : Int32 → Value → Value → Value → Int32 → Int32 → (Nat → Nat → Int32) → (Nat → Value) → (List (Nat × Nat)) → (Nat → Nat → Int32)) (q14 : Int32 → Value → Value → Value → Int32 → Int32 → (Nat → Nat → Int32) → (Nat → Value) → (List (Nat × Nat)) → Prop) (ih14 : ∀ (y1 : Int32) (y2 : Value) (y3 : Value) (y4 : Value) (y5 : Int32) (y6 : Int32) (I : Nat → Nat → Int32) (B : Nat → Value) (E : List (Nat × Nat)), q14 y1 y2 y3 y4 y5 y6 I B E → o = .returned none → Z = (mk_K ++ E, mk_B R B, (r14 y1 y2 y3 y4 y5 y6 I B E), J) → pmE g kMo_fixed (d + 2) 0 0 14 [(0, .ref 40), (1, .int y1), (2, y2), (3, y3), (4, y4), (5, .int y5), (6, .int y6)] [] (mk_K ++ E) (mk_B R B) I J o Z)  (y1 : Int32) (y2 : Value) (y3 : Value) (y4 : Value) (y5 : Int32) (y6 : Int32) (z0 : Int32) (I : Nat → Nat → Int32) (B : Nat → Value) (E : List (Nat × Nat)) (hp : pMo_fixed_187 q3 q14 y1 y2 y3 y4 y5 y6 z0 I B E) (ho : o = .returned none) (hz : Z = (mk_K ++ E, mk_B R B, (fMo_fixed_187 r3 r14 y1 y2 y3 y4 y5 y6 z0 I B E), J)) : pmE g kMo_fixed (d + 2) 0 0 187 [(0, .ref 40), (1, .int y1), (2, y2), (3, y3), (4, y4), (5, .int y5), (6, .int y6)] [.int z0] (mk_K ++ E) (mk_B R B) I J o Z := by
  unfold pMo_fixed_187 at hp
  refine pm_istore dMo_fixed_187 (by decide) rfl ?_
  refine pm_goto 245 dMo_fixed_189 (by decide) ?_
  refine pm_wk [1, 2, 3, 4, 5, 6, 7, 0] rfl ?_
  exact Mo_fixed_n245 g d R hR J _ _ r3 q3 ih3 r14 q14 ih14  _ _ _ _ _ _ _ _ _ _ hp ho (hz.trans (by first | (simp only [fMo_fixed_187]; done) | (simp only [fMo_fixed_187]; with_reducible rfl) | with_reducible rfl))
set_option maxHeartbeats 4000000 in
set_option maxRecDepth 100000 in
theorem Mo_fixed_n182 (g : pmG) (d : Nat) (R : Nat → Nat → Value) (hR : mk_R R) (J : Nat → Nat → Int64) (o : Outcome) (Z : pmM) (r3 : Int32 → Value → Value → Value → Int32 → (Nat → Nat → Int32) → (Nat → Value) → (List (Nat × Nat)) → (Nat → Nat → Int32)) (q3 : Int32 → Value → Value → Value → Int32 → (Nat → Nat → Int32) → (Nat → Value) → (List (Nat × Nat)) → Prop) (ih3 : ∀ (y1 : Int32) (y2 : Value) (y3 : Value) (y4 : Value) (y5 : Int32) (I : Nat → Nat → Int32) (B : Nat → Value) (E : List (Nat × Nat)), q3 y1 y2 y3 y4 y5 I B E → o = .returned none → Z = (mk_K ++ E, mk_B R B, (r3 y1 y2 y3 y4 y5 I B E), J) → pmE g kMo_fixed (d + 2) 0 0 3 [(0, .ref 40), (1, .int y1), (2, y2), (3, y3), (4, y4), (5, .int y5)] [] (mk_K ++ E) (mk_B R B) I J o Z) (r14 : Int32 → Value → Value → Value → Int32 → Int32 → (Nat → Nat → Int32) → (Nat → Value) → (List (Nat × Nat)) → (Nat → Nat → Int32)) (q14 : Int32 → Value → Value → Value → Int32 → Int32 → (Nat → Nat → Int32) → (Nat → Value) → (List (Nat × Nat)) → Prop) (ih14 : ∀ (y1 : Int32) (y2 : Value) (y3 : Value) (y4 : Value) (y5 : Int32) (y6 : Int32) (I : Nat → Nat → Int32) (B : Nat → Value) (E : List (Nat × Nat)), q14 y1 y2 y3 y4 y5 y6 I B E → o = .returned none → Z = (mk_K ++ E, mk_B R B, (r14 y1 y2 y3 y4 y5 y6 I B E), J) → pmE g kMo_fixed (d + 2) 0 0 14 [(0, .ref 40), (1, .int y1), (2, y2), (3, y3), (4, y4), (5, .int y5), (6, .int y6)] [] (mk_K ++ E) (mk_B R B) I J o Z)  (y1 : Int32) (y2 : Value) (y3 : Value) (y4 : Value) (y5 : Int32) (y6 : Int32) (I : Nat → Nat → Int32) (B : Nat → Value) (E : List (Nat × Nat)) (hp : pMo_fixed_182 q3 q14 y1 y2 y3 y4 y5 y6 I B E) (ho : o = .returned none) (hz : Z = (mk_K ++ E, mk_B R B, (fMo_fixed_182 r3 r14 y1 y2 y3 y4 y5 y6 I B E), J)) : pmE g kMo_fixed (d + 2) 0 0 182 [(0, .ref 40), (1, .int y1), (2, y2), (3, y3), (4, y4), (5, .int y5), (6, .int y6)] [] (mk_K ++ E) (mk_B R B) I J o Z := by
  unfold pMo_fixed_182 at hp
  refine pm_iconst (v := 1) dMo_fixed_182 (by decide) ?_
  refine pm_goto 187 dMo_fixed_183 (by decide) ?_
  refine pm_wk [0, 1, 2, 3, 4, 5, 6] rfl ?_
  exact Mo_fixed_n187 g d R hR J _ _ r3 q3 ih3 r14 q14 ih14  _ _ _ _ _ _ _ _ _ _ hp ho (hz.trans (by first | (simp only [fMo_fixed_182]; done) | (simp only [fMo_fixed_182]; with_reducible rfl) | with_reducible rfl))
set_option maxHeartbeats 4000000 in
set_option maxRecDepth 100000 in
theorem Mo_fixed_n215 (g : pmG) (d : Nat) (R : Nat → Nat → Value) (hR : mk_R R) (J : Nat → Nat → Int64) (o : Outcome) (Z : pmM) (r3 : Int32 → Value → Value → Value → Int32 → (Nat → Nat → Int32) → (Nat → Value) → (List (Nat × Nat)) → (Nat → Nat → Int32)) (q3 : Int32 → Value → Value → Value → Int32 → (Nat → Nat → Int32) → (Nat → Value) → (List (Nat × Nat)) → Prop) (ih3 : ∀ (y1 : Int32) (y2 : Value) (y3 : Value) (y4 : Value) (y5 : Int32) (I : Nat → Nat → Int32) (B : Nat → Value) (E : List (Nat × Nat)), q3 y1 y2 y3 y4 y5 I B E → o = .returned none → Z = (mk_K ++ E, mk_B R B, (r3 y1 y2 y3 y4 y5 I B E), J) → pmE g kMo_fixed (d + 2) 0 0 3 [(0, .ref 40), (1, .int y1), (2, y2), (3, y3), (4, y4), (5, .int y5)] [] (mk_K ++ E) (mk_B R B) I J o Z) (r14 : Int32 → Value → Value → Value → Int32 → Int32 → (Nat → Nat → Int32) → (Nat → Value) → (List (Nat × Nat)) → (Nat → Nat → Int32)) (q14 : Int32 → Value → Value → Value → Int32 → Int32 → (Nat → Nat → Int32) → (Nat → Value) → (List (Nat × Nat)) → Prop) (ih14 : ∀ (y1 : Int32) (y2 : Value) (y3 : Value) (y4 : Value) (y5 : Int32) (y6 : Int32) (I : Nat → Nat → Int32) (B : Nat → Value) (E : List (Nat × Nat)), q14 y1 y2 y3 y4 y5 y6 I B E → o = .returned none → Z = (mk_K ++ E, mk_B R B, (r14 y1 y2 y3 y4 y5 y6 I B E), J) → pmE g kMo_fixed (d + 2) 0 0 14 [(0, .ref 40), (1, .int y1), (2, y2), (3, y3), (4, y4), (5, .int y5), (6, .int y6)] [] (mk_K ++ E) (mk_B R B) I J o Z)  (y1 : Int32) (y2 : Value) (y3 : Value) (y4 : Value) (y5 : Int32) (y6 : Int32) (z0 : Int32) (I : Nat → Nat → Int32) (B : Nat → Value) (E : List (Nat × Nat)) (hp : pMo_fixed_215 q3 q14 y1 y2 y3 y4 y5 y6 z0 I B E) (ho : o = .returned none) (hz : Z = (mk_K ++ E, mk_B R B, (fMo_fixed_215 r3 r14 y1 y2 y3 y4 y5 y6 z0 I B E), J)) : pmE g kMo_fixed (d + 2) 0 0 215 [(0, .ref 40), (1, .int y1), (2, y2), (3, y3), (4, y4), (5, .int y5), (6, .int y6)] [.int z0] (mk_K ++ E) (mk_B R B) I J o Z := by
  unfold pMo_fixed_215 at hp
  refine pm_istore dMo_fixed_215 (by decide) rfl ?_
  refine pm_goto 245 dMo_fixed_217 (by decide) ?_
  refine pm_wk [1, 2, 3, 4, 5, 6, 7, 0] rfl ?_
  exact Mo_fixed_n245 g d R hR J _ _ r3 q3 ih3 r14 q14 ih14  _ _ _ _ _ _ _ _ _ _ hp ho (hz.trans (by first | (simp only [fMo_fixed_215]; done) | (simp only [fMo_fixed_215]; with_reducible rfl) | with_reducible rfl))
set_option maxHeartbeats 4000000 in
set_option maxRecDepth 100000 in
theorem Mo_fixed_n214 (g : pmG) (d : Nat) (R : Nat → Nat → Value) (hR : mk_R R) (J : Nat → Nat → Int64) (o : Outcome) (Z : pmM) (r3 : Int32 → Value → Value → Value → Int32 → (Nat → Nat → Int32) → (Nat → Value) → (List (Nat × Nat)) → (Nat → Nat → Int32)) (q3 : Int32 → Value → Value → Value → Int32 → (Nat → Nat → Int32) → (Nat → Value) → (List (Nat × Nat)) → Prop) (ih3 : ∀ (y1 : Int32) (y2 : Value) (y3 : Value) (y4 : Value) (y5 : Int32) (I : Nat → Nat → Int32) (B : Nat → Value) (E : List (Nat × Nat)), q3 y1 y2 y3 y4 y5 I B E → o = .returned none → Z = (mk_K ++ E, mk_B R B, (r3 y1 y2 y3 y4 y5 I B E), J) → pmE g kMo_fixed (d + 2) 0 0 3 [(0, .ref 40), (1, .int y1), (2, y2), (3, y3), (4, y4), (5, .int y5)] [] (mk_K ++ E) (mk_B R B) I J o Z) (r14 : Int32 → Value → Value → Value → Int32 → Int32 → (Nat → Nat → Int32) → (Nat → Value) → (List (Nat × Nat)) → (Nat → Nat → Int32)) (q14 : Int32 → Value → Value → Value → Int32 → Int32 → (Nat → Nat → Int32) → (Nat → Value) → (List (Nat × Nat)) → Prop) (ih14 : ∀ (y1 : Int32) (y2 : Value) (y3 : Value) (y4 : Value) (y5 : Int32) (y6 : Int32) (I : Nat → Nat → Int32) (B : Nat → Value) (E : List (Nat × Nat)), q14 y1 y2 y3 y4 y5 y6 I B E → o = .returned none → Z = (mk_K ++ E, mk_B R B, (r14 y1 y2 y3 y4 y5 y6 I B E), J) → pmE g kMo_fixed (d + 2) 0 0 14 [(0, .ref 40), (1, .int y1), (2, y2), (3, y3), (4, y4), (5, .int y5), (6, .int y6)] [] (mk_K ++ E) (mk_B R B) I J o Z)  (y1 : Int32) (y2 : Value) (y3 : Value) (y4 : Value) (y5 : Int32) (y6 : Int32) (I : Nat → Nat → Int32) (B : Nat → Value) (E : List (Nat × Nat)) (hp : pMo_fixed_214 q3 q14 y1 y2 y3 y4 y5 y6 I B E) (ho : o = .returned none) (hz : Z = (mk_K ++ E, mk_B R B, (fMo_fixed_214 r3 r14 y1 y2 y3 y4 y5 y6 I B E), J)) : pmE g kMo_fixed (d + 2) 0 0 214 [(0, .ref 40), (1, .int y1), (2, y2), (3, y3), (4, y4), (5, .int y5), (6, .int y6)] [] (mk_K ++ E) (mk_B R B) I J o Z := by
  unfold pMo_fixed_214 at hp
  refine pm_iconst (v := 0) dMo_fixed_214 (by decide) ?_
  refine pm_wk [0, 1, 2, 3, 4, 5, 6] rfl ?_
  exact Mo_fixed_n215 g d R hR J _ _ r3 q3 ih3 r14 q14 ih14  _ _ _ _ _ _ _ _ _ _ hp ho (hz.trans (by first | (simp only [fMo_fixed_214]; done) | (simp only [fMo_fixed_214]; with_reducible rfl) | with_reducible rfl))
set_option maxHeartbeats 4000000 in
set_option maxRecDepth 100000 in
theorem Mo_fixed_n243 (g : pmG) (d : Nat) (R : Nat → Nat → Value) (hR : mk_R R) (J : Nat → Nat → Int64) (o : Outcome) (Z : pmM) (r3 : Int32 → Value → Value → Value → Int32 → (Nat → Nat → Int32) → (Nat → Value) → (List (Nat × Nat)) → (Nat → Nat → Int32)) (q3 : Int32 → Value → Value → Value → Int32 → (Nat → Nat → Int32) → (Nat → Value) → (List (Nat × Nat)) → Prop) (ih3 : ∀ (y1 : Int32) (y2 : Value) (y3 : Value) (y4 : Value) (y5 : Int32) (I : Nat → Nat → Int32) (B : Nat → Value) (E : List (Nat × Nat)), q3 y1 y2 y3 y4 y5 I B E → o = .returned none → Z = (mk_K ++ E, mk_B R B, (r3 y1 y2 y3 y4 y5 I B E), J) → pmE g kMo_fixed (d + 2) 0 0 3 [(0, .ref 40), (1, .int y1), (2, y2), (3, y3), (4, y4), (5, .int y5)] [] (mk_K ++ E) (mk_B R B) I J o Z) (r14 : Int32 → Value → Value → Value → Int32 → Int32 → (Nat → Nat → Int32) → (Nat → Value) → (List (Nat × Nat)) → (Nat → Nat → Int32)) (q14 : Int32 → Value → Value → Value → Int32 → Int32 → (Nat → Nat → Int32) → (Nat → Value) → (List (Nat × Nat)) → Prop) (ih14 : ∀ (y1 : Int32) (y2 : Value) (y3 : Value) (y4 : Value) (y5 : Int32) (y6 : Int32) (I : Nat → Nat → Int32) (B : Nat → Value) (E : List (Nat × Nat)), q14 y1 y2 y3 y4 y5 y6 I B E → o = .returned none → Z = (mk_K ++ E, mk_B R B, (r14 y1 y2 y3 y4 y5 y6 I B E), J) → pmE g kMo_fixed (d + 2) 0 0 14 [(0, .ref 40), (1, .int y1), (2, y2), (3, y3), (4, y4), (5, .int y5), (6, .int y6)] [] (mk_K ++ E) (mk_B R B) I J o Z)  (y1 : Int32) (y2 : Value) (y3 : Value) (y4 : Value) (y5 : Int32) (y6 : Int32) (z0 : Int32) (I : Nat → Nat → Int32) (B : Nat → Value) (E : List (Nat × Nat)) (hp : pMo_fixed_243 q3 q14 y1 y2 y3 y4 y5 y6 z0 I B E) (ho : o = .returned none) (hz : Z = (mk_K ++ E, mk_B R B, (fMo_fixed_243 r3 r14 y1 y2 y3 y4 y5 y6 z0 I B E), J)) : pmE g kMo_fixed (d + 2) 0 0 243 [(0, .ref 40), (1, .int y1), (2, y2), (3, y3), (4, y4), (5, .int y5), (6, .int y6)] [.int z0] (mk_K ++ E) (mk_B R B) I J o Z := by
  unfold pMo_fixed_243 at hp
  refine pm_istore dMo_fixed_243 (by decide) rfl ?_
  refine pm_wk [1, 2, 3, 4, 5, 6, 7, 0] rfl ?_
  exact Mo_fixed_n245 g d R hR J _ _ r3 q3 ih3 r14 q14 ih14  _ _ _ _ _ _ _ _ _ _ hp ho (hz.trans (by first | (simp only [fMo_fixed_243]; done) | (simp only [fMo_fixed_243]; with_reducible rfl) | with_reducible rfl))
set_option maxHeartbeats 4000000 in
set_option maxRecDepth 100000 in
theorem Mo_fixed_n242 (g : pmG) (d : Nat) (R : Nat → Nat → Value) (hR : mk_R R) (J : Nat → Nat → Int64) (o : Outcome) (Z : pmM) (r3 : Int32 → Value → Value → Value → Int32 → (Nat → Nat → Int32) → (Nat → Value) → (List (Nat × Nat)) → (Nat → Nat → Int32)) (q3 : Int32 → Value → Value → Value → Int32 → (Nat → Nat → Int32) → (Nat → Value) → (List (Nat × Nat)) → Prop) (ih3 : ∀ (y1 : Int32) (y2 : Value) (y3 : Value) (y4 : Value) (y5 : Int32) (I : Nat → Nat → Int32) (B : Nat → Value) (E : List (Nat × Nat)), q3 y1 y2 y3 y4 y5 I B E → o = .returned none → Z = (mk_K ++ E, mk_B R B, (r3 y1 y2 y3 y4 y5 I B E), J) → pmE g kMo_fixed (d + 2) 0 0 3 [(0, .ref 40), (1, .int y1), (2, y2), (3, y3), (4, y4), (5, .int y5)] [] (mk_K ++ E) (mk_B R B) I J o Z) (r14 : Int32 → Value → Value → Value → Int32 → Int32 → (Nat → Nat → Int32) → (Nat → Value) → (List (Nat × Nat)) → (Nat → Nat → Int32)) (q14 : Int32 → Value → Value → Value → Int32 → Int32 → (Nat → Nat → Int32) → (Nat → Value) → (List (Nat × Nat)) → Prop) (ih14 : ∀ (y1 : Int32) (y2 : Value) (y3 : Value) (y4 : Value) (y5 : Int32) (y6 : Int32) (I : Nat → Nat → Int32) (B : Nat → Value) (E : List (Nat × Nat)), q14 y1 y2 y3 y4 y5 y6 I B E → o = .returned none → Z = (mk_K ++ E, mk_B R B, (r14 y1 y2 y3 y4 y5 y6 I B E), J) → pmE g kMo_fixed (d + 2) 0 0 14 [(0, .ref 40), (1, .int y1), (2, y2), (3, y3), (4, y4), (5, .int y5), (6, .int y6)] [] (mk_K ++ E) (mk_B R B) I J o Z)  (y1 : Int32) (y2 : Value) (y3 : Value) (y4 : Value) (y5 : Int32) (y6 : Int32) (I : Nat → Nat → Int32) (B : Nat → Value) (E : List (Nat × Nat)) (hp : pMo_fixed_242 q3 q14 y1 y2 y3 y4 y5 y6 I B E) (ho : o = .returned none) (hz : Z = (mk_K ++ E, mk_B R B, (fMo_fixed_242 r3 r14 y1 y2 y3 y4 y5 y6 I B E), J)) : pmE g kMo_fixed (d + 2) 0 0 242 [(0, .ref 40), (1, .int y1), (2, y2), (3, y3), (4, y4), (5, .int y5), (6, .int y6)] [] (mk_K ++ E) (mk_B R B) I J o Z := by
  unfold pMo_fixed_242 at hp
  refine pm_iconst (v := 0) dMo_fixed_242 (by decide) ?_
  refine pm_wk [0, 1, 2, 3, 4, 5, 6] rfl ?_
  exact Mo_fixed_n243 g d R hR J _ _ r3 q3 ih3 r14 q14 ih14  _ _ _ _ _ _ _ _ _ _ hp ho (hz.trans (by first | (simp only [fMo_fixed_242]; done) | (simp only [fMo_fixed_242]; with_reducible rfl) | with_reducible rfl))
set_option maxHeartbeats 4000000 in
set_option maxRecDepth 100000 in
theorem Mo_fixed_n14 (g : pmG) (d : Nat) (R : Nat → Nat → Value) (hR : mk_R R) (J : Nat → Nat → Int64) (o : Outcome) (Z : pmM) (r3 : Int32 → Value → Value → Value → Int32 → (Nat → Nat → Int32) → (Nat → Value) → (List (Nat × Nat)) → (Nat → Nat → Int32)) (q3 : Int32 → Value → Value → Value → Int32 → (Nat → Nat → Int32) → (Nat → Value) → (List (Nat × Nat)) → Prop) (ih3 : ∀ (y1 : Int32) (y2 : Value) (y3 : Value) (y4 : Value) (y5 : Int32) (I : Nat → Nat → Int32) (B : Nat → Value) (E : List (Nat × Nat)), q3 y1 y2 y3 y4 y5 I B E → o = .returned none → Z = (mk_K ++ E, mk_B R B, (r3 y1 y2 y3 y4 y5 I B E), J) → pmE g kMo_fixed (d + 2) 0 0 3 [(0, .ref 40), (1, .int y1), (2, y2), (3, y3), (4, y4), (5, .int y5)] [] (mk_K ++ E) (mk_B R B) I J o Z)  : ∀ (n : Nat) (y1 : Int32) (y2 : Value) (y3 : Value) (y4 : Value) (y5 : Int32) (y6 : Int32) (I : Nat → Nat → Int32) (B : Nat → Value) (E : List (Nat × Nat)), pMo_fixed_14 q3 n y1 y2 y3 y4 y5 y6 I B E → o = .returned none → Z = (mk_K ++ E, mk_B R B, (fMo_fixed_14 r3 n y1 y2 y3 y4 y5 y6 I B E), J) → pmE g kMo_fixed (d + 2) 0 0 14 [(0, .ref 40), (1, .int y1), (2, y2), (3, y3), (4, y4), (5, .int y5), (6, .int y6)] [] (mk_K ++ E) (mk_B R B) I J o Z := by
  intro n
  induction n with
  | zero => intro y1 y2 y3 y4 y5 y6 I B E hp; exact False.elim hp
  | succ n ih =>
  intro y1 y2 y3 y4 y5 y6 I B E hp ho hz
  simp only [pMo_fixed_14] at hp
  refine pm_iload dMo_fixed_14 rfl ?_
  refine pm_aload_n dMo_fixed_16 rfl ?_
  refine pm_callV dMo_fixed_17 lMo_345 vMo_all ⟨_, _, rfl⟩ (Mo_all_ok _ _ _ _ (mk_RB hR _)  _ _ hp.1) rfl rfl rfl (Nat.le_of_ble_eq_true rfl) (Nat.le_refl _) (Nat.le_refl _) ?_
  refine pm_icmp_ge 278 dMo_fixed_20 (by decide) (fun h20 => ?_) (fun h20 => ?_)
  ·
    refine pm_goto 3 dMo_fixed_278 (by decide) ?_
    refine pm_wk [0, 1, 2, 3, 4, 5] rfl ?_
    exact ih3 _ _ _ _ _ _ _ _ (hp.2.1 h20) ho (hz.trans (by first | (simp only [fMo_fixed_14, if_pos h20]; done) | (simp only [fMo_fixed_14, if_pos h20]; with_reducible rfl) | with_reducible rfl))
  ·
    refine pm_aload_n dMo_fixed_23 rfl ?_
    refine pm_getr dMo_fixed_24 fMo_119 rfl (rr_40_35 (mk_RB hR _)) ?_
    refine pm_iload_n dMo_fixed_27 rfl ?_
    refine pm_iald dMo_fixed_28 rfl (hp.2.2 h20).1 ?_
    by_cases h29_6 : (I 57 y1.toNatClampNeg) = 6
    ·
      refine pm_tableIn 64 dMo_fixed_29 (by rw [h29_6]; decide) (by rw [h29_6]; decide) (by first | (rw [h29_6]; rfl) | rw [h29_6]) (by decide) ?_
      refine pm_vload dMo_fixed_64 rfl ((hp.2.2 h20).2.1 h29_6).1 ?_
      refine pm_iload dMo_fixed_66 rfl ?_
      refine pm_vzald dMo_fixed_68 ((hp.2.2 h20).2.1 h29_6).2.1.1 ((hp.2.2 h20).2.1 h29_6).2.1.2.1 ((hp.2.2 h20).2.1 h29_6).2.1.2.2 ?_
      refine pm_if_ne 90 dMo_fixed_69 (by decide) (fun h69 => ?_) (fun h69 => ?_)
      ·
        refine pm_wk [0, 1, 2, 3, 4, 5, 6] rfl ?_
        exact Mo_fixed_n90 g d R hR J _ _ r3 q3 ih3 (fMo_fixed_14 r3 n) (pMo_fixed_14 q3 n) ih  _ _ _ _ _ _ _ _ _ (((hp.2.2 h20).2.1 h29_6).2.2.2 h69) ho (hz.trans (by first | (simp only [fMo_fixed_14, if_neg h20, if_pos h29_6, if_neg h69]; done) | (simp only [fMo_fixed_14, if_neg h20, if_pos h29_6, if_neg h69]; with_reducible rfl) | with_reducible rfl))
      ·
        refine pm_vload_n dMo_fixed_72 rfl (((hp.2.2 h20).2.1 h29_6).2.2.1 h69).1 ?_
        refine pm_iload dMo_fixed_73 rfl ?_
        refine pm_vzald dMo_fixed_75 (((hp.2.2 h20).2.1 h29_6).2.2.1 h69).2.1.1 (((hp.2.2 h20).2.1 h29_6).2.2.1 h69).2.1.2.1 (((hp.2.2 h20).2.1 h29_6).2.2.1 h69).2.1.2.2 ?_
        refine pm_if_eq 94 dMo_fixed_76 (by decide) (fun h76 => ?_) (fun h76 => ?_)
        ·
          refine pm_wk [0, 1, 2, 3, 4, 5, 6] rfl ?_
          exact Mo_fixed_n94 g d R hR J _ _ r3 q3 ih3 (fMo_fixed_14 r3 n) (pMo_fixed_14 q3 n) ih  _ _ _ _ _ _ _ _ _ ((((hp.2.2 h20).2.1 h29_6).2.2.1 h69).2.2.1 h76) ho (hz.trans (by first | (simp only [fMo_fixed_14, if_neg h20, if_pos h29_6, if_pos h69, if_pos h76]; done) | (simp only [fMo_fixed_14, if_neg h20, if_pos h29_6, if_pos h69, if_pos h76]; with_reducible rfl) | with_reducible rfl))
        ·
          refine pm_aload_n dMo_fixed_79 rfl ?_
          refine pm_vload_n dMo_fixed_80 rfl ((((hp.2.2 h20).2.1 h29_6).2.2.1 h69).2.2.2 h76).1 ?_
          refine pm_iload dMo_fixed_81 rfl ?_
          refine pm_iconst (v := 0) dMo_fixed_83 (by decide) ?_
          refine pm_callV dMo_fixed_84 lMo_362 vMo_next2 ⟨_, _, rfl⟩ (Mo_next2_ok _ _ _ hR _ _ _ _ _ _ _ _ ((((hp.2.2 h20).2.1 h29_6).2.2.1 h69).2.2.2 h76).2.1) rfl rfl rfl (Nat.le_of_ble_eq_true rfl) (Nat.le_refl _) (Nat.le_refl _) ?_
          refine pm_if_eq 94 dMo_fixed_87 (by decide) (fun h87 => ?_) (fun h87 => ?_)
          ·
            refine pm_wk [0, 1, 2, 3, 4, 5, 6] rfl ?_
            exact Mo_fixed_n94 g d R hR J _ _ r3 q3 ih3 (fMo_fixed_14 r3 n) (pMo_fixed_14 q3 n) ih  _ _ _ _ _ _ _ _ _ (((((hp.2.2 h20).2.1 h29_6).2.2.1 h69).2.2.2 h76).2.2.1 h87) ho (hz.trans (by first | (simp only [fMo_fixed_14, if_neg h20, if_pos h29_6, if_pos h69, if_neg h76, if_pos h87]; done) | (simp only [fMo_fixed_14, if_neg h20, if_pos h29_6, if_pos h69, if_neg h76, if_pos h87]; with_reducible rfl) | with_reducible rfl))
          ·
            refine pm_wk [0, 1, 2, 3, 4, 5, 6] rfl ?_
            exact Mo_fixed_n90 g d R hR J _ _ r3 q3 ih3 (fMo_fixed_14 r3 n) (pMo_fixed_14 q3 n) ih  _ _ _ _ _ _ _ _ _ (((((hp.2.2 h20).2.1 h29_6).2.2.1 h69).2.2.2 h76).2.2.2 h87) ho (hz.trans (by first | (simp only [fMo_fixed_14, if_neg h20, if_pos h29_6, if_pos h69, if_neg h76, if_neg h87]; done) | (simp only [fMo_fixed_14, if_neg h20, if_pos h29_6, if_pos h69, if_neg h76, if_neg h87]; with_reducible rfl) | with_reducible rfl))
    ·
      by_cases h29_7 : (I 57 y1.toNatClampNeg) = 7
      ·
        refine pm_tableIn 100 dMo_fixed_29 (by rw [h29_7]; decide) (by rw [h29_7]; decide) (by first | (rw [h29_7]; rfl) | rw [h29_7]) (by decide) ?_
        refine pm_vload dMo_fixed_100 rfl (((hp.2.2 h20).2.2 h29_6).1 h29_7).1 ?_
        refine pm_iload dMo_fixed_102 rfl ?_
        refine pm_vzald dMo_fixed_104 (((hp.2.2 h20).2.2 h29_6).1 h29_7).2.1.1 (((hp.2.2 h20).2.2 h29_6).1 h29_7).2.1.2.1 (((hp.2.2 h20).2.2 h29_6).1 h29_7).2.1.2.2 ?_
        refine pm_if_ne 126 dMo_fixed_105 (by decide) (fun h105 => ?_) (fun h105 => ?_)
        ·
          refine pm_wk [0, 1, 2, 3, 4, 5, 6] rfl ?_
          exact Mo_fixed_n126 g d R hR J _ _ r3 q3 ih3 (fMo_fixed_14 r3 n) (pMo_fixed_14 q3 n) ih  _ _ _ _ _ _ _ _ _ ((((hp.2.2 h20).2.2 h29_6).1 h29_7).2.2.2 h105) ho (hz.trans (by first | (simp only [fMo_fixed_14, if_neg h20, if_neg h29_6, if_pos h29_7, if_neg h105]; done) | (simp only [fMo_fixed_14, if_neg h20, if_neg h29_6, if_pos h29_7, if_neg h105]; with_reducible rfl) | with_reducible rfl))
        ·
          refine pm_vload_n dMo_fixed_108 rfl ((((hp.2.2 h20).2.2 h29_6).1 h29_7).2.2.1 h105).1 ?_
          refine pm_iload dMo_fixed_109 rfl ?_
          refine pm_vzald dMo_fixed_111 ((((hp.2.2 h20).2.2 h29_6).1 h29_7).2.2.1 h105).2.1.1 ((((hp.2.2 h20).2.2 h29_6).1 h29_7).2.2.1 h105).2.1.2.1 ((((hp.2.2 h20).2.2 h29_6).1 h29_7).2.2.1 h105).2.1.2.2 ?_
          refine pm_if_eq 130 dMo_fixed_112 (by decide) (fun h112 => ?_) (fun h112 => ?_)
          ·
            refine pm_wk [0, 1, 2, 3, 4, 5, 6] rfl ?_
            exact Mo_fixed_n130 g d R hR J _ _ r3 q3 ih3 (fMo_fixed_14 r3 n) (pMo_fixed_14 q3 n) ih  _ _ _ _ _ _ _ _ _ (((((hp.2.2 h20).2.2 h29_6).1 h29_7).2.2.1 h105).2.2.1 h112) ho (hz.trans (by first | (simp only [fMo_fixed_14, if_neg h20, if_neg h29_6, if_pos h29_7, if_pos h105, if_pos h112]; done) | (simp only [fMo_fixed_14, if_neg h20, if_neg h29_6, if_pos h29_7, if_pos h105, if_pos h112]; with_reducible rfl) | with_reducible rfl))
          ·
            refine pm_aload_n dMo_fixed_115 rfl ?_
            refine pm_vload_n dMo_fixed_116 rfl (((((hp.2.2 h20).2.2 h29_6).1 h29_7).2.2.1 h105).2.2.2 h112).1 ?_
            refine pm_iload dMo_fixed_117 rfl ?_
            refine pm_iconst (v := 1) dMo_fixed_119 (by decide) ?_
            refine pm_callV dMo_fixed_120 lMo_362 vMo_next2 ⟨_, _, rfl⟩ (Mo_next2_ok _ _ _ hR _ _ _ _ _ _ _ _ (((((hp.2.2 h20).2.2 h29_6).1 h29_7).2.2.1 h105).2.2.2 h112).2.1) rfl rfl rfl (Nat.le_of_ble_eq_true rfl) (Nat.le_refl _) (Nat.le_refl _) ?_
            refine pm_if_eq 130 dMo_fixed_123 (by decide) (fun h123 => ?_) (fun h123 => ?_)
            ·
              refine pm_wk [0, 1, 2, 3, 4, 5, 6] rfl ?_
              exact Mo_fixed_n130 g d R hR J _ _ r3 q3 ih3 (fMo_fixed_14 r3 n) (pMo_fixed_14 q3 n) ih  _ _ _ _ _ _ _ _ _ ((((((hp.2.2 h20).2.2 h29_6).1 h29_7).2.2.1 h105).2.2.2 h112).2.2.1 h123) ho (hz.trans (by first | (simp only [fMo_fixed_14, if_neg h20, if_neg h29_6, if_pos h29_7, if_pos h105, if_neg h112, if_pos h123]; done) | (simp only [fMo_fixed_14, if_neg h20, if_neg h29_6, if_pos h29_7, if_pos h105, if_neg h112, if_pos h123]; with_reducible rfl) | with_reducible rfl))
            ·
              refine pm_wk [0, 1, 2, 3, 4, 5, 6] rfl ?_
              exact Mo_fixed_n126 g d R hR J _ _ r3 q3 ih3 (fMo_fixed_14 r3 n) (pMo_fixed_14 q3 n) ih  _ _ _ _ _ _ _ _ _ ((((((hp.2.2 h20).2.2 h29_6).1 h29_7).2.2.1 h105).2.2.2 h112).2.2.2 h123) ho (hz.trans (by first | (simp only [fMo_fixed_14, if_neg h20, if_neg h29_6, if_pos h29_7, if_pos h105, if_neg h112, if_neg h123]; done) | (simp only [fMo_fixed_14, if_neg h20, if_neg h29_6, if_pos h29_7, if_pos h105, if_neg h112, if_neg h123]; with_reducible rfl) | with_reducible rfl))
      ·
        by_cases h29_8 : (I 57 y1.toNatClampNeg) = 8
        ·
          refine pm_tableIn 136 dMo_fixed_29 (by rw [h29_8]; decide) (by rw [h29_8]; decide) (by first | (rw [h29_8]; rfl) | rw [h29_8]) (by decide) ?_
          refine pm_vload_n dMo_fixed_136 rfl ((((hp.2.2 h20).2.2 h29_6).2 h29_7).1 h29_8).1 ?_
          refine pm_iload dMo_fixed_137 rfl ?_
          refine pm_vzald dMo_fixed_139 ((((hp.2.2 h20).2.2 h29_6).2 h29_7).1 h29_8).2.1.1 ((((hp.2.2 h20).2.2 h29_6).2 h29_7).1 h29_8).2.1.2.1 ((((hp.2.2 h20).2.2 h29_6).2 h29_7).1 h29_8).2.1.2.2 ?_
          refine pm_if_ne 154 dMo_fixed_140 (by decide) (fun h140 => ?_) (fun h140 => ?_)
          ·
            refine pm_wk [0, 1, 2, 3, 4, 5, 6] rfl ?_
            exact Mo_fixed_n154 g d R hR J _ _ r3 q3 ih3 (fMo_fixed_14 r3 n) (pMo_fixed_14 q3 n) ih  _ _ _ _ _ _ _ _ _ (((((hp.2.2 h20).2.2 h29_6).2 h29_7).1 h29_8).2.2.2 h140) ho (hz.trans (by first | (simp only [fMo_fixed_14, if_neg h20, if_neg h29_6, if_neg h29_7, if_pos h29_8, if_neg h140]; done) | (simp only [fMo_fixed_14, if_neg h20, if_neg h29_6, if_neg h29_7, if_pos h29_8, if_neg h140]; with_reducible rfl) | with_reducible rfl))
          ·
            refine pm_aload_n dMo_fixed_143 rfl ?_
            refine pm_vload_n dMo_fixed_144 rfl (((((hp.2.2 h20).2.2 h29_6).2 h29_7).1 h29_8).2.2.1 h140).1 ?_
            refine pm_iload dMo_fixed_145 rfl ?_
            refine pm_iconst (v := 0) dMo_fixed_147 (by decide) ?_
            refine pm_callV dMo_fixed_148 lMo_362 vMo_next2 ⟨_, _, rfl⟩ (Mo_next2_ok _ _ _ hR _ _ _ _ _ _ _ _ (((((hp.2.2 h20).2.2 h29_6).2 h29_7).1 h29_8).2.2.1 h140).2.1) rfl rfl rfl (Nat.le_of_ble_eq_true rfl) (Nat.le_refl _) (Nat.le_refl _) ?_
            refine pm_if_eq 158 dMo_fixed_151 (by decide) (fun h151 => ?_) (fun h151 => ?_)
            ·
              refine pm_iconst (v := 0) dMo_fixed_158 (by decide) ?_
              refine pm_wk [0, 1, 2, 3, 4, 5, 6] rfl ?_
              exact Mo_fixed_n159 g d R hR J _ _ r3 q3 ih3 (fMo_fixed_14 r3 n) (pMo_fixed_14 q3 n) ih  _ _ _ _ _ _ _ _ _ _ ((((((hp.2.2 h20).2.2 h29_6).2 h29_7).1 h29_8).2.2.1 h140).2.2.1 h151) ho (hz.trans (by first | (simp only [fMo_fixed_14, if_neg h20, if_neg h29_6, if_neg h29_7, if_pos h29_8, if_pos h140, if_pos h151]; done) | (simp only [fMo_fixed_14, if_neg h20, if_neg h29_6, if_neg h29_7, if_pos h29_8, if_pos h140, if_pos h151]; with_reducible rfl) | with_reducible rfl))
            ·
              refine pm_wk [0, 1, 2, 3, 4, 5, 6] rfl ?_
              exact Mo_fixed_n154 g d R hR J _ _ r3 q3 ih3 (fMo_fixed_14 r3 n) (pMo_fixed_14 q3 n) ih  _ _ _ _ _ _ _ _ _ ((((((hp.2.2 h20).2.2 h29_6).2 h29_7).1 h29_8).2.2.1 h140).2.2.2 h151) ho (hz.trans (by first | (simp only [fMo_fixed_14, if_neg h20, if_neg h29_6, if_neg h29_7, if_pos h29_8, if_pos h140, if_neg h151]; done) | (simp only [fMo_fixed_14, if_neg h20, if_neg h29_6, if_neg h29_7, if_pos h29_8, if_pos h140, if_neg h151]; with_reducible rfl) | with_reducible rfl))
        ·
          by_cases h29_9 : (I 57 y1.toNatClampNeg) = 9
          ·
            refine pm_tableIn 164 dMo_fixed_29 (by rw [h29_9]; decide) (by rw [h29_9]; decide) (by first | (rw [h29_9]; rfl) | rw [h29_9]) (by decide) ?_
            refine pm_vload_n dMo_fixed_164 rfl (((((hp.2.2 h20).2.2 h29_6).2 h29_7).2 h29_8).1 h29_9).1 ?_
            refine pm_iload dMo_fixed_165 rfl ?_
            refine pm_vzald dMo_fixed_167 (((((hp.2.2 h20).2.2 h29_6).2 h29_7).2 h29_8).1 h29_9).2.1.1 (((((hp.2.2 h20).2.2 h29_6).2 h29_7).2 h29_8).1 h29_9).2.1.2.1 (((((hp.2.2 h20).2.2 h29_6).2 h29_7).2 h29_8).1 h29_9).2.1.2.2 ?_
            refine pm_if_ne 182 dMo_fixed_168 (by decide) (fun h168 => ?_) (fun h168 => ?_)
            ·
              refine pm_wk [0, 1, 2, 3, 4, 5, 6] rfl ?_
              exact Mo_fixed_n182 g d R hR J _ _ r3 q3 ih3 (fMo_fixed_14 r3 n) (pMo_fixed_14 q3 n) ih  _ _ _ _ _ _ _ _ _ ((((((hp.2.2 h20).2.2 h29_6).2 h29_7).2 h29_8).1 h29_9).2.2.2 h168) ho (hz.trans (by first | (simp only [fMo_fixed_14, if_neg h20, if_neg h29_6, if_neg h29_7, if_neg h29_8, if_pos h29_9, if_neg h168]; done) | (simp only [fMo_fixed_14, if_neg h20, if_neg h29_6, if_neg h29_7, if_neg h29_8, if_pos h29_9, if_neg h168]; with_reducible rfl) | with_reducible rfl))
            ·
              refine pm_aload_n dMo_fixed_171 rfl ?_
              refine pm_vload_n dMo_fixed_172 rfl ((((((hp.2.2 h20).2.2 h29_6).2 h29_7).2 h29_8).1 h29_9).2.2.1 h168).1 ?_
              refine pm_iload dMo_fixed_173 rfl ?_
              refine pm_iconst (v := 1) dMo_fixed_175 (by decide) ?_
              refine pm_callV dMo_fixed_176 lMo_362 vMo_next2 ⟨_, _, rfl⟩ (Mo_next2_ok _ _ _ hR _ _ _ _ _ _ _ _ ((((((hp.2.2 h20).2.2 h29_6).2 h29_7).2 h29_8).1 h29_9).2.2.1 h168).2.1) rfl rfl rfl (Nat.le_of_ble_eq_true rfl) (Nat.le_refl _) (Nat.le_refl _) ?_
              refine pm_if_eq 186 dMo_fixed_179 (by decide) (fun h179 => ?_) (fun h179 => ?_)
              ·
                refine pm_iconst (v := 0) dMo_fixed_186 (by decide) ?_
                refine pm_wk [0, 1, 2, 3, 4, 5, 6] rfl ?_
                exact Mo_fixed_n187 g d R hR J _ _ r3 q3 ih3 (fMo_fixed_14 r3 n) (pMo_fixed_14 q3 n) ih  _ _ _ _ _ _ _ _ _ _ (((((((hp.2.2 h20).2.2 h29_6).2 h29_7).2 h29_8).1 h29_9).2.2.1 h168).2.2.1 h179) ho (hz.trans (by first | (simp only [fMo_fixed_14, if_neg h20, if_neg h29_6, if_neg h29_7, if_neg h29_8, if_pos h29_9, if_pos h168, if_pos h179]; done) | (simp only [fMo_fixed_14, if_neg h20, if_neg h29_6, if_neg h29_7, if_neg h29_8, if_pos h29_9, if_pos h168, if_pos h179]; with_reducible rfl) | with_reducible rfl))
              ·
                refine pm_wk [0, 1, 2, 3, 4, 5, 6] rfl ?_
                exact Mo_fixed_n182 g d R hR J _ _ r3 q3 ih3 (fMo_fixed_14 r3 n) (pMo_fixed_14 q3 n) ih  _ _ _ _ _ _ _ _ _ (((((((hp.2.2 h20).2.2 h29_6).2 h29_7).2 h29_8).1 h29_9).2.2.1 h168).2.2.2 h179) ho (hz.trans (by first | (simp only [fMo_fixed_14, if_neg h20, if_neg h29_6, if_neg h29_7, if_neg h29_8, if_pos h29_9, if_pos h168, if_neg h179]; done) | (simp only [fMo_fixed_14, if_neg h20, if_neg h29_6, if_neg h29_7, if_neg h29_8, if_pos h29_9, if_pos h168, if_neg h179]; with_reducible rfl) | with_reducible rfl))
          ·
            by_cases h29_10 : (I 57 y1.toNatClampNeg) = 10
            ·
              refine pm_tableIn 192 dMo_fixed_29 (by rw [h29_10]; decide) (by rw [h29_10]; decide) (by first | (rw [h29_10]; rfl) | rw [h29_10]) (by decide) ?_
              refine pm_vload_n dMo_fixed_192 rfl ((((((hp.2.2 h20).2.2 h29_6).2 h29_7).2 h29_8).2 h29_9).1 h29_10).1 ?_
              refine pm_iload dMo_fixed_193 rfl ?_
              refine pm_vzald dMo_fixed_195 ((((((hp.2.2 h20).2.2 h29_6).2 h29_7).2 h29_8).2 h29_9).1 h29_10).2.1.1 ((((((hp.2.2 h20).2.2 h29_6).2 h29_7).2 h29_8).2 h29_9).1 h29_10).2.1.2.1 ((((((hp.2.2 h20).2.2 h29_6).2 h29_7).2 h29_8).2 h29_9).1 h29_10).2.1.2.2 ?_
              refine pm_if_eq 214 dMo_fixed_196 (by decide) (fun h196 => ?_) (fun h196 => ?_)
              ·
                refine pm_wk [0, 1, 2, 3, 4, 5, 6] rfl ?_
                exact Mo_fixed_n214 g d R hR J _ _ r3 q3 ih3 (fMo_fixed_14 r3 n) (pMo_fixed_14 q3 n) ih  _ _ _ _ _ _ _ _ _ (((((((hp.2.2 h20).2.2 h29_6).2 h29_7).2 h29_8).2 h29_9).1 h29_10).2.2.1 h196) ho (hz.trans (by first | (simp only [fMo_fixed_14, if_neg h20, if_neg h29_6, if_neg h29_7, if_neg h29_8, if_neg h29_9, if_pos h29_10, if_pos h196]; done) | (simp only [fMo_fixed_14, if_neg h20, if_neg h29_6, if_neg h29_7, if_neg h29_8, if_neg h29_9, if_pos h29_10, if_pos h196]; with_reducible rfl) | with_reducible rfl))
              ·
                refine pm_aload_n dMo_fixed_199 rfl ?_
                refine pm_vload_n dMo_fixed_200 rfl (((((((hp.2.2 h20).2.2 h29_6).2 h29_7).2 h29_8).2 h29_9).1 h29_10).2.2.2 h196).1 ?_
                refine pm_iload dMo_fixed_201 rfl ?_
                refine pm_iconst (v := 0) dMo_fixed_203 (by decide) ?_
                refine pm_callV dMo_fixed_204 lMo_362 vMo_next2 ⟨_, _, rfl⟩ (Mo_next2_ok _ _ _ hR _ _ _ _ _ _ _ _ (((((((hp.2.2 h20).2.2 h29_6).2 h29_7).2 h29_8).2 h29_9).1 h29_10).2.2.2 h196).2.1) rfl rfl rfl (Nat.le_of_ble_eq_true rfl) (Nat.le_refl _) (Nat.le_refl _) ?_
                refine pm_if_eq 214 dMo_fixed_207 (by decide) (fun h207 => ?_) (fun h207 => ?_)
                ·
                  refine pm_wk [0, 1, 2, 3, 4, 5, 6] rfl ?_
                  exact Mo_fixed_n214 g d R hR J _ _ r3 q3 ih3 (fMo_fixed_14 r3 n) (pMo_fixed_14 q3 n) ih  _ _ _ _ _ _ _ _ _ ((((((((hp.2.2 h20).2.2 h29_6).2 h29_7).2 h29_8).2 h29_9).1 h29_10).2.2.2 h196).2.2.1 h207) ho (hz.trans (by first | (simp only [fMo_fixed_14, if_neg h20, if_neg h29_6, if_neg h29_7, if_neg h29_8, if_neg h29_9, if_pos h29_10, if_neg h196, if_pos h207]; done) | (simp only [fMo_fixed_14, if_neg h20, if_neg h29_6, if_neg h29_7, if_neg h29_8, if_neg h29_9, if_pos h29_10, if_neg h196, if_pos h207]; with_reducible rfl) | with_reducible rfl))
                ·
                  refine pm_iconst (v := 1) dMo_fixed_210 (by decide) ?_
                  refine pm_goto 215 dMo_fixed_211 (by decide) ?_
                  refine pm_wk [0, 1, 2, 3, 4, 5, 6] rfl ?_
                  exact Mo_fixed_n215 g d R hR J _ _ r3 q3 ih3 (fMo_fixed_14 r3 n) (pMo_fixed_14 q3 n) ih  _ _ _ _ _ _ _ _ _ _ ((((((((hp.2.2 h20).2.2 h29_6).2 h29_7).2 h29_8).2 h29_9).1 h29_10).2.2.2 h196).2.2.2 h207) ho (hz.trans (by first | (simp only [fMo_fixed_14, if_neg h20, if_neg h29_6, if_neg h29_7, if_neg h29_8, if_neg h29_9, if_pos h29_10, if_neg h196, if_neg h207]; done) | (simp only [fMo_fixed_14, if_neg h20, if_neg h29_6, if_neg h29_7, if_neg h29_8, if_neg h29_9, if_pos h29_10, if_neg h196, if_neg h207]; with_reducible rfl) | with_reducible rfl))
            ·
              refine pm_tableOut 220 dMo_fixed_29 (pm_out (fun q9 k1 k2 => by
                have : q9 = 6 ∨ q9 = 7 ∨ q9 = 8 ∨ q9 = 9 ∨ q9 = 10 := by omega
                rcases this with rfl | rfl | rfl | rfl | rfl
                · exact h29_6
                · exact h29_7
                · exact h29_8
                · exact h29_9
                · exact h29_10
                )) (by decide) ?_
              refine pm_vload_n dMo_fixed_220 rfl ((((((hp.2.2 h20).2.2 h29_6).2 h29_7).2 h29_8).2 h29_9).2 h29_10).1 ?_
              refine pm_iload dMo_fixed_221 rfl ?_
              refine pm_vzald dMo_fixed_223 ((((((hp.2.2 h20).2.2 h29_6).2 h29_7).2 h29_8).2 h29_9).2 h29_10).2.1.1 ((((((hp.2.2 h20).2.2 h29_6).2 h29_7).2 h29_8).2 h29_9).2 h29_10).2.1.2.1 ((((((hp.2.2 h20).2.2 h29_6).2 h29_7).2 h29_8).2 h29_9).2 h29_10).2.1.2.2 ?_
              refine pm_if_eq 242 dMo_fixed_224 (by decide) (fun h224 => ?_) (fun h224 => ?_)
              ·
                refine pm_wk [0, 1, 2, 3, 4, 5, 6] rfl ?_
                exact Mo_fixed_n242 g d R hR J _ _ r3 q3 ih3 (fMo_fixed_14 r3 n) (pMo_fixed_14 q3 n) ih  _ _ _ _ _ _ _ _ _ (((((((hp.2.2 h20).2.2 h29_6).2 h29_7).2 h29_8).2 h29_9).2 h29_10).2.2.1 h224) ho (hz.trans (by first | (simp only [fMo_fixed_14, if_neg h20, if_neg h29_6, if_neg h29_7, if_neg h29_8, if_neg h29_9, if_neg h29_10, if_pos h224]; done) | (simp only [fMo_fixed_14, if_neg h20, if_neg h29_6, if_neg h29_7, if_neg h29_8, if_neg h29_9, if_neg h29_10, if_pos h224]; with_reducible rfl) | with_reducible rfl))
              ·
                refine pm_aload_n dMo_fixed_227 rfl ?_
                refine pm_vload_n dMo_fixed_228 rfl (((((((hp.2.2 h20).2.2 h29_6).2 h29_7).2 h29_8).2 h29_9).2 h29_10).2.2.2 h224).1 ?_
                refine pm_iload dMo_fixed_229 rfl ?_
                refine pm_iconst (v := 1) dMo_fixed_231 (by decide) ?_
                refine pm_callV dMo_fixed_232 lMo_362 vMo_next2 ⟨_, _, rfl⟩ (Mo_next2_ok _ _ _ hR _ _ _ _ _ _ _ _ (((((((hp.2.2 h20).2.2 h29_6).2 h29_7).2 h29_8).2 h29_9).2 h29_10).2.2.2 h224).2.1) rfl rfl rfl (Nat.le_of_ble_eq_true rfl) (Nat.le_refl _) (Nat.le_refl _) ?_
                refine pm_if_eq 242 dMo_fixed_235 (by decide) (fun h235 => ?_) (fun h235 => ?_)
                ·
                  refine pm_wk [0, 1, 2, 3, 4, 5, 6] rfl ?_
                  exact Mo_fixed_n242 g d R hR J _ _ r3 q3 ih3 (fMo_fixed_14 r3 n) (pMo_fixed_14 q3 n) ih  _ _ _ _ _ _ _ _ _ ((((((((hp.2.2 h20).2.2 h29_6).2 h29_7).2 h29_8).2 h29_9).2 h29_10).2.2.2 h224).2.2.1 h235) ho (hz.trans (by first | (simp only [fMo_fixed_14, if_neg h20, if_neg h29_6, if_neg h29_7, if_neg h29_8, if_neg h29_9, if_neg h29_10, if_neg h224, if_pos h235]; done) | (simp only [fMo_fixed_14, if_neg h20, if_neg h29_6, if_neg h29_7, if_neg h29_8, if_neg h29_9, if_neg h29_10, if_neg h224, if_pos h235]; with_reducible rfl) | with_reducible rfl))
                ·
                  refine pm_iconst (v := 1) dMo_fixed_238 (by decide) ?_
                  refine pm_goto 243 dMo_fixed_239 (by decide) ?_
                  refine pm_wk [0, 1, 2, 3, 4, 5, 6] rfl ?_
                  exact Mo_fixed_n243 g d R hR J _ _ r3 q3 ih3 (fMo_fixed_14 r3 n) (pMo_fixed_14 q3 n) ih  _ _ _ _ _ _ _ _ _ _ ((((((((hp.2.2 h20).2.2 h29_6).2 h29_7).2 h29_8).2 h29_9).2 h29_10).2.2.2 h224).2.2.2 h235) ho (hz.trans (by first | (simp only [fMo_fixed_14, if_neg h20, if_neg h29_6, if_neg h29_7, if_neg h29_8, if_neg h29_9, if_neg h29_10, if_neg h224, if_neg h235]; done) | (simp only [fMo_fixed_14, if_neg h20, if_neg h29_6, if_neg h29_7, if_neg h29_8, if_neg h29_9, if_neg h29_10, if_neg h224, if_neg h235]; with_reducible rfl) | with_reducible rfl))
set_option maxHeartbeats 4000000 in
set_option maxRecDepth 100000 in
theorem Mo_fixed_n3 (g : pmG) (d : Nat) (R : Nat → Nat → Value) (hR : mk_R R) (J : Nat → Nat → Int64) (o : Outcome) (Z : pmM) (n14 : Nat) : ∀ (n : Nat) (y1 : Int32) (y2 : Value) (y3 : Value) (y4 : Value) (y5 : Int32) (I : Nat → Nat → Int32) (B : Nat → Value) (E : List (Nat × Nat)), pMo_fixed_3 n14 n y1 y2 y3 y4 y5 I B E → o = .returned none → Z = (mk_K ++ E, mk_B R B, (fMo_fixed_3 n14 n y1 y2 y3 y4 y5 I B E), J) → pmE g kMo_fixed (d + 2) 0 0 3 [(0, .ref 40), (1, .int y1), (2, y2), (3, y3), (4, y4), (5, .int y5)] [] (mk_K ++ E) (mk_B R B) I J o Z := by
  intro n
  induction n with
  | zero => intro y1 y2 y3 y4 y5 I B E hp; exact False.elim hp
  | succ n ih =>
  intro y1 y2 y3 y4 y5 I B E hp ho hz
  simp only [pMo_fixed_3] at hp
  refine pm_iload dMo_fixed_3 rfl ?_
  refine pm_if_eq 281 dMo_fixed_5 (by decide) (fun h5 => ?_) (fun h5 => ?_)
  ·
    exact pm_vret dMo_fixed_281 rfl ho (hz.trans (by first | (simp only [fMo_fixed_3, if_pos h5]; done) | (simp only [fMo_fixed_3, if_pos h5]; with_reducible rfl) | with_reducible rfl))
  ·
    refine pm_iconst (v := 0) dMo_fixed_8 (by decide) ?_
    refine pm_istore dMo_fixed_9 (by decide) (pm_stv rfl (hp.2 h5).1) ?_
    refine pm_iconst (v := 0) dMo_fixed_11 (by decide) ?_
    refine pm_istore dMo_fixed_12 (by decide) rfl ?_
    refine pm_wk [2, 3, 4, 5, 6, 1, 0] rfl ?_
    exact Mo_fixed_n14 g d R hR J _ _ (fMo_fixed_3 n14 n) (pMo_fixed_3 n14 n) ih n14 _ _ _ _ _ _ _ _ _ (hp.2 h5).2 ho (hz.trans (by first | (simp only [fMo_fixed_3, if_neg h5]; done) | (simp only [fMo_fixed_3, if_neg h5]; with_reducible rfl) | with_reducible rfl))
set_option maxHeartbeats 4000000 in
set_option maxRecDepth 100000 in
theorem Mo_fixed_n0 (g : pmG) (d : Nat) (R : Nat → Nat → Value) (hR : mk_R R) (J : Nat → Nat → Int64) (o : Outcome) (Z : pmM) (n14 : Nat) (n3 : Nat) (y1 : Int32) (y2 : Value) (y3 : Value) (y4 : Value) (I : Nat → Nat → Int32) (B : Nat → Value) (E : List (Nat × Nat)) (hp : pMo_fixed n14 n3 y1 y2 y3 y4 I B E) (ho : o = .returned none) (hz : Z = (mk_K ++ E, mk_B R B, (fMo_fixed n14 n3 y1 y2 y3 y4 I B E), J)) : pmE g kMo_fixed (d + 2) 0 0 0 [(0, .ref 40), (1, .int y1), (2, y2), (3, y3), (4, y4)] [] (mk_K ++ E) (mk_B R B) I J o Z := by
  unfold pMo_fixed at hp
  have hv0 := hp.1
  refine pm_iconst (v := 1) dMo_fixed_0 (by decide) ?_
  refine pm_istore dMo_fixed_1 (by decide) (pm_stv rfl hp.2.1) ?_
  refine pm_wk [1, 2, 3, 4, 5, 0] rfl ?_
  exact Mo_fixed_n3 g d R hR J _ _  n14 n3 _ _ _ _ _ _ _ _ hp.2.2 ho (hz.trans (by first | (simp only [fMo_fixed]; done) | (simp only [fMo_fixed]; with_reducible rfl) | with_reducible rfl))
set_option maxHeartbeats 4000000 in
set_option maxRecDepth 100000 in
theorem Mo_fixed_ok (g : pmG) (d : Nat) (R : Nat → Nat → Value) (hR : mk_R R) (n14 : Nat) (n3 : Nat) (x0 : Int32) (v0 : Value) (v1 : Value) (v2 : Value) (I : Nat → Nat → Int32) (B : Nat → Value) (E : List (Nat × Nat)) (J : Nat → Nat → Int64) (hp : pMo_fixed n14 n3 x0 v0 v1 v2 I B E) : pmC g kMo_fixed (d + 2) 0 0 [.ref 40, .int x0, v0, v1, v2] (mk_K ++ E, mk_B R B, I, J) (.returned none) (mk_K ++ E, mk_B R B, (fMo_fixed n14 n3 x0 v0 v1 v2 I B E), J) :=
  by
  have hv9 : pv v0 ∧ pv v1 ∧ pv v2 := by
    unfold pMo_fixed at hp
    exact hp.1
  rcases hv9.1 with rfl | ⟨q0, rfl⟩ <;> rcases hv9.2.1 with rfl | ⟨q1, rfl⟩ <;> rcases hv9.2.2 with rfl | ⟨q2, rfl⟩ <;> exact pmC.of (by decide) (Nat.le_of_ble_eq_true rfl) (Mo_fixed_n0 g d R hR J _ _ n14 n3 x0 _ _ _ I B E hp rfl rfl)
def fMo_judge_375 (r107 : Int32 → Value → Value → Value → Int32 → (Nat → Nat → Int32) → (Nat → Value) → (List (Nat × Nat)) → (Nat → Nat → Int32)) (y1 : Int32) (y2 : Value) (y3 : Value) (y4 : Value) (y5 : Int32) (I : Nat → Nat → Int32) (B : Nat → Value) (E : List (Nat × Nat)) : (Nat → Nat → Int32) :=
  r107 y1 y2 y3 y4 (y5 + Int32.ofInt 1) I B E
def pMo_judge_375 (q107 : Int32 → Value → Value → Value → Int32 → (Nat → Nat → Int32) → (Nat → Value) → (List (Nat × Nat)) → Prop) (y1 : Int32) (y2 : Value) (y3 : Value) (y4 : Value) (y5 : Int32) (I : Nat → Nat → Int32) (B : Nat → Value) (E : List (Nat × Nat)) : Prop :=
  (pv y4) ∧ (q107 y1 y2 y3 y4 (y5 + Int32.ofInt 1) I B E)
def fMo_judge_207 (r107 : Int32 → Value → Value → Value → Int32 → (Nat → Nat → Int32) → (Nat → Value) → (List (Nat × Nat)) → (Nat → Nat → Int32)) (y1 : Int32) (y2 : Value) (y3 : Value) (y4 : Value) (y5 : Int32) (z0 : Value) (z1 : Int32) (z2 : Int32) (I : Nat → Nat → Int32) (B : Nat → Value) (E : List (Nat × Nat)) : (Nat → Nat → Int32) :=
  fMo_judge_375 r107 y1 y2 y3 y4 y5 (pm_u I (pa z0) z1.toNatClampNeg (vp_nar .boolean z2)) B E
def pMo_judge_207 (q107 : Int32 → Value → Value → Value → Int32 → (Nat → Nat → Int32) → (Nat → Value) → (List (Nat × Nat)) → Prop) (y1 : Int32) (y2 : Value) (y3 : Value) (y4 : Value) (y5 : Int32) (z0 : Value) (z1 : Int32) (z2 : Int32) (I : Nat → Nat → Int32) (B : Nat → Value) (E : List (Nat × Nat)) : Prop :=
  (z0 = .ref (pa z0) ∧ (mk_K ++ E)[pa z0]? = some (3, 256) ∧ vp_in z1 256) ∧ (pMo_judge_375 q107 y1 y2 y3 y4 y5 (pm_u I (pa z0) z1.toNatClampNeg (vp_nar .boolean z2)) B E)
def fMo_judge_234 (r107 : Int32 → Value → Value → Value → Int32 → (Nat → Nat → Int32) → (Nat → Value) → (List (Nat × Nat)) → (Nat → Nat → Int32)) (y1 : Int32) (y2 : Value) (y3 : Value) (y4 : Value) (y5 : Int32) (z0 : Value) (z1 : Int32) (z2 : Int32) (I : Nat → Nat → Int32) (B : Nat → Value) (E : List (Nat × Nat)) : (Nat → Nat → Int32) :=
  fMo_judge_375 r107 y1 y2 y3 y4 y5 (pm_u I (pa z0) z1.toNatClampNeg (vp_nar .boolean z2)) B E
def pMo_judge_234 (q107 : Int32 → Value → Value → Value → Int32 → (Nat → Nat → Int32) → (Nat → Value) → (List (Nat × Nat)) → Prop) (y1 : Int32) (y2 : Value) (y3 : Value) (y4 : Value) (y5 : Int32) (z0 : Value) (z1 : Int32) (z2 : Int32) (I : Nat → Nat → Int32) (B : Nat → Value) (E : List (Nat × Nat)) : Prop :=
  (z0 = .ref (pa z0) ∧ (mk_K ++ E)[pa z0]? = some (3, 256) ∧ vp_in z1 256) ∧ (pMo_judge_375 q107 y1 y2 y3 y4 y5 (pm_u I (pa z0) z1.toNatClampNeg (vp_nar .boolean z2)) B E)
def fMo_judge_233 (r107 : Int32 → Value → Value → Value → Int32 → (Nat → Nat → Int32) → (Nat → Value) → (List (Nat × Nat)) → (Nat → Nat → Int32)) (y1 : Int32) (y2 : Value) (y3 : Value) (y4 : Value) (y5 : Int32) (z0 : Value) (z1 : Int32) (I : Nat → Nat → Int32) (B : Nat → Value) (E : List (Nat × Nat)) : (Nat → Nat → Int32) :=
  fMo_judge_234 r107 y1 y2 y3 y4 y5 z0 z1 (0 : Int32) I B E
def pMo_judge_233 (q107 : Int32 → Value → Value → Value → Int32 → (Nat → Nat → Int32) → (Nat → Value) → (List (Nat × Nat)) → Prop) (y1 : Int32) (y2 : Value) (y3 : Value) (y4 : Value) (y5 : Int32) (z0 : Value) (z1 : Int32) (I : Nat → Nat → Int32) (B : Nat → Value) (E : List (Nat × Nat)) : Prop :=
  pMo_judge_234 q107 y1 y2 y3 y4 y5 z0 z1 (0 : Int32) I B E
def fMo_judge_261 (r107 : Int32 → Value → Value → Value → Int32 → (Nat → Nat → Int32) → (Nat → Value) → (List (Nat × Nat)) → (Nat → Nat → Int32)) (y1 : Int32) (y2 : Value) (y3 : Value) (y4 : Value) (y5 : Int32) (z0 : Value) (z1 : Int32) (z2 : Int32) (I : Nat → Nat → Int32) (B : Nat → Value) (E : List (Nat × Nat)) : (Nat → Nat → Int32) :=
  fMo_judge_375 r107 y1 y2 y3 y4 y5 (pm_u I (pa z0) z1.toNatClampNeg (vp_nar .boolean z2)) B E
def pMo_judge_261 (q107 : Int32 → Value → Value → Value → Int32 → (Nat → Nat → Int32) → (Nat → Value) → (List (Nat × Nat)) → Prop) (y1 : Int32) (y2 : Value) (y3 : Value) (y4 : Value) (y5 : Int32) (z0 : Value) (z1 : Int32) (z2 : Int32) (I : Nat → Nat → Int32) (B : Nat → Value) (E : List (Nat × Nat)) : Prop :=
  (z0 = .ref (pa z0) ∧ (mk_K ++ E)[pa z0]? = some (3, 256) ∧ vp_in z1 256) ∧ (pMo_judge_375 q107 y1 y2 y3 y4 y5 (pm_u I (pa z0) z1.toNatClampNeg (vp_nar .boolean z2)) B E)
def fMo_judge_256 (r107 : Int32 → Value → Value → Value → Int32 → (Nat → Nat → Int32) → (Nat → Value) → (List (Nat × Nat)) → (Nat → Nat → Int32)) (y1 : Int32) (y2 : Value) (y3 : Value) (y4 : Value) (y5 : Int32) (z0 : Value) (z1 : Int32) (I : Nat → Nat → Int32) (B : Nat → Value) (E : List (Nat × Nat)) : (Nat → Nat → Int32) :=
  fMo_judge_261 r107 y1 y2 y3 y4 y5 z0 z1 (1 : Int32) I B E
def pMo_judge_256 (q107 : Int32 → Value → Value → Value → Int32 → (Nat → Nat → Int32) → (Nat → Value) → (List (Nat × Nat)) → Prop) (y1 : Int32) (y2 : Value) (y3 : Value) (y4 : Value) (y5 : Int32) (z0 : Value) (z1 : Int32) (I : Nat → Nat → Int32) (B : Nat → Value) (E : List (Nat × Nat)) : Prop :=
  pMo_judge_261 q107 y1 y2 y3 y4 y5 z0 z1 (1 : Int32) I B E
def fMo_judge_288 (r107 : Int32 → Value → Value → Value → Int32 → (Nat → Nat → Int32) → (Nat → Value) → (List (Nat × Nat)) → (Nat → Nat → Int32)) (y1 : Int32) (y2 : Value) (y3 : Value) (y4 : Value) (y5 : Int32) (z0 : Value) (z1 : Int32) (z2 : Int32) (I : Nat → Nat → Int32) (B : Nat → Value) (E : List (Nat × Nat)) : (Nat → Nat → Int32) :=
  fMo_judge_375 r107 y1 y2 y3 y4 y5 (pm_u I (pa z0) z1.toNatClampNeg (vp_nar .boolean z2)) B E
def pMo_judge_288 (q107 : Int32 → Value → Value → Value → Int32 → (Nat → Nat → Int32) → (Nat → Value) → (List (Nat × Nat)) → Prop) (y1 : Int32) (y2 : Value) (y3 : Value) (y4 : Value) (y5 : Int32) (z0 : Value) (z1 : Int32) (z2 : Int32) (I : Nat → Nat → Int32) (B : Nat → Value) (E : List (Nat × Nat)) : Prop :=
  (z0 = .ref (pa z0) ∧ (mk_K ++ E)[pa z0]? = some (3, 256) ∧ vp_in z1 256) ∧ (pMo_judge_375 q107 y1 y2 y3 y4 y5 (pm_u I (pa z0) z1.toNatClampNeg (vp_nar .boolean z2)) B E)
def fMo_judge_283 (r107 : Int32 → Value → Value → Value → Int32 → (Nat → Nat → Int32) → (Nat → Value) → (List (Nat × Nat)) → (Nat → Nat → Int32)) (y1 : Int32) (y2 : Value) (y3 : Value) (y4 : Value) (y5 : Int32) (z0 : Value) (z1 : Int32) (I : Nat → Nat → Int32) (B : Nat → Value) (E : List (Nat × Nat)) : (Nat → Nat → Int32) :=
  fMo_judge_288 r107 y1 y2 y3 y4 y5 z0 z1 (1 : Int32) I B E
def pMo_judge_283 (q107 : Int32 → Value → Value → Value → Int32 → (Nat → Nat → Int32) → (Nat → Value) → (List (Nat × Nat)) → Prop) (y1 : Int32) (y2 : Value) (y3 : Value) (y4 : Value) (y5 : Int32) (z0 : Value) (z1 : Int32) (I : Nat → Nat → Int32) (B : Nat → Value) (E : List (Nat × Nat)) : Prop :=
  pMo_judge_288 q107 y1 y2 y3 y4 y5 z0 z1 (1 : Int32) I B E
def fMo_judge_337 (r107 : Int32 → Value → Value → Value → Int32 → (Nat → Nat → Int32) → (Nat → Value) → (List (Nat × Nat)) → (Nat → Nat → Int32)) (y1 : Int32) (y2 : Value) (y3 : Value) (y4 : Value) (y5 : Int32) (z0 : Value) (z1 : Int32) (z2 : Int32) (I : Nat → Nat → Int32) (B : Nat → Value) (E : List (Nat × Nat)) : (Nat → Nat → Int32) :=
  fMo_judge_375 r107 y1 y2 y3 y4 y5 (pm_u I (pa z0) z1.toNatClampNeg (vp_nar .boolean z2)) B E
def pMo_judge_337 (q107 : Int32 → Value → Value → Value → Int32 → (Nat → Nat → Int32) → (Nat → Value) → (List (Nat × Nat)) → Prop) (y1 : Int32) (y2 : Value) (y3 : Value) (y4 : Value) (y5 : Int32) (z0 : Value) (z1 : Int32) (z2 : Int32) (I : Nat → Nat → Int32) (B : Nat → Value) (E : List (Nat × Nat)) : Prop :=
  (z0 = .ref (pa z0) ∧ (mk_K ++ E)[pa z0]? = some (3, 256) ∧ vp_in z1 256) ∧ (pMo_judge_375 q107 y1 y2 y3 y4 y5 (pm_u I (pa z0) z1.toNatClampNeg (vp_nar .boolean z2)) B E)
def fMo_judge_107  : Nat → Int32 → Value → Value → Value → Int32 → (Nat → Nat → Int32) → (Nat → Value) → List (Nat × Nat) → (Nat → Nat → Int32)
  | 0, _, _, _, _, _, I, _, _ => I
  | n + 1, y1, y2, y3, y4, y5, I, B, E =>
  if ((fMo_all I)) ≤ y5 then if (I 57 y1.toNatClampNeg) < (6 : Int32) then I
    else if (11 : Int32) < (I 57 y1.toNatClampNeg) then I
      else (fMo_fixed 66000 66000 y1 y2 y3 y4 I B E)
  else if (I 57 y1.toNatClampNeg) = 0 then if (I (pa y3) y5.toNatClampNeg) = 0 then fMo_judge_207 (fMo_judge_107 n) y1 y2 y3 y4 y5 y2 y5 (1 : Int32) I B E
      else fMo_judge_207 (fMo_judge_107 n) y1 y2 y3 y4 y5 y2 y5 (0 : Int32) I B E
    else if (I 57 y1.toNatClampNeg) = 1 then if (I (pa y3) y5.toNatClampNeg) = 0 then fMo_judge_233 (fMo_judge_107 n) y1 y2 y3 y4 y5 y2 y5 I B E
      else if (I (pa y4) y5.toNatClampNeg) = 0 then fMo_judge_233 (fMo_judge_107 n) y1 y2 y3 y4 y5 y2 y5 I B E
        else fMo_judge_234 (fMo_judge_107 n) y1 y2 y3 y4 y5 y2 y5 (1 : Int32) I B E
    else if (I 57 y1.toNatClampNeg) = 2 then if (I (pa y3) y5.toNatClampNeg) = 0 then if (I (pa y4) y5.toNatClampNeg) = 0 then fMo_judge_261 (fMo_judge_107 n) y1 y2 y3 y4 y5 y2 y5 (0 : Int32) I B E
        else fMo_judge_256 (fMo_judge_107 n) y1 y2 y3 y4 y5 y2 y5 I B E
      else fMo_judge_256 (fMo_judge_107 n) y1 y2 y3 y4 y5 y2 y5 I B E
    else if (I 57 y1.toNatClampNeg) = 3 then if (I (pa y3) y5.toNatClampNeg) = 0 then fMo_judge_283 (fMo_judge_107 n) y1 y2 y3 y4 y5 y2 y5 I B E
      else if (I (pa y4) y5.toNatClampNeg) = 0 then fMo_judge_288 (fMo_judge_107 n) y1 y2 y3 y4 y5 y2 y5 (0 : Int32) I B E
        else fMo_judge_283 (fMo_judge_107 n) y1 y2 y3 y4 y5 y2 y5 I B E
    else if (I 57 y1.toNatClampNeg) = 4 then fMo_judge_375 (fMo_judge_107 n) y1 y2 y3 y4 y5 (pm_u I (pa y2) y5.toNatClampNeg (vp_nar .boolean ((fMo_next2 9 y3 y5 (0 : Int32) I B E)))) B E
    else if (I 57 y1.toNatClampNeg) = 5 then fMo_judge_375 (fMo_judge_107 n) y1 y2 y3 y4 y5 (pm_u I (pa y2) y5.toNatClampNeg (vp_nar .boolean ((fMo_next2 9 y3 y5 (1 : Int32) I B E)))) B E
    else if (I 57 y1.toNatClampNeg) = 6 then fMo_judge_375 (fMo_judge_107 n) y1 y2 y3 y4 y5 (pm_u I (pa y2) y5.toNatClampNeg (vp_nar .boolean (0 : Int32))) B E
    else if (I 57 y1.toNatClampNeg) = 7 then fMo_judge_375 (fMo_judge_107 n) y1 y2 y3 y4 y5 (pm_u I (pa y2) y5.toNatClampNeg (vp_nar .boolean (0 : Int32))) B E
    else if (I 57 y1.toNatClampNeg) = 8 then fMo_judge_375 (fMo_judge_107 n) y1 y2 y3 y4 y5 (pm_u I (pa y2) y5.toNatClampNeg (vp_nar .boolean (0 : Int32))) B E
    else if (I 57 y1.toNatClampNeg) = 9 then fMo_judge_375 (fMo_judge_107 n) y1 y2 y3 y4 y5 (pm_u I (pa y2) y5.toNatClampNeg (vp_nar .boolean (0 : Int32))) B E
    else if (I 57 y1.toNatClampNeg) = 10 then fMo_judge_375 (fMo_judge_107 n) y1 y2 y3 y4 y5 (pm_u I (pa y2) y5.toNatClampNeg (vp_nar .boolean (1 : Int32))) B E
    else if (I 57 y1.toNatClampNeg) = 11 then fMo_judge_375 (fMo_judge_107 n) y1 y2 y3 y4 y5 (pm_u I (pa y2) y5.toNatClampNeg (vp_nar .boolean (1 : Int32))) B E
    else if (I 57 y1.toNatClampNeg) = 12 then fMo_judge_337 (fMo_judge_107 n) y1 y2 y3 y4 y5 y2 y5 ((fMo_always 9 (I 58 y1.toNatClampNeg) y5 I).1) ((fMo_always 9 (I 58 y1.toNatClampNeg) y5 I).2) B E
    else if (I 57 y1.toNatClampNeg) = 13 then fMo_judge_375 (fMo_judge_107 n) y1 y2 y3 y4 y5 (pm_u I (pa y2) y5.toNatClampNeg (vp_nar .boolean (I (323 + (I 58 y1.toNatClampNeg).toNatClampNeg) y5.toNatClampNeg))) B E
    else fMo_judge_375 (fMo_judge_107 n) y1 y2 y3 y4 y5 (pm_u I (pa y2) y5.toNatClampNeg (vp_nar .boolean (0 : Int32))) B E
def pMo_judge_107  : Nat → Int32 → Value → Value → Value → Int32 → (Nat → Nat → Int32) → (Nat → Value) → List (Nat × Nat) → Prop
  | 0, _, _, _, _, _, _, _, _ => False
  | n + 1, y1, y2, y3, y4, y5, I, B, E =>
  (pMo_all I) ∧ ((((fMo_all I)) ≤ y5 → (vp_in y1 4200) ∧ (((I 57 y1.toNatClampNeg) < (6 : Int32) → True) ∧
    (¬ ((I 57 y1.toNatClampNeg) < (6 : Int32)) → (vp_in y1 4200) ∧ (((11 : Int32) < (I 57 y1.toNatClampNeg) → True) ∧
      (¬ ((11 : Int32) < (I 57 y1.toNatClampNeg)) → (pv y2) ∧ ((pv y3) ∧ ((pv y4) ∧ ((pMo_fixed 66000 66000 y1 y2 y3 y4 I B E) ∧ True)))))))) ∧
  (¬ (((fMo_all I)) ≤ y5) → (vp_in y1 4200) ∧ (((I 57 y1.toNatClampNeg) = 0 → (pv y2) ∧ ((pv y3) ∧ ((y3 = .ref (pa y3) ∧ (mk_K ++ E)[pa y3]? = some (3, 256) ∧ vp_in y5 256) ∧ (((I (pa y3) y5.toNatClampNeg) = 0 → pMo_judge_207 (pMo_judge_107 n) y1 y2 y3 y4 y5 y2 y5 (1 : Int32) I B E) ∧
      (¬ ((I (pa y3) y5.toNatClampNeg) = 0) → pMo_judge_207 (pMo_judge_107 n) y1 y2 y3 y4 y5 y2 y5 (0 : Int32) I B E))))) ∧
    (¬ ((I 57 y1.toNatClampNeg) = 0) → ((I 57 y1.toNatClampNeg) = 1 → (pv y2) ∧ ((pv y3) ∧ ((y3 = .ref (pa y3) ∧ (mk_K ++ E)[pa y3]? = some (3, 256) ∧ vp_in y5 256) ∧ (((I (pa y3) y5.toNatClampNeg) = 0 → pMo_judge_233 (pMo_judge_107 n) y1 y2 y3 y4 y5 y2 y5 I B E) ∧
      (¬ ((I (pa y3) y5.toNatClampNeg) = 0) → (pv y4) ∧ ((y4 = .ref (pa y4) ∧ (mk_K ++ E)[pa y4]? = some (3, 256) ∧ vp_in y5 256) ∧ (((I (pa y4) y5.toNatClampNeg) = 0 → pMo_judge_233 (pMo_judge_107 n) y1 y2 y3 y4 y5 y2 y5 I B E) ∧
        (¬ ((I (pa y4) y5.toNatClampNeg) = 0) → pMo_judge_234 (pMo_judge_107 n) y1 y2 y3 y4 y5 y2 y5 (1 : Int32) I B E)))))))) ∧
    (¬ ((I 57 y1.toNatClampNeg) = 1) → ((I 57 y1.toNatClampNeg) = 2 → (pv y2) ∧ ((pv y3) ∧ ((y3 = .ref (pa y3) ∧ (mk_K ++ E)[pa y3]? = some (3, 256) ∧ vp_in y5 256) ∧ (((I (pa y3) y5.toNatClampNeg) = 0 → (pv y4) ∧ ((y4 = .ref (pa y4) ∧ (mk_K ++ E)[pa y4]? = some (3, 256) ∧ vp_in y5 256) ∧ (((I (pa y4) y5.toNatClampNeg) = 0 → pMo_judge_261 (pMo_judge_107 n) y1 y2 y3 y4 y5 y2 y5 (0 : Int32) I B E) ∧
        (¬ ((I (pa y4) y5.toNatClampNeg) = 0) → pMo_judge_256 (pMo_judge_107 n) y1 y2 y3 y4 y5 y2 y5 I B E)))) ∧
      (¬ ((I (pa y3) y5.toNatClampNeg) = 0) → pMo_judge_256 (pMo_judge_107 n) y1 y2 y3 y4 y5 y2 y5 I B E))))) ∧
    (¬ ((I 57 y1.toNatClampNeg) = 2) → ((I 57 y1.toNatClampNeg) = 3 → (pv y2) ∧ ((pv y3) ∧ ((y3 = .ref (pa y3) ∧ (mk_K ++ E)[pa y3]? = some (3, 256) ∧ vp_in y5 256) ∧ (((I (pa y3) y5.toNatClampNeg) = 0 → pMo_judge_283 (pMo_judge_107 n) y1 y2 y3 y4 y5 y2 y5 I B E) ∧
      (¬ ((I (pa y3) y5.toNatClampNeg) = 0) → (pv y4) ∧ ((y4 = .ref (pa y4) ∧ (mk_K ++ E)[pa y4]? = some (3, 256) ∧ vp_in y5 256) ∧ (((I (pa y4) y5.toNatClampNeg) = 0 → pMo_judge_288 (pMo_judge_107 n) y1 y2 y3 y4 y5 y2 y5 (0 : Int32) I B E) ∧
        (¬ ((I (pa y4) y5.toNatClampNeg) = 0) → pMo_judge_283 (pMo_judge_107 n) y1 y2 y3 y4 y5 y2 y5 I B E)))))))) ∧
    (¬ ((I 57 y1.toNatClampNeg) = 3) → ((I 57 y1.toNatClampNeg) = 4 → (pv y2) ∧ ((pv y3) ∧ ((pv y2) ∧ ((pMo_next2 9 y3 y5 (0 : Int32) I B E) ∧ ((y2 = .ref (pa y2) ∧ (mk_K ++ E)[pa y2]? = some (3, 256) ∧ vp_in y5 256) ∧ (pMo_judge_375 (pMo_judge_107 n) y1 y2 y3 y4 y5 (pm_u I (pa y2) y5.toNatClampNeg (vp_nar .boolean ((fMo_next2 9 y3 y5 (0 : Int32) I B E)))) B E)))))) ∧
    (¬ ((I 57 y1.toNatClampNeg) = 4) → ((I 57 y1.toNatClampNeg) = 5 → (pv y2) ∧ ((pv y3) ∧ ((pv y2) ∧ ((pMo_next2 9 y3 y5 (1 : Int32) I B E) ∧ ((y2 = .ref (pa y2) ∧ (mk_K ++ E)[pa y2]? = some (3, 256) ∧ vp_in y5 256) ∧ (pMo_judge_375 (pMo_judge_107 n) y1 y2 y3 y4 y5 (pm_u I (pa y2) y5.toNatClampNeg (vp_nar .boolean ((fMo_next2 9 y3 y5 (1 : Int32) I B E)))) B E)))))) ∧
    (¬ ((I 57 y1.toNatClampNeg) = 5) → ((I 57 y1.toNatClampNeg) = 6 → (pv y2) ∧ ((y2 = .ref (pa y2) ∧ (mk_K ++ E)[pa y2]? = some (3, 256) ∧ vp_in y5 256) ∧ (pMo_judge_375 (pMo_judge_107 n) y1 y2 y3 y4 y5 (pm_u I (pa y2) y5.toNatClampNeg (vp_nar .boolean (0 : Int32))) B E))) ∧
    (¬ ((I 57 y1.toNatClampNeg) = 6) → ((I 57 y1.toNatClampNeg) = 7 → (pv y2) ∧ ((y2 = .ref (pa y2) ∧ (mk_K ++ E)[pa y2]? = some (3, 256) ∧ vp_in y5 256) ∧ (pMo_judge_375 (pMo_judge_107 n) y1 y2 y3 y4 y5 (pm_u I (pa y2) y5.toNatClampNeg (vp_nar .boolean (0 : Int32))) B E))) ∧
    (¬ ((I 57 y1.toNatClampNeg) = 7) → ((I 57 y1.toNatClampNeg) = 8 → (pv y2) ∧ ((y2 = .ref (pa y2) ∧ (mk_K ++ E)[pa y2]? = some (3, 256) ∧ vp_in y5 256) ∧ (pMo_judge_375 (pMo_judge_107 n) y1 y2 y3 y4 y5 (pm_u I (pa y2) y5.toNatClampNeg (vp_nar .boolean (0 : Int32))) B E))) ∧
    (¬ ((I 57 y1.toNatClampNeg) = 8) → ((I 57 y1.toNatClampNeg) = 9 → (pv y2) ∧ ((y2 = .ref (pa y2) ∧ (mk_K ++ E)[pa y2]? = some (3, 256) ∧ vp_in y5 256) ∧ (pMo_judge_375 (pMo_judge_107 n) y1 y2 y3 y4 y5 (pm_u I (pa y2) y5.toNatClampNeg (vp_nar .boolean (0 : Int32))) B E))) ∧
    (¬ ((I 57 y1.toNatClampNeg) = 9) → ((I 57 y1.toNatClampNeg) = 10 → (pv y2) ∧ ((y2 = .ref (pa y2) ∧ (mk_K ++ E)[pa y2]? = some (3, 256) ∧ vp_in y5 256) ∧ (pMo_judge_375 (pMo_judge_107 n) y1 y2 y3 y4 y5 (pm_u I (pa y2) y5.toNatClampNeg (vp_nar .boolean (1 : Int32))) B E))) ∧
    (¬ ((I 57 y1.toNatClampNeg) = 10) → ((I 57 y1.toNatClampNeg) = 11 → (pv y2) ∧ ((y2 = .ref (pa y2) ∧ (mk_K ++ E)[pa y2]? = some (3, 256) ∧ vp_in y5 256) ∧ (pMo_judge_375 (pMo_judge_107 n) y1 y2 y3 y4 y5 (pm_u I (pa y2) y5.toNatClampNeg (vp_nar .boolean (1 : Int32))) B E))) ∧
    (¬ ((I 57 y1.toNatClampNeg) = 11) → ((I 57 y1.toNatClampNeg) = 12 → (pv y2) ∧ ((vp_in y1 4200) ∧ ((pv y2) ∧ ((pMo_always 9 (I 58 y1.toNatClampNeg) y5 I) ∧ (pMo_judge_337 (pMo_judge_107 n) y1 y2 y3 y4 y5 y2 y5 ((fMo_always 9 (I 58 y1.toNatClampNeg) y5 I).1) ((fMo_always 9 (I 58 y1.toNatClampNeg) y5 I).2) B E))))) ∧
    (¬ ((I 57 y1.toNatClampNeg) = 12) → ((I 57 y1.toNatClampNeg) = 13 → (pv y2) ∧ ((vp_in y1 4200) ∧ ((vp_in (I 58 y1.toNatClampNeg) 30) ∧ ((vp_in y5 256) ∧ ((y2 = .ref (pa y2) ∧ (mk_K ++ E)[pa y2]? = some (3, 256) ∧ vp_in y5 256) ∧ (pMo_judge_375 (pMo_judge_107 n) y1 y2 y3 y4 y5 (pm_u I (pa y2) y5.toNatClampNeg (vp_nar .boolean (I (323 + (I 58 y1.toNatClampNeg).toNatClampNeg) y5.toNatClampNeg))) B E)))))) ∧
    (¬ ((I 57 y1.toNatClampNeg) = 13) → (pv y2) ∧ ((y2 = .ref (pa y2) ∧ (mk_K ++ E)[pa y2]? = some (3, 256) ∧ vp_in y5 256) ∧ (pMo_judge_375 (pMo_judge_107 n) y1 y2 y3 y4 y5 (pm_u I (pa y2) y5.toNatClampNeg (vp_nar .boolean (0 : Int32))) B E)))))))))))))))))))
def fMo_judge_102 (n107 : Nat) (y1 : Int32) (y2 : Value) (y3 : Value) (z0 : Value) (I : Nat → Nat → Int32) (B : Nat → Value) (E : List (Nat × Nat)) : (Nat → Nat → Int32) :=
  fMo_judge_107 n107 y1 y2 y3 z0 (0 : Int32) I B E
def pMo_judge_102 (n107 : Nat) (y1 : Int32) (y2 : Value) (y3 : Value) (z0 : Value) (I : Nat → Nat → Int32) (B : Nat → Value) (E : List (Nat × Nat)) : Prop :=
  (pv z0 ∧ pv y3) ∧ ((pv z0) ∧ (pMo_judge_107 n107 y1 y2 y3 z0 (0 : Int32) I B E))
def fMo_judge_87 (n107 : Nat) (y1 : Int32) (y2 : Value) (y3 : Value) (I : Nat → Nat → Int32) (B : Nat → Value) (E : List (Nat × Nat)) : (Nat → Nat → Int32) :=
  fMo_judge_102 n107 y1 y2 y3 (B (I 59 y1.toNatClampNeg).toNatClampNeg) I B E
def pMo_judge_87 (n107 : Nat) (y1 : Int32) (y2 : Value) (y3 : Value) (I : Nat → Nat → Int32) (B : Nat → Value) (E : List (Nat × Nat)) : Prop :=
  (vp_in y1 4200) ∧ ((vp_in (I 59 y1.toNatClampNeg) 4200 ∧ pv (B (I 59 y1.toNatClampNeg).toNatClampNeg)) ∧ (pMo_judge_102 n107 y1 y2 y3 (B (I 59 y1.toNatClampNeg).toNatClampNeg) I B E))
def fMo_judge_65 (n107 : Nat) (y1 : Int32) (y2 : Value) (y3 : Value) (I : Nat → Nat → Int32) (B : Nat → Value) (E : List (Nat × Nat)) : (Nat → Nat → Int32) :=
  if (I 57 y1.toNatClampNeg) = (6 : Int32) then fMo_judge_87 n107 y1 y2 y3 I B E
  else if (I 57 y1.toNatClampNeg) = (7 : Int32) then fMo_judge_87 n107 y1 y2 y3 I B E
    else fMo_judge_102 n107 y1 y2 y3 Value.null I B E
def pMo_judge_65 (n107 : Nat) (y1 : Int32) (y2 : Value) (y3 : Value) (I : Nat → Nat → Int32) (B : Nat → Value) (E : List (Nat × Nat)) : Prop :=
  (vp_in y1 4200) ∧ (((I 57 y1.toNatClampNeg) = (6 : Int32) → pMo_judge_87 n107 y1 y2 y3 I B E) ∧
  (¬ ((I 57 y1.toNatClampNeg) = (6 : Int32)) → (vp_in y1 4200) ∧ (((I 57 y1.toNatClampNeg) = (7 : Int32) → pMo_judge_87 n107 y1 y2 y3 I B E) ∧
    (¬ ((I 57 y1.toNatClampNeg) = (7 : Int32)) → pMo_judge_102 n107 y1 y2 y3 Value.null I B E))))
def fMo_judge_44 (n107 : Nat) (y1 : Int32) (y2 : Value) (z0 : Value) (I : Nat → Nat → Int32) (B : Nat → Value) (E : List (Nat × Nat)) : (Nat → Nat → Int32) :=
  if (I 57 y1.toNatClampNeg) < (1 : Int32) then fMo_judge_65 n107 y1 y2 z0 I B E
  else if (I 57 y1.toNatClampNeg) ≤ (3 : Int32) then fMo_judge_87 n107 y1 y2 z0 I B E
    else fMo_judge_65 n107 y1 y2 z0 I B E
def pMo_judge_44 (n107 : Nat) (y1 : Int32) (y2 : Value) (z0 : Value) (I : Nat → Nat → Int32) (B : Nat → Value) (E : List (Nat × Nat)) : Prop :=
  (pv z0 ∧ pv y2) ∧ ((vp_in y1 4200) ∧ (((I 57 y1.toNatClampNeg) < (1 : Int32) → pMo_judge_65 n107 y1 y2 z0 I B E) ∧
  (¬ ((I 57 y1.toNatClampNeg) < (1 : Int32)) → (vp_in y1 4200) ∧ (((I 57 y1.toNatClampNeg) ≤ (3 : Int32) → pMo_judge_87 n107 y1 y2 z0 I B E) ∧
    (¬ ((I 57 y1.toNatClampNeg) ≤ (3 : Int32)) → pMo_judge_65 n107 y1 y2 z0 I B E)))))
def fMo_judge_29 (n107 : Nat) (y1 : Int32) (y2 : Value) (I : Nat → Nat → Int32) (B : Nat → Value) (E : List (Nat × Nat)) : (Nat → Nat → Int32) :=
  fMo_judge_44 n107 y1 y2 Value.null I B E
def pMo_judge_29 (n107 : Nat) (y1 : Int32) (y2 : Value) (I : Nat → Nat → Int32) (B : Nat → Value) (E : List (Nat × Nat)) : Prop :=
  pMo_judge_44 n107 y1 y2 Value.null I B E
def fMo_judge (n107 : Nat) (y1 : Int32) (I : Nat → Nat → Int32) (B : Nat → Value) (E : List (Nat × Nat)) : (Nat → Nat → Int32) :=
  if (I 57 y1.toNatClampNeg) = (12 : Int32) then fMo_judge_29 n107 y1 (B y1.toNatClampNeg) I B E
  else if (I 57 y1.toNatClampNeg) = (13 : Int32) then fMo_judge_29 n107 y1 (B y1.toNatClampNeg) I B E
    else fMo_judge_44 n107 y1 (B y1.toNatClampNeg) (B (I 58 y1.toNatClampNeg).toNatClampNeg) I B E
def pMo_judge (n107 : Nat) (y1 : Int32) (I : Nat → Nat → Int32) (B : Nat → Value) (E : List (Nat × Nat)) : Prop :=
  (vp_in y1 4200 ∧ pv (B y1.toNatClampNeg)) ∧ ((pv (B y1.toNatClampNeg)) ∧ ((vp_in y1 4200) ∧ (((I 57 y1.toNatClampNeg) = (12 : Int32) → pMo_judge_29 n107 y1 (B y1.toNatClampNeg) I B E) ∧
  (¬ ((I 57 y1.toNatClampNeg) = (12 : Int32)) → (vp_in y1 4200) ∧ (((I 57 y1.toNatClampNeg) = (13 : Int32) → pMo_judge_29 n107 y1 (B y1.toNatClampNeg) I B E) ∧
    (¬ ((I 57 y1.toNatClampNeg) = (13 : Int32)) → (vp_in y1 4200) ∧ ((vp_in (I 58 y1.toNatClampNeg) 4200 ∧ pv (B (I 58 y1.toNatClampNeg).toNatClampNeg)) ∧ (pMo_judge_44 n107 y1 (B y1.toNatClampNeg) (B (I 58 y1.toNatClampNeg).toNatClampNeg) I B E))))))))
set_option maxHeartbeats 4000000 in
set_option maxRecDepth 100000 in
theorem Mo_judge_n375 (g : pmG) (d : Nat) (R : Nat → Nat → Value) (hR : mk_R R) (J : Nat → Nat → Int64) (o : Outcome) (Z : pmM) (r107 : Int32 → Value → Value → Value → Int32 → (Nat → Nat → Int32) → (Nat → Value) → (List (Nat × Nat)) → (Nat → Nat → Int32)) (q107 : Int32 → Value → Value → Value → Int32 → (Nat → Nat → Int32) → (Nat → Value) → (List (Nat × Nat)) → Prop) (ih107 : ∀ (y1 : Int32) (y2 : Value) (y3 : Value) (y4 : Value) (y5 : Int32) (I : Nat → Nat → Int32) (B : Nat → Value) (E : List (Nat × Nat)), q107 y1 y2 y3 y4 y5 I B E → o = .returned none → Z = (mk_K ++ E, mk_B R B, (r107 y1 y2 y3 y4 y5 I B E), J) → pmE g kMo_judge (d + 606) 0 0 107 [(0, .ref 40), (1, .int y1), (2, y2), (3, y3), (4, y4), (5, .int y5)] [] (mk_K ++ E) (mk_B R B) I J o Z)  (y1 : Int32) (y2 : Value) (y3 : Value) (y4 : Value) (y5 : Int32) (I : Nat → Nat → Int32) (B : Nat → Value) (E : List (Nat × Nat)) (hp : pMo_judge_375 q107 y1 y2 y3 y4 y5 I B E) (ho : o = .returned none) (hz : Z = (mk_K ++ E, mk_B R B, (fMo_judge_375 r107 y1 y2 y3 y4 y5 I B E), J)) : pmE g kMo_judge (d + 606) 0 0 375 [(0, .ref 40), (1, .int y1), (2, y2), (3, y3), (4, y4), (5, .int y5)] [] (mk_K ++ E) (mk_B R B) I J o Z := by
  unfold pMo_judge_375 at hp
  refine pm_iinc dMo_judge_375 rfl (by decide) (pm_stv rfl hp.1) ?_
  refine pm_goto 107 dMo_judge_378 (by decide) ?_
  refine pm_wk [1, 2, 3, 4, 5, 0] rfl ?_
  exact ih107 _ _ _ _ _ _ _ _ hp.2 ho (hz.trans (by first | (simp only [fMo_judge_375]; done) | (simp only [fMo_judge_375]; with_reducible rfl) | with_reducible rfl))
set_option maxHeartbeats 4000000 in
set_option maxRecDepth 100000 in
theorem Mo_judge_n207 (g : pmG) (d : Nat) (R : Nat → Nat → Value) (hR : mk_R R) (J : Nat → Nat → Int64) (o : Outcome) (Z : pmM) (r107 : Int32 → Value → Value → Value → Int32 → (Nat → Nat → Int32) → (Nat → Value) → (List (Nat × Nat)) → (Nat → Nat → Int32)) (q107 : Int32 → Value → Value → Value → Int32 → (Nat → Nat → Int32) → (Nat → Value) → (List (Nat × Nat)) → Prop) (ih107 : ∀ (y1 : Int32) (y2 : Value) (y3 : Value) (y4 : Value) (y5 : Int32) (I : Nat → Nat → Int32) (B : Nat → Value) (E : List (Nat × Nat)), q107 y1 y2 y3 y4 y5 I B E → o = .returned none → Z = (mk_K ++ E, mk_B R B, (r107 y1 y2 y3 y4 y5 I B E), J) → pmE g kMo_judge (d + 606) 0 0 107 [(0, .ref 40), (1, .int y1), (2, y2), (3, y3), (4, y4), (5, .int y5)] [] (mk_K ++ E) (mk_B R B) I J o Z)  (y1 : Int32) (y2 : Value) (y3 : Value) (y4 : Value) (y5 : Int32) (z0 : Value) (z1 : Int32) (z2 : Int32) (I : Nat → Nat → Int32) (B : Nat → Value) (E : List (Nat × Nat)) (hp : pMo_judge_207 q107 y1 y2 y3 y4 y5 z0 z1 z2 I B E) (ho : o = .returned none) (hz : Z = (mk_K ++ E, mk_B R B, (fMo_judge_207 r107 y1 y2 y3 y4 y5 z0 z1 z2 I B E), J)) : pmE g kMo_judge (d + 606) 0 0 207 [(0, .ref 40), (1, .int y1), (2, y2), (3, y3), (4, y4), (5, .int y5)] [.int z2, .int z1, z0] (mk_K ++ E) (mk_B R B) I J o Z := by
  unfold pMo_judge_207 at hp
  refine pm_vzast dMo_judge_207 hp.1.1 hp.1.2.1 hp.1.2.2 ?_
  refine pm_goto 375 dMo_judge_208 (by decide) ?_
  refine pm_wk [0, 1, 2, 3, 4, 5] rfl ?_
  exact Mo_judge_n375 g d R hR J _ _ r107 q107 ih107  _ _ _ _ _ _ _ _ hp.2 ho (hz.trans (by first | (simp only [fMo_judge_207]; done) | (simp only [fMo_judge_207]; with_reducible rfl) | with_reducible rfl))
set_option maxHeartbeats 4000000 in
set_option maxRecDepth 100000 in
theorem Mo_judge_n234 (g : pmG) (d : Nat) (R : Nat → Nat → Value) (hR : mk_R R) (J : Nat → Nat → Int64) (o : Outcome) (Z : pmM) (r107 : Int32 → Value → Value → Value → Int32 → (Nat → Nat → Int32) → (Nat → Value) → (List (Nat × Nat)) → (Nat → Nat → Int32)) (q107 : Int32 → Value → Value → Value → Int32 → (Nat → Nat → Int32) → (Nat → Value) → (List (Nat × Nat)) → Prop) (ih107 : ∀ (y1 : Int32) (y2 : Value) (y3 : Value) (y4 : Value) (y5 : Int32) (I : Nat → Nat → Int32) (B : Nat → Value) (E : List (Nat × Nat)), q107 y1 y2 y3 y4 y5 I B E → o = .returned none → Z = (mk_K ++ E, mk_B R B, (r107 y1 y2 y3 y4 y5 I B E), J) → pmE g kMo_judge (d + 606) 0 0 107 [(0, .ref 40), (1, .int y1), (2, y2), (3, y3), (4, y4), (5, .int y5)] [] (mk_K ++ E) (mk_B R B) I J o Z)  (y1 : Int32) (y2 : Value) (y3 : Value) (y4 : Value) (y5 : Int32) (z0 : Value) (z1 : Int32) (z2 : Int32) (I : Nat → Nat → Int32) (B : Nat → Value) (E : List (Nat × Nat)) (hp : pMo_judge_234 q107 y1 y2 y3 y4 y5 z0 z1 z2 I B E) (ho : o = .returned none) (hz : Z = (mk_K ++ E, mk_B R B, (fMo_judge_234 r107 y1 y2 y3 y4 y5 z0 z1 z2 I B E), J)) : pmE g kMo_judge (d + 606) 0 0 234 [(0, .ref 40), (1, .int y1), (2, y2), (3, y3), (4, y4), (5, .int y5)] [.int z2, .int z1, z0] (mk_K ++ E) (mk_B R B) I J o Z := by
  unfold pMo_judge_234 at hp
  refine pm_vzast dMo_judge_234 hp.1.1 hp.1.2.1 hp.1.2.2 ?_
  refine pm_goto 375 dMo_judge_235 (by decide) ?_
  refine pm_wk [0, 1, 2, 3, 4, 5] rfl ?_
  exact Mo_judge_n375 g d R hR J _ _ r107 q107 ih107  _ _ _ _ _ _ _ _ hp.2 ho (hz.trans (by first | (simp only [fMo_judge_234]; done) | (simp only [fMo_judge_234]; with_reducible rfl) | with_reducible rfl))
set_option maxHeartbeats 4000000 in
set_option maxRecDepth 100000 in
theorem Mo_judge_n233 (g : pmG) (d : Nat) (R : Nat → Nat → Value) (hR : mk_R R) (J : Nat → Nat → Int64) (o : Outcome) (Z : pmM) (r107 : Int32 → Value → Value → Value → Int32 → (Nat → Nat → Int32) → (Nat → Value) → (List (Nat × Nat)) → (Nat → Nat → Int32)) (q107 : Int32 → Value → Value → Value → Int32 → (Nat → Nat → Int32) → (Nat → Value) → (List (Nat × Nat)) → Prop) (ih107 : ∀ (y1 : Int32) (y2 : Value) (y3 : Value) (y4 : Value) (y5 : Int32) (I : Nat → Nat → Int32) (B : Nat → Value) (E : List (Nat × Nat)), q107 y1 y2 y3 y4 y5 I B E → o = .returned none → Z = (mk_K ++ E, mk_B R B, (r107 y1 y2 y3 y4 y5 I B E), J) → pmE g kMo_judge (d + 606) 0 0 107 [(0, .ref 40), (1, .int y1), (2, y2), (3, y3), (4, y4), (5, .int y5)] [] (mk_K ++ E) (mk_B R B) I J o Z)  (y1 : Int32) (y2 : Value) (y3 : Value) (y4 : Value) (y5 : Int32) (z0 : Value) (z1 : Int32) (I : Nat → Nat → Int32) (B : Nat → Value) (E : List (Nat × Nat)) (hp : pMo_judge_233 q107 y1 y2 y3 y4 y5 z0 z1 I B E) (ho : o = .returned none) (hz : Z = (mk_K ++ E, mk_B R B, (fMo_judge_233 r107 y1 y2 y3 y4 y5 z0 z1 I B E), J)) : pmE g kMo_judge (d + 606) 0 0 233 [(0, .ref 40), (1, .int y1), (2, y2), (3, y3), (4, y4), (5, .int y5)] [.int z1, z0] (mk_K ++ E) (mk_B R B) I J o Z := by
  unfold pMo_judge_233 at hp
  refine pm_iconst (v := 0) dMo_judge_233 (by decide) ?_
  refine pm_wk [0, 1, 2, 3, 4, 5] rfl ?_
  exact Mo_judge_n234 g d R hR J _ _ r107 q107 ih107  _ _ _ _ _ _ _ _ _ _ _ hp ho (hz.trans (by first | (simp only [fMo_judge_233]; done) | (simp only [fMo_judge_233]; with_reducible rfl) | with_reducible rfl))
set_option maxHeartbeats 4000000 in
set_option maxRecDepth 100000 in
theorem Mo_judge_n261 (g : pmG) (d : Nat) (R : Nat → Nat → Value) (hR : mk_R R) (J : Nat → Nat → Int64) (o : Outcome) (Z : pmM) (r107 : Int32 → Value → Value → Value → Int32 → (Nat → Nat → Int32) → (Nat → Value) → (List (Nat × Nat)) → (Nat → Nat → Int32)) (q107 : Int32 → Value → Value → Value → Int32 → (Nat → Nat → Int32) → (Nat → Value) → (List (Nat × Nat)) → Prop) (ih107 : ∀ (y1 : Int32) (y2 : Value) (y3 : Value) (y4 : Value) (y5 : Int32) (I : Nat → Nat → Int32) (B : Nat → Value) (E : List (Nat × Nat)), q107 y1 y2 y3 y4 y5 I B E → o = .returned none → Z = (mk_K ++ E, mk_B R B, (r107 y1 y2 y3 y4 y5 I B E), J) → pmE g kMo_judge (d + 606) 0 0 107 [(0, .ref 40), (1, .int y1), (2, y2), (3, y3), (4, y4), (5, .int y5)] [] (mk_K ++ E) (mk_B R B) I J o Z)  (y1 : Int32) (y2 : Value) (y3 : Value) (y4 : Value) (y5 : Int32) (z0 : Value) (z1 : Int32) (z2 : Int32) (I : Nat → Nat → Int32) (B : Nat → Value) (E : List (Nat × Nat)) (hp : pMo_judge_261 q107 y1 y2 y3 y4 y5 z0 z1 z2 I B E) (ho : o = .returned none) (hz : Z = (mk_K ++ E, mk_B R B, (fMo_judge_261 r107 y1 y2 y3 y4 y5 z0 z1 z2 I B E), J)) : pmE g kMo_judge (d + 606) 0 0 261 [(0, .ref 40), (1, .int y1), (2, y2), (3, y3), (4, y4), (5, .int y5)] [.int z2, .int z1, z0] (mk_K ++ E) (mk_B R B) I J o Z := by
  unfold pMo_judge_261 at hp
  refine pm_vzast dMo_judge_261 hp.1.1 hp.1.2.1 hp.1.2.2 ?_
  refine pm_goto 375 dMo_judge_262 (by decide) ?_
  refine pm_wk [0, 1, 2, 3, 4, 5] rfl ?_
  exact Mo_judge_n375 g d R hR J _ _ r107 q107 ih107  _ _ _ _ _ _ _ _ hp.2 ho (hz.trans (by first | (simp only [fMo_judge_261]; done) | (simp only [fMo_judge_261]; with_reducible rfl) | with_reducible rfl))
set_option maxHeartbeats 4000000 in
set_option maxRecDepth 100000 in
theorem Mo_judge_n256 (g : pmG) (d : Nat) (R : Nat → Nat → Value) (hR : mk_R R) (J : Nat → Nat → Int64) (o : Outcome) (Z : pmM) (r107 : Int32 → Value → Value → Value → Int32 → (Nat → Nat → Int32) → (Nat → Value) → (List (Nat × Nat)) → (Nat → Nat → Int32)) (q107 : Int32 → Value → Value → Value → Int32 → (Nat → Nat → Int32) → (Nat → Value) → (List (Nat × Nat)) → Prop) (ih107 : ∀ (y1 : Int32) (y2 : Value) (y3 : Value) (y4 : Value) (y5 : Int32) (I : Nat → Nat → Int32) (B : Nat → Value) (E : List (Nat × Nat)), q107 y1 y2 y3 y4 y5 I B E → o = .returned none → Z = (mk_K ++ E, mk_B R B, (r107 y1 y2 y3 y4 y5 I B E), J) → pmE g kMo_judge (d + 606) 0 0 107 [(0, .ref 40), (1, .int y1), (2, y2), (3, y3), (4, y4), (5, .int y5)] [] (mk_K ++ E) (mk_B R B) I J o Z)  (y1 : Int32) (y2 : Value) (y3 : Value) (y4 : Value) (y5 : Int32) (z0 : Value) (z1 : Int32) (I : Nat → Nat → Int32) (B : Nat → Value) (E : List (Nat × Nat)) (hp : pMo_judge_256 q107 y1 y2 y3 y4 y5 z0 z1 I B E) (ho : o = .returned none) (hz : Z = (mk_K ++ E, mk_B R B, (fMo_judge_256 r107 y1 y2 y3 y4 y5 z0 z1 I B E), J)) : pmE g kMo_judge (d + 606) 0 0 256 [(0, .ref 40), (1, .int y1), (2, y2), (3, y3), (4, y4), (5, .int y5)] [.int z1, z0] (mk_K ++ E) (mk_B R B) I J o Z := by
  unfold pMo_judge_256 at hp
  refine pm_iconst (v := 1) dMo_judge_256 (by decide) ?_
  refine pm_goto 261 dMo_judge_257 (by decide) ?_
  refine pm_wk [0, 1, 2, 3, 4, 5] rfl ?_
  exact Mo_judge_n261 g d R hR J _ _ r107 q107 ih107  _ _ _ _ _ _ _ _ _ _ _ hp ho (hz.trans (by first | (simp only [fMo_judge_256]; done) | (simp only [fMo_judge_256]; with_reducible rfl) | with_reducible rfl))
set_option maxHeartbeats 4000000 in
set_option maxRecDepth 100000 in
theorem Mo_judge_n288 (g : pmG) (d : Nat) (R : Nat → Nat → Value) (hR : mk_R R) (J : Nat → Nat → Int64) (o : Outcome) (Z : pmM) (r107 : Int32 → Value → Value → Value → Int32 → (Nat → Nat → Int32) → (Nat → Value) → (List (Nat × Nat)) → (Nat → Nat → Int32)) (q107 : Int32 → Value → Value → Value → Int32 → (Nat → Nat → Int32) → (Nat → Value) → (List (Nat × Nat)) → Prop) (ih107 : ∀ (y1 : Int32) (y2 : Value) (y3 : Value) (y4 : Value) (y5 : Int32) (I : Nat → Nat → Int32) (B : Nat → Value) (E : List (Nat × Nat)), q107 y1 y2 y3 y4 y5 I B E → o = .returned none → Z = (mk_K ++ E, mk_B R B, (r107 y1 y2 y3 y4 y5 I B E), J) → pmE g kMo_judge (d + 606) 0 0 107 [(0, .ref 40), (1, .int y1), (2, y2), (3, y3), (4, y4), (5, .int y5)] [] (mk_K ++ E) (mk_B R B) I J o Z)  (y1 : Int32) (y2 : Value) (y3 : Value) (y4 : Value) (y5 : Int32) (z0 : Value) (z1 : Int32) (z2 : Int32) (I : Nat → Nat → Int32) (B : Nat → Value) (E : List (Nat × Nat)) (hp : pMo_judge_288 q107 y1 y2 y3 y4 y5 z0 z1 z2 I B E) (ho : o = .returned none) (hz : Z = (mk_K ++ E, mk_B R B, (fMo_judge_288 r107 y1 y2 y3 y4 y5 z0 z1 z2 I B E), J)) : pmE g kMo_judge (d + 606) 0 0 288 [(0, .ref 40), (1, .int y1), (2, y2), (3, y3), (4, y4), (5, .int y5)] [.int z2, .int z1, z0] (mk_K ++ E) (mk_B R B) I J o Z := by
  unfold pMo_judge_288 at hp
  refine pm_vzast dMo_judge_288 hp.1.1 hp.1.2.1 hp.1.2.2 ?_
  refine pm_goto 375 dMo_judge_289 (by decide) ?_
  refine pm_wk [0, 1, 2, 3, 4, 5] rfl ?_
  exact Mo_judge_n375 g d R hR J _ _ r107 q107 ih107  _ _ _ _ _ _ _ _ hp.2 ho (hz.trans (by first | (simp only [fMo_judge_288]; done) | (simp only [fMo_judge_288]; with_reducible rfl) | with_reducible rfl))
set_option maxHeartbeats 4000000 in
set_option maxRecDepth 100000 in
theorem Mo_judge_n283 (g : pmG) (d : Nat) (R : Nat → Nat → Value) (hR : mk_R R) (J : Nat → Nat → Int64) (o : Outcome) (Z : pmM) (r107 : Int32 → Value → Value → Value → Int32 → (Nat → Nat → Int32) → (Nat → Value) → (List (Nat × Nat)) → (Nat → Nat → Int32)) (q107 : Int32 → Value → Value → Value → Int32 → (Nat → Nat → Int32) → (Nat → Value) → (List (Nat × Nat)) → Prop) (ih107 : ∀ (y1 : Int32) (y2 : Value) (y3 : Value) (y4 : Value) (y5 : Int32) (I : Nat → Nat → Int32) (B : Nat → Value) (E : List (Nat × Nat)), q107 y1 y2 y3 y4 y5 I B E → o = .returned none → Z = (mk_K ++ E, mk_B R B, (r107 y1 y2 y3 y4 y5 I B E), J) → pmE g kMo_judge (d + 606) 0 0 107 [(0, .ref 40), (1, .int y1), (2, y2), (3, y3), (4, y4), (5, .int y5)] [] (mk_K ++ E) (mk_B R B) I J o Z)  (y1 : Int32) (y2 : Value) (y3 : Value) (y4 : Value) (y5 : Int32) (z0 : Value) (z1 : Int32) (I : Nat → Nat → Int32) (B : Nat → Value) (E : List (Nat × Nat)) (hp : pMo_judge_283 q107 y1 y2 y3 y4 y5 z0 z1 I B E) (ho : o = .returned none) (hz : Z = (mk_K ++ E, mk_B R B, (fMo_judge_283 r107 y1 y2 y3 y4 y5 z0 z1 I B E), J)) : pmE g kMo_judge (d + 606) 0 0 283 [(0, .ref 40), (1, .int y1), (2, y2), (3, y3), (4, y4), (5, .int y5)] [.int z1, z0] (mk_K ++ E) (mk_B R B) I J o Z := by
  unfold pMo_judge_283 at hp
  refine pm_iconst (v := 1) dMo_judge_283 (by decide) ?_
  refine pm_goto 288 dMo_judge_284 (by decide) ?_
  refine pm_wk [0, 1, 2, 3, 4, 5] rfl ?_
  exact Mo_judge_n288 g d R hR J _ _ r107 q107 ih107  _ _ _ _ _ _ _ _ _ _ _ hp ho (hz.trans (by first | (simp only [fMo_judge_283]; done) | (simp only [fMo_judge_283]; with_reducible rfl) | with_reducible rfl))
set_option maxHeartbeats 4000000 in
set_option maxRecDepth 100000 in
theorem Mo_judge_n337 (g : pmG) (d : Nat) (R : Nat → Nat → Value) (hR : mk_R R) (J : Nat → Nat → Int64) (o : Outcome) (Z : pmM) (r107 : Int32 → Value → Value → Value → Int32 → (Nat → Nat → Int32) → (Nat → Value) → (List (Nat × Nat)) → (Nat → Nat → Int32)) (q107 : Int32 → Value → Value → Value → Int32 → (Nat → Nat → Int32) → (Nat → Value) → (List (Nat × Nat)) → Prop) (ih107 : ∀ (y1 : Int32) (y2 : Value) (y3 : Value) (y4 : Value) (y5 : Int32) (I : Nat → Nat → Int32) (B : Nat → Value) (E : List (Nat × Nat)), q107 y1 y2 y3 y4 y5 I B E → o = .returned none → Z = (mk_K ++ E, mk_B R B, (r107 y1 y2 y3 y4 y5 I B E), J) → pmE g kMo_judge (d + 606) 0 0 107 [(0, .ref 40), (1, .int y1), (2, y2), (3, y3), (4, y4), (5, .int y5)] [] (mk_K ++ E) (mk_B R B) I J o Z)  (y1 : Int32) (y2 : Value) (y3 : Value) (y4 : Value) (y5 : Int32) (z0 : Value) (z1 : Int32) (z2 : Int32) (I : Nat → Nat → Int32) (B : Nat → Value) (E : List (Nat × Nat)) (hp : pMo_judge_337 q107 y1 y2 y3 y4 y5 z0 z1 z2 I B E) (ho : o = .returned none) (hz : Z = (mk_K ++ E, mk_B R B, (fMo_judge_337 r107 y1 y2 y3 y4 y5 z0 z1 z2 I B E), J)) : pmE g kMo_judge (d + 606) 0 0 337 [(0, .ref 40), (1, .int y1), (2, y2), (3, y3), (4, y4), (5, .int y5)] [.int z2, .int z1, z0] (mk_K ++ E) (mk_B R B) I J o Z := by
  unfold pMo_judge_337 at hp
  refine pm_vzast dMo_judge_337 hp.1.1 hp.1.2.1 hp.1.2.2 ?_
  refine pm_goto 375 dMo_judge_338 (by decide) ?_
  refine pm_wk [0, 1, 2, 3, 4, 5] rfl ?_
  exact Mo_judge_n375 g d R hR J _ _ r107 q107 ih107  _ _ _ _ _ _ _ _ hp.2 ho (hz.trans (by first | (simp only [fMo_judge_337]; done) | (simp only [fMo_judge_337]; with_reducible rfl) | with_reducible rfl))
set_option maxHeartbeats 4000000 in
set_option maxRecDepth 100000 in
theorem Mo_judge_n107 (g : pmG) (d : Nat) (R : Nat → Nat → Value) (hR : mk_R R) (J : Nat → Nat → Int64) (o : Outcome) (Z : pmM)  : ∀ (n : Nat) (y1 : Int32) (y2 : Value) (y3 : Value) (y4 : Value) (y5 : Int32) (I : Nat → Nat → Int32) (B : Nat → Value) (E : List (Nat × Nat)), pMo_judge_107 n y1 y2 y3 y4 y5 I B E → o = .returned none → Z = (mk_K ++ E, mk_B R B, (fMo_judge_107 n y1 y2 y3 y4 y5 I B E), J) → pmE g kMo_judge (d + 606) 0 0 107 [(0, .ref 40), (1, .int y1), (2, y2), (3, y3), (4, y4), (5, .int y5)] [] (mk_K ++ E) (mk_B R B) I J o Z := by
  intro n
  induction n with
  | zero => intro y1 y2 y3 y4 y5 I B E hp; exact False.elim hp
  | succ n ih =>
  intro y1 y2 y3 y4 y5 I B E hp ho hz
  simp only [pMo_judge_107] at hp
  refine pm_iload dMo_judge_107 rfl ?_
  refine pm_aload_n dMo_judge_109 rfl ?_
  refine pm_callV dMo_judge_110 lMo_345 vMo_all ⟨_, _, rfl⟩ (Mo_all_ok _ _ _ _ (mk_RB hR _)  _ _ hp.1) rfl rfl rfl (Nat.le_of_ble_eq_true rfl) (Nat.le_refl _) (Nat.le_refl _) ?_
  refine pm_icmp_ge 381 dMo_judge_113 (by decide) (fun h113 => ?_) (fun h113 => ?_)
  ·
    refine pm_aload_n dMo_judge_381 rfl ?_
    refine pm_getr dMo_judge_382 fMo_119 rfl (rr_40_35 (mk_RB hR _)) ?_
    refine pm_iload_n dMo_judge_385 rfl ?_
    refine pm_iald dMo_judge_386 rfl (hp.2.1 h113).1 ?_
    refine pm_bipush (v := 6) dMo_judge_387 (by decide) ?_
    refine pm_icmp_lt 412 dMo_judge_389 (by decide) (fun h389 => ?_) (fun h389 => ?_)
    ·
      exact pm_vret dMo_judge_412 rfl ho (hz.trans (by first | (simp only [fMo_judge_107, if_pos h113, if_pos h389]; done) | (simp only [fMo_judge_107, if_pos h113, if_pos h389]; with_reducible rfl) | with_reducible rfl))
    ·
      refine pm_aload_n dMo_judge_392 rfl ?_
      refine pm_getr dMo_judge_393 fMo_119 rfl (rr_40_35 (mk_RB hR _)) ?_
      refine pm_iload_n dMo_judge_396 rfl ?_
      refine pm_iald dMo_judge_397 rfl ((hp.2.1 h113).2.2 h389).1 ?_
      refine pm_bipush (v := 11) dMo_judge_398 (by decide) ?_
      refine pm_icmp_gt 412 dMo_judge_400 (by decide) (fun h400 => ?_) (fun h400 => ?_)
      ·
        exact pm_vret dMo_judge_412 rfl ho (hz.trans (by first | (simp only [fMo_judge_107, if_pos h113, if_neg h389, if_pos h400]; done) | (simp only [fMo_judge_107, if_pos h113, if_neg h389, if_pos h400]; with_reducible rfl) | with_reducible rfl))
      ·
        refine pm_aload_n dMo_judge_403 rfl ?_
        refine pm_iload_n dMo_judge_404 rfl ?_
        refine pm_vload_n dMo_judge_405 rfl (((hp.2.1 h113).2.2 h389).2.2 h400).1 ?_
        refine pm_vload_n dMo_judge_406 rfl (((hp.2.1 h113).2.2 h389).2.2 h400).2.1 ?_
        refine pm_vload dMo_judge_407 rfl (((hp.2.1 h113).2.2 h389).2.2 h400).2.2.1 ?_
        refine pm_callV dMo_judge_409 lMo_368 vMo_fixed ⟨_, _, rfl⟩ (Mo_fixed_ok _ _ _ hR _ _ _ _ _ _ _ _ _ _ (((hp.2.1 h113).2.2 h389).2.2 h400).2.2.2.1) rfl rfl rfl (Nat.le_of_ble_eq_true rfl) (Nat.le_refl _) (Nat.le_refl _) ?_
        exact pm_vret dMo_judge_412 rfl ho (hz.trans (by first | (simp only [fMo_judge_107, if_pos h113, if_neg h389, if_neg h400]; done) | (simp only [fMo_judge_107, if_pos h113, if_neg h389, if_neg h400]; with_reducible rfl) | with_reducible rfl))
  ·
    refine pm_aload_n dMo_judge_116 rfl ?_
    refine pm_getr dMo_judge_117 fMo_119 rfl (rr_40_35 (mk_RB hR _)) ?_
    refine pm_iload_n dMo_judge_120 rfl ?_
    refine pm_iald dMo_judge_121 rfl (hp.2.2 h113).1 ?_
    by_cases h122_0 : (I 57 y1.toNatClampNeg) = 0
    ·
      refine pm_tableIn 192 dMo_judge_122 (by rw [h122_0]; decide) (by rw [h122_0]; decide) (by first | (rw [h122_0]; rfl) | rw [h122_0]) (by decide) ?_
      refine pm_vload_n dMo_judge_192 rfl ((hp.2.2 h113).2.1 h122_0).1 ?_
      refine pm_iload dMo_judge_193 rfl ?_
      refine pm_vload_n dMo_judge_195 rfl ((hp.2.2 h113).2.1 h122_0).2.1 ?_
      refine pm_iload dMo_judge_196 rfl ?_
      refine pm_vzald dMo_judge_198 ((hp.2.2 h113).2.1 h122_0).2.2.1.1 ((hp.2.2 h113).2.1 h122_0).2.2.1.2.1 ((hp.2.2 h113).2.1 h122_0).2.2.1.2.2 ?_
      refine pm_if_ne 206 dMo_judge_199 (by decide) (fun h199 => ?_) (fun h199 => ?_)
      ·
        refine pm_iconst (v := 0) dMo_judge_206 (by decide) ?_
        refine pm_wk [0, 1, 2, 3, 4, 5] rfl ?_
        exact Mo_judge_n207 g d R hR J _ _ (fMo_judge_107 n) (pMo_judge_107 n) ih  _ _ _ _ _ _ _ _ _ _ _ (((hp.2.2 h113).2.1 h122_0).2.2.2.2 h199) ho (hz.trans (by first | (simp only [fMo_judge_107, if_neg h113, if_pos h122_0, if_neg h199]; done) | (simp only [fMo_judge_107, if_neg h113, if_pos h122_0, if_neg h199]; with_reducible rfl) | with_reducible rfl))
      ·
        refine pm_iconst (v := 1) dMo_judge_202 (by decide) ?_
        refine pm_goto 207 dMo_judge_203 (by decide) ?_
        refine pm_wk [0, 1, 2, 3, 4, 5] rfl ?_
        exact Mo_judge_n207 g d R hR J _ _ (fMo_judge_107 n) (pMo_judge_107 n) ih  _ _ _ _ _ _ _ _ _ _ _ (((hp.2.2 h113).2.1 h122_0).2.2.2.1 h199) ho (hz.trans (by first | (simp only [fMo_judge_107, if_neg h113, if_pos h122_0, if_pos h199]; done) | (simp only [fMo_judge_107, if_neg h113, if_pos h122_0, if_pos h199]; with_reducible rfl) | with_reducible rfl))
    ·
      by_cases h122_1 : (I 57 y1.toNatClampNeg) = 1
      ·
        refine pm_tableIn 211 dMo_judge_122 (by rw [h122_1]; decide) (by rw [h122_1]; decide) (by first | (rw [h122_1]; rfl) | rw [h122_1]) (by decide) ?_
        refine pm_vload_n dMo_judge_211 rfl (((hp.2.2 h113).2.2 h122_0).1 h122_1).1 ?_
        refine pm_iload dMo_judge_212 rfl ?_
        refine pm_vload_n dMo_judge_214 rfl (((hp.2.2 h113).2.2 h122_0).1 h122_1).2.1 ?_
        refine pm_iload dMo_judge_215 rfl ?_
        refine pm_vzald dMo_judge_217 (((hp.2.2 h113).2.2 h122_0).1 h122_1).2.2.1.1 (((hp.2.2 h113).2.2 h122_0).1 h122_1).2.2.1.2.1 (((hp.2.2 h113).2.2 h122_0).1 h122_1).2.2.1.2.2 ?_
        refine pm_if_eq 233 dMo_judge_218 (by decide) (fun h218 => ?_) (fun h218 => ?_)
        ·
          refine pm_wk [0, 1, 2, 3, 4, 5] rfl ?_
          exact Mo_judge_n233 g d R hR J _ _ (fMo_judge_107 n) (pMo_judge_107 n) ih  _ _ _ _ _ _ _ _ _ _ ((((hp.2.2 h113).2.2 h122_0).1 h122_1).2.2.2.1 h218) ho (hz.trans (by first | (simp only [fMo_judge_107, if_neg h113, if_neg h122_0, if_pos h122_1, if_pos h218]; done) | (simp only [fMo_judge_107, if_neg h113, if_neg h122_0, if_pos h122_1, if_pos h218]; with_reducible rfl) | with_reducible rfl))
        ·
          refine pm_vload dMo_judge_221 rfl ((((hp.2.2 h113).2.2 h122_0).1 h122_1).2.2.2.2 h218).1 ?_
          refine pm_iload dMo_judge_223 rfl ?_
          refine pm_vzald dMo_judge_225 ((((hp.2.2 h113).2.2 h122_0).1 h122_1).2.2.2.2 h218).2.1.1 ((((hp.2.2 h113).2.2 h122_0).1 h122_1).2.2.2.2 h218).2.1.2.1 ((((hp.2.2 h113).2.2 h122_0).1 h122_1).2.2.2.2 h218).2.1.2.2 ?_
          refine pm_if_eq 233 dMo_judge_226 (by decide) (fun h226 => ?_) (fun h226 => ?_)
          ·
            refine pm_wk [0, 1, 2, 3, 4, 5] rfl ?_
            exact Mo_judge_n233 g d R hR J _ _ (fMo_judge_107 n) (pMo_judge_107 n) ih  _ _ _ _ _ _ _ _ _ _ (((((hp.2.2 h113).2.2 h122_0).1 h122_1).2.2.2.2 h218).2.2.1 h226) ho (hz.trans (by first | (simp only [fMo_judge_107, if_neg h113, if_neg h122_0, if_pos h122_1, if_neg h218, if_pos h226]; done) | (simp only [fMo_judge_107, if_neg h113, if_neg h122_0, if_pos h122_1, if_neg h218, if_pos h226]; with_reducible rfl) | with_reducible rfl))
          ·
            refine pm_iconst (v := 1) dMo_judge_229 (by decide) ?_
            refine pm_goto 234 dMo_judge_230 (by decide) ?_
            refine pm_wk [0, 1, 2, 3, 4, 5] rfl ?_
            exact Mo_judge_n234 g d R hR J _ _ (fMo_judge_107 n) (pMo_judge_107 n) ih  _ _ _ _ _ _ _ _ _ _ _ (((((hp.2.2 h113).2.2 h122_0).1 h122_1).2.2.2.2 h218).2.2.2 h226) ho (hz.trans (by first | (simp only [fMo_judge_107, if_neg h113, if_neg h122_0, if_pos h122_1, if_neg h218, if_neg h226]; done) | (simp only [fMo_judge_107, if_neg h113, if_neg h122_0, if_pos h122_1, if_neg h218, if_neg h226]; with_reducible rfl) | with_reducible rfl))
      ·
        by_cases h122_2 : (I 57 y1.toNatClampNeg) = 2
        ·
          refine pm_tableIn 238 dMo_judge_122 (by rw [h122_2]; decide) (by rw [h122_2]; decide) (by first | (rw [h122_2]; rfl) | rw [h122_2]) (by decide) ?_
          refine pm_vload_n dMo_judge_238 rfl ((((hp.2.2 h113).2.2 h122_0).2 h122_1).1 h122_2).1 ?_
          refine pm_iload dMo_judge_239 rfl ?_
          refine pm_vload_n dMo_judge_241 rfl ((((hp.2.2 h113).2.2 h122_0).2 h122_1).1 h122_2).2.1 ?_
          refine pm_iload dMo_judge_242 rfl ?_
          refine pm_vzald dMo_judge_244 ((((hp.2.2 h113).2.2 h122_0).2 h122_1).1 h122_2).2.2.1.1 ((((hp.2.2 h113).2.2 h122_0).2 h122_1).1 h122_2).2.2.1.2.1 ((((hp.2.2 h113).2.2 h122_0).2 h122_1).1 h122_2).2.2.1.2.2 ?_
          refine pm_if_ne 256 dMo_judge_245 (by decide) (fun h245 => ?_) (fun h245 => ?_)
          ·
            refine pm_wk [0, 1, 2, 3, 4, 5] rfl ?_
            exact Mo_judge_n256 g d R hR J _ _ (fMo_judge_107 n) (pMo_judge_107 n) ih  _ _ _ _ _ _ _ _ _ _ (((((hp.2.2 h113).2.2 h122_0).2 h122_1).1 h122_2).2.2.2.2 h245) ho (hz.trans (by first | (simp only [fMo_judge_107, if_neg h113, if_neg h122_0, if_neg h122_1, if_pos h122_2, if_neg h245]; done) | (simp only [fMo_judge_107, if_neg h113, if_neg h122_0, if_neg h122_1, if_pos h122_2, if_neg h245]; with_reducible rfl) | with_reducible rfl))
          ·
            refine pm_vload dMo_judge_248 rfl (((((hp.2.2 h113).2.2 h122_0).2 h122_1).1 h122_2).2.2.2.1 h245).1 ?_
            refine pm_iload dMo_judge_250 rfl ?_
            refine pm_vzald dMo_judge_252 (((((hp.2.2 h113).2.2 h122_0).2 h122_1).1 h122_2).2.2.2.1 h245).2.1.1 (((((hp.2.2 h113).2.2 h122_0).2 h122_1).1 h122_2).2.2.2.1 h245).2.1.2.1 (((((hp.2.2 h113).2.2 h122_0).2 h122_1).1 h122_2).2.2.2.1 h245).2.1.2.2 ?_
            refine pm_if_eq 260 dMo_judge_253 (by decide) (fun h253 => ?_) (fun h253 => ?_)
            ·
              refine pm_iconst (v := 0) dMo_judge_260 (by decide) ?_
              refine pm_wk [0, 1, 2, 3, 4, 5] rfl ?_
              exact Mo_judge_n261 g d R hR J _ _ (fMo_judge_107 n) (pMo_judge_107 n) ih  _ _ _ _ _ _ _ _ _ _ _ ((((((hp.2.2 h113).2.2 h122_0).2 h122_1).1 h122_2).2.2.2.1 h245).2.2.1 h253) ho (hz.trans (by first | (simp only [fMo_judge_107, if_neg h113, if_neg h122_0, if_neg h122_1, if_pos h122_2, if_pos h245, if_pos h253]; done) | (simp only [fMo_judge_107, if_neg h113, if_neg h122_0, if_neg h122_1, if_pos h122_2, if_pos h245, if_pos h253]; with_reducible rfl) | with_reducible rfl))
            ·
              refine pm_wk [0, 1, 2, 3, 4, 5] rfl ?_
              exact Mo_judge_n256 g d R hR J _ _ (fMo_judge_107 n) (pMo_judge_107 n) ih  _ _ _ _ _ _ _ _ _ _ ((((((hp.2.2 h113).2.2 h122_0).2 h122_1).1 h122_2).2.2.2.1 h245).2.2.2 h253) ho (hz.trans (by first | (simp only [fMo_judge_107, if_neg h113, if_neg h122_0, if_neg h122_1, if_pos h122_2, if_pos h245, if_neg h253]; done) | (simp only [fMo_judge_107, if_neg h113, if_neg h122_0, if_neg h122_1, if_pos h122_2, if_pos h245, if_neg h253]; with_reducible rfl) | with_reducible rfl))
        ·
          by_cases h122_3 : (I 57 y1.toNatClampNeg) = 3
          ·
            refine pm_tableIn 265 dMo_judge_122 (by rw [h122_3]; decide) (by rw [h122_3]; decide) (by first | (rw [h122_3]; rfl) | rw [h122_3]) (by decide) ?_
            refine pm_vload_n dMo_judge_265 rfl (((((hp.2.2 h113).2.2 h122_0).2 h122_1).2 h122_2).1 h122_3).1 ?_
            refine pm_iload dMo_judge_266 rfl ?_
            refine pm_vload_n dMo_judge_268 rfl (((((hp.2.2 h113).2.2 h122_0).2 h122_1).2 h122_2).1 h122_3).2.1 ?_
            refine pm_iload dMo_judge_269 rfl ?_
            refine pm_vzald dMo_judge_271 (((((hp.2.2 h113).2.2 h122_0).2 h122_1).2 h122_2).1 h122_3).2.2.1.1 (((((hp.2.2 h113).2.2 h122_0).2 h122_1).2 h122_2).1 h122_3).2.2.1.2.1 (((((hp.2.2 h113).2.2 h122_0).2 h122_1).2 h122_2).1 h122_3).2.2.1.2.2 ?_
            refine pm_if_eq 283 dMo_judge_272 (by decide) (fun h272 => ?_) (fun h272 => ?_)
            ·
              refine pm_wk [0, 1, 2, 3, 4, 5] rfl ?_
              exact Mo_judge_n283 g d R hR J _ _ (fMo_judge_107 n) (pMo_judge_107 n) ih  _ _ _ _ _ _ _ _ _ _ ((((((hp.2.2 h113).2.2 h122_0).2 h122_1).2 h122_2).1 h122_3).2.2.2.1 h272) ho (hz.trans (by first | (simp only [fMo_judge_107, if_neg h113, if_neg h122_0, if_neg h122_1, if_neg h122_2, if_pos h122_3, if_pos h272]; done) | (simp only [fMo_judge_107, if_neg h113, if_neg h122_0, if_neg h122_1, if_neg h122_2, if_pos h122_3, if_pos h272]; with_reducible rfl) | with_reducible rfl))
            ·
              refine pm_vload dMo_judge_275 rfl ((((((hp.2.2 h113).2.2 h122_0).2 h122_1).2 h122_2).1 h122_3).2.2.2.2 h272).1 ?_
              refine pm_iload dMo_judge_277 rfl ?_
              refine pm_vzald dMo_judge_279 ((((((hp.2.2 h113).2.2 h122_0).2 h122_1).2 h122_2).1 h122_3).2.2.2.2 h272).2.1.1 ((((((hp.2.2 h113).2.2 h122_0).2 h122_1).2 h122_2).1 h122_3).2.2.2.2 h272).2.1.2.1 ((((((hp.2.2 h113).2.2 h122_0).2 h122_1).2 h122_2).1 h122_3).2.2.2.2 h272).2.1.2.2 ?_
              refine pm_if_eq 287 dMo_judge_280 (by decide) (fun h280 => ?_) (fun h280 => ?_)
              ·
                refine pm_iconst (v := 0) dMo_judge_287 (by decide) ?_
                refine pm_wk [0, 1, 2, 3, 4, 5] rfl ?_
                exact Mo_judge_n288 g d R hR J _ _ (fMo_judge_107 n) (pMo_judge_107 n) ih  _ _ _ _ _ _ _ _ _ _ _ (((((((hp.2.2 h113).2.2 h122_0).2 h122_1).2 h122_2).1 h122_3).2.2.2.2 h272).2.2.1 h280) ho (hz.trans (by first | (simp only [fMo_judge_107, if_neg h113, if_neg h122_0, if_neg h122_1, if_neg h122_2, if_pos h122_3, if_neg h272, if_pos h280]; done) | (simp only [fMo_judge_107, if_neg h113, if_neg h122_0, if_neg h122_1, if_neg h122_2, if_pos h122_3, if_neg h272, if_pos h280]; with_reducible rfl) | with_reducible rfl))
              ·
                refine pm_wk [0, 1, 2, 3, 4, 5] rfl ?_
                exact Mo_judge_n283 g d R hR J _ _ (fMo_judge_107 n) (pMo_judge_107 n) ih  _ _ _ _ _ _ _ _ _ _ (((((((hp.2.2 h113).2.2 h122_0).2 h122_1).2 h122_2).1 h122_3).2.2.2.2 h272).2.2.2 h280) ho (hz.trans (by first | (simp only [fMo_judge_107, if_neg h113, if_neg h122_0, if_neg h122_1, if_neg h122_2, if_pos h122_3, if_neg h272, if_neg h280]; done) | (simp only [fMo_judge_107, if_neg h113, if_neg h122_0, if_neg h122_1, if_neg h122_2, if_pos h122_3, if_neg h272, if_neg h280]; with_reducible rfl) | with_reducible rfl))
          ·
            by_cases h122_4 : (I 57 y1.toNatClampNeg) = 4
            ·
              refine pm_tableIn 292 dMo_judge_122 (by rw [h122_4]; decide) (by rw [h122_4]; decide) (by first | (rw [h122_4]; rfl) | rw [h122_4]) (by decide) ?_
              refine pm_vload_n dMo_judge_292 rfl ((((((hp.2.2 h113).2.2 h122_0).2 h122_1).2 h122_2).2 h122_3).1 h122_4).1 ?_
              refine pm_iload dMo_judge_293 rfl ?_
              refine pm_aload_n dMo_judge_295 rfl ?_
              refine pm_vload_n dMo_judge_296 rfl ((((((hp.2.2 h113).2.2 h122_0).2 h122_1).2 h122_2).2 h122_3).1 h122_4).2.1 ?_
              refine pm_iload dMo_judge_297 rfl ?_
              refine pm_iconst (v := 0) dMo_judge_299 (by decide) ?_
              have hc300 := ((((((hp.2.2 h113).2.2 h122_0).2 h122_1).2 h122_2).2 h122_3).1 h122_4).2.2.1
              refine pm_callV dMo_judge_300 lMo_362 vMo_next2 ⟨_, _, rfl⟩ (Mo_next2_ok _ _ _ hR _ _ _ _ _ _ _ _ ((((((hp.2.2 h113).2.2 h122_0).2 h122_1).2 h122_2).2 h122_3).1 h122_4).2.2.2.1) rfl rfl rfl (pm_c8v hc300) (Nat.le_refl _) (Nat.le_refl _) ?_
              refine pm_vzast dMo_judge_303 ((((((hp.2.2 h113).2.2 h122_0).2 h122_1).2 h122_2).2 h122_3).1 h122_4).2.2.2.2.1.1 ((((((hp.2.2 h113).2.2 h122_0).2 h122_1).2 h122_2).2 h122_3).1 h122_4).2.2.2.2.1.2.1 ((((((hp.2.2 h113).2.2 h122_0).2 h122_1).2 h122_2).2 h122_3).1 h122_4).2.2.2.2.1.2.2 ?_
              refine pm_goto 375 dMo_judge_304 (by decide) ?_
              refine pm_wk [0, 1, 2, 3, 4, 5] rfl ?_
              exact Mo_judge_n375 g d R hR J _ _ (fMo_judge_107 n) (pMo_judge_107 n) ih  _ _ _ _ _ _ _ _ ((((((hp.2.2 h113).2.2 h122_0).2 h122_1).2 h122_2).2 h122_3).1 h122_4).2.2.2.2.2 ho (hz.trans (by first | (simp only [fMo_judge_107, if_neg h113, if_neg h122_0, if_neg h122_1, if_neg h122_2, if_neg h122_3, if_pos h122_4]; done) | (simp only [fMo_judge_107, if_neg h113, if_neg h122_0, if_neg h122_1, if_neg h122_2, if_neg h122_3, if_pos h122_4]; with_reducible rfl) | with_reducible rfl))
            ·
              by_cases h122_5 : (I 57 y1.toNatClampNeg) = 5
              ·
                refine pm_tableIn 307 dMo_judge_122 (by rw [h122_5]; decide) (by rw [h122_5]; decide) (by first | (rw [h122_5]; rfl) | rw [h122_5]) (by decide) ?_
                refine pm_vload_n dMo_judge_307 rfl (((((((hp.2.2 h113).2.2 h122_0).2 h122_1).2 h122_2).2 h122_3).2 h122_4).1 h122_5).1 ?_
                refine pm_iload dMo_judge_308 rfl ?_
                refine pm_aload_n dMo_judge_310 rfl ?_
                refine pm_vload_n dMo_judge_311 rfl (((((((hp.2.2 h113).2.2 h122_0).2 h122_1).2 h122_2).2 h122_3).2 h122_4).1 h122_5).2.1 ?_
                refine pm_iload dMo_judge_312 rfl ?_
                refine pm_iconst (v := 1) dMo_judge_314 (by decide) ?_
                have hc315 := (((((((hp.2.2 h113).2.2 h122_0).2 h122_1).2 h122_2).2 h122_3).2 h122_4).1 h122_5).2.2.1
                refine pm_callV dMo_judge_315 lMo_362 vMo_next2 ⟨_, _, rfl⟩ (Mo_next2_ok _ _ _ hR _ _ _ _ _ _ _ _ (((((((hp.2.2 h113).2.2 h122_0).2 h122_1).2 h122_2).2 h122_3).2 h122_4).1 h122_5).2.2.2.1) rfl rfl rfl (pm_c8v hc315) (Nat.le_refl _) (Nat.le_refl _) ?_
                refine pm_vzast dMo_judge_318 (((((((hp.2.2 h113).2.2 h122_0).2 h122_1).2 h122_2).2 h122_3).2 h122_4).1 h122_5).2.2.2.2.1.1 (((((((hp.2.2 h113).2.2 h122_0).2 h122_1).2 h122_2).2 h122_3).2 h122_4).1 h122_5).2.2.2.2.1.2.1 (((((((hp.2.2 h113).2.2 h122_0).2 h122_1).2 h122_2).2 h122_3).2 h122_4).1 h122_5).2.2.2.2.1.2.2 ?_
                refine pm_goto 375 dMo_judge_319 (by decide) ?_
                refine pm_wk [0, 1, 2, 3, 4, 5] rfl ?_
                exact Mo_judge_n375 g d R hR J _ _ (fMo_judge_107 n) (pMo_judge_107 n) ih  _ _ _ _ _ _ _ _ (((((((hp.2.2 h113).2.2 h122_0).2 h122_1).2 h122_2).2 h122_3).2 h122_4).1 h122_5).2.2.2.2.2 ho (hz.trans (by first | (simp only [fMo_judge_107, if_neg h113, if_neg h122_0, if_neg h122_1, if_neg h122_2, if_neg h122_3, if_neg h122_4, if_pos h122_5]; done) | (simp only [fMo_judge_107, if_neg h113, if_neg h122_0, if_neg h122_1, if_neg h122_2, if_neg h122_3, if_neg h122_4, if_pos h122_5]; with_reducible rfl) | with_reducible rfl))
              ·
                by_cases h122_6 : (I 57 y1.toNatClampNeg) = 6
                ·
                  refine pm_tableIn 370 dMo_judge_122 (by rw [h122_6]; decide) (by rw [h122_6]; decide) (by first | (rw [h122_6]; rfl) | rw [h122_6]) (by decide) ?_
                  refine pm_vload_n dMo_judge_370 rfl ((((((((hp.2.2 h113).2.2 h122_0).2 h122_1).2 h122_2).2 h122_3).2 h122_4).2 h122_5).1 h122_6).1 ?_
                  refine pm_iload dMo_judge_371 rfl ?_
                  refine pm_iconst (v := 0) dMo_judge_373 (by decide) ?_
                  refine pm_vzast dMo_judge_374 ((((((((hp.2.2 h113).2.2 h122_0).2 h122_1).2 h122_2).2 h122_3).2 h122_4).2 h122_5).1 h122_6).2.1.1 ((((((((hp.2.2 h113).2.2 h122_0).2 h122_1).2 h122_2).2 h122_3).2 h122_4).2 h122_5).1 h122_6).2.1.2.1 ((((((((hp.2.2 h113).2.2 h122_0).2 h122_1).2 h122_2).2 h122_3).2 h122_4).2 h122_5).1 h122_6).2.1.2.2 ?_
                  refine pm_wk [0, 1, 2, 3, 4, 5] rfl ?_
                  exact Mo_judge_n375 g d R hR J _ _ (fMo_judge_107 n) (pMo_judge_107 n) ih  _ _ _ _ _ _ _ _ ((((((((hp.2.2 h113).2.2 h122_0).2 h122_1).2 h122_2).2 h122_3).2 h122_4).2 h122_5).1 h122_6).2.2 ho (hz.trans (by first | (simp only [fMo_judge_107, if_neg h113, if_neg h122_0, if_neg h122_1, if_neg h122_2, if_neg h122_3, if_neg h122_4, if_neg h122_5, if_pos h122_6]; done) | (simp only [fMo_judge_107, if_neg h113, if_neg h122_0, if_neg h122_1, if_neg h122_2, if_neg h122_3, if_neg h122_4, if_neg h122_5, if_pos h122_6]; with_reducible rfl) | with_reducible rfl))
                ·
                  by_cases h122_7 : (I 57 y1.toNatClampNeg) = 7
                  ·
                    refine pm_tableIn 370 dMo_judge_122 (by rw [h122_7]; decide) (by rw [h122_7]; decide) (by first | (rw [h122_7]; rfl) | rw [h122_7]) (by decide) ?_
                    refine pm_vload_n dMo_judge_370 rfl (((((((((hp.2.2 h113).2.2 h122_0).2 h122_1).2 h122_2).2 h122_3).2 h122_4).2 h122_5).2 h122_6).1 h122_7).1 ?_
                    refine pm_iload dMo_judge_371 rfl ?_
                    refine pm_iconst (v := 0) dMo_judge_373 (by decide) ?_
                    refine pm_vzast dMo_judge_374 (((((((((hp.2.2 h113).2.2 h122_0).2 h122_1).2 h122_2).2 h122_3).2 h122_4).2 h122_5).2 h122_6).1 h122_7).2.1.1 (((((((((hp.2.2 h113).2.2 h122_0).2 h122_1).2 h122_2).2 h122_3).2 h122_4).2 h122_5).2 h122_6).1 h122_7).2.1.2.1 (((((((((hp.2.2 h113).2.2 h122_0).2 h122_1).2 h122_2).2 h122_3).2 h122_4).2 h122_5).2 h122_6).1 h122_7).2.1.2.2 ?_
                    refine pm_wk [0, 1, 2, 3, 4, 5] rfl ?_
                    exact Mo_judge_n375 g d R hR J _ _ (fMo_judge_107 n) (pMo_judge_107 n) ih  _ _ _ _ _ _ _ _ (((((((((hp.2.2 h113).2.2 h122_0).2 h122_1).2 h122_2).2 h122_3).2 h122_4).2 h122_5).2 h122_6).1 h122_7).2.2 ho (hz.trans (by first | (simp only [fMo_judge_107, if_neg h113, if_neg h122_0, if_neg h122_1, if_neg h122_2, if_neg h122_3, if_neg h122_4, if_neg h122_5, if_neg h122_6, if_pos h122_7]; done) | (simp only [fMo_judge_107, if_neg h113, if_neg h122_0, if_neg h122_1, if_neg h122_2, if_neg h122_3, if_neg h122_4, if_neg h122_5, if_neg h122_6, if_pos h122_7]; with_reducible rfl) | with_reducible rfl))
                  ·
                    by_cases h122_8 : (I 57 y1.toNatClampNeg) = 8
                    ·
                      refine pm_tableIn 370 dMo_judge_122 (by rw [h122_8]; decide) (by rw [h122_8]; decide) (by first | (rw [h122_8]; rfl) | rw [h122_8]) (by decide) ?_
                      refine pm_vload_n dMo_judge_370 rfl ((((((((((hp.2.2 h113).2.2 h122_0).2 h122_1).2 h122_2).2 h122_3).2 h122_4).2 h122_5).2 h122_6).2 h122_7).1 h122_8).1 ?_
                      refine pm_iload dMo_judge_371 rfl ?_
                      refine pm_iconst (v := 0) dMo_judge_373 (by decide) ?_
                      refine pm_vzast dMo_judge_374 ((((((((((hp.2.2 h113).2.2 h122_0).2 h122_1).2 h122_2).2 h122_3).2 h122_4).2 h122_5).2 h122_6).2 h122_7).1 h122_8).2.1.1 ((((((((((hp.2.2 h113).2.2 h122_0).2 h122_1).2 h122_2).2 h122_3).2 h122_4).2 h122_5).2 h122_6).2 h122_7).1 h122_8).2.1.2.1 ((((((((((hp.2.2 h113).2.2 h122_0).2 h122_1).2 h122_2).2 h122_3).2 h122_4).2 h122_5).2 h122_6).2 h122_7).1 h122_8).2.1.2.2 ?_
                      refine pm_wk [0, 1, 2, 3, 4, 5] rfl ?_
                      exact Mo_judge_n375 g d R hR J _ _ (fMo_judge_107 n) (pMo_judge_107 n) ih  _ _ _ _ _ _ _ _ ((((((((((hp.2.2 h113).2.2 h122_0).2 h122_1).2 h122_2).2 h122_3).2 h122_4).2 h122_5).2 h122_6).2 h122_7).1 h122_8).2.2 ho (hz.trans (by first | (simp only [fMo_judge_107, if_neg h113, if_neg h122_0, if_neg h122_1, if_neg h122_2, if_neg h122_3, if_neg h122_4, if_neg h122_5, if_neg h122_6, if_neg h122_7, if_pos h122_8]; done) | (simp only [fMo_judge_107, if_neg h113, if_neg h122_0, if_neg h122_1, if_neg h122_2, if_neg h122_3, if_neg h122_4, if_neg h122_5, if_neg h122_6, if_neg h122_7, if_pos h122_8]; with_reducible rfl) | with_reducible rfl))
                    ·
                      by_cases h122_9 : (I 57 y1.toNatClampNeg) = 9
                      ·
                        refine pm_tableIn 370 dMo_judge_122 (by rw [h122_9]; decide) (by rw [h122_9]; decide) (by first | (rw [h122_9]; rfl) | rw [h122_9]) (by decide) ?_
                        refine pm_vload_n dMo_judge_370 rfl (((((((((((hp.2.2 h113).2.2 h122_0).2 h122_1).2 h122_2).2 h122_3).2 h122_4).2 h122_5).2 h122_6).2 h122_7).2 h122_8).1 h122_9).1 ?_
                        refine pm_iload dMo_judge_371 rfl ?_
                        refine pm_iconst (v := 0) dMo_judge_373 (by decide) ?_
                        refine pm_vzast dMo_judge_374 (((((((((((hp.2.2 h113).2.2 h122_0).2 h122_1).2 h122_2).2 h122_3).2 h122_4).2 h122_5).2 h122_6).2 h122_7).2 h122_8).1 h122_9).2.1.1 (((((((((((hp.2.2 h113).2.2 h122_0).2 h122_1).2 h122_2).2 h122_3).2 h122_4).2 h122_5).2 h122_6).2 h122_7).2 h122_8).1 h122_9).2.1.2.1 (((((((((((hp.2.2 h113).2.2 h122_0).2 h122_1).2 h122_2).2 h122_3).2 h122_4).2 h122_5).2 h122_6).2 h122_7).2 h122_8).1 h122_9).2.1.2.2 ?_
                        refine pm_wk [0, 1, 2, 3, 4, 5] rfl ?_
                        exact Mo_judge_n375 g d R hR J _ _ (fMo_judge_107 n) (pMo_judge_107 n) ih  _ _ _ _ _ _ _ _ (((((((((((hp.2.2 h113).2.2 h122_0).2 h122_1).2 h122_2).2 h122_3).2 h122_4).2 h122_5).2 h122_6).2 h122_7).2 h122_8).1 h122_9).2.2 ho (hz.trans (by first | (simp only [fMo_judge_107, if_neg h113, if_neg h122_0, if_neg h122_1, if_neg h122_2, if_neg h122_3, if_neg h122_4, if_neg h122_5, if_neg h122_6, if_neg h122_7, if_neg h122_8, if_pos h122_9]; done) | (simp only [fMo_judge_107, if_neg h113, if_neg h122_0, if_neg h122_1, if_neg h122_2, if_neg h122_3, if_neg h122_4, if_neg h122_5, if_neg h122_6, if_neg h122_7, if_neg h122_8, if_pos h122_9]; with_reducible rfl) | with_reducible rfl))
                      ·
                        by_cases h122_10 : (I 57 y1.toNatClampNeg) = 10
                        ·
                          refine pm_tableIn 362 dMo_judge_122 (by rw [h122_10]; decide) (by rw [h122_10]; decide) (by first | (rw [h122_10]; rfl) | rw [h122_10]) (by decide) ?_
                          refine pm_vload_n dMo_judge_362 rfl ((((((((((((hp.2.2 h113).2.2 h122_0).2 h122_1).2 h122_2).2 h122_3).2 h122_4).2 h122_5).2 h122_6).2 h122_7).2 h122_8).2 h122_9).1 h122_10).1 ?_
                          refine pm_iload dMo_judge_363 rfl ?_
                          refine pm_iconst (v := 1) dMo_judge_365 (by decide) ?_
                          refine pm_vzast dMo_judge_366 ((((((((((((hp.2.2 h113).2.2 h122_0).2 h122_1).2 h122_2).2 h122_3).2 h122_4).2 h122_5).2 h122_6).2 h122_7).2 h122_8).2 h122_9).1 h122_10).2.1.1 ((((((((((((hp.2.2 h113).2.2 h122_0).2 h122_1).2 h122_2).2 h122_3).2 h122_4).2 h122_5).2 h122_6).2 h122_7).2 h122_8).2 h122_9).1 h122_10).2.1.2.1 ((((((((((((hp.2.2 h113).2.2 h122_0).2 h122_1).2 h122_2).2 h122_3).2 h122_4).2 h122_5).2 h122_6).2 h122_7).2 h122_8).2 h122_9).1 h122_10).2.1.2.2 ?_
                          refine pm_goto 375 dMo_judge_367 (by decide) ?_
                          refine pm_wk [0, 1, 2, 3, 4, 5] rfl ?_
                          exact Mo_judge_n375 g d R hR J _ _ (fMo_judge_107 n) (pMo_judge_107 n) ih  _ _ _ _ _ _ _ _ ((((((((((((hp.2.2 h113).2.2 h122_0).2 h122_1).2 h122_2).2 h122_3).2 h122_4).2 h122_5).2 h122_6).2 h122_7).2 h122_8).2 h122_9).1 h122_10).2.2 ho (hz.trans (by first | (simp only [fMo_judge_107, if_neg h113, if_neg h122_0, if_neg h122_1, if_neg h122_2, if_neg h122_3, if_neg h122_4, if_neg h122_5, if_neg h122_6, if_neg h122_7, if_neg h122_8, if_neg h122_9, if_pos h122_10]; done) | (simp only [fMo_judge_107, if_neg h113, if_neg h122_0, if_neg h122_1, if_neg h122_2, if_neg h122_3, if_neg h122_4, if_neg h122_5, if_neg h122_6, if_neg h122_7, if_neg h122_8, if_neg h122_9, if_pos h122_10]; with_reducible rfl) | with_reducible rfl))
                        ·
                          by_cases h122_11 : (I 57 y1.toNatClampNeg) = 11
                          ·
                            refine pm_tableIn 362 dMo_judge_122 (by rw [h122_11]; decide) (by rw [h122_11]; decide) (by first | (rw [h122_11]; rfl) | rw [h122_11]) (by decide) ?_
                            refine pm_vload_n dMo_judge_362 rfl (((((((((((((hp.2.2 h113).2.2 h122_0).2 h122_1).2 h122_2).2 h122_3).2 h122_4).2 h122_5).2 h122_6).2 h122_7).2 h122_8).2 h122_9).2 h122_10).1 h122_11).1 ?_
                            refine pm_iload dMo_judge_363 rfl ?_
                            refine pm_iconst (v := 1) dMo_judge_365 (by decide) ?_
                            refine pm_vzast dMo_judge_366 (((((((((((((hp.2.2 h113).2.2 h122_0).2 h122_1).2 h122_2).2 h122_3).2 h122_4).2 h122_5).2 h122_6).2 h122_7).2 h122_8).2 h122_9).2 h122_10).1 h122_11).2.1.1 (((((((((((((hp.2.2 h113).2.2 h122_0).2 h122_1).2 h122_2).2 h122_3).2 h122_4).2 h122_5).2 h122_6).2 h122_7).2 h122_8).2 h122_9).2 h122_10).1 h122_11).2.1.2.1 (((((((((((((hp.2.2 h113).2.2 h122_0).2 h122_1).2 h122_2).2 h122_3).2 h122_4).2 h122_5).2 h122_6).2 h122_7).2 h122_8).2 h122_9).2 h122_10).1 h122_11).2.1.2.2 ?_
                            refine pm_goto 375 dMo_judge_367 (by decide) ?_
                            refine pm_wk [0, 1, 2, 3, 4, 5] rfl ?_
                            exact Mo_judge_n375 g d R hR J _ _ (fMo_judge_107 n) (pMo_judge_107 n) ih  _ _ _ _ _ _ _ _ (((((((((((((hp.2.2 h113).2.2 h122_0).2 h122_1).2 h122_2).2 h122_3).2 h122_4).2 h122_5).2 h122_6).2 h122_7).2 h122_8).2 h122_9).2 h122_10).1 h122_11).2.2 ho (hz.trans (by first | (simp only [fMo_judge_107, if_neg h113, if_neg h122_0, if_neg h122_1, if_neg h122_2, if_neg h122_3, if_neg h122_4, if_neg h122_5, if_neg h122_6, if_neg h122_7, if_neg h122_8, if_neg h122_9, if_neg h122_10, if_pos h122_11]; done) | (simp only [fMo_judge_107, if_neg h113, if_neg h122_0, if_neg h122_1, if_neg h122_2, if_neg h122_3, if_neg h122_4, if_neg h122_5, if_neg h122_6, if_neg h122_7, if_neg h122_8, if_neg h122_9, if_neg h122_10, if_pos h122_11]; with_reducible rfl) | with_reducible rfl))
                          ·
                            by_cases h122_12 : (I 57 y1.toNatClampNeg) = 12
                            ·
                              refine pm_tableIn 322 dMo_judge_122 (by rw [h122_12]; decide) (by rw [h122_12]; decide) (by first | (rw [h122_12]; rfl) | rw [h122_12]) (by decide) ?_
                              refine pm_vload_n dMo_judge_322 rfl ((((((((((((((hp.2.2 h113).2.2 h122_0).2 h122_1).2 h122_2).2 h122_3).2 h122_4).2 h122_5).2 h122_6).2 h122_7).2 h122_8).2 h122_9).2 h122_10).2 h122_11).1 h122_12).1 ?_
                              refine pm_iload dMo_judge_323 rfl ?_
                              refine pm_aload_n dMo_judge_325 rfl ?_
                              refine pm_aload_n dMo_judge_326 rfl ?_
                              refine pm_getr dMo_judge_327 fMo_122 rfl (rr_40_36 (mk_RB hR _)) ?_
                              refine pm_iload_n dMo_judge_330 rfl ?_
                              refine pm_iald dMo_judge_331 rfl ((((((((((((((hp.2.2 h113).2.2 h122_0).2 h122_1).2 h122_2).2 h122_3).2 h122_4).2 h122_5).2 h122_6).2 h122_7).2 h122_8).2 h122_9).2 h122_10).2 h122_11).1 h122_12).2.1 ?_
                              refine pm_iload dMo_judge_332 rfl ?_
                              have hc334 := ((((((((((((((hp.2.2 h113).2.2 h122_0).2 h122_1).2 h122_2).2 h122_3).2 h122_4).2 h122_5).2 h122_6).2 h122_7).2 h122_8).2 h122_9).2 h122_10).2 h122_11).1 h122_12).2.2.1
                              refine pm_callV dMo_judge_334 lMo_365 vMo_always ⟨_, _, rfl⟩ (Mo_always_ok _ _ _ _ (mk_RB hR _) _ _ _ _ _ ((((((((((((((hp.2.2 h113).2.2 h122_0).2 h122_1).2 h122_2).2 h122_3).2 h122_4).2 h122_5).2 h122_6).2 h122_7).2 h122_8).2 h122_9).2 h122_10).2 h122_11).1 h122_12).2.2.2.1) rfl rfl rfl (pm_c8v hc334) (Nat.le_refl _) (Nat.le_refl _) ?_
                              refine pm_wk [0, 1, 2, 3, 4, 5] rfl ?_
                              exact Mo_judge_n337 g d R hR J _ _ (fMo_judge_107 n) (pMo_judge_107 n) ih  _ _ _ _ _ _ _ _ _ _ _ ((((((((((((((hp.2.2 h113).2.2 h122_0).2 h122_1).2 h122_2).2 h122_3).2 h122_4).2 h122_5).2 h122_6).2 h122_7).2 h122_8).2 h122_9).2 h122_10).2 h122_11).1 h122_12).2.2.2.2 ho (hz.trans (by first | (simp only [fMo_judge_107, if_neg h113, if_neg h122_0, if_neg h122_1, if_neg h122_2, if_neg h122_3, if_neg h122_4, if_neg h122_5, if_neg h122_6, if_neg h122_7, if_neg h122_8, if_neg h122_9, if_neg h122_10, if_neg h122_11, if_pos h122_12]; done) | (simp only [fMo_judge_107, if_neg h113, if_neg h122_0, if_neg h122_1, if_neg h122_2, if_neg h122_3, if_neg h122_4, if_neg h122_5, if_neg h122_6, if_neg h122_7, if_neg h122_8, if_neg h122_9, if_neg h122_10, if_neg h122_11, if_pos h122_12]; with_reducible rfl) | with_reducible rfl))
                            ·
                              by_cases h122_13 : (I 57 y1.toNatClampNeg) = 13
                              ·
                                refine pm_tableIn 341 dMo_judge_122 (by rw [h122_13]; decide) (by rw [h122_13]; decide) (by first | (rw [h122_13]; rfl) | rw [h122_13]) (by decide) ?_
                                refine pm_vload_n dMo_judge_341 rfl (((((((((((((((hp.2.2 h113).2.2 h122_0).2 h122_1).2 h122_2).2 h122_3).2 h122_4).2 h122_5).2 h122_6).2 h122_7).2 h122_8).2 h122_9).2 h122_10).2 h122_11).2 h122_12).1 h122_13).1 ?_
                                refine pm_iload dMo_judge_342 rfl ?_
                                refine pm_aload_n dMo_judge_344 rfl ?_
                                refine pm_getr dMo_judge_345 fMo_155 rfl (rr_40_45 (mk_RB hR _)) ?_
                                refine pm_aload_n dMo_judge_348 rfl ?_
                                refine pm_getr dMo_judge_349 fMo_122 rfl (rr_40_36 (mk_RB hR _)) ?_
                                refine pm_iload_n dMo_judge_352 rfl ?_
                                refine pm_iald dMo_judge_353 rfl (((((((((((((((hp.2.2 h113).2.2 h122_0).2 h122_1).2 h122_2).2 h122_3).2 h122_4).2 h122_5).2 h122_6).2 h122_7).2 h122_8).2 h122_9).2 h122_10).2 h122_11).2 h122_12).1 h122_13).2.1 ?_
                                have hq354 := (((((((((((((((hp.2.2 h113).2.2 h122_0).2 h122_1).2 h122_2).2 h122_3).2 h122_4).2 h122_5).2 h122_6).2 h122_7).2 h122_8).2 h122_9).2 h122_10).2 h122_11).2 h122_12).1 h122_13).2.2.1
                                refine pm_aald dMo_judge_354 rfl (Or.inr rfl) (((((((((((((((hp.2.2 h113).2.2 h122_0).2 h122_1).2 h122_2).2 h122_3).2 h122_4).2 h122_5).2 h122_6).2 h122_7).2 h122_8).2 h122_9).2 h122_10).2 h122_11).2 h122_12).1 h122_13).2.2.1 ((mk_RB hR _).2.2 _ (vp_lt (((((((((((((((hp.2.2 h113).2.2 h122_0).2 h122_1).2 h122_2).2 h122_3).2 h122_4).2 h122_5).2 h122_6).2 h122_7).2 h122_8).2 h122_9).2 h122_10).2 h122_11).2 h122_12).1 h122_13).2.2.1)) (Or.inr ⟨_, rfl⟩) ?_
                                refine pm_iload dMo_judge_355 rfl ?_
                                refine pm_zald dMo_judge_357 (mk_fS _ (vp_lt hq354)) (((((((((((((((hp.2.2 h113).2.2 h122_0).2 h122_1).2 h122_2).2 h122_3).2 h122_4).2 h122_5).2 h122_6).2 h122_7).2 h122_8).2 h122_9).2 h122_10).2 h122_11).2 h122_12).1 h122_13).2.2.2.1 ?_
                                refine pm_vzast dMo_judge_358 (((((((((((((((hp.2.2 h113).2.2 h122_0).2 h122_1).2 h122_2).2 h122_3).2 h122_4).2 h122_5).2 h122_6).2 h122_7).2 h122_8).2 h122_9).2 h122_10).2 h122_11).2 h122_12).1 h122_13).2.2.2.2.1.1 (((((((((((((((hp.2.2 h113).2.2 h122_0).2 h122_1).2 h122_2).2 h122_3).2 h122_4).2 h122_5).2 h122_6).2 h122_7).2 h122_8).2 h122_9).2 h122_10).2 h122_11).2 h122_12).1 h122_13).2.2.2.2.1.2.1 (((((((((((((((hp.2.2 h113).2.2 h122_0).2 h122_1).2 h122_2).2 h122_3).2 h122_4).2 h122_5).2 h122_6).2 h122_7).2 h122_8).2 h122_9).2 h122_10).2 h122_11).2 h122_12).1 h122_13).2.2.2.2.1.2.2 ?_
                                refine pm_goto 375 dMo_judge_359 (by decide) ?_
                                refine pm_wk [0, 1, 2, 3, 4, 5] rfl ?_
                                exact Mo_judge_n375 g d R hR J _ _ (fMo_judge_107 n) (pMo_judge_107 n) ih  _ _ _ _ _ _ _ _ (((((((((((((((hp.2.2 h113).2.2 h122_0).2 h122_1).2 h122_2).2 h122_3).2 h122_4).2 h122_5).2 h122_6).2 h122_7).2 h122_8).2 h122_9).2 h122_10).2 h122_11).2 h122_12).1 h122_13).2.2.2.2.2 ho (hz.trans (by first | (simp only [fMo_judge_107, if_neg h113, if_neg h122_0, if_neg h122_1, if_neg h122_2, if_neg h122_3, if_neg h122_4, if_neg h122_5, if_neg h122_6, if_neg h122_7, if_neg h122_8, if_neg h122_9, if_neg h122_10, if_neg h122_11, if_neg h122_12, if_pos h122_13]; done) | (simp only [fMo_judge_107, if_neg h113, if_neg h122_0, if_neg h122_1, if_neg h122_2, if_neg h122_3, if_neg h122_4, if_neg h122_5, if_neg h122_6, if_neg h122_7, if_neg h122_8, if_neg h122_9, if_neg h122_10, if_neg h122_11, if_neg h122_12, if_pos h122_13]; with_reducible rfl) | with_reducible rfl))
                              ·
                                refine pm_tableOut 370 dMo_judge_122 (pm_out (fun q9 k1 k2 => by
                                  have : q9 = 0 ∨ q9 = 1 ∨ q9 = 2 ∨ q9 = 3 ∨ q9 = 4 ∨ q9 = 5 ∨ q9 = 6 ∨ q9 = 7 ∨ q9 = 8 ∨ q9 = 9 ∨ q9 = 10 ∨ q9 = 11 ∨ q9 = 12 ∨ q9 = 13 := by omega
                                  rcases this with rfl | rfl | rfl | rfl | rfl | rfl | rfl | rfl | rfl | rfl | rfl | rfl | rfl | rfl
                                  · exact h122_0
                                  · exact h122_1
                                  · exact h122_2
                                  · exact h122_3
                                  · exact h122_4
                                  · exact h122_5
                                  · exact h122_6
                                  · exact h122_7
                                  · exact h122_8
                                  · exact h122_9
                                  · exact h122_10
                                  · exact h122_11
                                  · exact h122_12
                                  · exact h122_13
                                  )) (by decide) ?_
                                refine pm_vload_n dMo_judge_370 rfl (((((((((((((((hp.2.2 h113).2.2 h122_0).2 h122_1).2 h122_2).2 h122_3).2 h122_4).2 h122_5).2 h122_6).2 h122_7).2 h122_8).2 h122_9).2 h122_10).2 h122_11).2 h122_12).2 h122_13).1 ?_
                                refine pm_iload dMo_judge_371 rfl ?_
                                refine pm_iconst (v := 0) dMo_judge_373 (by decide) ?_
                                refine pm_vzast dMo_judge_374 (((((((((((((((hp.2.2 h113).2.2 h122_0).2 h122_1).2 h122_2).2 h122_3).2 h122_4).2 h122_5).2 h122_6).2 h122_7).2 h122_8).2 h122_9).2 h122_10).2 h122_11).2 h122_12).2 h122_13).2.1.1 (((((((((((((((hp.2.2 h113).2.2 h122_0).2 h122_1).2 h122_2).2 h122_3).2 h122_4).2 h122_5).2 h122_6).2 h122_7).2 h122_8).2 h122_9).2 h122_10).2 h122_11).2 h122_12).2 h122_13).2.1.2.1 (((((((((((((((hp.2.2 h113).2.2 h122_0).2 h122_1).2 h122_2).2 h122_3).2 h122_4).2 h122_5).2 h122_6).2 h122_7).2 h122_8).2 h122_9).2 h122_10).2 h122_11).2 h122_12).2 h122_13).2.1.2.2 ?_
                                refine pm_wk [0, 1, 2, 3, 4, 5] rfl ?_
                                exact Mo_judge_n375 g d R hR J _ _ (fMo_judge_107 n) (pMo_judge_107 n) ih  _ _ _ _ _ _ _ _ (((((((((((((((hp.2.2 h113).2.2 h122_0).2 h122_1).2 h122_2).2 h122_3).2 h122_4).2 h122_5).2 h122_6).2 h122_7).2 h122_8).2 h122_9).2 h122_10).2 h122_11).2 h122_12).2 h122_13).2.2 ho (hz.trans (by first | (simp only [fMo_judge_107, if_neg h113, if_neg h122_0, if_neg h122_1, if_neg h122_2, if_neg h122_3, if_neg h122_4, if_neg h122_5, if_neg h122_6, if_neg h122_7, if_neg h122_8, if_neg h122_9, if_neg h122_10, if_neg h122_11, if_neg h122_12, if_neg h122_13]; done) | (simp only [fMo_judge_107, if_neg h113, if_neg h122_0, if_neg h122_1, if_neg h122_2, if_neg h122_3, if_neg h122_4, if_neg h122_5, if_neg h122_6, if_neg h122_7, if_neg h122_8, if_neg h122_9, if_neg h122_10, if_neg h122_11, if_neg h122_12, if_neg h122_13]; with_reducible rfl) | with_reducible rfl))
set_option maxHeartbeats 4000000 in
set_option maxRecDepth 100000 in
theorem Mo_judge_n102 (g : pmG) (d : Nat) (R : Nat → Nat → Value) (hR : mk_R R) (J : Nat → Nat → Int64) (o : Outcome) (Z : pmM) (n107 : Nat) (y1 : Int32) (y2 : Value) (y3 : Value) (z0 : Value) (I : Nat → Nat → Int32) (B : Nat → Value) (E : List (Nat × Nat)) (hp : pMo_judge_102 n107 y1 y2 y3 z0 I B E) (ho : o = .returned none) (hz : Z = (mk_K ++ E, mk_B R B, (fMo_judge_102 n107 y1 y2 y3 z0 I B E), J)) : pmE g kMo_judge (d + 606) 0 0 102 [(0, .ref 40), (1, .int y1), (2, y2), (3, y3)] [z0] (mk_K ++ E) (mk_B R B) I J o Z := by
  unfold pMo_judge_102 at hp
  refine pm_vstore dMo_judge_102 (by decide) hp.1.1 (pm_stv rfl hp.1.2) ?_
  refine pm_iconst (v := 0) dMo_judge_104 (by decide) ?_
  refine pm_istore dMo_judge_105 (by decide) (pm_stv rfl hp.2.1) ?_
  refine pm_wk [2, 3, 4, 5, 1, 0] rfl ?_
  exact Mo_judge_n107 g d R hR J _ _  n107 _ _ _ _ _ _ _ _ hp.2.2 ho (hz.trans (by first | (simp only [fMo_judge_102]; done) | (simp only [fMo_judge_102]; with_reducible rfl) | with_reducible rfl))
set_option maxHeartbeats 4000000 in
set_option maxRecDepth 100000 in
theorem Mo_judge_n87 (g : pmG) (d : Nat) (R : Nat → Nat → Value) (hR : mk_R R) (J : Nat → Nat → Int64) (o : Outcome) (Z : pmM) (n107 : Nat) (y1 : Int32) (y2 : Value) (y3 : Value) (I : Nat → Nat → Int32) (B : Nat → Value) (E : List (Nat × Nat)) (hp : pMo_judge_87 n107 y1 y2 y3 I B E) (ho : o = .returned none) (hz : Z = (mk_K ++ E, mk_B R B, (fMo_judge_87 n107 y1 y2 y3 I B E), J)) : pmE g kMo_judge (d + 606) 0 0 87 [(0, .ref 40), (1, .int y1), (2, y2), (3, y3)] [] (mk_K ++ E) (mk_B R B) I J o Z := by
  unfold pMo_judge_87 at hp
  refine pm_aload_n dMo_judge_87 rfl ?_
  refine pm_getr dMo_judge_88 fMo_147 rfl (rr_40_43 (mk_RB hR _)) ?_
  refine pm_aload_n dMo_judge_91 rfl ?_
  refine pm_getr dMo_judge_92 fMo_125 rfl (rr_40_37 (mk_RB hR _)) ?_
  refine pm_iload_n dMo_judge_95 rfl ?_
  refine pm_iald dMo_judge_96 rfl hp.1 ?_
  refine pm_aald (v := B (I 59 y1.toNatClampNeg).toNatClampNeg) dMo_judge_97 rfl (Or.inr rfl) hp.2.1.1 rfl hp.2.1.2 ?_
  refine pm_goto 102 dMo_judge_98 (by decide) ?_
  refine pm_wk [0, 1, 2, 3] rfl ?_
  exact Mo_judge_n102 g d R hR J _ _  n107 _ _ _ _ _ _ _ hp.2.2 ho (hz.trans (by first | (simp only [fMo_judge_87]; done) | (simp only [fMo_judge_87]; with_reducible rfl) | with_reducible rfl))
set_option maxHeartbeats 4000000 in
set_option maxRecDepth 100000 in
theorem Mo_judge_n65 (g : pmG) (d : Nat) (R : Nat → Nat → Value) (hR : mk_R R) (J : Nat → Nat → Int64) (o : Outcome) (Z : pmM) (n107 : Nat) (y1 : Int32) (y2 : Value) (y3 : Value) (I : Nat → Nat → Int32) (B : Nat → Value) (E : List (Nat × Nat)) (hp : pMo_judge_65 n107 y1 y2 y3 I B E) (ho : o = .returned none) (hz : Z = (mk_K ++ E, mk_B R B, (fMo_judge_65 n107 y1 y2 y3 I B E), J)) : pmE g kMo_judge (d + 606) 0 0 65 [(0, .ref 40), (1, .int y1), (2, y2), (3, y3)] [] (mk_K ++ E) (mk_B R B) I J o Z := by
  unfold pMo_judge_65 at hp
  refine pm_aload_n dMo_judge_65 rfl ?_
  refine pm_getr dMo_judge_66 fMo_119 rfl (rr_40_35 (mk_RB hR _)) ?_
  refine pm_iload_n dMo_judge_69 rfl ?_
  refine pm_iald dMo_judge_70 rfl hp.1 ?_
  refine pm_bipush (v := 6) dMo_judge_71 (by decide) ?_
  refine pm_icmp_eq 87 dMo_judge_73 (by decide) (fun h73 => ?_) (fun h73 => ?_)
  ·
    refine pm_wk [0, 1, 2, 3] rfl ?_
    exact Mo_judge_n87 g d R hR J _ _  n107 _ _ _ _ _ _ (hp.2.1 h73) ho (hz.trans (by first | (simp only [fMo_judge_65, if_pos h73]; done) | (simp only [fMo_judge_65, if_pos h73]; with_reducible rfl) | with_reducible rfl))
  ·
    refine pm_aload_n dMo_judge_76 rfl ?_
    refine pm_getr dMo_judge_77 fMo_119 rfl (rr_40_35 (mk_RB hR _)) ?_
    refine pm_iload_n dMo_judge_80 rfl ?_
    refine pm_iald dMo_judge_81 rfl (hp.2.2 h73).1 ?_
    refine pm_bipush (v := 7) dMo_judge_82 (by decide) ?_
    refine pm_icmp_ne 101 dMo_judge_84 (by decide) (fun h84 => ?_) (fun h84 => ?_)
    ·
      refine pm_null dMo_judge_101 ?_
      refine pm_wk [0, 1, 2, 3] rfl ?_
      exact Mo_judge_n102 g d R hR J _ _  n107 _ _ _ _ _ _ _ ((hp.2.2 h73).2.2 h84) ho (hz.trans (by first | (simp only [fMo_judge_65, if_neg h73, if_neg h84]; done) | (simp only [fMo_judge_65, if_neg h73, if_neg h84]; with_reducible rfl) | with_reducible rfl))
    ·
      refine pm_wk [0, 1, 2, 3] rfl ?_
      exact Mo_judge_n87 g d R hR J _ _  n107 _ _ _ _ _ _ ((hp.2.2 h73).2.1 h84) ho (hz.trans (by first | (simp only [fMo_judge_65, if_neg h73, if_pos h84]; done) | (simp only [fMo_judge_65, if_neg h73, if_pos h84]; with_reducible rfl) | with_reducible rfl))
set_option maxHeartbeats 4000000 in
set_option maxRecDepth 100000 in
theorem Mo_judge_n44 (g : pmG) (d : Nat) (R : Nat → Nat → Value) (hR : mk_R R) (J : Nat → Nat → Int64) (o : Outcome) (Z : pmM) (n107 : Nat) (y1 : Int32) (y2 : Value) (z0 : Value) (I : Nat → Nat → Int32) (B : Nat → Value) (E : List (Nat × Nat)) (hp : pMo_judge_44 n107 y1 y2 z0 I B E) (ho : o = .returned none) (hz : Z = (mk_K ++ E, mk_B R B, (fMo_judge_44 n107 y1 y2 z0 I B E), J)) : pmE g kMo_judge (d + 606) 0 0 44 [(0, .ref 40), (1, .int y1), (2, y2)] [z0] (mk_K ++ E) (mk_B R B) I J o Z := by
  unfold pMo_judge_44 at hp
  refine pm_vstore_n dMo_judge_44 (by decide) hp.1.1 (pm_stv rfl hp.1.2) ?_
  refine pm_aload_n dMo_judge_45 rfl ?_
  refine pm_getr dMo_judge_46 fMo_119 rfl (rr_40_35 (mk_RB hR _)) ?_
  refine pm_iload_n dMo_judge_49 rfl ?_
  refine pm_iald dMo_judge_50 rfl hp.2.1 ?_
  refine pm_iconst (v := 1) dMo_judge_51 (by decide) ?_
  refine pm_icmp_lt 65 dMo_judge_52 (by decide) (fun h52 => ?_) (fun h52 => ?_)
  ·
    refine pm_wk [1, 2, 3, 0] rfl ?_
    exact Mo_judge_n65 g d R hR J _ _  n107 _ _ _ _ _ _ (hp.2.2.1 h52) ho (hz.trans (by first | (simp only [fMo_judge_44, if_pos h52]; done) | (simp only [fMo_judge_44, if_pos h52]; with_reducible rfl) | with_reducible rfl))
  ·
    refine pm_aload_n dMo_judge_55 rfl ?_
    refine pm_getr dMo_judge_56 fMo_119 rfl (rr_40_35 (mk_RB hR _)) ?_
    refine pm_iload_n dMo_judge_59 rfl ?_
    refine pm_iald dMo_judge_60 rfl (hp.2.2.2 h52).1 ?_
    refine pm_iconst (v := 3) dMo_judge_61 (by decide) ?_
    refine pm_icmp_le 87 dMo_judge_62 (by decide) (fun h62 => ?_) (fun h62 => ?_)
    ·
      refine pm_wk [1, 2, 3, 0] rfl ?_
      exact Mo_judge_n87 g d R hR J _ _  n107 _ _ _ _ _ _ ((hp.2.2.2 h52).2.1 h62) ho (hz.trans (by first | (simp only [fMo_judge_44, if_neg h52, if_pos h62]; done) | (simp only [fMo_judge_44, if_neg h52, if_pos h62]; with_reducible rfl) | with_reducible rfl))
    ·
      refine pm_wk [1, 2, 3, 0] rfl ?_
      exact Mo_judge_n65 g d R hR J _ _  n107 _ _ _ _ _ _ ((hp.2.2.2 h52).2.2 h62) ho (hz.trans (by first | (simp only [fMo_judge_44, if_neg h52, if_neg h62]; done) | (simp only [fMo_judge_44, if_neg h52, if_neg h62]; with_reducible rfl) | with_reducible rfl))
set_option maxHeartbeats 4000000 in
set_option maxRecDepth 100000 in
theorem Mo_judge_n29 (g : pmG) (d : Nat) (R : Nat → Nat → Value) (hR : mk_R R) (J : Nat → Nat → Int64) (o : Outcome) (Z : pmM) (n107 : Nat) (y1 : Int32) (y2 : Value) (I : Nat → Nat → Int32) (B : Nat → Value) (E : List (Nat × Nat)) (hp : pMo_judge_29 n107 y1 y2 I B E) (ho : o = .returned none) (hz : Z = (mk_K ++ E, mk_B R B, (fMo_judge_29 n107 y1 y2 I B E), J)) : pmE g kMo_judge (d + 606) 0 0 29 [(0, .ref 40), (1, .int y1), (2, y2)] [] (mk_K ++ E) (mk_B R B) I J o Z := by
  unfold pMo_judge_29 at hp
  refine pm_null dMo_judge_29 ?_
  refine pm_goto 44 dMo_judge_30 (by decide) ?_
  refine pm_wk [0, 1, 2] rfl ?_
  exact Mo_judge_n44 g d R hR J _ _  n107 _ _ _ _ _ _ hp ho (hz.trans (by first | (simp only [fMo_judge_29]; done) | (simp only [fMo_judge_29]; with_reducible rfl) | with_reducible rfl))
set_option maxHeartbeats 4000000 in
set_option maxRecDepth 100000 in
theorem Mo_judge_n0 (g : pmG) (d : Nat) (R : Nat → Nat → Value) (hR : mk_R R) (J : Nat → Nat → Int64) (o : Outcome) (Z : pmM) (n107 : Nat) (y1 : Int32) (I : Nat → Nat → Int32) (B : Nat → Value) (E : List (Nat × Nat)) (hp : pMo_judge n107 y1 I B E) (ho : o = .returned none) (hz : Z = (mk_K ++ E, mk_B R B, (fMo_judge n107 y1 I B E), J)) : pmE g kMo_judge (d + 606) 0 0 0 [(0, .ref 40), (1, .int y1)] [] (mk_K ++ E) (mk_B R B) I J o Z := by
  unfold pMo_judge at hp
  refine pm_aload_n dMo_judge_0 rfl ?_
  refine pm_getr dMo_judge_1 fMo_147 rfl (rr_40_43 (mk_RB hR _)) ?_
  refine pm_iload_n dMo_judge_4 rfl ?_
  refine pm_aald (v := B y1.toNatClampNeg) dMo_judge_5 rfl (Or.inr rfl) hp.1.1 rfl hp.1.2 ?_
  refine pm_vstore_n dMo_judge_6 (by decide) hp.2.1 rfl ?_
  refine pm_aload_n dMo_judge_7 rfl ?_
  refine pm_getr dMo_judge_8 fMo_119 rfl (rr_40_35 (mk_RB hR _)) ?_
  refine pm_iload_n dMo_judge_11 rfl ?_
  refine pm_iald dMo_judge_12 rfl hp.2.2.1 ?_
  refine pm_bipush (v := 12) dMo_judge_13 (by decide) ?_
  refine pm_icmp_eq 29 dMo_judge_15 (by decide) (fun h15 => ?_) (fun h15 => ?_)
  ·
    refine pm_wk [1, 2, 0] rfl ?_
    exact Mo_judge_n29 g d R hR J _ _  n107 _ _ _ _ _ (hp.2.2.2.1 h15) ho (hz.trans (by first | (simp only [fMo_judge, if_pos h15]; done) | (simp only [fMo_judge, if_pos h15]; with_reducible rfl) | with_reducible rfl))
  ·
    refine pm_aload_n dMo_judge_18 rfl ?_
    refine pm_getr dMo_judge_19 fMo_119 rfl (rr_40_35 (mk_RB hR _)) ?_
    refine pm_iload_n dMo_judge_22 rfl ?_
    refine pm_iald dMo_judge_23 rfl (hp.2.2.2.2 h15).1 ?_
    refine pm_bipush (v := 13) dMo_judge_24 (by decide) ?_
    refine pm_icmp_ne 33 dMo_judge_26 (by decide) (fun h26 => ?_) (fun h26 => ?_)
    ·
      refine pm_aload_n dMo_judge_33 rfl ?_
      refine pm_getr dMo_judge_34 fMo_147 rfl (rr_40_43 (mk_RB hR _)) ?_
      refine pm_aload_n dMo_judge_37 rfl ?_
      refine pm_getr dMo_judge_38 fMo_122 rfl (rr_40_36 (mk_RB hR _)) ?_
      refine pm_iload_n dMo_judge_41 rfl ?_
      refine pm_iald dMo_judge_42 rfl ((hp.2.2.2.2 h15).2.2 h26).1 ?_
      refine pm_aald (v := B (I 58 y1.toNatClampNeg).toNatClampNeg) dMo_judge_43 rfl (Or.inr rfl) ((hp.2.2.2.2 h15).2.2 h26).2.1.1 rfl ((hp.2.2.2.2 h15).2.2 h26).2.1.2 ?_
      refine pm_wk [1, 2, 0] rfl ?_
      exact Mo_judge_n44 g d R hR J _ _  n107 _ _ _ _ _ _ ((hp.2.2.2.2 h15).2.2 h26).2.2 ho (hz.trans (by first | (simp only [fMo_judge, if_neg h15, if_neg h26]; done) | (simp only [fMo_judge, if_neg h15, if_neg h26]; with_reducible rfl) | with_reducible rfl))
    ·
      refine pm_wk [1, 2, 0] rfl ?_
      exact Mo_judge_n29 g d R hR J _ _  n107 _ _ _ _ _ ((hp.2.2.2.2 h15).2.1 h26) ho (hz.trans (by first | (simp only [fMo_judge, if_neg h15, if_pos h26]; done) | (simp only [fMo_judge, if_neg h15, if_pos h26]; with_reducible rfl) | with_reducible rfl))
set_option maxHeartbeats 4000000 in
set_option maxRecDepth 100000 in
theorem Mo_judge_ok (g : pmG) (d : Nat) (R : Nat → Nat → Value) (hR : mk_R R) (n107 : Nat) (x0 : Int32) (I : Nat → Nat → Int32) (B : Nat → Value) (E : List (Nat × Nat)) (J : Nat → Nat → Int64) (hp : pMo_judge n107 x0 I B E) : pmC g kMo_judge (d + 606) 0 0 [.ref 40, .int x0] (mk_K ++ E, mk_B R B, I, J) (.returned none) (mk_K ++ E, mk_B R B, (fMo_judge n107 x0 I B E), J) :=
  pmC.of (by decide) (Nat.le_of_ble_eq_true rfl) (Mo_judge_n0 g d R hR J _ _ n107 x0 I B E hp rfl rfl)
def fMo_workOut_80 (r2 : Int32 → (Nat → Nat → Int32) → (Nat → Value) → (List (Nat × Nat)) → (Nat → Nat → Int32) × (Nat → Value) × List (Nat × Nat)) (r12 : Int32 → Int32 → (Nat → Nat → Int32) → (Nat → Value) → (List (Nat × Nat)) → (Nat → Nat → Int32) × (Nat → Value) × List (Nat × Nat)) (r31 : Int32 → Int32 → Int32 → Int32 → (Nat → Nat → Int32) → (Nat → Value) → (List (Nat × Nat)) → (Nat → Nat → Int32) × (Nat → Value) × List (Nat × Nat)) (y1 : Int32) (y2 : Int32) (y3 : Int32) (y4 : Int32) (z0 : Int32) (z1 : Int32) (I : Nat → Nat → Int32) (B : Nat → Value) (E : List (Nat × Nat)) : (Nat → Nat → Int32) × (Nat → Value) × List (Nat × Nat) :=
  r31 y1 y2 (z0 ||| (z1 &&& (((1 : Int32) <<< ((I 46 y4.toNatClampNeg) &&& 31)) - (1 : Int32)))) (y4 + Int32.ofInt 1) I B E
def pMo_workOut_80 (q2 : Int32 → (Nat → Nat → Int32) → (Nat → Value) → (List (Nat × Nat)) → Prop) (q12 : Int32 → Int32 → (Nat → Nat → Int32) → (Nat → Value) → (List (Nat × Nat)) → Prop) (q31 : Int32 → Int32 → Int32 → Int32 → (Nat → Nat → Int32) → (Nat → Value) → (List (Nat × Nat)) → Prop) (y1 : Int32) (y2 : Int32) (y3 : Int32) (y4 : Int32) (z0 : Int32) (z1 : Int32) (I : Nat → Nat → Int32) (B : Nat → Value) (E : List (Nat × Nat)) : Prop :=
  (vp_in y4 8) ∧ (q31 y1 y2 (z0 ||| (z1 &&& (((1 : Int32) <<< ((I 46 y4.toNatClampNeg) &&& 31)) - (1 : Int32)))) (y4 + Int32.ofInt 1) I B E)
def fMo_workOut_31 (r2 : Int32 → (Nat → Nat → Int32) → (Nat → Value) → (List (Nat × Nat)) → (Nat → Nat → Int32) × (Nat → Value) × List (Nat × Nat)) (r12 : Int32 → Int32 → (Nat → Nat → Int32) → (Nat → Value) → (List (Nat × Nat)) → (Nat → Nat → Int32) × (Nat → Value) × List (Nat × Nat)) : Nat → Int32 → Int32 → Int32 → Int32 → (Nat → Nat → Int32) → (Nat → Value) → List (Nat × Nat) → (Nat → Nat → Int32) × (Nat → Value) × List (Nat × Nat)
  | 0, _, _, _, _, I, B, E => (I, B, E)
  | n + 1, y1, y2, y3, y4, I, B, E =>
  if (I 40 23) ≤ y4 then r12 y1 (y2 + Int32.ofInt 1) (pm_u I (64 + y1.toNatClampNeg) y2.toNatClampNeg y3) B E
  else if 0 ≤ (I 48 y4.toNatClampNeg) then fMo_workOut_80 r2 r12 (fMo_workOut_31 r2 r12 n) y1 y2 y3 y4 (y3 <<< ((I 46 y4.toNatClampNeg) &&& 31)) ((fmv_Mo_value (I 48 y4.toNatClampNeg) I)) I B E
    else fMo_workOut_80 r2 r12 (fMo_workOut_31 r2 r12 n) y1 y2 y3 y4 (y3 <<< ((I 46 y4.toNatClampNeg) &&& 31)) (I 60 y4.toNatClampNeg) I B E
def pMo_workOut_31 (q2 : Int32 → (Nat → Nat → Int32) → (Nat → Value) → (List (Nat × Nat)) → Prop) (q12 : Int32 → Int32 → (Nat → Nat → Int32) → (Nat → Value) → (List (Nat × Nat)) → Prop) : Nat → Int32 → Int32 → Int32 → Int32 → (Nat → Nat → Int32) → (Nat → Value) → List (Nat × Nat) → Prop
  | 0, _, _, _, _, _, _, _ => False
  | n + 1, y1, y2, y3, y4, I, B, E =>
  ((I 40 23) ≤ y4 → (vp_in y1 256) ∧ ((vp_in y2 8) ∧ (q12 y1 (y2 + Int32.ofInt 1) (pm_u I (64 + y1.toNatClampNeg) y2.toNatClampNeg y3) B E))) ∧
  (¬ ((I 40 23) ≤ y4) → (vp_in y4 8) ∧ ((vp_in y4 8) ∧ ((0 ≤ (I 48 y4.toNatClampNeg) → (vp_in y4 8) ∧ ((pmv_Mo_value (I 48 y4.toNatClampNeg) I) ∧ (pMo_workOut_80 q2 q12 (pMo_workOut_31 q2 q12 n) y1 y2 y3 y4 (y3 <<< ((I 46 y4.toNatClampNeg) &&& 31)) ((fmv_Mo_value (I 48 y4.toNatClampNeg) I)) I B E))) ∧
    (¬ (0 ≤ (I 48 y4.toNatClampNeg)) → (vp_in y4 8) ∧ (pMo_workOut_80 q2 q12 (pMo_workOut_31 q2 q12 n) y1 y2 y3 y4 (y3 <<< ((I 46 y4.toNatClampNeg) &&& 31)) (I 60 y4.toNatClampNeg) I B E)))))
def fMo_workOut_26 (r2 : Int32 → (Nat → Nat → Int32) → (Nat → Value) → (List (Nat × Nat)) → (Nat → Nat → Int32) × (Nat → Value) × List (Nat × Nat)) (r12 : Int32 → Int32 → (Nat → Nat → Int32) → (Nat → Value) → (List (Nat × Nat)) → (Nat → Nat → Int32) × (Nat → Value) × List (Nat × Nat)) (n31 : Nat) (y1 : Int32) (y2 : Int32) (I : Nat → Nat → Int32) (B : Nat → Value) (E : List (Nat × Nat)) : (Nat → Nat → Int32) × (Nat → Value) × List (Nat × Nat) :=
  fMo_workOut_31 r2 r12 n31 y1 y2 (0 : Int32) (0 : Int32) I B E
def pMo_workOut_26 (q2 : Int32 → (Nat → Nat → Int32) → (Nat → Value) → (List (Nat × Nat)) → Prop) (q12 : Int32 → Int32 → (Nat → Nat → Int32) → (Nat → Value) → (List (Nat × Nat)) → Prop) (n31 : Nat) (y1 : Int32) (y2 : Int32) (I : Nat → Nat → Int32) (B : Nat → Value) (E : List (Nat × Nat)) : Prop :=
  pMo_workOut_31 q2 q12 n31 y1 y2 (0 : Int32) (0 : Int32) I B E
def fMo_workOut_12 (r2 : Int32 → (Nat → Nat → Int32) → (Nat → Value) → (List (Nat × Nat)) → (Nat → Nat → Int32) × (Nat → Value) × List (Nat × Nat)) (n31 : Nat) : Nat → Int32 → Int32 → (Nat → Nat → Int32) → (Nat → Value) → List (Nat × Nat) → (Nat → Nat → Int32) × (Nat → Value) × List (Nat × Nat)
  | 0, _, _, I, B, E => (I, B, E)
  | n + 1, y1, y2, I, B, E =>
  if ((fMo_allInputs I)) ≤ y2 then r2 (y1 + Int32.ofInt 1) I B E
  else fMo_workOut_26 r2 (fMo_workOut_12 r2 n31 n) n31 y1 y2 ((fMo_set 61 61 61 y1 y2 I)) B E
def pMo_workOut_12 (q2 : Int32 → (Nat → Nat → Int32) → (Nat → Value) → (List (Nat × Nat)) → Prop) (n31 : Nat) : Nat → Int32 → Int32 → (Nat → Nat → Int32) → (Nat → Value) → List (Nat × Nat) → Prop
  | 0, _, _, _, _, _ => False
  | n + 1, y1, y2, I, B, E =>
  (pMo_allInputs I) ∧ ((((fMo_allInputs I)) ≤ y2 → q2 (y1 + Int32.ofInt 1) I B E) ∧
  (¬ (((fMo_allInputs I)) ≤ y2) → (pMo_set 61 61 61 y1 y2 I) ∧ (pMo_workOut_26 q2 (pMo_workOut_12 q2 n31 n) n31 y1 y2 ((fMo_set 61 61 61 y1 y2 I)) B E)))
def fMo_workOut_196 (r123 : Int32 → (Nat → Nat → Int32) → (Nat → Value) → (List (Nat × Nat)) → (Nat → Nat → Int32) × (Nat → Value) × List (Nat × Nat)) (r158 : Int32 → Int32 → (Nat → Nat → Int32) → (Nat → Value) → (List (Nat × Nat)) → (Nat → Nat → Int32) × (Nat → Value) × List (Nat × Nat)) (y1 : Int32) (y2 : Int32) (I : Nat → Nat → Int32) (B : Nat → Value) (E : List (Nat × Nat)) : (Nat → Nat → Int32) × (Nat → Value) × List (Nat × Nat) :=
  r158 y1 (y2 + Int32.ofInt 1) I B E
def pMo_workOut_196 (q123 : Int32 → (Nat → Nat → Int32) → (Nat → Value) → (List (Nat × Nat)) → Prop) (q158 : Int32 → Int32 → (Nat → Nat → Int32) → (Nat → Value) → (List (Nat × Nat)) → Prop) (y1 : Int32) (y2 : Int32) (I : Nat → Nat → Int32) (B : Nat → Value) (E : List (Nat × Nat)) : Prop :=
  q158 y1 (y2 + Int32.ofInt 1) I B E
def fMo_workOut_158 (r123 : Int32 → (Nat → Nat → Int32) → (Nat → Value) → (List (Nat × Nat)) → (Nat → Nat → Int32) × (Nat → Value) × List (Nat × Nat)) : Nat → Int32 → Int32 → (Nat → Nat → Int32) → (Nat → Value) → List (Nat × Nat) → (Nat → Nat → Int32) × (Nat → Value) × List (Nat × Nat)
  | 0, _, _, I, B, E => (I, B, E)
  | n + 1, y1, y2, I, B, E =>
  if (I 40 26) ≤ y2 then r123 (y1 + Int32.ofInt 1) I B E
  else if (I 51 y2.toNatClampNeg) = y1 then fMo_workOut_196 r123 (fMo_workOut_158 r123 n) y1 y2 (pm_cpz I (pa (B y1.toNatClampNeg)) (323 + y2.toNatClampNeg) (0 : Int32).toNatClampNeg (0 : Int32).toNatClampNeg (256 : Int32).toNatClampNeg) B E
    else fMo_workOut_196 r123 (fMo_workOut_158 r123 n) y1 y2 I B E
def pMo_workOut_158 (q123 : Int32 → (Nat → Nat → Int32) → (Nat → Value) → (List (Nat × Nat)) → Prop) : Nat → Int32 → Int32 → (Nat → Nat → Int32) → (Nat → Value) → List (Nat × Nat) → Prop
  | 0, _, _, _, _, _ => False
  | n + 1, y1, y2, I, B, E =>
  ((I 40 26) ≤ y2 → q123 (y1 + Int32.ofInt 1) I B E) ∧
  (¬ ((I 40 26) ≤ y2) → (vp_in y2 30) ∧ (((I 51 y2.toNatClampNeg) = y1 → (vp_in y1 4200 ∧ pv (B y1.toNatClampNeg)) ∧ ((vp_in y2 30) ∧ (((B y1.toNatClampNeg) = .ref (pa (B y1.toNatClampNeg)) ∧ (mk_K ++ E)[pa (B y1.toNatClampNeg)]? = some (3, 256) ∧ pm_bz I (pa (B y1.toNatClampNeg)) (0 : Int32).toNatClampNeg (256 : Int32).toNatClampNeg) ∧ (pMo_workOut_196 q123 (pMo_workOut_158 q123 n) y1 y2 (pm_cpz I (pa (B y1.toNatClampNeg)) (323 + y2.toNatClampNeg) (0 : Int32).toNatClampNeg (0 : Int32).toNatClampNeg (256 : Int32).toNatClampNeg) B E)))) ∧
    (¬ ((I 51 y2.toNatClampNeg) = y1) → pMo_workOut_196 q123 (pMo_workOut_158 q123 n) y1 y2 I B E)))
def fMo_workOut_156 (r123 : Int32 → (Nat → Nat → Int32) → (Nat → Value) → (List (Nat × Nat)) → (Nat → Nat → Int32) × (Nat → Value) × List (Nat × Nat)) (n158 : Nat) (y1 : Int32) (I : Nat → Nat → Int32) (B : Nat → Value) (E : List (Nat × Nat)) : (Nat → Nat → Int32) × (Nat → Value) × List (Nat × Nat) :=
  fMo_workOut_158 r123 n158 y1 (0 : Int32) I B E
def pMo_workOut_156 (q123 : Int32 → (Nat → Nat → Int32) → (Nat → Value) → (List (Nat × Nat)) → Prop) (n158 : Nat) (y1 : Int32) (I : Nat → Nat → Int32) (B : Nat → Value) (E : List (Nat × Nat)) : Prop :=
  pMo_workOut_158 q123 n158 y1 (0 : Int32) I B E
def fMo_workOut_151 (r123 : Int32 → (Nat → Nat → Int32) → (Nat → Value) → (List (Nat × Nat)) → (Nat → Nat → Int32) × (Nat → Value) × List (Nat × Nat)) (n158 : Nat) (y1 : Int32) (I : Nat → Nat → Int32) (B : Nat → Value) (E : List (Nat × Nat)) : (Nat → Nat → Int32) × (Nat → Value) × List (Nat × Nat) :=
  fMo_workOut_156 r123 n158 y1 ((fMo_judge 257 y1 I B E)) B E
def pMo_workOut_151 (q123 : Int32 → (Nat → Nat → Int32) → (Nat → Value) → (List (Nat × Nat)) → Prop) (n158 : Nat) (y1 : Int32) (I : Nat → Nat → Int32) (B : Nat → Value) (E : List (Nat × Nat)) : Prop :=
  (pMo_judge 257 y1 I B E) ∧ (pMo_workOut_156 q123 n158 y1 ((fMo_judge 257 y1 I B E)) B E)
def fMo_workOut_123 (n158 : Nat) : Nat → Int32 → (Nat → Nat → Int32) → (Nat → Value) → List (Nat × Nat) → (Nat → Nat → Int32) × (Nat → Value) × List (Nat × Nat)
  | 0, _, I, B, E => (I, B, E)
  | n + 1, y1, I, B, E =>
  if (I 40 38) ≤ y1 then (I, B, E)
  else if isn (B y1.toNatClampNeg) = true then fMo_workOut_151 (fMo_workOut_123 n158 n) n158 y1 (pm_z I (mk_K ++ E).length 0) (fun j => if j = y1.toNatClampNeg then Value.ref (mk_K ++ E).length else B j) (E ++ [(3, 256)])
    else fMo_workOut_151 (fMo_workOut_123 n158 n) n158 y1 I B E
def pMo_workOut_123 (n158 : Nat) : Nat → Int32 → (Nat → Nat → Int32) → (Nat → Value) → List (Nat × Nat) → Prop
  | 0, _, _, _, _ => False
  | n + 1, y1, I, B, E =>
  ((I 40 38) ≤ y1 → True) ∧
  (¬ ((I 40 38) ≤ y1) → (vp_in y1 4200 ∧ pv (B y1.toNatClampNeg)) ∧ ((pv (B y1.toNatClampNeg)) ∧ ((isn (B y1.toNatClampNeg) = true → (vp_in y1 4200) ∧ ((E ++ [(3, 256)]).length ≤ ((fMo_workOut_151 (fMo_workOut_123 n158 n) n158 y1 (pm_z I (mk_K ++ E).length 0) (fun j => if j = y1.toNatClampNeg then Value.ref (mk_K ++ E).length else B j) (E ++ [(3, 256)])).2.2).length ∧ (pMo_workOut_151 (pMo_workOut_123 n158 n) n158 y1 (pm_z I (mk_K ++ E).length 0) (fun j => if j = y1.toNatClampNeg then Value.ref (mk_K ++ E).length else B j) (E ++ [(3, 256)])))) ∧
    (¬ (isn (B y1.toNatClampNeg) = true) → pMo_workOut_151 (pMo_workOut_123 n158 n) n158 y1 I B E))))
def fMo_workOut_2 (n31 : Nat) (n12 : Nat) (n158 : Nat) (n123 : Nat) : Nat → Int32 → (Nat → Nat → Int32) → (Nat → Value) → List (Nat × Nat) → (Nat → Nat → Int32) × (Nat → Value) × List (Nat × Nat)
  | 0, _, I, B, E => (I, B, E)
  | n + 1, y1, I, B, E =>
  if ((fMo_all I)) ≤ y1 then fMo_workOut_123 n158 n123 (0 : Int32) I B E
  else fMo_workOut_12 (fMo_workOut_2 n31 n12 n158 n123 n) n31 n12 y1 (0 : Int32) I B E
def pMo_workOut_2 (n31 : Nat) (n12 : Nat) (n158 : Nat) (n123 : Nat) : Nat → Int32 → (Nat → Nat → Int32) → (Nat → Value) → List (Nat × Nat) → Prop
  | 0, _, _, _, _ => False
  | n + 1, y1, I, B, E =>
  (pMo_all I) ∧ ((((fMo_all I)) ≤ y1 → pMo_workOut_123 n158 n123 (0 : Int32) I B E) ∧
  (¬ (((fMo_all I)) ≤ y1) → pMo_workOut_12 (pMo_workOut_2 n31 n12 n158 n123 n) n31 n12 y1 (0 : Int32) I B E))
def fMo_workOut (n31 : Nat) (n12 : Nat) (n158 : Nat) (n123 : Nat) (n2 : Nat) (I : Nat → Nat → Int32) (B : Nat → Value) (E : List (Nat × Nat)) : (Nat → Nat → Int32) × (Nat → Value) × List (Nat × Nat) :=
  fMo_workOut_2 n31 n12 n158 n123 n2 (0 : Int32) I B E
def pMo_workOut (n31 : Nat) (n12 : Nat) (n158 : Nat) (n123 : Nat) (n2 : Nat) (I : Nat → Nat → Int32) (B : Nat → Value) (E : List (Nat × Nat)) : Prop :=
  pMo_workOut_2 n31 n12 n158 n123 n2 (0 : Int32) I B E
set_option maxHeartbeats 4000000 in
set_option maxRecDepth 100000 in
theorem Mo_workOut_n80 (g : pmG) (d : Nat) (R : Nat → Nat → Value) (hR : mk_R R) (J : Nat → Nat → Int64) (o : Outcome) (Z : pmM) (r2 : Int32 → (Nat → Nat → Int32) → (Nat → Value) → (List (Nat × Nat)) → (Nat → Nat → Int32) × (Nat → Value) × List (Nat × Nat)) (q2 : Int32 → (Nat → Nat → Int32) → (Nat → Value) → (List (Nat × Nat)) → Prop) (ih2 : ∀ (y1 : Int32) (I : Nat → Nat → Int32) (B : Nat → Value) (E : List (Nat × Nat)), q2 y1 I B E → ∀ (rc rs : Nat), o = .returned none → Z = (mk_K ++ (r2 y1 I B E).2.2, mk_B R (r2 y1 I B E).2.1, (r2 y1 I B E).1, J) → ((r2 y1 I B E).2.2).length = E.length + rc → rs = 256 * rc → pmE g kMo_workOut (d + 607) rc rs 2 [(0, .ref 40), (1, .int y1)] [] (mk_K ++ E) (mk_B R B) I J o Z) (r12 : Int32 → Int32 → (Nat → Nat → Int32) → (Nat → Value) → (List (Nat × Nat)) → (Nat → Nat → Int32) × (Nat → Value) × List (Nat × Nat)) (q12 : Int32 → Int32 → (Nat → Nat → Int32) → (Nat → Value) → (List (Nat × Nat)) → Prop) (ih12 : ∀ (y1 : Int32) (y2 : Int32) (I : Nat → Nat → Int32) (B : Nat → Value) (E : List (Nat × Nat)), q12 y1 y2 I B E → ∀ (rc rs : Nat), o = .returned none → Z = (mk_K ++ (r12 y1 y2 I B E).2.2, mk_B R (r12 y1 y2 I B E).2.1, (r12 y1 y2 I B E).1, J) → ((r12 y1 y2 I B E).2.2).length = E.length + rc → rs = 256 * rc → pmE g kMo_workOut (d + 607) rc rs 12 [(0, .ref 40), (1, .int y1), (2, .int y2)] [] (mk_K ++ E) (mk_B R B) I J o Z) (r31 : Int32 → Int32 → Int32 → Int32 → (Nat → Nat → Int32) → (Nat → Value) → (List (Nat × Nat)) → (Nat → Nat → Int32) × (Nat → Value) × List (Nat × Nat)) (q31 : Int32 → Int32 → Int32 → Int32 → (Nat → Nat → Int32) → (Nat → Value) → (List (Nat × Nat)) → Prop) (ih31 : ∀ (y1 : Int32) (y2 : Int32) (y3 : Int32) (y4 : Int32) (I : Nat → Nat → Int32) (B : Nat → Value) (E : List (Nat × Nat)), q31 y1 y2 y3 y4 I B E → ∀ (rc rs : Nat), o = .returned none → Z = (mk_K ++ (r31 y1 y2 y3 y4 I B E).2.2, mk_B R (r31 y1 y2 y3 y4 I B E).2.1, (r31 y1 y2 y3 y4 I B E).1, J) → ((r31 y1 y2 y3 y4 I B E).2.2).length = E.length + rc → rs = 256 * rc → pmE g kMo_workOut (d + 607) rc rs 31 [(0, .ref 40), (1, .int y1), (2, .int y2), (3, .int y3), (4, .int y4)] [] (mk_K ++ E) (mk_B R B) I J o Z)  (y1 : Int32) (y2 : Int32) (y3 : Int32) (y4 : Int32) (z0 : Int32) (z1 : Int32) (I : Nat → Nat → Int32) (B : Nat → Value) (E : List (Nat × Nat)) (hp : pMo_workOut_80 q2 q12 q31 y1 y2 y3 y4 z0 z1 I B E) (rc rs : Nat) (ho : o = .returned none) (hz : Z = (mk_K ++ (fMo_workOut_80 r2 r12 r31 y1 y2 y3 y4 z0 z1 I B E).2.2, mk_B R (fMo_workOut_80 r2 r12 r31 y1 y2 y3 y4 z0 z1 I B E).2.1, (fMo_workOut_80 r2 r12 r31 y1 y2 y3 y4 z0 z1 I B E).1, J)) (hb : ((fMo_workOut_80 r2 r12 r31 y1 y2 y3 y4 z0 z1 I B E).2.2).length = E.length + rc) (hs : rs = 256 * rc) : pmE g kMo_workOut (d + 607) rc rs 80 [(0, .ref 40), (1, .int y1), (2, .int y2), (3, .int y3), (4, .int y4)] [.int z1, .int z0] (mk_K ++ E) (mk_B R B) I J o Z := by
  unfold pMo_workOut_80 at hp
  refine pm_iconst (v := 1) dMo_workOut_80 (by decide) ?_
  refine pm_aload_n dMo_workOut_81 rfl ?_
  refine pm_getr dMo_workOut_82 fMo_65 rfl (rr_40_17 (mk_RB hR _)) ?_
  refine pm_iload dMo_workOut_85 rfl ?_
  refine pm_iald dMo_workOut_87 rfl hp.1 ?_
  refine pm_ishl dMo_workOut_88 ?_
  refine pm_iconst (v := 1) dMo_workOut_89 (by decide) ?_
  refine pm_isub dMo_workOut_90 ?_
  refine pm_iand dMo_workOut_91 ?_
  refine pm_ior dMo_workOut_92 ?_
  refine pm_istore_n dMo_workOut_93 (by decide) rfl ?_
  refine pm_iinc dMo_workOut_94 rfl (by decide) rfl ?_
  refine pm_goto 31 dMo_workOut_97 (by decide) ?_
  refine pm_wk [2, 3, 4, 1, 0] rfl ?_
  exact ih31 _ _ _ _ _ _ _ hp.2 _ _ ho (hz.trans (by first | (simp only [fMo_workOut_80]; done) | (simp only [fMo_workOut_80]; with_reducible rfl) | with_reducible rfl)) ((congrArg List.length (by first | (simp only [fMo_workOut_80]; done) | (simp only [fMo_workOut_80]; with_reducible rfl) | with_reducible rfl)).symm.trans hb) hs
set_option maxHeartbeats 4000000 in
set_option maxRecDepth 100000 in
theorem Mo_workOut_n31 (g : pmG) (d : Nat) (R : Nat → Nat → Value) (hR : mk_R R) (J : Nat → Nat → Int64) (o : Outcome) (Z : pmM) (r2 : Int32 → (Nat → Nat → Int32) → (Nat → Value) → (List (Nat × Nat)) → (Nat → Nat → Int32) × (Nat → Value) × List (Nat × Nat)) (q2 : Int32 → (Nat → Nat → Int32) → (Nat → Value) → (List (Nat × Nat)) → Prop) (ih2 : ∀ (y1 : Int32) (I : Nat → Nat → Int32) (B : Nat → Value) (E : List (Nat × Nat)), q2 y1 I B E → ∀ (rc rs : Nat), o = .returned none → Z = (mk_K ++ (r2 y1 I B E).2.2, mk_B R (r2 y1 I B E).2.1, (r2 y1 I B E).1, J) → ((r2 y1 I B E).2.2).length = E.length + rc → rs = 256 * rc → pmE g kMo_workOut (d + 607) rc rs 2 [(0, .ref 40), (1, .int y1)] [] (mk_K ++ E) (mk_B R B) I J o Z) (r12 : Int32 → Int32 → (Nat → Nat → Int32) → (Nat → Value) → (List (Nat × Nat)) → (Nat → Nat → Int32) × (Nat → Value) × List (Nat × Nat)) (q12 : Int32 → Int32 → (Nat → Nat → Int32) → (Nat → Value) → (List (Nat × Nat)) → Prop) (ih12 : ∀ (y1 : Int32) (y2 : Int32) (I : Nat → Nat → Int32) (B : Nat → Value) (E : List (Nat × Nat)), q12 y1 y2 I B E → ∀ (rc rs : Nat), o = .returned none → Z = (mk_K ++ (r12 y1 y2 I B E).2.2, mk_B R (r12 y1 y2 I B E).2.1, (r12 y1 y2 I B E).1, J) → ((r12 y1 y2 I B E).2.2).length = E.length + rc → rs = 256 * rc → pmE g kMo_workOut (d + 607) rc rs 12 [(0, .ref 40), (1, .int y1), (2, .int y2)] [] (mk_K ++ E) (mk_B R B) I J o Z)  : ∀ (n : Nat) (y1 : Int32) (y2 : Int32) (y3 : Int32) (y4 : Int32) (I : Nat → Nat → Int32) (B : Nat → Value) (E : List (Nat × Nat)), pMo_workOut_31 q2 q12 n y1 y2 y3 y4 I B E → ∀ (rc rs : Nat), o = .returned none → Z = (mk_K ++ (fMo_workOut_31 r2 r12 n y1 y2 y3 y4 I B E).2.2, mk_B R (fMo_workOut_31 r2 r12 n y1 y2 y3 y4 I B E).2.1, (fMo_workOut_31 r2 r12 n y1 y2 y3 y4 I B E).1, J) → ((fMo_workOut_31 r2 r12 n y1 y2 y3 y4 I B E).2.2).length = E.length + rc → rs = 256 * rc → pmE g kMo_workOut (d + 607) rc rs 31 [(0, .ref 40), (1, .int y1), (2, .int y2), (3, .int y3), (4, .int y4)] [] (mk_K ++ E) (mk_B R B) I J o Z := by
  intro n
  induction n with
  | zero => intro y1 y2 y3 y4 I B E hp; exact False.elim hp
  | succ n ih =>
  intro y1 y2 y3 y4 I B E hp rc rs ho hz hb hs
  simp only [pMo_workOut_31] at hp
  refine pm_iload dMo_workOut_31 rfl ?_
  refine pm_aload_n dMo_workOut_33 rfl ?_
  refine pm_geti dMo_workOut_34 fMo_83 rfl ?_
  refine pm_icmp_ge 100 dMo_workOut_37 (by decide) (fun h37 => ?_) (fun h37 => ?_)
  ·
    refine pm_aload_n dMo_workOut_100 rfl ?_
    refine pm_getr dMo_workOut_101 fMo_142 rfl (rr_40_42 (mk_RB hR _)) ?_
    refine pm_iload_n dMo_workOut_104 rfl ?_
    have hq105 := (hp.1 h37).1
    refine pm_aald dMo_workOut_105 rfl (Or.inl rfl) (hp.1 h37).1 ((mk_RB hR _).2.1 _ (vp_lt (hp.1 h37).1)) (Or.inr ⟨_, rfl⟩) ?_
    refine pm_iload_n dMo_workOut_106 rfl ?_
    refine pm_iload_n dMo_workOut_107 rfl ?_
    refine pm_iast dMo_workOut_108 (mk_fA _ (vp_lt hq105)) (hp.1 h37).2.1 ?_
    refine pm_iinc dMo_workOut_109 rfl (by decide) rfl ?_
    refine pm_goto 12 dMo_workOut_112 (by decide) ?_
    refine pm_wk [1, 2, 0] rfl ?_
    exact ih12 _ _ _ _ _ (hp.1 h37).2.2 _ _ ho (hz.trans (by first | (simp only [fMo_workOut_31, if_pos h37]; done) | (simp only [fMo_workOut_31, if_pos h37]; with_reducible rfl) | with_reducible rfl)) ((congrArg List.length (by first | (simp only [fMo_workOut_31, if_pos h37]; done) | (simp only [fMo_workOut_31, if_pos h37]; with_reducible rfl) | with_reducible rfl)).symm.trans hb) hs
  ·
    refine pm_iload_n dMo_workOut_40 rfl ?_
    refine pm_aload_n dMo_workOut_41 rfl ?_
    refine pm_getr dMo_workOut_42 fMo_65 rfl (rr_40_17 (mk_RB hR _)) ?_
    refine pm_iload dMo_workOut_45 rfl ?_
    refine pm_iald dMo_workOut_47 rfl (hp.2 h37).1 ?_
    refine pm_ishl dMo_workOut_48 ?_
    refine pm_aload_n dMo_workOut_49 rfl ?_
    refine pm_getr dMo_workOut_50 fMo_71 rfl (rr_40_19 (mk_RB hR _)) ?_
    refine pm_iload dMo_workOut_53 rfl ?_
    refine pm_iald dMo_workOut_55 rfl (hp.2 h37).2.1 ?_
    refine pm_if_ge 69 dMo_workOut_56 (by decide) (fun h56 => ?_) (fun h56 => ?_)
    ·
      refine pm_aload_n dMo_workOut_69 rfl ?_
      refine pm_aload_n dMo_workOut_70 rfl ?_
      refine pm_getr dMo_workOut_71 fMo_71 rfl (rr_40_19 (mk_RB hR _)) ?_
      refine pm_iload dMo_workOut_74 rfl ?_
      refine pm_iald dMo_workOut_76 rfl ((hp.2 h37).2.2.1 h56).1 ?_
      refine pm_callV dMo_workOut_77 lMo_339 vMo_value ⟨_, _, rfl⟩ (mv_Mo_value_ok _ _ _ _ (mk_RB hR _) _ _ _ ((hp.2 h37).2.2.1 h56).2.1) rfl rfl rfl (Nat.le_of_ble_eq_true rfl) (Nat.le_refl _) (Nat.le_refl _) ?_
      refine pm_wk [0, 1, 2, 3, 4] rfl ?_
      exact Mo_workOut_n80 g d R hR J _ _ r2 q2 ih2 r12 q12 ih12 (fMo_workOut_31 r2 r12 n) (pMo_workOut_31 q2 q12 n) ih  _ _ _ _ _ _ _ _ _ ((hp.2 h37).2.2.1 h56).2.2 _ _ ho (hz.trans (by first | (simp only [fMo_workOut_31, if_neg h37, if_pos h56]; done) | (simp only [fMo_workOut_31, if_neg h37, if_pos h56]; with_reducible rfl) | with_reducible rfl)) ((congrArg List.length (by first | (simp only [fMo_workOut_31, if_neg h37, if_pos h56]; done) | (simp only [fMo_workOut_31, if_neg h37, if_pos h56]; with_reducible rfl) | with_reducible rfl)).symm.trans hb) hs
    ·
      refine pm_aload_n dMo_workOut_59 rfl ?_
      refine pm_getr dMo_workOut_60 fMo_131 rfl (rr_40_39 (mk_RB hR _)) ?_
      refine pm_iload dMo_workOut_63 rfl ?_
      refine pm_iald dMo_workOut_65 rfl ((hp.2 h37).2.2.2 h56).1 ?_
      refine pm_goto 80 dMo_workOut_66 (by decide) ?_
      refine pm_wk [0, 1, 2, 3, 4] rfl ?_
      exact Mo_workOut_n80 g d R hR J _ _ r2 q2 ih2 r12 q12 ih12 (fMo_workOut_31 r2 r12 n) (pMo_workOut_31 q2 q12 n) ih  _ _ _ _ _ _ _ _ _ ((hp.2 h37).2.2.2 h56).2 _ _ ho (hz.trans (by first | (simp only [fMo_workOut_31, if_neg h37, if_neg h56]; done) | (simp only [fMo_workOut_31, if_neg h37, if_neg h56]; with_reducible rfl) | with_reducible rfl)) ((congrArg List.length (by first | (simp only [fMo_workOut_31, if_neg h37, if_neg h56]; done) | (simp only [fMo_workOut_31, if_neg h37, if_neg h56]; with_reducible rfl) | with_reducible rfl)).symm.trans hb) hs
set_option maxHeartbeats 4000000 in
set_option maxRecDepth 100000 in
theorem Mo_workOut_n26 (g : pmG) (d : Nat) (R : Nat → Nat → Value) (hR : mk_R R) (J : Nat → Nat → Int64) (o : Outcome) (Z : pmM) (r2 : Int32 → (Nat → Nat → Int32) → (Nat → Value) → (List (Nat × Nat)) → (Nat → Nat → Int32) × (Nat → Value) × List (Nat × Nat)) (q2 : Int32 → (Nat → Nat → Int32) → (Nat → Value) → (List (Nat × Nat)) → Prop) (ih2 : ∀ (y1 : Int32) (I : Nat → Nat → Int32) (B : Nat → Value) (E : List (Nat × Nat)), q2 y1 I B E → ∀ (rc rs : Nat), o = .returned none → Z = (mk_K ++ (r2 y1 I B E).2.2, mk_B R (r2 y1 I B E).2.1, (r2 y1 I B E).1, J) → ((r2 y1 I B E).2.2).length = E.length + rc → rs = 256 * rc → pmE g kMo_workOut (d + 607) rc rs 2 [(0, .ref 40), (1, .int y1)] [] (mk_K ++ E) (mk_B R B) I J o Z) (r12 : Int32 → Int32 → (Nat → Nat → Int32) → (Nat → Value) → (List (Nat × Nat)) → (Nat → Nat → Int32) × (Nat → Value) × List (Nat × Nat)) (q12 : Int32 → Int32 → (Nat → Nat → Int32) → (Nat → Value) → (List (Nat × Nat)) → Prop) (ih12 : ∀ (y1 : Int32) (y2 : Int32) (I : Nat → Nat → Int32) (B : Nat → Value) (E : List (Nat × Nat)), q12 y1 y2 I B E → ∀ (rc rs : Nat), o = .returned none → Z = (mk_K ++ (r12 y1 y2 I B E).2.2, mk_B R (r12 y1 y2 I B E).2.1, (r12 y1 y2 I B E).1, J) → ((r12 y1 y2 I B E).2.2).length = E.length + rc → rs = 256 * rc → pmE g kMo_workOut (d + 607) rc rs 12 [(0, .ref 40), (1, .int y1), (2, .int y2)] [] (mk_K ++ E) (mk_B R B) I J o Z) (n31 : Nat) (y1 : Int32) (y2 : Int32) (I : Nat → Nat → Int32) (B : Nat → Value) (E : List (Nat × Nat)) (hp : pMo_workOut_26 q2 q12 n31 y1 y2 I B E) (rc rs : Nat) (ho : o = .returned none) (hz : Z = (mk_K ++ (fMo_workOut_26 r2 r12 n31 y1 y2 I B E).2.2, mk_B R (fMo_workOut_26 r2 r12 n31 y1 y2 I B E).2.1, (fMo_workOut_26 r2 r12 n31 y1 y2 I B E).1, J)) (hb : ((fMo_workOut_26 r2 r12 n31 y1 y2 I B E).2.2).length = E.length + rc) (hs : rs = 256 * rc) : pmE g kMo_workOut (d + 607) rc rs 26 [(0, .ref 40), (1, .int y1), (2, .int y2)] [] (mk_K ++ E) (mk_B R B) I J o Z := by
  unfold pMo_workOut_26 at hp
  refine pm_iconst (v := 0) dMo_workOut_26 (by decide) ?_
  refine pm_istore_n dMo_workOut_27 (by decide) rfl ?_
  refine pm_iconst (v := 0) dMo_workOut_28 (by decide) ?_
  refine pm_istore dMo_workOut_29 (by decide) rfl ?_
  refine pm_wk [2, 3, 4, 1, 0] rfl ?_
  exact Mo_workOut_n31 g d R hR J _ _ r2 q2 ih2 r12 q12 ih12 n31 _ _ _ _ _ _ _ hp _ _ ho (hz.trans (by first | (simp only [fMo_workOut_26]; done) | (simp only [fMo_workOut_26]; with_reducible rfl) | with_reducible rfl)) ((congrArg List.length (by first | (simp only [fMo_workOut_26]; done) | (simp only [fMo_workOut_26]; with_reducible rfl) | with_reducible rfl)).symm.trans hb) hs
set_option maxHeartbeats 4000000 in
set_option maxRecDepth 100000 in
theorem Mo_workOut_n12 (g : pmG) (d : Nat) (R : Nat → Nat → Value) (hR : mk_R R) (J : Nat → Nat → Int64) (o : Outcome) (Z : pmM) (r2 : Int32 → (Nat → Nat → Int32) → (Nat → Value) → (List (Nat × Nat)) → (Nat → Nat → Int32) × (Nat → Value) × List (Nat × Nat)) (q2 : Int32 → (Nat → Nat → Int32) → (Nat → Value) → (List (Nat × Nat)) → Prop) (ih2 : ∀ (y1 : Int32) (I : Nat → Nat → Int32) (B : Nat → Value) (E : List (Nat × Nat)), q2 y1 I B E → ∀ (rc rs : Nat), o = .returned none → Z = (mk_K ++ (r2 y1 I B E).2.2, mk_B R (r2 y1 I B E).2.1, (r2 y1 I B E).1, J) → ((r2 y1 I B E).2.2).length = E.length + rc → rs = 256 * rc → pmE g kMo_workOut (d + 607) rc rs 2 [(0, .ref 40), (1, .int y1)] [] (mk_K ++ E) (mk_B R B) I J o Z) (n31 : Nat) : ∀ (n : Nat) (y1 : Int32) (y2 : Int32) (I : Nat → Nat → Int32) (B : Nat → Value) (E : List (Nat × Nat)), pMo_workOut_12 q2 n31 n y1 y2 I B E → ∀ (rc rs : Nat), o = .returned none → Z = (mk_K ++ (fMo_workOut_12 r2 n31 n y1 y2 I B E).2.2, mk_B R (fMo_workOut_12 r2 n31 n y1 y2 I B E).2.1, (fMo_workOut_12 r2 n31 n y1 y2 I B E).1, J) → ((fMo_workOut_12 r2 n31 n y1 y2 I B E).2.2).length = E.length + rc → rs = 256 * rc → pmE g kMo_workOut (d + 607) rc rs 12 [(0, .ref 40), (1, .int y1), (2, .int y2)] [] (mk_K ++ E) (mk_B R B) I J o Z := by
  intro n
  induction n with
  | zero => intro y1 y2 I B E hp; exact False.elim hp
  | succ n ih =>
  intro y1 y2 I B E hp rc rs ho hz hb hs
  simp only [pMo_workOut_12] at hp
  refine pm_iload_n dMo_workOut_12 rfl ?_
  refine pm_aload_n dMo_workOut_13 rfl ?_
  refine pm_callV dMo_workOut_14 lMo_348 vMo_allInputs ⟨_, _, rfl⟩ (Mo_allInputs_ok _ _ _ _ (mk_RB hR _)  _ _ hp.1) rfl rfl rfl (Nat.le_of_ble_eq_true rfl) (Nat.le_refl _) (Nat.le_refl _) ?_
  refine pm_icmp_ge 115 dMo_workOut_17 (by decide) (fun h17 => ?_) (fun h17 => ?_)
  ·
    refine pm_iinc dMo_workOut_115 rfl (by decide) rfl ?_
    refine pm_goto 2 dMo_workOut_118 (by decide) ?_
    refine pm_wk [1, 0] rfl ?_
    exact ih2 _ _ _ _ (hp.2.1 h17) _ _ ho (hz.trans (by first | (simp only [fMo_workOut_12, if_pos h17]; done) | (simp only [fMo_workOut_12, if_pos h17]; with_reducible rfl) | with_reducible rfl)) ((congrArg List.length (by first | (simp only [fMo_workOut_12, if_pos h17]; done) | (simp only [fMo_workOut_12, if_pos h17]; with_reducible rfl) | with_reducible rfl)).symm.trans hb) hs
  ·
    refine pm_aload_n dMo_workOut_20 rfl ?_
    refine pm_iload_n dMo_workOut_21 rfl ?_
    refine pm_iload_n dMo_workOut_22 rfl ?_
    refine pm_callV dMo_workOut_23 lMo_351 vMo_set ⟨_, _, rfl⟩ (Mo_set_ok _ _ _ _ (mk_RB hR _) _ _ _ _ _ _ _ (hp.2.2 h17).1) rfl rfl rfl (Nat.le_of_ble_eq_true rfl) (Nat.le_refl _) (Nat.le_refl _) ?_
    refine pm_wk [0, 1, 2] rfl ?_
    exact Mo_workOut_n26 g d R hR J _ _ r2 q2 ih2 (fMo_workOut_12 r2 n31 n) (pMo_workOut_12 q2 n31 n) ih n31 _ _ _ _ _ (hp.2.2 h17).2 _ _ ho (hz.trans (by first | (simp only [fMo_workOut_12, if_neg h17]; done) | (simp only [fMo_workOut_12, if_neg h17]; with_reducible rfl) | with_reducible rfl)) ((congrArg List.length (by first | (simp only [fMo_workOut_12, if_neg h17]; done) | (simp only [fMo_workOut_12, if_neg h17]; with_reducible rfl) | with_reducible rfl)).symm.trans hb) hs
set_option maxHeartbeats 4000000 in
set_option maxRecDepth 100000 in
theorem Mo_workOut_n196 (g : pmG) (d : Nat) (R : Nat → Nat → Value) (hR : mk_R R) (J : Nat → Nat → Int64) (o : Outcome) (Z : pmM) (r123 : Int32 → (Nat → Nat → Int32) → (Nat → Value) → (List (Nat × Nat)) → (Nat → Nat → Int32) × (Nat → Value) × List (Nat × Nat)) (q123 : Int32 → (Nat → Nat → Int32) → (Nat → Value) → (List (Nat × Nat)) → Prop) (ih123 : ∀ (y1 : Int32) (I : Nat → Nat → Int32) (B : Nat → Value) (E : List (Nat × Nat)), q123 y1 I B E → ∀ (rc rs : Nat), o = .returned none → Z = (mk_K ++ (r123 y1 I B E).2.2, mk_B R (r123 y1 I B E).2.1, (r123 y1 I B E).1, J) → ((r123 y1 I B E).2.2).length = E.length + rc → rs = 256 * rc → pmE g kMo_workOut (d + 607) rc rs 123 [(0, .ref 40), (1, .int y1)] [] (mk_K ++ E) (mk_B R B) I J o Z) (r158 : Int32 → Int32 → (Nat → Nat → Int32) → (Nat → Value) → (List (Nat × Nat)) → (Nat → Nat → Int32) × (Nat → Value) × List (Nat × Nat)) (q158 : Int32 → Int32 → (Nat → Nat → Int32) → (Nat → Value) → (List (Nat × Nat)) → Prop) (ih158 : ∀ (y1 : Int32) (y2 : Int32) (I : Nat → Nat → Int32) (B : Nat → Value) (E : List (Nat × Nat)), q158 y1 y2 I B E → ∀ (rc rs : Nat), o = .returned none → Z = (mk_K ++ (r158 y1 y2 I B E).2.2, mk_B R (r158 y1 y2 I B E).2.1, (r158 y1 y2 I B E).1, J) → ((r158 y1 y2 I B E).2.2).length = E.length + rc → rs = 256 * rc → pmE g kMo_workOut (d + 607) rc rs 158 [(0, .ref 40), (1, .int y1), (2, .int y2)] [] (mk_K ++ E) (mk_B R B) I J o Z)  (y1 : Int32) (y2 : Int32) (I : Nat → Nat → Int32) (B : Nat → Value) (E : List (Nat × Nat)) (hp : pMo_workOut_196 q123 q158 y1 y2 I B E) (rc rs : Nat) (ho : o = .returned none) (hz : Z = (mk_K ++ (fMo_workOut_196 r123 r158 y1 y2 I B E).2.2, mk_B R (fMo_workOut_196 r123 r158 y1 y2 I B E).2.1, (fMo_workOut_196 r123 r158 y1 y2 I B E).1, J)) (hb : ((fMo_workOut_196 r123 r158 y1 y2 I B E).2.2).length = E.length + rc) (hs : rs = 256 * rc) : pmE g kMo_workOut (d + 607) rc rs 196 [(0, .ref 40), (1, .int y1), (2, .int y2)] [] (mk_K ++ E) (mk_B R B) I J o Z := by
  unfold pMo_workOut_196 at hp
  refine pm_iinc dMo_workOut_196 rfl (by decide) rfl ?_
  refine pm_goto 158 dMo_workOut_199 (by decide) ?_
  refine pm_wk [1, 2, 0] rfl ?_
  exact ih158 _ _ _ _ _ hp _ _ ho (hz.trans (by first | (simp only [fMo_workOut_196]; done) | (simp only [fMo_workOut_196]; with_reducible rfl) | with_reducible rfl)) ((congrArg List.length (by first | (simp only [fMo_workOut_196]; done) | (simp only [fMo_workOut_196]; with_reducible rfl) | with_reducible rfl)).symm.trans hb) hs
set_option maxHeartbeats 4000000 in
set_option maxRecDepth 100000 in
theorem Mo_workOut_n158 (g : pmG) (d : Nat) (R : Nat → Nat → Value) (hR : mk_R R) (J : Nat → Nat → Int64) (o : Outcome) (Z : pmM) (r123 : Int32 → (Nat → Nat → Int32) → (Nat → Value) → (List (Nat × Nat)) → (Nat → Nat → Int32) × (Nat → Value) × List (Nat × Nat)) (q123 : Int32 → (Nat → Nat → Int32) → (Nat → Value) → (List (Nat × Nat)) → Prop) (ih123 : ∀ (y1 : Int32) (I : Nat → Nat → Int32) (B : Nat → Value) (E : List (Nat × Nat)), q123 y1 I B E → ∀ (rc rs : Nat), o = .returned none → Z = (mk_K ++ (r123 y1 I B E).2.2, mk_B R (r123 y1 I B E).2.1, (r123 y1 I B E).1, J) → ((r123 y1 I B E).2.2).length = E.length + rc → rs = 256 * rc → pmE g kMo_workOut (d + 607) rc rs 123 [(0, .ref 40), (1, .int y1)] [] (mk_K ++ E) (mk_B R B) I J o Z)  : ∀ (n : Nat) (y1 : Int32) (y2 : Int32) (I : Nat → Nat → Int32) (B : Nat → Value) (E : List (Nat × Nat)), pMo_workOut_158 q123 n y1 y2 I B E → ∀ (rc rs : Nat), o = .returned none → Z = (mk_K ++ (fMo_workOut_158 r123 n y1 y2 I B E).2.2, mk_B R (fMo_workOut_158 r123 n y1 y2 I B E).2.1, (fMo_workOut_158 r123 n y1 y2 I B E).1, J) → ((fMo_workOut_158 r123 n y1 y2 I B E).2.2).length = E.length + rc → rs = 256 * rc → pmE g kMo_workOut (d + 607) rc rs 158 [(0, .ref 40), (1, .int y1), (2, .int y2)] [] (mk_K ++ E) (mk_B R B) I J o Z := by
  intro n
  induction n with
  | zero => intro y1 y2 I B E hp; exact False.elim hp
  | succ n ih =>
  intro y1 y2 I B E hp rc rs ho hz hb hs
  simp only [pMo_workOut_158] at hp
  refine pm_iload_n dMo_workOut_158 rfl ?_
  refine pm_aload_n dMo_workOut_159 rfl ?_
  refine pm_geti dMo_workOut_160 fMo_92 rfl ?_
  refine pm_icmp_ge 202 dMo_workOut_163 (by decide) (fun h163 => ?_) (fun h163 => ?_)
  ·
    refine pm_iinc dMo_workOut_202 rfl (by decide) rfl ?_
    refine pm_goto 123 dMo_workOut_205 (by decide) ?_
    refine pm_wk [1, 0] rfl ?_
    exact ih123 _ _ _ _ (hp.1 h163) _ _ ho (hz.trans (by first | (simp only [fMo_workOut_158, if_pos h163]; done) | (simp only [fMo_workOut_158, if_pos h163]; with_reducible rfl) | with_reducible rfl)) ((congrArg List.length (by first | (simp only [fMo_workOut_158, if_pos h163]; done) | (simp only [fMo_workOut_158, if_pos h163]; with_reducible rfl) | with_reducible rfl)).symm.trans hb) hs
  ·
    refine pm_aload_n dMo_workOut_166 rfl ?_
    refine pm_getr dMo_workOut_167 fMo_80 rfl (rr_40_22 (mk_RB hR _)) ?_
    refine pm_iload_n dMo_workOut_170 rfl ?_
    refine pm_iald dMo_workOut_171 rfl (hp.2 h163).1 ?_
    refine pm_iload_n dMo_workOut_172 rfl ?_
    refine pm_icmp_ne 196 dMo_workOut_173 (by decide) (fun h173 => ?_) (fun h173 => ?_)
    ·
      refine pm_wk [0, 1, 2] rfl ?_
      exact Mo_workOut_n196 g d R hR J _ _ r123 q123 ih123 (fMo_workOut_158 r123 n) (pMo_workOut_158 q123 n) ih  _ _ _ _ _ ((hp.2 h163).2.2 h173) _ _ ho (hz.trans (by first | (simp only [fMo_workOut_158, if_neg h163, if_neg h173]; done) | (simp only [fMo_workOut_158, if_neg h163, if_neg h173]; with_reducible rfl) | with_reducible rfl)) ((congrArg List.length (by first | (simp only [fMo_workOut_158, if_neg h163, if_neg h173]; done) | (simp only [fMo_workOut_158, if_neg h163, if_neg h173]; with_reducible rfl) | with_reducible rfl)).symm.trans hb) hs
    ·
      refine pm_aload_n dMo_workOut_176 rfl ?_
      refine pm_getr dMo_workOut_177 fMo_147 rfl (rr_40_43 (mk_RB hR _)) ?_
      refine pm_iload_n dMo_workOut_180 rfl ?_
      refine pm_aald (v := B y1.toNatClampNeg) dMo_workOut_181 rfl (Or.inr rfl) ((hp.2 h163).2.1 h173).1.1 rfl ((hp.2 h163).2.1 h173).1.2 ?_
      refine pm_iconst (v := 0) dMo_workOut_182 (by decide) ?_
      refine pm_aload_n dMo_workOut_183 rfl ?_
      refine pm_getr dMo_workOut_184 fMo_155 rfl (rr_40_45 (mk_RB hR _)) ?_
      refine pm_iload_n dMo_workOut_187 rfl ?_
      have hq188 := ((hp.2 h163).2.1 h173).2.1
      refine pm_aald dMo_workOut_188 rfl (Or.inr rfl) ((hp.2 h163).2.1 h173).2.1 ((mk_RB hR _).2.2 _ (vp_lt ((hp.2 h163).2.1 h173).2.1)) (Or.inr ⟨_, rfl⟩) ?_
      refine pm_iconst (v := 0) dMo_workOut_189 (by decide) ?_
      refine pm_sipush (v := 256) dMo_workOut_190 (by decide) ?_
      refine pm_vcopyz dMo_workOut_193 yMo_356 ((hp.2 h163).2.1 h173).2.2.1.1 ((hp.2 h163).2.1 h173).2.2.1.2.1 (mk_fS _ (vp_lt hq188)) (by decide) (by decide) (by decide) (by decide) (by decide) (Nat.le_of_ble_eq_true rfl) ((hp.2 h163).2.1 h173).2.2.1.2.2 ?_
      refine pm_wk [0, 1, 2] rfl ?_
      exact Mo_workOut_n196 g d R hR J _ _ r123 q123 ih123 (fMo_workOut_158 r123 n) (pMo_workOut_158 q123 n) ih  _ _ _ _ _ ((hp.2 h163).2.1 h173).2.2.2 _ _ ho (hz.trans (by first | (simp only [fMo_workOut_158, if_neg h163, if_pos h173]; done) | (simp only [fMo_workOut_158, if_neg h163, if_pos h173]; with_reducible rfl) | with_reducible rfl)) ((congrArg List.length (by first | (simp only [fMo_workOut_158, if_neg h163, if_pos h173]; done) | (simp only [fMo_workOut_158, if_neg h163, if_pos h173]; with_reducible rfl) | with_reducible rfl)).symm.trans hb) hs
set_option maxHeartbeats 4000000 in
set_option maxRecDepth 100000 in
theorem Mo_workOut_n156 (g : pmG) (d : Nat) (R : Nat → Nat → Value) (hR : mk_R R) (J : Nat → Nat → Int64) (o : Outcome) (Z : pmM) (r123 : Int32 → (Nat → Nat → Int32) → (Nat → Value) → (List (Nat × Nat)) → (Nat → Nat → Int32) × (Nat → Value) × List (Nat × Nat)) (q123 : Int32 → (Nat → Nat → Int32) → (Nat → Value) → (List (Nat × Nat)) → Prop) (ih123 : ∀ (y1 : Int32) (I : Nat → Nat → Int32) (B : Nat → Value) (E : List (Nat × Nat)), q123 y1 I B E → ∀ (rc rs : Nat), o = .returned none → Z = (mk_K ++ (r123 y1 I B E).2.2, mk_B R (r123 y1 I B E).2.1, (r123 y1 I B E).1, J) → ((r123 y1 I B E).2.2).length = E.length + rc → rs = 256 * rc → pmE g kMo_workOut (d + 607) rc rs 123 [(0, .ref 40), (1, .int y1)] [] (mk_K ++ E) (mk_B R B) I J o Z) (n158 : Nat) (y1 : Int32) (I : Nat → Nat → Int32) (B : Nat → Value) (E : List (Nat × Nat)) (hp : pMo_workOut_156 q123 n158 y1 I B E) (rc rs : Nat) (ho : o = .returned none) (hz : Z = (mk_K ++ (fMo_workOut_156 r123 n158 y1 I B E).2.2, mk_B R (fMo_workOut_156 r123 n158 y1 I B E).2.1, (fMo_workOut_156 r123 n158 y1 I B E).1, J)) (hb : ((fMo_workOut_156 r123 n158 y1 I B E).2.2).length = E.length + rc) (hs : rs = 256 * rc) : pmE g kMo_workOut (d + 607) rc rs 156 [(0, .ref 40), (1, .int y1)] [] (mk_K ++ E) (mk_B R B) I J o Z := by
  unfold pMo_workOut_156 at hp
  refine pm_iconst (v := 0) dMo_workOut_156 (by decide) ?_
  refine pm_istore_n dMo_workOut_157 (by decide) rfl ?_
  refine pm_wk [1, 2, 0] rfl ?_
  exact Mo_workOut_n158 g d R hR J _ _ r123 q123 ih123 n158 _ _ _ _ _ hp _ _ ho (hz.trans (by first | (simp only [fMo_workOut_156]; done) | (simp only [fMo_workOut_156]; with_reducible rfl) | with_reducible rfl)) ((congrArg List.length (by first | (simp only [fMo_workOut_156]; done) | (simp only [fMo_workOut_156]; with_reducible rfl) | with_reducible rfl)).symm.trans hb) hs
set_option maxHeartbeats 4000000 in
set_option maxRecDepth 100000 in
theorem Mo_workOut_n151 (g : pmG) (d : Nat) (R : Nat → Nat → Value) (hR : mk_R R) (J : Nat → Nat → Int64) (o : Outcome) (Z : pmM) (r123 : Int32 → (Nat → Nat → Int32) → (Nat → Value) → (List (Nat × Nat)) → (Nat → Nat → Int32) × (Nat → Value) × List (Nat × Nat)) (q123 : Int32 → (Nat → Nat → Int32) → (Nat → Value) → (List (Nat × Nat)) → Prop) (ih123 : ∀ (y1 : Int32) (I : Nat → Nat → Int32) (B : Nat → Value) (E : List (Nat × Nat)), q123 y1 I B E → ∀ (rc rs : Nat), o = .returned none → Z = (mk_K ++ (r123 y1 I B E).2.2, mk_B R (r123 y1 I B E).2.1, (r123 y1 I B E).1, J) → ((r123 y1 I B E).2.2).length = E.length + rc → rs = 256 * rc → pmE g kMo_workOut (d + 607) rc rs 123 [(0, .ref 40), (1, .int y1)] [] (mk_K ++ E) (mk_B R B) I J o Z) (n158 : Nat) (y1 : Int32) (I : Nat → Nat → Int32) (B : Nat → Value) (E : List (Nat × Nat)) (hp : pMo_workOut_151 q123 n158 y1 I B E) (rc rs : Nat) (ho : o = .returned none) (hz : Z = (mk_K ++ (fMo_workOut_151 r123 n158 y1 I B E).2.2, mk_B R (fMo_workOut_151 r123 n158 y1 I B E).2.1, (fMo_workOut_151 r123 n158 y1 I B E).1, J)) (hb : ((fMo_workOut_151 r123 n158 y1 I B E).2.2).length = E.length + rc) (hs : rs = 256 * rc) : pmE g kMo_workOut (d + 607) rc rs 151 [(0, .ref 40), (1, .int y1)] [] (mk_K ++ E) (mk_B R B) I J o Z := by
  unfold pMo_workOut_151 at hp
  refine pm_aload_n dMo_workOut_151 rfl ?_
  refine pm_iload_n dMo_workOut_152 rfl ?_
  refine pm_callV dMo_workOut_153 lMo_353 vMo_judge ⟨_, _, rfl⟩ (Mo_judge_ok _ _ _ hR _ _ _ _ _ _ hp.1) rfl rfl rfl (Nat.le_of_ble_eq_true rfl) (Nat.le_refl _) (Nat.le_refl _) ?_
  refine pm_wk [0, 1] rfl ?_
  exact Mo_workOut_n156 g d R hR J _ _ r123 q123 ih123 n158 _ _ _ _ hp.2 _ _ ho (hz.trans (by first | (simp only [fMo_workOut_151]; done) | (simp only [fMo_workOut_151]; with_reducible rfl) | with_reducible rfl)) ((congrArg List.length (by first | (simp only [fMo_workOut_151]; done) | (simp only [fMo_workOut_151]; with_reducible rfl) | with_reducible rfl)).symm.trans hb) hs
set_option maxHeartbeats 4000000 in
set_option maxRecDepth 100000 in
theorem Mo_workOut_n123 (g : pmG) (d : Nat) (R : Nat → Nat → Value) (hR : mk_R R) (J : Nat → Nat → Int64) (o : Outcome) (Z : pmM) (n158 : Nat) : ∀ (n : Nat) (y1 : Int32) (I : Nat → Nat → Int32) (B : Nat → Value) (E : List (Nat × Nat)), pMo_workOut_123 n158 n y1 I B E → ∀ (rc rs : Nat), o = .returned none → Z = (mk_K ++ (fMo_workOut_123 n158 n y1 I B E).2.2, mk_B R (fMo_workOut_123 n158 n y1 I B E).2.1, (fMo_workOut_123 n158 n y1 I B E).1, J) → ((fMo_workOut_123 n158 n y1 I B E).2.2).length = E.length + rc → rs = 256 * rc → pmE g kMo_workOut (d + 607) rc rs 123 [(0, .ref 40), (1, .int y1)] [] (mk_K ++ E) (mk_B R B) I J o Z := by
  intro n
  induction n with
  | zero => intro y1 I B E hp; exact False.elim hp
  | succ n ih =>
  intro y1 I B E hp rc rs ho hz hb hs
  simp only [pMo_workOut_123] at hp
  refine pm_iload_n dMo_workOut_123 rfl ?_
  refine pm_aload_n dMo_workOut_124 rfl ?_
  refine pm_geti dMo_workOut_125 fMo_128 rfl ?_
  refine pm_icmp_ge 208 dMo_workOut_128 (by decide) (fun h128 => ?_) (fun h128 => ?_)
  ·
    exact pm_vret dMo_workOut_208 rfl ho (hz.trans (by first | (simp only [fMo_workOut_123, if_pos h128]; done) | (simp only [fMo_workOut_123, if_pos h128]; with_reducible rfl) | with_reducible rfl))
  ·
    refine pm_aload_n dMo_workOut_131 rfl ?_
    refine pm_getr dMo_workOut_132 fMo_147 rfl (rr_40_43 (mk_RB hR _)) ?_
    refine pm_iload_n dMo_workOut_135 rfl ?_
    refine pm_aald (v := B y1.toNatClampNeg) dMo_workOut_136 rfl (Or.inr rfl) (hp.2 h128).1.1 rfl (hp.2 h128).1.2 ?_
    have hv137 := (hp.2 h128).2.1
    refine pm_ifnn 151 dMo_workOut_137 (by decide) hv137 (fun h137 => ?_) (fun h137 => ?_)
    ·
      refine pm_wk [0, 1] rfl ?_
      exact Mo_workOut_n151 g d R hR J _ _ (fMo_workOut_123 n158 n) (pMo_workOut_123 n158 n) ih n158 _ _ _ _ ((hp.2 h128).2.2.2 h137) _ _ ho (hz.trans (by first | (simp only [fMo_workOut_123, if_neg h128, if_neg h137]; done) | (simp only [fMo_workOut_123, if_neg h128, if_neg h137]; with_reducible rfl) | with_reducible rfl)) ((congrArg List.length (by first | (simp only [fMo_workOut_123, if_neg h128, if_neg h137]; done) | (simp only [fMo_workOut_123, if_neg h128, if_neg h137]; with_reducible rfl) | with_reducible rfl)).symm.trans hb) hs
    ·
      refine pm_aload_n dMo_workOut_140 rfl ?_
      refine pm_getr dMo_workOut_141 fMo_147 rfl (rr_40_43 (mk_RB hR _)) ?_
      refine pm_iload_n dMo_workOut_144 rfl ?_
      refine pm_sipush (v := 256) dMo_workOut_145 (by decide) ?_
      have hal := mk_rl (hb.symm.trans (congrArg List.length (by first | (simp only [fMo_workOut_123, if_neg h128, if_pos h137]; done) | (simp only [fMo_workOut_123, if_neg h128, if_pos h137]; rfl) | rfl))) ((hp.2 h128).2.2.1 h137).2.1
      refine mk_al dMo_workOut_148 dMo_workOut_150 ((hp.2 h128).2.2.1 h137).1 hal hs ?_
      refine pm_wk [0, 1] rfl ?_
      exact Mo_workOut_n151 g d R hR J _ _ (fMo_workOut_123 n158 n) (pMo_workOut_123 n158 n) ih n158 _ _ _ _ ((hp.2 h128).2.2.1 h137).2.2 _ _ ho (hz.trans (by first | (simp only [fMo_workOut_123, if_neg h128, if_pos h137]; done) | (simp only [fMo_workOut_123, if_neg h128, if_pos h137]; with_reducible rfl) | with_reducible rfl)) (mk_rm ((congrArg List.length (by first | (simp only [fMo_workOut_123, if_neg h128, if_pos h137]; done) | (simp only [fMo_workOut_123, if_neg h128, if_pos h137]; with_reducible rfl) | with_reducible rfl)).symm.trans hb) hal) rfl
set_option maxHeartbeats 4000000 in
set_option maxRecDepth 100000 in
theorem Mo_workOut_n2 (g : pmG) (d : Nat) (R : Nat → Nat → Value) (hR : mk_R R) (J : Nat → Nat → Int64) (o : Outcome) (Z : pmM) (n31 : Nat) (n12 : Nat) (n158 : Nat) (n123 : Nat) : ∀ (n : Nat) (y1 : Int32) (I : Nat → Nat → Int32) (B : Nat → Value) (E : List (Nat × Nat)), pMo_workOut_2 n31 n12 n158 n123 n y1 I B E → ∀ (rc rs : Nat), o = .returned none → Z = (mk_K ++ (fMo_workOut_2 n31 n12 n158 n123 n y1 I B E).2.2, mk_B R (fMo_workOut_2 n31 n12 n158 n123 n y1 I B E).2.1, (fMo_workOut_2 n31 n12 n158 n123 n y1 I B E).1, J) → ((fMo_workOut_2 n31 n12 n158 n123 n y1 I B E).2.2).length = E.length + rc → rs = 256 * rc → pmE g kMo_workOut (d + 607) rc rs 2 [(0, .ref 40), (1, .int y1)] [] (mk_K ++ E) (mk_B R B) I J o Z := by
  intro n
  induction n with
  | zero => intro y1 I B E hp; exact False.elim hp
  | succ n ih =>
  intro y1 I B E hp rc rs ho hz hb hs
  simp only [pMo_workOut_2] at hp
  refine pm_iload_n dMo_workOut_2 rfl ?_
  refine pm_aload_n dMo_workOut_3 rfl ?_
  refine pm_callV dMo_workOut_4 lMo_345 vMo_all ⟨_, _, rfl⟩ (Mo_all_ok _ _ _ _ (mk_RB hR _)  _ _ hp.1) rfl rfl rfl (Nat.le_of_ble_eq_true rfl) (Nat.le_refl _) (Nat.le_refl _) ?_
  refine pm_icmp_ge 121 dMo_workOut_7 (by decide) (fun h7 => ?_) (fun h7 => ?_)
  ·
    refine pm_iconst (v := 0) dMo_workOut_121 (by decide) ?_
    refine pm_istore_n dMo_workOut_122 (by decide) rfl ?_
    refine pm_wk [1, 0] rfl ?_
    exact Mo_workOut_n123 g d R hR J _ _  n158 n123 _ _ _ _ (hp.2.1 h7) _ _ ho (hz.trans (by first | (simp only [fMo_workOut_2, if_pos h7]; done) | (simp only [fMo_workOut_2, if_pos h7]; with_reducible rfl) | with_reducible rfl)) ((congrArg List.length (by first | (simp only [fMo_workOut_2, if_pos h7]; done) | (simp only [fMo_workOut_2, if_pos h7]; with_reducible rfl) | with_reducible rfl)).symm.trans hb) hs
  ·
    refine pm_iconst (v := 0) dMo_workOut_10 (by decide) ?_
    refine pm_istore_n dMo_workOut_11 (by decide) rfl ?_
    refine pm_wk [1, 2, 0] rfl ?_
    exact Mo_workOut_n12 g d R hR J _ _ (fMo_workOut_2 n31 n12 n158 n123 n) (pMo_workOut_2 n31 n12 n158 n123 n) ih n31 n12 _ _ _ _ _ (hp.2.2 h7) _ _ ho (hz.trans (by first | (simp only [fMo_workOut_2, if_neg h7]; done) | (simp only [fMo_workOut_2, if_neg h7]; with_reducible rfl) | with_reducible rfl)) ((congrArg List.length (by first | (simp only [fMo_workOut_2, if_neg h7]; done) | (simp only [fMo_workOut_2, if_neg h7]; with_reducible rfl) | with_reducible rfl)).symm.trans hb) hs
set_option maxHeartbeats 4000000 in
set_option maxRecDepth 100000 in
theorem Mo_workOut_n0 (g : pmG) (d : Nat) (R : Nat → Nat → Value) (hR : mk_R R) (J : Nat → Nat → Int64) (o : Outcome) (Z : pmM) (n31 : Nat) (n12 : Nat) (n158 : Nat) (n123 : Nat) (n2 : Nat) (I : Nat → Nat → Int32) (B : Nat → Value) (E : List (Nat × Nat)) (hp : pMo_workOut n31 n12 n158 n123 n2 I B E) (rc rs : Nat) (ho : o = .returned none) (hz : Z = (mk_K ++ (fMo_workOut n31 n12 n158 n123 n2 I B E).2.2, mk_B R (fMo_workOut n31 n12 n158 n123 n2 I B E).2.1, (fMo_workOut n31 n12 n158 n123 n2 I B E).1, J)) (hb : ((fMo_workOut n31 n12 n158 n123 n2 I B E).2.2).length = E.length + rc) (hs : rs = 256 * rc) : pmE g kMo_workOut (d + 607) rc rs 0 [(0, .ref 40)] [] (mk_K ++ E) (mk_B R B) I J o Z := by
  unfold pMo_workOut at hp
  refine pm_iconst (v := 0) dMo_workOut_0 (by decide) ?_
  refine pm_istore_n dMo_workOut_1 (by decide) rfl ?_
  refine pm_wk [1, 0] rfl ?_
  exact Mo_workOut_n2 g d R hR J _ _  n31 n12 n158 n123 n2 _ _ _ _ hp _ _ ho (hz.trans (by first | (simp only [fMo_workOut]; done) | (simp only [fMo_workOut]; with_reducible rfl) | with_reducible rfl)) ((congrArg List.length (by first | (simp only [fMo_workOut]; done) | (simp only [fMo_workOut]; with_reducible rfl) | with_reducible rfl)).symm.trans hb) hs
set_option maxHeartbeats 4000000 in
set_option maxRecDepth 100000 in
theorem Mo_workOut_ok (g : pmG) (d : Nat) (R : Nat → Nat → Value) (hR : mk_R R) (n31 : Nat) (n12 : Nat) (n158 : Nat) (n123 : Nat) (n2 : Nat)  (I : Nat → Nat → Int32) (B : Nat → Value) (E : List (Nat × Nat)) (J : Nat → Nat → Int64) (hp : pMo_workOut n31 n12 n158 n123 n2 I B E) : ∀ rc : Nat, ((fMo_workOut n31 n12 n158 n123 n2 I B E).2.2).length = E.length + rc → pmC g kMo_workOut (d + 607) rc (256 * rc) [.ref 40] (mk_K ++ E, mk_B R B, I, J) (.returned none) (mk_K ++ (fMo_workOut n31 n12 n158 n123 n2 I B E).2.2, mk_B R (fMo_workOut n31 n12 n158 n123 n2 I B E).2.1, (fMo_workOut n31 n12 n158 n123 n2 I B E).1, J) :=
  fun rc hb => pmC.of (by decide) (Nat.le_of_ble_eq_true rfl) (Mo_workOut_n0 g d R hR J _ _ n31 n12 n158 n123 n2  I B E hp rc (256 * rc) rfl rfl hb rfl)
