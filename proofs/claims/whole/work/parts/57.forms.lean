def fMo_formula_34 (G : Nat → Int32 → Int32 → (Nat → Nat → Int32) → Int32 × Int32 × Int32 × (Nat → Nat → Int32)) (y1 : Int32) (y2 : Int32) (z1 : Int32) (z2 : Int32) (z3 : Int32) (I : Nat → Nat → Int32) : Int32 × Int32 × Int32 × (Nat → Nat → Int32) :=
  (0, 0, (fMo_make z1 z2 z3 I).1, (fMo_make z1 z2 z3 I).2)
def pMo_formula_34 (G : Nat → Int32 → Int32 → (Nat → Nat → Int32) → Int32 × Int32 × Int32 × (Nat → Nat → Int32)) (GQ : Nat → Int32 → Int32 → (Nat → Nat → Int32) → Prop) (y1 : Int32) (y2 : Int32) (z1 : Int32) (z2 : Int32) (z3 : Int32) (I : Nat → Nat → Int32) : Prop :=
  (pMo_make z1 z2 z3 I) ∧ True
def fMo_formula_31 (G : Nat → Int32 → Int32 → (Nat → Nat → Int32) → Int32 × Int32 × Int32 × (Nat → Nat → Int32)) (y1 : Int32) (y2 : Int32) (z1 : Int32) (z2 : Int32) (z4 : Int32) (I : Nat → Nat → Int32) : Int32 × Int32 × Int32 × (Nat → Nat → Int32) :=
  if (G 0 z4 0 I).1 = 0 then fMo_formula_34 G y1 y2 z1 z2 ((G 0 z4 0 I).2.2.1) ((G 0 z4 0 I).2.2.2)
  else ((G 0 z4 0 I).1, (G 0 z4 0 I).2.1, 0, (G 0 z4 0 I).2.2.2)
def pMo_formula_31 (G : Nat → Int32 → Int32 → (Nat → Nat → Int32) → Int32 × Int32 × Int32 × (Nat → Nat → Int32)) (GQ : Nat → Int32 → Int32 → (Nat → Nat → Int32) → Prop) (y1 : Int32) (y2 : Int32) (z1 : Int32) (z2 : Int32) (z4 : Int32) (I : Nat → Nat → Int32) : Prop :=
  (GQ 0 z4 0 I) ∧ ((G 0 z4 0 I).1 = 0 → pMo_formula_34 G GQ y1 y2 z1 z2 ((G 0 z4 0 I).2.2.1) ((G 0 z4 0 I).2.2.2))
def fMo_formula_22 (G : Nat → Int32 → Int32 → (Nat → Nat → Int32) → Int32 × Int32 × Int32 × (Nat → Nat → Int32)) (y1 : Int32) (y2 : Int32) (I : Nat → Nat → Int32) : Int32 × Int32 × Int32 × (Nat → Nat → Int32) :=
  if (fMo_nest y1 I).1 = 0 then fMo_formula_31 G y1 y2 (3 : Int32) y2 ((fMo_nest y1 I).2.2.1) ((fMo_nest y1 I).2.2.2)
  else ((fMo_nest y1 I).1, (fMo_nest y1 I).2.1, 0, (fMo_nest y1 I).2.2.2)
def pMo_formula_22 (G : Nat → Int32 → Int32 → (Nat → Nat → Int32) → Int32 × Int32 × Int32 × (Nat → Nat → Int32)) (GQ : Nat → Int32 → Int32 → (Nat → Nat → Int32) → Prop) (y1 : Int32) (y2 : Int32) (I : Nat → Nat → Int32) : Prop :=
  (pMo_nest y1 I) ∧ ((fMo_nest y1 I).1 = 0 → pMo_formula_31 G GQ y1 y2 (3 : Int32) y2 ((fMo_nest y1 I).2.2.1) ((fMo_nest y1 I).2.2.2))
def fMo_formula_10 (G : Nat → Int32 → Int32 → (Nat → Nat → Int32) → Int32 × Int32 × Int32 × (Nat → Nat → Int32)) (y1 : Int32) (y2 : Int32) (z0 : Int32) (I : Nat → Nat → Int32) : Int32 × Int32 × Int32 × (Nat → Nat → Int32) :=
  if z0 = (308 : Int32) then if (fMo_take I).1 = 0 then fMo_formula_22 G y1 y2 ((fMo_take I).2.2)
    else ((fMo_take I).1, (fMo_take I).2.1, 0, (fMo_take I).2.2)
  else (0, 0, y2, I)
def pMo_formula_10 (G : Nat → Int32 → Int32 → (Nat → Nat → Int32) → Int32 × Int32 × Int32 × (Nat → Nat → Int32)) (GQ : Nat → Int32 → Int32 → (Nat → Nat → Int32) → Prop) (y1 : Int32) (y2 : Int32) (z0 : Int32) (I : Nat → Nat → Int32) : Prop :=
  (z0 = (308 : Int32) → (pMo_take I) ∧ ((fMo_take I).1 = 0 → pMo_formula_22 G GQ y1 y2 ((fMo_take I).2.2))) ∧
  (¬ (z0 = (308 : Int32)) → True)
def fMo_formula_5 (G : Nat → Int32 → Int32 → (Nat → Nat → Int32) → Int32 × Int32 × Int32 × (Nat → Nat → Int32)) (y1 : Int32) (z0 : Int32) (I : Nat → Nat → Int32) : Int32 × Int32 × Int32 × (Nat → Nat → Int32) :=
  if (fMo_peek 65537 65537 I).1 = 0 then fMo_formula_10 G y1 z0 ((fMo_peek 65537 65537 I).2.2.1) ((fMo_peek 65537 65537 I).2.2.2)
  else ((fMo_peek 65537 65537 I).1, (fMo_peek 65537 65537 I).2.1, 0, (fMo_peek 65537 65537 I).2.2.2)
def pMo_formula_5 (G : Nat → Int32 → Int32 → (Nat → Nat → Int32) → Int32 × Int32 × Int32 × (Nat → Nat → Int32)) (GQ : Nat → Int32 → Int32 → (Nat → Nat → Int32) → Prop) (y1 : Int32) (z0 : Int32) (I : Nat → Nat → Int32) : Prop :=
  (pMo_peek 65537 65537 I) ∧ ((fMo_peek 65537 65537 I).1 = 0 → pMo_formula_10 G GQ y1 z0 ((fMo_peek 65537 65537 I).2.2.1) ((fMo_peek 65537 65537 I).2.2.2))
def fMo_formula (G : Nat → Int32 → Int32 → (Nat → Nat → Int32) → Int32 × Int32 × Int32 × (Nat → Nat → Int32)) (y1 : Int32) (I : Nat → Nat → Int32) : Int32 × Int32 × Int32 × (Nat → Nat → Int32) :=
  if (G 1 y1 0 I).1 = 0 then fMo_formula_5 G y1 ((G 1 y1 0 I).2.2.1) ((G 1 y1 0 I).2.2.2)
  else ((G 1 y1 0 I).1, (G 1 y1 0 I).2.1, 0, (G 1 y1 0 I).2.2.2)
def pMo_formula (G : Nat → Int32 → Int32 → (Nat → Nat → Int32) → Int32 × Int32 × Int32 × (Nat → Nat → Int32)) (GQ : Nat → Int32 → Int32 → (Nat → Nat → Int32) → Prop) (y1 : Int32) (I : Nat → Nat → Int32) : Prop :=
  (GQ 1 y1 0 I) ∧ ((G 1 y1 0 I).1 = 0 → pMo_formula_5 G GQ y1 ((G 1 y1 0 I).2.2.1) ((G 1 y1 0 I).2.2.2))
set_option maxHeartbeats 4000000 in
set_option maxRecDepth 100000 in
theorem Mo_formula_n34 (g : pmG) (d : Nat) (ex : List (Nat × Nat)) (R : Nat → Nat → Value) (hR : mk_R R) (G : Nat → Int32 → Int32 → (Nat → Nat → Int32) → Int32 × Int32 × Int32 × (Nat → Nat → Int32)) (GQ : Nat → Int32 → Int32 → (Nat → Nat → Int32) → Prop) (hG0 : ∀ (x0 x1 : Int32) (I : Nat → Nat → Int32) (J : Nat → Nat → Int64), GQ 0 x0 x1 I → pmT g kMo_formula (d + 613) [.ref 40, .int x0] (mk_K ++ ex, R, I, J) (pt_I (mk_K ++ ex) R J (G 0 x0 x1 I))) (hG1 : ∀ (x0 x1 : Int32) (I : Nat → Nat → Int32) (J : Nat → Nat → Int64), GQ 1 x0 x1 I → pmT g kMo_either (d + 613) [.ref 40, .int x0] (mk_K ++ ex, R, I, J) (pt_I (mk_K ++ ex) R J (G 1 x0 x1 I))) (hG2 : ∀ (x0 x1 : Int32) (I : Nat → Nat → Int32) (J : Nat → Nat → Int64), GQ 2 x0 x1 I → pmT g kMo_both (d + 613) [.ref 40, .int x0] (mk_K ++ ex, R, I, J) (pt_I (mk_K ++ ex) R J (G 2 x0 x1 I))) (hG3 : ∀ (x0 x1 : Int32) (I : Nat → Nat → Int32) (J : Nat → Nat → Int64), GQ 3 x0 x1 I → pmT g kMo_single (d + 613) [.ref 40, .int x0] (mk_K ++ ex, R, I, J) (pt_I (mk_K ++ ex) R J (G 3 x0 x1 I))) (J : Nat → Nat → Int64) (o : Outcome) (Z : pmM) (rc rs : Nat)  (y1 : Int32) (y2 : Int32) (z1 : Int32) (z2 : Int32) (z3 : Int32) (I : Nat → Nat → Int32) (hp : pMo_formula_34 G GQ y1 y2 z1 z2 z3 I) (hF : (o, Z, rc, rs) = pt_I (mk_K ++ ex) R J (fMo_formula_34 G y1 y2 z1 z2 z3 I)) : pmE g kMo_formula (d + 614) rc rs 34 [(0, .ref 40), (1, .int y1), (2, .int y2)] [.int z3, .int z2, .int z1, .ref 40] (mk_K ++ ex) R I J o Z := by
  unfold pMo_formula_34 at hp
  refine pm_callV dMo_formula_34 lMo_303 vMo_make ⟨_, _, rfl⟩ (Mo_make_ok _ _ _ _ hR _ _ _ _ _ hp.1) rfl rfl rfl (Nat.le_of_ble_eq_true rfl) (Nat.le_refl _) (Nat.le_refl _) ?_
  exact pt_iret dMo_formula_37 rfl (hF.trans (by first | (simp only [fMo_formula_34]; done) | (simp only [fMo_formula_34]; rfl) | rfl))
set_option maxHeartbeats 4000000 in
set_option maxRecDepth 100000 in
theorem Mo_formula_n31 (g : pmG) (d : Nat) (ex : List (Nat × Nat)) (R : Nat → Nat → Value) (hR : mk_R R) (G : Nat → Int32 → Int32 → (Nat → Nat → Int32) → Int32 × Int32 × Int32 × (Nat → Nat → Int32)) (GQ : Nat → Int32 → Int32 → (Nat → Nat → Int32) → Prop) (hG0 : ∀ (x0 x1 : Int32) (I : Nat → Nat → Int32) (J : Nat → Nat → Int64), GQ 0 x0 x1 I → pmT g kMo_formula (d + 613) [.ref 40, .int x0] (mk_K ++ ex, R, I, J) (pt_I (mk_K ++ ex) R J (G 0 x0 x1 I))) (hG1 : ∀ (x0 x1 : Int32) (I : Nat → Nat → Int32) (J : Nat → Nat → Int64), GQ 1 x0 x1 I → pmT g kMo_either (d + 613) [.ref 40, .int x0] (mk_K ++ ex, R, I, J) (pt_I (mk_K ++ ex) R J (G 1 x0 x1 I))) (hG2 : ∀ (x0 x1 : Int32) (I : Nat → Nat → Int32) (J : Nat → Nat → Int64), GQ 2 x0 x1 I → pmT g kMo_both (d + 613) [.ref 40, .int x0] (mk_K ++ ex, R, I, J) (pt_I (mk_K ++ ex) R J (G 2 x0 x1 I))) (hG3 : ∀ (x0 x1 : Int32) (I : Nat → Nat → Int32) (J : Nat → Nat → Int64), GQ 3 x0 x1 I → pmT g kMo_single (d + 613) [.ref 40, .int x0] (mk_K ++ ex, R, I, J) (pt_I (mk_K ++ ex) R J (G 3 x0 x1 I))) (J : Nat → Nat → Int64) (o : Outcome) (Z : pmM) (rc rs : Nat)  (y1 : Int32) (y2 : Int32) (z1 : Int32) (z2 : Int32) (z4 : Int32) (I : Nat → Nat → Int32) (hp : pMo_formula_31 G GQ y1 y2 z1 z2 z4 I) (hF : (o, Z, rc, rs) = pt_I (mk_K ++ ex) R J (fMo_formula_31 G y1 y2 z1 z2 z4 I)) : pmE g kMo_formula (d + 614) rc rs 31 [(0, .ref 40), (1, .int y1), (2, .int y2)] [.int z4, .ref 40, .int z2, .int z1, .ref 40] (mk_K ++ ex) R I J o Z := by
  unfold pMo_formula_31 at hp
  refine pt_callV (v2 := some (.int 0)) dMo_formula_31 lMo_300 vMo_formula ⟨_, _, rfl⟩ (hG0 z4 0 _ _ hp.1) rfl rfl rfl (Nat.le_of_ble_eq_true rfl) (fun h31 => ?_) (fun h31 => hF.trans (by first | (simp only [fMo_formula_31, if_neg h31]; done) | (simp only [fMo_formula_31, if_neg h31]; rfl) | rfl))
  refine pm_wk [0, 1, 2] rfl ?_
  exact Mo_formula_n34 g d ex R hR G GQ hG0 hG1 hG2 hG3 J _ _ _ _   _ _ _ _ _ _ (hp.2 h31) (hF.trans (by first | (simp only [fMo_formula_31, if_pos h31]; done) | (simp only [fMo_formula_31, if_pos h31]; with_reducible rfl) | with_reducible rfl))
set_option maxHeartbeats 4000000 in
set_option maxRecDepth 100000 in
theorem Mo_formula_n22 (g : pmG) (d : Nat) (ex : List (Nat × Nat)) (R : Nat → Nat → Value) (hR : mk_R R) (G : Nat → Int32 → Int32 → (Nat → Nat → Int32) → Int32 × Int32 × Int32 × (Nat → Nat → Int32)) (GQ : Nat → Int32 → Int32 → (Nat → Nat → Int32) → Prop) (hG0 : ∀ (x0 x1 : Int32) (I : Nat → Nat → Int32) (J : Nat → Nat → Int64), GQ 0 x0 x1 I → pmT g kMo_formula (d + 613) [.ref 40, .int x0] (mk_K ++ ex, R, I, J) (pt_I (mk_K ++ ex) R J (G 0 x0 x1 I))) (hG1 : ∀ (x0 x1 : Int32) (I : Nat → Nat → Int32) (J : Nat → Nat → Int64), GQ 1 x0 x1 I → pmT g kMo_either (d + 613) [.ref 40, .int x0] (mk_K ++ ex, R, I, J) (pt_I (mk_K ++ ex) R J (G 1 x0 x1 I))) (hG2 : ∀ (x0 x1 : Int32) (I : Nat → Nat → Int32) (J : Nat → Nat → Int64), GQ 2 x0 x1 I → pmT g kMo_both (d + 613) [.ref 40, .int x0] (mk_K ++ ex, R, I, J) (pt_I (mk_K ++ ex) R J (G 2 x0 x1 I))) (hG3 : ∀ (x0 x1 : Int32) (I : Nat → Nat → Int32) (J : Nat → Nat → Int64), GQ 3 x0 x1 I → pmT g kMo_single (d + 613) [.ref 40, .int x0] (mk_K ++ ex, R, I, J) (pt_I (mk_K ++ ex) R J (G 3 x0 x1 I))) (J : Nat → Nat → Int64) (o : Outcome) (Z : pmM) (rc rs : Nat)  (y1 : Int32) (y2 : Int32) (I : Nat → Nat → Int32) (hp : pMo_formula_22 G GQ y1 y2 I) (hF : (o, Z, rc, rs) = pt_I (mk_K ++ ex) R J (fMo_formula_22 G y1 y2 I)) : pmE g kMo_formula (d + 614) rc rs 22 [(0, .ref 40), (1, .int y1), (2, .int y2)] [] (mk_K ++ ex) R I J o Z := by
  unfold pMo_formula_22 at hp
  refine pm_aload_n dMo_formula_22 rfl ?_
  refine pm_iconst (v := 3) dMo_formula_23 (by decide) ?_
  refine pm_iload_n dMo_formula_24 rfl ?_
  refine pm_aload_n dMo_formula_25 rfl ?_
  refine pm_aload_n dMo_formula_26 rfl ?_
  refine pm_iload_n dMo_formula_27 rfl ?_
  refine pt_callV (v2 := some (.int 0)) dMo_formula_28 lMo_271 vMo_nest ⟨_, _, rfl⟩ (Mo_nest_ok _ _ _ _ hR _ _ _ hp.1) rfl rfl rfl (Nat.le_of_ble_eq_true rfl) (fun h28 => ?_) (fun h28 => hF.trans (by first | (simp only [fMo_formula_22, if_neg h28]; done) | (simp only [fMo_formula_22, if_neg h28]; rfl) | rfl))
  refine pm_wk [0, 1, 2] rfl ?_
  exact Mo_formula_n31 g d ex R hR G GQ hG0 hG1 hG2 hG3 J _ _ _ _   _ _ _ _ _ _ (hp.2 h28) (hF.trans (by first | (simp only [fMo_formula_22, if_pos h28]; done) | (simp only [fMo_formula_22, if_pos h28]; with_reducible rfl) | with_reducible rfl))
set_option maxHeartbeats 4000000 in
set_option maxRecDepth 100000 in
theorem Mo_formula_n10 (g : pmG) (d : Nat) (ex : List (Nat × Nat)) (R : Nat → Nat → Value) (hR : mk_R R) (G : Nat → Int32 → Int32 → (Nat → Nat → Int32) → Int32 × Int32 × Int32 × (Nat → Nat → Int32)) (GQ : Nat → Int32 → Int32 → (Nat → Nat → Int32) → Prop) (hG0 : ∀ (x0 x1 : Int32) (I : Nat → Nat → Int32) (J : Nat → Nat → Int64), GQ 0 x0 x1 I → pmT g kMo_formula (d + 613) [.ref 40, .int x0] (mk_K ++ ex, R, I, J) (pt_I (mk_K ++ ex) R J (G 0 x0 x1 I))) (hG1 : ∀ (x0 x1 : Int32) (I : Nat → Nat → Int32) (J : Nat → Nat → Int64), GQ 1 x0 x1 I → pmT g kMo_either (d + 613) [.ref 40, .int x0] (mk_K ++ ex, R, I, J) (pt_I (mk_K ++ ex) R J (G 1 x0 x1 I))) (hG2 : ∀ (x0 x1 : Int32) (I : Nat → Nat → Int32) (J : Nat → Nat → Int64), GQ 2 x0 x1 I → pmT g kMo_both (d + 613) [.ref 40, .int x0] (mk_K ++ ex, R, I, J) (pt_I (mk_K ++ ex) R J (G 2 x0 x1 I))) (hG3 : ∀ (x0 x1 : Int32) (I : Nat → Nat → Int32) (J : Nat → Nat → Int64), GQ 3 x0 x1 I → pmT g kMo_single (d + 613) [.ref 40, .int x0] (mk_K ++ ex, R, I, J) (pt_I (mk_K ++ ex) R J (G 3 x0 x1 I))) (J : Nat → Nat → Int64) (o : Outcome) (Z : pmM) (rc rs : Nat)  (y1 : Int32) (y2 : Int32) (z0 : Int32) (I : Nat → Nat → Int32) (hp : pMo_formula_10 G GQ y1 y2 z0 I) (hF : (o, Z, rc, rs) = pt_I (mk_K ++ ex) R J (fMo_formula_10 G y1 y2 z0 I)) : pmE g kMo_formula (d + 614) rc rs 10 [(0, .ref 40), (1, .int y1), (2, .int y2)] [.int z0] (mk_K ++ ex) R I J o Z := by
  unfold pMo_formula_10 at hp
  refine pm_sipush (v := 308) dMo_formula_10 (by decide) ?_
  refine pm_icmp_eq 18 dMo_formula_13 (by decide) (fun h13 => ?_) (fun h13 => ?_)
  ·
    refine pm_aload_n dMo_formula_18 rfl ?_
    refine pt_callV (v2 := some (.int 0)) dMo_formula_19 lMo_215 vMo_take ⟨_, _, rfl⟩ (Mo_take_ok _ _ _ _ hR  _ _ (hp.1 h13).1) rfl rfl rfl (Nat.le_of_ble_eq_true rfl) (fun h19 => ?_) (fun h19 => hF.trans (by first | (simp only [fMo_formula_10, if_pos h13, if_neg h19]; done) | (simp only [fMo_formula_10, if_pos h13, if_neg h19]; rfl) | rfl))
    refine pm_wk [0, 1, 2] rfl ?_
    exact Mo_formula_n22 g d ex R hR G GQ hG0 hG1 hG2 hG3 J _ _ _ _   _ _ _ ((hp.1 h13).2 h19) (hF.trans (by first | (simp only [fMo_formula_10, if_pos h13, if_pos h19]; done) | (simp only [fMo_formula_10, if_pos h13, if_pos h19]; with_reducible rfl) | with_reducible rfl))
  ·
    refine pm_iload_n dMo_formula_16 rfl ?_
    exact pt_iret dMo_formula_17 rfl (hF.trans (by first | (simp only [fMo_formula_10, if_neg h13]; done) | (simp only [fMo_formula_10, if_neg h13]; rfl) | rfl))
set_option maxHeartbeats 4000000 in
set_option maxRecDepth 100000 in
theorem Mo_formula_n5 (g : pmG) (d : Nat) (ex : List (Nat × Nat)) (R : Nat → Nat → Value) (hR : mk_R R) (G : Nat → Int32 → Int32 → (Nat → Nat → Int32) → Int32 × Int32 × Int32 × (Nat → Nat → Int32)) (GQ : Nat → Int32 → Int32 → (Nat → Nat → Int32) → Prop) (hG0 : ∀ (x0 x1 : Int32) (I : Nat → Nat → Int32) (J : Nat → Nat → Int64), GQ 0 x0 x1 I → pmT g kMo_formula (d + 613) [.ref 40, .int x0] (mk_K ++ ex, R, I, J) (pt_I (mk_K ++ ex) R J (G 0 x0 x1 I))) (hG1 : ∀ (x0 x1 : Int32) (I : Nat → Nat → Int32) (J : Nat → Nat → Int64), GQ 1 x0 x1 I → pmT g kMo_either (d + 613) [.ref 40, .int x0] (mk_K ++ ex, R, I, J) (pt_I (mk_K ++ ex) R J (G 1 x0 x1 I))) (hG2 : ∀ (x0 x1 : Int32) (I : Nat → Nat → Int32) (J : Nat → Nat → Int64), GQ 2 x0 x1 I → pmT g kMo_both (d + 613) [.ref 40, .int x0] (mk_K ++ ex, R, I, J) (pt_I (mk_K ++ ex) R J (G 2 x0 x1 I))) (hG3 : ∀ (x0 x1 : Int32) (I : Nat → Nat → Int32) (J : Nat → Nat → Int64), GQ 3 x0 x1 I → pmT g kMo_single (d + 613) [.ref 40, .int x0] (mk_K ++ ex, R, I, J) (pt_I (mk_K ++ ex) R J (G 3 x0 x1 I))) (J : Nat → Nat → Int64) (o : Outcome) (Z : pmM) (rc rs : Nat)  (y1 : Int32) (z0 : Int32) (I : Nat → Nat → Int32) (hp : pMo_formula_5 G GQ y1 z0 I) (hF : (o, Z, rc, rs) = pt_I (mk_K ++ ex) R J (fMo_formula_5 G y1 z0 I)) : pmE g kMo_formula (d + 614) rc rs 5 [(0, .ref 40), (1, .int y1)] [.int z0] (mk_K ++ ex) R I J o Z := by
  unfold pMo_formula_5 at hp
  refine pm_istore_n dMo_formula_5 (by decide) rfl ?_
  refine pm_aload_n dMo_formula_6 rfl ?_
  refine pt_callV (v2 := some (.int 0)) dMo_formula_7 lMo_207 vMo_peek ⟨_, _, rfl⟩ (Mo_peek_ok _ _ _ _ hR _ _ _ _ hp.1) rfl rfl rfl (Nat.le_of_ble_eq_true rfl) (fun h7 => ?_) (fun h7 => hF.trans (by first | (simp only [fMo_formula_5, if_neg h7]; done) | (simp only [fMo_formula_5, if_neg h7]; rfl) | rfl))
  refine pm_wk [1, 2, 0] rfl ?_
  exact Mo_formula_n10 g d ex R hR G GQ hG0 hG1 hG2 hG3 J _ _ _ _   _ _ _ _ (hp.2 h7) (hF.trans (by first | (simp only [fMo_formula_5, if_pos h7]; done) | (simp only [fMo_formula_5, if_pos h7]; with_reducible rfl) | with_reducible rfl))
set_option maxHeartbeats 4000000 in
set_option maxRecDepth 100000 in
theorem Mo_formula_n0 (g : pmG) (d : Nat) (ex : List (Nat × Nat)) (R : Nat → Nat → Value) (hR : mk_R R) (G : Nat → Int32 → Int32 → (Nat → Nat → Int32) → Int32 × Int32 × Int32 × (Nat → Nat → Int32)) (GQ : Nat → Int32 → Int32 → (Nat → Nat → Int32) → Prop) (hG0 : ∀ (x0 x1 : Int32) (I : Nat → Nat → Int32) (J : Nat → Nat → Int64), GQ 0 x0 x1 I → pmT g kMo_formula (d + 613) [.ref 40, .int x0] (mk_K ++ ex, R, I, J) (pt_I (mk_K ++ ex) R J (G 0 x0 x1 I))) (hG1 : ∀ (x0 x1 : Int32) (I : Nat → Nat → Int32) (J : Nat → Nat → Int64), GQ 1 x0 x1 I → pmT g kMo_either (d + 613) [.ref 40, .int x0] (mk_K ++ ex, R, I, J) (pt_I (mk_K ++ ex) R J (G 1 x0 x1 I))) (hG2 : ∀ (x0 x1 : Int32) (I : Nat → Nat → Int32) (J : Nat → Nat → Int64), GQ 2 x0 x1 I → pmT g kMo_both (d + 613) [.ref 40, .int x0] (mk_K ++ ex, R, I, J) (pt_I (mk_K ++ ex) R J (G 2 x0 x1 I))) (hG3 : ∀ (x0 x1 : Int32) (I : Nat → Nat → Int32) (J : Nat → Nat → Int64), GQ 3 x0 x1 I → pmT g kMo_single (d + 613) [.ref 40, .int x0] (mk_K ++ ex, R, I, J) (pt_I (mk_K ++ ex) R J (G 3 x0 x1 I))) (J : Nat → Nat → Int64) (o : Outcome) (Z : pmM) (rc rs : Nat)  (y1 : Int32) (I : Nat → Nat → Int32) (hp : pMo_formula G GQ y1 I) (hF : (o, Z, rc, rs) = pt_I (mk_K ++ ex) R J (fMo_formula G y1 I)) : pmE g kMo_formula (d + 614) rc rs 0 [(0, .ref 40), (1, .int y1)] [] (mk_K ++ ex) R I J o Z := by
  unfold pMo_formula at hp
  refine pm_aload_n dMo_formula_0 rfl ?_
  refine pm_iload_n dMo_formula_1 rfl ?_
  refine pt_callV (v2 := some (.int 0)) dMo_formula_2 lMo_297 vMo_either ⟨_, _, rfl⟩ (hG1 y1 0 _ _ hp.1) rfl rfl rfl (Nat.le_of_ble_eq_true rfl) (fun h2 => ?_) (fun h2 => hF.trans (by first | (simp only [fMo_formula, if_neg h2]; done) | (simp only [fMo_formula, if_neg h2]; rfl) | rfl))
  refine pm_wk [0, 1] rfl ?_
  exact Mo_formula_n5 g d ex R hR G GQ hG0 hG1 hG2 hG3 J _ _ _ _   _ _ _ (hp.2 h2) (hF.trans (by first | (simp only [fMo_formula, if_pos h2]; done) | (simp only [fMo_formula, if_pos h2]; with_reducible rfl) | with_reducible rfl))
set_option maxHeartbeats 4000000 in
set_option maxRecDepth 100000 in
theorem Mo_formula_ok (g : pmG) (d : Nat) (ex : List (Nat × Nat)) (R : Nat → Nat → Value) (hR : mk_R R) (G : Nat → Int32 → Int32 → (Nat → Nat → Int32) → Int32 × Int32 × Int32 × (Nat → Nat → Int32)) (GQ : Nat → Int32 → Int32 → (Nat → Nat → Int32) → Prop) (hG0 : ∀ (x0 x1 : Int32) (I : Nat → Nat → Int32) (J : Nat → Nat → Int64), GQ 0 x0 x1 I → pmT g kMo_formula (d + 613) [.ref 40, .int x0] (mk_K ++ ex, R, I, J) (pt_I (mk_K ++ ex) R J (G 0 x0 x1 I))) (hG1 : ∀ (x0 x1 : Int32) (I : Nat → Nat → Int32) (J : Nat → Nat → Int64), GQ 1 x0 x1 I → pmT g kMo_either (d + 613) [.ref 40, .int x0] (mk_K ++ ex, R, I, J) (pt_I (mk_K ++ ex) R J (G 1 x0 x1 I))) (hG2 : ∀ (x0 x1 : Int32) (I : Nat → Nat → Int32) (J : Nat → Nat → Int64), GQ 2 x0 x1 I → pmT g kMo_both (d + 613) [.ref 40, .int x0] (mk_K ++ ex, R, I, J) (pt_I (mk_K ++ ex) R J (G 2 x0 x1 I))) (hG3 : ∀ (x0 x1 : Int32) (I : Nat → Nat → Int32) (J : Nat → Nat → Int64), GQ 3 x0 x1 I → pmT g kMo_single (d + 613) [.ref 40, .int x0] (mk_K ++ ex, R, I, J) (pt_I (mk_K ++ ex) R J (G 3 x0 x1 I)))  (x0 : Int32) (I : Nat → Nat → Int32) (J : Nat → Nat → Int64) (hp : pMo_formula G GQ x0 I) : pmT g kMo_formula (d + 614) [.ref 40, .int x0] (mk_K ++ ex, R, I, J) (pt_I (mk_K ++ ex) R J (fMo_formula G x0 I)) :=
  pmC.of (by decide) (Nat.le_of_ble_eq_true rfl) (Mo_formula_n0 g d ex R hR G GQ hG0 hG1 hG2 hG3 J _ _ _ _  x0 I hp rfl)
def fMo_either_33 (G : Nat → Int32 → Int32 → (Nat → Nat → Int32) → Int32 × Int32 × Int32 × (Nat → Nat → Int32)) (r6 : Int32 → Int32 → (Nat → Nat → Int32) → Int32 × Int32 × Int32 × (Nat → Nat → Int32)) (y1 : Int32) (y2 : Int32) (y3 : Int32) (z0 : Int32) (I : Nat → Nat → Int32) : Int32 × Int32 × Int32 × (Nat → Nat → Int32) :=
  r6 y1 z0 I
def pMo_either_33 (G : Nat → Int32 → Int32 → (Nat → Nat → Int32) → Int32 × Int32 × Int32 × (Nat → Nat → Int32)) (GQ : Nat → Int32 → Int32 → (Nat → Nat → Int32) → Prop) (q6 : Int32 → Int32 → (Nat → Nat → Int32) → Prop) (y1 : Int32) (y2 : Int32) (y3 : Int32) (z0 : Int32) (I : Nat → Nat → Int32) : Prop :=
  q6 y1 z0 I
def fMo_either_25 (G : Nat → Int32 → Int32 → (Nat → Nat → Int32) → Int32 × Int32 × Int32 × (Nat → Nat → Int32)) (r6 : Int32 → Int32 → (Nat → Nat → Int32) → Int32 × Int32 × Int32 × (Nat → Nat → Int32)) (y1 : Int32) (y2 : Int32) (z0 : Int32) (I : Nat → Nat → Int32) : Int32 × Int32 × Int32 × (Nat → Nat → Int32) :=
  fMo_either_33 G r6 y1 y2 z0 ((fMo_make (2 : Int32) y2 z0 I).1) ((fMo_make (2 : Int32) y2 z0 I).2)
def pMo_either_25 (G : Nat → Int32 → Int32 → (Nat → Nat → Int32) → Int32 × Int32 × Int32 × (Nat → Nat → Int32)) (GQ : Nat → Int32 → Int32 → (Nat → Nat → Int32) → Prop) (q6 : Int32 → Int32 → (Nat → Nat → Int32) → Prop) (y1 : Int32) (y2 : Int32) (z0 : Int32) (I : Nat → Nat → Int32) : Prop :=
  (pMo_make (2 : Int32) y2 z0 I) ∧ (pMo_either_33 G GQ q6 y1 y2 z0 ((fMo_make (2 : Int32) y2 z0 I).1) ((fMo_make (2 : Int32) y2 z0 I).2))
def fMo_either_20 (G : Nat → Int32 → Int32 → (Nat → Nat → Int32) → Int32 × Int32 × Int32 × (Nat → Nat → Int32)) (r6 : Int32 → Int32 → (Nat → Nat → Int32) → Int32 × Int32 × Int32 × (Nat → Nat → Int32)) (y1 : Int32) (y2 : Int32) (I : Nat → Nat → Int32) : Int32 × Int32 × Int32 × (Nat → Nat → Int32) :=
  if (G 2 y1 0 I).1 = 0 then fMo_either_25 G r6 y1 y2 ((G 2 y1 0 I).2.2.1) ((G 2 y1 0 I).2.2.2)
  else ((G 2 y1 0 I).1, (G 2 y1 0 I).2.1, 0, (G 2 y1 0 I).2.2.2)
def pMo_either_20 (G : Nat → Int32 → Int32 → (Nat → Nat → Int32) → Int32 × Int32 × Int32 × (Nat → Nat → Int32)) (GQ : Nat → Int32 → Int32 → (Nat → Nat → Int32) → Prop) (q6 : Int32 → Int32 → (Nat → Nat → Int32) → Prop) (y1 : Int32) (y2 : Int32) (I : Nat → Nat → Int32) : Prop :=
  (GQ 2 y1 0 I) ∧ ((G 2 y1 0 I).1 = 0 → pMo_either_25 G GQ q6 y1 y2 ((G 2 y1 0 I).2.2.1) ((G 2 y1 0 I).2.2.2))
def fMo_either_10 (G : Nat → Int32 → Int32 → (Nat → Nat → Int32) → Int32 × Int32 × Int32 × (Nat → Nat → Int32)) (r6 : Int32 → Int32 → (Nat → Nat → Int32) → Int32 × Int32 × Int32 × (Nat → Nat → Int32)) (y1 : Int32) (y2 : Int32) (z0 : Int32) (I : Nat → Nat → Int32) : Int32 × Int32 × Int32 × (Nat → Nat → Int32) :=
  if z0 = (307 : Int32) then if (fMo_take I).1 = 0 then fMo_either_20 G r6 y1 y2 ((fMo_take I).2.2)
    else ((fMo_take I).1, (fMo_take I).2.1, 0, (fMo_take I).2.2)
  else (0, 0, y2, I)
def pMo_either_10 (G : Nat → Int32 → Int32 → (Nat → Nat → Int32) → Int32 × Int32 × Int32 × (Nat → Nat → Int32)) (GQ : Nat → Int32 → Int32 → (Nat → Nat → Int32) → Prop) (q6 : Int32 → Int32 → (Nat → Nat → Int32) → Prop) (y1 : Int32) (y2 : Int32) (z0 : Int32) (I : Nat → Nat → Int32) : Prop :=
  (z0 = (307 : Int32) → (pMo_take I) ∧ ((fMo_take I).1 = 0 → pMo_either_20 G GQ q6 y1 y2 ((fMo_take I).2.2))) ∧
  (¬ (z0 = (307 : Int32)) → True)
def fMo_either_6 (G : Nat → Int32 → Int32 → (Nat → Nat → Int32) → Int32 × Int32 × Int32 × (Nat → Nat → Int32)) : Nat → Int32 → Int32 → (Nat → Nat → Int32) → Int32 × Int32 × Int32 × (Nat → Nat → Int32)
  | 0, _, _, I => (0, 0, 0, I)
  | n + 1, y1, y2, I =>
  if (fMo_peek 65537 65537 I).1 = 0 then fMo_either_10 G (fMo_either_6 G n) y1 y2 ((fMo_peek 65537 65537 I).2.2.1) ((fMo_peek 65537 65537 I).2.2.2)
  else ((fMo_peek 65537 65537 I).1, (fMo_peek 65537 65537 I).2.1, 0, (fMo_peek 65537 65537 I).2.2.2)
def pMo_either_6 (G : Nat → Int32 → Int32 → (Nat → Nat → Int32) → Int32 × Int32 × Int32 × (Nat → Nat → Int32)) (GQ : Nat → Int32 → Int32 → (Nat → Nat → Int32) → Prop) : Nat → Int32 → Int32 → (Nat → Nat → Int32) → Prop
  | 0, _, _, _ => False
  | n + 1, y1, y2, I =>
  (pMo_peek 65537 65537 I) ∧ ((fMo_peek 65537 65537 I).1 = 0 → pMo_either_10 G GQ (pMo_either_6 G GQ n) y1 y2 ((fMo_peek 65537 65537 I).2.2.1) ((fMo_peek 65537 65537 I).2.2.2))
def fMo_either_5 (G : Nat → Int32 → Int32 → (Nat → Nat → Int32) → Int32 × Int32 × Int32 × (Nat → Nat → Int32)) (n6 : Nat) (y1 : Int32) (z0 : Int32) (I : Nat → Nat → Int32) : Int32 × Int32 × Int32 × (Nat → Nat → Int32) :=
  fMo_either_6 G n6 y1 z0 I
def pMo_either_5 (G : Nat → Int32 → Int32 → (Nat → Nat → Int32) → Int32 × Int32 × Int32 × (Nat → Nat → Int32)) (GQ : Nat → Int32 → Int32 → (Nat → Nat → Int32) → Prop) (n6 : Nat) (y1 : Int32) (z0 : Int32) (I : Nat → Nat → Int32) : Prop :=
  pMo_either_6 G GQ n6 y1 z0 I
def fMo_either (G : Nat → Int32 → Int32 → (Nat → Nat → Int32) → Int32 × Int32 × Int32 × (Nat → Nat → Int32)) (n6 : Nat) (y1 : Int32) (I : Nat → Nat → Int32) : Int32 × Int32 × Int32 × (Nat → Nat → Int32) :=
  if (G 2 y1 0 I).1 = 0 then fMo_either_5 G n6 y1 ((G 2 y1 0 I).2.2.1) ((G 2 y1 0 I).2.2.2)
  else ((G 2 y1 0 I).1, (G 2 y1 0 I).2.1, 0, (G 2 y1 0 I).2.2.2)
def pMo_either (G : Nat → Int32 → Int32 → (Nat → Nat → Int32) → Int32 × Int32 × Int32 × (Nat → Nat → Int32)) (GQ : Nat → Int32 → Int32 → (Nat → Nat → Int32) → Prop) (n6 : Nat) (y1 : Int32) (I : Nat → Nat → Int32) : Prop :=
  (GQ 2 y1 0 I) ∧ ((G 2 y1 0 I).1 = 0 → pMo_either_5 G GQ n6 y1 ((G 2 y1 0 I).2.2.1) ((G 2 y1 0 I).2.2.2))
set_option maxHeartbeats 4000000 in
set_option maxRecDepth 100000 in
theorem Mo_either_n33 (g : pmG) (d : Nat) (ex : List (Nat × Nat)) (R : Nat → Nat → Value) (hR : mk_R R) (G : Nat → Int32 → Int32 → (Nat → Nat → Int32) → Int32 × Int32 × Int32 × (Nat → Nat → Int32)) (GQ : Nat → Int32 → Int32 → (Nat → Nat → Int32) → Prop) (hG0 : ∀ (x0 x1 : Int32) (I : Nat → Nat → Int32) (J : Nat → Nat → Int64), GQ 0 x0 x1 I → pmT g kMo_formula (d + 613) [.ref 40, .int x0] (mk_K ++ ex, R, I, J) (pt_I (mk_K ++ ex) R J (G 0 x0 x1 I))) (hG1 : ∀ (x0 x1 : Int32) (I : Nat → Nat → Int32) (J : Nat → Nat → Int64), GQ 1 x0 x1 I → pmT g kMo_either (d + 613) [.ref 40, .int x0] (mk_K ++ ex, R, I, J) (pt_I (mk_K ++ ex) R J (G 1 x0 x1 I))) (hG2 : ∀ (x0 x1 : Int32) (I : Nat → Nat → Int32) (J : Nat → Nat → Int64), GQ 2 x0 x1 I → pmT g kMo_both (d + 613) [.ref 40, .int x0] (mk_K ++ ex, R, I, J) (pt_I (mk_K ++ ex) R J (G 2 x0 x1 I))) (hG3 : ∀ (x0 x1 : Int32) (I : Nat → Nat → Int32) (J : Nat → Nat → Int64), GQ 3 x0 x1 I → pmT g kMo_single (d + 613) [.ref 40, .int x0] (mk_K ++ ex, R, I, J) (pt_I (mk_K ++ ex) R J (G 3 x0 x1 I))) (J : Nat → Nat → Int64) (o : Outcome) (Z : pmM) (rc rs : Nat) (r6 : Int32 → Int32 → (Nat → Nat → Int32) → Int32 × Int32 × Int32 × (Nat → Nat → Int32)) (q6 : Int32 → Int32 → (Nat → Nat → Int32) → Prop) (ih6 : ∀ (y1 : Int32) (y2 : Int32) (I : Nat → Nat → Int32), q6 y1 y2 I → (o, Z, rc, rs) = pt_I (mk_K ++ ex) R J (r6 y1 y2 I) → pmE g kMo_either (d + 614) rc rs 6 [(0, .ref 40), (1, .int y1), (2, .int y2)] [] (mk_K ++ ex) R I J o Z)  (y1 : Int32) (y2 : Int32) (y3 : Int32) (z0 : Int32) (I : Nat → Nat → Int32) (hp : pMo_either_33 G GQ q6 y1 y2 y3 z0 I) (hF : (o, Z, rc, rs) = pt_I (mk_K ++ ex) R J (fMo_either_33 G r6 y1 y2 y3 z0 I)) : pmE g kMo_either (d + 614) rc rs 33 [(0, .ref 40), (1, .int y1), (2, .int y2), (3, .int y3)] [.int z0] (mk_K ++ ex) R I J o Z := by
  unfold pMo_either_33 at hp
  refine pm_istore_n dMo_either_33 (by decide) rfl ?_
  refine pm_goto 6 dMo_either_34 (by decide) ?_
  refine pm_wk [1, 2, 0] rfl ?_
  exact ih6 _ _ _ hp (hF.trans (by first | (simp only [fMo_either_33]; done) | (simp only [fMo_either_33]; with_reducible rfl) | with_reducible rfl))
set_option maxHeartbeats 4000000 in
set_option maxRecDepth 100000 in
theorem Mo_either_n25 (g : pmG) (d : Nat) (ex : List (Nat × Nat)) (R : Nat → Nat → Value) (hR : mk_R R) (G : Nat → Int32 → Int32 → (Nat → Nat → Int32) → Int32 × Int32 × Int32 × (Nat → Nat → Int32)) (GQ : Nat → Int32 → Int32 → (Nat → Nat → Int32) → Prop) (hG0 : ∀ (x0 x1 : Int32) (I : Nat → Nat → Int32) (J : Nat → Nat → Int64), GQ 0 x0 x1 I → pmT g kMo_formula (d + 613) [.ref 40, .int x0] (mk_K ++ ex, R, I, J) (pt_I (mk_K ++ ex) R J (G 0 x0 x1 I))) (hG1 : ∀ (x0 x1 : Int32) (I : Nat → Nat → Int32) (J : Nat → Nat → Int64), GQ 1 x0 x1 I → pmT g kMo_either (d + 613) [.ref 40, .int x0] (mk_K ++ ex, R, I, J) (pt_I (mk_K ++ ex) R J (G 1 x0 x1 I))) (hG2 : ∀ (x0 x1 : Int32) (I : Nat → Nat → Int32) (J : Nat → Nat → Int64), GQ 2 x0 x1 I → pmT g kMo_both (d + 613) [.ref 40, .int x0] (mk_K ++ ex, R, I, J) (pt_I (mk_K ++ ex) R J (G 2 x0 x1 I))) (hG3 : ∀ (x0 x1 : Int32) (I : Nat → Nat → Int32) (J : Nat → Nat → Int64), GQ 3 x0 x1 I → pmT g kMo_single (d + 613) [.ref 40, .int x0] (mk_K ++ ex, R, I, J) (pt_I (mk_K ++ ex) R J (G 3 x0 x1 I))) (J : Nat → Nat → Int64) (o : Outcome) (Z : pmM) (rc rs : Nat) (r6 : Int32 → Int32 → (Nat → Nat → Int32) → Int32 × Int32 × Int32 × (Nat → Nat → Int32)) (q6 : Int32 → Int32 → (Nat → Nat → Int32) → Prop) (ih6 : ∀ (y1 : Int32) (y2 : Int32) (I : Nat → Nat → Int32), q6 y1 y2 I → (o, Z, rc, rs) = pt_I (mk_K ++ ex) R J (r6 y1 y2 I) → pmE g kMo_either (d + 614) rc rs 6 [(0, .ref 40), (1, .int y1), (2, .int y2)] [] (mk_K ++ ex) R I J o Z)  (y1 : Int32) (y2 : Int32) (z0 : Int32) (I : Nat → Nat → Int32) (hp : pMo_either_25 G GQ q6 y1 y2 z0 I) (hF : (o, Z, rc, rs) = pt_I (mk_K ++ ex) R J (fMo_either_25 G r6 y1 y2 z0 I)) : pmE g kMo_either (d + 614) rc rs 25 [(0, .ref 40), (1, .int y1), (2, .int y2)] [.int z0] (mk_K ++ ex) R I J o Z := by
  unfold pMo_either_25 at hp
  refine pm_istore_n dMo_either_25 (by decide) rfl ?_
  refine pm_aload_n dMo_either_26 rfl ?_
  refine pm_iconst (v := 2) dMo_either_27 (by decide) ?_
  refine pm_iload_n dMo_either_28 rfl ?_
  refine pm_iload_n dMo_either_29 rfl ?_
  refine pm_callV dMo_either_30 lMo_303 vMo_make ⟨_, _, rfl⟩ (Mo_make_ok _ _ _ _ hR _ _ _ _ _ hp.1) rfl rfl rfl (Nat.le_of_ble_eq_true rfl) (Nat.le_refl _) (Nat.le_refl _) ?_
  refine pm_wk [1, 2, 3, 0] rfl ?_
  exact Mo_either_n33 g d ex R hR G GQ hG0 hG1 hG2 hG3 J _ _ _ _ r6 q6 ih6  _ _ _ _ _ hp.2 (hF.trans (by first | (simp only [fMo_either_25]; done) | (simp only [fMo_either_25]; with_reducible rfl) | with_reducible rfl))
set_option maxHeartbeats 4000000 in
set_option maxRecDepth 100000 in
theorem Mo_either_n20 (g : pmG) (d : Nat) (ex : List (Nat × Nat)) (R : Nat → Nat → Value) (hR : mk_R R) (G : Nat → Int32 → Int32 → (Nat → Nat → Int32) → Int32 × Int32 × Int32 × (Nat → Nat → Int32)) (GQ : Nat → Int32 → Int32 → (Nat → Nat → Int32) → Prop) (hG0 : ∀ (x0 x1 : Int32) (I : Nat → Nat → Int32) (J : Nat → Nat → Int64), GQ 0 x0 x1 I → pmT g kMo_formula (d + 613) [.ref 40, .int x0] (mk_K ++ ex, R, I, J) (pt_I (mk_K ++ ex) R J (G 0 x0 x1 I))) (hG1 : ∀ (x0 x1 : Int32) (I : Nat → Nat → Int32) (J : Nat → Nat → Int64), GQ 1 x0 x1 I → pmT g kMo_either (d + 613) [.ref 40, .int x0] (mk_K ++ ex, R, I, J) (pt_I (mk_K ++ ex) R J (G 1 x0 x1 I))) (hG2 : ∀ (x0 x1 : Int32) (I : Nat → Nat → Int32) (J : Nat → Nat → Int64), GQ 2 x0 x1 I → pmT g kMo_both (d + 613) [.ref 40, .int x0] (mk_K ++ ex, R, I, J) (pt_I (mk_K ++ ex) R J (G 2 x0 x1 I))) (hG3 : ∀ (x0 x1 : Int32) (I : Nat → Nat → Int32) (J : Nat → Nat → Int64), GQ 3 x0 x1 I → pmT g kMo_single (d + 613) [.ref 40, .int x0] (mk_K ++ ex, R, I, J) (pt_I (mk_K ++ ex) R J (G 3 x0 x1 I))) (J : Nat → Nat → Int64) (o : Outcome) (Z : pmM) (rc rs : Nat) (r6 : Int32 → Int32 → (Nat → Nat → Int32) → Int32 × Int32 × Int32 × (Nat → Nat → Int32)) (q6 : Int32 → Int32 → (Nat → Nat → Int32) → Prop) (ih6 : ∀ (y1 : Int32) (y2 : Int32) (I : Nat → Nat → Int32), q6 y1 y2 I → (o, Z, rc, rs) = pt_I (mk_K ++ ex) R J (r6 y1 y2 I) → pmE g kMo_either (d + 614) rc rs 6 [(0, .ref 40), (1, .int y1), (2, .int y2)] [] (mk_K ++ ex) R I J o Z)  (y1 : Int32) (y2 : Int32) (I : Nat → Nat → Int32) (hp : pMo_either_20 G GQ q6 y1 y2 I) (hF : (o, Z, rc, rs) = pt_I (mk_K ++ ex) R J (fMo_either_20 G r6 y1 y2 I)) : pmE g kMo_either (d + 614) rc rs 20 [(0, .ref 40), (1, .int y1), (2, .int y2)] [] (mk_K ++ ex) R I J o Z := by
  unfold pMo_either_20 at hp
  refine pm_aload_n dMo_either_20 rfl ?_
  refine pm_iload_n dMo_either_21 rfl ?_
  refine pt_callV (v2 := some (.int 0)) dMo_either_22 lMo_306 vMo_both ⟨_, _, rfl⟩ (hG2 y1 0 _ _ hp.1) rfl rfl rfl (Nat.le_of_ble_eq_true rfl) (fun h22 => ?_) (fun h22 => hF.trans (by first | (simp only [fMo_either_20, if_neg h22]; done) | (simp only [fMo_either_20, if_neg h22]; rfl) | rfl))
  refine pm_wk [0, 1, 2] rfl ?_
  exact Mo_either_n25 g d ex R hR G GQ hG0 hG1 hG2 hG3 J _ _ _ _ r6 q6 ih6  _ _ _ _ (hp.2 h22) (hF.trans (by first | (simp only [fMo_either_20, if_pos h22]; done) | (simp only [fMo_either_20, if_pos h22]; with_reducible rfl) | with_reducible rfl))
set_option maxHeartbeats 4000000 in
set_option maxRecDepth 100000 in
theorem Mo_either_n10 (g : pmG) (d : Nat) (ex : List (Nat × Nat)) (R : Nat → Nat → Value) (hR : mk_R R) (G : Nat → Int32 → Int32 → (Nat → Nat → Int32) → Int32 × Int32 × Int32 × (Nat → Nat → Int32)) (GQ : Nat → Int32 → Int32 → (Nat → Nat → Int32) → Prop) (hG0 : ∀ (x0 x1 : Int32) (I : Nat → Nat → Int32) (J : Nat → Nat → Int64), GQ 0 x0 x1 I → pmT g kMo_formula (d + 613) [.ref 40, .int x0] (mk_K ++ ex, R, I, J) (pt_I (mk_K ++ ex) R J (G 0 x0 x1 I))) (hG1 : ∀ (x0 x1 : Int32) (I : Nat → Nat → Int32) (J : Nat → Nat → Int64), GQ 1 x0 x1 I → pmT g kMo_either (d + 613) [.ref 40, .int x0] (mk_K ++ ex, R, I, J) (pt_I (mk_K ++ ex) R J (G 1 x0 x1 I))) (hG2 : ∀ (x0 x1 : Int32) (I : Nat → Nat → Int32) (J : Nat → Nat → Int64), GQ 2 x0 x1 I → pmT g kMo_both (d + 613) [.ref 40, .int x0] (mk_K ++ ex, R, I, J) (pt_I (mk_K ++ ex) R J (G 2 x0 x1 I))) (hG3 : ∀ (x0 x1 : Int32) (I : Nat → Nat → Int32) (J : Nat → Nat → Int64), GQ 3 x0 x1 I → pmT g kMo_single (d + 613) [.ref 40, .int x0] (mk_K ++ ex, R, I, J) (pt_I (mk_K ++ ex) R J (G 3 x0 x1 I))) (J : Nat → Nat → Int64) (o : Outcome) (Z : pmM) (rc rs : Nat) (r6 : Int32 → Int32 → (Nat → Nat → Int32) → Int32 × Int32 × Int32 × (Nat → Nat → Int32)) (q6 : Int32 → Int32 → (Nat → Nat → Int32) → Prop) (ih6 : ∀ (y1 : Int32) (y2 : Int32) (I : Nat → Nat → Int32), q6 y1 y2 I → (o, Z, rc, rs) = pt_I (mk_K ++ ex) R J (r6 y1 y2 I) → pmE g kMo_either (d + 614) rc rs 6 [(0, .ref 40), (1, .int y1), (2, .int y2)] [] (mk_K ++ ex) R I J o Z)  (y1 : Int32) (y2 : Int32) (z0 : Int32) (I : Nat → Nat → Int32) (hp : pMo_either_10 G GQ q6 y1 y2 z0 I) (hF : (o, Z, rc, rs) = pt_I (mk_K ++ ex) R J (fMo_either_10 G r6 y1 y2 z0 I)) : pmE g kMo_either (d + 614) rc rs 10 [(0, .ref 40), (1, .int y1), (2, .int y2)] [.int z0] (mk_K ++ ex) R I J o Z := by
  unfold pMo_either_10 at hp
  refine pm_sipush (v := 307) dMo_either_10 (by decide) ?_
  refine pm_icmp_ne 37 dMo_either_13 (by decide) (fun h13 => ?_) (fun h13 => ?_)
  ·
    refine pm_iload_n dMo_either_37 rfl ?_
    exact pt_iret dMo_either_38 rfl (hF.trans (by first | (simp only [fMo_either_10, if_neg h13]; done) | (simp only [fMo_either_10, if_neg h13]; rfl) | rfl))
  ·
    refine pm_aload_n dMo_either_16 rfl ?_
    refine pt_callV (v2 := some (.int 0)) dMo_either_17 lMo_215 vMo_take ⟨_, _, rfl⟩ (Mo_take_ok _ _ _ _ hR  _ _ (hp.1 h13).1) rfl rfl rfl (Nat.le_of_ble_eq_true rfl) (fun h17 => ?_) (fun h17 => hF.trans (by first | (simp only [fMo_either_10, if_pos h13, if_neg h17]; done) | (simp only [fMo_either_10, if_pos h13, if_neg h17]; rfl) | rfl))
    refine pm_wk [0, 1, 2] rfl ?_
    exact Mo_either_n20 g d ex R hR G GQ hG0 hG1 hG2 hG3 J _ _ _ _ r6 q6 ih6  _ _ _ ((hp.1 h13).2 h17) (hF.trans (by first | (simp only [fMo_either_10, if_pos h13, if_pos h17]; done) | (simp only [fMo_either_10, if_pos h13, if_pos h17]; with_reducible rfl) | with_reducible rfl))
set_option maxHeartbeats 4000000 in
set_option maxRecDepth 100000 in
theorem Mo_either_n6 (g : pmG) (d : Nat) (ex : List (Nat × Nat)) (R : Nat → Nat → Value) (hR : mk_R R) (G : Nat → Int32 → Int32 → (Nat → Nat → Int32) → Int32 × Int32 × Int32 × (Nat → Nat → Int32)) (GQ : Nat → Int32 → Int32 → (Nat → Nat → Int32) → Prop) (hG0 : ∀ (x0 x1 : Int32) (I : Nat → Nat → Int32) (J : Nat → Nat → Int64), GQ 0 x0 x1 I → pmT g kMo_formula (d + 613) [.ref 40, .int x0] (mk_K ++ ex, R, I, J) (pt_I (mk_K ++ ex) R J (G 0 x0 x1 I))) (hG1 : ∀ (x0 x1 : Int32) (I : Nat → Nat → Int32) (J : Nat → Nat → Int64), GQ 1 x0 x1 I → pmT g kMo_either (d + 613) [.ref 40, .int x0] (mk_K ++ ex, R, I, J) (pt_I (mk_K ++ ex) R J (G 1 x0 x1 I))) (hG2 : ∀ (x0 x1 : Int32) (I : Nat → Nat → Int32) (J : Nat → Nat → Int64), GQ 2 x0 x1 I → pmT g kMo_both (d + 613) [.ref 40, .int x0] (mk_K ++ ex, R, I, J) (pt_I (mk_K ++ ex) R J (G 2 x0 x1 I))) (hG3 : ∀ (x0 x1 : Int32) (I : Nat → Nat → Int32) (J : Nat → Nat → Int64), GQ 3 x0 x1 I → pmT g kMo_single (d + 613) [.ref 40, .int x0] (mk_K ++ ex, R, I, J) (pt_I (mk_K ++ ex) R J (G 3 x0 x1 I))) (J : Nat → Nat → Int64) (o : Outcome) (Z : pmM) (rc rs : Nat)  : ∀ (n : Nat) (y1 : Int32) (y2 : Int32) (I : Nat → Nat → Int32), pMo_either_6 G GQ n y1 y2 I → (o, Z, rc, rs) = pt_I (mk_K ++ ex) R J (fMo_either_6 G n y1 y2 I) → pmE g kMo_either (d + 614) rc rs 6 [(0, .ref 40), (1, .int y1), (2, .int y2)] [] (mk_K ++ ex) R I J o Z := by
  intro n
  induction n with
  | zero => intro y1 y2 I hp; exact False.elim hp
  | succ n ih =>
  intro y1 y2 I hp hF
  simp only [pMo_either_6] at hp
  refine pm_aload_n dMo_either_6 rfl ?_
  refine pt_callV (v2 := some (.int 0)) dMo_either_7 lMo_207 vMo_peek ⟨_, _, rfl⟩ (Mo_peek_ok _ _ _ _ hR _ _ _ _ hp.1) rfl rfl rfl (Nat.le_of_ble_eq_true rfl) (fun h7 => ?_) (fun h7 => hF.trans (by first | (simp only [fMo_either_6, if_neg h7]; done) | (simp only [fMo_either_6, if_neg h7]; rfl) | rfl))
  refine pm_wk [0, 1, 2] rfl ?_
  exact Mo_either_n10 g d ex R hR G GQ hG0 hG1 hG2 hG3 J _ _ _ _ (fMo_either_6 G n) (pMo_either_6 G GQ n) ih  _ _ _ _ (hp.2 h7) (hF.trans (by first | (simp only [fMo_either_6, if_pos h7]; done) | (simp only [fMo_either_6, if_pos h7]; with_reducible rfl) | with_reducible rfl))
set_option maxHeartbeats 4000000 in
set_option maxRecDepth 100000 in
theorem Mo_either_n5 (g : pmG) (d : Nat) (ex : List (Nat × Nat)) (R : Nat → Nat → Value) (hR : mk_R R) (G : Nat → Int32 → Int32 → (Nat → Nat → Int32) → Int32 × Int32 × Int32 × (Nat → Nat → Int32)) (GQ : Nat → Int32 → Int32 → (Nat → Nat → Int32) → Prop) (hG0 : ∀ (x0 x1 : Int32) (I : Nat → Nat → Int32) (J : Nat → Nat → Int64), GQ 0 x0 x1 I → pmT g kMo_formula (d + 613) [.ref 40, .int x0] (mk_K ++ ex, R, I, J) (pt_I (mk_K ++ ex) R J (G 0 x0 x1 I))) (hG1 : ∀ (x0 x1 : Int32) (I : Nat → Nat → Int32) (J : Nat → Nat → Int64), GQ 1 x0 x1 I → pmT g kMo_either (d + 613) [.ref 40, .int x0] (mk_K ++ ex, R, I, J) (pt_I (mk_K ++ ex) R J (G 1 x0 x1 I))) (hG2 : ∀ (x0 x1 : Int32) (I : Nat → Nat → Int32) (J : Nat → Nat → Int64), GQ 2 x0 x1 I → pmT g kMo_both (d + 613) [.ref 40, .int x0] (mk_K ++ ex, R, I, J) (pt_I (mk_K ++ ex) R J (G 2 x0 x1 I))) (hG3 : ∀ (x0 x1 : Int32) (I : Nat → Nat → Int32) (J : Nat → Nat → Int64), GQ 3 x0 x1 I → pmT g kMo_single (d + 613) [.ref 40, .int x0] (mk_K ++ ex, R, I, J) (pt_I (mk_K ++ ex) R J (G 3 x0 x1 I))) (J : Nat → Nat → Int64) (o : Outcome) (Z : pmM) (rc rs : Nat) (n6 : Nat) (y1 : Int32) (z0 : Int32) (I : Nat → Nat → Int32) (hp : pMo_either_5 G GQ n6 y1 z0 I) (hF : (o, Z, rc, rs) = pt_I (mk_K ++ ex) R J (fMo_either_5 G n6 y1 z0 I)) : pmE g kMo_either (d + 614) rc rs 5 [(0, .ref 40), (1, .int y1)] [.int z0] (mk_K ++ ex) R I J o Z := by
  unfold pMo_either_5 at hp
  refine pm_istore_n dMo_either_5 (by decide) rfl ?_
  refine pm_wk [1, 2, 0] rfl ?_
  exact Mo_either_n6 g d ex R hR G GQ hG0 hG1 hG2 hG3 J _ _ _ _  n6 _ _ _ hp (hF.trans (by first | (simp only [fMo_either_5]; done) | (simp only [fMo_either_5]; with_reducible rfl) | with_reducible rfl))
set_option maxHeartbeats 4000000 in
set_option maxRecDepth 100000 in
theorem Mo_either_n0 (g : pmG) (d : Nat) (ex : List (Nat × Nat)) (R : Nat → Nat → Value) (hR : mk_R R) (G : Nat → Int32 → Int32 → (Nat → Nat → Int32) → Int32 × Int32 × Int32 × (Nat → Nat → Int32)) (GQ : Nat → Int32 → Int32 → (Nat → Nat → Int32) → Prop) (hG0 : ∀ (x0 x1 : Int32) (I : Nat → Nat → Int32) (J : Nat → Nat → Int64), GQ 0 x0 x1 I → pmT g kMo_formula (d + 613) [.ref 40, .int x0] (mk_K ++ ex, R, I, J) (pt_I (mk_K ++ ex) R J (G 0 x0 x1 I))) (hG1 : ∀ (x0 x1 : Int32) (I : Nat → Nat → Int32) (J : Nat → Nat → Int64), GQ 1 x0 x1 I → pmT g kMo_either (d + 613) [.ref 40, .int x0] (mk_K ++ ex, R, I, J) (pt_I (mk_K ++ ex) R J (G 1 x0 x1 I))) (hG2 : ∀ (x0 x1 : Int32) (I : Nat → Nat → Int32) (J : Nat → Nat → Int64), GQ 2 x0 x1 I → pmT g kMo_both (d + 613) [.ref 40, .int x0] (mk_K ++ ex, R, I, J) (pt_I (mk_K ++ ex) R J (G 2 x0 x1 I))) (hG3 : ∀ (x0 x1 : Int32) (I : Nat → Nat → Int32) (J : Nat → Nat → Int64), GQ 3 x0 x1 I → pmT g kMo_single (d + 613) [.ref 40, .int x0] (mk_K ++ ex, R, I, J) (pt_I (mk_K ++ ex) R J (G 3 x0 x1 I))) (J : Nat → Nat → Int64) (o : Outcome) (Z : pmM) (rc rs : Nat) (n6 : Nat) (y1 : Int32) (I : Nat → Nat → Int32) (hp : pMo_either G GQ n6 y1 I) (hF : (o, Z, rc, rs) = pt_I (mk_K ++ ex) R J (fMo_either G n6 y1 I)) : pmE g kMo_either (d + 614) rc rs 0 [(0, .ref 40), (1, .int y1)] [] (mk_K ++ ex) R I J o Z := by
  unfold pMo_either at hp
  refine pm_aload_n dMo_either_0 rfl ?_
  refine pm_iload_n dMo_either_1 rfl ?_
  refine pt_callV (v2 := some (.int 0)) dMo_either_2 lMo_306 vMo_both ⟨_, _, rfl⟩ (hG2 y1 0 _ _ hp.1) rfl rfl rfl (Nat.le_of_ble_eq_true rfl) (fun h2 => ?_) (fun h2 => hF.trans (by first | (simp only [fMo_either, if_neg h2]; done) | (simp only [fMo_either, if_neg h2]; rfl) | rfl))
  refine pm_wk [0, 1] rfl ?_
  exact Mo_either_n5 g d ex R hR G GQ hG0 hG1 hG2 hG3 J _ _ _ _  n6 _ _ _ (hp.2 h2) (hF.trans (by first | (simp only [fMo_either, if_pos h2]; done) | (simp only [fMo_either, if_pos h2]; with_reducible rfl) | with_reducible rfl))
set_option maxHeartbeats 4000000 in
set_option maxRecDepth 100000 in
theorem Mo_either_ok (g : pmG) (d : Nat) (ex : List (Nat × Nat)) (R : Nat → Nat → Value) (hR : mk_R R) (G : Nat → Int32 → Int32 → (Nat → Nat → Int32) → Int32 × Int32 × Int32 × (Nat → Nat → Int32)) (GQ : Nat → Int32 → Int32 → (Nat → Nat → Int32) → Prop) (hG0 : ∀ (x0 x1 : Int32) (I : Nat → Nat → Int32) (J : Nat → Nat → Int64), GQ 0 x0 x1 I → pmT g kMo_formula (d + 613) [.ref 40, .int x0] (mk_K ++ ex, R, I, J) (pt_I (mk_K ++ ex) R J (G 0 x0 x1 I))) (hG1 : ∀ (x0 x1 : Int32) (I : Nat → Nat → Int32) (J : Nat → Nat → Int64), GQ 1 x0 x1 I → pmT g kMo_either (d + 613) [.ref 40, .int x0] (mk_K ++ ex, R, I, J) (pt_I (mk_K ++ ex) R J (G 1 x0 x1 I))) (hG2 : ∀ (x0 x1 : Int32) (I : Nat → Nat → Int32) (J : Nat → Nat → Int64), GQ 2 x0 x1 I → pmT g kMo_both (d + 613) [.ref 40, .int x0] (mk_K ++ ex, R, I, J) (pt_I (mk_K ++ ex) R J (G 2 x0 x1 I))) (hG3 : ∀ (x0 x1 : Int32) (I : Nat → Nat → Int32) (J : Nat → Nat → Int64), GQ 3 x0 x1 I → pmT g kMo_single (d + 613) [.ref 40, .int x0] (mk_K ++ ex, R, I, J) (pt_I (mk_K ++ ex) R J (G 3 x0 x1 I))) (n6 : Nat) (x0 : Int32) (I : Nat → Nat → Int32) (J : Nat → Nat → Int64) (hp : pMo_either G GQ n6 x0 I) : pmT g kMo_either (d + 614) [.ref 40, .int x0] (mk_K ++ ex, R, I, J) (pt_I (mk_K ++ ex) R J (fMo_either G n6 x0 I)) :=
  pmC.of (by decide) (Nat.le_of_ble_eq_true rfl) (Mo_either_n0 g d ex R hR G GQ hG0 hG1 hG2 hG3 J _ _ _ _ n6 x0 I hp rfl)
def fMo_both_33 (G : Nat → Int32 → Int32 → (Nat → Nat → Int32) → Int32 × Int32 × Int32 × (Nat → Nat → Int32)) (r6 : Int32 → Int32 → (Nat → Nat → Int32) → Int32 × Int32 × Int32 × (Nat → Nat → Int32)) (y1 : Int32) (y2 : Int32) (y3 : Int32) (z0 : Int32) (I : Nat → Nat → Int32) : Int32 × Int32 × Int32 × (Nat → Nat → Int32) :=
  r6 y1 z0 I
def pMo_both_33 (G : Nat → Int32 → Int32 → (Nat → Nat → Int32) → Int32 × Int32 × Int32 × (Nat → Nat → Int32)) (GQ : Nat → Int32 → Int32 → (Nat → Nat → Int32) → Prop) (q6 : Int32 → Int32 → (Nat → Nat → Int32) → Prop) (y1 : Int32) (y2 : Int32) (y3 : Int32) (z0 : Int32) (I : Nat → Nat → Int32) : Prop :=
  q6 y1 z0 I
def fMo_both_25 (G : Nat → Int32 → Int32 → (Nat → Nat → Int32) → Int32 × Int32 × Int32 × (Nat → Nat → Int32)) (r6 : Int32 → Int32 → (Nat → Nat → Int32) → Int32 × Int32 × Int32 × (Nat → Nat → Int32)) (y1 : Int32) (y2 : Int32) (z0 : Int32) (I : Nat → Nat → Int32) : Int32 × Int32 × Int32 × (Nat → Nat → Int32) :=
  fMo_both_33 G r6 y1 y2 z0 ((fMo_make (1 : Int32) y2 z0 I).1) ((fMo_make (1 : Int32) y2 z0 I).2)
def pMo_both_25 (G : Nat → Int32 → Int32 → (Nat → Nat → Int32) → Int32 × Int32 × Int32 × (Nat → Nat → Int32)) (GQ : Nat → Int32 → Int32 → (Nat → Nat → Int32) → Prop) (q6 : Int32 → Int32 → (Nat → Nat → Int32) → Prop) (y1 : Int32) (y2 : Int32) (z0 : Int32) (I : Nat → Nat → Int32) : Prop :=
  (pMo_make (1 : Int32) y2 z0 I) ∧ (pMo_both_33 G GQ q6 y1 y2 z0 ((fMo_make (1 : Int32) y2 z0 I).1) ((fMo_make (1 : Int32) y2 z0 I).2))
def fMo_both_20 (G : Nat → Int32 → Int32 → (Nat → Nat → Int32) → Int32 × Int32 × Int32 × (Nat → Nat → Int32)) (r6 : Int32 → Int32 → (Nat → Nat → Int32) → Int32 × Int32 × Int32 × (Nat → Nat → Int32)) (y1 : Int32) (y2 : Int32) (I : Nat → Nat → Int32) : Int32 × Int32 × Int32 × (Nat → Nat → Int32) :=
  if (G 3 y1 0 I).1 = 0 then fMo_both_25 G r6 y1 y2 ((G 3 y1 0 I).2.2.1) ((G 3 y1 0 I).2.2.2)
  else ((G 3 y1 0 I).1, (G 3 y1 0 I).2.1, 0, (G 3 y1 0 I).2.2.2)
def pMo_both_20 (G : Nat → Int32 → Int32 → (Nat → Nat → Int32) → Int32 × Int32 × Int32 × (Nat → Nat → Int32)) (GQ : Nat → Int32 → Int32 → (Nat → Nat → Int32) → Prop) (q6 : Int32 → Int32 → (Nat → Nat → Int32) → Prop) (y1 : Int32) (y2 : Int32) (I : Nat → Nat → Int32) : Prop :=
  (GQ 3 y1 0 I) ∧ ((G 3 y1 0 I).1 = 0 → pMo_both_25 G GQ q6 y1 y2 ((G 3 y1 0 I).2.2.1) ((G 3 y1 0 I).2.2.2))
def fMo_both_10 (G : Nat → Int32 → Int32 → (Nat → Nat → Int32) → Int32 × Int32 × Int32 × (Nat → Nat → Int32)) (r6 : Int32 → Int32 → (Nat → Nat → Int32) → Int32 × Int32 × Int32 × (Nat → Nat → Int32)) (y1 : Int32) (y2 : Int32) (z0 : Int32) (I : Nat → Nat → Int32) : Int32 × Int32 × Int32 × (Nat → Nat → Int32) :=
  if z0 = (306 : Int32) then if (fMo_take I).1 = 0 then fMo_both_20 G r6 y1 y2 ((fMo_take I).2.2)
    else ((fMo_take I).1, (fMo_take I).2.1, 0, (fMo_take I).2.2)
  else (0, 0, y2, I)
def pMo_both_10 (G : Nat → Int32 → Int32 → (Nat → Nat → Int32) → Int32 × Int32 × Int32 × (Nat → Nat → Int32)) (GQ : Nat → Int32 → Int32 → (Nat → Nat → Int32) → Prop) (q6 : Int32 → Int32 → (Nat → Nat → Int32) → Prop) (y1 : Int32) (y2 : Int32) (z0 : Int32) (I : Nat → Nat → Int32) : Prop :=
  (z0 = (306 : Int32) → (pMo_take I) ∧ ((fMo_take I).1 = 0 → pMo_both_20 G GQ q6 y1 y2 ((fMo_take I).2.2))) ∧
  (¬ (z0 = (306 : Int32)) → True)
def fMo_both_6 (G : Nat → Int32 → Int32 → (Nat → Nat → Int32) → Int32 × Int32 × Int32 × (Nat → Nat → Int32)) : Nat → Int32 → Int32 → (Nat → Nat → Int32) → Int32 × Int32 × Int32 × (Nat → Nat → Int32)
  | 0, _, _, I => (0, 0, 0, I)
  | n + 1, y1, y2, I =>
  if (fMo_peek 65537 65537 I).1 = 0 then fMo_both_10 G (fMo_both_6 G n) y1 y2 ((fMo_peek 65537 65537 I).2.2.1) ((fMo_peek 65537 65537 I).2.2.2)
  else ((fMo_peek 65537 65537 I).1, (fMo_peek 65537 65537 I).2.1, 0, (fMo_peek 65537 65537 I).2.2.2)
def pMo_both_6 (G : Nat → Int32 → Int32 → (Nat → Nat → Int32) → Int32 × Int32 × Int32 × (Nat → Nat → Int32)) (GQ : Nat → Int32 → Int32 → (Nat → Nat → Int32) → Prop) : Nat → Int32 → Int32 → (Nat → Nat → Int32) → Prop
  | 0, _, _, _ => False
  | n + 1, y1, y2, I =>
  (pMo_peek 65537 65537 I) ∧ ((fMo_peek 65537 65537 I).1 = 0 → pMo_both_10 G GQ (pMo_both_6 G GQ n) y1 y2 ((fMo_peek 65537 65537 I).2.2.1) ((fMo_peek 65537 65537 I).2.2.2))
def fMo_both_5 (G : Nat → Int32 → Int32 → (Nat → Nat → Int32) → Int32 × Int32 × Int32 × (Nat → Nat → Int32)) (n6 : Nat) (y1 : Int32) (z0 : Int32) (I : Nat → Nat → Int32) : Int32 × Int32 × Int32 × (Nat → Nat → Int32) :=
  fMo_both_6 G n6 y1 z0 I
def pMo_both_5 (G : Nat → Int32 → Int32 → (Nat → Nat → Int32) → Int32 × Int32 × Int32 × (Nat → Nat → Int32)) (GQ : Nat → Int32 → Int32 → (Nat → Nat → Int32) → Prop) (n6 : Nat) (y1 : Int32) (z0 : Int32) (I : Nat → Nat → Int32) : Prop :=
  pMo_both_6 G GQ n6 y1 z0 I
def fMo_both (G : Nat → Int32 → Int32 → (Nat → Nat → Int32) → Int32 × Int32 × Int32 × (Nat → Nat → Int32)) (n6 : Nat) (y1 : Int32) (I : Nat → Nat → Int32) : Int32 × Int32 × Int32 × (Nat → Nat → Int32) :=
  if (G 3 y1 0 I).1 = 0 then fMo_both_5 G n6 y1 ((G 3 y1 0 I).2.2.1) ((G 3 y1 0 I).2.2.2)
  else ((G 3 y1 0 I).1, (G 3 y1 0 I).2.1, 0, (G 3 y1 0 I).2.2.2)
def pMo_both (G : Nat → Int32 → Int32 → (Nat → Nat → Int32) → Int32 × Int32 × Int32 × (Nat → Nat → Int32)) (GQ : Nat → Int32 → Int32 → (Nat → Nat → Int32) → Prop) (n6 : Nat) (y1 : Int32) (I : Nat → Nat → Int32) : Prop :=
  (GQ 3 y1 0 I) ∧ ((G 3 y1 0 I).1 = 0 → pMo_both_5 G GQ n6 y1 ((G 3 y1 0 I).2.2.1) ((G 3 y1 0 I).2.2.2))
set_option maxHeartbeats 4000000 in
set_option maxRecDepth 100000 in
theorem Mo_both_n33 (g : pmG) (d : Nat) (ex : List (Nat × Nat)) (R : Nat → Nat → Value) (hR : mk_R R) (G : Nat → Int32 → Int32 → (Nat → Nat → Int32) → Int32 × Int32 × Int32 × (Nat → Nat → Int32)) (GQ : Nat → Int32 → Int32 → (Nat → Nat → Int32) → Prop) (hG0 : ∀ (x0 x1 : Int32) (I : Nat → Nat → Int32) (J : Nat → Nat → Int64), GQ 0 x0 x1 I → pmT g kMo_formula (d + 613) [.ref 40, .int x0] (mk_K ++ ex, R, I, J) (pt_I (mk_K ++ ex) R J (G 0 x0 x1 I))) (hG1 : ∀ (x0 x1 : Int32) (I : Nat → Nat → Int32) (J : Nat → Nat → Int64), GQ 1 x0 x1 I → pmT g kMo_either (d + 613) [.ref 40, .int x0] (mk_K ++ ex, R, I, J) (pt_I (mk_K ++ ex) R J (G 1 x0 x1 I))) (hG2 : ∀ (x0 x1 : Int32) (I : Nat → Nat → Int32) (J : Nat → Nat → Int64), GQ 2 x0 x1 I → pmT g kMo_both (d + 613) [.ref 40, .int x0] (mk_K ++ ex, R, I, J) (pt_I (mk_K ++ ex) R J (G 2 x0 x1 I))) (hG3 : ∀ (x0 x1 : Int32) (I : Nat → Nat → Int32) (J : Nat → Nat → Int64), GQ 3 x0 x1 I → pmT g kMo_single (d + 613) [.ref 40, .int x0] (mk_K ++ ex, R, I, J) (pt_I (mk_K ++ ex) R J (G 3 x0 x1 I))) (J : Nat → Nat → Int64) (o : Outcome) (Z : pmM) (rc rs : Nat) (r6 : Int32 → Int32 → (Nat → Nat → Int32) → Int32 × Int32 × Int32 × (Nat → Nat → Int32)) (q6 : Int32 → Int32 → (Nat → Nat → Int32) → Prop) (ih6 : ∀ (y1 : Int32) (y2 : Int32) (I : Nat → Nat → Int32), q6 y1 y2 I → (o, Z, rc, rs) = pt_I (mk_K ++ ex) R J (r6 y1 y2 I) → pmE g kMo_both (d + 614) rc rs 6 [(0, .ref 40), (1, .int y1), (2, .int y2)] [] (mk_K ++ ex) R I J o Z)  (y1 : Int32) (y2 : Int32) (y3 : Int32) (z0 : Int32) (I : Nat → Nat → Int32) (hp : pMo_both_33 G GQ q6 y1 y2 y3 z0 I) (hF : (o, Z, rc, rs) = pt_I (mk_K ++ ex) R J (fMo_both_33 G r6 y1 y2 y3 z0 I)) : pmE g kMo_both (d + 614) rc rs 33 [(0, .ref 40), (1, .int y1), (2, .int y2), (3, .int y3)] [.int z0] (mk_K ++ ex) R I J o Z := by
  unfold pMo_both_33 at hp
  refine pm_istore_n dMo_both_33 (by decide) rfl ?_
  refine pm_goto 6 dMo_both_34 (by decide) ?_
  refine pm_wk [1, 2, 0] rfl ?_
  exact ih6 _ _ _ hp (hF.trans (by first | (simp only [fMo_both_33]; done) | (simp only [fMo_both_33]; with_reducible rfl) | with_reducible rfl))
set_option maxHeartbeats 4000000 in
set_option maxRecDepth 100000 in
theorem Mo_both_n25 (g : pmG) (d : Nat) (ex : List (Nat × Nat)) (R : Nat → Nat → Value) (hR : mk_R R) (G : Nat → Int32 → Int32 → (Nat → Nat → Int32) → Int32 × Int32 × Int32 × (Nat → Nat → Int32)) (GQ : Nat → Int32 → Int32 → (Nat → Nat → Int32) → Prop) (hG0 : ∀ (x0 x1 : Int32) (I : Nat → Nat → Int32) (J : Nat → Nat → Int64), GQ 0 x0 x1 I → pmT g kMo_formula (d + 613) [.ref 40, .int x0] (mk_K ++ ex, R, I, J) (pt_I (mk_K ++ ex) R J (G 0 x0 x1 I))) (hG1 : ∀ (x0 x1 : Int32) (I : Nat → Nat → Int32) (J : Nat → Nat → Int64), GQ 1 x0 x1 I → pmT g kMo_either (d + 613) [.ref 40, .int x0] (mk_K ++ ex, R, I, J) (pt_I (mk_K ++ ex) R J (G 1 x0 x1 I))) (hG2 : ∀ (x0 x1 : Int32) (I : Nat → Nat → Int32) (J : Nat → Nat → Int64), GQ 2 x0 x1 I → pmT g kMo_both (d + 613) [.ref 40, .int x0] (mk_K ++ ex, R, I, J) (pt_I (mk_K ++ ex) R J (G 2 x0 x1 I))) (hG3 : ∀ (x0 x1 : Int32) (I : Nat → Nat → Int32) (J : Nat → Nat → Int64), GQ 3 x0 x1 I → pmT g kMo_single (d + 613) [.ref 40, .int x0] (mk_K ++ ex, R, I, J) (pt_I (mk_K ++ ex) R J (G 3 x0 x1 I))) (J : Nat → Nat → Int64) (o : Outcome) (Z : pmM) (rc rs : Nat) (r6 : Int32 → Int32 → (Nat → Nat → Int32) → Int32 × Int32 × Int32 × (Nat → Nat → Int32)) (q6 : Int32 → Int32 → (Nat → Nat → Int32) → Prop) (ih6 : ∀ (y1 : Int32) (y2 : Int32) (I : Nat → Nat → Int32), q6 y1 y2 I → (o, Z, rc, rs) = pt_I (mk_K ++ ex) R J (r6 y1 y2 I) → pmE g kMo_both (d + 614) rc rs 6 [(0, .ref 40), (1, .int y1), (2, .int y2)] [] (mk_K ++ ex) R I J o Z)  (y1 : Int32) (y2 : Int32) (z0 : Int32) (I : Nat → Nat → Int32) (hp : pMo_both_25 G GQ q6 y1 y2 z0 I) (hF : (o, Z, rc, rs) = pt_I (mk_K ++ ex) R J (fMo_both_25 G r6 y1 y2 z0 I)) : pmE g kMo_both (d + 614) rc rs 25 [(0, .ref 40), (1, .int y1), (2, .int y2)] [.int z0] (mk_K ++ ex) R I J o Z := by
  unfold pMo_both_25 at hp
  refine pm_istore_n dMo_both_25 (by decide) rfl ?_
  refine pm_aload_n dMo_both_26 rfl ?_
  refine pm_iconst (v := 1) dMo_both_27 (by decide) ?_
  refine pm_iload_n dMo_both_28 rfl ?_
  refine pm_iload_n dMo_both_29 rfl ?_
  refine pm_callV dMo_both_30 lMo_303 vMo_make ⟨_, _, rfl⟩ (Mo_make_ok _ _ _ _ hR _ _ _ _ _ hp.1) rfl rfl rfl (Nat.le_of_ble_eq_true rfl) (Nat.le_refl _) (Nat.le_refl _) ?_
  refine pm_wk [1, 2, 3, 0] rfl ?_
  exact Mo_both_n33 g d ex R hR G GQ hG0 hG1 hG2 hG3 J _ _ _ _ r6 q6 ih6  _ _ _ _ _ hp.2 (hF.trans (by first | (simp only [fMo_both_25]; done) | (simp only [fMo_both_25]; with_reducible rfl) | with_reducible rfl))
set_option maxHeartbeats 4000000 in
set_option maxRecDepth 100000 in
theorem Mo_both_n20 (g : pmG) (d : Nat) (ex : List (Nat × Nat)) (R : Nat → Nat → Value) (hR : mk_R R) (G : Nat → Int32 → Int32 → (Nat → Nat → Int32) → Int32 × Int32 × Int32 × (Nat → Nat → Int32)) (GQ : Nat → Int32 → Int32 → (Nat → Nat → Int32) → Prop) (hG0 : ∀ (x0 x1 : Int32) (I : Nat → Nat → Int32) (J : Nat → Nat → Int64), GQ 0 x0 x1 I → pmT g kMo_formula (d + 613) [.ref 40, .int x0] (mk_K ++ ex, R, I, J) (pt_I (mk_K ++ ex) R J (G 0 x0 x1 I))) (hG1 : ∀ (x0 x1 : Int32) (I : Nat → Nat → Int32) (J : Nat → Nat → Int64), GQ 1 x0 x1 I → pmT g kMo_either (d + 613) [.ref 40, .int x0] (mk_K ++ ex, R, I, J) (pt_I (mk_K ++ ex) R J (G 1 x0 x1 I))) (hG2 : ∀ (x0 x1 : Int32) (I : Nat → Nat → Int32) (J : Nat → Nat → Int64), GQ 2 x0 x1 I → pmT g kMo_both (d + 613) [.ref 40, .int x0] (mk_K ++ ex, R, I, J) (pt_I (mk_K ++ ex) R J (G 2 x0 x1 I))) (hG3 : ∀ (x0 x1 : Int32) (I : Nat → Nat → Int32) (J : Nat → Nat → Int64), GQ 3 x0 x1 I → pmT g kMo_single (d + 613) [.ref 40, .int x0] (mk_K ++ ex, R, I, J) (pt_I (mk_K ++ ex) R J (G 3 x0 x1 I))) (J : Nat → Nat → Int64) (o : Outcome) (Z : pmM) (rc rs : Nat) (r6 : Int32 → Int32 → (Nat → Nat → Int32) → Int32 × Int32 × Int32 × (Nat → Nat → Int32)) (q6 : Int32 → Int32 → (Nat → Nat → Int32) → Prop) (ih6 : ∀ (y1 : Int32) (y2 : Int32) (I : Nat → Nat → Int32), q6 y1 y2 I → (o, Z, rc, rs) = pt_I (mk_K ++ ex) R J (r6 y1 y2 I) → pmE g kMo_both (d + 614) rc rs 6 [(0, .ref 40), (1, .int y1), (2, .int y2)] [] (mk_K ++ ex) R I J o Z)  (y1 : Int32) (y2 : Int32) (I : Nat → Nat → Int32) (hp : pMo_both_20 G GQ q6 y1 y2 I) (hF : (o, Z, rc, rs) = pt_I (mk_K ++ ex) R J (fMo_both_20 G r6 y1 y2 I)) : pmE g kMo_both (d + 614) rc rs 20 [(0, .ref 40), (1, .int y1), (2, .int y2)] [] (mk_K ++ ex) R I J o Z := by
  unfold pMo_both_20 at hp
  refine pm_aload_n dMo_both_20 rfl ?_
  refine pm_iload_n dMo_both_21 rfl ?_
  refine pt_callV (v2 := some (.int 0)) dMo_both_22 lMo_309 vMo_single ⟨_, _, rfl⟩ (hG3 y1 0 _ _ hp.1) rfl rfl rfl (Nat.le_of_ble_eq_true rfl) (fun h22 => ?_) (fun h22 => hF.trans (by first | (simp only [fMo_both_20, if_neg h22]; done) | (simp only [fMo_both_20, if_neg h22]; rfl) | rfl))
  refine pm_wk [0, 1, 2] rfl ?_
  exact Mo_both_n25 g d ex R hR G GQ hG0 hG1 hG2 hG3 J _ _ _ _ r6 q6 ih6  _ _ _ _ (hp.2 h22) (hF.trans (by first | (simp only [fMo_both_20, if_pos h22]; done) | (simp only [fMo_both_20, if_pos h22]; with_reducible rfl) | with_reducible rfl))
set_option maxHeartbeats 4000000 in
set_option maxRecDepth 100000 in
theorem Mo_both_n10 (g : pmG) (d : Nat) (ex : List (Nat × Nat)) (R : Nat → Nat → Value) (hR : mk_R R) (G : Nat → Int32 → Int32 → (Nat → Nat → Int32) → Int32 × Int32 × Int32 × (Nat → Nat → Int32)) (GQ : Nat → Int32 → Int32 → (Nat → Nat → Int32) → Prop) (hG0 : ∀ (x0 x1 : Int32) (I : Nat → Nat → Int32) (J : Nat → Nat → Int64), GQ 0 x0 x1 I → pmT g kMo_formula (d + 613) [.ref 40, .int x0] (mk_K ++ ex, R, I, J) (pt_I (mk_K ++ ex) R J (G 0 x0 x1 I))) (hG1 : ∀ (x0 x1 : Int32) (I : Nat → Nat → Int32) (J : Nat → Nat → Int64), GQ 1 x0 x1 I → pmT g kMo_either (d + 613) [.ref 40, .int x0] (mk_K ++ ex, R, I, J) (pt_I (mk_K ++ ex) R J (G 1 x0 x1 I))) (hG2 : ∀ (x0 x1 : Int32) (I : Nat → Nat → Int32) (J : Nat → Nat → Int64), GQ 2 x0 x1 I → pmT g kMo_both (d + 613) [.ref 40, .int x0] (mk_K ++ ex, R, I, J) (pt_I (mk_K ++ ex) R J (G 2 x0 x1 I))) (hG3 : ∀ (x0 x1 : Int32) (I : Nat → Nat → Int32) (J : Nat → Nat → Int64), GQ 3 x0 x1 I → pmT g kMo_single (d + 613) [.ref 40, .int x0] (mk_K ++ ex, R, I, J) (pt_I (mk_K ++ ex) R J (G 3 x0 x1 I))) (J : Nat → Nat → Int64) (o : Outcome) (Z : pmM) (rc rs : Nat) (r6 : Int32 → Int32 → (Nat → Nat → Int32) → Int32 × Int32 × Int32 × (Nat → Nat → Int32)) (q6 : Int32 → Int32 → (Nat → Nat → Int32) → Prop) (ih6 : ∀ (y1 : Int32) (y2 : Int32) (I : Nat → Nat → Int32), q6 y1 y2 I → (o, Z, rc, rs) = pt_I (mk_K ++ ex) R J (r6 y1 y2 I) → pmE g kMo_both (d + 614) rc rs 6 [(0, .ref 40), (1, .int y1), (2, .int y2)] [] (mk_K ++ ex) R I J o Z)  (y1 : Int32) (y2 : Int32) (z0 : Int32) (I : Nat → Nat → Int32) (hp : pMo_both_10 G GQ q6 y1 y2 z0 I) (hF : (o, Z, rc, rs) = pt_I (mk_K ++ ex) R J (fMo_both_10 G r6 y1 y2 z0 I)) : pmE g kMo_both (d + 614) rc rs 10 [(0, .ref 40), (1, .int y1), (2, .int y2)] [.int z0] (mk_K ++ ex) R I J o Z := by
  unfold pMo_both_10 at hp
  refine pm_sipush (v := 306) dMo_both_10 (by decide) ?_
  refine pm_icmp_ne 37 dMo_both_13 (by decide) (fun h13 => ?_) (fun h13 => ?_)
  ·
    refine pm_iload_n dMo_both_37 rfl ?_
    exact pt_iret dMo_both_38 rfl (hF.trans (by first | (simp only [fMo_both_10, if_neg h13]; done) | (simp only [fMo_both_10, if_neg h13]; rfl) | rfl))
  ·
    refine pm_aload_n dMo_both_16 rfl ?_
    refine pt_callV (v2 := some (.int 0)) dMo_both_17 lMo_215 vMo_take ⟨_, _, rfl⟩ (Mo_take_ok _ _ _ _ hR  _ _ (hp.1 h13).1) rfl rfl rfl (Nat.le_of_ble_eq_true rfl) (fun h17 => ?_) (fun h17 => hF.trans (by first | (simp only [fMo_both_10, if_pos h13, if_neg h17]; done) | (simp only [fMo_both_10, if_pos h13, if_neg h17]; rfl) | rfl))
    refine pm_wk [0, 1, 2] rfl ?_
    exact Mo_both_n20 g d ex R hR G GQ hG0 hG1 hG2 hG3 J _ _ _ _ r6 q6 ih6  _ _ _ ((hp.1 h13).2 h17) (hF.trans (by first | (simp only [fMo_both_10, if_pos h13, if_pos h17]; done) | (simp only [fMo_both_10, if_pos h13, if_pos h17]; with_reducible rfl) | with_reducible rfl))
set_option maxHeartbeats 4000000 in
set_option maxRecDepth 100000 in
theorem Mo_both_n6 (g : pmG) (d : Nat) (ex : List (Nat × Nat)) (R : Nat → Nat → Value) (hR : mk_R R) (G : Nat → Int32 → Int32 → (Nat → Nat → Int32) → Int32 × Int32 × Int32 × (Nat → Nat → Int32)) (GQ : Nat → Int32 → Int32 → (Nat → Nat → Int32) → Prop) (hG0 : ∀ (x0 x1 : Int32) (I : Nat → Nat → Int32) (J : Nat → Nat → Int64), GQ 0 x0 x1 I → pmT g kMo_formula (d + 613) [.ref 40, .int x0] (mk_K ++ ex, R, I, J) (pt_I (mk_K ++ ex) R J (G 0 x0 x1 I))) (hG1 : ∀ (x0 x1 : Int32) (I : Nat → Nat → Int32) (J : Nat → Nat → Int64), GQ 1 x0 x1 I → pmT g kMo_either (d + 613) [.ref 40, .int x0] (mk_K ++ ex, R, I, J) (pt_I (mk_K ++ ex) R J (G 1 x0 x1 I))) (hG2 : ∀ (x0 x1 : Int32) (I : Nat → Nat → Int32) (J : Nat → Nat → Int64), GQ 2 x0 x1 I → pmT g kMo_both (d + 613) [.ref 40, .int x0] (mk_K ++ ex, R, I, J) (pt_I (mk_K ++ ex) R J (G 2 x0 x1 I))) (hG3 : ∀ (x0 x1 : Int32) (I : Nat → Nat → Int32) (J : Nat → Nat → Int64), GQ 3 x0 x1 I → pmT g kMo_single (d + 613) [.ref 40, .int x0] (mk_K ++ ex, R, I, J) (pt_I (mk_K ++ ex) R J (G 3 x0 x1 I))) (J : Nat → Nat → Int64) (o : Outcome) (Z : pmM) (rc rs : Nat)  : ∀ (n : Nat) (y1 : Int32) (y2 : Int32) (I : Nat → Nat → Int32), pMo_both_6 G GQ n y1 y2 I → (o, Z, rc, rs) = pt_I (mk_K ++ ex) R J (fMo_both_6 G n y1 y2 I) → pmE g kMo_both (d + 614) rc rs 6 [(0, .ref 40), (1, .int y1), (2, .int y2)] [] (mk_K ++ ex) R I J o Z := by
  intro n
  induction n with
  | zero => intro y1 y2 I hp; exact False.elim hp
  | succ n ih =>
  intro y1 y2 I hp hF
  simp only [pMo_both_6] at hp
  refine pm_aload_n dMo_both_6 rfl ?_
  refine pt_callV (v2 := some (.int 0)) dMo_both_7 lMo_207 vMo_peek ⟨_, _, rfl⟩ (Mo_peek_ok _ _ _ _ hR _ _ _ _ hp.1) rfl rfl rfl (Nat.le_of_ble_eq_true rfl) (fun h7 => ?_) (fun h7 => hF.trans (by first | (simp only [fMo_both_6, if_neg h7]; done) | (simp only [fMo_both_6, if_neg h7]; rfl) | rfl))
  refine pm_wk [0, 1, 2] rfl ?_
  exact Mo_both_n10 g d ex R hR G GQ hG0 hG1 hG2 hG3 J _ _ _ _ (fMo_both_6 G n) (pMo_both_6 G GQ n) ih  _ _ _ _ (hp.2 h7) (hF.trans (by first | (simp only [fMo_both_6, if_pos h7]; done) | (simp only [fMo_both_6, if_pos h7]; with_reducible rfl) | with_reducible rfl))
set_option maxHeartbeats 4000000 in
set_option maxRecDepth 100000 in
theorem Mo_both_n5 (g : pmG) (d : Nat) (ex : List (Nat × Nat)) (R : Nat → Nat → Value) (hR : mk_R R) (G : Nat → Int32 → Int32 → (Nat → Nat → Int32) → Int32 × Int32 × Int32 × (Nat → Nat → Int32)) (GQ : Nat → Int32 → Int32 → (Nat → Nat → Int32) → Prop) (hG0 : ∀ (x0 x1 : Int32) (I : Nat → Nat → Int32) (J : Nat → Nat → Int64), GQ 0 x0 x1 I → pmT g kMo_formula (d + 613) [.ref 40, .int x0] (mk_K ++ ex, R, I, J) (pt_I (mk_K ++ ex) R J (G 0 x0 x1 I))) (hG1 : ∀ (x0 x1 : Int32) (I : Nat → Nat → Int32) (J : Nat → Nat → Int64), GQ 1 x0 x1 I → pmT g kMo_either (d + 613) [.ref 40, .int x0] (mk_K ++ ex, R, I, J) (pt_I (mk_K ++ ex) R J (G 1 x0 x1 I))) (hG2 : ∀ (x0 x1 : Int32) (I : Nat → Nat → Int32) (J : Nat → Nat → Int64), GQ 2 x0 x1 I → pmT g kMo_both (d + 613) [.ref 40, .int x0] (mk_K ++ ex, R, I, J) (pt_I (mk_K ++ ex) R J (G 2 x0 x1 I))) (hG3 : ∀ (x0 x1 : Int32) (I : Nat → Nat → Int32) (J : Nat → Nat → Int64), GQ 3 x0 x1 I → pmT g kMo_single (d + 613) [.ref 40, .int x0] (mk_K ++ ex, R, I, J) (pt_I (mk_K ++ ex) R J (G 3 x0 x1 I))) (J : Nat → Nat → Int64) (o : Outcome) (Z : pmM) (rc rs : Nat) (n6 : Nat) (y1 : Int32) (z0 : Int32) (I : Nat → Nat → Int32) (hp : pMo_both_5 G GQ n6 y1 z0 I) (hF : (o, Z, rc, rs) = pt_I (mk_K ++ ex) R J (fMo_both_5 G n6 y1 z0 I)) : pmE g kMo_both (d + 614) rc rs 5 [(0, .ref 40), (1, .int y1)] [.int z0] (mk_K ++ ex) R I J o Z := by
  unfold pMo_both_5 at hp
  refine pm_istore_n dMo_both_5 (by decide) rfl ?_
  refine pm_wk [1, 2, 0] rfl ?_
  exact Mo_both_n6 g d ex R hR G GQ hG0 hG1 hG2 hG3 J _ _ _ _  n6 _ _ _ hp (hF.trans (by first | (simp only [fMo_both_5]; done) | (simp only [fMo_both_5]; with_reducible rfl) | with_reducible rfl))
set_option maxHeartbeats 4000000 in
set_option maxRecDepth 100000 in
theorem Mo_both_n0 (g : pmG) (d : Nat) (ex : List (Nat × Nat)) (R : Nat → Nat → Value) (hR : mk_R R) (G : Nat → Int32 → Int32 → (Nat → Nat → Int32) → Int32 × Int32 × Int32 × (Nat → Nat → Int32)) (GQ : Nat → Int32 → Int32 → (Nat → Nat → Int32) → Prop) (hG0 : ∀ (x0 x1 : Int32) (I : Nat → Nat → Int32) (J : Nat → Nat → Int64), GQ 0 x0 x1 I → pmT g kMo_formula (d + 613) [.ref 40, .int x0] (mk_K ++ ex, R, I, J) (pt_I (mk_K ++ ex) R J (G 0 x0 x1 I))) (hG1 : ∀ (x0 x1 : Int32) (I : Nat → Nat → Int32) (J : Nat → Nat → Int64), GQ 1 x0 x1 I → pmT g kMo_either (d + 613) [.ref 40, .int x0] (mk_K ++ ex, R, I, J) (pt_I (mk_K ++ ex) R J (G 1 x0 x1 I))) (hG2 : ∀ (x0 x1 : Int32) (I : Nat → Nat → Int32) (J : Nat → Nat → Int64), GQ 2 x0 x1 I → pmT g kMo_both (d + 613) [.ref 40, .int x0] (mk_K ++ ex, R, I, J) (pt_I (mk_K ++ ex) R J (G 2 x0 x1 I))) (hG3 : ∀ (x0 x1 : Int32) (I : Nat → Nat → Int32) (J : Nat → Nat → Int64), GQ 3 x0 x1 I → pmT g kMo_single (d + 613) [.ref 40, .int x0] (mk_K ++ ex, R, I, J) (pt_I (mk_K ++ ex) R J (G 3 x0 x1 I))) (J : Nat → Nat → Int64) (o : Outcome) (Z : pmM) (rc rs : Nat) (n6 : Nat) (y1 : Int32) (I : Nat → Nat → Int32) (hp : pMo_both G GQ n6 y1 I) (hF : (o, Z, rc, rs) = pt_I (mk_K ++ ex) R J (fMo_both G n6 y1 I)) : pmE g kMo_both (d + 614) rc rs 0 [(0, .ref 40), (1, .int y1)] [] (mk_K ++ ex) R I J o Z := by
  unfold pMo_both at hp
  refine pm_aload_n dMo_both_0 rfl ?_
  refine pm_iload_n dMo_both_1 rfl ?_
  refine pt_callV (v2 := some (.int 0)) dMo_both_2 lMo_309 vMo_single ⟨_, _, rfl⟩ (hG3 y1 0 _ _ hp.1) rfl rfl rfl (Nat.le_of_ble_eq_true rfl) (fun h2 => ?_) (fun h2 => hF.trans (by first | (simp only [fMo_both, if_neg h2]; done) | (simp only [fMo_both, if_neg h2]; rfl) | rfl))
  refine pm_wk [0, 1] rfl ?_
  exact Mo_both_n5 g d ex R hR G GQ hG0 hG1 hG2 hG3 J _ _ _ _  n6 _ _ _ (hp.2 h2) (hF.trans (by first | (simp only [fMo_both, if_pos h2]; done) | (simp only [fMo_both, if_pos h2]; with_reducible rfl) | with_reducible rfl))
set_option maxHeartbeats 4000000 in
set_option maxRecDepth 100000 in
theorem Mo_both_ok (g : pmG) (d : Nat) (ex : List (Nat × Nat)) (R : Nat → Nat → Value) (hR : mk_R R) (G : Nat → Int32 → Int32 → (Nat → Nat → Int32) → Int32 × Int32 × Int32 × (Nat → Nat → Int32)) (GQ : Nat → Int32 → Int32 → (Nat → Nat → Int32) → Prop) (hG0 : ∀ (x0 x1 : Int32) (I : Nat → Nat → Int32) (J : Nat → Nat → Int64), GQ 0 x0 x1 I → pmT g kMo_formula (d + 613) [.ref 40, .int x0] (mk_K ++ ex, R, I, J) (pt_I (mk_K ++ ex) R J (G 0 x0 x1 I))) (hG1 : ∀ (x0 x1 : Int32) (I : Nat → Nat → Int32) (J : Nat → Nat → Int64), GQ 1 x0 x1 I → pmT g kMo_either (d + 613) [.ref 40, .int x0] (mk_K ++ ex, R, I, J) (pt_I (mk_K ++ ex) R J (G 1 x0 x1 I))) (hG2 : ∀ (x0 x1 : Int32) (I : Nat → Nat → Int32) (J : Nat → Nat → Int64), GQ 2 x0 x1 I → pmT g kMo_both (d + 613) [.ref 40, .int x0] (mk_K ++ ex, R, I, J) (pt_I (mk_K ++ ex) R J (G 2 x0 x1 I))) (hG3 : ∀ (x0 x1 : Int32) (I : Nat → Nat → Int32) (J : Nat → Nat → Int64), GQ 3 x0 x1 I → pmT g kMo_single (d + 613) [.ref 40, .int x0] (mk_K ++ ex, R, I, J) (pt_I (mk_K ++ ex) R J (G 3 x0 x1 I))) (n6 : Nat) (x0 : Int32) (I : Nat → Nat → Int32) (J : Nat → Nat → Int64) (hp : pMo_both G GQ n6 x0 I) : pmT g kMo_both (d + 614) [.ref 40, .int x0] (mk_K ++ ex, R, I, J) (pt_I (mk_K ++ ex) R J (fMo_both G n6 x0 I)) :=
  pmC.of (by decide) (Nat.le_of_ble_eq_true rfl) (Mo_both_n0 g d ex R hR G GQ hG0 hG1 hG2 hG3 J _ _ _ _ n6 x0 I hp rfl)
def fMo_single_26 (G : Nat → Int32 → Int32 → (Nat → Nat → Int32) → Int32 × Int32 × Int32 × (Nat → Nat → Int32)) (y1 : Int32) (y2 : Int32) (z1 : Int32) (z2 : Int32) (I : Nat → Nat → Int32) : Int32 × Int32 × Int32 × (Nat → Nat → Int32) :=
  (0, 0, (fMo_make z1 z2 (0 : Int32) I).1, (fMo_make z1 z2 (0 : Int32) I).2)
def pMo_single_26 (G : Nat → Int32 → Int32 → (Nat → Nat → Int32) → Int32 × Int32 × Int32 × (Nat → Nat → Int32)) (GQ : Nat → Int32 → Int32 → (Nat → Nat → Int32) → Prop) (y1 : Int32) (y2 : Int32) (z1 : Int32) (z2 : Int32) (I : Nat → Nat → Int32) : Prop :=
  (pMo_make z1 z2 (0 : Int32) I) ∧ True
def fMo_single_23 (G : Nat → Int32 → Int32 → (Nat → Nat → Int32) → Int32 × Int32 × Int32 × (Nat → Nat → Int32)) (y1 : Int32) (y2 : Int32) (z1 : Int32) (z3 : Int32) (I : Nat → Nat → Int32) : Int32 × Int32 × Int32 × (Nat → Nat → Int32) :=
  if (G 3 z3 0 I).1 = 0 then fMo_single_26 G y1 y2 z1 ((G 3 z3 0 I).2.2.1) ((G 3 z3 0 I).2.2.2)
  else ((G 3 z3 0 I).1, (G 3 z3 0 I).2.1, 0, (G 3 z3 0 I).2.2.2)
def pMo_single_23 (G : Nat → Int32 → Int32 → (Nat → Nat → Int32) → Int32 × Int32 × Int32 × (Nat → Nat → Int32)) (GQ : Nat → Int32 → Int32 → (Nat → Nat → Int32) → Prop) (y1 : Int32) (y2 : Int32) (z1 : Int32) (z3 : Int32) (I : Nat → Nat → Int32) : Prop :=
  (GQ 3 z3 0 I) ∧ ((G 3 z3 0 I).1 = 0 → pMo_single_26 G GQ y1 y2 z1 ((G 3 z3 0 I).2.2.1) ((G 3 z3 0 I).2.2.2))
def fMo_single_15 (G : Nat → Int32 → Int32 → (Nat → Nat → Int32) → Int32 × Int32 × Int32 × (Nat → Nat → Int32)) (y1 : Int32) (y2 : Int32) (I : Nat → Nat → Int32) : Int32 × Int32 × Int32 × (Nat → Nat → Int32) :=
  if (fMo_nest y1 I).1 = 0 then fMo_single_23 G y1 y2 (0 : Int32) ((fMo_nest y1 I).2.2.1) ((fMo_nest y1 I).2.2.2)
  else ((fMo_nest y1 I).1, (fMo_nest y1 I).2.1, 0, (fMo_nest y1 I).2.2.2)
def pMo_single_15 (G : Nat → Int32 → Int32 → (Nat → Nat → Int32) → Int32 × Int32 × Int32 × (Nat → Nat → Int32)) (GQ : Nat → Int32 → Int32 → (Nat → Nat → Int32) → Prop) (y1 : Int32) (y2 : Int32) (I : Nat → Nat → Int32) : Prop :=
  (pMo_nest y1 I) ∧ ((fMo_nest y1 I).1 = 0 → pMo_single_23 G GQ y1 y2 (0 : Int32) ((fMo_nest y1 I).2.2.1) ((fMo_nest y1 I).2.2.2))
def fMo_single_134 (G : Nat → Int32 → Int32 → (Nat → Nat → Int32) → Int32 × Int32 × Int32 × (Nat → Nat → Int32)) (y1 : Int32) (y2 : Int32) (y3 : Int32) (z1 : Int32) (z2 : Int32) (I : Nat → Nat → Int32) : Int32 × Int32 × Int32 × (Nat → Nat → Int32) :=
  (0, 0, (fMo_make z1 z2 (0 : Int32) I).1, (fMo_make z1 z2 (0 : Int32) I).2)
def pMo_single_134 (G : Nat → Int32 → Int32 → (Nat → Nat → Int32) → Int32 × Int32 × Int32 × (Nat → Nat → Int32)) (GQ : Nat → Int32 → Int32 → (Nat → Nat → Int32) → Prop) (y1 : Int32) (y2 : Int32) (y3 : Int32) (z1 : Int32) (z2 : Int32) (I : Nat → Nat → Int32) : Prop :=
  (pMo_make z1 z2 (0 : Int32) I) ∧ True
def fMo_single_131 (G : Nat → Int32 → Int32 → (Nat → Nat → Int32) → Int32 × Int32 × Int32 × (Nat → Nat → Int32)) (y1 : Int32) (y2 : Int32) (y3 : Int32) (z1 : Int32) (z3 : Int32) (I : Nat → Nat → Int32) : Int32 × Int32 × Int32 × (Nat → Nat → Int32) :=
  if (G 3 z3 0 I).1 = 0 then fMo_single_134 G y1 y2 y3 z1 ((G 3 z3 0 I).2.2.1) ((G 3 z3 0 I).2.2.2)
  else ((G 3 z3 0 I).1, (G 3 z3 0 I).2.1, 0, (G 3 z3 0 I).2.2.2)
def pMo_single_131 (G : Nat → Int32 → Int32 → (Nat → Nat → Int32) → Int32 × Int32 × Int32 × (Nat → Nat → Int32)) (GQ : Nat → Int32 → Int32 → (Nat → Nat → Int32) → Prop) (y1 : Int32) (y2 : Int32) (y3 : Int32) (z1 : Int32) (z3 : Int32) (I : Nat → Nat → Int32) : Prop :=
  (GQ 3 z3 0 I) ∧ ((G 3 z3 0 I).1 = 0 → pMo_single_134 G GQ y1 y2 y3 z1 ((G 3 z3 0 I).2.2.1) ((G 3 z3 0 I).2.2.2))
def fMo_single_123 (G : Nat → Int32 → Int32 → (Nat → Nat → Int32) → Int32 × Int32 × Int32 × (Nat → Nat → Int32)) (y1 : Int32) (y2 : Int32) (y3 : Int32) (I : Nat → Nat → Int32) : Int32 × Int32 × Int32 × (Nat → Nat → Int32) :=
  if (fMo_nest y1 I).1 = 0 then fMo_single_131 G y1 y2 y3 y3 ((fMo_nest y1 I).2.2.1) ((fMo_nest y1 I).2.2.2)
  else ((fMo_nest y1 I).1, (fMo_nest y1 I).2.1, 0, (fMo_nest y1 I).2.2.2)
def pMo_single_123 (G : Nat → Int32 → Int32 → (Nat → Nat → Int32) → Int32 × Int32 × Int32 × (Nat → Nat → Int32)) (GQ : Nat → Int32 → Int32 → (Nat → Nat → Int32) → Prop) (y1 : Int32) (y2 : Int32) (y3 : Int32) (I : Nat → Nat → Int32) : Prop :=
  (pMo_nest y1 I) ∧ ((fMo_nest y1 I).1 = 0 → pMo_single_131 G GQ y1 y2 y3 y3 ((fMo_nest y1 I).2.2.1) ((fMo_nest y1 I).2.2.2))
def fMo_single_238 (G : Nat → Int32 → Int32 → (Nat → Nat → Int32) → Int32 × Int32 × Int32 × (Nat → Nat → Int32)) (y1 : Int32) (y2 : Int32) (y3 : Int32) (y4 : Int32) (y5 : Int32) (y6 : Int32) (y7 : Int32) (z1 : Int32) (I : Nat → Nat → Int32) : Int32 × Int32 × Int32 × (Nat → Nat → Int32) :=
  (0, 0, (fMo_make z1 y6 y7 I).1, (fMo_make z1 y6 y7 I).2)
def pMo_single_238 (G : Nat → Int32 → Int32 → (Nat → Nat → Int32) → Int32 × Int32 × Int32 × (Nat → Nat → Int32)) (GQ : Nat → Int32 → Int32 → (Nat → Nat → Int32) → Prop) (y1 : Int32) (y2 : Int32) (y3 : Int32) (y4 : Int32) (y5 : Int32) (y6 : Int32) (y7 : Int32) (z1 : Int32) (I : Nat → Nat → Int32) : Prop :=
  (pMo_make z1 y6 y7 I) ∧ True
def fMo_single_225 (G : Nat → Int32 → Int32 → (Nat → Nat → Int32) → Int32 × Int32 × Int32 × (Nat → Nat → Int32)) (y1 : Int32) (y2 : Int32) (y3 : Int32) (y4 : Int32) (y5 : Int32) (y6 : Int32) (y7 : Int32) (I : Nat → Nat → Int32) : Int32 × Int32 × Int32 × (Nat → Nat → Int32) :=
  if y4 = 0 then fMo_single_238 G y1 y2 y3 y4 y5 y6 y7 (6 : Int32) I
  else fMo_single_238 G y1 y2 y3 y4 y5 y6 y7 (7 : Int32) I
def pMo_single_225 (G : Nat → Int32 → Int32 → (Nat → Nat → Int32) → Int32 × Int32 × Int32 × (Nat → Nat → Int32)) (GQ : Nat → Int32 → Int32 → (Nat → Nat → Int32) → Prop) (y1 : Int32) (y2 : Int32) (y3 : Int32) (y4 : Int32) (y5 : Int32) (y6 : Int32) (y7 : Int32) (I : Nat → Nat → Int32) : Prop :=
  (y4 = 0 → pMo_single_238 G GQ y1 y2 y3 y4 y5 y6 y7 (6 : Int32) I) ∧
  (¬ (y4 = 0) → pMo_single_238 G GQ y1 y2 y3 y4 y5 y6 y7 (7 : Int32) I)
def fMo_single_217 (G : Nat → Int32 → Int32 → (Nat → Nat → Int32) → Int32 × Int32 × Int32 × (Nat → Nat → Int32)) (y1 : Int32) (y2 : Int32) (y3 : Int32) (y4 : Int32) (y5 : Int32) (y6 : Int32) (z0 : Int32) (I : Nat → Nat → Int32) : Int32 × Int32 × Int32 × (Nat → Nat → Int32) :=
  if (fMo_must (93 : Int32) I).1 = 0 then fMo_single_225 G y1 y2 y3 y4 y5 y6 z0 ((fMo_must (93 : Int32) I).2.2)
  else ((fMo_must (93 : Int32) I).1, (fMo_must (93 : Int32) I).2.1, 0, (fMo_must (93 : Int32) I).2.2)
def pMo_single_217 (G : Nat → Int32 → Int32 → (Nat → Nat → Int32) → Int32 × Int32 × Int32 × (Nat → Nat → Int32)) (GQ : Nat → Int32 → Int32 → (Nat → Nat → Int32) → Prop) (y1 : Int32) (y2 : Int32) (y3 : Int32) (y4 : Int32) (y5 : Int32) (y6 : Int32) (z0 : Int32) (I : Nat → Nat → Int32) : Prop :=
  (pMo_must (93 : Int32) I) ∧ ((fMo_must (93 : Int32) I).1 = 0 → pMo_single_225 G GQ y1 y2 y3 y4 y5 y6 z0 ((fMo_must (93 : Int32) I).2.2))
def fMo_single_214 (G : Nat → Int32 → Int32 → (Nat → Nat → Int32) → Int32 × Int32 × Int32 × (Nat → Nat → Int32)) (y1 : Int32) (y2 : Int32) (y3 : Int32) (y4 : Int32) (y5 : Int32) (y6 : Int32) (z1 : Int32) (I : Nat → Nat → Int32) : Int32 × Int32 × Int32 × (Nat → Nat → Int32) :=
  if (G 0 z1 0 I).1 = 0 then fMo_single_217 G y1 y2 y3 y4 y5 y6 ((G 0 z1 0 I).2.2.1) ((G 0 z1 0 I).2.2.2)
  else ((G 0 z1 0 I).1, (G 0 z1 0 I).2.1, 0, (G 0 z1 0 I).2.2.2)
def pMo_single_214 (G : Nat → Int32 → Int32 → (Nat → Nat → Int32) → Int32 × Int32 × Int32 × (Nat → Nat → Int32)) (GQ : Nat → Int32 → Int32 → (Nat → Nat → Int32) → Prop) (y1 : Int32) (y2 : Int32) (y3 : Int32) (y4 : Int32) (y5 : Int32) (y6 : Int32) (z1 : Int32) (I : Nat → Nat → Int32) : Prop :=
  (GQ 0 z1 0 I) ∧ ((G 0 z1 0 I).1 = 0 → pMo_single_217 G GQ y1 y2 y3 y4 y5 y6 ((G 0 z1 0 I).2.2.1) ((G 0 z1 0 I).2.2.2))
def fMo_single_208 (G : Nat → Int32 → Int32 → (Nat → Nat → Int32) → Int32 × Int32 × Int32 × (Nat → Nat → Int32)) (y1 : Int32) (y2 : Int32) (y3 : Int32) (y4 : Int32) (y5 : Int32) (y6 : Int32) (I : Nat → Nat → Int32) : Int32 × Int32 × Int32 × (Nat → Nat → Int32) :=
  if (fMo_nest y1 I).1 = 0 then fMo_single_214 G y1 y2 y3 y4 y5 y6 ((fMo_nest y1 I).2.2.1) ((fMo_nest y1 I).2.2.2)
  else ((fMo_nest y1 I).1, (fMo_nest y1 I).2.1, 0, (fMo_nest y1 I).2.2.2)
def pMo_single_208 (G : Nat → Int32 → Int32 → (Nat → Nat → Int32) → Int32 × Int32 × Int32 × (Nat → Nat → Int32)) (GQ : Nat → Int32 → Int32 → (Nat → Nat → Int32) → Prop) (y1 : Int32) (y2 : Int32) (y3 : Int32) (y4 : Int32) (y5 : Int32) (y6 : Int32) (I : Nat → Nat → Int32) : Prop :=
  (pMo_nest y1 I) ∧ ((fMo_nest y1 I).1 = 0 → pMo_single_214 G GQ y1 y2 y3 y4 y5 y6 ((fMo_nest y1 I).2.2.1) ((fMo_nest y1 I).2.2.2))
def fMo_single_196 (G : Nat → Int32 → Int32 → (Nat → Nat → Int32) → Int32 × Int32 × Int32 × (Nat → Nat → Int32)) (y1 : Int32) (y2 : Int32) (y3 : Int32) (y4 : Int32) (y5 : Int32) (y6 : Int32) (z0 : Int32) (I : Nat → Nat → Int32) : Int32 × Int32 × Int32 × (Nat → Nat → Int32) :=
  if z0 = 0 then ((fMo_cant I).1, (fMo_cant I).2.1, 0, (fMo_cant I).2.2)
  else if (fMo_take I).1 = 0 then fMo_single_208 G y1 y2 y3 y4 y5 y6 ((fMo_take I).2.2)
    else ((fMo_take I).1, (fMo_take I).2.1, 0, (fMo_take I).2.2)
def pMo_single_196 (G : Nat → Int32 → Int32 → (Nat → Nat → Int32) → Int32 × Int32 × Int32 × (Nat → Nat → Int32)) (GQ : Nat → Int32 → Int32 → (Nat → Nat → Int32) → Prop) (y1 : Int32) (y2 : Int32) (y3 : Int32) (y4 : Int32) (y5 : Int32) (y6 : Int32) (z0 : Int32) (I : Nat → Nat → Int32) : Prop :=
  (z0 = 0 → pMo_cant I) ∧
  (¬ (z0 = 0) → (pMo_take I) ∧ ((fMo_take I).1 = 0 → pMo_single_208 G GQ y1 y2 y3 y4 y5 y6 ((fMo_take I).2.2)))
def fMo_single_188 (G : Nat → Int32 → Int32 → (Nat → Nat → Int32) → Int32 × Int32 × Int32 × (Nat → Nat → Int32)) (y1 : Int32) (y2 : Int32) (y3 : Int32) (y4 : Int32) (y5 : Int32) (z0 : Int32) (I : Nat → Nat → Int32) : Int32 × Int32 × Int32 × (Nat → Nat → Int32) :=
  if (fMo_is_24 32 I).1 = 0 then fMo_single_196 G y1 y2 y3 y4 y5 z0 ((fMo_is_24 32 I).2.2.1) ((fMo_is_24 32 I).2.2.2)
  else ((fMo_is_24 32 I).1, (fMo_is_24 32 I).2.1, 0, (fMo_is_24 32 I).2.2.2)
def pMo_single_188 (G : Nat → Int32 → Int32 → (Nat → Nat → Int32) → Int32 × Int32 × Int32 × (Nat → Nat → Int32)) (GQ : Nat → Int32 → Int32 → (Nat → Nat → Int32) → Prop) (y1 : Int32) (y2 : Int32) (y3 : Int32) (y4 : Int32) (y5 : Int32) (z0 : Int32) (I : Nat → Nat → Int32) : Prop :=
  (pMo_is_24 32 I) ∧ ((fMo_is_24 32 I).1 = 0 → pMo_single_196 G GQ y1 y2 y3 y4 y5 z0 ((fMo_is_24 32 I).2.2.1) ((fMo_is_24 32 I).2.2.2))
def fMo_single_180 (G : Nat → Int32 → Int32 → (Nat → Nat → Int32) → Int32 × Int32 × Int32 × (Nat → Nat → Int32)) (y1 : Int32) (y2 : Int32) (y3 : Int32) (y4 : Int32) (z0 : Int32) (I : Nat → Nat → Int32) : Int32 × Int32 × Int32 × (Nat → Nat → Int32) :=
  if (G 0 z0 0 I).1 = 0 then fMo_single_188 G y1 y2 y3 y4 z0 ((G 0 z0 0 I).2.2.1) ((G 0 z0 0 I).2.2.2)
  else ((G 0 z0 0 I).1, (G 0 z0 0 I).2.1, 0, (G 0 z0 0 I).2.2.2)
def pMo_single_180 (G : Nat → Int32 → Int32 → (Nat → Nat → Int32) → Int32 × Int32 × Int32 × (Nat → Nat → Int32)) (GQ : Nat → Int32 → Int32 → (Nat → Nat → Int32) → Prop) (y1 : Int32) (y2 : Int32) (y3 : Int32) (y4 : Int32) (z0 : Int32) (I : Nat → Nat → Int32) : Prop :=
  (GQ 0 z0 0 I) ∧ ((G 0 z0 0 I).1 = 0 → pMo_single_188 G GQ y1 y2 y3 y4 z0 ((G 0 z0 0 I).2.2.1) ((G 0 z0 0 I).2.2.2))
def fMo_single_175 (G : Nat → Int32 → Int32 → (Nat → Nat → Int32) → Int32 × Int32 × Int32 × (Nat → Nat → Int32)) (y1 : Int32) (y2 : Int32) (y3 : Int32) (y4 : Int32) (I : Nat → Nat → Int32) : Int32 × Int32 × Int32 × (Nat → Nat → Int32) :=
  if (fMo_nest y1 I).1 = 0 then fMo_single_180 G y1 y2 y3 y4 ((fMo_nest y1 I).2.2.1) ((fMo_nest y1 I).2.2.2)
  else ((fMo_nest y1 I).1, (fMo_nest y1 I).2.1, 0, (fMo_nest y1 I).2.2.2)
def pMo_single_175 (G : Nat → Int32 → Int32 → (Nat → Nat → Int32) → Int32 × Int32 × Int32 × (Nat → Nat → Int32)) (GQ : Nat → Int32 → Int32 → (Nat → Nat → Int32) → Prop) (y1 : Int32) (y2 : Int32) (y3 : Int32) (y4 : Int32) (I : Nat → Nat → Int32) : Prop :=
  (pMo_nest y1 I) ∧ ((fMo_nest y1 I).1 = 0 → pMo_single_180 G GQ y1 y2 y3 y4 ((fMo_nest y1 I).2.2.1) ((fMo_nest y1 I).2.2.2))
def fMo_single_169 (G : Nat → Int32 → Int32 → (Nat → Nat → Int32) → Int32 × Int32 × Int32 × (Nat → Nat → Int32)) (y1 : Int32) (y2 : Int32) (y3 : Int32) (y4 : Int32) (I : Nat → Nat → Int32) : Int32 × Int32 × Int32 × (Nat → Nat → Int32) :=
  if (fMo_must (91 : Int32) I).1 = 0 then fMo_single_175 G y1 y2 y3 y4 ((fMo_must (91 : Int32) I).2.2)
  else ((fMo_must (91 : Int32) I).1, (fMo_must (91 : Int32) I).2.1, 0, (fMo_must (91 : Int32) I).2.2)
def pMo_single_169 (G : Nat → Int32 → Int32 → (Nat → Nat → Int32) → Int32 × Int32 × Int32 × (Nat → Nat → Int32)) (GQ : Nat → Int32 → Int32 → (Nat → Nat → Int32) → Prop) (y1 : Int32) (y2 : Int32) (y3 : Int32) (y4 : Int32) (I : Nat → Nat → Int32) : Prop :=
  (pMo_must (91 : Int32) I) ∧ ((fMo_must (91 : Int32) I).1 = 0 → pMo_single_175 G GQ y1 y2 y3 y4 ((fMo_must (91 : Int32) I).2.2))
def fMo_single_163 (G : Nat → Int32 → Int32 → (Nat → Nat → Int32) → Int32 × Int32 × Int32 × (Nat → Nat → Int32)) (y1 : Int32) (y2 : Int32) (y3 : Int32) (z0 : Int32) (I : Nat → Nat → Int32) : Int32 × Int32 × Int32 × (Nat → Nat → Int32) :=
  if (fMo_take I).1 = 0 then fMo_single_169 G y1 y2 y3 z0 ((fMo_take I).2.2)
  else ((fMo_take I).1, (fMo_take I).2.1, 0, (fMo_take I).2.2)
def pMo_single_163 (G : Nat → Int32 → Int32 → (Nat → Nat → Int32) → Int32 × Int32 × Int32 × (Nat → Nat → Int32)) (GQ : Nat → Int32 → Int32 → (Nat → Nat → Int32) → Prop) (y1 : Int32) (y2 : Int32) (y3 : Int32) (z0 : Int32) (I : Nat → Nat → Int32) : Prop :=
  (pMo_take I) ∧ ((fMo_take I).1 = 0 → pMo_single_169 G GQ y1 y2 y3 z0 ((fMo_take I).2.2))
def fMo_single_157 (G : Nat → Int32 → Int32 → (Nat → Nat → Int32) → Int32 × Int32 × Int32 × (Nat → Nat → Int32)) (y1 : Int32) (y2 : Int32) (y3 : Int32) (I : Nat → Nat → Int32) : Int32 × Int32 × Int32 × (Nat → Nat → Int32) :=
  if (fMo_is_22 32 I).1 = 0 then fMo_single_163 G y1 y2 y3 ((fMo_is_22 32 I).2.2.1) ((fMo_is_22 32 I).2.2.2)
  else ((fMo_is_22 32 I).1, (fMo_is_22 32 I).2.1, 0, (fMo_is_22 32 I).2.2.2)
def pMo_single_157 (G : Nat → Int32 → Int32 → (Nat → Nat → Int32) → Int32 × Int32 × Int32 × (Nat → Nat → Int32)) (GQ : Nat → Int32 → Int32 → (Nat → Nat → Int32) → Prop) (y1 : Int32) (y2 : Int32) (y3 : Int32) (I : Nat → Nat → Int32) : Prop :=
  (pMo_is_22 32 I) ∧ ((fMo_is_22 32 I).1 = 0 → pMo_single_163 G GQ y1 y2 y3 ((fMo_is_22 32 I).2.2.1) ((fMo_is_22 32 I).2.2.2))
def fMo_single_273 (G : Nat → Int32 → Int32 → (Nat → Nat → Int32) → Int32 × Int32 × Int32 × (Nat → Nat → Int32)) (y1 : Int32) (y2 : Int32) (y3 : Int32) (y4 : Int32) (I : Nat → Nat → Int32) : Int32 × Int32 × Int32 × (Nat → Nat → Int32) :=
  (0, 0, y4, I)
def pMo_single_273 (G : Nat → Int32 → Int32 → (Nat → Nat → Int32) → Int32 × Int32 × Int32 × (Nat → Nat → Int32)) (GQ : Nat → Int32 → Int32 → (Nat → Nat → Int32) → Prop) (y1 : Int32) (y2 : Int32) (y3 : Int32) (y4 : Int32) (I : Nat → Nat → Int32) : Prop :=
  True
def fMo_single_265 (G : Nat → Int32 → Int32 → (Nat → Nat → Int32) → Int32 × Int32 × Int32 × (Nat → Nat → Int32)) (y1 : Int32) (y2 : Int32) (y3 : Int32) (z0 : Int32) (I : Nat → Nat → Int32) : Int32 × Int32 × Int32 × (Nat → Nat → Int32) :=
  if (fMo_must (41 : Int32) I).1 = 0 then fMo_single_273 G y1 y2 y3 z0 ((fMo_must (41 : Int32) I).2.2)
  else ((fMo_must (41 : Int32) I).1, (fMo_must (41 : Int32) I).2.1, 0, (fMo_must (41 : Int32) I).2.2)
def pMo_single_265 (G : Nat → Int32 → Int32 → (Nat → Nat → Int32) → Int32 × Int32 × Int32 × (Nat → Nat → Int32)) (GQ : Nat → Int32 → Int32 → (Nat → Nat → Int32) → Prop) (y1 : Int32) (y2 : Int32) (y3 : Int32) (z0 : Int32) (I : Nat → Nat → Int32) : Prop :=
  (pMo_must (41 : Int32) I) ∧ ((fMo_must (41 : Int32) I).1 = 0 → pMo_single_273 G GQ y1 y2 y3 z0 ((fMo_must (41 : Int32) I).2.2))
def fMo_single_262 (G : Nat → Int32 → Int32 → (Nat → Nat → Int32) → Int32 × Int32 × Int32 × (Nat → Nat → Int32)) (y1 : Int32) (y2 : Int32) (y3 : Int32) (z1 : Int32) (I : Nat → Nat → Int32) : Int32 × Int32 × Int32 × (Nat → Nat → Int32) :=
  if (G 0 z1 0 I).1 = 0 then fMo_single_265 G y1 y2 y3 ((G 0 z1 0 I).2.2.1) ((G 0 z1 0 I).2.2.2)
  else ((G 0 z1 0 I).1, (G 0 z1 0 I).2.1, 0, (G 0 z1 0 I).2.2.2)
def pMo_single_262 (G : Nat → Int32 → Int32 → (Nat → Nat → Int32) → Int32 × Int32 × Int32 × (Nat → Nat → Int32)) (GQ : Nat → Int32 → Int32 → (Nat → Nat → Int32) → Prop) (y1 : Int32) (y2 : Int32) (y3 : Int32) (z1 : Int32) (I : Nat → Nat → Int32) : Prop :=
  (GQ 0 z1 0 I) ∧ ((G 0 z1 0 I).1 = 0 → pMo_single_265 G GQ y1 y2 y3 ((G 0 z1 0 I).2.2.1) ((G 0 z1 0 I).2.2.2))
def fMo_single_256 (G : Nat → Int32 → Int32 → (Nat → Nat → Int32) → Int32 × Int32 × Int32 × (Nat → Nat → Int32)) (y1 : Int32) (y2 : Int32) (y3 : Int32) (I : Nat → Nat → Int32) : Int32 × Int32 × Int32 × (Nat → Nat → Int32) :=
  if (fMo_nest y1 I).1 = 0 then fMo_single_262 G y1 y2 y3 ((fMo_nest y1 I).2.2.1) ((fMo_nest y1 I).2.2.2)
  else ((fMo_nest y1 I).1, (fMo_nest y1 I).2.1, 0, (fMo_nest y1 I).2.2.2)
def pMo_single_256 (G : Nat → Int32 → Int32 → (Nat → Nat → Int32) → Int32 × Int32 × Int32 × (Nat → Nat → Int32)) (GQ : Nat → Int32 → Int32 → (Nat → Nat → Int32) → Prop) (y1 : Int32) (y2 : Int32) (y3 : Int32) (I : Nat → Nat → Int32) : Prop :=
  (pMo_nest y1 I) ∧ ((fMo_nest y1 I).1 = 0 → pMo_single_262 G GQ y1 y2 y3 ((fMo_nest y1 I).2.2.1) ((fMo_nest y1 I).2.2.2))
def fMo_single_309 (G : Nat → Int32 → Int32 → (Nat → Nat → Int32) → Int32 × Int32 × Int32 × (Nat → Nat → Int32)) (y1 : Int32) (y2 : Int32) (y3 : Int32) (y4 : Int32) (I : Nat → Nat → Int32) : Int32 × Int32 × Int32 × (Nat → Nat → Int32) :=
  (0, 0, (fMo_make (12 : Int32) y4 (0 : Int32) I).1, (fMo_make (12 : Int32) y4 (0 : Int32) I).2)
def pMo_single_309 (G : Nat → Int32 → Int32 → (Nat → Nat → Int32) → Int32 × Int32 × Int32 × (Nat → Nat → Int32)) (GQ : Nat → Int32 → Int32 → (Nat → Nat → Int32) → Prop) (y1 : Int32) (y2 : Int32) (y3 : Int32) (y4 : Int32) (I : Nat → Nat → Int32) : Prop :=
  (pMo_make (12 : Int32) y4 (0 : Int32) I) ∧ True
def fMo_single_301 (G : Nat → Int32 → Int32 → (Nat → Nat → Int32) → Int32 × Int32 × Int32 × (Nat → Nat → Int32)) (y1 : Int32) (y2 : Int32) (y3 : Int32) (z0 : Int32) (I : Nat → Nat → Int32) : Int32 × Int32 × Int32 × (Nat → Nat → Int32) :=
  if (fMo_must (125 : Int32) I).1 = 0 then fMo_single_309 G y1 y2 y3 z0 ((fMo_must (125 : Int32) I).2.2)
  else ((fMo_must (125 : Int32) I).1, (fMo_must (125 : Int32) I).2.1, 0, (fMo_must (125 : Int32) I).2.2)
def pMo_single_301 (G : Nat → Int32 → Int32 → (Nat → Nat → Int32) → Int32 × Int32 × Int32 × (Nat → Nat → Int32)) (GQ : Nat → Int32 → Int32 → (Nat → Nat → Int32) → Prop) (y1 : Int32) (y2 : Int32) (y3 : Int32) (z0 : Int32) (I : Nat → Nat → Int32) : Prop :=
  (pMo_must (125 : Int32) I) ∧ ((fMo_must (125 : Int32) I).1 = 0 → pMo_single_309 G GQ y1 y2 y3 z0 ((fMo_must (125 : Int32) I).2.2))
def fMo_single_298 (G : Nat → Int32 → Int32 → (Nat → Nat → Int32) → Int32 × Int32 × Int32 × (Nat → Nat → Int32)) (y1 : Int32) (y2 : Int32) (y3 : Int32) (z1 : Int32) (I : Nat → Nat → Int32) : Int32 × Int32 × Int32 × (Nat → Nat → Int32) :=
  if (fme_Mo_expression z1 I).1 = 0 then fMo_single_301 G y1 y2 y3 ((fme_Mo_expression z1 I).2.2.1) ((fme_Mo_expression z1 I).2.2.2)
  else ((fme_Mo_expression z1 I).1, (fme_Mo_expression z1 I).2.1, 0, (fme_Mo_expression z1 I).2.2.2)
def pMo_single_298 (G : Nat → Int32 → Int32 → (Nat → Nat → Int32) → Int32 × Int32 × Int32 × (Nat → Nat → Int32)) (GQ : Nat → Int32 → Int32 → (Nat → Nat → Int32) → Prop) (y1 : Int32) (y2 : Int32) (y3 : Int32) (z1 : Int32) (I : Nat → Nat → Int32) : Prop :=
  (pme_Mo_expression z1 I) ∧ ((fme_Mo_expression z1 I).1 = 0 → pMo_single_301 G GQ y1 y2 y3 ((fme_Mo_expression z1 I).2.2.1) ((fme_Mo_expression z1 I).2.2.2))
def fMo_single_292 (G : Nat → Int32 → Int32 → (Nat → Nat → Int32) → Int32 × Int32 × Int32 × (Nat → Nat → Int32)) (y1 : Int32) (y2 : Int32) (y3 : Int32) (I : Nat → Nat → Int32) : Int32 × Int32 × Int32 × (Nat → Nat → Int32) :=
  if (fMo_nest y1 I).1 = 0 then fMo_single_298 G y1 y2 y3 ((fMo_nest y1 I).2.2.1) ((fMo_nest y1 I).2.2.2)
  else ((fMo_nest y1 I).1, (fMo_nest y1 I).2.1, 0, (fMo_nest y1 I).2.2.2)
def pMo_single_292 (G : Nat → Int32 → Int32 → (Nat → Nat → Int32) → Int32 × Int32 × Int32 × (Nat → Nat → Int32)) (GQ : Nat → Int32 → Int32 → (Nat → Nat → Int32) → Prop) (y1 : Int32) (y2 : Int32) (y3 : Int32) (I : Nat → Nat → Int32) : Prop :=
  (pMo_nest y1 I) ∧ ((fMo_nest y1 I).1 = 0 → pMo_single_298 G GQ y1 y2 y3 ((fMo_nest y1 I).2.2.1) ((fMo_nest y1 I).2.2.2))
def fMo_single_288 (G : Nat → Int32 → Int32 → (Nat → Nat → Int32) → Int32 × Int32 × Int32 × (Nat → Nat → Int32)) (y1 : Int32) (y2 : Int32) (y3 : Int32) (I : Nat → Nat → Int32) : Int32 × Int32 × Int32 × (Nat → Nat → Int32) :=
  if (fMo_take I).1 = 0 then fMo_single_292 G y1 y2 y3 ((fMo_take I).2.2)
  else ((fMo_take I).1, (fMo_take I).2.1, 0, (fMo_take I).2.2)
def pMo_single_288 (G : Nat → Int32 → Int32 → (Nat → Nat → Int32) → Int32 × Int32 × Int32 × (Nat → Nat → Int32)) (GQ : Nat → Int32 → Int32 → (Nat → Nat → Int32) → Prop) (y1 : Int32) (y2 : Int32) (y3 : Int32) (I : Nat → Nat → Int32) : Prop :=
  (pMo_take I) ∧ ((fMo_take I).1 = 0 → pMo_single_292 G GQ y1 y2 y3 ((fMo_take I).2.2))
def fMo_single_331 (G : Nat → Int32 → Int32 → (Nat → Nat → Int32) → Int32 × Int32 × Int32 × (Nat → Nat → Int32)) (y1 : Int32) (y2 : Int32) (y3 : Int32) (I : Nat → Nat → Int32) : Int32 × Int32 × Int32 × (Nat → Nat → Int32) :=
  ((fMo_cant I).1, (fMo_cant I).2.1, 0, (fMo_cant I).2.2)
def pMo_single_331 (G : Nat → Int32 → Int32 → (Nat → Nat → Int32) → Int32 × Int32 × Int32 × (Nat → Nat → Int32)) (GQ : Nat → Int32 → Int32 → (Nat → Nat → Int32) → Prop) (y1 : Int32) (y2 : Int32) (y3 : Int32) (I : Nat → Nat → Int32) : Prop :=
  pMo_cant I
def fMo_single_358 (G : Nat → Int32 → Int32 → (Nat → Nat → Int32) → Int32 × Int32 × Int32 × (Nat → Nat → Int32)) (y1 : Int32) (y2 : Int32) (y3 : Int32) (y4 : Int32) (I : Nat → Nat → Int32) : Int32 × Int32 × Int32 × (Nat → Nat → Int32) :=
  (2, I 40 7, 0, I)
def pMo_single_358 (G : Nat → Int32 → Int32 → (Nat → Nat → Int32) → Int32 × Int32 × Int32 × (Nat → Nat → Int32)) (GQ : Nat → Int32 → Int32 → (Nat → Nat → Int32) → Prop) (y1 : Int32) (y2 : Int32) (y3 : Int32) (y4 : Int32) (I : Nat → Nat → Int32) : Prop :=
  True
def fMo_single_375 (G : Nat → Int32 → Int32 → (Nat → Nat → Int32) → Int32 × Int32 × Int32 × (Nat → Nat → Int32)) (y1 : Int32) (y2 : Int32) (y3 : Int32) (y4 : Int32) (I : Nat → Nat → Int32) : Int32 × Int32 × Int32 × (Nat → Nat → Int32) :=
  (0, 0, (fMo_make (13 : Int32) (I 45 y4.toNatClampNeg) (0 : Int32) I).1, (fMo_make (13 : Int32) (I 45 y4.toNatClampNeg) (0 : Int32) I).2)
def pMo_single_375 (G : Nat → Int32 → Int32 → (Nat → Nat → Int32) → Int32 × Int32 × Int32 × (Nat → Nat → Int32)) (GQ : Nat → Int32 → Int32 → (Nat → Nat → Int32) → Prop) (y1 : Int32) (y2 : Int32) (y3 : Int32) (y4 : Int32) (I : Nat → Nat → Int32) : Prop :=
  (vp_in y4 60) ∧ ((pMo_make (13 : Int32) (I 45 y4.toNatClampNeg) (0 : Int32) I) ∧ True)
def fMo_single_328 (G : Nat → Int32 → Int32 → (Nat → Nat → Int32) → Int32 × Int32 × Int32 × (Nat → Nat → Int32)) (y1 : Int32) (y2 : Int32) (y3 : Int32) (z0 : Int32) (I : Nat → Nat → Int32) : Int32 × Int32 × Int32 × (Nat → Nat → Int32) :=
  if z0 = 0 then if ((fMo_named 61 61 I)) < 0 then fMo_single_358 G y1 y2 y3 ((fMo_named 61 61 I)) I
    else if (I 44 ((fMo_named 61 61 I)).toNatClampNeg) = (4 : Int32) then if (fMo_take I).1 = 0 then fMo_single_375 G y1 y2 y3 ((fMo_named 61 61 I)) ((fMo_take I).2.2)
        else ((fMo_take I).1, (fMo_take I).2.1, 0, (fMo_take I).2.2)
      else fMo_single_358 G y1 y2 y3 ((fMo_named 61 61 I)) I
  else fMo_single_331 G y1 y2 y3 I
def pMo_single_328 (G : Nat → Int32 → Int32 → (Nat → Nat → Int32) → Int32 × Int32 × Int32 × (Nat → Nat → Int32)) (GQ : Nat → Int32 → Int32 → (Nat → Nat → Int32) → Prop) (y1 : Int32) (y2 : Int32) (y3 : Int32) (z0 : Int32) (I : Nat → Nat → Int32) : Prop :=
  (z0 = 0 → (pMo_named 61 61 I) ∧ ((((fMo_named 61 61 I)) < 0 → pMo_single_358 G GQ y1 y2 y3 ((fMo_named 61 61 I)) I) ∧
    (¬ (((fMo_named 61 61 I)) < 0) → (vp_in ((fMo_named 61 61 I)) 60) ∧ (((I 44 ((fMo_named 61 61 I)).toNatClampNeg) = (4 : Int32) → (pMo_take I) ∧ ((fMo_take I).1 = 0 → pMo_single_375 G GQ y1 y2 y3 ((fMo_named 61 61 I)) ((fMo_take I).2.2))) ∧
      (¬ ((I 44 ((fMo_named 61 61 I)).toNatClampNeg) = (4 : Int32)) → pMo_single_358 G GQ y1 y2 y3 ((fMo_named 61 61 I)) I))))) ∧
  (¬ (z0 = 0) → pMo_single_331 G GQ y1 y2 y3 I)
def fMo_single_154 (G : Nat → Int32 → Int32 → (Nat → Nat → Int32) → Int32 × Int32 × Int32 × (Nat → Nat → Int32)) (y1 : Int32) (y2 : Int32) (y3 : Int32) (z0 : Int32) (I : Nat → Nat → Int32) : Int32 × Int32 × Int32 × (Nat → Nat → Int32) :=
  if z0 = 0 then if y2 = (40 : Int32) then if (fMo_take I).1 = 0 then fMo_single_256 G y1 y2 y3 ((fMo_take I).2.2)
      else ((fMo_take I).1, (fMo_take I).2.1, 0, (fMo_take I).2.2)
    else if y2 = (123 : Int32) then if (fMo_pays (8 : Int32) I).1 = 0 then fMo_single_288 G y1 y2 y3 ((fMo_pays (8 : Int32) I).2.2)
        else ((fMo_pays (8 : Int32) I).1, (fMo_pays (8 : Int32) I).2.1, 0, (fMo_pays (8 : Int32) I).2.2)
      else if y2 = (1 : Int32) then if (fMo_reserved I).1 = 0 then fMo_single_328 G y1 y2 y3 ((fMo_reserved I).2.2.1) ((fMo_reserved I).2.2.2)
          else ((fMo_reserved I).1, (fMo_reserved I).2.1, 0, (fMo_reserved I).2.2.2)
        else fMo_single_331 G y1 y2 y3 I
  else fMo_single_157 G y1 y2 y3 I
def pMo_single_154 (G : Nat → Int32 → Int32 → (Nat → Nat → Int32) → Int32 × Int32 × Int32 × (Nat → Nat → Int32)) (GQ : Nat → Int32 → Int32 → (Nat → Nat → Int32) → Prop) (y1 : Int32) (y2 : Int32) (y3 : Int32) (z0 : Int32) (I : Nat → Nat → Int32) : Prop :=
  (z0 = 0 → (y2 = (40 : Int32) → (pMo_take I) ∧ ((fMo_take I).1 = 0 → pMo_single_256 G GQ y1 y2 y3 ((fMo_take I).2.2))) ∧
    (¬ (y2 = (40 : Int32)) → (y2 = (123 : Int32) → (pMo_pays (8 : Int32) I) ∧ ((fMo_pays (8 : Int32) I).1 = 0 → pMo_single_288 G GQ y1 y2 y3 ((fMo_pays (8 : Int32) I).2.2))) ∧
      (¬ (y2 = (123 : Int32)) → (y2 = (1 : Int32) → (pMo_reserved I) ∧ ((fMo_reserved I).1 = 0 → pMo_single_328 G GQ y1 y2 y3 ((fMo_reserved I).2.2.1) ((fMo_reserved I).2.2.2))) ∧
        (¬ (y2 = (1 : Int32)) → pMo_single_331 G GQ y1 y2 y3 I)))) ∧
  (¬ (z0 = 0) → pMo_single_157 G GQ y1 y2 y3 I)
def fMo_single_145 (G : Nat → Int32 → Int32 → (Nat → Nat → Int32) → Int32 × Int32 × Int32 × (Nat → Nat → Int32)) (y1 : Int32) (y2 : Int32) (y3 : Int32) (z0 : Int32) (I : Nat → Nat → Int32) : Int32 × Int32 × Int32 × (Nat → Nat → Int32) :=
  if z0 = 0 then if (fMo_is_23 32 I).1 = 0 then fMo_single_154 G y1 y2 y3 ((fMo_is_23 32 I).2.2.1) ((fMo_is_23 32 I).2.2.2)
    else ((fMo_is_23 32 I).1, (fMo_is_23 32 I).2.1, 0, (fMo_is_23 32 I).2.2.2)
  else fMo_single_157 G y1 y2 y3 I
def pMo_single_145 (G : Nat → Int32 → Int32 → (Nat → Nat → Int32) → Int32 × Int32 × Int32 × (Nat → Nat → Int32)) (GQ : Nat → Int32 → Int32 → (Nat → Nat → Int32) → Prop) (y1 : Int32) (y2 : Int32) (y3 : Int32) (z0 : Int32) (I : Nat → Nat → Int32) : Prop :=
  (z0 = 0 → (pMo_is_23 32 I) ∧ ((fMo_is_23 32 I).1 = 0 → pMo_single_154 G GQ y1 y2 y3 ((fMo_is_23 32 I).2.2.1) ((fMo_is_23 32 I).2.2.2))) ∧
  (¬ (z0 = 0) → pMo_single_157 G GQ y1 y2 y3 I)
def fMo_single_114 (G : Nat → Int32 → Int32 → (Nat → Nat → Int32) → Int32 × Int32 × Int32 × (Nat → Nat → Int32)) (y1 : Int32) (y2 : Int32) (z0 : Int32) (I : Nat → Nat → Int32) : Int32 × Int32 × Int32 × (Nat → Nat → Int32) :=
  if z0 ≤ 0 then if (fMo_is_22 32 I).1 = 0 then fMo_single_145 G y1 y2 z0 ((fMo_is_22 32 I).2.2.1) ((fMo_is_22 32 I).2.2.2)
    else ((fMo_is_22 32 I).1, (fMo_is_22 32 I).2.1, 0, (fMo_is_22 32 I).2.2.2)
  else if (fMo_take I).1 = 0 then fMo_single_123 G y1 y2 z0 ((fMo_take I).2.2)
    else ((fMo_take I).1, (fMo_take I).2.1, 0, (fMo_take I).2.2)
def pMo_single_114 (G : Nat → Int32 → Int32 → (Nat → Nat → Int32) → Int32 × Int32 × Int32 × (Nat → Nat → Int32)) (GQ : Nat → Int32 → Int32 → (Nat → Nat → Int32) → Prop) (y1 : Int32) (y2 : Int32) (z0 : Int32) (I : Nat → Nat → Int32) : Prop :=
  (z0 ≤ 0 → (pMo_is_22 32 I) ∧ ((fMo_is_22 32 I).1 = 0 → pMo_single_145 G GQ y1 y2 z0 ((fMo_is_22 32 I).2.2.1) ((fMo_is_22 32 I).2.2.2))) ∧
  (¬ (z0 ≤ 0) → (pMo_take I) ∧ ((fMo_take I).1 = 0 → pMo_single_123 G GQ y1 y2 z0 ((fMo_take I).2.2)))
def fMo_single_105 (G : Nat → Int32 → Int32 → (Nat → Nat → Int32) → Int32 × Int32 × Int32 × (Nat → Nat → Int32)) (y1 : Int32) (y2 : Int32) (z0 : Int32) (I : Nat → Nat → Int32) : Int32 × Int32 × Int32 × (Nat → Nat → Int32) :=
  if z0 = 0 then fMo_single_114 G y1 y2 (0 : Int32) I
  else fMo_single_114 G y1 y2 (10 : Int32) I
def pMo_single_105 (G : Nat → Int32 → Int32 → (Nat → Nat → Int32) → Int32 × Int32 × Int32 × (Nat → Nat → Int32)) (GQ : Nat → Int32 → Int32 → (Nat → Nat → Int32) → Prop) (y1 : Int32) (y2 : Int32) (z0 : Int32) (I : Nat → Nat → Int32) : Prop :=
  (z0 = 0 → pMo_single_114 G GQ y1 y2 (0 : Int32) I) ∧
  (¬ (z0 = 0) → pMo_single_114 G GQ y1 y2 (10 : Int32) I)
def fMo_single_91 (G : Nat → Int32 → Int32 → (Nat → Nat → Int32) → Int32 × Int32 × Int32 × (Nat → Nat → Int32)) (y1 : Int32) (y2 : Int32) (z0 : Int32) (I : Nat → Nat → Int32) : Int32 × Int32 × Int32 × (Nat → Nat → Int32) :=
  if z0 = 0 then if (fMo_is_30 32 I).1 = 0 then fMo_single_105 G y1 y2 ((fMo_is_30 32 I).2.2.1) ((fMo_is_30 32 I).2.2.2)
    else ((fMo_is_30 32 I).1, (fMo_is_30 32 I).2.1, 0, (fMo_is_30 32 I).2.2.2)
  else fMo_single_114 G y1 y2 (11 : Int32) I
def pMo_single_91 (G : Nat → Int32 → Int32 → (Nat → Nat → Int32) → Int32 × Int32 × Int32 × (Nat → Nat → Int32)) (GQ : Nat → Int32 → Int32 → (Nat → Nat → Int32) → Prop) (y1 : Int32) (y2 : Int32) (z0 : Int32) (I : Nat → Nat → Int32) : Prop :=
  (z0 = 0 → (pMo_is_30 32 I) ∧ ((fMo_is_30 32 I).1 = 0 → pMo_single_105 G GQ y1 y2 ((fMo_is_30 32 I).2.2.1) ((fMo_is_30 32 I).2.2.2))) ∧
  (¬ (z0 = 0) → pMo_single_114 G GQ y1 y2 (11 : Int32) I)
def fMo_single_77 (G : Nat → Int32 → Int32 → (Nat → Nat → Int32) → Int32 × Int32 × Int32 × (Nat → Nat → Int32)) (y1 : Int32) (y2 : Int32) (z0 : Int32) (I : Nat → Nat → Int32) : Int32 × Int32 × Int32 × (Nat → Nat → Int32) :=
  if z0 = 0 then if (fMo_is_29 32 I).1 = 0 then fMo_single_91 G y1 y2 ((fMo_is_29 32 I).2.2.1) ((fMo_is_29 32 I).2.2.2)
    else ((fMo_is_29 32 I).1, (fMo_is_29 32 I).2.1, 0, (fMo_is_29 32 I).2.2.2)
  else fMo_single_114 G y1 y2 (8 : Int32) I
def pMo_single_77 (G : Nat → Int32 → Int32 → (Nat → Nat → Int32) → Int32 × Int32 × Int32 × (Nat → Nat → Int32)) (GQ : Nat → Int32 → Int32 → (Nat → Nat → Int32) → Prop) (y1 : Int32) (y2 : Int32) (z0 : Int32) (I : Nat → Nat → Int32) : Prop :=
  (z0 = 0 → (pMo_is_29 32 I) ∧ ((fMo_is_29 32 I).1 = 0 → pMo_single_91 G GQ y1 y2 ((fMo_is_29 32 I).2.2.1) ((fMo_is_29 32 I).2.2.2))) ∧
  (¬ (z0 = 0) → pMo_single_114 G GQ y1 y2 (8 : Int32) I)
def fMo_single_63 (G : Nat → Int32 → Int32 → (Nat → Nat → Int32) → Int32 × Int32 × Int32 × (Nat → Nat → Int32)) (y1 : Int32) (y2 : Int32) (z0 : Int32) (I : Nat → Nat → Int32) : Int32 × Int32 × Int32 × (Nat → Nat → Int32) :=
  if z0 = 0 then if (fMo_is_28 32 I).1 = 0 then fMo_single_77 G y1 y2 ((fMo_is_28 32 I).2.2.1) ((fMo_is_28 32 I).2.2.2)
    else ((fMo_is_28 32 I).1, (fMo_is_28 32 I).2.1, 0, (fMo_is_28 32 I).2.2.2)
  else fMo_single_114 G y1 y2 (9 : Int32) I
def pMo_single_63 (G : Nat → Int32 → Int32 → (Nat → Nat → Int32) → Int32 × Int32 × Int32 × (Nat → Nat → Int32)) (GQ : Nat → Int32 → Int32 → (Nat → Nat → Int32) → Prop) (y1 : Int32) (y2 : Int32) (z0 : Int32) (I : Nat → Nat → Int32) : Prop :=
  (z0 = 0 → (pMo_is_28 32 I) ∧ ((fMo_is_28 32 I).1 = 0 → pMo_single_77 G GQ y1 y2 ((fMo_is_28 32 I).2.2.1) ((fMo_is_28 32 I).2.2.2))) ∧
  (¬ (z0 = 0) → pMo_single_114 G GQ y1 y2 (9 : Int32) I)
def fMo_single_50 (G : Nat → Int32 → Int32 → (Nat → Nat → Int32) → Int32 × Int32 × Int32 × (Nat → Nat → Int32)) (y1 : Int32) (y2 : Int32) (z0 : Int32) (I : Nat → Nat → Int32) : Int32 × Int32 × Int32 × (Nat → Nat → Int32) :=
  if z0 = 0 then if (fMo_is_27 32 I).1 = 0 then fMo_single_63 G y1 y2 ((fMo_is_27 32 I).2.2.1) ((fMo_is_27 32 I).2.2.2)
    else ((fMo_is_27 32 I).1, (fMo_is_27 32 I).2.1, 0, (fMo_is_27 32 I).2.2.2)
  else fMo_single_114 G y1 y2 (4 : Int32) I
def pMo_single_50 (G : Nat → Int32 → Int32 → (Nat → Nat → Int32) → Int32 × Int32 × Int32 × (Nat → Nat → Int32)) (GQ : Nat → Int32 → Int32 → (Nat → Nat → Int32) → Prop) (y1 : Int32) (y2 : Int32) (z0 : Int32) (I : Nat → Nat → Int32) : Prop :=
  (z0 = 0 → (pMo_is_27 32 I) ∧ ((fMo_is_27 32 I).1 = 0 → pMo_single_63 G GQ y1 y2 ((fMo_is_27 32 I).2.2.1) ((fMo_is_27 32 I).2.2.2))) ∧
  (¬ (z0 = 0) → pMo_single_114 G GQ y1 y2 (4 : Int32) I)
def fMo_single_37 (G : Nat → Int32 → Int32 → (Nat → Nat → Int32) → Int32 × Int32 × Int32 × (Nat → Nat → Int32)) (y1 : Int32) (y2 : Int32) (z0 : Int32) (I : Nat → Nat → Int32) : Int32 × Int32 × Int32 × (Nat → Nat → Int32) :=
  if z0 = 0 then if (fMo_is_26 32 I).1 = 0 then fMo_single_50 G y1 y2 ((fMo_is_26 32 I).2.2.1) ((fMo_is_26 32 I).2.2.2)
    else ((fMo_is_26 32 I).1, (fMo_is_26 32 I).2.1, 0, (fMo_is_26 32 I).2.2.2)
  else fMo_single_114 G y1 y2 (5 : Int32) I
def pMo_single_37 (G : Nat → Int32 → Int32 → (Nat → Nat → Int32) → Int32 × Int32 × Int32 × (Nat → Nat → Int32)) (GQ : Nat → Int32 → Int32 → (Nat → Nat → Int32) → Prop) (y1 : Int32) (y2 : Int32) (z0 : Int32) (I : Nat → Nat → Int32) : Prop :=
  (z0 = 0 → (pMo_is_26 32 I) ∧ ((fMo_is_26 32 I).1 = 0 → pMo_single_50 G GQ y1 y2 ((fMo_is_26 32 I).2.2.1) ((fMo_is_26 32 I).2.2.2))) ∧
  (¬ (z0 = 0) → pMo_single_114 G GQ y1 y2 (5 : Int32) I)
def fMo_single_4 (G : Nat → Int32 → Int32 → (Nat → Nat → Int32) → Int32 × Int32 × Int32 × (Nat → Nat → Int32)) (y1 : Int32) (z0 : Int32) (I : Nat → Nat → Int32) : Int32 × Int32 × Int32 × (Nat → Nat → Int32) :=
  if z0 = (33 : Int32) then if (fMo_take I).1 = 0 then fMo_single_15 G y1 z0 ((fMo_take I).2.2)
    else ((fMo_take I).1, (fMo_take I).2.1, 0, (fMo_take I).2.2)
  else if (fMo_is_25 32 I).1 = 0 then fMo_single_37 G y1 z0 ((fMo_is_25 32 I).2.2.1) ((fMo_is_25 32 I).2.2.2)
    else ((fMo_is_25 32 I).1, (fMo_is_25 32 I).2.1, 0, (fMo_is_25 32 I).2.2.2)
def pMo_single_4 (G : Nat → Int32 → Int32 → (Nat → Nat → Int32) → Int32 × Int32 × Int32 × (Nat → Nat → Int32)) (GQ : Nat → Int32 → Int32 → (Nat → Nat → Int32) → Prop) (y1 : Int32) (z0 : Int32) (I : Nat → Nat → Int32) : Prop :=
  (z0 = (33 : Int32) → (pMo_take I) ∧ ((fMo_take I).1 = 0 → pMo_single_15 G GQ y1 z0 ((fMo_take I).2.2))) ∧
  (¬ (z0 = (33 : Int32)) → (pMo_is_25 32 I) ∧ ((fMo_is_25 32 I).1 = 0 → pMo_single_37 G GQ y1 z0 ((fMo_is_25 32 I).2.2.1) ((fMo_is_25 32 I).2.2.2)))
def fMo_single (G : Nat → Int32 → Int32 → (Nat → Nat → Int32) → Int32 × Int32 × Int32 × (Nat → Nat → Int32)) (y1 : Int32) (I : Nat → Nat → Int32) : Int32 × Int32 × Int32 × (Nat → Nat → Int32) :=
  if (fMo_peek 65537 65537 I).1 = 0 then fMo_single_4 G y1 ((fMo_peek 65537 65537 I).2.2.1) ((fMo_peek 65537 65537 I).2.2.2)
  else ((fMo_peek 65537 65537 I).1, (fMo_peek 65537 65537 I).2.1, 0, (fMo_peek 65537 65537 I).2.2.2)
def pMo_single (G : Nat → Int32 → Int32 → (Nat → Nat → Int32) → Int32 × Int32 × Int32 × (Nat → Nat → Int32)) (GQ : Nat → Int32 → Int32 → (Nat → Nat → Int32) → Prop) (y1 : Int32) (I : Nat → Nat → Int32) : Prop :=
  (pMo_peek 65537 65537 I) ∧ ((fMo_peek 65537 65537 I).1 = 0 → pMo_single_4 G GQ y1 ((fMo_peek 65537 65537 I).2.2.1) ((fMo_peek 65537 65537 I).2.2.2))
set_option maxHeartbeats 4000000 in
set_option maxRecDepth 100000 in
theorem Mo_single_n26 (g : pmG) (d : Nat) (ex : List (Nat × Nat)) (R : Nat → Nat → Value) (hR : mk_R R) (G : Nat → Int32 → Int32 → (Nat → Nat → Int32) → Int32 × Int32 × Int32 × (Nat → Nat → Int32)) (GQ : Nat → Int32 → Int32 → (Nat → Nat → Int32) → Prop) (hG0 : ∀ (x0 x1 : Int32) (I : Nat → Nat → Int32) (J : Nat → Nat → Int64), GQ 0 x0 x1 I → pmT g kMo_formula (d + 613) [.ref 40, .int x0] (mk_K ++ ex, R, I, J) (pt_I (mk_K ++ ex) R J (G 0 x0 x1 I))) (hG1 : ∀ (x0 x1 : Int32) (I : Nat → Nat → Int32) (J : Nat → Nat → Int64), GQ 1 x0 x1 I → pmT g kMo_either (d + 613) [.ref 40, .int x0] (mk_K ++ ex, R, I, J) (pt_I (mk_K ++ ex) R J (G 1 x0 x1 I))) (hG2 : ∀ (x0 x1 : Int32) (I : Nat → Nat → Int32) (J : Nat → Nat → Int64), GQ 2 x0 x1 I → pmT g kMo_both (d + 613) [.ref 40, .int x0] (mk_K ++ ex, R, I, J) (pt_I (mk_K ++ ex) R J (G 2 x0 x1 I))) (hG3 : ∀ (x0 x1 : Int32) (I : Nat → Nat → Int32) (J : Nat → Nat → Int64), GQ 3 x0 x1 I → pmT g kMo_single (d + 613) [.ref 40, .int x0] (mk_K ++ ex, R, I, J) (pt_I (mk_K ++ ex) R J (G 3 x0 x1 I))) (J : Nat → Nat → Int64) (o : Outcome) (Z : pmM) (rc rs : Nat)  (y1 : Int32) (y2 : Int32) (z1 : Int32) (z2 : Int32) (I : Nat → Nat → Int32) (hp : pMo_single_26 G GQ y1 y2 z1 z2 I) (hF : (o, Z, rc, rs) = pt_I (mk_K ++ ex) R J (fMo_single_26 G y1 y2 z1 z2 I)) : pmE g kMo_single (d + 614) rc rs 26 [(0, .ref 40), (1, .int y1), (2, .int y2)] [.int z2, .int z1, .ref 40] (mk_K ++ ex) R I J o Z := by
  unfold pMo_single_26 at hp
  refine pm_iconst (v := 0) dMo_single_26 (by decide) ?_
  refine pm_callV dMo_single_27 lMo_303 vMo_make ⟨_, _, rfl⟩ (Mo_make_ok _ _ _ _ hR _ _ _ _ _ hp.1) rfl rfl rfl (Nat.le_of_ble_eq_true rfl) (Nat.le_refl _) (Nat.le_refl _) ?_
  exact pt_iret dMo_single_30 rfl (hF.trans (by first | (simp only [fMo_single_26]; done) | (simp only [fMo_single_26]; rfl) | rfl))
set_option maxHeartbeats 4000000 in
set_option maxRecDepth 100000 in
theorem Mo_single_n23 (g : pmG) (d : Nat) (ex : List (Nat × Nat)) (R : Nat → Nat → Value) (hR : mk_R R) (G : Nat → Int32 → Int32 → (Nat → Nat → Int32) → Int32 × Int32 × Int32 × (Nat → Nat → Int32)) (GQ : Nat → Int32 → Int32 → (Nat → Nat → Int32) → Prop) (hG0 : ∀ (x0 x1 : Int32) (I : Nat → Nat → Int32) (J : Nat → Nat → Int64), GQ 0 x0 x1 I → pmT g kMo_formula (d + 613) [.ref 40, .int x0] (mk_K ++ ex, R, I, J) (pt_I (mk_K ++ ex) R J (G 0 x0 x1 I))) (hG1 : ∀ (x0 x1 : Int32) (I : Nat → Nat → Int32) (J : Nat → Nat → Int64), GQ 1 x0 x1 I → pmT g kMo_either (d + 613) [.ref 40, .int x0] (mk_K ++ ex, R, I, J) (pt_I (mk_K ++ ex) R J (G 1 x0 x1 I))) (hG2 : ∀ (x0 x1 : Int32) (I : Nat → Nat → Int32) (J : Nat → Nat → Int64), GQ 2 x0 x1 I → pmT g kMo_both (d + 613) [.ref 40, .int x0] (mk_K ++ ex, R, I, J) (pt_I (mk_K ++ ex) R J (G 2 x0 x1 I))) (hG3 : ∀ (x0 x1 : Int32) (I : Nat → Nat → Int32) (J : Nat → Nat → Int64), GQ 3 x0 x1 I → pmT g kMo_single (d + 613) [.ref 40, .int x0] (mk_K ++ ex, R, I, J) (pt_I (mk_K ++ ex) R J (G 3 x0 x1 I))) (J : Nat → Nat → Int64) (o : Outcome) (Z : pmM) (rc rs : Nat)  (y1 : Int32) (y2 : Int32) (z1 : Int32) (z3 : Int32) (I : Nat → Nat → Int32) (hp : pMo_single_23 G GQ y1 y2 z1 z3 I) (hF : (o, Z, rc, rs) = pt_I (mk_K ++ ex) R J (fMo_single_23 G y1 y2 z1 z3 I)) : pmE g kMo_single (d + 614) rc rs 23 [(0, .ref 40), (1, .int y1), (2, .int y2)] [.int z3, .ref 40, .int z1, .ref 40] (mk_K ++ ex) R I J o Z := by
  unfold pMo_single_23 at hp
  refine pt_callV (v2 := some (.int 0)) dMo_single_23 lMo_309 vMo_single ⟨_, _, rfl⟩ (hG3 z3 0 _ _ hp.1) rfl rfl rfl (Nat.le_of_ble_eq_true rfl) (fun h23 => ?_) (fun h23 => hF.trans (by first | (simp only [fMo_single_23, if_neg h23]; done) | (simp only [fMo_single_23, if_neg h23]; rfl) | rfl))
  refine pm_wk [0, 1, 2] rfl ?_
  exact Mo_single_n26 g d ex R hR G GQ hG0 hG1 hG2 hG3 J _ _ _ _   _ _ _ _ _ (hp.2 h23) (hF.trans (by first | (simp only [fMo_single_23, if_pos h23]; done) | (simp only [fMo_single_23, if_pos h23]; with_reducible rfl) | with_reducible rfl))
set_option maxHeartbeats 4000000 in
set_option maxRecDepth 100000 in
theorem Mo_single_n15 (g : pmG) (d : Nat) (ex : List (Nat × Nat)) (R : Nat → Nat → Value) (hR : mk_R R) (G : Nat → Int32 → Int32 → (Nat → Nat → Int32) → Int32 × Int32 × Int32 × (Nat → Nat → Int32)) (GQ : Nat → Int32 → Int32 → (Nat → Nat → Int32) → Prop) (hG0 : ∀ (x0 x1 : Int32) (I : Nat → Nat → Int32) (J : Nat → Nat → Int64), GQ 0 x0 x1 I → pmT g kMo_formula (d + 613) [.ref 40, .int x0] (mk_K ++ ex, R, I, J) (pt_I (mk_K ++ ex) R J (G 0 x0 x1 I))) (hG1 : ∀ (x0 x1 : Int32) (I : Nat → Nat → Int32) (J : Nat → Nat → Int64), GQ 1 x0 x1 I → pmT g kMo_either (d + 613) [.ref 40, .int x0] (mk_K ++ ex, R, I, J) (pt_I (mk_K ++ ex) R J (G 1 x0 x1 I))) (hG2 : ∀ (x0 x1 : Int32) (I : Nat → Nat → Int32) (J : Nat → Nat → Int64), GQ 2 x0 x1 I → pmT g kMo_both (d + 613) [.ref 40, .int x0] (mk_K ++ ex, R, I, J) (pt_I (mk_K ++ ex) R J (G 2 x0 x1 I))) (hG3 : ∀ (x0 x1 : Int32) (I : Nat → Nat → Int32) (J : Nat → Nat → Int64), GQ 3 x0 x1 I → pmT g kMo_single (d + 613) [.ref 40, .int x0] (mk_K ++ ex, R, I, J) (pt_I (mk_K ++ ex) R J (G 3 x0 x1 I))) (J : Nat → Nat → Int64) (o : Outcome) (Z : pmM) (rc rs : Nat)  (y1 : Int32) (y2 : Int32) (I : Nat → Nat → Int32) (hp : pMo_single_15 G GQ y1 y2 I) (hF : (o, Z, rc, rs) = pt_I (mk_K ++ ex) R J (fMo_single_15 G y1 y2 I)) : pmE g kMo_single (d + 614) rc rs 15 [(0, .ref 40), (1, .int y1), (2, .int y2)] [] (mk_K ++ ex) R I J o Z := by
  unfold pMo_single_15 at hp
  refine pm_aload_n dMo_single_15 rfl ?_
  refine pm_iconst (v := 0) dMo_single_16 (by decide) ?_
  refine pm_aload_n dMo_single_17 rfl ?_
  refine pm_aload_n dMo_single_18 rfl ?_
  refine pm_iload_n dMo_single_19 rfl ?_
  refine pt_callV (v2 := some (.int 0)) dMo_single_20 lMo_271 vMo_nest ⟨_, _, rfl⟩ (Mo_nest_ok _ _ _ _ hR _ _ _ hp.1) rfl rfl rfl (Nat.le_of_ble_eq_true rfl) (fun h20 => ?_) (fun h20 => hF.trans (by first | (simp only [fMo_single_15, if_neg h20]; done) | (simp only [fMo_single_15, if_neg h20]; rfl) | rfl))
  refine pm_wk [0, 1, 2] rfl ?_
  exact Mo_single_n23 g d ex R hR G GQ hG0 hG1 hG2 hG3 J _ _ _ _   _ _ _ _ _ (hp.2 h20) (hF.trans (by first | (simp only [fMo_single_15, if_pos h20]; done) | (simp only [fMo_single_15, if_pos h20]; with_reducible rfl) | with_reducible rfl))
set_option maxHeartbeats 4000000 in
set_option maxRecDepth 100000 in
theorem Mo_single_n134 (g : pmG) (d : Nat) (ex : List (Nat × Nat)) (R : Nat → Nat → Value) (hR : mk_R R) (G : Nat → Int32 → Int32 → (Nat → Nat → Int32) → Int32 × Int32 × Int32 × (Nat → Nat → Int32)) (GQ : Nat → Int32 → Int32 → (Nat → Nat → Int32) → Prop) (hG0 : ∀ (x0 x1 : Int32) (I : Nat → Nat → Int32) (J : Nat → Nat → Int64), GQ 0 x0 x1 I → pmT g kMo_formula (d + 613) [.ref 40, .int x0] (mk_K ++ ex, R, I, J) (pt_I (mk_K ++ ex) R J (G 0 x0 x1 I))) (hG1 : ∀ (x0 x1 : Int32) (I : Nat → Nat → Int32) (J : Nat → Nat → Int64), GQ 1 x0 x1 I → pmT g kMo_either (d + 613) [.ref 40, .int x0] (mk_K ++ ex, R, I, J) (pt_I (mk_K ++ ex) R J (G 1 x0 x1 I))) (hG2 : ∀ (x0 x1 : Int32) (I : Nat → Nat → Int32) (J : Nat → Nat → Int64), GQ 2 x0 x1 I → pmT g kMo_both (d + 613) [.ref 40, .int x0] (mk_K ++ ex, R, I, J) (pt_I (mk_K ++ ex) R J (G 2 x0 x1 I))) (hG3 : ∀ (x0 x1 : Int32) (I : Nat → Nat → Int32) (J : Nat → Nat → Int64), GQ 3 x0 x1 I → pmT g kMo_single (d + 613) [.ref 40, .int x0] (mk_K ++ ex, R, I, J) (pt_I (mk_K ++ ex) R J (G 3 x0 x1 I))) (J : Nat → Nat → Int64) (o : Outcome) (Z : pmM) (rc rs : Nat)  (y1 : Int32) (y2 : Int32) (y3 : Int32) (z1 : Int32) (z2 : Int32) (I : Nat → Nat → Int32) (hp : pMo_single_134 G GQ y1 y2 y3 z1 z2 I) (hF : (o, Z, rc, rs) = pt_I (mk_K ++ ex) R J (fMo_single_134 G y1 y2 y3 z1 z2 I)) : pmE g kMo_single (d + 614) rc rs 134 [(0, .ref 40), (1, .int y1), (2, .int y2), (3, .int y3)] [.int z2, .int z1, .ref 40] (mk_K ++ ex) R I J o Z := by
  unfold pMo_single_134 at hp
  refine pm_iconst (v := 0) dMo_single_134 (by decide) ?_
  refine pm_callV dMo_single_135 lMo_303 vMo_make ⟨_, _, rfl⟩ (Mo_make_ok _ _ _ _ hR _ _ _ _ _ hp.1) rfl rfl rfl (Nat.le_of_ble_eq_true rfl) (Nat.le_refl _) (Nat.le_refl _) ?_
  exact pt_iret dMo_single_138 rfl (hF.trans (by first | (simp only [fMo_single_134]; done) | (simp only [fMo_single_134]; rfl) | rfl))
set_option maxHeartbeats 4000000 in
set_option maxRecDepth 100000 in
theorem Mo_single_n131 (g : pmG) (d : Nat) (ex : List (Nat × Nat)) (R : Nat → Nat → Value) (hR : mk_R R) (G : Nat → Int32 → Int32 → (Nat → Nat → Int32) → Int32 × Int32 × Int32 × (Nat → Nat → Int32)) (GQ : Nat → Int32 → Int32 → (Nat → Nat → Int32) → Prop) (hG0 : ∀ (x0 x1 : Int32) (I : Nat → Nat → Int32) (J : Nat → Nat → Int64), GQ 0 x0 x1 I → pmT g kMo_formula (d + 613) [.ref 40, .int x0] (mk_K ++ ex, R, I, J) (pt_I (mk_K ++ ex) R J (G 0 x0 x1 I))) (hG1 : ∀ (x0 x1 : Int32) (I : Nat → Nat → Int32) (J : Nat → Nat → Int64), GQ 1 x0 x1 I → pmT g kMo_either (d + 613) [.ref 40, .int x0] (mk_K ++ ex, R, I, J) (pt_I (mk_K ++ ex) R J (G 1 x0 x1 I))) (hG2 : ∀ (x0 x1 : Int32) (I : Nat → Nat → Int32) (J : Nat → Nat → Int64), GQ 2 x0 x1 I → pmT g kMo_both (d + 613) [.ref 40, .int x0] (mk_K ++ ex, R, I, J) (pt_I (mk_K ++ ex) R J (G 2 x0 x1 I))) (hG3 : ∀ (x0 x1 : Int32) (I : Nat → Nat → Int32) (J : Nat → Nat → Int64), GQ 3 x0 x1 I → pmT g kMo_single (d + 613) [.ref 40, .int x0] (mk_K ++ ex, R, I, J) (pt_I (mk_K ++ ex) R J (G 3 x0 x1 I))) (J : Nat → Nat → Int64) (o : Outcome) (Z : pmM) (rc rs : Nat)  (y1 : Int32) (y2 : Int32) (y3 : Int32) (z1 : Int32) (z3 : Int32) (I : Nat → Nat → Int32) (hp : pMo_single_131 G GQ y1 y2 y3 z1 z3 I) (hF : (o, Z, rc, rs) = pt_I (mk_K ++ ex) R J (fMo_single_131 G y1 y2 y3 z1 z3 I)) : pmE g kMo_single (d + 614) rc rs 131 [(0, .ref 40), (1, .int y1), (2, .int y2), (3, .int y3)] [.int z3, .ref 40, .int z1, .ref 40] (mk_K ++ ex) R I J o Z := by
  unfold pMo_single_131 at hp
  refine pt_callV (v2 := some (.int 0)) dMo_single_131 lMo_309 vMo_single ⟨_, _, rfl⟩ (hG3 z3 0 _ _ hp.1) rfl rfl rfl (Nat.le_of_ble_eq_true rfl) (fun h131 => ?_) (fun h131 => hF.trans (by first | (simp only [fMo_single_131, if_neg h131]; done) | (simp only [fMo_single_131, if_neg h131]; rfl) | rfl))
  refine pm_wk [0, 1, 2, 3] rfl ?_
  exact Mo_single_n134 g d ex R hR G GQ hG0 hG1 hG2 hG3 J _ _ _ _   _ _ _ _ _ _ (hp.2 h131) (hF.trans (by first | (simp only [fMo_single_131, if_pos h131]; done) | (simp only [fMo_single_131, if_pos h131]; with_reducible rfl) | with_reducible rfl))
set_option maxHeartbeats 4000000 in
set_option maxRecDepth 100000 in
theorem Mo_single_n123 (g : pmG) (d : Nat) (ex : List (Nat × Nat)) (R : Nat → Nat → Value) (hR : mk_R R) (G : Nat → Int32 → Int32 → (Nat → Nat → Int32) → Int32 × Int32 × Int32 × (Nat → Nat → Int32)) (GQ : Nat → Int32 → Int32 → (Nat → Nat → Int32) → Prop) (hG0 : ∀ (x0 x1 : Int32) (I : Nat → Nat → Int32) (J : Nat → Nat → Int64), GQ 0 x0 x1 I → pmT g kMo_formula (d + 613) [.ref 40, .int x0] (mk_K ++ ex, R, I, J) (pt_I (mk_K ++ ex) R J (G 0 x0 x1 I))) (hG1 : ∀ (x0 x1 : Int32) (I : Nat → Nat → Int32) (J : Nat → Nat → Int64), GQ 1 x0 x1 I → pmT g kMo_either (d + 613) [.ref 40, .int x0] (mk_K ++ ex, R, I, J) (pt_I (mk_K ++ ex) R J (G 1 x0 x1 I))) (hG2 : ∀ (x0 x1 : Int32) (I : Nat → Nat → Int32) (J : Nat → Nat → Int64), GQ 2 x0 x1 I → pmT g kMo_both (d + 613) [.ref 40, .int x0] (mk_K ++ ex, R, I, J) (pt_I (mk_K ++ ex) R J (G 2 x0 x1 I))) (hG3 : ∀ (x0 x1 : Int32) (I : Nat → Nat → Int32) (J : Nat → Nat → Int64), GQ 3 x0 x1 I → pmT g kMo_single (d + 613) [.ref 40, .int x0] (mk_K ++ ex, R, I, J) (pt_I (mk_K ++ ex) R J (G 3 x0 x1 I))) (J : Nat → Nat → Int64) (o : Outcome) (Z : pmM) (rc rs : Nat)  (y1 : Int32) (y2 : Int32) (y3 : Int32) (I : Nat → Nat → Int32) (hp : pMo_single_123 G GQ y1 y2 y3 I) (hF : (o, Z, rc, rs) = pt_I (mk_K ++ ex) R J (fMo_single_123 G y1 y2 y3 I)) : pmE g kMo_single (d + 614) rc rs 123 [(0, .ref 40), (1, .int y1), (2, .int y2), (3, .int y3)] [] (mk_K ++ ex) R I J o Z := by
  unfold pMo_single_123 at hp
  refine pm_aload_n dMo_single_123 rfl ?_
  refine pm_iload_n dMo_single_124 rfl ?_
  refine pm_aload_n dMo_single_125 rfl ?_
  refine pm_aload_n dMo_single_126 rfl ?_
  refine pm_iload_n dMo_single_127 rfl ?_
  refine pt_callV (v2 := some (.int 0)) dMo_single_128 lMo_271 vMo_nest ⟨_, _, rfl⟩ (Mo_nest_ok _ _ _ _ hR _ _ _ hp.1) rfl rfl rfl (Nat.le_of_ble_eq_true rfl) (fun h128 => ?_) (fun h128 => hF.trans (by first | (simp only [fMo_single_123, if_neg h128]; done) | (simp only [fMo_single_123, if_neg h128]; rfl) | rfl))
  refine pm_wk [0, 1, 2, 3] rfl ?_
  exact Mo_single_n131 g d ex R hR G GQ hG0 hG1 hG2 hG3 J _ _ _ _   _ _ _ _ _ _ (hp.2 h128) (hF.trans (by first | (simp only [fMo_single_123, if_pos h128]; done) | (simp only [fMo_single_123, if_pos h128]; with_reducible rfl) | with_reducible rfl))
set_option maxHeartbeats 4000000 in
set_option maxRecDepth 100000 in
theorem Mo_single_n238 (g : pmG) (d : Nat) (ex : List (Nat × Nat)) (R : Nat → Nat → Value) (hR : mk_R R) (G : Nat → Int32 → Int32 → (Nat → Nat → Int32) → Int32 × Int32 × Int32 × (Nat → Nat → Int32)) (GQ : Nat → Int32 → Int32 → (Nat → Nat → Int32) → Prop) (hG0 : ∀ (x0 x1 : Int32) (I : Nat → Nat → Int32) (J : Nat → Nat → Int64), GQ 0 x0 x1 I → pmT g kMo_formula (d + 613) [.ref 40, .int x0] (mk_K ++ ex, R, I, J) (pt_I (mk_K ++ ex) R J (G 0 x0 x1 I))) (hG1 : ∀ (x0 x1 : Int32) (I : Nat → Nat → Int32) (J : Nat → Nat → Int64), GQ 1 x0 x1 I → pmT g kMo_either (d + 613) [.ref 40, .int x0] (mk_K ++ ex, R, I, J) (pt_I (mk_K ++ ex) R J (G 1 x0 x1 I))) (hG2 : ∀ (x0 x1 : Int32) (I : Nat → Nat → Int32) (J : Nat → Nat → Int64), GQ 2 x0 x1 I → pmT g kMo_both (d + 613) [.ref 40, .int x0] (mk_K ++ ex, R, I, J) (pt_I (mk_K ++ ex) R J (G 2 x0 x1 I))) (hG3 : ∀ (x0 x1 : Int32) (I : Nat → Nat → Int32) (J : Nat → Nat → Int64), GQ 3 x0 x1 I → pmT g kMo_single (d + 613) [.ref 40, .int x0] (mk_K ++ ex, R, I, J) (pt_I (mk_K ++ ex) R J (G 3 x0 x1 I))) (J : Nat → Nat → Int64) (o : Outcome) (Z : pmM) (rc rs : Nat)  (y1 : Int32) (y2 : Int32) (y3 : Int32) (y4 : Int32) (y5 : Int32) (y6 : Int32) (y7 : Int32) (z1 : Int32) (I : Nat → Nat → Int32) (hp : pMo_single_238 G GQ y1 y2 y3 y4 y5 y6 y7 z1 I) (hF : (o, Z, rc, rs) = pt_I (mk_K ++ ex) R J (fMo_single_238 G y1 y2 y3 y4 y5 y6 y7 z1 I)) : pmE g kMo_single (d + 614) rc rs 238 [(0, .ref 40), (1, .int y1), (2, .int y2), (3, .int y3), (4, .int y4), (5, .int y5), (6, .int y6), (7, .int y7)] [.int z1, .ref 40] (mk_K ++ ex) R I J o Z := by
  unfold pMo_single_238 at hp
  refine pm_iload dMo_single_238 rfl ?_
  refine pm_iload dMo_single_240 rfl ?_
  refine pm_callV dMo_single_242 lMo_303 vMo_make ⟨_, _, rfl⟩ (Mo_make_ok _ _ _ _ hR _ _ _ _ _ hp.1) rfl rfl rfl (Nat.le_of_ble_eq_true rfl) (Nat.le_refl _) (Nat.le_refl _) ?_
  exact pt_iret dMo_single_245 rfl (hF.trans (by first | (simp only [fMo_single_238]; done) | (simp only [fMo_single_238]; rfl) | rfl))
set_option maxHeartbeats 4000000 in
set_option maxRecDepth 100000 in
theorem Mo_single_n225 (g : pmG) (d : Nat) (ex : List (Nat × Nat)) (R : Nat → Nat → Value) (hR : mk_R R) (G : Nat → Int32 → Int32 → (Nat → Nat → Int32) → Int32 × Int32 × Int32 × (Nat → Nat → Int32)) (GQ : Nat → Int32 → Int32 → (Nat → Nat → Int32) → Prop) (hG0 : ∀ (x0 x1 : Int32) (I : Nat → Nat → Int32) (J : Nat → Nat → Int64), GQ 0 x0 x1 I → pmT g kMo_formula (d + 613) [.ref 40, .int x0] (mk_K ++ ex, R, I, J) (pt_I (mk_K ++ ex) R J (G 0 x0 x1 I))) (hG1 : ∀ (x0 x1 : Int32) (I : Nat → Nat → Int32) (J : Nat → Nat → Int64), GQ 1 x0 x1 I → pmT g kMo_either (d + 613) [.ref 40, .int x0] (mk_K ++ ex, R, I, J) (pt_I (mk_K ++ ex) R J (G 1 x0 x1 I))) (hG2 : ∀ (x0 x1 : Int32) (I : Nat → Nat → Int32) (J : Nat → Nat → Int64), GQ 2 x0 x1 I → pmT g kMo_both (d + 613) [.ref 40, .int x0] (mk_K ++ ex, R, I, J) (pt_I (mk_K ++ ex) R J (G 2 x0 x1 I))) (hG3 : ∀ (x0 x1 : Int32) (I : Nat → Nat → Int32) (J : Nat → Nat → Int64), GQ 3 x0 x1 I → pmT g kMo_single (d + 613) [.ref 40, .int x0] (mk_K ++ ex, R, I, J) (pt_I (mk_K ++ ex) R J (G 3 x0 x1 I))) (J : Nat → Nat → Int64) (o : Outcome) (Z : pmM) (rc rs : Nat)  (y1 : Int32) (y2 : Int32) (y3 : Int32) (y4 : Int32) (y5 : Int32) (y6 : Int32) (y7 : Int32) (I : Nat → Nat → Int32) (hp : pMo_single_225 G GQ y1 y2 y3 y4 y5 y6 y7 I) (hF : (o, Z, rc, rs) = pt_I (mk_K ++ ex) R J (fMo_single_225 G y1 y2 y3 y4 y5 y6 y7 I)) : pmE g kMo_single (d + 614) rc rs 225 [(0, .ref 40), (1, .int y1), (2, .int y2), (3, .int y3), (4, .int y4), (5, .int y5), (6, .int y6), (7, .int y7)] [] (mk_K ++ ex) R I J o Z := by
  unfold pMo_single_225 at hp
  refine pm_aload_n dMo_single_225 rfl ?_
  refine pm_iload dMo_single_226 rfl ?_
  refine pm_if_eq 236 dMo_single_228 (by decide) (fun h228 => ?_) (fun h228 => ?_)
  ·
    refine pm_bipush (v := 6) dMo_single_236 (by decide) ?_
    refine pm_wk [0, 1, 2, 3, 4, 5, 6, 7] rfl ?_
    exact Mo_single_n238 g d ex R hR G GQ hG0 hG1 hG2 hG3 J _ _ _ _   _ _ _ _ _ _ _ _ _ (hp.1 h228) (hF.trans (by first | (simp only [fMo_single_225, if_pos h228]; done) | (simp only [fMo_single_225, if_pos h228]; with_reducible rfl) | with_reducible rfl))
  ·
    refine pm_bipush (v := 7) dMo_single_231 (by decide) ?_
    refine pm_goto 238 dMo_single_233 (by decide) ?_
    refine pm_wk [0, 1, 2, 3, 4, 5, 6, 7] rfl ?_
    exact Mo_single_n238 g d ex R hR G GQ hG0 hG1 hG2 hG3 J _ _ _ _   _ _ _ _ _ _ _ _ _ (hp.2 h228) (hF.trans (by first | (simp only [fMo_single_225, if_neg h228]; done) | (simp only [fMo_single_225, if_neg h228]; with_reducible rfl) | with_reducible rfl))
set_option maxHeartbeats 4000000 in
set_option maxRecDepth 100000 in
theorem Mo_single_n217 (g : pmG) (d : Nat) (ex : List (Nat × Nat)) (R : Nat → Nat → Value) (hR : mk_R R) (G : Nat → Int32 → Int32 → (Nat → Nat → Int32) → Int32 × Int32 × Int32 × (Nat → Nat → Int32)) (GQ : Nat → Int32 → Int32 → (Nat → Nat → Int32) → Prop) (hG0 : ∀ (x0 x1 : Int32) (I : Nat → Nat → Int32) (J : Nat → Nat → Int64), GQ 0 x0 x1 I → pmT g kMo_formula (d + 613) [.ref 40, .int x0] (mk_K ++ ex, R, I, J) (pt_I (mk_K ++ ex) R J (G 0 x0 x1 I))) (hG1 : ∀ (x0 x1 : Int32) (I : Nat → Nat → Int32) (J : Nat → Nat → Int64), GQ 1 x0 x1 I → pmT g kMo_either (d + 613) [.ref 40, .int x0] (mk_K ++ ex, R, I, J) (pt_I (mk_K ++ ex) R J (G 1 x0 x1 I))) (hG2 : ∀ (x0 x1 : Int32) (I : Nat → Nat → Int32) (J : Nat → Nat → Int64), GQ 2 x0 x1 I → pmT g kMo_both (d + 613) [.ref 40, .int x0] (mk_K ++ ex, R, I, J) (pt_I (mk_K ++ ex) R J (G 2 x0 x1 I))) (hG3 : ∀ (x0 x1 : Int32) (I : Nat → Nat → Int32) (J : Nat → Nat → Int64), GQ 3 x0 x1 I → pmT g kMo_single (d + 613) [.ref 40, .int x0] (mk_K ++ ex, R, I, J) (pt_I (mk_K ++ ex) R J (G 3 x0 x1 I))) (J : Nat → Nat → Int64) (o : Outcome) (Z : pmM) (rc rs : Nat)  (y1 : Int32) (y2 : Int32) (y3 : Int32) (y4 : Int32) (y5 : Int32) (y6 : Int32) (z0 : Int32) (I : Nat → Nat → Int32) (hp : pMo_single_217 G GQ y1 y2 y3 y4 y5 y6 z0 I) (hF : (o, Z, rc, rs) = pt_I (mk_K ++ ex) R J (fMo_single_217 G y1 y2 y3 y4 y5 y6 z0 I)) : pmE g kMo_single (d + 614) rc rs 217 [(0, .ref 40), (1, .int y1), (2, .int y2), (3, .int y3), (4, .int y4), (5, .int y5), (6, .int y6)] [.int z0] (mk_K ++ ex) R I J o Z := by
  unfold pMo_single_217 at hp
  refine pm_istore dMo_single_217 (by decide) rfl ?_
  refine pm_aload_n dMo_single_219 rfl ?_
  refine pm_bipush (v := 93) dMo_single_220 (by decide) ?_
  refine pt_callV (v2 := some (.int 0)) dMo_single_222 lMo_277 vMo_must ⟨_, _, rfl⟩ (Mo_must_ok _ _ _ _ hR _ _ _ hp.1) rfl rfl rfl (Nat.le_of_ble_eq_true rfl) (fun h222 => ?_) (fun h222 => hF.trans (by first | (simp only [fMo_single_217, if_neg h222]; done) | (simp only [fMo_single_217, if_neg h222]; rfl) | rfl))
  refine pm_wk [1, 2, 3, 4, 5, 6, 7, 0] rfl ?_
  exact Mo_single_n225 g d ex R hR G GQ hG0 hG1 hG2 hG3 J _ _ _ _   _ _ _ _ _ _ _ _ (hp.2 h222) (hF.trans (by first | (simp only [fMo_single_217, if_pos h222]; done) | (simp only [fMo_single_217, if_pos h222]; with_reducible rfl) | with_reducible rfl))
set_option maxHeartbeats 4000000 in
set_option maxRecDepth 100000 in
theorem Mo_single_n214 (g : pmG) (d : Nat) (ex : List (Nat × Nat)) (R : Nat → Nat → Value) (hR : mk_R R) (G : Nat → Int32 → Int32 → (Nat → Nat → Int32) → Int32 × Int32 × Int32 × (Nat → Nat → Int32)) (GQ : Nat → Int32 → Int32 → (Nat → Nat → Int32) → Prop) (hG0 : ∀ (x0 x1 : Int32) (I : Nat → Nat → Int32) (J : Nat → Nat → Int64), GQ 0 x0 x1 I → pmT g kMo_formula (d + 613) [.ref 40, .int x0] (mk_K ++ ex, R, I, J) (pt_I (mk_K ++ ex) R J (G 0 x0 x1 I))) (hG1 : ∀ (x0 x1 : Int32) (I : Nat → Nat → Int32) (J : Nat → Nat → Int64), GQ 1 x0 x1 I → pmT g kMo_either (d + 613) [.ref 40, .int x0] (mk_K ++ ex, R, I, J) (pt_I (mk_K ++ ex) R J (G 1 x0 x1 I))) (hG2 : ∀ (x0 x1 : Int32) (I : Nat → Nat → Int32) (J : Nat → Nat → Int64), GQ 2 x0 x1 I → pmT g kMo_both (d + 613) [.ref 40, .int x0] (mk_K ++ ex, R, I, J) (pt_I (mk_K ++ ex) R J (G 2 x0 x1 I))) (hG3 : ∀ (x0 x1 : Int32) (I : Nat → Nat → Int32) (J : Nat → Nat → Int64), GQ 3 x0 x1 I → pmT g kMo_single (d + 613) [.ref 40, .int x0] (mk_K ++ ex, R, I, J) (pt_I (mk_K ++ ex) R J (G 3 x0 x1 I))) (J : Nat → Nat → Int64) (o : Outcome) (Z : pmM) (rc rs : Nat)  (y1 : Int32) (y2 : Int32) (y3 : Int32) (y4 : Int32) (y5 : Int32) (y6 : Int32) (z1 : Int32) (I : Nat → Nat → Int32) (hp : pMo_single_214 G GQ y1 y2 y3 y4 y5 y6 z1 I) (hF : (o, Z, rc, rs) = pt_I (mk_K ++ ex) R J (fMo_single_214 G y1 y2 y3 y4 y5 y6 z1 I)) : pmE g kMo_single (d + 614) rc rs 214 [(0, .ref 40), (1, .int y1), (2, .int y2), (3, .int y3), (4, .int y4), (5, .int y5), (6, .int y6)] [.int z1, .ref 40] (mk_K ++ ex) R I J o Z := by
  unfold pMo_single_214 at hp
  refine pt_callV (v2 := some (.int 0)) dMo_single_214 lMo_300 vMo_formula ⟨_, _, rfl⟩ (hG0 z1 0 _ _ hp.1) rfl rfl rfl (Nat.le_of_ble_eq_true rfl) (fun h214 => ?_) (fun h214 => hF.trans (by first | (simp only [fMo_single_214, if_neg h214]; done) | (simp only [fMo_single_214, if_neg h214]; rfl) | rfl))
  refine pm_wk [0, 1, 2, 3, 4, 5, 6] rfl ?_
  exact Mo_single_n217 g d ex R hR G GQ hG0 hG1 hG2 hG3 J _ _ _ _   _ _ _ _ _ _ _ _ (hp.2 h214) (hF.trans (by first | (simp only [fMo_single_214, if_pos h214]; done) | (simp only [fMo_single_214, if_pos h214]; with_reducible rfl) | with_reducible rfl))
set_option maxHeartbeats 4000000 in
set_option maxRecDepth 100000 in
theorem Mo_single_n208 (g : pmG) (d : Nat) (ex : List (Nat × Nat)) (R : Nat → Nat → Value) (hR : mk_R R) (G : Nat → Int32 → Int32 → (Nat → Nat → Int32) → Int32 × Int32 × Int32 × (Nat → Nat → Int32)) (GQ : Nat → Int32 → Int32 → (Nat → Nat → Int32) → Prop) (hG0 : ∀ (x0 x1 : Int32) (I : Nat → Nat → Int32) (J : Nat → Nat → Int64), GQ 0 x0 x1 I → pmT g kMo_formula (d + 613) [.ref 40, .int x0] (mk_K ++ ex, R, I, J) (pt_I (mk_K ++ ex) R J (G 0 x0 x1 I))) (hG1 : ∀ (x0 x1 : Int32) (I : Nat → Nat → Int32) (J : Nat → Nat → Int64), GQ 1 x0 x1 I → pmT g kMo_either (d + 613) [.ref 40, .int x0] (mk_K ++ ex, R, I, J) (pt_I (mk_K ++ ex) R J (G 1 x0 x1 I))) (hG2 : ∀ (x0 x1 : Int32) (I : Nat → Nat → Int32) (J : Nat → Nat → Int64), GQ 2 x0 x1 I → pmT g kMo_both (d + 613) [.ref 40, .int x0] (mk_K ++ ex, R, I, J) (pt_I (mk_K ++ ex) R J (G 2 x0 x1 I))) (hG3 : ∀ (x0 x1 : Int32) (I : Nat → Nat → Int32) (J : Nat → Nat → Int64), GQ 3 x0 x1 I → pmT g kMo_single (d + 613) [.ref 40, .int x0] (mk_K ++ ex, R, I, J) (pt_I (mk_K ++ ex) R J (G 3 x0 x1 I))) (J : Nat → Nat → Int64) (o : Outcome) (Z : pmM) (rc rs : Nat)  (y1 : Int32) (y2 : Int32) (y3 : Int32) (y4 : Int32) (y5 : Int32) (y6 : Int32) (I : Nat → Nat → Int32) (hp : pMo_single_208 G GQ y1 y2 y3 y4 y5 y6 I) (hF : (o, Z, rc, rs) = pt_I (mk_K ++ ex) R J (fMo_single_208 G y1 y2 y3 y4 y5 y6 I)) : pmE g kMo_single (d + 614) rc rs 208 [(0, .ref 40), (1, .int y1), (2, .int y2), (3, .int y3), (4, .int y4), (5, .int y5), (6, .int y6)] [] (mk_K ++ ex) R I J o Z := by
  unfold pMo_single_208 at hp
  refine pm_aload_n dMo_single_208 rfl ?_
  refine pm_aload_n dMo_single_209 rfl ?_
  refine pm_iload_n dMo_single_210 rfl ?_
  refine pt_callV (v2 := some (.int 0)) dMo_single_211 lMo_271 vMo_nest ⟨_, _, rfl⟩ (Mo_nest_ok _ _ _ _ hR _ _ _ hp.1) rfl rfl rfl (Nat.le_of_ble_eq_true rfl) (fun h211 => ?_) (fun h211 => hF.trans (by first | (simp only [fMo_single_208, if_neg h211]; done) | (simp only [fMo_single_208, if_neg h211]; rfl) | rfl))
  refine pm_wk [0, 1, 2, 3, 4, 5, 6] rfl ?_
  exact Mo_single_n214 g d ex R hR G GQ hG0 hG1 hG2 hG3 J _ _ _ _   _ _ _ _ _ _ _ _ (hp.2 h211) (hF.trans (by first | (simp only [fMo_single_208, if_pos h211]; done) | (simp only [fMo_single_208, if_pos h211]; with_reducible rfl) | with_reducible rfl))
set_option maxHeartbeats 4000000 in
set_option maxRecDepth 100000 in
theorem Mo_single_n196 (g : pmG) (d : Nat) (ex : List (Nat × Nat)) (R : Nat → Nat → Value) (hR : mk_R R) (G : Nat → Int32 → Int32 → (Nat → Nat → Int32) → Int32 × Int32 × Int32 × (Nat → Nat → Int32)) (GQ : Nat → Int32 → Int32 → (Nat → Nat → Int32) → Prop) (hG0 : ∀ (x0 x1 : Int32) (I : Nat → Nat → Int32) (J : Nat → Nat → Int64), GQ 0 x0 x1 I → pmT g kMo_formula (d + 613) [.ref 40, .int x0] (mk_K ++ ex, R, I, J) (pt_I (mk_K ++ ex) R J (G 0 x0 x1 I))) (hG1 : ∀ (x0 x1 : Int32) (I : Nat → Nat → Int32) (J : Nat → Nat → Int64), GQ 1 x0 x1 I → pmT g kMo_either (d + 613) [.ref 40, .int x0] (mk_K ++ ex, R, I, J) (pt_I (mk_K ++ ex) R J (G 1 x0 x1 I))) (hG2 : ∀ (x0 x1 : Int32) (I : Nat → Nat → Int32) (J : Nat → Nat → Int64), GQ 2 x0 x1 I → pmT g kMo_both (d + 613) [.ref 40, .int x0] (mk_K ++ ex, R, I, J) (pt_I (mk_K ++ ex) R J (G 2 x0 x1 I))) (hG3 : ∀ (x0 x1 : Int32) (I : Nat → Nat → Int32) (J : Nat → Nat → Int64), GQ 3 x0 x1 I → pmT g kMo_single (d + 613) [.ref 40, .int x0] (mk_K ++ ex, R, I, J) (pt_I (mk_K ++ ex) R J (G 3 x0 x1 I))) (J : Nat → Nat → Int64) (o : Outcome) (Z : pmM) (rc rs : Nat)  (y1 : Int32) (y2 : Int32) (y3 : Int32) (y4 : Int32) (y5 : Int32) (y6 : Int32) (z0 : Int32) (I : Nat → Nat → Int32) (hp : pMo_single_196 G GQ y1 y2 y3 y4 y5 y6 z0 I) (hF : (o, Z, rc, rs) = pt_I (mk_K ++ ex) R J (fMo_single_196 G y1 y2 y3 y4 y5 y6 z0 I)) : pmE g kMo_single (d + 614) rc rs 196 [(0, .ref 40), (1, .int y1), (2, .int y2), (3, .int y3), (4, .int y4), (5, .int y5), (6, .int y6)] [.int z0] (mk_K ++ ex) R I J o Z := by
  unfold pMo_single_196 at hp
  refine pm_if_ne 204 dMo_single_196 (by decide) (fun h196 => ?_) (fun h196 => ?_)
  ·
    refine pm_aload_n dMo_single_204 rfl ?_
    refine pt_callV (v2 := some (.int 0)) dMo_single_205 lMo_215 vMo_take ⟨_, _, rfl⟩ (Mo_take_ok _ _ _ _ hR  _ _ (hp.2 h196).1) rfl rfl rfl (Nat.le_of_ble_eq_true rfl) (fun h205 => ?_) (fun h205 => hF.trans (by first | (simp only [fMo_single_196, if_neg h196, if_neg h205]; done) | (simp only [fMo_single_196, if_neg h196, if_neg h205]; rfl) | rfl))
    refine pm_wk [0, 1, 2, 3, 4, 5, 6] rfl ?_
    exact Mo_single_n208 g d ex R hR G GQ hG0 hG1 hG2 hG3 J _ _ _ _   _ _ _ _ _ _ _ ((hp.2 h196).2 h205) (hF.trans (by first | (simp only [fMo_single_196, if_neg h196, if_pos h205]; done) | (simp only [fMo_single_196, if_neg h196, if_pos h205]; with_reducible rfl) | with_reducible rfl))
  ·
    refine pm_aload_n dMo_single_199 rfl ?_
    exact pt_cant (v2 := some (.int 0)) dMo_single_200 lMo_211 vMo_cant ⟨_, _, rfl⟩ (Mo_cant_ok _ _ _ _ hR _ _ (hp.1 h196)) dMo_single_203 rfl (by decide +kernel) (Nat.le_of_ble_eq_true rfl) (fMo_cant_ne _) (hF.trans (by first | (simp only [fMo_single_196, if_pos h196]; done) | (simp only [fMo_single_196, if_pos h196]; rfl) | rfl))
set_option maxHeartbeats 4000000 in
set_option maxRecDepth 100000 in
theorem Mo_single_n188 (g : pmG) (d : Nat) (ex : List (Nat × Nat)) (R : Nat → Nat → Value) (hR : mk_R R) (G : Nat → Int32 → Int32 → (Nat → Nat → Int32) → Int32 × Int32 × Int32 × (Nat → Nat → Int32)) (GQ : Nat → Int32 → Int32 → (Nat → Nat → Int32) → Prop) (hG0 : ∀ (x0 x1 : Int32) (I : Nat → Nat → Int32) (J : Nat → Nat → Int64), GQ 0 x0 x1 I → pmT g kMo_formula (d + 613) [.ref 40, .int x0] (mk_K ++ ex, R, I, J) (pt_I (mk_K ++ ex) R J (G 0 x0 x1 I))) (hG1 : ∀ (x0 x1 : Int32) (I : Nat → Nat → Int32) (J : Nat → Nat → Int64), GQ 1 x0 x1 I → pmT g kMo_either (d + 613) [.ref 40, .int x0] (mk_K ++ ex, R, I, J) (pt_I (mk_K ++ ex) R J (G 1 x0 x1 I))) (hG2 : ∀ (x0 x1 : Int32) (I : Nat → Nat → Int32) (J : Nat → Nat → Int64), GQ 2 x0 x1 I → pmT g kMo_both (d + 613) [.ref 40, .int x0] (mk_K ++ ex, R, I, J) (pt_I (mk_K ++ ex) R J (G 2 x0 x1 I))) (hG3 : ∀ (x0 x1 : Int32) (I : Nat → Nat → Int32) (J : Nat → Nat → Int64), GQ 3 x0 x1 I → pmT g kMo_single (d + 613) [.ref 40, .int x0] (mk_K ++ ex, R, I, J) (pt_I (mk_K ++ ex) R J (G 3 x0 x1 I))) (J : Nat → Nat → Int64) (o : Outcome) (Z : pmM) (rc rs : Nat)  (y1 : Int32) (y2 : Int32) (y3 : Int32) (y4 : Int32) (y5 : Int32) (z0 : Int32) (I : Nat → Nat → Int32) (hp : pMo_single_188 G GQ y1 y2 y3 y4 y5 z0 I) (hF : (o, Z, rc, rs) = pt_I (mk_K ++ ex) R J (fMo_single_188 G y1 y2 y3 y4 y5 z0 I)) : pmE g kMo_single (d + 614) rc rs 188 [(0, .ref 40), (1, .int y1), (2, .int y2), (3, .int y3), (4, .int y4), (5, .int y5)] [.int z0] (mk_K ++ ex) R I J o Z := by
  unfold pMo_single_188 at hp
  refine pm_istore dMo_single_188 (by decide) rfl ?_
  refine pm_aload_n dMo_single_190 rfl ?_
  refine pm_ldcS dMo_single_191 zMo_243 ?_
  refine pt_callV (v2 := some (.int 0)) dMo_single_193 lMo_229 vMo_is ⟨_, _, rfl⟩ (Mo_is_24_ok _ _ _ _ hR _ _ _ hp.1) rfl rfl rfl (Nat.le_of_ble_eq_true rfl) (fun h193 => ?_) (fun h193 => hF.trans (by first | (simp only [fMo_single_188, if_neg h193]; done) | (simp only [fMo_single_188, if_neg h193]; rfl) | rfl))
  refine pm_wk [1, 2, 3, 4, 5, 6, 0] rfl ?_
  exact Mo_single_n196 g d ex R hR G GQ hG0 hG1 hG2 hG3 J _ _ _ _   _ _ _ _ _ _ _ _ (hp.2 h193) (hF.trans (by first | (simp only [fMo_single_188, if_pos h193]; done) | (simp only [fMo_single_188, if_pos h193]; with_reducible rfl) | with_reducible rfl))
set_option maxHeartbeats 4000000 in
set_option maxRecDepth 100000 in
theorem Mo_single_n180 (g : pmG) (d : Nat) (ex : List (Nat × Nat)) (R : Nat → Nat → Value) (hR : mk_R R) (G : Nat → Int32 → Int32 → (Nat → Nat → Int32) → Int32 × Int32 × Int32 × (Nat → Nat → Int32)) (GQ : Nat → Int32 → Int32 → (Nat → Nat → Int32) → Prop) (hG0 : ∀ (x0 x1 : Int32) (I : Nat → Nat → Int32) (J : Nat → Nat → Int64), GQ 0 x0 x1 I → pmT g kMo_formula (d + 613) [.ref 40, .int x0] (mk_K ++ ex, R, I, J) (pt_I (mk_K ++ ex) R J (G 0 x0 x1 I))) (hG1 : ∀ (x0 x1 : Int32) (I : Nat → Nat → Int32) (J : Nat → Nat → Int64), GQ 1 x0 x1 I → pmT g kMo_either (d + 613) [.ref 40, .int x0] (mk_K ++ ex, R, I, J) (pt_I (mk_K ++ ex) R J (G 1 x0 x1 I))) (hG2 : ∀ (x0 x1 : Int32) (I : Nat → Nat → Int32) (J : Nat → Nat → Int64), GQ 2 x0 x1 I → pmT g kMo_both (d + 613) [.ref 40, .int x0] (mk_K ++ ex, R, I, J) (pt_I (mk_K ++ ex) R J (G 2 x0 x1 I))) (hG3 : ∀ (x0 x1 : Int32) (I : Nat → Nat → Int32) (J : Nat → Nat → Int64), GQ 3 x0 x1 I → pmT g kMo_single (d + 613) [.ref 40, .int x0] (mk_K ++ ex, R, I, J) (pt_I (mk_K ++ ex) R J (G 3 x0 x1 I))) (J : Nat → Nat → Int64) (o : Outcome) (Z : pmM) (rc rs : Nat)  (y1 : Int32) (y2 : Int32) (y3 : Int32) (y4 : Int32) (z0 : Int32) (I : Nat → Nat → Int32) (hp : pMo_single_180 G GQ y1 y2 y3 y4 z0 I) (hF : (o, Z, rc, rs) = pt_I (mk_K ++ ex) R J (fMo_single_180 G y1 y2 y3 y4 z0 I)) : pmE g kMo_single (d + 614) rc rs 180 [(0, .ref 40), (1, .int y1), (2, .int y2), (3, .int y3), (4, .int y4)] [.int z0] (mk_K ++ ex) R I J o Z := by
  unfold pMo_single_180 at hp
  refine pm_istore dMo_single_180 (by decide) rfl ?_
  refine pm_aload_n dMo_single_182 rfl ?_
  refine pm_iload dMo_single_183 rfl ?_
  refine pt_callV (v2 := some (.int 0)) dMo_single_185 lMo_300 vMo_formula ⟨_, _, rfl⟩ (hG0 z0 0 _ _ hp.1) rfl rfl rfl (Nat.le_of_ble_eq_true rfl) (fun h185 => ?_) (fun h185 => hF.trans (by first | (simp only [fMo_single_180, if_neg h185]; done) | (simp only [fMo_single_180, if_neg h185]; rfl) | rfl))
  refine pm_wk [1, 2, 3, 4, 5, 0] rfl ?_
  exact Mo_single_n188 g d ex R hR G GQ hG0 hG1 hG2 hG3 J _ _ _ _   _ _ _ _ _ _ _ (hp.2 h185) (hF.trans (by first | (simp only [fMo_single_180, if_pos h185]; done) | (simp only [fMo_single_180, if_pos h185]; with_reducible rfl) | with_reducible rfl))
set_option maxHeartbeats 4000000 in
set_option maxRecDepth 100000 in
theorem Mo_single_n175 (g : pmG) (d : Nat) (ex : List (Nat × Nat)) (R : Nat → Nat → Value) (hR : mk_R R) (G : Nat → Int32 → Int32 → (Nat → Nat → Int32) → Int32 × Int32 × Int32 × (Nat → Nat → Int32)) (GQ : Nat → Int32 → Int32 → (Nat → Nat → Int32) → Prop) (hG0 : ∀ (x0 x1 : Int32) (I : Nat → Nat → Int32) (J : Nat → Nat → Int64), GQ 0 x0 x1 I → pmT g kMo_formula (d + 613) [.ref 40, .int x0] (mk_K ++ ex, R, I, J) (pt_I (mk_K ++ ex) R J (G 0 x0 x1 I))) (hG1 : ∀ (x0 x1 : Int32) (I : Nat → Nat → Int32) (J : Nat → Nat → Int64), GQ 1 x0 x1 I → pmT g kMo_either (d + 613) [.ref 40, .int x0] (mk_K ++ ex, R, I, J) (pt_I (mk_K ++ ex) R J (G 1 x0 x1 I))) (hG2 : ∀ (x0 x1 : Int32) (I : Nat → Nat → Int32) (J : Nat → Nat → Int64), GQ 2 x0 x1 I → pmT g kMo_both (d + 613) [.ref 40, .int x0] (mk_K ++ ex, R, I, J) (pt_I (mk_K ++ ex) R J (G 2 x0 x1 I))) (hG3 : ∀ (x0 x1 : Int32) (I : Nat → Nat → Int32) (J : Nat → Nat → Int64), GQ 3 x0 x1 I → pmT g kMo_single (d + 613) [.ref 40, .int x0] (mk_K ++ ex, R, I, J) (pt_I (mk_K ++ ex) R J (G 3 x0 x1 I))) (J : Nat → Nat → Int64) (o : Outcome) (Z : pmM) (rc rs : Nat)  (y1 : Int32) (y2 : Int32) (y3 : Int32) (y4 : Int32) (I : Nat → Nat → Int32) (hp : pMo_single_175 G GQ y1 y2 y3 y4 I) (hF : (o, Z, rc, rs) = pt_I (mk_K ++ ex) R J (fMo_single_175 G y1 y2 y3 y4 I)) : pmE g kMo_single (d + 614) rc rs 175 [(0, .ref 40), (1, .int y1), (2, .int y2), (3, .int y3), (4, .int y4)] [] (mk_K ++ ex) R I J o Z := by
  unfold pMo_single_175 at hp
  refine pm_aload_n dMo_single_175 rfl ?_
  refine pm_iload_n dMo_single_176 rfl ?_
  refine pt_callV (v2 := some (.int 0)) dMo_single_177 lMo_271 vMo_nest ⟨_, _, rfl⟩ (Mo_nest_ok _ _ _ _ hR _ _ _ hp.1) rfl rfl rfl (Nat.le_of_ble_eq_true rfl) (fun h177 => ?_) (fun h177 => hF.trans (by first | (simp only [fMo_single_175, if_neg h177]; done) | (simp only [fMo_single_175, if_neg h177]; rfl) | rfl))
  refine pm_wk [0, 1, 2, 3, 4] rfl ?_
  exact Mo_single_n180 g d ex R hR G GQ hG0 hG1 hG2 hG3 J _ _ _ _   _ _ _ _ _ _ (hp.2 h177) (hF.trans (by first | (simp only [fMo_single_175, if_pos h177]; done) | (simp only [fMo_single_175, if_pos h177]; with_reducible rfl) | with_reducible rfl))
set_option maxHeartbeats 4000000 in
set_option maxRecDepth 100000 in
theorem Mo_single_n169 (g : pmG) (d : Nat) (ex : List (Nat × Nat)) (R : Nat → Nat → Value) (hR : mk_R R) (G : Nat → Int32 → Int32 → (Nat → Nat → Int32) → Int32 × Int32 × Int32 × (Nat → Nat → Int32)) (GQ : Nat → Int32 → Int32 → (Nat → Nat → Int32) → Prop) (hG0 : ∀ (x0 x1 : Int32) (I : Nat → Nat → Int32) (J : Nat → Nat → Int64), GQ 0 x0 x1 I → pmT g kMo_formula (d + 613) [.ref 40, .int x0] (mk_K ++ ex, R, I, J) (pt_I (mk_K ++ ex) R J (G 0 x0 x1 I))) (hG1 : ∀ (x0 x1 : Int32) (I : Nat → Nat → Int32) (J : Nat → Nat → Int64), GQ 1 x0 x1 I → pmT g kMo_either (d + 613) [.ref 40, .int x0] (mk_K ++ ex, R, I, J) (pt_I (mk_K ++ ex) R J (G 1 x0 x1 I))) (hG2 : ∀ (x0 x1 : Int32) (I : Nat → Nat → Int32) (J : Nat → Nat → Int64), GQ 2 x0 x1 I → pmT g kMo_both (d + 613) [.ref 40, .int x0] (mk_K ++ ex, R, I, J) (pt_I (mk_K ++ ex) R J (G 2 x0 x1 I))) (hG3 : ∀ (x0 x1 : Int32) (I : Nat → Nat → Int32) (J : Nat → Nat → Int64), GQ 3 x0 x1 I → pmT g kMo_single (d + 613) [.ref 40, .int x0] (mk_K ++ ex, R, I, J) (pt_I (mk_K ++ ex) R J (G 3 x0 x1 I))) (J : Nat → Nat → Int64) (o : Outcome) (Z : pmM) (rc rs : Nat)  (y1 : Int32) (y2 : Int32) (y3 : Int32) (y4 : Int32) (I : Nat → Nat → Int32) (hp : pMo_single_169 G GQ y1 y2 y3 y4 I) (hF : (o, Z, rc, rs) = pt_I (mk_K ++ ex) R J (fMo_single_169 G y1 y2 y3 y4 I)) : pmE g kMo_single (d + 614) rc rs 169 [(0, .ref 40), (1, .int y1), (2, .int y2), (3, .int y3), (4, .int y4)] [] (mk_K ++ ex) R I J o Z := by
  unfold pMo_single_169 at hp
  refine pm_aload_n dMo_single_169 rfl ?_
  refine pm_bipush (v := 91) dMo_single_170 (by decide) ?_
  refine pt_callV (v2 := some (.int 0)) dMo_single_172 lMo_277 vMo_must ⟨_, _, rfl⟩ (Mo_must_ok _ _ _ _ hR _ _ _ hp.1) rfl rfl rfl (Nat.le_of_ble_eq_true rfl) (fun h172 => ?_) (fun h172 => hF.trans (by first | (simp only [fMo_single_169, if_neg h172]; done) | (simp only [fMo_single_169, if_neg h172]; rfl) | rfl))
  refine pm_wk [0, 1, 2, 3, 4] rfl ?_
  exact Mo_single_n175 g d ex R hR G GQ hG0 hG1 hG2 hG3 J _ _ _ _   _ _ _ _ _ (hp.2 h172) (hF.trans (by first | (simp only [fMo_single_169, if_pos h172]; done) | (simp only [fMo_single_169, if_pos h172]; with_reducible rfl) | with_reducible rfl))
set_option maxHeartbeats 4000000 in
set_option maxRecDepth 100000 in
theorem Mo_single_n163 (g : pmG) (d : Nat) (ex : List (Nat × Nat)) (R : Nat → Nat → Value) (hR : mk_R R) (G : Nat → Int32 → Int32 → (Nat → Nat → Int32) → Int32 × Int32 × Int32 × (Nat → Nat → Int32)) (GQ : Nat → Int32 → Int32 → (Nat → Nat → Int32) → Prop) (hG0 : ∀ (x0 x1 : Int32) (I : Nat → Nat → Int32) (J : Nat → Nat → Int64), GQ 0 x0 x1 I → pmT g kMo_formula (d + 613) [.ref 40, .int x0] (mk_K ++ ex, R, I, J) (pt_I (mk_K ++ ex) R J (G 0 x0 x1 I))) (hG1 : ∀ (x0 x1 : Int32) (I : Nat → Nat → Int32) (J : Nat → Nat → Int64), GQ 1 x0 x1 I → pmT g kMo_either (d + 613) [.ref 40, .int x0] (mk_K ++ ex, R, I, J) (pt_I (mk_K ++ ex) R J (G 1 x0 x1 I))) (hG2 : ∀ (x0 x1 : Int32) (I : Nat → Nat → Int32) (J : Nat → Nat → Int64), GQ 2 x0 x1 I → pmT g kMo_both (d + 613) [.ref 40, .int x0] (mk_K ++ ex, R, I, J) (pt_I (mk_K ++ ex) R J (G 2 x0 x1 I))) (hG3 : ∀ (x0 x1 : Int32) (I : Nat → Nat → Int32) (J : Nat → Nat → Int64), GQ 3 x0 x1 I → pmT g kMo_single (d + 613) [.ref 40, .int x0] (mk_K ++ ex, R, I, J) (pt_I (mk_K ++ ex) R J (G 3 x0 x1 I))) (J : Nat → Nat → Int64) (o : Outcome) (Z : pmM) (rc rs : Nat)  (y1 : Int32) (y2 : Int32) (y3 : Int32) (z0 : Int32) (I : Nat → Nat → Int32) (hp : pMo_single_163 G GQ y1 y2 y3 z0 I) (hF : (o, Z, rc, rs) = pt_I (mk_K ++ ex) R J (fMo_single_163 G y1 y2 y3 z0 I)) : pmE g kMo_single (d + 614) rc rs 163 [(0, .ref 40), (1, .int y1), (2, .int y2), (3, .int y3)] [.int z0] (mk_K ++ ex) R I J o Z := by
  unfold pMo_single_163 at hp
  refine pm_istore dMo_single_163 (by decide) rfl ?_
  refine pm_aload_n dMo_single_165 rfl ?_
  refine pt_callV (v2 := some (.int 0)) dMo_single_166 lMo_215 vMo_take ⟨_, _, rfl⟩ (Mo_take_ok _ _ _ _ hR  _ _ hp.1) rfl rfl rfl (Nat.le_of_ble_eq_true rfl) (fun h166 => ?_) (fun h166 => hF.trans (by first | (simp only [fMo_single_163, if_neg h166]; done) | (simp only [fMo_single_163, if_neg h166]; rfl) | rfl))
  refine pm_wk [1, 2, 3, 4, 0] rfl ?_
  exact Mo_single_n169 g d ex R hR G GQ hG0 hG1 hG2 hG3 J _ _ _ _   _ _ _ _ _ (hp.2 h166) (hF.trans (by first | (simp only [fMo_single_163, if_pos h166]; done) | (simp only [fMo_single_163, if_pos h166]; with_reducible rfl) | with_reducible rfl))
set_option maxHeartbeats 4000000 in
set_option maxRecDepth 100000 in
theorem Mo_single_n157 (g : pmG) (d : Nat) (ex : List (Nat × Nat)) (R : Nat → Nat → Value) (hR : mk_R R) (G : Nat → Int32 → Int32 → (Nat → Nat → Int32) → Int32 × Int32 × Int32 × (Nat → Nat → Int32)) (GQ : Nat → Int32 → Int32 → (Nat → Nat → Int32) → Prop) (hG0 : ∀ (x0 x1 : Int32) (I : Nat → Nat → Int32) (J : Nat → Nat → Int64), GQ 0 x0 x1 I → pmT g kMo_formula (d + 613) [.ref 40, .int x0] (mk_K ++ ex, R, I, J) (pt_I (mk_K ++ ex) R J (G 0 x0 x1 I))) (hG1 : ∀ (x0 x1 : Int32) (I : Nat → Nat → Int32) (J : Nat → Nat → Int64), GQ 1 x0 x1 I → pmT g kMo_either (d + 613) [.ref 40, .int x0] (mk_K ++ ex, R, I, J) (pt_I (mk_K ++ ex) R J (G 1 x0 x1 I))) (hG2 : ∀ (x0 x1 : Int32) (I : Nat → Nat → Int32) (J : Nat → Nat → Int64), GQ 2 x0 x1 I → pmT g kMo_both (d + 613) [.ref 40, .int x0] (mk_K ++ ex, R, I, J) (pt_I (mk_K ++ ex) R J (G 2 x0 x1 I))) (hG3 : ∀ (x0 x1 : Int32) (I : Nat → Nat → Int32) (J : Nat → Nat → Int64), GQ 3 x0 x1 I → pmT g kMo_single (d + 613) [.ref 40, .int x0] (mk_K ++ ex, R, I, J) (pt_I (mk_K ++ ex) R J (G 3 x0 x1 I))) (J : Nat → Nat → Int64) (o : Outcome) (Z : pmM) (rc rs : Nat)  (y1 : Int32) (y2 : Int32) (y3 : Int32) (I : Nat → Nat → Int32) (hp : pMo_single_157 G GQ y1 y2 y3 I) (hF : (o, Z, rc, rs) = pt_I (mk_K ++ ex) R J (fMo_single_157 G y1 y2 y3 I)) : pmE g kMo_single (d + 614) rc rs 157 [(0, .ref 40), (1, .int y1), (2, .int y2), (3, .int y3)] [] (mk_K ++ ex) R I J o Z := by
  unfold pMo_single_157 at hp
  refine pm_aload_n dMo_single_157 rfl ?_
  refine pm_ldcS dMo_single_158 zMo_239 ?_
  refine pt_callV (v2 := some (.int 0)) dMo_single_160 lMo_229 vMo_is ⟨_, _, rfl⟩ (Mo_is_22_ok _ _ _ _ hR _ _ _ hp.1) rfl rfl rfl (Nat.le_of_ble_eq_true rfl) (fun h160 => ?_) (fun h160 => hF.trans (by first | (simp only [fMo_single_157, if_neg h160]; done) | (simp only [fMo_single_157, if_neg h160]; rfl) | rfl))
  refine pm_wk [0, 1, 2, 3] rfl ?_
  exact Mo_single_n163 g d ex R hR G GQ hG0 hG1 hG2 hG3 J _ _ _ _   _ _ _ _ _ (hp.2 h160) (hF.trans (by first | (simp only [fMo_single_157, if_pos h160]; done) | (simp only [fMo_single_157, if_pos h160]; with_reducible rfl) | with_reducible rfl))
set_option maxHeartbeats 4000000 in
set_option maxRecDepth 100000 in
theorem Mo_single_n273 (g : pmG) (d : Nat) (ex : List (Nat × Nat)) (R : Nat → Nat → Value) (hR : mk_R R) (G : Nat → Int32 → Int32 → (Nat → Nat → Int32) → Int32 × Int32 × Int32 × (Nat → Nat → Int32)) (GQ : Nat → Int32 → Int32 → (Nat → Nat → Int32) → Prop) (hG0 : ∀ (x0 x1 : Int32) (I : Nat → Nat → Int32) (J : Nat → Nat → Int64), GQ 0 x0 x1 I → pmT g kMo_formula (d + 613) [.ref 40, .int x0] (mk_K ++ ex, R, I, J) (pt_I (mk_K ++ ex) R J (G 0 x0 x1 I))) (hG1 : ∀ (x0 x1 : Int32) (I : Nat → Nat → Int32) (J : Nat → Nat → Int64), GQ 1 x0 x1 I → pmT g kMo_either (d + 613) [.ref 40, .int x0] (mk_K ++ ex, R, I, J) (pt_I (mk_K ++ ex) R J (G 1 x0 x1 I))) (hG2 : ∀ (x0 x1 : Int32) (I : Nat → Nat → Int32) (J : Nat → Nat → Int64), GQ 2 x0 x1 I → pmT g kMo_both (d + 613) [.ref 40, .int x0] (mk_K ++ ex, R, I, J) (pt_I (mk_K ++ ex) R J (G 2 x0 x1 I))) (hG3 : ∀ (x0 x1 : Int32) (I : Nat → Nat → Int32) (J : Nat → Nat → Int64), GQ 3 x0 x1 I → pmT g kMo_single (d + 613) [.ref 40, .int x0] (mk_K ++ ex, R, I, J) (pt_I (mk_K ++ ex) R J (G 3 x0 x1 I))) (J : Nat → Nat → Int64) (o : Outcome) (Z : pmM) (rc rs : Nat)  (y1 : Int32) (y2 : Int32) (y3 : Int32) (y4 : Int32) (I : Nat → Nat → Int32) (hp : pMo_single_273 G GQ y1 y2 y3 y4 I) (hF : (o, Z, rc, rs) = pt_I (mk_K ++ ex) R J (fMo_single_273 G y1 y2 y3 y4 I)) : pmE g kMo_single (d + 614) rc rs 273 [(0, .ref 40), (1, .int y1), (2, .int y2), (3, .int y3), (4, .int y4)] [] (mk_K ++ ex) R I J o Z := by
  unfold pMo_single_273 at hp
  refine pm_iload dMo_single_273 rfl ?_
  exact pt_iret dMo_single_275 rfl (hF.trans (by first | (simp only [fMo_single_273]; done) | (simp only [fMo_single_273]; rfl) | rfl))
set_option maxHeartbeats 4000000 in
set_option maxRecDepth 100000 in
theorem Mo_single_n265 (g : pmG) (d : Nat) (ex : List (Nat × Nat)) (R : Nat → Nat → Value) (hR : mk_R R) (G : Nat → Int32 → Int32 → (Nat → Nat → Int32) → Int32 × Int32 × Int32 × (Nat → Nat → Int32)) (GQ : Nat → Int32 → Int32 → (Nat → Nat → Int32) → Prop) (hG0 : ∀ (x0 x1 : Int32) (I : Nat → Nat → Int32) (J : Nat → Nat → Int64), GQ 0 x0 x1 I → pmT g kMo_formula (d + 613) [.ref 40, .int x0] (mk_K ++ ex, R, I, J) (pt_I (mk_K ++ ex) R J (G 0 x0 x1 I))) (hG1 : ∀ (x0 x1 : Int32) (I : Nat → Nat → Int32) (J : Nat → Nat → Int64), GQ 1 x0 x1 I → pmT g kMo_either (d + 613) [.ref 40, .int x0] (mk_K ++ ex, R, I, J) (pt_I (mk_K ++ ex) R J (G 1 x0 x1 I))) (hG2 : ∀ (x0 x1 : Int32) (I : Nat → Nat → Int32) (J : Nat → Nat → Int64), GQ 2 x0 x1 I → pmT g kMo_both (d + 613) [.ref 40, .int x0] (mk_K ++ ex, R, I, J) (pt_I (mk_K ++ ex) R J (G 2 x0 x1 I))) (hG3 : ∀ (x0 x1 : Int32) (I : Nat → Nat → Int32) (J : Nat → Nat → Int64), GQ 3 x0 x1 I → pmT g kMo_single (d + 613) [.ref 40, .int x0] (mk_K ++ ex, R, I, J) (pt_I (mk_K ++ ex) R J (G 3 x0 x1 I))) (J : Nat → Nat → Int64) (o : Outcome) (Z : pmM) (rc rs : Nat)  (y1 : Int32) (y2 : Int32) (y3 : Int32) (z0 : Int32) (I : Nat → Nat → Int32) (hp : pMo_single_265 G GQ y1 y2 y3 z0 I) (hF : (o, Z, rc, rs) = pt_I (mk_K ++ ex) R J (fMo_single_265 G y1 y2 y3 z0 I)) : pmE g kMo_single (d + 614) rc rs 265 [(0, .ref 40), (1, .int y1), (2, .int y2), (3, .int y3)] [.int z0] (mk_K ++ ex) R I J o Z := by
  unfold pMo_single_265 at hp
  refine pm_istore dMo_single_265 (by decide) rfl ?_
  refine pm_aload_n dMo_single_267 rfl ?_
  refine pm_bipush (v := 41) dMo_single_268 (by decide) ?_
  refine pt_callV (v2 := some (.int 0)) dMo_single_270 lMo_277 vMo_must ⟨_, _, rfl⟩ (Mo_must_ok _ _ _ _ hR _ _ _ hp.1) rfl rfl rfl (Nat.le_of_ble_eq_true rfl) (fun h270 => ?_) (fun h270 => hF.trans (by first | (simp only [fMo_single_265, if_neg h270]; done) | (simp only [fMo_single_265, if_neg h270]; rfl) | rfl))
  refine pm_wk [1, 2, 3, 4, 0] rfl ?_
  exact Mo_single_n273 g d ex R hR G GQ hG0 hG1 hG2 hG3 J _ _ _ _   _ _ _ _ _ (hp.2 h270) (hF.trans (by first | (simp only [fMo_single_265, if_pos h270]; done) | (simp only [fMo_single_265, if_pos h270]; with_reducible rfl) | with_reducible rfl))
set_option maxHeartbeats 4000000 in
set_option maxRecDepth 100000 in
theorem Mo_single_n262 (g : pmG) (d : Nat) (ex : List (Nat × Nat)) (R : Nat → Nat → Value) (hR : mk_R R) (G : Nat → Int32 → Int32 → (Nat → Nat → Int32) → Int32 × Int32 × Int32 × (Nat → Nat → Int32)) (GQ : Nat → Int32 → Int32 → (Nat → Nat → Int32) → Prop) (hG0 : ∀ (x0 x1 : Int32) (I : Nat → Nat → Int32) (J : Nat → Nat → Int64), GQ 0 x0 x1 I → pmT g kMo_formula (d + 613) [.ref 40, .int x0] (mk_K ++ ex, R, I, J) (pt_I (mk_K ++ ex) R J (G 0 x0 x1 I))) (hG1 : ∀ (x0 x1 : Int32) (I : Nat → Nat → Int32) (J : Nat → Nat → Int64), GQ 1 x0 x1 I → pmT g kMo_either (d + 613) [.ref 40, .int x0] (mk_K ++ ex, R, I, J) (pt_I (mk_K ++ ex) R J (G 1 x0 x1 I))) (hG2 : ∀ (x0 x1 : Int32) (I : Nat → Nat → Int32) (J : Nat → Nat → Int64), GQ 2 x0 x1 I → pmT g kMo_both (d + 613) [.ref 40, .int x0] (mk_K ++ ex, R, I, J) (pt_I (mk_K ++ ex) R J (G 2 x0 x1 I))) (hG3 : ∀ (x0 x1 : Int32) (I : Nat → Nat → Int32) (J : Nat → Nat → Int64), GQ 3 x0 x1 I → pmT g kMo_single (d + 613) [.ref 40, .int x0] (mk_K ++ ex, R, I, J) (pt_I (mk_K ++ ex) R J (G 3 x0 x1 I))) (J : Nat → Nat → Int64) (o : Outcome) (Z : pmM) (rc rs : Nat)  (y1 : Int32) (y2 : Int32) (y3 : Int32) (z1 : Int32) (I : Nat → Nat → Int32) (hp : pMo_single_262 G GQ y1 y2 y3 z1 I) (hF : (o, Z, rc, rs) = pt_I (mk_K ++ ex) R J (fMo_single_262 G y1 y2 y3 z1 I)) : pmE g kMo_single (d + 614) rc rs 262 [(0, .ref 40), (1, .int y1), (2, .int y2), (3, .int y3)] [.int z1, .ref 40] (mk_K ++ ex) R I J o Z := by
  unfold pMo_single_262 at hp
  refine pt_callV (v2 := some (.int 0)) dMo_single_262 lMo_300 vMo_formula ⟨_, _, rfl⟩ (hG0 z1 0 _ _ hp.1) rfl rfl rfl (Nat.le_of_ble_eq_true rfl) (fun h262 => ?_) (fun h262 => hF.trans (by first | (simp only [fMo_single_262, if_neg h262]; done) | (simp only [fMo_single_262, if_neg h262]; rfl) | rfl))
  refine pm_wk [0, 1, 2, 3] rfl ?_
  exact Mo_single_n265 g d ex R hR G GQ hG0 hG1 hG2 hG3 J _ _ _ _   _ _ _ _ _ (hp.2 h262) (hF.trans (by first | (simp only [fMo_single_262, if_pos h262]; done) | (simp only [fMo_single_262, if_pos h262]; with_reducible rfl) | with_reducible rfl))
set_option maxHeartbeats 4000000 in
set_option maxRecDepth 100000 in
theorem Mo_single_n256 (g : pmG) (d : Nat) (ex : List (Nat × Nat)) (R : Nat → Nat → Value) (hR : mk_R R) (G : Nat → Int32 → Int32 → (Nat → Nat → Int32) → Int32 × Int32 × Int32 × (Nat → Nat → Int32)) (GQ : Nat → Int32 → Int32 → (Nat → Nat → Int32) → Prop) (hG0 : ∀ (x0 x1 : Int32) (I : Nat → Nat → Int32) (J : Nat → Nat → Int64), GQ 0 x0 x1 I → pmT g kMo_formula (d + 613) [.ref 40, .int x0] (mk_K ++ ex, R, I, J) (pt_I (mk_K ++ ex) R J (G 0 x0 x1 I))) (hG1 : ∀ (x0 x1 : Int32) (I : Nat → Nat → Int32) (J : Nat → Nat → Int64), GQ 1 x0 x1 I → pmT g kMo_either (d + 613) [.ref 40, .int x0] (mk_K ++ ex, R, I, J) (pt_I (mk_K ++ ex) R J (G 1 x0 x1 I))) (hG2 : ∀ (x0 x1 : Int32) (I : Nat → Nat → Int32) (J : Nat → Nat → Int64), GQ 2 x0 x1 I → pmT g kMo_both (d + 613) [.ref 40, .int x0] (mk_K ++ ex, R, I, J) (pt_I (mk_K ++ ex) R J (G 2 x0 x1 I))) (hG3 : ∀ (x0 x1 : Int32) (I : Nat → Nat → Int32) (J : Nat → Nat → Int64), GQ 3 x0 x1 I → pmT g kMo_single (d + 613) [.ref 40, .int x0] (mk_K ++ ex, R, I, J) (pt_I (mk_K ++ ex) R J (G 3 x0 x1 I))) (J : Nat → Nat → Int64) (o : Outcome) (Z : pmM) (rc rs : Nat)  (y1 : Int32) (y2 : Int32) (y3 : Int32) (I : Nat → Nat → Int32) (hp : pMo_single_256 G GQ y1 y2 y3 I) (hF : (o, Z, rc, rs) = pt_I (mk_K ++ ex) R J (fMo_single_256 G y1 y2 y3 I)) : pmE g kMo_single (d + 614) rc rs 256 [(0, .ref 40), (1, .int y1), (2, .int y2), (3, .int y3)] [] (mk_K ++ ex) R I J o Z := by
  unfold pMo_single_256 at hp
  refine pm_aload_n dMo_single_256 rfl ?_
  refine pm_aload_n dMo_single_257 rfl ?_
  refine pm_iload_n dMo_single_258 rfl ?_
  refine pt_callV (v2 := some (.int 0)) dMo_single_259 lMo_271 vMo_nest ⟨_, _, rfl⟩ (Mo_nest_ok _ _ _ _ hR _ _ _ hp.1) rfl rfl rfl (Nat.le_of_ble_eq_true rfl) (fun h259 => ?_) (fun h259 => hF.trans (by first | (simp only [fMo_single_256, if_neg h259]; done) | (simp only [fMo_single_256, if_neg h259]; rfl) | rfl))
  refine pm_wk [0, 1, 2, 3] rfl ?_
  exact Mo_single_n262 g d ex R hR G GQ hG0 hG1 hG2 hG3 J _ _ _ _   _ _ _ _ _ (hp.2 h259) (hF.trans (by first | (simp only [fMo_single_256, if_pos h259]; done) | (simp only [fMo_single_256, if_pos h259]; with_reducible rfl) | with_reducible rfl))
set_option maxHeartbeats 4000000 in
set_option maxRecDepth 100000 in
theorem Mo_single_n309 (g : pmG) (d : Nat) (ex : List (Nat × Nat)) (R : Nat → Nat → Value) (hR : mk_R R) (G : Nat → Int32 → Int32 → (Nat → Nat → Int32) → Int32 × Int32 × Int32 × (Nat → Nat → Int32)) (GQ : Nat → Int32 → Int32 → (Nat → Nat → Int32) → Prop) (hG0 : ∀ (x0 x1 : Int32) (I : Nat → Nat → Int32) (J : Nat → Nat → Int64), GQ 0 x0 x1 I → pmT g kMo_formula (d + 613) [.ref 40, .int x0] (mk_K ++ ex, R, I, J) (pt_I (mk_K ++ ex) R J (G 0 x0 x1 I))) (hG1 : ∀ (x0 x1 : Int32) (I : Nat → Nat → Int32) (J : Nat → Nat → Int64), GQ 1 x0 x1 I → pmT g kMo_either (d + 613) [.ref 40, .int x0] (mk_K ++ ex, R, I, J) (pt_I (mk_K ++ ex) R J (G 1 x0 x1 I))) (hG2 : ∀ (x0 x1 : Int32) (I : Nat → Nat → Int32) (J : Nat → Nat → Int64), GQ 2 x0 x1 I → pmT g kMo_both (d + 613) [.ref 40, .int x0] (mk_K ++ ex, R, I, J) (pt_I (mk_K ++ ex) R J (G 2 x0 x1 I))) (hG3 : ∀ (x0 x1 : Int32) (I : Nat → Nat → Int32) (J : Nat → Nat → Int64), GQ 3 x0 x1 I → pmT g kMo_single (d + 613) [.ref 40, .int x0] (mk_K ++ ex, R, I, J) (pt_I (mk_K ++ ex) R J (G 3 x0 x1 I))) (J : Nat → Nat → Int64) (o : Outcome) (Z : pmM) (rc rs : Nat)  (y1 : Int32) (y2 : Int32) (y3 : Int32) (y4 : Int32) (I : Nat → Nat → Int32) (hp : pMo_single_309 G GQ y1 y2 y3 y4 I) (hF : (o, Z, rc, rs) = pt_I (mk_K ++ ex) R J (fMo_single_309 G y1 y2 y3 y4 I)) : pmE g kMo_single (d + 614) rc rs 309 [(0, .ref 40), (1, .int y1), (2, .int y2), (3, .int y3), (4, .int y4)] [] (mk_K ++ ex) R I J o Z := by
  unfold pMo_single_309 at hp
  refine pm_aload_n dMo_single_309 rfl ?_
  refine pm_bipush (v := 12) dMo_single_310 (by decide) ?_
  refine pm_iload dMo_single_312 rfl ?_
  refine pm_iconst (v := 0) dMo_single_314 (by decide) ?_
  refine pm_callV dMo_single_315 lMo_303 vMo_make ⟨_, _, rfl⟩ (Mo_make_ok _ _ _ _ hR _ _ _ _ _ hp.1) rfl rfl rfl (Nat.le_of_ble_eq_true rfl) (Nat.le_refl _) (Nat.le_refl _) ?_
  exact pt_iret dMo_single_318 rfl (hF.trans (by first | (simp only [fMo_single_309]; done) | (simp only [fMo_single_309]; rfl) | rfl))
set_option maxHeartbeats 4000000 in
set_option maxRecDepth 100000 in
theorem Mo_single_n301 (g : pmG) (d : Nat) (ex : List (Nat × Nat)) (R : Nat → Nat → Value) (hR : mk_R R) (G : Nat → Int32 → Int32 → (Nat → Nat → Int32) → Int32 × Int32 × Int32 × (Nat → Nat → Int32)) (GQ : Nat → Int32 → Int32 → (Nat → Nat → Int32) → Prop) (hG0 : ∀ (x0 x1 : Int32) (I : Nat → Nat → Int32) (J : Nat → Nat → Int64), GQ 0 x0 x1 I → pmT g kMo_formula (d + 613) [.ref 40, .int x0] (mk_K ++ ex, R, I, J) (pt_I (mk_K ++ ex) R J (G 0 x0 x1 I))) (hG1 : ∀ (x0 x1 : Int32) (I : Nat → Nat → Int32) (J : Nat → Nat → Int64), GQ 1 x0 x1 I → pmT g kMo_either (d + 613) [.ref 40, .int x0] (mk_K ++ ex, R, I, J) (pt_I (mk_K ++ ex) R J (G 1 x0 x1 I))) (hG2 : ∀ (x0 x1 : Int32) (I : Nat → Nat → Int32) (J : Nat → Nat → Int64), GQ 2 x0 x1 I → pmT g kMo_both (d + 613) [.ref 40, .int x0] (mk_K ++ ex, R, I, J) (pt_I (mk_K ++ ex) R J (G 2 x0 x1 I))) (hG3 : ∀ (x0 x1 : Int32) (I : Nat → Nat → Int32) (J : Nat → Nat → Int64), GQ 3 x0 x1 I → pmT g kMo_single (d + 613) [.ref 40, .int x0] (mk_K ++ ex, R, I, J) (pt_I (mk_K ++ ex) R J (G 3 x0 x1 I))) (J : Nat → Nat → Int64) (o : Outcome) (Z : pmM) (rc rs : Nat)  (y1 : Int32) (y2 : Int32) (y3 : Int32) (z0 : Int32) (I : Nat → Nat → Int32) (hp : pMo_single_301 G GQ y1 y2 y3 z0 I) (hF : (o, Z, rc, rs) = pt_I (mk_K ++ ex) R J (fMo_single_301 G y1 y2 y3 z0 I)) : pmE g kMo_single (d + 614) rc rs 301 [(0, .ref 40), (1, .int y1), (2, .int y2), (3, .int y3)] [.int z0] (mk_K ++ ex) R I J o Z := by
  unfold pMo_single_301 at hp
  refine pm_istore dMo_single_301 (by decide) rfl ?_
  refine pm_aload_n dMo_single_303 rfl ?_
  refine pm_bipush (v := 125) dMo_single_304 (by decide) ?_
  refine pt_callV (v2 := some (.int 0)) dMo_single_306 lMo_277 vMo_must ⟨_, _, rfl⟩ (Mo_must_ok _ _ _ _ hR _ _ _ hp.1) rfl rfl rfl (Nat.le_of_ble_eq_true rfl) (fun h306 => ?_) (fun h306 => hF.trans (by first | (simp only [fMo_single_301, if_neg h306]; done) | (simp only [fMo_single_301, if_neg h306]; rfl) | rfl))
  refine pm_wk [1, 2, 3, 4, 0] rfl ?_
  exact Mo_single_n309 g d ex R hR G GQ hG0 hG1 hG2 hG3 J _ _ _ _   _ _ _ _ _ (hp.2 h306) (hF.trans (by first | (simp only [fMo_single_301, if_pos h306]; done) | (simp only [fMo_single_301, if_pos h306]; with_reducible rfl) | with_reducible rfl))
set_option maxHeartbeats 4000000 in
set_option maxRecDepth 100000 in
theorem Mo_single_n298 (g : pmG) (d : Nat) (ex : List (Nat × Nat)) (R : Nat → Nat → Value) (hR : mk_R R) (G : Nat → Int32 → Int32 → (Nat → Nat → Int32) → Int32 × Int32 × Int32 × (Nat → Nat → Int32)) (GQ : Nat → Int32 → Int32 → (Nat → Nat → Int32) → Prop) (hG0 : ∀ (x0 x1 : Int32) (I : Nat → Nat → Int32) (J : Nat → Nat → Int64), GQ 0 x0 x1 I → pmT g kMo_formula (d + 613) [.ref 40, .int x0] (mk_K ++ ex, R, I, J) (pt_I (mk_K ++ ex) R J (G 0 x0 x1 I))) (hG1 : ∀ (x0 x1 : Int32) (I : Nat → Nat → Int32) (J : Nat → Nat → Int64), GQ 1 x0 x1 I → pmT g kMo_either (d + 613) [.ref 40, .int x0] (mk_K ++ ex, R, I, J) (pt_I (mk_K ++ ex) R J (G 1 x0 x1 I))) (hG2 : ∀ (x0 x1 : Int32) (I : Nat → Nat → Int32) (J : Nat → Nat → Int64), GQ 2 x0 x1 I → pmT g kMo_both (d + 613) [.ref 40, .int x0] (mk_K ++ ex, R, I, J) (pt_I (mk_K ++ ex) R J (G 2 x0 x1 I))) (hG3 : ∀ (x0 x1 : Int32) (I : Nat → Nat → Int32) (J : Nat → Nat → Int64), GQ 3 x0 x1 I → pmT g kMo_single (d + 613) [.ref 40, .int x0] (mk_K ++ ex, R, I, J) (pt_I (mk_K ++ ex) R J (G 3 x0 x1 I))) (J : Nat → Nat → Int64) (o : Outcome) (Z : pmM) (rc rs : Nat)  (y1 : Int32) (y2 : Int32) (y3 : Int32) (z1 : Int32) (I : Nat → Nat → Int32) (hp : pMo_single_298 G GQ y1 y2 y3 z1 I) (hF : (o, Z, rc, rs) = pt_I (mk_K ++ ex) R J (fMo_single_298 G y1 y2 y3 z1 I)) : pmE g kMo_single (d + 614) rc rs 298 [(0, .ref 40), (1, .int y1), (2, .int y2), (3, .int y3)] [.int z1, .ref 40] (mk_K ++ ex) R I J o Z := by
  unfold pMo_single_298 at hp
  have hc9 := me_Mo_expression_ok g (d + 1) ex R hR z1 I J hp.1
  have hp9 := hp.2
  simp only [fMo_single_298] at hF
  generalize fme_Mo_expression z1 I = X9 at hc9 hp9 hF
  refine pt_callV (v2 := some (.int 0)) dMo_single_298 lMo_274 vMo_expression ⟨_, _, rfl⟩ hc9 rfl rfl rfl (Nat.le_of_ble_eq_true rfl) (fun h298 => ?_) (fun h298 => hF.trans (by first | (simp only [if_neg h298]; done) | (simp only [if_neg h298]; rfl)))
  refine pm_wk [0, 1, 2, 3] rfl ?_
  exact Mo_single_n301 g d ex R hR G GQ hG0 hG1 hG2 hG3 J _ _ _ _   _ _ _ _ _ (hp9 h298) (hF.trans (by first | (simp only [fMo_single_298, if_pos h298]; done) | (simp only [fMo_single_298, if_pos h298]; with_reducible rfl) | with_reducible rfl))
set_option maxHeartbeats 4000000 in
set_option maxRecDepth 100000 in
theorem Mo_single_n292 (g : pmG) (d : Nat) (ex : List (Nat × Nat)) (R : Nat → Nat → Value) (hR : mk_R R) (G : Nat → Int32 → Int32 → (Nat → Nat → Int32) → Int32 × Int32 × Int32 × (Nat → Nat → Int32)) (GQ : Nat → Int32 → Int32 → (Nat → Nat → Int32) → Prop) (hG0 : ∀ (x0 x1 : Int32) (I : Nat → Nat → Int32) (J : Nat → Nat → Int64), GQ 0 x0 x1 I → pmT g kMo_formula (d + 613) [.ref 40, .int x0] (mk_K ++ ex, R, I, J) (pt_I (mk_K ++ ex) R J (G 0 x0 x1 I))) (hG1 : ∀ (x0 x1 : Int32) (I : Nat → Nat → Int32) (J : Nat → Nat → Int64), GQ 1 x0 x1 I → pmT g kMo_either (d + 613) [.ref 40, .int x0] (mk_K ++ ex, R, I, J) (pt_I (mk_K ++ ex) R J (G 1 x0 x1 I))) (hG2 : ∀ (x0 x1 : Int32) (I : Nat → Nat → Int32) (J : Nat → Nat → Int64), GQ 2 x0 x1 I → pmT g kMo_both (d + 613) [.ref 40, .int x0] (mk_K ++ ex, R, I, J) (pt_I (mk_K ++ ex) R J (G 2 x0 x1 I))) (hG3 : ∀ (x0 x1 : Int32) (I : Nat → Nat → Int32) (J : Nat → Nat → Int64), GQ 3 x0 x1 I → pmT g kMo_single (d + 613) [.ref 40, .int x0] (mk_K ++ ex, R, I, J) (pt_I (mk_K ++ ex) R J (G 3 x0 x1 I))) (J : Nat → Nat → Int64) (o : Outcome) (Z : pmM) (rc rs : Nat)  (y1 : Int32) (y2 : Int32) (y3 : Int32) (I : Nat → Nat → Int32) (hp : pMo_single_292 G GQ y1 y2 y3 I) (hF : (o, Z, rc, rs) = pt_I (mk_K ++ ex) R J (fMo_single_292 G y1 y2 y3 I)) : pmE g kMo_single (d + 614) rc rs 292 [(0, .ref 40), (1, .int y1), (2, .int y2), (3, .int y3)] [] (mk_K ++ ex) R I J o Z := by
  unfold pMo_single_292 at hp
  refine pm_aload_n dMo_single_292 rfl ?_
  refine pm_aload_n dMo_single_293 rfl ?_
  refine pm_iload_n dMo_single_294 rfl ?_
  refine pt_callV (v2 := some (.int 0)) dMo_single_295 lMo_271 vMo_nest ⟨_, _, rfl⟩ (Mo_nest_ok _ _ _ _ hR _ _ _ hp.1) rfl rfl rfl (Nat.le_of_ble_eq_true rfl) (fun h295 => ?_) (fun h295 => hF.trans (by first | (simp only [fMo_single_292, if_neg h295]; done) | (simp only [fMo_single_292, if_neg h295]; rfl) | rfl))
  refine pm_wk [0, 1, 2, 3] rfl ?_
  exact Mo_single_n298 g d ex R hR G GQ hG0 hG1 hG2 hG3 J _ _ _ _   _ _ _ _ _ (hp.2 h295) (hF.trans (by first | (simp only [fMo_single_292, if_pos h295]; done) | (simp only [fMo_single_292, if_pos h295]; with_reducible rfl) | with_reducible rfl))
set_option maxHeartbeats 4000000 in
set_option maxRecDepth 100000 in
theorem Mo_single_n288 (g : pmG) (d : Nat) (ex : List (Nat × Nat)) (R : Nat → Nat → Value) (hR : mk_R R) (G : Nat → Int32 → Int32 → (Nat → Nat → Int32) → Int32 × Int32 × Int32 × (Nat → Nat → Int32)) (GQ : Nat → Int32 → Int32 → (Nat → Nat → Int32) → Prop) (hG0 : ∀ (x0 x1 : Int32) (I : Nat → Nat → Int32) (J : Nat → Nat → Int64), GQ 0 x0 x1 I → pmT g kMo_formula (d + 613) [.ref 40, .int x0] (mk_K ++ ex, R, I, J) (pt_I (mk_K ++ ex) R J (G 0 x0 x1 I))) (hG1 : ∀ (x0 x1 : Int32) (I : Nat → Nat → Int32) (J : Nat → Nat → Int64), GQ 1 x0 x1 I → pmT g kMo_either (d + 613) [.ref 40, .int x0] (mk_K ++ ex, R, I, J) (pt_I (mk_K ++ ex) R J (G 1 x0 x1 I))) (hG2 : ∀ (x0 x1 : Int32) (I : Nat → Nat → Int32) (J : Nat → Nat → Int64), GQ 2 x0 x1 I → pmT g kMo_both (d + 613) [.ref 40, .int x0] (mk_K ++ ex, R, I, J) (pt_I (mk_K ++ ex) R J (G 2 x0 x1 I))) (hG3 : ∀ (x0 x1 : Int32) (I : Nat → Nat → Int32) (J : Nat → Nat → Int64), GQ 3 x0 x1 I → pmT g kMo_single (d + 613) [.ref 40, .int x0] (mk_K ++ ex, R, I, J) (pt_I (mk_K ++ ex) R J (G 3 x0 x1 I))) (J : Nat → Nat → Int64) (o : Outcome) (Z : pmM) (rc rs : Nat)  (y1 : Int32) (y2 : Int32) (y3 : Int32) (I : Nat → Nat → Int32) (hp : pMo_single_288 G GQ y1 y2 y3 I) (hF : (o, Z, rc, rs) = pt_I (mk_K ++ ex) R J (fMo_single_288 G y1 y2 y3 I)) : pmE g kMo_single (d + 614) rc rs 288 [(0, .ref 40), (1, .int y1), (2, .int y2), (3, .int y3)] [] (mk_K ++ ex) R I J o Z := by
  unfold pMo_single_288 at hp
  refine pm_aload_n dMo_single_288 rfl ?_
  refine pt_callV (v2 := some (.int 0)) dMo_single_289 lMo_215 vMo_take ⟨_, _, rfl⟩ (Mo_take_ok _ _ _ _ hR  _ _ hp.1) rfl rfl rfl (Nat.le_of_ble_eq_true rfl) (fun h289 => ?_) (fun h289 => hF.trans (by first | (simp only [fMo_single_288, if_neg h289]; done) | (simp only [fMo_single_288, if_neg h289]; rfl) | rfl))
  refine pm_wk [0, 1, 2, 3] rfl ?_
  exact Mo_single_n292 g d ex R hR G GQ hG0 hG1 hG2 hG3 J _ _ _ _   _ _ _ _ (hp.2 h289) (hF.trans (by first | (simp only [fMo_single_288, if_pos h289]; done) | (simp only [fMo_single_288, if_pos h289]; with_reducible rfl) | with_reducible rfl))
set_option maxHeartbeats 4000000 in
set_option maxRecDepth 100000 in
theorem Mo_single_n331 (g : pmG) (d : Nat) (ex : List (Nat × Nat)) (R : Nat → Nat → Value) (hR : mk_R R) (G : Nat → Int32 → Int32 → (Nat → Nat → Int32) → Int32 × Int32 × Int32 × (Nat → Nat → Int32)) (GQ : Nat → Int32 → Int32 → (Nat → Nat → Int32) → Prop) (hG0 : ∀ (x0 x1 : Int32) (I : Nat → Nat → Int32) (J : Nat → Nat → Int64), GQ 0 x0 x1 I → pmT g kMo_formula (d + 613) [.ref 40, .int x0] (mk_K ++ ex, R, I, J) (pt_I (mk_K ++ ex) R J (G 0 x0 x1 I))) (hG1 : ∀ (x0 x1 : Int32) (I : Nat → Nat → Int32) (J : Nat → Nat → Int64), GQ 1 x0 x1 I → pmT g kMo_either (d + 613) [.ref 40, .int x0] (mk_K ++ ex, R, I, J) (pt_I (mk_K ++ ex) R J (G 1 x0 x1 I))) (hG2 : ∀ (x0 x1 : Int32) (I : Nat → Nat → Int32) (J : Nat → Nat → Int64), GQ 2 x0 x1 I → pmT g kMo_both (d + 613) [.ref 40, .int x0] (mk_K ++ ex, R, I, J) (pt_I (mk_K ++ ex) R J (G 2 x0 x1 I))) (hG3 : ∀ (x0 x1 : Int32) (I : Nat → Nat → Int32) (J : Nat → Nat → Int64), GQ 3 x0 x1 I → pmT g kMo_single (d + 613) [.ref 40, .int x0] (mk_K ++ ex, R, I, J) (pt_I (mk_K ++ ex) R J (G 3 x0 x1 I))) (J : Nat → Nat → Int64) (o : Outcome) (Z : pmM) (rc rs : Nat)  (y1 : Int32) (y2 : Int32) (y3 : Int32) (I : Nat → Nat → Int32) (hp : pMo_single_331 G GQ y1 y2 y3 I) (hF : (o, Z, rc, rs) = pt_I (mk_K ++ ex) R J (fMo_single_331 G y1 y2 y3 I)) : pmE g kMo_single (d + 614) rc rs 331 [(0, .ref 40), (1, .int y1), (2, .int y2), (3, .int y3)] [] (mk_K ++ ex) R I J o Z := by
  unfold pMo_single_331 at hp
  refine pm_aload_n dMo_single_331 rfl ?_
  exact pt_cant (v2 := some (.int 0)) dMo_single_332 lMo_211 vMo_cant ⟨_, _, rfl⟩ (Mo_cant_ok _ _ _ _ hR _ _ hp) dMo_single_335 rfl (by decide +kernel) (Nat.le_of_ble_eq_true rfl) (fMo_cant_ne _) (hF.trans (by first | (simp only [fMo_single_331]; done) | (simp only [fMo_single_331]; rfl) | rfl))
set_option maxHeartbeats 4000000 in
set_option maxRecDepth 100000 in
theorem Mo_single_n358 (g : pmG) (d : Nat) (ex : List (Nat × Nat)) (R : Nat → Nat → Value) (hR : mk_R R) (G : Nat → Int32 → Int32 → (Nat → Nat → Int32) → Int32 × Int32 × Int32 × (Nat → Nat → Int32)) (GQ : Nat → Int32 → Int32 → (Nat → Nat → Int32) → Prop) (hG0 : ∀ (x0 x1 : Int32) (I : Nat → Nat → Int32) (J : Nat → Nat → Int64), GQ 0 x0 x1 I → pmT g kMo_formula (d + 613) [.ref 40, .int x0] (mk_K ++ ex, R, I, J) (pt_I (mk_K ++ ex) R J (G 0 x0 x1 I))) (hG1 : ∀ (x0 x1 : Int32) (I : Nat → Nat → Int32) (J : Nat → Nat → Int64), GQ 1 x0 x1 I → pmT g kMo_either (d + 613) [.ref 40, .int x0] (mk_K ++ ex, R, I, J) (pt_I (mk_K ++ ex) R J (G 1 x0 x1 I))) (hG2 : ∀ (x0 x1 : Int32) (I : Nat → Nat → Int32) (J : Nat → Nat → Int64), GQ 2 x0 x1 I → pmT g kMo_both (d + 613) [.ref 40, .int x0] (mk_K ++ ex, R, I, J) (pt_I (mk_K ++ ex) R J (G 2 x0 x1 I))) (hG3 : ∀ (x0 x1 : Int32) (I : Nat → Nat → Int32) (J : Nat → Nat → Int64), GQ 3 x0 x1 I → pmT g kMo_single (d + 613) [.ref 40, .int x0] (mk_K ++ ex, R, I, J) (pt_I (mk_K ++ ex) R J (G 3 x0 x1 I))) (J : Nat → Nat → Int64) (o : Outcome) (Z : pmM) (rc rs : Nat)  (y1 : Int32) (y2 : Int32) (y3 : Int32) (y4 : Int32) (I : Nat → Nat → Int32) (hp : pMo_single_358 G GQ y1 y2 y3 y4 I) (hF : (o, Z, rc, rs) = pt_I (mk_K ++ ex) R J (fMo_single_358 G y1 y2 y3 y4 I)) : pmE g kMo_single (d + 614) rc rs 358 [(0, .ref 40), (1, .int y1), (2, .int y2), (3, .int y3), (4, .int y4)] [] (mk_K ++ ex) R I J o Z := by
  unfold pMo_single_358 at hp
  refine pt_wr (e := 2) (w := (I 40 7)) (v2 := some (.int 0)) dMo_single_358 dMo_single_361 nMo_187 (by decide) (hF.trans (by first | (simp only [fMo_single_358]; done) | (simp only [fMo_single_358]; rfl) | rfl)) ?_
  refine pm_iconst (v := 2) dMo_single_362 (by decide) ?_
  refine pm_aload_n dMo_single_363 rfl ?_
  refine pm_geti dMo_single_364 fMo_33 rfl ?_
  refine pm_eqi (I 40 7) (congrFun (pm_z_n _ _ (mk_ne ex)) _) ?_
  exact pt_wi dMo_single_367 lMo_189 dMo_single_370 (by decide +kernel) (Nat.le_of_ble_eq_true rfl)
set_option maxHeartbeats 4000000 in
set_option maxRecDepth 100000 in
theorem Mo_single_n375 (g : pmG) (d : Nat) (ex : List (Nat × Nat)) (R : Nat → Nat → Value) (hR : mk_R R) (G : Nat → Int32 → Int32 → (Nat → Nat → Int32) → Int32 × Int32 × Int32 × (Nat → Nat → Int32)) (GQ : Nat → Int32 → Int32 → (Nat → Nat → Int32) → Prop) (hG0 : ∀ (x0 x1 : Int32) (I : Nat → Nat → Int32) (J : Nat → Nat → Int64), GQ 0 x0 x1 I → pmT g kMo_formula (d + 613) [.ref 40, .int x0] (mk_K ++ ex, R, I, J) (pt_I (mk_K ++ ex) R J (G 0 x0 x1 I))) (hG1 : ∀ (x0 x1 : Int32) (I : Nat → Nat → Int32) (J : Nat → Nat → Int64), GQ 1 x0 x1 I → pmT g kMo_either (d + 613) [.ref 40, .int x0] (mk_K ++ ex, R, I, J) (pt_I (mk_K ++ ex) R J (G 1 x0 x1 I))) (hG2 : ∀ (x0 x1 : Int32) (I : Nat → Nat → Int32) (J : Nat → Nat → Int64), GQ 2 x0 x1 I → pmT g kMo_both (d + 613) [.ref 40, .int x0] (mk_K ++ ex, R, I, J) (pt_I (mk_K ++ ex) R J (G 2 x0 x1 I))) (hG3 : ∀ (x0 x1 : Int32) (I : Nat → Nat → Int32) (J : Nat → Nat → Int64), GQ 3 x0 x1 I → pmT g kMo_single (d + 613) [.ref 40, .int x0] (mk_K ++ ex, R, I, J) (pt_I (mk_K ++ ex) R J (G 3 x0 x1 I))) (J : Nat → Nat → Int64) (o : Outcome) (Z : pmM) (rc rs : Nat)  (y1 : Int32) (y2 : Int32) (y3 : Int32) (y4 : Int32) (I : Nat → Nat → Int32) (hp : pMo_single_375 G GQ y1 y2 y3 y4 I) (hF : (o, Z, rc, rs) = pt_I (mk_K ++ ex) R J (fMo_single_375 G y1 y2 y3 y4 I)) : pmE g kMo_single (d + 614) rc rs 375 [(0, .ref 40), (1, .int y1), (2, .int y2), (3, .int y3), (4, .int y4)] [] (mk_K ++ ex) R I J o Z := by
  unfold pMo_single_375 at hp
  refine pm_aload_n dMo_single_375 rfl ?_
  refine pm_bipush (v := 13) dMo_single_376 (by decide) ?_
  refine pm_aload_n dMo_single_378 rfl ?_
  refine pm_getr dMo_single_379 fMo_59 rfl (rr_40_15 hR) ?_
  refine pm_iload dMo_single_382 rfl ?_
  refine pm_iald dMo_single_384 rfl hp.1 ?_
  refine pm_iconst (v := 0) dMo_single_385 (by decide) ?_
  refine pm_callV dMo_single_386 lMo_303 vMo_make ⟨_, _, rfl⟩ (Mo_make_ok _ _ _ _ hR _ _ _ _ _ hp.2.1) rfl rfl rfl (Nat.le_of_ble_eq_true rfl) (Nat.le_refl _) (Nat.le_refl _) ?_
  exact pt_iret dMo_single_389 rfl (hF.trans (by first | (simp only [fMo_single_375]; done) | (simp only [fMo_single_375]; rfl) | rfl))
set_option maxHeartbeats 4000000 in
set_option maxRecDepth 100000 in
theorem Mo_single_n328 (g : pmG) (d : Nat) (ex : List (Nat × Nat)) (R : Nat → Nat → Value) (hR : mk_R R) (G : Nat → Int32 → Int32 → (Nat → Nat → Int32) → Int32 × Int32 × Int32 × (Nat → Nat → Int32)) (GQ : Nat → Int32 → Int32 → (Nat → Nat → Int32) → Prop) (hG0 : ∀ (x0 x1 : Int32) (I : Nat → Nat → Int32) (J : Nat → Nat → Int64), GQ 0 x0 x1 I → pmT g kMo_formula (d + 613) [.ref 40, .int x0] (mk_K ++ ex, R, I, J) (pt_I (mk_K ++ ex) R J (G 0 x0 x1 I))) (hG1 : ∀ (x0 x1 : Int32) (I : Nat → Nat → Int32) (J : Nat → Nat → Int64), GQ 1 x0 x1 I → pmT g kMo_either (d + 613) [.ref 40, .int x0] (mk_K ++ ex, R, I, J) (pt_I (mk_K ++ ex) R J (G 1 x0 x1 I))) (hG2 : ∀ (x0 x1 : Int32) (I : Nat → Nat → Int32) (J : Nat → Nat → Int64), GQ 2 x0 x1 I → pmT g kMo_both (d + 613) [.ref 40, .int x0] (mk_K ++ ex, R, I, J) (pt_I (mk_K ++ ex) R J (G 2 x0 x1 I))) (hG3 : ∀ (x0 x1 : Int32) (I : Nat → Nat → Int32) (J : Nat → Nat → Int64), GQ 3 x0 x1 I → pmT g kMo_single (d + 613) [.ref 40, .int x0] (mk_K ++ ex, R, I, J) (pt_I (mk_K ++ ex) R J (G 3 x0 x1 I))) (J : Nat → Nat → Int64) (o : Outcome) (Z : pmM) (rc rs : Nat)  (y1 : Int32) (y2 : Int32) (y3 : Int32) (z0 : Int32) (I : Nat → Nat → Int32) (hp : pMo_single_328 G GQ y1 y2 y3 z0 I) (hF : (o, Z, rc, rs) = pt_I (mk_K ++ ex) R J (fMo_single_328 G y1 y2 y3 z0 I)) : pmE g kMo_single (d + 614) rc rs 328 [(0, .ref 40), (1, .int y1), (2, .int y2), (3, .int y3)] [.int z0] (mk_K ++ ex) R I J o Z := by
  unfold pMo_single_328 at hp
  refine pm_if_eq 336 dMo_single_328 (by decide) (fun h328 => ?_) (fun h328 => ?_)
  ·
    refine pm_aload_n dMo_single_336 rfl ?_
    refine pm_callV dMo_single_337 lMo_261 vMo_named ⟨_, _, rfl⟩ (Mo_named_ok _ _ _ _ hR _ _ _ _ (hp.1 h328).1) rfl rfl rfl (Nat.le_of_ble_eq_true rfl) (Nat.le_refl _) (Nat.le_refl _) ?_
    refine pm_istore dMo_single_340 (by decide) rfl ?_
    refine pm_iload dMo_single_342 rfl ?_
    refine pm_if_lt 358 dMo_single_344 (by decide) (fun h344 => ?_) (fun h344 => ?_)
    ·
      refine pm_wk [1, 2, 3, 4, 0] rfl ?_
      exact Mo_single_n358 g d ex R hR G GQ hG0 hG1 hG2 hG3 J _ _ _ _   _ _ _ _ _ ((hp.1 h328).2.1 h344) (hF.trans (by first | (simp only [fMo_single_328, if_pos h328, if_pos h344]; done) | (simp only [fMo_single_328, if_pos h328, if_pos h344]; with_reducible rfl) | with_reducible rfl))
    ·
      refine pm_aload_n dMo_single_347 rfl ?_
      refine pm_getr dMo_single_348 fMo_56 rfl (rr_40_14 hR) ?_
      refine pm_iload dMo_single_351 rfl ?_
      refine pm_iald dMo_single_353 rfl ((hp.1 h328).2.2 h344).1 ?_
      refine pm_iconst (v := 4) dMo_single_354 (by decide) ?_
      refine pm_icmp_eq 371 dMo_single_355 (by decide) (fun h355 => ?_) (fun h355 => ?_)
      ·
        refine pm_aload_n dMo_single_371 rfl ?_
        refine pt_callV (v2 := some (.int 0)) dMo_single_372 lMo_215 vMo_take ⟨_, _, rfl⟩ (Mo_take_ok _ _ _ _ hR  _ _ (((hp.1 h328).2.2 h344).2.1 h355).1) rfl rfl rfl (Nat.le_of_ble_eq_true rfl) (fun h372 => ?_) (fun h372 => hF.trans (by first | (simp only [fMo_single_328, if_pos h328, if_neg h344, if_pos h355, if_neg h372]; done) | (simp only [fMo_single_328, if_pos h328, if_neg h344, if_pos h355, if_neg h372]; rfl) | rfl))
        refine pm_wk [1, 2, 3, 4, 0] rfl ?_
        exact Mo_single_n375 g d ex R hR G GQ hG0 hG1 hG2 hG3 J _ _ _ _   _ _ _ _ _ ((((hp.1 h328).2.2 h344).2.1 h355).2 h372) (hF.trans (by first | (simp only [fMo_single_328, if_pos h328, if_neg h344, if_pos h355, if_pos h372]; done) | (simp only [fMo_single_328, if_pos h328, if_neg h344, if_pos h355, if_pos h372]; with_reducible rfl) | with_reducible rfl))
      ·
        refine pm_wk [1, 2, 3, 4, 0] rfl ?_
        exact Mo_single_n358 g d ex R hR G GQ hG0 hG1 hG2 hG3 J _ _ _ _   _ _ _ _ _ (((hp.1 h328).2.2 h344).2.2 h355) (hF.trans (by first | (simp only [fMo_single_328, if_pos h328, if_neg h344, if_neg h355]; done) | (simp only [fMo_single_328, if_pos h328, if_neg h344, if_neg h355]; with_reducible rfl) | with_reducible rfl))
  ·
    refine pm_wk [0, 1, 2, 3] rfl ?_
    exact Mo_single_n331 g d ex R hR G GQ hG0 hG1 hG2 hG3 J _ _ _ _   _ _ _ _ (hp.2 h328) (hF.trans (by first | (simp only [fMo_single_328, if_neg h328]; done) | (simp only [fMo_single_328, if_neg h328]; with_reducible rfl) | with_reducible rfl))
set_option maxHeartbeats 4000000 in
set_option maxRecDepth 100000 in
theorem Mo_single_n154 (g : pmG) (d : Nat) (ex : List (Nat × Nat)) (R : Nat → Nat → Value) (hR : mk_R R) (G : Nat → Int32 → Int32 → (Nat → Nat → Int32) → Int32 × Int32 × Int32 × (Nat → Nat → Int32)) (GQ : Nat → Int32 → Int32 → (Nat → Nat → Int32) → Prop) (hG0 : ∀ (x0 x1 : Int32) (I : Nat → Nat → Int32) (J : Nat → Nat → Int64), GQ 0 x0 x1 I → pmT g kMo_formula (d + 613) [.ref 40, .int x0] (mk_K ++ ex, R, I, J) (pt_I (mk_K ++ ex) R J (G 0 x0 x1 I))) (hG1 : ∀ (x0 x1 : Int32) (I : Nat → Nat → Int32) (J : Nat → Nat → Int64), GQ 1 x0 x1 I → pmT g kMo_either (d + 613) [.ref 40, .int x0] (mk_K ++ ex, R, I, J) (pt_I (mk_K ++ ex) R J (G 1 x0 x1 I))) (hG2 : ∀ (x0 x1 : Int32) (I : Nat → Nat → Int32) (J : Nat → Nat → Int64), GQ 2 x0 x1 I → pmT g kMo_both (d + 613) [.ref 40, .int x0] (mk_K ++ ex, R, I, J) (pt_I (mk_K ++ ex) R J (G 2 x0 x1 I))) (hG3 : ∀ (x0 x1 : Int32) (I : Nat → Nat → Int32) (J : Nat → Nat → Int64), GQ 3 x0 x1 I → pmT g kMo_single (d + 613) [.ref 40, .int x0] (mk_K ++ ex, R, I, J) (pt_I (mk_K ++ ex) R J (G 3 x0 x1 I))) (J : Nat → Nat → Int64) (o : Outcome) (Z : pmM) (rc rs : Nat)  (y1 : Int32) (y2 : Int32) (y3 : Int32) (z0 : Int32) (I : Nat → Nat → Int32) (hp : pMo_single_154 G GQ y1 y2 y3 z0 I) (hF : (o, Z, rc, rs) = pt_I (mk_K ++ ex) R J (fMo_single_154 G y1 y2 y3 z0 I)) : pmE g kMo_single (d + 614) rc rs 154 [(0, .ref 40), (1, .int y1), (2, .int y2), (3, .int y3)] [.int z0] (mk_K ++ ex) R I J o Z := by
  unfold pMo_single_154 at hp
  refine pm_if_eq 246 dMo_single_154 (by decide) (fun h154 => ?_) (fun h154 => ?_)
  ·
    refine pm_iload_n dMo_single_246 rfl ?_
    refine pm_bipush (v := 40) dMo_single_247 (by decide) ?_
    refine pm_icmp_ne 276 dMo_single_249 (by decide) (fun h249 => ?_) (fun h249 => ?_)
    ·
      refine pm_iload_n dMo_single_276 rfl ?_
      refine pm_bipush (v := 123) dMo_single_277 (by decide) ?_
      refine pm_icmp_ne 319 dMo_single_279 (by decide) (fun h279 => ?_) (fun h279 => ?_)
      ·
        refine pm_iload_n dMo_single_319 rfl ?_
        refine pm_iconst (v := 1) dMo_single_320 (by decide) ?_
        refine pm_icmp_ne 331 dMo_single_321 (by decide) (fun h321 => ?_) (fun h321 => ?_)
        ·
          refine pm_wk [0, 1, 2, 3] rfl ?_
          exact Mo_single_n331 g d ex R hR G GQ hG0 hG1 hG2 hG3 J _ _ _ _   _ _ _ _ ((((hp.1 h154).2 h249).2 h279).2 h321) (hF.trans (by first | (simp only [fMo_single_154, if_pos h154, if_neg h249, if_neg h279, if_neg h321]; done) | (simp only [fMo_single_154, if_pos h154, if_neg h249, if_neg h279, if_neg h321]; with_reducible rfl) | with_reducible rfl))
        ·
          refine pm_aload_n dMo_single_324 rfl ?_
          refine pt_callV (v2 := some (.int 0)) dMo_single_325 lMo_257 vMo_reserved ⟨_, _, rfl⟩ (Mo_reserved_ok _ _ _ _ hR  _ _ ((((hp.1 h154).2 h249).2 h279).1 h321).1) rfl rfl rfl (Nat.le_of_ble_eq_true rfl) (fun h325 => ?_) (fun h325 => hF.trans (by first | (simp only [fMo_single_154, if_pos h154, if_neg h249, if_neg h279, if_pos h321, if_neg h325]; done) | (simp only [fMo_single_154, if_pos h154, if_neg h249, if_neg h279, if_pos h321, if_neg h325]; rfl) | rfl))
          refine pm_wk [0, 1, 2, 3] rfl ?_
          exact Mo_single_n328 g d ex R hR G GQ hG0 hG1 hG2 hG3 J _ _ _ _   _ _ _ _ _ (((((hp.1 h154).2 h249).2 h279).1 h321).2 h325) (hF.trans (by first | (simp only [fMo_single_154, if_pos h154, if_neg h249, if_neg h279, if_pos h321, if_pos h325]; done) | (simp only [fMo_single_154, if_pos h154, if_neg h249, if_neg h279, if_pos h321, if_pos h325]; with_reducible rfl) | with_reducible rfl))
      ·
        refine pm_aload_n dMo_single_282 rfl ?_
        refine pm_bipush (v := 8) dMo_single_283 (by decide) ?_
        refine pt_callV (v2 := some (.int 0)) dMo_single_285 lMo_267 vMo_pays ⟨_, _, rfl⟩ (Mo_pays_ok _ _ _ _ hR _ _ _ (((hp.1 h154).2 h249).1 h279).1) rfl rfl rfl (Nat.le_of_ble_eq_true rfl) (fun h285 => ?_) (fun h285 => hF.trans (by first | (simp only [fMo_single_154, if_pos h154, if_neg h249, if_pos h279, if_neg h285]; done) | (simp only [fMo_single_154, if_pos h154, if_neg h249, if_pos h279, if_neg h285]; rfl) | rfl))
        refine pm_wk [0, 1, 2, 3] rfl ?_
        exact Mo_single_n288 g d ex R hR G GQ hG0 hG1 hG2 hG3 J _ _ _ _   _ _ _ _ ((((hp.1 h154).2 h249).1 h279).2 h285) (hF.trans (by first | (simp only [fMo_single_154, if_pos h154, if_neg h249, if_pos h279, if_pos h285]; done) | (simp only [fMo_single_154, if_pos h154, if_neg h249, if_pos h279, if_pos h285]; with_reducible rfl) | with_reducible rfl))
    ·
      refine pm_aload_n dMo_single_252 rfl ?_
      refine pt_callV (v2 := some (.int 0)) dMo_single_253 lMo_215 vMo_take ⟨_, _, rfl⟩ (Mo_take_ok _ _ _ _ hR  _ _ ((hp.1 h154).1 h249).1) rfl rfl rfl (Nat.le_of_ble_eq_true rfl) (fun h253 => ?_) (fun h253 => hF.trans (by first | (simp only [fMo_single_154, if_pos h154, if_pos h249, if_neg h253]; done) | (simp only [fMo_single_154, if_pos h154, if_pos h249, if_neg h253]; rfl) | rfl))
      refine pm_wk [0, 1, 2, 3] rfl ?_
      exact Mo_single_n256 g d ex R hR G GQ hG0 hG1 hG2 hG3 J _ _ _ _   _ _ _ _ (((hp.1 h154).1 h249).2 h253) (hF.trans (by first | (simp only [fMo_single_154, if_pos h154, if_pos h249, if_pos h253]; done) | (simp only [fMo_single_154, if_pos h154, if_pos h249, if_pos h253]; with_reducible rfl) | with_reducible rfl))
  ·
    refine pm_wk [0, 1, 2, 3] rfl ?_
    exact Mo_single_n157 g d ex R hR G GQ hG0 hG1 hG2 hG3 J _ _ _ _   _ _ _ _ (hp.2 h154) (hF.trans (by first | (simp only [fMo_single_154, if_neg h154]; done) | (simp only [fMo_single_154, if_neg h154]; with_reducible rfl) | with_reducible rfl))
set_option maxHeartbeats 4000000 in
set_option maxRecDepth 100000 in
theorem Mo_single_n145 (g : pmG) (d : Nat) (ex : List (Nat × Nat)) (R : Nat → Nat → Value) (hR : mk_R R) (G : Nat → Int32 → Int32 → (Nat → Nat → Int32) → Int32 × Int32 × Int32 × (Nat → Nat → Int32)) (GQ : Nat → Int32 → Int32 → (Nat → Nat → Int32) → Prop) (hG0 : ∀ (x0 x1 : Int32) (I : Nat → Nat → Int32) (J : Nat → Nat → Int64), GQ 0 x0 x1 I → pmT g kMo_formula (d + 613) [.ref 40, .int x0] (mk_K ++ ex, R, I, J) (pt_I (mk_K ++ ex) R J (G 0 x0 x1 I))) (hG1 : ∀ (x0 x1 : Int32) (I : Nat → Nat → Int32) (J : Nat → Nat → Int64), GQ 1 x0 x1 I → pmT g kMo_either (d + 613) [.ref 40, .int x0] (mk_K ++ ex, R, I, J) (pt_I (mk_K ++ ex) R J (G 1 x0 x1 I))) (hG2 : ∀ (x0 x1 : Int32) (I : Nat → Nat → Int32) (J : Nat → Nat → Int64), GQ 2 x0 x1 I → pmT g kMo_both (d + 613) [.ref 40, .int x0] (mk_K ++ ex, R, I, J) (pt_I (mk_K ++ ex) R J (G 2 x0 x1 I))) (hG3 : ∀ (x0 x1 : Int32) (I : Nat → Nat → Int32) (J : Nat → Nat → Int64), GQ 3 x0 x1 I → pmT g kMo_single (d + 613) [.ref 40, .int x0] (mk_K ++ ex, R, I, J) (pt_I (mk_K ++ ex) R J (G 3 x0 x1 I))) (J : Nat → Nat → Int64) (o : Outcome) (Z : pmM) (rc rs : Nat)  (y1 : Int32) (y2 : Int32) (y3 : Int32) (z0 : Int32) (I : Nat → Nat → Int32) (hp : pMo_single_145 G GQ y1 y2 y3 z0 I) (hF : (o, Z, rc, rs) = pt_I (mk_K ++ ex) R J (fMo_single_145 G y1 y2 y3 z0 I)) : pmE g kMo_single (d + 614) rc rs 145 [(0, .ref 40), (1, .int y1), (2, .int y2), (3, .int y3)] [.int z0] (mk_K ++ ex) R I J o Z := by
  unfold pMo_single_145 at hp
  refine pm_if_ne 157 dMo_single_145 (by decide) (fun h145 => ?_) (fun h145 => ?_)
  ·
    refine pm_wk [0, 1, 2, 3] rfl ?_
    exact Mo_single_n157 g d ex R hR G GQ hG0 hG1 hG2 hG3 J _ _ _ _   _ _ _ _ (hp.2 h145) (hF.trans (by first | (simp only [fMo_single_145, if_neg h145]; done) | (simp only [fMo_single_145, if_neg h145]; with_reducible rfl) | with_reducible rfl))
  ·
    refine pm_aload_n dMo_single_148 rfl ?_
    refine pm_ldcS dMo_single_149 zMo_241 ?_
    refine pt_callV (v2 := some (.int 0)) dMo_single_151 lMo_229 vMo_is ⟨_, _, rfl⟩ (Mo_is_23_ok _ _ _ _ hR _ _ _ (hp.1 h145).1) rfl rfl rfl (Nat.le_of_ble_eq_true rfl) (fun h151 => ?_) (fun h151 => hF.trans (by first | (simp only [fMo_single_145, if_pos h145, if_neg h151]; done) | (simp only [fMo_single_145, if_pos h145, if_neg h151]; rfl) | rfl))
    refine pm_wk [0, 1, 2, 3] rfl ?_
    exact Mo_single_n154 g d ex R hR G GQ hG0 hG1 hG2 hG3 J _ _ _ _   _ _ _ _ _ ((hp.1 h145).2 h151) (hF.trans (by first | (simp only [fMo_single_145, if_pos h145, if_pos h151]; done) | (simp only [fMo_single_145, if_pos h145, if_pos h151]; with_reducible rfl) | with_reducible rfl))
set_option maxHeartbeats 4000000 in
set_option maxRecDepth 100000 in
theorem Mo_single_n114 (g : pmG) (d : Nat) (ex : List (Nat × Nat)) (R : Nat → Nat → Value) (hR : mk_R R) (G : Nat → Int32 → Int32 → (Nat → Nat → Int32) → Int32 × Int32 × Int32 × (Nat → Nat → Int32)) (GQ : Nat → Int32 → Int32 → (Nat → Nat → Int32) → Prop) (hG0 : ∀ (x0 x1 : Int32) (I : Nat → Nat → Int32) (J : Nat → Nat → Int64), GQ 0 x0 x1 I → pmT g kMo_formula (d + 613) [.ref 40, .int x0] (mk_K ++ ex, R, I, J) (pt_I (mk_K ++ ex) R J (G 0 x0 x1 I))) (hG1 : ∀ (x0 x1 : Int32) (I : Nat → Nat → Int32) (J : Nat → Nat → Int64), GQ 1 x0 x1 I → pmT g kMo_either (d + 613) [.ref 40, .int x0] (mk_K ++ ex, R, I, J) (pt_I (mk_K ++ ex) R J (G 1 x0 x1 I))) (hG2 : ∀ (x0 x1 : Int32) (I : Nat → Nat → Int32) (J : Nat → Nat → Int64), GQ 2 x0 x1 I → pmT g kMo_both (d + 613) [.ref 40, .int x0] (mk_K ++ ex, R, I, J) (pt_I (mk_K ++ ex) R J (G 2 x0 x1 I))) (hG3 : ∀ (x0 x1 : Int32) (I : Nat → Nat → Int32) (J : Nat → Nat → Int64), GQ 3 x0 x1 I → pmT g kMo_single (d + 613) [.ref 40, .int x0] (mk_K ++ ex, R, I, J) (pt_I (mk_K ++ ex) R J (G 3 x0 x1 I))) (J : Nat → Nat → Int64) (o : Outcome) (Z : pmM) (rc rs : Nat)  (y1 : Int32) (y2 : Int32) (z0 : Int32) (I : Nat → Nat → Int32) (hp : pMo_single_114 G GQ y1 y2 z0 I) (hF : (o, Z, rc, rs) = pt_I (mk_K ++ ex) R J (fMo_single_114 G y1 y2 z0 I)) : pmE g kMo_single (d + 614) rc rs 114 [(0, .ref 40), (1, .int y1), (2, .int y2)] [.int z0] (mk_K ++ ex) R I J o Z := by
  unfold pMo_single_114 at hp
  refine pm_istore_n dMo_single_114 (by decide) rfl ?_
  refine pm_iload_n dMo_single_115 rfl ?_
  refine pm_if_le 139 dMo_single_116 (by decide) (fun h116 => ?_) (fun h116 => ?_)
  ·
    refine pm_aload_n dMo_single_139 rfl ?_
    refine pm_ldcS dMo_single_140 zMo_239 ?_
    refine pt_callV (v2 := some (.int 0)) dMo_single_142 lMo_229 vMo_is ⟨_, _, rfl⟩ (Mo_is_22_ok _ _ _ _ hR _ _ _ (hp.1 h116).1) rfl rfl rfl (Nat.le_of_ble_eq_true rfl) (fun h142 => ?_) (fun h142 => hF.trans (by first | (simp only [fMo_single_114, if_pos h116, if_neg h142]; done) | (simp only [fMo_single_114, if_pos h116, if_neg h142]; rfl) | rfl))
    refine pm_wk [1, 2, 3, 0] rfl ?_
    exact Mo_single_n145 g d ex R hR G GQ hG0 hG1 hG2 hG3 J _ _ _ _   _ _ _ _ _ ((hp.1 h116).2 h142) (hF.trans (by first | (simp only [fMo_single_114, if_pos h116, if_pos h142]; done) | (simp only [fMo_single_114, if_pos h116, if_pos h142]; with_reducible rfl) | with_reducible rfl))
  ·
    refine pm_aload_n dMo_single_119 rfl ?_
    refine pt_callV (v2 := some (.int 0)) dMo_single_120 lMo_215 vMo_take ⟨_, _, rfl⟩ (Mo_take_ok _ _ _ _ hR  _ _ (hp.2 h116).1) rfl rfl rfl (Nat.le_of_ble_eq_true rfl) (fun h120 => ?_) (fun h120 => hF.trans (by first | (simp only [fMo_single_114, if_neg h116, if_neg h120]; done) | (simp only [fMo_single_114, if_neg h116, if_neg h120]; rfl) | rfl))
    refine pm_wk [1, 2, 3, 0] rfl ?_
    exact Mo_single_n123 g d ex R hR G GQ hG0 hG1 hG2 hG3 J _ _ _ _   _ _ _ _ ((hp.2 h116).2 h120) (hF.trans (by first | (simp only [fMo_single_114, if_neg h116, if_pos h120]; done) | (simp only [fMo_single_114, if_neg h116, if_pos h120]; with_reducible rfl) | with_reducible rfl))
set_option maxHeartbeats 4000000 in
set_option maxRecDepth 100000 in
theorem Mo_single_n105 (g : pmG) (d : Nat) (ex : List (Nat × Nat)) (R : Nat → Nat → Value) (hR : mk_R R) (G : Nat → Int32 → Int32 → (Nat → Nat → Int32) → Int32 × Int32 × Int32 × (Nat → Nat → Int32)) (GQ : Nat → Int32 → Int32 → (Nat → Nat → Int32) → Prop) (hG0 : ∀ (x0 x1 : Int32) (I : Nat → Nat → Int32) (J : Nat → Nat → Int64), GQ 0 x0 x1 I → pmT g kMo_formula (d + 613) [.ref 40, .int x0] (mk_K ++ ex, R, I, J) (pt_I (mk_K ++ ex) R J (G 0 x0 x1 I))) (hG1 : ∀ (x0 x1 : Int32) (I : Nat → Nat → Int32) (J : Nat → Nat → Int64), GQ 1 x0 x1 I → pmT g kMo_either (d + 613) [.ref 40, .int x0] (mk_K ++ ex, R, I, J) (pt_I (mk_K ++ ex) R J (G 1 x0 x1 I))) (hG2 : ∀ (x0 x1 : Int32) (I : Nat → Nat → Int32) (J : Nat → Nat → Int64), GQ 2 x0 x1 I → pmT g kMo_both (d + 613) [.ref 40, .int x0] (mk_K ++ ex, R, I, J) (pt_I (mk_K ++ ex) R J (G 2 x0 x1 I))) (hG3 : ∀ (x0 x1 : Int32) (I : Nat → Nat → Int32) (J : Nat → Nat → Int64), GQ 3 x0 x1 I → pmT g kMo_single (d + 613) [.ref 40, .int x0] (mk_K ++ ex, R, I, J) (pt_I (mk_K ++ ex) R J (G 3 x0 x1 I))) (J : Nat → Nat → Int64) (o : Outcome) (Z : pmM) (rc rs : Nat)  (y1 : Int32) (y2 : Int32) (z0 : Int32) (I : Nat → Nat → Int32) (hp : pMo_single_105 G GQ y1 y2 z0 I) (hF : (o, Z, rc, rs) = pt_I (mk_K ++ ex) R J (fMo_single_105 G y1 y2 z0 I)) : pmE g kMo_single (d + 614) rc rs 105 [(0, .ref 40), (1, .int y1), (2, .int y2)] [.int z0] (mk_K ++ ex) R I J o Z := by
  unfold pMo_single_105 at hp
  refine pm_if_eq 113 dMo_single_105 (by decide) (fun h105 => ?_) (fun h105 => ?_)
  ·
    refine pm_iconst (v := 0) dMo_single_113 (by decide) ?_
    refine pm_wk [0, 1, 2] rfl ?_
    exact Mo_single_n114 g d ex R hR G GQ hG0 hG1 hG2 hG3 J _ _ _ _   _ _ _ _ (hp.1 h105) (hF.trans (by first | (simp only [fMo_single_105, if_pos h105]; done) | (simp only [fMo_single_105, if_pos h105]; with_reducible rfl) | with_reducible rfl))
  ·
    refine pm_bipush (v := 10) dMo_single_108 (by decide) ?_
    refine pm_goto 114 dMo_single_110 (by decide) ?_
    refine pm_wk [0, 1, 2] rfl ?_
    exact Mo_single_n114 g d ex R hR G GQ hG0 hG1 hG2 hG3 J _ _ _ _   _ _ _ _ (hp.2 h105) (hF.trans (by first | (simp only [fMo_single_105, if_neg h105]; done) | (simp only [fMo_single_105, if_neg h105]; with_reducible rfl) | with_reducible rfl))
set_option maxHeartbeats 4000000 in
set_option maxRecDepth 100000 in
theorem Mo_single_n91 (g : pmG) (d : Nat) (ex : List (Nat × Nat)) (R : Nat → Nat → Value) (hR : mk_R R) (G : Nat → Int32 → Int32 → (Nat → Nat → Int32) → Int32 × Int32 × Int32 × (Nat → Nat → Int32)) (GQ : Nat → Int32 → Int32 → (Nat → Nat → Int32) → Prop) (hG0 : ∀ (x0 x1 : Int32) (I : Nat → Nat → Int32) (J : Nat → Nat → Int64), GQ 0 x0 x1 I → pmT g kMo_formula (d + 613) [.ref 40, .int x0] (mk_K ++ ex, R, I, J) (pt_I (mk_K ++ ex) R J (G 0 x0 x1 I))) (hG1 : ∀ (x0 x1 : Int32) (I : Nat → Nat → Int32) (J : Nat → Nat → Int64), GQ 1 x0 x1 I → pmT g kMo_either (d + 613) [.ref 40, .int x0] (mk_K ++ ex, R, I, J) (pt_I (mk_K ++ ex) R J (G 1 x0 x1 I))) (hG2 : ∀ (x0 x1 : Int32) (I : Nat → Nat → Int32) (J : Nat → Nat → Int64), GQ 2 x0 x1 I → pmT g kMo_both (d + 613) [.ref 40, .int x0] (mk_K ++ ex, R, I, J) (pt_I (mk_K ++ ex) R J (G 2 x0 x1 I))) (hG3 : ∀ (x0 x1 : Int32) (I : Nat → Nat → Int32) (J : Nat → Nat → Int64), GQ 3 x0 x1 I → pmT g kMo_single (d + 613) [.ref 40, .int x0] (mk_K ++ ex, R, I, J) (pt_I (mk_K ++ ex) R J (G 3 x0 x1 I))) (J : Nat → Nat → Int64) (o : Outcome) (Z : pmM) (rc rs : Nat)  (y1 : Int32) (y2 : Int32) (z0 : Int32) (I : Nat → Nat → Int32) (hp : pMo_single_91 G GQ y1 y2 z0 I) (hF : (o, Z, rc, rs) = pt_I (mk_K ++ ex) R J (fMo_single_91 G y1 y2 z0 I)) : pmE g kMo_single (d + 614) rc rs 91 [(0, .ref 40), (1, .int y1), (2, .int y2)] [.int z0] (mk_K ++ ex) R I J o Z := by
  unfold pMo_single_91 at hp
  refine pm_if_eq 99 dMo_single_91 (by decide) (fun h91 => ?_) (fun h91 => ?_)
  ·
    refine pm_aload_n dMo_single_99 rfl ?_
    refine pm_ldcS dMo_single_100 zMo_255 ?_
    refine pt_callV (v2 := some (.int 0)) dMo_single_102 lMo_229 vMo_is ⟨_, _, rfl⟩ (Mo_is_30_ok _ _ _ _ hR _ _ _ (hp.1 h91).1) rfl rfl rfl (Nat.le_of_ble_eq_true rfl) (fun h102 => ?_) (fun h102 => hF.trans (by first | (simp only [fMo_single_91, if_pos h91, if_neg h102]; done) | (simp only [fMo_single_91, if_pos h91, if_neg h102]; rfl) | rfl))
    refine pm_wk [0, 1, 2] rfl ?_
    exact Mo_single_n105 g d ex R hR G GQ hG0 hG1 hG2 hG3 J _ _ _ _   _ _ _ _ ((hp.1 h91).2 h102) (hF.trans (by first | (simp only [fMo_single_91, if_pos h91, if_pos h102]; done) | (simp only [fMo_single_91, if_pos h91, if_pos h102]; with_reducible rfl) | with_reducible rfl))
  ·
    refine pm_bipush (v := 11) dMo_single_94 (by decide) ?_
    refine pm_goto 114 dMo_single_96 (by decide) ?_
    refine pm_wk [0, 1, 2] rfl ?_
    exact Mo_single_n114 g d ex R hR G GQ hG0 hG1 hG2 hG3 J _ _ _ _   _ _ _ _ (hp.2 h91) (hF.trans (by first | (simp only [fMo_single_91, if_neg h91]; done) | (simp only [fMo_single_91, if_neg h91]; with_reducible rfl) | with_reducible rfl))
set_option maxHeartbeats 4000000 in
set_option maxRecDepth 100000 in
theorem Mo_single_n77 (g : pmG) (d : Nat) (ex : List (Nat × Nat)) (R : Nat → Nat → Value) (hR : mk_R R) (G : Nat → Int32 → Int32 → (Nat → Nat → Int32) → Int32 × Int32 × Int32 × (Nat → Nat → Int32)) (GQ : Nat → Int32 → Int32 → (Nat → Nat → Int32) → Prop) (hG0 : ∀ (x0 x1 : Int32) (I : Nat → Nat → Int32) (J : Nat → Nat → Int64), GQ 0 x0 x1 I → pmT g kMo_formula (d + 613) [.ref 40, .int x0] (mk_K ++ ex, R, I, J) (pt_I (mk_K ++ ex) R J (G 0 x0 x1 I))) (hG1 : ∀ (x0 x1 : Int32) (I : Nat → Nat → Int32) (J : Nat → Nat → Int64), GQ 1 x0 x1 I → pmT g kMo_either (d + 613) [.ref 40, .int x0] (mk_K ++ ex, R, I, J) (pt_I (mk_K ++ ex) R J (G 1 x0 x1 I))) (hG2 : ∀ (x0 x1 : Int32) (I : Nat → Nat → Int32) (J : Nat → Nat → Int64), GQ 2 x0 x1 I → pmT g kMo_both (d + 613) [.ref 40, .int x0] (mk_K ++ ex, R, I, J) (pt_I (mk_K ++ ex) R J (G 2 x0 x1 I))) (hG3 : ∀ (x0 x1 : Int32) (I : Nat → Nat → Int32) (J : Nat → Nat → Int64), GQ 3 x0 x1 I → pmT g kMo_single (d + 613) [.ref 40, .int x0] (mk_K ++ ex, R, I, J) (pt_I (mk_K ++ ex) R J (G 3 x0 x1 I))) (J : Nat → Nat → Int64) (o : Outcome) (Z : pmM) (rc rs : Nat)  (y1 : Int32) (y2 : Int32) (z0 : Int32) (I : Nat → Nat → Int32) (hp : pMo_single_77 G GQ y1 y2 z0 I) (hF : (o, Z, rc, rs) = pt_I (mk_K ++ ex) R J (fMo_single_77 G y1 y2 z0 I)) : pmE g kMo_single (d + 614) rc rs 77 [(0, .ref 40), (1, .int y1), (2, .int y2)] [.int z0] (mk_K ++ ex) R I J o Z := by
  unfold pMo_single_77 at hp
  refine pm_if_eq 85 dMo_single_77 (by decide) (fun h77 => ?_) (fun h77 => ?_)
  ·
    refine pm_aload_n dMo_single_85 rfl ?_
    refine pm_ldcS dMo_single_86 zMo_253 ?_
    refine pt_callV (v2 := some (.int 0)) dMo_single_88 lMo_229 vMo_is ⟨_, _, rfl⟩ (Mo_is_29_ok _ _ _ _ hR _ _ _ (hp.1 h77).1) rfl rfl rfl (Nat.le_of_ble_eq_true rfl) (fun h88 => ?_) (fun h88 => hF.trans (by first | (simp only [fMo_single_77, if_pos h77, if_neg h88]; done) | (simp only [fMo_single_77, if_pos h77, if_neg h88]; rfl) | rfl))
    refine pm_wk [0, 1, 2] rfl ?_
    exact Mo_single_n91 g d ex R hR G GQ hG0 hG1 hG2 hG3 J _ _ _ _   _ _ _ _ ((hp.1 h77).2 h88) (hF.trans (by first | (simp only [fMo_single_77, if_pos h77, if_pos h88]; done) | (simp only [fMo_single_77, if_pos h77, if_pos h88]; with_reducible rfl) | with_reducible rfl))
  ·
    refine pm_bipush (v := 8) dMo_single_80 (by decide) ?_
    refine pm_goto 114 dMo_single_82 (by decide) ?_
    refine pm_wk [0, 1, 2] rfl ?_
    exact Mo_single_n114 g d ex R hR G GQ hG0 hG1 hG2 hG3 J _ _ _ _   _ _ _ _ (hp.2 h77) (hF.trans (by first | (simp only [fMo_single_77, if_neg h77]; done) | (simp only [fMo_single_77, if_neg h77]; with_reducible rfl) | with_reducible rfl))
set_option maxHeartbeats 4000000 in
set_option maxRecDepth 100000 in
theorem Mo_single_n63 (g : pmG) (d : Nat) (ex : List (Nat × Nat)) (R : Nat → Nat → Value) (hR : mk_R R) (G : Nat → Int32 → Int32 → (Nat → Nat → Int32) → Int32 × Int32 × Int32 × (Nat → Nat → Int32)) (GQ : Nat → Int32 → Int32 → (Nat → Nat → Int32) → Prop) (hG0 : ∀ (x0 x1 : Int32) (I : Nat → Nat → Int32) (J : Nat → Nat → Int64), GQ 0 x0 x1 I → pmT g kMo_formula (d + 613) [.ref 40, .int x0] (mk_K ++ ex, R, I, J) (pt_I (mk_K ++ ex) R J (G 0 x0 x1 I))) (hG1 : ∀ (x0 x1 : Int32) (I : Nat → Nat → Int32) (J : Nat → Nat → Int64), GQ 1 x0 x1 I → pmT g kMo_either (d + 613) [.ref 40, .int x0] (mk_K ++ ex, R, I, J) (pt_I (mk_K ++ ex) R J (G 1 x0 x1 I))) (hG2 : ∀ (x0 x1 : Int32) (I : Nat → Nat → Int32) (J : Nat → Nat → Int64), GQ 2 x0 x1 I → pmT g kMo_both (d + 613) [.ref 40, .int x0] (mk_K ++ ex, R, I, J) (pt_I (mk_K ++ ex) R J (G 2 x0 x1 I))) (hG3 : ∀ (x0 x1 : Int32) (I : Nat → Nat → Int32) (J : Nat → Nat → Int64), GQ 3 x0 x1 I → pmT g kMo_single (d + 613) [.ref 40, .int x0] (mk_K ++ ex, R, I, J) (pt_I (mk_K ++ ex) R J (G 3 x0 x1 I))) (J : Nat → Nat → Int64) (o : Outcome) (Z : pmM) (rc rs : Nat)  (y1 : Int32) (y2 : Int32) (z0 : Int32) (I : Nat → Nat → Int32) (hp : pMo_single_63 G GQ y1 y2 z0 I) (hF : (o, Z, rc, rs) = pt_I (mk_K ++ ex) R J (fMo_single_63 G y1 y2 z0 I)) : pmE g kMo_single (d + 614) rc rs 63 [(0, .ref 40), (1, .int y1), (2, .int y2)] [.int z0] (mk_K ++ ex) R I J o Z := by
  unfold pMo_single_63 at hp
  refine pm_if_eq 71 dMo_single_63 (by decide) (fun h63 => ?_) (fun h63 => ?_)
  ·
    refine pm_aload_n dMo_single_71 rfl ?_
    refine pm_ldcS dMo_single_72 zMo_251 ?_
    refine pt_callV (v2 := some (.int 0)) dMo_single_74 lMo_229 vMo_is ⟨_, _, rfl⟩ (Mo_is_28_ok _ _ _ _ hR _ _ _ (hp.1 h63).1) rfl rfl rfl (Nat.le_of_ble_eq_true rfl) (fun h74 => ?_) (fun h74 => hF.trans (by first | (simp only [fMo_single_63, if_pos h63, if_neg h74]; done) | (simp only [fMo_single_63, if_pos h63, if_neg h74]; rfl) | rfl))
    refine pm_wk [0, 1, 2] rfl ?_
    exact Mo_single_n77 g d ex R hR G GQ hG0 hG1 hG2 hG3 J _ _ _ _   _ _ _ _ ((hp.1 h63).2 h74) (hF.trans (by first | (simp only [fMo_single_63, if_pos h63, if_pos h74]; done) | (simp only [fMo_single_63, if_pos h63, if_pos h74]; with_reducible rfl) | with_reducible rfl))
  ·
    refine pm_bipush (v := 9) dMo_single_66 (by decide) ?_
    refine pm_goto 114 dMo_single_68 (by decide) ?_
    refine pm_wk [0, 1, 2] rfl ?_
    exact Mo_single_n114 g d ex R hR G GQ hG0 hG1 hG2 hG3 J _ _ _ _   _ _ _ _ (hp.2 h63) (hF.trans (by first | (simp only [fMo_single_63, if_neg h63]; done) | (simp only [fMo_single_63, if_neg h63]; with_reducible rfl) | with_reducible rfl))
set_option maxHeartbeats 4000000 in
set_option maxRecDepth 100000 in
theorem Mo_single_n50 (g : pmG) (d : Nat) (ex : List (Nat × Nat)) (R : Nat → Nat → Value) (hR : mk_R R) (G : Nat → Int32 → Int32 → (Nat → Nat → Int32) → Int32 × Int32 × Int32 × (Nat → Nat → Int32)) (GQ : Nat → Int32 → Int32 → (Nat → Nat → Int32) → Prop) (hG0 : ∀ (x0 x1 : Int32) (I : Nat → Nat → Int32) (J : Nat → Nat → Int64), GQ 0 x0 x1 I → pmT g kMo_formula (d + 613) [.ref 40, .int x0] (mk_K ++ ex, R, I, J) (pt_I (mk_K ++ ex) R J (G 0 x0 x1 I))) (hG1 : ∀ (x0 x1 : Int32) (I : Nat → Nat → Int32) (J : Nat → Nat → Int64), GQ 1 x0 x1 I → pmT g kMo_either (d + 613) [.ref 40, .int x0] (mk_K ++ ex, R, I, J) (pt_I (mk_K ++ ex) R J (G 1 x0 x1 I))) (hG2 : ∀ (x0 x1 : Int32) (I : Nat → Nat → Int32) (J : Nat → Nat → Int64), GQ 2 x0 x1 I → pmT g kMo_both (d + 613) [.ref 40, .int x0] (mk_K ++ ex, R, I, J) (pt_I (mk_K ++ ex) R J (G 2 x0 x1 I))) (hG3 : ∀ (x0 x1 : Int32) (I : Nat → Nat → Int32) (J : Nat → Nat → Int64), GQ 3 x0 x1 I → pmT g kMo_single (d + 613) [.ref 40, .int x0] (mk_K ++ ex, R, I, J) (pt_I (mk_K ++ ex) R J (G 3 x0 x1 I))) (J : Nat → Nat → Int64) (o : Outcome) (Z : pmM) (rc rs : Nat)  (y1 : Int32) (y2 : Int32) (z0 : Int32) (I : Nat → Nat → Int32) (hp : pMo_single_50 G GQ y1 y2 z0 I) (hF : (o, Z, rc, rs) = pt_I (mk_K ++ ex) R J (fMo_single_50 G y1 y2 z0 I)) : pmE g kMo_single (d + 614) rc rs 50 [(0, .ref 40), (1, .int y1), (2, .int y2)] [.int z0] (mk_K ++ ex) R I J o Z := by
  unfold pMo_single_50 at hp
  refine pm_if_eq 57 dMo_single_50 (by decide) (fun h50 => ?_) (fun h50 => ?_)
  ·
    refine pm_aload_n dMo_single_57 rfl ?_
    refine pm_ldcS dMo_single_58 zMo_249 ?_
    refine pt_callV (v2 := some (.int 0)) dMo_single_60 lMo_229 vMo_is ⟨_, _, rfl⟩ (Mo_is_27_ok _ _ _ _ hR _ _ _ (hp.1 h50).1) rfl rfl rfl (Nat.le_of_ble_eq_true rfl) (fun h60 => ?_) (fun h60 => hF.trans (by first | (simp only [fMo_single_50, if_pos h50, if_neg h60]; done) | (simp only [fMo_single_50, if_pos h50, if_neg h60]; rfl) | rfl))
    refine pm_wk [0, 1, 2] rfl ?_
    exact Mo_single_n63 g d ex R hR G GQ hG0 hG1 hG2 hG3 J _ _ _ _   _ _ _ _ ((hp.1 h50).2 h60) (hF.trans (by first | (simp only [fMo_single_50, if_pos h50, if_pos h60]; done) | (simp only [fMo_single_50, if_pos h50, if_pos h60]; with_reducible rfl) | with_reducible rfl))
  ·
    refine pm_iconst (v := 4) dMo_single_53 (by decide) ?_
    refine pm_goto 114 dMo_single_54 (by decide) ?_
    refine pm_wk [0, 1, 2] rfl ?_
    exact Mo_single_n114 g d ex R hR G GQ hG0 hG1 hG2 hG3 J _ _ _ _   _ _ _ _ (hp.2 h50) (hF.trans (by first | (simp only [fMo_single_50, if_neg h50]; done) | (simp only [fMo_single_50, if_neg h50]; with_reducible rfl) | with_reducible rfl))
set_option maxHeartbeats 4000000 in
set_option maxRecDepth 100000 in
theorem Mo_single_n37 (g : pmG) (d : Nat) (ex : List (Nat × Nat)) (R : Nat → Nat → Value) (hR : mk_R R) (G : Nat → Int32 → Int32 → (Nat → Nat → Int32) → Int32 × Int32 × Int32 × (Nat → Nat → Int32)) (GQ : Nat → Int32 → Int32 → (Nat → Nat → Int32) → Prop) (hG0 : ∀ (x0 x1 : Int32) (I : Nat → Nat → Int32) (J : Nat → Nat → Int64), GQ 0 x0 x1 I → pmT g kMo_formula (d + 613) [.ref 40, .int x0] (mk_K ++ ex, R, I, J) (pt_I (mk_K ++ ex) R J (G 0 x0 x1 I))) (hG1 : ∀ (x0 x1 : Int32) (I : Nat → Nat → Int32) (J : Nat → Nat → Int64), GQ 1 x0 x1 I → pmT g kMo_either (d + 613) [.ref 40, .int x0] (mk_K ++ ex, R, I, J) (pt_I (mk_K ++ ex) R J (G 1 x0 x1 I))) (hG2 : ∀ (x0 x1 : Int32) (I : Nat → Nat → Int32) (J : Nat → Nat → Int64), GQ 2 x0 x1 I → pmT g kMo_both (d + 613) [.ref 40, .int x0] (mk_K ++ ex, R, I, J) (pt_I (mk_K ++ ex) R J (G 2 x0 x1 I))) (hG3 : ∀ (x0 x1 : Int32) (I : Nat → Nat → Int32) (J : Nat → Nat → Int64), GQ 3 x0 x1 I → pmT g kMo_single (d + 613) [.ref 40, .int x0] (mk_K ++ ex, R, I, J) (pt_I (mk_K ++ ex) R J (G 3 x0 x1 I))) (J : Nat → Nat → Int64) (o : Outcome) (Z : pmM) (rc rs : Nat)  (y1 : Int32) (y2 : Int32) (z0 : Int32) (I : Nat → Nat → Int32) (hp : pMo_single_37 G GQ y1 y2 z0 I) (hF : (o, Z, rc, rs) = pt_I (mk_K ++ ex) R J (fMo_single_37 G y1 y2 z0 I)) : pmE g kMo_single (d + 614) rc rs 37 [(0, .ref 40), (1, .int y1), (2, .int y2)] [.int z0] (mk_K ++ ex) R I J o Z := by
  unfold pMo_single_37 at hp
  refine pm_if_eq 44 dMo_single_37 (by decide) (fun h37 => ?_) (fun h37 => ?_)
  ·
    refine pm_aload_n dMo_single_44 rfl ?_
    refine pm_ldcS dMo_single_45 zMo_247 ?_
    refine pt_callV (v2 := some (.int 0)) dMo_single_47 lMo_229 vMo_is ⟨_, _, rfl⟩ (Mo_is_26_ok _ _ _ _ hR _ _ _ (hp.1 h37).1) rfl rfl rfl (Nat.le_of_ble_eq_true rfl) (fun h47 => ?_) (fun h47 => hF.trans (by first | (simp only [fMo_single_37, if_pos h37, if_neg h47]; done) | (simp only [fMo_single_37, if_pos h37, if_neg h47]; rfl) | rfl))
    refine pm_wk [0, 1, 2] rfl ?_
    exact Mo_single_n50 g d ex R hR G GQ hG0 hG1 hG2 hG3 J _ _ _ _   _ _ _ _ ((hp.1 h37).2 h47) (hF.trans (by first | (simp only [fMo_single_37, if_pos h37, if_pos h47]; done) | (simp only [fMo_single_37, if_pos h37, if_pos h47]; with_reducible rfl) | with_reducible rfl))
  ·
    refine pm_iconst (v := 5) dMo_single_40 (by decide) ?_
    refine pm_goto 114 dMo_single_41 (by decide) ?_
    refine pm_wk [0, 1, 2] rfl ?_
    exact Mo_single_n114 g d ex R hR G GQ hG0 hG1 hG2 hG3 J _ _ _ _   _ _ _ _ (hp.2 h37) (hF.trans (by first | (simp only [fMo_single_37, if_neg h37]; done) | (simp only [fMo_single_37, if_neg h37]; with_reducible rfl) | with_reducible rfl))
set_option maxHeartbeats 4000000 in
set_option maxRecDepth 100000 in
theorem Mo_single_n4 (g : pmG) (d : Nat) (ex : List (Nat × Nat)) (R : Nat → Nat → Value) (hR : mk_R R) (G : Nat → Int32 → Int32 → (Nat → Nat → Int32) → Int32 × Int32 × Int32 × (Nat → Nat → Int32)) (GQ : Nat → Int32 → Int32 → (Nat → Nat → Int32) → Prop) (hG0 : ∀ (x0 x1 : Int32) (I : Nat → Nat → Int32) (J : Nat → Nat → Int64), GQ 0 x0 x1 I → pmT g kMo_formula (d + 613) [.ref 40, .int x0] (mk_K ++ ex, R, I, J) (pt_I (mk_K ++ ex) R J (G 0 x0 x1 I))) (hG1 : ∀ (x0 x1 : Int32) (I : Nat → Nat → Int32) (J : Nat → Nat → Int64), GQ 1 x0 x1 I → pmT g kMo_either (d + 613) [.ref 40, .int x0] (mk_K ++ ex, R, I, J) (pt_I (mk_K ++ ex) R J (G 1 x0 x1 I))) (hG2 : ∀ (x0 x1 : Int32) (I : Nat → Nat → Int32) (J : Nat → Nat → Int64), GQ 2 x0 x1 I → pmT g kMo_both (d + 613) [.ref 40, .int x0] (mk_K ++ ex, R, I, J) (pt_I (mk_K ++ ex) R J (G 2 x0 x1 I))) (hG3 : ∀ (x0 x1 : Int32) (I : Nat → Nat → Int32) (J : Nat → Nat → Int64), GQ 3 x0 x1 I → pmT g kMo_single (d + 613) [.ref 40, .int x0] (mk_K ++ ex, R, I, J) (pt_I (mk_K ++ ex) R J (G 3 x0 x1 I))) (J : Nat → Nat → Int64) (o : Outcome) (Z : pmM) (rc rs : Nat)  (y1 : Int32) (z0 : Int32) (I : Nat → Nat → Int32) (hp : pMo_single_4 G GQ y1 z0 I) (hF : (o, Z, rc, rs) = pt_I (mk_K ++ ex) R J (fMo_single_4 G y1 z0 I)) : pmE g kMo_single (d + 614) rc rs 4 [(0, .ref 40), (1, .int y1)] [.int z0] (mk_K ++ ex) R I J o Z := by
  unfold pMo_single_4 at hp
  refine pm_istore_n dMo_single_4 (by decide) rfl ?_
  refine pm_iload_n dMo_single_5 rfl ?_
  refine pm_bipush (v := 33) dMo_single_6 (by decide) ?_
  refine pm_icmp_ne 31 dMo_single_8 (by decide) (fun h8 => ?_) (fun h8 => ?_)
  ·
    refine pm_aload_n dMo_single_31 rfl ?_
    refine pm_ldcS dMo_single_32 zMo_245 ?_
    refine pt_callV (v2 := some (.int 0)) dMo_single_34 lMo_229 vMo_is ⟨_, _, rfl⟩ (Mo_is_25_ok _ _ _ _ hR _ _ _ (hp.2 h8).1) rfl rfl rfl (Nat.le_of_ble_eq_true rfl) (fun h34 => ?_) (fun h34 => hF.trans (by first | (simp only [fMo_single_4, if_neg h8, if_neg h34]; done) | (simp only [fMo_single_4, if_neg h8, if_neg h34]; rfl) | rfl))
    refine pm_wk [1, 2, 0] rfl ?_
    exact Mo_single_n37 g d ex R hR G GQ hG0 hG1 hG2 hG3 J _ _ _ _   _ _ _ _ ((hp.2 h8).2 h34) (hF.trans (by first | (simp only [fMo_single_4, if_neg h8, if_pos h34]; done) | (simp only [fMo_single_4, if_neg h8, if_pos h34]; with_reducible rfl) | with_reducible rfl))
  ·
    refine pm_aload_n dMo_single_11 rfl ?_
    refine pt_callV (v2 := some (.int 0)) dMo_single_12 lMo_215 vMo_take ⟨_, _, rfl⟩ (Mo_take_ok _ _ _ _ hR  _ _ (hp.1 h8).1) rfl rfl rfl (Nat.le_of_ble_eq_true rfl) (fun h12 => ?_) (fun h12 => hF.trans (by first | (simp only [fMo_single_4, if_pos h8, if_neg h12]; done) | (simp only [fMo_single_4, if_pos h8, if_neg h12]; rfl) | rfl))
    refine pm_wk [1, 2, 0] rfl ?_
    exact Mo_single_n15 g d ex R hR G GQ hG0 hG1 hG2 hG3 J _ _ _ _   _ _ _ ((hp.1 h8).2 h12) (hF.trans (by first | (simp only [fMo_single_4, if_pos h8, if_pos h12]; done) | (simp only [fMo_single_4, if_pos h8, if_pos h12]; with_reducible rfl) | with_reducible rfl))
set_option maxHeartbeats 4000000 in
set_option maxRecDepth 100000 in
theorem Mo_single_n0 (g : pmG) (d : Nat) (ex : List (Nat × Nat)) (R : Nat → Nat → Value) (hR : mk_R R) (G : Nat → Int32 → Int32 → (Nat → Nat → Int32) → Int32 × Int32 × Int32 × (Nat → Nat → Int32)) (GQ : Nat → Int32 → Int32 → (Nat → Nat → Int32) → Prop) (hG0 : ∀ (x0 x1 : Int32) (I : Nat → Nat → Int32) (J : Nat → Nat → Int64), GQ 0 x0 x1 I → pmT g kMo_formula (d + 613) [.ref 40, .int x0] (mk_K ++ ex, R, I, J) (pt_I (mk_K ++ ex) R J (G 0 x0 x1 I))) (hG1 : ∀ (x0 x1 : Int32) (I : Nat → Nat → Int32) (J : Nat → Nat → Int64), GQ 1 x0 x1 I → pmT g kMo_either (d + 613) [.ref 40, .int x0] (mk_K ++ ex, R, I, J) (pt_I (mk_K ++ ex) R J (G 1 x0 x1 I))) (hG2 : ∀ (x0 x1 : Int32) (I : Nat → Nat → Int32) (J : Nat → Nat → Int64), GQ 2 x0 x1 I → pmT g kMo_both (d + 613) [.ref 40, .int x0] (mk_K ++ ex, R, I, J) (pt_I (mk_K ++ ex) R J (G 2 x0 x1 I))) (hG3 : ∀ (x0 x1 : Int32) (I : Nat → Nat → Int32) (J : Nat → Nat → Int64), GQ 3 x0 x1 I → pmT g kMo_single (d + 613) [.ref 40, .int x0] (mk_K ++ ex, R, I, J) (pt_I (mk_K ++ ex) R J (G 3 x0 x1 I))) (J : Nat → Nat → Int64) (o : Outcome) (Z : pmM) (rc rs : Nat)  (y1 : Int32) (I : Nat → Nat → Int32) (hp : pMo_single G GQ y1 I) (hF : (o, Z, rc, rs) = pt_I (mk_K ++ ex) R J (fMo_single G y1 I)) : pmE g kMo_single (d + 614) rc rs 0 [(0, .ref 40), (1, .int y1)] [] (mk_K ++ ex) R I J o Z := by
  unfold pMo_single at hp
  refine pm_aload_n dMo_single_0 rfl ?_
  refine pt_callV (v2 := some (.int 0)) dMo_single_1 lMo_207 vMo_peek ⟨_, _, rfl⟩ (Mo_peek_ok _ _ _ _ hR _ _ _ _ hp.1) rfl rfl rfl (Nat.le_of_ble_eq_true rfl) (fun h1 => ?_) (fun h1 => hF.trans (by first | (simp only [fMo_single, if_neg h1]; done) | (simp only [fMo_single, if_neg h1]; rfl) | rfl))
  refine pm_wk [0, 1] rfl ?_
  exact Mo_single_n4 g d ex R hR G GQ hG0 hG1 hG2 hG3 J _ _ _ _   _ _ _ (hp.2 h1) (hF.trans (by first | (simp only [fMo_single, if_pos h1]; done) | (simp only [fMo_single, if_pos h1]; with_reducible rfl) | with_reducible rfl))
set_option maxHeartbeats 4000000 in
set_option maxRecDepth 100000 in
theorem Mo_single_ok (g : pmG) (d : Nat) (ex : List (Nat × Nat)) (R : Nat → Nat → Value) (hR : mk_R R) (G : Nat → Int32 → Int32 → (Nat → Nat → Int32) → Int32 × Int32 × Int32 × (Nat → Nat → Int32)) (GQ : Nat → Int32 → Int32 → (Nat → Nat → Int32) → Prop) (hG0 : ∀ (x0 x1 : Int32) (I : Nat → Nat → Int32) (J : Nat → Nat → Int64), GQ 0 x0 x1 I → pmT g kMo_formula (d + 613) [.ref 40, .int x0] (mk_K ++ ex, R, I, J) (pt_I (mk_K ++ ex) R J (G 0 x0 x1 I))) (hG1 : ∀ (x0 x1 : Int32) (I : Nat → Nat → Int32) (J : Nat → Nat → Int64), GQ 1 x0 x1 I → pmT g kMo_either (d + 613) [.ref 40, .int x0] (mk_K ++ ex, R, I, J) (pt_I (mk_K ++ ex) R J (G 1 x0 x1 I))) (hG2 : ∀ (x0 x1 : Int32) (I : Nat → Nat → Int32) (J : Nat → Nat → Int64), GQ 2 x0 x1 I → pmT g kMo_both (d + 613) [.ref 40, .int x0] (mk_K ++ ex, R, I, J) (pt_I (mk_K ++ ex) R J (G 2 x0 x1 I))) (hG3 : ∀ (x0 x1 : Int32) (I : Nat → Nat → Int32) (J : Nat → Nat → Int64), GQ 3 x0 x1 I → pmT g kMo_single (d + 613) [.ref 40, .int x0] (mk_K ++ ex, R, I, J) (pt_I (mk_K ++ ex) R J (G 3 x0 x1 I)))  (x0 : Int32) (I : Nat → Nat → Int32) (J : Nat → Nat → Int64) (hp : pMo_single G GQ x0 I) : pmT g kMo_single (d + 614) [.ref 40, .int x0] (mk_K ++ ex, R, I, J) (pt_I (mk_K ++ ex) R J (fMo_single G x0 I)) :=
  pmC.of (by decide) (Nat.le_of_ble_eq_true rfl) (Mo_single_n0 g d ex R hR G GQ hG0 hG1 hG2 hG3 J _ _ _ _  x0 I hp rfl)
def mf_F : Nat → Nat → Int32 → Int32 → (Nat → Nat → Int32) → Int32 × Int32 × Int32 × (Nat → Nat → Int32)
  | 0, _, _, _, I => (0, 0, 0, I)
  | m + 1, t, x0, x1, I =>
  if t = 0 then fMo_formula (mf_F m) x0 I
  else if t = 1 then fMo_either (mf_F m) 4002 x0 I
  else if t = 2 then fMo_both (mf_F m) 4002 x0 I
  else if t = 3 then fMo_single (mf_F m) x0 I
  else (0, 0, 0, I)
def mf_Q : Nat → Nat → Int32 → Int32 → (Nat → Nat → Int32) → Prop
  | 0, _, _, _, _ => False
  | m + 1, t, x0, x1, I =>
  if t = 0 then pMo_formula (mf_F m) (mf_Q m) x0 I
  else if t = 1 then pMo_either (mf_F m) (mf_Q m) 4002 x0 I
  else if t = 2 then pMo_both (mf_F m) (mf_Q m) 4002 x0 I
  else if t = 3 then pMo_single (mf_F m) (mf_Q m) x0 I
  else False
set_option maxHeartbeats 4000000 in
set_option maxRecDepth 100000 in
theorem mf_all (g : pmG) (d : Nat) (ex : List (Nat × Nat)) (R : Nat → Nat → Value) (hR : mk_R R) : ∀ m : Nat, (∀ (x0 x1 : Int32) (I : Nat → Nat → Int32) (J : Nat → Nat → Int64), mf_Q m 0 x0 x1 I → pmT g kMo_formula (d + m + 613) [.ref 40, .int x0] (mk_K ++ ex, R, I, J) (pt_I (mk_K ++ ex) R J (mf_F m 0 x0 x1 I))) ∧ (∀ (x0 x1 : Int32) (I : Nat → Nat → Int32) (J : Nat → Nat → Int64), mf_Q m 1 x0 x1 I → pmT g kMo_either (d + m + 613) [.ref 40, .int x0] (mk_K ++ ex, R, I, J) (pt_I (mk_K ++ ex) R J (mf_F m 1 x0 x1 I))) ∧ (∀ (x0 x1 : Int32) (I : Nat → Nat → Int32) (J : Nat → Nat → Int64), mf_Q m 2 x0 x1 I → pmT g kMo_both (d + m + 613) [.ref 40, .int x0] (mk_K ++ ex, R, I, J) (pt_I (mk_K ++ ex) R J (mf_F m 2 x0 x1 I))) ∧ (∀ (x0 x1 : Int32) (I : Nat → Nat → Int32) (J : Nat → Nat → Int64), mf_Q m 3 x0 x1 I → pmT g kMo_single (d + m + 613) [.ref 40, .int x0] (mk_K ++ ex, R, I, J) (pt_I (mk_K ++ ex) R J (mf_F m 3 x0 x1 I))) := by
  intro m
  induction m with
  | zero => exact ⟨fun _ _ _ _ h => False.elim h, fun _ _ _ _ h => False.elim h, fun _ _ _ _ h => False.elim h, fun _ _ _ _ h => False.elim h⟩
  | succ m ih => exact ⟨fun x0 x1 I J h => Mo_formula_ok g (d + m) ex R hR (mf_F m) (mf_Q m) ih.1 ih.2.1 ih.2.2.1 ih.2.2.2  x0 I J h, fun x0 x1 I J h => Mo_either_ok g (d + m) ex R hR (mf_F m) (mf_Q m) ih.1 ih.2.1 ih.2.2.1 ih.2.2.2 4002 x0 I J h, fun x0 x1 I J h => Mo_both_ok g (d + m) ex R hR (mf_F m) (mf_Q m) ih.1 ih.2.1 ih.2.2.1 ih.2.2.2 4002 x0 I J h, fun x0 x1 I J h => Mo_single_ok g (d + m) ex R hR (mf_F m) (mf_Q m) ih.1 ih.2.1 ih.2.2.1 ih.2.2.2  x0 I J h⟩
def fmf_Mo_formula (x0 : Int32) (I : Nat → Nat → Int32) : Int32 × Int32 × Int32 × (Nat → Nat → Int32) := mf_F 260 0 x0 0 I
def pmf_Mo_formula (x0 : Int32) (I : Nat → Nat → Int32) : Prop := mf_Q 260 0 x0 0 I
theorem mf_Mo_formula_ok (g : pmG) (d : Nat) (ex : List (Nat × Nat)) (R : Nat → Nat → Value) (hR : mk_R R) (x0 : Int32) (I : Nat → Nat → Int32) (J : Nat → Nat → Int64) (hp : pmf_Mo_formula x0 I) : pmT g kMo_formula (d + 873) [.ref 40, .int x0] (mk_K ++ ex, R, I, J) (pt_I (mk_K ++ ex) R J (fmf_Mo_formula x0 I)) := by
  unfold pmf_Mo_formula at hp
  unfold fmf_Mo_formula
  rw [show d + 873 = d + 260 + 613 from rfl]
  exact (mf_all g d ex R hR 260).1 x0 0 I J hp
