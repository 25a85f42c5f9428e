def fMo_expression_68 (G : Nat → Int32 → Int32 → (Nat → Nat → Int32) → Int32 × Int32 × Int32 × (Nat → Nat → Int32)) (y1 : Int32) (y2 : Int32) (z1 : Int32) (z2 : Int32) (I : Nat → Nat → Int32) : Int32 × Int32 × Int32 × (Nat → Nat → Int32) :=
  (0, 0, (fMo_node (4 : Int32) (0 : Int32) y2 (pm_u I 55 z1.toNatClampNeg z2)).1, (fMo_node (4 : Int32) (0 : Int32) y2 (pm_u I 55 z1.toNatClampNeg z2)).2)
def pMo_expression_68 (G : Nat → Int32 → Int32 → (Nat → Nat → Int32) → Int32 × Int32 × Int32 × (Nat → Nat → Int32)) (GQ : Nat → Int32 → Int32 → (Nat → Nat → Int32) → Prop) (y1 : Int32) (y2 : Int32) (z1 : Int32) (z2 : Int32) (I : Nat → Nat → Int32) : Prop :=
  (vp_in z1 4200) ∧ ((pMo_node (4 : Int32) (0 : Int32) y2 (pm_u I 55 z1.toNatClampNeg z2)) ∧ True)
def fMo_expression_65 (G : Nat → Int32 → Int32 → (Nat → Nat → Int32) → Int32 × Int32 × Int32 × (Nat → Nat → Int32)) (y1 : Int32) (y2 : Int32) (z1 : Int32) (z3 : Int32) (I : Nat → Nat → Int32) : Int32 × Int32 × Int32 × (Nat → Nat → Int32) :=
  if (G 0 z3 0 I).1 = 0 then fMo_expression_68 G y1 y2 z1 ((G 0 z3 0 I).2.2.1) ((G 0 z3 0 I).2.2.2)
  else ((G 0 z3 0 I).1, (G 0 z3 0 I).2.1, 0, (G 0 z3 0 I).2.2.2)
def pMo_expression_65 (G : Nat → Int32 → Int32 → (Nat → Nat → Int32) → Int32 × Int32 × Int32 × (Nat → Nat → Int32)) (GQ : Nat → Int32 → Int32 → (Nat → Nat → Int32) → Prop) (y1 : Int32) (y2 : Int32) (z1 : Int32) (z3 : Int32) (I : Nat → Nat → Int32) : Prop :=
  (GQ 0 z3 0 I) ∧ ((G 0 z3 0 I).1 = 0 → pMo_expression_68 G GQ y1 y2 z1 ((G 0 z3 0 I).2.2.1) ((G 0 z3 0 I).2.2.2))
def fMo_expression_49 (G : Nat → Int32 → Int32 → (Nat → Nat → Int32) → Int32 × Int32 × Int32 × (Nat → Nat → Int32)) (y1 : Int32) (y2 : Int32) (I : Nat → Nat → Int32) : Int32 × Int32 × Int32 × (Nat → Nat → Int32) :=
  if (fMo_nest y1 I).1 = 0 then fMo_expression_65 G y1 y2 (I 55 y2.toNatClampNeg) ((fMo_nest y1 I).2.2.1) ((fMo_nest y1 I).2.2.2)
  else ((fMo_nest y1 I).1, (fMo_nest y1 I).2.1, 0, (fMo_nest y1 I).2.2.2)
def pMo_expression_49 (G : Nat → Int32 → Int32 → (Nat → Nat → Int32) → Int32 × Int32 × Int32 × (Nat → Nat → Int32)) (GQ : Nat → Int32 → Int32 → (Nat → Nat → Int32) → Prop) (y1 : Int32) (y2 : Int32) (I : Nat → Nat → Int32) : Prop :=
  (vp_in y2 4200) ∧ ((pMo_nest y1 I) ∧ ((fMo_nest y1 I).1 = 0 → pMo_expression_65 G GQ y1 y2 (I 55 y2.toNatClampNeg) ((fMo_nest y1 I).2.2.1) ((fMo_nest y1 I).2.2.2)))
def fMo_expression_42 (G : Nat → Int32 → Int32 → (Nat → Nat → Int32) → Int32 × Int32 × Int32 × (Nat → Nat → Int32)) (y1 : Int32) (y2 : Int32) (z1 : Int32) (z2 : Int32) (I : Nat → Nat → Int32) : Int32 × Int32 × Int32 × (Nat → Nat → Int32) :=
  if (fMo_must (58 : Int32) (pm_u I 55 z1.toNatClampNeg z2)).1 = 0 then fMo_expression_49 G y1 y2 ((fMo_must (58 : Int32) (pm_u I 55 z1.toNatClampNeg z2)).2.2)
  else ((fMo_must (58 : Int32) (pm_u I 55 z1.toNatClampNeg z2)).1, (fMo_must (58 : Int32) (pm_u I 55 z1.toNatClampNeg z2)).2.1, 0, (fMo_must (58 : Int32) (pm_u I 55 z1.toNatClampNeg z2)).2.2)
def pMo_expression_42 (G : Nat → Int32 → Int32 → (Nat → Nat → Int32) → Int32 × Int32 × Int32 × (Nat → Nat → Int32)) (GQ : Nat → Int32 → Int32 → (Nat → Nat → Int32) → Prop) (y1 : Int32) (y2 : Int32) (z1 : Int32) (z2 : Int32) (I : Nat → Nat → Int32) : Prop :=
  (vp_in z1 4200) ∧ ((pMo_must (58 : Int32) (pm_u I 55 z1.toNatClampNeg z2)) ∧ ((fMo_must (58 : Int32) (pm_u I 55 z1.toNatClampNeg z2)).1 = 0 → pMo_expression_49 G GQ y1 y2 ((fMo_must (58 : Int32) (pm_u I 55 z1.toNatClampNeg z2)).2.2)))
def fMo_expression_39 (G : Nat → Int32 → Int32 → (Nat → Nat → Int32) → Int32 × Int32 × Int32 × (Nat → Nat → Int32)) (y1 : Int32) (y2 : Int32) (z1 : Int32) (z3 : Int32) (I : Nat → Nat → Int32) : Int32 × Int32 × Int32 × (Nat → Nat → Int32) :=
  if (G 0 z3 0 I).1 = 0 then fMo_expression_42 G y1 y2 z1 ((G 0 z3 0 I).2.2.1) ((G 0 z3 0 I).2.2.2)
  else ((G 0 z3 0 I).1, (G 0 z3 0 I).2.1, 0, (G 0 z3 0 I).2.2.2)
def pMo_expression_39 (G : Nat → Int32 → Int32 → (Nat → Nat → Int32) → Int32 × Int32 × Int32 × (Nat → Nat → Int32)) (GQ : Nat → Int32 → Int32 → (Nat → Nat → Int32) → Prop) (y1 : Int32) (y2 : Int32) (z1 : Int32) (z3 : Int32) (I : Nat → Nat → Int32) : Prop :=
  (GQ 0 z3 0 I) ∧ ((G 0 z3 0 I).1 = 0 → pMo_expression_42 G GQ y1 y2 z1 ((G 0 z3 0 I).2.2.1) ((G 0 z3 0 I).2.2.2))
def fMo_expression_28 (G : Nat → Int32 → Int32 → (Nat → Nat → Int32) → Int32 × Int32 × Int32 × (Nat → Nat → Int32)) (y1 : Int32) (y2 : Int32) (I : Nat → Nat → Int32) : Int32 × Int32 × Int32 × (Nat → Nat → Int32) :=
  if (fMo_nest y1 I).1 = 0 then fMo_expression_39 G y1 y2 y2 ((fMo_nest y1 I).2.2.1) ((fMo_nest y1 I).2.2.2)
  else ((fMo_nest y1 I).1, (fMo_nest y1 I).2.1, 0, (fMo_nest y1 I).2.2.2)
def pMo_expression_28 (G : Nat → Int32 → Int32 → (Nat → Nat → Int32) → Int32 × Int32 × Int32 × (Nat → Nat → Int32)) (GQ : Nat → Int32 → Int32 → (Nat → Nat → Int32) → Prop) (y1 : Int32) (y2 : Int32) (I : Nat → Nat → Int32) : Prop :=
  (pMo_nest y1 I) ∧ ((fMo_nest y1 I).1 = 0 → pMo_expression_39 G GQ y1 y2 y2 ((fMo_nest y1 I).2.2.1) ((fMo_nest y1 I).2.2.2))
def fMo_expression_24 (G : Nat → Int32 → Int32 → (Nat → Nat → Int32) → Int32 × Int32 × Int32 × (Nat → Nat → Int32)) (y1 : Int32) (y2 : Int32) (I : Nat → Nat → Int32) : Int32 × Int32 × Int32 × (Nat → Nat → Int32) :=
  if (fMo_take I).1 = 0 then fMo_expression_28 G y1 y2 ((fMo_take I).2.2)
  else ((fMo_take I).1, (fMo_take I).2.1, 0, (fMo_take I).2.2)
def pMo_expression_24 (G : Nat → Int32 → Int32 → (Nat → Nat → Int32) → Int32 × Int32 × Int32 × (Nat → Nat → Int32)) (GQ : Nat → Int32 → Int32 → (Nat → Nat → Int32) → Prop) (y1 : Int32) (y2 : Int32) (I : Nat → Nat → Int32) : Prop :=
  (pMo_take I) ∧ ((fMo_take I).1 = 0 → pMo_expression_28 G GQ y1 y2 ((fMo_take I).2.2))
def fMo_expression_11 (G : Nat → Int32 → Int32 → (Nat → Nat → Int32) → Int32 × Int32 × Int32 × (Nat → Nat → Int32)) (y1 : Int32) (y2 : Int32) (z0 : Int32) (I : Nat → Nat → Int32) : Int32 × Int32 × Int32 × (Nat → Nat → Int32) :=
  if z0 = (63 : Int32) then if (fMo_pays (40 : Int32) I).1 = 0 then fMo_expression_24 G y1 y2 ((fMo_pays (40 : Int32) I).2.2)
    else ((fMo_pays (40 : Int32) I).1, (fMo_pays (40 : Int32) I).2.1, 0, (fMo_pays (40 : Int32) I).2.2)
  else (0, 0, y2, I)
def pMo_expression_11 (G : Nat → Int32 → Int32 → (Nat → Nat → Int32) → Int32 × Int32 × Int32 × (Nat → Nat → Int32)) (GQ : Nat → Int32 → Int32 → (Nat → Nat → Int32) → Prop) (y1 : Int32) (y2 : Int32) (z0 : Int32) (I : Nat → Nat → Int32) : Prop :=
  (z0 = (63 : Int32) → (pMo_pays (40 : Int32) I) ∧ ((fMo_pays (40 : Int32) I).1 = 0 → pMo_expression_24 G GQ y1 y2 ((fMo_pays (40 : Int32) I).2.2))) ∧
  (¬ (z0 = (63 : Int32)) → True)
def fMo_expression_6 (G : Nat → Int32 → Int32 → (Nat → Nat → Int32) → Int32 × Int32 × Int32 × (Nat → Nat → Int32)) (y1 : Int32) (z0 : Int32) (I : Nat → Nat → Int32) : Int32 × Int32 × Int32 × (Nat → Nat → Int32) :=
  if (fMo_peek 65537 65537 I).1 = 0 then fMo_expression_11 G y1 z0 ((fMo_peek 65537 65537 I).2.2.1) ((fMo_peek 65537 65537 I).2.2.2)
  else ((fMo_peek 65537 65537 I).1, (fMo_peek 65537 65537 I).2.1, 0, (fMo_peek 65537 65537 I).2.2.2)
def pMo_expression_6 (G : Nat → Int32 → Int32 → (Nat → Nat → Int32) → Int32 × Int32 × Int32 × (Nat → Nat → Int32)) (GQ : Nat → Int32 → Int32 → (Nat → Nat → Int32) → Prop) (y1 : Int32) (z0 : Int32) (I : Nat → Nat → Int32) : Prop :=
  (pMo_peek 65537 65537 I) ∧ ((fMo_peek 65537 65537 I).1 = 0 → pMo_expression_11 G GQ y1 z0 ((fMo_peek 65537 65537 I).2.2.1) ((fMo_peek 65537 65537 I).2.2.2))
def fMo_expression (G : Nat → Int32 → Int32 → (Nat → Nat → Int32) → Int32 × Int32 × Int32 × (Nat → Nat → Int32)) (y1 : Int32) (I : Nat → Nat → Int32) : Int32 × Int32 × Int32 × (Nat → Nat → Int32) :=
  if (G 1 (0 : Int32) y1 I).1 = 0 then fMo_expression_6 G y1 ((G 1 (0 : Int32) y1 I).2.2.1) ((G 1 (0 : Int32) y1 I).2.2.2)
  else ((G 1 (0 : Int32) y1 I).1, (G 1 (0 : Int32) y1 I).2.1, 0, (G 1 (0 : Int32) y1 I).2.2.2)
def pMo_expression (G : Nat → Int32 → Int32 → (Nat → Nat → Int32) → Int32 × Int32 × Int32 × (Nat → Nat → Int32)) (GQ : Nat → Int32 → Int32 → (Nat → Nat → Int32) → Prop) (y1 : Int32) (I : Nat → Nat → Int32) : Prop :=
  (GQ 1 (0 : Int32) y1 I) ∧ ((G 1 (0 : Int32) y1 I).1 = 0 → pMo_expression_6 G GQ y1 ((G 1 (0 : Int32) y1 I).2.2.1) ((G 1 (0 : Int32) y1 I).2.2.2))
set_option maxHeartbeats 4000000 in
set_option maxRecDepth 100000 in
theorem Mo_expression_n68 (g : pmG) (d : Nat) (ex : List (Nat × Nat)) (R : Nat → Nat → Value) (hR : mk_R R) (G : Nat → Int32 → Int32 → (Nat → Nat → Int32) → Int32 × Int32 × Int32 × (Nat → Nat → Int32)) (GQ : Nat → Int32 → Int32 → (Nat → Nat → Int32) → Prop) (hG0 : ∀ (x0 x1 : Int32) (I : Nat → Nat → Int32) (J : Nat → Nat → Int64), GQ 0 x0 x1 I → pmT g kMo_expression (d + 12) [.ref 40, .int x0] (mk_K ++ ex, R, I, J) (pt_I (mk_K ++ ex) R J (G 0 x0 x1 I))) (hG1 : ∀ (x0 x1 : Int32) (I : Nat → Nat → Int32) (J : Nat → Nat → Int64), GQ 1 x0 x1 I → pmT g kMo_chain (d + 12) [.ref 40, .int x0, .int x1] (mk_K ++ ex, R, I, J) (pt_I (mk_K ++ ex) R J (G 1 x0 x1 I))) (hG2 : ∀ (x0 x1 : Int32) (I : Nat → Nat → Int32) (J : Nat → Nat → Int64), GQ 2 x0 x1 I → pmT g kMo_unary (d + 12) [.ref 40, .int x0] (mk_K ++ ex, R, I, J) (pt_I (mk_K ++ ex) R J (G 2 x0 x1 I))) (J : Nat → Nat → Int64) (o : Outcome) (Z : pmM) (rc rs : Nat)  (y1 : Int32) (y2 : Int32) (z1 : Int32) (z2 : Int32) (I : Nat → Nat → Int32) (hp : pMo_expression_68 G GQ y1 y2 z1 z2 I) (hF : (o, Z, rc, rs) = pt_I (mk_K ++ ex) R J (fMo_expression_68 G y1 y2 z1 z2 I)) : pmE g kMo_expression (d + 13) rc rs 68 [(0, .ref 40), (1, .int y1), (2, .int y2)] [.int z2, .int z1, .ref 55] (mk_K ++ ex) R I J o Z := by
  unfold pMo_expression_68 at hp
  refine pm_iast dMo_expression_68 rfl hp.1 ?_
  refine pm_aload_n dMo_expression_69 rfl ?_
  refine pm_iconst (v := 4) dMo_expression_70 (by decide) ?_
  refine pm_iconst (v := 0) dMo_expression_71 (by decide) ?_
  refine pm_iload_n dMo_expression_72 rfl ?_
  refine pm_callV dMo_expression_73 lMo_280 vMo_node ⟨_, _, rfl⟩ (Mo_node_ok _ _ _ _ hR _ _ _ _ _ hp.2.1) rfl rfl rfl (Nat.le_of_ble_eq_true rfl) (Nat.le_refl _) (Nat.le_refl _) ?_
  exact pt_iret dMo_expression_76 rfl (hF.trans (by first | (simp only [fMo_expression_68]; done) | (simp only [fMo_expression_68]; rfl) | rfl))
set_option maxHeartbeats 4000000 in
set_option maxRecDepth 100000 in
theorem Mo_expression_n65 (g : pmG) (d : Nat) (ex : List (Nat × Nat)) (R : Nat → Nat → Value) (hR : mk_R R) (G : Nat → Int32 → Int32 → (Nat → Nat → Int32) → Int32 × Int32 × Int32 × (Nat → Nat → Int32)) (GQ : Nat → Int32 → Int32 → (Nat → Nat → Int32) → Prop) (hG0 : ∀ (x0 x1 : Int32) (I : Nat → Nat → Int32) (J : Nat → Nat → Int64), GQ 0 x0 x1 I → pmT g kMo_expression (d + 12) [.ref 40, .int x0] (mk_K ++ ex, R, I, J) (pt_I (mk_K ++ ex) R J (G 0 x0 x1 I))) (hG1 : ∀ (x0 x1 : Int32) (I : Nat → Nat → Int32) (J : Nat → Nat → Int64), GQ 1 x0 x1 I → pmT g kMo_chain (d + 12) [.ref 40, .int x0, .int x1] (mk_K ++ ex, R, I, J) (pt_I (mk_K ++ ex) R J (G 1 x0 x1 I))) (hG2 : ∀ (x0 x1 : Int32) (I : Nat → Nat → Int32) (J : Nat → Nat → Int64), GQ 2 x0 x1 I → pmT g kMo_unary (d + 12) [.ref 40, .int x0] (mk_K ++ ex, R, I, J) (pt_I (mk_K ++ ex) R J (G 2 x0 x1 I))) (J : Nat → Nat → Int64) (o : Outcome) (Z : pmM) (rc rs : Nat)  (y1 : Int32) (y2 : Int32) (z1 : Int32) (z3 : Int32) (I : Nat → Nat → Int32) (hp : pMo_expression_65 G GQ y1 y2 z1 z3 I) (hF : (o, Z, rc, rs) = pt_I (mk_K ++ ex) R J (fMo_expression_65 G y1 y2 z1 z3 I)) : pmE g kMo_expression (d + 13) rc rs 65 [(0, .ref 40), (1, .int y1), (2, .int y2)] [.int z3, .ref 40, .int z1, .ref 55] (mk_K ++ ex) R I J o Z := by
  unfold pMo_expression_65 at hp
  refine pt_callV (v2 := some (.int 0)) dMo_expression_65 lMo_274 vMo_expression ⟨_, _, rfl⟩ (hG0 z3 0 _ _ hp.1) rfl rfl rfl (Nat.le_of_ble_eq_true rfl) (fun h65 => ?_) (fun h65 => hF.trans (by first | (simp only [fMo_expression_65, if_neg h65]; done) | (simp only [fMo_expression_65, if_neg h65]; rfl) | rfl))
  refine pm_wk [0, 1, 2] rfl ?_
  exact Mo_expression_n68 g d ex R hR G GQ hG0 hG1 hG2 J _ _ _ _   _ _ _ _ _ (hp.2 h65) (hF.trans (by first | (simp only [fMo_expression_65, if_pos h65]; done) | (simp only [fMo_expression_65, if_pos h65]; rfl) | rfl))
set_option maxHeartbeats 4000000 in
set_option maxRecDepth 100000 in
theorem Mo_expression_n49 (g : pmG) (d : Nat) (ex : List (Nat × Nat)) (R : Nat → Nat → Value) (hR : mk_R R) (G : Nat → Int32 → Int32 → (Nat → Nat → Int32) → Int32 × Int32 × Int32 × (Nat → Nat → Int32)) (GQ : Nat → Int32 → Int32 → (Nat → Nat → Int32) → Prop) (hG0 : ∀ (x0 x1 : Int32) (I : Nat → Nat → Int32) (J : Nat → Nat → Int64), GQ 0 x0 x1 I → pmT g kMo_expression (d + 12) [.ref 40, .int x0] (mk_K ++ ex, R, I, J) (pt_I (mk_K ++ ex) R J (G 0 x0 x1 I))) (hG1 : ∀ (x0 x1 : Int32) (I : Nat → Nat → Int32) (J : Nat → Nat → Int64), GQ 1 x0 x1 I → pmT g kMo_chain (d + 12) [.ref 40, .int x0, .int x1] (mk_K ++ ex, R, I, J) (pt_I (mk_K ++ ex) R J (G 1 x0 x1 I))) (hG2 : ∀ (x0 x1 : Int32) (I : Nat → Nat → Int32) (J : Nat → Nat → Int64), GQ 2 x0 x1 I → pmT g kMo_unary (d + 12) [.ref 40, .int x0] (mk_K ++ ex, R, I, J) (pt_I (mk_K ++ ex) R J (G 2 x0 x1 I))) (J : Nat → Nat → Int64) (o : Outcome) (Z : pmM) (rc rs : Nat)  (y1 : Int32) (y2 : Int32) (I : Nat → Nat → Int32) (hp : pMo_expression_49 G GQ y1 y2 I) (hF : (o, Z, rc, rs) = pt_I (mk_K ++ ex) R J (fMo_expression_49 G y1 y2 I)) : pmE g kMo_expression (d + 13) rc rs 49 [(0, .ref 40), (1, .int y1), (2, .int y2)] [] (mk_K ++ ex) R I J o Z := by
  unfold pMo_expression_49 at hp
  refine pm_aload_n dMo_expression_49 rfl ?_
  refine pm_getr dMo_expression_50 fMo_110 rfl (rr_40_32 hR) ?_
  refine pm_aload_n dMo_expression_53 rfl ?_
  refine pm_getr dMo_expression_54 fMo_110 rfl (rr_40_32 hR) ?_
  refine pm_iload_n dMo_expression_57 rfl ?_
  refine pm_iald dMo_expression_58 rfl hp.1 ?_
  refine pm_aload_n dMo_expression_59 rfl ?_
  refine pm_aload_n dMo_expression_60 rfl ?_
  refine pm_iload_n dMo_expression_61 rfl ?_
  refine pt_callV (v2 := some (.int 0)) dMo_expression_62 lMo_271 vMo_nest ⟨_, _, rfl⟩ (Mo_nest_ok _ _ _ _ hR _ _ _ hp.2.1) rfl rfl rfl (Nat.le_of_ble_eq_true rfl) (fun h62 => ?_) (fun h62 => hF.trans (by first | (simp only [fMo_expression_49, if_neg h62]; done) | (simp only [fMo_expression_49, if_neg h62]; rfl) | rfl))
  refine pm_wk [0, 1, 2] rfl ?_
  exact Mo_expression_n65 g d ex R hR G GQ hG0 hG1 hG2 J _ _ _ _   _ _ _ _ _ (hp.2.2 h62) (hF.trans (by first | (simp only [fMo_expression_49, if_pos h62]; done) | (simp only [fMo_expression_49, if_pos h62]; rfl) | rfl))
set_option maxHeartbeats 4000000 in
set_option maxRecDepth 100000 in
theorem Mo_expression_n42 (g : pmG) (d : Nat) (ex : List (Nat × Nat)) (R : Nat → Nat → Value) (hR : mk_R R) (G : Nat → Int32 → Int32 → (Nat → Nat → Int32) → Int32 × Int32 × Int32 × (Nat → Nat → Int32)) (GQ : Nat → Int32 → Int32 → (Nat → Nat → Int32) → Prop) (hG0 : ∀ (x0 x1 : Int32) (I : Nat → Nat → Int32) (J : Nat → Nat → Int64), GQ 0 x0 x1 I → pmT g kMo_expression (d + 12) [.ref 40, .int x0] (mk_K ++ ex, R, I, J) (pt_I (mk_K ++ ex) R J (G 0 x0 x1 I))) (hG1 : ∀ (x0 x1 : Int32) (I : Nat → Nat → Int32) (J : Nat → Nat → Int64), GQ 1 x0 x1 I → pmT g kMo_chain (d + 12) [.ref 40, .int x0, .int x1] (mk_K ++ ex, R, I, J) (pt_I (mk_K ++ ex) R J (G 1 x0 x1 I))) (hG2 : ∀ (x0 x1 : Int32) (I : Nat → Nat → Int32) (J : Nat → Nat → Int64), GQ 2 x0 x1 I → pmT g kMo_unary (d + 12) [.ref 40, .int x0] (mk_K ++ ex, R, I, J) (pt_I (mk_K ++ ex) R J (G 2 x0 x1 I))) (J : Nat → Nat → Int64) (o : Outcome) (Z : pmM) (rc rs : Nat)  (y1 : Int32) (y2 : Int32) (z1 : Int32) (z2 : Int32) (I : Nat → Nat → Int32) (hp : pMo_expression_42 G GQ y1 y2 z1 z2 I) (hF : (o, Z, rc, rs) = pt_I (mk_K ++ ex) R J (fMo_expression_42 G y1 y2 z1 z2 I)) : pmE g kMo_expression (d + 13) rc rs 42 [(0, .ref 40), (1, .int y1), (2, .int y2)] [.int z2, .int z1, .ref 55] (mk_K ++ ex) R I J o Z := by
  unfold pMo_expression_42 at hp
  refine pm_iast dMo_expression_42 rfl hp.1 ?_
  refine pm_aload_n dMo_expression_43 rfl ?_
  refine pm_bipush (v := 58) dMo_expression_44 (by decide) ?_
  refine pt_callV (v2 := some (.int 0)) dMo_expression_46 lMo_277 vMo_must ⟨_, _, rfl⟩ (Mo_must_ok _ _ _ _ hR _ _ _ hp.2.1) rfl rfl rfl (Nat.le_of_ble_eq_true rfl) (fun h46 => ?_) (fun h46 => hF.trans (by first | (simp only [fMo_expression_42, if_neg h46]; done) | (simp only [fMo_expression_42, if_neg h46]; rfl) | rfl))
  refine pm_wk [0, 1, 2] rfl ?_
  exact Mo_expression_n49 g d ex R hR G GQ hG0 hG1 hG2 J _ _ _ _   _ _ _ (hp.2.2 h46) (hF.trans (by first | (simp only [fMo_expression_42, if_pos h46]; done) | (simp only [fMo_expression_42, if_pos h46]; rfl) | rfl))
set_option maxHeartbeats 4000000 in
set_option maxRecDepth 100000 in
theorem Mo_expression_n39 (g : pmG) (d : Nat) (ex : List (Nat × Nat)) (R : Nat → Nat → Value) (hR : mk_R R) (G : Nat → Int32 → Int32 → (Nat → Nat → Int32) → Int32 × Int32 × Int32 × (Nat → Nat → Int32)) (GQ : Nat → Int32 → Int32 → (Nat → Nat → Int32) → Prop) (hG0 : ∀ (x0 x1 : Int32) (I : Nat → Nat → Int32) (J : Nat → Nat → Int64), GQ 0 x0 x1 I → pmT g kMo_expression (d + 12) [.ref 40, .int x0] (mk_K ++ ex, R, I, J) (pt_I (mk_K ++ ex) R J (G 0 x0 x1 I))) (hG1 : ∀ (x0 x1 : Int32) (I : Nat → Nat → Int32) (J : Nat → Nat → Int64), GQ 1 x0 x1 I → pmT g kMo_chain (d + 12) [.ref 40, .int x0, .int x1] (mk_K ++ ex, R, I, J) (pt_I (mk_K ++ ex) R J (G 1 x0 x1 I))) (hG2 : ∀ (x0 x1 : Int32) (I : Nat → Nat → Int32) (J : Nat → Nat → Int64), GQ 2 x0 x1 I → pmT g kMo_unary (d + 12) [.ref 40, .int x0] (mk_K ++ ex, R, I, J) (pt_I (mk_K ++ ex) R J (G 2 x0 x1 I))) (J : Nat → Nat → Int64) (o : Outcome) (Z : pmM) (rc rs : Nat)  (y1 : Int32) (y2 : Int32) (z1 : Int32) (z3 : Int32) (I : Nat → Nat → Int32) (hp : pMo_expression_39 G GQ y1 y2 z1 z3 I) (hF : (o, Z, rc, rs) = pt_I (mk_K ++ ex) R J (fMo_expression_39 G y1 y2 z1 z3 I)) : pmE g kMo_expression (d + 13) rc rs 39 [(0, .ref 40), (1, .int y1), (2, .int y2)] [.int z3, .ref 40, .int z1, .ref 55] (mk_K ++ ex) R I J o Z := by
  unfold pMo_expression_39 at hp
  refine pt_callV (v2 := some (.int 0)) dMo_expression_39 lMo_274 vMo_expression ⟨_, _, rfl⟩ (hG0 z3 0 _ _ hp.1) rfl rfl rfl (Nat.le_of_ble_eq_true rfl) (fun h39 => ?_) (fun h39 => hF.trans (by first | (simp only [fMo_expression_39, if_neg h39]; done) | (simp only [fMo_expression_39, if_neg h39]; rfl) | rfl))
  refine pm_wk [0, 1, 2] rfl ?_
  exact Mo_expression_n42 g d ex R hR G GQ hG0 hG1 hG2 J _ _ _ _   _ _ _ _ _ (hp.2 h39) (hF.trans (by first | (simp only [fMo_expression_39, if_pos h39]; done) | (simp only [fMo_expression_39, if_pos h39]; rfl) | rfl))
set_option maxHeartbeats 4000000 in
set_option maxRecDepth 100000 in
theorem Mo_expression_n28 (g : pmG) (d : Nat) (ex : List (Nat × Nat)) (R : Nat → Nat → Value) (hR : mk_R R) (G : Nat → Int32 → Int32 → (Nat → Nat → Int32) → Int32 × Int32 × Int32 × (Nat → Nat → Int32)) (GQ : Nat → Int32 → Int32 → (Nat → Nat → Int32) → Prop) (hG0 : ∀ (x0 x1 : Int32) (I : Nat → Nat → Int32) (J : Nat → Nat → Int64), GQ 0 x0 x1 I → pmT g kMo_expression (d + 12) [.ref 40, .int x0] (mk_K ++ ex, R, I, J) (pt_I (mk_K ++ ex) R J (G 0 x0 x1 I))) (hG1 : ∀ (x0 x1 : Int32) (I : Nat → Nat → Int32) (J : Nat → Nat → Int64), GQ 1 x0 x1 I → pmT g kMo_chain (d + 12) [.ref 40, .int x0, .int x1] (mk_K ++ ex, R, I, J) (pt_I (mk_K ++ ex) R J (G 1 x0 x1 I))) (hG2 : ∀ (x0 x1 : Int32) (I : Nat → Nat → Int32) (J : Nat → Nat → Int64), GQ 2 x0 x1 I → pmT g kMo_unary (d + 12) [.ref 40, .int x0] (mk_K ++ ex, R, I, J) (pt_I (mk_K ++ ex) R J (G 2 x0 x1 I))) (J : Nat → Nat → Int64) (o : Outcome) (Z : pmM) (rc rs : Nat)  (y1 : Int32) (y2 : Int32) (I : Nat → Nat → Int32) (hp : pMo_expression_28 G GQ y1 y2 I) (hF : (o, Z, rc, rs) = pt_I (mk_K ++ ex) R J (fMo_expression_28 G y1 y2 I)) : pmE g kMo_expression (d + 13) rc rs 28 [(0, .ref 40), (1, .int y1), (2, .int y2)] [] (mk_K ++ ex) R I J o Z := by
  unfold pMo_expression_28 at hp
  refine pm_aload_n dMo_expression_28 rfl ?_
  refine pm_getr dMo_expression_29 fMo_110 rfl (rr_40_32 hR) ?_
  refine pm_iload_n dMo_expression_32 rfl ?_
  refine pm_aload_n dMo_expression_33 rfl ?_
  refine pm_aload_n dMo_expression_34 rfl ?_
  refine pm_iload_n dMo_expression_35 rfl ?_
  refine pt_callV (v2 := some (.int 0)) dMo_expression_36 lMo_271 vMo_nest ⟨_, _, rfl⟩ (Mo_nest_ok _ _ _ _ hR _ _ _ hp.1) rfl rfl rfl (Nat.le_of_ble_eq_true rfl) (fun h36 => ?_) (fun h36 => hF.trans (by first | (simp only [fMo_expression_28, if_neg h36]; done) | (simp only [fMo_expression_28, if_neg h36]; rfl) | rfl))
  refine pm_wk [0, 1, 2] rfl ?_
  exact Mo_expression_n39 g d ex R hR G GQ hG0 hG1 hG2 J _ _ _ _   _ _ _ _ _ (hp.2 h36) (hF.trans (by first | (simp only [fMo_expression_28, if_pos h36]; done) | (simp only [fMo_expression_28, if_pos h36]; rfl) | rfl))
set_option maxHeartbeats 4000000 in
set_option maxRecDepth 100000 in
theorem Mo_expression_n24 (g : pmG) (d : Nat) (ex : List (Nat × Nat)) (R : Nat → Nat → Value) (hR : mk_R R) (G : Nat → Int32 → Int32 → (Nat → Nat → Int32) → Int32 × Int32 × Int32 × (Nat → Nat → Int32)) (GQ : Nat → Int32 → Int32 → (Nat → Nat → Int32) → Prop) (hG0 : ∀ (x0 x1 : Int32) (I : Nat → Nat → Int32) (J : Nat → Nat → Int64), GQ 0 x0 x1 I → pmT g kMo_expression (d + 12) [.ref 40, .int x0] (mk_K ++ ex, R, I, J) (pt_I (mk_K ++ ex) R J (G 0 x0 x1 I))) (hG1 : ∀ (x0 x1 : Int32) (I : Nat → Nat → Int32) (J : Nat → Nat → Int64), GQ 1 x0 x1 I → pmT g kMo_chain (d + 12) [.ref 40, .int x0, .int x1] (mk_K ++ ex, R, I, J) (pt_I (mk_K ++ ex) R J (G 1 x0 x1 I))) (hG2 : ∀ (x0 x1 : Int32) (I : Nat → Nat → Int32) (J : Nat → Nat → Int64), GQ 2 x0 x1 I → pmT g kMo_unary (d + 12) [.ref 40, .int x0] (mk_K ++ ex, R, I, J) (pt_I (mk_K ++ ex) R J (G 2 x0 x1 I))) (J : Nat → Nat → Int64) (o : Outcome) (Z : pmM) (rc rs : Nat)  (y1 : Int32) (y2 : Int32) (I : Nat → Nat → Int32) (hp : pMo_expression_24 G GQ y1 y2 I) (hF : (o, Z, rc, rs) = pt_I (mk_K ++ ex) R J (fMo_expression_24 G y1 y2 I)) : pmE g kMo_expression (d + 13) rc rs 24 [(0, .ref 40), (1, .int y1), (2, .int y2)] [] (mk_K ++ ex) R I J o Z := by
  unfold pMo_expression_24 at hp
  refine pm_aload_n dMo_expression_24 rfl ?_
  refine pt_callV (v2 := some (.int 0)) dMo_expression_25 lMo_215 vMo_take ⟨_, _, rfl⟩ (Mo_take_ok _ _ _ _ hR  _ _ hp.1) rfl rfl rfl (Nat.le_of_ble_eq_true rfl) (fun h25 => ?_) (fun h25 => hF.trans (by first | (simp only [fMo_expression_24, if_neg h25]; done) | (simp only [fMo_expression_24, if_neg h25]; rfl) | rfl))
  refine pm_wk [0, 1, 2] rfl ?_
  exact Mo_expression_n28 g d ex R hR G GQ hG0 hG1 hG2 J _ _ _ _   _ _ _ (hp.2 h25) (hF.trans (by first | (simp only [fMo_expression_24, if_pos h25]; done) | (simp only [fMo_expression_24, if_pos h25]; rfl) | rfl))
set_option maxHeartbeats 4000000 in
set_option maxRecDepth 100000 in
theorem Mo_expression_n11 (g : pmG) (d : Nat) (ex : List (Nat × Nat)) (R : Nat → Nat → Value) (hR : mk_R R) (G : Nat → Int32 → Int32 → (Nat → Nat → Int32) → Int32 × Int32 × Int32 × (Nat → Nat → Int32)) (GQ : Nat → Int32 → Int32 → (Nat → Nat → Int32) → Prop) (hG0 : ∀ (x0 x1 : Int32) (I : Nat → Nat → Int32) (J : Nat → Nat → Int64), GQ 0 x0 x1 I → pmT g kMo_expression (d + 12) [.ref 40, .int x0] (mk_K ++ ex, R, I, J) (pt_I (mk_K ++ ex) R J (G 0 x0 x1 I))) (hG1 : ∀ (x0 x1 : Int32) (I : Nat → Nat → Int32) (J : Nat → Nat → Int64), GQ 1 x0 x1 I → pmT g kMo_chain (d + 12) [.ref 40, .int x0, .int x1] (mk_K ++ ex, R, I, J) (pt_I (mk_K ++ ex) R J (G 1 x0 x1 I))) (hG2 : ∀ (x0 x1 : Int32) (I : Nat → Nat → Int32) (J : Nat → Nat → Int64), GQ 2 x0 x1 I → pmT g kMo_unary (d + 12) [.ref 40, .int x0] (mk_K ++ ex, R, I, J) (pt_I (mk_K ++ ex) R J (G 2 x0 x1 I))) (J : Nat → Nat → Int64) (o : Outcome) (Z : pmM) (rc rs : Nat)  (y1 : Int32) (y2 : Int32) (z0 : Int32) (I : Nat → Nat → Int32) (hp : pMo_expression_11 G GQ y1 y2 z0 I) (hF : (o, Z, rc, rs) = pt_I (mk_K ++ ex) R J (fMo_expression_11 G y1 y2 z0 I)) : pmE g kMo_expression (d + 13) rc rs 11 [(0, .ref 40), (1, .int y1), (2, .int y2)] [.int z0] (mk_K ++ ex) R I J o Z := by
  unfold pMo_expression_11 at hp
  refine pm_bipush (v := 63) dMo_expression_11 (by decide) ?_
  refine pm_icmp_eq 18 dMo_expression_13 (by decide) (fun h13 => ?_) (fun h13 => ?_)
  ·
    refine pm_aload_n dMo_expression_18 rfl ?_
    refine pm_bipush (v := 40) dMo_expression_19 (by decide) ?_
    refine pt_callV (v2 := some (.int 0)) dMo_expression_21 lMo_267 vMo_pays ⟨_, _, rfl⟩ (Mo_pays_ok _ _ _ _ hR _ _ _ (hp.1 h13).1) rfl rfl rfl (Nat.le_of_ble_eq_true rfl) (fun h21 => ?_) (fun h21 => hF.trans (by first | (simp only [fMo_expression_11, if_pos h13, if_neg h21]; done) | (simp only [fMo_expression_11, if_pos h13, if_neg h21]; rfl) | rfl))
    refine pm_wk [0, 1, 2] rfl ?_
    exact Mo_expression_n24 g d ex R hR G GQ hG0 hG1 hG2 J _ _ _ _   _ _ _ ((hp.1 h13).2 h21) (hF.trans (by first | (simp only [fMo_expression_11, if_pos h13, if_pos h21]; done) | (simp only [fMo_expression_11, if_pos h13, if_pos h21]; rfl) | rfl))
  ·
    refine pm_iload_n dMo_expression_16 rfl ?_
    exact pt_iret dMo_expression_17 rfl (hF.trans (by first | (simp only [fMo_expression_11, if_neg h13]; done) | (simp only [fMo_expression_11, if_neg h13]; rfl) | rfl))
set_option maxHeartbeats 4000000 in
set_option maxRecDepth 100000 in
theorem Mo_expression_n6 (g : pmG) (d : Nat) (ex : List (Nat × Nat)) (R : Nat → Nat → Value) (hR : mk_R R) (G : Nat → Int32 → Int32 → (Nat → Nat → Int32) → Int32 × Int32 × Int32 × (Nat → Nat → Int32)) (GQ : Nat → Int32 → Int32 → (Nat → Nat → Int32) → Prop) (hG0 : ∀ (x0 x1 : Int32) (I : Nat → Nat → Int32) (J : Nat → Nat → Int64), GQ 0 x0 x1 I → pmT g kMo_expression (d + 12) [.ref 40, .int x0] (mk_K ++ ex, R, I, J) (pt_I (mk_K ++ ex) R J (G 0 x0 x1 I))) (hG1 : ∀ (x0 x1 : Int32) (I : Nat → Nat → Int32) (J : Nat → Nat → Int64), GQ 1 x0 x1 I → pmT g kMo_chain (d + 12) [.ref 40, .int x0, .int x1] (mk_K ++ ex, R, I, J) (pt_I (mk_K ++ ex) R J (G 1 x0 x1 I))) (hG2 : ∀ (x0 x1 : Int32) (I : Nat → Nat → Int32) (J : Nat → Nat → Int64), GQ 2 x0 x1 I → pmT g kMo_unary (d + 12) [.ref 40, .int x0] (mk_K ++ ex, R, I, J) (pt_I (mk_K ++ ex) R J (G 2 x0 x1 I))) (J : Nat → Nat → Int64) (o : Outcome) (Z : pmM) (rc rs : Nat)  (y1 : Int32) (z0 : Int32) (I : Nat → Nat → Int32) (hp : pMo_expression_6 G GQ y1 z0 I) (hF : (o, Z, rc, rs) = pt_I (mk_K ++ ex) R J (fMo_expression_6 G y1 z0 I)) : pmE g kMo_expression (d + 13) rc rs 6 [(0, .ref 40), (1, .int y1)] [.int z0] (mk_K ++ ex) R I J o Z := by
  unfold pMo_expression_6 at hp
  refine pm_istore_n dMo_expression_6 (by decide) rfl ?_
  refine pm_aload_n dMo_expression_7 rfl ?_
  refine pt_callV (v2 := some (.int 0)) dMo_expression_8 lMo_207 vMo_peek ⟨_, _, rfl⟩ (Mo_peek_ok _ _ _ _ hR _ _ _ _ hp.1) rfl rfl rfl (Nat.le_of_ble_eq_true rfl) (fun h8 => ?_) (fun h8 => hF.trans (by first | (simp only [fMo_expression_6, if_neg h8]; done) | (simp only [fMo_expression_6, if_neg h8]; rfl) | rfl))
  refine pm_wk [1, 2, 0] rfl ?_
  exact Mo_expression_n11 g d ex R hR G GQ hG0 hG1 hG2 J _ _ _ _   _ _ _ _ (hp.2 h8) (hF.trans (by first | (simp only [fMo_expression_6, if_pos h8]; done) | (simp only [fMo_expression_6, if_pos h8]; rfl) | rfl))
set_option maxHeartbeats 4000000 in
set_option maxRecDepth 100000 in
theorem Mo_expression_n0 (g : pmG) (d : Nat) (ex : List (Nat × Nat)) (R : Nat → Nat → Value) (hR : mk_R R) (G : Nat → Int32 → Int32 → (Nat → Nat → Int32) → Int32 × Int32 × Int32 × (Nat → Nat → Int32)) (GQ : Nat → Int32 → Int32 → (Nat → Nat → Int32) → Prop) (hG0 : ∀ (x0 x1 : Int32) (I : Nat → Nat → Int32) (J : Nat → Nat → Int64), GQ 0 x0 x1 I → pmT g kMo_expression (d + 12) [.ref 40, .int x0] (mk_K ++ ex, R, I, J) (pt_I (mk_K ++ ex) R J (G 0 x0 x1 I))) (hG1 : ∀ (x0 x1 : Int32) (I : Nat → Nat → Int32) (J : Nat → Nat → Int64), GQ 1 x0 x1 I → pmT g kMo_chain (d + 12) [.ref 40, .int x0, .int x1] (mk_K ++ ex, R, I, J) (pt_I (mk_K ++ ex) R J (G 1 x0 x1 I))) (hG2 : ∀ (x0 x1 : Int32) (I : Nat → Nat → Int32) (J : Nat → Nat → Int64), GQ 2 x0 x1 I → pmT g kMo_unary (d + 12) [.ref 40, .int x0] (mk_K ++ ex, R, I, J) (pt_I (mk_K ++ ex) R J (G 2 x0 x1 I))) (J : Nat → Nat → Int64) (o : Outcome) (Z : pmM) (rc rs : Nat)  (y1 : Int32) (I : Nat → Nat → Int32) (hp : pMo_expression G GQ y1 I) (hF : (o, Z, rc, rs) = pt_I (mk_K ++ ex) R J (fMo_expression G y1 I)) : pmE g kMo_expression (d + 13) rc rs 0 [(0, .ref 40), (1, .int y1)] [] (mk_K ++ ex) R I J o Z := by
  unfold pMo_expression at hp
  refine pm_aload_n dMo_expression_0 rfl ?_
  refine pm_iconst (v := 0) dMo_expression_1 (by decide) ?_
  refine pm_iload_n dMo_expression_2 rfl ?_
  refine pt_callV (v2 := some (.int 0)) dMo_expression_3 lMo_264 vMo_chain ⟨_, _, rfl⟩ (hG1 (0 : Int32) y1 _ _ hp.1) rfl rfl rfl (Nat.le_of_ble_eq_true rfl) (fun h3 => ?_) (fun h3 => hF.trans (by first | (simp only [fMo_expression, if_neg h3]; done) | (simp only [fMo_expression, if_neg h3]; rfl) | rfl))
  refine pm_wk [0, 1] rfl ?_
  exact Mo_expression_n6 g d ex R hR G GQ hG0 hG1 hG2 J _ _ _ _   _ _ _ (hp.2 h3) (hF.trans (by first | (simp only [fMo_expression, if_pos h3]; done) | (simp only [fMo_expression, if_pos h3]; rfl) | rfl))
set_option maxHeartbeats 4000000 in
set_option maxRecDepth 100000 in
theorem Mo_expression_ok (g : pmG) (d : Nat) (ex : List (Nat × Nat)) (R : Nat → Nat → Value) (hR : mk_R R) (G : Nat → Int32 → Int32 → (Nat → Nat → Int32) → Int32 × Int32 × Int32 × (Nat → Nat → Int32)) (GQ : Nat → Int32 → Int32 → (Nat → Nat → Int32) → Prop) (hG0 : ∀ (x0 x1 : Int32) (I : Nat → Nat → Int32) (J : Nat → Nat → Int64), GQ 0 x0 x1 I → pmT g kMo_expression (d + 12) [.ref 40, .int x0] (mk_K ++ ex, R, I, J) (pt_I (mk_K ++ ex) R J (G 0 x0 x1 I))) (hG1 : ∀ (x0 x1 : Int32) (I : Nat → Nat → Int32) (J : Nat → Nat → Int64), GQ 1 x0 x1 I → pmT g kMo_chain (d + 12) [.ref 40, .int x0, .int x1] (mk_K ++ ex, R, I, J) (pt_I (mk_K ++ ex) R J (G 1 x0 x1 I))) (hG2 : ∀ (x0 x1 : Int32) (I : Nat → Nat → Int32) (J : Nat → Nat → Int64), GQ 2 x0 x1 I → pmT g kMo_unary (d + 12) [.ref 40, .int x0] (mk_K ++ ex, R, I, J) (pt_I (mk_K ++ ex) R J (G 2 x0 x1 I)))  (x0 : Int32) (I : Nat → Nat → Int32) (J : Nat → Nat → Int64) (hp : pMo_expression G GQ x0 I) : pmT g kMo_expression (d + 13) [.ref 40, .int x0] (mk_K ++ ex, R, I, J) (pt_I (mk_K ++ ex) R J (fMo_expression G x0 I)) :=
  pmC.of (by decide) (Nat.le_of_ble_eq_true rfl) (Mo_expression_n0 g d ex R hR G GQ hG0 hG1 hG2 J _ _ _ _  x0 I hp rfl)
def fMo_chain_74 (G : Nat → Int32 → Int32 → (Nat → Nat → Int32) → Int32 × Int32 × Int32 × (Nat → Nat → Int32)) (r37 : Int32 → Int32 → Int32 → Int32 → (Nat → Nat → Int32) → Int32 × Int32 × Int32 × (Nat → Nat → Int32)) (y1 : Int32) (y2 : Int32) (y3 : Int32) (y4 : Int32) (y5 : Int32) (z0 : Int32) (I : Nat → Nat → Int32) : Int32 × Int32 × Int32 × (Nat → Nat → Int32) :=
  r37 y1 y2 y3 z0 (pm_u (pm_u I 56 z0.toNatClampNeg y5) 55 y4.toNatClampNeg z0)
def pMo_chain_74 (G : Nat → Int32 → Int32 → (Nat → Nat → Int32) → Int32 × Int32 × Int32 × (Nat → Nat → Int32)) (GQ : Nat → Int32 → Int32 → (Nat → Nat → Int32) → Prop) (q37 : Int32 → Int32 → Int32 → Int32 → (Nat → Nat → Int32) → Prop) (y1 : Int32) (y2 : Int32) (y3 : Int32) (y4 : Int32) (y5 : Int32) (z0 : Int32) (I : Nat → Nat → Int32) : Prop :=
  (vp_in z0 4200) ∧ ((vp_in y4 4200) ∧ (q37 y1 y2 y3 z0 (pm_u (pm_u I 56 z0.toNatClampNeg y5) 55 y4.toNatClampNeg z0)))
def fMo_chain_66 (G : Nat → Int32 → Int32 → (Nat → Nat → Int32) → Int32 × Int32 × Int32 × (Nat → Nat → Int32)) (r37 : Int32 → Int32 → Int32 → Int32 → (Nat → Nat → Int32) → Int32 × Int32 × Int32 × (Nat → Nat → Int32)) (y1 : Int32) (y2 : Int32) (y3 : Int32) (y4 : Int32) (y5 : Int32) (I : Nat → Nat → Int32) : Int32 × Int32 × Int32 × (Nat → Nat → Int32) :=
  if (G 1 (y1 + (1 : Int32)) y2 I).1 = 0 then fMo_chain_74 G r37 y1 y2 y3 y4 y5 ((G 1 (y1 + (1 : Int32)) y2 I).2.2.1) ((G 1 (y1 + (1 : Int32)) y2 I).2.2.2)
  else ((G 1 (y1 + (1 : Int32)) y2 I).1, (G 1 (y1 + (1 : Int32)) y2 I).2.1, 0, (G 1 (y1 + (1 : Int32)) y2 I).2.2.2)
def pMo_chain_66 (G : Nat → Int32 → Int32 → (Nat → Nat → Int32) → Int32 × Int32 × Int32 × (Nat → Nat → Int32)) (GQ : Nat → Int32 → Int32 → (Nat → Nat → Int32) → Prop) (q37 : Int32 → Int32 → Int32 → Int32 → (Nat → Nat → Int32) → Prop) (y1 : Int32) (y2 : Int32) (y3 : Int32) (y4 : Int32) (y5 : Int32) (I : Nat → Nat → Int32) : Prop :=
  (GQ 1 (y1 + (1 : Int32)) y2 I) ∧ ((G 1 (y1 + (1 : Int32)) y2 I).1 = 0 → pMo_chain_74 G GQ q37 y1 y2 y3 y4 y5 ((G 1 (y1 + (1 : Int32)) y2 I).2.2.1) ((G 1 (y1 + (1 : Int32)) y2 I).2.2.2))
def fMo_chain_62 (G : Nat → Int32 → Int32 → (Nat → Nat → Int32) → Int32 × Int32 × Int32 × (Nat → Nat → Int32)) (r37 : Int32 → Int32 → Int32 → Int32 → (Nat → Nat → Int32) → Int32 × Int32 × Int32 × (Nat → Nat → Int32)) (y1 : Int32) (y2 : Int32) (y3 : Int32) (y4 : Int32) (y5 : Int32) (I : Nat → Nat → Int32) : Int32 × Int32 × Int32 × (Nat → Nat → Int32) :=
  if (fMo_take I).1 = 0 then fMo_chain_66 G r37 y1 y2 y3 y4 y5 ((fMo_take I).2.2)
  else ((fMo_take I).1, (fMo_take I).2.1, 0, (fMo_take I).2.2)
def pMo_chain_62 (G : Nat → Int32 → Int32 → (Nat → Nat → Int32) → Int32 × Int32 × Int32 × (Nat → Nat → Int32)) (GQ : Nat → Int32 → Int32 → (Nat → Nat → Int32) → Prop) (q37 : Int32 → Int32 → Int32 → Int32 → (Nat → Nat → Int32) → Prop) (y1 : Int32) (y2 : Int32) (y3 : Int32) (y4 : Int32) (y5 : Int32) (I : Nat → Nat → Int32) : Prop :=
  (pMo_take I) ∧ ((fMo_take I).1 = 0 → pMo_chain_66 G GQ q37 y1 y2 y3 y4 y5 ((fMo_take I).2.2))
def fMo_chain_52 (G : Nat → Int32 → Int32 → (Nat → Nat → Int32) → Int32 × Int32 × Int32 × (Nat → Nat → Int32)) (r37 : Int32 → Int32 → Int32 → Int32 → (Nat → Nat → Int32) → Int32 × Int32 × Int32 × (Nat → Nat → Int32)) (y1 : Int32) (y2 : Int32) (y3 : Int32) (y4 : Int32) (z0 : Int32) (I : Nat → Nat → Int32) : Int32 × Int32 × Int32 × (Nat → Nat → Int32) :=
  if (fMo_pays ((fMo_price y1)) I).1 = 0 then fMo_chain_62 G r37 y1 y2 y3 y4 z0 ((fMo_pays ((fMo_price y1)) I).2.2)
  else ((fMo_pays ((fMo_price y1)) I).1, (fMo_pays ((fMo_price y1)) I).2.1, 0, (fMo_pays ((fMo_price y1)) I).2.2)
def pMo_chain_52 (G : Nat → Int32 → Int32 → (Nat → Nat → Int32) → Int32 × Int32 × Int32 × (Nat → Nat → Int32)) (GQ : Nat → Int32 → Int32 → (Nat → Nat → Int32) → Prop) (q37 : Int32 → Int32 → Int32 → Int32 → (Nat → Nat → Int32) → Prop) (y1 : Int32) (y2 : Int32) (y3 : Int32) (y4 : Int32) (z0 : Int32) (I : Nat → Nat → Int32) : Prop :=
  (pMo_price y1) ∧ ((pMo_pays ((fMo_price y1)) I) ∧ ((fMo_pays ((fMo_price y1)) I).1 = 0 → pMo_chain_62 G GQ q37 y1 y2 y3 y4 z0 ((fMo_pays ((fMo_price y1)) I).2.2)))
def fMo_chain_42 (G : Nat → Int32 → Int32 → (Nat → Nat → Int32) → Int32 × Int32 × Int32 × (Nat → Nat → Int32)) (r37 : Int32 → Int32 → Int32 → Int32 → (Nat → Nat → Int32) → Int32 × Int32 × Int32 × (Nat → Nat → Int32)) (y1 : Int32) (y2 : Int32) (y3 : Int32) (y4 : Int32) (z0 : Int32) (z1 : Int32) (I : Nat → Nat → Int32) : Int32 × Int32 × Int32 × (Nat → Nat → Int32) :=
  if ((fMo_joins z0 z1)) = 0 then (0, 0, (fMo_node (3 : Int32) (0 : Int32) y3 I).1, (fMo_node (3 : Int32) (0 : Int32) y3 I).2)
  else if (fMo_peek 65537 65537 I).1 = 0 then fMo_chain_52 G r37 y1 y2 y3 y4 ((fMo_peek 65537 65537 I).2.2.1) ((fMo_peek 65537 65537 I).2.2.2)
    else ((fMo_peek 65537 65537 I).1, (fMo_peek 65537 65537 I).2.1, 0, (fMo_peek 65537 65537 I).2.2.2)
def pMo_chain_42 (G : Nat → Int32 → Int32 → (Nat → Nat → Int32) → Int32 × Int32 × Int32 × (Nat → Nat → Int32)) (GQ : Nat → Int32 → Int32 → (Nat → Nat → Int32) → Prop) (q37 : Int32 → Int32 → Int32 → Int32 → (Nat → Nat → Int32) → Prop) (y1 : Int32) (y2 : Int32) (y3 : Int32) (y4 : Int32) (z0 : Int32) (z1 : Int32) (I : Nat → Nat → Int32) : Prop :=
  (pMo_joins z0 z1) ∧ ((((fMo_joins z0 z1)) = 0 → (pMo_node (3 : Int32) (0 : Int32) y3 I) ∧ True) ∧
  (¬ (((fMo_joins z0 z1)) = 0) → (pMo_peek 65537 65537 I) ∧ ((fMo_peek 65537 65537 I).1 = 0 → pMo_chain_52 G GQ q37 y1 y2 y3 y4 ((fMo_peek 65537 65537 I).2.2.1) ((fMo_peek 65537 65537 I).2.2.2))))
def fMo_chain_37 (G : Nat → Int32 → Int32 → (Nat → Nat → Int32) → Int32 × Int32 × Int32 × (Nat → Nat → Int32)) : Nat → Int32 → Int32 → Int32 → Int32 → (Nat → Nat → Int32) → Int32 × Int32 × Int32 × (Nat → Nat → Int32)
  | 0, _, _, _, _, I => (0, 0, 0, I)
  | n + 1, y1, y2, y3, y4, I =>
  if (fMo_peek 65537 65537 I).1 = 0 then fMo_chain_42 G (fMo_chain_37 G n) y1 y2 y3 y4 y1 ((fMo_peek 65537 65537 I).2.2.1) ((fMo_peek 65537 65537 I).2.2.2)
  else ((fMo_peek 65537 65537 I).1, (fMo_peek 65537 65537 I).2.1, 0, (fMo_peek 65537 65537 I).2.2.2)
def pMo_chain_37 (G : Nat → Int32 → Int32 → (Nat → Nat → Int32) → Int32 × Int32 × Int32 × (Nat → Nat → Int32)) (GQ : Nat → Int32 → Int32 → (Nat → Nat → Int32) → Prop) : Nat → Int32 → Int32 → Int32 → Int32 → (Nat → Nat → Int32) → Prop
  | 0, _, _, _, _, _ => False
  | n + 1, y1, y2, y3, y4, I =>
  (pMo_peek 65537 65537 I) ∧ ((fMo_peek 65537 65537 I).1 = 0 → pMo_chain_42 G GQ (pMo_chain_37 G GQ n) y1 y2 y3 y4 y1 ((fMo_peek 65537 65537 I).2.2.1) ((fMo_peek 65537 65537 I).2.2.2))
def fMo_chain_26 (G : Nat → Int32 → Int32 → (Nat → Nat → Int32) → Int32 × Int32 × Int32 × (Nat → Nat → Int32)) (n37 : Nat) (y1 : Int32) (y2 : Int32) (y3 : Int32) (z0 : Int32) (z1 : Int32) (I : Nat → Nat → Int32) : Int32 × Int32 × Int32 × (Nat → Nat → Int32) :=
  if ((fMo_joins z0 z1)) = 0 then (0, 0, y3, I)
  else fMo_chain_37 G n37 y1 y2 y3 y3 I
def pMo_chain_26 (G : Nat → Int32 → Int32 → (Nat → Nat → Int32) → Int32 × Int32 × Int32 × (Nat → Nat → Int32)) (GQ : Nat → Int32 → Int32 → (Nat → Nat → Int32) → Prop) (n37 : Nat) (y1 : Int32) (y2 : Int32) (y3 : Int32) (z0 : Int32) (z1 : Int32) (I : Nat → Nat → Int32) : Prop :=
  (pMo_joins z0 z1) ∧ ((((fMo_joins z0 z1)) = 0 → True) ∧
  (¬ (((fMo_joins z0 z1)) = 0) → pMo_chain_37 G GQ n37 y1 y2 y3 y3 I))
def fMo_chain_20 (G : Nat → Int32 → Int32 → (Nat → Nat → Int32) → Int32 × Int32 × Int32 × (Nat → Nat → Int32)) (n37 : Nat) (y1 : Int32) (y2 : Int32) (z0 : Int32) (I : Nat → Nat → Int32) : Int32 × Int32 × Int32 × (Nat → Nat → Int32) :=
  if (fMo_peek 65537 65537 I).1 = 0 then fMo_chain_26 G n37 y1 y2 z0 y1 ((fMo_peek 65537 65537 I).2.2.1) ((fMo_peek 65537 65537 I).2.2.2)
  else ((fMo_peek 65537 65537 I).1, (fMo_peek 65537 65537 I).2.1, 0, (fMo_peek 65537 65537 I).2.2.2)
def pMo_chain_20 (G : Nat → Int32 → Int32 → (Nat → Nat → Int32) → Int32 × Int32 × Int32 × (Nat → Nat → Int32)) (GQ : Nat → Int32 → Int32 → (Nat → Nat → Int32) → Prop) (n37 : Nat) (y1 : Int32) (y2 : Int32) (z0 : Int32) (I : Nat → Nat → Int32) : Prop :=
  (pMo_peek 65537 65537 I) ∧ ((fMo_peek 65537 65537 I).1 = 0 → pMo_chain_26 G GQ n37 y1 y2 z0 y1 ((fMo_peek 65537 65537 I).2.2.1) ((fMo_peek 65537 65537 I).2.2.2))
def fMo_chain (G : Nat → Int32 → Int32 → (Nat → Nat → Int32) → Int32 × Int32 × Int32 × (Nat → Nat → Int32)) (n37 : Nat) (y1 : Int32) (y2 : Int32) (I : Nat → Nat → Int32) : Int32 × Int32 × Int32 × (Nat → Nat → Int32) :=
  if y1 = (10 : Int32) then if (G 2 y2 0 I).1 = 0 then (0, 0, (G 2 y2 0 I).2.2.1, (G 2 y2 0 I).2.2.2)
    else ((G 2 y2 0 I).1, (G 2 y2 0 I).2.1, 0, (G 2 y2 0 I).2.2.2)
  else if (G 1 (y1 + (1 : Int32)) y2 I).1 = 0 then fMo_chain_20 G n37 y1 y2 ((G 1 (y1 + (1 : Int32)) y2 I).2.2.1) ((G 1 (y1 + (1 : Int32)) y2 I).2.2.2)
    else ((G 1 (y1 + (1 : Int32)) y2 I).1, (G 1 (y1 + (1 : Int32)) y2 I).2.1, 0, (G 1 (y1 + (1 : Int32)) y2 I).2.2.2)
def pMo_chain (G : Nat → Int32 → Int32 → (Nat → Nat → Int32) → Int32 × Int32 × Int32 × (Nat → Nat → Int32)) (GQ : Nat → Int32 → Int32 → (Nat → Nat → Int32) → Prop) (n37 : Nat) (y1 : Int32) (y2 : Int32) (I : Nat → Nat → Int32) : Prop :=
  (y1 = (10 : Int32) → (GQ 2 y2 0 I) ∧ ((G 2 y2 0 I).1 = 0 → True)) ∧
  (¬ (y1 = (10 : Int32)) → (GQ 1 (y1 + (1 : Int32)) y2 I) ∧ ((G 1 (y1 + (1 : Int32)) y2 I).1 = 0 → pMo_chain_20 G GQ n37 y1 y2 ((G 1 (y1 + (1 : Int32)) y2 I).2.2.1) ((G 1 (y1 + (1 : Int32)) y2 I).2.2.2)))
set_option maxHeartbeats 4000000 in
set_option maxRecDepth 100000 in
theorem Mo_chain_n74 (g : pmG) (d : Nat) (ex : List (Nat × Nat)) (R : Nat → Nat → Value) (hR : mk_R R) (G : Nat → Int32 → Int32 → (Nat → Nat → Int32) → Int32 × Int32 × Int32 × (Nat → Nat → Int32)) (GQ : Nat → Int32 → Int32 → (Nat → Nat → Int32) → Prop) (hG0 : ∀ (x0 x1 : Int32) (I : Nat → Nat → Int32) (J : Nat → Nat → Int64), GQ 0 x0 x1 I → pmT g kMo_expression (d + 12) [.ref 40, .int x0] (mk_K ++ ex, R, I, J) (pt_I (mk_K ++ ex) R J (G 0 x0 x1 I))) (hG1 : ∀ (x0 x1 : Int32) (I : Nat → Nat → Int32) (J : Nat → Nat → Int64), GQ 1 x0 x1 I → pmT g kMo_chain (d + 12) [.ref 40, .int x0, .int x1] (mk_K ++ ex, R, I, J) (pt_I (mk_K ++ ex) R J (G 1 x0 x1 I))) (hG2 : ∀ (x0 x1 : Int32) (I : Nat → Nat → Int32) (J : Nat → Nat → Int64), GQ 2 x0 x1 I → pmT g kMo_unary (d + 12) [.ref 40, .int x0] (mk_K ++ ex, R, I, J) (pt_I (mk_K ++ ex) R J (G 2 x0 x1 I))) (J : Nat → Nat → Int64) (o : Outcome) (Z : pmM) (rc rs : Nat) (r37 : Int32 → Int32 → Int32 → Int32 → (Nat → Nat → Int32) → Int32 × Int32 × Int32 × (Nat → Nat → Int32)) (q37 : Int32 → Int32 → Int32 → Int32 → (Nat → Nat → Int32) → Prop) (ih37 : ∀ (y1 : Int32) (y2 : Int32) (y3 : Int32) (y4 : Int32) (I : Nat → Nat → Int32), q37 y1 y2 y3 y4 I → (o, Z, rc, rs) = pt_I (mk_K ++ ex) R J (r37 y1 y2 y3 y4 I) → pmE g kMo_chain (d + 13) rc rs 37 [(0, .ref 40), (1, .int y1), (2, .int y2), (3, .int y3), (4, .int y4)] [] (mk_K ++ ex) R I J o Z)  (y1 : Int32) (y2 : Int32) (y3 : Int32) (y4 : Int32) (y5 : Int32) (z0 : Int32) (I : Nat → Nat → Int32) (hp : pMo_chain_74 G GQ q37 y1 y2 y3 y4 y5 z0 I) (hF : (o, Z, rc, rs) = pt_I (mk_K ++ ex) R J (fMo_chain_74 G r37 y1 y2 y3 y4 y5 z0 I)) : pmE g kMo_chain (d + 13) rc rs 74 [(0, .ref 40), (1, .int y1), (2, .int y2), (3, .int y3), (4, .int y4), (5, .int y5)] [.int z0] (mk_K ++ ex) R I J o Z := by
  unfold pMo_chain_74 at hp
  refine pm_istore dMo_chain_74 (by decide) rfl ?_
  refine pm_aload_n dMo_chain_76 rfl ?_
  refine pm_getr dMo_chain_77 fMo_113 rfl (rr_40_33 hR) ?_
  refine pm_iload dMo_chain_80 rfl ?_
  refine pm_iload dMo_chain_82 rfl ?_
  refine pm_iast dMo_chain_84 rfl hp.1 ?_
  refine pm_aload_n dMo_chain_85 rfl ?_
  refine pm_getr dMo_chain_86 fMo_110 rfl (rr_40_32 hR) ?_
  refine pm_iload dMo_chain_89 rfl ?_
  refine pm_iload dMo_chain_91 rfl ?_
  refine pm_iast dMo_chain_93 rfl hp.2.1 ?_
  refine pm_iload dMo_chain_94 rfl ?_
  refine pm_istore dMo_chain_96 (by decide) rfl ?_
  refine pm_goto 37 dMo_chain_98 (by decide) ?_
  refine pm_wk [2, 3, 4, 5, 0] rfl ?_
  exact ih37 _ _ _ _ _ hp.2.2 (hF.trans (by first | rfl | (simp only [fMo_chain_74]; done) | (simp only [fMo_chain_74]; rfl)))
set_option maxHeartbeats 4000000 in
set_option maxRecDepth 100000 in
theorem Mo_chain_n66 (g : pmG) (d : Nat) (ex : List (Nat × Nat)) (R : Nat → Nat → Value) (hR : mk_R R) (G : Nat → Int32 → Int32 → (Nat → Nat → Int32) → Int32 × Int32 × Int32 × (Nat → Nat → Int32)) (GQ : Nat → Int32 → Int32 → (Nat → Nat → Int32) → Prop) (hG0 : ∀ (x0 x1 : Int32) (I : Nat → Nat → Int32) (J : Nat → Nat → Int64), GQ 0 x0 x1 I → pmT g kMo_expression (d + 12) [.ref 40, .int x0] (mk_K ++ ex, R, I, J) (pt_I (mk_K ++ ex) R J (G 0 x0 x1 I))) (hG1 : ∀ (x0 x1 : Int32) (I : Nat → Nat → Int32) (J : Nat → Nat → Int64), GQ 1 x0 x1 I → pmT g kMo_chain (d + 12) [.ref 40, .int x0, .int x1] (mk_K ++ ex, R, I, J) (pt_I (mk_K ++ ex) R J (G 1 x0 x1 I))) (hG2 : ∀ (x0 x1 : Int32) (I : Nat → Nat → Int32) (J : Nat → Nat → Int64), GQ 2 x0 x1 I → pmT g kMo_unary (d + 12) [.ref 40, .int x0] (mk_K ++ ex, R, I, J) (pt_I (mk_K ++ ex) R J (G 2 x0 x1 I))) (J : Nat → Nat → Int64) (o : Outcome) (Z : pmM) (rc rs : Nat) (r37 : Int32 → Int32 → Int32 → Int32 → (Nat → Nat → Int32) → Int32 × Int32 × Int32 × (Nat → Nat → Int32)) (q37 : Int32 → Int32 → Int32 → Int32 → (Nat → Nat → Int32) → Prop) (ih37 : ∀ (y1 : Int32) (y2 : Int32) (y3 : Int32) (y4 : Int32) (I : Nat → Nat → Int32), q37 y1 y2 y3 y4 I → (o, Z, rc, rs) = pt_I (mk_K ++ ex) R J (r37 y1 y2 y3 y4 I) → pmE g kMo_chain (d + 13) rc rs 37 [(0, .ref 40), (1, .int y1), (2, .int y2), (3, .int y3), (4, .int y4)] [] (mk_K ++ ex) R I J o Z)  (y1 : Int32) (y2 : Int32) (y3 : Int32) (y4 : Int32) (y5 : Int32) (I : Nat → Nat → Int32) (hp : pMo_chain_66 G GQ q37 y1 y2 y3 y4 y5 I) (hF : (o, Z, rc, rs) = pt_I (mk_K ++ ex) R J (fMo_chain_66 G r37 y1 y2 y3 y4 y5 I)) : pmE g kMo_chain (d + 13) rc rs 66 [(0, .ref 40), (1, .int y1), (2, .int y2), (3, .int y3), (4, .int y4), (5, .int y5)] [] (mk_K ++ ex) R I J o Z := by
  unfold pMo_chain_66 at hp
  refine pm_aload_n dMo_chain_66 rfl ?_
  refine pm_iload_n dMo_chain_67 rfl ?_
  refine pm_iconst (v := 1) dMo_chain_68 (by decide) ?_
  refine pm_iadd dMo_chain_69 ?_
  refine pm_iload_n dMo_chain_70 rfl ?_
  refine pt_callV (v2 := some (.int 0)) dMo_chain_71 lMo_264 vMo_chain ⟨_, _, rfl⟩ (hG1 (y1 + (1 : Int32)) y2 _ _ hp.1) rfl rfl rfl (Nat.le_of_ble_eq_true rfl) (fun h71 => ?_) (fun h71 => hF.trans (by first | (simp only [fMo_chain_66, if_neg h71]; done) | (simp only [fMo_chain_66, if_neg h71]; rfl) | rfl))
  refine pm_wk [0, 1, 2, 3, 4, 5] rfl ?_
  exact Mo_chain_n74 g d ex R hR G GQ hG0 hG1 hG2 J _ _ _ _ r37 q37 ih37  _ _ _ _ _ _ _ (hp.2 h71) (hF.trans (by first | (simp only [fMo_chain_66, if_pos h71]; done) | (simp only [fMo_chain_66, if_pos h71]; rfl) | rfl))
set_option maxHeartbeats 4000000 in
set_option maxRecDepth 100000 in
theorem Mo_chain_n62 (g : pmG) (d : Nat) (ex : List (Nat × Nat)) (R : Nat → Nat → Value) (hR : mk_R R) (G : Nat → Int32 → Int32 → (Nat → Nat → Int32) → Int32 × Int32 × Int32 × (Nat → Nat → Int32)) (GQ : Nat → Int32 → Int32 → (Nat → Nat → Int32) → Prop) (hG0 : ∀ (x0 x1 : Int32) (I : Nat → Nat → Int32) (J : Nat → Nat → Int64), GQ 0 x0 x1 I → pmT g kMo_expression (d + 12) [.ref 40, .int x0] (mk_K ++ ex, R, I, J) (pt_I (mk_K ++ ex) R J (G 0 x0 x1 I))) (hG1 : ∀ (x0 x1 : Int32) (I : Nat → Nat → Int32) (J : Nat → Nat → Int64), GQ 1 x0 x1 I → pmT g kMo_chain (d + 12) [.ref 40, .int x0, .int x1] (mk_K ++ ex, R, I, J) (pt_I (mk_K ++ ex) R J (G 1 x0 x1 I))) (hG2 : ∀ (x0 x1 : Int32) (I : Nat → Nat → Int32) (J : Nat → Nat → Int64), GQ 2 x0 x1 I → pmT g kMo_unary (d + 12) [.ref 40, .int x0] (mk_K ++ ex, R, I, J) (pt_I (mk_K ++ ex) R J (G 2 x0 x1 I))) (J : Nat → Nat → Int64) (o : Outcome) (Z : pmM) (rc rs : Nat) (r37 : Int32 → Int32 → Int32 → Int32 → (Nat → Nat → Int32) → Int32 × Int32 × Int32 × (Nat → Nat → Int32)) (q37 : Int32 → Int32 → Int32 → Int32 → (Nat → Nat → Int32) → Prop) (ih37 : ∀ (y1 : Int32) (y2 : Int32) (y3 : Int32) (y4 : Int32) (I : Nat → Nat → Int32), q37 y1 y2 y3 y4 I → (o, Z, rc, rs) = pt_I (mk_K ++ ex) R J (r37 y1 y2 y3 y4 I) → pmE g kMo_chain (d + 13) rc rs 37 [(0, .ref 40), (1, .int y1), (2, .int y2), (3, .int y3), (4, .int y4)] [] (mk_K ++ ex) R I J o Z)  (y1 : Int32) (y2 : Int32) (y3 : Int32) (y4 : Int32) (y5 : Int32) (I : Nat → Nat → Int32) (hp : pMo_chain_62 G GQ q37 y1 y2 y3 y4 y5 I) (hF : (o, Z, rc, rs) = pt_I (mk_K ++ ex) R J (fMo_chain_62 G r37 y1 y2 y3 y4 y5 I)) : pmE g kMo_chain (d + 13) rc rs 62 [(0, .ref 40), (1, .int y1), (2, .int y2), (3, .int y3), (4, .int y4), (5, .int y5)] [] (mk_K ++ ex) R I J o Z := by
  unfold pMo_chain_62 at hp
  refine pm_aload_n dMo_chain_62 rfl ?_
  refine pt_callV (v2 := some (.int 0)) dMo_chain_63 lMo_215 vMo_take ⟨_, _, rfl⟩ (Mo_take_ok _ _ _ _ hR  _ _ hp.1) rfl rfl rfl (Nat.le_of_ble_eq_true rfl) (fun h63 => ?_) (fun h63 => hF.trans (by first | (simp only [fMo_chain_62, if_neg h63]; done) | (simp only [fMo_chain_62, if_neg h63]; rfl) | rfl))
  refine pm_wk [0, 1, 2, 3, 4, 5] rfl ?_
  exact Mo_chain_n66 g d ex R hR G GQ hG0 hG1 hG2 J _ _ _ _ r37 q37 ih37  _ _ _ _ _ _ (hp.2 h63) (hF.trans (by first | (simp only [fMo_chain_62, if_pos h63]; done) | (simp only [fMo_chain_62, if_pos h63]; rfl) | rfl))
set_option maxHeartbeats 4000000 in
set_option maxRecDepth 100000 in
theorem Mo_chain_n52 (g : pmG) (d : Nat) (ex : List (Nat × Nat)) (R : Nat → Nat → Value) (hR : mk_R R) (G : Nat → Int32 → Int32 → (Nat → Nat → Int32) → Int32 × Int32 × Int32 × (Nat → Nat → Int32)) (GQ : Nat → Int32 → Int32 → (Nat → Nat → Int32) → Prop) (hG0 : ∀ (x0 x1 : Int32) (I : Nat → Nat → Int32) (J : Nat → Nat → Int64), GQ 0 x0 x1 I → pmT g kMo_expression (d + 12) [.ref 40, .int x0] (mk_K ++ ex, R, I, J) (pt_I (mk_K ++ ex) R J (G 0 x0 x1 I))) (hG1 : ∀ (x0 x1 : Int32) (I : Nat → Nat → Int32) (J : Nat → Nat → Int64), GQ 1 x0 x1 I → pmT g kMo_chain (d + 12) [.ref 40, .int x0, .int x1] (mk_K ++ ex, R, I, J) (pt_I (mk_K ++ ex) R J (G 1 x0 x1 I))) (hG2 : ∀ (x0 x1 : Int32) (I : Nat → Nat → Int32) (J : Nat → Nat → Int64), GQ 2 x0 x1 I → pmT g kMo_unary (d + 12) [.ref 40, .int x0] (mk_K ++ ex, R, I, J) (pt_I (mk_K ++ ex) R J (G 2 x0 x1 I))) (J : Nat → Nat → Int64) (o : Outcome) (Z : pmM) (rc rs : Nat) (r37 : Int32 → Int32 → Int32 → Int32 → (Nat → Nat → Int32) → Int32 × Int32 × Int32 × (Nat → Nat → Int32)) (q37 : Int32 → Int32 → Int32 → Int32 → (Nat → Nat → Int32) → Prop) (ih37 : ∀ (y1 : Int32) (y2 : Int32) (y3 : Int32) (y4 : Int32) (I : Nat → Nat → Int32), q37 y1 y2 y3 y4 I → (o, Z, rc, rs) = pt_I (mk_K ++ ex) R J (r37 y1 y2 y3 y4 I) → pmE g kMo_chain (d + 13) rc rs 37 [(0, .ref 40), (1, .int y1), (2, .int y2), (3, .int y3), (4, .int y4)] [] (mk_K ++ ex) R I J o Z)  (y1 : Int32) (y2 : Int32) (y3 : Int32) (y4 : Int32) (z0 : Int32) (I : Nat → Nat → Int32) (hp : pMo_chain_52 G GQ q37 y1 y2 y3 y4 z0 I) (hF : (o, Z, rc, rs) = pt_I (mk_K ++ ex) R J (fMo_chain_52 G r37 y1 y2 y3 y4 z0 I)) : pmE g kMo_chain (d + 13) rc rs 52 [(0, .ref 40), (1, .int y1), (2, .int y2), (3, .int y3), (4, .int y4)] [.int z0] (mk_K ++ ex) R I J o Z := by
  unfold pMo_chain_52 at hp
  refine pm_istore dMo_chain_52 (by decide) rfl ?_
  refine pm_aload_n dMo_chain_54 rfl ?_
  refine pm_iload_n dMo_chain_55 rfl ?_
  refine pm_callS dMo_chain_56 lMo_291 tMo_price (Mo_price_ok _ _ _ _ _ _ _ hp.1) rfl rfl (Nat.le_of_ble_eq_true rfl) (Nat.le_refl _) (Nat.le_refl _) ?_
  refine pt_callV (v2 := some (.int 0)) dMo_chain_59 lMo_267 vMo_pays ⟨_, _, rfl⟩ (Mo_pays_ok _ _ _ _ hR _ _ _ hp.2.1) rfl rfl rfl (Nat.le_of_ble_eq_true rfl) (fun h59 => ?_) (fun h59 => hF.trans (by first | (simp only [fMo_chain_52, if_neg h59]; done) | (simp only [fMo_chain_52, if_neg h59]; rfl) | rfl))
  refine pm_wk [1, 2, 3, 4, 5, 0] rfl ?_
  exact Mo_chain_n62 g d ex R hR G GQ hG0 hG1 hG2 J _ _ _ _ r37 q37 ih37  _ _ _ _ _ _ (hp.2.2 h59) (hF.trans (by first | (simp only [fMo_chain_52, if_pos h59]; done) | (simp only [fMo_chain_52, if_pos h59]; rfl) | rfl))
set_option maxHeartbeats 4000000 in
set_option maxRecDepth 100000 in
theorem Mo_chain_n42 (g : pmG) (d : Nat) (ex : List (Nat × Nat)) (R : Nat → Nat → Value) (hR : mk_R R) (G : Nat → Int32 → Int32 → (Nat → Nat → Int32) → Int32 × Int32 × Int32 × (Nat → Nat → Int32)) (GQ : Nat → Int32 → Int32 → (Nat → Nat → Int32) → Prop) (hG0 : ∀ (x0 x1 : Int32) (I : Nat → Nat → Int32) (J : Nat → Nat → Int64), GQ 0 x0 x1 I → pmT g kMo_expression (d + 12) [.ref 40, .int x0] (mk_K ++ ex, R, I, J) (pt_I (mk_K ++ ex) R J (G 0 x0 x1 I))) (hG1 : ∀ (x0 x1 : Int32) (I : Nat → Nat → Int32) (J : Nat → Nat → Int64), GQ 1 x0 x1 I → pmT g kMo_chain (d + 12) [.ref 40, .int x0, .int x1] (mk_K ++ ex, R, I, J) (pt_I (mk_K ++ ex) R J (G 1 x0 x1 I))) (hG2 : ∀ (x0 x1 : Int32) (I : Nat → Nat → Int32) (J : Nat → Nat → Int64), GQ 2 x0 x1 I → pmT g kMo_unary (d + 12) [.ref 40, .int x0] (mk_K ++ ex, R, I, J) (pt_I (mk_K ++ ex) R J (G 2 x0 x1 I))) (J : Nat → Nat → Int64) (o : Outcome) (Z : pmM) (rc rs : Nat) (r37 : Int32 → Int32 → Int32 → Int32 → (Nat → Nat → Int32) → Int32 × Int32 × Int32 × (Nat → Nat → Int32)) (q37 : Int32 → Int32 → Int32 → Int32 → (Nat → Nat → Int32) → Prop) (ih37 : ∀ (y1 : Int32) (y2 : Int32) (y3 : Int32) (y4 : Int32) (I : Nat → Nat → Int32), q37 y1 y2 y3 y4 I → (o, Z, rc, rs) = pt_I (mk_K ++ ex) R J (r37 y1 y2 y3 y4 I) → pmE g kMo_chain (d + 13) rc rs 37 [(0, .ref 40), (1, .int y1), (2, .int y2), (3, .int y3), (4, .int y4)] [] (mk_K ++ ex) R I J o Z)  (y1 : Int32) (y2 : Int32) (y3 : Int32) (y4 : Int32) (z0 : Int32) (z1 : Int32) (I : Nat → Nat → Int32) (hp : pMo_chain_42 G GQ q37 y1 y2 y3 y4 z0 z1 I) (hF : (o, Z, rc, rs) = pt_I (mk_K ++ ex) R J (fMo_chain_42 G r37 y1 y2 y3 y4 z0 z1 I)) : pmE g kMo_chain (d + 13) rc rs 42 [(0, .ref 40), (1, .int y1), (2, .int y2), (3, .int y3), (4, .int y4)] [.int z1, .int z0] (mk_K ++ ex) R I J o Z := by
  unfold pMo_chain_42 at hp
  refine pm_callS dMo_chain_42 lMo_287 tMo_joins (Mo_joins_ok _ _ _ _ _ _ _ _ hp.1) rfl rfl (Nat.le_of_ble_eq_true rfl) (Nat.le_refl _) (Nat.le_refl _) ?_
  refine pm_if_eq 101 dMo_chain_45 (by decide) (fun h45 => ?_) (fun h45 => ?_)
  ·
    refine pm_aload_n dMo_chain_101 rfl ?_
    refine pm_iconst (v := 3) dMo_chain_102 (by decide) ?_
    refine pm_iconst (v := 0) dMo_chain_103 (by decide) ?_
    refine pm_iload_n dMo_chain_104 rfl ?_
    refine pm_callV dMo_chain_105 lMo_280 vMo_node ⟨_, _, rfl⟩ (Mo_node_ok _ _ _ _ hR _ _ _ _ _ (hp.2.1 h45).1) rfl rfl rfl (Nat.le_of_ble_eq_true rfl) (Nat.le_refl _) (Nat.le_refl _) ?_
    exact pt_iret dMo_chain_108 rfl (hF.trans (by first | (simp only [fMo_chain_42, if_pos h45]; done) | (simp only [fMo_chain_42, if_pos h45]; rfl) | rfl))
  ·
    refine pm_aload_n dMo_chain_48 rfl ?_
    refine pt_callV (v2 := some (.int 0)) dMo_chain_49 lMo_207 vMo_peek ⟨_, _, rfl⟩ (Mo_peek_ok _ _ _ _ hR _ _ _ _ (hp.2.2 h45).1) rfl rfl rfl (Nat.le_of_ble_eq_true rfl) (fun h49 => ?_) (fun h49 => hF.trans (by first | (simp only [fMo_chain_42, if_neg h45, if_neg h49]; done) | (simp only [fMo_chain_42, if_neg h45, if_neg h49]; rfl) | rfl))
    refine pm_wk [0, 1, 2, 3, 4] rfl ?_
    exact Mo_chain_n52 g d ex R hR G GQ hG0 hG1 hG2 J _ _ _ _ r37 q37 ih37  _ _ _ _ _ _ ((hp.2.2 h45).2 h49) (hF.trans (by first | (simp only [fMo_chain_42, if_neg h45, if_pos h49]; done) | (simp only [fMo_chain_42, if_neg h45, if_pos h49]; rfl) | rfl))
set_option maxHeartbeats 4000000 in
set_option maxRecDepth 100000 in
theorem Mo_chain_n37 (g : pmG) (d : Nat) (ex : List (Nat × Nat)) (R : Nat → Nat → Value) (hR : mk_R R) (G : Nat → Int32 → Int32 → (Nat → Nat → Int32) → Int32 × Int32 × Int32 × (Nat → Nat → Int32)) (GQ : Nat → Int32 → Int32 → (Nat → Nat → Int32) → Prop) (hG0 : ∀ (x0 x1 : Int32) (I : Nat → Nat → Int32) (J : Nat → Nat → Int64), GQ 0 x0 x1 I → pmT g kMo_expression (d + 12) [.ref 40, .int x0] (mk_K ++ ex, R, I, J) (pt_I (mk_K ++ ex) R J (G 0 x0 x1 I))) (hG1 : ∀ (x0 x1 : Int32) (I : Nat → Nat → Int32) (J : Nat → Nat → Int64), GQ 1 x0 x1 I → pmT g kMo_chain (d + 12) [.ref 40, .int x0, .int x1] (mk_K ++ ex, R, I, J) (pt_I (mk_K ++ ex) R J (G 1 x0 x1 I))) (hG2 : ∀ (x0 x1 : Int32) (I : Nat → Nat → Int32) (J : Nat → Nat → Int64), GQ 2 x0 x1 I → pmT g kMo_unary (d + 12) [.ref 40, .int x0] (mk_K ++ ex, R, I, J) (pt_I (mk_K ++ ex) R J (G 2 x0 x1 I))) (J : Nat → Nat → Int64) (o : Outcome) (Z : pmM) (rc rs : Nat)  : ∀ (n : Nat) (y1 : Int32) (y2 : Int32) (y3 : Int32) (y4 : Int32) (I : Nat → Nat → Int32), pMo_chain_37 G GQ n y1 y2 y3 y4 I → (o, Z, rc, rs) = pt_I (mk_K ++ ex) R J (fMo_chain_37 G n y1 y2 y3 y4 I) → pmE g kMo_chain (d + 13) rc rs 37 [(0, .ref 40), (1, .int y1), (2, .int y2), (3, .int y3), (4, .int y4)] [] (mk_K ++ ex) R I J o Z := by
  intro n
  induction n with
  | zero => intro y1 y2 y3 y4 I hp; exact False.elim hp
  | succ n ih =>
  intro y1 y2 y3 y4 I hp hF
  simp only [pMo_chain_37] at hp
  refine pm_iload_n dMo_chain_37 rfl ?_
  refine pm_aload_n dMo_chain_38 rfl ?_
  refine pt_callV (v2 := some (.int 0)) dMo_chain_39 lMo_207 vMo_peek ⟨_, _, rfl⟩ (Mo_peek_ok _ _ _ _ hR _ _ _ _ hp.1) rfl rfl rfl (Nat.le_of_ble_eq_true rfl) (fun h39 => ?_) (fun h39 => hF.trans (by first | (simp only [fMo_chain_37, if_neg h39]; done) | (simp only [fMo_chain_37, if_neg h39]; rfl) | rfl))
  refine pm_wk [0, 1, 2, 3, 4] rfl ?_
  exact Mo_chain_n42 g d ex R hR G GQ hG0 hG1 hG2 J _ _ _ _ (fMo_chain_37 G n) (pMo_chain_37 G GQ n) ih  _ _ _ _ _ _ _ (hp.2 h39) (hF.trans (by first | (simp only [fMo_chain_37, if_pos h39]; done) | (simp only [fMo_chain_37, if_pos h39]; rfl) | rfl))
set_option maxHeartbeats 4000000 in
set_option maxRecDepth 100000 in
theorem Mo_chain_n26 (g : pmG) (d : Nat) (ex : List (Nat × Nat)) (R : Nat → Nat → Value) (hR : mk_R R) (G : Nat → Int32 → Int32 → (Nat → Nat → Int32) → Int32 × Int32 × Int32 × (Nat → Nat → Int32)) (GQ : Nat → Int32 → Int32 → (Nat → Nat → Int32) → Prop) (hG0 : ∀ (x0 x1 : Int32) (I : Nat → Nat → Int32) (J : Nat → Nat → Int64), GQ 0 x0 x1 I → pmT g kMo_expression (d + 12) [.ref 40, .int x0] (mk_K ++ ex, R, I, J) (pt_I (mk_K ++ ex) R J (G 0 x0 x1 I))) (hG1 : ∀ (x0 x1 : Int32) (I : Nat → Nat → Int32) (J : Nat → Nat → Int64), GQ 1 x0 x1 I → pmT g kMo_chain (d + 12) [.ref 40, .int x0, .int x1] (mk_K ++ ex, R, I, J) (pt_I (mk_K ++ ex) R J (G 1 x0 x1 I))) (hG2 : ∀ (x0 x1 : Int32) (I : Nat → Nat → Int32) (J : Nat → Nat → Int64), GQ 2 x0 x1 I → pmT g kMo_unary (d + 12) [.ref 40, .int x0] (mk_K ++ ex, R, I, J) (pt_I (mk_K ++ ex) R J (G 2 x0 x1 I))) (J : Nat → Nat → Int64) (o : Outcome) (Z : pmM) (rc rs : Nat) (n37 : Nat) (y1 : Int32) (y2 : Int32) (y3 : Int32) (z0 : Int32) (z1 : Int32) (I : Nat → Nat → Int32) (hp : pMo_chain_26 G GQ n37 y1 y2 y3 z0 z1 I) (hF : (o, Z, rc, rs) = pt_I (mk_K ++ ex) R J (fMo_chain_26 G n37 y1 y2 y3 z0 z1 I)) : pmE g kMo_chain (d + 13) rc rs 26 [(0, .ref 40), (1, .int y1), (2, .int y2), (3, .int y3)] [.int z1, .int z0] (mk_K ++ ex) R I J o Z := by
  unfold pMo_chain_26 at hp
  refine pm_callS dMo_chain_26 lMo_287 tMo_joins (Mo_joins_ok _ _ _ _ _ _ _ _ hp.1) rfl rfl (Nat.le_of_ble_eq_true rfl) (Nat.le_refl _) (Nat.le_refl _) ?_
  refine pm_if_ne 34 dMo_chain_29 (by decide) (fun h29 => ?_) (fun h29 => ?_)
  ·
    refine pm_iload_n dMo_chain_34 rfl ?_
    refine pm_istore dMo_chain_35 (by decide) rfl ?_
    refine pm_wk [1, 2, 3, 4, 0] rfl ?_
    exact Mo_chain_n37 g d ex R hR G GQ hG0 hG1 hG2 J _ _ _ _  n37 _ _ _ _ _ (hp.2.2 h29) (hF.trans (by first | (simp only [fMo_chain_26, if_neg h29]; done) | (simp only [fMo_chain_26, if_neg h29]; rfl) | rfl))
  ·
    refine pm_iload_n dMo_chain_32 rfl ?_
    exact pt_iret dMo_chain_33 rfl (hF.trans (by first | (simp only [fMo_chain_26, if_pos h29]; done) | (simp only [fMo_chain_26, if_pos h29]; rfl) | rfl))
set_option maxHeartbeats 4000000 in
set_option maxRecDepth 100000 in
theorem Mo_chain_n20 (g : pmG) (d : Nat) (ex : List (Nat × Nat)) (R : Nat → Nat → Value) (hR : mk_R R) (G : Nat → Int32 → Int32 → (Nat → Nat → Int32) → Int32 × Int32 × Int32 × (Nat → Nat → Int32)) (GQ : Nat → Int32 → Int32 → (Nat → Nat → Int32) → Prop) (hG0 : ∀ (x0 x1 : Int32) (I : Nat → Nat → Int32) (J : Nat → Nat → Int64), GQ 0 x0 x1 I → pmT g kMo_expression (d + 12) [.ref 40, .int x0] (mk_K ++ ex, R, I, J) (pt_I (mk_K ++ ex) R J (G 0 x0 x1 I))) (hG1 : ∀ (x0 x1 : Int32) (I : Nat → Nat → Int32) (J : Nat → Nat → Int64), GQ 1 x0 x1 I → pmT g kMo_chain (d + 12) [.ref 40, .int x0, .int x1] (mk_K ++ ex, R, I, J) (pt_I (mk_K ++ ex) R J (G 1 x0 x1 I))) (hG2 : ∀ (x0 x1 : Int32) (I : Nat → Nat → Int32) (J : Nat → Nat → Int64), GQ 2 x0 x1 I → pmT g kMo_unary (d + 12) [.ref 40, .int x0] (mk_K ++ ex, R, I, J) (pt_I (mk_K ++ ex) R J (G 2 x0 x1 I))) (J : Nat → Nat → Int64) (o : Outcome) (Z : pmM) (rc rs : Nat) (n37 : Nat) (y1 : Int32) (y2 : Int32) (z0 : Int32) (I : Nat → Nat → Int32) (hp : pMo_chain_20 G GQ n37 y1 y2 z0 I) (hF : (o, Z, rc, rs) = pt_I (mk_K ++ ex) R J (fMo_chain_20 G n37 y1 y2 z0 I)) : pmE g kMo_chain (d + 13) rc rs 20 [(0, .ref 40), (1, .int y1), (2, .int y2)] [.int z0] (mk_K ++ ex) R I J o Z := by
  unfold pMo_chain_20 at hp
  refine pm_istore_n dMo_chain_20 (by decide) rfl ?_
  refine pm_iload_n dMo_chain_21 rfl ?_
  refine pm_aload_n dMo_chain_22 rfl ?_
  refine pt_callV (v2 := some (.int 0)) dMo_chain_23 lMo_207 vMo_peek ⟨_, _, rfl⟩ (Mo_peek_ok _ _ _ _ hR _ _ _ _ hp.1) rfl rfl rfl (Nat.le_of_ble_eq_true rfl) (fun h23 => ?_) (fun h23 => hF.trans (by first | (simp only [fMo_chain_20, if_neg h23]; done) | (simp only [fMo_chain_20, if_neg h23]; rfl) | rfl))
  refine pm_wk [1, 2, 3, 0] rfl ?_
  exact Mo_chain_n26 g d ex R hR G GQ hG0 hG1 hG2 J _ _ _ _  n37 _ _ _ _ _ _ (hp.2 h23) (hF.trans (by first | (simp only [fMo_chain_20, if_pos h23]; done) | (simp only [fMo_chain_20, if_pos h23]; rfl) | rfl))
set_option maxHeartbeats 4000000 in
set_option maxRecDepth 100000 in
theorem Mo_chain_n0 (g : pmG) (d : Nat) (ex : List (Nat × Nat)) (R : Nat → Nat → Value) (hR : mk_R R) (G : Nat → Int32 → Int32 → (Nat → Nat → Int32) → Int32 × Int32 × Int32 × (Nat → Nat → Int32)) (GQ : Nat → Int32 → Int32 → (Nat → Nat → Int32) → Prop) (hG0 : ∀ (x0 x1 : Int32) (I : Nat → Nat → Int32) (J : Nat → Nat → Int64), GQ 0 x0 x1 I → pmT g kMo_expression (d + 12) [.ref 40, .int x0] (mk_K ++ ex, R, I, J) (pt_I (mk_K ++ ex) R J (G 0 x0 x1 I))) (hG1 : ∀ (x0 x1 : Int32) (I : Nat → Nat → Int32) (J : Nat → Nat → Int64), GQ 1 x0 x1 I → pmT g kMo_chain (d + 12) [.ref 40, .int x0, .int x1] (mk_K ++ ex, R, I, J) (pt_I (mk_K ++ ex) R J (G 1 x0 x1 I))) (hG2 : ∀ (x0 x1 : Int32) (I : Nat → Nat → Int32) (J : Nat → Nat → Int64), GQ 2 x0 x1 I → pmT g kMo_unary (d + 12) [.ref 40, .int x0] (mk_K ++ ex, R, I, J) (pt_I (mk_K ++ ex) R J (G 2 x0 x1 I))) (J : Nat → Nat → Int64) (o : Outcome) (Z : pmM) (rc rs : Nat) (n37 : Nat) (y1 : Int32) (y2 : Int32) (I : Nat → Nat → Int32) (hp : pMo_chain G GQ n37 y1 y2 I) (hF : (o, Z, rc, rs) = pt_I (mk_K ++ ex) R J (fMo_chain G n37 y1 y2 I)) : pmE g kMo_chain (d + 13) rc rs 0 [(0, .ref 40), (1, .int y1), (2, .int y2)] [] (mk_K ++ ex) R I J o Z := by
  unfold pMo_chain at hp
  refine pm_iload_n dMo_chain_0 rfl ?_
  refine pm_bipush (v := 10) dMo_chain_1 (by decide) ?_
  refine pm_icmp_ne 12 dMo_chain_3 (by decide) (fun h3 => ?_) (fun h3 => ?_)
  ·
    refine pm_aload_n dMo_chain_12 rfl ?_
    refine pm_iload_n dMo_chain_13 rfl ?_
    refine pm_iconst (v := 1) dMo_chain_14 (by decide) ?_
    refine pm_iadd dMo_chain_15 ?_
    refine pm_iload_n dMo_chain_16 rfl ?_
    refine pt_callV (v2 := some (.int 0)) dMo_chain_17 lMo_264 vMo_chain ⟨_, _, rfl⟩ (hG1 (y1 + (1 : Int32)) y2 _ _ (hp.2 h3).1) rfl rfl rfl (Nat.le_of_ble_eq_true rfl) (fun h17 => ?_) (fun h17 => hF.trans (by first | (simp only [fMo_chain, if_neg h3, if_neg h17]; done) | (simp only [fMo_chain, if_neg h3, if_neg h17]; rfl) | rfl))
    refine pm_wk [0, 1, 2] rfl ?_
    exact Mo_chain_n20 g d ex R hR G GQ hG0 hG1 hG2 J _ _ _ _  n37 _ _ _ _ ((hp.2 h3).2 h17) (hF.trans (by first | (simp only [fMo_chain, if_neg h3, if_pos h17]; done) | (simp only [fMo_chain, if_neg h3, if_pos h17]; rfl) | rfl))
  ·
    refine pm_aload_n dMo_chain_6 rfl ?_
    refine pm_iload_n dMo_chain_7 rfl ?_
    refine pt_callV (v2 := some (.int 0)) dMo_chain_8 lMo_284 vMo_unary ⟨_, _, rfl⟩ (hG2 y2 0 _ _ (hp.1 h3).1) rfl rfl rfl (Nat.le_of_ble_eq_true rfl) (fun h8 => ?_) (fun h8 => hF.trans (by first | (simp only [fMo_chain, if_pos h3, if_neg h8]; done) | (simp only [fMo_chain, if_pos h3, if_neg h8]; rfl) | rfl))
    exact pt_iret dMo_chain_11 rfl (hF.trans (by first | (simp only [fMo_chain, if_pos h3, if_pos h8]; done) | (simp only [fMo_chain, if_pos h3, if_pos h8]; rfl) | rfl))
set_option maxHeartbeats 4000000 in
set_option maxRecDepth 100000 in
theorem Mo_chain_ok (g : pmG) (d : Nat) (ex : List (Nat × Nat)) (R : Nat → Nat → Value) (hR : mk_R R) (G : Nat → Int32 → Int32 → (Nat → Nat → Int32) → Int32 × Int32 × Int32 × (Nat → Nat → Int32)) (GQ : Nat → Int32 → Int32 → (Nat → Nat → Int32) → Prop) (hG0 : ∀ (x0 x1 : Int32) (I : Nat → Nat → Int32) (J : Nat → Nat → Int64), GQ 0 x0 x1 I → pmT g kMo_expression (d + 12) [.ref 40, .int x0] (mk_K ++ ex, R, I, J) (pt_I (mk_K ++ ex) R J (G 0 x0 x1 I))) (hG1 : ∀ (x0 x1 : Int32) (I : Nat → Nat → Int32) (J : Nat → Nat → Int64), GQ 1 x0 x1 I → pmT g kMo_chain (d + 12) [.ref 40, .int x0, .int x1] (mk_K ++ ex, R, I, J) (pt_I (mk_K ++ ex) R J (G 1 x0 x1 I))) (hG2 : ∀ (x0 x1 : Int32) (I : Nat → Nat → Int32) (J : Nat → Nat → Int64), GQ 2 x0 x1 I → pmT g kMo_unary (d + 12) [.ref 40, .int x0] (mk_K ++ ex, R, I, J) (pt_I (mk_K ++ ex) R J (G 2 x0 x1 I))) (n37 : Nat) (x0 : Int32) (x1 : Int32) (I : Nat → Nat → Int32) (J : Nat → Nat → Int64) (hp : pMo_chain G GQ n37 x0 x1 I) : pmT g kMo_chain (d + 13) [.ref 40, .int x0, .int x1] (mk_K ++ ex, R, I, J) (pt_I (mk_K ++ ex) R J (fMo_chain G n37 x0 x1 I)) :=
  pmC.of (by decide) (Nat.le_of_ble_eq_true rfl) (Mo_chain_n0 g d ex R hR G GQ hG0 hG1 hG2 J _ _ _ _ n37 x0 x1 I hp rfl)
def fMo_unary_66 (G : Nat → Int32 → Int32 → (Nat → Nat → Int32) → Int32 × Int32 × Int32 × (Nat → Nat → Int32)) (y1 : Int32) (y2 : Int32) (z1 : Int32) (z2 : Int32) (z3 : Int32) (I : Nat → Nat → Int32) : Int32 × Int32 × Int32 × (Nat → Nat → Int32) :=
  (0, 0, (fMo_node z1 z2 z3 I).1, (fMo_node z1 z2 z3 I).2)
def pMo_unary_66 (G : Nat → Int32 → Int32 → (Nat → Nat → Int32) → Int32 × Int32 × Int32 × (Nat → Nat → Int32)) (GQ : Nat → Int32 → Int32 → (Nat → Nat → Int32) → Prop) (y1 : Int32) (y2 : Int32) (z1 : Int32) (z2 : Int32) (z3 : Int32) (I : Nat → Nat → Int32) : Prop :=
  (pMo_node z1 z2 z3 I) ∧ True
def fMo_unary_63 (G : Nat → Int32 → Int32 → (Nat → Nat → Int32) → Int32 × Int32 × Int32 × (Nat → Nat → Int32)) (y1 : Int32) (y2 : Int32) (z1 : Int32) (z2 : Int32) (z4 : Int32) (I : Nat → Nat → Int32) : Int32 × Int32 × Int32 × (Nat → Nat → Int32) :=
  if (G 2 z4 0 I).1 = 0 then fMo_unary_66 G y1 y2 z1 z2 ((G 2 z4 0 I).2.2.1) ((G 2 z4 0 I).2.2.2)
  else ((G 2 z4 0 I).1, (G 2 z4 0 I).2.1, 0, (G 2 z4 0 I).2.2.2)
def pMo_unary_63 (G : Nat → Int32 → Int32 → (Nat → Nat → Int32) → Int32 × Int32 × Int32 × (Nat → Nat → Int32)) (GQ : Nat → Int32 → Int32 → (Nat → Nat → Int32) → Prop) (y1 : Int32) (y2 : Int32) (z1 : Int32) (z2 : Int32) (z4 : Int32) (I : Nat → Nat → Int32) : Prop :=
  (GQ 2 z4 0 I) ∧ ((G 2 z4 0 I).1 = 0 → pMo_unary_66 G GQ y1 y2 z1 z2 ((G 2 z4 0 I).2.2.1) ((G 2 z4 0 I).2.2.2))
def fMo_unary_54 (G : Nat → Int32 → Int32 → (Nat → Nat → Int32) → Int32 × Int32 × Int32 × (Nat → Nat → Int32)) (y1 : Int32) (y2 : Int32) (I : Nat → Nat → Int32) : Int32 × Int32 × Int32 × (Nat → Nat → Int32) :=
  if (fMo_nest y1 I).1 = 0 then fMo_unary_63 G y1 y2 (2 : Int32) y2 ((fMo_nest y1 I).2.2.1) ((fMo_nest y1 I).2.2.2)
  else ((fMo_nest y1 I).1, (fMo_nest y1 I).2.1, 0, (fMo_nest y1 I).2.2.2)
def pMo_unary_54 (G : Nat → Int32 → Int32 → (Nat → Nat → Int32) → Int32 × Int32 × Int32 × (Nat → Nat → Int32)) (GQ : Nat → Int32 → Int32 → (Nat → Nat → Int32) → Prop) (y1 : Int32) (y2 : Int32) (I : Nat → Nat → Int32) : Prop :=
  (pMo_nest y1 I) ∧ ((fMo_nest y1 I).1 = 0 → pMo_unary_63 G GQ y1 y2 (2 : Int32) y2 ((fMo_nest y1 I).2.2.1) ((fMo_nest y1 I).2.2.2))
def fMo_unary_50 (G : Nat → Int32 → Int32 → (Nat → Nat → Int32) → Int32 × Int32 × Int32 × (Nat → Nat → Int32)) (y1 : Int32) (y2 : Int32) (I : Nat → Nat → Int32) : Int32 × Int32 × Int32 × (Nat → Nat → Int32) :=
  if (fMo_take I).1 = 0 then fMo_unary_54 G y1 y2 ((fMo_take I).2.2)
  else ((fMo_take I).1, (fMo_take I).2.1, 0, (fMo_take I).2.2)
def pMo_unary_50 (G : Nat → Int32 → Int32 → (Nat → Nat → Int32) → Int32 × Int32 × Int32 × (Nat → Nat → Int32)) (GQ : Nat → Int32 → Int32 → (Nat → Nat → Int32) → Prop) (y1 : Int32) (y2 : Int32) (I : Nat → Nat → Int32) : Prop :=
  (pMo_take I) ∧ ((fMo_take I).1 = 0 → pMo_unary_54 G GQ y1 y2 ((fMo_take I).2.2))
def fMo_unary_47 (G : Nat → Int32 → Int32 → (Nat → Nat → Int32) → Int32 × Int32 × Int32 × (Nat → Nat → Int32)) (y1 : Int32) (y2 : Int32) (z1 : Int32) (I : Nat → Nat → Int32) : Int32 × Int32 × Int32 × (Nat → Nat → Int32) :=
  if (fMo_pays z1 I).1 = 0 then fMo_unary_50 G y1 y2 ((fMo_pays z1 I).2.2)
  else ((fMo_pays z1 I).1, (fMo_pays z1 I).2.1, 0, (fMo_pays z1 I).2.2)
def pMo_unary_47 (G : Nat → Int32 → Int32 → (Nat → Nat → Int32) → Int32 × Int32 × Int32 × (Nat → Nat → Int32)) (GQ : Nat → Int32 → Int32 → (Nat → Nat → Int32) → Prop) (y1 : Int32) (y2 : Int32) (z1 : Int32) (I : Nat → Nat → Int32) : Prop :=
  (pMo_pays z1 I) ∧ ((fMo_pays z1 I).1 = 0 → pMo_unary_50 G GQ y1 y2 ((fMo_pays z1 I).2.2))
def fMo_unary_23 (G : Nat → Int32 → Int32 → (Nat → Nat → Int32) → Int32 × Int32 × Int32 × (Nat → Nat → Int32)) (y1 : Int32) (y2 : Int32) (I : Nat → Nat → Int32) : Int32 × Int32 × Int32 × (Nat → Nat → Int32) :=
  if y2 = (45 : Int32) then fMo_unary_47 G y1 y2 (96 : Int32) I
  else if y2 = (33 : Int32) then fMo_unary_47 G y1 y2 (24 : Int32) I
    else fMo_unary_47 G y1 y2 (0 : Int32) I
def pMo_unary_23 (G : Nat → Int32 → Int32 → (Nat → Nat → Int32) → Int32 × Int32 × Int32 × (Nat → Nat → Int32)) (GQ : Nat → Int32 → Int32 → (Nat → Nat → Int32) → Prop) (y1 : Int32) (y2 : Int32) (I : Nat → Nat → Int32) : Prop :=
  (y2 = (45 : Int32) → pMo_unary_47 G GQ y1 y2 (96 : Int32) I) ∧
  (¬ (y2 = (45 : Int32)) → (y2 = (33 : Int32) → pMo_unary_47 G GQ y1 y2 (24 : Int32) I) ∧
    (¬ (y2 = (33 : Int32)) → pMo_unary_47 G GQ y1 y2 (0 : Int32) I))
def fMo_unary_96 (G : Nat → Int32 → Int32 → (Nat → Nat → Int32) → Int32 × Int32 × Int32 × (Nat → Nat → Int32)) (y1 : Int32) (y2 : Int32) (y3 : Int32) (I : Nat → Nat → Int32) : Int32 × Int32 × Int32 × (Nat → Nat → Int32) :=
  (0, 0, (fMo_node (3 : Int32) (0 : Int32) y3 I).1, (fMo_node (3 : Int32) (0 : Int32) y3 I).2)
def pMo_unary_96 (G : Nat → Int32 → Int32 → (Nat → Nat → Int32) → Int32 × Int32 × Int32 × (Nat → Nat → Int32)) (GQ : Nat → Int32 → Int32 → (Nat → Nat → Int32) → Prop) (y1 : Int32) (y2 : Int32) (y3 : Int32) (I : Nat → Nat → Int32) : Prop :=
  (pMo_node (3 : Int32) (0 : Int32) y3 I) ∧ True
def fMo_unary_89 (G : Nat → Int32 → Int32 → (Nat → Nat → Int32) → Int32 × Int32 × Int32 × (Nat → Nat → Int32)) (y1 : Int32) (y2 : Int32) (z0 : Int32) (I : Nat → Nat → Int32) : Int32 × Int32 × Int32 × (Nat → Nat → Int32) :=
  if (fMo_must (41 : Int32) I).1 = 0 then fMo_unary_96 G y1 y2 z0 ((fMo_must (41 : Int32) I).2.2)
  else ((fMo_must (41 : Int32) I).1, (fMo_must (41 : Int32) I).2.1, 0, (fMo_must (41 : Int32) I).2.2)
def pMo_unary_89 (G : Nat → Int32 → Int32 → (Nat → Nat → Int32) → Int32 × Int32 × Int32 × (Nat → Nat → Int32)) (GQ : Nat → Int32 → Int32 → (Nat → Nat → Int32) → Prop) (y1 : Int32) (y2 : Int32) (z0 : Int32) (I : Nat → Nat → Int32) : Prop :=
  (pMo_must (41 : Int32) I) ∧ ((fMo_must (41 : Int32) I).1 = 0 → pMo_unary_96 G GQ y1 y2 z0 ((fMo_must (41 : Int32) I).2.2))
def fMo_unary_86 (G : Nat → Int32 → Int32 → (Nat → Nat → Int32) → Int32 × Int32 × Int32 × (Nat → Nat → Int32)) (y1 : Int32) (y2 : Int32) (z1 : Int32) (I : Nat → Nat → Int32) : Int32 × Int32 × Int32 × (Nat → Nat → Int32) :=
  if (G 0 z1 0 I).1 = 0 then fMo_unary_89 G y1 y2 ((G 0 z1 0 I).2.2.1) ((G 0 z1 0 I).2.2.2)
  else ((G 0 z1 0 I).1, (G 0 z1 0 I).2.1, 0, (G 0 z1 0 I).2.2.2)
def pMo_unary_86 (G : Nat → Int32 → Int32 → (Nat → Nat → Int32) → Int32 × Int32 × Int32 × (Nat → Nat → Int32)) (GQ : Nat → Int32 → Int32 → (Nat → Nat → Int32) → Prop) (y1 : Int32) (y2 : Int32) (z1 : Int32) (I : Nat → Nat → Int32) : Prop :=
  (GQ 0 z1 0 I) ∧ ((G 0 z1 0 I).1 = 0 → pMo_unary_89 G GQ y1 y2 ((G 0 z1 0 I).2.2.1) ((G 0 z1 0 I).2.2.2))
def fMo_unary_80 (G : Nat → Int32 → Int32 → (Nat → Nat → Int32) → Int32 × Int32 × Int32 × (Nat → Nat → Int32)) (y1 : Int32) (y2 : Int32) (I : Nat → Nat → Int32) : Int32 × Int32 × Int32 × (Nat → Nat → Int32) :=
  if (fMo_nest y1 I).1 = 0 then fMo_unary_86 G y1 y2 ((fMo_nest y1 I).2.2.1) ((fMo_nest y1 I).2.2.2)
  else ((fMo_nest y1 I).1, (fMo_nest y1 I).2.1, 0, (fMo_nest y1 I).2.2.2)
def pMo_unary_80 (G : Nat → Int32 → Int32 → (Nat → Nat → Int32) → Int32 × Int32 × Int32 × (Nat → Nat → Int32)) (GQ : Nat → Int32 → Int32 → (Nat → Nat → Int32) → Prop) (y1 : Int32) (y2 : Int32) (I : Nat → Nat → Int32) : Prop :=
  (pMo_nest y1 I) ∧ ((fMo_nest y1 I).1 = 0 → pMo_unary_86 G GQ y1 y2 ((fMo_nest y1 I).2.2.1) ((fMo_nest y1 I).2.2.2))
def fMo_unary_119 (G : Nat → Int32 → Int32 → (Nat → Nat → Int32) → Int32 × Int32 × Int32 × (Nat → Nat → Int32)) (y1 : Int32) (y2 : Int32) (z1 : Int32) (z2 : Int32) (I : Nat → Nat → Int32) : Int32 × Int32 × Int32 × (Nat → Nat → Int32) :=
  (0, 0, (fMo_node z1 z2 (-1 : Int32) I).1, (fMo_node z1 z2 (-1 : Int32) I).2)
def pMo_unary_119 (G : Nat → Int32 → Int32 → (Nat → Nat → Int32) → Int32 × Int32 × Int32 × (Nat → Nat → Int32)) (GQ : Nat → Int32 → Int32 → (Nat → Nat → Int32) → Prop) (y1 : Int32) (y2 : Int32) (z1 : Int32) (z2 : Int32) (I : Nat → Nat → Int32) : Prop :=
  (pMo_node z1 z2 (-1 : Int32) I) ∧ True
def fMo_unary_136 (G : Nat → Int32 → Int32 → (Nat → Nat → Int32) → Int32 × Int32 × Int32 × (Nat → Nat → Int32)) (y1 : Int32) (y2 : Int32) (I : Nat → Nat → Int32) : Int32 × Int32 × Int32 × (Nat → Nat → Int32) :=
  ((fMo_cant I).1, (fMo_cant I).2.1, 0, (fMo_cant I).2.2)
def pMo_unary_136 (G : Nat → Int32 → Int32 → (Nat → Nat → Int32) → Int32 × Int32 × Int32 × (Nat → Nat → Int32)) (GQ : Nat → Int32 → Int32 → (Nat → Nat → Int32) → Prop) (y1 : Int32) (y2 : Int32) (I : Nat → Nat → Int32) : Prop :=
  pMo_cant I
def fMo_unary_169 (G : Nat → Int32 → Int32 → (Nat → Nat → Int32) → Int32 × Int32 × Int32 × (Nat → Nat → Int32)) (y1 : Int32) (y2 : Int32) (y3 : Int32) (I : Nat → Nat → Int32) : Int32 × Int32 × Int32 × (Nat → Nat → Int32) :=
  (2, I 40 7, 0, I)
def pMo_unary_169 (G : Nat → Int32 → Int32 → (Nat → Nat → Int32) → Int32 × Int32 × Int32 × (Nat → Nat → Int32)) (GQ : Nat → Int32 → Int32 → (Nat → Nat → Int32) → Prop) (y1 : Int32) (y2 : Int32) (y3 : Int32) (I : Nat → Nat → Int32) : Prop :=
  True
def fMo_unary_186 (G : Nat → Int32 → Int32 → (Nat → Nat → Int32) → Int32 × Int32 × Int32 × (Nat → Nat → Int32)) (y1 : Int32) (y2 : Int32) (y3 : Int32) (I : Nat → Nat → Int32) : Int32 × Int32 × Int32 × (Nat → Nat → Int32) :=
  (0, 0, (fMo_node (1 : Int32) y3 (-1 : Int32) I).1, (fMo_node (1 : Int32) y3 (-1 : Int32) I).2)
def pMo_unary_186 (G : Nat → Int32 → Int32 → (Nat → Nat → Int32) → Int32 × Int32 × Int32 × (Nat → Nat → Int32)) (GQ : Nat → Int32 → Int32 → (Nat → Nat → Int32) → Prop) (y1 : Int32) (y2 : Int32) (y3 : Int32) (I : Nat → Nat → Int32) : Prop :=
  (pMo_node (1 : Int32) y3 (-1 : Int32) I) ∧ True
def fMo_unary_133 (G : Nat → Int32 → Int32 → (Nat → Nat → Int32) → Int32 × Int32 × Int32 × (Nat → Nat → Int32)) (y1 : Int32) (y2 : Int32) (z0 : Int32) (I : Nat → Nat → Int32) : Int32 × Int32 × Int32 × (Nat → Nat → Int32) :=
  if z0 = 0 then if ((fMo_named 61 61 I)) < 0 then fMo_unary_169 G y1 y2 ((fMo_named 61 61 I)) I
    else if (I 44 ((fMo_named 61 61 I)).toNatClampNeg) = 0 then fMo_unary_169 G y1 y2 ((fMo_named 61 61 I)) I
      else if (I 44 ((fMo_named 61 61 I)).toNatClampNeg) = (4 : Int32) then fMo_unary_169 G y1 y2 ((fMo_named 61 61 I)) I
        else if (fMo_take I).1 = 0 then fMo_unary_186 G y1 y2 ((fMo_named 61 61 I)) ((fMo_take I).2.2)
          else ((fMo_take I).1, (fMo_take I).2.1, 0, (fMo_take I).2.2)
  else fMo_unary_136 G y1 y2 I
def pMo_unary_133 (G : Nat → Int32 → Int32 → (Nat → Nat → Int32) → Int32 × Int32 × Int32 × (Nat → Nat → Int32)) (GQ : Nat → Int32 → Int32 → (Nat → Nat → Int32) → Prop) (y1 : Int32) (y2 : Int32) (z0 : Int32) (I : Nat → Nat → Int32) : Prop :=
  (z0 = 0 → (pMo_named 61 61 I) ∧ ((((fMo_named 61 61 I)) < 0 → pMo_unary_169 G GQ y1 y2 ((fMo_named 61 61 I)) I) ∧
    (¬ (((fMo_named 61 61 I)) < 0) → (vp_in ((fMo_named 61 61 I)) 60) ∧ (((I 44 ((fMo_named 61 61 I)).toNatClampNeg) = 0 → pMo_unary_169 G GQ y1 y2 ((fMo_named 61 61 I)) I) ∧
      (¬ ((I 44 ((fMo_named 61 61 I)).toNatClampNeg) = 0) → (vp_in ((fMo_named 61 61 I)) 60) ∧ (((I 44 ((fMo_named 61 61 I)).toNatClampNeg) = (4 : Int32) → pMo_unary_169 G GQ y1 y2 ((fMo_named 61 61 I)) I) ∧
        (¬ ((I 44 ((fMo_named 61 61 I)).toNatClampNeg) = (4 : Int32)) → (pMo_take I) ∧ ((fMo_take I).1 = 0 → pMo_unary_186 G GQ y1 y2 ((fMo_named 61 61 I)) ((fMo_take I).2.2))))))))) ∧
  (¬ (z0 = 0) → pMo_unary_136 G GQ y1 y2 I)
def fMo_unary_4 (G : Nat → Int32 → Int32 → (Nat → Nat → Int32) → Int32 × Int32 × Int32 × (Nat → Nat → Int32)) (y1 : Int32) (z0 : Int32) (I : Nat → Nat → Int32) : Int32 × Int32 × Int32 × (Nat → Nat → Int32) :=
  if z0 = (45 : Int32) then fMo_unary_23 G y1 z0 I
  else if z0 = (126 : Int32) then fMo_unary_23 G y1 z0 I
    else if z0 = (33 : Int32) then fMo_unary_23 G y1 z0 I
      else if z0 = (40 : Int32) then if (fMo_take I).1 = 0 then fMo_unary_80 G y1 z0 ((fMo_take I).2.2)
          else ((fMo_take I).1, (fMo_take I).2.1, 0, (fMo_take I).2.2)
        else if z0 = (2 : Int32) then if (fMo_number 65537 (0 : Int32) (255 : Int32) I).1 = 0 then fMo_unary_119 G y1 z0 (0 : Int32) ((fMo_number 65537 (0 : Int32) (255 : Int32) I).2.2.1) ((fMo_number 65537 (0 : Int32) (255 : Int32) I).2.2.2)
            else ((fMo_number 65537 (0 : Int32) (255 : Int32) I).1, (fMo_number 65537 (0 : Int32) (255 : Int32) I).2.1, 0, (fMo_number 65537 (0 : Int32) (255 : Int32) I).2.2.2)
          else if z0 = (1 : Int32) then if (fMo_reserved I).1 = 0 then fMo_unary_133 G y1 z0 ((fMo_reserved I).2.2.1) ((fMo_reserved I).2.2.2)
              else ((fMo_reserved I).1, (fMo_reserved I).2.1, 0, (fMo_reserved I).2.2.2)
            else fMo_unary_136 G y1 z0 I
def pMo_unary_4 (G : Nat → Int32 → Int32 → (Nat → Nat → Int32) → Int32 × Int32 × Int32 × (Nat → Nat → Int32)) (GQ : Nat → Int32 → Int32 → (Nat → Nat → Int32) → Prop) (y1 : Int32) (z0 : Int32) (I : Nat → Nat → Int32) : Prop :=
  (z0 = (45 : Int32) → pMo_unary_23 G GQ y1 z0 I) ∧
  (¬ (z0 = (45 : Int32)) → (z0 = (126 : Int32) → pMo_unary_23 G GQ y1 z0 I) ∧
    (¬ (z0 = (126 : Int32)) → (z0 = (33 : Int32) → pMo_unary_23 G GQ y1 z0 I) ∧
      (¬ (z0 = (33 : Int32)) → (z0 = (40 : Int32) → (pMo_take I) ∧ ((fMo_take I).1 = 0 → pMo_unary_80 G GQ y1 z0 ((fMo_take I).2.2))) ∧
        (¬ (z0 = (40 : Int32)) → (z0 = (2 : Int32) → (pMo_number 65537 (0 : Int32) (255 : Int32) I) ∧ ((fMo_number 65537 (0 : Int32) (255 : Int32) I).1 = 0 → pMo_unary_119 G GQ y1 z0 (0 : Int32) ((fMo_number 65537 (0 : Int32) (255 : Int32) I).2.2.1) ((fMo_number 65537 (0 : Int32) (255 : Int32) I).2.2.2))) ∧
          (¬ (z0 = (2 : Int32)) → (z0 = (1 : Int32) → (pMo_reserved I) ∧ ((fMo_reserved I).1 = 0 → pMo_unary_133 G GQ y1 z0 ((fMo_reserved I).2.2.1) ((fMo_reserved I).2.2.2))) ∧
            (¬ (z0 = (1 : Int32)) → pMo_unary_136 G GQ y1 z0 I))))))
def fMo_unary (G : Nat → Int32 → Int32 → (Nat → Nat → Int32) → Int32 × Int32 × Int32 × (Nat → Nat → Int32)) (y1 : Int32) (I : Nat → Nat → Int32) : Int32 × Int32 × Int32 × (Nat → Nat → Int32) :=
  if (fMo_peek 65537 65537 I).1 = 0 then fMo_unary_4 G y1 ((fMo_peek 65537 65537 I).2.2.1) ((fMo_peek 65537 65537 I).2.2.2)
  else ((fMo_peek 65537 65537 I).1, (fMo_peek 65537 65537 I).2.1, 0, (fMo_peek 65537 65537 I).2.2.2)
def pMo_unary (G : Nat → Int32 → Int32 → (Nat → Nat → Int32) → Int32 × Int32 × Int32 × (Nat → Nat → Int32)) (GQ : Nat → Int32 → Int32 → (Nat → Nat → Int32) → Prop) (y1 : Int32) (I : Nat → Nat → Int32) : Prop :=
  (pMo_peek 65537 65537 I) ∧ ((fMo_peek 65537 65537 I).1 = 0 → pMo_unary_4 G GQ y1 ((fMo_peek 65537 65537 I).2.2.1) ((fMo_peek 65537 65537 I).2.2.2))
set_option maxHeartbeats 4000000 in
set_option maxRecDepth 100000 in
theorem Mo_unary_n66 (g : pmG) (d : Nat) (ex : List (Nat × Nat)) (R : Nat → Nat → Value) (hR : mk_R R) (G : Nat → Int32 → Int32 → (Nat → Nat → Int32) → Int32 × Int32 × Int32 × (Nat → Nat → Int32)) (GQ : Nat → Int32 → Int32 → (Nat → Nat → Int32) → Prop) (hG0 : ∀ (x0 x1 : Int32) (I : Nat → Nat → Int32) (J : Nat → Nat → Int64), GQ 0 x0 x1 I → pmT g kMo_expression (d + 12) [.ref 40, .int x0] (mk_K ++ ex, R, I, J) (pt_I (mk_K ++ ex) R J (G 0 x0 x1 I))) (hG1 : ∀ (x0 x1 : Int32) (I : Nat → Nat → Int32) (J : Nat → Nat → Int64), GQ 1 x0 x1 I → pmT g kMo_chain (d + 12) [.ref 40, .int x0, .int x1] (mk_K ++ ex, R, I, J) (pt_I (mk_K ++ ex) R J (G 1 x0 x1 I))) (hG2 : ∀ (x0 x1 : Int32) (I : Nat → Nat → Int32) (J : Nat → Nat → Int64), GQ 2 x0 x1 I → pmT g kMo_unary (d + 12) [.ref 40, .int x0] (mk_K ++ ex, R, I, J) (pt_I (mk_K ++ ex) R J (G 2 x0 x1 I))) (J : Nat → Nat → Int64) (o : Outcome) (Z : pmM) (rc rs : Nat)  (y1 : Int32) (y2 : Int32) (z1 : Int32) (z2 : Int32) (z3 : Int32) (I : Nat → Nat → Int32) (hp : pMo_unary_66 G GQ y1 y2 z1 z2 z3 I) (hF : (o, Z, rc, rs) = pt_I (mk_K ++ ex) R J (fMo_unary_66 G y1 y2 z1 z2 z3 I)) : pmE g kMo_unary (d + 13) rc rs 66 [(0, .ref 40), (1, .int y1), (2, .int y2)] [.int z3, .int z2, .int z1, .ref 40] (mk_K ++ ex) R I J o Z := by
  unfold pMo_unary_66 at hp
  refine pm_callV dMo_unary_66 lMo_280 vMo_node ⟨_, _, rfl⟩ (Mo_node_ok _ _ _ _ hR _ _ _ _ _ hp.1) rfl rfl rfl (Nat.le_of_ble_eq_true rfl) (Nat.le_refl _) (Nat.le_refl _) ?_
  exact pt_iret dMo_unary_69 rfl (hF.trans (by first | (simp only [fMo_unary_66]; done) | (simp only [fMo_unary_66]; rfl) | rfl))
set_option maxHeartbeats 4000000 in
set_option maxRecDepth 100000 in
theorem Mo_unary_n63 (g : pmG) (d : Nat) (ex : List (Nat × Nat)) (R : Nat → Nat → Value) (hR : mk_R R) (G : Nat → Int32 → Int32 → (Nat → Nat → Int32) → Int32 × Int32 × Int32 × (Nat → Nat → Int32)) (GQ : Nat → Int32 → Int32 → (Nat → Nat → Int32) → Prop) (hG0 : ∀ (x0 x1 : Int32) (I : Nat → Nat → Int32) (J : Nat → Nat → Int64), GQ 0 x0 x1 I → pmT g kMo_expression (d + 12) [.ref 40, .int x0] (mk_K ++ ex, R, I, J) (pt_I (mk_K ++ ex) R J (G 0 x0 x1 I))) (hG1 : ∀ (x0 x1 : Int32) (I : Nat → Nat → Int32) (J : Nat → Nat → Int64), GQ 1 x0 x1 I → pmT g kMo_chain (d + 12) [.ref 40, .int x0, .int x1] (mk_K ++ ex, R, I, J) (pt_I (mk_K ++ ex) R J (G 1 x0 x1 I))) (hG2 : ∀ (x0 x1 : Int32) (I : Nat → Nat → Int32) (J : Nat → Nat → Int64), GQ 2 x0 x1 I → pmT g kMo_unary (d + 12) [.ref 40, .int x0] (mk_K ++ ex, R, I, J) (pt_I (mk_K ++ ex) R J (G 2 x0 x1 I))) (J : Nat → Nat → Int64) (o : Outcome) (Z : pmM) (rc rs : Nat)  (y1 : Int32) (y2 : Int32) (z1 : Int32) (z2 : Int32) (z4 : Int32) (I : Nat → Nat → Int32) (hp : pMo_unary_63 G GQ y1 y2 z1 z2 z4 I) (hF : (o, Z, rc, rs) = pt_I (mk_K ++ ex) R J (fMo_unary_63 G y1 y2 z1 z2 z4 I)) : pmE g kMo_unary (d + 13) rc rs 63 [(0, .ref 40), (1, .int y1), (2, .int y2)] [.int z4, .ref 40, .int z2, .int z1, .ref 40] (mk_K ++ ex) R I J o Z := by
  unfold pMo_unary_63 at hp
  refine pt_callV (v2 := some (.int 0)) dMo_unary_63 lMo_284 vMo_unary ⟨_, _, rfl⟩ (hG2 z4 0 _ _ hp.1) rfl rfl rfl (Nat.le_of_ble_eq_true rfl) (fun h63 => ?_) (fun h63 => hF.trans (by first | (simp only [fMo_unary_63, if_neg h63]; done) | (simp only [fMo_unary_63, if_neg h63]; rfl) | rfl))
  refine pm_wk [0, 1, 2] rfl ?_
  exact Mo_unary_n66 g d ex R hR G GQ hG0 hG1 hG2 J _ _ _ _   _ _ _ _ _ _ (hp.2 h63) (hF.trans (by first | (simp only [fMo_unary_63, if_pos h63]; done) | (simp only [fMo_unary_63, if_pos h63]; rfl) | rfl))
set_option maxHeartbeats 4000000 in
set_option maxRecDepth 100000 in
theorem Mo_unary_n54 (g : pmG) (d : Nat) (ex : List (Nat × Nat)) (R : Nat → Nat → Value) (hR : mk_R R) (G : Nat → Int32 → Int32 → (Nat → Nat → Int32) → Int32 × Int32 × Int32 × (Nat → Nat → Int32)) (GQ : Nat → Int32 → Int32 → (Nat → Nat → Int32) → Prop) (hG0 : ∀ (x0 x1 : Int32) (I : Nat → Nat → Int32) (J : Nat → Nat → Int64), GQ 0 x0 x1 I → pmT g kMo_expression (d + 12) [.ref 40, .int x0] (mk_K ++ ex, R, I, J) (pt_I (mk_K ++ ex) R J (G 0 x0 x1 I))) (hG1 : ∀ (x0 x1 : Int32) (I : Nat → Nat → Int32) (J : Nat → Nat → Int64), GQ 1 x0 x1 I → pmT g kMo_chain (d + 12) [.ref 40, .int x0, .int x1] (mk_K ++ ex, R, I, J) (pt_I (mk_K ++ ex) R J (G 1 x0 x1 I))) (hG2 : ∀ (x0 x1 : Int32) (I : Nat → Nat → Int32) (J : Nat → Nat → Int64), GQ 2 x0 x1 I → pmT g kMo_unary (d + 12) [.ref 40, .int x0] (mk_K ++ ex, R, I, J) (pt_I (mk_K ++ ex) R J (G 2 x0 x1 I))) (J : Nat → Nat → Int64) (o : Outcome) (Z : pmM) (rc rs : Nat)  (y1 : Int32) (y2 : Int32) (I : Nat → Nat → Int32) (hp : pMo_unary_54 G GQ y1 y2 I) (hF : (o, Z, rc, rs) = pt_I (mk_K ++ ex) R J (fMo_unary_54 G y1 y2 I)) : pmE g kMo_unary (d + 13) rc rs 54 [(0, .ref 40), (1, .int y1), (2, .int y2)] [] (mk_K ++ ex) R I J o Z := by
  unfold pMo_unary_54 at hp
  refine pm_aload_n dMo_unary_54 rfl ?_
  refine pm_iconst (v := 2) dMo_unary_55 (by decide) ?_
  refine pm_iload_n dMo_unary_56 rfl ?_
  refine pm_aload_n dMo_unary_57 rfl ?_
  refine pm_aload_n dMo_unary_58 rfl ?_
  refine pm_iload_n dMo_unary_59 rfl ?_
  refine pt_callV (v2 := some (.int 0)) dMo_unary_60 lMo_271 vMo_nest ⟨_, _, rfl⟩ (Mo_nest_ok _ _ _ _ hR _ _ _ hp.1) rfl rfl rfl (Nat.le_of_ble_eq_true rfl) (fun h60 => ?_) (fun h60 => hF.trans (by first | (simp only [fMo_unary_54, if_neg h60]; done) | (simp only [fMo_unary_54, if_neg h60]; rfl) | rfl))
  refine pm_wk [0, 1, 2] rfl ?_
  exact Mo_unary_n63 g d ex R hR G GQ hG0 hG1 hG2 J _ _ _ _   _ _ _ _ _ _ (hp.2 h60) (hF.trans (by first | (simp only [fMo_unary_54, if_pos h60]; done) | (simp only [fMo_unary_54, if_pos h60]; rfl) | rfl))
set_option maxHeartbeats 4000000 in
set_option maxRecDepth 100000 in
theorem Mo_unary_n50 (g : pmG) (d : Nat) (ex : List (Nat × Nat)) (R : Nat → Nat → Value) (hR : mk_R R) (G : Nat → Int32 → Int32 → (Nat → Nat → Int32) → Int32 × Int32 × Int32 × (Nat → Nat → Int32)) (GQ : Nat → Int32 → Int32 → (Nat → Nat → Int32) → Prop) (hG0 : ∀ (x0 x1 : Int32) (I : Nat → Nat → Int32) (J : Nat → Nat → Int64), GQ 0 x0 x1 I → pmT g kMo_expression (d + 12) [.ref 40, .int x0] (mk_K ++ ex, R, I, J) (pt_I (mk_K ++ ex) R J (G 0 x0 x1 I))) (hG1 : ∀ (x0 x1 : Int32) (I : Nat → Nat → Int32) (J : Nat → Nat → Int64), GQ 1 x0 x1 I → pmT g kMo_chain (d + 12) [.ref 40, .int x0, .int x1] (mk_K ++ ex, R, I, J) (pt_I (mk_K ++ ex) R J (G 1 x0 x1 I))) (hG2 : ∀ (x0 x1 : Int32) (I : Nat → Nat → Int32) (J : Nat → Nat → Int64), GQ 2 x0 x1 I → pmT g kMo_unary (d + 12) [.ref 40, .int x0] (mk_K ++ ex, R, I, J) (pt_I (mk_K ++ ex) R J (G 2 x0 x1 I))) (J : Nat → Nat → Int64) (o : Outcome) (Z : pmM) (rc rs : Nat)  (y1 : Int32) (y2 : Int32) (I : Nat → Nat → Int32) (hp : pMo_unary_50 G GQ y1 y2 I) (hF : (o, Z, rc, rs) = pt_I (mk_K ++ ex) R J (fMo_unary_50 G y1 y2 I)) : pmE g kMo_unary (d + 13) rc rs 50 [(0, .ref 40), (1, .int y1), (2, .int y2)] [] (mk_K ++ ex) R I J o Z := by
  unfold pMo_unary_50 at hp
  refine pm_aload_n dMo_unary_50 rfl ?_
  refine pt_callV (v2 := some (.int 0)) dMo_unary_51 lMo_215 vMo_take ⟨_, _, rfl⟩ (Mo_take_ok _ _ _ _ hR  _ _ hp.1) rfl rfl rfl (Nat.le_of_ble_eq_true rfl) (fun h51 => ?_) (fun h51 => hF.trans (by first | (simp only [fMo_unary_50, if_neg h51]; done) | (simp only [fMo_unary_50, if_neg h51]; rfl) | rfl))
  refine pm_wk [0, 1, 2] rfl ?_
  exact Mo_unary_n54 g d ex R hR G GQ hG0 hG1 hG2 J _ _ _ _   _ _ _ (hp.2 h51) (hF.trans (by first | (simp only [fMo_unary_50, if_pos h51]; done) | (simp only [fMo_unary_50, if_pos h51]; rfl) | rfl))
set_option maxHeartbeats 4000000 in
set_option maxRecDepth 100000 in
theorem Mo_unary_n47 (g : pmG) (d : Nat) (ex : List (Nat × Nat)) (R : Nat → Nat → Value) (hR : mk_R R) (G : Nat → Int32 → Int32 → (Nat → Nat → Int32) → Int32 × Int32 × Int32 × (Nat → Nat → Int32)) (GQ : Nat → Int32 → Int32 → (Nat → Nat → Int32) → Prop) (hG0 : ∀ (x0 x1 : Int32) (I : Nat → Nat → Int32) (J : Nat → Nat → Int64), GQ 0 x0 x1 I → pmT g kMo_expression (d + 12) [.ref 40, .int x0] (mk_K ++ ex, R, I, J) (pt_I (mk_K ++ ex) R J (G 0 x0 x1 I))) (hG1 : ∀ (x0 x1 : Int32) (I : Nat → Nat → Int32) (J : Nat → Nat → Int64), GQ 1 x0 x1 I → pmT g kMo_chain (d + 12) [.ref 40, .int x0, .int x1] (mk_K ++ ex, R, I, J) (pt_I (mk_K ++ ex) R J (G 1 x0 x1 I))) (hG2 : ∀ (x0 x1 : Int32) (I : Nat → Nat → Int32) (J : Nat → Nat → Int64), GQ 2 x0 x1 I → pmT g kMo_unary (d + 12) [.ref 40, .int x0] (mk_K ++ ex, R, I, J) (pt_I (mk_K ++ ex) R J (G 2 x0 x1 I))) (J : Nat → Nat → Int64) (o : Outcome) (Z : pmM) (rc rs : Nat)  (y1 : Int32) (y2 : Int32) (z1 : Int32) (I : Nat → Nat → Int32) (hp : pMo_unary_47 G GQ y1 y2 z1 I) (hF : (o, Z, rc, rs) = pt_I (mk_K ++ ex) R J (fMo_unary_47 G y1 y2 z1 I)) : pmE g kMo_unary (d + 13) rc rs 47 [(0, .ref 40), (1, .int y1), (2, .int y2)] [.int z1, .ref 40] (mk_K ++ ex) R I J o Z := by
  unfold pMo_unary_47 at hp
  refine pt_callV (v2 := some (.int 0)) dMo_unary_47 lMo_267 vMo_pays ⟨_, _, rfl⟩ (Mo_pays_ok _ _ _ _ hR _ _ _ hp.1) rfl rfl rfl (Nat.le_of_ble_eq_true rfl) (fun h47 => ?_) (fun h47 => hF.trans (by first | (simp only [fMo_unary_47, if_neg h47]; done) | (simp only [fMo_unary_47, if_neg h47]; rfl) | rfl))
  refine pm_wk [0, 1, 2] rfl ?_
  exact Mo_unary_n50 g d ex R hR G GQ hG0 hG1 hG2 J _ _ _ _   _ _ _ (hp.2 h47) (hF.trans (by first | (simp only [fMo_unary_47, if_pos h47]; done) | (simp only [fMo_unary_47, if_pos h47]; rfl) | rfl))
set_option maxHeartbeats 4000000 in
set_option maxRecDepth 100000 in
theorem Mo_unary_n23 (g : pmG) (d : Nat) (ex : List (Nat × Nat)) (R : Nat → Nat → Value) (hR : mk_R R) (G : Nat → Int32 → Int32 → (Nat → Nat → Int32) → Int32 × Int32 × Int32 × (Nat → Nat → Int32)) (GQ : Nat → Int32 → Int32 → (Nat → Nat → Int32) → Prop) (hG0 : ∀ (x0 x1 : Int32) (I : Nat → Nat → Int32) (J : Nat → Nat → Int64), GQ 0 x0 x1 I → pmT g kMo_expression (d + 12) [.ref 40, .int x0] (mk_K ++ ex, R, I, J) (pt_I (mk_K ++ ex) R J (G 0 x0 x1 I))) (hG1 : ∀ (x0 x1 : Int32) (I : Nat → Nat → Int32) (J : Nat → Nat → Int64), GQ 1 x0 x1 I → pmT g kMo_chain (d + 12) [.ref 40, .int x0, .int x1] (mk_K ++ ex, R, I, J) (pt_I (mk_K ++ ex) R J (G 1 x0 x1 I))) (hG2 : ∀ (x0 x1 : Int32) (I : Nat → Nat → Int32) (J : Nat → Nat → Int64), GQ 2 x0 x1 I → pmT g kMo_unary (d + 12) [.ref 40, .int x0] (mk_K ++ ex, R, I, J) (pt_I (mk_K ++ ex) R J (G 2 x0 x1 I))) (J : Nat → Nat → Int64) (o : Outcome) (Z : pmM) (rc rs : Nat)  (y1 : Int32) (y2 : Int32) (I : Nat → Nat → Int32) (hp : pMo_unary_23 G GQ y1 y2 I) (hF : (o, Z, rc, rs) = pt_I (mk_K ++ ex) R J (fMo_unary_23 G y1 y2 I)) : pmE g kMo_unary (d + 13) rc rs 23 [(0, .ref 40), (1, .int y1), (2, .int y2)] [] (mk_K ++ ex) R I J o Z := by
  unfold pMo_unary_23 at hp
  refine pm_aload_n dMo_unary_23 rfl ?_
  refine pm_iload_n dMo_unary_24 rfl ?_
  refine pm_bipush (v := 45) dMo_unary_25 (by decide) ?_
  refine pm_icmp_ne 35 dMo_unary_27 (by decide) (fun h27 => ?_) (fun h27 => ?_)
  ·
    refine pm_iload_n dMo_unary_35 rfl ?_
    refine pm_bipush (v := 33) dMo_unary_36 (by decide) ?_
    refine pm_icmp_ne 46 dMo_unary_38 (by decide) (fun h38 => ?_) (fun h38 => ?_)
    ·
      refine pm_iconst (v := 0) dMo_unary_46 (by decide) ?_
      refine pm_wk [0, 1, 2] rfl ?_
      exact Mo_unary_n47 g d ex R hR G GQ hG0 hG1 hG2 J _ _ _ _   _ _ _ _ ((hp.2 h27).2 h38) (hF.trans (by first | (simp only [fMo_unary_23, if_neg h27, if_neg h38]; done) | (simp only [fMo_unary_23, if_neg h27, if_neg h38]; rfl) | rfl))
    ·
      refine pm_bipush (v := 24) dMo_unary_41 (by decide) ?_
      refine pm_goto 47 dMo_unary_43 (by decide) ?_
      refine pm_wk [0, 1, 2] rfl ?_
      exact Mo_unary_n47 g d ex R hR G GQ hG0 hG1 hG2 J _ _ _ _   _ _ _ _ ((hp.2 h27).1 h38) (hF.trans (by first | (simp only [fMo_unary_23, if_neg h27, if_pos h38]; done) | (simp only [fMo_unary_23, if_neg h27, if_pos h38]; rfl) | rfl))
  ·
    refine pm_bipush (v := 96) dMo_unary_30 (by decide) ?_
    refine pm_goto 47 dMo_unary_32 (by decide) ?_
    refine pm_wk [0, 1, 2] rfl ?_
    exact Mo_unary_n47 g d ex R hR G GQ hG0 hG1 hG2 J _ _ _ _   _ _ _ _ (hp.1 h27) (hF.trans (by first | (simp only [fMo_unary_23, if_pos h27]; done) | (simp only [fMo_unary_23, if_pos h27]; rfl) | rfl))
set_option maxHeartbeats 4000000 in
set_option maxRecDepth 100000 in
theorem Mo_unary_n96 (g : pmG) (d : Nat) (ex : List (Nat × Nat)) (R : Nat → Nat → Value) (hR : mk_R R) (G : Nat → Int32 → Int32 → (Nat → Nat → Int32) → Int32 × Int32 × Int32 × (Nat → Nat → Int32)) (GQ : Nat → Int32 → Int32 → (Nat → Nat → Int32) → Prop) (hG0 : ∀ (x0 x1 : Int32) (I : Nat → Nat → Int32) (J : Nat → Nat → Int64), GQ 0 x0 x1 I → pmT g kMo_expression (d + 12) [.ref 40, .int x0] (mk_K ++ ex, R, I, J) (pt_I (mk_K ++ ex) R J (G 0 x0 x1 I))) (hG1 : ∀ (x0 x1 : Int32) (I : Nat → Nat → Int32) (J : Nat → Nat → Int64), GQ 1 x0 x1 I → pmT g kMo_chain (d + 12) [.ref 40, .int x0, .int x1] (mk_K ++ ex, R, I, J) (pt_I (mk_K ++ ex) R J (G 1 x0 x1 I))) (hG2 : ∀ (x0 x1 : Int32) (I : Nat → Nat → Int32) (J : Nat → Nat → Int64), GQ 2 x0 x1 I → pmT g kMo_unary (d + 12) [.ref 40, .int x0] (mk_K ++ ex, R, I, J) (pt_I (mk_K ++ ex) R J (G 2 x0 x1 I))) (J : Nat → Nat → Int64) (o : Outcome) (Z : pmM) (rc rs : Nat)  (y1 : Int32) (y2 : Int32) (y3 : Int32) (I : Nat → Nat → Int32) (hp : pMo_unary_96 G GQ y1 y2 y3 I) (hF : (o, Z, rc, rs) = pt_I (mk_K ++ ex) R J (fMo_unary_96 G y1 y2 y3 I)) : pmE g kMo_unary (d + 13) rc rs 96 [(0, .ref 40), (1, .int y1), (2, .int y2), (3, .int y3)] [] (mk_K ++ ex) R I J o Z := by
  unfold pMo_unary_96 at hp
  refine pm_aload_n dMo_unary_96 rfl ?_
  refine pm_iconst (v := 3) dMo_unary_97 (by decide) ?_
  refine pm_iconst (v := 0) dMo_unary_98 (by decide) ?_
  refine pm_iload_n dMo_unary_99 rfl ?_
  refine pm_callV dMo_unary_100 lMo_280 vMo_node ⟨_, _, rfl⟩ (Mo_node_ok _ _ _ _ hR _ _ _ _ _ hp.1) rfl rfl rfl (Nat.le_of_ble_eq_true rfl) (Nat.le_refl _) (Nat.le_refl _) ?_
  exact pt_iret dMo_unary_103 rfl (hF.trans (by first | (simp only [fMo_unary_96]; done) | (simp only [fMo_unary_96]; rfl) | rfl))
set_option maxHeartbeats 4000000 in
set_option maxRecDepth 100000 in
theorem Mo_unary_n89 (g : pmG) (d : Nat) (ex : List (Nat × Nat)) (R : Nat → Nat → Value) (hR : mk_R R) (G : Nat → Int32 → Int32 → (Nat → Nat → Int32) → Int32 × Int32 × Int32 × (Nat → Nat → Int32)) (GQ : Nat → Int32 → Int32 → (Nat → Nat → Int32) → Prop) (hG0 : ∀ (x0 x1 : Int32) (I : Nat → Nat → Int32) (J : Nat → Nat → Int64), GQ 0 x0 x1 I → pmT g kMo_expression (d + 12) [.ref 40, .int x0] (mk_K ++ ex, R, I, J) (pt_I (mk_K ++ ex) R J (G 0 x0 x1 I))) (hG1 : ∀ (x0 x1 : Int32) (I : Nat → Nat → Int32) (J : Nat → Nat → Int64), GQ 1 x0 x1 I → pmT g kMo_chain (d + 12) [.ref 40, .int x0, .int x1] (mk_K ++ ex, R, I, J) (pt_I (mk_K ++ ex) R J (G 1 x0 x1 I))) (hG2 : ∀ (x0 x1 : Int32) (I : Nat → Nat → Int32) (J : Nat → Nat → Int64), GQ 2 x0 x1 I → pmT g kMo_unary (d + 12) [.ref 40, .int x0] (mk_K ++ ex, R, I, J) (pt_I (mk_K ++ ex) R J (G 2 x0 x1 I))) (J : Nat → Nat → Int64) (o : Outcome) (Z : pmM) (rc rs : Nat)  (y1 : Int32) (y2 : Int32) (z0 : Int32) (I : Nat → Nat → Int32) (hp : pMo_unary_89 G GQ y1 y2 z0 I) (hF : (o, Z, rc, rs) = pt_I (mk_K ++ ex) R J (fMo_unary_89 G y1 y2 z0 I)) : pmE g kMo_unary (d + 13) rc rs 89 [(0, .ref 40), (1, .int y1), (2, .int y2)] [.int z0] (mk_K ++ ex) R I J o Z := by
  unfold pMo_unary_89 at hp
  refine pm_istore_n dMo_unary_89 (by decide) rfl ?_
  refine pm_aload_n dMo_unary_90 rfl ?_
  refine pm_bipush (v := 41) dMo_unary_91 (by decide) ?_
  refine pt_callV (v2 := some (.int 0)) dMo_unary_93 lMo_277 vMo_must ⟨_, _, rfl⟩ (Mo_must_ok _ _ _ _ hR _ _ _ hp.1) rfl rfl rfl (Nat.le_of_ble_eq_true rfl) (fun h93 => ?_) (fun h93 => hF.trans (by first | (simp only [fMo_unary_89, if_neg h93]; done) | (simp only [fMo_unary_89, if_neg h93]; rfl) | rfl))
  refine pm_wk [1, 2, 3, 0] rfl ?_
  exact Mo_unary_n96 g d ex R hR G GQ hG0 hG1 hG2 J _ _ _ _   _ _ _ _ (hp.2 h93) (hF.trans (by first | (simp only [fMo_unary_89, if_pos h93]; done) | (simp only [fMo_unary_89, if_pos h93]; rfl) | rfl))
set_option maxHeartbeats 4000000 in
set_option maxRecDepth 100000 in
theorem Mo_unary_n86 (g : pmG) (d : Nat) (ex : List (Nat × Nat)) (R : Nat → Nat → Value) (hR : mk_R R) (G : Nat → Int32 → Int32 → (Nat → Nat → Int32) → Int32 × Int32 × Int32 × (Nat → Nat → Int32)) (GQ : Nat → Int32 → Int32 → (Nat → Nat → Int32) → Prop) (hG0 : ∀ (x0 x1 : Int32) (I : Nat → Nat → Int32) (J : Nat → Nat → Int64), GQ 0 x0 x1 I → pmT g kMo_expression (d + 12) [.ref 40, .int x0] (mk_K ++ ex, R, I, J) (pt_I (mk_K ++ ex) R J (G 0 x0 x1 I))) (hG1 : ∀ (x0 x1 : Int32) (I : Nat → Nat → Int32) (J : Nat → Nat → Int64), GQ 1 x0 x1 I → pmT g kMo_chain (d + 12) [.ref 40, .int x0, .int x1] (mk_K ++ ex, R, I, J) (pt_I (mk_K ++ ex) R J (G 1 x0 x1 I))) (hG2 : ∀ (x0 x1 : Int32) (I : Nat → Nat → Int32) (J : Nat → Nat → Int64), GQ 2 x0 x1 I → pmT g kMo_unary (d + 12) [.ref 40, .int x0] (mk_K ++ ex, R, I, J) (pt_I (mk_K ++ ex) R J (G 2 x0 x1 I))) (J : Nat → Nat → Int64) (o : Outcome) (Z : pmM) (rc rs : Nat)  (y1 : Int32) (y2 : Int32) (z1 : Int32) (I : Nat → Nat → Int32) (hp : pMo_unary_86 G GQ y1 y2 z1 I) (hF : (o, Z, rc, rs) = pt_I (mk_K ++ ex) R J (fMo_unary_86 G y1 y2 z1 I)) : pmE g kMo_unary (d + 13) rc rs 86 [(0, .ref 40), (1, .int y1), (2, .int y2)] [.int z1, .ref 40] (mk_K ++ ex) R I J o Z := by
  unfold pMo_unary_86 at hp
  refine pt_callV (v2 := some (.int 0)) dMo_unary_86 lMo_274 vMo_expression ⟨_, _, rfl⟩ (hG0 z1 0 _ _ hp.1) rfl rfl rfl (Nat.le_of_ble_eq_true rfl) (fun h86 => ?_) (fun h86 => hF.trans (by first | (simp only [fMo_unary_86, if_neg h86]; done) | (simp only [fMo_unary_86, if_neg h86]; rfl) | rfl))
  refine pm_wk [0, 1, 2] rfl ?_
  exact Mo_unary_n89 g d ex R hR G GQ hG0 hG1 hG2 J _ _ _ _   _ _ _ _ (hp.2 h86) (hF.trans (by first | (simp only [fMo_unary_86, if_pos h86]; done) | (simp only [fMo_unary_86, if_pos h86]; rfl) | rfl))
set_option maxHeartbeats 4000000 in
set_option maxRecDepth 100000 in
theorem Mo_unary_n80 (g : pmG) (d : Nat) (ex : List (Nat × Nat)) (R : Nat → Nat → Value) (hR : mk_R R) (G : Nat → Int32 → Int32 → (Nat → Nat → Int32) → Int32 × Int32 × Int32 × (Nat → Nat → Int32)) (GQ : Nat → Int32 → Int32 → (Nat → Nat → Int32) → Prop) (hG0 : ∀ (x0 x1 : Int32) (I : Nat → Nat → Int32) (J : Nat → Nat → Int64), GQ 0 x0 x1 I → pmT g kMo_expression (d + 12) [.ref 40, .int x0] (mk_K ++ ex, R, I, J) (pt_I (mk_K ++ ex) R J (G 0 x0 x1 I))) (hG1 : ∀ (x0 x1 : Int32) (I : Nat → Nat → Int32) (J : Nat → Nat → Int64), GQ 1 x0 x1 I → pmT g kMo_chain (d + 12) [.ref 40, .int x0, .int x1] (mk_K ++ ex, R, I, J) (pt_I (mk_K ++ ex) R J (G 1 x0 x1 I))) (hG2 : ∀ (x0 x1 : Int32) (I : Nat → Nat → Int32) (J : Nat → Nat → Int64), GQ 2 x0 x1 I → pmT g kMo_unary (d + 12) [.ref 40, .int x0] (mk_K ++ ex, R, I, J) (pt_I (mk_K ++ ex) R J (G 2 x0 x1 I))) (J : Nat → Nat → Int64) (o : Outcome) (Z : pmM) (rc rs : Nat)  (y1 : Int32) (y2 : Int32) (I : Nat → Nat → Int32) (hp : pMo_unary_80 G GQ y1 y2 I) (hF : (o, Z, rc, rs) = pt_I (mk_K ++ ex) R J (fMo_unary_80 G y1 y2 I)) : pmE g kMo_unary (d + 13) rc rs 80 [(0, .ref 40), (1, .int y1), (2, .int y2)] [] (mk_K ++ ex) R I J o Z := by
  unfold pMo_unary_80 at hp
  refine pm_aload_n dMo_unary_80 rfl ?_
  refine pm_aload_n dMo_unary_81 rfl ?_
  refine pm_iload_n dMo_unary_82 rfl ?_
  refine pt_callV (v2 := some (.int 0)) dMo_unary_83 lMo_271 vMo_nest ⟨_, _, rfl⟩ (Mo_nest_ok _ _ _ _ hR _ _ _ hp.1) rfl rfl rfl (Nat.le_of_ble_eq_true rfl) (fun h83 => ?_) (fun h83 => hF.trans (by first | (simp only [fMo_unary_80, if_neg h83]; done) | (simp only [fMo_unary_80, if_neg h83]; rfl) | rfl))
  refine pm_wk [0, 1, 2] rfl ?_
  exact Mo_unary_n86 g d ex R hR G GQ hG0 hG1 hG2 J _ _ _ _   _ _ _ _ (hp.2 h83) (hF.trans (by first | (simp only [fMo_unary_80, if_pos h83]; done) | (simp only [fMo_unary_80, if_pos h83]; rfl) | rfl))
set_option maxHeartbeats 4000000 in
set_option maxRecDepth 100000 in
theorem Mo_unary_n119 (g : pmG) (d : Nat) (ex : List (Nat × Nat)) (R : Nat → Nat → Value) (hR : mk_R R) (G : Nat → Int32 → Int32 → (Nat → Nat → Int32) → Int32 × Int32 × Int32 × (Nat → Nat → Int32)) (GQ : Nat → Int32 → Int32 → (Nat → Nat → Int32) → Prop) (hG0 : ∀ (x0 x1 : Int32) (I : Nat → Nat → Int32) (J : Nat → Nat → Int64), GQ 0 x0 x1 I → pmT g kMo_expression (d + 12) [.ref 40, .int x0] (mk_K ++ ex, R, I, J) (pt_I (mk_K ++ ex) R J (G 0 x0 x1 I))) (hG1 : ∀ (x0 x1 : Int32) (I : Nat → Nat → Int32) (J : Nat → Nat → Int64), GQ 1 x0 x1 I → pmT g kMo_chain (d + 12) [.ref 40, .int x0, .int x1] (mk_K ++ ex, R, I, J) (pt_I (mk_K ++ ex) R J (G 1 x0 x1 I))) (hG2 : ∀ (x0 x1 : Int32) (I : Nat → Nat → Int32) (J : Nat → Nat → Int64), GQ 2 x0 x1 I → pmT g kMo_unary (d + 12) [.ref 40, .int x0] (mk_K ++ ex, R, I, J) (pt_I (mk_K ++ ex) R J (G 2 x0 x1 I))) (J : Nat → Nat → Int64) (o : Outcome) (Z : pmM) (rc rs : Nat)  (y1 : Int32) (y2 : Int32) (z1 : Int32) (z2 : Int32) (I : Nat → Nat → Int32) (hp : pMo_unary_119 G GQ y1 y2 z1 z2 I) (hF : (o, Z, rc, rs) = pt_I (mk_K ++ ex) R J (fMo_unary_119 G y1 y2 z1 z2 I)) : pmE g kMo_unary (d + 13) rc rs 119 [(0, .ref 40), (1, .int y1), (2, .int y2)] [.int z2, .int z1, .ref 40] (mk_K ++ ex) R I J o Z := by
  unfold pMo_unary_119 at hp
  refine pm_iconst (v := (-1)) dMo_unary_119 (by decide) ?_
  refine pm_callV dMo_unary_120 lMo_280 vMo_node ⟨_, _, rfl⟩ (Mo_node_ok _ _ _ _ hR _ _ _ _ _ hp.1) rfl rfl rfl (Nat.le_of_ble_eq_true rfl) (Nat.le_refl _) (Nat.le_refl _) ?_
  exact pt_iret dMo_unary_123 rfl (hF.trans (by first | (simp only [fMo_unary_119]; done) | (simp only [fMo_unary_119]; rfl) | rfl))
set_option maxHeartbeats 4000000 in
set_option maxRecDepth 100000 in
theorem Mo_unary_n136 (g : pmG) (d : Nat) (ex : List (Nat × Nat)) (R : Nat → Nat → Value) (hR : mk_R R) (G : Nat → Int32 → Int32 → (Nat → Nat → Int32) → Int32 × Int32 × Int32 × (Nat → Nat → Int32)) (GQ : Nat → Int32 → Int32 → (Nat → Nat → Int32) → Prop) (hG0 : ∀ (x0 x1 : Int32) (I : Nat → Nat → Int32) (J : Nat → Nat → Int64), GQ 0 x0 x1 I → pmT g kMo_expression (d + 12) [.ref 40, .int x0] (mk_K ++ ex, R, I, J) (pt_I (mk_K ++ ex) R J (G 0 x0 x1 I))) (hG1 : ∀ (x0 x1 : Int32) (I : Nat → Nat → Int32) (J : Nat → Nat → Int64), GQ 1 x0 x1 I → pmT g kMo_chain (d + 12) [.ref 40, .int x0, .int x1] (mk_K ++ ex, R, I, J) (pt_I (mk_K ++ ex) R J (G 1 x0 x1 I))) (hG2 : ∀ (x0 x1 : Int32) (I : Nat → Nat → Int32) (J : Nat → Nat → Int64), GQ 2 x0 x1 I → pmT g kMo_unary (d + 12) [.ref 40, .int x0] (mk_K ++ ex, R, I, J) (pt_I (mk_K ++ ex) R J (G 2 x0 x1 I))) (J : Nat → Nat → Int64) (o : Outcome) (Z : pmM) (rc rs : Nat)  (y1 : Int32) (y2 : Int32) (I : Nat → Nat → Int32) (hp : pMo_unary_136 G GQ y1 y2 I) (hF : (o, Z, rc, rs) = pt_I (mk_K ++ ex) R J (fMo_unary_136 G y1 y2 I)) : pmE g kMo_unary (d + 13) rc rs 136 [(0, .ref 40), (1, .int y1), (2, .int y2)] [] (mk_K ++ ex) R I J o Z := by
  unfold pMo_unary_136 at hp
  refine pm_aload_n dMo_unary_136 rfl ?_
  exact pt_cant (v2 := some (.int 0)) dMo_unary_137 lMo_211 vMo_cant ⟨_, _, rfl⟩ (Mo_cant_ok _ _ _ _ hR _ _ hp) dMo_unary_140 rfl (by decide +kernel) (Nat.le_of_ble_eq_true rfl) (fMo_cant_ne _) (hF.trans (by first | (simp only [fMo_unary_136]; done) | (simp only [fMo_unary_136]; rfl) | rfl))
set_option maxHeartbeats 4000000 in
set_option maxRecDepth 100000 in
theorem Mo_unary_n169 (g : pmG) (d : Nat) (ex : List (Nat × Nat)) (R : Nat → Nat → Value) (hR : mk_R R) (G : Nat → Int32 → Int32 → (Nat → Nat → Int32) → Int32 × Int32 × Int32 × (Nat → Nat → Int32)) (GQ : Nat → Int32 → Int32 → (Nat → Nat → Int32) → Prop) (hG0 : ∀ (x0 x1 : Int32) (I : Nat → Nat → Int32) (J : Nat → Nat → Int64), GQ 0 x0 x1 I → pmT g kMo_expression (d + 12) [.ref 40, .int x0] (mk_K ++ ex, R, I, J) (pt_I (mk_K ++ ex) R J (G 0 x0 x1 I))) (hG1 : ∀ (x0 x1 : Int32) (I : Nat → Nat → Int32) (J : Nat → Nat → Int64), GQ 1 x0 x1 I → pmT g kMo_chain (d + 12) [.ref 40, .int x0, .int x1] (mk_K ++ ex, R, I, J) (pt_I (mk_K ++ ex) R J (G 1 x0 x1 I))) (hG2 : ∀ (x0 x1 : Int32) (I : Nat → Nat → Int32) (J : Nat → Nat → Int64), GQ 2 x0 x1 I → pmT g kMo_unary (d + 12) [.ref 40, .int x0] (mk_K ++ ex, R, I, J) (pt_I (mk_K ++ ex) R J (G 2 x0 x1 I))) (J : Nat → Nat → Int64) (o : Outcome) (Z : pmM) (rc rs : Nat)  (y1 : Int32) (y2 : Int32) (y3 : Int32) (I : Nat → Nat → Int32) (hp : pMo_unary_169 G GQ y1 y2 y3 I) (hF : (o, Z, rc, rs) = pt_I (mk_K ++ ex) R J (fMo_unary_169 G y1 y2 y3 I)) : pmE g kMo_unary (d + 13) rc rs 169 [(0, .ref 40), (1, .int y1), (2, .int y2), (3, .int y3)] [] (mk_K ++ ex) R I J o Z := by
  unfold pMo_unary_169 at hp
  refine pt_wr (e := 2) (w := (I 40 7)) (v2 := some (.int 0)) dMo_unary_169 dMo_unary_172 nMo_187 (by decide) (hF.trans (by first | (simp only [fMo_unary_169]; done) | (simp only [fMo_unary_169]; rfl) | rfl)) ?_
  refine pm_iconst (v := 2) dMo_unary_173 (by decide) ?_
  refine pm_aload_n dMo_unary_174 rfl ?_
  refine pm_geti dMo_unary_175 fMo_33 rfl ?_
  refine pm_eqi (I 40 7) (congrFun (pm_z_n _ _ (mk_ne ex)) _) ?_
  exact pt_wi dMo_unary_178 lMo_189 dMo_unary_181 (by decide +kernel) (Nat.le_of_ble_eq_true rfl)
set_option maxHeartbeats 4000000 in
set_option maxRecDepth 100000 in
theorem Mo_unary_n186 (g : pmG) (d : Nat) (ex : List (Nat × Nat)) (R : Nat → Nat → Value) (hR : mk_R R) (G : Nat → Int32 → Int32 → (Nat → Nat → Int32) → Int32 × Int32 × Int32 × (Nat → Nat → Int32)) (GQ : Nat → Int32 → Int32 → (Nat → Nat → Int32) → Prop) (hG0 : ∀ (x0 x1 : Int32) (I : Nat → Nat → Int32) (J : Nat → Nat → Int64), GQ 0 x0 x1 I → pmT g kMo_expression (d + 12) [.ref 40, .int x0] (mk_K ++ ex, R, I, J) (pt_I (mk_K ++ ex) R J (G 0 x0 x1 I))) (hG1 : ∀ (x0 x1 : Int32) (I : Nat → Nat → Int32) (J : Nat → Nat → Int64), GQ 1 x0 x1 I → pmT g kMo_chain (d + 12) [.ref 40, .int x0, .int x1] (mk_K ++ ex, R, I, J) (pt_I (mk_K ++ ex) R J (G 1 x0 x1 I))) (hG2 : ∀ (x0 x1 : Int32) (I : Nat → Nat → Int32) (J : Nat → Nat → Int64), GQ 2 x0 x1 I → pmT g kMo_unary (d + 12) [.ref 40, .int x0] (mk_K ++ ex, R, I, J) (pt_I (mk_K ++ ex) R J (G 2 x0 x1 I))) (J : Nat → Nat → Int64) (o : Outcome) (Z : pmM) (rc rs : Nat)  (y1 : Int32) (y2 : Int32) (y3 : Int32) (I : Nat → Nat → Int32) (hp : pMo_unary_186 G GQ y1 y2 y3 I) (hF : (o, Z, rc, rs) = pt_I (mk_K ++ ex) R J (fMo_unary_186 G y1 y2 y3 I)) : pmE g kMo_unary (d + 13) rc rs 186 [(0, .ref 40), (1, .int y1), (2, .int y2), (3, .int y3)] [] (mk_K ++ ex) R I J o Z := by
  unfold pMo_unary_186 at hp
  refine pm_aload_n dMo_unary_186 rfl ?_
  refine pm_iconst (v := 1) dMo_unary_187 (by decide) ?_
  refine pm_iload_n dMo_unary_188 rfl ?_
  refine pm_iconst (v := (-1)) dMo_unary_189 (by decide) ?_
  refine pm_callV dMo_unary_190 lMo_280 vMo_node ⟨_, _, rfl⟩ (Mo_node_ok _ _ _ _ hR _ _ _ _ _ hp.1) rfl rfl rfl (Nat.le_of_ble_eq_true rfl) (Nat.le_refl _) (Nat.le_refl _) ?_
  exact pt_iret dMo_unary_193 rfl (hF.trans (by first | (simp only [fMo_unary_186]; done) | (simp only [fMo_unary_186]; rfl) | rfl))
set_option maxHeartbeats 4000000 in
set_option maxRecDepth 100000 in
theorem Mo_unary_n133 (g : pmG) (d : Nat) (ex : List (Nat × Nat)) (R : Nat → Nat → Value) (hR : mk_R R) (G : Nat → Int32 → Int32 → (Nat → Nat → Int32) → Int32 × Int32 × Int32 × (Nat → Nat → Int32)) (GQ : Nat → Int32 → Int32 → (Nat → Nat → Int32) → Prop) (hG0 : ∀ (x0 x1 : Int32) (I : Nat → Nat → Int32) (J : Nat → Nat → Int64), GQ 0 x0 x1 I → pmT g kMo_expression (d + 12) [.ref 40, .int x0] (mk_K ++ ex, R, I, J) (pt_I (mk_K ++ ex) R J (G 0 x0 x1 I))) (hG1 : ∀ (x0 x1 : Int32) (I : Nat → Nat → Int32) (J : Nat → Nat → Int64), GQ 1 x0 x1 I → pmT g kMo_chain (d + 12) [.ref 40, .int x0, .int x1] (mk_K ++ ex, R, I, J) (pt_I (mk_K ++ ex) R J (G 1 x0 x1 I))) (hG2 : ∀ (x0 x1 : Int32) (I : Nat → Nat → Int32) (J : Nat → Nat → Int64), GQ 2 x0 x1 I → pmT g kMo_unary (d + 12) [.ref 40, .int x0] (mk_K ++ ex, R, I, J) (pt_I (mk_K ++ ex) R J (G 2 x0 x1 I))) (J : Nat → Nat → Int64) (o : Outcome) (Z : pmM) (rc rs : Nat)  (y1 : Int32) (y2 : Int32) (z0 : Int32) (I : Nat → Nat → Int32) (hp : pMo_unary_133 G GQ y1 y2 z0 I) (hF : (o, Z, rc, rs) = pt_I (mk_K ++ ex) R J (fMo_unary_133 G y1 y2 z0 I)) : pmE g kMo_unary (d + 13) rc rs 133 [(0, .ref 40), (1, .int y1), (2, .int y2)] [.int z0] (mk_K ++ ex) R I J o Z := by
  unfold pMo_unary_133 at hp
  refine pm_if_eq 141 dMo_unary_133 (by decide) (fun h133 => ?_) (fun h133 => ?_)
  ·
    refine pm_aload_n dMo_unary_141 rfl ?_
    refine pm_callV dMo_unary_142 lMo_261 vMo_named ⟨_, _, rfl⟩ (Mo_named_ok _ _ _ _ hR _ _ _ _ (hp.1 h133).1) rfl rfl rfl (Nat.le_of_ble_eq_true rfl) (Nat.le_refl _) (Nat.le_refl _) ?_
    refine pm_istore_n dMo_unary_145 (by decide) rfl ?_
    refine pm_iload_n dMo_unary_146 rfl ?_
    refine pm_if_lt 169 dMo_unary_147 (by decide) (fun h147 => ?_) (fun h147 => ?_)
    ·
      refine pm_wk [1, 2, 3, 0] rfl ?_
      exact Mo_unary_n169 g d ex R hR G GQ hG0 hG1 hG2 J _ _ _ _   _ _ _ _ ((hp.1 h133).2.1 h147) (hF.trans (by first | (simp only [fMo_unary_133, if_pos h133, if_pos h147]; done) | (simp only [fMo_unary_133, if_pos h133, if_pos h147]; rfl) | rfl))
    ·
      refine pm_aload_n dMo_unary_150 rfl ?_
      refine pm_getr dMo_unary_151 fMo_56 rfl (rr_40_14 hR) ?_
      refine pm_iload_n dMo_unary_154 rfl ?_
      refine pm_iald dMo_unary_155 rfl ((hp.1 h133).2.2 h147).1 ?_
      refine pm_if_eq 169 dMo_unary_156 (by decide) (fun h156 => ?_) (fun h156 => ?_)
      ·
        refine pm_wk [1, 2, 3, 0] rfl ?_
        exact Mo_unary_n169 g d ex R hR G GQ hG0 hG1 hG2 J _ _ _ _   _ _ _ _ (((hp.1 h133).2.2 h147).2.1 h156) (hF.trans (by first | (simp only [fMo_unary_133, if_pos h133, if_neg h147, if_pos h156]; done) | (simp only [fMo_unary_133, if_pos h133, if_neg h147, if_pos h156]; rfl) | rfl))
      ·
        refine pm_aload_n dMo_unary_159 rfl ?_
        refine pm_getr dMo_unary_160 fMo_56 rfl (rr_40_14 hR) ?_
        refine pm_iload_n dMo_unary_163 rfl ?_
        refine pm_iald dMo_unary_164 rfl (((hp.1 h133).2.2 h147).2.2 h156).1 ?_
        refine pm_iconst (v := 4) dMo_unary_165 (by decide) ?_
        refine pm_icmp_ne 182 dMo_unary_166 (by decide) (fun h166 => ?_) (fun h166 => ?_)
        ·
          refine pm_aload_n dMo_unary_182 rfl ?_
          refine pt_callV (v2 := some (.int 0)) dMo_unary_183 lMo_215 vMo_take ⟨_, _, rfl⟩ (Mo_take_ok _ _ _ _ hR  _ _ ((((hp.1 h133).2.2 h147).2.2 h156).2.2 h166).1) rfl rfl rfl (Nat.le_of_ble_eq_true rfl) (fun h183 => ?_) (fun h183 => hF.trans (by first | (simp only [fMo_unary_133, if_pos h133, if_neg h147, if_neg h156, if_neg h166, if_neg h183]; done) | (simp only [fMo_unary_133, if_pos h133, if_neg h147, if_neg h156, if_neg h166, if_neg h183]; rfl) | rfl))
          refine pm_wk [1, 2, 3, 0] rfl ?_
          exact Mo_unary_n186 g d ex R hR G GQ hG0 hG1 hG2 J _ _ _ _   _ _ _ _ (((((hp.1 h133).2.2 h147).2.2 h156).2.2 h166).2 h183) (hF.trans (by first | (simp only [fMo_unary_133, if_pos h133, if_neg h147, if_neg h156, if_neg h166, if_pos h183]; done) | (simp only [fMo_unary_133, if_pos h133, if_neg h147, if_neg h156, if_neg h166, if_pos h183]; rfl) | rfl))
        ·
          refine pm_wk [1, 2, 3, 0] rfl ?_
          exact Mo_unary_n169 g d ex R hR G GQ hG0 hG1 hG2 J _ _ _ _   _ _ _ _ ((((hp.1 h133).2.2 h147).2.2 h156).2.1 h166) (hF.trans (by first | (simp only [fMo_unary_133, if_pos h133, if_neg h147, if_neg h156, if_pos h166]; done) | (simp only [fMo_unary_133, if_pos h133, if_neg h147, if_neg h156, if_pos h166]; rfl) | rfl))
  ·
    refine pm_wk [0, 1, 2] rfl ?_
    exact Mo_unary_n136 g d ex R hR G GQ hG0 hG1 hG2 J _ _ _ _   _ _ _ (hp.2 h133) (hF.trans (by first | (simp only [fMo_unary_133, if_neg h133]; done) | (simp only [fMo_unary_133, if_neg h133]; rfl) | rfl))
set_option maxHeartbeats 4000000 in
set_option maxRecDepth 100000 in
theorem Mo_unary_n4 (g : pmG) (d : Nat) (ex : List (Nat × Nat)) (R : Nat → Nat → Value) (hR : mk_R R) (G : Nat → Int32 → Int32 → (Nat → Nat → Int32) → Int32 × Int32 × Int32 × (Nat → Nat → Int32)) (GQ : Nat → Int32 → Int32 → (Nat → Nat → Int32) → Prop) (hG0 : ∀ (x0 x1 : Int32) (I : Nat → Nat → Int32) (J : Nat → Nat → Int64), GQ 0 x0 x1 I → pmT g kMo_expression (d + 12) [.ref 40, .int x0] (mk_K ++ ex, R, I, J) (pt_I (mk_K ++ ex) R J (G 0 x0 x1 I))) (hG1 : ∀ (x0 x1 : Int32) (I : Nat → Nat → Int32) (J : Nat → Nat → Int64), GQ 1 x0 x1 I → pmT g kMo_chain (d + 12) [.ref 40, .int x0, .int x1] (mk_K ++ ex, R, I, J) (pt_I (mk_K ++ ex) R J (G 1 x0 x1 I))) (hG2 : ∀ (x0 x1 : Int32) (I : Nat → Nat → Int32) (J : Nat → Nat → Int64), GQ 2 x0 x1 I → pmT g kMo_unary (d + 12) [.ref 40, .int x0] (mk_K ++ ex, R, I, J) (pt_I (mk_K ++ ex) R J (G 2 x0 x1 I))) (J : Nat → Nat → Int64) (o : Outcome) (Z : pmM) (rc rs : Nat)  (y1 : Int32) (z0 : Int32) (I : Nat → Nat → Int32) (hp : pMo_unary_4 G GQ y1 z0 I) (hF : (o, Z, rc, rs) = pt_I (mk_K ++ ex) R J (fMo_unary_4 G y1 z0 I)) : pmE g kMo_unary (d + 13) rc rs 4 [(0, .ref 40), (1, .int y1)] [.int z0] (mk_K ++ ex) R I J o Z := by
  unfold pMo_unary_4 at hp
  refine pm_istore_n dMo_unary_4 (by decide) rfl ?_
  refine pm_iload_n dMo_unary_5 rfl ?_
  refine pm_bipush (v := 45) dMo_unary_6 (by decide) ?_
  refine pm_icmp_eq 23 dMo_unary_8 (by decide) (fun h8 => ?_) (fun h8 => ?_)
  ·
    refine pm_wk [1, 2, 0] rfl ?_
    exact Mo_unary_n23 g d ex R hR G GQ hG0 hG1 hG2 J _ _ _ _   _ _ _ (hp.1 h8) (hF.trans (by first | (simp only [fMo_unary_4, if_pos h8]; done) | (simp only [fMo_unary_4, if_pos h8]; rfl) | rfl))
  ·
    refine pm_iload_n dMo_unary_11 rfl ?_
    refine pm_bipush (v := 126) dMo_unary_12 (by decide) ?_
    refine pm_icmp_eq 23 dMo_unary_14 (by decide) (fun h14 => ?_) (fun h14 => ?_)
    ·
      refine pm_wk [1, 2, 0] rfl ?_
      exact Mo_unary_n23 g d ex R hR G GQ hG0 hG1 hG2 J _ _ _ _   _ _ _ ((hp.2 h8).1 h14) (hF.trans (by first | (simp only [fMo_unary_4, if_neg h8, if_pos h14]; done) | (simp only [fMo_unary_4, if_neg h8, if_pos h14]; rfl) | rfl))
    ·
      refine pm_iload_n dMo_unary_17 rfl ?_
      refine pm_bipush (v := 33) dMo_unary_18 (by decide) ?_
      refine pm_icmp_ne 70 dMo_unary_20 (by decide) (fun h20 => ?_) (fun h20 => ?_)
      ·
        refine pm_iload_n dMo_unary_70 rfl ?_
        refine pm_bipush (v := 40) dMo_unary_71 (by decide) ?_
        refine pm_icmp_ne 104 dMo_unary_73 (by decide) (fun h73 => ?_) (fun h73 => ?_)
        ·
          refine pm_iload_n dMo_unary_104 rfl ?_
          refine pm_iconst (v := 2) dMo_unary_105 (by decide) ?_
          refine pm_icmp_ne 124 dMo_unary_106 (by decide) (fun h106 => ?_) (fun h106 => ?_)
          ·
            refine pm_iload_n dMo_unary_124 rfl ?_
            refine pm_iconst (v := 1) dMo_unary_125 (by decide) ?_
            refine pm_icmp_ne 136 dMo_unary_126 (by decide) (fun h126 => ?_) (fun h126 => ?_)
            ·
              refine pm_wk [1, 2, 0] rfl ?_
              exact Mo_unary_n136 g d ex R hR G GQ hG0 hG1 hG2 J _ _ _ _   _ _ _ ((((((hp.2 h8).2 h14).2 h20).2 h73).2 h106).2 h126) (hF.trans (by first | (simp only [fMo_unary_4, if_neg h8, if_neg h14, if_neg h20, if_neg h73, if_neg h106, if_neg h126]; done) | (simp only [fMo_unary_4, if_neg h8, if_neg h14, if_neg h20, if_neg h73, if_neg h106, if_neg h126]; rfl) | rfl))
            ·
              refine pm_aload_n dMo_unary_129 rfl ?_
              refine pt_callV (v2 := some (.int 0)) dMo_unary_130 lMo_257 vMo_reserved ⟨_, _, rfl⟩ (Mo_reserved_ok _ _ _ _ hR  _ _ ((((((hp.2 h8).2 h14).2 h20).2 h73).2 h106).1 h126).1) rfl rfl rfl (Nat.le_of_ble_eq_true rfl) (fun h130 => ?_) (fun h130 => hF.trans (by first | (simp only [fMo_unary_4, if_neg h8, if_neg h14, if_neg h20, if_neg h73, if_neg h106, if_pos h126, if_neg h130]; done) | (simp only [fMo_unary_4, if_neg h8, if_neg h14, if_neg h20, if_neg h73, if_neg h106, if_pos h126, if_neg h130]; rfl) | rfl))
              refine pm_wk [1, 2, 0] rfl ?_
              exact Mo_unary_n133 g d ex R hR G GQ hG0 hG1 hG2 J _ _ _ _   _ _ _ _ (((((((hp.2 h8).2 h14).2 h20).2 h73).2 h106).1 h126).2 h130) (hF.trans (by first | (simp only [fMo_unary_4, if_neg h8, if_neg h14, if_neg h20, if_neg h73, if_neg h106, if_pos h126, if_pos h130]; done) | (simp only [fMo_unary_4, if_neg h8, if_neg h14, if_neg h20, if_neg h73, if_neg h106, if_pos h126, if_pos h130]; rfl) | rfl))
          ·
            refine pm_aload_n dMo_unary_109 rfl ?_
            refine pm_iconst (v := 0) dMo_unary_110 (by decide) ?_
            refine pm_aload_n dMo_unary_111 rfl ?_
            refine pm_iconst (v := 0) dMo_unary_112 (by decide) ?_
            refine pm_sipush (v := 255) dMo_unary_113 (by decide) ?_
            refine pt_callV (v2 := some (.int 0)) dMo_unary_116 lMo_294 vMo_number ⟨_, _, rfl⟩ (Mo_number_ok _ _ _ _ hR _ _ _ _ _ (((((hp.2 h8).2 h14).2 h20).2 h73).1 h106).1) rfl rfl rfl (Nat.le_of_ble_eq_true rfl) (fun h116 => ?_) (fun h116 => hF.trans (by first | (simp only [fMo_unary_4, if_neg h8, if_neg h14, if_neg h20, if_neg h73, if_pos h106, if_neg h116]; done) | (simp only [fMo_unary_4, if_neg h8, if_neg h14, if_neg h20, if_neg h73, if_pos h106, if_neg h116]; rfl) | rfl))
            refine pm_wk [1, 2, 0] rfl ?_
            exact Mo_unary_n119 g d ex R hR G GQ hG0 hG1 hG2 J _ _ _ _   _ _ _ _ _ ((((((hp.2 h8).2 h14).2 h20).2 h73).1 h106).2 h116) (hF.trans (by first | (simp only [fMo_unary_4, if_neg h8, if_neg h14, if_neg h20, if_neg h73, if_pos h106, if_pos h116]; done) | (simp only [fMo_unary_4, if_neg h8, if_neg h14, if_neg h20, if_neg h73, if_pos h106, if_pos h116]; rfl) | rfl))
        ·
          refine pm_aload_n dMo_unary_76 rfl ?_
          refine pt_callV (v2 := some (.int 0)) dMo_unary_77 lMo_215 vMo_take ⟨_, _, rfl⟩ (Mo_take_ok _ _ _ _ hR  _ _ ((((hp.2 h8).2 h14).2 h20).1 h73).1) rfl rfl rfl (Nat.le_of_ble_eq_true rfl) (fun h77 => ?_) (fun h77 => hF.trans (by first | (simp only [fMo_unary_4, if_neg h8, if_neg h14, if_neg h20, if_pos h73, if_neg h77]; done) | (simp only [fMo_unary_4, if_neg h8, if_neg h14, if_neg h20, if_pos h73, if_neg h77]; rfl) | rfl))
          refine pm_wk [1, 2, 0] rfl ?_
          exact Mo_unary_n80 g d ex R hR G GQ hG0 hG1 hG2 J _ _ _ _   _ _ _ (((((hp.2 h8).2 h14).2 h20).1 h73).2 h77) (hF.trans (by first | (simp only [fMo_unary_4, if_neg h8, if_neg h14, if_neg h20, if_pos h73, if_pos h77]; done) | (simp only [fMo_unary_4, if_neg h8, if_neg h14, if_neg h20, if_pos h73, if_pos h77]; rfl) | rfl))
      ·
        refine pm_wk [1, 2, 0] rfl ?_
        exact Mo_unary_n23 g d ex R hR G GQ hG0 hG1 hG2 J _ _ _ _   _ _ _ (((hp.2 h8).2 h14).1 h20) (hF.trans (by first | (simp only [fMo_unary_4, if_neg h8, if_neg h14, if_pos h20]; done) | (simp only [fMo_unary_4, if_neg h8, if_neg h14, if_pos h20]; rfl) | rfl))
set_option maxHeartbeats 4000000 in
set_option maxRecDepth 100000 in
theorem Mo_unary_n0 (g : pmG) (d : Nat) (ex : List (Nat × Nat)) (R : Nat → Nat → Value) (hR : mk_R R) (G : Nat → Int32 → Int32 → (Nat → Nat → Int32) → Int32 × Int32 × Int32 × (Nat → Nat → Int32)) (GQ : Nat → Int32 → Int32 → (Nat → Nat → Int32) → Prop) (hG0 : ∀ (x0 x1 : Int32) (I : Nat → Nat → Int32) (J : Nat → Nat → Int64), GQ 0 x0 x1 I → pmT g kMo_expression (d + 12) [.ref 40, .int x0] (mk_K ++ ex, R, I, J) (pt_I (mk_K ++ ex) R J (G 0 x0 x1 I))) (hG1 : ∀ (x0 x1 : Int32) (I : Nat → Nat → Int32) (J : Nat → Nat → Int64), GQ 1 x0 x1 I → pmT g kMo_chain (d + 12) [.ref 40, .int x0, .int x1] (mk_K ++ ex, R, I, J) (pt_I (mk_K ++ ex) R J (G 1 x0 x1 I))) (hG2 : ∀ (x0 x1 : Int32) (I : Nat → Nat → Int32) (J : Nat → Nat → Int64), GQ 2 x0 x1 I → pmT g kMo_unary (d + 12) [.ref 40, .int x0] (mk_K ++ ex, R, I, J) (pt_I (mk_K ++ ex) R J (G 2 x0 x1 I))) (J : Nat → Nat → Int64) (o : Outcome) (Z : pmM) (rc rs : Nat)  (y1 : Int32) (I : Nat → Nat → Int32) (hp : pMo_unary G GQ y1 I) (hF : (o, Z, rc, rs) = pt_I (mk_K ++ ex) R J (fMo_unary G y1 I)) : pmE g kMo_unary (d + 13) rc rs 0 [(0, .ref 40), (1, .int y1)] [] (mk_K ++ ex) R I J o Z := by
  unfold pMo_unary at hp
  refine pm_aload_n dMo_unary_0 rfl ?_
  refine pt_callV (v2 := some (.int 0)) dMo_unary_1 lMo_207 vMo_peek ⟨_, _, rfl⟩ (Mo_peek_ok _ _ _ _ hR _ _ _ _ hp.1) rfl rfl rfl (Nat.le_of_ble_eq_true rfl) (fun h1 => ?_) (fun h1 => hF.trans (by first | (simp only [fMo_unary, if_neg h1]; done) | (simp only [fMo_unary, if_neg h1]; rfl) | rfl))
  refine pm_wk [0, 1] rfl ?_
  exact Mo_unary_n4 g d ex R hR G GQ hG0 hG1 hG2 J _ _ _ _   _ _ _ (hp.2 h1) (hF.trans (by first | (simp only [fMo_unary, if_pos h1]; done) | (simp only [fMo_unary, if_pos h1]; rfl) | rfl))
set_option maxHeartbeats 4000000 in
set_option maxRecDepth 100000 in
theorem Mo_unary_ok (g : pmG) (d : Nat) (ex : List (Nat × Nat)) (R : Nat → Nat → Value) (hR : mk_R R) (G : Nat → Int32 → Int32 → (Nat → Nat → Int32) → Int32 × Int32 × Int32 × (Nat → Nat → Int32)) (GQ : Nat → Int32 → Int32 → (Nat → Nat → Int32) → Prop) (hG0 : ∀ (x0 x1 : Int32) (I : Nat → Nat → Int32) (J : Nat → Nat → Int64), GQ 0 x0 x1 I → pmT g kMo_expression (d + 12) [.ref 40, .int x0] (mk_K ++ ex, R, I, J) (pt_I (mk_K ++ ex) R J (G 0 x0 x1 I))) (hG1 : ∀ (x0 x1 : Int32) (I : Nat → Nat → Int32) (J : Nat → Nat → Int64), GQ 1 x0 x1 I → pmT g kMo_chain (d + 12) [.ref 40, .int x0, .int x1] (mk_K ++ ex, R, I, J) (pt_I (mk_K ++ ex) R J (G 1 x0 x1 I))) (hG2 : ∀ (x0 x1 : Int32) (I : Nat → Nat → Int32) (J : Nat → Nat → Int64), GQ 2 x0 x1 I → pmT g kMo_unary (d + 12) [.ref 40, .int x0] (mk_K ++ ex, R, I, J) (pt_I (mk_K ++ ex) R J (G 2 x0 x1 I)))  (x0 : Int32) (I : Nat → Nat → Int32) (J : Nat → Nat → Int64) (hp : pMo_unary G GQ x0 I) : pmT g kMo_unary (d + 13) [.ref 40, .int x0] (mk_K ++ ex, R, I, J) (pt_I (mk_K ++ ex) R J (fMo_unary G x0 I)) :=
  pmC.of (by decide) (Nat.le_of_ble_eq_true rfl) (Mo_unary_n0 g d ex R hR G GQ hG0 hG1 hG2 J _ _ _ _  x0 I hp rfl)
def me_F : Nat → Nat → Int32 → Int32 → (Nat → Nat → Int32) → Int32 × Int32 × Int32 × (Nat → Nat → Int32)
  | 0, _, _, _, I => (0, 0, 0, I)
  | m + 1, t, x0, x1, I =>
  if t = 0 then fMo_expression (me_F m) x0 I
  else if t = 1 then fMo_chain (me_F m) 4002 x0 x1 I
  else if t = 2 then fMo_unary (me_F m) x0 I
  else (0, 0, 0, I)
def me_Q : Nat → Nat → Int32 → Int32 → (Nat → Nat → Int32) → Prop
  | 0, _, _, _, _ => False
  | m + 1, t, x0, x1, I =>
  if t = 0 then pMo_expression (me_F m) (me_Q m) x0 I
  else if t = 1 then pMo_chain (me_F m) (me_Q m) 4002 x0 x1 I
  else if t = 2 then pMo_unary (me_F m) (me_Q m) x0 I
  else False
set_option maxHeartbeats 4000000 in
set_option maxRecDepth 100000 in
theorem me_all (g : pmG) (d : Nat) (ex : List (Nat × Nat)) (R : Nat → Nat → Value) (hR : mk_R R) : ∀ m : Nat, (∀ (x0 x1 : Int32) (I : Nat → Nat → Int32) (J : Nat → Nat → Int64), me_Q m 0 x0 x1 I → pmT g kMo_expression (d + m + 12) [.ref 40, .int x0] (mk_K ++ ex, R, I, J) (pt_I (mk_K ++ ex) R J (me_F m 0 x0 x1 I))) ∧ (∀ (x0 x1 : Int32) (I : Nat → Nat → Int32) (J : Nat → Nat → Int64), me_Q m 1 x0 x1 I → pmT g kMo_chain (d + m + 12) [.ref 40, .int x0, .int x1] (mk_K ++ ex, R, I, J) (pt_I (mk_K ++ ex) R J (me_F m 1 x0 x1 I))) ∧ (∀ (x0 x1 : Int32) (I : Nat → Nat → Int32) (J : Nat → Nat → Int64), me_Q m 2 x0 x1 I → pmT g kMo_unary (d + m + 12) [.ref 40, .int x0] (mk_K ++ ex, R, I, J) (pt_I (mk_K ++ ex) R J (me_F m 2 x0 x1 I))) := by
  intro m
  induction m with
  | zero => exact ⟨fun _ _ _ _ h => False.elim h, fun _ _ _ _ h => False.elim h, fun _ _ _ _ h => False.elim h⟩
  | succ m ih => exact ⟨fun x0 x1 I J h => Mo_expression_ok g (d + m) ex R hR (me_F m) (me_Q m) ih.1 ih.2.1 ih.2.2  x0 I J h, fun x0 x1 I J h => Mo_chain_ok g (d + m) ex R hR (me_F m) (me_Q m) ih.1 ih.2.1 ih.2.2 4002 x0 x1 I J h, fun x0 x1 I J h => Mo_unary_ok g (d + m) ex R hR (me_F m) (me_Q m) ih.1 ih.2.1 ih.2.2  x0 I J h⟩
def fme_Mo_expression (x0 : Int32) (I : Nat → Nat → Int32) : Int32 × Int32 × Int32 × (Nat → Nat → Int32) := me_F 600 0 x0 0 I
def pme_Mo_expression (x0 : Int32) (I : Nat → Nat → Int32) : Prop := me_Q 600 0 x0 0 I
theorem me_Mo_expression_ok (g : pmG) (d : Nat) (ex : List (Nat × Nat)) (R : Nat → Nat → Value) (hR : mk_R R) (x0 : Int32) (I : Nat → Nat → Int32) (J : Nat → Nat → Int64) (hp : pme_Mo_expression x0 I) : pmT g kMo_expression (d + 612) [.ref 40, .int x0] (mk_K ++ ex, R, I, J) (pt_I (mk_K ++ ex) R J (fme_Mo_expression x0 I)) := by
  unfold pme_Mo_expression at hp
  unfold fme_Mo_expression
  rw [show d + 612 = d + 600 + 12 from rfl]
  exact (me_all g d ex R hR 600).1 x0 0 I J hp
