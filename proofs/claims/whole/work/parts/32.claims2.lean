def fCm_copy  (y1 : Int32) (y2 : Int32) (I : Nat → Nat → Int32) (J : Nat → Nat → Int64) : (Nat → Nat → Int64) :=
  pm_cpJ J 34 y1.toNatClampNeg y2.toNatClampNeg (4 : Int32).toNatClampNeg
def pCm_copy  (y1 : Int32) (y2 : Int32) (I : Nat → Nat → Int32) (J : Nat → Nat → Int64) : Prop :=
  ((¬ y1 < 0 ∧ ¬ y2 < 0 ∧ ¬ (4 : Int32) < 0 ∧ y1.toNatClampNeg + (4 : Int32).toNatClampNeg ≤ 624 ∧ y2.toNatClampNeg + (4 : Int32).toNatClampNeg ≤ 624)) ∧ True
set_option maxHeartbeats 4000000 in
set_option maxRecDepth 100000 in
theorem Cm_copy_n0 (g : pmG) (d : Nat) (ex : List (Nat × Nat)) (R : Nat → Nat → Value) (hR : pk_R R) (o : Outcome) (Z : pmM)  (y1 : Int32) (y2 : Int32) (I : Nat → Nat → Int32) (J : Nat → Nat → Int64) (hp : pCm_copy y1 y2 I J) (ho : o = .returned none) (hz : Z = (pk_K ++ ex, R, I, (fCm_copy y1 y2 I J))) : pmE g kCm_copy (d + 1) 0 0 0 [(0, .ref 33), (1, .int y1), (2, .int y2)] [] (pk_K ++ ex) R I J o Z := by
  unfold pCm_copy at hp
  refine pm_aload_n dCm_copy_0 rfl ?_
  refine pm_getr dCm_copy_1 fCm_11 rfl (rr_33_1 hR) ?_
  refine pm_iload_n dCm_copy_4 rfl ?_
  refine pm_aload_n dCm_copy_5 rfl ?_
  refine pm_getr dCm_copy_6 fCm_11 rfl (rr_33_1 hR) ?_
  refine pm_iload_n dCm_copy_9 rfl ?_
  refine pm_iconst (v := 4) dCm_copy_10 (by decide) ?_
  refine pm_copyl dCm_copy_11 yCm_129 rfl hp.1.1 hp.1.2.1 hp.1.2.2.1 hp.1.2.2.2.1 hp.1.2.2.2.2 (Nat.le_of_ble_eq_true rfl) ?_
  exact pm_vret dCm_copy_14 rfl ho (hz.trans (by first | rfl | (simp only [fCm_copy]; done) | (simp only [fCm_copy]; rfl)))
set_option maxHeartbeats 4000000 in
set_option maxRecDepth 100000 in
theorem Cm_copy_ok (g : pmG) (d : Nat) (ex : List (Nat × Nat)) (R : Nat → Nat → Value) (hR : pk_R R)  (x0 : Int32) (x1 : Int32) (I : Nat → Nat → Int32) (J : Nat → Nat → Int64) (hp : pCm_copy x0 x1 I J) : pmC g kCm_copy (d + 1) 0 0 [.ref 33, .int x0, .int x1] (pk_K ++ ex, R, I, J) (.returned none) (pk_K ++ ex, R, I, (fCm_copy x0 x1 I J)) :=
  pmC.of (by decide) (Nat.le_of_ble_eq_true rfl) (Cm_copy_n0 g d ex R hR _ _  x0 x1 I J hp rfl rfl)
def fCm_joinUntil_17  (y1 : Int32) (y2 : Int32) (y3 : Int32) (I : Nat → Nat → Int32) (J : Nat → Nat → Int64) : (Nat → Nat → Int32) × (Nat → Nat → Int64) :=
  (I, (fCm_copy y2 y3 I J))
def pCm_joinUntil_17  (y1 : Int32) (y2 : Int32) (y3 : Int32) (I : Nat → Nat → Int32) (J : Nat → Nat → Int64) : Prop :=
  (pCm_copy y2 y3 I J) ∧ True
def fCm_joinUntil_4  (y1 : Int32) (z0 : Int32) (I : Nat → Nat → Int32) (J : Nat → Nat → Int64) : (Nat → Nat → Int32) × (Nat → Nat → Int64) :=
  fCm_joinUntil_17 y1 z0 ((fCm_last I J)) ((fCm_until 257 257 y1 ((fCm_last I J)) z0 I J).1) ((fCm_until 257 257 y1 ((fCm_last I J)) z0 I J).2)
def pCm_joinUntil_4  (y1 : Int32) (z0 : Int32) (I : Nat → Nat → Int32) (J : Nat → Nat → Int64) : Prop :=
  (pCm_last I J) ∧ ((pCm_until 257 257 y1 ((fCm_last I J)) z0 I J) ∧ (pCm_joinUntil_17 y1 z0 ((fCm_last I J)) ((fCm_until 257 257 y1 ((fCm_last I J)) z0 I J).1) ((fCm_until 257 257 y1 ((fCm_last I J)) z0 I J).2)))
def fCm_joinUntil  (y1 : Int32) (I : Nat → Nat → Int32) (J : Nat → Nat → Int64) : (Nat → Nat → Int32) × (Nat → Nat → Int64) :=
  fCm_joinUntil_4 y1 ((fCm_pop I J).1) ((fCm_pop I J).2) J
def pCm_joinUntil  (y1 : Int32) (I : Nat → Nat → Int32) (J : Nat → Nat → Int64) : Prop :=
  (pCm_pop I J) ∧ (pCm_joinUntil_4 y1 ((fCm_pop I J).1) ((fCm_pop I J).2) J)
set_option maxHeartbeats 4000000 in
set_option maxRecDepth 100000 in
theorem Cm_joinUntil_n17 (g : pmG) (d : Nat) (ex : List (Nat × Nat)) (R : Nat → Nat → Value) (hR : pk_R R) (o : Outcome) (Z : pmM)  (y1 : Int32) (y2 : Int32) (y3 : Int32) (I : Nat → Nat → Int32) (J : Nat → Nat → Int64) (hp : pCm_joinUntil_17 y1 y2 y3 I J) (ho : o = .returned none) (hz : Z = (pk_K ++ ex, R, (fCm_joinUntil_17 y1 y2 y3 I J).1, (fCm_joinUntil_17 y1 y2 y3 I J).2)) : pmE g kCm_joinUntil (d + 3) 0 0 17 [(0, .ref 33), (1, .int y1), (2, .int y2), (3, .int y3)] [] (pk_K ++ ex) R I J o Z := by
  unfold pCm_joinUntil_17 at hp
  refine pm_aload_n dCm_joinUntil_17 rfl ?_
  refine pm_iload_n dCm_joinUntil_18 rfl ?_
  refine pm_iload_n dCm_joinUntil_19 rfl ?_
  refine pm_callV dCm_joinUntil_20 lCm_77 vCm_copy ⟨_, _, rfl⟩ (Cm_copy_ok _ _ _ _ hR _ _ _ _ hp.1) rfl rfl rfl (Nat.le_of_ble_eq_true rfl) (Nat.le_refl _) (Nat.le_refl _) ?_
  exact pm_vret dCm_joinUntil_23 rfl ho (hz.trans (by first | rfl | (simp only [fCm_joinUntil_17]; done) | (simp only [fCm_joinUntil_17]; rfl)))
set_option maxHeartbeats 4000000 in
set_option maxRecDepth 100000 in
theorem Cm_joinUntil_n4 (g : pmG) (d : Nat) (ex : List (Nat × Nat)) (R : Nat → Nat → Value) (hR : pk_R R) (o : Outcome) (Z : pmM)  (y1 : Int32) (z0 : Int32) (I : Nat → Nat → Int32) (J : Nat → Nat → Int64) (hp : pCm_joinUntil_4 y1 z0 I J) (ho : o = .returned none) (hz : Z = (pk_K ++ ex, R, (fCm_joinUntil_4 y1 z0 I J).1, (fCm_joinUntil_4 y1 z0 I J).2)) : pmE g kCm_joinUntil (d + 3) 0 0 4 [(0, .ref 33), (1, .int y1)] [.int z0] (pk_K ++ ex) R I J o Z := by
  unfold pCm_joinUntil_4 at hp
  refine pm_istore_n dCm_joinUntil_4 (by decide) rfl ?_
  refine pm_aload_n dCm_joinUntil_5 rfl ?_
  refine pm_callV dCm_joinUntil_6 lCm_83 vCm_last ⟨_, _, rfl⟩ (Cm_last_ok _ _ _ _ hR  _ _ hp.1) rfl rfl rfl (Nat.le_of_ble_eq_true rfl) (Nat.le_refl _) (Nat.le_refl _) ?_
  refine pm_istore_n dCm_joinUntil_9 (by decide) rfl ?_
  refine pm_aload_n dCm_joinUntil_10 rfl ?_
  refine pm_iload_n dCm_joinUntil_11 rfl ?_
  refine pm_iload_n dCm_joinUntil_12 rfl ?_
  refine pm_iload_n dCm_joinUntil_13 rfl ?_
  refine pm_callV dCm_joinUntil_14 lCm_101 vCm_until ⟨_, _, rfl⟩ (Cm_until_ok _ _ _ _ hR _ _ _ _ _ _ _ hp.2.1) rfl rfl rfl (Nat.le_of_ble_eq_true rfl) (Nat.le_refl _) (Nat.le_refl _) ?_
  refine pm_wk [2, 3, 1, 0] rfl ?_
  exact Cm_joinUntil_n17 g d ex R hR _ _   _ _ _ _ _ hp.2.2 ho (hz.trans (by first | rfl | (simp only [fCm_joinUntil_4]; done) | (simp only [fCm_joinUntil_4]; rfl)))
set_option maxHeartbeats 4000000 in
set_option maxRecDepth 100000 in
theorem Cm_joinUntil_n0 (g : pmG) (d : Nat) (ex : List (Nat × Nat)) (R : Nat → Nat → Value) (hR : pk_R R) (o : Outcome) (Z : pmM)  (y1 : Int32) (I : Nat → Nat → Int32) (J : Nat → Nat → Int64) (hp : pCm_joinUntil y1 I J) (ho : o = .returned none) (hz : Z = (pk_K ++ ex, R, (fCm_joinUntil y1 I J).1, (fCm_joinUntil y1 I J).2)) : pmE g kCm_joinUntil (d + 3) 0 0 0 [(0, .ref 33), (1, .int y1)] [] (pk_K ++ ex) R I J o Z := by
  unfold pCm_joinUntil at hp
  refine pm_aload_n dCm_joinUntil_0 rfl ?_
  refine pm_callV dCm_joinUntil_1 lCm_80 vCm_pop ⟨_, _, rfl⟩ (Cm_pop_ok _ _ _ _ hR  _ _ hp.1) rfl rfl rfl (Nat.le_of_ble_eq_true rfl) (Nat.le_refl _) (Nat.le_refl _) ?_
  refine pm_wk [0, 1] rfl ?_
  exact Cm_joinUntil_n4 g d ex R hR _ _   _ _ _ _ hp.2 ho (hz.trans (by first | rfl | (simp only [fCm_joinUntil]; done) | (simp only [fCm_joinUntil]; rfl)))
set_option maxHeartbeats 4000000 in
set_option maxRecDepth 100000 in
theorem Cm_joinUntil_ok (g : pmG) (d : Nat) (ex : List (Nat × Nat)) (R : Nat → Nat → Value) (hR : pk_R R)  (x0 : Int32) (I : Nat → Nat → Int32) (J : Nat → Nat → Int64) (hp : pCm_joinUntil x0 I J) : pmC g kCm_joinUntil (d + 3) 0 0 [.ref 33, .int x0] (pk_K ++ ex, R, I, J) (.returned none) (pk_K ++ ex, R, (fCm_joinUntil x0 I J).1, (fCm_joinUntil x0 I J).2) :=
  pmC.of (by decide) (Nat.le_of_ble_eq_true rfl) (Cm_joinUntil_n0 g d ex R hR _ _  x0 I J hp rfl rfl)
def fCm_allNext_33 (r7 : Int32 → Int32 → Int32 → (Nat → Nat → Int32) → (Nat → Nat → Int64) → (Nat → Nat → Int32) × (Nat → Nat → Int64)) (y1 : Int32) (y2 : Int32) (y3 : Int32) (I : Nat → Nat → Int32) (J : Nat → Nat → Int64) : (Nat → Nat → Int32) × (Nat → Nat → Int64) :=
  r7 y1 y2 (y3 + Int32.ofInt 1) I J
def pCm_allNext_33 (q7 : Int32 → Int32 → Int32 → (Nat → Nat → Int32) → (Nat → Nat → Int64) → Prop) (y1 : Int32) (y2 : Int32) (y3 : Int32) (I : Nat → Nat → Int32) (J : Nat → Nat → Int64) : Prop :=
  q7 y1 y2 (y3 + Int32.ofInt 1) I J
def fCm_allNext_44  (y1 : Int32) (y2 : Int32) (y3 : Int32) (z1 : Int32) (I : Nat → Nat → Int32) (J : Nat → Nat → Int64) : (Nat → Nat → Int32) × (Nat → Nat → Int64) :=
  (I, (fCm_copy z1 y1 I J))
def pCm_allNext_44  (y1 : Int32) (y2 : Int32) (y3 : Int32) (z1 : Int32) (I : Nat → Nat → Int32) (J : Nat → Nat → Int64) : Prop :=
  (pCm_copy z1 y1 I J) ∧ True
def fCm_allNext_7  : Nat → Int32 → Int32 → Int32 → (Nat → Nat → Int32) → (Nat → Nat → Int64) → (Nat → Nat → Int32) × (Nat → Nat → Int64)
  | 0, _, _, _, I, J => (I, J)
  | n + 1, y1, y2, y3, I, J =>
  if (I 25 1) ≤ y3 then fCm_allNext_44 y1 y2 y3 ((fCm_pop I J).1) ((fCm_pop I J).2) J
  else if ((fCm_isAtAllNext 9 y1 y3 I J)) = 0 then fCm_allNext_33 (fCm_allNext_7 n) y1 y2 y3 I J
    else fCm_allNext_33 (fCm_allNext_7 n) y1 y2 y3 I ((fCm_put y2 y3 I J))
def pCm_allNext_7  : Nat → Int32 → Int32 → Int32 → (Nat → Nat → Int32) → (Nat → Nat → Int64) → Prop
  | 0, _, _, _, _, _ => False
  | n + 1, y1, y2, y3, I, J =>
  ((I 25 1) ≤ y3 → (pCm_pop I J) ∧ (pCm_allNext_44 y1 y2 y3 ((fCm_pop I J).1) ((fCm_pop I J).2) J)) ∧
  (¬ ((I 25 1) ≤ y3) → (pCm_isAtAllNext 9 y1 y3 I J) ∧ ((((fCm_isAtAllNext 9 y1 y3 I J)) = 0 → pCm_allNext_33 (pCm_allNext_7 n) y1 y2 y3 I J) ∧
    (¬ (((fCm_isAtAllNext 9 y1 y3 I J)) = 0) → (pCm_put y2 y3 I J) ∧ (pCm_allNext_33 (pCm_allNext_7 n) y1 y2 y3 I ((fCm_put y2 y3 I J))))))
def fCm_allNext_4 (n7 : Nat) (y1 : Int32) (z0 : Int32) (I : Nat → Nat → Int32) (J : Nat → Nat → Int64) : (Nat → Nat → Int32) × (Nat → Nat → Int64) :=
  fCm_allNext_7 n7 y1 z0 (0 : Int32) I J
def pCm_allNext_4 (n7 : Nat) (y1 : Int32) (z0 : Int32) (I : Nat → Nat → Int32) (J : Nat → Nat → Int64) : Prop :=
  pCm_allNext_7 n7 y1 z0 (0 : Int32) I J
def fCm_allNext (n7 : Nat) (y1 : Int32) (I : Nat → Nat → Int32) (J : Nat → Nat → Int64) : (Nat → Nat → Int32) × (Nat → Nat → Int64) :=
  fCm_allNext_4 n7 y1 ((fCm_pushEmpty I J).1) ((fCm_pushEmpty I J).2.1) ((fCm_pushEmpty I J).2.2)
def pCm_allNext (n7 : Nat) (y1 : Int32) (I : Nat → Nat → Int32) (J : Nat → Nat → Int64) : Prop :=
  (pCm_pushEmpty I J) ∧ (pCm_allNext_4 n7 y1 ((fCm_pushEmpty I J).1) ((fCm_pushEmpty I J).2.1) ((fCm_pushEmpty I J).2.2))
set_option maxHeartbeats 4000000 in
set_option maxRecDepth 100000 in
theorem Cm_allNext_n33 (g : pmG) (d : Nat) (ex : List (Nat × Nat)) (R : Nat → Nat → Value) (hR : pk_R R) (o : Outcome) (Z : pmM) (r7 : Int32 → Int32 → Int32 → (Nat → Nat → Int32) → (Nat → Nat → Int64) → (Nat → Nat → Int32) × (Nat → Nat → Int64)) (q7 : Int32 → Int32 → Int32 → (Nat → Nat → Int32) → (Nat → Nat → Int64) → Prop) (ih7 : ∀ (y1 : Int32) (y2 : Int32) (y3 : Int32) (I : Nat → Nat → Int32) (J : Nat → Nat → Int64), q7 y1 y2 y3 I J → o = .returned none → Z = (pk_K ++ ex, R, (r7 y1 y2 y3 I J).1, (r7 y1 y2 y3 I J).2) → pmE g kCm_allNext (d + 2) 0 0 7 [(0, .ref 33), (1, .int y1), (2, .int y2), (3, .int y3)] [] (pk_K ++ ex) R I J o Z)  (y1 : Int32) (y2 : Int32) (y3 : Int32) (I : Nat → Nat → Int32) (J : Nat → Nat → Int64) (hp : pCm_allNext_33 q7 y1 y2 y3 I J) (ho : o = .returned none) (hz : Z = (pk_K ++ ex, R, (fCm_allNext_33 r7 y1 y2 y3 I J).1, (fCm_allNext_33 r7 y1 y2 y3 I J).2)) : pmE g kCm_allNext (d + 2) 0 0 33 [(0, .ref 33), (1, .int y1), (2, .int y2), (3, .int y3)] [] (pk_K ++ ex) R I J o Z := by
  unfold pCm_allNext_33 at hp
  refine pm_iinc dCm_allNext_33 rfl (by decide) rfl ?_
  refine pm_goto 7 dCm_allNext_36 (by decide) ?_
  refine pm_wk [1, 2, 3, 0] rfl ?_
  exact ih7 _ _ _ _ _ hp ho (hz.trans (by first | rfl | (simp only [fCm_allNext_33]; done) | (simp only [fCm_allNext_33]; rfl)))
set_option maxHeartbeats 4000000 in
set_option maxRecDepth 100000 in
theorem Cm_allNext_n44 (g : pmG) (d : Nat) (ex : List (Nat × Nat)) (R : Nat → Nat → Value) (hR : pk_R R) (o : Outcome) (Z : pmM)  (y1 : Int32) (y2 : Int32) (y3 : Int32) (z1 : Int32) (I : Nat → Nat → Int32) (J : Nat → Nat → Int64) (hp : pCm_allNext_44 y1 y2 y3 z1 I J) (ho : o = .returned none) (hz : Z = (pk_K ++ ex, R, (fCm_allNext_44 y1 y2 y3 z1 I J).1, (fCm_allNext_44 y1 y2 y3 z1 I J).2)) : pmE g kCm_allNext (d + 2) 0 0 44 [(0, .ref 33), (1, .int y1), (2, .int y2), (3, .int y3)] [.int z1, .ref 33] (pk_K ++ ex) R I J o Z := by
  unfold pCm_allNext_44 at hp
  refine pm_iload_n dCm_allNext_44 rfl ?_
  refine pm_callV dCm_allNext_45 lCm_77 vCm_copy ⟨_, _, rfl⟩ (Cm_copy_ok _ _ _ _ hR _ _ _ _ hp.1) rfl rfl rfl (Nat.le_of_ble_eq_true rfl) (Nat.le_refl _) (Nat.le_refl _) ?_
  exact pm_vret dCm_allNext_48 rfl ho (hz.trans (by first | rfl | (simp only [fCm_allNext_44]; done) | (simp only [fCm_allNext_44]; rfl)))
set_option maxHeartbeats 4000000 in
set_option maxRecDepth 100000 in
theorem Cm_allNext_n7 (g : pmG) (d : Nat) (ex : List (Nat × Nat)) (R : Nat → Nat → Value) (hR : pk_R R) (o : Outcome) (Z : pmM)  : ∀ (n : Nat) (y1 : Int32) (y2 : Int32) (y3 : Int32) (I : Nat → Nat → Int32) (J : Nat → Nat → Int64), pCm_allNext_7 n y1 y2 y3 I J → o = .returned none → Z = (pk_K ++ ex, R, (fCm_allNext_7 n y1 y2 y3 I J).1, (fCm_allNext_7 n y1 y2 y3 I J).2) → pmE g kCm_allNext (d + 2) 0 0 7 [(0, .ref 33), (1, .int y1), (2, .int y2), (3, .int y3)] [] (pk_K ++ ex) R I J o Z := by
  intro n
  induction n with
  | zero => intro y1 y2 y3 I J hp; exact False.elim hp
  | succ n ih =>
  intro y1 y2 y3 I J hp ho hz
  simp only [pCm_allNext_7] at hp
  refine pm_iload_n dCm_allNext_7 rfl ?_
  refine pm_aload_n dCm_allNext_8 rfl ?_
  refine pm_getr dCm_allNext_9 fCm_22 rfl (rr_33_0 hR) ?_
  refine pm_geti dCm_allNext_12 fCm_34 rfl ?_
  refine pm_icmp_ge 39 dCm_allNext_15 (by decide) (fun h15 => ?_) (fun h15 => ?_)
  ·
    refine pm_aload_n dCm_allNext_39 rfl ?_
    refine pm_aload_n dCm_allNext_40 rfl ?_
    refine pm_callV dCm_allNext_41 lCm_80 vCm_pop ⟨_, _, rfl⟩ (Cm_pop_ok _ _ _ _ hR  _ _ (hp.1 h15).1) rfl rfl rfl (Nat.le_of_ble_eq_true rfl) (Nat.le_refl _) (Nat.le_refl _) ?_
    refine pm_wk [0, 1, 2, 3] rfl ?_
    exact Cm_allNext_n44 g d ex R hR _ _   _ _ _ _ _ _ (hp.1 h15).2 ho (hz.trans (by first | (simp only [fCm_allNext_7, if_pos h15]; done) | (simp only [fCm_allNext_7, if_pos h15]; rfl) | rfl))
  ·
    refine pm_aload_n dCm_allNext_18 rfl ?_
    refine pm_iload_n dCm_allNext_19 rfl ?_
    refine pm_iload_n dCm_allNext_20 rfl ?_
    refine pm_callV dCm_allNext_21 lCm_108 vCm_isAtAllNext ⟨_, _, rfl⟩ (Cm_isAtAllNext_ok _ _ _ _ hR _ _ _ _ _ (hp.2 h15).1) rfl rfl rfl (Nat.le_of_ble_eq_true rfl) (Nat.le_refl _) (Nat.le_refl _) ?_
    refine pm_if_eq 33 dCm_allNext_24 (by decide) (fun h24 => ?_) (fun h24 => ?_)
    ·
      refine pm_wk [0, 1, 2, 3] rfl ?_
      exact Cm_allNext_n33 g d ex R hR _ _ (fCm_allNext_7 n) (pCm_allNext_7 n) ih  _ _ _ _ _ ((hp.2 h15).2.1 h24) ho (hz.trans (by first | (simp only [fCm_allNext_7, if_neg h15, if_pos h24]; done) | (simp only [fCm_allNext_7, if_neg h15, if_pos h24]; rfl) | rfl))
    ·
      refine pm_aload_n dCm_allNext_27 rfl ?_
      refine pm_iload_n dCm_allNext_28 rfl ?_
      refine pm_iload_n dCm_allNext_29 rfl ?_
      refine pm_callV dCm_allNext_30 lCm_39 vCm_put ⟨_, _, rfl⟩ (Cm_put_ok _ _ _ _ hR _ _ _ _ ((hp.2 h15).2.2 h24).1) rfl rfl rfl (Nat.le_of_ble_eq_true rfl) (Nat.le_refl _) (Nat.le_refl _) ?_
      refine pm_wk [0, 1, 2, 3] rfl ?_
      exact Cm_allNext_n33 g d ex R hR _ _ (fCm_allNext_7 n) (pCm_allNext_7 n) ih  _ _ _ _ _ ((hp.2 h15).2.2 h24).2 ho (hz.trans (by first | (simp only [fCm_allNext_7, if_neg h15, if_neg h24]; done) | (simp only [fCm_allNext_7, if_neg h15, if_neg h24]; rfl) | rfl))
set_option maxHeartbeats 4000000 in
set_option maxRecDepth 100000 in
theorem Cm_allNext_n4 (g : pmG) (d : Nat) (ex : List (Nat × Nat)) (R : Nat → Nat → Value) (hR : pk_R R) (o : Outcome) (Z : pmM) (n7 : Nat) (y1 : Int32) (z0 : Int32) (I : Nat → Nat → Int32) (J : Nat → Nat → Int64) (hp : pCm_allNext_4 n7 y1 z0 I J) (ho : o = .returned none) (hz : Z = (pk_K ++ ex, R, (fCm_allNext_4 n7 y1 z0 I J).1, (fCm_allNext_4 n7 y1 z0 I J).2)) : pmE g kCm_allNext (d + 2) 0 0 4 [(0, .ref 33), (1, .int y1)] [.int z0] (pk_K ++ ex) R I J o Z := by
  unfold pCm_allNext_4 at hp
  refine pm_istore_n dCm_allNext_4 (by decide) rfl ?_
  refine pm_iconst (v := 0) dCm_allNext_5 (by decide) ?_
  refine pm_istore_n dCm_allNext_6 (by decide) rfl ?_
  refine pm_wk [2, 3, 1, 0] rfl ?_
  exact Cm_allNext_n7 g d ex R hR _ _  n7 _ _ _ _ _ hp ho (hz.trans (by first | rfl | (simp only [fCm_allNext_4]; done) | (simp only [fCm_allNext_4]; rfl)))
set_option maxHeartbeats 4000000 in
set_option maxRecDepth 100000 in
theorem Cm_allNext_n0 (g : pmG) (d : Nat) (ex : List (Nat × Nat)) (R : Nat → Nat → Value) (hR : pk_R R) (o : Outcome) (Z : pmM) (n7 : Nat) (y1 : Int32) (I : Nat → Nat → Int32) (J : Nat → Nat → Int64) (hp : pCm_allNext n7 y1 I J) (ho : o = .returned none) (hz : Z = (pk_K ++ ex, R, (fCm_allNext n7 y1 I J).1, (fCm_allNext n7 y1 I J).2)) : pmE g kCm_allNext (d + 2) 0 0 0 [(0, .ref 33), (1, .int y1)] [] (pk_K ++ ex) R I J o Z := by
  unfold pCm_allNext at hp
  refine pm_aload_n dCm_allNext_0 rfl ?_
  refine pm_callV dCm_allNext_1 lCm_53 vCm_pushEmpty ⟨_, _, rfl⟩ (Cm_pushEmpty_ok _ _ _ _ hR  _ _ hp.1) rfl rfl rfl (Nat.le_of_ble_eq_true rfl) (Nat.le_refl _) (Nat.le_refl _) ?_
  refine pm_wk [0, 1] rfl ?_
  exact Cm_allNext_n4 g d ex R hR _ _  n7 _ _ _ _ hp.2 ho (hz.trans (by first | rfl | (simp only [fCm_allNext]; done) | (simp only [fCm_allNext]; rfl)))
set_option maxHeartbeats 4000000 in
set_option maxRecDepth 100000 in
theorem Cm_allNext_ok (g : pmG) (d : Nat) (ex : List (Nat × Nat)) (R : Nat → Nat → Value) (hR : pk_R R) (n7 : Nat) (x0 : Int32) (I : Nat → Nat → Int32) (J : Nat → Nat → Int64) (hp : pCm_allNext n7 x0 I J) : pmC g kCm_allNext (d + 2) 0 0 [.ref 33, .int x0] (pk_K ++ ex, R, I, J) (.returned none) (pk_K ++ ex, R, (fCm_allNext n7 x0 I J).1, (fCm_allNext n7 x0 I J).2) :=
  pmC.of (by decide) (Nat.le_of_ble_eq_true rfl) (Cm_allNext_n0 g d ex R hR _ _ n7 x0 I J hp rfl rfl)
def fCm_comeTo_82  (y1 : Int32) (y2 : Int32) (y3 : Int32) (I : Nat → Nat → Int32) (J : Nat → Nat → Int64) : (Nat → Nat → Int32) × (Nat → Nat → Int64) :=
  if y2 = 0 then (I, J)
  else (I, (fCm_turn 5 y3 I J))
def pCm_comeTo_82  (y1 : Int32) (y2 : Int32) (y3 : Int32) (I : Nat → Nat → Int32) (J : Nat → Nat → Int64) : Prop :=
  (y2 = 0 → True) ∧
  (¬ (y2 = 0) → (pCm_turn 5 y3 I J) ∧ True)
def fCm_comeTo_55  (y1 : Int32) (y2 : Int32) (y3 : Int32) (I : Nat → Nat → Int32) (J : Nat → Nat → Int64) : (Nat → Nat → Int32) × (Nat → Nat → Int64) :=
  fCm_comeTo_82 y1 y2 y3 I J
def pCm_comeTo_55  (y1 : Int32) (y2 : Int32) (y3 : Int32) (I : Nat → Nat → Int32) (J : Nat → Nat → Int64) : Prop :=
  pCm_comeTo_82 y1 y2 y3 I J
def fCm_comeTo_50  (y1 : Int32) (y2 : Int32) (y3 : Int32) (I : Nat → Nat → Int32) (J : Nat → Nat → Int64) : (Nat → Nat → Int32) × (Nat → Nat → Int64) :=
  fCm_comeTo_55 y1 y2 y3 ((fCm_allNext 257 y3 I J).1) ((fCm_allNext 257 y3 I J).2)
def pCm_comeTo_50  (y1 : Int32) (y2 : Int32) (y3 : Int32) (I : Nat → Nat → Int32) (J : Nat → Nat → Int64) : Prop :=
  (pCm_allNext 257 y3 I J) ∧ (pCm_comeTo_55 y1 y2 y3 ((fCm_allNext 257 y3 I J).1) ((fCm_allNext 257 y3 I J).2))
def fCm_comeTo_76  (y1 : Int32) (y2 : Int32) (y3 : Int32) (z1 : Int32) (I : Nat → Nat → Int32) (J : Nat → Nat → Int64) : (Nat → Nat → Int32) × (Nat → Nat → Int64) :=
  fCm_comeTo_82 y1 y2 y3 ((fCm_until 257 257 z1 (120 : Int32) y3 I J).1) ((fCm_until 257 257 z1 (120 : Int32) y3 I J).2)
def pCm_comeTo_76  (y1 : Int32) (y2 : Int32) (y3 : Int32) (z1 : Int32) (I : Nat → Nat → Int32) (J : Nat → Nat → Int64) : Prop :=
  (pCm_until 257 257 z1 (120 : Int32) y3 I J) ∧ (pCm_comeTo_82 y1 y2 y3 ((fCm_until 257 257 z1 (120 : Int32) y3 I J).1) ((fCm_until 257 257 z1 (120 : Int32) y3 I J).2))
def fCm_comeTo_71  (y1 : Int32) (y2 : Int32) (y3 : Int32) (I : Nat → Nat → Int32) (J : Nat → Nat → Int64) : (Nat → Nat → Int32) × (Nat → Nat → Int64) :=
  fCm_comeTo_76 y1 y2 y3 (1 : Int32) I J
def pCm_comeTo_71  (y1 : Int32) (y2 : Int32) (y3 : Int32) (I : Nat → Nat → Int32) (J : Nat → Nat → Int64) : Prop :=
  pCm_comeTo_76 y1 y2 y3 (1 : Int32) I J
def fCm_comeTo_38  (y1 : Int32) (y2 : Int32) (y3 : Int32) (I : Nat → Nat → Int32) (J : Nat → Nat → Int64) : (Nat → Nat → Int32) × (Nat → Nat → Int64) :=
  if y1 = (37 : Int32) then fCm_comeTo_50 y1 y2 y3 I J
  else if y1 = (38 : Int32) then fCm_comeTo_50 y1 y2 y3 I J
    else if y1 = (39 : Int32) then fCm_comeTo_71 y1 y2 y3 I J
      else if y1 = (42 : Int32) then fCm_comeTo_71 y1 y2 y3 I J
        else fCm_comeTo_76 y1 y2 y3 (0 : Int32) I J
def pCm_comeTo_38  (y1 : Int32) (y2 : Int32) (y3 : Int32) (I : Nat → Nat → Int32) (J : Nat → Nat → Int64) : Prop :=
  (y1 = (37 : Int32) → pCm_comeTo_50 y1 y2 y3 I J) ∧
  (¬ (y1 = (37 : Int32)) → (y1 = (38 : Int32) → pCm_comeTo_50 y1 y2 y3 I J) ∧
    (¬ (y1 = (38 : Int32)) → (y1 = (39 : Int32) → pCm_comeTo_71 y1 y2 y3 I J) ∧
      (¬ (y1 = (39 : Int32)) → (y1 = (42 : Int32) → pCm_comeTo_71 y1 y2 y3 I J) ∧
        (¬ (y1 = (42 : Int32)) → pCm_comeTo_76 y1 y2 y3 (0 : Int32) I J))))
def fCm_comeTo_23  (y1 : Int32) (z0 : Int32) (I : Nat → Nat → Int32) (J : Nat → Nat → Int64) : (Nat → Nat → Int32) × (Nat → Nat → Int64) :=
  if z0 = 0 then fCm_comeTo_38 y1 z0 ((fCm_last I J)) I J
  else fCm_comeTo_38 y1 z0 ((fCm_last I J)) I ((fCm_turn 5 ((fCm_last I J)) I J))
def pCm_comeTo_23  (y1 : Int32) (z0 : Int32) (I : Nat → Nat → Int32) (J : Nat → Nat → Int64) : Prop :=
  (pCm_last I J) ∧ ((z0 = 0 → pCm_comeTo_38 y1 z0 ((fCm_last I J)) I J) ∧
  (¬ (z0 = 0) → (pCm_turn 5 ((fCm_last I J)) I J) ∧ (pCm_comeTo_38 y1 z0 ((fCm_last I J)) I ((fCm_turn 5 ((fCm_last I J)) I J)))))
def fCm_comeTo_18  (y1 : Int32) (I : Nat → Nat → Int32) (J : Nat → Nat → Int64) : (Nat → Nat → Int32) × (Nat → Nat → Int64) :=
  fCm_comeTo_23 y1 (1 : Int32) I J
def pCm_comeTo_18  (y1 : Int32) (I : Nat → Nat → Int32) (J : Nat → Nat → Int64) : Prop :=
  pCm_comeTo_23 y1 (1 : Int32) I J
def fCm_comeTo  (y1 : Int32) (I : Nat → Nat → Int32) (J : Nat → Nat → Int64) : (Nat → Nat → Int32) × (Nat → Nat → Int64) :=
  if y1 = (38 : Int32) then fCm_comeTo_18 y1 I J
  else if y1 = (41 : Int32) then fCm_comeTo_18 y1 I J
    else if y1 = (42 : Int32) then fCm_comeTo_18 y1 I J
      else fCm_comeTo_23 y1 (0 : Int32) I J
def pCm_comeTo  (y1 : Int32) (I : Nat → Nat → Int32) (J : Nat → Nat → Int64) : Prop :=
  (y1 = (38 : Int32) → pCm_comeTo_18 y1 I J) ∧
  (¬ (y1 = (38 : Int32)) → (y1 = (41 : Int32) → pCm_comeTo_18 y1 I J) ∧
    (¬ (y1 = (41 : Int32)) → (y1 = (42 : Int32) → pCm_comeTo_18 y1 I J) ∧
      (¬ (y1 = (42 : Int32)) → pCm_comeTo_23 y1 (0 : Int32) I J)))
set_option maxHeartbeats 4000000 in
set_option maxRecDepth 100000 in
theorem Cm_comeTo_n82 (g : pmG) (d : Nat) (ex : List (Nat × Nat)) (R : Nat → Nat → Value) (hR : pk_R R) (o : Outcome) (Z : pmM)  (y1 : Int32) (y2 : Int32) (y3 : Int32) (I : Nat → Nat → Int32) (J : Nat → Nat → Int64) (hp : pCm_comeTo_82 y1 y2 y3 I J) (ho : o = .returned none) (hz : Z = (pk_K ++ ex, R, (fCm_comeTo_82 y1 y2 y3 I J).1, (fCm_comeTo_82 y1 y2 y3 I J).2)) : pmE g kCm_comeTo (d + 3) 0 0 82 [(0, .ref 33), (1, .int y1), (2, .int y2), (3, .int y3)] [] (pk_K ++ ex) R I J o Z := by
  unfold pCm_comeTo_82 at hp
  refine pm_iload_n dCm_comeTo_82 rfl ?_
  refine pm_if_eq 91 dCm_comeTo_83 (by decide) (fun h83 => ?_) (fun h83 => ?_)
  ·
    exact pm_vret dCm_comeTo_91 rfl ho (hz.trans (by first | (simp only [fCm_comeTo_82, if_pos h83]; done) | (simp only [fCm_comeTo_82, if_pos h83]; rfl) | rfl))
  ·
    refine pm_aload_n dCm_comeTo_86 rfl ?_
    refine pm_iload_n dCm_comeTo_87 rfl ?_
    refine pm_callV dCm_comeTo_88 lCm_86 vCm_turn ⟨_, _, rfl⟩ (Cm_turn_ok _ _ _ _ hR _ _ _ _ (hp.2 h83).1) rfl rfl rfl (Nat.le_of_ble_eq_true rfl) (Nat.le_refl _) (Nat.le_refl _) ?_
    exact pm_vret dCm_comeTo_91 rfl ho (hz.trans (by first | (simp only [fCm_comeTo_82, if_neg h83]; done) | (simp only [fCm_comeTo_82, if_neg h83]; rfl) | rfl))
set_option maxHeartbeats 4000000 in
set_option maxRecDepth 100000 in
theorem Cm_comeTo_n55 (g : pmG) (d : Nat) (ex : List (Nat × Nat)) (R : Nat → Nat → Value) (hR : pk_R R) (o : Outcome) (Z : pmM)  (y1 : Int32) (y2 : Int32) (y3 : Int32) (I : Nat → Nat → Int32) (J : Nat → Nat → Int64) (hp : pCm_comeTo_55 y1 y2 y3 I J) (ho : o = .returned none) (hz : Z = (pk_K ++ ex, R, (fCm_comeTo_55 y1 y2 y3 I J).1, (fCm_comeTo_55 y1 y2 y3 I J).2)) : pmE g kCm_comeTo (d + 3) 0 0 55 [(0, .ref 33), (1, .int y1), (2, .int y2), (3, .int y3)] [] (pk_K ++ ex) R I J o Z := by
  unfold pCm_comeTo_55 at hp
  refine pm_goto 82 dCm_comeTo_55 (by decide) ?_
  refine pm_wk [0, 1, 2, 3] rfl ?_
  exact Cm_comeTo_n82 g d ex R hR _ _   _ _ _ _ _ hp ho (hz.trans (by first | rfl | (simp only [fCm_comeTo_55]; done) | (simp only [fCm_comeTo_55]; rfl)))
set_option maxHeartbeats 4000000 in
set_option maxRecDepth 100000 in
theorem Cm_comeTo_n50 (g : pmG) (d : Nat) (ex : List (Nat × Nat)) (R : Nat → Nat → Value) (hR : pk_R R) (o : Outcome) (Z : pmM)  (y1 : Int32) (y2 : Int32) (y3 : Int32) (I : Nat → Nat → Int32) (J : Nat → Nat → Int64) (hp : pCm_comeTo_50 y1 y2 y3 I J) (ho : o = .returned none) (hz : Z = (pk_K ++ ex, R, (fCm_comeTo_50 y1 y2 y3 I J).1, (fCm_comeTo_50 y1 y2 y3 I J).2)) : pmE g kCm_comeTo (d + 3) 0 0 50 [(0, .ref 33), (1, .int y1), (2, .int y2), (3, .int y3)] [] (pk_K ++ ex) R I J o Z := by
  unfold pCm_comeTo_50 at hp
  refine pm_aload_n dCm_comeTo_50 rfl ?_
  refine pm_iload_n dCm_comeTo_51 rfl ?_
  refine pm_callV dCm_comeTo_52 lCm_105 vCm_allNext ⟨_, _, rfl⟩ (Cm_allNext_ok _ _ _ _ hR _ _ _ _ hp.1) rfl rfl rfl (Nat.le_of_ble_eq_true rfl) (Nat.le_refl _) (Nat.le_refl _) ?_
  refine pm_wk [0, 1, 2, 3] rfl ?_
  exact Cm_comeTo_n55 g d ex R hR _ _   _ _ _ _ _ hp.2 ho (hz.trans (by first | rfl | (simp only [fCm_comeTo_50]; done) | (simp only [fCm_comeTo_50]; rfl)))
set_option maxHeartbeats 4000000 in
set_option maxRecDepth 100000 in
theorem Cm_comeTo_n76 (g : pmG) (d : Nat) (ex : List (Nat × Nat)) (R : Nat → Nat → Value) (hR : pk_R R) (o : Outcome) (Z : pmM)  (y1 : Int32) (y2 : Int32) (y3 : Int32) (z1 : Int32) (I : Nat → Nat → Int32) (J : Nat → Nat → Int64) (hp : pCm_comeTo_76 y1 y2 y3 z1 I J) (ho : o = .returned none) (hz : Z = (pk_K ++ ex, R, (fCm_comeTo_76 y1 y2 y3 z1 I J).1, (fCm_comeTo_76 y1 y2 y3 z1 I J).2)) : pmE g kCm_comeTo (d + 3) 0 0 76 [(0, .ref 33), (1, .int y1), (2, .int y2), (3, .int y3)] [.int z1, .ref 33] (pk_K ++ ex) R I J o Z := by
  unfold pCm_comeTo_76 at hp
  refine pm_bipush (v := 120) dCm_comeTo_76 (by decide) ?_
  refine pm_iload_n dCm_comeTo_78 rfl ?_
  refine pm_callV dCm_comeTo_79 lCm_101 vCm_until ⟨_, _, rfl⟩ (Cm_until_ok _ _ _ _ hR _ _ _ _ _ _ _ hp.1) rfl rfl rfl (Nat.le_of_ble_eq_true rfl) (Nat.le_refl _) (Nat.le_refl _) ?_
  refine pm_wk [0, 1, 2, 3] rfl ?_
  exact Cm_comeTo_n82 g d ex R hR _ _   _ _ _ _ _ hp.2 ho (hz.trans (by first | rfl | (simp only [fCm_comeTo_76]; done) | (simp only [fCm_comeTo_76]; rfl)))
set_option maxHeartbeats 4000000 in
set_option maxRecDepth 100000 in
theorem Cm_comeTo_n71 (g : pmG) (d : Nat) (ex : List (Nat × Nat)) (R : Nat → Nat → Value) (hR : pk_R R) (o : Outcome) (Z : pmM)  (y1 : Int32) (y2 : Int32) (y3 : Int32) (I : Nat → Nat → Int32) (J : Nat → Nat → Int64) (hp : pCm_comeTo_71 y1 y2 y3 I J) (ho : o = .returned none) (hz : Z = (pk_K ++ ex, R, (fCm_comeTo_71 y1 y2 y3 I J).1, (fCm_comeTo_71 y1 y2 y3 I J).2)) : pmE g kCm_comeTo (d + 3) 0 0 71 [(0, .ref 33), (1, .int y1), (2, .int y2), (3, .int y3)] [.ref 33] (pk_K ++ ex) R I J o Z := by
  unfold pCm_comeTo_71 at hp
  refine pm_iconst (v := 1) dCm_comeTo_71 (by decide) ?_
  refine pm_goto 76 dCm_comeTo_72 (by decide) ?_
  refine pm_wk [0, 1, 2, 3] rfl ?_
  exact Cm_comeTo_n76 g d ex R hR _ _   _ _ _ _ _ _ hp ho (hz.trans (by first | rfl | (simp only [fCm_comeTo_71]; done) | (simp only [fCm_comeTo_71]; rfl)))
set_option maxHeartbeats 4000000 in
set_option maxRecDepth 100000 in
theorem Cm_comeTo_n38 (g : pmG) (d : Nat) (ex : List (Nat × Nat)) (R : Nat → Nat → Value) (hR : pk_R R) (o : Outcome) (Z : pmM)  (y1 : Int32) (y2 : Int32) (y3 : Int32) (I : Nat → Nat → Int32) (J : Nat → Nat → Int64) (hp : pCm_comeTo_38 y1 y2 y3 I J) (ho : o = .returned none) (hz : Z = (pk_K ++ ex, R, (fCm_comeTo_38 y1 y2 y3 I J).1, (fCm_comeTo_38 y1 y2 y3 I J).2)) : pmE g kCm_comeTo (d + 3) 0 0 38 [(0, .ref 33), (1, .int y1), (2, .int y2), (3, .int y3)] [] (pk_K ++ ex) R I J o Z := by
  unfold pCm_comeTo_38 at hp
  refine pm_iload_n dCm_comeTo_38 rfl ?_
  refine pm_bipush (v := 37) dCm_comeTo_39 (by decide) ?_
  refine pm_icmp_eq 50 dCm_comeTo_41 (by decide) (fun h41 => ?_) (fun h41 => ?_)
  ·
    refine pm_wk [0, 1, 2, 3] rfl ?_
    exact Cm_comeTo_n50 g d ex R hR _ _   _ _ _ _ _ (hp.1 h41) ho (hz.trans (by first | (simp only [fCm_comeTo_38, if_pos h41]; done) | (simp only [fCm_comeTo_38, if_pos h41]; rfl) | rfl))
  ·
    refine pm_iload_n dCm_comeTo_44 rfl ?_
    refine pm_bipush (v := 38) dCm_comeTo_45 (by decide) ?_
    refine pm_icmp_ne 58 dCm_comeTo_47 (by decide) (fun h47 => ?_) (fun h47 => ?_)
    ·
      refine pm_aload_n dCm_comeTo_58 rfl ?_
      refine pm_iload_n dCm_comeTo_59 rfl ?_
      refine pm_bipush (v := 39) dCm_comeTo_60 (by decide) ?_
      refine pm_icmp_eq 71 dCm_comeTo_62 (by decide) (fun h62 => ?_) (fun h62 => ?_)
      ·
        refine pm_wk [0, 1, 2, 3] rfl ?_
        exact Cm_comeTo_n71 g d ex R hR _ _   _ _ _ _ _ (((hp.2 h41).2 h47).1 h62) ho (hz.trans (by first | (simp only [fCm_comeTo_38, if_neg h41, if_neg h47, if_pos h62]; done) | (simp only [fCm_comeTo_38, if_neg h41, if_neg h47, if_pos h62]; rfl) | rfl))
      ·
        refine pm_iload_n dCm_comeTo_65 rfl ?_
        refine pm_bipush (v := 42) dCm_comeTo_66 (by decide) ?_
        refine pm_icmp_ne 75 dCm_comeTo_68 (by decide) (fun h68 => ?_) (fun h68 => ?_)
        ·
          refine pm_iconst (v := 0) dCm_comeTo_75 (by decide) ?_
          refine pm_wk [0, 1, 2, 3] rfl ?_
          exact Cm_comeTo_n76 g d ex R hR _ _   _ _ _ _ _ _ ((((hp.2 h41).2 h47).2 h62).2 h68) ho (hz.trans (by first | (simp only [fCm_comeTo_38, if_neg h41, if_neg h47, if_neg h62, if_neg h68]; done) | (simp only [fCm_comeTo_38, if_neg h41, if_neg h47, if_neg h62, if_neg h68]; rfl) | rfl))
        ·
          refine pm_wk [0, 1, 2, 3] rfl ?_
          exact Cm_comeTo_n71 g d ex R hR _ _   _ _ _ _ _ ((((hp.2 h41).2 h47).2 h62).1 h68) ho (hz.trans (by first | (simp only [fCm_comeTo_38, if_neg h41, if_neg h47, if_neg h62, if_pos h68]; done) | (simp only [fCm_comeTo_38, if_neg h41, if_neg h47, if_neg h62, if_pos h68]; rfl) | rfl))
    ·
      refine pm_wk [0, 1, 2, 3] rfl ?_
      exact Cm_comeTo_n50 g d ex R hR _ _   _ _ _ _ _ ((hp.2 h41).1 h47) ho (hz.trans (by first | (simp only [fCm_comeTo_38, if_neg h41, if_pos h47]; done) | (simp only [fCm_comeTo_38, if_neg h41, if_pos h47]; rfl) | rfl))
set_option maxHeartbeats 4000000 in
set_option maxRecDepth 100000 in
theorem Cm_comeTo_n23 (g : pmG) (d : Nat) (ex : List (Nat × Nat)) (R : Nat → Nat → Value) (hR : pk_R R) (o : Outcome) (Z : pmM)  (y1 : Int32) (z0 : Int32) (I : Nat → Nat → Int32) (J : Nat → Nat → Int64) (hp : pCm_comeTo_23 y1 z0 I J) (ho : o = .returned none) (hz : Z = (pk_K ++ ex, R, (fCm_comeTo_23 y1 z0 I J).1, (fCm_comeTo_23 y1 z0 I J).2)) : pmE g kCm_comeTo (d + 3) 0 0 23 [(0, .ref 33), (1, .int y1)] [.int z0] (pk_K ++ ex) R I J o Z := by
  unfold pCm_comeTo_23 at hp
  refine pm_istore_n dCm_comeTo_23 (by decide) rfl ?_
  refine pm_aload_n dCm_comeTo_24 rfl ?_
  refine pm_callV dCm_comeTo_25 lCm_83 vCm_last ⟨_, _, rfl⟩ (Cm_last_ok _ _ _ _ hR  _ _ hp.1) rfl rfl rfl (Nat.le_of_ble_eq_true rfl) (Nat.le_refl _) (Nat.le_refl _) ?_
  refine pm_istore_n dCm_comeTo_28 (by decide) rfl ?_
  refine pm_iload_n dCm_comeTo_29 rfl ?_
  refine pm_if_eq 38 dCm_comeTo_30 (by decide) (fun h30 => ?_) (fun h30 => ?_)
  ·
    refine pm_wk [2, 3, 1, 0] rfl ?_
    exact Cm_comeTo_n38 g d ex R hR _ _   _ _ _ _ _ (hp.2.1 h30) ho (hz.trans (by first | (simp only [fCm_comeTo_23, if_pos h30]; done) | (simp only [fCm_comeTo_23, if_pos h30]; rfl) | rfl))
  ·
    refine pm_aload_n dCm_comeTo_33 rfl ?_
    refine pm_iload_n dCm_comeTo_34 rfl ?_
    refine pm_callV dCm_comeTo_35 lCm_86 vCm_turn ⟨_, _, rfl⟩ (Cm_turn_ok _ _ _ _ hR _ _ _ _ (hp.2.2 h30).1) rfl rfl rfl (Nat.le_of_ble_eq_true rfl) (Nat.le_refl _) (Nat.le_refl _) ?_
    refine pm_wk [2, 3, 1, 0] rfl ?_
    exact Cm_comeTo_n38 g d ex R hR _ _   _ _ _ _ _ (hp.2.2 h30).2 ho (hz.trans (by first | (simp only [fCm_comeTo_23, if_neg h30]; done) | (simp only [fCm_comeTo_23, if_neg h30]; rfl) | rfl))
set_option maxHeartbeats 4000000 in
set_option maxRecDepth 100000 in
theorem Cm_comeTo_n18 (g : pmG) (d : Nat) (ex : List (Nat × Nat)) (R : Nat → Nat → Value) (hR : pk_R R) (o : Outcome) (Z : pmM)  (y1 : Int32) (I : Nat → Nat → Int32) (J : Nat → Nat → Int64) (hp : pCm_comeTo_18 y1 I J) (ho : o = .returned none) (hz : Z = (pk_K ++ ex, R, (fCm_comeTo_18 y1 I J).1, (fCm_comeTo_18 y1 I J).2)) : pmE g kCm_comeTo (d + 3) 0 0 18 [(0, .ref 33), (1, .int y1)] [] (pk_K ++ ex) R I J o Z := by
  unfold pCm_comeTo_18 at hp
  refine pm_iconst (v := 1) dCm_comeTo_18 (by decide) ?_
  refine pm_goto 23 dCm_comeTo_19 (by decide) ?_
  refine pm_wk [0, 1] rfl ?_
  exact Cm_comeTo_n23 g d ex R hR _ _   _ _ _ _ hp ho (hz.trans (by first | rfl | (simp only [fCm_comeTo_18]; done) | (simp only [fCm_comeTo_18]; rfl)))
set_option maxHeartbeats 4000000 in
set_option maxRecDepth 100000 in
theorem Cm_comeTo_n0 (g : pmG) (d : Nat) (ex : List (Nat × Nat)) (R : Nat → Nat → Value) (hR : pk_R R) (o : Outcome) (Z : pmM)  (y1 : Int32) (I : Nat → Nat → Int32) (J : Nat → Nat → Int64) (hp : pCm_comeTo y1 I J) (ho : o = .returned none) (hz : Z = (pk_K ++ ex, R, (fCm_comeTo y1 I J).1, (fCm_comeTo y1 I J).2)) : pmE g kCm_comeTo (d + 3) 0 0 0 [(0, .ref 33), (1, .int y1)] [] (pk_K ++ ex) R I J o Z := by
  unfold pCm_comeTo at hp
  refine pm_iload_n dCm_comeTo_0 rfl ?_
  refine pm_bipush (v := 38) dCm_comeTo_1 (by decide) ?_
  refine pm_icmp_eq 18 dCm_comeTo_3 (by decide) (fun h3 => ?_) (fun h3 => ?_)
  ·
    refine pm_wk [0, 1] rfl ?_
    exact Cm_comeTo_n18 g d ex R hR _ _   _ _ _ (hp.1 h3) ho (hz.trans (by first | (simp only [fCm_comeTo, if_pos h3]; done) | (simp only [fCm_comeTo, if_pos h3]; rfl) | rfl))
  ·
    refine pm_iload_n dCm_comeTo_6 rfl ?_
    refine pm_bipush (v := 41) dCm_comeTo_7 (by decide) ?_
    refine pm_icmp_eq 18 dCm_comeTo_9 (by decide) (fun h9 => ?_) (fun h9 => ?_)
    ·
      refine pm_wk [0, 1] rfl ?_
      exact Cm_comeTo_n18 g d ex R hR _ _   _ _ _ ((hp.2 h3).1 h9) ho (hz.trans (by first | (simp only [fCm_comeTo, if_neg h3, if_pos h9]; done) | (simp only [fCm_comeTo, if_neg h3, if_pos h9]; rfl) | rfl))
    ·
      refine pm_iload_n dCm_comeTo_12 rfl ?_
      refine pm_bipush (v := 42) dCm_comeTo_13 (by decide) ?_
      refine pm_icmp_ne 22 dCm_comeTo_15 (by decide) (fun h15 => ?_) (fun h15 => ?_)
      ·
        refine pm_iconst (v := 0) dCm_comeTo_22 (by decide) ?_
        refine pm_wk [0, 1] rfl ?_
        exact Cm_comeTo_n23 g d ex R hR _ _   _ _ _ _ (((hp.2 h3).2 h9).2 h15) ho (hz.trans (by first | (simp only [fCm_comeTo, if_neg h3, if_neg h9, if_neg h15]; done) | (simp only [fCm_comeTo, if_neg h3, if_neg h9, if_neg h15]; rfl) | rfl))
      ·
        refine pm_wk [0, 1] rfl ?_
        exact Cm_comeTo_n18 g d ex R hR _ _   _ _ _ (((hp.2 h3).2 h9).1 h15) ho (hz.trans (by first | (simp only [fCm_comeTo, if_neg h3, if_neg h9, if_pos h15]; done) | (simp only [fCm_comeTo, if_neg h3, if_neg h9, if_pos h15]; rfl) | rfl))
set_option maxHeartbeats 4000000 in
set_option maxRecDepth 100000 in
theorem Cm_comeTo_ok (g : pmG) (d : Nat) (ex : List (Nat × Nat)) (R : Nat → Nat → Value) (hR : pk_R R)  (x0 : Int32) (I : Nat → Nat → Int32) (J : Nat → Nat → Int64) (hp : pCm_comeTo x0 I J) : pmC g kCm_comeTo (d + 3) 0 0 [.ref 33, .int x0] (pk_K ++ ex, R, I, J) (.returned none) (pk_K ++ ex, R, (fCm_comeTo x0 I J).1, (fCm_comeTo x0 I J).2) :=
  pmC.of (by decide) (Nat.le_of_ble_eq_true rfl) (Cm_comeTo_n0 g d ex R hR _ _  x0 I J hp rfl rfl)
def fCm_perform_123  (y1 : Int32) (y2 : Int32) (I : Nat → Nat → Int32) (J : Nat → Nat → Int64) : (Nat → Nat → Int32) × (Nat → Nat → Int64) :=
  (I, J)
def pCm_perform_123  (y1 : Int32) (y2 : Int32) (I : Nat → Nat → Int32) (J : Nat → Nat → Int64) : Prop :=
  True
def fCm_perform_120  (y1 : Int32) (y2 : Int32) (z1 : Int32) (z2 : Int32) (I : Nat → Nat → Int32) (J : Nat → Nat → Int64) : (Nat → Nat → Int32) × (Nat → Nat → Int64) :=
  fCm_perform_123 y1 y2 I ((fCm_copy z1 z2 I J))
def pCm_perform_120  (y1 : Int32) (y2 : Int32) (z1 : Int32) (z2 : Int32) (I : Nat → Nat → Int32) (J : Nat → Nat → Int64) : Prop :=
  (pCm_copy z1 z2 I J) ∧ (pCm_perform_123 y1 y2 I ((fCm_copy z1 z2 I J)))
def fCm_perform_137  (y1 : Int32) (y2 : Int32) (I : Nat → Nat → Int32) (J : Nat → Nat → Int64) : (Nat → Nat → Int32) × (Nat → Nat → Int64) :=
  (I, J)
def pCm_perform_137  (y1 : Int32) (y2 : Int32) (I : Nat → Nat → Int32) (J : Nat → Nat → Int64) : Prop :=
  True
def fCm_perform_131  (y1 : Int32) (y2 : Int32) (z1 : Int32) (I : Nat → Nat → Int32) (J : Nat → Nat → Int64) : (Nat → Nat → Int32) × (Nat → Nat → Int64) :=
  fCm_perform_137 y1 y2 I ((fCm_copy z1 (y2 * (4 : Int32)) I J))
def pCm_perform_131  (y1 : Int32) (y2 : Int32) (z1 : Int32) (I : Nat → Nat → Int32) (J : Nat → Nat → Int64) : Prop :=
  (pCm_copy z1 (y2 * (4 : Int32)) I J) ∧ (pCm_perform_137 y1 y2 I ((fCm_copy z1 (y2 * (4 : Int32)) I J)))
def fCm_perform_148  (y1 : Int32) (y2 : Int32) (I : Nat → Nat → Int32) (J : Nat → Nat → Int64) : (Nat → Nat → Int32) × (Nat → Nat → Int64) :=
  (I, J)
def pCm_perform_148  (y1 : Int32) (y2 : Int32) (I : Nat → Nat → Int32) (J : Nat → Nat → Int64) : Prop :=
  True
def fCm_perform_156  (y1 : Int32) (y2 : Int32) (I : Nat → Nat → Int32) (J : Nat → Nat → Int64) : (Nat → Nat → Int32) × (Nat → Nat → Int64) :=
  (I, J)
def pCm_perform_156  (y1 : Int32) (y2 : Int32) (I : Nat → Nat → Int32) (J : Nat → Nat → Int64) : Prop :=
  True
def fCm_perform_174  (y1 : Int32) (y2 : Int32) (I : Nat → Nat → Int32) (J : Nat → Nat → Int64) : (Nat → Nat → Int32) × (Nat → Nat → Int64) :=
  (I, J)
def pCm_perform_174  (y1 : Int32) (y2 : Int32) (I : Nat → Nat → Int32) (J : Nat → Nat → Int64) : Prop :=
  True
def fCm_perform_171  (y1 : Int32) (y2 : Int32) (z1 : Int32) (I : Nat → Nat → Int32) (J : Nat → Nat → Int64) : (Nat → Nat → Int32) × (Nat → Nat → Int64) :=
  fCm_perform_174 y1 y2 ((fCm_joinUntil z1 I J).1) ((fCm_joinUntil z1 I J).2)
def pCm_perform_171  (y1 : Int32) (y2 : Int32) (z1 : Int32) (I : Nat → Nat → Int32) (J : Nat → Nat → Int64) : Prop :=
  (pCm_joinUntil z1 I J) ∧ (pCm_perform_174 y1 y2 ((fCm_joinUntil z1 I J).1) ((fCm_joinUntil z1 I J).2))
def fCm_perform  (y1 : Int32) (y2 : Int32) (I : Nat → Nat → Int32) (J : Nat → Nat → Int64) : (Nat → Nat → Int32) × (Nat → Nat → Int64) :=
  if y1 = 33 then fCm_perform_131 y1 y2 ((fCm_pop I J).1) ((fCm_pop I J).2) J
  else if y1 = 34 then fCm_perform_171 y1 y2 (1 : Int32) I J
  else if y1 = 35 then fCm_perform_171 y1 y2 (0 : Int32) I J
  else if y1 = 36 then ((fCm_comeTo y1 I J).1, (fCm_comeTo y1 I J).2)
  else if y1 = 37 then ((fCm_comeTo y1 I J).1, (fCm_comeTo y1 I J).2)
  else if y1 = 38 then ((fCm_comeTo y1 I J).1, (fCm_comeTo y1 I J).2)
  else if y1 = 39 then ((fCm_comeTo y1 I J).1, (fCm_comeTo y1 I J).2)
  else if y1 = 40 then ((fCm_comeTo y1 I J).1, (fCm_comeTo y1 I J).2)
  else if y1 = 41 then ((fCm_comeTo y1 I J).1, (fCm_comeTo y1 I J).2)
  else if y1 = 42 then ((fCm_comeTo y1 I J).1, (fCm_comeTo y1 I J).2)
  else if y1 = 43 then ((fCm_comeTo y1 I J).1, (fCm_comeTo y1 I J).2)
  else if y1 = 44 then ((fCm_comeTo y1 I J).1, (fCm_comeTo y1 I J).2)
  else if y1 = 45 then ((fCm_comeTo y1 I J).1, (fCm_comeTo y1 I J).2)
  else if y1 = 46 then ((fCm_comeTo y1 I J).1, (fCm_comeTo y1 I J).2)
  else if y1 = 47 then ((fCm_comeTo y1 I J).1, (fCm_comeTo y1 I J).2)
  else if y1 = 48 then ((fCm_comeTo y1 I J).1, (fCm_comeTo y1 I J).2)
  else if y1 = 49 then ((fCm_comeTo y1 I J).1, (fCm_comeTo y1 I J).2)
  else if y1 = 50 then ((fCm_comeTo y1 I J).1, (fCm_comeTo y1 I J).2)
  else if y1 = 51 then ((fCm_comeTo y1 I J).1, (fCm_comeTo y1 I J).2)
  else if y1 = 52 then fCm_perform_120 y1 y2 (y2 * (4 : Int32)) ((fCm_pushEmpty I J).1) ((fCm_pushEmpty I J).2.1) ((fCm_pushEmpty I J).2.2)
  else if y1 = 53 then fCm_perform_148 y1 y2 I ((fCm_turn 5 ((fCm_last I J)) I J))
  else if y1 = 54 then fCm_perform_156 y1 y2 ((fCm_join 5 y1 I J).1) ((fCm_join 5 y1 I J).2)
  else if y1 = 55 then fCm_perform_156 y1 y2 ((fCm_join 5 y1 I J).1) ((fCm_join 5 y1 I J).2)
  else if y1 = 56 then fCm_perform_156 y1 y2 ((fCm_join 5 y1 I J).1) ((fCm_join 5 y1 I J).2)
  else ((fCm_comeTo y1 I J).1, (fCm_comeTo y1 I J).2)
def pCm_perform  (y1 : Int32) (y2 : Int32) (I : Nat → Nat → Int32) (J : Nat → Nat → Int64) : Prop :=
  (y1 = 33 → (pCm_pop I J) ∧ (pCm_perform_131 y1 y2 ((fCm_pop I J).1) ((fCm_pop I J).2) J)) ∧
  (¬ (y1 = 33) → (y1 = 34 → pCm_perform_171 y1 y2 (1 : Int32) I J) ∧
  (¬ (y1 = 34) → (y1 = 35 → pCm_perform_171 y1 y2 (0 : Int32) I J) ∧
  (¬ (y1 = 35) → (y1 = 36 → (pCm_comeTo y1 I J) ∧ True) ∧
  (¬ (y1 = 36) → (y1 = 37 → (pCm_comeTo y1 I J) ∧ True) ∧
  (¬ (y1 = 37) → (y1 = 38 → (pCm_comeTo y1 I J) ∧ True) ∧
  (¬ (y1 = 38) → (y1 = 39 → (pCm_comeTo y1 I J) ∧ True) ∧
  (¬ (y1 = 39) → (y1 = 40 → (pCm_comeTo y1 I J) ∧ True) ∧
  (¬ (y1 = 40) → (y1 = 41 → (pCm_comeTo y1 I J) ∧ True) ∧
  (¬ (y1 = 41) → (y1 = 42 → (pCm_comeTo y1 I J) ∧ True) ∧
  (¬ (y1 = 42) → (y1 = 43 → (pCm_comeTo y1 I J) ∧ True) ∧
  (¬ (y1 = 43) → (y1 = 44 → (pCm_comeTo y1 I J) ∧ True) ∧
  (¬ (y1 = 44) → (y1 = 45 → (pCm_comeTo y1 I J) ∧ True) ∧
  (¬ (y1 = 45) → (y1 = 46 → (pCm_comeTo y1 I J) ∧ True) ∧
  (¬ (y1 = 46) → (y1 = 47 → (pCm_comeTo y1 I J) ∧ True) ∧
  (¬ (y1 = 47) → (y1 = 48 → (pCm_comeTo y1 I J) ∧ True) ∧
  (¬ (y1 = 48) → (y1 = 49 → (pCm_comeTo y1 I J) ∧ True) ∧
  (¬ (y1 = 49) → (y1 = 50 → (pCm_comeTo y1 I J) ∧ True) ∧
  (¬ (y1 = 50) → (y1 = 51 → (pCm_comeTo y1 I J) ∧ True) ∧
  (¬ (y1 = 51) → (y1 = 52 → (pCm_pushEmpty I J) ∧ (pCm_perform_120 y1 y2 (y2 * (4 : Int32)) ((fCm_pushEmpty I J).1) ((fCm_pushEmpty I J).2.1) ((fCm_pushEmpty I J).2.2))) ∧
  (¬ (y1 = 52) → (y1 = 53 → (pCm_last I J) ∧ ((pCm_turn 5 ((fCm_last I J)) I J) ∧ (pCm_perform_148 y1 y2 I ((fCm_turn 5 ((fCm_last I J)) I J))))) ∧
  (¬ (y1 = 53) → (y1 = 54 → (pCm_join 5 y1 I J) ∧ (pCm_perform_156 y1 y2 ((fCm_join 5 y1 I J).1) ((fCm_join 5 y1 I J).2))) ∧
  (¬ (y1 = 54) → (y1 = 55 → (pCm_join 5 y1 I J) ∧ (pCm_perform_156 y1 y2 ((fCm_join 5 y1 I J).1) ((fCm_join 5 y1 I J).2))) ∧
  (¬ (y1 = 55) → (y1 = 56 → (pCm_join 5 y1 I J) ∧ (pCm_perform_156 y1 y2 ((fCm_join 5 y1 I J).1) ((fCm_join 5 y1 I J).2))) ∧
  (¬ (y1 = 56) → (pCm_comeTo y1 I J) ∧ True))))))))))))))))))))))))
set_option maxHeartbeats 4000000 in
set_option maxRecDepth 100000 in
theorem Cm_perform_n123 (g : pmG) (d : Nat) (ex : List (Nat × Nat)) (R : Nat → Nat → Value) (hR : pk_R R) (o : Outcome) (Z : pmM)  (y1 : Int32) (y2 : Int32) (I : Nat → Nat → Int32) (J : Nat → Nat → Int64) (hp : pCm_perform_123 y1 y2 I J) (ho : o = .returned none) (hz : Z = (pk_K ++ ex, R, (fCm_perform_123 y1 y2 I J).1, (fCm_perform_123 y1 y2 I J).2)) : pmE g kCm_perform (d + 4) 0 0 123 [(0, .ref 33), (1, .int y1), (2, .int y2)] [] (pk_K ++ ex) R I J o Z := by
  unfold pCm_perform_123 at hp
  refine pm_goto 182 dCm_perform_123 (by decide) ?_
  exact pm_vret dCm_perform_182 rfl ho (hz.trans (by first | rfl | (simp only [fCm_perform_123]; done) | (simp only [fCm_perform_123]; rfl)))
set_option maxHeartbeats 4000000 in
set_option maxRecDepth 100000 in
theorem Cm_perform_n120 (g : pmG) (d : Nat) (ex : List (Nat × Nat)) (R : Nat → Nat → Value) (hR : pk_R R) (o : Outcome) (Z : pmM)  (y1 : Int32) (y2 : Int32) (z1 : Int32) (z2 : Int32) (I : Nat → Nat → Int32) (J : Nat → Nat → Int64) (hp : pCm_perform_120 y1 y2 z1 z2 I J) (ho : o = .returned none) (hz : Z = (pk_K ++ ex, R, (fCm_perform_120 y1 y2 z1 z2 I J).1, (fCm_perform_120 y1 y2 z1 z2 I J).2)) : pmE g kCm_perform (d + 4) 0 0 120 [(0, .ref 33), (1, .int y1), (2, .int y2)] [.int z2, .int z1, .ref 33] (pk_K ++ ex) R I J o Z := by
  unfold pCm_perform_120 at hp
  refine pm_callV dCm_perform_120 lCm_77 vCm_copy ⟨_, _, rfl⟩ (Cm_copy_ok _ _ _ _ hR _ _ _ _ hp.1) rfl rfl rfl (Nat.le_of_ble_eq_true rfl) (Nat.le_refl _) (Nat.le_refl _) ?_
  refine pm_wk [0, 1, 2] rfl ?_
  exact Cm_perform_n123 g d ex R hR _ _   _ _ _ _ hp.2 ho (hz.trans (by first | rfl | (simp only [fCm_perform_120]; done) | (simp only [fCm_perform_120]; rfl)))
set_option maxHeartbeats 4000000 in
set_option maxRecDepth 100000 in
theorem Cm_perform_n137 (g : pmG) (d : Nat) (ex : List (Nat × Nat)) (R : Nat → Nat → Value) (hR : pk_R R) (o : Outcome) (Z : pmM)  (y1 : Int32) (y2 : Int32) (I : Nat → Nat → Int32) (J : Nat → Nat → Int64) (hp : pCm_perform_137 y1 y2 I J) (ho : o = .returned none) (hz : Z = (pk_K ++ ex, R, (fCm_perform_137 y1 y2 I J).1, (fCm_perform_137 y1 y2 I J).2)) : pmE g kCm_perform (d + 4) 0 0 137 [(0, .ref 33), (1, .int y1), (2, .int y2)] [] (pk_K ++ ex) R I J o Z := by
  unfold pCm_perform_137 at hp
  refine pm_goto 182 dCm_perform_137 (by decide) ?_
  exact pm_vret dCm_perform_182 rfl ho (hz.trans (by first | rfl | (simp only [fCm_perform_137]; done) | (simp only [fCm_perform_137]; rfl)))
set_option maxHeartbeats 4000000 in
set_option maxRecDepth 100000 in
theorem Cm_perform_n131 (g : pmG) (d : Nat) (ex : List (Nat × Nat)) (R : Nat → Nat → Value) (hR : pk_R R) (o : Outcome) (Z : pmM)  (y1 : Int32) (y2 : Int32) (z1 : Int32) (I : Nat → Nat → Int32) (J : Nat → Nat → Int64) (hp : pCm_perform_131 y1 y2 z1 I J) (ho : o = .returned none) (hz : Z = (pk_K ++ ex, R, (fCm_perform_131 y1 y2 z1 I J).1, (fCm_perform_131 y1 y2 z1 I J).2)) : pmE g kCm_perform (d + 4) 0 0 131 [(0, .ref 33), (1, .int y1), (2, .int y2)] [.int z1, .ref 33] (pk_K ++ ex) R I J o Z := by
  unfold pCm_perform_131 at hp
  refine pm_iload_n dCm_perform_131 rfl ?_
  refine pm_iconst (v := 4) dCm_perform_132 (by decide) ?_
  refine pm_imul dCm_perform_133 ?_
  refine pm_callV dCm_perform_134 lCm_77 vCm_copy ⟨_, _, rfl⟩ (Cm_copy_ok _ _ _ _ hR _ _ _ _ hp.1) rfl rfl rfl (Nat.le_of_ble_eq_true rfl) (Nat.le_refl _) (Nat.le_refl _) ?_
  refine pm_wk [0, 1, 2] rfl ?_
  exact Cm_perform_n137 g d ex R hR _ _   _ _ _ _ hp.2 ho (hz.trans (by first | rfl | (simp only [fCm_perform_131]; done) | (simp only [fCm_perform_131]; rfl)))
set_option maxHeartbeats 4000000 in
set_option maxRecDepth 100000 in
theorem Cm_perform_n148 (g : pmG) (d : Nat) (ex : List (Nat × Nat)) (R : Nat → Nat → Value) (hR : pk_R R) (o : Outcome) (Z : pmM)  (y1 : Int32) (y2 : Int32) (I : Nat → Nat → Int32) (J : Nat → Nat → Int64) (hp : pCm_perform_148 y1 y2 I J) (ho : o = .returned none) (hz : Z = (pk_K ++ ex, R, (fCm_perform_148 y1 y2 I J).1, (fCm_perform_148 y1 y2 I J).2)) : pmE g kCm_perform (d + 4) 0 0 148 [(0, .ref 33), (1, .int y1), (2, .int y2)] [] (pk_K ++ ex) R I J o Z := by
  unfold pCm_perform_148 at hp
  refine pm_goto 182 dCm_perform_148 (by decide) ?_
  exact pm_vret dCm_perform_182 rfl ho (hz.trans (by first | rfl | (simp only [fCm_perform_148]; done) | (simp only [fCm_perform_148]; rfl)))
set_option maxHeartbeats 4000000 in
set_option maxRecDepth 100000 in
theorem Cm_perform_n156 (g : pmG) (d : Nat) (ex : List (Nat × Nat)) (R : Nat → Nat → Value) (hR : pk_R R) (o : Outcome) (Z : pmM)  (y1 : Int32) (y2 : Int32) (I : Nat → Nat → Int32) (J : Nat → Nat → Int64) (hp : pCm_perform_156 y1 y2 I J) (ho : o = .returned none) (hz : Z = (pk_K ++ ex, R, (fCm_perform_156 y1 y2 I J).1, (fCm_perform_156 y1 y2 I J).2)) : pmE g kCm_perform (d + 4) 0 0 156 [(0, .ref 33), (1, .int y1), (2, .int y2)] [] (pk_K ++ ex) R I J o Z := by
  unfold pCm_perform_156 at hp
  refine pm_goto 182 dCm_perform_156 (by decide) ?_
  exact pm_vret dCm_perform_182 rfl ho (hz.trans (by first | rfl | (simp only [fCm_perform_156]; done) | (simp only [fCm_perform_156]; rfl)))
set_option maxHeartbeats 4000000 in
set_option maxRecDepth 100000 in
theorem Cm_perform_n174 (g : pmG) (d : Nat) (ex : List (Nat × Nat)) (R : Nat → Nat → Value) (hR : pk_R R) (o : Outcome) (Z : pmM)  (y1 : Int32) (y2 : Int32) (I : Nat → Nat → Int32) (J : Nat → Nat → Int64) (hp : pCm_perform_174 y1 y2 I J) (ho : o = .returned none) (hz : Z = (pk_K ++ ex, R, (fCm_perform_174 y1 y2 I J).1, (fCm_perform_174 y1 y2 I J).2)) : pmE g kCm_perform (d + 4) 0 0 174 [(0, .ref 33), (1, .int y1), (2, .int y2)] [] (pk_K ++ ex) R I J o Z := by
  unfold pCm_perform_174 at hp
  refine pm_goto 182 dCm_perform_174 (by decide) ?_
  exact pm_vret dCm_perform_182 rfl ho (hz.trans (by first | rfl | (simp only [fCm_perform_174]; done) | (simp only [fCm_perform_174]; rfl)))
set_option maxHeartbeats 4000000 in
set_option maxRecDepth 100000 in
theorem Cm_perform_n171 (g : pmG) (d : Nat) (ex : List (Nat × Nat)) (R : Nat → Nat → Value) (hR : pk_R R) (o : Outcome) (Z : pmM)  (y1 : Int32) (y2 : Int32) (z1 : Int32) (I : Nat → Nat → Int32) (J : Nat → Nat → Int64) (hp : pCm_perform_171 y1 y2 z1 I J) (ho : o = .returned none) (hz : Z = (pk_K ++ ex, R, (fCm_perform_171 y1 y2 z1 I J).1, (fCm_perform_171 y1 y2 z1 I J).2)) : pmE g kCm_perform (d + 4) 0 0 171 [(0, .ref 33), (1, .int y1), (2, .int y2)] [.int z1, .ref 33] (pk_K ++ ex) R I J o Z := by
  unfold pCm_perform_171 at hp
  refine pm_callV dCm_perform_171 lCm_92 vCm_joinUntil ⟨_, _, rfl⟩ (Cm_joinUntil_ok _ _ _ _ hR _ _ _ hp.1) rfl rfl rfl (Nat.le_of_ble_eq_true rfl) (Nat.le_refl _) (Nat.le_refl _) ?_
  refine pm_wk [0, 1, 2] rfl ?_
  exact Cm_perform_n174 g d ex R hR _ _   _ _ _ _ hp.2 ho (hz.trans (by first | rfl | (simp only [fCm_perform_171]; done) | (simp only [fCm_perform_171]; rfl)))
set_option maxHeartbeats 4000000 in
set_option maxRecDepth 100000 in
theorem Cm_perform_n0 (g : pmG) (d : Nat) (ex : List (Nat × Nat)) (R : Nat → Nat → Value) (hR : pk_R R) (o : Outcome) (Z : pmM)  (y1 : Int32) (y2 : Int32) (I : Nat → Nat → Int32) (J : Nat → Nat → Int64) (hp : pCm_perform y1 y2 I J) (ho : o = .returned none) (hz : Z = (pk_K ++ ex, R, (fCm_perform y1 y2 I J).1, (fCm_perform y1 y2 I J).2)) : pmE g kCm_perform (d + 4) 0 0 0 [(0, .ref 33), (1, .int y1), (2, .int y2)] [] (pk_K ++ ex) R I J o Z := by
  unfold pCm_perform at hp
  refine pm_iload_n dCm_perform_0 rfl ?_
  by_cases h1_33 : y1 = 33
  ·
    refine pm_tableIn 126 dCm_perform_1 (by rw [h1_33]; decide) (by rw [h1_33]; decide) (by first | (rw [h1_33]; rfl) | rw [h1_33]) (by decide) ?_
    refine pm_aload_n dCm_perform_126 rfl ?_
    refine pm_aload_n dCm_perform_127 rfl ?_
    refine pm_callV dCm_perform_128 lCm_80 vCm_pop ⟨_, _, rfl⟩ (Cm_pop_ok _ _ _ _ hR  _ _ (hp.1 h1_33).1) rfl rfl rfl (Nat.le_of_ble_eq_true rfl) (Nat.le_refl _) (Nat.le_refl _) ?_
    refine pm_wk [0, 1, 2] rfl ?_
    exact Cm_perform_n131 g d ex R hR _ _   _ _ _ _ _ (hp.1 h1_33).2 ho (hz.trans (by first | (simp only [fCm_perform, if_pos h1_33]; done) | (simp only [fCm_perform, if_pos h1_33]; rfl) | rfl))
  ·
    by_cases h1_34 : y1 = 34
    ·
      refine pm_tableIn 159 dCm_perform_1 (by rw [h1_34]; decide) (by rw [h1_34]; decide) (by first | (rw [h1_34]; rfl) | rw [h1_34]) (by decide) ?_
      refine pm_aload_n dCm_perform_159 rfl ?_
      refine pm_iload_n dCm_perform_160 rfl ?_
      refine pm_bipush (v := 34) dCm_perform_161 (by decide) ?_
      refine pm_icmp_ne 170 dCm_perform_163 (by decide) (fun h163 => ?_) (fun h163 => ?_)
      · exact absurd h1_34 h163
      ·
        refine pm_iconst (v := 1) dCm_perform_166 (by decide) ?_
        refine pm_goto 171 dCm_perform_167 (by decide) ?_
        refine pm_wk [0, 1, 2] rfl ?_
        exact Cm_perform_n171 g d ex R hR _ _   _ _ _ _ _ ((hp.2 h1_33).1 h1_34) ho (hz.trans (by first | (simp only [fCm_perform, if_neg h1_33, if_pos h1_34]; done) | (simp only [fCm_perform, if_neg h1_33, if_pos h1_34]; rfl) | rfl))
    ·
      by_cases h1_35 : y1 = 35
      ·
        refine pm_tableIn 159 dCm_perform_1 (by rw [h1_35]; decide) (by rw [h1_35]; decide) (by first | (rw [h1_35]; rfl) | rw [h1_35]) (by decide) ?_
        refine pm_aload_n dCm_perform_159 rfl ?_
        refine pm_iload_n dCm_perform_160 rfl ?_
        refine pm_bipush (v := 34) dCm_perform_161 (by decide) ?_
        refine pm_icmp_ne 170 dCm_perform_163 (by decide) (fun h163 => ?_) (fun h163 => ?_)
        ·
          refine pm_iconst (v := 0) dCm_perform_170 (by decide) ?_
          refine pm_wk [0, 1, 2] rfl ?_
          exact Cm_perform_n171 g d ex R hR _ _   _ _ _ _ _ (((hp.2 h1_33).2 h1_34).1 h1_35) ho (hz.trans (by first | (simp only [fCm_perform, if_neg h1_33, if_neg h1_34, if_pos h1_35]; done) | (simp only [fCm_perform, if_neg h1_33, if_neg h1_34, if_pos h1_35]; rfl) | rfl))
        · exact absurd h163 h1_34
      ·
        by_cases h1_36 : y1 = 36
        ·
          refine pm_tableIn 177 dCm_perform_1 (by rw [h1_36]; decide) (by rw [h1_36]; decide) (by first | (rw [h1_36]; rfl) | rw [h1_36]) (by decide) ?_
          refine pm_aload_n dCm_perform_177 rfl ?_
          refine pm_iload_n dCm_perform_178 rfl ?_
          refine pm_callV dCm_perform_179 lCm_96 vCm_comeTo ⟨_, _, rfl⟩ (Cm_comeTo_ok _ _ _ _ hR _ _ _ ((((hp.2 h1_33).2 h1_34).2 h1_35).1 h1_36).1) rfl rfl rfl (Nat.le_of_ble_eq_true rfl) (Nat.le_refl _) (Nat.le_refl _) ?_
          exact pm_vret dCm_perform_182 rfl ho (hz.trans (by first | (simp only [fCm_perform, if_neg h1_33, if_neg h1_34, if_neg h1_35, if_pos h1_36]; done) | (simp only [fCm_perform, if_neg h1_33, if_neg h1_34, if_neg h1_35, if_pos h1_36]; rfl) | rfl))
        ·
          by_cases h1_37 : y1 = 37
          ·
            refine pm_tableIn 177 dCm_perform_1 (by rw [h1_37]; decide) (by rw [h1_37]; decide) (by first | (rw [h1_37]; rfl) | rw [h1_37]) (by decide) ?_
            refine pm_aload_n dCm_perform_177 rfl ?_
            refine pm_iload_n dCm_perform_178 rfl ?_
            refine pm_callV dCm_perform_179 lCm_96 vCm_comeTo ⟨_, _, rfl⟩ (Cm_comeTo_ok _ _ _ _ hR _ _ _ (((((hp.2 h1_33).2 h1_34).2 h1_35).2 h1_36).1 h1_37).1) rfl rfl rfl (Nat.le_of_ble_eq_true rfl) (Nat.le_refl _) (Nat.le_refl _) ?_
            exact pm_vret dCm_perform_182 rfl ho (hz.trans (by first | (simp only [fCm_perform, if_neg h1_33, if_neg h1_34, if_neg h1_35, if_neg h1_36, if_pos h1_37]; done) | (simp only [fCm_perform, if_neg h1_33, if_neg h1_34, if_neg h1_35, if_neg h1_36, if_pos h1_37]; rfl) | rfl))
          ·
            by_cases h1_38 : y1 = 38
            ·
              refine pm_tableIn 177 dCm_perform_1 (by rw [h1_38]; decide) (by rw [h1_38]; decide) (by first | (rw [h1_38]; rfl) | rw [h1_38]) (by decide) ?_
              refine pm_aload_n dCm_perform_177 rfl ?_
              refine pm_iload_n dCm_perform_178 rfl ?_
              refine pm_callV dCm_perform_179 lCm_96 vCm_comeTo ⟨_, _, rfl⟩ (Cm_comeTo_ok _ _ _ _ hR _ _ _ ((((((hp.2 h1_33).2 h1_34).2 h1_35).2 h1_36).2 h1_37).1 h1_38).1) rfl rfl rfl (Nat.le_of_ble_eq_true rfl) (Nat.le_refl _) (Nat.le_refl _) ?_
              exact pm_vret dCm_perform_182 rfl ho (hz.trans (by first | (simp only [fCm_perform, if_neg h1_33, if_neg h1_34, if_neg h1_35, if_neg h1_36, if_neg h1_37, if_pos h1_38]; done) | (simp only [fCm_perform, if_neg h1_33, if_neg h1_34, if_neg h1_35, if_neg h1_36, if_neg h1_37, if_pos h1_38]; rfl) | rfl))
            ·
              by_cases h1_39 : y1 = 39
              ·
                refine pm_tableIn 177 dCm_perform_1 (by rw [h1_39]; decide) (by rw [h1_39]; decide) (by first | (rw [h1_39]; rfl) | rw [h1_39]) (by decide) ?_
                refine pm_aload_n dCm_perform_177 rfl ?_
                refine pm_iload_n dCm_perform_178 rfl ?_
                refine pm_callV dCm_perform_179 lCm_96 vCm_comeTo ⟨_, _, rfl⟩ (Cm_comeTo_ok _ _ _ _ hR _ _ _ (((((((hp.2 h1_33).2 h1_34).2 h1_35).2 h1_36).2 h1_37).2 h1_38).1 h1_39).1) rfl rfl rfl (Nat.le_of_ble_eq_true rfl) (Nat.le_refl _) (Nat.le_refl _) ?_
                exact pm_vret dCm_perform_182 rfl ho (hz.trans (by first | (simp only [fCm_perform, if_neg h1_33, if_neg h1_34, if_neg h1_35, if_neg h1_36, if_neg h1_37, if_neg h1_38, if_pos h1_39]; done) | (simp only [fCm_perform, if_neg h1_33, if_neg h1_34, if_neg h1_35, if_neg h1_36, if_neg h1_37, if_neg h1_38, if_pos h1_39]; rfl) | rfl))
              ·
                by_cases h1_40 : y1 = 40
                ·
                  refine pm_tableIn 177 dCm_perform_1 (by rw [h1_40]; decide) (by rw [h1_40]; decide) (by first | (rw [h1_40]; rfl) | rw [h1_40]) (by decide) ?_
                  refine pm_aload_n dCm_perform_177 rfl ?_
                  refine pm_iload_n dCm_perform_178 rfl ?_
                  refine pm_callV dCm_perform_179 lCm_96 vCm_comeTo ⟨_, _, rfl⟩ (Cm_comeTo_ok _ _ _ _ hR _ _ _ ((((((((hp.2 h1_33).2 h1_34).2 h1_35).2 h1_36).2 h1_37).2 h1_38).2 h1_39).1 h1_40).1) rfl rfl rfl (Nat.le_of_ble_eq_true rfl) (Nat.le_refl _) (Nat.le_refl _) ?_
                  exact pm_vret dCm_perform_182 rfl ho (hz.trans (by first | (simp only [fCm_perform, if_neg h1_33, if_neg h1_34, if_neg h1_35, if_neg h1_36, if_neg h1_37, if_neg h1_38, if_neg h1_39, if_pos h1_40]; done) | (simp only [fCm_perform, if_neg h1_33, if_neg h1_34, if_neg h1_35, if_neg h1_36, if_neg h1_37, if_neg h1_38, if_neg h1_39, if_pos h1_40]; rfl) | rfl))
                ·
                  by_cases h1_41 : y1 = 41
                  ·
                    refine pm_tableIn 177 dCm_perform_1 (by rw [h1_41]; decide) (by rw [h1_41]; decide) (by first | (rw [h1_41]; rfl) | rw [h1_41]) (by decide) ?_
                    refine pm_aload_n dCm_perform_177 rfl ?_
                    refine pm_iload_n dCm_perform_178 rfl ?_
                    refine pm_callV dCm_perform_179 lCm_96 vCm_comeTo ⟨_, _, rfl⟩ (Cm_comeTo_ok _ _ _ _ hR _ _ _ (((((((((hp.2 h1_33).2 h1_34).2 h1_35).2 h1_36).2 h1_37).2 h1_38).2 h1_39).2 h1_40).1 h1_41).1) rfl rfl rfl (Nat.le_of_ble_eq_true rfl) (Nat.le_refl _) (Nat.le_refl _) ?_
                    exact pm_vret dCm_perform_182 rfl ho (hz.trans (by first | (simp only [fCm_perform, if_neg h1_33, if_neg h1_34, if_neg h1_35, if_neg h1_36, if_neg h1_37, if_neg h1_38, if_neg h1_39, if_neg h1_40, if_pos h1_41]; done) | (simp only [fCm_perform, if_neg h1_33, if_neg h1_34, if_neg h1_35, if_neg h1_36, if_neg h1_37, if_neg h1_38, if_neg h1_39, if_neg h1_40, if_pos h1_41]; rfl) | rfl))
                  ·
                    by_cases h1_42 : y1 = 42
                    ·
                      refine pm_tableIn 177 dCm_perform_1 (by rw [h1_42]; decide) (by rw [h1_42]; decide) (by first | (rw [h1_42]; rfl) | rw [h1_42]) (by decide) ?_
                      refine pm_aload_n dCm_perform_177 rfl ?_
                      refine pm_iload_n dCm_perform_178 rfl ?_
                      refine pm_callV dCm_perform_179 lCm_96 vCm_comeTo ⟨_, _, rfl⟩ (Cm_comeTo_ok _ _ _ _ hR _ _ _ ((((((((((hp.2 h1_33).2 h1_34).2 h1_35).2 h1_36).2 h1_37).2 h1_38).2 h1_39).2 h1_40).2 h1_41).1 h1_42).1) rfl rfl rfl (Nat.le_of_ble_eq_true rfl) (Nat.le_refl _) (Nat.le_refl _) ?_
                      exact pm_vret dCm_perform_182 rfl ho (hz.trans (by first | (simp only [fCm_perform, if_neg h1_33, if_neg h1_34, if_neg h1_35, if_neg h1_36, if_neg h1_37, if_neg h1_38, if_neg h1_39, if_neg h1_40, if_neg h1_41, if_pos h1_42]; done) | (simp only [fCm_perform, if_neg h1_33, if_neg h1_34, if_neg h1_35, if_neg h1_36, if_neg h1_37, if_neg h1_38, if_neg h1_39, if_neg h1_40, if_neg h1_41, if_pos h1_42]; rfl) | rfl))
                    ·
                      by_cases h1_43 : y1 = 43
                      ·
                        refine pm_tableIn 177 dCm_perform_1 (by rw [h1_43]; decide) (by rw [h1_43]; decide) (by first | (rw [h1_43]; rfl) | rw [h1_43]) (by decide) ?_
                        refine pm_aload_n dCm_perform_177 rfl ?_
                        refine pm_iload_n dCm_perform_178 rfl ?_
                        refine pm_callV dCm_perform_179 lCm_96 vCm_comeTo ⟨_, _, rfl⟩ (Cm_comeTo_ok _ _ _ _ hR _ _ _ (((((((((((hp.2 h1_33).2 h1_34).2 h1_35).2 h1_36).2 h1_37).2 h1_38).2 h1_39).2 h1_40).2 h1_41).2 h1_42).1 h1_43).1) rfl rfl rfl (Nat.le_of_ble_eq_true rfl) (Nat.le_refl _) (Nat.le_refl _) ?_
                        exact pm_vret dCm_perform_182 rfl ho (hz.trans (by first | (simp only [fCm_perform, if_neg h1_33, if_neg h1_34, if_neg h1_35, if_neg h1_36, if_neg h1_37, if_neg h1_38, if_neg h1_39, if_neg h1_40, if_neg h1_41, if_neg h1_42, if_pos h1_43]; done) | (simp only [fCm_perform, if_neg h1_33, if_neg h1_34, if_neg h1_35, if_neg h1_36, if_neg h1_37, if_neg h1_38, if_neg h1_39, if_neg h1_40, if_neg h1_41, if_neg h1_42, if_pos h1_43]; rfl) | rfl))
                      ·
                        by_cases h1_44 : y1 = 44
                        ·
                          refine pm_tableIn 177 dCm_perform_1 (by rw [h1_44]; decide) (by rw [h1_44]; decide) (by first | (rw [h1_44]; rfl) | rw [h1_44]) (by decide) ?_
                          refine pm_aload_n dCm_perform_177 rfl ?_
                          refine pm_iload_n dCm_perform_178 rfl ?_
                          refine pm_callV dCm_perform_179 lCm_96 vCm_comeTo ⟨_, _, rfl⟩ (Cm_comeTo_ok _ _ _ _ hR _ _ _ ((((((((((((hp.2 h1_33).2 h1_34).2 h1_35).2 h1_36).2 h1_37).2 h1_38).2 h1_39).2 h1_40).2 h1_41).2 h1_42).2 h1_43).1 h1_44).1) rfl rfl rfl (Nat.le_of_ble_eq_true rfl) (Nat.le_refl _) (Nat.le_refl _) ?_
                          exact pm_vret dCm_perform_182 rfl ho (hz.trans (by first | (simp only [fCm_perform, if_neg h1_33, if_neg h1_34, if_neg h1_35, if_neg h1_36, if_neg h1_37, if_neg h1_38, if_neg h1_39, if_neg h1_40, if_neg h1_41, if_neg h1_42, if_neg h1_43, if_pos h1_44]; done) | (simp only [fCm_perform, if_neg h1_33, if_neg h1_34, if_neg h1_35, if_neg h1_36, if_neg h1_37, if_neg h1_38, if_neg h1_39, if_neg h1_40, if_neg h1_41, if_neg h1_42, if_neg h1_43, if_pos h1_44]; rfl) | rfl))
                        ·
                          by_cases h1_45 : y1 = 45
                          ·
                            refine pm_tableIn 177 dCm_perform_1 (by rw [h1_45]; decide) (by rw [h1_45]; decide) (by first | (rw [h1_45]; rfl) | rw [h1_45]) (by decide) ?_
                            refine pm_aload_n dCm_perform_177 rfl ?_
                            refine pm_iload_n dCm_perform_178 rfl ?_
                            refine pm_callV dCm_perform_179 lCm_96 vCm_comeTo ⟨_, _, rfl⟩ (Cm_comeTo_ok _ _ _ _ hR _ _ _ (((((((((((((hp.2 h1_33).2 h1_34).2 h1_35).2 h1_36).2 h1_37).2 h1_38).2 h1_39).2 h1_40).2 h1_41).2 h1_42).2 h1_43).2 h1_44).1 h1_45).1) rfl rfl rfl (Nat.le_of_ble_eq_true rfl) (Nat.le_refl _) (Nat.le_refl _) ?_
                            exact pm_vret dCm_perform_182 rfl ho (hz.trans (by first | (simp only [fCm_perform, if_neg h1_33, if_neg h1_34, if_neg h1_35, if_neg h1_36, if_neg h1_37, if_neg h1_38, if_neg h1_39, if_neg h1_40, if_neg h1_41, if_neg h1_42, if_neg h1_43, if_neg h1_44, if_pos h1_45]; done) | (simp only [fCm_perform, if_neg h1_33, if_neg h1_34, if_neg h1_35, if_neg h1_36, if_neg h1_37, if_neg h1_38, if_neg h1_39, if_neg h1_40, if_neg h1_41, if_neg h1_42, if_neg h1_43, if_neg h1_44, if_pos h1_45]; rfl) | rfl))
                          ·
                            by_cases h1_46 : y1 = 46
                            ·
                              refine pm_tableIn 177 dCm_perform_1 (by rw [h1_46]; decide) (by rw [h1_46]; decide) (by first | (rw [h1_46]; rfl) | rw [h1_46]) (by decide) ?_
                              refine pm_aload_n dCm_perform_177 rfl ?_
                              refine pm_iload_n dCm_perform_178 rfl ?_
                              refine pm_callV dCm_perform_179 lCm_96 vCm_comeTo ⟨_, _, rfl⟩ (Cm_comeTo_ok _ _ _ _ hR _ _ _ ((((((((((((((hp.2 h1_33).2 h1_34).2 h1_35).2 h1_36).2 h1_37).2 h1_38).2 h1_39).2 h1_40).2 h1_41).2 h1_42).2 h1_43).2 h1_44).2 h1_45).1 h1_46).1) rfl rfl rfl (Nat.le_of_ble_eq_true rfl) (Nat.le_refl _) (Nat.le_refl _) ?_
                              exact pm_vret dCm_perform_182 rfl ho (hz.trans (by first | (simp only [fCm_perform, if_neg h1_33, if_neg h1_34, if_neg h1_35, if_neg h1_36, if_neg h1_37, if_neg h1_38, if_neg h1_39, if_neg h1_40, if_neg h1_41, if_neg h1_42, if_neg h1_43, if_neg h1_44, if_neg h1_45, if_pos h1_46]; done) | (simp only [fCm_perform, if_neg h1_33, if_neg h1_34, if_neg h1_35, if_neg h1_36, if_neg h1_37, if_neg h1_38, if_neg h1_39, if_neg h1_40, if_neg h1_41, if_neg h1_42, if_neg h1_43, if_neg h1_44, if_neg h1_45, if_pos h1_46]; rfl) | rfl))
                            ·
                              by_cases h1_47 : y1 = 47
                              ·
                                refine pm_tableIn 177 dCm_perform_1 (by rw [h1_47]; decide) (by rw [h1_47]; decide) (by first | (rw [h1_47]; rfl) | rw [h1_47]) (by decide) ?_
                                refine pm_aload_n dCm_perform_177 rfl ?_
                                refine pm_iload_n dCm_perform_178 rfl ?_
                                refine pm_callV dCm_perform_179 lCm_96 vCm_comeTo ⟨_, _, rfl⟩ (Cm_comeTo_ok _ _ _ _ hR _ _ _ (((((((((((((((hp.2 h1_33).2 h1_34).2 h1_35).2 h1_36).2 h1_37).2 h1_38).2 h1_39).2 h1_40).2 h1_41).2 h1_42).2 h1_43).2 h1_44).2 h1_45).2 h1_46).1 h1_47).1) rfl rfl rfl (Nat.le_of_ble_eq_true rfl) (Nat.le_refl _) (Nat.le_refl _) ?_
                                exact pm_vret dCm_perform_182 rfl ho (hz.trans (by first | (simp only [fCm_perform, if_neg h1_33, if_neg h1_34, if_neg h1_35, if_neg h1_36, if_neg h1_37, if_neg h1_38, if_neg h1_39, if_neg h1_40, if_neg h1_41, if_neg h1_42, if_neg h1_43, if_neg h1_44, if_neg h1_45, if_neg h1_46, if_pos h1_47]; done) | (simp only [fCm_perform, if_neg h1_33, if_neg h1_34, if_neg h1_35, if_neg h1_36, if_neg h1_37, if_neg h1_38, if_neg h1_39, if_neg h1_40, if_neg h1_41, if_neg h1_42, if_neg h1_43, if_neg h1_44, if_neg h1_45, if_neg h1_46, if_pos h1_47]; rfl) | rfl))
                              ·
                                by_cases h1_48 : y1 = 48
                                ·
                                  refine pm_tableIn 177 dCm_perform_1 (by rw [h1_48]; decide) (by rw [h1_48]; decide) (by first | (rw [h1_48]; rfl) | rw [h1_48]) (by decide) ?_
                                  refine pm_aload_n dCm_perform_177 rfl ?_
                                  refine pm_iload_n dCm_perform_178 rfl ?_
                                  refine pm_callV dCm_perform_179 lCm_96 vCm_comeTo ⟨_, _, rfl⟩ (Cm_comeTo_ok _ _ _ _ hR _ _ _ ((((((((((((((((hp.2 h1_33).2 h1_34).2 h1_35).2 h1_36).2 h1_37).2 h1_38).2 h1_39).2 h1_40).2 h1_41).2 h1_42).2 h1_43).2 h1_44).2 h1_45).2 h1_46).2 h1_47).1 h1_48).1) rfl rfl rfl (Nat.le_of_ble_eq_true rfl) (Nat.le_refl _) (Nat.le_refl _) ?_
                                  exact pm_vret dCm_perform_182 rfl ho (hz.trans (by first | (simp only [fCm_perform, if_neg h1_33, if_neg h1_34, if_neg h1_35, if_neg h1_36, if_neg h1_37, if_neg h1_38, if_neg h1_39, if_neg h1_40, if_neg h1_41, if_neg h1_42, if_neg h1_43, if_neg h1_44, if_neg h1_45, if_neg h1_46, if_neg h1_47, if_pos h1_48]; done) | (simp only [fCm_perform, if_neg h1_33, if_neg h1_34, if_neg h1_35, if_neg h1_36, if_neg h1_37, if_neg h1_38, if_neg h1_39, if_neg h1_40, if_neg h1_41, if_neg h1_42, if_neg h1_43, if_neg h1_44, if_neg h1_45, if_neg h1_46, if_neg h1_47, if_pos h1_48]; rfl) | rfl))
                                ·
                                  by_cases h1_49 : y1 = 49
                                  ·
                                    refine pm_tableIn 177 dCm_perform_1 (by rw [h1_49]; decide) (by rw [h1_49]; decide) (by first | (rw [h1_49]; rfl) | rw [h1_49]) (by decide) ?_
                                    refine pm_aload_n dCm_perform_177 rfl ?_
                                    refine pm_iload_n dCm_perform_178 rfl ?_
                                    refine pm_callV dCm_perform_179 lCm_96 vCm_comeTo ⟨_, _, rfl⟩ (Cm_comeTo_ok _ _ _ _ hR _ _ _ (((((((((((((((((hp.2 h1_33).2 h1_34).2 h1_35).2 h1_36).2 h1_37).2 h1_38).2 h1_39).2 h1_40).2 h1_41).2 h1_42).2 h1_43).2 h1_44).2 h1_45).2 h1_46).2 h1_47).2 h1_48).1 h1_49).1) rfl rfl rfl (Nat.le_of_ble_eq_true rfl) (Nat.le_refl _) (Nat.le_refl _) ?_
                                    exact pm_vret dCm_perform_182 rfl ho (hz.trans (by first | (simp only [fCm_perform, if_neg h1_33, if_neg h1_34, if_neg h1_35, if_neg h1_36, if_neg h1_37, if_neg h1_38, if_neg h1_39, if_neg h1_40, if_neg h1_41, if_neg h1_42, if_neg h1_43, if_neg h1_44, if_neg h1_45, if_neg h1_46, if_neg h1_47, if_neg h1_48, if_pos h1_49]; done) | (simp only [fCm_perform, if_neg h1_33, if_neg h1_34, if_neg h1_35, if_neg h1_36, if_neg h1_37, if_neg h1_38, if_neg h1_39, if_neg h1_40, if_neg h1_41, if_neg h1_42, if_neg h1_43, if_neg h1_44, if_neg h1_45, if_neg h1_46, if_neg h1_47, if_neg h1_48, if_pos h1_49]; rfl) | rfl))
                                  ·
                                    by_cases h1_50 : y1 = 50
                                    ·
                                      refine pm_tableIn 177 dCm_perform_1 (by rw [h1_50]; decide) (by rw [h1_50]; decide) (by first | (rw [h1_50]; rfl) | rw [h1_50]) (by decide) ?_
                                      refine pm_aload_n dCm_perform_177 rfl ?_
                                      refine pm_iload_n dCm_perform_178 rfl ?_
                                      refine pm_callV dCm_perform_179 lCm_96 vCm_comeTo ⟨_, _, rfl⟩ (Cm_comeTo_ok _ _ _ _ hR _ _ _ ((((((((((((((((((hp.2 h1_33).2 h1_34).2 h1_35).2 h1_36).2 h1_37).2 h1_38).2 h1_39).2 h1_40).2 h1_41).2 h1_42).2 h1_43).2 h1_44).2 h1_45).2 h1_46).2 h1_47).2 h1_48).2 h1_49).1 h1_50).1) rfl rfl rfl (Nat.le_of_ble_eq_true rfl) (Nat.le_refl _) (Nat.le_refl _) ?_
                                      exact pm_vret dCm_perform_182 rfl ho (hz.trans (by first | (simp only [fCm_perform, if_neg h1_33, if_neg h1_34, if_neg h1_35, if_neg h1_36, if_neg h1_37, if_neg h1_38, if_neg h1_39, if_neg h1_40, if_neg h1_41, if_neg h1_42, if_neg h1_43, if_neg h1_44, if_neg h1_45, if_neg h1_46, if_neg h1_47, if_neg h1_48, if_neg h1_49, if_pos h1_50]; done) | (simp only [fCm_perform, if_neg h1_33, if_neg h1_34, if_neg h1_35, if_neg h1_36, if_neg h1_37, if_neg h1_38, if_neg h1_39, if_neg h1_40, if_neg h1_41, if_neg h1_42, if_neg h1_43, if_neg h1_44, if_neg h1_45, if_neg h1_46, if_neg h1_47, if_neg h1_48, if_neg h1_49, if_pos h1_50]; rfl) | rfl))
                                    ·
                                      by_cases h1_51 : y1 = 51
                                      ·
                                        refine pm_tableIn 177 dCm_perform_1 (by rw [h1_51]; decide) (by rw [h1_51]; decide) (by first | (rw [h1_51]; rfl) | rw [h1_51]) (by decide) ?_
                                        refine pm_aload_n dCm_perform_177 rfl ?_
                                        refine pm_iload_n dCm_perform_178 rfl ?_
                                        refine pm_callV dCm_perform_179 lCm_96 vCm_comeTo ⟨_, _, rfl⟩ (Cm_comeTo_ok _ _ _ _ hR _ _ _ (((((((((((((((((((hp.2 h1_33).2 h1_34).2 h1_35).2 h1_36).2 h1_37).2 h1_38).2 h1_39).2 h1_40).2 h1_41).2 h1_42).2 h1_43).2 h1_44).2 h1_45).2 h1_46).2 h1_47).2 h1_48).2 h1_49).2 h1_50).1 h1_51).1) rfl rfl rfl (Nat.le_of_ble_eq_true rfl) (Nat.le_refl _) (Nat.le_refl _) ?_
                                        exact pm_vret dCm_perform_182 rfl ho (hz.trans (by first | (simp only [fCm_perform, if_neg h1_33, if_neg h1_34, if_neg h1_35, if_neg h1_36, if_neg h1_37, if_neg h1_38, if_neg h1_39, if_neg h1_40, if_neg h1_41, if_neg h1_42, if_neg h1_43, if_neg h1_44, if_neg h1_45, if_neg h1_46, if_neg h1_47, if_neg h1_48, if_neg h1_49, if_neg h1_50, if_pos h1_51]; done) | (simp only [fCm_perform, if_neg h1_33, if_neg h1_34, if_neg h1_35, if_neg h1_36, if_neg h1_37, if_neg h1_38, if_neg h1_39, if_neg h1_40, if_neg h1_41, if_neg h1_42, if_neg h1_43, if_neg h1_44, if_neg h1_45, if_neg h1_46, if_neg h1_47, if_neg h1_48, if_neg h1_49, if_neg h1_50, if_pos h1_51]; rfl) | rfl))
                                      ·
                                        by_cases h1_52 : y1 = 52
                                        ·
                                          refine pm_tableIn 112 dCm_perform_1 (by rw [h1_52]; decide) (by rw [h1_52]; decide) (by first | (rw [h1_52]; rfl) | rw [h1_52]) (by decide) ?_
                                          refine pm_aload_n dCm_perform_112 rfl ?_
                                          refine pm_iload_n dCm_perform_113 rfl ?_
                                          refine pm_iconst (v := 4) dCm_perform_114 (by decide) ?_
                                          refine pm_imul dCm_perform_115 ?_
                                          refine pm_aload_n dCm_perform_116 rfl ?_
                                          refine pm_callV dCm_perform_117 lCm_53 vCm_pushEmpty ⟨_, _, rfl⟩ (Cm_pushEmpty_ok _ _ _ _ hR  _ _ ((((((((((((((((((((hp.2 h1_33).2 h1_34).2 h1_35).2 h1_36).2 h1_37).2 h1_38).2 h1_39).2 h1_40).2 h1_41).2 h1_42).2 h1_43).2 h1_44).2 h1_45).2 h1_46).2 h1_47).2 h1_48).2 h1_49).2 h1_50).2 h1_51).1 h1_52).1) rfl rfl rfl (Nat.le_of_ble_eq_true rfl) (Nat.le_refl _) (Nat.le_refl _) ?_
                                          refine pm_wk [0, 1, 2] rfl ?_
                                          exact Cm_perform_n120 g d ex R hR _ _   _ _ _ _ _ _ ((((((((((((((((((((hp.2 h1_33).2 h1_34).2 h1_35).2 h1_36).2 h1_37).2 h1_38).2 h1_39).2 h1_40).2 h1_41).2 h1_42).2 h1_43).2 h1_44).2 h1_45).2 h1_46).2 h1_47).2 h1_48).2 h1_49).2 h1_50).2 h1_51).1 h1_52).2 ho (hz.trans (by first | (simp only [fCm_perform, if_neg h1_33, if_neg h1_34, if_neg h1_35, if_neg h1_36, if_neg h1_37, if_neg h1_38, if_neg h1_39, if_neg h1_40, if_neg h1_41, if_neg h1_42, if_neg h1_43, if_neg h1_44, if_neg h1_45, if_neg h1_46, if_neg h1_47, if_neg h1_48, if_neg h1_49, if_neg h1_50, if_neg h1_51, if_pos h1_52]; done) | (simp only [fCm_perform, if_neg h1_33, if_neg h1_34, if_neg h1_35, if_neg h1_36, if_neg h1_37, if_neg h1_38, if_neg h1_39, if_neg h1_40, if_neg h1_41, if_neg h1_42, if_neg h1_43, if_neg h1_44, if_neg h1_45, if_neg h1_46, if_neg h1_47, if_neg h1_48, if_neg h1_49, if_neg h1_50, if_neg h1_51, if_pos h1_52]; rfl) | rfl))
                                        ·
                                          by_cases h1_53 : y1 = 53
                                          ·
                                            refine pm_tableIn 140 dCm_perform_1 (by rw [h1_53]; decide) (by rw [h1_53]; decide) (by first | (rw [h1_53]; rfl) | rw [h1_53]) (by decide) ?_
                                            refine pm_aload_n dCm_perform_140 rfl ?_
                                            refine pm_aload_n dCm_perform_141 rfl ?_
                                            refine pm_callV dCm_perform_142 lCm_83 vCm_last ⟨_, _, rfl⟩ (Cm_last_ok _ _ _ _ hR  _ _ (((((((((((((((((((((hp.2 h1_33).2 h1_34).2 h1_35).2 h1_36).2 h1_37).2 h1_38).2 h1_39).2 h1_40).2 h1_41).2 h1_42).2 h1_43).2 h1_44).2 h1_45).2 h1_46).2 h1_47).2 h1_48).2 h1_49).2 h1_50).2 h1_51).2 h1_52).1 h1_53).1) rfl rfl rfl (Nat.le_of_ble_eq_true rfl) (Nat.le_refl _) (Nat.le_refl _) ?_
                                            refine pm_callV dCm_perform_145 lCm_86 vCm_turn ⟨_, _, rfl⟩ (Cm_turn_ok _ _ _ _ hR _ _ _ _ (((((((((((((((((((((hp.2 h1_33).2 h1_34).2 h1_35).2 h1_36).2 h1_37).2 h1_38).2 h1_39).2 h1_40).2 h1_41).2 h1_42).2 h1_43).2 h1_44).2 h1_45).2 h1_46).2 h1_47).2 h1_48).2 h1_49).2 h1_50).2 h1_51).2 h1_52).1 h1_53).2.1) rfl rfl rfl (Nat.le_of_ble_eq_true rfl) (Nat.le_refl _) (Nat.le_refl _) ?_
                                            refine pm_wk [0, 1, 2] rfl ?_
                                            exact Cm_perform_n148 g d ex R hR _ _   _ _ _ _ (((((((((((((((((((((hp.2 h1_33).2 h1_34).2 h1_35).2 h1_36).2 h1_37).2 h1_38).2 h1_39).2 h1_40).2 h1_41).2 h1_42).2 h1_43).2 h1_44).2 h1_45).2 h1_46).2 h1_47).2 h1_48).2 h1_49).2 h1_50).2 h1_51).2 h1_52).1 h1_53).2.2 ho (hz.trans (by first | (simp only [fCm_perform, if_neg h1_33, if_neg h1_34, if_neg h1_35, if_neg h1_36, if_neg h1_37, if_neg h1_38, if_neg h1_39, if_neg h1_40, if_neg h1_41, if_neg h1_42, if_neg h1_43, if_neg h1_44, if_neg h1_45, if_neg h1_46, if_neg h1_47, if_neg h1_48, if_neg h1_49, if_neg h1_50, if_neg h1_51, if_neg h1_52, if_pos h1_53]; done) | (simp only [fCm_perform, if_neg h1_33, if_neg h1_34, if_neg h1_35, if_neg h1_36, if_neg h1_37, if_neg h1_38, if_neg h1_39, if_neg h1_40, if_neg h1_41, if_neg h1_42, if_neg h1_43, if_neg h1_44, if_neg h1_45, if_neg h1_46, if_neg h1_47, if_neg h1_48, if_neg h1_49, if_neg h1_50, if_neg h1_51, if_neg h1_52, if_pos h1_53]; rfl) | rfl))
                                          ·
                                            by_cases h1_54 : y1 = 54
                                            ·
                                              refine pm_tableIn 151 dCm_perform_1 (by rw [h1_54]; decide) (by rw [h1_54]; decide) (by first | (rw [h1_54]; rfl) | rw [h1_54]) (by decide) ?_
                                              refine pm_aload_n dCm_perform_151 rfl ?_
                                              refine pm_iload_n dCm_perform_152 rfl ?_
                                              refine pm_callV dCm_perform_153 lCm_89 vCm_join ⟨_, _, rfl⟩ (Cm_join_ok _ _ _ _ hR _ _ _ _ ((((((((((((((((((((((hp.2 h1_33).2 h1_34).2 h1_35).2 h1_36).2 h1_37).2 h1_38).2 h1_39).2 h1_40).2 h1_41).2 h1_42).2 h1_43).2 h1_44).2 h1_45).2 h1_46).2 h1_47).2 h1_48).2 h1_49).2 h1_50).2 h1_51).2 h1_52).2 h1_53).1 h1_54).1) rfl rfl rfl (Nat.le_of_ble_eq_true rfl) (Nat.le_refl _) (Nat.le_refl _) ?_
                                              refine pm_wk [0, 1, 2] rfl ?_
                                              exact Cm_perform_n156 g d ex R hR _ _   _ _ _ _ ((((((((((((((((((((((hp.2 h1_33).2 h1_34).2 h1_35).2 h1_36).2 h1_37).2 h1_38).2 h1_39).2 h1_40).2 h1_41).2 h1_42).2 h1_43).2 h1_44).2 h1_45).2 h1_46).2 h1_47).2 h1_48).2 h1_49).2 h1_50).2 h1_51).2 h1_52).2 h1_53).1 h1_54).2 ho (hz.trans (by first | (simp only [fCm_perform, if_neg h1_33, if_neg h1_34, if_neg h1_35, if_neg h1_36, if_neg h1_37, if_neg h1_38, if_neg h1_39, if_neg h1_40, if_neg h1_41, if_neg h1_42, if_neg h1_43, if_neg h1_44, if_neg h1_45, if_neg h1_46, if_neg h1_47, if_neg h1_48, if_neg h1_49, if_neg h1_50, if_neg h1_51, if_neg h1_52, if_neg h1_53, if_pos h1_54]; done) | (simp only [fCm_perform, if_neg h1_33, if_neg h1_34, if_neg h1_35, if_neg h1_36, if_neg h1_37, if_neg h1_38, if_neg h1_39, if_neg h1_40, if_neg h1_41, if_neg h1_42, if_neg h1_43, if_neg h1_44, if_neg h1_45, if_neg h1_46, if_neg h1_47, if_neg h1_48, if_neg h1_49, if_neg h1_50, if_neg h1_51, if_neg h1_52, if_neg h1_53, if_pos h1_54]; rfl) | rfl))
                                            ·
                                              by_cases h1_55 : y1 = 55
                                              ·
                                                refine pm_tableIn 151 dCm_perform_1 (by rw [h1_55]; decide) (by rw [h1_55]; decide) (by first | (rw [h1_55]; rfl) | rw [h1_55]) (by decide) ?_
                                                refine pm_aload_n dCm_perform_151 rfl ?_
                                                refine pm_iload_n dCm_perform_152 rfl ?_
                                                refine pm_callV dCm_perform_153 lCm_89 vCm_join ⟨_, _, rfl⟩ (Cm_join_ok _ _ _ _ hR _ _ _ _ (((((((((((((((((((((((hp.2 h1_33).2 h1_34).2 h1_35).2 h1_36).2 h1_37).2 h1_38).2 h1_39).2 h1_40).2 h1_41).2 h1_42).2 h1_43).2 h1_44).2 h1_45).2 h1_46).2 h1_47).2 h1_48).2 h1_49).2 h1_50).2 h1_51).2 h1_52).2 h1_53).2 h1_54).1 h1_55).1) rfl rfl rfl (Nat.le_of_ble_eq_true rfl) (Nat.le_refl _) (Nat.le_refl _) ?_
                                                refine pm_wk [0, 1, 2] rfl ?_
                                                exact Cm_perform_n156 g d ex R hR _ _   _ _ _ _ (((((((((((((((((((((((hp.2 h1_33).2 h1_34).2 h1_35).2 h1_36).2 h1_37).2 h1_38).2 h1_39).2 h1_40).2 h1_41).2 h1_42).2 h1_43).2 h1_44).2 h1_45).2 h1_46).2 h1_47).2 h1_48).2 h1_49).2 h1_50).2 h1_51).2 h1_52).2 h1_53).2 h1_54).1 h1_55).2 ho (hz.trans (by first | (simp only [fCm_perform, if_neg h1_33, if_neg h1_34, if_neg h1_35, if_neg h1_36, if_neg h1_37, if_neg h1_38, if_neg h1_39, if_neg h1_40, if_neg h1_41, if_neg h1_42, if_neg h1_43, if_neg h1_44, if_neg h1_45, if_neg h1_46, if_neg h1_47, if_neg h1_48, if_neg h1_49, if_neg h1_50, if_neg h1_51, if_neg h1_52, if_neg h1_53, if_neg h1_54, if_pos h1_55]; done) | (simp only [fCm_perform, if_neg h1_33, if_neg h1_34, if_neg h1_35, if_neg h1_36, if_neg h1_37, if_neg h1_38, if_neg h1_39, if_neg h1_40, if_neg h1_41, if_neg h1_42, if_neg h1_43, if_neg h1_44, if_neg h1_45, if_neg h1_46, if_neg h1_47, if_neg h1_48, if_neg h1_49, if_neg h1_50, if_neg h1_51, if_neg h1_52, if_neg h1_53, if_neg h1_54, if_pos h1_55]; rfl) | rfl))
                                              ·
                                                by_cases h1_56 : y1 = 56
                                                ·
                                                  refine pm_tableIn 151 dCm_perform_1 (by rw [h1_56]; decide) (by rw [h1_56]; decide) (by first | (rw [h1_56]; rfl) | rw [h1_56]) (by decide) ?_
                                                  refine pm_aload_n dCm_perform_151 rfl ?_
                                                  refine pm_iload_n dCm_perform_152 rfl ?_
                                                  refine pm_callV dCm_perform_153 lCm_89 vCm_join ⟨_, _, rfl⟩ (Cm_join_ok _ _ _ _ hR _ _ _ _ ((((((((((((((((((((((((hp.2 h1_33).2 h1_34).2 h1_35).2 h1_36).2 h1_37).2 h1_38).2 h1_39).2 h1_40).2 h1_41).2 h1_42).2 h1_43).2 h1_44).2 h1_45).2 h1_46).2 h1_47).2 h1_48).2 h1_49).2 h1_50).2 h1_51).2 h1_52).2 h1_53).2 h1_54).2 h1_55).1 h1_56).1) rfl rfl rfl (Nat.le_of_ble_eq_true rfl) (Nat.le_refl _) (Nat.le_refl _) ?_
                                                  refine pm_wk [0, 1, 2] rfl ?_
                                                  exact Cm_perform_n156 g d ex R hR _ _   _ _ _ _ ((((((((((((((((((((((((hp.2 h1_33).2 h1_34).2 h1_35).2 h1_36).2 h1_37).2 h1_38).2 h1_39).2 h1_40).2 h1_41).2 h1_42).2 h1_43).2 h1_44).2 h1_45).2 h1_46).2 h1_47).2 h1_48).2 h1_49).2 h1_50).2 h1_51).2 h1_52).2 h1_53).2 h1_54).2 h1_55).1 h1_56).2 ho (hz.trans (by first | (simp only [fCm_perform, if_neg h1_33, if_neg h1_34, if_neg h1_35, if_neg h1_36, if_neg h1_37, if_neg h1_38, if_neg h1_39, if_neg h1_40, if_neg h1_41, if_neg h1_42, if_neg h1_43, if_neg h1_44, if_neg h1_45, if_neg h1_46, if_neg h1_47, if_neg h1_48, if_neg h1_49, if_neg h1_50, if_neg h1_51, if_neg h1_52, if_neg h1_53, if_neg h1_54, if_neg h1_55, if_pos h1_56]; done) | (simp only [fCm_perform, if_neg h1_33, if_neg h1_34, if_neg h1_35, if_neg h1_36, if_neg h1_37, if_neg h1_38, if_neg h1_39, if_neg h1_40, if_neg h1_41, if_neg h1_42, if_neg h1_43, if_neg h1_44, if_neg h1_45, if_neg h1_46, if_neg h1_47, if_neg h1_48, if_neg h1_49, if_neg h1_50, if_neg h1_51, if_neg h1_52, if_neg h1_53, if_neg h1_54, if_neg h1_55, if_pos h1_56]; rfl) | rfl))
                                                ·
                                                  refine pm_tableOut 177 dCm_perform_1 (pm_out (fun q9 k1 k2 => by
                                                    have : q9 = 33 ∨ q9 = 34 ∨ q9 = 35 ∨ q9 = 36 ∨ q9 = 37 ∨ q9 = 38 ∨ q9 = 39 ∨ q9 = 40 ∨ q9 = 41 ∨ q9 = 42 ∨ q9 = 43 ∨ q9 = 44 ∨ q9 = 45 ∨ q9 = 46 ∨ q9 = 47 ∨ q9 = 48 ∨ q9 = 49 ∨ q9 = 50 ∨ q9 = 51 ∨ q9 = 52 ∨ q9 = 53 ∨ q9 = 54 ∨ q9 = 55 ∨ q9 = 56 := by omega
                                                    rcases this with rfl | rfl | rfl | rfl | rfl | rfl | rfl | rfl | rfl | rfl | rfl | rfl | rfl | rfl | rfl | rfl | rfl | rfl | rfl | rfl | rfl | rfl | rfl | rfl
                                                    · exact h1_33
                                                    · exact h1_34
                                                    · exact h1_35
                                                    · exact h1_36
                                                    · exact h1_37
                                                    · exact h1_38
                                                    · exact h1_39
                                                    · exact h1_40
                                                    · exact h1_41
                                                    · exact h1_42
                                                    · exact h1_43
                                                    · exact h1_44
                                                    · exact h1_45
                                                    · exact h1_46
                                                    · exact h1_47
                                                    · exact h1_48
                                                    · exact h1_49
                                                    · exact h1_50
                                                    · exact h1_51
                                                    · exact h1_52
                                                    · exact h1_53
                                                    · exact h1_54
                                                    · exact h1_55
                                                    · exact h1_56
                                                    )) (by decide) ?_
                                                  refine pm_aload_n dCm_perform_177 rfl ?_
                                                  refine pm_iload_n dCm_perform_178 rfl ?_
                                                  refine pm_callV dCm_perform_179 lCm_96 vCm_comeTo ⟨_, _, rfl⟩ (Cm_comeTo_ok _ _ _ _ hR _ _ _ ((((((((((((((((((((((((hp.2 h1_33).2 h1_34).2 h1_35).2 h1_36).2 h1_37).2 h1_38).2 h1_39).2 h1_40).2 h1_41).2 h1_42).2 h1_43).2 h1_44).2 h1_45).2 h1_46).2 h1_47).2 h1_48).2 h1_49).2 h1_50).2 h1_51).2 h1_52).2 h1_53).2 h1_54).2 h1_55).2 h1_56).1) rfl rfl rfl (Nat.le_of_ble_eq_true rfl) (Nat.le_refl _) (Nat.le_refl _) ?_
                                                  exact pm_vret dCm_perform_182 rfl ho (hz.trans (by first | (simp only [fCm_perform, if_neg h1_33, if_neg h1_34, if_neg h1_35, if_neg h1_36, if_neg h1_37, if_neg h1_38, if_neg h1_39, if_neg h1_40, if_neg h1_41, if_neg h1_42, if_neg h1_43, if_neg h1_44, if_neg h1_45, if_neg h1_46, if_neg h1_47, if_neg h1_48, if_neg h1_49, if_neg h1_50, if_neg h1_51, if_neg h1_52, if_neg h1_53, if_neg h1_54, if_neg h1_55, if_neg h1_56]; done) | (simp only [fCm_perform, if_neg h1_33, if_neg h1_34, if_neg h1_35, if_neg h1_36, if_neg h1_37, if_neg h1_38, if_neg h1_39, if_neg h1_40, if_neg h1_41, if_neg h1_42, if_neg h1_43, if_neg h1_44, if_neg h1_45, if_neg h1_46, if_neg h1_47, if_neg h1_48, if_neg h1_49, if_neg h1_50, if_neg h1_51, if_neg h1_52, if_neg h1_53, if_neg h1_54, if_neg h1_55, if_neg h1_56]; rfl) | rfl))
set_option maxHeartbeats 4000000 in
set_option maxRecDepth 100000 in
theorem Cm_perform_ok (g : pmG) (d : Nat) (ex : List (Nat × Nat)) (R : Nat → Nat → Value) (hR : pk_R R)  (x0 : Int32) (x1 : Int32) (I : Nat → Nat → Int32) (J : Nat → Nat → Int64) (hp : pCm_perform x0 x1 I J) : pmC g kCm_perform (d + 4) 0 0 [.ref 33, .int x0, .int x1] (pk_K ++ ex, R, I, J) (.returned none) (pk_K ++ ex, R, (fCm_perform x0 x1 I J).1, (fCm_perform x0 x1 I J).2) :=
  pmC.of (by decide) (Nat.le_of_ble_eq_true rfl) (Cm_perform_n0 g d ex R hR _ _  x0 x1 I J hp rfl rfl)
