def fLa_all  (y0 : Int32) : Int64 :=
  (72340172838076673 : Int64) * (((y0 : Int32)).toInt64)
def pLa_all  (y0 : Int32) : Prop :=
  True
set_option maxHeartbeats 4000000 in
set_option maxRecDepth 100000 in
theorem La_all_n0 (g : pmG) (d : Nat) (K : List (Nat × Nat)) (R : Nat → Nat → Value) (I : Nat → Nat → Int32) (J : Nat → Nat → Int64) (o : Outcome) (Z : pmM)  (y0 : Int32) (hp : pLa_all y0) (ho : o = .returned (some (.long (fLa_all y0)))) (hz : Z = (K, R, I, J)) : pmE g kLa_all d 0 0 0 [(0, .int y0)] [] (K) R I J o Z := by
  unfold pLa_all at hp
  refine pm_ldc2 dLa_all_0 cLa_11 ?_
  refine pm_iload_n dLa_all_3 rfl ?_
  refine pm_i2l dLa_all_4 ?_
  refine pm_lmul dLa_all_5 ?_
  exact pm_lret dLa_all_6 rfl (ho.trans (by first | rfl | (simp only [fLa_all]; done) | (simp only [fLa_all]; rfl))) (hz.trans (by first | rfl | (simp only [fLa_all]; done) | (simp only [fLa_all]; rfl)))
set_option maxHeartbeats 4000000 in
set_option maxRecDepth 100000 in
theorem La_all_ok (g : pmG) (d : Nat) (K : List (Nat × Nat)) (R : Nat → Nat → Value)  (x0 : Int32) (I : Nat → Nat → Int32) (J : Nat → Nat → Int64) (hp : pLa_all x0) : pmC g kLa_all d 0 0 [.int x0] (K, R, I, J) (.returned (some (.long (fLa_all x0)))) (K, R, I, J) :=
  pmC.of (by decide) (Nat.le_of_ble_eq_true rfl) (La_all_n0 g d K R I J _ _  x0  hp rfl rfl)
def fLa_truth  (y0 : Int64) : Int64 :=
  (((((y0 &&& (9187201950435737471 : Int64)) + (9187201950435737471 : Int64)) ||| y0).toUInt64 >>> ((((7 : Int32) : Int32)).toInt64.toUInt64 &&& Int64.toUInt64 63)).toInt64) &&& (72340172838076673 : Int64)
def pLa_truth  (y0 : Int64) : Prop :=
  True
set_option maxHeartbeats 4000000 in
set_option maxRecDepth 100000 in
theorem La_truth_n0 (g : pmG) (d : Nat) (K : List (Nat × Nat)) (R : Nat → Nat → Value) (I : Nat → Nat → Int32) (J : Nat → Nat → Int64) (o : Outcome) (Z : pmM)  (y0 : Int64) (hp : pLa_truth y0) (ho : o = .returned (some (.long (fLa_truth y0)))) (hz : Z = (K, R, I, J)) : pmE g kLa_truth d 0 0 0 [(0, .long y0)] [] (K) R I J o Z := by
  unfold pLa_truth at hp
  refine pm_lload_n dLa_truth_0 rfl ?_
  refine pm_ldc2 dLa_truth_1 cLa_43 ?_
  refine pm_land dLa_truth_4 ?_
  refine pm_ldc2 dLa_truth_5 cLa_43 ?_
  refine pm_ladd dLa_truth_8 ?_
  refine pm_lload_n dLa_truth_9 rfl ?_
  refine pm_lor dLa_truth_10 ?_
  refine pm_bipush (v := 7) dLa_truth_11 (by decide) ?_
  refine pm_lushr dLa_truth_13 ?_
  refine pm_ldc2 dLa_truth_14 cLa_11 ?_
  refine pm_land dLa_truth_17 ?_
  exact pm_lret dLa_truth_18 rfl (ho.trans (by first | rfl | (simp only [fLa_truth]; done) | (simp only [fLa_truth]; rfl))) (hz.trans (by first | rfl | (simp only [fLa_truth]; done) | (simp only [fLa_truth]; rfl)))
set_option maxHeartbeats 4000000 in
set_option maxRecDepth 100000 in
theorem La_truth_ok (g : pmG) (d : Nat) (K : List (Nat × Nat)) (R : Nat → Nat → Value)  (x0 : Int64) (I : Nat → Nat → Int32) (J : Nat → Nat → Int64) (hp : pLa_truth x0) : pmC g kLa_truth d 0 0 [.long x0] (K, R, I, J) (.returned (some (.long (fLa_truth x0)))) (K, R, I, J) :=
  pmC.of (by decide) (Nat.le_of_ble_eq_true rfl) (La_truth_n0 g d K R I J _ _  x0  hp rfl rfl)
def fLa_not  (y0 : Int64) : Int64 :=
  ((fLa_truth y0)) ^^^ (72340172838076673 : Int64)
def pLa_not  (y0 : Int64) : Prop :=
  (pLa_truth y0) ∧ True
set_option maxHeartbeats 4000000 in
set_option maxRecDepth 100000 in
theorem La_not_n0 (g : pmG) (d : Nat) (K : List (Nat × Nat)) (R : Nat → Nat → Value) (I : Nat → Nat → Int32) (J : Nat → Nat → Int64) (o : Outcome) (Z : pmM)  (y0 : Int64) (hp : pLa_not y0) (ho : o = .returned (some (.long (fLa_not y0)))) (hz : Z = (K, R, I, J)) : pmE g kLa_not (d + 1) 0 0 0 [(0, .long y0)] [] (K) R I J o Z := by
  unfold pLa_not at hp
  refine pm_lload_n dLa_not_0 rfl ?_
  refine pm_callS dLa_not_1 lLa_13 tLa_truth (La_truth_ok _ _ _ _ _ _ _ hp.1) rfl rfl (Nat.le_of_ble_eq_true rfl) (Nat.le_refl _) (Nat.le_refl _) ?_
  refine pm_ldc2 dLa_not_4 cLa_11 ?_
  refine pm_lxor dLa_not_7 ?_
  exact pm_lret dLa_not_8 rfl (ho.trans (by first | rfl | (simp only [fLa_not]; done) | (simp only [fLa_not]; rfl))) (hz.trans (by first | rfl | (simp only [fLa_not]; done) | (simp only [fLa_not]; rfl)))
set_option maxHeartbeats 4000000 in
set_option maxRecDepth 100000 in
theorem La_not_ok (g : pmG) (d : Nat) (K : List (Nat × Nat)) (R : Nat → Nat → Value)  (x0 : Int64) (I : Nat → Nat → Int32) (J : Nat → Nat → Int64) (hp : pLa_not x0) : pmC g kLa_not (d + 1) 0 0 [.long x0] (K, R, I, J) (.returned (some (.long (fLa_not x0)))) (K, R, I, J) :=
  pmC.of (by decide) (Nat.le_of_ble_eq_true rfl) (La_not_n0 g d K R I J _ _  x0  hp rfl rfl)
def fLa_pick  (y0 : Int64) (y2 : Int64) (y4 : Int64) : Int64 :=
  (y2 &&& ((y0 <<< ((((8 : Int32) : Int32)).toInt64 &&& 63)) - y0)) ||| (y4 &&& (((y0 <<< ((((8 : Int32) : Int32)).toInt64 &&& 63)) - y0) ^^^ (-1 : Int64)))
def pLa_pick  (y0 : Int64) (y2 : Int64) (y4 : Int64) : Prop :=
  True
set_option maxHeartbeats 4000000 in
set_option maxRecDepth 100000 in
theorem La_pick_n0 (g : pmG) (d : Nat) (K : List (Nat × Nat)) (R : Nat → Nat → Value) (I : Nat → Nat → Int32) (J : Nat → Nat → Int64) (o : Outcome) (Z : pmM)  (y0 : Int64) (y2 : Int64) (y4 : Int64) (hp : pLa_pick y0 y2 y4) (ho : o = .returned (some (.long (fLa_pick y0 y2 y4)))) (hz : Z = (K, R, I, J)) : pmE g kLa_pick d 0 0 0 [(0, .long y0), (2, .long y2), (4, .long y4)] [] (K) R I J o Z := by
  unfold pLa_pick at hp
  refine pm_lload_n dLa_pick_0 rfl ?_
  refine pm_bipush (v := 8) dLa_pick_1 (by decide) ?_
  refine pm_lshl dLa_pick_3 ?_
  refine pm_lload_n dLa_pick_4 rfl ?_
  refine pm_lsub dLa_pick_5 ?_
  refine pm_lstore dLa_pick_6 (by decide) rfl ?_
  refine pm_lload_n dLa_pick_8 rfl ?_
  refine pm_lload dLa_pick_9 rfl ?_
  refine pm_land dLa_pick_11 ?_
  refine pm_lload dLa_pick_12 rfl ?_
  refine pm_lload dLa_pick_14 rfl ?_
  refine pm_ldc2 dLa_pick_16 cLa_37 ?_
  refine pm_lxor dLa_pick_19 ?_
  refine pm_land dLa_pick_20 ?_
  refine pm_lor dLa_pick_21 ?_
  exact pm_lret dLa_pick_22 rfl (ho.trans (by first | rfl | (simp only [fLa_pick]; done) | (simp only [fLa_pick]; rfl))) (hz.trans (by first | rfl | (simp only [fLa_pick]; done) | (simp only [fLa_pick]; rfl)))
set_option maxHeartbeats 4000000 in
set_option maxRecDepth 100000 in
theorem La_pick_ok (g : pmG) (d : Nat) (K : List (Nat × Nat)) (R : Nat → Nat → Value)  (x0 : Int64) (x1 : Int64) (x2 : Int64) (I : Nat → Nat → Int32) (J : Nat → Nat → Int64) (hp : pLa_pick x0 x1 x2) : pmC g kLa_pick d 0 0 [.long x0, .long x1, .long x2] (K, R, I, J) (.returned (some (.long (fLa_pick x0 x1 x2)))) (K, R, I, J) :=
  pmC.of (by decide) (Nat.le_of_ble_eq_true rfl) (La_pick_n0 g d K R I J _ _  x0 x1 x2  hp rfl rfl)
def fLa_plus  (y0 : Int64) (y2 : Int64) : Int64 :=
  ((y0 &&& (9187201950435737471 : Int64)) + (y2 &&& (9187201950435737471 : Int64))) ^^^ ((y0 ^^^ y2) &&& (-9187201950435737472 : Int64))
def pLa_plus  (y0 : Int64) (y2 : Int64) : Prop :=
  True
set_option maxHeartbeats 4000000 in
set_option maxRecDepth 100000 in
theorem La_plus_n0 (g : pmG) (d : Nat) (K : List (Nat × Nat)) (R : Nat → Nat → Value) (I : Nat → Nat → Int32) (J : Nat → Nat → Int64) (o : Outcome) (Z : pmM)  (y0 : Int64) (y2 : Int64) (hp : pLa_plus y0 y2) (ho : o = .returned (some (.long (fLa_plus y0 y2)))) (hz : Z = (K, R, I, J)) : pmE g kLa_plus d 0 0 0 [(0, .long y0), (2, .long y2)] [] (K) R I J o Z := by
  unfold pLa_plus at hp
  refine pm_lload_n dLa_plus_0 rfl ?_
  refine pm_ldc2 dLa_plus_1 cLa_43 ?_
  refine pm_land dLa_plus_4 ?_
  refine pm_lload_n dLa_plus_5 rfl ?_
  refine pm_ldc2 dLa_plus_6 cLa_43 ?_
  refine pm_land dLa_plus_9 ?_
  refine pm_ladd dLa_plus_10 ?_
  refine pm_lload_n dLa_plus_11 rfl ?_
  refine pm_lload_n dLa_plus_12 rfl ?_
  refine pm_lxor dLa_plus_13 ?_
  refine pm_ldc2 dLa_plus_14 cLa_45 ?_
  refine pm_land dLa_plus_17 ?_
  refine pm_lxor dLa_plus_18 ?_
  exact pm_lret dLa_plus_19 rfl (ho.trans (by first | rfl | (simp only [fLa_plus]; done) | (simp only [fLa_plus]; rfl))) (hz.trans (by first | rfl | (simp only [fLa_plus]; done) | (simp only [fLa_plus]; rfl)))
set_option maxHeartbeats 4000000 in
set_option maxRecDepth 100000 in
theorem La_plus_ok (g : pmG) (d : Nat) (K : List (Nat × Nat)) (R : Nat → Nat → Value)  (x0 : Int64) (x1 : Int64) (I : Nat → Nat → Int32) (J : Nat → Nat → Int64) (hp : pLa_plus x0 x1) : pmC g kLa_plus d 0 0 [.long x0, .long x1] (K, R, I, J) (.returned (some (.long (fLa_plus x0 x1)))) (K, R, I, J) :=
  pmC.of (by decide) (Nat.le_of_ble_eq_true rfl) (La_plus_n0 g d K R I J _ _  x0 x1  hp rfl rfl)
def fLa_minus  (y0 : Int64) (y2 : Int64) : Int64 :=
  ((y0 ||| (-9187201950435737472 : Int64)) - (y2 &&& (9187201950435737471 : Int64))) ^^^ ((y0 ^^^ (y2 ^^^ (-1 : Int64))) &&& (-9187201950435737472 : Int64))
def pLa_minus  (y0 : Int64) (y2 : Int64) : Prop :=
  True
set_option maxHeartbeats 4000000 in
set_option maxRecDepth 100000 in
theorem La_minus_n0 (g : pmG) (d : Nat) (K : List (Nat × Nat)) (R : Nat → Nat → Value) (I : Nat → Nat → Int32) (J : Nat → Nat → Int64) (o : Outcome) (Z : pmM)  (y0 : Int64) (y2 : Int64) (hp : pLa_minus y0 y2) (ho : o = .returned (some (.long (fLa_minus y0 y2)))) (hz : Z = (K, R, I, J)) : pmE g kLa_minus d 0 0 0 [(0, .long y0), (2, .long y2)] [] (K) R I J o Z := by
  unfold pLa_minus at hp
  refine pm_lload_n dLa_minus_0 rfl ?_
  refine pm_ldc2 dLa_minus_1 cLa_45 ?_
  refine pm_lor dLa_minus_4 ?_
  refine pm_lload_n dLa_minus_5 rfl ?_
  refine pm_ldc2 dLa_minus_6 cLa_43 ?_
  refine pm_land dLa_minus_9 ?_
  refine pm_lsub dLa_minus_10 ?_
  refine pm_lload_n dLa_minus_11 rfl ?_
  refine pm_lload_n dLa_minus_12 rfl ?_
  refine pm_ldc2 dLa_minus_13 cLa_37 ?_
  refine pm_lxor dLa_minus_16 ?_
  refine pm_lxor dLa_minus_17 ?_
  refine pm_ldc2 dLa_minus_18 cLa_45 ?_
  refine pm_land dLa_minus_21 ?_
  refine pm_lxor dLa_minus_22 ?_
  exact pm_lret dLa_minus_23 rfl (ho.trans (by first | rfl | (simp only [fLa_minus]; done) | (simp only [fLa_minus]; rfl))) (hz.trans (by first | rfl | (simp only [fLa_minus]; done) | (simp only [fLa_minus]; rfl)))
set_option maxHeartbeats 4000000 in
set_option maxRecDepth 100000 in
theorem La_minus_ok (g : pmG) (d : Nat) (K : List (Nat × Nat)) (R : Nat → Nat → Value)  (x0 : Int64) (x1 : Int64) (I : Nat → Nat → Int32) (J : Nat → Nat → Int64) (hp : pLa_minus x0 x1) : pmC g kLa_minus d 0 0 [.long x0, .long x1] (K, R, I, J) (.returned (some (.long (fLa_minus x0 x1)))) (K, R, I, J) :=
  pmC.of (by decide) (Nat.le_of_ble_eq_true rfl) (La_minus_n0 g d K R I J _ _  x0 x1  hp rfl rfl)
def fLa_less  (y0 : Int64) (y2 : Int64) : Int64 :=
  (((((y0 ^^^ (-1 : Int64)) &&& y2) ||| (((y0 ^^^ (-1 : Int64)) ||| y2) &&& ((fLa_minus y0 y2)))).toUInt64 >>> ((((7 : Int32) : Int32)).toInt64.toUInt64 &&& Int64.toUInt64 63)).toInt64) &&& (72340172838076673 : Int64)
def pLa_less  (y0 : Int64) (y2 : Int64) : Prop :=
  (pLa_minus y0 y2) ∧ True
set_option maxHeartbeats 4000000 in
set_option maxRecDepth 100000 in
theorem La_less_n0 (g : pmG) (d : Nat) (K : List (Nat × Nat)) (R : Nat → Nat → Value) (I : Nat → Nat → Int32) (J : Nat → Nat → Int64) (o : Outcome) (Z : pmM)  (y0 : Int64) (y2 : Int64) (hp : pLa_less y0 y2) (ho : o = .returned (some (.long (fLa_less y0 y2)))) (hz : Z = (K, R, I, J)) : pmE g kLa_less (d + 1) 0 0 0 [(0, .long y0), (2, .long y2)] [] (K) R I J o Z := by
  unfold pLa_less at hp
  refine pm_lload_n dLa_less_0 rfl ?_
  refine pm_ldc2 dLa_less_1 cLa_37 ?_
  refine pm_lxor dLa_less_4 ?_
  refine pm_lload_n dLa_less_5 rfl ?_
  refine pm_land dLa_less_6 ?_
  refine pm_lload_n dLa_less_7 rfl ?_
  refine pm_ldc2 dLa_less_8 cLa_37 ?_
  refine pm_lxor dLa_less_11 ?_
  refine pm_lload_n dLa_less_12 rfl ?_
  refine pm_lor dLa_less_13 ?_
  refine pm_lload_n dLa_less_14 rfl ?_
  refine pm_lload_n dLa_less_15 rfl ?_
  refine pm_callS dLa_less_16 lLa_31 tLa_minus (La_minus_ok _ _ _ _ _ _ _ _ hp.1) rfl rfl (Nat.le_of_ble_eq_true rfl) (Nat.le_refl _) (Nat.le_refl _) ?_
  refine pm_land dLa_less_19 ?_
  refine pm_lor dLa_less_20 ?_
  refine pm_bipush (v := 7) dLa_less_21 (by decide) ?_
  refine pm_lushr dLa_less_23 ?_
  refine pm_ldc2 dLa_less_24 cLa_11 ?_
  refine pm_land dLa_less_27 ?_
  exact pm_lret dLa_less_28 rfl (ho.trans (by first | rfl | (simp only [fLa_less]; done) | (simp only [fLa_less]; rfl))) (hz.trans (by first | rfl | (simp only [fLa_less]; done) | (simp only [fLa_less]; rfl)))
set_option maxHeartbeats 4000000 in
set_option maxRecDepth 100000 in
theorem La_less_ok (g : pmG) (d : Nat) (K : List (Nat × Nat)) (R : Nat → Nat → Value)  (x0 : Int64) (x1 : Int64) (I : Nat → Nat → Int32) (J : Nat → Nat → Int64) (hp : pLa_less x0 x1) : pmC g kLa_less (d + 1) 0 0 [.long x0, .long x1] (K, R, I, J) (.returned (some (.long (fLa_less x0 x1)))) (K, R, I, J) :=
  pmC.of (by decide) (Nat.le_of_ble_eq_true rfl) (La_less_n0 g d K R I J _ _  x0 x1  hp rfl rfl)
def fLa_choose  (y0 : Int64) (y2 : Int64) (y4 : Int64) : Int64 :=
  (fLa_pick ((fLa_truth y0)) y2 y4)
def pLa_choose  (y0 : Int64) (y2 : Int64) (y4 : Int64) : Prop :=
  (pLa_truth y0) ∧ ((pLa_pick ((fLa_truth y0)) y2 y4) ∧ True)
set_option maxHeartbeats 4000000 in
set_option maxRecDepth 100000 in
theorem La_choose_n0 (g : pmG) (d : Nat) (K : List (Nat × Nat)) (R : Nat → Nat → Value) (I : Nat → Nat → Int32) (J : Nat → Nat → Int64) (o : Outcome) (Z : pmM)  (y0 : Int64) (y2 : Int64) (y4 : Int64) (hp : pLa_choose y0 y2 y4) (ho : o = .returned (some (.long (fLa_choose y0 y2 y4)))) (hz : Z = (K, R, I, J)) : pmE g kLa_choose (d + 1) 0 0 0 [(0, .long y0), (2, .long y2), (4, .long y4)] [] (K) R I J o Z := by
  unfold pLa_choose at hp
  refine pm_lload_n dLa_choose_0 rfl ?_
  refine pm_callS dLa_choose_1 lLa_13 tLa_truth (La_truth_ok _ _ _ _ _ _ _ hp.1) rfl rfl (Nat.le_of_ble_eq_true rfl) (Nat.le_refl _) (Nat.le_refl _) ?_
  refine pm_lload_n dLa_choose_4 rfl ?_
  refine pm_lload dLa_choose_5 rfl ?_
  refine pm_callS dLa_choose_7 lLa_39 tLa_pick (La_pick_ok _ _ _ _ _ _ _ _ _ hp.2.1) rfl rfl (Nat.le_of_ble_eq_true rfl) (Nat.le_refl _) (Nat.le_refl _) ?_
  exact pm_lret dLa_choose_10 rfl (ho.trans (by first | rfl | (simp only [fLa_choose]; done) | (simp only [fLa_choose]; rfl))) (hz.trans (by first | rfl | (simp only [fLa_choose]; done) | (simp only [fLa_choose]; rfl)))
set_option maxHeartbeats 4000000 in
set_option maxRecDepth 100000 in
theorem La_choose_ok (g : pmG) (d : Nat) (K : List (Nat × Nat)) (R : Nat → Nat → Value)  (x0 : Int64) (x1 : Int64) (x2 : Int64) (I : Nat → Nat → Int32) (J : Nat → Nat → Int64) (hp : pLa_choose x0 x1 x2) : pmC g kLa_choose (d + 1) 0 0 [.long x0, .long x1, .long x2] (K, R, I, J) (.returned (some (.long (fLa_choose x0 x1 x2)))) (K, R, I, J) :=
  pmC.of (by decide) (Nat.le_of_ble_eq_true rfl) (La_choose_n0 g d K R I J _ _  x0 x1 x2  hp rfl rfl)
def fLa_alter  (y0 : Int32) (y1 : Int64) : Int64 :=
  if y0 = (49 : Int32) then (fLa_minus (0 : Int64) y1)
  else if y0 = (19 : Int32) then (fLa_not y1)
    else y1 ^^^ (-1 : Int64)
def pLa_alter  (y0 : Int32) (y1 : Int64) : Prop :=
  (y0 = (49 : Int32) → (pLa_minus (0 : Int64) y1) ∧ True) ∧
  (¬ (y0 = (49 : Int32)) → (y0 = (19 : Int32) → (pLa_not y1) ∧ True) ∧
    (¬ (y0 = (19 : Int32)) → True))
set_option maxHeartbeats 4000000 in
set_option maxRecDepth 100000 in
theorem La_alter_n0 (g : pmG) (d : Nat) (K : List (Nat × Nat)) (R : Nat → Nat → Value) (I : Nat → Nat → Int32) (J : Nat → Nat → Int64) (o : Outcome) (Z : pmM)  (y0 : Int32) (y1 : Int64) (hp : pLa_alter y0 y1) (ho : o = .returned (some (.long (fLa_alter y0 y1)))) (hz : Z = (K, R, I, J)) : pmE g kLa_alter (d + 2) 0 0 0 [(0, .int y0), (1, .long y1)] [] (K) R I J o Z := by
  unfold pLa_alter at hp
  refine pm_iload_n dLa_alter_0 rfl ?_
  refine pm_bipush (v := 49) dLa_alter_1 (by decide) ?_
  refine pm_icmp_ne 12 dLa_alter_3 (by decide) (fun h3 => ?_) (fun h3 => ?_)
  ·
    refine pm_iload_n dLa_alter_12 rfl ?_
    refine pm_bipush (v := 19) dLa_alter_13 (by decide) ?_
    refine pm_icmp_ne 25 dLa_alter_15 (by decide) (fun h15 => ?_) (fun h15 => ?_)
    ·
      refine pm_lload_n dLa_alter_25 rfl ?_
      refine pm_ldc2 dLa_alter_26 cLa_37 ?_
      refine pm_lxor dLa_alter_29 ?_
      exact pm_lret dLa_alter_30 rfl (ho.trans (by first | (simp only [fLa_alter, if_neg h3, if_neg h15]; done) | (simp only [fLa_alter, if_neg h3, if_neg h15]; rfl) | rfl)) (hz.trans (by first | (simp only [fLa_alter, if_neg h3, if_neg h15]; done) | (simp only [fLa_alter, if_neg h3, if_neg h15]; rfl) | rfl))
    ·
      refine pm_lload_n dLa_alter_18 rfl ?_
      refine pm_callS dLa_alter_19 lLa_17 tLa_not (La_not_ok _ _ _ _ _ _ _ ((hp.2 h3).1 h15).1) rfl rfl (Nat.le_of_ble_eq_true rfl) (Nat.le_refl _) (Nat.le_refl _) ?_
      refine pm_goto 30 dLa_alter_22 (by decide) ?_
      exact pm_lret dLa_alter_30 rfl (ho.trans (by first | (simp only [fLa_alter, if_neg h3, if_pos h15]; done) | (simp only [fLa_alter, if_neg h3, if_pos h15]; rfl) | rfl)) (hz.trans (by first | (simp only [fLa_alter, if_neg h3, if_pos h15]; done) | (simp only [fLa_alter, if_neg h3, if_pos h15]; rfl) | rfl))
  ·
    refine pm_lconst (v := 0) dLa_alter_6 (by decide) ?_
    refine pm_lload_n dLa_alter_7 rfl ?_
    refine pm_callS dLa_alter_8 lLa_31 tLa_minus (La_minus_ok _ _ _ _ _ _ _ _ (hp.1 h3).1) rfl rfl (Nat.le_of_ble_eq_true rfl) (Nat.le_refl _) (Nat.le_refl _) ?_
    exact pm_lret dLa_alter_11 rfl (ho.trans (by first | (simp only [fLa_alter, if_pos h3]; done) | (simp only [fLa_alter, if_pos h3]; rfl) | rfl)) (hz.trans (by first | (simp only [fLa_alter, if_pos h3]; done) | (simp only [fLa_alter, if_pos h3]; rfl) | rfl))
set_option maxHeartbeats 4000000 in
set_option maxRecDepth 100000 in
theorem La_alter_ok (g : pmG) (d : Nat) (K : List (Nat × Nat)) (R : Nat → Nat → Value)  (x0 : Int32) (x1 : Int64) (I : Nat → Nat → Int32) (J : Nat → Nat → Int64) (hp : pLa_alter x0 x1) : pmC g kLa_alter (d + 2) 0 0 [.int x0, .long x1] (K, R, I, J) (.returned (some (.long (fLa_alter x0 x1)))) (K, R, I, J) :=
  pmC.of (by decide) (Nat.le_of_ble_eq_true rfl) (La_alter_n0 g d K R I J _ _  x0 x1  hp rfl rfl)
