def fLa_shift_59 (r6 : Int32 → Int64 → Int64 → Int64 → Int32 → Int64) (y0 : Int32) (y1 : Int64) (y3 : Int64) (y5 : Int64) (y7 : Int32) (y8 : Int32) (z0 : Int64) : Int64 :=
  r6 y0 y1 y3 ((fLa_pick (((y3.toUInt64 >>> (((y7 : Int32)).toInt64.toUInt64 &&& Int64.toUInt64 63)).toInt64) &&& (72340172838076673 : Int64)) z0 y5)) (y7 + Int32.ofInt 1)
def pLa_shift_59 (q6 : Int32 → Int64 → Int64 → Int64 → Int32 → Prop) (y0 : Int32) (y1 : Int64) (y3 : Int64) (y5 : Int64) (y7 : Int32) (y8 : Int32) (z0 : Int64) : Prop :=
  (pLa_pick (((y3.toUInt64 >>> (((y7 : Int32)).toInt64.toUInt64 &&& Int64.toUInt64 63)).toInt64) &&& (72340172838076673 : Int64)) z0 y5) ∧ (q6 y0 y1 y3 ((fLa_pick (((y3.toUInt64 >>> (((y7 : Int32)).toInt64.toUInt64 &&& Int64.toUInt64 63)).toInt64) &&& (72340172838076673 : Int64)) z0 y5)) (y7 + Int32.ofInt 1))
def fLa_shift_6  : Nat → Int32 → Int64 → Int64 → Int64 → Int32 → Int64
  | 0, _, _, _, _, _ => 0
  | n + 1, y0, y1, y3, y5, y7 =>
  if (3 : Int32) ≤ y7 then (fLa_pick ((fLa_truth (y3 &&& ((fLa_all (248 : Int32)))))) (0 : Int64) y5)
  else if y0 = 0 then fLa_shift_59 (fLa_shift_6 n) y0 y1 y3 y5 y7 ((1 : Int32) <<< (y7 &&& 31)) (((y5.toUInt64 >>> (((((1 : Int32) <<< (y7 &&& 31)) : Int32)).toInt64.toUInt64 &&& Int64.toUInt64 63)).toInt64) &&& ((fLa_all (((255 : Int32).toUInt32 >>> (((1 : Int32) <<< (y7 &&& 31)).toUInt32 &&& Int32.toUInt32 31)).toInt32))))
    else fLa_shift_59 (fLa_shift_6 n) y0 y1 y3 y5 y7 ((1 : Int32) <<< (y7 &&& 31)) ((y5 <<< (((((1 : Int32) <<< (y7 &&& 31)) : Int32)).toInt64 &&& 63)) &&& ((fLa_all (((255 : Int32) <<< (((1 : Int32) <<< (y7 &&& 31)) &&& 31)) &&& (255 : Int32)))))
def pLa_shift_6  : Nat → Int32 → Int64 → Int64 → Int64 → Int32 → Prop
  | 0, _, _, _, _, _ => False
  | n + 1, y0, y1, y3, y5, y7 =>
  ((3 : Int32) ≤ y7 → (pLa_all (248 : Int32)) ∧ ((pLa_truth (y3 &&& ((fLa_all (248 : Int32))))) ∧ ((pLa_pick ((fLa_truth (y3 &&& ((fLa_all (248 : Int32)))))) (0 : Int64) y5) ∧ True))) ∧
  (¬ ((3 : Int32) ≤ y7) → (y0 = 0 → (pLa_all (((255 : Int32).toUInt32 >>> (((1 : Int32) <<< (y7 &&& 31)).toUInt32 &&& Int32.toUInt32 31)).toInt32)) ∧ (pLa_shift_59 (pLa_shift_6 n) y0 y1 y3 y5 y7 ((1 : Int32) <<< (y7 &&& 31)) (((y5.toUInt64 >>> (((((1 : Int32) <<< (y7 &&& 31)) : Int32)).toInt64.toUInt64 &&& Int64.toUInt64 63)).toInt64) &&& ((fLa_all (((255 : Int32).toUInt32 >>> (((1 : Int32) <<< (y7 &&& 31)).toUInt32 &&& Int32.toUInt32 31)).toInt32)))))) ∧
    (¬ (y0 = 0) → (pLa_all (((255 : Int32) <<< (((1 : Int32) <<< (y7 &&& 31)) &&& 31)) &&& (255 : Int32))) ∧ (pLa_shift_59 (pLa_shift_6 n) y0 y1 y3 y5 y7 ((1 : Int32) <<< (y7 &&& 31)) ((y5 <<< (((((1 : Int32) <<< (y7 &&& 31)) : Int32)).toInt64 &&& 63)) &&& ((fLa_all (((255 : Int32) <<< (((1 : Int32) <<< (y7 &&& 31)) &&& 31)) &&& (255 : Int32))))))))
def fLa_shift (n6 : Nat) (y0 : Int32) (y1 : Int64) (y3 : Int64) : Int64 :=
  fLa_shift_6 n6 y0 y1 y3 y1 (0 : Int32)
def pLa_shift (n6 : Nat) (y0 : Int32) (y1 : Int64) (y3 : Int64) : Prop :=
  pLa_shift_6 n6 y0 y1 y3 y1 (0 : Int32)
set_option maxHeartbeats 4000000 in
set_option maxRecDepth 100000 in
theorem La_shift_n59 (g : pmG) (d : Nat) (K : List (Nat × Nat)) (R : Nat → Nat → Value) (I : Nat → Nat → Int32) (J : Nat → Nat → Int64) (o : Outcome) (Z : pmM) (r6 : Int32 → Int64 → Int64 → Int64 → Int32 → Int64) (q6 : Int32 → Int64 → Int64 → Int64 → Int32 → Prop) (ih6 : ∀ (y0 : Int32) (y1 : Int64) (y3 : Int64) (y5 : Int64) (y7 : Int32), q6 y0 y1 y3 y5 y7 → o = .returned (some (.long (r6 y0 y1 y3 y5 y7))) → Z = (K, R, I, J) → pmE g kLa_shift (d + 1) 0 0 6 [(0, .int y0), (1, .long y1), (3, .long y3), (5, .long y5), (7, .int y7)] [] (K) R I J o Z)  (y0 : Int32) (y1 : Int64) (y3 : Int64) (y5 : Int64) (y7 : Int32) (y8 : Int32) (z0 : Int64) (hp : pLa_shift_59 q6 y0 y1 y3 y5 y7 y8 z0) (ho : o = .returned (some (.long (fLa_shift_59 r6 y0 y1 y3 y5 y7 y8 z0)))) (hz : Z = (K, R, I, J)) : pmE g kLa_shift (d + 1) 0 0 59 [(0, .int y0), (1, .long y1), (3, .long y3), (5, .long y5), (7, .int y7), (8, .int y8)] [.long z0] (K) R I J o Z := by
  unfold pLa_shift_59 at hp
  refine pm_lstore dLa_shift_59 (by decide) rfl ?_
  refine pm_lload_n dLa_shift_61 rfl ?_
  refine pm_iload dLa_shift_62 rfl ?_
  refine pm_lushr dLa_shift_64 ?_
  refine pm_ldc2 dLa_shift_65 cLa_11 ?_
  refine pm_land dLa_shift_68 ?_
  refine pm_lload dLa_shift_69 rfl ?_
  refine pm_lload dLa_shift_71 rfl ?_
  refine pm_callS dLa_shift_73 lLa_39 tLa_pick (La_pick_ok _ _ _ _ _ _ _ _ _ hp.1) rfl rfl (Nat.le_of_ble_eq_true rfl) (Nat.le_refl _) (Nat.le_refl _) ?_
  refine pm_lstore dLa_shift_76 (by decide) rfl ?_
  refine pm_iinc dLa_shift_78 rfl (by decide) rfl ?_
  refine pm_goto 6 dLa_shift_81 (by decide) ?_
  refine pm_wk [3, 4, 5, 1, 0] rfl ?_
  exact ih6 _ _ _ _ _ hp.2 (ho.trans (by first | rfl | (simp only [fLa_shift_59]; done) | (simp only [fLa_shift_59]; rfl))) (hz.trans (by first | rfl | (simp only [fLa_shift_59]; done) | (simp only [fLa_shift_59]; rfl)))
set_option maxHeartbeats 4000000 in
set_option maxRecDepth 100000 in
theorem La_shift_n6 (g : pmG) (d : Nat) (K : List (Nat × Nat)) (R : Nat → Nat → Value) (I : Nat → Nat → Int32) (J : Nat → Nat → Int64) (o : Outcome) (Z : pmM)  : ∀ (n : Nat) (y0 : Int32) (y1 : Int64) (y3 : Int64) (y5 : Int64) (y7 : Int32), pLa_shift_6 n y0 y1 y3 y5 y7 → o = .returned (some (.long (fLa_shift_6 n y0 y1 y3 y5 y7))) → Z = (K, R, I, J) → pmE g kLa_shift (d + 1) 0 0 6 [(0, .int y0), (1, .long y1), (3, .long y3), (5, .long y5), (7, .int y7)] [] (K) R I J o Z := by
  intro n
  induction n with
  | zero => intro y0 y1 y3 y5 y7 hp; exact False.elim hp
  | succ n ih =>
  intro y0 y1 y3 y5 y7 hp ho hz
  simp only [pLa_shift_6] at hp
  refine pm_iload dLa_shift_6 rfl ?_
  refine pm_iconst (v := 3) dLa_shift_8 (by decide) ?_
  refine pm_icmp_ge 84 dLa_shift_9 (by decide) (fun h9 => ?_) (fun h9 => ?_)
  ·
    refine pm_lload_n dLa_shift_84 rfl ?_
    refine pm_sipush (v := 248) dLa_shift_85 (by decide) ?_
    refine pm_callS dLa_shift_88 lLa_47 tLa_all (La_all_ok _ _ _ _ _ _ _ (hp.1 h9).1) rfl rfl (Nat.le_of_ble_eq_true rfl) (Nat.le_refl _) (Nat.le_refl _) ?_
    refine pm_land dLa_shift_91 ?_
    refine pm_callS dLa_shift_92 lLa_13 tLa_truth (La_truth_ok _ _ _ _ _ _ _ (hp.1 h9).2.1) rfl rfl (Nat.le_of_ble_eq_true rfl) (Nat.le_refl _) (Nat.le_refl _) ?_
    refine pm_lconst (v := 0) dLa_shift_95 (by decide) ?_
    refine pm_lload dLa_shift_96 rfl ?_
    refine pm_callS dLa_shift_98 lLa_39 tLa_pick (La_pick_ok _ _ _ _ _ _ _ _ _ (hp.1 h9).2.2.1) rfl rfl (Nat.le_of_ble_eq_true rfl) (Nat.le_refl _) (Nat.le_refl _) ?_
    exact pm_lret dLa_shift_101 rfl (ho.trans (by first | (simp only [fLa_shift_6, if_pos h9]; done) | (simp only [fLa_shift_6, if_pos h9]; rfl) | rfl)) (hz.trans (by first | (simp only [fLa_shift_6, if_pos h9]; done) | (simp only [fLa_shift_6, if_pos h9]; rfl) | rfl))
  ·
    refine pm_iconst (v := 1) dLa_shift_12 (by decide) ?_
    refine pm_iload dLa_shift_13 rfl ?_
    refine pm_ishl dLa_shift_15 ?_
    refine pm_istore dLa_shift_16 (by decide) rfl ?_
    refine pm_iload_n dLa_shift_18 rfl ?_
    refine pm_if_eq 44 dLa_shift_19 (by decide) (fun h19 => ?_) (fun h19 => ?_)
    ·
      refine pm_lload dLa_shift_44 rfl ?_
      refine pm_iload dLa_shift_46 rfl ?_
      refine pm_lushr dLa_shift_48 ?_
      refine pm_sipush (v := 255) dLa_shift_49 (by decide) ?_
      refine pm_iload dLa_shift_52 rfl ?_
      refine pm_iushr dLa_shift_54 ?_
      refine pm_callS dLa_shift_55 lLa_47 tLa_all (La_all_ok _ _ _ _ _ _ _ ((hp.2 h9).1 h19).1) rfl rfl (Nat.le_of_ble_eq_true rfl) (Nat.le_refl _) (Nat.le_refl _) ?_
      refine pm_land dLa_shift_58 ?_
      refine pm_wk [1, 2, 3, 4, 5, 0] rfl ?_
      exact La_shift_n59 g d K R I J _ _ (fLa_shift_6 n) (pLa_shift_6 n) ih  _ _ _ _ _ _ _ ((hp.2 h9).1 h19).2 (ho.trans (by first | (simp only [fLa_shift_6, if_neg h9, if_pos h19]; done) | (simp only [fLa_shift_6, if_neg h9, if_pos h19]; rfl) | rfl)) (hz.trans (by first | (simp only [fLa_shift_6, if_neg h9, if_pos h19]; done) | (simp only [fLa_shift_6, if_neg h9, if_pos h19]; rfl) | rfl))
    ·
      refine pm_lload dLa_shift_22 rfl ?_
      refine pm_iload dLa_shift_24 rfl ?_
      refine pm_lshl dLa_shift_26 ?_
      refine pm_sipush (v := 255) dLa_shift_27 (by decide) ?_
      refine pm_iload dLa_shift_30 rfl ?_
      refine pm_ishl dLa_shift_32 ?_
      refine pm_sipush (v := 255) dLa_shift_33 (by decide) ?_
      refine pm_iand dLa_shift_36 ?_
      refine pm_callS dLa_shift_37 lLa_47 tLa_all (La_all_ok _ _ _ _ _ _ _ ((hp.2 h9).2 h19).1) rfl rfl (Nat.le_of_ble_eq_true rfl) (Nat.le_refl _) (Nat.le_refl _) ?_
      refine pm_land dLa_shift_40 ?_
      refine pm_goto 59 dLa_shift_41 (by decide) ?_
      refine pm_wk [1, 2, 3, 4, 5, 0] rfl ?_
      exact La_shift_n59 g d K R I J _ _ (fLa_shift_6 n) (pLa_shift_6 n) ih  _ _ _ _ _ _ _ ((hp.2 h9).2 h19).2 (ho.trans (by first | (simp only [fLa_shift_6, if_neg h9, if_neg h19]; done) | (simp only [fLa_shift_6, if_neg h9, if_neg h19]; rfl) | rfl)) (hz.trans (by first | (simp only [fLa_shift_6, if_neg h9, if_neg h19]; done) | (simp only [fLa_shift_6, if_neg h9, if_neg h19]; rfl) | rfl))
set_option maxHeartbeats 4000000 in
set_option maxRecDepth 100000 in
theorem La_shift_n0 (g : pmG) (d : Nat) (K : List (Nat × Nat)) (R : Nat → Nat → Value) (I : Nat → Nat → Int32) (J : Nat → Nat → Int64) (o : Outcome) (Z : pmM) (n6 : Nat) (y0 : Int32) (y1 : Int64) (y3 : Int64) (hp : pLa_shift n6 y0 y1 y3) (ho : o = .returned (some (.long (fLa_shift n6 y0 y1 y3)))) (hz : Z = (K, R, I, J)) : pmE g kLa_shift (d + 1) 0 0 0 [(0, .int y0), (1, .long y1), (3, .long y3)] [] (K) R I J o Z := by
  unfold pLa_shift at hp
  refine pm_lload_n dLa_shift_0 rfl ?_
  refine pm_lstore dLa_shift_1 (by decide) rfl ?_
  refine pm_iconst (v := 0) dLa_shift_3 (by decide) ?_
  refine pm_istore dLa_shift_4 (by decide) rfl ?_
  refine pm_wk [2, 3, 4, 1, 0] rfl ?_
  exact La_shift_n6 g d K R I J _ _  n6 _ _ _ _ _ hp (ho.trans (by first | rfl | (simp only [fLa_shift]; done) | (simp only [fLa_shift]; rfl))) (hz.trans (by first | rfl | (simp only [fLa_shift]; done) | (simp only [fLa_shift]; rfl)))
set_option maxHeartbeats 4000000 in
set_option maxRecDepth 100000 in
theorem La_shift_ok (g : pmG) (d : Nat) (K : List (Nat × Nat)) (R : Nat → Nat → Value) (n6 : Nat) (x0 : Int32) (x1 : Int64) (x2 : Int64) (I : Nat → Nat → Int32) (J : Nat → Nat → Int64) (hp : pLa_shift n6 x0 x1 x2) : pmC g kLa_shift (d + 1) 0 0 [.int x0, .long x1, .long x2] (K, R, I, J) (.returned (some (.long (fLa_shift n6 x0 x1 x2)))) (K, R, I, J) :=
  pmC.of (by decide) (Nat.le_of_ble_eq_true rfl) (La_shift_n0 g d K R I J _ _ n6 x0 x1 x2  hp rfl rfl)
def fLa_times_6  : Nat → Int64 → Int64 → Int64 → Int32 → Int64
  | 0, _, _, _, _ => 0
  | n + 1, y0, y2, y4, y6 =>
  if (8 : Int32) ≤ y6 then y4
  else fLa_times_6 n y0 y2 ((fLa_plus y4 ((fLa_pick (((y2.toUInt64 >>> (((y6 : Int32)).toInt64.toUInt64 &&& Int64.toUInt64 63)).toInt64) &&& (72340172838076673 : Int64)) ((y0 <<< (((y6 : Int32)).toInt64 &&& 63)) &&& ((fLa_all (((255 : Int32) <<< (y6 &&& 31)) &&& (255 : Int32))))) (0 : Int64))))) (y6 + Int32.ofInt 1)
def pLa_times_6  : Nat → Int64 → Int64 → Int64 → Int32 → Prop
  | 0, _, _, _, _ => False
  | n + 1, y0, y2, y4, y6 =>
  ((8 : Int32) ≤ y6 → True) ∧
  (¬ ((8 : Int32) ≤ y6) → (pLa_all (((255 : Int32) <<< (y6 &&& 31)) &&& (255 : Int32))) ∧ ((pLa_pick (((y2.toUInt64 >>> (((y6 : Int32)).toInt64.toUInt64 &&& Int64.toUInt64 63)).toInt64) &&& (72340172838076673 : Int64)) ((y0 <<< (((y6 : Int32)).toInt64 &&& 63)) &&& ((fLa_all (((255 : Int32) <<< (y6 &&& 31)) &&& (255 : Int32))))) (0 : Int64)) ∧ ((pLa_plus y4 ((fLa_pick (((y2.toUInt64 >>> (((y6 : Int32)).toInt64.toUInt64 &&& Int64.toUInt64 63)).toInt64) &&& (72340172838076673 : Int64)) ((y0 <<< (((y6 : Int32)).toInt64 &&& 63)) &&& ((fLa_all (((255 : Int32) <<< (y6 &&& 31)) &&& (255 : Int32))))) (0 : Int64)))) ∧ (pLa_times_6 n y0 y2 ((fLa_plus y4 ((fLa_pick (((y2.toUInt64 >>> (((y6 : Int32)).toInt64.toUInt64 &&& Int64.toUInt64 63)).toInt64) &&& (72340172838076673 : Int64)) ((y0 <<< (((y6 : Int32)).toInt64 &&& 63)) &&& ((fLa_all (((255 : Int32) <<< (y6 &&& 31)) &&& (255 : Int32))))) (0 : Int64))))) (y6 + Int32.ofInt 1)))))
def fLa_times (n6 : Nat) (y0 : Int64) (y2 : Int64) : Int64 :=
  fLa_times_6 n6 y0 y2 (0 : Int64) (0 : Int32)
def pLa_times (n6 : Nat) (y0 : Int64) (y2 : Int64) : Prop :=
  pLa_times_6 n6 y0 y2 (0 : Int64) (0 : Int32)
set_option maxHeartbeats 4000000 in
set_option maxRecDepth 100000 in
theorem La_times_n6 (g : pmG) (d : Nat) (K : List (Nat × Nat)) (R : Nat → Nat → Value) (I : Nat → Nat → Int32) (J : Nat → Nat → Int64) (o : Outcome) (Z : pmM)  : ∀ (n : Nat) (y0 : Int64) (y2 : Int64) (y4 : Int64) (y6 : Int32), pLa_times_6 n y0 y2 y4 y6 → o = .returned (some (.long (fLa_times_6 n y0 y2 y4 y6))) → Z = (K, R, I, J) → pmE g kLa_times (d + 1) 0 0 6 [(0, .long y0), (2, .long y2), (4, .long y4), (6, .int y6)] [] (K) R I J o Z := by
  intro n
  induction n with
  | zero => intro y0 y2 y4 y6 hp; exact False.elim hp
  | succ n ih =>
  intro y0 y2 y4 y6 hp ho hz
  simp only [pLa_times_6] at hp
  refine pm_iload dLa_times_6 rfl ?_
  refine pm_bipush (v := 8) dLa_times_8 (by decide) ?_
  refine pm_icmp_ge 60 dLa_times_10 (by decide) (fun h10 => ?_) (fun h10 => ?_)
  ·
    refine pm_lload dLa_times_60 rfl ?_
    exact pm_lret dLa_times_62 rfl (ho.trans (by first | (simp only [fLa_times_6, if_pos h10]; done) | (simp only [fLa_times_6, if_pos h10]; rfl) | rfl)) (hz.trans (by first | (simp only [fLa_times_6, if_pos h10]; done) | (simp only [fLa_times_6, if_pos h10]; rfl) | rfl))
  ·
    refine pm_lload_n dLa_times_13 rfl ?_
    refine pm_iload dLa_times_14 rfl ?_
    refine pm_lshl dLa_times_16 ?_
    refine pm_sipush (v := 255) dLa_times_17 (by decide) ?_
    refine pm_iload dLa_times_20 rfl ?_
    refine pm_ishl dLa_times_22 ?_
    refine pm_sipush (v := 255) dLa_times_23 (by decide) ?_
    refine pm_iand dLa_times_26 ?_
    refine pm_callS dLa_times_27 lLa_47 tLa_all (La_all_ok _ _ _ _ _ _ _ (hp.2 h10).1) rfl rfl (Nat.le_of_ble_eq_true rfl) (Nat.le_refl _) (Nat.le_refl _) ?_
    refine pm_land dLa_times_30 ?_
    refine pm_lstore dLa_times_31 (by decide) rfl ?_
    refine pm_lload dLa_times_33 rfl ?_
    refine pm_lload_n dLa_times_35 rfl ?_
    refine pm_iload dLa_times_36 rfl ?_
    refine pm_lushr dLa_times_38 ?_
    refine pm_ldc2 dLa_times_39 cLa_11 ?_
    refine pm_land dLa_times_42 ?_
    refine pm_lload dLa_times_43 rfl ?_
    refine pm_lconst (v := 0) dLa_times_45 (by decide) ?_
    refine pm_callS dLa_times_46 lLa_39 tLa_pick (La_pick_ok _ _ _ _ _ _ _ _ _ (hp.2 h10).2.1) rfl rfl (Nat.le_of_ble_eq_true rfl) (Nat.le_refl _) (Nat.le_refl _) ?_
    refine pm_callS dLa_times_49 lLa_28 tLa_plus (La_plus_ok _ _ _ _ _ _ _ _ (hp.2 h10).2.2.1) rfl rfl (Nat.le_of_ble_eq_true rfl) (Nat.le_refl _) (Nat.le_refl _) ?_
    refine pm_lstore dLa_times_52 (by decide) rfl ?_
    refine pm_iinc dLa_times_54 rfl (by decide) rfl ?_
    refine pm_goto 6 dLa_times_57 (by decide) ?_
    refine pm_wk [3, 4, 1, 0] rfl ?_
    exact ih _ _ _ _ (hp.2 h10).2.2.2 (ho.trans (by first | (simp only [fLa_times_6, if_neg h10]; done) | (simp only [fLa_times_6, if_neg h10]; rfl) | rfl)) (hz.trans (by first | (simp only [fLa_times_6, if_neg h10]; done) | (simp only [fLa_times_6, if_neg h10]; rfl) | rfl))
set_option maxHeartbeats 4000000 in
set_option maxRecDepth 100000 in
theorem La_times_n0 (g : pmG) (d : Nat) (K : List (Nat × Nat)) (R : Nat → Nat → Value) (I : Nat → Nat → Int32) (J : Nat → Nat → Int64) (o : Outcome) (Z : pmM) (n6 : Nat) (y0 : Int64) (y2 : Int64) (hp : pLa_times n6 y0 y2) (ho : o = .returned (some (.long (fLa_times n6 y0 y2)))) (hz : Z = (K, R, I, J)) : pmE g kLa_times (d + 1) 0 0 0 [(0, .long y0), (2, .long y2)] [] (K) R I J o Z := by
  unfold pLa_times at hp
  refine pm_lconst (v := 0) dLa_times_0 (by decide) ?_
  refine pm_lstore dLa_times_1 (by decide) rfl ?_
  refine pm_iconst (v := 0) dLa_times_3 (by decide) ?_
  refine pm_istore dLa_times_4 (by decide) rfl ?_
  refine pm_wk [2, 3, 1, 0] rfl ?_
  exact La_times_n6 g d K R I J _ _  n6 _ _ _ _ hp (ho.trans (by first | rfl | (simp only [fLa_times]; done) | (simp only [fLa_times]; rfl))) (hz.trans (by first | rfl | (simp only [fLa_times]; done) | (simp only [fLa_times]; rfl)))
set_option maxHeartbeats 4000000 in
set_option maxRecDepth 100000 in
theorem La_times_ok (g : pmG) (d : Nat) (K : List (Nat × Nat)) (R : Nat → Nat → Value) (n6 : Nat) (x0 : Int64) (x1 : Int64) (I : Nat → Nat → Int32) (J : Nat → Nat → Int64) (hp : pLa_times n6 x0 x1) : pmC g kLa_times (d + 1) 0 0 [.long x0, .long x1] (K, R, I, J) (.returned (some (.long (fLa_times n6 x0 x1)))) (K, R, I, J) :=
  pmC.of (by decide) (Nat.le_of_ble_eq_true rfl) (La_times_n0 g d K R I J _ _ n6 x0 x1  hp rfl rfl)
def fLa_join  (y0 : Int32) (y1 : Int64) (y3 : Int64) : Int64 :=
  if y0 = 10 then (fLa_less y1 y3)
  else if y0 = 11 then (fLa_less y3 y1)
  else if y0 = 12 then (fLa_plus y1 y3)
  else if y0 = 13 then (fLa_minus y1 y3)
  else if y0 = 14 then (fLa_times 9 y1 y3)
  else if y0 = 15 then y1 &&& y3
  else if y0 = 16 then y1 ||| y3
  else if y0 = 17 then y1 ^^^ y3
  else if y0 = 18 then (fLa_times 9 y1 y3)
  else if y0 = 19 then (fLa_times 9 y1 y3)
  else if y0 = 20 then (fLa_not (y1 ^^^ y3))
  else if y0 = 21 then (fLa_truth (y1 ^^^ y3))
  else if y0 = 22 then (fLa_not ((fLa_less y3 y1)))
  else if y0 = 23 then (fLa_not ((fLa_less y1 y3)))
  else if y0 = 24 then (fLa_shift 4 (1 : Int32) y1 y3)
  else if y0 = 25 then (fLa_shift 4 (0 : Int32) y1 y3)
  else if y0 = 26 then ((fLa_truth y1)) &&& ((fLa_truth y3))
  else if y0 = 27 then (fLa_truth (y1 ||| y3))
  else (fLa_times 9 y1 y3)
def pLa_join  (y0 : Int32) (y1 : Int64) (y3 : Int64) : Prop :=
  (y0 = 10 → (pLa_less y1 y3) ∧ True) ∧
  (¬ (y0 = 10) → (y0 = 11 → (pLa_less y3 y1) ∧ True) ∧
  (¬ (y0 = 11) → (y0 = 12 → (pLa_plus y1 y3) ∧ True) ∧
  (¬ (y0 = 12) → (y0 = 13 → (pLa_minus y1 y3) ∧ True) ∧
  (¬ (y0 = 13) → (y0 = 14 → (pLa_times 9 y1 y3) ∧ True) ∧
  (¬ (y0 = 14) → (y0 = 15 → True) ∧
  (¬ (y0 = 15) → (y0 = 16 → True) ∧
  (¬ (y0 = 16) → (y0 = 17 → True) ∧
  (¬ (y0 = 17) → (y0 = 18 → (pLa_times 9 y1 y3) ∧ True) ∧
  (¬ (y0 = 18) → (y0 = 19 → (pLa_times 9 y1 y3) ∧ True) ∧
  (¬ (y0 = 19) → (y0 = 20 → (pLa_not (y1 ^^^ y3)) ∧ True) ∧
  (¬ (y0 = 20) → (y0 = 21 → (pLa_truth (y1 ^^^ y3)) ∧ True) ∧
  (¬ (y0 = 21) → (y0 = 22 → (pLa_less y3 y1) ∧ ((pLa_not ((fLa_less y3 y1))) ∧ True)) ∧
  (¬ (y0 = 22) → (y0 = 23 → (pLa_less y1 y3) ∧ ((pLa_not ((fLa_less y1 y3))) ∧ True)) ∧
  (¬ (y0 = 23) → (y0 = 24 → (pLa_shift 4 (1 : Int32) y1 y3) ∧ True) ∧
  (¬ (y0 = 24) → (y0 = 25 → (pLa_shift 4 (0 : Int32) y1 y3) ∧ True) ∧
  (¬ (y0 = 25) → (y0 = 26 → (pLa_truth y1) ∧ ((pLa_truth y3) ∧ True)) ∧
  (¬ (y0 = 26) → (y0 = 27 → (pLa_truth (y1 ||| y3)) ∧ True) ∧
  (¬ (y0 = 27) → (pLa_times 9 y1 y3) ∧ True))))))))))))))))))
set_option maxHeartbeats 4000000 in
set_option maxRecDepth 100000 in
theorem La_join_n0 (g : pmG) (d : Nat) (K : List (Nat × Nat)) (R : Nat → Nat → Value) (I : Nat → Nat → Int32) (J : Nat → Nat → Int64) (o : Outcome) (Z : pmM)  (y0 : Int32) (y1 : Int64) (y3 : Int64) (hp : pLa_join y0 y1 y3) (ho : o = .returned (some (.long (fLa_join y0 y1 y3)))) (hz : Z = (K, R, I, J)) : pmE g kLa_join (d + 2) 0 0 0 [(0, .int y0), (1, .long y1), (3, .long y3)] [] (K) R I J o Z := by
  unfold pLa_join at hp
  refine pm_iload_n dLa_join_0 rfl ?_
  by_cases h1_10 : y0 = 10
  ·
    refine pm_tableIn 131 dLa_join_1 (by rw [h1_10]; decide) (by rw [h1_10]; decide) (by first | (rw [h1_10]; rfl) | rw [h1_10]) (by decide) ?_
    refine pm_lload_n dLa_join_131 rfl ?_
    refine pm_lload_n dLa_join_132 rfl ?_
    refine pm_callS dLa_join_133 lLa_20 tLa_less (La_less_ok _ _ _ _ _ _ _ _ (hp.1 h1_10).1) rfl rfl (Nat.le_of_ble_eq_true rfl) (Nat.le_refl _) (Nat.le_refl _) ?_
    exact pm_lret dLa_join_136 rfl (ho.trans (by first | (simp only [fLa_join, if_pos h1_10]; done) | (simp only [fLa_join, if_pos h1_10]; rfl) | rfl)) (hz.trans (by first | (simp only [fLa_join, if_pos h1_10]; done) | (simp only [fLa_join, if_pos h1_10]; rfl) | rfl))
  ·
    by_cases h1_11 : y0 = 11
    ·
      refine pm_tableIn 137 dLa_join_1 (by rw [h1_11]; decide) (by rw [h1_11]; decide) (by first | (rw [h1_11]; rfl) | rw [h1_11]) (by decide) ?_
      refine pm_lload_n dLa_join_137 rfl ?_
      refine pm_lload_n dLa_join_138 rfl ?_
      refine pm_callS dLa_join_139 lLa_20 tLa_less (La_less_ok _ _ _ _ _ _ _ _ ((hp.2 h1_10).1 h1_11).1) rfl rfl (Nat.le_of_ble_eq_true rfl) (Nat.le_refl _) (Nat.le_refl _) ?_
      exact pm_lret dLa_join_142 rfl (ho.trans (by first | (simp only [fLa_join, if_neg h1_10, if_pos h1_11]; done) | (simp only [fLa_join, if_neg h1_10, if_pos h1_11]; rfl) | rfl)) (hz.trans (by first | (simp only [fLa_join, if_neg h1_10, if_pos h1_11]; done) | (simp only [fLa_join, if_neg h1_10, if_pos h1_11]; rfl) | rfl))
    ·
      by_cases h1_12 : y0 = 12
      ·
        refine pm_tableIn 175 dLa_join_1 (by rw [h1_12]; decide) (by rw [h1_12]; decide) (by first | (rw [h1_12]; rfl) | rw [h1_12]) (by decide) ?_
        refine pm_lload_n dLa_join_175 rfl ?_
        refine pm_lload_n dLa_join_176 rfl ?_
        refine pm_callS dLa_join_177 lLa_28 tLa_plus (La_plus_ok _ _ _ _ _ _ _ _ (((hp.2 h1_10).2 h1_11).1 h1_12).1) rfl rfl (Nat.le_of_ble_eq_true rfl) (Nat.le_refl _) (Nat.le_refl _) ?_
        exact pm_lret dLa_join_180 rfl (ho.trans (by first | (simp only [fLa_join, if_neg h1_10, if_neg h1_11, if_pos h1_12]; done) | (simp only [fLa_join, if_neg h1_10, if_neg h1_11, if_pos h1_12]; rfl) | rfl)) (hz.trans (by first | (simp only [fLa_join, if_neg h1_10, if_neg h1_11, if_pos h1_12]; done) | (simp only [fLa_join, if_neg h1_10, if_neg h1_11, if_pos h1_12]; rfl) | rfl))
      ·
        by_cases h1_13 : y0 = 13
        ·
          refine pm_tableIn 181 dLa_join_1 (by rw [h1_13]; decide) (by rw [h1_13]; decide) (by first | (rw [h1_13]; rfl) | rw [h1_13]) (by decide) ?_
          refine pm_lload_n dLa_join_181 rfl ?_
          refine pm_lload_n dLa_join_182 rfl ?_
          refine pm_callS dLa_join_183 lLa_31 tLa_minus (La_minus_ok _ _ _ _ _ _ _ _ ((((hp.2 h1_10).2 h1_11).2 h1_12).1 h1_13).1) rfl rfl (Nat.le_of_ble_eq_true rfl) (Nat.le_refl _) (Nat.le_refl _) ?_
          exact pm_lret dLa_join_186 rfl (ho.trans (by first | (simp only [fLa_join, if_neg h1_10, if_neg h1_11, if_neg h1_12, if_pos h1_13]; done) | (simp only [fLa_join, if_neg h1_10, if_neg h1_11, if_neg h1_12, if_pos h1_13]; rfl) | rfl)) (hz.trans (by first | (simp only [fLa_join, if_neg h1_10, if_neg h1_11, if_neg h1_12, if_pos h1_13]; done) | (simp only [fLa_join, if_neg h1_10, if_neg h1_11, if_neg h1_12, if_pos h1_13]; rfl) | rfl))
        ·
          by_cases h1_14 : y0 = 14
          ·
            refine pm_tableIn 187 dLa_join_1 (by rw [h1_14]; decide) (by rw [h1_14]; decide) (by first | (rw [h1_14]; rfl) | rw [h1_14]) (by decide) ?_
            refine pm_lload_n dLa_join_187 rfl ?_
            refine pm_lload_n dLa_join_188 rfl ?_
            refine pm_callS dLa_join_189 lLa_34 tLa_times (La_times_ok _ _ _ _ _ _ _ _ _ (((((hp.2 h1_10).2 h1_11).2 h1_12).2 h1_13).1 h1_14).1) rfl rfl (Nat.le_of_ble_eq_true rfl) (Nat.le_refl _) (Nat.le_refl _) ?_
            exact pm_lret dLa_join_192 rfl (ho.trans (by first | (simp only [fLa_join, if_neg h1_10, if_neg h1_11, if_neg h1_12, if_neg h1_13, if_pos h1_14]; done) | (simp only [fLa_join, if_neg h1_10, if_neg h1_11, if_neg h1_12, if_neg h1_13, if_pos h1_14]; rfl) | rfl)) (hz.trans (by first | (simp only [fLa_join, if_neg h1_10, if_neg h1_11, if_neg h1_12, if_neg h1_13, if_pos h1_14]; done) | (simp only [fLa_join, if_neg h1_10, if_neg h1_11, if_neg h1_12, if_neg h1_13, if_pos h1_14]; rfl) | rfl))
          ·
            by_cases h1_15 : y0 = 15
            ·
              refine pm_tableIn 113 dLa_join_1 (by rw [h1_15]; decide) (by rw [h1_15]; decide) (by first | (rw [h1_15]; rfl) | rw [h1_15]) (by decide) ?_
              refine pm_lload_n dLa_join_113 rfl ?_
              refine pm_lload_n dLa_join_114 rfl ?_
              refine pm_land dLa_join_115 ?_
              exact pm_lret dLa_join_116 rfl (ho.trans (by first | (simp only [fLa_join, if_neg h1_10, if_neg h1_11, if_neg h1_12, if_neg h1_13, if_neg h1_14, if_pos h1_15]; done) | (simp only [fLa_join, if_neg h1_10, if_neg h1_11, if_neg h1_12, if_neg h1_13, if_neg h1_14, if_pos h1_15]; rfl) | rfl)) (hz.trans (by first | (simp only [fLa_join, if_neg h1_10, if_neg h1_11, if_neg h1_12, if_neg h1_13, if_neg h1_14, if_pos h1_15]; done) | (simp only [fLa_join, if_neg h1_10, if_neg h1_11, if_neg h1_12, if_neg h1_13, if_neg h1_14, if_pos h1_15]; rfl) | rfl))
            ·
              by_cases h1_16 : y0 = 16
              ·
                refine pm_tableIn 105 dLa_join_1 (by rw [h1_16]; decide) (by rw [h1_16]; decide) (by first | (rw [h1_16]; rfl) | rw [h1_16]) (by decide) ?_
                refine pm_lload_n dLa_join_105 rfl ?_
                refine pm_lload_n dLa_join_106 rfl ?_
                refine pm_lor dLa_join_107 ?_
                exact pm_lret dLa_join_108 rfl (ho.trans (by first | (simp only [fLa_join, if_neg h1_10, if_neg h1_11, if_neg h1_12, if_neg h1_13, if_neg h1_14, if_neg h1_15, if_pos h1_16]; done) | (simp only [fLa_join, if_neg h1_10, if_neg h1_11, if_neg h1_12, if_neg h1_13, if_neg h1_14, if_neg h1_15, if_pos h1_16]; rfl) | rfl)) (hz.trans (by first | (simp only [fLa_join, if_neg h1_10, if_neg h1_11, if_neg h1_12, if_neg h1_13, if_neg h1_14, if_neg h1_15, if_pos h1_16]; done) | (simp only [fLa_join, if_neg h1_10, if_neg h1_11, if_neg h1_12, if_neg h1_13, if_neg h1_14, if_neg h1_15, if_pos h1_16]; rfl) | rfl))
              ·
                by_cases h1_17 : y0 = 17
                ·
                  refine pm_tableIn 109 dLa_join_1 (by rw [h1_17]; decide) (by rw [h1_17]; decide) (by first | (rw [h1_17]; rfl) | rw [h1_17]) (by decide) ?_
                  refine pm_lload_n dLa_join_109 rfl ?_
                  refine pm_lload_n dLa_join_110 rfl ?_
                  refine pm_lxor dLa_join_111 ?_
                  exact pm_lret dLa_join_112 rfl (ho.trans (by first | (simp only [fLa_join, if_neg h1_10, if_neg h1_11, if_neg h1_12, if_neg h1_13, if_neg h1_14, if_neg h1_15, if_neg h1_16, if_pos h1_17]; done) | (simp only [fLa_join, if_neg h1_10, if_neg h1_11, if_neg h1_12, if_neg h1_13, if_neg h1_14, if_neg h1_15, if_neg h1_16, if_pos h1_17]; rfl) | rfl)) (hz.trans (by first | (simp only [fLa_join, if_neg h1_10, if_neg h1_11, if_neg h1_12, if_neg h1_13, if_neg h1_14, if_neg h1_15, if_neg h1_16, if_pos h1_17]; done) | (simp only [fLa_join, if_neg h1_10, if_neg h1_11, if_neg h1_12, if_neg h1_13, if_neg h1_14, if_neg h1_15, if_neg h1_16, if_pos h1_17]; rfl) | rfl))
                ·
                  by_cases h1_18 : y0 = 18
                  ·
                    refine pm_tableIn 187 dLa_join_1 (by rw [h1_18]; decide) (by rw [h1_18]; decide) (by first | (rw [h1_18]; rfl) | rw [h1_18]) (by decide) ?_
                    refine pm_lload_n dLa_join_187 rfl ?_
                    refine pm_lload_n dLa_join_188 rfl ?_
                    refine pm_callS dLa_join_189 lLa_34 tLa_times (La_times_ok _ _ _ _ _ _ _ _ _ (((((((((hp.2 h1_10).2 h1_11).2 h1_12).2 h1_13).2 h1_14).2 h1_15).2 h1_16).2 h1_17).1 h1_18).1) rfl rfl (Nat.le_of_ble_eq_true rfl) (Nat.le_refl _) (Nat.le_refl _) ?_
                    exact pm_lret dLa_join_192 rfl (ho.trans (by first | (simp only [fLa_join, if_neg h1_10, if_neg h1_11, if_neg h1_12, if_neg h1_13, if_neg h1_14, if_neg h1_15, if_neg h1_16, if_neg h1_17, if_pos h1_18]; done) | (simp only [fLa_join, if_neg h1_10, if_neg h1_11, if_neg h1_12, if_neg h1_13, if_neg h1_14, if_neg h1_15, if_neg h1_16, if_neg h1_17, if_pos h1_18]; rfl) | rfl)) (hz.trans (by first | (simp only [fLa_join, if_neg h1_10, if_neg h1_11, if_neg h1_12, if_neg h1_13, if_neg h1_14, if_neg h1_15, if_neg h1_16, if_neg h1_17, if_pos h1_18]; done) | (simp only [fLa_join, if_neg h1_10, if_neg h1_11, if_neg h1_12, if_neg h1_13, if_neg h1_14, if_neg h1_15, if_neg h1_16, if_neg h1_17, if_pos h1_18]; rfl) | rfl))
                  ·
                    by_cases h1_19 : y0 = 19
                    ·
                      refine pm_tableIn 187 dLa_join_1 (by rw [h1_19]; decide) (by rw [h1_19]; decide) (by first | (rw [h1_19]; rfl) | rw [h1_19]) (by decide) ?_
                      refine pm_lload_n dLa_join_187 rfl ?_
                      refine pm_lload_n dLa_join_188 rfl ?_
                      refine pm_callS dLa_join_189 lLa_34 tLa_times (La_times_ok _ _ _ _ _ _ _ _ _ ((((((((((hp.2 h1_10).2 h1_11).2 h1_12).2 h1_13).2 h1_14).2 h1_15).2 h1_16).2 h1_17).2 h1_18).1 h1_19).1) rfl rfl (Nat.le_of_ble_eq_true rfl) (Nat.le_refl _) (Nat.le_refl _) ?_
                      exact pm_lret dLa_join_192 rfl (ho.trans (by first | (simp only [fLa_join, if_neg h1_10, if_neg h1_11, if_neg h1_12, if_neg h1_13, if_neg h1_14, if_neg h1_15, if_neg h1_16, if_neg h1_17, if_neg h1_18, if_pos h1_19]; done) | (simp only [fLa_join, if_neg h1_10, if_neg h1_11, if_neg h1_12, if_neg h1_13, if_neg h1_14, if_neg h1_15, if_neg h1_16, if_neg h1_17, if_neg h1_18, if_pos h1_19]; rfl) | rfl)) (hz.trans (by first | (simp only [fLa_join, if_neg h1_10, if_neg h1_11, if_neg h1_12, if_neg h1_13, if_neg h1_14, if_neg h1_15, if_neg h1_16, if_neg h1_17, if_neg h1_18, if_pos h1_19]; done) | (simp only [fLa_join, if_neg h1_10, if_neg h1_11, if_neg h1_12, if_neg h1_13, if_neg h1_14, if_neg h1_15, if_neg h1_16, if_neg h1_17, if_neg h1_18, if_pos h1_19]; rfl) | rfl))
                    ·
                      by_cases h1_20 : y0 = 20
                      ·
                        refine pm_tableIn 117 dLa_join_1 (by rw [h1_20]; decide) (by rw [h1_20]; decide) (by first | (rw [h1_20]; rfl) | rw [h1_20]) (by decide) ?_
                        refine pm_lload_n dLa_join_117 rfl ?_
                        refine pm_lload_n dLa_join_118 rfl ?_
                        refine pm_lxor dLa_join_119 ?_
                        refine pm_callS dLa_join_120 lLa_17 tLa_not (La_not_ok _ _ _ _ _ _ _ (((((((((((hp.2 h1_10).2 h1_11).2 h1_12).2 h1_13).2 h1_14).2 h1_15).2 h1_16).2 h1_17).2 h1_18).2 h1_19).1 h1_20).1) rfl rfl (Nat.le_of_ble_eq_true rfl) (Nat.le_refl _) (Nat.le_refl _) ?_
                        exact pm_lret dLa_join_123 rfl (ho.trans (by first | (simp only [fLa_join, if_neg h1_10, if_neg h1_11, if_neg h1_12, if_neg h1_13, if_neg h1_14, if_neg h1_15, if_neg h1_16, if_neg h1_17, if_neg h1_18, if_neg h1_19, if_pos h1_20]; done) | (simp only [fLa_join, if_neg h1_10, if_neg h1_11, if_neg h1_12, if_neg h1_13, if_neg h1_14, if_neg h1_15, if_neg h1_16, if_neg h1_17, if_neg h1_18, if_neg h1_19, if_pos h1_20]; rfl) | rfl)) (hz.trans (by first | (simp only [fLa_join, if_neg h1_10, if_neg h1_11, if_neg h1_12, if_neg h1_13, if_neg h1_14, if_neg h1_15, if_neg h1_16, if_neg h1_17, if_neg h1_18, if_neg h1_19, if_pos h1_20]; done) | (simp only [fLa_join, if_neg h1_10, if_neg h1_11, if_neg h1_12, if_neg h1_13, if_neg h1_14, if_neg h1_15, if_neg h1_16, if_neg h1_17, if_neg h1_18, if_neg h1_19, if_pos h1_20]; rfl) | rfl))
                      ·
                        by_cases h1_21 : y0 = 21
                        ·
                          refine pm_tableIn 124 dLa_join_1 (by rw [h1_21]; decide) (by rw [h1_21]; decide) (by first | (rw [h1_21]; rfl) | rw [h1_21]) (by decide) ?_
                          refine pm_lload_n dLa_join_124 rfl ?_
                          refine pm_lload_n dLa_join_125 rfl ?_
                          refine pm_lxor dLa_join_126 ?_
                          refine pm_callS dLa_join_127 lLa_13 tLa_truth (La_truth_ok _ _ _ _ _ _ _ ((((((((((((hp.2 h1_10).2 h1_11).2 h1_12).2 h1_13).2 h1_14).2 h1_15).2 h1_16).2 h1_17).2 h1_18).2 h1_19).2 h1_20).1 h1_21).1) rfl rfl (Nat.le_of_ble_eq_true rfl) (Nat.le_refl _) (Nat.le_refl _) ?_
                          exact pm_lret dLa_join_130 rfl (ho.trans (by first | (simp only [fLa_join, if_neg h1_10, if_neg h1_11, if_neg h1_12, if_neg h1_13, if_neg h1_14, if_neg h1_15, if_neg h1_16, if_neg h1_17, if_neg h1_18, if_neg h1_19, if_neg h1_20, if_pos h1_21]; done) | (simp only [fLa_join, if_neg h1_10, if_neg h1_11, if_neg h1_12, if_neg h1_13, if_neg h1_14, if_neg h1_15, if_neg h1_16, if_neg h1_17, if_neg h1_18, if_neg h1_19, if_neg h1_20, if_pos h1_21]; rfl) | rfl)) (hz.trans (by first | (simp only [fLa_join, if_neg h1_10, if_neg h1_11, if_neg h1_12, if_neg h1_13, if_neg h1_14, if_neg h1_15, if_neg h1_16, if_neg h1_17, if_neg h1_18, if_neg h1_19, if_neg h1_20, if_pos h1_21]; done) | (simp only [fLa_join, if_neg h1_10, if_neg h1_11, if_neg h1_12, if_neg h1_13, if_neg h1_14, if_neg h1_15, if_neg h1_16, if_neg h1_17, if_neg h1_18, if_neg h1_19, if_neg h1_20, if_pos h1_21]; rfl) | rfl))
                        ·
                          by_cases h1_22 : y0 = 22
                          ·
                            refine pm_tableIn 143 dLa_join_1 (by rw [h1_22]; decide) (by rw [h1_22]; decide) (by first | (rw [h1_22]; rfl) | rw [h1_22]) (by decide) ?_
                            refine pm_lload_n dLa_join_143 rfl ?_
                            refine pm_lload_n dLa_join_144 rfl ?_
                            refine pm_callS dLa_join_145 lLa_20 tLa_less (La_less_ok _ _ _ _ _ _ _ _ (((((((((((((hp.2 h1_10).2 h1_11).2 h1_12).2 h1_13).2 h1_14).2 h1_15).2 h1_16).2 h1_17).2 h1_18).2 h1_19).2 h1_20).2 h1_21).1 h1_22).1) rfl rfl (Nat.le_of_ble_eq_true rfl) (Nat.le_refl _) (Nat.le_refl _) ?_
                            refine pm_callS dLa_join_148 lLa_17 tLa_not (La_not_ok _ _ _ _ _ _ _ (((((((((((((hp.2 h1_10).2 h1_11).2 h1_12).2 h1_13).2 h1_14).2 h1_15).2 h1_16).2 h1_17).2 h1_18).2 h1_19).2 h1_20).2 h1_21).1 h1_22).2.1) rfl rfl (Nat.le_of_ble_eq_true rfl) (Nat.le_refl _) (Nat.le_refl _) ?_
                            exact pm_lret dLa_join_151 rfl (ho.trans (by first | (simp only [fLa_join, if_neg h1_10, if_neg h1_11, if_neg h1_12, if_neg h1_13, if_neg h1_14, if_neg h1_15, if_neg h1_16, if_neg h1_17, if_neg h1_18, if_neg h1_19, if_neg h1_20, if_neg h1_21, if_pos h1_22]; done) | (simp only [fLa_join, if_neg h1_10, if_neg h1_11, if_neg h1_12, if_neg h1_13, if_neg h1_14, if_neg h1_15, if_neg h1_16, if_neg h1_17, if_neg h1_18, if_neg h1_19, if_neg h1_20, if_neg h1_21, if_pos h1_22]; rfl) | rfl)) (hz.trans (by first | (simp only [fLa_join, if_neg h1_10, if_neg h1_11, if_neg h1_12, if_neg h1_13, if_neg h1_14, if_neg h1_15, if_neg h1_16, if_neg h1_17, if_neg h1_18, if_neg h1_19, if_neg h1_20, if_neg h1_21, if_pos h1_22]; done) | (simp only [fLa_join, if_neg h1_10, if_neg h1_11, if_neg h1_12, if_neg h1_13, if_neg h1_14, if_neg h1_15, if_neg h1_16, if_neg h1_17, if_neg h1_18, if_neg h1_19, if_neg h1_20, if_neg h1_21, if_pos h1_22]; rfl) | rfl))
                          ·
                            by_cases h1_23 : y0 = 23
                            ·
                              refine pm_tableIn 152 dLa_join_1 (by rw [h1_23]; decide) (by rw [h1_23]; decide) (by first | (rw [h1_23]; rfl) | rw [h1_23]) (by decide) ?_
                              refine pm_lload_n dLa_join_152 rfl ?_
                              refine pm_lload_n dLa_join_153 rfl ?_
                              refine pm_callS dLa_join_154 lLa_20 tLa_less (La_less_ok _ _ _ _ _ _ _ _ ((((((((((((((hp.2 h1_10).2 h1_11).2 h1_12).2 h1_13).2 h1_14).2 h1_15).2 h1_16).2 h1_17).2 h1_18).2 h1_19).2 h1_20).2 h1_21).2 h1_22).1 h1_23).1) rfl rfl (Nat.le_of_ble_eq_true rfl) (Nat.le_refl _) (Nat.le_refl _) ?_
                              refine pm_callS dLa_join_157 lLa_17 tLa_not (La_not_ok _ _ _ _ _ _ _ ((((((((((((((hp.2 h1_10).2 h1_11).2 h1_12).2 h1_13).2 h1_14).2 h1_15).2 h1_16).2 h1_17).2 h1_18).2 h1_19).2 h1_20).2 h1_21).2 h1_22).1 h1_23).2.1) rfl rfl (Nat.le_of_ble_eq_true rfl) (Nat.le_refl _) (Nat.le_refl _) ?_
                              exact pm_lret dLa_join_160 rfl (ho.trans (by first | (simp only [fLa_join, if_neg h1_10, if_neg h1_11, if_neg h1_12, if_neg h1_13, if_neg h1_14, if_neg h1_15, if_neg h1_16, if_neg h1_17, if_neg h1_18, if_neg h1_19, if_neg h1_20, if_neg h1_21, if_neg h1_22, if_pos h1_23]; done) | (simp only [fLa_join, if_neg h1_10, if_neg h1_11, if_neg h1_12, if_neg h1_13, if_neg h1_14, if_neg h1_15, if_neg h1_16, if_neg h1_17, if_neg h1_18, if_neg h1_19, if_neg h1_20, if_neg h1_21, if_neg h1_22, if_pos h1_23]; rfl) | rfl)) (hz.trans (by first | (simp only [fLa_join, if_neg h1_10, if_neg h1_11, if_neg h1_12, if_neg h1_13, if_neg h1_14, if_neg h1_15, if_neg h1_16, if_neg h1_17, if_neg h1_18, if_neg h1_19, if_neg h1_20, if_neg h1_21, if_neg h1_22, if_pos h1_23]; done) | (simp only [fLa_join, if_neg h1_10, if_neg h1_11, if_neg h1_12, if_neg h1_13, if_neg h1_14, if_neg h1_15, if_neg h1_16, if_neg h1_17, if_neg h1_18, if_neg h1_19, if_neg h1_20, if_neg h1_21, if_neg h1_22, if_pos h1_23]; rfl) | rfl))
                            ·
                              by_cases h1_24 : y0 = 24
                              ·
                                refine pm_tableIn 161 dLa_join_1 (by rw [h1_24]; decide) (by rw [h1_24]; decide) (by first | (rw [h1_24]; rfl) | rw [h1_24]) (by decide) ?_
                                refine pm_iconst (v := 1) dLa_join_161 (by decide) ?_
                                refine pm_lload_n dLa_join_162 rfl ?_
                                refine pm_lload_n dLa_join_163 rfl ?_
                                refine pm_callS dLa_join_164 lLa_24 tLa_shift (La_shift_ok _ _ _ _ _ _ _ _ _ _ (((((((((((((((hp.2 h1_10).2 h1_11).2 h1_12).2 h1_13).2 h1_14).2 h1_15).2 h1_16).2 h1_17).2 h1_18).2 h1_19).2 h1_20).2 h1_21).2 h1_22).2 h1_23).1 h1_24).1) rfl rfl (Nat.le_of_ble_eq_true rfl) (Nat.le_refl _) (Nat.le_refl _) ?_
                                exact pm_lret dLa_join_167 rfl (ho.trans (by first | (simp only [fLa_join, if_neg h1_10, if_neg h1_11, if_neg h1_12, if_neg h1_13, if_neg h1_14, if_neg h1_15, if_neg h1_16, if_neg h1_17, if_neg h1_18, if_neg h1_19, if_neg h1_20, if_neg h1_21, if_neg h1_22, if_neg h1_23, if_pos h1_24]; done) | (simp only [fLa_join, if_neg h1_10, if_neg h1_11, if_neg h1_12, if_neg h1_13, if_neg h1_14, if_neg h1_15, if_neg h1_16, if_neg h1_17, if_neg h1_18, if_neg h1_19, if_neg h1_20, if_neg h1_21, if_neg h1_22, if_neg h1_23, if_pos h1_24]; rfl) | rfl)) (hz.trans (by first | (simp only [fLa_join, if_neg h1_10, if_neg h1_11, if_neg h1_12, if_neg h1_13, if_neg h1_14, if_neg h1_15, if_neg h1_16, if_neg h1_17, if_neg h1_18, if_neg h1_19, if_neg h1_20, if_neg h1_21, if_neg h1_22, if_neg h1_23, if_pos h1_24]; done) | (simp only [fLa_join, if_neg h1_10, if_neg h1_11, if_neg h1_12, if_neg h1_13, if_neg h1_14, if_neg h1_15, if_neg h1_16, if_neg h1_17, if_neg h1_18, if_neg h1_19, if_neg h1_20, if_neg h1_21, if_neg h1_22, if_neg h1_23, if_pos h1_24]; rfl) | rfl))
                              ·
                                by_cases h1_25 : y0 = 25
                                ·
                                  refine pm_tableIn 168 dLa_join_1 (by rw [h1_25]; decide) (by rw [h1_25]; decide) (by first | (rw [h1_25]; rfl) | rw [h1_25]) (by decide) ?_
                                  refine pm_iconst (v := 0) dLa_join_168 (by decide) ?_
                                  refine pm_lload_n dLa_join_169 rfl ?_
                                  refine pm_lload_n dLa_join_170 rfl ?_
                                  refine pm_callS dLa_join_171 lLa_24 tLa_shift (La_shift_ok _ _ _ _ _ _ _ _ _ _ ((((((((((((((((hp.2 h1_10).2 h1_11).2 h1_12).2 h1_13).2 h1_14).2 h1_15).2 h1_16).2 h1_17).2 h1_18).2 h1_19).2 h1_20).2 h1_21).2 h1_22).2 h1_23).2 h1_24).1 h1_25).1) rfl rfl (Nat.le_of_ble_eq_true rfl) (Nat.le_refl _) (Nat.le_refl _) ?_
                                  exact pm_lret dLa_join_174 rfl (ho.trans (by first | (simp only [fLa_join, if_neg h1_10, if_neg h1_11, if_neg h1_12, if_neg h1_13, if_neg h1_14, if_neg h1_15, if_neg h1_16, if_neg h1_17, if_neg h1_18, if_neg h1_19, if_neg h1_20, if_neg h1_21, if_neg h1_22, if_neg h1_23, if_neg h1_24, if_pos h1_25]; done) | (simp only [fLa_join, if_neg h1_10, if_neg h1_11, if_neg h1_12, if_neg h1_13, if_neg h1_14, if_neg h1_15, if_neg h1_16, if_neg h1_17, if_neg h1_18, if_neg h1_19, if_neg h1_20, if_neg h1_21, if_neg h1_22, if_neg h1_23, if_neg h1_24, if_pos h1_25]; rfl) | rfl)) (hz.trans (by first | (simp only [fLa_join, if_neg h1_10, if_neg h1_11, if_neg h1_12, if_neg h1_13, if_neg h1_14, if_neg h1_15, if_neg h1_16, if_neg h1_17, if_neg h1_18, if_neg h1_19, if_neg h1_20, if_neg h1_21, if_neg h1_22, if_neg h1_23, if_neg h1_24, if_pos h1_25]; done) | (simp only [fLa_join, if_neg h1_10, if_neg h1_11, if_neg h1_12, if_neg h1_13, if_neg h1_14, if_neg h1_15, if_neg h1_16, if_neg h1_17, if_neg h1_18, if_neg h1_19, if_neg h1_20, if_neg h1_21, if_neg h1_22, if_neg h1_23, if_neg h1_24, if_pos h1_25]; rfl) | rfl))
                                ·
                                  by_cases h1_26 : y0 = 26
                                  ·
                                    refine pm_tableIn 95 dLa_join_1 (by rw [h1_26]; decide) (by rw [h1_26]; decide) (by first | (rw [h1_26]; rfl) | rw [h1_26]) (by decide) ?_
                                    refine pm_lload_n dLa_join_95 rfl ?_
                                    refine pm_callS dLa_join_96 lLa_13 tLa_truth (La_truth_ok _ _ _ _ _ _ _ (((((((((((((((((hp.2 h1_10).2 h1_11).2 h1_12).2 h1_13).2 h1_14).2 h1_15).2 h1_16).2 h1_17).2 h1_18).2 h1_19).2 h1_20).2 h1_21).2 h1_22).2 h1_23).2 h1_24).2 h1_25).1 h1_26).1) rfl rfl (Nat.le_of_ble_eq_true rfl) (Nat.le_refl _) (Nat.le_refl _) ?_
                                    refine pm_lload_n dLa_join_99 rfl ?_
                                    refine pm_callS dLa_join_100 lLa_13 tLa_truth (La_truth_ok _ _ _ _ _ _ _ (((((((((((((((((hp.2 h1_10).2 h1_11).2 h1_12).2 h1_13).2 h1_14).2 h1_15).2 h1_16).2 h1_17).2 h1_18).2 h1_19).2 h1_20).2 h1_21).2 h1_22).2 h1_23).2 h1_24).2 h1_25).1 h1_26).2.1) rfl rfl (Nat.le_of_ble_eq_true rfl) (Nat.le_refl _) (Nat.le_refl _) ?_
                                    refine pm_land dLa_join_103 ?_
                                    exact pm_lret dLa_join_104 rfl (ho.trans (by first | (simp only [fLa_join, if_neg h1_10, if_neg h1_11, if_neg h1_12, if_neg h1_13, if_neg h1_14, if_neg h1_15, if_neg h1_16, if_neg h1_17, if_neg h1_18, if_neg h1_19, if_neg h1_20, if_neg h1_21, if_neg h1_22, if_neg h1_23, if_neg h1_24, if_neg h1_25, if_pos h1_26]; done) | (simp only [fLa_join, if_neg h1_10, if_neg h1_11, if_neg h1_12, if_neg h1_13, if_neg h1_14, if_neg h1_15, if_neg h1_16, if_neg h1_17, if_neg h1_18, if_neg h1_19, if_neg h1_20, if_neg h1_21, if_neg h1_22, if_neg h1_23, if_neg h1_24, if_neg h1_25, if_pos h1_26]; rfl) | rfl)) (hz.trans (by first | (simp only [fLa_join, if_neg h1_10, if_neg h1_11, if_neg h1_12, if_neg h1_13, if_neg h1_14, if_neg h1_15, if_neg h1_16, if_neg h1_17, if_neg h1_18, if_neg h1_19, if_neg h1_20, if_neg h1_21, if_neg h1_22, if_neg h1_23, if_neg h1_24, if_neg h1_25, if_pos h1_26]; done) | (simp only [fLa_join, if_neg h1_10, if_neg h1_11, if_neg h1_12, if_neg h1_13, if_neg h1_14, if_neg h1_15, if_neg h1_16, if_neg h1_17, if_neg h1_18, if_neg h1_19, if_neg h1_20, if_neg h1_21, if_neg h1_22, if_neg h1_23, if_neg h1_24, if_neg h1_25, if_pos h1_26]; rfl) | rfl))
                                  ·
                                    by_cases h1_27 : y0 = 27
                                    ·
                                      refine pm_tableIn 88 dLa_join_1 (by rw [h1_27]; decide) (by rw [h1_27]; decide) (by first | (rw [h1_27]; rfl) | rw [h1_27]) (by decide) ?_
                                      refine pm_lload_n dLa_join_88 rfl ?_
                                      refine pm_lload_n dLa_join_89 rfl ?_
                                      refine pm_lor dLa_join_90 ?_
                                      refine pm_callS dLa_join_91 lLa_13 tLa_truth (La_truth_ok _ _ _ _ _ _ _ ((((((((((((((((((hp.2 h1_10).2 h1_11).2 h1_12).2 h1_13).2 h1_14).2 h1_15).2 h1_16).2 h1_17).2 h1_18).2 h1_19).2 h1_20).2 h1_21).2 h1_22).2 h1_23).2 h1_24).2 h1_25).2 h1_26).1 h1_27).1) rfl rfl (Nat.le_of_ble_eq_true rfl) (Nat.le_refl _) (Nat.le_refl _) ?_
                                      exact pm_lret dLa_join_94 rfl (ho.trans (by first | (simp only [fLa_join, if_neg h1_10, if_neg h1_11, if_neg h1_12, if_neg h1_13, if_neg h1_14, if_neg h1_15, if_neg h1_16, if_neg h1_17, if_neg h1_18, if_neg h1_19, if_neg h1_20, if_neg h1_21, if_neg h1_22, if_neg h1_23, if_neg h1_24, if_neg h1_25, if_neg h1_26, if_pos h1_27]; done) | (simp only [fLa_join, if_neg h1_10, if_neg h1_11, if_neg h1_12, if_neg h1_13, if_neg h1_14, if_neg h1_15, if_neg h1_16, if_neg h1_17, if_neg h1_18, if_neg h1_19, if_neg h1_20, if_neg h1_21, if_neg h1_22, if_neg h1_23, if_neg h1_24, if_neg h1_25, if_neg h1_26, if_pos h1_27]; rfl) | rfl)) (hz.trans (by first | (simp only [fLa_join, if_neg h1_10, if_neg h1_11, if_neg h1_12, if_neg h1_13, if_neg h1_14, if_neg h1_15, if_neg h1_16, if_neg h1_17, if_neg h1_18, if_neg h1_19, if_neg h1_20, if_neg h1_21, if_neg h1_22, if_neg h1_23, if_neg h1_24, if_neg h1_25, if_neg h1_26, if_pos h1_27]; done) | (simp only [fLa_join, if_neg h1_10, if_neg h1_11, if_neg h1_12, if_neg h1_13, if_neg h1_14, if_neg h1_15, if_neg h1_16, if_neg h1_17, if_neg h1_18, if_neg h1_19, if_neg h1_20, if_neg h1_21, if_neg h1_22, if_neg h1_23, if_neg h1_24, if_neg h1_25, if_neg h1_26, if_pos h1_27]; rfl) | rfl))
                                    ·
                                      refine pm_tableOut 187 dLa_join_1 (pm_out (fun q9 k1 k2 => by
                                        have : q9 = 10 ∨ q9 = 11 ∨ q9 = 12 ∨ q9 = 13 ∨ q9 = 14 ∨ q9 = 15 ∨ q9 = 16 ∨ q9 = 17 ∨ q9 = 18 ∨ q9 = 19 ∨ q9 = 20 ∨ q9 = 21 ∨ q9 = 22 ∨ q9 = 23 ∨ q9 = 24 ∨ q9 = 25 ∨ q9 = 26 ∨ q9 = 27 := by omega
                                        rcases this with rfl | rfl | rfl | rfl | rfl | rfl | rfl | rfl | rfl | rfl | rfl | rfl | rfl | rfl | rfl | rfl | rfl | rfl
                                        · exact h1_10
                                        · exact h1_11
                                        · exact h1_12
                                        · exact h1_13
                                        · exact h1_14
                                        · exact h1_15
                                        · exact h1_16
                                        · exact h1_17
                                        · exact h1_18
                                        · exact h1_19
                                        · exact h1_20
                                        · exact h1_21
                                        · exact h1_22
                                        · exact h1_23
                                        · exact h1_24
                                        · exact h1_25
                                        · exact h1_26
                                        · exact h1_27
                                        )) (by decide) ?_
                                      refine pm_lload_n dLa_join_187 rfl ?_
                                      refine pm_lload_n dLa_join_188 rfl ?_
                                      refine pm_callS dLa_join_189 lLa_34 tLa_times (La_times_ok _ _ _ _ _ _ _ _ _ ((((((((((((((((((hp.2 h1_10).2 h1_11).2 h1_12).2 h1_13).2 h1_14).2 h1_15).2 h1_16).2 h1_17).2 h1_18).2 h1_19).2 h1_20).2 h1_21).2 h1_22).2 h1_23).2 h1_24).2 h1_25).2 h1_26).2 h1_27).1) rfl rfl (Nat.le_of_ble_eq_true rfl) (Nat.le_refl _) (Nat.le_refl _) ?_
                                      exact pm_lret dLa_join_192 rfl (ho.trans (by first | (simp only [fLa_join, if_neg h1_10, if_neg h1_11, if_neg h1_12, if_neg h1_13, if_neg h1_14, if_neg h1_15, if_neg h1_16, if_neg h1_17, if_neg h1_18, if_neg h1_19, if_neg h1_20, if_neg h1_21, if_neg h1_22, if_neg h1_23, if_neg h1_24, if_neg h1_25, if_neg h1_26, if_neg h1_27]; done) | (simp only [fLa_join, if_neg h1_10, if_neg h1_11, if_neg h1_12, if_neg h1_13, if_neg h1_14, if_neg h1_15, if_neg h1_16, if_neg h1_17, if_neg h1_18, if_neg h1_19, if_neg h1_20, if_neg h1_21, if_neg h1_22, if_neg h1_23, if_neg h1_24, if_neg h1_25, if_neg h1_26, if_neg h1_27]; rfl) | rfl)) (hz.trans (by first | (simp only [fLa_join, if_neg h1_10, if_neg h1_11, if_neg h1_12, if_neg h1_13, if_neg h1_14, if_neg h1_15, if_neg h1_16, if_neg h1_17, if_neg h1_18, if_neg h1_19, if_neg h1_20, if_neg h1_21, if_neg h1_22, if_neg h1_23, if_neg h1_24, if_neg h1_25, if_neg h1_26, if_neg h1_27]; done) | (simp only [fLa_join, if_neg h1_10, if_neg h1_11, if_neg h1_12, if_neg h1_13, if_neg h1_14, if_neg h1_15, if_neg h1_16, if_neg h1_17, if_neg h1_18, if_neg h1_19, if_neg h1_20, if_neg h1_21, if_neg h1_22, if_neg h1_23, if_neg h1_24, if_neg h1_25, if_neg h1_26, if_neg h1_27]; rfl) | rfl))
set_option maxHeartbeats 4000000 in
set_option maxRecDepth 100000 in
theorem La_join_ok (g : pmG) (d : Nat) (K : List (Nat × Nat)) (R : Nat → Nat → Value)  (x0 : Int32) (x1 : Int64) (x2 : Int64) (I : Nat → Nat → Int32) (J : Nat → Nat → Int64) (hp : pLa_join x0 x1 x2) : pmC g kLa_join (d + 2) 0 0 [.int x0, .long x1, .long x2] (K, R, I, J) (.returned (some (.long (fLa_join x0 x1 x2)))) (K, R, I, J) :=
  pmC.of (by decide) (Nat.le_of_ble_eq_true rfl) (La_join_n0 g d K R I J _ _  x0 x1 x2  hp rfl rfl)
