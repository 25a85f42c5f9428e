def fAr_fill_15_5  : Nat → Int32 → Int32 → Int32 → (Nat → Nat → Int32) → (Nat → Nat → Int64) → (Nat → Nat → Int32)
  | 0, _, _, _, I, _ => I
  | n + 1, y1, y2, y3, I, J =>
  if y3 ≤ y2 then I
  else fAr_fill_15_5 n y1 (y2 + Int32.ofInt 1) y3 (pm_u I 15 y2.toNatClampNeg y1) J
def pAr_fill_15_5  : Nat → Int32 → Int32 → Int32 → (Nat → Nat → Int32) → (Nat → Nat → Int64) → Prop
  | 0, _, _, _, _, _ => False
  | n + 1, y1, y2, y3, I, J =>
  (y3 ≤ y2 → True) ∧
  (¬ (y3 ≤ y2) → (vp_in y2 60) ∧ (pAr_fill_15_5 n y1 (y2 + Int32.ofInt 1) y3 (pm_u I 15 y2.toNatClampNeg y1) J))
def fAr_fill_15 (n5 : Nat) (y1 : Int32) (I : Nat → Nat → Int32) (J : Nat → Nat → Int64) : (Nat → Nat → Int32) :=
  fAr_fill_15_5 n5 y1 (0 : Int32) (60 : Int32) I J
def pAr_fill_15 (n5 : Nat) (y1 : Int32) (I : Nat → Nat → Int32) (J : Nat → Nat → Int64) : Prop :=
  pAr_fill_15_5 n5 y1 (0 : Int32) (60 : Int32) I J
set_option maxHeartbeats 4000000 in
set_option maxRecDepth 100000 in
theorem Ar_fill_15_n5 (g : pmG) (d : Nat) (ex : List (Nat × Nat)) (R : Nat → Nat → Value) (hR : pk_R R) (o : Outcome) (Z : pmM)  : ∀ (n : Nat) (y1 : Int32) (y2 : Int32) (y3 : Int32) (I : Nat → Nat → Int32) (J : Nat → Nat → Int64), pAr_fill_15_5 n y1 y2 y3 I J → o = .returned none → Z = (pk_K ++ ex, R, (fAr_fill_15_5 n y1 y2 y3 I J), J) → pmE g kAr_fill d 0 0 5 [(0, .ref 15), (1, .int y1), (2, .int y2), (3, .int y3)] [] (pk_K ++ ex) R I J o Z := by
  intro n
  induction n with
  | zero => intro y1 y2 y3 I J hp; exact False.elim hp
  | succ n ih =>
  intro y1 y2 y3 I J hp ho hz
  simp only [pAr_fill_15_5] at hp
  refine pm_iload_n dAr_fill_5 rfl ?_
  refine pm_iload_n dAr_fill_6 rfl ?_
  refine pm_icmp_ge 20 dAr_fill_7 (by decide) (fun h7 => ?_) (fun h7 => ?_)
  ·
    exact pm_vret dAr_fill_20 rfl ho (hz.trans (by first | (simp only [fAr_fill_15_5, if_pos h7]; done) | (simp only [fAr_fill_15_5, if_pos h7]; rfl) | rfl))
  ·
    refine pm_aload_n dAr_fill_10 rfl ?_
    refine pm_iload_n dAr_fill_11 rfl ?_
    refine pm_iload_n dAr_fill_12 rfl ?_
    refine pm_iast dAr_fill_13 rfl (hp.2 h7).1 ?_
    refine pm_iinc dAr_fill_14 rfl (by decide) rfl ?_
    refine pm_goto 5 dAr_fill_17 (by decide) ?_
    refine pm_wk [1, 2, 0, 3] rfl ?_
    exact ih _ _ _ _ _ (hp.2 h7).2 ho (hz.trans (by first | (simp only [fAr_fill_15_5, if_neg h7]; done) | (simp only [fAr_fill_15_5, if_neg h7]; rfl) | rfl))
set_option maxHeartbeats 4000000 in
set_option maxRecDepth 100000 in
theorem Ar_fill_15_n0 (g : pmG) (d : Nat) (ex : List (Nat × Nat)) (R : Nat → Nat → Value) (hR : pk_R R) (o : Outcome) (Z : pmM) (n5 : Nat) (y1 : Int32) (I : Nat → Nat → Int32) (J : Nat → Nat → Int64) (hp : pAr_fill_15 n5 y1 I J) (ho : o = .returned none) (hz : Z = (pk_K ++ ex, R, (fAr_fill_15 n5 y1 I J), J)) : pmE g kAr_fill d 0 0 0 [(0, .ref 15), (1, .int y1)] [] (pk_K ++ ex) R I J o Z := by
  unfold pAr_fill_15 at hp
  refine pm_iconst (v := 0) dAr_fill_0 (by decide) ?_
  refine pm_istore_n dAr_fill_1 (by decide) rfl ?_
  refine pm_aload_n dAr_fill_2 rfl ?_
  refine pm_alen (v := 60) dAr_fill_3 rfl (Or.inl rfl) (by decide) ?_
  refine pm_istore_n dAr_fill_4 (by decide) rfl ?_
  refine pm_wk [2, 3, 1, 0] rfl ?_
  exact Ar_fill_15_n5 g d ex R hR _ _  n5 _ _ _ _ _ hp ho (hz.trans (by first | rfl | (simp only [fAr_fill_15]; done) | (simp only [fAr_fill_15]; rfl)))
set_option maxHeartbeats 4000000 in
set_option maxRecDepth 100000 in
theorem Ar_fill_15_ok (g : pmG) (d : Nat) (ex : List (Nat × Nat)) (R : Nat → Nat → Value) (hR : pk_R R) (n5 : Nat) (x0 : Int32) (I : Nat → Nat → Int32) (J : Nat → Nat → Int64) (hp : pAr_fill_15 n5 x0 I J) : pmC g kAr_fill d 0 0 [.ref 15, .int x0] (pk_K ++ ex, R, I, J) (.returned none) (pk_K ++ ex, R, (fAr_fill_15 n5 x0 I J), J) :=
  pmC.of (by decide) (Nat.le_of_ble_eq_true rfl) (Ar_fill_15_n0 g d ex R hR _ _ n5 x0 I J hp rfl rfl)
def fAr_fill_28_5  : Nat → Int32 → Int32 → Int32 → (Nat → Nat → Int32) → (Nat → Nat → Int64) → (Nat → Nat → Int32)
  | 0, _, _, _, I, _ => I
  | n + 1, y1, y2, y3, I, J =>
  if y3 ≤ y2 then I
  else fAr_fill_28_5 n y1 (y2 + Int32.ofInt 1) y3 (pm_u I 28 y2.toNatClampNeg y1) J
def pAr_fill_28_5  : Nat → Int32 → Int32 → Int32 → (Nat → Nat → Int32) → (Nat → Nat → Int64) → Prop
  | 0, _, _, _, _, _ => False
  | n + 1, y1, y2, y3, I, J =>
  (y3 ≤ y2 → True) ∧
  (¬ (y3 ≤ y2) → (vp_in y2 257) ∧ (pAr_fill_28_5 n y1 (y2 + Int32.ofInt 1) y3 (pm_u I 28 y2.toNatClampNeg y1) J))
def fAr_fill_28 (n5 : Nat) (y1 : Int32) (I : Nat → Nat → Int32) (J : Nat → Nat → Int64) : (Nat → Nat → Int32) :=
  fAr_fill_28_5 n5 y1 (0 : Int32) (257 : Int32) I J
def pAr_fill_28 (n5 : Nat) (y1 : Int32) (I : Nat → Nat → Int32) (J : Nat → Nat → Int64) : Prop :=
  pAr_fill_28_5 n5 y1 (0 : Int32) (257 : Int32) I J
set_option maxHeartbeats 4000000 in
set_option maxRecDepth 100000 in
theorem Ar_fill_28_n5 (g : pmG) (d : Nat) (ex : List (Nat × Nat)) (R : Nat → Nat → Value) (hR : pk_R R) (o : Outcome) (Z : pmM)  : ∀ (n : Nat) (y1 : Int32) (y2 : Int32) (y3 : Int32) (I : Nat → Nat → Int32) (J : Nat → Nat → Int64), pAr_fill_28_5 n y1 y2 y3 I J → o = .returned none → Z = (pk_K ++ ex, R, (fAr_fill_28_5 n y1 y2 y3 I J), J) → pmE g kAr_fill d 0 0 5 [(0, .ref 28), (1, .int y1), (2, .int y2), (3, .int y3)] [] (pk_K ++ ex) R I J o Z := by
  intro n
  induction n with
  | zero => intro y1 y2 y3 I J hp; exact False.elim hp
  | succ n ih =>
  intro y1 y2 y3 I J hp ho hz
  simp only [pAr_fill_28_5] at hp
  refine pm_iload_n dAr_fill_5 rfl ?_
  refine pm_iload_n dAr_fill_6 rfl ?_
  refine pm_icmp_ge 20 dAr_fill_7 (by decide) (fun h7 => ?_) (fun h7 => ?_)
  ·
    exact pm_vret dAr_fill_20 rfl ho (hz.trans (by first | (simp only [fAr_fill_28_5, if_pos h7]; done) | (simp only [fAr_fill_28_5, if_pos h7]; rfl) | rfl))
  ·
    refine pm_aload_n dAr_fill_10 rfl ?_
    refine pm_iload_n dAr_fill_11 rfl ?_
    refine pm_iload_n dAr_fill_12 rfl ?_
    refine pm_iast dAr_fill_13 rfl (hp.2 h7).1 ?_
    refine pm_iinc dAr_fill_14 rfl (by decide) rfl ?_
    refine pm_goto 5 dAr_fill_17 (by decide) ?_
    refine pm_wk [1, 2, 0, 3] rfl ?_
    exact ih _ _ _ _ _ (hp.2 h7).2 ho (hz.trans (by first | (simp only [fAr_fill_28_5, if_neg h7]; done) | (simp only [fAr_fill_28_5, if_neg h7]; rfl) | rfl))
set_option maxHeartbeats 4000000 in
set_option maxRecDepth 100000 in
theorem Ar_fill_28_n0 (g : pmG) (d : Nat) (ex : List (Nat × Nat)) (R : Nat → Nat → Value) (hR : pk_R R) (o : Outcome) (Z : pmM) (n5 : Nat) (y1 : Int32) (I : Nat → Nat → Int32) (J : Nat → Nat → Int64) (hp : pAr_fill_28 n5 y1 I J) (ho : o = .returned none) (hz : Z = (pk_K ++ ex, R, (fAr_fill_28 n5 y1 I J), J)) : pmE g kAr_fill d 0 0 0 [(0, .ref 28), (1, .int y1)] [] (pk_K ++ ex) R I J o Z := by
  unfold pAr_fill_28 at hp
  refine pm_iconst (v := 0) dAr_fill_0 (by decide) ?_
  refine pm_istore_n dAr_fill_1 (by decide) rfl ?_
  refine pm_aload_n dAr_fill_2 rfl ?_
  refine pm_alen (v := 257) dAr_fill_3 rfl (Or.inl rfl) (by decide) ?_
  refine pm_istore_n dAr_fill_4 (by decide) rfl ?_
  refine pm_wk [2, 3, 1, 0] rfl ?_
  exact Ar_fill_28_n5 g d ex R hR _ _  n5 _ _ _ _ _ hp ho (hz.trans (by first | rfl | (simp only [fAr_fill_28]; done) | (simp only [fAr_fill_28]; rfl)))
set_option maxHeartbeats 4000000 in
set_option maxRecDepth 100000 in
theorem Ar_fill_28_ok (g : pmG) (d : Nat) (ex : List (Nat × Nat)) (R : Nat → Nat → Value) (hR : pk_R R) (n5 : Nat) (x0 : Int32) (I : Nat → Nat → Int32) (J : Nat → Nat → Int64) (hp : pAr_fill_28 n5 x0 I J) : pmC g kAr_fill d 0 0 [.ref 28, .int x0] (pk_K ++ ex, R, I, J) (.returned none) (pk_K ++ ex, R, (fAr_fill_28 n5 x0 I J), J) :=
  pmC.of (by decide) (Nat.le_of_ble_eq_true rfl) (Ar_fill_28_n0 g d ex R hR _ _ n5 x0 I J hp rfl rfl)
def fAr_fill_30_5  : Nat → Int32 → Int32 → Int32 → (Nat → Nat → Int32) → (Nat → Nat → Int64) → (Nat → Nat → Int32)
  | 0, _, _, _, I, _ => I
  | n + 1, y1, y2, y3, I, J =>
  if y3 ≤ y2 then I
  else fAr_fill_30_5 n y1 (y2 + Int32.ofInt 1) y3 (pm_u I 30 y2.toNatClampNeg y1) J
def pAr_fill_30_5  : Nat → Int32 → Int32 → Int32 → (Nat → Nat → Int32) → (Nat → Nat → Int64) → Prop
  | 0, _, _, _, _, _ => False
  | n + 1, y1, y2, y3, I, J =>
  (y3 ≤ y2 → True) ∧
  (¬ (y3 ≤ y2) → (vp_in y2 256) ∧ (pAr_fill_30_5 n y1 (y2 + Int32.ofInt 1) y3 (pm_u I 30 y2.toNatClampNeg y1) J))
def fAr_fill_30 (n5 : Nat) (y1 : Int32) (I : Nat → Nat → Int32) (J : Nat → Nat → Int64) : (Nat → Nat → Int32) :=
  fAr_fill_30_5 n5 y1 (0 : Int32) (256 : Int32) I J
def pAr_fill_30 (n5 : Nat) (y1 : Int32) (I : Nat → Nat → Int32) (J : Nat → Nat → Int64) : Prop :=
  pAr_fill_30_5 n5 y1 (0 : Int32) (256 : Int32) I J
set_option maxHeartbeats 4000000 in
set_option maxRecDepth 100000 in
theorem Ar_fill_30_n5 (g : pmG) (d : Nat) (ex : List (Nat × Nat)) (R : Nat → Nat → Value) (hR : pk_R R) (o : Outcome) (Z : pmM)  : ∀ (n : Nat) (y1 : Int32) (y2 : Int32) (y3 : Int32) (I : Nat → Nat → Int32) (J : Nat → Nat → Int64), pAr_fill_30_5 n y1 y2 y3 I J → o = .returned none → Z = (pk_K ++ ex, R, (fAr_fill_30_5 n y1 y2 y3 I J), J) → pmE g kAr_fill d 0 0 5 [(0, .ref 30), (1, .int y1), (2, .int y2), (3, .int y3)] [] (pk_K ++ ex) R I J o Z := by
  intro n
  induction n with
  | zero => intro y1 y2 y3 I J hp; exact False.elim hp
  | succ n ih =>
  intro y1 y2 y3 I J hp ho hz
  simp only [pAr_fill_30_5] at hp
  refine pm_iload_n dAr_fill_5 rfl ?_
  refine pm_iload_n dAr_fill_6 rfl ?_
  refine pm_icmp_ge 20 dAr_fill_7 (by decide) (fun h7 => ?_) (fun h7 => ?_)
  ·
    exact pm_vret dAr_fill_20 rfl ho (hz.trans (by first | (simp only [fAr_fill_30_5, if_pos h7]; done) | (simp only [fAr_fill_30_5, if_pos h7]; rfl) | rfl))
  ·
    refine pm_aload_n dAr_fill_10 rfl ?_
    refine pm_iload_n dAr_fill_11 rfl ?_
    refine pm_iload_n dAr_fill_12 rfl ?_
    refine pm_iast dAr_fill_13 rfl (hp.2 h7).1 ?_
    refine pm_iinc dAr_fill_14 rfl (by decide) rfl ?_
    refine pm_goto 5 dAr_fill_17 (by decide) ?_
    refine pm_wk [1, 2, 0, 3] rfl ?_
    exact ih _ _ _ _ _ (hp.2 h7).2 ho (hz.trans (by first | (simp only [fAr_fill_30_5, if_neg h7]; done) | (simp only [fAr_fill_30_5, if_neg h7]; rfl) | rfl))
set_option maxHeartbeats 4000000 in
set_option maxRecDepth 100000 in
theorem Ar_fill_30_n0 (g : pmG) (d : Nat) (ex : List (Nat × Nat)) (R : Nat → Nat → Value) (hR : pk_R R) (o : Outcome) (Z : pmM) (n5 : Nat) (y1 : Int32) (I : Nat → Nat → Int32) (J : Nat → Nat → Int64) (hp : pAr_fill_30 n5 y1 I J) (ho : o = .returned none) (hz : Z = (pk_K ++ ex, R, (fAr_fill_30 n5 y1 I J), J)) : pmE g kAr_fill d 0 0 0 [(0, .ref 30), (1, .int y1)] [] (pk_K ++ ex) R I J o Z := by
  unfold pAr_fill_30 at hp
  refine pm_iconst (v := 0) dAr_fill_0 (by decide) ?_
  refine pm_istore_n dAr_fill_1 (by decide) rfl ?_
  refine pm_aload_n dAr_fill_2 rfl ?_
  refine pm_alen (v := 256) dAr_fill_3 rfl (Or.inl rfl) (by decide) ?_
  refine pm_istore_n dAr_fill_4 (by decide) rfl ?_
  refine pm_wk [2, 3, 1, 0] rfl ?_
  exact Ar_fill_30_n5 g d ex R hR _ _  n5 _ _ _ _ _ hp ho (hz.trans (by first | rfl | (simp only [fAr_fill_30]; done) | (simp only [fAr_fill_30]; rfl)))
set_option maxHeartbeats 4000000 in
set_option maxRecDepth 100000 in
theorem Ar_fill_30_ok (g : pmG) (d : Nat) (ex : List (Nat × Nat)) (R : Nat → Nat → Value) (hR : pk_R R) (n5 : Nat) (x0 : Int32) (I : Nat → Nat → Int32) (J : Nat → Nat → Int64) (hp : pAr_fill_30 n5 x0 I J) : pmC g kAr_fill d 0 0 [.ref 30, .int x0] (pk_K ++ ex, R, I, J) (.returned none) (pk_K ++ ex, R, (fAr_fill_30 n5 x0 I J), J) :=
  pmC.of (by decide) (Nat.le_of_ble_eq_true rfl) (Ar_fill_30_n0 g d ex R hR _ _ n5 x0 I J hp rfl rfl)
def fLo_bitCount  (y0 : Int64) : Int32 :=
  (((((((((y0 - (((y0.toUInt64 >>> ((((1 : Int32) : Int32)).toInt64.toUInt64 &&& Int64.toUInt64 63)).toInt64) &&& (6148914691236517205 : Int64))) &&& (3689348814741910323 : Int64)) + ((((y0 - (((y0.toUInt64 >>> ((((1 : Int32) : Int32)).toInt64.toUInt64 &&& Int64.toUInt64 63)).toInt64) &&& (6148914691236517205 : Int64))).toUInt64 >>> ((((2 : Int32) : Int32)).toInt64.toUInt64 &&& Int64.toUInt64 63)).toInt64) &&& (3689348814741910323 : Int64))) + (((((y0 - (((y0.toUInt64 >>> ((((1 : Int32) : Int32)).toInt64.toUInt64 &&& Int64.toUInt64 63)).toInt64) &&& (6148914691236517205 : Int64))) &&& (3689348814741910323 : Int64)) + ((((y0 - (((y0.toUInt64 >>> ((((1 : Int32) : Int32)).toInt64.toUInt64 &&& Int64.toUInt64 63)).toInt64) &&& (6148914691236517205 : Int64))).toUInt64 >>> ((((2 : Int32) : Int32)).toInt64.toUInt64 &&& Int64.toUInt64 63)).toInt64) &&& (3689348814741910323 : Int64))).toUInt64 >>> ((((4 : Int32) : Int32)).toInt64.toUInt64 &&& Int64.toUInt64 63)).toInt64)) &&& (1085102592571150095 : Int64)) + (((((((y0 - (((y0.toUInt64 >>> ((((1 : Int32) : Int32)).toInt64.toUInt64 &&& Int64.toUInt64 63)).toInt64) &&& (6148914691236517205 : Int64))) &&& (3689348814741910323 : Int64)) + ((((y0 - (((y0.toUInt64 >>> ((((1 : Int32) : Int32)).toInt64.toUInt64 &&& Int64.toUInt64 63)).toInt64) &&& (6148914691236517205 : Int64))).toUInt64 >>> ((((2 : Int32) : Int32)).toInt64.toUInt64 &&& Int64.toUInt64 63)).toInt64) &&& (3689348814741910323 : Int64))) + (((((y0 - (((y0.toUInt64 >>> ((((1 : Int32) : Int32)).toInt64.toUInt64 &&& Int64.toUInt64 63)).toInt64) &&& (6148914691236517205 : Int64))) &&& (3689348814741910323 : Int64)) + ((((y0 - (((y0.toUInt64 >>> ((((1 : Int32) : Int32)).toInt64.toUInt64 &&& Int64.toUInt64 63)).toInt64) &&& (6148914691236517205 : Int64))).toUInt64 >>> ((((2 : Int32) : Int32)).toInt64.toUInt64 &&& Int64.toUInt64 63)).toInt64) &&& (3689348814741910323 : Int64))).toUInt64 >>> ((((4 : Int32) : Int32)).toInt64.toUInt64 &&& Int64.toUInt64 63)).toInt64)) &&& (1085102592571150095 : Int64)).toUInt64 >>> ((((8 : Int32) : Int32)).toInt64.toUInt64 &&& Int64.toUInt64 63)).toInt64)) + ((((((((y0 - (((y0.toUInt64 >>> ((((1 : Int32) : Int32)).toInt64.toUInt64 &&& Int64.toUInt64 63)).toInt64) &&& (6148914691236517205 : Int64))) &&& (3689348814741910323 : Int64)) + ((((y0 - (((y0.toUInt64 >>> ((((1 : Int32) : Int32)).toInt64.toUInt64 &&& Int64.toUInt64 63)).toInt64) &&& (6148914691236517205 : Int64))).toUInt64 >>> ((((2 : Int32) : Int32)).toInt64.toUInt64 &&& Int64.toUInt64 63)).toInt64) &&& (3689348814741910323 : Int64))) + (((((y0 - (((y0.toUInt64 >>> ((((1 : Int32) : Int32)).toInt64.toUInt64 &&& Int64.toUInt64 63)).toInt64) &&& (6148914691236517205 : Int64))) &&& (3689348814741910323 : Int64)) + ((((y0 - (((y0.toUInt64 >>> ((((1 : Int32) : Int32)).toInt64.toUInt64 &&& Int64.toUInt64 63)).toInt64) &&& (6148914691236517205 : Int64))).toUInt64 >>> ((((2 : Int32) : Int32)).toInt64.toUInt64 &&& Int64.toUInt64 63)).toInt64) &&& (3689348814741910323 : Int64))).toUInt64 >>> ((((4 : Int32) : Int32)).toInt64.toUInt64 &&& Int64.toUInt64 63)).toInt64)) &&& (1085102592571150095 : Int64)) + (((((((y0 - (((y0.toUInt64 >>> ((((1 : Int32) : Int32)).toInt64.toUInt64 &&& Int64.toUInt64 63)).toInt64) &&& (6148914691236517205 : Int64))) &&& (3689348814741910323 : Int64)) + ((((y0 - (((y0.toUInt64 >>> ((((1 : Int32) : Int32)).toInt64.toUInt64 &&& Int64.toUInt64 63)).toInt64) &&& (6148914691236517205 : Int64))).toUInt64 >>> ((((2 : Int32) : Int32)).toInt64.toUInt64 &&& Int64.toUInt64 63)).toInt64) &&& (3689348814741910323 : Int64))) + (((((y0 - (((y0.toUInt64 >>> ((((1 : Int32) : Int32)).toInt64.toUInt64 &&& Int64.toUInt64 63)).toInt64) &&& (6148914691236517205 : Int64))) &&& (3689348814741910323 : Int64)) + ((((y0 - (((y0.toUInt64 >>> ((((1 : Int32) : Int32)).toInt64.toUInt64 &&& Int64.toUInt64 63)).toInt64) &&& (6148914691236517205 : Int64))).toUInt64 >>> ((((2 : Int32) : Int32)).toInt64.toUInt64 &&& Int64.toUInt64 63)).toInt64) &&& (3689348814741910323 : Int64))).toUInt64 >>> ((((4 : Int32) : Int32)).toInt64.toUInt64 &&& Int64.toUInt64 63)).toInt64)) &&& (1085102592571150095 : Int64)).toUInt64 >>> ((((8 : Int32) : Int32)).toInt64.toUInt64 &&& Int64.toUInt64 63)).toInt64)).toUInt64 >>> ((((16 : Int32) : Int32)).toInt64.toUInt64 &&& Int64.toUInt64 63)).toInt64)) + (((((((((y0 - (((y0.toUInt64 >>> ((((1 : Int32) : Int32)).toInt64.toUInt64 &&& Int64.toUInt64 63)).toInt64) &&& (6148914691236517205 : Int64))) &&& (3689348814741910323 : Int64)) + ((((y0 - (((y0.toUInt64 >>> ((((1 : Int32) : Int32)).toInt64.toUInt64 &&& Int64.toUInt64 63)).toInt64) &&& (6148914691236517205 : Int64))).toUInt64 >>> ((((2 : Int32) : Int32)).toInt64.toUInt64 &&& Int64.toUInt64 63)).toInt64) &&& (3689348814741910323 : Int64))) + (((((y0 - (((y0.toUInt64 >>> ((((1 : Int32) : Int32)).toInt64.toUInt64 &&& Int64.toUInt64 63)).toInt64) &&& (6148914691236517205 : Int64))) &&& (3689348814741910323 : Int64)) + ((((y0 - (((y0.toUInt64 >>> ((((1 : Int32) : Int32)).toInt64.toUInt64 &&& Int64.toUInt64 63)).toInt64) &&& (6148914691236517205 : Int64))).toUInt64 >>> ((((2 : Int32) : Int32)).toInt64.toUInt64 &&& Int64.toUInt64 63)).toInt64) &&& (3689348814741910323 : Int64))).toUInt64 >>> ((((4 : Int32) : Int32)).toInt64.toUInt64 &&& Int64.toUInt64 63)).toInt64)) &&& (1085102592571150095 : Int64)) + (((((((y0 - (((y0.toUInt64 >>> ((((1 : Int32) : Int32)).toInt64.toUInt64 &&& Int64.toUInt64 63)).toInt64) &&& (6148914691236517205 : Int64))) &&& (3689348814741910323 : Int64)) + ((((y0 - (((y0.toUInt64 >>> ((((1 : Int32) : Int32)).toInt64.toUInt64 &&& Int64.toUInt64 63)).toInt64) &&& (6148914691236517205 : Int64))).toUInt64 >>> ((((2 : Int32) : Int32)).toInt64.toUInt64 &&& Int64.toUInt64 63)).toInt64) &&& (3689348814741910323 : Int64))) + (((((y0 - (((y0.toUInt64 >>> ((((1 : Int32) : Int32)).toInt64.toUInt64 &&& Int64.toUInt64 63)).toInt64) &&& (6148914691236517205 : Int64))) &&& (3689348814741910323 : Int64)) + ((((y0 - (((y0.toUInt64 >>> ((((1 : Int32) : Int32)).toInt64.toUInt64 &&& Int64.toUInt64 63)).toInt64) &&& (6148914691236517205 : Int64))).toUInt64 >>> ((((2 : Int32) : Int32)).toInt64.toUInt64 &&& Int64.toUInt64 63)).toInt64) &&& (3689348814741910323 : Int64))).toUInt64 >>> ((((4 : Int32) : Int32)).toInt64.toUInt64 &&& Int64.toUInt64 63)).toInt64)) &&& (1085102592571150095 : Int64)).toUInt64 >>> ((((8 : Int32) : Int32)).toInt64.toUInt64 &&& Int64.toUInt64 63)).toInt64)) + ((((((((y0 - (((y0.toUInt64 >>> ((((1 : Int32) : Int32)).toInt64.toUInt64 &&& Int64.toUInt64 63)).toInt64) &&& (6148914691236517205 : Int64))) &&& (3689348814741910323 : Int64)) + ((((y0 - (((y0.toUInt64 >>> ((((1 : Int32) : Int32)).toInt64.toUInt64 &&& Int64.toUInt64 63)).toInt64) &&& (6148914691236517205 : Int64))).toUInt64 >>> ((((2 : Int32) : Int32)).toInt64.toUInt64 &&& Int64.toUInt64 63)).toInt64) &&& (3689348814741910323 : Int64))) + (((((y0 - (((y0.toUInt64 >>> ((((1 : Int32) : Int32)).toInt64.toUInt64 &&& Int64.toUInt64 63)).toInt64) &&& (6148914691236517205 : Int64))) &&& (3689348814741910323 : Int64)) + ((((y0 - (((y0.toUInt64 >>> ((((1 : Int32) : Int32)).toInt64.toUInt64 &&& Int64.toUInt64 63)).toInt64) &&& (6148914691236517205 : Int64))).toUInt64 >>> ((((2 : Int32) : Int32)).toInt64.toUInt64 &&& Int64.toUInt64 63)).toInt64) &&& (3689348814741910323 : Int64))).toUInt64 >>> ((((4 : Int32) : Int32)).toInt64.toUInt64 &&& Int64.toUInt64 63)).toInt64)) &&& (1085102592571150095 : Int64)) + (((((((y0 - (((y0.toUInt64 >>> ((((1 : Int32) : Int32)).toInt64.toUInt64 &&& Int64.toUInt64 63)).toInt64) &&& (6148914691236517205 : Int64))) &&& (3689348814741910323 : Int64)) + ((((y0 - (((y0.toUInt64 >>> ((((1 : Int32) : Int32)).toInt64.toUInt64 &&& Int64.toUInt64 63)).toInt64) &&& (6148914691236517205 : Int64))).toUInt64 >>> ((((2 : Int32) : Int32)).toInt64.toUInt64 &&& Int64.toUInt64 63)).toInt64) &&& (3689348814741910323 : Int64))) + (((((y0 - (((y0.toUInt64 >>> ((((1 : Int32) : Int32)).toInt64.toUInt64 &&& Int64.toUInt64 63)).toInt64) &&& (6148914691236517205 : Int64))) &&& (3689348814741910323 : Int64)) + ((((y0 - (((y0.toUInt64 >>> ((((1 : Int32) : Int32)).toInt64.toUInt64 &&& Int64.toUInt64 63)).toInt64) &&& (6148914691236517205 : Int64))).toUInt64 >>> ((((2 : Int32) : Int32)).toInt64.toUInt64 &&& Int64.toUInt64 63)).toInt64) &&& (3689348814741910323 : Int64))).toUInt64 >>> ((((4 : Int32) : Int32)).toInt64.toUInt64 &&& Int64.toUInt64 63)).toInt64)) &&& (1085102592571150095 : Int64)).toUInt64 >>> ((((8 : Int32) : Int32)).toInt64.toUInt64 &&& Int64.toUInt64 63)).toInt64)).toUInt64 >>> ((((16 : Int32) : Int32)).toInt64.toUInt64 &&& Int64.toUInt64 63)).toInt64)).toUInt64 >>> ((((32 : Int32) : Int32)).toInt64.toUInt64 &&& Int64.toUInt64 63)).toInt64)).toInt32) &&& (127 : Int32)
def pLo_bitCount  (y0 : Int64) : Prop :=
  True
set_option maxHeartbeats 4000000 in
set_option maxRecDepth 100000 in
theorem Lo_bitCount_n0 (g : pmG) (d : Nat) (K : List (Nat × Nat)) (R : Nat → Nat → Value) (I : Nat → Nat → Int32) (J : Nat → Nat → Int64) (o : Outcome) (Z : pmM)  (y0 : Int64) (hp : pLo_bitCount y0) (ho : o = .returned (some (.int (fLo_bitCount y0)))) (hz : Z = (K, R, I, J)) : pmE g kLo_bitCount d 0 0 0 [(0, .long y0)] [] (K) R I J o Z := by
  unfold pLo_bitCount at hp
  refine pm_lload_n dLo_bitCount_0 rfl ?_
  refine pm_lload_n dLo_bitCount_1 rfl ?_
  refine pm_iconst (v := 1) dLo_bitCount_2 (by decide) ?_
  refine pm_lushr dLo_bitCount_3 ?_
  refine pm_ldc2 dLo_bitCount_4 cLo_314 ?_
  refine pm_land dLo_bitCount_7 ?_
  refine pm_lsub dLo_bitCount_8 ?_
  refine pm_lstore_n dLo_bitCount_9 (by decide) rfl ?_
  refine pm_lload_n dLo_bitCount_10 rfl ?_
  refine pm_ldc2 dLo_bitCount_11 cLo_316 ?_
  refine pm_land dLo_bitCount_14 ?_
  refine pm_lload_n dLo_bitCount_15 rfl ?_
  refine pm_iconst (v := 2) dLo_bitCount_16 (by decide) ?_
  refine pm_lushr dLo_bitCount_17 ?_
  refine pm_ldc2 dLo_bitCount_18 cLo_316 ?_
  refine pm_land dLo_bitCount_21 ?_
  refine pm_ladd dLo_bitCount_22 ?_
  refine pm_lstore_n dLo_bitCount_23 (by decide) rfl ?_
  refine pm_lload_n dLo_bitCount_24 rfl ?_
  refine pm_lload_n dLo_bitCount_25 rfl ?_
  refine pm_iconst (v := 4) dLo_bitCount_26 (by decide) ?_
  refine pm_lushr dLo_bitCount_27 ?_
  refine pm_ladd dLo_bitCount_28 ?_
  refine pm_ldc2 dLo_bitCount_29 cLo_318 ?_
  refine pm_land dLo_bitCount_32 ?_
  refine pm_lstore_n dLo_bitCount_33 (by decide) rfl ?_
  refine pm_lload_n dLo_bitCount_34 rfl ?_
  refine pm_lload_n dLo_bitCount_35 rfl ?_
  refine pm_bipush (v := 8) dLo_bitCount_36 (by decide) ?_
  refine pm_lushr dLo_bitCount_38 ?_
  refine pm_ladd dLo_bitCount_39 ?_
  refine pm_lstore_n dLo_bitCount_40 (by decide) rfl ?_
  refine pm_lload_n dLo_bitCount_41 rfl ?_
  refine pm_lload_n dLo_bitCount_42 rfl ?_
  refine pm_bipush (v := 16) dLo_bitCount_43 (by decide) ?_
  refine pm_lushr dLo_bitCount_45 ?_
  refine pm_ladd dLo_bitCount_46 ?_
  refine pm_lstore_n dLo_bitCount_47 (by decide) rfl ?_
  refine pm_lload_n dLo_bitCount_48 rfl ?_
  refine pm_lload_n dLo_bitCount_49 rfl ?_
  refine pm_bipush (v := 32) dLo_bitCount_50 (by decide) ?_
  refine pm_lushr dLo_bitCount_52 ?_
  refine pm_ladd dLo_bitCount_53 ?_
  refine pm_lstore_n dLo_bitCount_54 (by decide) rfl ?_
  refine pm_lload_n dLo_bitCount_55 rfl ?_
  refine pm_l2i dLo_bitCount_56 ?_
  refine pm_bipush (v := 127) dLo_bitCount_57 (by decide) ?_
  refine pm_iand dLo_bitCount_59 ?_
  exact pm_iret dLo_bitCount_60 rfl (ho.trans (by first | rfl | (simp only [fLo_bitCount]; done) | (simp only [fLo_bitCount]; rfl))) (hz.trans (by first | rfl | (simp only [fLo_bitCount]; done) | (simp only [fLo_bitCount]; rfl)))
set_option maxHeartbeats 4000000 in
set_option maxRecDepth 100000 in
theorem Lo_bitCount_ok (g : pmG) (d : Nat) (K : List (Nat × Nat)) (R : Nat → Nat → Value)  (x0 : Int64) (I : Nat → Nat → Int32) (J : Nat → Nat → Int64) (hp : pLo_bitCount x0) : pmC g kLo_bitCount d 0 0 [.long x0] (K, R, I, J) (.returned (some (.int (fLo_bitCount x0)))) (K, R, I, J) :=
  pmC.of (by decide) (Nat.le_of_ble_eq_true rfl) (Lo_bitCount_n0 g d K R I J _ _  x0  hp rfl rfl)
