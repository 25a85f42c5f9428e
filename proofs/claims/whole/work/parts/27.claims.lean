def fCm_has  (y1 : Int32) (y2 : Int32) (I : Nat → Nat → Int32) (J : Nat → Nat → Int64) : Int32 :=
  if (lg_cmp ((((J 34 (y1 + (y2 >>> ((6 : Int32) &&& 31))).toNatClampNeg).toUInt64 >>> ((((y2 &&& (63 : Int32)) : Int32)).toInt64.toUInt64 &&& Int64.toUInt64 63)).toInt64) &&& (1 : Int64)) (0 : Int64)) = 0 then (0 : Int32)
  else (1 : Int32)
def pCm_has  (y1 : Int32) (y2 : Int32) (I : Nat → Nat → Int32) (J : Nat → Nat → Int64) : Prop :=
  (vp_in (y1 + (y2 >>> ((6 : Int32) &&& 31))) 624) ∧ (((lg_cmp ((((J 34 (y1 + (y2 >>> ((6 : Int32) &&& 31))).toNatClampNeg).toUInt64 >>> ((((y2 &&& (63 : Int32)) : Int32)).toInt64.toUInt64 &&& Int64.toUInt64 63)).toInt64) &&& (1 : Int64)) (0 : Int64)) = 0 → True) ∧
  (¬ ((lg_cmp ((((J 34 (y1 + (y2 >>> ((6 : Int32) &&& 31))).toNatClampNeg).toUInt64 >>> ((((y2 &&& (63 : Int32)) : Int32)).toInt64.toUInt64 &&& Int64.toUInt64 63)).toInt64) &&& (1 : Int64)) (0 : Int64)) = 0) → True))
set_option maxHeartbeats 4000000 in
set_option maxRecDepth 100000 in
theorem Cm_has_n0 (g : pmG) (d : Nat) (ex : List (Nat × Nat)) (R : Nat → Nat → Value) (hR : pk_R R) (o : Outcome) (Z : pmM)  (y1 : Int32) (y2 : Int32) (I : Nat → Nat → Int32) (J : Nat → Nat → Int64) (hp : pCm_has y1 y2 I J) (ho : o = .returned (some (.int (fCm_has y1 y2 I J)))) (hz : Z = (pk_K ++ ex, R, I, J)) : pmE g kCm_has d 0 0 0 [(0, .ref 33), (1, .int y1), (2, .int y2)] [] (pk_K ++ ex) R I J o Z := by
  unfold pCm_has at hp
  refine pm_aload_n dCm_has_0 rfl ?_
  refine pm_getr dCm_has_1 fCm_11 rfl (rr_33_1 hR) ?_
  refine pm_iload_n dCm_has_4 rfl ?_
  refine pm_iload_n dCm_has_5 rfl ?_
  refine pm_bipush (v := 6) dCm_has_6 (by decide) ?_
  refine pm_ishr dCm_has_8 ?_
  refine pm_iadd dCm_has_9 ?_
  refine pm_lald dCm_has_10 rfl hp.1 ?_
  refine pm_iload_n dCm_has_11 rfl ?_
  refine pm_bipush (v := 63) dCm_has_12 (by decide) ?_
  refine pm_iand dCm_has_14 ?_
  refine pm_lushr dCm_has_15 ?_
  refine pm_lconst (v := 1) dCm_has_16 (by decide) ?_
  refine pm_land dCm_has_17 ?_
  refine pm_lconst (v := 0) dCm_has_18 (by decide) ?_
  refine pm_lcmp dCm_has_19 ?_
  refine pm_if_eq 27 dCm_has_20 (by decide) (fun h20 => ?_) (fun h20 => ?_)
  ·
    refine pm_iconst (v := 0) dCm_has_27 (by decide) ?_
    exact pm_zret dCm_has_28 rfl (by first | rfl | decide) (ho.trans (by first | (simp only [fCm_has, if_pos h20]; done) | (simp only [fCm_has, if_pos h20]; rfl) | rfl)) (hz.trans (by first | (simp only [fCm_has, if_pos h20]; done) | (simp only [fCm_has, if_pos h20]; rfl) | rfl))
  ·
    refine pm_iconst (v := 1) dCm_has_23 (by decide) ?_
    refine pm_goto 28 dCm_has_24 (by decide) ?_
    exact pm_zret dCm_has_28 rfl (by first | rfl | decide) (ho.trans (by first | (simp only [fCm_has, if_neg h20]; done) | (simp only [fCm_has, if_neg h20]; rfl) | rfl)) (hz.trans (by first | (simp only [fCm_has, if_neg h20]; done) | (simp only [fCm_has, if_neg h20]; rfl) | rfl))
set_option maxHeartbeats 4000000 in
set_option maxRecDepth 100000 in
theorem Cm_has_ok (g : pmG) (d : Nat) (ex : List (Nat × Nat)) (R : Nat → Nat → Value) (hR : pk_R R)  (x0 : Int32) (x1 : Int32) (I : Nat → Nat → Int32) (J : Nat → Nat → Int64) (hp : pCm_has x0 x1 I J) : pmC g kCm_has d 0 0 [.ref 33, .int x0, .int x1] (pk_K ++ ex, R, I, J) (.returned (some (.int (fCm_has x0 x1 I J)))) (pk_K ++ ex, R, I, J) :=
  pmC.of (by decide) (Nat.le_of_ble_eq_true rfl) (Cm_has_n0 g d ex R hR _ _  x0 x1 I J hp rfl rfl)
def fCm_put  (y1 : Int32) (y2 : Int32) (I : Nat → Nat → Int32) (J : Nat → Nat → Int64) : (Nat → Nat → Int64) :=
  pm_u J 34 (y1 + (y2 >>> ((6 : Int32) &&& 31))).toNatClampNeg ((J 34 (y1 + (y2 >>> ((6 : Int32) &&& 31))).toNatClampNeg) ||| ((1 : Int64) <<< ((((y2 &&& (63 : Int32)) : Int32)).toInt64 &&& 63)))
def pCm_put  (y1 : Int32) (y2 : Int32) (I : Nat → Nat → Int32) (J : Nat → Nat → Int64) : Prop :=
  (vp_in (y1 + (y2 >>> ((6 : Int32) &&& 31))) 624) ∧ ((vp_in (y1 + (y2 >>> ((6 : Int32) &&& 31))) 624) ∧ True)
set_option maxHeartbeats 4000000 in
set_option maxRecDepth 100000 in
theorem Cm_put_n0 (g : pmG) (d : Nat) (ex : List (Nat × Nat)) (R : Nat → Nat → Value) (hR : pk_R R) (o : Outcome) (Z : pmM)  (y1 : Int32) (y2 : Int32) (I : Nat → Nat → Int32) (J : Nat → Nat → Int64) (hp : pCm_put y1 y2 I J) (ho : o = .returned none) (hz : Z = (pk_K ++ ex, R, I, (fCm_put y1 y2 I J))) : pmE g kCm_put d 0 0 0 [(0, .ref 33), (1, .int y1), (2, .int y2)] [] (pk_K ++ ex) R I J o Z := by
  unfold pCm_put at hp
  refine pm_aload_n dCm_put_0 rfl ?_
  refine pm_getr dCm_put_1 fCm_11 rfl (rr_33_1 hR) ?_
  refine pm_iload_n dCm_put_4 rfl ?_
  refine pm_iload_n dCm_put_5 rfl ?_
  refine pm_bipush (v := 6) dCm_put_6 (by decide) ?_
  refine pm_ishr dCm_put_8 ?_
  refine pm_iadd dCm_put_9 ?_
  refine pm_dup2 dCm_put_10 rfl rfl ?_
  refine pm_lald dCm_put_11 rfl hp.1 ?_
  refine pm_lconst (v := 1) dCm_put_12 (by decide) ?_
  refine pm_iload_n dCm_put_13 rfl ?_
  refine pm_bipush (v := 63) dCm_put_14 (by decide) ?_
  refine pm_iand dCm_put_16 ?_
  refine pm_lshl dCm_put_17 ?_
  refine pm_lor dCm_put_18 ?_
  refine pm_last dCm_put_19 rfl hp.2.1 ?_
  exact pm_vret dCm_put_20 rfl ho (hz.trans (by first | rfl | (simp only [fCm_put]; done) | (simp only [fCm_put]; rfl)))
set_option maxHeartbeats 4000000 in
set_option maxRecDepth 100000 in
theorem Cm_put_ok (g : pmG) (d : Nat) (ex : List (Nat × Nat)) (R : Nat → Nat → Value) (hR : pk_R R)  (x0 : Int32) (x1 : Int32) (I : Nat → Nat → Int32) (J : Nat → Nat → Int64) (hp : pCm_put x0 x1 I J) : pmC g kCm_put d 0 0 [.ref 33, .int x0, .int x1] (pk_K ++ ex, R, I, J) (.returned none) (pk_K ++ ex, R, I, (fCm_put x0 x1 I J)) :=
  pmC.of (by decide) (Nat.le_of_ble_eq_true rfl) (Cm_put_n0 g d ex R hR _ _  x0 x1 I J hp rfl rfl)
def fCm_last  (I : Nat → Nat → Int32) (J : Nat → Nat → Int64) : Int32 :=
  if (I 33 2) ≤ (124 : Int32) then (124 : Int32)
  else (I 33 2) - (4 : Int32)
def pCm_last  (I : Nat → Nat → Int32) (J : Nat → Nat → Int64) : Prop :=
  ((I 33 2) ≤ (124 : Int32) → True) ∧
  (¬ ((I 33 2) ≤ (124 : Int32)) → True)
set_option maxHeartbeats 4000000 in
set_option maxRecDepth 100000 in
theorem Cm_last_n0 (g : pmG) (d : Nat) (ex : List (Nat × Nat)) (R : Nat → Nat → Value) (hR : pk_R R) (o : Outcome) (Z : pmM)  (I : Nat → Nat → Int32) (J : Nat → Nat → Int64) (hp : pCm_last I J) (ho : o = .returned (some (.int (fCm_last I J)))) (hz : Z = (pk_K ++ ex, R, I, J)) : pmE g kCm_last d 0 0 0 [(0, .ref 33)] [] (pk_K ++ ex) R I J o Z := by
  unfold pCm_last at hp
  refine pm_aload_n dCm_last_0 rfl ?_
  refine pm_geti dCm_last_1 fCm_26 rfl ?_
  refine pm_bipush (v := 124) dCm_last_4 (by decide) ?_
  refine pm_icmp_le 18 dCm_last_6 (by decide) (fun h6 => ?_) (fun h6 => ?_)
  ·
    refine pm_bipush (v := 124) dCm_last_18 (by decide) ?_
    exact pm_iret dCm_last_20 rfl (ho.trans (by first | (simp only [fCm_last, if_pos h6]; done) | (simp only [fCm_last, if_pos h6]; rfl) | rfl)) (hz.trans (by first | (simp only [fCm_last, if_pos h6]; done) | (simp only [fCm_last, if_pos h6]; rfl) | rfl))
  ·
    refine pm_aload_n dCm_last_9 rfl ?_
    refine pm_geti dCm_last_10 fCm_26 rfl ?_
    refine pm_iconst (v := 4) dCm_last_13 (by decide) ?_
    refine pm_isub dCm_last_14 ?_
    refine pm_goto 20 dCm_last_15 (by decide) ?_
    exact pm_iret dCm_last_20 rfl (ho.trans (by first | (simp only [fCm_last, if_neg h6]; done) | (simp only [fCm_last, if_neg h6]; rfl) | rfl)) (hz.trans (by first | (simp only [fCm_last, if_neg h6]; done) | (simp only [fCm_last, if_neg h6]; rfl) | rfl))
set_option maxHeartbeats 4000000 in
set_option maxRecDepth 100000 in
theorem Cm_last_ok (g : pmG) (d : Nat) (ex : List (Nat × Nat)) (R : Nat → Nat → Value) (hR : pk_R R)   (I : Nat → Nat → Int32) (J : Nat → Nat → Int64) (hp : pCm_last I J) : pmC g kCm_last d 0 0 [.ref 33] (pk_K ++ ex, R, I, J) (.returned (some (.int (fCm_last I J)))) (pk_K ++ ex, R, I, J) :=
  pmC.of (by decide) (Nat.le_of_ble_eq_true rfl) (Cm_last_n0 g d ex R hR _ _   I J hp rfl rfl)
def fCm_empty_2  : Nat → Int32 → Int32 → (Nat → Nat → Int32) → (Nat → Nat → Int64) → (Nat → Nat → Int64)
  | 0, _, _, _, J => J
  | n + 1, y1, y2, I, J =>
  if (4 : Int32) ≤ y2 then J
  else fCm_empty_2 n y1 (y2 + Int32.ofInt 1) I (pm_u J 34 (y1 + y2).toNatClampNeg (0 : Int64))
def pCm_empty_2  : Nat → Int32 → Int32 → (Nat → Nat → Int32) → (Nat → Nat → Int64) → Prop
  | 0, _, _, _, _ => False
  | n + 1, y1, y2, I, J =>
  ((4 : Int32) ≤ y2 → True) ∧
  (¬ ((4 : Int32) ≤ y2) → (vp_in (y1 + y2) 624) ∧ (pCm_empty_2 n y1 (y2 + Int32.ofInt 1) I (pm_u J 34 (y1 + y2).toNatClampNeg (0 : Int64))))
def fCm_empty (n2 : Nat) (y1 : Int32) (I : Nat → Nat → Int32) (J : Nat → Nat → Int64) : (Nat → Nat → Int64) :=
  fCm_empty_2 n2 y1 (0 : Int32) I J
def pCm_empty (n2 : Nat) (y1 : Int32) (I : Nat → Nat → Int32) (J : Nat → Nat → Int64) : Prop :=
  pCm_empty_2 n2 y1 (0 : Int32) I J
set_option maxHeartbeats 4000000 in
set_option maxRecDepth 100000 in
theorem Cm_empty_n2 (g : pmG) (d : Nat) (ex : List (Nat × Nat)) (R : Nat → Nat → Value) (hR : pk_R R) (o : Outcome) (Z : pmM)  : ∀ (n : Nat) (y1 : Int32) (y2 : Int32) (I : Nat → Nat → Int32) (J : Nat → Nat → Int64), pCm_empty_2 n y1 y2 I J → o = .returned none → Z = (pk_K ++ ex, R, I, (fCm_empty_2 n y1 y2 I J)) → pmE g kCm_empty d 0 0 2 [(0, .ref 33), (1, .int y1), (2, .int y2)] [] (pk_K ++ ex) R I J o Z := by
  intro n
  induction n with
  | zero => intro y1 y2 I J hp; exact False.elim hp
  | succ n ih =>
  intro y1 y2 I J hp ho hz
  simp only [pCm_empty_2] at hp
  refine pm_iload_n dCm_empty_2 rfl ?_
  refine pm_iconst (v := 4) dCm_empty_3 (by decide) ?_
  refine pm_icmp_ge 22 dCm_empty_4 (by decide) (fun h4 => ?_) (fun h4 => ?_)
  ·
    exact pm_vret dCm_empty_22 rfl ho (hz.trans (by first | (simp only [fCm_empty_2, if_pos h4]; done) | (simp only [fCm_empty_2, if_pos h4]; rfl) | rfl))
  ·
    refine pm_aload_n dCm_empty_7 rfl ?_
    refine pm_getr dCm_empty_8 fCm_11 rfl (rr_33_1 hR) ?_
    refine pm_iload_n dCm_empty_11 rfl ?_
    refine pm_iload_n dCm_empty_12 rfl ?_
    refine pm_iadd dCm_empty_13 ?_
    refine pm_lconst (v := 0) dCm_empty_14 (by decide) ?_
    refine pm_last dCm_empty_15 rfl (hp.2 h4).1 ?_
    refine pm_iinc dCm_empty_16 rfl (by decide) rfl ?_
    refine pm_goto 2 dCm_empty_19 (by decide) ?_
    refine pm_wk [1, 2, 0] rfl ?_
    exact ih _ _ _ _ (hp.2 h4).2 ho (hz.trans (by first | (simp only [fCm_empty_2, if_neg h4]; done) | (simp only [fCm_empty_2, if_neg h4]; rfl) | rfl))
set_option maxHeartbeats 4000000 in
set_option maxRecDepth 100000 in
theorem Cm_empty_n0 (g : pmG) (d : Nat) (ex : List (Nat × Nat)) (R : Nat → Nat → Value) (hR : pk_R R) (o : Outcome) (Z : pmM) (n2 : Nat) (y1 : Int32) (I : Nat → Nat → Int32) (J : Nat → Nat → Int64) (hp : pCm_empty n2 y1 I J) (ho : o = .returned none) (hz : Z = (pk_K ++ ex, R, I, (fCm_empty n2 y1 I J))) : pmE g kCm_empty d 0 0 0 [(0, .ref 33), (1, .int y1)] [] (pk_K ++ ex) R I J o Z := by
  unfold pCm_empty at hp
  refine pm_iconst (v := 0) dCm_empty_0 (by decide) ?_
  refine pm_istore_n dCm_empty_1 (by decide) rfl ?_
  refine pm_wk [1, 2, 0] rfl ?_
  exact Cm_empty_n2 g d ex R hR _ _  n2 _ _ _ _ hp ho (hz.trans (by first | rfl | (simp only [fCm_empty]; done) | (simp only [fCm_empty]; rfl)))
set_option maxHeartbeats 4000000 in
set_option maxRecDepth 100000 in
theorem Cm_empty_ok (g : pmG) (d : Nat) (ex : List (Nat × Nat)) (R : Nat → Nat → Value) (hR : pk_R R) (n2 : Nat) (x0 : Int32) (I : Nat → Nat → Int32) (J : Nat → Nat → Int64) (hp : pCm_empty n2 x0 I J) : pmC g kCm_empty d 0 0 [.ref 33, .int x0] (pk_K ++ ex, R, I, J) (.returned none) (pk_K ++ ex, R, I, (fCm_empty n2 x0 I J)) :=
  pmC.of (by decide) (Nat.le_of_ble_eq_true rfl) (Cm_empty_n0 g d ex R hR _ _ n2 x0 I J hp rfl rfl)
def fCm_turn_2  : Nat → Int32 → Int32 → (Nat → Nat → Int32) → (Nat → Nat → Int64) → (Nat → Nat → Int64)
  | 0, _, _, _, J => J
  | n + 1, y1, y2, I, J =>
  if (4 : Int32) ≤ y2 then J
  else fCm_turn_2 n y1 (y2 + Int32.ofInt 1) I (pm_u J 34 (y1 + y2).toNatClampNeg ((J 34 (y1 + y2).toNatClampNeg) ^^^ (J 34 ((120 : Int32) + y2).toNatClampNeg)))
def pCm_turn_2  : Nat → Int32 → Int32 → (Nat → Nat → Int32) → (Nat → Nat → Int64) → Prop
  | 0, _, _, _, _ => False
  | n + 1, y1, y2, I, J =>
  ((4 : Int32) ≤ y2 → True) ∧
  (¬ ((4 : Int32) ≤ y2) → (vp_in (y1 + y2) 624) ∧ ((vp_in ((120 : Int32) + y2) 624) ∧ ((vp_in (y1 + y2) 624) ∧ (pCm_turn_2 n y1 (y2 + Int32.ofInt 1) I (pm_u J 34 (y1 + y2).toNatClampNeg ((J 34 (y1 + y2).toNatClampNeg) ^^^ (J 34 ((120 : Int32) + y2).toNatClampNeg)))))))
def fCm_turn (n2 : Nat) (y1 : Int32) (I : Nat → Nat → Int32) (J : Nat → Nat → Int64) : (Nat → Nat → Int64) :=
  fCm_turn_2 n2 y1 (0 : Int32) I J
def pCm_turn (n2 : Nat) (y1 : Int32) (I : Nat → Nat → Int32) (J : Nat → Nat → Int64) : Prop :=
  pCm_turn_2 n2 y1 (0 : Int32) I J
set_option maxHeartbeats 4000000 in
set_option maxRecDepth 100000 in
theorem Cm_turn_n2 (g : pmG) (d : Nat) (ex : List (Nat × Nat)) (R : Nat → Nat → Value) (hR : pk_R R) (o : Outcome) (Z : pmM)  : ∀ (n : Nat) (y1 : Int32) (y2 : Int32) (I : Nat → Nat → Int32) (J : Nat → Nat → Int64), pCm_turn_2 n y1 y2 I J → o = .returned none → Z = (pk_K ++ ex, R, I, (fCm_turn_2 n y1 y2 I J)) → pmE g kCm_turn d 0 0 2 [(0, .ref 33), (1, .int y1), (2, .int y2)] [] (pk_K ++ ex) R I J o Z := by
  intro n
  induction n with
  | zero => intro y1 y2 I J hp; exact False.elim hp
  | succ n ih =>
  intro y1 y2 I J hp ho hz
  simp only [pCm_turn_2] at hp
  refine pm_iload_n dCm_turn_2 rfl ?_
  refine pm_iconst (v := 4) dCm_turn_3 (by decide) ?_
  refine pm_icmp_ge 33 dCm_turn_4 (by decide) (fun h4 => ?_) (fun h4 => ?_)
  ·
    exact pm_vret dCm_turn_33 rfl ho (hz.trans (by first | (simp only [fCm_turn_2, if_pos h4]; done) | (simp only [fCm_turn_2, if_pos h4]; rfl) | rfl))
  ·
    refine pm_aload_n dCm_turn_7 rfl ?_
    refine pm_getr dCm_turn_8 fCm_11 rfl (rr_33_1 hR) ?_
    refine pm_iload_n dCm_turn_11 rfl ?_
    refine pm_iload_n dCm_turn_12 rfl ?_
    refine pm_iadd dCm_turn_13 ?_
    refine pm_dup2 dCm_turn_14 rfl rfl ?_
    refine pm_lald dCm_turn_15 rfl (hp.2 h4).1 ?_
    refine pm_aload_n dCm_turn_16 rfl ?_
    refine pm_getr dCm_turn_17 fCm_11 rfl (rr_33_1 hR) ?_
    refine pm_bipush (v := 120) dCm_turn_20 (by decide) ?_
    refine pm_iload_n dCm_turn_22 rfl ?_
    refine pm_iadd dCm_turn_23 ?_
    refine pm_lald dCm_turn_24 rfl (hp.2 h4).2.1 ?_
    refine pm_lxor dCm_turn_25 ?_
    refine pm_last dCm_turn_26 rfl (hp.2 h4).2.2.1 ?_
    refine pm_iinc dCm_turn_27 rfl (by decide) rfl ?_
    refine pm_goto 2 dCm_turn_30 (by decide) ?_
    refine pm_wk [1, 2, 0] rfl ?_
    exact ih _ _ _ _ (hp.2 h4).2.2.2 ho (hz.trans (by first | (simp only [fCm_turn_2, if_neg h4]; done) | (simp only [fCm_turn_2, if_neg h4]; rfl) | rfl))
set_option maxHeartbeats 4000000 in
set_option maxRecDepth 100000 in
theorem Cm_turn_n0 (g : pmG) (d : Nat) (ex : List (Nat × Nat)) (R : Nat → Nat → Value) (hR : pk_R R) (o : Outcome) (Z : pmM) (n2 : Nat) (y1 : Int32) (I : Nat → Nat → Int32) (J : Nat → Nat → Int64) (hp : pCm_turn n2 y1 I J) (ho : o = .returned none) (hz : Z = (pk_K ++ ex, R, I, (fCm_turn n2 y1 I J))) : pmE g kCm_turn d 0 0 0 [(0, .ref 33), (1, .int y1)] [] (pk_K ++ ex) R I J o Z := by
  unfold pCm_turn at hp
  refine pm_iconst (v := 0) dCm_turn_0 (by decide) ?_
  refine pm_istore_n dCm_turn_1 (by decide) rfl ?_
  refine pm_wk [1, 2, 0] rfl ?_
  exact Cm_turn_n2 g d ex R hR _ _  n2 _ _ _ _ hp ho (hz.trans (by first | rfl | (simp only [fCm_turn]; done) | (simp only [fCm_turn]; rfl)))
set_option maxHeartbeats 4000000 in
set_option maxRecDepth 100000 in
theorem Cm_turn_ok (g : pmG) (d : Nat) (ex : List (Nat × Nat)) (R : Nat → Nat → Value) (hR : pk_R R) (n2 : Nat) (x0 : Int32) (I : Nat → Nat → Int32) (J : Nat → Nat → Int64) (hp : pCm_turn n2 x0 I J) : pmC g kCm_turn d 0 0 [.ref 33, .int x0] (pk_K ++ ex, R, I, J) (.returned none) (pk_K ++ ex, R, I, (fCm_turn n2 x0 I J)) :=
  pmC.of (by decide) (Nat.le_of_ble_eq_true rfl) (Cm_turn_n0 g d ex R hR _ _ n2 x0 I J hp rfl rfl)
def fCm_pop_24  (y1 : Int32) (I : Nat → Nat → Int32) (J : Nat → Nat → Int64) : Int32 × (Nat → Nat → Int32) :=
  (y1, I)
def pCm_pop_24  (y1 : Int32) (I : Nat → Nat → Int32) (J : Nat → Nat → Int64) : Prop :=
  True
def fCm_pop  (I : Nat → Nat → Int32) (J : Nat → Nat → Int64) : Int32 × (Nat → Nat → Int32) :=
  if (I 33 2) ≤ (124 : Int32) then fCm_pop_24 ((fCm_last I J)) I J
  else fCm_pop_24 ((fCm_last I J)) (pm_u I 33 2 ((I 33 2) - (4 : Int32))) J
def pCm_pop  (I : Nat → Nat → Int32) (J : Nat → Nat → Int64) : Prop :=
  (pCm_last I J) ∧ (((I 33 2) ≤ (124 : Int32) → pCm_pop_24 ((fCm_last I J)) I J) ∧
  (¬ ((I 33 2) ≤ (124 : Int32)) → pCm_pop_24 ((fCm_last I J)) (pm_u I 33 2 ((I 33 2) - (4 : Int32))) J))
set_option maxHeartbeats 4000000 in
set_option maxRecDepth 100000 in
theorem Cm_pop_n24 (g : pmG) (d : Nat) (ex : List (Nat × Nat)) (R : Nat → Nat → Value) (hR : pk_R R) (o : Outcome) (Z : pmM)  (y1 : Int32) (I : Nat → Nat → Int32) (J : Nat → Nat → Int64) (hp : pCm_pop_24 y1 I J) (ho : o = .returned (some (.int (fCm_pop_24 y1 I J).1))) (hz : Z = (pk_K ++ ex, R, (fCm_pop_24 y1 I J).2, J)) : pmE g kCm_pop (d + 1) 0 0 24 [(0, .ref 33), (1, .int y1)] [] (pk_K ++ ex) R I J o Z := by
  unfold pCm_pop_24 at hp
  refine pm_iload_n dCm_pop_24 rfl ?_
  exact pm_iret dCm_pop_25 rfl (ho.trans (by first | rfl | (simp only [fCm_pop_24]; done) | (simp only [fCm_pop_24]; rfl))) (hz.trans (by first | rfl | (simp only [fCm_pop_24]; done) | (simp only [fCm_pop_24]; rfl)))
set_option maxHeartbeats 4000000 in
set_option maxRecDepth 100000 in
theorem Cm_pop_n0 (g : pmG) (d : Nat) (ex : List (Nat × Nat)) (R : Nat → Nat → Value) (hR : pk_R R) (o : Outcome) (Z : pmM)  (I : Nat → Nat → Int32) (J : Nat → Nat → Int64) (hp : pCm_pop I J) (ho : o = .returned (some (.int (fCm_pop I J).1))) (hz : Z = (pk_K ++ ex, R, (fCm_pop I J).2, J)) : pmE g kCm_pop (d + 1) 0 0 0 [(0, .ref 33)] [] (pk_K ++ ex) R I J o Z := by
  unfold pCm_pop at hp
  refine pm_aload_n dCm_pop_0 rfl ?_
  refine pm_callV dCm_pop_1 lCm_83 vCm_last ⟨_, _, rfl⟩ (Cm_last_ok _ _ _ _ hR  _ _ hp.1) rfl rfl rfl (Nat.le_of_ble_eq_true rfl) (Nat.le_refl _) (Nat.le_refl _) ?_
  refine pm_istore_n dCm_pop_4 (by decide) rfl ?_
  refine pm_aload_n dCm_pop_5 rfl ?_
  refine pm_geti dCm_pop_6 fCm_26 rfl ?_
  refine pm_bipush (v := 124) dCm_pop_9 (by decide) ?_
  refine pm_icmp_le 24 dCm_pop_11 (by decide) (fun h11 => ?_) (fun h11 => ?_)
  ·
    refine pm_wk [1, 0] rfl ?_
    exact Cm_pop_n24 g d ex R hR _ _   _ _ _ (hp.2.1 h11) (ho.trans (by first | (simp only [fCm_pop, if_pos h11]; done) | (simp only [fCm_pop, if_pos h11]; rfl) | rfl)) (hz.trans (by first | (simp only [fCm_pop, if_pos h11]; done) | (simp only [fCm_pop, if_pos h11]; rfl) | rfl))
  ·
    refine pm_aload_n dCm_pop_14 rfl ?_
    refine pm_dup dCm_pop_15 rfl ?_
    refine pm_geti dCm_pop_16 fCm_26 rfl ?_
    refine pm_iconst (v := 4) dCm_pop_19 (by decide) ?_
    refine pm_isub dCm_pop_20 ?_
    refine pm_puti dCm_pop_21 fCm_26 sCm_26 (fun h => by cases h) rfl rfl rfl ?_
    refine pm_wk [1, 0] rfl ?_
    exact Cm_pop_n24 g d ex R hR _ _   _ _ _ (hp.2.2 h11) (ho.trans (by first | (simp only [fCm_pop, if_neg h11]; done) | (simp only [fCm_pop, if_neg h11]; rfl) | rfl)) (hz.trans (by first | (simp only [fCm_pop, if_neg h11]; done) | (simp only [fCm_pop, if_neg h11]; rfl) | rfl))
set_option maxHeartbeats 4000000 in
set_option maxRecDepth 100000 in
theorem Cm_pop_ok (g : pmG) (d : Nat) (ex : List (Nat × Nat)) (R : Nat → Nat → Value) (hR : pk_R R)   (I : Nat → Nat → Int32) (J : Nat → Nat → Int64) (hp : pCm_pop I J) : pmC g kCm_pop (d + 1) 0 0 [.ref 33] (pk_K ++ ex, R, I, J) (.returned (some (.int (fCm_pop I J).1))) (pk_K ++ ex, R, (fCm_pop I J).2, J) :=
  pmC.of (by decide) (Nat.le_of_ble_eq_true rfl) (Cm_pop_n0 g d ex R hR _ _   I J hp rfl rfl)
def fCm_pushEmpty_32  (I : Nat → Nat → Int32) (J : Nat → Nat → Int64) : Int32 × (Nat → Nat → Int32) × (Nat → Nat → Int64) :=
  ((fCm_last I J), I, J)
def pCm_pushEmpty_32  (I : Nat → Nat → Int32) (J : Nat → Nat → Int64) : Prop :=
  (pCm_last I J) ∧ True
def fCm_pushEmpty_24  (I : Nat → Nat → Int32) (J : Nat → Nat → Int64) : Int32 × (Nat → Nat → Int32) × (Nat → Nat → Int64) :=
  fCm_pushEmpty_32 I ((fCm_empty 5 ((fCm_last I J)) I J))
def pCm_pushEmpty_24  (I : Nat → Nat → Int32) (J : Nat → Nat → Int64) : Prop :=
  (pCm_last I J) ∧ ((pCm_empty 5 ((fCm_last I J)) I J) ∧ (pCm_pushEmpty_32 I ((fCm_empty 5 ((fCm_last I J)) I J))))
def fCm_pushEmpty  (I : Nat → Nat → Int32) (J : Nat → Nat → Int64) : Int32 × (Nat → Nat → Int32) × (Nat → Nat → Int64) :=
  if (624 : Int32) < ((I 33 2) + (4 : Int32)) then fCm_pushEmpty_24 I J
  else fCm_pushEmpty_24 (pm_u I 33 2 ((I 33 2) + (4 : Int32))) J
def pCm_pushEmpty  (I : Nat → Nat → Int32) (J : Nat → Nat → Int64) : Prop :=
  ((624 : Int32) < ((I 33 2) + (4 : Int32)) → pCm_pushEmpty_24 I J) ∧
  (¬ ((624 : Int32) < ((I 33 2) + (4 : Int32))) → pCm_pushEmpty_24 (pm_u I 33 2 ((I 33 2) + (4 : Int32))) J)
set_option maxHeartbeats 4000000 in
set_option maxRecDepth 100000 in
theorem Cm_pushEmpty_n32 (g : pmG) (d : Nat) (ex : List (Nat × Nat)) (R : Nat → Nat → Value) (hR : pk_R R) (o : Outcome) (Z : pmM)  (I : Nat → Nat → Int32) (J : Nat → Nat → Int64) (hp : pCm_pushEmpty_32 I J) (ho : o = .returned (some (.int (fCm_pushEmpty_32 I J).1))) (hz : Z = (pk_K ++ ex, R, (fCm_pushEmpty_32 I J).2.1, (fCm_pushEmpty_32 I J).2.2)) : pmE g kCm_pushEmpty (d + 1) 0 0 32 [(0, .ref 33)] [] (pk_K ++ ex) R I J o Z := by
  unfold pCm_pushEmpty_32 at hp
  refine pm_aload_n dCm_pushEmpty_32 rfl ?_
  refine pm_callV dCm_pushEmpty_33 lCm_83 vCm_last ⟨_, _, rfl⟩ (Cm_last_ok _ _ _ _ hR  _ _ hp.1) rfl rfl rfl (Nat.le_of_ble_eq_true rfl) (Nat.le_refl _) (Nat.le_refl _) ?_
  exact pm_iret dCm_pushEmpty_36 rfl (ho.trans (by first | rfl | (simp only [fCm_pushEmpty_32]; done) | (simp only [fCm_pushEmpty_32]; rfl))) (hz.trans (by first | rfl | (simp only [fCm_pushEmpty_32]; done) | (simp only [fCm_pushEmpty_32]; rfl)))
set_option maxHeartbeats 4000000 in
set_option maxRecDepth 100000 in
theorem Cm_pushEmpty_n24 (g : pmG) (d : Nat) (ex : List (Nat × Nat)) (R : Nat → Nat → Value) (hR : pk_R R) (o : Outcome) (Z : pmM)  (I : Nat → Nat → Int32) (J : Nat → Nat → Int64) (hp : pCm_pushEmpty_24 I J) (ho : o = .returned (some (.int (fCm_pushEmpty_24 I J).1))) (hz : Z = (pk_K ++ ex, R, (fCm_pushEmpty_24 I J).2.1, (fCm_pushEmpty_24 I J).2.2)) : pmE g kCm_pushEmpty (d + 1) 0 0 24 [(0, .ref 33)] [] (pk_K ++ ex) R I J o Z := by
  unfold pCm_pushEmpty_24 at hp
  refine pm_aload_n dCm_pushEmpty_24 rfl ?_
  refine pm_aload_n dCm_pushEmpty_25 rfl ?_
  refine pm_callV dCm_pushEmpty_26 lCm_83 vCm_last ⟨_, _, rfl⟩ (Cm_last_ok _ _ _ _ hR  _ _ hp.1) rfl rfl rfl (Nat.le_of_ble_eq_true rfl) (Nat.le_refl _) (Nat.le_refl _) ?_
  refine pm_callV dCm_pushEmpty_29 lCm_30 vCm_empty ⟨_, _, rfl⟩ (Cm_empty_ok _ _ _ _ hR _ _ _ _ hp.2.1) rfl rfl rfl (Nat.le_of_ble_eq_true rfl) (Nat.le_refl _) (Nat.le_refl _) ?_
  refine pm_wk [0] rfl ?_
  exact Cm_pushEmpty_n32 g d ex R hR _ _   _ _ hp.2.2 (ho.trans (by first | rfl | (simp only [fCm_pushEmpty_24]; done) | (simp only [fCm_pushEmpty_24]; rfl))) (hz.trans (by first | rfl | (simp only [fCm_pushEmpty_24]; done) | (simp only [fCm_pushEmpty_24]; rfl)))
set_option maxHeartbeats 4000000 in
set_option maxRecDepth 100000 in
theorem Cm_pushEmpty_n0 (g : pmG) (d : Nat) (ex : List (Nat × Nat)) (R : Nat → Nat → Value) (hR : pk_R R) (o : Outcome) (Z : pmM)  (I : Nat → Nat → Int32) (J : Nat → Nat → Int64) (hp : pCm_pushEmpty I J) (ho : o = .returned (some (.int (fCm_pushEmpty I J).1))) (hz : Z = (pk_K ++ ex, R, (fCm_pushEmpty I J).2.1, (fCm_pushEmpty I J).2.2)) : pmE g kCm_pushEmpty (d + 1) 0 0 0 [(0, .ref 33)] [] (pk_K ++ ex) R I J o Z := by
  unfold pCm_pushEmpty at hp
  refine pm_aload_n dCm_pushEmpty_0 rfl ?_
  refine pm_geti dCm_pushEmpty_1 fCm_26 rfl ?_
  refine pm_iconst (v := 4) dCm_pushEmpty_4 (by decide) ?_
  refine pm_iadd dCm_pushEmpty_5 ?_
  refine pm_aload_n dCm_pushEmpty_6 rfl ?_
  refine pm_getr dCm_pushEmpty_7 fCm_11 rfl (rr_33_1 hR) ?_
  refine pm_alen (v := 624) dCm_pushEmpty_10 rfl (Or.inr (Or.inr (Or.inr rfl))) (by decide) ?_
  refine pm_icmp_gt 24 dCm_pushEmpty_11 (by decide) (fun h11 => ?_) (fun h11 => ?_)
  ·
    refine pm_wk [0] rfl ?_
    exact Cm_pushEmpty_n24 g d ex R hR _ _   _ _ (hp.1 h11) (ho.trans (by first | (simp only [fCm_pushEmpty, if_pos h11]; done) | (simp only [fCm_pushEmpty, if_pos h11]; rfl) | rfl)) (hz.trans (by first | (simp only [fCm_pushEmpty, if_pos h11]; done) | (simp only [fCm_pushEmpty, if_pos h11]; rfl) | rfl))
  ·
    refine pm_aload_n dCm_pushEmpty_14 rfl ?_
    refine pm_dup dCm_pushEmpty_15 rfl ?_
    refine pm_geti dCm_pushEmpty_16 fCm_26 rfl ?_
    refine pm_iconst (v := 4) dCm_pushEmpty_19 (by decide) ?_
    refine pm_iadd dCm_pushEmpty_20 ?_
    refine pm_puti dCm_pushEmpty_21 fCm_26 sCm_26 (fun h => by cases h) rfl rfl rfl ?_
    refine pm_wk [0] rfl ?_
    exact Cm_pushEmpty_n24 g d ex R hR _ _   _ _ (hp.2 h11) (ho.trans (by first | (simp only [fCm_pushEmpty, if_neg h11]; done) | (simp only [fCm_pushEmpty, if_neg h11]; rfl) | rfl)) (hz.trans (by first | (simp only [fCm_pushEmpty, if_neg h11]; done) | (simp only [fCm_pushEmpty, if_neg h11]; rfl) | rfl))
set_option maxHeartbeats 4000000 in
set_option maxRecDepth 100000 in
theorem Cm_pushEmpty_ok (g : pmG) (d : Nat) (ex : List (Nat × Nat)) (R : Nat → Nat → Value) (hR : pk_R R)   (I : Nat → Nat → Int32) (J : Nat → Nat → Int64) (hp : pCm_pushEmpty I J) : pmC g kCm_pushEmpty (d + 1) 0 0 [.ref 33] (pk_K ++ ex, R, I, J) (.returned (some (.int (fCm_pushEmpty I J).1))) (pk_K ++ ex, R, (fCm_pushEmpty I J).2.1, (fCm_pushEmpty I J).2.2) :=
  pmC.of (by decide) (Nat.le_of_ble_eq_true rfl) (Cm_pushEmpty_n0 g d ex R hR _ _   I J hp rfl rfl)
def fCm_enqueue  (y1 : Int32) (I : Nat → Nat → Int32) (J : Nat → Nat → Int64) : (Nat → Nat → Int32) :=
  if (256 : Int32) ≤ (I 33 4) then I
  else pm_u (pm_u I 35 (I 33 4).toNatClampNeg y1) 33 4 ((I 33 4) + (1 : Int32))
def pCm_enqueue  (y1 : Int32) (I : Nat → Nat → Int32) (J : Nat → Nat → Int64) : Prop :=
  ((256 : Int32) ≤ (I 33 4) → True) ∧
  (¬ ((256 : Int32) ≤ (I 33 4)) → (vp_in (I 33 4) 256) ∧ True)
set_option maxHeartbeats 4000000 in
set_option maxRecDepth 100000 in
theorem Cm_enqueue_n0 (g : pmG) (d : Nat) (ex : List (Nat × Nat)) (R : Nat → Nat → Value) (hR : pk_R R) (o : Outcome) (Z : pmM)  (y1 : Int32) (I : Nat → Nat → Int32) (J : Nat → Nat → Int64) (hp : pCm_enqueue y1 I J) (ho : o = .returned none) (hz : Z = (pk_K ++ ex, R, (fCm_enqueue y1 I J), J)) : pmE g kCm_enqueue d 0 0 0 [(0, .ref 33), (1, .int y1)] [] (pk_K ++ ex) R I J o Z := by
  unfold pCm_enqueue at hp
  refine pm_aload_n dCm_enqueue_0 rfl ?_
  refine pm_geti dCm_enqueue_1 fCm_114 rfl ?_
  refine pm_sipush (v := 256) dCm_enqueue_4 (by decide) ?_
  refine pm_icmp_ge 30 dCm_enqueue_7 (by decide) (fun h7 => ?_) (fun h7 => ?_)
  ·
    exact pm_vret dCm_enqueue_30 rfl ho (hz.trans (by first | (simp only [fCm_enqueue, if_pos h7]; done) | (simp only [fCm_enqueue, if_pos h7]; rfl) | rfl))
  ·
    refine pm_aload_n dCm_enqueue_10 rfl ?_
    refine pm_getr dCm_enqueue_11 fCm_15 rfl (rr_33_3 hR) ?_
    refine pm_aload_n dCm_enqueue_14 rfl ?_
    refine pm_geti dCm_enqueue_15 fCm_114 rfl ?_
    refine pm_iload_n dCm_enqueue_18 rfl ?_
    refine pm_iast dCm_enqueue_19 rfl (hp.2 h7).1 ?_
    refine pm_aload_n dCm_enqueue_20 rfl ?_
    refine pm_dup dCm_enqueue_21 rfl ?_
    refine pm_geti dCm_enqueue_22 fCm_114 rfl ?_
    refine pm_eqi (I 33 4) rfl ?_
    refine pm_iconst (v := 1) dCm_enqueue_25 (by decide) ?_
    refine pm_iadd dCm_enqueue_26 ?_
    refine pm_puti dCm_enqueue_27 fCm_114 sCm_114 (fun h => by cases h) rfl rfl rfl ?_
    exact pm_vret dCm_enqueue_30 rfl ho (hz.trans (by first | (simp only [fCm_enqueue, if_neg h7]; done) | (simp only [fCm_enqueue, if_neg h7]; rfl) | rfl))
set_option maxHeartbeats 4000000 in
set_option maxRecDepth 100000 in
theorem Cm_enqueue_ok (g : pmG) (d : Nat) (ex : List (Nat × Nat)) (R : Nat → Nat → Value) (hR : pk_R R)  (x0 : Int32) (I : Nat → Nat → Int32) (J : Nat → Nat → Int64) (hp : pCm_enqueue x0 I J) : pmC g kCm_enqueue d 0 0 [.ref 33, .int x0] (pk_K ++ ex, R, I, J) (.returned none) (pk_K ++ ex, R, (fCm_enqueue x0 I J), J) :=
  pmC.of (by decide) (Nat.le_of_ble_eq_true rfl) (Cm_enqueue_n0 g d ex R hR _ _  x0 I J hp rfl rfl)
def fCm_isSo  (y1 : Int32) (y2 : Int32) (I : Nat → Nat → Int32) (J : Nat → Nat → Int64) : Int32 :=
  (fCm_has (y1 * (4 : Int32)) y2 I J)
def pCm_isSo  (y1 : Int32) (y2 : Int32) (I : Nat → Nat → Int32) (J : Nat → Nat → Int64) : Prop :=
  (pCm_has (y1 * (4 : Int32)) y2 I J) ∧ (narrow .boolean (.int ((fCm_has (y1 * (4 : Int32)) y2 I J))) = .int ((fCm_has (y1 * (4 : Int32)) y2 I J)))
set_option maxHeartbeats 4000000 in
set_option maxRecDepth 100000 in
theorem Cm_isSo_n0 (g : pmG) (d : Nat) (ex : List (Nat × Nat)) (R : Nat → Nat → Value) (hR : pk_R R) (o : Outcome) (Z : pmM)  (y1 : Int32) (y2 : Int32) (I : Nat → Nat → Int32) (J : Nat → Nat → Int64) (hp : pCm_isSo y1 y2 I J) (ho : o = .returned (some (.int (fCm_isSo y1 y2 I J)))) (hz : Z = (pk_K ++ ex, R, I, J)) : pmE g kCm_isSo (d + 1) 0 0 0 [(0, .ref 33), (1, .int y1), (2, .int y2)] [] (pk_K ++ ex) R I J o Z := by
  unfold pCm_isSo at hp
  refine pm_aload_n dCm_isSo_0 rfl ?_
  refine pm_iload_n dCm_isSo_1 rfl ?_
  refine pm_iconst (v := 4) dCm_isSo_2 (by decide) ?_
  refine pm_imul dCm_isSo_3 ?_
  refine pm_iload_n dCm_isSo_4 rfl ?_
  refine pm_callV dCm_isSo_5 lCm_43 vCm_has ⟨_, _, rfl⟩ (Cm_has_ok _ _ _ _ hR _ _ _ _ hp.1) rfl rfl rfl (Nat.le_of_ble_eq_true rfl) (Nat.le_refl _) (Nat.le_refl _) ?_
  exact pm_zret dCm_isSo_8 rfl hp.2 (ho.trans (by first | rfl | (simp only [fCm_isSo]; done) | (simp only [fCm_isSo]; rfl))) (hz.trans (by first | rfl | (simp only [fCm_isSo]; done) | (simp only [fCm_isSo]; rfl)))
set_option maxHeartbeats 4000000 in
set_option maxRecDepth 100000 in
theorem Cm_isSo_ok (g : pmG) (d : Nat) (ex : List (Nat × Nat)) (R : Nat → Nat → Value) (hR : pk_R R)  (x0 : Int32) (x1 : Int32) (I : Nat → Nat → Int32) (J : Nat → Nat → Int64) (hp : pCm_isSo x0 x1 I J) : pmC g kCm_isSo (d + 1) 0 0 [.ref 33, .int x0, .int x1] (pk_K ++ ex, R, I, J) (.returned (some (.int (fCm_isSo x0 x1 I J)))) (pk_K ++ ex, R, I, J) :=
  pmC.of (by decide) (Nat.le_of_ble_eq_true rfl) (Cm_isSo_n0 g d ex R hR _ _  x0 x1 I J hp rfl rfl)
def fCm_begin_32 (r14 : Int32 → (Nat → Nat → Int32) → (Nat → Nat → Int64) → (Nat → Nat → Int32) × (Nat → Nat → Int64)) (y1 : Int32) (I : Nat → Nat → Int32) (J : Nat → Nat → Int64) : (Nat → Nat → Int32) × (Nat → Nat → Int64) :=
  r14 (y1 + Int32.ofInt 1) I J
def pCm_begin_32 (q14 : Int32 → (Nat → Nat → Int32) → (Nat → Nat → Int64) → Prop) (y1 : Int32) (I : Nat → Nat → Int32) (J : Nat → Nat → Int64) : Prop :=
  q14 (y1 + Int32.ofInt 1) I J
def fCm_begin_14  : Nat → Int32 → (Nat → Nat → Int32) → (Nat → Nat → Int64) → (Nat → Nat → Int32) × (Nat → Nat → Int64)
  | 0, _, I, J => (I, J)
  | n + 1, y1, I, J =>
  if (I 25 1) ≤ y1 then (I, J)
  else fCm_begin_32 (fCm_begin_14 n) y1 I ((fCm_put (120 : Int32) y1 I J))
def pCm_begin_14  : Nat → Int32 → (Nat → Nat → Int32) → (Nat → Nat → Int64) → Prop
  | 0, _, _, _ => False
  | n + 1, y1, I, J =>
  ((I 25 1) ≤ y1 → True) ∧
  (¬ ((I 25 1) ≤ y1) → (pCm_put (120 : Int32) y1 I J) ∧ (pCm_begin_32 (pCm_begin_14 n) y1 I ((fCm_put (120 : Int32) y1 I J))))
def fCm_begin_12 (n14 : Nat) (I : Nat → Nat → Int32) (J : Nat → Nat → Int64) : (Nat → Nat → Int32) × (Nat → Nat → Int64) :=
  fCm_begin_14 n14 (0 : Int32) I J
def pCm_begin_12 (n14 : Nat) (I : Nat → Nat → Int32) (J : Nat → Nat → Int64) : Prop :=
  pCm_begin_14 n14 (0 : Int32) I J
def fCm_begin (n14 : Nat) (I : Nat → Nat → Int32) (J : Nat → Nat → Int64) : (Nat → Nat → Int32) × (Nat → Nat → Int64) :=
  fCm_begin_12 n14 (pm_u I 33 2 (124 : Int32)) ((fCm_empty 5 (120 : Int32) (pm_u I 33 2 (124 : Int32)) J))
def pCm_begin (n14 : Nat) (I : Nat → Nat → Int32) (J : Nat → Nat → Int64) : Prop :=
  (pCm_empty 5 (120 : Int32) (pm_u I 33 2 (124 : Int32)) J) ∧ (pCm_begin_12 n14 (pm_u I 33 2 (124 : Int32)) ((fCm_empty 5 (120 : Int32) (pm_u I 33 2 (124 : Int32)) J)))
set_option maxHeartbeats 4000000 in
set_option maxRecDepth 100000 in
theorem Cm_begin_n32 (g : pmG) (d : Nat) (ex : List (Nat × Nat)) (R : Nat → Nat → Value) (hR : pk_R R) (o : Outcome) (Z : pmM) (r14 : Int32 → (Nat → Nat → Int32) → (Nat → Nat → Int64) → (Nat → Nat → Int32) × (Nat → Nat → Int64)) (q14 : Int32 → (Nat → Nat → Int32) → (Nat → Nat → Int64) → Prop) (ih14 : ∀ (y1 : Int32) (I : Nat → Nat → Int32) (J : Nat → Nat → Int64), q14 y1 I J → o = .returned none → Z = (pk_K ++ ex, R, (r14 y1 I J).1, (r14 y1 I J).2) → pmE g kCm_begin (d + 1) 0 0 14 [(0, .ref 33), (1, .int y1)] [] (pk_K ++ ex) R I J o Z)  (y1 : Int32) (I : Nat → Nat → Int32) (J : Nat → Nat → Int64) (hp : pCm_begin_32 q14 y1 I J) (ho : o = .returned none) (hz : Z = (pk_K ++ ex, R, (fCm_begin_32 r14 y1 I J).1, (fCm_begin_32 r14 y1 I J).2)) : pmE g kCm_begin (d + 1) 0 0 32 [(0, .ref 33), (1, .int y1)] [] (pk_K ++ ex) R I J o Z := by
  unfold pCm_begin_32 at hp
  refine pm_iinc dCm_begin_32 rfl (by decide) rfl ?_
  refine pm_goto 14 dCm_begin_35 (by decide) ?_
  refine pm_wk [1, 0] rfl ?_
  exact ih14 _ _ _ hp ho (hz.trans (by first | rfl | (simp only [fCm_begin_32]; done) | (simp only [fCm_begin_32]; rfl)))
set_option maxHeartbeats 4000000 in
set_option maxRecDepth 100000 in
theorem Cm_begin_n14 (g : pmG) (d : Nat) (ex : List (Nat × Nat)) (R : Nat → Nat → Value) (hR : pk_R R) (o : Outcome) (Z : pmM)  : ∀ (n : Nat) (y1 : Int32) (I : Nat → Nat → Int32) (J : Nat → Nat → Int64), pCm_begin_14 n y1 I J → o = .returned none → Z = (pk_K ++ ex, R, (fCm_begin_14 n y1 I J).1, (fCm_begin_14 n y1 I J).2) → pmE g kCm_begin (d + 1) 0 0 14 [(0, .ref 33), (1, .int y1)] [] (pk_K ++ ex) R I J o Z := by
  intro n
  induction n with
  | zero => intro y1 I J hp; exact False.elim hp
  | succ n ih =>
  intro y1 I J hp ho hz
  simp only [pCm_begin_14] at hp
  refine pm_iload_n dCm_begin_14 rfl ?_
  refine pm_aload_n dCm_begin_15 rfl ?_
  refine pm_getr dCm_begin_16 fCm_22 rfl (rr_33_0 hR) ?_
  refine pm_geti dCm_begin_19 fCm_34 rfl ?_
  refine pm_icmp_ge 38 dCm_begin_22 (by decide) (fun h22 => ?_) (fun h22 => ?_)
  ·
    exact pm_vret dCm_begin_38 rfl ho (hz.trans (by first | (simp only [fCm_begin_14, if_pos h22]; done) | (simp only [fCm_begin_14, if_pos h22]; rfl) | rfl))
  ·
    refine pm_aload_n dCm_begin_25 rfl ?_
    refine pm_bipush (v := 120) dCm_begin_26 (by decide) ?_
    refine pm_iload_n dCm_begin_28 rfl ?_
    refine pm_callV dCm_begin_29 lCm_39 vCm_put ⟨_, _, rfl⟩ (Cm_put_ok _ _ _ _ hR _ _ _ _ (hp.2 h22).1) rfl rfl rfl (Nat.le_of_ble_eq_true rfl) (Nat.le_refl _) (Nat.le_refl _) ?_
    refine pm_wk [0, 1] rfl ?_
    exact Cm_begin_n32 g d ex R hR _ _ (fCm_begin_14 n) (pCm_begin_14 n) ih  _ _ _ (hp.2 h22).2 ho (hz.trans (by first | (simp only [fCm_begin_14, if_neg h22]; done) | (simp only [fCm_begin_14, if_neg h22]; rfl) | rfl))
set_option maxHeartbeats 4000000 in
set_option maxRecDepth 100000 in
theorem Cm_begin_n12 (g : pmG) (d : Nat) (ex : List (Nat × Nat)) (R : Nat → Nat → Value) (hR : pk_R R) (o : Outcome) (Z : pmM) (n14 : Nat) (I : Nat → Nat → Int32) (J : Nat → Nat → Int64) (hp : pCm_begin_12 n14 I J) (ho : o = .returned none) (hz : Z = (pk_K ++ ex, R, (fCm_begin_12 n14 I J).1, (fCm_begin_12 n14 I J).2)) : pmE g kCm_begin (d + 1) 0 0 12 [(0, .ref 33)] [] (pk_K ++ ex) R I J o Z := by
  unfold pCm_begin_12 at hp
  refine pm_iconst (v := 0) dCm_begin_12 (by decide) ?_
  refine pm_istore_n dCm_begin_13 (by decide) rfl ?_
  refine pm_wk [1, 0] rfl ?_
  exact Cm_begin_n14 g d ex R hR _ _  n14 _ _ _ hp ho (hz.trans (by first | rfl | (simp only [fCm_begin_12]; done) | (simp only [fCm_begin_12]; rfl)))
set_option maxHeartbeats 4000000 in
set_option maxRecDepth 100000 in
theorem Cm_begin_n0 (g : pmG) (d : Nat) (ex : List (Nat × Nat)) (R : Nat → Nat → Value) (hR : pk_R R) (o : Outcome) (Z : pmM) (n14 : Nat) (I : Nat → Nat → Int32) (J : Nat → Nat → Int64) (hp : pCm_begin n14 I J) (ho : o = .returned none) (hz : Z = (pk_K ++ ex, R, (fCm_begin n14 I J).1, (fCm_begin n14 I J).2)) : pmE g kCm_begin (d + 1) 0 0 0 [(0, .ref 33)] [] (pk_K ++ ex) R I J o Z := by
  unfold pCm_begin at hp
  refine pm_aload_n dCm_begin_0 rfl ?_
  refine pm_bipush (v := 124) dCm_begin_1 (by decide) ?_
  refine pm_puti dCm_begin_3 fCm_26 sCm_26 (fun h => by cases h) rfl rfl rfl ?_
  refine pm_aload_n dCm_begin_6 rfl ?_
  refine pm_bipush (v := 120) dCm_begin_7 (by decide) ?_
  refine pm_callV dCm_begin_9 lCm_30 vCm_empty ⟨_, _, rfl⟩ (Cm_empty_ok _ _ _ _ hR _ _ _ _ hp.1) rfl rfl rfl (Nat.le_of_ble_eq_true rfl) (Nat.le_refl _) (Nat.le_refl _) ?_
  refine pm_wk [0] rfl ?_
  exact Cm_begin_n12 g d ex R hR _ _  n14 _ _ hp.2 ho (hz.trans (by first | rfl | (simp only [fCm_begin]; done) | (simp only [fCm_begin]; rfl)))
set_option maxHeartbeats 4000000 in
set_option maxRecDepth 100000 in
theorem Cm_begin_ok (g : pmG) (d : Nat) (ex : List (Nat × Nat)) (R : Nat → Nat → Value) (hR : pk_R R) (n14 : Nat)  (I : Nat → Nat → Int32) (J : Nat → Nat → Int64) (hp : pCm_begin n14 I J) : pmC g kCm_begin (d + 1) 0 0 [.ref 33] (pk_K ++ ex, R, I, J) (.returned none) (pk_K ++ ex, R, (fCm_begin n14 I J).1, (fCm_begin n14 I J).2) :=
  pmC.of (by decide) (Nat.le_of_ble_eq_true rfl) (Cm_begin_n0 g d ex R hR _ _ n14  I J hp rfl rfl)
def fCm_sizeOf_4  : Nat → Int32 → Int32 → Int32 → (Nat → Nat → Int32) → (Nat → Nat → Int64) → Int32
  | 0, _, _, _, _, _ => 0
  | n + 1, y1, y2, y3, I, J =>
  if (4 : Int32) ≤ y3 then y2
  else fCm_sizeOf_4 n y1 (y2 + ((fLo_bitCount (J 34 ((y1 * (4 : Int32)) + y3).toNatClampNeg)))) (y3 + Int32.ofInt 1) I J
def pCm_sizeOf_4  : Nat → Int32 → Int32 → Int32 → (Nat → Nat → Int32) → (Nat → Nat → Int64) → Prop
  | 0, _, _, _, _, _ => False
  | n + 1, y1, y2, y3, I, J =>
  ((4 : Int32) ≤ y3 → True) ∧
  (¬ ((4 : Int32) ≤ y3) → (vp_in ((y1 * (4 : Int32)) + y3) 624) ∧ ((pLo_bitCount (J 34 ((y1 * (4 : Int32)) + y3).toNatClampNeg)) ∧ (pCm_sizeOf_4 n y1 (y2 + ((fLo_bitCount (J 34 ((y1 * (4 : Int32)) + y3).toNatClampNeg)))) (y3 + Int32.ofInt 1) I J)))
def fCm_sizeOf (n4 : Nat) (y1 : Int32) (I : Nat → Nat → Int32) (J : Nat → Nat → Int64) : Int32 :=
  fCm_sizeOf_4 n4 y1 (0 : Int32) (0 : Int32) I J
def pCm_sizeOf (n4 : Nat) (y1 : Int32) (I : Nat → Nat → Int32) (J : Nat → Nat → Int64) : Prop :=
  pCm_sizeOf_4 n4 y1 (0 : Int32) (0 : Int32) I J
set_option maxHeartbeats 4000000 in
set_option maxRecDepth 100000 in
theorem Cm_sizeOf_n4 (g : pmG) (d : Nat) (ex : List (Nat × Nat)) (R : Nat → Nat → Value) (hR : pk_R R) (o : Outcome) (Z : pmM)  : ∀ (n : Nat) (y1 : Int32) (y2 : Int32) (y3 : Int32) (I : Nat → Nat → Int32) (J : Nat → Nat → Int64), pCm_sizeOf_4 n y1 y2 y3 I J → o = .returned (some (.int (fCm_sizeOf_4 n y1 y2 y3 I J))) → Z = (pk_K ++ ex, R, I, J) → pmE g kCm_sizeOf (d + 1) 0 0 4 [(0, .ref 33), (1, .int y1), (2, .int y2), (3, .int y3)] [] (pk_K ++ ex) R I J o Z := by
  intro n
  induction n with
  | zero => intro y1 y2 y3 I J hp; exact False.elim hp
  | succ n ih =>
  intro y1 y2 y3 I J hp ho hz
  simp only [pCm_sizeOf_4] at hp
  refine pm_iload_n dCm_sizeOf_4 rfl ?_
  refine pm_iconst (v := 4) dCm_sizeOf_5 (by decide) ?_
  refine pm_icmp_ge 31 dCm_sizeOf_6 (by decide) (fun h6 => ?_) (fun h6 => ?_)
  ·
    refine pm_iload_n dCm_sizeOf_31 rfl ?_
    exact pm_iret dCm_sizeOf_32 rfl (ho.trans (by first | (simp only [fCm_sizeOf_4, if_pos h6]; done) | (simp only [fCm_sizeOf_4, if_pos h6]; rfl) | rfl)) (hz.trans (by first | (simp only [fCm_sizeOf_4, if_pos h6]; done) | (simp only [fCm_sizeOf_4, if_pos h6]; rfl) | rfl))
  ·
    refine pm_iload_n dCm_sizeOf_9 rfl ?_
    refine pm_aload_n dCm_sizeOf_10 rfl ?_
    refine pm_getr dCm_sizeOf_11 fCm_11 rfl (rr_33_1 hR) ?_
    refine pm_iload_n dCm_sizeOf_14 rfl ?_
    refine pm_iconst (v := 4) dCm_sizeOf_15 (by decide) ?_
    refine pm_imul dCm_sizeOf_16 ?_
    refine pm_iload_n dCm_sizeOf_17 rfl ?_
    refine pm_iadd dCm_sizeOf_18 ?_
    refine pm_lald dCm_sizeOf_19 rfl (hp.2 h6).1 ?_
    refine pm_callS dCm_sizeOf_20 lCm_47 tLo_bitCount (Lo_bitCount_ok _ _ _ _ _ _ _ (hp.2 h6).2.1) rfl rfl (Nat.le_of_ble_eq_true rfl) (Nat.le_refl _) (Nat.le_refl _) ?_
    refine pm_iadd dCm_sizeOf_23 ?_
    refine pm_istore_n dCm_sizeOf_24 (by decide) rfl ?_
    refine pm_iinc dCm_sizeOf_25 rfl (by decide) rfl ?_
    refine pm_goto 4 dCm_sizeOf_28 (by decide) ?_
    refine pm_wk [2, 3, 1, 0] rfl ?_
    exact ih _ _ _ _ _ (hp.2 h6).2.2 (ho.trans (by first | (simp only [fCm_sizeOf_4, if_neg h6]; done) | (simp only [fCm_sizeOf_4, if_neg h6]; rfl) | rfl)) (hz.trans (by first | (simp only [fCm_sizeOf_4, if_neg h6]; done) | (simp only [fCm_sizeOf_4, if_neg h6]; rfl) | rfl))
set_option maxHeartbeats 4000000 in
set_option maxRecDepth 100000 in
theorem Cm_sizeOf_n0 (g : pmG) (d : Nat) (ex : List (Nat × Nat)) (R : Nat → Nat → Value) (hR : pk_R R) (o : Outcome) (Z : pmM) (n4 : Nat) (y1 : Int32) (I : Nat → Nat → Int32) (J : Nat → Nat → Int64) (hp : pCm_sizeOf n4 y1 I J) (ho : o = .returned (some (.int (fCm_sizeOf n4 y1 I J)))) (hz : Z = (pk_K ++ ex, R, I, J)) : pmE g kCm_sizeOf (d + 1) 0 0 0 [(0, .ref 33), (1, .int y1)] [] (pk_K ++ ex) R I J o Z := by
  unfold pCm_sizeOf at hp
  refine pm_iconst (v := 0) dCm_sizeOf_0 (by decide) ?_
  refine pm_istore_n dCm_sizeOf_1 (by decide) rfl ?_
  refine pm_iconst (v := 0) dCm_sizeOf_2 (by decide) ?_
  refine pm_istore_n dCm_sizeOf_3 (by decide) rfl ?_
  refine pm_wk [2, 3, 1, 0] rfl ?_
  exact Cm_sizeOf_n4 g d ex R hR _ _  n4 _ _ _ _ _ hp (ho.trans (by first | rfl | (simp only [fCm_sizeOf]; done) | (simp only [fCm_sizeOf]; rfl))) (hz.trans (by first | rfl | (simp only [fCm_sizeOf]; done) | (simp only [fCm_sizeOf]; rfl)))
set_option maxHeartbeats 4000000 in
set_option maxRecDepth 100000 in
theorem Cm_sizeOf_ok (g : pmG) (d : Nat) (ex : List (Nat × Nat)) (R : Nat → Nat → Value) (hR : pk_R R) (n4 : Nat) (x0 : Int32) (I : Nat → Nat → Int32) (J : Nat → Nat → Int64) (hp : pCm_sizeOf n4 x0 I J) : pmC g kCm_sizeOf (d + 1) 0 0 [.ref 33, .int x0] (pk_K ++ ex, R, I, J) (.returned (some (.int (fCm_sizeOf n4 x0 I J)))) (pk_K ++ ex, R, I, J) :=
  pmC.of (by decide) (Nat.le_of_ble_eq_true rfl) (Cm_sizeOf_n0 g d ex R hR _ _ n4 x0 I J hp rfl rfl)
def fCm_leadBack_59 (r10 : Int32 → Int32 → (Nat → Nat → Int32) → (Nat → Nat → Int64) → (Nat → Nat → Int32)) (y1 : Int32) (y2 : Int32) (y3 : Int32) (I : Nat → Nat → Int32) (J : Nat → Nat → Int64) : (Nat → Nat → Int32) :=
  r10 y1 (y2 + Int32.ofInt 1) I J
def pCm_leadBack_59 (q10 : Int32 → Int32 → (Nat → Nat → Int32) → (Nat → Nat → Int64) → Prop) (y1 : Int32) (y2 : Int32) (y3 : Int32) (I : Nat → Nat → Int32) (J : Nat → Nat → Int64) : Prop :=
  q10 y1 (y2 + Int32.ofInt 1) I J
def fCm_leadBack_10  : Nat → Int32 → Int32 → (Nat → Nat → Int32) → (Nat → Nat → Int64) → (Nat → Nat → Int32)
  | 0, _, _, I, _ => I
  | n + 1, y1, y2, I, J =>
  if (I 28 (y1 + (1 : Int32)).toNatClampNeg) ≤ y2 then I
  else if ((pm_u I 36 (I 27 y2.toNatClampNeg).toNatClampNeg ((I 36 (I 27 y2.toNatClampNeg).toNatClampNeg) - (1 : Int32))) 36 (I 27 y2.toNatClampNeg).toNatClampNeg) = 0 then fCm_leadBack_59 (fCm_leadBack_10 n) y1 y2 (I 27 y2.toNatClampNeg) ((fCm_enqueue (I 27 y2.toNatClampNeg) (pm_u I 36 (I 27 y2.toNatClampNeg).toNatClampNeg ((I 36 (I 27 y2.toNatClampNeg).toNatClampNeg) - (1 : Int32))) J)) J
    else fCm_leadBack_59 (fCm_leadBack_10 n) y1 y2 (I 27 y2.toNatClampNeg) (pm_u I 36 (I 27 y2.toNatClampNeg).toNatClampNeg ((I 36 (I 27 y2.toNatClampNeg).toNatClampNeg) - (1 : Int32))) J
def pCm_leadBack_10  : Nat → Int32 → Int32 → (Nat → Nat → Int32) → (Nat → Nat → Int64) → Prop
  | 0, _, _, _, _ => False
  | n + 1, y1, y2, I, J =>
  (vp_in (y1 + (1 : Int32)) 257) ∧ (((I 28 (y1 + (1 : Int32)).toNatClampNeg) ≤ y2 → True) ∧
  (¬ ((I 28 (y1 + (1 : Int32)).toNatClampNeg) ≤ y2) → (vp_in y2 2048) ∧ ((vp_in (I 27 y2.toNatClampNeg) 256) ∧ ((vp_in (I 27 y2.toNatClampNeg) 256) ∧ ((vp_in (I 27 y2.toNatClampNeg) 256) ∧ ((((pm_u I 36 (I 27 y2.toNatClampNeg).toNatClampNeg ((I 36 (I 27 y2.toNatClampNeg).toNatClampNeg) - (1 : Int32))) 36 (I 27 y2.toNatClampNeg).toNatClampNeg) = 0 → (pCm_enqueue (I 27 y2.toNatClampNeg) (pm_u I 36 (I 27 y2.toNatClampNeg).toNatClampNeg ((I 36 (I 27 y2.toNatClampNeg).toNatClampNeg) - (1 : Int32))) J) ∧ (pCm_leadBack_59 (pCm_leadBack_10 n) y1 y2 (I 27 y2.toNatClampNeg) ((fCm_enqueue (I 27 y2.toNatClampNeg) (pm_u I 36 (I 27 y2.toNatClampNeg).toNatClampNeg ((I 36 (I 27 y2.toNatClampNeg).toNatClampNeg) - (1 : Int32))) J)) J)) ∧
    (¬ (((pm_u I 36 (I 27 y2.toNatClampNeg).toNatClampNeg ((I 36 (I 27 y2.toNatClampNeg).toNatClampNeg) - (1 : Int32))) 36 (I 27 y2.toNatClampNeg).toNatClampNeg) = 0) → pCm_leadBack_59 (pCm_leadBack_10 n) y1 y2 (I 27 y2.toNatClampNeg) (pm_u I 36 (I 27 y2.toNatClampNeg).toNatClampNeg ((I 36 (I 27 y2.toNatClampNeg).toNatClampNeg) - (1 : Int32))) J)))))))
def fCm_leadBack (n10 : Nat) (y1 : Int32) (I : Nat → Nat → Int32) (J : Nat → Nat → Int64) : (Nat → Nat → Int32) :=
  fCm_leadBack_10 n10 y1 (I 28 y1.toNatClampNeg) I J
def pCm_leadBack (n10 : Nat) (y1 : Int32) (I : Nat → Nat → Int32) (J : Nat → Nat → Int64) : Prop :=
  (vp_in y1 257) ∧ (pCm_leadBack_10 n10 y1 (I 28 y1.toNatClampNeg) I J)
set_option maxHeartbeats 4000000 in
set_option maxRecDepth 100000 in
theorem Cm_leadBack_n59 (g : pmG) (d : Nat) (ex : List (Nat × Nat)) (R : Nat → Nat → Value) (hR : pk_R R) (o : Outcome) (Z : pmM) (r10 : Int32 → Int32 → (Nat → Nat → Int32) → (Nat → Nat → Int64) → (Nat → Nat → Int32)) (q10 : Int32 → Int32 → (Nat → Nat → Int32) → (Nat → Nat → Int64) → Prop) (ih10 : ∀ (y1 : Int32) (y2 : Int32) (I : Nat → Nat → Int32) (J : Nat → Nat → Int64), q10 y1 y2 I J → o = .returned none → Z = (pk_K ++ ex, R, (r10 y1 y2 I J), J) → pmE g kCm_leadBack (d + 1) 0 0 10 [(0, .ref 33), (1, .int y1), (2, .int y2)] [] (pk_K ++ ex) R I J o Z)  (y1 : Int32) (y2 : Int32) (y3 : Int32) (I : Nat → Nat → Int32) (J : Nat → Nat → Int64) (hp : pCm_leadBack_59 q10 y1 y2 y3 I J) (ho : o = .returned none) (hz : Z = (pk_K ++ ex, R, (fCm_leadBack_59 r10 y1 y2 y3 I J), J)) : pmE g kCm_leadBack (d + 1) 0 0 59 [(0, .ref 33), (1, .int y1), (2, .int y2), (3, .int y3)] [] (pk_K ++ ex) R I J o Z := by
  unfold pCm_leadBack_59 at hp
  refine pm_iinc dCm_leadBack_59 rfl (by decide) rfl ?_
  refine pm_goto 10 dCm_leadBack_62 (by decide) ?_
  refine pm_wk [1, 2, 0] rfl ?_
  exact ih10 _ _ _ _ hp ho (hz.trans (by first | rfl | (simp only [fCm_leadBack_59]; done) | (simp only [fCm_leadBack_59]; rfl)))
set_option maxHeartbeats 4000000 in
set_option maxRecDepth 100000 in
theorem Cm_leadBack_n10 (g : pmG) (d : Nat) (ex : List (Nat × Nat)) (R : Nat → Nat → Value) (hR : pk_R R) (o : Outcome) (Z : pmM)  : ∀ (n : Nat) (y1 : Int32) (y2 : Int32) (I : Nat → Nat → Int32) (J : Nat → Nat → Int64), pCm_leadBack_10 n y1 y2 I J → o = .returned none → Z = (pk_K ++ ex, R, (fCm_leadBack_10 n y1 y2 I J), J) → pmE g kCm_leadBack (d + 1) 0 0 10 [(0, .ref 33), (1, .int y1), (2, .int y2)] [] (pk_K ++ ex) R I J o Z := by
  intro n
  induction n with
  | zero => intro y1 y2 I J hp; exact False.elim hp
  | succ n ih =>
  intro y1 y2 I J hp ho hz
  simp only [pCm_leadBack_10] at hp
  refine pm_iload_n dCm_leadBack_10 rfl ?_
  refine pm_aload_n dCm_leadBack_11 rfl ?_
  refine pm_getr dCm_leadBack_12 fCm_22 rfl (rr_33_0 hR) ?_
  refine pm_getr dCm_leadBack_15 fCm_123 rfl (rr_25_6 hR) ?_
  refine pm_iload_n dCm_leadBack_18 rfl ?_
  refine pm_iconst (v := 1) dCm_leadBack_19 (by decide) ?_
  refine pm_iadd dCm_leadBack_20 ?_
  refine pm_iald dCm_leadBack_21 rfl hp.1 ?_
  refine pm_icmp_ge 65 dCm_leadBack_22 (by decide) (fun h22 => ?_) (fun h22 => ?_)
  ·
    exact pm_vret dCm_leadBack_65 rfl ho (hz.trans (by first | (simp only [fCm_leadBack_10, if_pos h22]; done) | (simp only [fCm_leadBack_10, if_pos h22]; rfl) | rfl))
  ·
    refine pm_aload_n dCm_leadBack_25 rfl ?_
    refine pm_getr dCm_leadBack_26 fCm_22 rfl (rr_33_0 hR) ?_
    refine pm_getr dCm_leadBack_29 fCm_126 rfl (rr_25_5 hR) ?_
    refine pm_iload_n dCm_leadBack_32 rfl ?_
    refine pm_iald dCm_leadBack_33 rfl (hp.2.2 h22).1 ?_
    refine pm_istore_n dCm_leadBack_34 (by decide) rfl ?_
    refine pm_aload_n dCm_leadBack_35 rfl ?_
    refine pm_getr dCm_leadBack_36 fCm_19 rfl (rr_33_5 hR) ?_
    refine pm_iload_n dCm_leadBack_39 rfl ?_
    refine pm_dup2 dCm_leadBack_40 rfl rfl ?_
    refine pm_iald dCm_leadBack_41 rfl (hp.2.2 h22).2.1 ?_
    refine pm_iconst (v := 1) dCm_leadBack_42 (by decide) ?_
    refine pm_isub dCm_leadBack_43 ?_
    refine pm_iast dCm_leadBack_44 rfl (hp.2.2 h22).2.2.1 ?_
    refine pm_aload_n dCm_leadBack_45 rfl ?_
    refine pm_getr dCm_leadBack_46 fCm_19 rfl (rr_33_5 hR) ?_
    refine pm_iload_n dCm_leadBack_49 rfl ?_
    refine pm_iald dCm_leadBack_50 rfl (hp.2.2 h22).2.2.2.1 ?_
    refine pm_if_ne 59 dCm_leadBack_51 (by decide) (fun h51 => ?_) (fun h51 => ?_)
    ·
      refine pm_wk [1, 2, 3, 0] rfl ?_
      exact Cm_leadBack_n59 g d ex R hR _ _ (fCm_leadBack_10 n) (pCm_leadBack_10 n) ih  _ _ _ _ _ ((hp.2.2 h22).2.2.2.2.2 h51) ho (hz.trans (by first | (simp only [fCm_leadBack_10, if_neg h22, if_neg h51]; done) | (simp only [fCm_leadBack_10, if_neg h22, if_neg h51]; rfl) | rfl))
    ·
      refine pm_aload_n dCm_leadBack_54 rfl ?_
      refine pm_iload_n dCm_leadBack_55 rfl ?_
      refine pm_callV dCm_leadBack_56 lCm_117 vCm_enqueue ⟨_, _, rfl⟩ (Cm_enqueue_ok _ _ _ _ hR _ _ _ ((hp.2.2 h22).2.2.2.2.1 h51).1) rfl rfl rfl (Nat.le_of_ble_eq_true rfl) (Nat.le_refl _) (Nat.le_refl _) ?_
      refine pm_wk [1, 2, 3, 0] rfl ?_
      exact Cm_leadBack_n59 g d ex R hR _ _ (fCm_leadBack_10 n) (pCm_leadBack_10 n) ih  _ _ _ _ _ ((hp.2.2 h22).2.2.2.2.1 h51).2 ho (hz.trans (by first | (simp only [fCm_leadBack_10, if_neg h22, if_pos h51]; done) | (simp only [fCm_leadBack_10, if_neg h22, if_pos h51]; rfl) | rfl))
set_option maxHeartbeats 4000000 in
set_option maxRecDepth 100000 in
theorem Cm_leadBack_n0 (g : pmG) (d : Nat) (ex : List (Nat × Nat)) (R : Nat → Nat → Value) (hR : pk_R R) (o : Outcome) (Z : pmM) (n10 : Nat) (y1 : Int32) (I : Nat → Nat → Int32) (J : Nat → Nat → Int64) (hp : pCm_leadBack n10 y1 I J) (ho : o = .returned none) (hz : Z = (pk_K ++ ex, R, (fCm_leadBack n10 y1 I J), J)) : pmE g kCm_leadBack (d + 1) 0 0 0 [(0, .ref 33), (1, .int y1)] [] (pk_K ++ ex) R I J o Z := by
  unfold pCm_leadBack at hp
  refine pm_aload_n dCm_leadBack_0 rfl ?_
  refine pm_getr dCm_leadBack_1 fCm_22 rfl (rr_33_0 hR) ?_
  refine pm_getr dCm_leadBack_4 fCm_123 rfl (rr_25_6 hR) ?_
  refine pm_iload_n dCm_leadBack_7 rfl ?_
  refine pm_iald dCm_leadBack_8 rfl hp.1 ?_
  refine pm_istore_n dCm_leadBack_9 (by decide) rfl ?_
  refine pm_wk [1, 2, 0] rfl ?_
  exact Cm_leadBack_n10 g d ex R hR _ _  n10 _ _ _ _ hp.2 ho (hz.trans (by first | rfl | (simp only [fCm_leadBack]; done) | (simp only [fCm_leadBack]; rfl)))
set_option maxHeartbeats 4000000 in
set_option maxRecDepth 100000 in
theorem Cm_leadBack_ok (g : pmG) (d : Nat) (ex : List (Nat × Nat)) (R : Nat → Nat → Value) (hR : pk_R R) (n10 : Nat) (x0 : Int32) (I : Nat → Nat → Int32) (J : Nat → Nat → Int64) (hp : pCm_leadBack n10 x0 I J) : pmC g kCm_leadBack (d + 1) 0 0 [.ref 33, .int x0] (pk_K ++ ex, R, I, J) (.returned none) (pk_K ++ ex, R, (fCm_leadBack n10 x0 I J), J) :=
  pmC.of (by decide) (Nat.le_of_ble_eq_true rfl) (Cm_leadBack_n0 g d ex R hR _ _ n10 x0 I J hp rfl rfl)
def fCm_until_96 (r36 : Int32 → Int32 → Int32 → Int32 → Int32 → Int32 → (Nat → Nat → Int32) → (Nat → Nat → Int64) → (Nat → Nat → Int32) × (Nat → Nat → Int64)) (n105 : Nat) (y1 : Int32) (y2 : Int32) (y3 : Int32) (y4 : Int32) (y5 : Int32) (y6 : Int32) (I : Nat → Nat → Int32) (J : Nat → Nat → Int64) : (Nat → Nat → Int32) × (Nat → Nat → Int64) :=
  r36 y1 y2 y3 y4 y5 (y6 + Int32.ofInt 1) I J
def pCm_until_96 (q36 : Int32 → Int32 → Int32 → Int32 → Int32 → Int32 → (Nat → Nat → Int32) → (Nat → Nat → Int64) → Prop) (n105 : Nat) (y1 : Int32) (y2 : Int32) (y3 : Int32) (y4 : Int32) (y5 : Int32) (y6 : Int32) (I : Nat → Nat → Int32) (J : Nat → Nat → Int64) : Prop :=
  q36 y1 y2 y3 y4 y5 (y6 + Int32.ofInt 1) I J
def fCm_until_71 (r36 : Int32 → Int32 → Int32 → Int32 → Int32 → Int32 → (Nat → Nat → Int32) → (Nat → Nat → Int64) → (Nat → Nat → Int32) × (Nat → Nat → Int64)) (n105 : Nat) (y1 : Int32) (y2 : Int32) (y3 : Int32) (y4 : Int32) (y5 : Int32) (y6 : Int32) (z1 : Int32) (z2 : Int32) (I : Nat → Nat → Int32) (J : Nat → Nat → Int64) : (Nat → Nat → Int32) × (Nat → Nat → Int64) :=
  if ((fCm_has y3 y6 (pm_u I 36 z1.toNatClampNeg z2) J)) = 0 then fCm_until_96 r36 n105 y1 y2 y3 y4 y5 y6 (pm_u I 36 z1.toNatClampNeg z2) J
  else fCm_until_96 r36 n105 y1 y2 y3 y4 y5 y6 ((fCm_enqueue y6 (pm_u (pm_u I 36 z1.toNatClampNeg z2) 36 y6.toNatClampNeg (0 : Int32)) J)) J
def pCm_until_71 (q36 : Int32 → Int32 → Int32 → Int32 → Int32 → Int32 → (Nat → Nat → Int32) → (Nat → Nat → Int64) → Prop) (n105 : Nat) (y1 : Int32) (y2 : Int32) (y3 : Int32) (y4 : Int32) (y5 : Int32) (y6 : Int32) (z1 : Int32) (z2 : Int32) (I : Nat → Nat → Int32) (J : Nat → Nat → Int64) : Prop :=
  (vp_in z1 256) ∧ ((pCm_has y3 y6 (pm_u I 36 z1.toNatClampNeg z2) J) ∧ ((((fCm_has y3 y6 (pm_u I 36 z1.toNatClampNeg z2) J)) = 0 → pCm_until_96 q36 n105 y1 y2 y3 y4 y5 y6 (pm_u I 36 z1.toNatClampNeg z2) J) ∧
  (¬ (((fCm_has y3 y6 (pm_u I 36 z1.toNatClampNeg z2) J)) = 0) → (vp_in y6 256) ∧ ((pCm_enqueue y6 (pm_u (pm_u I 36 z1.toNatClampNeg z2) 36 y6.toNatClampNeg (0 : Int32)) J) ∧ (pCm_until_96 q36 n105 y1 y2 y3 y4 y5 y6 ((fCm_enqueue y6 (pm_u (pm_u I 36 z1.toNatClampNeg z2) 36 y6.toNatClampNeg (0 : Int32)) J)) J)))))
def fCm_until_145 (r105 : Int32 → Int32 → Int32 → Int32 → Int32 → Int32 → (Nat → Nat → Int32) → (Nat → Nat → Int64) → (Nat → Nat → Int32) × (Nat → Nat → Int64)) (y1 : Int32) (y2 : Int32) (y3 : Int32) (y4 : Int32) (y5 : Int32) (y6 : Int32) (I : Nat → Nat → Int32) (J : Nat → Nat → Int64) : (Nat → Nat → Int32) × (Nat → Nat → Int64) :=
  r105 y1 y2 y3 y4 y5 (y6 + Int32.ofInt 1) I J
def pCm_until_145 (q105 : Int32 → Int32 → Int32 → Int32 → Int32 → Int32 → (Nat → Nat → Int32) → (Nat → Nat → Int64) → Prop) (y1 : Int32) (y2 : Int32) (y3 : Int32) (y4 : Int32) (y5 : Int32) (y6 : Int32) (I : Nat → Nat → Int32) (J : Nat → Nat → Int64) : Prop :=
  q105 y1 y2 y3 y4 y5 (y6 + Int32.ofInt 1) I J
def fCm_until_134 (r105 : Int32 → Int32 → Int32 → Int32 → Int32 → Int32 → (Nat → Nat → Int32) → (Nat → Nat → Int64) → (Nat → Nat → Int32) × (Nat → Nat → Int64)) (y1 : Int32) (y2 : Int32) (y3 : Int32) (y4 : Int32) (y5 : Int32) (y6 : Int32) (I : Nat → Nat → Int32) (J : Nat → Nat → Int64) : (Nat → Nat → Int32) × (Nat → Nat → Int64) :=
  fCm_until_145 r105 y1 y2 y3 y4 y5 y6 ((fCm_leadBack 2049 (I 35 y6.toNatClampNeg) I J)) J
def pCm_until_134 (q105 : Int32 → Int32 → Int32 → Int32 → Int32 → Int32 → (Nat → Nat → Int32) → (Nat → Nat → Int64) → Prop) (y1 : Int32) (y2 : Int32) (y3 : Int32) (y4 : Int32) (y5 : Int32) (y6 : Int32) (I : Nat → Nat → Int32) (J : Nat → Nat → Int64) : Prop :=
  (vp_in y6 256) ∧ ((pCm_leadBack 2049 (I 35 y6.toNatClampNeg) I J) ∧ (pCm_until_145 q105 y1 y2 y3 y4 y5 y6 ((fCm_leadBack 2049 (I 35 y6.toNatClampNeg) I J)) J))
def fCm_until_105  : Nat → Int32 → Int32 → Int32 → Int32 → Int32 → Int32 → (Nat → Nat → Int32) → (Nat → Nat → Int64) → (Nat → Nat → Int32) × (Nat → Nat → Int64)
  | 0, _, _, _, _, _, _, I, J => (I, J)
  | n + 1, y1, y2, y3, y4, y5, y6, I, J =>
  if (I 33 4) ≤ y6 then (I, J)
  else if (256 : Int32) ≤ y6 then (I, J)
    else fCm_until_134 (fCm_until_105 n) y1 y2 y3 y4 y5 y6 I ((fCm_put y3 (I 35 y6.toNatClampNeg) I J))
def pCm_until_105  : Nat → Int32 → Int32 → Int32 → Int32 → Int32 → Int32 → (Nat → Nat → Int32) → (Nat → Nat → Int64) → Prop
  | 0, _, _, _, _, _, _, _, _ => False
  | n + 1, y1, y2, y3, y4, y5, y6, I, J =>
  ((I 33 4) ≤ y6 → True) ∧
  (¬ ((I 33 4) ≤ y6) → ((256 : Int32) ≤ y6 → True) ∧
    (¬ ((256 : Int32) ≤ y6) → (vp_in y6 256) ∧ ((pCm_put y3 (I 35 y6.toNatClampNeg) I J) ∧ (pCm_until_134 (pCm_until_105 n) y1 y2 y3 y4 y5 y6 I ((fCm_put y3 (I 35 y6.toNatClampNeg) I J))))))
def fCm_until_36 (n105 : Nat) : Nat → Int32 → Int32 → Int32 → Int32 → Int32 → Int32 → (Nat → Nat → Int32) → (Nat → Nat → Int64) → (Nat → Nat → Int32) × (Nat → Nat → Int64)
  | 0, _, _, _, _, _, _, I, J => (I, J)
  | n + 1, y1, y2, y3, y4, y5, y6, I, J =>
  if (I 25 1) ≤ y6 then fCm_until_105 n105 y1 y2 y3 y4 y5 (0 : Int32) I J
  else if ((fCm_has y2 y6 I J)) = 0 then fCm_until_71 (fCm_until_36 n105 n) n105 y1 y2 y3 y4 y5 y6 y6 y5 I J
    else fCm_until_71 (fCm_until_36 n105 n) n105 y1 y2 y3 y4 y5 y6 y6 y4 I J
def pCm_until_36 (n105 : Nat) : Nat → Int32 → Int32 → Int32 → Int32 → Int32 → Int32 → (Nat → Nat → Int32) → (Nat → Nat → Int64) → Prop
  | 0, _, _, _, _, _, _, _, _ => False
  | n + 1, y1, y2, y3, y4, y5, y6, I, J =>
  ((I 25 1) ≤ y6 → pCm_until_105 n105 y1 y2 y3 y4 y5 (0 : Int32) I J) ∧
  (¬ ((I 25 1) ≤ y6) → (pCm_has y2 y6 I J) ∧ ((((fCm_has y2 y6 I J)) = 0 → pCm_until_71 (pCm_until_36 n105 n) n105 y1 y2 y3 y4 y5 y6 y6 y5 I J) ∧
    (¬ (((fCm_has y2 y6 I J)) = 0) → pCm_until_71 (pCm_until_36 n105 n) n105 y1 y2 y3 y4 y5 y6 y6 y4 I J)))
def fCm_until_15 (n105 : Nat) (n36 : Nat) (y1 : Int32) (y2 : Int32) (y3 : Int32) (z0 : Int32) (I : Nat → Nat → Int32) (J : Nat → Nat → Int64) : (Nat → Nat → Int32) × (Nat → Nat → Int64) :=
  fCm_until_36 n105 n36 y1 y2 y3 z0 ((I 25 2) + (1 : Int32)) (0 : Int32) (pm_u I 33 4 (0 : Int32)) J
def pCm_until_15 (n105 : Nat) (n36 : Nat) (y1 : Int32) (y2 : Int32) (y3 : Int32) (z0 : Int32) (I : Nat → Nat → Int32) (J : Nat → Nat → Int64) : Prop :=
  pCm_until_36 n105 n36 y1 y2 y3 z0 ((I 25 2) + (1 : Int32)) (0 : Int32) (pm_u I 33 4 (0 : Int32)) J
def fCm_until (n105 : Nat) (n36 : Nat) (y1 : Int32) (y2 : Int32) (y3 : Int32) (I : Nat → Nat → Int32) (J : Nat → Nat → Int64) : (Nat → Nat → Int32) × (Nat → Nat → Int64) :=
  if y1 = 0 then fCm_until_15 n105 n36 y1 y2 y3 (1 : Int32) I J
  else fCm_until_15 n105 n36 y1 y2 y3 (I 25 2) I J
def pCm_until (n105 : Nat) (n36 : Nat) (y1 : Int32) (y2 : Int32) (y3 : Int32) (I : Nat → Nat → Int32) (J : Nat → Nat → Int64) : Prop :=
  (y1 = 0 → pCm_until_15 n105 n36 y1 y2 y3 (1 : Int32) I J) ∧
  (¬ (y1 = 0) → pCm_until_15 n105 n36 y1 y2 y3 (I 25 2) I J)
set_option maxHeartbeats 4000000 in
set_option maxRecDepth 100000 in
theorem Cm_until_n96 (g : pmG) (d : Nat) (ex : List (Nat × Nat)) (R : Nat → Nat → Value) (hR : pk_R R) (o : Outcome) (Z : pmM) (r36 : Int32 → Int32 → Int32 → Int32 → Int32 → Int32 → (Nat → Nat → Int32) → (Nat → Nat → Int64) → (Nat → Nat → Int32) × (Nat → Nat → Int64)) (q36 : Int32 → Int32 → Int32 → Int32 → Int32 → Int32 → (Nat → Nat → Int32) → (Nat → Nat → Int64) → Prop) (ih36 : ∀ (y1 : Int32) (y2 : Int32) (y3 : Int32) (y4 : Int32) (y5 : Int32) (y6 : Int32) (I : Nat → Nat → Int32) (J : Nat → Nat → Int64), q36 y1 y2 y3 y4 y5 y6 I J → o = .returned none → Z = (pk_K ++ ex, R, (r36 y1 y2 y3 y4 y5 y6 I J).1, (r36 y1 y2 y3 y4 y5 y6 I J).2) → pmE g kCm_until (d + 2) 0 0 36 [(0, .ref 33), (1, .int y1), (2, .int y2), (3, .int y3), (4, .int y4), (5, .int y5), (6, .int y6)] [] (pk_K ++ ex) R I J o Z) (n105 : Nat) (y1 : Int32) (y2 : Int32) (y3 : Int32) (y4 : Int32) (y5 : Int32) (y6 : Int32) (I : Nat → Nat → Int32) (J : Nat → Nat → Int64) (hp : pCm_until_96 q36 n105 y1 y2 y3 y4 y5 y6 I J) (ho : o = .returned none) (hz : Z = (pk_K ++ ex, R, (fCm_until_96 r36 n105 y1 y2 y3 y4 y5 y6 I J).1, (fCm_until_96 r36 n105 y1 y2 y3 y4 y5 y6 I J).2)) : pmE g kCm_until (d + 2) 0 0 96 [(0, .ref 33), (1, .int y1), (2, .int y2), (3, .int y3), (4, .int y4), (5, .int y5), (6, .int y6)] [] (pk_K ++ ex) R I J o Z := by
  unfold pCm_until_96 at hp
  refine pm_iinc dCm_until_96 rfl (by decide) rfl ?_
  refine pm_goto 36 dCm_until_99 (by decide) ?_
  refine pm_wk [1, 2, 3, 4, 5, 6, 0] rfl ?_
  exact ih36 _ _ _ _ _ _ _ _ hp ho (hz.trans (by first | rfl | (simp only [fCm_until_96]; done) | (simp only [fCm_until_96]; rfl)))
set_option maxHeartbeats 4000000 in
set_option maxRecDepth 100000 in
theorem Cm_until_n71 (g : pmG) (d : Nat) (ex : List (Nat × Nat)) (R : Nat → Nat → Value) (hR : pk_R R) (o : Outcome) (Z : pmM) (r36 : Int32 → Int32 → Int32 → Int32 → Int32 → Int32 → (Nat → Nat → Int32) → (Nat → Nat → Int64) → (Nat → Nat → Int32) × (Nat → Nat → Int64)) (q36 : Int32 → Int32 → Int32 → Int32 → Int32 → Int32 → (Nat → Nat → Int32) → (Nat → Nat → Int64) → Prop) (ih36 : ∀ (y1 : Int32) (y2 : Int32) (y3 : Int32) (y4 : Int32) (y5 : Int32) (y6 : Int32) (I : Nat → Nat → Int32) (J : Nat → Nat → Int64), q36 y1 y2 y3 y4 y5 y6 I J → o = .returned none → Z = (pk_K ++ ex, R, (r36 y1 y2 y3 y4 y5 y6 I J).1, (r36 y1 y2 y3 y4 y5 y6 I J).2) → pmE g kCm_until (d + 2) 0 0 36 [(0, .ref 33), (1, .int y1), (2, .int y2), (3, .int y3), (4, .int y4), (5, .int y5), (6, .int y6)] [] (pk_K ++ ex) R I J o Z) (n105 : Nat) (y1 : Int32) (y2 : Int32) (y3 : Int32) (y4 : Int32) (y5 : Int32) (y6 : Int32) (z1 : Int32) (z2 : Int32) (I : Nat → Nat → Int32) (J : Nat → Nat → Int64) (hp : pCm_until_71 q36 n105 y1 y2 y3 y4 y5 y6 z1 z2 I J) (ho : o = .returned none) (hz : Z = (pk_K ++ ex, R, (fCm_until_71 r36 n105 y1 y2 y3 y4 y5 y6 z1 z2 I J).1, (fCm_until_71 r36 n105 y1 y2 y3 y4 y5 y6 z1 z2 I J).2)) : pmE g kCm_until (d + 2) 0 0 71 [(0, .ref 33), (1, .int y1), (2, .int y2), (3, .int y3), (4, .int y4), (5, .int y5), (6, .int y6)] [.int z2, .int z1, .ref 36] (pk_K ++ ex) R I J o Z := by
  unfold pCm_until_71 at hp
  refine pm_iast dCm_until_71 rfl hp.1 ?_
  refine pm_aload_n dCm_until_72 rfl ?_
  refine pm_iload_n dCm_until_73 rfl ?_
  refine pm_iload dCm_until_74 rfl ?_
  refine pm_callV dCm_until_76 lCm_43 vCm_has ⟨_, _, rfl⟩ (Cm_has_ok _ _ _ _ hR _ _ _ _ hp.2.1) rfl rfl rfl (Nat.le_of_ble_eq_true rfl) (Nat.le_refl _) (Nat.le_refl _) ?_
  refine pm_if_eq 96 dCm_until_79 (by decide) (fun h79 => ?_) (fun h79 => ?_)
  ·
    refine pm_wk [0, 1, 2, 3, 4, 5, 6] rfl ?_
    exact Cm_until_n96 g d ex R hR _ _ r36 q36 ih36 n105 _ _ _ _ _ _ _ _ (hp.2.2.1 h79) ho (hz.trans (by first | (simp only [fCm_until_71, if_pos h79]; done) | (simp only [fCm_until_71, if_pos h79]; rfl) | rfl))
  ·
    refine pm_aload_n dCm_until_82 rfl ?_
    refine pm_getr dCm_until_83 fCm_19 rfl (rr_33_5 hR) ?_
    refine pm_iload dCm_until_86 rfl ?_
    refine pm_iconst (v := 0) dCm_until_88 (by decide) ?_
    refine pm_iast dCm_until_89 rfl (hp.2.2.2 h79).1 ?_
    refine pm_aload_n dCm_until_90 rfl ?_
    refine pm_iload dCm_until_91 rfl ?_
    refine pm_callV dCm_until_93 lCm_117 vCm_enqueue ⟨_, _, rfl⟩ (Cm_enqueue_ok _ _ _ _ hR _ _ _ (hp.2.2.2 h79).2.1) rfl rfl rfl (Nat.le_of_ble_eq_true rfl) (Nat.le_refl _) (Nat.le_refl _) ?_
    refine pm_wk [0, 1, 2, 3, 4, 5, 6] rfl ?_
    exact Cm_until_n96 g d ex R hR _ _ r36 q36 ih36 n105 _ _ _ _ _ _ _ _ (hp.2.2.2 h79).2.2 ho (hz.trans (by first | (simp only [fCm_until_71, if_neg h79]; done) | (simp only [fCm_until_71, if_neg h79]; rfl) | rfl))
set_option maxHeartbeats 4000000 in
set_option maxRecDepth 100000 in
theorem Cm_until_n145 (g : pmG) (d : Nat) (ex : List (Nat × Nat)) (R : Nat → Nat → Value) (hR : pk_R R) (o : Outcome) (Z : pmM) (r105 : Int32 → Int32 → Int32 → Int32 → Int32 → Int32 → (Nat → Nat → Int32) → (Nat → Nat → Int64) → (Nat → Nat → Int32) × (Nat → Nat → Int64)) (q105 : Int32 → Int32 → Int32 → Int32 → Int32 → Int32 → (Nat → Nat → Int32) → (Nat → Nat → Int64) → Prop) (ih105 : ∀ (y1 : Int32) (y2 : Int32) (y3 : Int32) (y4 : Int32) (y5 : Int32) (y6 : Int32) (I : Nat → Nat → Int32) (J : Nat → Nat → Int64), q105 y1 y2 y3 y4 y5 y6 I J → o = .returned none → Z = (pk_K ++ ex, R, (r105 y1 y2 y3 y4 y5 y6 I J).1, (r105 y1 y2 y3 y4 y5 y6 I J).2) → pmE g kCm_until (d + 2) 0 0 105 [(0, .ref 33), (1, .int y1), (2, .int y2), (3, .int y3), (4, .int y4), (5, .int y5), (6, .int y6)] [] (pk_K ++ ex) R I J o Z)  (y1 : Int32) (y2 : Int32) (y3 : Int32) (y4 : Int32) (y5 : Int32) (y6 : Int32) (I : Nat → Nat → Int32) (J : Nat → Nat → Int64) (hp : pCm_until_145 q105 y1 y2 y3 y4 y5 y6 I J) (ho : o = .returned none) (hz : Z = (pk_K ++ ex, R, (fCm_until_145 r105 y1 y2 y3 y4 y5 y6 I J).1, (fCm_until_145 r105 y1 y2 y3 y4 y5 y6 I J).2)) : pmE g kCm_until (d + 2) 0 0 145 [(0, .ref 33), (1, .int y1), (2, .int y2), (3, .int y3), (4, .int y4), (5, .int y5), (6, .int y6)] [] (pk_K ++ ex) R I J o Z := by
  unfold pCm_until_145 at hp
  refine pm_iinc dCm_until_145 rfl (by decide) rfl ?_
  refine pm_goto 105 dCm_until_148 (by decide) ?_
  refine pm_wk [1, 2, 3, 4, 5, 6, 0] rfl ?_
  exact ih105 _ _ _ _ _ _ _ _ hp ho (hz.trans (by first | rfl | (simp only [fCm_until_145]; done) | (simp only [fCm_until_145]; rfl)))
set_option maxHeartbeats 4000000 in
set_option maxRecDepth 100000 in
theorem Cm_until_n134 (g : pmG) (d : Nat) (ex : List (Nat × Nat)) (R : Nat → Nat → Value) (hR : pk_R R) (o : Outcome) (Z : pmM) (r105 : Int32 → Int32 → Int32 → Int32 → Int32 → Int32 → (Nat → Nat → Int32) → (Nat → Nat → Int64) → (Nat → Nat → Int32) × (Nat → Nat → Int64)) (q105 : Int32 → Int32 → Int32 → Int32 → Int32 → Int32 → (Nat → Nat → Int32) → (Nat → Nat → Int64) → Prop) (ih105 : ∀ (y1 : Int32) (y2 : Int32) (y3 : Int32) (y4 : Int32) (y5 : Int32) (y6 : Int32) (I : Nat → Nat → Int32) (J : Nat → Nat → Int64), q105 y1 y2 y3 y4 y5 y6 I J → o = .returned none → Z = (pk_K ++ ex, R, (r105 y1 y2 y3 y4 y5 y6 I J).1, (r105 y1 y2 y3 y4 y5 y6 I J).2) → pmE g kCm_until (d + 2) 0 0 105 [(0, .ref 33), (1, .int y1), (2, .int y2), (3, .int y3), (4, .int y4), (5, .int y5), (6, .int y6)] [] (pk_K ++ ex) R I J o Z)  (y1 : Int32) (y2 : Int32) (y3 : Int32) (y4 : Int32) (y5 : Int32) (y6 : Int32) (I : Nat → Nat → Int32) (J : Nat → Nat → Int64) (hp : pCm_until_134 q105 y1 y2 y3 y4 y5 y6 I J) (ho : o = .returned none) (hz : Z = (pk_K ++ ex, R, (fCm_until_134 r105 y1 y2 y3 y4 y5 y6 I J).1, (fCm_until_134 r105 y1 y2 y3 y4 y5 y6 I J).2)) : pmE g kCm_until (d + 2) 0 0 134 [(0, .ref 33), (1, .int y1), (2, .int y2), (3, .int y3), (4, .int y4), (5, .int y5), (6, .int y6)] [] (pk_K ++ ex) R I J o Z := by
  unfold pCm_until_134 at hp
  refine pm_aload_n dCm_until_134 rfl ?_
  refine pm_aload_n dCm_until_135 rfl ?_
  refine pm_getr dCm_until_136 fCm_15 rfl (rr_33_3 hR) ?_
  refine pm_iload dCm_until_139 rfl ?_
  refine pm_iald dCm_until_141 rfl hp.1 ?_
  refine pm_callV dCm_until_142 lCm_120 vCm_leadBack ⟨_, _, rfl⟩ (Cm_leadBack_ok _ _ _ _ hR _ _ _ _ hp.2.1) rfl rfl rfl (Nat.le_of_ble_eq_true rfl) (Nat.le_refl _) (Nat.le_refl _) ?_
  refine pm_wk [0, 1, 2, 3, 4, 5, 6] rfl ?_
  exact Cm_until_n145 g d ex R hR _ _ r105 q105 ih105  _ _ _ _ _ _ _ _ hp.2.2 ho (hz.trans (by first | rfl | (simp only [fCm_until_134]; done) | (simp only [fCm_until_134]; rfl)))
set_option maxHeartbeats 4000000 in
set_option maxRecDepth 100000 in
theorem Cm_until_n105 (g : pmG) (d : Nat) (ex : List (Nat × Nat)) (R : Nat → Nat → Value) (hR : pk_R R) (o : Outcome) (Z : pmM)  : ∀ (n : Nat) (y1 : Int32) (y2 : Int32) (y3 : Int32) (y4 : Int32) (y5 : Int32) (y6 : Int32) (I : Nat → Nat → Int32) (J : Nat → Nat → Int64), pCm_until_105 n y1 y2 y3 y4 y5 y6 I J → o = .returned none → Z = (pk_K ++ ex, R, (fCm_until_105 n y1 y2 y3 y4 y5 y6 I J).1, (fCm_until_105 n y1 y2 y3 y4 y5 y6 I J).2) → pmE g kCm_until (d + 2) 0 0 105 [(0, .ref 33), (1, .int y1), (2, .int y2), (3, .int y3), (4, .int y4), (5, .int y5), (6, .int y6)] [] (pk_K ++ ex) R I J o Z := by
  intro n
  induction n with
  | zero => intro y1 y2 y3 y4 y5 y6 I J hp; exact False.elim hp
  | succ n ih =>
  intro y1 y2 y3 y4 y5 y6 I J hp ho hz
  simp only [pCm_until_105] at hp
  refine pm_iload dCm_until_105 rfl ?_
  refine pm_aload_n dCm_until_107 rfl ?_
  refine pm_geti dCm_until_108 fCm_114 rfl ?_
  refine pm_icmp_ge 151 dCm_until_111 (by decide) (fun h111 => ?_) (fun h111 => ?_)
  ·
    exact pm_vret dCm_until_151 rfl ho (hz.trans (by first | (simp only [fCm_until_105, if_pos h111]; done) | (simp only [fCm_until_105, if_pos h111]; rfl) | rfl))
  ·
    refine pm_iload dCm_until_114 rfl ?_
    refine pm_sipush (v := 256) dCm_until_116 (by decide) ?_
    refine pm_icmp_ge 151 dCm_until_119 (by decide) (fun h119 => ?_) (fun h119 => ?_)
    ·
      exact pm_vret dCm_until_151 rfl ho (hz.trans (by first | (simp only [fCm_until_105, if_neg h111, if_pos h119]; done) | (simp only [fCm_until_105, if_neg h111, if_pos h119]; rfl) | rfl))
    ·
      refine pm_aload_n dCm_until_122 rfl ?_
      refine pm_iload_n dCm_until_123 rfl ?_
      refine pm_aload_n dCm_until_124 rfl ?_
      refine pm_getr dCm_until_125 fCm_15 rfl (rr_33_3 hR) ?_
      refine pm_iload dCm_until_128 rfl ?_
      refine pm_iald dCm_until_130 rfl ((hp.2 h111).2 h119).1 ?_
      refine pm_callV dCm_until_131 lCm_39 vCm_put ⟨_, _, rfl⟩ (Cm_put_ok _ _ _ _ hR _ _ _ _ ((hp.2 h111).2 h119).2.1) rfl rfl rfl (Nat.le_of_ble_eq_true rfl) (Nat.le_refl _) (Nat.le_refl _) ?_
      refine pm_wk [0, 1, 2, 3, 4, 5, 6] rfl ?_
      exact Cm_until_n134 g d ex R hR _ _ (fCm_until_105 n) (pCm_until_105 n) ih  _ _ _ _ _ _ _ _ ((hp.2 h111).2 h119).2.2 ho (hz.trans (by first | (simp only [fCm_until_105, if_neg h111, if_neg h119]; done) | (simp only [fCm_until_105, if_neg h111, if_neg h119]; rfl) | rfl))
set_option maxHeartbeats 4000000 in
set_option maxRecDepth 100000 in
theorem Cm_until_n36 (g : pmG) (d : Nat) (ex : List (Nat × Nat)) (R : Nat → Nat → Value) (hR : pk_R R) (o : Outcome) (Z : pmM) (n105 : Nat) : ∀ (n : Nat) (y1 : Int32) (y2 : Int32) (y3 : Int32) (y4 : Int32) (y5 : Int32) (y6 : Int32) (I : Nat → Nat → Int32) (J : Nat → Nat → Int64), pCm_until_36 n105 n y1 y2 y3 y4 y5 y6 I J → o = .returned none → Z = (pk_K ++ ex, R, (fCm_until_36 n105 n y1 y2 y3 y4 y5 y6 I J).1, (fCm_until_36 n105 n y1 y2 y3 y4 y5 y6 I J).2) → pmE g kCm_until (d + 2) 0 0 36 [(0, .ref 33), (1, .int y1), (2, .int y2), (3, .int y3), (4, .int y4), (5, .int y5), (6, .int y6)] [] (pk_K ++ ex) R I J o Z := by
  intro n
  induction n with
  | zero => intro y1 y2 y3 y4 y5 y6 I J hp; exact False.elim hp
  | succ n ih =>
  intro y1 y2 y3 y4 y5 y6 I J hp ho hz
  simp only [pCm_until_36] at hp
  refine pm_iload dCm_until_36 rfl ?_
  refine pm_aload_n dCm_until_38 rfl ?_
  refine pm_getr dCm_until_39 fCm_22 rfl (rr_33_0 hR) ?_
  refine pm_geti dCm_until_42 fCm_34 rfl ?_
  refine pm_icmp_ge 102 dCm_until_45 (by decide) (fun h45 => ?_) (fun h45 => ?_)
  ·
    refine pm_iconst (v := 0) dCm_until_102 (by decide) ?_
    refine pm_istore dCm_until_103 (by decide) rfl ?_
    refine pm_wk [1, 2, 3, 4, 5, 6, 0] rfl ?_
    exact Cm_until_n105 g d ex R hR _ _  n105 _ _ _ _ _ _ _ _ (hp.1 h45) ho (hz.trans (by first | (simp only [fCm_until_36, if_pos h45]; done) | (simp only [fCm_until_36, if_pos h45]; rfl) | rfl))
  ·
    refine pm_aload_n dCm_until_48 rfl ?_
    refine pm_getr dCm_until_49 fCm_19 rfl (rr_33_5 hR) ?_
    refine pm_iload dCm_until_52 rfl ?_
    refine pm_aload_n dCm_until_54 rfl ?_
    refine pm_iload_n dCm_until_55 rfl ?_
    refine pm_iload dCm_until_56 rfl ?_
    refine pm_callV dCm_until_58 lCm_43 vCm_has ⟨_, _, rfl⟩ (Cm_has_ok _ _ _ _ hR _ _ _ _ (hp.2 h45).1) rfl rfl rfl (Nat.le_of_ble_eq_true rfl) (Nat.le_refl _) (Nat.le_refl _) ?_
    refine pm_if_eq 69 dCm_until_61 (by decide) (fun h61 => ?_) (fun h61 => ?_)
    ·
      refine pm_iload dCm_until_69 rfl ?_
      refine pm_wk [0, 1, 2, 3, 4, 5, 6] rfl ?_
      exact Cm_until_n71 g d ex R hR _ _ (fCm_until_36 n105 n) (pCm_until_36 n105 n) ih n105 _ _ _ _ _ _ _ _ _ _ ((hp.2 h45).2.1 h61) ho (hz.trans (by first | (simp only [fCm_until_36, if_neg h45, if_pos h61]; done) | (simp only [fCm_until_36, if_neg h45, if_pos h61]; rfl) | rfl))
    ·
      refine pm_iload dCm_until_64 rfl ?_
      refine pm_goto 71 dCm_until_66 (by decide) ?_
      refine pm_wk [0, 1, 2, 3, 4, 5, 6] rfl ?_
      exact Cm_until_n71 g d ex R hR _ _ (fCm_until_36 n105 n) (pCm_until_36 n105 n) ih n105 _ _ _ _ _ _ _ _ _ _ ((hp.2 h45).2.2 h61) ho (hz.trans (by first | (simp only [fCm_until_36, if_neg h45, if_neg h61]; done) | (simp only [fCm_until_36, if_neg h45, if_neg h61]; rfl) | rfl))
set_option maxHeartbeats 4000000 in
set_option maxRecDepth 100000 in
theorem Cm_until_n15 (g : pmG) (d : Nat) (ex : List (Nat × Nat)) (R : Nat → Nat → Value) (hR : pk_R R) (o : Outcome) (Z : pmM) (n105 : Nat) (n36 : Nat) (y1 : Int32) (y2 : Int32) (y3 : Int32) (z0 : Int32) (I : Nat → Nat → Int32) (J : Nat → Nat → Int64) (hp : pCm_until_15 n105 n36 y1 y2 y3 z0 I J) (ho : o = .returned none) (hz : Z = (pk_K ++ ex, R, (fCm_until_15 n105 n36 y1 y2 y3 z0 I J).1, (fCm_until_15 n105 n36 y1 y2 y3 z0 I J).2)) : pmE g kCm_until (d + 2) 0 0 15 [(0, .ref 33), (1, .int y1), (2, .int y2), (3, .int y3)] [.int z0] (pk_K ++ ex) R I J o Z := by
  unfold pCm_until_15 at hp
  refine pm_istore dCm_until_15 (by decide) rfl ?_
  refine pm_aload_n dCm_until_17 rfl ?_
  refine pm_getr dCm_until_18 fCm_22 rfl (rr_33_0 hR) ?_
  refine pm_geti dCm_until_21 fCm_66 rfl ?_
  refine pm_iconst (v := 1) dCm_until_24 (by decide) ?_
  refine pm_iadd dCm_until_25 ?_
  refine pm_istore dCm_until_26 (by decide) rfl ?_
  refine pm_aload_n dCm_until_28 rfl ?_
  refine pm_iconst (v := 0) dCm_until_29 (by decide) ?_
  refine pm_puti dCm_until_30 fCm_114 sCm_114 (fun h => by cases h) rfl rfl rfl ?_
  refine pm_iconst (v := 0) dCm_until_33 (by decide) ?_
  refine pm_istore dCm_until_34 (by decide) rfl ?_
  refine pm_wk [3, 4, 5, 6, 2, 1, 0] rfl ?_
  exact Cm_until_n36 g d ex R hR _ _  n105 n36 _ _ _ _ _ _ _ _ hp ho (hz.trans (by first | rfl | (simp only [fCm_until_15]; done) | (simp only [fCm_until_15]; rfl)))
set_option maxHeartbeats 4000000 in
set_option maxRecDepth 100000 in
theorem Cm_until_n0 (g : pmG) (d : Nat) (ex : List (Nat × Nat)) (R : Nat → Nat → Value) (hR : pk_R R) (o : Outcome) (Z : pmM) (n105 : Nat) (n36 : Nat) (y1 : Int32) (y2 : Int32) (y3 : Int32) (I : Nat → Nat → Int32) (J : Nat → Nat → Int64) (hp : pCm_until n105 n36 y1 y2 y3 I J) (ho : o = .returned none) (hz : Z = (pk_K ++ ex, R, (fCm_until n105 n36 y1 y2 y3 I J).1, (fCm_until n105 n36 y1 y2 y3 I J).2)) : pmE g kCm_until (d + 2) 0 0 0 [(0, .ref 33), (1, .int y1), (2, .int y2), (3, .int y3)] [] (pk_K ++ ex) R I J o Z := by
  unfold pCm_until at hp
  refine pm_iload_n dCm_until_0 rfl ?_
  refine pm_if_eq 14 dCm_until_1 (by decide) (fun h1 => ?_) (fun h1 => ?_)
  ·
    refine pm_iconst (v := 1) dCm_until_14 (by decide) ?_
    refine pm_wk [0, 1, 2, 3] rfl ?_
    exact Cm_until_n15 g d ex R hR _ _  n105 n36 _ _ _ _ _ _ (hp.1 h1) ho (hz.trans (by first | (simp only [fCm_until, if_pos h1]; done) | (simp only [fCm_until, if_pos h1]; rfl) | rfl))
  ·
    refine pm_aload_n dCm_until_4 rfl ?_
    refine pm_getr dCm_until_5 fCm_22 rfl (rr_33_0 hR) ?_
    refine pm_geti dCm_until_8 fCm_66 rfl ?_
    refine pm_goto 15 dCm_until_11 (by decide) ?_
    refine pm_wk [0, 1, 2, 3] rfl ?_
    exact Cm_until_n15 g d ex R hR _ _  n105 n36 _ _ _ _ _ _ (hp.2 h1) ho (hz.trans (by first | (simp only [fCm_until, if_neg h1]; done) | (simp only [fCm_until, if_neg h1]; rfl) | rfl))
set_option maxHeartbeats 4000000 in
set_option maxRecDepth 100000 in
theorem Cm_until_ok (g : pmG) (d : Nat) (ex : List (Nat × Nat)) (R : Nat → Nat → Value) (hR : pk_R R) (n105 : Nat) (n36 : Nat) (x0 : Int32) (x1 : Int32) (x2 : Int32) (I : Nat → Nat → Int32) (J : Nat → Nat → Int64) (hp : pCm_until n105 n36 x0 x1 x2 I J) : pmC g kCm_until (d + 2) 0 0 [.ref 33, .int x0, .int x1, .int x2] (pk_K ++ ex, R, I, J) (.returned none) (pk_K ++ ex, R, (fCm_until n105 n36 x0 x1 x2 I J).1, (fCm_until n105 n36 x0 x1 x2 I J).2) :=
  pmC.of (by decide) (Nat.le_of_ble_eq_true rfl) (Cm_until_n0 g d ex R hR _ _ n105 n36 x0 x1 x2 I J hp rfl rfl)
def fCm_isTrueWithAllInputs_2  : Nat → Int32 → Int32 → (Nat → Nat → Int32) → (Nat → Nat → Int64) → Int32
  | 0, _, _, _, _ => 0
  | n + 1, y2, y3, I, J =>
  if (I 25 2) ≤ y3 then (1 : Int32)
  else if ((fVa_ofLast ((fSt_caseOf y2 y3 I J)) I J)) = 0 then (0 : Int32)
    else fCm_isTrueWithAllInputs_2 n y2 (y3 + Int32.ofInt 1) I J
def pCm_isTrueWithAllInputs_2  : Nat → Int32 → Int32 → (Nat → Nat → Int32) → (Nat → Nat → Int64) → Prop
  | 0, _, _, _, _ => False
  | n + 1, y2, y3, I, J =>
  ((I 25 2) ≤ y3 → True) ∧
  (¬ ((I 25 2) ≤ y3) → (pSt_caseOf y2 y3 I J) ∧ ((pVa_ofLast ((fSt_caseOf y2 y3 I J)) I J) ∧ ((((fVa_ofLast ((fSt_caseOf y2 y3 I J)) I J)) = 0 → True) ∧
    (¬ (((fVa_ofLast ((fSt_caseOf y2 y3 I J)) I J)) = 0) → pCm_isTrueWithAllInputs_2 n y2 (y3 + Int32.ofInt 1) I J))))
def fCm_isTrueWithAllInputs (n2 : Nat) (y2 : Int32) (I : Nat → Nat → Int32) (J : Nat → Nat → Int64) : Int32 :=
  fCm_isTrueWithAllInputs_2 n2 y2 (0 : Int32) I J
def pCm_isTrueWithAllInputs (n2 : Nat) (y2 : Int32) (I : Nat → Nat → Int32) (J : Nat → Nat → Int64) : Prop :=
  pCm_isTrueWithAllInputs_2 n2 y2 (0 : Int32) I J
set_option maxHeartbeats 4000000 in
set_option maxRecDepth 100000 in
theorem Cm_isTrueWithAllInputs_n2 (g : pmG) (d : Nat) (ex : List (Nat × Nat)) (R : Nat → Nat → Value) (hR : pk_R R) (o : Outcome) (Z : pmM)  : ∀ (n : Nat) (y2 : Int32) (y3 : Int32) (I : Nat → Nat → Int32) (J : Nat → Nat → Int64), pCm_isTrueWithAllInputs_2 n y2 y3 I J → o = .returned (some (.int (fCm_isTrueWithAllInputs_2 n y2 y3 I J))) → Z = (pk_K ++ ex, R, I, J) → pmE g kCm_isTrueWithAllInputs (d + 2) 0 0 2 [(0, .ref 33), (1, .ref 22), (2, .int y2), (3, .int y3)] [] (pk_K ++ ex) R I J o Z := by
  intro n
  induction n with
  | zero => intro y2 y3 I J hp; exact False.elim hp
  | succ n ih =>
  intro y2 y3 I J hp ho hz
  simp only [pCm_isTrueWithAllInputs_2] at hp
  refine pm_iload_n dCm_isTrueWithAllInputs_2 rfl ?_
  refine pm_aload_n dCm_isTrueWithAllInputs_3 rfl ?_
  refine pm_getr dCm_isTrueWithAllInputs_4 fCm_22 rfl (rr_33_0 hR) ?_
  refine pm_geti dCm_isTrueWithAllInputs_7 fCm_66 rfl ?_
  refine pm_icmp_ge 37 dCm_isTrueWithAllInputs_10 (by decide) (fun h10 => ?_) (fun h10 => ?_)
  ·
    refine pm_iconst (v := 1) dCm_isTrueWithAllInputs_37 (by decide) ?_
    exact pm_zret dCm_isTrueWithAllInputs_38 rfl (by first | rfl | decide) (ho.trans (by first | (simp only [fCm_isTrueWithAllInputs_2, if_pos h10]; done) | (simp only [fCm_isTrueWithAllInputs_2, if_pos h10]; rfl) | rfl)) (hz.trans (by first | (simp only [fCm_isTrueWithAllInputs_2, if_pos h10]; done) | (simp only [fCm_isTrueWithAllInputs_2, if_pos h10]; rfl) | rfl))
  ·
    refine pm_aload_n dCm_isTrueWithAllInputs_13 rfl ?_
    refine pm_aload_n dCm_isTrueWithAllInputs_14 rfl ?_
    refine pm_getr dCm_isTrueWithAllInputs_15 fCm_22 rfl (rr_33_0 hR) ?_
    refine pm_iload_n dCm_isTrueWithAllInputs_18 rfl ?_
    refine pm_iload_n dCm_isTrueWithAllInputs_19 rfl ?_
    refine pm_callV dCm_isTrueWithAllInputs_20 lCm_69 vSt_caseOf ⟨_, _, rfl⟩ (St_caseOf_ok _ _ _ _ hR _ _ _ _ (hp.2 h10).1) rfl rfl rfl (Nat.le_of_ble_eq_true rfl) (Nat.le_refl _) (Nat.le_refl _) ?_
    refine pm_callV dCm_isTrueWithAllInputs_23 lCm_73 vVa_ofLast ⟨_, _, rfl⟩ (Va_ofLast_ok _ _ _ _ hR _ _ _ (hp.2 h10).2.1) rfl rfl rfl (Nat.le_of_ble_eq_true rfl) (Nat.le_refl _) (Nat.le_refl _) ?_
    refine pm_if_ne 31 dCm_isTrueWithAllInputs_26 (by decide) (fun h26 => ?_) (fun h26 => ?_)
    ·
      refine pm_iinc dCm_isTrueWithAllInputs_31 rfl (by decide) rfl ?_
      refine pm_goto 2 dCm_isTrueWithAllInputs_34 (by decide) ?_
      refine pm_wk [1, 2, 3, 0] rfl ?_
      exact ih _ _ _ _ ((hp.2 h10).2.2.2 h26) (ho.trans (by first | (simp only [fCm_isTrueWithAllInputs_2, if_neg h10, if_neg h26]; done) | (simp only [fCm_isTrueWithAllInputs_2, if_neg h10, if_neg h26]; rfl) | rfl)) (hz.trans (by first | (simp only [fCm_isTrueWithAllInputs_2, if_neg h10, if_neg h26]; done) | (simp only [fCm_isTrueWithAllInputs_2, if_neg h10, if_neg h26]; rfl) | rfl))
    ·
      refine pm_iconst (v := 0) dCm_isTrueWithAllInputs_29 (by decide) ?_
      exact pm_zret dCm_isTrueWithAllInputs_30 rfl (by first | rfl | decide) (ho.trans (by first | (simp only [fCm_isTrueWithAllInputs_2, if_neg h10, if_pos h26]; done) | (simp only [fCm_isTrueWithAllInputs_2, if_neg h10, if_pos h26]; rfl) | rfl)) (hz.trans (by first | (simp only [fCm_isTrueWithAllInputs_2, if_neg h10, if_pos h26]; done) | (simp only [fCm_isTrueWithAllInputs_2, if_neg h10, if_pos h26]; rfl) | rfl))
set_option maxHeartbeats 4000000 in
set_option maxRecDepth 100000 in
theorem Cm_isTrueWithAllInputs_n0 (g : pmG) (d : Nat) (ex : List (Nat × Nat)) (R : Nat → Nat → Value) (hR : pk_R R) (o : Outcome) (Z : pmM) (n2 : Nat) (y2 : Int32) (I : Nat → Nat → Int32) (J : Nat → Nat → Int64) (hp : pCm_isTrueWithAllInputs n2 y2 I J) (ho : o = .returned (some (.int (fCm_isTrueWithAllInputs n2 y2 I J)))) (hz : Z = (pk_K ++ ex, R, I, J)) : pmE g kCm_isTrueWithAllInputs (d + 2) 0 0 0 [(0, .ref 33), (1, .ref 22), (2, .int y2)] [] (pk_K ++ ex) R I J o Z := by
  unfold pCm_isTrueWithAllInputs at hp
  refine pm_iconst (v := 0) dCm_isTrueWithAllInputs_0 (by decide) ?_
  refine pm_istore_n dCm_isTrueWithAllInputs_1 (by decide) rfl ?_
  refine pm_wk [1, 2, 3, 0] rfl ?_
  exact Cm_isTrueWithAllInputs_n2 g d ex R hR _ _  n2 _ _ _ _ hp (ho.trans (by first | rfl | (simp only [fCm_isTrueWithAllInputs]; done) | (simp only [fCm_isTrueWithAllInputs]; rfl))) (hz.trans (by first | rfl | (simp only [fCm_isTrueWithAllInputs]; done) | (simp only [fCm_isTrueWithAllInputs]; rfl)))
set_option maxHeartbeats 4000000 in
set_option maxRecDepth 100000 in
theorem Cm_isTrueWithAllInputs_ok (g : pmG) (d : Nat) (ex : List (Nat × Nat)) (R : Nat → Nat → Value) (hR : pk_R R) (n2 : Nat) (x0 : Int32) (I : Nat → Nat → Int32) (J : Nat → Nat → Int64) (hp : pCm_isTrueWithAllInputs n2 x0 I J) : pmC g kCm_isTrueWithAllInputs (d + 2) 0 0 [.ref 33, .ref 22, .int x0] (pk_K ++ ex, R, I, J) (.returned (some (.int (fCm_isTrueWithAllInputs n2 x0 I J)))) (pk_K ++ ex, R, I, J) :=
  pmC.of (by decide) (Nat.le_of_ble_eq_true rfl) (Cm_isTrueWithAllInputs_n0 g d ex R hR _ _ n2 x0 I J hp rfl rfl)
def fCm_isAtAllNext_2  : Nat → Int32 → Int32 → Int32 → (Nat → Nat → Int32) → (Nat → Nat → Int64) → Int32
  | 0, _, _, _, _, _ => 0
  | n + 1, y1, y2, y3, I, J =>
  if (I 25 2) ≤ y3 then (1 : Int32)
  else if ((fCm_has y1 (I 26 ((fSt_caseOf y2 y3 I J)).toNatClampNeg) I J)) = 0 then (0 : Int32)
    else fCm_isAtAllNext_2 n y1 y2 (y3 + Int32.ofInt 1) I J
def pCm_isAtAllNext_2  : Nat → Int32 → Int32 → Int32 → (Nat → Nat → Int32) → (Nat → Nat → Int64) → Prop
  | 0, _, _, _, _, _ => False
  | n + 1, y1, y2, y3, I, J =>
  ((I 25 2) ≤ y3 → True) ∧
  (¬ ((I 25 2) ≤ y3) → (pSt_caseOf y2 y3 I J) ∧ ((vp_in ((fSt_caseOf y2 y3 I J)) 2048) ∧ ((pCm_has y1 (I 26 ((fSt_caseOf y2 y3 I J)).toNatClampNeg) I J) ∧ ((((fCm_has y1 (I 26 ((fSt_caseOf y2 y3 I J)).toNatClampNeg) I J)) = 0 → True) ∧
    (¬ (((fCm_has y1 (I 26 ((fSt_caseOf y2 y3 I J)).toNatClampNeg) I J)) = 0) → pCm_isAtAllNext_2 n y1 y2 (y3 + Int32.ofInt 1) I J)))))
def fCm_isAtAllNext (n2 : Nat) (y1 : Int32) (y2 : Int32) (I : Nat → Nat → Int32) (J : Nat → Nat → Int64) : Int32 :=
  fCm_isAtAllNext_2 n2 y1 y2 (0 : Int32) I J
def pCm_isAtAllNext (n2 : Nat) (y1 : Int32) (y2 : Int32) (I : Nat → Nat → Int32) (J : Nat → Nat → Int64) : Prop :=
  pCm_isAtAllNext_2 n2 y1 y2 (0 : Int32) I J
set_option maxHeartbeats 4000000 in
set_option maxRecDepth 100000 in
theorem Cm_isAtAllNext_n2 (g : pmG) (d : Nat) (ex : List (Nat × Nat)) (R : Nat → Nat → Value) (hR : pk_R R) (o : Outcome) (Z : pmM)  : ∀ (n : Nat) (y1 : Int32) (y2 : Int32) (y3 : Int32) (I : Nat → Nat → Int32) (J : Nat → Nat → Int64), pCm_isAtAllNext_2 n y1 y2 y3 I J → o = .returned (some (.int (fCm_isAtAllNext_2 n y1 y2 y3 I J))) → Z = (pk_K ++ ex, R, I, J) → pmE g kCm_isAtAllNext (d + 1) 0 0 2 [(0, .ref 33), (1, .int y1), (2, .int y2), (3, .int y3)] [] (pk_K ++ ex) R I J o Z := by
  intro n
  induction n with
  | zero => intro y1 y2 y3 I J hp; exact False.elim hp
  | succ n ih =>
  intro y1 y2 y3 I J hp ho hz
  simp only [pCm_isAtAllNext_2] at hp
  refine pm_iload_n dCm_isAtAllNext_2 rfl ?_
  refine pm_aload_n dCm_isAtAllNext_3 rfl ?_
  refine pm_getr dCm_isAtAllNext_4 fCm_22 rfl (rr_33_0 hR) ?_
  refine pm_geti dCm_isAtAllNext_7 fCm_66 rfl ?_
  refine pm_icmp_ge 46 dCm_isAtAllNext_10 (by decide) (fun h10 => ?_) (fun h10 => ?_)
  ·
    refine pm_iconst (v := 1) dCm_isAtAllNext_46 (by decide) ?_
    exact pm_zret dCm_isAtAllNext_47 rfl (by first | rfl | decide) (ho.trans (by first | (simp only [fCm_isAtAllNext_2, if_pos h10]; done) | (simp only [fCm_isAtAllNext_2, if_pos h10]; rfl) | rfl)) (hz.trans (by first | (simp only [fCm_isAtAllNext_2, if_pos h10]; done) | (simp only [fCm_isAtAllNext_2, if_pos h10]; rfl) | rfl))
  ·
    refine pm_aload_n dCm_isAtAllNext_13 rfl ?_
    refine pm_iload_n dCm_isAtAllNext_14 rfl ?_
    refine pm_aload_n dCm_isAtAllNext_15 rfl ?_
    refine pm_getr dCm_isAtAllNext_16 fCm_22 rfl (rr_33_0 hR) ?_
    refine pm_getr dCm_isAtAllNext_19 fCm_111 rfl (rr_25_4 hR) ?_
    refine pm_aload_n dCm_isAtAllNext_22 rfl ?_
    refine pm_getr dCm_isAtAllNext_23 fCm_22 rfl (rr_33_0 hR) ?_
    refine pm_iload_n dCm_isAtAllNext_26 rfl ?_
    refine pm_iload_n dCm_isAtAllNext_27 rfl ?_
    refine pm_callV dCm_isAtAllNext_28 lCm_69 vSt_caseOf ⟨_, _, rfl⟩ (St_caseOf_ok _ _ _ _ hR _ _ _ _ (hp.2 h10).1) rfl rfl rfl (Nat.le_of_ble_eq_true rfl) (Nat.le_refl _) (Nat.le_refl _) ?_
    refine pm_iald dCm_isAtAllNext_31 rfl (hp.2 h10).2.1 ?_
    refine pm_callV dCm_isAtAllNext_32 lCm_43 vCm_has ⟨_, _, rfl⟩ (Cm_has_ok _ _ _ _ hR _ _ _ _ (hp.2 h10).2.2.1) rfl rfl rfl (Nat.le_of_ble_eq_true rfl) (Nat.le_refl _) (Nat.le_refl _) ?_
    refine pm_if_ne 40 dCm_isAtAllNext_35 (by decide) (fun h35 => ?_) (fun h35 => ?_)
    ·
      refine pm_iinc dCm_isAtAllNext_40 rfl (by decide) rfl ?_
      refine pm_goto 2 dCm_isAtAllNext_43 (by decide) ?_
      refine pm_wk [1, 2, 3, 0] rfl ?_
      exact ih _ _ _ _ _ ((hp.2 h10).2.2.2.2 h35) (ho.trans (by first | (simp only [fCm_isAtAllNext_2, if_neg h10, if_neg h35]; done) | (simp only [fCm_isAtAllNext_2, if_neg h10, if_neg h35]; rfl) | rfl)) (hz.trans (by first | (simp only [fCm_isAtAllNext_2, if_neg h10, if_neg h35]; done) | (simp only [fCm_isAtAllNext_2, if_neg h10, if_neg h35]; rfl) | rfl))
    ·
      refine pm_iconst (v := 0) dCm_isAtAllNext_38 (by decide) ?_
      exact pm_zret dCm_isAtAllNext_39 rfl (by first | rfl | decide) (ho.trans (by first | (simp only [fCm_isAtAllNext_2, if_neg h10, if_pos h35]; done) | (simp only [fCm_isAtAllNext_2, if_neg h10, if_pos h35]; rfl) | rfl)) (hz.trans (by first | (simp only [fCm_isAtAllNext_2, if_neg h10, if_pos h35]; done) | (simp only [fCm_isAtAllNext_2, if_neg h10, if_pos h35]; rfl) | rfl))
set_option maxHeartbeats 4000000 in
set_option maxRecDepth 100000 in
theorem Cm_isAtAllNext_n0 (g : pmG) (d : Nat) (ex : List (Nat × Nat)) (R : Nat → Nat → Value) (hR : pk_R R) (o : Outcome) (Z : pmM) (n2 : Nat) (y1 : Int32) (y2 : Int32) (I : Nat → Nat → Int32) (J : Nat → Nat → Int64) (hp : pCm_isAtAllNext n2 y1 y2 I J) (ho : o = .returned (some (.int (fCm_isAtAllNext n2 y1 y2 I J)))) (hz : Z = (pk_K ++ ex, R, I, J)) : pmE g kCm_isAtAllNext (d + 1) 0 0 0 [(0, .ref 33), (1, .int y1), (2, .int y2)] [] (pk_K ++ ex) R I J o Z := by
  unfold pCm_isAtAllNext at hp
  refine pm_iconst (v := 0) dCm_isAtAllNext_0 (by decide) ?_
  refine pm_istore_n dCm_isAtAllNext_1 (by decide) rfl ?_
  refine pm_wk [1, 2, 3, 0] rfl ?_
  exact Cm_isAtAllNext_n2 g d ex R hR _ _  n2 _ _ _ _ _ hp (ho.trans (by first | rfl | (simp only [fCm_isAtAllNext]; done) | (simp only [fCm_isAtAllNext]; rfl))) (hz.trans (by first | rfl | (simp only [fCm_isAtAllNext]; done) | (simp only [fCm_isAtAllNext]; rfl)))
set_option maxHeartbeats 4000000 in
set_option maxRecDepth 100000 in
theorem Cm_isAtAllNext_ok (g : pmG) (d : Nat) (ex : List (Nat × Nat)) (R : Nat → Nat → Value) (hR : pk_R R) (n2 : Nat) (x0 : Int32) (x1 : Int32) (I : Nat → Nat → Int32) (J : Nat → Nat → Int64) (hp : pCm_isAtAllNext n2 x0 x1 I J) : pmC g kCm_isAtAllNext (d + 1) 0 0 [.ref 33, .int x0, .int x1] (pk_K ++ ex, R, I, J) (.returned (some (.int (fCm_isAtAllNext n2 x0 x1 I J)))) (pk_K ++ ex, R, I, J) :=
  pmC.of (by decide) (Nat.le_of_ble_eq_true rfl) (Cm_isAtAllNext_n0 g d ex R hR _ _ n2 x0 x1 I J hp rfl rfl)
def fCm_test_33 (r7 : Int32 → Int32 → (Nat → Nat → Int32) → (Nat → Nat → Int64) → (Nat → Nat → Int32) × (Nat → Nat → Int64)) (y2 : Int32) (y3 : Int32) (I : Nat → Nat → Int32) (J : Nat → Nat → Int64) : (Nat → Nat → Int32) × (Nat → Nat → Int64) :=
  r7 y2 (y3 + Int32.ofInt 1) I J
def pCm_test_33 (q7 : Int32 → Int32 → (Nat → Nat → Int32) → (Nat → Nat → Int64) → Prop) (y2 : Int32) (y3 : Int32) (I : Nat → Nat → Int32) (J : Nat → Nat → Int64) : Prop :=
  q7 y2 (y3 + Int32.ofInt 1) I J
def fCm_test_7  : Nat → Int32 → Int32 → (Nat → Nat → Int32) → (Nat → Nat → Int64) → (Nat → Nat → Int32) × (Nat → Nat → Int64)
  | 0, _, _, I, J => (I, J)
  | n + 1, y2, y3, I, J =>
  if (I 25 1) ≤ y3 then ((fVa_drop I J), J)
  else if ((fCm_isTrueWithAllInputs 9 y3 I J)) = 0 then fCm_test_33 (fCm_test_7 n) y2 y3 I J
    else fCm_test_33 (fCm_test_7 n) y2 y3 I ((fCm_put y2 y3 I J))
def pCm_test_7  : Nat → Int32 → Int32 → (Nat → Nat → Int32) → (Nat → Nat → Int64) → Prop
  | 0, _, _, _, _ => False
  | n + 1, y2, y3, I, J =>
  ((I 25 1) ≤ y3 → (pVa_drop I J) ∧ True) ∧
  (¬ ((I 25 1) ≤ y3) → (pCm_isTrueWithAllInputs 9 y3 I J) ∧ ((((fCm_isTrueWithAllInputs 9 y3 I J)) = 0 → pCm_test_33 (pCm_test_7 n) y2 y3 I J) ∧
    (¬ (((fCm_isTrueWithAllInputs 9 y3 I J)) = 0) → (pCm_put y2 y3 I J) ∧ (pCm_test_33 (pCm_test_7 n) y2 y3 I ((fCm_put y2 y3 I J))))))
def fCm_test_4 (n7 : Nat) (z0 : Int32) (I : Nat → Nat → Int32) (J : Nat → Nat → Int64) : (Nat → Nat → Int32) × (Nat → Nat → Int64) :=
  fCm_test_7 n7 z0 (0 : Int32) I J
def pCm_test_4 (n7 : Nat) (z0 : Int32) (I : Nat → Nat → Int32) (J : Nat → Nat → Int64) : Prop :=
  pCm_test_7 n7 z0 (0 : Int32) I J
def fCm_test (n7 : Nat) (I : Nat → Nat → Int32) (J : Nat → Nat → Int64) : (Nat → Nat → Int32) × (Nat → Nat → Int64) :=
  fCm_test_4 n7 ((fCm_pushEmpty I J).1) ((fCm_pushEmpty I J).2.1) ((fCm_pushEmpty I J).2.2)
def pCm_test (n7 : Nat) (I : Nat → Nat → Int32) (J : Nat → Nat → Int64) : Prop :=
  (pCm_pushEmpty I J) ∧ (pCm_test_4 n7 ((fCm_pushEmpty I J).1) ((fCm_pushEmpty I J).2.1) ((fCm_pushEmpty I J).2.2))
set_option maxHeartbeats 4000000 in
set_option maxRecDepth 100000 in
theorem Cm_test_n33 (g : pmG) (d : Nat) (ex : List (Nat × Nat)) (R : Nat → Nat → Value) (hR : pk_R R) (o : Outcome) (Z : pmM) (r7 : Int32 → Int32 → (Nat → Nat → Int32) → (Nat → Nat → Int64) → (Nat → Nat → Int32) × (Nat → Nat → Int64)) (q7 : Int32 → Int32 → (Nat → Nat → Int32) → (Nat → Nat → Int64) → Prop) (ih7 : ∀ (y2 : Int32) (y3 : Int32) (I : Nat → Nat → Int32) (J : Nat → Nat → Int64), q7 y2 y3 I J → o = .returned none → Z = (pk_K ++ ex, R, (r7 y2 y3 I J).1, (r7 y2 y3 I J).2) → pmE g kCm_test (d + 3) 0 0 7 [(0, .ref 33), (1, .ref 22), (2, .int y2), (3, .int y3)] [] (pk_K ++ ex) R I J o Z)  (y2 : Int32) (y3 : Int32) (I : Nat → Nat → Int32) (J : Nat → Nat → Int64) (hp : pCm_test_33 q7 y2 y3 I J) (ho : o = .returned none) (hz : Z = (pk_K ++ ex, R, (fCm_test_33 r7 y2 y3 I J).1, (fCm_test_33 r7 y2 y3 I J).2)) : pmE g kCm_test (d + 3) 0 0 33 [(0, .ref 33), (1, .ref 22), (2, .int y2), (3, .int y3)] [] (pk_K ++ ex) R I J o Z := by
  unfold pCm_test_33 at hp
  refine pm_iinc dCm_test_33 rfl (by decide) rfl ?_
  refine pm_goto 7 dCm_test_36 (by decide) ?_
  refine pm_wk [1, 2, 3, 0] rfl ?_
  exact ih7 _ _ _ _ hp ho (hz.trans (by first | rfl | (simp only [fCm_test_33]; done) | (simp only [fCm_test_33]; rfl)))
set_option maxHeartbeats 4000000 in
set_option maxRecDepth 100000 in
theorem Cm_test_n7 (g : pmG) (d : Nat) (ex : List (Nat × Nat)) (R : Nat → Nat → Value) (hR : pk_R R) (o : Outcome) (Z : pmM)  : ∀ (n : Nat) (y2 : Int32) (y3 : Int32) (I : Nat → Nat → Int32) (J : Nat → Nat → Int64), pCm_test_7 n y2 y3 I J → o = .returned none → Z = (pk_K ++ ex, R, (fCm_test_7 n y2 y3 I J).1, (fCm_test_7 n y2 y3 I J).2) → pmE g kCm_test (d + 3) 0 0 7 [(0, .ref 33), (1, .ref 22), (2, .int y2), (3, .int y3)] [] (pk_K ++ ex) R I J o Z := by
  intro n
  induction n with
  | zero => intro y2 y3 I J hp; exact False.elim hp
  | succ n ih =>
  intro y2 y3 I J hp ho hz
  simp only [pCm_test_7] at hp
  refine pm_iload_n dCm_test_7 rfl ?_
  refine pm_aload_n dCm_test_8 rfl ?_
  refine pm_getr dCm_test_9 fCm_22 rfl (rr_33_0 hR) ?_
  refine pm_geti dCm_test_12 fCm_34 rfl ?_
  refine pm_icmp_ge 39 dCm_test_15 (by decide) (fun h15 => ?_) (fun h15 => ?_)
  ·
    refine pm_aload_n dCm_test_39 rfl ?_
    refine pm_callV dCm_test_40 lCm_61 vVa_drop ⟨_, _, rfl⟩ (Va_drop_ok _ _ _ _ hR  _ _ (hp.1 h15).1) rfl rfl rfl (Nat.le_of_ble_eq_true rfl) (Nat.le_refl _) (Nat.le_refl _) ?_
    exact pm_vret dCm_test_43 rfl ho (hz.trans (by first | (simp only [fCm_test_7, if_pos h15]; done) | (simp only [fCm_test_7, if_pos h15]; rfl) | rfl))
  ·
    refine pm_aload_n dCm_test_18 rfl ?_
    refine pm_aload_n dCm_test_19 rfl ?_
    refine pm_iload_n dCm_test_20 rfl ?_
    refine pm_callV dCm_test_21 lCm_57 vCm_isTrueWithAllInputs ⟨_, _, rfl⟩ (Cm_isTrueWithAllInputs_ok _ _ _ _ hR _ _ _ _ (hp.2 h15).1) rfl rfl rfl (Nat.le_of_ble_eq_true rfl) (Nat.le_refl _) (Nat.le_refl _) ?_
    refine pm_if_eq 33 dCm_test_24 (by decide) (fun h24 => ?_) (fun h24 => ?_)
    ·
      refine pm_wk [0, 1, 2, 3] rfl ?_
      exact Cm_test_n33 g d ex R hR _ _ (fCm_test_7 n) (pCm_test_7 n) ih  _ _ _ _ ((hp.2 h15).2.1 h24) ho (hz.trans (by first | (simp only [fCm_test_7, if_neg h15, if_pos h24]; done) | (simp only [fCm_test_7, if_neg h15, if_pos h24]; rfl) | rfl))
    ·
      refine pm_aload_n dCm_test_27 rfl ?_
      refine pm_iload_n dCm_test_28 rfl ?_
      refine pm_iload_n dCm_test_29 rfl ?_
      refine pm_callV dCm_test_30 lCm_39 vCm_put ⟨_, _, rfl⟩ (Cm_put_ok _ _ _ _ hR _ _ _ _ ((hp.2 h15).2.2 h24).1) rfl rfl rfl (Nat.le_of_ble_eq_true rfl) (Nat.le_refl _) (Nat.le_refl _) ?_
      refine pm_wk [0, 1, 2, 3] rfl ?_
      exact Cm_test_n33 g d ex R hR _ _ (fCm_test_7 n) (pCm_test_7 n) ih  _ _ _ _ ((hp.2 h15).2.2 h24).2 ho (hz.trans (by first | (simp only [fCm_test_7, if_neg h15, if_neg h24]; done) | (simp only [fCm_test_7, if_neg h15, if_neg h24]; rfl) | rfl))
set_option maxHeartbeats 4000000 in
set_option maxRecDepth 100000 in
theorem Cm_test_n4 (g : pmG) (d : Nat) (ex : List (Nat × Nat)) (R : Nat → Nat → Value) (hR : pk_R R) (o : Outcome) (Z : pmM) (n7 : Nat) (z0 : Int32) (I : Nat → Nat → Int32) (J : Nat → Nat → Int64) (hp : pCm_test_4 n7 z0 I J) (ho : o = .returned none) (hz : Z = (pk_K ++ ex, R, (fCm_test_4 n7 z0 I J).1, (fCm_test_4 n7 z0 I J).2)) : pmE g kCm_test (d + 3) 0 0 4 [(0, .ref 33), (1, .ref 22)] [.int z0] (pk_K ++ ex) R I J o Z := by
  unfold pCm_test_4 at hp
  refine pm_istore_n dCm_test_4 (by decide) rfl ?_
  refine pm_iconst (v := 0) dCm_test_5 (by decide) ?_
  refine pm_istore_n dCm_test_6 (by decide) rfl ?_
  refine pm_wk [2, 3, 1, 0] rfl ?_
  exact Cm_test_n7 g d ex R hR _ _  n7 _ _ _ _ hp ho (hz.trans (by first | rfl | (simp only [fCm_test_4]; done) | (simp only [fCm_test_4]; rfl)))
set_option maxHeartbeats 4000000 in
set_option maxRecDepth 100000 in
theorem Cm_test_n0 (g : pmG) (d : Nat) (ex : List (Nat × Nat)) (R : Nat → Nat → Value) (hR : pk_R R) (o : Outcome) (Z : pmM) (n7 : Nat) (I : Nat → Nat → Int32) (J : Nat → Nat → Int64) (hp : pCm_test n7 I J) (ho : o = .returned none) (hz : Z = (pk_K ++ ex, R, (fCm_test n7 I J).1, (fCm_test n7 I J).2)) : pmE g kCm_test (d + 3) 0 0 0 [(0, .ref 33), (1, .ref 22)] [] (pk_K ++ ex) R I J o Z := by
  unfold pCm_test at hp
  refine pm_aload_n dCm_test_0 rfl ?_
  refine pm_callV dCm_test_1 lCm_53 vCm_pushEmpty ⟨_, _, rfl⟩ (Cm_pushEmpty_ok _ _ _ _ hR  _ _ hp.1) rfl rfl rfl (Nat.le_of_ble_eq_true rfl) (Nat.le_refl _) (Nat.le_refl _) ?_
  refine pm_wk [0, 1] rfl ?_
  exact Cm_test_n4 g d ex R hR _ _  n7 _ _ _ hp.2 ho (hz.trans (by first | rfl | (simp only [fCm_test]; done) | (simp only [fCm_test]; rfl)))
set_option maxHeartbeats 4000000 in
set_option maxRecDepth 100000 in
theorem Cm_test_ok (g : pmG) (d : Nat) (ex : List (Nat × Nat)) (R : Nat → Nat → Value) (hR : pk_R R) (n7 : Nat)  (I : Nat → Nat → Int32) (J : Nat → Nat → Int64) (hp : pCm_test n7 I J) : pmC g kCm_test (d + 3) 0 0 [.ref 33, .ref 22] (pk_K ++ ex, R, I, J) (.returned none) (pk_K ++ ex, R, (fCm_test n7 I J).1, (fCm_test n7 I J).2) :=
  pmC.of (by decide) (Nat.le_of_ble_eq_true rfl) (Cm_test_n0 g d ex R hR _ _ n7  I J hp rfl rfl)
def fCm_join_122 (r13 : Int32 → Int32 → Int32 → Int32 → (Nat → Nat → Int32) → (Nat → Nat → Int64) → (Nat → Nat → Int32) × (Nat → Nat → Int64)) (y1 : Int32) (y2 : Int32) (y3 : Int32) (y4 : Int32) (I : Nat → Nat → Int32) (J : Nat → Nat → Int64) : (Nat → Nat → Int32) × (Nat → Nat → Int64) :=
  r13 y1 y2 y3 (y4 + Int32.ofInt 1) I J
def pCm_join_122 (q13 : Int32 → Int32 → Int32 → Int32 → (Nat → Nat → Int32) → (Nat → Nat → Int64) → Prop) (y1 : Int32) (y2 : Int32) (y3 : Int32) (y4 : Int32) (I : Nat → Nat → Int32) (J : Nat → Nat → Int64) : Prop :=
  q13 y1 y2 y3 (y4 + Int32.ofInt 1) I J
def fCm_join_13  : Nat → Int32 → Int32 → Int32 → Int32 → (Nat → Nat → Int32) → (Nat → Nat → Int64) → (Nat → Nat → Int32) × (Nat → Nat → Int64)
  | 0, _, _, _, _, I, J => (I, J)
  | n + 1, y1, y2, y3, y4, I, J =>
  if (4 : Int32) ≤ y4 then (I, J)
  else if y1 = (54 : Int32) then fCm_join_122 (fCm_join_13 n) y1 y2 y3 y4 I (pm_u J 34 (y3 + y4).toNatClampNeg ((J 34 (y3 + y4).toNatClampNeg) &&& (J 34 (y2 + y4).toNatClampNeg)))
    else if y1 = (55 : Int32) then fCm_join_122 (fCm_join_13 n) y1 y2 y3 y4 I (pm_u J 34 (y3 + y4).toNatClampNeg ((J 34 (y3 + y4).toNatClampNeg) ||| (J 34 (y2 + y4).toNatClampNeg)))
      else fCm_join_122 (fCm_join_13 n) y1 y2 y3 y4 I (pm_u J 34 (y3 + y4).toNatClampNeg (((J 34 ((120 : Int32) + y4).toNatClampNeg) &&& ((J 34 (y3 + y4).toNatClampNeg) ^^^ (-1 : Int64))) ||| (J 34 (y2 + y4).toNatClampNeg)))
def pCm_join_13  : Nat → Int32 → Int32 → Int32 → Int32 → (Nat → Nat → Int32) → (Nat → Nat → Int64) → Prop
  | 0, _, _, _, _, _, _ => False
  | n + 1, y1, y2, y3, y4, I, J =>
  ((4 : Int32) ≤ y4 → True) ∧
  (¬ ((4 : Int32) ≤ y4) → (y1 = (54 : Int32) → (vp_in (y3 + y4) 624) ∧ ((vp_in (y2 + y4) 624) ∧ ((vp_in (y3 + y4) 624) ∧ (pCm_join_122 (pCm_join_13 n) y1 y2 y3 y4 I (pm_u J 34 (y3 + y4).toNatClampNeg ((J 34 (y3 + y4).toNatClampNeg) &&& (J 34 (y2 + y4).toNatClampNeg))))))) ∧
    (¬ (y1 = (54 : Int32)) → (y1 = (55 : Int32) → (vp_in (y3 + y4) 624) ∧ ((vp_in (y2 + y4) 624) ∧ ((vp_in (y3 + y4) 624) ∧ (pCm_join_122 (pCm_join_13 n) y1 y2 y3 y4 I (pm_u J 34 (y3 + y4).toNatClampNeg ((J 34 (y3 + y4).toNatClampNeg) ||| (J 34 (y2 + y4).toNatClampNeg))))))) ∧
      (¬ (y1 = (55 : Int32)) → (vp_in ((120 : Int32) + y4) 624) ∧ ((vp_in (y3 + y4) 624) ∧ ((vp_in (y2 + y4) 624) ∧ ((vp_in (y3 + y4) 624) ∧ (pCm_join_122 (pCm_join_13 n) y1 y2 y3 y4 I (pm_u J 34 (y3 + y4).toNatClampNeg (((J 34 ((120 : Int32) + y4).toNatClampNeg) &&& ((J 34 (y3 + y4).toNatClampNeg) ^^^ (-1 : Int64))) ||| (J 34 (y2 + y4).toNatClampNeg))))))))))
def fCm_join_4 (n13 : Nat) (y1 : Int32) (z0 : Int32) (I : Nat → Nat → Int32) (J : Nat → Nat → Int64) : (Nat → Nat → Int32) × (Nat → Nat → Int64) :=
  fCm_join_13 n13 y1 z0 ((fCm_last I J)) (0 : Int32) I J
def pCm_join_4 (n13 : Nat) (y1 : Int32) (z0 : Int32) (I : Nat → Nat → Int32) (J : Nat → Nat → Int64) : Prop :=
  (pCm_last I J) ∧ (pCm_join_13 n13 y1 z0 ((fCm_last I J)) (0 : Int32) I J)
def fCm_join (n13 : Nat) (y1 : Int32) (I : Nat → Nat → Int32) (J : Nat → Nat → Int64) : (Nat → Nat → Int32) × (Nat → Nat → Int64) :=
  fCm_join_4 n13 y1 ((fCm_pop I J).1) ((fCm_pop I J).2) J
def pCm_join (n13 : Nat) (y1 : Int32) (I : Nat → Nat → Int32) (J : Nat → Nat → Int64) : Prop :=
  (pCm_pop I J) ∧ (pCm_join_4 n13 y1 ((fCm_pop I J).1) ((fCm_pop I J).2) J)
set_option maxHeartbeats 4000000 in
set_option maxRecDepth 100000 in
theorem Cm_join_n122 (g : pmG) (d : Nat) (ex : List (Nat × Nat)) (R : Nat → Nat → Value) (hR : pk_R R) (o : Outcome) (Z : pmM) (r13 : Int32 → Int32 → Int32 → Int32 → (Nat → Nat → Int32) → (Nat → Nat → Int64) → (Nat → Nat → Int32) × (Nat → Nat → Int64)) (q13 : Int32 → Int32 → Int32 → Int32 → (Nat → Nat → Int32) → (Nat → Nat → Int64) → Prop) (ih13 : ∀ (y1 : Int32) (y2 : Int32) (y3 : Int32) (y4 : Int32) (I : Nat → Nat → Int32) (J : Nat → Nat → Int64), q13 y1 y2 y3 y4 I J → o = .returned none → Z = (pk_K ++ ex, R, (r13 y1 y2 y3 y4 I J).1, (r13 y1 y2 y3 y4 I J).2) → pmE g kCm_join (d + 2) 0 0 13 [(0, .ref 33), (1, .int y1), (2, .int y2), (3, .int y3), (4, .int y4)] [] (pk_K ++ ex) R I J o Z)  (y1 : Int32) (y2 : Int32) (y3 : Int32) (y4 : Int32) (I : Nat → Nat → Int32) (J : Nat → Nat → Int64) (hp : pCm_join_122 q13 y1 y2 y3 y4 I J) (ho : o = .returned none) (hz : Z = (pk_K ++ ex, R, (fCm_join_122 r13 y1 y2 y3 y4 I J).1, (fCm_join_122 r13 y1 y2 y3 y4 I J).2)) : pmE g kCm_join (d + 2) 0 0 122 [(0, .ref 33), (1, .int y1), (2, .int y2), (3, .int y3), (4, .int y4)] [] (pk_K ++ ex) R I J o Z := by
  unfold pCm_join_122 at hp
  refine pm_iinc dCm_join_122 rfl (by decide) rfl ?_
  refine pm_goto 13 dCm_join_125 (by decide) ?_
  refine pm_wk [1, 2, 3, 4, 0] rfl ?_
  exact ih13 _ _ _ _ _ _ hp ho (hz.trans (by first | rfl | (simp only [fCm_join_122]; done) | (simp only [fCm_join_122]; rfl)))
set_option maxHeartbeats 4000000 in
set_option maxRecDepth 100000 in
theorem Cm_join_n13 (g : pmG) (d : Nat) (ex : List (Nat × Nat)) (R : Nat → Nat → Value) (hR : pk_R R) (o : Outcome) (Z : pmM)  : ∀ (n : Nat) (y1 : Int32) (y2 : Int32) (y3 : Int32) (y4 : Int32) (I : Nat → Nat → Int32) (J : Nat → Nat → Int64), pCm_join_13 n y1 y2 y3 y4 I J → o = .returned none → Z = (pk_K ++ ex, R, (fCm_join_13 n y1 y2 y3 y4 I J).1, (fCm_join_13 n y1 y2 y3 y4 I J).2) → pmE g kCm_join (d + 2) 0 0 13 [(0, .ref 33), (1, .int y1), (2, .int y2), (3, .int y3), (4, .int y4)] [] (pk_K ++ ex) R I J o Z := by
  intro n
  induction n with
  | zero => intro y1 y2 y3 y4 I J hp; exact False.elim hp
  | succ n ih =>
  intro y1 y2 y3 y4 I J hp ho hz
  simp only [pCm_join_13] at hp
  refine pm_iload dCm_join_13 rfl ?_
  refine pm_iconst (v := 4) dCm_join_15 (by decide) ?_
  refine pm_icmp_ge 128 dCm_join_16 (by decide) (fun h16 => ?_) (fun h16 => ?_)
  ·
    exact pm_vret dCm_join_128 rfl ho (hz.trans (by first | (simp only [fCm_join_13, if_pos h16]; done) | (simp only [fCm_join_13, if_pos h16]; rfl) | rfl))
  ·
    refine pm_iload_n dCm_join_19 rfl ?_
    refine pm_bipush (v := 54) dCm_join_20 (by decide) ?_
    refine pm_icmp_ne 49 dCm_join_22 (by decide) (fun h22 => ?_) (fun h22 => ?_)
    ·
      refine pm_iload_n dCm_join_49 rfl ?_
      refine pm_bipush (v := 55) dCm_join_50 (by decide) ?_
      refine pm_icmp_ne 79 dCm_join_52 (by decide) (fun h52 => ?_) (fun h52 => ?_)
      ·
        refine pm_aload_n dCm_join_79 rfl ?_
        refine pm_getr dCm_join_80 fCm_11 rfl (rr_33_1 hR) ?_
        refine pm_iload_n dCm_join_83 rfl ?_
        refine pm_iload dCm_join_84 rfl ?_
        refine pm_iadd dCm_join_86 ?_
        refine pm_aload_n dCm_join_87 rfl ?_
        refine pm_getr dCm_join_88 fCm_11 rfl (rr_33_1 hR) ?_
        refine pm_bipush (v := 120) dCm_join_91 (by decide) ?_
        refine pm_iload dCm_join_93 rfl ?_
        refine pm_iadd dCm_join_95 ?_
        refine pm_lald dCm_join_96 rfl (((hp.2 h16).2 h22).2 h52).1 ?_
        refine pm_aload_n dCm_join_97 rfl ?_
        refine pm_getr dCm_join_98 fCm_11 rfl (rr_33_1 hR) ?_
        refine pm_iload_n dCm_join_101 rfl ?_
        refine pm_iload dCm_join_102 rfl ?_
        refine pm_iadd dCm_join_104 ?_
        refine pm_lald dCm_join_105 rfl (((hp.2 h16).2 h22).2 h52).2.1 ?_
        refine pm_ldc2 dCm_join_106 cCm_99 ?_
        refine pm_lxor dCm_join_109 ?_
        refine pm_land dCm_join_110 ?_
        refine pm_aload_n dCm_join_111 rfl ?_
        refine pm_getr dCm_join_112 fCm_11 rfl (rr_33_1 hR) ?_
        refine pm_iload_n dCm_join_115 rfl ?_
        refine pm_iload dCm_join_116 rfl ?_
        refine pm_iadd dCm_join_118 ?_
        refine pm_lald dCm_join_119 rfl (((hp.2 h16).2 h22).2 h52).2.2.1 ?_
        refine pm_lor dCm_join_120 ?_
        refine pm_last dCm_join_121 rfl (((hp.2 h16).2 h22).2 h52).2.2.2.1 ?_
        refine pm_wk [0, 1, 2, 3, 4] rfl ?_
        exact Cm_join_n122 g d ex R hR _ _ (fCm_join_13 n) (pCm_join_13 n) ih  _ _ _ _ _ _ (((hp.2 h16).2 h22).2 h52).2.2.2.2 ho (hz.trans (by first | (simp only [fCm_join_13, if_neg h16, if_neg h22, if_neg h52]; done) | (simp only [fCm_join_13, if_neg h16, if_neg h22, if_neg h52]; rfl) | rfl))
      ·
        refine pm_aload_n dCm_join_55 rfl ?_
        refine pm_getr dCm_join_56 fCm_11 rfl (rr_33_1 hR) ?_
        refine pm_iload_n dCm_join_59 rfl ?_
        refine pm_iload dCm_join_60 rfl ?_
        refine pm_iadd dCm_join_62 ?_
        refine pm_dup2 dCm_join_63 rfl rfl ?_
        refine pm_lald dCm_join_64 rfl (((hp.2 h16).2 h22).1 h52).1 ?_
        refine pm_aload_n dCm_join_65 rfl ?_
        refine pm_getr dCm_join_66 fCm_11 rfl (rr_33_1 hR) ?_
        refine pm_iload_n dCm_join_69 rfl ?_
        refine pm_iload dCm_join_70 rfl ?_
        refine pm_iadd dCm_join_72 ?_
        refine pm_lald dCm_join_73 rfl (((hp.2 h16).2 h22).1 h52).2.1 ?_
        refine pm_lor dCm_join_74 ?_
        refine pm_last dCm_join_75 rfl (((hp.2 h16).2 h22).1 h52).2.2.1 ?_
        refine pm_goto 122 dCm_join_76 (by decide) ?_
        refine pm_wk [0, 1, 2, 3, 4] rfl ?_
        exact Cm_join_n122 g d ex R hR _ _ (fCm_join_13 n) (pCm_join_13 n) ih  _ _ _ _ _ _ (((hp.2 h16).2 h22).1 h52).2.2.2 ho (hz.trans (by first | (simp only [fCm_join_13, if_neg h16, if_neg h22, if_pos h52]; done) | (simp only [fCm_join_13, if_neg h16, if_neg h22, if_pos h52]; rfl) | rfl))
    ·
      refine pm_aload_n dCm_join_25 rfl ?_
      refine pm_getr dCm_join_26 fCm_11 rfl (rr_33_1 hR) ?_
      refine pm_iload_n dCm_join_29 rfl ?_
      refine pm_iload dCm_join_30 rfl ?_
      refine pm_iadd dCm_join_32 ?_
      refine pm_dup2 dCm_join_33 rfl rfl ?_
      refine pm_lald dCm_join_34 rfl ((hp.2 h16).1 h22).1 ?_
      refine pm_aload_n dCm_join_35 rfl ?_
      refine pm_getr dCm_join_36 fCm_11 rfl (rr_33_1 hR) ?_
      refine pm_iload_n dCm_join_39 rfl ?_
      refine pm_iload dCm_join_40 rfl ?_
      refine pm_iadd dCm_join_42 ?_
      refine pm_lald dCm_join_43 rfl ((hp.2 h16).1 h22).2.1 ?_
      refine pm_land dCm_join_44 ?_
      refine pm_last dCm_join_45 rfl ((hp.2 h16).1 h22).2.2.1 ?_
      refine pm_goto 122 dCm_join_46 (by decide) ?_
      refine pm_wk [0, 1, 2, 3, 4] rfl ?_
      exact Cm_join_n122 g d ex R hR _ _ (fCm_join_13 n) (pCm_join_13 n) ih  _ _ _ _ _ _ ((hp.2 h16).1 h22).2.2.2 ho (hz.trans (by first | (simp only [fCm_join_13, if_neg h16, if_pos h22]; done) | (simp only [fCm_join_13, if_neg h16, if_pos h22]; rfl) | rfl))
set_option maxHeartbeats 4000000 in
set_option maxRecDepth 100000 in
theorem Cm_join_n4 (g : pmG) (d : Nat) (ex : List (Nat × Nat)) (R : Nat → Nat → Value) (hR : pk_R R) (o : Outcome) (Z : pmM) (n13 : Nat) (y1 : Int32) (z0 : Int32) (I : Nat → Nat → Int32) (J : Nat → Nat → Int64) (hp : pCm_join_4 n13 y1 z0 I J) (ho : o = .returned none) (hz : Z = (pk_K ++ ex, R, (fCm_join_4 n13 y1 z0 I J).1, (fCm_join_4 n13 y1 z0 I J).2)) : pmE g kCm_join (d + 2) 0 0 4 [(0, .ref 33), (1, .int y1)] [.int z0] (pk_K ++ ex) R I J o Z := by
  unfold pCm_join_4 at hp
  refine pm_istore_n dCm_join_4 (by decide) rfl ?_
  refine pm_aload_n dCm_join_5 rfl ?_
  refine pm_callV dCm_join_6 lCm_83 vCm_last ⟨_, _, rfl⟩ (Cm_last_ok _ _ _ _ hR  _ _ hp.1) rfl rfl rfl (Nat.le_of_ble_eq_true rfl) (Nat.le_refl _) (Nat.le_refl _) ?_
  refine pm_istore_n dCm_join_9 (by decide) rfl ?_
  refine pm_iconst (v := 0) dCm_join_10 (by decide) ?_
  refine pm_istore dCm_join_11 (by decide) rfl ?_
  refine pm_wk [3, 4, 2, 1, 0] rfl ?_
  exact Cm_join_n13 g d ex R hR _ _  n13 _ _ _ _ _ _ hp.2 ho (hz.trans (by first | rfl | (simp only [fCm_join_4]; done) | (simp only [fCm_join_4]; rfl)))
set_option maxHeartbeats 4000000 in
set_option maxRecDepth 100000 in
theorem Cm_join_n0 (g : pmG) (d : Nat) (ex : List (Nat × Nat)) (R : Nat → Nat → Value) (hR : pk_R R) (o : Outcome) (Z : pmM) (n13 : Nat) (y1 : Int32) (I : Nat → Nat → Int32) (J : Nat → Nat → Int64) (hp : pCm_join n13 y1 I J) (ho : o = .returned none) (hz : Z = (pk_K ++ ex, R, (fCm_join n13 y1 I J).1, (fCm_join n13 y1 I J).2)) : pmE g kCm_join (d + 2) 0 0 0 [(0, .ref 33), (1, .int y1)] [] (pk_K ++ ex) R I J o Z := by
  unfold pCm_join at hp
  refine pm_aload_n dCm_join_0 rfl ?_
  refine pm_callV dCm_join_1 lCm_80 vCm_pop ⟨_, _, rfl⟩ (Cm_pop_ok _ _ _ _ hR  _ _ hp.1) rfl rfl rfl (Nat.le_of_ble_eq_true rfl) (Nat.le_refl _) (Nat.le_refl _) ?_
  refine pm_wk [0, 1] rfl ?_
  exact Cm_join_n4 g d ex R hR _ _  n13 _ _ _ _ hp.2 ho (hz.trans (by first | rfl | (simp only [fCm_join]; done) | (simp only [fCm_join]; rfl)))
set_option maxHeartbeats 4000000 in
set_option maxRecDepth 100000 in
theorem Cm_join_ok (g : pmG) (d : Nat) (ex : List (Nat × Nat)) (R : Nat → Nat → Value) (hR : pk_R R) (n13 : Nat) (x0 : Int32) (I : Nat → Nat → Int32) (J : Nat → Nat → Int64) (hp : pCm_join n13 x0 I J) : pmC g kCm_join (d + 2) 0 0 [.ref 33, .int x0] (pk_K ++ ex, R, I, J) (.returned none) (pk_K ++ ex, R, (fCm_join n13 x0 I J).1, (fCm_join n13 x0 I J).2) :=
  pmC.of (by decide) (Nat.le_of_ble_eq_true rfl) (Cm_join_n0 g d ex R hR _ _ n13 x0 I J hp rfl rfl)
