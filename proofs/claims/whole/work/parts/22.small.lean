def fTp_byteAt_25  (y1 : Int32) (I : Nat → Nat → Int32) (J : Nat → Nat → Int64) : Int32 :=
  (0 : Int32)
def pTp_byteAt_25  (y1 : Int32) (I : Nat → Nat → Int32) (J : Nat → Nat → Int64) : Prop :=
  True
def fTp_byteAt  (y1 : Int32) (I : Nat → Nat → Int32) (J : Nat → Nat → Int64) : Int32 :=
  if y1 < 0 then fTp_byteAt_25 y1 I J
  else if (I 1 1) ≤ y1 then fTp_byteAt_25 y1 I J
    else (I 2 y1.toNatClampNeg) &&& (255 : Int32)
def pTp_byteAt  (y1 : Int32) (I : Nat → Nat → Int32) (J : Nat → Nat → Int64) : Prop :=
  (y1 < 0 → pTp_byteAt_25 y1 I J) ∧
  (¬ (y1 < 0) → ((I 1 1) ≤ y1 → pTp_byteAt_25 y1 I J) ∧
    (¬ ((I 1 1) ≤ y1) → (vp_in y1 65536) ∧ True))
set_option maxHeartbeats 4000000 in
set_option maxRecDepth 100000 in
theorem Tp_byteAt_n25 (g : pmG) (d : Nat) (ex : List (Nat × Nat)) (R : Nat → Nat → Value) (hR : pk_R R) (o : Outcome) (Z : pmM)  (y1 : Int32) (I : Nat → Nat → Int32) (J : Nat → Nat → Int64) (hp : pTp_byteAt_25 y1 I J) (ho : o = .returned (some (.int (fTp_byteAt_25 y1 I J)))) (hz : Z = (pk_K ++ ex, R, I, J)) : pmE g kTp_byteAt d 0 0 25 [(0, .ref 1), (1, .int y1)] [] (pk_K ++ ex) R I J o Z := by
  unfold pTp_byteAt_25 at hp
  refine pm_iconst (v := 0) dTp_byteAt_25 (by decide) ?_
  exact pm_iret dTp_byteAt_26 rfl (ho.trans (by first | rfl | (simp only [fTp_byteAt_25]; done) | (simp only [fTp_byteAt_25]; rfl))) (hz.trans (by first | rfl | (simp only [fTp_byteAt_25]; done) | (simp only [fTp_byteAt_25]; rfl)))
set_option maxHeartbeats 4000000 in
set_option maxRecDepth 100000 in
theorem Tp_byteAt_n0 (g : pmG) (d : Nat) (ex : List (Nat × Nat)) (R : Nat → Nat → Value) (hR : pk_R R) (o : Outcome) (Z : pmM)  (y1 : Int32) (I : Nat → Nat → Int32) (J : Nat → Nat → Int64) (hp : pTp_byteAt y1 I J) (ho : o = .returned (some (.int (fTp_byteAt y1 I J)))) (hz : Z = (pk_K ++ ex, R, I, J)) : pmE g kTp_byteAt d 0 0 0 [(0, .ref 1), (1, .int y1)] [] (pk_K ++ ex) R I J o Z := by
  unfold pTp_byteAt at hp
  refine pm_iload_n dTp_byteAt_0 rfl ?_
  refine pm_if_lt 25 dTp_byteAt_1 (by decide) (fun h1 => ?_) (fun h1 => ?_)
  ·
    refine pm_wk [0, 1] rfl ?_
    exact Tp_byteAt_n25 g d ex R hR _ _   _ _ _ (hp.1 h1) (ho.trans (by first | (simp only [fTp_byteAt, if_pos h1]; done) | (simp only [fTp_byteAt, if_pos h1]; rfl) | rfl)) (hz.trans (by first | (simp only [fTp_byteAt, if_pos h1]; done) | (simp only [fTp_byteAt, if_pos h1]; rfl) | rfl))
  ·
    refine pm_iload_n dTp_byteAt_4 rfl ?_
    refine pm_aload_n dTp_byteAt_5 rfl ?_
    refine pm_geti dTp_byteAt_6 fTp_16 rfl ?_
    refine pm_icmp_ge 25 dTp_byteAt_9 (by decide) (fun h9 => ?_) (fun h9 => ?_)
    ·
      refine pm_wk [0, 1] rfl ?_
      exact Tp_byteAt_n25 g d ex R hR _ _   _ _ _ ((hp.2 h1).1 h9) (ho.trans (by first | (simp only [fTp_byteAt, if_neg h1, if_pos h9]; done) | (simp only [fTp_byteAt, if_neg h1, if_pos h9]; rfl) | rfl)) (hz.trans (by first | (simp only [fTp_byteAt, if_neg h1, if_pos h9]; done) | (simp only [fTp_byteAt, if_neg h1, if_pos h9]; rfl) | rfl))
    ·
      refine pm_aload_n dTp_byteAt_12 rfl ?_
      refine pm_getr dTp_byteAt_13 fTp_10 rfl (rr_1_0 hR) ?_
      refine pm_iload_n dTp_byteAt_16 rfl ?_
      refine pm_bald dTp_byteAt_17 rfl ((hp.2 h1).2 h9).1 ?_
      refine pm_sipush (v := 255) dTp_byteAt_18 (by decide) ?_
      refine pm_iand dTp_byteAt_21 ?_
      refine pm_goto 26 dTp_byteAt_22 (by decide) ?_
      exact pm_iret dTp_byteAt_26 rfl (ho.trans (by first | (simp only [fTp_byteAt, if_neg h1, if_neg h9]; done) | (simp only [fTp_byteAt, if_neg h1, if_neg h9]; rfl) | rfl)) (hz.trans (by first | (simp only [fTp_byteAt, if_neg h1, if_neg h9]; done) | (simp only [fTp_byteAt, if_neg h1, if_neg h9]; rfl) | rfl))
set_option maxHeartbeats 4000000 in
set_option maxRecDepth 100000 in
theorem Tp_byteAt_ok (g : pmG) (d : Nat) (ex : List (Nat × Nat)) (R : Nat → Nat → Value) (hR : pk_R R)  (x0 : Int32) (I : Nat → Nat → Int32) (J : Nat → Nat → Int64) (hp : pTp_byteAt x0 I J) : pmC g kTp_byteAt d 0 0 [.ref 1, .int x0] (pk_K ++ ex, R, I, J) (.returned (some (.int (fTp_byteAt x0 I J)))) (pk_K ++ ex, R, I, J) :=
  pmC.of (by decide) (Nat.le_of_ble_eq_true rfl) (Tp_byteAt_n0 g d ex R hR _ _  x0 I J hp rfl rfl)
def fTp_add_3  : Nat → Int32 → Int32 → (Nat → Nat → Int32) → (Nat → Nat → Int64) → (Nat → Nat → Int32)
  | 0, _, _, I, _ => I
  | n + 1, y1, y2, I, J =>
  if y2 < 0 then I
  else if (65536 : Int32) ≤ (I 1 1) then I
    else fTp_add_3 n y1 (y2 + Int32.ofInt (-8)) (pm_u (pm_u I 2 (I 1 1).toNatClampNeg ((((y1.toUInt32 >>> (y2.toUInt32 &&& Int32.toUInt32 31)).toInt32).toInt8.toInt32).toInt8.toInt32)) 1 1 ((I 1 1) + (1 : Int32))) J
def pTp_add_3  : Nat → Int32 → Int32 → (Nat → Nat → Int32) → (Nat → Nat → Int64) → Prop
  | 0, _, _, _, _ => False
  | n + 1, y1, y2, I, J =>
  (y2 < 0 → True) ∧
  (¬ (y2 < 0) → ((65536 : Int32) ≤ (I 1 1) → True) ∧
    (¬ ((65536 : Int32) ≤ (I 1 1)) → (vp_in (I 1 1) 65536) ∧ (pTp_add_3 n y1 (y2 + Int32.ofInt (-8)) (pm_u (pm_u I 2 (I 1 1).toNatClampNeg ((((y1.toUInt32 >>> (y2.toUInt32 &&& Int32.toUInt32 31)).toInt32).toInt8.toInt32).toInt8.toInt32)) 1 1 ((I 1 1) + (1 : Int32))) J)))
def fTp_add (n3 : Nat) (y1 : Int32) (I : Nat → Nat → Int32) (J : Nat → Nat → Int64) : (Nat → Nat → Int32) :=
  fTp_add_3 n3 y1 (24 : Int32) I J
def pTp_add (n3 : Nat) (y1 : Int32) (I : Nat → Nat → Int32) (J : Nat → Nat → Int64) : Prop :=
  pTp_add_3 n3 y1 (24 : Int32) I J
set_option maxHeartbeats 4000000 in
set_option maxRecDepth 100000 in
theorem Tp_add_n3 (g : pmG) (d : Nat) (ex : List (Nat × Nat)) (R : Nat → Nat → Value) (hR : pk_R R) (o : Outcome) (Z : pmM)  : ∀ (n : Nat) (y1 : Int32) (y2 : Int32) (I : Nat → Nat → Int32) (J : Nat → Nat → Int64), pTp_add_3 n y1 y2 I J → o = .returned none → Z = (pk_K ++ ex, R, (fTp_add_3 n y1 y2 I J), J) → pmE g kTp_add d 0 0 3 [(0, .ref 1), (1, .int y1), (2, .int y2)] [] (pk_K ++ ex) R I J o Z := by
  intro n
  induction n with
  | zero => intro y1 y2 I J hp; exact False.elim hp
  | succ n ih =>
  intro y1 y2 I J hp ho hz
  simp only [pTp_add_3] at hp
  refine pm_iload_n dTp_add_3 rfl ?_
  refine pm_if_lt 45 dTp_add_4 (by decide) (fun h4 => ?_) (fun h4 => ?_)
  ·
    exact pm_vret dTp_add_45 rfl ho (hz.trans (by first | (simp only [fTp_add_3, if_pos h4]; done) | (simp only [fTp_add_3, if_pos h4]; rfl) | rfl))
  ·
    refine pm_aload_n dTp_add_7 rfl ?_
    refine pm_geti dTp_add_8 fTp_16 rfl ?_
    refine pm_ldc dTp_add_11 cTp_9 ?_
    refine pm_icmp_ge 45 dTp_add_13 (by decide) (fun h13 => ?_) (fun h13 => ?_)
    ·
      exact pm_vret dTp_add_45 rfl ho (hz.trans (by first | (simp only [fTp_add_3, if_neg h4, if_pos h13]; done) | (simp only [fTp_add_3, if_neg h4, if_pos h13]; rfl) | rfl))
    ·
      refine pm_aload_n dTp_add_16 rfl ?_
      refine pm_getr dTp_add_17 fTp_10 rfl (rr_1_0 hR) ?_
      refine pm_aload_n dTp_add_20 rfl ?_
      refine pm_geti dTp_add_21 fTp_16 rfl ?_
      refine pm_iload_n dTp_add_24 rfl ?_
      refine pm_iload_n dTp_add_25 rfl ?_
      refine pm_iushr dTp_add_26 ?_
      refine pm_i2b dTp_add_27 ?_
      refine pm_bast dTp_add_28 rfl ((hp.2 h4).2 h13).1 ?_
      refine pm_aload_n dTp_add_29 rfl ?_
      refine pm_dup dTp_add_30 rfl ?_
      refine pm_geti dTp_add_31 fTp_16 rfl ?_
      refine pm_eqi (I 1 1) rfl ?_
      refine pm_iconst (v := 1) dTp_add_34 (by decide) ?_
      refine pm_iadd dTp_add_35 ?_
      refine pm_puti dTp_add_36 fTp_16 sTp_16 (fun h => by cases h) rfl rfl rfl ?_
      refine pm_iinc dTp_add_39 rfl (by decide) rfl ?_
      refine pm_goto 3 dTp_add_42 (by decide) ?_
      refine pm_wk [1, 2, 0] rfl ?_
      exact ih _ _ _ _ ((hp.2 h4).2 h13).2 ho (hz.trans (by first | (simp only [fTp_add_3, if_neg h4, if_neg h13]; done) | (simp only [fTp_add_3, if_neg h4, if_neg h13]; rfl) | rfl))
set_option maxHeartbeats 4000000 in
set_option maxRecDepth 100000 in
theorem Tp_add_n0 (g : pmG) (d : Nat) (ex : List (Nat × Nat)) (R : Nat → Nat → Value) (hR : pk_R R) (o : Outcome) (Z : pmM) (n3 : Nat) (y1 : Int32) (I : Nat → Nat → Int32) (J : Nat → Nat → Int64) (hp : pTp_add n3 y1 I J) (ho : o = .returned none) (hz : Z = (pk_K ++ ex, R, (fTp_add n3 y1 I J), J)) : pmE g kTp_add d 0 0 0 [(0, .ref 1), (1, .int y1)] [] (pk_K ++ ex) R I J o Z := by
  unfold pTp_add at hp
  refine pm_bipush (v := 24) dTp_add_0 (by decide) ?_
  refine pm_istore_n dTp_add_2 (by decide) rfl ?_
  refine pm_wk [1, 2, 0] rfl ?_
  exact Tp_add_n3 g d ex R hR _ _  n3 _ _ _ _ hp ho (hz.trans (by first | rfl | (simp only [fTp_add]; done) | (simp only [fTp_add]; rfl)))
set_option maxHeartbeats 4000000 in
set_option maxRecDepth 100000 in
theorem Tp_add_ok (g : pmG) (d : Nat) (ex : List (Nat × Nat)) (R : Nat → Nat → Value) (hR : pk_R R) (n3 : Nat) (x0 : Int32) (I : Nat → Nat → Int32) (J : Nat → Nat → Int64) (hp : pTp_add n3 x0 I J) : pmC g kTp_add d 0 0 [.ref 1, .int x0] (pk_K ++ ex, R, I, J) (.returned none) (pk_K ++ ex, R, (fTp_add n3 x0 I J), J) :=
  pmC.of (by decide) (Nat.le_of_ble_eq_true rfl) (Tp_add_n0 g d ex R hR _ _ n3 x0 I J hp rfl rfl)
def fCo_add_L  (y1 : Int32) (y2 : Int32) (I : Nat → Nat → Int32) (J : Nat → Nat → Int64) : (Nat → Nat → Int32) :=
  if (4000 : Int32) ≤ (I 7 2) then I
  else pm_u (pm_u (pm_u I 8 (I 7 2).toNatClampNeg y1) 9 (I 7 2).toNatClampNeg y2) 7 2 ((I 7 2) + (1 : Int32))
def pCo_add_L  (y1 : Int32) (y2 : Int32) (I : Nat → Nat → Int32) (J : Nat → Nat → Int64) : Prop :=
  ((4000 : Int32) ≤ (I 7 2) → True) ∧
  (¬ ((4000 : Int32) ≤ (I 7 2)) → (vp_in (I 7 2) 4000) ∧ ((vp_in (I 7 2) 4000) ∧ True))
set_option maxHeartbeats 4000000 in
set_option maxRecDepth 100000 in
theorem Co_add_L_n0 (g : pmG) (d : Nat) (ex : List (Nat × Nat)) (R : Nat → Nat → Value) (hR : pk_R R) (o : Outcome) (Z : pmM)  (y1 : Int32) (y2 : Int32) (I : Nat → Nat → Int32) (J : Nat → Nat → Int64) (hp : pCo_add_L y1 y2 I J) (ho : o = .returned none) (hz : Z = (pk_K ++ ex, R, (fCo_add_L y1 y2 I J), J)) : pmE g kCo_add d 0 0 0 [(0, .ref 7), (1, .int y1), (2, .int y2)] [] (pk_K ++ ex) R I J o Z := by
  unfold pCo_add_L at hp
  refine pm_aload_n dCo_add_0 rfl ?_
  refine pm_geti dCo_add_1 fCo_18 rfl ?_
  refine pm_sipush (v := 4000) dCo_add_4 (by decide) ?_
  refine pm_icmp_ge 40 dCo_add_7 (by decide) (fun h7 => ?_) (fun h7 => ?_)
  ·
    exact pm_vret dCo_add_40 rfl ho (hz.trans (by first | (simp only [fCo_add_L, if_pos h7]; done) | (simp only [fCo_add_L, if_pos h7]; rfl) | rfl))
  ·
    refine pm_aload_n dCo_add_10 rfl ?_
    refine pm_getr dCo_add_11 fCo_9 rfl (rr_7_0 hR) ?_
    refine pm_aload_n dCo_add_14 rfl ?_
    refine pm_geti dCo_add_15 fCo_18 rfl ?_
    refine pm_iload_n dCo_add_18 rfl ?_
    refine pm_iast dCo_add_19 rfl (hp.2 h7).1 ?_
    refine pm_aload_n dCo_add_20 rfl ?_
    refine pm_getr dCo_add_21 fCo_15 rfl (rr_7_1 hR) ?_
    refine pm_aload_n dCo_add_24 rfl ?_
    refine pm_geti dCo_add_25 fCo_18 rfl ?_
    refine pm_eqi (I 7 2) rfl ?_
    refine pm_iload_n dCo_add_28 rfl ?_
    refine pm_iast dCo_add_29 rfl (hp.2 h7).2.1 ?_
    refine pm_aload_n dCo_add_30 rfl ?_
    refine pm_dup dCo_add_31 rfl ?_
    refine pm_geti dCo_add_32 fCo_18 rfl ?_
    refine pm_eqi (I 7 2) rfl ?_
    refine pm_iconst (v := 1) dCo_add_35 (by decide) ?_
    refine pm_iadd dCo_add_36 ?_
    refine pm_puti dCo_add_37 fCo_18 sCo_18 (fun h => by cases h) rfl rfl rfl ?_
    exact pm_vret dCo_add_40 rfl ho (hz.trans (by first | (simp only [fCo_add_L, if_neg h7]; done) | (simp only [fCo_add_L, if_neg h7]; rfl) | rfl))
set_option maxHeartbeats 4000000 in
set_option maxRecDepth 100000 in
theorem Co_add_L_ok (g : pmG) (d : Nat) (ex : List (Nat × Nat)) (R : Nat → Nat → Value) (hR : pk_R R)  (x0 : Int32) (x1 : Int32) (I : Nat → Nat → Int32) (J : Nat → Nat → Int64) (hp : pCo_add_L x0 x1 I J) : pmC g kCo_add d 0 0 [.ref 7, .int x0, .int x1] (pk_K ++ ex, R, I, J) (.returned none) (pk_K ++ ex, R, (fCo_add_L x0 x1 I J), J) :=
  pmC.of (by decide) (Nat.le_of_ble_eq_true rfl) (Co_add_L_n0 g d ex R hR _ _  x0 x1 I J hp rfl rfl)
def fCo_add_F  (y1 : Int32) (y2 : Int32) (I : Nat → Nat → Int32) (J : Nat → Nat → Int64) : (Nat → Nat → Int32) :=
  if (4000 : Int32) ≤ (I 10 2) then I
  else pm_u (pm_u (pm_u I 11 (I 10 2).toNatClampNeg y1) 12 (I 10 2).toNatClampNeg y2) 10 2 ((I 10 2) + (1 : Int32))
def pCo_add_F  (y1 : Int32) (y2 : Int32) (I : Nat → Nat → Int32) (J : Nat → Nat → Int64) : Prop :=
  ((4000 : Int32) ≤ (I 10 2) → True) ∧
  (¬ ((4000 : Int32) ≤ (I 10 2)) → (vp_in (I 10 2) 4000) ∧ ((vp_in (I 10 2) 4000) ∧ True))
set_option maxHeartbeats 4000000 in
set_option maxRecDepth 100000 in
theorem Co_add_F_n0 (g : pmG) (d : Nat) (ex : List (Nat × Nat)) (R : Nat → Nat → Value) (hR : pk_R R) (o : Outcome) (Z : pmM)  (y1 : Int32) (y2 : Int32) (I : Nat → Nat → Int32) (J : Nat → Nat → Int64) (hp : pCo_add_F y1 y2 I J) (ho : o = .returned none) (hz : Z = (pk_K ++ ex, R, (fCo_add_F y1 y2 I J), J)) : pmE g kCo_add d 0 0 0 [(0, .ref 10), (1, .int y1), (2, .int y2)] [] (pk_K ++ ex) R I J o Z := by
  unfold pCo_add_F at hp
  refine pm_aload_n dCo_add_0 rfl ?_
  refine pm_geti dCo_add_1 fCo_18 rfl ?_
  refine pm_sipush (v := 4000) dCo_add_4 (by decide) ?_
  refine pm_icmp_ge 40 dCo_add_7 (by decide) (fun h7 => ?_) (fun h7 => ?_)
  ·
    exact pm_vret dCo_add_40 rfl ho (hz.trans (by first | (simp only [fCo_add_F, if_pos h7]; done) | (simp only [fCo_add_F, if_pos h7]; rfl) | rfl))
  ·
    refine pm_aload_n dCo_add_10 rfl ?_
    refine pm_getr dCo_add_11 fCo_9 rfl (rr_10_0 hR) ?_
    refine pm_aload_n dCo_add_14 rfl ?_
    refine pm_geti dCo_add_15 fCo_18 rfl ?_
    refine pm_iload_n dCo_add_18 rfl ?_
    refine pm_iast dCo_add_19 rfl (hp.2 h7).1 ?_
    refine pm_aload_n dCo_add_20 rfl ?_
    refine pm_getr dCo_add_21 fCo_15 rfl (rr_10_1 hR) ?_
    refine pm_aload_n dCo_add_24 rfl ?_
    refine pm_geti dCo_add_25 fCo_18 rfl ?_
    refine pm_eqi (I 10 2) rfl ?_
    refine pm_iload_n dCo_add_28 rfl ?_
    refine pm_iast dCo_add_29 rfl (hp.2 h7).2.1 ?_
    refine pm_aload_n dCo_add_30 rfl ?_
    refine pm_dup dCo_add_31 rfl ?_
    refine pm_geti dCo_add_32 fCo_18 rfl ?_
    refine pm_eqi (I 10 2) rfl ?_
    refine pm_iconst (v := 1) dCo_add_35 (by decide) ?_
    refine pm_iadd dCo_add_36 ?_
    refine pm_puti dCo_add_37 fCo_18 sCo_18 (fun h => by cases h) rfl rfl rfl ?_
    exact pm_vret dCo_add_40 rfl ho (hz.trans (by first | (simp only [fCo_add_F, if_neg h7]; done) | (simp only [fCo_add_F, if_neg h7]; rfl) | rfl))
set_option maxHeartbeats 4000000 in
set_option maxRecDepth 100000 in
theorem Co_add_F_ok (g : pmG) (d : Nat) (ex : List (Nat × Nat)) (R : Nat → Nat → Value) (hR : pk_R R)  (x0 : Int32) (x1 : Int32) (I : Nat → Nat → Int32) (J : Nat → Nat → Int64) (hp : pCo_add_F x0 x1 I J) : pmC g kCo_add d 0 0 [.ref 10, .int x0, .int x1] (pk_K ++ ex, R, I, J) (.returned none) (pk_K ++ ex, R, (fCo_add_F x0 x1 I J), J) :=
  pmC.of (by decide) (Nat.le_of_ble_eq_true rfl) (Co_add_F_n0 g d ex R hR _ _  x0 x1 I J hp rfl rfl)
def fCi_clear  (I : Nat → Nat → Int32) (J : Nat → Nat → Int64) : (Nat → Nat → Int32) :=
  pm_u (pm_u (pm_u (pm_u (pm_u (pm_u (pm_u (pm_u I 3 5 (0 : Int32)) 3 6 (0 : Int32)) 3 7 (0 : Int32)) 3 8 (0 : Int32)) 3 9 (0 : Int32)) 3 10 (0 : Int32)) 7 2 (0 : Int32)) 10 2 (0 : Int32)
def pCi_clear  (I : Nat → Nat → Int32) (J : Nat → Nat → Int64) : Prop :=
  True
set_option maxHeartbeats 4000000 in
set_option maxRecDepth 100000 in
theorem Ci_clear_n0 (g : pmG) (d : Nat) (ex : List (Nat × Nat)) (R : Nat → Nat → Value) (hR : pk_R R) (o : Outcome) (Z : pmM)  (I : Nat → Nat → Int32) (J : Nat → Nat → Int64) (hp : pCi_clear I J) (ho : o = .returned none) (hz : Z = (pk_K ++ ex, R, (fCi_clear I J), J)) : pmE g kCi_clear d 0 0 0 [(0, .ref 3)] [] (pk_K ++ ex) R I J o Z := by
  unfold pCi_clear at hp
  refine pm_aload_n dCi_clear_0 rfl ?_
  refine pm_iconst (v := 0) dCi_clear_1 (by decide) ?_
  refine pm_puti dCi_clear_2 fCi_31 sCi_31 (fun h => by cases h) rfl rfl rfl ?_
  refine pm_aload_n dCi_clear_5 rfl ?_
  refine pm_iconst (v := 0) dCi_clear_6 (by decide) ?_
  refine pm_puti dCi_clear_7 fCi_35 sCi_35 (fun h => by cases h) rfl rfl rfl ?_
  refine pm_aload_n dCi_clear_10 rfl ?_
  refine pm_iconst (v := 0) dCi_clear_11 (by decide) ?_
  refine pm_puti dCi_clear_12 fCi_38 sCi_38 (fun h => by cases h) rfl rfl rfl ?_
  refine pm_aload_n dCi_clear_15 rfl ?_
  refine pm_iconst (v := 0) dCi_clear_16 (by decide) ?_
  refine pm_puti dCi_clear_17 fCi_41 sCi_41 (fun h => by cases h) rfl rfl rfl ?_
  refine pm_aload_n dCi_clear_20 rfl ?_
  refine pm_iconst (v := 0) dCi_clear_21 (by decide) ?_
  refine pm_puti dCi_clear_22 fCi_44 sCi_44 (fun h => by cases h) rfl rfl rfl ?_
  refine pm_aload_n dCi_clear_25 rfl ?_
  refine pm_iconst (v := 0) dCi_clear_26 (by decide) ?_
  refine pm_puti dCi_clear_27 fCi_47 sCi_47 (fun h => by cases h) rfl rfl rfl ?_
  refine pm_aload_n dCi_clear_30 rfl ?_
  refine pm_getr dCi_clear_31 fCi_24 rfl (rr_3_3 hR) ?_
  refine pm_iconst (v := 0) dCi_clear_34 (by decide) ?_
  refine pm_puti dCi_clear_35 fCi_50 sCi_50 (fun h => by cases h) rfl rfl rfl ?_
  refine pm_aload_n dCi_clear_38 rfl ?_
  refine pm_getr dCi_clear_39 fCi_28 rfl (rr_3_4 hR) ?_
  refine pm_iconst (v := 0) dCi_clear_42 (by decide) ?_
  refine pm_puti dCi_clear_43 fCi_50 sCi_50 (fun h => by cases h) rfl rfl rfl ?_
  exact pm_vret dCi_clear_46 rfl ho (hz.trans (by first | rfl | (simp only [fCi_clear]; done) | (simp only [fCi_clear]; rfl)))
set_option maxHeartbeats 4000000 in
set_option maxRecDepth 100000 in
theorem Ci_clear_ok (g : pmG) (d : Nat) (ex : List (Nat × Nat)) (R : Nat → Nat → Value) (hR : pk_R R)   (I : Nat → Nat → Int32) (J : Nat → Nat → Int64) (hp : pCi_clear I J) : pmC g kCi_clear d 0 0 [.ref 3] (pk_K ++ ex, R, I, J) (.returned none) (pk_K ++ ex, R, (fCi_clear I J), J) :=
  pmC.of (by decide) (Nat.le_of_ble_eq_true rfl) (Ci_clear_n0 g d ex R hR _ _   I J hp rfl rfl)
def fCi_addName  (y1 : Int32) (y2 : Int32) (y3 : Int32) (I : Nat → Nat → Int32) (J : Nat → Nat → Int64) : (Nat → Nat → Int32) :=
  if (60 : Int32) ≤ (I 3 5) then I
  else pm_u (pm_u (pm_u (pm_u I 4 (I 3 5).toNatClampNeg y1) 5 (I 3 5).toNatClampNeg y2) 6 (I 3 5).toNatClampNeg y3) 3 5 ((I 3 5) + (1 : Int32))
def pCi_addName  (y1 : Int32) (y2 : Int32) (y3 : Int32) (I : Nat → Nat → Int32) (J : Nat → Nat → Int64) : Prop :=
  ((60 : Int32) ≤ (I 3 5) → True) ∧
  (¬ ((60 : Int32) ≤ (I 3 5)) → (vp_in (I 3 5) 60) ∧ ((vp_in (I 3 5) 60) ∧ ((vp_in (I 3 5) 60) ∧ True)))
set_option maxHeartbeats 4000000 in
set_option maxRecDepth 100000 in
theorem Ci_addName_n0 (g : pmG) (d : Nat) (ex : List (Nat × Nat)) (R : Nat → Nat → Value) (hR : pk_R R) (o : Outcome) (Z : pmM)  (y1 : Int32) (y2 : Int32) (y3 : Int32) (I : Nat → Nat → Int32) (J : Nat → Nat → Int64) (hp : pCi_addName y1 y2 y3 I J) (ho : o = .returned none) (hz : Z = (pk_K ++ ex, R, (fCi_addName y1 y2 y3 I J), J)) : pmE g kCi_addName d 0 0 0 [(0, .ref 3), (1, .int y1), (2, .int y2), (3, .int y3)] [] (pk_K ++ ex) R I J o Z := by
  unfold pCi_addName at hp
  refine pm_aload_n dCi_addName_0 rfl ?_
  refine pm_geti dCi_addName_1 fCi_31 rfl ?_
  refine pm_bipush (v := 60) dCi_addName_4 (by decide) ?_
  refine pm_icmp_ge 49 dCi_addName_6 (by decide) (fun h6 => ?_) (fun h6 => ?_)
  ·
    exact pm_vret dCi_addName_49 rfl ho (hz.trans (by first | (simp only [fCi_addName, if_pos h6]; done) | (simp only [fCi_addName, if_pos h6]; rfl) | rfl))
  ·
    refine pm_aload_n dCi_addName_9 rfl ?_
    refine pm_getr dCi_addName_10 fCi_9 rfl (rr_3_0 hR) ?_
    refine pm_aload_n dCi_addName_13 rfl ?_
    refine pm_geti dCi_addName_14 fCi_31 rfl ?_
    refine pm_iload_n dCi_addName_17 rfl ?_
    refine pm_iast dCi_addName_18 rfl (hp.2 h6).1 ?_
    refine pm_aload_n dCi_addName_19 rfl ?_
    refine pm_getr dCi_addName_20 fCi_15 rfl (rr_3_1 hR) ?_
    refine pm_aload_n dCi_addName_23 rfl ?_
    refine pm_geti dCi_addName_24 fCi_31 rfl ?_
    refine pm_eqi (I 3 5) rfl ?_
    refine pm_iload_n dCi_addName_27 rfl ?_
    refine pm_iast dCi_addName_28 rfl (hp.2 h6).2.1 ?_
    refine pm_aload_n dCi_addName_29 rfl ?_
    refine pm_getr dCi_addName_30 fCi_18 rfl (rr_3_2 hR) ?_
    refine pm_aload_n dCi_addName_33 rfl ?_
    refine pm_geti dCi_addName_34 fCi_31 rfl ?_
    refine pm_eqi (I 3 5) rfl ?_
    refine pm_iload_n dCi_addName_37 rfl ?_
    refine pm_iast dCi_addName_38 rfl (hp.2 h6).2.2.1 ?_
    refine pm_aload_n dCi_addName_39 rfl ?_
    refine pm_dup dCi_addName_40 rfl ?_
    refine pm_geti dCi_addName_41 fCi_31 rfl ?_
    refine pm_eqi (I 3 5) rfl ?_
    refine pm_iconst (v := 1) dCi_addName_44 (by decide) ?_
    refine pm_iadd dCi_addName_45 ?_
    refine pm_puti dCi_addName_46 fCi_31 sCi_31 (fun h => by cases h) rfl rfl rfl ?_
    exact pm_vret dCi_addName_49 rfl ho (hz.trans (by first | (simp only [fCi_addName, if_neg h6]; done) | (simp only [fCi_addName, if_neg h6]; rfl) | rfl))
set_option maxHeartbeats 4000000 in
set_option maxRecDepth 100000 in
theorem Ci_addName_ok (g : pmG) (d : Nat) (ex : List (Nat × Nat)) (R : Nat → Nat → Value) (hR : pk_R R)  (x0 : Int32) (x1 : Int32) (x2 : Int32) (I : Nat → Nat → Int32) (J : Nat → Nat → Int64) (hp : pCi_addName x0 x1 x2 I J) : pmC g kCi_addName d 0 0 [.ref 3, .int x0, .int x1, .int x2] (pk_K ++ ex, R, I, J) (.returned none) (pk_K ++ ex, R, (fCi_addName x0 x1 x2 I J), J) :=
  pmC.of (by decide) (Nat.le_of_ble_eq_true rfl) (Ci_addName_n0 g d ex R hR _ _  x0 x1 x2 I J hp rfl rfl)
def fCi_addReg  (y1 : Int32) (y2 : Int32) (I : Nat → Nat → Int32) (J : Nat → Nat → Int64) : (Nat → Nat → Int32) :=
  (fCi_addName (29 : Int32) y1 ((I 3 7) + y1) (pm_u (pm_u I 3 7 ((I 3 7) + y1)) 3 10 (((I 3 10) <<< (y1 &&& 31)) ||| y2)) J)
def pCi_addReg  (y1 : Int32) (y2 : Int32) (I : Nat → Nat → Int32) (J : Nat → Nat → Int64) : Prop :=
  (pCi_addName (29 : Int32) y1 ((I 3 7) + y1) (pm_u (pm_u I 3 7 ((I 3 7) + y1)) 3 10 (((I 3 10) <<< (y1 &&& 31)) ||| y2)) J) ∧ True
set_option maxHeartbeats 4000000 in
set_option maxRecDepth 100000 in
theorem Ci_addReg_n0 (g : pmG) (d : Nat) (ex : List (Nat × Nat)) (R : Nat → Nat → Value) (hR : pk_R R) (o : Outcome) (Z : pmM)  (y1 : Int32) (y2 : Int32) (I : Nat → Nat → Int32) (J : Nat → Nat → Int64) (hp : pCi_addReg y1 y2 I J) (ho : o = .returned none) (hz : Z = (pk_K ++ ex, R, (fCi_addReg y1 y2 I J), J)) : pmE g kCi_addReg (d + 1) 0 0 0 [(0, .ref 3), (1, .int y1), (2, .int y2)] [] (pk_K ++ ex) R I J o Z := by
  unfold pCi_addReg at hp
  refine pm_aload_n dCi_addReg_0 rfl ?_
  refine pm_dup dCi_addReg_1 rfl ?_
  refine pm_geti dCi_addReg_2 fCi_38 rfl ?_
  refine pm_iload_n dCi_addReg_5 rfl ?_
  refine pm_iadd dCi_addReg_6 ?_
  refine pm_puti dCi_addReg_7 fCi_38 sCi_38 (fun h => by cases h) rfl rfl rfl ?_
  refine pm_aload_n dCi_addReg_10 rfl ?_
  refine pm_aload_n dCi_addReg_11 rfl ?_
  refine pm_geti dCi_addReg_12 fCi_47 rfl ?_
  refine pm_eqi (I 3 10) rfl ?_
  refine pm_iload_n dCi_addReg_15 rfl ?_
  refine pm_ishl dCi_addReg_16 ?_
  refine pm_iload_n dCi_addReg_17 rfl ?_
  refine pm_ior dCi_addReg_18 ?_
  refine pm_puti dCi_addReg_19 fCi_47 sCi_47 (fun h => by cases h) rfl rfl rfl ?_
  refine pm_aload_n dCi_addReg_22 rfl ?_
  refine pm_bipush (v := 29) dCi_addReg_23 (by decide) ?_
  refine pm_iload_n dCi_addReg_25 rfl ?_
  refine pm_aload_n dCi_addReg_26 rfl ?_
  refine pm_geti dCi_addReg_27 fCi_38 rfl ?_
  refine pm_eqi ((I 3 7) + y1) rfl ?_
  refine pm_callV dCi_addReg_30 lCi_53 vCi_addName ⟨_, _, rfl⟩ (Ci_addName_ok _ _ _ _ hR _ _ _ _ _ hp.1) rfl rfl rfl (Nat.le_of_ble_eq_true rfl) (Nat.le_refl _) (Nat.le_refl _) ?_
  exact pm_vret dCi_addReg_33 rfl ho (hz.trans (by first | rfl | (simp only [fCi_addReg]; done) | (simp only [fCi_addReg]; rfl)))
set_option maxHeartbeats 4000000 in
set_option maxRecDepth 100000 in
theorem Ci_addReg_ok (g : pmG) (d : Nat) (ex : List (Nat × Nat)) (R : Nat → Nat → Value) (hR : pk_R R)  (x0 : Int32) (x1 : Int32) (I : Nat → Nat → Int32) (J : Nat → Nat → Int64) (hp : pCi_addReg x0 x1 I J) : pmC g kCi_addReg (d + 1) 0 0 [.ref 3, .int x0, .int x1] (pk_K ++ ex, R, I, J) (.returned none) (pk_K ++ ex, R, (fCi_addReg x0 x1 I J), J) :=
  pmC.of (by decide) (Nat.le_of_ble_eq_true rfl) (Ci_addReg_n0 g d ex R hR _ _  x0 x1 I J hp rfl rfl)
def fCi_addInput  (y1 : Int32) (I : Nat → Nat → Int32) (J : Nat → Nat → Int64) : (Nat → Nat → Int32) :=
  (fCi_addName (30 : Int32) y1 ((I 3 8) + y1) (pm_u I 3 8 ((I 3 8) + y1)) J)
def pCi_addInput  (y1 : Int32) (I : Nat → Nat → Int32) (J : Nat → Nat → Int64) : Prop :=
  (pCi_addName (30 : Int32) y1 ((I 3 8) + y1) (pm_u I 3 8 ((I 3 8) + y1)) J) ∧ True
set_option maxHeartbeats 4000000 in
set_option maxRecDepth 100000 in
theorem Ci_addInput_n0 (g : pmG) (d : Nat) (ex : List (Nat × Nat)) (R : Nat → Nat → Value) (hR : pk_R R) (o : Outcome) (Z : pmM)  (y1 : Int32) (I : Nat → Nat → Int32) (J : Nat → Nat → Int64) (hp : pCi_addInput y1 I J) (ho : o = .returned none) (hz : Z = (pk_K ++ ex, R, (fCi_addInput y1 I J), J)) : pmE g kCi_addInput (d + 1) 0 0 0 [(0, .ref 3), (1, .int y1)] [] (pk_K ++ ex) R I J o Z := by
  unfold pCi_addInput at hp
  refine pm_aload_n dCi_addInput_0 rfl ?_
  refine pm_dup dCi_addInput_1 rfl ?_
  refine pm_geti dCi_addInput_2 fCi_41 rfl ?_
  refine pm_iload_n dCi_addInput_5 rfl ?_
  refine pm_iadd dCi_addInput_6 ?_
  refine pm_puti dCi_addInput_7 fCi_41 sCi_41 (fun h => by cases h) rfl rfl rfl ?_
  refine pm_aload_n dCi_addInput_10 rfl ?_
  refine pm_bipush (v := 30) dCi_addInput_11 (by decide) ?_
  refine pm_iload_n dCi_addInput_13 rfl ?_
  refine pm_aload_n dCi_addInput_14 rfl ?_
  refine pm_geti dCi_addInput_15 fCi_41 rfl ?_
  refine pm_eqi ((I 3 8) + y1) rfl ?_
  refine pm_callV dCi_addInput_18 lCi_53 vCi_addName ⟨_, _, rfl⟩ (Ci_addName_ok _ _ _ _ hR _ _ _ _ _ hp.1) rfl rfl rfl (Nat.le_of_ble_eq_true rfl) (Nat.le_refl _) (Nat.le_refl _) ?_
  exact pm_vret dCi_addInput_21 rfl ho (hz.trans (by first | rfl | (simp only [fCi_addInput]; done) | (simp only [fCi_addInput]; rfl)))
set_option maxHeartbeats 4000000 in
set_option maxRecDepth 100000 in
theorem Ci_addInput_ok (g : pmG) (d : Nat) (ex : List (Nat × Nat)) (R : Nat → Nat → Value) (hR : pk_R R)  (x0 : Int32) (I : Nat → Nat → Int32) (J : Nat → Nat → Int64) (hp : pCi_addInput x0 I J) : pmC g kCi_addInput (d + 1) 0 0 [.ref 3, .int x0] (pk_K ++ ex, R, I, J) (.returned none) (pk_K ++ ex, R, (fCi_addInput x0 I J), J) :=
  pmC.of (by decide) (Nat.le_of_ble_eq_true rfl) (Ci_addInput_n0 g d ex R hR _ _  x0 I J hp rfl rfl)
def fCi_addWire  (I : Nat → Nat → Int32) (J : Nat → Nat → Int64) : (Nat → Nat → Int32) :=
  (fCi_addName (31 : Int32) (0 : Int32) (0 : Int32) I J)
def pCi_addWire  (I : Nat → Nat → Int32) (J : Nat → Nat → Int64) : Prop :=
  (pCi_addName (31 : Int32) (0 : Int32) (0 : Int32) I J) ∧ True
set_option maxHeartbeats 4000000 in
set_option maxRecDepth 100000 in
theorem Ci_addWire_n0 (g : pmG) (d : Nat) (ex : List (Nat × Nat)) (R : Nat → Nat → Value) (hR : pk_R R) (o : Outcome) (Z : pmM)  (I : Nat → Nat → Int32) (J : Nat → Nat → Int64) (hp : pCi_addWire I J) (ho : o = .returned none) (hz : Z = (pk_K ++ ex, R, (fCi_addWire I J), J)) : pmE g kCi_addWire (d + 1) 0 0 0 [(0, .ref 3)] [] (pk_K ++ ex) R I J o Z := by
  unfold pCi_addWire at hp
  refine pm_aload_n dCi_addWire_0 rfl ?_
  refine pm_bipush (v := 31) dCi_addWire_1 (by decide) ?_
  refine pm_iconst (v := 0) dCi_addWire_3 (by decide) ?_
  refine pm_iconst (v := 0) dCi_addWire_4 (by decide) ?_
  refine pm_callV dCi_addWire_5 lCi_53 vCi_addName ⟨_, _, rfl⟩ (Ci_addName_ok _ _ _ _ hR _ _ _ _ _ hp.1) rfl rfl rfl (Nat.le_of_ble_eq_true rfl) (Nat.le_refl _) (Nat.le_refl _) ?_
  exact pm_vret dCi_addWire_8 rfl ho (hz.trans (by first | rfl | (simp only [fCi_addWire]; done) | (simp only [fCi_addWire]; rfl)))
set_option maxHeartbeats 4000000 in
set_option maxRecDepth 100000 in
theorem Ci_addWire_ok (g : pmG) (d : Nat) (ex : List (Nat × Nat)) (R : Nat → Nat → Value) (hR : pk_R R)   (I : Nat → Nat → Int32) (J : Nat → Nat → Int64) (hp : pCi_addWire I J) : pmC g kCi_addWire (d + 1) 0 0 [.ref 3] (pk_K ++ ex, R, I, J) (.returned none) (pk_K ++ ex, R, (fCi_addWire I J), J) :=
  pmC.of (by decide) (Nat.le_of_ble_eq_true rfl) (Ci_addWire_n0 g d ex R hR _ _   I J hp rfl rfl)
def fCi_addSpec_11  (I : Nat → Nat → Int32) (J : Nat → Nat → Int64) : (Nat → Nat → Int32) :=
  pm_u I 3 6 ((I 3 6) + (1 : Int32))
def pCi_addSpec_11  (I : Nat → Nat → Int32) (J : Nat → Nat → Int64) : Prop :=
  True
def fCi_addSpec  (I : Nat → Nat → Int32) (J : Nat → Nat → Int64) : (Nat → Nat → Int32) :=
  fCi_addSpec_11 ((fCi_addName (33 : Int32) (0 : Int32) (I 3 6) I J)) J
def pCi_addSpec  (I : Nat → Nat → Int32) (J : Nat → Nat → Int64) : Prop :=
  (pCi_addName (33 : Int32) (0 : Int32) (I 3 6) I J) ∧ (pCi_addSpec_11 ((fCi_addName (33 : Int32) (0 : Int32) (I 3 6) I J)) J)
set_option maxHeartbeats 4000000 in
set_option maxRecDepth 100000 in
theorem Ci_addSpec_n11 (g : pmG) (d : Nat) (ex : List (Nat × Nat)) (R : Nat → Nat → Value) (hR : pk_R R) (o : Outcome) (Z : pmM)  (I : Nat → Nat → Int32) (J : Nat → Nat → Int64) (hp : pCi_addSpec_11 I J) (ho : o = .returned none) (hz : Z = (pk_K ++ ex, R, (fCi_addSpec_11 I J), J)) : pmE g kCi_addSpec (d + 1) 0 0 11 [(0, .ref 3)] [] (pk_K ++ ex) R I J o Z := by
  unfold pCi_addSpec_11 at hp
  refine pm_aload_n dCi_addSpec_11 rfl ?_
  refine pm_dup dCi_addSpec_12 rfl ?_
  refine pm_geti dCi_addSpec_13 fCi_35 rfl ?_
  refine pm_iconst (v := 1) dCi_addSpec_16 (by decide) ?_
  refine pm_iadd dCi_addSpec_17 ?_
  refine pm_puti dCi_addSpec_18 fCi_35 sCi_35 (fun h => by cases h) rfl rfl rfl ?_
  exact pm_vret dCi_addSpec_21 rfl ho (hz.trans (by first | rfl | (simp only [fCi_addSpec_11]; done) | (simp only [fCi_addSpec_11]; rfl)))
set_option maxHeartbeats 4000000 in
set_option maxRecDepth 100000 in
theorem Ci_addSpec_n0 (g : pmG) (d : Nat) (ex : List (Nat × Nat)) (R : Nat → Nat → Value) (hR : pk_R R) (o : Outcome) (Z : pmM)  (I : Nat → Nat → Int32) (J : Nat → Nat → Int64) (hp : pCi_addSpec I J) (ho : o = .returned none) (hz : Z = (pk_K ++ ex, R, (fCi_addSpec I J), J)) : pmE g kCi_addSpec (d + 1) 0 0 0 [(0, .ref 3)] [] (pk_K ++ ex) R I J o Z := by
  unfold pCi_addSpec at hp
  refine pm_aload_n dCi_addSpec_0 rfl ?_
  refine pm_bipush (v := 33) dCi_addSpec_1 (by decide) ?_
  refine pm_iconst (v := 0) dCi_addSpec_3 (by decide) ?_
  refine pm_aload_n dCi_addSpec_4 rfl ?_
  refine pm_geti dCi_addSpec_5 fCi_35 rfl ?_
  refine pm_callV dCi_addSpec_8 lCi_53 vCi_addName ⟨_, _, rfl⟩ (Ci_addName_ok _ _ _ _ hR _ _ _ _ _ hp.1) rfl rfl rfl (Nat.le_of_ble_eq_true rfl) (Nat.le_refl _) (Nat.le_refl _) ?_
  refine pm_wk [0] rfl ?_
  exact Ci_addSpec_n11 g d ex R hR _ _   _ _ hp.2 ho (hz.trans (by first | rfl | (simp only [fCi_addSpec]; done) | (simp only [fCi_addSpec]; rfl)))
set_option maxHeartbeats 4000000 in
set_option maxRecDepth 100000 in
theorem Ci_addSpec_ok (g : pmG) (d : Nat) (ex : List (Nat × Nat)) (R : Nat → Nat → Value) (hR : pk_R R)   (I : Nat → Nat → Int32) (J : Nat → Nat → Int64) (hp : pCi_addSpec I J) : pmC g kCi_addSpec (d + 1) 0 0 [.ref 3] (pk_K ++ ex, R, I, J) (.returned none) (pk_K ++ ex, R, (fCi_addSpec I J), J) :=
  pmC.of (by decide) (Nat.le_of_ble_eq_true rfl) (Ci_addSpec_n0 g d ex R hR _ _   I J hp rfl rfl)
def fCi_bitsBehindReg  (y1 : Int32) (I : Nat → Nat → Int32) (J : Nat → Nat → Int64) : Int32 :=
  (I 3 7) - (I 6 y1.toNatClampNeg)
def pCi_bitsBehindReg  (y1 : Int32) (I : Nat → Nat → Int32) (J : Nat → Nat → Int64) : Prop :=
  (vp_in y1 60) ∧ True
set_option maxHeartbeats 4000000 in
set_option maxRecDepth 100000 in
theorem Ci_bitsBehindReg_n0 (g : pmG) (d : Nat) (ex : List (Nat × Nat)) (R : Nat → Nat → Value) (hR : pk_R R) (o : Outcome) (Z : pmM)  (y1 : Int32) (I : Nat → Nat → Int32) (J : Nat → Nat → Int64) (hp : pCi_bitsBehindReg y1 I J) (ho : o = .returned (some (.int (fCi_bitsBehindReg y1 I J)))) (hz : Z = (pk_K ++ ex, R, I, J)) : pmE g kCi_bitsBehindReg d 0 0 0 [(0, .ref 3), (1, .int y1)] [] (pk_K ++ ex) R I J o Z := by
  unfold pCi_bitsBehindReg at hp
  refine pm_aload_n dCi_bitsBehindReg_0 rfl ?_
  refine pm_geti dCi_bitsBehindReg_1 fCi_38 rfl ?_
  refine pm_aload_n dCi_bitsBehindReg_4 rfl ?_
  refine pm_getr dCi_bitsBehindReg_5 fCi_18 rfl (rr_3_2 hR) ?_
  refine pm_iload_n dCi_bitsBehindReg_8 rfl ?_
  refine pm_iald dCi_bitsBehindReg_9 rfl hp.1 ?_
  refine pm_isub dCi_bitsBehindReg_10 ?_
  exact pm_iret dCi_bitsBehindReg_11 rfl (ho.trans (by first | rfl | (simp only [fCi_bitsBehindReg]; done) | (simp only [fCi_bitsBehindReg]; rfl))) (hz.trans (by first | rfl | (simp only [fCi_bitsBehindReg]; done) | (simp only [fCi_bitsBehindReg]; rfl)))
set_option maxHeartbeats 4000000 in
set_option maxRecDepth 100000 in
theorem Ci_bitsBehindReg_ok (g : pmG) (d : Nat) (ex : List (Nat × Nat)) (R : Nat → Nat → Value) (hR : pk_R R)  (x0 : Int32) (I : Nat → Nat → Int32) (J : Nat → Nat → Int64) (hp : pCi_bitsBehindReg x0 I J) : pmC g kCi_bitsBehindReg d 0 0 [.ref 3, .int x0] (pk_K ++ ex, R, I, J) (.returned (some (.int (fCi_bitsBehindReg x0 I J)))) (pk_K ++ ex, R, I, J) :=
  pmC.of (by decide) (Nat.le_of_ble_eq_true rfl) (Ci_bitsBehindReg_n0 g d ex R hR _ _  x0 I J hp rfl rfl)
def fCi_bitsBehind  (y1 : Int32) (I : Nat → Nat → Int32) (J : Nat → Nat → Int64) : Int32 :=
  if (I 4 y1.toNatClampNeg) = (29 : Int32) then ((fCi_bitsBehindReg y1 I J)) + (I 3 8)
  else (I 3 8) - (I 6 y1.toNatClampNeg)
def pCi_bitsBehind  (y1 : Int32) (I : Nat → Nat → Int32) (J : Nat → Nat → Int64) : Prop :=
  (vp_in y1 60) ∧ (((I 4 y1.toNatClampNeg) = (29 : Int32) → (pCi_bitsBehindReg y1 I J) ∧ True) ∧
  (¬ ((I 4 y1.toNatClampNeg) = (29 : Int32)) → (vp_in y1 60) ∧ True))
set_option maxHeartbeats 4000000 in
set_option maxRecDepth 100000 in
theorem Ci_bitsBehind_n0 (g : pmG) (d : Nat) (ex : List (Nat × Nat)) (R : Nat → Nat → Value) (hR : pk_R R) (o : Outcome) (Z : pmM)  (y1 : Int32) (I : Nat → Nat → Int32) (J : Nat → Nat → Int64) (hp : pCi_bitsBehind y1 I J) (ho : o = .returned (some (.int (fCi_bitsBehind y1 I J)))) (hz : Z = (pk_K ++ ex, R, I, J)) : pmE g kCi_bitsBehind (d + 1) 0 0 0 [(0, .ref 3), (1, .int y1)] [] (pk_K ++ ex) R I J o Z := by
  unfold pCi_bitsBehind at hp
  refine pm_aload_n dCi_bitsBehind_0 rfl ?_
  refine pm_getr dCi_bitsBehind_1 fCi_9 rfl (rr_3_0 hR) ?_
  refine pm_iload_n dCi_bitsBehind_4 rfl ?_
  refine pm_iald dCi_bitsBehind_5 rfl hp.1 ?_
  refine pm_bipush (v := 29) dCi_bitsBehind_6 (by decide) ?_
  refine pm_icmp_ne 24 dCi_bitsBehind_8 (by decide) (fun h8 => ?_) (fun h8 => ?_)
  ·
    refine pm_aload_n dCi_bitsBehind_24 rfl ?_
    refine pm_geti dCi_bitsBehind_25 fCi_41 rfl ?_
    refine pm_aload_n dCi_bitsBehind_28 rfl ?_
    refine pm_getr dCi_bitsBehind_29 fCi_18 rfl (rr_3_2 hR) ?_
    refine pm_iload_n dCi_bitsBehind_32 rfl ?_
    refine pm_iald dCi_bitsBehind_33 rfl (hp.2.2 h8).1 ?_
    refine pm_isub dCi_bitsBehind_34 ?_
    exact pm_iret dCi_bitsBehind_35 rfl (ho.trans (by first | (simp only [fCi_bitsBehind, if_neg h8]; done) | (simp only [fCi_bitsBehind, if_neg h8]; rfl) | rfl)) (hz.trans (by first | (simp only [fCi_bitsBehind, if_neg h8]; done) | (simp only [fCi_bitsBehind, if_neg h8]; rfl) | rfl))
  ·
    refine pm_aload_n dCi_bitsBehind_11 rfl ?_
    refine pm_iload_n dCi_bitsBehind_12 rfl ?_
    refine pm_callV dCi_bitsBehind_13 lCi_57 vCi_bitsBehindReg ⟨_, _, rfl⟩ (Ci_bitsBehindReg_ok _ _ _ _ hR _ _ _ (hp.2.1 h8).1) rfl rfl rfl (Nat.le_of_ble_eq_true rfl) (Nat.le_refl _) (Nat.le_refl _) ?_
    refine pm_aload_n dCi_bitsBehind_16 rfl ?_
    refine pm_geti dCi_bitsBehind_17 fCi_41 rfl ?_
    refine pm_iadd dCi_bitsBehind_20 ?_
    refine pm_goto 35 dCi_bitsBehind_21 (by decide) ?_
    exact pm_iret dCi_bitsBehind_35 rfl (ho.trans (by first | (simp only [fCi_bitsBehind, if_pos h8]; done) | (simp only [fCi_bitsBehind, if_pos h8]; rfl) | rfl)) (hz.trans (by first | (simp only [fCi_bitsBehind, if_pos h8]; done) | (simp only [fCi_bitsBehind, if_pos h8]; rfl) | rfl))
set_option maxHeartbeats 4000000 in
set_option maxRecDepth 100000 in
theorem Ci_bitsBehind_ok (g : pmG) (d : Nat) (ex : List (Nat × Nat)) (R : Nat → Nat → Value) (hR : pk_R R)  (x0 : Int32) (I : Nat → Nat → Int32) (J : Nat → Nat → Int64) (hp : pCi_bitsBehind x0 I J) : pmC g kCi_bitsBehind (d + 1) 0 0 [.ref 3, .int x0] (pk_K ++ ex, R, I, J) (.returned (some (.int (fCi_bitsBehind x0 I J)))) (pk_K ++ ex, R, I, J) :=
  pmC.of (by decide) (Nat.le_of_ble_eq_true rfl) (Ci_bitsBehind_n0 g d ex R hR _ _  x0 I J hp rfl rfl)
def fTr_forget  (I : Nat → Nat → Int32) (J : Nat → Nat → Int64) : (Nat → Nat → Int32) :=
  pm_u (pm_u I 37 3 (0 : Int32)) 37 2 (0 : Int32)
def pTr_forget  (I : Nat → Nat → Int32) (J : Nat → Nat → Int64) : Prop :=
  True
set_option maxHeartbeats 4000000 in
set_option maxRecDepth 100000 in
theorem Tr_forget_n0 (g : pmG) (d : Nat) (ex : List (Nat × Nat)) (R : Nat → Nat → Value) (hR : pk_R R) (o : Outcome) (Z : pmM)  (I : Nat → Nat → Int32) (J : Nat → Nat → Int64) (hp : pTr_forget I J) (ho : o = .returned none) (hz : Z = (pk_K ++ ex, R, (fTr_forget I J), J)) : pmE g kTr_forget d 0 0 0 [(0, .ref 37)] [] (pk_K ++ ex) R I J o Z := by
  unfold pTr_forget at hp
  refine pm_aload_n dTr_forget_0 rfl ?_
  refine pm_iconst (v := 0) dTr_forget_1 (by decide) ?_
  refine pm_puti dTr_forget_2 fTr_18 sTr_18 (fun h => by cases h) rfl (by decide) rfl ?_
  refine pm_aload_n dTr_forget_5 rfl ?_
  refine pm_iconst (v := 0) dTr_forget_6 (by decide) ?_
  refine pm_puti dTr_forget_7 fTr_22 sTr_22 (fun h => by cases h) rfl rfl rfl ?_
  exact pm_vret dTr_forget_10 rfl ho (hz.trans (by first | rfl | (simp only [fTr_forget]; done) | (simp only [fTr_forget]; rfl)))
set_option maxHeartbeats 4000000 in
set_option maxRecDepth 100000 in
theorem Tr_forget_ok (g : pmG) (d : Nat) (ex : List (Nat × Nat)) (R : Nat → Nat → Value) (hR : pk_R R)   (I : Nat → Nat → Int32) (J : Nat → Nat → Int64) (hp : pTr_forget I J) : pmC g kTr_forget d 0 0 [.ref 37] (pk_K ++ ex, R, I, J) (.returned none) (pk_K ++ ex, R, (fTr_forget I J), J) :=
  pmC.of (by decide) (Nat.le_of_ble_eq_true rfl) (Tr_forget_n0 g d ex R hR _ _   I J hp rfl rfl)
def fTr_lead_23  : Nat → Int32 → Int32 → Int32 → (Nat → Nat → Int32) → (Nat → Nat → Int64) → (Nat → Nat → Int32)
  | 0, _, _, _, I, _ => I
  | n + 1, y2, y3, y4, I, J =>
  if y4 ≤ 0 then pm_u I 38 (0 : Int32).toNatClampNeg y3
  else fTr_lead_23 n y2 ((pm_u (pm_u I 38 y4.toNatClampNeg y3) 39 (y4 - (1 : Int32)).toNatClampNeg ((pm_u I 38 y4.toNatClampNeg y3) 32 y3.toNatClampNeg)) 31 y3.toNatClampNeg) (y4 + Int32.ofInt (-1)) (pm_u (pm_u I 38 y4.toNatClampNeg y3) 39 (y4 - (1 : Int32)).toNatClampNeg ((pm_u I 38 y4.toNatClampNeg y3) 32 y3.toNatClampNeg)) J
def pTr_lead_23  : Nat → Int32 → Int32 → Int32 → (Nat → Nat → Int32) → (Nat → Nat → Int64) → Prop
  | 0, _, _, _, _, _ => False
  | n + 1, y2, y3, y4, I, J =>
  (y4 ≤ 0 → (vp_in (0 : Int32) 256) ∧ True) ∧
  (¬ (y4 ≤ 0) → (vp_in y4 256) ∧ ((vp_in y3 256) ∧ ((vp_in (y4 - (1 : Int32)) 256) ∧ ((vp_in y3 256) ∧ (pTr_lead_23 n y2 ((pm_u (pm_u I 38 y4.toNatClampNeg y3) 39 (y4 - (1 : Int32)).toNatClampNeg ((pm_u I 38 y4.toNatClampNeg y3) 32 y3.toNatClampNeg)) 31 y3.toNatClampNeg) (y4 + Int32.ofInt (-1)) (pm_u (pm_u I 38 y4.toNatClampNeg y3) 39 (y4 - (1 : Int32)).toNatClampNeg ((pm_u I 38 y4.toNatClampNeg y3) 32 y3.toNatClampNeg)) J)))))
def fTr_lead (n23 : Nat) (y2 : Int32) (I : Nat → Nat → Int32) (J : Nat → Nat → Int64) : (Nat → Nat → Int32) :=
  fTr_lead_23 n23 y2 y2 ((pm_u I 37 3 (1 : Int32)) 30 y2.toNatClampNeg) (pm_u (pm_u I 37 3 (1 : Int32)) 37 2 ((pm_u I 37 3 (1 : Int32)) 30 y2.toNatClampNeg)) J
def pTr_lead (n23 : Nat) (y2 : Int32) (I : Nat → Nat → Int32) (J : Nat → Nat → Int64) : Prop :=
  (vp_in y2 256) ∧ (pTr_lead_23 n23 y2 y2 ((pm_u I 37 3 (1 : Int32)) 30 y2.toNatClampNeg) (pm_u (pm_u I 37 3 (1 : Int32)) 37 2 ((pm_u I 37 3 (1 : Int32)) 30 y2.toNatClampNeg)) J)
set_option maxHeartbeats 4000000 in
set_option maxRecDepth 100000 in
theorem Tr_lead_n23 (g : pmG) (d : Nat) (ex : List (Nat × Nat)) (R : Nat → Nat → Value) (hR : pk_R R) (o : Outcome) (Z : pmM)  : ∀ (n : Nat) (y2 : Int32) (y3 : Int32) (y4 : Int32) (I : Nat → Nat → Int32) (J : Nat → Nat → Int64), pTr_lead_23 n y2 y3 y4 I J → o = .returned none → Z = (pk_K ++ ex, R, (fTr_lead_23 n y2 y3 y4 I J), J) → pmE g kTr_lead d 0 0 23 [(0, .ref 37), (1, .ref 25), (2, .int y2), (3, .int y3), (4, .int y4)] [] (pk_K ++ ex) R I J o Z := by
  intro n
  induction n with
  | zero => intro y2 y3 y4 I J hp; exact False.elim hp
  | succ n ih =>
  intro y2 y3 y4 I J hp ho hz
  simp only [pTr_lead_23] at hp
  refine pm_iload dTr_lead_23 rfl ?_
  refine pm_if_le 64 dTr_lead_25 (by decide) (fun h25 => ?_) (fun h25 => ?_)
  ·
    refine pm_aload_n dTr_lead_64 rfl ?_
    refine pm_getr dTr_lead_65 fTr_9 rfl (rr_37_0 hR) ?_
    refine pm_iconst (v := 0) dTr_lead_68 (by decide) ?_
    refine pm_iload_n dTr_lead_69 rfl ?_
    refine pm_iast dTr_lead_70 rfl (hp.1 h25).1 ?_
    exact pm_vret dTr_lead_71 rfl ho (hz.trans (by first | (simp only [fTr_lead_23, if_pos h25]; done) | (simp only [fTr_lead_23, if_pos h25]; rfl) | rfl))
  ·
    refine pm_aload_n dTr_lead_28 rfl ?_
    refine pm_getr dTr_lead_29 fTr_9 rfl (rr_37_0 hR) ?_
    refine pm_iload dTr_lead_32 rfl ?_
    refine pm_iload_n dTr_lead_34 rfl ?_
    refine pm_iast dTr_lead_35 rfl (hp.2 h25).1 ?_
    refine pm_aload_n dTr_lead_36 rfl ?_
    refine pm_getr dTr_lead_37 fTr_15 rfl (rr_37_1 hR) ?_
    refine pm_iload dTr_lead_40 rfl ?_
    refine pm_iconst (v := 1) dTr_lead_42 (by decide) ?_
    refine pm_isub dTr_lead_43 ?_
    refine pm_aload_n dTr_lead_44 rfl ?_
    refine pm_getr dTr_lead_45 fTr_31 rfl (rr_25_11 hR) ?_
    refine pm_iload_n dTr_lead_48 rfl ?_
    refine pm_iald dTr_lead_49 rfl (hp.2 h25).2.1 ?_
    refine pm_iast dTr_lead_50 rfl (hp.2 h25).2.2.1 ?_
    refine pm_aload_n dTr_lead_51 rfl ?_
    refine pm_getr dTr_lead_52 fTr_32 rfl (rr_25_10 hR) ?_
    refine pm_iload_n dTr_lead_55 rfl ?_
    refine pm_iald dTr_lead_56 rfl (hp.2 h25).2.2.2.1 ?_
    refine pm_istore_n dTr_lead_57 (by decide) rfl ?_
    refine pm_iinc dTr_lead_58 rfl (by decide) rfl ?_
    refine pm_goto 23 dTr_lead_61 (by decide) ?_
    refine pm_wk [2, 3, 4, 1, 0] rfl ?_
    exact ih _ _ _ _ _ (hp.2 h25).2.2.2.2 ho (hz.trans (by first | (simp only [fTr_lead_23, if_neg h25]; done) | (simp only [fTr_lead_23, if_neg h25]; rfl) | rfl))
set_option maxHeartbeats 4000000 in
set_option maxRecDepth 100000 in
theorem Tr_lead_n0 (g : pmG) (d : Nat) (ex : List (Nat × Nat)) (R : Nat → Nat → Value) (hR : pk_R R) (o : Outcome) (Z : pmM) (n23 : Nat) (y2 : Int32) (I : Nat → Nat → Int32) (J : Nat → Nat → Int64) (hp : pTr_lead n23 y2 I J) (ho : o = .returned none) (hz : Z = (pk_K ++ ex, R, (fTr_lead n23 y2 I J), J)) : pmE g kTr_lead d 0 0 0 [(0, .ref 37), (1, .ref 25), (2, .int y2)] [] (pk_K ++ ex) R I J o Z := by
  unfold pTr_lead at hp
  refine pm_aload_n dTr_lead_0 rfl ?_
  refine pm_iconst (v := 1) dTr_lead_1 (by decide) ?_
  refine pm_puti dTr_lead_2 fTr_18 sTr_18 (fun h => by cases h) rfl (by decide) rfl ?_
  refine pm_aload_n dTr_lead_5 rfl ?_
  refine pm_aload_n dTr_lead_6 rfl ?_
  refine pm_getr dTr_lead_7 fTr_26 rfl (rr_25_9 hR) ?_
  refine pm_iload_n dTr_lead_10 rfl ?_
  refine pm_iald dTr_lead_11 rfl hp.1 ?_
  refine pm_puti dTr_lead_12 fTr_22 sTr_22 (fun h => by cases h) rfl rfl rfl ?_
  refine pm_iload_n dTr_lead_15 rfl ?_
  refine pm_istore_n dTr_lead_16 (by decide) rfl ?_
  refine pm_aload_n dTr_lead_17 rfl ?_
  refine pm_geti dTr_lead_18 fTr_22 rfl ?_
  refine pm_eqi ((pm_u I 37 3 (1 : Int32)) 30 y2.toNatClampNeg) rfl ?_
  refine pm_istore dTr_lead_21 (by decide) rfl ?_
  refine pm_wk [2, 3, 4, 1, 0] rfl ?_
  exact Tr_lead_n23 g d ex R hR _ _  n23 _ _ _ _ _ hp.2 ho (hz.trans (by first | rfl | (simp only [fTr_lead]; done) | (simp only [fTr_lead]; rfl)))
set_option maxHeartbeats 4000000 in
set_option maxRecDepth 100000 in
theorem Tr_lead_ok (g : pmG) (d : Nat) (ex : List (Nat × Nat)) (R : Nat → Nat → Value) (hR : pk_R R) (n23 : Nat) (x0 : Int32) (I : Nat → Nat → Int32) (J : Nat → Nat → Int64) (hp : pTr_lead n23 x0 I J) : pmC g kTr_lead d 0 0 [.ref 37, .ref 25, .int x0] (pk_K ++ ex, R, I, J) (.returned none) (pk_K ++ ex, R, (fTr_lead n23 x0 I J), J) :=
  pmC.of (by decide) (Nat.le_of_ble_eq_true rfl) (Tr_lead_n0 g d ex R hR _ _ n23 x0 I J hp rfl rfl)
