def fTp_byteAt_25  (y1 : Int32) (I : Nat → Nat → Int32) (J : Nat → Nat → Int64) : Int32 :=
  0
def pTp_byteAt_25  (y1 : Int32) (I : Nat → Nat → Int32) (J : Nat → Nat → Int64) : Prop :=
  True
def fTp_byteAt  (y1 : Int32) (I : Nat → Nat → Int32) (J : Nat → Nat → Int64) : Int32 :=
  if y1 < 0 then fTp_byteAt_25 y1 I J
  else if (I 1 1) ≤ y1 then fTp_byteAt_25 y1 I J
    else (I 2 y1.toNatClampNeg) &&& 255
def pTp_byteAt  (y1 : Int32) (I : Nat → Nat → Int32) (J : Nat → Nat → Int64) : Prop :=
  (y1 < 0 → pTp_byteAt_25 y1 I J) ∧
  (¬ (y1 < 0) → ((I 1 1) ≤ y1 → pTp_byteAt_25 y1 I J) ∧
    (¬ ((I 1 1) ≤ y1) → (vp_in y1 65536) ∧ True))
set_option maxHeartbeats 4000000 in
set_option maxRecDepth 100000 in
theorem Tp_byteAt_n25 (g : pmG) (d : Nat) (ex : List (Nat × Nat)) (R : Nat → Nat → Value) (hR : pk_R R) (o : Outcome) (Z : pmM)  (y1 : Int32) (I : Nat → Nat → Int32) (J : Nat → Nat → Int64) (hp : pTp_byteAt_25 y1 I J) (ho : o = .returned (some (.int (fTp_byteAt_25 y1 I J)))) (hz : Z = (pk_K ++ ex, R, I, J)) : pmE g kTp_byteAt d 0 0 25 [(0, .ref 1), (1, .int y1)] [] (pk_K ++ ex) R I J o Z := by
  unfold pTp_byteAt_25 at hp
  refine pm_iconst (v := 0) dTp_byteAt_25 (by decide) ?_
  exact pm_iret dTp_byteAt_26 rfl (ho.trans (by first | rfl | (simp only [fTp_byteAt_25]; done) | (simp only [fTp_byteAt_25]; rfl))) (hz.trans (by first | rfl | (simp only [fTp_byteAt_25]; done) | (simp only [fTp_byteAt_25]; rfl)))
set_option maxHeartbeats 4000000 in
set_option maxRecDepth 100000 in
theorem Tp_byteAt_n0 (g : pmG) (d : Nat) (ex : List (Nat × Nat)) (R : Nat → Nat → Value) (hR : pk_R R) (o : Outcome) (Z : pmM)  (y1 : Int32) (I : Nat → Nat → Int32) (J : Nat → Nat → Int64) (hp : pTp_byteAt y1 I J) (ho : o = .returned (some (.int (fTp_byteAt y1 I J)))) (hz : Z = (pk_K ++ ex, R, I, J)) : pmE g kTp_byteAt d 0 0 0 [(0, .ref 1), (1, .int y1)] [] (pk_K ++ ex) R I J o Z := by
  unfold pTp_byteAt at hp
  refine pm_iload_n dTp_byteAt_0 rfl ?_
  refine pm_if_lt 25 dTp_byteAt_1 (by decide) (fun h1 => ?_) (fun h1 => ?_)
  ·
    refine pm_wk [0, 1] rfl ?_
    exact Tp_byteAt_n25 g d ex R hR _ _   _ _ _ (hp.1 h1) (ho.trans (by first | rfl | (simp only [fTp_byteAt, if_pos h1]; done) | (simp only [fTp_byteAt, if_pos h1]; rfl))) (hz.trans (by first | rfl | (simp only [fTp_byteAt, if_pos h1]; done) | (simp only [fTp_byteAt, if_pos h1]; rfl)))
  ·
    refine pm_iload_n dTp_byteAt_4 rfl ?_
    refine pm_aload_n dTp_byteAt_5 rfl ?_
    refine pm_geti dTp_byteAt_6 fTp_16 rfl ?_
    refine pm_icmp_ge 25 dTp_byteAt_9 (by decide) (fun h9 => ?_) (fun h9 => ?_)
    ·
      refine pm_wk [0, 1] rfl ?_
      exact Tp_byteAt_n25 g d ex R hR _ _   _ _ _ ((hp.2 h1).1 h9) (ho.trans (by first | rfl | (simp only [fTp_byteAt, if_neg h1, if_pos h9]; done) | (simp only [fTp_byteAt, if_neg h1, if_pos h9]; rfl))) (hz.trans (by first | rfl | (simp only [fTp_byteAt, if_neg h1, if_pos h9]; done) | (simp only [fTp_byteAt, if_neg h1, if_pos h9]; rfl)))
    ·
      refine pm_aload_n dTp_byteAt_12 rfl ?_
      refine pm_getr dTp_byteAt_13 fTp_10 rfl (rr_1_0 hR) ?_
      refine pm_iload_n dTp_byteAt_16 rfl ?_
      refine pm_bald dTp_byteAt_17 rfl ((hp.2 h1).2 h9).1 ?_
      refine pm_sipush (v := 255) dTp_byteAt_18 (by decide) ?_
      refine pm_iand dTp_byteAt_21 ?_
      refine pm_goto 26 dTp_byteAt_22 (by decide) ?_
      exact pm_iret dTp_byteAt_26 rfl (ho.trans (by first | rfl | (simp only [fTp_byteAt, if_neg h1, if_neg h9]; done) | (simp only [fTp_byteAt, if_neg h1, if_neg h9]; rfl))) (hz.trans (by first | rfl | (simp only [fTp_byteAt, if_neg h1, if_neg h9]; done) | (simp only [fTp_byteAt, if_neg h1, if_neg h9]; rfl)))
set_option maxHeartbeats 4000000 in
set_option maxRecDepth 100000 in
theorem Tp_byteAt_ok (g : pmG) (d : Nat) (ex : List (Nat × Nat)) (R : Nat → Nat → Value) (hR : pk_R R)  (x0 : Int32) (I : Nat → Nat → Int32) (J : Nat → Nat → Int64) (hp : pTp_byteAt x0 I J) : pmC g kTp_byteAt d 0 0 [.ref 1, .int x0] (pk_K ++ ex, R, I, J) (.returned (some (.int (fTp_byteAt x0 I J)))) (pk_K ++ ex, R, I, J) :=
  pmC.of (by decide) (Nat.le_of_ble_eq_true rfl) (Tp_byteAt_n0 g d ex R hR _ _  x0 I J hp rfl rfl)
def fTp_add_3  : Nat → Int32 → Int32 → (Nat → Nat → Int32) → (Nat → Nat → Int64) → (Nat → Nat → Int32)
  | 0, _, _, I, _ => I
  | n + 1, y1, y2, I, J =>
  if y2 < 0 then I
  else if 65536 ≤ (I 1 1) then I
    else fTp_add_3 n y1 (y2 + Int32.ofInt (-8)) (pm_u (pm_u I 2 (I 1 1).toNatClampNeg ((((y1.toUInt32 >>> (y2.toUInt32 &&& Int32.toUInt32 31)).toInt32).toInt8.toInt32).toInt8.toInt32)) 1 1 ((I 1 1) + 1)) J
def pTp_add_3  : Nat → Int32 → Int32 → (Nat → Nat → Int32) → (Nat → Nat → Int64) → Prop
  | 0, _, _, _, _ => False
  | n + 1, y1, y2, I, J =>
  (y2 < 0 → True) ∧
  (¬ (y2 < 0) → (65536 ≤ (I 1 1) → True) ∧
    (¬ (65536 ≤ (I 1 1)) → (vp_in (I 1 1) 65536) ∧ (pTp_add_3 n y1 (y2 + Int32.ofInt (-8)) (pm_u (pm_u I 2 (I 1 1).toNatClampNeg ((((y1.toUInt32 >>> (y2.toUInt32 &&& Int32.toUInt32 31)).toInt32).toInt8.toInt32).toInt8.toInt32)) 1 1 ((I 1 1) + 1)) J)))
def fTp_add (n3 : Nat) (y1 : Int32) (I : Nat → Nat → Int32) (J : Nat → Nat → Int64) : (Nat → Nat → Int32) :=
  fTp_add_3 n3 y1 24 I J
def pTp_add (n3 : Nat) (y1 : Int32) (I : Nat → Nat → Int32) (J : Nat → Nat → Int64) : Prop :=
  pTp_add_3 n3 y1 24 I J
set_option maxHeartbeats 4000000 in
set_option maxRecDepth 100000 in
theorem Tp_add_n3 (g : pmG) (d : Nat) (ex : List (Nat × Nat)) (R : Nat → Nat → Value) (hR : pk_R R) (o : Outcome) (Z : pmM)  : ∀ (n : Nat) (y1 : Int32) (y2 : Int32) (I : Nat → Nat → Int32) (J : Nat → Nat → Int64), pTp_add_3 n y1 y2 I J → o = .returned none → Z = (pk_K ++ ex, R, (fTp_add_3 n y1 y2 I J), J) → pmE g kTp_add d 0 0 3 [(0, .ref 1), (1, .int y1), (2, .int y2)] [] (pk_K ++ ex) R I J o Z := by
  intro n
  induction n with
  | zero => intro y1 y2 I J hp; exact False.elim hp
  | succ n ih =>
  intro y1 y2 I J hp ho hz
  simp only [pTp_add_3] at hp
  refine pm_iload_n dTp_add_3 rfl ?_
  refine pm_if_lt 45 dTp_add_4 (by decide) (fun h4 => ?_) (fun h4 => ?_)
  ·
    exact pm_vret dTp_add_45 rfl ho (hz.trans (by first | rfl | (simp only [fTp_add_3, if_pos h4]; done) | (simp only [fTp_add_3, if_pos h4]; rfl)))
  ·
    refine pm_aload_n dTp_add_7 rfl ?_
    refine pm_geti dTp_add_8 fTp_16 rfl ?_
    refine pm_ldc dTp_add_11 cTp_9 ?_
    refine pm_icmp_ge 45 dTp_add_13 (by decide) (fun h13 => ?_) (fun h13 => ?_)
    ·
      exact pm_vret dTp_add_45 rfl ho (hz.trans (by first | rfl | (simp only [fTp_add_3, if_neg h4, if_pos h13]; done) | (simp only [fTp_add_3, if_neg h4, if_pos h13]; rfl)))
    ·
      refine pm_aload_n dTp_add_16 rfl ?_
      refine pm_getr dTp_add_17 fTp_10 rfl (rr_1_0 hR) ?_
      refine pm_aload_n dTp_add_20 rfl ?_
      refine pm_geti dTp_add_21 fTp_16 rfl ?_
      refine pm_iload_n dTp_add_24 rfl ?_
      refine pm_iload_n dTp_add_25 rfl ?_
      refine pm_iushr dTp_add_26 ?_
      refine pm_i2b dTp_add_27 ?_
      refine pm_bast dTp_add_28 rfl ((hp.2 h4).2 h13).1 ?_
      refine pm_aload_n dTp_add_29 rfl ?_
      refine pm_dup dTp_add_30 rfl ?_
      refine pm_geti dTp_add_31 fTp_16 rfl ?_
      refine pm_eqi (I 1 1) rfl ?_
      refine pm_iconst (v := 1) dTp_add_34 (by decide) ?_
      refine pm_iadd dTp_add_35 ?_
      refine pm_puti dTp_add_36 fTp_16 sTp_16 (fun h => by cases h) rfl rfl rfl ?_
      refine pm_iinc dTp_add_39 rfl (by decide) rfl ?_
      refine pm_goto 3 dTp_add_42 (by decide) ?_
      refine pm_wk [1, 2, 0] rfl ?_
      exact ih _ _ _ _ ((hp.2 h4).2 h13).2 ho (hz.trans (by first | rfl | (simp only [fTp_add_3, if_neg h4, if_neg h13]; done) | (simp only [fTp_add_3, if_neg h4, if_neg h13]; rfl)))
set_option maxHeartbeats 4000000 in
set_option maxRecDepth 100000 in
theorem Tp_add_n0 (g : pmG) (d : Nat) (ex : List (Nat × Nat)) (R : Nat → Nat → Value) (hR : pk_R R) (o : Outcome) (Z : pmM) (n3 : Nat) (y1 : Int32) (I : Nat → Nat → Int32) (J : Nat → Nat → Int64) (hp : pTp_add n3 y1 I J) (ho : o = .returned none) (hz : Z = (pk_K ++ ex, R, (fTp_add n3 y1 I J), J)) : pmE g kTp_add d 0 0 0 [(0, .ref 1), (1, .int y1)] [] (pk_K ++ ex) R I J o Z := by
  unfold pTp_add at hp
  refine pm_bipush (v := 24) dTp_add_0 (by decide) ?_
  refine pm_istore_n dTp_add_2 (by decide) rfl ?_
  refine pm_wk [1, 2, 0] rfl ?_
  exact Tp_add_n3 g d ex R hR _ _  n3 _ _ _ _ hp ho (hz.trans (by first | rfl | (simp only [fTp_add]; done) | (simp only [fTp_add]; rfl)))
set_option maxHeartbeats 4000000 in
set_option maxRecDepth 100000 in
theorem Tp_add_ok (g : pmG) (d : Nat) (ex : List (Nat × Nat)) (R : Nat → Nat → Value) (hR : pk_R R) (n3 : Nat) (x0 : Int32) (I : Nat → Nat → Int32) (J : Nat → Nat → Int64) (hp : pTp_add n3 x0 I J) : pmC g kTp_add d 0 0 [.ref 1, .int x0] (pk_K ++ ex, R, I, J) (.returned none) (pk_K ++ ex, R, (fTp_add n3 x0 I J), J) :=
  pmC.of (by decide) (Nat.le_of_ble_eq_true rfl) (Tp_add_n0 g d ex R hR _ _ n3 x0 I J hp rfl rfl)
