def fVa_rowOfName  (y0 : Int32) : Int32 :=
  y0 * (256 : Int32)
def pVa_rowOfName  (y0 : Int32) : Prop :=
  True
set_option maxHeartbeats 4000000 in
set_option maxRecDepth 100000 in
theorem Va_rowOfName_n0 (g : pmG) (d : Nat) (K : List (Nat × Nat)) (R : Nat → Nat → Value) (I : Nat → Nat → Int32) (J : Nat → Nat → Int64) (o : Outcome) (Z : pmM)  (y0 : Int32) (hp : pVa_rowOfName y0) (ho : o = .returned (some (.int (fVa_rowOfName y0)))) (hz : Z = (K, R, I, J)) : pmE g kVa_rowOfName d 0 0 0 [(0, .int y0)] [] (K) R I J o Z := by
  unfold pVa_rowOfName at hp
  refine pm_iload_n dVa_rowOfName_0 rfl ?_
  refine pm_sipush (v := 256) dVa_rowOfName_1 (by decide) ?_
  refine pm_imul dVa_rowOfName_4 ?_
  exact pm_iret dVa_rowOfName_5 rfl (ho.trans (by first | rfl | (simp only [fVa_rowOfName]; done) | (simp only [fVa_rowOfName]; rfl))) (hz.trans (by first | rfl | (simp only [fVa_rowOfName]; done) | (simp only [fVa_rowOfName]; rfl)))
set_option maxHeartbeats 4000000 in
set_option maxRecDepth 100000 in
theorem Va_rowOfName_ok (g : pmG) (d : Nat) (K : List (Nat × Nat)) (R : Nat → Nat → Value)  (x0 : Int32) (I : Nat → Nat → Int32) (J : Nat → Nat → Int64) (hp : pVa_rowOfName x0) : pmC g kVa_rowOfName d 0 0 [.int x0] (K, R, I, J) (.returned (some (.int (fVa_rowOfName x0)))) (K, R, I, J) :=
  pmC.of (by decide) (Nat.le_of_ble_eq_true rfl) (Va_rowOfName_n0 g d K R I J _ _  x0  hp rfl rfl)
def fVa_rowOfPlace  (y0 : Int32) : Int32 :=
  ((60 : Int32) + y0) * (256 : Int32)
def pVa_rowOfPlace  (y0 : Int32) : Prop :=
  True
set_option maxHeartbeats 4000000 in
set_option maxRecDepth 100000 in
theorem Va_rowOfPlace_n0 (g : pmG) (d : Nat) (K : List (Nat × Nat)) (R : Nat → Nat → Value) (I : Nat → Nat → Int32) (J : Nat → Nat → Int64) (o : Outcome) (Z : pmM)  (y0 : Int32) (hp : pVa_rowOfPlace y0) (ho : o = .returned (some (.int (fVa_rowOfPlace y0)))) (hz : Z = (K, R, I, J)) : pmE g kVa_rowOfPlace d 0 0 0 [(0, .int y0)] [] (K) R I J o Z := by
  unfold pVa_rowOfPlace at hp
  refine pm_bipush (v := 60) dVa_rowOfPlace_0 (by decide) ?_
  refine pm_iload_n dVa_rowOfPlace_2 rfl ?_
  refine pm_iadd dVa_rowOfPlace_3 ?_
  refine pm_sipush (v := 256) dVa_rowOfPlace_4 (by decide) ?_
  refine pm_imul dVa_rowOfPlace_7 ?_
  exact pm_iret dVa_rowOfPlace_8 rfl (ho.trans (by first | rfl | (simp only [fVa_rowOfPlace]; done) | (simp only [fVa_rowOfPlace]; rfl))) (hz.trans (by first | rfl | (simp only [fVa_rowOfPlace]; done) | (simp only [fVa_rowOfPlace]; rfl)))
set_option maxHeartbeats 4000000 in
set_option maxRecDepth 100000 in
theorem Va_rowOfPlace_ok (g : pmG) (d : Nat) (K : List (Nat × Nat)) (R : Nat → Nat → Value)  (x0 : Int32) (I : Nat → Nat → Int32) (J : Nat → Nat → Int64) (hp : pVa_rowOfPlace x0) : pmC g kVa_rowOfPlace d 0 0 [.int x0] (K, R, I, J) (.returned (some (.int (fVa_rowOfPlace x0)))) (K, R, I, J) :=
  pmC.of (by decide) (Nat.le_of_ble_eq_true rfl) (Va_rowOfPlace_n0 g d K R I J _ _  x0  hp rfl rfl)
def fVa_lane  (y1 : Int32) (y2 : Int32) (I : Nat → Nat → Int32) (J : Nat → Nat → Int64) : Int32 :=
  ((((J 23 (y1 + (y2 >>> ((3 : Int32) &&& 31))).toNatClampNeg).toUInt64 >>> (((((y2 &&& (7 : Int32)) * (8 : Int32)) : Int32)).toInt64.toUInt64 &&& Int64.toUInt64 63)).toInt64).toInt32) &&& (255 : Int32)
def pVa_lane  (y1 : Int32) (y2 : Int32) (I : Nat → Nat → Int32) (J : Nat → Nat → Int64) : Prop :=
  (vp_in (y1 + (y2 >>> ((3 : Int32) &&& 31))) 51200) ∧ True
set_option maxHeartbeats 4000000 in
set_option maxRecDepth 100000 in
theorem Va_lane_n0 (g : pmG) (d : Nat) (ex : List (Nat × Nat)) (R : Nat → Nat → Value) (hR : pk_R R) (o : Outcome) (Z : pmM)  (y1 : Int32) (y2 : Int32) (I : Nat → Nat → Int32) (J : Nat → Nat → Int64) (hp : pVa_lane y1 y2 I J) (ho : o = .returned (some (.int (fVa_lane y1 y2 I J)))) (hz : Z = (pk_K ++ ex, R, I, J)) : pmE g kVa_lane d 0 0 0 [(0, .ref 22), (1, .int y1), (2, .int y2)] [] (pk_K ++ ex) R I J o Z := by
  unfold pVa_lane at hp
  refine pm_aload_n dVa_lane_0 rfl ?_
  refine pm_getr dVa_lane_1 fVa_12 rfl (rr_22_1 hR) ?_
  refine pm_iload_n dVa_lane_4 rfl ?_
  refine pm_iload_n dVa_lane_5 rfl ?_
  refine pm_iconst (v := 3) dVa_lane_6 (by decide) ?_
  refine pm_ishr dVa_lane_7 ?_
  refine pm_iadd dVa_lane_8 ?_
  refine pm_lald dVa_lane_9 rfl hp.1 ?_
  refine pm_iload_n dVa_lane_10 rfl ?_
  refine pm_bipush (v := 7) dVa_lane_11 (by decide) ?_
  refine pm_iand dVa_lane_13 ?_
  refine pm_bipush (v := 8) dVa_lane_14 (by decide) ?_
  refine pm_imul dVa_lane_16 ?_
  refine pm_lushr dVa_lane_17 ?_
  refine pm_l2i dVa_lane_18 ?_
  refine pm_sipush (v := 255) dVa_lane_19 (by decide) ?_
  refine pm_iand dVa_lane_22 ?_
  exact pm_iret dVa_lane_23 rfl (ho.trans (by first | rfl | (simp only [fVa_lane]; done) | (simp only [fVa_lane]; rfl))) (hz.trans (by first | rfl | (simp only [fVa_lane]; done) | (simp only [fVa_lane]; rfl)))
set_option maxHeartbeats 4000000 in
set_option maxRecDepth 100000 in
theorem Va_lane_ok (g : pmG) (d : Nat) (ex : List (Nat × Nat)) (R : Nat → Nat → Value) (hR : pk_R R)  (x0 : Int32) (x1 : Int32) (I : Nat → Nat → Int32) (J : Nat → Nat → Int64) (hp : pVa_lane x0 x1 I J) : pmC g kVa_lane d 0 0 [.ref 22, .int x0, .int x1] (pk_K ++ ex, R, I, J) (.returned (some (.int (fVa_lane x0 x1 I J)))) (pk_K ++ ex, R, I, J) :=
  pmC.of (by decide) (Nat.le_of_ble_eq_true rfl) (Va_lane_n0 g d ex R hR _ _  x0 x1 I J hp rfl rfl)
def fVa_ofLast  (y1 : Int32) (I : Nat → Nat → Int32) (J : Nat → Nat → Int64) : Int32 :=
  if (I 22 3) ≤ 0 then (0 : Int32)
  else (fVa_lane (I 24 ((I 22 3) - (1 : Int32)).toNatClampNeg) y1 I J)
def pVa_ofLast  (y1 : Int32) (I : Nat → Nat → Int32) (J : Nat → Nat → Int64) : Prop :=
  ((I 22 3) ≤ 0 → True) ∧
  (¬ ((I 22 3) ≤ 0) → (vp_in ((I 22 3) - (1 : Int32)) 140) ∧ ((pVa_lane (I 24 ((I 22 3) - (1 : Int32)).toNatClampNeg) y1 I J) ∧ True))
set_option maxHeartbeats 4000000 in
set_option maxRecDepth 100000 in
theorem Va_ofLast_n0 (g : pmG) (d : Nat) (ex : List (Nat × Nat)) (R : Nat → Nat → Value) (hR : pk_R R) (o : Outcome) (Z : pmM)  (y1 : Int32) (I : Nat → Nat → Int32) (J : Nat → Nat → Int64) (hp : pVa_ofLast y1 I J) (ho : o = .returned (some (.int (fVa_ofLast y1 I J)))) (hz : Z = (pk_K ++ ex, R, I, J)) : pmE g kVa_ofLast (d + 1) 0 0 0 [(0, .ref 22), (1, .int y1)] [] (pk_K ++ ex) R I J o Z := by
  unfold pVa_ofLast at hp
  refine pm_aload_n dVa_ofLast_0 rfl ?_
  refine pm_geti dVa_ofLast_1 fVa_24 rfl ?_
  refine pm_if_le 26 dVa_ofLast_4 (by decide) (fun h4 => ?_) (fun h4 => ?_)
  ·
    refine pm_iconst (v := 0) dVa_ofLast_26 (by decide) ?_
    exact pm_iret dVa_ofLast_27 rfl (ho.trans (by first | (simp only [fVa_ofLast, if_pos h4]; done) | (simp only [fVa_ofLast, if_pos h4]; rfl) | rfl)) (hz.trans (by first | (simp only [fVa_ofLast, if_pos h4]; done) | (simp only [fVa_ofLast, if_pos h4]; rfl) | rfl))
  ·
    refine pm_aload_n dVa_ofLast_7 rfl ?_
    refine pm_aload_n dVa_ofLast_8 rfl ?_
    refine pm_getr dVa_ofLast_9 fVa_16 rfl (rr_22_2 hR) ?_
    refine pm_aload_n dVa_ofLast_12 rfl ?_
    refine pm_geti dVa_ofLast_13 fVa_24 rfl ?_
    refine pm_iconst (v := 1) dVa_ofLast_16 (by decide) ?_
    refine pm_isub dVa_ofLast_17 ?_
    refine pm_iald dVa_ofLast_18 rfl (hp.2 h4).1 ?_
    refine pm_iload_n dVa_ofLast_19 rfl ?_
    refine pm_callV dVa_ofLast_20 lVa_77 vVa_lane ⟨_, _, rfl⟩ (Va_lane_ok _ _ _ _ hR _ _ _ _ (hp.2 h4).2.1) rfl rfl rfl (Nat.le_of_ble_eq_true rfl) (Nat.le_refl _) (Nat.le_refl _) ?_
    refine pm_goto 27 dVa_ofLast_23 (by decide) ?_
    exact pm_iret dVa_ofLast_27 rfl (ho.trans (by first | (simp only [fVa_ofLast, if_neg h4]; done) | (simp only [fVa_ofLast, if_neg h4]; rfl) | rfl)) (hz.trans (by first | (simp only [fVa_ofLast, if_neg h4]; done) | (simp only [fVa_ofLast, if_neg h4]; rfl) | rfl))
set_option maxHeartbeats 4000000 in
set_option maxRecDepth 100000 in
theorem Va_ofLast_ok (g : pmG) (d : Nat) (ex : List (Nat × Nat)) (R : Nat → Nat → Value) (hR : pk_R R)  (x0 : Int32) (I : Nat → Nat → Int32) (J : Nat → Nat → Int64) (hp : pVa_ofLast x0 I J) : pmC g kVa_ofLast (d + 1) 0 0 [.ref 22, .int x0] (pk_K ++ ex, R, I, J) (.returned (some (.int (fVa_ofLast x0 I J)))) (pk_K ++ ex, R, I, J) :=
  pmC.of (by decide) (Nat.le_of_ble_eq_true rfl) (Va_ofLast_n0 g d ex R hR _ _  x0 I J hp rfl rfl)
def fVa_ofName  (y1 : Int32) (y2 : Int32) (I : Nat → Nat → Int32) (J : Nat → Nat → Int64) : Int32 :=
  (fVa_lane ((fVa_rowOfName y1)) y2 I J)
def pVa_ofName  (y1 : Int32) (y2 : Int32) (I : Nat → Nat → Int32) (J : Nat → Nat → Int64) : Prop :=
  (pVa_rowOfName y1) ∧ ((pVa_lane ((fVa_rowOfName y1)) y2 I J) ∧ True)
set_option maxHeartbeats 4000000 in
set_option maxRecDepth 100000 in
theorem Va_ofName_n0 (g : pmG) (d : Nat) (ex : List (Nat × Nat)) (R : Nat → Nat → Value) (hR : pk_R R) (o : Outcome) (Z : pmM)  (y1 : Int32) (y2 : Int32) (I : Nat → Nat → Int32) (J : Nat → Nat → Int64) (hp : pVa_ofName y1 y2 I J) (ho : o = .returned (some (.int (fVa_ofName y1 y2 I J)))) (hz : Z = (pk_K ++ ex, R, I, J)) : pmE g kVa_ofName (d + 1) 0 0 0 [(0, .ref 22), (1, .int y1), (2, .int y2)] [] (pk_K ++ ex) R I J o Z := by
  unfold pVa_ofName at hp
  refine pm_aload_n dVa_ofName_0 rfl ?_
  refine pm_iload_n dVa_ofName_1 rfl ?_
  refine pm_callS dVa_ofName_2 lVa_49 tVa_rowOfName (Va_rowOfName_ok _ _ _ _ _ _ _ hp.1) rfl rfl (Nat.le_of_ble_eq_true rfl) (Nat.le_refl _) (Nat.le_refl _) ?_
  refine pm_iload_n dVa_ofName_5 rfl ?_
  refine pm_callV dVa_ofName_6 lVa_77 vVa_lane ⟨_, _, rfl⟩ (Va_lane_ok _ _ _ _ hR _ _ _ _ hp.2.1) rfl rfl rfl (Nat.le_of_ble_eq_true rfl) (Nat.le_refl _) (Nat.le_refl _) ?_
  exact pm_iret dVa_ofName_9 rfl (ho.trans (by first | rfl | (simp only [fVa_ofName]; done) | (simp only [fVa_ofName]; rfl))) (hz.trans (by first | rfl | (simp only [fVa_ofName]; done) | (simp only [fVa_ofName]; rfl)))
set_option maxHeartbeats 4000000 in
set_option maxRecDepth 100000 in
theorem Va_ofName_ok (g : pmG) (d : Nat) (ex : List (Nat × Nat)) (R : Nat → Nat → Value) (hR : pk_R R)  (x0 : Int32) (x1 : Int32) (I : Nat → Nat → Int32) (J : Nat → Nat → Int64) (hp : pVa_ofName x0 x1 I J) : pmC g kVa_ofName (d + 1) 0 0 [.ref 22, .int x0, .int x1] (pk_K ++ ex, R, I, J) (.returned (some (.int (fVa_ofName x0 x1 I J)))) (pk_K ++ ex, R, I, J) :=
  pmC.of (by decide) (Nat.le_of_ble_eq_true rfl) (Va_ofName_n0 g d ex R hR _ _  x0 x1 I J hp rfl rfl)
def fVa_drop  (I : Nat → Nat → Int32) (J : Nat → Nat → Int64) : (Nat → Nat → Int32) :=
  if (I 22 3) ≤ 0 then I
  else pm_u I 22 3 ((I 22 3) - (1 : Int32))
def pVa_drop  (I : Nat → Nat → Int32) (J : Nat → Nat → Int64) : Prop :=
  ((I 22 3) ≤ 0 → True) ∧
  (¬ ((I 22 3) ≤ 0) → True)
set_option maxHeartbeats 4000000 in
set_option maxRecDepth 100000 in
theorem Va_drop_n0 (g : pmG) (d : Nat) (ex : List (Nat × Nat)) (R : Nat → Nat → Value) (hR : pk_R R) (o : Outcome) (Z : pmM)  (I : Nat → Nat → Int32) (J : Nat → Nat → Int64) (hp : pVa_drop I J) (ho : o = .returned none) (hz : Z = (pk_K ++ ex, R, (fVa_drop I J), J)) : pmE g kVa_drop d 0 0 0 [(0, .ref 22)] [] (pk_K ++ ex) R I J o Z := by
  unfold pVa_drop at hp
  refine pm_aload_n dVa_drop_0 rfl ?_
  refine pm_geti dVa_drop_1 fVa_24 rfl ?_
  refine pm_if_le 17 dVa_drop_4 (by decide) (fun h4 => ?_) (fun h4 => ?_)
  ·
    exact pm_vret dVa_drop_17 rfl ho (hz.trans (by first | (simp only [fVa_drop, if_pos h4]; done) | (simp only [fVa_drop, if_pos h4]; rfl) | rfl))
  ·
    refine pm_aload_n dVa_drop_7 rfl ?_
    refine pm_dup dVa_drop_8 rfl ?_
    refine pm_geti dVa_drop_9 fVa_24 rfl ?_
    refine pm_iconst (v := 1) dVa_drop_12 (by decide) ?_
    refine pm_isub dVa_drop_13 ?_
    refine pm_puti dVa_drop_14 fVa_24 sVa_24 (fun h => by cases h) rfl rfl rfl ?_
    exact pm_vret dVa_drop_17 rfl ho (hz.trans (by first | (simp only [fVa_drop, if_neg h4]; done) | (simp only [fVa_drop, if_neg h4]; rfl) | rfl))
set_option maxHeartbeats 4000000 in
set_option maxRecDepth 100000 in
theorem Va_drop_ok (g : pmG) (d : Nat) (ex : List (Nat × Nat)) (R : Nat → Nat → Value) (hR : pk_R R)   (I : Nat → Nat → Int32) (J : Nat → Nat → Int64) (hp : pVa_drop I J) : pmC g kVa_drop d 0 0 [.ref 22] (pk_K ++ ex, R, I, J) (.returned none) (pk_K ++ ex, R, (fVa_drop I J), J) :=
  pmC.of (by decide) (Nat.le_of_ble_eq_true rfl) (Va_drop_n0 g d ex R hR _ _   I J hp rfl rfl)
def fVa_push  (y1 : Int32) (I : Nat → Nat → Int32) (J : Nat → Nat → Int64) : (Nat → Nat → Int32) :=
  if (140 : Int32) ≤ (I 22 3) then I
  else pm_u (pm_u I 24 (I 22 3).toNatClampNeg y1) 22 3 ((I 22 3) + (1 : Int32))
def pVa_push  (y1 : Int32) (I : Nat → Nat → Int32) (J : Nat → Nat → Int64) : Prop :=
  ((140 : Int32) ≤ (I 22 3) → True) ∧
  (¬ ((140 : Int32) ≤ (I 22 3)) → (vp_in (I 22 3) 140) ∧ True)
set_option maxHeartbeats 4000000 in
set_option maxRecDepth 100000 in
theorem Va_push_n0 (g : pmG) (d : Nat) (ex : List (Nat × Nat)) (R : Nat → Nat → Value) (hR : pk_R R) (o : Outcome) (Z : pmM)  (y1 : Int32) (I : Nat → Nat → Int32) (J : Nat → Nat → Int64) (hp : pVa_push y1 I J) (ho : o = .returned none) (hz : Z = (pk_K ++ ex, R, (fVa_push y1 I J), J)) : pmE g kVa_push d 0 0 0 [(0, .ref 22), (1, .int y1)] [] (pk_K ++ ex) R I J o Z := by
  unfold pVa_push at hp
  refine pm_aload_n dVa_push_0 rfl ?_
  refine pm_geti dVa_push_1 fVa_24 rfl ?_
  refine pm_sipush (v := 140) dVa_push_4 (by decide) ?_
  refine pm_icmp_ge 30 dVa_push_7 (by decide) (fun h7 => ?_) (fun h7 => ?_)
  ·
    exact pm_vret dVa_push_30 rfl ho (hz.trans (by first | (simp only [fVa_push, if_pos h7]; done) | (simp only [fVa_push, if_pos h7]; rfl) | rfl))
  ·
    refine pm_aload_n dVa_push_10 rfl ?_
    refine pm_getr dVa_push_11 fVa_16 rfl (rr_22_2 hR) ?_
    refine pm_aload_n dVa_push_14 rfl ?_
    refine pm_geti dVa_push_15 fVa_24 rfl ?_
    refine pm_iload_n dVa_push_18 rfl ?_
    refine pm_iast dVa_push_19 rfl (hp.2 h7).1 ?_
    refine pm_aload_n dVa_push_20 rfl ?_
    refine pm_dup dVa_push_21 rfl ?_
    refine pm_geti dVa_push_22 fVa_24 rfl ?_
    refine pm_eqi (I 22 3) rfl ?_
    refine pm_iconst (v := 1) dVa_push_25 (by decide) ?_
    refine pm_iadd dVa_push_26 ?_
    refine pm_puti dVa_push_27 fVa_24 sVa_24 (fun h => by cases h) rfl rfl rfl ?_
    exact pm_vret dVa_push_30 rfl ho (hz.trans (by first | (simp only [fVa_push, if_neg h7]; done) | (simp only [fVa_push, if_neg h7]; rfl) | rfl))
set_option maxHeartbeats 4000000 in
set_option maxRecDepth 100000 in
theorem Va_push_ok (g : pmG) (d : Nat) (ex : List (Nat × Nat)) (R : Nat → Nat → Value) (hR : pk_R R)  (x0 : Int32) (I : Nat → Nat → Int32) (J : Nat → Nat → Int64) (hp : pVa_push x0 I J) : pmC g kVa_push d 0 0 [.ref 22, .int x0] (pk_K ++ ex, R, I, J) (.returned none) (pk_K ++ ex, R, (fVa_push x0 I J), J) :=
  pmC.of (by decide) (Nat.le_of_ble_eq_true rfl) (Va_push_n0 g d ex R hR _ _  x0 I J hp rfl rfl)
def fVa_fillRow_48 (r32 : Int32 → Int32 → Int32 → Int32 → Int32 → (Nat → Nat → Int32) → (Nat → Nat → Int64) → (Nat → Nat → Int64)) : Nat → Int32 → Int32 → Int32 → Int32 → Int32 → Int64 → Int32 → (Nat → Nat → Int32) → (Nat → Nat → Int64) → (Nat → Nat → Int64)
  | 0, _, _, _, _, _, _, _, _, J => J
  | n + 1, y1, y2, y3, y4, y5, y6, y8, I, J =>
  if y8 < 0 then r32 y1 y2 y3 y4 (y5 + Int32.ofInt 1) I (pm_u J 23 (y2 + y5).toNatClampNeg y6)
  else fVa_fillRow_48 r32 n y1 y2 y3 y4 y5 ((y6 <<< ((((8 : Int32) : Int32)).toInt64 &&& 63)) ||| (((((((y5 * (8 : Int32)) + y8) >>> (y3 &&& 31)) &&& y4) : Int32)).toInt64)) (y8 + Int32.ofInt (-1)) I J
def pVa_fillRow_48 (q32 : Int32 → Int32 → Int32 → Int32 → Int32 → (Nat → Nat → Int32) → (Nat → Nat → Int64) → Prop) : Nat → Int32 → Int32 → Int32 → Int32 → Int32 → Int64 → Int32 → (Nat → Nat → Int32) → (Nat → Nat → Int64) → Prop
  | 0, _, _, _, _, _, _, _, _, _ => False
  | n + 1, y1, y2, y3, y4, y5, y6, y8, I, J =>
  (y8 < 0 → (vp_in (y2 + y5) 51200) ∧ (q32 y1 y2 y3 y4 (y5 + Int32.ofInt 1) I (pm_u J 23 (y2 + y5).toNatClampNeg y6))) ∧
  (¬ (y8 < 0) → pVa_fillRow_48 q32 n y1 y2 y3 y4 y5 ((y6 <<< ((((8 : Int32) : Int32)).toInt64 &&& 63)) ||| (((((((y5 * (8 : Int32)) + y8) >>> (y3 &&& 31)) &&& y4) : Int32)).toInt64)) (y8 + Int32.ofInt (-1)) I J)
def fVa_fillRow_32 (n48 : Nat) : Nat → Int32 → Int32 → Int32 → Int32 → Int32 → (Nat → Nat → Int32) → (Nat → Nat → Int64) → (Nat → Nat → Int64)
  | 0, _, _, _, _, _, _, J => J
  | n + 1, y1, y2, y3, y4, y5, I, J =>
  if (I 22 4) ≤ y5 then J
  else fVa_fillRow_48 (fVa_fillRow_32 n48 n) n48 y1 y2 y3 y4 y5 (0 : Int64) (7 : Int32) I J
def pVa_fillRow_32 (n48 : Nat) : Nat → Int32 → Int32 → Int32 → Int32 → Int32 → (Nat → Nat → Int32) → (Nat → Nat → Int64) → Prop
  | 0, _, _, _, _, _, _, _ => False
  | n + 1, y1, y2, y3, y4, y5, I, J =>
  ((I 22 4) ≤ y5 → True) ∧
  (¬ ((I 22 4) ≤ y5) → pVa_fillRow_48 (pVa_fillRow_32 n48 n) n48 y1 y2 y3 y4 y5 (0 : Int64) (7 : Int32) I J)
def fVa_fillRow (n48 : Nat) (n32 : Nat) (y1 : Int32) (I : Nat → Nat → Int32) (J : Nat → Nat → Int64) : (Nat → Nat → Int64) :=
  fVa_fillRow_32 n48 n32 y1 ((fVa_rowOfName y1)) ((fCi_bitsBehind y1 I J)) (((1 : Int32) <<< ((I 5 y1.toNatClampNeg) &&& 31)) - (1 : Int32)) (0 : Int32) I J
def pVa_fillRow (n48 : Nat) (n32 : Nat) (y1 : Int32) (I : Nat → Nat → Int32) (J : Nat → Nat → Int64) : Prop :=
  (pVa_rowOfName y1) ∧ ((pCi_bitsBehind y1 I J) ∧ ((vp_in y1 60) ∧ (pVa_fillRow_32 n48 n32 y1 ((fVa_rowOfName y1)) ((fCi_bitsBehind y1 I J)) (((1 : Int32) <<< ((I 5 y1.toNatClampNeg) &&& 31)) - (1 : Int32)) (0 : Int32) I J)))
set_option maxHeartbeats 4000000 in
set_option maxRecDepth 100000 in
theorem Va_fillRow_n48 (g : pmG) (d : Nat) (ex : List (Nat × Nat)) (R : Nat → Nat → Value) (hR : pk_R R) (o : Outcome) (Z : pmM) (r32 : Int32 → Int32 → Int32 → Int32 → Int32 → (Nat → Nat → Int32) → (Nat → Nat → Int64) → (Nat → Nat → Int64)) (q32 : Int32 → Int32 → Int32 → Int32 → Int32 → (Nat → Nat → Int32) → (Nat → Nat → Int64) → Prop) (ih32 : ∀ (y1 : Int32) (y2 : Int32) (y3 : Int32) (y4 : Int32) (y5 : Int32) (I : Nat → Nat → Int32) (J : Nat → Nat → Int64), q32 y1 y2 y3 y4 y5 I J → o = .returned none → Z = (pk_K ++ ex, R, I, (r32 y1 y2 y3 y4 y5 I J)) → pmE g kVa_fillRow (d + 2) 0 0 32 [(0, .ref 22), (1, .int y1), (2, .int y2), (3, .int y3), (4, .int y4), (5, .int y5)] [] (pk_K ++ ex) R I J o Z)  : ∀ (n : Nat) (y1 : Int32) (y2 : Int32) (y3 : Int32) (y4 : Int32) (y5 : Int32) (y6 : Int64) (y8 : Int32) (I : Nat → Nat → Int32) (J : Nat → Nat → Int64), pVa_fillRow_48 q32 n y1 y2 y3 y4 y5 y6 y8 I J → o = .returned none → Z = (pk_K ++ ex, R, I, (fVa_fillRow_48 r32 n y1 y2 y3 y4 y5 y6 y8 I J)) → pmE g kVa_fillRow (d + 2) 0 0 48 [(0, .ref 22), (1, .int y1), (2, .int y2), (3, .int y3), (4, .int y4), (5, .int y5), (6, .long y6), (8, .int y8)] [] (pk_K ++ ex) R I J o Z := by
  intro n
  induction n with
  | zero => intro y1 y2 y3 y4 y5 y6 y8 I J hp; exact False.elim hp
  | succ n ih =>
  intro y1 y2 y3 y4 y5 y6 y8 I J hp ho hz
  simp only [pVa_fillRow_48] at hp
  refine pm_iload dVa_fillRow_48 rfl ?_
  refine pm_if_lt 81 dVa_fillRow_50 (by decide) (fun h50 => ?_) (fun h50 => ?_)
  ·
    refine pm_aload_n dVa_fillRow_81 rfl ?_
    refine pm_getr dVa_fillRow_82 fVa_12 rfl (rr_22_1 hR) ?_
    refine pm_iload_n dVa_fillRow_85 rfl ?_
    refine pm_iload dVa_fillRow_86 rfl ?_
    refine pm_iadd dVa_fillRow_88 ?_
    refine pm_lload dVa_fillRow_89 rfl ?_
    refine pm_last dVa_fillRow_91 rfl (hp.1 h50).1 ?_
    refine pm_iinc dVa_fillRow_92 rfl (by decide) rfl ?_
    refine pm_goto 32 dVa_fillRow_95 (by decide) ?_
    refine pm_wk [1, 2, 3, 4, 5, 0] rfl ?_
    exact ih32 _ _ _ _ _ _ _ (hp.1 h50).2 ho (hz.trans (by first | (simp only [fVa_fillRow_48, if_pos h50]; done) | (simp only [fVa_fillRow_48, if_pos h50]; rfl) | rfl))
  ·
    refine pm_lload dVa_fillRow_53 rfl ?_
    refine pm_bipush (v := 8) dVa_fillRow_55 (by decide) ?_
    refine pm_lshl dVa_fillRow_57 ?_
    refine pm_iload dVa_fillRow_58 rfl ?_
    refine pm_bipush (v := 8) dVa_fillRow_60 (by decide) ?_
    refine pm_imul dVa_fillRow_62 ?_
    refine pm_iload dVa_fillRow_63 rfl ?_
    refine pm_iadd dVa_fillRow_65 ?_
    refine pm_iload_n dVa_fillRow_66 rfl ?_
    refine pm_ishr dVa_fillRow_67 ?_
    refine pm_iload dVa_fillRow_68 rfl ?_
    refine pm_iand dVa_fillRow_70 ?_
    refine pm_i2l dVa_fillRow_71 ?_
    refine pm_lor dVa_fillRow_72 ?_
    refine pm_lstore dVa_fillRow_73 (by decide) rfl ?_
    refine pm_iinc dVa_fillRow_75 rfl (by decide) rfl ?_
    refine pm_goto 48 dVa_fillRow_78 (by decide) ?_
    refine pm_wk [2, 3, 4, 5, 6, 7, 1, 0] rfl ?_
    exact ih _ _ _ _ _ _ _ _ _ (hp.2 h50) ho (hz.trans (by first | (simp only [fVa_fillRow_48, if_neg h50]; done) | (simp only [fVa_fillRow_48, if_neg h50]; rfl) | rfl))
set_option maxHeartbeats 4000000 in
set_option maxRecDepth 100000 in
theorem Va_fillRow_n32 (g : pmG) (d : Nat) (ex : List (Nat × Nat)) (R : Nat → Nat → Value) (hR : pk_R R) (o : Outcome) (Z : pmM) (n48 : Nat) : ∀ (n : Nat) (y1 : Int32) (y2 : Int32) (y3 : Int32) (y4 : Int32) (y5 : Int32) (I : Nat → Nat → Int32) (J : Nat → Nat → Int64), pVa_fillRow_32 n48 n y1 y2 y3 y4 y5 I J → o = .returned none → Z = (pk_K ++ ex, R, I, (fVa_fillRow_32 n48 n y1 y2 y3 y4 y5 I J)) → pmE g kVa_fillRow (d + 2) 0 0 32 [(0, .ref 22), (1, .int y1), (2, .int y2), (3, .int y3), (4, .int y4), (5, .int y5)] [] (pk_K ++ ex) R I J o Z := by
  intro n
  induction n with
  | zero => intro y1 y2 y3 y4 y5 I J hp; exact False.elim hp
  | succ n ih =>
  intro y1 y2 y3 y4 y5 I J hp ho hz
  simp only [pVa_fillRow_32] at hp
  refine pm_iload dVa_fillRow_32 rfl ?_
  refine pm_aload_n dVa_fillRow_34 rfl ?_
  refine pm_geti dVa_fillRow_35 fVa_36 rfl ?_
  refine pm_icmp_ge 98 dVa_fillRow_38 (by decide) (fun h38 => ?_) (fun h38 => ?_)
  ·
    exact pm_vret dVa_fillRow_98 rfl ho (hz.trans (by first | (simp only [fVa_fillRow_32, if_pos h38]; done) | (simp only [fVa_fillRow_32, if_pos h38]; rfl) | rfl))
  ·
    refine pm_lconst (v := 0) dVa_fillRow_41 (by decide) ?_
    refine pm_lstore dVa_fillRow_42 (by decide) rfl ?_
    refine pm_bipush (v := 7) dVa_fillRow_44 (by decide) ?_
    refine pm_istore dVa_fillRow_46 (by decide) rfl ?_
    refine pm_wk [2, 3, 4, 5, 6, 7, 1, 0] rfl ?_
    exact Va_fillRow_n48 g d ex R hR _ _ (fVa_fillRow_32 n48 n) (pVa_fillRow_32 n48 n) ih n48 _ _ _ _ _ _ _ _ _ (hp.2 h38) ho (hz.trans (by first | (simp only [fVa_fillRow_32, if_neg h38]; done) | (simp only [fVa_fillRow_32, if_neg h38]; rfl) | rfl))
set_option maxHeartbeats 4000000 in
set_option maxRecDepth 100000 in
theorem Va_fillRow_n0 (g : pmG) (d : Nat) (ex : List (Nat × Nat)) (R : Nat → Nat → Value) (hR : pk_R R) (o : Outcome) (Z : pmM) (n48 : Nat) (n32 : Nat) (y1 : Int32) (I : Nat → Nat → Int32) (J : Nat → Nat → Int64) (hp : pVa_fillRow n48 n32 y1 I J) (ho : o = .returned none) (hz : Z = (pk_K ++ ex, R, I, (fVa_fillRow n48 n32 y1 I J))) : pmE g kVa_fillRow (d + 2) 0 0 0 [(0, .ref 22), (1, .int y1)] [] (pk_K ++ ex) R I J o Z := by
  unfold pVa_fillRow at hp
  refine pm_iload_n dVa_fillRow_0 rfl ?_
  refine pm_callS dVa_fillRow_1 lVa_49 tVa_rowOfName (Va_rowOfName_ok _ _ _ _ _ _ _ hp.1) rfl rfl (Nat.le_of_ble_eq_true rfl) (Nat.le_refl _) (Nat.le_refl _) ?_
  refine pm_istore_n dVa_fillRow_4 (by decide) rfl ?_
  refine pm_aload_n dVa_fillRow_5 rfl ?_
  refine pm_getr dVa_fillRow_6 fVa_20 rfl (rr_22_0 hR) ?_
  refine pm_iload_n dVa_fillRow_9 rfl ?_
  refine pm_callV dVa_fillRow_10 lVa_53 vCi_bitsBehind ⟨_, _, rfl⟩ (Ci_bitsBehind_ok _ _ _ _ hR _ _ _ hp.2.1) rfl rfl rfl (Nat.le_of_ble_eq_true rfl) (Nat.le_refl _) (Nat.le_refl _) ?_
  refine pm_istore_n dVa_fillRow_13 (by decide) rfl ?_
  refine pm_iconst (v := 1) dVa_fillRow_14 (by decide) ?_
  refine pm_aload_n dVa_fillRow_15 rfl ?_
  refine pm_getr dVa_fillRow_16 fVa_20 rfl (rr_22_0 hR) ?_
  refine pm_getr dVa_fillRow_19 fVa_56 rfl (rr_3_1 hR) ?_
  refine pm_iload_n dVa_fillRow_22 rfl ?_
  refine pm_iald dVa_fillRow_23 rfl hp.2.2.1 ?_
  refine pm_ishl dVa_fillRow_24 ?_
  refine pm_iconst (v := 1) dVa_fillRow_25 (by decide) ?_
  refine pm_isub dVa_fillRow_26 ?_
  refine pm_istore dVa_fillRow_27 (by decide) rfl ?_
  refine pm_iconst (v := 0) dVa_fillRow_29 (by decide) ?_
  refine pm_istore dVa_fillRow_30 (by decide) rfl ?_
  refine pm_wk [4, 5, 3, 2, 1, 0] rfl ?_
  exact Va_fillRow_n32 g d ex R hR _ _  n48 n32 _ _ _ _ _ _ _ hp.2.2.2 ho (hz.trans (by first | rfl | (simp only [fVa_fillRow]; done) | (simp only [fVa_fillRow]; rfl)))
set_option maxHeartbeats 4000000 in
set_option maxRecDepth 100000 in
theorem Va_fillRow_ok (g : pmG) (d : Nat) (ex : List (Nat × Nat)) (R : Nat → Nat → Value) (hR : pk_R R) (n48 : Nat) (n32 : Nat) (x0 : Int32) (I : Nat → Nat → Int32) (J : Nat → Nat → Int64) (hp : pVa_fillRow n48 n32 x0 I J) : pmC g kVa_fillRow (d + 2) 0 0 [.ref 22, .int x0] (pk_K ++ ex, R, I, J) (.returned none) (pk_K ++ ex, R, I, (fVa_fillRow n48 n32 x0 I J)) :=
  pmC.of (by decide) (Nat.le_of_ble_eq_true rfl) (Va_fillRow_n0 g d ex R hR _ _ n48 n32 x0 I J hp rfl rfl)
def fVa_begin_85 (r41 : Int32 → Int32 → (Nat → Nat → Int32) → (Nat → Nat → Int64) → (Nat → Nat → Int32) × (Nat → Nat → Int64)) (y1 : Int32) (y2 : Int32) (I : Nat → Nat → Int32) (J : Nat → Nat → Int64) : (Nat → Nat → Int32) × (Nat → Nat → Int64) :=
  r41 y1 (y2 + Int32.ofInt 1) I J
def pVa_begin_85 (q41 : Int32 → Int32 → (Nat → Nat → Int32) → (Nat → Nat → Int64) → Prop) (y1 : Int32) (y2 : Int32) (I : Nat → Nat → Int32) (J : Nat → Nat → Int64) : Prop :=
  q41 y1 (y2 + Int32.ofInt 1) I J
def fVa_begin_80 (r41 : Int32 → Int32 → (Nat → Nat → Int32) → (Nat → Nat → Int64) → (Nat → Nat → Int32) × (Nat → Nat → Int64)) (y1 : Int32) (y2 : Int32) (I : Nat → Nat → Int32) (J : Nat → Nat → Int64) : (Nat → Nat → Int32) × (Nat → Nat → Int64) :=
  fVa_begin_85 r41 y1 y2 I ((fVa_fillRow 9 257 y2 I J))
def pVa_begin_80 (q41 : Int32 → Int32 → (Nat → Nat → Int32) → (Nat → Nat → Int64) → Prop) (y1 : Int32) (y2 : Int32) (I : Nat → Nat → Int32) (J : Nat → Nat → Int64) : Prop :=
  (pVa_fillRow 9 257 y2 I J) ∧ (pVa_begin_85 q41 y1 y2 I ((fVa_fillRow 9 257 y2 I J)))
def fVa_begin_41  : Nat → Int32 → Int32 → (Nat → Nat → Int32) → (Nat → Nat → Int64) → (Nat → Nat → Int32) × (Nat → Nat → Int64)
  | 0, _, _, I, J => (I, J)
  | n + 1, y1, y2, I, J =>
  if (I 3 5) ≤ y2 then (I, J)
  else if (I 4 y2.toNatClampNeg) = (29 : Int32) then fVa_begin_80 (fVa_begin_41 n) y1 y2 I J
    else if (I 4 y2.toNatClampNeg) = (30 : Int32) then fVa_begin_80 (fVa_begin_41 n) y1 y2 I J
      else fVa_begin_85 (fVa_begin_41 n) y1 y2 I J
def pVa_begin_41  : Nat → Int32 → Int32 → (Nat → Nat → Int32) → (Nat → Nat → Int64) → Prop
  | 0, _, _, _, _ => False
  | n + 1, y1, y2, I, J =>
  ((I 3 5) ≤ y2 → True) ∧
  (¬ ((I 3 5) ≤ y2) → (vp_in y2 60) ∧ (((I 4 y2.toNatClampNeg) = (29 : Int32) → pVa_begin_80 (pVa_begin_41 n) y1 y2 I J) ∧
    (¬ ((I 4 y2.toNatClampNeg) = (29 : Int32)) → (vp_in y2 60) ∧ (((I 4 y2.toNatClampNeg) = (30 : Int32) → pVa_begin_80 (pVa_begin_41 n) y1 y2 I J) ∧
      (¬ ((I 4 y2.toNatClampNeg) = (30 : Int32)) → pVa_begin_85 (pVa_begin_41 n) y1 y2 I J)))))
def fVa_begin_36 (n41 : Nat) (y1 : Int32) (z1 : Int32) (I : Nat → Nat → Int32) (J : Nat → Nat → Int64) : (Nat → Nat → Int32) × (Nat → Nat → Int64) :=
  fVa_begin_41 n41 y1 (0 : Int32) (pm_u I 22 4 z1) J
def pVa_begin_36 (n41 : Nat) (y1 : Int32) (z1 : Int32) (I : Nat → Nat → Int32) (J : Nat → Nat → Int64) : Prop :=
  pVa_begin_41 n41 y1 (0 : Int32) (pm_u I 22 4 z1) J
def fVa_begin (n41 : Nat) (I : Nat → Nat → Int32) (J : Nat → Nat → Int64) : (Nat → Nat → Int32) × (Nat → Nat → Int64) :=
  if ((I 3 7) + (I 3 8)) ≤ (3 : Int32) then fVa_begin_36 n41 ((I 3 7) + (I 3 8)) (1 : Int32) (pm_u I 22 3 (0 : Int32)) J
  else fVa_begin_36 n41 ((I 3 7) + (I 3 8)) ((1 : Int32) <<< ((((I 3 7) + (I 3 8)) - (3 : Int32)) &&& 31)) (pm_u I 22 3 (0 : Int32)) J
def pVa_begin (n41 : Nat) (I : Nat → Nat → Int32) (J : Nat → Nat → Int64) : Prop :=
  (((I 3 7) + (I 3 8)) ≤ (3 : Int32) → pVa_begin_36 n41 ((I 3 7) + (I 3 8)) (1 : Int32) (pm_u I 22 3 (0 : Int32)) J) ∧
  (¬ (((I 3 7) + (I 3 8)) ≤ (3 : Int32)) → pVa_begin_36 n41 ((I 3 7) + (I 3 8)) ((1 : Int32) <<< ((((I 3 7) + (I 3 8)) - (3 : Int32)) &&& 31)) (pm_u I 22 3 (0 : Int32)) J)
set_option maxHeartbeats 4000000 in
set_option maxRecDepth 100000 in
theorem Va_begin_n85 (g : pmG) (d : Nat) (ex : List (Nat × Nat)) (R : Nat → Nat → Value) (hR : pk_R R) (o : Outcome) (Z : pmM) (r41 : Int32 → Int32 → (Nat → Nat → Int32) → (Nat → Nat → Int64) → (Nat → Nat → Int32) × (Nat → Nat → Int64)) (q41 : Int32 → Int32 → (Nat → Nat → Int32) → (Nat → Nat → Int64) → Prop) (ih41 : ∀ (y1 : Int32) (y2 : Int32) (I : Nat → Nat → Int32) (J : Nat → Nat → Int64), q41 y1 y2 I J → o = .returned none → Z = (pk_K ++ ex, R, (r41 y1 y2 I J).1, (r41 y1 y2 I J).2) → pmE g kVa_begin (d + 3) 0 0 41 [(0, .ref 22), (1, .int y1), (2, .int y2)] [] (pk_K ++ ex) R I J o Z)  (y1 : Int32) (y2 : Int32) (I : Nat → Nat → Int32) (J : Nat → Nat → Int64) (hp : pVa_begin_85 q41 y1 y2 I J) (ho : o = .returned none) (hz : Z = (pk_K ++ ex, R, (fVa_begin_85 r41 y1 y2 I J).1, (fVa_begin_85 r41 y1 y2 I J).2)) : pmE g kVa_begin (d + 3) 0 0 85 [(0, .ref 22), (1, .int y1), (2, .int y2)] [] (pk_K ++ ex) R I J o Z := by
  unfold pVa_begin_85 at hp
  refine pm_iinc dVa_begin_85 rfl (by decide) rfl ?_
  refine pm_goto 41 dVa_begin_88 (by decide) ?_
  refine pm_wk [1, 2, 0] rfl ?_
  exact ih41 _ _ _ _ hp ho (hz.trans (by first | rfl | (simp only [fVa_begin_85]; done) | (simp only [fVa_begin_85]; rfl)))
set_option maxHeartbeats 4000000 in
set_option maxRecDepth 100000 in
theorem Va_begin_n80 (g : pmG) (d : Nat) (ex : List (Nat × Nat)) (R : Nat → Nat → Value) (hR : pk_R R) (o : Outcome) (Z : pmM) (r41 : Int32 → Int32 → (Nat → Nat → Int32) → (Nat → Nat → Int64) → (Nat → Nat → Int32) × (Nat → Nat → Int64)) (q41 : Int32 → Int32 → (Nat → Nat → Int32) → (Nat → Nat → Int64) → Prop) (ih41 : ∀ (y1 : Int32) (y2 : Int32) (I : Nat → Nat → Int32) (J : Nat → Nat → Int64), q41 y1 y2 I J → o = .returned none → Z = (pk_K ++ ex, R, (r41 y1 y2 I J).1, (r41 y1 y2 I J).2) → pmE g kVa_begin (d + 3) 0 0 41 [(0, .ref 22), (1, .int y1), (2, .int y2)] [] (pk_K ++ ex) R I J o Z)  (y1 : Int32) (y2 : Int32) (I : Nat → Nat → Int32) (J : Nat → Nat → Int64) (hp : pVa_begin_80 q41 y1 y2 I J) (ho : o = .returned none) (hz : Z = (pk_K ++ ex, R, (fVa_begin_80 r41 y1 y2 I J).1, (fVa_begin_80 r41 y1 y2 I J).2)) : pmE g kVa_begin (d + 3) 0 0 80 [(0, .ref 22), (1, .int y1), (2, .int y2)] [] (pk_K ++ ex) R I J o Z := by
  unfold pVa_begin_80 at hp
  refine pm_aload_n dVa_begin_80 rfl ?_
  refine pm_iload_n dVa_begin_81 rfl ?_
  refine pm_callV dVa_begin_82 lVa_45 vVa_fillRow ⟨_, _, rfl⟩ (Va_fillRow_ok _ _ _ _ hR _ _ _ _ _ hp.1) rfl rfl rfl (Nat.le_of_ble_eq_true rfl) (Nat.le_refl _) (Nat.le_refl _) ?_
  refine pm_wk [0, 1, 2] rfl ?_
  exact Va_begin_n85 g d ex R hR _ _ r41 q41 ih41  _ _ _ _ hp.2 ho (hz.trans (by first | rfl | (simp only [fVa_begin_80]; done) | (simp only [fVa_begin_80]; rfl)))
set_option maxHeartbeats 4000000 in
set_option maxRecDepth 100000 in
theorem Va_begin_n41 (g : pmG) (d : Nat) (ex : List (Nat × Nat)) (R : Nat → Nat → Value) (hR : pk_R R) (o : Outcome) (Z : pmM)  : ∀ (n : Nat) (y1 : Int32) (y2 : Int32) (I : Nat → Nat → Int32) (J : Nat → Nat → Int64), pVa_begin_41 n y1 y2 I J → o = .returned none → Z = (pk_K ++ ex, R, (fVa_begin_41 n y1 y2 I J).1, (fVa_begin_41 n y1 y2 I J).2) → pmE g kVa_begin (d + 3) 0 0 41 [(0, .ref 22), (1, .int y1), (2, .int y2)] [] (pk_K ++ ex) R I J o Z := by
  intro n
  induction n with
  | zero => intro y1 y2 I J hp; exact False.elim hp
  | succ n ih =>
  intro y1 y2 I J hp ho hz
  simp only [pVa_begin_41] at hp
  refine pm_iload_n dVa_begin_41 rfl ?_
  refine pm_aload_n dVa_begin_42 rfl ?_
  refine pm_getr dVa_begin_43 fVa_20 rfl (rr_22_0 hR) ?_
  refine pm_geti dVa_begin_46 fVa_39 rfl ?_
  refine pm_icmp_ge 91 dVa_begin_49 (by decide) (fun h49 => ?_) (fun h49 => ?_)
  ·
    exact pm_vret dVa_begin_91 rfl ho (hz.trans (by first | (simp only [fVa_begin_41, if_pos h49]; done) | (simp only [fVa_begin_41, if_pos h49]; rfl) | rfl))
  ·
    refine pm_aload_n dVa_begin_52 rfl ?_
    refine pm_getr dVa_begin_53 fVa_20 rfl (rr_22_0 hR) ?_
    refine pm_getr dVa_begin_56 fVa_42 rfl (rr_3_0 hR) ?_
    refine pm_iload_n dVa_begin_59 rfl ?_
    refine pm_iald dVa_begin_60 rfl (hp.2 h49).1 ?_
    refine pm_bipush (v := 29) dVa_begin_61 (by decide) ?_
    refine pm_icmp_eq 80 dVa_begin_63 (by decide) (fun h63 => ?_) (fun h63 => ?_)
    ·
      refine pm_wk [0, 1, 2] rfl ?_
      exact Va_begin_n80 g d ex R hR _ _ (fVa_begin_41 n) (pVa_begin_41 n) ih  _ _ _ _ ((hp.2 h49).2.1 h63) ho (hz.trans (by first | (simp only [fVa_begin_41, if_neg h49, if_pos h63]; done) | (simp only [fVa_begin_41, if_neg h49, if_pos h63]; rfl) | rfl))
    ·
      refine pm_aload_n dVa_begin_66 rfl ?_
      refine pm_getr dVa_begin_67 fVa_20 rfl (rr_22_0 hR) ?_
      refine pm_getr dVa_begin_70 fVa_42 rfl (rr_3_0 hR) ?_
      refine pm_iload_n dVa_begin_73 rfl ?_
      refine pm_iald dVa_begin_74 rfl ((hp.2 h49).2.2 h63).1 ?_
      refine pm_bipush (v := 30) dVa_begin_75 (by decide) ?_
      refine pm_icmp_ne 85 dVa_begin_77 (by decide) (fun h77 => ?_) (fun h77 => ?_)
      ·
        refine pm_wk [0, 1, 2] rfl ?_
        exact Va_begin_n85 g d ex R hR _ _ (fVa_begin_41 n) (pVa_begin_41 n) ih  _ _ _ _ (((hp.2 h49).2.2 h63).2.2 h77) ho (hz.trans (by first | (simp only [fVa_begin_41, if_neg h49, if_neg h63, if_neg h77]; done) | (simp only [fVa_begin_41, if_neg h49, if_neg h63, if_neg h77]; rfl) | rfl))
      ·
        refine pm_wk [0, 1, 2] rfl ?_
        exact Va_begin_n80 g d ex R hR _ _ (fVa_begin_41 n) (pVa_begin_41 n) ih  _ _ _ _ (((hp.2 h49).2.2 h63).2.1 h77) ho (hz.trans (by first | (simp only [fVa_begin_41, if_neg h49, if_neg h63, if_pos h77]; done) | (simp only [fVa_begin_41, if_neg h49, if_neg h63, if_pos h77]; rfl) | rfl))
set_option maxHeartbeats 4000000 in
set_option maxRecDepth 100000 in
theorem Va_begin_n36 (g : pmG) (d : Nat) (ex : List (Nat × Nat)) (R : Nat → Nat → Value) (hR : pk_R R) (o : Outcome) (Z : pmM) (n41 : Nat) (y1 : Int32) (z1 : Int32) (I : Nat → Nat → Int32) (J : Nat → Nat → Int64) (hp : pVa_begin_36 n41 y1 z1 I J) (ho : o = .returned none) (hz : Z = (pk_K ++ ex, R, (fVa_begin_36 n41 y1 z1 I J).1, (fVa_begin_36 n41 y1 z1 I J).2)) : pmE g kVa_begin (d + 3) 0 0 36 [(0, .ref 22), (1, .int y1)] [.int z1, .ref 22] (pk_K ++ ex) R I J o Z := by
  unfold pVa_begin_36 at hp
  refine pm_puti dVa_begin_36 fVa_36 sVa_36 (fun h => by cases h) rfl rfl rfl ?_
  refine pm_iconst (v := 0) dVa_begin_39 (by decide) ?_
  refine pm_istore_n dVa_begin_40 (by decide) rfl ?_
  refine pm_wk [1, 2, 0] rfl ?_
  exact Va_begin_n41 g d ex R hR _ _  n41 _ _ _ _ hp ho (hz.trans (by first | rfl | (simp only [fVa_begin_36]; done) | (simp only [fVa_begin_36]; rfl)))
set_option maxHeartbeats 4000000 in
set_option maxRecDepth 100000 in
theorem Va_begin_n0 (g : pmG) (d : Nat) (ex : List (Nat × Nat)) (R : Nat → Nat → Value) (hR : pk_R R) (o : Outcome) (Z : pmM) (n41 : Nat) (I : Nat → Nat → Int32) (J : Nat → Nat → Int64) (hp : pVa_begin n41 I J) (ho : o = .returned none) (hz : Z = (pk_K ++ ex, R, (fVa_begin n41 I J).1, (fVa_begin n41 I J).2)) : pmE g kVa_begin (d + 3) 0 0 0 [(0, .ref 22)] [] (pk_K ++ ex) R I J o Z := by
  unfold pVa_begin at hp
  refine pm_aload_n dVa_begin_0 rfl ?_
  refine pm_iconst (v := 0) dVa_begin_1 (by decide) ?_
  refine pm_puti dVa_begin_2 fVa_24 sVa_24 (fun h => by cases h) rfl rfl rfl ?_
  refine pm_aload_n dVa_begin_5 rfl ?_
  refine pm_getr dVa_begin_6 fVa_20 rfl (rr_22_0 hR) ?_
  refine pm_geti dVa_begin_9 fVa_28 rfl ?_
  refine pm_eqi (I 3 7) rfl ?_
  refine pm_aload_n dVa_begin_12 rfl ?_
  refine pm_getr dVa_begin_13 fVa_20 rfl (rr_22_0 hR) ?_
  refine pm_geti dVa_begin_16 fVa_33 rfl ?_
  refine pm_eqi (I 3 8) rfl ?_
  refine pm_iadd dVa_begin_19 ?_
  refine pm_istore_n dVa_begin_20 (by decide) rfl ?_
  refine pm_aload_n dVa_begin_21 rfl ?_
  refine pm_iload_n dVa_begin_22 rfl ?_
  refine pm_iconst (v := 3) dVa_begin_23 (by decide) ?_
  refine pm_icmp_le 35 dVa_begin_24 (by decide) (fun h24 => ?_) (fun h24 => ?_)
  ·
    refine pm_iconst (v := 1) dVa_begin_35 (by decide) ?_
    refine pm_wk [1, 0] rfl ?_
    exact Va_begin_n36 g d ex R hR _ _  n41 _ _ _ _ (hp.1 h24) ho (hz.trans (by first | (simp only [fVa_begin, if_pos h24]; done) | (simp only [fVa_begin, if_pos h24]; rfl) | rfl))
  ·
    refine pm_iconst (v := 1) dVa_begin_27 (by decide) ?_
    refine pm_iload_n dVa_begin_28 rfl ?_
    refine pm_iconst (v := 3) dVa_begin_29 (by decide) ?_
    refine pm_isub dVa_begin_30 ?_
    refine pm_ishl dVa_begin_31 ?_
    refine pm_goto 36 dVa_begin_32 (by decide) ?_
    refine pm_wk [1, 0] rfl ?_
    exact Va_begin_n36 g d ex R hR _ _  n41 _ _ _ _ (hp.2 h24) ho (hz.trans (by first | (simp only [fVa_begin, if_neg h24]; done) | (simp only [fVa_begin, if_neg h24]; rfl) | rfl))
set_option maxHeartbeats 4000000 in
set_option maxRecDepth 100000 in
theorem Va_begin_ok (g : pmG) (d : Nat) (ex : List (Nat × Nat)) (R : Nat → Nat → Value) (hR : pk_R R) (n41 : Nat)  (I : Nat → Nat → Int32) (J : Nat → Nat → Int64) (hp : pVa_begin n41 I J) : pmC g kVa_begin (d + 3) 0 0 [.ref 22] (pk_K ++ ex, R, I, J) (.returned none) (pk_K ++ ex, R, (fVa_begin n41 I J).1, (fVa_begin n41 I J).2) :=
  pmC.of (by decide) (Nat.le_of_ble_eq_true rfl) (Va_begin_n0 g d ex R hR _ _ n41  I J hp rfl rfl)
def fVa_pushNumber_26  : Nat → Int32 → Int32 → Int64 → Int32 → (Nat → Nat → Int32) → (Nat → Nat → Int64) → (Nat → Nat → Int32) × (Nat → Nat → Int64)
  | 0, _, _, _, _, I, J => (I, J)
  | n + 1, y1, y2, y3, y5, I, J =>
  if (I 22 4) ≤ y5 then ((fVa_push y2 I J), J)
  else fVa_pushNumber_26 n y1 y2 y3 (y5 + Int32.ofInt 1) I (pm_u J 23 (y2 + y5).toNatClampNeg y3)
def pVa_pushNumber_26  : Nat → Int32 → Int32 → Int64 → Int32 → (Nat → Nat → Int32) → (Nat → Nat → Int64) → Prop
  | 0, _, _, _, _, _, _ => False
  | n + 1, y1, y2, y3, y5, I, J =>
  ((I 22 4) ≤ y5 → (pVa_push y2 I J) ∧ True) ∧
  (¬ ((I 22 4) ≤ y5) → (vp_in (y2 + y5) 51200) ∧ (pVa_pushNumber_26 n y1 y2 y3 (y5 + Int32.ofInt 1) I (pm_u J 23 (y2 + y5).toNatClampNeg y3)))
def fVa_pushNumber (n26 : Nat) (y1 : Int32) (I : Nat → Nat → Int32) (J : Nat → Nat → Int64) : (Nat → Nat → Int32) × (Nat → Nat → Int64) :=
  if (140 : Int32) ≤ (I 22 3) then (I, J)
  else fVa_pushNumber_26 n26 y1 ((fVa_rowOfPlace (I 22 3))) ((fLa_all y1)) (0 : Int32) I J
def pVa_pushNumber (n26 : Nat) (y1 : Int32) (I : Nat → Nat → Int32) (J : Nat → Nat → Int64) : Prop :=
  ((140 : Int32) ≤ (I 22 3) → True) ∧
  (¬ ((140 : Int32) ≤ (I 22 3)) → (pVa_rowOfPlace (I 22 3)) ∧ ((pLa_all y1) ∧ (pVa_pushNumber_26 n26 y1 ((fVa_rowOfPlace (I 22 3))) ((fLa_all y1)) (0 : Int32) I J)))
set_option maxHeartbeats 4000000 in
set_option maxRecDepth 100000 in
theorem Va_pushNumber_n26 (g : pmG) (d : Nat) (ex : List (Nat × Nat)) (R : Nat → Nat → Value) (hR : pk_R R) (o : Outcome) (Z : pmM)  : ∀ (n : Nat) (y1 : Int32) (y2 : Int32) (y3 : Int64) (y5 : Int32) (I : Nat → Nat → Int32) (J : Nat → Nat → Int64), pVa_pushNumber_26 n y1 y2 y3 y5 I J → o = .returned none → Z = (pk_K ++ ex, R, (fVa_pushNumber_26 n y1 y2 y3 y5 I J).1, (fVa_pushNumber_26 n y1 y2 y3 y5 I J).2) → pmE g kVa_pushNumber (d + 1) 0 0 26 [(0, .ref 22), (1, .int y1), (2, .int y2), (3, .long y3), (5, .int y5)] [] (pk_K ++ ex) R I J o Z := by
  intro n
  induction n with
  | zero => intro y1 y2 y3 y5 I J hp; exact False.elim hp
  | succ n ih =>
  intro y1 y2 y3 y5 I J hp ho hz
  simp only [pVa_pushNumber_26] at hp
  refine pm_iload dVa_pushNumber_26 rfl ?_
  refine pm_aload_n dVa_pushNumber_28 rfl ?_
  refine pm_geti dVa_pushNumber_29 fVa_36 rfl ?_
  refine pm_icmp_ge 51 dVa_pushNumber_32 (by decide) (fun h32 => ?_) (fun h32 => ?_)
  ·
    refine pm_aload_n dVa_pushNumber_51 rfl ?_
    refine pm_iload_n dVa_pushNumber_52 rfl ?_
    refine pm_callV dVa_pushNumber_53 lVa_62 vVa_push ⟨_, _, rfl⟩ (Va_push_ok _ _ _ _ hR _ _ _ (hp.1 h32).1) rfl rfl rfl (Nat.le_of_ble_eq_true rfl) (Nat.le_refl _) (Nat.le_refl _) ?_
    exact pm_vret dVa_pushNumber_56 rfl ho (hz.trans (by first | (simp only [fVa_pushNumber_26, if_pos h32]; done) | (simp only [fVa_pushNumber_26, if_pos h32]; rfl) | rfl))
  ·
    refine pm_aload_n dVa_pushNumber_35 rfl ?_
    refine pm_getr dVa_pushNumber_36 fVa_12 rfl (rr_22_1 hR) ?_
    refine pm_iload_n dVa_pushNumber_39 rfl ?_
    refine pm_iload dVa_pushNumber_40 rfl ?_
    refine pm_iadd dVa_pushNumber_42 ?_
    refine pm_lload_n dVa_pushNumber_43 rfl ?_
    refine pm_last dVa_pushNumber_44 rfl (hp.2 h32).1 ?_
    refine pm_iinc dVa_pushNumber_45 rfl (by decide) rfl ?_
    refine pm_goto 26 dVa_pushNumber_48 (by decide) ?_
    refine pm_wk [1, 2, 3, 4, 0] rfl ?_
    exact ih _ _ _ _ _ _ (hp.2 h32).2 ho (hz.trans (by first | (simp only [fVa_pushNumber_26, if_neg h32]; done) | (simp only [fVa_pushNumber_26, if_neg h32]; rfl) | rfl))
set_option maxHeartbeats 4000000 in
set_option maxRecDepth 100000 in
theorem Va_pushNumber_n0 (g : pmG) (d : Nat) (ex : List (Nat × Nat)) (R : Nat → Nat → Value) (hR : pk_R R) (o : Outcome) (Z : pmM) (n26 : Nat) (y1 : Int32) (I : Nat → Nat → Int32) (J : Nat → Nat → Int64) (hp : pVa_pushNumber n26 y1 I J) (ho : o = .returned none) (hz : Z = (pk_K ++ ex, R, (fVa_pushNumber n26 y1 I J).1, (fVa_pushNumber n26 y1 I J).2)) : pmE g kVa_pushNumber (d + 1) 0 0 0 [(0, .ref 22), (1, .int y1)] [] (pk_K ++ ex) R I J o Z := by
  unfold pVa_pushNumber at hp
  refine pm_aload_n dVa_pushNumber_0 rfl ?_
  refine pm_geti dVa_pushNumber_1 fVa_24 rfl ?_
  refine pm_sipush (v := 140) dVa_pushNumber_4 (by decide) ?_
  refine pm_icmp_ge 56 dVa_pushNumber_7 (by decide) (fun h7 => ?_) (fun h7 => ?_)
  ·
    exact pm_vret dVa_pushNumber_56 rfl ho (hz.trans (by first | (simp only [fVa_pushNumber, if_pos h7]; done) | (simp only [fVa_pushNumber, if_pos h7]; rfl) | rfl))
  ·
    refine pm_aload_n dVa_pushNumber_10 rfl ?_
    refine pm_geti dVa_pushNumber_11 fVa_24 rfl ?_
    refine pm_callS dVa_pushNumber_14 lVa_81 tVa_rowOfPlace (Va_rowOfPlace_ok _ _ _ _ _ _ _ (hp.2 h7).1) rfl rfl (Nat.le_of_ble_eq_true rfl) (Nat.le_refl _) (Nat.le_refl _) ?_
    refine pm_istore_n dVa_pushNumber_17 (by decide) rfl ?_
    refine pm_iload_n dVa_pushNumber_18 rfl ?_
    refine pm_callS dVa_pushNumber_19 lVa_84 tLa_all (La_all_ok _ _ _ _ _ _ _ (hp.2 h7).2.1) rfl rfl (Nat.le_of_ble_eq_true rfl) (Nat.le_refl _) (Nat.le_refl _) ?_
    refine pm_lstore_n dVa_pushNumber_22 (by decide) rfl ?_
    refine pm_iconst (v := 0) dVa_pushNumber_23 (by decide) ?_
    refine pm_istore dVa_pushNumber_24 (by decide) rfl ?_
    refine pm_wk [3, 4, 2, 1, 0] rfl ?_
    exact Va_pushNumber_n26 g d ex R hR _ _  n26 _ _ _ _ _ _ (hp.2 h7).2.2 ho (hz.trans (by first | (simp only [fVa_pushNumber, if_neg h7]; done) | (simp only [fVa_pushNumber, if_neg h7]; rfl) | rfl))
set_option maxHeartbeats 4000000 in
set_option maxRecDepth 100000 in
theorem Va_pushNumber_ok (g : pmG) (d : Nat) (ex : List (Nat × Nat)) (R : Nat → Nat → Value) (hR : pk_R R) (n26 : Nat) (x0 : Int32) (I : Nat → Nat → Int32) (J : Nat → Nat → Int64) (hp : pVa_pushNumber n26 x0 I J) : pmC g kVa_pushNumber (d + 1) 0 0 [.ref 22, .int x0] (pk_K ++ ex, R, I, J) (.returned none) (pk_K ++ ex, R, (fVa_pushNumber n26 x0 I J).1, (fVa_pushNumber n26 x0 I J).2) :=
  pmC.of (by decide) (Nat.le_of_ble_eq_true rfl) (Va_pushNumber_n0 g d ex R hR _ _ n26 x0 I J hp rfl rfl)
