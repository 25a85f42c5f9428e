def fSg_coder_17   : Int32 :=
  (0 : Int32)
def pSg_coder_17   : Prop :=
  True
set_option maxHeartbeats 4000000 in
set_option maxRecDepth 100000 in
theorem Sg_coder_17_n0 (g : pmG) (d : Nat) (K : List (Nat × Nat)) (R : Nat → Nat → Value) (I : Nat → Nat → Int32) (J : Nat → Nat → Int64) (o : Outcome) (Z : pmM)   (hp : pSg_coder_17) (ho : o = .returned (some (.int fSg_coder_17))) (hz : Z = (K, R, I, J)) : pmE g kSg_coder d 0 0 0 [(0, .retAddr 17)] [] (K) R I J o Z := by
  unfold pSg_coder_17 at hp
  refine pm_gets dSg_coder_0 gSg_38 xs_0 ?_
  refine pm_if_eq 13 dSg_coder_3 (by decide) (fun h3 => ?_) (fun h3 => ?_)
  · exact absurd h3 (by decide)
  ·
    refine pm_xload_n dSg_coder_6 rfl ?_
    refine pm_xcoder (x := 7) dSg_coder_7 gSg_15 (by decide) ?_
    refine pm_goto 14 dSg_coder_10 (by decide) ?_
    exact pm_zret dSg_coder_14 rfl (by first | rfl | decide) (ho.trans (by first | rfl | (simp only [fSg_coder_17]; done) | (simp only [fSg_coder_17]; rfl))) (hz.trans (by first | rfl | (simp only [fSg_coder_17]; done) | (simp only [fSg_coder_17]; rfl)))
set_option maxHeartbeats 4000000 in
set_option maxRecDepth 100000 in
theorem Sg_coder_17_ok (g : pmG) (d : Nat) (K : List (Nat × Nat)) (R : Nat → Nat → Value)   (I : Nat → Nat → Int32) (J : Nat → Nat → Int64) (hp : pSg_coder_17) : pmC g kSg_coder d 0 0 [.retAddr 17] (K, R, I, J) (.returned (some (.int fSg_coder_17))) (K, R, I, J) :=
  pmC.of (by decide) (Nat.le_of_ble_eq_true rfl) (Sg_coder_17_n0 g d K R I J _ _    hp rfl rfl)
def fSg_isLatin1_17_17   : Int32 :=
  (0 : Int32)
def pSg_isLatin1_17_17   : Prop :=
  True
def fSg_isLatin1_17   : Int32 :=
  (1 : Int32)
def pSg_isLatin1_17   : Prop :=
  True
set_option maxHeartbeats 4000000 in
set_option maxRecDepth 100000 in
theorem Sg_isLatin1_17_n17 (g : pmG) (d : Nat) (K : List (Nat × Nat)) (R : Nat → Nat → Value) (I : Nat → Nat → Int32) (J : Nat → Nat → Int64) (o : Outcome) (Z : pmM)   (hp : pSg_isLatin1_17_17) (ho : o = .returned (some (.int fSg_isLatin1_17_17))) (hz : Z = (K, R, I, J)) : pmE g kSg_isLatin1 d 0 0 17 [(0, .retAddr 17)] [] (K) R I J o Z := by
  unfold pSg_isLatin1_17_17 at hp
  refine pm_iconst (v := 0) dSg_isLatin1_17 (by decide) ?_
  exact pm_zret dSg_isLatin1_18 rfl (by first | rfl | decide) (ho.trans (by first | rfl | (simp only [fSg_isLatin1_17_17]; done) | (simp only [fSg_isLatin1_17_17]; rfl))) (hz.trans (by first | rfl | (simp only [fSg_isLatin1_17_17]; done) | (simp only [fSg_isLatin1_17_17]; rfl)))
set_option maxHeartbeats 4000000 in
set_option maxRecDepth 100000 in
theorem Sg_isLatin1_17_n0 (g : pmG) (d : Nat) (K : List (Nat × Nat)) (R : Nat → Nat → Value) (I : Nat → Nat → Int32) (J : Nat → Nat → Int64) (o : Outcome) (Z : pmM)   (hp : pSg_isLatin1_17) (ho : o = .returned (some (.int fSg_isLatin1_17))) (hz : Z = (K, R, I, J)) : pmE g kSg_isLatin1 d 0 0 0 [(0, .retAddr 17)] [] (K) R I J o Z := by
  unfold pSg_isLatin1_17 at hp
  refine pm_gets dSg_isLatin1_0 gSg_38 xs_0 ?_
  refine pm_if_eq 17 dSg_isLatin1_3 (by decide) (fun h3 => ?_) (fun h3 => ?_)
  · exact absurd h3 (by decide)
  ·
    refine pm_xload_n dSg_isLatin1_6 rfl ?_
    refine pm_xcoder (x := 7) dSg_isLatin1_7 gSg_15 (by decide) ?_
    refine pm_if_ne 17 dSg_isLatin1_10 (by decide) (fun h10 => ?_) (fun h10 => ?_)
    · exact absurd (by decide) h10
    ·
      refine pm_iconst (v := 1) dSg_isLatin1_13 (by decide) ?_
      refine pm_goto 18 dSg_isLatin1_14 (by decide) ?_
      exact pm_zret dSg_isLatin1_18 rfl (by first | rfl | decide) (ho.trans (by first | rfl | (simp only [fSg_isLatin1_17]; done) | (simp only [fSg_isLatin1_17]; rfl))) (hz.trans (by first | rfl | (simp only [fSg_isLatin1_17]; done) | (simp only [fSg_isLatin1_17]; rfl)))
set_option maxHeartbeats 4000000 in
set_option maxRecDepth 100000 in
theorem Sg_isLatin1_17_ok (g : pmG) (d : Nat) (K : List (Nat × Nat)) (R : Nat → Nat → Value)   (I : Nat → Nat → Int32) (J : Nat → Nat → Int64) (hp : pSg_isLatin1_17) : pmC g kSg_isLatin1 d 0 0 [.retAddr 17] (K, R, I, J) (.returned (some (.int fSg_isLatin1_17))) (K, R, I, J) :=
  pmC.of (by decide) (Nat.le_of_ble_eq_true rfl) (Sg_isLatin1_17_n0 g d K R I J _ _    hp rfl rfl)
def fSg_length_17   : Int32 :=
  (3 : Int32) >>> ((0 : Int32) &&& 31)
def pSg_length_17   : Prop :=
  pSg_coder_17 ∧ True
set_option maxHeartbeats 4000000 in
set_option maxRecDepth 100000 in
theorem Sg_length_17_n0 (g : pmG) (d : Nat) (K : List (Nat × Nat)) (R : Nat → Nat → Value) (I : Nat → Nat → Int32) (J : Nat → Nat → Int64) (o : Outcome) (Z : pmM)   (hp : pSg_length_17) (ho : o = .returned (some (.int fSg_length_17))) (hz : Z = (K, R, I, J)) : pmE g kSg_length (d + 1) 0 0 0 [(0, .retAddr 17)] [] (K) R I J o Z := by
  unfold pSg_length_17 at hp
  refine pm_xload_n dSg_length_0 rfl ?_
  refine pm_xvalue (x := 7) dSg_length_1 gSg_9 (by decide) ?_
  refine pm_xlen (u := 3) dSg_length_4 xa_47 (by decide) ?_
  refine pm_xload_n dSg_length_5 rfl ?_
  refine pm_callX (x := 7) dSg_length_6 lSg_335 vSg_coder rfl (by decide) (Sg_coder_17_ok _ _ _ _  _ _ hp.1) rfl rfl (Nat.le_of_ble_eq_true rfl) (Nat.le_refl _) (Nat.le_refl _) ?_
  refine pm_eqi (0 : Int32) rfl ?_
  refine pm_ishr dSg_length_9 ?_
  exact pm_iret dSg_length_10 rfl (ho.trans (by first | rfl | (simp only [fSg_length_17]; done) | (simp only [fSg_length_17]; rfl))) (hz.trans (by first | rfl | (simp only [fSg_length_17]; done) | (simp only [fSg_length_17]; rfl)))
set_option maxHeartbeats 4000000 in
set_option maxRecDepth 100000 in
theorem Sg_length_17_ok (g : pmG) (d : Nat) (K : List (Nat × Nat)) (R : Nat → Nat → Value)   (I : Nat → Nat → Int32) (J : Nat → Nat → Int64) (hp : pSg_length_17) : pmC g kSg_length (d + 1) 0 0 [.retAddr 17] (K, R, I, J) (.returned (some (.int fSg_length_17))) (K, R, I, J) :=
  pmC.of (by decide) (Nat.le_of_ble_eq_true rfl) (Sg_length_17_n0 g d K R I J _ _    hp rfl rfl)
def fSl_charAt_17  (y1 : Int32) : Int32 :=
  (((pk_B7.getD y1.toNatClampNeg 0) &&& (255 : Int32)).toUInt32 % 65536).toInt32
def pSl_charAt_17  (y1 : Int32) : Prop :=
  (pSg_checkIndex y1 (3 : Int32)) ∧ ((vp_in y1 3) ∧ (narrow .char (.int ((((pk_B7.getD y1.toNatClampNeg 0) &&& (255 : Int32)).toUInt32 % 65536).toInt32)) = .int ((((pk_B7.getD y1.toNatClampNeg 0) &&& (255 : Int32)).toUInt32 % 65536).toInt32)))
set_option maxHeartbeats 4000000 in
set_option maxRecDepth 100000 in
theorem Sl_charAt_17_n0 (g : pmG) (d : Nat) (K : List (Nat × Nat)) (R : Nat → Nat → Value) (I : Nat → Nat → Int32) (J : Nat → Nat → Int64) (o : Outcome) (Z : pmM)  (y1 : Int32) (hp : pSl_charAt_17 y1) (ho : o = .returned (some (.int (fSl_charAt_17 y1)))) (hz : Z = (K, R, I, J)) : pmE g kSl_charAt (d + 2) 0 0 0 [(0, .retAddr 47), (1, .int y1)] [] (K) R I J o Z := by
  unfold pSl_charAt_17 at hp
  refine pm_iload_n dSl_charAt_0 rfl ?_
  refine pm_xload_n dSl_charAt_1 rfl ?_
  refine pm_xlen (u := 3) dSl_charAt_2 xa_47 (by decide) ?_
  refine pm_callS dSl_charAt_3 lSl_9 tSg_checkIndex (Sg_checkIndex_ok _ _ _ _ _ _ _ _ hp.1) rfl rfl (Nat.le_of_ble_eq_true rfl) (Nat.le_refl _) (Nat.le_refl _) ?_
  refine pm_xload_n dSl_charAt_6 rfl ?_
  refine pm_iload_n dSl_charAt_7 rfl ?_
  refine pm_xbald dSl_charAt_8 xa_47 hp.2.1 ?_
  refine pm_sipush (v := 255) dSl_charAt_9 (by decide) ?_
  refine pm_iand dSl_charAt_12 ?_
  refine pm_i2c dSl_charAt_13 ?_
  exact pm_zret dSl_charAt_14 rfl hp.2.2 (ho.trans (by first | rfl | (simp only [fSl_charAt_17]; done) | (simp only [fSl_charAt_17]; rfl))) (hz.trans (by first | rfl | (simp only [fSl_charAt_17]; done) | (simp only [fSl_charAt_17]; rfl)))
set_option maxHeartbeats 4000000 in
set_option maxRecDepth 100000 in
theorem Sl_charAt_17_ok (g : pmG) (d : Nat) (K : List (Nat × Nat)) (R : Nat → Nat → Value)  (x0 : Int32) (I : Nat → Nat → Int32) (J : Nat → Nat → Int64) (hp : pSl_charAt_17 x0) : pmC g kSl_charAt (d + 2) 0 0 [.retAddr 47, .int x0] (K, R, I, J) (.returned (some (.int (fSl_charAt_17 x0)))) (K, R, I, J) :=
  pmC.of (by decide) (Nat.le_of_ble_eq_true rfl) (Sl_charAt_17_n0 g d K R I J _ _  x0  hp rfl rfl)
def fSg_charAt_17  (y1 : Int32) : Int32 :=
  (fSl_charAt_17 y1)
def pSg_charAt_17  (y1 : Int32) : Prop :=
  pSg_isLatin1_17 ∧ ((pSl_charAt_17 y1) ∧ (narrow .char (.int ((fSl_charAt_17 y1))) = .int ((fSl_charAt_17 y1))))
set_option maxHeartbeats 4000000 in
set_option maxRecDepth 100000 in
theorem Sg_charAt_17_n0 (g : pmG) (d : Nat) (K : List (Nat × Nat)) (R : Nat → Nat → Value) (I : Nat → Nat → Int32) (J : Nat → Nat → Int64) (o : Outcome) (Z : pmM)  (y1 : Int32) (hp : pSg_charAt_17 y1) (ho : o = .returned (some (.int (fSg_charAt_17 y1)))) (hz : Z = (K, R, I, J)) : pmE g kSg_charAt (d + 3) 0 0 0 [(0, .retAddr 17), (1, .int y1)] [] (K) R I J o Z := by
  unfold pSg_charAt_17 at hp
  refine pm_xload_n dSg_charAt_0 rfl ?_
  refine pm_callX (x := 7) dSg_charAt_1 lSg_492 vSg_isLatin1 rfl (by decide) (Sg_isLatin1_17_ok _ _ _ _  _ _ hp.1) rfl rfl (Nat.le_of_ble_eq_true rfl) (Nat.le_refl _) (Nat.le_refl _) ?_
  refine pm_eqi (1 : Int32) rfl ?_
  refine pm_if_eq 16 dSg_charAt_4 (by decide) (fun h4 => ?_) (fun h4 => ?_)
  · exact absurd h4 (by decide)
  ·
    refine pm_xload_n dSg_charAt_7 rfl ?_
    refine pm_xvalue (x := 7) dSg_charAt_8 gSg_9 (by decide) ?_
    refine pm_iload_n dSg_charAt_11 rfl ?_
    refine pm_callS dSg_charAt_12 lSg_495 tSl_charAt (Sl_charAt_17_ok _ _ _ _ _ _ _ hp.2.1) rfl rfl (Nat.le_of_ble_eq_true rfl) (Nat.le_refl _) (Nat.le_refl _) ?_
    exact pm_zret dSg_charAt_15 rfl hp.2.2 (ho.trans (by first | rfl | (simp only [fSg_charAt_17]; done) | (simp only [fSg_charAt_17]; rfl))) (hz.trans (by first | rfl | (simp only [fSg_charAt_17]; done) | (simp only [fSg_charAt_17]; rfl)))
set_option maxHeartbeats 4000000 in
set_option maxRecDepth 100000 in
theorem Sg_charAt_17_ok (g : pmG) (d : Nat) (K : List (Nat × Nat)) (R : Nat → Nat → Value)  (x0 : Int32) (I : Nat → Nat → Int32) (J : Nat → Nat → Int64) (hp : pSg_charAt_17 x0) : pmC g kSg_charAt (d + 3) 0 0 [.retAddr 17, .int x0] (K, R, I, J) (.returned (some (.int (fSg_charAt_17 x0)))) (K, R, I, J) :=
  pmC.of (by decide) (Nat.le_of_ble_eq_true rfl) (Sg_charAt_17_n0 g d K R I J _ _  x0  hp rfl rfl)
def fSg_coder_18   : Int32 :=
  (0 : Int32)
def pSg_coder_18   : Prop :=
  True
set_option maxHeartbeats 4000000 in
set_option maxRecDepth 100000 in
theorem Sg_coder_18_n0 (g : pmG) (d : Nat) (K : List (Nat × Nat)) (R : Nat → Nat → Value) (I : Nat → Nat → Int32) (J : Nat → Nat → Int64) (o : Outcome) (Z : pmM)   (hp : pSg_coder_18) (ho : o = .returned (some (.int fSg_coder_18))) (hz : Z = (K, R, I, J)) : pmE g kSg_coder d 0 0 0 [(0, .retAddr 18)] [] (K) R I J o Z := by
  unfold pSg_coder_18 at hp
  refine pm_gets dSg_coder_0 gSg_38 xs_0 ?_
  refine pm_if_eq 13 dSg_coder_3 (by decide) (fun h3 => ?_) (fun h3 => ?_)
  · exact absurd h3 (by decide)
  ·
    refine pm_xload_n dSg_coder_6 rfl ?_
    refine pm_xcoder (x := 8) dSg_coder_7 gSg_15 (by decide) ?_
    refine pm_goto 14 dSg_coder_10 (by decide) ?_
    exact pm_zret dSg_coder_14 rfl (by first | rfl | decide) (ho.trans (by first | rfl | (simp only [fSg_coder_18]; done) | (simp only [fSg_coder_18]; rfl))) (hz.trans (by first | rfl | (simp only [fSg_coder_18]; done) | (simp only [fSg_coder_18]; rfl)))
set_option maxHeartbeats 4000000 in
set_option maxRecDepth 100000 in
theorem Sg_coder_18_ok (g : pmG) (d : Nat) (K : List (Nat × Nat)) (R : Nat → Nat → Value)   (I : Nat → Nat → Int32) (J : Nat → Nat → Int64) (hp : pSg_coder_18) : pmC g kSg_coder d 0 0 [.retAddr 18] (K, R, I, J) (.returned (some (.int fSg_coder_18))) (K, R, I, J) :=
  pmC.of (by decide) (Nat.le_of_ble_eq_true rfl) (Sg_coder_18_n0 g d K R I J _ _    hp rfl rfl)
def fSg_isLatin1_18_17   : Int32 :=
  (0 : Int32)
def pSg_isLatin1_18_17   : Prop :=
  True
def fSg_isLatin1_18   : Int32 :=
  (1 : Int32)
def pSg_isLatin1_18   : Prop :=
  True
set_option maxHeartbeats 4000000 in
set_option maxRecDepth 100000 in
theorem Sg_isLatin1_18_n17 (g : pmG) (d : Nat) (K : List (Nat × Nat)) (R : Nat → Nat → Value) (I : Nat → Nat → Int32) (J : Nat → Nat → Int64) (o : Outcome) (Z : pmM)   (hp : pSg_isLatin1_18_17) (ho : o = .returned (some (.int fSg_isLatin1_18_17))) (hz : Z = (K, R, I, J)) : pmE g kSg_isLatin1 d 0 0 17 [(0, .retAddr 18)] [] (K) R I J o Z := by
  unfold pSg_isLatin1_18_17 at hp
  refine pm_iconst (v := 0) dSg_isLatin1_17 (by decide) ?_
  exact pm_zret dSg_isLatin1_18 rfl (by first | rfl | decide) (ho.trans (by first | rfl | (simp only [fSg_isLatin1_18_17]; done) | (simp only [fSg_isLatin1_18_17]; rfl))) (hz.trans (by first | rfl | (simp only [fSg_isLatin1_18_17]; done) | (simp only [fSg_isLatin1_18_17]; rfl)))
set_option maxHeartbeats 4000000 in
set_option maxRecDepth 100000 in
theorem Sg_isLatin1_18_n0 (g : pmG) (d : Nat) (K : List (Nat × Nat)) (R : Nat → Nat → Value) (I : Nat → Nat → Int32) (J : Nat → Nat → Int64) (o : Outcome) (Z : pmM)   (hp : pSg_isLatin1_18) (ho : o = .returned (some (.int fSg_isLatin1_18))) (hz : Z = (K, R, I, J)) : pmE g kSg_isLatin1 d 0 0 0 [(0, .retAddr 18)] [] (K) R I J o Z := by
  unfold pSg_isLatin1_18 at hp
  refine pm_gets dSg_isLatin1_0 gSg_38 xs_0 ?_
  refine pm_if_eq 17 dSg_isLatin1_3 (by decide) (fun h3 => ?_) (fun h3 => ?_)
  · exact absurd h3 (by decide)
  ·
    refine pm_xload_n dSg_isLatin1_6 rfl ?_
    refine pm_xcoder (x := 8) dSg_isLatin1_7 gSg_15 (by decide) ?_
    refine pm_if_ne 17 dSg_isLatin1_10 (by decide) (fun h10 => ?_) (fun h10 => ?_)
    · exact absurd (by decide) h10
    ·
      refine pm_iconst (v := 1) dSg_isLatin1_13 (by decide) ?_
      refine pm_goto 18 dSg_isLatin1_14 (by decide) ?_
      exact pm_zret dSg_isLatin1_18 rfl (by first | rfl | decide) (ho.trans (by first | rfl | (simp only [fSg_isLatin1_18]; done) | (simp only [fSg_isLatin1_18]; rfl))) (hz.trans (by first | rfl | (simp only [fSg_isLatin1_18]; done) | (simp only [fSg_isLatin1_18]; rfl)))
set_option maxHeartbeats 4000000 in
set_option maxRecDepth 100000 in
theorem Sg_isLatin1_18_ok (g : pmG) (d : Nat) (K : List (Nat × Nat)) (R : Nat → Nat → Value)   (I : Nat → Nat → Int32) (J : Nat → Nat → Int64) (hp : pSg_isLatin1_18) : pmC g kSg_isLatin1 d 0 0 [.retAddr 18] (K, R, I, J) (.returned (some (.int fSg_isLatin1_18))) (K, R, I, J) :=
  pmC.of (by decide) (Nat.le_of_ble_eq_true rfl) (Sg_isLatin1_18_n0 g d K R I J _ _    hp rfl rfl)
def fSg_length_18   : Int32 :=
  (5 : Int32) >>> ((0 : Int32) &&& 31)
def pSg_length_18   : Prop :=
  pSg_coder_18 ∧ True
set_option maxHeartbeats 4000000 in
set_option maxRecDepth 100000 in
theorem Sg_length_18_n0 (g : pmG) (d : Nat) (K : List (Nat × Nat)) (R : Nat → Nat → Value) (I : Nat → Nat → Int32) (J : Nat → Nat → Int64) (o : Outcome) (Z : pmM)   (hp : pSg_length_18) (ho : o = .returned (some (.int fSg_length_18))) (hz : Z = (K, R, I, J)) : pmE g kSg_length (d + 1) 0 0 0 [(0, .retAddr 18)] [] (K) R I J o Z := by
  unfold pSg_length_18 at hp
  refine pm_xload_n dSg_length_0 rfl ?_
  refine pm_xvalue (x := 8) dSg_length_1 gSg_9 (by decide) ?_
  refine pm_xlen (u := 5) dSg_length_4 xa_48 (by decide) ?_
  refine pm_xload_n dSg_length_5 rfl ?_
  refine pm_callX (x := 8) dSg_length_6 lSg_335 vSg_coder rfl (by decide) (Sg_coder_18_ok _ _ _ _  _ _ hp.1) rfl rfl (Nat.le_of_ble_eq_true rfl) (Nat.le_refl _) (Nat.le_refl _) ?_
  refine pm_eqi (0 : Int32) rfl ?_
  refine pm_ishr dSg_length_9 ?_
  exact pm_iret dSg_length_10 rfl (ho.trans (by first | rfl | (simp only [fSg_length_18]; done) | (simp only [fSg_length_18]; rfl))) (hz.trans (by first | rfl | (simp only [fSg_length_18]; done) | (simp only [fSg_length_18]; rfl)))
set_option maxHeartbeats 4000000 in
set_option maxRecDepth 100000 in
theorem Sg_length_18_ok (g : pmG) (d : Nat) (K : List (Nat × Nat)) (R : Nat → Nat → Value)   (I : Nat → Nat → Int32) (J : Nat → Nat → Int64) (hp : pSg_length_18) : pmC g kSg_length (d + 1) 0 0 [.retAddr 18] (K, R, I, J) (.returned (some (.int fSg_length_18))) (K, R, I, J) :=
  pmC.of (by decide) (Nat.le_of_ble_eq_true rfl) (Sg_length_18_n0 g d K R I J _ _    hp rfl rfl)
def fSl_charAt_18  (y1 : Int32) : Int32 :=
  (((pk_B8.getD y1.toNatClampNeg 0) &&& (255 : Int32)).toUInt32 % 65536).toInt32
def pSl_charAt_18  (y1 : Int32) : Prop :=
  (pSg_checkIndex y1 (5 : Int32)) ∧ ((vp_in y1 5) ∧ (narrow .char (.int ((((pk_B8.getD y1.toNatClampNeg 0) &&& (255 : Int32)).toUInt32 % 65536).toInt32)) = .int ((((pk_B8.getD y1.toNatClampNeg 0) &&& (255 : Int32)).toUInt32 % 65536).toInt32)))
set_option maxHeartbeats 4000000 in
set_option maxRecDepth 100000 in
theorem Sl_charAt_18_n0 (g : pmG) (d : Nat) (K : List (Nat × Nat)) (R : Nat → Nat → Value) (I : Nat → Nat → Int32) (J : Nat → Nat → Int64) (o : Outcome) (Z : pmM)  (y1 : Int32) (hp : pSl_charAt_18 y1) (ho : o = .returned (some (.int (fSl_charAt_18 y1)))) (hz : Z = (K, R, I, J)) : pmE g kSl_charAt (d + 2) 0 0 0 [(0, .retAddr 48), (1, .int y1)] [] (K) R I J o Z := by
  unfold pSl_charAt_18 at hp
  refine pm_iload_n dSl_charAt_0 rfl ?_
  refine pm_xload_n dSl_charAt_1 rfl ?_
  refine pm_xlen (u := 5) dSl_charAt_2 xa_48 (by decide) ?_
  refine pm_callS dSl_charAt_3 lSl_9 tSg_checkIndex (Sg_checkIndex_ok _ _ _ _ _ _ _ _ hp.1) rfl rfl (Nat.le_of_ble_eq_true rfl) (Nat.le_refl _) (Nat.le_refl _) ?_
  refine pm_xload_n dSl_charAt_6 rfl ?_
  refine pm_iload_n dSl_charAt_7 rfl ?_
  refine pm_xbald dSl_charAt_8 xa_48 hp.2.1 ?_
  refine pm_sipush (v := 255) dSl_charAt_9 (by decide) ?_
  refine pm_iand dSl_charAt_12 ?_
  refine pm_i2c dSl_charAt_13 ?_
  exact pm_zret dSl_charAt_14 rfl hp.2.2 (ho.trans (by first | rfl | (simp only [fSl_charAt_18]; done) | (simp only [fSl_charAt_18]; rfl))) (hz.trans (by first | rfl | (simp only [fSl_charAt_18]; done) | (simp only [fSl_charAt_18]; rfl)))
set_option maxHeartbeats 4000000 in
set_option maxRecDepth 100000 in
theorem Sl_charAt_18_ok (g : pmG) (d : Nat) (K : List (Nat × Nat)) (R : Nat → Nat → Value)  (x0 : Int32) (I : Nat → Nat → Int32) (J : Nat → Nat → Int64) (hp : pSl_charAt_18 x0) : pmC g kSl_charAt (d + 2) 0 0 [.retAddr 48, .int x0] (K, R, I, J) (.returned (some (.int (fSl_charAt_18 x0)))) (K, R, I, J) :=
  pmC.of (by decide) (Nat.le_of_ble_eq_true rfl) (Sl_charAt_18_n0 g d K R I J _ _  x0  hp rfl rfl)
def fSg_charAt_18  (y1 : Int32) : Int32 :=
  (fSl_charAt_18 y1)
def pSg_charAt_18  (y1 : Int32) : Prop :=
  pSg_isLatin1_18 ∧ ((pSl_charAt_18 y1) ∧ (narrow .char (.int ((fSl_charAt_18 y1))) = .int ((fSl_charAt_18 y1))))
set_option maxHeartbeats 4000000 in
set_option maxRecDepth 100000 in
theorem Sg_charAt_18_n0 (g : pmG) (d : Nat) (K : List (Nat × Nat)) (R : Nat → Nat → Value) (I : Nat → Nat → Int32) (J : Nat → Nat → Int64) (o : Outcome) (Z : pmM)  (y1 : Int32) (hp : pSg_charAt_18 y1) (ho : o = .returned (some (.int (fSg_charAt_18 y1)))) (hz : Z = (K, R, I, J)) : pmE g kSg_charAt (d + 3) 0 0 0 [(0, .retAddr 18), (1, .int y1)] [] (K) R I J o Z := by
  unfold pSg_charAt_18 at hp
  refine pm_xload_n dSg_charAt_0 rfl ?_
  refine pm_callX (x := 8) dSg_charAt_1 lSg_492 vSg_isLatin1 rfl (by decide) (Sg_isLatin1_18_ok _ _ _ _  _ _ hp.1) rfl rfl (Nat.le_of_ble_eq_true rfl) (Nat.le_refl _) (Nat.le_refl _) ?_
  refine pm_eqi (1 : Int32) rfl ?_
  refine pm_if_eq 16 dSg_charAt_4 (by decide) (fun h4 => ?_) (fun h4 => ?_)
  · exact absurd h4 (by decide)
  ·
    refine pm_xload_n dSg_charAt_7 rfl ?_
    refine pm_xvalue (x := 8) dSg_charAt_8 gSg_9 (by decide) ?_
    refine pm_iload_n dSg_charAt_11 rfl ?_
    refine pm_callS dSg_charAt_12 lSg_495 tSl_charAt (Sl_charAt_18_ok _ _ _ _ _ _ _ hp.2.1) rfl rfl (Nat.le_of_ble_eq_true rfl) (Nat.le_refl _) (Nat.le_refl _) ?_
    exact pm_zret dSg_charAt_15 rfl hp.2.2 (ho.trans (by first | rfl | (simp only [fSg_charAt_18]; done) | (simp only [fSg_charAt_18]; rfl))) (hz.trans (by first | rfl | (simp only [fSg_charAt_18]; done) | (simp only [fSg_charAt_18]; rfl)))
set_option maxHeartbeats 4000000 in
set_option maxRecDepth 100000 in
theorem Sg_charAt_18_ok (g : pmG) (d : Nat) (K : List (Nat × Nat)) (R : Nat → Nat → Value)  (x0 : Int32) (I : Nat → Nat → Int32) (J : Nat → Nat → Int64) (hp : pSg_charAt_18 x0) : pmC g kSg_charAt (d + 3) 0 0 [.retAddr 18, .int x0] (K, R, I, J) (.returned (some (.int (fSg_charAt_18 x0)))) (K, R, I, J) :=
  pmC.of (by decide) (Nat.le_of_ble_eq_true rfl) (Sg_charAt_18_n0 g d K R I J _ _  x0  hp rfl rfl)
def fSg_coder_19   : Int32 :=
  (0 : Int32)
def pSg_coder_19   : Prop :=
  True
set_option maxHeartbeats 4000000 in
set_option maxRecDepth 100000 in
theorem Sg_coder_19_n0 (g : pmG) (d : Nat) (K : List (Nat × Nat)) (R : Nat → Nat → Value) (I : Nat → Nat → Int32) (J : Nat → Nat → Int64) (o : Outcome) (Z : pmM)   (hp : pSg_coder_19) (ho : o = .returned (some (.int fSg_coder_19))) (hz : Z = (K, R, I, J)) : pmE g kSg_coder d 0 0 0 [(0, .retAddr 19)] [] (K) R I J o Z := by
  unfold pSg_coder_19 at hp
  refine pm_gets dSg_coder_0 gSg_38 xs_0 ?_
  refine pm_if_eq 13 dSg_coder_3 (by decide) (fun h3 => ?_) (fun h3 => ?_)
  · exact absurd h3 (by decide)
  ·
    refine pm_xload_n dSg_coder_6 rfl ?_
    refine pm_xcoder (x := 9) dSg_coder_7 gSg_15 (by decide) ?_
    refine pm_goto 14 dSg_coder_10 (by decide) ?_
    exact pm_zret dSg_coder_14 rfl (by first | rfl | decide) (ho.trans (by first | rfl | (simp only [fSg_coder_19]; done) | (simp only [fSg_coder_19]; rfl))) (hz.trans (by first | rfl | (simp only [fSg_coder_19]; done) | (simp only [fSg_coder_19]; rfl)))
set_option maxHeartbeats 4000000 in
set_option maxRecDepth 100000 in
theorem Sg_coder_19_ok (g : pmG) (d : Nat) (K : List (Nat × Nat)) (R : Nat → Nat → Value)   (I : Nat → Nat → Int32) (J : Nat → Nat → Int64) (hp : pSg_coder_19) : pmC g kSg_coder d 0 0 [.retAddr 19] (K, R, I, J) (.returned (some (.int fSg_coder_19))) (K, R, I, J) :=
  pmC.of (by decide) (Nat.le_of_ble_eq_true rfl) (Sg_coder_19_n0 g d K R I J _ _    hp rfl rfl)
def fSg_isLatin1_19_17   : Int32 :=
  (0 : Int32)
def pSg_isLatin1_19_17   : Prop :=
  True
def fSg_isLatin1_19   : Int32 :=
  (1 : Int32)
def pSg_isLatin1_19   : Prop :=
  True
set_option maxHeartbeats 4000000 in
set_option maxRecDepth 100000 in
theorem Sg_isLatin1_19_n17 (g : pmG) (d : Nat) (K : List (Nat × Nat)) (R : Nat → Nat → Value) (I : Nat → Nat → Int32) (J : Nat → Nat → Int64) (o : Outcome) (Z : pmM)   (hp : pSg_isLatin1_19_17) (ho : o = .returned (some (.int fSg_isLatin1_19_17))) (hz : Z = (K, R, I, J)) : pmE g kSg_isLatin1 d 0 0 17 [(0, .retAddr 19)] [] (K) R I J o Z := by
  unfold pSg_isLatin1_19_17 at hp
  refine pm_iconst (v := 0) dSg_isLatin1_17 (by decide) ?_
  exact pm_zret dSg_isLatin1_18 rfl (by first | rfl | decide) (ho.trans (by first | rfl | (simp only [fSg_isLatin1_19_17]; done) | (simp only [fSg_isLatin1_19_17]; rfl))) (hz.trans (by first | rfl | (simp only [fSg_isLatin1_19_17]; done) | (simp only [fSg_isLatin1_19_17]; rfl)))
set_option maxHeartbeats 4000000 in
set_option maxRecDepth 100000 in
theorem Sg_isLatin1_19_n0 (g : pmG) (d : Nat) (K : List (Nat × Nat)) (R : Nat → Nat → Value) (I : Nat → Nat → Int32) (J : Nat → Nat → Int64) (o : Outcome) (Z : pmM)   (hp : pSg_isLatin1_19) (ho : o = .returned (some (.int fSg_isLatin1_19))) (hz : Z = (K, R, I, J)) : pmE g kSg_isLatin1 d 0 0 0 [(0, .retAddr 19)] [] (K) R I J o Z := by
  unfold pSg_isLatin1_19 at hp
  refine pm_gets dSg_isLatin1_0 gSg_38 xs_0 ?_
  refine pm_if_eq 17 dSg_isLatin1_3 (by decide) (fun h3 => ?_) (fun h3 => ?_)
  · exact absurd h3 (by decide)
  ·
    refine pm_xload_n dSg_isLatin1_6 rfl ?_
    refine pm_xcoder (x := 9) dSg_isLatin1_7 gSg_15 (by decide) ?_
    refine pm_if_ne 17 dSg_isLatin1_10 (by decide) (fun h10 => ?_) (fun h10 => ?_)
    · exact absurd (by decide) h10
    ·
      refine pm_iconst (v := 1) dSg_isLatin1_13 (by decide) ?_
      refine pm_goto 18 dSg_isLatin1_14 (by decide) ?_
      exact pm_zret dSg_isLatin1_18 rfl (by first | rfl | decide) (ho.trans (by first | rfl | (simp only [fSg_isLatin1_19]; done) | (simp only [fSg_isLatin1_19]; rfl))) (hz.trans (by first | rfl | (simp only [fSg_isLatin1_19]; done) | (simp only [fSg_isLatin1_19]; rfl)))
set_option maxHeartbeats 4000000 in
set_option maxRecDepth 100000 in
theorem Sg_isLatin1_19_ok (g : pmG) (d : Nat) (K : List (Nat × Nat)) (R : Nat → Nat → Value)   (I : Nat → Nat → Int32) (J : Nat → Nat → Int64) (hp : pSg_isLatin1_19) : pmC g kSg_isLatin1 d 0 0 [.retAddr 19] (K, R, I, J) (.returned (some (.int fSg_isLatin1_19))) (K, R, I, J) :=
  pmC.of (by decide) (Nat.le_of_ble_eq_true rfl) (Sg_isLatin1_19_n0 g d K R I J _ _    hp rfl rfl)
def fSg_length_19   : Int32 :=
  (4 : Int32) >>> ((0 : Int32) &&& 31)
def pSg_length_19   : Prop :=
  pSg_coder_19 ∧ True
set_option maxHeartbeats 4000000 in
set_option maxRecDepth 100000 in
theorem Sg_length_19_n0 (g : pmG) (d : Nat) (K : List (Nat × Nat)) (R : Nat → Nat → Value) (I : Nat → Nat → Int32) (J : Nat → Nat → Int64) (o : Outcome) (Z : pmM)   (hp : pSg_length_19) (ho : o = .returned (some (.int fSg_length_19))) (hz : Z = (K, R, I, J)) : pmE g kSg_length (d + 1) 0 0 0 [(0, .retAddr 19)] [] (K) R I J o Z := by
  unfold pSg_length_19 at hp
  refine pm_xload_n dSg_length_0 rfl ?_
  refine pm_xvalue (x := 9) dSg_length_1 gSg_9 (by decide) ?_
  refine pm_xlen (u := 4) dSg_length_4 xa_49 (by decide) ?_
  refine pm_xload_n dSg_length_5 rfl ?_
  refine pm_callX (x := 9) dSg_length_6 lSg_335 vSg_coder rfl (by decide) (Sg_coder_19_ok _ _ _ _  _ _ hp.1) rfl rfl (Nat.le_of_ble_eq_true rfl) (Nat.le_refl _) (Nat.le_refl _) ?_
  refine pm_eqi (0 : Int32) rfl ?_
  refine pm_ishr dSg_length_9 ?_
  exact pm_iret dSg_length_10 rfl (ho.trans (by first | rfl | (simp only [fSg_length_19]; done) | (simp only [fSg_length_19]; rfl))) (hz.trans (by first | rfl | (simp only [fSg_length_19]; done) | (simp only [fSg_length_19]; rfl)))
set_option maxHeartbeats 4000000 in
set_option maxRecDepth 100000 in
theorem Sg_length_19_ok (g : pmG) (d : Nat) (K : List (Nat × Nat)) (R : Nat → Nat → Value)   (I : Nat → Nat → Int32) (J : Nat → Nat → Int64) (hp : pSg_length_19) : pmC g kSg_length (d + 1) 0 0 [.retAddr 19] (K, R, I, J) (.returned (some (.int fSg_length_19))) (K, R, I, J) :=
  pmC.of (by decide) (Nat.le_of_ble_eq_true rfl) (Sg_length_19_n0 g d K R I J _ _    hp rfl rfl)
def fSl_charAt_19  (y1 : Int32) : Int32 :=
  (((pk_B9.getD y1.toNatClampNeg 0) &&& (255 : Int32)).toUInt32 % 65536).toInt32
def pSl_charAt_19  (y1 : Int32) : Prop :=
  (pSg_checkIndex y1 (4 : Int32)) ∧ ((vp_in y1 4) ∧ (narrow .char (.int ((((pk_B9.getD y1.toNatClampNeg 0) &&& (255 : Int32)).toUInt32 % 65536).toInt32)) = .int ((((pk_B9.getD y1.toNatClampNeg 0) &&& (255 : Int32)).toUInt32 % 65536).toInt32)))
set_option maxHeartbeats 4000000 in
set_option maxRecDepth 100000 in
theorem Sl_charAt_19_n0 (g : pmG) (d : Nat) (K : List (Nat × Nat)) (R : Nat → Nat → Value) (I : Nat → Nat → Int32) (J : Nat → Nat → Int64) (o : Outcome) (Z : pmM)  (y1 : Int32) (hp : pSl_charAt_19 y1) (ho : o = .returned (some (.int (fSl_charAt_19 y1)))) (hz : Z = (K, R, I, J)) : pmE g kSl_charAt (d + 2) 0 0 0 [(0, .retAddr 49), (1, .int y1)] [] (K) R I J o Z := by
  unfold pSl_charAt_19 at hp
  refine pm_iload_n dSl_charAt_0 rfl ?_
  refine pm_xload_n dSl_charAt_1 rfl ?_
  refine pm_xlen (u := 4) dSl_charAt_2 xa_49 (by decide) ?_
  refine pm_callS dSl_charAt_3 lSl_9 tSg_checkIndex (Sg_checkIndex_ok _ _ _ _ _ _ _ _ hp.1) rfl rfl (Nat.le_of_ble_eq_true rfl) (Nat.le_refl _) (Nat.le_refl _) ?_
  refine pm_xload_n dSl_charAt_6 rfl ?_
  refine pm_iload_n dSl_charAt_7 rfl ?_
  refine pm_xbald dSl_charAt_8 xa_49 hp.2.1 ?_
  refine pm_sipush (v := 255) dSl_charAt_9 (by decide) ?_
  refine pm_iand dSl_charAt_12 ?_
  refine pm_i2c dSl_charAt_13 ?_
  exact pm_zret dSl_charAt_14 rfl hp.2.2 (ho.trans (by first | rfl | (simp only [fSl_charAt_19]; done) | (simp only [fSl_charAt_19]; rfl))) (hz.trans (by first | rfl | (simp only [fSl_charAt_19]; done) | (simp only [fSl_charAt_19]; rfl)))
set_option maxHeartbeats 4000000 in
set_option maxRecDepth 100000 in
theorem Sl_charAt_19_ok (g : pmG) (d : Nat) (K : List (Nat × Nat)) (R : Nat → Nat → Value)  (x0 : Int32) (I : Nat → Nat → Int32) (J : Nat → Nat → Int64) (hp : pSl_charAt_19 x0) : pmC g kSl_charAt (d + 2) 0 0 [.retAddr 49, .int x0] (K, R, I, J) (.returned (some (.int (fSl_charAt_19 x0)))) (K, R, I, J) :=
  pmC.of (by decide) (Nat.le_of_ble_eq_true rfl) (Sl_charAt_19_n0 g d K R I J _ _  x0  hp rfl rfl)
def fSg_charAt_19  (y1 : Int32) : Int32 :=
  (fSl_charAt_19 y1)
def pSg_charAt_19  (y1 : Int32) : Prop :=
  pSg_isLatin1_19 ∧ ((pSl_charAt_19 y1) ∧ (narrow .char (.int ((fSl_charAt_19 y1))) = .int ((fSl_charAt_19 y1))))
set_option maxHeartbeats 4000000 in
set_option maxRecDepth 100000 in
theorem Sg_charAt_19_n0 (g : pmG) (d : Nat) (K : List (Nat × Nat)) (R : Nat → Nat → Value) (I : Nat → Nat → Int32) (J : Nat → Nat → Int64) (o : Outcome) (Z : pmM)  (y1 : Int32) (hp : pSg_charAt_19 y1) (ho : o = .returned (some (.int (fSg_charAt_19 y1)))) (hz : Z = (K, R, I, J)) : pmE g kSg_charAt (d + 3) 0 0 0 [(0, .retAddr 19), (1, .int y1)] [] (K) R I J o Z := by
  unfold pSg_charAt_19 at hp
  refine pm_xload_n dSg_charAt_0 rfl ?_
  refine pm_callX (x := 9) dSg_charAt_1 lSg_492 vSg_isLatin1 rfl (by decide) (Sg_isLatin1_19_ok _ _ _ _  _ _ hp.1) rfl rfl (Nat.le_of_ble_eq_true rfl) (Nat.le_refl _) (Nat.le_refl _) ?_
  refine pm_eqi (1 : Int32) rfl ?_
  refine pm_if_eq 16 dSg_charAt_4 (by decide) (fun h4 => ?_) (fun h4 => ?_)
  · exact absurd h4 (by decide)
  ·
    refine pm_xload_n dSg_charAt_7 rfl ?_
    refine pm_xvalue (x := 9) dSg_charAt_8 gSg_9 (by decide) ?_
    refine pm_iload_n dSg_charAt_11 rfl ?_
    refine pm_callS dSg_charAt_12 lSg_495 tSl_charAt (Sl_charAt_19_ok _ _ _ _ _ _ _ hp.2.1) rfl rfl (Nat.le_of_ble_eq_true rfl) (Nat.le_refl _) (Nat.le_refl _) ?_
    exact pm_zret dSg_charAt_15 rfl hp.2.2 (ho.trans (by first | rfl | (simp only [fSg_charAt_19]; done) | (simp only [fSg_charAt_19]; rfl))) (hz.trans (by first | rfl | (simp only [fSg_charAt_19]; done) | (simp only [fSg_charAt_19]; rfl)))
set_option maxHeartbeats 4000000 in
set_option maxRecDepth 100000 in
theorem Sg_charAt_19_ok (g : pmG) (d : Nat) (K : List (Nat × Nat)) (R : Nat → Nat → Value)  (x0 : Int32) (I : Nat → Nat → Int32) (J : Nat → Nat → Int64) (hp : pSg_charAt_19 x0) : pmC g kSg_charAt (d + 3) 0 0 [.retAddr 19, .int x0] (K, R, I, J) (.returned (some (.int (fSg_charAt_19 x0)))) (K, R, I, J) :=
  pmC.of (by decide) (Nat.le_of_ble_eq_true rfl) (Sg_charAt_19_n0 g d K R I J _ _  x0  hp rfl rfl)
def fSg_coder_20   : Int32 :=
  (0 : Int32)
def pSg_coder_20   : Prop :=
  True
set_option maxHeartbeats 4000000 in
set_option maxRecDepth 100000 in
theorem Sg_coder_20_n0 (g : pmG) (d : Nat) (K : List (Nat × Nat)) (R : Nat → Nat → Value) (I : Nat → Nat → Int32) (J : Nat → Nat → Int64) (o : Outcome) (Z : pmM)   (hp : pSg_coder_20) (ho : o = .returned (some (.int fSg_coder_20))) (hz : Z = (K, R, I, J)) : pmE g kSg_coder d 0 0 0 [(0, .retAddr 20)] [] (K) R I J o Z := by
  unfold pSg_coder_20 at hp
  refine pm_gets dSg_coder_0 gSg_38 xs_0 ?_
  refine pm_if_eq 13 dSg_coder_3 (by decide) (fun h3 => ?_) (fun h3 => ?_)
  · exact absurd h3 (by decide)
  ·
    refine pm_xload_n dSg_coder_6 rfl ?_
    refine pm_xcoder (x := 10) dSg_coder_7 gSg_15 (by decide) ?_
    refine pm_goto 14 dSg_coder_10 (by decide) ?_
    exact pm_zret dSg_coder_14 rfl (by first | rfl | decide) (ho.trans (by first | rfl | (simp only [fSg_coder_20]; done) | (simp only [fSg_coder_20]; rfl))) (hz.trans (by first | rfl | (simp only [fSg_coder_20]; done) | (simp only [fSg_coder_20]; rfl)))
set_option maxHeartbeats 4000000 in
set_option maxRecDepth 100000 in
theorem Sg_coder_20_ok (g : pmG) (d : Nat) (K : List (Nat × Nat)) (R : Nat → Nat → Value)   (I : Nat → Nat → Int32) (J : Nat → Nat → Int64) (hp : pSg_coder_20) : pmC g kSg_coder d 0 0 [.retAddr 20] (K, R, I, J) (.returned (some (.int fSg_coder_20))) (K, R, I, J) :=
  pmC.of (by decide) (Nat.le_of_ble_eq_true rfl) (Sg_coder_20_n0 g d K R I J _ _    hp rfl rfl)
def fSg_isLatin1_20_17   : Int32 :=
  (0 : Int32)
def pSg_isLatin1_20_17   : Prop :=
  True
def fSg_isLatin1_20   : Int32 :=
  (1 : Int32)
def pSg_isLatin1_20   : Prop :=
  True
set_option maxHeartbeats 4000000 in
set_option maxRecDepth 100000 in
theorem Sg_isLatin1_20_n17 (g : pmG) (d : Nat) (K : List (Nat × Nat)) (R : Nat → Nat → Value) (I : Nat → Nat → Int32) (J : Nat → Nat → Int64) (o : Outcome) (Z : pmM)   (hp : pSg_isLatin1_20_17) (ho : o = .returned (some (.int fSg_isLatin1_20_17))) (hz : Z = (K, R, I, J)) : pmE g kSg_isLatin1 d 0 0 17 [(0, .retAddr 20)] [] (K) R I J o Z := by
  unfold pSg_isLatin1_20_17 at hp
  refine pm_iconst (v := 0) dSg_isLatin1_17 (by decide) ?_
  exact pm_zret dSg_isLatin1_18 rfl (by first | rfl | decide) (ho.trans (by first | rfl | (simp only [fSg_isLatin1_20_17]; done) | (simp only [fSg_isLatin1_20_17]; rfl))) (hz.trans (by first | rfl | (simp only [fSg_isLatin1_20_17]; done) | (simp only [fSg_isLatin1_20_17]; rfl)))
set_option maxHeartbeats 4000000 in
set_option maxRecDepth 100000 in
theorem Sg_isLatin1_20_n0 (g : pmG) (d : Nat) (K : List (Nat × Nat)) (R : Nat → Nat → Value) (I : Nat → Nat → Int32) (J : Nat → Nat → Int64) (o : Outcome) (Z : pmM)   (hp : pSg_isLatin1_20) (ho : o = .returned (some (.int fSg_isLatin1_20))) (hz : Z = (K, R, I, J)) : pmE g kSg_isLatin1 d 0 0 0 [(0, .retAddr 20)] [] (K) R I J o Z := by
  unfold pSg_isLatin1_20 at hp
  refine pm_gets dSg_isLatin1_0 gSg_38 xs_0 ?_
  refine pm_if_eq 17 dSg_isLatin1_3 (by decide) (fun h3 => ?_) (fun h3 => ?_)
  · exact absurd h3 (by decide)
  ·
    refine pm_xload_n dSg_isLatin1_6 rfl ?_
    refine pm_xcoder (x := 10) dSg_isLatin1_7 gSg_15 (by decide) ?_
    refine pm_if_ne 17 dSg_isLatin1_10 (by decide) (fun h10 => ?_) (fun h10 => ?_)
    · exact absurd (by decide) h10
    ·
      refine pm_iconst (v := 1) dSg_isLatin1_13 (by decide) ?_
      refine pm_goto 18 dSg_isLatin1_14 (by decide) ?_
      exact pm_zret dSg_isLatin1_18 rfl (by first | rfl | decide) (ho.trans (by first | rfl | (simp only [fSg_isLatin1_20]; done) | (simp only [fSg_isLatin1_20]; rfl))) (hz.trans (by first | rfl | (simp only [fSg_isLatin1_20]; done) | (simp only [fSg_isLatin1_20]; rfl)))
set_option maxHeartbeats 4000000 in
set_option maxRecDepth 100000 in
theorem Sg_isLatin1_20_ok (g : pmG) (d : Nat) (K : List (Nat × Nat)) (R : Nat → Nat → Value)   (I : Nat → Nat → Int32) (J : Nat → Nat → Int64) (hp : pSg_isLatin1_20) : pmC g kSg_isLatin1 d 0 0 [.retAddr 20] (K, R, I, J) (.returned (some (.int fSg_isLatin1_20))) (K, R, I, J) :=
  pmC.of (by decide) (Nat.le_of_ble_eq_true rfl) (Sg_isLatin1_20_n0 g d K R I J _ _    hp rfl rfl)
def fSg_length_20   : Int32 :=
  (4 : Int32) >>> ((0 : Int32) &&& 31)
def pSg_length_20   : Prop :=
  pSg_coder_20 ∧ True
set_option maxHeartbeats 4000000 in
set_option maxRecDepth 100000 in
theorem Sg_length_20_n0 (g : pmG) (d : Nat) (K : List (Nat × Nat)) (R : Nat → Nat → Value) (I : Nat → Nat → Int32) (J : Nat → Nat → Int64) (o : Outcome) (Z : pmM)   (hp : pSg_length_20) (ho : o = .returned (some (.int fSg_length_20))) (hz : Z = (K, R, I, J)) : pmE g kSg_length (d + 1) 0 0 0 [(0, .retAddr 20)] [] (K) R I J o Z := by
  unfold pSg_length_20 at hp
  refine pm_xload_n dSg_length_0 rfl ?_
  refine pm_xvalue (x := 10) dSg_length_1 gSg_9 (by decide) ?_
  refine pm_xlen (u := 4) dSg_length_4 xa_50 (by decide) ?_
  refine pm_xload_n dSg_length_5 rfl ?_
  refine pm_callX (x := 10) dSg_length_6 lSg_335 vSg_coder rfl (by decide) (Sg_coder_20_ok _ _ _ _  _ _ hp.1) rfl rfl (Nat.le_of_ble_eq_true rfl) (Nat.le_refl _) (Nat.le_refl _) ?_
  refine pm_eqi (0 : Int32) rfl ?_
  refine pm_ishr dSg_length_9 ?_
  exact pm_iret dSg_length_10 rfl (ho.trans (by first | rfl | (simp only [fSg_length_20]; done) | (simp only [fSg_length_20]; rfl))) (hz.trans (by first | rfl | (simp only [fSg_length_20]; done) | (simp only [fSg_length_20]; rfl)))
set_option maxHeartbeats 4000000 in
set_option maxRecDepth 100000 in
theorem Sg_length_20_ok (g : pmG) (d : Nat) (K : List (Nat × Nat)) (R : Nat → Nat → Value)   (I : Nat → Nat → Int32) (J : Nat → Nat → Int64) (hp : pSg_length_20) : pmC g kSg_length (d + 1) 0 0 [.retAddr 20] (K, R, I, J) (.returned (some (.int fSg_length_20))) (K, R, I, J) :=
  pmC.of (by decide) (Nat.le_of_ble_eq_true rfl) (Sg_length_20_n0 g d K R I J _ _    hp rfl rfl)
def fSl_charAt_20  (y1 : Int32) : Int32 :=
  (((pk_B10.getD y1.toNatClampNeg 0) &&& (255 : Int32)).toUInt32 % 65536).toInt32
def pSl_charAt_20  (y1 : Int32) : Prop :=
  (pSg_checkIndex y1 (4 : Int32)) ∧ ((vp_in y1 4) ∧ (narrow .char (.int ((((pk_B10.getD y1.toNatClampNeg 0) &&& (255 : Int32)).toUInt32 % 65536).toInt32)) = .int ((((pk_B10.getD y1.toNatClampNeg 0) &&& (255 : Int32)).toUInt32 % 65536).toInt32)))
set_option maxHeartbeats 4000000 in
set_option maxRecDepth 100000 in
theorem Sl_charAt_20_n0 (g : pmG) (d : Nat) (K : List (Nat × Nat)) (R : Nat → Nat → Value) (I : Nat → Nat → Int32) (J : Nat → Nat → Int64) (o : Outcome) (Z : pmM)  (y1 : Int32) (hp : pSl_charAt_20 y1) (ho : o = .returned (some (.int (fSl_charAt_20 y1)))) (hz : Z = (K, R, I, J)) : pmE g kSl_charAt (d + 2) 0 0 0 [(0, .retAddr 50), (1, .int y1)] [] (K) R I J o Z := by
  unfold pSl_charAt_20 at hp
  refine pm_iload_n dSl_charAt_0 rfl ?_
  refine pm_xload_n dSl_charAt_1 rfl ?_
  refine pm_xlen (u := 4) dSl_charAt_2 xa_50 (by decide) ?_
  refine pm_callS dSl_charAt_3 lSl_9 tSg_checkIndex (Sg_checkIndex_ok _ _ _ _ _ _ _ _ hp.1) rfl rfl (Nat.le_of_ble_eq_true rfl) (Nat.le_refl _) (Nat.le_refl _) ?_
  refine pm_xload_n dSl_charAt_6 rfl ?_
  refine pm_iload_n dSl_charAt_7 rfl ?_
  refine pm_xbald dSl_charAt_8 xa_50 hp.2.1 ?_
  refine pm_sipush (v := 255) dSl_charAt_9 (by decide) ?_
  refine pm_iand dSl_charAt_12 ?_
  refine pm_i2c dSl_charAt_13 ?_
  exact pm_zret dSl_charAt_14 rfl hp.2.2 (ho.trans (by first | rfl | (simp only [fSl_charAt_20]; done) | (simp only [fSl_charAt_20]; rfl))) (hz.trans (by first | rfl | (simp only [fSl_charAt_20]; done) | (simp only [fSl_charAt_20]; rfl)))
set_option maxHeartbeats 4000000 in
set_option maxRecDepth 100000 in
theorem Sl_charAt_20_ok (g : pmG) (d : Nat) (K : List (Nat × Nat)) (R : Nat → Nat → Value)  (x0 : Int32) (I : Nat → Nat → Int32) (J : Nat → Nat → Int64) (hp : pSl_charAt_20 x0) : pmC g kSl_charAt (d + 2) 0 0 [.retAddr 50, .int x0] (K, R, I, J) (.returned (some (.int (fSl_charAt_20 x0)))) (K, R, I, J) :=
  pmC.of (by decide) (Nat.le_of_ble_eq_true rfl) (Sl_charAt_20_n0 g d K R I J _ _  x0  hp rfl rfl)
def fSg_charAt_20  (y1 : Int32) : Int32 :=
  (fSl_charAt_20 y1)
def pSg_charAt_20  (y1 : Int32) : Prop :=
  pSg_isLatin1_20 ∧ ((pSl_charAt_20 y1) ∧ (narrow .char (.int ((fSl_charAt_20 y1))) = .int ((fSl_charAt_20 y1))))
set_option maxHeartbeats 4000000 in
set_option maxRecDepth 100000 in
theorem Sg_charAt_20_n0 (g : pmG) (d : Nat) (K : List (Nat × Nat)) (R : Nat → Nat → Value) (I : Nat → Nat → Int32) (J : Nat → Nat → Int64) (o : Outcome) (Z : pmM)  (y1 : Int32) (hp : pSg_charAt_20 y1) (ho : o = .returned (some (.int (fSg_charAt_20 y1)))) (hz : Z = (K, R, I, J)) : pmE g kSg_charAt (d + 3) 0 0 0 [(0, .retAddr 20), (1, .int y1)] [] (K) R I J o Z := by
  unfold pSg_charAt_20 at hp
  refine pm_xload_n dSg_charAt_0 rfl ?_
  refine pm_callX (x := 10) dSg_charAt_1 lSg_492 vSg_isLatin1 rfl (by decide) (Sg_isLatin1_20_ok _ _ _ _  _ _ hp.1) rfl rfl (Nat.le_of_ble_eq_true rfl) (Nat.le_refl _) (Nat.le_refl _) ?_
  refine pm_eqi (1 : Int32) rfl ?_
  refine pm_if_eq 16 dSg_charAt_4 (by decide) (fun h4 => ?_) (fun h4 => ?_)
  · exact absurd h4 (by decide)
  ·
    refine pm_xload_n dSg_charAt_7 rfl ?_
    refine pm_xvalue (x := 10) dSg_charAt_8 gSg_9 (by decide) ?_
    refine pm_iload_n dSg_charAt_11 rfl ?_
    refine pm_callS dSg_charAt_12 lSg_495 tSl_charAt (Sl_charAt_20_ok _ _ _ _ _ _ _ hp.2.1) rfl rfl (Nat.le_of_ble_eq_true rfl) (Nat.le_refl _) (Nat.le_refl _) ?_
    exact pm_zret dSg_charAt_15 rfl hp.2.2 (ho.trans (by first | rfl | (simp only [fSg_charAt_20]; done) | (simp only [fSg_charAt_20]; rfl))) (hz.trans (by first | rfl | (simp only [fSg_charAt_20]; done) | (simp only [fSg_charAt_20]; rfl)))
set_option maxHeartbeats 4000000 in
set_option maxRecDepth 100000 in
theorem Sg_charAt_20_ok (g : pmG) (d : Nat) (K : List (Nat × Nat)) (R : Nat → Nat → Value)  (x0 : Int32) (I : Nat → Nat → Int32) (J : Nat → Nat → Int64) (hp : pSg_charAt_20 x0) : pmC g kSg_charAt (d + 3) 0 0 [.retAddr 20, .int x0] (K, R, I, J) (.returned (some (.int (fSg_charAt_20 x0)))) (K, R, I, J) :=
  pmC.of (by decide) (Nat.le_of_ble_eq_true rfl) (Sg_charAt_20_n0 g d K R I J _ _  x0  hp rfl rfl)
def fSg_coder_21   : Int32 :=
  (0 : Int32)
def pSg_coder_21   : Prop :=
  True
set_option maxHeartbeats 4000000 in
set_option maxRecDepth 100000 in
theorem Sg_coder_21_n0 (g : pmG) (d : Nat) (K : List (Nat × Nat)) (R : Nat → Nat → Value) (I : Nat → Nat → Int32) (J : Nat → Nat → Int64) (o : Outcome) (Z : pmM)   (hp : pSg_coder_21) (ho : o = .returned (some (.int fSg_coder_21))) (hz : Z = (K, R, I, J)) : pmE g kSg_coder d 0 0 0 [(0, .retAddr 21)] [] (K) R I J o Z := by
  unfold pSg_coder_21 at hp
  refine pm_gets dSg_coder_0 gSg_38 xs_0 ?_
  refine pm_if_eq 13 dSg_coder_3 (by decide) (fun h3 => ?_) (fun h3 => ?_)
  · exact absurd h3 (by decide)
  ·
    refine pm_xload_n dSg_coder_6 rfl ?_
    refine pm_xcoder (x := 11) dSg_coder_7 gSg_15 (by decide) ?_
    refine pm_goto 14 dSg_coder_10 (by decide) ?_
    exact pm_zret dSg_coder_14 rfl (by first | rfl | decide) (ho.trans (by first | rfl | (simp only [fSg_coder_21]; done) | (simp only [fSg_coder_21]; rfl))) (hz.trans (by first | rfl | (simp only [fSg_coder_21]; done) | (simp only [fSg_coder_21]; rfl)))
set_option maxHeartbeats 4000000 in
set_option maxRecDepth 100000 in
theorem Sg_coder_21_ok (g : pmG) (d : Nat) (K : List (Nat × Nat)) (R : Nat → Nat → Value)   (I : Nat → Nat → Int32) (J : Nat → Nat → Int64) (hp : pSg_coder_21) : pmC g kSg_coder d 0 0 [.retAddr 21] (K, R, I, J) (.returned (some (.int fSg_coder_21))) (K, R, I, J) :=
  pmC.of (by decide) (Nat.le_of_ble_eq_true rfl) (Sg_coder_21_n0 g d K R I J _ _    hp rfl rfl)
def fSg_isLatin1_21_17   : Int32 :=
  (0 : Int32)
def pSg_isLatin1_21_17   : Prop :=
  True
def fSg_isLatin1_21   : Int32 :=
  (1 : Int32)
def pSg_isLatin1_21   : Prop :=
  True
set_option maxHeartbeats 4000000 in
set_option maxRecDepth 100000 in
theorem Sg_isLatin1_21_n17 (g : pmG) (d : Nat) (K : List (Nat × Nat)) (R : Nat → Nat → Value) (I : Nat → Nat → Int32) (J : Nat → Nat → Int64) (o : Outcome) (Z : pmM)   (hp : pSg_isLatin1_21_17) (ho : o = .returned (some (.int fSg_isLatin1_21_17))) (hz : Z = (K, R, I, J)) : pmE g kSg_isLatin1 d 0 0 17 [(0, .retAddr 21)] [] (K) R I J o Z := by
  unfold pSg_isLatin1_21_17 at hp
  refine pm_iconst (v := 0) dSg_isLatin1_17 (by decide) ?_
  exact pm_zret dSg_isLatin1_18 rfl (by first | rfl | decide) (ho.trans (by first | rfl | (simp only [fSg_isLatin1_21_17]; done) | (simp only [fSg_isLatin1_21_17]; rfl))) (hz.trans (by first | rfl | (simp only [fSg_isLatin1_21_17]; done) | (simp only [fSg_isLatin1_21_17]; rfl)))
set_option maxHeartbeats 4000000 in
set_option maxRecDepth 100000 in
theorem Sg_isLatin1_21_n0 (g : pmG) (d : Nat) (K : List (Nat × Nat)) (R : Nat → Nat → Value) (I : Nat → Nat → Int32) (J : Nat → Nat → Int64) (o : Outcome) (Z : pmM)   (hp : pSg_isLatin1_21) (ho : o = .returned (some (.int fSg_isLatin1_21))) (hz : Z = (K, R, I, J)) : pmE g kSg_isLatin1 d 0 0 0 [(0, .retAddr 21)] [] (K) R I J o Z := by
  unfold pSg_isLatin1_21 at hp
  refine pm_gets dSg_isLatin1_0 gSg_38 xs_0 ?_
  refine pm_if_eq 17 dSg_isLatin1_3 (by decide) (fun h3 => ?_) (fun h3 => ?_)
  · exact absurd h3 (by decide)
  ·
    refine pm_xload_n dSg_isLatin1_6 rfl ?_
    refine pm_xcoder (x := 11) dSg_isLatin1_7 gSg_15 (by decide) ?_
    refine pm_if_ne 17 dSg_isLatin1_10 (by decide) (fun h10 => ?_) (fun h10 => ?_)
    · exact absurd (by decide) h10
    ·
      refine pm_iconst (v := 1) dSg_isLatin1_13 (by decide) ?_
      refine pm_goto 18 dSg_isLatin1_14 (by decide) ?_
      exact pm_zret dSg_isLatin1_18 rfl (by first | rfl | decide) (ho.trans (by first | rfl | (simp only [fSg_isLatin1_21]; done) | (simp only [fSg_isLatin1_21]; rfl))) (hz.trans (by first | rfl | (simp only [fSg_isLatin1_21]; done) | (simp only [fSg_isLatin1_21]; rfl)))
set_option maxHeartbeats 4000000 in
set_option maxRecDepth 100000 in
theorem Sg_isLatin1_21_ok (g : pmG) (d : Nat) (K : List (Nat × Nat)) (R : Nat → Nat → Value)   (I : Nat → Nat → Int32) (J : Nat → Nat → Int64) (hp : pSg_isLatin1_21) : pmC g kSg_isLatin1 d 0 0 [.retAddr 21] (K, R, I, J) (.returned (some (.int fSg_isLatin1_21))) (K, R, I, J) :=
  pmC.of (by decide) (Nat.le_of_ble_eq_true rfl) (Sg_isLatin1_21_n0 g d K R I J _ _    hp rfl rfl)
def fSg_length_21   : Int32 :=
  (4 : Int32) >>> ((0 : Int32) &&& 31)
def pSg_length_21   : Prop :=
  pSg_coder_21 ∧ True
set_option maxHeartbeats 4000000 in
set_option maxRecDepth 100000 in
theorem Sg_length_21_n0 (g : pmG) (d : Nat) (K : List (Nat × Nat)) (R : Nat → Nat → Value) (I : Nat → Nat → Int32) (J : Nat → Nat → Int64) (o : Outcome) (Z : pmM)   (hp : pSg_length_21) (ho : o = .returned (some (.int fSg_length_21))) (hz : Z = (K, R, I, J)) : pmE g kSg_length (d + 1) 0 0 0 [(0, .retAddr 21)] [] (K) R I J o Z := by
  unfold pSg_length_21 at hp
  refine pm_xload_n dSg_length_0 rfl ?_
  refine pm_xvalue (x := 11) dSg_length_1 gSg_9 (by decide) ?_
  refine pm_xlen (u := 4) dSg_length_4 xa_51 (by decide) ?_
  refine pm_xload_n dSg_length_5 rfl ?_
  refine pm_callX (x := 11) dSg_length_6 lSg_335 vSg_coder rfl (by decide) (Sg_coder_21_ok _ _ _ _  _ _ hp.1) rfl rfl (Nat.le_of_ble_eq_true rfl) (Nat.le_refl _) (Nat.le_refl _) ?_
  refine pm_eqi (0 : Int32) rfl ?_
  refine pm_ishr dSg_length_9 ?_
  exact pm_iret dSg_length_10 rfl (ho.trans (by first | rfl | (simp only [fSg_length_21]; done) | (simp only [fSg_length_21]; rfl))) (hz.trans (by first | rfl | (simp only [fSg_length_21]; done) | (simp only [fSg_length_21]; rfl)))
set_option maxHeartbeats 4000000 in
set_option maxRecDepth 100000 in
theorem Sg_length_21_ok (g : pmG) (d : Nat) (K : List (Nat × Nat)) (R : Nat → Nat → Value)   (I : Nat → Nat → Int32) (J : Nat → Nat → Int64) (hp : pSg_length_21) : pmC g kSg_length (d + 1) 0 0 [.retAddr 21] (K, R, I, J) (.returned (some (.int fSg_length_21))) (K, R, I, J) :=
  pmC.of (by decide) (Nat.le_of_ble_eq_true rfl) (Sg_length_21_n0 g d K R I J _ _    hp rfl rfl)
def fSl_charAt_21  (y1 : Int32) : Int32 :=
  (((pk_B11.getD y1.toNatClampNeg 0) &&& (255 : Int32)).toUInt32 % 65536).toInt32
def pSl_charAt_21  (y1 : Int32) : Prop :=
  (pSg_checkIndex y1 (4 : Int32)) ∧ ((vp_in y1 4) ∧ (narrow .char (.int ((((pk_B11.getD y1.toNatClampNeg 0) &&& (255 : Int32)).toUInt32 % 65536).toInt32)) = .int ((((pk_B11.getD y1.toNatClampNeg 0) &&& (255 : Int32)).toUInt32 % 65536).toInt32)))
set_option maxHeartbeats 4000000 in
set_option maxRecDepth 100000 in
theorem Sl_charAt_21_n0 (g : pmG) (d : Nat) (K : List (Nat × Nat)) (R : Nat → Nat → Value) (I : Nat → Nat → Int32) (J : Nat → Nat → Int64) (o : Outcome) (Z : pmM)  (y1 : Int32) (hp : pSl_charAt_21 y1) (ho : o = .returned (some (.int (fSl_charAt_21 y1)))) (hz : Z = (K, R, I, J)) : pmE g kSl_charAt (d + 2) 0 0 0 [(0, .retAddr 51), (1, .int y1)] [] (K) R I J o Z := by
  unfold pSl_charAt_21 at hp
  refine pm_iload_n dSl_charAt_0 rfl ?_
  refine pm_xload_n dSl_charAt_1 rfl ?_
  refine pm_xlen (u := 4) dSl_charAt_2 xa_51 (by decide) ?_
  refine pm_callS dSl_charAt_3 lSl_9 tSg_checkIndex (Sg_checkIndex_ok _ _ _ _ _ _ _ _ hp.1) rfl rfl (Nat.le_of_ble_eq_true rfl) (Nat.le_refl _) (Nat.le_refl _) ?_
  refine pm_xload_n dSl_charAt_6 rfl ?_
  refine pm_iload_n dSl_charAt_7 rfl ?_
  refine pm_xbald dSl_charAt_8 xa_51 hp.2.1 ?_
  refine pm_sipush (v := 255) dSl_charAt_9 (by decide) ?_
  refine pm_iand dSl_charAt_12 ?_
  refine pm_i2c dSl_charAt_13 ?_
  exact pm_zret dSl_charAt_14 rfl hp.2.2 (ho.trans (by first | rfl | (simp only [fSl_charAt_21]; done) | (simp only [fSl_charAt_21]; rfl))) (hz.trans (by first | rfl | (simp only [fSl_charAt_21]; done) | (simp only [fSl_charAt_21]; rfl)))
set_option maxHeartbeats 4000000 in
set_option maxRecDepth 100000 in
theorem Sl_charAt_21_ok (g : pmG) (d : Nat) (K : List (Nat × Nat)) (R : Nat → Nat → Value)  (x0 : Int32) (I : Nat → Nat → Int32) (J : Nat → Nat → Int64) (hp : pSl_charAt_21 x0) : pmC g kSl_charAt (d + 2) 0 0 [.retAddr 51, .int x0] (K, R, I, J) (.returned (some (.int (fSl_charAt_21 x0)))) (K, R, I, J) :=
  pmC.of (by decide) (Nat.le_of_ble_eq_true rfl) (Sl_charAt_21_n0 g d K R I J _ _  x0  hp rfl rfl)
def fSg_charAt_21  (y1 : Int32) : Int32 :=
  (fSl_charAt_21 y1)
def pSg_charAt_21  (y1 : Int32) : Prop :=
  pSg_isLatin1_21 ∧ ((pSl_charAt_21 y1) ∧ (narrow .char (.int ((fSl_charAt_21 y1))) = .int ((fSl_charAt_21 y1))))
set_option maxHeartbeats 4000000 in
set_option maxRecDepth 100000 in
theorem Sg_charAt_21_n0 (g : pmG) (d : Nat) (K : List (Nat × Nat)) (R : Nat → Nat → Value) (I : Nat → Nat → Int32) (J : Nat → Nat → Int64) (o : Outcome) (Z : pmM)  (y1 : Int32) (hp : pSg_charAt_21 y1) (ho : o = .returned (some (.int (fSg_charAt_21 y1)))) (hz : Z = (K, R, I, J)) : pmE g kSg_charAt (d + 3) 0 0 0 [(0, .retAddr 21), (1, .int y1)] [] (K) R I J o Z := by
  unfold pSg_charAt_21 at hp
  refine pm_xload_n dSg_charAt_0 rfl ?_
  refine pm_callX (x := 11) dSg_charAt_1 lSg_492 vSg_isLatin1 rfl (by decide) (Sg_isLatin1_21_ok _ _ _ _  _ _ hp.1) rfl rfl (Nat.le_of_ble_eq_true rfl) (Nat.le_refl _) (Nat.le_refl _) ?_
  refine pm_eqi (1 : Int32) rfl ?_
  refine pm_if_eq 16 dSg_charAt_4 (by decide) (fun h4 => ?_) (fun h4 => ?_)
  · exact absurd h4 (by decide)
  ·
    refine pm_xload_n dSg_charAt_7 rfl ?_
    refine pm_xvalue (x := 11) dSg_charAt_8 gSg_9 (by decide) ?_
    refine pm_iload_n dSg_charAt_11 rfl ?_
    refine pm_callS dSg_charAt_12 lSg_495 tSl_charAt (Sl_charAt_21_ok _ _ _ _ _ _ _ hp.2.1) rfl rfl (Nat.le_of_ble_eq_true rfl) (Nat.le_refl _) (Nat.le_refl _) ?_
    exact pm_zret dSg_charAt_15 rfl hp.2.2 (ho.trans (by first | rfl | (simp only [fSg_charAt_21]; done) | (simp only [fSg_charAt_21]; rfl))) (hz.trans (by first | rfl | (simp only [fSg_charAt_21]; done) | (simp only [fSg_charAt_21]; rfl)))
set_option maxHeartbeats 4000000 in
set_option maxRecDepth 100000 in
theorem Sg_charAt_21_ok (g : pmG) (d : Nat) (K : List (Nat × Nat)) (R : Nat → Nat → Value)  (x0 : Int32) (I : Nat → Nat → Int32) (J : Nat → Nat → Int64) (hp : pSg_charAt_21 x0) : pmC g kSg_charAt (d + 3) 0 0 [.retAddr 21, .int x0] (K, R, I, J) (.returned (some (.int (fSg_charAt_21 x0)))) (K, R, I, J) :=
  pmC.of (by decide) (Nat.le_of_ble_eq_true rfl) (Sg_charAt_21_n0 g d K R I J _ _  x0  hp rfl rfl)
def fSg_coder_22   : Int32 :=
  (0 : Int32)
def pSg_coder_22   : Prop :=
  True
set_option maxHeartbeats 4000000 in
set_option maxRecDepth 100000 in
theorem Sg_coder_22_n0 (g : pmG) (d : Nat) (K : List (Nat × Nat)) (R : Nat → Nat → Value) (I : Nat → Nat → Int32) (J : Nat → Nat → Int64) (o : Outcome) (Z : pmM)   (hp : pSg_coder_22) (ho : o = .returned (some (.int fSg_coder_22))) (hz : Z = (K, R, I, J)) : pmE g kSg_coder d 0 0 0 [(0, .retAddr 22)] [] (K) R I J o Z := by
  unfold pSg_coder_22 at hp
  refine pm_gets dSg_coder_0 gSg_38 xs_0 ?_
  refine pm_if_eq 13 dSg_coder_3 (by decide) (fun h3 => ?_) (fun h3 => ?_)
  · exact absurd h3 (by decide)
  ·
    refine pm_xload_n dSg_coder_6 rfl ?_
    refine pm_xcoder (x := 12) dSg_coder_7 gSg_15 (by decide) ?_
    refine pm_goto 14 dSg_coder_10 (by decide) ?_
    exact pm_zret dSg_coder_14 rfl (by first | rfl | decide) (ho.trans (by first | rfl | (simp only [fSg_coder_22]; done) | (simp only [fSg_coder_22]; rfl))) (hz.trans (by first | rfl | (simp only [fSg_coder_22]; done) | (simp only [fSg_coder_22]; rfl)))
set_option maxHeartbeats 4000000 in
set_option maxRecDepth 100000 in
theorem Sg_coder_22_ok (g : pmG) (d : Nat) (K : List (Nat × Nat)) (R : Nat → Nat → Value)   (I : Nat → Nat → Int32) (J : Nat → Nat → Int64) (hp : pSg_coder_22) : pmC g kSg_coder d 0 0 [.retAddr 22] (K, R, I, J) (.returned (some (.int fSg_coder_22))) (K, R, I, J) :=
  pmC.of (by decide) (Nat.le_of_ble_eq_true rfl) (Sg_coder_22_n0 g d K R I J _ _    hp rfl rfl)
def fSg_isLatin1_22_17   : Int32 :=
  (0 : Int32)
def pSg_isLatin1_22_17   : Prop :=
  True
def fSg_isLatin1_22   : Int32 :=
  (1 : Int32)
def pSg_isLatin1_22   : Prop :=
  True
set_option maxHeartbeats 4000000 in
set_option maxRecDepth 100000 in
theorem Sg_isLatin1_22_n17 (g : pmG) (d : Nat) (K : List (Nat × Nat)) (R : Nat → Nat → Value) (I : Nat → Nat → Int32) (J : Nat → Nat → Int64) (o : Outcome) (Z : pmM)   (hp : pSg_isLatin1_22_17) (ho : o = .returned (some (.int fSg_isLatin1_22_17))) (hz : Z = (K, R, I, J)) : pmE g kSg_isLatin1 d 0 0 17 [(0, .retAddr 22)] [] (K) R I J o Z := by
  unfold pSg_isLatin1_22_17 at hp
  refine pm_iconst (v := 0) dSg_isLatin1_17 (by decide) ?_
  exact pm_zret dSg_isLatin1_18 rfl (by first | rfl | decide) (ho.trans (by first | rfl | (simp only [fSg_isLatin1_22_17]; done) | (simp only [fSg_isLatin1_22_17]; rfl))) (hz.trans (by first | rfl | (simp only [fSg_isLatin1_22_17]; done) | (simp only [fSg_isLatin1_22_17]; rfl)))
set_option maxHeartbeats 4000000 in
set_option maxRecDepth 100000 in
theorem Sg_isLatin1_22_n0 (g : pmG) (d : Nat) (K : List (Nat × Nat)) (R : Nat → Nat → Value) (I : Nat → Nat → Int32) (J : Nat → Nat → Int64) (o : Outcome) (Z : pmM)   (hp : pSg_isLatin1_22) (ho : o = .returned (some (.int fSg_isLatin1_22))) (hz : Z = (K, R, I, J)) : pmE g kSg_isLatin1 d 0 0 0 [(0, .retAddr 22)] [] (K) R I J o Z := by
  unfold pSg_isLatin1_22 at hp
  refine pm_gets dSg_isLatin1_0 gSg_38 xs_0 ?_
  refine pm_if_eq 17 dSg_isLatin1_3 (by decide) (fun h3 => ?_) (fun h3 => ?_)
  · exact absurd h3 (by decide)
  ·
    refine pm_xload_n dSg_isLatin1_6 rfl ?_
    refine pm_xcoder (x := 12) dSg_isLatin1_7 gSg_15 (by decide) ?_
    refine pm_if_ne 17 dSg_isLatin1_10 (by decide) (fun h10 => ?_) (fun h10 => ?_)
    · exact absurd (by decide) h10
    ·
      refine pm_iconst (v := 1) dSg_isLatin1_13 (by decide) ?_
      refine pm_goto 18 dSg_isLatin1_14 (by decide) ?_
      exact pm_zret dSg_isLatin1_18 rfl (by first | rfl | decide) (ho.trans (by first | rfl | (simp only [fSg_isLatin1_22]; done) | (simp only [fSg_isLatin1_22]; rfl))) (hz.trans (by first | rfl | (simp only [fSg_isLatin1_22]; done) | (simp only [fSg_isLatin1_22]; rfl)))
set_option maxHeartbeats 4000000 in
set_option maxRecDepth 100000 in
theorem Sg_isLatin1_22_ok (g : pmG) (d : Nat) (K : List (Nat × Nat)) (R : Nat → Nat → Value)   (I : Nat → Nat → Int32) (J : Nat → Nat → Int64) (hp : pSg_isLatin1_22) : pmC g kSg_isLatin1 d 0 0 [.retAddr 22] (K, R, I, J) (.returned (some (.int fSg_isLatin1_22))) (K, R, I, J) :=
  pmC.of (by decide) (Nat.le_of_ble_eq_true rfl) (Sg_isLatin1_22_n0 g d K R I J _ _    hp rfl rfl)
def fSg_length_22   : Int32 :=
  (1 : Int32) >>> ((0 : Int32) &&& 31)
def pSg_length_22   : Prop :=
  pSg_coder_22 ∧ True
set_option maxHeartbeats 4000000 in
set_option maxRecDepth 100000 in
theorem Sg_length_22_n0 (g : pmG) (d : Nat) (K : List (Nat × Nat)) (R : Nat → Nat → Value) (I : Nat → Nat → Int32) (J : Nat → Nat → Int64) (o : Outcome) (Z : pmM)   (hp : pSg_length_22) (ho : o = .returned (some (.int fSg_length_22))) (hz : Z = (K, R, I, J)) : pmE g kSg_length (d + 1) 0 0 0 [(0, .retAddr 22)] [] (K) R I J o Z := by
  unfold pSg_length_22 at hp
  refine pm_xload_n dSg_length_0 rfl ?_
  refine pm_xvalue (x := 12) dSg_length_1 gSg_9 (by decide) ?_
  refine pm_xlen (u := 1) dSg_length_4 xa_52 (by decide) ?_
  refine pm_xload_n dSg_length_5 rfl ?_
  refine pm_callX (x := 12) dSg_length_6 lSg_335 vSg_coder rfl (by decide) (Sg_coder_22_ok _ _ _ _  _ _ hp.1) rfl rfl (Nat.le_of_ble_eq_true rfl) (Nat.le_refl _) (Nat.le_refl _) ?_
  refine pm_eqi (0 : Int32) rfl ?_
  refine pm_ishr dSg_length_9 ?_
  exact pm_iret dSg_length_10 rfl (ho.trans (by first | rfl | (simp only [fSg_length_22]; done) | (simp only [fSg_length_22]; rfl))) (hz.trans (by first | rfl | (simp only [fSg_length_22]; done) | (simp only [fSg_length_22]; rfl)))
set_option maxHeartbeats 4000000 in
set_option maxRecDepth 100000 in
theorem Sg_length_22_ok (g : pmG) (d : Nat) (K : List (Nat × Nat)) (R : Nat → Nat → Value)   (I : Nat → Nat → Int32) (J : Nat → Nat → Int64) (hp : pSg_length_22) : pmC g kSg_length (d + 1) 0 0 [.retAddr 22] (K, R, I, J) (.returned (some (.int fSg_length_22))) (K, R, I, J) :=
  pmC.of (by decide) (Nat.le_of_ble_eq_true rfl) (Sg_length_22_n0 g d K R I J _ _    hp rfl rfl)
def fSl_charAt_22  (y1 : Int32) : Int32 :=
  (((pk_B12.getD y1.toNatClampNeg 0) &&& (255 : Int32)).toUInt32 % 65536).toInt32
def pSl_charAt_22  (y1 : Int32) : Prop :=
  (pSg_checkIndex y1 (1 : Int32)) ∧ ((vp_in y1 1) ∧ (narrow .char (.int ((((pk_B12.getD y1.toNatClampNeg 0) &&& (255 : Int32)).toUInt32 % 65536).toInt32)) = .int ((((pk_B12.getD y1.toNatClampNeg 0) &&& (255 : Int32)).toUInt32 % 65536).toInt32)))
set_option maxHeartbeats 4000000 in
set_option maxRecDepth 100000 in
theorem Sl_charAt_22_n0 (g : pmG) (d : Nat) (K : List (Nat × Nat)) (R : Nat → Nat → Value) (I : Nat → Nat → Int32) (J : Nat → Nat → Int64) (o : Outcome) (Z : pmM)  (y1 : Int32) (hp : pSl_charAt_22 y1) (ho : o = .returned (some (.int (fSl_charAt_22 y1)))) (hz : Z = (K, R, I, J)) : pmE g kSl_charAt (d + 2) 0 0 0 [(0, .retAddr 52), (1, .int y1)] [] (K) R I J o Z := by
  unfold pSl_charAt_22 at hp
  refine pm_iload_n dSl_charAt_0 rfl ?_
  refine pm_xload_n dSl_charAt_1 rfl ?_
  refine pm_xlen (u := 1) dSl_charAt_2 xa_52 (by decide) ?_
  refine pm_callS dSl_charAt_3 lSl_9 tSg_checkIndex (Sg_checkIndex_ok _ _ _ _ _ _ _ _ hp.1) rfl rfl (Nat.le_of_ble_eq_true rfl) (Nat.le_refl _) (Nat.le_refl _) ?_
  refine pm_xload_n dSl_charAt_6 rfl ?_
  refine pm_iload_n dSl_charAt_7 rfl ?_
  refine pm_xbald dSl_charAt_8 xa_52 hp.2.1 ?_
  refine pm_sipush (v := 255) dSl_charAt_9 (by decide) ?_
  refine pm_iand dSl_charAt_12 ?_
  refine pm_i2c dSl_charAt_13 ?_
  exact pm_zret dSl_charAt_14 rfl hp.2.2 (ho.trans (by first | rfl | (simp only [fSl_charAt_22]; done) | (simp only [fSl_charAt_22]; rfl))) (hz.trans (by first | rfl | (simp only [fSl_charAt_22]; done) | (simp only [fSl_charAt_22]; rfl)))
set_option maxHeartbeats 4000000 in
set_option maxRecDepth 100000 in
theorem Sl_charAt_22_ok (g : pmG) (d : Nat) (K : List (Nat × Nat)) (R : Nat → Nat → Value)  (x0 : Int32) (I : Nat → Nat → Int32) (J : Nat → Nat → Int64) (hp : pSl_charAt_22 x0) : pmC g kSl_charAt (d + 2) 0 0 [.retAddr 52, .int x0] (K, R, I, J) (.returned (some (.int (fSl_charAt_22 x0)))) (K, R, I, J) :=
  pmC.of (by decide) (Nat.le_of_ble_eq_true rfl) (Sl_charAt_22_n0 g d K R I J _ _  x0  hp rfl rfl)
def fSg_charAt_22  (y1 : Int32) : Int32 :=
  (fSl_charAt_22 y1)
def pSg_charAt_22  (y1 : Int32) : Prop :=
  pSg_isLatin1_22 ∧ ((pSl_charAt_22 y1) ∧ (narrow .char (.int ((fSl_charAt_22 y1))) = .int ((fSl_charAt_22 y1))))
set_option maxHeartbeats 4000000 in
set_option maxRecDepth 100000 in
theorem Sg_charAt_22_n0 (g : pmG) (d : Nat) (K : List (Nat × Nat)) (R : Nat → Nat → Value) (I : Nat → Nat → Int32) (J : Nat → Nat → Int64) (o : Outcome) (Z : pmM)  (y1 : Int32) (hp : pSg_charAt_22 y1) (ho : o = .returned (some (.int (fSg_charAt_22 y1)))) (hz : Z = (K, R, I, J)) : pmE g kSg_charAt (d + 3) 0 0 0 [(0, .retAddr 22), (1, .int y1)] [] (K) R I J o Z := by
  unfold pSg_charAt_22 at hp
  refine pm_xload_n dSg_charAt_0 rfl ?_
  refine pm_callX (x := 12) dSg_charAt_1 lSg_492 vSg_isLatin1 rfl (by decide) (Sg_isLatin1_22_ok _ _ _ _  _ _ hp.1) rfl rfl (Nat.le_of_ble_eq_true rfl) (Nat.le_refl _) (Nat.le_refl _) ?_
  refine pm_eqi (1 : Int32) rfl ?_
  refine pm_if_eq 16 dSg_charAt_4 (by decide) (fun h4 => ?_) (fun h4 => ?_)
  · exact absurd h4 (by decide)
  ·
    refine pm_xload_n dSg_charAt_7 rfl ?_
    refine pm_xvalue (x := 12) dSg_charAt_8 gSg_9 (by decide) ?_
    refine pm_iload_n dSg_charAt_11 rfl ?_
    refine pm_callS dSg_charAt_12 lSg_495 tSl_charAt (Sl_charAt_22_ok _ _ _ _ _ _ _ hp.2.1) rfl rfl (Nat.le_of_ble_eq_true rfl) (Nat.le_refl _) (Nat.le_refl _) ?_
    exact pm_zret dSg_charAt_15 rfl hp.2.2 (ho.trans (by first | rfl | (simp only [fSg_charAt_22]; done) | (simp only [fSg_charAt_22]; rfl))) (hz.trans (by first | rfl | (simp only [fSg_charAt_22]; done) | (simp only [fSg_charAt_22]; rfl)))
set_option maxHeartbeats 4000000 in
set_option maxRecDepth 100000 in
theorem Sg_charAt_22_ok (g : pmG) (d : Nat) (K : List (Nat × Nat)) (R : Nat → Nat → Value)  (x0 : Int32) (I : Nat → Nat → Int32) (J : Nat → Nat → Int64) (hp : pSg_charAt_22 x0) : pmC g kSg_charAt (d + 3) 0 0 [.retAddr 22, .int x0] (K, R, I, J) (.returned (some (.int (fSg_charAt_22 x0)))) (K, R, I, J) :=
  pmC.of (by decide) (Nat.le_of_ble_eq_true rfl) (Sg_charAt_22_n0 g d K R I J _ _  x0  hp rfl rfl)
def fSg_coder_23   : Int32 :=
  (0 : Int32)
def pSg_coder_23   : Prop :=
  True
set_option maxHeartbeats 4000000 in
set_option maxRecDepth 100000 in
theorem Sg_coder_23_n0 (g : pmG) (d : Nat) (K : List (Nat × Nat)) (R : Nat → Nat → Value) (I : Nat → Nat → Int32) (J : Nat → Nat → Int64) (o : Outcome) (Z : pmM)   (hp : pSg_coder_23) (ho : o = .returned (some (.int fSg_coder_23))) (hz : Z = (K, R, I, J)) : pmE g kSg_coder d 0 0 0 [(0, .retAddr 23)] [] (K) R I J o Z := by
  unfold pSg_coder_23 at hp
  refine pm_gets dSg_coder_0 gSg_38 xs_0 ?_
  refine pm_if_eq 13 dSg_coder_3 (by decide) (fun h3 => ?_) (fun h3 => ?_)
  · exact absurd h3 (by decide)
  ·
    refine pm_xload_n dSg_coder_6 rfl ?_
    refine pm_xcoder (x := 13) dSg_coder_7 gSg_15 (by decide) ?_
    refine pm_goto 14 dSg_coder_10 (by decide) ?_
    exact pm_zret dSg_coder_14 rfl (by first | rfl | decide) (ho.trans (by first | rfl | (simp only [fSg_coder_23]; done) | (simp only [fSg_coder_23]; rfl))) (hz.trans (by first | rfl | (simp only [fSg_coder_23]; done) | (simp only [fSg_coder_23]; rfl)))
set_option maxHeartbeats 4000000 in
set_option maxRecDepth 100000 in
theorem Sg_coder_23_ok (g : pmG) (d : Nat) (K : List (Nat × Nat)) (R : Nat → Nat → Value)   (I : Nat → Nat → Int32) (J : Nat → Nat → Int64) (hp : pSg_coder_23) : pmC g kSg_coder d 0 0 [.retAddr 23] (K, R, I, J) (.returned (some (.int fSg_coder_23))) (K, R, I, J) :=
  pmC.of (by decide) (Nat.le_of_ble_eq_true rfl) (Sg_coder_23_n0 g d K R I J _ _    hp rfl rfl)
def fSg_isLatin1_23_17   : Int32 :=
  (0 : Int32)
def pSg_isLatin1_23_17   : Prop :=
  True
def fSg_isLatin1_23   : Int32 :=
  (1 : Int32)
def pSg_isLatin1_23   : Prop :=
  True
set_option maxHeartbeats 4000000 in
set_option maxRecDepth 100000 in
theorem Sg_isLatin1_23_n17 (g : pmG) (d : Nat) (K : List (Nat × Nat)) (R : Nat → Nat → Value) (I : Nat → Nat → Int32) (J : Nat → Nat → Int64) (o : Outcome) (Z : pmM)   (hp : pSg_isLatin1_23_17) (ho : o = .returned (some (.int fSg_isLatin1_23_17))) (hz : Z = (K, R, I, J)) : pmE g kSg_isLatin1 d 0 0 17 [(0, .retAddr 23)] [] (K) R I J o Z := by
  unfold pSg_isLatin1_23_17 at hp
  refine pm_iconst (v := 0) dSg_isLatin1_17 (by decide) ?_
  exact pm_zret dSg_isLatin1_18 rfl (by first | rfl | decide) (ho.trans (by first | rfl | (simp only [fSg_isLatin1_23_17]; done) | (simp only [fSg_isLatin1_23_17]; rfl))) (hz.trans (by first | rfl | (simp only [fSg_isLatin1_23_17]; done) | (simp only [fSg_isLatin1_23_17]; rfl)))
set_option maxHeartbeats 4000000 in
set_option maxRecDepth 100000 in
theorem Sg_isLatin1_23_n0 (g : pmG) (d : Nat) (K : List (Nat × Nat)) (R : Nat → Nat → Value) (I : Nat → Nat → Int32) (J : Nat → Nat → Int64) (o : Outcome) (Z : pmM)   (hp : pSg_isLatin1_23) (ho : o = .returned (some (.int fSg_isLatin1_23))) (hz : Z = (K, R, I, J)) : pmE g kSg_isLatin1 d 0 0 0 [(0, .retAddr 23)] [] (K) R I J o Z := by
  unfold pSg_isLatin1_23 at hp
  refine pm_gets dSg_isLatin1_0 gSg_38 xs_0 ?_
  refine pm_if_eq 17 dSg_isLatin1_3 (by decide) (fun h3 => ?_) (fun h3 => ?_)
  · exact absurd h3 (by decide)
  ·
    refine pm_xload_n dSg_isLatin1_6 rfl ?_
    refine pm_xcoder (x := 13) dSg_isLatin1_7 gSg_15 (by decide) ?_
    refine pm_if_ne 17 dSg_isLatin1_10 (by decide) (fun h10 => ?_) (fun h10 => ?_)
    · exact absurd (by decide) h10
    ·
      refine pm_iconst (v := 1) dSg_isLatin1_13 (by decide) ?_
      refine pm_goto 18 dSg_isLatin1_14 (by decide) ?_
      exact pm_zret dSg_isLatin1_18 rfl (by first | rfl | decide) (ho.trans (by first | rfl | (simp only [fSg_isLatin1_23]; done) | (simp only [fSg_isLatin1_23]; rfl))) (hz.trans (by first | rfl | (simp only [fSg_isLatin1_23]; done) | (simp only [fSg_isLatin1_23]; rfl)))
set_option maxHeartbeats 4000000 in
set_option maxRecDepth 100000 in
theorem Sg_isLatin1_23_ok (g : pmG) (d : Nat) (K : List (Nat × Nat)) (R : Nat → Nat → Value)   (I : Nat → Nat → Int32) (J : Nat → Nat → Int64) (hp : pSg_isLatin1_23) : pmC g kSg_isLatin1 d 0 0 [.retAddr 23] (K, R, I, J) (.returned (some (.int fSg_isLatin1_23))) (K, R, I, J) :=
  pmC.of (by decide) (Nat.le_of_ble_eq_true rfl) (Sg_isLatin1_23_n0 g d K R I J _ _    hp rfl rfl)
def fSg_length_23   : Int32 :=
  (1 : Int32) >>> ((0 : Int32) &&& 31)
def pSg_length_23   : Prop :=
  pSg_coder_23 ∧ True
set_option maxHeartbeats 4000000 in
set_option maxRecDepth 100000 in
theorem Sg_length_23_n0 (g : pmG) (d : Nat) (K : List (Nat × Nat)) (R : Nat → Nat → Value) (I : Nat → Nat → Int32) (J : Nat → Nat → Int64) (o : Outcome) (Z : pmM)   (hp : pSg_length_23) (ho : o = .returned (some (.int fSg_length_23))) (hz : Z = (K, R, I, J)) : pmE g kSg_length (d + 1) 0 0 0 [(0, .retAddr 23)] [] (K) R I J o Z := by
  unfold pSg_length_23 at hp
  refine pm_xload_n dSg_length_0 rfl ?_
  refine pm_xvalue (x := 13) dSg_length_1 gSg_9 (by decide) ?_
  refine pm_xlen (u := 1) dSg_length_4 xa_53 (by decide) ?_
  refine pm_xload_n dSg_length_5 rfl ?_
  refine pm_callX (x := 13) dSg_length_6 lSg_335 vSg_coder rfl (by decide) (Sg_coder_23_ok _ _ _ _  _ _ hp.1) rfl rfl (Nat.le_of_ble_eq_true rfl) (Nat.le_refl _) (Nat.le_refl _) ?_
  refine pm_eqi (0 : Int32) rfl ?_
  refine pm_ishr dSg_length_9 ?_
  exact pm_iret dSg_length_10 rfl (ho.trans (by first | rfl | (simp only [fSg_length_23]; done) | (simp only [fSg_length_23]; rfl))) (hz.trans (by first | rfl | (simp only [fSg_length_23]; done) | (simp only [fSg_length_23]; rfl)))
set_option maxHeartbeats 4000000 in
set_option maxRecDepth 100000 in
theorem Sg_length_23_ok (g : pmG) (d : Nat) (K : List (Nat × Nat)) (R : Nat → Nat → Value)   (I : Nat → Nat → Int32) (J : Nat → Nat → Int64) (hp : pSg_length_23) : pmC g kSg_length (d + 1) 0 0 [.retAddr 23] (K, R, I, J) (.returned (some (.int fSg_length_23))) (K, R, I, J) :=
  pmC.of (by decide) (Nat.le_of_ble_eq_true rfl) (Sg_length_23_n0 g d K R I J _ _    hp rfl rfl)
def fSl_charAt_23  (y1 : Int32) : Int32 :=
  (((pk_B13.getD y1.toNatClampNeg 0) &&& (255 : Int32)).toUInt32 % 65536).toInt32
def pSl_charAt_23  (y1 : Int32) : Prop :=
  (pSg_checkIndex y1 (1 : Int32)) ∧ ((vp_in y1 1) ∧ (narrow .char (.int ((((pk_B13.getD y1.toNatClampNeg 0) &&& (255 : Int32)).toUInt32 % 65536).toInt32)) = .int ((((pk_B13.getD y1.toNatClampNeg 0) &&& (255 : Int32)).toUInt32 % 65536).toInt32)))
set_option maxHeartbeats 4000000 in
set_option maxRecDepth 100000 in
theorem Sl_charAt_23_n0 (g : pmG) (d : Nat) (K : List (Nat × Nat)) (R : Nat → Nat → Value) (I : Nat → Nat → Int32) (J : Nat → Nat → Int64) (o : Outcome) (Z : pmM)  (y1 : Int32) (hp : pSl_charAt_23 y1) (ho : o = .returned (some (.int (fSl_charAt_23 y1)))) (hz : Z = (K, R, I, J)) : pmE g kSl_charAt (d + 2) 0 0 0 [(0, .retAddr 53), (1, .int y1)] [] (K) R I J o Z := by
  unfold pSl_charAt_23 at hp
  refine pm_iload_n dSl_charAt_0 rfl ?_
  refine pm_xload_n dSl_charAt_1 rfl ?_
  refine pm_xlen (u := 1) dSl_charAt_2 xa_53 (by decide) ?_
  refine pm_callS dSl_charAt_3 lSl_9 tSg_checkIndex (Sg_checkIndex_ok _ _ _ _ _ _ _ _ hp.1) rfl rfl (Nat.le_of_ble_eq_true rfl) (Nat.le_refl _) (Nat.le_refl _) ?_
  refine pm_xload_n dSl_charAt_6 rfl ?_
  refine pm_iload_n dSl_charAt_7 rfl ?_
  refine pm_xbald dSl_charAt_8 xa_53 hp.2.1 ?_
  refine pm_sipush (v := 255) dSl_charAt_9 (by decide) ?_
  refine pm_iand dSl_charAt_12 ?_
  refine pm_i2c dSl_charAt_13 ?_
  exact pm_zret dSl_charAt_14 rfl hp.2.2 (ho.trans (by first | rfl | (simp only [fSl_charAt_23]; done) | (simp only [fSl_charAt_23]; rfl))) (hz.trans (by first | rfl | (simp only [fSl_charAt_23]; done) | (simp only [fSl_charAt_23]; rfl)))
set_option maxHeartbeats 4000000 in
set_option maxRecDepth 100000 in
theorem Sl_charAt_23_ok (g : pmG) (d : Nat) (K : List (Nat × Nat)) (R : Nat → Nat → Value)  (x0 : Int32) (I : Nat → Nat → Int32) (J : Nat → Nat → Int64) (hp : pSl_charAt_23 x0) : pmC g kSl_charAt (d + 2) 0 0 [.retAddr 53, .int x0] (K, R, I, J) (.returned (some (.int (fSl_charAt_23 x0)))) (K, R, I, J) :=
  pmC.of (by decide) (Nat.le_of_ble_eq_true rfl) (Sl_charAt_23_n0 g d K R I J _ _  x0  hp rfl rfl)
def fSg_charAt_23  (y1 : Int32) : Int32 :=
  (fSl_charAt_23 y1)
def pSg_charAt_23  (y1 : Int32) : Prop :=
  pSg_isLatin1_23 ∧ ((pSl_charAt_23 y1) ∧ (narrow .char (.int ((fSl_charAt_23 y1))) = .int ((fSl_charAt_23 y1))))
set_option maxHeartbeats 4000000 in
set_option maxRecDepth 100000 in
theorem Sg_charAt_23_n0 (g : pmG) (d : Nat) (K : List (Nat × Nat)) (R : Nat → Nat → Value) (I : Nat → Nat → Int32) (J : Nat → Nat → Int64) (o : Outcome) (Z : pmM)  (y1 : Int32) (hp : pSg_charAt_23 y1) (ho : o = .returned (some (.int (fSg_charAt_23 y1)))) (hz : Z = (K, R, I, J)) : pmE g kSg_charAt (d + 3) 0 0 0 [(0, .retAddr 23), (1, .int y1)] [] (K) R I J o Z := by
  unfold pSg_charAt_23 at hp
  refine pm_xload_n dSg_charAt_0 rfl ?_
  refine pm_callX (x := 13) dSg_charAt_1 lSg_492 vSg_isLatin1 rfl (by decide) (Sg_isLatin1_23_ok _ _ _ _  _ _ hp.1) rfl rfl (Nat.le_of_ble_eq_true rfl) (Nat.le_refl _) (Nat.le_refl _) ?_
  refine pm_eqi (1 : Int32) rfl ?_
  refine pm_if_eq 16 dSg_charAt_4 (by decide) (fun h4 => ?_) (fun h4 => ?_)
  · exact absurd h4 (by decide)
  ·
    refine pm_xload_n dSg_charAt_7 rfl ?_
    refine pm_xvalue (x := 13) dSg_charAt_8 gSg_9 (by decide) ?_
    refine pm_iload_n dSg_charAt_11 rfl ?_
    refine pm_callS dSg_charAt_12 lSg_495 tSl_charAt (Sl_charAt_23_ok _ _ _ _ _ _ _ hp.2.1) rfl rfl (Nat.le_of_ble_eq_true rfl) (Nat.le_refl _) (Nat.le_refl _) ?_
    exact pm_zret dSg_charAt_15 rfl hp.2.2 (ho.trans (by first | rfl | (simp only [fSg_charAt_23]; done) | (simp only [fSg_charAt_23]; rfl))) (hz.trans (by first | rfl | (simp only [fSg_charAt_23]; done) | (simp only [fSg_charAt_23]; rfl)))
set_option maxHeartbeats 4000000 in
set_option maxRecDepth 100000 in
theorem Sg_charAt_23_ok (g : pmG) (d : Nat) (K : List (Nat × Nat)) (R : Nat → Nat → Value)  (x0 : Int32) (I : Nat → Nat → Int32) (J : Nat → Nat → Int64) (hp : pSg_charAt_23 x0) : pmC g kSg_charAt (d + 3) 0 0 [.retAddr 23, .int x0] (K, R, I, J) (.returned (some (.int (fSg_charAt_23 x0)))) (K, R, I, J) :=
  pmC.of (by decide) (Nat.le_of_ble_eq_true rfl) (Sg_charAt_23_n0 g d K R I J _ _  x0  hp rfl rfl)
def fSg_coder_24   : Int32 :=
  (0 : Int32)
def pSg_coder_24   : Prop :=
  True
set_option maxHeartbeats 4000000 in
set_option maxRecDepth 100000 in
theorem Sg_coder_24_n0 (g : pmG) (d : Nat) (K : List (Nat × Nat)) (R : Nat → Nat → Value) (I : Nat → Nat → Int32) (J : Nat → Nat → Int64) (o : Outcome) (Z : pmM)   (hp : pSg_coder_24) (ho : o = .returned (some (.int fSg_coder_24))) (hz : Z = (K, R, I, J)) : pmE g kSg_coder d 0 0 0 [(0, .retAddr 24)] [] (K) R I J o Z := by
  unfold pSg_coder_24 at hp
  refine pm_gets dSg_coder_0 gSg_38 xs_0 ?_
  refine pm_if_eq 13 dSg_coder_3 (by decide) (fun h3 => ?_) (fun h3 => ?_)
  · exact absurd h3 (by decide)
  ·
    refine pm_xload_n dSg_coder_6 rfl ?_
    refine pm_xcoder (x := 14) dSg_coder_7 gSg_15 (by decide) ?_
    refine pm_goto 14 dSg_coder_10 (by decide) ?_
    exact pm_zret dSg_coder_14 rfl (by first | rfl | decide) (ho.trans (by first | rfl | (simp only [fSg_coder_24]; done) | (simp only [fSg_coder_24]; rfl))) (hz.trans (by first | rfl | (simp only [fSg_coder_24]; done) | (simp only [fSg_coder_24]; rfl)))
set_option maxHeartbeats 4000000 in
set_option maxRecDepth 100000 in
theorem Sg_coder_24_ok (g : pmG) (d : Nat) (K : List (Nat × Nat)) (R : Nat → Nat → Value)   (I : Nat → Nat → Int32) (J : Nat → Nat → Int64) (hp : pSg_coder_24) : pmC g kSg_coder d 0 0 [.retAddr 24] (K, R, I, J) (.returned (some (.int fSg_coder_24))) (K, R, I, J) :=
  pmC.of (by decide) (Nat.le_of_ble_eq_true rfl) (Sg_coder_24_n0 g d K R I J _ _    hp rfl rfl)
def fSg_isLatin1_24_17   : Int32 :=
  (0 : Int32)
def pSg_isLatin1_24_17   : Prop :=
  True
def fSg_isLatin1_24   : Int32 :=
  (1 : Int32)
def pSg_isLatin1_24   : Prop :=
  True
set_option maxHeartbeats 4000000 in
set_option maxRecDepth 100000 in
theorem Sg_isLatin1_24_n17 (g : pmG) (d : Nat) (K : List (Nat × Nat)) (R : Nat → Nat → Value) (I : Nat → Nat → Int32) (J : Nat → Nat → Int64) (o : Outcome) (Z : pmM)   (hp : pSg_isLatin1_24_17) (ho : o = .returned (some (.int fSg_isLatin1_24_17))) (hz : Z = (K, R, I, J)) : pmE g kSg_isLatin1 d 0 0 17 [(0, .retAddr 24)] [] (K) R I J o Z := by
  unfold pSg_isLatin1_24_17 at hp
  refine pm_iconst (v := 0) dSg_isLatin1_17 (by decide) ?_
  exact pm_zret dSg_isLatin1_18 rfl (by first | rfl | decide) (ho.trans (by first | rfl | (simp only [fSg_isLatin1_24_17]; done) | (simp only [fSg_isLatin1_24_17]; rfl))) (hz.trans (by first | rfl | (simp only [fSg_isLatin1_24_17]; done) | (simp only [fSg_isLatin1_24_17]; rfl)))
set_option maxHeartbeats 4000000 in
set_option maxRecDepth 100000 in
theorem Sg_isLatin1_24_n0 (g : pmG) (d : Nat) (K : List (Nat × Nat)) (R : Nat → Nat → Value) (I : Nat → Nat → Int32) (J : Nat → Nat → Int64) (o : Outcome) (Z : pmM)   (hp : pSg_isLatin1_24) (ho : o = .returned (some (.int fSg_isLatin1_24))) (hz : Z = (K, R, I, J)) : pmE g kSg_isLatin1 d 0 0 0 [(0, .retAddr 24)] [] (K) R I J o Z := by
  unfold pSg_isLatin1_24 at hp
  refine pm_gets dSg_isLatin1_0 gSg_38 xs_0 ?_
  refine pm_if_eq 17 dSg_isLatin1_3 (by decide) (fun h3 => ?_) (fun h3 => ?_)
  · exact absurd h3 (by decide)
  ·
    refine pm_xload_n dSg_isLatin1_6 rfl ?_
    refine pm_xcoder (x := 14) dSg_isLatin1_7 gSg_15 (by decide) ?_
    refine pm_if_ne 17 dSg_isLatin1_10 (by decide) (fun h10 => ?_) (fun h10 => ?_)
    · exact absurd (by decide) h10
    ·
      refine pm_iconst (v := 1) dSg_isLatin1_13 (by decide) ?_
      refine pm_goto 18 dSg_isLatin1_14 (by decide) ?_
      exact pm_zret dSg_isLatin1_18 rfl (by first | rfl | decide) (ho.trans (by first | rfl | (simp only [fSg_isLatin1_24]; done) | (simp only [fSg_isLatin1_24]; rfl))) (hz.trans (by first | rfl | (simp only [fSg_isLatin1_24]; done) | (simp only [fSg_isLatin1_24]; rfl)))
set_option maxHeartbeats 4000000 in
set_option maxRecDepth 100000 in
theorem Sg_isLatin1_24_ok (g : pmG) (d : Nat) (K : List (Nat × Nat)) (R : Nat → Nat → Value)   (I : Nat → Nat → Int32) (J : Nat → Nat → Int64) (hp : pSg_isLatin1_24) : pmC g kSg_isLatin1 d 0 0 [.retAddr 24] (K, R, I, J) (.returned (some (.int fSg_isLatin1_24))) (K, R, I, J) :=
  pmC.of (by decide) (Nat.le_of_ble_eq_true rfl) (Sg_isLatin1_24_n0 g d K R I J _ _    hp rfl rfl)
def fSg_length_24   : Int32 :=
  (1 : Int32) >>> ((0 : Int32) &&& 31)
def pSg_length_24   : Prop :=
  pSg_coder_24 ∧ True
set_option maxHeartbeats 4000000 in
set_option maxRecDepth 100000 in
theorem Sg_length_24_n0 (g : pmG) (d : Nat) (K : List (Nat × Nat)) (R : Nat → Nat → Value) (I : Nat → Nat → Int32) (J : Nat → Nat → Int64) (o : Outcome) (Z : pmM)   (hp : pSg_length_24) (ho : o = .returned (some (.int fSg_length_24))) (hz : Z = (K, R, I, J)) : pmE g kSg_length (d + 1) 0 0 0 [(0, .retAddr 24)] [] (K) R I J o Z := by
  unfold pSg_length_24 at hp
  refine pm_xload_n dSg_length_0 rfl ?_
  refine pm_xvalue (x := 14) dSg_length_1 gSg_9 (by decide) ?_
  refine pm_xlen (u := 1) dSg_length_4 xa_54 (by decide) ?_
  refine pm_xload_n dSg_length_5 rfl ?_
  refine pm_callX (x := 14) dSg_length_6 lSg_335 vSg_coder rfl (by decide) (Sg_coder_24_ok _ _ _ _  _ _ hp.1) rfl rfl (Nat.le_of_ble_eq_true rfl) (Nat.le_refl _) (Nat.le_refl _) ?_
  refine pm_eqi (0 : Int32) rfl ?_
  refine pm_ishr dSg_length_9 ?_
  exact pm_iret dSg_length_10 rfl (ho.trans (by first | rfl | (simp only [fSg_length_24]; done) | (simp only [fSg_length_24]; rfl))) (hz.trans (by first | rfl | (simp only [fSg_length_24]; done) | (simp only [fSg_length_24]; rfl)))
set_option maxHeartbeats 4000000 in
set_option maxRecDepth 100000 in
theorem Sg_length_24_ok (g : pmG) (d : Nat) (K : List (Nat × Nat)) (R : Nat → Nat → Value)   (I : Nat → Nat → Int32) (J : Nat → Nat → Int64) (hp : pSg_length_24) : pmC g kSg_length (d + 1) 0 0 [.retAddr 24] (K, R, I, J) (.returned (some (.int fSg_length_24))) (K, R, I, J) :=
  pmC.of (by decide) (Nat.le_of_ble_eq_true rfl) (Sg_length_24_n0 g d K R I J _ _    hp rfl rfl)
def fSl_charAt_24  (y1 : Int32) : Int32 :=
  (((pk_B14.getD y1.toNatClampNeg 0) &&& (255 : Int32)).toUInt32 % 65536).toInt32
def pSl_charAt_24  (y1 : Int32) : Prop :=
  (pSg_checkIndex y1 (1 : Int32)) ∧ ((vp_in y1 1) ∧ (narrow .char (.int ((((pk_B14.getD y1.toNatClampNeg 0) &&& (255 : Int32)).toUInt32 % 65536).toInt32)) = .int ((((pk_B14.getD y1.toNatClampNeg 0) &&& (255 : Int32)).toUInt32 % 65536).toInt32)))
set_option maxHeartbeats 4000000 in
set_option maxRecDepth 100000 in
theorem Sl_charAt_24_n0 (g : pmG) (d : Nat) (K : List (Nat × Nat)) (R : Nat → Nat → Value) (I : Nat → Nat → Int32) (J : Nat → Nat → Int64) (o : Outcome) (Z : pmM)  (y1 : Int32) (hp : pSl_charAt_24 y1) (ho : o = .returned (some (.int (fSl_charAt_24 y1)))) (hz : Z = (K, R, I, J)) : pmE g kSl_charAt (d + 2) 0 0 0 [(0, .retAddr 54), (1, .int y1)] [] (K) R I J o Z := by
  unfold pSl_charAt_24 at hp
  refine pm_iload_n dSl_charAt_0 rfl ?_
  refine pm_xload_n dSl_charAt_1 rfl ?_
  refine pm_xlen (u := 1) dSl_charAt_2 xa_54 (by decide) ?_
  refine pm_callS dSl_charAt_3 lSl_9 tSg_checkIndex (Sg_checkIndex_ok _ _ _ _ _ _ _ _ hp.1) rfl rfl (Nat.le_of_ble_eq_true rfl) (Nat.le_refl _) (Nat.le_refl _) ?_
  refine pm_xload_n dSl_charAt_6 rfl ?_
  refine pm_iload_n dSl_charAt_7 rfl ?_
  refine pm_xbald dSl_charAt_8 xa_54 hp.2.1 ?_
  refine pm_sipush (v := 255) dSl_charAt_9 (by decide) ?_
  refine pm_iand dSl_charAt_12 ?_
  refine pm_i2c dSl_charAt_13 ?_
  exact pm_zret dSl_charAt_14 rfl hp.2.2 (ho.trans (by first | rfl | (simp only [fSl_charAt_24]; done) | (simp only [fSl_charAt_24]; rfl))) (hz.trans (by first | rfl | (simp only [fSl_charAt_24]; done) | (simp only [fSl_charAt_24]; rfl)))
set_option maxHeartbeats 4000000 in
set_option maxRecDepth 100000 in
theorem Sl_charAt_24_ok (g : pmG) (d : Nat) (K : List (Nat × Nat)) (R : Nat → Nat → Value)  (x0 : Int32) (I : Nat → Nat → Int32) (J : Nat → Nat → Int64) (hp : pSl_charAt_24 x0) : pmC g kSl_charAt (d + 2) 0 0 [.retAddr 54, .int x0] (K, R, I, J) (.returned (some (.int (fSl_charAt_24 x0)))) (K, R, I, J) :=
  pmC.of (by decide) (Nat.le_of_ble_eq_true rfl) (Sl_charAt_24_n0 g d K R I J _ _  x0  hp rfl rfl)
def fSg_charAt_24  (y1 : Int32) : Int32 :=
  (fSl_charAt_24 y1)
def pSg_charAt_24  (y1 : Int32) : Prop :=
  pSg_isLatin1_24 ∧ ((pSl_charAt_24 y1) ∧ (narrow .char (.int ((fSl_charAt_24 y1))) = .int ((fSl_charAt_24 y1))))
set_option maxHeartbeats 4000000 in
set_option maxRecDepth 100000 in
theorem Sg_charAt_24_n0 (g : pmG) (d : Nat) (K : List (Nat × Nat)) (R : Nat → Nat → Value) (I : Nat → Nat → Int32) (J : Nat → Nat → Int64) (o : Outcome) (Z : pmM)  (y1 : Int32) (hp : pSg_charAt_24 y1) (ho : o = .returned (some (.int (fSg_charAt_24 y1)))) (hz : Z = (K, R, I, J)) : pmE g kSg_charAt (d + 3) 0 0 0 [(0, .retAddr 24), (1, .int y1)] [] (K) R I J o Z := by
  unfold pSg_charAt_24 at hp
  refine pm_xload_n dSg_charAt_0 rfl ?_
  refine pm_callX (x := 14) dSg_charAt_1 lSg_492 vSg_isLatin1 rfl (by decide) (Sg_isLatin1_24_ok _ _ _ _  _ _ hp.1) rfl rfl (Nat.le_of_ble_eq_true rfl) (Nat.le_refl _) (Nat.le_refl _) ?_
  refine pm_eqi (1 : Int32) rfl ?_
  refine pm_if_eq 16 dSg_charAt_4 (by decide) (fun h4 => ?_) (fun h4 => ?_)
  · exact absurd h4 (by decide)
  ·
    refine pm_xload_n dSg_charAt_7 rfl ?_
    refine pm_xvalue (x := 14) dSg_charAt_8 gSg_9 (by decide) ?_
    refine pm_iload_n dSg_charAt_11 rfl ?_
    refine pm_callS dSg_charAt_12 lSg_495 tSl_charAt (Sl_charAt_24_ok _ _ _ _ _ _ _ hp.2.1) rfl rfl (Nat.le_of_ble_eq_true rfl) (Nat.le_refl _) (Nat.le_refl _) ?_
    exact pm_zret dSg_charAt_15 rfl hp.2.2 (ho.trans (by first | rfl | (simp only [fSg_charAt_24]; done) | (simp only [fSg_charAt_24]; rfl))) (hz.trans (by first | rfl | (simp only [fSg_charAt_24]; done) | (simp only [fSg_charAt_24]; rfl)))
set_option maxHeartbeats 4000000 in
set_option maxRecDepth 100000 in
theorem Sg_charAt_24_ok (g : pmG) (d : Nat) (K : List (Nat × Nat)) (R : Nat → Nat → Value)  (x0 : Int32) (I : Nat → Nat → Int32) (J : Nat → Nat → Int64) (hp : pSg_charAt_24 x0) : pmC g kSg_charAt (d + 3) 0 0 [.retAddr 24, .int x0] (K, R, I, J) (.returned (some (.int (fSg_charAt_24 x0)))) (K, R, I, J) :=
  pmC.of (by decide) (Nat.le_of_ble_eq_true rfl) (Sg_charAt_24_n0 g d K R I J _ _  x0  hp rfl rfl)
def fSg_coder_25   : Int32 :=
  (0 : Int32)
def pSg_coder_25   : Prop :=
  True
set_option maxHeartbeats 4000000 in
set_option maxRecDepth 100000 in
theorem Sg_coder_25_n0 (g : pmG) (d : Nat) (K : List (Nat × Nat)) (R : Nat → Nat → Value) (I : Nat → Nat → Int32) (J : Nat → Nat → Int64) (o : Outcome) (Z : pmM)   (hp : pSg_coder_25) (ho : o = .returned (some (.int fSg_coder_25))) (hz : Z = (K, R, I, J)) : pmE g kSg_coder d 0 0 0 [(0, .retAddr 25)] [] (K) R I J o Z := by
  unfold pSg_coder_25 at hp
  refine pm_gets dSg_coder_0 gSg_38 xs_0 ?_
  refine pm_if_eq 13 dSg_coder_3 (by decide) (fun h3 => ?_) (fun h3 => ?_)
  · exact absurd h3 (by decide)
  ·
    refine pm_xload_n dSg_coder_6 rfl ?_
    refine pm_xcoder (x := 15) dSg_coder_7 gSg_15 (by decide) ?_
    refine pm_goto 14 dSg_coder_10 (by decide) ?_
    exact pm_zret dSg_coder_14 rfl (by first | rfl | decide) (ho.trans (by first | rfl | (simp only [fSg_coder_25]; done) | (simp only [fSg_coder_25]; rfl))) (hz.trans (by first | rfl | (simp only [fSg_coder_25]; done) | (simp only [fSg_coder_25]; rfl)))
set_option maxHeartbeats 4000000 in
set_option maxRecDepth 100000 in
theorem Sg_coder_25_ok (g : pmG) (d : Nat) (K : List (Nat × Nat)) (R : Nat → Nat → Value)   (I : Nat → Nat → Int32) (J : Nat → Nat → Int64) (hp : pSg_coder_25) : pmC g kSg_coder d 0 0 [.retAddr 25] (K, R, I, J) (.returned (some (.int fSg_coder_25))) (K, R, I, J) :=
  pmC.of (by decide) (Nat.le_of_ble_eq_true rfl) (Sg_coder_25_n0 g d K R I J _ _    hp rfl rfl)
def fSg_isLatin1_25_17   : Int32 :=
  (0 : Int32)
def pSg_isLatin1_25_17   : Prop :=
  True
def fSg_isLatin1_25   : Int32 :=
  (1 : Int32)
def pSg_isLatin1_25   : Prop :=
  True
set_option maxHeartbeats 4000000 in
set_option maxRecDepth 100000 in
theorem Sg_isLatin1_25_n17 (g : pmG) (d : Nat) (K : List (Nat × Nat)) (R : Nat → Nat → Value) (I : Nat → Nat → Int32) (J : Nat → Nat → Int64) (o : Outcome) (Z : pmM)   (hp : pSg_isLatin1_25_17) (ho : o = .returned (some (.int fSg_isLatin1_25_17))) (hz : Z = (K, R, I, J)) : pmE g kSg_isLatin1 d 0 0 17 [(0, .retAddr 25)] [] (K) R I J o Z := by
  unfold pSg_isLatin1_25_17 at hp
  refine pm_iconst (v := 0) dSg_isLatin1_17 (by decide) ?_
  exact pm_zret dSg_isLatin1_18 rfl (by first | rfl | decide) (ho.trans (by first | rfl | (simp only [fSg_isLatin1_25_17]; done) | (simp only [fSg_isLatin1_25_17]; rfl))) (hz.trans (by first | rfl | (simp only [fSg_isLatin1_25_17]; done) | (simp only [fSg_isLatin1_25_17]; rfl)))
set_option maxHeartbeats 4000000 in
set_option maxRecDepth 100000 in
theorem Sg_isLatin1_25_n0 (g : pmG) (d : Nat) (K : List (Nat × Nat)) (R : Nat → Nat → Value) (I : Nat → Nat → Int32) (J : Nat → Nat → Int64) (o : Outcome) (Z : pmM)   (hp : pSg_isLatin1_25) (ho : o = .returned (some (.int fSg_isLatin1_25))) (hz : Z = (K, R, I, J)) : pmE g kSg_isLatin1 d 0 0 0 [(0, .retAddr 25)] [] (K) R I J o Z := by
  unfold pSg_isLatin1_25 at hp
  refine pm_gets dSg_isLatin1_0 gSg_38 xs_0 ?_
  refine pm_if_eq 17 dSg_isLatin1_3 (by decide) (fun h3 => ?_) (fun h3 => ?_)
  · exact absurd h3 (by decide)
  ·
    refine pm_xload_n dSg_isLatin1_6 rfl ?_
    refine pm_xcoder (x := 15) dSg_isLatin1_7 gSg_15 (by decide) ?_
    refine pm_if_ne 17 dSg_isLatin1_10 (by decide) (fun h10 => ?_) (fun h10 => ?_)
    · exact absurd (by decide) h10
    ·
      refine pm_iconst (v := 1) dSg_isLatin1_13 (by decide) ?_
      refine pm_goto 18 dSg_isLatin1_14 (by decide) ?_
      exact pm_zret dSg_isLatin1_18 rfl (by first | rfl | decide) (ho.trans (by first | rfl | (simp only [fSg_isLatin1_25]; done) | (simp only [fSg_isLatin1_25]; rfl))) (hz.trans (by first | rfl | (simp only [fSg_isLatin1_25]; done) | (simp only [fSg_isLatin1_25]; rfl)))
set_option maxHeartbeats 4000000 in
set_option maxRecDepth 100000 in
theorem Sg_isLatin1_25_ok (g : pmG) (d : Nat) (K : List (Nat × Nat)) (R : Nat → Nat → Value)   (I : Nat → Nat → Int32) (J : Nat → Nat → Int64) (hp : pSg_isLatin1_25) : pmC g kSg_isLatin1 d 0 0 [.retAddr 25] (K, R, I, J) (.returned (some (.int fSg_isLatin1_25))) (K, R, I, J) :=
  pmC.of (by decide) (Nat.le_of_ble_eq_true rfl) (Sg_isLatin1_25_n0 g d K R I J _ _    hp rfl rfl)
def fSg_length_25   : Int32 :=
  (2 : Int32) >>> ((0 : Int32) &&& 31)
def pSg_length_25   : Prop :=
  pSg_coder_25 ∧ True
set_option maxHeartbeats 4000000 in
set_option maxRecDepth 100000 in
theorem Sg_length_25_n0 (g : pmG) (d : Nat) (K : List (Nat × Nat)) (R : Nat → Nat → Value) (I : Nat → Nat → Int32) (J : Nat → Nat → Int64) (o : Outcome) (Z : pmM)   (hp : pSg_length_25) (ho : o = .returned (some (.int fSg_length_25))) (hz : Z = (K, R, I, J)) : pmE g kSg_length (d + 1) 0 0 0 [(0, .retAddr 25)] [] (K) R I J o Z := by
  unfold pSg_length_25 at hp
  refine pm_xload_n dSg_length_0 rfl ?_
  refine pm_xvalue (x := 15) dSg_length_1 gSg_9 (by decide) ?_
  refine pm_xlen (u := 2) dSg_length_4 xa_55 (by decide) ?_
  refine pm_xload_n dSg_length_5 rfl ?_
  refine pm_callX (x := 15) dSg_length_6 lSg_335 vSg_coder rfl (by decide) (Sg_coder_25_ok _ _ _ _  _ _ hp.1) rfl rfl (Nat.le_of_ble_eq_true rfl) (Nat.le_refl _) (Nat.le_refl _) ?_
  refine pm_eqi (0 : Int32) rfl ?_
  refine pm_ishr dSg_length_9 ?_
  exact pm_iret dSg_length_10 rfl (ho.trans (by first | rfl | (simp only [fSg_length_25]; done) | (simp only [fSg_length_25]; rfl))) (hz.trans (by first | rfl | (simp only [fSg_length_25]; done) | (simp only [fSg_length_25]; rfl)))
set_option maxHeartbeats 4000000 in
set_option maxRecDepth 100000 in
theorem Sg_length_25_ok (g : pmG) (d : Nat) (K : List (Nat × Nat)) (R : Nat → Nat → Value)   (I : Nat → Nat → Int32) (J : Nat → Nat → Int64) (hp : pSg_length_25) : pmC g kSg_length (d + 1) 0 0 [.retAddr 25] (K, R, I, J) (.returned (some (.int fSg_length_25))) (K, R, I, J) :=
  pmC.of (by decide) (Nat.le_of_ble_eq_true rfl) (Sg_length_25_n0 g d K R I J _ _    hp rfl rfl)
def fSl_charAt_25  (y1 : Int32) : Int32 :=
  (((pk_B15.getD y1.toNatClampNeg 0) &&& (255 : Int32)).toUInt32 % 65536).toInt32
def pSl_charAt_25  (y1 : Int32) : Prop :=
  (pSg_checkIndex y1 (2 : Int32)) ∧ ((vp_in y1 2) ∧ (narrow .char (.int ((((pk_B15.getD y1.toNatClampNeg 0) &&& (255 : Int32)).toUInt32 % 65536).toInt32)) = .int ((((pk_B15.getD y1.toNatClampNeg 0) &&& (255 : Int32)).toUInt32 % 65536).toInt32)))
set_option maxHeartbeats 4000000 in
set_option maxRecDepth 100000 in
theorem Sl_charAt_25_n0 (g : pmG) (d : Nat) (K : List (Nat × Nat)) (R : Nat → Nat → Value) (I : Nat → Nat → Int32) (J : Nat → Nat → Int64) (o : Outcome) (Z : pmM)  (y1 : Int32) (hp : pSl_charAt_25 y1) (ho : o = .returned (some (.int (fSl_charAt_25 y1)))) (hz : Z = (K, R, I, J)) : pmE g kSl_charAt (d + 2) 0 0 0 [(0, .retAddr 55), (1, .int y1)] [] (K) R I J o Z := by
  unfold pSl_charAt_25 at hp
  refine pm_iload_n dSl_charAt_0 rfl ?_
  refine pm_xload_n dSl_charAt_1 rfl ?_
  refine pm_xlen (u := 2) dSl_charAt_2 xa_55 (by decide) ?_
  refine pm_callS dSl_charAt_3 lSl_9 tSg_checkIndex (Sg_checkIndex_ok _ _ _ _ _ _ _ _ hp.1) rfl rfl (Nat.le_of_ble_eq_true rfl) (Nat.le_refl _) (Nat.le_refl _) ?_
  refine pm_xload_n dSl_charAt_6 rfl ?_
  refine pm_iload_n dSl_charAt_7 rfl ?_
  refine pm_xbald dSl_charAt_8 xa_55 hp.2.1 ?_
  refine pm_sipush (v := 255) dSl_charAt_9 (by decide) ?_
  refine pm_iand dSl_charAt_12 ?_
  refine pm_i2c dSl_charAt_13 ?_
  exact pm_zret dSl_charAt_14 rfl hp.2.2 (ho.trans (by first | rfl | (simp only [fSl_charAt_25]; done) | (simp only [fSl_charAt_25]; rfl))) (hz.trans (by first | rfl | (simp only [fSl_charAt_25]; done) | (simp only [fSl_charAt_25]; rfl)))
set_option maxHeartbeats 4000000 in
set_option maxRecDepth 100000 in
theorem Sl_charAt_25_ok (g : pmG) (d : Nat) (K : List (Nat × Nat)) (R : Nat → Nat → Value)  (x0 : Int32) (I : Nat → Nat → Int32) (J : Nat → Nat → Int64) (hp : pSl_charAt_25 x0) : pmC g kSl_charAt (d + 2) 0 0 [.retAddr 55, .int x0] (K, R, I, J) (.returned (some (.int (fSl_charAt_25 x0)))) (K, R, I, J) :=
  pmC.of (by decide) (Nat.le_of_ble_eq_true rfl) (Sl_charAt_25_n0 g d K R I J _ _  x0  hp rfl rfl)
def fSg_charAt_25  (y1 : Int32) : Int32 :=
  (fSl_charAt_25 y1)
def pSg_charAt_25  (y1 : Int32) : Prop :=
  pSg_isLatin1_25 ∧ ((pSl_charAt_25 y1) ∧ (narrow .char (.int ((fSl_charAt_25 y1))) = .int ((fSl_charAt_25 y1))))
set_option maxHeartbeats 4000000 in
set_option maxRecDepth 100000 in
theorem Sg_charAt_25_n0 (g : pmG) (d : Nat) (K : List (Nat × Nat)) (R : Nat → Nat → Value) (I : Nat → Nat → Int32) (J : Nat → Nat → Int64) (o : Outcome) (Z : pmM)  (y1 : Int32) (hp : pSg_charAt_25 y1) (ho : o = .returned (some (.int (fSg_charAt_25 y1)))) (hz : Z = (K, R, I, J)) : pmE g kSg_charAt (d + 3) 0 0 0 [(0, .retAddr 25), (1, .int y1)] [] (K) R I J o Z := by
  unfold pSg_charAt_25 at hp
  refine pm_xload_n dSg_charAt_0 rfl ?_
  refine pm_callX (x := 15) dSg_charAt_1 lSg_492 vSg_isLatin1 rfl (by decide) (Sg_isLatin1_25_ok _ _ _ _  _ _ hp.1) rfl rfl (Nat.le_of_ble_eq_true rfl) (Nat.le_refl _) (Nat.le_refl _) ?_
  refine pm_eqi (1 : Int32) rfl ?_
  refine pm_if_eq 16 dSg_charAt_4 (by decide) (fun h4 => ?_) (fun h4 => ?_)
  · exact absurd h4 (by decide)
  ·
    refine pm_xload_n dSg_charAt_7 rfl ?_
    refine pm_xvalue (x := 15) dSg_charAt_8 gSg_9 (by decide) ?_
    refine pm_iload_n dSg_charAt_11 rfl ?_
    refine pm_callS dSg_charAt_12 lSg_495 tSl_charAt (Sl_charAt_25_ok _ _ _ _ _ _ _ hp.2.1) rfl rfl (Nat.le_of_ble_eq_true rfl) (Nat.le_refl _) (Nat.le_refl _) ?_
    exact pm_zret dSg_charAt_15 rfl hp.2.2 (ho.trans (by first | rfl | (simp only [fSg_charAt_25]; done) | (simp only [fSg_charAt_25]; rfl))) (hz.trans (by first | rfl | (simp only [fSg_charAt_25]; done) | (simp only [fSg_charAt_25]; rfl)))
set_option maxHeartbeats 4000000 in
set_option maxRecDepth 100000 in
theorem Sg_charAt_25_ok (g : pmG) (d : Nat) (K : List (Nat × Nat)) (R : Nat → Nat → Value)  (x0 : Int32) (I : Nat → Nat → Int32) (J : Nat → Nat → Int64) (hp : pSg_charAt_25 x0) : pmC g kSg_charAt (d + 3) 0 0 [.retAddr 25, .int x0] (K, R, I, J) (.returned (some (.int (fSg_charAt_25 x0)))) (K, R, I, J) :=
  pmC.of (by decide) (Nat.le_of_ble_eq_true rfl) (Sg_charAt_25_n0 g d K R I J _ _  x0  hp rfl rfl)
def fSg_coder_26   : Int32 :=
  (0 : Int32)
def pSg_coder_26   : Prop :=
  True
set_option maxHeartbeats 4000000 in
set_option maxRecDepth 100000 in
theorem Sg_coder_26_n0 (g : pmG) (d : Nat) (K : List (Nat × Nat)) (R : Nat → Nat → Value) (I : Nat → Nat → Int32) (J : Nat → Nat → Int64) (o : Outcome) (Z : pmM)   (hp : pSg_coder_26) (ho : o = .returned (some (.int fSg_coder_26))) (hz : Z = (K, R, I, J)) : pmE g kSg_coder d 0 0 0 [(0, .retAddr 26)] [] (K) R I J o Z := by
  unfold pSg_coder_26 at hp
  refine pm_gets dSg_coder_0 gSg_38 xs_0 ?_
  refine pm_if_eq 13 dSg_coder_3 (by decide) (fun h3 => ?_) (fun h3 => ?_)
  · exact absurd h3 (by decide)
  ·
    refine pm_xload_n dSg_coder_6 rfl ?_
    refine pm_xcoder (x := 16) dSg_coder_7 gSg_15 (by decide) ?_
    refine pm_goto 14 dSg_coder_10 (by decide) ?_
    exact pm_zret dSg_coder_14 rfl (by first | rfl | decide) (ho.trans (by first | rfl | (simp only [fSg_coder_26]; done) | (simp only [fSg_coder_26]; rfl))) (hz.trans (by first | rfl | (simp only [fSg_coder_26]; done) | (simp only [fSg_coder_26]; rfl)))
set_option maxHeartbeats 4000000 in
set_option maxRecDepth 100000 in
theorem Sg_coder_26_ok (g : pmG) (d : Nat) (K : List (Nat × Nat)) (R : Nat → Nat → Value)   (I : Nat → Nat → Int32) (J : Nat → Nat → Int64) (hp : pSg_coder_26) : pmC g kSg_coder d 0 0 [.retAddr 26] (K, R, I, J) (.returned (some (.int fSg_coder_26))) (K, R, I, J) :=
  pmC.of (by decide) (Nat.le_of_ble_eq_true rfl) (Sg_coder_26_n0 g d K R I J _ _    hp rfl rfl)
def fSg_isLatin1_26_17   : Int32 :=
  (0 : Int32)
def pSg_isLatin1_26_17   : Prop :=
  True
def fSg_isLatin1_26   : Int32 :=
  (1 : Int32)
def pSg_isLatin1_26   : Prop :=
  True
set_option maxHeartbeats 4000000 in
set_option maxRecDepth 100000 in
theorem Sg_isLatin1_26_n17 (g : pmG) (d : Nat) (K : List (Nat × Nat)) (R : Nat → Nat → Value) (I : Nat → Nat → Int32) (J : Nat → Nat → Int64) (o : Outcome) (Z : pmM)   (hp : pSg_isLatin1_26_17) (ho : o = .returned (some (.int fSg_isLatin1_26_17))) (hz : Z = (K, R, I, J)) : pmE g kSg_isLatin1 d 0 0 17 [(0, .retAddr 26)] [] (K) R I J o Z := by
  unfold pSg_isLatin1_26_17 at hp
  refine pm_iconst (v := 0) dSg_isLatin1_17 (by decide) ?_
  exact pm_zret dSg_isLatin1_18 rfl (by first | rfl | decide) (ho.trans (by first | rfl | (simp only [fSg_isLatin1_26_17]; done) | (simp only [fSg_isLatin1_26_17]; rfl))) (hz.trans (by first | rfl | (simp only [fSg_isLatin1_26_17]; done) | (simp only [fSg_isLatin1_26_17]; rfl)))
set_option maxHeartbeats 4000000 in
set_option maxRecDepth 100000 in
theorem Sg_isLatin1_26_n0 (g : pmG) (d : Nat) (K : List (Nat × Nat)) (R : Nat → Nat → Value) (I : Nat → Nat → Int32) (J : Nat → Nat → Int64) (o : Outcome) (Z : pmM)   (hp : pSg_isLatin1_26) (ho : o = .returned (some (.int fSg_isLatin1_26))) (hz : Z = (K, R, I, J)) : pmE g kSg_isLatin1 d 0 0 0 [(0, .retAddr 26)] [] (K) R I J o Z := by
  unfold pSg_isLatin1_26 at hp
  refine pm_gets dSg_isLatin1_0 gSg_38 xs_0 ?_
  refine pm_if_eq 17 dSg_isLatin1_3 (by decide) (fun h3 => ?_) (fun h3 => ?_)
  · exact absurd h3 (by decide)
  ·
    refine pm_xload_n dSg_isLatin1_6 rfl ?_
    refine pm_xcoder (x := 16) dSg_isLatin1_7 gSg_15 (by decide) ?_
    refine pm_if_ne 17 dSg_isLatin1_10 (by decide) (fun h10 => ?_) (fun h10 => ?_)
    · exact absurd (by decide) h10
    ·
      refine pm_iconst (v := 1) dSg_isLatin1_13 (by decide) ?_
      refine pm_goto 18 dSg_isLatin1_14 (by decide) ?_
      exact pm_zret dSg_isLatin1_18 rfl (by first | rfl | decide) (ho.trans (by first | rfl | (simp only [fSg_isLatin1_26]; done) | (simp only [fSg_isLatin1_26]; rfl))) (hz.trans (by first | rfl | (simp only [fSg_isLatin1_26]; done) | (simp only [fSg_isLatin1_26]; rfl)))
set_option maxHeartbeats 4000000 in
set_option maxRecDepth 100000 in
theorem Sg_isLatin1_26_ok (g : pmG) (d : Nat) (K : List (Nat × Nat)) (R : Nat → Nat → Value)   (I : Nat → Nat → Int32) (J : Nat → Nat → Int64) (hp : pSg_isLatin1_26) : pmC g kSg_isLatin1 d 0 0 [.retAddr 26] (K, R, I, J) (.returned (some (.int fSg_isLatin1_26))) (K, R, I, J) :=
  pmC.of (by decide) (Nat.le_of_ble_eq_true rfl) (Sg_isLatin1_26_n0 g d K R I J _ _    hp rfl rfl)
def fSg_length_26   : Int32 :=
  (2 : Int32) >>> ((0 : Int32) &&& 31)
def pSg_length_26   : Prop :=
  pSg_coder_26 ∧ True
set_option maxHeartbeats 4000000 in
set_option maxRecDepth 100000 in
theorem Sg_length_26_n0 (g : pmG) (d : Nat) (K : List (Nat × Nat)) (R : Nat → Nat → Value) (I : Nat → Nat → Int32) (J : Nat → Nat → Int64) (o : Outcome) (Z : pmM)   (hp : pSg_length_26) (ho : o = .returned (some (.int fSg_length_26))) (hz : Z = (K, R, I, J)) : pmE g kSg_length (d + 1) 0 0 0 [(0, .retAddr 26)] [] (K) R I J o Z := by
  unfold pSg_length_26 at hp
  refine pm_xload_n dSg_length_0 rfl ?_
  refine pm_xvalue (x := 16) dSg_length_1 gSg_9 (by decide) ?_
  refine pm_xlen (u := 2) dSg_length_4 xa_56 (by decide) ?_
  refine pm_xload_n dSg_length_5 rfl ?_
  refine pm_callX (x := 16) dSg_length_6 lSg_335 vSg_coder rfl (by decide) (Sg_coder_26_ok _ _ _ _  _ _ hp.1) rfl rfl (Nat.le_of_ble_eq_true rfl) (Nat.le_refl _) (Nat.le_refl _) ?_
  refine pm_eqi (0 : Int32) rfl ?_
  refine pm_ishr dSg_length_9 ?_
  exact pm_iret dSg_length_10 rfl (ho.trans (by first | rfl | (simp only [fSg_length_26]; done) | (simp only [fSg_length_26]; rfl))) (hz.trans (by first | rfl | (simp only [fSg_length_26]; done) | (simp only [fSg_length_26]; rfl)))
set_option maxHeartbeats 4000000 in
set_option maxRecDepth 100000 in
theorem Sg_length_26_ok (g : pmG) (d : Nat) (K : List (Nat × Nat)) (R : Nat → Nat → Value)   (I : Nat → Nat → Int32) (J : Nat → Nat → Int64) (hp : pSg_length_26) : pmC g kSg_length (d + 1) 0 0 [.retAddr 26] (K, R, I, J) (.returned (some (.int fSg_length_26))) (K, R, I, J) :=
  pmC.of (by decide) (Nat.le_of_ble_eq_true rfl) (Sg_length_26_n0 g d K R I J _ _    hp rfl rfl)
def fSl_charAt_26  (y1 : Int32) : Int32 :=
  (((pk_B16.getD y1.toNatClampNeg 0) &&& (255 : Int32)).toUInt32 % 65536).toInt32
def pSl_charAt_26  (y1 : Int32) : Prop :=
  (pSg_checkIndex y1 (2 : Int32)) ∧ ((vp_in y1 2) ∧ (narrow .char (.int ((((pk_B16.getD y1.toNatClampNeg 0) &&& (255 : Int32)).toUInt32 % 65536).toInt32)) = .int ((((pk_B16.getD y1.toNatClampNeg 0) &&& (255 : Int32)).toUInt32 % 65536).toInt32)))
set_option maxHeartbeats 4000000 in
set_option maxRecDepth 100000 in
theorem Sl_charAt_26_n0 (g : pmG) (d : Nat) (K : List (Nat × Nat)) (R : Nat → Nat → Value) (I : Nat → Nat → Int32) (J : Nat → Nat → Int64) (o : Outcome) (Z : pmM)  (y1 : Int32) (hp : pSl_charAt_26 y1) (ho : o = .returned (some (.int (fSl_charAt_26 y1)))) (hz : Z = (K, R, I, J)) : pmE g kSl_charAt (d + 2) 0 0 0 [(0, .retAddr 56), (1, .int y1)] [] (K) R I J o Z := by
  unfold pSl_charAt_26 at hp
  refine pm_iload_n dSl_charAt_0 rfl ?_
  refine pm_xload_n dSl_charAt_1 rfl ?_
  refine pm_xlen (u := 2) dSl_charAt_2 xa_56 (by decide) ?_
  refine pm_callS dSl_charAt_3 lSl_9 tSg_checkIndex (Sg_checkIndex_ok _ _ _ _ _ _ _ _ hp.1) rfl rfl (Nat.le_of_ble_eq_true rfl) (Nat.le_refl _) (Nat.le_refl _) ?_
  refine pm_xload_n dSl_charAt_6 rfl ?_
  refine pm_iload_n dSl_charAt_7 rfl ?_
  refine pm_xbald dSl_charAt_8 xa_56 hp.2.1 ?_
  refine pm_sipush (v := 255) dSl_charAt_9 (by decide) ?_
  refine pm_iand dSl_charAt_12 ?_
  refine pm_i2c dSl_charAt_13 ?_
  exact pm_zret dSl_charAt_14 rfl hp.2.2 (ho.trans (by first | rfl | (simp only [fSl_charAt_26]; done) | (simp only [fSl_charAt_26]; rfl))) (hz.trans (by first | rfl | (simp only [fSl_charAt_26]; done) | (simp only [fSl_charAt_26]; rfl)))
set_option maxHeartbeats 4000000 in
set_option maxRecDepth 100000 in
theorem Sl_charAt_26_ok (g : pmG) (d : Nat) (K : List (Nat × Nat)) (R : Nat → Nat → Value)  (x0 : Int32) (I : Nat → Nat → Int32) (J : Nat → Nat → Int64) (hp : pSl_charAt_26 x0) : pmC g kSl_charAt (d + 2) 0 0 [.retAddr 56, .int x0] (K, R, I, J) (.returned (some (.int (fSl_charAt_26 x0)))) (K, R, I, J) :=
  pmC.of (by decide) (Nat.le_of_ble_eq_true rfl) (Sl_charAt_26_n0 g d K R I J _ _  x0  hp rfl rfl)
def fSg_charAt_26  (y1 : Int32) : Int32 :=
  (fSl_charAt_26 y1)
def pSg_charAt_26  (y1 : Int32) : Prop :=
  pSg_isLatin1_26 ∧ ((pSl_charAt_26 y1) ∧ (narrow .char (.int ((fSl_charAt_26 y1))) = .int ((fSl_charAt_26 y1))))
set_option maxHeartbeats 4000000 in
set_option maxRecDepth 100000 in
theorem Sg_charAt_26_n0 (g : pmG) (d : Nat) (K : List (Nat × Nat)) (R : Nat → Nat → Value) (I : Nat → Nat → Int32) (J : Nat → Nat → Int64) (o : Outcome) (Z : pmM)  (y1 : Int32) (hp : pSg_charAt_26 y1) (ho : o = .returned (some (.int (fSg_charAt_26 y1)))) (hz : Z = (K, R, I, J)) : pmE g kSg_charAt (d + 3) 0 0 0 [(0, .retAddr 26), (1, .int y1)] [] (K) R I J o Z := by
  unfold pSg_charAt_26 at hp
  refine pm_xload_n dSg_charAt_0 rfl ?_
  refine pm_callX (x := 16) dSg_charAt_1 lSg_492 vSg_isLatin1 rfl (by decide) (Sg_isLatin1_26_ok _ _ _ _  _ _ hp.1) rfl rfl (Nat.le_of_ble_eq_true rfl) (Nat.le_refl _) (Nat.le_refl _) ?_
  refine pm_eqi (1 : Int32) rfl ?_
  refine pm_if_eq 16 dSg_charAt_4 (by decide) (fun h4 => ?_) (fun h4 => ?_)
  · exact absurd h4 (by decide)
  ·
    refine pm_xload_n dSg_charAt_7 rfl ?_
    refine pm_xvalue (x := 16) dSg_charAt_8 gSg_9 (by decide) ?_
    refine pm_iload_n dSg_charAt_11 rfl ?_
    refine pm_callS dSg_charAt_12 lSg_495 tSl_charAt (Sl_charAt_26_ok _ _ _ _ _ _ _ hp.2.1) rfl rfl (Nat.le_of_ble_eq_true rfl) (Nat.le_refl _) (Nat.le_refl _) ?_
    exact pm_zret dSg_charAt_15 rfl hp.2.2 (ho.trans (by first | rfl | (simp only [fSg_charAt_26]; done) | (simp only [fSg_charAt_26]; rfl))) (hz.trans (by first | rfl | (simp only [fSg_charAt_26]; done) | (simp only [fSg_charAt_26]; rfl)))
set_option maxHeartbeats 4000000 in
set_option maxRecDepth 100000 in
theorem Sg_charAt_26_ok (g : pmG) (d : Nat) (K : List (Nat × Nat)) (R : Nat → Nat → Value)  (x0 : Int32) (I : Nat → Nat → Int32) (J : Nat → Nat → Int64) (hp : pSg_charAt_26 x0) : pmC g kSg_charAt (d + 3) 0 0 [.retAddr 26, .int x0] (K, R, I, J) (.returned (some (.int (fSg_charAt_26 x0)))) (K, R, I, J) :=
  pmC.of (by decide) (Nat.le_of_ble_eq_true rfl) (Sg_charAt_26_n0 g d K R I J _ _  x0  hp rfl rfl)
def fSg_coder_27   : Int32 :=
  (0 : Int32)
def pSg_coder_27   : Prop :=
  True
set_option maxHeartbeats 4000000 in
set_option maxRecDepth 100000 in
theorem Sg_coder_27_n0 (g : pmG) (d : Nat) (K : List (Nat × Nat)) (R : Nat → Nat → Value) (I : Nat → Nat → Int32) (J : Nat → Nat → Int64) (o : Outcome) (Z : pmM)   (hp : pSg_coder_27) (ho : o = .returned (some (.int fSg_coder_27))) (hz : Z = (K, R, I, J)) : pmE g kSg_coder d 0 0 0 [(0, .retAddr 27)] [] (K) R I J o Z := by
  unfold pSg_coder_27 at hp
  refine pm_gets dSg_coder_0 gSg_38 xs_0 ?_
  refine pm_if_eq 13 dSg_coder_3 (by decide) (fun h3 => ?_) (fun h3 => ?_)
  · exact absurd h3 (by decide)
  ·
    refine pm_xload_n dSg_coder_6 rfl ?_
    refine pm_xcoder (x := 17) dSg_coder_7 gSg_15 (by decide) ?_
    refine pm_goto 14 dSg_coder_10 (by decide) ?_
    exact pm_zret dSg_coder_14 rfl (by first | rfl | decide) (ho.trans (by first | rfl | (simp only [fSg_coder_27]; done) | (simp only [fSg_coder_27]; rfl))) (hz.trans (by first | rfl | (simp only [fSg_coder_27]; done) | (simp only [fSg_coder_27]; rfl)))
set_option maxHeartbeats 4000000 in
set_option maxRecDepth 100000 in
theorem Sg_coder_27_ok (g : pmG) (d : Nat) (K : List (Nat × Nat)) (R : Nat → Nat → Value)   (I : Nat → Nat → Int32) (J : Nat → Nat → Int64) (hp : pSg_coder_27) : pmC g kSg_coder d 0 0 [.retAddr 27] (K, R, I, J) (.returned (some (.int fSg_coder_27))) (K, R, I, J) :=
  pmC.of (by decide) (Nat.le_of_ble_eq_true rfl) (Sg_coder_27_n0 g d K R I J _ _    hp rfl rfl)
def fSg_isLatin1_27_17   : Int32 :=
  (0 : Int32)
def pSg_isLatin1_27_17   : Prop :=
  True
def fSg_isLatin1_27   : Int32 :=
  (1 : Int32)
def pSg_isLatin1_27   : Prop :=
  True
set_option maxHeartbeats 4000000 in
set_option maxRecDepth 100000 in
theorem Sg_isLatin1_27_n17 (g : pmG) (d : Nat) (K : List (Nat × Nat)) (R : Nat → Nat → Value) (I : Nat → Nat → Int32) (J : Nat → Nat → Int64) (o : Outcome) (Z : pmM)   (hp : pSg_isLatin1_27_17) (ho : o = .returned (some (.int fSg_isLatin1_27_17))) (hz : Z = (K, R, I, J)) : pmE g kSg_isLatin1 d 0 0 17 [(0, .retAddr 27)] [] (K) R I J o Z := by
  unfold pSg_isLatin1_27_17 at hp
  refine pm_iconst (v := 0) dSg_isLatin1_17 (by decide) ?_
  exact pm_zret dSg_isLatin1_18 rfl (by first | rfl | decide) (ho.trans (by first | rfl | (simp only [fSg_isLatin1_27_17]; done) | (simp only [fSg_isLatin1_27_17]; rfl))) (hz.trans (by first | rfl | (simp only [fSg_isLatin1_27_17]; done) | (simp only [fSg_isLatin1_27_17]; rfl)))
set_option maxHeartbeats 4000000 in
set_option maxRecDepth 100000 in
theorem Sg_isLatin1_27_n0 (g : pmG) (d : Nat) (K : List (Nat × Nat)) (R : Nat → Nat → Value) (I : Nat → Nat → Int32) (J : Nat → Nat → Int64) (o : Outcome) (Z : pmM)   (hp : pSg_isLatin1_27) (ho : o = .returned (some (.int fSg_isLatin1_27))) (hz : Z = (K, R, I, J)) : pmE g kSg_isLatin1 d 0 0 0 [(0, .retAddr 27)] [] (K) R I J o Z := by
  unfold pSg_isLatin1_27 at hp
  refine pm_gets dSg_isLatin1_0 gSg_38 xs_0 ?_
  refine pm_if_eq 17 dSg_isLatin1_3 (by decide) (fun h3 => ?_) (fun h3 => ?_)
  · exact absurd h3 (by decide)
  ·
    refine pm_xload_n dSg_isLatin1_6 rfl ?_
    refine pm_xcoder (x := 17) dSg_isLatin1_7 gSg_15 (by decide) ?_
    refine pm_if_ne 17 dSg_isLatin1_10 (by decide) (fun h10 => ?_) (fun h10 => ?_)
    · exact absurd (by decide) h10
    ·
      refine pm_iconst (v := 1) dSg_isLatin1_13 (by decide) ?_
      refine pm_goto 18 dSg_isLatin1_14 (by decide) ?_
      exact pm_zret dSg_isLatin1_18 rfl (by first | rfl | decide) (ho.trans (by first | rfl | (simp only [fSg_isLatin1_27]; done) | (simp only [fSg_isLatin1_27]; rfl))) (hz.trans (by first | rfl | (simp only [fSg_isLatin1_27]; done) | (simp only [fSg_isLatin1_27]; rfl)))
set_option maxHeartbeats 4000000 in
set_option maxRecDepth 100000 in
theorem Sg_isLatin1_27_ok (g : pmG) (d : Nat) (K : List (Nat × Nat)) (R : Nat → Nat → Value)   (I : Nat → Nat → Int32) (J : Nat → Nat → Int64) (hp : pSg_isLatin1_27) : pmC g kSg_isLatin1 d 0 0 [.retAddr 27] (K, R, I, J) (.returned (some (.int fSg_isLatin1_27))) (K, R, I, J) :=
  pmC.of (by decide) (Nat.le_of_ble_eq_true rfl) (Sg_isLatin1_27_n0 g d K R I J _ _    hp rfl rfl)
def fSg_length_27   : Int32 :=
  (2 : Int32) >>> ((0 : Int32) &&& 31)
def pSg_length_27   : Prop :=
  pSg_coder_27 ∧ True
set_option maxHeartbeats 4000000 in
set_option maxRecDepth 100000 in
theorem Sg_length_27_n0 (g : pmG) (d : Nat) (K : List (Nat × Nat)) (R : Nat → Nat → Value) (I : Nat → Nat → Int32) (J : Nat → Nat → Int64) (o : Outcome) (Z : pmM)   (hp : pSg_length_27) (ho : o = .returned (some (.int fSg_length_27))) (hz : Z = (K, R, I, J)) : pmE g kSg_length (d + 1) 0 0 0 [(0, .retAddr 27)] [] (K) R I J o Z := by
  unfold pSg_length_27 at hp
  refine pm_xload_n dSg_length_0 rfl ?_
  refine pm_xvalue (x := 17) dSg_length_1 gSg_9 (by decide) ?_
  refine pm_xlen (u := 2) dSg_length_4 xa_57 (by decide) ?_
  refine pm_xload_n dSg_length_5 rfl ?_
  refine pm_callX (x := 17) dSg_length_6 lSg_335 vSg_coder rfl (by decide) (Sg_coder_27_ok _ _ _ _  _ _ hp.1) rfl rfl (Nat.le_of_ble_eq_true rfl) (Nat.le_refl _) (Nat.le_refl _) ?_
  refine pm_eqi (0 : Int32) rfl ?_
  refine pm_ishr dSg_length_9 ?_
  exact pm_iret dSg_length_10 rfl (ho.trans (by first | rfl | (simp only [fSg_length_27]; done) | (simp only [fSg_length_27]; rfl))) (hz.trans (by first | rfl | (simp only [fSg_length_27]; done) | (simp only [fSg_length_27]; rfl)))
set_option maxHeartbeats 4000000 in
set_option maxRecDepth 100000 in
theorem Sg_length_27_ok (g : pmG) (d : Nat) (K : List (Nat × Nat)) (R : Nat → Nat → Value)   (I : Nat → Nat → Int32) (J : Nat → Nat → Int64) (hp : pSg_length_27) : pmC g kSg_length (d + 1) 0 0 [.retAddr 27] (K, R, I, J) (.returned (some (.int fSg_length_27))) (K, R, I, J) :=
  pmC.of (by decide) (Nat.le_of_ble_eq_true rfl) (Sg_length_27_n0 g d K R I J _ _    hp rfl rfl)
def fSl_charAt_27  (y1 : Int32) : Int32 :=
  (((pk_B17.getD y1.toNatClampNeg 0) &&& (255 : Int32)).toUInt32 % 65536).toInt32
def pSl_charAt_27  (y1 : Int32) : Prop :=
  (pSg_checkIndex y1 (2 : Int32)) ∧ ((vp_in y1 2) ∧ (narrow .char (.int ((((pk_B17.getD y1.toNatClampNeg 0) &&& (255 : Int32)).toUInt32 % 65536).toInt32)) = .int ((((pk_B17.getD y1.toNatClampNeg 0) &&& (255 : Int32)).toUInt32 % 65536).toInt32)))
set_option maxHeartbeats 4000000 in
set_option maxRecDepth 100000 in
theorem Sl_charAt_27_n0 (g : pmG) (d : Nat) (K : List (Nat × Nat)) (R : Nat → Nat → Value) (I : Nat → Nat → Int32) (J : Nat → Nat → Int64) (o : Outcome) (Z : pmM)  (y1 : Int32) (hp : pSl_charAt_27 y1) (ho : o = .returned (some (.int (fSl_charAt_27 y1)))) (hz : Z = (K, R, I, J)) : pmE g kSl_charAt (d + 2) 0 0 0 [(0, .retAddr 57), (1, .int y1)] [] (K) R I J o Z := by
  unfold pSl_charAt_27 at hp
  refine pm_iload_n dSl_charAt_0 rfl ?_
  refine pm_xload_n dSl_charAt_1 rfl ?_
  refine pm_xlen (u := 2) dSl_charAt_2 xa_57 (by decide) ?_
  refine pm_callS dSl_charAt_3 lSl_9 tSg_checkIndex (Sg_checkIndex_ok _ _ _ _ _ _ _ _ hp.1) rfl rfl (Nat.le_of_ble_eq_true rfl) (Nat.le_refl _) (Nat.le_refl _) ?_
  refine pm_xload_n dSl_charAt_6 rfl ?_
  refine pm_iload_n dSl_charAt_7 rfl ?_
  refine pm_xbald dSl_charAt_8 xa_57 hp.2.1 ?_
  refine pm_sipush (v := 255) dSl_charAt_9 (by decide) ?_
  refine pm_iand dSl_charAt_12 ?_
  refine pm_i2c dSl_charAt_13 ?_
  exact pm_zret dSl_charAt_14 rfl hp.2.2 (ho.trans (by first | rfl | (simp only [fSl_charAt_27]; done) | (simp only [fSl_charAt_27]; rfl))) (hz.trans (by first | rfl | (simp only [fSl_charAt_27]; done) | (simp only [fSl_charAt_27]; rfl)))
set_option maxHeartbeats 4000000 in
set_option maxRecDepth 100000 in
theorem Sl_charAt_27_ok (g : pmG) (d : Nat) (K : List (Nat × Nat)) (R : Nat → Nat → Value)  (x0 : Int32) (I : Nat → Nat → Int32) (J : Nat → Nat → Int64) (hp : pSl_charAt_27 x0) : pmC g kSl_charAt (d + 2) 0 0 [.retAddr 57, .int x0] (K, R, I, J) (.returned (some (.int (fSl_charAt_27 x0)))) (K, R, I, J) :=
  pmC.of (by decide) (Nat.le_of_ble_eq_true rfl) (Sl_charAt_27_n0 g d K R I J _ _  x0  hp rfl rfl)
def fSg_charAt_27  (y1 : Int32) : Int32 :=
  (fSl_charAt_27 y1)
def pSg_charAt_27  (y1 : Int32) : Prop :=
  pSg_isLatin1_27 ∧ ((pSl_charAt_27 y1) ∧ (narrow .char (.int ((fSl_charAt_27 y1))) = .int ((fSl_charAt_27 y1))))
set_option maxHeartbeats 4000000 in
set_option maxRecDepth 100000 in
theorem Sg_charAt_27_n0 (g : pmG) (d : Nat) (K : List (Nat × Nat)) (R : Nat → Nat → Value) (I : Nat → Nat → Int32) (J : Nat → Nat → Int64) (o : Outcome) (Z : pmM)  (y1 : Int32) (hp : pSg_charAt_27 y1) (ho : o = .returned (some (.int (fSg_charAt_27 y1)))) (hz : Z = (K, R, I, J)) : pmE g kSg_charAt (d + 3) 0 0 0 [(0, .retAddr 27), (1, .int y1)] [] (K) R I J o Z := by
  unfold pSg_charAt_27 at hp
  refine pm_xload_n dSg_charAt_0 rfl ?_
  refine pm_callX (x := 17) dSg_charAt_1 lSg_492 vSg_isLatin1 rfl (by decide) (Sg_isLatin1_27_ok _ _ _ _  _ _ hp.1) rfl rfl (Nat.le_of_ble_eq_true rfl) (Nat.le_refl _) (Nat.le_refl _) ?_
  refine pm_eqi (1 : Int32) rfl ?_
  refine pm_if_eq 16 dSg_charAt_4 (by decide) (fun h4 => ?_) (fun h4 => ?_)
  · exact absurd h4 (by decide)
  ·
    refine pm_xload_n dSg_charAt_7 rfl ?_
    refine pm_xvalue (x := 17) dSg_charAt_8 gSg_9 (by decide) ?_
    refine pm_iload_n dSg_charAt_11 rfl ?_
    refine pm_callS dSg_charAt_12 lSg_495 tSl_charAt (Sl_charAt_27_ok _ _ _ _ _ _ _ hp.2.1) rfl rfl (Nat.le_of_ble_eq_true rfl) (Nat.le_refl _) (Nat.le_refl _) ?_
    exact pm_zret dSg_charAt_15 rfl hp.2.2 (ho.trans (by first | rfl | (simp only [fSg_charAt_27]; done) | (simp only [fSg_charAt_27]; rfl))) (hz.trans (by first | rfl | (simp only [fSg_charAt_27]; done) | (simp only [fSg_charAt_27]; rfl)))
set_option maxHeartbeats 4000000 in
set_option maxRecDepth 100000 in
theorem Sg_charAt_27_ok (g : pmG) (d : Nat) (K : List (Nat × Nat)) (R : Nat → Nat → Value)  (x0 : Int32) (I : Nat → Nat → Int32) (J : Nat → Nat → Int64) (hp : pSg_charAt_27 x0) : pmC g kSg_charAt (d + 3) 0 0 [.retAddr 27, .int x0] (K, R, I, J) (.returned (some (.int (fSg_charAt_27 x0)))) (K, R, I, J) :=
  pmC.of (by decide) (Nat.le_of_ble_eq_true rfl) (Sg_charAt_27_n0 g d K R I J _ _  x0  hp rfl rfl)
def fSg_coder_28   : Int32 :=
  (0 : Int32)
def pSg_coder_28   : Prop :=
  True
set_option maxHeartbeats 4000000 in
set_option maxRecDepth 100000 in
theorem Sg_coder_28_n0 (g : pmG) (d : Nat) (K : List (Nat × Nat)) (R : Nat → Nat → Value) (I : Nat → Nat → Int32) (J : Nat → Nat → Int64) (o : Outcome) (Z : pmM)   (hp : pSg_coder_28) (ho : o = .returned (some (.int fSg_coder_28))) (hz : Z = (K, R, I, J)) : pmE g kSg_coder d 0 0 0 [(0, .retAddr 28)] [] (K) R I J o Z := by
  unfold pSg_coder_28 at hp
  refine pm_gets dSg_coder_0 gSg_38 xs_0 ?_
  refine pm_if_eq 13 dSg_coder_3 (by decide) (fun h3 => ?_) (fun h3 => ?_)
  · exact absurd h3 (by decide)
  ·
    refine pm_xload_n dSg_coder_6 rfl ?_
    refine pm_xcoder (x := 18) dSg_coder_7 gSg_15 (by decide) ?_
    refine pm_goto 14 dSg_coder_10 (by decide) ?_
    exact pm_zret dSg_coder_14 rfl (by first | rfl | decide) (ho.trans (by first | rfl | (simp only [fSg_coder_28]; done) | (simp only [fSg_coder_28]; rfl))) (hz.trans (by first | rfl | (simp only [fSg_coder_28]; done) | (simp only [fSg_coder_28]; rfl)))
set_option maxHeartbeats 4000000 in
set_option maxRecDepth 100000 in
theorem Sg_coder_28_ok (g : pmG) (d : Nat) (K : List (Nat × Nat)) (R : Nat → Nat → Value)   (I : Nat → Nat → Int32) (J : Nat → Nat → Int64) (hp : pSg_coder_28) : pmC g kSg_coder d 0 0 [.retAddr 28] (K, R, I, J) (.returned (some (.int fSg_coder_28))) (K, R, I, J) :=
  pmC.of (by decide) (Nat.le_of_ble_eq_true rfl) (Sg_coder_28_n0 g d K R I J _ _    hp rfl rfl)
def fSg_isLatin1_28_17   : Int32 :=
  (0 : Int32)
def pSg_isLatin1_28_17   : Prop :=
  True
def fSg_isLatin1_28   : Int32 :=
  (1 : Int32)
def pSg_isLatin1_28   : Prop :=
  True
set_option maxHeartbeats 4000000 in
set_option maxRecDepth 100000 in
theorem Sg_isLatin1_28_n17 (g : pmG) (d : Nat) (K : List (Nat × Nat)) (R : Nat → Nat → Value) (I : Nat → Nat → Int32) (J : Nat → Nat → Int64) (o : Outcome) (Z : pmM)   (hp : pSg_isLatin1_28_17) (ho : o = .returned (some (.int fSg_isLatin1_28_17))) (hz : Z = (K, R, I, J)) : pmE g kSg_isLatin1 d 0 0 17 [(0, .retAddr 28)] [] (K) R I J o Z := by
  unfold pSg_isLatin1_28_17 at hp
  refine pm_iconst (v := 0) dSg_isLatin1_17 (by decide) ?_
  exact pm_zret dSg_isLatin1_18 rfl (by first | rfl | decide) (ho.trans (by first | rfl | (simp only [fSg_isLatin1_28_17]; done) | (simp only [fSg_isLatin1_28_17]; rfl))) (hz.trans (by first | rfl | (simp only [fSg_isLatin1_28_17]; done) | (simp only [fSg_isLatin1_28_17]; rfl)))
set_option maxHeartbeats 4000000 in
set_option maxRecDepth 100000 in
theorem Sg_isLatin1_28_n0 (g : pmG) (d : Nat) (K : List (Nat × Nat)) (R : Nat → Nat → Value) (I : Nat → Nat → Int32) (J : Nat → Nat → Int64) (o : Outcome) (Z : pmM)   (hp : pSg_isLatin1_28) (ho : o = .returned (some (.int fSg_isLatin1_28))) (hz : Z = (K, R, I, J)) : pmE g kSg_isLatin1 d 0 0 0 [(0, .retAddr 28)] [] (K) R I J o Z := by
  unfold pSg_isLatin1_28 at hp
  refine pm_gets dSg_isLatin1_0 gSg_38 xs_0 ?_
  refine pm_if_eq 17 dSg_isLatin1_3 (by decide) (fun h3 => ?_) (fun h3 => ?_)
  · exact absurd h3 (by decide)
  ·
    refine pm_xload_n dSg_isLatin1_6 rfl ?_
    refine pm_xcoder (x := 18) dSg_isLatin1_7 gSg_15 (by decide) ?_
    refine pm_if_ne 17 dSg_isLatin1_10 (by decide) (fun h10 => ?_) (fun h10 => ?_)
    · exact absurd (by decide) h10
    ·
      refine pm_iconst (v := 1) dSg_isLatin1_13 (by decide) ?_
      refine pm_goto 18 dSg_isLatin1_14 (by decide) ?_
      exact pm_zret dSg_isLatin1_18 rfl (by first | rfl | decide) (ho.trans (by first | rfl | (simp only [fSg_isLatin1_28]; done) | (simp only [fSg_isLatin1_28]; rfl))) (hz.trans (by first | rfl | (simp only [fSg_isLatin1_28]; done) | (simp only [fSg_isLatin1_28]; rfl)))
set_option maxHeartbeats 4000000 in
set_option maxRecDepth 100000 in
theorem Sg_isLatin1_28_ok (g : pmG) (d : Nat) (K : List (Nat × Nat)) (R : Nat → Nat → Value)   (I : Nat → Nat → Int32) (J : Nat → Nat → Int64) (hp : pSg_isLatin1_28) : pmC g kSg_isLatin1 d 0 0 [.retAddr 28] (K, R, I, J) (.returned (some (.int fSg_isLatin1_28))) (K, R, I, J) :=
  pmC.of (by decide) (Nat.le_of_ble_eq_true rfl) (Sg_isLatin1_28_n0 g d K R I J _ _    hp rfl rfl)
def fSg_length_28   : Int32 :=
  (2 : Int32) >>> ((0 : Int32) &&& 31)
def pSg_length_28   : Prop :=
  pSg_coder_28 ∧ True
set_option maxHeartbeats 4000000 in
set_option maxRecDepth 100000 in
theorem Sg_length_28_n0 (g : pmG) (d : Nat) (K : List (Nat × Nat)) (R : Nat → Nat → Value) (I : Nat → Nat → Int32) (J : Nat → Nat → Int64) (o : Outcome) (Z : pmM)   (hp : pSg_length_28) (ho : o = .returned (some (.int fSg_length_28))) (hz : Z = (K, R, I, J)) : pmE g kSg_length (d + 1) 0 0 0 [(0, .retAddr 28)] [] (K) R I J o Z := by
  unfold pSg_length_28 at hp
  refine pm_xload_n dSg_length_0 rfl ?_
  refine pm_xvalue (x := 18) dSg_length_1 gSg_9 (by decide) ?_
  refine pm_xlen (u := 2) dSg_length_4 xa_58 (by decide) ?_
  refine pm_xload_n dSg_length_5 rfl ?_
  refine pm_callX (x := 18) dSg_length_6 lSg_335 vSg_coder rfl (by decide) (Sg_coder_28_ok _ _ _ _  _ _ hp.1) rfl rfl (Nat.le_of_ble_eq_true rfl) (Nat.le_refl _) (Nat.le_refl _) ?_
  refine pm_eqi (0 : Int32) rfl ?_
  refine pm_ishr dSg_length_9 ?_
  exact pm_iret dSg_length_10 rfl (ho.trans (by first | rfl | (simp only [fSg_length_28]; done) | (simp only [fSg_length_28]; rfl))) (hz.trans (by first | rfl | (simp only [fSg_length_28]; done) | (simp only [fSg_length_28]; rfl)))
set_option maxHeartbeats 4000000 in
set_option maxRecDepth 100000 in
theorem Sg_length_28_ok (g : pmG) (d : Nat) (K : List (Nat × Nat)) (R : Nat → Nat → Value)   (I : Nat → Nat → Int32) (J : Nat → Nat → Int64) (hp : pSg_length_28) : pmC g kSg_length (d + 1) 0 0 [.retAddr 28] (K, R, I, J) (.returned (some (.int fSg_length_28))) (K, R, I, J) :=
  pmC.of (by decide) (Nat.le_of_ble_eq_true rfl) (Sg_length_28_n0 g d K R I J _ _    hp rfl rfl)
def fSl_charAt_28  (y1 : Int32) : Int32 :=
  (((pk_B18.getD y1.toNatClampNeg 0) &&& (255 : Int32)).toUInt32 % 65536).toInt32
def pSl_charAt_28  (y1 : Int32) : Prop :=
  (pSg_checkIndex y1 (2 : Int32)) ∧ ((vp_in y1 2) ∧ (narrow .char (.int ((((pk_B18.getD y1.toNatClampNeg 0) &&& (255 : Int32)).toUInt32 % 65536).toInt32)) = .int ((((pk_B18.getD y1.toNatClampNeg 0) &&& (255 : Int32)).toUInt32 % 65536).toInt32)))
set_option maxHeartbeats 4000000 in
set_option maxRecDepth 100000 in
theorem Sl_charAt_28_n0 (g : pmG) (d : Nat) (K : List (Nat × Nat)) (R : Nat → Nat → Value) (I : Nat → Nat → Int32) (J : Nat → Nat → Int64) (o : Outcome) (Z : pmM)  (y1 : Int32) (hp : pSl_charAt_28 y1) (ho : o = .returned (some (.int (fSl_charAt_28 y1)))) (hz : Z = (K, R, I, J)) : pmE g kSl_charAt (d + 2) 0 0 0 [(0, .retAddr 58), (1, .int y1)] [] (K) R I J o Z := by
  unfold pSl_charAt_28 at hp
  refine pm_iload_n dSl_charAt_0 rfl ?_
  refine pm_xload_n dSl_charAt_1 rfl ?_
  refine pm_xlen (u := 2) dSl_charAt_2 xa_58 (by decide) ?_
  refine pm_callS dSl_charAt_3 lSl_9 tSg_checkIndex (Sg_checkIndex_ok _ _ _ _ _ _ _ _ hp.1) rfl rfl (Nat.le_of_ble_eq_true rfl) (Nat.le_refl _) (Nat.le_refl _) ?_
  refine pm_xload_n dSl_charAt_6 rfl ?_
  refine pm_iload_n dSl_charAt_7 rfl ?_
  refine pm_xbald dSl_charAt_8 xa_58 hp.2.1 ?_
  refine pm_sipush (v := 255) dSl_charAt_9 (by decide) ?_
  refine pm_iand dSl_charAt_12 ?_
  refine pm_i2c dSl_charAt_13 ?_
  exact pm_zret dSl_charAt_14 rfl hp.2.2 (ho.trans (by first | rfl | (simp only [fSl_charAt_28]; done) | (simp only [fSl_charAt_28]; rfl))) (hz.trans (by first | rfl | (simp only [fSl_charAt_28]; done) | (simp only [fSl_charAt_28]; rfl)))
set_option maxHeartbeats 4000000 in
set_option maxRecDepth 100000 in
theorem Sl_charAt_28_ok (g : pmG) (d : Nat) (K : List (Nat × Nat)) (R : Nat → Nat → Value)  (x0 : Int32) (I : Nat → Nat → Int32) (J : Nat → Nat → Int64) (hp : pSl_charAt_28 x0) : pmC g kSl_charAt (d + 2) 0 0 [.retAddr 58, .int x0] (K, R, I, J) (.returned (some (.int (fSl_charAt_28 x0)))) (K, R, I, J) :=
  pmC.of (by decide) (Nat.le_of_ble_eq_true rfl) (Sl_charAt_28_n0 g d K R I J _ _  x0  hp rfl rfl)
def fSg_charAt_28  (y1 : Int32) : Int32 :=
  (fSl_charAt_28 y1)
def pSg_charAt_28  (y1 : Int32) : Prop :=
  pSg_isLatin1_28 ∧ ((pSl_charAt_28 y1) ∧ (narrow .char (.int ((fSl_charAt_28 y1))) = .int ((fSl_charAt_28 y1))))
set_option maxHeartbeats 4000000 in
set_option maxRecDepth 100000 in
theorem Sg_charAt_28_n0 (g : pmG) (d : Nat) (K : List (Nat × Nat)) (R : Nat → Nat → Value) (I : Nat → Nat → Int32) (J : Nat → Nat → Int64) (o : Outcome) (Z : pmM)  (y1 : Int32) (hp : pSg_charAt_28 y1) (ho : o = .returned (some (.int (fSg_charAt_28 y1)))) (hz : Z = (K, R, I, J)) : pmE g kSg_charAt (d + 3) 0 0 0 [(0, .retAddr 28), (1, .int y1)] [] (K) R I J o Z := by
  unfold pSg_charAt_28 at hp
  refine pm_xload_n dSg_charAt_0 rfl ?_
  refine pm_callX (x := 18) dSg_charAt_1 lSg_492 vSg_isLatin1 rfl (by decide) (Sg_isLatin1_28_ok _ _ _ _  _ _ hp.1) rfl rfl (Nat.le_of_ble_eq_true rfl) (Nat.le_refl _) (Nat.le_refl _) ?_
  refine pm_eqi (1 : Int32) rfl ?_
  refine pm_if_eq 16 dSg_charAt_4 (by decide) (fun h4 => ?_) (fun h4 => ?_)
  · exact absurd h4 (by decide)
  ·
    refine pm_xload_n dSg_charAt_7 rfl ?_
    refine pm_xvalue (x := 18) dSg_charAt_8 gSg_9 (by decide) ?_
    refine pm_iload_n dSg_charAt_11 rfl ?_
    refine pm_callS dSg_charAt_12 lSg_495 tSl_charAt (Sl_charAt_28_ok _ _ _ _ _ _ _ hp.2.1) rfl rfl (Nat.le_of_ble_eq_true rfl) (Nat.le_refl _) (Nat.le_refl _) ?_
    exact pm_zret dSg_charAt_15 rfl hp.2.2 (ho.trans (by first | rfl | (simp only [fSg_charAt_28]; done) | (simp only [fSg_charAt_28]; rfl))) (hz.trans (by first | rfl | (simp only [fSg_charAt_28]; done) | (simp only [fSg_charAt_28]; rfl)))
set_option maxHeartbeats 4000000 in
set_option maxRecDepth 100000 in
theorem Sg_charAt_28_ok (g : pmG) (d : Nat) (K : List (Nat × Nat)) (R : Nat → Nat → Value)  (x0 : Int32) (I : Nat → Nat → Int32) (J : Nat → Nat → Int64) (hp : pSg_charAt_28 x0) : pmC g kSg_charAt (d + 3) 0 0 [.retAddr 28, .int x0] (K, R, I, J) (.returned (some (.int (fSg_charAt_28 x0)))) (K, R, I, J) :=
  pmC.of (by decide) (Nat.le_of_ble_eq_true rfl) (Sg_charAt_28_n0 g d K R I J _ _  x0  hp rfl rfl)
def fSg_coder_29   : Int32 :=
  (0 : Int32)
def pSg_coder_29   : Prop :=
  True
set_option maxHeartbeats 4000000 in
set_option maxRecDepth 100000 in
theorem Sg_coder_29_n0 (g : pmG) (d : Nat) (K : List (Nat × Nat)) (R : Nat → Nat → Value) (I : Nat → Nat → Int32) (J : Nat → Nat → Int64) (o : Outcome) (Z : pmM)   (hp : pSg_coder_29) (ho : o = .returned (some (.int fSg_coder_29))) (hz : Z = (K, R, I, J)) : pmE g kSg_coder d 0 0 0 [(0, .retAddr 29)] [] (K) R I J o Z := by
  unfold pSg_coder_29 at hp
  refine pm_gets dSg_coder_0 gSg_38 xs_0 ?_
  refine pm_if_eq 13 dSg_coder_3 (by decide) (fun h3 => ?_) (fun h3 => ?_)
  · exact absurd h3 (by decide)
  ·
    refine pm_xload_n dSg_coder_6 rfl ?_
    refine pm_xcoder (x := 19) dSg_coder_7 gSg_15 (by decide) ?_
    refine pm_goto 14 dSg_coder_10 (by decide) ?_
    exact pm_zret dSg_coder_14 rfl (by first | rfl | decide) (ho.trans (by first | rfl | (simp only [fSg_coder_29]; done) | (simp only [fSg_coder_29]; rfl))) (hz.trans (by first | rfl | (simp only [fSg_coder_29]; done) | (simp only [fSg_coder_29]; rfl)))
set_option maxHeartbeats 4000000 in
set_option maxRecDepth 100000 in
theorem Sg_coder_29_ok (g : pmG) (d : Nat) (K : List (Nat × Nat)) (R : Nat → Nat → Value)   (I : Nat → Nat → Int32) (J : Nat → Nat → Int64) (hp : pSg_coder_29) : pmC g kSg_coder d 0 0 [.retAddr 29] (K, R, I, J) (.returned (some (.int fSg_coder_29))) (K, R, I, J) :=
  pmC.of (by decide) (Nat.le_of_ble_eq_true rfl) (Sg_coder_29_n0 g d K R I J _ _    hp rfl rfl)
def fSg_isLatin1_29_17   : Int32 :=
  (0 : Int32)
def pSg_isLatin1_29_17   : Prop :=
  True
def fSg_isLatin1_29   : Int32 :=
  (1 : Int32)
def pSg_isLatin1_29   : Prop :=
  True
set_option maxHeartbeats 4000000 in
set_option maxRecDepth 100000 in
theorem Sg_isLatin1_29_n17 (g : pmG) (d : Nat) (K : List (Nat × Nat)) (R : Nat → Nat → Value) (I : Nat → Nat → Int32) (J : Nat → Nat → Int64) (o : Outcome) (Z : pmM)   (hp : pSg_isLatin1_29_17) (ho : o = .returned (some (.int fSg_isLatin1_29_17))) (hz : Z = (K, R, I, J)) : pmE g kSg_isLatin1 d 0 0 17 [(0, .retAddr 29)] [] (K) R I J o Z := by
  unfold pSg_isLatin1_29_17 at hp
  refine pm_iconst (v := 0) dSg_isLatin1_17 (by decide) ?_
  exact pm_zret dSg_isLatin1_18 rfl (by first | rfl | decide) (ho.trans (by first | rfl | (simp only [fSg_isLatin1_29_17]; done) | (simp only [fSg_isLatin1_29_17]; rfl))) (hz.trans (by first | rfl | (simp only [fSg_isLatin1_29_17]; done) | (simp only [fSg_isLatin1_29_17]; rfl)))
set_option maxHeartbeats 4000000 in
set_option maxRecDepth 100000 in
theorem Sg_isLatin1_29_n0 (g : pmG) (d : Nat) (K : List (Nat × Nat)) (R : Nat → Nat → Value) (I : Nat → Nat → Int32) (J : Nat → Nat → Int64) (o : Outcome) (Z : pmM)   (hp : pSg_isLatin1_29) (ho : o = .returned (some (.int fSg_isLatin1_29))) (hz : Z = (K, R, I, J)) : pmE g kSg_isLatin1 d 0 0 0 [(0, .retAddr 29)] [] (K) R I J o Z := by
  unfold pSg_isLatin1_29 at hp
  refine pm_gets dSg_isLatin1_0 gSg_38 xs_0 ?_
  refine pm_if_eq 17 dSg_isLatin1_3 (by decide) (fun h3 => ?_) (fun h3 => ?_)
  · exact absurd h3 (by decide)
  ·
    refine pm_xload_n dSg_isLatin1_6 rfl ?_
    refine pm_xcoder (x := 19) dSg_isLatin1_7 gSg_15 (by decide) ?_
    refine pm_if_ne 17 dSg_isLatin1_10 (by decide) (fun h10 => ?_) (fun h10 => ?_)
    · exact absurd (by decide) h10
    ·
      refine pm_iconst (v := 1) dSg_isLatin1_13 (by decide) ?_
      refine pm_goto 18 dSg_isLatin1_14 (by decide) ?_
      exact pm_zret dSg_isLatin1_18 rfl (by first | rfl | decide) (ho.trans (by first | rfl | (simp only [fSg_isLatin1_29]; done) | (simp only [fSg_isLatin1_29]; rfl))) (hz.trans (by first | rfl | (simp only [fSg_isLatin1_29]; done) | (simp only [fSg_isLatin1_29]; rfl)))
set_option maxHeartbeats 4000000 in
set_option maxRecDepth 100000 in
theorem Sg_isLatin1_29_ok (g : pmG) (d : Nat) (K : List (Nat × Nat)) (R : Nat → Nat → Value)   (I : Nat → Nat → Int32) (J : Nat → Nat → Int64) (hp : pSg_isLatin1_29) : pmC g kSg_isLatin1 d 0 0 [.retAddr 29] (K, R, I, J) (.returned (some (.int fSg_isLatin1_29))) (K, R, I, J) :=
  pmC.of (by decide) (Nat.le_of_ble_eq_true rfl) (Sg_isLatin1_29_n0 g d K R I J _ _    hp rfl rfl)
def fSg_length_29   : Int32 :=
  (2 : Int32) >>> ((0 : Int32) &&& 31)
def pSg_length_29   : Prop :=
  pSg_coder_29 ∧ True
set_option maxHeartbeats 4000000 in
set_option maxRecDepth 100000 in
theorem Sg_length_29_n0 (g : pmG) (d : Nat) (K : List (Nat × Nat)) (R : Nat → Nat → Value) (I : Nat → Nat → Int32) (J : Nat → Nat → Int64) (o : Outcome) (Z : pmM)   (hp : pSg_length_29) (ho : o = .returned (some (.int fSg_length_29))) (hz : Z = (K, R, I, J)) : pmE g kSg_length (d + 1) 0 0 0 [(0, .retAddr 29)] [] (K) R I J o Z := by
  unfold pSg_length_29 at hp
  refine pm_xload_n dSg_length_0 rfl ?_
  refine pm_xvalue (x := 19) dSg_length_1 gSg_9 (by decide) ?_
  refine pm_xlen (u := 2) dSg_length_4 xa_59 (by decide) ?_
  refine pm_xload_n dSg_length_5 rfl ?_
  refine pm_callX (x := 19) dSg_length_6 lSg_335 vSg_coder rfl (by decide) (Sg_coder_29_ok _ _ _ _  _ _ hp.1) rfl rfl (Nat.le_of_ble_eq_true rfl) (Nat.le_refl _) (Nat.le_refl _) ?_
  refine pm_eqi (0 : Int32) rfl ?_
  refine pm_ishr dSg_length_9 ?_
  exact pm_iret dSg_length_10 rfl (ho.trans (by first | rfl | (simp only [fSg_length_29]; done) | (simp only [fSg_length_29]; rfl))) (hz.trans (by first | rfl | (simp only [fSg_length_29]; done) | (simp only [fSg_length_29]; rfl)))
set_option maxHeartbeats 4000000 in
set_option maxRecDepth 100000 in
theorem Sg_length_29_ok (g : pmG) (d : Nat) (K : List (Nat × Nat)) (R : Nat → Nat → Value)   (I : Nat → Nat → Int32) (J : Nat → Nat → Int64) (hp : pSg_length_29) : pmC g kSg_length (d + 1) 0 0 [.retAddr 29] (K, R, I, J) (.returned (some (.int fSg_length_29))) (K, R, I, J) :=
  pmC.of (by decide) (Nat.le_of_ble_eq_true rfl) (Sg_length_29_n0 g d K R I J _ _    hp rfl rfl)
def fSl_charAt_29  (y1 : Int32) : Int32 :=
  (((pk_B19.getD y1.toNatClampNeg 0) &&& (255 : Int32)).toUInt32 % 65536).toInt32
def pSl_charAt_29  (y1 : Int32) : Prop :=
  (pSg_checkIndex y1 (2 : Int32)) ∧ ((vp_in y1 2) ∧ (narrow .char (.int ((((pk_B19.getD y1.toNatClampNeg 0) &&& (255 : Int32)).toUInt32 % 65536).toInt32)) = .int ((((pk_B19.getD y1.toNatClampNeg 0) &&& (255 : Int32)).toUInt32 % 65536).toInt32)))
set_option maxHeartbeats 4000000 in
set_option maxRecDepth 100000 in
theorem Sl_charAt_29_n0 (g : pmG) (d : Nat) (K : List (Nat × Nat)) (R : Nat → Nat → Value) (I : Nat → Nat → Int32) (J : Nat → Nat → Int64) (o : Outcome) (Z : pmM)  (y1 : Int32) (hp : pSl_charAt_29 y1) (ho : o = .returned (some (.int (fSl_charAt_29 y1)))) (hz : Z = (K, R, I, J)) : pmE g kSl_charAt (d + 2) 0 0 0 [(0, .retAddr 59), (1, .int y1)] [] (K) R I J o Z := by
  unfold pSl_charAt_29 at hp
  refine pm_iload_n dSl_charAt_0 rfl ?_
  refine pm_xload_n dSl_charAt_1 rfl ?_
  refine pm_xlen (u := 2) dSl_charAt_2 xa_59 (by decide) ?_
  refine pm_callS dSl_charAt_3 lSl_9 tSg_checkIndex (Sg_checkIndex_ok _ _ _ _ _ _ _ _ hp.1) rfl rfl (Nat.le_of_ble_eq_true rfl) (Nat.le_refl _) (Nat.le_refl _) ?_
  refine pm_xload_n dSl_charAt_6 rfl ?_
  refine pm_iload_n dSl_charAt_7 rfl ?_
  refine pm_xbald dSl_charAt_8 xa_59 hp.2.1 ?_
  refine pm_sipush (v := 255) dSl_charAt_9 (by decide) ?_
  refine pm_iand dSl_charAt_12 ?_
  refine pm_i2c dSl_charAt_13 ?_
  exact pm_zret dSl_charAt_14 rfl hp.2.2 (ho.trans (by first | rfl | (simp only [fSl_charAt_29]; done) | (simp only [fSl_charAt_29]; rfl))) (hz.trans (by first | rfl | (simp only [fSl_charAt_29]; done) | (simp only [fSl_charAt_29]; rfl)))
set_option maxHeartbeats 4000000 in
set_option maxRecDepth 100000 in
theorem Sl_charAt_29_ok (g : pmG) (d : Nat) (K : List (Nat × Nat)) (R : Nat → Nat → Value)  (x0 : Int32) (I : Nat → Nat → Int32) (J : Nat → Nat → Int64) (hp : pSl_charAt_29 x0) : pmC g kSl_charAt (d + 2) 0 0 [.retAddr 59, .int x0] (K, R, I, J) (.returned (some (.int (fSl_charAt_29 x0)))) (K, R, I, J) :=
  pmC.of (by decide) (Nat.le_of_ble_eq_true rfl) (Sl_charAt_29_n0 g d K R I J _ _  x0  hp rfl rfl)
def fSg_charAt_29  (y1 : Int32) : Int32 :=
  (fSl_charAt_29 y1)
def pSg_charAt_29  (y1 : Int32) : Prop :=
  pSg_isLatin1_29 ∧ ((pSl_charAt_29 y1) ∧ (narrow .char (.int ((fSl_charAt_29 y1))) = .int ((fSl_charAt_29 y1))))
set_option maxHeartbeats 4000000 in
set_option maxRecDepth 100000 in
theorem Sg_charAt_29_n0 (g : pmG) (d : Nat) (K : List (Nat × Nat)) (R : Nat → Nat → Value) (I : Nat → Nat → Int32) (J : Nat → Nat → Int64) (o : Outcome) (Z : pmM)  (y1 : Int32) (hp : pSg_charAt_29 y1) (ho : o = .returned (some (.int (fSg_charAt_29 y1)))) (hz : Z = (K, R, I, J)) : pmE g kSg_charAt (d + 3) 0 0 0 [(0, .retAddr 29), (1, .int y1)] [] (K) R I J o Z := by
  unfold pSg_charAt_29 at hp
  refine pm_xload_n dSg_charAt_0 rfl ?_
  refine pm_callX (x := 19) dSg_charAt_1 lSg_492 vSg_isLatin1 rfl (by decide) (Sg_isLatin1_29_ok _ _ _ _  _ _ hp.1) rfl rfl (Nat.le_of_ble_eq_true rfl) (Nat.le_refl _) (Nat.le_refl _) ?_
  refine pm_eqi (1 : Int32) rfl ?_
  refine pm_if_eq 16 dSg_charAt_4 (by decide) (fun h4 => ?_) (fun h4 => ?_)
  · exact absurd h4 (by decide)
  ·
    refine pm_xload_n dSg_charAt_7 rfl ?_
    refine pm_xvalue (x := 19) dSg_charAt_8 gSg_9 (by decide) ?_
    refine pm_iload_n dSg_charAt_11 rfl ?_
    refine pm_callS dSg_charAt_12 lSg_495 tSl_charAt (Sl_charAt_29_ok _ _ _ _ _ _ _ hp.2.1) rfl rfl (Nat.le_of_ble_eq_true rfl) (Nat.le_refl _) (Nat.le_refl _) ?_
    exact pm_zret dSg_charAt_15 rfl hp.2.2 (ho.trans (by first | rfl | (simp only [fSg_charAt_29]; done) | (simp only [fSg_charAt_29]; rfl))) (hz.trans (by first | rfl | (simp only [fSg_charAt_29]; done) | (simp only [fSg_charAt_29]; rfl)))
set_option maxHeartbeats 4000000 in
set_option maxRecDepth 100000 in
theorem Sg_charAt_29_ok (g : pmG) (d : Nat) (K : List (Nat × Nat)) (R : Nat → Nat → Value)  (x0 : Int32) (I : Nat → Nat → Int32) (J : Nat → Nat → Int64) (hp : pSg_charAt_29 x0) : pmC g kSg_charAt (d + 3) 0 0 [.retAddr 29, .int x0] (K, R, I, J) (.returned (some (.int (fSg_charAt_29 x0)))) (K, R, I, J) :=
  pmC.of (by decide) (Nat.le_of_ble_eq_true rfl) (Sg_charAt_29_n0 g d K R I J _ _  x0  hp rfl rfl)
def fSg_coder_30   : Int32 :=
  (0 : Int32)
def pSg_coder_30   : Prop :=
  True
set_option maxHeartbeats 4000000 in
set_option maxRecDepth 100000 in
theorem Sg_coder_30_n0 (g : pmG) (d : Nat) (K : List (Nat × Nat)) (R : Nat → Nat → Value) (I : Nat → Nat → Int32) (J : Nat → Nat → Int64) (o : Outcome) (Z : pmM)   (hp : pSg_coder_30) (ho : o = .returned (some (.int fSg_coder_30))) (hz : Z = (K, R, I, J)) : pmE g kSg_coder d 0 0 0 [(0, .retAddr 30)] [] (K) R I J o Z := by
  unfold pSg_coder_30 at hp
  refine pm_gets dSg_coder_0 gSg_38 xs_0 ?_
  refine pm_if_eq 13 dSg_coder_3 (by decide) (fun h3 => ?_) (fun h3 => ?_)
  · exact absurd h3 (by decide)
  ·
    refine pm_xload_n dSg_coder_6 rfl ?_
    refine pm_xcoder (x := 20) dSg_coder_7 gSg_15 (by decide) ?_
    refine pm_goto 14 dSg_coder_10 (by decide) ?_
    exact pm_zret dSg_coder_14 rfl (by first | rfl | decide) (ho.trans (by first | rfl | (simp only [fSg_coder_30]; done) | (simp only [fSg_coder_30]; rfl))) (hz.trans (by first | rfl | (simp only [fSg_coder_30]; done) | (simp only [fSg_coder_30]; rfl)))
set_option maxHeartbeats 4000000 in
set_option maxRecDepth 100000 in
theorem Sg_coder_30_ok (g : pmG) (d : Nat) (K : List (Nat × Nat)) (R : Nat → Nat → Value)   (I : Nat → Nat → Int32) (J : Nat → Nat → Int64) (hp : pSg_coder_30) : pmC g kSg_coder d 0 0 [.retAddr 30] (K, R, I, J) (.returned (some (.int fSg_coder_30))) (K, R, I, J) :=
  pmC.of (by decide) (Nat.le_of_ble_eq_true rfl) (Sg_coder_30_n0 g d K R I J _ _    hp rfl rfl)
def fSg_isLatin1_30_17   : Int32 :=
  (0 : Int32)
def pSg_isLatin1_30_17   : Prop :=
  True
def fSg_isLatin1_30   : Int32 :=
  (1 : Int32)
def pSg_isLatin1_30   : Prop :=
  True
set_option maxHeartbeats 4000000 in
set_option maxRecDepth 100000 in
theorem Sg_isLatin1_30_n17 (g : pmG) (d : Nat) (K : List (Nat × Nat)) (R : Nat → Nat → Value) (I : Nat → Nat → Int32) (J : Nat → Nat → Int64) (o : Outcome) (Z : pmM)   (hp : pSg_isLatin1_30_17) (ho : o = .returned (some (.int fSg_isLatin1_30_17))) (hz : Z = (K, R, I, J)) : pmE g kSg_isLatin1 d 0 0 17 [(0, .retAddr 30)] [] (K) R I J o Z := by
  unfold pSg_isLatin1_30_17 at hp
  refine pm_iconst (v := 0) dSg_isLatin1_17 (by decide) ?_
  exact pm_zret dSg_isLatin1_18 rfl (by first | rfl | decide) (ho.trans (by first | rfl | (simp only [fSg_isLatin1_30_17]; done) | (simp only [fSg_isLatin1_30_17]; rfl))) (hz.trans (by first | rfl | (simp only [fSg_isLatin1_30_17]; done) | (simp only [fSg_isLatin1_30_17]; rfl)))
set_option maxHeartbeats 4000000 in
set_option maxRecDepth 100000 in
theorem Sg_isLatin1_30_n0 (g : pmG) (d : Nat) (K : List (Nat × Nat)) (R : Nat → Nat → Value) (I : Nat → Nat → Int32) (J : Nat → Nat → Int64) (o : Outcome) (Z : pmM)   (hp : pSg_isLatin1_30) (ho : o = .returned (some (.int fSg_isLatin1_30))) (hz : Z = (K, R, I, J)) : pmE g kSg_isLatin1 d 0 0 0 [(0, .retAddr 30)] [] (K) R I J o Z := by
  unfold pSg_isLatin1_30 at hp
  refine pm_gets dSg_isLatin1_0 gSg_38 xs_0 ?_
  refine pm_if_eq 17 dSg_isLatin1_3 (by decide) (fun h3 => ?_) (fun h3 => ?_)
  · exact absurd h3 (by decide)
  ·
    refine pm_xload_n dSg_isLatin1_6 rfl ?_
    refine pm_xcoder (x := 20) dSg_isLatin1_7 gSg_15 (by decide) ?_
    refine pm_if_ne 17 dSg_isLatin1_10 (by decide) (fun h10 => ?_) (fun h10 => ?_)
    · exact absurd (by decide) h10
    ·
      refine pm_iconst (v := 1) dSg_isLatin1_13 (by decide) ?_
      refine pm_goto 18 dSg_isLatin1_14 (by decide) ?_
      exact pm_zret dSg_isLatin1_18 rfl (by first | rfl | decide) (ho.trans (by first | rfl | (simp only [fSg_isLatin1_30]; done) | (simp only [fSg_isLatin1_30]; rfl))) (hz.trans (by first | rfl | (simp only [fSg_isLatin1_30]; done) | (simp only [fSg_isLatin1_30]; rfl)))
set_option maxHeartbeats 4000000 in
set_option maxRecDepth 100000 in
theorem Sg_isLatin1_30_ok (g : pmG) (d : Nat) (K : List (Nat × Nat)) (R : Nat → Nat → Value)   (I : Nat → Nat → Int32) (J : Nat → Nat → Int64) (hp : pSg_isLatin1_30) : pmC g kSg_isLatin1 d 0 0 [.retAddr 30] (K, R, I, J) (.returned (some (.int fSg_isLatin1_30))) (K, R, I, J) :=
  pmC.of (by decide) (Nat.le_of_ble_eq_true rfl) (Sg_isLatin1_30_n0 g d K R I J _ _    hp rfl rfl)
def fSg_length_30   : Int32 :=
  (2 : Int32) >>> ((0 : Int32) &&& 31)
def pSg_length_30   : Prop :=
  pSg_coder_30 ∧ True
set_option maxHeartbeats 4000000 in
set_option maxRecDepth 100000 in
theorem Sg_length_30_n0 (g : pmG) (d : Nat) (K : List (Nat × Nat)) (R : Nat → Nat → Value) (I : Nat → Nat → Int32) (J : Nat → Nat → Int64) (o : Outcome) (Z : pmM)   (hp : pSg_length_30) (ho : o = .returned (some (.int fSg_length_30))) (hz : Z = (K, R, I, J)) : pmE g kSg_length (d + 1) 0 0 0 [(0, .retAddr 30)] [] (K) R I J o Z := by
  unfold pSg_length_30 at hp
  refine pm_xload_n dSg_length_0 rfl ?_
  refine pm_xvalue (x := 20) dSg_length_1 gSg_9 (by decide) ?_
  refine pm_xlen (u := 2) dSg_length_4 xa_60 (by decide) ?_
  refine pm_xload_n dSg_length_5 rfl ?_
  refine pm_callX (x := 20) dSg_length_6 lSg_335 vSg_coder rfl (by decide) (Sg_coder_30_ok _ _ _ _  _ _ hp.1) rfl rfl (Nat.le_of_ble_eq_true rfl) (Nat.le_refl _) (Nat.le_refl _) ?_
  refine pm_eqi (0 : Int32) rfl ?_
  refine pm_ishr dSg_length_9 ?_
  exact pm_iret dSg_length_10 rfl (ho.trans (by first | rfl | (simp only [fSg_length_30]; done) | (simp only [fSg_length_30]; rfl))) (hz.trans (by first | rfl | (simp only [fSg_length_30]; done) | (simp only [fSg_length_30]; rfl)))
set_option maxHeartbeats 4000000 in
set_option maxRecDepth 100000 in
theorem Sg_length_30_ok (g : pmG) (d : Nat) (K : List (Nat × Nat)) (R : Nat → Nat → Value)   (I : Nat → Nat → Int32) (J : Nat → Nat → Int64) (hp : pSg_length_30) : pmC g kSg_length (d + 1) 0 0 [.retAddr 30] (K, R, I, J) (.returned (some (.int fSg_length_30))) (K, R, I, J) :=
  pmC.of (by decide) (Nat.le_of_ble_eq_true rfl) (Sg_length_30_n0 g d K R I J _ _    hp rfl rfl)
def fSl_charAt_30  (y1 : Int32) : Int32 :=
  (((pk_B20.getD y1.toNatClampNeg 0) &&& (255 : Int32)).toUInt32 % 65536).toInt32
def pSl_charAt_30  (y1 : Int32) : Prop :=
  (pSg_checkIndex y1 (2 : Int32)) ∧ ((vp_in y1 2) ∧ (narrow .char (.int ((((pk_B20.getD y1.toNatClampNeg 0) &&& (255 : Int32)).toUInt32 % 65536).toInt32)) = .int ((((pk_B20.getD y1.toNatClampNeg 0) &&& (255 : Int32)).toUInt32 % 65536).toInt32)))
set_option maxHeartbeats 4000000 in
set_option maxRecDepth 100000 in
theorem Sl_charAt_30_n0 (g : pmG) (d : Nat) (K : List (Nat × Nat)) (R : Nat → Nat → Value) (I : Nat → Nat → Int32) (J : Nat → Nat → Int64) (o : Outcome) (Z : pmM)  (y1 : Int32) (hp : pSl_charAt_30 y1) (ho : o = .returned (some (.int (fSl_charAt_30 y1)))) (hz : Z = (K, R, I, J)) : pmE g kSl_charAt (d + 2) 0 0 0 [(0, .retAddr 60), (1, .int y1)] [] (K) R I J o Z := by
  unfold pSl_charAt_30 at hp
  refine pm_iload_n dSl_charAt_0 rfl ?_
  refine pm_xload_n dSl_charAt_1 rfl ?_
  refine pm_xlen (u := 2) dSl_charAt_2 xa_60 (by decide) ?_
  refine pm_callS dSl_charAt_3 lSl_9 tSg_checkIndex (Sg_checkIndex_ok _ _ _ _ _ _ _ _ hp.1) rfl rfl (Nat.le_of_ble_eq_true rfl) (Nat.le_refl _) (Nat.le_refl _) ?_
  refine pm_xload_n dSl_charAt_6 rfl ?_
  refine pm_iload_n dSl_charAt_7 rfl ?_
  refine pm_xbald dSl_charAt_8 xa_60 hp.2.1 ?_
  refine pm_sipush (v := 255) dSl_charAt_9 (by decide) ?_
  refine pm_iand dSl_charAt_12 ?_
  refine pm_i2c dSl_charAt_13 ?_
  exact pm_zret dSl_charAt_14 rfl hp.2.2 (ho.trans (by first | rfl | (simp only [fSl_charAt_30]; done) | (simp only [fSl_charAt_30]; rfl))) (hz.trans (by first | rfl | (simp only [fSl_charAt_30]; done) | (simp only [fSl_charAt_30]; rfl)))
set_option maxHeartbeats 4000000 in
set_option maxRecDepth 100000 in
theorem Sl_charAt_30_ok (g : pmG) (d : Nat) (K : List (Nat × Nat)) (R : Nat → Nat → Value)  (x0 : Int32) (I : Nat → Nat → Int32) (J : Nat → Nat → Int64) (hp : pSl_charAt_30 x0) : pmC g kSl_charAt (d + 2) 0 0 [.retAddr 60, .int x0] (K, R, I, J) (.returned (some (.int (fSl_charAt_30 x0)))) (K, R, I, J) :=
  pmC.of (by decide) (Nat.le_of_ble_eq_true rfl) (Sl_charAt_30_n0 g d K R I J _ _  x0  hp rfl rfl)
def fSg_charAt_30  (y1 : Int32) : Int32 :=
  (fSl_charAt_30 y1)
def pSg_charAt_30  (y1 : Int32) : Prop :=
  pSg_isLatin1_30 ∧ ((pSl_charAt_30 y1) ∧ (narrow .char (.int ((fSl_charAt_30 y1))) = .int ((fSl_charAt_30 y1))))
set_option maxHeartbeats 4000000 in
set_option maxRecDepth 100000 in
theorem Sg_charAt_30_n0 (g : pmG) (d : Nat) (K : List (Nat × Nat)) (R : Nat → Nat → Value) (I : Nat → Nat → Int32) (J : Nat → Nat → Int64) (o : Outcome) (Z : pmM)  (y1 : Int32) (hp : pSg_charAt_30 y1) (ho : o = .returned (some (.int (fSg_charAt_30 y1)))) (hz : Z = (K, R, I, J)) : pmE g kSg_charAt (d + 3) 0 0 0 [(0, .retAddr 30), (1, .int y1)] [] (K) R I J o Z := by
  unfold pSg_charAt_30 at hp
  refine pm_xload_n dSg_charAt_0 rfl ?_
  refine pm_callX (x := 20) dSg_charAt_1 lSg_492 vSg_isLatin1 rfl (by decide) (Sg_isLatin1_30_ok _ _ _ _  _ _ hp.1) rfl rfl (Nat.le_of_ble_eq_true rfl) (Nat.le_refl _) (Nat.le_refl _) ?_
  refine pm_eqi (1 : Int32) rfl ?_
  refine pm_if_eq 16 dSg_charAt_4 (by decide) (fun h4 => ?_) (fun h4 => ?_)
  · exact absurd h4 (by decide)
  ·
    refine pm_xload_n dSg_charAt_7 rfl ?_
    refine pm_xvalue (x := 20) dSg_charAt_8 gSg_9 (by decide) ?_
    refine pm_iload_n dSg_charAt_11 rfl ?_
    refine pm_callS dSg_charAt_12 lSg_495 tSl_charAt (Sl_charAt_30_ok _ _ _ _ _ _ _ hp.2.1) rfl rfl (Nat.le_of_ble_eq_true rfl) (Nat.le_refl _) (Nat.le_refl _) ?_
    exact pm_zret dSg_charAt_15 rfl hp.2.2 (ho.trans (by first | rfl | (simp only [fSg_charAt_30]; done) | (simp only [fSg_charAt_30]; rfl))) (hz.trans (by first | rfl | (simp only [fSg_charAt_30]; done) | (simp only [fSg_charAt_30]; rfl)))
set_option maxHeartbeats 4000000 in
set_option maxRecDepth 100000 in
theorem Sg_charAt_30_ok (g : pmG) (d : Nat) (K : List (Nat × Nat)) (R : Nat → Nat → Value)  (x0 : Int32) (I : Nat → Nat → Int32) (J : Nat → Nat → Int64) (hp : pSg_charAt_30 x0) : pmC g kSg_charAt (d + 3) 0 0 [.retAddr 30, .int x0] (K, R, I, J) (.returned (some (.int (fSg_charAt_30 x0)))) (K, R, I, J) :=
  pmC.of (by decide) (Nat.le_of_ble_eq_true rfl) (Sg_charAt_30_n0 g d K R I J _ _  x0  hp rfl rfl)
