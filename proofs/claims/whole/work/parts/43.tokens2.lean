def fTk_isWord_10_13  : Nat → Int32 → Int32 → Int32 → (Nat → Nat → Int32) → (Nat → Nat → Int64) → Int32
  | 0, _, _, _, _, _ => 0
  | n + 1, y2, y3, y4, I, J =>
  if y3 ≤ y4 then (1 : Int32)
  else if ((fTp_byteAt (y2 + y4) I J)) = ((fSg_charAt_10 y4 I J)) then fTk_isWord_10_13 n y2 y3 (y4 + Int32.ofInt 1) I J
    else (0 : Int32)
def pTk_isWord_10_13  : Nat → Int32 → Int32 → Int32 → (Nat → Nat → Int32) → (Nat → Nat → Int64) → Prop
  | 0, _, _, _, _, _ => False
  | n + 1, y2, y3, y4, I, J =>
  (y3 ≤ y4 → True) ∧
  (¬ (y3 ≤ y4) → (pTp_byteAt (y2 + y4) I J) ∧ ((pSg_charAt_10 y4 I J) ∧ ((((fTp_byteAt (y2 + y4) I J)) = ((fSg_charAt_10 y4 I J)) → pTk_isWord_10_13 n y2 y3 (y4 + Int32.ofInt 1) I J) ∧
    (¬ (((fTp_byteAt (y2 + y4) I J)) = ((fSg_charAt_10 y4 I J))) → True))))
def fTk_isWord_10 (n13 : Nat) (y2 : Int32) (y3 : Int32) (I : Nat → Nat → Int32) (J : Nat → Nat → Int64) : Int32 :=
  if y3 = ((fSg_length_10 I J)) then fTk_isWord_10_13 n13 y2 y3 (0 : Int32) I J
  else (0 : Int32)
def pTk_isWord_10 (n13 : Nat) (y2 : Int32) (y3 : Int32) (I : Nat → Nat → Int32) (J : Nat → Nat → Int64) : Prop :=
  (pSg_length_10 I J) ∧ ((y3 = ((fSg_length_10 I J)) → pTk_isWord_10_13 n13 y2 y3 (0 : Int32) I J) ∧
  (¬ (y3 = ((fSg_length_10 I J))) → True))
set_option maxHeartbeats 4000000 in
set_option maxRecDepth 100000 in
theorem Tk_isWord_10_n13 (g : pmG) (d : Nat) (ex : List (Nat × Nat)) (R : Nat → Nat → Value) (hR : pk_R R) (o : Outcome) (Z : pmM)  : ∀ (n : Nat) (y2 : Int32) (y3 : Int32) (y4 : Int32) (I : Nat → Nat → Int32) (J : Nat → Nat → Int64), pTk_isWord_10_13 n y2 y3 y4 I J → o = .returned (some (.int (fTk_isWord_10_13 n y2 y3 y4 I J))) → Z = (pk_K ++ ex, R, I, J) → pmE g kTk_isWord (d + 4) 0 0 13 [(0, .ref 17), (1, .retAddr 10), (2, .int y2), (3, .int y3), (4, .int y4)] [] (pk_K ++ ex) R I J o Z := by
  intro n
  induction n with
  | zero => intro y2 y3 y4 I J hp; exact False.elim hp
  | succ n ih =>
  intro y2 y3 y4 I J hp ho hz
  simp only [pTk_isWord_10_13] at hp
  refine pm_iload dTk_isWord_13 rfl ?_
  refine pm_iload_n dTk_isWord_15 rfl ?_
  refine pm_icmp_ge 47 dTk_isWord_16 (by decide) (fun h16 => ?_) (fun h16 => ?_)
  ·
    refine pm_iconst (v := 1) dTk_isWord_47 (by decide) ?_
    exact pm_zret dTk_isWord_48 rfl (by first | rfl | decide) (ho.trans (by first | (simp only [fTk_isWord_10_13, if_pos h16]; done) | (simp only [fTk_isWord_10_13, if_pos h16]; rfl) | rfl)) (hz.trans (by first | (simp only [fTk_isWord_10_13, if_pos h16]; done) | (simp only [fTk_isWord_10_13, if_pos h16]; rfl) | rfl))
  ·
    refine pm_aload_n dTk_isWord_19 rfl ?_
    refine pm_getr dTk_isWord_20 fTk_24 rfl (rr_17_0 hR) ?_
    refine pm_iload_n dTk_isWord_23 rfl ?_
    refine pm_iload dTk_isWord_24 rfl ?_
    refine pm_iadd dTk_isWord_26 ?_
    refine pm_callV dTk_isWord_27 lTk_45 vTp_byteAt ⟨_, _, rfl⟩ (Tp_byteAt_ok _ _ _ _ hR _ _ _ (hp.2 h16).1) rfl rfl rfl (Nat.le_of_ble_eq_true rfl) (Nat.le_refl _) (Nat.le_refl _) ?_
    refine pm_xload_n dTk_isWord_30 rfl ?_
    refine pm_iload dTk_isWord_31 rfl ?_
    refine pm_callX (x := 0) dTk_isWord_33 lTk_81 vSg_charAt rfl (by decide) (Sg_charAt_10_ok _ _ _ _ hR _ _ _ (hp.2 h16).2.1) rfl rfl (Nat.le_of_ble_eq_true rfl) (Nat.le_refl _) (Nat.le_refl _) ?_
    refine pm_icmp_eq 41 dTk_isWord_36 (by decide) (fun h36 => ?_) (fun h36 => ?_)
    ·
      refine pm_iinc dTk_isWord_41 rfl (by decide) rfl ?_
      refine pm_goto 13 dTk_isWord_44 (by decide) ?_
      refine pm_wk [1, 2, 3, 4, 0] rfl ?_
      exact ih _ _ _ _ _ ((hp.2 h16).2.2.1 h36) (ho.trans (by first | (simp only [fTk_isWord_10_13, if_neg h16, if_pos h36]; done) | (simp only [fTk_isWord_10_13, if_neg h16, if_pos h36]; rfl) | rfl)) (hz.trans (by first | (simp only [fTk_isWord_10_13, if_neg h16, if_pos h36]; done) | (simp only [fTk_isWord_10_13, if_neg h16, if_pos h36]; rfl) | rfl))
    ·
      refine pm_iconst (v := 0) dTk_isWord_39 (by decide) ?_
      exact pm_zret dTk_isWord_40 rfl (by first | rfl | decide) (ho.trans (by first | (simp only [fTk_isWord_10_13, if_neg h16, if_neg h36]; done) | (simp only [fTk_isWord_10_13, if_neg h16, if_neg h36]; rfl) | rfl)) (hz.trans (by first | (simp only [fTk_isWord_10_13, if_neg h16, if_neg h36]; done) | (simp only [fTk_isWord_10_13, if_neg h16, if_neg h36]; rfl) | rfl))
set_option maxHeartbeats 4000000 in
set_option maxRecDepth 100000 in
theorem Tk_isWord_10_n0 (g : pmG) (d : Nat) (ex : List (Nat × Nat)) (R : Nat → Nat → Value) (hR : pk_R R) (o : Outcome) (Z : pmM) (n13 : Nat) (y2 : Int32) (y3 : Int32) (I : Nat → Nat → Int32) (J : Nat → Nat → Int64) (hp : pTk_isWord_10 n13 y2 y3 I J) (ho : o = .returned (some (.int (fTk_isWord_10 n13 y2 y3 I J)))) (hz : Z = (pk_K ++ ex, R, I, J)) : pmE g kTk_isWord (d + 4) 0 0 0 [(0, .ref 17), (1, .retAddr 10), (2, .int y2), (3, .int y3)] [] (pk_K ++ ex) R I J o Z := by
  unfold pTk_isWord_10 at hp
  refine pm_iload_n dTk_isWord_0 rfl ?_
  refine pm_xload_n dTk_isWord_1 rfl ?_
  refine pm_callX (x := 0) dTk_isWord_2 lTk_77 vSg_length rfl (by decide) (Sg_length_10_ok _ _ _ _ hR  _ _ hp.1) rfl rfl (Nat.le_of_ble_eq_true rfl) (Nat.le_refl _) (Nat.le_refl _) ?_
  refine pm_icmp_eq 10 dTk_isWord_5 (by decide) (fun h5 => ?_) (fun h5 => ?_)
  ·
    refine pm_iconst (v := 0) dTk_isWord_10 (by decide) ?_
    refine pm_istore dTk_isWord_11 (by decide) rfl ?_
    refine pm_wk [1, 2, 3, 4, 0] rfl ?_
    exact Tk_isWord_10_n13 g d ex R hR _ _  n13 _ _ _ _ _ (hp.2.1 h5) (ho.trans (by first | (simp only [fTk_isWord_10, if_pos h5]; done) | (simp only [fTk_isWord_10, if_pos h5]; rfl) | rfl)) (hz.trans (by first | (simp only [fTk_isWord_10, if_pos h5]; done) | (simp only [fTk_isWord_10, if_pos h5]; rfl) | rfl))
  ·
    refine pm_iconst (v := 0) dTk_isWord_8 (by decide) ?_
    exact pm_zret dTk_isWord_9 rfl (by first | rfl | decide) (ho.trans (by first | (simp only [fTk_isWord_10, if_neg h5]; done) | (simp only [fTk_isWord_10, if_neg h5]; rfl) | rfl)) (hz.trans (by first | (simp only [fTk_isWord_10, if_neg h5]; done) | (simp only [fTk_isWord_10, if_neg h5]; rfl) | rfl))
set_option maxHeartbeats 4000000 in
set_option maxRecDepth 100000 in
theorem Tk_isWord_10_ok (g : pmG) (d : Nat) (ex : List (Nat × Nat)) (R : Nat → Nat → Value) (hR : pk_R R) (n13 : Nat) (x0 : Int32) (x1 : Int32) (I : Nat → Nat → Int32) (J : Nat → Nat → Int64) (hp : pTk_isWord_10 n13 x0 x1 I J) : pmC g kTk_isWord (d + 4) 0 0 [.ref 17, .retAddr 10, .int x0, .int x1] (pk_K ++ ex, R, I, J) (.returned (some (.int (fTk_isWord_10 n13 x0 x1 I J)))) (pk_K ++ ex, R, I, J) :=
  pmC.of (by decide) (Nat.le_of_ble_eq_true rfl) (Tk_isWord_10_n0 g d ex R hR _ _ n13 x0 x1 I J hp rfl rfl)
def fTk_isWord_11_13  : Nat → Int32 → Int32 → Int32 → (Nat → Nat → Int32) → (Nat → Nat → Int64) → Int32
  | 0, _, _, _, _, _ => 0
  | n + 1, y2, y3, y4, I, J =>
  if y3 ≤ y4 then (1 : Int32)
  else if ((fTp_byteAt (y2 + y4) I J)) = ((fSg_charAt_11 y4 I J)) then fTk_isWord_11_13 n y2 y3 (y4 + Int32.ofInt 1) I J
    else (0 : Int32)
def pTk_isWord_11_13  : Nat → Int32 → Int32 → Int32 → (Nat → Nat → Int32) → (Nat → Nat → Int64) → Prop
  | 0, _, _, _, _, _ => False
  | n + 1, y2, y3, y4, I, J =>
  (y3 ≤ y4 → True) ∧
  (¬ (y3 ≤ y4) → (pTp_byteAt (y2 + y4) I J) ∧ ((pSg_charAt_11 y4 I J) ∧ ((((fTp_byteAt (y2 + y4) I J)) = ((fSg_charAt_11 y4 I J)) → pTk_isWord_11_13 n y2 y3 (y4 + Int32.ofInt 1) I J) ∧
    (¬ (((fTp_byteAt (y2 + y4) I J)) = ((fSg_charAt_11 y4 I J))) → True))))
def fTk_isWord_11 (n13 : Nat) (y2 : Int32) (y3 : Int32) (I : Nat → Nat → Int32) (J : Nat → Nat → Int64) : Int32 :=
  if y3 = ((fSg_length_11 I J)) then fTk_isWord_11_13 n13 y2 y3 (0 : Int32) I J
  else (0 : Int32)
def pTk_isWord_11 (n13 : Nat) (y2 : Int32) (y3 : Int32) (I : Nat → Nat → Int32) (J : Nat → Nat → Int64) : Prop :=
  (pSg_length_11 I J) ∧ ((y3 = ((fSg_length_11 I J)) → pTk_isWord_11_13 n13 y2 y3 (0 : Int32) I J) ∧
  (¬ (y3 = ((fSg_length_11 I J))) → True))
set_option maxHeartbeats 4000000 in
set_option maxRecDepth 100000 in
theorem Tk_isWord_11_n13 (g : pmG) (d : Nat) (ex : List (Nat × Nat)) (R : Nat → Nat → Value) (hR : pk_R R) (o : Outcome) (Z : pmM)  : ∀ (n : Nat) (y2 : Int32) (y3 : Int32) (y4 : Int32) (I : Nat → Nat → Int32) (J : Nat → Nat → Int64), pTk_isWord_11_13 n y2 y3 y4 I J → o = .returned (some (.int (fTk_isWord_11_13 n y2 y3 y4 I J))) → Z = (pk_K ++ ex, R, I, J) → pmE g kTk_isWord (d + 4) 0 0 13 [(0, .ref 17), (1, .retAddr 11), (2, .int y2), (3, .int y3), (4, .int y4)] [] (pk_K ++ ex) R I J o Z := by
  intro n
  induction n with
  | zero => intro y2 y3 y4 I J hp; exact False.elim hp
  | succ n ih =>
  intro y2 y3 y4 I J hp ho hz
  simp only [pTk_isWord_11_13] at hp
  refine pm_iload dTk_isWord_13 rfl ?_
  refine pm_iload_n dTk_isWord_15 rfl ?_
  refine pm_icmp_ge 47 dTk_isWord_16 (by decide) (fun h16 => ?_) (fun h16 => ?_)
  ·
    refine pm_iconst (v := 1) dTk_isWord_47 (by decide) ?_
    exact pm_zret dTk_isWord_48 rfl (by first | rfl | decide) (ho.trans (by first | (simp only [fTk_isWord_11_13, if_pos h16]; done) | (simp only [fTk_isWord_11_13, if_pos h16]; rfl) | rfl)) (hz.trans (by first | (simp only [fTk_isWord_11_13, if_pos h16]; done) | (simp only [fTk_isWord_11_13, if_pos h16]; rfl) | rfl))
  ·
    refine pm_aload_n dTk_isWord_19 rfl ?_
    refine pm_getr dTk_isWord_20 fTk_24 rfl (rr_17_0 hR) ?_
    refine pm_iload_n dTk_isWord_23 rfl ?_
    refine pm_iload dTk_isWord_24 rfl ?_
    refine pm_iadd dTk_isWord_26 ?_
    refine pm_callV dTk_isWord_27 lTk_45 vTp_byteAt ⟨_, _, rfl⟩ (Tp_byteAt_ok _ _ _ _ hR _ _ _ (hp.2 h16).1) rfl rfl rfl (Nat.le_of_ble_eq_true rfl) (Nat.le_refl _) (Nat.le_refl _) ?_
    refine pm_xload_n dTk_isWord_30 rfl ?_
    refine pm_iload dTk_isWord_31 rfl ?_
    refine pm_callX (x := 1) dTk_isWord_33 lTk_81 vSg_charAt rfl (by decide) (Sg_charAt_11_ok _ _ _ _ hR _ _ _ (hp.2 h16).2.1) rfl rfl (Nat.le_of_ble_eq_true rfl) (Nat.le_refl _) (Nat.le_refl _) ?_
    refine pm_icmp_eq 41 dTk_isWord_36 (by decide) (fun h36 => ?_) (fun h36 => ?_)
    ·
      refine pm_iinc dTk_isWord_41 rfl (by decide) rfl ?_
      refine pm_goto 13 dTk_isWord_44 (by decide) ?_
      refine pm_wk [1, 2, 3, 4, 0] rfl ?_
      exact ih _ _ _ _ _ ((hp.2 h16).2.2.1 h36) (ho.trans (by first | (simp only [fTk_isWord_11_13, if_neg h16, if_pos h36]; done) | (simp only [fTk_isWord_11_13, if_neg h16, if_pos h36]; rfl) | rfl)) (hz.trans (by first | (simp only [fTk_isWord_11_13, if_neg h16, if_pos h36]; done) | (simp only [fTk_isWord_11_13, if_neg h16, if_pos h36]; rfl) | rfl))
    ·
      refine pm_iconst (v := 0) dTk_isWord_39 (by decide) ?_
      exact pm_zret dTk_isWord_40 rfl (by first | rfl | decide) (ho.trans (by first | (simp only [fTk_isWord_11_13, if_neg h16, if_neg h36]; done) | (simp only [fTk_isWord_11_13, if_neg h16, if_neg h36]; rfl) | rfl)) (hz.trans (by first | (simp only [fTk_isWord_11_13, if_neg h16, if_neg h36]; done) | (simp only [fTk_isWord_11_13, if_neg h16, if_neg h36]; rfl) | rfl))
set_option maxHeartbeats 4000000 in
set_option maxRecDepth 100000 in
theorem Tk_isWord_11_n0 (g : pmG) (d : Nat) (ex : List (Nat × Nat)) (R : Nat → Nat → Value) (hR : pk_R R) (o : Outcome) (Z : pmM) (n13 : Nat) (y2 : Int32) (y3 : Int32) (I : Nat → Nat → Int32) (J : Nat → Nat → Int64) (hp : pTk_isWord_11 n13 y2 y3 I J) (ho : o = .returned (some (.int (fTk_isWord_11 n13 y2 y3 I J)))) (hz : Z = (pk_K ++ ex, R, I, J)) : pmE g kTk_isWord (d + 4) 0 0 0 [(0, .ref 17), (1, .retAddr 11), (2, .int y2), (3, .int y3)] [] (pk_K ++ ex) R I J o Z := by
  unfold pTk_isWord_11 at hp
  refine pm_iload_n dTk_isWord_0 rfl ?_
  refine pm_xload_n dTk_isWord_1 rfl ?_
  refine pm_callX (x := 1) dTk_isWord_2 lTk_77 vSg_length rfl (by decide) (Sg_length_11_ok _ _ _ _ hR  _ _ hp.1) rfl rfl (Nat.le_of_ble_eq_true rfl) (Nat.le_refl _) (Nat.le_refl _) ?_
  refine pm_icmp_eq 10 dTk_isWord_5 (by decide) (fun h5 => ?_) (fun h5 => ?_)
  ·
    refine pm_iconst (v := 0) dTk_isWord_10 (by decide) ?_
    refine pm_istore dTk_isWord_11 (by decide) rfl ?_
    refine pm_wk [1, 2, 3, 4, 0] rfl ?_
    exact Tk_isWord_11_n13 g d ex R hR _ _  n13 _ _ _ _ _ (hp.2.1 h5) (ho.trans (by first | (simp only [fTk_isWord_11, if_pos h5]; done) | (simp only [fTk_isWord_11, if_pos h5]; rfl) | rfl)) (hz.trans (by first | (simp only [fTk_isWord_11, if_pos h5]; done) | (simp only [fTk_isWord_11, if_pos h5]; rfl) | rfl))
  ·
    refine pm_iconst (v := 0) dTk_isWord_8 (by decide) ?_
    exact pm_zret dTk_isWord_9 rfl (by first | rfl | decide) (ho.trans (by first | (simp only [fTk_isWord_11, if_neg h5]; done) | (simp only [fTk_isWord_11, if_neg h5]; rfl) | rfl)) (hz.trans (by first | (simp only [fTk_isWord_11, if_neg h5]; done) | (simp only [fTk_isWord_11, if_neg h5]; rfl) | rfl))
set_option maxHeartbeats 4000000 in
set_option maxRecDepth 100000 in
theorem Tk_isWord_11_ok (g : pmG) (d : Nat) (ex : List (Nat × Nat)) (R : Nat → Nat → Value) (hR : pk_R R) (n13 : Nat) (x0 : Int32) (x1 : Int32) (I : Nat → Nat → Int32) (J : Nat → Nat → Int64) (hp : pTk_isWord_11 n13 x0 x1 I J) : pmC g kTk_isWord (d + 4) 0 0 [.ref 17, .retAddr 11, .int x0, .int x1] (pk_K ++ ex, R, I, J) (.returned (some (.int (fTk_isWord_11 n13 x0 x1 I J)))) (pk_K ++ ex, R, I, J) :=
  pmC.of (by decide) (Nat.le_of_ble_eq_true rfl) (Tk_isWord_11_n0 g d ex R hR _ _ n13 x0 x1 I J hp rfl rfl)
def fTk_isWord_12_13  : Nat → Int32 → Int32 → Int32 → (Nat → Nat → Int32) → (Nat → Nat → Int64) → Int32
  | 0, _, _, _, _, _ => 0
  | n + 1, y2, y3, y4, I, J =>
  if y3 ≤ y4 then (1 : Int32)
  else if ((fTp_byteAt (y2 + y4) I J)) = ((fSg_charAt_12 y4 I J)) then fTk_isWord_12_13 n y2 y3 (y4 + Int32.ofInt 1) I J
    else (0 : Int32)
def pTk_isWord_12_13  : Nat → Int32 → Int32 → Int32 → (Nat → Nat → Int32) → (Nat → Nat → Int64) → Prop
  | 0, _, _, _, _, _ => False
  | n + 1, y2, y3, y4, I, J =>
  (y3 ≤ y4 → True) ∧
  (¬ (y3 ≤ y4) → (pTp_byteAt (y2 + y4) I J) ∧ ((pSg_charAt_12 y4 I J) ∧ ((((fTp_byteAt (y2 + y4) I J)) = ((fSg_charAt_12 y4 I J)) → pTk_isWord_12_13 n y2 y3 (y4 + Int32.ofInt 1) I J) ∧
    (¬ (((fTp_byteAt (y2 + y4) I J)) = ((fSg_charAt_12 y4 I J))) → True))))
def fTk_isWord_12 (n13 : Nat) (y2 : Int32) (y3 : Int32) (I : Nat → Nat → Int32) (J : Nat → Nat → Int64) : Int32 :=
  if y3 = ((fSg_length_12 I J)) then fTk_isWord_12_13 n13 y2 y3 (0 : Int32) I J
  else (0 : Int32)
def pTk_isWord_12 (n13 : Nat) (y2 : Int32) (y3 : Int32) (I : Nat → Nat → Int32) (J : Nat → Nat → Int64) : Prop :=
  (pSg_length_12 I J) ∧ ((y3 = ((fSg_length_12 I J)) → pTk_isWord_12_13 n13 y2 y3 (0 : Int32) I J) ∧
  (¬ (y3 = ((fSg_length_12 I J))) → True))
set_option maxHeartbeats 4000000 in
set_option maxRecDepth 100000 in
theorem Tk_isWord_12_n13 (g : pmG) (d : Nat) (ex : List (Nat × Nat)) (R : Nat → Nat → Value) (hR : pk_R R) (o : Outcome) (Z : pmM)  : ∀ (n : Nat) (y2 : Int32) (y3 : Int32) (y4 : Int32) (I : Nat → Nat → Int32) (J : Nat → Nat → Int64), pTk_isWord_12_13 n y2 y3 y4 I J → o = .returned (some (.int (fTk_isWord_12_13 n y2 y3 y4 I J))) → Z = (pk_K ++ ex, R, I, J) → pmE g kTk_isWord (d + 4) 0 0 13 [(0, .ref 17), (1, .retAddr 12), (2, .int y2), (3, .int y3), (4, .int y4)] [] (pk_K ++ ex) R I J o Z := by
  intro n
  induction n with
  | zero => intro y2 y3 y4 I J hp; exact False.elim hp
  | succ n ih =>
  intro y2 y3 y4 I J hp ho hz
  simp only [pTk_isWord_12_13] at hp
  refine pm_iload dTk_isWord_13 rfl ?_
  refine pm_iload_n dTk_isWord_15 rfl ?_
  refine pm_icmp_ge 47 dTk_isWord_16 (by decide) (fun h16 => ?_) (fun h16 => ?_)
  ·
    refine pm_iconst (v := 1) dTk_isWord_47 (by decide) ?_
    exact pm_zret dTk_isWord_48 rfl (by first | rfl | decide) (ho.trans (by first | (simp only [fTk_isWord_12_13, if_pos h16]; done) | (simp only [fTk_isWord_12_13, if_pos h16]; rfl) | rfl)) (hz.trans (by first | (simp only [fTk_isWord_12_13, if_pos h16]; done) | (simp only [fTk_isWord_12_13, if_pos h16]; rfl) | rfl))
  ·
    refine pm_aload_n dTk_isWord_19 rfl ?_
    refine pm_getr dTk_isWord_20 fTk_24 rfl (rr_17_0 hR) ?_
    refine pm_iload_n dTk_isWord_23 rfl ?_
    refine pm_iload dTk_isWord_24 rfl ?_
    refine pm_iadd dTk_isWord_26 ?_
    refine pm_callV dTk_isWord_27 lTk_45 vTp_byteAt ⟨_, _, rfl⟩ (Tp_byteAt_ok _ _ _ _ hR _ _ _ (hp.2 h16).1) rfl rfl rfl (Nat.le_of_ble_eq_true rfl) (Nat.le_refl _) (Nat.le_refl _) ?_
    refine pm_xload_n dTk_isWord_30 rfl ?_
    refine pm_iload dTk_isWord_31 rfl ?_
    refine pm_callX (x := 2) dTk_isWord_33 lTk_81 vSg_charAt rfl (by decide) (Sg_charAt_12_ok _ _ _ _ hR _ _ _ (hp.2 h16).2.1) rfl rfl (Nat.le_of_ble_eq_true rfl) (Nat.le_refl _) (Nat.le_refl _) ?_
    refine pm_icmp_eq 41 dTk_isWord_36 (by decide) (fun h36 => ?_) (fun h36 => ?_)
    ·
      refine pm_iinc dTk_isWord_41 rfl (by decide) rfl ?_
      refine pm_goto 13 dTk_isWord_44 (by decide) ?_
      refine pm_wk [1, 2, 3, 4, 0] rfl ?_
      exact ih _ _ _ _ _ ((hp.2 h16).2.2.1 h36) (ho.trans (by first | (simp only [fTk_isWord_12_13, if_neg h16, if_pos h36]; done) | (simp only [fTk_isWord_12_13, if_neg h16, if_pos h36]; rfl) | rfl)) (hz.trans (by first | (simp only [fTk_isWord_12_13, if_neg h16, if_pos h36]; done) | (simp only [fTk_isWord_12_13, if_neg h16, if_pos h36]; rfl) | rfl))
    ·
      refine pm_iconst (v := 0) dTk_isWord_39 (by decide) ?_
      exact pm_zret dTk_isWord_40 rfl (by first | rfl | decide) (ho.trans (by first | (simp only [fTk_isWord_12_13, if_neg h16, if_neg h36]; done) | (simp only [fTk_isWord_12_13, if_neg h16, if_neg h36]; rfl) | rfl)) (hz.trans (by first | (simp only [fTk_isWord_12_13, if_neg h16, if_neg h36]; done) | (simp only [fTk_isWord_12_13, if_neg h16, if_neg h36]; rfl) | rfl))
set_option maxHeartbeats 4000000 in
set_option maxRecDepth 100000 in
theorem Tk_isWord_12_n0 (g : pmG) (d : Nat) (ex : List (Nat × Nat)) (R : Nat → Nat → Value) (hR : pk_R R) (o : Outcome) (Z : pmM) (n13 : Nat) (y2 : Int32) (y3 : Int32) (I : Nat → Nat → Int32) (J : Nat → Nat → Int64) (hp : pTk_isWord_12 n13 y2 y3 I J) (ho : o = .returned (some (.int (fTk_isWord_12 n13 y2 y3 I J)))) (hz : Z = (pk_K ++ ex, R, I, J)) : pmE g kTk_isWord (d + 4) 0 0 0 [(0, .ref 17), (1, .retAddr 12), (2, .int y2), (3, .int y3)] [] (pk_K ++ ex) R I J o Z := by
  unfold pTk_isWord_12 at hp
  refine pm_iload_n dTk_isWord_0 rfl ?_
  refine pm_xload_n dTk_isWord_1 rfl ?_
  refine pm_callX (x := 2) dTk_isWord_2 lTk_77 vSg_length rfl (by decide) (Sg_length_12_ok _ _ _ _ hR  _ _ hp.1) rfl rfl (Nat.le_of_ble_eq_true rfl) (Nat.le_refl _) (Nat.le_refl _) ?_
  refine pm_icmp_eq 10 dTk_isWord_5 (by decide) (fun h5 => ?_) (fun h5 => ?_)
  ·
    refine pm_iconst (v := 0) dTk_isWord_10 (by decide) ?_
    refine pm_istore dTk_isWord_11 (by decide) rfl ?_
    refine pm_wk [1, 2, 3, 4, 0] rfl ?_
    exact Tk_isWord_12_n13 g d ex R hR _ _  n13 _ _ _ _ _ (hp.2.1 h5) (ho.trans (by first | (simp only [fTk_isWord_12, if_pos h5]; done) | (simp only [fTk_isWord_12, if_pos h5]; rfl) | rfl)) (hz.trans (by first | (simp only [fTk_isWord_12, if_pos h5]; done) | (simp only [fTk_isWord_12, if_pos h5]; rfl) | rfl))
  ·
    refine pm_iconst (v := 0) dTk_isWord_8 (by decide) ?_
    exact pm_zret dTk_isWord_9 rfl (by first | rfl | decide) (ho.trans (by first | (simp only [fTk_isWord_12, if_neg h5]; done) | (simp only [fTk_isWord_12, if_neg h5]; rfl) | rfl)) (hz.trans (by first | (simp only [fTk_isWord_12, if_neg h5]; done) | (simp only [fTk_isWord_12, if_neg h5]; rfl) | rfl))
set_option maxHeartbeats 4000000 in
set_option maxRecDepth 100000 in
theorem Tk_isWord_12_ok (g : pmG) (d : Nat) (ex : List (Nat × Nat)) (R : Nat → Nat → Value) (hR : pk_R R) (n13 : Nat) (x0 : Int32) (x1 : Int32) (I : Nat → Nat → Int32) (J : Nat → Nat → Int64) (hp : pTk_isWord_12 n13 x0 x1 I J) : pmC g kTk_isWord (d + 4) 0 0 [.ref 17, .retAddr 12, .int x0, .int x1] (pk_K ++ ex, R, I, J) (.returned (some (.int (fTk_isWord_12 n13 x0 x1 I J)))) (pk_K ++ ex, R, I, J) :=
  pmC.of (by decide) (Nat.le_of_ble_eq_true rfl) (Tk_isWord_12_n0 g d ex R hR _ _ n13 x0 x1 I J hp rfl rfl)
def fTk_isWord_13_13  : Nat → Int32 → Int32 → Int32 → (Nat → Nat → Int32) → (Nat → Nat → Int64) → Int32
  | 0, _, _, _, _, _ => 0
  | n + 1, y2, y3, y4, I, J =>
  if y3 ≤ y4 then (1 : Int32)
  else if ((fTp_byteAt (y2 + y4) I J)) = ((fSg_charAt_13 y4 I J)) then fTk_isWord_13_13 n y2 y3 (y4 + Int32.ofInt 1) I J
    else (0 : Int32)
def pTk_isWord_13_13  : Nat → Int32 → Int32 → Int32 → (Nat → Nat → Int32) → (Nat → Nat → Int64) → Prop
  | 0, _, _, _, _, _ => False
  | n + 1, y2, y3, y4, I, J =>
  (y3 ≤ y4 → True) ∧
  (¬ (y3 ≤ y4) → (pTp_byteAt (y2 + y4) I J) ∧ ((pSg_charAt_13 y4 I J) ∧ ((((fTp_byteAt (y2 + y4) I J)) = ((fSg_charAt_13 y4 I J)) → pTk_isWord_13_13 n y2 y3 (y4 + Int32.ofInt 1) I J) ∧
    (¬ (((fTp_byteAt (y2 + y4) I J)) = ((fSg_charAt_13 y4 I J))) → True))))
def fTk_isWord_13 (n13 : Nat) (y2 : Int32) (y3 : Int32) (I : Nat → Nat → Int32) (J : Nat → Nat → Int64) : Int32 :=
  if y3 = ((fSg_length_13 I J)) then fTk_isWord_13_13 n13 y2 y3 (0 : Int32) I J
  else (0 : Int32)
def pTk_isWord_13 (n13 : Nat) (y2 : Int32) (y3 : Int32) (I : Nat → Nat → Int32) (J : Nat → Nat → Int64) : Prop :=
  (pSg_length_13 I J) ∧ ((y3 = ((fSg_length_13 I J)) → pTk_isWord_13_13 n13 y2 y3 (0 : Int32) I J) ∧
  (¬ (y3 = ((fSg_length_13 I J))) → True))
set_option maxHeartbeats 4000000 in
set_option maxRecDepth 100000 in
theorem Tk_isWord_13_n13 (g : pmG) (d : Nat) (ex : List (Nat × Nat)) (R : Nat → Nat → Value) (hR : pk_R R) (o : Outcome) (Z : pmM)  : ∀ (n : Nat) (y2 : Int32) (y3 : Int32) (y4 : Int32) (I : Nat → Nat → Int32) (J : Nat → Nat → Int64), pTk_isWord_13_13 n y2 y3 y4 I J → o = .returned (some (.int (fTk_isWord_13_13 n y2 y3 y4 I J))) → Z = (pk_K ++ ex, R, I, J) → pmE g kTk_isWord (d + 4) 0 0 13 [(0, .ref 17), (1, .retAddr 13), (2, .int y2), (3, .int y3), (4, .int y4)] [] (pk_K ++ ex) R I J o Z := by
  intro n
  induction n with
  | zero => intro y2 y3 y4 I J hp; exact False.elim hp
  | succ n ih =>
  intro y2 y3 y4 I J hp ho hz
  simp only [pTk_isWord_13_13] at hp
  refine pm_iload dTk_isWord_13 rfl ?_
  refine pm_iload_n dTk_isWord_15 rfl ?_
  refine pm_icmp_ge 47 dTk_isWord_16 (by decide) (fun h16 => ?_) (fun h16 => ?_)
  ·
    refine pm_iconst (v := 1) dTk_isWord_47 (by decide) ?_
    exact pm_zret dTk_isWord_48 rfl (by first | rfl | decide) (ho.trans (by first | (simp only [fTk_isWord_13_13, if_pos h16]; done) | (simp only [fTk_isWord_13_13, if_pos h16]; rfl) | rfl)) (hz.trans (by first | (simp only [fTk_isWord_13_13, if_pos h16]; done) | (simp only [fTk_isWord_13_13, if_pos h16]; rfl) | rfl))
  ·
    refine pm_aload_n dTk_isWord_19 rfl ?_
    refine pm_getr dTk_isWord_20 fTk_24 rfl (rr_17_0 hR) ?_
    refine pm_iload_n dTk_isWord_23 rfl ?_
    refine pm_iload dTk_isWord_24 rfl ?_
    refine pm_iadd dTk_isWord_26 ?_
    refine pm_callV dTk_isWord_27 lTk_45 vTp_byteAt ⟨_, _, rfl⟩ (Tp_byteAt_ok _ _ _ _ hR _ _ _ (hp.2 h16).1) rfl rfl rfl (Nat.le_of_ble_eq_true rfl) (Nat.le_refl _) (Nat.le_refl _) ?_
    refine pm_xload_n dTk_isWord_30 rfl ?_
    refine pm_iload dTk_isWord_31 rfl ?_
    refine pm_callX (x := 3) dTk_isWord_33 lTk_81 vSg_charAt rfl (by decide) (Sg_charAt_13_ok _ _ _ _ hR _ _ _ (hp.2 h16).2.1) rfl rfl (Nat.le_of_ble_eq_true rfl) (Nat.le_refl _) (Nat.le_refl _) ?_
    refine pm_icmp_eq 41 dTk_isWord_36 (by decide) (fun h36 => ?_) (fun h36 => ?_)
    ·
      refine pm_iinc dTk_isWord_41 rfl (by decide) rfl ?_
      refine pm_goto 13 dTk_isWord_44 (by decide) ?_
      refine pm_wk [1, 2, 3, 4, 0] rfl ?_
      exact ih _ _ _ _ _ ((hp.2 h16).2.2.1 h36) (ho.trans (by first | (simp only [fTk_isWord_13_13, if_neg h16, if_pos h36]; done) | (simp only [fTk_isWord_13_13, if_neg h16, if_pos h36]; rfl) | rfl)) (hz.trans (by first | (simp only [fTk_isWord_13_13, if_neg h16, if_pos h36]; done) | (simp only [fTk_isWord_13_13, if_neg h16, if_pos h36]; rfl) | rfl))
    ·
      refine pm_iconst (v := 0) dTk_isWord_39 (by decide) ?_
      exact pm_zret dTk_isWord_40 rfl (by first | rfl | decide) (ho.trans (by first | (simp only [fTk_isWord_13_13, if_neg h16, if_neg h36]; done) | (simp only [fTk_isWord_13_13, if_neg h16, if_neg h36]; rfl) | rfl)) (hz.trans (by first | (simp only [fTk_isWord_13_13, if_neg h16, if_neg h36]; done) | (simp only [fTk_isWord_13_13, if_neg h16, if_neg h36]; rfl) | rfl))
set_option maxHeartbeats 4000000 in
set_option maxRecDepth 100000 in
theorem Tk_isWord_13_n0 (g : pmG) (d : Nat) (ex : List (Nat × Nat)) (R : Nat → Nat → Value) (hR : pk_R R) (o : Outcome) (Z : pmM) (n13 : Nat) (y2 : Int32) (y3 : Int32) (I : Nat → Nat → Int32) (J : Nat → Nat → Int64) (hp : pTk_isWord_13 n13 y2 y3 I J) (ho : o = .returned (some (.int (fTk_isWord_13 n13 y2 y3 I J)))) (hz : Z = (pk_K ++ ex, R, I, J)) : pmE g kTk_isWord (d + 4) 0 0 0 [(0, .ref 17), (1, .retAddr 13), (2, .int y2), (3, .int y3)] [] (pk_K ++ ex) R I J o Z := by
  unfold pTk_isWord_13 at hp
  refine pm_iload_n dTk_isWord_0 rfl ?_
  refine pm_xload_n dTk_isWord_1 rfl ?_
  refine pm_callX (x := 3) dTk_isWord_2 lTk_77 vSg_length rfl (by decide) (Sg_length_13_ok _ _ _ _ hR  _ _ hp.1) rfl rfl (Nat.le_of_ble_eq_true rfl) (Nat.le_refl _) (Nat.le_refl _) ?_
  refine pm_icmp_eq 10 dTk_isWord_5 (by decide) (fun h5 => ?_) (fun h5 => ?_)
  ·
    refine pm_iconst (v := 0) dTk_isWord_10 (by decide) ?_
    refine pm_istore dTk_isWord_11 (by decide) rfl ?_
    refine pm_wk [1, 2, 3, 4, 0] rfl ?_
    exact Tk_isWord_13_n13 g d ex R hR _ _  n13 _ _ _ _ _ (hp.2.1 h5) (ho.trans (by first | (simp only [fTk_isWord_13, if_pos h5]; done) | (simp only [fTk_isWord_13, if_pos h5]; rfl) | rfl)) (hz.trans (by first | (simp only [fTk_isWord_13, if_pos h5]; done) | (simp only [fTk_isWord_13, if_pos h5]; rfl) | rfl))
  ·
    refine pm_iconst (v := 0) dTk_isWord_8 (by decide) ?_
    exact pm_zret dTk_isWord_9 rfl (by first | rfl | decide) (ho.trans (by first | (simp only [fTk_isWord_13, if_neg h5]; done) | (simp only [fTk_isWord_13, if_neg h5]; rfl) | rfl)) (hz.trans (by first | (simp only [fTk_isWord_13, if_neg h5]; done) | (simp only [fTk_isWord_13, if_neg h5]; rfl) | rfl))
set_option maxHeartbeats 4000000 in
set_option maxRecDepth 100000 in
theorem Tk_isWord_13_ok (g : pmG) (d : Nat) (ex : List (Nat × Nat)) (R : Nat → Nat → Value) (hR : pk_R R) (n13 : Nat) (x0 : Int32) (x1 : Int32) (I : Nat → Nat → Int32) (J : Nat → Nat → Int64) (hp : pTk_isWord_13 n13 x0 x1 I J) : pmC g kTk_isWord (d + 4) 0 0 [.ref 17, .retAddr 13, .int x0, .int x1] (pk_K ++ ex, R, I, J) (.returned (some (.int (fTk_isWord_13 n13 x0 x1 I J)))) (pk_K ++ ex, R, I, J) :=
  pmC.of (by decide) (Nat.le_of_ble_eq_true rfl) (Tk_isWord_13_n0 g d ex R hR _ _ n13 x0 x1 I J hp rfl rfl)
def fTk_isWord_14_13  : Nat → Int32 → Int32 → Int32 → (Nat → Nat → Int32) → (Nat → Nat → Int64) → Int32
  | 0, _, _, _, _, _ => 0
  | n + 1, y2, y3, y4, I, J =>
  if y3 ≤ y4 then (1 : Int32)
  else if ((fTp_byteAt (y2 + y4) I J)) = ((fSg_charAt_14 y4 I J)) then fTk_isWord_14_13 n y2 y3 (y4 + Int32.ofInt 1) I J
    else (0 : Int32)
def pTk_isWord_14_13  : Nat → Int32 → Int32 → Int32 → (Nat → Nat → Int32) → (Nat → Nat → Int64) → Prop
  | 0, _, _, _, _, _ => False
  | n + 1, y2, y3, y4, I, J =>
  (y3 ≤ y4 → True) ∧
  (¬ (y3 ≤ y4) → (pTp_byteAt (y2 + y4) I J) ∧ ((pSg_charAt_14 y4 I J) ∧ ((((fTp_byteAt (y2 + y4) I J)) = ((fSg_charAt_14 y4 I J)) → pTk_isWord_14_13 n y2 y3 (y4 + Int32.ofInt 1) I J) ∧
    (¬ (((fTp_byteAt (y2 + y4) I J)) = ((fSg_charAt_14 y4 I J))) → True))))
def fTk_isWord_14 (n13 : Nat) (y2 : Int32) (y3 : Int32) (I : Nat → Nat → Int32) (J : Nat → Nat → Int64) : Int32 :=
  if y3 = ((fSg_length_14 I J)) then fTk_isWord_14_13 n13 y2 y3 (0 : Int32) I J
  else (0 : Int32)
def pTk_isWord_14 (n13 : Nat) (y2 : Int32) (y3 : Int32) (I : Nat → Nat → Int32) (J : Nat → Nat → Int64) : Prop :=
  (pSg_length_14 I J) ∧ ((y3 = ((fSg_length_14 I J)) → pTk_isWord_14_13 n13 y2 y3 (0 : Int32) I J) ∧
  (¬ (y3 = ((fSg_length_14 I J))) → True))
set_option maxHeartbeats 4000000 in
set_option maxRecDepth 100000 in
theorem Tk_isWord_14_n13 (g : pmG) (d : Nat) (ex : List (Nat × Nat)) (R : Nat → Nat → Value) (hR : pk_R R) (o : Outcome) (Z : pmM)  : ∀ (n : Nat) (y2 : Int32) (y3 : Int32) (y4 : Int32) (I : Nat → Nat → Int32) (J : Nat → Nat → Int64), pTk_isWord_14_13 n y2 y3 y4 I J → o = .returned (some (.int (fTk_isWord_14_13 n y2 y3 y4 I J))) → Z = (pk_K ++ ex, R, I, J) → pmE g kTk_isWord (d + 4) 0 0 13 [(0, .ref 17), (1, .retAddr 14), (2, .int y2), (3, .int y3), (4, .int y4)] [] (pk_K ++ ex) R I J o Z := by
  intro n
  induction n with
  | zero => intro y2 y3 y4 I J hp; exact False.elim hp
  | succ n ih =>
  intro y2 y3 y4 I J hp ho hz
  simp only [pTk_isWord_14_13] at hp
  refine pm_iload dTk_isWord_13 rfl ?_
  refine pm_iload_n dTk_isWord_15 rfl ?_
  refine pm_icmp_ge 47 dTk_isWord_16 (by decide) (fun h16 => ?_) (fun h16 => ?_)
  ·
    refine pm_iconst (v := 1) dTk_isWord_47 (by decide) ?_
    exact pm_zret dTk_isWord_48 rfl (by first | rfl | decide) (ho.trans (by first | (simp only [fTk_isWord_14_13, if_pos h16]; done) | (simp only [fTk_isWord_14_13, if_pos h16]; rfl) | rfl)) (hz.trans (by first | (simp only [fTk_isWord_14_13, if_pos h16]; done) | (simp only [fTk_isWord_14_13, if_pos h16]; rfl) | rfl))
  ·
    refine pm_aload_n dTk_isWord_19 rfl ?_
    refine pm_getr dTk_isWord_20 fTk_24 rfl (rr_17_0 hR) ?_
    refine pm_iload_n dTk_isWord_23 rfl ?_
    refine pm_iload dTk_isWord_24 rfl ?_
    refine pm_iadd dTk_isWord_26 ?_
    refine pm_callV dTk_isWord_27 lTk_45 vTp_byteAt ⟨_, _, rfl⟩ (Tp_byteAt_ok _ _ _ _ hR _ _ _ (hp.2 h16).1) rfl rfl rfl (Nat.le_of_ble_eq_true rfl) (Nat.le_refl _) (Nat.le_refl _) ?_
    refine pm_xload_n dTk_isWord_30 rfl ?_
    refine pm_iload dTk_isWord_31 rfl ?_
    refine pm_callX (x := 4) dTk_isWord_33 lTk_81 vSg_charAt rfl (by decide) (Sg_charAt_14_ok _ _ _ _ hR _ _ _ (hp.2 h16).2.1) rfl rfl (Nat.le_of_ble_eq_true rfl) (Nat.le_refl _) (Nat.le_refl _) ?_
    refine pm_icmp_eq 41 dTk_isWord_36 (by decide) (fun h36 => ?_) (fun h36 => ?_)
    ·
      refine pm_iinc dTk_isWord_41 rfl (by decide) rfl ?_
      refine pm_goto 13 dTk_isWord_44 (by decide) ?_
      refine pm_wk [1, 2, 3, 4, 0] rfl ?_
      exact ih _ _ _ _ _ ((hp.2 h16).2.2.1 h36) (ho.trans (by first | (simp only [fTk_isWord_14_13, if_neg h16, if_pos h36]; done) | (simp only [fTk_isWord_14_13, if_neg h16, if_pos h36]; rfl) | rfl)) (hz.trans (by first | (simp only [fTk_isWord_14_13, if_neg h16, if_pos h36]; done) | (simp only [fTk_isWord_14_13, if_neg h16, if_pos h36]; rfl) | rfl))
    ·
      refine pm_iconst (v := 0) dTk_isWord_39 (by decide) ?_
      exact pm_zret dTk_isWord_40 rfl (by first | rfl | decide) (ho.trans (by first | (simp only [fTk_isWord_14_13, if_neg h16, if_neg h36]; done) | (simp only [fTk_isWord_14_13, if_neg h16, if_neg h36]; rfl) | rfl)) (hz.trans (by first | (simp only [fTk_isWord_14_13, if_neg h16, if_neg h36]; done) | (simp only [fTk_isWord_14_13, if_neg h16, if_neg h36]; rfl) | rfl))
set_option maxHeartbeats 4000000 in
set_option maxRecDepth 100000 in
theorem Tk_isWord_14_n0 (g : pmG) (d : Nat) (ex : List (Nat × Nat)) (R : Nat → Nat → Value) (hR : pk_R R) (o : Outcome) (Z : pmM) (n13 : Nat) (y2 : Int32) (y3 : Int32) (I : Nat → Nat → Int32) (J : Nat → Nat → Int64) (hp : pTk_isWord_14 n13 y2 y3 I J) (ho : o = .returned (some (.int (fTk_isWord_14 n13 y2 y3 I J)))) (hz : Z = (pk_K ++ ex, R, I, J)) : pmE g kTk_isWord (d + 4) 0 0 0 [(0, .ref 17), (1, .retAddr 14), (2, .int y2), (3, .int y3)] [] (pk_K ++ ex) R I J o Z := by
  unfold pTk_isWord_14 at hp
  refine pm_iload_n dTk_isWord_0 rfl ?_
  refine pm_xload_n dTk_isWord_1 rfl ?_
  refine pm_callX (x := 4) dTk_isWord_2 lTk_77 vSg_length rfl (by decide) (Sg_length_14_ok _ _ _ _ hR  _ _ hp.1) rfl rfl (Nat.le_of_ble_eq_true rfl) (Nat.le_refl _) (Nat.le_refl _) ?_
  refine pm_icmp_eq 10 dTk_isWord_5 (by decide) (fun h5 => ?_) (fun h5 => ?_)
  ·
    refine pm_iconst (v := 0) dTk_isWord_10 (by decide) ?_
    refine pm_istore dTk_isWord_11 (by decide) rfl ?_
    refine pm_wk [1, 2, 3, 4, 0] rfl ?_
    exact Tk_isWord_14_n13 g d ex R hR _ _  n13 _ _ _ _ _ (hp.2.1 h5) (ho.trans (by first | (simp only [fTk_isWord_14, if_pos h5]; done) | (simp only [fTk_isWord_14, if_pos h5]; rfl) | rfl)) (hz.trans (by first | (simp only [fTk_isWord_14, if_pos h5]; done) | (simp only [fTk_isWord_14, if_pos h5]; rfl) | rfl))
  ·
    refine pm_iconst (v := 0) dTk_isWord_8 (by decide) ?_
    exact pm_zret dTk_isWord_9 rfl (by first | rfl | decide) (ho.trans (by first | (simp only [fTk_isWord_14, if_neg h5]; done) | (simp only [fTk_isWord_14, if_neg h5]; rfl) | rfl)) (hz.trans (by first | (simp only [fTk_isWord_14, if_neg h5]; done) | (simp only [fTk_isWord_14, if_neg h5]; rfl) | rfl))
set_option maxHeartbeats 4000000 in
set_option maxRecDepth 100000 in
theorem Tk_isWord_14_ok (g : pmG) (d : Nat) (ex : List (Nat × Nat)) (R : Nat → Nat → Value) (hR : pk_R R) (n13 : Nat) (x0 : Int32) (x1 : Int32) (I : Nat → Nat → Int32) (J : Nat → Nat → Int64) (hp : pTk_isWord_14 n13 x0 x1 I J) : pmC g kTk_isWord (d + 4) 0 0 [.ref 17, .retAddr 14, .int x0, .int x1] (pk_K ++ ex, R, I, J) (.returned (some (.int (fTk_isWord_14 n13 x0 x1 I J)))) (pk_K ++ ex, R, I, J) :=
  pmC.of (by decide) (Nat.le_of_ble_eq_true rfl) (Tk_isWord_14_n0 g d ex R hR _ _ n13 x0 x1 I J hp rfl rfl)
def fTk_kindOfLongWord  (y1 : Int32) (y2 : Int32) (I : Nat → Nat → Int32) (J : Nat → Nat → Int64) : Int32 :=
  if ((fTk_isWord_10 32 y1 y2 I J)) = 0 then if ((fTk_isWord_11 32 y1 y2 I J)) = 0 then if ((fTk_isWord_12 32 y1 y2 I J)) = 0 then if ((fTk_isWord_13 32 y1 y2 I J)) = 0 then if ((fTk_isWord_14 32 y1 y2 I J)) = 0 then (43 : Int32)
          else (33 : Int32)
        else (32 : Int32)
      else (31 : Int32)
    else (30 : Int32)
  else (29 : Int32)
def pTk_kindOfLongWord  (y1 : Int32) (y2 : Int32) (I : Nat → Nat → Int32) (J : Nat → Nat → Int64) : Prop :=
  (pTk_isWord_10 32 y1 y2 I J) ∧ ((((fTk_isWord_10 32 y1 y2 I J)) = 0 → (pTk_isWord_11 32 y1 y2 I J) ∧ ((((fTk_isWord_11 32 y1 y2 I J)) = 0 → (pTk_isWord_12 32 y1 y2 I J) ∧ ((((fTk_isWord_12 32 y1 y2 I J)) = 0 → (pTk_isWord_13 32 y1 y2 I J) ∧ ((((fTk_isWord_13 32 y1 y2 I J)) = 0 → (pTk_isWord_14 32 y1 y2 I J) ∧ ((((fTk_isWord_14 32 y1 y2 I J)) = 0 → True) ∧
          (¬ (((fTk_isWord_14 32 y1 y2 I J)) = 0) → True))) ∧
        (¬ (((fTk_isWord_13 32 y1 y2 I J)) = 0) → True))) ∧
      (¬ (((fTk_isWord_12 32 y1 y2 I J)) = 0) → True))) ∧
    (¬ (((fTk_isWord_11 32 y1 y2 I J)) = 0) → True))) ∧
  (¬ (((fTk_isWord_10 32 y1 y2 I J)) = 0) → True))
set_option maxHeartbeats 4000000 in
set_option maxRecDepth 100000 in
theorem Tk_kindOfLongWord_n0 (g : pmG) (d : Nat) (ex : List (Nat × Nat)) (R : Nat → Nat → Value) (hR : pk_R R) (o : Outcome) (Z : pmM)  (y1 : Int32) (y2 : Int32) (I : Nat → Nat → Int32) (J : Nat → Nat → Int64) (hp : pTk_kindOfLongWord y1 y2 I J) (ho : o = .returned (some (.int (fTk_kindOfLongWord y1 y2 I J)))) (hz : Z = (pk_K ++ ex, R, I, J)) : pmE g kTk_kindOfLongWord (d + 5) 0 0 0 [(0, .ref 17), (1, .int y1), (2, .int y2)] [] (pk_K ++ ex) R I J o Z := by
  unfold pTk_kindOfLongWord at hp
  refine pm_aload_n dTk_kindOfLongWord_0 rfl ?_
  refine pm_ldcS dTk_kindOfLongWord_1 zTk_90 ?_
  refine pm_iload_n dTk_kindOfLongWord_3 rfl ?_
  refine pm_iload_n dTk_kindOfLongWord_4 rfl ?_
  refine pm_callV dTk_kindOfLongWord_5 lTk_92 vTk_isWord ⟨_, _, rfl⟩ (Tk_isWord_10_ok _ _ _ _ hR _ _ _ _ _ hp.1) rfl rfl rfl (Nat.le_of_ble_eq_true rfl) (Nat.le_refl _) (Nat.le_refl _) ?_
  refine pm_if_eq 14 dTk_kindOfLongWord_8 (by decide) (fun h8 => ?_) (fun h8 => ?_)
  ·
    refine pm_aload_n dTk_kindOfLongWord_14 rfl ?_
    refine pm_ldcS dTk_kindOfLongWord_15 zTk_96 ?_
    refine pm_iload_n dTk_kindOfLongWord_17 rfl ?_
    refine pm_iload_n dTk_kindOfLongWord_18 rfl ?_
    refine pm_callV dTk_kindOfLongWord_19 lTk_92 vTk_isWord ⟨_, _, rfl⟩ (Tk_isWord_11_ok _ _ _ _ hR _ _ _ _ _ (hp.2.1 h8).1) rfl rfl rfl (Nat.le_of_ble_eq_true rfl) (Nat.le_refl _) (Nat.le_refl _) ?_
    refine pm_if_eq 28 dTk_kindOfLongWord_22 (by decide) (fun h22 => ?_) (fun h22 => ?_)
    ·
      refine pm_aload_n dTk_kindOfLongWord_28 rfl ?_
      refine pm_ldcS dTk_kindOfLongWord_29 zTk_98 ?_
      refine pm_iload_n dTk_kindOfLongWord_31 rfl ?_
      refine pm_iload_n dTk_kindOfLongWord_32 rfl ?_
      refine pm_callV dTk_kindOfLongWord_33 lTk_92 vTk_isWord ⟨_, _, rfl⟩ (Tk_isWord_12_ok _ _ _ _ hR _ _ _ _ _ ((hp.2.1 h8).2.1 h22).1) rfl rfl rfl (Nat.le_of_ble_eq_true rfl) (Nat.le_refl _) (Nat.le_refl _) ?_
      refine pm_if_eq 42 dTk_kindOfLongWord_36 (by decide) (fun h36 => ?_) (fun h36 => ?_)
      ·
        refine pm_aload_n dTk_kindOfLongWord_42 rfl ?_
        refine pm_ldcS dTk_kindOfLongWord_43 zTk_100 ?_
        refine pm_iload_n dTk_kindOfLongWord_45 rfl ?_
        refine pm_iload_n dTk_kindOfLongWord_46 rfl ?_
        refine pm_callV dTk_kindOfLongWord_47 lTk_92 vTk_isWord ⟨_, _, rfl⟩ (Tk_isWord_13_ok _ _ _ _ hR _ _ _ _ _ (((hp.2.1 h8).2.1 h22).2.1 h36).1) rfl rfl rfl (Nat.le_of_ble_eq_true rfl) (Nat.le_refl _) (Nat.le_refl _) ?_
        refine pm_if_eq 56 dTk_kindOfLongWord_50 (by decide) (fun h50 => ?_) (fun h50 => ?_)
        ·
          refine pm_aload_n dTk_kindOfLongWord_56 rfl ?_
          refine pm_ldcS dTk_kindOfLongWord_57 zTk_102 ?_
          refine pm_iload_n dTk_kindOfLongWord_59 rfl ?_
          refine pm_iload_n dTk_kindOfLongWord_60 rfl ?_
          refine pm_callV dTk_kindOfLongWord_61 lTk_92 vTk_isWord ⟨_, _, rfl⟩ (Tk_isWord_14_ok _ _ _ _ hR _ _ _ _ _ ((((hp.2.1 h8).2.1 h22).2.1 h36).2.1 h50).1) rfl rfl rfl (Nat.le_of_ble_eq_true rfl) (Nat.le_refl _) (Nat.le_refl _) ?_
          refine pm_if_eq 72 dTk_kindOfLongWord_64 (by decide) (fun h64 => ?_) (fun h64 => ?_)
          ·
            refine pm_bipush (v := 43) dTk_kindOfLongWord_72 (by decide) ?_
            exact pm_iret dTk_kindOfLongWord_74 rfl (ho.trans (by first | (simp only [fTk_kindOfLongWord, if_pos h8, if_pos h22, if_pos h36, if_pos h50, if_pos h64]; done) | (simp only [fTk_kindOfLongWord, if_pos h8, if_pos h22, if_pos h36, if_pos h50, if_pos h64]; rfl) | rfl)) (hz.trans (by first | (simp only [fTk_kindOfLongWord, if_pos h8, if_pos h22, if_pos h36, if_pos h50, if_pos h64]; done) | (simp only [fTk_kindOfLongWord, if_pos h8, if_pos h22, if_pos h36, if_pos h50, if_pos h64]; rfl) | rfl))
          ·
            refine pm_bipush (v := 33) dTk_kindOfLongWord_67 (by decide) ?_
            refine pm_goto 74 dTk_kindOfLongWord_69 (by decide) ?_
            exact pm_iret dTk_kindOfLongWord_74 rfl (ho.trans (by first | (simp only [fTk_kindOfLongWord, if_pos h8, if_pos h22, if_pos h36, if_pos h50, if_neg h64]; done) | (simp only [fTk_kindOfLongWord, if_pos h8, if_pos h22, if_pos h36, if_pos h50, if_neg h64]; rfl) | rfl)) (hz.trans (by first | (simp only [fTk_kindOfLongWord, if_pos h8, if_pos h22, if_pos h36, if_pos h50, if_neg h64]; done) | (simp only [fTk_kindOfLongWord, if_pos h8, if_pos h22, if_pos h36, if_pos h50, if_neg h64]; rfl) | rfl))
        ·
          refine pm_bipush (v := 32) dTk_kindOfLongWord_53 (by decide) ?_
          exact pm_iret dTk_kindOfLongWord_55 rfl (ho.trans (by first | (simp only [fTk_kindOfLongWord, if_pos h8, if_pos h22, if_pos h36, if_neg h50]; done) | (simp only [fTk_kindOfLongWord, if_pos h8, if_pos h22, if_pos h36, if_neg h50]; rfl) | rfl)) (hz.trans (by first | (simp only [fTk_kindOfLongWord, if_pos h8, if_pos h22, if_pos h36, if_neg h50]; done) | (simp only [fTk_kindOfLongWord, if_pos h8, if_pos h22, if_pos h36, if_neg h50]; rfl) | rfl))
      ·
        refine pm_bipush (v := 31) dTk_kindOfLongWord_39 (by decide) ?_
        exact pm_iret dTk_kindOfLongWord_41 rfl (ho.trans (by first | (simp only [fTk_kindOfLongWord, if_pos h8, if_pos h22, if_neg h36]; done) | (simp only [fTk_kindOfLongWord, if_pos h8, if_pos h22, if_neg h36]; rfl) | rfl)) (hz.trans (by first | (simp only [fTk_kindOfLongWord, if_pos h8, if_pos h22, if_neg h36]; done) | (simp only [fTk_kindOfLongWord, if_pos h8, if_pos h22, if_neg h36]; rfl) | rfl))
    ·
      refine pm_bipush (v := 30) dTk_kindOfLongWord_25 (by decide) ?_
      exact pm_iret dTk_kindOfLongWord_27 rfl (ho.trans (by first | (simp only [fTk_kindOfLongWord, if_pos h8, if_neg h22]; done) | (simp only [fTk_kindOfLongWord, if_pos h8, if_neg h22]; rfl) | rfl)) (hz.trans (by first | (simp only [fTk_kindOfLongWord, if_pos h8, if_neg h22]; done) | (simp only [fTk_kindOfLongWord, if_pos h8, if_neg h22]; rfl) | rfl))
  ·
    refine pm_bipush (v := 29) dTk_kindOfLongWord_11 (by decide) ?_
    exact pm_iret dTk_kindOfLongWord_13 rfl (ho.trans (by first | (simp only [fTk_kindOfLongWord, if_neg h8]; done) | (simp only [fTk_kindOfLongWord, if_neg h8]; rfl) | rfl)) (hz.trans (by first | (simp only [fTk_kindOfLongWord, if_neg h8]; done) | (simp only [fTk_kindOfLongWord, if_neg h8]; rfl) | rfl))
set_option maxHeartbeats 4000000 in
set_option maxRecDepth 100000 in
theorem Tk_kindOfLongWord_ok (g : pmG) (d : Nat) (ex : List (Nat × Nat)) (R : Nat → Nat → Value) (hR : pk_R R)  (x0 : Int32) (x1 : Int32) (I : Nat → Nat → Int32) (J : Nat → Nat → Int64) (hp : pTk_kindOfLongWord x0 x1 I J) : pmC g kTk_kindOfLongWord (d + 5) 0 0 [.ref 17, .int x0, .int x1] (pk_K ++ ex, R, I, J) (.returned (some (.int (fTk_kindOfLongWord x0 x1 I J)))) (pk_K ++ ex, R, I, J) :=
  pmC.of (by decide) (Nat.le_of_ble_eq_true rfl) (Tk_kindOfLongWord_n0 g d ex R hR _ _  x0 x1 I J hp rfl rfl)
def fTk_scanWord_49  (y1 : Int32) (I : Nat → Nat → Int32) (J : Nat → Nat → Int64) : Int32 × (Nat → Nat → Int32) :=
  if ((I 17 6) - y1) ≤ (31 : Int32) then if ((I 17 6) - y1) ≤ (2 : Int32) then ((fTk_kindOfShortWord y1 ((I 17 6) - y1) I J), I)
    else ((fTk_kindOfLongWord y1 ((I 17 6) - y1) I J), I)
  else ((46 : Int32), I)
def pTk_scanWord_49  (y1 : Int32) (I : Nat → Nat → Int32) (J : Nat → Nat → Int64) : Prop :=
  (((I 17 6) - y1) ≤ (31 : Int32) → (((I 17 6) - y1) ≤ (2 : Int32) → (pTk_kindOfShortWord y1 ((I 17 6) - y1) I J) ∧ True) ∧
    (¬ (((I 17 6) - y1) ≤ (2 : Int32)) → (pTk_kindOfLongWord y1 ((I 17 6) - y1) I J) ∧ True)) ∧
  (¬ (((I 17 6) - y1) ≤ (31 : Int32)) → True)
def fTk_scanWord_5  : Nat → Int32 → (Nat → Nat → Int32) → (Nat → Nat → Int64) → Int32 × (Nat → Nat → Int32)
  | 0, _, I, _ => (0, I)
  | n + 1, y1, I, J =>
  if (I 1 1) ≤ (I 17 6) then fTk_scanWord_49 y1 I J
  else if ((fTk_isOfWord ((fTp_byteAt (I 17 6) I J)))) = 0 then fTk_scanWord_49 y1 I J
    else fTk_scanWord_5 n y1 (pm_u I 17 6 ((I 17 6) + (1 : Int32))) J
def pTk_scanWord_5  : Nat → Int32 → (Nat → Nat → Int32) → (Nat → Nat → Int64) → Prop
  | 0, _, _, _ => False
  | n + 1, y1, I, J =>
  ((I 1 1) ≤ (I 17 6) → pTk_scanWord_49 y1 I J) ∧
  (¬ ((I 1 1) ≤ (I 17 6)) → (pTp_byteAt (I 17 6) I J) ∧ ((pTk_isOfWord ((fTp_byteAt (I 17 6) I J))) ∧ ((((fTk_isOfWord ((fTp_byteAt (I 17 6) I J)))) = 0 → pTk_scanWord_49 y1 I J) ∧
    (¬ (((fTk_isOfWord ((fTp_byteAt (I 17 6) I J)))) = 0) → pTk_scanWord_5 n y1 (pm_u I 17 6 ((I 17 6) + (1 : Int32))) J))))
def fTk_scanWord (n5 : Nat) (I : Nat → Nat → Int32) (J : Nat → Nat → Int64) : Int32 × (Nat → Nat → Int32) :=
  fTk_scanWord_5 n5 (I 17 6) I J
def pTk_scanWord (n5 : Nat) (I : Nat → Nat → Int32) (J : Nat → Nat → Int64) : Prop :=
  pTk_scanWord_5 n5 (I 17 6) I J
set_option maxHeartbeats 4000000 in
set_option maxRecDepth 100000 in
theorem Tk_scanWord_n49 (g : pmG) (d : Nat) (ex : List (Nat × Nat)) (R : Nat → Nat → Value) (hR : pk_R R) (o : Outcome) (Z : pmM)  (y1 : Int32) (I : Nat → Nat → Int32) (J : Nat → Nat → Int64) (hp : pTk_scanWord_49 y1 I J) (ho : o = .returned (some (.int (fTk_scanWord_49 y1 I J).1))) (hz : Z = (pk_K ++ ex, R, (fTk_scanWord_49 y1 I J).2, J)) : pmE g kTk_scanWord (d + 6) 0 0 49 [(0, .ref 17), (1, .int y1)] [] (pk_K ++ ex) R I J o Z := by
  unfold pTk_scanWord_49 at hp
  refine pm_aload_n dTk_scanWord_49 rfl ?_
  refine pm_geti dTk_scanWord_50 fTk_28 rfl ?_
  refine pm_iload_n dTk_scanWord_53 rfl ?_
  refine pm_isub dTk_scanWord_54 ?_
  refine pm_istore_n dTk_scanWord_55 (by decide) rfl ?_
  refine pm_iload_n dTk_scanWord_56 rfl ?_
  refine pm_bipush (v := 31) dTk_scanWord_57 (by decide) ?_
  refine pm_icmp_le 65 dTk_scanWord_59 (by decide) (fun h59 => ?_) (fun h59 => ?_)
  ·
    refine pm_iload_n dTk_scanWord_65 rfl ?_
    refine pm_iconst (v := 2) dTk_scanWord_66 (by decide) ?_
    refine pm_icmp_le 79 dTk_scanWord_67 (by decide) (fun h67 => ?_) (fun h67 => ?_)
    ·
      refine pm_aload_n dTk_scanWord_79 rfl ?_
      refine pm_iload_n dTk_scanWord_80 rfl ?_
      refine pm_iload_n dTk_scanWord_81 rfl ?_
      refine pm_callV dTk_scanWord_82 lTk_72 vTk_kindOfShortWord ⟨_, _, rfl⟩ (Tk_kindOfShortWord_ok _ _ _ _ hR _ _ _ _ ((hp.1 h59).1 h67).1) rfl rfl rfl (Nat.le_of_ble_eq_true rfl) (Nat.le_refl _) (Nat.le_refl _) ?_
      exact pm_iret dTk_scanWord_85 rfl (ho.trans (by first | (simp only [fTk_scanWord_49, if_pos h59, if_pos h67]; done) | (simp only [fTk_scanWord_49, if_pos h59, if_pos h67]; rfl) | rfl)) (hz.trans (by first | (simp only [fTk_scanWord_49, if_pos h59, if_pos h67]; done) | (simp only [fTk_scanWord_49, if_pos h59, if_pos h67]; rfl) | rfl))
    ·
      refine pm_aload_n dTk_scanWord_70 rfl ?_
      refine pm_iload_n dTk_scanWord_71 rfl ?_
      refine pm_iload_n dTk_scanWord_72 rfl ?_
      refine pm_callV dTk_scanWord_73 lTk_68 vTk_kindOfLongWord ⟨_, _, rfl⟩ (Tk_kindOfLongWord_ok _ _ _ _ hR _ _ _ _ ((hp.1 h59).2 h67).1) rfl rfl rfl (Nat.le_of_ble_eq_true rfl) (Nat.le_refl _) (Nat.le_refl _) ?_
      refine pm_goto 85 dTk_scanWord_76 (by decide) ?_
      exact pm_iret dTk_scanWord_85 rfl (ho.trans (by first | (simp only [fTk_scanWord_49, if_pos h59, if_neg h67]; done) | (simp only [fTk_scanWord_49, if_pos h59, if_neg h67]; rfl) | rfl)) (hz.trans (by first | (simp only [fTk_scanWord_49, if_pos h59, if_neg h67]; done) | (simp only [fTk_scanWord_49, if_pos h59, if_neg h67]; rfl) | rfl))
  ·
    refine pm_bipush (v := 46) dTk_scanWord_62 (by decide) ?_
    exact pm_iret dTk_scanWord_64 rfl (ho.trans (by first | (simp only [fTk_scanWord_49, if_neg h59]; done) | (simp only [fTk_scanWord_49, if_neg h59]; rfl) | rfl)) (hz.trans (by first | (simp only [fTk_scanWord_49, if_neg h59]; done) | (simp only [fTk_scanWord_49, if_neg h59]; rfl) | rfl))
set_option maxHeartbeats 4000000 in
set_option maxRecDepth 100000 in
theorem Tk_scanWord_n5 (g : pmG) (d : Nat) (ex : List (Nat × Nat)) (R : Nat → Nat → Value) (hR : pk_R R) (o : Outcome) (Z : pmM)  : ∀ (n : Nat) (y1 : Int32) (I : Nat → Nat → Int32) (J : Nat → Nat → Int64), pTk_scanWord_5 n y1 I J → o = .returned (some (.int (fTk_scanWord_5 n y1 I J).1)) → Z = (pk_K ++ ex, R, (fTk_scanWord_5 n y1 I J).2, J) → pmE g kTk_scanWord (d + 6) 0 0 5 [(0, .ref 17), (1, .int y1)] [] (pk_K ++ ex) R I J o Z := by
  intro n
  induction n with
  | zero => intro y1 I J hp; exact False.elim hp
  | succ n ih =>
  intro y1 I J hp ho hz
  simp only [pTk_scanWord_5] at hp
  refine pm_aload_n dTk_scanWord_5 rfl ?_
  refine pm_geti dTk_scanWord_6 fTk_28 rfl ?_
  refine pm_aload_n dTk_scanWord_9 rfl ?_
  refine pm_getr dTk_scanWord_10 fTk_24 rfl (rr_17_0 hR) ?_
  refine pm_geti dTk_scanWord_13 fTk_42 rfl ?_
  refine pm_icmp_ge 49 dTk_scanWord_16 (by decide) (fun h16 => ?_) (fun h16 => ?_)
  ·
    refine pm_wk [0, 1] rfl ?_
    exact Tk_scanWord_n49 g d ex R hR _ _   _ _ _ (hp.1 h16) (ho.trans (by first | (simp only [fTk_scanWord_5, if_pos h16]; done) | (simp only [fTk_scanWord_5, if_pos h16]; rfl) | rfl)) (hz.trans (by first | (simp only [fTk_scanWord_5, if_pos h16]; done) | (simp only [fTk_scanWord_5, if_pos h16]; rfl) | rfl))
  ·
    refine pm_aload_n dTk_scanWord_19 rfl ?_
    refine pm_getr dTk_scanWord_20 fTk_24 rfl (rr_17_0 hR) ?_
    refine pm_aload_n dTk_scanWord_23 rfl ?_
    refine pm_geti dTk_scanWord_24 fTk_28 rfl ?_
    refine pm_callV dTk_scanWord_27 lTk_45 vTp_byteAt ⟨_, _, rfl⟩ (Tp_byteAt_ok _ _ _ _ hR _ _ _ (hp.2 h16).1) rfl rfl rfl (Nat.le_of_ble_eq_true rfl) (Nat.le_refl _) (Nat.le_refl _) ?_
    refine pm_callS dTk_scanWord_30 lTk_65 tTk_isOfWord (Tk_isOfWord_ok _ _ _ _ _ _ _ (hp.2 h16).2.1) rfl rfl (Nat.le_of_ble_eq_true rfl) (Nat.le_refl _) (Nat.le_refl _) ?_
    refine pm_if_eq 49 dTk_scanWord_33 (by decide) (fun h33 => ?_) (fun h33 => ?_)
    ·
      refine pm_wk [0, 1] rfl ?_
      exact Tk_scanWord_n49 g d ex R hR _ _   _ _ _ ((hp.2 h16).2.2.1 h33) (ho.trans (by first | (simp only [fTk_scanWord_5, if_neg h16, if_pos h33]; done) | (simp only [fTk_scanWord_5, if_neg h16, if_pos h33]; rfl) | rfl)) (hz.trans (by first | (simp only [fTk_scanWord_5, if_neg h16, if_pos h33]; done) | (simp only [fTk_scanWord_5, if_neg h16, if_pos h33]; rfl) | rfl))
    ·
      refine pm_aload_n dTk_scanWord_36 rfl ?_
      refine pm_dup dTk_scanWord_37 rfl ?_
      refine pm_geti dTk_scanWord_38 fTk_28 rfl ?_
      refine pm_iconst (v := 1) dTk_scanWord_41 (by decide) ?_
      refine pm_iadd dTk_scanWord_42 ?_
      refine pm_puti dTk_scanWord_43 fTk_28 sTk_28 (fun h => by cases h) rfl rfl rfl ?_
      refine pm_goto 5 dTk_scanWord_46 (by decide) ?_
      refine pm_wk [0, 1] rfl ?_
      exact ih _ _ _ ((hp.2 h16).2.2.2 h33) (ho.trans (by first | (simp only [fTk_scanWord_5, if_neg h16, if_neg h33]; done) | (simp only [fTk_scanWord_5, if_neg h16, if_neg h33]; rfl) | rfl)) (hz.trans (by first | (simp only [fTk_scanWord_5, if_neg h16, if_neg h33]; done) | (simp only [fTk_scanWord_5, if_neg h16, if_neg h33]; rfl) | rfl))
set_option maxHeartbeats 4000000 in
set_option maxRecDepth 100000 in
theorem Tk_scanWord_n0 (g : pmG) (d : Nat) (ex : List (Nat × Nat)) (R : Nat → Nat → Value) (hR : pk_R R) (o : Outcome) (Z : pmM) (n5 : Nat) (I : Nat → Nat → Int32) (J : Nat → Nat → Int64) (hp : pTk_scanWord n5 I J) (ho : o = .returned (some (.int (fTk_scanWord n5 I J).1))) (hz : Z = (pk_K ++ ex, R, (fTk_scanWord n5 I J).2, J)) : pmE g kTk_scanWord (d + 6) 0 0 0 [(0, .ref 17)] [] (pk_K ++ ex) R I J o Z := by
  unfold pTk_scanWord at hp
  refine pm_aload_n dTk_scanWord_0 rfl ?_
  refine pm_geti dTk_scanWord_1 fTk_28 rfl ?_
  refine pm_istore_n dTk_scanWord_4 (by decide) rfl ?_
  refine pm_wk [1, 0] rfl ?_
  exact Tk_scanWord_n5 g d ex R hR _ _  n5 _ _ _ hp (ho.trans (by first | rfl | (simp only [fTk_scanWord]; done) | (simp only [fTk_scanWord]; rfl))) (hz.trans (by first | rfl | (simp only [fTk_scanWord]; done) | (simp only [fTk_scanWord]; rfl)))
set_option maxHeartbeats 4000000 in
set_option maxRecDepth 100000 in
theorem Tk_scanWord_ok (g : pmG) (d : Nat) (ex : List (Nat × Nat)) (R : Nat → Nat → Value) (hR : pk_R R) (n5 : Nat)  (I : Nat → Nat → Int32) (J : Nat → Nat → Int64) (hp : pTk_scanWord n5 I J) : pmC g kTk_scanWord (d + 6) 0 0 [.ref 17] (pk_K ++ ex, R, I, J) (.returned (some (.int (fTk_scanWord n5 I J).1))) (pk_K ++ ex, R, (fTk_scanWord n5 I J).2, J) :=
  pmC.of (by decide) (Nat.le_of_ble_eq_true rfl) (Tk_scanWord_n0 g d ex R hR _ _ n5  I J hp rfl rfl)
def fTk_scanSign_69 (r16 : Int32 → Int32 → Int32 → (Nat → Nat → Int32) → (Nat → Nat → Int64) → Int32 × (Nat → Nat → Int32)) (y1 : Int32) (y2 : Int32) (y3 : Int32) (I : Nat → Nat → Int32) (J : Nat → Nat → Int64) : Int32 × (Nat → Nat → Int32) :=
  r16 y1 y2 (y3 + Int32.ofInt 2) I J
def pTk_scanSign_69 (q16 : Int32 → Int32 → Int32 → (Nat → Nat → Int32) → (Nat → Nat → Int64) → Prop) (y1 : Int32) (y2 : Int32) (y3 : Int32) (I : Nat → Nat → Int32) (J : Nat → Nat → Int64) : Prop :=
  q16 y1 y2 (y3 + Int32.ofInt 2) I J
def fTk_scanSign_16  : Nat → Int32 → Int32 → Int32 → (Nat → Nat → Int32) → (Nat → Nat → Int64) → Int32 × (Nat → Nat → Int32)
  | 0, _, _, _, I, _ => (0, I)
  | n + 1, y1, y2, y3, I, J =>
  if ((fSg_length_15 I J)) ≤ (y3 + (1 : Int32)) then if 0 ≤ ((fSg_indexOf_16 ((y1.toUInt32 % 65536).toInt32) (pm_u I 17 6 ((I 17 6) + (1 : Int32))) J)) then ((fSg_indexOf_16 ((y1.toUInt32 % 65536).toInt32) (pm_u I 17 6 ((I 17 6) + (1 : Int32))) J), pm_u I 17 6 ((I 17 6) + (1 : Int32)))
    else ((46 : Int32), pm_u I 17 6 ((I 17 6) + (1 : Int32)))
  else if ((fSg_charAt_15 y3 I J)) = y1 then if ((fSg_charAt_15 (y3 + (1 : Int32)) I J)) = y2 then (((fSg_length_16 (pm_u I 17 6 ((I 17 6) + (2 : Int32))) J)) + (y3 / (2 : Int32)), pm_u I 17 6 ((I 17 6) + (2 : Int32)))
      else fTk_scanSign_69 (fTk_scanSign_16 n) y1 y2 y3 I J
    else fTk_scanSign_69 (fTk_scanSign_16 n) y1 y2 y3 I J
def pTk_scanSign_16  : Nat → Int32 → Int32 → Int32 → (Nat → Nat → Int32) → (Nat → Nat → Int64) → Prop
  | 0, _, _, _, _, _ => False
  | n + 1, y1, y2, y3, I, J =>
  (pSg_length_15 I J) ∧ ((((fSg_length_15 I J)) ≤ (y3 + (1 : Int32)) → (pSg_indexOf_16 ((y1.toUInt32 % 65536).toInt32) (pm_u I 17 6 ((I 17 6) + (1 : Int32))) J) ∧ ((0 ≤ ((fSg_indexOf_16 ((y1.toUInt32 % 65536).toInt32) (pm_u I 17 6 ((I 17 6) + (1 : Int32))) J)) → True) ∧
    (¬ (0 ≤ ((fSg_indexOf_16 ((y1.toUInt32 % 65536).toInt32) (pm_u I 17 6 ((I 17 6) + (1 : Int32))) J))) → True))) ∧
  (¬ (((fSg_length_15 I J)) ≤ (y3 + (1 : Int32))) → (pSg_charAt_15 y3 I J) ∧ ((((fSg_charAt_15 y3 I J)) = y1 → (pSg_charAt_15 (y3 + (1 : Int32)) I J) ∧ ((((fSg_charAt_15 (y3 + (1 : Int32)) I J)) = y2 → (pSg_length_16 (pm_u I 17 6 ((I 17 6) + (2 : Int32))) J) ∧ ((¬ (2 : Int32) = 0) ∧ True)) ∧
      (¬ (((fSg_charAt_15 (y3 + (1 : Int32)) I J)) = y2) → pTk_scanSign_69 (pTk_scanSign_16 n) y1 y2 y3 I J))) ∧
    (¬ (((fSg_charAt_15 y3 I J)) = y1) → pTk_scanSign_69 (pTk_scanSign_16 n) y1 y2 y3 I J))))
def fTk_scanSign (n16 : Nat) (y1 : Int32) (I : Nat → Nat → Int32) (J : Nat → Nat → Int64) : Int32 × (Nat → Nat → Int32) :=
  fTk_scanSign_16 n16 y1 ((fTp_byteAt ((I 17 6) + (1 : Int32)) I J)) (0 : Int32) I J
def pTk_scanSign (n16 : Nat) (y1 : Int32) (I : Nat → Nat → Int32) (J : Nat → Nat → Int64) : Prop :=
  (pTp_byteAt ((I 17 6) + (1 : Int32)) I J) ∧ (pTk_scanSign_16 n16 y1 ((fTp_byteAt ((I 17 6) + (1 : Int32)) I J)) (0 : Int32) I J)
set_option maxHeartbeats 4000000 in
set_option maxRecDepth 100000 in
theorem Tk_scanSign_n69 (g : pmG) (d : Nat) (ex : List (Nat × Nat)) (R : Nat → Nat → Value) (hR : pk_R R) (o : Outcome) (Z : pmM) (r16 : Int32 → Int32 → Int32 → (Nat → Nat → Int32) → (Nat → Nat → Int64) → Int32 × (Nat → Nat → Int32)) (q16 : Int32 → Int32 → Int32 → (Nat → Nat → Int32) → (Nat → Nat → Int64) → Prop) (ih16 : ∀ (y1 : Int32) (y2 : Int32) (y3 : Int32) (I : Nat → Nat → Int32) (J : Nat → Nat → Int64), q16 y1 y2 y3 I J → o = .returned (some (.int (r16 y1 y2 y3 I J).1)) → Z = (pk_K ++ ex, R, (r16 y1 y2 y3 I J).2, J) → pmE g kTk_scanSign (d + 4) 0 0 16 [(0, .ref 17), (1, .int y1), (2, .int y2), (3, .int y3)] [] (pk_K ++ ex) R I J o Z)  (y1 : Int32) (y2 : Int32) (y3 : Int32) (I : Nat → Nat → Int32) (J : Nat → Nat → Int64) (hp : pTk_scanSign_69 q16 y1 y2 y3 I J) (ho : o = .returned (some (.int (fTk_scanSign_69 r16 y1 y2 y3 I J).1))) (hz : Z = (pk_K ++ ex, R, (fTk_scanSign_69 r16 y1 y2 y3 I J).2, J)) : pmE g kTk_scanSign (d + 4) 0 0 69 [(0, .ref 17), (1, .int y1), (2, .int y2), (3, .int y3)] [] (pk_K ++ ex) R I J o Z := by
  unfold pTk_scanSign_69 at hp
  refine pm_iinc dTk_scanSign_69 rfl (by decide) rfl ?_
  refine pm_goto 16 dTk_scanSign_72 (by decide) ?_
  refine pm_wk [1, 2, 3, 0] rfl ?_
  exact ih16 _ _ _ _ _ hp (ho.trans (by first | rfl | (simp only [fTk_scanSign_69]; done) | (simp only [fTk_scanSign_69]; rfl))) (hz.trans (by first | rfl | (simp only [fTk_scanSign_69]; done) | (simp only [fTk_scanSign_69]; rfl)))
set_option maxHeartbeats 4000000 in
set_option maxRecDepth 100000 in
theorem Tk_scanSign_n16 (g : pmG) (d : Nat) (ex : List (Nat × Nat)) (R : Nat → Nat → Value) (hR : pk_R R) (o : Outcome) (Z : pmM)  : ∀ (n : Nat) (y1 : Int32) (y2 : Int32) (y3 : Int32) (I : Nat → Nat → Int32) (J : Nat → Nat → Int64), pTk_scanSign_16 n y1 y2 y3 I J → o = .returned (some (.int (fTk_scanSign_16 n y1 y2 y3 I J).1)) → Z = (pk_K ++ ex, R, (fTk_scanSign_16 n y1 y2 y3 I J).2, J) → pmE g kTk_scanSign (d + 4) 0 0 16 [(0, .ref 17), (1, .int y1), (2, .int y2), (3, .int y3)] [] (pk_K ++ ex) R I J o Z := by
  intro n
  induction n with
  | zero => intro y1 y2 y3 I J hp; exact False.elim hp
  | succ n ih =>
  intro y1 y2 y3 I J hp ho hz
  simp only [pTk_scanSign_16] at hp
  refine pm_iload_n dTk_scanSign_16 rfl ?_
  refine pm_iconst (v := 1) dTk_scanSign_17 (by decide) ?_
  refine pm_iadd dTk_scanSign_18 ?_
  refine pm_ldcS dTk_scanSign_19 zTk_75 ?_
  refine pm_callX (x := 5) dTk_scanSign_21 lTk_77 vSg_length rfl (by decide) (Sg_length_15_ok _ _ _ _ hR  _ _ hp.1) rfl rfl (Nat.le_of_ble_eq_true rfl) (Nat.le_refl _) (Nat.le_refl _) ?_
  refine pm_icmp_ge 75 dTk_scanSign_24 (by decide) (fun h24 => ?_) (fun h24 => ?_)
  ·
    refine pm_aload_n dTk_scanSign_75 rfl ?_
    refine pm_dup dTk_scanSign_76 rfl ?_
    refine pm_geti dTk_scanSign_77 fTk_28 rfl ?_
    refine pm_iconst (v := 1) dTk_scanSign_80 (by decide) ?_
    refine pm_iadd dTk_scanSign_81 ?_
    refine pm_puti dTk_scanSign_82 fTk_28 sTk_28 (fun h => by cases h) rfl rfl rfl ?_
    refine pm_ldcS dTk_scanSign_85 zTk_85 ?_
    refine pm_iload_n dTk_scanSign_87 rfl ?_
    refine pm_i2c dTk_scanSign_88 ?_
    refine pm_callX (x := 6) dTk_scanSign_89 lTk_87 vSg_indexOf rfl (by decide) (Sg_indexOf_16_ok _ _ _ _ hR _ _ _ (hp.2.1 h24).1) rfl rfl (Nat.le_of_ble_eq_true rfl) (Nat.le_refl _) (Nat.le_refl _) ?_
    refine pm_istore_n dTk_scanSign_92 (by decide) rfl ?_
    refine pm_iload_n dTk_scanSign_93 rfl ?_
    refine pm_if_ge 102 dTk_scanSign_94 (by decide) (fun h94 => ?_) (fun h94 => ?_)
    ·
      refine pm_iload_n dTk_scanSign_102 rfl ?_
      exact pm_iret dTk_scanSign_103 rfl (ho.trans (by first | (simp only [fTk_scanSign_16, if_pos h24, if_pos h94]; done) | (simp only [fTk_scanSign_16, if_pos h24, if_pos h94]; rfl) | rfl)) (hz.trans (by first | (simp only [fTk_scanSign_16, if_pos h24, if_pos h94]; done) | (simp only [fTk_scanSign_16, if_pos h24, if_pos h94]; rfl) | rfl))
    ·
      refine pm_bipush (v := 46) dTk_scanSign_97 (by decide) ?_
      refine pm_goto 103 dTk_scanSign_99 (by decide) ?_
      exact pm_iret dTk_scanSign_103 rfl (ho.trans (by first | (simp only [fTk_scanSign_16, if_pos h24, if_neg h94]; done) | (simp only [fTk_scanSign_16, if_pos h24, if_neg h94]; rfl) | rfl)) (hz.trans (by first | (simp only [fTk_scanSign_16, if_pos h24, if_neg h94]; done) | (simp only [fTk_scanSign_16, if_pos h24, if_neg h94]; rfl) | rfl))
  ·
    refine pm_ldcS dTk_scanSign_27 zTk_75 ?_
    refine pm_iload_n dTk_scanSign_29 rfl ?_
    refine pm_callX (x := 5) dTk_scanSign_30 lTk_81 vSg_charAt rfl (by decide) (Sg_charAt_15_ok _ _ _ _ hR _ _ _ (hp.2.2 h24).1) rfl rfl (Nat.le_of_ble_eq_true rfl) (Nat.le_refl _) (Nat.le_refl _) ?_
    refine pm_iload_n dTk_scanSign_33 rfl ?_
    refine pm_icmp_ne 69 dTk_scanSign_34 (by decide) (fun h34 => ?_) (fun h34 => ?_)
    ·
      refine pm_wk [0, 1, 2, 3] rfl ?_
      exact Tk_scanSign_n69 g d ex R hR _ _ (fTk_scanSign_16 n) (pTk_scanSign_16 n) ih  _ _ _ _ _ ((hp.2.2 h24).2.2 h34) (ho.trans (by first | (simp only [fTk_scanSign_16, if_neg h24, if_neg h34]; done) | (simp only [fTk_scanSign_16, if_neg h24, if_neg h34]; rfl) | rfl)) (hz.trans (by first | (simp only [fTk_scanSign_16, if_neg h24, if_neg h34]; done) | (simp only [fTk_scanSign_16, if_neg h24, if_neg h34]; rfl) | rfl))
    ·
      refine pm_ldcS dTk_scanSign_37 zTk_75 ?_
      refine pm_iload_n dTk_scanSign_39 rfl ?_
      refine pm_iconst (v := 1) dTk_scanSign_40 (by decide) ?_
      refine pm_iadd dTk_scanSign_41 ?_
      refine pm_callX (x := 5) dTk_scanSign_42 lTk_81 vSg_charAt rfl (by decide) (Sg_charAt_15_ok _ _ _ _ hR _ _ _ ((hp.2.2 h24).2.1 h34).1) rfl rfl (Nat.le_of_ble_eq_true rfl) (Nat.le_refl _) (Nat.le_refl _) ?_
      refine pm_iload_n dTk_scanSign_45 rfl ?_
      refine pm_icmp_ne 69 dTk_scanSign_46 (by decide) (fun h46 => ?_) (fun h46 => ?_)
      ·
        refine pm_wk [0, 1, 2, 3] rfl ?_
        exact Tk_scanSign_n69 g d ex R hR _ _ (fTk_scanSign_16 n) (pTk_scanSign_16 n) ih  _ _ _ _ _ (((hp.2.2 h24).2.1 h34).2.2 h46) (ho.trans (by first | (simp only [fTk_scanSign_16, if_neg h24, if_pos h34, if_neg h46]; done) | (simp only [fTk_scanSign_16, if_neg h24, if_pos h34, if_neg h46]; rfl) | rfl)) (hz.trans (by first | (simp only [fTk_scanSign_16, if_neg h24, if_pos h34, if_neg h46]; done) | (simp only [fTk_scanSign_16, if_neg h24, if_pos h34, if_neg h46]; rfl) | rfl))
      ·
        refine pm_aload_n dTk_scanSign_49 rfl ?_
        refine pm_dup dTk_scanSign_50 rfl ?_
        refine pm_geti dTk_scanSign_51 fTk_28 rfl ?_
        refine pm_iconst (v := 2) dTk_scanSign_54 (by decide) ?_
        refine pm_iadd dTk_scanSign_55 ?_
        refine pm_puti dTk_scanSign_56 fTk_28 sTk_28 (fun h => by cases h) rfl rfl rfl ?_
        refine pm_ldcS dTk_scanSign_59 zTk_85 ?_
        refine pm_callX (x := 6) dTk_scanSign_61 lTk_77 vSg_length rfl (by decide) (Sg_length_16_ok _ _ _ _ hR  _ _ (((hp.2.2 h24).2.1 h34).2.1 h46).1) rfl rfl (Nat.le_of_ble_eq_true rfl) (Nat.le_refl _) (Nat.le_refl _) ?_
        refine pm_iload_n dTk_scanSign_64 rfl ?_
        refine pm_iconst (v := 2) dTk_scanSign_65 (by decide) ?_
        refine pm_idiv dTk_scanSign_66 (((hp.2.2 h24).2.1 h34).2.1 h46).2.1 ?_
        refine pm_iadd dTk_scanSign_67 ?_
        exact pm_iret dTk_scanSign_68 rfl (ho.trans (by first | (simp only [fTk_scanSign_16, if_neg h24, if_pos h34, if_pos h46]; done) | (simp only [fTk_scanSign_16, if_neg h24, if_pos h34, if_pos h46]; rfl) | rfl)) (hz.trans (by first | (simp only [fTk_scanSign_16, if_neg h24, if_pos h34, if_pos h46]; done) | (simp only [fTk_scanSign_16, if_neg h24, if_pos h34, if_pos h46]; rfl) | rfl))
set_option maxHeartbeats 4000000 in
set_option maxRecDepth 100000 in
theorem Tk_scanSign_n0 (g : pmG) (d : Nat) (ex : List (Nat × Nat)) (R : Nat → Nat → Value) (hR : pk_R R) (o : Outcome) (Z : pmM) (n16 : Nat) (y1 : Int32) (I : Nat → Nat → Int32) (J : Nat → Nat → Int64) (hp : pTk_scanSign n16 y1 I J) (ho : o = .returned (some (.int (fTk_scanSign n16 y1 I J).1))) (hz : Z = (pk_K ++ ex, R, (fTk_scanSign n16 y1 I J).2, J)) : pmE g kTk_scanSign (d + 4) 0 0 0 [(0, .ref 17), (1, .int y1)] [] (pk_K ++ ex) R I J o Z := by
  unfold pTk_scanSign at hp
  refine pm_aload_n dTk_scanSign_0 rfl ?_
  refine pm_getr dTk_scanSign_1 fTk_24 rfl (rr_17_0 hR) ?_
  refine pm_aload_n dTk_scanSign_4 rfl ?_
  refine pm_geti dTk_scanSign_5 fTk_28 rfl ?_
  refine pm_iconst (v := 1) dTk_scanSign_8 (by decide) ?_
  refine pm_iadd dTk_scanSign_9 ?_
  refine pm_callV dTk_scanSign_10 lTk_45 vTp_byteAt ⟨_, _, rfl⟩ (Tp_byteAt_ok _ _ _ _ hR _ _ _ hp.1) rfl rfl rfl (Nat.le_of_ble_eq_true rfl) (Nat.le_refl _) (Nat.le_refl _) ?_
  refine pm_istore_n dTk_scanSign_13 (by decide) rfl ?_
  refine pm_iconst (v := 0) dTk_scanSign_14 (by decide) ?_
  refine pm_istore_n dTk_scanSign_15 (by decide) rfl ?_
  refine pm_wk [2, 3, 1, 0] rfl ?_
  exact Tk_scanSign_n16 g d ex R hR _ _  n16 _ _ _ _ _ hp.2 (ho.trans (by first | rfl | (simp only [fTk_scanSign]; done) | (simp only [fTk_scanSign]; rfl))) (hz.trans (by first | rfl | (simp only [fTk_scanSign]; done) | (simp only [fTk_scanSign]; rfl)))
set_option maxHeartbeats 4000000 in
set_option maxRecDepth 100000 in
theorem Tk_scanSign_ok (g : pmG) (d : Nat) (ex : List (Nat × Nat)) (R : Nat → Nat → Value) (hR : pk_R R) (n16 : Nat) (x0 : Int32) (I : Nat → Nat → Int32) (J : Nat → Nat → Int64) (hp : pTk_scanSign n16 x0 I J) : pmC g kTk_scanSign (d + 4) 0 0 [.ref 17, .int x0] (pk_K ++ ex, R, I, J) (.returned (some (.int (fTk_scanSign n16 x0 I J).1))) (pk_K ++ ex, R, (fTk_scanSign n16 x0 I J).2, J) :=
  pmC.of (by decide) (Nat.le_of_ble_eq_true rfl) (Tk_scanSign_n0 g d ex R hR _ _ n16 x0 I J hp rfl rfl)
def fTk_scan_63  (y1 : Int32) (y2 : Int32) (z0 : Int32) (I : Nat → Nat → Int32) (J : Nat → Nat → Int64) : Int32 × (Nat → Nat → Int32) :=
  (z0, I)
def pTk_scan_63  (y1 : Int32) (y2 : Int32) (z0 : Int32) (I : Nat → Nat → Int32) (J : Nat → Nat → Int64) : Prop :=
  True
def fTk_scan  (y1 : Int32) (I : Nat → Nat → Int32) (J : Nat → Nat → Int64) : Int32 × (Nat → Nat → Int32) :=
  if (I 17 6) < (I 1 1) then if y1 < (4000 : Int32) then if ((fTk_isLetter ((fTp_byteAt (I 17 6) I J)))) = 0 then if ((fTk_isDigit ((fTp_byteAt (I 17 6) I J)))) = 0 then ((fTk_scanSign 10 ((fTp_byteAt (I 17 6) I J)) I J).1, (fTk_scanSign 10 ((fTp_byteAt (I 17 6) I J)) I J).2)
        else fTk_scan_63 y1 ((fTp_byteAt (I 17 6) I J)) ((fTk_scanNumber 65537 y1 I J).1) ((fTk_scanNumber 65537 y1 I J).2) J
      else ((fTk_scanWord 65537 I J).1, (fTk_scanWord 65537 I J).2)
    else ((47 : Int32), I)
  else ((45 : Int32), I)
def pTk_scan  (y1 : Int32) (I : Nat → Nat → Int32) (J : Nat → Nat → Int64) : Prop :=
  ((I 17 6) < (I 1 1) → (y1 < (4000 : Int32) → (pTp_byteAt (I 17 6) I J) ∧ ((pTk_isLetter ((fTp_byteAt (I 17 6) I J))) ∧ ((((fTk_isLetter ((fTp_byteAt (I 17 6) I J)))) = 0 → (pTk_isDigit ((fTp_byteAt (I 17 6) I J))) ∧ ((((fTk_isDigit ((fTp_byteAt (I 17 6) I J)))) = 0 → (pTk_scanSign 10 ((fTp_byteAt (I 17 6) I J)) I J) ∧ True) ∧
        (¬ (((fTk_isDigit ((fTp_byteAt (I 17 6) I J)))) = 0) → (pTk_scanNumber 65537 y1 I J) ∧ (pTk_scan_63 y1 ((fTp_byteAt (I 17 6) I J)) ((fTk_scanNumber 65537 y1 I J).1) ((fTk_scanNumber 65537 y1 I J).2) J)))) ∧
      (¬ (((fTk_isLetter ((fTp_byteAt (I 17 6) I J)))) = 0) → (pTk_scanWord 65537 I J) ∧ True)))) ∧
    (¬ (y1 < (4000 : Int32)) → True)) ∧
  (¬ ((I 17 6) < (I 1 1)) → True)
set_option maxHeartbeats 4000000 in
set_option maxRecDepth 100000 in
theorem Tk_scan_n63 (g : pmG) (d : Nat) (ex : List (Nat × Nat)) (R : Nat → Nat → Value) (hR : pk_R R) (o : Outcome) (Z : pmM)  (y1 : Int32) (y2 : Int32) (z0 : Int32) (I : Nat → Nat → Int32) (J : Nat → Nat → Int64) (hp : pTk_scan_63 y1 y2 z0 I J) (ho : o = .returned (some (.int (fTk_scan_63 y1 y2 z0 I J).1))) (hz : Z = (pk_K ++ ex, R, (fTk_scan_63 y1 y2 z0 I J).2, J)) : pmE g kTk_scan (d + 7) 0 0 63 [(0, .ref 17), (1, .int y1), (2, .int y2)] [.int z0] (pk_K ++ ex) R I J o Z := by
  unfold pTk_scan_63 at hp
  refine pm_goto 71 dTk_scan_63 (by decide) ?_
  exact pm_iret dTk_scan_71 rfl (ho.trans (by first | rfl | (simp only [fTk_scan_63]; done) | (simp only [fTk_scan_63]; rfl))) (hz.trans (by first | rfl | (simp only [fTk_scan_63]; done) | (simp only [fTk_scan_63]; rfl)))
set_option maxHeartbeats 4000000 in
set_option maxRecDepth 100000 in
theorem Tk_scan_n0 (g : pmG) (d : Nat) (ex : List (Nat × Nat)) (R : Nat → Nat → Value) (hR : pk_R R) (o : Outcome) (Z : pmM)  (y1 : Int32) (I : Nat → Nat → Int32) (J : Nat → Nat → Int64) (hp : pTk_scan y1 I J) (ho : o = .returned (some (.int (fTk_scan y1 I J).1))) (hz : Z = (pk_K ++ ex, R, (fTk_scan y1 I J).2, J)) : pmE g kTk_scan (d + 7) 0 0 0 [(0, .ref 17), (1, .int y1)] [] (pk_K ++ ex) R I J o Z := by
  unfold pTk_scan at hp
  refine pm_aload_n dTk_scan_0 rfl ?_
  refine pm_geti dTk_scan_1 fTk_28 rfl ?_
  refine pm_aload_n dTk_scan_4 rfl ?_
  refine pm_getr dTk_scan_5 fTk_24 rfl (rr_17_0 hR) ?_
  refine pm_geti dTk_scan_8 fTk_42 rfl ?_
  refine pm_icmp_lt 17 dTk_scan_11 (by decide) (fun h11 => ?_) (fun h11 => ?_)
  ·
    refine pm_iload_n dTk_scan_17 rfl ?_
    refine pm_sipush (v := 4000) dTk_scan_18 (by decide) ?_
    refine pm_icmp_lt 27 dTk_scan_21 (by decide) (fun h21 => ?_) (fun h21 => ?_)
    ·
      refine pm_aload_n dTk_scan_27 rfl ?_
      refine pm_getr dTk_scan_28 fTk_24 rfl (rr_17_0 hR) ?_
      refine pm_aload_n dTk_scan_31 rfl ?_
      refine pm_geti dTk_scan_32 fTk_28 rfl ?_
      refine pm_callV dTk_scan_35 lTk_45 vTp_byteAt ⟨_, _, rfl⟩ (Tp_byteAt_ok _ _ _ _ hR _ _ _ ((hp.1 h11).1 h21).1) rfl rfl rfl (Nat.le_of_ble_eq_true rfl) (Nat.le_refl _) (Nat.le_refl _) ?_
      refine pm_istore_n dTk_scan_38 (by decide) rfl ?_
      refine pm_iload_n dTk_scan_39 rfl ?_
      refine pm_callS dTk_scan_40 lTk_48 tTk_isLetter (Tk_isLetter_ok _ _ _ _ _ _ _ ((hp.1 h11).1 h21).2.1) rfl rfl (Nat.le_of_ble_eq_true rfl) (Nat.le_refl _) (Nat.le_refl _) ?_
      refine pm_if_eq 51 dTk_scan_43 (by decide) (fun h43 => ?_) (fun h43 => ?_)
      ·
        refine pm_iload_n dTk_scan_51 rfl ?_
        refine pm_callS dTk_scan_52 lTk_56 tTk_isDigit (Tk_isDigit_ok _ _ _ _ _ _ _ (((hp.1 h11).1 h21).2.2.1 h43).1) rfl rfl (Nat.le_of_ble_eq_true rfl) (Nat.le_refl _) (Nat.le_refl _) ?_
        refine pm_if_eq 66 dTk_scan_55 (by decide) (fun h55 => ?_) (fun h55 => ?_)
        ·
          refine pm_aload_n dTk_scan_66 rfl ?_
          refine pm_iload_n dTk_scan_67 rfl ?_
          refine pm_callV dTk_scan_68 lTk_62 vTk_scanSign ⟨_, _, rfl⟩ (Tk_scanSign_ok _ _ _ _ hR _ _ _ _ ((((hp.1 h11).1 h21).2.2.1 h43).2.1 h55).1) rfl rfl rfl (Nat.le_of_ble_eq_true rfl) (Nat.le_refl _) (Nat.le_refl _) ?_
          exact pm_iret dTk_scan_71 rfl (ho.trans (by first | (simp only [fTk_scan, if_pos h11, if_pos h21, if_pos h43, if_pos h55]; done) | (simp only [fTk_scan, if_pos h11, if_pos h21, if_pos h43, if_pos h55]; rfl) | rfl)) (hz.trans (by first | (simp only [fTk_scan, if_pos h11, if_pos h21, if_pos h43, if_pos h55]; done) | (simp only [fTk_scan, if_pos h11, if_pos h21, if_pos h43, if_pos h55]; rfl) | rfl))
        ·
          refine pm_aload_n dTk_scan_58 rfl ?_
          refine pm_iload_n dTk_scan_59 rfl ?_
          refine pm_callV dTk_scan_60 lTk_59 vTk_scanNumber ⟨_, _, rfl⟩ (Tk_scanNumber_ok _ _ _ _ hR _ _ _ _ ((((hp.1 h11).1 h21).2.2.1 h43).2.2 h55).1) rfl rfl rfl (Nat.le_of_ble_eq_true rfl) (Nat.le_refl _) (Nat.le_refl _) ?_
          refine pm_wk [1, 2, 0] rfl ?_
          exact Tk_scan_n63 g d ex R hR _ _   _ _ _ _ _ ((((hp.1 h11).1 h21).2.2.1 h43).2.2 h55).2 (ho.trans (by first | (simp only [fTk_scan, if_pos h11, if_pos h21, if_pos h43, if_neg h55]; done) | (simp only [fTk_scan, if_pos h11, if_pos h21, if_pos h43, if_neg h55]; rfl) | rfl)) (hz.trans (by first | (simp only [fTk_scan, if_pos h11, if_pos h21, if_pos h43, if_neg h55]; done) | (simp only [fTk_scan, if_pos h11, if_pos h21, if_pos h43, if_neg h55]; rfl) | rfl))
      ·
        refine pm_aload_n dTk_scan_46 rfl ?_
        refine pm_callV dTk_scan_47 lTk_52 vTk_scanWord ⟨_, _, rfl⟩ (Tk_scanWord_ok _ _ _ _ hR _ _ _ (((hp.1 h11).1 h21).2.2.2 h43).1) rfl rfl rfl (Nat.le_of_ble_eq_true rfl) (Nat.le_refl _) (Nat.le_refl _) ?_
        exact pm_iret dTk_scan_50 rfl (ho.trans (by first | (simp only [fTk_scan, if_pos h11, if_pos h21, if_neg h43]; done) | (simp only [fTk_scan, if_pos h11, if_pos h21, if_neg h43]; rfl) | rfl)) (hz.trans (by first | (simp only [fTk_scan, if_pos h11, if_pos h21, if_neg h43]; done) | (simp only [fTk_scan, if_pos h11, if_pos h21, if_neg h43]; rfl) | rfl))
    ·
      refine pm_bipush (v := 47) dTk_scan_24 (by decide) ?_
      exact pm_iret dTk_scan_26 rfl (ho.trans (by first | (simp only [fTk_scan, if_pos h11, if_neg h21]; done) | (simp only [fTk_scan, if_pos h11, if_neg h21]; rfl) | rfl)) (hz.trans (by first | (simp only [fTk_scan, if_pos h11, if_neg h21]; done) | (simp only [fTk_scan, if_pos h11, if_neg h21]; rfl) | rfl))
  ·
    refine pm_bipush (v := 45) dTk_scan_14 (by decide) ?_
    exact pm_iret dTk_scan_16 rfl (ho.trans (by first | (simp only [fTk_scan, if_neg h11]; done) | (simp only [fTk_scan, if_neg h11]; rfl) | rfl)) (hz.trans (by first | (simp only [fTk_scan, if_neg h11]; done) | (simp only [fTk_scan, if_neg h11]; rfl) | rfl))
set_option maxHeartbeats 4000000 in
set_option maxRecDepth 100000 in
theorem Tk_scan_ok (g : pmG) (d : Nat) (ex : List (Nat × Nat)) (R : Nat → Nat → Value) (hR : pk_R R)  (x0 : Int32) (I : Nat → Nat → Int32) (J : Nat → Nat → Int64) (hp : pTk_scan x0 I J) : pmC g kTk_scan (d + 7) 0 0 [.ref 17, .int x0] (pk_K ++ ex, R, I, J) (.returned (some (.int (fTk_scan x0 I J).1))) (pk_K ++ ex, R, (fTk_scan x0 I J).2, J) :=
  pmC.of (by decide) (Nat.le_of_ble_eq_true rfl) (Tk_scan_n0 g d ex R hR _ _  x0 I J hp rfl rfl)
def fTk_part_90 (r14 : Int32 → Int32 → (Nat → Nat → Int32) → (Nat → Nat → Int64) → (Nat → Nat → Int32)) (y1 : Int32) (y2 : Int32) (z0 : Int32) (I : Nat → Nat → Int32) (J : Nat → Nat → Int64) : (Nat → Nat → Int32) :=
  r14 z0 (y2 + Int32.ofInt 1) I J
def pTk_part_90 (q14 : Int32 → Int32 → (Nat → Nat → Int32) → (Nat → Nat → Int64) → Prop) (y1 : Int32) (y2 : Int32) (z0 : Int32) (I : Nat → Nat → Int32) (J : Nat → Nat → Int64) : Prop :=
  q14 z0 (y2 + Int32.ofInt 1) I J
def fTk_part_49 (r14 : Int32 → Int32 → (Nat → Nat → Int32) → (Nat → Nat → Int64) → (Nat → Nat → Int32)) (y1 : Int32) (y2 : Int32) (z1 : Int32) (z2 : Int32) (I : Nat → Nat → Int32) (J : Nat → Nat → Int64) : (Nat → Nat → Int32) :=
  if (45 : Int32) ≤ ((pm_u (pm_u (pm_u I 18 z1.toNatClampNeg z2) 20 y2.toNatClampNeg ((I 17 6) - ((pm_u I 18 z1.toNatClampNeg z2) 19 y2.toNatClampNeg))) 17 5 (y2 + (1 : Int32))) 18 y2.toNatClampNeg) then fTk_part_90 r14 y1 y2 (0 : Int32) (pm_u (pm_u (pm_u I 18 z1.toNatClampNeg z2) 20 y2.toNatClampNeg ((I 17 6) - ((pm_u I 18 z1.toNatClampNeg z2) 19 y2.toNatClampNeg))) 17 5 (y2 + (1 : Int32))) J
  else fTk_part_90 r14 y1 y2 (1 : Int32) (pm_u (pm_u (pm_u I 18 z1.toNatClampNeg z2) 20 y2.toNatClampNeg ((I 17 6) - ((pm_u I 18 z1.toNatClampNeg z2) 19 y2.toNatClampNeg))) 17 5 (y2 + (1 : Int32))) J
def pTk_part_49 (q14 : Int32 → Int32 → (Nat → Nat → Int32) → (Nat → Nat → Int64) → Prop) (y1 : Int32) (y2 : Int32) (z1 : Int32) (z2 : Int32) (I : Nat → Nat → Int32) (J : Nat → Nat → Int64) : Prop :=
  (vp_in z1 4001) ∧ ((vp_in y2 4001) ∧ ((vp_in y2 4001) ∧ ((vp_in y2 4001) ∧ (((45 : Int32) ≤ ((pm_u (pm_u (pm_u I 18 z1.toNatClampNeg z2) 20 y2.toNatClampNeg ((I 17 6) - ((pm_u I 18 z1.toNatClampNeg z2) 19 y2.toNatClampNeg))) 17 5 (y2 + (1 : Int32))) 18 y2.toNatClampNeg) → pTk_part_90 q14 y1 y2 (0 : Int32) (pm_u (pm_u (pm_u I 18 z1.toNatClampNeg z2) 20 y2.toNatClampNeg ((I 17 6) - ((pm_u I 18 z1.toNatClampNeg z2) 19 y2.toNatClampNeg))) 17 5 (y2 + (1 : Int32))) J) ∧
  (¬ ((45 : Int32) ≤ ((pm_u (pm_u (pm_u I 18 z1.toNatClampNeg z2) 20 y2.toNatClampNeg ((I 17 6) - ((pm_u I 18 z1.toNatClampNeg z2) 19 y2.toNatClampNeg))) 17 5 (y2 + (1 : Int32))) 18 y2.toNatClampNeg)) → pTk_part_90 q14 y1 y2 (1 : Int32) (pm_u (pm_u (pm_u I 18 z1.toNatClampNeg z2) 20 y2.toNatClampNeg ((I 17 6) - ((pm_u I 18 z1.toNatClampNeg z2) 19 y2.toNatClampNeg))) 17 5 (y2 + (1 : Int32))) J)))))
def fTk_part_29 (r14 : Int32 → Int32 → (Nat → Nat → Int32) → (Nat → Nat → Int64) → (Nat → Nat → Int32)) (y1 : Int32) (y2 : Int32) (I : Nat → Nat → Int32) (J : Nat → Nat → Int64) : (Nat → Nat → Int32) :=
  fTk_part_49 r14 y1 y2 y2 ((fTk_scan y2 (pm_u I 19 y2.toNatClampNeg (I 17 6)) J).1) ((fTk_scan y2 (pm_u I 19 y2.toNatClampNeg (I 17 6)) J).2) J
def pTk_part_29 (q14 : Int32 → Int32 → (Nat → Nat → Int32) → (Nat → Nat → Int64) → Prop) (y1 : Int32) (y2 : Int32) (I : Nat → Nat → Int32) (J : Nat → Nat → Int64) : Prop :=
  (vp_in y2 4001) ∧ ((pTk_scan y2 (pm_u I 19 y2.toNatClampNeg (I 17 6)) J) ∧ (pTk_part_49 q14 y1 y2 y2 ((fTk_scan y2 (pm_u I 19 y2.toNatClampNeg (I 17 6)) J).1) ((fTk_scan y2 (pm_u I 19 y2.toNatClampNeg (I 17 6)) J).2) J))
def fTk_part_14  : Nat → Int32 → Int32 → (Nat → Nat → Int32) → (Nat → Nat → Int64) → (Nat → Nat → Int32)
  | 0, _, _, I, _ => I
  | n + 1, y1, y2, I, J =>
  if (4000 : Int32) < y2 then I
  else if y1 = 0 then I
    else fTk_part_29 (fTk_part_14 n) y1 y2 ((fTk_skipBlanks 65537 I J)) J
def pTk_part_14  : Nat → Int32 → Int32 → (Nat → Nat → Int32) → (Nat → Nat → Int64) → Prop
  | 0, _, _, _, _ => False
  | n + 1, y1, y2, I, J =>
  ((4000 : Int32) < y2 → True) ∧
  (¬ ((4000 : Int32) < y2) → (y1 = 0 → True) ∧
    (¬ (y1 = 0) → (pTk_skipBlanks 65537 I J) ∧ (pTk_part_29 (pTk_part_14 n) y1 y2 ((fTk_skipBlanks 65537 I J)) J)))
def fTk_part (n14 : Nat) (I : Nat → Nat → Int32) (J : Nat → Nat → Int64) : (Nat → Nat → Int32) :=
  fTk_part_14 n14 (1 : Int32) (0 : Int32) (pm_u (pm_u I 17 6 (0 : Int32)) 17 5 (0 : Int32)) J
def pTk_part (n14 : Nat) (I : Nat → Nat → Int32) (J : Nat → Nat → Int64) : Prop :=
  pTk_part_14 n14 (1 : Int32) (0 : Int32) (pm_u (pm_u I 17 6 (0 : Int32)) 17 5 (0 : Int32)) J
set_option maxHeartbeats 4000000 in
set_option maxRecDepth 100000 in
theorem Tk_part_n90 (g : pmG) (d : Nat) (ex : List (Nat × Nat)) (R : Nat → Nat → Value) (hR : pk_R R) (o : Outcome) (Z : pmM) (r14 : Int32 → Int32 → (Nat → Nat → Int32) → (Nat → Nat → Int64) → (Nat → Nat → Int32)) (q14 : Int32 → Int32 → (Nat → Nat → Int32) → (Nat → Nat → Int64) → Prop) (ih14 : ∀ (y1 : Int32) (y2 : Int32) (I : Nat → Nat → Int32) (J : Nat → Nat → Int64), q14 y1 y2 I J → o = .returned none → Z = (pk_K ++ ex, R, (r14 y1 y2 I J), J) → pmE g kTk_part (d + 8) 0 0 14 [(0, .ref 17), (1, .int y1), (2, .int y2)] [] (pk_K ++ ex) R I J o Z)  (y1 : Int32) (y2 : Int32) (z0 : Int32) (I : Nat → Nat → Int32) (J : Nat → Nat → Int64) (hp : pTk_part_90 q14 y1 y2 z0 I J) (ho : o = .returned none) (hz : Z = (pk_K ++ ex, R, (fTk_part_90 r14 y1 y2 z0 I J), J)) : pmE g kTk_part (d + 8) 0 0 90 [(0, .ref 17), (1, .int y1), (2, .int y2)] [.int z0] (pk_K ++ ex) R I J o Z := by
  unfold pTk_part_90 at hp
  refine pm_istore_n dTk_part_90 (by decide) rfl ?_
  refine pm_iinc dTk_part_91 rfl (by decide) rfl ?_
  refine pm_goto 14 dTk_part_94 (by decide) ?_
  refine pm_wk [2, 1, 0] rfl ?_
  exact ih14 _ _ _ _ hp ho (hz.trans (by first | rfl | (simp only [fTk_part_90]; done) | (simp only [fTk_part_90]; rfl)))
set_option maxHeartbeats 4000000 in
set_option maxRecDepth 100000 in
theorem Tk_part_n49 (g : pmG) (d : Nat) (ex : List (Nat × Nat)) (R : Nat → Nat → Value) (hR : pk_R R) (o : Outcome) (Z : pmM) (r14 : Int32 → Int32 → (Nat → Nat → Int32) → (Nat → Nat → Int64) → (Nat → Nat → Int32)) (q14 : Int32 → Int32 → (Nat → Nat → Int32) → (Nat → Nat → Int64) → Prop) (ih14 : ∀ (y1 : Int32) (y2 : Int32) (I : Nat → Nat → Int32) (J : Nat → Nat → Int64), q14 y1 y2 I J → o = .returned none → Z = (pk_K ++ ex, R, (r14 y1 y2 I J), J) → pmE g kTk_part (d + 8) 0 0 14 [(0, .ref 17), (1, .int y1), (2, .int y2)] [] (pk_K ++ ex) R I J o Z)  (y1 : Int32) (y2 : Int32) (z1 : Int32) (z2 : Int32) (I : Nat → Nat → Int32) (J : Nat → Nat → Int64) (hp : pTk_part_49 q14 y1 y2 z1 z2 I J) (ho : o = .returned none) (hz : Z = (pk_K ++ ex, R, (fTk_part_49 r14 y1 y2 z1 z2 I J), J)) : pmE g kTk_part (d + 8) 0 0 49 [(0, .ref 17), (1, .int y1), (2, .int y2)] [.int z2, .int z1, .ref 18] (pk_K ++ ex) R I J o Z := by
  unfold pTk_part_49 at hp
  refine pm_iast dTk_part_49 rfl hp.1 ?_
  refine pm_aload_n dTk_part_50 rfl ?_
  refine pm_getr dTk_part_51 fTk_18 rfl (rr_17_3 hR) ?_
  refine pm_iload_n dTk_part_54 rfl ?_
  refine pm_aload_n dTk_part_55 rfl ?_
  refine pm_geti dTk_part_56 fTk_28 rfl ?_
  refine pm_eqi (I 17 6) rfl ?_
  refine pm_aload_n dTk_part_59 rfl ?_
  refine pm_getr dTk_part_60 fTk_15 rfl (rr_17_2 hR) ?_
  refine pm_iload_n dTk_part_63 rfl ?_
  refine pm_iald dTk_part_64 rfl hp.2.1 ?_
  refine pm_isub dTk_part_65 ?_
  refine pm_iast dTk_part_66 rfl hp.2.2.1 ?_
  refine pm_aload_n dTk_part_67 rfl ?_
  refine pm_iload_n dTk_part_68 rfl ?_
  refine pm_iconst (v := 1) dTk_part_69 (by decide) ?_
  refine pm_iadd dTk_part_70 ?_
  refine pm_puti dTk_part_71 fTk_32 sTk_32 (fun h => by cases h) rfl rfl rfl ?_
  refine pm_aload_n dTk_part_74 rfl ?_
  refine pm_getr dTk_part_75 fTk_9 rfl (rr_17_1 hR) ?_
  refine pm_iload_n dTk_part_78 rfl ?_
  refine pm_iald dTk_part_79 rfl hp.2.2.2.1 ?_
  refine pm_bipush (v := 45) dTk_part_80 (by decide) ?_
  refine pm_icmp_ge 89 dTk_part_82 (by decide) (fun h82 => ?_) (fun h82 => ?_)
  ·
    refine pm_iconst (v := 0) dTk_part_89 (by decide) ?_
    refine pm_wk [0, 1, 2] rfl ?_
    exact Tk_part_n90 g d ex R hR _ _ r14 q14 ih14  _ _ _ _ _ (hp.2.2.2.2.1 h82) ho (hz.trans (by first | (simp only [fTk_part_49, if_pos h82]; done) | (simp only [fTk_part_49, if_pos h82]; rfl) | rfl))
  ·
    refine pm_iconst (v := 1) dTk_part_85 (by decide) ?_
    refine pm_goto 90 dTk_part_86 (by decide) ?_
    refine pm_wk [0, 1, 2] rfl ?_
    exact Tk_part_n90 g d ex R hR _ _ r14 q14 ih14  _ _ _ _ _ (hp.2.2.2.2.2 h82) ho (hz.trans (by first | (simp only [fTk_part_49, if_neg h82]; done) | (simp only [fTk_part_49, if_neg h82]; rfl) | rfl))
set_option maxHeartbeats 4000000 in
set_option maxRecDepth 100000 in
theorem Tk_part_n29 (g : pmG) (d : Nat) (ex : List (Nat × Nat)) (R : Nat → Nat → Value) (hR : pk_R R) (o : Outcome) (Z : pmM) (r14 : Int32 → Int32 → (Nat → Nat → Int32) → (Nat → Nat → Int64) → (Nat → Nat → Int32)) (q14 : Int32 → Int32 → (Nat → Nat → Int32) → (Nat → Nat → Int64) → Prop) (ih14 : ∀ (y1 : Int32) (y2 : Int32) (I : Nat → Nat → Int32) (J : Nat → Nat → Int64), q14 y1 y2 I J → o = .returned none → Z = (pk_K ++ ex, R, (r14 y1 y2 I J), J) → pmE g kTk_part (d + 8) 0 0 14 [(0, .ref 17), (1, .int y1), (2, .int y2)] [] (pk_K ++ ex) R I J o Z)  (y1 : Int32) (y2 : Int32) (I : Nat → Nat → Int32) (J : Nat → Nat → Int64) (hp : pTk_part_29 q14 y1 y2 I J) (ho : o = .returned none) (hz : Z = (pk_K ++ ex, R, (fTk_part_29 r14 y1 y2 I J), J)) : pmE g kTk_part (d + 8) 0 0 29 [(0, .ref 17), (1, .int y1), (2, .int y2)] [] (pk_K ++ ex) R I J o Z := by
  unfold pTk_part_29 at hp
  refine pm_aload_n dTk_part_29 rfl ?_
  refine pm_getr dTk_part_30 fTk_15 rfl (rr_17_2 hR) ?_
  refine pm_iload_n dTk_part_33 rfl ?_
  refine pm_aload_n dTk_part_34 rfl ?_
  refine pm_geti dTk_part_35 fTk_28 rfl ?_
  refine pm_iast dTk_part_38 rfl hp.1 ?_
  refine pm_aload_n dTk_part_39 rfl ?_
  refine pm_getr dTk_part_40 fTk_9 rfl (rr_17_1 hR) ?_
  refine pm_iload_n dTk_part_43 rfl ?_
  refine pm_aload_n dTk_part_44 rfl ?_
  refine pm_iload_n dTk_part_45 rfl ?_
  refine pm_callV dTk_part_46 lTk_38 vTk_scan ⟨_, _, rfl⟩ (Tk_scan_ok _ _ _ _ hR _ _ _ hp.2.1) rfl rfl rfl (Nat.le_of_ble_eq_true rfl) (Nat.le_refl _) (Nat.le_refl _) ?_
  refine pm_wk [0, 1, 2] rfl ?_
  exact Tk_part_n49 g d ex R hR _ _ r14 q14 ih14  _ _ _ _ _ _ hp.2.2 ho (hz.trans (by first | rfl | (simp only [fTk_part_29]; done) | (simp only [fTk_part_29]; rfl)))
set_option maxHeartbeats 4000000 in
set_option maxRecDepth 100000 in
theorem Tk_part_n14 (g : pmG) (d : Nat) (ex : List (Nat × Nat)) (R : Nat → Nat → Value) (hR : pk_R R) (o : Outcome) (Z : pmM)  : ∀ (n : Nat) (y1 : Int32) (y2 : Int32) (I : Nat → Nat → Int32) (J : Nat → Nat → Int64), pTk_part_14 n y1 y2 I J → o = .returned none → Z = (pk_K ++ ex, R, (fTk_part_14 n y1 y2 I J), J) → pmE g kTk_part (d + 8) 0 0 14 [(0, .ref 17), (1, .int y1), (2, .int y2)] [] (pk_K ++ ex) R I J o Z := by
  intro n
  induction n with
  | zero => intro y1 y2 I J hp; exact False.elim hp
  | succ n ih =>
  intro y1 y2 I J hp ho hz
  simp only [pTk_part_14] at hp
  refine pm_iload_n dTk_part_14 rfl ?_
  refine pm_sipush (v := 4000) dTk_part_15 (by decide) ?_
  refine pm_icmp_gt 97 dTk_part_18 (by decide) (fun h18 => ?_) (fun h18 => ?_)
  ·
    exact pm_vret dTk_part_97 rfl ho (hz.trans (by first | (simp only [fTk_part_14, if_pos h18]; done) | (simp only [fTk_part_14, if_pos h18]; rfl) | rfl))
  ·
    refine pm_iload_n dTk_part_21 rfl ?_
    refine pm_if_eq 97 dTk_part_22 (by decide) (fun h22 => ?_) (fun h22 => ?_)
    ·
      exact pm_vret dTk_part_97 rfl ho (hz.trans (by first | (simp only [fTk_part_14, if_neg h18, if_pos h22]; done) | (simp only [fTk_part_14, if_neg h18, if_pos h22]; rfl) | rfl))
    ·
      refine pm_aload_n dTk_part_25 rfl ?_
      refine pm_callV dTk_part_26 lTk_35 vTk_skipBlanks ⟨_, _, rfl⟩ (Tk_skipBlanks_ok _ _ _ _ hR _ _ _ ((hp.2 h18).2 h22).1) rfl rfl rfl (Nat.le_of_ble_eq_true rfl) (Nat.le_refl _) (Nat.le_refl _) ?_
      refine pm_wk [0, 1, 2] rfl ?_
      exact Tk_part_n29 g d ex R hR _ _ (fTk_part_14 n) (pTk_part_14 n) ih  _ _ _ _ ((hp.2 h18).2 h22).2 ho (hz.trans (by first | (simp only [fTk_part_14, if_neg h18, if_neg h22]; done) | (simp only [fTk_part_14, if_neg h18, if_neg h22]; rfl) | rfl))
set_option maxHeartbeats 4000000 in
set_option maxRecDepth 100000 in
theorem Tk_part_n0 (g : pmG) (d : Nat) (ex : List (Nat × Nat)) (R : Nat → Nat → Value) (hR : pk_R R) (o : Outcome) (Z : pmM) (n14 : Nat) (I : Nat → Nat → Int32) (J : Nat → Nat → Int64) (hp : pTk_part n14 I J) (ho : o = .returned none) (hz : Z = (pk_K ++ ex, R, (fTk_part n14 I J), J)) : pmE g kTk_part (d + 8) 0 0 0 [(0, .ref 17)] [] (pk_K ++ ex) R I J o Z := by
  unfold pTk_part at hp
  refine pm_aload_n dTk_part_0 rfl ?_
  refine pm_iconst (v := 0) dTk_part_1 (by decide) ?_
  refine pm_puti dTk_part_2 fTk_28 sTk_28 (fun h => by cases h) rfl rfl rfl ?_
  refine pm_aload_n dTk_part_5 rfl ?_
  refine pm_iconst (v := 0) dTk_part_6 (by decide) ?_
  refine pm_puti dTk_part_7 fTk_32 sTk_32 (fun h => by cases h) rfl rfl rfl ?_
  refine pm_iconst (v := 1) dTk_part_10 (by decide) ?_
  refine pm_istore_n dTk_part_11 (by decide) rfl ?_
  refine pm_iconst (v := 0) dTk_part_12 (by decide) ?_
  refine pm_istore_n dTk_part_13 (by decide) rfl ?_
  refine pm_wk [2, 1, 0] rfl ?_
  exact Tk_part_n14 g d ex R hR _ _  n14 _ _ _ _ hp ho (hz.trans (by first | rfl | (simp only [fTk_part]; done) | (simp only [fTk_part]; rfl)))
set_option maxHeartbeats 4000000 in
set_option maxRecDepth 100000 in
theorem Tk_part_ok (g : pmG) (d : Nat) (ex : List (Nat × Nat)) (R : Nat → Nat → Value) (hR : pk_R R) (n14 : Nat)  (I : Nat → Nat → Int32) (J : Nat → Nat → Int64) (hp : pTk_part n14 I J) : pmC g kTk_part (d + 8) 0 0 [.ref 17] (pk_K ++ ex, R, I, J) (.returned none) (pk_K ++ ex, R, (fTk_part n14 I J), J) :=
  pmC.of (by decide) (Nat.le_of_ble_eq_true rfl) (Tk_part_n0 g d ex R hR _ _ n14  I J hp rfl rfl)
