def fSt_caseOf  (y1 : Int32) (y2 : Int32) (I : Nat → Nat → Int32) (J : Nat → Nat → Int64) : Int32 :=
  (y1 <<< ((I 3 8) &&& 31)) ||| y2
def pSt_caseOf  (y1 : Int32) (y2 : Int32) (I : Nat → Nat → Int32) (J : Nat → Nat → Int64) : Prop :=
  True
set_option maxHeartbeats 4000000 in
set_option maxRecDepth 100000 in
theorem St_caseOf_n0 (g : pmG) (d : Nat) (ex : List (Nat × Nat)) (R : Nat → Nat → Value) (hR : pk_R R) (o : Outcome) (Z : pmM)  (y1 : Int32) (y2 : Int32) (I : Nat → Nat → Int32) (J : Nat → Nat → Int64) (hp : pSt_caseOf y1 y2 I J) (ho : o = .returned (some (.int (fSt_caseOf y1 y2 I J)))) (hz : Z = (pk_K ++ ex, R, I, J)) : pmE g kSt_caseOf d 0 0 0 [(0, .ref 25), (1, .int y1), (2, .int y2)] [] (pk_K ++ ex) R I J o Z := by
  unfold pSt_caseOf at hp
  refine pm_iload_n dSt_caseOf_0 rfl ?_
  refine pm_aload_n dSt_caseOf_1 rfl ?_
  refine pm_getr dSt_caseOf_2 fSt_33 rfl (rr_25_0 hR) ?_
  refine pm_geti dSt_caseOf_5 fSt_46 rfl ?_
  refine pm_ishl dSt_caseOf_8 ?_
  refine pm_iload_n dSt_caseOf_9 rfl ?_
  refine pm_ior dSt_caseOf_10 ?_
  exact pm_iret dSt_caseOf_11 rfl (ho.trans (by first | rfl | (simp only [fSt_caseOf]; done) | (simp only [fSt_caseOf]; rfl))) (hz.trans (by first | rfl | (simp only [fSt_caseOf]; done) | (simp only [fSt_caseOf]; rfl)))
set_option maxHeartbeats 4000000 in
set_option maxRecDepth 100000 in
theorem St_caseOf_ok (g : pmG) (d : Nat) (ex : List (Nat × Nat)) (R : Nat → Nat → Value) (hR : pk_R R)  (x0 : Int32) (x1 : Int32) (I : Nat → Nat → Int32) (J : Nat → Nat → Int64) (hp : pSt_caseOf x0 x1 I J) : pmC g kSt_caseOf d 0 0 [.ref 25, .int x0, .int x1] (pk_K ++ ex, R, I, J) (.returned (some (.int (fSt_caseOf x0 x1 I J)))) (pk_K ++ ex, R, I, J) :=
  pmC.of (by decide) (Nat.le_of_ble_eq_true rfl) (St_caseOf_n0 g d ex R hR _ _  x0 x1 I J hp rfl rfl)
def fSt_begin_41  : Nat → Int32 → (Nat → Nat → Int32) → (Nat → Nat → Int64) → (Nat → Nat → Int32)
  | 0, _, I, _ => I
  | n + 1, y1, I, J =>
  if (I 25 3) ≤ y1 then I
  else fSt_begin_41 n (y1 + Int32.ofInt 1) (pm_u I 26 y1.toNatClampNeg (y1 >>> ((I 3 8) &&& 31))) J
def pSt_begin_41  : Nat → Int32 → (Nat → Nat → Int32) → (Nat → Nat → Int64) → Prop
  | 0, _, _, _ => False
  | n + 1, y1, I, J =>
  ((I 25 3) ≤ y1 → True) ∧
  (¬ ((I 25 3) ≤ y1) → (vp_in y1 2048) ∧ (pSt_begin_41 n (y1 + Int32.ofInt 1) (pm_u I 26 y1.toNatClampNeg (y1 >>> ((I 3 8) &&& 31))) J))
def fSt_begin (n41 : Nat) (I : Nat → Nat → Int32) (J : Nat → Nat → Int64) : (Nat → Nat → Int32) :=
  fSt_begin_41 n41 (0 : Int32) (pm_u (pm_u (pm_u I 25 1 ((1 : Int32) <<< ((I 3 7) &&& 31))) 25 2 ((1 : Int32) <<< ((I 3 8) &&& 31))) 25 3 (((1 : Int32) <<< ((I 3 7) &&& 31)) * ((1 : Int32) <<< ((I 3 8) &&& 31)))) J
def pSt_begin (n41 : Nat) (I : Nat → Nat → Int32) (J : Nat → Nat → Int64) : Prop :=
  pSt_begin_41 n41 (0 : Int32) (pm_u (pm_u (pm_u I 25 1 ((1 : Int32) <<< ((I 3 7) &&& 31))) 25 2 ((1 : Int32) <<< ((I 3 8) &&& 31))) 25 3 (((1 : Int32) <<< ((I 3 7) &&& 31)) * ((1 : Int32) <<< ((I 3 8) &&& 31)))) J
set_option maxHeartbeats 4000000 in
set_option maxRecDepth 100000 in
theorem St_begin_n41 (g : pmG) (d : Nat) (ex : List (Nat × Nat)) (R : Nat → Nat → Value) (hR : pk_R R) (o : Outcome) (Z : pmM)  : ∀ (n : Nat) (y1 : Int32) (I : Nat → Nat → Int32) (J : Nat → Nat → Int64), pSt_begin_41 n y1 I J → o = .returned none → Z = (pk_K ++ ex, R, (fSt_begin_41 n y1 I J), J) → pmE g kSt_begin d 0 0 41 [(0, .ref 25), (1, .int y1)] [] (pk_K ++ ex) R I J o Z := by
  intro n
  induction n with
  | zero => intro y1 I J hp; exact False.elim hp
  | succ n ih =>
  intro y1 I J hp ho hz
  simp only [pSt_begin_41] at hp
  refine pm_iload_n dSt_begin_41 rfl ?_
  refine pm_aload_n dSt_begin_42 rfl ?_
  refine pm_geti dSt_begin_43 fSt_52 rfl ?_
  refine pm_icmp_ge 70 dSt_begin_46 (by decide) (fun h46 => ?_) (fun h46 => ?_)
  ·
    exact pm_vret dSt_begin_70 rfl ho (hz.trans (by first | (simp only [fSt_begin_41, if_pos h46]; done) | (simp only [fSt_begin_41, if_pos h46]; rfl) | rfl))
  ·
    refine pm_aload_n dSt_begin_49 rfl ?_
    refine pm_getr dSt_begin_50 fSt_9 rfl (rr_25_4 hR) ?_
    refine pm_iload_n dSt_begin_53 rfl ?_
    refine pm_iload_n dSt_begin_54 rfl ?_
    refine pm_aload_n dSt_begin_55 rfl ?_
    refine pm_getr dSt_begin_56 fSt_33 rfl (rr_25_0 hR) ?_
    refine pm_geti dSt_begin_59 fSt_46 rfl ?_
    refine pm_ishr dSt_begin_62 ?_
    refine pm_iast dSt_begin_63 rfl (hp.2 h46).1 ?_
    refine pm_iinc dSt_begin_64 rfl (by decide) rfl ?_
    refine pm_goto 41 dSt_begin_67 (by decide) ?_
    refine pm_wk [1, 0] rfl ?_
    exact ih _ _ _ (hp.2 h46).2 ho (hz.trans (by first | (simp only [fSt_begin_41, if_neg h46]; done) | (simp only [fSt_begin_41, if_neg h46]; rfl) | rfl))
set_option maxHeartbeats 4000000 in
set_option maxRecDepth 100000 in
theorem St_begin_n0 (g : pmG) (d : Nat) (ex : List (Nat × Nat)) (R : Nat → Nat → Value) (hR : pk_R R) (o : Outcome) (Z : pmM) (n41 : Nat) (I : Nat → Nat → Int32) (J : Nat → Nat → Int64) (hp : pSt_begin n41 I J) (ho : o = .returned none) (hz : Z = (pk_K ++ ex, R, (fSt_begin n41 I J), J)) : pmE g kSt_begin d 0 0 0 [(0, .ref 25)] [] (pk_K ++ ex) R I J o Z := by
  unfold pSt_begin at hp
  refine pm_aload_n dSt_begin_0 rfl ?_
  refine pm_iconst (v := 1) dSt_begin_1 (by decide) ?_
  refine pm_aload_n dSt_begin_2 rfl ?_
  refine pm_getr dSt_begin_3 fSt_33 rfl (rr_25_0 hR) ?_
  refine pm_geti dSt_begin_6 fSt_37 rfl ?_
  refine pm_ishl dSt_begin_9 ?_
  refine pm_puti dSt_begin_10 fSt_43 sSt_43 (fun h => by cases h) rfl rfl rfl ?_
  refine pm_aload_n dSt_begin_13 rfl ?_
  refine pm_iconst (v := 1) dSt_begin_14 (by decide) ?_
  refine pm_aload_n dSt_begin_15 rfl ?_
  refine pm_getr dSt_begin_16 fSt_33 rfl (rr_25_0 hR) ?_
  refine pm_geti dSt_begin_19 fSt_46 rfl ?_
  refine pm_eqi (I 3 8) rfl ?_
  refine pm_ishl dSt_begin_22 ?_
  refine pm_puti dSt_begin_23 fSt_49 sSt_49 (fun h => by cases h) rfl rfl rfl ?_
  refine pm_aload_n dSt_begin_26 rfl ?_
  refine pm_aload_n dSt_begin_27 rfl ?_
  refine pm_geti dSt_begin_28 fSt_43 rfl ?_
  refine pm_eqi ((1 : Int32) <<< ((I 3 7) &&& 31)) rfl ?_
  refine pm_aload_n dSt_begin_31 rfl ?_
  refine pm_geti dSt_begin_32 fSt_49 rfl ?_
  refine pm_eqi ((1 : Int32) <<< ((I 3 8) &&& 31)) rfl ?_
  refine pm_imul dSt_begin_35 ?_
  refine pm_puti dSt_begin_36 fSt_52 sSt_52 (fun h => by cases h) rfl rfl rfl ?_
  refine pm_iconst (v := 0) dSt_begin_39 (by decide) ?_
  refine pm_istore_n dSt_begin_40 (by decide) rfl ?_
  refine pm_wk [1, 0] rfl ?_
  exact St_begin_n41 g d ex R hR _ _  n41 _ _ _ hp ho (hz.trans (by first | rfl | (simp only [fSt_begin]; done) | (simp only [fSt_begin]; rfl)))
set_option maxHeartbeats 4000000 in
set_option maxRecDepth 100000 in
theorem St_begin_ok (g : pmG) (d : Nat) (ex : List (Nat × Nat)) (R : Nat → Nat → Value) (hR : pk_R R) (n41 : Nat)  (I : Nat → Nat → Int32) (J : Nat → Nat → Int64) (hp : pSt_begin n41 I J) : pmC g kSt_begin d 0 0 [.ref 25] (pk_K ++ ex, R, I, J) (.returned none) (pk_K ++ ex, R, (fSt_begin n41 I J), J) :=
  pmC.of (by decide) (Nat.le_of_ble_eq_true rfl) (St_begin_n0 g d ex R hR _ _ n41  I J hp rfl rfl)
def fSt_change_27  : Nat → Int32 → Int32 → Int32 → Int32 → (Nat → Nat → Int32) → (Nat → Nat → Int64) → (Nat → Nat → Int32)
  | 0, _, _, _, _, I, _ => I
  | n + 1, y1, y3, y4, y5, I, J =>
  if (I 25 3) ≤ y5 then (fVa_drop I J)
  else fSt_change_27 n y1 y3 y4 (y5 + Int32.ofInt 1) (pm_u I 26 y5.toNatClampNeg (((I 26 y5.toNatClampNeg) &&& ((y4 <<< (y3 &&& 31)) ^^^ (-1 : Int32))) ||| ((((fVa_ofLast y5 I J)) &&& y4) <<< (y3 &&& 31)))) J
def pSt_change_27  : Nat → Int32 → Int32 → Int32 → Int32 → (Nat → Nat → Int32) → (Nat → Nat → Int64) → Prop
  | 0, _, _, _, _, _, _ => False
  | n + 1, y1, y3, y4, y5, I, J =>
  ((I 25 3) ≤ y5 → (pVa_drop I J) ∧ True) ∧
  (¬ ((I 25 3) ≤ y5) → (vp_in y5 2048) ∧ ((pVa_ofLast y5 I J) ∧ ((vp_in y5 2048) ∧ (pSt_change_27 n y1 y3 y4 (y5 + Int32.ofInt 1) (pm_u I 26 y5.toNatClampNeg (((I 26 y5.toNatClampNeg) &&& ((y4 <<< (y3 &&& 31)) ^^^ (-1 : Int32))) ||| ((((fVa_ofLast y5 I J)) &&& y4) <<< (y3 &&& 31)))) J))))
def fSt_change (n27 : Nat) (y1 : Int32) (I : Nat → Nat → Int32) (J : Nat → Nat → Int64) : (Nat → Nat → Int32) :=
  fSt_change_27 n27 y1 ((fCi_bitsBehindReg y1 I J)) (((1 : Int32) <<< ((I 5 y1.toNatClampNeg) &&& 31)) - (1 : Int32)) (0 : Int32) I J
def pSt_change (n27 : Nat) (y1 : Int32) (I : Nat → Nat → Int32) (J : Nat → Nat → Int64) : Prop :=
  (pCi_bitsBehindReg y1 I J) ∧ ((vp_in y1 60) ∧ (pSt_change_27 n27 y1 ((fCi_bitsBehindReg y1 I J)) (((1 : Int32) <<< ((I 5 y1.toNatClampNeg) &&& 31)) - (1 : Int32)) (0 : Int32) I J))
set_option maxHeartbeats 4000000 in
set_option maxRecDepth 100000 in
theorem St_change_n27 (g : pmG) (d : Nat) (ex : List (Nat × Nat)) (R : Nat → Nat → Value) (hR : pk_R R) (o : Outcome) (Z : pmM)  : ∀ (n : Nat) (y1 : Int32) (y3 : Int32) (y4 : Int32) (y5 : Int32) (I : Nat → Nat → Int32) (J : Nat → Nat → Int64), pSt_change_27 n y1 y3 y4 y5 I J → o = .returned none → Z = (pk_K ++ ex, R, (fSt_change_27 n y1 y3 y4 y5 I J), J) → pmE g kSt_change (d + 2) 0 0 27 [(0, .ref 25), (1, .int y1), (2, .ref 22), (3, .int y3), (4, .int y4), (5, .int y5)] [] (pk_K ++ ex) R I J o Z := by
  intro n
  induction n with
  | zero => intro y1 y3 y4 y5 I J hp; exact False.elim hp
  | succ n ih =>
  intro y1 y3 y4 y5 I J hp ho hz
  simp only [pSt_change_27] at hp
  refine pm_iload dSt_change_27 rfl ?_
  refine pm_aload_n dSt_change_29 rfl ?_
  refine pm_geti dSt_change_30 fSt_52 rfl ?_
  refine pm_icmp_ge 75 dSt_change_33 (by decide) (fun h33 => ?_) (fun h33 => ?_)
  ·
    refine pm_aload_n dSt_change_75 rfl ?_
    refine pm_callV dSt_change_76 lSt_67 vVa_drop ⟨_, _, rfl⟩ (Va_drop_ok _ _ _ _ hR  _ _ (hp.1 h33).1) rfl rfl rfl (Nat.le_of_ble_eq_true rfl) (Nat.le_refl _) (Nat.le_refl _) ?_
    exact pm_vret dSt_change_79 rfl ho (hz.trans (by first | (simp only [fSt_change_27, if_pos h33]; done) | (simp only [fSt_change_27, if_pos h33]; rfl) | rfl))
  ·
    refine pm_aload_n dSt_change_36 rfl ?_
    refine pm_getr dSt_change_37 fSt_9 rfl (rr_25_4 hR) ?_
    refine pm_iload dSt_change_40 rfl ?_
    refine pm_aload_n dSt_change_42 rfl ?_
    refine pm_getr dSt_change_43 fSt_9 rfl (rr_25_4 hR) ?_
    refine pm_iload dSt_change_46 rfl ?_
    refine pm_iald dSt_change_48 rfl (hp.2 h33).1 ?_
    refine pm_iload dSt_change_49 rfl ?_
    refine pm_iload_n dSt_change_51 rfl ?_
    refine pm_ishl dSt_change_52 ?_
    refine pm_iconst (v := (-1)) dSt_change_53 (by decide) ?_
    refine pm_ixor dSt_change_54 ?_
    refine pm_iand dSt_change_55 ?_
    refine pm_aload_n dSt_change_56 rfl ?_
    refine pm_iload dSt_change_57 rfl ?_
    refine pm_callV dSt_change_59 lSt_62 vVa_ofLast ⟨_, _, rfl⟩ (Va_ofLast_ok _ _ _ _ hR _ _ _ (hp.2 h33).2.1) rfl rfl rfl (Nat.le_of_ble_eq_true rfl) (Nat.le_refl _) (Nat.le_refl _) ?_
    refine pm_iload dSt_change_62 rfl ?_
    refine pm_iand dSt_change_64 ?_
    refine pm_iload_n dSt_change_65 rfl ?_
    refine pm_ishl dSt_change_66 ?_
    refine pm_ior dSt_change_67 ?_
    refine pm_iast dSt_change_68 rfl (hp.2 h33).2.2.1 ?_
    refine pm_iinc dSt_change_69 rfl (by decide) rfl ?_
    refine pm_goto 27 dSt_change_72 (by decide) ?_
    refine pm_wk [1, 2, 3, 4, 5, 0] rfl ?_
    exact ih _ _ _ _ _ _ (hp.2 h33).2.2.2 ho (hz.trans (by first | (simp only [fSt_change_27, if_neg h33]; done) | (simp only [fSt_change_27, if_neg h33]; rfl) | rfl))
set_option maxHeartbeats 4000000 in
set_option maxRecDepth 100000 in
theorem St_change_n0 (g : pmG) (d : Nat) (ex : List (Nat × Nat)) (R : Nat → Nat → Value) (hR : pk_R R) (o : Outcome) (Z : pmM) (n27 : Nat) (y1 : Int32) (I : Nat → Nat → Int32) (J : Nat → Nat → Int64) (hp : pSt_change n27 y1 I J) (ho : o = .returned none) (hz : Z = (pk_K ++ ex, R, (fSt_change n27 y1 I J), J)) : pmE g kSt_change (d + 2) 0 0 0 [(0, .ref 25), (1, .int y1), (2, .ref 22)] [] (pk_K ++ ex) R I J o Z := by
  unfold pSt_change at hp
  refine pm_aload_n dSt_change_0 rfl ?_
  refine pm_getr dSt_change_1 fSt_33 rfl (rr_25_0 hR) ?_
  refine pm_iload_n dSt_change_4 rfl ?_
  refine pm_callV dSt_change_5 lSt_55 vCi_bitsBehindReg ⟨_, _, rfl⟩ (Ci_bitsBehindReg_ok _ _ _ _ hR _ _ _ hp.1) rfl rfl rfl (Nat.le_of_ble_eq_true rfl) (Nat.le_refl _) (Nat.le_refl _) ?_
  refine pm_istore_n dSt_change_8 (by decide) rfl ?_
  refine pm_iconst (v := 1) dSt_change_9 (by decide) ?_
  refine pm_aload_n dSt_change_10 rfl ?_
  refine pm_getr dSt_change_11 fSt_33 rfl (rr_25_0 hR) ?_
  refine pm_getr dSt_change_14 fSt_59 rfl (rr_3_1 hR) ?_
  refine pm_iload_n dSt_change_17 rfl ?_
  refine pm_iald dSt_change_18 rfl hp.2.1 ?_
  refine pm_ishl dSt_change_19 ?_
  refine pm_iconst (v := 1) dSt_change_20 (by decide) ?_
  refine pm_isub dSt_change_21 ?_
  refine pm_istore dSt_change_22 (by decide) rfl ?_
  refine pm_iconst (v := 0) dSt_change_24 (by decide) ?_
  refine pm_istore dSt_change_25 (by decide) rfl ?_
  refine pm_wk [3, 4, 5, 2, 1, 0] rfl ?_
  exact St_change_n27 g d ex R hR _ _  n27 _ _ _ _ _ _ hp.2.2 ho (hz.trans (by first | rfl | (simp only [fSt_change]; done) | (simp only [fSt_change]; rfl)))
set_option maxHeartbeats 4000000 in
set_option maxRecDepth 100000 in
theorem St_change_ok (g : pmG) (d : Nat) (ex : List (Nat × Nat)) (R : Nat → Nat → Value) (hR : pk_R R) (n27 : Nat) (x0 : Int32) (I : Nat → Nat → Int32) (J : Nat → Nat → Int64) (hp : pSt_change n27 x0 I J) : pmC g kSt_change (d + 2) 0 0 [.ref 25, .int x0, .ref 22] (pk_K ++ ex, R, I, J) (.returned none) (pk_K ++ ex, R, (fSt_change n27 x0 I J), J) :=
  pmC.of (by decide) (Nat.le_of_ble_eq_true rfl) (St_change_n0 g d ex R hR _ _ n27 x0 I J hp rfl rfl)
def fSt_turnBack_74  : Nat → Int32 → (Nat → Nat → Int32) → (Nat → Nat → Int64) → (Nat → Nat → Int32)
  | 0, _, I, _ => I
  | n + 1, y1, I, J =>
  if (I 25 3) ≤ y1 then I
  else fSt_turnBack_74 n (y1 + Int32.ofInt 1) (pm_u (pm_u I 28 (I 26 y1.toNatClampNeg).toNatClampNeg ((I 28 (I 26 y1.toNatClampNeg).toNatClampNeg) - (1 : Int32))) 27 ((pm_u I 28 (I 26 y1.toNatClampNeg).toNatClampNeg ((I 28 (I 26 y1.toNatClampNeg).toNatClampNeg) - (1 : Int32))) 28 ((pm_u I 28 (I 26 y1.toNatClampNeg).toNatClampNeg ((I 28 (I 26 y1.toNatClampNeg).toNatClampNeg) - (1 : Int32))) 26 y1.toNatClampNeg).toNatClampNeg).toNatClampNeg (y1 >>> ((I 3 8) &&& 31))) J
def pSt_turnBack_74  : Nat → Int32 → (Nat → Nat → Int32) → (Nat → Nat → Int64) → Prop
  | 0, _, _, _ => False
  | n + 1, y1, I, J =>
  ((I 25 3) ≤ y1 → True) ∧
  (¬ ((I 25 3) ≤ y1) → (vp_in y1 2048) ∧ ((vp_in (I 26 y1.toNatClampNeg) 257) ∧ ((vp_in (I 26 y1.toNatClampNeg) 257) ∧ ((vp_in y1 2048) ∧ ((vp_in ((pm_u I 28 (I 26 y1.toNatClampNeg).toNatClampNeg ((I 28 (I 26 y1.toNatClampNeg).toNatClampNeg) - (1 : Int32))) 26 y1.toNatClampNeg) 257) ∧ ((vp_in ((pm_u I 28 (I 26 y1.toNatClampNeg).toNatClampNeg ((I 28 (I 26 y1.toNatClampNeg).toNatClampNeg) - (1 : Int32))) 28 ((pm_u I 28 (I 26 y1.toNatClampNeg).toNatClampNeg ((I 28 (I 26 y1.toNatClampNeg).toNatClampNeg) - (1 : Int32))) 26 y1.toNatClampNeg).toNatClampNeg) 2048) ∧ (pSt_turnBack_74 n (y1 + Int32.ofInt 1) (pm_u (pm_u I 28 (I 26 y1.toNatClampNeg).toNatClampNeg ((I 28 (I 26 y1.toNatClampNeg).toNatClampNeg) - (1 : Int32))) 27 ((pm_u I 28 (I 26 y1.toNatClampNeg).toNatClampNeg ((I 28 (I 26 y1.toNatClampNeg).toNatClampNeg) - (1 : Int32))) 28 ((pm_u I 28 (I 26 y1.toNatClampNeg).toNatClampNeg ((I 28 (I 26 y1.toNatClampNeg).toNatClampNeg) - (1 : Int32))) 26 y1.toNatClampNeg).toNatClampNeg).toNatClampNeg (y1 >>> ((I 3 8) &&& 31))) J)))))))
def fSt_turnBack_41 (n74 : Nat) : Nat → Int32 → (Nat → Nat → Int32) → (Nat → Nat → Int64) → (Nat → Nat → Int32)
  | 0, _, I, _ => I
  | n + 1, y1, I, J =>
  if (I 25 1) < y1 then fSt_turnBack_74 n74 (0 : Int32) I J
  else fSt_turnBack_41 n74 n (y1 + Int32.ofInt 1) (pm_u I 28 y1.toNatClampNeg ((I 28 y1.toNatClampNeg) + (I 28 (y1 - (1 : Int32)).toNatClampNeg))) J
def pSt_turnBack_41 (n74 : Nat) : Nat → Int32 → (Nat → Nat → Int32) → (Nat → Nat → Int64) → Prop
  | 0, _, _, _ => False
  | n + 1, y1, I, J =>
  ((I 25 1) < y1 → pSt_turnBack_74 n74 (0 : Int32) I J) ∧
  (¬ ((I 25 1) < y1) → (vp_in y1 257) ∧ ((vp_in (y1 - (1 : Int32)) 257) ∧ ((vp_in y1 257) ∧ (pSt_turnBack_41 n74 n (y1 + Int32.ofInt 1) (pm_u I 28 y1.toNatClampNeg ((I 28 y1.toNatClampNeg) + (I 28 (y1 - (1 : Int32)).toNatClampNeg))) J))))
def fSt_turnBack_10 (n74 : Nat) (n41 : Nat) : Nat → Int32 → (Nat → Nat → Int32) → (Nat → Nat → Int64) → (Nat → Nat → Int32)
  | 0, _, I, _ => I
  | n + 1, y1, I, J =>
  if (I 25 3) ≤ y1 then fSt_turnBack_41 n74 n41 (1 : Int32) I J
  else fSt_turnBack_10 n74 n41 n (y1 + Int32.ofInt 1) (pm_u I 28 (I 26 y1.toNatClampNeg).toNatClampNeg ((I 28 (I 26 y1.toNatClampNeg).toNatClampNeg) + (1 : Int32))) J
def pSt_turnBack_10 (n74 : Nat) (n41 : Nat) : Nat → Int32 → (Nat → Nat → Int32) → (Nat → Nat → Int64) → Prop
  | 0, _, _, _ => False
  | n + 1, y1, I, J =>
  ((I 25 3) ≤ y1 → pSt_turnBack_41 n74 n41 (1 : Int32) I J) ∧
  (¬ ((I 25 3) ≤ y1) → (vp_in y1 2048) ∧ ((vp_in (I 26 y1.toNatClampNeg) 257) ∧ ((vp_in (I 26 y1.toNatClampNeg) 257) ∧ (pSt_turnBack_10 n74 n41 n (y1 + Int32.ofInt 1) (pm_u I 28 (I 26 y1.toNatClampNeg).toNatClampNeg ((I 28 (I 26 y1.toNatClampNeg).toNatClampNeg) + (1 : Int32))) J))))
def fSt_turnBack_8 (n74 : Nat) (n41 : Nat) (n10 : Nat) (I : Nat → Nat → Int32) (J : Nat → Nat → Int64) : (Nat → Nat → Int32) :=
  fSt_turnBack_10 n74 n41 n10 (0 : Int32) I J
def pSt_turnBack_8 (n74 : Nat) (n41 : Nat) (n10 : Nat) (I : Nat → Nat → Int32) (J : Nat → Nat → Int64) : Prop :=
  pSt_turnBack_10 n74 n41 n10 (0 : Int32) I J
def fSt_turnBack (n74 : Nat) (n41 : Nat) (n10 : Nat) (I : Nat → Nat → Int32) (J : Nat → Nat → Int64) : (Nat → Nat → Int32) :=
  fSt_turnBack_8 n74 n41 n10 ((fAr_fill_28 300 (0 : Int32) I J)) J
def pSt_turnBack (n74 : Nat) (n41 : Nat) (n10 : Nat) (I : Nat → Nat → Int32) (J : Nat → Nat → Int64) : Prop :=
  (pAr_fill_28 300 (0 : Int32) I J) ∧ (pSt_turnBack_8 n74 n41 n10 ((fAr_fill_28 300 (0 : Int32) I J)) J)
set_option maxHeartbeats 4000000 in
set_option maxRecDepth 100000 in
theorem St_turnBack_n74 (g : pmG) (d : Nat) (ex : List (Nat × Nat)) (R : Nat → Nat → Value) (hR : pk_R R) (o : Outcome) (Z : pmM)  : ∀ (n : Nat) (y1 : Int32) (I : Nat → Nat → Int32) (J : Nat → Nat → Int64), pSt_turnBack_74 n y1 I J → o = .returned none → Z = (pk_K ++ ex, R, (fSt_turnBack_74 n y1 I J), J) → pmE g kSt_turnBack (d + 1) 0 0 74 [(0, .ref 25), (1, .int y1)] [] (pk_K ++ ex) R I J o Z := by
  intro n
  induction n with
  | zero => intro y1 I J hp; exact False.elim hp
  | succ n ih =>
  intro y1 I J hp ho hz
  simp only [pSt_turnBack_74] at hp
  refine pm_iload_n dSt_turnBack_74 rfl ?_
  refine pm_aload_n dSt_turnBack_75 rfl ?_
  refine pm_geti dSt_turnBack_76 fSt_52 rfl ?_
  refine pm_icmp_ge 128 dSt_turnBack_79 (by decide) (fun h79 => ?_) (fun h79 => ?_)
  ·
    exact pm_vret dSt_turnBack_128 rfl ho (hz.trans (by first | (simp only [fSt_turnBack_74, if_pos h79]; done) | (simp only [fSt_turnBack_74, if_pos h79]; rfl) | rfl))
  ·
    refine pm_aload_n dSt_turnBack_82 rfl ?_
    refine pm_getr dSt_turnBack_83 fSt_18 rfl (rr_25_6 hR) ?_
    refine pm_aload_n dSt_turnBack_86 rfl ?_
    refine pm_getr dSt_turnBack_87 fSt_9 rfl (rr_25_4 hR) ?_
    refine pm_iload_n dSt_turnBack_90 rfl ?_
    refine pm_iald dSt_turnBack_91 rfl (hp.2 h79).1 ?_
    refine pm_dup2 dSt_turnBack_92 rfl rfl ?_
    refine pm_iald dSt_turnBack_93 rfl (hp.2 h79).2.1 ?_
    refine pm_iconst (v := 1) dSt_turnBack_94 (by decide) ?_
    refine pm_isub dSt_turnBack_95 ?_
    refine pm_iast dSt_turnBack_96 rfl (hp.2 h79).2.2.1 ?_
    refine pm_aload_n dSt_turnBack_97 rfl ?_
    refine pm_getr dSt_turnBack_98 fSt_15 rfl (rr_25_5 hR) ?_
    refine pm_aload_n dSt_turnBack_101 rfl ?_
    refine pm_getr dSt_turnBack_102 fSt_18 rfl (rr_25_6 hR) ?_
    refine pm_aload_n dSt_turnBack_105 rfl ?_
    refine pm_getr dSt_turnBack_106 fSt_9 rfl (rr_25_4 hR) ?_
    refine pm_iload_n dSt_turnBack_109 rfl ?_
    refine pm_iald dSt_turnBack_110 rfl (hp.2 h79).2.2.2.1 ?_
    refine pm_iald dSt_turnBack_111 rfl (hp.2 h79).2.2.2.2.1 ?_
    refine pm_iload_n dSt_turnBack_112 rfl ?_
    refine pm_aload_n dSt_turnBack_113 rfl ?_
    refine pm_getr dSt_turnBack_114 fSt_33 rfl (rr_25_0 hR) ?_
    refine pm_geti dSt_turnBack_117 fSt_46 rfl ?_
    refine pm_eqi (I 3 8) rfl ?_
    refine pm_ishr dSt_turnBack_120 ?_
    refine pm_iast dSt_turnBack_121 rfl (hp.2 h79).2.2.2.2.2.1 ?_
    refine pm_iinc dSt_turnBack_122 rfl (by decide) rfl ?_
    refine pm_goto 74 dSt_turnBack_125 (by decide) ?_
    refine pm_wk [1, 0] rfl ?_
    exact ih _ _ _ (hp.2 h79).2.2.2.2.2.2 ho (hz.trans (by first | (simp only [fSt_turnBack_74, if_neg h79]; done) | (simp only [fSt_turnBack_74, if_neg h79]; rfl) | rfl))
set_option maxHeartbeats 4000000 in
set_option maxRecDepth 100000 in
theorem St_turnBack_n41 (g : pmG) (d : Nat) (ex : List (Nat × Nat)) (R : Nat → Nat → Value) (hR : pk_R R) (o : Outcome) (Z : pmM) (n74 : Nat) : ∀ (n : Nat) (y1 : Int32) (I : Nat → Nat → Int32) (J : Nat → Nat → Int64), pSt_turnBack_41 n74 n y1 I J → o = .returned none → Z = (pk_K ++ ex, R, (fSt_turnBack_41 n74 n y1 I J), J) → pmE g kSt_turnBack (d + 1) 0 0 41 [(0, .ref 25), (1, .int y1)] [] (pk_K ++ ex) R I J o Z := by
  intro n
  induction n with
  | zero => intro y1 I J hp; exact False.elim hp
  | succ n ih =>
  intro y1 I J hp ho hz
  simp only [pSt_turnBack_41] at hp
  refine pm_iload_n dSt_turnBack_41 rfl ?_
  refine pm_aload_n dSt_turnBack_42 rfl ?_
  refine pm_geti dSt_turnBack_43 fSt_43 rfl ?_
  refine pm_icmp_gt 72 dSt_turnBack_46 (by decide) (fun h46 => ?_) (fun h46 => ?_)
  ·
    refine pm_iconst (v := 0) dSt_turnBack_72 (by decide) ?_
    refine pm_istore_n dSt_turnBack_73 (by decide) rfl ?_
    refine pm_wk [1, 0] rfl ?_
    exact St_turnBack_n74 g d ex R hR _ _  n74 _ _ _ (hp.1 h46) ho (hz.trans (by first | (simp only [fSt_turnBack_41, if_pos h46]; done) | (simp only [fSt_turnBack_41, if_pos h46]; rfl) | rfl))
  ·
    refine pm_aload_n dSt_turnBack_49 rfl ?_
    refine pm_getr dSt_turnBack_50 fSt_18 rfl (rr_25_6 hR) ?_
    refine pm_iload_n dSt_turnBack_53 rfl ?_
    refine pm_dup2 dSt_turnBack_54 rfl rfl ?_
    refine pm_iald dSt_turnBack_55 rfl (hp.2 h46).1 ?_
    refine pm_aload_n dSt_turnBack_56 rfl ?_
    refine pm_getr dSt_turnBack_57 fSt_18 rfl (rr_25_6 hR) ?_
    refine pm_iload_n dSt_turnBack_60 rfl ?_
    refine pm_iconst (v := 1) dSt_turnBack_61 (by decide) ?_
    refine pm_isub dSt_turnBack_62 ?_
    refine pm_iald dSt_turnBack_63 rfl (hp.2 h46).2.1 ?_
    refine pm_iadd dSt_turnBack_64 ?_
    refine pm_iast dSt_turnBack_65 rfl (hp.2 h46).2.2.1 ?_
    refine pm_iinc dSt_turnBack_66 rfl (by decide) rfl ?_
    refine pm_goto 41 dSt_turnBack_69 (by decide) ?_
    refine pm_wk [1, 0] rfl ?_
    exact ih _ _ _ (hp.2 h46).2.2.2 ho (hz.trans (by first | (simp only [fSt_turnBack_41, if_neg h46]; done) | (simp only [fSt_turnBack_41, if_neg h46]; rfl) | rfl))
set_option maxHeartbeats 4000000 in
set_option maxRecDepth 100000 in
theorem St_turnBack_n10 (g : pmG) (d : Nat) (ex : List (Nat × Nat)) (R : Nat → Nat → Value) (hR : pk_R R) (o : Outcome) (Z : pmM) (n74 : Nat) (n41 : Nat) : ∀ (n : Nat) (y1 : Int32) (I : Nat → Nat → Int32) (J : Nat → Nat → Int64), pSt_turnBack_10 n74 n41 n y1 I J → o = .returned none → Z = (pk_K ++ ex, R, (fSt_turnBack_10 n74 n41 n y1 I J), J) → pmE g kSt_turnBack (d + 1) 0 0 10 [(0, .ref 25), (1, .int y1)] [] (pk_K ++ ex) R I J o Z := by
  intro n
  induction n with
  | zero => intro y1 I J hp; exact False.elim hp
  | succ n ih =>
  intro y1 I J hp ho hz
  simp only [pSt_turnBack_10] at hp
  refine pm_iload_n dSt_turnBack_10 rfl ?_
  refine pm_aload_n dSt_turnBack_11 rfl ?_
  refine pm_geti dSt_turnBack_12 fSt_52 rfl ?_
  refine pm_icmp_ge 39 dSt_turnBack_15 (by decide) (fun h15 => ?_) (fun h15 => ?_)
  ·
    refine pm_iconst (v := 1) dSt_turnBack_39 (by decide) ?_
    refine pm_istore_n dSt_turnBack_40 (by decide) rfl ?_
    refine pm_wk [1, 0] rfl ?_
    exact St_turnBack_n41 g d ex R hR _ _  n74 n41 _ _ _ (hp.1 h15) ho (hz.trans (by first | (simp only [fSt_turnBack_10, if_pos h15]; done) | (simp only [fSt_turnBack_10, if_pos h15]; rfl) | rfl))
  ·
    refine pm_aload_n dSt_turnBack_18 rfl ?_
    refine pm_getr dSt_turnBack_19 fSt_18 rfl (rr_25_6 hR) ?_
    refine pm_aload_n dSt_turnBack_22 rfl ?_
    refine pm_getr dSt_turnBack_23 fSt_9 rfl (rr_25_4 hR) ?_
    refine pm_iload_n dSt_turnBack_26 rfl ?_
    refine pm_iald dSt_turnBack_27 rfl (hp.2 h15).1 ?_
    refine pm_dup2 dSt_turnBack_28 rfl rfl ?_
    refine pm_iald dSt_turnBack_29 rfl (hp.2 h15).2.1 ?_
    refine pm_iconst (v := 1) dSt_turnBack_30 (by decide) ?_
    refine pm_iadd dSt_turnBack_31 ?_
    refine pm_iast dSt_turnBack_32 rfl (hp.2 h15).2.2.1 ?_
    refine pm_iinc dSt_turnBack_33 rfl (by decide) rfl ?_
    refine pm_goto 10 dSt_turnBack_36 (by decide) ?_
    refine pm_wk [1, 0] rfl ?_
    exact ih _ _ _ (hp.2 h15).2.2.2 ho (hz.trans (by first | (simp only [fSt_turnBack_10, if_neg h15]; done) | (simp only [fSt_turnBack_10, if_neg h15]; rfl) | rfl))
set_option maxHeartbeats 4000000 in
set_option maxRecDepth 100000 in
theorem St_turnBack_n8 (g : pmG) (d : Nat) (ex : List (Nat × Nat)) (R : Nat → Nat → Value) (hR : pk_R R) (o : Outcome) (Z : pmM) (n74 : Nat) (n41 : Nat) (n10 : Nat) (I : Nat → Nat → Int32) (J : Nat → Nat → Int64) (hp : pSt_turnBack_8 n74 n41 n10 I J) (ho : o = .returned none) (hz : Z = (pk_K ++ ex, R, (fSt_turnBack_8 n74 n41 n10 I J), J)) : pmE g kSt_turnBack (d + 1) 0 0 8 [(0, .ref 25)] [] (pk_K ++ ex) R I J o Z := by
  unfold pSt_turnBack_8 at hp
  refine pm_iconst (v := 0) dSt_turnBack_8 (by decide) ?_
  refine pm_istore_n dSt_turnBack_9 (by decide) rfl ?_
  refine pm_wk [1, 0] rfl ?_
  exact St_turnBack_n10 g d ex R hR _ _  n74 n41 n10 _ _ _ hp ho (hz.trans (by first | rfl | (simp only [fSt_turnBack_8]; done) | (simp only [fSt_turnBack_8]; rfl)))
set_option maxHeartbeats 4000000 in
set_option maxRecDepth 100000 in
theorem St_turnBack_n0 (g : pmG) (d : Nat) (ex : List (Nat × Nat)) (R : Nat → Nat → Value) (hR : pk_R R) (o : Outcome) (Z : pmM) (n74 : Nat) (n41 : Nat) (n10 : Nat) (I : Nat → Nat → Int32) (J : Nat → Nat → Int64) (hp : pSt_turnBack n74 n41 n10 I J) (ho : o = .returned none) (hz : Z = (pk_K ++ ex, R, (fSt_turnBack n74 n41 n10 I J), J)) : pmE g kSt_turnBack (d + 1) 0 0 0 [(0, .ref 25)] [] (pk_K ++ ex) R I J o Z := by
  unfold pSt_turnBack at hp
  refine pm_aload_n dSt_turnBack_0 rfl ?_
  refine pm_getr dSt_turnBack_1 fSt_18 rfl (rr_25_6 hR) ?_
  refine pm_iconst (v := 0) dSt_turnBack_4 (by decide) ?_
  refine pm_callS dSt_turnBack_5 lSt_76 tAr_fill (Ar_fill_28_ok _ _ _ _ hR _ _ _ _ hp.1) rfl rfl (Nat.le_of_ble_eq_true rfl) (Nat.le_refl _) (Nat.le_refl _) ?_
  refine pm_wk [0] rfl ?_
  exact St_turnBack_n8 g d ex R hR _ _  n74 n41 n10 _ _ hp.2 ho (hz.trans (by first | rfl | (simp only [fSt_turnBack]; done) | (simp only [fSt_turnBack]; rfl)))
set_option maxHeartbeats 4000000 in
set_option maxRecDepth 100000 in
theorem St_turnBack_ok (g : pmG) (d : Nat) (ex : List (Nat × Nat)) (R : Nat → Nat → Value) (hR : pk_R R) (n74 : Nat) (n41 : Nat) (n10 : Nat)  (I : Nat → Nat → Int32) (J : Nat → Nat → Int64) (hp : pSt_turnBack n74 n41 n10 I J) : pmC g kSt_turnBack (d + 1) 0 0 [.ref 25] (pk_K ++ ex, R, I, J) (.returned none) (pk_K ++ ex, R, (fSt_turnBack n74 n41 n10 I J), J) :=
  pmC.of (by decide) (Nat.le_of_ble_eq_true rfl) (St_turnBack_n0 g d ex R hR _ _ n74 n41 n10  I J hp rfl rfl)
def fSt_meet  (y1 : Int32) (y2 : Int32) (I : Nat → Nat → Int32) (J : Nat → Nat → Int64) : (Nat → Nat → Int32) :=
  if 0 ≤ (I 30 (I 26 ((fSt_caseOf y1 y2 I J)).toNatClampNeg).toNatClampNeg) then I
  else if (256 : Int32) ≤ (I 25 8) then I
    else pm_u (pm_u (pm_u (pm_u (pm_u I 30 (I 26 ((fSt_caseOf y1 y2 I J)).toNatClampNeg).toNatClampNeg ((I 30 y1.toNatClampNeg) + (1 : Int32))) 31 (I 26 ((fSt_caseOf y1 y2 I J)).toNatClampNeg).toNatClampNeg y1) 32 (I 26 ((fSt_caseOf y1 y2 I J)).toNatClampNeg).toNatClampNeg y2) 29 (I 25 8).toNatClampNeg (I 26 ((fSt_caseOf y1 y2 I J)).toNatClampNeg)) 25 8 ((I 25 8) + (1 : Int32))
def pSt_meet  (y1 : Int32) (y2 : Int32) (I : Nat → Nat → Int32) (J : Nat → Nat → Int64) : Prop :=
  (pSt_caseOf y1 y2 I J) ∧ ((vp_in ((fSt_caseOf y1 y2 I J)) 2048) ∧ ((vp_in (I 26 ((fSt_caseOf y1 y2 I J)).toNatClampNeg) 256) ∧ ((0 ≤ (I 30 (I 26 ((fSt_caseOf y1 y2 I J)).toNatClampNeg).toNatClampNeg) → True) ∧
  (¬ (0 ≤ (I 30 (I 26 ((fSt_caseOf y1 y2 I J)).toNatClampNeg).toNatClampNeg)) → ((256 : Int32) ≤ (I 25 8) → True) ∧
    (¬ ((256 : Int32) ≤ (I 25 8)) → (vp_in y1 256) ∧ ((vp_in (I 26 ((fSt_caseOf y1 y2 I J)).toNatClampNeg) 256) ∧ ((vp_in (I 26 ((fSt_caseOf y1 y2 I J)).toNatClampNeg) 256) ∧ ((vp_in (I 26 ((fSt_caseOf y1 y2 I J)).toNatClampNeg) 256) ∧ ((vp_in (I 25 8) 256) ∧ True)))))))))
set_option maxHeartbeats 4000000 in
set_option maxRecDepth 100000 in
theorem St_meet_n0 (g : pmG) (d : Nat) (ex : List (Nat × Nat)) (R : Nat → Nat → Value) (hR : pk_R R) (o : Outcome) (Z : pmM)  (y1 : Int32) (y2 : Int32) (I : Nat → Nat → Int32) (J : Nat → Nat → Int64) (hp : pSt_meet y1 y2 I J) (ho : o = .returned none) (hz : Z = (pk_K ++ ex, R, (fSt_meet y1 y2 I J), J)) : pmE g kSt_meet (d + 1) 0 0 0 [(0, .ref 25), (1, .int y1), (2, .int y2)] [] (pk_K ++ ex) R I J o Z := by
  unfold pSt_meet at hp
  refine pm_aload_n dSt_meet_0 rfl ?_
  refine pm_getr dSt_meet_1 fSt_9 rfl (rr_25_4 hR) ?_
  refine pm_aload_n dSt_meet_4 rfl ?_
  refine pm_iload_n dSt_meet_5 rfl ?_
  refine pm_iload_n dSt_meet_6 rfl ?_
  refine pm_callV dSt_meet_7 lSt_92 vSt_caseOf ⟨_, _, rfl⟩ (St_caseOf_ok _ _ _ _ hR _ _ _ _ hp.1) rfl rfl rfl (Nat.le_of_ble_eq_true rfl) (Nat.le_refl _) (Nat.le_refl _) ?_
  refine pm_iald dSt_meet_10 rfl hp.2.1 ?_
  refine pm_istore_n dSt_meet_11 (by decide) rfl ?_
  refine pm_aload_n dSt_meet_12 rfl ?_
  refine pm_getr dSt_meet_13 fSt_24 rfl (rr_25_9 hR) ?_
  refine pm_iload_n dSt_meet_16 rfl ?_
  refine pm_iald dSt_meet_17 rfl hp.2.2.1 ?_
  refine pm_if_ge 79 dSt_meet_18 (by decide) (fun h18 => ?_) (fun h18 => ?_)
  ·
    exact pm_vret dSt_meet_79 rfl ho (hz.trans (by first | (simp only [fSt_meet, if_pos h18]; done) | (simp only [fSt_meet, if_pos h18]; rfl) | rfl))
  ·
    refine pm_aload_n dSt_meet_21 rfl ?_
    refine pm_geti dSt_meet_22 fSt_85 rfl ?_
    refine pm_sipush (v := 256) dSt_meet_25 (by decide) ?_
    refine pm_icmp_ge 79 dSt_meet_28 (by decide) (fun h28 => ?_) (fun h28 => ?_)
    ·
      exact pm_vret dSt_meet_79 rfl ho (hz.trans (by first | (simp only [fSt_meet, if_neg h18, if_pos h28]; done) | (simp only [fSt_meet, if_neg h18, if_pos h28]; rfl) | rfl))
    ·
      refine pm_aload_n dSt_meet_31 rfl ?_
      refine pm_getr dSt_meet_32 fSt_24 rfl (rr_25_9 hR) ?_
      refine pm_iload_n dSt_meet_35 rfl ?_
      refine pm_aload_n dSt_meet_36 rfl ?_
      refine pm_getr dSt_meet_37 fSt_24 rfl (rr_25_9 hR) ?_
      refine pm_iload_n dSt_meet_40 rfl ?_
      refine pm_iald dSt_meet_41 rfl ((hp.2.2.2.2 h18).2 h28).1 ?_
      refine pm_iconst (v := 1) dSt_meet_42 (by decide) ?_
      refine pm_iadd dSt_meet_43 ?_
      refine pm_iast dSt_meet_44 rfl ((hp.2.2.2.2 h18).2 h28).2.1 ?_
      refine pm_aload_n dSt_meet_45 rfl ?_
      refine pm_getr dSt_meet_46 fSt_27 rfl (rr_25_10 hR) ?_
      refine pm_iload_n dSt_meet_49 rfl ?_
      refine pm_iload_n dSt_meet_50 rfl ?_
      refine pm_iast dSt_meet_51 rfl ((hp.2.2.2.2 h18).2 h28).2.2.1 ?_
      refine pm_aload_n dSt_meet_52 rfl ?_
      refine pm_getr dSt_meet_53 fSt_30 rfl (rr_25_11 hR) ?_
      refine pm_iload_n dSt_meet_56 rfl ?_
      refine pm_iload_n dSt_meet_57 rfl ?_
      refine pm_iast dSt_meet_58 rfl ((hp.2.2.2.2 h18).2 h28).2.2.2.1 ?_
      refine pm_aload_n dSt_meet_59 rfl ?_
      refine pm_getr dSt_meet_60 fSt_21 rfl (rr_25_7 hR) ?_
      refine pm_aload_n dSt_meet_63 rfl ?_
      refine pm_geti dSt_meet_64 fSt_85 rfl ?_
      refine pm_eqi (I 25 8) rfl ?_
      refine pm_iload_n dSt_meet_67 rfl ?_
      refine pm_iast dSt_meet_68 rfl ((hp.2.2.2.2 h18).2 h28).2.2.2.2.1 ?_
      refine pm_aload_n dSt_meet_69 rfl ?_
      refine pm_dup dSt_meet_70 rfl ?_
      refine pm_geti dSt_meet_71 fSt_85 rfl ?_
      refine pm_eqi (I 25 8) rfl ?_
      refine pm_iconst (v := 1) dSt_meet_74 (by decide) ?_
      refine pm_iadd dSt_meet_75 ?_
      refine pm_puti dSt_meet_76 fSt_85 sSt_85 (fun h => by cases h) rfl rfl rfl ?_
      exact pm_vret dSt_meet_79 rfl ho (hz.trans (by first | (simp only [fSt_meet, if_neg h18, if_neg h28]; done) | (simp only [fSt_meet, if_neg h18, if_neg h28]; rfl) | rfl))
set_option maxHeartbeats 4000000 in
set_option maxRecDepth 100000 in
theorem St_meet_ok (g : pmG) (d : Nat) (ex : List (Nat × Nat)) (R : Nat → Nat → Value) (hR : pk_R R)  (x0 : Int32) (x1 : Int32) (I : Nat → Nat → Int32) (J : Nat → Nat → Int64) (hp : pSt_meet x0 x1 I J) : pmC g kSt_meet (d + 1) 0 0 [.ref 25, .int x0, .int x1] (pk_K ++ ex, R, I, J) (.returned none) (pk_K ++ ex, R, (fSt_meet x0 x1 I J), J) :=
  pmC.of (by decide) (Nat.le_of_ble_eq_true rfl) (St_meet_n0 g d ex R hR _ _  x0 x1 I J hp rfl rfl)
def fSt_meetAll_78 (r41 : Int32 → (Nat → Nat → Int32) → (Nat → Nat → Int64) → (Nat → Nat → Int32)) (r59 : Int32 → Int32 → (Nat → Nat → Int32) → (Nat → Nat → Int64) → (Nat → Nat → Int32)) (y1 : Int32) (y2 : Int32) (I : Nat → Nat → Int32) (J : Nat → Nat → Int64) : (Nat → Nat → Int32) :=
  r59 y1 (y2 + Int32.ofInt 1) I J
def pSt_meetAll_78 (q41 : Int32 → (Nat → Nat → Int32) → (Nat → Nat → Int64) → Prop) (q59 : Int32 → Int32 → (Nat → Nat → Int32) → (Nat → Nat → Int64) → Prop) (y1 : Int32) (y2 : Int32) (I : Nat → Nat → Int32) (J : Nat → Nat → Int64) : Prop :=
  q59 y1 (y2 + Int32.ofInt 1) I J
def fSt_meetAll_59 (r41 : Int32 → (Nat → Nat → Int32) → (Nat → Nat → Int64) → (Nat → Nat → Int32)) : Nat → Int32 → Int32 → (Nat → Nat → Int32) → (Nat → Nat → Int64) → (Nat → Nat → Int32)
  | 0, _, _, I, _ => I
  | n + 1, y1, y2, I, J =>
  if (I 25 2) ≤ y2 then r41 (y1 + Int32.ofInt 1) I J
  else fSt_meetAll_78 r41 (fSt_meetAll_59 r41 n) y1 y2 ((fSt_meet (I 29 y1.toNatClampNeg) y2 I J)) J
def pSt_meetAll_59 (q41 : Int32 → (Nat → Nat → Int32) → (Nat → Nat → Int64) → Prop) : Nat → Int32 → Int32 → (Nat → Nat → Int32) → (Nat → Nat → Int64) → Prop
  | 0, _, _, _, _ => False
  | n + 1, y1, y2, I, J =>
  ((I 25 2) ≤ y2 → q41 (y1 + Int32.ofInt 1) I J) ∧
  (¬ ((I 25 2) ≤ y2) → (vp_in y1 256) ∧ ((pSt_meet (I 29 y1.toNatClampNeg) y2 I J) ∧ (pSt_meetAll_78 q41 (pSt_meetAll_59 q41 n) y1 y2 ((fSt_meet (I 29 y1.toNatClampNeg) y2 I J)) J)))
def fSt_meetAll_41 (n59 : Nat) : Nat → Int32 → (Nat → Nat → Int32) → (Nat → Nat → Int64) → (Nat → Nat → Int32)
  | 0, _, I, _ => I
  | n + 1, y1, I, J =>
  if (I 25 8) ≤ y1 then I
  else if (I 25 1) ≤ y1 then I
    else fSt_meetAll_59 (fSt_meetAll_41 n59 n) n59 y1 (0 : Int32) I J
def pSt_meetAll_41 (n59 : Nat) : Nat → Int32 → (Nat → Nat → Int32) → (Nat → Nat → Int64) → Prop
  | 0, _, _, _ => False
  | n + 1, y1, I, J =>
  ((I 25 8) ≤ y1 → True) ∧
  (¬ ((I 25 8) ≤ y1) → ((I 25 1) ≤ y1 → True) ∧
    (¬ ((I 25 1) ≤ y1) → pSt_meetAll_59 (pSt_meetAll_41 n59 n) n59 y1 (0 : Int32) I J))
def fSt_meetAll_8 (n59 : Nat) (n41 : Nat) (I : Nat → Nat → Int32) (J : Nat → Nat → Int64) : (Nat → Nat → Int32) :=
  fSt_meetAll_41 n59 n41 (0 : Int32) (pm_u (pm_u (pm_u I 29 (0 : Int32).toNatClampNeg (I 3 10)) 30 (I 3 10).toNatClampNeg (0 : Int32)) 25 8 (1 : Int32)) J
def pSt_meetAll_8 (n59 : Nat) (n41 : Nat) (I : Nat → Nat → Int32) (J : Nat → Nat → Int64) : Prop :=
  (vp_in (0 : Int32) 256) ∧ ((vp_in (I 3 10) 256) ∧ (pSt_meetAll_41 n59 n41 (0 : Int32) (pm_u (pm_u (pm_u I 29 (0 : Int32).toNatClampNeg (I 3 10)) 30 (I 3 10).toNatClampNeg (0 : Int32)) 25 8 (1 : Int32)) J))
def fSt_meetAll (n59 : Nat) (n41 : Nat) (I : Nat → Nat → Int32) (J : Nat → Nat → Int64) : (Nat → Nat → Int32) :=
  fSt_meetAll_8 n59 n41 ((fAr_fill_30 300 (-1 : Int32) I J)) J
def pSt_meetAll (n59 : Nat) (n41 : Nat) (I : Nat → Nat → Int32) (J : Nat → Nat → Int64) : Prop :=
  (pAr_fill_30 300 (-1 : Int32) I J) ∧ (pSt_meetAll_8 n59 n41 ((fAr_fill_30 300 (-1 : Int32) I J)) J)
set_option maxHeartbeats 4000000 in
set_option maxRecDepth 100000 in
theorem St_meetAll_n78 (g : pmG) (d : Nat) (ex : List (Nat × Nat)) (R : Nat → Nat → Value) (hR : pk_R R) (o : Outcome) (Z : pmM) (r41 : Int32 → (Nat → Nat → Int32) → (Nat → Nat → Int64) → (Nat → Nat → Int32)) (q41 : Int32 → (Nat → Nat → Int32) → (Nat → Nat → Int64) → Prop) (ih41 : ∀ (y1 : Int32) (I : Nat → Nat → Int32) (J : Nat → Nat → Int64), q41 y1 I J → o = .returned none → Z = (pk_K ++ ex, R, (r41 y1 I J), J) → pmE g kSt_meetAll (d + 2) 0 0 41 [(0, .ref 25), (1, .int y1)] [] (pk_K ++ ex) R I J o Z) (r59 : Int32 → Int32 → (Nat → Nat → Int32) → (Nat → Nat → Int64) → (Nat → Nat → Int32)) (q59 : Int32 → Int32 → (Nat → Nat → Int32) → (Nat → Nat → Int64) → Prop) (ih59 : ∀ (y1 : Int32) (y2 : Int32) (I : Nat → Nat → Int32) (J : Nat → Nat → Int64), q59 y1 y2 I J → o = .returned none → Z = (pk_K ++ ex, R, (r59 y1 y2 I J), J) → pmE g kSt_meetAll (d + 2) 0 0 59 [(0, .ref 25), (1, .int y1), (2, .int y2)] [] (pk_K ++ ex) R I J o Z)  (y1 : Int32) (y2 : Int32) (I : Nat → Nat → Int32) (J : Nat → Nat → Int64) (hp : pSt_meetAll_78 q41 q59 y1 y2 I J) (ho : o = .returned none) (hz : Z = (pk_K ++ ex, R, (fSt_meetAll_78 r41 r59 y1 y2 I J), J)) : pmE g kSt_meetAll (d + 2) 0 0 78 [(0, .ref 25), (1, .int y1), (2, .int y2)] [] (pk_K ++ ex) R I J o Z := by
  unfold pSt_meetAll_78 at hp
  refine pm_iinc dSt_meetAll_78 rfl (by decide) rfl ?_
  refine pm_goto 59 dSt_meetAll_81 (by decide) ?_
  refine pm_wk [1, 2, 0] rfl ?_
  exact ih59 _ _ _ _ hp ho (hz.trans (by first | rfl | (simp only [fSt_meetAll_78]; done) | (simp only [fSt_meetAll_78]; rfl)))
set_option maxHeartbeats 4000000 in
set_option maxRecDepth 100000 in
theorem St_meetAll_n59 (g : pmG) (d : Nat) (ex : List (Nat × Nat)) (R : Nat → Nat → Value) (hR : pk_R R) (o : Outcome) (Z : pmM) (r41 : Int32 → (Nat → Nat → Int32) → (Nat → Nat → Int64) → (Nat → Nat → Int32)) (q41 : Int32 → (Nat → Nat → Int32) → (Nat → Nat → Int64) → Prop) (ih41 : ∀ (y1 : Int32) (I : Nat → Nat → Int32) (J : Nat → Nat → Int64), q41 y1 I J → o = .returned none → Z = (pk_K ++ ex, R, (r41 y1 I J), J) → pmE g kSt_meetAll (d + 2) 0 0 41 [(0, .ref 25), (1, .int y1)] [] (pk_K ++ ex) R I J o Z)  : ∀ (n : Nat) (y1 : Int32) (y2 : Int32) (I : Nat → Nat → Int32) (J : Nat → Nat → Int64), pSt_meetAll_59 q41 n y1 y2 I J → o = .returned none → Z = (pk_K ++ ex, R, (fSt_meetAll_59 r41 n y1 y2 I J), J) → pmE g kSt_meetAll (d + 2) 0 0 59 [(0, .ref 25), (1, .int y1), (2, .int y2)] [] (pk_K ++ ex) R I J o Z := by
  intro n
  induction n with
  | zero => intro y1 y2 I J hp; exact False.elim hp
  | succ n ih =>
  intro y1 y2 I J hp ho hz
  simp only [pSt_meetAll_59] at hp
  refine pm_iload_n dSt_meetAll_59 rfl ?_
  refine pm_aload_n dSt_meetAll_60 rfl ?_
  refine pm_geti dSt_meetAll_61 fSt_49 rfl ?_
  refine pm_icmp_ge 84 dSt_meetAll_64 (by decide) (fun h64 => ?_) (fun h64 => ?_)
  ·
    refine pm_iinc dSt_meetAll_84 rfl (by decide) rfl ?_
    refine pm_goto 41 dSt_meetAll_87 (by decide) ?_
    refine pm_wk [1, 0] rfl ?_
    exact ih41 _ _ _ (hp.1 h64) ho (hz.trans (by first | (simp only [fSt_meetAll_59, if_pos h64]; done) | (simp only [fSt_meetAll_59, if_pos h64]; rfl) | rfl))
  ·
    refine pm_aload_n dSt_meetAll_67 rfl ?_
    refine pm_aload_n dSt_meetAll_68 rfl ?_
    refine pm_getr dSt_meetAll_69 fSt_21 rfl (rr_25_7 hR) ?_
    refine pm_iload_n dSt_meetAll_72 rfl ?_
    refine pm_iald dSt_meetAll_73 rfl (hp.2 h64).1 ?_
    refine pm_iload_n dSt_meetAll_74 rfl ?_
    refine pm_callV dSt_meetAll_75 lSt_88 vSt_meet ⟨_, _, rfl⟩ (St_meet_ok _ _ _ _ hR _ _ _ _ (hp.2 h64).2.1) rfl rfl rfl (Nat.le_of_ble_eq_true rfl) (Nat.le_refl _) (Nat.le_refl _) ?_
    refine pm_wk [0, 1, 2] rfl ?_
    exact St_meetAll_n78 g d ex R hR _ _ r41 q41 ih41 (fSt_meetAll_59 r41 n) (pSt_meetAll_59 q41 n) ih  _ _ _ _ (hp.2 h64).2.2 ho (hz.trans (by first | (simp only [fSt_meetAll_59, if_neg h64]; done) | (simp only [fSt_meetAll_59, if_neg h64]; rfl) | rfl))
set_option maxHeartbeats 4000000 in
set_option maxRecDepth 100000 in
theorem St_meetAll_n41 (g : pmG) (d : Nat) (ex : List (Nat × Nat)) (R : Nat → Nat → Value) (hR : pk_R R) (o : Outcome) (Z : pmM) (n59 : Nat) : ∀ (n : Nat) (y1 : Int32) (I : Nat → Nat → Int32) (J : Nat → Nat → Int64), pSt_meetAll_41 n59 n y1 I J → o = .returned none → Z = (pk_K ++ ex, R, (fSt_meetAll_41 n59 n y1 I J), J) → pmE g kSt_meetAll (d + 2) 0 0 41 [(0, .ref 25), (1, .int y1)] [] (pk_K ++ ex) R I J o Z := by
  intro n
  induction n with
  | zero => intro y1 I J hp; exact False.elim hp
  | succ n ih =>
  intro y1 I J hp ho hz
  simp only [pSt_meetAll_41] at hp
  refine pm_iload_n dSt_meetAll_41 rfl ?_
  refine pm_aload_n dSt_meetAll_42 rfl ?_
  refine pm_geti dSt_meetAll_43 fSt_85 rfl ?_
  refine pm_icmp_ge 90 dSt_meetAll_46 (by decide) (fun h46 => ?_) (fun h46 => ?_)
  ·
    exact pm_vret dSt_meetAll_90 rfl ho (hz.trans (by first | (simp only [fSt_meetAll_41, if_pos h46]; done) | (simp only [fSt_meetAll_41, if_pos h46]; rfl) | rfl))
  ·
    refine pm_iload_n dSt_meetAll_49 rfl ?_
    refine pm_aload_n dSt_meetAll_50 rfl ?_
    refine pm_geti dSt_meetAll_51 fSt_43 rfl ?_
    refine pm_icmp_ge 90 dSt_meetAll_54 (by decide) (fun h54 => ?_) (fun h54 => ?_)
    ·
      exact pm_vret dSt_meetAll_90 rfl ho (hz.trans (by first | (simp only [fSt_meetAll_41, if_neg h46, if_pos h54]; done) | (simp only [fSt_meetAll_41, if_neg h46, if_pos h54]; rfl) | rfl))
    ·
      refine pm_iconst (v := 0) dSt_meetAll_57 (by decide) ?_
      refine pm_istore_n dSt_meetAll_58 (by decide) rfl ?_
      refine pm_wk [1, 2, 0] rfl ?_
      exact St_meetAll_n59 g d ex R hR _ _ (fSt_meetAll_41 n59 n) (pSt_meetAll_41 n59 n) ih n59 _ _ _ _ ((hp.2 h46).2 h54) ho (hz.trans (by first | (simp only [fSt_meetAll_41, if_neg h46, if_neg h54]; done) | (simp only [fSt_meetAll_41, if_neg h46, if_neg h54]; rfl) | rfl))
set_option maxHeartbeats 4000000 in
set_option maxRecDepth 100000 in
theorem St_meetAll_n8 (g : pmG) (d : Nat) (ex : List (Nat × Nat)) (R : Nat → Nat → Value) (hR : pk_R R) (o : Outcome) (Z : pmM) (n59 : Nat) (n41 : Nat) (I : Nat → Nat → Int32) (J : Nat → Nat → Int64) (hp : pSt_meetAll_8 n59 n41 I J) (ho : o = .returned none) (hz : Z = (pk_K ++ ex, R, (fSt_meetAll_8 n59 n41 I J), J)) : pmE g kSt_meetAll (d + 2) 0 0 8 [(0, .ref 25)] [] (pk_K ++ ex) R I J o Z := by
  unfold pSt_meetAll_8 at hp
  refine pm_aload_n dSt_meetAll_8 rfl ?_
  refine pm_getr dSt_meetAll_9 fSt_21 rfl (rr_25_7 hR) ?_
  refine pm_iconst (v := 0) dSt_meetAll_12 (by decide) ?_
  refine pm_aload_n dSt_meetAll_13 rfl ?_
  refine pm_getr dSt_meetAll_14 fSt_33 rfl (rr_25_0 hR) ?_
  refine pm_geti dSt_meetAll_17 fSt_82 rfl ?_
  refine pm_iast dSt_meetAll_20 rfl hp.1 ?_
  refine pm_aload_n dSt_meetAll_21 rfl ?_
  refine pm_getr dSt_meetAll_22 fSt_24 rfl (rr_25_9 hR) ?_
  refine pm_aload_n dSt_meetAll_25 rfl ?_
  refine pm_getr dSt_meetAll_26 fSt_33 rfl (rr_25_0 hR) ?_
  refine pm_geti dSt_meetAll_29 fSt_82 rfl ?_
  refine pm_eqi (I 3 10) rfl ?_
  refine pm_iconst (v := 0) dSt_meetAll_32 (by decide) ?_
  refine pm_iast dSt_meetAll_33 rfl hp.2.1 ?_
  refine pm_aload_n dSt_meetAll_34 rfl ?_
  refine pm_iconst (v := 1) dSt_meetAll_35 (by decide) ?_
  refine pm_puti dSt_meetAll_36 fSt_85 sSt_85 (fun h => by cases h) rfl rfl rfl ?_
  refine pm_iconst (v := 0) dSt_meetAll_39 (by decide) ?_
  refine pm_istore_n dSt_meetAll_40 (by decide) rfl ?_
  refine pm_wk [1, 0] rfl ?_
  exact St_meetAll_n41 g d ex R hR _ _  n59 n41 _ _ _ hp.2.2 ho (hz.trans (by first | rfl | (simp only [fSt_meetAll_8]; done) | (simp only [fSt_meetAll_8]; rfl)))
set_option maxHeartbeats 4000000 in
set_option maxRecDepth 100000 in
theorem St_meetAll_n0 (g : pmG) (d : Nat) (ex : List (Nat × Nat)) (R : Nat → Nat → Value) (hR : pk_R R) (o : Outcome) (Z : pmM) (n59 : Nat) (n41 : Nat) (I : Nat → Nat → Int32) (J : Nat → Nat → Int64) (hp : pSt_meetAll n59 n41 I J) (ho : o = .returned none) (hz : Z = (pk_K ++ ex, R, (fSt_meetAll n59 n41 I J), J)) : pmE g kSt_meetAll (d + 2) 0 0 0 [(0, .ref 25)] [] (pk_K ++ ex) R I J o Z := by
  unfold pSt_meetAll at hp
  refine pm_aload_n dSt_meetAll_0 rfl ?_
  refine pm_getr dSt_meetAll_1 fSt_24 rfl (rr_25_9 hR) ?_
  refine pm_iconst (v := (-1)) dSt_meetAll_4 (by decide) ?_
  refine pm_callS dSt_meetAll_5 lSt_76 tAr_fill (Ar_fill_30_ok _ _ _ _ hR _ _ _ _ hp.1) rfl rfl (Nat.le_of_ble_eq_true rfl) (Nat.le_refl _) (Nat.le_refl _) ?_
  refine pm_wk [0] rfl ?_
  exact St_meetAll_n8 g d ex R hR _ _  n59 n41 _ _ hp.2 ho (hz.trans (by first | rfl | (simp only [fSt_meetAll]; done) | (simp only [fSt_meetAll]; rfl)))
set_option maxHeartbeats 4000000 in
set_option maxRecDepth 100000 in
theorem St_meetAll_ok (g : pmG) (d : Nat) (ex : List (Nat × Nat)) (R : Nat → Nat → Value) (hR : pk_R R) (n59 : Nat) (n41 : Nat)  (I : Nat → Nat → Int32) (J : Nat → Nat → Int64) (hp : pSt_meetAll n59 n41 I J) : pmC g kSt_meetAll (d + 2) 0 0 [.ref 25] (pk_K ++ ex, R, I, J) (.returned none) (pk_K ++ ex, R, (fSt_meetAll n59 n41 I J), J) :=
  pmC.of (by decide) (Nat.le_of_ble_eq_true rfl) (St_meetAll_n0 g d ex R hR _ _ n59 n41  I J hp rfl rfl)
def fSt_finish_4  (I : Nat → Nat → Int32) (J : Nat → Nat → Int64) : (Nat → Nat → Int32) :=
  (fSt_meetAll 9 257 I J)
def pSt_finish_4  (I : Nat → Nat → Int32) (J : Nat → Nat → Int64) : Prop :=
  (pSt_meetAll 9 257 I J) ∧ True
def fSt_finish  (I : Nat → Nat → Int32) (J : Nat → Nat → Int64) : (Nat → Nat → Int32) :=
  fSt_finish_4 ((fSt_turnBack 2049 257 2049 I J)) J
def pSt_finish  (I : Nat → Nat → Int32) (J : Nat → Nat → Int64) : Prop :=
  (pSt_turnBack 2049 257 2049 I J) ∧ (pSt_finish_4 ((fSt_turnBack 2049 257 2049 I J)) J)
set_option maxHeartbeats 4000000 in
set_option maxRecDepth 100000 in
theorem St_finish_n4 (g : pmG) (d : Nat) (ex : List (Nat × Nat)) (R : Nat → Nat → Value) (hR : pk_R R) (o : Outcome) (Z : pmM)  (I : Nat → Nat → Int32) (J : Nat → Nat → Int64) (hp : pSt_finish_4 I J) (ho : o = .returned none) (hz : Z = (pk_K ++ ex, R, (fSt_finish_4 I J), J)) : pmE g kSt_finish (d + 3) 0 0 4 [(0, .ref 25)] [] (pk_K ++ ex) R I J o Z := by
  unfold pSt_finish_4 at hp
  refine pm_aload_n dSt_finish_4 rfl ?_
  refine pm_callV dSt_finish_5 lSt_73 vSt_meetAll ⟨_, _, rfl⟩ (St_meetAll_ok _ _ _ _ hR _ _ _ _ hp.1) rfl rfl rfl (Nat.le_of_ble_eq_true rfl) (Nat.le_refl _) (Nat.le_refl _) ?_
  exact pm_vret dSt_finish_8 rfl ho (hz.trans (by first | rfl | (simp only [fSt_finish_4]; done) | (simp only [fSt_finish_4]; rfl)))
set_option maxHeartbeats 4000000 in
set_option maxRecDepth 100000 in
theorem St_finish_n0 (g : pmG) (d : Nat) (ex : List (Nat × Nat)) (R : Nat → Nat → Value) (hR : pk_R R) (o : Outcome) (Z : pmM)  (I : Nat → Nat → Int32) (J : Nat → Nat → Int64) (hp : pSt_finish I J) (ho : o = .returned none) (hz : Z = (pk_K ++ ex, R, (fSt_finish I J), J)) : pmE g kSt_finish (d + 3) 0 0 0 [(0, .ref 25)] [] (pk_K ++ ex) R I J o Z := by
  unfold pSt_finish at hp
  refine pm_aload_n dSt_finish_0 rfl ?_
  refine pm_callV dSt_finish_1 lSt_70 vSt_turnBack ⟨_, _, rfl⟩ (St_turnBack_ok _ _ _ _ hR _ _ _ _ _ hp.1) rfl rfl rfl (Nat.le_of_ble_eq_true rfl) (Nat.le_refl _) (Nat.le_refl _) ?_
  refine pm_wk [0] rfl ?_
  exact St_finish_n4 g d ex R hR _ _   _ _ hp.2 ho (hz.trans (by first | rfl | (simp only [fSt_finish]; done) | (simp only [fSt_finish]; rfl)))
set_option maxHeartbeats 4000000 in
set_option maxRecDepth 100000 in
theorem St_finish_ok (g : pmG) (d : Nat) (ex : List (Nat × Nat)) (R : Nat → Nat → Value) (hR : pk_R R)   (I : Nat → Nat → Int32) (J : Nat → Nat → Int64) (hp : pSt_finish I J) : pmC g kSt_finish (d + 3) 0 0 [.ref 25] (pk_K ++ ex, R, I, J) (.returned none) (pk_K ++ ex, R, (fSt_finish I J), J) :=
  pmC.of (by decide) (Nat.le_of_ble_eq_true rfl) (St_finish_n0 g d ex R hR _ _   I J hp rfl rfl)
