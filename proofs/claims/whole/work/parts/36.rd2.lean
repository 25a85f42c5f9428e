def fRd_settle_L_53 (r0 : Int32 → Int32 → (Nat → Nat → Int32) → (Nat → Nat → Int64) → (Nat → Nat → Int32)) (y1 : Int32) (y2 : Int32) (I : Nat → Nat → Int32) (J : Nat → Nat → Int64) : (Nat → Nat → Int32) :=
  r0 y1 y2 I J
def pRd_settle_L_53 (q0 : Int32 → Int32 → (Nat → Nat → Int32) → (Nat → Nat → Int64) → Prop) (y1 : Int32) (y2 : Int32) (I : Nat → Nat → Int32) (J : Nat → Nat → Int64) : Prop :=
  q0 y1 y2 I J
def fRd_settle_L  : Nat → Int32 → Int32 → (Nat → Nat → Int32) → (Nat → Nat → Int64) → (Nat → Nat → Int32)
  | 0, _, _, I, _ => I
  | n + 1, y1, y2, I, J =>
  if (I 13 7) ≤ y1 then I
  else if ((fRd_tightness (I 16 ((I 13 7) - (1 : Int32)).toNatClampNeg) I J)) < y2 then I
    else fRd_settle_L_53 (fRd_settle_L n) y1 y2 ((fCo_add_L ((pm_u I 13 7 ((I 13 7) - (1 : Int32))) 16 ((I 13 7) - (1 : Int32)).toNatClampNeg) (0 : Int32) (pm_u I 13 7 ((I 13 7) - (1 : Int32))) J)) J
def pRd_settle_L  : Nat → Int32 → Int32 → (Nat → Nat → Int32) → (Nat → Nat → Int64) → Prop
  | 0, _, _, _, _ => False
  | n + 1, y1, y2, I, J =>
  ((I 13 7) ≤ y1 → True) ∧
  (¬ ((I 13 7) ≤ y1) → (vp_in ((I 13 7) - (1 : Int32)) 125) ∧ ((pRd_tightness (I 16 ((I 13 7) - (1 : Int32)).toNatClampNeg) I J) ∧ ((((fRd_tightness (I 16 ((I 13 7) - (1 : Int32)).toNatClampNeg) I J)) < y2 → True) ∧
    (¬ (((fRd_tightness (I 16 ((I 13 7) - (1 : Int32)).toNatClampNeg) I J)) < y2) → (vp_in ((I 13 7) - (1 : Int32)) 125) ∧ ((pCo_add_L ((pm_u I 13 7 ((I 13 7) - (1 : Int32))) 16 ((I 13 7) - (1 : Int32)).toNatClampNeg) (0 : Int32) (pm_u I 13 7 ((I 13 7) - (1 : Int32))) J) ∧ (pRd_settle_L_53 (pRd_settle_L n) y1 y2 ((fCo_add_L ((pm_u I 13 7 ((I 13 7) - (1 : Int32))) 16 ((I 13 7) - (1 : Int32)).toNatClampNeg) (0 : Int32) (pm_u I 13 7 ((I 13 7) - (1 : Int32))) J)) J))))))
set_option maxHeartbeats 4000000 in
set_option maxRecDepth 100000 in
theorem Rd_settle_L_n53 (g : pmG) (d : Nat) (ex : List (Nat × Nat)) (R : Nat → Nat → Value) (hR : pk_R R) (hc : R 13 8 = .ref 7) (o : Outcome) (Z : pmM) (r0 : Int32 → Int32 → (Nat → Nat → Int32) → (Nat → Nat → Int64) → (Nat → Nat → Int32)) (q0 : Int32 → Int32 → (Nat → Nat → Int32) → (Nat → Nat → Int64) → Prop) (ih0 : ∀ (y1 : Int32) (y2 : Int32) (I : Nat → Nat → Int32) (J : Nat → Nat → Int64), q0 y1 y2 I J → o = .returned none → Z = (pk_K ++ ex, R, (r0 y1 y2 I J), J) → pmE g kRd_settle (d + 1) 0 0 0 [(0, .ref 13), (1, .int y1), (2, .int y2)] [] (pk_K ++ ex) R I J o Z)  (y1 : Int32) (y2 : Int32) (I : Nat → Nat → Int32) (J : Nat → Nat → Int64) (hp : pRd_settle_L_53 q0 y1 y2 I J) (ho : o = .returned none) (hz : Z = (pk_K ++ ex, R, (fRd_settle_L_53 r0 y1 y2 I J), J)) : pmE g kRd_settle (d + 1) 0 0 53 [(0, .ref 13), (1, .int y1), (2, .int y2)] [] (pk_K ++ ex) R I J o Z := by
  unfold pRd_settle_L_53 at hp
  refine pm_goto 0 dRd_settle_53 (by decide) ?_
  refine pm_wk [0, 1, 2] rfl ?_
  exact ih0 _ _ _ _ hp ho (hz.trans (by first | rfl | (simp only [fRd_settle_L_53]; done) | (simp only [fRd_settle_L_53]; rfl)))
set_option maxHeartbeats 4000000 in
set_option maxRecDepth 100000 in
theorem Rd_settle_L_n0 (g : pmG) (d : Nat) (ex : List (Nat × Nat)) (R : Nat → Nat → Value) (hR : pk_R R) (hc : R 13 8 = .ref 7) (o : Outcome) (Z : pmM)  : ∀ (n : Nat) (y1 : Int32) (y2 : Int32) (I : Nat → Nat → Int32) (J : Nat → Nat → Int64), pRd_settle_L n y1 y2 I J → o = .returned none → Z = (pk_K ++ ex, R, (fRd_settle_L n y1 y2 I J), J) → pmE g kRd_settle (d + 1) 0 0 0 [(0, .ref 13), (1, .int y1), (2, .int y2)] [] (pk_K ++ ex) R I J o Z := by
  intro n
  induction n with
  | zero => intro y1 y2 I J hp; exact False.elim hp
  | succ n ih =>
  intro y1 y2 I J hp ho hz
  simp only [pRd_settle_L] at hp
  refine pm_aload_n dRd_settle_0 rfl ?_
  refine pm_geti dRd_settle_1 fRd_85 rfl ?_
  refine pm_iload_n dRd_settle_4 rfl ?_
  refine pm_icmp_le 56 dRd_settle_5 (by decide) (fun h5 => ?_) (fun h5 => ?_)
  ·
    exact pm_vret dRd_settle_56 rfl ho (hz.trans (by first | (simp only [fRd_settle_L, if_pos h5]; done) | (simp only [fRd_settle_L, if_pos h5]; rfl) | rfl))
  ·
    refine pm_aload_n dRd_settle_8 rfl ?_
    refine pm_getr dRd_settle_9 fRd_18 rfl (rr_13_6 hR) ?_
    refine pm_aload_n dRd_settle_12 rfl ?_
    refine pm_geti dRd_settle_13 fRd_85 rfl ?_
    refine pm_iconst (v := 1) dRd_settle_16 (by decide) ?_
    refine pm_isub dRd_settle_17 ?_
    refine pm_iald dRd_settle_18 rfl (hp.2 h5).1 ?_
    refine pm_callS dRd_settle_19 lRd_180 tRd_tightness (Rd_tightness_ok _ _ _ _ hR _ _ _ (hp.2 h5).2.1) rfl rfl (Nat.le_of_ble_eq_true rfl) (Nat.le_refl _) (Nat.le_refl _) ?_
    refine pm_iload_n dRd_settle_22 rfl ?_
    refine pm_icmp_lt 56 dRd_settle_23 (by decide) (fun h23 => ?_) (fun h23 => ?_)
    ·
      exact pm_vret dRd_settle_56 rfl ho (hz.trans (by first | (simp only [fRd_settle_L, if_neg h5, if_pos h23]; done) | (simp only [fRd_settle_L, if_neg h5, if_pos h23]; rfl) | rfl))
    ·
      refine pm_aload_n dRd_settle_26 rfl ?_
      refine pm_dup dRd_settle_27 rfl ?_
      refine pm_geti dRd_settle_28 fRd_85 rfl ?_
      refine pm_iconst (v := 1) dRd_settle_31 (by decide) ?_
      refine pm_isub dRd_settle_32 ?_
      refine pm_puti dRd_settle_33 fRd_85 sRd_85 (fun h => by cases h) rfl rfl rfl ?_
      refine pm_aload_n dRd_settle_36 rfl ?_
      refine pm_getr dRd_settle_37 fRd_40 rfl hc ?_
      refine pm_aload_n dRd_settle_40 rfl ?_
      refine pm_getr dRd_settle_41 fRd_18 rfl (rr_13_6 hR) ?_
      refine pm_aload_n dRd_settle_44 rfl ?_
      refine pm_geti dRd_settle_45 fRd_85 rfl ?_
      refine pm_eqi ((I 13 7) - (1 : Int32)) rfl ?_
      refine pm_iald dRd_settle_48 rfl ((hp.2 h5).2.2.2 h23).1 ?_
      refine pm_iconst (v := 0) dRd_settle_49 (by decide) ?_
      refine pm_callV dRd_settle_50 lRd_128 vCo_add ⟨_, _, rfl⟩ (Co_add_L_ok _ _ _ _ hR _ _ _ _ ((hp.2 h5).2.2.2 h23).2.1) rfl rfl rfl (Nat.le_of_ble_eq_true rfl) (Nat.le_refl _) (Nat.le_refl _) ?_
      refine pm_wk [0, 1, 2] rfl ?_
      exact Rd_settle_L_n53 g d ex R hR hc _ _ (fRd_settle_L n) (pRd_settle_L n) ih  _ _ _ _ ((hp.2 h5).2.2.2 h23).2.2 ho (hz.trans (by first | (simp only [fRd_settle_L, if_neg h5, if_neg h23]; done) | (simp only [fRd_settle_L, if_neg h5, if_neg h23]; rfl) | rfl))
set_option maxHeartbeats 4000000 in
set_option maxRecDepth 100000 in
theorem Rd_settle_L_ok (g : pmG) (d : Nat) (ex : List (Nat × Nat)) (R : Nat → Nat → Value) (hR : pk_R R) (hc : R 13 8 = .ref 7) (n0 : Nat) (x0 : Int32) (x1 : Int32) (I : Nat → Nat → Int32) (J : Nat → Nat → Int64) (hp : pRd_settle_L n0 x0 x1 I J) : pmC g kRd_settle (d + 1) 0 0 [.ref 13, .int x0, .int x1] (pk_K ++ ex, R, I, J) (.returned none) (pk_K ++ ex, R, (fRd_settle_L n0 x0 x1 I J), J) :=
  pmC.of (by decide) (Nat.le_of_ble_eq_true rfl) (Rd_settle_L_n0 g d ex R hR hc _ _ n0 x0 x1 I J hp rfl rfl)
def fRd_readKnownName_L_32  (y1 : Int32) (y2 : Int32) (I : Nat → Nat → Int32) (J : Nat → Nat → Int64) : (Nat → Nat → Int32) :=
  (fRd_halt (2 : Int32) I J)
def pRd_readKnownName_L_32  (y1 : Int32) (y2 : Int32) (I : Nat → Nat → Int32) (J : Nat → Nat → Int64) : Prop :=
  (pRd_halt (2 : Int32) I J) ∧ True
def fRd_readKnownName_L_73  (y1 : Int32) (y2 : Int32) (I : Nat → Nat → Int32) (J : Nat → Nat → Int64) : (Nat → Nat → Int32) :=
  (fRd_advance I J)
def pRd_readKnownName_L_73  (y1 : Int32) (y2 : Int32) (I : Nat → Nat → Int32) (J : Nat → Nat → Int64) : Prop :=
  (pRd_advance I J) ∧ True
def fRd_readKnownName_L_60  (y1 : Int32) (y2 : Int32) (I : Nat → Nat → Int32) (J : Nat → Nat → Int64) : (Nat → Nat → Int32) :=
  fRd_readKnownName_L_73 y1 y2 I J
def pRd_readKnownName_L_60  (y1 : Int32) (y2 : Int32) (I : Nat → Nat → Int32) (J : Nat → Nat → Int64) : Prop :=
  pRd_readKnownName_L_73 y1 y2 I J
def fRd_readKnownName_L_28  (y1 : Int32) (y2 : Int32) (z0 : Int32) (I : Nat → Nat → Int32) (J : Nat → Nat → Int64) : (Nat → Nat → Int32) :=
  if z0 = y1 then if y1 = 0 then fRd_readKnownName_L_73 y1 y2 ((fCo_add_L (43 : Int32) y2 I J)) J
    else fRd_readKnownName_L_60 y1 y2 ((fCo_add_L (52 : Int32) (I 6 y2.toNatClampNeg) I J)) J
  else fRd_readKnownName_L_32 y1 y2 I J
def pRd_readKnownName_L_28  (y1 : Int32) (y2 : Int32) (z0 : Int32) (I : Nat → Nat → Int32) (J : Nat → Nat → Int64) : Prop :=
  (z0 = y1 → (y1 = 0 → (pCo_add_L (43 : Int32) y2 I J) ∧ (pRd_readKnownName_L_73 y1 y2 ((fCo_add_L (43 : Int32) y2 I J)) J)) ∧
    (¬ (y1 = 0) → (vp_in y2 60) ∧ ((pCo_add_L (52 : Int32) (I 6 y2.toNatClampNeg) I J) ∧ (pRd_readKnownName_L_60 y1 y2 ((fCo_add_L (52 : Int32) (I 6 y2.toNatClampNeg) I J)) J)))) ∧
  (¬ (z0 = y1) → pRd_readKnownName_L_32 y1 y2 I J)
def fRd_readKnownName_L  (y1 : Int32) (I : Nat → Nat → Int32) (J : Nat → Nat → Int64) : (Nat → Nat → Int32) :=
  if ((fRd_findName 61 I J)) < 0 then fRd_readKnownName_L_32 y1 ((fRd_findName 61 I J)) I J
  else if (I 4 ((fRd_findName 61 I J)).toNatClampNeg) = (33 : Int32) then fRd_readKnownName_L_28 y1 ((fRd_findName 61 I J)) (1 : Int32) I J
    else fRd_readKnownName_L_28 y1 ((fRd_findName 61 I J)) (0 : Int32) I J
def pRd_readKnownName_L  (y1 : Int32) (I : Nat → Nat → Int32) (J : Nat → Nat → Int64) : Prop :=
  (pRd_findName 61 I J) ∧ ((((fRd_findName 61 I J)) < 0 → pRd_readKnownName_L_32 y1 ((fRd_findName 61 I J)) I J) ∧
  (¬ (((fRd_findName 61 I J)) < 0) → (vp_in ((fRd_findName 61 I J)) 60) ∧ (((I 4 ((fRd_findName 61 I J)).toNatClampNeg) = (33 : Int32) → pRd_readKnownName_L_28 y1 ((fRd_findName 61 I J)) (1 : Int32) I J) ∧
    (¬ ((I 4 ((fRd_findName 61 I J)).toNatClampNeg) = (33 : Int32)) → pRd_readKnownName_L_28 y1 ((fRd_findName 61 I J)) (0 : Int32) I J))))
set_option maxHeartbeats 4000000 in
set_option maxRecDepth 100000 in
theorem Rd_readKnownName_L_n32 (g : pmG) (d : Nat) (ex : List (Nat × Nat)) (R : Nat → Nat → Value) (hR : pk_R R) (hc : R 13 8 = .ref 7) (o : Outcome) (Z : pmM)  (y1 : Int32) (y2 : Int32) (I : Nat → Nat → Int32) (J : Nat → Nat → Int64) (hp : pRd_readKnownName_L_32 y1 y2 I J) (ho : o = .returned none) (hz : Z = (pk_K ++ ex, R, (fRd_readKnownName_L_32 y1 y2 I J), J)) : pmE g kRd_readKnownName (d + 2) 0 0 32 [(0, .ref 13), (1, .int y1), (2, .int y2)] [] (pk_K ++ ex) R I J o Z := by
  unfold pRd_readKnownName_L_32 at hp
  refine pm_aload_n dRd_readKnownName_32 rfl ?_
  refine pm_iconst (v := 2) dRd_readKnownName_33 (by decide) ?_
  refine pm_callV dRd_readKnownName_34 lRd_149 vRd_halt ⟨_, _, rfl⟩ (Rd_halt_ok _ _ _ _ hR _ _ _ hp.1) rfl rfl rfl (Nat.le_of_ble_eq_true rfl) (Nat.le_refl _) (Nat.le_refl _) ?_
  exact pm_vret dRd_readKnownName_37 rfl ho (hz.trans (by first | rfl | (simp only [fRd_readKnownName_L_32]; done) | (simp only [fRd_readKnownName_L_32]; rfl)))
set_option maxHeartbeats 4000000 in
set_option maxRecDepth 100000 in
theorem Rd_readKnownName_L_n73 (g : pmG) (d : Nat) (ex : List (Nat × Nat)) (R : Nat → Nat → Value) (hR : pk_R R) (hc : R 13 8 = .ref 7) (o : Outcome) (Z : pmM)  (y1 : Int32) (y2 : Int32) (I : Nat → Nat → Int32) (J : Nat → Nat → Int64) (hp : pRd_readKnownName_L_73 y1 y2 I J) (ho : o = .returned none) (hz : Z = (pk_K ++ ex, R, (fRd_readKnownName_L_73 y1 y2 I J), J)) : pmE g kRd_readKnownName (d + 2) 0 0 73 [(0, .ref 13), (1, .int y1), (2, .int y2)] [] (pk_K ++ ex) R I J o Z := by
  unfold pRd_readKnownName_L_73 at hp
  refine pm_aload_n dRd_readKnownName_73 rfl ?_
  refine pm_callV dRd_readKnownName_74 lRd_139 vRd_advance ⟨_, _, rfl⟩ (Rd_advance_ok _ _ _ _ hR  _ _ hp.1) rfl rfl rfl (Nat.le_of_ble_eq_true rfl) (Nat.le_refl _) (Nat.le_refl _) ?_
  exact pm_vret dRd_readKnownName_77 rfl ho (hz.trans (by first | rfl | (simp only [fRd_readKnownName_L_73]; done) | (simp only [fRd_readKnownName_L_73]; rfl)))
set_option maxHeartbeats 4000000 in
set_option maxRecDepth 100000 in
theorem Rd_readKnownName_L_n60 (g : pmG) (d : Nat) (ex : List (Nat × Nat)) (R : Nat → Nat → Value) (hR : pk_R R) (hc : R 13 8 = .ref 7) (o : Outcome) (Z : pmM)  (y1 : Int32) (y2 : Int32) (I : Nat → Nat → Int32) (J : Nat → Nat → Int64) (hp : pRd_readKnownName_L_60 y1 y2 I J) (ho : o = .returned none) (hz : Z = (pk_K ++ ex, R, (fRd_readKnownName_L_60 y1 y2 I J), J)) : pmE g kRd_readKnownName (d + 2) 0 0 60 [(0, .ref 13), (1, .int y1), (2, .int y2)] [] (pk_K ++ ex) R I J o Z := by
  unfold pRd_readKnownName_L_60 at hp
  refine pm_goto 73 dRd_readKnownName_60 (by decide) ?_
  refine pm_wk [0, 1, 2] rfl ?_
  exact Rd_readKnownName_L_n73 g d ex R hR hc _ _   _ _ _ _ hp ho (hz.trans (by first | rfl | (simp only [fRd_readKnownName_L_60]; done) | (simp only [fRd_readKnownName_L_60]; rfl)))
set_option maxHeartbeats 4000000 in
set_option maxRecDepth 100000 in
theorem Rd_readKnownName_L_n28 (g : pmG) (d : Nat) (ex : List (Nat × Nat)) (R : Nat → Nat → Value) (hR : pk_R R) (hc : R 13 8 = .ref 7) (o : Outcome) (Z : pmM)  (y1 : Int32) (y2 : Int32) (z0 : Int32) (I : Nat → Nat → Int32) (J : Nat → Nat → Int64) (hp : pRd_readKnownName_L_28 y1 y2 z0 I J) (ho : o = .returned none) (hz : Z = (pk_K ++ ex, R, (fRd_readKnownName_L_28 y1 y2 z0 I J), J)) : pmE g kRd_readKnownName (d + 2) 0 0 28 [(0, .ref 13), (1, .int y1), (2, .int y2)] [.int z0] (pk_K ++ ex) R I J o Z := by
  unfold pRd_readKnownName_L_28 at hp
  refine pm_iload_n dRd_readKnownName_28 rfl ?_
  refine pm_icmp_eq 38 dRd_readKnownName_29 (by decide) (fun h29 => ?_) (fun h29 => ?_)
  ·
    refine pm_iload_n dRd_readKnownName_38 rfl ?_
    refine pm_if_eq 63 dRd_readKnownName_39 (by decide) (fun h39 => ?_) (fun h39 => ?_)
    ·
      refine pm_aload_n dRd_readKnownName_63 rfl ?_
      refine pm_getr dRd_readKnownName_64 fRd_40 rfl hc ?_
      refine pm_bipush (v := 43) dRd_readKnownName_67 (by decide) ?_
      refine pm_iload_n dRd_readKnownName_69 rfl ?_
      refine pm_callV dRd_readKnownName_70 lRd_128 vCo_add ⟨_, _, rfl⟩ (Co_add_L_ok _ _ _ _ hR _ _ _ _ ((hp.1 h29).1 h39).1) rfl rfl rfl (Nat.le_of_ble_eq_true rfl) (Nat.le_refl _) (Nat.le_refl _) ?_
      refine pm_wk [0, 1, 2] rfl ?_
      exact Rd_readKnownName_L_n73 g d ex R hR hc _ _   _ _ _ _ ((hp.1 h29).1 h39).2 ho (hz.trans (by first | (simp only [fRd_readKnownName_L_28, if_pos h29, if_pos h39]; done) | (simp only [fRd_readKnownName_L_28, if_pos h29, if_pos h39]; rfl) | rfl))
    ·
      refine pm_aload_n dRd_readKnownName_42 rfl ?_
      refine pm_getr dRd_readKnownName_43 fRd_40 rfl hc ?_
      refine pm_bipush (v := 52) dRd_readKnownName_46 (by decide) ?_
      refine pm_aload_n dRd_readKnownName_48 rfl ?_
      refine pm_getr dRd_readKnownName_49 fRd_21 rfl (rr_13_0 hR) ?_
      refine pm_getr dRd_readKnownName_52 fRd_200 rfl (rr_3_2 hR) ?_
      refine pm_iload_n dRd_readKnownName_55 rfl ?_
      refine pm_iald dRd_readKnownName_56 rfl ((hp.1 h29).2 h39).1 ?_
      refine pm_callV dRd_readKnownName_57 lRd_128 vCo_add ⟨_, _, rfl⟩ (Co_add_L_ok _ _ _ _ hR _ _ _ _ ((hp.1 h29).2 h39).2.1) rfl rfl rfl (Nat.le_of_ble_eq_true rfl) (Nat.le_refl _) (Nat.le_refl _) ?_
      refine pm_wk [0, 1, 2] rfl ?_
      exact Rd_readKnownName_L_n60 g d ex R hR hc _ _   _ _ _ _ ((hp.1 h29).2 h39).2.2 ho (hz.trans (by first | (simp only [fRd_readKnownName_L_28, if_pos h29, if_neg h39]; done) | (simp only [fRd_readKnownName_L_28, if_pos h29, if_neg h39]; rfl) | rfl))
  ·
    refine pm_wk [0, 1, 2] rfl ?_
    exact Rd_readKnownName_L_n32 g d ex R hR hc _ _   _ _ _ _ (hp.2 h29) ho (hz.trans (by first | (simp only [fRd_readKnownName_L_28, if_neg h29]; done) | (simp only [fRd_readKnownName_L_28, if_neg h29]; rfl) | rfl))
set_option maxHeartbeats 4000000 in
set_option maxRecDepth 100000 in
theorem Rd_readKnownName_L_n0 (g : pmG) (d : Nat) (ex : List (Nat × Nat)) (R : Nat → Nat → Value) (hR : pk_R R) (hc : R 13 8 = .ref 7) (o : Outcome) (Z : pmM)  (y1 : Int32) (I : Nat → Nat → Int32) (J : Nat → Nat → Int64) (hp : pRd_readKnownName_L y1 I J) (ho : o = .returned none) (hz : Z = (pk_K ++ ex, R, (fRd_readKnownName_L y1 I J), J)) : pmE g kRd_readKnownName (d + 2) 0 0 0 [(0, .ref 13), (1, .int y1)] [] (pk_K ++ ex) R I J o Z := by
  unfold pRd_readKnownName_L at hp
  refine pm_aload_n dRd_readKnownName_0 rfl ?_
  refine pm_callV dRd_readKnownName_1 lRd_161 vRd_findName ⟨_, _, rfl⟩ (Rd_findName_ok _ _ _ _ hR _ _ _ hp.1) rfl rfl rfl (Nat.le_of_ble_eq_true rfl) (Nat.le_refl _) (Nat.le_refl _) ?_
  refine pm_istore_n dRd_readKnownName_4 (by decide) rfl ?_
  refine pm_iload_n dRd_readKnownName_5 rfl ?_
  refine pm_if_lt 32 dRd_readKnownName_6 (by decide) (fun h6 => ?_) (fun h6 => ?_)
  ·
    refine pm_wk [1, 2, 0] rfl ?_
    exact Rd_readKnownName_L_n32 g d ex R hR hc _ _   _ _ _ _ (hp.2.1 h6) ho (hz.trans (by first | (simp only [fRd_readKnownName_L, if_pos h6]; done) | (simp only [fRd_readKnownName_L, if_pos h6]; rfl) | rfl))
  ·
    refine pm_aload_n dRd_readKnownName_9 rfl ?_
    refine pm_getr dRd_readKnownName_10 fRd_21 rfl (rr_13_0 hR) ?_
    refine pm_getr dRd_readKnownName_13 fRd_164 rfl (rr_3_0 hR) ?_
    refine pm_iload_n dRd_readKnownName_16 rfl ?_
    refine pm_iald dRd_readKnownName_17 rfl (hp.2.2 h6).1 ?_
    refine pm_bipush (v := 33) dRd_readKnownName_18 (by decide) ?_
    refine pm_icmp_ne 27 dRd_readKnownName_20 (by decide) (fun h20 => ?_) (fun h20 => ?_)
    ·
      refine pm_iconst (v := 0) dRd_readKnownName_27 (by decide) ?_
      refine pm_wk [1, 2, 0] rfl ?_
      exact Rd_readKnownName_L_n28 g d ex R hR hc _ _   _ _ _ _ _ ((hp.2.2 h6).2.2 h20) ho (hz.trans (by first | (simp only [fRd_readKnownName_L, if_neg h6, if_neg h20]; done) | (simp only [fRd_readKnownName_L, if_neg h6, if_neg h20]; rfl) | rfl))
    ·
      refine pm_iconst (v := 1) dRd_readKnownName_23 (by decide) ?_
      refine pm_goto 28 dRd_readKnownName_24 (by decide) ?_
      refine pm_wk [1, 2, 0] rfl ?_
      exact Rd_readKnownName_L_n28 g d ex R hR hc _ _   _ _ _ _ _ ((hp.2.2 h6).2.1 h20) ho (hz.trans (by first | (simp only [fRd_readKnownName_L, if_neg h6, if_pos h20]; done) | (simp only [fRd_readKnownName_L, if_neg h6, if_pos h20]; rfl) | rfl))
set_option maxHeartbeats 4000000 in
set_option maxRecDepth 100000 in
theorem Rd_readKnownName_L_ok (g : pmG) (d : Nat) (ex : List (Nat × Nat)) (R : Nat → Nat → Value) (hR : pk_R R) (hc : R 13 8 = .ref 7)  (x0 : Int32) (I : Nat → Nat → Int32) (J : Nat → Nat → Int64) (hp : pRd_readKnownName_L x0 I J) : pmC g kRd_readKnownName (d + 2) 0 0 [.ref 13, .int x0] (pk_K ++ ex, R, I, J) (.returned none) (pk_K ++ ex, R, (fRd_readKnownName_L x0 I J), J) :=
  pmC.of (by decide) (Nat.le_of_ble_eq_true rfl) (Rd_readKnownName_L_n0 g d ex R hR hc _ _  x0 I J hp rfl rfl)
def fRd_readExpression_L_50 (G : Nat → Int32 → Int32 → (Nat → Nat → Int32) → (Nat → Nat → Int64) → (Nat → Nat → Int32)) (y1 : Int32) (I : Nat → Nat → Int32) (J : Nat → Nat → Int64) : (Nat → Nat → Int32) :=
  (fCo_add_L (50 : Int32) (0 : Int32) I J)
def pRd_readExpression_L_50 (G : Nat → Int32 → Int32 → (Nat → Nat → Int32) → (Nat → Nat → Int64) → (Nat → Nat → Int32)) (GQ : Nat → Int32 → Int32 → (Nat → Nat → Int32) → (Nat → Nat → Int64) → Prop) (y1 : Int32) (I : Nat → Nat → Int32) (J : Nat → Nat → Int64) : Prop :=
  (pCo_add_L (50 : Int32) (0 : Int32) I J) ∧ True
def fRd_readExpression_L_42 (G : Nat → Int32 → Int32 → (Nat → Nat → Int32) → (Nat → Nat → Int64) → (Nat → Nat → Int32)) (y1 : Int32) (z0 : Int32) (I : Nat → Nat → Int32) (J : Nat → Nat → Int64) : (Nat → Nat → Int32) :=
  fRd_readExpression_L_50 G y1 (G 0 (y1 + (1 : Int32)) 0 I J) J
def pRd_readExpression_L_42 (G : Nat → Int32 → Int32 → (Nat → Nat → Int32) → (Nat → Nat → Int64) → (Nat → Nat → Int32)) (GQ : Nat → Int32 → Int32 → (Nat → Nat → Int32) → (Nat → Nat → Int64) → Prop) (y1 : Int32) (z0 : Int32) (I : Nat → Nat → Int32) (J : Nat → Nat → Int64) : Prop :=
  (GQ 0 (y1 + (1 : Int32)) 0 I J) ∧ (pRd_readExpression_L_50 G GQ y1 (G 0 (y1 + (1 : Int32)) 0 I J) J)
def fRd_readExpression_L_37 (G : Nat → Int32 → Int32 → (Nat → Nat → Int32) → (Nat → Nat → Int64) → (Nat → Nat → Int32)) (y1 : Int32) (I : Nat → Nat → Int32) (J : Nat → Nat → Int64) : (Nat → Nat → Int32) :=
  fRd_readExpression_L_42 G y1 ((fRd_expect (1 : Int32) I J).1) ((fRd_expect (1 : Int32) I J).2) J
def pRd_readExpression_L_37 (G : Nat → Int32 → Int32 → (Nat → Nat → Int32) → (Nat → Nat → Int64) → (Nat → Nat → Int32)) (GQ : Nat → Int32 → Int32 → (Nat → Nat → Int32) → (Nat → Nat → Int64) → Prop) (y1 : Int32) (I : Nat → Nat → Int32) (J : Nat → Nat → Int64) : Prop :=
  (pRd_expect (1 : Int32) I J) ∧ (pRd_readExpression_L_42 G GQ y1 ((fRd_expect (1 : Int32) I J).1) ((fRd_expect (1 : Int32) I J).2) J)
def fRd_readExpression_L_30 (G : Nat → Int32 → Int32 → (Nat → Nat → Int32) → (Nat → Nat → Int64) → (Nat → Nat → Int32)) (y1 : Int32) (I : Nat → Nat → Int32) (J : Nat → Nat → Int64) : (Nat → Nat → Int32) :=
  fRd_readExpression_L_37 G y1 (G 0 (y1 + (1 : Int32)) 0 I J) J
def pRd_readExpression_L_30 (G : Nat → Int32 → Int32 → (Nat → Nat → Int32) → (Nat → Nat → Int64) → (Nat → Nat → Int32)) (GQ : Nat → Int32 → Int32 → (Nat → Nat → Int32) → (Nat → Nat → Int64) → Prop) (y1 : Int32) (I : Nat → Nat → Int32) (J : Nat → Nat → Int64) : Prop :=
  (GQ 0 (y1 + (1 : Int32)) 0 I J) ∧ (pRd_readExpression_L_37 G GQ y1 (G 0 (y1 + (1 : Int32)) 0 I J) J)
def fRd_readExpression_L_26 (G : Nat → Int32 → Int32 → (Nat → Nat → Int32) → (Nat → Nat → Int64) → (Nat → Nat → Int32)) (y1 : Int32) (I : Nat → Nat → Int32) (J : Nat → Nat → Int64) : (Nat → Nat → Int32) :=
  fRd_readExpression_L_30 G y1 ((fRd_advance I J)) J
def pRd_readExpression_L_26 (G : Nat → Int32 → Int32 → (Nat → Nat → Int32) → (Nat → Nat → Int64) → (Nat → Nat → Int32)) (GQ : Nat → Int32 → Int32 → (Nat → Nat → Int32) → (Nat → Nat → Int64) → Prop) (y1 : Int32) (I : Nat → Nat → Int32) (J : Nat → Nat → Int64) : Prop :=
  (pRd_advance I J) ∧ (pRd_readExpression_L_30 G GQ y1 ((fRd_advance I J)) J)
def fRd_readExpression_L_14 (G : Nat → Int32 → Int32 → (Nat → Nat → Int32) → (Nat → Nat → Int64) → (Nat → Nat → Int32)) (y1 : Int32) (I : Nat → Nat → Int32) (J : Nat → Nat → Int64) : (Nat → Nat → Int32) :=
  if (I 13 3) = (3 : Int32) then fRd_readExpression_L_26 G y1 ((fRd_chargeSign I J)) J
  else I
def pRd_readExpression_L_14 (G : Nat → Int32 → Int32 → (Nat → Nat → Int32) → (Nat → Nat → Int64) → (Nat → Nat → Int32)) (GQ : Nat → Int32 → Int32 → (Nat → Nat → Int32) → (Nat → Nat → Int64) → Prop) (y1 : Int32) (I : Nat → Nat → Int32) (J : Nat → Nat → Int64) : Prop :=
  ((I 13 3) = (3 : Int32) → (pRd_chargeSign I J) ∧ (pRd_readExpression_L_26 G GQ y1 ((fRd_chargeSign I J)) J)) ∧
  (¬ ((I 13 3) = (3 : Int32)) → True)
def fRd_readExpression_L_5 (G : Nat → Int32 → Int32 → (Nat → Nat → Int32) → (Nat → Nat → Int64) → (Nat → Nat → Int32)) (y1 : Int32) (z0 : Int32) (I : Nat → Nat → Int32) (J : Nat → Nat → Int64) : (Nat → Nat → Int32) :=
  if z0 = 0 then fRd_readExpression_L_14 G y1 (G 1 y1 0 I J) J
  else I
def pRd_readExpression_L_5 (G : Nat → Int32 → Int32 → (Nat → Nat → Int32) → (Nat → Nat → Int64) → (Nat → Nat → Int32)) (GQ : Nat → Int32 → Int32 → (Nat → Nat → Int32) → (Nat → Nat → Int64) → Prop) (y1 : Int32) (z0 : Int32) (I : Nat → Nat → Int32) (J : Nat → Nat → Int64) : Prop :=
  (z0 = 0 → (GQ 1 y1 0 I J) ∧ (pRd_readExpression_L_14 G GQ y1 (G 1 y1 0 I J) J)) ∧
  (¬ (z0 = 0) → True)
def fRd_readExpression_L (G : Nat → Int32 → Int32 → (Nat → Nat → Int32) → (Nat → Nat → Int64) → (Nat → Nat → Int32)) (y1 : Int32) (I : Nat → Nat → Int32) (J : Nat → Nat → Int64) : (Nat → Nat → Int32) :=
  fRd_readExpression_L_5 G y1 ((fRd_isTooDeep y1 I J).1) ((fRd_isTooDeep y1 I J).2) J
def pRd_readExpression_L (G : Nat → Int32 → Int32 → (Nat → Nat → Int32) → (Nat → Nat → Int64) → (Nat → Nat → Int32)) (GQ : Nat → Int32 → Int32 → (Nat → Nat → Int32) → (Nat → Nat → Int64) → Prop) (y1 : Int32) (I : Nat → Nat → Int32) (J : Nat → Nat → Int64) : Prop :=
  (pRd_isTooDeep y1 I J) ∧ (pRd_readExpression_L_5 G GQ y1 ((fRd_isTooDeep y1 I J).1) ((fRd_isTooDeep y1 I J).2) J)
set_option maxHeartbeats 4000000 in
set_option maxRecDepth 100000 in
theorem Rd_readExpression_L_n50 (g : pmG) (d : Nat) (ex : List (Nat × Nat)) (R : Nat → Nat → Value) (hR : pk_R R) (hc : R 13 8 = .ref 7) (G : Nat → Int32 → Int32 → (Nat → Nat → Int32) → (Nat → Nat → Int64) → (Nat → Nat → Int32)) (GQ : Nat → Int32 → Int32 → (Nat → Nat → Int32) → (Nat → Nat → Int64) → Prop) (hG0 : ∀ (x0 x1 : Int32) (I : Nat → Nat → Int32) (J : Nat → Nat → Int64), GQ 0 x0 x1 I J → pmC g kRd_readExpression (d + 3) 0 0 [.ref 13, .int x0] (pk_K ++ ex, R, I, J) (.returned none) (pk_K ++ ex, R, G 0 x0 x1 I J, J)) (hG1 : ∀ (x0 x1 : Int32) (I : Nat → Nat → Int32) (J : Nat → Nat → Int64), GQ 1 x0 x1 I J → pmC g kRd_readOperands (d + 3) 0 0 [.ref 13, .int x0] (pk_K ++ ex, R, I, J) (.returned none) (pk_K ++ ex, R, G 1 x0 x1 I J, J)) (hG2 : ∀ (x0 x1 : Int32) (I : Nat → Nat → Int32) (J : Nat → Nat → Int64), GQ 2 x0 x1 I J → pmC g kRd_readUnary (d + 3) 0 0 [.ref 13, .int x0] (pk_K ++ ex, R, I, J) (.returned none) (pk_K ++ ex, R, G 2 x0 x1 I J, J)) (hG3 : ∀ (x0 x1 : Int32) (I : Nat → Nat → Int32) (J : Nat → Nat → Int64), GQ 3 x0 x1 I J → pmC g kRd_readAltered (d + 3) 0 0 [.ref 13, .int x0, .int x1] (pk_K ++ ex, R, I, J) (.returned none) (pk_K ++ ex, R, G 3 x0 x1 I J, J)) (o : Outcome) (Z : pmM)  (y1 : Int32) (I : Nat → Nat → Int32) (J : Nat → Nat → Int64) (hp : pRd_readExpression_L_50 G GQ y1 I J) (ho : o = .returned none) (hz : Z = (pk_K ++ ex, R, (fRd_readExpression_L_50 G y1 I J), J)) : pmE g kRd_readExpression (d + 4) 0 0 50 [(0, .ref 13), (1, .int y1)] [] (pk_K ++ ex) R I J o Z := by
  unfold pRd_readExpression_L_50 at hp
  refine pm_aload_n dRd_readExpression_50 rfl ?_
  refine pm_getr dRd_readExpression_51 fRd_40 rfl hc ?_
  refine pm_bipush (v := 50) dRd_readExpression_54 (by decide) ?_
  refine pm_iconst (v := 0) dRd_readExpression_56 (by decide) ?_
  refine pm_callV dRd_readExpression_57 lRd_128 vCo_add ⟨_, _, rfl⟩ (Co_add_L_ok _ _ _ _ hR _ _ _ _ hp.1) rfl rfl rfl (Nat.le_of_ble_eq_true rfl) (Nat.le_refl _) (Nat.le_refl _) ?_
  exact pm_vret dRd_readExpression_60 rfl ho (hz.trans (by first | rfl | (simp only [fRd_readExpression_L_50]; done) | (simp only [fRd_readExpression_L_50]; rfl)))
set_option maxHeartbeats 4000000 in
set_option maxRecDepth 100000 in
theorem Rd_readExpression_L_n42 (g : pmG) (d : Nat) (ex : List (Nat × Nat)) (R : Nat → Nat → Value) (hR : pk_R R) (hc : R 13 8 = .ref 7) (G : Nat → Int32 → Int32 → (Nat → Nat → Int32) → (Nat → Nat → Int64) → (Nat → Nat → Int32)) (GQ : Nat → Int32 → Int32 → (Nat → Nat → Int32) → (Nat → Nat → Int64) → Prop) (hG0 : ∀ (x0 x1 : Int32) (I : Nat → Nat → Int32) (J : Nat → Nat → Int64), GQ 0 x0 x1 I J → pmC g kRd_readExpression (d + 3) 0 0 [.ref 13, .int x0] (pk_K ++ ex, R, I, J) (.returned none) (pk_K ++ ex, R, G 0 x0 x1 I J, J)) (hG1 : ∀ (x0 x1 : Int32) (I : Nat → Nat → Int32) (J : Nat → Nat → Int64), GQ 1 x0 x1 I J → pmC g kRd_readOperands (d + 3) 0 0 [.ref 13, .int x0] (pk_K ++ ex, R, I, J) (.returned none) (pk_K ++ ex, R, G 1 x0 x1 I J, J)) (hG2 : ∀ (x0 x1 : Int32) (I : Nat → Nat → Int32) (J : Nat → Nat → Int64), GQ 2 x0 x1 I J → pmC g kRd_readUnary (d + 3) 0 0 [.ref 13, .int x0] (pk_K ++ ex, R, I, J) (.returned none) (pk_K ++ ex, R, G 2 x0 x1 I J, J)) (hG3 : ∀ (x0 x1 : Int32) (I : Nat → Nat → Int32) (J : Nat → Nat → Int64), GQ 3 x0 x1 I J → pmC g kRd_readAltered (d + 3) 0 0 [.ref 13, .int x0, .int x1] (pk_K ++ ex, R, I, J) (.returned none) (pk_K ++ ex, R, G 3 x0 x1 I J, J)) (o : Outcome) (Z : pmM)  (y1 : Int32) (z0 : Int32) (I : Nat → Nat → Int32) (J : Nat → Nat → Int64) (hp : pRd_readExpression_L_42 G GQ y1 z0 I J) (ho : o = .returned none) (hz : Z = (pk_K ++ ex, R, (fRd_readExpression_L_42 G y1 z0 I J), J)) : pmE g kRd_readExpression (d + 4) 0 0 42 [(0, .ref 13), (1, .int y1)] [.int z0] (pk_K ++ ex) R I J o Z := by
  unfold pRd_readExpression_L_42 at hp
  refine pm_pop dRd_readExpression_42 rfl ?_
  refine pm_aload_n dRd_readExpression_43 rfl ?_
  refine pm_iload_n dRd_readExpression_44 rfl ?_
  refine pm_iconst (v := 1) dRd_readExpression_45 (by decide) ?_
  refine pm_iadd dRd_readExpression_46 ?_
  refine pm_callV dRd_readExpression_47 lRd_122 vRd_readExpression ⟨_, _, rfl⟩ (hG0 _ 0 _ _ hp.1) rfl rfl rfl (Nat.le_of_ble_eq_true rfl) (Nat.le_refl _) (Nat.le_refl _) ?_
  refine pm_wk [0, 1] rfl ?_
  exact Rd_readExpression_L_n50 g d ex R hR hc G GQ hG0 hG1 hG2 hG3 _ _   _ _ _ hp.2 ho (hz.trans (by first | rfl | (simp only [fRd_readExpression_L_42]; done) | (simp only [fRd_readExpression_L_42]; rfl)))
set_option maxHeartbeats 4000000 in
set_option maxRecDepth 100000 in
theorem Rd_readExpression_L_n37 (g : pmG) (d : Nat) (ex : List (Nat × Nat)) (R : Nat → Nat → Value) (hR : pk_R R) (hc : R 13 8 = .ref 7) (G : Nat → Int32 → Int32 → (Nat → Nat → Int32) → (Nat → Nat → Int64) → (Nat → Nat → Int32)) (GQ : Nat → Int32 → Int32 → (Nat → Nat → Int32) → (Nat → Nat → Int64) → Prop) (hG0 : ∀ (x0 x1 : Int32) (I : Nat → Nat → Int32) (J : Nat → Nat → Int64), GQ 0 x0 x1 I J → pmC g kRd_readExpression (d + 3) 0 0 [.ref 13, .int x0] (pk_K ++ ex, R, I, J) (.returned none) (pk_K ++ ex, R, G 0 x0 x1 I J, J)) (hG1 : ∀ (x0 x1 : Int32) (I : Nat → Nat → Int32) (J : Nat → Nat → Int64), GQ 1 x0 x1 I J → pmC g kRd_readOperands (d + 3) 0 0 [.ref 13, .int x0] (pk_K ++ ex, R, I, J) (.returned none) (pk_K ++ ex, R, G 1 x0 x1 I J, J)) (hG2 : ∀ (x0 x1 : Int32) (I : Nat → Nat → Int32) (J : Nat → Nat → Int64), GQ 2 x0 x1 I J → pmC g kRd_readUnary (d + 3) 0 0 [.ref 13, .int x0] (pk_K ++ ex, R, I, J) (.returned none) (pk_K ++ ex, R, G 2 x0 x1 I J, J)) (hG3 : ∀ (x0 x1 : Int32) (I : Nat → Nat → Int32) (J : Nat → Nat → Int64), GQ 3 x0 x1 I J → pmC g kRd_readAltered (d + 3) 0 0 [.ref 13, .int x0, .int x1] (pk_K ++ ex, R, I, J) (.returned none) (pk_K ++ ex, R, G 3 x0 x1 I J, J)) (o : Outcome) (Z : pmM)  (y1 : Int32) (I : Nat → Nat → Int32) (J : Nat → Nat → Int64) (hp : pRd_readExpression_L_37 G GQ y1 I J) (ho : o = .returned none) (hz : Z = (pk_K ++ ex, R, (fRd_readExpression_L_37 G y1 I J), J)) : pmE g kRd_readExpression (d + 4) 0 0 37 [(0, .ref 13), (1, .int y1)] [] (pk_K ++ ex) R I J o Z := by
  unfold pRd_readExpression_L_37 at hp
  refine pm_aload_n dRd_readExpression_37 rfl ?_
  refine pm_iconst (v := 1) dRd_readExpression_38 (by decide) ?_
  refine pm_callV dRd_readExpression_39 lRd_100 vRd_expect ⟨_, _, rfl⟩ (Rd_expect_ok _ _ _ _ hR _ _ _ hp.1) rfl rfl rfl (Nat.le_of_ble_eq_true rfl) (Nat.le_refl _) (Nat.le_refl _) ?_
  refine pm_wk [0, 1] rfl ?_
  exact Rd_readExpression_L_n42 g d ex R hR hc G GQ hG0 hG1 hG2 hG3 _ _   _ _ _ _ hp.2 ho (hz.trans (by first | rfl | (simp only [fRd_readExpression_L_37]; done) | (simp only [fRd_readExpression_L_37]; rfl)))
set_option maxHeartbeats 4000000 in
set_option maxRecDepth 100000 in
theorem Rd_readExpression_L_n30 (g : pmG) (d : Nat) (ex : List (Nat × Nat)) (R : Nat → Nat → Value) (hR : pk_R R) (hc : R 13 8 = .ref 7) (G : Nat → Int32 → Int32 → (Nat → Nat → Int32) → (Nat → Nat → Int64) → (Nat → Nat → Int32)) (GQ : Nat → Int32 → Int32 → (Nat → Nat → Int32) → (Nat → Nat → Int64) → Prop) (hG0 : ∀ (x0 x1 : Int32) (I : Nat → Nat → Int32) (J : Nat → Nat → Int64), GQ 0 x0 x1 I J → pmC g kRd_readExpression (d + 3) 0 0 [.ref 13, .int x0] (pk_K ++ ex, R, I, J) (.returned none) (pk_K ++ ex, R, G 0 x0 x1 I J, J)) (hG1 : ∀ (x0 x1 : Int32) (I : Nat → Nat → Int32) (J : Nat → Nat → Int64), GQ 1 x0 x1 I J → pmC g kRd_readOperands (d + 3) 0 0 [.ref 13, .int x0] (pk_K ++ ex, R, I, J) (.returned none) (pk_K ++ ex, R, G 1 x0 x1 I J, J)) (hG2 : ∀ (x0 x1 : Int32) (I : Nat → Nat → Int32) (J : Nat → Nat → Int64), GQ 2 x0 x1 I J → pmC g kRd_readUnary (d + 3) 0 0 [.ref 13, .int x0] (pk_K ++ ex, R, I, J) (.returned none) (pk_K ++ ex, R, G 2 x0 x1 I J, J)) (hG3 : ∀ (x0 x1 : Int32) (I : Nat → Nat → Int32) (J : Nat → Nat → Int64), GQ 3 x0 x1 I J → pmC g kRd_readAltered (d + 3) 0 0 [.ref 13, .int x0, .int x1] (pk_K ++ ex, R, I, J) (.returned none) (pk_K ++ ex, R, G 3 x0 x1 I J, J)) (o : Outcome) (Z : pmM)  (y1 : Int32) (I : Nat → Nat → Int32) (J : Nat → Nat → Int64) (hp : pRd_readExpression_L_30 G GQ y1 I J) (ho : o = .returned none) (hz : Z = (pk_K ++ ex, R, (fRd_readExpression_L_30 G y1 I J), J)) : pmE g kRd_readExpression (d + 4) 0 0 30 [(0, .ref 13), (1, .int y1)] [] (pk_K ++ ex) R I J o Z := by
  unfold pRd_readExpression_L_30 at hp
  refine pm_aload_n dRd_readExpression_30 rfl ?_
  refine pm_iload_n dRd_readExpression_31 rfl ?_
  refine pm_iconst (v := 1) dRd_readExpression_32 (by decide) ?_
  refine pm_iadd dRd_readExpression_33 ?_
  refine pm_callV dRd_readExpression_34 lRd_122 vRd_readExpression ⟨_, _, rfl⟩ (hG0 _ 0 _ _ hp.1) rfl rfl rfl (Nat.le_of_ble_eq_true rfl) (Nat.le_refl _) (Nat.le_refl _) ?_
  refine pm_wk [0, 1] rfl ?_
  exact Rd_readExpression_L_n37 g d ex R hR hc G GQ hG0 hG1 hG2 hG3 _ _   _ _ _ hp.2 ho (hz.trans (by first | rfl | (simp only [fRd_readExpression_L_30]; done) | (simp only [fRd_readExpression_L_30]; rfl)))
set_option maxHeartbeats 4000000 in
set_option maxRecDepth 100000 in
theorem Rd_readExpression_L_n26 (g : pmG) (d : Nat) (ex : List (Nat × Nat)) (R : Nat → Nat → Value) (hR : pk_R R) (hc : R 13 8 = .ref 7) (G : Nat → Int32 → Int32 → (Nat → Nat → Int32) → (Nat → Nat → Int64) → (Nat → Nat → Int32)) (GQ : Nat → Int32 → Int32 → (Nat → Nat → Int32) → (Nat → Nat → Int64) → Prop) (hG0 : ∀ (x0 x1 : Int32) (I : Nat → Nat → Int32) (J : Nat → Nat → Int64), GQ 0 x0 x1 I J → pmC g kRd_readExpression (d + 3) 0 0 [.ref 13, .int x0] (pk_K ++ ex, R, I, J) (.returned none) (pk_K ++ ex, R, G 0 x0 x1 I J, J)) (hG1 : ∀ (x0 x1 : Int32) (I : Nat → Nat → Int32) (J : Nat → Nat → Int64), GQ 1 x0 x1 I J → pmC g kRd_readOperands (d + 3) 0 0 [.ref 13, .int x0] (pk_K ++ ex, R, I, J) (.returned none) (pk_K ++ ex, R, G 1 x0 x1 I J, J)) (hG2 : ∀ (x0 x1 : Int32) (I : Nat → Nat → Int32) (J : Nat → Nat → Int64), GQ 2 x0 x1 I J → pmC g kRd_readUnary (d + 3) 0 0 [.ref 13, .int x0] (pk_K ++ ex, R, I, J) (.returned none) (pk_K ++ ex, R, G 2 x0 x1 I J, J)) (hG3 : ∀ (x0 x1 : Int32) (I : Nat → Nat → Int32) (J : Nat → Nat → Int64), GQ 3 x0 x1 I J → pmC g kRd_readAltered (d + 3) 0 0 [.ref 13, .int x0, .int x1] (pk_K ++ ex, R, I, J) (.returned none) (pk_K ++ ex, R, G 3 x0 x1 I J, J)) (o : Outcome) (Z : pmM)  (y1 : Int32) (I : Nat → Nat → Int32) (J : Nat → Nat → Int64) (hp : pRd_readExpression_L_26 G GQ y1 I J) (ho : o = .returned none) (hz : Z = (pk_K ++ ex, R, (fRd_readExpression_L_26 G y1 I J), J)) : pmE g kRd_readExpression (d + 4) 0 0 26 [(0, .ref 13), (1, .int y1)] [] (pk_K ++ ex) R I J o Z := by
  unfold pRd_readExpression_L_26 at hp
  refine pm_aload_n dRd_readExpression_26 rfl ?_
  refine pm_callV dRd_readExpression_27 lRd_139 vRd_advance ⟨_, _, rfl⟩ (Rd_advance_ok _ _ _ _ hR  _ _ hp.1) rfl rfl rfl (Nat.le_of_ble_eq_true rfl) (Nat.le_refl _) (Nat.le_refl _) ?_
  refine pm_wk [0, 1] rfl ?_
  exact Rd_readExpression_L_n30 g d ex R hR hc G GQ hG0 hG1 hG2 hG3 _ _   _ _ _ hp.2 ho (hz.trans (by first | rfl | (simp only [fRd_readExpression_L_26]; done) | (simp only [fRd_readExpression_L_26]; rfl)))
set_option maxHeartbeats 4000000 in
set_option maxRecDepth 100000 in
theorem Rd_readExpression_L_n14 (g : pmG) (d : Nat) (ex : List (Nat × Nat)) (R : Nat → Nat → Value) (hR : pk_R R) (hc : R 13 8 = .ref 7) (G : Nat → Int32 → Int32 → (Nat → Nat → Int32) → (Nat → Nat → Int64) → (Nat → Nat → Int32)) (GQ : Nat → Int32 → Int32 → (Nat → Nat → Int32) → (Nat → Nat → Int64) → Prop) (hG0 : ∀ (x0 x1 : Int32) (I : Nat → Nat → Int32) (J : Nat → Nat → Int64), GQ 0 x0 x1 I J → pmC g kRd_readExpression (d + 3) 0 0 [.ref 13, .int x0] (pk_K ++ ex, R, I, J) (.returned none) (pk_K ++ ex, R, G 0 x0 x1 I J, J)) (hG1 : ∀ (x0 x1 : Int32) (I : Nat → Nat → Int32) (J : Nat → Nat → Int64), GQ 1 x0 x1 I J → pmC g kRd_readOperands (d + 3) 0 0 [.ref 13, .int x0] (pk_K ++ ex, R, I, J) (.returned none) (pk_K ++ ex, R, G 1 x0 x1 I J, J)) (hG2 : ∀ (x0 x1 : Int32) (I : Nat → Nat → Int32) (J : Nat → Nat → Int64), GQ 2 x0 x1 I J → pmC g kRd_readUnary (d + 3) 0 0 [.ref 13, .int x0] (pk_K ++ ex, R, I, J) (.returned none) (pk_K ++ ex, R, G 2 x0 x1 I J, J)) (hG3 : ∀ (x0 x1 : Int32) (I : Nat → Nat → Int32) (J : Nat → Nat → Int64), GQ 3 x0 x1 I J → pmC g kRd_readAltered (d + 3) 0 0 [.ref 13, .int x0, .int x1] (pk_K ++ ex, R, I, J) (.returned none) (pk_K ++ ex, R, G 3 x0 x1 I J, J)) (o : Outcome) (Z : pmM)  (y1 : Int32) (I : Nat → Nat → Int32) (J : Nat → Nat → Int64) (hp : pRd_readExpression_L_14 G GQ y1 I J) (ho : o = .returned none) (hz : Z = (pk_K ++ ex, R, (fRd_readExpression_L_14 G y1 I J), J)) : pmE g kRd_readExpression (d + 4) 0 0 14 [(0, .ref 13), (1, .int y1)] [] (pk_K ++ ex) R I J o Z := by
  unfold pRd_readExpression_L_14 at hp
  refine pm_aload_n dRd_readExpression_14 rfl ?_
  refine pm_geti dRd_readExpression_15 fRd_52 rfl ?_
  refine pm_iconst (v := 3) dRd_readExpression_18 (by decide) ?_
  refine pm_icmp_ne 60 dRd_readExpression_19 (by decide) (fun h19 => ?_) (fun h19 => ?_)
  ·
    exact pm_vret dRd_readExpression_60 rfl ho (hz.trans (by first | (simp only [fRd_readExpression_L_14, if_neg h19]; done) | (simp only [fRd_readExpression_L_14, if_neg h19]; rfl) | rfl))
  ·
    refine pm_aload_n dRd_readExpression_22 rfl ?_
    refine pm_callV dRd_readExpression_23 lRd_174 vRd_chargeSign ⟨_, _, rfl⟩ (Rd_chargeSign_ok _ _ _ _ hR  _ _ (hp.1 h19).1) rfl rfl rfl (Nat.le_of_ble_eq_true rfl) (Nat.le_refl _) (Nat.le_refl _) ?_
    refine pm_wk [0, 1] rfl ?_
    exact Rd_readExpression_L_n26 g d ex R hR hc G GQ hG0 hG1 hG2 hG3 _ _   _ _ _ (hp.1 h19).2 ho (hz.trans (by first | (simp only [fRd_readExpression_L_14, if_pos h19]; done) | (simp only [fRd_readExpression_L_14, if_pos h19]; rfl) | rfl))
set_option maxHeartbeats 4000000 in
set_option maxRecDepth 100000 in
theorem Rd_readExpression_L_n5 (g : pmG) (d : Nat) (ex : List (Nat × Nat)) (R : Nat → Nat → Value) (hR : pk_R R) (hc : R 13 8 = .ref 7) (G : Nat → Int32 → Int32 → (Nat → Nat → Int32) → (Nat → Nat → Int64) → (Nat → Nat → Int32)) (GQ : Nat → Int32 → Int32 → (Nat → Nat → Int32) → (Nat → Nat → Int64) → Prop) (hG0 : ∀ (x0 x1 : Int32) (I : Nat → Nat → Int32) (J : Nat → Nat → Int64), GQ 0 x0 x1 I J → pmC g kRd_readExpression (d + 3) 0 0 [.ref 13, .int x0] (pk_K ++ ex, R, I, J) (.returned none) (pk_K ++ ex, R, G 0 x0 x1 I J, J)) (hG1 : ∀ (x0 x1 : Int32) (I : Nat → Nat → Int32) (J : Nat → Nat → Int64), GQ 1 x0 x1 I J → pmC g kRd_readOperands (d + 3) 0 0 [.ref 13, .int x0] (pk_K ++ ex, R, I, J) (.returned none) (pk_K ++ ex, R, G 1 x0 x1 I J, J)) (hG2 : ∀ (x0 x1 : Int32) (I : Nat → Nat → Int32) (J : Nat → Nat → Int64), GQ 2 x0 x1 I J → pmC g kRd_readUnary (d + 3) 0 0 [.ref 13, .int x0] (pk_K ++ ex, R, I, J) (.returned none) (pk_K ++ ex, R, G 2 x0 x1 I J, J)) (hG3 : ∀ (x0 x1 : Int32) (I : Nat → Nat → Int32) (J : Nat → Nat → Int64), GQ 3 x0 x1 I J → pmC g kRd_readAltered (d + 3) 0 0 [.ref 13, .int x0, .int x1] (pk_K ++ ex, R, I, J) (.returned none) (pk_K ++ ex, R, G 3 x0 x1 I J, J)) (o : Outcome) (Z : pmM)  (y1 : Int32) (z0 : Int32) (I : Nat → Nat → Int32) (J : Nat → Nat → Int64) (hp : pRd_readExpression_L_5 G GQ y1 z0 I J) (ho : o = .returned none) (hz : Z = (pk_K ++ ex, R, (fRd_readExpression_L_5 G y1 z0 I J), J)) : pmE g kRd_readExpression (d + 4) 0 0 5 [(0, .ref 13), (1, .int y1)] [.int z0] (pk_K ++ ex) R I J o Z := by
  unfold pRd_readExpression_L_5 at hp
  refine pm_if_eq 9 dRd_readExpression_5 (by decide) (fun h5 => ?_) (fun h5 => ?_)
  ·
    refine pm_aload_n dRd_readExpression_9 rfl ?_
    refine pm_iload_n dRd_readExpression_10 rfl ?_
    refine pm_callV dRd_readExpression_11 lRd_171 vRd_readOperands ⟨_, _, rfl⟩ (hG1 _ 0 _ _ (hp.1 h5).1) rfl rfl rfl (Nat.le_of_ble_eq_true rfl) (Nat.le_refl _) (Nat.le_refl _) ?_
    refine pm_wk [0, 1] rfl ?_
    exact Rd_readExpression_L_n14 g d ex R hR hc G GQ hG0 hG1 hG2 hG3 _ _   _ _ _ (hp.1 h5).2 ho (hz.trans (by first | (simp only [fRd_readExpression_L_5, if_pos h5]; done) | (simp only [fRd_readExpression_L_5, if_pos h5]; rfl) | rfl))
  ·
    exact pm_vret dRd_readExpression_8 rfl ho (hz.trans (by first | (simp only [fRd_readExpression_L_5, if_neg h5]; done) | (simp only [fRd_readExpression_L_5, if_neg h5]; rfl) | rfl))
set_option maxHeartbeats 4000000 in
set_option maxRecDepth 100000 in
theorem Rd_readExpression_L_n0 (g : pmG) (d : Nat) (ex : List (Nat × Nat)) (R : Nat → Nat → Value) (hR : pk_R R) (hc : R 13 8 = .ref 7) (G : Nat → Int32 → Int32 → (Nat → Nat → Int32) → (Nat → Nat → Int64) → (Nat → Nat → Int32)) (GQ : Nat → Int32 → Int32 → (Nat → Nat → Int32) → (Nat → Nat → Int64) → Prop) (hG0 : ∀ (x0 x1 : Int32) (I : Nat → Nat → Int32) (J : Nat → Nat → Int64), GQ 0 x0 x1 I J → pmC g kRd_readExpression (d + 3) 0 0 [.ref 13, .int x0] (pk_K ++ ex, R, I, J) (.returned none) (pk_K ++ ex, R, G 0 x0 x1 I J, J)) (hG1 : ∀ (x0 x1 : Int32) (I : Nat → Nat → Int32) (J : Nat → Nat → Int64), GQ 1 x0 x1 I J → pmC g kRd_readOperands (d + 3) 0 0 [.ref 13, .int x0] (pk_K ++ ex, R, I, J) (.returned none) (pk_K ++ ex, R, G 1 x0 x1 I J, J)) (hG2 : ∀ (x0 x1 : Int32) (I : Nat → Nat → Int32) (J : Nat → Nat → Int64), GQ 2 x0 x1 I J → pmC g kRd_readUnary (d + 3) 0 0 [.ref 13, .int x0] (pk_K ++ ex, R, I, J) (.returned none) (pk_K ++ ex, R, G 2 x0 x1 I J, J)) (hG3 : ∀ (x0 x1 : Int32) (I : Nat → Nat → Int32) (J : Nat → Nat → Int64), GQ 3 x0 x1 I J → pmC g kRd_readAltered (d + 3) 0 0 [.ref 13, .int x0, .int x1] (pk_K ++ ex, R, I, J) (.returned none) (pk_K ++ ex, R, G 3 x0 x1 I J, J)) (o : Outcome) (Z : pmM)  (y1 : Int32) (I : Nat → Nat → Int32) (J : Nat → Nat → Int64) (hp : pRd_readExpression_L G GQ y1 I J) (ho : o = .returned none) (hz : Z = (pk_K ++ ex, R, (fRd_readExpression_L G y1 I J), J)) : pmE g kRd_readExpression (d + 4) 0 0 0 [(0, .ref 13), (1, .int y1)] [] (pk_K ++ ex) R I J o Z := by
  unfold pRd_readExpression_L at hp
  refine pm_aload_n dRd_readExpression_0 rfl ?_
  refine pm_iload_n dRd_readExpression_1 rfl ?_
  refine pm_callV dRd_readExpression_2 lRd_168 vRd_isTooDeep ⟨_, _, rfl⟩ (Rd_isTooDeep_ok _ _ _ _ hR _ _ _ hp.1) rfl rfl rfl (Nat.le_of_ble_eq_true rfl) (Nat.le_refl _) (Nat.le_refl _) ?_
  refine pm_wk [0, 1] rfl ?_
  exact Rd_readExpression_L_n5 g d ex R hR hc G GQ hG0 hG1 hG2 hG3 _ _   _ _ _ _ hp.2 ho (hz.trans (by first | rfl | (simp only [fRd_readExpression_L]; done) | (simp only [fRd_readExpression_L]; rfl)))
set_option maxHeartbeats 4000000 in
set_option maxRecDepth 100000 in
theorem Rd_readExpression_L_ok (g : pmG) (d : Nat) (ex : List (Nat × Nat)) (R : Nat → Nat → Value) (hR : pk_R R) (hc : R 13 8 = .ref 7) (G : Nat → Int32 → Int32 → (Nat → Nat → Int32) → (Nat → Nat → Int64) → (Nat → Nat → Int32)) (GQ : Nat → Int32 → Int32 → (Nat → Nat → Int32) → (Nat → Nat → Int64) → Prop) (hG0 : ∀ (x0 x1 : Int32) (I : Nat → Nat → Int32) (J : Nat → Nat → Int64), GQ 0 x0 x1 I J → pmC g kRd_readExpression (d + 3) 0 0 [.ref 13, .int x0] (pk_K ++ ex, R, I, J) (.returned none) (pk_K ++ ex, R, G 0 x0 x1 I J, J)) (hG1 : ∀ (x0 x1 : Int32) (I : Nat → Nat → Int32) (J : Nat → Nat → Int64), GQ 1 x0 x1 I J → pmC g kRd_readOperands (d + 3) 0 0 [.ref 13, .int x0] (pk_K ++ ex, R, I, J) (.returned none) (pk_K ++ ex, R, G 1 x0 x1 I J, J)) (hG2 : ∀ (x0 x1 : Int32) (I : Nat → Nat → Int32) (J : Nat → Nat → Int64), GQ 2 x0 x1 I J → pmC g kRd_readUnary (d + 3) 0 0 [.ref 13, .int x0] (pk_K ++ ex, R, I, J) (.returned none) (pk_K ++ ex, R, G 2 x0 x1 I J, J)) (hG3 : ∀ (x0 x1 : Int32) (I : Nat → Nat → Int32) (J : Nat → Nat → Int64), GQ 3 x0 x1 I J → pmC g kRd_readAltered (d + 3) 0 0 [.ref 13, .int x0, .int x1] (pk_K ++ ex, R, I, J) (.returned none) (pk_K ++ ex, R, G 3 x0 x1 I J, J))  (x0 : Int32) (I : Nat → Nat → Int32) (J : Nat → Nat → Int64) (hp : pRd_readExpression_L G GQ x0 I J) : pmC g kRd_readExpression (d + 4) 0 0 [.ref 13, .int x0] (pk_K ++ ex, R, I, J) (.returned none) (pk_K ++ ex, R, (fRd_readExpression_L G x0 I J), J) :=
  pmC.of (by decide) (Nat.le_of_ble_eq_true rfl) (Rd_readExpression_L_n0 g d ex R hR hc G GQ hG0 hG1 hG2 hG3 _ _  x0 I J hp rfl rfl)
def fRd_readOperands_L_62 (G : Nat → Int32 → Int32 → (Nat → Nat → Int32) → (Nat → Nat → Int64) → (Nat → Nat → Int32)) (r12 : Int32 → Int32 → Int32 → (Nat → Nat → Int32) → (Nat → Nat → Int64) → (Nat → Nat → Int32)) (y1 : Int32) (y2 : Int32) (y3 : Int32) (I : Nat → Nat → Int32) (J : Nat → Nat → Int64) : (Nat → Nat → Int32) :=
  r12 y1 y2 (y3 + Int32.ofInt 1) I J
def pRd_readOperands_L_62 (G : Nat → Int32 → Int32 → (Nat → Nat → Int32) → (Nat → Nat → Int64) → (Nat → Nat → Int32)) (GQ : Nat → Int32 → Int32 → (Nat → Nat → Int32) → (Nat → Nat → Int64) → Prop) (q12 : Int32 → Int32 → Int32 → (Nat → Nat → Int32) → (Nat → Nat → Int64) → Prop) (y1 : Int32) (y2 : Int32) (y3 : Int32) (I : Nat → Nat → Int32) (J : Nat → Nat → Int64) : Prop :=
  q12 y1 y2 (y3 + Int32.ofInt 1) I J
def fRd_readOperands_L_57 (G : Nat → Int32 → Int32 → (Nat → Nat → Int32) → (Nat → Nat → Int64) → (Nat → Nat → Int32)) (r12 : Int32 → Int32 → Int32 → (Nat → Nat → Int32) → (Nat → Nat → Int64) → (Nat → Nat → Int32)) (y1 : Int32) (y2 : Int32) (y3 : Int32) (I : Nat → Nat → Int32) (J : Nat → Nat → Int64) : (Nat → Nat → Int32) :=
  fRd_readOperands_L_62 G r12 y1 y2 y3 (G 2 y1 0 I J) J
def pRd_readOperands_L_57 (G : Nat → Int32 → Int32 → (Nat → Nat → Int32) → (Nat → Nat → Int64) → (Nat → Nat → Int32)) (GQ : Nat → Int32 → Int32 → (Nat → Nat → Int32) → (Nat → Nat → Int64) → Prop) (q12 : Int32 → Int32 → Int32 → (Nat → Nat → Int32) → (Nat → Nat → Int64) → Prop) (y1 : Int32) (y2 : Int32) (y3 : Int32) (I : Nat → Nat → Int32) (J : Nat → Nat → Int64) : Prop :=
  (GQ 2 y1 0 I J) ∧ (pRd_readOperands_L_62 G GQ q12 y1 y2 y3 (G 2 y1 0 I J) J)
def fRd_readOperands_L_53 (G : Nat → Int32 → Int32 → (Nat → Nat → Int32) → (Nat → Nat → Int64) → (Nat → Nat → Int32)) (r12 : Int32 → Int32 → Int32 → (Nat → Nat → Int32) → (Nat → Nat → Int64) → (Nat → Nat → Int32)) (y1 : Int32) (y2 : Int32) (y3 : Int32) (I : Nat → Nat → Int32) (J : Nat → Nat → Int64) : (Nat → Nat → Int32) :=
  fRd_readOperands_L_57 G r12 y1 y2 y3 ((fRd_advance I J)) J
def pRd_readOperands_L_53 (G : Nat → Int32 → Int32 → (Nat → Nat → Int32) → (Nat → Nat → Int64) → (Nat → Nat → Int32)) (GQ : Nat → Int32 → Int32 → (Nat → Nat → Int32) → (Nat → Nat → Int64) → Prop) (q12 : Int32 → Int32 → Int32 → (Nat → Nat → Int32) → (Nat → Nat → Int64) → Prop) (y1 : Int32) (y2 : Int32) (y3 : Int32) (I : Nat → Nat → Int32) (J : Nat → Nat → Int64) : Prop :=
  (pRd_advance I J) ∧ (pRd_readOperands_L_57 G GQ q12 y1 y2 y3 ((fRd_advance I J)) J)
def fRd_readOperands_L_49 (G : Nat → Int32 → Int32 → (Nat → Nat → Int32) → (Nat → Nat → Int64) → (Nat → Nat → Int32)) (r12 : Int32 → Int32 → Int32 → (Nat → Nat → Int32) → (Nat → Nat → Int64) → (Nat → Nat → Int32)) (y1 : Int32) (y2 : Int32) (y3 : Int32) (I : Nat → Nat → Int32) (J : Nat → Nat → Int64) : (Nat → Nat → Int32) :=
  fRd_readOperands_L_53 G r12 y1 y2 y3 ((fRd_chargeSign I J)) J
def pRd_readOperands_L_49 (G : Nat → Int32 → Int32 → (Nat → Nat → Int32) → (Nat → Nat → Int64) → (Nat → Nat → Int32)) (GQ : Nat → Int32 → Int32 → (Nat → Nat → Int32) → (Nat → Nat → Int64) → Prop) (q12 : Int32 → Int32 → Int32 → (Nat → Nat → Int32) → (Nat → Nat → Int64) → Prop) (y1 : Int32) (y2 : Int32) (y3 : Int32) (I : Nat → Nat → Int32) (J : Nat → Nat → Int64) : Prop :=
  (pRd_chargeSign I J) ∧ (pRd_readOperands_L_53 G GQ q12 y1 y2 y3 ((fRd_chargeSign I J)) J)
def fRd_readOperands_L_41 (G : Nat → Int32 → Int32 → (Nat → Nat → Int32) → (Nat → Nat → Int64) → (Nat → Nat → Int32)) (r12 : Int32 → Int32 → Int32 → (Nat → Nat → Int32) → (Nat → Nat → Int64) → (Nat → Nat → Int32)) (y1 : Int32) (y2 : Int32) (y3 : Int32) (I : Nat → Nat → Int32) (J : Nat → Nat → Int64) : (Nat → Nat → Int32) :=
  fRd_readOperands_L_49 G r12 y1 y2 y3 ((fRd_await (I 13 3) I J)) J
def pRd_readOperands_L_41 (G : Nat → Int32 → Int32 → (Nat → Nat → Int32) → (Nat → Nat → Int64) → (Nat → Nat → Int32)) (GQ : Nat → Int32 → Int32 → (Nat → Nat → Int32) → (Nat → Nat → Int64) → Prop) (q12 : Int32 → Int32 → Int32 → (Nat → Nat → Int32) → (Nat → Nat → Int64) → Prop) (y1 : Int32) (y2 : Int32) (y3 : Int32) (I : Nat → Nat → Int32) (J : Nat → Nat → Int64) : Prop :=
  (pRd_await (I 13 3) I J) ∧ (pRd_readOperands_L_49 G GQ q12 y1 y2 y3 ((fRd_await (I 13 3) I J)) J)
def fRd_readOperands_L_68 (G : Nat → Int32 → Int32 → (Nat → Nat → Int32) → (Nat → Nat → Int64) → (Nat → Nat → Int32)) (y1 : Int32) (y2 : Int32) (y3 : Int32) (I : Nat → Nat → Int32) (J : Nat → Nat → Int64) : (Nat → Nat → Int32) :=
  (fRd_settle_L 126 y2 (1 : Int32) I J)
def pRd_readOperands_L_68 (G : Nat → Int32 → Int32 → (Nat → Nat → Int32) → (Nat → Nat → Int64) → (Nat → Nat → Int32)) (GQ : Nat → Int32 → Int32 → (Nat → Nat → Int32) → (Nat → Nat → Int64) → Prop) (y1 : Int32) (y2 : Int32) (y3 : Int32) (I : Nat → Nat → Int32) (J : Nat → Nat → Int64) : Prop :=
  (pRd_settle_L 126 y2 (1 : Int32) I J) ∧ True
def fRd_readOperands_L_12 (G : Nat → Int32 → Int32 → (Nat → Nat → Int32) → (Nat → Nat → Int64) → (Nat → Nat → Int32)) : Nat → Int32 → Int32 → Int32 → (Nat → Nat → Int32) → (Nat → Nat → Int64) → (Nat → Nat → Int32)
  | 0, _, _, _, I, _ => I
  | n + 1, y1, y2, y3, I, J =>
  if (4000 : Int32) < y3 then fRd_readOperands_L_68 G y1 y2 y3 I J
  else if ((fRd_tightness (I 13 3) I J)) ≤ 0 then fRd_readOperands_L_68 G y1 y2 y3 I J
    else fRd_readOperands_L_41 G (fRd_readOperands_L_12 G n) y1 y2 y3 ((fRd_settle_L 126 y2 ((fRd_tightness (I 13 3) I J)) I J)) J
def pRd_readOperands_L_12 (G : Nat → Int32 → Int32 → (Nat → Nat → Int32) → (Nat → Nat → Int64) → (Nat → Nat → Int32)) (GQ : Nat → Int32 → Int32 → (Nat → Nat → Int32) → (Nat → Nat → Int64) → Prop) : Nat → Int32 → Int32 → Int32 → (Nat → Nat → Int32) → (Nat → Nat → Int64) → Prop
  | 0, _, _, _, _, _ => False
  | n + 1, y1, y2, y3, I, J =>
  ((4000 : Int32) < y3 → pRd_readOperands_L_68 G GQ y1 y2 y3 I J) ∧
  (¬ ((4000 : Int32) < y3) → (pRd_tightness (I 13 3) I J) ∧ ((((fRd_tightness (I 13 3) I J)) ≤ 0 → pRd_readOperands_L_68 G GQ y1 y2 y3 I J) ∧
    (¬ (((fRd_tightness (I 13 3) I J)) ≤ 0) → (pRd_tightness (I 13 3) I J) ∧ ((pRd_settle_L 126 y2 ((fRd_tightness (I 13 3) I J)) I J) ∧ (pRd_readOperands_L_41 G GQ (pRd_readOperands_L_12 G GQ n) y1 y2 y3 ((fRd_settle_L 126 y2 ((fRd_tightness (I 13 3) I J)) I J)) J)))))
def fRd_readOperands_L_10 (G : Nat → Int32 → Int32 → (Nat → Nat → Int32) → (Nat → Nat → Int64) → (Nat → Nat → Int32)) (n12 : Nat) (y1 : Int32) (y2 : Int32) (I : Nat → Nat → Int32) (J : Nat → Nat → Int64) : (Nat → Nat → Int32) :=
  fRd_readOperands_L_12 G n12 y1 y2 (0 : Int32) I J
def pRd_readOperands_L_10 (G : Nat → Int32 → Int32 → (Nat → Nat → Int32) → (Nat → Nat → Int64) → (Nat → Nat → Int32)) (GQ : Nat → Int32 → Int32 → (Nat → Nat → Int32) → (Nat → Nat → Int64) → Prop) (n12 : Nat) (y1 : Int32) (y2 : Int32) (I : Nat → Nat → Int32) (J : Nat → Nat → Int64) : Prop :=
  pRd_readOperands_L_12 G GQ n12 y1 y2 (0 : Int32) I J
def fRd_readOperands_L (G : Nat → Int32 → Int32 → (Nat → Nat → Int32) → (Nat → Nat → Int64) → (Nat → Nat → Int32)) (n12 : Nat) (y1 : Int32) (I : Nat → Nat → Int32) (J : Nat → Nat → Int64) : (Nat → Nat → Int32) :=
  fRd_readOperands_L_10 G n12 y1 (I 13 7) (G 2 y1 0 I J) J
def pRd_readOperands_L (G : Nat → Int32 → Int32 → (Nat → Nat → Int32) → (Nat → Nat → Int64) → (Nat → Nat → Int32)) (GQ : Nat → Int32 → Int32 → (Nat → Nat → Int32) → (Nat → Nat → Int64) → Prop) (n12 : Nat) (y1 : Int32) (I : Nat → Nat → Int32) (J : Nat → Nat → Int64) : Prop :=
  (GQ 2 y1 0 I J) ∧ (pRd_readOperands_L_10 G GQ n12 y1 (I 13 7) (G 2 y1 0 I J) J)
set_option maxHeartbeats 4000000 in
set_option maxRecDepth 100000 in
theorem Rd_readOperands_L_n62 (g : pmG) (d : Nat) (ex : List (Nat × Nat)) (R : Nat → Nat → Value) (hR : pk_R R) (hc : R 13 8 = .ref 7) (G : Nat → Int32 → Int32 → (Nat → Nat → Int32) → (Nat → Nat → Int64) → (Nat → Nat → Int32)) (GQ : Nat → Int32 → Int32 → (Nat → Nat → Int32) → (Nat → Nat → Int64) → Prop) (hG0 : ∀ (x0 x1 : Int32) (I : Nat → Nat → Int32) (J : Nat → Nat → Int64), GQ 0 x0 x1 I J → pmC g kRd_readExpression (d + 3) 0 0 [.ref 13, .int x0] (pk_K ++ ex, R, I, J) (.returned none) (pk_K ++ ex, R, G 0 x0 x1 I J, J)) (hG1 : ∀ (x0 x1 : Int32) (I : Nat → Nat → Int32) (J : Nat → Nat → Int64), GQ 1 x0 x1 I J → pmC g kRd_readOperands (d + 3) 0 0 [.ref 13, .int x0] (pk_K ++ ex, R, I, J) (.returned none) (pk_K ++ ex, R, G 1 x0 x1 I J, J)) (hG2 : ∀ (x0 x1 : Int32) (I : Nat → Nat → Int32) (J : Nat → Nat → Int64), GQ 2 x0 x1 I J → pmC g kRd_readUnary (d + 3) 0 0 [.ref 13, .int x0] (pk_K ++ ex, R, I, J) (.returned none) (pk_K ++ ex, R, G 2 x0 x1 I J, J)) (hG3 : ∀ (x0 x1 : Int32) (I : Nat → Nat → Int32) (J : Nat → Nat → Int64), GQ 3 x0 x1 I J → pmC g kRd_readAltered (d + 3) 0 0 [.ref 13, .int x0, .int x1] (pk_K ++ ex, R, I, J) (.returned none) (pk_K ++ ex, R, G 3 x0 x1 I J, J)) (o : Outcome) (Z : pmM) (r12 : Int32 → Int32 → Int32 → (Nat → Nat → Int32) → (Nat → Nat → Int64) → (Nat → Nat → Int32)) (q12 : Int32 → Int32 → Int32 → (Nat → Nat → Int32) → (Nat → Nat → Int64) → Prop) (ih12 : ∀ (y1 : Int32) (y2 : Int32) (y3 : Int32) (I : Nat → Nat → Int32) (J : Nat → Nat → Int64), q12 y1 y2 y3 I J → o = .returned none → Z = (pk_K ++ ex, R, (r12 y1 y2 y3 I J), J) → pmE g kRd_readOperands (d + 4) 0 0 12 [(0, .ref 13), (1, .int y1), (2, .int y2), (3, .int y3)] [] (pk_K ++ ex) R I J o Z)  (y1 : Int32) (y2 : Int32) (y3 : Int32) (I : Nat → Nat → Int32) (J : Nat → Nat → Int64) (hp : pRd_readOperands_L_62 G GQ q12 y1 y2 y3 I J) (ho : o = .returned none) (hz : Z = (pk_K ++ ex, R, (fRd_readOperands_L_62 G r12 y1 y2 y3 I J), J)) : pmE g kRd_readOperands (d + 4) 0 0 62 [(0, .ref 13), (1, .int y1), (2, .int y2), (3, .int y3)] [] (pk_K ++ ex) R I J o Z := by
  unfold pRd_readOperands_L_62 at hp
  refine pm_iinc dRd_readOperands_62 rfl (by decide) rfl ?_
  refine pm_goto 12 dRd_readOperands_65 (by decide) ?_
  refine pm_wk [1, 2, 3, 0] rfl ?_
  exact ih12 _ _ _ _ _ hp ho (hz.trans (by first | rfl | (simp only [fRd_readOperands_L_62]; done) | (simp only [fRd_readOperands_L_62]; rfl)))
set_option maxHeartbeats 4000000 in
set_option maxRecDepth 100000 in
theorem Rd_readOperands_L_n57 (g : pmG) (d : Nat) (ex : List (Nat × Nat)) (R : Nat → Nat → Value) (hR : pk_R R) (hc : R 13 8 = .ref 7) (G : Nat → Int32 → Int32 → (Nat → Nat → Int32) → (Nat → Nat → Int64) → (Nat → Nat → Int32)) (GQ : Nat → Int32 → Int32 → (Nat → Nat → Int32) → (Nat → Nat → Int64) → Prop) (hG0 : ∀ (x0 x1 : Int32) (I : Nat → Nat → Int32) (J : Nat → Nat → Int64), GQ 0 x0 x1 I J → pmC g kRd_readExpression (d + 3) 0 0 [.ref 13, .int x0] (pk_K ++ ex, R, I, J) (.returned none) (pk_K ++ ex, R, G 0 x0 x1 I J, J)) (hG1 : ∀ (x0 x1 : Int32) (I : Nat → Nat → Int32) (J : Nat → Nat → Int64), GQ 1 x0 x1 I J → pmC g kRd_readOperands (d + 3) 0 0 [.ref 13, .int x0] (pk_K ++ ex, R, I, J) (.returned none) (pk_K ++ ex, R, G 1 x0 x1 I J, J)) (hG2 : ∀ (x0 x1 : Int32) (I : Nat → Nat → Int32) (J : Nat → Nat → Int64), GQ 2 x0 x1 I J → pmC g kRd_readUnary (d + 3) 0 0 [.ref 13, .int x0] (pk_K ++ ex, R, I, J) (.returned none) (pk_K ++ ex, R, G 2 x0 x1 I J, J)) (hG3 : ∀ (x0 x1 : Int32) (I : Nat → Nat → Int32) (J : Nat → Nat → Int64), GQ 3 x0 x1 I J → pmC g kRd_readAltered (d + 3) 0 0 [.ref 13, .int x0, .int x1] (pk_K ++ ex, R, I, J) (.returned none) (pk_K ++ ex, R, G 3 x0 x1 I J, J)) (o : Outcome) (Z : pmM) (r12 : Int32 → Int32 → Int32 → (Nat → Nat → Int32) → (Nat → Nat → Int64) → (Nat → Nat → Int32)) (q12 : Int32 → Int32 → Int32 → (Nat → Nat → Int32) → (Nat → Nat → Int64) → Prop) (ih12 : ∀ (y1 : Int32) (y2 : Int32) (y3 : Int32) (I : Nat → Nat → Int32) (J : Nat → Nat → Int64), q12 y1 y2 y3 I J → o = .returned none → Z = (pk_K ++ ex, R, (r12 y1 y2 y3 I J), J) → pmE g kRd_readOperands (d + 4) 0 0 12 [(0, .ref 13), (1, .int y1), (2, .int y2), (3, .int y3)] [] (pk_K ++ ex) R I J o Z)  (y1 : Int32) (y2 : Int32) (y3 : Int32) (I : Nat → Nat → Int32) (J : Nat → Nat → Int64) (hp : pRd_readOperands_L_57 G GQ q12 y1 y2 y3 I J) (ho : o = .returned none) (hz : Z = (pk_K ++ ex, R, (fRd_readOperands_L_57 G r12 y1 y2 y3 I J), J)) : pmE g kRd_readOperands (d + 4) 0 0 57 [(0, .ref 13), (1, .int y1), (2, .int y2), (3, .int y3)] [] (pk_K ++ ex) R I J o Z := by
  unfold pRd_readOperands_L_57 at hp
  refine pm_aload_n dRd_readOperands_57 rfl ?_
  refine pm_iload_n dRd_readOperands_58 rfl ?_
  refine pm_callV dRd_readOperands_59 lRd_177 vRd_readUnary ⟨_, _, rfl⟩ (hG2 _ 0 _ _ hp.1) rfl rfl rfl (Nat.le_of_ble_eq_true rfl) (Nat.le_refl _) (Nat.le_refl _) ?_
  refine pm_wk [0, 1, 2, 3] rfl ?_
  exact Rd_readOperands_L_n62 g d ex R hR hc G GQ hG0 hG1 hG2 hG3 _ _ r12 q12 ih12  _ _ _ _ _ hp.2 ho (hz.trans (by first | rfl | (simp only [fRd_readOperands_L_57]; done) | (simp only [fRd_readOperands_L_57]; rfl)))
set_option maxHeartbeats 4000000 in
set_option maxRecDepth 100000 in
theorem Rd_readOperands_L_n53 (g : pmG) (d : Nat) (ex : List (Nat × Nat)) (R : Nat → Nat → Value) (hR : pk_R R) (hc : R 13 8 = .ref 7) (G : Nat → Int32 → Int32 → (Nat → Nat → Int32) → (Nat → Nat → Int64) → (Nat → Nat → Int32)) (GQ : Nat → Int32 → Int32 → (Nat → Nat → Int32) → (Nat → Nat → Int64) → Prop) (hG0 : ∀ (x0 x1 : Int32) (I : Nat → Nat → Int32) (J : Nat → Nat → Int64), GQ 0 x0 x1 I J → pmC g kRd_readExpression (d + 3) 0 0 [.ref 13, .int x0] (pk_K ++ ex, R, I, J) (.returned none) (pk_K ++ ex, R, G 0 x0 x1 I J, J)) (hG1 : ∀ (x0 x1 : Int32) (I : Nat → Nat → Int32) (J : Nat → Nat → Int64), GQ 1 x0 x1 I J → pmC g kRd_readOperands (d + 3) 0 0 [.ref 13, .int x0] (pk_K ++ ex, R, I, J) (.returned none) (pk_K ++ ex, R, G 1 x0 x1 I J, J)) (hG2 : ∀ (x0 x1 : Int32) (I : Nat → Nat → Int32) (J : Nat → Nat → Int64), GQ 2 x0 x1 I J → pmC g kRd_readUnary (d + 3) 0 0 [.ref 13, .int x0] (pk_K ++ ex, R, I, J) (.returned none) (pk_K ++ ex, R, G 2 x0 x1 I J, J)) (hG3 : ∀ (x0 x1 : Int32) (I : Nat → Nat → Int32) (J : Nat → Nat → Int64), GQ 3 x0 x1 I J → pmC g kRd_readAltered (d + 3) 0 0 [.ref 13, .int x0, .int x1] (pk_K ++ ex, R, I, J) (.returned none) (pk_K ++ ex, R, G 3 x0 x1 I J, J)) (o : Outcome) (Z : pmM) (r12 : Int32 → Int32 → Int32 → (Nat → Nat → Int32) → (Nat → Nat → Int64) → (Nat → Nat → Int32)) (q12 : Int32 → Int32 → Int32 → (Nat → Nat → Int32) → (Nat → Nat → Int64) → Prop) (ih12 : ∀ (y1 : Int32) (y2 : Int32) (y3 : Int32) (I : Nat → Nat → Int32) (J : Nat → Nat → Int64), q12 y1 y2 y3 I J → o = .returned none → Z = (pk_K ++ ex, R, (r12 y1 y2 y3 I J), J) → pmE g kRd_readOperands (d + 4) 0 0 12 [(0, .ref 13), (1, .int y1), (2, .int y2), (3, .int y3)] [] (pk_K ++ ex) R I J o Z)  (y1 : Int32) (y2 : Int32) (y3 : Int32) (I : Nat → Nat → Int32) (J : Nat → Nat → Int64) (hp : pRd_readOperands_L_53 G GQ q12 y1 y2 y3 I J) (ho : o = .returned none) (hz : Z = (pk_K ++ ex, R, (fRd_readOperands_L_53 G r12 y1 y2 y3 I J), J)) : pmE g kRd_readOperands (d + 4) 0 0 53 [(0, .ref 13), (1, .int y1), (2, .int y2), (3, .int y3)] [] (pk_K ++ ex) R I J o Z := by
  unfold pRd_readOperands_L_53 at hp
  refine pm_aload_n dRd_readOperands_53 rfl ?_
  refine pm_callV dRd_readOperands_54 lRd_139 vRd_advance ⟨_, _, rfl⟩ (Rd_advance_ok _ _ _ _ hR  _ _ hp.1) rfl rfl rfl (Nat.le_of_ble_eq_true rfl) (Nat.le_refl _) (Nat.le_refl _) ?_
  refine pm_wk [0, 1, 2, 3] rfl ?_
  exact Rd_readOperands_L_n57 g d ex R hR hc G GQ hG0 hG1 hG2 hG3 _ _ r12 q12 ih12  _ _ _ _ _ hp.2 ho (hz.trans (by first | rfl | (simp only [fRd_readOperands_L_53]; done) | (simp only [fRd_readOperands_L_53]; rfl)))
set_option maxHeartbeats 4000000 in
set_option maxRecDepth 100000 in
theorem Rd_readOperands_L_n49 (g : pmG) (d : Nat) (ex : List (Nat × Nat)) (R : Nat → Nat → Value) (hR : pk_R R) (hc : R 13 8 = .ref 7) (G : Nat → Int32 → Int32 → (Nat → Nat → Int32) → (Nat → Nat → Int64) → (Nat → Nat → Int32)) (GQ : Nat → Int32 → Int32 → (Nat → Nat → Int32) → (Nat → Nat → Int64) → Prop) (hG0 : ∀ (x0 x1 : Int32) (I : Nat → Nat → Int32) (J : Nat → Nat → Int64), GQ 0 x0 x1 I J → pmC g kRd_readExpression (d + 3) 0 0 [.ref 13, .int x0] (pk_K ++ ex, R, I, J) (.returned none) (pk_K ++ ex, R, G 0 x0 x1 I J, J)) (hG1 : ∀ (x0 x1 : Int32) (I : Nat → Nat → Int32) (J : Nat → Nat → Int64), GQ 1 x0 x1 I J → pmC g kRd_readOperands (d + 3) 0 0 [.ref 13, .int x0] (pk_K ++ ex, R, I, J) (.returned none) (pk_K ++ ex, R, G 1 x0 x1 I J, J)) (hG2 : ∀ (x0 x1 : Int32) (I : Nat → Nat → Int32) (J : Nat → Nat → Int64), GQ 2 x0 x1 I J → pmC g kRd_readUnary (d + 3) 0 0 [.ref 13, .int x0] (pk_K ++ ex, R, I, J) (.returned none) (pk_K ++ ex, R, G 2 x0 x1 I J, J)) (hG3 : ∀ (x0 x1 : Int32) (I : Nat → Nat → Int32) (J : Nat → Nat → Int64), GQ 3 x0 x1 I J → pmC g kRd_readAltered (d + 3) 0 0 [.ref 13, .int x0, .int x1] (pk_K ++ ex, R, I, J) (.returned none) (pk_K ++ ex, R, G 3 x0 x1 I J, J)) (o : Outcome) (Z : pmM) (r12 : Int32 → Int32 → Int32 → (Nat → Nat → Int32) → (Nat → Nat → Int64) → (Nat → Nat → Int32)) (q12 : Int32 → Int32 → Int32 → (Nat → Nat → Int32) → (Nat → Nat → Int64) → Prop) (ih12 : ∀ (y1 : Int32) (y2 : Int32) (y3 : Int32) (I : Nat → Nat → Int32) (J : Nat → Nat → Int64), q12 y1 y2 y3 I J → o = .returned none → Z = (pk_K ++ ex, R, (r12 y1 y2 y3 I J), J) → pmE g kRd_readOperands (d + 4) 0 0 12 [(0, .ref 13), (1, .int y1), (2, .int y2), (3, .int y3)] [] (pk_K ++ ex) R I J o Z)  (y1 : Int32) (y2 : Int32) (y3 : Int32) (I : Nat → Nat → Int32) (J : Nat → Nat → Int64) (hp : pRd_readOperands_L_49 G GQ q12 y1 y2 y3 I J) (ho : o = .returned none) (hz : Z = (pk_K ++ ex, R, (fRd_readOperands_L_49 G r12 y1 y2 y3 I J), J)) : pmE g kRd_readOperands (d + 4) 0 0 49 [(0, .ref 13), (1, .int y1), (2, .int y2), (3, .int y3)] [] (pk_K ++ ex) R I J o Z := by
  unfold pRd_readOperands_L_49 at hp
  refine pm_aload_n dRd_readOperands_49 rfl ?_
  refine pm_callV dRd_readOperands_50 lRd_174 vRd_chargeSign ⟨_, _, rfl⟩ (Rd_chargeSign_ok _ _ _ _ hR  _ _ hp.1) rfl rfl rfl (Nat.le_of_ble_eq_true rfl) (Nat.le_refl _) (Nat.le_refl _) ?_
  refine pm_wk [0, 1, 2, 3] rfl ?_
  exact Rd_readOperands_L_n53 g d ex R hR hc G GQ hG0 hG1 hG2 hG3 _ _ r12 q12 ih12  _ _ _ _ _ hp.2 ho (hz.trans (by first | rfl | (simp only [fRd_readOperands_L_49]; done) | (simp only [fRd_readOperands_L_49]; rfl)))
set_option maxHeartbeats 4000000 in
set_option maxRecDepth 100000 in
theorem Rd_readOperands_L_n41 (g : pmG) (d : Nat) (ex : List (Nat × Nat)) (R : Nat → Nat → Value) (hR : pk_R R) (hc : R 13 8 = .ref 7) (G : Nat → Int32 → Int32 → (Nat → Nat → Int32) → (Nat → Nat → Int64) → (Nat → Nat → Int32)) (GQ : Nat → Int32 → Int32 → (Nat → Nat → Int32) → (Nat → Nat → Int64) → Prop) (hG0 : ∀ (x0 x1 : Int32) (I : Nat → Nat → Int32) (J : Nat → Nat → Int64), GQ 0 x0 x1 I J → pmC g kRd_readExpression (d + 3) 0 0 [.ref 13, .int x0] (pk_K ++ ex, R, I, J) (.returned none) (pk_K ++ ex, R, G 0 x0 x1 I J, J)) (hG1 : ∀ (x0 x1 : Int32) (I : Nat → Nat → Int32) (J : Nat → Nat → Int64), GQ 1 x0 x1 I J → pmC g kRd_readOperands (d + 3) 0 0 [.ref 13, .int x0] (pk_K ++ ex, R, I, J) (.returned none) (pk_K ++ ex, R, G 1 x0 x1 I J, J)) (hG2 : ∀ (x0 x1 : Int32) (I : Nat → Nat → Int32) (J : Nat → Nat → Int64), GQ 2 x0 x1 I J → pmC g kRd_readUnary (d + 3) 0 0 [.ref 13, .int x0] (pk_K ++ ex, R, I, J) (.returned none) (pk_K ++ ex, R, G 2 x0 x1 I J, J)) (hG3 : ∀ (x0 x1 : Int32) (I : Nat → Nat → Int32) (J : Nat → Nat → Int64), GQ 3 x0 x1 I J → pmC g kRd_readAltered (d + 3) 0 0 [.ref 13, .int x0, .int x1] (pk_K ++ ex, R, I, J) (.returned none) (pk_K ++ ex, R, G 3 x0 x1 I J, J)) (o : Outcome) (Z : pmM) (r12 : Int32 → Int32 → Int32 → (Nat → Nat → Int32) → (Nat → Nat → Int64) → (Nat → Nat → Int32)) (q12 : Int32 → Int32 → Int32 → (Nat → Nat → Int32) → (Nat → Nat → Int64) → Prop) (ih12 : ∀ (y1 : Int32) (y2 : Int32) (y3 : Int32) (I : Nat → Nat → Int32) (J : Nat → Nat → Int64), q12 y1 y2 y3 I J → o = .returned none → Z = (pk_K ++ ex, R, (r12 y1 y2 y3 I J), J) → pmE g kRd_readOperands (d + 4) 0 0 12 [(0, .ref 13), (1, .int y1), (2, .int y2), (3, .int y3)] [] (pk_K ++ ex) R I J o Z)  (y1 : Int32) (y2 : Int32) (y3 : Int32) (I : Nat → Nat → Int32) (J : Nat → Nat → Int64) (hp : pRd_readOperands_L_41 G GQ q12 y1 y2 y3 I J) (ho : o = .returned none) (hz : Z = (pk_K ++ ex, R, (fRd_readOperands_L_41 G r12 y1 y2 y3 I J), J)) : pmE g kRd_readOperands (d + 4) 0 0 41 [(0, .ref 13), (1, .int y1), (2, .int y2), (3, .int y3)] [] (pk_K ++ ex) R I J o Z := by
  unfold pRd_readOperands_L_41 at hp
  refine pm_aload_n dRd_readOperands_41 rfl ?_
  refine pm_aload_n dRd_readOperands_42 rfl ?_
  refine pm_geti dRd_readOperands_43 fRd_52 rfl ?_
  refine pm_callV dRd_readOperands_46 lRd_187 vRd_await ⟨_, _, rfl⟩ (Rd_await_ok _ _ _ _ hR _ _ _ hp.1) rfl rfl rfl (Nat.le_of_ble_eq_true rfl) (Nat.le_refl _) (Nat.le_refl _) ?_
  refine pm_wk [0, 1, 2, 3] rfl ?_
  exact Rd_readOperands_L_n49 g d ex R hR hc G GQ hG0 hG1 hG2 hG3 _ _ r12 q12 ih12  _ _ _ _ _ hp.2 ho (hz.trans (by first | rfl | (simp only [fRd_readOperands_L_41]; done) | (simp only [fRd_readOperands_L_41]; rfl)))
set_option maxHeartbeats 4000000 in
set_option maxRecDepth 100000 in
theorem Rd_readOperands_L_n68 (g : pmG) (d : Nat) (ex : List (Nat × Nat)) (R : Nat → Nat → Value) (hR : pk_R R) (hc : R 13 8 = .ref 7) (G : Nat → Int32 → Int32 → (Nat → Nat → Int32) → (Nat → Nat → Int64) → (Nat → Nat → Int32)) (GQ : Nat → Int32 → Int32 → (Nat → Nat → Int32) → (Nat → Nat → Int64) → Prop) (hG0 : ∀ (x0 x1 : Int32) (I : Nat → Nat → Int32) (J : Nat → Nat → Int64), GQ 0 x0 x1 I J → pmC g kRd_readExpression (d + 3) 0 0 [.ref 13, .int x0] (pk_K ++ ex, R, I, J) (.returned none) (pk_K ++ ex, R, G 0 x0 x1 I J, J)) (hG1 : ∀ (x0 x1 : Int32) (I : Nat → Nat → Int32) (J : Nat → Nat → Int64), GQ 1 x0 x1 I J → pmC g kRd_readOperands (d + 3) 0 0 [.ref 13, .int x0] (pk_K ++ ex, R, I, J) (.returned none) (pk_K ++ ex, R, G 1 x0 x1 I J, J)) (hG2 : ∀ (x0 x1 : Int32) (I : Nat → Nat → Int32) (J : Nat → Nat → Int64), GQ 2 x0 x1 I J → pmC g kRd_readUnary (d + 3) 0 0 [.ref 13, .int x0] (pk_K ++ ex, R, I, J) (.returned none) (pk_K ++ ex, R, G 2 x0 x1 I J, J)) (hG3 : ∀ (x0 x1 : Int32) (I : Nat → Nat → Int32) (J : Nat → Nat → Int64), GQ 3 x0 x1 I J → pmC g kRd_readAltered (d + 3) 0 0 [.ref 13, .int x0, .int x1] (pk_K ++ ex, R, I, J) (.returned none) (pk_K ++ ex, R, G 3 x0 x1 I J, J)) (o : Outcome) (Z : pmM)  (y1 : Int32) (y2 : Int32) (y3 : Int32) (I : Nat → Nat → Int32) (J : Nat → Nat → Int64) (hp : pRd_readOperands_L_68 G GQ y1 y2 y3 I J) (ho : o = .returned none) (hz : Z = (pk_K ++ ex, R, (fRd_readOperands_L_68 G y1 y2 y3 I J), J)) : pmE g kRd_readOperands (d + 4) 0 0 68 [(0, .ref 13), (1, .int y1), (2, .int y2), (3, .int y3)] [] (pk_K ++ ex) R I J o Z := by
  unfold pRd_readOperands_L_68 at hp
  refine pm_aload_n dRd_readOperands_68 rfl ?_
  refine pm_iload_n dRd_readOperands_69 rfl ?_
  refine pm_iconst (v := 1) dRd_readOperands_70 (by decide) ?_
  refine pm_callV dRd_readOperands_71 lRd_184 vRd_settle ⟨_, _, rfl⟩ (Rd_settle_L_ok _ _ _ _ hR hc _ _ _ _ _ hp.1) rfl rfl rfl (Nat.le_of_ble_eq_true rfl) (Nat.le_refl _) (Nat.le_refl _) ?_
  exact pm_vret dRd_readOperands_74 rfl ho (hz.trans (by first | rfl | (simp only [fRd_readOperands_L_68]; done) | (simp only [fRd_readOperands_L_68]; rfl)))
set_option maxHeartbeats 4000000 in
set_option maxRecDepth 100000 in
theorem Rd_readOperands_L_n12 (g : pmG) (d : Nat) (ex : List (Nat × Nat)) (R : Nat → Nat → Value) (hR : pk_R R) (hc : R 13 8 = .ref 7) (G : Nat → Int32 → Int32 → (Nat → Nat → Int32) → (Nat → Nat → Int64) → (Nat → Nat → Int32)) (GQ : Nat → Int32 → Int32 → (Nat → Nat → Int32) → (Nat → Nat → Int64) → Prop) (hG0 : ∀ (x0 x1 : Int32) (I : Nat → Nat → Int32) (J : Nat → Nat → Int64), GQ 0 x0 x1 I J → pmC g kRd_readExpression (d + 3) 0 0 [.ref 13, .int x0] (pk_K ++ ex, R, I, J) (.returned none) (pk_K ++ ex, R, G 0 x0 x1 I J, J)) (hG1 : ∀ (x0 x1 : Int32) (I : Nat → Nat → Int32) (J : Nat → Nat → Int64), GQ 1 x0 x1 I J → pmC g kRd_readOperands (d + 3) 0 0 [.ref 13, .int x0] (pk_K ++ ex, R, I, J) (.returned none) (pk_K ++ ex, R, G 1 x0 x1 I J, J)) (hG2 : ∀ (x0 x1 : Int32) (I : Nat → Nat → Int32) (J : Nat → Nat → Int64), GQ 2 x0 x1 I J → pmC g kRd_readUnary (d + 3) 0 0 [.ref 13, .int x0] (pk_K ++ ex, R, I, J) (.returned none) (pk_K ++ ex, R, G 2 x0 x1 I J, J)) (hG3 : ∀ (x0 x1 : Int32) (I : Nat → Nat → Int32) (J : Nat → Nat → Int64), GQ 3 x0 x1 I J → pmC g kRd_readAltered (d + 3) 0 0 [.ref 13, .int x0, .int x1] (pk_K ++ ex, R, I, J) (.returned none) (pk_K ++ ex, R, G 3 x0 x1 I J, J)) (o : Outcome) (Z : pmM)  : ∀ (n : Nat) (y1 : Int32) (y2 : Int32) (y3 : Int32) (I : Nat → Nat → Int32) (J : Nat → Nat → Int64), pRd_readOperands_L_12 G GQ n y1 y2 y3 I J → o = .returned none → Z = (pk_K ++ ex, R, (fRd_readOperands_L_12 G n y1 y2 y3 I J), J) → pmE g kRd_readOperands (d + 4) 0 0 12 [(0, .ref 13), (1, .int y1), (2, .int y2), (3, .int y3)] [] (pk_K ++ ex) R I J o Z := by
  intro n
  induction n with
  | zero => intro y1 y2 y3 I J hp; exact False.elim hp
  | succ n ih =>
  intro y1 y2 y3 I J hp ho hz
  simp only [pRd_readOperands_L_12] at hp
  refine pm_iload_n dRd_readOperands_12 rfl ?_
  refine pm_sipush (v := 4000) dRd_readOperands_13 (by decide) ?_
  refine pm_icmp_gt 68 dRd_readOperands_16 (by decide) (fun h16 => ?_) (fun h16 => ?_)
  ·
    refine pm_wk [0, 1, 2, 3] rfl ?_
    exact Rd_readOperands_L_n68 g d ex R hR hc G GQ hG0 hG1 hG2 hG3 _ _   _ _ _ _ _ (hp.1 h16) ho (hz.trans (by first | (simp only [fRd_readOperands_L_12, if_pos h16]; done) | (simp only [fRd_readOperands_L_12, if_pos h16]; rfl) | rfl))
  ·
    refine pm_aload_n dRd_readOperands_19 rfl ?_
    refine pm_geti dRd_readOperands_20 fRd_52 rfl ?_
    refine pm_callS dRd_readOperands_23 lRd_180 tRd_tightness (Rd_tightness_ok _ _ _ _ hR _ _ _ (hp.2 h16).1) rfl rfl (Nat.le_of_ble_eq_true rfl) (Nat.le_refl _) (Nat.le_refl _) ?_
    refine pm_if_le 68 dRd_readOperands_26 (by decide) (fun h26 => ?_) (fun h26 => ?_)
    ·
      refine pm_wk [0, 1, 2, 3] rfl ?_
      exact Rd_readOperands_L_n68 g d ex R hR hc G GQ hG0 hG1 hG2 hG3 _ _   _ _ _ _ _ ((hp.2 h16).2.1 h26) ho (hz.trans (by first | (simp only [fRd_readOperands_L_12, if_neg h16, if_pos h26]; done) | (simp only [fRd_readOperands_L_12, if_neg h16, if_pos h26]; rfl) | rfl))
    ·
      refine pm_aload_n dRd_readOperands_29 rfl ?_
      refine pm_iload_n dRd_readOperands_30 rfl ?_
      refine pm_aload_n dRd_readOperands_31 rfl ?_
      refine pm_geti dRd_readOperands_32 fRd_52 rfl ?_
      refine pm_callS dRd_readOperands_35 lRd_180 tRd_tightness (Rd_tightness_ok _ _ _ _ hR _ _ _ ((hp.2 h16).2.2 h26).1) rfl rfl (Nat.le_of_ble_eq_true rfl) (Nat.le_refl _) (Nat.le_refl _) ?_
      refine pm_callV dRd_readOperands_38 lRd_184 vRd_settle ⟨_, _, rfl⟩ (Rd_settle_L_ok _ _ _ _ hR hc _ _ _ _ _ ((hp.2 h16).2.2 h26).2.1) rfl rfl rfl (Nat.le_of_ble_eq_true rfl) (Nat.le_refl _) (Nat.le_refl _) ?_
      refine pm_wk [0, 1, 2, 3] rfl ?_
      exact Rd_readOperands_L_n41 g d ex R hR hc G GQ hG0 hG1 hG2 hG3 _ _ (fRd_readOperands_L_12 G n) (pRd_readOperands_L_12 G GQ n) ih  _ _ _ _ _ ((hp.2 h16).2.2 h26).2.2 ho (hz.trans (by first | (simp only [fRd_readOperands_L_12, if_neg h16, if_neg h26]; done) | (simp only [fRd_readOperands_L_12, if_neg h16, if_neg h26]; rfl) | rfl))
set_option maxHeartbeats 4000000 in
set_option maxRecDepth 100000 in
theorem Rd_readOperands_L_n10 (g : pmG) (d : Nat) (ex : List (Nat × Nat)) (R : Nat → Nat → Value) (hR : pk_R R) (hc : R 13 8 = .ref 7) (G : Nat → Int32 → Int32 → (Nat → Nat → Int32) → (Nat → Nat → Int64) → (Nat → Nat → Int32)) (GQ : Nat → Int32 → Int32 → (Nat → Nat → Int32) → (Nat → Nat → Int64) → Prop) (hG0 : ∀ (x0 x1 : Int32) (I : Nat → Nat → Int32) (J : Nat → Nat → Int64), GQ 0 x0 x1 I J → pmC g kRd_readExpression (d + 3) 0 0 [.ref 13, .int x0] (pk_K ++ ex, R, I, J) (.returned none) (pk_K ++ ex, R, G 0 x0 x1 I J, J)) (hG1 : ∀ (x0 x1 : Int32) (I : Nat → Nat → Int32) (J : Nat → Nat → Int64), GQ 1 x0 x1 I J → pmC g kRd_readOperands (d + 3) 0 0 [.ref 13, .int x0] (pk_K ++ ex, R, I, J) (.returned none) (pk_K ++ ex, R, G 1 x0 x1 I J, J)) (hG2 : ∀ (x0 x1 : Int32) (I : Nat → Nat → Int32) (J : Nat → Nat → Int64), GQ 2 x0 x1 I J → pmC g kRd_readUnary (d + 3) 0 0 [.ref 13, .int x0] (pk_K ++ ex, R, I, J) (.returned none) (pk_K ++ ex, R, G 2 x0 x1 I J, J)) (hG3 : ∀ (x0 x1 : Int32) (I : Nat → Nat → Int32) (J : Nat → Nat → Int64), GQ 3 x0 x1 I J → pmC g kRd_readAltered (d + 3) 0 0 [.ref 13, .int x0, .int x1] (pk_K ++ ex, R, I, J) (.returned none) (pk_K ++ ex, R, G 3 x0 x1 I J, J)) (o : Outcome) (Z : pmM) (n12 : Nat) (y1 : Int32) (y2 : Int32) (I : Nat → Nat → Int32) (J : Nat → Nat → Int64) (hp : pRd_readOperands_L_10 G GQ n12 y1 y2 I J) (ho : o = .returned none) (hz : Z = (pk_K ++ ex, R, (fRd_readOperands_L_10 G n12 y1 y2 I J), J)) : pmE g kRd_readOperands (d + 4) 0 0 10 [(0, .ref 13), (1, .int y1), (2, .int y2)] [] (pk_K ++ ex) R I J o Z := by
  unfold pRd_readOperands_L_10 at hp
  refine pm_iconst (v := 0) dRd_readOperands_10 (by decide) ?_
  refine pm_istore_n dRd_readOperands_11 (by decide) rfl ?_
  refine pm_wk [1, 2, 3, 0] rfl ?_
  exact Rd_readOperands_L_n12 g d ex R hR hc G GQ hG0 hG1 hG2 hG3 _ _  n12 _ _ _ _ _ hp ho (hz.trans (by first | rfl | (simp only [fRd_readOperands_L_10]; done) | (simp only [fRd_readOperands_L_10]; rfl)))
set_option maxHeartbeats 4000000 in
set_option maxRecDepth 100000 in
theorem Rd_readOperands_L_n0 (g : pmG) (d : Nat) (ex : List (Nat × Nat)) (R : Nat → Nat → Value) (hR : pk_R R) (hc : R 13 8 = .ref 7) (G : Nat → Int32 → Int32 → (Nat → Nat → Int32) → (Nat → Nat → Int64) → (Nat → Nat → Int32)) (GQ : Nat → Int32 → Int32 → (Nat → Nat → Int32) → (Nat → Nat → Int64) → Prop) (hG0 : ∀ (x0 x1 : Int32) (I : Nat → Nat → Int32) (J : Nat → Nat → Int64), GQ 0 x0 x1 I J → pmC g kRd_readExpression (d + 3) 0 0 [.ref 13, .int x0] (pk_K ++ ex, R, I, J) (.returned none) (pk_K ++ ex, R, G 0 x0 x1 I J, J)) (hG1 : ∀ (x0 x1 : Int32) (I : Nat → Nat → Int32) (J : Nat → Nat → Int64), GQ 1 x0 x1 I J → pmC g kRd_readOperands (d + 3) 0 0 [.ref 13, .int x0] (pk_K ++ ex, R, I, J) (.returned none) (pk_K ++ ex, R, G 1 x0 x1 I J, J)) (hG2 : ∀ (x0 x1 : Int32) (I : Nat → Nat → Int32) (J : Nat → Nat → Int64), GQ 2 x0 x1 I J → pmC g kRd_readUnary (d + 3) 0 0 [.ref 13, .int x0] (pk_K ++ ex, R, I, J) (.returned none) (pk_K ++ ex, R, G 2 x0 x1 I J, J)) (hG3 : ∀ (x0 x1 : Int32) (I : Nat → Nat → Int32) (J : Nat → Nat → Int64), GQ 3 x0 x1 I J → pmC g kRd_readAltered (d + 3) 0 0 [.ref 13, .int x0, .int x1] (pk_K ++ ex, R, I, J) (.returned none) (pk_K ++ ex, R, G 3 x0 x1 I J, J)) (o : Outcome) (Z : pmM) (n12 : Nat) (y1 : Int32) (I : Nat → Nat → Int32) (J : Nat → Nat → Int64) (hp : pRd_readOperands_L G GQ n12 y1 I J) (ho : o = .returned none) (hz : Z = (pk_K ++ ex, R, (fRd_readOperands_L G n12 y1 I J), J)) : pmE g kRd_readOperands (d + 4) 0 0 0 [(0, .ref 13), (1, .int y1)] [] (pk_K ++ ex) R I J o Z := by
  unfold pRd_readOperands_L at hp
  refine pm_aload_n dRd_readOperands_0 rfl ?_
  refine pm_geti dRd_readOperands_1 fRd_85 rfl ?_
  refine pm_istore_n dRd_readOperands_4 (by decide) rfl ?_
  refine pm_aload_n dRd_readOperands_5 rfl ?_
  refine pm_iload_n dRd_readOperands_6 rfl ?_
  refine pm_callV dRd_readOperands_7 lRd_177 vRd_readUnary ⟨_, _, rfl⟩ (hG2 _ 0 _ _ hp.1) rfl rfl rfl (Nat.le_of_ble_eq_true rfl) (Nat.le_refl _) (Nat.le_refl _) ?_
  refine pm_wk [1, 2, 0] rfl ?_
  exact Rd_readOperands_L_n10 g d ex R hR hc G GQ hG0 hG1 hG2 hG3 _ _  n12 _ _ _ _ hp.2 ho (hz.trans (by first | rfl | (simp only [fRd_readOperands_L]; done) | (simp only [fRd_readOperands_L]; rfl)))
set_option maxHeartbeats 4000000 in
set_option maxRecDepth 100000 in
theorem Rd_readOperands_L_ok (g : pmG) (d : Nat) (ex : List (Nat × Nat)) (R : Nat → Nat → Value) (hR : pk_R R) (hc : R 13 8 = .ref 7) (G : Nat → Int32 → Int32 → (Nat → Nat → Int32) → (Nat → Nat → Int64) → (Nat → Nat → Int32)) (GQ : Nat → Int32 → Int32 → (Nat → Nat → Int32) → (Nat → Nat → Int64) → Prop) (hG0 : ∀ (x0 x1 : Int32) (I : Nat → Nat → Int32) (J : Nat → Nat → Int64), GQ 0 x0 x1 I J → pmC g kRd_readExpression (d + 3) 0 0 [.ref 13, .int x0] (pk_K ++ ex, R, I, J) (.returned none) (pk_K ++ ex, R, G 0 x0 x1 I J, J)) (hG1 : ∀ (x0 x1 : Int32) (I : Nat → Nat → Int32) (J : Nat → Nat → Int64), GQ 1 x0 x1 I J → pmC g kRd_readOperands (d + 3) 0 0 [.ref 13, .int x0] (pk_K ++ ex, R, I, J) (.returned none) (pk_K ++ ex, R, G 1 x0 x1 I J, J)) (hG2 : ∀ (x0 x1 : Int32) (I : Nat → Nat → Int32) (J : Nat → Nat → Int64), GQ 2 x0 x1 I J → pmC g kRd_readUnary (d + 3) 0 0 [.ref 13, .int x0] (pk_K ++ ex, R, I, J) (.returned none) (pk_K ++ ex, R, G 2 x0 x1 I J, J)) (hG3 : ∀ (x0 x1 : Int32) (I : Nat → Nat → Int32) (J : Nat → Nat → Int64), GQ 3 x0 x1 I J → pmC g kRd_readAltered (d + 3) 0 0 [.ref 13, .int x0, .int x1] (pk_K ++ ex, R, I, J) (.returned none) (pk_K ++ ex, R, G 3 x0 x1 I J, J)) (n12 : Nat) (x0 : Int32) (I : Nat → Nat → Int32) (J : Nat → Nat → Int64) (hp : pRd_readOperands_L G GQ n12 x0 I J) : pmC g kRd_readOperands (d + 4) 0 0 [.ref 13, .int x0] (pk_K ++ ex, R, I, J) (.returned none) (pk_K ++ ex, R, (fRd_readOperands_L G n12 x0 I J), J) :=
  pmC.of (by decide) (Nat.le_of_ble_eq_true rfl) (Rd_readOperands_L_n0 g d ex R hR hc G GQ hG0 hG1 hG2 hG3 _ _ n12 x0 I J hp rfl rfl)
def fRd_readUnary_L_79 (G : Nat → Int32 → Int32 → (Nat → Nat → Int32) → (Nat → Nat → Int64) → (Nat → Nat → Int32)) (y1 : Int32) (I : Nat → Nat → Int32) (J : Nat → Nat → Int64) : (Nat → Nat → Int32) :=
  I
def pRd_readUnary_L_79 (G : Nat → Int32 → Int32 → (Nat → Nat → Int32) → (Nat → Nat → Int64) → (Nat → Nat → Int32)) (GQ : Nat → Int32 → Int32 → (Nat → Nat → Int32) → (Nat → Nat → Int64) → Prop) (y1 : Int32) (I : Nat → Nat → Int32) (J : Nat → Nat → Int64) : Prop :=
  True
def fRd_readUnary_L_89 (G : Nat → Int32 → Int32 → (Nat → Nat → Int32) → (Nat → Nat → Int64) → (Nat → Nat → Int32)) (y1 : Int32) (I : Nat → Nat → Int32) (J : Nat → Nat → Int64) : (Nat → Nat → Int32) :=
  I
def pRd_readUnary_L_89 (G : Nat → Int32 → Int32 → (Nat → Nat → Int32) → (Nat → Nat → Int64) → (Nat → Nat → Int32)) (GQ : Nat → Int32 → Int32 → (Nat → Nat → Int32) → (Nat → Nat → Int64) → Prop) (y1 : Int32) (I : Nat → Nat → Int32) (J : Nat → Nat → Int64) : Prop :=
  True
def fRd_readUnary_L_99 (G : Nat → Int32 → Int32 → (Nat → Nat → Int32) → (Nat → Nat → Int64) → (Nat → Nat → Int32)) (y1 : Int32) (I : Nat → Nat → Int32) (J : Nat → Nat → Int64) : (Nat → Nat → Int32) :=
  I
def pRd_readUnary_L_99 (G : Nat → Int32 → Int32 → (Nat → Nat → Int32) → (Nat → Nat → Int64) → (Nat → Nat → Int32)) (GQ : Nat → Int32 → Int32 → (Nat → Nat → Int32) → (Nat → Nat → Int64) → Prop) (y1 : Int32) (I : Nat → Nat → Int32) (J : Nat → Nat → Int64) : Prop :=
  True
def fRd_readUnary_L_118 (G : Nat → Int32 → Int32 → (Nat → Nat → Int32) → (Nat → Nat → Int64) → (Nat → Nat → Int32)) (y1 : Int32) (z0 : Int32) (I : Nat → Nat → Int32) (J : Nat → Nat → Int64) : (Nat → Nat → Int32) :=
  I
def pRd_readUnary_L_118 (G : Nat → Int32 → Int32 → (Nat → Nat → Int32) → (Nat → Nat → Int64) → (Nat → Nat → Int32)) (GQ : Nat → Int32 → Int32 → (Nat → Nat → Int32) → (Nat → Nat → Int64) → Prop) (y1 : Int32) (z0 : Int32) (I : Nat → Nat → Int32) (J : Nat → Nat → Int64) : Prop :=
  True
def fRd_readUnary_L_113 (G : Nat → Int32 → Int32 → (Nat → Nat → Int32) → (Nat → Nat → Int64) → (Nat → Nat → Int32)) (y1 : Int32) (I : Nat → Nat → Int32) (J : Nat → Nat → Int64) : (Nat → Nat → Int32) :=
  fRd_readUnary_L_118 G y1 ((fRd_expect (5 : Int32) I J).1) ((fRd_expect (5 : Int32) I J).2) J
def pRd_readUnary_L_113 (G : Nat → Int32 → Int32 → (Nat → Nat → Int32) → (Nat → Nat → Int64) → (Nat → Nat → Int32)) (GQ : Nat → Int32 → Int32 → (Nat → Nat → Int32) → (Nat → Nat → Int64) → Prop) (y1 : Int32) (I : Nat → Nat → Int32) (J : Nat → Nat → Int64) : Prop :=
  (pRd_expect (5 : Int32) I J) ∧ (pRd_readUnary_L_118 G GQ y1 ((fRd_expect (5 : Int32) I J).1) ((fRd_expect (5 : Int32) I J).2) J)
def fRd_readUnary_L_106 (G : Nat → Int32 → Int32 → (Nat → Nat → Int32) → (Nat → Nat → Int64) → (Nat → Nat → Int32)) (y1 : Int32) (I : Nat → Nat → Int32) (J : Nat → Nat → Int64) : (Nat → Nat → Int32) :=
  fRd_readUnary_L_113 G y1 (G 0 (y1 + (1 : Int32)) 0 I J) J
def pRd_readUnary_L_106 (G : Nat → Int32 → Int32 → (Nat → Nat → Int32) → (Nat → Nat → Int64) → (Nat → Nat → Int32)) (GQ : Nat → Int32 → Int32 → (Nat → Nat → Int32) → (Nat → Nat → Int64) → Prop) (y1 : Int32) (I : Nat → Nat → Int32) (J : Nat → Nat → Int64) : Prop :=
  (GQ 0 (y1 + (1 : Int32)) 0 I J) ∧ (pRd_readUnary_L_113 G GQ y1 (G 0 (y1 + (1 : Int32)) 0 I J) J)
def fRd_readUnary_L_139 (G : Nat → Int32 → Int32 → (Nat → Nat → Int32) → (Nat → Nat → Int64) → (Nat → Nat → Int32)) (y1 : Int32) (I : Nat → Nat → Int32) (J : Nat → Nat → Int64) : (Nat → Nat → Int32) :=
  I
def pRd_readUnary_L_139 (G : Nat → Int32 → Int32 → (Nat → Nat → Int32) → (Nat → Nat → Int64) → (Nat → Nat → Int32)) (GQ : Nat → Int32 → Int32 → (Nat → Nat → Int32) → (Nat → Nat → Int64) → Prop) (y1 : Int32) (I : Nat → Nat → Int32) (J : Nat → Nat → Int64) : Prop :=
  True
def fRd_readUnary_L_136 (G : Nat → Int32 → Int32 → (Nat → Nat → Int32) → (Nat → Nat → Int64) → (Nat → Nat → Int32)) (y1 : Int32) (z1 : Int32) (z2 : Int32) (I : Nat → Nat → Int32) (J : Nat → Nat → Int64) : (Nat → Nat → Int32) :=
  fRd_readUnary_L_139 G y1 ((fCo_add_L z1 z2 I J)) J
def pRd_readUnary_L_136 (G : Nat → Int32 → Int32 → (Nat → Nat → Int32) → (Nat → Nat → Int64) → (Nat → Nat → Int32)) (GQ : Nat → Int32 → Int32 → (Nat → Nat → Int32) → (Nat → Nat → Int64) → Prop) (y1 : Int32) (z1 : Int32) (z2 : Int32) (I : Nat → Nat → Int32) (J : Nat → Nat → Int64) : Prop :=
  (pCo_add_L z1 z2 I J) ∧ (pRd_readUnary_L_139 G GQ y1 ((fCo_add_L z1 z2 I J)) J)
def fRd_readUnary_L_147 (G : Nat → Int32 → Int32 → (Nat → Nat → Int32) → (Nat → Nat → Int64) → (Nat → Nat → Int32)) (y1 : Int32) (I : Nat → Nat → Int32) (J : Nat → Nat → Int64) : (Nat → Nat → Int32) :=
  I
def pRd_readUnary_L_147 (G : Nat → Int32 → Int32 → (Nat → Nat → Int32) → (Nat → Nat → Int64) → (Nat → Nat → Int32)) (GQ : Nat → Int32 → Int32 → (Nat → Nat → Int32) → (Nat → Nat → Int64) → Prop) (y1 : Int32) (I : Nat → Nat → Int32) (J : Nat → Nat → Int64) : Prop :=
  True
def fRd_readUnary_L_5 (G : Nat → Int32 → Int32 → (Nat → Nat → Int32) → (Nat → Nat → Int64) → (Nat → Nat → Int32)) (y1 : Int32) (z0 : Int32) (I : Nat → Nat → Int32) (J : Nat → Nat → Int64) : (Nat → Nat → Int32) :=
  if z0 = 0 then if (I 13 3) = 4 then fRd_readUnary_L_106 G y1 ((fRd_advance I J)) J
    else if (I 13 3) = 13 then fRd_readUnary_L_79 G y1 (G 3 (49 : Int32) y1 I J) J
    else if (I 13 3) = 18 then fRd_readUnary_L_89 G y1 (G 3 (18 : Int32) y1 I J) J
    else if (I 13 3) = 19 then fRd_readUnary_L_99 G y1 (G 3 (19 : Int32) y1 I J) J
    else if (I 13 3) = 43 then fRd_readUnary_L_147 G y1 ((fRd_readKnownName_L (0 : Int32) I J)) J
    else if (I 13 3) = 44 then fRd_readUnary_L_136 G y1 (44 : Int32) ((fRd_readNumber (0 : Int32) (255 : Int32) I J).1) ((fRd_readNumber (0 : Int32) (255 : Int32) I J).2) J
    else (fRd_refuse I J)
  else I
def pRd_readUnary_L_5 (G : Nat → Int32 → Int32 → (Nat → Nat → Int32) → (Nat → Nat → Int64) → (Nat → Nat → Int32)) (GQ : Nat → Int32 → Int32 → (Nat → Nat → Int32) → (Nat → Nat → Int64) → Prop) (y1 : Int32) (z0 : Int32) (I : Nat → Nat → Int32) (J : Nat → Nat → Int64) : Prop :=
  (z0 = 0 → ((I 13 3) = 4 → (pRd_advance I J) ∧ (pRd_readUnary_L_106 G GQ y1 ((fRd_advance I J)) J)) ∧
    (¬ ((I 13 3) = 4) → ((I 13 3) = 13 → (GQ 3 (49 : Int32) y1 I J) ∧ (pRd_readUnary_L_79 G GQ y1 (G 3 (49 : Int32) y1 I J) J)) ∧
    (¬ ((I 13 3) = 13) → ((I 13 3) = 18 → (GQ 3 (18 : Int32) y1 I J) ∧ (pRd_readUnary_L_89 G GQ y1 (G 3 (18 : Int32) y1 I J) J)) ∧
    (¬ ((I 13 3) = 18) → ((I 13 3) = 19 → (GQ 3 (19 : Int32) y1 I J) ∧ (pRd_readUnary_L_99 G GQ y1 (G 3 (19 : Int32) y1 I J) J)) ∧
    (¬ ((I 13 3) = 19) → ((I 13 3) = 43 → (pRd_readKnownName_L (0 : Int32) I J) ∧ (pRd_readUnary_L_147 G GQ y1 ((fRd_readKnownName_L (0 : Int32) I J)) J)) ∧
    (¬ ((I 13 3) = 43) → ((I 13 3) = 44 → (pRd_readNumber (0 : Int32) (255 : Int32) I J) ∧ (pRd_readUnary_L_136 G GQ y1 (44 : Int32) ((fRd_readNumber (0 : Int32) (255 : Int32) I J).1) ((fRd_readNumber (0 : Int32) (255 : Int32) I J).2) J)) ∧
    (¬ ((I 13 3) = 44) → (pRd_refuse I J) ∧ True))))))) ∧
  (¬ (z0 = 0) → True)
def fRd_readUnary_L (G : Nat → Int32 → Int32 → (Nat → Nat → Int32) → (Nat → Nat → Int64) → (Nat → Nat → Int32)) (y1 : Int32) (I : Nat → Nat → Int32) (J : Nat → Nat → Int64) : (Nat → Nat → Int32) :=
  fRd_readUnary_L_5 G y1 ((fRd_isTooDeep y1 I J).1) ((fRd_isTooDeep y1 I J).2) J
def pRd_readUnary_L (G : Nat → Int32 → Int32 → (Nat → Nat → Int32) → (Nat → Nat → Int64) → (Nat → Nat → Int32)) (GQ : Nat → Int32 → Int32 → (Nat → Nat → Int32) → (Nat → Nat → Int64) → Prop) (y1 : Int32) (I : Nat → Nat → Int32) (J : Nat → Nat → Int64) : Prop :=
  (pRd_isTooDeep y1 I J) ∧ (pRd_readUnary_L_5 G GQ y1 ((fRd_isTooDeep y1 I J).1) ((fRd_isTooDeep y1 I J).2) J)
set_option maxHeartbeats 4000000 in
set_option maxRecDepth 100000 in
theorem Rd_readUnary_L_n79 (g : pmG) (d : Nat) (ex : List (Nat × Nat)) (R : Nat → Nat → Value) (hR : pk_R R) (hc : R 13 8 = .ref 7) (G : Nat → Int32 → Int32 → (Nat → Nat → Int32) → (Nat → Nat → Int64) → (Nat → Nat → Int32)) (GQ : Nat → Int32 → Int32 → (Nat → Nat → Int32) → (Nat → Nat → Int64) → Prop) (hG0 : ∀ (x0 x1 : Int32) (I : Nat → Nat → Int32) (J : Nat → Nat → Int64), GQ 0 x0 x1 I J → pmC g kRd_readExpression (d + 3) 0 0 [.ref 13, .int x0] (pk_K ++ ex, R, I, J) (.returned none) (pk_K ++ ex, R, G 0 x0 x1 I J, J)) (hG1 : ∀ (x0 x1 : Int32) (I : Nat → Nat → Int32) (J : Nat → Nat → Int64), GQ 1 x0 x1 I J → pmC g kRd_readOperands (d + 3) 0 0 [.ref 13, .int x0] (pk_K ++ ex, R, I, J) (.returned none) (pk_K ++ ex, R, G 1 x0 x1 I J, J)) (hG2 : ∀ (x0 x1 : Int32) (I : Nat → Nat → Int32) (J : Nat → Nat → Int64), GQ 2 x0 x1 I J → pmC g kRd_readUnary (d + 3) 0 0 [.ref 13, .int x0] (pk_K ++ ex, R, I, J) (.returned none) (pk_K ++ ex, R, G 2 x0 x1 I J, J)) (hG3 : ∀ (x0 x1 : Int32) (I : Nat → Nat → Int32) (J : Nat → Nat → Int64), GQ 3 x0 x1 I J → pmC g kRd_readAltered (d + 3) 0 0 [.ref 13, .int x0, .int x1] (pk_K ++ ex, R, I, J) (.returned none) (pk_K ++ ex, R, G 3 x0 x1 I J, J)) (o : Outcome) (Z : pmM)  (y1 : Int32) (I : Nat → Nat → Int32) (J : Nat → Nat → Int64) (hp : pRd_readUnary_L_79 G GQ y1 I J) (ho : o = .returned none) (hz : Z = (pk_K ++ ex, R, (fRd_readUnary_L_79 G y1 I J), J)) : pmE g kRd_readUnary (d + 4) 0 0 79 [(0, .ref 13), (1, .int y1)] [] (pk_K ++ ex) R I J o Z := by
  unfold pRd_readUnary_L_79 at hp
  refine pm_goto 154 dRd_readUnary_79 (by decide) ?_
  exact pm_vret dRd_readUnary_154 rfl ho (hz.trans (by first | rfl | (simp only [fRd_readUnary_L_79]; done) | (simp only [fRd_readUnary_L_79]; rfl)))
set_option maxHeartbeats 4000000 in
set_option maxRecDepth 100000 in
theorem Rd_readUnary_L_n89 (g : pmG) (d : Nat) (ex : List (Nat × Nat)) (R : Nat → Nat → Value) (hR : pk_R R) (hc : R 13 8 = .ref 7) (G : Nat → Int32 → Int32 → (Nat → Nat → Int32) → (Nat → Nat → Int64) → (Nat → Nat → Int32)) (GQ : Nat → Int32 → Int32 → (Nat → Nat → Int32) → (Nat → Nat → Int64) → Prop) (hG0 : ∀ (x0 x1 : Int32) (I : Nat → Nat → Int32) (J : Nat → Nat → Int64), GQ 0 x0 x1 I J → pmC g kRd_readExpression (d + 3) 0 0 [.ref 13, .int x0] (pk_K ++ ex, R, I, J) (.returned none) (pk_K ++ ex, R, G 0 x0 x1 I J, J)) (hG1 : ∀ (x0 x1 : Int32) (I : Nat → Nat → Int32) (J : Nat → Nat → Int64), GQ 1 x0 x1 I J → pmC g kRd_readOperands (d + 3) 0 0 [.ref 13, .int x0] (pk_K ++ ex, R, I, J) (.returned none) (pk_K ++ ex, R, G 1 x0 x1 I J, J)) (hG2 : ∀ (x0 x1 : Int32) (I : Nat → Nat → Int32) (J : Nat → Nat → Int64), GQ 2 x0 x1 I J → pmC g kRd_readUnary (d + 3) 0 0 [.ref 13, .int x0] (pk_K ++ ex, R, I, J) (.returned none) (pk_K ++ ex, R, G 2 x0 x1 I J, J)) (hG3 : ∀ (x0 x1 : Int32) (I : Nat → Nat → Int32) (J : Nat → Nat → Int64), GQ 3 x0 x1 I J → pmC g kRd_readAltered (d + 3) 0 0 [.ref 13, .int x0, .int x1] (pk_K ++ ex, R, I, J) (.returned none) (pk_K ++ ex, R, G 3 x0 x1 I J, J)) (o : Outcome) (Z : pmM)  (y1 : Int32) (I : Nat → Nat → Int32) (J : Nat → Nat → Int64) (hp : pRd_readUnary_L_89 G GQ y1 I J) (ho : o = .returned none) (hz : Z = (pk_K ++ ex, R, (fRd_readUnary_L_89 G y1 I J), J)) : pmE g kRd_readUnary (d + 4) 0 0 89 [(0, .ref 13), (1, .int y1)] [] (pk_K ++ ex) R I J o Z := by
  unfold pRd_readUnary_L_89 at hp
  refine pm_goto 154 dRd_readUnary_89 (by decide) ?_
  exact pm_vret dRd_readUnary_154 rfl ho (hz.trans (by first | rfl | (simp only [fRd_readUnary_L_89]; done) | (simp only [fRd_readUnary_L_89]; rfl)))
set_option maxHeartbeats 4000000 in
set_option maxRecDepth 100000 in
theorem Rd_readUnary_L_n99 (g : pmG) (d : Nat) (ex : List (Nat × Nat)) (R : Nat → Nat → Value) (hR : pk_R R) (hc : R 13 8 = .ref 7) (G : Nat → Int32 → Int32 → (Nat → Nat → Int32) → (Nat → Nat → Int64) → (Nat → Nat → Int32)) (GQ : Nat → Int32 → Int32 → (Nat → Nat → Int32) → (Nat → Nat → Int64) → Prop) (hG0 : ∀ (x0 x1 : Int32) (I : Nat → Nat → Int32) (J : Nat → Nat → Int64), GQ 0 x0 x1 I J → pmC g kRd_readExpression (d + 3) 0 0 [.ref 13, .int x0] (pk_K ++ ex, R, I, J) (.returned none) (pk_K ++ ex, R, G 0 x0 x1 I J, J)) (hG1 : ∀ (x0 x1 : Int32) (I : Nat → Nat → Int32) (J : Nat → Nat → Int64), GQ 1 x0 x1 I J → pmC g kRd_readOperands (d + 3) 0 0 [.ref 13, .int x0] (pk_K ++ ex, R, I, J) (.returned none) (pk_K ++ ex, R, G 1 x0 x1 I J, J)) (hG2 : ∀ (x0 x1 : Int32) (I : Nat → Nat → Int32) (J : Nat → Nat → Int64), GQ 2 x0 x1 I J → pmC g kRd_readUnary (d + 3) 0 0 [.ref 13, .int x0] (pk_K ++ ex, R, I, J) (.returned none) (pk_K ++ ex, R, G 2 x0 x1 I J, J)) (hG3 : ∀ (x0 x1 : Int32) (I : Nat → Nat → Int32) (J : Nat → Nat → Int64), GQ 3 x0 x1 I J → pmC g kRd_readAltered (d + 3) 0 0 [.ref 13, .int x0, .int x1] (pk_K ++ ex, R, I, J) (.returned none) (pk_K ++ ex, R, G 3 x0 x1 I J, J)) (o : Outcome) (Z : pmM)  (y1 : Int32) (I : Nat → Nat → Int32) (J : Nat → Nat → Int64) (hp : pRd_readUnary_L_99 G GQ y1 I J) (ho : o = .returned none) (hz : Z = (pk_K ++ ex, R, (fRd_readUnary_L_99 G y1 I J), J)) : pmE g kRd_readUnary (d + 4) 0 0 99 [(0, .ref 13), (1, .int y1)] [] (pk_K ++ ex) R I J o Z := by
  unfold pRd_readUnary_L_99 at hp
  refine pm_goto 154 dRd_readUnary_99 (by decide) ?_
  exact pm_vret dRd_readUnary_154 rfl ho (hz.trans (by first | rfl | (simp only [fRd_readUnary_L_99]; done) | (simp only [fRd_readUnary_L_99]; rfl)))
set_option maxHeartbeats 4000000 in
set_option maxRecDepth 100000 in
theorem Rd_readUnary_L_n118 (g : pmG) (d : Nat) (ex : List (Nat × Nat)) (R : Nat → Nat → Value) (hR : pk_R R) (hc : R 13 8 = .ref 7) (G : Nat → Int32 → Int32 → (Nat → Nat → Int32) → (Nat → Nat → Int64) → (Nat → Nat → Int32)) (GQ : Nat → Int32 → Int32 → (Nat → Nat → Int32) → (Nat → Nat → Int64) → Prop) (hG0 : ∀ (x0 x1 : Int32) (I : Nat → Nat → Int32) (J : Nat → Nat → Int64), GQ 0 x0 x1 I J → pmC g kRd_readExpression (d + 3) 0 0 [.ref 13, .int x0] (pk_K ++ ex, R, I, J) (.returned none) (pk_K ++ ex, R, G 0 x0 x1 I J, J)) (hG1 : ∀ (x0 x1 : Int32) (I : Nat → Nat → Int32) (J : Nat → Nat → Int64), GQ 1 x0 x1 I J → pmC g kRd_readOperands (d + 3) 0 0 [.ref 13, .int x0] (pk_K ++ ex, R, I, J) (.returned none) (pk_K ++ ex, R, G 1 x0 x1 I J, J)) (hG2 : ∀ (x0 x1 : Int32) (I : Nat → Nat → Int32) (J : Nat → Nat → Int64), GQ 2 x0 x1 I J → pmC g kRd_readUnary (d + 3) 0 0 [.ref 13, .int x0] (pk_K ++ ex, R, I, J) (.returned none) (pk_K ++ ex, R, G 2 x0 x1 I J, J)) (hG3 : ∀ (x0 x1 : Int32) (I : Nat → Nat → Int32) (J : Nat → Nat → Int64), GQ 3 x0 x1 I J → pmC g kRd_readAltered (d + 3) 0 0 [.ref 13, .int x0, .int x1] (pk_K ++ ex, R, I, J) (.returned none) (pk_K ++ ex, R, G 3 x0 x1 I J, J)) (o : Outcome) (Z : pmM)  (y1 : Int32) (z0 : Int32) (I : Nat → Nat → Int32) (J : Nat → Nat → Int64) (hp : pRd_readUnary_L_118 G GQ y1 z0 I J) (ho : o = .returned none) (hz : Z = (pk_K ++ ex, R, (fRd_readUnary_L_118 G y1 z0 I J), J)) : pmE g kRd_readUnary (d + 4) 0 0 118 [(0, .ref 13), (1, .int y1)] [.int z0] (pk_K ++ ex) R I J o Z := by
  unfold pRd_readUnary_L_118 at hp
  refine pm_pop dRd_readUnary_118 rfl ?_
  refine pm_goto 154 dRd_readUnary_119 (by decide) ?_
  exact pm_vret dRd_readUnary_154 rfl ho (hz.trans (by first | rfl | (simp only [fRd_readUnary_L_118]; done) | (simp only [fRd_readUnary_L_118]; rfl)))
set_option maxHeartbeats 4000000 in
set_option maxRecDepth 100000 in
theorem Rd_readUnary_L_n113 (g : pmG) (d : Nat) (ex : List (Nat × Nat)) (R : Nat → Nat → Value) (hR : pk_R R) (hc : R 13 8 = .ref 7) (G : Nat → Int32 → Int32 → (Nat → Nat → Int32) → (Nat → Nat → Int64) → (Nat → Nat → Int32)) (GQ : Nat → Int32 → Int32 → (Nat → Nat → Int32) → (Nat → Nat → Int64) → Prop) (hG0 : ∀ (x0 x1 : Int32) (I : Nat → Nat → Int32) (J : Nat → Nat → Int64), GQ 0 x0 x1 I J → pmC g kRd_readExpression (d + 3) 0 0 [.ref 13, .int x0] (pk_K ++ ex, R, I, J) (.returned none) (pk_K ++ ex, R, G 0 x0 x1 I J, J)) (hG1 : ∀ (x0 x1 : Int32) (I : Nat → Nat → Int32) (J : Nat → Nat → Int64), GQ 1 x0 x1 I J → pmC g kRd_readOperands (d + 3) 0 0 [.ref 13, .int x0] (pk_K ++ ex, R, I, J) (.returned none) (pk_K ++ ex, R, G 1 x0 x1 I J, J)) (hG2 : ∀ (x0 x1 : Int32) (I : Nat → Nat → Int32) (J : Nat → Nat → Int64), GQ 2 x0 x1 I J → pmC g kRd_readUnary (d + 3) 0 0 [.ref 13, .int x0] (pk_K ++ ex, R, I, J) (.returned none) (pk_K ++ ex, R, G 2 x0 x1 I J, J)) (hG3 : ∀ (x0 x1 : Int32) (I : Nat → Nat → Int32) (J : Nat → Nat → Int64), GQ 3 x0 x1 I J → pmC g kRd_readAltered (d + 3) 0 0 [.ref 13, .int x0, .int x1] (pk_K ++ ex, R, I, J) (.returned none) (pk_K ++ ex, R, G 3 x0 x1 I J, J)) (o : Outcome) (Z : pmM)  (y1 : Int32) (I : Nat → Nat → Int32) (J : Nat → Nat → Int64) (hp : pRd_readUnary_L_113 G GQ y1 I J) (ho : o = .returned none) (hz : Z = (pk_K ++ ex, R, (fRd_readUnary_L_113 G y1 I J), J)) : pmE g kRd_readUnary (d + 4) 0 0 113 [(0, .ref 13), (1, .int y1)] [] (pk_K ++ ex) R I J o Z := by
  unfold pRd_readUnary_L_113 at hp
  refine pm_aload_n dRd_readUnary_113 rfl ?_
  refine pm_iconst (v := 5) dRd_readUnary_114 (by decide) ?_
  refine pm_callV dRd_readUnary_115 lRd_100 vRd_expect ⟨_, _, rfl⟩ (Rd_expect_ok _ _ _ _ hR _ _ _ hp.1) rfl rfl rfl (Nat.le_of_ble_eq_true rfl) (Nat.le_refl _) (Nat.le_refl _) ?_
  refine pm_wk [0, 1] rfl ?_
  exact Rd_readUnary_L_n118 g d ex R hR hc G GQ hG0 hG1 hG2 hG3 _ _   _ _ _ _ hp.2 ho (hz.trans (by first | rfl | (simp only [fRd_readUnary_L_113]; done) | (simp only [fRd_readUnary_L_113]; rfl)))
set_option maxHeartbeats 4000000 in
set_option maxRecDepth 100000 in
theorem Rd_readUnary_L_n106 (g : pmG) (d : Nat) (ex : List (Nat × Nat)) (R : Nat → Nat → Value) (hR : pk_R R) (hc : R 13 8 = .ref 7) (G : Nat → Int32 → Int32 → (Nat → Nat → Int32) → (Nat → Nat → Int64) → (Nat → Nat → Int32)) (GQ : Nat → Int32 → Int32 → (Nat → Nat → Int32) → (Nat → Nat → Int64) → Prop) (hG0 : ∀ (x0 x1 : Int32) (I : Nat → Nat → Int32) (J : Nat → Nat → Int64), GQ 0 x0 x1 I J → pmC g kRd_readExpression (d + 3) 0 0 [.ref 13, .int x0] (pk_K ++ ex, R, I, J) (.returned none) (pk_K ++ ex, R, G 0 x0 x1 I J, J)) (hG1 : ∀ (x0 x1 : Int32) (I : Nat → Nat → Int32) (J : Nat → Nat → Int64), GQ 1 x0 x1 I J → pmC g kRd_readOperands (d + 3) 0 0 [.ref 13, .int x0] (pk_K ++ ex, R, I, J) (.returned none) (pk_K ++ ex, R, G 1 x0 x1 I J, J)) (hG2 : ∀ (x0 x1 : Int32) (I : Nat → Nat → Int32) (J : Nat → Nat → Int64), GQ 2 x0 x1 I J → pmC g kRd_readUnary (d + 3) 0 0 [.ref 13, .int x0] (pk_K ++ ex, R, I, J) (.returned none) (pk_K ++ ex, R, G 2 x0 x1 I J, J)) (hG3 : ∀ (x0 x1 : Int32) (I : Nat → Nat → Int32) (J : Nat → Nat → Int64), GQ 3 x0 x1 I J → pmC g kRd_readAltered (d + 3) 0 0 [.ref 13, .int x0, .int x1] (pk_K ++ ex, R, I, J) (.returned none) (pk_K ++ ex, R, G 3 x0 x1 I J, J)) (o : Outcome) (Z : pmM)  (y1 : Int32) (I : Nat → Nat → Int32) (J : Nat → Nat → Int64) (hp : pRd_readUnary_L_106 G GQ y1 I J) (ho : o = .returned none) (hz : Z = (pk_K ++ ex, R, (fRd_readUnary_L_106 G y1 I J), J)) : pmE g kRd_readUnary (d + 4) 0 0 106 [(0, .ref 13), (1, .int y1)] [] (pk_K ++ ex) R I J o Z := by
  unfold pRd_readUnary_L_106 at hp
  refine pm_aload_n dRd_readUnary_106 rfl ?_
  refine pm_iload_n dRd_readUnary_107 rfl ?_
  refine pm_iconst (v := 1) dRd_readUnary_108 (by decide) ?_
  refine pm_iadd dRd_readUnary_109 ?_
  refine pm_callV dRd_readUnary_110 lRd_122 vRd_readExpression ⟨_, _, rfl⟩ (hG0 _ 0 _ _ hp.1) rfl rfl rfl (Nat.le_of_ble_eq_true rfl) (Nat.le_refl _) (Nat.le_refl _) ?_
  refine pm_wk [0, 1] rfl ?_
  exact Rd_readUnary_L_n113 g d ex R hR hc G GQ hG0 hG1 hG2 hG3 _ _   _ _ _ hp.2 ho (hz.trans (by first | rfl | (simp only [fRd_readUnary_L_106]; done) | (simp only [fRd_readUnary_L_106]; rfl)))
set_option maxHeartbeats 4000000 in
set_option maxRecDepth 100000 in
theorem Rd_readUnary_L_n139 (g : pmG) (d : Nat) (ex : List (Nat × Nat)) (R : Nat → Nat → Value) (hR : pk_R R) (hc : R 13 8 = .ref 7) (G : Nat → Int32 → Int32 → (Nat → Nat → Int32) → (Nat → Nat → Int64) → (Nat → Nat → Int32)) (GQ : Nat → Int32 → Int32 → (Nat → Nat → Int32) → (Nat → Nat → Int64) → Prop) (hG0 : ∀ (x0 x1 : Int32) (I : Nat → Nat → Int32) (J : Nat → Nat → Int64), GQ 0 x0 x1 I J → pmC g kRd_readExpression (d + 3) 0 0 [.ref 13, .int x0] (pk_K ++ ex, R, I, J) (.returned none) (pk_K ++ ex, R, G 0 x0 x1 I J, J)) (hG1 : ∀ (x0 x1 : Int32) (I : Nat → Nat → Int32) (J : Nat → Nat → Int64), GQ 1 x0 x1 I J → pmC g kRd_readOperands (d + 3) 0 0 [.ref 13, .int x0] (pk_K ++ ex, R, I, J) (.returned none) (pk_K ++ ex, R, G 1 x0 x1 I J, J)) (hG2 : ∀ (x0 x1 : Int32) (I : Nat → Nat → Int32) (J : Nat → Nat → Int64), GQ 2 x0 x1 I J → pmC g kRd_readUnary (d + 3) 0 0 [.ref 13, .int x0] (pk_K ++ ex, R, I, J) (.returned none) (pk_K ++ ex, R, G 2 x0 x1 I J, J)) (hG3 : ∀ (x0 x1 : Int32) (I : Nat → Nat → Int32) (J : Nat → Nat → Int64), GQ 3 x0 x1 I J → pmC g kRd_readAltered (d + 3) 0 0 [.ref 13, .int x0, .int x1] (pk_K ++ ex, R, I, J) (.returned none) (pk_K ++ ex, R, G 3 x0 x1 I J, J)) (o : Outcome) (Z : pmM)  (y1 : Int32) (I : Nat → Nat → Int32) (J : Nat → Nat → Int64) (hp : pRd_readUnary_L_139 G GQ y1 I J) (ho : o = .returned none) (hz : Z = (pk_K ++ ex, R, (fRd_readUnary_L_139 G y1 I J), J)) : pmE g kRd_readUnary (d + 4) 0 0 139 [(0, .ref 13), (1, .int y1)] [] (pk_K ++ ex) R I J o Z := by
  unfold pRd_readUnary_L_139 at hp
  refine pm_goto 154 dRd_readUnary_139 (by decide) ?_
  exact pm_vret dRd_readUnary_154 rfl ho (hz.trans (by first | rfl | (simp only [fRd_readUnary_L_139]; done) | (simp only [fRd_readUnary_L_139]; rfl)))
set_option maxHeartbeats 4000000 in
set_option maxRecDepth 100000 in
theorem Rd_readUnary_L_n136 (g : pmG) (d : Nat) (ex : List (Nat × Nat)) (R : Nat → Nat → Value) (hR : pk_R R) (hc : R 13 8 = .ref 7) (G : Nat → Int32 → Int32 → (Nat → Nat → Int32) → (Nat → Nat → Int64) → (Nat → Nat → Int32)) (GQ : Nat → Int32 → Int32 → (Nat → Nat → Int32) → (Nat → Nat → Int64) → Prop) (hG0 : ∀ (x0 x1 : Int32) (I : Nat → Nat → Int32) (J : Nat → Nat → Int64), GQ 0 x0 x1 I J → pmC g kRd_readExpression (d + 3) 0 0 [.ref 13, .int x0] (pk_K ++ ex, R, I, J) (.returned none) (pk_K ++ ex, R, G 0 x0 x1 I J, J)) (hG1 : ∀ (x0 x1 : Int32) (I : Nat → Nat → Int32) (J : Nat → Nat → Int64), GQ 1 x0 x1 I J → pmC g kRd_readOperands (d + 3) 0 0 [.ref 13, .int x0] (pk_K ++ ex, R, I, J) (.returned none) (pk_K ++ ex, R, G 1 x0 x1 I J, J)) (hG2 : ∀ (x0 x1 : Int32) (I : Nat → Nat → Int32) (J : Nat → Nat → Int64), GQ 2 x0 x1 I J → pmC g kRd_readUnary (d + 3) 0 0 [.ref 13, .int x0] (pk_K ++ ex, R, I, J) (.returned none) (pk_K ++ ex, R, G 2 x0 x1 I J, J)) (hG3 : ∀ (x0 x1 : Int32) (I : Nat → Nat → Int32) (J : Nat → Nat → Int64), GQ 3 x0 x1 I J → pmC g kRd_readAltered (d + 3) 0 0 [.ref 13, .int x0, .int x1] (pk_K ++ ex, R, I, J) (.returned none) (pk_K ++ ex, R, G 3 x0 x1 I J, J)) (o : Outcome) (Z : pmM)  (y1 : Int32) (z1 : Int32) (z2 : Int32) (I : Nat → Nat → Int32) (J : Nat → Nat → Int64) (hp : pRd_readUnary_L_136 G GQ y1 z1 z2 I J) (ho : o = .returned none) (hz : Z = (pk_K ++ ex, R, (fRd_readUnary_L_136 G y1 z1 z2 I J), J)) : pmE g kRd_readUnary (d + 4) 0 0 136 [(0, .ref 13), (1, .int y1)] [.int z2, .int z1, .ref 7] (pk_K ++ ex) R I J o Z := by
  unfold pRd_readUnary_L_136 at hp
  refine pm_callV dRd_readUnary_136 lRd_128 vCo_add ⟨_, _, rfl⟩ (Co_add_L_ok _ _ _ _ hR _ _ _ _ hp.1) rfl rfl rfl (Nat.le_of_ble_eq_true rfl) (Nat.le_refl _) (Nat.le_refl _) ?_
  refine pm_wk [0, 1] rfl ?_
  exact Rd_readUnary_L_n139 g d ex R hR hc G GQ hG0 hG1 hG2 hG3 _ _   _ _ _ hp.2 ho (hz.trans (by first | rfl | (simp only [fRd_readUnary_L_136]; done) | (simp only [fRd_readUnary_L_136]; rfl)))
set_option maxHeartbeats 4000000 in
set_option maxRecDepth 100000 in
theorem Rd_readUnary_L_n147 (g : pmG) (d : Nat) (ex : List (Nat × Nat)) (R : Nat → Nat → Value) (hR : pk_R R) (hc : R 13 8 = .ref 7) (G : Nat → Int32 → Int32 → (Nat → Nat → Int32) → (Nat → Nat → Int64) → (Nat → Nat → Int32)) (GQ : Nat → Int32 → Int32 → (Nat → Nat → Int32) → (Nat → Nat → Int64) → Prop) (hG0 : ∀ (x0 x1 : Int32) (I : Nat → Nat → Int32) (J : Nat → Nat → Int64), GQ 0 x0 x1 I J → pmC g kRd_readExpression (d + 3) 0 0 [.ref 13, .int x0] (pk_K ++ ex, R, I, J) (.returned none) (pk_K ++ ex, R, G 0 x0 x1 I J, J)) (hG1 : ∀ (x0 x1 : Int32) (I : Nat → Nat → Int32) (J : Nat → Nat → Int64), GQ 1 x0 x1 I J → pmC g kRd_readOperands (d + 3) 0 0 [.ref 13, .int x0] (pk_K ++ ex, R, I, J) (.returned none) (pk_K ++ ex, R, G 1 x0 x1 I J, J)) (hG2 : ∀ (x0 x1 : Int32) (I : Nat → Nat → Int32) (J : Nat → Nat → Int64), GQ 2 x0 x1 I J → pmC g kRd_readUnary (d + 3) 0 0 [.ref 13, .int x0] (pk_K ++ ex, R, I, J) (.returned none) (pk_K ++ ex, R, G 2 x0 x1 I J, J)) (hG3 : ∀ (x0 x1 : Int32) (I : Nat → Nat → Int32) (J : Nat → Nat → Int64), GQ 3 x0 x1 I J → pmC g kRd_readAltered (d + 3) 0 0 [.ref 13, .int x0, .int x1] (pk_K ++ ex, R, I, J) (.returned none) (pk_K ++ ex, R, G 3 x0 x1 I J, J)) (o : Outcome) (Z : pmM)  (y1 : Int32) (I : Nat → Nat → Int32) (J : Nat → Nat → Int64) (hp : pRd_readUnary_L_147 G GQ y1 I J) (ho : o = .returned none) (hz : Z = (pk_K ++ ex, R, (fRd_readUnary_L_147 G y1 I J), J)) : pmE g kRd_readUnary (d + 4) 0 0 147 [(0, .ref 13), (1, .int y1)] [] (pk_K ++ ex) R I J o Z := by
  unfold pRd_readUnary_L_147 at hp
  refine pm_goto 154 dRd_readUnary_147 (by decide) ?_
  exact pm_vret dRd_readUnary_154 rfl ho (hz.trans (by first | rfl | (simp only [fRd_readUnary_L_147]; done) | (simp only [fRd_readUnary_L_147]; rfl)))
set_option maxHeartbeats 4000000 in
set_option maxRecDepth 100000 in
theorem Rd_readUnary_L_n5 (g : pmG) (d : Nat) (ex : List (Nat × Nat)) (R : Nat → Nat → Value) (hR : pk_R R) (hc : R 13 8 = .ref 7) (G : Nat → Int32 → Int32 → (Nat → Nat → Int32) → (Nat → Nat → Int64) → (Nat → Nat → Int32)) (GQ : Nat → Int32 → Int32 → (Nat → Nat → Int32) → (Nat → Nat → Int64) → Prop) (hG0 : ∀ (x0 x1 : Int32) (I : Nat → Nat → Int32) (J : Nat → Nat → Int64), GQ 0 x0 x1 I J → pmC g kRd_readExpression (d + 3) 0 0 [.ref 13, .int x0] (pk_K ++ ex, R, I, J) (.returned none) (pk_K ++ ex, R, G 0 x0 x1 I J, J)) (hG1 : ∀ (x0 x1 : Int32) (I : Nat → Nat → Int32) (J : Nat → Nat → Int64), GQ 1 x0 x1 I J → pmC g kRd_readOperands (d + 3) 0 0 [.ref 13, .int x0] (pk_K ++ ex, R, I, J) (.returned none) (pk_K ++ ex, R, G 1 x0 x1 I J, J)) (hG2 : ∀ (x0 x1 : Int32) (I : Nat → Nat → Int32) (J : Nat → Nat → Int64), GQ 2 x0 x1 I J → pmC g kRd_readUnary (d + 3) 0 0 [.ref 13, .int x0] (pk_K ++ ex, R, I, J) (.returned none) (pk_K ++ ex, R, G 2 x0 x1 I J, J)) (hG3 : ∀ (x0 x1 : Int32) (I : Nat → Nat → Int32) (J : Nat → Nat → Int64), GQ 3 x0 x1 I J → pmC g kRd_readAltered (d + 3) 0 0 [.ref 13, .int x0, .int x1] (pk_K ++ ex, R, I, J) (.returned none) (pk_K ++ ex, R, G 3 x0 x1 I J, J)) (o : Outcome) (Z : pmM)  (y1 : Int32) (z0 : Int32) (I : Nat → Nat → Int32) (J : Nat → Nat → Int64) (hp : pRd_readUnary_L_5 G GQ y1 z0 I J) (ho : o = .returned none) (hz : Z = (pk_K ++ ex, R, (fRd_readUnary_L_5 G y1 z0 I J), J)) : pmE g kRd_readUnary (d + 4) 0 0 5 [(0, .ref 13), (1, .int y1)] [.int z0] (pk_K ++ ex) R I J o Z := by
  unfold pRd_readUnary_L_5 at hp
  refine pm_if_eq 9 dRd_readUnary_5 (by decide) (fun h5 => ?_) (fun h5 => ?_)
  ·
    refine pm_aload_n dRd_readUnary_9 rfl ?_
    refine pm_geti dRd_readUnary_10 fRd_52 rfl ?_
    by_cases h13_4 : (I 13 3) = 4
    ·
      refine pm_lookup 102 dRd_readUnary_13 (by decide) (by first | (rw [h13_4]; rfl) | rw [h13_4]) (by decide) ?_
      refine pm_aload_n dRd_readUnary_102 rfl ?_
      refine pm_callV dRd_readUnary_103 lRd_139 vRd_advance ⟨_, _, rfl⟩ (Rd_advance_ok _ _ _ _ hR  _ _ ((hp.1 h5).1 h13_4).1) rfl rfl rfl (Nat.le_of_ble_eq_true rfl) (Nat.le_refl _) (Nat.le_refl _) ?_
      refine pm_wk [0, 1] rfl ?_
      exact Rd_readUnary_L_n106 g d ex R hR hc G GQ hG0 hG1 hG2 hG3 _ _   _ _ _ ((hp.1 h5).1 h13_4).2 ho (hz.trans (by first | (simp only [fRd_readUnary_L_5, if_pos h5, if_pos h13_4]; done) | (simp only [fRd_readUnary_L_5, if_pos h5, if_pos h13_4]; rfl) | rfl))
    ·
      by_cases h13_13 : (I 13 3) = 13
      ·
        refine pm_lookup 72 dRd_readUnary_13 (by decide) (by first | (rw [h13_13]; rfl) | rw [h13_13]) (by decide) ?_
        refine pm_aload_n dRd_readUnary_72 rfl ?_
        refine pm_bipush (v := 49) dRd_readUnary_73 (by decide) ?_
        refine pm_iload_n dRd_readUnary_75 rfl ?_
        refine pm_callV dRd_readUnary_76 lRd_193 vRd_readAltered ⟨_, _, rfl⟩ (hG3 _ _ _ _ (((hp.1 h5).2 h13_4).1 h13_13).1) rfl rfl rfl (Nat.le_of_ble_eq_true rfl) (Nat.le_refl _) (Nat.le_refl _) ?_
        refine pm_wk [0, 1] rfl ?_
        exact Rd_readUnary_L_n79 g d ex R hR hc G GQ hG0 hG1 hG2 hG3 _ _   _ _ _ (((hp.1 h5).2 h13_4).1 h13_13).2 ho (hz.trans (by first | (simp only [fRd_readUnary_L_5, if_pos h5, if_neg h13_4, if_pos h13_13]; done) | (simp only [fRd_readUnary_L_5, if_pos h5, if_neg h13_4, if_pos h13_13]; rfl) | rfl))
      ·
        by_cases h13_18 : (I 13 3) = 18
        ·
          refine pm_lookup 82 dRd_readUnary_13 (by decide) (by first | (rw [h13_18]; rfl) | rw [h13_18]) (by decide) ?_
          refine pm_aload_n dRd_readUnary_82 rfl ?_
          refine pm_bipush (v := 18) dRd_readUnary_83 (by decide) ?_
          refine pm_iload_n dRd_readUnary_85 rfl ?_
          refine pm_callV dRd_readUnary_86 lRd_193 vRd_readAltered ⟨_, _, rfl⟩ (hG3 _ _ _ _ ((((hp.1 h5).2 h13_4).2 h13_13).1 h13_18).1) rfl rfl rfl (Nat.le_of_ble_eq_true rfl) (Nat.le_refl _) (Nat.le_refl _) ?_
          refine pm_wk [0, 1] rfl ?_
          exact Rd_readUnary_L_n89 g d ex R hR hc G GQ hG0 hG1 hG2 hG3 _ _   _ _ _ ((((hp.1 h5).2 h13_4).2 h13_13).1 h13_18).2 ho (hz.trans (by first | (simp only [fRd_readUnary_L_5, if_pos h5, if_neg h13_4, if_neg h13_13, if_pos h13_18]; done) | (simp only [fRd_readUnary_L_5, if_pos h5, if_neg h13_4, if_neg h13_13, if_pos h13_18]; rfl) | rfl))
        ·
          by_cases h13_19 : (I 13 3) = 19
          ·
            refine pm_lookup 92 dRd_readUnary_13 (by decide) (by first | (rw [h13_19]; rfl) | rw [h13_19]) (by decide) ?_
            refine pm_aload_n dRd_readUnary_92 rfl ?_
            refine pm_bipush (v := 19) dRd_readUnary_93 (by decide) ?_
            refine pm_iload_n dRd_readUnary_95 rfl ?_
            refine pm_callV dRd_readUnary_96 lRd_193 vRd_readAltered ⟨_, _, rfl⟩ (hG3 _ _ _ _ (((((hp.1 h5).2 h13_4).2 h13_13).2 h13_18).1 h13_19).1) rfl rfl rfl (Nat.le_of_ble_eq_true rfl) (Nat.le_refl _) (Nat.le_refl _) ?_
            refine pm_wk [0, 1] rfl ?_
            exact Rd_readUnary_L_n99 g d ex R hR hc G GQ hG0 hG1 hG2 hG3 _ _   _ _ _ (((((hp.1 h5).2 h13_4).2 h13_13).2 h13_18).1 h13_19).2 ho (hz.trans (by first | (simp only [fRd_readUnary_L_5, if_pos h5, if_neg h13_4, if_neg h13_13, if_neg h13_18, if_pos h13_19]; done) | (simp only [fRd_readUnary_L_5, if_pos h5, if_neg h13_4, if_neg h13_13, if_neg h13_18, if_pos h13_19]; rfl) | rfl))
          ·
            by_cases h13_43 : (I 13 3) = 43
            ·
              refine pm_lookup 142 dRd_readUnary_13 (by decide) (by first | (rw [h13_43]; rfl) | rw [h13_43]) (by decide) ?_
              refine pm_aload_n dRd_readUnary_142 rfl ?_
              refine pm_iconst (v := 0) dRd_readUnary_143 (by decide) ?_
              refine pm_callV dRd_readUnary_144 lRd_196 vRd_readKnownName ⟨_, _, rfl⟩ (Rd_readKnownName_L_ok _ _ _ _ hR hc _ _ _ ((((((hp.1 h5).2 h13_4).2 h13_13).2 h13_18).2 h13_19).1 h13_43).1) rfl rfl rfl (Nat.le_of_ble_eq_true rfl) (Nat.le_refl _) (Nat.le_refl _) ?_
              refine pm_wk [0, 1] rfl ?_
              exact Rd_readUnary_L_n147 g d ex R hR hc G GQ hG0 hG1 hG2 hG3 _ _   _ _ _ ((((((hp.1 h5).2 h13_4).2 h13_13).2 h13_18).2 h13_19).1 h13_43).2 ho (hz.trans (by first | (simp only [fRd_readUnary_L_5, if_pos h5, if_neg h13_4, if_neg h13_13, if_neg h13_18, if_neg h13_19, if_pos h13_43]; done) | (simp only [fRd_readUnary_L_5, if_pos h5, if_neg h13_4, if_neg h13_13, if_neg h13_18, if_neg h13_19, if_pos h13_43]; rfl) | rfl))
            ·
              by_cases h13_44 : (I 13 3) = 44
              ·
                refine pm_lookup 122 dRd_readUnary_13 (by decide) (by first | (rw [h13_44]; rfl) | rw [h13_44]) (by decide) ?_
                refine pm_aload_n dRd_readUnary_122 rfl ?_
                refine pm_getr dRd_readUnary_123 fRd_40 rfl hc ?_
                refine pm_bipush (v := 44) dRd_readUnary_126 (by decide) ?_
                refine pm_aload_n dRd_readUnary_128 rfl ?_
                refine pm_iconst (v := 0) dRd_readUnary_129 (by decide) ?_
                refine pm_sipush (v := 255) dRd_readUnary_130 (by decide) ?_
                refine pm_callV dRd_readUnary_133 lRd_107 vRd_readNumber ⟨_, _, rfl⟩ (Rd_readNumber_ok _ _ _ _ hR _ _ _ _ (((((((hp.1 h5).2 h13_4).2 h13_13).2 h13_18).2 h13_19).2 h13_43).1 h13_44).1) rfl rfl rfl (Nat.le_of_ble_eq_true rfl) (Nat.le_refl _) (Nat.le_refl _) ?_
                refine pm_wk [0, 1] rfl ?_
                exact Rd_readUnary_L_n136 g d ex R hR hc G GQ hG0 hG1 hG2 hG3 _ _   _ _ _ _ _ (((((((hp.1 h5).2 h13_4).2 h13_13).2 h13_18).2 h13_19).2 h13_43).1 h13_44).2 ho (hz.trans (by first | (simp only [fRd_readUnary_L_5, if_pos h5, if_neg h13_4, if_neg h13_13, if_neg h13_18, if_neg h13_19, if_neg h13_43, if_pos h13_44]; done) | (simp only [fRd_readUnary_L_5, if_pos h5, if_neg h13_4, if_neg h13_13, if_neg h13_18, if_neg h13_19, if_neg h13_43, if_pos h13_44]; rfl) | rfl))
              ·
                refine pm_lookup 150 dRd_readUnary_13 (by decide) (pm_lkD [4, 13, 18, 19, 43, 44] rfl (by intro q9 hq9; simp only [List.mem_cons, List.not_mem_nil, or_false] at hq9; rcases hq9 with rfl | rfl | rfl | rfl | rfl | rfl <;> assumption)) (by decide) ?_
                refine pm_aload_n dRd_readUnary_150 rfl ?_
                refine pm_callV dRd_readUnary_151 lRd_73 vRd_refuse ⟨_, _, rfl⟩ (Rd_refuse_ok _ _ _ _ hR  _ _ (((((((hp.1 h5).2 h13_4).2 h13_13).2 h13_18).2 h13_19).2 h13_43).2 h13_44).1) rfl rfl rfl (Nat.le_of_ble_eq_true rfl) (Nat.le_refl _) (Nat.le_refl _) ?_
                exact pm_vret dRd_readUnary_154 rfl ho (hz.trans (by first | (simp only [fRd_readUnary_L_5, if_pos h5, if_neg h13_4, if_neg h13_13, if_neg h13_18, if_neg h13_19, if_neg h13_43, if_neg h13_44]; done) | (simp only [fRd_readUnary_L_5, if_pos h5, if_neg h13_4, if_neg h13_13, if_neg h13_18, if_neg h13_19, if_neg h13_43, if_neg h13_44]; rfl) | rfl))
  ·
    exact pm_vret dRd_readUnary_8 rfl ho (hz.trans (by first | (simp only [fRd_readUnary_L_5, if_neg h5]; done) | (simp only [fRd_readUnary_L_5, if_neg h5]; rfl) | rfl))
set_option maxHeartbeats 4000000 in
set_option maxRecDepth 100000 in
theorem Rd_readUnary_L_n0 (g : pmG) (d : Nat) (ex : List (Nat × Nat)) (R : Nat → Nat → Value) (hR : pk_R R) (hc : R 13 8 = .ref 7) (G : Nat → Int32 → Int32 → (Nat → Nat → Int32) → (Nat → Nat → Int64) → (Nat → Nat → Int32)) (GQ : Nat → Int32 → Int32 → (Nat → Nat → Int32) → (Nat → Nat → Int64) → Prop) (hG0 : ∀ (x0 x1 : Int32) (I : Nat → Nat → Int32) (J : Nat → Nat → Int64), GQ 0 x0 x1 I J → pmC g kRd_readExpression (d + 3) 0 0 [.ref 13, .int x0] (pk_K ++ ex, R, I, J) (.returned none) (pk_K ++ ex, R, G 0 x0 x1 I J, J)) (hG1 : ∀ (x0 x1 : Int32) (I : Nat → Nat → Int32) (J : Nat → Nat → Int64), GQ 1 x0 x1 I J → pmC g kRd_readOperands (d + 3) 0 0 [.ref 13, .int x0] (pk_K ++ ex, R, I, J) (.returned none) (pk_K ++ ex, R, G 1 x0 x1 I J, J)) (hG2 : ∀ (x0 x1 : Int32) (I : Nat → Nat → Int32) (J : Nat → Nat → Int64), GQ 2 x0 x1 I J → pmC g kRd_readUnary (d + 3) 0 0 [.ref 13, .int x0] (pk_K ++ ex, R, I, J) (.returned none) (pk_K ++ ex, R, G 2 x0 x1 I J, J)) (hG3 : ∀ (x0 x1 : Int32) (I : Nat → Nat → Int32) (J : Nat → Nat → Int64), GQ 3 x0 x1 I J → pmC g kRd_readAltered (d + 3) 0 0 [.ref 13, .int x0, .int x1] (pk_K ++ ex, R, I, J) (.returned none) (pk_K ++ ex, R, G 3 x0 x1 I J, J)) (o : Outcome) (Z : pmM)  (y1 : Int32) (I : Nat → Nat → Int32) (J : Nat → Nat → Int64) (hp : pRd_readUnary_L G GQ y1 I J) (ho : o = .returned none) (hz : Z = (pk_K ++ ex, R, (fRd_readUnary_L G y1 I J), J)) : pmE g kRd_readUnary (d + 4) 0 0 0 [(0, .ref 13), (1, .int y1)] [] (pk_K ++ ex) R I J o Z := by
  unfold pRd_readUnary_L at hp
  refine pm_aload_n dRd_readUnary_0 rfl ?_
  refine pm_iload_n dRd_readUnary_1 rfl ?_
  refine pm_callV dRd_readUnary_2 lRd_168 vRd_isTooDeep ⟨_, _, rfl⟩ (Rd_isTooDeep_ok _ _ _ _ hR _ _ _ hp.1) rfl rfl rfl (Nat.le_of_ble_eq_true rfl) (Nat.le_refl _) (Nat.le_refl _) ?_
  refine pm_wk [0, 1] rfl ?_
  exact Rd_readUnary_L_n5 g d ex R hR hc G GQ hG0 hG1 hG2 hG3 _ _   _ _ _ _ hp.2 ho (hz.trans (by first | rfl | (simp only [fRd_readUnary_L]; done) | (simp only [fRd_readUnary_L]; rfl)))
set_option maxHeartbeats 4000000 in
set_option maxRecDepth 100000 in
theorem Rd_readUnary_L_ok (g : pmG) (d : Nat) (ex : List (Nat × Nat)) (R : Nat → Nat → Value) (hR : pk_R R) (hc : R 13 8 = .ref 7) (G : Nat → Int32 → Int32 → (Nat → Nat → Int32) → (Nat → Nat → Int64) → (Nat → Nat → Int32)) (GQ : Nat → Int32 → Int32 → (Nat → Nat → Int32) → (Nat → Nat → Int64) → Prop) (hG0 : ∀ (x0 x1 : Int32) (I : Nat → Nat → Int32) (J : Nat → Nat → Int64), GQ 0 x0 x1 I J → pmC g kRd_readExpression (d + 3) 0 0 [.ref 13, .int x0] (pk_K ++ ex, R, I, J) (.returned none) (pk_K ++ ex, R, G 0 x0 x1 I J, J)) (hG1 : ∀ (x0 x1 : Int32) (I : Nat → Nat → Int32) (J : Nat → Nat → Int64), GQ 1 x0 x1 I J → pmC g kRd_readOperands (d + 3) 0 0 [.ref 13, .int x0] (pk_K ++ ex, R, I, J) (.returned none) (pk_K ++ ex, R, G 1 x0 x1 I J, J)) (hG2 : ∀ (x0 x1 : Int32) (I : Nat → Nat → Int32) (J : Nat → Nat → Int64), GQ 2 x0 x1 I J → pmC g kRd_readUnary (d + 3) 0 0 [.ref 13, .int x0] (pk_K ++ ex, R, I, J) (.returned none) (pk_K ++ ex, R, G 2 x0 x1 I J, J)) (hG3 : ∀ (x0 x1 : Int32) (I : Nat → Nat → Int32) (J : Nat → Nat → Int64), GQ 3 x0 x1 I J → pmC g kRd_readAltered (d + 3) 0 0 [.ref 13, .int x0, .int x1] (pk_K ++ ex, R, I, J) (.returned none) (pk_K ++ ex, R, G 3 x0 x1 I J, J))  (x0 : Int32) (I : Nat → Nat → Int32) (J : Nat → Nat → Int64) (hp : pRd_readUnary_L G GQ x0 I J) : pmC g kRd_readUnary (d + 4) 0 0 [.ref 13, .int x0] (pk_K ++ ex, R, I, J) (.returned none) (pk_K ++ ex, R, (fRd_readUnary_L G x0 I J), J) :=
  pmC.of (by decide) (Nat.le_of_ble_eq_true rfl) (Rd_readUnary_L_n0 g d ex R hR hc G GQ hG0 hG1 hG2 hG3 _ _  x0 I J hp rfl rfl)
def fRd_readAltered_L_15 (G : Nat → Int32 → Int32 → (Nat → Nat → Int32) → (Nat → Nat → Int64) → (Nat → Nat → Int32)) (y1 : Int32) (y2 : Int32) (I : Nat → Nat → Int32) (J : Nat → Nat → Int64) : (Nat → Nat → Int32) :=
  (fCo_add_L y1 (0 : Int32) I J)
def pRd_readAltered_L_15 (G : Nat → Int32 → Int32 → (Nat → Nat → Int32) → (Nat → Nat → Int64) → (Nat → Nat → Int32)) (GQ : Nat → Int32 → Int32 → (Nat → Nat → Int32) → (Nat → Nat → Int64) → Prop) (y1 : Int32) (y2 : Int32) (I : Nat → Nat → Int32) (J : Nat → Nat → Int64) : Prop :=
  (pCo_add_L y1 (0 : Int32) I J) ∧ True
def fRd_readAltered_L_8 (G : Nat → Int32 → Int32 → (Nat → Nat → Int32) → (Nat → Nat → Int64) → (Nat → Nat → Int32)) (y1 : Int32) (y2 : Int32) (I : Nat → Nat → Int32) (J : Nat → Nat → Int64) : (Nat → Nat → Int32) :=
  fRd_readAltered_L_15 G y1 y2 (G 2 (y2 + (1 : Int32)) 0 I J) J
def pRd_readAltered_L_8 (G : Nat → Int32 → Int32 → (Nat → Nat → Int32) → (Nat → Nat → Int64) → (Nat → Nat → Int32)) (GQ : Nat → Int32 → Int32 → (Nat → Nat → Int32) → (Nat → Nat → Int64) → Prop) (y1 : Int32) (y2 : Int32) (I : Nat → Nat → Int32) (J : Nat → Nat → Int64) : Prop :=
  (GQ 2 (y2 + (1 : Int32)) 0 I J) ∧ (pRd_readAltered_L_15 G GQ y1 y2 (G 2 (y2 + (1 : Int32)) 0 I J) J)
def fRd_readAltered_L_4 (G : Nat → Int32 → Int32 → (Nat → Nat → Int32) → (Nat → Nat → Int64) → (Nat → Nat → Int32)) (y1 : Int32) (y2 : Int32) (I : Nat → Nat → Int32) (J : Nat → Nat → Int64) : (Nat → Nat → Int32) :=
  fRd_readAltered_L_8 G y1 y2 ((fRd_advance I J)) J
def pRd_readAltered_L_4 (G : Nat → Int32 → Int32 → (Nat → Nat → Int32) → (Nat → Nat → Int64) → (Nat → Nat → Int32)) (GQ : Nat → Int32 → Int32 → (Nat → Nat → Int32) → (Nat → Nat → Int64) → Prop) (y1 : Int32) (y2 : Int32) (I : Nat → Nat → Int32) (J : Nat → Nat → Int64) : Prop :=
  (pRd_advance I J) ∧ (pRd_readAltered_L_8 G GQ y1 y2 ((fRd_advance I J)) J)
def fRd_readAltered_L (G : Nat → Int32 → Int32 → (Nat → Nat → Int32) → (Nat → Nat → Int64) → (Nat → Nat → Int32)) (y1 : Int32) (y2 : Int32) (I : Nat → Nat → Int32) (J : Nat → Nat → Int64) : (Nat → Nat → Int32) :=
  fRd_readAltered_L_4 G y1 y2 ((fRd_chargeSign I J)) J
def pRd_readAltered_L (G : Nat → Int32 → Int32 → (Nat → Nat → Int32) → (Nat → Nat → Int64) → (Nat → Nat → Int32)) (GQ : Nat → Int32 → Int32 → (Nat → Nat → Int32) → (Nat → Nat → Int64) → Prop) (y1 : Int32) (y2 : Int32) (I : Nat → Nat → Int32) (J : Nat → Nat → Int64) : Prop :=
  (pRd_chargeSign I J) ∧ (pRd_readAltered_L_4 G GQ y1 y2 ((fRd_chargeSign I J)) J)
set_option maxHeartbeats 4000000 in
set_option maxRecDepth 100000 in
theorem Rd_readAltered_L_n15 (g : pmG) (d : Nat) (ex : List (Nat × Nat)) (R : Nat → Nat → Value) (hR : pk_R R) (hc : R 13 8 = .ref 7) (G : Nat → Int32 → Int32 → (Nat → Nat → Int32) → (Nat → Nat → Int64) → (Nat → Nat → Int32)) (GQ : Nat → Int32 → Int32 → (Nat → Nat → Int32) → (Nat → Nat → Int64) → Prop) (hG0 : ∀ (x0 x1 : Int32) (I : Nat → Nat → Int32) (J : Nat → Nat → Int64), GQ 0 x0 x1 I J → pmC g kRd_readExpression (d + 3) 0 0 [.ref 13, .int x0] (pk_K ++ ex, R, I, J) (.returned none) (pk_K ++ ex, R, G 0 x0 x1 I J, J)) (hG1 : ∀ (x0 x1 : Int32) (I : Nat → Nat → Int32) (J : Nat → Nat → Int64), GQ 1 x0 x1 I J → pmC g kRd_readOperands (d + 3) 0 0 [.ref 13, .int x0] (pk_K ++ ex, R, I, J) (.returned none) (pk_K ++ ex, R, G 1 x0 x1 I J, J)) (hG2 : ∀ (x0 x1 : Int32) (I : Nat → Nat → Int32) (J : Nat → Nat → Int64), GQ 2 x0 x1 I J → pmC g kRd_readUnary (d + 3) 0 0 [.ref 13, .int x0] (pk_K ++ ex, R, I, J) (.returned none) (pk_K ++ ex, R, G 2 x0 x1 I J, J)) (hG3 : ∀ (x0 x1 : Int32) (I : Nat → Nat → Int32) (J : Nat → Nat → Int64), GQ 3 x0 x1 I J → pmC g kRd_readAltered (d + 3) 0 0 [.ref 13, .int x0, .int x1] (pk_K ++ ex, R, I, J) (.returned none) (pk_K ++ ex, R, G 3 x0 x1 I J, J)) (o : Outcome) (Z : pmM)  (y1 : Int32) (y2 : Int32) (I : Nat → Nat → Int32) (J : Nat → Nat → Int64) (hp : pRd_readAltered_L_15 G GQ y1 y2 I J) (ho : o = .returned none) (hz : Z = (pk_K ++ ex, R, (fRd_readAltered_L_15 G y1 y2 I J), J)) : pmE g kRd_readAltered (d + 4) 0 0 15 [(0, .ref 13), (1, .int y1), (2, .int y2)] [] (pk_K ++ ex) R I J o Z := by
  unfold pRd_readAltered_L_15 at hp
  refine pm_aload_n dRd_readAltered_15 rfl ?_
  refine pm_getr dRd_readAltered_16 fRd_40 rfl hc ?_
  refine pm_iload_n dRd_readAltered_19 rfl ?_
  refine pm_iconst (v := 0) dRd_readAltered_20 (by decide) ?_
  refine pm_callV dRd_readAltered_21 lRd_128 vCo_add ⟨_, _, rfl⟩ (Co_add_L_ok _ _ _ _ hR _ _ _ _ hp.1) rfl rfl rfl (Nat.le_of_ble_eq_true rfl) (Nat.le_refl _) (Nat.le_refl _) ?_
  exact pm_vret dRd_readAltered_24 rfl ho (hz.trans (by first | rfl | (simp only [fRd_readAltered_L_15]; done) | (simp only [fRd_readAltered_L_15]; rfl)))
set_option maxHeartbeats 4000000 in
set_option maxRecDepth 100000 in
theorem Rd_readAltered_L_n8 (g : pmG) (d : Nat) (ex : List (Nat × Nat)) (R : Nat → Nat → Value) (hR : pk_R R) (hc : R 13 8 = .ref 7) (G : Nat → Int32 → Int32 → (Nat → Nat → Int32) → (Nat → Nat → Int64) → (Nat → Nat → Int32)) (GQ : Nat → Int32 → Int32 → (Nat → Nat → Int32) → (Nat → Nat → Int64) → Prop) (hG0 : ∀ (x0 x1 : Int32) (I : Nat → Nat → Int32) (J : Nat → Nat → Int64), GQ 0 x0 x1 I J → pmC g kRd_readExpression (d + 3) 0 0 [.ref 13, .int x0] (pk_K ++ ex, R, I, J) (.returned none) (pk_K ++ ex, R, G 0 x0 x1 I J, J)) (hG1 : ∀ (x0 x1 : Int32) (I : Nat → Nat → Int32) (J : Nat → Nat → Int64), GQ 1 x0 x1 I J → pmC g kRd_readOperands (d + 3) 0 0 [.ref 13, .int x0] (pk_K ++ ex, R, I, J) (.returned none) (pk_K ++ ex, R, G 1 x0 x1 I J, J)) (hG2 : ∀ (x0 x1 : Int32) (I : Nat → Nat → Int32) (J : Nat → Nat → Int64), GQ 2 x0 x1 I J → pmC g kRd_readUnary (d + 3) 0 0 [.ref 13, .int x0] (pk_K ++ ex, R, I, J) (.returned none) (pk_K ++ ex, R, G 2 x0 x1 I J, J)) (hG3 : ∀ (x0 x1 : Int32) (I : Nat → Nat → Int32) (J : Nat → Nat → Int64), GQ 3 x0 x1 I J → pmC g kRd_readAltered (d + 3) 0 0 [.ref 13, .int x0, .int x1] (pk_K ++ ex, R, I, J) (.returned none) (pk_K ++ ex, R, G 3 x0 x1 I J, J)) (o : Outcome) (Z : pmM)  (y1 : Int32) (y2 : Int32) (I : Nat → Nat → Int32) (J : Nat → Nat → Int64) (hp : pRd_readAltered_L_8 G GQ y1 y2 I J) (ho : o = .returned none) (hz : Z = (pk_K ++ ex, R, (fRd_readAltered_L_8 G y1 y2 I J), J)) : pmE g kRd_readAltered (d + 4) 0 0 8 [(0, .ref 13), (1, .int y1), (2, .int y2)] [] (pk_K ++ ex) R I J o Z := by
  unfold pRd_readAltered_L_8 at hp
  refine pm_aload_n dRd_readAltered_8 rfl ?_
  refine pm_iload_n dRd_readAltered_9 rfl ?_
  refine pm_iconst (v := 1) dRd_readAltered_10 (by decide) ?_
  refine pm_iadd dRd_readAltered_11 ?_
  refine pm_callV dRd_readAltered_12 lRd_177 vRd_readUnary ⟨_, _, rfl⟩ (hG2 _ 0 _ _ hp.1) rfl rfl rfl (Nat.le_of_ble_eq_true rfl) (Nat.le_refl _) (Nat.le_refl _) ?_
  refine pm_wk [0, 1, 2] rfl ?_
  exact Rd_readAltered_L_n15 g d ex R hR hc G GQ hG0 hG1 hG2 hG3 _ _   _ _ _ _ hp.2 ho (hz.trans (by first | rfl | (simp only [fRd_readAltered_L_8]; done) | (simp only [fRd_readAltered_L_8]; rfl)))
set_option maxHeartbeats 4000000 in
set_option maxRecDepth 100000 in
theorem Rd_readAltered_L_n4 (g : pmG) (d : Nat) (ex : List (Nat × Nat)) (R : Nat → Nat → Value) (hR : pk_R R) (hc : R 13 8 = .ref 7) (G : Nat → Int32 → Int32 → (Nat → Nat → Int32) → (Nat → Nat → Int64) → (Nat → Nat → Int32)) (GQ : Nat → Int32 → Int32 → (Nat → Nat → Int32) → (Nat → Nat → Int64) → Prop) (hG0 : ∀ (x0 x1 : Int32) (I : Nat → Nat → Int32) (J : Nat → Nat → Int64), GQ 0 x0 x1 I J → pmC g kRd_readExpression (d + 3) 0 0 [.ref 13, .int x0] (pk_K ++ ex, R, I, J) (.returned none) (pk_K ++ ex, R, G 0 x0 x1 I J, J)) (hG1 : ∀ (x0 x1 : Int32) (I : Nat → Nat → Int32) (J : Nat → Nat → Int64), GQ 1 x0 x1 I J → pmC g kRd_readOperands (d + 3) 0 0 [.ref 13, .int x0] (pk_K ++ ex, R, I, J) (.returned none) (pk_K ++ ex, R, G 1 x0 x1 I J, J)) (hG2 : ∀ (x0 x1 : Int32) (I : Nat → Nat → Int32) (J : Nat → Nat → Int64), GQ 2 x0 x1 I J → pmC g kRd_readUnary (d + 3) 0 0 [.ref 13, .int x0] (pk_K ++ ex, R, I, J) (.returned none) (pk_K ++ ex, R, G 2 x0 x1 I J, J)) (hG3 : ∀ (x0 x1 : Int32) (I : Nat → Nat → Int32) (J : Nat → Nat → Int64), GQ 3 x0 x1 I J → pmC g kRd_readAltered (d + 3) 0 0 [.ref 13, .int x0, .int x1] (pk_K ++ ex, R, I, J) (.returned none) (pk_K ++ ex, R, G 3 x0 x1 I J, J)) (o : Outcome) (Z : pmM)  (y1 : Int32) (y2 : Int32) (I : Nat → Nat → Int32) (J : Nat → Nat → Int64) (hp : pRd_readAltered_L_4 G GQ y1 y2 I J) (ho : o = .returned none) (hz : Z = (pk_K ++ ex, R, (fRd_readAltered_L_4 G y1 y2 I J), J)) : pmE g kRd_readAltered (d + 4) 0 0 4 [(0, .ref 13), (1, .int y1), (2, .int y2)] [] (pk_K ++ ex) R I J o Z := by
  unfold pRd_readAltered_L_4 at hp
  refine pm_aload_n dRd_readAltered_4 rfl ?_
  refine pm_callV dRd_readAltered_5 lRd_139 vRd_advance ⟨_, _, rfl⟩ (Rd_advance_ok _ _ _ _ hR  _ _ hp.1) rfl rfl rfl (Nat.le_of_ble_eq_true rfl) (Nat.le_refl _) (Nat.le_refl _) ?_
  refine pm_wk [0, 1, 2] rfl ?_
  exact Rd_readAltered_L_n8 g d ex R hR hc G GQ hG0 hG1 hG2 hG3 _ _   _ _ _ _ hp.2 ho (hz.trans (by first | rfl | (simp only [fRd_readAltered_L_4]; done) | (simp only [fRd_readAltered_L_4]; rfl)))
set_option maxHeartbeats 4000000 in
set_option maxRecDepth 100000 in
theorem Rd_readAltered_L_n0 (g : pmG) (d : Nat) (ex : List (Nat × Nat)) (R : Nat → Nat → Value) (hR : pk_R R) (hc : R 13 8 = .ref 7) (G : Nat → Int32 → Int32 → (Nat → Nat → Int32) → (Nat → Nat → Int64) → (Nat → Nat → Int32)) (GQ : Nat → Int32 → Int32 → (Nat → Nat → Int32) → (Nat → Nat → Int64) → Prop) (hG0 : ∀ (x0 x1 : Int32) (I : Nat → Nat → Int32) (J : Nat → Nat → Int64), GQ 0 x0 x1 I J → pmC g kRd_readExpression (d + 3) 0 0 [.ref 13, .int x0] (pk_K ++ ex, R, I, J) (.returned none) (pk_K ++ ex, R, G 0 x0 x1 I J, J)) (hG1 : ∀ (x0 x1 : Int32) (I : Nat → Nat → Int32) (J : Nat → Nat → Int64), GQ 1 x0 x1 I J → pmC g kRd_readOperands (d + 3) 0 0 [.ref 13, .int x0] (pk_K ++ ex, R, I, J) (.returned none) (pk_K ++ ex, R, G 1 x0 x1 I J, J)) (hG2 : ∀ (x0 x1 : Int32) (I : Nat → Nat → Int32) (J : Nat → Nat → Int64), GQ 2 x0 x1 I J → pmC g kRd_readUnary (d + 3) 0 0 [.ref 13, .int x0] (pk_K ++ ex, R, I, J) (.returned none) (pk_K ++ ex, R, G 2 x0 x1 I J, J)) (hG3 : ∀ (x0 x1 : Int32) (I : Nat → Nat → Int32) (J : Nat → Nat → Int64), GQ 3 x0 x1 I J → pmC g kRd_readAltered (d + 3) 0 0 [.ref 13, .int x0, .int x1] (pk_K ++ ex, R, I, J) (.returned none) (pk_K ++ ex, R, G 3 x0 x1 I J, J)) (o : Outcome) (Z : pmM)  (y1 : Int32) (y2 : Int32) (I : Nat → Nat → Int32) (J : Nat → Nat → Int64) (hp : pRd_readAltered_L G GQ y1 y2 I J) (ho : o = .returned none) (hz : Z = (pk_K ++ ex, R, (fRd_readAltered_L G y1 y2 I J), J)) : pmE g kRd_readAltered (d + 4) 0 0 0 [(0, .ref 13), (1, .int y1), (2, .int y2)] [] (pk_K ++ ex) R I J o Z := by
  unfold pRd_readAltered_L at hp
  refine pm_aload_n dRd_readAltered_0 rfl ?_
  refine pm_callV dRd_readAltered_1 lRd_174 vRd_chargeSign ⟨_, _, rfl⟩ (Rd_chargeSign_ok _ _ _ _ hR  _ _ hp.1) rfl rfl rfl (Nat.le_of_ble_eq_true rfl) (Nat.le_refl _) (Nat.le_refl _) ?_
  refine pm_wk [0, 1, 2] rfl ?_
  exact Rd_readAltered_L_n4 g d ex R hR hc G GQ hG0 hG1 hG2 hG3 _ _   _ _ _ _ hp.2 ho (hz.trans (by first | rfl | (simp only [fRd_readAltered_L]; done) | (simp only [fRd_readAltered_L]; rfl)))
set_option maxHeartbeats 4000000 in
set_option maxRecDepth 100000 in
theorem Rd_readAltered_L_ok (g : pmG) (d : Nat) (ex : List (Nat × Nat)) (R : Nat → Nat → Value) (hR : pk_R R) (hc : R 13 8 = .ref 7) (G : Nat → Int32 → Int32 → (Nat → Nat → Int32) → (Nat → Nat → Int64) → (Nat → Nat → Int32)) (GQ : Nat → Int32 → Int32 → (Nat → Nat → Int32) → (Nat → Nat → Int64) → Prop) (hG0 : ∀ (x0 x1 : Int32) (I : Nat → Nat → Int32) (J : Nat → Nat → Int64), GQ 0 x0 x1 I J → pmC g kRd_readExpression (d + 3) 0 0 [.ref 13, .int x0] (pk_K ++ ex, R, I, J) (.returned none) (pk_K ++ ex, R, G 0 x0 x1 I J, J)) (hG1 : ∀ (x0 x1 : Int32) (I : Nat → Nat → Int32) (J : Nat → Nat → Int64), GQ 1 x0 x1 I J → pmC g kRd_readOperands (d + 3) 0 0 [.ref 13, .int x0] (pk_K ++ ex, R, I, J) (.returned none) (pk_K ++ ex, R, G 1 x0 x1 I J, J)) (hG2 : ∀ (x0 x1 : Int32) (I : Nat → Nat → Int32) (J : Nat → Nat → Int64), GQ 2 x0 x1 I J → pmC g kRd_readUnary (d + 3) 0 0 [.ref 13, .int x0] (pk_K ++ ex, R, I, J) (.returned none) (pk_K ++ ex, R, G 2 x0 x1 I J, J)) (hG3 : ∀ (x0 x1 : Int32) (I : Nat → Nat → Int32) (J : Nat → Nat → Int64), GQ 3 x0 x1 I J → pmC g kRd_readAltered (d + 3) 0 0 [.ref 13, .int x0, .int x1] (pk_K ++ ex, R, I, J) (.returned none) (pk_K ++ ex, R, G 3 x0 x1 I J, J))  (x0 : Int32) (x1 : Int32) (I : Nat → Nat → Int32) (J : Nat → Nat → Int64) (hp : pRd_readAltered_L G GQ x0 x1 I J) : pmC g kRd_readAltered (d + 4) 0 0 [.ref 13, .int x0, .int x1] (pk_K ++ ex, R, I, J) (.returned none) (pk_K ++ ex, R, (fRd_readAltered_L G x0 x1 I J), J) :=
  pmC.of (by decide) (Nat.le_of_ble_eq_true rfl) (Rd_readAltered_L_n0 g d ex R hR hc G GQ hG0 hG1 hG2 hG3 _ _  x0 x1 I J hp rfl rfl)
def ge_L_F : Nat → Nat → Int32 → Int32 → (Nat → Nat → Int32) → (Nat → Nat → Int64) → (Nat → Nat → Int32)
  | 0, _, _, _, I, _ => I
  | m + 1, t, x0, x1, I, J =>
  if t = 0 then fRd_readExpression_L (ge_L_F m) x0 I J
  else if t = 1 then fRd_readOperands_L (ge_L_F m) 4002 x0 I J
  else if t = 2 then fRd_readUnary_L (ge_L_F m) x0 I J
  else if t = 3 then fRd_readAltered_L (ge_L_F m) x0 x1 I J
  else I
def ge_L_Q : Nat → Nat → Int32 → Int32 → (Nat → Nat → Int32) → (Nat → Nat → Int64) → Prop
  | 0, _, _, _, _, _ => False
  | m + 1, t, x0, x1, I, J =>
  if t = 0 then pRd_readExpression_L (ge_L_F m) (ge_L_Q m) x0 I J
  else if t = 1 then pRd_readOperands_L (ge_L_F m) (ge_L_Q m) 4002 x0 I J
  else if t = 2 then pRd_readUnary_L (ge_L_F m) (ge_L_Q m) x0 I J
  else if t = 3 then pRd_readAltered_L (ge_L_F m) (ge_L_Q m) x0 x1 I J
  else False
set_option maxHeartbeats 4000000 in
set_option maxRecDepth 100000 in
theorem ge_L_all (g : pmG) (d : Nat) (ex : List (Nat × Nat)) (R : Nat → Nat → Value) (hR : pk_R R) (hc : R 13 8 = .ref 7) : ∀ m : Nat, (∀ (x0 x1 : Int32) (I : Nat → Nat → Int32) (J : Nat → Nat → Int64), ge_L_Q m 0 x0 x1 I J → pmC g kRd_readExpression (d + m + 3) 0 0 [.ref 13, .int x0] (pk_K ++ ex, R, I, J) (.returned none) (pk_K ++ ex, R, ge_L_F m 0 x0 x1 I J, J)) ∧ (∀ (x0 x1 : Int32) (I : Nat → Nat → Int32) (J : Nat → Nat → Int64), ge_L_Q m 1 x0 x1 I J → pmC g kRd_readOperands (d + m + 3) 0 0 [.ref 13, .int x0] (pk_K ++ ex, R, I, J) (.returned none) (pk_K ++ ex, R, ge_L_F m 1 x0 x1 I J, J)) ∧ (∀ (x0 x1 : Int32) (I : Nat → Nat → Int32) (J : Nat → Nat → Int64), ge_L_Q m 2 x0 x1 I J → pmC g kRd_readUnary (d + m + 3) 0 0 [.ref 13, .int x0] (pk_K ++ ex, R, I, J) (.returned none) (pk_K ++ ex, R, ge_L_F m 2 x0 x1 I J, J)) ∧ (∀ (x0 x1 : Int32) (I : Nat → Nat → Int32) (J : Nat → Nat → Int64), ge_L_Q m 3 x0 x1 I J → pmC g kRd_readAltered (d + m + 3) 0 0 [.ref 13, .int x0, .int x1] (pk_K ++ ex, R, I, J) (.returned none) (pk_K ++ ex, R, ge_L_F m 3 x0 x1 I J, J)) := by
  intro m
  induction m with
  | zero => exact ⟨fun _ _ _ _ h => False.elim h, fun _ _ _ _ h => False.elim h, fun _ _ _ _ h => False.elim h, fun _ _ _ _ h => False.elim h⟩
  | succ m ih => exact ⟨fun x0 x1 I J h => Rd_readExpression_L_ok g (d + m) ex R hR hc (ge_L_F m) (ge_L_Q m) ih.1 ih.2.1 ih.2.2.1 ih.2.2.2  x0 I J h, fun x0 x1 I J h => Rd_readOperands_L_ok g (d + m) ex R hR hc (ge_L_F m) (ge_L_Q m) ih.1 ih.2.1 ih.2.2.1 ih.2.2.2 4002 x0 I J h, fun x0 x1 I J h => Rd_readUnary_L_ok g (d + m) ex R hR hc (ge_L_F m) (ge_L_Q m) ih.1 ih.2.1 ih.2.2.1 ih.2.2.2  x0 I J h, fun x0 x1 I J h => Rd_readAltered_L_ok g (d + m) ex R hR hc (ge_L_F m) (ge_L_Q m) ih.1 ih.2.1 ih.2.2.1 ih.2.2.2  x0 x1 I J h⟩
def fge_L_Rd_readExpression (x0 : Int32) (I : Nat → Nat → Int32) (J : Nat → Nat → Int64) : Nat → Nat → Int32 := ge_L_F 200 0 x0 0 I J
def pge_L_Rd_readExpression (x0 : Int32) (I : Nat → Nat → Int32) (J : Nat → Nat → Int64) : Prop := ge_L_Q 200 0 x0 0 I J
theorem ge_L_Rd_readExpression_ok (g : pmG) (d : Nat) (ex : List (Nat × Nat)) (R : Nat → Nat → Value) (hR : pk_R R) (hc : R 13 8 = .ref 7) (x0 : Int32) (I : Nat → Nat → Int32) (J : Nat → Nat → Int64) (hp : pge_L_Rd_readExpression x0 I J) : pmC g kRd_readExpression (d + 203) 0 0 [.ref 13, .int x0] (pk_K ++ ex, R, I, J) (.returned none) (pk_K ++ ex, R, fge_L_Rd_readExpression x0 I J, J) :=
  (ge_L_all g d ex R hR hc 200).1 x0 0 I J hp
def fRd_settle_F_53 (r0 : Int32 → Int32 → (Nat → Nat → Int32) → (Nat → Nat → Int64) → (Nat → Nat → Int32)) (y1 : Int32) (y2 : Int32) (I : Nat → Nat → Int32) (J : Nat → Nat → Int64) : (Nat → Nat → Int32) :=
  r0 y1 y2 I J
def pRd_settle_F_53 (q0 : Int32 → Int32 → (Nat → Nat → Int32) → (Nat → Nat → Int64) → Prop) (y1 : Int32) (y2 : Int32) (I : Nat → Nat → Int32) (J : Nat → Nat → Int64) : Prop :=
  q0 y1 y2 I J
def fRd_settle_F  : Nat → Int32 → Int32 → (Nat → Nat → Int32) → (Nat → Nat → Int64) → (Nat → Nat → Int32)
  | 0, _, _, I, _ => I
  | n + 1, y1, y2, I, J =>
  if (I 13 7) ≤ y1 then I
  else if ((fRd_tightness (I 16 ((I 13 7) - (1 : Int32)).toNatClampNeg) I J)) < y2 then I
    else fRd_settle_F_53 (fRd_settle_F n) y1 y2 ((fCo_add_F ((pm_u I 13 7 ((I 13 7) - (1 : Int32))) 16 ((I 13 7) - (1 : Int32)).toNatClampNeg) (0 : Int32) (pm_u I 13 7 ((I 13 7) - (1 : Int32))) J)) J
def pRd_settle_F  : Nat → Int32 → Int32 → (Nat → Nat → Int32) → (Nat → Nat → Int64) → Prop
  | 0, _, _, _, _ => False
  | n + 1, y1, y2, I, J =>
  ((I 13 7) ≤ y1 → True) ∧
  (¬ ((I 13 7) ≤ y1) → (vp_in ((I 13 7) - (1 : Int32)) 125) ∧ ((pRd_tightness (I 16 ((I 13 7) - (1 : Int32)).toNatClampNeg) I J) ∧ ((((fRd_tightness (I 16 ((I 13 7) - (1 : Int32)).toNatClampNeg) I J)) < y2 → True) ∧
    (¬ (((fRd_tightness (I 16 ((I 13 7) - (1 : Int32)).toNatClampNeg) I J)) < y2) → (vp_in ((I 13 7) - (1 : Int32)) 125) ∧ ((pCo_add_F ((pm_u I 13 7 ((I 13 7) - (1 : Int32))) 16 ((I 13 7) - (1 : Int32)).toNatClampNeg) (0 : Int32) (pm_u I 13 7 ((I 13 7) - (1 : Int32))) J) ∧ (pRd_settle_F_53 (pRd_settle_F n) y1 y2 ((fCo_add_F ((pm_u I 13 7 ((I 13 7) - (1 : Int32))) 16 ((I 13 7) - (1 : Int32)).toNatClampNeg) (0 : Int32) (pm_u I 13 7 ((I 13 7) - (1 : Int32))) J)) J))))))
set_option maxHeartbeats 4000000 in
set_option maxRecDepth 100000 in
theorem Rd_settle_F_n53 (g : pmG) (d : Nat) (ex : List (Nat × Nat)) (R : Nat → Nat → Value) (hR : pk_R R) (hc : R 13 8 = .ref 10) (o : Outcome) (Z : pmM) (r0 : Int32 → Int32 → (Nat → Nat → Int32) → (Nat → Nat → Int64) → (Nat → Nat → Int32)) (q0 : Int32 → Int32 → (Nat → Nat → Int32) → (Nat → Nat → Int64) → Prop) (ih0 : ∀ (y1 : Int32) (y2 : Int32) (I : Nat → Nat → Int32) (J : Nat → Nat → Int64), q0 y1 y2 I J → o = .returned none → Z = (pk_K ++ ex, R, (r0 y1 y2 I J), J) → pmE g kRd_settle (d + 1) 0 0 0 [(0, .ref 13), (1, .int y1), (2, .int y2)] [] (pk_K ++ ex) R I J o Z)  (y1 : Int32) (y2 : Int32) (I : Nat → Nat → Int32) (J : Nat → Nat → Int64) (hp : pRd_settle_F_53 q0 y1 y2 I J) (ho : o = .returned none) (hz : Z = (pk_K ++ ex, R, (fRd_settle_F_53 r0 y1 y2 I J), J)) : pmE g kRd_settle (d + 1) 0 0 53 [(0, .ref 13), (1, .int y1), (2, .int y2)] [] (pk_K ++ ex) R I J o Z := by
  unfold pRd_settle_F_53 at hp
  refine pm_goto 0 dRd_settle_53 (by decide) ?_
  refine pm_wk [0, 1, 2] rfl ?_
  exact ih0 _ _ _ _ hp ho (hz.trans (by first | rfl | (simp only [fRd_settle_F_53]; done) | (simp only [fRd_settle_F_53]; rfl)))
set_option maxHeartbeats 4000000 in
set_option maxRecDepth 100000 in
theorem Rd_settle_F_n0 (g : pmG) (d : Nat) (ex : List (Nat × Nat)) (R : Nat → Nat → Value) (hR : pk_R R) (hc : R 13 8 = .ref 10) (o : Outcome) (Z : pmM)  : ∀ (n : Nat) (y1 : Int32) (y2 : Int32) (I : Nat → Nat → Int32) (J : Nat → Nat → Int64), pRd_settle_F n y1 y2 I J → o = .returned none → Z = (pk_K ++ ex, R, (fRd_settle_F n y1 y2 I J), J) → pmE g kRd_settle (d + 1) 0 0 0 [(0, .ref 13), (1, .int y1), (2, .int y2)] [] (pk_K ++ ex) R I J o Z := by
  intro n
  induction n with
  | zero => intro y1 y2 I J hp; exact False.elim hp
  | succ n ih =>
  intro y1 y2 I J hp ho hz
  simp only [pRd_settle_F] at hp
  refine pm_aload_n dRd_settle_0 rfl ?_
  refine pm_geti dRd_settle_1 fRd_85 rfl ?_
  refine pm_iload_n dRd_settle_4 rfl ?_
  refine pm_icmp_le 56 dRd_settle_5 (by decide) (fun h5 => ?_) (fun h5 => ?_)
  ·
    exact pm_vret dRd_settle_56 rfl ho (hz.trans (by first | (simp only [fRd_settle_F, if_pos h5]; done) | (simp only [fRd_settle_F, if_pos h5]; rfl) | rfl))
  ·
    refine pm_aload_n dRd_settle_8 rfl ?_
    refine pm_getr dRd_settle_9 fRd_18 rfl (rr_13_6 hR) ?_
    refine pm_aload_n dRd_settle_12 rfl ?_
    refine pm_geti dRd_settle_13 fRd_85 rfl ?_
    refine pm_iconst (v := 1) dRd_settle_16 (by decide) ?_
    refine pm_isub dRd_settle_17 ?_
    refine pm_iald dRd_settle_18 rfl (hp.2 h5).1 ?_
    refine pm_callS dRd_settle_19 lRd_180 tRd_tightness (Rd_tightness_ok _ _ _ _ hR _ _ _ (hp.2 h5).2.1) rfl rfl (Nat.le_of_ble_eq_true rfl) (Nat.le_refl _) (Nat.le_refl _) ?_
    refine pm_iload_n dRd_settle_22 rfl ?_
    refine pm_icmp_lt 56 dRd_settle_23 (by decide) (fun h23 => ?_) (fun h23 => ?_)
    ·
      exact pm_vret dRd_settle_56 rfl ho (hz.trans (by first | (simp only [fRd_settle_F, if_neg h5, if_pos h23]; done) | (simp only [fRd_settle_F, if_neg h5, if_pos h23]; rfl) | rfl))
    ·
      refine pm_aload_n dRd_settle_26 rfl ?_
      refine pm_dup dRd_settle_27 rfl ?_
      refine pm_geti dRd_settle_28 fRd_85 rfl ?_
      refine pm_iconst (v := 1) dRd_settle_31 (by decide) ?_
      refine pm_isub dRd_settle_32 ?_
      refine pm_puti dRd_settle_33 fRd_85 sRd_85 (fun h => by cases h) rfl rfl rfl ?_
      refine pm_aload_n dRd_settle_36 rfl ?_
      refine pm_getr dRd_settle_37 fRd_40 rfl hc ?_
      refine pm_aload_n dRd_settle_40 rfl ?_
      refine pm_getr dRd_settle_41 fRd_18 rfl (rr_13_6 hR) ?_
      refine pm_aload_n dRd_settle_44 rfl ?_
      refine pm_geti dRd_settle_45 fRd_85 rfl ?_
      refine pm_eqi ((I 13 7) - (1 : Int32)) rfl ?_
      refine pm_iald dRd_settle_48 rfl ((hp.2 h5).2.2.2 h23).1 ?_
      refine pm_iconst (v := 0) dRd_settle_49 (by decide) ?_
      refine pm_callV dRd_settle_50 lRd_128 vCo_add ⟨_, _, rfl⟩ (Co_add_F_ok _ _ _ _ hR _ _ _ _ ((hp.2 h5).2.2.2 h23).2.1) rfl rfl rfl (Nat.le_of_ble_eq_true rfl) (Nat.le_refl _) (Nat.le_refl _) ?_
      refine pm_wk [0, 1, 2] rfl ?_
      exact Rd_settle_F_n53 g d ex R hR hc _ _ (fRd_settle_F n) (pRd_settle_F n) ih  _ _ _ _ ((hp.2 h5).2.2.2 h23).2.2 ho (hz.trans (by first | (simp only [fRd_settle_F, if_neg h5, if_neg h23]; done) | (simp only [fRd_settle_F, if_neg h5, if_neg h23]; rfl) | rfl))
set_option maxHeartbeats 4000000 in
set_option maxRecDepth 100000 in
theorem Rd_settle_F_ok (g : pmG) (d : Nat) (ex : List (Nat × Nat)) (R : Nat → Nat → Value) (hR : pk_R R) (hc : R 13 8 = .ref 10) (n0 : Nat) (x0 : Int32) (x1 : Int32) (I : Nat → Nat → Int32) (J : Nat → Nat → Int64) (hp : pRd_settle_F n0 x0 x1 I J) : pmC g kRd_settle (d + 1) 0 0 [.ref 13, .int x0, .int x1] (pk_K ++ ex, R, I, J) (.returned none) (pk_K ++ ex, R, (fRd_settle_F n0 x0 x1 I J), J) :=
  pmC.of (by decide) (Nat.le_of_ble_eq_true rfl) (Rd_settle_F_n0 g d ex R hR hc _ _ n0 x0 x1 I J hp rfl rfl)
def fRd_readKnownName_F_32  (y1 : Int32) (y2 : Int32) (I : Nat → Nat → Int32) (J : Nat → Nat → Int64) : (Nat → Nat → Int32) :=
  (fRd_halt (2 : Int32) I J)
def pRd_readKnownName_F_32  (y1 : Int32) (y2 : Int32) (I : Nat → Nat → Int32) (J : Nat → Nat → Int64) : Prop :=
  (pRd_halt (2 : Int32) I J) ∧ True
def fRd_readKnownName_F_73  (y1 : Int32) (y2 : Int32) (I : Nat → Nat → Int32) (J : Nat → Nat → Int64) : (Nat → Nat → Int32) :=
  (fRd_advance I J)
def pRd_readKnownName_F_73  (y1 : Int32) (y2 : Int32) (I : Nat → Nat → Int32) (J : Nat → Nat → Int64) : Prop :=
  (pRd_advance I J) ∧ True
def fRd_readKnownName_F_60  (y1 : Int32) (y2 : Int32) (I : Nat → Nat → Int32) (J : Nat → Nat → Int64) : (Nat → Nat → Int32) :=
  fRd_readKnownName_F_73 y1 y2 I J
def pRd_readKnownName_F_60  (y1 : Int32) (y2 : Int32) (I : Nat → Nat → Int32) (J : Nat → Nat → Int64) : Prop :=
  pRd_readKnownName_F_73 y1 y2 I J
def fRd_readKnownName_F_28  (y1 : Int32) (y2 : Int32) (z0 : Int32) (I : Nat → Nat → Int32) (J : Nat → Nat → Int64) : (Nat → Nat → Int32) :=
  if z0 = y1 then if y1 = 0 then fRd_readKnownName_F_73 y1 y2 ((fCo_add_F (43 : Int32) y2 I J)) J
    else fRd_readKnownName_F_60 y1 y2 ((fCo_add_F (52 : Int32) (I 6 y2.toNatClampNeg) I J)) J
  else fRd_readKnownName_F_32 y1 y2 I J
def pRd_readKnownName_F_28  (y1 : Int32) (y2 : Int32) (z0 : Int32) (I : Nat → Nat → Int32) (J : Nat → Nat → Int64) : Prop :=
  (z0 = y1 → (y1 = 0 → (pCo_add_F (43 : Int32) y2 I J) ∧ (pRd_readKnownName_F_73 y1 y2 ((fCo_add_F (43 : Int32) y2 I J)) J)) ∧
    (¬ (y1 = 0) → (vp_in y2 60) ∧ ((pCo_add_F (52 : Int32) (I 6 y2.toNatClampNeg) I J) ∧ (pRd_readKnownName_F_60 y1 y2 ((fCo_add_F (52 : Int32) (I 6 y2.toNatClampNeg) I J)) J)))) ∧
  (¬ (z0 = y1) → pRd_readKnownName_F_32 y1 y2 I J)
def fRd_readKnownName_F  (y1 : Int32) (I : Nat → Nat → Int32) (J : Nat → Nat → Int64) : (Nat → Nat → Int32) :=
  if ((fRd_findName 61 I J)) < 0 then fRd_readKnownName_F_32 y1 ((fRd_findName 61 I J)) I J
  else if (I 4 ((fRd_findName 61 I J)).toNatClampNeg) = (33 : Int32) then fRd_readKnownName_F_28 y1 ((fRd_findName 61 I J)) (1 : Int32) I J
    else fRd_readKnownName_F_28 y1 ((fRd_findName 61 I J)) (0 : Int32) I J
def pRd_readKnownName_F  (y1 : Int32) (I : Nat → Nat → Int32) (J : Nat → Nat → Int64) : Prop :=
  (pRd_findName 61 I J) ∧ ((((fRd_findName 61 I J)) < 0 → pRd_readKnownName_F_32 y1 ((fRd_findName 61 I J)) I J) ∧
  (¬ (((fRd_findName 61 I J)) < 0) → (vp_in ((fRd_findName 61 I J)) 60) ∧ (((I 4 ((fRd_findName 61 I J)).toNatClampNeg) = (33 : Int32) → pRd_readKnownName_F_28 y1 ((fRd_findName 61 I J)) (1 : Int32) I J) ∧
    (¬ ((I 4 ((fRd_findName 61 I J)).toNatClampNeg) = (33 : Int32)) → pRd_readKnownName_F_28 y1 ((fRd_findName 61 I J)) (0 : Int32) I J))))
set_option maxHeartbeats 4000000 in
set_option maxRecDepth 100000 in
theorem Rd_readKnownName_F_n32 (g : pmG) (d : Nat) (ex : List (Nat × Nat)) (R : Nat → Nat → Value) (hR : pk_R R) (hc : R 13 8 = .ref 10) (o : Outcome) (Z : pmM)  (y1 : Int32) (y2 : Int32) (I : Nat → Nat → Int32) (J : Nat → Nat → Int64) (hp : pRd_readKnownName_F_32 y1 y2 I J) (ho : o = .returned none) (hz : Z = (pk_K ++ ex, R, (fRd_readKnownName_F_32 y1 y2 I J), J)) : pmE g kRd_readKnownName (d + 2) 0 0 32 [(0, .ref 13), (1, .int y1), (2, .int y2)] [] (pk_K ++ ex) R I J o Z := by
  unfold pRd_readKnownName_F_32 at hp
  refine pm_aload_n dRd_readKnownName_32 rfl ?_
  refine pm_iconst (v := 2) dRd_readKnownName_33 (by decide) ?_
  refine pm_callV dRd_readKnownName_34 lRd_149 vRd_halt ⟨_, _, rfl⟩ (Rd_halt_ok _ _ _ _ hR _ _ _ hp.1) rfl rfl rfl (Nat.le_of_ble_eq_true rfl) (Nat.le_refl _) (Nat.le_refl _) ?_
  exact pm_vret dRd_readKnownName_37 rfl ho (hz.trans (by first | rfl | (simp only [fRd_readKnownName_F_32]; done) | (simp only [fRd_readKnownName_F_32]; rfl)))
set_option maxHeartbeats 4000000 in
set_option maxRecDepth 100000 in
theorem Rd_readKnownName_F_n73 (g : pmG) (d : Nat) (ex : List (Nat × Nat)) (R : Nat → Nat → Value) (hR : pk_R R) (hc : R 13 8 = .ref 10) (o : Outcome) (Z : pmM)  (y1 : Int32) (y2 : Int32) (I : Nat → Nat → Int32) (J : Nat → Nat → Int64) (hp : pRd_readKnownName_F_73 y1 y2 I J) (ho : o = .returned none) (hz : Z = (pk_K ++ ex, R, (fRd_readKnownName_F_73 y1 y2 I J), J)) : pmE g kRd_readKnownName (d + 2) 0 0 73 [(0, .ref 13), (1, .int y1), (2, .int y2)] [] (pk_K ++ ex) R I J o Z := by
  unfold pRd_readKnownName_F_73 at hp
  refine pm_aload_n dRd_readKnownName_73 rfl ?_
  refine pm_callV dRd_readKnownName_74 lRd_139 vRd_advance ⟨_, _, rfl⟩ (Rd_advance_ok _ _ _ _ hR  _ _ hp.1) rfl rfl rfl (Nat.le_of_ble_eq_true rfl) (Nat.le_refl _) (Nat.le_refl _) ?_
  exact pm_vret dRd_readKnownName_77 rfl ho (hz.trans (by first | rfl | (simp only [fRd_readKnownName_F_73]; done) | (simp only [fRd_readKnownName_F_73]; rfl)))
set_option maxHeartbeats 4000000 in
set_option maxRecDepth 100000 in
theorem Rd_readKnownName_F_n60 (g : pmG) (d : Nat) (ex : List (Nat × Nat)) (R : Nat → Nat → Value) (hR : pk_R R) (hc : R 13 8 = .ref 10) (o : Outcome) (Z : pmM)  (y1 : Int32) (y2 : Int32) (I : Nat → Nat → Int32) (J : Nat → Nat → Int64) (hp : pRd_readKnownName_F_60 y1 y2 I J) (ho : o = .returned none) (hz : Z = (pk_K ++ ex, R, (fRd_readKnownName_F_60 y1 y2 I J), J)) : pmE g kRd_readKnownName (d + 2) 0 0 60 [(0, .ref 13), (1, .int y1), (2, .int y2)] [] (pk_K ++ ex) R I J o Z := by
  unfold pRd_readKnownName_F_60 at hp
  refine pm_goto 73 dRd_readKnownName_60 (by decide) ?_
  refine pm_wk [0, 1, 2] rfl ?_
  exact Rd_readKnownName_F_n73 g d ex R hR hc _ _   _ _ _ _ hp ho (hz.trans (by first | rfl | (simp only [fRd_readKnownName_F_60]; done) | (simp only [fRd_readKnownName_F_60]; rfl)))
set_option maxHeartbeats 4000000 in
set_option maxRecDepth 100000 in
theorem Rd_readKnownName_F_n28 (g : pmG) (d : Nat) (ex : List (Nat × Nat)) (R : Nat → Nat → Value) (hR : pk_R R) (hc : R 13 8 = .ref 10) (o : Outcome) (Z : pmM)  (y1 : Int32) (y2 : Int32) (z0 : Int32) (I : Nat → Nat → Int32) (J : Nat → Nat → Int64) (hp : pRd_readKnownName_F_28 y1 y2 z0 I J) (ho : o = .returned none) (hz : Z = (pk_K ++ ex, R, (fRd_readKnownName_F_28 y1 y2 z0 I J), J)) : pmE g kRd_readKnownName (d + 2) 0 0 28 [(0, .ref 13), (1, .int y1), (2, .int y2)] [.int z0] (pk_K ++ ex) R I J o Z := by
  unfold pRd_readKnownName_F_28 at hp
  refine pm_iload_n dRd_readKnownName_28 rfl ?_
  refine pm_icmp_eq 38 dRd_readKnownName_29 (by decide) (fun h29 => ?_) (fun h29 => ?_)
  ·
    refine pm_iload_n dRd_readKnownName_38 rfl ?_
    refine pm_if_eq 63 dRd_readKnownName_39 (by decide) (fun h39 => ?_) (fun h39 => ?_)
    ·
      refine pm_aload_n dRd_readKnownName_63 rfl ?_
      refine pm_getr dRd_readKnownName_64 fRd_40 rfl hc ?_
      refine pm_bipush (v := 43) dRd_readKnownName_67 (by decide) ?_
      refine pm_iload_n dRd_readKnownName_69 rfl ?_
      refine pm_callV dRd_readKnownName_70 lRd_128 vCo_add ⟨_, _, rfl⟩ (Co_add_F_ok _ _ _ _ hR _ _ _ _ ((hp.1 h29).1 h39).1) rfl rfl rfl (Nat.le_of_ble_eq_true rfl) (Nat.le_refl _) (Nat.le_refl _) ?_
      refine pm_wk [0, 1, 2] rfl ?_
      exact Rd_readKnownName_F_n73 g d ex R hR hc _ _   _ _ _ _ ((hp.1 h29).1 h39).2 ho (hz.trans (by first | (simp only [fRd_readKnownName_F_28, if_pos h29, if_pos h39]; done) | (simp only [fRd_readKnownName_F_28, if_pos h29, if_pos h39]; rfl) | rfl))
    ·
      refine pm_aload_n dRd_readKnownName_42 rfl ?_
      refine pm_getr dRd_readKnownName_43 fRd_40 rfl hc ?_
      refine pm_bipush (v := 52) dRd_readKnownName_46 (by decide) ?_
      refine pm_aload_n dRd_readKnownName_48 rfl ?_
      refine pm_getr dRd_readKnownName_49 fRd_21 rfl (rr_13_0 hR) ?_
      refine pm_getr dRd_readKnownName_52 fRd_200 rfl (rr_3_2 hR) ?_
      refine pm_iload_n dRd_readKnownName_55 rfl ?_
      refine pm_iald dRd_readKnownName_56 rfl ((hp.1 h29).2 h39).1 ?_
      refine pm_callV dRd_readKnownName_57 lRd_128 vCo_add ⟨_, _, rfl⟩ (Co_add_F_ok _ _ _ _ hR _ _ _ _ ((hp.1 h29).2 h39).2.1) rfl rfl rfl (Nat.le_of_ble_eq_true rfl) (Nat.le_refl _) (Nat.le_refl _) ?_
      refine pm_wk [0, 1, 2] rfl ?_
      exact Rd_readKnownName_F_n60 g d ex R hR hc _ _   _ _ _ _ ((hp.1 h29).2 h39).2.2 ho (hz.trans (by first | (simp only [fRd_readKnownName_F_28, if_pos h29, if_neg h39]; done) | (simp only [fRd_readKnownName_F_28, if_pos h29, if_neg h39]; rfl) | rfl))
  ·
    refine pm_wk [0, 1, 2] rfl ?_
    exact Rd_readKnownName_F_n32 g d ex R hR hc _ _   _ _ _ _ (hp.2 h29) ho (hz.trans (by first | (simp only [fRd_readKnownName_F_28, if_neg h29]; done) | (simp only [fRd_readKnownName_F_28, if_neg h29]; rfl) | rfl))
set_option maxHeartbeats 4000000 in
set_option maxRecDepth 100000 in
theorem Rd_readKnownName_F_n0 (g : pmG) (d : Nat) (ex : List (Nat × Nat)) (R : Nat → Nat → Value) (hR : pk_R R) (hc : R 13 8 = .ref 10) (o : Outcome) (Z : pmM)  (y1 : Int32) (I : Nat → Nat → Int32) (J : Nat → Nat → Int64) (hp : pRd_readKnownName_F y1 I J) (ho : o = .returned none) (hz : Z = (pk_K ++ ex, R, (fRd_readKnownName_F y1 I J), J)) : pmE g kRd_readKnownName (d + 2) 0 0 0 [(0, .ref 13), (1, .int y1)] [] (pk_K ++ ex) R I J o Z := by
  unfold pRd_readKnownName_F at hp
  refine pm_aload_n dRd_readKnownName_0 rfl ?_
  refine pm_callV dRd_readKnownName_1 lRd_161 vRd_findName ⟨_, _, rfl⟩ (Rd_findName_ok _ _ _ _ hR _ _ _ hp.1) rfl rfl rfl (Nat.le_of_ble_eq_true rfl) (Nat.le_refl _) (Nat.le_refl _) ?_
  refine pm_istore_n dRd_readKnownName_4 (by decide) rfl ?_
  refine pm_iload_n dRd_readKnownName_5 rfl ?_
  refine pm_if_lt 32 dRd_readKnownName_6 (by decide) (fun h6 => ?_) (fun h6 => ?_)
  ·
    refine pm_wk [1, 2, 0] rfl ?_
    exact Rd_readKnownName_F_n32 g d ex R hR hc _ _   _ _ _ _ (hp.2.1 h6) ho (hz.trans (by first | (simp only [fRd_readKnownName_F, if_pos h6]; done) | (simp only [fRd_readKnownName_F, if_pos h6]; rfl) | rfl))
  ·
    refine pm_aload_n dRd_readKnownName_9 rfl ?_
    refine pm_getr dRd_readKnownName_10 fRd_21 rfl (rr_13_0 hR) ?_
    refine pm_getr dRd_readKnownName_13 fRd_164 rfl (rr_3_0 hR) ?_
    refine pm_iload_n dRd_readKnownName_16 rfl ?_
    refine pm_iald dRd_readKnownName_17 rfl (hp.2.2 h6).1 ?_
    refine pm_bipush (v := 33) dRd_readKnownName_18 (by decide) ?_
    refine pm_icmp_ne 27 dRd_readKnownName_20 (by decide) (fun h20 => ?_) (fun h20 => ?_)
    ·
      refine pm_iconst (v := 0) dRd_readKnownName_27 (by decide) ?_
      refine pm_wk [1, 2, 0] rfl ?_
      exact Rd_readKnownName_F_n28 g d ex R hR hc _ _   _ _ _ _ _ ((hp.2.2 h6).2.2 h20) ho (hz.trans (by first | (simp only [fRd_readKnownName_F, if_neg h6, if_neg h20]; done) | (simp only [fRd_readKnownName_F, if_neg h6, if_neg h20]; rfl) | rfl))
    ·
      refine pm_iconst (v := 1) dRd_readKnownName_23 (by decide) ?_
      refine pm_goto 28 dRd_readKnownName_24 (by decide) ?_
      refine pm_wk [1, 2, 0] rfl ?_
      exact Rd_readKnownName_F_n28 g d ex R hR hc _ _   _ _ _ _ _ ((hp.2.2 h6).2.1 h20) ho (hz.trans (by first | (simp only [fRd_readKnownName_F, if_neg h6, if_pos h20]; done) | (simp only [fRd_readKnownName_F, if_neg h6, if_pos h20]; rfl) | rfl))
set_option maxHeartbeats 4000000 in
set_option maxRecDepth 100000 in
theorem Rd_readKnownName_F_ok (g : pmG) (d : Nat) (ex : List (Nat × Nat)) (R : Nat → Nat → Value) (hR : pk_R R) (hc : R 13 8 = .ref 10)  (x0 : Int32) (I : Nat → Nat → Int32) (J : Nat → Nat → Int64) (hp : pRd_readKnownName_F x0 I J) : pmC g kRd_readKnownName (d + 2) 0 0 [.ref 13, .int x0] (pk_K ++ ex, R, I, J) (.returned none) (pk_K ++ ex, R, (fRd_readKnownName_F x0 I J), J) :=
  pmC.of (by decide) (Nat.le_of_ble_eq_true rfl) (Rd_readKnownName_F_n0 g d ex R hR hc _ _  x0 I J hp rfl rfl)
def fRd_readExpression_F_50 (G : Nat → Int32 → Int32 → (Nat → Nat → Int32) → (Nat → Nat → Int64) → (Nat → Nat → Int32)) (y1 : Int32) (I : Nat → Nat → Int32) (J : Nat → Nat → Int64) : (Nat → Nat → Int32) :=
  (fCo_add_F (50 : Int32) (0 : Int32) I J)
def pRd_readExpression_F_50 (G : Nat → Int32 → Int32 → (Nat → Nat → Int32) → (Nat → Nat → Int64) → (Nat → Nat → Int32)) (GQ : Nat → Int32 → Int32 → (Nat → Nat → Int32) → (Nat → Nat → Int64) → Prop) (y1 : Int32) (I : Nat → Nat → Int32) (J : Nat → Nat → Int64) : Prop :=
  (pCo_add_F (50 : Int32) (0 : Int32) I J) ∧ True
def fRd_readExpression_F_42 (G : Nat → Int32 → Int32 → (Nat → Nat → Int32) → (Nat → Nat → Int64) → (Nat → Nat → Int32)) (y1 : Int32) (z0 : Int32) (I : Nat → Nat → Int32) (J : Nat → Nat → Int64) : (Nat → Nat → Int32) :=
  fRd_readExpression_F_50 G y1 (G 0 (y1 + (1 : Int32)) 0 I J) J
def pRd_readExpression_F_42 (G : Nat → Int32 → Int32 → (Nat → Nat → Int32) → (Nat → Nat → Int64) → (Nat → Nat → Int32)) (GQ : Nat → Int32 → Int32 → (Nat → Nat → Int32) → (Nat → Nat → Int64) → Prop) (y1 : Int32) (z0 : Int32) (I : Nat → Nat → Int32) (J : Nat → Nat → Int64) : Prop :=
  (GQ 0 (y1 + (1 : Int32)) 0 I J) ∧ (pRd_readExpression_F_50 G GQ y1 (G 0 (y1 + (1 : Int32)) 0 I J) J)
def fRd_readExpression_F_37 (G : Nat → Int32 → Int32 → (Nat → Nat → Int32) → (Nat → Nat → Int64) → (Nat → Nat → Int32)) (y1 : Int32) (I : Nat → Nat → Int32) (J : Nat → Nat → Int64) : (Nat → Nat → Int32) :=
  fRd_readExpression_F_42 G y1 ((fRd_expect (1 : Int32) I J).1) ((fRd_expect (1 : Int32) I J).2) J
def pRd_readExpression_F_37 (G : Nat → Int32 → Int32 → (Nat → Nat → Int32) → (Nat → Nat → Int64) → (Nat → Nat → Int32)) (GQ : Nat → Int32 → Int32 → (Nat → Nat → Int32) → (Nat → Nat → Int64) → Prop) (y1 : Int32) (I : Nat → Nat → Int32) (J : Nat → Nat → Int64) : Prop :=
  (pRd_expect (1 : Int32) I J) ∧ (pRd_readExpression_F_42 G GQ y1 ((fRd_expect (1 : Int32) I J).1) ((fRd_expect (1 : Int32) I J).2) J)
def fRd_readExpression_F_30 (G : Nat → Int32 → Int32 → (Nat → Nat → Int32) → (Nat → Nat → Int64) → (Nat → Nat → Int32)) (y1 : Int32) (I : Nat → Nat → Int32) (J : Nat → Nat → Int64) : (Nat → Nat → Int32) :=
  fRd_readExpression_F_37 G y1 (G 0 (y1 + (1 : Int32)) 0 I J) J
def pRd_readExpression_F_30 (G : Nat → Int32 → Int32 → (Nat → Nat → Int32) → (Nat → Nat → Int64) → (Nat → Nat → Int32)) (GQ : Nat → Int32 → Int32 → (Nat → Nat → Int32) → (Nat → Nat → Int64) → Prop) (y1 : Int32) (I : Nat → Nat → Int32) (J : Nat → Nat → Int64) : Prop :=
  (GQ 0 (y1 + (1 : Int32)) 0 I J) ∧ (pRd_readExpression_F_37 G GQ y1 (G 0 (y1 + (1 : Int32)) 0 I J) J)
def fRd_readExpression_F_26 (G : Nat → Int32 → Int32 → (Nat → Nat → Int32) → (Nat → Nat → Int64) → (Nat → Nat → Int32)) (y1 : Int32) (I : Nat → Nat → Int32) (J : Nat → Nat → Int64) : (Nat → Nat → Int32) :=
  fRd_readExpression_F_30 G y1 ((fRd_advance I J)) J
def pRd_readExpression_F_26 (G : Nat → Int32 → Int32 → (Nat → Nat → Int32) → (Nat → Nat → Int64) → (Nat → Nat → Int32)) (GQ : Nat → Int32 → Int32 → (Nat → Nat → Int32) → (Nat → Nat → Int64) → Prop) (y1 : Int32) (I : Nat → Nat → Int32) (J : Nat → Nat → Int64) : Prop :=
  (pRd_advance I J) ∧ (pRd_readExpression_F_30 G GQ y1 ((fRd_advance I J)) J)
def fRd_readExpression_F_14 (G : Nat → Int32 → Int32 → (Nat → Nat → Int32) → (Nat → Nat → Int64) → (Nat → Nat → Int32)) (y1 : Int32) (I : Nat → Nat → Int32) (J : Nat → Nat → Int64) : (Nat → Nat → Int32) :=
  if (I 13 3) = (3 : Int32) then fRd_readExpression_F_26 G y1 ((fRd_chargeSign I J)) J
  else I
def pRd_readExpression_F_14 (G : Nat → Int32 → Int32 → (Nat → Nat → Int32) → (Nat → Nat → Int64) → (Nat → Nat → Int32)) (GQ : Nat → Int32 → Int32 → (Nat → Nat → Int32) → (Nat → Nat → Int64) → Prop) (y1 : Int32) (I : Nat → Nat → Int32) (J : Nat → Nat → Int64) : Prop :=
  ((I 13 3) = (3 : Int32) → (pRd_chargeSign I J) ∧ (pRd_readExpression_F_26 G GQ y1 ((fRd_chargeSign I J)) J)) ∧
  (¬ ((I 13 3) = (3 : Int32)) → True)
def fRd_readExpression_F_5 (G : Nat → Int32 → Int32 → (Nat → Nat → Int32) → (Nat → Nat → Int64) → (Nat → Nat → Int32)) (y1 : Int32) (z0 : Int32) (I : Nat → Nat → Int32) (J : Nat → Nat → Int64) : (Nat → Nat → Int32) :=
  if z0 = 0 then fRd_readExpression_F_14 G y1 (G 1 y1 0 I J) J
  else I
def pRd_readExpression_F_5 (G : Nat → Int32 → Int32 → (Nat → Nat → Int32) → (Nat → Nat → Int64) → (Nat → Nat → Int32)) (GQ : Nat → Int32 → Int32 → (Nat → Nat → Int32) → (Nat → Nat → Int64) → Prop) (y1 : Int32) (z0 : Int32) (I : Nat → Nat → Int32) (J : Nat → Nat → Int64) : Prop :=
  (z0 = 0 → (GQ 1 y1 0 I J) ∧ (pRd_readExpression_F_14 G GQ y1 (G 1 y1 0 I J) J)) ∧
  (¬ (z0 = 0) → True)
def fRd_readExpression_F (G : Nat → Int32 → Int32 → (Nat → Nat → Int32) → (Nat → Nat → Int64) → (Nat → Nat → Int32)) (y1 : Int32) (I : Nat → Nat → Int32) (J : Nat → Nat → Int64) : (Nat → Nat → Int32) :=
  fRd_readExpression_F_5 G y1 ((fRd_isTooDeep y1 I J).1) ((fRd_isTooDeep y1 I J).2) J
def pRd_readExpression_F (G : Nat → Int32 → Int32 → (Nat → Nat → Int32) → (Nat → Nat → Int64) → (Nat → Nat → Int32)) (GQ : Nat → Int32 → Int32 → (Nat → Nat → Int32) → (Nat → Nat → Int64) → Prop) (y1 : Int32) (I : Nat → Nat → Int32) (J : Nat → Nat → Int64) : Prop :=
  (pRd_isTooDeep y1 I J) ∧ (pRd_readExpression_F_5 G GQ y1 ((fRd_isTooDeep y1 I J).1) ((fRd_isTooDeep y1 I J).2) J)
set_option maxHeartbeats 4000000 in
set_option maxRecDepth 100000 in
theorem Rd_readExpression_F_n50 (g : pmG) (d : Nat) (ex : List (Nat × Nat)) (R : Nat → Nat → Value) (hR : pk_R R) (hc : R 13 8 = .ref 10) (G : Nat → Int32 → Int32 → (Nat → Nat → Int32) → (Nat → Nat → Int64) → (Nat → Nat → Int32)) (GQ : Nat → Int32 → Int32 → (Nat → Nat → Int32) → (Nat → Nat → Int64) → Prop) (hG0 : ∀ (x0 x1 : Int32) (I : Nat → Nat → Int32) (J : Nat → Nat → Int64), GQ 0 x0 x1 I J → pmC g kRd_readExpression (d + 203) 0 0 [.ref 13, .int x0] (pk_K ++ ex, R, I, J) (.returned none) (pk_K ++ ex, R, G 0 x0 x1 I J, J)) (hG1 : ∀ (x0 x1 : Int32) (I : Nat → Nat → Int32) (J : Nat → Nat → Int64), GQ 1 x0 x1 I J → pmC g kRd_readOperands (d + 203) 0 0 [.ref 13, .int x0] (pk_K ++ ex, R, I, J) (.returned none) (pk_K ++ ex, R, G 1 x0 x1 I J, J)) (hG2 : ∀ (x0 x1 : Int32) (I : Nat → Nat → Int32) (J : Nat → Nat → Int64), GQ 2 x0 x1 I J → pmC g kRd_readUnary (d + 203) 0 0 [.ref 13, .int x0] (pk_K ++ ex, R, I, J) (.returned none) (pk_K ++ ex, R, G 2 x0 x1 I J, J)) (hG3 : ∀ (x0 x1 : Int32) (I : Nat → Nat → Int32) (J : Nat → Nat → Int64), GQ 3 x0 x1 I J → pmC g kRd_readAltered (d + 203) 0 0 [.ref 13, .int x0, .int x1] (pk_K ++ ex, R, I, J) (.returned none) (pk_K ++ ex, R, G 3 x0 x1 I J, J)) (o : Outcome) (Z : pmM)  (y1 : Int32) (I : Nat → Nat → Int32) (J : Nat → Nat → Int64) (hp : pRd_readExpression_F_50 G GQ y1 I J) (ho : o = .returned none) (hz : Z = (pk_K ++ ex, R, (fRd_readExpression_F_50 G y1 I J), J)) : pmE g kRd_readExpression (d + 204) 0 0 50 [(0, .ref 13), (1, .int y1)] [] (pk_K ++ ex) R I J o Z := by
  unfold pRd_readExpression_F_50 at hp
  refine pm_aload_n dRd_readExpression_50 rfl ?_
  refine pm_getr dRd_readExpression_51 fRd_40 rfl hc ?_
  refine pm_bipush (v := 50) dRd_readExpression_54 (by decide) ?_
  refine pm_iconst (v := 0) dRd_readExpression_56 (by decide) ?_
  refine pm_callV dRd_readExpression_57 lRd_128 vCo_add ⟨_, _, rfl⟩ (Co_add_F_ok _ _ _ _ hR _ _ _ _ hp.1) rfl rfl rfl (Nat.le_of_ble_eq_true rfl) (Nat.le_refl _) (Nat.le_refl _) ?_
  exact pm_vret dRd_readExpression_60 rfl ho (hz.trans (by first | rfl | (simp only [fRd_readExpression_F_50]; done) | (simp only [fRd_readExpression_F_50]; rfl)))
set_option maxHeartbeats 4000000 in
set_option maxRecDepth 100000 in
theorem Rd_readExpression_F_n42 (g : pmG) (d : Nat) (ex : List (Nat × Nat)) (R : Nat → Nat → Value) (hR : pk_R R) (hc : R 13 8 = .ref 10) (G : Nat → Int32 → Int32 → (Nat → Nat → Int32) → (Nat → Nat → Int64) → (Nat → Nat → Int32)) (GQ : Nat → Int32 → Int32 → (Nat → Nat → Int32) → (Nat → Nat → Int64) → Prop) (hG0 : ∀ (x0 x1 : Int32) (I : Nat → Nat → Int32) (J : Nat → Nat → Int64), GQ 0 x0 x1 I J → pmC g kRd_readExpression (d + 203) 0 0 [.ref 13, .int x0] (pk_K ++ ex, R, I, J) (.returned none) (pk_K ++ ex, R, G 0 x0 x1 I J, J)) (hG1 : ∀ (x0 x1 : Int32) (I : Nat → Nat → Int32) (J : Nat → Nat → Int64), GQ 1 x0 x1 I J → pmC g kRd_readOperands (d + 203) 0 0 [.ref 13, .int x0] (pk_K ++ ex, R, I, J) (.returned none) (pk_K ++ ex, R, G 1 x0 x1 I J, J)) (hG2 : ∀ (x0 x1 : Int32) (I : Nat → Nat → Int32) (J : Nat → Nat → Int64), GQ 2 x0 x1 I J → pmC g kRd_readUnary (d + 203) 0 0 [.ref 13, .int x0] (pk_K ++ ex, R, I, J) (.returned none) (pk_K ++ ex, R, G 2 x0 x1 I J, J)) (hG3 : ∀ (x0 x1 : Int32) (I : Nat → Nat → Int32) (J : Nat → Nat → Int64), GQ 3 x0 x1 I J → pmC g kRd_readAltered (d + 203) 0 0 [.ref 13, .int x0, .int x1] (pk_K ++ ex, R, I, J) (.returned none) (pk_K ++ ex, R, G 3 x0 x1 I J, J)) (o : Outcome) (Z : pmM)  (y1 : Int32) (z0 : Int32) (I : Nat → Nat → Int32) (J : Nat → Nat → Int64) (hp : pRd_readExpression_F_42 G GQ y1 z0 I J) (ho : o = .returned none) (hz : Z = (pk_K ++ ex, R, (fRd_readExpression_F_42 G y1 z0 I J), J)) : pmE g kRd_readExpression (d + 204) 0 0 42 [(0, .ref 13), (1, .int y1)] [.int z0] (pk_K ++ ex) R I J o Z := by
  unfold pRd_readExpression_F_42 at hp
  refine pm_pop dRd_readExpression_42 rfl ?_
  refine pm_aload_n dRd_readExpression_43 rfl ?_
  refine pm_iload_n dRd_readExpression_44 rfl ?_
  refine pm_iconst (v := 1) dRd_readExpression_45 (by decide) ?_
  refine pm_iadd dRd_readExpression_46 ?_
  refine pm_callV dRd_readExpression_47 lRd_122 vRd_readExpression ⟨_, _, rfl⟩ (hG0 _ 0 _ _ hp.1) rfl rfl rfl (Nat.le_of_ble_eq_true rfl) (Nat.le_refl _) (Nat.le_refl _) ?_
  refine pm_wk [0, 1] rfl ?_
  exact Rd_readExpression_F_n50 g d ex R hR hc G GQ hG0 hG1 hG2 hG3 _ _   _ _ _ hp.2 ho (hz.trans (by first | rfl | (simp only [fRd_readExpression_F_42]; done) | (simp only [fRd_readExpression_F_42]; rfl)))
set_option maxHeartbeats 4000000 in
set_option maxRecDepth 100000 in
theorem Rd_readExpression_F_n37 (g : pmG) (d : Nat) (ex : List (Nat × Nat)) (R : Nat → Nat → Value) (hR : pk_R R) (hc : R 13 8 = .ref 10) (G : Nat → Int32 → Int32 → (Nat → Nat → Int32) → (Nat → Nat → Int64) → (Nat → Nat → Int32)) (GQ : Nat → Int32 → Int32 → (Nat → Nat → Int32) → (Nat → Nat → Int64) → Prop) (hG0 : ∀ (x0 x1 : Int32) (I : Nat → Nat → Int32) (J : Nat → Nat → Int64), GQ 0 x0 x1 I J → pmC g kRd_readExpression (d + 203) 0 0 [.ref 13, .int x0] (pk_K ++ ex, R, I, J) (.returned none) (pk_K ++ ex, R, G 0 x0 x1 I J, J)) (hG1 : ∀ (x0 x1 : Int32) (I : Nat → Nat → Int32) (J : Nat → Nat → Int64), GQ 1 x0 x1 I J → pmC g kRd_readOperands (d + 203) 0 0 [.ref 13, .int x0] (pk_K ++ ex, R, I, J) (.returned none) (pk_K ++ ex, R, G 1 x0 x1 I J, J)) (hG2 : ∀ (x0 x1 : Int32) (I : Nat → Nat → Int32) (J : Nat → Nat → Int64), GQ 2 x0 x1 I J → pmC g kRd_readUnary (d + 203) 0 0 [.ref 13, .int x0] (pk_K ++ ex, R, I, J) (.returned none) (pk_K ++ ex, R, G 2 x0 x1 I J, J)) (hG3 : ∀ (x0 x1 : Int32) (I : Nat → Nat → Int32) (J : Nat → Nat → Int64), GQ 3 x0 x1 I J → pmC g kRd_readAltered (d + 203) 0 0 [.ref 13, .int x0, .int x1] (pk_K ++ ex, R, I, J) (.returned none) (pk_K ++ ex, R, G 3 x0 x1 I J, J)) (o : Outcome) (Z : pmM)  (y1 : Int32) (I : Nat → Nat → Int32) (J : Nat → Nat → Int64) (hp : pRd_readExpression_F_37 G GQ y1 I J) (ho : o = .returned none) (hz : Z = (pk_K ++ ex, R, (fRd_readExpression_F_37 G y1 I J), J)) : pmE g kRd_readExpression (d + 204) 0 0 37 [(0, .ref 13), (1, .int y1)] [] (pk_K ++ ex) R I J o Z := by
  unfold pRd_readExpression_F_37 at hp
  refine pm_aload_n dRd_readExpression_37 rfl ?_
  refine pm_iconst (v := 1) dRd_readExpression_38 (by decide) ?_
  refine pm_callV dRd_readExpression_39 lRd_100 vRd_expect ⟨_, _, rfl⟩ (Rd_expect_ok _ _ _ _ hR _ _ _ hp.1) rfl rfl rfl (Nat.le_of_ble_eq_true rfl) (Nat.le_refl _) (Nat.le_refl _) ?_
  refine pm_wk [0, 1] rfl ?_
  exact Rd_readExpression_F_n42 g d ex R hR hc G GQ hG0 hG1 hG2 hG3 _ _   _ _ _ _ hp.2 ho (hz.trans (by first | rfl | (simp only [fRd_readExpression_F_37]; done) | (simp only [fRd_readExpression_F_37]; rfl)))
set_option maxHeartbeats 4000000 in
set_option maxRecDepth 100000 in
theorem Rd_readExpression_F_n30 (g : pmG) (d : Nat) (ex : List (Nat × Nat)) (R : Nat → Nat → Value) (hR : pk_R R) (hc : R 13 8 = .ref 10) (G : Nat → Int32 → Int32 → (Nat → Nat → Int32) → (Nat → Nat → Int64) → (Nat → Nat → Int32)) (GQ : Nat → Int32 → Int32 → (Nat → Nat → Int32) → (Nat → Nat → Int64) → Prop) (hG0 : ∀ (x0 x1 : Int32) (I : Nat → Nat → Int32) (J : Nat → Nat → Int64), GQ 0 x0 x1 I J → pmC g kRd_readExpression (d + 203) 0 0 [.ref 13, .int x0] (pk_K ++ ex, R, I, J) (.returned none) (pk_K ++ ex, R, G 0 x0 x1 I J, J)) (hG1 : ∀ (x0 x1 : Int32) (I : Nat → Nat → Int32) (J : Nat → Nat → Int64), GQ 1 x0 x1 I J → pmC g kRd_readOperands (d + 203) 0 0 [.ref 13, .int x0] (pk_K ++ ex, R, I, J) (.returned none) (pk_K ++ ex, R, G 1 x0 x1 I J, J)) (hG2 : ∀ (x0 x1 : Int32) (I : Nat → Nat → Int32) (J : Nat → Nat → Int64), GQ 2 x0 x1 I J → pmC g kRd_readUnary (d + 203) 0 0 [.ref 13, .int x0] (pk_K ++ ex, R, I, J) (.returned none) (pk_K ++ ex, R, G 2 x0 x1 I J, J)) (hG3 : ∀ (x0 x1 : Int32) (I : Nat → Nat → Int32) (J : Nat → Nat → Int64), GQ 3 x0 x1 I J → pmC g kRd_readAltered (d + 203) 0 0 [.ref 13, .int x0, .int x1] (pk_K ++ ex, R, I, J) (.returned none) (pk_K ++ ex, R, G 3 x0 x1 I J, J)) (o : Outcome) (Z : pmM)  (y1 : Int32) (I : Nat → Nat → Int32) (J : Nat → Nat → Int64) (hp : pRd_readExpression_F_30 G GQ y1 I J) (ho : o = .returned none) (hz : Z = (pk_K ++ ex, R, (fRd_readExpression_F_30 G y1 I J), J)) : pmE g kRd_readExpression (d + 204) 0 0 30 [(0, .ref 13), (1, .int y1)] [] (pk_K ++ ex) R I J o Z := by
  unfold pRd_readExpression_F_30 at hp
  refine pm_aload_n dRd_readExpression_30 rfl ?_
  refine pm_iload_n dRd_readExpression_31 rfl ?_
  refine pm_iconst (v := 1) dRd_readExpression_32 (by decide) ?_
  refine pm_iadd dRd_readExpression_33 ?_
  refine pm_callV dRd_readExpression_34 lRd_122 vRd_readExpression ⟨_, _, rfl⟩ (hG0 _ 0 _ _ hp.1) rfl rfl rfl (Nat.le_of_ble_eq_true rfl) (Nat.le_refl _) (Nat.le_refl _) ?_
  refine pm_wk [0, 1] rfl ?_
  exact Rd_readExpression_F_n37 g d ex R hR hc G GQ hG0 hG1 hG2 hG3 _ _   _ _ _ hp.2 ho (hz.trans (by first | rfl | (simp only [fRd_readExpression_F_30]; done) | (simp only [fRd_readExpression_F_30]; rfl)))
set_option maxHeartbeats 4000000 in
set_option maxRecDepth 100000 in
theorem Rd_readExpression_F_n26 (g : pmG) (d : Nat) (ex : List (Nat × Nat)) (R : Nat → Nat → Value) (hR : pk_R R) (hc : R 13 8 = .ref 10) (G : Nat → Int32 → Int32 → (Nat → Nat → Int32) → (Nat → Nat → Int64) → (Nat → Nat → Int32)) (GQ : Nat → Int32 → Int32 → (Nat → Nat → Int32) → (Nat → Nat → Int64) → Prop) (hG0 : ∀ (x0 x1 : Int32) (I : Nat → Nat → Int32) (J : Nat → Nat → Int64), GQ 0 x0 x1 I J → pmC g kRd_readExpression (d + 203) 0 0 [.ref 13, .int x0] (pk_K ++ ex, R, I, J) (.returned none) (pk_K ++ ex, R, G 0 x0 x1 I J, J)) (hG1 : ∀ (x0 x1 : Int32) (I : Nat → Nat → Int32) (J : Nat → Nat → Int64), GQ 1 x0 x1 I J → pmC g kRd_readOperands (d + 203) 0 0 [.ref 13, .int x0] (pk_K ++ ex, R, I, J) (.returned none) (pk_K ++ ex, R, G 1 x0 x1 I J, J)) (hG2 : ∀ (x0 x1 : Int32) (I : Nat → Nat → Int32) (J : Nat → Nat → Int64), GQ 2 x0 x1 I J → pmC g kRd_readUnary (d + 203) 0 0 [.ref 13, .int x0] (pk_K ++ ex, R, I, J) (.returned none) (pk_K ++ ex, R, G 2 x0 x1 I J, J)) (hG3 : ∀ (x0 x1 : Int32) (I : Nat → Nat → Int32) (J : Nat → Nat → Int64), GQ 3 x0 x1 I J → pmC g kRd_readAltered (d + 203) 0 0 [.ref 13, .int x0, .int x1] (pk_K ++ ex, R, I, J) (.returned none) (pk_K ++ ex, R, G 3 x0 x1 I J, J)) (o : Outcome) (Z : pmM)  (y1 : Int32) (I : Nat → Nat → Int32) (J : Nat → Nat → Int64) (hp : pRd_readExpression_F_26 G GQ y1 I J) (ho : o = .returned none) (hz : Z = (pk_K ++ ex, R, (fRd_readExpression_F_26 G y1 I J), J)) : pmE g kRd_readExpression (d + 204) 0 0 26 [(0, .ref 13), (1, .int y1)] [] (pk_K ++ ex) R I J o Z := by
  unfold pRd_readExpression_F_26 at hp
  refine pm_aload_n dRd_readExpression_26 rfl ?_
  refine pm_callV dRd_readExpression_27 lRd_139 vRd_advance ⟨_, _, rfl⟩ (Rd_advance_ok _ _ _ _ hR  _ _ hp.1) rfl rfl rfl (Nat.le_of_ble_eq_true rfl) (Nat.le_refl _) (Nat.le_refl _) ?_
  refine pm_wk [0, 1] rfl ?_
  exact Rd_readExpression_F_n30 g d ex R hR hc G GQ hG0 hG1 hG2 hG3 _ _   _ _ _ hp.2 ho (hz.trans (by first | rfl | (simp only [fRd_readExpression_F_26]; done) | (simp only [fRd_readExpression_F_26]; rfl)))
set_option maxHeartbeats 4000000 in
set_option maxRecDepth 100000 in
theorem Rd_readExpression_F_n14 (g : pmG) (d : Nat) (ex : List (Nat × Nat)) (R : Nat → Nat → Value) (hR : pk_R R) (hc : R 13 8 = .ref 10) (G : Nat → Int32 → Int32 → (Nat → Nat → Int32) → (Nat → Nat → Int64) → (Nat → Nat → Int32)) (GQ : Nat → Int32 → Int32 → (Nat → Nat → Int32) → (Nat → Nat → Int64) → Prop) (hG0 : ∀ (x0 x1 : Int32) (I : Nat → Nat → Int32) (J : Nat → Nat → Int64), GQ 0 x0 x1 I J → pmC g kRd_readExpression (d + 203) 0 0 [.ref 13, .int x0] (pk_K ++ ex, R, I, J) (.returned none) (pk_K ++ ex, R, G 0 x0 x1 I J, J)) (hG1 : ∀ (x0 x1 : Int32) (I : Nat → Nat → Int32) (J : Nat → Nat → Int64), GQ 1 x0 x1 I J → pmC g kRd_readOperands (d + 203) 0 0 [.ref 13, .int x0] (pk_K ++ ex, R, I, J) (.returned none) (pk_K ++ ex, R, G 1 x0 x1 I J, J)) (hG2 : ∀ (x0 x1 : Int32) (I : Nat → Nat → Int32) (J : Nat → Nat → Int64), GQ 2 x0 x1 I J → pmC g kRd_readUnary (d + 203) 0 0 [.ref 13, .int x0] (pk_K ++ ex, R, I, J) (.returned none) (pk_K ++ ex, R, G 2 x0 x1 I J, J)) (hG3 : ∀ (x0 x1 : Int32) (I : Nat → Nat → Int32) (J : Nat → Nat → Int64), GQ 3 x0 x1 I J → pmC g kRd_readAltered (d + 203) 0 0 [.ref 13, .int x0, .int x1] (pk_K ++ ex, R, I, J) (.returned none) (pk_K ++ ex, R, G 3 x0 x1 I J, J)) (o : Outcome) (Z : pmM)  (y1 : Int32) (I : Nat → Nat → Int32) (J : Nat → Nat → Int64) (hp : pRd_readExpression_F_14 G GQ y1 I J) (ho : o = .returned none) (hz : Z = (pk_K ++ ex, R, (fRd_readExpression_F_14 G y1 I J), J)) : pmE g kRd_readExpression (d + 204) 0 0 14 [(0, .ref 13), (1, .int y1)] [] (pk_K ++ ex) R I J o Z := by
  unfold pRd_readExpression_F_14 at hp
  refine pm_aload_n dRd_readExpression_14 rfl ?_
  refine pm_geti dRd_readExpression_15 fRd_52 rfl ?_
  refine pm_iconst (v := 3) dRd_readExpression_18 (by decide) ?_
  refine pm_icmp_ne 60 dRd_readExpression_19 (by decide) (fun h19 => ?_) (fun h19 => ?_)
  ·
    exact pm_vret dRd_readExpression_60 rfl ho (hz.trans (by first | (simp only [fRd_readExpression_F_14, if_neg h19]; done) | (simp only [fRd_readExpression_F_14, if_neg h19]; rfl) | rfl))
  ·
    refine pm_aload_n dRd_readExpression_22 rfl ?_
    refine pm_callV dRd_readExpression_23 lRd_174 vRd_chargeSign ⟨_, _, rfl⟩ (Rd_chargeSign_ok _ _ _ _ hR  _ _ (hp.1 h19).1) rfl rfl rfl (Nat.le_of_ble_eq_true rfl) (Nat.le_refl _) (Nat.le_refl _) ?_
    refine pm_wk [0, 1] rfl ?_
    exact Rd_readExpression_F_n26 g d ex R hR hc G GQ hG0 hG1 hG2 hG3 _ _   _ _ _ (hp.1 h19).2 ho (hz.trans (by first | (simp only [fRd_readExpression_F_14, if_pos h19]; done) | (simp only [fRd_readExpression_F_14, if_pos h19]; rfl) | rfl))
set_option maxHeartbeats 4000000 in
set_option maxRecDepth 100000 in
theorem Rd_readExpression_F_n5 (g : pmG) (d : Nat) (ex : List (Nat × Nat)) (R : Nat → Nat → Value) (hR : pk_R R) (hc : R 13 8 = .ref 10) (G : Nat → Int32 → Int32 → (Nat → Nat → Int32) → (Nat → Nat → Int64) → (Nat → Nat → Int32)) (GQ : Nat → Int32 → Int32 → (Nat → Nat → Int32) → (Nat → Nat → Int64) → Prop) (hG0 : ∀ (x0 x1 : Int32) (I : Nat → Nat → Int32) (J : Nat → Nat → Int64), GQ 0 x0 x1 I J → pmC g kRd_readExpression (d + 203) 0 0 [.ref 13, .int x0] (pk_K ++ ex, R, I, J) (.returned none) (pk_K ++ ex, R, G 0 x0 x1 I J, J)) (hG1 : ∀ (x0 x1 : Int32) (I : Nat → Nat → Int32) (J : Nat → Nat → Int64), GQ 1 x0 x1 I J → pmC g kRd_readOperands (d + 203) 0 0 [.ref 13, .int x0] (pk_K ++ ex, R, I, J) (.returned none) (pk_K ++ ex, R, G 1 x0 x1 I J, J)) (hG2 : ∀ (x0 x1 : Int32) (I : Nat → Nat → Int32) (J : Nat → Nat → Int64), GQ 2 x0 x1 I J → pmC g kRd_readUnary (d + 203) 0 0 [.ref 13, .int x0] (pk_K ++ ex, R, I, J) (.returned none) (pk_K ++ ex, R, G 2 x0 x1 I J, J)) (hG3 : ∀ (x0 x1 : Int32) (I : Nat → Nat → Int32) (J : Nat → Nat → Int64), GQ 3 x0 x1 I J → pmC g kRd_readAltered (d + 203) 0 0 [.ref 13, .int x0, .int x1] (pk_K ++ ex, R, I, J) (.returned none) (pk_K ++ ex, R, G 3 x0 x1 I J, J)) (o : Outcome) (Z : pmM)  (y1 : Int32) (z0 : Int32) (I : Nat → Nat → Int32) (J : Nat → Nat → Int64) (hp : pRd_readExpression_F_5 G GQ y1 z0 I J) (ho : o = .returned none) (hz : Z = (pk_K ++ ex, R, (fRd_readExpression_F_5 G y1 z0 I J), J)) : pmE g kRd_readExpression (d + 204) 0 0 5 [(0, .ref 13), (1, .int y1)] [.int z0] (pk_K ++ ex) R I J o Z := by
  unfold pRd_readExpression_F_5 at hp
  refine pm_if_eq 9 dRd_readExpression_5 (by decide) (fun h5 => ?_) (fun h5 => ?_)
  ·
    refine pm_aload_n dRd_readExpression_9 rfl ?_
    refine pm_iload_n dRd_readExpression_10 rfl ?_
    refine pm_callV dRd_readExpression_11 lRd_171 vRd_readOperands ⟨_, _, rfl⟩ (hG1 _ 0 _ _ (hp.1 h5).1) rfl rfl rfl (Nat.le_of_ble_eq_true rfl) (Nat.le_refl _) (Nat.le_refl _) ?_
    refine pm_wk [0, 1] rfl ?_
    exact Rd_readExpression_F_n14 g d ex R hR hc G GQ hG0 hG1 hG2 hG3 _ _   _ _ _ (hp.1 h5).2 ho (hz.trans (by first | (simp only [fRd_readExpression_F_5, if_pos h5]; done) | (simp only [fRd_readExpression_F_5, if_pos h5]; rfl) | rfl))
  ·
    exact pm_vret dRd_readExpression_8 rfl ho (hz.trans (by first | (simp only [fRd_readExpression_F_5, if_neg h5]; done) | (simp only [fRd_readExpression_F_5, if_neg h5]; rfl) | rfl))
set_option maxHeartbeats 4000000 in
set_option maxRecDepth 100000 in
theorem Rd_readExpression_F_n0 (g : pmG) (d : Nat) (ex : List (Nat × Nat)) (R : Nat → Nat → Value) (hR : pk_R R) (hc : R 13 8 = .ref 10) (G : Nat → Int32 → Int32 → (Nat → Nat → Int32) → (Nat → Nat → Int64) → (Nat → Nat → Int32)) (GQ : Nat → Int32 → Int32 → (Nat → Nat → Int32) → (Nat → Nat → Int64) → Prop) (hG0 : ∀ (x0 x1 : Int32) (I : Nat → Nat → Int32) (J : Nat → Nat → Int64), GQ 0 x0 x1 I J → pmC g kRd_readExpression (d + 203) 0 0 [.ref 13, .int x0] (pk_K ++ ex, R, I, J) (.returned none) (pk_K ++ ex, R, G 0 x0 x1 I J, J)) (hG1 : ∀ (x0 x1 : Int32) (I : Nat → Nat → Int32) (J : Nat → Nat → Int64), GQ 1 x0 x1 I J → pmC g kRd_readOperands (d + 203) 0 0 [.ref 13, .int x0] (pk_K ++ ex, R, I, J) (.returned none) (pk_K ++ ex, R, G 1 x0 x1 I J, J)) (hG2 : ∀ (x0 x1 : Int32) (I : Nat → Nat → Int32) (J : Nat → Nat → Int64), GQ 2 x0 x1 I J → pmC g kRd_readUnary (d + 203) 0 0 [.ref 13, .int x0] (pk_K ++ ex, R, I, J) (.returned none) (pk_K ++ ex, R, G 2 x0 x1 I J, J)) (hG3 : ∀ (x0 x1 : Int32) (I : Nat → Nat → Int32) (J : Nat → Nat → Int64), GQ 3 x0 x1 I J → pmC g kRd_readAltered (d + 203) 0 0 [.ref 13, .int x0, .int x1] (pk_K ++ ex, R, I, J) (.returned none) (pk_K ++ ex, R, G 3 x0 x1 I J, J)) (o : Outcome) (Z : pmM)  (y1 : Int32) (I : Nat → Nat → Int32) (J : Nat → Nat → Int64) (hp : pRd_readExpression_F G GQ y1 I J) (ho : o = .returned none) (hz : Z = (pk_K ++ ex, R, (fRd_readExpression_F G y1 I J), J)) : pmE g kRd_readExpression (d + 204) 0 0 0 [(0, .ref 13), (1, .int y1)] [] (pk_K ++ ex) R I J o Z := by
  unfold pRd_readExpression_F at hp
  refine pm_aload_n dRd_readExpression_0 rfl ?_
  refine pm_iload_n dRd_readExpression_1 rfl ?_
  refine pm_callV dRd_readExpression_2 lRd_168 vRd_isTooDeep ⟨_, _, rfl⟩ (Rd_isTooDeep_ok _ _ _ _ hR _ _ _ hp.1) rfl rfl rfl (Nat.le_of_ble_eq_true rfl) (Nat.le_refl _) (Nat.le_refl _) ?_
  refine pm_wk [0, 1] rfl ?_
  exact Rd_readExpression_F_n5 g d ex R hR hc G GQ hG0 hG1 hG2 hG3 _ _   _ _ _ _ hp.2 ho (hz.trans (by first | rfl | (simp only [fRd_readExpression_F]; done) | (simp only [fRd_readExpression_F]; rfl)))
set_option maxHeartbeats 4000000 in
set_option maxRecDepth 100000 in
theorem Rd_readExpression_F_ok (g : pmG) (d : Nat) (ex : List (Nat × Nat)) (R : Nat → Nat → Value) (hR : pk_R R) (hc : R 13 8 = .ref 10) (G : Nat → Int32 → Int32 → (Nat → Nat → Int32) → (Nat → Nat → Int64) → (Nat → Nat → Int32)) (GQ : Nat → Int32 → Int32 → (Nat → Nat → Int32) → (Nat → Nat → Int64) → Prop) (hG0 : ∀ (x0 x1 : Int32) (I : Nat → Nat → Int32) (J : Nat → Nat → Int64), GQ 0 x0 x1 I J → pmC g kRd_readExpression (d + 203) 0 0 [.ref 13, .int x0] (pk_K ++ ex, R, I, J) (.returned none) (pk_K ++ ex, R, G 0 x0 x1 I J, J)) (hG1 : ∀ (x0 x1 : Int32) (I : Nat → Nat → Int32) (J : Nat → Nat → Int64), GQ 1 x0 x1 I J → pmC g kRd_readOperands (d + 203) 0 0 [.ref 13, .int x0] (pk_K ++ ex, R, I, J) (.returned none) (pk_K ++ ex, R, G 1 x0 x1 I J, J)) (hG2 : ∀ (x0 x1 : Int32) (I : Nat → Nat → Int32) (J : Nat → Nat → Int64), GQ 2 x0 x1 I J → pmC g kRd_readUnary (d + 203) 0 0 [.ref 13, .int x0] (pk_K ++ ex, R, I, J) (.returned none) (pk_K ++ ex, R, G 2 x0 x1 I J, J)) (hG3 : ∀ (x0 x1 : Int32) (I : Nat → Nat → Int32) (J : Nat → Nat → Int64), GQ 3 x0 x1 I J → pmC g kRd_readAltered (d + 203) 0 0 [.ref 13, .int x0, .int x1] (pk_K ++ ex, R, I, J) (.returned none) (pk_K ++ ex, R, G 3 x0 x1 I J, J))  (x0 : Int32) (I : Nat → Nat → Int32) (J : Nat → Nat → Int64) (hp : pRd_readExpression_F G GQ x0 I J) : pmC g kRd_readExpression (d + 204) 0 0 [.ref 13, .int x0] (pk_K ++ ex, R, I, J) (.returned none) (pk_K ++ ex, R, (fRd_readExpression_F G x0 I J), J) :=
  pmC.of (by decide) (Nat.le_of_ble_eq_true rfl) (Rd_readExpression_F_n0 g d ex R hR hc G GQ hG0 hG1 hG2 hG3 _ _  x0 I J hp rfl rfl)
def fRd_readOperands_F_62 (G : Nat → Int32 → Int32 → (Nat → Nat → Int32) → (Nat → Nat → Int64) → (Nat → Nat → Int32)) (r12 : Int32 → Int32 → Int32 → (Nat → Nat → Int32) → (Nat → Nat → Int64) → (Nat → Nat → Int32)) (y1 : Int32) (y2 : Int32) (y3 : Int32) (I : Nat → Nat → Int32) (J : Nat → Nat → Int64) : (Nat → Nat → Int32) :=
  r12 y1 y2 (y3 + Int32.ofInt 1) I J
def pRd_readOperands_F_62 (G : Nat → Int32 → Int32 → (Nat → Nat → Int32) → (Nat → Nat → Int64) → (Nat → Nat → Int32)) (GQ : Nat → Int32 → Int32 → (Nat → Nat → Int32) → (Nat → Nat → Int64) → Prop) (q12 : Int32 → Int32 → Int32 → (Nat → Nat → Int32) → (Nat → Nat → Int64) → Prop) (y1 : Int32) (y2 : Int32) (y3 : Int32) (I : Nat → Nat → Int32) (J : Nat → Nat → Int64) : Prop :=
  q12 y1 y2 (y3 + Int32.ofInt 1) I J
def fRd_readOperands_F_57 (G : Nat → Int32 → Int32 → (Nat → Nat → Int32) → (Nat → Nat → Int64) → (Nat → Nat → Int32)) (r12 : Int32 → Int32 → Int32 → (Nat → Nat → Int32) → (Nat → Nat → Int64) → (Nat → Nat → Int32)) (y1 : Int32) (y2 : Int32) (y3 : Int32) (I : Nat → Nat → Int32) (J : Nat → Nat → Int64) : (Nat → Nat → Int32) :=
  fRd_readOperands_F_62 G r12 y1 y2 y3 (G 2 y1 0 I J) J
def pRd_readOperands_F_57 (G : Nat → Int32 → Int32 → (Nat → Nat → Int32) → (Nat → Nat → Int64) → (Nat → Nat → Int32)) (GQ : Nat → Int32 → Int32 → (Nat → Nat → Int32) → (Nat → Nat → Int64) → Prop) (q12 : Int32 → Int32 → Int32 → (Nat → Nat → Int32) → (Nat → Nat → Int64) → Prop) (y1 : Int32) (y2 : Int32) (y3 : Int32) (I : Nat → Nat → Int32) (J : Nat → Nat → Int64) : Prop :=
  (GQ 2 y1 0 I J) ∧ (pRd_readOperands_F_62 G GQ q12 y1 y2 y3 (G 2 y1 0 I J) J)
def fRd_readOperands_F_53 (G : Nat → Int32 → Int32 → (Nat → Nat → Int32) → (Nat → Nat → Int64) → (Nat → Nat → Int32)) (r12 : Int32 → Int32 → Int32 → (Nat → Nat → Int32) → (Nat → Nat → Int64) → (Nat → Nat → Int32)) (y1 : Int32) (y2 : Int32) (y3 : Int32) (I : Nat → Nat → Int32) (J : Nat → Nat → Int64) : (Nat → Nat → Int32) :=
  fRd_readOperands_F_57 G r12 y1 y2 y3 ((fRd_advance I J)) J
def pRd_readOperands_F_53 (G : Nat → Int32 → Int32 → (Nat → Nat → Int32) → (Nat → Nat → Int64) → (Nat → Nat → Int32)) (GQ : Nat → Int32 → Int32 → (Nat → Nat → Int32) → (Nat → Nat → Int64) → Prop) (q12 : Int32 → Int32 → Int32 → (Nat → Nat → Int32) → (Nat → Nat → Int64) → Prop) (y1 : Int32) (y2 : Int32) (y3 : Int32) (I : Nat → Nat → Int32) (J : Nat → Nat → Int64) : Prop :=
  (pRd_advance I J) ∧ (pRd_readOperands_F_57 G GQ q12 y1 y2 y3 ((fRd_advance I J)) J)
def fRd_readOperands_F_49 (G : Nat → Int32 → Int32 → (Nat → Nat → Int32) → (Nat → Nat → Int64) → (Nat → Nat → Int32)) (r12 : Int32 → Int32 → Int32 → (Nat → Nat → Int32) → (Nat → Nat → Int64) → (Nat → Nat → Int32)) (y1 : Int32) (y2 : Int32) (y3 : Int32) (I : Nat → Nat → Int32) (J : Nat → Nat → Int64) : (Nat → Nat → Int32) :=
  fRd_readOperands_F_53 G r12 y1 y2 y3 ((fRd_chargeSign I J)) J
def pRd_readOperands_F_49 (G : Nat → Int32 → Int32 → (Nat → Nat → Int32) → (Nat → Nat → Int64) → (Nat → Nat → Int32)) (GQ : Nat → Int32 → Int32 → (Nat → Nat → Int32) → (Nat → Nat → Int64) → Prop) (q12 : Int32 → Int32 → Int32 → (Nat → Nat → Int32) → (Nat → Nat → Int64) → Prop) (y1 : Int32) (y2 : Int32) (y3 : Int32) (I : Nat → Nat → Int32) (J : Nat → Nat → Int64) : Prop :=
  (pRd_chargeSign I J) ∧ (pRd_readOperands_F_53 G GQ q12 y1 y2 y3 ((fRd_chargeSign I J)) J)
def fRd_readOperands_F_41 (G : Nat → Int32 → Int32 → (Nat → Nat → Int32) → (Nat → Nat → Int64) → (Nat → Nat → Int32)) (r12 : Int32 → Int32 → Int32 → (Nat → Nat → Int32) → (Nat → Nat → Int64) → (Nat → Nat → Int32)) (y1 : Int32) (y2 : Int32) (y3 : Int32) (I : Nat → Nat → Int32) (J : Nat → Nat → Int64) : (Nat → Nat → Int32) :=
  fRd_readOperands_F_49 G r12 y1 y2 y3 ((fRd_await (I 13 3) I J)) J
def pRd_readOperands_F_41 (G : Nat → Int32 → Int32 → (Nat → Nat → Int32) → (Nat → Nat → Int64) → (Nat → Nat → Int32)) (GQ : Nat → Int32 → Int32 → (Nat → Nat → Int32) → (Nat → Nat → Int64) → Prop) (q12 : Int32 → Int32 → Int32 → (Nat → Nat → Int32) → (Nat → Nat → Int64) → Prop) (y1 : Int32) (y2 : Int32) (y3 : Int32) (I : Nat → Nat → Int32) (J : Nat → Nat → Int64) : Prop :=
  (pRd_await (I 13 3) I J) ∧ (pRd_readOperands_F_49 G GQ q12 y1 y2 y3 ((fRd_await (I 13 3) I J)) J)
def fRd_readOperands_F_68 (G : Nat → Int32 → Int32 → (Nat → Nat → Int32) → (Nat → Nat → Int64) → (Nat → Nat → Int32)) (y1 : Int32) (y2 : Int32) (y3 : Int32) (I : Nat → Nat → Int32) (J : Nat → Nat → Int64) : (Nat → Nat → Int32) :=
  (fRd_settle_F 126 y2 (1 : Int32) I J)
def pRd_readOperands_F_68 (G : Nat → Int32 → Int32 → (Nat → Nat → Int32) → (Nat → Nat → Int64) → (Nat → Nat → Int32)) (GQ : Nat → Int32 → Int32 → (Nat → Nat → Int32) → (Nat → Nat → Int64) → Prop) (y1 : Int32) (y2 : Int32) (y3 : Int32) (I : Nat → Nat → Int32) (J : Nat → Nat → Int64) : Prop :=
  (pRd_settle_F 126 y2 (1 : Int32) I J) ∧ True
def fRd_readOperands_F_12 (G : Nat → Int32 → Int32 → (Nat → Nat → Int32) → (Nat → Nat → Int64) → (Nat → Nat → Int32)) : Nat → Int32 → Int32 → Int32 → (Nat → Nat → Int32) → (Nat → Nat → Int64) → (Nat → Nat → Int32)
  | 0, _, _, _, I, _ => I
  | n + 1, y1, y2, y3, I, J =>
  if (4000 : Int32) < y3 then fRd_readOperands_F_68 G y1 y2 y3 I J
  else if ((fRd_tightness (I 13 3) I J)) ≤ 0 then fRd_readOperands_F_68 G y1 y2 y3 I J
    else fRd_readOperands_F_41 G (fRd_readOperands_F_12 G n) y1 y2 y3 ((fRd_settle_F 126 y2 ((fRd_tightness (I 13 3) I J)) I J)) J
def pRd_readOperands_F_12 (G : Nat → Int32 → Int32 → (Nat → Nat → Int32) → (Nat → Nat → Int64) → (Nat → Nat → Int32)) (GQ : Nat → Int32 → Int32 → (Nat → Nat → Int32) → (Nat → Nat → Int64) → Prop) : Nat → Int32 → Int32 → Int32 → (Nat → Nat → Int32) → (Nat → Nat → Int64) → Prop
  | 0, _, _, _, _, _ => False
  | n + 1, y1, y2, y3, I, J =>
  ((4000 : Int32) < y3 → pRd_readOperands_F_68 G GQ y1 y2 y3 I J) ∧
  (¬ ((4000 : Int32) < y3) → (pRd_tightness (I 13 3) I J) ∧ ((((fRd_tightness (I 13 3) I J)) ≤ 0 → pRd_readOperands_F_68 G GQ y1 y2 y3 I J) ∧
    (¬ (((fRd_tightness (I 13 3) I J)) ≤ 0) → (pRd_tightness (I 13 3) I J) ∧ ((pRd_settle_F 126 y2 ((fRd_tightness (I 13 3) I J)) I J) ∧ (pRd_readOperands_F_41 G GQ (pRd_readOperands_F_12 G GQ n) y1 y2 y3 ((fRd_settle_F 126 y2 ((fRd_tightness (I 13 3) I J)) I J)) J)))))
def fRd_readOperands_F_10 (G : Nat → Int32 → Int32 → (Nat → Nat → Int32) → (Nat → Nat → Int64) → (Nat → Nat → Int32)) (n12 : Nat) (y1 : Int32) (y2 : Int32) (I : Nat → Nat → Int32) (J : Nat → Nat → Int64) : (Nat → Nat → Int32) :=
  fRd_readOperands_F_12 G n12 y1 y2 (0 : Int32) I J
def pRd_readOperands_F_10 (G : Nat → Int32 → Int32 → (Nat → Nat → Int32) → (Nat → Nat → Int64) → (Nat → Nat → Int32)) (GQ : Nat → Int32 → Int32 → (Nat → Nat → Int32) → (Nat → Nat → Int64) → Prop) (n12 : Nat) (y1 : Int32) (y2 : Int32) (I : Nat → Nat → Int32) (J : Nat → Nat → Int64) : Prop :=
  pRd_readOperands_F_12 G GQ n12 y1 y2 (0 : Int32) I J
def fRd_readOperands_F (G : Nat → Int32 → Int32 → (Nat → Nat → Int32) → (Nat → Nat → Int64) → (Nat → Nat → Int32)) (n12 : Nat) (y1 : Int32) (I : Nat → Nat → Int32) (J : Nat → Nat → Int64) : (Nat → Nat → Int32) :=
  fRd_readOperands_F_10 G n12 y1 (I 13 7) (G 2 y1 0 I J) J
def pRd_readOperands_F (G : Nat → Int32 → Int32 → (Nat → Nat → Int32) → (Nat → Nat → Int64) → (Nat → Nat → Int32)) (GQ : Nat → Int32 → Int32 → (Nat → Nat → Int32) → (Nat → Nat → Int64) → Prop) (n12 : Nat) (y1 : Int32) (I : Nat → Nat → Int32) (J : Nat → Nat → Int64) : Prop :=
  (GQ 2 y1 0 I J) ∧ (pRd_readOperands_F_10 G GQ n12 y1 (I 13 7) (G 2 y1 0 I J) J)
set_option maxHeartbeats 4000000 in
set_option maxRecDepth 100000 in
theorem Rd_readOperands_F_n62 (g : pmG) (d : Nat) (ex : List (Nat × Nat)) (R : Nat → Nat → Value) (hR : pk_R R) (hc : R 13 8 = .ref 10) (G : Nat → Int32 → Int32 → (Nat → Nat → Int32) → (Nat → Nat → Int64) → (Nat → Nat → Int32)) (GQ : Nat → Int32 → Int32 → (Nat → Nat → Int32) → (Nat → Nat → Int64) → Prop) (hG0 : ∀ (x0 x1 : Int32) (I : Nat → Nat → Int32) (J : Nat → Nat → Int64), GQ 0 x0 x1 I J → pmC g kRd_readExpression (d + 203) 0 0 [.ref 13, .int x0] (pk_K ++ ex, R, I, J) (.returned none) (pk_K ++ ex, R, G 0 x0 x1 I J, J)) (hG1 : ∀ (x0 x1 : Int32) (I : Nat → Nat → Int32) (J : Nat → Nat → Int64), GQ 1 x0 x1 I J → pmC g kRd_readOperands (d + 203) 0 0 [.ref 13, .int x0] (pk_K ++ ex, R, I, J) (.returned none) (pk_K ++ ex, R, G 1 x0 x1 I J, J)) (hG2 : ∀ (x0 x1 : Int32) (I : Nat → Nat → Int32) (J : Nat → Nat → Int64), GQ 2 x0 x1 I J → pmC g kRd_readUnary (d + 203) 0 0 [.ref 13, .int x0] (pk_K ++ ex, R, I, J) (.returned none) (pk_K ++ ex, R, G 2 x0 x1 I J, J)) (hG3 : ∀ (x0 x1 : Int32) (I : Nat → Nat → Int32) (J : Nat → Nat → Int64), GQ 3 x0 x1 I J → pmC g kRd_readAltered (d + 203) 0 0 [.ref 13, .int x0, .int x1] (pk_K ++ ex, R, I, J) (.returned none) (pk_K ++ ex, R, G 3 x0 x1 I J, J)) (o : Outcome) (Z : pmM) (r12 : Int32 → Int32 → Int32 → (Nat → Nat → Int32) → (Nat → Nat → Int64) → (Nat → Nat → Int32)) (q12 : Int32 → Int32 → Int32 → (Nat → Nat → Int32) → (Nat → Nat → Int64) → Prop) (ih12 : ∀ (y1 : Int32) (y2 : Int32) (y3 : Int32) (I : Nat → Nat → Int32) (J : Nat → Nat → Int64), q12 y1 y2 y3 I J → o = .returned none → Z = (pk_K ++ ex, R, (r12 y1 y2 y3 I J), J) → pmE g kRd_readOperands (d + 204) 0 0 12 [(0, .ref 13), (1, .int y1), (2, .int y2), (3, .int y3)] [] (pk_K ++ ex) R I J o Z)  (y1 : Int32) (y2 : Int32) (y3 : Int32) (I : Nat → Nat → Int32) (J : Nat → Nat → Int64) (hp : pRd_readOperands_F_62 G GQ q12 y1 y2 y3 I J) (ho : o = .returned none) (hz : Z = (pk_K ++ ex, R, (fRd_readOperands_F_62 G r12 y1 y2 y3 I J), J)) : pmE g kRd_readOperands (d + 204) 0 0 62 [(0, .ref 13), (1, .int y1), (2, .int y2), (3, .int y3)] [] (pk_K ++ ex) R I J o Z := by
  unfold pRd_readOperands_F_62 at hp
  refine pm_iinc dRd_readOperands_62 rfl (by decide) rfl ?_
  refine pm_goto 12 dRd_readOperands_65 (by decide) ?_
  refine pm_wk [1, 2, 3, 0] rfl ?_
  exact ih12 _ _ _ _ _ hp ho (hz.trans (by first | rfl | (simp only [fRd_readOperands_F_62]; done) | (simp only [fRd_readOperands_F_62]; rfl)))
set_option maxHeartbeats 4000000 in
set_option maxRecDepth 100000 in
theorem Rd_readOperands_F_n57 (g : pmG) (d : Nat) (ex : List (Nat × Nat)) (R : Nat → Nat → Value) (hR : pk_R R) (hc : R 13 8 = .ref 10) (G : Nat → Int32 → Int32 → (Nat → Nat → Int32) → (Nat → Nat → Int64) → (Nat → Nat → Int32)) (GQ : Nat → Int32 → Int32 → (Nat → Nat → Int32) → (Nat → Nat → Int64) → Prop) (hG0 : ∀ (x0 x1 : Int32) (I : Nat → Nat → Int32) (J : Nat → Nat → Int64), GQ 0 x0 x1 I J → pmC g kRd_readExpression (d + 203) 0 0 [.ref 13, .int x0] (pk_K ++ ex, R, I, J) (.returned none) (pk_K ++ ex, R, G 0 x0 x1 I J, J)) (hG1 : ∀ (x0 x1 : Int32) (I : Nat → Nat → Int32) (J : Nat → Nat → Int64), GQ 1 x0 x1 I J → pmC g kRd_readOperands (d + 203) 0 0 [.ref 13, .int x0] (pk_K ++ ex, R, I, J) (.returned none) (pk_K ++ ex, R, G 1 x0 x1 I J, J)) (hG2 : ∀ (x0 x1 : Int32) (I : Nat → Nat → Int32) (J : Nat → Nat → Int64), GQ 2 x0 x1 I J → pmC g kRd_readUnary (d + 203) 0 0 [.ref 13, .int x0] (pk_K ++ ex, R, I, J) (.returned none) (pk_K ++ ex, R, G 2 x0 x1 I J, J)) (hG3 : ∀ (x0 x1 : Int32) (I : Nat → Nat → Int32) (J : Nat → Nat → Int64), GQ 3 x0 x1 I J → pmC g kRd_readAltered (d + 203) 0 0 [.ref 13, .int x0, .int x1] (pk_K ++ ex, R, I, J) (.returned none) (pk_K ++ ex, R, G 3 x0 x1 I J, J)) (o : Outcome) (Z : pmM) (r12 : Int32 → Int32 → Int32 → (Nat → Nat → Int32) → (Nat → Nat → Int64) → (Nat → Nat → Int32)) (q12 : Int32 → Int32 → Int32 → (Nat → Nat → Int32) → (Nat → Nat → Int64) → Prop) (ih12 : ∀ (y1 : Int32) (y2 : Int32) (y3 : Int32) (I : Nat → Nat → Int32) (J : Nat → Nat → Int64), q12 y1 y2 y3 I J → o = .returned none → Z = (pk_K ++ ex, R, (r12 y1 y2 y3 I J), J) → pmE g kRd_readOperands (d + 204) 0 0 12 [(0, .ref 13), (1, .int y1), (2, .int y2), (3, .int y3)] [] (pk_K ++ ex) R I J o Z)  (y1 : Int32) (y2 : Int32) (y3 : Int32) (I : Nat → Nat → Int32) (J : Nat → Nat → Int64) (hp : pRd_readOperands_F_57 G GQ q12 y1 y2 y3 I J) (ho : o = .returned none) (hz : Z = (pk_K ++ ex, R, (fRd_readOperands_F_57 G r12 y1 y2 y3 I J), J)) : pmE g kRd_readOperands (d + 204) 0 0 57 [(0, .ref 13), (1, .int y1), (2, .int y2), (3, .int y3)] [] (pk_K ++ ex) R I J o Z := by
  unfold pRd_readOperands_F_57 at hp
  refine pm_aload_n dRd_readOperands_57 rfl ?_
  refine pm_iload_n dRd_readOperands_58 rfl ?_
  refine pm_callV dRd_readOperands_59 lRd_177 vRd_readUnary ⟨_, _, rfl⟩ (hG2 _ 0 _ _ hp.1) rfl rfl rfl (Nat.le_of_ble_eq_true rfl) (Nat.le_refl _) (Nat.le_refl _) ?_
  refine pm_wk [0, 1, 2, 3] rfl ?_
  exact Rd_readOperands_F_n62 g d ex R hR hc G GQ hG0 hG1 hG2 hG3 _ _ r12 q12 ih12  _ _ _ _ _ hp.2 ho (hz.trans (by first | rfl | (simp only [fRd_readOperands_F_57]; done) | (simp only [fRd_readOperands_F_57]; rfl)))
set_option maxHeartbeats 4000000 in
set_option maxRecDepth 100000 in
theorem Rd_readOperands_F_n53 (g : pmG) (d : Nat) (ex : List (Nat × Nat)) (R : Nat → Nat → Value) (hR : pk_R R) (hc : R 13 8 = .ref 10) (G : Nat → Int32 → Int32 → (Nat → Nat → Int32) → (Nat → Nat → Int64) → (Nat → Nat → Int32)) (GQ : Nat → Int32 → Int32 → (Nat → Nat → Int32) → (Nat → Nat → Int64) → Prop) (hG0 : ∀ (x0 x1 : Int32) (I : Nat → Nat → Int32) (J : Nat → Nat → Int64), GQ 0 x0 x1 I J → pmC g kRd_readExpression (d + 203) 0 0 [.ref 13, .int x0] (pk_K ++ ex, R, I, J) (.returned none) (pk_K ++ ex, R, G 0 x0 x1 I J, J)) (hG1 : ∀ (x0 x1 : Int32) (I : Nat → Nat → Int32) (J : Nat → Nat → Int64), GQ 1 x0 x1 I J → pmC g kRd_readOperands (d + 203) 0 0 [.ref 13, .int x0] (pk_K ++ ex, R, I, J) (.returned none) (pk_K ++ ex, R, G 1 x0 x1 I J, J)) (hG2 : ∀ (x0 x1 : Int32) (I : Nat → Nat → Int32) (J : Nat → Nat → Int64), GQ 2 x0 x1 I J → pmC g kRd_readUnary (d + 203) 0 0 [.ref 13, .int x0] (pk_K ++ ex, R, I, J) (.returned none) (pk_K ++ ex, R, G 2 x0 x1 I J, J)) (hG3 : ∀ (x0 x1 : Int32) (I : Nat → Nat → Int32) (J : Nat → Nat → Int64), GQ 3 x0 x1 I J → pmC g kRd_readAltered (d + 203) 0 0 [.ref 13, .int x0, .int x1] (pk_K ++ ex, R, I, J) (.returned none) (pk_K ++ ex, R, G 3 x0 x1 I J, J)) (o : Outcome) (Z : pmM) (r12 : Int32 → Int32 → Int32 → (Nat → Nat → Int32) → (Nat → Nat → Int64) → (Nat → Nat → Int32)) (q12 : Int32 → Int32 → Int32 → (Nat → Nat → Int32) → (Nat → Nat → Int64) → Prop) (ih12 : ∀ (y1 : Int32) (y2 : Int32) (y3 : Int32) (I : Nat → Nat → Int32) (J : Nat → Nat → Int64), q12 y1 y2 y3 I J → o = .returned none → Z = (pk_K ++ ex, R, (r12 y1 y2 y3 I J), J) → pmE g kRd_readOperands (d + 204) 0 0 12 [(0, .ref 13), (1, .int y1), (2, .int y2), (3, .int y3)] [] (pk_K ++ ex) R I J o Z)  (y1 : Int32) (y2 : Int32) (y3 : Int32) (I : Nat → Nat → Int32) (J : Nat → Nat → Int64) (hp : pRd_readOperands_F_53 G GQ q12 y1 y2 y3 I J) (ho : o = .returned none) (hz : Z = (pk_K ++ ex, R, (fRd_readOperands_F_53 G r12 y1 y2 y3 I J), J)) : pmE g kRd_readOperands (d + 204) 0 0 53 [(0, .ref 13), (1, .int y1), (2, .int y2), (3, .int y3)] [] (pk_K ++ ex) R I J o Z := by
  unfold pRd_readOperands_F_53 at hp
  refine pm_aload_n dRd_readOperands_53 rfl ?_
  refine pm_callV dRd_readOperands_54 lRd_139 vRd_advance ⟨_, _, rfl⟩ (Rd_advance_ok _ _ _ _ hR  _ _ hp.1) rfl rfl rfl (Nat.le_of_ble_eq_true rfl) (Nat.le_refl _) (Nat.le_refl _) ?_
  refine pm_wk [0, 1, 2, 3] rfl ?_
  exact Rd_readOperands_F_n57 g d ex R hR hc G GQ hG0 hG1 hG2 hG3 _ _ r12 q12 ih12  _ _ _ _ _ hp.2 ho (hz.trans (by first | rfl | (simp only [fRd_readOperands_F_53]; done) | (simp only [fRd_readOperands_F_53]; rfl)))
set_option maxHeartbeats 4000000 in
set_option maxRecDepth 100000 in
theorem Rd_readOperands_F_n49 (g : pmG) (d : Nat) (ex : List (Nat × Nat)) (R : Nat → Nat → Value) (hR : pk_R R) (hc : R 13 8 = .ref 10) (G : Nat → Int32 → Int32 → (Nat → Nat → Int32) → (Nat → Nat → Int64) → (Nat → Nat → Int32)) (GQ : Nat → Int32 → Int32 → (Nat → Nat → Int32) → (Nat → Nat → Int64) → Prop) (hG0 : ∀ (x0 x1 : Int32) (I : Nat → Nat → Int32) (J : Nat → Nat → Int64), GQ 0 x0 x1 I J → pmC g kRd_readExpression (d + 203) 0 0 [.ref 13, .int x0] (pk_K ++ ex, R, I, J) (.returned none) (pk_K ++ ex, R, G 0 x0 x1 I J, J)) (hG1 : ∀ (x0 x1 : Int32) (I : Nat → Nat → Int32) (J : Nat → Nat → Int64), GQ 1 x0 x1 I J → pmC g kRd_readOperands (d + 203) 0 0 [.ref 13, .int x0] (pk_K ++ ex, R, I, J) (.returned none) (pk_K ++ ex, R, G 1 x0 x1 I J, J)) (hG2 : ∀ (x0 x1 : Int32) (I : Nat → Nat → Int32) (J : Nat → Nat → Int64), GQ 2 x0 x1 I J → pmC g kRd_readUnary (d + 203) 0 0 [.ref 13, .int x0] (pk_K ++ ex, R, I, J) (.returned none) (pk_K ++ ex, R, G 2 x0 x1 I J, J)) (hG3 : ∀ (x0 x1 : Int32) (I : Nat → Nat → Int32) (J : Nat → Nat → Int64), GQ 3 x0 x1 I J → pmC g kRd_readAltered (d + 203) 0 0 [.ref 13, .int x0, .int x1] (pk_K ++ ex, R, I, J) (.returned none) (pk_K ++ ex, R, G 3 x0 x1 I J, J)) (o : Outcome) (Z : pmM) (r12 : Int32 → Int32 → Int32 → (Nat → Nat → Int32) → (Nat → Nat → Int64) → (Nat → Nat → Int32)) (q12 : Int32 → Int32 → Int32 → (Nat → Nat → Int32) → (Nat → Nat → Int64) → Prop) (ih12 : ∀ (y1 : Int32) (y2 : Int32) (y3 : Int32) (I : Nat → Nat → Int32) (J : Nat → Nat → Int64), q12 y1 y2 y3 I J → o = .returned none → Z = (pk_K ++ ex, R, (r12 y1 y2 y3 I J), J) → pmE g kRd_readOperands (d + 204) 0 0 12 [(0, .ref 13), (1, .int y1), (2, .int y2), (3, .int y3)] [] (pk_K ++ ex) R I J o Z)  (y1 : Int32) (y2 : Int32) (y3 : Int32) (I : Nat → Nat → Int32) (J : Nat → Nat → Int64) (hp : pRd_readOperands_F_49 G GQ q12 y1 y2 y3 I J) (ho : o = .returned none) (hz : Z = (pk_K ++ ex, R, (fRd_readOperands_F_49 G r12 y1 y2 y3 I J), J)) : pmE g kRd_readOperands (d + 204) 0 0 49 [(0, .ref 13), (1, .int y1), (2, .int y2), (3, .int y3)] [] (pk_K ++ ex) R I J o Z := by
  unfold pRd_readOperands_F_49 at hp
  refine pm_aload_n dRd_readOperands_49 rfl ?_
  refine pm_callV dRd_readOperands_50 lRd_174 vRd_chargeSign ⟨_, _, rfl⟩ (Rd_chargeSign_ok _ _ _ _ hR  _ _ hp.1) rfl rfl rfl (Nat.le_of_ble_eq_true rfl) (Nat.le_refl _) (Nat.le_refl _) ?_
  refine pm_wk [0, 1, 2, 3] rfl ?_
  exact Rd_readOperands_F_n53 g d ex R hR hc G GQ hG0 hG1 hG2 hG3 _ _ r12 q12 ih12  _ _ _ _ _ hp.2 ho (hz.trans (by first | rfl | (simp only [fRd_readOperands_F_49]; done) | (simp only [fRd_readOperands_F_49]; rfl)))
set_option maxHeartbeats 4000000 in
set_option maxRecDepth 100000 in
theorem Rd_readOperands_F_n41 (g : pmG) (d : Nat) (ex : List (Nat × Nat)) (R : Nat → Nat → Value) (hR : pk_R R) (hc : R 13 8 = .ref 10) (G : Nat → Int32 → Int32 → (Nat → Nat → Int32) → (Nat → Nat → Int64) → (Nat → Nat → Int32)) (GQ : Nat → Int32 → Int32 → (Nat → Nat → Int32) → (Nat → Nat → Int64) → Prop) (hG0 : ∀ (x0 x1 : Int32) (I : Nat → Nat → Int32) (J : Nat → Nat → Int64), GQ 0 x0 x1 I J → pmC g kRd_readExpression (d + 203) 0 0 [.ref 13, .int x0] (pk_K ++ ex, R, I, J) (.returned none) (pk_K ++ ex, R, G 0 x0 x1 I J, J)) (hG1 : ∀ (x0 x1 : Int32) (I : Nat → Nat → Int32) (J : Nat → Nat → Int64), GQ 1 x0 x1 I J → pmC g kRd_readOperands (d + 203) 0 0 [.ref 13, .int x0] (pk_K ++ ex, R, I, J) (.returned none) (pk_K ++ ex, R, G 1 x0 x1 I J, J)) (hG2 : ∀ (x0 x1 : Int32) (I : Nat → Nat → Int32) (J : Nat → Nat → Int64), GQ 2 x0 x1 I J → pmC g kRd_readUnary (d + 203) 0 0 [.ref 13, .int x0] (pk_K ++ ex, R, I, J) (.returned none) (pk_K ++ ex, R, G 2 x0 x1 I J, J)) (hG3 : ∀ (x0 x1 : Int32) (I : Nat → Nat → Int32) (J : Nat → Nat → Int64), GQ 3 x0 x1 I J → pmC g kRd_readAltered (d + 203) 0 0 [.ref 13, .int x0, .int x1] (pk_K ++ ex, R, I, J) (.returned none) (pk_K ++ ex, R, G 3 x0 x1 I J, J)) (o : Outcome) (Z : pmM) (r12 : Int32 → Int32 → Int32 → (Nat → Nat → Int32) → (Nat → Nat → Int64) → (Nat → Nat → Int32)) (q12 : Int32 → Int32 → Int32 → (Nat → Nat → Int32) → (Nat → Nat → Int64) → Prop) (ih12 : ∀ (y1 : Int32) (y2 : Int32) (y3 : Int32) (I : Nat → Nat → Int32) (J : Nat → Nat → Int64), q12 y1 y2 y3 I J → o = .returned none → Z = (pk_K ++ ex, R, (r12 y1 y2 y3 I J), J) → pmE g kRd_readOperands (d + 204) 0 0 12 [(0, .ref 13), (1, .int y1), (2, .int y2), (3, .int y3)] [] (pk_K ++ ex) R I J o Z)  (y1 : Int32) (y2 : Int32) (y3 : Int32) (I : Nat → Nat → Int32) (J : Nat → Nat → Int64) (hp : pRd_readOperands_F_41 G GQ q12 y1 y2 y3 I J) (ho : o = .returned none) (hz : Z = (pk_K ++ ex, R, (fRd_readOperands_F_41 G r12 y1 y2 y3 I J), J)) : pmE g kRd_readOperands (d + 204) 0 0 41 [(0, .ref 13), (1, .int y1), (2, .int y2), (3, .int y3)] [] (pk_K ++ ex) R I J o Z := by
  unfold pRd_readOperands_F_41 at hp
  refine pm_aload_n dRd_readOperands_41 rfl ?_
  refine pm_aload_n dRd_readOperands_42 rfl ?_
  refine pm_geti dRd_readOperands_43 fRd_52 rfl ?_
  refine pm_callV dRd_readOperands_46 lRd_187 vRd_await ⟨_, _, rfl⟩ (Rd_await_ok _ _ _ _ hR _ _ _ hp.1) rfl rfl rfl (Nat.le_of_ble_eq_true rfl) (Nat.le_refl _) (Nat.le_refl _) ?_
  refine pm_wk [0, 1, 2, 3] rfl ?_
  exact Rd_readOperands_F_n49 g d ex R hR hc G GQ hG0 hG1 hG2 hG3 _ _ r12 q12 ih12  _ _ _ _ _ hp.2 ho (hz.trans (by first | rfl | (simp only [fRd_readOperands_F_41]; done) | (simp only [fRd_readOperands_F_41]; rfl)))
set_option maxHeartbeats 4000000 in
set_option maxRecDepth 100000 in
theorem Rd_readOperands_F_n68 (g : pmG) (d : Nat) (ex : List (Nat × Nat)) (R : Nat → Nat → Value) (hR : pk_R R) (hc : R 13 8 = .ref 10) (G : Nat → Int32 → Int32 → (Nat → Nat → Int32) → (Nat → Nat → Int64) → (Nat → Nat → Int32)) (GQ : Nat → Int32 → Int32 → (Nat → Nat → Int32) → (Nat → Nat → Int64) → Prop) (hG0 : ∀ (x0 x1 : Int32) (I : Nat → Nat → Int32) (J : Nat → Nat → Int64), GQ 0 x0 x1 I J → pmC g kRd_readExpression (d + 203) 0 0 [.ref 13, .int x0] (pk_K ++ ex, R, I, J) (.returned none) (pk_K ++ ex, R, G 0 x0 x1 I J, J)) (hG1 : ∀ (x0 x1 : Int32) (I : Nat → Nat → Int32) (J : Nat → Nat → Int64), GQ 1 x0 x1 I J → pmC g kRd_readOperands (d + 203) 0 0 [.ref 13, .int x0] (pk_K ++ ex, R, I, J) (.returned none) (pk_K ++ ex, R, G 1 x0 x1 I J, J)) (hG2 : ∀ (x0 x1 : Int32) (I : Nat → Nat → Int32) (J : Nat → Nat → Int64), GQ 2 x0 x1 I J → pmC g kRd_readUnary (d + 203) 0 0 [.ref 13, .int x0] (pk_K ++ ex, R, I, J) (.returned none) (pk_K ++ ex, R, G 2 x0 x1 I J, J)) (hG3 : ∀ (x0 x1 : Int32) (I : Nat → Nat → Int32) (J : Nat → Nat → Int64), GQ 3 x0 x1 I J → pmC g kRd_readAltered (d + 203) 0 0 [.ref 13, .int x0, .int x1] (pk_K ++ ex, R, I, J) (.returned none) (pk_K ++ ex, R, G 3 x0 x1 I J, J)) (o : Outcome) (Z : pmM)  (y1 : Int32) (y2 : Int32) (y3 : Int32) (I : Nat → Nat → Int32) (J : Nat → Nat → Int64) (hp : pRd_readOperands_F_68 G GQ y1 y2 y3 I J) (ho : o = .returned none) (hz : Z = (pk_K ++ ex, R, (fRd_readOperands_F_68 G y1 y2 y3 I J), J)) : pmE g kRd_readOperands (d + 204) 0 0 68 [(0, .ref 13), (1, .int y1), (2, .int y2), (3, .int y3)] [] (pk_K ++ ex) R I J o Z := by
  unfold pRd_readOperands_F_68 at hp
  refine pm_aload_n dRd_readOperands_68 rfl ?_
  refine pm_iload_n dRd_readOperands_69 rfl ?_
  refine pm_iconst (v := 1) dRd_readOperands_70 (by decide) ?_
  refine pm_callV dRd_readOperands_71 lRd_184 vRd_settle ⟨_, _, rfl⟩ (Rd_settle_F_ok _ _ _ _ hR hc _ _ _ _ _ hp.1) rfl rfl rfl (Nat.le_of_ble_eq_true rfl) (Nat.le_refl _) (Nat.le_refl _) ?_
  exact pm_vret dRd_readOperands_74 rfl ho (hz.trans (by first | rfl | (simp only [fRd_readOperands_F_68]; done) | (simp only [fRd_readOperands_F_68]; rfl)))
set_option maxHeartbeats 4000000 in
set_option maxRecDepth 100000 in
theorem Rd_readOperands_F_n12 (g : pmG) (d : Nat) (ex : List (Nat × Nat)) (R : Nat → Nat → Value) (hR : pk_R R) (hc : R 13 8 = .ref 10) (G : Nat → Int32 → Int32 → (Nat → Nat → Int32) → (Nat → Nat → Int64) → (Nat → Nat → Int32)) (GQ : Nat → Int32 → Int32 → (Nat → Nat → Int32) → (Nat → Nat → Int64) → Prop) (hG0 : ∀ (x0 x1 : Int32) (I : Nat → Nat → Int32) (J : Nat → Nat → Int64), GQ 0 x0 x1 I J → pmC g kRd_readExpression (d + 203) 0 0 [.ref 13, .int x0] (pk_K ++ ex, R, I, J) (.returned none) (pk_K ++ ex, R, G 0 x0 x1 I J, J)) (hG1 : ∀ (x0 x1 : Int32) (I : Nat → Nat → Int32) (J : Nat → Nat → Int64), GQ 1 x0 x1 I J → pmC g kRd_readOperands (d + 203) 0 0 [.ref 13, .int x0] (pk_K ++ ex, R, I, J) (.returned none) (pk_K ++ ex, R, G 1 x0 x1 I J, J)) (hG2 : ∀ (x0 x1 : Int32) (I : Nat → Nat → Int32) (J : Nat → Nat → Int64), GQ 2 x0 x1 I J → pmC g kRd_readUnary (d + 203) 0 0 [.ref 13, .int x0] (pk_K ++ ex, R, I, J) (.returned none) (pk_K ++ ex, R, G 2 x0 x1 I J, J)) (hG3 : ∀ (x0 x1 : Int32) (I : Nat → Nat → Int32) (J : Nat → Nat → Int64), GQ 3 x0 x1 I J → pmC g kRd_readAltered (d + 203) 0 0 [.ref 13, .int x0, .int x1] (pk_K ++ ex, R, I, J) (.returned none) (pk_K ++ ex, R, G 3 x0 x1 I J, J)) (o : Outcome) (Z : pmM)  : ∀ (n : Nat) (y1 : Int32) (y2 : Int32) (y3 : Int32) (I : Nat → Nat → Int32) (J : Nat → Nat → Int64), pRd_readOperands_F_12 G GQ n y1 y2 y3 I J → o = .returned none → Z = (pk_K ++ ex, R, (fRd_readOperands_F_12 G n y1 y2 y3 I J), J) → pmE g kRd_readOperands (d + 204) 0 0 12 [(0, .ref 13), (1, .int y1), (2, .int y2), (3, .int y3)] [] (pk_K ++ ex) R I J o Z := by
  intro n
  induction n with
  | zero => intro y1 y2 y3 I J hp; exact False.elim hp
  | succ n ih =>
  intro y1 y2 y3 I J hp ho hz
  simp only [pRd_readOperands_F_12] at hp
  refine pm_iload_n dRd_readOperands_12 rfl ?_
  refine pm_sipush (v := 4000) dRd_readOperands_13 (by decide) ?_
  refine pm_icmp_gt 68 dRd_readOperands_16 (by decide) (fun h16 => ?_) (fun h16 => ?_)
  ·
    refine pm_wk [0, 1, 2, 3] rfl ?_
    exact Rd_readOperands_F_n68 g d ex R hR hc G GQ hG0 hG1 hG2 hG3 _ _   _ _ _ _ _ (hp.1 h16) ho (hz.trans (by first | (simp only [fRd_readOperands_F_12, if_pos h16]; done) | (simp only [fRd_readOperands_F_12, if_pos h16]; rfl) | rfl))
  ·
    refine pm_aload_n dRd_readOperands_19 rfl ?_
    refine pm_geti dRd_readOperands_20 fRd_52 rfl ?_
    refine pm_callS dRd_readOperands_23 lRd_180 tRd_tightness (Rd_tightness_ok _ _ _ _ hR _ _ _ (hp.2 h16).1) rfl rfl (Nat.le_of_ble_eq_true rfl) (Nat.le_refl _) (Nat.le_refl _) ?_
    refine pm_if_le 68 dRd_readOperands_26 (by decide) (fun h26 => ?_) (fun h26 => ?_)
    ·
      refine pm_wk [0, 1, 2, 3] rfl ?_
      exact Rd_readOperands_F_n68 g d ex R hR hc G GQ hG0 hG1 hG2 hG3 _ _   _ _ _ _ _ ((hp.2 h16).2.1 h26) ho (hz.trans (by first | (simp only [fRd_readOperands_F_12, if_neg h16, if_pos h26]; done) | (simp only [fRd_readOperands_F_12, if_neg h16, if_pos h26]; rfl) | rfl))
    ·
      refine pm_aload_n dRd_readOperands_29 rfl ?_
      refine pm_iload_n dRd_readOperands_30 rfl ?_
      refine pm_aload_n dRd_readOperands_31 rfl ?_
      refine pm_geti dRd_readOperands_32 fRd_52 rfl ?_
      refine pm_callS dRd_readOperands_35 lRd_180 tRd_tightness (Rd_tightness_ok _ _ _ _ hR _ _ _ ((hp.2 h16).2.2 h26).1) rfl rfl (Nat.le_of_ble_eq_true rfl) (Nat.le_refl _) (Nat.le_refl _) ?_
      refine pm_callV dRd_readOperands_38 lRd_184 vRd_settle ⟨_, _, rfl⟩ (Rd_settle_F_ok _ _ _ _ hR hc _ _ _ _ _ ((hp.2 h16).2.2 h26).2.1) rfl rfl rfl (Nat.le_of_ble_eq_true rfl) (Nat.le_refl _) (Nat.le_refl _) ?_
      refine pm_wk [0, 1, 2, 3] rfl ?_
      exact Rd_readOperands_F_n41 g d ex R hR hc G GQ hG0 hG1 hG2 hG3 _ _ (fRd_readOperands_F_12 G n) (pRd_readOperands_F_12 G GQ n) ih  _ _ _ _ _ ((hp.2 h16).2.2 h26).2.2 ho (hz.trans (by first | (simp only [fRd_readOperands_F_12, if_neg h16, if_neg h26]; done) | (simp only [fRd_readOperands_F_12, if_neg h16, if_neg h26]; rfl) | rfl))
set_option maxHeartbeats 4000000 in
set_option maxRecDepth 100000 in
theorem Rd_readOperands_F_n10 (g : pmG) (d : Nat) (ex : List (Nat × Nat)) (R : Nat → Nat → Value) (hR : pk_R R) (hc : R 13 8 = .ref 10) (G : Nat → Int32 → Int32 → (Nat → Nat → Int32) → (Nat → Nat → Int64) → (Nat → Nat → Int32)) (GQ : Nat → Int32 → Int32 → (Nat → Nat → Int32) → (Nat → Nat → Int64) → Prop) (hG0 : ∀ (x0 x1 : Int32) (I : Nat → Nat → Int32) (J : Nat → Nat → Int64), GQ 0 x0 x1 I J → pmC g kRd_readExpression (d + 203) 0 0 [.ref 13, .int x0] (pk_K ++ ex, R, I, J) (.returned none) (pk_K ++ ex, R, G 0 x0 x1 I J, J)) (hG1 : ∀ (x0 x1 : Int32) (I : Nat → Nat → Int32) (J : Nat → Nat → Int64), GQ 1 x0 x1 I J → pmC g kRd_readOperands (d + 203) 0 0 [.ref 13, .int x0] (pk_K ++ ex, R, I, J) (.returned none) (pk_K ++ ex, R, G 1 x0 x1 I J, J)) (hG2 : ∀ (x0 x1 : Int32) (I : Nat → Nat → Int32) (J : Nat → Nat → Int64), GQ 2 x0 x1 I J → pmC g kRd_readUnary (d + 203) 0 0 [.ref 13, .int x0] (pk_K ++ ex, R, I, J) (.returned none) (pk_K ++ ex, R, G 2 x0 x1 I J, J)) (hG3 : ∀ (x0 x1 : Int32) (I : Nat → Nat → Int32) (J : Nat → Nat → Int64), GQ 3 x0 x1 I J → pmC g kRd_readAltered (d + 203) 0 0 [.ref 13, .int x0, .int x1] (pk_K ++ ex, R, I, J) (.returned none) (pk_K ++ ex, R, G 3 x0 x1 I J, J)) (o : Outcome) (Z : pmM) (n12 : Nat) (y1 : Int32) (y2 : Int32) (I : Nat → Nat → Int32) (J : Nat → Nat → Int64) (hp : pRd_readOperands_F_10 G GQ n12 y1 y2 I J) (ho : o = .returned none) (hz : Z = (pk_K ++ ex, R, (fRd_readOperands_F_10 G n12 y1 y2 I J), J)) : pmE g kRd_readOperands (d + 204) 0 0 10 [(0, .ref 13), (1, .int y1), (2, .int y2)] [] (pk_K ++ ex) R I J o Z := by
  unfold pRd_readOperands_F_10 at hp
  refine pm_iconst (v := 0) dRd_readOperands_10 (by decide) ?_
  refine pm_istore_n dRd_readOperands_11 (by decide) rfl ?_
  refine pm_wk [1, 2, 3, 0] rfl ?_
  exact Rd_readOperands_F_n12 g d ex R hR hc G GQ hG0 hG1 hG2 hG3 _ _  n12 _ _ _ _ _ hp ho (hz.trans (by first | rfl | (simp only [fRd_readOperands_F_10]; done) | (simp only [fRd_readOperands_F_10]; rfl)))
set_option maxHeartbeats 4000000 in
set_option maxRecDepth 100000 in
theorem Rd_readOperands_F_n0 (g : pmG) (d : Nat) (ex : List (Nat × Nat)) (R : Nat → Nat → Value) (hR : pk_R R) (hc : R 13 8 = .ref 10) (G : Nat → Int32 → Int32 → (Nat → Nat → Int32) → (Nat → Nat → Int64) → (Nat → Nat → Int32)) (GQ : Nat → Int32 → Int32 → (Nat → Nat → Int32) → (Nat → Nat → Int64) → Prop) (hG0 : ∀ (x0 x1 : Int32) (I : Nat → Nat → Int32) (J : Nat → Nat → Int64), GQ 0 x0 x1 I J → pmC g kRd_readExpression (d + 203) 0 0 [.ref 13, .int x0] (pk_K ++ ex, R, I, J) (.returned none) (pk_K ++ ex, R, G 0 x0 x1 I J, J)) (hG1 : ∀ (x0 x1 : Int32) (I : Nat → Nat → Int32) (J : Nat → Nat → Int64), GQ 1 x0 x1 I J → pmC g kRd_readOperands (d + 203) 0 0 [.ref 13, .int x0] (pk_K ++ ex, R, I, J) (.returned none) (pk_K ++ ex, R, G 1 x0 x1 I J, J)) (hG2 : ∀ (x0 x1 : Int32) (I : Nat → Nat → Int32) (J : Nat → Nat → Int64), GQ 2 x0 x1 I J → pmC g kRd_readUnary (d + 203) 0 0 [.ref 13, .int x0] (pk_K ++ ex, R, I, J) (.returned none) (pk_K ++ ex, R, G 2 x0 x1 I J, J)) (hG3 : ∀ (x0 x1 : Int32) (I : Nat → Nat → Int32) (J : Nat → Nat → Int64), GQ 3 x0 x1 I J → pmC g kRd_readAltered (d + 203) 0 0 [.ref 13, .int x0, .int x1] (pk_K ++ ex, R, I, J) (.returned none) (pk_K ++ ex, R, G 3 x0 x1 I J, J)) (o : Outcome) (Z : pmM) (n12 : Nat) (y1 : Int32) (I : Nat → Nat → Int32) (J : Nat → Nat → Int64) (hp : pRd_readOperands_F G GQ n12 y1 I J) (ho : o = .returned none) (hz : Z = (pk_K ++ ex, R, (fRd_readOperands_F G n12 y1 I J), J)) : pmE g kRd_readOperands (d + 204) 0 0 0 [(0, .ref 13), (1, .int y1)] [] (pk_K ++ ex) R I J o Z := by
  unfold pRd_readOperands_F at hp
  refine pm_aload_n dRd_readOperands_0 rfl ?_
  refine pm_geti dRd_readOperands_1 fRd_85 rfl ?_
  refine pm_istore_n dRd_readOperands_4 (by decide) rfl ?_
  refine pm_aload_n dRd_readOperands_5 rfl ?_
  refine pm_iload_n dRd_readOperands_6 rfl ?_
  refine pm_callV dRd_readOperands_7 lRd_177 vRd_readUnary ⟨_, _, rfl⟩ (hG2 _ 0 _ _ hp.1) rfl rfl rfl (Nat.le_of_ble_eq_true rfl) (Nat.le_refl _) (Nat.le_refl _) ?_
  refine pm_wk [1, 2, 0] rfl ?_
  exact Rd_readOperands_F_n10 g d ex R hR hc G GQ hG0 hG1 hG2 hG3 _ _  n12 _ _ _ _ hp.2 ho (hz.trans (by first | rfl | (simp only [fRd_readOperands_F]; done) | (simp only [fRd_readOperands_F]; rfl)))
set_option maxHeartbeats 4000000 in
set_option maxRecDepth 100000 in
theorem Rd_readOperands_F_ok (g : pmG) (d : Nat) (ex : List (Nat × Nat)) (R : Nat → Nat → Value) (hR : pk_R R) (hc : R 13 8 = .ref 10) (G : Nat → Int32 → Int32 → (Nat → Nat → Int32) → (Nat → Nat → Int64) → (Nat → Nat → Int32)) (GQ : Nat → Int32 → Int32 → (Nat → Nat → Int32) → (Nat → Nat → Int64) → Prop) (hG0 : ∀ (x0 x1 : Int32) (I : Nat → Nat → Int32) (J : Nat → Nat → Int64), GQ 0 x0 x1 I J → pmC g kRd_readExpression (d + 203) 0 0 [.ref 13, .int x0] (pk_K ++ ex, R, I, J) (.returned none) (pk_K ++ ex, R, G 0 x0 x1 I J, J)) (hG1 : ∀ (x0 x1 : Int32) (I : Nat → Nat → Int32) (J : Nat → Nat → Int64), GQ 1 x0 x1 I J → pmC g kRd_readOperands (d + 203) 0 0 [.ref 13, .int x0] (pk_K ++ ex, R, I, J) (.returned none) (pk_K ++ ex, R, G 1 x0 x1 I J, J)) (hG2 : ∀ (x0 x1 : Int32) (I : Nat → Nat → Int32) (J : Nat → Nat → Int64), GQ 2 x0 x1 I J → pmC g kRd_readUnary (d + 203) 0 0 [.ref 13, .int x0] (pk_K ++ ex, R, I, J) (.returned none) (pk_K ++ ex, R, G 2 x0 x1 I J, J)) (hG3 : ∀ (x0 x1 : Int32) (I : Nat → Nat → Int32) (J : Nat → Nat → Int64), GQ 3 x0 x1 I J → pmC g kRd_readAltered (d + 203) 0 0 [.ref 13, .int x0, .int x1] (pk_K ++ ex, R, I, J) (.returned none) (pk_K ++ ex, R, G 3 x0 x1 I J, J)) (n12 : Nat) (x0 : Int32) (I : Nat → Nat → Int32) (J : Nat → Nat → Int64) (hp : pRd_readOperands_F G GQ n12 x0 I J) : pmC g kRd_readOperands (d + 204) 0 0 [.ref 13, .int x0] (pk_K ++ ex, R, I, J) (.returned none) (pk_K ++ ex, R, (fRd_readOperands_F G n12 x0 I J), J) :=
  pmC.of (by decide) (Nat.le_of_ble_eq_true rfl) (Rd_readOperands_F_n0 g d ex R hR hc G GQ hG0 hG1 hG2 hG3 _ _ n12 x0 I J hp rfl rfl)
def fRd_readUnary_F_79 (G : Nat → Int32 → Int32 → (Nat → Nat → Int32) → (Nat → Nat → Int64) → (Nat → Nat → Int32)) (y1 : Int32) (I : Nat → Nat → Int32) (J : Nat → Nat → Int64) : (Nat → Nat → Int32) :=
  I
def pRd_readUnary_F_79 (G : Nat → Int32 → Int32 → (Nat → Nat → Int32) → (Nat → Nat → Int64) → (Nat → Nat → Int32)) (GQ : Nat → Int32 → Int32 → (Nat → Nat → Int32) → (Nat → Nat → Int64) → Prop) (y1 : Int32) (I : Nat → Nat → Int32) (J : Nat → Nat → Int64) : Prop :=
  True
def fRd_readUnary_F_89 (G : Nat → Int32 → Int32 → (Nat → Nat → Int32) → (Nat → Nat → Int64) → (Nat → Nat → Int32)) (y1 : Int32) (I : Nat → Nat → Int32) (J : Nat → Nat → Int64) : (Nat → Nat → Int32) :=
  I
def pRd_readUnary_F_89 (G : Nat → Int32 → Int32 → (Nat → Nat → Int32) → (Nat → Nat → Int64) → (Nat → Nat → Int32)) (GQ : Nat → Int32 → Int32 → (Nat → Nat → Int32) → (Nat → Nat → Int64) → Prop) (y1 : Int32) (I : Nat → Nat → Int32) (J : Nat → Nat → Int64) : Prop :=
  True
def fRd_readUnary_F_99 (G : Nat → Int32 → Int32 → (Nat → Nat → Int32) → (Nat → Nat → Int64) → (Nat → Nat → Int32)) (y1 : Int32) (I : Nat → Nat → Int32) (J : Nat → Nat → Int64) : (Nat → Nat → Int32) :=
  I
def pRd_readUnary_F_99 (G : Nat → Int32 → Int32 → (Nat → Nat → Int32) → (Nat → Nat → Int64) → (Nat → Nat → Int32)) (GQ : Nat → Int32 → Int32 → (Nat → Nat → Int32) → (Nat → Nat → Int64) → Prop) (y1 : Int32) (I : Nat → Nat → Int32) (J : Nat → Nat → Int64) : Prop :=
  True
def fRd_readUnary_F_118 (G : Nat → Int32 → Int32 → (Nat → Nat → Int32) → (Nat → Nat → Int64) → (Nat → Nat → Int32)) (y1 : Int32) (z0 : Int32) (I : Nat → Nat → Int32) (J : Nat → Nat → Int64) : (Nat → Nat → Int32) :=
  I
def pRd_readUnary_F_118 (G : Nat → Int32 → Int32 → (Nat → Nat → Int32) → (Nat → Nat → Int64) → (Nat → Nat → Int32)) (GQ : Nat → Int32 → Int32 → (Nat → Nat → Int32) → (Nat → Nat → Int64) → Prop) (y1 : Int32) (z0 : Int32) (I : Nat → Nat → Int32) (J : Nat → Nat → Int64) : Prop :=
  True
def fRd_readUnary_F_113 (G : Nat → Int32 → Int32 → (Nat → Nat → Int32) → (Nat → Nat → Int64) → (Nat → Nat → Int32)) (y1 : Int32) (I : Nat → Nat → Int32) (J : Nat → Nat → Int64) : (Nat → Nat → Int32) :=
  fRd_readUnary_F_118 G y1 ((fRd_expect (5 : Int32) I J).1) ((fRd_expect (5 : Int32) I J).2) J
def pRd_readUnary_F_113 (G : Nat → Int32 → Int32 → (Nat → Nat → Int32) → (Nat → Nat → Int64) → (Nat → Nat → Int32)) (GQ : Nat → Int32 → Int32 → (Nat → Nat → Int32) → (Nat → Nat → Int64) → Prop) (y1 : Int32) (I : Nat → Nat → Int32) (J : Nat → Nat → Int64) : Prop :=
  (pRd_expect (5 : Int32) I J) ∧ (pRd_readUnary_F_118 G GQ y1 ((fRd_expect (5 : Int32) I J).1) ((fRd_expect (5 : Int32) I J).2) J)
def fRd_readUnary_F_106 (G : Nat → Int32 → Int32 → (Nat → Nat → Int32) → (Nat → Nat → Int64) → (Nat → Nat → Int32)) (y1 : Int32) (I : Nat → Nat → Int32) (J : Nat → Nat → Int64) : (Nat → Nat → Int32) :=
  fRd_readUnary_F_113 G y1 (G 0 (y1 + (1 : Int32)) 0 I J) J
def pRd_readUnary_F_106 (G : Nat → Int32 → Int32 → (Nat → Nat → Int32) → (Nat → Nat → Int64) → (Nat → Nat → Int32)) (GQ : Nat → Int32 → Int32 → (Nat → Nat → Int32) → (Nat → Nat → Int64) → Prop) (y1 : Int32) (I : Nat → Nat → Int32) (J : Nat → Nat → Int64) : Prop :=
  (GQ 0 (y1 + (1 : Int32)) 0 I J) ∧ (pRd_readUnary_F_113 G GQ y1 (G 0 (y1 + (1 : Int32)) 0 I J) J)
def fRd_readUnary_F_139 (G : Nat → Int32 → Int32 → (Nat → Nat → Int32) → (Nat → Nat → Int64) → (Nat → Nat → Int32)) (y1 : Int32) (I : Nat → Nat → Int32) (J : Nat → Nat → Int64) : (Nat → Nat → Int32) :=
  I
def pRd_readUnary_F_139 (G : Nat → Int32 → Int32 → (Nat → Nat → Int32) → (Nat → Nat → Int64) → (Nat → Nat → Int32)) (GQ : Nat → Int32 → Int32 → (Nat → Nat → Int32) → (Nat → Nat → Int64) → Prop) (y1 : Int32) (I : Nat → Nat → Int32) (J : Nat → Nat → Int64) : Prop :=
  True
def fRd_readUnary_F_136 (G : Nat → Int32 → Int32 → (Nat → Nat → Int32) → (Nat → Nat → Int64) → (Nat → Nat → Int32)) (y1 : Int32) (z1 : Int32) (z2 : Int32) (I : Nat → Nat → Int32) (J : Nat → Nat → Int64) : (Nat → Nat → Int32) :=
  fRd_readUnary_F_139 G y1 ((fCo_add_F z1 z2 I J)) J
def pRd_readUnary_F_136 (G : Nat → Int32 → Int32 → (Nat → Nat → Int32) → (Nat → Nat → Int64) → (Nat → Nat → Int32)) (GQ : Nat → Int32 → Int32 → (Nat → Nat → Int32) → (Nat → Nat → Int64) → Prop) (y1 : Int32) (z1 : Int32) (z2 : Int32) (I : Nat → Nat → Int32) (J : Nat → Nat → Int64) : Prop :=
  (pCo_add_F z1 z2 I J) ∧ (pRd_readUnary_F_139 G GQ y1 ((fCo_add_F z1 z2 I J)) J)
def fRd_readUnary_F_147 (G : Nat → Int32 → Int32 → (Nat → Nat → Int32) → (Nat → Nat → Int64) → (Nat → Nat → Int32)) (y1 : Int32) (I : Nat → Nat → Int32) (J : Nat → Nat → Int64) : (Nat → Nat → Int32) :=
  I
def pRd_readUnary_F_147 (G : Nat → Int32 → Int32 → (Nat → Nat → Int32) → (Nat → Nat → Int64) → (Nat → Nat → Int32)) (GQ : Nat → Int32 → Int32 → (Nat → Nat → Int32) → (Nat → Nat → Int64) → Prop) (y1 : Int32) (I : Nat → Nat → Int32) (J : Nat → Nat → Int64) : Prop :=
  True
def fRd_readUnary_F_5 (G : Nat → Int32 → Int32 → (Nat → Nat → Int32) → (Nat → Nat → Int64) → (Nat → Nat → Int32)) (y1 : Int32) (z0 : Int32) (I : Nat → Nat → Int32) (J : Nat → Nat → Int64) : (Nat → Nat → Int32) :=
  if z0 = 0 then if (I 13 3) = 4 then fRd_readUnary_F_106 G y1 ((fRd_advance I J)) J
    else if (I 13 3) = 13 then fRd_readUnary_F_79 G y1 (G 3 (49 : Int32) y1 I J) J
    else if (I 13 3) = 18 then fRd_readUnary_F_89 G y1 (G 3 (18 : Int32) y1 I J) J
    else if (I 13 3) = 19 then fRd_readUnary_F_99 G y1 (G 3 (19 : Int32) y1 I J) J
    else if (I 13 3) = 43 then fRd_readUnary_F_147 G y1 ((fRd_readKnownName_F (0 : Int32) I J)) J
    else if (I 13 3) = 44 then fRd_readUnary_F_136 G y1 (44 : Int32) ((fRd_readNumber (0 : Int32) (255 : Int32) I J).1) ((fRd_readNumber (0 : Int32) (255 : Int32) I J).2) J
    else (fRd_refuse I J)
  else I
def pRd_readUnary_F_5 (G : Nat → Int32 → Int32 → (Nat → Nat → Int32) → (Nat → Nat → Int64) → (Nat → Nat → Int32)) (GQ : Nat → Int32 → Int32 → (Nat → Nat → Int32) → (Nat → Nat → Int64) → Prop) (y1 : Int32) (z0 : Int32) (I : Nat → Nat → Int32) (J : Nat → Nat → Int64) : Prop :=
  (z0 = 0 → ((I 13 3) = 4 → (pRd_advance I J) ∧ (pRd_readUnary_F_106 G GQ y1 ((fRd_advance I J)) J)) ∧
    (¬ ((I 13 3) = 4) → ((I 13 3) = 13 → (GQ 3 (49 : Int32) y1 I J) ∧ (pRd_readUnary_F_79 G GQ y1 (G 3 (49 : Int32) y1 I J) J)) ∧
    (¬ ((I 13 3) = 13) → ((I 13 3) = 18 → (GQ 3 (18 : Int32) y1 I J) ∧ (pRd_readUnary_F_89 G GQ y1 (G 3 (18 : Int32) y1 I J) J)) ∧
    (¬ ((I 13 3) = 18) → ((I 13 3) = 19 → (GQ 3 (19 : Int32) y1 I J) ∧ (pRd_readUnary_F_99 G GQ y1 (G 3 (19 : Int32) y1 I J) J)) ∧
    (¬ ((I 13 3) = 19) → ((I 13 3) = 43 → (pRd_readKnownName_F (0 : Int32) I J) ∧ (pRd_readUnary_F_147 G GQ y1 ((fRd_readKnownName_F (0 : Int32) I J)) J)) ∧
    (¬ ((I 13 3) = 43) → ((I 13 3) = 44 → (pRd_readNumber (0 : Int32) (255 : Int32) I J) ∧ (pRd_readUnary_F_136 G GQ y1 (44 : Int32) ((fRd_readNumber (0 : Int32) (255 : Int32) I J).1) ((fRd_readNumber (0 : Int32) (255 : Int32) I J).2) J)) ∧
    (¬ ((I 13 3) = 44) → (pRd_refuse I J) ∧ True))))))) ∧
  (¬ (z0 = 0) → True)
def fRd_readUnary_F (G : Nat → Int32 → Int32 → (Nat → Nat → Int32) → (Nat → Nat → Int64) → (Nat → Nat → Int32)) (y1 : Int32) (I : Nat → Nat → Int32) (J : Nat → Nat → Int64) : (Nat → Nat → Int32) :=
  fRd_readUnary_F_5 G y1 ((fRd_isTooDeep y1 I J).1) ((fRd_isTooDeep y1 I J).2) J
def pRd_readUnary_F (G : Nat → Int32 → Int32 → (Nat → Nat → Int32) → (Nat → Nat → Int64) → (Nat → Nat → Int32)) (GQ : Nat → Int32 → Int32 → (Nat → Nat → Int32) → (Nat → Nat → Int64) → Prop) (y1 : Int32) (I : Nat → Nat → Int32) (J : Nat → Nat → Int64) : Prop :=
  (pRd_isTooDeep y1 I J) ∧ (pRd_readUnary_F_5 G GQ y1 ((fRd_isTooDeep y1 I J).1) ((fRd_isTooDeep y1 I J).2) J)
set_option maxHeartbeats 4000000 in
set_option maxRecDepth 100000 in
theorem Rd_readUnary_F_n79 (g : pmG) (d : Nat) (ex : List (Nat × Nat)) (R : Nat → Nat → Value) (hR : pk_R R) (hc : R 13 8 = .ref 10) (G : Nat → Int32 → Int32 → (Nat → Nat → Int32) → (Nat → Nat → Int64) → (Nat → Nat → Int32)) (GQ : Nat → Int32 → Int32 → (Nat → Nat → Int32) → (Nat → Nat → Int64) → Prop) (hG0 : ∀ (x0 x1 : Int32) (I : Nat → Nat → Int32) (J : Nat → Nat → Int64), GQ 0 x0 x1 I J → pmC g kRd_readExpression (d + 203) 0 0 [.ref 13, .int x0] (pk_K ++ ex, R, I, J) (.returned none) (pk_K ++ ex, R, G 0 x0 x1 I J, J)) (hG1 : ∀ (x0 x1 : Int32) (I : Nat → Nat → Int32) (J : Nat → Nat → Int64), GQ 1 x0 x1 I J → pmC g kRd_readOperands (d + 203) 0 0 [.ref 13, .int x0] (pk_K ++ ex, R, I, J) (.returned none) (pk_K ++ ex, R, G 1 x0 x1 I J, J)) (hG2 : ∀ (x0 x1 : Int32) (I : Nat → Nat → Int32) (J : Nat → Nat → Int64), GQ 2 x0 x1 I J → pmC g kRd_readUnary (d + 203) 0 0 [.ref 13, .int x0] (pk_K ++ ex, R, I, J) (.returned none) (pk_K ++ ex, R, G 2 x0 x1 I J, J)) (hG3 : ∀ (x0 x1 : Int32) (I : Nat → Nat → Int32) (J : Nat → Nat → Int64), GQ 3 x0 x1 I J → pmC g kRd_readAltered (d + 203) 0 0 [.ref 13, .int x0, .int x1] (pk_K ++ ex, R, I, J) (.returned none) (pk_K ++ ex, R, G 3 x0 x1 I J, J)) (o : Outcome) (Z : pmM)  (y1 : Int32) (I : Nat → Nat → Int32) (J : Nat → Nat → Int64) (hp : pRd_readUnary_F_79 G GQ y1 I J) (ho : o = .returned none) (hz : Z = (pk_K ++ ex, R, (fRd_readUnary_F_79 G y1 I J), J)) : pmE g kRd_readUnary (d + 204) 0 0 79 [(0, .ref 13), (1, .int y1)] [] (pk_K ++ ex) R I J o Z := by
  unfold pRd_readUnary_F_79 at hp
  refine pm_goto 154 dRd_readUnary_79 (by decide) ?_
  exact pm_vret dRd_readUnary_154 rfl ho (hz.trans (by first | rfl | (simp only [fRd_readUnary_F_79]; done) | (simp only [fRd_readUnary_F_79]; rfl)))
set_option maxHeartbeats 4000000 in
set_option maxRecDepth 100000 in
theorem Rd_readUnary_F_n89 (g : pmG) (d : Nat) (ex : List (Nat × Nat)) (R : Nat → Nat → Value) (hR : pk_R R) (hc : R 13 8 = .ref 10) (G : Nat → Int32 → Int32 → (Nat → Nat → Int32) → (Nat → Nat → Int64) → (Nat → Nat → Int32)) (GQ : Nat → Int32 → Int32 → (Nat → Nat → Int32) → (Nat → Nat → Int64) → Prop) (hG0 : ∀ (x0 x1 : Int32) (I : Nat → Nat → Int32) (J : Nat → Nat → Int64), GQ 0 x0 x1 I J → pmC g kRd_readExpression (d + 203) 0 0 [.ref 13, .int x0] (pk_K ++ ex, R, I, J) (.returned none) (pk_K ++ ex, R, G 0 x0 x1 I J, J)) (hG1 : ∀ (x0 x1 : Int32) (I : Nat → Nat → Int32) (J : Nat → Nat → Int64), GQ 1 x0 x1 I J → pmC g kRd_readOperands (d + 203) 0 0 [.ref 13, .int x0] (pk_K ++ ex, R, I, J) (.returned none) (pk_K ++ ex, R, G 1 x0 x1 I J, J)) (hG2 : ∀ (x0 x1 : Int32) (I : Nat → Nat → Int32) (J : Nat → Nat → Int64), GQ 2 x0 x1 I J → pmC g kRd_readUnary (d + 203) 0 0 [.ref 13, .int x0] (pk_K ++ ex, R, I, J) (.returned none) (pk_K ++ ex, R, G 2 x0 x1 I J, J)) (hG3 : ∀ (x0 x1 : Int32) (I : Nat → Nat → Int32) (J : Nat → Nat → Int64), GQ 3 x0 x1 I J → pmC g kRd_readAltered (d + 203) 0 0 [.ref 13, .int x0, .int x1] (pk_K ++ ex, R, I, J) (.returned none) (pk_K ++ ex, R, G 3 x0 x1 I J, J)) (o : Outcome) (Z : pmM)  (y1 : Int32) (I : Nat → Nat → Int32) (J : Nat → Nat → Int64) (hp : pRd_readUnary_F_89 G GQ y1 I J) (ho : o = .returned none) (hz : Z = (pk_K ++ ex, R, (fRd_readUnary_F_89 G y1 I J), J)) : pmE g kRd_readUnary (d + 204) 0 0 89 [(0, .ref 13), (1, .int y1)] [] (pk_K ++ ex) R I J o Z := by
  unfold pRd_readUnary_F_89 at hp
  refine pm_goto 154 dRd_readUnary_89 (by decide) ?_
  exact pm_vret dRd_readUnary_154 rfl ho (hz.trans (by first | rfl | (simp only [fRd_readUnary_F_89]; done) | (simp only [fRd_readUnary_F_89]; rfl)))
set_option maxHeartbeats 4000000 in
set_option maxRecDepth 100000 in
theorem Rd_readUnary_F_n99 (g : pmG) (d : Nat) (ex : List (Nat × Nat)) (R : Nat → Nat → Value) (hR : pk_R R) (hc : R 13 8 = .ref 10) (G : Nat → Int32 → Int32 → (Nat → Nat → Int32) → (Nat → Nat → Int64) → (Nat → Nat → Int32)) (GQ : Nat → Int32 → Int32 → (Nat → Nat → Int32) → (Nat → Nat → Int64) → Prop) (hG0 : ∀ (x0 x1 : Int32) (I : Nat → Nat → Int32) (J : Nat → Nat → Int64), GQ 0 x0 x1 I J → pmC g kRd_readExpression (d + 203) 0 0 [.ref 13, .int x0] (pk_K ++ ex, R, I, J) (.returned none) (pk_K ++ ex, R, G 0 x0 x1 I J, J)) (hG1 : ∀ (x0 x1 : Int32) (I : Nat → Nat → Int32) (J : Nat → Nat → Int64), GQ 1 x0 x1 I J → pmC g kRd_readOperands (d + 203) 0 0 [.ref 13, .int x0] (pk_K ++ ex, R, I, J) (.returned none) (pk_K ++ ex, R, G 1 x0 x1 I J, J)) (hG2 : ∀ (x0 x1 : Int32) (I : Nat → Nat → Int32) (J : Nat → Nat → Int64), GQ 2 x0 x1 I J → pmC g kRd_readUnary (d + 203) 0 0 [.ref 13, .int x0] (pk_K ++ ex, R, I, J) (.returned none) (pk_K ++ ex, R, G 2 x0 x1 I J, J)) (hG3 : ∀ (x0 x1 : Int32) (I : Nat → Nat → Int32) (J : Nat → Nat → Int64), GQ 3 x0 x1 I J → pmC g kRd_readAltered (d + 203) 0 0 [.ref 13, .int x0, .int x1] (pk_K ++ ex, R, I, J) (.returned none) (pk_K ++ ex, R, G 3 x0 x1 I J, J)) (o : Outcome) (Z : pmM)  (y1 : Int32) (I : Nat → Nat → Int32) (J : Nat → Nat → Int64) (hp : pRd_readUnary_F_99 G GQ y1 I J) (ho : o = .returned none) (hz : Z = (pk_K ++ ex, R, (fRd_readUnary_F_99 G y1 I J), J)) : pmE g kRd_readUnary (d + 204) 0 0 99 [(0, .ref 13), (1, .int y1)] [] (pk_K ++ ex) R I J o Z := by
  unfold pRd_readUnary_F_99 at hp
  refine pm_goto 154 dRd_readUnary_99 (by decide) ?_
  exact pm_vret dRd_readUnary_154 rfl ho (hz.trans (by first | rfl | (simp only [fRd_readUnary_F_99]; done) | (simp only [fRd_readUnary_F_99]; rfl)))
set_option maxHeartbeats 4000000 in
set_option maxRecDepth 100000 in
theorem Rd_readUnary_F_n118 (g : pmG) (d : Nat) (ex : List (Nat × Nat)) (R : Nat → Nat → Value) (hR : pk_R R) (hc : R 13 8 = .ref 10) (G : Nat → Int32 → Int32 → (Nat → Nat → Int32) → (Nat → Nat → Int64) → (Nat → Nat → Int32)) (GQ : Nat → Int32 → Int32 → (Nat → Nat → Int32) → (Nat → Nat → Int64) → Prop) (hG0 : ∀ (x0 x1 : Int32) (I : Nat → Nat → Int32) (J : Nat → Nat → Int64), GQ 0 x0 x1 I J → pmC g kRd_readExpression (d + 203) 0 0 [.ref 13, .int x0] (pk_K ++ ex, R, I, J) (.returned none) (pk_K ++ ex, R, G 0 x0 x1 I J, J)) (hG1 : ∀ (x0 x1 : Int32) (I : Nat → Nat → Int32) (J : Nat → Nat → Int64), GQ 1 x0 x1 I J → pmC g kRd_readOperands (d + 203) 0 0 [.ref 13, .int x0] (pk_K ++ ex, R, I, J) (.returned none) (pk_K ++ ex, R, G 1 x0 x1 I J, J)) (hG2 : ∀ (x0 x1 : Int32) (I : Nat → Nat → Int32) (J : Nat → Nat → Int64), GQ 2 x0 x1 I J → pmC g kRd_readUnary (d + 203) 0 0 [.ref 13, .int x0] (pk_K ++ ex, R, I, J) (.returned none) (pk_K ++ ex, R, G 2 x0 x1 I J, J)) (hG3 : ∀ (x0 x1 : Int32) (I : Nat → Nat → Int32) (J : Nat → Nat → Int64), GQ 3 x0 x1 I J → pmC g kRd_readAltered (d + 203) 0 0 [.ref 13, .int x0, .int x1] (pk_K ++ ex, R, I, J) (.returned none) (pk_K ++ ex, R, G 3 x0 x1 I J, J)) (o : Outcome) (Z : pmM)  (y1 : Int32) (z0 : Int32) (I : Nat → Nat → Int32) (J : Nat → Nat → Int64) (hp : pRd_readUnary_F_118 G GQ y1 z0 I J) (ho : o = .returned none) (hz : Z = (pk_K ++ ex, R, (fRd_readUnary_F_118 G y1 z0 I J), J)) : pmE g kRd_readUnary (d + 204) 0 0 118 [(0, .ref 13), (1, .int y1)] [.int z0] (pk_K ++ ex) R I J o Z := by
  unfold pRd_readUnary_F_118 at hp
  refine pm_pop dRd_readUnary_118 rfl ?_
  refine pm_goto 154 dRd_readUnary_119 (by decide) ?_
  exact pm_vret dRd_readUnary_154 rfl ho (hz.trans (by first | rfl | (simp only [fRd_readUnary_F_118]; done) | (simp only [fRd_readUnary_F_118]; rfl)))
set_option maxHeartbeats 4000000 in
set_option maxRecDepth 100000 in
theorem Rd_readUnary_F_n113 (g : pmG) (d : Nat) (ex : List (Nat × Nat)) (R : Nat → Nat → Value) (hR : pk_R R) (hc : R 13 8 = .ref 10) (G : Nat → Int32 → Int32 → (Nat → Nat → Int32) → (Nat → Nat → Int64) → (Nat → Nat → Int32)) (GQ : Nat → Int32 → Int32 → (Nat → Nat → Int32) → (Nat → Nat → Int64) → Prop) (hG0 : ∀ (x0 x1 : Int32) (I : Nat → Nat → Int32) (J : Nat → Nat → Int64), GQ 0 x0 x1 I J → pmC g kRd_readExpression (d + 203) 0 0 [.ref 13, .int x0] (pk_K ++ ex, R, I, J) (.returned none) (pk_K ++ ex, R, G 0 x0 x1 I J, J)) (hG1 : ∀ (x0 x1 : Int32) (I : Nat → Nat → Int32) (J : Nat → Nat → Int64), GQ 1 x0 x1 I J → pmC g kRd_readOperands (d + 203) 0 0 [.ref 13, .int x0] (pk_K ++ ex, R, I, J) (.returned none) (pk_K ++ ex, R, G 1 x0 x1 I J, J)) (hG2 : ∀ (x0 x1 : Int32) (I : Nat → Nat → Int32) (J : Nat → Nat → Int64), GQ 2 x0 x1 I J → pmC g kRd_readUnary (d + 203) 0 0 [.ref 13, .int x0] (pk_K ++ ex, R, I, J) (.returned none) (pk_K ++ ex, R, G 2 x0 x1 I J, J)) (hG3 : ∀ (x0 x1 : Int32) (I : Nat → Nat → Int32) (J : Nat → Nat → Int64), GQ 3 x0 x1 I J → pmC g kRd_readAltered (d + 203) 0 0 [.ref 13, .int x0, .int x1] (pk_K ++ ex, R, I, J) (.returned none) (pk_K ++ ex, R, G 3 x0 x1 I J, J)) (o : Outcome) (Z : pmM)  (y1 : Int32) (I : Nat → Nat → Int32) (J : Nat → Nat → Int64) (hp : pRd_readUnary_F_113 G GQ y1 I J) (ho : o = .returned none) (hz : Z = (pk_K ++ ex, R, (fRd_readUnary_F_113 G y1 I J), J)) : pmE g kRd_readUnary (d + 204) 0 0 113 [(0, .ref 13), (1, .int y1)] [] (pk_K ++ ex) R I J o Z := by
  unfold pRd_readUnary_F_113 at hp
  refine pm_aload_n dRd_readUnary_113 rfl ?_
  refine pm_iconst (v := 5) dRd_readUnary_114 (by decide) ?_
  refine pm_callV dRd_readUnary_115 lRd_100 vRd_expect ⟨_, _, rfl⟩ (Rd_expect_ok _ _ _ _ hR _ _ _ hp.1) rfl rfl rfl (Nat.le_of_ble_eq_true rfl) (Nat.le_refl _) (Nat.le_refl _) ?_
  refine pm_wk [0, 1] rfl ?_
  exact Rd_readUnary_F_n118 g d ex R hR hc G GQ hG0 hG1 hG2 hG3 _ _   _ _ _ _ hp.2 ho (hz.trans (by first | rfl | (simp only [fRd_readUnary_F_113]; done) | (simp only [fRd_readUnary_F_113]; rfl)))
set_option maxHeartbeats 4000000 in
set_option maxRecDepth 100000 in
theorem Rd_readUnary_F_n106 (g : pmG) (d : Nat) (ex : List (Nat × Nat)) (R : Nat → Nat → Value) (hR : pk_R R) (hc : R 13 8 = .ref 10) (G : Nat → Int32 → Int32 → (Nat → Nat → Int32) → (Nat → Nat → Int64) → (Nat → Nat → Int32)) (GQ : Nat → Int32 → Int32 → (Nat → Nat → Int32) → (Nat → Nat → Int64) → Prop) (hG0 : ∀ (x0 x1 : Int32) (I : Nat → Nat → Int32) (J : Nat → Nat → Int64), GQ 0 x0 x1 I J → pmC g kRd_readExpression (d + 203) 0 0 [.ref 13, .int x0] (pk_K ++ ex, R, I, J) (.returned none) (pk_K ++ ex, R, G 0 x0 x1 I J, J)) (hG1 : ∀ (x0 x1 : Int32) (I : Nat → Nat → Int32) (J : Nat → Nat → Int64), GQ 1 x0 x1 I J → pmC g kRd_readOperands (d + 203) 0 0 [.ref 13, .int x0] (pk_K ++ ex, R, I, J) (.returned none) (pk_K ++ ex, R, G 1 x0 x1 I J, J)) (hG2 : ∀ (x0 x1 : Int32) (I : Nat → Nat → Int32) (J : Nat → Nat → Int64), GQ 2 x0 x1 I J → pmC g kRd_readUnary (d + 203) 0 0 [.ref 13, .int x0] (pk_K ++ ex, R, I, J) (.returned none) (pk_K ++ ex, R, G 2 x0 x1 I J, J)) (hG3 : ∀ (x0 x1 : Int32) (I : Nat → Nat → Int32) (J : Nat → Nat → Int64), GQ 3 x0 x1 I J → pmC g kRd_readAltered (d + 203) 0 0 [.ref 13, .int x0, .int x1] (pk_K ++ ex, R, I, J) (.returned none) (pk_K ++ ex, R, G 3 x0 x1 I J, J)) (o : Outcome) (Z : pmM)  (y1 : Int32) (I : Nat → Nat → Int32) (J : Nat → Nat → Int64) (hp : pRd_readUnary_F_106 G GQ y1 I J) (ho : o = .returned none) (hz : Z = (pk_K ++ ex, R, (fRd_readUnary_F_106 G y1 I J), J)) : pmE g kRd_readUnary (d + 204) 0 0 106 [(0, .ref 13), (1, .int y1)] [] (pk_K ++ ex) R I J o Z := by
  unfold pRd_readUnary_F_106 at hp
  refine pm_aload_n dRd_readUnary_106 rfl ?_
  refine pm_iload_n dRd_readUnary_107 rfl ?_
  refine pm_iconst (v := 1) dRd_readUnary_108 (by decide) ?_
  refine pm_iadd dRd_readUnary_109 ?_
  refine pm_callV dRd_readUnary_110 lRd_122 vRd_readExpression ⟨_, _, rfl⟩ (hG0 _ 0 _ _ hp.1) rfl rfl rfl (Nat.le_of_ble_eq_true rfl) (Nat.le_refl _) (Nat.le_refl _) ?_
  refine pm_wk [0, 1] rfl ?_
  exact Rd_readUnary_F_n113 g d ex R hR hc G GQ hG0 hG1 hG2 hG3 _ _   _ _ _ hp.2 ho (hz.trans (by first | rfl | (simp only [fRd_readUnary_F_106]; done) | (simp only [fRd_readUnary_F_106]; rfl)))
set_option maxHeartbeats 4000000 in
set_option maxRecDepth 100000 in
theorem Rd_readUnary_F_n139 (g : pmG) (d : Nat) (ex : List (Nat × Nat)) (R : Nat → Nat → Value) (hR : pk_R R) (hc : R 13 8 = .ref 10) (G : Nat → Int32 → Int32 → (Nat → Nat → Int32) → (Nat → Nat → Int64) → (Nat → Nat → Int32)) (GQ : Nat → Int32 → Int32 → (Nat → Nat → Int32) → (Nat → Nat → Int64) → Prop) (hG0 : ∀ (x0 x1 : Int32) (I : Nat → Nat → Int32) (J : Nat → Nat → Int64), GQ 0 x0 x1 I J → pmC g kRd_readExpression (d + 203) 0 0 [.ref 13, .int x0] (pk_K ++ ex, R, I, J) (.returned none) (pk_K ++ ex, R, G 0 x0 x1 I J, J)) (hG1 : ∀ (x0 x1 : Int32) (I : Nat → Nat → Int32) (J : Nat → Nat → Int64), GQ 1 x0 x1 I J → pmC g kRd_readOperands (d + 203) 0 0 [.ref 13, .int x0] (pk_K ++ ex, R, I, J) (.returned none) (pk_K ++ ex, R, G 1 x0 x1 I J, J)) (hG2 : ∀ (x0 x1 : Int32) (I : Nat → Nat → Int32) (J : Nat → Nat → Int64), GQ 2 x0 x1 I J → pmC g kRd_readUnary (d + 203) 0 0 [.ref 13, .int x0] (pk_K ++ ex, R, I, J) (.returned none) (pk_K ++ ex, R, G 2 x0 x1 I J, J)) (hG3 : ∀ (x0 x1 : Int32) (I : Nat → Nat → Int32) (J : Nat → Nat → Int64), GQ 3 x0 x1 I J → pmC g kRd_readAltered (d + 203) 0 0 [.ref 13, .int x0, .int x1] (pk_K ++ ex, R, I, J) (.returned none) (pk_K ++ ex, R, G 3 x0 x1 I J, J)) (o : Outcome) (Z : pmM)  (y1 : Int32) (I : Nat → Nat → Int32) (J : Nat → Nat → Int64) (hp : pRd_readUnary_F_139 G GQ y1 I J) (ho : o = .returned none) (hz : Z = (pk_K ++ ex, R, (fRd_readUnary_F_139 G y1 I J), J)) : pmE g kRd_readUnary (d + 204) 0 0 139 [(0, .ref 13), (1, .int y1)] [] (pk_K ++ ex) R I J o Z := by
  unfold pRd_readUnary_F_139 at hp
  refine pm_goto 154 dRd_readUnary_139 (by decide) ?_
  exact pm_vret dRd_readUnary_154 rfl ho (hz.trans (by first | rfl | (simp only [fRd_readUnary_F_139]; done) | (simp only [fRd_readUnary_F_139]; rfl)))
set_option maxHeartbeats 4000000 in
set_option maxRecDepth 100000 in
theorem Rd_readUnary_F_n136 (g : pmG) (d : Nat) (ex : List (Nat × Nat)) (R : Nat → Nat → Value) (hR : pk_R R) (hc : R 13 8 = .ref 10) (G : Nat → Int32 → Int32 → (Nat → Nat → Int32) → (Nat → Nat → Int64) → (Nat → Nat → Int32)) (GQ : Nat → Int32 → Int32 → (Nat → Nat → Int32) → (Nat → Nat → Int64) → Prop) (hG0 : ∀ (x0 x1 : Int32) (I : Nat → Nat → Int32) (J : Nat → Nat → Int64), GQ 0 x0 x1 I J → pmC g kRd_readExpression (d + 203) 0 0 [.ref 13, .int x0] (pk_K ++ ex, R, I, J) (.returned none) (pk_K ++ ex, R, G 0 x0 x1 I J, J)) (hG1 : ∀ (x0 x1 : Int32) (I : Nat → Nat → Int32) (J : Nat → Nat → Int64), GQ 1 x0 x1 I J → pmC g kRd_readOperands (d + 203) 0 0 [.ref 13, .int x0] (pk_K ++ ex, R, I, J) (.returned none) (pk_K ++ ex, R, G 1 x0 x1 I J, J)) (hG2 : ∀ (x0 x1 : Int32) (I : Nat → Nat → Int32) (J : Nat → Nat → Int64), GQ 2 x0 x1 I J → pmC g kRd_readUnary (d + 203) 0 0 [.ref 13, .int x0] (pk_K ++ ex, R, I, J) (.returned none) (pk_K ++ ex, R, G 2 x0 x1 I J, J)) (hG3 : ∀ (x0 x1 : Int32) (I : Nat → Nat → Int32) (J : Nat → Nat → Int64), GQ 3 x0 x1 I J → pmC g kRd_readAltered (d + 203) 0 0 [.ref 13, .int x0, .int x1] (pk_K ++ ex, R, I, J) (.returned none) (pk_K ++ ex, R, G 3 x0 x1 I J, J)) (o : Outcome) (Z : pmM)  (y1 : Int32) (z1 : Int32) (z2 : Int32) (I : Nat → Nat → Int32) (J : Nat → Nat → Int64) (hp : pRd_readUnary_F_136 G GQ y1 z1 z2 I J) (ho : o = .returned none) (hz : Z = (pk_K ++ ex, R, (fRd_readUnary_F_136 G y1 z1 z2 I J), J)) : pmE g kRd_readUnary (d + 204) 0 0 136 [(0, .ref 13), (1, .int y1)] [.int z2, .int z1, .ref 10] (pk_K ++ ex) R I J o Z := by
  unfold pRd_readUnary_F_136 at hp
  refine pm_callV dRd_readUnary_136 lRd_128 vCo_add ⟨_, _, rfl⟩ (Co_add_F_ok _ _ _ _ hR _ _ _ _ hp.1) rfl rfl rfl (Nat.le_of_ble_eq_true rfl) (Nat.le_refl _) (Nat.le_refl _) ?_
  refine pm_wk [0, 1] rfl ?_
  exact Rd_readUnary_F_n139 g d ex R hR hc G GQ hG0 hG1 hG2 hG3 _ _   _ _ _ hp.2 ho (hz.trans (by first | rfl | (simp only [fRd_readUnary_F_136]; done) | (simp only [fRd_readUnary_F_136]; rfl)))
set_option maxHeartbeats 4000000 in
set_option maxRecDepth 100000 in
theorem Rd_readUnary_F_n147 (g : pmG) (d : Nat) (ex : List (Nat × Nat)) (R : Nat → Nat → Value) (hR : pk_R R) (hc : R 13 8 = .ref 10) (G : Nat → Int32 → Int32 → (Nat → Nat → Int32) → (Nat → Nat → Int64) → (Nat → Nat → Int32)) (GQ : Nat → Int32 → Int32 → (Nat → Nat → Int32) → (Nat → Nat → Int64) → Prop) (hG0 : ∀ (x0 x1 : Int32) (I : Nat → Nat → Int32) (J : Nat → Nat → Int64), GQ 0 x0 x1 I J → pmC g kRd_readExpression (d + 203) 0 0 [.ref 13, .int x0] (pk_K ++ ex, R, I, J) (.returned none) (pk_K ++ ex, R, G 0 x0 x1 I J, J)) (hG1 : ∀ (x0 x1 : Int32) (I : Nat → Nat → Int32) (J : Nat → Nat → Int64), GQ 1 x0 x1 I J → pmC g kRd_readOperands (d + 203) 0 0 [.ref 13, .int x0] (pk_K ++ ex, R, I, J) (.returned none) (pk_K ++ ex, R, G 1 x0 x1 I J, J)) (hG2 : ∀ (x0 x1 : Int32) (I : Nat → Nat → Int32) (J : Nat → Nat → Int64), GQ 2 x0 x1 I J → pmC g kRd_readUnary (d + 203) 0 0 [.ref 13, .int x0] (pk_K ++ ex, R, I, J) (.returned none) (pk_K ++ ex, R, G 2 x0 x1 I J, J)) (hG3 : ∀ (x0 x1 : Int32) (I : Nat → Nat → Int32) (J : Nat → Nat → Int64), GQ 3 x0 x1 I J → pmC g kRd_readAltered (d + 203) 0 0 [.ref 13, .int x0, .int x1] (pk_K ++ ex, R, I, J) (.returned none) (pk_K ++ ex, R, G 3 x0 x1 I J, J)) (o : Outcome) (Z : pmM)  (y1 : Int32) (I : Nat → Nat → Int32) (J : Nat → Nat → Int64) (hp : pRd_readUnary_F_147 G GQ y1 I J) (ho : o = .returned none) (hz : Z = (pk_K ++ ex, R, (fRd_readUnary_F_147 G y1 I J), J)) : pmE g kRd_readUnary (d + 204) 0 0 147 [(0, .ref 13), (1, .int y1)] [] (pk_K ++ ex) R I J o Z := by
  unfold pRd_readUnary_F_147 at hp
  refine pm_goto 154 dRd_readUnary_147 (by decide) ?_
  exact pm_vret dRd_readUnary_154 rfl ho (hz.trans (by first | rfl | (simp only [fRd_readUnary_F_147]; done) | (simp only [fRd_readUnary_F_147]; rfl)))
set_option maxHeartbeats 4000000 in
set_option maxRecDepth 100000 in
theorem Rd_readUnary_F_n5 (g : pmG) (d : Nat) (ex : List (Nat × Nat)) (R : Nat → Nat → Value) (hR : pk_R R) (hc : R 13 8 = .ref 10) (G : Nat → Int32 → Int32 → (Nat → Nat → Int32) → (Nat → Nat → Int64) → (Nat → Nat → Int32)) (GQ : Nat → Int32 → Int32 → (Nat → Nat → Int32) → (Nat → Nat → Int64) → Prop) (hG0 : ∀ (x0 x1 : Int32) (I : Nat → Nat → Int32) (J : Nat → Nat → Int64), GQ 0 x0 x1 I J → pmC g kRd_readExpression (d + 203) 0 0 [.ref 13, .int x0] (pk_K ++ ex, R, I, J) (.returned none) (pk_K ++ ex, R, G 0 x0 x1 I J, J)) (hG1 : ∀ (x0 x1 : Int32) (I : Nat → Nat → Int32) (J : Nat → Nat → Int64), GQ 1 x0 x1 I J → pmC g kRd_readOperands (d + 203) 0 0 [.ref 13, .int x0] (pk_K ++ ex, R, I, J) (.returned none) (pk_K ++ ex, R, G 1 x0 x1 I J, J)) (hG2 : ∀ (x0 x1 : Int32) (I : Nat → Nat → Int32) (J : Nat → Nat → Int64), GQ 2 x0 x1 I J → pmC g kRd_readUnary (d + 203) 0 0 [.ref 13, .int x0] (pk_K ++ ex, R, I, J) (.returned none) (pk_K ++ ex, R, G 2 x0 x1 I J, J)) (hG3 : ∀ (x0 x1 : Int32) (I : Nat → Nat → Int32) (J : Nat → Nat → Int64), GQ 3 x0 x1 I J → pmC g kRd_readAltered (d + 203) 0 0 [.ref 13, .int x0, .int x1] (pk_K ++ ex, R, I, J) (.returned none) (pk_K ++ ex, R, G 3 x0 x1 I J, J)) (o : Outcome) (Z : pmM)  (y1 : Int32) (z0 : Int32) (I : Nat → Nat → Int32) (J : Nat → Nat → Int64) (hp : pRd_readUnary_F_5 G GQ y1 z0 I J) (ho : o = .returned none) (hz : Z = (pk_K ++ ex, R, (fRd_readUnary_F_5 G y1 z0 I J), J)) : pmE g kRd_readUnary (d + 204) 0 0 5 [(0, .ref 13), (1, .int y1)] [.int z0] (pk_K ++ ex) R I J o Z := by
  unfold pRd_readUnary_F_5 at hp
  refine pm_if_eq 9 dRd_readUnary_5 (by decide) (fun h5 => ?_) (fun h5 => ?_)
  ·
    refine pm_aload_n dRd_readUnary_9 rfl ?_
    refine pm_geti dRd_readUnary_10 fRd_52 rfl ?_
    by_cases h13_4 : (I 13 3) = 4
    ·
      refine pm_lookup 102 dRd_readUnary_13 (by decide) (by first | (rw [h13_4]; rfl) | rw [h13_4]) (by decide) ?_
      refine pm_aload_n dRd_readUnary_102 rfl ?_
      refine pm_callV dRd_readUnary_103 lRd_139 vRd_advance ⟨_, _, rfl⟩ (Rd_advance_ok _ _ _ _ hR  _ _ ((hp.1 h5).1 h13_4).1) rfl rfl rfl (Nat.le_of_ble_eq_true rfl) (Nat.le_refl _) (Nat.le_refl _) ?_
      refine pm_wk [0, 1] rfl ?_
      exact Rd_readUnary_F_n106 g d ex R hR hc G GQ hG0 hG1 hG2 hG3 _ _   _ _ _ ((hp.1 h5).1 h13_4).2 ho (hz.trans (by first | (simp only [fRd_readUnary_F_5, if_pos h5, if_pos h13_4]; done) | (simp only [fRd_readUnary_F_5, if_pos h5, if_pos h13_4]; rfl) | rfl))
    ·
      by_cases h13_13 : (I 13 3) = 13
      ·
        refine pm_lookup 72 dRd_readUnary_13 (by decide) (by first | (rw [h13_13]; rfl) | rw [h13_13]) (by decide) ?_
        refine pm_aload_n dRd_readUnary_72 rfl ?_
        refine pm_bipush (v := 49) dRd_readUnary_73 (by decide) ?_
        refine pm_iload_n dRd_readUnary_75 rfl ?_
        refine pm_callV dRd_readUnary_76 lRd_193 vRd_readAltered ⟨_, _, rfl⟩ (hG3 _ _ _ _ (((hp.1 h5).2 h13_4).1 h13_13).1) rfl rfl rfl (Nat.le_of_ble_eq_true rfl) (Nat.le_refl _) (Nat.le_refl _) ?_
        refine pm_wk [0, 1] rfl ?_
        exact Rd_readUnary_F_n79 g d ex R hR hc G GQ hG0 hG1 hG2 hG3 _ _   _ _ _ (((hp.1 h5).2 h13_4).1 h13_13).2 ho (hz.trans (by first | (simp only [fRd_readUnary_F_5, if_pos h5, if_neg h13_4, if_pos h13_13]; done) | (simp only [fRd_readUnary_F_5, if_pos h5, if_neg h13_4, if_pos h13_13]; rfl) | rfl))
      ·
        by_cases h13_18 : (I 13 3) = 18
        ·
          refine pm_lookup 82 dRd_readUnary_13 (by decide) (by first | (rw [h13_18]; rfl) | rw [h13_18]) (by decide) ?_
          refine pm_aload_n dRd_readUnary_82 rfl ?_
          refine pm_bipush (v := 18) dRd_readUnary_83 (by decide) ?_
          refine pm_iload_n dRd_readUnary_85 rfl ?_
          refine pm_callV dRd_readUnary_86 lRd_193 vRd_readAltered ⟨_, _, rfl⟩ (hG3 _ _ _ _ ((((hp.1 h5).2 h13_4).2 h13_13).1 h13_18).1) rfl rfl rfl (Nat.le_of_ble_eq_true rfl) (Nat.le_refl _) (Nat.le_refl _) ?_
          refine pm_wk [0, 1] rfl ?_
          exact Rd_readUnary_F_n89 g d ex R hR hc G GQ hG0 hG1 hG2 hG3 _ _   _ _ _ ((((hp.1 h5).2 h13_4).2 h13_13).1 h13_18).2 ho (hz.trans (by first | (simp only [fRd_readUnary_F_5, if_pos h5, if_neg h13_4, if_neg h13_13, if_pos h13_18]; done) | (simp only [fRd_readUnary_F_5, if_pos h5, if_neg h13_4, if_neg h13_13, if_pos h13_18]; rfl) | rfl))
        ·
          by_cases h13_19 : (I 13 3) = 19
          ·
            refine pm_lookup 92 dRd_readUnary_13 (by decide) (by first | (rw [h13_19]; rfl) | rw [h13_19]) (by decide) ?_
            refine pm_aload_n dRd_readUnary_92 rfl ?_
            refine pm_bipush (v := 19) dRd_readUnary_93 (by decide) ?_
            refine pm_iload_n dRd_readUnary_95 rfl ?_
            refine pm_callV dRd_readUnary_96 lRd_193 vRd_readAltered ⟨_, _, rfl⟩ (hG3 _ _ _ _ (((((hp.1 h5).2 h13_4).2 h13_13).2 h13_18).1 h13_19).1) rfl rfl rfl (Nat.le_of_ble_eq_true rfl) (Nat.le_refl _) (Nat.le_refl _) ?_
            refine pm_wk [0, 1] rfl ?_
            exact Rd_readUnary_F_n99 g d ex R hR hc G GQ hG0 hG1 hG2 hG3 _ _   _ _ _ (((((hp.1 h5).2 h13_4).2 h13_13).2 h13_18).1 h13_19).2 ho (hz.trans (by first | (simp only [fRd_readUnary_F_5, if_pos h5, if_neg h13_4, if_neg h13_13, if_neg h13_18, if_pos h13_19]; done) | (simp only [fRd_readUnary_F_5, if_pos h5, if_neg h13_4, if_neg h13_13, if_neg h13_18, if_pos h13_19]; rfl) | rfl))
          ·
            by_cases h13_43 : (I 13 3) = 43
            ·
              refine pm_lookup 142 dRd_readUnary_13 (by decide) (by first | (rw [h13_43]; rfl) | rw [h13_43]) (by decide) ?_
              refine pm_aload_n dRd_readUnary_142 rfl ?_
              refine pm_iconst (v := 0) dRd_readUnary_143 (by decide) ?_
              refine pm_callV dRd_readUnary_144 lRd_196 vRd_readKnownName ⟨_, _, rfl⟩ (Rd_readKnownName_F_ok _ _ _ _ hR hc _ _ _ ((((((hp.1 h5).2 h13_4).2 h13_13).2 h13_18).2 h13_19).1 h13_43).1) rfl rfl rfl (Nat.le_of_ble_eq_true rfl) (Nat.le_refl _) (Nat.le_refl _) ?_
              refine pm_wk [0, 1] rfl ?_
              exact Rd_readUnary_F_n147 g d ex R hR hc G GQ hG0 hG1 hG2 hG3 _ _   _ _ _ ((((((hp.1 h5).2 h13_4).2 h13_13).2 h13_18).2 h13_19).1 h13_43).2 ho (hz.trans (by first | (simp only [fRd_readUnary_F_5, if_pos h5, if_neg h13_4, if_neg h13_13, if_neg h13_18, if_neg h13_19, if_pos h13_43]; done) | (simp only [fRd_readUnary_F_5, if_pos h5, if_neg h13_4, if_neg h13_13, if_neg h13_18, if_neg h13_19, if_pos h13_43]; rfl) | rfl))
            ·
              by_cases h13_44 : (I 13 3) = 44
              ·
                refine pm_lookup 122 dRd_readUnary_13 (by decide) (by first | (rw [h13_44]; rfl) | rw [h13_44]) (by decide) ?_
                refine pm_aload_n dRd_readUnary_122 rfl ?_
                refine pm_getr dRd_readUnary_123 fRd_40 rfl hc ?_
                refine pm_bipush (v := 44) dRd_readUnary_126 (by decide) ?_
                refine pm_aload_n dRd_readUnary_128 rfl ?_
                refine pm_iconst (v := 0) dRd_readUnary_129 (by decide) ?_
                refine pm_sipush (v := 255) dRd_readUnary_130 (by decide) ?_
                refine pm_callV dRd_readUnary_133 lRd_107 vRd_readNumber ⟨_, _, rfl⟩ (Rd_readNumber_ok _ _ _ _ hR _ _ _ _ (((((((hp.1 h5).2 h13_4).2 h13_13).2 h13_18).2 h13_19).2 h13_43).1 h13_44).1) rfl rfl rfl (Nat.le_of_ble_eq_true rfl) (Nat.le_refl _) (Nat.le_refl _) ?_
                refine pm_wk [0, 1] rfl ?_
                exact Rd_readUnary_F_n136 g d ex R hR hc G GQ hG0 hG1 hG2 hG3 _ _   _ _ _ _ _ (((((((hp.1 h5).2 h13_4).2 h13_13).2 h13_18).2 h13_19).2 h13_43).1 h13_44).2 ho (hz.trans (by first | (simp only [fRd_readUnary_F_5, if_pos h5, if_neg h13_4, if_neg h13_13, if_neg h13_18, if_neg h13_19, if_neg h13_43, if_pos h13_44]; done) | (simp only [fRd_readUnary_F_5, if_pos h5, if_neg h13_4, if_neg h13_13, if_neg h13_18, if_neg h13_19, if_neg h13_43, if_pos h13_44]; rfl) | rfl))
              ·
                refine pm_lookup 150 dRd_readUnary_13 (by decide) (pm_lkD [4, 13, 18, 19, 43, 44] rfl (by intro q9 hq9; simp only [List.mem_cons, List.not_mem_nil, or_false] at hq9; rcases hq9 with rfl | rfl | rfl | rfl | rfl | rfl <;> assumption)) (by decide) ?_
                refine pm_aload_n dRd_readUnary_150 rfl ?_
                refine pm_callV dRd_readUnary_151 lRd_73 vRd_refuse ⟨_, _, rfl⟩ (Rd_refuse_ok _ _ _ _ hR  _ _ (((((((hp.1 h5).2 h13_4).2 h13_13).2 h13_18).2 h13_19).2 h13_43).2 h13_44).1) rfl rfl rfl (Nat.le_of_ble_eq_true rfl) (Nat.le_refl _) (Nat.le_refl _) ?_
                exact pm_vret dRd_readUnary_154 rfl ho (hz.trans (by first | (simp only [fRd_readUnary_F_5, if_pos h5, if_neg h13_4, if_neg h13_13, if_neg h13_18, if_neg h13_19, if_neg h13_43, if_neg h13_44]; done) | (simp only [fRd_readUnary_F_5, if_pos h5, if_neg h13_4, if_neg h13_13, if_neg h13_18, if_neg h13_19, if_neg h13_43, if_neg h13_44]; rfl) | rfl))
  ·
    exact pm_vret dRd_readUnary_8 rfl ho (hz.trans (by first | (simp only [fRd_readUnary_F_5, if_neg h5]; done) | (simp only [fRd_readUnary_F_5, if_neg h5]; rfl) | rfl))
set_option maxHeartbeats 4000000 in
set_option maxRecDepth 100000 in
theorem Rd_readUnary_F_n0 (g : pmG) (d : Nat) (ex : List (Nat × Nat)) (R : Nat → Nat → Value) (hR : pk_R R) (hc : R 13 8 = .ref 10) (G : Nat → Int32 → Int32 → (Nat → Nat → Int32) → (Nat → Nat → Int64) → (Nat → Nat → Int32)) (GQ : Nat → Int32 → Int32 → (Nat → Nat → Int32) → (Nat → Nat → Int64) → Prop) (hG0 : ∀ (x0 x1 : Int32) (I : Nat → Nat → Int32) (J : Nat → Nat → Int64), GQ 0 x0 x1 I J → pmC g kRd_readExpression (d + 203) 0 0 [.ref 13, .int x0] (pk_K ++ ex, R, I, J) (.returned none) (pk_K ++ ex, R, G 0 x0 x1 I J, J)) (hG1 : ∀ (x0 x1 : Int32) (I : Nat → Nat → Int32) (J : Nat → Nat → Int64), GQ 1 x0 x1 I J → pmC g kRd_readOperands (d + 203) 0 0 [.ref 13, .int x0] (pk_K ++ ex, R, I, J) (.returned none) (pk_K ++ ex, R, G 1 x0 x1 I J, J)) (hG2 : ∀ (x0 x1 : Int32) (I : Nat → Nat → Int32) (J : Nat → Nat → Int64), GQ 2 x0 x1 I J → pmC g kRd_readUnary (d + 203) 0 0 [.ref 13, .int x0] (pk_K ++ ex, R, I, J) (.returned none) (pk_K ++ ex, R, G 2 x0 x1 I J, J)) (hG3 : ∀ (x0 x1 : Int32) (I : Nat → Nat → Int32) (J : Nat → Nat → Int64), GQ 3 x0 x1 I J → pmC g kRd_readAltered (d + 203) 0 0 [.ref 13, .int x0, .int x1] (pk_K ++ ex, R, I, J) (.returned none) (pk_K ++ ex, R, G 3 x0 x1 I J, J)) (o : Outcome) (Z : pmM)  (y1 : Int32) (I : Nat → Nat → Int32) (J : Nat → Nat → Int64) (hp : pRd_readUnary_F G GQ y1 I J) (ho : o = .returned none) (hz : Z = (pk_K ++ ex, R, (fRd_readUnary_F G y1 I J), J)) : pmE g kRd_readUnary (d + 204) 0 0 0 [(0, .ref 13), (1, .int y1)] [] (pk_K ++ ex) R I J o Z := by
  unfold pRd_readUnary_F at hp
  refine pm_aload_n dRd_readUnary_0 rfl ?_
  refine pm_iload_n dRd_readUnary_1 rfl ?_
  refine pm_callV dRd_readUnary_2 lRd_168 vRd_isTooDeep ⟨_, _, rfl⟩ (Rd_isTooDeep_ok _ _ _ _ hR _ _ _ hp.1) rfl rfl rfl (Nat.le_of_ble_eq_true rfl) (Nat.le_refl _) (Nat.le_refl _) ?_
  refine pm_wk [0, 1] rfl ?_
  exact Rd_readUnary_F_n5 g d ex R hR hc G GQ hG0 hG1 hG2 hG3 _ _   _ _ _ _ hp.2 ho (hz.trans (by first | rfl | (simp only [fRd_readUnary_F]; done) | (simp only [fRd_readUnary_F]; rfl)))
set_option maxHeartbeats 4000000 in
set_option maxRecDepth 100000 in
theorem Rd_readUnary_F_ok (g : pmG) (d : Nat) (ex : List (Nat × Nat)) (R : Nat → Nat → Value) (hR : pk_R R) (hc : R 13 8 = .ref 10) (G : Nat → Int32 → Int32 → (Nat → Nat → Int32) → (Nat → Nat → Int64) → (Nat → Nat → Int32)) (GQ : Nat → Int32 → Int32 → (Nat → Nat → Int32) → (Nat → Nat → Int64) → Prop) (hG0 : ∀ (x0 x1 : Int32) (I : Nat → Nat → Int32) (J : Nat → Nat → Int64), GQ 0 x0 x1 I J → pmC g kRd_readExpression (d + 203) 0 0 [.ref 13, .int x0] (pk_K ++ ex, R, I, J) (.returned none) (pk_K ++ ex, R, G 0 x0 x1 I J, J)) (hG1 : ∀ (x0 x1 : Int32) (I : Nat → Nat → Int32) (J : Nat → Nat → Int64), GQ 1 x0 x1 I J → pmC g kRd_readOperands (d + 203) 0 0 [.ref 13, .int x0] (pk_K ++ ex, R, I, J) (.returned none) (pk_K ++ ex, R, G 1 x0 x1 I J, J)) (hG2 : ∀ (x0 x1 : Int32) (I : Nat → Nat → Int32) (J : Nat → Nat → Int64), GQ 2 x0 x1 I J → pmC g kRd_readUnary (d + 203) 0 0 [.ref 13, .int x0] (pk_K ++ ex, R, I, J) (.returned none) (pk_K ++ ex, R, G 2 x0 x1 I J, J)) (hG3 : ∀ (x0 x1 : Int32) (I : Nat → Nat → Int32) (J : Nat → Nat → Int64), GQ 3 x0 x1 I J → pmC g kRd_readAltered (d + 203) 0 0 [.ref 13, .int x0, .int x1] (pk_K ++ ex, R, I, J) (.returned none) (pk_K ++ ex, R, G 3 x0 x1 I J, J))  (x0 : Int32) (I : Nat → Nat → Int32) (J : Nat → Nat → Int64) (hp : pRd_readUnary_F G GQ x0 I J) : pmC g kRd_readUnary (d + 204) 0 0 [.ref 13, .int x0] (pk_K ++ ex, R, I, J) (.returned none) (pk_K ++ ex, R, (fRd_readUnary_F G x0 I J), J) :=
  pmC.of (by decide) (Nat.le_of_ble_eq_true rfl) (Rd_readUnary_F_n0 g d ex R hR hc G GQ hG0 hG1 hG2 hG3 _ _  x0 I J hp rfl rfl)
def fRd_readAltered_F_15 (G : Nat → Int32 → Int32 → (Nat → Nat → Int32) → (Nat → Nat → Int64) → (Nat → Nat → Int32)) (y1 : Int32) (y2 : Int32) (I : Nat → Nat → Int32) (J : Nat → Nat → Int64) : (Nat → Nat → Int32) :=
  (fCo_add_F y1 (0 : Int32) I J)
def pRd_readAltered_F_15 (G : Nat → Int32 → Int32 → (Nat → Nat → Int32) → (Nat → Nat → Int64) → (Nat → Nat → Int32)) (GQ : Nat → Int32 → Int32 → (Nat → Nat → Int32) → (Nat → Nat → Int64) → Prop) (y1 : Int32) (y2 : Int32) (I : Nat → Nat → Int32) (J : Nat → Nat → Int64) : Prop :=
  (pCo_add_F y1 (0 : Int32) I J) ∧ True
def fRd_readAltered_F_8 (G : Nat → Int32 → Int32 → (Nat → Nat → Int32) → (Nat → Nat → Int64) → (Nat → Nat → Int32)) (y1 : Int32) (y2 : Int32) (I : Nat → Nat → Int32) (J : Nat → Nat → Int64) : (Nat → Nat → Int32) :=
  fRd_readAltered_F_15 G y1 y2 (G 2 (y2 + (1 : Int32)) 0 I J) J
def pRd_readAltered_F_8 (G : Nat → Int32 → Int32 → (Nat → Nat → Int32) → (Nat → Nat → Int64) → (Nat → Nat → Int32)) (GQ : Nat → Int32 → Int32 → (Nat → Nat → Int32) → (Nat → Nat → Int64) → Prop) (y1 : Int32) (y2 : Int32) (I : Nat → Nat → Int32) (J : Nat → Nat → Int64) : Prop :=
  (GQ 2 (y2 + (1 : Int32)) 0 I J) ∧ (pRd_readAltered_F_15 G GQ y1 y2 (G 2 (y2 + (1 : Int32)) 0 I J) J)
def fRd_readAltered_F_4 (G : Nat → Int32 → Int32 → (Nat → Nat → Int32) → (Nat → Nat → Int64) → (Nat → Nat → Int32)) (y1 : Int32) (y2 : Int32) (I : Nat → Nat → Int32) (J : Nat → Nat → Int64) : (Nat → Nat → Int32) :=
  fRd_readAltered_F_8 G y1 y2 ((fRd_advance I J)) J
def pRd_readAltered_F_4 (G : Nat → Int32 → Int32 → (Nat → Nat → Int32) → (Nat → Nat → Int64) → (Nat → Nat → Int32)) (GQ : Nat → Int32 → Int32 → (Nat → Nat → Int32) → (Nat → Nat → Int64) → Prop) (y1 : Int32) (y2 : Int32) (I : Nat → Nat → Int32) (J : Nat → Nat → Int64) : Prop :=
  (pRd_advance I J) ∧ (pRd_readAltered_F_8 G GQ y1 y2 ((fRd_advance I J)) J)
def fRd_readAltered_F (G : Nat → Int32 → Int32 → (Nat → Nat → Int32) → (Nat → Nat → Int64) → (Nat → Nat → Int32)) (y1 : Int32) (y2 : Int32) (I : Nat → Nat → Int32) (J : Nat → Nat → Int64) : (Nat → Nat → Int32) :=
  fRd_readAltered_F_4 G y1 y2 ((fRd_chargeSign I J)) J
def pRd_readAltered_F (G : Nat → Int32 → Int32 → (Nat → Nat → Int32) → (Nat → Nat → Int64) → (Nat → Nat → Int32)) (GQ : Nat → Int32 → Int32 → (Nat → Nat → Int32) → (Nat → Nat → Int64) → Prop) (y1 : Int32) (y2 : Int32) (I : Nat → Nat → Int32) (J : Nat → Nat → Int64) : Prop :=
  (pRd_chargeSign I J) ∧ (pRd_readAltered_F_4 G GQ y1 y2 ((fRd_chargeSign I J)) J)
set_option maxHeartbeats 4000000 in
set_option maxRecDepth 100000 in
theorem Rd_readAltered_F_n15 (g : pmG) (d : Nat) (ex : List (Nat × Nat)) (R : Nat → Nat → Value) (hR : pk_R R) (hc : R 13 8 = .ref 10) (G : Nat → Int32 → Int32 → (Nat → Nat → Int32) → (Nat → Nat → Int64) → (Nat → Nat → Int32)) (GQ : Nat → Int32 → Int32 → (Nat → Nat → Int32) → (Nat → Nat → Int64) → Prop) (hG0 : ∀ (x0 x1 : Int32) (I : Nat → Nat → Int32) (J : Nat → Nat → Int64), GQ 0 x0 x1 I J → pmC g kRd_readExpression (d + 203) 0 0 [.ref 13, .int x0] (pk_K ++ ex, R, I, J) (.returned none) (pk_K ++ ex, R, G 0 x0 x1 I J, J)) (hG1 : ∀ (x0 x1 : Int32) (I : Nat → Nat → Int32) (J : Nat → Nat → Int64), GQ 1 x0 x1 I J → pmC g kRd_readOperands (d + 203) 0 0 [.ref 13, .int x0] (pk_K ++ ex, R, I, J) (.returned none) (pk_K ++ ex, R, G 1 x0 x1 I J, J)) (hG2 : ∀ (x0 x1 : Int32) (I : Nat → Nat → Int32) (J : Nat → Nat → Int64), GQ 2 x0 x1 I J → pmC g kRd_readUnary (d + 203) 0 0 [.ref 13, .int x0] (pk_K ++ ex, R, I, J) (.returned none) (pk_K ++ ex, R, G 2 x0 x1 I J, J)) (hG3 : ∀ (x0 x1 : Int32) (I : Nat → Nat → Int32) (J : Nat → Nat → Int64), GQ 3 x0 x1 I J → pmC g kRd_readAltered (d + 203) 0 0 [.ref 13, .int x0, .int x1] (pk_K ++ ex, R, I, J) (.returned none) (pk_K ++ ex, R, G 3 x0 x1 I J, J)) (o : Outcome) (Z : pmM)  (y1 : Int32) (y2 : Int32) (I : Nat → Nat → Int32) (J : Nat → Nat → Int64) (hp : pRd_readAltered_F_15 G GQ y1 y2 I J) (ho : o = .returned none) (hz : Z = (pk_K ++ ex, R, (fRd_readAltered_F_15 G y1 y2 I J), J)) : pmE g kRd_readAltered (d + 204) 0 0 15 [(0, .ref 13), (1, .int y1), (2, .int y2)] [] (pk_K ++ ex) R I J o Z := by
  unfold pRd_readAltered_F_15 at hp
  refine pm_aload_n dRd_readAltered_15 rfl ?_
  refine pm_getr dRd_readAltered_16 fRd_40 rfl hc ?_
  refine pm_iload_n dRd_readAltered_19 rfl ?_
  refine pm_iconst (v := 0) dRd_readAltered_20 (by decide) ?_
  refine pm_callV dRd_readAltered_21 lRd_128 vCo_add ⟨_, _, rfl⟩ (Co_add_F_ok _ _ _ _ hR _ _ _ _ hp.1) rfl rfl rfl (Nat.le_of_ble_eq_true rfl) (Nat.le_refl _) (Nat.le_refl _) ?_
  exact pm_vret dRd_readAltered_24 rfl ho (hz.trans (by first | rfl | (simp only [fRd_readAltered_F_15]; done) | (simp only [fRd_readAltered_F_15]; rfl)))
set_option maxHeartbeats 4000000 in
set_option maxRecDepth 100000 in
theorem Rd_readAltered_F_n8 (g : pmG) (d : Nat) (ex : List (Nat × Nat)) (R : Nat → Nat → Value) (hR : pk_R R) (hc : R 13 8 = .ref 10) (G : Nat → Int32 → Int32 → (Nat → Nat → Int32) → (Nat → Nat → Int64) → (Nat → Nat → Int32)) (GQ : Nat → Int32 → Int32 → (Nat → Nat → Int32) → (Nat → Nat → Int64) → Prop) (hG0 : ∀ (x0 x1 : Int32) (I : Nat → Nat → Int32) (J : Nat → Nat → Int64), GQ 0 x0 x1 I J → pmC g kRd_readExpression (d + 203) 0 0 [.ref 13, .int x0] (pk_K ++ ex, R, I, J) (.returned none) (pk_K ++ ex, R, G 0 x0 x1 I J, J)) (hG1 : ∀ (x0 x1 : Int32) (I : Nat → Nat → Int32) (J : Nat → Nat → Int64), GQ 1 x0 x1 I J → pmC g kRd_readOperands (d + 203) 0 0 [.ref 13, .int x0] (pk_K ++ ex, R, I, J) (.returned none) (pk_K ++ ex, R, G 1 x0 x1 I J, J)) (hG2 : ∀ (x0 x1 : Int32) (I : Nat → Nat → Int32) (J : Nat → Nat → Int64), GQ 2 x0 x1 I J → pmC g kRd_readUnary (d + 203) 0 0 [.ref 13, .int x0] (pk_K ++ ex, R, I, J) (.returned none) (pk_K ++ ex, R, G 2 x0 x1 I J, J)) (hG3 : ∀ (x0 x1 : Int32) (I : Nat → Nat → Int32) (J : Nat → Nat → Int64), GQ 3 x0 x1 I J → pmC g kRd_readAltered (d + 203) 0 0 [.ref 13, .int x0, .int x1] (pk_K ++ ex, R, I, J) (.returned none) (pk_K ++ ex, R, G 3 x0 x1 I J, J)) (o : Outcome) (Z : pmM)  (y1 : Int32) (y2 : Int32) (I : Nat → Nat → Int32) (J : Nat → Nat → Int64) (hp : pRd_readAltered_F_8 G GQ y1 y2 I J) (ho : o = .returned none) (hz : Z = (pk_K ++ ex, R, (fRd_readAltered_F_8 G y1 y2 I J), J)) : pmE g kRd_readAltered (d + 204) 0 0 8 [(0, .ref 13), (1, .int y1), (2, .int y2)] [] (pk_K ++ ex) R I J o Z := by
  unfold pRd_readAltered_F_8 at hp
  refine pm_aload_n dRd_readAltered_8 rfl ?_
  refine pm_iload_n dRd_readAltered_9 rfl ?_
  refine pm_iconst (v := 1) dRd_readAltered_10 (by decide) ?_
  refine pm_iadd dRd_readAltered_11 ?_
  refine pm_callV dRd_readAltered_12 lRd_177 vRd_readUnary ⟨_, _, rfl⟩ (hG2 _ 0 _ _ hp.1) rfl rfl rfl (Nat.le_of_ble_eq_true rfl) (Nat.le_refl _) (Nat.le_refl _) ?_
  refine pm_wk [0, 1, 2] rfl ?_
  exact Rd_readAltered_F_n15 g d ex R hR hc G GQ hG0 hG1 hG2 hG3 _ _   _ _ _ _ hp.2 ho (hz.trans (by first | rfl | (simp only [fRd_readAltered_F_8]; done) | (simp only [fRd_readAltered_F_8]; rfl)))
set_option maxHeartbeats 4000000 in
set_option maxRecDepth 100000 in
theorem Rd_readAltered_F_n4 (g : pmG) (d : Nat) (ex : List (Nat × Nat)) (R : Nat → Nat → Value) (hR : pk_R R) (hc : R 13 8 = .ref 10) (G : Nat → Int32 → Int32 → (Nat → Nat → Int32) → (Nat → Nat → Int64) → (Nat → Nat → Int32)) (GQ : Nat → Int32 → Int32 → (Nat → Nat → Int32) → (Nat → Nat → Int64) → Prop) (hG0 : ∀ (x0 x1 : Int32) (I : Nat → Nat → Int32) (J : Nat → Nat → Int64), GQ 0 x0 x1 I J → pmC g kRd_readExpression (d + 203) 0 0 [.ref 13, .int x0] (pk_K ++ ex, R, I, J) (.returned none) (pk_K ++ ex, R, G 0 x0 x1 I J, J)) (hG1 : ∀ (x0 x1 : Int32) (I : Nat → Nat → Int32) (J : Nat → Nat → Int64), GQ 1 x0 x1 I J → pmC g kRd_readOperands (d + 203) 0 0 [.ref 13, .int x0] (pk_K ++ ex, R, I, J) (.returned none) (pk_K ++ ex, R, G 1 x0 x1 I J, J)) (hG2 : ∀ (x0 x1 : Int32) (I : Nat → Nat → Int32) (J : Nat → Nat → Int64), GQ 2 x0 x1 I J → pmC g kRd_readUnary (d + 203) 0 0 [.ref 13, .int x0] (pk_K ++ ex, R, I, J) (.returned none) (pk_K ++ ex, R, G 2 x0 x1 I J, J)) (hG3 : ∀ (x0 x1 : Int32) (I : Nat → Nat → Int32) (J : Nat → Nat → Int64), GQ 3 x0 x1 I J → pmC g kRd_readAltered (d + 203) 0 0 [.ref 13, .int x0, .int x1] (pk_K ++ ex, R, I, J) (.returned none) (pk_K ++ ex, R, G 3 x0 x1 I J, J)) (o : Outcome) (Z : pmM)  (y1 : Int32) (y2 : Int32) (I : Nat → Nat → Int32) (J : Nat → Nat → Int64) (hp : pRd_readAltered_F_4 G GQ y1 y2 I J) (ho : o = .returned none) (hz : Z = (pk_K ++ ex, R, (fRd_readAltered_F_4 G y1 y2 I J), J)) : pmE g kRd_readAltered (d + 204) 0 0 4 [(0, .ref 13), (1, .int y1), (2, .int y2)] [] (pk_K ++ ex) R I J o Z := by
  unfold pRd_readAltered_F_4 at hp
  refine pm_aload_n dRd_readAltered_4 rfl ?_
  refine pm_callV dRd_readAltered_5 lRd_139 vRd_advance ⟨_, _, rfl⟩ (Rd_advance_ok _ _ _ _ hR  _ _ hp.1) rfl rfl rfl (Nat.le_of_ble_eq_true rfl) (Nat.le_refl _) (Nat.le_refl _) ?_
  refine pm_wk [0, 1, 2] rfl ?_
  exact Rd_readAltered_F_n8 g d ex R hR hc G GQ hG0 hG1 hG2 hG3 _ _   _ _ _ _ hp.2 ho (hz.trans (by first | rfl | (simp only [fRd_readAltered_F_4]; done) | (simp only [fRd_readAltered_F_4]; rfl)))
set_option maxHeartbeats 4000000 in
set_option maxRecDepth 100000 in
theorem Rd_readAltered_F_n0 (g : pmG) (d : Nat) (ex : List (Nat × Nat)) (R : Nat → Nat → Value) (hR : pk_R R) (hc : R 13 8 = .ref 10) (G : Nat → Int32 → Int32 → (Nat → Nat → Int32) → (Nat → Nat → Int64) → (Nat → Nat → Int32)) (GQ : Nat → Int32 → Int32 → (Nat → Nat → Int32) → (Nat → Nat → Int64) → Prop) (hG0 : ∀ (x0 x1 : Int32) (I : Nat → Nat → Int32) (J : Nat → Nat → Int64), GQ 0 x0 x1 I J → pmC g kRd_readExpression (d + 203) 0 0 [.ref 13, .int x0] (pk_K ++ ex, R, I, J) (.returned none) (pk_K ++ ex, R, G 0 x0 x1 I J, J)) (hG1 : ∀ (x0 x1 : Int32) (I : Nat → Nat → Int32) (J : Nat → Nat → Int64), GQ 1 x0 x1 I J → pmC g kRd_readOperands (d + 203) 0 0 [.ref 13, .int x0] (pk_K ++ ex, R, I, J) (.returned none) (pk_K ++ ex, R, G 1 x0 x1 I J, J)) (hG2 : ∀ (x0 x1 : Int32) (I : Nat → Nat → Int32) (J : Nat → Nat → Int64), GQ 2 x0 x1 I J → pmC g kRd_readUnary (d + 203) 0 0 [.ref 13, .int x0] (pk_K ++ ex, R, I, J) (.returned none) (pk_K ++ ex, R, G 2 x0 x1 I J, J)) (hG3 : ∀ (x0 x1 : Int32) (I : Nat → Nat → Int32) (J : Nat → Nat → Int64), GQ 3 x0 x1 I J → pmC g kRd_readAltered (d + 203) 0 0 [.ref 13, .int x0, .int x1] (pk_K ++ ex, R, I, J) (.returned none) (pk_K ++ ex, R, G 3 x0 x1 I J, J)) (o : Outcome) (Z : pmM)  (y1 : Int32) (y2 : Int32) (I : Nat → Nat → Int32) (J : Nat → Nat → Int64) (hp : pRd_readAltered_F G GQ y1 y2 I J) (ho : o = .returned none) (hz : Z = (pk_K ++ ex, R, (fRd_readAltered_F G y1 y2 I J), J)) : pmE g kRd_readAltered (d + 204) 0 0 0 [(0, .ref 13), (1, .int y1), (2, .int y2)] [] (pk_K ++ ex) R I J o Z := by
  unfold pRd_readAltered_F at hp
  refine pm_aload_n dRd_readAltered_0 rfl ?_
  refine pm_callV dRd_readAltered_1 lRd_174 vRd_chargeSign ⟨_, _, rfl⟩ (Rd_chargeSign_ok _ _ _ _ hR  _ _ hp.1) rfl rfl rfl (Nat.le_of_ble_eq_true rfl) (Nat.le_refl _) (Nat.le_refl _) ?_
  refine pm_wk [0, 1, 2] rfl ?_
  exact Rd_readAltered_F_n4 g d ex R hR hc G GQ hG0 hG1 hG2 hG3 _ _   _ _ _ _ hp.2 ho (hz.trans (by first | rfl | (simp only [fRd_readAltered_F]; done) | (simp only [fRd_readAltered_F]; rfl)))
set_option maxHeartbeats 4000000 in
set_option maxRecDepth 100000 in
theorem Rd_readAltered_F_ok (g : pmG) (d : Nat) (ex : List (Nat × Nat)) (R : Nat → Nat → Value) (hR : pk_R R) (hc : R 13 8 = .ref 10) (G : Nat → Int32 → Int32 → (Nat → Nat → Int32) → (Nat → Nat → Int64) → (Nat → Nat → Int32)) (GQ : Nat → Int32 → Int32 → (Nat → Nat → Int32) → (Nat → Nat → Int64) → Prop) (hG0 : ∀ (x0 x1 : Int32) (I : Nat → Nat → Int32) (J : Nat → Nat → Int64), GQ 0 x0 x1 I J → pmC g kRd_readExpression (d + 203) 0 0 [.ref 13, .int x0] (pk_K ++ ex, R, I, J) (.returned none) (pk_K ++ ex, R, G 0 x0 x1 I J, J)) (hG1 : ∀ (x0 x1 : Int32) (I : Nat → Nat → Int32) (J : Nat → Nat → Int64), GQ 1 x0 x1 I J → pmC g kRd_readOperands (d + 203) 0 0 [.ref 13, .int x0] (pk_K ++ ex, R, I, J) (.returned none) (pk_K ++ ex, R, G 1 x0 x1 I J, J)) (hG2 : ∀ (x0 x1 : Int32) (I : Nat → Nat → Int32) (J : Nat → Nat → Int64), GQ 2 x0 x1 I J → pmC g kRd_readUnary (d + 203) 0 0 [.ref 13, .int x0] (pk_K ++ ex, R, I, J) (.returned none) (pk_K ++ ex, R, G 2 x0 x1 I J, J)) (hG3 : ∀ (x0 x1 : Int32) (I : Nat → Nat → Int32) (J : Nat → Nat → Int64), GQ 3 x0 x1 I J → pmC g kRd_readAltered (d + 203) 0 0 [.ref 13, .int x0, .int x1] (pk_K ++ ex, R, I, J) (.returned none) (pk_K ++ ex, R, G 3 x0 x1 I J, J))  (x0 : Int32) (x1 : Int32) (I : Nat → Nat → Int32) (J : Nat → Nat → Int64) (hp : pRd_readAltered_F G GQ x0 x1 I J) : pmC g kRd_readAltered (d + 204) 0 0 [.ref 13, .int x0, .int x1] (pk_K ++ ex, R, I, J) (.returned none) (pk_K ++ ex, R, (fRd_readAltered_F G x0 x1 I J), J) :=
  pmC.of (by decide) (Nat.le_of_ble_eq_true rfl) (Rd_readAltered_F_n0 g d ex R hR hc G GQ hG0 hG1 hG2 hG3 _ _  x0 x1 I J hp rfl rfl)
def ge_F_F : Nat → Nat → Int32 → Int32 → (Nat → Nat → Int32) → (Nat → Nat → Int64) → (Nat → Nat → Int32)
  | 0, _, _, _, I, _ => I
  | m + 1, t, x0, x1, I, J =>
  if t = 0 then fRd_readExpression_F (ge_F_F m) x0 I J
  else if t = 1 then fRd_readOperands_F (ge_F_F m) 4002 x0 I J
  else if t = 2 then fRd_readUnary_F (ge_F_F m) x0 I J
  else if t = 3 then fRd_readAltered_F (ge_F_F m) x0 x1 I J
  else I
def ge_F_Q : Nat → Nat → Int32 → Int32 → (Nat → Nat → Int32) → (Nat → Nat → Int64) → Prop
  | 0, _, _, _, _, _ => False
  | m + 1, t, x0, x1, I, J =>
  if t = 0 then pRd_readExpression_F (ge_F_F m) (ge_F_Q m) x0 I J
  else if t = 1 then pRd_readOperands_F (ge_F_F m) (ge_F_Q m) 4002 x0 I J
  else if t = 2 then pRd_readUnary_F (ge_F_F m) (ge_F_Q m) x0 I J
  else if t = 3 then pRd_readAltered_F (ge_F_F m) (ge_F_Q m) x0 x1 I J
  else False
set_option maxHeartbeats 4000000 in
set_option maxRecDepth 100000 in
theorem ge_F_all (g : pmG) (d : Nat) (ex : List (Nat × Nat)) (R : Nat → Nat → Value) (hR : pk_R R) (hc : R 13 8 = .ref 10) : ∀ m : Nat, (∀ (x0 x1 : Int32) (I : Nat → Nat → Int32) (J : Nat → Nat → Int64), ge_F_Q m 0 x0 x1 I J → pmC g kRd_readExpression (d + m + 203) 0 0 [.ref 13, .int x0] (pk_K ++ ex, R, I, J) (.returned none) (pk_K ++ ex, R, ge_F_F m 0 x0 x1 I J, J)) ∧ (∀ (x0 x1 : Int32) (I : Nat → Nat → Int32) (J : Nat → Nat → Int64), ge_F_Q m 1 x0 x1 I J → pmC g kRd_readOperands (d + m + 203) 0 0 [.ref 13, .int x0] (pk_K ++ ex, R, I, J) (.returned none) (pk_K ++ ex, R, ge_F_F m 1 x0 x1 I J, J)) ∧ (∀ (x0 x1 : Int32) (I : Nat → Nat → Int32) (J : Nat → Nat → Int64), ge_F_Q m 2 x0 x1 I J → pmC g kRd_readUnary (d + m + 203) 0 0 [.ref 13, .int x0] (pk_K ++ ex, R, I, J) (.returned none) (pk_K ++ ex, R, ge_F_F m 2 x0 x1 I J, J)) ∧ (∀ (x0 x1 : Int32) (I : Nat → Nat → Int32) (J : Nat → Nat → Int64), ge_F_Q m 3 x0 x1 I J → pmC g kRd_readAltered (d + m + 203) 0 0 [.ref 13, .int x0, .int x1] (pk_K ++ ex, R, I, J) (.returned none) (pk_K ++ ex, R, ge_F_F m 3 x0 x1 I J, J)) := by
  intro m
  induction m with
  | zero => exact ⟨fun _ _ _ _ h => False.elim h, fun _ _ _ _ h => False.elim h, fun _ _ _ _ h => False.elim h, fun _ _ _ _ h => False.elim h⟩
  | succ m ih => exact ⟨fun x0 x1 I J h => Rd_readExpression_F_ok g (d + m) ex R hR hc (ge_F_F m) (ge_F_Q m) ih.1 ih.2.1 ih.2.2.1 ih.2.2.2  x0 I J h, fun x0 x1 I J h => Rd_readOperands_F_ok g (d + m) ex R hR hc (ge_F_F m) (ge_F_Q m) ih.1 ih.2.1 ih.2.2.1 ih.2.2.2 4002 x0 I J h, fun x0 x1 I J h => Rd_readUnary_F_ok g (d + m) ex R hR hc (ge_F_F m) (ge_F_Q m) ih.1 ih.2.1 ih.2.2.1 ih.2.2.2  x0 I J h, fun x0 x1 I J h => Rd_readAltered_F_ok g (d + m) ex R hR hc (ge_F_F m) (ge_F_Q m) ih.1 ih.2.1 ih.2.2.1 ih.2.2.2  x0 x1 I J h⟩
def fge_F_Rd_readExpression (x0 : Int32) (I : Nat → Nat → Int32) (J : Nat → Nat → Int64) : Nat → Nat → Int32 := ge_F_F 200 0 x0 0 I J
def pge_F_Rd_readExpression (x0 : Int32) (I : Nat → Nat → Int32) (J : Nat → Nat → Int64) : Prop := ge_F_Q 200 0 x0 0 I J
theorem ge_F_Rd_readExpression_ok (g : pmG) (d : Nat) (ex : List (Nat × Nat)) (R : Nat → Nat → Value) (hR : pk_R R) (hc : R 13 8 = .ref 10) (x0 : Int32) (I : Nat → Nat → Int32) (J : Nat → Nat → Int64) (hp : pge_F_Rd_readExpression x0 I J) : pmC g kRd_readExpression (d + 403) 0 0 [.ref 13, .int x0] (pk_K ++ ex, R, I, J) (.returned none) (pk_K ++ ex, R, fge_F_Rd_readExpression x0 I J, J) :=
  (ge_F_all g d ex R hR hc 200).1 x0 0 I J hp
