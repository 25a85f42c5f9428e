theorem yVa_90 : pm_Ly "CircuitChecker$Values" 90 := ⟨pm_in 503 (by decide +kernel) rfl, pm_in 434 (by decide +kernel) rfl, pm_in 433 (by decide +kernel) rfl, pm_in 11 (by decide +kernel) rfl⟩
theorem yCm_129 : pm_Ly "CircuitChecker$Claims" 129 := ⟨pm_in 432 (by decide +kernel) rfl, pm_in 434 (by decide +kernel) rfl, pm_in 433 (by decide +kernel) rfl, pm_in 11 (by decide +kernel) rfl⟩
def fVa_keep  (y1 : Int32) (I : Nat → Nat → Int32) (J : Nat → Nat → Int64) : (Nat → Nat → Int32) × (Nat → Nat → Int64) :=
  if (I 22 3) ≤ 0 then (I, J)
  else ((fVa_drop I (pm_cpJ J 23 (I 24 ((I 22 3) - (1 : Int32)).toNatClampNeg).toNatClampNeg ((fVa_rowOfName y1)).toNatClampNeg (I 22 4).toNatClampNeg)), pm_cpJ J 23 (I 24 ((I 22 3) - (1 : Int32)).toNatClampNeg).toNatClampNeg ((fVa_rowOfName y1)).toNatClampNeg (I 22 4).toNatClampNeg)
def pVa_keep  (y1 : Int32) (I : Nat → Nat → Int32) (J : Nat → Nat → Int64) : Prop :=
  ((I 22 3) ≤ 0 → True) ∧
  (¬ ((I 22 3) ≤ 0) → (vp_in ((I 22 3) - (1 : Int32)) 140) ∧ ((pVa_rowOfName y1) ∧ (((¬ (I 24 ((I 22 3) - (1 : Int32)).toNatClampNeg) < 0 ∧ ¬ ((fVa_rowOfName y1)) < 0 ∧ ¬ (I 22 4) < 0 ∧ (I 24 ((I 22 3) - (1 : Int32)).toNatClampNeg).toNatClampNeg + (I 22 4).toNatClampNeg ≤ 51200 ∧ ((fVa_rowOfName y1)).toNatClampNeg + (I 22 4).toNatClampNeg ≤ 51200)) ∧ ((pVa_drop I (pm_cpJ J 23 (I 24 ((I 22 3) - (1 : Int32)).toNatClampNeg).toNatClampNeg ((fVa_rowOfName y1)).toNatClampNeg (I 22 4).toNatClampNeg)) ∧ True))))
set_option maxHeartbeats 4000000 in
set_option maxRecDepth 100000 in
theorem Va_keep_n0 (g : pmG) (d : Nat) (ex : List (Nat × Nat)) (R : Nat → Nat → Value) (hR : pk_R R) (o : Outcome) (Z : pmM)  (y1 : Int32) (I : Nat → Nat → Int32) (J : Nat → Nat → Int64) (hp : pVa_keep y1 I J) (ho : o = .returned none) (hz : Z = (pk_K ++ ex, R, (fVa_keep y1 I J).1, (fVa_keep y1 I J).2)) : pmE g kVa_keep (d + 1) 0 0 0 [(0, .ref 22), (1, .int y1)] [] (pk_K ++ ex) R I J o Z := by
  unfold pVa_keep at hp
  refine pm_aload_n dVa_keep_0 rfl ?_
  refine pm_geti dVa_keep_1 fVa_24 rfl ?_
  refine pm_if_le 41 dVa_keep_4 (by decide) (fun h4 => ?_) (fun h4 => ?_)
  ·
    exact pm_vret dVa_keep_41 rfl ho (hz.trans (by first | (simp only [fVa_keep, if_pos h4]; done) | (simp only [fVa_keep, if_pos h4]; rfl) | rfl))
  ·
    refine pm_aload_n dVa_keep_7 rfl ?_
    refine pm_getr dVa_keep_8 fVa_12 rfl (rr_22_1 hR) ?_
    refine pm_aload_n dVa_keep_11 rfl ?_
    refine pm_getr dVa_keep_12 fVa_16 rfl (rr_22_2 hR) ?_
    refine pm_aload_n dVa_keep_15 rfl ?_
    refine pm_geti dVa_keep_16 fVa_24 rfl ?_
    refine pm_iconst (v := 1) dVa_keep_19 (by decide) ?_
    refine pm_isub dVa_keep_20 ?_
    refine pm_iald dVa_keep_21 rfl (hp.2 h4).1 ?_
    refine pm_aload_n dVa_keep_22 rfl ?_
    refine pm_getr dVa_keep_23 fVa_12 rfl (rr_22_1 hR) ?_
    refine pm_iload_n dVa_keep_26 rfl ?_
    refine pm_callS dVa_keep_27 lVa_49 tVa_rowOfName (Va_rowOfName_ok _ _ _ _ _ _ _ (hp.2 h4).2.1) rfl rfl (Nat.le_of_ble_eq_true rfl) (Nat.le_refl _) (Nat.le_refl _) ?_
    refine pm_aload_n dVa_keep_30 rfl ?_
    refine pm_geti dVa_keep_31 fVa_36 rfl ?_
    refine pm_copyl dVa_keep_34 yVa_90 rfl (hp.2 h4).2.2.1.1 (hp.2 h4).2.2.1.2.1 (hp.2 h4).2.2.1.2.2.1 (hp.2 h4).2.2.1.2.2.2.1 (hp.2 h4).2.2.1.2.2.2.2 (Nat.le_of_ble_eq_true rfl) ?_
    refine pm_aload_n dVa_keep_37 rfl ?_
    refine pm_callV dVa_keep_38 lVa_96 vVa_drop ⟨_, _, rfl⟩ (Va_drop_ok _ _ _ _ hR  _ _ (hp.2 h4).2.2.2.1) rfl rfl rfl (Nat.le_of_ble_eq_true rfl) (Nat.le_refl _) (Nat.le_refl _) ?_
    exact pm_vret dVa_keep_41 rfl ho (hz.trans (by first | (simp only [fVa_keep, if_neg h4]; done) | (simp only [fVa_keep, if_neg h4]; rfl) | rfl))
set_option maxHeartbeats 4000000 in
set_option maxRecDepth 100000 in
theorem Va_keep_ok (g : pmG) (d : Nat) (ex : List (Nat × Nat)) (R : Nat → Nat → Value) (hR : pk_R R)  (x0 : Int32) (I : Nat → Nat → Int32) (J : Nat → Nat → Int64) (hp : pVa_keep x0 I J) : pmC g kVa_keep (d + 1) 0 0 [.ref 22, .int x0] (pk_K ++ ex, R, I, J) (.returned none) (pk_K ++ ex, R, (fVa_keep x0 I J).1, (fVa_keep x0 I J).2) :=
  pmC.of (by decide) (Nat.le_of_ble_eq_true rfl) (Va_keep_n0 g d ex R hR _ _  x0 I J hp rfl rfl)
def fVa_alter_34  : Nat → Int32 → Int32 → Int32 → Int32 → (Nat → Nat → Int32) → (Nat → Nat → Int64) → (Nat → Nat → Int32) × (Nat → Nat → Int64)
  | 0, _, _, _, _, I, J => (I, J)
  | n + 1, y1, y2, y3, y4, I, J =>
  if (I 22 4) ≤ y4 then (pm_u I 24 ((I 22 3) - (1 : Int32)).toNatClampNeg y3, J)
  else fVa_alter_34 n y1 y2 y3 (y4 + Int32.ofInt 1) I (pm_u J 23 (y3 + y4).toNatClampNeg ((fLa_alter y1 (J 23 (y2 + y4).toNatClampNeg))))
def pVa_alter_34  : Nat → Int32 → Int32 → Int32 → Int32 → (Nat → Nat → Int32) → (Nat → Nat → Int64) → Prop
  | 0, _, _, _, _, _, _ => False
  | n + 1, y1, y2, y3, y4, I, J =>
  ((I 22 4) ≤ y4 → (vp_in ((I 22 3) - (1 : Int32)) 140) ∧ True) ∧
  (¬ ((I 22 4) ≤ y4) → (vp_in (y2 + y4) 51200) ∧ ((pLa_alter y1 (J 23 (y2 + y4).toNatClampNeg)) ∧ ((vp_in (y3 + y4) 51200) ∧ (pVa_alter_34 n y1 y2 y3 (y4 + Int32.ofInt 1) I (pm_u J 23 (y3 + y4).toNatClampNeg ((fLa_alter y1 (J 23 (y2 + y4).toNatClampNeg))))))))
def fVa_alter (n34 : Nat) (y1 : Int32) (I : Nat → Nat → Int32) (J : Nat → Nat → Int64) : (Nat → Nat → Int32) × (Nat → Nat → Int64) :=
  if (1 : Int32) ≤ (I 22 3) then fVa_alter_34 n34 y1 (I 24 ((I 22 3) - (1 : Int32)).toNatClampNeg) ((fVa_rowOfPlace ((I 22 3) - (1 : Int32)))) (0 : Int32) I J
  else (I, J)
def pVa_alter (n34 : Nat) (y1 : Int32) (I : Nat → Nat → Int32) (J : Nat → Nat → Int64) : Prop :=
  ((1 : Int32) ≤ (I 22 3) → (vp_in ((I 22 3) - (1 : Int32)) 140) ∧ ((pVa_rowOfPlace ((I 22 3) - (1 : Int32))) ∧ (pVa_alter_34 n34 y1 (I 24 ((I 22 3) - (1 : Int32)).toNatClampNeg) ((fVa_rowOfPlace ((I 22 3) - (1 : Int32)))) (0 : Int32) I J))) ∧
  (¬ ((1 : Int32) ≤ (I 22 3)) → True)
set_option maxHeartbeats 4000000 in
set_option maxRecDepth 100000 in
theorem Va_alter_n34 (g : pmG) (d : Nat) (ex : List (Nat × Nat)) (R : Nat → Nat → Value) (hR : pk_R R) (o : Outcome) (Z : pmM)  : ∀ (n : Nat) (y1 : Int32) (y2 : Int32) (y3 : Int32) (y4 : Int32) (I : Nat → Nat → Int32) (J : Nat → Nat → Int64), pVa_alter_34 n y1 y2 y3 y4 I J → o = .returned none → Z = (pk_K ++ ex, R, (fVa_alter_34 n y1 y2 y3 y4 I J).1, (fVa_alter_34 n y1 y2 y3 y4 I J).2) → pmE g kVa_alter (d + 3) 0 0 34 [(0, .ref 22), (1, .int y1), (2, .int y2), (3, .int y3), (4, .int y4)] [] (pk_K ++ ex) R I J o Z := by
  intro n
  induction n with
  | zero => intro y1 y2 y3 y4 I J hp; exact False.elim hp
  | succ n ih =>
  intro y1 y2 y3 y4 I J hp ho hz
  simp only [pVa_alter_34] at hp
  refine pm_iload dVa_alter_34 rfl ?_
  refine pm_aload_n dVa_alter_36 rfl ?_
  refine pm_geti dVa_alter_37 fVa_36 rfl ?_
  refine pm_icmp_ge 71 dVa_alter_40 (by decide) (fun h40 => ?_) (fun h40 => ?_)
  ·
    refine pm_aload_n dVa_alter_71 rfl ?_
    refine pm_getr dVa_alter_72 fVa_16 rfl (rr_22_2 hR) ?_
    refine pm_aload_n dVa_alter_75 rfl ?_
    refine pm_geti dVa_alter_76 fVa_24 rfl ?_
    refine pm_iconst (v := 1) dVa_alter_79 (by decide) ?_
    refine pm_isub dVa_alter_80 ?_
    refine pm_iload_n dVa_alter_81 rfl ?_
    refine pm_iast dVa_alter_82 rfl (hp.1 h40).1 ?_
    exact pm_vret dVa_alter_83 rfl ho (hz.trans (by first | (simp only [fVa_alter_34, if_pos h40]; done) | (simp only [fVa_alter_34, if_pos h40]; rfl) | rfl))
  ·
    refine pm_aload_n dVa_alter_43 rfl ?_
    refine pm_getr dVa_alter_44 fVa_12 rfl (rr_22_1 hR) ?_
    refine pm_iload_n dVa_alter_47 rfl ?_
    refine pm_iload dVa_alter_48 rfl ?_
    refine pm_iadd dVa_alter_50 ?_
    refine pm_iload_n dVa_alter_51 rfl ?_
    refine pm_aload_n dVa_alter_52 rfl ?_
    refine pm_getr dVa_alter_53 fVa_12 rfl (rr_22_1 hR) ?_
    refine pm_iload_n dVa_alter_56 rfl ?_
    refine pm_iload dVa_alter_57 rfl ?_
    refine pm_iadd dVa_alter_59 ?_
    refine pm_lald dVa_alter_60 rfl (hp.2 h40).1 ?_
    refine pm_callS dVa_alter_61 lVa_99 tLa_alter (La_alter_ok _ _ _ _ _ _ _ _ (hp.2 h40).2.1) rfl rfl (Nat.le_of_ble_eq_true rfl) (Nat.le_refl _) (Nat.le_refl _) ?_
    refine pm_last dVa_alter_64 rfl (hp.2 h40).2.2.1 ?_
    refine pm_iinc dVa_alter_65 rfl (by decide) rfl ?_
    refine pm_goto 34 dVa_alter_68 (by decide) ?_
    refine pm_wk [1, 2, 3, 4, 0] rfl ?_
    exact ih _ _ _ _ _ _ (hp.2 h40).2.2.2 ho (hz.trans (by first | (simp only [fVa_alter_34, if_neg h40]; done) | (simp only [fVa_alter_34, if_neg h40]; rfl) | rfl))
set_option maxHeartbeats 4000000 in
set_option maxRecDepth 100000 in
theorem Va_alter_n0 (g : pmG) (d : Nat) (ex : List (Nat × Nat)) (R : Nat → Nat → Value) (hR : pk_R R) (o : Outcome) (Z : pmM) (n34 : Nat) (y1 : Int32) (I : Nat → Nat → Int32) (J : Nat → Nat → Int64) (hp : pVa_alter n34 y1 I J) (ho : o = .returned none) (hz : Z = (pk_K ++ ex, R, (fVa_alter n34 y1 I J).1, (fVa_alter n34 y1 I J).2)) : pmE g kVa_alter (d + 3) 0 0 0 [(0, .ref 22), (1, .int y1)] [] (pk_K ++ ex) R I J o Z := by
  unfold pVa_alter at hp
  refine pm_aload_n dVa_alter_0 rfl ?_
  refine pm_geti dVa_alter_1 fVa_24 rfl ?_
  refine pm_iconst (v := 1) dVa_alter_4 (by decide) ?_
  refine pm_icmp_ge 9 dVa_alter_5 (by decide) (fun h5 => ?_) (fun h5 => ?_)
  ·
    refine pm_aload_n dVa_alter_9 rfl ?_
    refine pm_getr dVa_alter_10 fVa_16 rfl (rr_22_2 hR) ?_
    refine pm_aload_n dVa_alter_13 rfl ?_
    refine pm_geti dVa_alter_14 fVa_24 rfl ?_
    refine pm_iconst (v := 1) dVa_alter_17 (by decide) ?_
    refine pm_isub dVa_alter_18 ?_
    refine pm_iald dVa_alter_19 rfl (hp.1 h5).1 ?_
    refine pm_istore_n dVa_alter_20 (by decide) rfl ?_
    refine pm_aload_n dVa_alter_21 rfl ?_
    refine pm_geti dVa_alter_22 fVa_24 rfl ?_
    refine pm_iconst (v := 1) dVa_alter_25 (by decide) ?_
    refine pm_isub dVa_alter_26 ?_
    refine pm_callS dVa_alter_27 lVa_81 tVa_rowOfPlace (Va_rowOfPlace_ok _ _ _ _ _ _ _ (hp.1 h5).2.1) rfl rfl (Nat.le_of_ble_eq_true rfl) (Nat.le_refl _) (Nat.le_refl _) ?_
    refine pm_istore_n dVa_alter_30 (by decide) rfl ?_
    refine pm_iconst (v := 0) dVa_alter_31 (by decide) ?_
    refine pm_istore dVa_alter_32 (by decide) rfl ?_
    refine pm_wk [3, 4, 2, 1, 0] rfl ?_
    exact Va_alter_n34 g d ex R hR _ _  n34 _ _ _ _ _ _ (hp.1 h5).2.2 ho (hz.trans (by first | (simp only [fVa_alter, if_pos h5]; done) | (simp only [fVa_alter, if_pos h5]; rfl) | rfl))
  ·
    exact pm_vret dVa_alter_8 rfl ho (hz.trans (by first | (simp only [fVa_alter, if_neg h5]; done) | (simp only [fVa_alter, if_neg h5]; rfl) | rfl))
set_option maxHeartbeats 4000000 in
set_option maxRecDepth 100000 in
theorem Va_alter_ok (g : pmG) (d : Nat) (ex : List (Nat × Nat)) (R : Nat → Nat → Value) (hR : pk_R R) (n34 : Nat) (x0 : Int32) (I : Nat → Nat → Int32) (J : Nat → Nat → Int64) (hp : pVa_alter n34 x0 I J) : pmC g kVa_alter (d + 3) 0 0 [.ref 22, .int x0] (pk_K ++ ex, R, I, J) (.returned none) (pk_K ++ ex, R, (fVa_alter n34 x0 I J).1, (fVa_alter n34 x0 I J).2) :=
  pmC.of (by decide) (Nat.le_of_ble_eq_true rfl) (Va_alter_n0 g d ex R hR _ _ n34 x0 I J hp rfl rfl)
def fVa_join_47  : Nat → Int32 → Int32 → Int32 → Int32 → Int32 → (Nat → Nat → Int32) → (Nat → Nat → Int64) → (Nat → Nat → Int32) × (Nat → Nat → Int64)
  | 0, _, _, _, _, _, I, J => (I, J)
  | n + 1, y1, y2, y3, y4, y5, I, J =>
  if (I 22 4) ≤ y5 then (pm_u (pm_u I 22 3 ((I 22 3) - (1 : Int32))) 24 (((I 22 3) - (1 : Int32)) - (1 : Int32)).toNatClampNeg y4, J)
  else fVa_join_47 n y1 y2 y3 y4 (y5 + Int32.ofInt 1) I (pm_u J 23 (y4 + y5).toNatClampNeg ((fLa_join y1 (J 23 (y2 + y5).toNatClampNeg) (J 23 (y3 + y5).toNatClampNeg))))
def pVa_join_47  : Nat → Int32 → Int32 → Int32 → Int32 → Int32 → (Nat → Nat → Int32) → (Nat → Nat → Int64) → Prop
  | 0, _, _, _, _, _, _, _ => False
  | n + 1, y1, y2, y3, y4, y5, I, J =>
  ((I 22 4) ≤ y5 → (vp_in (((I 22 3) - (1 : Int32)) - (1 : Int32)) 140) ∧ True) ∧
  (¬ ((I 22 4) ≤ y5) → (vp_in (y2 + y5) 51200) ∧ ((vp_in (y3 + y5) 51200) ∧ ((pLa_join y1 (J 23 (y2 + y5).toNatClampNeg) (J 23 (y3 + y5).toNatClampNeg)) ∧ ((vp_in (y4 + y5) 51200) ∧ (pVa_join_47 n y1 y2 y3 y4 (y5 + Int32.ofInt 1) I (pm_u J 23 (y4 + y5).toNatClampNeg ((fLa_join y1 (J 23 (y2 + y5).toNatClampNeg) (J 23 (y3 + y5).toNatClampNeg)))))))))
def fVa_join (n47 : Nat) (y1 : Int32) (I : Nat → Nat → Int32) (J : Nat → Nat → Int64) : (Nat → Nat → Int32) × (Nat → Nat → Int64) :=
  if (2 : Int32) ≤ (I 22 3) then fVa_join_47 n47 y1 (I 24 ((I 22 3) - (2 : Int32)).toNatClampNeg) (I 24 ((I 22 3) - (1 : Int32)).toNatClampNeg) ((fVa_rowOfPlace ((I 22 3) - (2 : Int32)))) (0 : Int32) I J
  else (I, J)
def pVa_join (n47 : Nat) (y1 : Int32) (I : Nat → Nat → Int32) (J : Nat → Nat → Int64) : Prop :=
  ((2 : Int32) ≤ (I 22 3) → (vp_in ((I 22 3) - (2 : Int32)) 140) ∧ ((vp_in ((I 22 3) - (1 : Int32)) 140) ∧ ((pVa_rowOfPlace ((I 22 3) - (2 : Int32))) ∧ (pVa_join_47 n47 y1 (I 24 ((I 22 3) - (2 : Int32)).toNatClampNeg) (I 24 ((I 22 3) - (1 : Int32)).toNatClampNeg) ((fVa_rowOfPlace ((I 22 3) - (2 : Int32)))) (0 : Int32) I J)))) ∧
  (¬ ((2 : Int32) ≤ (I 22 3)) → True)
set_option maxHeartbeats 4000000 in
set_option maxRecDepth 100000 in
theorem Va_join_n47 (g : pmG) (d : Nat) (ex : List (Nat × Nat)) (R : Nat → Nat → Value) (hR : pk_R R) (o : Outcome) (Z : pmM)  : ∀ (n : Nat) (y1 : Int32) (y2 : Int32) (y3 : Int32) (y4 : Int32) (y5 : Int32) (I : Nat → Nat → Int32) (J : Nat → Nat → Int64), pVa_join_47 n y1 y2 y3 y4 y5 I J → o = .returned none → Z = (pk_K ++ ex, R, (fVa_join_47 n y1 y2 y3 y4 y5 I J).1, (fVa_join_47 n y1 y2 y3 y4 y5 I J).2) → pmE g kVa_join (d + 3) 0 0 47 [(0, .ref 22), (1, .int y1), (2, .int y2), (3, .int y3), (4, .int y4), (5, .int y5)] [] (pk_K ++ ex) R I J o Z := by
  intro n
  induction n with
  | zero => intro y1 y2 y3 y4 y5 I J hp; exact False.elim hp
  | succ n ih =>
  intro y1 y2 y3 y4 y5 I J hp ho hz
  simp only [pVa_join_47] at hp
  refine pm_iload dVa_join_47 rfl ?_
  refine pm_aload_n dVa_join_49 rfl ?_
  refine pm_geti dVa_join_50 fVa_36 rfl ?_
  refine pm_icmp_ge 94 dVa_join_53 (by decide) (fun h53 => ?_) (fun h53 => ?_)
  ·
    refine pm_aload_n dVa_join_94 rfl ?_
    refine pm_dup dVa_join_95 rfl ?_
    refine pm_geti dVa_join_96 fVa_24 rfl ?_
    refine pm_iconst (v := 1) dVa_join_99 (by decide) ?_
    refine pm_isub dVa_join_100 ?_
    refine pm_puti dVa_join_101 fVa_24 sVa_24 (fun h => by cases h) rfl rfl rfl ?_
    refine pm_aload_n dVa_join_104 rfl ?_
    refine pm_getr dVa_join_105 fVa_16 rfl (rr_22_2 hR) ?_
    refine pm_aload_n dVa_join_108 rfl ?_
    refine pm_geti dVa_join_109 fVa_24 rfl ?_
    refine pm_eqi ((I 22 3) - (1 : Int32)) rfl ?_
    refine pm_iconst (v := 1) dVa_join_112 (by decide) ?_
    refine pm_isub dVa_join_113 ?_
    refine pm_iload dVa_join_114 rfl ?_
    refine pm_iast dVa_join_116 rfl (hp.1 h53).1 ?_
    exact pm_vret dVa_join_117 rfl ho (hz.trans (by first | (simp only [fVa_join_47, if_pos h53]; done) | (simp only [fVa_join_47, if_pos h53]; rfl) | rfl))
  ·
    refine pm_aload_n dVa_join_56 rfl ?_
    refine pm_getr dVa_join_57 fVa_12 rfl (rr_22_1 hR) ?_
    refine pm_iload dVa_join_60 rfl ?_
    refine pm_iload dVa_join_62 rfl ?_
    refine pm_iadd dVa_join_64 ?_
    refine pm_iload_n dVa_join_65 rfl ?_
    refine pm_aload_n dVa_join_66 rfl ?_
    refine pm_getr dVa_join_67 fVa_12 rfl (rr_22_1 hR) ?_
    refine pm_iload_n dVa_join_70 rfl ?_
    refine pm_iload dVa_join_71 rfl ?_
    refine pm_iadd dVa_join_73 ?_
    refine pm_lald dVa_join_74 rfl (hp.2 h53).1 ?_
    refine pm_aload_n dVa_join_75 rfl ?_
    refine pm_getr dVa_join_76 fVa_12 rfl (rr_22_1 hR) ?_
    refine pm_iload_n dVa_join_79 rfl ?_
    refine pm_iload dVa_join_80 rfl ?_
    refine pm_iadd dVa_join_82 ?_
    refine pm_lald dVa_join_83 rfl (hp.2 h53).2.1 ?_
    refine pm_callS dVa_join_84 lVa_102 tLa_join (La_join_ok _ _ _ _ _ _ _ _ _ (hp.2 h53).2.2.1) rfl rfl (Nat.le_of_ble_eq_true rfl) (Nat.le_refl _) (Nat.le_refl _) ?_
    refine pm_last dVa_join_87 rfl (hp.2 h53).2.2.2.1 ?_
    refine pm_iinc dVa_join_88 rfl (by decide) rfl ?_
    refine pm_goto 47 dVa_join_91 (by decide) ?_
    refine pm_wk [1, 2, 3, 4, 5, 0] rfl ?_
    exact ih _ _ _ _ _ _ _ (hp.2 h53).2.2.2.2 ho (hz.trans (by first | (simp only [fVa_join_47, if_neg h53]; done) | (simp only [fVa_join_47, if_neg h53]; rfl) | rfl))
set_option maxHeartbeats 4000000 in
set_option maxRecDepth 100000 in
theorem Va_join_n0 (g : pmG) (d : Nat) (ex : List (Nat × Nat)) (R : Nat → Nat → Value) (hR : pk_R R) (o : Outcome) (Z : pmM) (n47 : Nat) (y1 : Int32) (I : Nat → Nat → Int32) (J : Nat → Nat → Int64) (hp : pVa_join n47 y1 I J) (ho : o = .returned none) (hz : Z = (pk_K ++ ex, R, (fVa_join n47 y1 I J).1, (fVa_join n47 y1 I J).2)) : pmE g kVa_join (d + 3) 0 0 0 [(0, .ref 22), (1, .int y1)] [] (pk_K ++ ex) R I J o Z := by
  unfold pVa_join at hp
  refine pm_aload_n dVa_join_0 rfl ?_
  refine pm_geti dVa_join_1 fVa_24 rfl ?_
  refine pm_iconst (v := 2) dVa_join_4 (by decide) ?_
  refine pm_icmp_ge 9 dVa_join_5 (by decide) (fun h5 => ?_) (fun h5 => ?_)
  ·
    refine pm_aload_n dVa_join_9 rfl ?_
    refine pm_getr dVa_join_10 fVa_16 rfl (rr_22_2 hR) ?_
    refine pm_aload_n dVa_join_13 rfl ?_
    refine pm_geti dVa_join_14 fVa_24 rfl ?_
    refine pm_iconst (v := 2) dVa_join_17 (by decide) ?_
    refine pm_isub dVa_join_18 ?_
    refine pm_iald dVa_join_19 rfl (hp.1 h5).1 ?_
    refine pm_istore_n dVa_join_20 (by decide) rfl ?_
    refine pm_aload_n dVa_join_21 rfl ?_
    refine pm_getr dVa_join_22 fVa_16 rfl (rr_22_2 hR) ?_
    refine pm_aload_n dVa_join_25 rfl ?_
    refine pm_geti dVa_join_26 fVa_24 rfl ?_
    refine pm_iconst (v := 1) dVa_join_29 (by decide) ?_
    refine pm_isub dVa_join_30 ?_
    refine pm_iald dVa_join_31 rfl (hp.1 h5).2.1 ?_
    refine pm_istore_n dVa_join_32 (by decide) rfl ?_
    refine pm_aload_n dVa_join_33 rfl ?_
    refine pm_geti dVa_join_34 fVa_24 rfl ?_
    refine pm_iconst (v := 2) dVa_join_37 (by decide) ?_
    refine pm_isub dVa_join_38 ?_
    refine pm_callS dVa_join_39 lVa_81 tVa_rowOfPlace (Va_rowOfPlace_ok _ _ _ _ _ _ _ (hp.1 h5).2.2.1) rfl rfl (Nat.le_of_ble_eq_true rfl) (Nat.le_refl _) (Nat.le_refl _) ?_
    refine pm_istore dVa_join_42 (by decide) rfl ?_
    refine pm_iconst (v := 0) dVa_join_44 (by decide) ?_
    refine pm_istore dVa_join_45 (by decide) rfl ?_
    refine pm_wk [4, 5, 3, 2, 1, 0] rfl ?_
    exact Va_join_n47 g d ex R hR _ _  n47 _ _ _ _ _ _ _ (hp.1 h5).2.2.2 ho (hz.trans (by first | (simp only [fVa_join, if_pos h5]; done) | (simp only [fVa_join, if_pos h5]; rfl) | rfl))
  ·
    exact pm_vret dVa_join_8 rfl ho (hz.trans (by first | (simp only [fVa_join, if_neg h5]; done) | (simp only [fVa_join, if_neg h5]; rfl) | rfl))
set_option maxHeartbeats 4000000 in
set_option maxRecDepth 100000 in
theorem Va_join_ok (g : pmG) (d : Nat) (ex : List (Nat × Nat)) (R : Nat → Nat → Value) (hR : pk_R R) (n47 : Nat) (x0 : Int32) (I : Nat → Nat → Int32) (J : Nat → Nat → Int64) (hp : pVa_join n47 x0 I J) : pmC g kVa_join (d + 3) 0 0 [.ref 22, .int x0] (pk_K ++ ex, R, I, J) (.returned none) (pk_K ++ ex, R, (fVa_join n47 x0 I J).1, (fVa_join n47 x0 I J).2) :=
  pmC.of (by decide) (Nat.le_of_ble_eq_true rfl) (Va_join_n0 g d ex R hR _ _ n47 x0 I J hp rfl rfl)
def fVa_choose_59  : Nat → Int32 → Int32 → Int32 → Int32 → Int32 → (Nat → Nat → Int32) → (Nat → Nat → Int64) → (Nat → Nat → Int32) × (Nat → Nat → Int64)
  | 0, _, _, _, _, _, I, J => (I, J)
  | n + 1, y1, y2, y3, y4, y5, I, J =>
  if (I 22 4) ≤ y5 then (pm_u (pm_u I 22 3 ((I 22 3) - (2 : Int32))) 24 (((I 22 3) - (2 : Int32)) - (1 : Int32)).toNatClampNeg y4, J)
  else fVa_choose_59 n y1 y2 y3 y4 (y5 + Int32.ofInt 1) I (pm_u J 23 (y4 + y5).toNatClampNeg ((fLa_choose (J 23 (y1 + y5).toNatClampNeg) (J 23 (y2 + y5).toNatClampNeg) (J 23 (y3 + y5).toNatClampNeg))))
def pVa_choose_59  : Nat → Int32 → Int32 → Int32 → Int32 → Int32 → (Nat → Nat → Int32) → (Nat → Nat → Int64) → Prop
  | 0, _, _, _, _, _, _, _ => False
  | n + 1, y1, y2, y3, y4, y5, I, J =>
  ((I 22 4) ≤ y5 → (vp_in (((I 22 3) - (2 : Int32)) - (1 : Int32)) 140) ∧ True) ∧
  (¬ ((I 22 4) ≤ y5) → (vp_in (y1 + y5) 51200) ∧ ((vp_in (y2 + y5) 51200) ∧ ((vp_in (y3 + y5) 51200) ∧ ((pLa_choose (J 23 (y1 + y5).toNatClampNeg) (J 23 (y2 + y5).toNatClampNeg) (J 23 (y3 + y5).toNatClampNeg)) ∧ ((vp_in (y4 + y5) 51200) ∧ (pVa_choose_59 n y1 y2 y3 y4 (y5 + Int32.ofInt 1) I (pm_u J 23 (y4 + y5).toNatClampNeg ((fLa_choose (J 23 (y1 + y5).toNatClampNeg) (J 23 (y2 + y5).toNatClampNeg) (J 23 (y3 + y5).toNatClampNeg))))))))))
def fVa_choose (n59 : Nat) (I : Nat → Nat → Int32) (J : Nat → Nat → Int64) : (Nat → Nat → Int32) × (Nat → Nat → Int64) :=
  if (3 : Int32) ≤ (I 22 3) then fVa_choose_59 n59 (I 24 ((I 22 3) - (3 : Int32)).toNatClampNeg) (I 24 ((I 22 3) - (2 : Int32)).toNatClampNeg) (I 24 ((I 22 3) - (1 : Int32)).toNatClampNeg) ((fVa_rowOfPlace ((I 22 3) - (3 : Int32)))) (0 : Int32) I J
  else (I, J)
def pVa_choose (n59 : Nat) (I : Nat → Nat → Int32) (J : Nat → Nat → Int64) : Prop :=
  ((3 : Int32) ≤ (I 22 3) → (vp_in ((I 22 3) - (3 : Int32)) 140) ∧ ((vp_in ((I 22 3) - (2 : Int32)) 140) ∧ ((vp_in ((I 22 3) - (1 : Int32)) 140) ∧ ((pVa_rowOfPlace ((I 22 3) - (3 : Int32))) ∧ (pVa_choose_59 n59 (I 24 ((I 22 3) - (3 : Int32)).toNatClampNeg) (I 24 ((I 22 3) - (2 : Int32)).toNatClampNeg) (I 24 ((I 22 3) - (1 : Int32)).toNatClampNeg) ((fVa_rowOfPlace ((I 22 3) - (3 : Int32)))) (0 : Int32) I J))))) ∧
  (¬ ((3 : Int32) ≤ (I 22 3)) → True)
set_option maxHeartbeats 4000000 in
set_option maxRecDepth 100000 in
theorem Va_choose_n59 (g : pmG) (d : Nat) (ex : List (Nat × Nat)) (R : Nat → Nat → Value) (hR : pk_R R) (o : Outcome) (Z : pmM)  : ∀ (n : Nat) (y1 : Int32) (y2 : Int32) (y3 : Int32) (y4 : Int32) (y5 : Int32) (I : Nat → Nat → Int32) (J : Nat → Nat → Int64), pVa_choose_59 n y1 y2 y3 y4 y5 I J → o = .returned none → Z = (pk_K ++ ex, R, (fVa_choose_59 n y1 y2 y3 y4 y5 I J).1, (fVa_choose_59 n y1 y2 y3 y4 y5 I J).2) → pmE g kVa_choose (d + 2) 0 0 59 [(0, .ref 22), (1, .int y1), (2, .int y2), (3, .int y3), (4, .int y4), (5, .int y5)] [] (pk_K ++ ex) R I J o Z := by
  intro n
  induction n with
  | zero => intro y1 y2 y3 y4 y5 I J hp; exact False.elim hp
  | succ n ih =>
  intro y1 y2 y3 y4 y5 I J hp ho hz
  simp only [pVa_choose_59] at hp
  refine pm_iload dVa_choose_59 rfl ?_
  refine pm_aload_n dVa_choose_61 rfl ?_
  refine pm_geti dVa_choose_62 fVa_36 rfl ?_
  refine pm_icmp_ge 114 dVa_choose_65 (by decide) (fun h65 => ?_) (fun h65 => ?_)
  ·
    refine pm_aload_n dVa_choose_114 rfl ?_
    refine pm_dup dVa_choose_115 rfl ?_
    refine pm_geti dVa_choose_116 fVa_24 rfl ?_
    refine pm_iconst (v := 2) dVa_choose_119 (by decide) ?_
    refine pm_isub dVa_choose_120 ?_
    refine pm_puti dVa_choose_121 fVa_24 sVa_24 (fun h => by cases h) rfl rfl rfl ?_
    refine pm_aload_n dVa_choose_124 rfl ?_
    refine pm_getr dVa_choose_125 fVa_16 rfl (rr_22_2 hR) ?_
    refine pm_aload_n dVa_choose_128 rfl ?_
    refine pm_geti dVa_choose_129 fVa_24 rfl ?_
    refine pm_eqi ((I 22 3) - (2 : Int32)) rfl ?_
    refine pm_iconst (v := 1) dVa_choose_132 (by decide) ?_
    refine pm_isub dVa_choose_133 ?_
    refine pm_iload dVa_choose_134 rfl ?_
    refine pm_iast dVa_choose_136 rfl (hp.1 h65).1 ?_
    exact pm_vret dVa_choose_137 rfl ho (hz.trans (by first | (simp only [fVa_choose_59, if_pos h65]; done) | (simp only [fVa_choose_59, if_pos h65]; rfl) | rfl))
  ·
    refine pm_aload_n dVa_choose_68 rfl ?_
    refine pm_getr dVa_choose_69 fVa_12 rfl (rr_22_1 hR) ?_
    refine pm_iload dVa_choose_72 rfl ?_
    refine pm_iload dVa_choose_74 rfl ?_
    refine pm_iadd dVa_choose_76 ?_
    refine pm_aload_n dVa_choose_77 rfl ?_
    refine pm_getr dVa_choose_78 fVa_12 rfl (rr_22_1 hR) ?_
    refine pm_iload_n dVa_choose_81 rfl ?_
    refine pm_iload dVa_choose_82 rfl ?_
    refine pm_iadd dVa_choose_84 ?_
    refine pm_lald dVa_choose_85 rfl (hp.2 h65).1 ?_
    refine pm_aload_n dVa_choose_86 rfl ?_
    refine pm_getr dVa_choose_87 fVa_12 rfl (rr_22_1 hR) ?_
    refine pm_iload_n dVa_choose_90 rfl ?_
    refine pm_iload dVa_choose_91 rfl ?_
    refine pm_iadd dVa_choose_93 ?_
    refine pm_lald dVa_choose_94 rfl (hp.2 h65).2.1 ?_
    refine pm_aload_n dVa_choose_95 rfl ?_
    refine pm_getr dVa_choose_96 fVa_12 rfl (rr_22_1 hR) ?_
    refine pm_iload_n dVa_choose_99 rfl ?_
    refine pm_iload dVa_choose_100 rfl ?_
    refine pm_iadd dVa_choose_102 ?_
    refine pm_lald dVa_choose_103 rfl (hp.2 h65).2.2.1 ?_
    refine pm_callS dVa_choose_104 lVa_105 tLa_choose (La_choose_ok _ _ _ _ _ _ _ _ _ (hp.2 h65).2.2.2.1) rfl rfl (Nat.le_of_ble_eq_true rfl) (Nat.le_refl _) (Nat.le_refl _) ?_
    refine pm_last dVa_choose_107 rfl (hp.2 h65).2.2.2.2.1 ?_
    refine pm_iinc dVa_choose_108 rfl (by decide) rfl ?_
    refine pm_goto 59 dVa_choose_111 (by decide) ?_
    refine pm_wk [1, 2, 3, 4, 5, 0] rfl ?_
    exact ih _ _ _ _ _ _ _ (hp.2 h65).2.2.2.2.2 ho (hz.trans (by first | (simp only [fVa_choose_59, if_neg h65]; done) | (simp only [fVa_choose_59, if_neg h65]; rfl) | rfl))
set_option maxHeartbeats 4000000 in
set_option maxRecDepth 100000 in
theorem Va_choose_n0 (g : pmG) (d : Nat) (ex : List (Nat × Nat)) (R : Nat → Nat → Value) (hR : pk_R R) (o : Outcome) (Z : pmM) (n59 : Nat) (I : Nat → Nat → Int32) (J : Nat → Nat → Int64) (hp : pVa_choose n59 I J) (ho : o = .returned none) (hz : Z = (pk_K ++ ex, R, (fVa_choose n59 I J).1, (fVa_choose n59 I J).2)) : pmE g kVa_choose (d + 2) 0 0 0 [(0, .ref 22)] [] (pk_K ++ ex) R I J o Z := by
  unfold pVa_choose at hp
  refine pm_aload_n dVa_choose_0 rfl ?_
  refine pm_geti dVa_choose_1 fVa_24 rfl ?_
  refine pm_iconst (v := 3) dVa_choose_4 (by decide) ?_
  refine pm_icmp_ge 9 dVa_choose_5 (by decide) (fun h5 => ?_) (fun h5 => ?_)
  ·
    refine pm_aload_n dVa_choose_9 rfl ?_
    refine pm_getr dVa_choose_10 fVa_16 rfl (rr_22_2 hR) ?_
    refine pm_aload_n dVa_choose_13 rfl ?_
    refine pm_geti dVa_choose_14 fVa_24 rfl ?_
    refine pm_iconst (v := 3) dVa_choose_17 (by decide) ?_
    refine pm_isub dVa_choose_18 ?_
    refine pm_iald dVa_choose_19 rfl (hp.1 h5).1 ?_
    refine pm_istore_n dVa_choose_20 (by decide) rfl ?_
    refine pm_aload_n dVa_choose_21 rfl ?_
    refine pm_getr dVa_choose_22 fVa_16 rfl (rr_22_2 hR) ?_
    refine pm_aload_n dVa_choose_25 rfl ?_
    refine pm_geti dVa_choose_26 fVa_24 rfl ?_
    refine pm_iconst (v := 2) dVa_choose_29 (by decide) ?_
    refine pm_isub dVa_choose_30 ?_
    refine pm_iald dVa_choose_31 rfl (hp.1 h5).2.1 ?_
    refine pm_istore_n dVa_choose_32 (by decide) rfl ?_
    refine pm_aload_n dVa_choose_33 rfl ?_
    refine pm_getr dVa_choose_34 fVa_16 rfl (rr_22_2 hR) ?_
    refine pm_aload_n dVa_choose_37 rfl ?_
    refine pm_geti dVa_choose_38 fVa_24 rfl ?_
    refine pm_iconst (v := 1) dVa_choose_41 (by decide) ?_
    refine pm_isub dVa_choose_42 ?_
    refine pm_iald dVa_choose_43 rfl (hp.1 h5).2.2.1 ?_
    refine pm_istore_n dVa_choose_44 (by decide) rfl ?_
    refine pm_aload_n dVa_choose_45 rfl ?_
    refine pm_geti dVa_choose_46 fVa_24 rfl ?_
    refine pm_iconst (v := 3) dVa_choose_49 (by decide) ?_
    refine pm_isub dVa_choose_50 ?_
    refine pm_callS dVa_choose_51 lVa_81 tVa_rowOfPlace (Va_rowOfPlace_ok _ _ _ _ _ _ _ (hp.1 h5).2.2.2.1) rfl rfl (Nat.le_of_ble_eq_true rfl) (Nat.le_refl _) (Nat.le_refl _) ?_
    refine pm_istore dVa_choose_54 (by decide) rfl ?_
    refine pm_iconst (v := 0) dVa_choose_56 (by decide) ?_
    refine pm_istore dVa_choose_57 (by decide) rfl ?_
    refine pm_wk [5, 4, 3, 2, 1, 0] rfl ?_
    exact Va_choose_n59 g d ex R hR _ _  n59 _ _ _ _ _ _ _ (hp.1 h5).2.2.2.2 ho (hz.trans (by first | (simp only [fVa_choose, if_pos h5]; done) | (simp only [fVa_choose, if_pos h5]; rfl) | rfl))
  ·
    exact pm_vret dVa_choose_8 rfl ho (hz.trans (by first | (simp only [fVa_choose, if_neg h5]; done) | (simp only [fVa_choose, if_neg h5]; rfl) | rfl))
set_option maxHeartbeats 4000000 in
set_option maxRecDepth 100000 in
theorem Va_choose_ok (g : pmG) (d : Nat) (ex : List (Nat × Nat)) (R : Nat → Nat → Value) (hR : pk_R R) (n59 : Nat)  (I : Nat → Nat → Int32) (J : Nat → Nat → Int64) (hp : pVa_choose n59 I J) : pmC g kVa_choose (d + 2) 0 0 [.ref 22] (pk_K ++ ex, R, I, J) (.returned none) (pk_K ++ ex, R, (fVa_choose n59 I J).1, (fVa_choose n59 I J).2) :=
  pmC.of (by decide) (Nat.le_of_ble_eq_true rfl) (Va_choose_n0 g d ex R hR _ _ n59  I J hp rfl rfl)
def fVa_perform_73  (y1 : Int32) (y2 : Int32) (I : Nat → Nat → Int32) (J : Nat → Nat → Int64) : (Nat → Nat → Int32) × (Nat → Nat → Int64) :=
  (I, J)
def pVa_perform_73  (y1 : Int32) (y2 : Int32) (I : Nat → Nat → Int32) (J : Nat → Nat → Int64) : Prop :=
  True
def fVa_perform_84  (y1 : Int32) (y2 : Int32) (I : Nat → Nat → Int32) (J : Nat → Nat → Int64) : (Nat → Nat → Int32) × (Nat → Nat → Int64) :=
  (I, J)
def pVa_perform_84  (y1 : Int32) (y2 : Int32) (I : Nat → Nat → Int32) (J : Nat → Nat → Int64) : Prop :=
  True
def fVa_perform_92  (y1 : Int32) (y2 : Int32) (I : Nat → Nat → Int32) (J : Nat → Nat → Int64) : (Nat → Nat → Int32) × (Nat → Nat → Int64) :=
  (I, J)
def pVa_perform_92  (y1 : Int32) (y2 : Int32) (I : Nat → Nat → Int32) (J : Nat → Nat → Int64) : Prop :=
  True
def fVa_perform_99  (y1 : Int32) (y2 : Int32) (I : Nat → Nat → Int32) (J : Nat → Nat → Int64) : (Nat → Nat → Int32) × (Nat → Nat → Int64) :=
  (I, J)
def pVa_perform_99  (y1 : Int32) (y2 : Int32) (I : Nat → Nat → Int32) (J : Nat → Nat → Int64) : Prop :=
  True
def fVa_perform_107  (y1 : Int32) (y2 : Int32) (I : Nat → Nat → Int32) (J : Nat → Nat → Int64) : (Nat → Nat → Int32) × (Nat → Nat → Int64) :=
  (I, J)
def pVa_perform_107  (y1 : Int32) (y2 : Int32) (I : Nat → Nat → Int32) (J : Nat → Nat → Int64) : Prop :=
  True
def fVa_perform  (y1 : Int32) (y2 : Int32) (I : Nat → Nat → Int32) (J : Nat → Nat → Int64) : (Nat → Nat → Int32) × (Nat → Nat → Int64) :=
  if y1 = 18 then fVa_perform_107 y1 y2 ((fVa_alter 257 y1 I J).1) ((fVa_alter 257 y1 I J).2)
  else if y1 = 19 then fVa_perform_107 y1 y2 ((fVa_alter 257 y1 I J).1) ((fVa_alter 257 y1 I J).2)
  else if y1 = 31 then fVa_perform_92 y1 y2 ((fVa_keep y2 I J).1) ((fVa_keep y2 I J).2)
  else if y1 = 43 then fVa_perform_84 y1 y2 ((fVa_push ((fVa_rowOfName y2)) I J)) J
  else if y1 = 44 then fVa_perform_73 y1 y2 ((fVa_pushNumber 257 y2 I J).1) ((fVa_pushNumber 257 y2 I J).2)
  else if y1 = 49 then fVa_perform_107 y1 y2 ((fVa_alter 257 y1 I J).1) ((fVa_alter 257 y1 I J).2)
  else if y1 = 50 then fVa_perform_99 y1 y2 ((fVa_choose 257 I J).1) ((fVa_choose 257 I J).2)
  else ((fVa_join 257 y1 I J).1, (fVa_join 257 y1 I J).2)
def pVa_perform  (y1 : Int32) (y2 : Int32) (I : Nat → Nat → Int32) (J : Nat → Nat → Int64) : Prop :=
  (y1 = 18 → (pVa_alter 257 y1 I J) ∧ (pVa_perform_107 y1 y2 ((fVa_alter 257 y1 I J).1) ((fVa_alter 257 y1 I J).2))) ∧
  (¬ (y1 = 18) → (y1 = 19 → (pVa_alter 257 y1 I J) ∧ (pVa_perform_107 y1 y2 ((fVa_alter 257 y1 I J).1) ((fVa_alter 257 y1 I J).2))) ∧
  (¬ (y1 = 19) → (y1 = 31 → (pVa_keep y2 I J) ∧ (pVa_perform_92 y1 y2 ((fVa_keep y2 I J).1) ((fVa_keep y2 I J).2))) ∧
  (¬ (y1 = 31) → (y1 = 43 → (pVa_rowOfName y2) ∧ ((pVa_push ((fVa_rowOfName y2)) I J) ∧ (pVa_perform_84 y1 y2 ((fVa_push ((fVa_rowOfName y2)) I J)) J))) ∧
  (¬ (y1 = 43) → (y1 = 44 → (pVa_pushNumber 257 y2 I J) ∧ (pVa_perform_73 y1 y2 ((fVa_pushNumber 257 y2 I J).1) ((fVa_pushNumber 257 y2 I J).2))) ∧
  (¬ (y1 = 44) → (y1 = 49 → (pVa_alter 257 y1 I J) ∧ (pVa_perform_107 y1 y2 ((fVa_alter 257 y1 I J).1) ((fVa_alter 257 y1 I J).2))) ∧
  (¬ (y1 = 49) → (y1 = 50 → (pVa_choose 257 I J) ∧ (pVa_perform_99 y1 y2 ((fVa_choose 257 I J).1) ((fVa_choose 257 I J).2))) ∧
  (¬ (y1 = 50) → (pVa_join 257 y1 I J) ∧ True)))))))
set_option maxHeartbeats 4000000 in
set_option maxRecDepth 100000 in
theorem Va_perform_n73 (g : pmG) (d : Nat) (ex : List (Nat × Nat)) (R : Nat → Nat → Value) (hR : pk_R R) (o : Outcome) (Z : pmM)  (y1 : Int32) (y2 : Int32) (I : Nat → Nat → Int32) (J : Nat → Nat → Int64) (hp : pVa_perform_73 y1 y2 I J) (ho : o = .returned none) (hz : Z = (pk_K ++ ex, R, (fVa_perform_73 y1 y2 I J).1, (fVa_perform_73 y1 y2 I J).2)) : pmE g kVa_perform (d + 4) 0 0 73 [(0, .ref 22), (1, .int y1), (2, .int y2)] [] (pk_K ++ ex) R I J o Z := by
  unfold pVa_perform_73 at hp
  refine pm_goto 115 dVa_perform_73 (by decide) ?_
  exact pm_vret dVa_perform_115 rfl ho (hz.trans (by first | rfl | (simp only [fVa_perform_73]; done) | (simp only [fVa_perform_73]; rfl)))
set_option maxHeartbeats 4000000 in
set_option maxRecDepth 100000 in
theorem Va_perform_n84 (g : pmG) (d : Nat) (ex : List (Nat × Nat)) (R : Nat → Nat → Value) (hR : pk_R R) (o : Outcome) (Z : pmM)  (y1 : Int32) (y2 : Int32) (I : Nat → Nat → Int32) (J : Nat → Nat → Int64) (hp : pVa_perform_84 y1 y2 I J) (ho : o = .returned none) (hz : Z = (pk_K ++ ex, R, (fVa_perform_84 y1 y2 I J).1, (fVa_perform_84 y1 y2 I J).2)) : pmE g kVa_perform (d + 4) 0 0 84 [(0, .ref 22), (1, .int y1), (2, .int y2)] [] (pk_K ++ ex) R I J o Z := by
  unfold pVa_perform_84 at hp
  refine pm_goto 115 dVa_perform_84 (by decide) ?_
  exact pm_vret dVa_perform_115 rfl ho (hz.trans (by first | rfl | (simp only [fVa_perform_84]; done) | (simp only [fVa_perform_84]; rfl)))
set_option maxHeartbeats 4000000 in
set_option maxRecDepth 100000 in
theorem Va_perform_n92 (g : pmG) (d : Nat) (ex : List (Nat × Nat)) (R : Nat → Nat → Value) (hR : pk_R R) (o : Outcome) (Z : pmM)  (y1 : Int32) (y2 : Int32) (I : Nat → Nat → Int32) (J : Nat → Nat → Int64) (hp : pVa_perform_92 y1 y2 I J) (ho : o = .returned none) (hz : Z = (pk_K ++ ex, R, (fVa_perform_92 y1 y2 I J).1, (fVa_perform_92 y1 y2 I J).2)) : pmE g kVa_perform (d + 4) 0 0 92 [(0, .ref 22), (1, .int y1), (2, .int y2)] [] (pk_K ++ ex) R I J o Z := by
  unfold pVa_perform_92 at hp
  refine pm_goto 115 dVa_perform_92 (by decide) ?_
  exact pm_vret dVa_perform_115 rfl ho (hz.trans (by first | rfl | (simp only [fVa_perform_92]; done) | (simp only [fVa_perform_92]; rfl)))
set_option maxHeartbeats 4000000 in
set_option maxRecDepth 100000 in
theorem Va_perform_n99 (g : pmG) (d : Nat) (ex : List (Nat × Nat)) (R : Nat → Nat → Value) (hR : pk_R R) (o : Outcome) (Z : pmM)  (y1 : Int32) (y2 : Int32) (I : Nat → Nat → Int32) (J : Nat → Nat → Int64) (hp : pVa_perform_99 y1 y2 I J) (ho : o = .returned none) (hz : Z = (pk_K ++ ex, R, (fVa_perform_99 y1 y2 I J).1, (fVa_perform_99 y1 y2 I J).2)) : pmE g kVa_perform (d + 4) 0 0 99 [(0, .ref 22), (1, .int y1), (2, .int y2)] [] (pk_K ++ ex) R I J o Z := by
  unfold pVa_perform_99 at hp
  refine pm_goto 115 dVa_perform_99 (by decide) ?_
  exact pm_vret dVa_perform_115 rfl ho (hz.trans (by first | rfl | (simp only [fVa_perform_99]; done) | (simp only [fVa_perform_99]; rfl)))
set_option maxHeartbeats 4000000 in
set_option maxRecDepth 100000 in
theorem Va_perform_n107 (g : pmG) (d : Nat) (ex : List (Nat × Nat)) (R : Nat → Nat → Value) (hR : pk_R R) (o : Outcome) (Z : pmM)  (y1 : Int32) (y2 : Int32) (I : Nat → Nat → Int32) (J : Nat → Nat → Int64) (hp : pVa_perform_107 y1 y2 I J) (ho : o = .returned none) (hz : Z = (pk_K ++ ex, R, (fVa_perform_107 y1 y2 I J).1, (fVa_perform_107 y1 y2 I J).2)) : pmE g kVa_perform (d + 4) 0 0 107 [(0, .ref 22), (1, .int y1), (2, .int y2)] [] (pk_K ++ ex) R I J o Z := by
  unfold pVa_perform_107 at hp
  refine pm_goto 115 dVa_perform_107 (by decide) ?_
  exact pm_vret dVa_perform_115 rfl ho (hz.trans (by first | rfl | (simp only [fVa_perform_107]; done) | (simp only [fVa_perform_107]; rfl)))
set_option maxHeartbeats 4000000 in
set_option maxRecDepth 100000 in
theorem Va_perform_n0 (g : pmG) (d : Nat) (ex : List (Nat × Nat)) (R : Nat → Nat → Value) (hR : pk_R R) (o : Outcome) (Z : pmM)  (y1 : Int32) (y2 : Int32) (I : Nat → Nat → Int32) (J : Nat → Nat → Int64) (hp : pVa_perform y1 y2 I J) (ho : o = .returned none) (hz : Z = (pk_K ++ ex, R, (fVa_perform y1 y2 I J).1, (fVa_perform y1 y2 I J).2)) : pmE g kVa_perform (d + 4) 0 0 0 [(0, .ref 22), (1, .int y1), (2, .int y2)] [] (pk_K ++ ex) R I J o Z := by
  unfold pVa_perform at hp
  refine pm_iload_n dVa_perform_0 rfl ?_
  by_cases h1_18 : y1 = 18
  ·
    refine pm_lookup 102 dVa_perform_1 (by decide) (by first | (rw [h1_18]; rfl) | rw [h1_18]) (by decide) ?_
    refine pm_aload_n dVa_perform_102 rfl ?_
    refine pm_iload_n dVa_perform_103 rfl ?_
    refine pm_callV dVa_perform_104 lVa_71 vVa_alter ⟨_, _, rfl⟩ (Va_alter_ok _ _ _ _ hR _ _ _ _ (hp.1 h1_18).1) rfl rfl rfl (Nat.le_of_ble_eq_true rfl) (Nat.le_refl _) (Nat.le_refl _) ?_
    refine pm_wk [0, 1, 2] rfl ?_
    exact Va_perform_n107 g d ex R hR _ _   _ _ _ _ (hp.1 h1_18).2 ho (hz.trans (by first | (simp only [fVa_perform, if_pos h1_18]; done) | (simp only [fVa_perform, if_pos h1_18]; rfl) | rfl))
  ·
    by_cases h1_19 : y1 = 19
    ·
      refine pm_lookup 102 dVa_perform_1 (by decide) (by first | (rw [h1_19]; rfl) | rw [h1_19]) (by decide) ?_
      refine pm_aload_n dVa_perform_102 rfl ?_
      refine pm_iload_n dVa_perform_103 rfl ?_
      refine pm_callV dVa_perform_104 lVa_71 vVa_alter ⟨_, _, rfl⟩ (Va_alter_ok _ _ _ _ hR _ _ _ _ ((hp.2 h1_18).1 h1_19).1) rfl rfl rfl (Nat.le_of_ble_eq_true rfl) (Nat.le_refl _) (Nat.le_refl _) ?_
      refine pm_wk [0, 1, 2] rfl ?_
      exact Va_perform_n107 g d ex R hR _ _   _ _ _ _ ((hp.2 h1_18).1 h1_19).2 ho (hz.trans (by first | (simp only [fVa_perform, if_neg h1_18, if_pos h1_19]; done) | (simp only [fVa_perform, if_neg h1_18, if_pos h1_19]; rfl) | rfl))
    ·
      by_cases h1_31 : y1 = 31
      ·
        refine pm_lookup 87 dVa_perform_1 (by decide) (by first | (rw [h1_31]; rfl) | rw [h1_31]) (by decide) ?_
        refine pm_aload_n dVa_perform_87 rfl ?_
        refine pm_iload_n dVa_perform_88 rfl ?_
        refine pm_callV dVa_perform_89 lVa_65 vVa_keep ⟨_, _, rfl⟩ (Va_keep_ok _ _ _ _ hR _ _ _ (((hp.2 h1_18).2 h1_19).1 h1_31).1) rfl rfl rfl (Nat.le_of_ble_eq_true rfl) (Nat.le_refl _) (Nat.le_refl _) ?_
        refine pm_wk [0, 1, 2] rfl ?_
        exact Va_perform_n92 g d ex R hR _ _   _ _ _ _ (((hp.2 h1_18).2 h1_19).1 h1_31).2 ho (hz.trans (by first | (simp only [fVa_perform, if_neg h1_18, if_neg h1_19, if_pos h1_31]; done) | (simp only [fVa_perform, if_neg h1_18, if_neg h1_19, if_pos h1_31]; rfl) | rfl))
      ·
        by_cases h1_43 : y1 = 43
        ·
          refine pm_lookup 76 dVa_perform_1 (by decide) (by first | (rw [h1_43]; rfl) | rw [h1_43]) (by decide) ?_
          refine pm_aload_n dVa_perform_76 rfl ?_
          refine pm_iload_n dVa_perform_77 rfl ?_
          refine pm_callS dVa_perform_78 lVa_49 tVa_rowOfName (Va_rowOfName_ok _ _ _ _ _ _ _ ((((hp.2 h1_18).2 h1_19).2 h1_31).1 h1_43).1) rfl rfl (Nat.le_of_ble_eq_true rfl) (Nat.le_refl _) (Nat.le_refl _) ?_
          refine pm_callV dVa_perform_81 lVa_62 vVa_push ⟨_, _, rfl⟩ (Va_push_ok _ _ _ _ hR _ _ _ ((((hp.2 h1_18).2 h1_19).2 h1_31).1 h1_43).2.1) rfl rfl rfl (Nat.le_of_ble_eq_true rfl) (Nat.le_refl _) (Nat.le_refl _) ?_
          refine pm_wk [0, 1, 2] rfl ?_
          exact Va_perform_n84 g d ex R hR _ _   _ _ _ _ ((((hp.2 h1_18).2 h1_19).2 h1_31).1 h1_43).2.2 ho (hz.trans (by first | (simp only [fVa_perform, if_neg h1_18, if_neg h1_19, if_neg h1_31, if_pos h1_43]; done) | (simp only [fVa_perform, if_neg h1_18, if_neg h1_19, if_neg h1_31, if_pos h1_43]; rfl) | rfl))
        ·
          by_cases h1_44 : y1 = 44
          ·
            refine pm_lookup 68 dVa_perform_1 (by decide) (by first | (rw [h1_44]; rfl) | rw [h1_44]) (by decide) ?_
            refine pm_aload_n dVa_perform_68 rfl ?_
            refine pm_iload_n dVa_perform_69 rfl ?_
            refine pm_callV dVa_perform_70 lVa_59 vVa_pushNumber ⟨_, _, rfl⟩ (Va_pushNumber_ok _ _ _ _ hR _ _ _ _ (((((hp.2 h1_18).2 h1_19).2 h1_31).2 h1_43).1 h1_44).1) rfl rfl rfl (Nat.le_of_ble_eq_true rfl) (Nat.le_refl _) (Nat.le_refl _) ?_
            refine pm_wk [0, 1, 2] rfl ?_
            exact Va_perform_n73 g d ex R hR _ _   _ _ _ _ (((((hp.2 h1_18).2 h1_19).2 h1_31).2 h1_43).1 h1_44).2 ho (hz.trans (by first | (simp only [fVa_perform, if_neg h1_18, if_neg h1_19, if_neg h1_31, if_neg h1_43, if_pos h1_44]; done) | (simp only [fVa_perform, if_neg h1_18, if_neg h1_19, if_neg h1_31, if_neg h1_43, if_pos h1_44]; rfl) | rfl))
          ·
            by_cases h1_49 : y1 = 49
            ·
              refine pm_lookup 102 dVa_perform_1 (by decide) (by first | (rw [h1_49]; rfl) | rw [h1_49]) (by decide) ?_
              refine pm_aload_n dVa_perform_102 rfl ?_
              refine pm_iload_n dVa_perform_103 rfl ?_
              refine pm_callV dVa_perform_104 lVa_71 vVa_alter ⟨_, _, rfl⟩ (Va_alter_ok _ _ _ _ hR _ _ _ _ ((((((hp.2 h1_18).2 h1_19).2 h1_31).2 h1_43).2 h1_44).1 h1_49).1) rfl rfl rfl (Nat.le_of_ble_eq_true rfl) (Nat.le_refl _) (Nat.le_refl _) ?_
              refine pm_wk [0, 1, 2] rfl ?_
              exact Va_perform_n107 g d ex R hR _ _   _ _ _ _ ((((((hp.2 h1_18).2 h1_19).2 h1_31).2 h1_43).2 h1_44).1 h1_49).2 ho (hz.trans (by first | (simp only [fVa_perform, if_neg h1_18, if_neg h1_19, if_neg h1_31, if_neg h1_43, if_neg h1_44, if_pos h1_49]; done) | (simp only [fVa_perform, if_neg h1_18, if_neg h1_19, if_neg h1_31, if_neg h1_43, if_neg h1_44, if_pos h1_49]; rfl) | rfl))
            ·
              by_cases h1_50 : y1 = 50
              ·
                refine pm_lookup 95 dVa_perform_1 (by decide) (by first | (rw [h1_50]; rfl) | rw [h1_50]) (by decide) ?_
                refine pm_aload_n dVa_perform_95 rfl ?_
                refine pm_callV dVa_perform_96 lVa_68 vVa_choose ⟨_, _, rfl⟩ (Va_choose_ok _ _ _ _ hR _ _ _ (((((((hp.2 h1_18).2 h1_19).2 h1_31).2 h1_43).2 h1_44).2 h1_49).1 h1_50).1) rfl rfl rfl (Nat.le_of_ble_eq_true rfl) (Nat.le_refl _) (Nat.le_refl _) ?_
                refine pm_wk [0, 1, 2] rfl ?_
                exact Va_perform_n99 g d ex R hR _ _   _ _ _ _ (((((((hp.2 h1_18).2 h1_19).2 h1_31).2 h1_43).2 h1_44).2 h1_49).1 h1_50).2 ho (hz.trans (by first | (simp only [fVa_perform, if_neg h1_18, if_neg h1_19, if_neg h1_31, if_neg h1_43, if_neg h1_44, if_neg h1_49, if_pos h1_50]; done) | (simp only [fVa_perform, if_neg h1_18, if_neg h1_19, if_neg h1_31, if_neg h1_43, if_neg h1_44, if_neg h1_49, if_pos h1_50]; rfl) | rfl))
              ·
                refine pm_lookup 110 dVa_perform_1 (by decide) (pm_lkD [18, 19, 31, 43, 44, 49, 50] rfl (by intro q9 hq9; simp only [List.mem_cons, List.not_mem_nil, or_false] at hq9; rcases hq9 with rfl | rfl | rfl | rfl | rfl | rfl | rfl <;> assumption)) (by decide) ?_
                refine pm_aload_n dVa_perform_110 rfl ?_
                refine pm_iload_n dVa_perform_111 rfl ?_
                refine pm_callV dVa_perform_112 lVa_74 vVa_join ⟨_, _, rfl⟩ (Va_join_ok _ _ _ _ hR _ _ _ _ (((((((hp.2 h1_18).2 h1_19).2 h1_31).2 h1_43).2 h1_44).2 h1_49).2 h1_50).1) rfl rfl rfl (Nat.le_of_ble_eq_true rfl) (Nat.le_refl _) (Nat.le_refl _) ?_
                exact pm_vret dVa_perform_115 rfl ho (hz.trans (by first | (simp only [fVa_perform, if_neg h1_18, if_neg h1_19, if_neg h1_31, if_neg h1_43, if_neg h1_44, if_neg h1_49, if_neg h1_50]; done) | (simp only [fVa_perform, if_neg h1_18, if_neg h1_19, if_neg h1_31, if_neg h1_43, if_neg h1_44, if_neg h1_49, if_neg h1_50]; rfl) | rfl))
set_option maxHeartbeats 4000000 in
set_option maxRecDepth 100000 in
theorem Va_perform_ok (g : pmG) (d : Nat) (ex : List (Nat × Nat)) (R : Nat → Nat → Value) (hR : pk_R R)  (x0 : Int32) (x1 : Int32) (I : Nat → Nat → Int32) (J : Nat → Nat → Int64) (hp : pVa_perform x0 x1 I J) : pmC g kVa_perform (d + 4) 0 0 [.ref 22, .int x0, .int x1] (pk_K ++ ex, R, I, J) (.returned none) (pk_K ++ ex, R, (fVa_perform x0 x1 I J).1, (fVa_perform x0 x1 I J).2) :=
  pmC.of (by decide) (Nat.le_of_ble_eq_true rfl) (Va_perform_n0 g d ex R hR _ _  x0 x1 I J hp rfl rfl)
