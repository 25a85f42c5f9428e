def fMo_reserved_126  (I : Nat → Nat → Int32) : Int32 × Int32 × Int32 × (Nat → Nat → Int32) :=
  (0, 0, (1 : Int32), I)
def pMo_reserved_126  (I : Nat → Nat → Int32) : Prop :=
  True
def fMo_reserved_123  (z0 : Int32) (I : Nat → Nat → Int32) : Int32 × Int32 × Int32 × (Nat → Nat → Int32) :=
  if z0 = 0 then (0, 0, (0 : Int32), I)
  else fMo_reserved_126 I
def pMo_reserved_123  (z0 : Int32) (I : Nat → Nat → Int32) : Prop :=
  (z0 = 0 → True) ∧
  (¬ (z0 = 0) → pMo_reserved_126 I)
def fMo_reserved_114  (z0 : Int32) (I : Nat → Nat → Int32) : Int32 × Int32 × Int32 × (Nat → Nat → Int32) :=
  if z0 = 0 then if (fMo_is_30 32 I).1 = 0 then fMo_reserved_123 ((fMo_is_30 32 I).2.2.1) ((fMo_is_30 32 I).2.2.2)
    else ((fMo_is_30 32 I).1, (fMo_is_30 32 I).2.1, 0, (fMo_is_30 32 I).2.2.2)
  else fMo_reserved_126 I
def pMo_reserved_114  (z0 : Int32) (I : Nat → Nat → Int32) : Prop :=
  (z0 = 0 → (pMo_is_30 32 I) ∧ ((fMo_is_30 32 I).1 = 0 → pMo_reserved_123 ((fMo_is_30 32 I).2.2.1) ((fMo_is_30 32 I).2.2.2))) ∧
  (¬ (z0 = 0) → pMo_reserved_126 I)
def fMo_reserved_105  (z0 : Int32) (I : Nat → Nat → Int32) : Int32 × Int32 × Int32 × (Nat → Nat → Int32) :=
  if z0 = 0 then if (fMo_is_29 32 I).1 = 0 then fMo_reserved_114 ((fMo_is_29 32 I).2.2.1) ((fMo_is_29 32 I).2.2.2)
    else ((fMo_is_29 32 I).1, (fMo_is_29 32 I).2.1, 0, (fMo_is_29 32 I).2.2.2)
  else fMo_reserved_126 I
def pMo_reserved_105  (z0 : Int32) (I : Nat → Nat → Int32) : Prop :=
  (z0 = 0 → (pMo_is_29 32 I) ∧ ((fMo_is_29 32 I).1 = 0 → pMo_reserved_114 ((fMo_is_29 32 I).2.2.1) ((fMo_is_29 32 I).2.2.2))) ∧
  (¬ (z0 = 0) → pMo_reserved_126 I)
def fMo_reserved_96  (z0 : Int32) (I : Nat → Nat → Int32) : Int32 × Int32 × Int32 × (Nat → Nat → Int32) :=
  if z0 = 0 then if (fMo_is_28 32 I).1 = 0 then fMo_reserved_105 ((fMo_is_28 32 I).2.2.1) ((fMo_is_28 32 I).2.2.2)
    else ((fMo_is_28 32 I).1, (fMo_is_28 32 I).2.1, 0, (fMo_is_28 32 I).2.2.2)
  else fMo_reserved_126 I
def pMo_reserved_96  (z0 : Int32) (I : Nat → Nat → Int32) : Prop :=
  (z0 = 0 → (pMo_is_28 32 I) ∧ ((fMo_is_28 32 I).1 = 0 → pMo_reserved_105 ((fMo_is_28 32 I).2.2.1) ((fMo_is_28 32 I).2.2.2))) ∧
  (¬ (z0 = 0) → pMo_reserved_126 I)
def fMo_reserved_87  (z0 : Int32) (I : Nat → Nat → Int32) : Int32 × Int32 × Int32 × (Nat → Nat → Int32) :=
  if z0 = 0 then if (fMo_is_27 32 I).1 = 0 then fMo_reserved_96 ((fMo_is_27 32 I).2.2.1) ((fMo_is_27 32 I).2.2.2)
    else ((fMo_is_27 32 I).1, (fMo_is_27 32 I).2.1, 0, (fMo_is_27 32 I).2.2.2)
  else fMo_reserved_126 I
def pMo_reserved_87  (z0 : Int32) (I : Nat → Nat → Int32) : Prop :=
  (z0 = 0 → (pMo_is_27 32 I) ∧ ((fMo_is_27 32 I).1 = 0 → pMo_reserved_96 ((fMo_is_27 32 I).2.2.1) ((fMo_is_27 32 I).2.2.2))) ∧
  (¬ (z0 = 0) → pMo_reserved_126 I)
def fMo_reserved_78  (z0 : Int32) (I : Nat → Nat → Int32) : Int32 × Int32 × Int32 × (Nat → Nat → Int32) :=
  if z0 = 0 then if (fMo_is_26 32 I).1 = 0 then fMo_reserved_87 ((fMo_is_26 32 I).2.2.1) ((fMo_is_26 32 I).2.2.2)
    else ((fMo_is_26 32 I).1, (fMo_is_26 32 I).2.1, 0, (fMo_is_26 32 I).2.2.2)
  else fMo_reserved_126 I
def pMo_reserved_78  (z0 : Int32) (I : Nat → Nat → Int32) : Prop :=
  (z0 = 0 → (pMo_is_26 32 I) ∧ ((fMo_is_26 32 I).1 = 0 → pMo_reserved_87 ((fMo_is_26 32 I).2.2.1) ((fMo_is_26 32 I).2.2.2))) ∧
  (¬ (z0 = 0) → pMo_reserved_126 I)
def fMo_reserved_69  (z0 : Int32) (I : Nat → Nat → Int32) : Int32 × Int32 × Int32 × (Nat → Nat → Int32) :=
  if z0 = 0 then if (fMo_is_25 32 I).1 = 0 then fMo_reserved_78 ((fMo_is_25 32 I).2.2.1) ((fMo_is_25 32 I).2.2.2)
    else ((fMo_is_25 32 I).1, (fMo_is_25 32 I).2.1, 0, (fMo_is_25 32 I).2.2.2)
  else fMo_reserved_126 I
def pMo_reserved_69  (z0 : Int32) (I : Nat → Nat → Int32) : Prop :=
  (z0 = 0 → (pMo_is_25 32 I) ∧ ((fMo_is_25 32 I).1 = 0 → pMo_reserved_78 ((fMo_is_25 32 I).2.2.1) ((fMo_is_25 32 I).2.2.2))) ∧
  (¬ (z0 = 0) → pMo_reserved_126 I)
def fMo_reserved_60  (z0 : Int32) (I : Nat → Nat → Int32) : Int32 × Int32 × Int32 × (Nat → Nat → Int32) :=
  if z0 = 0 then if (fMo_is_24 32 I).1 = 0 then fMo_reserved_69 ((fMo_is_24 32 I).2.2.1) ((fMo_is_24 32 I).2.2.2)
    else ((fMo_is_24 32 I).1, (fMo_is_24 32 I).2.1, 0, (fMo_is_24 32 I).2.2.2)
  else fMo_reserved_126 I
def pMo_reserved_60  (z0 : Int32) (I : Nat → Nat → Int32) : Prop :=
  (z0 = 0 → (pMo_is_24 32 I) ∧ ((fMo_is_24 32 I).1 = 0 → pMo_reserved_69 ((fMo_is_24 32 I).2.2.1) ((fMo_is_24 32 I).2.2.2))) ∧
  (¬ (z0 = 0) → pMo_reserved_126 I)
def fMo_reserved_51  (z0 : Int32) (I : Nat → Nat → Int32) : Int32 × Int32 × Int32 × (Nat → Nat → Int32) :=
  if z0 = 0 then if (fMo_is_23 32 I).1 = 0 then fMo_reserved_60 ((fMo_is_23 32 I).2.2.1) ((fMo_is_23 32 I).2.2.2)
    else ((fMo_is_23 32 I).1, (fMo_is_23 32 I).2.1, 0, (fMo_is_23 32 I).2.2.2)
  else fMo_reserved_126 I
def pMo_reserved_51  (z0 : Int32) (I : Nat → Nat → Int32) : Prop :=
  (z0 = 0 → (pMo_is_23 32 I) ∧ ((fMo_is_23 32 I).1 = 0 → pMo_reserved_60 ((fMo_is_23 32 I).2.2.1) ((fMo_is_23 32 I).2.2.2))) ∧
  (¬ (z0 = 0) → pMo_reserved_126 I)
def fMo_reserved_42  (z0 : Int32) (I : Nat → Nat → Int32) : Int32 × Int32 × Int32 × (Nat → Nat → Int32) :=
  if z0 = 0 then if (fMo_is_22 32 I).1 = 0 then fMo_reserved_51 ((fMo_is_22 32 I).2.2.1) ((fMo_is_22 32 I).2.2.2)
    else ((fMo_is_22 32 I).1, (fMo_is_22 32 I).2.1, 0, (fMo_is_22 32 I).2.2.2)
  else fMo_reserved_126 I
def pMo_reserved_42  (z0 : Int32) (I : Nat → Nat → Int32) : Prop :=
  (z0 = 0 → (pMo_is_22 32 I) ∧ ((fMo_is_22 32 I).1 = 0 → pMo_reserved_51 ((fMo_is_22 32 I).2.2.1) ((fMo_is_22 32 I).2.2.2))) ∧
  (¬ (z0 = 0) → pMo_reserved_126 I)
def fMo_reserved_33  (z0 : Int32) (I : Nat → Nat → Int32) : Int32 × Int32 × Int32 × (Nat → Nat → Int32) :=
  if z0 = 0 then if (fMo_is_21 32 I).1 = 0 then fMo_reserved_42 ((fMo_is_21 32 I).2.2.1) ((fMo_is_21 32 I).2.2.2)
    else ((fMo_is_21 32 I).1, (fMo_is_21 32 I).2.1, 0, (fMo_is_21 32 I).2.2.2)
  else fMo_reserved_126 I
def pMo_reserved_33  (z0 : Int32) (I : Nat → Nat → Int32) : Prop :=
  (z0 = 0 → (pMo_is_21 32 I) ∧ ((fMo_is_21 32 I).1 = 0 → pMo_reserved_42 ((fMo_is_21 32 I).2.2.1) ((fMo_is_21 32 I).2.2.2))) ∧
  (¬ (z0 = 0) → pMo_reserved_126 I)
def fMo_reserved_24  (z0 : Int32) (I : Nat → Nat → Int32) : Int32 × Int32 × Int32 × (Nat → Nat → Int32) :=
  if z0 = 0 then if (fMo_is_20 32 I).1 = 0 then fMo_reserved_33 ((fMo_is_20 32 I).2.2.1) ((fMo_is_20 32 I).2.2.2)
    else ((fMo_is_20 32 I).1, (fMo_is_20 32 I).2.1, 0, (fMo_is_20 32 I).2.2.2)
  else fMo_reserved_126 I
def pMo_reserved_24  (z0 : Int32) (I : Nat → Nat → Int32) : Prop :=
  (z0 = 0 → (pMo_is_20 32 I) ∧ ((fMo_is_20 32 I).1 = 0 → pMo_reserved_33 ((fMo_is_20 32 I).2.2.1) ((fMo_is_20 32 I).2.2.2))) ∧
  (¬ (z0 = 0) → pMo_reserved_126 I)
def fMo_reserved_15  (z0 : Int32) (I : Nat → Nat → Int32) : Int32 × Int32 × Int32 × (Nat → Nat → Int32) :=
  if z0 = 0 then if (fMo_is_19 32 I).1 = 0 then fMo_reserved_24 ((fMo_is_19 32 I).2.2.1) ((fMo_is_19 32 I).2.2.2)
    else ((fMo_is_19 32 I).1, (fMo_is_19 32 I).2.1, 0, (fMo_is_19 32 I).2.2.2)
  else fMo_reserved_126 I
def pMo_reserved_15  (z0 : Int32) (I : Nat → Nat → Int32) : Prop :=
  (z0 = 0 → (pMo_is_19 32 I) ∧ ((fMo_is_19 32 I).1 = 0 → pMo_reserved_24 ((fMo_is_19 32 I).2.2.1) ((fMo_is_19 32 I).2.2.2))) ∧
  (¬ (z0 = 0) → pMo_reserved_126 I)
def fMo_reserved_6  (z0 : Int32) (I : Nat → Nat → Int32) : Int32 × Int32 × Int32 × (Nat → Nat → Int32) :=
  if z0 = 0 then if (fMo_is_18 32 I).1 = 0 then fMo_reserved_15 ((fMo_is_18 32 I).2.2.1) ((fMo_is_18 32 I).2.2.2)
    else ((fMo_is_18 32 I).1, (fMo_is_18 32 I).2.1, 0, (fMo_is_18 32 I).2.2.2)
  else fMo_reserved_126 I
def pMo_reserved_6  (z0 : Int32) (I : Nat → Nat → Int32) : Prop :=
  (z0 = 0 → (pMo_is_18 32 I) ∧ ((fMo_is_18 32 I).1 = 0 → pMo_reserved_15 ((fMo_is_18 32 I).2.2.1) ((fMo_is_18 32 I).2.2.2))) ∧
  (¬ (z0 = 0) → pMo_reserved_126 I)
def fMo_reserved  (I : Nat → Nat → Int32) : Int32 × Int32 × Int32 × (Nat → Nat → Int32) :=
  if (fMo_is_17 32 I).1 = 0 then fMo_reserved_6 ((fMo_is_17 32 I).2.2.1) ((fMo_is_17 32 I).2.2.2)
  else ((fMo_is_17 32 I).1, (fMo_is_17 32 I).2.1, 0, (fMo_is_17 32 I).2.2.2)
def pMo_reserved  (I : Nat → Nat → Int32) : Prop :=
  (pMo_is_17 32 I) ∧ ((fMo_is_17 32 I).1 = 0 → pMo_reserved_6 ((fMo_is_17 32 I).2.2.1) ((fMo_is_17 32 I).2.2.2))
set_option maxHeartbeats 4000000 in
set_option maxRecDepth 100000 in
theorem Mo_reserved_n126 (g : pmG) (d : Nat) (ex : List (Nat × Nat)) (R : Nat → Nat → Value) (hR : mk_R R) (J : Nat → Nat → Int64) (o : Outcome) (Z : pmM) (rc rs : Nat)  (I : Nat → Nat → Int32) (hp : pMo_reserved_126 I) (hF : (o, Z, rc, rs) = pt_I (mk_K ++ ex) R J (fMo_reserved_126 I)) : pmE g kMo_reserved (d + 10) rc rs 126 [(0, .ref 40)] [] (mk_K ++ ex) R I J o Z := by
  unfold pMo_reserved_126 at hp
  refine pm_iconst (v := 1) dMo_reserved_126 (by decide) ?_
  refine pm_goto 131 dMo_reserved_127 (by decide) ?_
  exact pt_zret dMo_reserved_131 rfl (by first | rfl | decide) (hF.trans (by first | (simp only [fMo_reserved_126]; done) | (simp only [fMo_reserved_126]; rfl) | rfl))
set_option maxHeartbeats 4000000 in
set_option maxRecDepth 100000 in
theorem Mo_reserved_n123 (g : pmG) (d : Nat) (ex : List (Nat × Nat)) (R : Nat → Nat → Value) (hR : mk_R R) (J : Nat → Nat → Int64) (o : Outcome) (Z : pmM) (rc rs : Nat)  (z0 : Int32) (I : Nat → Nat → Int32) (hp : pMo_reserved_123 z0 I) (hF : (o, Z, rc, rs) = pt_I (mk_K ++ ex) R J (fMo_reserved_123 z0 I)) : pmE g kMo_reserved (d + 10) rc rs 123 [(0, .ref 40)] [.int z0] (mk_K ++ ex) R I J o Z := by
  unfold pMo_reserved_123 at hp
  refine pm_if_eq 130 dMo_reserved_123 (by decide) (fun h123 => ?_) (fun h123 => ?_)
  ·
    refine pm_iconst (v := 0) dMo_reserved_130 (by decide) ?_
    exact pt_zret dMo_reserved_131 rfl (by first | rfl | decide) (hF.trans (by first | (simp only [fMo_reserved_123, if_pos h123]; done) | (simp only [fMo_reserved_123, if_pos h123]; rfl) | rfl))
  ·
    refine pm_wk [0] rfl ?_
    exact Mo_reserved_n126 g d ex R hR J _ _ _ _   _ (hp.2 h123) (hF.trans (by first | (simp only [fMo_reserved_123, if_neg h123]; done) | (simp only [fMo_reserved_123, if_neg h123]; rfl) | rfl))
set_option maxHeartbeats 4000000 in
set_option maxRecDepth 100000 in
theorem Mo_reserved_n114 (g : pmG) (d : Nat) (ex : List (Nat × Nat)) (R : Nat → Nat → Value) (hR : mk_R R) (J : Nat → Nat → Int64) (o : Outcome) (Z : pmM) (rc rs : Nat)  (z0 : Int32) (I : Nat → Nat → Int32) (hp : pMo_reserved_114 z0 I) (hF : (o, Z, rc, rs) = pt_I (mk_K ++ ex) R J (fMo_reserved_114 z0 I)) : pmE g kMo_reserved (d + 10) rc rs 114 [(0, .ref 40)] [.int z0] (mk_K ++ ex) R I J o Z := by
  unfold pMo_reserved_114 at hp
  refine pm_if_ne 126 dMo_reserved_114 (by decide) (fun h114 => ?_) (fun h114 => ?_)
  ·
    refine pm_wk [0] rfl ?_
    exact Mo_reserved_n126 g d ex R hR J _ _ _ _   _ (hp.2 h114) (hF.trans (by first | (simp only [fMo_reserved_114, if_neg h114]; done) | (simp only [fMo_reserved_114, if_neg h114]; rfl) | rfl))
  ·
    refine pm_aload_n dMo_reserved_117 rfl ?_
    refine pm_ldcS dMo_reserved_118 zMo_255 ?_
    refine pt_callV (v2 := some (.int 0)) dMo_reserved_120 lMo_229 vMo_is ⟨_, _, rfl⟩ (Mo_is_30_ok _ _ _ _ hR _ _ _ (hp.1 h114).1) rfl rfl rfl (Nat.le_of_ble_eq_true rfl) (fun h120 => ?_) (fun h120 => hF.trans (by first | (simp only [fMo_reserved_114, if_pos h114, if_neg h120]; done) | (simp only [fMo_reserved_114, if_pos h114, if_neg h120]; rfl) | rfl))
    refine pm_wk [0] rfl ?_
    exact Mo_reserved_n123 g d ex R hR J _ _ _ _   _ _ ((hp.1 h114).2 h120) (hF.trans (by first | (simp only [fMo_reserved_114, if_pos h114, if_pos h120]; done) | (simp only [fMo_reserved_114, if_pos h114, if_pos h120]; rfl) | rfl))
set_option maxHeartbeats 4000000 in
set_option maxRecDepth 100000 in
theorem Mo_reserved_n105 (g : pmG) (d : Nat) (ex : List (Nat × Nat)) (R : Nat → Nat → Value) (hR : mk_R R) (J : Nat → Nat → Int64) (o : Outcome) (Z : pmM) (rc rs : Nat)  (z0 : Int32) (I : Nat → Nat → Int32) (hp : pMo_reserved_105 z0 I) (hF : (o, Z, rc, rs) = pt_I (mk_K ++ ex) R J (fMo_reserved_105 z0 I)) : pmE g kMo_reserved (d + 10) rc rs 105 [(0, .ref 40)] [.int z0] (mk_K ++ ex) R I J o Z := by
  unfold pMo_reserved_105 at hp
  refine pm_if_ne 126 dMo_reserved_105 (by decide) (fun h105 => ?_) (fun h105 => ?_)
  ·
    refine pm_wk [0] rfl ?_
    exact Mo_reserved_n126 g d ex R hR J _ _ _ _   _ (hp.2 h105) (hF.trans (by first | (simp only [fMo_reserved_105, if_neg h105]; done) | (simp only [fMo_reserved_105, if_neg h105]; rfl) | rfl))
  ·
    refine pm_aload_n dMo_reserved_108 rfl ?_
    refine pm_ldcS dMo_reserved_109 zMo_253 ?_
    refine pt_callV (v2 := some (.int 0)) dMo_reserved_111 lMo_229 vMo_is ⟨_, _, rfl⟩ (Mo_is_29_ok _ _ _ _ hR _ _ _ (hp.1 h105).1) rfl rfl rfl (Nat.le_of_ble_eq_true rfl) (fun h111 => ?_) (fun h111 => hF.trans (by first | (simp only [fMo_reserved_105, if_pos h105, if_neg h111]; done) | (simp only [fMo_reserved_105, if_pos h105, if_neg h111]; rfl) | rfl))
    refine pm_wk [0] rfl ?_
    exact Mo_reserved_n114 g d ex R hR J _ _ _ _   _ _ ((hp.1 h105).2 h111) (hF.trans (by first | (simp only [fMo_reserved_105, if_pos h105, if_pos h111]; done) | (simp only [fMo_reserved_105, if_pos h105, if_pos h111]; rfl) | rfl))
set_option maxHeartbeats 4000000 in
set_option maxRecDepth 100000 in
theorem Mo_reserved_n96 (g : pmG) (d : Nat) (ex : List (Nat × Nat)) (R : Nat → Nat → Value) (hR : mk_R R) (J : Nat → Nat → Int64) (o : Outcome) (Z : pmM) (rc rs : Nat)  (z0 : Int32) (I : Nat → Nat → Int32) (hp : pMo_reserved_96 z0 I) (hF : (o, Z, rc, rs) = pt_I (mk_K ++ ex) R J (fMo_reserved_96 z0 I)) : pmE g kMo_reserved (d + 10) rc rs 96 [(0, .ref 40)] [.int z0] (mk_K ++ ex) R I J o Z := by
  unfold pMo_reserved_96 at hp
  refine pm_if_ne 126 dMo_reserved_96 (by decide) (fun h96 => ?_) (fun h96 => ?_)
  ·
    refine pm_wk [0] rfl ?_
    exact Mo_reserved_n126 g d ex R hR J _ _ _ _   _ (hp.2 h96) (hF.trans (by first | (simp only [fMo_reserved_96, if_neg h96]; done) | (simp only [fMo_reserved_96, if_neg h96]; rfl) | rfl))
  ·
    refine pm_aload_n dMo_reserved_99 rfl ?_
    refine pm_ldcS dMo_reserved_100 zMo_251 ?_
    refine pt_callV (v2 := some (.int 0)) dMo_reserved_102 lMo_229 vMo_is ⟨_, _, rfl⟩ (Mo_is_28_ok _ _ _ _ hR _ _ _ (hp.1 h96).1) rfl rfl rfl (Nat.le_of_ble_eq_true rfl) (fun h102 => ?_) (fun h102 => hF.trans (by first | (simp only [fMo_reserved_96, if_pos h96, if_neg h102]; done) | (simp only [fMo_reserved_96, if_pos h96, if_neg h102]; rfl) | rfl))
    refine pm_wk [0] rfl ?_
    exact Mo_reserved_n105 g d ex R hR J _ _ _ _   _ _ ((hp.1 h96).2 h102) (hF.trans (by first | (simp only [fMo_reserved_96, if_pos h96, if_pos h102]; done) | (simp only [fMo_reserved_96, if_pos h96, if_pos h102]; rfl) | rfl))
set_option maxHeartbeats 4000000 in
set_option maxRecDepth 100000 in
theorem Mo_reserved_n87 (g : pmG) (d : Nat) (ex : List (Nat × Nat)) (R : Nat → Nat → Value) (hR : mk_R R) (J : Nat → Nat → Int64) (o : Outcome) (Z : pmM) (rc rs : Nat)  (z0 : Int32) (I : Nat → Nat → Int32) (hp : pMo_reserved_87 z0 I) (hF : (o, Z, rc, rs) = pt_I (mk_K ++ ex) R J (fMo_reserved_87 z0 I)) : pmE g kMo_reserved (d + 10) rc rs 87 [(0, .ref 40)] [.int z0] (mk_K ++ ex) R I J o Z := by
  unfold pMo_reserved_87 at hp
  refine pm_if_ne 126 dMo_reserved_87 (by decide) (fun h87 => ?_) (fun h87 => ?_)
  ·
    refine pm_wk [0] rfl ?_
    exact Mo_reserved_n126 g d ex R hR J _ _ _ _   _ (hp.2 h87) (hF.trans (by first | (simp only [fMo_reserved_87, if_neg h87]; done) | (simp only [fMo_reserved_87, if_neg h87]; rfl) | rfl))
  ·
    refine pm_aload_n dMo_reserved_90 rfl ?_
    refine pm_ldcS dMo_reserved_91 zMo_249 ?_
    refine pt_callV (v2 := some (.int 0)) dMo_reserved_93 lMo_229 vMo_is ⟨_, _, rfl⟩ (Mo_is_27_ok _ _ _ _ hR _ _ _ (hp.1 h87).1) rfl rfl rfl (Nat.le_of_ble_eq_true rfl) (fun h93 => ?_) (fun h93 => hF.trans (by first | (simp only [fMo_reserved_87, if_pos h87, if_neg h93]; done) | (simp only [fMo_reserved_87, if_pos h87, if_neg h93]; rfl) | rfl))
    refine pm_wk [0] rfl ?_
    exact Mo_reserved_n96 g d ex R hR J _ _ _ _   _ _ ((hp.1 h87).2 h93) (hF.trans (by first | (simp only [fMo_reserved_87, if_pos h87, if_pos h93]; done) | (simp only [fMo_reserved_87, if_pos h87, if_pos h93]; rfl) | rfl))
set_option maxHeartbeats 4000000 in
set_option maxRecDepth 100000 in
theorem Mo_reserved_n78 (g : pmG) (d : Nat) (ex : List (Nat × Nat)) (R : Nat → Nat → Value) (hR : mk_R R) (J : Nat → Nat → Int64) (o : Outcome) (Z : pmM) (rc rs : Nat)  (z0 : Int32) (I : Nat → Nat → Int32) (hp : pMo_reserved_78 z0 I) (hF : (o, Z, rc, rs) = pt_I (mk_K ++ ex) R J (fMo_reserved_78 z0 I)) : pmE g kMo_reserved (d + 10) rc rs 78 [(0, .ref 40)] [.int z0] (mk_K ++ ex) R I J o Z := by
  unfold pMo_reserved_78 at hp
  refine pm_if_ne 126 dMo_reserved_78 (by decide) (fun h78 => ?_) (fun h78 => ?_)
  ·
    refine pm_wk [0] rfl ?_
    exact Mo_reserved_n126 g d ex R hR J _ _ _ _   _ (hp.2 h78) (hF.trans (by first | (simp only [fMo_reserved_78, if_neg h78]; done) | (simp only [fMo_reserved_78, if_neg h78]; rfl) | rfl))
  ·
    refine pm_aload_n dMo_reserved_81 rfl ?_
    refine pm_ldcS dMo_reserved_82 zMo_247 ?_
    refine pt_callV (v2 := some (.int 0)) dMo_reserved_84 lMo_229 vMo_is ⟨_, _, rfl⟩ (Mo_is_26_ok _ _ _ _ hR _ _ _ (hp.1 h78).1) rfl rfl rfl (Nat.le_of_ble_eq_true rfl) (fun h84 => ?_) (fun h84 => hF.trans (by first | (simp only [fMo_reserved_78, if_pos h78, if_neg h84]; done) | (simp only [fMo_reserved_78, if_pos h78, if_neg h84]; rfl) | rfl))
    refine pm_wk [0] rfl ?_
    exact Mo_reserved_n87 g d ex R hR J _ _ _ _   _ _ ((hp.1 h78).2 h84) (hF.trans (by first | (simp only [fMo_reserved_78, if_pos h78, if_pos h84]; done) | (simp only [fMo_reserved_78, if_pos h78, if_pos h84]; rfl) | rfl))
set_option maxHeartbeats 4000000 in
set_option maxRecDepth 100000 in
theorem Mo_reserved_n69 (g : pmG) (d : Nat) (ex : List (Nat × Nat)) (R : Nat → Nat → Value) (hR : mk_R R) (J : Nat → Nat → Int64) (o : Outcome) (Z : pmM) (rc rs : Nat)  (z0 : Int32) (I : Nat → Nat → Int32) (hp : pMo_reserved_69 z0 I) (hF : (o, Z, rc, rs) = pt_I (mk_K ++ ex) R J (fMo_reserved_69 z0 I)) : pmE g kMo_reserved (d + 10) rc rs 69 [(0, .ref 40)] [.int z0] (mk_K ++ ex) R I J o Z := by
  unfold pMo_reserved_69 at hp
  refine pm_if_ne 126 dMo_reserved_69 (by decide) (fun h69 => ?_) (fun h69 => ?_)
  ·
    refine pm_wk [0] rfl ?_
    exact Mo_reserved_n126 g d ex R hR J _ _ _ _   _ (hp.2 h69) (hF.trans (by first | (simp only [fMo_reserved_69, if_neg h69]; done) | (simp only [fMo_reserved_69, if_neg h69]; rfl) | rfl))
  ·
    refine pm_aload_n dMo_reserved_72 rfl ?_
    refine pm_ldcS dMo_reserved_73 zMo_245 ?_
    refine pt_callV (v2 := some (.int 0)) dMo_reserved_75 lMo_229 vMo_is ⟨_, _, rfl⟩ (Mo_is_25_ok _ _ _ _ hR _ _ _ (hp.1 h69).1) rfl rfl rfl (Nat.le_of_ble_eq_true rfl) (fun h75 => ?_) (fun h75 => hF.trans (by first | (simp only [fMo_reserved_69, if_pos h69, if_neg h75]; done) | (simp only [fMo_reserved_69, if_pos h69, if_neg h75]; rfl) | rfl))
    refine pm_wk [0] rfl ?_
    exact Mo_reserved_n78 g d ex R hR J _ _ _ _   _ _ ((hp.1 h69).2 h75) (hF.trans (by first | (simp only [fMo_reserved_69, if_pos h69, if_pos h75]; done) | (simp only [fMo_reserved_69, if_pos h69, if_pos h75]; rfl) | rfl))
set_option maxHeartbeats 4000000 in
set_option maxRecDepth 100000 in
theorem Mo_reserved_n60 (g : pmG) (d : Nat) (ex : List (Nat × Nat)) (R : Nat → Nat → Value) (hR : mk_R R) (J : Nat → Nat → Int64) (o : Outcome) (Z : pmM) (rc rs : Nat)  (z0 : Int32) (I : Nat → Nat → Int32) (hp : pMo_reserved_60 z0 I) (hF : (o, Z, rc, rs) = pt_I (mk_K ++ ex) R J (fMo_reserved_60 z0 I)) : pmE g kMo_reserved (d + 10) rc rs 60 [(0, .ref 40)] [.int z0] (mk_K ++ ex) R I J o Z := by
  unfold pMo_reserved_60 at hp
  refine pm_if_ne 126 dMo_reserved_60 (by decide) (fun h60 => ?_) (fun h60 => ?_)
  ·
    refine pm_wk [0] rfl ?_
    exact Mo_reserved_n126 g d ex R hR J _ _ _ _   _ (hp.2 h60) (hF.trans (by first | (simp only [fMo_reserved_60, if_neg h60]; done) | (simp only [fMo_reserved_60, if_neg h60]; rfl) | rfl))
  ·
    refine pm_aload_n dMo_reserved_63 rfl ?_
    refine pm_ldcS dMo_reserved_64 zMo_243 ?_
    refine pt_callV (v2 := some (.int 0)) dMo_reserved_66 lMo_229 vMo_is ⟨_, _, rfl⟩ (Mo_is_24_ok _ _ _ _ hR _ _ _ (hp.1 h60).1) rfl rfl rfl (Nat.le_of_ble_eq_true rfl) (fun h66 => ?_) (fun h66 => hF.trans (by first | (simp only [fMo_reserved_60, if_pos h60, if_neg h66]; done) | (simp only [fMo_reserved_60, if_pos h60, if_neg h66]; rfl) | rfl))
    refine pm_wk [0] rfl ?_
    exact Mo_reserved_n69 g d ex R hR J _ _ _ _   _ _ ((hp.1 h60).2 h66) (hF.trans (by first | (simp only [fMo_reserved_60, if_pos h60, if_pos h66]; done) | (simp only [fMo_reserved_60, if_pos h60, if_pos h66]; rfl) | rfl))
set_option maxHeartbeats 4000000 in
set_option maxRecDepth 100000 in
theorem Mo_reserved_n51 (g : pmG) (d : Nat) (ex : List (Nat × Nat)) (R : Nat → Nat → Value) (hR : mk_R R) (J : Nat → Nat → Int64) (o : Outcome) (Z : pmM) (rc rs : Nat)  (z0 : Int32) (I : Nat → Nat → Int32) (hp : pMo_reserved_51 z0 I) (hF : (o, Z, rc, rs) = pt_I (mk_K ++ ex) R J (fMo_reserved_51 z0 I)) : pmE g kMo_reserved (d + 10) rc rs 51 [(0, .ref 40)] [.int z0] (mk_K ++ ex) R I J o Z := by
  unfold pMo_reserved_51 at hp
  refine pm_if_ne 126 dMo_reserved_51 (by decide) (fun h51 => ?_) (fun h51 => ?_)
  ·
    refine pm_wk [0] rfl ?_
    exact Mo_reserved_n126 g d ex R hR J _ _ _ _   _ (hp.2 h51) (hF.trans (by first | (simp only [fMo_reserved_51, if_neg h51]; done) | (simp only [fMo_reserved_51, if_neg h51]; rfl) | rfl))
  ·
    refine pm_aload_n dMo_reserved_54 rfl ?_
    refine pm_ldcS dMo_reserved_55 zMo_241 ?_
    refine pt_callV (v2 := some (.int 0)) dMo_reserved_57 lMo_229 vMo_is ⟨_, _, rfl⟩ (Mo_is_23_ok _ _ _ _ hR _ _ _ (hp.1 h51).1) rfl rfl rfl (Nat.le_of_ble_eq_true rfl) (fun h57 => ?_) (fun h57 => hF.trans (by first | (simp only [fMo_reserved_51, if_pos h51, if_neg h57]; done) | (simp only [fMo_reserved_51, if_pos h51, if_neg h57]; rfl) | rfl))
    refine pm_wk [0] rfl ?_
    exact Mo_reserved_n60 g d ex R hR J _ _ _ _   _ _ ((hp.1 h51).2 h57) (hF.trans (by first | (simp only [fMo_reserved_51, if_pos h51, if_pos h57]; done) | (simp only [fMo_reserved_51, if_pos h51, if_pos h57]; rfl) | rfl))
set_option maxHeartbeats 4000000 in
set_option maxRecDepth 100000 in
theorem Mo_reserved_n42 (g : pmG) (d : Nat) (ex : List (Nat × Nat)) (R : Nat → Nat → Value) (hR : mk_R R) (J : Nat → Nat → Int64) (o : Outcome) (Z : pmM) (rc rs : Nat)  (z0 : Int32) (I : Nat → Nat → Int32) (hp : pMo_reserved_42 z0 I) (hF : (o, Z, rc, rs) = pt_I (mk_K ++ ex) R J (fMo_reserved_42 z0 I)) : pmE g kMo_reserved (d + 10) rc rs 42 [(0, .ref 40)] [.int z0] (mk_K ++ ex) R I J o Z := by
  unfold pMo_reserved_42 at hp
  refine pm_if_ne 126 dMo_reserved_42 (by decide) (fun h42 => ?_) (fun h42 => ?_)
  ·
    refine pm_wk [0] rfl ?_
    exact Mo_reserved_n126 g d ex R hR J _ _ _ _   _ (hp.2 h42) (hF.trans (by first | (simp only [fMo_reserved_42, if_neg h42]; done) | (simp only [fMo_reserved_42, if_neg h42]; rfl) | rfl))
  ·
    refine pm_aload_n dMo_reserved_45 rfl ?_
    refine pm_ldcS dMo_reserved_46 zMo_239 ?_
    refine pt_callV (v2 := some (.int 0)) dMo_reserved_48 lMo_229 vMo_is ⟨_, _, rfl⟩ (Mo_is_22_ok _ _ _ _ hR _ _ _ (hp.1 h42).1) rfl rfl rfl (Nat.le_of_ble_eq_true rfl) (fun h48 => ?_) (fun h48 => hF.trans (by first | (simp only [fMo_reserved_42, if_pos h42, if_neg h48]; done) | (simp only [fMo_reserved_42, if_pos h42, if_neg h48]; rfl) | rfl))
    refine pm_wk [0] rfl ?_
    exact Mo_reserved_n51 g d ex R hR J _ _ _ _   _ _ ((hp.1 h42).2 h48) (hF.trans (by first | (simp only [fMo_reserved_42, if_pos h42, if_pos h48]; done) | (simp only [fMo_reserved_42, if_pos h42, if_pos h48]; rfl) | rfl))
set_option maxHeartbeats 4000000 in
set_option maxRecDepth 100000 in
theorem Mo_reserved_n33 (g : pmG) (d : Nat) (ex : List (Nat × Nat)) (R : Nat → Nat → Value) (hR : mk_R R) (J : Nat → Nat → Int64) (o : Outcome) (Z : pmM) (rc rs : Nat)  (z0 : Int32) (I : Nat → Nat → Int32) (hp : pMo_reserved_33 z0 I) (hF : (o, Z, rc, rs) = pt_I (mk_K ++ ex) R J (fMo_reserved_33 z0 I)) : pmE g kMo_reserved (d + 10) rc rs 33 [(0, .ref 40)] [.int z0] (mk_K ++ ex) R I J o Z := by
  unfold pMo_reserved_33 at hp
  refine pm_if_ne 126 dMo_reserved_33 (by decide) (fun h33 => ?_) (fun h33 => ?_)
  ·
    refine pm_wk [0] rfl ?_
    exact Mo_reserved_n126 g d ex R hR J _ _ _ _   _ (hp.2 h33) (hF.trans (by first | (simp only [fMo_reserved_33, if_neg h33]; done) | (simp only [fMo_reserved_33, if_neg h33]; rfl) | rfl))
  ·
    refine pm_aload_n dMo_reserved_36 rfl ?_
    refine pm_ldcS dMo_reserved_37 zMo_238 ?_
    refine pt_callV (v2 := some (.int 0)) dMo_reserved_39 lMo_229 vMo_is ⟨_, _, rfl⟩ (Mo_is_21_ok _ _ _ _ hR _ _ _ (hp.1 h33).1) rfl rfl rfl (Nat.le_of_ble_eq_true rfl) (fun h39 => ?_) (fun h39 => hF.trans (by first | (simp only [fMo_reserved_33, if_pos h33, if_neg h39]; done) | (simp only [fMo_reserved_33, if_pos h33, if_neg h39]; rfl) | rfl))
    refine pm_wk [0] rfl ?_
    exact Mo_reserved_n42 g d ex R hR J _ _ _ _   _ _ ((hp.1 h33).2 h39) (hF.trans (by first | (simp only [fMo_reserved_33, if_pos h33, if_pos h39]; done) | (simp only [fMo_reserved_33, if_pos h33, if_pos h39]; rfl) | rfl))
set_option maxHeartbeats 4000000 in
set_option maxRecDepth 100000 in
theorem Mo_reserved_n24 (g : pmG) (d : Nat) (ex : List (Nat × Nat)) (R : Nat → Nat → Value) (hR : mk_R R) (J : Nat → Nat → Int64) (o : Outcome) (Z : pmM) (rc rs : Nat)  (z0 : Int32) (I : Nat → Nat → Int32) (hp : pMo_reserved_24 z0 I) (hF : (o, Z, rc, rs) = pt_I (mk_K ++ ex) R J (fMo_reserved_24 z0 I)) : pmE g kMo_reserved (d + 10) rc rs 24 [(0, .ref 40)] [.int z0] (mk_K ++ ex) R I J o Z := by
  unfold pMo_reserved_24 at hp
  refine pm_if_ne 126 dMo_reserved_24 (by decide) (fun h24 => ?_) (fun h24 => ?_)
  ·
    refine pm_wk [0] rfl ?_
    exact Mo_reserved_n126 g d ex R hR J _ _ _ _   _ (hp.2 h24) (hF.trans (by first | (simp only [fMo_reserved_24, if_neg h24]; done) | (simp only [fMo_reserved_24, if_neg h24]; rfl) | rfl))
  ·
    refine pm_aload_n dMo_reserved_27 rfl ?_
    refine pm_ldcS dMo_reserved_28 zMo_236 ?_
    refine pt_callV (v2 := some (.int 0)) dMo_reserved_30 lMo_229 vMo_is ⟨_, _, rfl⟩ (Mo_is_20_ok _ _ _ _ hR _ _ _ (hp.1 h24).1) rfl rfl rfl (Nat.le_of_ble_eq_true rfl) (fun h30 => ?_) (fun h30 => hF.trans (by first | (simp only [fMo_reserved_24, if_pos h24, if_neg h30]; done) | (simp only [fMo_reserved_24, if_pos h24, if_neg h30]; rfl) | rfl))
    refine pm_wk [0] rfl ?_
    exact Mo_reserved_n33 g d ex R hR J _ _ _ _   _ _ ((hp.1 h24).2 h30) (hF.trans (by first | (simp only [fMo_reserved_24, if_pos h24, if_pos h30]; done) | (simp only [fMo_reserved_24, if_pos h24, if_pos h30]; rfl) | rfl))
set_option maxHeartbeats 4000000 in
set_option maxRecDepth 100000 in
theorem Mo_reserved_n15 (g : pmG) (d : Nat) (ex : List (Nat × Nat)) (R : Nat → Nat → Value) (hR : mk_R R) (J : Nat → Nat → Int64) (o : Outcome) (Z : pmM) (rc rs : Nat)  (z0 : Int32) (I : Nat → Nat → Int32) (hp : pMo_reserved_15 z0 I) (hF : (o, Z, rc, rs) = pt_I (mk_K ++ ex) R J (fMo_reserved_15 z0 I)) : pmE g kMo_reserved (d + 10) rc rs 15 [(0, .ref 40)] [.int z0] (mk_K ++ ex) R I J o Z := by
  unfold pMo_reserved_15 at hp
  refine pm_if_ne 126 dMo_reserved_15 (by decide) (fun h15 => ?_) (fun h15 => ?_)
  ·
    refine pm_wk [0] rfl ?_
    exact Mo_reserved_n126 g d ex R hR J _ _ _ _   _ (hp.2 h15) (hF.trans (by first | (simp only [fMo_reserved_15, if_neg h15]; done) | (simp only [fMo_reserved_15, if_neg h15]; rfl) | rfl))
  ·
    refine pm_aload_n dMo_reserved_18 rfl ?_
    refine pm_ldcS dMo_reserved_19 zMo_235 ?_
    refine pt_callV (v2 := some (.int 0)) dMo_reserved_21 lMo_229 vMo_is ⟨_, _, rfl⟩ (Mo_is_19_ok _ _ _ _ hR _ _ _ (hp.1 h15).1) rfl rfl rfl (Nat.le_of_ble_eq_true rfl) (fun h21 => ?_) (fun h21 => hF.trans (by first | (simp only [fMo_reserved_15, if_pos h15, if_neg h21]; done) | (simp only [fMo_reserved_15, if_pos h15, if_neg h21]; rfl) | rfl))
    refine pm_wk [0] rfl ?_
    exact Mo_reserved_n24 g d ex R hR J _ _ _ _   _ _ ((hp.1 h15).2 h21) (hF.trans (by first | (simp only [fMo_reserved_15, if_pos h15, if_pos h21]; done) | (simp only [fMo_reserved_15, if_pos h15, if_pos h21]; rfl) | rfl))
set_option maxHeartbeats 4000000 in
set_option maxRecDepth 100000 in
theorem Mo_reserved_n6 (g : pmG) (d : Nat) (ex : List (Nat × Nat)) (R : Nat → Nat → Value) (hR : mk_R R) (J : Nat → Nat → Int64) (o : Outcome) (Z : pmM) (rc rs : Nat)  (z0 : Int32) (I : Nat → Nat → Int32) (hp : pMo_reserved_6 z0 I) (hF : (o, Z, rc, rs) = pt_I (mk_K ++ ex) R J (fMo_reserved_6 z0 I)) : pmE g kMo_reserved (d + 10) rc rs 6 [(0, .ref 40)] [.int z0] (mk_K ++ ex) R I J o Z := by
  unfold pMo_reserved_6 at hp
  refine pm_if_ne 126 dMo_reserved_6 (by decide) (fun h6 => ?_) (fun h6 => ?_)
  ·
    refine pm_wk [0] rfl ?_
    exact Mo_reserved_n126 g d ex R hR J _ _ _ _   _ (hp.2 h6) (hF.trans (by first | (simp only [fMo_reserved_6, if_neg h6]; done) | (simp only [fMo_reserved_6, if_neg h6]; rfl) | rfl))
  ·
    refine pm_aload_n dMo_reserved_9 rfl ?_
    refine pm_ldcS dMo_reserved_10 zMo_233 ?_
    refine pt_callV (v2 := some (.int 0)) dMo_reserved_12 lMo_229 vMo_is ⟨_, _, rfl⟩ (Mo_is_18_ok _ _ _ _ hR _ _ _ (hp.1 h6).1) rfl rfl rfl (Nat.le_of_ble_eq_true rfl) (fun h12 => ?_) (fun h12 => hF.trans (by first | (simp only [fMo_reserved_6, if_pos h6, if_neg h12]; done) | (simp only [fMo_reserved_6, if_pos h6, if_neg h12]; rfl) | rfl))
    refine pm_wk [0] rfl ?_
    exact Mo_reserved_n15 g d ex R hR J _ _ _ _   _ _ ((hp.1 h6).2 h12) (hF.trans (by first | (simp only [fMo_reserved_6, if_pos h6, if_pos h12]; done) | (simp only [fMo_reserved_6, if_pos h6, if_pos h12]; rfl) | rfl))
set_option maxHeartbeats 4000000 in
set_option maxRecDepth 100000 in
theorem Mo_reserved_n0 (g : pmG) (d : Nat) (ex : List (Nat × Nat)) (R : Nat → Nat → Value) (hR : mk_R R) (J : Nat → Nat → Int64) (o : Outcome) (Z : pmM) (rc rs : Nat)  (I : Nat → Nat → Int32) (hp : pMo_reserved I) (hF : (o, Z, rc, rs) = pt_I (mk_K ++ ex) R J (fMo_reserved I)) : pmE g kMo_reserved (d + 10) rc rs 0 [(0, .ref 40)] [] (mk_K ++ ex) R I J o Z := by
  unfold pMo_reserved at hp
  refine pm_aload_n dMo_reserved_0 rfl ?_
  refine pm_ldcS dMo_reserved_1 zMo_227 ?_
  refine pt_callV (v2 := some (.int 0)) dMo_reserved_3 lMo_229 vMo_is ⟨_, _, rfl⟩ (Mo_is_17_ok _ _ _ _ hR _ _ _ hp.1) rfl rfl rfl (Nat.le_of_ble_eq_true rfl) (fun h3 => ?_) (fun h3 => hF.trans (by first | (simp only [fMo_reserved, if_neg h3]; done) | (simp only [fMo_reserved, if_neg h3]; rfl) | rfl))
  refine pm_wk [0] rfl ?_
  exact Mo_reserved_n6 g d ex R hR J _ _ _ _   _ _ (hp.2 h3) (hF.trans (by first | (simp only [fMo_reserved, if_pos h3]; done) | (simp only [fMo_reserved, if_pos h3]; rfl) | rfl))
set_option maxHeartbeats 4000000 in
set_option maxRecDepth 100000 in
theorem Mo_reserved_ok (g : pmG) (d : Nat) (ex : List (Nat × Nat)) (R : Nat → Nat → Value) (hR : mk_R R)   (I : Nat → Nat → Int32) (J : Nat → Nat → Int64) (hp : pMo_reserved I) : pmT g kMo_reserved (d + 10) [.ref 40] (mk_K ++ ex, R, I, J) (pt_I (mk_K ++ ex) R J (fMo_reserved I)) :=
  pmC.of (by decide) (Nat.le_of_ble_eq_true rfl) (Mo_reserved_n0 g d ex R hR J _ _ _ _   I hp rfl)
def fMo_number_62  (y1 : Int32) (y2 : Int32) (y3 : Int32) (y4 : Int32) (I : Nat → Nat → Int32) : Int32 × Int32 × Int32 × (Nat → Nat → Int32) :=
  (3, I 40 7, 0, I)
def pMo_number_62  (y1 : Int32) (y2 : Int32) (y3 : Int32) (y4 : Int32) (I : Nat → Nat → Int32) : Prop :=
  True
def fMo_number_79  (y1 : Int32) (y2 : Int32) (y3 : Int32) (y4 : Int32) (I : Nat → Nat → Int32) : Int32 × Int32 × Int32 × (Nat → Nat → Int32) :=
  (0, 0, y3, I)
def pMo_number_79  (y1 : Int32) (y2 : Int32) (y3 : Int32) (y4 : Int32) (I : Nat → Nat → Int32) : Prop :=
  True
def fMo_number_21  : Nat → Int32 → Int32 → Int32 → Int32 → (Nat → Nat → Int32) → Int32 × Int32 × Int32 × (Nat → Nat → Int32)
  | 0, _, _, _, _, I => (0, 0, 0, I)
  | n + 1, y1, y2, y3, y4, I =>
  if (I 40 8) ≤ y4 then if y3 < y1 then fMo_number_62 y1 y2 y3 y4 I
    else if y3 ≤ y2 then if (fMo_take I).1 = 0 then fMo_number_79 y1 y2 y3 y4 ((fMo_take I).2.2)
        else ((fMo_take I).1, (fMo_take I).2.1, 0, (fMo_take I).2.2)
      else fMo_number_62 y1 y2 y3 y4 I
  else fMo_number_21 n y1 y2 ((((10 : Int32) * y3) + (I 41 y4.toNatClampNeg)) - (48 : Int32)) (y4 + Int32.ofInt 1) I
def pMo_number_21  : Nat → Int32 → Int32 → Int32 → Int32 → (Nat → Nat → Int32) → Prop
  | 0, _, _, _, _, _ => False
  | n + 1, y1, y2, y3, y4, I =>
  ((I 40 8) ≤ y4 → (y3 < y1 → pMo_number_62 y1 y2 y3 y4 I) ∧
    (¬ (y3 < y1) → (y3 ≤ y2 → (pMo_take I) ∧ ((fMo_take I).1 = 0 → pMo_number_79 y1 y2 y3 y4 ((fMo_take I).2.2))) ∧
      (¬ (y3 ≤ y2) → pMo_number_62 y1 y2 y3 y4 I))) ∧
  (¬ ((I 40 8) ≤ y4) → (vp_in y4 65536) ∧ (pMo_number_21 n y1 y2 ((((10 : Int32) * y3) + (I 41 y4.toNatClampNeg)) - (48 : Int32)) (y4 + Int32.ofInt 1) I))
def fMo_number_4 (n21 : Nat) (y1 : Int32) (y2 : Int32) (z0 : Int32) (I : Nat → Nat → Int32) : Int32 × Int32 × Int32 × (Nat → Nat → Int32) :=
  if z0 = (2 : Int32) then fMo_number_21 n21 y1 y2 (0 : Int32) (I 40 7) I
  else ((fMo_cant I).1, (fMo_cant I).2.1, 0, (fMo_cant I).2.2)
def pMo_number_4 (n21 : Nat) (y1 : Int32) (y2 : Int32) (z0 : Int32) (I : Nat → Nat → Int32) : Prop :=
  (z0 = (2 : Int32) → pMo_number_21 n21 y1 y2 (0 : Int32) (I 40 7) I) ∧
  (¬ (z0 = (2 : Int32)) → pMo_cant I)
def fMo_number (n21 : Nat) (y1 : Int32) (y2 : Int32) (I : Nat → Nat → Int32) : Int32 × Int32 × Int32 × (Nat → Nat → Int32) :=
  if (fMo_peek 65537 65537 I).1 = 0 then fMo_number_4 n21 y1 y2 ((fMo_peek 65537 65537 I).2.2.1) ((fMo_peek 65537 65537 I).2.2.2)
  else ((fMo_peek 65537 65537 I).1, (fMo_peek 65537 65537 I).2.1, 0, (fMo_peek 65537 65537 I).2.2.2)
def pMo_number (n21 : Nat) (y1 : Int32) (y2 : Int32) (I : Nat → Nat → Int32) : Prop :=
  (pMo_peek 65537 65537 I) ∧ ((fMo_peek 65537 65537 I).1 = 0 → pMo_number_4 n21 y1 y2 ((fMo_peek 65537 65537 I).2.2.1) ((fMo_peek 65537 65537 I).2.2.2))
set_option maxHeartbeats 4000000 in
set_option maxRecDepth 100000 in
theorem Mo_number_n62 (g : pmG) (d : Nat) (ex : List (Nat × Nat)) (R : Nat → Nat → Value) (hR : mk_R R) (J : Nat → Nat → Int64) (o : Outcome) (Z : pmM) (rc rs : Nat)  (y1 : Int32) (y2 : Int32) (y3 : Int32) (y4 : Int32) (I : Nat → Nat → Int32) (hp : pMo_number_62 y1 y2 y3 y4 I) (hF : (o, Z, rc, rs) = pt_I (mk_K ++ ex) R J (fMo_number_62 y1 y2 y3 y4 I)) : pmE g kMo_number (d + 10) rc rs 62 [(0, .ref 40), (1, .int y1), (2, .int y2), (3, .int y3), (4, .int y4)] [] (mk_K ++ ex) R I J o Z := by
  unfold pMo_number_62 at hp
  refine pt_wr (e := 3) (w := (I 40 7)) (v2 := some (.int 0)) dMo_number_62 dMo_number_65 nMo_187 (by decide) (hF.trans (by first | (simp only [fMo_number_62]; done) | (simp only [fMo_number_62]; rfl) | rfl)) ?_
  refine pm_iconst (v := 3) dMo_number_66 (by decide) ?_
  refine pm_aload_n dMo_number_67 rfl ?_
  refine pm_geti dMo_number_68 fMo_33 rfl ?_
  refine pm_eqi (I 40 7) (congrFun (pm_z_n _ _ (mk_ne ex)) _) ?_
  exact pt_wi dMo_number_71 lMo_189 dMo_number_74 (by decide +kernel) (Nat.le_of_ble_eq_true rfl)
set_option maxHeartbeats 4000000 in
set_option maxRecDepth 100000 in
theorem Mo_number_n79 (g : pmG) (d : Nat) (ex : List (Nat × Nat)) (R : Nat → Nat → Value) (hR : mk_R R) (J : Nat → Nat → Int64) (o : Outcome) (Z : pmM) (rc rs : Nat)  (y1 : Int32) (y2 : Int32) (y3 : Int32) (y4 : Int32) (I : Nat → Nat → Int32) (hp : pMo_number_79 y1 y2 y3 y4 I) (hF : (o, Z, rc, rs) = pt_I (mk_K ++ ex) R J (fMo_number_79 y1 y2 y3 y4 I)) : pmE g kMo_number (d + 10) rc rs 79 [(0, .ref 40), (1, .int y1), (2, .int y2), (3, .int y3), (4, .int y4)] [] (mk_K ++ ex) R I J o Z := by
  unfold pMo_number_79 at hp
  refine pm_iload_n dMo_number_79 rfl ?_
  exact pt_iret dMo_number_80 rfl (hF.trans (by first | (simp only [fMo_number_79]; done) | (simp only [fMo_number_79]; rfl) | rfl))
set_option maxHeartbeats 4000000 in
set_option maxRecDepth 100000 in
theorem Mo_number_n21 (g : pmG) (d : Nat) (ex : List (Nat × Nat)) (R : Nat → Nat → Value) (hR : mk_R R) (J : Nat → Nat → Int64) (o : Outcome) (Z : pmM) (rc rs : Nat)  : ∀ (n : Nat) (y1 : Int32) (y2 : Int32) (y3 : Int32) (y4 : Int32) (I : Nat → Nat → Int32), pMo_number_21 n y1 y2 y3 y4 I → (o, Z, rc, rs) = pt_I (mk_K ++ ex) R J (fMo_number_21 n y1 y2 y3 y4 I) → pmE g kMo_number (d + 10) rc rs 21 [(0, .ref 40), (1, .int y1), (2, .int y2), (3, .int y3), (4, .int y4)] [] (mk_K ++ ex) R I J o Z := by
  intro n
  induction n with
  | zero => intro y1 y2 y3 y4 I hp; exact False.elim hp
  | succ n ih =>
  intro y1 y2 y3 y4 I hp hF
  simp only [pMo_number_21] at hp
  refine pm_iload dMo_number_21 rfl ?_
  refine pm_aload_n dMo_number_23 rfl ?_
  refine pm_geti dMo_number_24 fMo_36 rfl ?_
  refine pm_icmp_ge 52 dMo_number_27 (by decide) (fun h27 => ?_) (fun h27 => ?_)
  ·
    refine pm_iload_n dMo_number_52 rfl ?_
    refine pm_iload_n dMo_number_53 rfl ?_
    refine pm_icmp_lt 62 dMo_number_54 (by decide) (fun h54 => ?_) (fun h54 => ?_)
    ·
      refine pm_wk [0, 1, 2, 3, 4] rfl ?_
      exact Mo_number_n62 g d ex R hR J _ _ _ _   _ _ _ _ _ ((hp.1 h27).1 h54) (hF.trans (by first | (simp only [fMo_number_21, if_pos h27, if_pos h54]; done) | (simp only [fMo_number_21, if_pos h27, if_pos h54]; rfl) | rfl))
    ·
      refine pm_iload_n dMo_number_57 rfl ?_
      refine pm_iload_n dMo_number_58 rfl ?_
      refine pm_icmp_le 75 dMo_number_59 (by decide) (fun h59 => ?_) (fun h59 => ?_)
      ·
        refine pm_aload_n dMo_number_75 rfl ?_
        refine pt_callV (v2 := some (.int 0)) dMo_number_76 lMo_215 vMo_take ⟨_, _, rfl⟩ (Mo_take_ok _ _ _ _ hR  _ _ (((hp.1 h27).2 h54).1 h59).1) rfl rfl rfl (Nat.le_of_ble_eq_true rfl) (fun h76 => ?_) (fun h76 => hF.trans (by first | (simp only [fMo_number_21, if_pos h27, if_neg h54, if_pos h59, if_neg h76]; done) | (simp only [fMo_number_21, if_pos h27, if_neg h54, if_pos h59, if_neg h76]; rfl) | rfl))
        refine pm_wk [0, 1, 2, 3, 4] rfl ?_
        exact Mo_number_n79 g d ex R hR J _ _ _ _   _ _ _ _ _ ((((hp.1 h27).2 h54).1 h59).2 h76) (hF.trans (by first | (simp only [fMo_number_21, if_pos h27, if_neg h54, if_pos h59, if_pos h76]; done) | (simp only [fMo_number_21, if_pos h27, if_neg h54, if_pos h59, if_pos h76]; rfl) | rfl))
      ·
        refine pm_wk [0, 1, 2, 3, 4] rfl ?_
        exact Mo_number_n62 g d ex R hR J _ _ _ _   _ _ _ _ _ (((hp.1 h27).2 h54).2 h59) (hF.trans (by first | (simp only [fMo_number_21, if_pos h27, if_neg h54, if_neg h59]; done) | (simp only [fMo_number_21, if_pos h27, if_neg h54, if_neg h59]; rfl) | rfl))
  ·
    refine pm_bipush (v := 10) dMo_number_30 (by decide) ?_
    refine pm_iload_n dMo_number_32 rfl ?_
    refine pm_imul dMo_number_33 ?_
    refine pm_aload_n dMo_number_34 rfl ?_
    refine pm_getr dMo_number_35 fMo_8 rfl (rr_40_0 hR) ?_
    refine pm_iload dMo_number_38 rfl ?_
    refine pm_bald dMo_number_40 rfl (hp.2 h27).1 ?_
    refine pm_iadd dMo_number_41 ?_
    refine pm_bipush (v := 48) dMo_number_42 (by decide) ?_
    refine pm_isub dMo_number_44 ?_
    refine pm_istore_n dMo_number_45 (by decide) rfl ?_
    refine pm_iinc dMo_number_46 rfl (by decide) rfl ?_
    refine pm_goto 21 dMo_number_49 (by decide) ?_
    refine pm_wk [2, 3, 4, 1, 0] rfl ?_
    exact ih _ _ _ _ _ (hp.2 h27).2 (hF.trans (by first | (simp only [fMo_number_21, if_neg h27]; done) | (simp only [fMo_number_21, if_neg h27]; rfl) | rfl))
set_option maxHeartbeats 4000000 in
set_option maxRecDepth 100000 in
theorem Mo_number_n4 (g : pmG) (d : Nat) (ex : List (Nat × Nat)) (R : Nat → Nat → Value) (hR : mk_R R) (J : Nat → Nat → Int64) (o : Outcome) (Z : pmM) (rc rs : Nat) (n21 : Nat) (y1 : Int32) (y2 : Int32) (z0 : Int32) (I : Nat → Nat → Int32) (hp : pMo_number_4 n21 y1 y2 z0 I) (hF : (o, Z, rc, rs) = pt_I (mk_K ++ ex) R J (fMo_number_4 n21 y1 y2 z0 I)) : pmE g kMo_number (d + 10) rc rs 4 [(0, .ref 40), (1, .int y1), (2, .int y2)] [.int z0] (mk_K ++ ex) R I J o Z := by
  unfold pMo_number_4 at hp
  refine pm_iconst (v := 2) dMo_number_4 (by decide) ?_
  refine pm_icmp_eq 13 dMo_number_5 (by decide) (fun h5 => ?_) (fun h5 => ?_)
  ·
    refine pm_iconst (v := 0) dMo_number_13 (by decide) ?_
    refine pm_istore_n dMo_number_14 (by decide) rfl ?_
    refine pm_aload_n dMo_number_15 rfl ?_
    refine pm_geti dMo_number_16 fMo_33 rfl ?_
    refine pm_istore dMo_number_19 (by decide) rfl ?_
    refine pm_wk [2, 3, 4, 1, 0] rfl ?_
    exact Mo_number_n21 g d ex R hR J _ _ _ _  n21 _ _ _ _ _ (hp.1 h5) (hF.trans (by first | (simp only [fMo_number_4, if_pos h5]; done) | (simp only [fMo_number_4, if_pos h5]; rfl) | rfl))
  ·
    refine pm_aload_n dMo_number_8 rfl ?_
    exact pt_cant (v2 := some (.int 0)) dMo_number_9 lMo_211 vMo_cant ⟨_, _, rfl⟩ (Mo_cant_ok _ _ _ _ hR _ _ (hp.2 h5)) dMo_number_12 rfl (by decide +kernel) (Nat.le_of_ble_eq_true rfl) (fMo_cant_ne _) (hF.trans (by first | (simp only [fMo_number_4, if_neg h5]; done) | (simp only [fMo_number_4, if_neg h5]; rfl) | rfl))
set_option maxHeartbeats 4000000 in
set_option maxRecDepth 100000 in
theorem Mo_number_n0 (g : pmG) (d : Nat) (ex : List (Nat × Nat)) (R : Nat → Nat → Value) (hR : mk_R R) (J : Nat → Nat → Int64) (o : Outcome) (Z : pmM) (rc rs : Nat) (n21 : Nat) (y1 : Int32) (y2 : Int32) (I : Nat → Nat → Int32) (hp : pMo_number n21 y1 y2 I) (hF : (o, Z, rc, rs) = pt_I (mk_K ++ ex) R J (fMo_number n21 y1 y2 I)) : pmE g kMo_number (d + 10) rc rs 0 [(0, .ref 40), (1, .int y1), (2, .int y2)] [] (mk_K ++ ex) R I J o Z := by
  unfold pMo_number at hp
  refine pm_aload_n dMo_number_0 rfl ?_
  refine pt_callV (v2 := some (.int 0)) dMo_number_1 lMo_207 vMo_peek ⟨_, _, rfl⟩ (Mo_peek_ok _ _ _ _ hR _ _ _ _ hp.1) rfl rfl rfl (Nat.le_of_ble_eq_true rfl) (fun h1 => ?_) (fun h1 => hF.trans (by first | (simp only [fMo_number, if_neg h1]; done) | (simp only [fMo_number, if_neg h1]; rfl) | rfl))
  refine pm_wk [0, 1, 2] rfl ?_
  exact Mo_number_n4 g d ex R hR J _ _ _ _  n21 _ _ _ _ (hp.2 h1) (hF.trans (by first | (simp only [fMo_number, if_pos h1]; done) | (simp only [fMo_number, if_pos h1]; rfl) | rfl))
set_option maxHeartbeats 4000000 in
set_option maxRecDepth 100000 in
theorem Mo_number_ok (g : pmG) (d : Nat) (ex : List (Nat × Nat)) (R : Nat → Nat → Value) (hR : mk_R R) (n21 : Nat) (x0 : Int32) (x1 : Int32) (I : Nat → Nat → Int32) (J : Nat → Nat → Int64) (hp : pMo_number n21 x0 x1 I) : pmT g kMo_number (d + 10) [.ref 40, .int x0, .int x1] (mk_K ++ ex, R, I, J) (pt_I (mk_K ++ ex) R J (fMo_number n21 x0 x1 I)) :=
  pmC.of (by decide) (Nat.le_of_ble_eq_true rfl) (Mo_number_n0 g d ex R hR J _ _ _ _ n21 x0 x1 I hp rfl)
def fMo_pays  (y1 : Int32) (I : Nat → Nat → Int32) : Int32 × Int32 × (Nat → Nat → Int32) :=
  if ((I 40 11) + y1) ≤ (3000 : Int32) then (0, 0, pm_u I 40 11 ((I 40 11) + y1))
  else (4, I 40 7, pm_u I 40 11 ((I 40 11) + y1))
def pMo_pays  (y1 : Int32) (I : Nat → Nat → Int32) : Prop :=
  (((I 40 11) + y1) ≤ (3000 : Int32) → True) ∧
  (¬ (((I 40 11) + y1) ≤ (3000 : Int32)) → True)
set_option maxHeartbeats 4000000 in
set_option maxRecDepth 100000 in
theorem Mo_pays_n0 (g : pmG) (d : Nat) (ex : List (Nat × Nat)) (R : Nat → Nat → Value) (hR : mk_R R) (J : Nat → Nat → Int64) (o : Outcome) (Z : pmM) (rc rs : Nat)  (y1 : Int32) (I : Nat → Nat → Int32) (hp : pMo_pays y1 I) (hF : (o, Z, rc, rs) = pt_V (mk_K ++ ex) R J (fMo_pays y1 I)) : pmE g kMo_pays (d + 8) rc rs 0 [(0, .ref 40), (1, .int y1)] [] (mk_K ++ ex) R I J o Z := by
  unfold pMo_pays at hp
  refine pm_aload_n dMo_pays_0 rfl ?_
  refine pm_dup dMo_pays_1 rfl ?_
  refine pm_geti dMo_pays_2 fMo_46 rfl ?_
  refine pm_iload_n dMo_pays_5 rfl ?_
  refine pm_iadd dMo_pays_6 ?_
  refine pm_puti dMo_pays_7 fMo_46 sMo_46 (fun h => by cases h) rfl rfl rfl ?_
  refine pm_aload_n dMo_pays_10 rfl ?_
  refine pm_geti dMo_pays_11 fMo_46 rfl ?_
  refine pm_eqi ((I 40 11) + y1) rfl ?_
  refine pm_sipush (v := 3000) dMo_pays_14 (by decide) ?_
  refine pm_icmp_le 33 dMo_pays_17 (by decide) (fun h17 => ?_) (fun h17 => ?_)
  ·
    exact pt_vret dMo_pays_33 rfl (hF.trans (by first | (simp only [fMo_pays, if_pos h17]; done) | (simp only [fMo_pays, if_pos h17]; rfl) | rfl))
  ·
    refine pt_wr (e := 4) (w := (I 40 7)) (v2 := none) dMo_pays_20 dMo_pays_23 nMo_187 (by decide) (hF.trans (by first | (simp only [fMo_pays, if_neg h17]; done) | (simp only [fMo_pays, if_neg h17]; rfl) | rfl)) ?_
    refine pm_iconst (v := 4) dMo_pays_24 (by decide) ?_
    refine pm_aload_n dMo_pays_25 rfl ?_
    refine pm_geti dMo_pays_26 fMo_33 rfl ?_
    refine pm_eqi (I 40 7) ((congrFun (pm_z_n _ _ (mk_ne ex)) _).trans rfl) ?_
    exact pt_wi dMo_pays_29 lMo_189 dMo_pays_32 (by decide +kernel) (Nat.le_of_ble_eq_true rfl)
set_option maxHeartbeats 4000000 in
set_option maxRecDepth 100000 in
theorem Mo_pays_ok (g : pmG) (d : Nat) (ex : List (Nat × Nat)) (R : Nat → Nat → Value) (hR : mk_R R)  (x0 : Int32) (I : Nat → Nat → Int32) (J : Nat → Nat → Int64) (hp : pMo_pays x0 I) : pmT g kMo_pays (d + 8) [.ref 40, .int x0] (mk_K ++ ex, R, I, J) (pt_V (mk_K ++ ex) R J (fMo_pays x0 I)) :=
  pmC.of (by decide) (Nat.le_of_ble_eq_true rfl) (Mo_pays_n0 g d ex R hR J _ _ _ _  x0 I hp rfl)
def fMo_declare_15  (I : Nat → Nat → Int32) : Int32 × Int32 × Int32 × (Nat → Nat → Int32) :=
  ((fMo_cant I).1, (fMo_cant I).2.1, 0, (fMo_cant I).2.2)
def pMo_declare_15  (I : Nat → Nat → Int32) : Prop :=
  pMo_cant I
def fMo_declare_107  (I : Nat → Nat → Int32) : Int32 × Int32 × Int32 × (Nat → Nat → Int32) :=
  (0, 0, I 40 16, pm_u I 40 16 ((I 40 16) + (1 : Int32)))
def pMo_declare_107  (I : Nat → Nat → Int32) : Prop :=
  True
def fMo_declare_12  (z0 : Int32) (I : Nat → Nat → Int32) : Int32 × Int32 × Int32 × (Nat → Nat → Int32) :=
  if z0 = 0 then if ((fMo_named 61 61 I)) < 0 then if (I 40 16) = (60 : Int32) then (4, I 40 7, 0, I)
      else if (fMo_take (pm_u (pm_u (pm_u I 42 (I 40 16).toNatClampNeg (I 40 7)) 43 (I 40 16).toNatClampNeg ((I 40 8) - (I 40 7))) 44 (I 40 16).toNatClampNeg (0 : Int32))).1 = 0 then fMo_declare_107 ((fMo_take (pm_u (pm_u (pm_u I 42 (I 40 16).toNatClampNeg (I 40 7)) 43 (I 40 16).toNatClampNeg ((I 40 8) - (I 40 7))) 44 (I 40 16).toNatClampNeg (0 : Int32))).2.2)
        else ((fMo_take (pm_u (pm_u (pm_u I 42 (I 40 16).toNatClampNeg (I 40 7)) 43 (I 40 16).toNatClampNeg ((I 40 8) - (I 40 7))) 44 (I 40 16).toNatClampNeg (0 : Int32))).1, (fMo_take (pm_u (pm_u (pm_u I 42 (I 40 16).toNatClampNeg (I 40 7)) 43 (I 40 16).toNatClampNeg ((I 40 8) - (I 40 7))) 44 (I 40 16).toNatClampNeg (0 : Int32))).2.1, 0, (fMo_take (pm_u (pm_u (pm_u I 42 (I 40 16).toNatClampNeg (I 40 7)) 43 (I 40 16).toNatClampNeg ((I 40 8) - (I 40 7))) 44 (I 40 16).toNatClampNeg (0 : Int32))).2.2)
    else (2, I 40 7, 0, I)
  else fMo_declare_15 I
def pMo_declare_12  (z0 : Int32) (I : Nat → Nat → Int32) : Prop :=
  (z0 = 0 → (pMo_named 61 61 I) ∧ ((((fMo_named 61 61 I)) < 0 → ((I 40 16) = (60 : Int32) → True) ∧
      (¬ ((I 40 16) = (60 : Int32)) → (vp_in (I 40 16) 60) ∧ ((vp_in (I 40 16) 60) ∧ ((vp_in (I 40 16) 60) ∧ ((pMo_take (pm_u (pm_u (pm_u I 42 (I 40 16).toNatClampNeg (I 40 7)) 43 (I 40 16).toNatClampNeg ((I 40 8) - (I 40 7))) 44 (I 40 16).toNatClampNeg (0 : Int32))) ∧ ((fMo_take (pm_u (pm_u (pm_u I 42 (I 40 16).toNatClampNeg (I 40 7)) 43 (I 40 16).toNatClampNeg ((I 40 8) - (I 40 7))) 44 (I 40 16).toNatClampNeg (0 : Int32))).1 = 0 → pMo_declare_107 ((fMo_take (pm_u (pm_u (pm_u I 42 (I 40 16).toNatClampNeg (I 40 7)) 43 (I 40 16).toNatClampNeg ((I 40 8) - (I 40 7))) 44 (I 40 16).toNatClampNeg (0 : Int32))).2.2))))))) ∧
    (¬ (((fMo_named 61 61 I)) < 0) → True))) ∧
  (¬ (z0 = 0) → pMo_declare_15 I)
def fMo_declare_4  (z0 : Int32) (I : Nat → Nat → Int32) : Int32 × Int32 × Int32 × (Nat → Nat → Int32) :=
  if z0 = (1 : Int32) then if (fMo_reserved I).1 = 0 then fMo_declare_12 ((fMo_reserved I).2.2.1) ((fMo_reserved I).2.2.2)
    else ((fMo_reserved I).1, (fMo_reserved I).2.1, 0, (fMo_reserved I).2.2.2)
  else fMo_declare_15 I
def pMo_declare_4  (z0 : Int32) (I : Nat → Nat → Int32) : Prop :=
  (z0 = (1 : Int32) → (pMo_reserved I) ∧ ((fMo_reserved I).1 = 0 → pMo_declare_12 ((fMo_reserved I).2.2.1) ((fMo_reserved I).2.2.2))) ∧
  (¬ (z0 = (1 : Int32)) → pMo_declare_15 I)
def fMo_declare  (I : Nat → Nat → Int32) : Int32 × Int32 × Int32 × (Nat → Nat → Int32) :=
  if (fMo_peek 65537 65537 I).1 = 0 then fMo_declare_4 ((fMo_peek 65537 65537 I).2.2.1) ((fMo_peek 65537 65537 I).2.2.2)
  else ((fMo_peek 65537 65537 I).1, (fMo_peek 65537 65537 I).2.1, 0, (fMo_peek 65537 65537 I).2.2.2)
def pMo_declare  (I : Nat → Nat → Int32) : Prop :=
  (pMo_peek 65537 65537 I) ∧ ((fMo_peek 65537 65537 I).1 = 0 → pMo_declare_4 ((fMo_peek 65537 65537 I).2.2.1) ((fMo_peek 65537 65537 I).2.2.2))
set_option maxHeartbeats 4000000 in
set_option maxRecDepth 100000 in
theorem Mo_declare_n15 (g : pmG) (d : Nat) (ex : List (Nat × Nat)) (R : Nat → Nat → Value) (hR : mk_R R) (J : Nat → Nat → Int64) (o : Outcome) (Z : pmM) (rc rs : Nat)  (I : Nat → Nat → Int32) (hp : pMo_declare_15 I) (hF : (o, Z, rc, rs) = pt_I (mk_K ++ ex) R J (fMo_declare_15 I)) : pmE g kMo_declare (d + 11) rc rs 15 [(0, .ref 40)] [] (mk_K ++ ex) R I J o Z := by
  unfold pMo_declare_15 at hp
  refine pm_aload_n dMo_declare_15 rfl ?_
  exact pt_cant (v2 := some (.int 0)) dMo_declare_16 lMo_211 vMo_cant ⟨_, _, rfl⟩ (Mo_cant_ok _ _ _ _ hR _ _ hp) dMo_declare_19 rfl (by decide +kernel) (Nat.le_of_ble_eq_true rfl) (fMo_cant_ne _) (hF.trans (by first | (simp only [fMo_declare_15]; done) | (simp only [fMo_declare_15]; rfl) | rfl))
set_option maxHeartbeats 4000000 in
set_option maxRecDepth 100000 in
theorem Mo_declare_n107 (g : pmG) (d : Nat) (ex : List (Nat × Nat)) (R : Nat → Nat → Value) (hR : mk_R R) (J : Nat → Nat → Int64) (o : Outcome) (Z : pmM) (rc rs : Nat)  (I : Nat → Nat → Int32) (hp : pMo_declare_107 I) (hF : (o, Z, rc, rs) = pt_I (mk_K ++ ex) R J (fMo_declare_107 I)) : pmE g kMo_declare (d + 11) rc rs 107 [(0, .ref 40)] [] (mk_K ++ ex) R I J o Z := by
  unfold pMo_declare_107 at hp
  refine pm_aload_n dMo_declare_107 rfl ?_
  refine pm_dup dMo_declare_108 rfl ?_
  refine pm_geti dMo_declare_109 fMo_62 rfl ?_
  refine pm_dup_x1 dMo_declare_112 rfl rfl ?_
  refine pm_iconst (v := 1) dMo_declare_113 (by decide) ?_
  refine pm_iadd dMo_declare_114 ?_
  refine pm_puti dMo_declare_115 fMo_62 sMo_62 (fun h => by cases h) rfl rfl rfl ?_
  exact pt_iret dMo_declare_118 rfl (hF.trans (by first | (simp only [fMo_declare_107]; done) | (simp only [fMo_declare_107]; rfl) | rfl))
set_option maxHeartbeats 4000000 in
set_option maxRecDepth 100000 in
theorem Mo_declare_n12 (g : pmG) (d : Nat) (ex : List (Nat × Nat)) (R : Nat → Nat → Value) (hR : mk_R R) (J : Nat → Nat → Int64) (o : Outcome) (Z : pmM) (rc rs : Nat)  (z0 : Int32) (I : Nat → Nat → Int32) (hp : pMo_declare_12 z0 I) (hF : (o, Z, rc, rs) = pt_I (mk_K ++ ex) R J (fMo_declare_12 z0 I)) : pmE g kMo_declare (d + 11) rc rs 12 [(0, .ref 40)] [.int z0] (mk_K ++ ex) R I J o Z := by
  unfold pMo_declare_12 at hp
  refine pm_if_eq 20 dMo_declare_12 (by decide) (fun h12 => ?_) (fun h12 => ?_)
  ·
    refine pm_aload_n dMo_declare_20 rfl ?_
    refine pm_callV dMo_declare_21 lMo_261 vMo_named ⟨_, _, rfl⟩ (Mo_named_ok _ _ _ _ hR _ _ _ _ (hp.1 h12).1) rfl rfl rfl (Nat.le_of_ble_eq_true rfl) (Nat.le_refl _) (Nat.le_refl _) ?_
    refine pm_if_lt 40 dMo_declare_24 (by decide) (fun h24 => ?_) (fun h24 => ?_)
    ·
      refine pm_aload_n dMo_declare_40 rfl ?_
      refine pm_geti dMo_declare_41 fMo_62 rfl ?_
      refine pm_bipush (v := 60) dMo_declare_44 (by decide) ?_
      refine pm_icmp_ne 62 dMo_declare_46 (by decide) (fun h46 => ?_) (fun h46 => ?_)
      ·
        refine pm_aload_n dMo_declare_62 rfl ?_
        refine pm_getr dMo_declare_63 fMo_49 rfl (rr_40_12 hR) ?_
        refine pm_aload_n dMo_declare_66 rfl ?_
        refine pm_geti dMo_declare_67 fMo_62 rfl ?_
        refine pm_aload_n dMo_declare_70 rfl ?_
        refine pm_geti dMo_declare_71 fMo_33 rfl ?_
        refine pm_iast dMo_declare_74 rfl (((hp.1 h12).2.1 h24).2 h46).1 ?_
        refine pm_aload_n dMo_declare_75 rfl ?_
        refine pm_getr dMo_declare_76 fMo_53 rfl (rr_40_13 hR) ?_
        refine pm_aload_n dMo_declare_79 rfl ?_
        refine pm_geti dMo_declare_80 fMo_62 rfl ?_
        refine pm_eqi (I 40 16) rfl ?_
        refine pm_aload_n dMo_declare_83 rfl ?_
        refine pm_geti dMo_declare_84 fMo_36 rfl ?_
        refine pm_eqi (I 40 8) rfl ?_
        refine pm_aload_n dMo_declare_87 rfl ?_
        refine pm_geti dMo_declare_88 fMo_33 rfl ?_
        refine pm_eqi (I 40 7) rfl ?_
        refine pm_isub dMo_declare_91 ?_
        refine pm_iast dMo_declare_92 rfl (((hp.1 h12).2.1 h24).2 h46).2.1 ?_
        refine pm_aload_n dMo_declare_93 rfl ?_
        refine pm_getr dMo_declare_94 fMo_56 rfl (rr_40_14 hR) ?_
        refine pm_aload_n dMo_declare_97 rfl ?_
        refine pm_geti dMo_declare_98 fMo_62 rfl ?_
        refine pm_eqi (I 40 16) rfl ?_
        refine pm_iconst (v := 0) dMo_declare_101 (by decide) ?_
        refine pm_iast dMo_declare_102 rfl (((hp.1 h12).2.1 h24).2 h46).2.2.1 ?_
        refine pm_aload_n dMo_declare_103 rfl ?_
        refine pt_callV (v2 := some (.int 0)) dMo_declare_104 lMo_215 vMo_take ⟨_, _, rfl⟩ (Mo_take_ok _ _ _ _ hR  _ _ (((hp.1 h12).2.1 h24).2 h46).2.2.2.1) rfl rfl rfl (Nat.le_of_ble_eq_true rfl) (fun h104 => ?_) (fun h104 => hF.trans (by first | (simp only [fMo_declare_12, if_pos h12, if_pos h24, if_neg h46, if_neg h104]; done) | (simp only [fMo_declare_12, if_pos h12, if_pos h24, if_neg h46, if_neg h104]; rfl) | rfl))
        refine pm_wk [0] rfl ?_
        exact Mo_declare_n107 g d ex R hR J _ _ _ _   _ ((((hp.1 h12).2.1 h24).2 h46).2.2.2.2 h104) (hF.trans (by first | (simp only [fMo_declare_12, if_pos h12, if_pos h24, if_neg h46, if_pos h104]; done) | (simp only [fMo_declare_12, if_pos h12, if_pos h24, if_neg h46, if_pos h104]; rfl) | rfl))
      ·
        refine pt_wr (e := 4) (w := (I 40 7)) (v2 := some (.int 0)) dMo_declare_49 dMo_declare_52 nMo_187 (by decide) (hF.trans (by first | (simp only [fMo_declare_12, if_pos h12, if_pos h24, if_pos h46]; done) | (simp only [fMo_declare_12, if_pos h12, if_pos h24, if_pos h46]; rfl) | rfl)) ?_
        refine pm_iconst (v := 4) dMo_declare_53 (by decide) ?_
        refine pm_aload_n dMo_declare_54 rfl ?_
        refine pm_geti dMo_declare_55 fMo_33 rfl ?_
        refine pm_eqi (I 40 7) (congrFun (pm_z_n _ _ (mk_ne ex)) _) ?_
        exact pt_wi dMo_declare_58 lMo_189 dMo_declare_61 (by decide +kernel) (Nat.le_of_ble_eq_true rfl)
    ·
      refine pt_wr (e := 2) (w := (I 40 7)) (v2 := some (.int 0)) dMo_declare_27 dMo_declare_30 nMo_187 (by decide) (hF.trans (by first | (simp only [fMo_declare_12, if_pos h12, if_neg h24]; done) | (simp only [fMo_declare_12, if_pos h12, if_neg h24]; rfl) | rfl)) ?_
      refine pm_iconst (v := 2) dMo_declare_31 (by decide) ?_
      refine pm_aload_n dMo_declare_32 rfl ?_
      refine pm_geti dMo_declare_33 fMo_33 rfl ?_
      refine pm_eqi (I 40 7) (congrFun (pm_z_n _ _ (mk_ne ex)) _) ?_
      exact pt_wi dMo_declare_36 lMo_189 dMo_declare_39 (by decide +kernel) (Nat.le_of_ble_eq_true rfl)
  ·
    refine pm_wk [0] rfl ?_
    exact Mo_declare_n15 g d ex R hR J _ _ _ _   _ (hp.2 h12) (hF.trans (by first | (simp only [fMo_declare_12, if_neg h12]; done) | (simp only [fMo_declare_12, if_neg h12]; rfl) | rfl))
set_option maxHeartbeats 4000000 in
set_option maxRecDepth 100000 in
theorem Mo_declare_n4 (g : pmG) (d : Nat) (ex : List (Nat × Nat)) (R : Nat → Nat → Value) (hR : mk_R R) (J : Nat → Nat → Int64) (o : Outcome) (Z : pmM) (rc rs : Nat)  (z0 : Int32) (I : Nat → Nat → Int32) (hp : pMo_declare_4 z0 I) (hF : (o, Z, rc, rs) = pt_I (mk_K ++ ex) R J (fMo_declare_4 z0 I)) : pmE g kMo_declare (d + 11) rc rs 4 [(0, .ref 40)] [.int z0] (mk_K ++ ex) R I J o Z := by
  unfold pMo_declare_4 at hp
  refine pm_iconst (v := 1) dMo_declare_4 (by decide) ?_
  refine pm_icmp_ne 15 dMo_declare_5 (by decide) (fun h5 => ?_) (fun h5 => ?_)
  ·
    refine pm_wk [0] rfl ?_
    exact Mo_declare_n15 g d ex R hR J _ _ _ _   _ (hp.2 h5) (hF.trans (by first | (simp only [fMo_declare_4, if_neg h5]; done) | (simp only [fMo_declare_4, if_neg h5]; rfl) | rfl))
  ·
    refine pm_aload_n dMo_declare_8 rfl ?_
    refine pt_callV (v2 := some (.int 0)) dMo_declare_9 lMo_257 vMo_reserved ⟨_, _, rfl⟩ (Mo_reserved_ok _ _ _ _ hR  _ _ (hp.1 h5).1) rfl rfl rfl (Nat.le_of_ble_eq_true rfl) (fun h9 => ?_) (fun h9 => hF.trans (by first | (simp only [fMo_declare_4, if_pos h5, if_neg h9]; done) | (simp only [fMo_declare_4, if_pos h5, if_neg h9]; rfl) | rfl))
    refine pm_wk [0] rfl ?_
    exact Mo_declare_n12 g d ex R hR J _ _ _ _   _ _ ((hp.1 h5).2 h9) (hF.trans (by first | (simp only [fMo_declare_4, if_pos h5, if_pos h9]; done) | (simp only [fMo_declare_4, if_pos h5, if_pos h9]; rfl) | rfl))
set_option maxHeartbeats 4000000 in
set_option maxRecDepth 100000 in
theorem Mo_declare_n0 (g : pmG) (d : Nat) (ex : List (Nat × Nat)) (R : Nat → Nat → Value) (hR : mk_R R) (J : Nat → Nat → Int64) (o : Outcome) (Z : pmM) (rc rs : Nat)  (I : Nat → Nat → Int32) (hp : pMo_declare I) (hF : (o, Z, rc, rs) = pt_I (mk_K ++ ex) R J (fMo_declare I)) : pmE g kMo_declare (d + 11) rc rs 0 [(0, .ref 40)] [] (mk_K ++ ex) R I J o Z := by
  unfold pMo_declare at hp
  refine pm_aload_n dMo_declare_0 rfl ?_
  refine pt_callV (v2 := some (.int 0)) dMo_declare_1 lMo_207 vMo_peek ⟨_, _, rfl⟩ (Mo_peek_ok _ _ _ _ hR _ _ _ _ hp.1) rfl rfl rfl (Nat.le_of_ble_eq_true rfl) (fun h1 => ?_) (fun h1 => hF.trans (by first | (simp only [fMo_declare, if_neg h1]; done) | (simp only [fMo_declare, if_neg h1]; rfl) | rfl))
  refine pm_wk [0] rfl ?_
  exact Mo_declare_n4 g d ex R hR J _ _ _ _   _ _ (hp.2 h1) (hF.trans (by first | (simp only [fMo_declare, if_pos h1]; done) | (simp only [fMo_declare, if_pos h1]; rfl) | rfl))
set_option maxHeartbeats 4000000 in
set_option maxRecDepth 100000 in
theorem Mo_declare_ok (g : pmG) (d : Nat) (ex : List (Nat × Nat)) (R : Nat → Nat → Value) (hR : mk_R R)   (I : Nat → Nat → Int32) (J : Nat → Nat → Int64) (hp : pMo_declare I) : pmT g kMo_declare (d + 11) [.ref 40] (mk_K ++ ex, R, I, J) (pt_I (mk_K ++ ex) R J (fMo_declare I)) :=
  pmC.of (by decide) (Nat.le_of_ble_eq_true rfl) (Mo_declare_n0 g d ex R hR J _ _ _ _   I hp rfl)
