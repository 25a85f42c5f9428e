def fMo_reg_85  (y1 : Int32) (y2 : Int32) (y3 : Int32) (z1 : Int32) (z2 : Int32) (I : Nat → Nat → Int32) : Int32 × Int32 × (Nat → Nat → Int32) :=
  (0, 0, pm_u (pm_u (pm_u (pm_u (pm_u (pm_u (pm_u I 47 z1.toNatClampNeg z2) 46 (I 40 23).toNatClampNeg y3) 48 (I 40 23).toNatClampNeg (-1 : Int32)) 40 27 ((I 40 27) + y3)) 44 y1.toNatClampNeg (1 : Int32)) 40 23 ((I 40 23) + (1 : Int32))) 45 y1.toNatClampNeg (I 40 23))
def pMo_reg_85  (y1 : Int32) (y2 : Int32) (y3 : Int32) (z1 : Int32) (z2 : Int32) (I : Nat → Nat → Int32) : Prop :=
  (vp_in z1 8) ∧ ((vp_in (I 40 23) 8) ∧ ((vp_in (I 40 23) 8) ∧ ((vp_in y1 60) ∧ ((vp_in y1 60) ∧ True))))
def fMo_reg_67  (y1 : Int32) (y2 : Int32) (y3 : Int32) (I : Nat → Nat → Int32) : Int32 × Int32 × (Nat → Nat → Int32) :=
  if (fMo_number 65537 (0 : Int32) (((1 : Int32) <<< (y3 &&& 31)) - (1 : Int32)) I).1 = 0 then fMo_reg_85 y1 y2 y3 (I 40 23) ((fMo_number 65537 (0 : Int32) (((1 : Int32) <<< (y3 &&& 31)) - (1 : Int32)) I).2.2.1) ((fMo_number 65537 (0 : Int32) (((1 : Int32) <<< (y3 &&& 31)) - (1 : Int32)) I).2.2.2)
  else ((fMo_number 65537 (0 : Int32) (((1 : Int32) <<< (y3 &&& 31)) - (1 : Int32)) I).1, (fMo_number 65537 (0 : Int32) (((1 : Int32) <<< (y3 &&& 31)) - (1 : Int32)) I).2.1, (fMo_number 65537 (0 : Int32) (((1 : Int32) <<< (y3 &&& 31)) - (1 : Int32)) I).2.2.2)
def pMo_reg_67  (y1 : Int32) (y2 : Int32) (y3 : Int32) (I : Nat → Nat → Int32) : Prop :=
  (pMo_number 65537 (0 : Int32) (((1 : Int32) <<< (y3 &&& 31)) - (1 : Int32)) I) ∧ ((fMo_number 65537 (0 : Int32) (((1 : Int32) <<< (y3 &&& 31)) - (1 : Int32)) I).1 = 0 → pMo_reg_85 y1 y2 y3 (I 40 23) ((fMo_number 65537 (0 : Int32) (((1 : Int32) <<< (y3 &&& 31)) - (1 : Int32)) I).2.2.1) ((fMo_number 65537 (0 : Int32) (((1 : Int32) <<< (y3 &&& 31)) - (1 : Int32)) I).2.2.2))
def fMo_reg_39  (y1 : Int32) (y2 : Int32) (z0 : Int32) (I : Nat → Nat → Int32) : Int32 × Int32 × (Nat → Nat → Int32) :=
  if ((I 40 27) + z0) ≤ (8 : Int32) then if (fMo_must (61 : Int32) I).1 = 0 then fMo_reg_67 y1 y2 z0 ((fMo_must (61 : Int32) I).2.2)
    else ((fMo_must (61 : Int32) I).1, (fMo_must (61 : Int32) I).2.1, (fMo_must (61 : Int32) I).2.2)
  else (3, y2, I)
def pMo_reg_39  (y1 : Int32) (y2 : Int32) (z0 : Int32) (I : Nat → Nat → Int32) : Prop :=
  (((I 40 27) + z0) ≤ (8 : Int32) → (pMo_must (61 : Int32) I) ∧ ((fMo_must (61 : Int32) I).1 = 0 → pMo_reg_67 y1 y2 z0 ((fMo_must (61 : Int32) I).2.2))) ∧
  (¬ (((I 40 27) + z0) ≤ (8 : Int32)) → True)
def fMo_reg_31  (y1 : Int32) (z0 : Int32) (I : Nat → Nat → Int32) : Int32 × Int32 × (Nat → Nat → Int32) :=
  if (fMo_number 65537 (1 : Int32) (8 : Int32) I).1 = 0 then fMo_reg_39 y1 z0 ((fMo_number 65537 (1 : Int32) (8 : Int32) I).2.2.1) ((fMo_number 65537 (1 : Int32) (8 : Int32) I).2.2.2)
  else ((fMo_number 65537 (1 : Int32) (8 : Int32) I).1, (fMo_number 65537 (1 : Int32) (8 : Int32) I).2.1, (fMo_number 65537 (1 : Int32) (8 : Int32) I).2.2.2)
def pMo_reg_31  (y1 : Int32) (z0 : Int32) (I : Nat → Nat → Int32) : Prop :=
  (pMo_number 65537 (1 : Int32) (8 : Int32) I) ∧ ((fMo_number 65537 (1 : Int32) (8 : Int32) I).1 = 0 → pMo_reg_39 y1 z0 ((fMo_number 65537 (1 : Int32) (8 : Int32) I).2.2.1) ((fMo_number 65537 (1 : Int32) (8 : Int32) I).2.2.2))
def fMo_reg_19  (y1 : Int32) (z0 : Int32) (I : Nat → Nat → Int32) : Int32 × Int32 × (Nat → Nat → Int32) :=
  if z0 = (2 : Int32) then fMo_reg_31 y1 (I 40 7) I
  else fMo_reg_31 y1 (0 : Int32) I
def pMo_reg_19  (y1 : Int32) (z0 : Int32) (I : Nat → Nat → Int32) : Prop :=
  (z0 = (2 : Int32) → pMo_reg_31 y1 (I 40 7) I) ∧
  (¬ (z0 = (2 : Int32)) → pMo_reg_31 y1 (0 : Int32) I)
def fMo_reg_15  (y1 : Int32) (I : Nat → Nat → Int32) : Int32 × Int32 × (Nat → Nat → Int32) :=
  if (fMo_peek 65537 65537 I).1 = 0 then fMo_reg_19 y1 ((fMo_peek 65537 65537 I).2.2.1) ((fMo_peek 65537 65537 I).2.2.2)
  else ((fMo_peek 65537 65537 I).1, (fMo_peek 65537 65537 I).2.1, (fMo_peek 65537 65537 I).2.2.2)
def pMo_reg_15  (y1 : Int32) (I : Nat → Nat → Int32) : Prop :=
  (pMo_peek 65537 65537 I) ∧ ((fMo_peek 65537 65537 I).1 = 0 → pMo_reg_19 y1 ((fMo_peek 65537 65537 I).2.2.1) ((fMo_peek 65537 65537 I).2.2.2))
def fMo_reg_8  (z0 : Int32) (I : Nat → Nat → Int32) : Int32 × Int32 × (Nat → Nat → Int32) :=
  if (fMo_must (58 : Int32) I).1 = 0 then fMo_reg_15 z0 ((fMo_must (58 : Int32) I).2.2)
  else ((fMo_must (58 : Int32) I).1, (fMo_must (58 : Int32) I).2.1, (fMo_must (58 : Int32) I).2.2)
def pMo_reg_8  (z0 : Int32) (I : Nat → Nat → Int32) : Prop :=
  (pMo_must (58 : Int32) I) ∧ ((fMo_must (58 : Int32) I).1 = 0 → pMo_reg_15 z0 ((fMo_must (58 : Int32) I).2.2))
def fMo_reg_4  (I : Nat → Nat → Int32) : Int32 × Int32 × (Nat → Nat → Int32) :=
  if (fMo_declare I).1 = 0 then fMo_reg_8 ((fMo_declare I).2.2.1) ((fMo_declare I).2.2.2)
  else ((fMo_declare I).1, (fMo_declare I).2.1, (fMo_declare I).2.2.2)
def pMo_reg_4  (I : Nat → Nat → Int32) : Prop :=
  (pMo_declare I) ∧ ((fMo_declare I).1 = 0 → pMo_reg_8 ((fMo_declare I).2.2.1) ((fMo_declare I).2.2.2))
def fMo_reg  (I : Nat → Nat → Int32) : Int32 × Int32 × (Nat → Nat → Int32) :=
  if (fMo_take I).1 = 0 then fMo_reg_4 ((fMo_take I).2.2)
  else ((fMo_take I).1, (fMo_take I).2.1, (fMo_take I).2.2)
def pMo_reg  (I : Nat → Nat → Int32) : Prop :=
  (pMo_take I) ∧ ((fMo_take I).1 = 0 → pMo_reg_4 ((fMo_take I).2.2))
set_option maxHeartbeats 4000000 in
set_option maxRecDepth 100000 in
theorem Mo_reg_n85 (g : pmG) (d : Nat) (ex : List (Nat × Nat)) (R : Nat → Nat → Value) (hR : mk_R R) (J : Nat → Nat → Int64) (o : Outcome) (Z : pmM) (rc rs : Nat)  (y1 : Int32) (y2 : Int32) (y3 : Int32) (z1 : Int32) (z2 : Int32) (I : Nat → Nat → Int32) (hp : pMo_reg_85 y1 y2 y3 z1 z2 I) (hF : (o, Z, rc, rs) = pt_V (mk_K ++ ex) R J (fMo_reg_85 y1 y2 y3 z1 z2 I)) : pmE g kMo_reg (d + 12) rc rs 85 [(0, .ref 40), (1, .int y1), (2, .int y2), (3, .int y3)] [.int z2, .int z1, .ref 47] (mk_K ++ ex) R I J o Z := by
  unfold pMo_reg_85 at hp
  refine pm_iast dMo_reg_85 rfl hp.1 ?_
  refine pm_aload_n dMo_reg_86 rfl ?_
  refine pm_getr dMo_reg_87 fMo_65 rfl (rr_40_17 hR) ?_
  refine pm_aload_n dMo_reg_90 rfl ?_
  refine pm_geti dMo_reg_91 fMo_83 rfl ?_
  refine pm_eqi (I 40 23) rfl ?_
  refine pm_iload_n dMo_reg_94 rfl ?_
  refine pm_iast dMo_reg_95 rfl hp.2.1 ?_
  refine pm_aload_n dMo_reg_96 rfl ?_
  refine pm_getr dMo_reg_97 fMo_71 rfl (rr_40_19 hR) ?_
  refine pm_aload_n dMo_reg_100 rfl ?_
  refine pm_geti dMo_reg_101 fMo_83 rfl ?_
  refine pm_eqi (I 40 23) rfl ?_
  refine pm_iconst (v := (-1)) dMo_reg_104 (by decide) ?_
  refine pm_iast dMo_reg_105 rfl hp.2.2.1 ?_
  refine pm_aload_n dMo_reg_106 rfl ?_
  refine pm_dup dMo_reg_107 rfl ?_
  refine pm_geti dMo_reg_108 fMo_95 rfl ?_
  refine pm_eqi (I 40 27) rfl ?_
  refine pm_iload_n dMo_reg_111 rfl ?_
  refine pm_iadd dMo_reg_112 ?_
  refine pm_puti dMo_reg_113 fMo_95 sMo_95 (fun h => by cases h) rfl rfl rfl ?_
  refine pm_aload_n dMo_reg_116 rfl ?_
  refine pm_getr dMo_reg_117 fMo_56 rfl (rr_40_14 hR) ?_
  refine pm_iload_n dMo_reg_120 rfl ?_
  refine pm_iconst (v := 1) dMo_reg_121 (by decide) ?_
  refine pm_iast dMo_reg_122 rfl hp.2.2.2.1 ?_
  refine pm_aload_n dMo_reg_123 rfl ?_
  refine pm_getr dMo_reg_124 fMo_59 rfl (rr_40_15 hR) ?_
  refine pm_iload_n dMo_reg_127 rfl ?_
  refine pm_aload_n dMo_reg_128 rfl ?_
  refine pm_dup dMo_reg_129 rfl ?_
  refine pm_geti dMo_reg_130 fMo_83 rfl ?_
  refine pm_eqi (I 40 23) rfl ?_
  refine pm_dup_x1 dMo_reg_133 rfl rfl ?_
  refine pm_iconst (v := 1) dMo_reg_134 (by decide) ?_
  refine pm_iadd dMo_reg_135 ?_
  refine pm_puti dMo_reg_136 fMo_83 sMo_83 (fun h => by cases h) rfl rfl rfl ?_
  refine pm_iast dMo_reg_139 rfl hp.2.2.2.2.1 ?_
  exact pt_vret dMo_reg_140 rfl (hF.trans (by first | (simp only [fMo_reg_85]; done) | (simp only [fMo_reg_85]; rfl) | rfl))
set_option maxHeartbeats 4000000 in
set_option maxRecDepth 100000 in
theorem Mo_reg_n67 (g : pmG) (d : Nat) (ex : List (Nat × Nat)) (R : Nat → Nat → Value) (hR : mk_R R) (J : Nat → Nat → Int64) (o : Outcome) (Z : pmM) (rc rs : Nat)  (y1 : Int32) (y2 : Int32) (y3 : Int32) (I : Nat → Nat → Int32) (hp : pMo_reg_67 y1 y2 y3 I) (hF : (o, Z, rc, rs) = pt_V (mk_K ++ ex) R J (fMo_reg_67 y1 y2 y3 I)) : pmE g kMo_reg (d + 12) rc rs 67 [(0, .ref 40), (1, .int y1), (2, .int y2), (3, .int y3)] [] (mk_K ++ ex) R I J o Z := by
  unfold pMo_reg_67 at hp
  refine pm_aload_n dMo_reg_67 rfl ?_
  refine pm_getr dMo_reg_68 fMo_68 rfl (rr_40_18 hR) ?_
  refine pm_aload_n dMo_reg_71 rfl ?_
  refine pm_geti dMo_reg_72 fMo_83 rfl ?_
  refine pm_aload_n dMo_reg_75 rfl ?_
  refine pm_iconst (v := 0) dMo_reg_76 (by decide) ?_
  refine pm_iconst (v := 1) dMo_reg_77 (by decide) ?_
  refine pm_iload_n dMo_reg_78 rfl ?_
  refine pm_ishl dMo_reg_79 ?_
  refine pm_iconst (v := 1) dMo_reg_80 (by decide) ?_
  refine pm_isub dMo_reg_81 ?_
  refine pt_callV (v2 := none) dMo_reg_82 lMo_294 vMo_number ⟨_, _, rfl⟩ (Mo_number_ok _ _ _ _ hR _ _ _ _ _ hp.1) rfl rfl rfl (Nat.le_of_ble_eq_true rfl) (fun h82 => ?_) (fun h82 => hF.trans (by first | (simp only [fMo_reg_67, if_neg h82]; done) | (simp only [fMo_reg_67, if_neg h82]; rfl) | rfl))
  refine pm_wk [0, 1, 2, 3] rfl ?_
  exact Mo_reg_n85 g d ex R hR J _ _ _ _   _ _ _ _ _ _ (hp.2 h82) (hF.trans (by first | (simp only [fMo_reg_67, if_pos h82]; done) | (simp only [fMo_reg_67, if_pos h82]; with_reducible rfl) | with_reducible rfl))
set_option maxHeartbeats 4000000 in
set_option maxRecDepth 100000 in
theorem Mo_reg_n39 (g : pmG) (d : Nat) (ex : List (Nat × Nat)) (R : Nat → Nat → Value) (hR : mk_R R) (J : Nat → Nat → Int64) (o : Outcome) (Z : pmM) (rc rs : Nat)  (y1 : Int32) (y2 : Int32) (z0 : Int32) (I : Nat → Nat → Int32) (hp : pMo_reg_39 y1 y2 z0 I) (hF : (o, Z, rc, rs) = pt_V (mk_K ++ ex) R J (fMo_reg_39 y1 y2 z0 I)) : pmE g kMo_reg (d + 12) rc rs 39 [(0, .ref 40), (1, .int y1), (2, .int y2)] [.int z0] (mk_K ++ ex) R I J o Z := by
  unfold pMo_reg_39 at hp
  refine pm_istore_n dMo_reg_39 (by decide) rfl ?_
  refine pm_aload_n dMo_reg_40 rfl ?_
  refine pm_geti dMo_reg_41 fMo_95 rfl ?_
  refine pm_iload_n dMo_reg_44 rfl ?_
  refine pm_iadd dMo_reg_45 ?_
  refine pm_bipush (v := 8) dMo_reg_46 (by decide) ?_
  refine pm_icmp_le 61 dMo_reg_48 (by decide) (fun h48 => ?_) (fun h48 => ?_)
  ·
    refine pm_aload_n dMo_reg_61 rfl ?_
    refine pm_bipush (v := 61) dMo_reg_62 (by decide) ?_
    refine pt_callV (v2 := none) dMo_reg_64 lMo_277 vMo_must ⟨_, _, rfl⟩ (Mo_must_ok _ _ _ _ hR _ _ _ (hp.1 h48).1) rfl rfl rfl (Nat.le_of_ble_eq_true rfl) (fun h64 => ?_) (fun h64 => hF.trans (by first | (simp only [fMo_reg_39, if_pos h48, if_neg h64]; done) | (simp only [fMo_reg_39, if_pos h48, if_neg h64]; rfl) | rfl))
    refine pm_wk [1, 2, 3, 0] rfl ?_
    exact Mo_reg_n67 g d ex R hR J _ _ _ _   _ _ _ _ ((hp.1 h48).2 h64) (hF.trans (by first | (simp only [fMo_reg_39, if_pos h48, if_pos h64]; done) | (simp only [fMo_reg_39, if_pos h48, if_pos h64]; with_reducible rfl) | with_reducible rfl))
  ·
    refine pt_wr (e := 3) (w := y2) (v2 := none) dMo_reg_51 dMo_reg_54 nMo_187 (by decide) (hF.trans (by first | (simp only [fMo_reg_39, if_neg h48]; done) | (simp only [fMo_reg_39, if_neg h48]; rfl) | rfl)) ?_
    refine pm_iconst (v := 3) dMo_reg_55 (by decide) ?_
    refine pm_iload_n dMo_reg_56 rfl ?_
    exact pt_wi dMo_reg_57 lMo_189 dMo_reg_60 (by decide +kernel) (Nat.le_of_ble_eq_true rfl)
set_option maxHeartbeats 4000000 in
set_option maxRecDepth 100000 in
theorem Mo_reg_n31 (g : pmG) (d : Nat) (ex : List (Nat × Nat)) (R : Nat → Nat → Value) (hR : mk_R R) (J : Nat → Nat → Int64) (o : Outcome) (Z : pmM) (rc rs : Nat)  (y1 : Int32) (z0 : Int32) (I : Nat → Nat → Int32) (hp : pMo_reg_31 y1 z0 I) (hF : (o, Z, rc, rs) = pt_V (mk_K ++ ex) R J (fMo_reg_31 y1 z0 I)) : pmE g kMo_reg (d + 12) rc rs 31 [(0, .ref 40), (1, .int y1)] [.int z0] (mk_K ++ ex) R I J o Z := by
  unfold pMo_reg_31 at hp
  refine pm_istore_n dMo_reg_31 (by decide) rfl ?_
  refine pm_aload_n dMo_reg_32 rfl ?_
  refine pm_iconst (v := 1) dMo_reg_33 (by decide) ?_
  refine pm_bipush (v := 8) dMo_reg_34 (by decide) ?_
  refine pt_callV (v2 := none) dMo_reg_36 lMo_294 vMo_number ⟨_, _, rfl⟩ (Mo_number_ok _ _ _ _ hR _ _ _ _ _ hp.1) rfl rfl rfl (Nat.le_of_ble_eq_true rfl) (fun h36 => ?_) (fun h36 => hF.trans (by first | (simp only [fMo_reg_31, if_neg h36]; done) | (simp only [fMo_reg_31, if_neg h36]; rfl) | rfl))
  refine pm_wk [1, 2, 0] rfl ?_
  exact Mo_reg_n39 g d ex R hR J _ _ _ _   _ _ _ _ (hp.2 h36) (hF.trans (by first | (simp only [fMo_reg_31, if_pos h36]; done) | (simp only [fMo_reg_31, if_pos h36]; with_reducible rfl) | with_reducible rfl))
set_option maxHeartbeats 4000000 in
set_option maxRecDepth 100000 in
theorem Mo_reg_n19 (g : pmG) (d : Nat) (ex : List (Nat × Nat)) (R : Nat → Nat → Value) (hR : mk_R R) (J : Nat → Nat → Int64) (o : Outcome) (Z : pmM) (rc rs : Nat)  (y1 : Int32) (z0 : Int32) (I : Nat → Nat → Int32) (hp : pMo_reg_19 y1 z0 I) (hF : (o, Z, rc, rs) = pt_V (mk_K ++ ex) R J (fMo_reg_19 y1 z0 I)) : pmE g kMo_reg (d + 12) rc rs 19 [(0, .ref 40), (1, .int y1)] [.int z0] (mk_K ++ ex) R I J o Z := by
  unfold pMo_reg_19 at hp
  refine pm_iconst (v := 2) dMo_reg_19 (by decide) ?_
  refine pm_icmp_ne 30 dMo_reg_20 (by decide) (fun h20 => ?_) (fun h20 => ?_)
  ·
    refine pm_iconst (v := 0) dMo_reg_30 (by decide) ?_
    refine pm_wk [0, 1] rfl ?_
    exact Mo_reg_n31 g d ex R hR J _ _ _ _   _ _ _ (hp.2 h20) (hF.trans (by first | (simp only [fMo_reg_19, if_neg h20]; done) | (simp only [fMo_reg_19, if_neg h20]; with_reducible rfl) | with_reducible rfl))
  ·
    refine pm_aload_n dMo_reg_23 rfl ?_
    refine pm_geti dMo_reg_24 fMo_33 rfl ?_
    refine pm_goto 31 dMo_reg_27 (by decide) ?_
    refine pm_wk [0, 1] rfl ?_
    exact Mo_reg_n31 g d ex R hR J _ _ _ _   _ _ _ (hp.1 h20) (hF.trans (by first | (simp only [fMo_reg_19, if_pos h20]; done) | (simp only [fMo_reg_19, if_pos h20]; with_reducible rfl) | with_reducible rfl))
set_option maxHeartbeats 4000000 in
set_option maxRecDepth 100000 in
theorem Mo_reg_n15 (g : pmG) (d : Nat) (ex : List (Nat × Nat)) (R : Nat → Nat → Value) (hR : mk_R R) (J : Nat → Nat → Int64) (o : Outcome) (Z : pmM) (rc rs : Nat)  (y1 : Int32) (I : Nat → Nat → Int32) (hp : pMo_reg_15 y1 I) (hF : (o, Z, rc, rs) = pt_V (mk_K ++ ex) R J (fMo_reg_15 y1 I)) : pmE g kMo_reg (d + 12) rc rs 15 [(0, .ref 40), (1, .int y1)] [] (mk_K ++ ex) R I J o Z := by
  unfold pMo_reg_15 at hp
  refine pm_aload_n dMo_reg_15 rfl ?_
  refine pt_callV (v2 := none) dMo_reg_16 lMo_207 vMo_peek ⟨_, _, rfl⟩ (Mo_peek_ok _ _ _ _ hR _ _ _ _ hp.1) rfl rfl rfl (Nat.le_of_ble_eq_true rfl) (fun h16 => ?_) (fun h16 => hF.trans (by first | (simp only [fMo_reg_15, if_neg h16]; done) | (simp only [fMo_reg_15, if_neg h16]; rfl) | rfl))
  refine pm_wk [0, 1] rfl ?_
  exact Mo_reg_n19 g d ex R hR J _ _ _ _   _ _ _ (hp.2 h16) (hF.trans (by first | (simp only [fMo_reg_15, if_pos h16]; done) | (simp only [fMo_reg_15, if_pos h16]; with_reducible rfl) | with_reducible rfl))
set_option maxHeartbeats 4000000 in
set_option maxRecDepth 100000 in
theorem Mo_reg_n8 (g : pmG) (d : Nat) (ex : List (Nat × Nat)) (R : Nat → Nat → Value) (hR : mk_R R) (J : Nat → Nat → Int64) (o : Outcome) (Z : pmM) (rc rs : Nat)  (z0 : Int32) (I : Nat → Nat → Int32) (hp : pMo_reg_8 z0 I) (hF : (o, Z, rc, rs) = pt_V (mk_K ++ ex) R J (fMo_reg_8 z0 I)) : pmE g kMo_reg (d + 12) rc rs 8 [(0, .ref 40)] [.int z0] (mk_K ++ ex) R I J o Z := by
  unfold pMo_reg_8 at hp
  refine pm_istore_n dMo_reg_8 (by decide) rfl ?_
  refine pm_aload_n dMo_reg_9 rfl ?_
  refine pm_bipush (v := 58) dMo_reg_10 (by decide) ?_
  refine pt_callV (v2 := none) dMo_reg_12 lMo_277 vMo_must ⟨_, _, rfl⟩ (Mo_must_ok _ _ _ _ hR _ _ _ hp.1) rfl rfl rfl (Nat.le_of_ble_eq_true rfl) (fun h12 => ?_) (fun h12 => hF.trans (by first | (simp only [fMo_reg_8, if_neg h12]; done) | (simp only [fMo_reg_8, if_neg h12]; rfl) | rfl))
  refine pm_wk [1, 0] rfl ?_
  exact Mo_reg_n15 g d ex R hR J _ _ _ _   _ _ (hp.2 h12) (hF.trans (by first | (simp only [fMo_reg_8, if_pos h12]; done) | (simp only [fMo_reg_8, if_pos h12]; with_reducible rfl) | with_reducible rfl))
set_option maxHeartbeats 4000000 in
set_option maxRecDepth 100000 in
theorem Mo_reg_n4 (g : pmG) (d : Nat) (ex : List (Nat × Nat)) (R : Nat → Nat → Value) (hR : mk_R R) (J : Nat → Nat → Int64) (o : Outcome) (Z : pmM) (rc rs : Nat)  (I : Nat → Nat → Int32) (hp : pMo_reg_4 I) (hF : (o, Z, rc, rs) = pt_V (mk_K ++ ex) R J (fMo_reg_4 I)) : pmE g kMo_reg (d + 12) rc rs 4 [(0, .ref 40)] [] (mk_K ++ ex) R I J o Z := by
  unfold pMo_reg_4 at hp
  refine pm_aload_n dMo_reg_4 rfl ?_
  refine pt_callV (v2 := none) dMo_reg_5 lMo_322 vMo_declare ⟨_, _, rfl⟩ (Mo_declare_ok _ _ _ _ hR  _ _ hp.1) rfl rfl rfl (Nat.le_of_ble_eq_true rfl) (fun h5 => ?_) (fun h5 => hF.trans (by first | (simp only [fMo_reg_4, if_neg h5]; done) | (simp only [fMo_reg_4, if_neg h5]; rfl) | rfl))
  refine pm_wk [0] rfl ?_
  exact Mo_reg_n8 g d ex R hR J _ _ _ _   _ _ (hp.2 h5) (hF.trans (by first | (simp only [fMo_reg_4, if_pos h5]; done) | (simp only [fMo_reg_4, if_pos h5]; with_reducible rfl) | with_reducible rfl))
set_option maxHeartbeats 4000000 in
set_option maxRecDepth 100000 in
theorem Mo_reg_n0 (g : pmG) (d : Nat) (ex : List (Nat × Nat)) (R : Nat → Nat → Value) (hR : mk_R R) (J : Nat → Nat → Int64) (o : Outcome) (Z : pmM) (rc rs : Nat)  (I : Nat → Nat → Int32) (hp : pMo_reg I) (hF : (o, Z, rc, rs) = pt_V (mk_K ++ ex) R J (fMo_reg I)) : pmE g kMo_reg (d + 12) rc rs 0 [(0, .ref 40)] [] (mk_K ++ ex) R I J o Z := by
  unfold pMo_reg at hp
  refine pm_aload_n dMo_reg_0 rfl ?_
  refine pt_callV (v2 := none) dMo_reg_1 lMo_215 vMo_take ⟨_, _, rfl⟩ (Mo_take_ok _ _ _ _ hR  _ _ hp.1) rfl rfl rfl (Nat.le_of_ble_eq_true rfl) (fun h1 => ?_) (fun h1 => hF.trans (by first | (simp only [fMo_reg, if_neg h1]; done) | (simp only [fMo_reg, if_neg h1]; rfl) | rfl))
  refine pm_wk [0] rfl ?_
  exact Mo_reg_n4 g d ex R hR J _ _ _ _   _ (hp.2 h1) (hF.trans (by first | (simp only [fMo_reg, if_pos h1]; done) | (simp only [fMo_reg, if_pos h1]; with_reducible rfl) | with_reducible rfl))
set_option maxHeartbeats 4000000 in
set_option maxRecDepth 100000 in
theorem Mo_reg_ok (g : pmG) (d : Nat) (ex : List (Nat × Nat)) (R : Nat → Nat → Value) (hR : mk_R R)   (I : Nat → Nat → Int32) (J : Nat → Nat → Int64) (hp : pMo_reg I) : pmT g kMo_reg (d + 12) [.ref 40] (mk_K ++ ex, R, I, J) (pt_V (mk_K ++ ex) R J (fMo_reg I)) :=
  pmC.of (by decide) (Nat.le_of_ble_eq_true rfl) (Mo_reg_n0 g d ex R hR J _ _ _ _   I hp rfl)
def fMo_input_38  (y1 : Int32) (y2 : Int32) (z0 : Int32) (I : Nat → Nat → Int32) : Int32 × Int32 × (Nat → Nat → Int32) :=
  if ((I 40 28) + z0) ≤ (3 : Int32) then (0, 0, pm_u (pm_u (pm_u (pm_u (pm_u I 49 (I 40 24).toNatClampNeg z0) 40 28 ((I 40 28) + z0)) 44 y1.toNatClampNeg (2 : Int32)) 40 24 ((I 40 24) + (1 : Int32))) 45 y1.toNatClampNeg (I 40 24))
  else (3, y2, I)
def pMo_input_38  (y1 : Int32) (y2 : Int32) (z0 : Int32) (I : Nat → Nat → Int32) : Prop :=
  (((I 40 28) + z0) ≤ (3 : Int32) → (vp_in (I 40 24) 3) ∧ ((vp_in y1 60) ∧ ((vp_in y1 60) ∧ True))) ∧
  (¬ (((I 40 28) + z0) ≤ (3 : Int32)) → True)
def fMo_input_31  (y1 : Int32) (z0 : Int32) (I : Nat → Nat → Int32) : Int32 × Int32 × (Nat → Nat → Int32) :=
  if (fMo_number 65537 (1 : Int32) (3 : Int32) I).1 = 0 then fMo_input_38 y1 z0 ((fMo_number 65537 (1 : Int32) (3 : Int32) I).2.2.1) ((fMo_number 65537 (1 : Int32) (3 : Int32) I).2.2.2)
  else ((fMo_number 65537 (1 : Int32) (3 : Int32) I).1, (fMo_number 65537 (1 : Int32) (3 : Int32) I).2.1, (fMo_number 65537 (1 : Int32) (3 : Int32) I).2.2.2)
def pMo_input_31  (y1 : Int32) (z0 : Int32) (I : Nat → Nat → Int32) : Prop :=
  (pMo_number 65537 (1 : Int32) (3 : Int32) I) ∧ ((fMo_number 65537 (1 : Int32) (3 : Int32) I).1 = 0 → pMo_input_38 y1 z0 ((fMo_number 65537 (1 : Int32) (3 : Int32) I).2.2.1) ((fMo_number 65537 (1 : Int32) (3 : Int32) I).2.2.2))
def fMo_input_19  (y1 : Int32) (z0 : Int32) (I : Nat → Nat → Int32) : Int32 × Int32 × (Nat → Nat → Int32) :=
  if z0 = (2 : Int32) then fMo_input_31 y1 (I 40 7) I
  else fMo_input_31 y1 (0 : Int32) I
def pMo_input_19  (y1 : Int32) (z0 : Int32) (I : Nat → Nat → Int32) : Prop :=
  (z0 = (2 : Int32) → pMo_input_31 y1 (I 40 7) I) ∧
  (¬ (z0 = (2 : Int32)) → pMo_input_31 y1 (0 : Int32) I)
def fMo_input_15  (y1 : Int32) (I : Nat → Nat → Int32) : Int32 × Int32 × (Nat → Nat → Int32) :=
  if (fMo_peek 65537 65537 I).1 = 0 then fMo_input_19 y1 ((fMo_peek 65537 65537 I).2.2.1) ((fMo_peek 65537 65537 I).2.2.2)
  else ((fMo_peek 65537 65537 I).1, (fMo_peek 65537 65537 I).2.1, (fMo_peek 65537 65537 I).2.2.2)
def pMo_input_15  (y1 : Int32) (I : Nat → Nat → Int32) : Prop :=
  (pMo_peek 65537 65537 I) ∧ ((fMo_peek 65537 65537 I).1 = 0 → pMo_input_19 y1 ((fMo_peek 65537 65537 I).2.2.1) ((fMo_peek 65537 65537 I).2.2.2))
def fMo_input_8  (z0 : Int32) (I : Nat → Nat → Int32) : Int32 × Int32 × (Nat → Nat → Int32) :=
  if (fMo_must (58 : Int32) I).1 = 0 then fMo_input_15 z0 ((fMo_must (58 : Int32) I).2.2)
  else ((fMo_must (58 : Int32) I).1, (fMo_must (58 : Int32) I).2.1, (fMo_must (58 : Int32) I).2.2)
def pMo_input_8  (z0 : Int32) (I : Nat → Nat → Int32) : Prop :=
  (pMo_must (58 : Int32) I) ∧ ((fMo_must (58 : Int32) I).1 = 0 → pMo_input_15 z0 ((fMo_must (58 : Int32) I).2.2))
def fMo_input_4  (I : Nat → Nat → Int32) : Int32 × Int32 × (Nat → Nat → Int32) :=
  if (fMo_declare I).1 = 0 then fMo_input_8 ((fMo_declare I).2.2.1) ((fMo_declare I).2.2.2)
  else ((fMo_declare I).1, (fMo_declare I).2.1, (fMo_declare I).2.2.2)
def pMo_input_4  (I : Nat → Nat → Int32) : Prop :=
  (pMo_declare I) ∧ ((fMo_declare I).1 = 0 → pMo_input_8 ((fMo_declare I).2.2.1) ((fMo_declare I).2.2.2))
def fMo_input  (I : Nat → Nat → Int32) : Int32 × Int32 × (Nat → Nat → Int32) :=
  if (fMo_take I).1 = 0 then fMo_input_4 ((fMo_take I).2.2)
  else ((fMo_take I).1, (fMo_take I).2.1, (fMo_take I).2.2)
def pMo_input  (I : Nat → Nat → Int32) : Prop :=
  (pMo_take I) ∧ ((fMo_take I).1 = 0 → pMo_input_4 ((fMo_take I).2.2))
set_option maxHeartbeats 4000000 in
set_option maxRecDepth 100000 in
theorem Mo_input_n38 (g : pmG) (d : Nat) (ex : List (Nat × Nat)) (R : Nat → Nat → Value) (hR : mk_R R) (J : Nat → Nat → Int64) (o : Outcome) (Z : pmM) (rc rs : Nat)  (y1 : Int32) (y2 : Int32) (z0 : Int32) (I : Nat → Nat → Int32) (hp : pMo_input_38 y1 y2 z0 I) (hF : (o, Z, rc, rs) = pt_V (mk_K ++ ex) R J (fMo_input_38 y1 y2 z0 I)) : pmE g kMo_input (d + 12) rc rs 38 [(0, .ref 40), (1, .int y1), (2, .int y2)] [.int z0] (mk_K ++ ex) R I J o Z := by
  unfold pMo_input_38 at hp
  refine pm_istore_n dMo_input_38 (by decide) rfl ?_
  refine pm_aload_n dMo_input_39 rfl ?_
  refine pm_geti dMo_input_40 fMo_98 rfl ?_
  refine pm_iload_n dMo_input_43 rfl ?_
  refine pm_iadd dMo_input_44 ?_
  refine pm_iconst (v := 3) dMo_input_45 (by decide) ?_
  refine pm_icmp_le 59 dMo_input_46 (by decide) (fun h46 => ?_) (fun h46 => ?_)
  ·
    refine pm_aload_n dMo_input_59 rfl ?_
    refine pm_getr dMo_input_60 fMo_74 rfl (rr_40_20 hR) ?_
    refine pm_aload_n dMo_input_63 rfl ?_
    refine pm_geti dMo_input_64 fMo_86 rfl ?_
    refine pm_iload_n dMo_input_67 rfl ?_
    refine pm_iast dMo_input_68 rfl (hp.1 h46).1 ?_
    refine pm_aload_n dMo_input_69 rfl ?_
    refine pm_dup dMo_input_70 rfl ?_
    refine pm_geti dMo_input_71 fMo_98 rfl ?_
    refine pm_eqi (I 40 28) rfl ?_
    refine pm_iload_n dMo_input_74 rfl ?_
    refine pm_iadd dMo_input_75 ?_
    refine pm_puti dMo_input_76 fMo_98 sMo_98 (fun h => by cases h) rfl rfl rfl ?_
    refine pm_aload_n dMo_input_79 rfl ?_
    refine pm_getr dMo_input_80 fMo_56 rfl (rr_40_14 hR) ?_
    refine pm_iload_n dMo_input_83 rfl ?_
    refine pm_iconst (v := 2) dMo_input_84 (by decide) ?_
    refine pm_iast dMo_input_85 rfl (hp.1 h46).2.1 ?_
    refine pm_aload_n dMo_input_86 rfl ?_
    refine pm_getr dMo_input_87 fMo_59 rfl (rr_40_15 hR) ?_
    refine pm_iload_n dMo_input_90 rfl ?_
    refine pm_aload_n dMo_input_91 rfl ?_
    refine pm_dup dMo_input_92 rfl ?_
    refine pm_geti dMo_input_93 fMo_86 rfl ?_
    refine pm_eqi (I 40 24) rfl ?_
    refine pm_dup_x1 dMo_input_96 rfl rfl ?_
    refine pm_iconst (v := 1) dMo_input_97 (by decide) ?_
    refine pm_iadd dMo_input_98 ?_
    refine pm_puti dMo_input_99 fMo_86 sMo_86 (fun h => by cases h) rfl rfl rfl ?_
    refine pm_iast dMo_input_102 rfl (hp.1 h46).2.2.1 ?_
    exact pt_vret dMo_input_103 rfl (hF.trans (by first | (simp only [fMo_input_38, if_pos h46]; done) | (simp only [fMo_input_38, if_pos h46]; rfl) | rfl))
  ·
    refine pt_wr (e := 3) (w := y2) (v2 := none) dMo_input_49 dMo_input_52 nMo_187 (by decide) (hF.trans (by first | (simp only [fMo_input_38, if_neg h46]; done) | (simp only [fMo_input_38, if_neg h46]; rfl) | rfl)) ?_
    refine pm_iconst (v := 3) dMo_input_53 (by decide) ?_
    refine pm_iload_n dMo_input_54 rfl ?_
    exact pt_wi dMo_input_55 lMo_189 dMo_input_58 (by decide +kernel) (Nat.le_of_ble_eq_true rfl)
set_option maxHeartbeats 4000000 in
set_option maxRecDepth 100000 in
theorem Mo_input_n31 (g : pmG) (d : Nat) (ex : List (Nat × Nat)) (R : Nat → Nat → Value) (hR : mk_R R) (J : Nat → Nat → Int64) (o : Outcome) (Z : pmM) (rc rs : Nat)  (y1 : Int32) (z0 : Int32) (I : Nat → Nat → Int32) (hp : pMo_input_31 y1 z0 I) (hF : (o, Z, rc, rs) = pt_V (mk_K ++ ex) R J (fMo_input_31 y1 z0 I)) : pmE g kMo_input (d + 12) rc rs 31 [(0, .ref 40), (1, .int y1)] [.int z0] (mk_K ++ ex) R I J o Z := by
  unfold pMo_input_31 at hp
  refine pm_istore_n dMo_input_31 (by decide) rfl ?_
  refine pm_aload_n dMo_input_32 rfl ?_
  refine pm_iconst (v := 1) dMo_input_33 (by decide) ?_
  refine pm_iconst (v := 3) dMo_input_34 (by decide) ?_
  refine pt_callV (v2 := none) dMo_input_35 lMo_294 vMo_number ⟨_, _, rfl⟩ (Mo_number_ok _ _ _ _ hR _ _ _ _ _ hp.1) rfl rfl rfl (Nat.le_of_ble_eq_true rfl) (fun h35 => ?_) (fun h35 => hF.trans (by first | (simp only [fMo_input_31, if_neg h35]; done) | (simp only [fMo_input_31, if_neg h35]; rfl) | rfl))
  refine pm_wk [1, 2, 0] rfl ?_
  exact Mo_input_n38 g d ex R hR J _ _ _ _   _ _ _ _ (hp.2 h35) (hF.trans (by first | (simp only [fMo_input_31, if_pos h35]; done) | (simp only [fMo_input_31, if_pos h35]; with_reducible rfl) | with_reducible rfl))
set_option maxHeartbeats 4000000 in
set_option maxRecDepth 100000 in
theorem Mo_input_n19 (g : pmG) (d : Nat) (ex : List (Nat × Nat)) (R : Nat → Nat → Value) (hR : mk_R R) (J : Nat → Nat → Int64) (o : Outcome) (Z : pmM) (rc rs : Nat)  (y1 : Int32) (z0 : Int32) (I : Nat → Nat → Int32) (hp : pMo_input_19 y1 z0 I) (hF : (o, Z, rc, rs) = pt_V (mk_K ++ ex) R J (fMo_input_19 y1 z0 I)) : pmE g kMo_input (d + 12) rc rs 19 [(0, .ref 40), (1, .int y1)] [.int z0] (mk_K ++ ex) R I J o Z := by
  unfold pMo_input_19 at hp
  refine pm_iconst (v := 2) dMo_input_19 (by decide) ?_
  refine pm_icmp_ne 30 dMo_input_20 (by decide) (fun h20 => ?_) (fun h20 => ?_)
  ·
    refine pm_iconst (v := 0) dMo_input_30 (by decide) ?_
    refine pm_wk [0, 1] rfl ?_
    exact Mo_input_n31 g d ex R hR J _ _ _ _   _ _ _ (hp.2 h20) (hF.trans (by first | (simp only [fMo_input_19, if_neg h20]; done) | (simp only [fMo_input_19, if_neg h20]; with_reducible rfl) | with_reducible rfl))
  ·
    refine pm_aload_n dMo_input_23 rfl ?_
    refine pm_geti dMo_input_24 fMo_33 rfl ?_
    refine pm_goto 31 dMo_input_27 (by decide) ?_
    refine pm_wk [0, 1] rfl ?_
    exact Mo_input_n31 g d ex R hR J _ _ _ _   _ _ _ (hp.1 h20) (hF.trans (by first | (simp only [fMo_input_19, if_pos h20]; done) | (simp only [fMo_input_19, if_pos h20]; with_reducible rfl) | with_reducible rfl))
set_option maxHeartbeats 4000000 in
set_option maxRecDepth 100000 in
theorem Mo_input_n15 (g : pmG) (d : Nat) (ex : List (Nat × Nat)) (R : Nat → Nat → Value) (hR : mk_R R) (J : Nat → Nat → Int64) (o : Outcome) (Z : pmM) (rc rs : Nat)  (y1 : Int32) (I : Nat → Nat → Int32) (hp : pMo_input_15 y1 I) (hF : (o, Z, rc, rs) = pt_V (mk_K ++ ex) R J (fMo_input_15 y1 I)) : pmE g kMo_input (d + 12) rc rs 15 [(0, .ref 40), (1, .int y1)] [] (mk_K ++ ex) R I J o Z := by
  unfold pMo_input_15 at hp
  refine pm_aload_n dMo_input_15 rfl ?_
  refine pt_callV (v2 := none) dMo_input_16 lMo_207 vMo_peek ⟨_, _, rfl⟩ (Mo_peek_ok _ _ _ _ hR _ _ _ _ hp.1) rfl rfl rfl (Nat.le_of_ble_eq_true rfl) (fun h16 => ?_) (fun h16 => hF.trans (by first | (simp only [fMo_input_15, if_neg h16]; done) | (simp only [fMo_input_15, if_neg h16]; rfl) | rfl))
  refine pm_wk [0, 1] rfl ?_
  exact Mo_input_n19 g d ex R hR J _ _ _ _   _ _ _ (hp.2 h16) (hF.trans (by first | (simp only [fMo_input_15, if_pos h16]; done) | (simp only [fMo_input_15, if_pos h16]; with_reducible rfl) | with_reducible rfl))
set_option maxHeartbeats 4000000 in
set_option maxRecDepth 100000 in
theorem Mo_input_n8 (g : pmG) (d : Nat) (ex : List (Nat × Nat)) (R : Nat → Nat → Value) (hR : mk_R R) (J : Nat → Nat → Int64) (o : Outcome) (Z : pmM) (rc rs : Nat)  (z0 : Int32) (I : Nat → Nat → Int32) (hp : pMo_input_8 z0 I) (hF : (o, Z, rc, rs) = pt_V (mk_K ++ ex) R J (fMo_input_8 z0 I)) : pmE g kMo_input (d + 12) rc rs 8 [(0, .ref 40)] [.int z0] (mk_K ++ ex) R I J o Z := by
  unfold pMo_input_8 at hp
  refine pm_istore_n dMo_input_8 (by decide) rfl ?_
  refine pm_aload_n dMo_input_9 rfl ?_
  refine pm_bipush (v := 58) dMo_input_10 (by decide) ?_
  refine pt_callV (v2 := none) dMo_input_12 lMo_277 vMo_must ⟨_, _, rfl⟩ (Mo_must_ok _ _ _ _ hR _ _ _ hp.1) rfl rfl rfl (Nat.le_of_ble_eq_true rfl) (fun h12 => ?_) (fun h12 => hF.trans (by first | (simp only [fMo_input_8, if_neg h12]; done) | (simp only [fMo_input_8, if_neg h12]; rfl) | rfl))
  refine pm_wk [1, 0] rfl ?_
  exact Mo_input_n15 g d ex R hR J _ _ _ _   _ _ (hp.2 h12) (hF.trans (by first | (simp only [fMo_input_8, if_pos h12]; done) | (simp only [fMo_input_8, if_pos h12]; with_reducible rfl) | with_reducible rfl))
set_option maxHeartbeats 4000000 in
set_option maxRecDepth 100000 in
theorem Mo_input_n4 (g : pmG) (d : Nat) (ex : List (Nat × Nat)) (R : Nat → Nat → Value) (hR : mk_R R) (J : Nat → Nat → Int64) (o : Outcome) (Z : pmM) (rc rs : Nat)  (I : Nat → Nat → Int32) (hp : pMo_input_4 I) (hF : (o, Z, rc, rs) = pt_V (mk_K ++ ex) R J (fMo_input_4 I)) : pmE g kMo_input (d + 12) rc rs 4 [(0, .ref 40)] [] (mk_K ++ ex) R I J o Z := by
  unfold pMo_input_4 at hp
  refine pm_aload_n dMo_input_4 rfl ?_
  refine pt_callV (v2 := none) dMo_input_5 lMo_322 vMo_declare ⟨_, _, rfl⟩ (Mo_declare_ok _ _ _ _ hR  _ _ hp.1) rfl rfl rfl (Nat.le_of_ble_eq_true rfl) (fun h5 => ?_) (fun h5 => hF.trans (by first | (simp only [fMo_input_4, if_neg h5]; done) | (simp only [fMo_input_4, if_neg h5]; rfl) | rfl))
  refine pm_wk [0] rfl ?_
  exact Mo_input_n8 g d ex R hR J _ _ _ _   _ _ (hp.2 h5) (hF.trans (by first | (simp only [fMo_input_4, if_pos h5]; done) | (simp only [fMo_input_4, if_pos h5]; with_reducible rfl) | with_reducible rfl))
set_option maxHeartbeats 4000000 in
set_option maxRecDepth 100000 in
theorem Mo_input_n0 (g : pmG) (d : Nat) (ex : List (Nat × Nat)) (R : Nat → Nat → Value) (hR : mk_R R) (J : Nat → Nat → Int64) (o : Outcome) (Z : pmM) (rc rs : Nat)  (I : Nat → Nat → Int32) (hp : pMo_input I) (hF : (o, Z, rc, rs) = pt_V (mk_K ++ ex) R J (fMo_input I)) : pmE g kMo_input (d + 12) rc rs 0 [(0, .ref 40)] [] (mk_K ++ ex) R I J o Z := by
  unfold pMo_input at hp
  refine pm_aload_n dMo_input_0 rfl ?_
  refine pt_callV (v2 := none) dMo_input_1 lMo_215 vMo_take ⟨_, _, rfl⟩ (Mo_take_ok _ _ _ _ hR  _ _ hp.1) rfl rfl rfl (Nat.le_of_ble_eq_true rfl) (fun h1 => ?_) (fun h1 => hF.trans (by first | (simp only [fMo_input, if_neg h1]; done) | (simp only [fMo_input, if_neg h1]; rfl) | rfl))
  refine pm_wk [0] rfl ?_
  exact Mo_input_n4 g d ex R hR J _ _ _ _   _ (hp.2 h1) (hF.trans (by first | (simp only [fMo_input, if_pos h1]; done) | (simp only [fMo_input, if_pos h1]; with_reducible rfl) | with_reducible rfl))
set_option maxHeartbeats 4000000 in
set_option maxRecDepth 100000 in
theorem Mo_input_ok (g : pmG) (d : Nat) (ex : List (Nat × Nat)) (R : Nat → Nat → Value) (hR : mk_R R)   (I : Nat → Nat → Int32) (J : Nat → Nat → Int64) (hp : pMo_input I) : pmT g kMo_input (d + 12) [.ref 40] (mk_K ++ ex, R, I, J) (pt_V (mk_K ++ ex) R J (fMo_input I)) :=
  pmC.of (by decide) (Nat.le_of_ble_eq_true rfl) (Mo_input_n0 g d ex R hR J _ _ _ _   I hp rfl)
def fMo_wire_28  (y1 : Int32) (z1 : Int32) (z2 : Int32) (I : Nat → Nat → Int32) : Int32 × Int32 × (Nat → Nat → Int32) :=
  (0, 0, pm_u (pm_u (pm_u (pm_u I 50 z1.toNatClampNeg z2) 44 y1.toNatClampNeg (3 : Int32)) 40 25 ((I 40 25) + (1 : Int32))) 45 y1.toNatClampNeg (I 40 25))
def pMo_wire_28  (y1 : Int32) (z1 : Int32) (z2 : Int32) (I : Nat → Nat → Int32) : Prop :=
  (vp_in z1 60) ∧ ((vp_in y1 60) ∧ ((vp_in y1 60) ∧ True))
def fMo_wire_15  (y1 : Int32) (I : Nat → Nat → Int32) : Int32 × Int32 × (Nat → Nat → Int32) :=
  if (fme_Mo_expression (0 : Int32) I).1 = 0 then fMo_wire_28 y1 (I 40 25) ((fme_Mo_expression (0 : Int32) I).2.2.1) ((fme_Mo_expression (0 : Int32) I).2.2.2)
  else ((fme_Mo_expression (0 : Int32) I).1, (fme_Mo_expression (0 : Int32) I).2.1, (fme_Mo_expression (0 : Int32) I).2.2.2)
def pMo_wire_15  (y1 : Int32) (I : Nat → Nat → Int32) : Prop :=
  (pme_Mo_expression (0 : Int32) I) ∧ ((fme_Mo_expression (0 : Int32) I).1 = 0 → pMo_wire_28 y1 (I 40 25) ((fme_Mo_expression (0 : Int32) I).2.2.1) ((fme_Mo_expression (0 : Int32) I).2.2.2))
def fMo_wire_8  (z0 : Int32) (I : Nat → Nat → Int32) : Int32 × Int32 × (Nat → Nat → Int32) :=
  if (fMo_must (61 : Int32) I).1 = 0 then fMo_wire_15 z0 ((fMo_must (61 : Int32) I).2.2)
  else ((fMo_must (61 : Int32) I).1, (fMo_must (61 : Int32) I).2.1, (fMo_must (61 : Int32) I).2.2)
def pMo_wire_8  (z0 : Int32) (I : Nat → Nat → Int32) : Prop :=
  (pMo_must (61 : Int32) I) ∧ ((fMo_must (61 : Int32) I).1 = 0 → pMo_wire_15 z0 ((fMo_must (61 : Int32) I).2.2))
def fMo_wire_4  (I : Nat → Nat → Int32) : Int32 × Int32 × (Nat → Nat → Int32) :=
  if (fMo_declare I).1 = 0 then fMo_wire_8 ((fMo_declare I).2.2.1) ((fMo_declare I).2.2.2)
  else ((fMo_declare I).1, (fMo_declare I).2.1, (fMo_declare I).2.2.2)
def pMo_wire_4  (I : Nat → Nat → Int32) : Prop :=
  (pMo_declare I) ∧ ((fMo_declare I).1 = 0 → pMo_wire_8 ((fMo_declare I).2.2.1) ((fMo_declare I).2.2.2))
def fMo_wire  (I : Nat → Nat → Int32) : Int32 × Int32 × (Nat → Nat → Int32) :=
  if (fMo_take I).1 = 0 then fMo_wire_4 ((fMo_take I).2.2)
  else ((fMo_take I).1, (fMo_take I).2.1, (fMo_take I).2.2)
def pMo_wire  (I : Nat → Nat → Int32) : Prop :=
  (pMo_take I) ∧ ((fMo_take I).1 = 0 → pMo_wire_4 ((fMo_take I).2.2))
set_option maxHeartbeats 4000000 in
set_option maxRecDepth 100000 in
theorem Mo_wire_n28 (g : pmG) (d : Nat) (ex : List (Nat × Nat)) (R : Nat → Nat → Value) (hR : mk_R R) (J : Nat → Nat → Int64) (o : Outcome) (Z : pmM) (rc rs : Nat)  (y1 : Int32) (z1 : Int32) (z2 : Int32) (I : Nat → Nat → Int32) (hp : pMo_wire_28 y1 z1 z2 I) (hF : (o, Z, rc, rs) = pt_V (mk_K ++ ex) R J (fMo_wire_28 y1 z1 z2 I)) : pmE g kMo_wire (d + 613) rc rs 28 [(0, .ref 40), (1, .int y1)] [.int z2, .int z1, .ref 50] (mk_K ++ ex) R I J o Z := by
  unfold pMo_wire_28 at hp
  refine pm_iast dMo_wire_28 rfl hp.1 ?_
  refine pm_aload_n dMo_wire_29 rfl ?_
  refine pm_getr dMo_wire_30 fMo_56 rfl (rr_40_14 hR) ?_
  refine pm_iload_n dMo_wire_33 rfl ?_
  refine pm_iconst (v := 3) dMo_wire_34 (by decide) ?_
  refine pm_iast dMo_wire_35 rfl hp.2.1 ?_
  refine pm_aload_n dMo_wire_36 rfl ?_
  refine pm_getr dMo_wire_37 fMo_59 rfl (rr_40_15 hR) ?_
  refine pm_iload_n dMo_wire_40 rfl ?_
  refine pm_aload_n dMo_wire_41 rfl ?_
  refine pm_dup dMo_wire_42 rfl ?_
  refine pm_geti dMo_wire_43 fMo_89 rfl ?_
  refine pm_eqi (I 40 25) rfl ?_
  refine pm_dup_x1 dMo_wire_46 rfl rfl ?_
  refine pm_iconst (v := 1) dMo_wire_47 (by decide) ?_
  refine pm_iadd dMo_wire_48 ?_
  refine pm_puti dMo_wire_49 fMo_89 sMo_89 (fun h => by cases h) rfl rfl rfl ?_
  refine pm_iast dMo_wire_52 rfl hp.2.2.1 ?_
  exact pt_vret dMo_wire_53 rfl (hF.trans (by first | (simp only [fMo_wire_28]; done) | (simp only [fMo_wire_28]; rfl) | rfl))
set_option maxHeartbeats 4000000 in
set_option maxRecDepth 100000 in
theorem Mo_wire_n15 (g : pmG) (d : Nat) (ex : List (Nat × Nat)) (R : Nat → Nat → Value) (hR : mk_R R) (J : Nat → Nat → Int64) (o : Outcome) (Z : pmM) (rc rs : Nat)  (y1 : Int32) (I : Nat → Nat → Int32) (hp : pMo_wire_15 y1 I) (hF : (o, Z, rc, rs) = pt_V (mk_K ++ ex) R J (fMo_wire_15 y1 I)) : pmE g kMo_wire (d + 613) rc rs 15 [(0, .ref 40), (1, .int y1)] [] (mk_K ++ ex) R I J o Z := by
  unfold pMo_wire_15 at hp
  refine pm_aload_n dMo_wire_15 rfl ?_
  refine pm_getr dMo_wire_16 fMo_77 rfl (rr_40_21 hR) ?_
  refine pm_aload_n dMo_wire_19 rfl ?_
  refine pm_geti dMo_wire_20 fMo_89 rfl ?_
  refine pm_aload_n dMo_wire_23 rfl ?_
  refine pm_iconst (v := 0) dMo_wire_24 (by decide) ?_
  have hc9 := me_Mo_expression_ok g (d + 0) ex R hR (0 : Int32) I J hp.1
  have hp9 := hp.2
  simp only [fMo_wire_15] at hF
  generalize fme_Mo_expression (0 : Int32) I = X9 at hc9 hp9 hF
  refine pt_callV (v2 := none) dMo_wire_25 lMo_274 vMo_expression ⟨_, _, rfl⟩ hc9 rfl rfl rfl (Nat.le_of_ble_eq_true rfl) (fun h25 => ?_) (fun h25 => hF.trans (by first | (simp only [if_neg h25]; done) | (simp only [if_neg h25]; rfl)))
  refine pm_wk [0, 1] rfl ?_
  exact Mo_wire_n28 g d ex R hR J _ _ _ _   _ _ _ _ (hp9 h25) (hF.trans (by first | (simp only [fMo_wire_15, if_pos h25]; done) | (simp only [fMo_wire_15, if_pos h25]; with_reducible rfl) | with_reducible rfl))
set_option maxHeartbeats 4000000 in
set_option maxRecDepth 100000 in
theorem Mo_wire_n8 (g : pmG) (d : Nat) (ex : List (Nat × Nat)) (R : Nat → Nat → Value) (hR : mk_R R) (J : Nat → Nat → Int64) (o : Outcome) (Z : pmM) (rc rs : Nat)  (z0 : Int32) (I : Nat → Nat → Int32) (hp : pMo_wire_8 z0 I) (hF : (o, Z, rc, rs) = pt_V (mk_K ++ ex) R J (fMo_wire_8 z0 I)) : pmE g kMo_wire (d + 613) rc rs 8 [(0, .ref 40)] [.int z0] (mk_K ++ ex) R I J o Z := by
  unfold pMo_wire_8 at hp
  refine pm_istore_n dMo_wire_8 (by decide) rfl ?_
  refine pm_aload_n dMo_wire_9 rfl ?_
  refine pm_bipush (v := 61) dMo_wire_10 (by decide) ?_
  refine pt_callV (v2 := none) dMo_wire_12 lMo_277 vMo_must ⟨_, _, rfl⟩ (Mo_must_ok _ _ _ _ hR _ _ _ hp.1) rfl rfl rfl (Nat.le_of_ble_eq_true rfl) (fun h12 => ?_) (fun h12 => hF.trans (by first | (simp only [fMo_wire_8, if_neg h12]; done) | (simp only [fMo_wire_8, if_neg h12]; rfl) | rfl))
  refine pm_wk [1, 0] rfl ?_
  exact Mo_wire_n15 g d ex R hR J _ _ _ _   _ _ (hp.2 h12) (hF.trans (by first | (simp only [fMo_wire_8, if_pos h12]; done) | (simp only [fMo_wire_8, if_pos h12]; with_reducible rfl) | with_reducible rfl))
set_option maxHeartbeats 4000000 in
set_option maxRecDepth 100000 in
theorem Mo_wire_n4 (g : pmG) (d : Nat) (ex : List (Nat × Nat)) (R : Nat → Nat → Value) (hR : mk_R R) (J : Nat → Nat → Int64) (o : Outcome) (Z : pmM) (rc rs : Nat)  (I : Nat → Nat → Int32) (hp : pMo_wire_4 I) (hF : (o, Z, rc, rs) = pt_V (mk_K ++ ex) R J (fMo_wire_4 I)) : pmE g kMo_wire (d + 613) rc rs 4 [(0, .ref 40)] [] (mk_K ++ ex) R I J o Z := by
  unfold pMo_wire_4 at hp
  refine pm_aload_n dMo_wire_4 rfl ?_
  refine pt_callV (v2 := none) dMo_wire_5 lMo_322 vMo_declare ⟨_, _, rfl⟩ (Mo_declare_ok _ _ _ _ hR  _ _ hp.1) rfl rfl rfl (Nat.le_of_ble_eq_true rfl) (fun h5 => ?_) (fun h5 => hF.trans (by first | (simp only [fMo_wire_4, if_neg h5]; done) | (simp only [fMo_wire_4, if_neg h5]; rfl) | rfl))
  refine pm_wk [0] rfl ?_
  exact Mo_wire_n8 g d ex R hR J _ _ _ _   _ _ (hp.2 h5) (hF.trans (by first | (simp only [fMo_wire_4, if_pos h5]; done) | (simp only [fMo_wire_4, if_pos h5]; with_reducible rfl) | with_reducible rfl))
set_option maxHeartbeats 4000000 in
set_option maxRecDepth 100000 in
theorem Mo_wire_n0 (g : pmG) (d : Nat) (ex : List (Nat × Nat)) (R : Nat → Nat → Value) (hR : mk_R R) (J : Nat → Nat → Int64) (o : Outcome) (Z : pmM) (rc rs : Nat)  (I : Nat → Nat → Int32) (hp : pMo_wire I) (hF : (o, Z, rc, rs) = pt_V (mk_K ++ ex) R J (fMo_wire I)) : pmE g kMo_wire (d + 613) rc rs 0 [(0, .ref 40)] [] (mk_K ++ ex) R I J o Z := by
  unfold pMo_wire at hp
  refine pm_aload_n dMo_wire_0 rfl ?_
  refine pt_callV (v2 := none) dMo_wire_1 lMo_215 vMo_take ⟨_, _, rfl⟩ (Mo_take_ok _ _ _ _ hR  _ _ hp.1) rfl rfl rfl (Nat.le_of_ble_eq_true rfl) (fun h1 => ?_) (fun h1 => hF.trans (by first | (simp only [fMo_wire, if_neg h1]; done) | (simp only [fMo_wire, if_neg h1]; rfl) | rfl))
  refine pm_wk [0] rfl ?_
  exact Mo_wire_n4 g d ex R hR J _ _ _ _   _ (hp.2 h1) (hF.trans (by first | (simp only [fMo_wire, if_pos h1]; done) | (simp only [fMo_wire, if_pos h1]; with_reducible rfl) | with_reducible rfl))
set_option maxHeartbeats 4000000 in
set_option maxRecDepth 100000 in
theorem Mo_wire_ok (g : pmG) (d : Nat) (ex : List (Nat × Nat)) (R : Nat → Nat → Value) (hR : mk_R R)   (I : Nat → Nat → Int32) (J : Nat → Nat → Int64) (hp : pMo_wire I) : pmT g kMo_wire (d + 613) [.ref 40] (mk_K ++ ex, R, I, J) (pt_V (mk_K ++ ex) R J (fMo_wire I)) :=
  pmC.of (by decide) (Nat.le_of_ble_eq_true rfl) (Mo_wire_n0 g d ex R hR J _ _ _ _   I hp rfl)
def fMo_next_25  (I : Nat → Nat → Int32) : Int32 × Int32 × (Nat → Nat → Int32) :=
  ((fMo_cant I).1, (fMo_cant I).2.1, (fMo_cant I).2.2)
def pMo_next_25  (I : Nat → Nat → Int32) : Prop :=
  pMo_cant I
def fMo_next_63  (y1 : Int32) (I : Nat → Nat → Int32) : Int32 × Int32 × (Nat → Nat → Int32) :=
  (2, I 40 7, I)
def pMo_next_63  (y1 : Int32) (I : Nat → Nat → Int32) : Prop :=
  True
def fMo_next_101  (y1 : Int32) (z1 : Int32) (z2 : Int32) (I : Nat → Nat → Int32) : Int32 × Int32 × (Nat → Nat → Int32) :=
  (0, 0, pm_u I 48 z1.toNatClampNeg z2)
def pMo_next_101  (y1 : Int32) (z1 : Int32) (z2 : Int32) (I : Nat → Nat → Int32) : Prop :=
  (vp_in z1 8) ∧ True
def fMo_next_86  (y1 : Int32) (I : Nat → Nat → Int32) : Int32 × Int32 × (Nat → Nat → Int32) :=
  if (fme_Mo_expression (0 : Int32) I).1 = 0 then fMo_next_101 y1 (I 45 y1.toNatClampNeg) ((fme_Mo_expression (0 : Int32) I).2.2.1) ((fme_Mo_expression (0 : Int32) I).2.2.2)
  else ((fme_Mo_expression (0 : Int32) I).1, (fme_Mo_expression (0 : Int32) I).2.1, (fme_Mo_expression (0 : Int32) I).2.2.2)
def pMo_next_86  (y1 : Int32) (I : Nat → Nat → Int32) : Prop :=
  (vp_in y1 60) ∧ ((pme_Mo_expression (0 : Int32) I) ∧ ((fme_Mo_expression (0 : Int32) I).1 = 0 → pMo_next_101 y1 (I 45 y1.toNatClampNeg) ((fme_Mo_expression (0 : Int32) I).2.2.1) ((fme_Mo_expression (0 : Int32) I).2.2.2)))
def fMo_next_80  (y1 : Int32) (I : Nat → Nat → Int32) : Int32 × Int32 × (Nat → Nat → Int32) :=
  if (fMo_must (61 : Int32) I).1 = 0 then fMo_next_86 y1 ((fMo_must (61 : Int32) I).2.2)
  else ((fMo_must (61 : Int32) I).1, (fMo_must (61 : Int32) I).2.1, (fMo_must (61 : Int32) I).2.2)
def pMo_next_80  (y1 : Int32) (I : Nat → Nat → Int32) : Prop :=
  (pMo_must (61 : Int32) I) ∧ ((fMo_must (61 : Int32) I).1 = 0 → pMo_next_86 y1 ((fMo_must (61 : Int32) I).2.2))
def fMo_next_22  (z0 : Int32) (I : Nat → Nat → Int32) : Int32 × Int32 × (Nat → Nat → Int32) :=
  if z0 = 0 then if ((fMo_named 61 61 I)) < 0 then fMo_next_63 ((fMo_named 61 61 I)) I
    else if (I 44 ((fMo_named 61 61 I)).toNatClampNeg) = (1 : Int32) then if (I 48 (I 45 ((fMo_named 61 61 I)).toNatClampNeg).toNatClampNeg) < 0 then if (fMo_take I).1 = 0 then fMo_next_80 ((fMo_named 61 61 I)) ((fMo_take I).2.2)
          else ((fMo_take I).1, (fMo_take I).2.1, (fMo_take I).2.2)
        else fMo_next_63 ((fMo_named 61 61 I)) I
      else fMo_next_63 ((fMo_named 61 61 I)) I
  else fMo_next_25 I
def pMo_next_22  (z0 : Int32) (I : Nat → Nat → Int32) : Prop :=
  (z0 = 0 → (pMo_named 61 61 I) ∧ ((((fMo_named 61 61 I)) < 0 → pMo_next_63 ((fMo_named 61 61 I)) I) ∧
    (¬ (((fMo_named 61 61 I)) < 0) → (vp_in ((fMo_named 61 61 I)) 60) ∧ (((I 44 ((fMo_named 61 61 I)).toNatClampNeg) = (1 : Int32) → (vp_in ((fMo_named 61 61 I)) 60) ∧ ((vp_in (I 45 ((fMo_named 61 61 I)).toNatClampNeg) 8) ∧ (((I 48 (I 45 ((fMo_named 61 61 I)).toNatClampNeg).toNatClampNeg) < 0 → (pMo_take I) ∧ ((fMo_take I).1 = 0 → pMo_next_80 ((fMo_named 61 61 I)) ((fMo_take I).2.2))) ∧
        (¬ ((I 48 (I 45 ((fMo_named 61 61 I)).toNatClampNeg).toNatClampNeg) < 0) → pMo_next_63 ((fMo_named 61 61 I)) I)))) ∧
      (¬ ((I 44 ((fMo_named 61 61 I)).toNatClampNeg) = (1 : Int32)) → pMo_next_63 ((fMo_named 61 61 I)) I))))) ∧
  (¬ (z0 = 0) → pMo_next_25 I)
def fMo_next_14  (z0 : Int32) (I : Nat → Nat → Int32) : Int32 × Int32 × (Nat → Nat → Int32) :=
  if z0 = (1 : Int32) then if (fMo_reserved I).1 = 0 then fMo_next_22 ((fMo_reserved I).2.2.1) ((fMo_reserved I).2.2.2)
    else ((fMo_reserved I).1, (fMo_reserved I).2.1, (fMo_reserved I).2.2.2)
  else fMo_next_25 I
def pMo_next_14  (z0 : Int32) (I : Nat → Nat → Int32) : Prop :=
  (z0 = (1 : Int32) → (pMo_reserved I) ∧ ((fMo_reserved I).1 = 0 → pMo_next_22 ((fMo_reserved I).2.2.1) ((fMo_reserved I).2.2.2))) ∧
  (¬ (z0 = (1 : Int32)) → pMo_next_25 I)
def fMo_next_10  (I : Nat → Nat → Int32) : Int32 × Int32 × (Nat → Nat → Int32) :=
  if (fMo_peek 65537 65537 I).1 = 0 then fMo_next_14 ((fMo_peek 65537 65537 I).2.2.1) ((fMo_peek 65537 65537 I).2.2.2)
  else ((fMo_peek 65537 65537 I).1, (fMo_peek 65537 65537 I).2.1, (fMo_peek 65537 65537 I).2.2.2)
def pMo_next_10  (I : Nat → Nat → Int32) : Prop :=
  (pMo_peek 65537 65537 I) ∧ ((fMo_peek 65537 65537 I).1 = 0 → pMo_next_14 ((fMo_peek 65537 65537 I).2.2.1) ((fMo_peek 65537 65537 I).2.2.2))
def fMo_next_6  (I : Nat → Nat → Int32) : Int32 × Int32 × (Nat → Nat → Int32) :=
  if (fMo_take I).1 = 0 then fMo_next_10 ((fMo_take I).2.2)
  else ((fMo_take I).1, (fMo_take I).2.1, (fMo_take I).2.2)
def pMo_next_6  (I : Nat → Nat → Int32) : Prop :=
  (pMo_take I) ∧ ((fMo_take I).1 = 0 → pMo_next_10 ((fMo_take I).2.2))
def fMo_next  (I : Nat → Nat → Int32) : Int32 × Int32 × (Nat → Nat → Int32) :=
  if (fMo_pays (8 : Int32) I).1 = 0 then fMo_next_6 ((fMo_pays (8 : Int32) I).2.2)
  else ((fMo_pays (8 : Int32) I).1, (fMo_pays (8 : Int32) I).2.1, (fMo_pays (8 : Int32) I).2.2)
def pMo_next  (I : Nat → Nat → Int32) : Prop :=
  (pMo_pays (8 : Int32) I) ∧ ((fMo_pays (8 : Int32) I).1 = 0 → pMo_next_6 ((fMo_pays (8 : Int32) I).2.2))
set_option maxHeartbeats 4000000 in
set_option maxRecDepth 100000 in
theorem Mo_next_n25 (g : pmG) (d : Nat) (ex : List (Nat × Nat)) (R : Nat → Nat → Value) (hR : mk_R R) (J : Nat → Nat → Int64) (o : Outcome) (Z : pmM) (rc rs : Nat)  (I : Nat → Nat → Int32) (hp : pMo_next_25 I) (hF : (o, Z, rc, rs) = pt_V (mk_K ++ ex) R J (fMo_next_25 I)) : pmE g kMo_next (d + 613) rc rs 25 [(0, .ref 40)] [] (mk_K ++ ex) R I J o Z := by
  unfold pMo_next_25 at hp
  refine pm_aload_n dMo_next_25 rfl ?_
  exact pt_cant (v2 := none) dMo_next_26 lMo_211 vMo_cant ⟨_, _, rfl⟩ (Mo_cant_ok _ _ _ _ hR _ _ hp) dMo_next_29 rfl (by decide +kernel) (Nat.le_of_ble_eq_true rfl) (fMo_cant_ne _) (hF.trans (by first | (simp only [fMo_next_25]; done) | (simp only [fMo_next_25]; rfl) | rfl))
set_option maxHeartbeats 4000000 in
set_option maxRecDepth 100000 in
theorem Mo_next_n63 (g : pmG) (d : Nat) (ex : List (Nat × Nat)) (R : Nat → Nat → Value) (hR : mk_R R) (J : Nat → Nat → Int64) (o : Outcome) (Z : pmM) (rc rs : Nat)  (y1 : Int32) (I : Nat → Nat → Int32) (hp : pMo_next_63 y1 I) (hF : (o, Z, rc, rs) = pt_V (mk_K ++ ex) R J (fMo_next_63 y1 I)) : pmE g kMo_next (d + 613) rc rs 63 [(0, .ref 40), (1, .int y1)] [] (mk_K ++ ex) R I J o Z := by
  unfold pMo_next_63 at hp
  refine pt_wr (e := 2) (w := (I 40 7)) (v2 := none) dMo_next_63 dMo_next_66 nMo_187 (by decide) (hF.trans (by first | (simp only [fMo_next_63]; done) | (simp only [fMo_next_63]; rfl) | rfl)) ?_
  refine pm_iconst (v := 2) dMo_next_67 (by decide) ?_
  refine pm_aload_n dMo_next_68 rfl ?_
  refine pm_geti dMo_next_69 fMo_33 rfl ?_
  refine pm_eqi (I 40 7) (congrFun (pm_z_n _ _ (mk_ne ex)) _) ?_
  exact pt_wi dMo_next_72 lMo_189 dMo_next_75 (by decide +kernel) (Nat.le_of_ble_eq_true rfl)
set_option maxHeartbeats 4000000 in
set_option maxRecDepth 100000 in
theorem Mo_next_n101 (g : pmG) (d : Nat) (ex : List (Nat × Nat)) (R : Nat → Nat → Value) (hR : mk_R R) (J : Nat → Nat → Int64) (o : Outcome) (Z : pmM) (rc rs : Nat)  (y1 : Int32) (z1 : Int32) (z2 : Int32) (I : Nat → Nat → Int32) (hp : pMo_next_101 y1 z1 z2 I) (hF : (o, Z, rc, rs) = pt_V (mk_K ++ ex) R J (fMo_next_101 y1 z1 z2 I)) : pmE g kMo_next (d + 613) rc rs 101 [(0, .ref 40), (1, .int y1)] [.int z2, .int z1, .ref 48] (mk_K ++ ex) R I J o Z := by
  unfold pMo_next_101 at hp
  refine pm_iast dMo_next_101 rfl hp.1 ?_
  exact pt_vret dMo_next_102 rfl (hF.trans (by first | (simp only [fMo_next_101]; done) | (simp only [fMo_next_101]; rfl) | rfl))
set_option maxHeartbeats 4000000 in
set_option maxRecDepth 100000 in
theorem Mo_next_n86 (g : pmG) (d : Nat) (ex : List (Nat × Nat)) (R : Nat → Nat → Value) (hR : mk_R R) (J : Nat → Nat → Int64) (o : Outcome) (Z : pmM) (rc rs : Nat)  (y1 : Int32) (I : Nat → Nat → Int32) (hp : pMo_next_86 y1 I) (hF : (o, Z, rc, rs) = pt_V (mk_K ++ ex) R J (fMo_next_86 y1 I)) : pmE g kMo_next (d + 613) rc rs 86 [(0, .ref 40), (1, .int y1)] [] (mk_K ++ ex) R I J o Z := by
  unfold pMo_next_86 at hp
  refine pm_aload_n dMo_next_86 rfl ?_
  refine pm_getr dMo_next_87 fMo_71 rfl (rr_40_19 hR) ?_
  refine pm_aload_n dMo_next_90 rfl ?_
  refine pm_getr dMo_next_91 fMo_59 rfl (rr_40_15 hR) ?_
  refine pm_iload_n dMo_next_94 rfl ?_
  refine pm_iald dMo_next_95 rfl hp.1 ?_
  refine pm_aload_n dMo_next_96 rfl ?_
  refine pm_iconst (v := 0) dMo_next_97 (by decide) ?_
  have hc9 := me_Mo_expression_ok g (d + 0) ex R hR (0 : Int32) I J hp.2.1
  have hp9 := hp.2.2
  simp only [fMo_next_86] at hF
  generalize fme_Mo_expression (0 : Int32) I = X9 at hc9 hp9 hF
  refine pt_callV (v2 := none) dMo_next_98 lMo_274 vMo_expression ⟨_, _, rfl⟩ hc9 rfl rfl rfl (Nat.le_of_ble_eq_true rfl) (fun h98 => ?_) (fun h98 => hF.trans (by first | (simp only [if_neg h98]; done) | (simp only [if_neg h98]; rfl)))
  refine pm_wk [0, 1] rfl ?_
  exact Mo_next_n101 g d ex R hR J _ _ _ _   _ _ _ _ (hp9 h98) (hF.trans (by first | (simp only [fMo_next_86, if_pos h98]; done) | (simp only [fMo_next_86, if_pos h98]; with_reducible rfl) | with_reducible rfl))
set_option maxHeartbeats 4000000 in
set_option maxRecDepth 100000 in
theorem Mo_next_n80 (g : pmG) (d : Nat) (ex : List (Nat × Nat)) (R : Nat → Nat → Value) (hR : mk_R R) (J : Nat → Nat → Int64) (o : Outcome) (Z : pmM) (rc rs : Nat)  (y1 : Int32) (I : Nat → Nat → Int32) (hp : pMo_next_80 y1 I) (hF : (o, Z, rc, rs) = pt_V (mk_K ++ ex) R J (fMo_next_80 y1 I)) : pmE g kMo_next (d + 613) rc rs 80 [(0, .ref 40), (1, .int y1)] [] (mk_K ++ ex) R I J o Z := by
  unfold pMo_next_80 at hp
  refine pm_aload_n dMo_next_80 rfl ?_
  refine pm_bipush (v := 61) dMo_next_81 (by decide) ?_
  refine pt_callV (v2 := none) dMo_next_83 lMo_277 vMo_must ⟨_, _, rfl⟩ (Mo_must_ok _ _ _ _ hR _ _ _ hp.1) rfl rfl rfl (Nat.le_of_ble_eq_true rfl) (fun h83 => ?_) (fun h83 => hF.trans (by first | (simp only [fMo_next_80, if_neg h83]; done) | (simp only [fMo_next_80, if_neg h83]; rfl) | rfl))
  refine pm_wk [0, 1] rfl ?_
  exact Mo_next_n86 g d ex R hR J _ _ _ _   _ _ (hp.2 h83) (hF.trans (by first | (simp only [fMo_next_80, if_pos h83]; done) | (simp only [fMo_next_80, if_pos h83]; with_reducible rfl) | with_reducible rfl))
set_option maxHeartbeats 4000000 in
set_option maxRecDepth 100000 in
theorem Mo_next_n22 (g : pmG) (d : Nat) (ex : List (Nat × Nat)) (R : Nat → Nat → Value) (hR : mk_R R) (J : Nat → Nat → Int64) (o : Outcome) (Z : pmM) (rc rs : Nat)  (z0 : Int32) (I : Nat → Nat → Int32) (hp : pMo_next_22 z0 I) (hF : (o, Z, rc, rs) = pt_V (mk_K ++ ex) R J (fMo_next_22 z0 I)) : pmE g kMo_next (d + 613) rc rs 22 [(0, .ref 40)] [.int z0] (mk_K ++ ex) R I J o Z := by
  unfold pMo_next_22 at hp
  refine pm_if_eq 30 dMo_next_22 (by decide) (fun h22 => ?_) (fun h22 => ?_)
  ·
    refine pm_aload_n dMo_next_30 rfl ?_
    refine pm_callV dMo_next_31 lMo_261 vMo_named ⟨_, _, rfl⟩ (Mo_named_ok _ _ _ _ hR _ _ _ _ (hp.1 h22).1) rfl rfl rfl (Nat.le_of_ble_eq_true rfl) (Nat.le_refl _) (Nat.le_refl _) ?_
    refine pm_istore_n dMo_next_34 (by decide) rfl ?_
    refine pm_iload_n dMo_next_35 rfl ?_
    refine pm_if_lt 63 dMo_next_36 (by decide) (fun h36 => ?_) (fun h36 => ?_)
    ·
      refine pm_wk [1, 0] rfl ?_
      exact Mo_next_n63 g d ex R hR J _ _ _ _   _ _ ((hp.1 h22).2.1 h36) (hF.trans (by first | (simp only [fMo_next_22, if_pos h22, if_pos h36]; done) | (simp only [fMo_next_22, if_pos h22, if_pos h36]; with_reducible rfl) | with_reducible rfl))
    ·
      refine pm_aload_n dMo_next_39 rfl ?_
      refine pm_getr dMo_next_40 fMo_56 rfl (rr_40_14 hR) ?_
      refine pm_iload_n dMo_next_43 rfl ?_
      refine pm_iald dMo_next_44 rfl ((hp.1 h22).2.2 h36).1 ?_
      refine pm_iconst (v := 1) dMo_next_45 (by decide) ?_
      refine pm_icmp_ne 63 dMo_next_46 (by decide) (fun h46 => ?_) (fun h46 => ?_)
      ·
        refine pm_wk [1, 0] rfl ?_
        exact Mo_next_n63 g d ex R hR J _ _ _ _   _ _ (((hp.1 h22).2.2 h36).2.2 h46) (hF.trans (by first | (simp only [fMo_next_22, if_pos h22, if_neg h36, if_neg h46]; done) | (simp only [fMo_next_22, if_pos h22, if_neg h36, if_neg h46]; with_reducible rfl) | with_reducible rfl))
      ·
        refine pm_aload_n dMo_next_49 rfl ?_
        refine pm_getr dMo_next_50 fMo_71 rfl (rr_40_19 hR) ?_
        refine pm_aload_n dMo_next_53 rfl ?_
        refine pm_getr dMo_next_54 fMo_59 rfl (rr_40_15 hR) ?_
        refine pm_iload_n dMo_next_57 rfl ?_
        refine pm_iald dMo_next_58 rfl (((hp.1 h22).2.2 h36).2.1 h46).1 ?_
        refine pm_iald dMo_next_59 rfl (((hp.1 h22).2.2 h36).2.1 h46).2.1 ?_
        refine pm_if_lt 76 dMo_next_60 (by decide) (fun h60 => ?_) (fun h60 => ?_)
        ·
          refine pm_aload_n dMo_next_76 rfl ?_
          refine pt_callV (v2 := none) dMo_next_77 lMo_215 vMo_take ⟨_, _, rfl⟩ (Mo_take_ok _ _ _ _ hR  _ _ ((((hp.1 h22).2.2 h36).2.1 h46).2.2.1 h60).1) rfl rfl rfl (Nat.le_of_ble_eq_true rfl) (fun h77 => ?_) (fun h77 => hF.trans (by first | (simp only [fMo_next_22, if_pos h22, if_neg h36, if_pos h46, if_pos h60, if_neg h77]; done) | (simp only [fMo_next_22, if_pos h22, if_neg h36, if_pos h46, if_pos h60, if_neg h77]; rfl) | rfl))
          refine pm_wk [1, 0] rfl ?_
          exact Mo_next_n80 g d ex R hR J _ _ _ _   _ _ (((((hp.1 h22).2.2 h36).2.1 h46).2.2.1 h60).2 h77) (hF.trans (by first | (simp only [fMo_next_22, if_pos h22, if_neg h36, if_pos h46, if_pos h60, if_pos h77]; done) | (simp only [fMo_next_22, if_pos h22, if_neg h36, if_pos h46, if_pos h60, if_pos h77]; with_reducible rfl) | with_reducible rfl))
        ·
          refine pm_wk [1, 0] rfl ?_
          exact Mo_next_n63 g d ex R hR J _ _ _ _   _ _ ((((hp.1 h22).2.2 h36).2.1 h46).2.2.2 h60) (hF.trans (by first | (simp only [fMo_next_22, if_pos h22, if_neg h36, if_pos h46, if_neg h60]; done) | (simp only [fMo_next_22, if_pos h22, if_neg h36, if_pos h46, if_neg h60]; with_reducible rfl) | with_reducible rfl))
  ·
    refine pm_wk [0] rfl ?_
    exact Mo_next_n25 g d ex R hR J _ _ _ _   _ (hp.2 h22) (hF.trans (by first | (simp only [fMo_next_22, if_neg h22]; done) | (simp only [fMo_next_22, if_neg h22]; with_reducible rfl) | with_reducible rfl))
set_option maxHeartbeats 4000000 in
set_option maxRecDepth 100000 in
theorem Mo_next_n14 (g : pmG) (d : Nat) (ex : List (Nat × Nat)) (R : Nat → Nat → Value) (hR : mk_R R) (J : Nat → Nat → Int64) (o : Outcome) (Z : pmM) (rc rs : Nat)  (z0 : Int32) (I : Nat → Nat → Int32) (hp : pMo_next_14 z0 I) (hF : (o, Z, rc, rs) = pt_V (mk_K ++ ex) R J (fMo_next_14 z0 I)) : pmE g kMo_next (d + 613) rc rs 14 [(0, .ref 40)] [.int z0] (mk_K ++ ex) R I J o Z := by
  unfold pMo_next_14 at hp
  refine pm_iconst (v := 1) dMo_next_14 (by decide) ?_
  refine pm_icmp_ne 25 dMo_next_15 (by decide) (fun h15 => ?_) (fun h15 => ?_)
  ·
    refine pm_wk [0] rfl ?_
    exact Mo_next_n25 g d ex R hR J _ _ _ _   _ (hp.2 h15) (hF.trans (by first | (simp only [fMo_next_14, if_neg h15]; done) | (simp only [fMo_next_14, if_neg h15]; with_reducible rfl) | with_reducible rfl))
  ·
    refine pm_aload_n dMo_next_18 rfl ?_
    refine pt_callV (v2 := none) dMo_next_19 lMo_257 vMo_reserved ⟨_, _, rfl⟩ (Mo_reserved_ok _ _ _ _ hR  _ _ (hp.1 h15).1) rfl rfl rfl (Nat.le_of_ble_eq_true rfl) (fun h19 => ?_) (fun h19 => hF.trans (by first | (simp only [fMo_next_14, if_pos h15, if_neg h19]; done) | (simp only [fMo_next_14, if_pos h15, if_neg h19]; rfl) | rfl))
    refine pm_wk [0] rfl ?_
    exact Mo_next_n22 g d ex R hR J _ _ _ _   _ _ ((hp.1 h15).2 h19) (hF.trans (by first | (simp only [fMo_next_14, if_pos h15, if_pos h19]; done) | (simp only [fMo_next_14, if_pos h15, if_pos h19]; with_reducible rfl) | with_reducible rfl))
set_option maxHeartbeats 4000000 in
set_option maxRecDepth 100000 in
theorem Mo_next_n10 (g : pmG) (d : Nat) (ex : List (Nat × Nat)) (R : Nat → Nat → Value) (hR : mk_R R) (J : Nat → Nat → Int64) (o : Outcome) (Z : pmM) (rc rs : Nat)  (I : Nat → Nat → Int32) (hp : pMo_next_10 I) (hF : (o, Z, rc, rs) = pt_V (mk_K ++ ex) R J (fMo_next_10 I)) : pmE g kMo_next (d + 613) rc rs 10 [(0, .ref 40)] [] (mk_K ++ ex) R I J o Z := by
  unfold pMo_next_10 at hp
  refine pm_aload_n dMo_next_10 rfl ?_
  refine pt_callV (v2 := none) dMo_next_11 lMo_207 vMo_peek ⟨_, _, rfl⟩ (Mo_peek_ok _ _ _ _ hR _ _ _ _ hp.1) rfl rfl rfl (Nat.le_of_ble_eq_true rfl) (fun h11 => ?_) (fun h11 => hF.trans (by first | (simp only [fMo_next_10, if_neg h11]; done) | (simp only [fMo_next_10, if_neg h11]; rfl) | rfl))
  refine pm_wk [0] rfl ?_
  exact Mo_next_n14 g d ex R hR J _ _ _ _   _ _ (hp.2 h11) (hF.trans (by first | (simp only [fMo_next_10, if_pos h11]; done) | (simp only [fMo_next_10, if_pos h11]; with_reducible rfl) | with_reducible rfl))
set_option maxHeartbeats 4000000 in
set_option maxRecDepth 100000 in
theorem Mo_next_n6 (g : pmG) (d : Nat) (ex : List (Nat × Nat)) (R : Nat → Nat → Value) (hR : mk_R R) (J : Nat → Nat → Int64) (o : Outcome) (Z : pmM) (rc rs : Nat)  (I : Nat → Nat → Int32) (hp : pMo_next_6 I) (hF : (o, Z, rc, rs) = pt_V (mk_K ++ ex) R J (fMo_next_6 I)) : pmE g kMo_next (d + 613) rc rs 6 [(0, .ref 40)] [] (mk_K ++ ex) R I J o Z := by
  unfold pMo_next_6 at hp
  refine pm_aload_n dMo_next_6 rfl ?_
  refine pt_callV (v2 := none) dMo_next_7 lMo_215 vMo_take ⟨_, _, rfl⟩ (Mo_take_ok _ _ _ _ hR  _ _ hp.1) rfl rfl rfl (Nat.le_of_ble_eq_true rfl) (fun h7 => ?_) (fun h7 => hF.trans (by first | (simp only [fMo_next_6, if_neg h7]; done) | (simp only [fMo_next_6, if_neg h7]; rfl) | rfl))
  refine pm_wk [0] rfl ?_
  exact Mo_next_n10 g d ex R hR J _ _ _ _   _ (hp.2 h7) (hF.trans (by first | (simp only [fMo_next_6, if_pos h7]; done) | (simp only [fMo_next_6, if_pos h7]; with_reducible rfl) | with_reducible rfl))
set_option maxHeartbeats 4000000 in
set_option maxRecDepth 100000 in
theorem Mo_next_n0 (g : pmG) (d : Nat) (ex : List (Nat × Nat)) (R : Nat → Nat → Value) (hR : mk_R R) (J : Nat → Nat → Int64) (o : Outcome) (Z : pmM) (rc rs : Nat)  (I : Nat → Nat → Int32) (hp : pMo_next I) (hF : (o, Z, rc, rs) = pt_V (mk_K ++ ex) R J (fMo_next I)) : pmE g kMo_next (d + 613) rc rs 0 [(0, .ref 40)] [] (mk_K ++ ex) R I J o Z := by
  unfold pMo_next at hp
  refine pm_aload_n dMo_next_0 rfl ?_
  refine pm_bipush (v := 8) dMo_next_1 (by decide) ?_
  refine pt_callV (v2 := none) dMo_next_3 lMo_267 vMo_pays ⟨_, _, rfl⟩ (Mo_pays_ok _ _ _ _ hR _ _ _ hp.1) rfl rfl rfl (Nat.le_of_ble_eq_true rfl) (fun h3 => ?_) (fun h3 => hF.trans (by first | (simp only [fMo_next, if_neg h3]; done) | (simp only [fMo_next, if_neg h3]; rfl) | rfl))
  refine pm_wk [0] rfl ?_
  exact Mo_next_n6 g d ex R hR J _ _ _ _   _ (hp.2 h3) (hF.trans (by first | (simp only [fMo_next, if_pos h3]; done) | (simp only [fMo_next, if_pos h3]; with_reducible rfl) | with_reducible rfl))
set_option maxHeartbeats 4000000 in
set_option maxRecDepth 100000 in
theorem Mo_next_ok (g : pmG) (d : Nat) (ex : List (Nat × Nat)) (R : Nat → Nat → Value) (hR : mk_R R)   (I : Nat → Nat → Int32) (J : Nat → Nat → Int64) (hp : pMo_next I) : pmT g kMo_next (d + 613) [.ref 40] (mk_K ++ ex, R, I, J) (pt_V (mk_K ++ ex) R J (fMo_next I)) :=
  pmC.of (by decide) (Nat.le_of_ble_eq_true rfl) (Mo_next_n0 g d ex R hR J _ _ _ _   I hp rfl)
def fMo_spec_50  (y1 : Int32) (z1 : Int32) (z2 : Int32) (I : Nat → Nat → Int32) : Int32 × Int32 × (Nat → Nat → Int32) :=
  (0, 0, pm_u (pm_u (pm_u (pm_u I 51 z1.toNatClampNeg z2) 44 y1.toNatClampNeg (4 : Int32)) 40 26 ((I 40 26) + (1 : Int32))) 45 y1.toNatClampNeg (I 40 26))
def pMo_spec_50  (y1 : Int32) (z1 : Int32) (z2 : Int32) (I : Nat → Nat → Int32) : Prop :=
  (vp_in z1 30) ∧ ((vp_in y1 60) ∧ ((vp_in y1 60) ∧ True))
def fMo_spec_37  (y1 : Int32) (I : Nat → Nat → Int32) : Int32 × Int32 × (Nat → Nat → Int32) :=
  if (fmf_Mo_formula (0 : Int32) I).1 = 0 then fMo_spec_50 y1 (I 40 26) ((fmf_Mo_formula (0 : Int32) I).2.2.1) ((fmf_Mo_formula (0 : Int32) I).2.2.2)
  else ((fmf_Mo_formula (0 : Int32) I).1, (fmf_Mo_formula (0 : Int32) I).2.1, (fmf_Mo_formula (0 : Int32) I).2.2.2)
def pMo_spec_37  (y1 : Int32) (I : Nat → Nat → Int32) : Prop :=
  (pmf_Mo_formula (0 : Int32) I) ∧ ((fmf_Mo_formula (0 : Int32) I).1 = 0 → pMo_spec_50 y1 (I 40 26) ((fmf_Mo_formula (0 : Int32) I).2.2.1) ((fmf_Mo_formula (0 : Int32) I).2.2.2))
def fMo_spec_30  (z0 : Int32) (I : Nat → Nat → Int32) : Int32 × Int32 × (Nat → Nat → Int32) :=
  if (fMo_must (61 : Int32) I).1 = 0 then fMo_spec_37 z0 ((fMo_must (61 : Int32) I).2.2)
  else ((fMo_must (61 : Int32) I).1, (fMo_must (61 : Int32) I).2.1, (fMo_must (61 : Int32) I).2.2)
def pMo_spec_30  (z0 : Int32) (I : Nat → Nat → Int32) : Prop :=
  (pMo_must (61 : Int32) I) ∧ ((fMo_must (61 : Int32) I).1 = 0 → pMo_spec_37 z0 ((fMo_must (61 : Int32) I).2.2))
def fMo_spec_26  (I : Nat → Nat → Int32) : Int32 × Int32 × (Nat → Nat → Int32) :=
  if (fMo_declare I).1 = 0 then fMo_spec_30 ((fMo_declare I).2.2.1) ((fMo_declare I).2.2.2)
  else ((fMo_declare I).1, (fMo_declare I).2.1, (fMo_declare I).2.2.2)
def pMo_spec_26  (I : Nat → Nat → Int32) : Prop :=
  (pMo_declare I) ∧ ((fMo_declare I).1 = 0 → pMo_spec_30 ((fMo_declare I).2.2.1) ((fMo_declare I).2.2.2))
def fMo_spec  (I : Nat → Nat → Int32) : Int32 × Int32 × (Nat → Nat → Int32) :=
  if (I 40 26) = (30 : Int32) then (4, I 40 7, I)
  else if (fMo_take I).1 = 0 then fMo_spec_26 ((fMo_take I).2.2)
    else ((fMo_take I).1, (fMo_take I).2.1, (fMo_take I).2.2)
def pMo_spec  (I : Nat → Nat → Int32) : Prop :=
  ((I 40 26) = (30 : Int32) → True) ∧
  (¬ ((I 40 26) = (30 : Int32)) → (pMo_take I) ∧ ((fMo_take I).1 = 0 → pMo_spec_26 ((fMo_take I).2.2)))
set_option maxHeartbeats 4000000 in
set_option maxRecDepth 100000 in
theorem Mo_spec_n50 (g : pmG) (d : Nat) (ex : List (Nat × Nat)) (R : Nat → Nat → Value) (hR : mk_R R) (J : Nat → Nat → Int64) (o : Outcome) (Z : pmM) (rc rs : Nat)  (y1 : Int32) (z1 : Int32) (z2 : Int32) (I : Nat → Nat → Int32) (hp : pMo_spec_50 y1 z1 z2 I) (hF : (o, Z, rc, rs) = pt_V (mk_K ++ ex) R J (fMo_spec_50 y1 z1 z2 I)) : pmE g kMo_spec (d + 874) rc rs 50 [(0, .ref 40), (1, .int y1)] [.int z2, .int z1, .ref 51] (mk_K ++ ex) R I J o Z := by
  unfold pMo_spec_50 at hp
  refine pm_iast dMo_spec_50 rfl hp.1 ?_
  refine pm_aload_n dMo_spec_51 rfl ?_
  refine pm_getr dMo_spec_52 fMo_56 rfl (rr_40_14 hR) ?_
  refine pm_iload_n dMo_spec_55 rfl ?_
  refine pm_iconst (v := 4) dMo_spec_56 (by decide) ?_
  refine pm_iast dMo_spec_57 rfl hp.2.1 ?_
  refine pm_aload_n dMo_spec_58 rfl ?_
  refine pm_getr dMo_spec_59 fMo_59 rfl (rr_40_15 hR) ?_
  refine pm_iload_n dMo_spec_62 rfl ?_
  refine pm_aload_n dMo_spec_63 rfl ?_
  refine pm_dup dMo_spec_64 rfl ?_
  refine pm_geti dMo_spec_65 fMo_92 rfl ?_
  refine pm_eqi (I 40 26) rfl ?_
  refine pm_dup_x1 dMo_spec_68 rfl rfl ?_
  refine pm_iconst (v := 1) dMo_spec_69 (by decide) ?_
  refine pm_iadd dMo_spec_70 ?_
  refine pm_puti dMo_spec_71 fMo_92 sMo_92 (fun h => by cases h) rfl rfl rfl ?_
  refine pm_iast dMo_spec_74 rfl hp.2.2.1 ?_
  exact pt_vret dMo_spec_75 rfl (hF.trans (by first | (simp only [fMo_spec_50]; done) | (simp only [fMo_spec_50]; rfl) | rfl))
set_option maxHeartbeats 4000000 in
set_option maxRecDepth 100000 in
theorem Mo_spec_n37 (g : pmG) (d : Nat) (ex : List (Nat × Nat)) (R : Nat → Nat → Value) (hR : mk_R R) (J : Nat → Nat → Int64) (o : Outcome) (Z : pmM) (rc rs : Nat)  (y1 : Int32) (I : Nat → Nat → Int32) (hp : pMo_spec_37 y1 I) (hF : (o, Z, rc, rs) = pt_V (mk_K ++ ex) R J (fMo_spec_37 y1 I)) : pmE g kMo_spec (d + 874) rc rs 37 [(0, .ref 40), (1, .int y1)] [] (mk_K ++ ex) R I J o Z := by
  unfold pMo_spec_37 at hp
  refine pm_aload_n dMo_spec_37 rfl ?_
  refine pm_getr dMo_spec_38 fMo_80 rfl (rr_40_22 hR) ?_
  refine pm_aload_n dMo_spec_41 rfl ?_
  refine pm_geti dMo_spec_42 fMo_92 rfl ?_
  refine pm_aload_n dMo_spec_45 rfl ?_
  refine pm_iconst (v := 0) dMo_spec_46 (by decide) ?_
  have hc9 := mf_Mo_formula_ok g (d + 0) ex R hR (0 : Int32) I J hp.1
  have hp9 := hp.2
  simp only [fMo_spec_37] at hF
  generalize fmf_Mo_formula (0 : Int32) I = X9 at hc9 hp9 hF
  refine pt_callV (v2 := none) dMo_spec_47 lMo_300 vMo_formula ⟨_, _, rfl⟩ hc9 rfl rfl rfl (Nat.le_of_ble_eq_true rfl) (fun h47 => ?_) (fun h47 => hF.trans (by first | (simp only [if_neg h47]; done) | (simp only [if_neg h47]; rfl)))
  refine pm_wk [0, 1] rfl ?_
  exact Mo_spec_n50 g d ex R hR J _ _ _ _   _ _ _ _ (hp9 h47) (hF.trans (by first | (simp only [fMo_spec_37, if_pos h47]; done) | (simp only [fMo_spec_37, if_pos h47]; with_reducible rfl) | with_reducible rfl))
set_option maxHeartbeats 4000000 in
set_option maxRecDepth 100000 in
theorem Mo_spec_n30 (g : pmG) (d : Nat) (ex : List (Nat × Nat)) (R : Nat → Nat → Value) (hR : mk_R R) (J : Nat → Nat → Int64) (o : Outcome) (Z : pmM) (rc rs : Nat)  (z0 : Int32) (I : Nat → Nat → Int32) (hp : pMo_spec_30 z0 I) (hF : (o, Z, rc, rs) = pt_V (mk_K ++ ex) R J (fMo_spec_30 z0 I)) : pmE g kMo_spec (d + 874) rc rs 30 [(0, .ref 40)] [.int z0] (mk_K ++ ex) R I J o Z := by
  unfold pMo_spec_30 at hp
  refine pm_istore_n dMo_spec_30 (by decide) rfl ?_
  refine pm_aload_n dMo_spec_31 rfl ?_
  refine pm_bipush (v := 61) dMo_spec_32 (by decide) ?_
  refine pt_callV (v2 := none) dMo_spec_34 lMo_277 vMo_must ⟨_, _, rfl⟩ (Mo_must_ok _ _ _ _ hR _ _ _ hp.1) rfl rfl rfl (Nat.le_of_ble_eq_true rfl) (fun h34 => ?_) (fun h34 => hF.trans (by first | (simp only [fMo_spec_30, if_neg h34]; done) | (simp only [fMo_spec_30, if_neg h34]; rfl) | rfl))
  refine pm_wk [1, 0] rfl ?_
  exact Mo_spec_n37 g d ex R hR J _ _ _ _   _ _ (hp.2 h34) (hF.trans (by first | (simp only [fMo_spec_30, if_pos h34]; done) | (simp only [fMo_spec_30, if_pos h34]; with_reducible rfl) | with_reducible rfl))
set_option maxHeartbeats 4000000 in
set_option maxRecDepth 100000 in
theorem Mo_spec_n26 (g : pmG) (d : Nat) (ex : List (Nat × Nat)) (R : Nat → Nat → Value) (hR : mk_R R) (J : Nat → Nat → Int64) (o : Outcome) (Z : pmM) (rc rs : Nat)  (I : Nat → Nat → Int32) (hp : pMo_spec_26 I) (hF : (o, Z, rc, rs) = pt_V (mk_K ++ ex) R J (fMo_spec_26 I)) : pmE g kMo_spec (d + 874) rc rs 26 [(0, .ref 40)] [] (mk_K ++ ex) R I J o Z := by
  unfold pMo_spec_26 at hp
  refine pm_aload_n dMo_spec_26 rfl ?_
  refine pt_callV (v2 := none) dMo_spec_27 lMo_322 vMo_declare ⟨_, _, rfl⟩ (Mo_declare_ok _ _ _ _ hR  _ _ hp.1) rfl rfl rfl (Nat.le_of_ble_eq_true rfl) (fun h27 => ?_) (fun h27 => hF.trans (by first | (simp only [fMo_spec_26, if_neg h27]; done) | (simp only [fMo_spec_26, if_neg h27]; rfl) | rfl))
  refine pm_wk [0] rfl ?_
  exact Mo_spec_n30 g d ex R hR J _ _ _ _   _ _ (hp.2 h27) (hF.trans (by first | (simp only [fMo_spec_26, if_pos h27]; done) | (simp only [fMo_spec_26, if_pos h27]; with_reducible rfl) | with_reducible rfl))
set_option maxHeartbeats 4000000 in
set_option maxRecDepth 100000 in
theorem Mo_spec_n0 (g : pmG) (d : Nat) (ex : List (Nat × Nat)) (R : Nat → Nat → Value) (hR : mk_R R) (J : Nat → Nat → Int64) (o : Outcome) (Z : pmM) (rc rs : Nat)  (I : Nat → Nat → Int32) (hp : pMo_spec I) (hF : (o, Z, rc, rs) = pt_V (mk_K ++ ex) R J (fMo_spec I)) : pmE g kMo_spec (d + 874) rc rs 0 [(0, .ref 40)] [] (mk_K ++ ex) R I J o Z := by
  unfold pMo_spec at hp
  refine pm_aload_n dMo_spec_0 rfl ?_
  refine pm_geti dMo_spec_1 fMo_92 rfl ?_
  refine pm_bipush (v := 30) dMo_spec_4 (by decide) ?_
  refine pm_icmp_ne 22 dMo_spec_6 (by decide) (fun h6 => ?_) (fun h6 => ?_)
  ·
    refine pm_aload_n dMo_spec_22 rfl ?_
    refine pt_callV (v2 := none) dMo_spec_23 lMo_215 vMo_take ⟨_, _, rfl⟩ (Mo_take_ok _ _ _ _ hR  _ _ (hp.2 h6).1) rfl rfl rfl (Nat.le_of_ble_eq_true rfl) (fun h23 => ?_) (fun h23 => hF.trans (by first | (simp only [fMo_spec, if_neg h6, if_neg h23]; done) | (simp only [fMo_spec, if_neg h6, if_neg h23]; rfl) | rfl))
    refine pm_wk [0] rfl ?_
    exact Mo_spec_n26 g d ex R hR J _ _ _ _   _ ((hp.2 h6).2 h23) (hF.trans (by first | (simp only [fMo_spec, if_neg h6, if_pos h23]; done) | (simp only [fMo_spec, if_neg h6, if_pos h23]; with_reducible rfl) | with_reducible rfl))
  ·
    refine pt_wr (e := 4) (w := (I 40 7)) (v2 := none) dMo_spec_9 dMo_spec_12 nMo_187 (by decide) (hF.trans (by first | (simp only [fMo_spec, if_pos h6]; done) | (simp only [fMo_spec, if_pos h6]; rfl) | rfl)) ?_
    refine pm_iconst (v := 4) dMo_spec_13 (by decide) ?_
    refine pm_aload_n dMo_spec_14 rfl ?_
    refine pm_geti dMo_spec_15 fMo_33 rfl ?_
    refine pm_eqi (I 40 7) (congrFun (pm_z_n _ _ (mk_ne ex)) _) ?_
    exact pt_wi dMo_spec_18 lMo_189 dMo_spec_21 (by decide +kernel) (Nat.le_of_ble_eq_true rfl)
set_option maxHeartbeats 4000000 in
set_option maxRecDepth 100000 in
theorem Mo_spec_ok (g : pmG) (d : Nat) (ex : List (Nat × Nat)) (R : Nat → Nat → Value) (hR : mk_R R)   (I : Nat → Nat → Int32) (J : Nat → Nat → Int64) (hp : pMo_spec I) : pmT g kMo_spec (d + 874) [.ref 40] (mk_K ++ ex, R, I, J) (pt_V (mk_K ++ ex) R J (fMo_spec I)) :=
  pmC.of (by decide) (Nat.le_of_ble_eq_true rfl) (Mo_spec_n0 g d ex R hR J _ _ _ _   I hp rfl)
def fMo_lines_98 (r0 : (Nat → Nat → Int32) → Int32 × Int32 × (Nat → Nat → Int32)) (I : Nat → Nat → Int32) : Int32 × Int32 × (Nat → Nat → Int32) :=
  r0 I
def pMo_lines_98 (q0 : (Nat → Nat → Int32) → Prop) (I : Nat → Nat → Int32) : Prop :=
  q0 I
def fMo_lines_92 (r0 : (Nat → Nat → Int32) → Int32 × Int32 × (Nat → Nat → Int32)) (I : Nat → Nat → Int32) : Int32 × Int32 × (Nat → Nat → Int32) :=
  if (fMo_must (59 : Int32) I).1 = 0 then fMo_lines_98 r0 ((fMo_must (59 : Int32) I).2.2)
  else ((fMo_must (59 : Int32) I).1, (fMo_must (59 : Int32) I).2.1, (fMo_must (59 : Int32) I).2.2)
def pMo_lines_92 (q0 : (Nat → Nat → Int32) → Prop) (I : Nat → Nat → Int32) : Prop :=
  (pMo_must (59 : Int32) I) ∧ ((fMo_must (59 : Int32) I).1 = 0 → pMo_lines_98 q0 ((fMo_must (59 : Int32) I).2.2))
def fMo_lines_20 (r0 : (Nat → Nat → Int32) → Int32 × Int32 × (Nat → Nat → Int32)) (I : Nat → Nat → Int32) : Int32 × Int32 × (Nat → Nat → Int32) :=
  fMo_lines_92 r0 I
def pMo_lines_20 (q0 : (Nat → Nat → Int32) → Prop) (I : Nat → Nat → Int32) : Prop :=
  pMo_lines_92 q0 I
def fMo_lines_36 (r0 : (Nat → Nat → Int32) → Int32 × Int32 × (Nat → Nat → Int32)) (I : Nat → Nat → Int32) : Int32 × Int32 × (Nat → Nat → Int32) :=
  fMo_lines_92 r0 I
def pMo_lines_36 (q0 : (Nat → Nat → Int32) → Prop) (I : Nat → Nat → Int32) : Prop :=
  pMo_lines_92 q0 I
def fMo_lines_52 (r0 : (Nat → Nat → Int32) → Int32 × Int32 × (Nat → Nat → Int32)) (I : Nat → Nat → Int32) : Int32 × Int32 × (Nat → Nat → Int32) :=
  fMo_lines_92 r0 I
def pMo_lines_52 (q0 : (Nat → Nat → Int32) → Prop) (I : Nat → Nat → Int32) : Prop :=
  pMo_lines_92 q0 I
def fMo_lines_68 (r0 : (Nat → Nat → Int32) → Int32 × Int32 × (Nat → Nat → Int32)) (I : Nat → Nat → Int32) : Int32 × Int32 × (Nat → Nat → Int32) :=
  fMo_lines_92 r0 I
def pMo_lines_68 (q0 : (Nat → Nat → Int32) → Prop) (I : Nat → Nat → Int32) : Prop :=
  pMo_lines_92 q0 I
def fMo_lines_84 (r0 : (Nat → Nat → Int32) → Int32 × Int32 × (Nat → Nat → Int32)) (I : Nat → Nat → Int32) : Int32 × Int32 × (Nat → Nat → Int32) :=
  fMo_lines_92 r0 I
def pMo_lines_84 (q0 : (Nat → Nat → Int32) → Prop) (I : Nat → Nat → Int32) : Prop :=
  pMo_lines_92 q0 I
def fMo_lines_77 (r0 : (Nat → Nat → Int32) → Int32 × Int32 × (Nat → Nat → Int32)) (z0 : Int32) (I : Nat → Nat → Int32) : Int32 × Int32 × (Nat → Nat → Int32) :=
  if z0 = 0 then ((fMo_cant I).1, (fMo_cant I).2.1, (fMo_cant I).2.2)
  else if (fMo_spec I).1 = 0 then fMo_lines_84 r0 ((fMo_spec I).2.2)
    else ((fMo_spec I).1, (fMo_spec I).2.1, (fMo_spec I).2.2)
def pMo_lines_77 (q0 : (Nat → Nat → Int32) → Prop) (z0 : Int32) (I : Nat → Nat → Int32) : Prop :=
  (z0 = 0 → pMo_cant I) ∧
  (¬ (z0 = 0) → (pMo_spec I) ∧ ((fMo_spec I).1 = 0 → pMo_lines_84 q0 ((fMo_spec I).2.2)))
def fMo_lines_61 (r0 : (Nat → Nat → Int32) → Int32 × Int32 × (Nat → Nat → Int32)) (z0 : Int32) (I : Nat → Nat → Int32) : Int32 × Int32 × (Nat → Nat → Int32) :=
  if z0 = 0 then if (fMo_is_21 32 I).1 = 0 then fMo_lines_77 r0 ((fMo_is_21 32 I).2.2.1) ((fMo_is_21 32 I).2.2.2)
    else ((fMo_is_21 32 I).1, (fMo_is_21 32 I).2.1, (fMo_is_21 32 I).2.2.2)
  else if (fMo_next I).1 = 0 then fMo_lines_68 r0 ((fMo_next I).2.2)
    else ((fMo_next I).1, (fMo_next I).2.1, (fMo_next I).2.2)
def pMo_lines_61 (q0 : (Nat → Nat → Int32) → Prop) (z0 : Int32) (I : Nat → Nat → Int32) : Prop :=
  (z0 = 0 → (pMo_is_21 32 I) ∧ ((fMo_is_21 32 I).1 = 0 → pMo_lines_77 q0 ((fMo_is_21 32 I).2.2.1) ((fMo_is_21 32 I).2.2.2))) ∧
  (¬ (z0 = 0) → (pMo_next I) ∧ ((fMo_next I).1 = 0 → pMo_lines_68 q0 ((fMo_next I).2.2)))
def fMo_lines_45 (r0 : (Nat → Nat → Int32) → Int32 × Int32 × (Nat → Nat → Int32)) (z0 : Int32) (I : Nat → Nat → Int32) : Int32 × Int32 × (Nat → Nat → Int32) :=
  if z0 = 0 then if (fMo_is_20 32 I).1 = 0 then fMo_lines_61 r0 ((fMo_is_20 32 I).2.2.1) ((fMo_is_20 32 I).2.2.2)
    else ((fMo_is_20 32 I).1, (fMo_is_20 32 I).2.1, (fMo_is_20 32 I).2.2.2)
  else if (fMo_wire I).1 = 0 then fMo_lines_52 r0 ((fMo_wire I).2.2)
    else ((fMo_wire I).1, (fMo_wire I).2.1, (fMo_wire I).2.2)
def pMo_lines_45 (q0 : (Nat → Nat → Int32) → Prop) (z0 : Int32) (I : Nat → Nat → Int32) : Prop :=
  (z0 = 0 → (pMo_is_20 32 I) ∧ ((fMo_is_20 32 I).1 = 0 → pMo_lines_61 q0 ((fMo_is_20 32 I).2.2.1) ((fMo_is_20 32 I).2.2.2))) ∧
  (¬ (z0 = 0) → (pMo_wire I) ∧ ((fMo_wire I).1 = 0 → pMo_lines_52 q0 ((fMo_wire I).2.2)))
def fMo_lines_29 (r0 : (Nat → Nat → Int32) → Int32 × Int32 × (Nat → Nat → Int32)) (z0 : Int32) (I : Nat → Nat → Int32) : Int32 × Int32 × (Nat → Nat → Int32) :=
  if z0 = 0 then if (fMo_is_19 32 I).1 = 0 then fMo_lines_45 r0 ((fMo_is_19 32 I).2.2.1) ((fMo_is_19 32 I).2.2.2)
    else ((fMo_is_19 32 I).1, (fMo_is_19 32 I).2.1, (fMo_is_19 32 I).2.2.2)
  else if (fMo_input I).1 = 0 then fMo_lines_36 r0 ((fMo_input I).2.2)
    else ((fMo_input I).1, (fMo_input I).2.1, (fMo_input I).2.2)
def pMo_lines_29 (q0 : (Nat → Nat → Int32) → Prop) (z0 : Int32) (I : Nat → Nat → Int32) : Prop :=
  (z0 = 0 → (pMo_is_19 32 I) ∧ ((fMo_is_19 32 I).1 = 0 → pMo_lines_45 q0 ((fMo_is_19 32 I).2.2.1) ((fMo_is_19 32 I).2.2.2))) ∧
  (¬ (z0 = 0) → (pMo_input I) ∧ ((fMo_input I).1 = 0 → pMo_lines_36 q0 ((fMo_input I).2.2)))
def fMo_lines_13 (r0 : (Nat → Nat → Int32) → Int32 × Int32 × (Nat → Nat → Int32)) (z0 : Int32) (I : Nat → Nat → Int32) : Int32 × Int32 × (Nat → Nat → Int32) :=
  if z0 = 0 then if (fMo_is_18 32 I).1 = 0 then fMo_lines_29 r0 ((fMo_is_18 32 I).2.2.1) ((fMo_is_18 32 I).2.2.2)
    else ((fMo_is_18 32 I).1, (fMo_is_18 32 I).2.1, (fMo_is_18 32 I).2.2.2)
  else if (fMo_reg I).1 = 0 then fMo_lines_20 r0 ((fMo_reg I).2.2)
    else ((fMo_reg I).1, (fMo_reg I).2.1, (fMo_reg I).2.2)
def pMo_lines_13 (q0 : (Nat → Nat → Int32) → Prop) (z0 : Int32) (I : Nat → Nat → Int32) : Prop :=
  (z0 = 0 → (pMo_is_18 32 I) ∧ ((fMo_is_18 32 I).1 = 0 → pMo_lines_29 q0 ((fMo_is_18 32 I).2.2.1) ((fMo_is_18 32 I).2.2.2))) ∧
  (¬ (z0 = 0) → (pMo_reg I) ∧ ((fMo_reg I).1 = 0 → pMo_lines_20 q0 ((fMo_reg I).2.2)))
def fMo_lines_4 (r0 : (Nat → Nat → Int32) → Int32 × Int32 × (Nat → Nat → Int32)) (z0 : Int32) (I : Nat → Nat → Int32) : Int32 × Int32 × (Nat → Nat → Int32) :=
  if z0 = 0 then (0, 0, I)
  else if (fMo_is_17 32 I).1 = 0 then fMo_lines_13 r0 ((fMo_is_17 32 I).2.2.1) ((fMo_is_17 32 I).2.2.2)
    else ((fMo_is_17 32 I).1, (fMo_is_17 32 I).2.1, (fMo_is_17 32 I).2.2.2)
def pMo_lines_4 (q0 : (Nat → Nat → Int32) → Prop) (z0 : Int32) (I : Nat → Nat → Int32) : Prop :=
  (z0 = 0 → True) ∧
  (¬ (z0 = 0) → (pMo_is_17 32 I) ∧ ((fMo_is_17 32 I).1 = 0 → pMo_lines_13 q0 ((fMo_is_17 32 I).2.2.1) ((fMo_is_17 32 I).2.2.2)))
def fMo_lines  : Nat → (Nat → Nat → Int32) → Int32 × Int32 × (Nat → Nat → Int32)
  | 0, I => (0, 0, I)
  | n + 1, I =>
  if (fMo_peek 65537 65537 I).1 = 0 then fMo_lines_4 (fMo_lines n) ((fMo_peek 65537 65537 I).2.2.1) ((fMo_peek 65537 65537 I).2.2.2)
  else ((fMo_peek 65537 65537 I).1, (fMo_peek 65537 65537 I).2.1, (fMo_peek 65537 65537 I).2.2.2)
def pMo_lines  : Nat → (Nat → Nat → Int32) → Prop
  | 0, _ => False
  | n + 1, I =>
  (pMo_peek 65537 65537 I) ∧ ((fMo_peek 65537 65537 I).1 = 0 → pMo_lines_4 (pMo_lines n) ((fMo_peek 65537 65537 I).2.2.1) ((fMo_peek 65537 65537 I).2.2.2))
set_option maxHeartbeats 4000000 in
set_option maxRecDepth 100000 in
theorem Mo_lines_n98 (g : pmG) (d : Nat) (ex : List (Nat × Nat)) (R : Nat → Nat → Value) (hR : mk_R R) (J : Nat → Nat → Int64) (o : Outcome) (Z : pmM) (rc rs : Nat) (r0 : (Nat → Nat → Int32) → Int32 × Int32 × (Nat → Nat → Int32)) (q0 : (Nat → Nat → Int32) → Prop) (ih0 : ∀ (I : Nat → Nat → Int32), q0 I → (o, Z, rc, rs) = pt_V (mk_K ++ ex) R J (r0 I) → pmE g kMo_lines (d + 875) rc rs 0 [(0, .ref 40)] [] (mk_K ++ ex) R I J o Z)  (I : Nat → Nat → Int32) (hp : pMo_lines_98 q0 I) (hF : (o, Z, rc, rs) = pt_V (mk_K ++ ex) R J (fMo_lines_98 r0 I)) : pmE g kMo_lines (d + 875) rc rs 98 [(0, .ref 40)] [] (mk_K ++ ex) R I J o Z := by
  unfold pMo_lines_98 at hp
  refine pm_goto 0 dMo_lines_98 (by decide) ?_
  refine pm_wk [0] rfl ?_
  exact ih0 _ hp (hF.trans (by first | (simp only [fMo_lines_98]; done) | (simp only [fMo_lines_98]; with_reducible rfl) | with_reducible rfl))
set_option maxHeartbeats 4000000 in
set_option maxRecDepth 100000 in
theorem Mo_lines_n92 (g : pmG) (d : Nat) (ex : List (Nat × Nat)) (R : Nat → Nat → Value) (hR : mk_R R) (J : Nat → Nat → Int64) (o : Outcome) (Z : pmM) (rc rs : Nat) (r0 : (Nat → Nat → Int32) → Int32 × Int32 × (Nat → Nat → Int32)) (q0 : (Nat → Nat → Int32) → Prop) (ih0 : ∀ (I : Nat → Nat → Int32), q0 I → (o, Z, rc, rs) = pt_V (mk_K ++ ex) R J (r0 I) → pmE g kMo_lines (d + 875) rc rs 0 [(0, .ref 40)] [] (mk_K ++ ex) R I J o Z)  (I : Nat → Nat → Int32) (hp : pMo_lines_92 q0 I) (hF : (o, Z, rc, rs) = pt_V (mk_K ++ ex) R J (fMo_lines_92 r0 I)) : pmE g kMo_lines (d + 875) rc rs 92 [(0, .ref 40)] [] (mk_K ++ ex) R I J o Z := by
  unfold pMo_lines_92 at hp
  refine pm_aload_n dMo_lines_92 rfl ?_
  refine pm_bipush (v := 59) dMo_lines_93 (by decide) ?_
  refine pt_callV (v2 := none) dMo_lines_95 lMo_277 vMo_must ⟨_, _, rfl⟩ (Mo_must_ok _ _ _ _ hR _ _ _ hp.1) rfl rfl rfl (Nat.le_of_ble_eq_true rfl) (fun h95 => ?_) (fun h95 => hF.trans (by first | (simp only [fMo_lines_92, if_neg h95]; done) | (simp only [fMo_lines_92, if_neg h95]; rfl) | rfl))
  refine pm_wk [0] rfl ?_
  exact Mo_lines_n98 g d ex R hR J _ _ _ _ r0 q0 ih0  _ (hp.2 h95) (hF.trans (by first | (simp only [fMo_lines_92, if_pos h95]; done) | (simp only [fMo_lines_92, if_pos h95]; with_reducible rfl) | with_reducible rfl))
set_option maxHeartbeats 4000000 in
set_option maxRecDepth 100000 in
theorem Mo_lines_n20 (g : pmG) (d : Nat) (ex : List (Nat × Nat)) (R : Nat → Nat → Value) (hR : mk_R R) (J : Nat → Nat → Int64) (o : Outcome) (Z : pmM) (rc rs : Nat) (r0 : (Nat → Nat → Int32) → Int32 × Int32 × (Nat → Nat → Int32)) (q0 : (Nat → Nat → Int32) → Prop) (ih0 : ∀ (I : Nat → Nat → Int32), q0 I → (o, Z, rc, rs) = pt_V (mk_K ++ ex) R J (r0 I) → pmE g kMo_lines (d + 875) rc rs 0 [(0, .ref 40)] [] (mk_K ++ ex) R I J o Z)  (I : Nat → Nat → Int32) (hp : pMo_lines_20 q0 I) (hF : (o, Z, rc, rs) = pt_V (mk_K ++ ex) R J (fMo_lines_20 r0 I)) : pmE g kMo_lines (d + 875) rc rs 20 [(0, .ref 40)] [] (mk_K ++ ex) R I J o Z := by
  unfold pMo_lines_20 at hp
  refine pm_goto 92 dMo_lines_20 (by decide) ?_
  refine pm_wk [0] rfl ?_
  exact Mo_lines_n92 g d ex R hR J _ _ _ _ r0 q0 ih0  _ hp (hF.trans (by first | (simp only [fMo_lines_20]; done) | (simp only [fMo_lines_20]; with_reducible rfl) | with_reducible rfl))
set_option maxHeartbeats 4000000 in
set_option maxRecDepth 100000 in
theorem Mo_lines_n36 (g : pmG) (d : Nat) (ex : List (Nat × Nat)) (R : Nat → Nat → Value) (hR : mk_R R) (J : Nat → Nat → Int64) (o : Outcome) (Z : pmM) (rc rs : Nat) (r0 : (Nat → Nat → Int32) → Int32 × Int32 × (Nat → Nat → Int32)) (q0 : (Nat → Nat → Int32) → Prop) (ih0 : ∀ (I : Nat → Nat → Int32), q0 I → (o, Z, rc, rs) = pt_V (mk_K ++ ex) R J (r0 I) → pmE g kMo_lines (d + 875) rc rs 0 [(0, .ref 40)] [] (mk_K ++ ex) R I J o Z)  (I : Nat → Nat → Int32) (hp : pMo_lines_36 q0 I) (hF : (o, Z, rc, rs) = pt_V (mk_K ++ ex) R J (fMo_lines_36 r0 I)) : pmE g kMo_lines (d + 875) rc rs 36 [(0, .ref 40)] [] (mk_K ++ ex) R I J o Z := by
  unfold pMo_lines_36 at hp
  refine pm_goto 92 dMo_lines_36 (by decide) ?_
  refine pm_wk [0] rfl ?_
  exact Mo_lines_n92 g d ex R hR J _ _ _ _ r0 q0 ih0  _ hp (hF.trans (by first | (simp only [fMo_lines_36]; done) | (simp only [fMo_lines_36]; with_reducible rfl) | with_reducible rfl))
set_option maxHeartbeats 4000000 in
set_option maxRecDepth 100000 in
theorem Mo_lines_n52 (g : pmG) (d : Nat) (ex : List (Nat × Nat)) (R : Nat → Nat → Value) (hR : mk_R R) (J : Nat → Nat → Int64) (o : Outcome) (Z : pmM) (rc rs : Nat) (r0 : (Nat → Nat → Int32) → Int32 × Int32 × (Nat → Nat → Int32)) (q0 : (Nat → Nat → Int32) → Prop) (ih0 : ∀ (I : Nat → Nat → Int32), q0 I → (o, Z, rc, rs) = pt_V (mk_K ++ ex) R J (r0 I) → pmE g kMo_lines (d + 875) rc rs 0 [(0, .ref 40)] [] (mk_K ++ ex) R I J o Z)  (I : Nat → Nat → Int32) (hp : pMo_lines_52 q0 I) (hF : (o, Z, rc, rs) = pt_V (mk_K ++ ex) R J (fMo_lines_52 r0 I)) : pmE g kMo_lines (d + 875) rc rs 52 [(0, .ref 40)] [] (mk_K ++ ex) R I J o Z := by
  unfold pMo_lines_52 at hp
  refine pm_goto 92 dMo_lines_52 (by decide) ?_
  refine pm_wk [0] rfl ?_
  exact Mo_lines_n92 g d ex R hR J _ _ _ _ r0 q0 ih0  _ hp (hF.trans (by first | (simp only [fMo_lines_52]; done) | (simp only [fMo_lines_52]; with_reducible rfl) | with_reducible rfl))
set_option maxHeartbeats 4000000 in
set_option maxRecDepth 100000 in
theorem Mo_lines_n68 (g : pmG) (d : Nat) (ex : List (Nat × Nat)) (R : Nat → Nat → Value) (hR : mk_R R) (J : Nat → Nat → Int64) (o : Outcome) (Z : pmM) (rc rs : Nat) (r0 : (Nat → Nat → Int32) → Int32 × Int32 × (Nat → Nat → Int32)) (q0 : (Nat → Nat → Int32) → Prop) (ih0 : ∀ (I : Nat → Nat → Int32), q0 I → (o, Z, rc, rs) = pt_V (mk_K ++ ex) R J (r0 I) → pmE g kMo_lines (d + 875) rc rs 0 [(0, .ref 40)] [] (mk_K ++ ex) R I J o Z)  (I : Nat → Nat → Int32) (hp : pMo_lines_68 q0 I) (hF : (o, Z, rc, rs) = pt_V (mk_K ++ ex) R J (fMo_lines_68 r0 I)) : pmE g kMo_lines (d + 875) rc rs 68 [(0, .ref 40)] [] (mk_K ++ ex) R I J o Z := by
  unfold pMo_lines_68 at hp
  refine pm_goto 92 dMo_lines_68 (by decide) ?_
  refine pm_wk [0] rfl ?_
  exact Mo_lines_n92 g d ex R hR J _ _ _ _ r0 q0 ih0  _ hp (hF.trans (by first | (simp only [fMo_lines_68]; done) | (simp only [fMo_lines_68]; with_reducible rfl) | with_reducible rfl))
set_option maxHeartbeats 4000000 in
set_option maxRecDepth 100000 in
theorem Mo_lines_n84 (g : pmG) (d : Nat) (ex : List (Nat × Nat)) (R : Nat → Nat → Value) (hR : mk_R R) (J : Nat → Nat → Int64) (o : Outcome) (Z : pmM) (rc rs : Nat) (r0 : (Nat → Nat → Int32) → Int32 × Int32 × (Nat → Nat → Int32)) (q0 : (Nat → Nat → Int32) → Prop) (ih0 : ∀ (I : Nat → Nat → Int32), q0 I → (o, Z, rc, rs) = pt_V (mk_K ++ ex) R J (r0 I) → pmE g kMo_lines (d + 875) rc rs 0 [(0, .ref 40)] [] (mk_K ++ ex) R I J o Z)  (I : Nat → Nat → Int32) (hp : pMo_lines_84 q0 I) (hF : (o, Z, rc, rs) = pt_V (mk_K ++ ex) R J (fMo_lines_84 r0 I)) : pmE g kMo_lines (d + 875) rc rs 84 [(0, .ref 40)] [] (mk_K ++ ex) R I J o Z := by
  unfold pMo_lines_84 at hp
  refine pm_goto 92 dMo_lines_84 (by decide) ?_
  refine pm_wk [0] rfl ?_
  exact Mo_lines_n92 g d ex R hR J _ _ _ _ r0 q0 ih0  _ hp (hF.trans (by first | (simp only [fMo_lines_84]; done) | (simp only [fMo_lines_84]; with_reducible rfl) | with_reducible rfl))
set_option maxHeartbeats 4000000 in
set_option maxRecDepth 100000 in
theorem Mo_lines_n77 (g : pmG) (d : Nat) (ex : List (Nat × Nat)) (R : Nat → Nat → Value) (hR : mk_R R) (J : Nat → Nat → Int64) (o : Outcome) (Z : pmM) (rc rs : Nat) (r0 : (Nat → Nat → Int32) → Int32 × Int32 × (Nat → Nat → Int32)) (q0 : (Nat → Nat → Int32) → Prop) (ih0 : ∀ (I : Nat → Nat → Int32), q0 I → (o, Z, rc, rs) = pt_V (mk_K ++ ex) R J (r0 I) → pmE g kMo_lines (d + 875) rc rs 0 [(0, .ref 40)] [] (mk_K ++ ex) R I J o Z)  (z0 : Int32) (I : Nat → Nat → Int32) (hp : pMo_lines_77 q0 z0 I) (hF : (o, Z, rc, rs) = pt_V (mk_K ++ ex) R J (fMo_lines_77 r0 z0 I)) : pmE g kMo_lines (d + 875) rc rs 77 [(0, .ref 40)] [.int z0] (mk_K ++ ex) R I J o Z := by
  unfold pMo_lines_77 at hp
  refine pm_if_eq 87 dMo_lines_77 (by decide) (fun h77 => ?_) (fun h77 => ?_)
  ·
    refine pm_aload_n dMo_lines_87 rfl ?_
    exact pt_cant (v2 := none) dMo_lines_88 lMo_211 vMo_cant ⟨_, _, rfl⟩ (Mo_cant_ok _ _ _ _ hR _ _ (hp.1 h77)) dMo_lines_91 rfl (by decide +kernel) (Nat.le_of_ble_eq_true rfl) (fMo_cant_ne _) (hF.trans (by first | (simp only [fMo_lines_77, if_pos h77]; done) | (simp only [fMo_lines_77, if_pos h77]; rfl) | rfl))
  ·
    refine pm_aload_n dMo_lines_80 rfl ?_
    refine pt_callV (v2 := none) dMo_lines_81 lMo_320 vMo_spec ⟨_, _, rfl⟩ (Mo_spec_ok _ _ _ _ hR  _ _ (hp.2 h77).1) rfl rfl rfl (Nat.le_of_ble_eq_true rfl) (fun h81 => ?_) (fun h81 => hF.trans (by first | (simp only [fMo_lines_77, if_neg h77, if_neg h81]; done) | (simp only [fMo_lines_77, if_neg h77, if_neg h81]; rfl) | rfl))
    refine pm_wk [0] rfl ?_
    exact Mo_lines_n84 g d ex R hR J _ _ _ _ r0 q0 ih0  _ ((hp.2 h77).2 h81) (hF.trans (by first | (simp only [fMo_lines_77, if_neg h77, if_pos h81]; done) | (simp only [fMo_lines_77, if_neg h77, if_pos h81]; with_reducible rfl) | with_reducible rfl))
set_option maxHeartbeats 4000000 in
set_option maxRecDepth 100000 in
theorem Mo_lines_n61 (g : pmG) (d : Nat) (ex : List (Nat × Nat)) (R : Nat → Nat → Value) (hR : mk_R R) (J : Nat → Nat → Int64) (o : Outcome) (Z : pmM) (rc rs : Nat) (r0 : (Nat → Nat → Int32) → Int32 × Int32 × (Nat → Nat → Int32)) (q0 : (Nat → Nat → Int32) → Prop) (ih0 : ∀ (I : Nat → Nat → Int32), q0 I → (o, Z, rc, rs) = pt_V (mk_K ++ ex) R J (r0 I) → pmE g kMo_lines (d + 875) rc rs 0 [(0, .ref 40)] [] (mk_K ++ ex) R I J o Z)  (z0 : Int32) (I : Nat → Nat → Int32) (hp : pMo_lines_61 q0 z0 I) (hF : (o, Z, rc, rs) = pt_V (mk_K ++ ex) R J (fMo_lines_61 r0 z0 I)) : pmE g kMo_lines (d + 875) rc rs 61 [(0, .ref 40)] [.int z0] (mk_K ++ ex) R I J o Z := by
  unfold pMo_lines_61 at hp
  refine pm_if_eq 71 dMo_lines_61 (by decide) (fun h61 => ?_) (fun h61 => ?_)
  ·
    refine pm_aload_n dMo_lines_71 rfl ?_
    refine pm_ldcS dMo_lines_72 zMo_238 ?_
    refine pt_callV (v2 := none) dMo_lines_74 lMo_229 vMo_is ⟨_, _, rfl⟩ (Mo_is_21_ok _ _ _ _ hR _ _ _ (hp.1 h61).1) rfl rfl rfl (Nat.le_of_ble_eq_true rfl) (fun h74 => ?_) (fun h74 => hF.trans (by first | (simp only [fMo_lines_61, if_pos h61, if_neg h74]; done) | (simp only [fMo_lines_61, if_pos h61, if_neg h74]; rfl) | rfl))
    refine pm_wk [0] rfl ?_
    exact Mo_lines_n77 g d ex R hR J _ _ _ _ r0 q0 ih0  _ _ ((hp.1 h61).2 h74) (hF.trans (by first | (simp only [fMo_lines_61, if_pos h61, if_pos h74]; done) | (simp only [fMo_lines_61, if_pos h61, if_pos h74]; with_reducible rfl) | with_reducible rfl))
  ·
    refine pm_aload_n dMo_lines_64 rfl ?_
    refine pt_callV (v2 := none) dMo_lines_65 lMo_318 vMo_next ⟨_, _, rfl⟩ (Mo_next_ok _ _ _ _ hR  _ _ (hp.2 h61).1) rfl rfl rfl (Nat.le_of_ble_eq_true rfl) (fun h65 => ?_) (fun h65 => hF.trans (by first | (simp only [fMo_lines_61, if_neg h61, if_neg h65]; done) | (simp only [fMo_lines_61, if_neg h61, if_neg h65]; rfl) | rfl))
    refine pm_wk [0] rfl ?_
    exact Mo_lines_n68 g d ex R hR J _ _ _ _ r0 q0 ih0  _ ((hp.2 h61).2 h65) (hF.trans (by first | (simp only [fMo_lines_61, if_neg h61, if_pos h65]; done) | (simp only [fMo_lines_61, if_neg h61, if_pos h65]; with_reducible rfl) | with_reducible rfl))
set_option maxHeartbeats 4000000 in
set_option maxRecDepth 100000 in
theorem Mo_lines_n45 (g : pmG) (d : Nat) (ex : List (Nat × Nat)) (R : Nat → Nat → Value) (hR : mk_R R) (J : Nat → Nat → Int64) (o : Outcome) (Z : pmM) (rc rs : Nat) (r0 : (Nat → Nat → Int32) → Int32 × Int32 × (Nat → Nat → Int32)) (q0 : (Nat → Nat → Int32) → Prop) (ih0 : ∀ (I : Nat → Nat → Int32), q0 I → (o, Z, rc, rs) = pt_V (mk_K ++ ex) R J (r0 I) → pmE g kMo_lines (d + 875) rc rs 0 [(0, .ref 40)] [] (mk_K ++ ex) R I J o Z)  (z0 : Int32) (I : Nat → Nat → Int32) (hp : pMo_lines_45 q0 z0 I) (hF : (o, Z, rc, rs) = pt_V (mk_K ++ ex) R J (fMo_lines_45 r0 z0 I)) : pmE g kMo_lines (d + 875) rc rs 45 [(0, .ref 40)] [.int z0] (mk_K ++ ex) R I J o Z := by
  unfold pMo_lines_45 at hp
  refine pm_if_eq 55 dMo_lines_45 (by decide) (fun h45 => ?_) (fun h45 => ?_)
  ·
    refine pm_aload_n dMo_lines_55 rfl ?_
    refine pm_ldcS dMo_lines_56 zMo_236 ?_
    refine pt_callV (v2 := none) dMo_lines_58 lMo_229 vMo_is ⟨_, _, rfl⟩ (Mo_is_20_ok _ _ _ _ hR _ _ _ (hp.1 h45).1) rfl rfl rfl (Nat.le_of_ble_eq_true rfl) (fun h58 => ?_) (fun h58 => hF.trans (by first | (simp only [fMo_lines_45, if_pos h45, if_neg h58]; done) | (simp only [fMo_lines_45, if_pos h45, if_neg h58]; rfl) | rfl))
    refine pm_wk [0] rfl ?_
    exact Mo_lines_n61 g d ex R hR J _ _ _ _ r0 q0 ih0  _ _ ((hp.1 h45).2 h58) (hF.trans (by first | (simp only [fMo_lines_45, if_pos h45, if_pos h58]; done) | (simp only [fMo_lines_45, if_pos h45, if_pos h58]; with_reducible rfl) | with_reducible rfl))
  ·
    refine pm_aload_n dMo_lines_48 rfl ?_
    refine pt_callV (v2 := none) dMo_lines_49 lMo_316 vMo_wire ⟨_, _, rfl⟩ (Mo_wire_ok _ _ _ _ hR  _ _ (hp.2 h45).1) rfl rfl rfl (Nat.le_of_ble_eq_true rfl) (fun h49 => ?_) (fun h49 => hF.trans (by first | (simp only [fMo_lines_45, if_neg h45, if_neg h49]; done) | (simp only [fMo_lines_45, if_neg h45, if_neg h49]; rfl) | rfl))
    refine pm_wk [0] rfl ?_
    exact Mo_lines_n52 g d ex R hR J _ _ _ _ r0 q0 ih0  _ ((hp.2 h45).2 h49) (hF.trans (by first | (simp only [fMo_lines_45, if_neg h45, if_pos h49]; done) | (simp only [fMo_lines_45, if_neg h45, if_pos h49]; with_reducible rfl) | with_reducible rfl))
set_option maxHeartbeats 4000000 in
set_option maxRecDepth 100000 in
theorem Mo_lines_n29 (g : pmG) (d : Nat) (ex : List (Nat × Nat)) (R : Nat → Nat → Value) (hR : mk_R R) (J : Nat → Nat → Int64) (o : Outcome) (Z : pmM) (rc rs : Nat) (r0 : (Nat → Nat → Int32) → Int32 × Int32 × (Nat → Nat → Int32)) (q0 : (Nat → Nat → Int32) → Prop) (ih0 : ∀ (I : Nat → Nat → Int32), q0 I → (o, Z, rc, rs) = pt_V (mk_K ++ ex) R J (r0 I) → pmE g kMo_lines (d + 875) rc rs 0 [(0, .ref 40)] [] (mk_K ++ ex) R I J o Z)  (z0 : Int32) (I : Nat → Nat → Int32) (hp : pMo_lines_29 q0 z0 I) (hF : (o, Z, rc, rs) = pt_V (mk_K ++ ex) R J (fMo_lines_29 r0 z0 I)) : pmE g kMo_lines (d + 875) rc rs 29 [(0, .ref 40)] [.int z0] (mk_K ++ ex) R I J o Z := by
  unfold pMo_lines_29 at hp
  refine pm_if_eq 39 dMo_lines_29 (by decide) (fun h29 => ?_) (fun h29 => ?_)
  ·
    refine pm_aload_n dMo_lines_39 rfl ?_
    refine pm_ldcS dMo_lines_40 zMo_235 ?_
    refine pt_callV (v2 := none) dMo_lines_42 lMo_229 vMo_is ⟨_, _, rfl⟩ (Mo_is_19_ok _ _ _ _ hR _ _ _ (hp.1 h29).1) rfl rfl rfl (Nat.le_of_ble_eq_true rfl) (fun h42 => ?_) (fun h42 => hF.trans (by first | (simp only [fMo_lines_29, if_pos h29, if_neg h42]; done) | (simp only [fMo_lines_29, if_pos h29, if_neg h42]; rfl) | rfl))
    refine pm_wk [0] rfl ?_
    exact Mo_lines_n45 g d ex R hR J _ _ _ _ r0 q0 ih0  _ _ ((hp.1 h29).2 h42) (hF.trans (by first | (simp only [fMo_lines_29, if_pos h29, if_pos h42]; done) | (simp only [fMo_lines_29, if_pos h29, if_pos h42]; with_reducible rfl) | with_reducible rfl))
  ·
    refine pm_aload_n dMo_lines_32 rfl ?_
    refine pt_callV (v2 := none) dMo_lines_33 lMo_314 vMo_input ⟨_, _, rfl⟩ (Mo_input_ok _ _ _ _ hR  _ _ (hp.2 h29).1) rfl rfl rfl (Nat.le_of_ble_eq_true rfl) (fun h33 => ?_) (fun h33 => hF.trans (by first | (simp only [fMo_lines_29, if_neg h29, if_neg h33]; done) | (simp only [fMo_lines_29, if_neg h29, if_neg h33]; rfl) | rfl))
    refine pm_wk [0] rfl ?_
    exact Mo_lines_n36 g d ex R hR J _ _ _ _ r0 q0 ih0  _ ((hp.2 h29).2 h33) (hF.trans (by first | (simp only [fMo_lines_29, if_neg h29, if_pos h33]; done) | (simp only [fMo_lines_29, if_neg h29, if_pos h33]; with_reducible rfl) | with_reducible rfl))
set_option maxHeartbeats 4000000 in
set_option maxRecDepth 100000 in
theorem Mo_lines_n13 (g : pmG) (d : Nat) (ex : List (Nat × Nat)) (R : Nat → Nat → Value) (hR : mk_R R) (J : Nat → Nat → Int64) (o : Outcome) (Z : pmM) (rc rs : Nat) (r0 : (Nat → Nat → Int32) → Int32 × Int32 × (Nat → Nat → Int32)) (q0 : (Nat → Nat → Int32) → Prop) (ih0 : ∀ (I : Nat → Nat → Int32), q0 I → (o, Z, rc, rs) = pt_V (mk_K ++ ex) R J (r0 I) → pmE g kMo_lines (d + 875) rc rs 0 [(0, .ref 40)] [] (mk_K ++ ex) R I J o Z)  (z0 : Int32) (I : Nat → Nat → Int32) (hp : pMo_lines_13 q0 z0 I) (hF : (o, Z, rc, rs) = pt_V (mk_K ++ ex) R J (fMo_lines_13 r0 z0 I)) : pmE g kMo_lines (d + 875) rc rs 13 [(0, .ref 40)] [.int z0] (mk_K ++ ex) R I J o Z := by
  unfold pMo_lines_13 at hp
  refine pm_if_eq 23 dMo_lines_13 (by decide) (fun h13 => ?_) (fun h13 => ?_)
  ·
    refine pm_aload_n dMo_lines_23 rfl ?_
    refine pm_ldcS dMo_lines_24 zMo_233 ?_
    refine pt_callV (v2 := none) dMo_lines_26 lMo_229 vMo_is ⟨_, _, rfl⟩ (Mo_is_18_ok _ _ _ _ hR _ _ _ (hp.1 h13).1) rfl rfl rfl (Nat.le_of_ble_eq_true rfl) (fun h26 => ?_) (fun h26 => hF.trans (by first | (simp only [fMo_lines_13, if_pos h13, if_neg h26]; done) | (simp only [fMo_lines_13, if_pos h13, if_neg h26]; rfl) | rfl))
    refine pm_wk [0] rfl ?_
    exact Mo_lines_n29 g d ex R hR J _ _ _ _ r0 q0 ih0  _ _ ((hp.1 h13).2 h26) (hF.trans (by first | (simp only [fMo_lines_13, if_pos h13, if_pos h26]; done) | (simp only [fMo_lines_13, if_pos h13, if_pos h26]; with_reducible rfl) | with_reducible rfl))
  ·
    refine pm_aload_n dMo_lines_16 rfl ?_
    refine pt_callV (v2 := none) dMo_lines_17 lMo_312 vMo_reg ⟨_, _, rfl⟩ (Mo_reg_ok _ _ _ _ hR  _ _ (hp.2 h13).1) rfl rfl rfl (Nat.le_of_ble_eq_true rfl) (fun h17 => ?_) (fun h17 => hF.trans (by first | (simp only [fMo_lines_13, if_neg h13, if_neg h17]; done) | (simp only [fMo_lines_13, if_neg h13, if_neg h17]; rfl) | rfl))
    refine pm_wk [0] rfl ?_
    exact Mo_lines_n20 g d ex R hR J _ _ _ _ r0 q0 ih0  _ ((hp.2 h13).2 h17) (hF.trans (by first | (simp only [fMo_lines_13, if_neg h13, if_pos h17]; done) | (simp only [fMo_lines_13, if_neg h13, if_pos h17]; with_reducible rfl) | with_reducible rfl))
set_option maxHeartbeats 4000000 in
set_option maxRecDepth 100000 in
theorem Mo_lines_n4 (g : pmG) (d : Nat) (ex : List (Nat × Nat)) (R : Nat → Nat → Value) (hR : mk_R R) (J : Nat → Nat → Int64) (o : Outcome) (Z : pmM) (rc rs : Nat) (r0 : (Nat → Nat → Int32) → Int32 × Int32 × (Nat → Nat → Int32)) (q0 : (Nat → Nat → Int32) → Prop) (ih0 : ∀ (I : Nat → Nat → Int32), q0 I → (o, Z, rc, rs) = pt_V (mk_K ++ ex) R J (r0 I) → pmE g kMo_lines (d + 875) rc rs 0 [(0, .ref 40)] [] (mk_K ++ ex) R I J o Z)  (z0 : Int32) (I : Nat → Nat → Int32) (hp : pMo_lines_4 q0 z0 I) (hF : (o, Z, rc, rs) = pt_V (mk_K ++ ex) R J (fMo_lines_4 r0 z0 I)) : pmE g kMo_lines (d + 875) rc rs 4 [(0, .ref 40)] [.int z0] (mk_K ++ ex) R I J o Z := by
  unfold pMo_lines_4 at hp
  refine pm_if_eq 101 dMo_lines_4 (by decide) (fun h4 => ?_) (fun h4 => ?_)
  ·
    exact pt_vret dMo_lines_101 rfl (hF.trans (by first | (simp only [fMo_lines_4, if_pos h4]; done) | (simp only [fMo_lines_4, if_pos h4]; rfl) | rfl))
  ·
    refine pm_aload_n dMo_lines_7 rfl ?_
    refine pm_ldcS dMo_lines_8 zMo_227 ?_
    refine pt_callV (v2 := none) dMo_lines_10 lMo_229 vMo_is ⟨_, _, rfl⟩ (Mo_is_17_ok _ _ _ _ hR _ _ _ (hp.2 h4).1) rfl rfl rfl (Nat.le_of_ble_eq_true rfl) (fun h10 => ?_) (fun h10 => hF.trans (by first | (simp only [fMo_lines_4, if_neg h4, if_neg h10]; done) | (simp only [fMo_lines_4, if_neg h4, if_neg h10]; rfl) | rfl))
    refine pm_wk [0] rfl ?_
    exact Mo_lines_n13 g d ex R hR J _ _ _ _ r0 q0 ih0  _ _ ((hp.2 h4).2 h10) (hF.trans (by first | (simp only [fMo_lines_4, if_neg h4, if_pos h10]; done) | (simp only [fMo_lines_4, if_neg h4, if_pos h10]; with_reducible rfl) | with_reducible rfl))
set_option maxHeartbeats 4000000 in
set_option maxRecDepth 100000 in
theorem Mo_lines_n0 (g : pmG) (d : Nat) (ex : List (Nat × Nat)) (R : Nat → Nat → Value) (hR : mk_R R) (J : Nat → Nat → Int64) (o : Outcome) (Z : pmM) (rc rs : Nat)  : ∀ (n : Nat) (I : Nat → Nat → Int32), pMo_lines n I → (o, Z, rc, rs) = pt_V (mk_K ++ ex) R J (fMo_lines n I) → pmE g kMo_lines (d + 875) rc rs 0 [(0, .ref 40)] [] (mk_K ++ ex) R I J o Z := by
  intro n
  induction n with
  | zero => intro I hp; exact False.elim hp
  | succ n ih =>
  intro I hp hF
  simp only [pMo_lines] at hp
  refine pm_aload_n dMo_lines_0 rfl ?_
  refine pt_callV (v2 := none) dMo_lines_1 lMo_207 vMo_peek ⟨_, _, rfl⟩ (Mo_peek_ok _ _ _ _ hR _ _ _ _ hp.1) rfl rfl rfl (Nat.le_of_ble_eq_true rfl) (fun h1 => ?_) (fun h1 => hF.trans (by first | (simp only [fMo_lines, if_neg h1]; done) | (simp only [fMo_lines, if_neg h1]; rfl) | rfl))
  refine pm_wk [0] rfl ?_
  exact Mo_lines_n4 g d ex R hR J _ _ _ _ (fMo_lines n) (pMo_lines n) ih  _ _ (hp.2 h1) (hF.trans (by first | (simp only [fMo_lines, if_pos h1]; done) | (simp only [fMo_lines, if_pos h1]; with_reducible rfl) | with_reducible rfl))
set_option maxHeartbeats 4000000 in
set_option maxRecDepth 100000 in
theorem Mo_lines_ok (g : pmG) (d : Nat) (ex : List (Nat × Nat)) (R : Nat → Nat → Value) (hR : mk_R R) (n0 : Nat)  (I : Nat → Nat → Int32) (J : Nat → Nat → Int64) (hp : pMo_lines n0 I) : pmT g kMo_lines (d + 875) [.ref 40] (mk_K ++ ex, R, I, J) (pt_V (mk_K ++ ex) R J (fMo_lines n0 I)) :=
  pmC.of (by decide) (Nat.le_of_ble_eq_true rfl) (Mo_lines_n0 g d ex R hR J _ _ _ _ n0  I hp rfl)
