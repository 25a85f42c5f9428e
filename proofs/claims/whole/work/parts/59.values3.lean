def fMo_value_214 (G : Nat → Int32 → Int32 → (Nat → Nat → Int32) → Int32) : Nat → Int32 → Int32 → Int32 → (Nat → Nat → Int32) → Int32
  | 0, _, _, _, _ => 0
  | n + 1, y1, y3, y4, I =>
  if y4 < 0 then y3
  else fMo_value_214 G n y1 ((fMo_joined (I 56 y4.toNatClampNeg) y3 ((G 0 y4 0 I)))) (I 55 y4.toNatClampNeg) I
def pMo_value_214 (G : Nat → Int32 → Int32 → (Nat → Nat → Int32) → Int32) (GQ : Nat → Int32 → Int32 → (Nat → Nat → Int32) → Prop) : Nat → Int32 → Int32 → Int32 → (Nat → Nat → Int32) → Prop
  | 0, _, _, _, _ => False
  | n + 1, y1, y3, y4, I =>
  (y4 < 0 → True) ∧
  (¬ (y4 < 0) → (vp_in y4 4200) ∧ ((GQ 0 y4 0 I) ∧ ((pMo_joined (I 56 y4.toNatClampNeg) y3 ((G 0 y4 0 I))) ∧ ((vp_in y4 4200) ∧ (pMo_value_214 G GQ n y1 ((fMo_joined (I 56 y4.toNatClampNeg) y3 ((G 0 y4 0 I)))) (I 55 y4.toNatClampNeg) I)))))
def fMo_value (G : Nat → Int32 → Int32 → (Nat → Nat → Int32) → Int32) (n214 : Nat) (y1 : Int32) (I : Nat → Nat → Int32) : Int32 :=
  if (I 52 y1.toNatClampNeg) = 0 then I 53 y1.toNatClampNeg
  else if (I 52 y1.toNatClampNeg) = 1 then if (I 44 (I 53 y1.toNatClampNeg).toNatClampNeg) = (1 : Int32) then I 60 (I 45 (I 53 y1.toNatClampNeg).toNatClampNeg).toNatClampNeg
    else if (I 44 (I 53 y1.toNatClampNeg).toNatClampNeg) = (2 : Int32) then I 61 (I 45 (I 53 y1.toNatClampNeg).toNatClampNeg).toNatClampNeg
      else I 62 (I 45 (I 53 y1.toNatClampNeg).toNatClampNeg).toNatClampNeg
  else if (I 52 y1.toNatClampNeg) = 2 then if (I 53 y1.toNatClampNeg) = (45 : Int32) then (-((G 0 (I 54 y1.toNatClampNeg) 0 I))) &&& (255 : Int32)
    else if (I 53 y1.toNatClampNeg) = (126 : Int32) then (((G 0 (I 54 y1.toNatClampNeg) 0 I)) ^^^ (-1 : Int32)) &&& (255 : Int32)
      else if ((G 0 (I 54 y1.toNatClampNeg) 0 I)) = 0 then (1 : Int32)
        else (0 : Int32)
  else if (I 52 y1.toNatClampNeg) = 3 then fMo_value_214 G n214 y1 ((G 0 (I 54 y1.toNatClampNeg) 0 I)) (I 55 (I 54 y1.toNatClampNeg).toNatClampNeg) I
  else if ((G 0 (I 54 y1.toNatClampNeg) 0 I)) = 0 then (G 0 (I 55 (I 55 (I 54 y1.toNatClampNeg).toNatClampNeg).toNatClampNeg) 0 I)
    else (G 0 (I 55 (I 54 y1.toNatClampNeg).toNatClampNeg) 0 I)
def pMo_value (G : Nat → Int32 → Int32 → (Nat → Nat → Int32) → Int32) (GQ : Nat → Int32 → Int32 → (Nat → Nat → Int32) → Prop) (n214 : Nat) (y1 : Int32) (I : Nat → Nat → Int32) : Prop :=
  (vp_in y1 4200) ∧ (((I 52 y1.toNatClampNeg) = 0 → (vp_in y1 4200) ∧ True) ∧
  (¬ ((I 52 y1.toNatClampNeg) = 0) → ((I 52 y1.toNatClampNeg) = 1 → (vp_in y1 4200) ∧ ((vp_in (I 53 y1.toNatClampNeg) 60) ∧ (((I 44 (I 53 y1.toNatClampNeg).toNatClampNeg) = (1 : Int32) → (vp_in y1 4200) ∧ ((vp_in (I 53 y1.toNatClampNeg) 60) ∧ ((vp_in (I 45 (I 53 y1.toNatClampNeg).toNatClampNeg) 8) ∧ True))) ∧
    (¬ ((I 44 (I 53 y1.toNatClampNeg).toNatClampNeg) = (1 : Int32)) → (vp_in y1 4200) ∧ ((vp_in (I 53 y1.toNatClampNeg) 60) ∧ (((I 44 (I 53 y1.toNatClampNeg).toNatClampNeg) = (2 : Int32) → (vp_in y1 4200) ∧ ((vp_in (I 53 y1.toNatClampNeg) 60) ∧ ((vp_in (I 45 (I 53 y1.toNatClampNeg).toNatClampNeg) 3) ∧ True))) ∧
      (¬ ((I 44 (I 53 y1.toNatClampNeg).toNatClampNeg) = (2 : Int32)) → (vp_in y1 4200) ∧ ((vp_in (I 53 y1.toNatClampNeg) 60) ∧ ((vp_in (I 45 (I 53 y1.toNatClampNeg).toNatClampNeg) 60) ∧ True))))))))) ∧
  (¬ ((I 52 y1.toNatClampNeg) = 1) → ((I 52 y1.toNatClampNeg) = 2 → (vp_in y1 4200) ∧ ((GQ 0 (I 54 y1.toNatClampNeg) 0 I) ∧ ((vp_in y1 4200) ∧ (((I 53 y1.toNatClampNeg) = (45 : Int32) → True) ∧
    (¬ ((I 53 y1.toNatClampNeg) = (45 : Int32)) → (vp_in y1 4200) ∧ (((I 53 y1.toNatClampNeg) = (126 : Int32) → True) ∧
      (¬ ((I 53 y1.toNatClampNeg) = (126 : Int32)) → (((G 0 (I 54 y1.toNatClampNeg) 0 I)) = 0 → True) ∧
        (¬ (((G 0 (I 54 y1.toNatClampNeg) 0 I)) = 0) → True)))))))) ∧
  (¬ ((I 52 y1.toNatClampNeg) = 2) → ((I 52 y1.toNatClampNeg) = 3 → (vp_in y1 4200) ∧ ((GQ 0 (I 54 y1.toNatClampNeg) 0 I) ∧ ((vp_in y1 4200) ∧ ((vp_in (I 54 y1.toNatClampNeg) 4200) ∧ (pMo_value_214 G GQ n214 y1 ((G 0 (I 54 y1.toNatClampNeg) 0 I)) (I 55 (I 54 y1.toNatClampNeg).toNatClampNeg) I))))) ∧
  (¬ ((I 52 y1.toNatClampNeg) = 3) → (vp_in y1 4200) ∧ ((GQ 0 (I 54 y1.toNatClampNeg) 0 I) ∧ ((((G 0 (I 54 y1.toNatClampNeg) 0 I)) = 0 → (vp_in (I 54 y1.toNatClampNeg) 4200) ∧ ((vp_in (I 55 (I 54 y1.toNatClampNeg).toNatClampNeg) 4200) ∧ ((GQ 0 (I 55 (I 55 (I 54 y1.toNatClampNeg).toNatClampNeg).toNatClampNeg) 0 I) ∧ True))) ∧
    (¬ (((G 0 (I 54 y1.toNatClampNeg) 0 I)) = 0) → (vp_in (I 54 y1.toNatClampNeg) 4200) ∧ ((GQ 0 (I 55 (I 54 y1.toNatClampNeg).toNatClampNeg) 0 I) ∧ True)))))))))
set_option maxHeartbeats 4000000 in
set_option maxRecDepth 100000 in
theorem Mo_value_n214 (g : pmG) (d : Nat) (ex : List (Nat × Nat)) (R : Nat → Nat → Value) (hR : mk_R R) (G : Nat → Int32 → Int32 → (Nat → Nat → Int32) → Int32) (GQ : Nat → Int32 → Int32 → (Nat → Nat → Int32) → Prop) (hG0 : ∀ (x0 x1 : Int32) (I : Nat → Nat → Int32) (J : Nat → Nat → Int64), GQ 0 x0 x1 I → pmC g kMo_value (d + 3) 0 0 [.ref 40, .int x0] (mk_K ++ ex, R, I, J) (.returned (some (.int (G 0 x0 x1 I)))) (mk_K ++ ex, R, I, J)) (J : Nat → Nat → Int64) (o : Outcome) (Z : pmM)  : ∀ (n : Nat) (y1 : Int32) (y3 : Int32) (y4 : Int32) (I : Nat → Nat → Int32), pMo_value_214 G GQ n y1 y3 y4 I → o = .returned (some (.int (fMo_value_214 G n y1 y3 y4 I))) → Z = (mk_K ++ ex, R, I, J) → pmE g kMo_value (d + 4) 0 0 214 [(0, .ref 40), (1, .int y1), (3, .int y3), (4, .int y4)] [] (mk_K ++ ex) R I J o Z := by
  intro n
  induction n with
  | zero => intro y1 y3 y4 I hp; exact False.elim hp
  | succ n ih =>
  intro y1 y3 y4 I hp ho hz
  simp only [pMo_value_214] at hp
  refine pm_iload dMo_value_214 rfl ?_
  refine pm_if_lt 249 dMo_value_216 (by decide) (fun h216 => ?_) (fun h216 => ?_)
  ·
    refine pm_iload_n dMo_value_249 rfl ?_
    exact pm_iret dMo_value_250 rfl (ho.trans (by first | (simp only [fMo_value_214, if_pos h216]; done) | (simp only [fMo_value_214, if_pos h216]; with_reducible rfl) | with_reducible rfl)) (hz.trans (by first | (simp only [fMo_value_214, if_pos h216]; done) | (simp only [fMo_value_214, if_pos h216]; with_reducible rfl) | with_reducible rfl))
  ·
    refine pm_aload_n dMo_value_219 rfl ?_
    refine pm_getr dMo_value_220 fMo_113 rfl (rr_40_33 hR) ?_
    refine pm_iload dMo_value_223 rfl ?_
    refine pm_iald dMo_value_225 rfl (hp.2 h216).1 ?_
    refine pm_iload_n dMo_value_226 rfl ?_
    refine pm_aload_n dMo_value_227 rfl ?_
    refine pm_iload dMo_value_228 rfl ?_
    refine pm_callV dMo_value_230 lMo_339 vMo_value ⟨_, _, rfl⟩ (hG0 y4 0 _ _ (hp.2 h216).2.1) rfl rfl rfl (Nat.le_of_ble_eq_true rfl) (Nat.le_refl _) (Nat.le_refl _) ?_
    refine pm_callS dMo_value_233 lMo_342 tMo_joined (Mo_joined_ok _ _ _ _ _ _ _ _ _ (hp.2 h216).2.2.1) rfl rfl (Nat.le_of_ble_eq_true rfl) (Nat.le_refl _) (Nat.le_refl _) ?_
    refine pm_istore_n dMo_value_236 (by decide) rfl ?_
    refine pm_aload_n dMo_value_237 rfl ?_
    refine pm_getr dMo_value_238 fMo_110 rfl (rr_40_32 hR) ?_
    refine pm_iload dMo_value_241 rfl ?_
    refine pm_iald dMo_value_243 rfl (hp.2 h216).2.2.2.1 ?_
    refine pm_istore dMo_value_244 (by decide) rfl ?_
    refine pm_goto 214 dMo_value_246 (by decide) ?_
    refine pm_wk [2, 3, 1, 0] rfl ?_
    exact ih _ _ _ _ (hp.2 h216).2.2.2.2 (ho.trans (by first | (simp only [fMo_value_214, if_neg h216]; done) | (simp only [fMo_value_214, if_neg h216]; with_reducible rfl) | with_reducible rfl)) (hz.trans (by first | (simp only [fMo_value_214, if_neg h216]; done) | (simp only [fMo_value_214, if_neg h216]; with_reducible rfl) | with_reducible rfl))
set_option maxHeartbeats 4000000 in
set_option maxRecDepth 100000 in
theorem Mo_value_n0 (g : pmG) (d : Nat) (ex : List (Nat × Nat)) (R : Nat → Nat → Value) (hR : mk_R R) (G : Nat → Int32 → Int32 → (Nat → Nat → Int32) → Int32) (GQ : Nat → Int32 → Int32 → (Nat → Nat → Int32) → Prop) (hG0 : ∀ (x0 x1 : Int32) (I : Nat → Nat → Int32) (J : Nat → Nat → Int64), GQ 0 x0 x1 I → pmC g kMo_value (d + 3) 0 0 [.ref 40, .int x0] (mk_K ++ ex, R, I, J) (.returned (some (.int (G 0 x0 x1 I)))) (mk_K ++ ex, R, I, J)) (J : Nat → Nat → Int64) (o : Outcome) (Z : pmM) (n214 : Nat) (y1 : Int32) (I : Nat → Nat → Int32) (hp : pMo_value G GQ n214 y1 I) (ho : o = .returned (some (.int (fMo_value G n214 y1 I)))) (hz : Z = (mk_K ++ ex, R, I, J)) : pmE g kMo_value (d + 4) 0 0 0 [(0, .ref 40), (1, .int y1)] [] (mk_K ++ ex) R I J o Z := by
  unfold pMo_value at hp
  refine pm_aload_n dMo_value_0 rfl ?_
  refine pm_getr dMo_value_1 fMo_101 rfl (rr_40_29 hR) ?_
  refine pm_iload_n dMo_value_4 rfl ?_
  refine pm_iald dMo_value_5 rfl hp.1 ?_
  by_cases h6_0 : (I 52 y1.toNatClampNeg) = 0
  ·
    refine pm_tableIn 36 dMo_value_6 (by rw [h6_0]; decide) (by rw [h6_0]; decide) (by first | (rw [h6_0]; rfl) | rw [h6_0]) (by decide) ?_
    refine pm_aload_n dMo_value_36 rfl ?_
    refine pm_getr dMo_value_37 fMo_104 rfl (rr_40_30 hR) ?_
    refine pm_iload_n dMo_value_40 rfl ?_
    refine pm_iald dMo_value_41 rfl (hp.2.1 h6_0).1 ?_
    exact pm_iret dMo_value_42 rfl (ho.trans (by first | (simp only [fMo_value, if_pos h6_0]; done) | (simp only [fMo_value, if_pos h6_0]; with_reducible rfl) | with_reducible rfl)) (hz.trans (by first | (simp only [fMo_value, if_pos h6_0]; done) | (simp only [fMo_value, if_pos h6_0]; with_reducible rfl) | with_reducible rfl))
  ·
    by_cases h6_1 : (I 52 y1.toNatClampNeg) = 1
    ·
      refine pm_tableIn 43 dMo_value_6 (by rw [h6_1]; decide) (by rw [h6_1]; decide) (by first | (rw [h6_1]; rfl) | rw [h6_1]) (by decide) ?_
      refine pm_aload_n dMo_value_43 rfl ?_
      refine pm_getr dMo_value_44 fMo_56 rfl (rr_40_14 hR) ?_
      refine pm_aload_n dMo_value_47 rfl ?_
      refine pm_getr dMo_value_48 fMo_104 rfl (rr_40_30 hR) ?_
      refine pm_iload_n dMo_value_51 rfl ?_
      refine pm_iald dMo_value_52 rfl ((hp.2.2 h6_0).1 h6_1).1 ?_
      refine pm_iald dMo_value_53 rfl ((hp.2.2 h6_0).1 h6_1).2.1 ?_
      refine pm_iconst (v := 1) dMo_value_54 (by decide) ?_
      refine pm_icmp_ne 77 dMo_value_55 (by decide) (fun h55 => ?_) (fun h55 => ?_)
      ·
        refine pm_aload_n dMo_value_77 rfl ?_
        refine pm_getr dMo_value_78 fMo_56 rfl (rr_40_14 hR) ?_
        refine pm_aload_n dMo_value_81 rfl ?_
        refine pm_getr dMo_value_82 fMo_104 rfl (rr_40_30 hR) ?_
        refine pm_iload_n dMo_value_85 rfl ?_
        refine pm_iald dMo_value_86 rfl (((hp.2.2 h6_0).1 h6_1).2.2.2 h55).1 ?_
        refine pm_iald dMo_value_87 rfl (((hp.2.2 h6_0).1 h6_1).2.2.2 h55).2.1 ?_
        refine pm_iconst (v := 2) dMo_value_88 (by decide) ?_
        refine pm_icmp_ne 111 dMo_value_89 (by decide) (fun h89 => ?_) (fun h89 => ?_)
        ·
          refine pm_aload_n dMo_value_111 rfl ?_
          refine pm_getr dMo_value_112 fMo_137 rfl (rr_40_41 hR) ?_
          refine pm_aload_n dMo_value_115 rfl ?_
          refine pm_getr dMo_value_116 fMo_59 rfl (rr_40_15 hR) ?_
          refine pm_aload_n dMo_value_119 rfl ?_
          refine pm_getr dMo_value_120 fMo_104 rfl (rr_40_30 hR) ?_
          refine pm_iload_n dMo_value_123 rfl ?_
          refine pm_iald dMo_value_124 rfl ((((hp.2.2 h6_0).1 h6_1).2.2.2 h55).2.2.2 h89).1 ?_
          refine pm_iald dMo_value_125 rfl ((((hp.2.2 h6_0).1 h6_1).2.2.2 h55).2.2.2 h89).2.1 ?_
          refine pm_iald dMo_value_126 rfl ((((hp.2.2 h6_0).1 h6_1).2.2.2 h55).2.2.2 h89).2.2.1 ?_
          exact pm_iret dMo_value_127 rfl (ho.trans (by first | (simp only [fMo_value, if_neg h6_0, if_pos h6_1, if_neg h55, if_neg h89]; done) | (simp only [fMo_value, if_neg h6_0, if_pos h6_1, if_neg h55, if_neg h89]; with_reducible rfl) | with_reducible rfl)) (hz.trans (by first | (simp only [fMo_value, if_neg h6_0, if_pos h6_1, if_neg h55, if_neg h89]; done) | (simp only [fMo_value, if_neg h6_0, if_pos h6_1, if_neg h55, if_neg h89]; with_reducible rfl) | with_reducible rfl))
        ·
          refine pm_aload_n dMo_value_92 rfl ?_
          refine pm_getr dMo_value_93 fMo_134 rfl (rr_40_40 hR) ?_
          refine pm_aload_n dMo_value_96 rfl ?_
          refine pm_getr dMo_value_97 fMo_59 rfl (rr_40_15 hR) ?_
          refine pm_aload_n dMo_value_100 rfl ?_
          refine pm_getr dMo_value_101 fMo_104 rfl (rr_40_30 hR) ?_
          refine pm_iload_n dMo_value_104 rfl ?_
          refine pm_iald dMo_value_105 rfl ((((hp.2.2 h6_0).1 h6_1).2.2.2 h55).2.2.1 h89).1 ?_
          refine pm_iald dMo_value_106 rfl ((((hp.2.2 h6_0).1 h6_1).2.2.2 h55).2.2.1 h89).2.1 ?_
          refine pm_iald dMo_value_107 rfl ((((hp.2.2 h6_0).1 h6_1).2.2.2 h55).2.2.1 h89).2.2.1 ?_
          refine pm_goto 127 dMo_value_108 (by decide) ?_
          exact pm_iret dMo_value_127 rfl (ho.trans (by first | (simp only [fMo_value, if_neg h6_0, if_pos h6_1, if_neg h55, if_pos h89]; done) | (simp only [fMo_value, if_neg h6_0, if_pos h6_1, if_neg h55, if_pos h89]; with_reducible rfl) | with_reducible rfl)) (hz.trans (by first | (simp only [fMo_value, if_neg h6_0, if_pos h6_1, if_neg h55, if_pos h89]; done) | (simp only [fMo_value, if_neg h6_0, if_pos h6_1, if_neg h55, if_pos h89]; with_reducible rfl) | with_reducible rfl))
      ·
        refine pm_aload_n dMo_value_58 rfl ?_
        refine pm_getr dMo_value_59 fMo_131 rfl (rr_40_39 hR) ?_
        refine pm_aload_n dMo_value_62 rfl ?_
        refine pm_getr dMo_value_63 fMo_59 rfl (rr_40_15 hR) ?_
        refine pm_aload_n dMo_value_66 rfl ?_
        refine pm_getr dMo_value_67 fMo_104 rfl (rr_40_30 hR) ?_
        refine pm_iload_n dMo_value_70 rfl ?_
        refine pm_iald dMo_value_71 rfl (((hp.2.2 h6_0).1 h6_1).2.2.1 h55).1 ?_
        refine pm_iald dMo_value_72 rfl (((hp.2.2 h6_0).1 h6_1).2.2.1 h55).2.1 ?_
        refine pm_iald dMo_value_73 rfl (((hp.2.2 h6_0).1 h6_1).2.2.1 h55).2.2.1 ?_
        refine pm_goto 127 dMo_value_74 (by decide) ?_
        exact pm_iret dMo_value_127 rfl (ho.trans (by first | (simp only [fMo_value, if_neg h6_0, if_pos h6_1, if_pos h55]; done) | (simp only [fMo_value, if_neg h6_0, if_pos h6_1, if_pos h55]; with_reducible rfl) | with_reducible rfl)) (hz.trans (by first | (simp only [fMo_value, if_neg h6_0, if_pos h6_1, if_pos h55]; done) | (simp only [fMo_value, if_neg h6_0, if_pos h6_1, if_pos h55]; with_reducible rfl) | with_reducible rfl))
    ·
      by_cases h6_2 : (I 52 y1.toNatClampNeg) = 2
      ·
        refine pm_tableIn 128 dMo_value_6 (by rw [h6_2]; decide) (by rw [h6_2]; decide) (by first | (rw [h6_2]; rfl) | rw [h6_2]) (by decide) ?_
        refine pm_aload_n dMo_value_128 rfl ?_
        refine pm_aload_n dMo_value_129 rfl ?_
        refine pm_getr dMo_value_130 fMo_107 rfl (rr_40_31 hR) ?_
        refine pm_iload_n dMo_value_133 rfl ?_
        refine pm_iald dMo_value_134 rfl (((hp.2.2 h6_0).2 h6_1).1 h6_2).1 ?_
        refine pm_callV dMo_value_135 lMo_339 vMo_value ⟨_, _, rfl⟩ (hG0 (I 54 y1.toNatClampNeg) 0 _ _ (((hp.2.2 h6_0).2 h6_1).1 h6_2).2.1) rfl rfl rfl (Nat.le_of_ble_eq_true rfl) (Nat.le_refl _) (Nat.le_refl _) ?_
        refine pm_istore_n dMo_value_138 (by decide) rfl ?_
        refine pm_aload_n dMo_value_139 rfl ?_
        refine pm_getr dMo_value_140 fMo_104 rfl (rr_40_30 hR) ?_
        refine pm_iload_n dMo_value_143 rfl ?_
        refine pm_iald dMo_value_144 rfl (((hp.2.2 h6_0).2 h6_1).1 h6_2).2.2.1 ?_
        refine pm_bipush (v := 45) dMo_value_145 (by decide) ?_
        refine pm_icmp_ne 159 dMo_value_147 (by decide) (fun h147 => ?_) (fun h147 => ?_)
        ·
          refine pm_aload_n dMo_value_159 rfl ?_
          refine pm_getr dMo_value_160 fMo_104 rfl (rr_40_30 hR) ?_
          refine pm_iload_n dMo_value_163 rfl ?_
          refine pm_iald dMo_value_164 rfl ((((hp.2.2 h6_0).2 h6_1).1 h6_2).2.2.2.2 h147).1 ?_
          refine pm_bipush (v := 126) dMo_value_165 (by decide) ?_
          refine pm_icmp_ne 180 dMo_value_167 (by decide) (fun h167 => ?_) (fun h167 => ?_)
          ·
            refine pm_iload_n dMo_value_180 rfl ?_
            refine pm_if_ne 188 dMo_value_181 (by decide) (fun h181 => ?_) (fun h181 => ?_)
            ·
              refine pm_iconst (v := 0) dMo_value_188 (by decide) ?_
              exact pm_iret dMo_value_189 rfl (ho.trans (by first | (simp only [fMo_value, if_neg h6_0, if_neg h6_1, if_pos h6_2, if_neg h147, if_neg h167, if_neg h181]; done) | (simp only [fMo_value, if_neg h6_0, if_neg h6_1, if_pos h6_2, if_neg h147, if_neg h167, if_neg h181]; with_reducible rfl) | with_reducible rfl)) (hz.trans (by first | (simp only [fMo_value, if_neg h6_0, if_neg h6_1, if_pos h6_2, if_neg h147, if_neg h167, if_neg h181]; done) | (simp only [fMo_value, if_neg h6_0, if_neg h6_1, if_pos h6_2, if_neg h147, if_neg h167, if_neg h181]; with_reducible rfl) | with_reducible rfl))
            ·
              refine pm_iconst (v := 1) dMo_value_184 (by decide) ?_
              refine pm_goto 189 dMo_value_185 (by decide) ?_
              exact pm_iret dMo_value_189 rfl (ho.trans (by first | (simp only [fMo_value, if_neg h6_0, if_neg h6_1, if_pos h6_2, if_neg h147, if_neg h167, if_pos h181]; done) | (simp only [fMo_value, if_neg h6_0, if_neg h6_1, if_pos h6_2, if_neg h147, if_neg h167, if_pos h181]; with_reducible rfl) | with_reducible rfl)) (hz.trans (by first | (simp only [fMo_value, if_neg h6_0, if_neg h6_1, if_pos h6_2, if_neg h147, if_neg h167, if_pos h181]; done) | (simp only [fMo_value, if_neg h6_0, if_neg h6_1, if_pos h6_2, if_neg h147, if_neg h167, if_pos h181]; with_reducible rfl) | with_reducible rfl))
          ·
            refine pm_iload_n dMo_value_170 rfl ?_
            refine pm_iconst (v := (-1)) dMo_value_171 (by decide) ?_
            refine pm_ixor dMo_value_172 ?_
            refine pm_sipush (v := 255) dMo_value_173 (by decide) ?_
            refine pm_iand dMo_value_176 ?_
            refine pm_goto 189 dMo_value_177 (by decide) ?_
            exact pm_iret dMo_value_189 rfl (ho.trans (by first | (simp only [fMo_value, if_neg h6_0, if_neg h6_1, if_pos h6_2, if_neg h147, if_pos h167]; done) | (simp only [fMo_value, if_neg h6_0, if_neg h6_1, if_pos h6_2, if_neg h147, if_pos h167]; with_reducible rfl) | with_reducible rfl)) (hz.trans (by first | (simp only [fMo_value, if_neg h6_0, if_neg h6_1, if_pos h6_2, if_neg h147, if_pos h167]; done) | (simp only [fMo_value, if_neg h6_0, if_neg h6_1, if_pos h6_2, if_neg h147, if_pos h167]; with_reducible rfl) | with_reducible rfl))
        ·
          refine pm_iload_n dMo_value_150 rfl ?_
          refine pm_ineg dMo_value_151 ?_
          refine pm_sipush (v := 255) dMo_value_152 (by decide) ?_
          refine pm_iand dMo_value_155 ?_
          refine pm_goto 189 dMo_value_156 (by decide) ?_
          exact pm_iret dMo_value_189 rfl (ho.trans (by first | (simp only [fMo_value, if_neg h6_0, if_neg h6_1, if_pos h6_2, if_pos h147]; done) | (simp only [fMo_value, if_neg h6_0, if_neg h6_1, if_pos h6_2, if_pos h147]; with_reducible rfl) | with_reducible rfl)) (hz.trans (by first | (simp only [fMo_value, if_neg h6_0, if_neg h6_1, if_pos h6_2, if_pos h147]; done) | (simp only [fMo_value, if_neg h6_0, if_neg h6_1, if_pos h6_2, if_pos h147]; with_reducible rfl) | with_reducible rfl))
      ·
        by_cases h6_3 : (I 52 y1.toNatClampNeg) = 3
        ·
          refine pm_tableIn 190 dMo_value_6 (by rw [h6_3]; decide) (by rw [h6_3]; decide) (by first | (rw [h6_3]; rfl) | rw [h6_3]) (by decide) ?_
          refine pm_aload_n dMo_value_190 rfl ?_
          refine pm_aload_n dMo_value_191 rfl ?_
          refine pm_getr dMo_value_192 fMo_107 rfl (rr_40_31 hR) ?_
          refine pm_iload_n dMo_value_195 rfl ?_
          refine pm_iald dMo_value_196 rfl ((((hp.2.2 h6_0).2 h6_1).2 h6_2).1 h6_3).1 ?_
          refine pm_callV dMo_value_197 lMo_339 vMo_value ⟨_, _, rfl⟩ (hG0 (I 54 y1.toNatClampNeg) 0 _ _ ((((hp.2.2 h6_0).2 h6_1).2 h6_2).1 h6_3).2.1) rfl rfl rfl (Nat.le_of_ble_eq_true rfl) (Nat.le_refl _) (Nat.le_refl _) ?_
          refine pm_istore_n dMo_value_200 (by decide) rfl ?_
          refine pm_aload_n dMo_value_201 rfl ?_
          refine pm_getr dMo_value_202 fMo_110 rfl (rr_40_32 hR) ?_
          refine pm_aload_n dMo_value_205 rfl ?_
          refine pm_getr dMo_value_206 fMo_107 rfl (rr_40_31 hR) ?_
          refine pm_iload_n dMo_value_209 rfl ?_
          refine pm_iald dMo_value_210 rfl ((((hp.2.2 h6_0).2 h6_1).2 h6_2).1 h6_3).2.2.1 ?_
          refine pm_iald dMo_value_211 rfl ((((hp.2.2 h6_0).2 h6_1).2 h6_2).1 h6_3).2.2.2.1 ?_
          refine pm_istore dMo_value_212 (by decide) rfl ?_
          refine pm_wk [2, 3, 1, 0] rfl ?_
          exact Mo_value_n214 g d ex R hR G GQ hG0 J _ _  n214 _ _ _ _ ((((hp.2.2 h6_0).2 h6_1).2 h6_2).1 h6_3).2.2.2.2 (ho.trans (by first | (simp only [fMo_value, if_neg h6_0, if_neg h6_1, if_neg h6_2, if_pos h6_3]; done) | (simp only [fMo_value, if_neg h6_0, if_neg h6_1, if_neg h6_2, if_pos h6_3]; with_reducible rfl) | with_reducible rfl)) (hz.trans (by first | (simp only [fMo_value, if_neg h6_0, if_neg h6_1, if_neg h6_2, if_pos h6_3]; done) | (simp only [fMo_value, if_neg h6_0, if_neg h6_1, if_neg h6_2, if_pos h6_3]; with_reducible rfl) | with_reducible rfl))
        ·
          refine pm_tableOut 251 dMo_value_6 (pm_out (fun q9 k1 k2 => by
            have : q9 = 0 ∨ q9 = 1 ∨ q9 = 2 ∨ q9 = 3 := by omega
            rcases this with rfl | rfl | rfl | rfl
            · exact h6_0
            · exact h6_1
            · exact h6_2
            · exact h6_3
            )) (by decide) ?_
          refine pm_aload_n dMo_value_251 rfl ?_
          refine pm_getr dMo_value_252 fMo_107 rfl (rr_40_31 hR) ?_
          refine pm_iload_n dMo_value_255 rfl ?_
          refine pm_iald dMo_value_256 rfl ((((hp.2.2 h6_0).2 h6_1).2 h6_2).2 h6_3).1 ?_
          refine pm_istore dMo_value_257 (by decide) rfl ?_
          refine pm_aload_n dMo_value_259 rfl ?_
          refine pm_iload dMo_value_260 rfl ?_
          refine pm_callV dMo_value_262 lMo_339 vMo_value ⟨_, _, rfl⟩ (hG0 (I 54 y1.toNatClampNeg) 0 _ _ ((((hp.2.2 h6_0).2 h6_1).2 h6_2).2 h6_3).2.1) rfl rfl rfl (Nat.le_of_ble_eq_true rfl) (Nat.le_refl _) (Nat.le_refl _) ?_
          refine pm_if_eq 282 dMo_value_265 (by decide) (fun h265 => ?_) (fun h265 => ?_)
          ·
            refine pm_aload_n dMo_value_282 rfl ?_
            refine pm_aload_n dMo_value_283 rfl ?_
            refine pm_getr dMo_value_284 fMo_110 rfl (rr_40_32 hR) ?_
            refine pm_aload_n dMo_value_287 rfl ?_
            refine pm_getr dMo_value_288 fMo_110 rfl (rr_40_32 hR) ?_
            refine pm_iload dMo_value_291 rfl ?_
            refine pm_iald dMo_value_293 rfl (((((hp.2.2 h6_0).2 h6_1).2 h6_2).2 h6_3).2.2.1 h265).1 ?_
            refine pm_iald dMo_value_294 rfl (((((hp.2.2 h6_0).2 h6_1).2 h6_2).2 h6_3).2.2.1 h265).2.1 ?_
            refine pm_callV dMo_value_295 lMo_339 vMo_value ⟨_, _, rfl⟩ (hG0 (I 55 (I 55 (I 54 y1.toNatClampNeg).toNatClampNeg).toNatClampNeg) 0 _ _ (((((hp.2.2 h6_0).2 h6_1).2 h6_2).2 h6_3).2.2.1 h265).2.2.1) rfl rfl rfl (Nat.le_of_ble_eq_true rfl) (Nat.le_refl _) (Nat.le_refl _) ?_
            exact pm_iret dMo_value_298 rfl (ho.trans (by first | (simp only [fMo_value, if_neg h6_0, if_neg h6_1, if_neg h6_2, if_neg h6_3, if_pos h265]; done) | (simp only [fMo_value, if_neg h6_0, if_neg h6_1, if_neg h6_2, if_neg h6_3, if_pos h265]; with_reducible rfl) | with_reducible rfl)) (hz.trans (by first | (simp only [fMo_value, if_neg h6_0, if_neg h6_1, if_neg h6_2, if_neg h6_3, if_pos h265]; done) | (simp only [fMo_value, if_neg h6_0, if_neg h6_1, if_neg h6_2, if_neg h6_3, if_pos h265]; with_reducible rfl) | with_reducible rfl))
          ·
            refine pm_aload_n dMo_value_268 rfl ?_
            refine pm_aload_n dMo_value_269 rfl ?_
            refine pm_getr dMo_value_270 fMo_110 rfl (rr_40_32 hR) ?_
            refine pm_iload dMo_value_273 rfl ?_
            refine pm_iald dMo_value_275 rfl (((((hp.2.2 h6_0).2 h6_1).2 h6_2).2 h6_3).2.2.2 h265).1 ?_
            refine pm_callV dMo_value_276 lMo_339 vMo_value ⟨_, _, rfl⟩ (hG0 (I 55 (I 54 y1.toNatClampNeg).toNatClampNeg) 0 _ _ (((((hp.2.2 h6_0).2 h6_1).2 h6_2).2 h6_3).2.2.2 h265).2.1) rfl rfl rfl (Nat.le_of_ble_eq_true rfl) (Nat.le_refl _) (Nat.le_refl _) ?_
            refine pm_goto 298 dMo_value_279 (by decide) ?_
            exact pm_iret dMo_value_298 rfl (ho.trans (by first | (simp only [fMo_value, if_neg h6_0, if_neg h6_1, if_neg h6_2, if_neg h6_3, if_neg h265]; done) | (simp only [fMo_value, if_neg h6_0, if_neg h6_1, if_neg h6_2, if_neg h6_3, if_neg h265]; with_reducible rfl) | with_reducible rfl)) (hz.trans (by first | (simp only [fMo_value, if_neg h6_0, if_neg h6_1, if_neg h6_2, if_neg h6_3, if_neg h265]; done) | (simp only [fMo_value, if_neg h6_0, if_neg h6_1, if_neg h6_2, if_neg h6_3, if_neg h265]; with_reducible rfl) | with_reducible rfl))
set_option maxHeartbeats 4000000 in
set_option maxRecDepth 100000 in
theorem Mo_value_ok (g : pmG) (d : Nat) (ex : List (Nat × Nat)) (R : Nat → Nat → Value) (hR : mk_R R) (G : Nat → Int32 → Int32 → (Nat → Nat → Int32) → Int32) (GQ : Nat → Int32 → Int32 → (Nat → Nat → Int32) → Prop) (hG0 : ∀ (x0 x1 : Int32) (I : Nat → Nat → Int32) (J : Nat → Nat → Int64), GQ 0 x0 x1 I → pmC g kMo_value (d + 3) 0 0 [.ref 40, .int x0] (mk_K ++ ex, R, I, J) (.returned (some (.int (G 0 x0 x1 I)))) (mk_K ++ ex, R, I, J)) (n214 : Nat) (x0 : Int32) (I : Nat → Nat → Int32) (J : Nat → Nat → Int64) (hp : pMo_value G GQ n214 x0 I) : pmC g kMo_value (d + 4) 0 0 [.ref 40, .int x0] (mk_K ++ ex, R, I, J) (.returned (some (.int (fMo_value G n214 x0 I)))) (mk_K ++ ex, R, I, J) :=
  pmC.of (by decide) (Nat.le_of_ble_eq_true rfl) (Mo_value_n0 g d ex R hR G GQ hG0 J _ _ n214 x0 I hp rfl rfl)
def mv_F : Nat → Nat → Int32 → Int32 → (Nat → Nat → Int32) → Int32
  | 0, _, _, _, _ => 0
  | m + 1, t, x0, x1, I =>
  if t = 0 then fMo_value (mv_F m) 4002 x0 I
  else 0
def mv_Q : Nat → Nat → Int32 → Int32 → (Nat → Nat → Int32) → Prop
  | 0, _, _, _, _ => False
  | m + 1, t, x0, x1, I =>
  if t = 0 then pMo_value (mv_F m) (mv_Q m) 4002 x0 I
  else False
set_option maxHeartbeats 4000000 in
set_option maxRecDepth 100000 in
theorem mv_all (g : pmG) (d : Nat) (ex : List (Nat × Nat)) (R : Nat → Nat → Value) (hR : mk_R R) : ∀ m : Nat, (∀ (x0 x1 : Int32) (I : Nat → Nat → Int32) (J : Nat → Nat → Int64), mv_Q m 0 x0 x1 I → pmC g kMo_value (d + m + 3) 0 0 [.ref 40, .int x0] (mk_K ++ ex, R, I, J) (.returned (some (.int (mv_F m 0 x0 x1 I)))) (mk_K ++ ex, R, I, J)) := by
  intro m
  induction m with
  | zero => exact fun _ _ _ _ h => False.elim h
  | succ m ih => exact fun x0 x1 I J h => Mo_value_ok g (d + m) ex R hR (mv_F m) (mv_Q m) ih 4002 x0 I J h
def fmv_Mo_value (x0 : Int32) (I : Nat → Nat → Int32) : Int32 := mv_F 600 0 x0 0 I
def pmv_Mo_value (x0 : Int32) (I : Nat → Nat → Int32) : Prop := mv_Q 600 0 x0 0 I
theorem mv_Mo_value_ok (g : pmG) (d : Nat) (ex : List (Nat × Nat)) (R : Nat → Nat → Value) (hR : mk_R R) (x0 : Int32) (I : Nat → Nat → Int32) (J : Nat → Nat → Int64) (hp : pmv_Mo_value x0 I) : pmC g kMo_value (d + 603) 0 0 [.ref 40, .int x0] (mk_K ++ ex, R, I, J) (.returned (some (.int (fmv_Mo_value x0 I)))) (mk_K ++ ex, R, I, J) := by
  unfold pmv_Mo_value at hp
  unfold fmv_Mo_value
  rw [show d + 603 = d + 600 + 3 from rfl]
  exact (mv_all g d ex R hR 600) x0 0 I J hp
def fMo_set_105  : Nat → Int32 → Int32 → Int32 → Int32 → (Nat → Nat → Int32) → (Nat → Nat → Int32)
  | 0, _, _, _, _, I => I
  | n + 1, y1, y2, y3, y4, I =>
  if (I 40 25) ≤ y4 then I
  else fMo_set_105 n y1 y2 y3 (y4 + Int32.ofInt 1) (pm_u I 62 y4.toNatClampNeg ((fmv_Mo_value (I 50 y4.toNatClampNeg) I)))
def pMo_set_105  : Nat → Int32 → Int32 → Int32 → Int32 → (Nat → Nat → Int32) → Prop
  | 0, _, _, _, _, _ => False
  | n + 1, y1, y2, y3, y4, I =>
  ((I 40 25) ≤ y4 → True) ∧
  (¬ ((I 40 25) ≤ y4) → (vp_in y4 60) ∧ ((pmv_Mo_value (I 50 y4.toNatClampNeg) I) ∧ ((vp_in y4 60) ∧ (pMo_set_105 n y1 y2 y3 (y4 + Int32.ofInt 1) (pm_u I 62 y4.toNatClampNeg ((fmv_Mo_value (I 50 y4.toNatClampNeg) I)))))))
def fMo_set_61 (n105 : Nat) : Nat → Int32 → Int32 → Int32 → Int32 → (Nat → Nat → Int32) → (Nat → Nat → Int32)
  | 0, _, _, _, _, I => I
  | n + 1, y1, y2, y3, y4, I =>
  if y4 < 0 then fMo_set_105 n105 y1 y2 y3 (0 : Int32) I
  else fMo_set_61 n105 n y1 y2 (y3 >>> (((pm_u I 61 y4.toNatClampNeg (y3 &&& (((1 : Int32) <<< ((I 49 y4.toNatClampNeg) &&& 31)) - (1 : Int32)))) 49 y4.toNatClampNeg) &&& 31)) (y4 + Int32.ofInt (-1)) (pm_u I 61 y4.toNatClampNeg (y3 &&& (((1 : Int32) <<< ((I 49 y4.toNatClampNeg) &&& 31)) - (1 : Int32))))
def pMo_set_61 (n105 : Nat) : Nat → Int32 → Int32 → Int32 → Int32 → (Nat → Nat → Int32) → Prop
  | 0, _, _, _, _, _ => False
  | n + 1, y1, y2, y3, y4, I =>
  (y4 < 0 → pMo_set_105 n105 y1 y2 y3 (0 : Int32) I) ∧
  (¬ (y4 < 0) → (vp_in y4 3) ∧ ((vp_in y4 3) ∧ ((vp_in y4 3) ∧ (pMo_set_61 n105 n y1 y2 (y3 >>> (((pm_u I 61 y4.toNatClampNeg (y3 &&& (((1 : Int32) <<< ((I 49 y4.toNatClampNeg) &&& 31)) - (1 : Int32)))) 49 y4.toNatClampNeg) &&& 31)) (y4 + Int32.ofInt (-1)) (pm_u I 61 y4.toNatClampNeg (y3 &&& (((1 : Int32) <<< ((I 49 y4.toNatClampNeg) &&& 31)) - (1 : Int32))))))))
def fMo_set_10 (n105 : Nat) (n61 : Nat) : Nat → Int32 → Int32 → Int32 → Int32 → (Nat → Nat → Int32) → (Nat → Nat → Int32)
  | 0, _, _, _, _, I => I
  | n + 1, y1, y2, y3, y4, I =>
  if y4 < 0 then fMo_set_61 n105 n61 y1 y2 y2 ((I 40 24) - (1 : Int32)) I
  else fMo_set_10 n105 n61 n y1 y2 (y3 >>> (((pm_u I 60 y4.toNatClampNeg (y3 &&& (((1 : Int32) <<< ((I 46 y4.toNatClampNeg) &&& 31)) - (1 : Int32)))) 46 y4.toNatClampNeg) &&& 31)) (y4 + Int32.ofInt (-1)) (pm_u I 60 y4.toNatClampNeg (y3 &&& (((1 : Int32) <<< ((I 46 y4.toNatClampNeg) &&& 31)) - (1 : Int32))))
def pMo_set_10 (n105 : Nat) (n61 : Nat) : Nat → Int32 → Int32 → Int32 → Int32 → (Nat → Nat → Int32) → Prop
  | 0, _, _, _, _, _ => False
  | n + 1, y1, y2, y3, y4, I =>
  (y4 < 0 → pMo_set_61 n105 n61 y1 y2 y2 ((I 40 24) - (1 : Int32)) I) ∧
  (¬ (y4 < 0) → (vp_in y4 8) ∧ ((vp_in y4 8) ∧ ((vp_in y4 8) ∧ (pMo_set_10 n105 n61 n y1 y2 (y3 >>> (((pm_u I 60 y4.toNatClampNeg (y3 &&& (((1 : Int32) <<< ((I 46 y4.toNatClampNeg) &&& 31)) - (1 : Int32)))) 46 y4.toNatClampNeg) &&& 31)) (y4 + Int32.ofInt (-1)) (pm_u I 60 y4.toNatClampNeg (y3 &&& (((1 : Int32) <<< ((I 46 y4.toNatClampNeg) &&& 31)) - (1 : Int32))))))))
def fMo_set (n105 : Nat) (n61 : Nat) (n10 : Nat) (y1 : Int32) (y2 : Int32) (I : Nat → Nat → Int32) : (Nat → Nat → Int32) :=
  fMo_set_10 n105 n61 n10 y1 y2 y1 ((I 40 23) - (1 : Int32)) I
def pMo_set (n105 : Nat) (n61 : Nat) (n10 : Nat) (y1 : Int32) (y2 : Int32) (I : Nat → Nat → Int32) : Prop :=
  pMo_set_10 n105 n61 n10 y1 y2 y1 ((I 40 23) - (1 : Int32)) I
set_option maxHeartbeats 4000000 in
set_option maxRecDepth 100000 in
theorem Mo_set_n105 (g : pmG) (d : Nat) (ex : List (Nat × Nat)) (R : Nat → Nat → Value) (hR : mk_R R) (J : Nat → Nat → Int64) (o : Outcome) (Z : pmM)  : ∀ (n : Nat) (y1 : Int32) (y2 : Int32) (y3 : Int32) (y4 : Int32) (I : Nat → Nat → Int32), pMo_set_105 n y1 y2 y3 y4 I → o = .returned none → Z = (mk_K ++ ex, R, (fMo_set_105 n y1 y2 y3 y4 I), J) → pmE g kMo_set (d + 604) 0 0 105 [(0, .ref 40), (1, .int y1), (2, .int y2), (3, .int y3), (4, .int y4)] [] (mk_K ++ ex) R I J o Z := by
  intro n
  induction n with
  | zero => intro y1 y2 y3 y4 I hp; exact False.elim hp
  | succ n ih =>
  intro y1 y2 y3 y4 I hp ho hz
  simp only [pMo_set_105] at hp
  refine pm_iload dMo_set_105 rfl ?_
  refine pm_aload_n dMo_set_107 rfl ?_
  refine pm_geti dMo_set_108 fMo_89 rfl ?_
  refine pm_icmp_ge 138 dMo_set_111 (by decide) (fun h111 => ?_) (fun h111 => ?_)
  ·
    exact pm_vret dMo_set_138 rfl ho (hz.trans (by first | (simp only [fMo_set_105, if_pos h111]; done) | (simp only [fMo_set_105, if_pos h111]; with_reducible rfl) | with_reducible rfl))
  ·
    refine pm_aload_n dMo_set_114 rfl ?_
    refine pm_getr dMo_set_115 fMo_137 rfl (rr_40_41 hR) ?_
    refine pm_iload dMo_set_118 rfl ?_
    refine pm_aload_n dMo_set_120 rfl ?_
    refine pm_aload_n dMo_set_121 rfl ?_
    refine pm_getr dMo_set_122 fMo_77 rfl (rr_40_21 hR) ?_
    refine pm_iload dMo_set_125 rfl ?_
    refine pm_iald dMo_set_127 rfl (hp.2 h111).1 ?_
    refine pm_callV dMo_set_128 lMo_339 vMo_value ⟨_, _, rfl⟩ (mv_Mo_value_ok _ _ _ _ hR _ _ _ (hp.2 h111).2.1) rfl rfl rfl (Nat.le_of_ble_eq_true rfl) (Nat.le_refl _) (Nat.le_refl _) ?_
    refine pm_iast dMo_set_131 rfl (hp.2 h111).2.2.1 ?_
    refine pm_iinc dMo_set_132 rfl (by decide) rfl ?_
    refine pm_goto 105 dMo_set_135 (by decide) ?_
    refine pm_wk [1, 2, 3, 4, 0] rfl ?_
    exact ih _ _ _ _ _ (hp.2 h111).2.2.2 ho (hz.trans (by first | (simp only [fMo_set_105, if_neg h111]; done) | (simp only [fMo_set_105, if_neg h111]; with_reducible rfl) | with_reducible rfl))
set_option maxHeartbeats 4000000 in
set_option maxRecDepth 100000 in
theorem Mo_set_n61 (g : pmG) (d : Nat) (ex : List (Nat × Nat)) (R : Nat → Nat → Value) (hR : mk_R R) (J : Nat → Nat → Int64) (o : Outcome) (Z : pmM) (n105 : Nat) : ∀ (n : Nat) (y1 : Int32) (y2 : Int32) (y3 : Int32) (y4 : Int32) (I : Nat → Nat → Int32), pMo_set_61 n105 n y1 y2 y3 y4 I → o = .returned none → Z = (mk_K ++ ex, R, (fMo_set_61 n105 n y1 y2 y3 y4 I), J) → pmE g kMo_set (d + 604) 0 0 61 [(0, .ref 40), (1, .int y1), (2, .int y2), (3, .int y3), (4, .int y4)] [] (mk_K ++ ex) R I J o Z := by
  intro n
  induction n with
  | zero => intro y1 y2 y3 y4 I hp; exact False.elim hp
  | succ n ih =>
  intro y1 y2 y3 y4 I hp ho hz
  simp only [pMo_set_61] at hp
  refine pm_iload dMo_set_61 rfl ?_
  refine pm_if_lt 102 dMo_set_63 (by decide) (fun h63 => ?_) (fun h63 => ?_)
  ·
    refine pm_iconst (v := 0) dMo_set_102 (by decide) ?_
    refine pm_istore dMo_set_103 (by decide) rfl ?_
    refine pm_wk [1, 2, 3, 4, 0] rfl ?_
    exact Mo_set_n105 g d ex R hR J _ _  n105 _ _ _ _ _ (hp.1 h63) ho (hz.trans (by first | (simp only [fMo_set_61, if_pos h63]; done) | (simp only [fMo_set_61, if_pos h63]; with_reducible rfl) | with_reducible rfl))
  ·
    refine pm_aload_n dMo_set_66 rfl ?_
    refine pm_getr dMo_set_67 fMo_134 rfl (rr_40_40 hR) ?_
    refine pm_iload dMo_set_70 rfl ?_
    refine pm_iload_n dMo_set_72 rfl ?_
    refine pm_iconst (v := 1) dMo_set_73 (by decide) ?_
    refine pm_aload_n dMo_set_74 rfl ?_
    refine pm_getr dMo_set_75 fMo_74 rfl (rr_40_20 hR) ?_
    refine pm_iload dMo_set_78 rfl ?_
    refine pm_iald dMo_set_80 rfl (hp.2 h63).1 ?_
    refine pm_ishl dMo_set_81 ?_
    refine pm_iconst (v := 1) dMo_set_82 (by decide) ?_
    refine pm_isub dMo_set_83 ?_
    refine pm_iand dMo_set_84 ?_
    refine pm_iast dMo_set_85 rfl (hp.2 h63).2.1 ?_
    refine pm_iload_n dMo_set_86 rfl ?_
    refine pm_aload_n dMo_set_87 rfl ?_
    refine pm_getr dMo_set_88 fMo_74 rfl (rr_40_20 hR) ?_
    refine pm_iload dMo_set_91 rfl ?_
    refine pm_iald dMo_set_93 rfl (hp.2 h63).2.2.1 ?_
    refine pm_ishr dMo_set_94 ?_
    refine pm_istore_n dMo_set_95 (by decide) rfl ?_
    refine pm_iinc dMo_set_96 rfl (by decide) rfl ?_
    refine pm_goto 61 dMo_set_99 (by decide) ?_
    refine pm_wk [2, 3, 4, 1, 0] rfl ?_
    exact ih _ _ _ _ _ (hp.2 h63).2.2.2 ho (hz.trans (by first | (simp only [fMo_set_61, if_neg h63]; done) | (simp only [fMo_set_61, if_neg h63]; with_reducible rfl) | with_reducible rfl))
set_option maxHeartbeats 4000000 in
set_option maxRecDepth 100000 in
theorem Mo_set_n10 (g : pmG) (d : Nat) (ex : List (Nat × Nat)) (R : Nat → Nat → Value) (hR : mk_R R) (J : Nat → Nat → Int64) (o : Outcome) (Z : pmM) (n105 : Nat) (n61 : Nat) : ∀ (n : Nat) (y1 : Int32) (y2 : Int32) (y3 : Int32) (y4 : Int32) (I : Nat → Nat → Int32), pMo_set_10 n105 n61 n y1 y2 y3 y4 I → o = .returned none → Z = (mk_K ++ ex, R, (fMo_set_10 n105 n61 n y1 y2 y3 y4 I), J) → pmE g kMo_set (d + 604) 0 0 10 [(0, .ref 40), (1, .int y1), (2, .int y2), (3, .int y3), (4, .int y4)] [] (mk_K ++ ex) R I J o Z := by
  intro n
  induction n with
  | zero => intro y1 y2 y3 y4 I hp; exact False.elim hp
  | succ n ih =>
  intro y1 y2 y3 y4 I hp ho hz
  simp only [pMo_set_10] at hp
  refine pm_iload dMo_set_10 rfl ?_
  refine pm_if_lt 51 dMo_set_12 (by decide) (fun h12 => ?_) (fun h12 => ?_)
  ·
    refine pm_iload_n dMo_set_51 rfl ?_
    refine pm_istore_n dMo_set_52 (by decide) rfl ?_
    refine pm_aload_n dMo_set_53 rfl ?_
    refine pm_geti dMo_set_54 fMo_86 rfl ?_
    refine pm_iconst (v := 1) dMo_set_57 (by decide) ?_
    refine pm_isub dMo_set_58 ?_
    refine pm_istore dMo_set_59 (by decide) rfl ?_
    refine pm_wk [2, 3, 4, 1, 0] rfl ?_
    exact Mo_set_n61 g d ex R hR J _ _  n105 n61 _ _ _ _ _ (hp.1 h12) ho (hz.trans (by first | (simp only [fMo_set_10, if_pos h12]; done) | (simp only [fMo_set_10, if_pos h12]; with_reducible rfl) | with_reducible rfl))
  ·
    refine pm_aload_n dMo_set_15 rfl ?_
    refine pm_getr dMo_set_16 fMo_131 rfl (rr_40_39 hR) ?_
    refine pm_iload dMo_set_19 rfl ?_
    refine pm_iload_n dMo_set_21 rfl ?_
    refine pm_iconst (v := 1) dMo_set_22 (by decide) ?_
    refine pm_aload_n dMo_set_23 rfl ?_
    refine pm_getr dMo_set_24 fMo_65 rfl (rr_40_17 hR) ?_
    refine pm_iload dMo_set_27 rfl ?_
    refine pm_iald dMo_set_29 rfl (hp.2 h12).1 ?_
    refine pm_ishl dMo_set_30 ?_
    refine pm_iconst (v := 1) dMo_set_31 (by decide) ?_
    refine pm_isub dMo_set_32 ?_
    refine pm_iand dMo_set_33 ?_
    refine pm_iast dMo_set_34 rfl (hp.2 h12).2.1 ?_
    refine pm_iload_n dMo_set_35 rfl ?_
    refine pm_aload_n dMo_set_36 rfl ?_
    refine pm_getr dMo_set_37 fMo_65 rfl (rr_40_17 hR) ?_
    refine pm_iload dMo_set_40 rfl ?_
    refine pm_iald dMo_set_42 rfl (hp.2 h12).2.2.1 ?_
    refine pm_ishr dMo_set_43 ?_
    refine pm_istore_n dMo_set_44 (by decide) rfl ?_
    refine pm_iinc dMo_set_45 rfl (by decide) rfl ?_
    refine pm_goto 10 dMo_set_48 (by decide) ?_
    refine pm_wk [2, 3, 4, 1, 0] rfl ?_
    exact ih _ _ _ _ _ (hp.2 h12).2.2.2 ho (hz.trans (by first | (simp only [fMo_set_10, if_neg h12]; done) | (simp only [fMo_set_10, if_neg h12]; with_reducible rfl) | with_reducible rfl))
set_option maxHeartbeats 4000000 in
set_option maxRecDepth 100000 in
theorem Mo_set_n0 (g : pmG) (d : Nat) (ex : List (Nat × Nat)) (R : Nat → Nat → Value) (hR : mk_R R) (J : Nat → Nat → Int64) (o : Outcome) (Z : pmM) (n105 : Nat) (n61 : Nat) (n10 : Nat) (y1 : Int32) (y2 : Int32) (I : Nat → Nat → Int32) (hp : pMo_set n105 n61 n10 y1 y2 I) (ho : o = .returned none) (hz : Z = (mk_K ++ ex, R, (fMo_set n105 n61 n10 y1 y2 I), J)) : pmE g kMo_set (d + 604) 0 0 0 [(0, .ref 40), (1, .int y1), (2, .int y2)] [] (mk_K ++ ex) R I J o Z := by
  unfold pMo_set at hp
  refine pm_iload_n dMo_set_0 rfl ?_
  refine pm_istore_n dMo_set_1 (by decide) rfl ?_
  refine pm_aload_n dMo_set_2 rfl ?_
  refine pm_geti dMo_set_3 fMo_83 rfl ?_
  refine pm_iconst (v := 1) dMo_set_6 (by decide) ?_
  refine pm_isub dMo_set_7 ?_
  refine pm_istore dMo_set_8 (by decide) rfl ?_
  refine pm_wk [2, 3, 4, 1, 0] rfl ?_
  exact Mo_set_n10 g d ex R hR J _ _  n105 n61 n10 _ _ _ _ _ hp ho (hz.trans (by first | (simp only [fMo_set]; done) | (simp only [fMo_set]; with_reducible rfl) | with_reducible rfl))
set_option maxHeartbeats 4000000 in
set_option maxRecDepth 100000 in
theorem Mo_set_ok (g : pmG) (d : Nat) (ex : List (Nat × Nat)) (R : Nat → Nat → Value) (hR : mk_R R) (n105 : Nat) (n61 : Nat) (n10 : Nat) (x0 : Int32) (x1 : Int32) (I : Nat → Nat → Int32) (J : Nat → Nat → Int64) (hp : pMo_set n105 n61 n10 x0 x1 I) : pmC g kMo_set (d + 604) 0 0 [.ref 40, .int x0, .int x1] (mk_K ++ ex, R, I, J) (.returned none) (mk_K ++ ex, R, (fMo_set n105 n61 n10 x0 x1 I), J) :=
  pmC.of (by decide) (Nat.le_of_ble_eq_true rfl) (Mo_set_n0 g d ex R hR J _ _ n105 n61 n10 x0 x1 I hp rfl rfl)
def fMo_always_16 (r2 : Int32 → Int32 → Int32 → (Nat → Nat → Int32) → Int32 × (Nat → Nat → Int32)) (y1 : Int32) (y2 : Int32) (y3 : Int32) (I : Nat → Nat → Int32) : Int32 × (Nat → Nat → Int32) :=
  if ((fmv_Mo_value y1 I)) = 0 then ((0 : Int32), I)
  else r2 y1 y2 (y3 + Int32.ofInt 1) I
def pMo_always_16 (q2 : Int32 → Int32 → Int32 → (Nat → Nat → Int32) → Prop) (y1 : Int32) (y2 : Int32) (y3 : Int32) (I : Nat → Nat → Int32) : Prop :=
  (pmv_Mo_value y1 I) ∧ ((((fmv_Mo_value y1 I)) = 0 → True) ∧
  (¬ (((fmv_Mo_value y1 I)) = 0) → q2 y1 y2 (y3 + Int32.ofInt 1) I))
def fMo_always_2  : Nat → Int32 → Int32 → Int32 → (Nat → Nat → Int32) → Int32 × (Nat → Nat → Int32)
  | 0, _, _, _, I => (0, I)
  | n + 1, y1, y2, y3, I =>
  if ((fMo_allInputs I)) ≤ y3 then ((1 : Int32), I)
  else fMo_always_16 (fMo_always_2 n) y1 y2 y3 ((fMo_set 61 61 61 y2 y3 I))
def pMo_always_2  : Nat → Int32 → Int32 → Int32 → (Nat → Nat → Int32) → Prop
  | 0, _, _, _, _ => False
  | n + 1, y1, y2, y3, I =>
  (pMo_allInputs I) ∧ ((((fMo_allInputs I)) ≤ y3 → True) ∧
  (¬ (((fMo_allInputs I)) ≤ y3) → (pMo_set 61 61 61 y2 y3 I) ∧ (pMo_always_16 (pMo_always_2 n) y1 y2 y3 ((fMo_set 61 61 61 y2 y3 I)))))
def fMo_always (n2 : Nat) (y1 : Int32) (y2 : Int32) (I : Nat → Nat → Int32) : Int32 × (Nat → Nat → Int32) :=
  fMo_always_2 n2 y1 y2 (0 : Int32) I
def pMo_always (n2 : Nat) (y1 : Int32) (y2 : Int32) (I : Nat → Nat → Int32) : Prop :=
  pMo_always_2 n2 y1 y2 (0 : Int32) I
set_option maxHeartbeats 4000000 in
set_option maxRecDepth 100000 in
theorem Mo_always_n16 (g : pmG) (d : Nat) (ex : List (Nat × Nat)) (R : Nat → Nat → Value) (hR : mk_R R) (J : Nat → Nat → Int64) (o : Outcome) (Z : pmM) (r2 : Int32 → Int32 → Int32 → (Nat → Nat → Int32) → Int32 × (Nat → Nat → Int32)) (q2 : Int32 → Int32 → Int32 → (Nat → Nat → Int32) → Prop) (ih2 : ∀ (y1 : Int32) (y2 : Int32) (y3 : Int32) (I : Nat → Nat → Int32), q2 y1 y2 y3 I → o = .returned (some (.int (r2 y1 y2 y3 I).1)) → Z = (mk_K ++ ex, R, (r2 y1 y2 y3 I).2, J) → pmE g kMo_always (d + 605) 0 0 2 [(0, .ref 40), (1, .int y1), (2, .int y2), (3, .int y3)] [] (mk_K ++ ex) R I J o Z)  (y1 : Int32) (y2 : Int32) (y3 : Int32) (I : Nat → Nat → Int32) (hp : pMo_always_16 q2 y1 y2 y3 I) (ho : o = .returned (some (.int (fMo_always_16 r2 y1 y2 y3 I).1))) (hz : Z = (mk_K ++ ex, R, (fMo_always_16 r2 y1 y2 y3 I).2, J)) : pmE g kMo_always (d + 605) 0 0 16 [(0, .ref 40), (1, .int y1), (2, .int y2), (3, .int y3)] [] (mk_K ++ ex) R I J o Z := by
  unfold pMo_always_16 at hp
  refine pm_aload_n dMo_always_16 rfl ?_
  refine pm_iload_n dMo_always_17 rfl ?_
  refine pm_callV dMo_always_18 lMo_339 vMo_value ⟨_, _, rfl⟩ (mv_Mo_value_ok _ _ _ _ hR _ _ _ hp.1) rfl rfl rfl (Nat.le_of_ble_eq_true rfl) (Nat.le_refl _) (Nat.le_refl _) ?_
  refine pm_if_ne 26 dMo_always_21 (by decide) (fun h21 => ?_) (fun h21 => ?_)
  ·
    refine pm_iinc dMo_always_26 rfl (by decide) rfl ?_
    refine pm_goto 2 dMo_always_29 (by decide) ?_
    refine pm_wk [1, 2, 3, 0] rfl ?_
    exact ih2 _ _ _ _ (hp.2.2 h21) (ho.trans (by first | (simp only [fMo_always_16, if_neg h21]; done) | (simp only [fMo_always_16, if_neg h21]; with_reducible rfl) | with_reducible rfl)) (hz.trans (by first | (simp only [fMo_always_16, if_neg h21]; done) | (simp only [fMo_always_16, if_neg h21]; with_reducible rfl) | with_reducible rfl))
  ·
    refine pm_iconst (v := 0) dMo_always_24 (by decide) ?_
    exact pm_zret dMo_always_25 rfl (by first | rfl | decide) (ho.trans (by first | (simp only [fMo_always_16, if_pos h21]; done) | (simp only [fMo_always_16, if_pos h21]; with_reducible rfl) | with_reducible rfl)) (hz.trans (by first | (simp only [fMo_always_16, if_pos h21]; done) | (simp only [fMo_always_16, if_pos h21]; with_reducible rfl) | with_reducible rfl))
set_option maxHeartbeats 4000000 in
set_option maxRecDepth 100000 in
theorem Mo_always_n2 (g : pmG) (d : Nat) (ex : List (Nat × Nat)) (R : Nat → Nat → Value) (hR : mk_R R) (J : Nat → Nat → Int64) (o : Outcome) (Z : pmM)  : ∀ (n : Nat) (y1 : Int32) (y2 : Int32) (y3 : Int32) (I : Nat → Nat → Int32), pMo_always_2 n y1 y2 y3 I → o = .returned (some (.int (fMo_always_2 n y1 y2 y3 I).1)) → Z = (mk_K ++ ex, R, (fMo_always_2 n y1 y2 y3 I).2, J) → pmE g kMo_always (d + 605) 0 0 2 [(0, .ref 40), (1, .int y1), (2, .int y2), (3, .int y3)] [] (mk_K ++ ex) R I J o Z := by
  intro n
  induction n with
  | zero => intro y1 y2 y3 I hp; exact False.elim hp
  | succ n ih =>
  intro y1 y2 y3 I hp ho hz
  simp only [pMo_always_2] at hp
  refine pm_iload_n dMo_always_2 rfl ?_
  refine pm_aload_n dMo_always_3 rfl ?_
  refine pm_callV dMo_always_4 lMo_348 vMo_allInputs ⟨_, _, rfl⟩ (Mo_allInputs_ok _ _ _ _ hR  _ _ hp.1) rfl rfl rfl (Nat.le_of_ble_eq_true rfl) (Nat.le_refl _) (Nat.le_refl _) ?_
  refine pm_icmp_ge 32 dMo_always_7 (by decide) (fun h7 => ?_) (fun h7 => ?_)
  ·
    refine pm_iconst (v := 1) dMo_always_32 (by decide) ?_
    exact pm_zret dMo_always_33 rfl (by first | rfl | decide) (ho.trans (by first | (simp only [fMo_always_2, if_pos h7]; done) | (simp only [fMo_always_2, if_pos h7]; with_reducible rfl) | with_reducible rfl)) (hz.trans (by first | (simp only [fMo_always_2, if_pos h7]; done) | (simp only [fMo_always_2, if_pos h7]; with_reducible rfl) | with_reducible rfl))
  ·
    refine pm_aload_n dMo_always_10 rfl ?_
    refine pm_iload_n dMo_always_11 rfl ?_
    refine pm_iload_n dMo_always_12 rfl ?_
    refine pm_callV dMo_always_13 lMo_351 vMo_set ⟨_, _, rfl⟩ (Mo_set_ok _ _ _ _ hR _ _ _ _ _ _ _ (hp.2.2 h7).1) rfl rfl rfl (Nat.le_of_ble_eq_true rfl) (Nat.le_refl _) (Nat.le_refl _) ?_
    refine pm_wk [0, 1, 2, 3] rfl ?_
    exact Mo_always_n16 g d ex R hR J _ _ (fMo_always_2 n) (pMo_always_2 n) ih  _ _ _ _ (hp.2.2 h7).2 (ho.trans (by first | (simp only [fMo_always_2, if_neg h7]; done) | (simp only [fMo_always_2, if_neg h7]; with_reducible rfl) | with_reducible rfl)) (hz.trans (by first | (simp only [fMo_always_2, if_neg h7]; done) | (simp only [fMo_always_2, if_neg h7]; with_reducible rfl) | with_reducible rfl))
set_option maxHeartbeats 4000000 in
set_option maxRecDepth 100000 in
theorem Mo_always_n0 (g : pmG) (d : Nat) (ex : List (Nat × Nat)) (R : Nat → Nat → Value) (hR : mk_R R) (J : Nat → Nat → Int64) (o : Outcome) (Z : pmM) (n2 : Nat) (y1 : Int32) (y2 : Int32) (I : Nat → Nat → Int32) (hp : pMo_always n2 y1 y2 I) (ho : o = .returned (some (.int (fMo_always n2 y1 y2 I).1))) (hz : Z = (mk_K ++ ex, R, (fMo_always n2 y1 y2 I).2, J)) : pmE g kMo_always (d + 605) 0 0 0 [(0, .ref 40), (1, .int y1), (2, .int y2)] [] (mk_K ++ ex) R I J o Z := by
  unfold pMo_always at hp
  refine pm_iconst (v := 0) dMo_always_0 (by decide) ?_
  refine pm_istore_n dMo_always_1 (by decide) rfl ?_
  refine pm_wk [1, 2, 3, 0] rfl ?_
  exact Mo_always_n2 g d ex R hR J _ _  n2 _ _ _ _ hp (ho.trans (by first | (simp only [fMo_always]; done) | (simp only [fMo_always]; with_reducible rfl) | with_reducible rfl)) (hz.trans (by first | (simp only [fMo_always]; done) | (simp only [fMo_always]; with_reducible rfl) | with_reducible rfl))
set_option maxHeartbeats 4000000 in
set_option maxRecDepth 100000 in
theorem Mo_always_ok (g : pmG) (d : Nat) (ex : List (Nat × Nat)) (R : Nat → Nat → Value) (hR : mk_R R) (n2 : Nat) (x0 : Int32) (x1 : Int32) (I : Nat → Nat → Int32) (J : Nat → Nat → Int64) (hp : pMo_always n2 x0 x1 I) : pmC g kMo_always (d + 605) 0 0 [.ref 40, .int x0, .int x1] (mk_K ++ ex, R, I, J) (.returned (some (.int (fMo_always n2 x0 x1 I).1))) (mk_K ++ ex, R, (fMo_always n2 x0 x1 I).2, J) :=
  pmC.of (by decide) (Nat.le_of_ble_eq_true rfl) (Mo_always_n0 g d ex R hR J _ _ n2 x0 x1 I hp rfl rfl)
def fMo_feed_85 (r32 : Int32 → Int32 → Int32 → Int32 → Int32 → Int32 → (Nat → Nat → Int32) → Int32 × (Nat → Nat → Int32)) (y1 : Int32) (y2 : Int32) (y3 : Int32) (y4 : Int32) (y5 : Int32) (y6 : Int32) (z0 : Int32) (I : Nat → Nat → Int32) : Int32 × (Nat → Nat → Int32) :=
  r32 y1 y2 y3 y4 y5 (y6 + Int32.ofInt 1) (pm_u (pm_u I 40 1 ((I 40 1) + (1 : Int32))) 41 (I 40 1).toNatClampNeg ((((z0.toUInt32 >>> (((24 : Int32) - ((8 : Int32) * (y6 - y6 / (4 : Int32) * (4 : Int32)))).toUInt32 &&& Int32.toUInt32 31)).toInt32).toInt8.toInt32).toInt8.toInt32))
def pMo_feed_85 (q32 : Int32 → Int32 → Int32 → Int32 → Int32 → Int32 → (Nat → Nat → Int32) → Prop) (y1 : Int32) (y2 : Int32) (y3 : Int32) (y4 : Int32) (y5 : Int32) (y6 : Int32) (z0 : Int32) (I : Nat → Nat → Int32) : Prop :=
  (¬ (4 : Int32) = 0) ∧ ((vp_in (I 40 1) 65536) ∧ (q32 y1 y2 y3 y4 y5 (y6 + Int32.ofInt 1) (pm_u (pm_u I 40 1 ((I 40 1) + (1 : Int32))) 41 (I 40 1).toNatClampNeg ((((z0.toUInt32 >>> (((24 : Int32) - ((8 : Int32) * (y6 - y6 / (4 : Int32) * (4 : Int32)))).toUInt32 &&& Int32.toUInt32 31)).toInt32).toInt8.toInt32).toInt8.toInt32))))
def fMo_feed_32  : Nat → Int32 → Int32 → Int32 → Int32 → Int32 → Int32 → (Nat → Nat → Int32) → Int32 × (Nat → Nat → Int32)
  | 0, _, _, _, _, _, _, I => (0, I)
  | n + 1, y1, y2, y3, y4, y5, y6, I =>
  if (20 : Int32) ≤ y6 then (I 40 1, I)
  else if (4 : Int32) ≤ y6 then if (8 : Int32) ≤ y6 then if (12 : Int32) ≤ y6 then if (16 : Int32) ≤ y6 then fMo_feed_85 (fMo_feed_32 n) y1 y2 y3 y4 y5 y6 y5 I
          else fMo_feed_85 (fMo_feed_32 n) y1 y2 y3 y4 y5 y6 y4 I
        else fMo_feed_85 (fMo_feed_32 n) y1 y2 y3 y4 y5 y6 y3 I
      else fMo_feed_85 (fMo_feed_32 n) y1 y2 y3 y4 y5 y6 y2 I
    else fMo_feed_85 (fMo_feed_32 n) y1 y2 y3 y4 y5 y6 y1 I
def pMo_feed_32  : Nat → Int32 → Int32 → Int32 → Int32 → Int32 → Int32 → (Nat → Nat → Int32) → Prop
  | 0, _, _, _, _, _, _, _ => False
  | n + 1, y1, y2, y3, y4, y5, y6, I =>
  ((20 : Int32) ≤ y6 → True) ∧
  (¬ ((20 : Int32) ≤ y6) → ((4 : Int32) ≤ y6 → ((8 : Int32) ≤ y6 → ((12 : Int32) ≤ y6 → ((16 : Int32) ≤ y6 → pMo_feed_85 (pMo_feed_32 n) y1 y2 y3 y4 y5 y6 y5 I) ∧
          (¬ ((16 : Int32) ≤ y6) → pMo_feed_85 (pMo_feed_32 n) y1 y2 y3 y4 y5 y6 y4 I)) ∧
        (¬ ((12 : Int32) ≤ y6) → pMo_feed_85 (pMo_feed_32 n) y1 y2 y3 y4 y5 y6 y3 I)) ∧
      (¬ ((8 : Int32) ≤ y6) → pMo_feed_85 (pMo_feed_32 n) y1 y2 y3 y4 y5 y6 y2 I)) ∧
    (¬ ((4 : Int32) ≤ y6) → pMo_feed_85 (pMo_feed_32 n) y1 y2 y3 y4 y5 y6 y1 I))
def fMo_feed_24 (n32 : Nat) (y1 : Int32) (y2 : Int32) (y3 : Int32) (y4 : Int32) (y5 : Int32) (z0 : Int32) (I : Nat → Nat → Int32) : Int32 × (Nat → Nat → Int32) :=
  if z0 = 0 then fMo_feed_32 n32 y1 y2 y3 y4 y5 (0 : Int32) I
  else ((0 : Int32), I)
def pMo_feed_24 (n32 : Nat) (y1 : Int32) (y2 : Int32) (y3 : Int32) (y4 : Int32) (y5 : Int32) (z0 : Int32) (I : Nat → Nat → Int32) : Prop :=
  (z0 = 0 → pMo_feed_32 n32 y1 y2 y3 y4 y5 (0 : Int32) I) ∧
  (¬ (z0 = 0) → True)
def fMo_feed_21 (n32 : Nat) (y1 : Int32) (y2 : Int32) (y3 : Int32) (y4 : Int32) (y5 : Int32) (z1 : Int32) (z2 : Int32) (I : Nat → Nat → Int32) : Int32 × (Nat → Nat → Int32) :=
  fMo_feed_24 n32 y1 y2 y3 y4 y5 ((fMo_refuse z1 z2 I).1) ((fMo_refuse z1 z2 I).2)
def pMo_feed_21 (n32 : Nat) (y1 : Int32) (y2 : Int32) (y3 : Int32) (y4 : Int32) (y5 : Int32) (z1 : Int32) (z2 : Int32) (I : Nat → Nat → Int32) : Prop :=
  (pMo_refuse z1 z2 I) ∧ (pMo_feed_24 n32 y1 y2 y3 y4 y5 ((fMo_refuse z1 z2 I).1) ((fMo_refuse z1 z2 I).2))
def fMo_feed (n32 : Nat) (y1 : Int32) (y2 : Int32) (y3 : Int32) (y4 : Int32) (y5 : Int32) (I : Nat → Nat → Int32) : Int32 × (Nat → Nat → Int32) :=
  if (I 40 1) ≤ (65516 : Int32) then fMo_feed_21 n32 y1 y2 y3 y4 y5 (1 : Int32) (0 : Int32) (pm_u I 40 2 (0 : Int32))
  else fMo_feed_21 n32 y1 y2 y3 y4 y5 (1 : Int32) (1 : Int32) (pm_u I 40 2 (0 : Int32))
def pMo_feed (n32 : Nat) (y1 : Int32) (y2 : Int32) (y3 : Int32) (y4 : Int32) (y5 : Int32) (I : Nat → Nat → Int32) : Prop :=
  ((I 40 1) ≤ (65516 : Int32) → pMo_feed_21 n32 y1 y2 y3 y4 y5 (1 : Int32) (0 : Int32) (pm_u I 40 2 (0 : Int32))) ∧
  (¬ ((I 40 1) ≤ (65516 : Int32)) → pMo_feed_21 n32 y1 y2 y3 y4 y5 (1 : Int32) (1 : Int32) (pm_u I 40 2 (0 : Int32)))
set_option maxHeartbeats 4000000 in
set_option maxRecDepth 100000 in
theorem Mo_feed_n85 (g : pmG) (d : Nat) (ex : List (Nat × Nat)) (R : Nat → Nat → Value) (hR : mk_R R) (J : Nat → Nat → Int64) (o : Outcome) (Z : pmM) (r32 : Int32 → Int32 → Int32 → Int32 → Int32 → Int32 → (Nat → Nat → Int32) → Int32 × (Nat → Nat → Int32)) (q32 : Int32 → Int32 → Int32 → Int32 → Int32 → Int32 → (Nat → Nat → Int32) → Prop) (ih32 : ∀ (y1 : Int32) (y2 : Int32) (y3 : Int32) (y4 : Int32) (y5 : Int32) (y6 : Int32) (I : Nat → Nat → Int32), q32 y1 y2 y3 y4 y5 y6 I → o = .returned (some (.int (r32 y1 y2 y3 y4 y5 y6 I).1)) → Z = (mk_K ++ ex, R, (r32 y1 y2 y3 y4 y5 y6 I).2, J) → pmE g kMo_feed (d + 1) 0 0 32 [(0, .ref 40), (1, .int y1), (2, .int y2), (3, .int y3), (4, .int y4), (5, .int y5), (6, .int y6)] [] (mk_K ++ ex) R I J o Z)  (y1 : Int32) (y2 : Int32) (y3 : Int32) (y4 : Int32) (y5 : Int32) (y6 : Int32) (z0 : Int32) (I : Nat → Nat → Int32) (hp : pMo_feed_85 q32 y1 y2 y3 y4 y5 y6 z0 I) (ho : o = .returned (some (.int (fMo_feed_85 r32 y1 y2 y3 y4 y5 y6 z0 I).1))) (hz : Z = (mk_K ++ ex, R, (fMo_feed_85 r32 y1 y2 y3 y4 y5 y6 z0 I).2, J)) : pmE g kMo_feed (d + 1) 0 0 85 [(0, .ref 40), (1, .int y1), (2, .int y2), (3, .int y3), (4, .int y4), (5, .int y5), (6, .int y6)] [.int z0] (mk_K ++ ex) R I J o Z := by
  unfold pMo_feed_85 at hp
  refine pm_istore dMo_feed_85 (by decide) rfl ?_
  refine pm_aload_n dMo_feed_87 rfl ?_
  refine pm_getr dMo_feed_88 fMo_8 rfl (rr_40_0 hR) ?_
  refine pm_aload_n dMo_feed_91 rfl ?_
  refine pm_dup dMo_feed_92 rfl ?_
  refine pm_geti dMo_feed_93 fMo_14 rfl ?_
  refine pm_dup_x1 dMo_feed_96 rfl rfl ?_
  refine pm_iconst (v := 1) dMo_feed_97 (by decide) ?_
  refine pm_iadd dMo_feed_98 ?_
  refine pm_puti dMo_feed_99 fMo_14 sMo_14 (fun h => by cases h) rfl rfl rfl ?_
  refine pm_iload dMo_feed_102 rfl ?_
  refine pm_bipush (v := 24) dMo_feed_104 (by decide) ?_
  refine pm_bipush (v := 8) dMo_feed_106 (by decide) ?_
  refine pm_iload dMo_feed_108 rfl ?_
  refine pm_iconst (v := 4) dMo_feed_110 (by decide) ?_
  refine pm_irem dMo_feed_111 hp.1 ?_
  refine pm_imul dMo_feed_112 ?_
  refine pm_isub dMo_feed_113 ?_
  refine pm_iushr dMo_feed_114 ?_
  refine pm_i2b dMo_feed_115 ?_
  refine pm_bast dMo_feed_116 rfl hp.2.1 ?_
  refine pm_iinc dMo_feed_117 rfl (by decide) rfl ?_
  refine pm_goto 32 dMo_feed_120 (by decide) ?_
  refine pm_wk [2, 3, 4, 5, 6, 7, 0] rfl ?_
  exact ih32 _ _ _ _ _ _ _ hp.2.2 (ho.trans (by first | (simp only [fMo_feed_85]; done) | (simp only [fMo_feed_85]; with_reducible rfl) | with_reducible rfl)) (hz.trans (by first | (simp only [fMo_feed_85]; done) | (simp only [fMo_feed_85]; with_reducible rfl) | with_reducible rfl))
set_option maxHeartbeats 4000000 in
set_option maxRecDepth 100000 in
theorem Mo_feed_n32 (g : pmG) (d : Nat) (ex : List (Nat × Nat)) (R : Nat → Nat → Value) (hR : mk_R R) (J : Nat → Nat → Int64) (o : Outcome) (Z : pmM)  : ∀ (n : Nat) (y1 : Int32) (y2 : Int32) (y3 : Int32) (y4 : Int32) (y5 : Int32) (y6 : Int32) (I : Nat → Nat → Int32), pMo_feed_32 n y1 y2 y3 y4 y5 y6 I → o = .returned (some (.int (fMo_feed_32 n y1 y2 y3 y4 y5 y6 I).1)) → Z = (mk_K ++ ex, R, (fMo_feed_32 n y1 y2 y3 y4 y5 y6 I).2, J) → pmE g kMo_feed (d + 1) 0 0 32 [(0, .ref 40), (1, .int y1), (2, .int y2), (3, .int y3), (4, .int y4), (5, .int y5), (6, .int y6)] [] (mk_K ++ ex) R I J o Z := by
  intro n
  induction n with
  | zero => intro y1 y2 y3 y4 y5 y6 I hp; exact False.elim hp
  | succ n ih =>
  intro y1 y2 y3 y4 y5 y6 I hp ho hz
  simp only [pMo_feed_32] at hp
  refine pm_iload dMo_feed_32 rfl ?_
  refine pm_bipush (v := 20) dMo_feed_34 (by decide) ?_
  refine pm_icmp_ge 123 dMo_feed_36 (by decide) (fun h36 => ?_) (fun h36 => ?_)
  ·
    refine pm_aload_n dMo_feed_123 rfl ?_
    refine pm_geti dMo_feed_124 fMo_14 rfl ?_
    exact pm_iret dMo_feed_127 rfl (ho.trans (by first | (simp only [fMo_feed_32, if_pos h36]; done) | (simp only [fMo_feed_32, if_pos h36]; with_reducible rfl) | with_reducible rfl)) (hz.trans (by first | (simp only [fMo_feed_32, if_pos h36]; done) | (simp only [fMo_feed_32, if_pos h36]; with_reducible rfl) | with_reducible rfl))
  ·
    refine pm_iload dMo_feed_39 rfl ?_
    refine pm_iconst (v := 4) dMo_feed_41 (by decide) ?_
    refine pm_icmp_ge 49 dMo_feed_42 (by decide) (fun h42 => ?_) (fun h42 => ?_)
    ·
      refine pm_iload dMo_feed_49 rfl ?_
      refine pm_bipush (v := 8) dMo_feed_51 (by decide) ?_
      refine pm_icmp_ge 60 dMo_feed_53 (by decide) (fun h53 => ?_) (fun h53 => ?_)
      ·
        refine pm_iload dMo_feed_60 rfl ?_
        refine pm_bipush (v := 12) dMo_feed_62 (by decide) ?_
        refine pm_icmp_ge 71 dMo_feed_64 (by decide) (fun h64 => ?_) (fun h64 => ?_)
        ·
          refine pm_iload dMo_feed_71 rfl ?_
          refine pm_bipush (v := 16) dMo_feed_73 (by decide) ?_
          refine pm_icmp_ge 83 dMo_feed_75 (by decide) (fun h75 => ?_) (fun h75 => ?_)
          ·
            refine pm_iload dMo_feed_83 rfl ?_
            refine pm_wk [0, 1, 2, 3, 4, 5, 6] rfl ?_
            exact Mo_feed_n85 g d ex R hR J _ _ (fMo_feed_32 n) (pMo_feed_32 n) ih  _ _ _ _ _ _ _ _ (((((hp.2 h36).1 h42).1 h53).1 h64).1 h75) (ho.trans (by first | (simp only [fMo_feed_32, if_neg h36, if_pos h42, if_pos h53, if_pos h64, if_pos h75]; done) | (simp only [fMo_feed_32, if_neg h36, if_pos h42, if_pos h53, if_pos h64, if_pos h75]; with_reducible rfl) | with_reducible rfl)) (hz.trans (by first | (simp only [fMo_feed_32, if_neg h36, if_pos h42, if_pos h53, if_pos h64, if_pos h75]; done) | (simp only [fMo_feed_32, if_neg h36, if_pos h42, if_pos h53, if_pos h64, if_pos h75]; with_reducible rfl) | with_reducible rfl))
          ·
            refine pm_iload dMo_feed_78 rfl ?_
            refine pm_goto 85 dMo_feed_80 (by decide) ?_
            refine pm_wk [0, 1, 2, 3, 4, 5, 6] rfl ?_
            exact Mo_feed_n85 g d ex R hR J _ _ (fMo_feed_32 n) (pMo_feed_32 n) ih  _ _ _ _ _ _ _ _ (((((hp.2 h36).1 h42).1 h53).1 h64).2 h75) (ho.trans (by first | (simp only [fMo_feed_32, if_neg h36, if_pos h42, if_pos h53, if_pos h64, if_neg h75]; done) | (simp only [fMo_feed_32, if_neg h36, if_pos h42, if_pos h53, if_pos h64, if_neg h75]; with_reducible rfl) | with_reducible rfl)) (hz.trans (by first | (simp only [fMo_feed_32, if_neg h36, if_pos h42, if_pos h53, if_pos h64, if_neg h75]; done) | (simp only [fMo_feed_32, if_neg h36, if_pos h42, if_pos h53, if_pos h64, if_neg h75]; with_reducible rfl) | with_reducible rfl))
        ·
          refine pm_iload_n dMo_feed_67 rfl ?_
          refine pm_goto 85 dMo_feed_68 (by decide) ?_
          refine pm_wk [0, 1, 2, 3, 4, 5, 6] rfl ?_
          exact Mo_feed_n85 g d ex R hR J _ _ (fMo_feed_32 n) (pMo_feed_32 n) ih  _ _ _ _ _ _ _ _ ((((hp.2 h36).1 h42).1 h53).2 h64) (ho.trans (by first | (simp only [fMo_feed_32, if_neg h36, if_pos h42, if_pos h53, if_neg h64]; done) | (simp only [fMo_feed_32, if_neg h36, if_pos h42, if_pos h53, if_neg h64]; with_reducible rfl) | with_reducible rfl)) (hz.trans (by first | (simp only [fMo_feed_32, if_neg h36, if_pos h42, if_pos h53, if_neg h64]; done) | (simp only [fMo_feed_32, if_neg h36, if_pos h42, if_pos h53, if_neg h64]; with_reducible rfl) | with_reducible rfl))
      ·
        refine pm_iload_n dMo_feed_56 rfl ?_
        refine pm_goto 85 dMo_feed_57 (by decide) ?_
        refine pm_wk [0, 1, 2, 3, 4, 5, 6] rfl ?_
        exact Mo_feed_n85 g d ex R hR J _ _ (fMo_feed_32 n) (pMo_feed_32 n) ih  _ _ _ _ _ _ _ _ (((hp.2 h36).1 h42).2 h53) (ho.trans (by first | (simp only [fMo_feed_32, if_neg h36, if_pos h42, if_neg h53]; done) | (simp only [fMo_feed_32, if_neg h36, if_pos h42, if_neg h53]; with_reducible rfl) | with_reducible rfl)) (hz.trans (by first | (simp only [fMo_feed_32, if_neg h36, if_pos h42, if_neg h53]; done) | (simp only [fMo_feed_32, if_neg h36, if_pos h42, if_neg h53]; with_reducible rfl) | with_reducible rfl))
    ·
      refine pm_iload_n dMo_feed_45 rfl ?_
      refine pm_goto 85 dMo_feed_46 (by decide) ?_
      refine pm_wk [0, 1, 2, 3, 4, 5, 6] rfl ?_
      exact Mo_feed_n85 g d ex R hR J _ _ (fMo_feed_32 n) (pMo_feed_32 n) ih  _ _ _ _ _ _ _ _ ((hp.2 h36).2 h42) (ho.trans (by first | (simp only [fMo_feed_32, if_neg h36, if_neg h42]; done) | (simp only [fMo_feed_32, if_neg h36, if_neg h42]; with_reducible rfl) | with_reducible rfl)) (hz.trans (by first | (simp only [fMo_feed_32, if_neg h36, if_neg h42]; done) | (simp only [fMo_feed_32, if_neg h36, if_neg h42]; with_reducible rfl) | with_reducible rfl))
set_option maxHeartbeats 4000000 in
set_option maxRecDepth 100000 in
theorem Mo_feed_n24 (g : pmG) (d : Nat) (ex : List (Nat × Nat)) (R : Nat → Nat → Value) (hR : mk_R R) (J : Nat → Nat → Int64) (o : Outcome) (Z : pmM) (n32 : Nat) (y1 : Int32) (y2 : Int32) (y3 : Int32) (y4 : Int32) (y5 : Int32) (z0 : Int32) (I : Nat → Nat → Int32) (hp : pMo_feed_24 n32 y1 y2 y3 y4 y5 z0 I) (ho : o = .returned (some (.int (fMo_feed_24 n32 y1 y2 y3 y4 y5 z0 I).1))) (hz : Z = (mk_K ++ ex, R, (fMo_feed_24 n32 y1 y2 y3 y4 y5 z0 I).2, J)) : pmE g kMo_feed (d + 1) 0 0 24 [(0, .ref 40), (1, .int y1), (2, .int y2), (3, .int y3), (4, .int y4), (5, .int y5)] [.int z0] (mk_K ++ ex) R I J o Z := by
  unfold pMo_feed_24 at hp
  refine pm_if_eq 29 dMo_feed_24 (by decide) (fun h24 => ?_) (fun h24 => ?_)
  ·
    refine pm_iconst (v := 0) dMo_feed_29 (by decide) ?_
    refine pm_istore dMo_feed_30 (by decide) rfl ?_
    refine pm_wk [1, 2, 3, 4, 5, 6, 0] rfl ?_
    exact Mo_feed_n32 g d ex R hR J _ _  n32 _ _ _ _ _ _ _ (hp.1 h24) (ho.trans (by first | (simp only [fMo_feed_24, if_pos h24]; done) | (simp only [fMo_feed_24, if_pos h24]; with_reducible rfl) | with_reducible rfl)) (hz.trans (by first | (simp only [fMo_feed_24, if_pos h24]; done) | (simp only [fMo_feed_24, if_pos h24]; with_reducible rfl) | with_reducible rfl))
  ·
    refine pm_iconst (v := 0) dMo_feed_27 (by decide) ?_
    exact pm_iret dMo_feed_28 rfl (ho.trans (by first | (simp only [fMo_feed_24, if_neg h24]; done) | (simp only [fMo_feed_24, if_neg h24]; with_reducible rfl) | with_reducible rfl)) (hz.trans (by first | (simp only [fMo_feed_24, if_neg h24]; done) | (simp only [fMo_feed_24, if_neg h24]; with_reducible rfl) | with_reducible rfl))
set_option maxHeartbeats 4000000 in
set_option maxRecDepth 100000 in
theorem Mo_feed_n21 (g : pmG) (d : Nat) (ex : List (Nat × Nat)) (R : Nat → Nat → Value) (hR : mk_R R) (J : Nat → Nat → Int64) (o : Outcome) (Z : pmM) (n32 : Nat) (y1 : Int32) (y2 : Int32) (y3 : Int32) (y4 : Int32) (y5 : Int32) (z1 : Int32) (z2 : Int32) (I : Nat → Nat → Int32) (hp : pMo_feed_21 n32 y1 y2 y3 y4 y5 z1 z2 I) (ho : o = .returned (some (.int (fMo_feed_21 n32 y1 y2 y3 y4 y5 z1 z2 I).1))) (hz : Z = (mk_K ++ ex, R, (fMo_feed_21 n32 y1 y2 y3 y4 y5 z1 z2 I).2, J)) : pmE g kMo_feed (d + 1) 0 0 21 [(0, .ref 40), (1, .int y1), (2, .int y2), (3, .int y3), (4, .int y4), (5, .int y5)] [.int z2, .int z1, .ref 40] (mk_K ++ ex) R I J o Z := by
  unfold pMo_feed_21 at hp
  refine pm_callV dMo_feed_21 lMo_180 vMo_refuse ⟨_, _, rfl⟩ (Mo_refuse_ok _ _ _ _ hR _ _ _ _ hp.1) rfl rfl rfl (Nat.le_of_ble_eq_true rfl) (Nat.le_refl _) (Nat.le_refl _) ?_
  refine pm_wk [0, 1, 2, 3, 4, 5] rfl ?_
  exact Mo_feed_n24 g d ex R hR J _ _  n32 _ _ _ _ _ _ _ hp.2 (ho.trans (by first | (simp only [fMo_feed_21]; done) | (simp only [fMo_feed_21]; with_reducible rfl) | with_reducible rfl)) (hz.trans (by first | (simp only [fMo_feed_21]; done) | (simp only [fMo_feed_21]; with_reducible rfl) | with_reducible rfl))
set_option maxHeartbeats 4000000 in
set_option maxRecDepth 100000 in
theorem Mo_feed_n0 (g : pmG) (d : Nat) (ex : List (Nat × Nat)) (R : Nat → Nat → Value) (hR : mk_R R) (J : Nat → Nat → Int64) (o : Outcome) (Z : pmM) (n32 : Nat) (y1 : Int32) (y2 : Int32) (y3 : Int32) (y4 : Int32) (y5 : Int32) (I : Nat → Nat → Int32) (hp : pMo_feed n32 y1 y2 y3 y4 y5 I) (ho : o = .returned (some (.int (fMo_feed n32 y1 y2 y3 y4 y5 I).1))) (hz : Z = (mk_K ++ ex, R, (fMo_feed n32 y1 y2 y3 y4 y5 I).2, J)) : pmE g kMo_feed (d + 1) 0 0 0 [(0, .ref 40), (1, .int y1), (2, .int y2), (3, .int y3), (4, .int y4), (5, .int y5)] [] (mk_K ++ ex) R I J o Z := by
  unfold pMo_feed at hp
  refine pm_aload_n dMo_feed_0 rfl ?_
  refine pm_iconst (v := 0) dMo_feed_1 (by decide) ?_
  refine pm_puti dMo_feed_2 fMo_18 sMo_18 (fun h => by cases h) rfl rfl rfl ?_
  refine pm_aload_n dMo_feed_5 rfl ?_
  refine pm_iconst (v := 1) dMo_feed_6 (by decide) ?_
  refine pm_aload_n dMo_feed_7 rfl ?_
  refine pm_geti dMo_feed_8 fMo_14 rfl ?_
  refine pm_eqi (I 40 1) rfl ?_
  refine pm_ldc dMo_feed_11 cMo_179 ?_
  refine pm_icmp_le 20 dMo_feed_13 (by decide) (fun h13 => ?_) (fun h13 => ?_)
  ·
    refine pm_iconst (v := 0) dMo_feed_20 (by decide) ?_
    refine pm_wk [0, 1, 2, 3, 4, 5] rfl ?_
    exact Mo_feed_n21 g d ex R hR J _ _  n32 _ _ _ _ _ _ _ _ (hp.1 h13) (ho.trans (by first | (simp only [fMo_feed, if_pos h13]; done) | (simp only [fMo_feed, if_pos h13]; with_reducible rfl) | with_reducible rfl)) (hz.trans (by first | (simp only [fMo_feed, if_pos h13]; done) | (simp only [fMo_feed, if_pos h13]; with_reducible rfl) | with_reducible rfl))
  ·
    refine pm_iconst (v := 1) dMo_feed_16 (by decide) ?_
    refine pm_goto 21 dMo_feed_17 (by decide) ?_
    refine pm_wk [0, 1, 2, 3, 4, 5] rfl ?_
    exact Mo_feed_n21 g d ex R hR J _ _  n32 _ _ _ _ _ _ _ _ (hp.2 h13) (ho.trans (by first | (simp only [fMo_feed, if_neg h13]; done) | (simp only [fMo_feed, if_neg h13]; with_reducible rfl) | with_reducible rfl)) (hz.trans (by first | (simp only [fMo_feed, if_neg h13]; done) | (simp only [fMo_feed, if_neg h13]; with_reducible rfl) | with_reducible rfl))
set_option maxHeartbeats 4000000 in
set_option maxRecDepth 100000 in
theorem Mo_feed_ok (g : pmG) (d : Nat) (ex : List (Nat × Nat)) (R : Nat → Nat → Value) (hR : mk_R R) (n32 : Nat) (x0 : Int32) (x1 : Int32) (x2 : Int32) (x3 : Int32) (x4 : Int32) (I : Nat → Nat → Int32) (J : Nat → Nat → Int64) (hp : pMo_feed n32 x0 x1 x2 x3 x4 I) : pmC g kMo_feed (d + 1) 0 0 [.ref 40, .int x0, .int x1, .int x2, .int x3, .int x4] (mk_K ++ ex, R, I, J) (.returned (some (.int (fMo_feed n32 x0 x1 x2 x3 x4 I).1))) (mk_K ++ ex, R, (fMo_feed n32 x0 x1 x2 x3 x4 I).2, J) :=
  pmC.of (by decide) (Nat.le_of_ble_eq_true rfl) (Mo_feed_n0 g d ex R hR J _ _ n32 x0 x1 x2 x3 x4 I hp rfl rfl)
def fMo_end_27  (y1 : Int32) (z0 : Int32) (I : Nat → Nat → Int32) : Int32 × (Nat → Nat → Int32) :=
  if z0 = 0 then (y1, pm_u I 40 1 y1)
  else ((0 : Int32), I)
def pMo_end_27  (y1 : Int32) (z0 : Int32) (I : Nat → Nat → Int32) : Prop :=
  (z0 = 0 → True) ∧
  (¬ (z0 = 0) → True)
def fMo_end_24  (y1 : Int32) (z1 : Int32) (z2 : Int32) (I : Nat → Nat → Int32) : Int32 × (Nat → Nat → Int32) :=
  fMo_end_27 y1 ((fMo_refuse z1 z2 I).1) ((fMo_refuse z1 z2 I).2)
def pMo_end_24  (y1 : Int32) (z1 : Int32) (z2 : Int32) (I : Nat → Nat → Int32) : Prop :=
  (pMo_refuse z1 z2 I) ∧ (pMo_end_27 y1 ((fMo_refuse z1 z2 I).1) ((fMo_refuse z1 z2 I).2))
def fMo_end_19  (y1 : Int32) (z1 : Int32) (I : Nat → Nat → Int32) : Int32 × (Nat → Nat → Int32) :=
  fMo_end_24 y1 z1 (1 : Int32) I
def pMo_end_19  (y1 : Int32) (z1 : Int32) (I : Nat → Nat → Int32) : Prop :=
  pMo_end_24 y1 z1 (1 : Int32) I
def fMo_end  (y1 : Int32) (I : Nat → Nat → Int32) : Int32 × (Nat → Nat → Int32) :=
  if y1 < 0 then fMo_end_19 y1 (1 : Int32) (pm_u I 40 2 (0 : Int32))
  else if y1 ≤ (I 40 1) then fMo_end_24 y1 (1 : Int32) (0 : Int32) (pm_u I 40 2 (0 : Int32))
    else fMo_end_19 y1 (1 : Int32) (pm_u I 40 2 (0 : Int32))
def pMo_end  (y1 : Int32) (I : Nat → Nat → Int32) : Prop :=
  (y1 < 0 → pMo_end_19 y1 (1 : Int32) (pm_u I 40 2 (0 : Int32))) ∧
  (¬ (y1 < 0) → (y1 ≤ (I 40 1) → pMo_end_24 y1 (1 : Int32) (0 : Int32) (pm_u I 40 2 (0 : Int32))) ∧
    (¬ (y1 ≤ (I 40 1)) → pMo_end_19 y1 (1 : Int32) (pm_u I 40 2 (0 : Int32))))
set_option maxHeartbeats 4000000 in
set_option maxRecDepth 100000 in
theorem Mo_end_n27 (g : pmG) (d : Nat) (ex : List (Nat × Nat)) (R : Nat → Nat → Value) (hR : mk_R R) (J : Nat → Nat → Int64) (o : Outcome) (Z : pmM)  (y1 : Int32) (z0 : Int32) (I : Nat → Nat → Int32) (hp : pMo_end_27 y1 z0 I) (ho : o = .returned (some (.int (fMo_end_27 y1 z0 I).1))) (hz : Z = (mk_K ++ ex, R, (fMo_end_27 y1 z0 I).2, J)) : pmE g kMo_end (d + 1) 0 0 27 [(0, .ref 40), (1, .int y1)] [.int z0] (mk_K ++ ex) R I J o Z := by
  unfold pMo_end_27 at hp
  refine pm_if_eq 32 dMo_end_27 (by decide) (fun h27 => ?_) (fun h27 => ?_)
  ·
    refine pm_aload_n dMo_end_32 rfl ?_
    refine pm_iload_n dMo_end_33 rfl ?_
    refine pm_puti dMo_end_34 fMo_14 sMo_14 (fun h => by cases h) rfl rfl rfl ?_
    refine pm_iload_n dMo_end_37 rfl ?_
    exact pm_iret dMo_end_38 rfl (ho.trans (by first | (simp only [fMo_end_27, if_pos h27]; done) | (simp only [fMo_end_27, if_pos h27]; with_reducible rfl) | with_reducible rfl)) (hz.trans (by first | (simp only [fMo_end_27, if_pos h27]; done) | (simp only [fMo_end_27, if_pos h27]; with_reducible rfl) | with_reducible rfl))
  ·
    refine pm_iconst (v := 0) dMo_end_30 (by decide) ?_
    exact pm_iret dMo_end_31 rfl (ho.trans (by first | (simp only [fMo_end_27, if_neg h27]; done) | (simp only [fMo_end_27, if_neg h27]; with_reducible rfl) | with_reducible rfl)) (hz.trans (by first | (simp only [fMo_end_27, if_neg h27]; done) | (simp only [fMo_end_27, if_neg h27]; with_reducible rfl) | with_reducible rfl))
set_option maxHeartbeats 4000000 in
set_option maxRecDepth 100000 in
theorem Mo_end_n24 (g : pmG) (d : Nat) (ex : List (Nat × Nat)) (R : Nat → Nat → Value) (hR : mk_R R) (J : Nat → Nat → Int64) (o : Outcome) (Z : pmM)  (y1 : Int32) (z1 : Int32) (z2 : Int32) (I : Nat → Nat → Int32) (hp : pMo_end_24 y1 z1 z2 I) (ho : o = .returned (some (.int (fMo_end_24 y1 z1 z2 I).1))) (hz : Z = (mk_K ++ ex, R, (fMo_end_24 y1 z1 z2 I).2, J)) : pmE g kMo_end (d + 1) 0 0 24 [(0, .ref 40), (1, .int y1)] [.int z2, .int z1, .ref 40] (mk_K ++ ex) R I J o Z := by
  unfold pMo_end_24 at hp
  refine pm_callV dMo_end_24 lMo_180 vMo_refuse ⟨_, _, rfl⟩ (Mo_refuse_ok _ _ _ _ hR _ _ _ _ hp.1) rfl rfl rfl (Nat.le_of_ble_eq_true rfl) (Nat.le_refl _) (Nat.le_refl _) ?_
  refine pm_wk [0, 1] rfl ?_
  exact Mo_end_n27 g d ex R hR J _ _   _ _ _ hp.2 (ho.trans (by first | (simp only [fMo_end_24]; done) | (simp only [fMo_end_24]; with_reducible rfl) | with_reducible rfl)) (hz.trans (by first | (simp only [fMo_end_24]; done) | (simp only [fMo_end_24]; with_reducible rfl) | with_reducible rfl))
set_option maxHeartbeats 4000000 in
set_option maxRecDepth 100000 in
theorem Mo_end_n19 (g : pmG) (d : Nat) (ex : List (Nat × Nat)) (R : Nat → Nat → Value) (hR : mk_R R) (J : Nat → Nat → Int64) (o : Outcome) (Z : pmM)  (y1 : Int32) (z1 : Int32) (I : Nat → Nat → Int32) (hp : pMo_end_19 y1 z1 I) (ho : o = .returned (some (.int (fMo_end_19 y1 z1 I).1))) (hz : Z = (mk_K ++ ex, R, (fMo_end_19 y1 z1 I).2, J)) : pmE g kMo_end (d + 1) 0 0 19 [(0, .ref 40), (1, .int y1)] [.int z1, .ref 40] (mk_K ++ ex) R I J o Z := by
  unfold pMo_end_19 at hp
  refine pm_iconst (v := 1) dMo_end_19 (by decide) ?_
  refine pm_goto 24 dMo_end_20 (by decide) ?_
  refine pm_wk [0, 1] rfl ?_
  exact Mo_end_n24 g d ex R hR J _ _   _ _ _ _ hp (ho.trans (by first | (simp only [fMo_end_19]; done) | (simp only [fMo_end_19]; with_reducible rfl) | with_reducible rfl)) (hz.trans (by first | (simp only [fMo_end_19]; done) | (simp only [fMo_end_19]; with_reducible rfl) | with_reducible rfl))
set_option maxHeartbeats 4000000 in
set_option maxRecDepth 100000 in
theorem Mo_end_n0 (g : pmG) (d : Nat) (ex : List (Nat × Nat)) (R : Nat → Nat → Value) (hR : mk_R R) (J : Nat → Nat → Int64) (o : Outcome) (Z : pmM)  (y1 : Int32) (I : Nat → Nat → Int32) (hp : pMo_end y1 I) (ho : o = .returned (some (.int (fMo_end y1 I).1))) (hz : Z = (mk_K ++ ex, R, (fMo_end y1 I).2, J)) : pmE g kMo_end (d + 1) 0 0 0 [(0, .ref 40), (1, .int y1)] [] (mk_K ++ ex) R I J o Z := by
  unfold pMo_end at hp
  refine pm_aload_n dMo_end_0 rfl ?_
  refine pm_iconst (v := 0) dMo_end_1 (by decide) ?_
  refine pm_puti dMo_end_2 fMo_18 sMo_18 (fun h => by cases h) rfl rfl rfl ?_
  refine pm_aload_n dMo_end_5 rfl ?_
  refine pm_iconst (v := 1) dMo_end_6 (by decide) ?_
  refine pm_iload_n dMo_end_7 rfl ?_
  refine pm_if_lt 19 dMo_end_8 (by decide) (fun h8 => ?_) (fun h8 => ?_)
  ·
    refine pm_wk [0, 1] rfl ?_
    exact Mo_end_n19 g d ex R hR J _ _   _ _ _ (hp.1 h8) (ho.trans (by first | (simp only [fMo_end, if_pos h8]; done) | (simp only [fMo_end, if_pos h8]; with_reducible rfl) | with_reducible rfl)) (hz.trans (by first | (simp only [fMo_end, if_pos h8]; done) | (simp only [fMo_end, if_pos h8]; with_reducible rfl) | with_reducible rfl))
  ·
    refine pm_iload_n dMo_end_11 rfl ?_
    refine pm_aload_n dMo_end_12 rfl ?_
    refine pm_geti dMo_end_13 fMo_14 rfl ?_
    refine pm_eqi (I 40 1) rfl ?_
    refine pm_icmp_le 23 dMo_end_16 (by decide) (fun h16 => ?_) (fun h16 => ?_)
    ·
      refine pm_iconst (v := 0) dMo_end_23 (by decide) ?_
      refine pm_wk [0, 1] rfl ?_
      exact Mo_end_n24 g d ex R hR J _ _   _ _ _ _ ((hp.2 h8).1 h16) (ho.trans (by first | (simp only [fMo_end, if_neg h8, if_pos h16]; done) | (simp only [fMo_end, if_neg h8, if_pos h16]; with_reducible rfl) | with_reducible rfl)) (hz.trans (by first | (simp only [fMo_end, if_neg h8, if_pos h16]; done) | (simp only [fMo_end, if_neg h8, if_pos h16]; with_reducible rfl) | with_reducible rfl))
    ·
      refine pm_wk [0, 1] rfl ?_
      exact Mo_end_n19 g d ex R hR J _ _   _ _ _ ((hp.2 h8).2 h16) (ho.trans (by first | (simp only [fMo_end, if_neg h8, if_neg h16]; done) | (simp only [fMo_end, if_neg h8, if_neg h16]; with_reducible rfl) | with_reducible rfl)) (hz.trans (by first | (simp only [fMo_end, if_neg h8, if_neg h16]; done) | (simp only [fMo_end, if_neg h8, if_neg h16]; with_reducible rfl) | with_reducible rfl))
set_option maxHeartbeats 4000000 in
set_option maxRecDepth 100000 in
theorem Mo_end_ok (g : pmG) (d : Nat) (ex : List (Nat × Nat)) (R : Nat → Nat → Value) (hR : mk_R R)  (x0 : Int32) (I : Nat → Nat → Int32) (J : Nat → Nat → Int64) (hp : pMo_end x0 I) : pmC g kMo_end (d + 1) 0 0 [.ref 40, .int x0] (mk_K ++ ex, R, I, J) (.returned (some (.int (fMo_end x0 I).1))) (mk_K ++ ex, R, (fMo_end x0 I).2, J) :=
  pmC.of (by decide) (Nat.le_of_ble_eq_true rfl) (Mo_end_n0 g d ex R hR J _ _  x0 I hp rfl rfl)
def fMo_fault  (y1 : Int32) (I : Nat → Nat → Int32) : Int32 × (Nat → Nat → Int32) :=
  if y1 = 0 then (I 40 3, pm_u I 40 2 (0 : Int32))
  else if y1 = (1 : Int32) then (I 40 4, pm_u I 40 2 (0 : Int32))
    else ((-1 : Int32), pm_u I 40 2 (0 : Int32))
def pMo_fault  (y1 : Int32) (I : Nat → Nat → Int32) : Prop :=
  (y1 = 0 → True) ∧
  (¬ (y1 = 0) → (y1 = (1 : Int32) → True) ∧
    (¬ (y1 = (1 : Int32)) → True))
set_option maxHeartbeats 4000000 in
set_option maxRecDepth 100000 in
theorem Mo_fault_n0 (g : pmG) (d : Nat) (ex : List (Nat × Nat)) (R : Nat → Nat → Value) (hR : mk_R R) (J : Nat → Nat → Int64) (o : Outcome) (Z : pmM)  (y1 : Int32) (I : Nat → Nat → Int32) (hp : pMo_fault y1 I) (ho : o = .returned (some (.int (fMo_fault y1 I).1))) (hz : Z = (mk_K ++ ex, R, (fMo_fault y1 I).2, J)) : pmE g kMo_fault d 0 0 0 [(0, .ref 40), (1, .int y1)] [] (mk_K ++ ex) R I J o Z := by
  unfold pMo_fault at hp
  refine pm_aload_n dMo_fault_0 rfl ?_
  refine pm_iconst (v := 0) dMo_fault_1 (by decide) ?_
  refine pm_puti dMo_fault_2 fMo_18 sMo_18 (fun h => by cases h) rfl rfl rfl ?_
  refine pm_iload_n dMo_fault_5 rfl ?_
  refine pm_if_ne 16 dMo_fault_6 (by decide) (fun h6 => ?_) (fun h6 => ?_)
  ·
    refine pm_iload_n dMo_fault_16 rfl ?_
    refine pm_iconst (v := 1) dMo_fault_17 (by decide) ?_
    refine pm_icmp_ne 28 dMo_fault_18 (by decide) (fun h18 => ?_) (fun h18 => ?_)
    ·
      refine pm_iconst (v := (-1)) dMo_fault_28 (by decide) ?_
      exact pm_iret dMo_fault_29 rfl (ho.trans (by first | (simp only [fMo_fault, if_neg h6, if_neg h18]; done) | (simp only [fMo_fault, if_neg h6, if_neg h18]; with_reducible rfl) | with_reducible rfl)) (hz.trans (by first | (simp only [fMo_fault, if_neg h6, if_neg h18]; done) | (simp only [fMo_fault, if_neg h6, if_neg h18]; with_reducible rfl) | with_reducible rfl))
    ·
      refine pm_aload_n dMo_fault_21 rfl ?_
      refine pm_geti dMo_fault_22 fMo_24 rfl ?_
      refine pm_eqi (I 40 4) rfl ?_
      refine pm_goto 29 dMo_fault_25 (by decide) ?_
      exact pm_iret dMo_fault_29 rfl (ho.trans (by first | (simp only [fMo_fault, if_neg h6, if_pos h18]; done) | (simp only [fMo_fault, if_neg h6, if_pos h18]; with_reducible rfl) | with_reducible rfl)) (hz.trans (by first | (simp only [fMo_fault, if_neg h6, if_pos h18]; done) | (simp only [fMo_fault, if_neg h6, if_pos h18]; with_reducible rfl) | with_reducible rfl))
  ·
    refine pm_aload_n dMo_fault_9 rfl ?_
    refine pm_geti dMo_fault_10 fMo_21 rfl ?_
    refine pm_eqi (I 40 3) rfl ?_
    refine pm_goto 29 dMo_fault_13 (by decide) ?_
    exact pm_iret dMo_fault_29 rfl (ho.trans (by first | (simp only [fMo_fault, if_pos h6]; done) | (simp only [fMo_fault, if_pos h6]; with_reducible rfl) | with_reducible rfl)) (hz.trans (by first | (simp only [fMo_fault, if_pos h6]; done) | (simp only [fMo_fault, if_pos h6]; with_reducible rfl) | with_reducible rfl))
set_option maxHeartbeats 4000000 in
set_option maxRecDepth 100000 in
theorem Mo_fault_ok (g : pmG) (d : Nat) (ex : List (Nat × Nat)) (R : Nat → Nat → Value) (hR : mk_R R)  (x0 : Int32) (I : Nat → Nat → Int32) (J : Nat → Nat → Int64) (hp : pMo_fault x0 I) : pmC g kMo_fault d 0 0 [.ref 40, .int x0] (mk_K ++ ex, R, I, J) (.returned (some (.int (fMo_fault x0 I).1))) (mk_K ++ ex, R, (fMo_fault x0 I).2, J) :=
  pmC.of (by decide) (Nat.le_of_ble_eq_true rfl) (Mo_fault_n0 g d ex R hR J _ _  x0 I hp rfl rfl)
def fMo_noSpec_24  (y1 : Int32) (z1 : Int32) (z2 : Int32) (I : Nat → Nat → Int32) : Int32 × (Nat → Nat → Int32) :=
  ((fMo_refuse z1 z2 I).1, (fMo_refuse z1 z2 I).2)
def pMo_noSpec_24  (y1 : Int32) (z1 : Int32) (z2 : Int32) (I : Nat → Nat → Int32) : Prop :=
  (pMo_refuse z1 z2 I) ∧ (narrow .boolean (.int ((fMo_refuse z1 z2 I).1)) = .int ((fMo_refuse z1 z2 I).1))
def fMo_noSpec_19  (y1 : Int32) (z1 : Int32) (I : Nat → Nat → Int32) : Int32 × (Nat → Nat → Int32) :=
  fMo_noSpec_24 y1 z1 (1 : Int32) I
def pMo_noSpec_19  (y1 : Int32) (z1 : Int32) (I : Nat → Nat → Int32) : Prop :=
  pMo_noSpec_24 y1 z1 (1 : Int32) I
def fMo_noSpec  (y1 : Int32) (I : Nat → Nat → Int32) : Int32 × (Nat → Nat → Int32) :=
  if y1 < 0 then fMo_noSpec_19 y1 (1 : Int32) (pm_u I 40 2 (0 : Int32))
  else if y1 < (I 40 26) then fMo_noSpec_24 y1 (1 : Int32) (0 : Int32) (pm_u I 40 2 (0 : Int32))
    else fMo_noSpec_19 y1 (1 : Int32) (pm_u I 40 2 (0 : Int32))
def pMo_noSpec  (y1 : Int32) (I : Nat → Nat → Int32) : Prop :=
  (y1 < 0 → pMo_noSpec_19 y1 (1 : Int32) (pm_u I 40 2 (0 : Int32))) ∧
  (¬ (y1 < 0) → (y1 < (I 40 26) → pMo_noSpec_24 y1 (1 : Int32) (0 : Int32) (pm_u I 40 2 (0 : Int32))) ∧
    (¬ (y1 < (I 40 26)) → pMo_noSpec_19 y1 (1 : Int32) (pm_u I 40 2 (0 : Int32))))
set_option maxHeartbeats 4000000 in
set_option maxRecDepth 100000 in
theorem Mo_noSpec_n24 (g : pmG) (d : Nat) (ex : List (Nat × Nat)) (R : Nat → Nat → Value) (hR : mk_R R) (J : Nat → Nat → Int64) (o : Outcome) (Z : pmM)  (y1 : Int32) (z1 : Int32) (z2 : Int32) (I : Nat → Nat → Int32) (hp : pMo_noSpec_24 y1 z1 z2 I) (ho : o = .returned (some (.int (fMo_noSpec_24 y1 z1 z2 I).1))) (hz : Z = (mk_K ++ ex, R, (fMo_noSpec_24 y1 z1 z2 I).2, J)) : pmE g kMo_noSpec (d + 1) 0 0 24 [(0, .ref 40), (1, .int y1)] [.int z2, .int z1, .ref 40] (mk_K ++ ex) R I J o Z := by
  unfold pMo_noSpec_24 at hp
  refine pm_callV dMo_noSpec_24 lMo_180 vMo_refuse ⟨_, _, rfl⟩ (Mo_refuse_ok _ _ _ _ hR _ _ _ _ hp.1) rfl rfl rfl (Nat.le_of_ble_eq_true rfl) (Nat.le_refl _) (Nat.le_refl _) ?_
  exact pm_zret dMo_noSpec_27 rfl hp.2 (ho.trans (by first | (simp only [fMo_noSpec_24]; done) | (simp only [fMo_noSpec_24]; with_reducible rfl) | with_reducible rfl)) (hz.trans (by first | (simp only [fMo_noSpec_24]; done) | (simp only [fMo_noSpec_24]; with_reducible rfl) | with_reducible rfl))
set_option maxHeartbeats 4000000 in
set_option maxRecDepth 100000 in
theorem Mo_noSpec_n19 (g : pmG) (d : Nat) (ex : List (Nat × Nat)) (R : Nat → Nat → Value) (hR : mk_R R) (J : Nat → Nat → Int64) (o : Outcome) (Z : pmM)  (y1 : Int32) (z1 : Int32) (I : Nat → Nat → Int32) (hp : pMo_noSpec_19 y1 z1 I) (ho : o = .returned (some (.int (fMo_noSpec_19 y1 z1 I).1))) (hz : Z = (mk_K ++ ex, R, (fMo_noSpec_19 y1 z1 I).2, J)) : pmE g kMo_noSpec (d + 1) 0 0 19 [(0, .ref 40), (1, .int y1)] [.int z1, .ref 40] (mk_K ++ ex) R I J o Z := by
  unfold pMo_noSpec_19 at hp
  refine pm_iconst (v := 1) dMo_noSpec_19 (by decide) ?_
  refine pm_goto 24 dMo_noSpec_20 (by decide) ?_
  refine pm_wk [0, 1] rfl ?_
  exact Mo_noSpec_n24 g d ex R hR J _ _   _ _ _ _ hp (ho.trans (by first | (simp only [fMo_noSpec_19]; done) | (simp only [fMo_noSpec_19]; with_reducible rfl) | with_reducible rfl)) (hz.trans (by first | (simp only [fMo_noSpec_19]; done) | (simp only [fMo_noSpec_19]; with_reducible rfl) | with_reducible rfl))
set_option maxHeartbeats 4000000 in
set_option maxRecDepth 100000 in
theorem Mo_noSpec_n0 (g : pmG) (d : Nat) (ex : List (Nat × Nat)) (R : Nat → Nat → Value) (hR : mk_R R) (J : Nat → Nat → Int64) (o : Outcome) (Z : pmM)  (y1 : Int32) (I : Nat → Nat → Int32) (hp : pMo_noSpec y1 I) (ho : o = .returned (some (.int (fMo_noSpec y1 I).1))) (hz : Z = (mk_K ++ ex, R, (fMo_noSpec y1 I).2, J)) : pmE g kMo_noSpec (d + 1) 0 0 0 [(0, .ref 40), (1, .int y1)] [] (mk_K ++ ex) R I J o Z := by
  unfold pMo_noSpec at hp
  refine pm_aload_n dMo_noSpec_0 rfl ?_
  refine pm_iconst (v := 0) dMo_noSpec_1 (by decide) ?_
  refine pm_puti dMo_noSpec_2 fMo_18 sMo_18 (fun h => by cases h) rfl rfl rfl ?_
  refine pm_aload_n dMo_noSpec_5 rfl ?_
  refine pm_iconst (v := 1) dMo_noSpec_6 (by decide) ?_
  refine pm_iload_n dMo_noSpec_7 rfl ?_
  refine pm_if_lt 19 dMo_noSpec_8 (by decide) (fun h8 => ?_) (fun h8 => ?_)
  ·
    refine pm_wk [0, 1] rfl ?_
    exact Mo_noSpec_n19 g d ex R hR J _ _   _ _ _ (hp.1 h8) (ho.trans (by first | (simp only [fMo_noSpec, if_pos h8]; done) | (simp only [fMo_noSpec, if_pos h8]; with_reducible rfl) | with_reducible rfl)) (hz.trans (by first | (simp only [fMo_noSpec, if_pos h8]; done) | (simp only [fMo_noSpec, if_pos h8]; with_reducible rfl) | with_reducible rfl))
  ·
    refine pm_iload_n dMo_noSpec_11 rfl ?_
    refine pm_aload_n dMo_noSpec_12 rfl ?_
    refine pm_geti dMo_noSpec_13 fMo_92 rfl ?_
    refine pm_eqi (I 40 26) rfl ?_
    refine pm_icmp_lt 23 dMo_noSpec_16 (by decide) (fun h16 => ?_) (fun h16 => ?_)
    ·
      refine pm_iconst (v := 0) dMo_noSpec_23 (by decide) ?_
      refine pm_wk [0, 1] rfl ?_
      exact Mo_noSpec_n24 g d ex R hR J _ _   _ _ _ _ ((hp.2 h8).1 h16) (ho.trans (by first | (simp only [fMo_noSpec, if_neg h8, if_pos h16]; done) | (simp only [fMo_noSpec, if_neg h8, if_pos h16]; with_reducible rfl) | with_reducible rfl)) (hz.trans (by first | (simp only [fMo_noSpec, if_neg h8, if_pos h16]; done) | (simp only [fMo_noSpec, if_neg h8, if_pos h16]; with_reducible rfl) | with_reducible rfl))
    ·
      refine pm_wk [0, 1] rfl ?_
      exact Mo_noSpec_n19 g d ex R hR J _ _   _ _ _ ((hp.2 h8).2 h16) (ho.trans (by first | (simp only [fMo_noSpec, if_neg h8, if_neg h16]; done) | (simp only [fMo_noSpec, if_neg h8, if_neg h16]; with_reducible rfl) | with_reducible rfl)) (hz.trans (by first | (simp only [fMo_noSpec, if_neg h8, if_neg h16]; done) | (simp only [fMo_noSpec, if_neg h8, if_neg h16]; with_reducible rfl) | with_reducible rfl))
set_option maxHeartbeats 4000000 in
set_option maxRecDepth 100000 in
theorem Mo_noSpec_ok (g : pmG) (d : Nat) (ex : List (Nat × Nat)) (R : Nat → Nat → Value) (hR : mk_R R)  (x0 : Int32) (I : Nat → Nat → Int32) (J : Nat → Nat → Int64) (hp : pMo_noSpec x0 I) : pmC g kMo_noSpec (d + 1) 0 0 [.ref 40, .int x0] (mk_K ++ ex, R, I, J) (.returned (some (.int (fMo_noSpec x0 I).1))) (mk_K ++ ex, R, (fMo_noSpec x0 I).2, J) :=
  pmC.of (by decide) (Nat.le_of_ble_eq_true rfl) (Mo_noSpec_n0 g d ex R hR J _ _  x0 I hp rfl rfl)
def fMo_go_27  (y1 : Int32) (z0 : Int32) (I : Nat → Nat → Int32) : Int32 × (Nat → Nat → Int32) :=
  if z0 = 0 then (I 40 46, pm_u I 40 46 y1)
  else ((0 : Int32), I)
def pMo_go_27  (y1 : Int32) (z0 : Int32) (I : Nat → Nat → Int32) : Prop :=
  (z0 = 0 → True) ∧
  (¬ (z0 = 0) → True)
def fMo_go_24  (y1 : Int32) (z1 : Int32) (z2 : Int32) (I : Nat → Nat → Int32) : Int32 × (Nat → Nat → Int32) :=
  fMo_go_27 y1 ((fMo_refuse z1 z2 I).1) ((fMo_refuse z1 z2 I).2)
def pMo_go_24  (y1 : Int32) (z1 : Int32) (z2 : Int32) (I : Nat → Nat → Int32) : Prop :=
  (pMo_refuse z1 z2 I) ∧ (pMo_go_27 y1 ((fMo_refuse z1 z2 I).1) ((fMo_refuse z1 z2 I).2))
def fMo_go_19  (y1 : Int32) (z1 : Int32) (I : Nat → Nat → Int32) : Int32 × (Nat → Nat → Int32) :=
  fMo_go_24 y1 z1 (1 : Int32) I
def pMo_go_19  (y1 : Int32) (z1 : Int32) (I : Nat → Nat → Int32) : Prop :=
  pMo_go_24 y1 z1 (1 : Int32) I
def fMo_go  (y1 : Int32) (I : Nat → Nat → Int32) : Int32 × (Nat → Nat → Int32) :=
  if y1 < 0 then fMo_go_19 y1 (1 : Int32) (pm_u I 40 2 (0 : Int32))
  else if y1 < ((fMo_all (pm_u I 40 2 (0 : Int32)))) then fMo_go_24 y1 (1 : Int32) (0 : Int32) (pm_u I 40 2 (0 : Int32))
    else fMo_go_19 y1 (1 : Int32) (pm_u I 40 2 (0 : Int32))
def pMo_go  (y1 : Int32) (I : Nat → Nat → Int32) : Prop :=
  (y1 < 0 → pMo_go_19 y1 (1 : Int32) (pm_u I 40 2 (0 : Int32))) ∧
  (¬ (y1 < 0) → (pMo_all (pm_u I 40 2 (0 : Int32))) ∧ ((y1 < ((fMo_all (pm_u I 40 2 (0 : Int32)))) → pMo_go_24 y1 (1 : Int32) (0 : Int32) (pm_u I 40 2 (0 : Int32))) ∧
    (¬ (y1 < ((fMo_all (pm_u I 40 2 (0 : Int32))))) → pMo_go_19 y1 (1 : Int32) (pm_u I 40 2 (0 : Int32)))))
set_option maxHeartbeats 4000000 in
set_option maxRecDepth 100000 in
theorem Mo_go_n27 (g : pmG) (d : Nat) (ex : List (Nat × Nat)) (R : Nat → Nat → Value) (hR : mk_R R) (J : Nat → Nat → Int64) (o : Outcome) (Z : pmM)  (y1 : Int32) (z0 : Int32) (I : Nat → Nat → Int32) (hp : pMo_go_27 y1 z0 I) (ho : o = .returned (some (.int (fMo_go_27 y1 z0 I).1))) (hz : Z = (mk_K ++ ex, R, (fMo_go_27 y1 z0 I).2, J)) : pmE g kMo_go (d + 1) 0 0 27 [(0, .ref 40), (1, .int y1)] [.int z0] (mk_K ++ ex) R I J o Z := by
  unfold pMo_go_27 at hp
  refine pm_if_eq 32 dMo_go_27 (by decide) (fun h27 => ?_) (fun h27 => ?_)
  ·
    refine pm_aload_n dMo_go_32 rfl ?_
    refine pm_geti dMo_go_33 fMo_158 rfl ?_
    refine pm_istore_n dMo_go_36 (by decide) rfl ?_
    refine pm_aload_n dMo_go_37 rfl ?_
    refine pm_iload_n dMo_go_38 rfl ?_
    refine pm_puti dMo_go_39 fMo_158 sMo_158 (fun h => by cases h) rfl rfl rfl ?_
    refine pm_iload_n dMo_go_42 rfl ?_
    exact pm_iret dMo_go_43 rfl (ho.trans (by first | (simp only [fMo_go_27, if_pos h27]; done) | (simp only [fMo_go_27, if_pos h27]; with_reducible rfl) | with_reducible rfl)) (hz.trans (by first | (simp only [fMo_go_27, if_pos h27]; done) | (simp only [fMo_go_27, if_pos h27]; with_reducible rfl) | with_reducible rfl))
  ·
    refine pm_iconst (v := 0) dMo_go_30 (by decide) ?_
    exact pm_iret dMo_go_31 rfl (ho.trans (by first | (simp only [fMo_go_27, if_neg h27]; done) | (simp only [fMo_go_27, if_neg h27]; with_reducible rfl) | with_reducible rfl)) (hz.trans (by first | (simp only [fMo_go_27, if_neg h27]; done) | (simp only [fMo_go_27, if_neg h27]; with_reducible rfl) | with_reducible rfl))
set_option maxHeartbeats 4000000 in
set_option maxRecDepth 100000 in
theorem Mo_go_n24 (g : pmG) (d : Nat) (ex : List (Nat × Nat)) (R : Nat → Nat → Value) (hR : mk_R R) (J : Nat → Nat → Int64) (o : Outcome) (Z : pmM)  (y1 : Int32) (z1 : Int32) (z2 : Int32) (I : Nat → Nat → Int32) (hp : pMo_go_24 y1 z1 z2 I) (ho : o = .returned (some (.int (fMo_go_24 y1 z1 z2 I).1))) (hz : Z = (mk_K ++ ex, R, (fMo_go_24 y1 z1 z2 I).2, J)) : pmE g kMo_go (d + 1) 0 0 24 [(0, .ref 40), (1, .int y1)] [.int z2, .int z1, .ref 40] (mk_K ++ ex) R I J o Z := by
  unfold pMo_go_24 at hp
  refine pm_callV dMo_go_24 lMo_180 vMo_refuse ⟨_, _, rfl⟩ (Mo_refuse_ok _ _ _ _ hR _ _ _ _ hp.1) rfl rfl rfl (Nat.le_of_ble_eq_true rfl) (Nat.le_refl _) (Nat.le_refl _) ?_
  refine pm_wk [0, 1] rfl ?_
  exact Mo_go_n27 g d ex R hR J _ _   _ _ _ hp.2 (ho.trans (by first | (simp only [fMo_go_24]; done) | (simp only [fMo_go_24]; with_reducible rfl) | with_reducible rfl)) (hz.trans (by first | (simp only [fMo_go_24]; done) | (simp only [fMo_go_24]; with_reducible rfl) | with_reducible rfl))
set_option maxHeartbeats 4000000 in
set_option maxRecDepth 100000 in
theorem Mo_go_n19 (g : pmG) (d : Nat) (ex : List (Nat × Nat)) (R : Nat → Nat → Value) (hR : mk_R R) (J : Nat → Nat → Int64) (o : Outcome) (Z : pmM)  (y1 : Int32) (z1 : Int32) (I : Nat → Nat → Int32) (hp : pMo_go_19 y1 z1 I) (ho : o = .returned (some (.int (fMo_go_19 y1 z1 I).1))) (hz : Z = (mk_K ++ ex, R, (fMo_go_19 y1 z1 I).2, J)) : pmE g kMo_go (d + 1) 0 0 19 [(0, .ref 40), (1, .int y1)] [.int z1, .ref 40] (mk_K ++ ex) R I J o Z := by
  unfold pMo_go_19 at hp
  refine pm_iconst (v := 1) dMo_go_19 (by decide) ?_
  refine pm_goto 24 dMo_go_20 (by decide) ?_
  refine pm_wk [0, 1] rfl ?_
  exact Mo_go_n24 g d ex R hR J _ _   _ _ _ _ hp (ho.trans (by first | (simp only [fMo_go_19]; done) | (simp only [fMo_go_19]; with_reducible rfl) | with_reducible rfl)) (hz.trans (by first | (simp only [fMo_go_19]; done) | (simp only [fMo_go_19]; with_reducible rfl) | with_reducible rfl))
set_option maxHeartbeats 4000000 in
set_option maxRecDepth 100000 in
theorem Mo_go_n0 (g : pmG) (d : Nat) (ex : List (Nat × Nat)) (R : Nat → Nat → Value) (hR : mk_R R) (J : Nat → Nat → Int64) (o : Outcome) (Z : pmM)  (y1 : Int32) (I : Nat → Nat → Int32) (hp : pMo_go y1 I) (ho : o = .returned (some (.int (fMo_go y1 I).1))) (hz : Z = (mk_K ++ ex, R, (fMo_go y1 I).2, J)) : pmE g kMo_go (d + 1) 0 0 0 [(0, .ref 40), (1, .int y1)] [] (mk_K ++ ex) R I J o Z := by
  unfold pMo_go at hp
  refine pm_aload_n dMo_go_0 rfl ?_
  refine pm_iconst (v := 0) dMo_go_1 (by decide) ?_
  refine pm_puti dMo_go_2 fMo_18 sMo_18 (fun h => by cases h) rfl rfl rfl ?_
  refine pm_aload_n dMo_go_5 rfl ?_
  refine pm_iconst (v := 1) dMo_go_6 (by decide) ?_
  refine pm_iload_n dMo_go_7 rfl ?_
  refine pm_if_lt 19 dMo_go_8 (by decide) (fun h8 => ?_) (fun h8 => ?_)
  ·
    refine pm_wk [0, 1] rfl ?_
    exact Mo_go_n19 g d ex R hR J _ _   _ _ _ (hp.1 h8) (ho.trans (by first | (simp only [fMo_go, if_pos h8]; done) | (simp only [fMo_go, if_pos h8]; with_reducible rfl) | with_reducible rfl)) (hz.trans (by first | (simp only [fMo_go, if_pos h8]; done) | (simp only [fMo_go, if_pos h8]; with_reducible rfl) | with_reducible rfl))
  ·
    refine pm_iload_n dMo_go_11 rfl ?_
    refine pm_aload_n dMo_go_12 rfl ?_
    refine pm_callV dMo_go_13 lMo_345 vMo_all ⟨_, _, rfl⟩ (Mo_all_ok _ _ _ _ hR  _ _ (hp.2 h8).1) rfl rfl rfl (Nat.le_of_ble_eq_true rfl) (Nat.le_refl _) (Nat.le_refl _) ?_
    refine pm_icmp_lt 23 dMo_go_16 (by decide) (fun h16 => ?_) (fun h16 => ?_)
    ·
      refine pm_iconst (v := 0) dMo_go_23 (by decide) ?_
      refine pm_wk [0, 1] rfl ?_
      exact Mo_go_n24 g d ex R hR J _ _   _ _ _ _ ((hp.2 h8).2.1 h16) (ho.trans (by first | (simp only [fMo_go, if_neg h8, if_pos h16]; done) | (simp only [fMo_go, if_neg h8, if_pos h16]; with_reducible rfl) | with_reducible rfl)) (hz.trans (by first | (simp only [fMo_go, if_neg h8, if_pos h16]; done) | (simp only [fMo_go, if_neg h8, if_pos h16]; with_reducible rfl) | with_reducible rfl))
    ·
      refine pm_wk [0, 1] rfl ?_
      exact Mo_go_n19 g d ex R hR J _ _   _ _ _ ((hp.2 h8).2.2 h16) (ho.trans (by first | (simp only [fMo_go, if_neg h8, if_neg h16]; done) | (simp only [fMo_go, if_neg h8, if_neg h16]; with_reducible rfl) | with_reducible rfl)) (hz.trans (by first | (simp only [fMo_go, if_neg h8, if_neg h16]; done) | (simp only [fMo_go, if_neg h8, if_neg h16]; with_reducible rfl) | with_reducible rfl))
set_option maxHeartbeats 4000000 in
set_option maxRecDepth 100000 in
theorem Mo_go_ok (g : pmG) (d : Nat) (ex : List (Nat × Nat)) (R : Nat → Nat → Value) (hR : mk_R R)  (x0 : Int32) (I : Nat → Nat → Int32) (J : Nat → Nat → Int64) (hp : pMo_go x0 I) : pmC g kMo_go (d + 1) 0 0 [.ref 40, .int x0] (mk_K ++ ex, R, I, J) (.returned (some (.int (fMo_go x0 I).1))) (mk_K ++ ex, R, (fMo_go x0 I).2, J) :=
  pmC.of (by decide) (Nat.le_of_ble_eq_true rfl) (Mo_go_n0 g d ex R hR J _ _  x0 I hp rfl rfl)
def fMo_count  (y1 : Int32) (I : Nat → Nat → Int32) : Int32 × (Nat → Nat → Int32) :=
  if y1 = 0 then (I 40 26, pm_u I 40 2 (0 : Int32))
  else if y1 = 1 then (I 40 16, pm_u I 40 2 (0 : Int32))
  else if y1 = 2 then (I 40 27, pm_u I 40 2 (0 : Int32))
  else if y1 = 3 then (I 40 28, pm_u I 40 2 (0 : Int32))
  else if y1 = 4 then (I 40 11, pm_u I 40 2 (0 : Int32))
  else if y1 = 5 then (I 40 1, pm_u I 40 2 (0 : Int32))
  else if y1 = 6 then (I 40 46, pm_u I 40 2 (0 : Int32))
  else if y1 = 7 then (I 40 51, pm_u I 40 2 (0 : Int32))
  else ((-1 : Int32), pm_u I 40 2 (0 : Int32))
def pMo_count  (y1 : Int32) (I : Nat → Nat → Int32) : Prop :=
  (y1 = 0 → True) ∧
  (¬ (y1 = 0) → (y1 = 1 → True) ∧
  (¬ (y1 = 1) → (y1 = 2 → True) ∧
  (¬ (y1 = 2) → (y1 = 3 → True) ∧
  (¬ (y1 = 3) → (y1 = 4 → True) ∧
  (¬ (y1 = 4) → (y1 = 5 → True) ∧
  (¬ (y1 = 5) → (y1 = 6 → True) ∧
  (¬ (y1 = 6) → (y1 = 7 → True) ∧
  (¬ (y1 = 7) → True))))))))
set_option maxHeartbeats 4000000 in
set_option maxRecDepth 100000 in
theorem Mo_count_n0 (g : pmG) (d : Nat) (ex : List (Nat × Nat)) (R : Nat → Nat → Value) (hR : mk_R R) (J : Nat → Nat → Int64) (o : Outcome) (Z : pmM)  (y1 : Int32) (I : Nat → Nat → Int32) (hp : pMo_count y1 I) (ho : o = .returned (some (.int (fMo_count y1 I).1))) (hz : Z = (mk_K ++ ex, R, (fMo_count y1 I).2, J)) : pmE g kMo_count d 0 0 0 [(0, .ref 40), (1, .int y1)] [] (mk_K ++ ex) R I J o Z := by
  unfold pMo_count at hp
  refine pm_aload_n dMo_count_0 rfl ?_
  refine pm_iconst (v := 0) dMo_count_1 (by decide) ?_
  refine pm_puti dMo_count_2 fMo_18 sMo_18 (fun h => by cases h) rfl rfl rfl ?_
  refine pm_iload_n dMo_count_5 rfl ?_
  by_cases h6_0 : y1 = 0
  ·
    refine pm_tableIn 52 dMo_count_6 (by rw [h6_0]; decide) (by rw [h6_0]; decide) (by first | (rw [h6_0]; rfl) | rw [h6_0]) (by decide) ?_
    refine pm_aload_n dMo_count_52 rfl ?_
    refine pm_geti dMo_count_53 fMo_92 rfl ?_
    refine pm_eqi (I 40 26) rfl ?_
    exact pm_iret dMo_count_56 rfl (ho.trans (by first | (simp only [fMo_count, if_pos h6_0]; done) | (simp only [fMo_count, if_pos h6_0]; with_reducible rfl) | with_reducible rfl)) (hz.trans (by first | (simp only [fMo_count, if_pos h6_0]; done) | (simp only [fMo_count, if_pos h6_0]; with_reducible rfl) | with_reducible rfl))
  ·
    by_cases h6_1 : y1 = 1
    ·
      refine pm_tableIn 57 dMo_count_6 (by rw [h6_1]; decide) (by rw [h6_1]; decide) (by first | (rw [h6_1]; rfl) | rw [h6_1]) (by decide) ?_
      refine pm_aload_n dMo_count_57 rfl ?_
      refine pm_geti dMo_count_58 fMo_62 rfl ?_
      refine pm_eqi (I 40 16) rfl ?_
      exact pm_iret dMo_count_61 rfl (ho.trans (by first | (simp only [fMo_count, if_neg h6_0, if_pos h6_1]; done) | (simp only [fMo_count, if_neg h6_0, if_pos h6_1]; with_reducible rfl) | with_reducible rfl)) (hz.trans (by first | (simp only [fMo_count, if_neg h6_0, if_pos h6_1]; done) | (simp only [fMo_count, if_neg h6_0, if_pos h6_1]; with_reducible rfl) | with_reducible rfl))
    ·
      by_cases h6_2 : y1 = 2
      ·
        refine pm_tableIn 62 dMo_count_6 (by rw [h6_2]; decide) (by rw [h6_2]; decide) (by first | (rw [h6_2]; rfl) | rw [h6_2]) (by decide) ?_
        refine pm_aload_n dMo_count_62 rfl ?_
        refine pm_geti dMo_count_63 fMo_95 rfl ?_
        refine pm_eqi (I 40 27) rfl ?_
        exact pm_iret dMo_count_66 rfl (ho.trans (by first | (simp only [fMo_count, if_neg h6_0, if_neg h6_1, if_pos h6_2]; done) | (simp only [fMo_count, if_neg h6_0, if_neg h6_1, if_pos h6_2]; with_reducible rfl) | with_reducible rfl)) (hz.trans (by first | (simp only [fMo_count, if_neg h6_0, if_neg h6_1, if_pos h6_2]; done) | (simp only [fMo_count, if_neg h6_0, if_neg h6_1, if_pos h6_2]; with_reducible rfl) | with_reducible rfl))
      ·
        by_cases h6_3 : y1 = 3
        ·
          refine pm_tableIn 67 dMo_count_6 (by rw [h6_3]; decide) (by rw [h6_3]; decide) (by first | (rw [h6_3]; rfl) | rw [h6_3]) (by decide) ?_
          refine pm_aload_n dMo_count_67 rfl ?_
          refine pm_geti dMo_count_68 fMo_98 rfl ?_
          refine pm_eqi (I 40 28) rfl ?_
          exact pm_iret dMo_count_71 rfl (ho.trans (by first | (simp only [fMo_count, if_neg h6_0, if_neg h6_1, if_neg h6_2, if_pos h6_3]; done) | (simp only [fMo_count, if_neg h6_0, if_neg h6_1, if_neg h6_2, if_pos h6_3]; with_reducible rfl) | with_reducible rfl)) (hz.trans (by first | (simp only [fMo_count, if_neg h6_0, if_neg h6_1, if_neg h6_2, if_pos h6_3]; done) | (simp only [fMo_count, if_neg h6_0, if_neg h6_1, if_neg h6_2, if_pos h6_3]; with_reducible rfl) | with_reducible rfl))
        ·
          by_cases h6_4 : y1 = 4
          ·
            refine pm_tableIn 72 dMo_count_6 (by rw [h6_4]; decide) (by rw [h6_4]; decide) (by first | (rw [h6_4]; rfl) | rw [h6_4]) (by decide) ?_
            refine pm_aload_n dMo_count_72 rfl ?_
            refine pm_geti dMo_count_73 fMo_46 rfl ?_
            refine pm_eqi (I 40 11) rfl ?_
            exact pm_iret dMo_count_76 rfl (ho.trans (by first | (simp only [fMo_count, if_neg h6_0, if_neg h6_1, if_neg h6_2, if_neg h6_3, if_pos h6_4]; done) | (simp only [fMo_count, if_neg h6_0, if_neg h6_1, if_neg h6_2, if_neg h6_3, if_pos h6_4]; with_reducible rfl) | with_reducible rfl)) (hz.trans (by first | (simp only [fMo_count, if_neg h6_0, if_neg h6_1, if_neg h6_2, if_neg h6_3, if_pos h6_4]; done) | (simp only [fMo_count, if_neg h6_0, if_neg h6_1, if_neg h6_2, if_neg h6_3, if_pos h6_4]; with_reducible rfl) | with_reducible rfl))
          ·
            by_cases h6_5 : y1 = 5
            ·
              refine pm_tableIn 77 dMo_count_6 (by rw [h6_5]; decide) (by rw [h6_5]; decide) (by first | (rw [h6_5]; rfl) | rw [h6_5]) (by decide) ?_
              refine pm_aload_n dMo_count_77 rfl ?_
              refine pm_geti dMo_count_78 fMo_14 rfl ?_
              refine pm_eqi (I 40 1) rfl ?_
              exact pm_iret dMo_count_81 rfl (ho.trans (by first | (simp only [fMo_count, if_neg h6_0, if_neg h6_1, if_neg h6_2, if_neg h6_3, if_neg h6_4, if_pos h6_5]; done) | (simp only [fMo_count, if_neg h6_0, if_neg h6_1, if_neg h6_2, if_neg h6_3, if_neg h6_4, if_pos h6_5]; with_reducible rfl) | with_reducible rfl)) (hz.trans (by first | (simp only [fMo_count, if_neg h6_0, if_neg h6_1, if_neg h6_2, if_neg h6_3, if_neg h6_4, if_pos h6_5]; done) | (simp only [fMo_count, if_neg h6_0, if_neg h6_1, if_neg h6_2, if_neg h6_3, if_neg h6_4, if_pos h6_5]; with_reducible rfl) | with_reducible rfl))
            ·
              by_cases h6_6 : y1 = 6
              ·
                refine pm_tableIn 82 dMo_count_6 (by rw [h6_6]; decide) (by rw [h6_6]; decide) (by first | (rw [h6_6]; rfl) | rw [h6_6]) (by decide) ?_
                refine pm_aload_n dMo_count_82 rfl ?_
                refine pm_geti dMo_count_83 fMo_158 rfl ?_
                refine pm_eqi (I 40 46) rfl ?_
                exact pm_iret dMo_count_86 rfl (ho.trans (by first | (simp only [fMo_count, if_neg h6_0, if_neg h6_1, if_neg h6_2, if_neg h6_3, if_neg h6_4, if_neg h6_5, if_pos h6_6]; done) | (simp only [fMo_count, if_neg h6_0, if_neg h6_1, if_neg h6_2, if_neg h6_3, if_neg h6_4, if_neg h6_5, if_pos h6_6]; with_reducible rfl) | with_reducible rfl)) (hz.trans (by first | (simp only [fMo_count, if_neg h6_0, if_neg h6_1, if_neg h6_2, if_neg h6_3, if_neg h6_4, if_neg h6_5, if_pos h6_6]; done) | (simp only [fMo_count, if_neg h6_0, if_neg h6_1, if_neg h6_2, if_neg h6_3, if_neg h6_4, if_neg h6_5, if_pos h6_6]; with_reducible rfl) | with_reducible rfl))
              ·
                by_cases h6_7 : y1 = 7
                ·
                  refine pm_tableIn 87 dMo_count_6 (by rw [h6_7]; decide) (by rw [h6_7]; decide) (by first | (rw [h6_7]; rfl) | rw [h6_7]) (by decide) ?_
                  refine pm_aload_n dMo_count_87 rfl ?_
                  refine pm_geti dMo_count_88 fMo_173 rfl ?_
                  refine pm_eqi (I 40 51) rfl ?_
                  exact pm_iret dMo_count_91 rfl (ho.trans (by first | (simp only [fMo_count, if_neg h6_0, if_neg h6_1, if_neg h6_2, if_neg h6_3, if_neg h6_4, if_neg h6_5, if_neg h6_6, if_pos h6_7]; done) | (simp only [fMo_count, if_neg h6_0, if_neg h6_1, if_neg h6_2, if_neg h6_3, if_neg h6_4, if_neg h6_5, if_neg h6_6, if_pos h6_7]; with_reducible rfl) | with_reducible rfl)) (hz.trans (by first | (simp only [fMo_count, if_neg h6_0, if_neg h6_1, if_neg h6_2, if_neg h6_3, if_neg h6_4, if_neg h6_5, if_neg h6_6, if_pos h6_7]; done) | (simp only [fMo_count, if_neg h6_0, if_neg h6_1, if_neg h6_2, if_neg h6_3, if_neg h6_4, if_neg h6_5, if_neg h6_6, if_pos h6_7]; with_reducible rfl) | with_reducible rfl))
                ·
                  refine pm_tableOut 92 dMo_count_6 (pm_out (fun q9 k1 k2 => by
                    have : q9 = 0 ∨ q9 = 1 ∨ q9 = 2 ∨ q9 = 3 ∨ q9 = 4 ∨ q9 = 5 ∨ q9 = 6 ∨ q9 = 7 := by omega
                    rcases this with rfl | rfl | rfl | rfl | rfl | rfl | rfl | rfl
                    · exact h6_0
                    · exact h6_1
                    · exact h6_2
                    · exact h6_3
                    · exact h6_4
                    · exact h6_5
                    · exact h6_6
                    · exact h6_7
                    )) (by decide) ?_
                  refine pm_iconst (v := (-1)) dMo_count_92 (by decide) ?_
                  exact pm_iret dMo_count_93 rfl (ho.trans (by first | (simp only [fMo_count, if_neg h6_0, if_neg h6_1, if_neg h6_2, if_neg h6_3, if_neg h6_4, if_neg h6_5, if_neg h6_6, if_neg h6_7]; done) | (simp only [fMo_count, if_neg h6_0, if_neg h6_1, if_neg h6_2, if_neg h6_3, if_neg h6_4, if_neg h6_5, if_neg h6_6, if_neg h6_7]; with_reducible rfl) | with_reducible rfl)) (hz.trans (by first | (simp only [fMo_count, if_neg h6_0, if_neg h6_1, if_neg h6_2, if_neg h6_3, if_neg h6_4, if_neg h6_5, if_neg h6_6, if_neg h6_7]; done) | (simp only [fMo_count, if_neg h6_0, if_neg h6_1, if_neg h6_2, if_neg h6_3, if_neg h6_4, if_neg h6_5, if_neg h6_6, if_neg h6_7]; with_reducible rfl) | with_reducible rfl))
set_option maxHeartbeats 4000000 in
set_option maxRecDepth 100000 in
theorem Mo_count_ok (g : pmG) (d : Nat) (ex : List (Nat × Nat)) (R : Nat → Nat → Value) (hR : mk_R R)  (x0 : Int32) (I : Nat → Nat → Int32) (J : Nat → Nat → Int64) (hp : pMo_count x0 I) : pmC g kMo_count d 0 0 [.ref 40, .int x0] (mk_K ++ ex, R, I, J) (.returned (some (.int (fMo_count x0 I).1))) (mk_K ++ ex, R, (fMo_count x0 I).2, J) :=
  pmC.of (by decide) (Nat.le_of_ble_eq_true rfl) (Mo_count_n0 g d ex R hR J _ _  x0 I hp rfl rfl)
