/-! PARSE 5 (code 10) -/
section
variable {A : Mm} {J : Ml} {T : TT} {n : Nat}
theorem cS_num_F {i co : Nat} {W : List Nat} {C : Cd} {I : Mm} (hT : tEnd T n) (hM : tMem A T n) (h : cS A 10 i W C co I) (hi : i < n) (hk : T.1 i = 44) (hW : W.length ≤ 125) (hC : C.length < 4000) : (pRd_readNumber 0 255 I J ∧ pCo_add_F 44 (fRd_readNumber 0 255 I J).1 (fRd_readNumber 0 255 I J).2 J) ∧ ER A 10 W C (if T.2.1 i ≤ 255 then sp_ok (i + 1) co [(44, T.2.1 i)] else sp_fail 3 i) (fCo_add_F 44 (fRd_readNumber 0 255 I J).1 (fRd_readNumber 0 255 I J).2 J) := by
  have e3 := cS_kind hM h hi
  have f5 := fr_5 (Or.inr rfl) h.1
  have h2 := h.2.2.1
  have hn := hT.2.1
  have mv := hM.2.2.1 i hi hk
  have e44 : I 13 3 = (44 : Int32) := by rw [e3, hk]; rfl
  have ev : I 21 (I 13 2).toNatClampNeg = nI (T.2.1 i) := by rw [h2, nI_clamp (by omega), f5.2.2.2.2.1]; exact mv.1
  have c0 : ¬ nI (T.2.1 i) < 0 := nI_pos (by omega)
  have v2 : vp_in (I 13 2) 4001 := by rw [h2]; exact vp_in_nI (by omega) (by decide)
  have adv := cS_adv (J := J) (Or.inr rfl) hT hM h hi (by omega)
  have hl := cS_halt (J := J) (Or.inr rfl) h (by omega) hW (by omega) (e := 3) (by decide) (by decide)
  by_cases c : T.2.1 i ≤ 255
  · have c2 : nI (T.2.1 i) ≤ (255 : Int32) := nI_le (a := T.2.1 i) (b := 255) c (by decide)
    have ad := cS_add_F (J := J) adv.2 hC 44 (T.2.1 i)
    have e : fRd_readNumber 0 255 I J = (nI (T.2.1 i), fRd_advance I J) := by
      unfold fRd_readNumber fRd_readNumber_49
      rw [if_pos e44, ev, if_neg c0, if_pos c2]
    rw [if_pos c, e]
    refine ⟨⟨?_, ad.1⟩, ER_ok ad.2⟩
    unfold pRd_readNumber
    rw [ev]
    exact ⟨fun _ => ⟨v2, fun q => absurd q c0, fun _ => ⟨fun _ => ⟨adv.1, trivial⟩, fun q => absurd c2 q⟩⟩, fun q => absurd e44 q⟩
  · have c2 : ¬ nI (T.2.1 i) ≤ (255 : Int32) := nI_ge (a := 255) (b := T.2.1 i) (by omega) (by omega)
    have ad := cB_add_F (J := J) hl.2 44 0
    have e : fRd_readNumber 0 255 I J = (0, fRd_halt 3 I J) := by
      unfold fRd_readNumber fRd_readNumber_38 fRd_readNumber_43
      rw [if_pos e44, ev, if_neg c0, if_neg c2]
    rw [if_neg c, e]
    refine ⟨⟨?_, ad.1⟩, ER_f (by decide) ad.2⟩
    unfold pRd_readNumber pRd_readNumber_38
    rw [ev]
    exact ⟨fun _ => ⟨v2, fun q => absurd q c0, fun _ => ⟨fun q => absurd q c2, fun _ => ⟨hl.1, trivial⟩⟩⟩, fun q => absurd e44 q⟩
theorem cS_nam_F {i co : Nat} {W : List Nat} {C : Cd} {I : Mm} (hT : tEnd T n) (hM : tMem A T n) (hF : fMem A T n) (h : cS A 10 i W C co I) (hi : i < n) (hk : T.1 i = 43) (hW : W.length ≤ 125) (hC : C.length < 4000) : pRd_readKnownName_F 0 I J ∧ ER A 10 W C (sp_named T i co) (fRd_readKnownName_F 0 I J) := by
  have f5 := fr_5 (Or.inr rfl) h.1
  have hn := hT.2.1
  have fm := hF I J i hi hk f5.2.2.2.2.2.2.2.2.2.2 f5.2.2.2.2.2.1 h.2.2.1 f5.2.2.1 f5.2.2.2.1 f5.2.2.2.2.2.2.2.2.1
  have hl := cS_halt (J := J) (Or.inr rfl) h (by omega) hW (by omega) (e := 2) (by decide) (by decide)
  unfold pRd_readKnownName_F fRd_readKnownName_F pRd_readKnownName_F_28 fRd_readKnownName_F_28 pRd_readKnownName_F_32 fRd_readKnownName_F_32 pRd_readKnownName_F_73 fRd_readKnownName_F_73 sp_named
  cases ho : T.2.2.1 i with
  | none =>
    have e := fm.2.2 ho
    have c : (-1 : Int32) < 0 := by decide
    rw [e]
    exact sq fm.1 (itp c (sqt ⟨hl.1, ER_f (by decide) hl.2⟩))
  | some k =>
    obtain ⟨e, k60, e4, k50, -⟩ := fm.2.1 k ho
    have c : ¬ nI k < 0 := nI_pos (by omega)
    have v : vp_in (nI k) 60 := vp_in_nI k60 (by decide)
    rw [e]
    refine sq fm.1 (itn c (sq v ?_))
    rw [nI_clamp (by omega), f5.2.2.2.2.2.2.1, e4]
    by_cases h33 : T.2.2.2.1 k = 33
    · have c3 : nI (T.2.2.2.1 k) = (33 : Int32) := by rw [h33]; rfl
      try dsimp only
      rw [if_pos h33]
      exact itp c3 (itn (by decide) (sqt ⟨hl.1, ER_f (by decide) hl.2⟩))
    · have c3 : ¬ nI (T.2.2.2.1 k) = (33 : Int32) := fun q => h33 ((nI_eq (a := T.2.2.2.1 k) (b := 33) (by omega) (by decide)).mp q)
      have ad := cS_add_F (J := J) h hC 43 k
      have adv := cS_adv (J := J) (Or.inr rfl) hT hM ad.2 hi (by omega)
      try dsimp only
      rw [if_neg h33]
      exact itn c3 (itp rfl (itp rfl (sq ad.1 (sqt ⟨adv.1, ER_ok adv.2⟩))))
def HX_F (A : Mm) (J : Ml) (T : TT) (n m : Nat) : Prop := ∀ (d i co mc : Nat) (I : Mm) (W : List Nat) (C : Cd), d ≤ 41 → 3 * (41 - d) + 3 ≤ mc → i < n → co ≤ 3000 → 24 * W.length ≤ co → C.length + W.length ≤ i → (sp_E T m 0 0 d i co).1 ≠ 9 → cS A 10 i W C co I → ge_F_Q mc 0 (nI d) 0 I J ∧ ER A 10 W C (sp_E T m 0 0 d i co) (ge_F_F mc 0 (nI d) 0 I J)
def HU_F (A : Mm) (J : Ml) (T : TT) (n m : Nat) : Prop := ∀ (d i co mc : Nat) (I : Mm) (W : List Nat) (C : Cd), d ≤ 41 → 3 * (41 - d) + 1 ≤ mc → i < n → co ≤ 3000 → 24 * W.length ≤ co → C.length + W.length ≤ i → (sp_E T m 2 0 d i co).1 ≠ 9 → cS A 10 i W C co I → ge_F_Q mc 2 (nI d) 0 I J ∧ ER A 10 W C (sp_E T m 2 0 d i co) (ge_F_F mc 2 (nI d) 0 I J)
/-- what stands behind a chain's end: signs V wait for their second operand, which is there -/
def HK_F (A : Mm) (J : Ml) (T : TT) (mc d b l : Nat) (W : List Nat) (C : Cd) (Q : Mm → Prop) (r : SR) : Prop := r.1 = 0 → ∀ (I' : Mm) (V : List Nat) (C1 : Cd) (n' y' : Nat), cS A 10 r.2.2.1 (V ++ W) (C ++ C1) r.2.2.2.1 I' → C1 ++ V.map (fun k => (k, 0)) = r.2.2.2.2 → (∀ k ∈ V, l + 1 ≤ tyt k) → tyt (T.1 r.2.2.1) ≤ l → n' + y' = 4002 → y' ≤ r.2.2.1 → 24 * (V.length + W.length) ≤ r.2.2.2.1 → pRd_readOperands_F_12 (ge_F_F mc) (ge_F_Q mc) n' (nI d) (nI b) (nI y') I' J ∧ Q (fRd_readOperands_F_12 (ge_F_F mc) n' (nI d) (nI b) (nI y') I' J)
def HC_F (A : Mm) (J : Ml) (T : TT) (n m : Nat) : Prop := ∀ (l d i co mc b n' y' : Nat) (I : Mm) (W : List Nat) (C : Cd) (Q : Mm → Prop), l ≤ 10 → d ≤ 41 → 3 * (41 - d) + 1 ≤ mc → i < n → co ≤ 3000 → 24 * W.length ≤ co → C.length + W.length ≤ i → (sp_E T m 1 l d i co).1 ≠ 9 → cS A 10 i W C co I → b ≤ W.length → (W.length = b ∨ ∃ k W', W = k :: W' ∧ tyt k ≤ l) → n' + y' = 4002 → y' ≤ i → HK_F A J T mc d b l W C Q (sp_E T m 1 l d i co) → ((sp_E T m 1 l d i co).1 ≠ 0 → ∀ I', cB A 10 (sp_E T m 1 l d i co).1 (sp_E T m 1 l d i co).2.1 I' → Q I') → (ge_F_Q mc 2 (nI d) 0 I J ∧ pRd_readOperands_F_12 (ge_F_F mc) (ge_F_Q mc) n' (nI d) (nI b) (nI y') (ge_F_F mc 2 (nI d) 0 I J) J) ∧ Q (fRd_readOperands_F_12 (ge_F_F mc) n' (nI d) (nI b) (nI y') (ge_F_F mc 2 (nI d) 0 I J) J)
theorem cA_F {m : Nat} (hT : tEnd T n) (hM : tMem A T n) (hu : HU_F A J T n m) {d i co mc : Nat} {I : Mm} {W : List Nat} {C : Cd} (o p : Nat) (hp9 : p ≤ 1000) (hd : d ≤ 40) (hmc : 3 * (41 - (d + 1)) + 1 ≤ mc) (hi : i < n) (hk : T.1 i < 29) (hc : cst (T.1 i) = p) (hco : co ≤ 3000) (hW : 24 * W.length ≤ co) (hC : C.length + W.length ≤ i) (h : cS A 10 i W C co I) (h9 : (sp_pay i co p (fun co => sp_b (sp_E T m 2 0 (d + 1) (i + 1) co) (fun j c C => sp_ok j c (C ++ [(o, 0)])))).1 ≠ 9) : ge_F_Q (mc + 1) 3 (nI o) (nI d) I J ∧ ER A 10 W C (sp_pay i co p (fun co => sp_b (sp_E T m 2 0 (d + 1) (i + 1) co) (fun j c C => sp_ok j c (C ++ [(o, 0)])))) (ge_F_F (mc + 1) 3 (nI o) (nI d) I J) := by
  have hn := hT.2.1
  have mc1 : ∃ mc', mc = mc' + 1 := ⟨mc - 1, by omega⟩
  unfold sp_pay at h9 ⊢
  by_cases hp : co + p ≤ 3000
  · rw [if_pos hp] at h9 ⊢
    try dsimp only at h9 ⊢
    have c := cS_chg0 (J := J) (Or.inr rfl) h hp
    rw [← hc] at c
    have s := cS_sgn (J := J) hM h hi hk c
    rw [hc] at s
    have a := cS_adv (J := J) (Or.inr rfl) hT hM s.2 hi (by omega)
    have si := tEnd_s hT hi (by omega)
    have u9 : (sp_E T m 2 0 (d + 1) (i + 1) (co + p)).1 ≠ 9 := by
      intro q
      rw [sp_b1 (by rw [q]; decide)] at h9
      exact h9 q
    have u := hu (d + 1) (i + 1) (co + p) mc _ W C (by omega) hmc si hp (by omega) (by omega) u9 a.2
    have ln := sp_len hT m 2 0 (d + 1) (i + 1) (co + p) si hp
    rw [geQ3_F, geF3_F]
    unfold pRd_readAltered_F fRd_readAltered_F pRd_readAltered_F_4 fRd_readAltered_F_4
    refine sq s.1 (sq a.1 ?_)
    unfold pRd_readAltered_F_8 fRd_readAltered_F_8
    rw [nI_1]
    refine sq u.1 ?_
    by_cases e1 : (sp_E T m 2 0 (d + 1) (i + 1) (co + p)).1 = 0
    · have l1 := ln e1
      rw [sp_b0 e1]
      try dsimp only
      have ad := cS_add_F (J := J) (u.2.1 e1) (by rw [List.length_append]; omega) o 0
      rw [List.append_assoc] at ad
      exact sqt ⟨ad.1, ER_ok ad.2⟩
    · rw [sp_b1 e1]
      have ad := cB_add_F (J := J) (u.2.2 e1) (nI o) 0
      exact sqt ⟨ad.1, ER_b e1 ad.2⟩
  · rw [if_neg hp]
    have c := cS_chg1 (J := J) (Or.inr rfl) h (by omega) (by omega) (by omega) hp (by omega)
    rw [← hc] at c
    have s := cS_sgn (J := J) hM h hi hk c
    obtain ⟨mc', rfl⟩ := mc1
    have a := cB_adv (J := J) s.2
    have u := cB_U_F (J := J) mc' (nI d + 1) s.2
    have ad := cB_add_F (J := J) u.2 (nI o) 0
    rw [geQ3_F, geF3_F]
    unfold pRd_readAltered_F fRd_readAltered_F pRd_readAltered_F_4 fRd_readAltered_F_4
    refine sq s.1 (sq a.1 ?_)
    rw [a.2]
    exact sq u.1 (sqt ⟨ad.1, ER_f (by decide) ad.2⟩)
theorem cU_F {m : Nat} (hT : tEnd T n) (hM : tMem A T n) (hF : fMem A T n) (hx : HX_F A J T n m) (hu : HU_F A J T n m) : HU_F A J T n (m + 1) := by
  intro d i co mc I W C hd hmc hi hco hW hC h9 h
  have hn := hT.2.1
  obtain ⟨mc, rfl⟩ : ∃ mc', mc = mc' + 1 := ⟨mc - 1, by omega⟩
  have es : sp_E T (m + 1) 2 0 d i co = sp_unary T (sp_E T m) d i co := rfl
  rw [es] at h9 ⊢
  rw [geQ2_F, geF2_F]
  unfold pRd_readUnary_F fRd_readUnary_F
  unfold sp_unary at h9 ⊢
  by_cases hdd : 40 < d
  · rw [if_pos hdd]
    have z := cS_deep1 (J := J) (Or.inr rfl) h (by omega) (by omega) (by omega) hdd (by omega)
    refine sq z.1 ?_
    unfold pRd_readUnary_F_5 fRd_readUnary_F_5
    rw [z.2.1]
    exact itn (by decide) ⟨trivial, ER_f (by decide) z.2.2⟩
  rw [if_neg hdd] at h9 ⊢
  have z := cS_deep0 (J := J) h hdd
  refine sq z.1 ?_
  rw [z.2]
  dsimp only
  unfold pRd_readUnary_F_5 fRd_readUnary_F_5
  refine itp rfl ?_
  have e3 := cS_kind hM h hi
  have k48 := hT.2.2.1 i hi
  have nk : ∀ s : Nat, s < 48 → ¬ T.1 i = s → ¬ I 13 3 = nI s := fun s hs hne q => hne ((nI_eq (by omega) (by omega)).mp (e3.symm.trans q))
  by_cases k4 : T.1 i = 4
  · rw [if_pos k4] at h9 ⊢
    have a := cS_adv (J := J) (Or.inr rfl) hT hM h hi (by omega)
    have si := tEnd_s hT hi (by omega)
    have u9 : (sp_E T m 0 0 (d + 1) (i + 1) co).1 ≠ 9 := by
      intro q
      rw [sp_b1 (by rw [q]; decide)] at h9
      exact h9 q
    have u := hx (d + 1) (i + 1) co mc _ W C (by omega) (by omega) si hco hW (by omega) u9 a.2
    have ln := sp_len hT m 0 0 (d + 1) (i + 1) co si hco
    refine itp (by rw [e3, k4]; rfl) (sq a.1 ?_)
    unfold pRd_readUnary_F_106 fRd_readUnary_F_106
    rw [nI_1]
    refine sq u.1 ?_
    by_cases e1 : (sp_E T m 0 0 (d + 1) (i + 1) co).1 = 0
    · have l1 := ln e1
      have u1 := u.2.1 e1
      rw [sp_b0 e1]
      try dsimp only
      unfold sp_ex
      by_cases k5 : T.1 (sp_E T m 0 0 (d + 1) (i + 1) co).2.2.1 = 5
      · rw [if_pos k5]
        have x := cS_ex1 (J := J) (Or.inr rfl) hT hM u1 l1.2.2.1 (s := 5) (by decide) k5
        exact sq x.1 ⟨trivial, ER_ok x.2.2⟩
      · rw [if_neg k5]
        have x := cS_ex0 (J := J) (Or.inr rfl) hT hM u1 l1.2.2.1 (by omega) (by rw [List.length_append]; omega) (s := 5) (by decide) k5
        exact sq x.1 ⟨trivial, ER_b (sp_no1 _ _) x.2.2⟩
    · rw [sp_b1 e1]
      have x := cB_ex (J := J) (Or.inr rfl) (u.2.2 e1) (s := 5) (by decide)
      exact sq x.1 ⟨trivial, ER_b e1 x.2.2⟩
  rw [if_neg k4] at h9 ⊢
  refine itn (nk 4 (by decide) k4) ?_
  obtain ⟨mc, rfl⟩ : ∃ mc', mc = mc' + 1 := ⟨mc - 1, by omega⟩
  by_cases k13 : T.1 i = 13
  · rw [if_pos k13] at h9 ⊢
    have a := cA_F (mc := mc) hT hM hu 49 96 (by decide) (by omega) (by omega) hi (by omega) (by rw [k13]; rfl) hco hW hC h h9
    exact itp (by rw [e3, k13]; rfl) (sq a.1 ⟨trivial, a.2⟩)
  rw [if_neg k13] at h9 ⊢
  refine itn (nk 13 (by decide) k13) ?_
  by_cases k18 : T.1 i = 18
  · rw [if_pos k18] at h9 ⊢
    have a := cA_F (mc := mc) hT hM hu 18 0 (by decide) (by omega) (by omega) hi (by omega) (by rw [k18]; rfl) hco hW hC h h9
    exact itp (by rw [e3, k18]; rfl) (sq a.1 ⟨trivial, a.2⟩)
  rw [if_neg k18] at h9 ⊢
  refine itn (nk 18 (by decide) k18) ?_
  by_cases k19 : T.1 i = 19
  · rw [if_pos k19] at h9 ⊢
    have a := cA_F (mc := mc) hT hM hu 19 24 (by decide) (by omega) (by omega) hi (by omega) (by rw [k19]; rfl) hco hW hC h h9
    exact itp (by rw [e3, k19]; rfl) (sq a.1 ⟨trivial, a.2⟩)
  rw [if_neg k19] at h9 ⊢
  refine itn (nk 19 (by decide) k19) ?_
  by_cases k43 : T.1 i = 43
  · rw [if_pos k43] at h9 ⊢
    have si := tEnd_s hT hi (by omega)
    have a := cS_nam_F (J := J) hT hM hF h hi k43 (by omega) (by omega)
    exact itp (by rw [e3, k43]; rfl) (sq a.1 ⟨trivial, a.2⟩)
  rw [if_neg k43] at h9 ⊢
  refine itn (nk 43 (by decide) k43) ?_
  by_cases k44 : T.1 i = 44
  · rw [if_pos k44] at h9 ⊢
    have si := tEnd_s hT hi (by omega)
    have a := cS_num_F (J := J) hT hM h hi k44 (by omega) (by omega)
    exact itp (by rw [e3, k44]; rfl) (sq a.1.1 (sq a.1.2 ⟨trivial, a.2⟩))
  rw [if_neg k44]
  have r := cS_refuse (J := J) (Or.inr rfl) hT hM h hi (by omega) (by omega)
  exact itn (nk 44 (by decide) k44) (sqt ⟨r.1, ER_b (sp_no1 _ _) r.2⟩)
theorem cC_F {m : Nat} (hT : tEnd T n) (hM : tMem A T n) (hu : HU_F A J T n m) (hc : HC_F A J T n m) : HC_F A J T n (m + 1) := by
  intro l d i co mc b n' y' I W C Q hl hd hmc hi hco hW hC h9 h hb ht hny hyi hk hbad
  have hn := hT.2.1
  have es : sp_E T (m + 1) 1 l d i co = sp_chain T (sp_E T m) l d i co := rfl
  have ht1 : W.length = b ∨ ∃ k W', W = k :: W' ∧ tyt k < l + 1 := ht.imp_right (fun ⟨k, W', h1, h2⟩ => ⟨k, W', h1, Nat.lt_succ_of_le h2⟩)
  have ht2 : W.length = b ∨ ∃ k W', W = k :: W' ∧ tyt k ≤ l + 1 := ht.imp_right (fun ⟨k, W', h1, h2⟩ => ⟨k, W', h1, Nat.le_succ_of_le h2⟩)
  rw [es] at h9 hk hbad
  unfold sp_chain at h9 hk hbad
  by_cases h10 : l = 10
  · rw [if_pos h10] at h9 hk hbad
    have u := hu d i co mc I W C hd hmc hi hco hW hC h9 h
    have ln := sp_len hT m 2 0 d i co hi hco
    refine sq u.1 ?_
    by_cases e1 : (sp_E T m 2 0 d i co).1 = 0
    · have l1 := ln e1
      exact hk e1 _ [] _ n' y' (u.2.1 e1) (by rw [List.map_nil, List.append_nil]) (fun k hk => by cases hk) (by rw [h10]; exact tyt10 _) hny (by omega) (by simp only [List.length_nil]; omega)
    · have z := cB_L_F (J := J) mc n' (by omega) (nI d) (nI y') b (by omega) (u.2.2 e1)
      exact ⟨z.1, hbad e1 _ z.2⟩
  rw [if_neg h10] at h9 hk hbad
  have u9 : (sp_E T m 1 (l + 1) d i co).1 ≠ 9 := by
    intro q
    rw [sp_b1 (by rw [q]; decide)] at h9
    exact h9 q
  have ln := sp_len hT m 1 (l + 1) d i co hi hco
  have lp : ∀ (k j c : Nat) (acc : Cd) (V : List Nat) (C1 : Cd) (I' : Mm) (n' y' : Nat), cS A 10 j (V ++ W) (C ++ C1) c I' → C1 ++ V.map (fun k => (k, 0)) = acc → (∀ k ∈ V, l + 1 ≤ tyt k) → tyt (T.1 j) ≤ l + 1 → n' + y' = 4002 → y' ≤ j → j < n → c ≤ 3000 → co ≤ c → 24 * (V.length + W.length) ≤ c → i + acc.length ≤ j → (sp_loop T (sp_E T m) l d k j c acc).1 ≠ 9 → HK_F A J T mc d b l W C Q (sp_loop T (sp_E T m) l d k j c acc) → ((sp_loop T (sp_E T m) l d k j c acc).1 ≠ 0 → ∀ I', cB A 10 (sp_loop T (sp_E T m) l d k j c acc).1 (sp_loop T (sp_E T m) l d k j c acc).2.1 I' → Q I') → pRd_readOperands_F_12 (ge_F_F mc) (ge_F_Q mc) n' (nI d) (nI b) (nI y') I' J ∧ Q (fRd_readOperands_F_12 (ge_F_F mc) n' (nI d) (nI b) (nI y') I' J) := by
    intro k
    induction k with
    | zero => intro j c acc V C1 I' n' y' _ _ _ _ _ _ _ _ _ _ _ h _ _; exact absurd rfl h
    | succ k ih =>
      intro j c acc V C1 I' n' y' hS hV hVt hjt hny hyj hj hc3 hcc h24 hacc g9 gk gb
      have hVl : C1.length + V.length = acc.length := by rw [← hV, List.length_append, List.length_map]
      unfold sp_loop at g9 gk gb
      by_cases k47 : T.1 j = 47
      · rw [if_pos k47] at gb
        have z := cB_L_F (J := J) mc n' (by omega) (nI d) (nI y') b (by omega) (cS_stuck (Or.inr rfl) hT hM hS hj (by rw [List.length_append]; omega) (by rw [List.length_append]; omega) k47)
        exact ⟨z.1, gb (show (4 : Nat) ≠ 0 by decide) _ z.2⟩
      rw [if_neg k47] at g9 gk gb
      by_cases kt : tyt (T.1 j) = l + 1
      · rw [if_pos kt] at g9 gk gb
        obtain ⟨n', rfl⟩ : ∃ n9, n' = n9 + 1 := ⟨n' - 1, by omega⟩
        have k29 := tyt_lt (k := T.1 j) (by omega)
        have c24 := cst24 (k := T.1 j) (by omega)
        have sj := tEnd_s hT hj (by omega)
        have e3 := cS_kind hM hS hj
        have ft := fti I' J (T.1 j) (by omega)
        have c1 : ¬ (4000 : Int32) < nI y' := nI_nlt (a := 4000) (b := y') (by omega) (by decide)
        have c2 : ¬ nI (l + 1) ≤ 0 := nI_nle (by omega) (by omega)
        have st := cS_set_F (J := J) (b := b) (t := l + 1) V W (C ++ C1) 126 I' hS hVt hb ht1 (by omega) (by rw [List.length_append]; omega) (by rw [List.length_append]; omega) (by omega)
        rw [List.append_assoc, hV] at st
        rw [pRd_readOperands_F_12.eq_2, fRd_readOperands_F_12.eq_2]
        refine itn c1 ?_
        rw [e3, ft.2, kt]
        refine sq ft.1 (itn c2 (sq ft.1 (sq st.1 ?_)))
        have st2 := st.2
        generalize fRd_settle_F 126 (nI b) (nI (l + 1)) I' J = I2 at st2
        have e32 := cS_kind hM st2 hj
        unfold pRd_readOperands_F_41 fRd_readOperands_F_41 pRd_readOperands_F_49 fRd_readOperands_F_49 pRd_readOperands_F_53 fRd_readOperands_F_53
        rw [e32]
        unfold sp_pay at g9 gk gb
        by_cases hp : c + cst (T.1 j) ≤ 3000
        · rw [if_pos hp] at g9 gk gb
          try dsimp only at g9 gk gb
          have aw := cS_await (J := J) (Or.inr rfl) st2 (k := T.1 j) k29 (by omega)
          refine sq aw.1 ?_
          have aw2 := aw.2
          generalize fRd_await (nI (T.1 j)) I2 J = I3 at aw2
          have cg := cS_chg0 (J := J) (Or.inr rfl) aw2 hp
          have sg := cS_sgn (J := J) hM aw2 hj k29 cg
          have a := cS_adv (J := J) (Or.inr rfl) hT hM sg.2 hj (by omega)
          refine sq sg.1 (sq a.1 ?_)
          have a2 := a.2
          generalize fRd_advance (fRd_chargeSign I3 J) J = I4 at a2
          have v9 : (sp_E T m 1 (l + 1) d (j + 1) (c + cst (T.1 j))).1 ≠ 9 := by
            intro q
            rw [sp_b1 (by rw [q]; decide)] at g9
            exact g9 q
          have ln2 := sp_len hT m 1 (l + 1) d (j + 1) (c + cst (T.1 j)) sj hp
          unfold pRd_readOperands_F_57 fRd_readOperands_F_57 pRd_readOperands_F_62 fRd_readOperands_F_62
          rw [nI_i1]
          refine hc (l + 1) d (j + 1) (c + cst (T.1 j)) mc b n' (y' + 1) I4 (T.1 j :: W) (C ++ acc) Q (by omega) hd hmc sj hp (by simp only [List.length_cons]; omega) (by simp only [List.length_cons, List.length_append]; omega) v9 a2 (by simp only [List.length_cons]; omega) (Or.inr ⟨T.1 j, W, rfl, by omega⟩) (by omega) (by omega) ?_ ?_
          · intro e2 I5 V5 C5 n5 y5 s1 s2 s3 s4 s5 s6 s7
            rw [sp_b0 e2] at g9 gk gb
            try dsimp only at g9 gk gb
            have l2 := ln2 e2
            simp only [List.length_cons] at s7
            refine ih _ _ _ (V5 ++ [T.1 j]) (acc ++ C5) I5 n5 y5 ?_ ?_ ?_ s4 s5 s6 l2.2.2.1 l2.2.2.2.2.1 (by omega) (by simp only [List.length_append, List.length_cons, List.length_nil]; omega) (by simp only [List.length_append, List.length_cons, List.length_nil]; omega) g9 gk gb
            · rw [List.append_assoc, List.singleton_append, ← List.append_assoc]; exact s1
            · rw [← s2, List.map_append, List.append_assoc, List.append_assoc]; rfl
            · intro k hk
              rcases List.mem_append.mp hk with h | h
              · have := s3 k h; omega
              · rw [List.mem_singleton] at h; rw [h]; omega
          · intro e2 I5 h5
            rw [sp_b1 e2] at gb
            exact gb e2 _ h5
        · rw [if_neg hp] at gb
          have aw : pRd_await (nI (T.1 j)) I2 J ∧ ∃ W2 : List Nat, W2.length ≤ 125 ∧ cS A 10 j W2 (C ++ acc) c (fRd_await (nI (T.1 j)) I2 J) := by
            by_cases h125 : W.length < 125
            · have aw := cS_await (J := J) (Or.inr rfl) st2 (k := T.1 j) k29 h125
              exact ⟨aw.1, _, by simp only [List.length_cons]; omega, aw.2⟩
            · have c : (125 : Int32) ≤ I2 13 7 := by rw [st2.2.2.2.2.1]; exact nI_le (a := 125) (b := W.length) (by omega) (by omega)
              refine ⟨⟨fun _ => trivial, fun q => absurd c q⟩, W, by omega, ?_⟩
              unfold fRd_await
              rw [if_pos c]; exact st2
          refine sq aw.1 ?_
          obtain ⟨-, W2, hW2, aw2⟩ := aw
          generalize fRd_await (nI (T.1 j)) I2 J = I3 at aw2
          have cg := cS_chg1 (J := J) (Or.inr rfl) aw2 (by omega) hW2 (by rw [List.length_append]; omega) hp (by omega)
          have sg := cS_sgn (J := J) hM aw2 hj k29 cg
          have a := cB_adv (J := J) sg.2
          refine sq sg.1 (sq a.1 ?_)
          rw [a.2]
          obtain ⟨mc, rfl⟩ : ∃ mc', mc = mc' + 1 := ⟨mc - 1, by omega⟩
          have u := cB_U_F (J := J) mc (nI d) sg.2
          unfold pRd_readOperands_F_57 fRd_readOperands_F_57 pRd_readOperands_F_62 fRd_readOperands_F_62
          refine sq u.1 ?_
          have z := cB_L_F (J := J) (mc + 1) n' (by omega) (nI d) (nI y' + Int32.ofInt 1) b (by omega) u.2
          exact ⟨z.1, gb (show (4 : Nat) ≠ 0 by decide) _ z.2⟩
      · rw [if_neg kt] at gk
        exact gk rfl I' V C1 n' y' hS hV hVt (show tyt (T.1 j) ≤ l by omega) hny hyj h24
  refine hc (l + 1) d i co mc b n' y' I W C Q (by omega) hd hmc hi hco hW hC u9 h hb ht2 hny hyi ?_ ?_
  · intro e1 I5 V5 C5 n5 y5 s1 s2 s3 s4 s5 s6 s7
    have l1 := ln e1
    rw [sp_b0 e1] at h9 hk hbad
    try dsimp only at h9 hk hbad
    exact lp 4002 _ _ _ V5 C5 I5 n5 y5 s1 s2 (fun k hk => by have := s3 k hk; omega) s4 s5 s6 l1.2.2.1 l1.2.2.2.2.1 l1.2.2.2.1 s7 (by omega) h9 hk hbad
  · intro e1 I5 h5
    rw [sp_b1 e1] at hbad
    exact hbad e1 _ h5
theorem cO_F {m : Nat} (hT : tEnd T n) (hM : tMem A T n) (hc : HC_F A J T n m) {d i co mc : Nat} {I : Mm} {W : List Nat} {C : Cd} (hd : d ≤ 41) (hmc : 3 * (41 - d) + 1 ≤ mc) (hi : i < n) (hco : co ≤ 3000) (hW : 24 * W.length ≤ co) (hC : C.length + W.length ≤ i) (h9 : (sp_E T m 1 0 d i co).1 ≠ 9) (h : cS A 10 i W C co I) : ge_F_Q (mc + 1) 1 (nI d) 0 I J ∧ ER A 10 W C (sp_E T m 1 0 d i co) (ge_F_F (mc + 1) 1 (nI d) 0 I J) := by
  have hn := hT.2.1
  rw [geQ1_F, geF1_F]
  unfold pRd_readOperands_F fRd_readOperands_F pRd_readOperands_F_10 fRd_readOperands_F_10
  have ln := sp_len hT m 1 0 d i co hi hco
  rw [h.2.2.2.2.1, ← nI_0]
  refine hc 0 d i co mc W.length 4002 0 I W C (ER A 10 W C (sp_E T m 1 0 d i co)) (by decide) hd hmc hi hco hW hC h9 h (Nat.le_refl _) (Or.inl rfl) (by decide) (Nat.zero_le _) ?_ ?_
  · intro e1 I5 V5 C5 n5 y5 s1 s2 s3 s4 s5 s6 s7
    have l1 := ln e1
    have hVl : C5.length + V5.length = (sp_E T m 1 0 d i co).2.2.2.2.length := by rw [← s2, List.length_append, List.length_map]
    obtain ⟨n5, rfl⟩ : ∃ n9, n5 = n9 + 1 := ⟨n5 - 1, by omega⟩
    have st := cS_set_F (J := J) (b := W.length) (t := 1) V5 W (C ++ C5) 126 I5 s1 s3 (Nat.le_refl _) (Or.inl rfl) (by omega) (by rw [List.length_append]; omega) (by rw [List.length_append]; omega) (by decide)
    rw [List.append_assoc, s2] at st
    have e3 := cS_kind hM s1 l1.2.2.1
    have k48 := hT.2.2.1 _ l1.2.2.1
    have ft := fti I5 J (T.1 (sp_E T m 1 0 d i co).2.2.1) (by omega)
    have c2 : fRd_tightness (I5 13 3) I5 J ≤ 0 := by
      rw [e3, ft.2, show tyt (T.1 (sp_E T m 1 0 d i co).2.2.1) = 0 by omega]; decide
    have c1 : ¬ (4000 : Int32) < nI y5 := nI_nlt (a := 4000) (b := y5) (by omega) (by decide)
    rw [pRd_readOperands_F_12.eq_2, fRd_readOperands_F_12.eq_2]
    exact itn c1 (sq (ti_p _ _ _) (itp c2 (sqt ⟨st.1, fun _ => st.2, fun q => absurd e1 q⟩)))
  · intro e1 I5 h5
    exact ER_b e1 h5
theorem cX_F {m : Nat} (hT : tEnd T n) (hM : tMem A T n) (hx : HX_F A J T n m) (hc : HC_F A J T n m) : HX_F A J T n (m + 1) := by
  intro d i co mc I W C hd hmc hi hco hW hC h9 h
  have hn := hT.2.1
  obtain ⟨mc, rfl⟩ : ∃ mc', mc = mc' + 3 := ⟨mc - 3, by omega⟩
  have es : sp_E T (m + 1) 0 0 d i co = sp_expr T (sp_E T m) d i co := rfl
  rw [es] at h9 ⊢
  rw [geQ0_F, geF0_F]
  unfold pRd_readExpression_F fRd_readExpression_F
  unfold sp_expr at h9 ⊢
  by_cases hdd : 40 < d
  · rw [if_pos hdd]
    have z := cS_deep1 (J := J) (Or.inr rfl) h (by omega) (by omega) (by omega) hdd (by omega)
    refine sq z.1 ?_
    unfold pRd_readExpression_F_5 fRd_readExpression_F_5
    rw [z.2.1]
    exact itn (by decide) ⟨trivial, ER_f (by decide) z.2.2⟩
  rw [if_neg hdd] at h9 ⊢
  have z := cS_deep0 (J := J) h hdd
  refine sq z.1 ?_
  rw [z.2]
  dsimp only
  unfold pRd_readExpression_F_5 fRd_readExpression_F_5
  have u9 : (sp_E T m 1 0 d i co).1 ≠ 9 := by
    intro q
    rw [sp_b1 (by rw [q]; decide)] at h9
    exact h9 q
  have o := cO_F (mc := mc + 1) hT hM hc hd (by omega) hi hco hW hC u9 h
  have ln := sp_len hT m 1 0 d i co hi hco
  refine itp rfl (sq o.1 ?_)
  have o2 := o.2
  generalize ge_F_F (mc + 2) 1 (nI d) 0 I J = I1 at o2
  unfold pRd_readExpression_F_14 fRd_readExpression_F_14
  by_cases e1 : (sp_E T m 1 0 d i co).1 = 0
  rotate_left
  · rw [sp_b1 e1]
    have b := o2.2 e1
    exact itn (cB_ne b (s := 3) (by decide)) ⟨trivial, ER_b e1 b⟩
  rw [sp_b0 e1] at h9 ⊢
  try dsimp only at h9 ⊢
  have l1 := ln e1
  have s1 := o2.1 e1
  clear o2 o ln
  generalize sp_E T m 1 0 d i co = r at s1 l1 h9 ⊢
  obtain ⟨re, rw', rj, rc, rC⟩ := r
  try dsimp only at s1 l1 h9 ⊢
  have e3 := cS_kind hM s1 l1.2.2.1
  have k48 := hT.2.2.1 _ l1.2.2.1
  by_cases k3 : T.1 rj = 3
  rotate_left
  · rw [if_neg k3]
    have c3 : ¬ I1 13 3 = (3 : Int32) := fun q => k3 ((nI_eq (a := T.1 rj) (b := 3) (by omega) (by decide)).mp (e3.symm.trans q))
    exact itn c3 ⟨trivial, ER_ok s1⟩
  rw [if_pos k3] at h9 ⊢
  refine itp (by rw [e3, k3]; rfl) ?_
  unfold pRd_readExpression_F_26 fRd_readExpression_F_26
  have sj := tEnd_s hT l1.2.2.1 (by omega)
  have ce : cst (T.1 rj) = 40 := by rw [k3]; rfl
  have hl1 : (C ++ rC).length = C.length + rC.length := List.length_append
  unfold sp_pay at h9 ⊢
  by_cases hp : rc + 40 ≤ 3000
  rotate_left
  · rw [if_neg hp]
    have c := cS_chg1 (J := J) (Or.inr rfl) s1 (by omega) (by omega) (by omega) hp (by omega)
    rw [← ce] at c
    have s := cS_sgn (J := J) hM s1 l1.2.2.1 (by omega) c
    have a := cB_adv (J := J) s.2
    have x1 := cB_X_F (J := J) (mc - 1) (nI d + 1) s.2
    have em : mc - 1 + 3 = mc + 2 := by omega
    rw [em] at x1
    have ex := cB_ex (J := J) (Or.inr rfl) x1.2 (s := 1) (by decide)
    have x2 := cB_X_F (J := J) (mc - 1) (nI d + 1) ex.2.2
    rw [em] at x2
    have ad := cB_add_F (J := J) x2.2 50 0
    refine sq s.1 (sq a.1 ?_)
    rw [a.2]
    exact sq x1.1 (sq ex.1 (sq x2.1 (sqt ⟨ad.1, ER_f (by decide) ad.2⟩)))
  rw [if_pos hp] at h9 ⊢
  try dsimp only at h9 ⊢
  have c := cS_chg0 (J := J) (Or.inr rfl) s1 hp
  rw [← ce] at c
  have s := cS_sgn (J := J) hM s1 l1.2.2.1 (by omega) c
  rw [ce] at s
  have a := cS_adv (J := J) (Or.inr rfl) hT hM s.2 l1.2.2.1 (by omega)
  refine sq s.1 (sq a.1 ?_)
  have a2 := a.2
  clear a s c
  generalize fRd_advance (fRd_chargeSign I1 J) J = I2 at a2
  unfold pRd_readExpression_F_30 fRd_readExpression_F_30
  have v9 : (sp_E T m 0 0 (d + 1) (rj + 1) (rc + 40)).1 ≠ 9 := by
    intro q
    rw [sp_b1 (by rw [q]; decide)] at h9
    exact h9 q
  have x1 := hx (d + 1) (rj + 1) (rc + 40) (mc + 2) I2 W (C ++ rC) (by omega) (by omega) sj hp (by omega) (by omega) v9 a2
  have ln2 := sp_len hT m 0 0 (d + 1) (rj + 1) (rc + 40) sj hp
  rw [nI_1]
  refine sq x1.1 ?_
  have x12 := x1.2
  clear x1
  generalize ge_F_F (mc + 2) 0 (nI (d + 1)) 0 I2 J = I3 at x12
  have em : mc - 1 + 3 = mc + 2 := by omega
  by_cases e2 : (sp_E T m 0 0 (d + 1) (rj + 1) (rc + 40)).1 = 0
  rotate_left
  · rw [sp_b1 e2]
    have ex := cB_ex (J := J) (Or.inr rfl) (x12.2 e2) (s := 1) (by decide)
    have x2 := cB_X_F (J := J) (mc - 1) (nI d + 1) ex.2.2
    rw [em] at x2
    have ad := cB_add_F (J := J) x2.2 50 0
    exact sq ex.1 (sq x2.1 (sqt ⟨ad.1, ER_b e2 ad.2⟩))
  rw [sp_b0 e2] at h9 ⊢
  try dsimp only at h9 ⊢
  have l2 := ln2 e2
  have s2 := x12.1 e2
  clear ln2 x12
  generalize sp_E T m 0 0 (d + 1) (rj + 1) (rc + 40) = r2 at s2 l2 h9 ⊢
  obtain ⟨r2e, r2w, r2j, r2c, r2C⟩ := r2
  try dsimp only at s2 l2 h9 ⊢
  have hl2 : (C ++ rC ++ r2C).length = C.length + rC.length + r2C.length := by rw [List.length_append, List.length_append]
  unfold sp_ex at h9 ⊢
  by_cases k1 : T.1 r2j = 1
  rotate_left
  · rw [if_neg k1]
    have ex := cS_ex0 (J := J) (Or.inr rfl) hT hM s2 l2.2.2.1 (by omega) (by omega) (s := 1) (by decide) k1
    have x2 := cB_X_F (J := J) (mc - 1) (nI d + 1) ex.2.2
    rw [em] at x2
    have ad := cB_add_F (J := J) x2.2 50 0
    exact sq ex.1 (sq x2.1 (sqt ⟨ad.1, ER_b (sp_no1 _ _) ad.2⟩))
  rw [if_pos k1] at h9 ⊢
  try dsimp only at h9 ⊢
  have ex := cS_ex1 (J := J) (Or.inr rfl) hT hM s2 l2.2.2.1 (s := 1) (by decide) k1
  have sj2 := tEnd_s hT l2.2.2.1 (by omega)
  unfold pRd_readExpression_F_37 fRd_readExpression_F_37
  refine sq ex.1 ?_
  have ex2 := ex.2.2
  generalize (fRd_expect (1 : Int32) I3 J).1 = z9
  have ex3 : cS A 10 (r2j + 1) W (C ++ rC ++ r2C) r2c (fRd_expect (1 : Int32) I3 J).2 := ex2
  clear ex2 ex
  generalize (fRd_expect (1 : Int32) I3 J).2 = I4 at ex3
  unfold pRd_readExpression_F_42 fRd_readExpression_F_42
  have w9 : (sp_E T m 0 0 (d + 1) (r2j + 1) r2c).1 ≠ 9 := by
    intro q
    rw [sp_b1 (by rw [q]; decide)] at h9
    exact h9 q
  have x3 := hx (d + 1) (r2j + 1) r2c (mc + 2) I4 W (C ++ rC ++ r2C) (by omega) (by omega) sj2 l2.2.2.2.2.1 (by omega) (by omega) w9 ex3
  have ln3 := sp_len hT m 0 0 (d + 1) (r2j + 1) r2c sj2 l2.2.2.2.2.1
  rw [nI_1]
  refine sq x3.1 ?_
  by_cases e3 : (sp_E T m 0 0 (d + 1) (r2j + 1) r2c).1 = 0
  · rw [sp_b0 e3]
    try dsimp only
    have l3 := ln3 e3
    have ad := cS_add_F (J := J) (x3.2.1 e3) (by rw [List.length_append]; omega) 50 0
    refine sqt ⟨ad.1, ER_ok ?_⟩
    have z := ad.2
    simp only [List.append_assoc] at z ⊢
    exact z
  · rw [sp_b1 e3]
    have ad := cB_add_F (J := J) (x3.2.2 e3) 50 0
    exact sqt ⟨ad.1, ER_b e3 ad.2⟩
theorem cE_F (hT : tEnd T n) (hM : tMem A T n) (hF : fMem A T n) : ∀ m, HX_F A J T n m ∧ HU_F A J T n m ∧ HC_F A J T n m := by
  intro m
  induction m with
  | zero => exact ⟨fun _ _ _ _ _ _ _ _ _ _ _ _ _ h => absurd rfl h, fun _ _ _ _ _ _ _ _ _ _ _ _ _ h => absurd rfl h, fun _ _ _ _ _ _ _ _ _ _ _ _ _ _ _ _ _ _ _ h => absurd rfl h⟩
  | succ m ih => exact ⟨cX_F hT hM ih.1 ih.2.2, cU_F hT hM hF ih.1 ih.2.1, cC_F hT hM ih.2.1 ih.2.2⟩
end
