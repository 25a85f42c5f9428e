/-! PARSE 11: the class's lines, one by one -/
theorem sqr {a b c : Prop} (h : a ∧ (b ∧ c)) : (a ∧ b) ∧ c := ⟨⟨h.1, h.2.1⟩, h.2.2⟩
theorem nI_or {a b : Nat} (ha : a < 2 ^ 31) (hb : b < 2 ^ 31) : nI a ||| nI b = nI (a ||| b) := by
  apply Int32.toBitVec_inj.mp
  rw [Int32.toBitVec_or]
  apply BitVec.eq_of_toNat_eq
  rw [BitVec.toNat_or]
  have hab : a ||| b < 2 ^ 31 := Nat.or_lt_two_pow ha hb
  rw [pk_tn (by omega), pk_tn (by omega), pk_tn (by omega)]
theorem nI_sor {f b v : Nat} (hf : f < 256) (hb : b ≤ 8) (hv : v < 2 ^ b) : (nI f <<< (nI b &&& 31)) ||| nI v = nI (f * 2 ^ b + v) := by
  have hs : ((nI b &&& 31).toBitVec.smod 32).toNat = b := (show ∀ b, b < 9 → ((nI b &&& 31).toBitVec.smod 32).toNat = b by decide +kernel) b (by omega)
  have h2 : 2 ^ b ≤ 2 ^ 8 := Nat.pow_le_pow_right (by decide) hb
  have hm : f * 2 ^ b < 256 * 256 := Nat.lt_of_le_of_lt (Nat.mul_le_mul_left f h2) (by omega)
  rw [pk_shlN _ b hs (by omega), nI_or (by omega) (by omega), Nat.mul_comm f, ← Nat.two_pow_add_eq_or_of_lt hv]
theorem LE_c {A : Mm} {B : TB} {n i e w : Nat} {r : LR} {I : Mm} (he : r.1 = e) (hw : r.2.1 = w) (h : cH A e w I) : LE A B n i r I := by
  subst he; subst hw
  exact ⟨fun q => absurd q h.2.1, fun _ => h⟩
section
variable {A : Mm} {J : Ml} {B : TB} {n : Nat}
theorem cl_ex {A' : Mm} {q i co s : Nat} {C : Cd} {I : Mm} (Nm : NmT) (hq : q = 7 ∨ q = 10) (hT : bE B n) (tM : tMem A' (tT B Nm) n) (h : cS A' q i [] C co I) (hi : i < n) (hs45 : s < 45) (hC : C.length ≤ 4000) (P : LR → Int32 → Mm → Prop) {k : Nat → LR}
    (hb : ∀ (r : LR) (e w : Nat), e ≠ 0 → r.1 = e → r.2.1 = w → ∀ I', cB A' q e w I' → cH A' e w I' → P r 0 I')
    (hs : i + 1 < n → ∀ I', cS A' q (i + 1) [] C co I' → P (k (i + 1)) 1 I') : pRd_expect (nI s) I J ∧ P (l_ex B s i k) (fRd_expect (nI s) I J).1 (fRd_expect (nI s) I J).2 := by
  by_cases k1 : B.1 i = s
  · have x := cS_ex1 (J := J) hq (bE_T hT Nm) tM h hi hs45 (show (tT B Nm).1 i = s from k1)
    rw [x.2.1, show l_ex B s i k = k (i + 1) from if_pos k1]
    exact ⟨x.1, hs (tEnd_s (bE_T hT Nm) hi (show B.1 i < 45 by omega)) _ x.2.2⟩
  · have x := cS_ex0 (J := J) hq (bE_T hT Nm) tM h hi (by simp) hC hs45 (show ¬ (tT B Nm).1 i = s from k1)
    have e : l_ex B s i k = l_no B i := if_neg k1
    have ln := l_no1 B Nm i
    have fr' := fr_r hq x.2.2.1
    rw [x.2.1, e]
    refine ⟨x.1, hb _ _ _ (sp_no1 _ _) ln.1 ln.2 _ x.2.2 ?_⟩
    rcases x.2.2.2.2.2.2 with ⟨h9, h0, he9, h10, kk⟩ | ⟨he, hw, h9, kk, h2, h5⟩
    · exact ⟨h9, h0, he9, h10, kk, fr'⟩
    · exfalso
      have e3 := cS_kind tM h hi
      have kne : ¬ I 13 3 = nI s := fun q => k1 ((nI_eq (by have := hT.2.2.1 i hi; omega) (by omega)).mp (e3.symm.trans q))
      unfold fRd_expect fRd_expect_12 at h9
      rw [if_neg kne] at h9
      dsimp only at h9
      unfold fRd_refuse fRd_refuse_15 fRd_halt at h9
      have g9 := h.2.2.2.2.2.1
      by_cases k47 : I 13 3 = (47 : Int32)
      · rw [if_pos k47, if_pos g9, pm_u_j _ _ _ (by decide), pm_u_j _ _ _ (by decide), pm_u_s] at h9
        exact absurd h9 (by decide)
      · rw [if_neg k47, if_pos g9, pm_u_j _ _ _ (by decide), pm_u_j _ _ _ (by decide), pm_u_s] at h9
        exact absurd h9 (by decide)
theorem cl_num {A' : Mm} {q i co lo hi' : Nat} {C : Cd} {I : Mm} (Nm : NmT) (hq : q = 7 ∨ q = 10) (hT : bE B n) (tM : tMem A' (tT B Nm) n) (h : cS A' q i [] C co I) (hi : i < n) (hC : C.length ≤ 4000) (hlo : lo < 2 ^ 31) (hhi : hi' < 2 ^ 31) (P : LR → Int32 → Mm → Prop) {k : Nat → Nat → LR}
    (hb : ∀ (r : LR) (e w : Nat), e ≠ 0 → r.1 = e → r.2.1 = w → ∀ I', cB A' q e w I' → P r 0 I')
    (hs : lo ≤ B.2.1 i → B.2.1 i ≤ hi' → i + 1 < n → ∀ I', cS A' q (i + 1) [] C co I' → P (k (B.2.1 i) (i + 1)) (nI (B.2.1 i)) I') : pRd_readNumber (nI lo) (nI hi') I J ∧ P (l_num B lo hi' i k) (fRd_readNumber (nI lo) (nI hi') I J).1 (fRd_readNumber (nI lo) (nI hi') I J).2 := by
  have hn := hT.2.1
  have e3 := cS_kind tM h hi
  have f5 := fr_5 hq h.1
  have h2 := h.2.2.1
  unfold pRd_readNumber fRd_readNumber pRd_readNumber_13 fRd_readNumber_13 pRd_readNumber_38 fRd_readNumber_38 pRd_readNumber_43 fRd_readNumber_43 pRd_readNumber_49 fRd_readNumber_49
  by_cases k44 : B.1 i = 44
  rotate_left
  · have r := cS_refuse (J := J) hq (bE_T hT Nm) tM h hi (by simp) hC
    have c : ¬ I 13 3 = (44 : Int32) := fun q => k44 ((nI_eq (a := B.1 i) (b := 44) (by have := hT.2.2.1 i hi; omega) (by decide)).mp (e3.symm.trans q))
    have e : l_num B lo hi' i k = l_no B i := if_neg k44
    have ln := l_no1 B Nm i
    rw [if_neg c, e]
    exact ⟨⟨fun q => absurd q c, fun _ => ⟨r.1, trivial⟩⟩, hb _ _ _ (sp_no1 _ _) ln.1 ln.2 _ r.2⟩
  have c : I 13 3 = (44 : Int32) := by rw [e3]; show nI (B.1 i) = _; rw [k44]; rfl
  have mv := tM.2.2.1 i hi k44
  have mv1 : A' 21 i = nI (B.2.1 i) := mv.1
  have mv2 : B.2.1 i < 2 ^ 30 := mv.2
  have ev : I 21 (I 13 2).toNatClampNeg = nI (B.2.1 i) := by rw [h2, nI_clamp (by omega), f5.2.2.2.2.1]; exact mv1
  have v2 : vp_in (I 13 2) 4001 := by rw [h2]; exact vp_in_nI (by omega) (by decide)
  have adv := cS_adv (J := J) hq (bE_T hT Nm) tM h hi (show B.1 i < 45 by omega)
  have hl := cS_halt (J := J) hq h (by omega) (by simp) hC (e := 3) (by decide) (by decide)
  rw [if_pos c, ev]
  by_cases c1 : B.2.1 i < lo
  · have c1' : nI (B.2.1 i) < nI lo := nI_lt c1 hlo
    have e : l_num B lo hi' i k = lf 3 i := by unfold l_num; rw [if_pos k44, if_pos c1]
    rw [if_pos c1', e]
    exact ⟨⟨fun _ => ⟨v2, fun _ => ⟨hl.1, trivial⟩, fun q => absurd c1' q⟩, fun q => absurd c q⟩, hb _ 3 i (by decide) rfl rfl _ hl.2⟩
  · have c1' : ¬ nI (B.2.1 i) < nI lo := nI_nlt (by omega) (by omega)
    rw [if_neg c1']
    by_cases c2 : B.2.1 i ≤ hi'
    · have c2' : nI (B.2.1 i) ≤ nI hi' := nI_le c2 hhi
      have e : l_num B lo hi' i k = k (B.2.1 i) (i + 1) := by unfold l_num; rw [if_pos k44, if_neg c1, if_pos c2]
      rw [if_pos c2', e]
      exact ⟨⟨fun _ => ⟨v2, fun q => absurd q c1', fun _ => ⟨fun _ => ⟨adv.1, trivial⟩, fun q => absurd c2' q⟩⟩, fun q => absurd c q⟩, hs (by omega) c2 (tEnd_s (bE_T hT Nm) hi (show B.1 i < 45 by omega)) _ adv.2⟩
    · have c2' : ¬ nI (B.2.1 i) ≤ nI hi' := nI_ge (by omega) (by omega)
      have e : l_num B lo hi' i k = lf 3 i := by unfold l_num; rw [if_pos k44, if_neg c1, if_neg c2]
      rw [if_neg c2', e]
      exact ⟨⟨fun _ => ⟨v2, fun q => absurd q c1', fun _ => ⟨fun q => absurd q c2', fun _ => ⟨hl.1, trivial⟩⟩⟩, fun q => absurd c q⟩, hb _ 3 i (by decide) rfl rfl _ hl.2⟩
/-- what a line keeps of the memory at its beginning -/
def lK (I I5 : Mm) (nm : Nat) (t : Int32) : Prop := I5 4 = I 4 ∧ I5 5 = I 5 ∧ I5 6 = I 6 ∧ I5 15 = I 15 ∧ (∀ k, k < nm → I5 14 k = I 14 k) ∧ I5 14 nm = t
theorem nmI_a {I I5 : Mm} {Nm : NmT} {x : Nat × Nat × Nat × Nat} (h : nmI I Nm) (h14 : ∀ k, k < Nm.length → I5 14 k = I 14 k) (h4 : ∀ k, k < Nm.length → I5 4 k = I 4 k) (h5 : ∀ k, k < Nm.length → I5 5 k = I 5 k) (h6 : ∀ k, k < Nm.length → I5 6 k = I 6 k) (g14 : I5 14 Nm.length = nI x.1) (g4 : I5 4 Nm.length = nI x.2.1) (g5 : I5 5 Nm.length = nI x.2.2.1) (g6 : I5 6 Nm.length = nI x.2.2.2) : nmI I5 (Nm ++ [x]) := by
  intro k y hy
  rw [List.getElem?_append] at hy
  by_cases hl : k < Nm.length
  · rw [if_pos hl] at hy
    rw [h14 k hl, h4 k hl, h5 k hl, h6 k hl]; exact h k y hy
  · rw [if_neg hl] at hy
    have e : k = Nm.length := by
      rcases Nat.eq_zero_or_pos (k - Nm.length) with h0 | h0
      · omega
      · rw [List.getElem?_eq_none (by simp only [List.length_cons, List.length_nil]; omega)] at hy; cases hy
    subst e
    rw [Nat.sub_self] at hy
    simp only [List.getElem?_cons_zero, Option.some.injEq] at hy
    subst hy
    exact ⟨g14, g4, g5, g6⟩
theorem nmOk_a {Nm : NmT} {x : Nat × Nat × Nat × Nat} (h : nmOk B n Nm) (hl : Nm.length < 60) (h1 : x.1 < n) (h2 : B.1 x.1 = 43) (h3 : x.2.1 < 50) : nmOk B n (Nm ++ [x]) := by
  refine ⟨by rw [List.length_append]; exact hl, fun k y hy => ?_⟩
  rw [List.getElem?_append] at hy
  by_cases hk : k < Nm.length
  · rw [if_pos hk] at hy; exact h.2 k y hy
  · rw [if_neg hk] at hy
    rcases Nat.eq_zero_or_pos (k - Nm.length) with h0 | h0
    · rw [h0] at hy
      simp only [List.getElem?_cons_zero, Option.some.injEq] at hy
      subst hy; exact ⟨h1, h2, h3⟩
    · rw [List.getElem?_eq_none (by simp only [List.length_cons, List.length_nil]; omega)] at hy; cases hy
theorem cl_fin {i co rb ib sp fi j co' rb' ib' sp' fi' kd b pt : Nat} {Nm : NmT} {CL CF CL' CF' : Cd} {Hn : List Nat} {I I5 : Mm} (h : cL A (i, co, Nm, CL, CF, Hn, rb, ib, sp, fi) I) (hl6 : Nm.length < 60) (k : lK I I5 Nm.length (nI (i + 1))) (er : ∀ a, (a < 3 ∨ 16 < a) → I5 a = A a) (e2 : I5 13 2 = nI j) (e3 : I5 13 3 = A 18 j) (e7 : I5 13 7 = 0) (e9 : I5 13 9 = 0) (e10 : I5 13 10 = 0) (r35 : I5 3 5 = nI Nm.length) (r36 : I5 3 6 = nI sp') (r37 : I5 3 7 = nI rb') (r38 : I5 3 8 = nI ib') (r39 : I5 3 9 = nI co') (r310 : I5 3 10 = nI fi') (c7 : I5 7 2 = nI CL'.length) (d7 : cod I5 7 CL') (c10 : I5 10 2 = nI CF'.length) (d10 : cod I5 10 CF') : pCi_addName (nI kd) (nI b) (nI pt) I5 J ∧ cL A (j, co', Nm ++ [(i + 1, kd, b, pt)], CL', CF', Hn, rb', ib', sp', fi') (fCi_addName (nI kd) (nI b) (nI pt) I5 J) := by
  obtain ⟨f, h2, h3, h7, h9, h10, h35, h36, h37, h38, h39, h310, hn, hh, hl, hc, hl2, hc2⟩ := h
  obtain ⟨k4, k5, k6, k15, k14, kt⟩ := k
  have c : ¬ (60 : Int32) ≤ nI Nm.length := nI_ge (a := Nm.length) (b := 60) hl6 (by decide)
  have v := vp_in_nI hl6 (by decide : 60 < 2 ^ 31)
  unfold pCi_addName fCi_addName
  rw [r35, if_neg c, nI_clamp (by omega), nI_1]
  refine ⟨⟨fun q => absurd q c, fun _ => ⟨v, v, v, trivial⟩⟩, ?_⟩
  generalize eg : pm_u (pm_u (pm_u (pm_u I5 4 Nm.length (nI kd)) 5 Nm.length (nI b)) 6 Nm.length (nI pt)) 3 5 (nI (Nm.length + 1)) = I6
  have g : ∀ a, a ≠ 3 → a ≠ 4 → a ≠ 5 → a ≠ 6 → I6 a = I5 a := fun a a3 a4 a5 a6 => by rw [← eg, pm_u_n _ _ _ a3, pm_u_n _ _ _ a6, pm_u_n _ _ _ a5, pm_u_n _ _ _ a4]
  have g3 : ∀ j, j ≠ 5 → I6 3 j = I5 3 j := fun j hj => by rw [← eg, pm_u_j _ _ _ hj, pm_u_n _ _ _ (by decide), pm_u_n _ _ _ (by decide), pm_u_n _ _ _ (by decide)]
  have g13 := g 13 (by decide) (by decide) (by decide) (by decide)
  refine ⟨fun a ha => (g a (by omega) (by omega) (by omega) (by omega)).trans (er a ha), by rw [g13]; exact e2, by rw [g13]; exact e3, by rw [g13]; exact e7, by rw [g13]; exact e9, by rw [g13]; exact e10, ?_, by rw [g3 6 (by decide)]; exact r36, by rw [g3 7 (by decide)]; exact r37, by rw [g3 8 (by decide)]; exact r38, by rw [g3 9 (by decide)]; exact r39, by rw [g3 10 (by decide)]; exact r310, ?_, ?_, ?_, ?_, ?_, ?_⟩
  · rw [← eg, pm_u_s, List.length_append]; rfl
  · refine nmI_a (I := I) hn (fun k hk => ?_) (fun k hk => ?_) (fun k hk => ?_) (fun k hk => ?_) ?_ ?_ ?_ ?_
    · rw [g 14 (by decide) (by decide) (by decide) (by decide)]; exact k14 k hk
    · rw [← eg, pm_u_n _ _ _ (by decide), pm_u_n _ _ _ (by decide), pm_u_n _ _ _ (by decide), pm_u_j _ _ _ (by omega), k4]
    · rw [← eg, pm_u_n _ _ _ (by decide), pm_u_n _ _ _ (by decide), pm_u_j _ _ _ (by omega), pm_u_n _ _ _ (by decide), k5]
    · rw [← eg, pm_u_n _ _ _ (by decide), pm_u_j _ _ _ (by omega), pm_u_n _ _ _ (by decide), pm_u_n _ _ _ (by decide), k6]
    · rw [g 14 (by decide) (by decide) (by decide) (by decide)]; exact kt
    · rw [← eg, pm_u_n _ _ _ (by decide), pm_u_n _ _ _ (by decide), pm_u_n _ _ _ (by decide), pm_u_s]
    · rw [← eg, pm_u_n _ _ _ (by decide), pm_u_n _ _ _ (by decide), pm_u_s]
    · rw [← eg, pm_u_n _ _ _ (by decide), pm_u_s]
  · intro k hk
    rw [g 15 (by decide) (by decide) (by decide) (by decide), k15]; exact hh k hk
  · rw [g 7 (by decide) (by decide) (by decide) (by decide)]; exact c7
  · exact cod_c (g 8 (by decide) (by decide) (by decide) (by decide)) (g 9 (by decide) (by decide) (by decide) (by decide)) d7
  · rw [g 10 (by decide) (by decide) (by decide) (by decide)]; exact c10
  · exact cod_c (g 11 (by decide) (by decide) (by decide) (by decide)) (g 12 (by decide) (by decide) (by decide) (by decide)) d10
/-- what the memory keeps while an expression is read (code 7) -/
theorem fr_k7 {M I5 : Mm} (f : fr M 7 I5) : I5 4 = M 4 ∧ I5 5 = M 5 ∧ I5 6 = M 6 ∧ I5 14 = M 14 ∧ I5 15 = M 15 ∧ I5 10 = M 10 ∧ I5 11 = M 11 ∧ I5 12 = M 12 ∧ (∀ j, j ≠ 9 → I5 3 j = M 3 j) := by
  unfold fr rwOk at f
  refine ⟨?_, ?_, ?_, ?_, ?_, ?_, ?_, ?_, fun j hj => f _ _ (by omega)⟩ <;> (funext j; exact f _ _ (by omega))
theorem fr_k10 {M I5 : Mm} (f : fr M 10 I5) : I5 4 = M 4 ∧ I5 5 = M 5 ∧ I5 6 = M 6 ∧ I5 14 = M 14 ∧ I5 15 = M 15 ∧ I5 7 = M 7 ∧ I5 8 = M 8 ∧ I5 9 = M 9 ∧ (∀ j, j ≠ 9 → I5 3 j = M 3 j) := by
  unfold fr rwOk at f
  refine ⟨?_, ?_, ?_, ?_, ?_, ?_, ?_, ?_, fun j hj => f _ _ (by omega)⟩ <;> (funext j; exact f _ _ (by omega))
set_option maxHeartbeats 4000000 in
theorem cl_reg {s : LSt} {I : Mm} (hT : bE B n) (hM : bMem A B n) (hs : lOk B n s) (h : cL A s I) (hk : B.1 s.1 = 29) : pRd_readReg I J ∧ LE A B n s.1 (sp_reg B s) (fRd_readReg I J) := by
  obtain ⟨i, co, Nm, CL, CF, Hn, rb, ib, sp, fi⟩ := s
  obtain ⟨hi, hco, hok, hcl, hrb, hib, hsp, hfi, hHn⟩ := hs
  have hk : B.1 i = 29 := hk
  have hn := hT.2.1
  have h' := h
  obtain ⟨f, h2, h3, h7, h9, h10, h35, h36, h37, h38, h39, h310, hn', hh, hl, hc, hl2, hc2⟩ := h'
  have S := (cL_S h).1
  have hF := cL_F hM hok h rfl rfl rfl rfl (fun _ _ => rfl) f
  unfold pRd_readReg fRd_readReg sp_reg
  dsimp only
  refine sqr ?_
  refine cl_new (J := J) (q := 7) (I := I) (I0 := I) (Or.inl rfl) hT hM hok hF h35 f S hi (by omega) (by omega) (fun r I' => pRd_readReg_4 I' J ∧ LE A B n i r (fRd_readReg_4 I' J)) (fun r e w he h1 h2 I' hb => ?_) (fun k43 h60 si2 M MS Ma Mj M3 M14 Mt => ?_) (fun _ _ => rfl)
  · have t := tReg4 (J := J) hb
    exact ⟨t.1, LE_c h1 h2 (cH_b t.2 f)⟩
  have Mr : ∀ a, (a < 3 ∨ 16 < a) → M a = A a := fun a ha => (Ma a (by omega) (by omega)).trans (f a ha)
  have tM := bMem_T hM (Mr 17 (by decide)) (Mr 18 (by decide)) (Mr 21 (by decide)) Nm
  have bad : ∀ (r : LR) {e w : Nat} {I' : Mm}, r.1 = e → r.2.1 = w → cH M e w I' → LE A B n i r I' := fun r e w I' h1 h2 hh => LE_c h1 h2 (cH_b hh Mr)
  unfold pRd_readReg_4 fRd_readReg_4
  refine sqr (cl_ex (J := J) (s := 1) Nm (Or.inl rfl) hT tM MS si2 (by decide) (by omega) (fun r z I' => pRd_readReg_9 z I' J ∧ LE A B n i r (fRd_readReg_9 z I' J)) (fun r e w he h1 h2 I' hb _ => ?_) (fun si3 I1 S1 => ?_))
  · have t := tReg9 (J := J) hb 0
    exact ⟨t.1, bad _ h1 h2 t.2⟩
  have g1 := fr_k7 S1.1
  have e37 : I1 3 7 = nI rb := by rw [g1.2.2.2.2.2.2.2.2 7 (by decide), M3]; exact h37
  have e8 : (8 : Int32) - nI rb = nI (8 - rb) := pk_sub (a := 8) hrb
  unfold pRd_readReg_9 fRd_readReg_9
  rw [e37, e8]
  refine sqr (cl_num (J := J) (lo := 1) (hi' := 8 - rb) Nm (Or.inl rfl) hT tM S1 si3 (by omega) (by omega) (by omega) (fun r z I' => pRd_readReg_25 z I' J ∧ LE A B n i r (fRd_readReg_25 z I' J)) (fun r e w he h1 h2 I' hb => ?_) (fun b1 b2 si4 I2 S2 => ?_))
  · have t := tReg25 (J := J) hb 0
    exact ⟨t.1, bad _ h1 h2 t.2⟩
  generalize B.2.1 (i + 1 + 1 + 1) = b at b1 b2
  unfold pRd_readReg_25 fRd_readReg_25
  refine sqr (cl_ex (J := J) (s := 2) Nm (Or.inl rfl) hT tM S2 si4 (by decide) (by omega) (fun r z I' => pRd_readReg_31 (nI b) z I' J ∧ LE A B n i r (fRd_readReg_31 (nI b) z I' J)) (fun r e w he h1 h2 I' hb _ => ?_) (fun si5 I3 S3 => ?_))
  · have t := tReg31 (J := J) hb (nI b) 0
    exact ⟨t.1, bad _ h1 h2 t.2⟩
  have eb : ((1 : Int32) <<< (nI b &&& 31)) - 1 = nI (2 ^ b - 1) := (show ∀ b, b < 9 → ((1 : Int32) <<< (nI b &&& 31)) - 1 = nI (2 ^ b - 1) by decide +kernel) b (by omega)
  have h28 : 2 ^ b ≤ 2 ^ 8 := Nat.pow_le_pow_right (by decide) (by omega)
  have hb0 : 0 < 2 ^ b := Nat.two_pow_pos b
  unfold pRd_readReg_31 fRd_readReg_31
  rw [eb]
  refine sqr (cl_num (J := J) (lo := 0) (hi' := 2 ^ b - 1) Nm (Or.inl rfl) hT tM S3 si5 (by omega) (by omega) (by omega) (fun r z I' => pRd_readReg_42 (nI b) z I' J ∧ LE A B n i r (fRd_readReg_42 (nI b) z I' J)) (fun r e w he h1 h2 I' hb => ?_) (fun b3 b4 si6 I4 S4 => ?_))
  · have t := tReg42 (J := J) hb (nI b) 0
    exact ⟨t.1, bad _ h1 h2 t.2⟩
  generalize B.2.1 (i + 1 + 1 + 1 + 1 + 1) = v at b3 b4
  unfold pRd_readReg_42 fRd_readReg_42
  refine sqr (cl_ex (J := J) (s := 0) Nm (Or.inl rfl) hT tM S4 si6 (by decide) (by omega) (fun r z I' => pRd_readReg_48 (nI b) (nI v) z I' J ∧ LE A B n i r (fRd_readReg_48 (nI b) (nI v) z I' J)) (fun r e w he h1 h2 I' hb hcH => ?_) (fun si7 I5 S5 => ?_))
  · unfold pRd_readReg_48 fRd_readReg_48
    exact itp rfl ⟨trivial, bad _ h1 h2 hcH⟩
  unfold pRd_readReg_48 fRd_readReg_48
  refine itn (by decide) ?_
  have g5 := fr_k7 S5.1
  have gr := fr_r (Or.inl rfl) S5.1
  unfold pCi_addReg fCi_addReg
  have f37 : I5 3 7 = nI rb := by rw [g5.2.2.2.2.2.2.2.2 7 (by decide), M3]; exact h37
  have f310 : I5 3 10 = nI fi := by rw [g5.2.2.2.2.2.2.2.2 10 (by decide), M3]; exact h310
  have hf256 : fi < 256 := Nat.lt_of_lt_of_le hfi (Nat.le_trans (Nat.pow_le_pow_right (by decide) hrb) (by decide))
  rw [f37, f310, nI_add, nI_sor hf256 (by omega) (by omega)]
  have fin := cl_fin (J := J) (kd := 29) (b := b) (pt := rb + b) (j := i + 1 + 1 + 1 + 1 + 1 + 1 + 1) (co' := co) (rb' := rb + b) (ib' := ib) (sp' := sp) (fi' := fi * 2 ^ b + v) (CL' := CL) (CF' := CF) (I5 := pm_u (pm_u I5 3 7 (nI (rb + b))) 3 10 (nI (fi * 2 ^ b + v))) h h60 ⟨?_, ?_, ?_, ?_, fun k hk => ?_, ?_⟩ (fun a ha => ?_) ?_ ?_ ?_ ?_ ?_ ?_ ?_ ?_ ?_ ?_ ?_ ?_ ?_ ?_ ?_
  · refine sqt (sqt ⟨fin.1, fun _ => ⟨fin.2, ?_, ?_⟩, fun q => absurd rfl q⟩)
    · refine ⟨si7, hco, nmOk_a hok h60 (by omega) k43 (show (29 : Nat) < 50 by decide), by omega, by omega, hib, hsp, ?_, fun k hk => ?_⟩
      · rw [Nat.pow_add]
        have : fi * 2 ^ b + 2 ^ b ≤ 2 ^ rb * 2 ^ b := by rw [← Nat.succ_mul]; exact Nat.mul_le_mul_right _ hfi
        omega
      · have := hHn k hk; rw [List.length_append]; omega
    · show i < i + 1 + 1 + 1 + 1 + 1 + 1 + 1
      omega
  · rw [pm_u_n _ _ _ (by decide), pm_u_n _ _ _ (by decide), g5.1]; exact Ma 4 (by decide) (by decide)
  · rw [pm_u_n _ _ _ (by decide), pm_u_n _ _ _ (by decide), g5.2.1]; exact Ma 5 (by decide) (by decide)
  · rw [pm_u_n _ _ _ (by decide), pm_u_n _ _ _ (by decide), g5.2.2.1]; exact Ma 6 (by decide) (by decide)
  · rw [pm_u_n _ _ _ (by decide), pm_u_n _ _ _ (by decide), g5.2.2.2.2.1]; exact Ma 15 (by decide) (by decide)
  · rw [pm_u_n _ _ _ (by decide), pm_u_n _ _ _ (by decide), g5.2.2.2.1]; exact M14 k hk
  · rw [pm_u_n _ _ _ (by decide), pm_u_n _ _ _ (by decide), g5.2.2.2.1]; exact Mt
  · rw [pm_u_n _ _ _ (by omega), pm_u_n _ _ _ (by omega), gr a ha]; exact Mr a ha
  · rw [pm_u_n _ _ _ (by decide), pm_u_n _ _ _ (by decide)]; exact S5.2.2.1
  · rw [pm_u_n _ _ _ (by decide), pm_u_n _ _ _ (by decide), S5.2.2.2.1, Mr 18 (by decide)]
  · rw [pm_u_n _ _ _ (by decide), pm_u_n _ _ _ (by decide), S5.2.2.2.2.1]; exact nI_0
  · rw [pm_u_n _ _ _ (by decide), pm_u_n _ _ _ (by decide)]; exact S5.2.2.2.2.2.1
  · rw [pm_u_n _ _ _ (by decide), pm_u_n _ _ _ (by decide), S5.2.2.2.2.2.2.2.2.2, Mj 10 (by decide) (by decide)]; exact h10
  · rw [pm_u_j _ _ _ (by decide), pm_u_j _ _ _ (by decide), g5.2.2.2.2.2.2.2.2 5 (by decide), M3]; exact h35
  · rw [pm_u_j _ _ _ (by decide), pm_u_j _ _ _ (by decide), g5.2.2.2.2.2.2.2.2 6 (by decide), M3]; exact h36
  · rw [pm_u_j _ _ _ (by decide), pm_u_s]
  · rw [pm_u_j _ _ _ (by decide), pm_u_j _ _ _ (by decide), g5.2.2.2.2.2.2.2.2 8 (by decide), M3]; exact h38
  · rw [pm_u_j _ _ _ (by decide), pm_u_j _ _ _ (by decide)]; exact S5.2.1
  · rw [pm_u_s]
  · rw [pm_u_n _ _ _ (by decide), pm_u_n _ _ _ (by decide)]; exact S5.2.2.2.2.2.2.2.1
  · exact cod_c (by rw [pm_u_n _ _ _ (by decide), pm_u_n _ _ _ (by decide)]) (by rw [pm_u_n _ _ _ (by decide), pm_u_n _ _ _ (by decide)]) S5.2.2.2.2.2.2.2.2.1
  · rw [pm_u_n _ _ _ (by decide), pm_u_n _ _ _ (by decide), g5.2.2.2.2.2.1, Ma 10 (by decide) (by decide)]; exact hl2
  · exact cod_c (I := I) (by rw [pm_u_n _ _ _ (by decide), pm_u_n _ _ _ (by decide), g5.2.2.2.2.2.2.1, Ma 11 (by decide) (by decide)]) (by rw [pm_u_n _ _ _ (by decide), pm_u_n _ _ _ (by decide), g5.2.2.2.2.2.2.2.1, Ma 12 (by decide) (by decide)]) hc2
end
