/-! PARSE 10: the class's lines -/
/-- the class stands at a line's beginning -/
def cL (A : Mm) (s : LSt) (I : Mm) : Prop := match s with
  | (i, co, Nm, CL, CF, Hn, rb, ib, sp, fi) => (∀ a, (a < 3 ∨ 16 < a) → I a = A a) ∧ I 13 2 = nI i ∧ I 13 3 = A 18 i ∧ I 13 7 = 0 ∧ I 13 9 = 0 ∧ I 13 10 = 0 ∧ I 3 5 = nI Nm.length ∧ I 3 6 = nI sp ∧ I 3 7 = nI rb ∧ I 3 8 = nI ib ∧ I 3 9 = nI co ∧ I 3 10 = nI fi ∧ nmI I Nm ∧ hnI I Hn ∧ I 7 2 = nI CL.length ∧ cod I 7 CL ∧ I 10 2 = nI CF.length ∧ cod I 10 CF
def lOk (B : TB) (n : Nat) (s : LSt) : Prop := match s with
  | (i, co, Nm, CL, CF, Hn, rb, ib, sp, fi) => i < n ∧ co ≤ 3000 ∧ nmOk B n Nm ∧ CL.length + CF.length ≤ i ∧ rb ≤ 8 ∧ ib ≤ 3 ∧ sp ≤ 30 ∧ fi < 2 ^ rb ∧ (∀ k ∈ Hn, k < Nm.length)
def LE (A : Mm) (B : TB) (n : Nat) (i : Nat) (r : LR) (I : Mm) : Prop := (r.1 = 0 → cL A r.2.2 I ∧ lOk B n r.2.2 ∧ i < r.2.2.1) ∧ (r.1 ≠ 0 → cH A r.1 r.2.1 I)
theorem LE_f {A : Mm} {B : TB} {n i e w : Nat} {I : Mm} (h : cH A e w I) : LE A B n i (lf e w) I := ⟨fun q => absurd q h.2.1, fun _ => h⟩
theorem l_no1 (B : TB) (Nm : NmT) (i : Nat) : (l_no B i).1 = (sp_no (tT B Nm) i).1 ∧ (l_no B i).2.1 = (sp_no (tT B Nm) i).2.1 := by
  unfold l_no sp_no
  by_cases h : B.1 i = 47
  · rw [if_pos h, if_pos (show (tT B Nm).1 i = 47 from h)]; exact ⟨rfl, rfl⟩
  · rw [if_neg h, if_neg (show ¬ (tT B Nm).1 i = 47 from h)]; exact ⟨rfl, rfl⟩
theorem LE_no {A : Mm} {B : TB} {n i j : Nat} {I : Mm} (Nm : NmT) (h : cH A (sp_no (tT B Nm) j).1 (sp_no (tT B Nm) j).2.1 I) : LE A B n i (l_no B j) I := by
  have q := l_no1 B Nm j
  rw [← q.1, ← q.2] at h
  exact ⟨fun z => absurd z h.2.1, fun _ => h⟩
theorem cH_b {A A' : Mm} {e w : Nat} {I : Mm} (h : cH A' e w I) (hA : ∀ a, (a < 3 ∨ 16 < a) → A' a = A a) : cH A e w I := ⟨h.1, h.2.1, h.2.2.1, by rw [← hA 19 (by decide)]; exact h.2.2.2.1, h.2.2.2.2.1, fun a ha => (h.2.2.2.2.2 a ha).trans (hA a ha)⟩
theorem cS_rb {A : Mm} {q i co : Nat} {W : List Nat} {C : Cd} {I : Mm} (hq : q = 7 ∨ q = 10) (h : cS A q i W C co I) : cS I q i W C co I := by
  have f5 := fr_5 hq h.1
  obtain ⟨f, h39, h2, h3, h7, h9, hs16, hl, hc⟩ := h
  exact ⟨fun _ _ _ => rfl, h39, h2, by rw [h3, f5.2.1], h7, h9, hs16, hl, hc.1, rfl⟩
/-- a row that the reading of an expression does not use is written -/
theorem cS_w {q i co : Nat} {W : List Nat} {C : Cd} {I : Mm} {a j : Nat} {v : Int32} (ha : a = 14 ∨ a = 15) (hq : q = 7 ∨ q = 10) (h : cS I q i W C co I) : cS (pm_u I a j v) q i W C co (pm_u I a j v) := by
  obtain ⟨f, h39, h2, h3, h7, h9, hs16, hl, hc⟩ := h
  have e : ∀ b, b ≠ 14 → b ≠ 15 → pm_u I a j v b = I b := fun b h1 h2 => pm_u_n _ _ _ (by omega)
  refine ⟨fun _ _ _ => rfl, ?_, ?_, ?_, ?_, ?_, stk_c (e 16 (by decide) (by decide)) W hs16, ?_, cod_c (e _ (by omega) (by omega)) (e _ (by omega) (by omega)) hc.1, rfl⟩
  · rw [e 3 (by decide) (by decide)]; exact h39
  · rw [e 13 (by decide) (by decide)]; exact h2
  · rw [e 13 (by decide) (by decide), e 18 (by decide) (by decide)]; exact h3
  · rw [e 13 (by decide) (by decide)]; exact h7
  · rw [e 13 (by decide) (by decide)]; exact h9
  · rw [e q (by omega) (by omega)]; exact hl
section
variable {A : Mm} {J : Ml} {B : TB} {n : Nat}
theorem cL_S {i co rb ib sp fi : Nat} {Nm : NmT} {CL CF : Cd} {Hn : List Nat} {I : Mm} (h : cL A (i, co, Nm, CL, CF, Hn, rb, ib, sp, fi) I) : cS I 7 i [] CL co I ∧ cS I 10 i [] CF co I := by
  obtain ⟨f, h2, h3, h7, h9, h10, h35, h36, h37, h38, h39, h310, hn, hh, hl, hc, hl2, hc2⟩ := h
  have e18 := f 18 (by decide)
  exact ⟨⟨fun _ _ _ => rfl, h39, h2, by rw [h3, e18], h7.trans nI_0.symm, h9, trivial, hl, hc, rfl⟩, ⟨fun _ _ _ => rfl, h39, h2, by rw [h3, e18], h7.trans nI_0.symm, h9, trivial, hl2, hc2, rfl⟩⟩
theorem cL_F {i co rb ib sp fi : Nat} {Nm : NmT} {CL CF : Cd} {Hn : List Nat} {I I1 : Mm} (hM : bMem A B n) (hok : nmOk B n Nm) (h : cL A (i, co, Nm, CL, CF, Hn, rb, ib, sp, fi) I) (e3 : I1 3 5 = I 3 5) (e4 : I1 4 = I 4) (e5 : I1 5 = I 5) (e6 : I1 6 = I 6) (e14 : ∀ k, k < Nm.length → I1 14 k = I 14 k) (er : ∀ a, (a < 3 ∨ 16 < a) → I1 a = A a) : fMem I1 (tT B Nm) n := by
  obtain ⟨f, h2, h3, h7, h9, h10, h35, h36, h37, h38, h39, h310, hn, hh, hl, hc, hl2, hc2⟩ := h
  refine fMem_of hM hok (fun k x hx => ?_) (e3.trans h35) (er 19 (by decide)) (er 20 (by decide)) (er 2 (by decide))
  have z := hn k x hx
  have kl : k < Nm.length := by
    rcases Nat.lt_or_ge k Nm.length with q | q
    · exact q
    · rw [List.getElem?_eq_none q] at hx; cases hx
  rw [e14 k kl, e4, e5, e6]; exact z
/-- a new NAME: the WORD behind a line's word -/
theorem cl_new {q i co : Nat} {C : Cd} {Nm : NmT} {I I0 : Mm} (hq : q = 7 ∨ q = 10) (hT : bE B n) (hM : bMem A B n) (hok : nmOk B n Nm) (hF : fMem I0 (tT B Nm) n) (h35 : I0 3 5 = nI Nm.length) (er : ∀ a, (a < 3 ∨ 16 < a) → I0 a = A a) (h : cS I0 q i [] C co I) (hi : i < n) (hk : B.1 i < 45) (hC : C.length ≤ 4000) (P : LR → Mm → Prop) {k : Nat → LR}
    (hb : ∀ (r : LR) (e w : Nat), e ≠ 0 → r.1 = e → r.2.1 = w → ∀ I', cB I0 q e w I' → P r I')
    (hs : B.1 (i + 1) = 43 → Nm.length < 60 → i + 1 + 1 < n → ∀ I', cS I' q (i + 1 + 1) [] C co I' → (∀ a, a ≠ 13 → a ≠ 14 → I' a = I0 a) → (∀ j, j ≠ 2 → j ≠ 3 → I' 13 j = I 13 j) → I' 3 = I 3 → (∀ j, j < Nm.length → I' 14 j = I0 14 j) → I' 14 Nm.length = nI (i + 1) → P (k (i + 1 + 1)) I')
    (hfr : ∀ a, a ≠ 13 → I a = I0 a) : pRd_readNewName I J ∧ P (l_new B Nm (i + 1) k) (fRd_readNewName I J) := by
  have hn := hT.2.1
  have tM := bMem_T hM (er 17 (by decide)) (er 18 (by decide)) (er 21 (by decide)) Nm
  have a := cS_adv (J := J) hq (bE_T hT Nm) tM h hi hk
  have si := tEnd_s (bE_T hT Nm) hi hk
  unfold pRd_readNewName fRd_readNewName
  refine sq a.1 ?_
  have a13 : ∀ b, b ≠ 13 → fRd_advance I J b = I b := by
    intro b hb
    unfold fRd_advance
    split
    · rfl
    · split
      · rfl
      · rw [pm_u_n _ _ _ hb, pm_u_n _ _ _ hb]
  have a13j : ∀ j, j ≠ 2 → j ≠ 3 → fRd_advance I J 13 j = I 13 j := by
    intro j h2 h3
    unfold fRd_advance
    split
    · rfl
    · split
      · rfl
      · rw [pm_u_j _ _ _ h3, pm_u_j _ _ _ h2]
  have a2 := a.2
  clear a
  generalize fRd_advance I J = I1 at a2 a13 a13j
  have e3 := cS_kind tM a2 si
  have f5 := fr_5 hq a2.1
  have k48 := hT.2.2.1 _ si
  unfold pRd_readNewName_4 fRd_readNewName_4 pRd_readNewName_25 fRd_readNewName_25 pRd_readNewName_40 fRd_readNewName_40 pRd_readNewName_54 fRd_readNewName_54
  by_cases k43 : B.1 (i + 1) = 43
  rotate_left
  · have r := cS_refuse (J := J) hq (bE_T hT Nm) tM a2 si (by simp) hC
    have c : ¬ I1 13 3 = (43 : Int32) := fun q => k43 ((nI_eq (a := B.1 (i + 1)) (b := 43) (by omega) (by decide)).mp (e3.symm.trans q))
    have e : l_new B Nm (i + 1) k = l_no B (i + 1) := by unfold l_new; rw [if_neg k43]
    have ln := l_no1 B Nm (i + 1)
    rw [e]
    exact itn c (sq r.1 ⟨trivial, hb _ _ _ (sp_no1 _ _) ln.1 ln.2 _ r.2⟩)
  have c : I1 13 3 = (43 : Int32) := by rw [e3]; show nI (B.1 (i + 1)) = _; rw [k43]; rfl
  refine itp c ?_
  have fm := hF I1 J (i + 1) si k43 f5.2.2.2.2.2.2.2.2.2.2 f5.2.2.2.2.2.1 a2.2.2.1 f5.2.2.1 f5.2.2.2.1 f5.2.2.2.2.2.2.2.2.1
  refine sq fm.1 ?_
  cases ho : fnd B.2.2 Nm 0 (i + 1) with
  | some r =>
    obtain ⟨e, k60, -, -, -⟩ := fm.2.1 r ho
    have c2 : ¬ fRd_findName 61 I1 J < 0 := by rw [e]; exact nI_pos (by omega)
    have hl := cS_halt (J := J) hq a2 (by omega) (by simp) hC (e := 2) (by decide) (by decide)
    have en : l_new B Nm (i + 1) k = lf 2 (i + 1) := by unfold l_new; rw [if_pos k43, ho]
    rw [en]
    exact itn c2 (sq hl.1 ⟨trivial, hb _ 2 (i + 1) (by decide) rfl rfl _ hl.2⟩)
  | none =>
    have e := fm.2.2 ho
    have c2 : fRd_findName 61 I1 J < 0 := by rw [e]; decide
    refine itp c2 ?_
    have e35 : I1 3 5 = nI Nm.length := f5.2.2.2.2.2.2.2.2.2.2.trans h35
    have hl6 := hok.1
    rw [e35]
    by_cases h60 : Nm.length < 60
    · have c6 : nI Nm.length < (60 : Int32) := nI_lt (a := Nm.length) (b := 60) h60 (by decide)
      have en : l_new B Nm (i + 1) k = k (i + 1 + 1) := by unfold l_new; rw [if_pos k43, ho]; exact if_pos h60
      rw [en]
      refine itp c6 ?_
      rw [nI_clamp (by omega), a2.2.2.1]
      have b1 := cS_w (v := nI (i + 1)) (j := Nm.length) (Or.inl rfl) hq (cS_rb hq a2)
      have tM2 : tMem (pm_u I1 14 Nm.length (nI (i + 1))) (tT B Nm) n := bMem_T hM (by rw [pm_u_n _ _ _ (by decide), f5.1]; exact er 17 (by decide)) (by rw [pm_u_n _ _ _ (by decide), f5.2.1]; exact er 18 (by decide)) (by rw [pm_u_n _ _ _ (by decide), f5.2.2.2.2.1]; exact er 21 (by decide)) Nm
      have ad := cS_adv (J := J) hq (bE_T hT Nm) tM2 b1 si (show B.1 (i + 1) < 45 by omega)
      have si2 := tEnd_s (bE_T hT Nm) si (show B.1 (i + 1) < 45 by omega)
      have d13 : ∀ b, b ≠ 13 → fRd_advance (pm_u I1 14 Nm.length (nI (i + 1))) J b = pm_u I1 14 Nm.length (nI (i + 1)) b := by
        intro b hb
        unfold fRd_advance
        split
        · rfl
        · split
          · rfl
          · rw [pm_u_n _ _ _ hb, pm_u_n _ _ _ hb]
      have d13j : ∀ j, j ≠ 2 → j ≠ 3 → fRd_advance (pm_u I1 14 Nm.length (nI (i + 1))) J 13 j = pm_u I1 14 Nm.length (nI (i + 1)) 13 j := by
        intro j h2 h3
        unfold fRd_advance
        split
        · rfl
        · split
          · rfl
          · rw [pm_u_j _ _ _ h3, pm_u_j _ _ _ h2]
      refine sq (vp_in_nI h60 (by decide)) (sqt ⟨ad.1, hs k43 h60 si2 _ (cS_rb hq ad.2) (fun b h1 h2 => ?_) (fun j h1 h2 => ?_) ?_ (fun j hj => ?_) ?_⟩)
      · rw [d13 b h1, pm_u_n _ _ _ h2, a13 b h1, hfr b h1]
      · rw [d13j j h1 h2, pm_u_n _ _ _ (by decide), a13j j h1 h2]
      · rw [d13 3 (by decide), pm_u_n _ _ _ (by decide), a13 3 (by decide)]
      · rw [d13 14 (by decide), pm_u_j _ _ _ (by omega), a13 14 (by decide), hfr 14 (by decide)]
      · rw [d13 14 (by decide), pm_u_s]
    · have c6 : ¬ nI Nm.length < (60 : Int32) := nI_nlt (a := Nm.length) (b := 60) (by omega) (by omega)
      have hl := cS_halt (J := J) hq a2 (by omega) (by simp) hC (e := 4) (by decide) (by decide)
      have en : l_new B Nm (i + 1) k = lf 4 (i + 1) := by unfold l_new; rw [if_pos k43, ho]; exact if_neg h60
      rw [en]
      exact itn c6 (sq hl.1 ⟨trivial, hb _ 4 (i + 1) (by decide) rfl rfl _ hl.2⟩)
end
