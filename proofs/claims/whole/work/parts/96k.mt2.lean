/-! MODEL'S TOKENS 2: peek, take, must, cant, nest -/
def mP (b : Nat → Nat) (L i : Nat) (M : Mm) : Prop := M 40 10 = 0 ∧ M 40 5 = nI (tP b L i) ∧ M 40 9 = nI i
def mQ (b : Nat → Nat) (L i : Nat) (M : Mm) : Prop := M 40 10 = 1 ∧ M 40 5 = nI (tF b L i) ∧ M 40 6 = nI (mt (tK b L i)) ∧ M 40 7 = nI (tF b L i) ∧ M 40 8 = nI (tF b L i + tZ b L i) ∧ M 40 9 = nI (if tK b L i = 45 then i else i + 1) ∧ tK b L i ≠ 47
def mN (b : Nat → Nat) (L i : Nat) (M : Mm) : Prop := mP b L i M ∨ mQ b L i M
/-- only what peek and take may change has changed -/
def mfr (M M' : Mm) : Prop := (∀ a, a ≠ 40 → M' a = M a) ∧ ∀ j, (j < 5 ∨ 10 < j) → M' 40 j = M 40 j
def mw (M M' : Mm) : Prop := ∀ a, (a < 40 ∨ 59 < a) → M' a = M a
theorem mfr_r (M : Mm) : mfr M M := ⟨fun _ _ => rfl, fun _ _ => rfl⟩
theorem mfr_t {M M' M'' : Mm} (h : mfr M M') (h' : mfr M' M'') : mfr M M'' := ⟨fun a ha => (h'.1 a ha).trans (h.1 a ha), fun j hj => (h'.2 j hj).trans (h.2 j hj)⟩
theorem mfr_u {M M' : Mm} {j : Nat} {v : Int32} (h : mfr M M') (hj : 5 ≤ j ∧ j ≤ 10) : mfr M (pm_u M' 40 j v) := ⟨fun a ha => (pm_u_n _ _ _ ha).trans (h.1 a ha), fun k hk => (pm_u_j _ _ _ (by omega)).trans (h.2 k hk)⟩
theorem mfr_w {M M' : Mm} (h : mfr M M') : mw M M' := fun a ha => h.1 a (by omega)
theorem mBy_f {M M' : Mm} {b : Nat → Nat} {L : Nat} (h : mBy M b L) (f : mfr M M') : mBy M' b L := mBy_c h (f.2 1 (by decide)) (f.1 41 (by decide)) (f.2 3 (by decide)) (f.2 4 (by decide))
section
variable {b : Nat → Nat} {L : Nat}
theorem m_wrun (y : Int32) (Q : Int32 × Int32 × Int32 × Mm → Prop) : ∀ (n p : Nat) (M : Mm), mBy M b L → M 40 8 = nI p → p ≤ L → L - p < n → (pMo_peek_173 y (pm_u M 40 8 (nI (rn isW b L n p))) ∧ Q (fMo_peek_173 y (pm_u M 40 8 (nI (rn isW b L n p))))) → pMo_peek_105 n y M ∧ Q (fMo_peek_105 n y M) := by
  intro n
  induction n with
  | zero => intro p M _ _ _ h; omega
  | succ n ih =>
    intro p M hB h8 hp hn hQ
    have hl := hB.2.1
    rw [pMo_peek_105.eq_2, fMo_peek_105.eq_2]
    unfold pMo_peek_160 fMo_peek_160
    unfold rn at hQ
    rw [hB.1, h8]
    by_cases c : L ≤ p
    · have c' : nI L ≤ nI p := nI_le c (by omega)
      rw [if_pos c, ← h8, pm_ui] at hQ
      exact itp c' hQ
    have c' : ¬ nI L ≤ nI p := nI_ge (by omega) (by omega)
    rw [if_neg c] at hQ
    have bp := hB.2.2.1 p (by omega)
    have v : vp_in (nI p) 65536 := vp_in_nI (by omega) (by decide)
    have ml := mLet (b p) bp.2
    refine itn c' ?_
    rw [nI_clamp (by omega), bp.1, ml.1, ml.2, nI_1]
    have nxt : isW (b p) = true → pMo_peek_105 n y (pm_u M 40 8 (nI (p + 1))) ∧ Q (fMo_peek_105 n y (pm_u M 40 8 (nI (p + 1)))) := by
      intro d
      rw [if_pos d] at hQ
      refine ih (p + 1) (pm_u M 40 8 (nI (p + 1))) (mBy_c hB (pm_u_j _ _ _ (by decide)) (pm_u_n _ _ _ (by decide)) (pm_u_j _ _ _ (by decide)) (pm_u_j _ _ _ (by decide))) (pm_u_s _ _ _ _) (by omega) (by omega) ?_
      rw [pm_uu]; exact hQ
    refine sq v (sq (pLDm _).1 ?_)
    by_cases l1 : isL (b p) = true
    · exact itn (fun q => (i10.mp q) l1) (nxt (by unfold isW; rw [l1]; rfl))
    refine itp (i10.mpr l1) (sq v (sq (pLDm _).2 ?_))
    by_cases d1 : isD (b p) = true
    · exact itn (fun q => (i10.mp q) d1) (nxt (by unfold isW; rw [d1, Bool.or_true]; rfl))
    refine itp (i10.mpr d1) (sq v ?_)
    by_cases u1 : b p = 95
    · exact itp ((sbE bp.2 (t := 95) (by decide)).mpr u1) (nxt (by unfold isW; rw [decide_eq_true u1, Bool.or_true]))
    · have nw : ¬ isW (b p) = true := by
        unfold isW
        simp [l1, d1, u1]
      rw [if_neg nw, ← h8, pm_ui] at hQ
      exact itn (fun q => u1 ((sbE bp.2 (t := 95) (by decide)).mp q)) hQ
theorem m_drun (y : Int32) (Q : Int32 × Int32 × Int32 × Mm → Prop) : ∀ (n p : Nat) (M : Mm), mBy M b L → M 40 8 = nI p → p ≤ L → L - p < n → (pMo_peek_245 y (pm_u M 40 8 (nI (rn isD b L n p))) ∧ Q (fMo_peek_245 y (pm_u M 40 8 (nI (rn isD b L n p))))) → pMo_peek_206 n y M ∧ Q (fMo_peek_206 n y M) := by
  intro n
  induction n with
  | zero => intro p M _ _ _ h; omega
  | succ n ih =>
    intro p M hB h8 hp hn hQ
    have hl := hB.2.1
    rw [pMo_peek_206.eq_2, fMo_peek_206.eq_2]
    unfold rn at hQ
    rw [hB.1, h8]
    by_cases c : L ≤ p
    · have c' : nI L ≤ nI p := nI_le c (by omega)
      rw [if_pos c, ← h8, pm_ui] at hQ
      exact itp c' hQ
    have c' : ¬ nI L ≤ nI p := nI_ge (by omega) (by omega)
    rw [if_neg c] at hQ
    have bp := hB.2.2.1 p (by omega)
    have v : vp_in (nI p) 65536 := vp_in_nI (by omega) (by decide)
    have ml := mLet (b p) bp.2
    refine itn c' ?_
    rw [nI_clamp (by omega), bp.1, ml.2, nI_1]
    refine sq v (sq (pLDm _).2 ?_)
    by_cases d1 : isD (b p) = true
    · rw [if_pos d1] at hQ
      refine itn (fun q => (i10.mp q) d1) ?_
      refine ih (p + 1) (pm_u M 40 8 (nI (p + 1))) (mBy_c hB (pm_u_j _ _ _ (by decide)) (pm_u_n _ _ _ (by decide)) (pm_u_j _ _ _ (by decide)) (pm_u_j _ _ _ (by decide))) (pm_u_s _ _ _ _) (by omega) (by omega) ?_
      rw [pm_uu]; exact hQ
    · rw [if_neg d1, ← h8, pm_ui] at hQ
      exact itp (i10.mpr d1) hQ
/-- what peek answers -/
def pkR (b : Nat → Nat) (L i : Nat) (M : Mm) (r : Int32 × Int32 × Int32 × Mm) : Prop := mw M r.2.2.2 ∧ (tK b L i = 47 → r.1 = 4 ∧ r.2.1 = nI (tF b L i)) ∧ (tK b L i ≠ 47 → r.1 = 0 ∧ r.2.2.1 = nI (mt (tK b L i)) ∧ mQ b L i r.2.2.2 ∧ mfr M r.2.2.2)
set_option maxHeartbeats 4000000 in
theorem m_peek {M : Mm} {i : Nat} (hB : mBy M b L) (hi : i ≤ 4000) (h : mN b L i M) : pMo_peek 65537 65537 M ∧ pkR b L i M (fMo_peek 65537 65537 M) := by
  have hl := hB.2.1
  have hb := fun q hq => (hB.2.2.1 q hq).2
  unfold pMo_peek fMo_peek
  rcases h with ⟨h10, h5, h9⟩ | hq
  rotate_left
  · have c : ¬ M 40 10 = 0 := by rw [hq.1]; decide
    exact itn c ⟨trivial, fun _ _ => rfl, fun q => absurd q hq.2.2.2.2.2.2, fun _ => ⟨rfl, hq.2.2.1, hq, mfr_r M⟩⟩
  refine itp h10 ?_
  have tp := tP_le hb i
  have tf := tF_le hb i
  have pt := m_parts (b := b) 65537 (tP b L i) M hB h5 tp (by omega)
  refine sq pt.1 ?_
  rw [pt.2]
  have ef : skp b L 65537 false (tP b L i) = tF b L i := rfl
  rw [ef]
  generalize e1 : pm_u M 40 5 (nI (tF b L i)) = M1
  have f1 : mfr M M1 := by rw [← e1]; exact mfr_u (mfr_r M) (by decide)
  have g5 : M1 40 5 = nI (tF b L i) := by rw [← e1, pm_u_s]
  have g1 : M1 40 1 = nI L := (f1.2 1 (by decide)).trans hB.1
  have g9 : M1 40 9 = nI i := by rw [← e1, pm_u_j _ _ _ (by decide)]; exact h9
  unfold pMo_peek_16 fMo_peek_16
  rw [g5, g1, g9, nI_1]
  have tkd : tK b L i = (tok b L i (tF b L i)).1 := rfl
  have tzd : tZ b L i = (tok b L i (tF b L i)).2 := rfl
  by_cases cL : L ≤ tF b L i
  · have eL : tF b L i = L := by omega
    have et : tok b L i (tF b L i) = (45, 0) := by unfold tok; rw [if_pos cL]
    rw [et] at tkd tzd
    refine itp (by rw [eL]) ⟨trivial, ?_⟩
    refine ⟨mfr_w (mfr_t f1 (mfr_u (mfr_u (mfr_u (mfr_u (mfr_r M1) (by decide)) (by decide)) (by decide)) (by decide))), fun q => absurd (tkd.symm.trans q) (by decide), fun _ => ⟨rfl, ?_, ⟨?_, ?_, ?_, ?_, ?_, ?_, ?_⟩, mfr_t f1 (mfr_u (mfr_u (mfr_u (mfr_u (mfr_r M1) (by decide)) (by decide)) (by decide)) (by decide))⟩⟩
    · show (0 : Int32) = nI (mt (tK b L i)); rw [tkd]; rfl
    · show (pm_u (pm_u (pm_u (pm_u M1 40 10 1) 40 7 (nI (tF b L i))) 40 8 (nI (tF b L i))) 40 6 0) 40 10 = 1
      rw [pm_u_j _ _ _ (by decide), pm_u_j _ _ _ (by decide), pm_u_j _ _ _ (by decide), pm_u_s]
    · show (pm_u (pm_u (pm_u (pm_u M1 40 10 1) 40 7 (nI (tF b L i))) 40 8 (nI (tF b L i))) 40 6 0) 40 5 = _
      rw [pm_u_j _ _ _ (by decide), pm_u_j _ _ _ (by decide), pm_u_j _ _ _ (by decide), pm_u_j _ _ _ (by decide)]; exact g5
    · show (pm_u (pm_u (pm_u (pm_u M1 40 10 1) 40 7 (nI (tF b L i))) 40 8 (nI (tF b L i))) 40 6 0) 40 6 = _
      rw [pm_u_s, tkd]; rfl
    · show (pm_u (pm_u (pm_u (pm_u M1 40 10 1) 40 7 (nI (tF b L i))) 40 8 (nI (tF b L i))) 40 6 0) 40 7 = _
      rw [pm_u_j _ _ _ (by decide), pm_u_j _ _ _ (by decide), pm_u_s]
    · show (pm_u (pm_u (pm_u (pm_u M1 40 10 1) 40 7 (nI (tF b L i))) 40 8 (nI (tF b L i))) 40 6 0) 40 8 = _
      rw [pm_u_j _ _ _ (by decide), pm_u_s, tzd]; rfl
    · show (pm_u (pm_u (pm_u (pm_u M1 40 10 1) 40 7 (nI (tF b L i))) 40 8 (nI (tF b L i))) 40 6 0) 40 9 = _
      rw [pm_u_j _ _ _ (by decide), pm_u_j _ _ _ (by decide), pm_u_j _ _ _ (by decide), pm_u_j _ _ _ (by decide), g9, tkd]; rfl
    · rw [tkd]; decide
  refine itn (fun q => cL (by have := (nI_eq (by omega) (by omega)).mp q; omega)) ?_
  generalize e2 : pm_u (pm_u (pm_u (pm_u (pm_u M1 40 10 1) 40 7 (nI (tF b L i))) 40 8 (nI (tF b L i))) 40 6 0) 40 9 (nI (i + 1)) = X
  have fX : mfr M X := by rw [← e2]; exact mfr_t f1 (mfr_u (mfr_u (mfr_u (mfr_u (mfr_u (mfr_r M1) (by decide)) (by decide)) (by decide)) (by decide)) (by decide))
  have x10 : X 40 10 = 1 := by rw [← e2, pm_u_j _ _ _ (by decide), pm_u_j _ _ _ (by decide), pm_u_j _ _ _ (by decide), pm_u_j _ _ _ (by decide), pm_u_s]
  have x5 : X 40 5 = nI (tF b L i) := by rw [← e2, pm_u_j _ _ _ (by decide), pm_u_j _ _ _ (by decide), pm_u_j _ _ _ (by decide), pm_u_j _ _ _ (by decide), pm_u_j _ _ _ (by decide)]; exact g5
  have x7 : X 40 7 = nI (tF b L i) := by rw [← e2, pm_u_j _ _ _ (by decide), pm_u_j _ _ _ (by decide), pm_u_j _ _ _ (by decide), pm_u_s]
  have x8 : X 40 8 = nI (tF b L i) := by rw [← e2, pm_u_j _ _ _ (by decide), pm_u_j _ _ _ (by decide), pm_u_s]
  have x9 : X 40 9 = nI (i + 1) := by rw [← e2, pm_u_s]
  have hX : mBy X b L := mBy_f hB fX
  have v : vp_in (nI (tF b L i)) 65536 := vp_in_nI (by omega) (by decide)
  have bp := hB.2.2.1 (tF b L i) (by omega)
  have xb : X 41 (tF b L i) = sb (b (tF b L i)) := (hX.2.2.1 (tF b L i) (by omega)).1
  have ml := mLet (b (tF b L i)) bp.2
  by_cases ci : 4000 ≤ i
  · have et : tok b L i (tF b L i) = (47, 0) := by unfold tok; rw [if_neg cL, if_pos ci]
    rw [et] at tkd
    refine itp (by rw [show i = 4000 by omega]; rfl) ⟨trivial, mfr_w fX, fun _ => ⟨rfl, rfl⟩, fun q => absurd tkd q⟩
  refine itn (fun q => ci (by have := (nI_eq (a := i + 1) (b := 4001) (by omega) (by decide)).mp q; omega)) ?_
  rw [nI_clamp (by omega), xb, ml.1, ml.2]
  -- the end of peek
  have fin : ∀ (k z : Nat) (M9 : Mm), tok b L i (tF b L i) = (k, z) → k ≠ 45 → k ≠ 47 → mfr X M9 → M9 40 10 = 1 → M9 40 5 = nI (tF b L i) → M9 40 7 = nI (tF b L i) → M9 40 8 = nI (tF b L i + z) → M9 40 9 = nI (i + 1) → M9 40 6 = nI (mt k) → ∀ y, pMo_peek_319 y M9 ∧ pkR b L i M (fMo_peek_319 y M9) := by
    intro k z M9 et k5 k7 f9 q10 q5 q7 q8 q9 q6 y
    rw [et] at tkd tzd
    have tkd : tK b L i = k := tkd
    have tzd : tZ b L i = z := tzd
    unfold pMo_peek_319 fMo_peek_319
    refine ⟨trivial, mfr_w (mfr_t fX f9), fun q => absurd (tkd.symm.trans q) k7, fun _ => ⟨rfl, ?_, ⟨q10, q5, ?_, q7, ?_, ?_, ?_⟩, mfr_t fX f9⟩⟩
    · show M9 40 6 = _; rw [q6, tkd]
    · show M9 40 6 = _; rw [q6, tkd]
    · show M9 40 8 = _; rw [q8, tzd]
    · show M9 40 9 = _; rw [q9, tkd, if_neg k5]
    · rw [tkd]; exact k7
  refine sq v (sq (pLDm _).1 ?_)
  by_cases l1 : isL (b (tF b L i)) = true
  · refine itn (fun q => (i10.mp q) l1) ?_
    have hw : isW (b (tF b L i)) = true := by unfold isW; rw [l1]; rfl
    have r1 := rn_1 isW b L 65536 (tF b L i) (by omega) hw
    have r2 := rn_le isW b L 65537 (tF b L i) tf
    have et : tok b L i (tF b L i) = (if rn isW b L 65537 (tF b L i) - tF b L i ≤ 31 then wkind b (tF b L i) (rn isW b L 65537 (tF b L i) - tF b L i) else 46, rn isW b L 65537 (tF b L i) - tF b L i) := by unfold tok; rw [if_neg cL, if_neg ci, if_pos l1]
    refine m_wrun (sb (b (tF b L i))) (pkR b L i M) 65537 (tF b L i) X hX x8 tf (by omega) ?_
    have r1 : tF b L i < rn isW b L 65537 (tF b L i) := r1
    generalize rn isW b L 65537 (tF b L i) = e at r1 r2 et
    have wk := wk_le b (tF b L i) (e - tF b L i)
    unfold pMo_peek_173 fMo_peek_173 pMo_peek_193 fMo_peek_193
    rw [pm_u_s, pm_u_j _ _ _ (by decide), x5, pk_sub (by omega)]
    by_cases c31 : e - tF b L i ≤ 31
    · rw [if_pos c31] at et
      refine itp (nI_le (a := e - tF b L i) (b := 31) c31 (by decide)) (fin _ _ _ et (by omega) (by omega) (mfr_u (mfr_u (mfr_r X) (by decide)) (by decide)) ?_ ?_ ?_ ?_ ?_ ?_ _)
      · rw [pm_u_j _ _ _ (by decide), pm_u_j _ _ _ (by decide)]; exact x10
      · rw [pm_u_j _ _ _ (by decide), pm_u_j _ _ _ (by decide)]; exact x5
      · rw [pm_u_j _ _ _ (by decide), pm_u_j _ _ _ (by decide)]; exact x7
      · rw [pm_u_j _ _ _ (by decide), pm_u_s]; congr 1; omega
      · rw [pm_u_j _ _ _ (by decide), pm_u_j _ _ _ (by decide)]; exact x9
      · rw [pm_u_s]
        unfold mt
        rw [if_neg (by omega), if_neg (by omega), if_pos (by omega)]; rfl
    · rw [if_neg c31] at et
      refine itn (nI_ge (a := 31) (b := e - tF b L i) (by omega) (by omega)) (fin _ _ _ et (by decide) (by decide) (mfr_u (mfr_u (mfr_r X) (by decide)) (by decide)) ?_ ?_ ?_ ?_ ?_ ?_ _)
      · rw [pm_u_j _ _ _ (by decide), pm_u_j _ _ _ (by decide)]; exact x10
      · rw [pm_u_j _ _ _ (by decide), pm_u_j _ _ _ (by decide)]; exact x5
      · rw [pm_u_j _ _ _ (by decide), pm_u_j _ _ _ (by decide)]; exact x7
      · rw [pm_u_j _ _ _ (by decide), pm_u_s]; congr 1; omega
      · rw [pm_u_j _ _ _ (by decide), pm_u_j _ _ _ (by decide)]; exact x9
      · rw [pm_u_s]; rfl
  refine itp (i10.mpr l1) (sq (pLDm _).2 ?_)
  by_cases d1 : isD (b (tF b L i)) = true
  · refine itn (fun q => (i10.mp q) d1) ?_
    have r1 := rn_1 isD b L 65536 (tF b L i) (by omega) d1
    have r2 := rn_le isD b L 65537 (tF b L i) tf
    have et : tok b L i (tF b L i) = (if rn isD b L 65537 (tF b L i) - tF b L i ≤ 9 then 44 else 46, rn isD b L 65537 (tF b L i) - tF b L i) := by unfold tok; rw [if_neg cL, if_neg ci, if_neg l1, if_pos d1]
    refine m_drun (sb (b (tF b L i))) (pkR b L i M) 65537 (tF b L i) X hX x8 tf (by omega) ?_
    have r1 : tF b L i < rn isD b L 65537 (tF b L i) := r1
    generalize rn isD b L 65537 (tF b L i) = e at r1 r2 et
    unfold pMo_peek_245 fMo_peek_245 pMo_peek_265 fMo_peek_265
    rw [pm_u_s, pm_u_j _ _ _ (by decide), x5, pk_sub (by omega)]
    by_cases c9 : e - tF b L i ≤ 9
    · rw [if_pos c9] at et
      refine itp (nI_le (a := e - tF b L i) (b := 9) c9 (by decide)) (fin _ _ _ et (by decide) (by decide) (mfr_u (mfr_u (mfr_r X) (by decide)) (by decide)) ?_ ?_ ?_ ?_ ?_ ?_ _)
      · rw [pm_u_j _ _ _ (by decide), pm_u_j _ _ _ (by decide)]; exact x10
      · rw [pm_u_j _ _ _ (by decide), pm_u_j _ _ _ (by decide)]; exact x5
      · rw [pm_u_j _ _ _ (by decide), pm_u_j _ _ _ (by decide)]; exact x7
      · rw [pm_u_j _ _ _ (by decide), pm_u_s]; congr 1; omega
      · rw [pm_u_j _ _ _ (by decide), pm_u_j _ _ _ (by decide)]; exact x9
      · rw [pm_u_s]; rfl
    · rw [if_neg c9] at et
      refine itn (nI_ge (a := 9) (b := e - tF b L i) (by omega) (by omega)) (fin _ _ _ et (by decide) (by decide) (mfr_u (mfr_u (mfr_r X) (by decide)) (by decide)) ?_ ?_ ?_ ?_ ?_ ?_ _)
      · rw [pm_u_j _ _ _ (by decide), pm_u_j _ _ _ (by decide)]; exact x10
      · rw [pm_u_j _ _ _ (by decide), pm_u_j _ _ _ (by decide)]; exact x5
      · rw [pm_u_j _ _ _ (by decide), pm_u_j _ _ _ (by decide)]; exact x7
      · rw [pm_u_j _ _ _ (by decide), pm_u_s]; congr 1; omega
      · rw [pm_u_j _ _ _ (by decide), pm_u_j _ _ _ (by decide)]; exact x9
      · rw [pm_u_s]; rfl
  refine itp (i10.mpr d1) ?_
  -- a sign
  have et : tok b L i (tF b L i) = sgn (b (tF b L i)) (if L ≤ tF b L i + 1 then 0 else b (tF b L i + 1)) := by unfold tok; rw [if_neg cL, if_neg ci, if_neg l1, if_neg d1]
  have bya : pMo_byteAt (nI (tF b L i + 1)) (pm_u X 40 8 (nI (tF b L i + 1))) ∧ fMo_byteAt (nI (tF b L i + 1)) (pm_u X 40 8 (nI (tF b L i + 1))) = sb (if L ≤ tF b L i + 1 then 0 else b (tF b L i + 1)) ∧ (if L ≤ tF b L i + 1 then 0 else b (tF b L i + 1)) < 256 := by
    unfold pMo_byteAt fMo_byteAt
    rw [pm_u_j _ _ _ (by decide), hX.1, pm_u_n _ _ _ (by decide)]
    by_cases c : L ≤ tF b L i + 1
    · have c' : nI L ≤ nI (tF b L i + 1) := nI_le c (by omega)
      rw [if_pos c', if_pos c]
      exact ⟨⟨fun _ => trivial, fun q => absurd c' q⟩, rfl, by decide⟩
    · have c' : ¬ nI L ≤ nI (tF b L i + 1) := nI_ge (by omega) (by omega)
      have bb := hX.2.2.1 (tF b L i + 1) (by omega)
      rw [if_neg c', if_neg c, nI_clamp (by omega)]
      exact ⟨⟨fun q => absurd q c', fun _ => ⟨vp_in_nI (by omega) (by decide), trivial⟩⟩, bb.1, bb.2⟩
  rw [nI_1, bya.2.1]
  have sg := sg_m bp.2 bya.2.2
  have sz := sgn_sz (b (tF b L i)) (if L ≤ tF b L i + 1 then 0 else b (tF b L i + 1))
  refine sq bya.1 (sq (pSgn _ _) ?_)
  rw [sg.1]
  generalize (if L ≤ tF b L i + 1 then 0 else b (tF b L i + 1)) = d at et sg sz bya
  generalize sgn (b (tF b L i)) d = kz at et sg sz
  obtain ⟨k, z⟩ := kz
  dsimp only at sg sz ⊢
  by_cases c2 : z = 1
  · have c2' := sg.2.mpr c2
    refine itp c2' (fin _ _ _ et (by omega) (by omega) (mfr_u (mfr_u (mfr_r X) (by decide)) (by decide)) ?_ ?_ ?_ ?_ ?_ ?_ _)
    · rw [pm_u_j _ _ _ (by decide), pm_u_j _ _ _ (by decide)]; exact x10
    · rw [pm_u_j _ _ _ (by decide), pm_u_j _ _ _ (by decide)]; exact x5
    · rw [pm_u_j _ _ _ (by decide), pm_u_j _ _ _ (by decide)]; exact x7
    · rw [pm_u_j _ _ _ (by decide), pm_u_s, c2]
    · rw [pm_u_j _ _ _ (by decide), pm_u_j _ _ _ (by decide)]; exact x9
    · rw [pm_u_s]
  · have c2' : ¬ nI (mt k) ≤ (299 : Int32) := fun q => c2 (sg.2.mp q)
    refine itn c2' (fin _ _ _ et (by omega) (by omega) (mfr_u (mfr_u (mfr_u (mfr_r X) (by decide)) (by decide)) (by decide)) ?_ ?_ ?_ ?_ ?_ ?_ _)
    · rw [pm_u_j _ _ _ (by decide), pm_u_j _ _ _ (by decide), pm_u_j _ _ _ (by decide)]; exact x10
    · rw [pm_u_j _ _ _ (by decide), pm_u_j _ _ _ (by decide), pm_u_j _ _ _ (by decide)]; exact x5
    · rw [pm_u_j _ _ _ (by decide), pm_u_j _ _ _ (by decide), pm_u_j _ _ _ (by decide)]; exact x7
    · rw [pm_u_s, nI_1]; congr 1; omega
    · rw [pm_u_j _ _ _ (by decide), pm_u_j _ _ _ (by decide), pm_u_j _ _ _ (by decide)]; exact x9
    · rw [pm_u_j _ _ _ (by decide), pm_u_s]
end
