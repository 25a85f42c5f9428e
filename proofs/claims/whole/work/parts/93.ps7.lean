/-! PARSE 7: the class reads formulas as the grammar's function says -/
theorem gfQ0 (m : Nat) (x0 x1 : Int32) (I : Mm) (J : Ml) : gf_F_Q (m + 1) 0 x0 x1 I J = pRd_readFormula_F (gf_F_F m) (gf_F_Q m) x0 I J := by rw [gf_F_Q.eq_2]; exact if_pos rfl
theorem gfF0 (m : Nat) (x0 x1 : Int32) (I : Mm) (J : Ml) : gf_F_F (m + 1) 0 x0 x1 I J = fRd_readFormula_F (gf_F_F m) x0 I J := by rw [gf_F_F.eq_2]; exact if_pos rfl
theorem gfQ1 (m : Nat) (x0 x1 : Int32) (I : Mm) (J : Ml) : gf_F_Q (m + 1) 1 x0 x1 I J = pRd_readEither_F (gf_F_F m) (gf_F_Q m) 4002 x0 I J := by rw [gf_F_Q.eq_2, if_neg (by decide)]; exact if_pos rfl
theorem gfF1 (m : Nat) (x0 x1 : Int32) (I : Mm) (J : Ml) : gf_F_F (m + 1) 1 x0 x1 I J = fRd_readEither_F (gf_F_F m) 4002 x0 I J := by rw [gf_F_F.eq_2, if_neg (by decide)]; exact if_pos rfl
theorem gfQ2 (m : Nat) (x0 x1 : Int32) (I : Mm) (J : Ml) : gf_F_Q (m + 1) 2 x0 x1 I J = pRd_readBoth_F (gf_F_F m) (gf_F_Q m) 4002 x0 I J := by rw [gf_F_Q.eq_2, if_neg (by decide), if_neg (by decide)]; exact if_pos rfl
theorem gfF2 (m : Nat) (x0 x1 : Int32) (I : Mm) (J : Ml) : gf_F_F (m + 1) 2 x0 x1 I J = fRd_readBoth_F (gf_F_F m) 4002 x0 I J := by rw [gf_F_F.eq_2, if_neg (by decide), if_neg (by decide)]; exact if_pos rfl
theorem gfQ3 (m : Nat) (x0 x1 : Int32) (I : Mm) (J : Ml) : gf_F_Q (m + 1) 3 x0 x1 I J = pRd_readSingle_F (gf_F_F m) (gf_F_Q m) x0 I J := by rw [gf_F_Q.eq_2, if_neg (by decide), if_neg (by decide), if_neg (by decide)]; exact if_pos rfl
theorem gfF3 (m : Nat) (x0 x1 : Int32) (I : Mm) (J : Ml) : gf_F_F (m + 1) 3 x0 x1 I J = fRd_readSingle_F (gf_F_F m) x0 I J := by rw [gf_F_F.eq_2, if_neg (by decide), if_neg (by decide), if_neg (by decide)]; exact if_pos rfl
theorem gfQ4 (m : Nat) (x0 x1 : Int32) (I : Mm) (J : Ml) : gf_F_Q (m + 1) 4 x0 x1 I J = pRd_readAlteredSingle_F (gf_F_F m) (gf_F_Q m) x0 x1 I J := by rw [gf_F_Q.eq_2, if_neg (by decide), if_neg (by decide), if_neg (by decide), if_neg (by decide)]; exact if_pos rfl
theorem gfF4 (m : Nat) (x0 x1 : Int32) (I : Mm) (J : Ml) : gf_F_F (m + 1) 4 x0 x1 I J = fRd_readAlteredSingle_F (gf_F_F m) x0 x1 I J := by rw [gf_F_F.eq_2, if_neg (by decide), if_neg (by decide), if_neg (by decide), if_neg (by decide)]; exact if_pos rfl
theorem gfQ5 (m : Nat) (x0 x1 : Int32) (I : Mm) (J : Ml) : gf_F_Q (m + 1) 5 x0 x1 I J = pRd_readUntil_F (gf_F_F m) (gf_F_Q m) x0 x1 I J := by rw [gf_F_Q.eq_2, if_neg (by decide), if_neg (by decide), if_neg (by decide), if_neg (by decide), if_neg (by decide)]; exact if_pos rfl
theorem gfF5 (m : Nat) (x0 x1 : Int32) (I : Mm) (J : Ml) : gf_F_F (m + 1) 5 x0 x1 I J = fRd_readUntil_F (gf_F_F m) x0 x1 I J := by rw [gf_F_F.eq_2, if_neg (by decide), if_neg (by decide), if_neg (by decide), if_neg (by decide), if_neg (by decide)]; exact if_pos rfl
section
variable {A : Mm} {J : Ml} {T : TT} {n e w : Nat} {I : Mm}
theorem cBf_S (m : Nat) (y : Int32) (h : cB A 10 e w I) : gf_F_Q (m + 1) 3 y 0 I J ∧ cB A 10 e w (gf_F_F (m + 1) 3 y 0 I J) := by
  rw [gfQ3, gfF3]
  unfold pRd_readSingle_F fRd_readSingle_F
  have d := cB_deep (J := J) (Or.inr rfl) h y
  refine sq d.1 ?_
  generalize (fRd_isTooDeep y I J).1 = z0
  generalize (fRd_isTooDeep y I J).2 = I1 at d
  unfold pRd_readSingle_F_5 fRd_readSingle_F_5
  by_cases z : z0 = 0
  · have r := cB_refuse (J := J) (Or.inr rfl) d.2
    refine itp z ?_
    refine itn (cB_ne d.2 (s := 19) (by decide)) ?_
    refine itn (show ¬ I1 13 3 < (37 : Int32) by rcases cB_k d.2 with k | k <;> rw [k] <;> decide) ?_
    refine itp (show (42 : Int32) < I1 13 3 by rcases cB_k d.2 with k | k <;> rw [k] <;> decide) ?_
    unfold pRd_readSingle_F_58 fRd_readSingle_F_58
    refine itn (cB_ne d.2 (s := 34) (by decide)) ?_
    refine itn (cB_ne d.2 (s := 35) (by decide)) ?_
    refine itn (cB_ne d.2 (s := 4) (by decide)) ?_
    refine itn (cB_ne d.2 (s := 8) (by decide)) ?_
    refine itn (cB_ne d.2 (s := 43) (by decide)) ?_
    exact sqt r
  · exact itn z ⟨trivial, d.2⟩
theorem cBf_lBoth (m n : Nat) (hn : 0 < n) (y1 y2 : Int32) (h : cB A 10 e w I) : pRd_readBoth_F_7 (gf_F_F m) (gf_F_Q m) n y1 y2 I J ∧ cB A 10 e w (fRd_readBoth_F_7 (gf_F_F m) n y1 y2 I J) := by
  obtain ⟨n, rfl⟩ : ∃ n', n = n' + 1 := ⟨n - 1, by omega⟩
  rw [pRd_readBoth_F_7.eq_2, fRd_readBoth_F_7.eq_2]
  by_cases c : (4000 : Int32) < y2
  · exact itp c ⟨trivial, h⟩
  · exact itn c (itn (cB_ne h (s := 26) (by decide)) ⟨trivial, h⟩)
theorem cBf_Both (m : Nat) (y : Int32) (h : cB A 10 e w I) : gf_F_Q (m + 2) 2 y 0 I J ∧ cB A 10 e w (gf_F_F (m + 2) 2 y 0 I J) := by
  have u := cBf_S (J := J) m y h
  rw [gfQ2, gfF2]
  unfold pRd_readBoth_F fRd_readBoth_F pRd_readBoth_F_5 fRd_readBoth_F_5
  exact sq u.1 (cBf_lBoth (m + 1) 4002 (by decide) y 0 u.2)
theorem cBf_lEither (m n : Nat) (hn : 0 < n) (y1 y2 : Int32) (h : cB A 10 e w I) : pRd_readEither_F_7 (gf_F_F m) (gf_F_Q m) n y1 y2 I J ∧ cB A 10 e w (fRd_readEither_F_7 (gf_F_F m) n y1 y2 I J) := by
  obtain ⟨n, rfl⟩ : ∃ n', n = n' + 1 := ⟨n - 1, by omega⟩
  rw [pRd_readEither_F_7.eq_2, fRd_readEither_F_7.eq_2]
  by_cases c : (4000 : Int32) < y2
  · exact itp c ⟨trivial, h⟩
  · exact itn c (itn (cB_ne h (s := 27) (by decide)) ⟨trivial, h⟩)
theorem cBf_Either (m : Nat) (y : Int32) (h : cB A 10 e w I) : gf_F_Q (m + 3) 1 y 0 I J ∧ cB A 10 e w (gf_F_F (m + 3) 1 y 0 I J) := by
  have u := cBf_Both (J := J) m y h
  rw [gfQ1, gfF1]
  unfold pRd_readEither_F fRd_readEither_F pRd_readEither_F_5 fRd_readEither_F_5
  exact sq u.1 (cBf_lEither (m + 2) 4002 (by decide) y 0 u.2)
theorem cBf_F (m : Nat) (y : Int32) (h : cB A 10 e w I) : gf_F_Q (m + 4) 0 y 0 I J ∧ cB A 10 e w (gf_F_F (m + 4) 0 y 0 I J) := by
  rw [gfQ0, gfF0]
  unfold pRd_readFormula_F fRd_readFormula_F
  have d := cB_deep (J := J) (Or.inr rfl) h y
  refine sq d.1 ?_
  generalize (fRd_isTooDeep y I J).1 = z0
  generalize (fRd_isTooDeep y I J).2 = I1 at d
  unfold pRd_readFormula_F_5 fRd_readFormula_F_5
  by_cases z : z0 = 0
  · have o := cBf_Either (J := J) m y d.2
    refine itp z (sq o.1 ?_)
    unfold pRd_readFormula_F_14 fRd_readFormula_F_14
    exact itn (cB_ne o.2 (s := 28) (by decide)) ⟨trivial, o.2⟩
  · exact itn z ⟨trivial, d.2⟩
theorem cBf_A (m : Nat) (y z : Int32) (h : cB A 10 e w I) : gf_F_Q (m + 2) 4 y z I J ∧ cB A 10 e w (gf_F_F (m + 2) 4 y z I J) := by
  rw [gfQ4, gfF4]
  unfold pRd_readAlteredSingle_F fRd_readAlteredSingle_F
  have a := cB_adv (J := J) h
  have u := cBf_S (J := J) m (z + 1) h
  have ad := cB_add_F (J := J) u.2 y 0
  refine sq a.1 ?_
  rw [a.2]
  exact sq u.1 (sqt ad)
theorem cS_fsp {i co : Nat} {W : List Nat} {C : Cd} (hT : tEnd T n) (hM : tMem A T n) (hF : fMem A T n) (h : cS A 10 i W C co I) (hi : i < n) (hk : T.1 i = 43) (hW : W.length ≤ 125) (hC : C.length < 4000) : pRd_readKnownName_F 1 I J ∧ ER A 10 W C (sp_fspec T i co) (fRd_readKnownName_F 1 I J) := by
  have f5 := fr_5 (Or.inr rfl) h.1
  have hn := hT.2.1
  have fm := hF I J i hi hk f5.2.2.2.2.2.2.2.2.2.2 f5.2.2.2.2.2.1 h.2.2.1 f5.2.2.1 f5.2.2.2.1 f5.2.2.2.2.2.2.2.2.1
  have hl := cS_halt (J := J) (Or.inr rfl) h (by omega) hW (by omega) (e := 2) (by decide) (by decide)
  unfold pRd_readKnownName_F fRd_readKnownName_F pRd_readKnownName_F_28 fRd_readKnownName_F_28 pRd_readKnownName_F_32 fRd_readKnownName_F_32 pRd_readKnownName_F_60 fRd_readKnownName_F_60 pRd_readKnownName_F_73 fRd_readKnownName_F_73 sp_fspec
  cases ho : T.2.2.1 i with
  | none =>
    have e := fm.2.2 ho
    have c : (-1 : Int32) < 0 := by decide
    rw [e]
    exact sq fm.1 (itp c (sqt ⟨hl.1, ER_f (by decide) hl.2⟩))
  | some k =>
    obtain ⟨e, k60, e4, k50, e6⟩ := fm.2.1 k ho
    have c : ¬ nI k < 0 := nI_pos (by omega)
    have v : vp_in (nI k) 60 := vp_in_nI k60 (by decide)
    rw [e]
    refine sq fm.1 (itn c (sq v ?_))
    rw [nI_clamp (by omega), f5.2.2.2.2.2.2.1, f5.2.2.2.2.2.2.2.1, e4, e6]
    by_cases h33 : T.2.2.2.1 k = 33
    · have c3 : nI (T.2.2.2.1 k) = (33 : Int32) := by rw [h33]; rfl
      have ad := cS_add_F (J := J) h hC 52 (T.2.2.2.2 k)
      have adv := cS_adv (J := J) (Or.inr rfl) hT hM ad.2 hi (by omega)
      dsimp only
      rw [if_pos h33]
      exact itp c3 (itp rfl (itn (by decide) (sq v (sq ad.1 (sqt ⟨adv.1, ER_ok adv.2⟩)))))
    · have c3 : ¬ nI (T.2.2.2.1 k) = (33 : Int32) := fun q => h33 ((nI_eq (a := T.2.2.2.1 k) (b := 33) (by omega) (by decide)).mp q)
      dsimp only
      rw [if_neg h33]
      exact itn c3 (itn (by decide) (sqt ⟨hl.1, ER_f (by decide) hl.2⟩))
/-- formula, either, both, single: t = 0 .. 3 -/
def HF (A : Mm) (J : Ml) (T : TT) (n m t : Nat) : Prop := ∀ (d i co mc : Nat) (I : Mm) (W : List Nat) (C : Cd), d ≤ 41 → 5 * (41 - d) + 4 ≤ mc + t → i < n → co ≤ 3000 → 24 * W.length ≤ co → C.length + W.length ≤ i → (sp_F T m t d i co).1 ≠ 9 → cS A 10 i W C co I → gf_F_Q mc t (nI d) 0 I J ∧ ER A 10 W C (sp_F T m t d i co) (gf_F_F mc t (nI d) 0 I J)
theorem b9 {r : SR} {k : Nat → Nat → Cd → SR} (h : (sp_b r k).1 ≠ 9) : r.1 ≠ 9 := by
  intro q
  rw [sp_b1 (by rw [q]; decide)] at h
  exact h q
theorem cFA {m : Nat} (hT : tEnd T n) (hM : tMem A T n) (hs : HF A J T n m 3) {d i co mc : Nat} {W : List Nat} {C : Cd} (o : Nat) (hd : d ≤ 40) (hmc : 5 * (41 - (d + 1)) + 4 ≤ mc + 3) (hi : i < n) (hk : T.1 i < 45) (hco : co ≤ 3000) (hW : 24 * W.length ≤ co) (hC : C.length + W.length ≤ i) (h : cS A 10 i W C co I) (h9 : (sp_alt (sp_F T m) o d i co).1 ≠ 9) : gf_F_Q (mc + 1) 4 (nI o) (nI d) I J ∧ ER A 10 W C (sp_alt (sp_F T m) o d i co) (gf_F_F (mc + 1) 4 (nI o) (nI d) I J) := by
  have hn := hT.2.1
  rw [gfQ4, gfF4]
  unfold pRd_readAlteredSingle_F fRd_readAlteredSingle_F
  unfold sp_alt at h9 ⊢
  have a := cS_adv (J := J) (Or.inr rfl) hT hM h hi hk
  have si := tEnd_s hT hi hk
  have u := hs (d + 1) (i + 1) co mc _ W C (by omega) (by omega) si hco hW (by omega) (b9 h9) a.2
  have ln := sp_lenF hT m 3 (d + 1) (i + 1) co si hco
  refine sq a.1 ?_
  unfold pRd_readAlteredSingle_F_4 fRd_readAlteredSingle_F_4
  rw [nI_1]
  refine sq u.1 ?_
  by_cases e1 : (sp_F T m 3 (d + 1) (i + 1) co).1 = 0
  · have l1 := ln e1
    rw [sp_b0 e1]
    have ad := cS_add_F (J := J) (u.2.1 e1) (by rw [List.length_append]; omega) o 0
    rw [List.append_assoc] at ad
    exact sqt ⟨ad.1, ER_ok ad.2⟩
  · rw [sp_b1 e1]
    have ad := cB_add_F (J := J) (u.2.2 e1) (nI o) 0
    exact sqt ⟨ad.1, ER_b e1 ad.2⟩
theorem cFU {m : Nat} (hT : tEnd T n) (hM : tMem A T n) (hf : HF A J T n m 0) {d i co mc : Nat} {W : List Nat} {C : Cd} (o : Nat) (hd : d ≤ 40) (hmc : 5 * (41 - (d + 1)) + 4 ≤ mc) (hi : i < n) (hk : T.1 i < 45) (hco : co ≤ 3000) (hW : 24 * W.length ≤ co) (hC : C.length + W.length ≤ i) (h : cS A 10 i W C co I) (h9 : (sp_until T (sp_F T m) o d i co).1 ≠ 9) : gf_F_Q (mc + 1) 5 (nI o) (nI d) I J ∧ ER A 10 W C (sp_until T (sp_F T m) o d i co) (gf_F_F (mc + 1) 5 (nI o) (nI d) I J) := by
  have hn := hT.2.1
  obtain ⟨mk, hmk⟩ : ∃ mk, mc = mk + 4 := ⟨mc - 4, by omega⟩
  rw [gfQ5, gfF5]
  unfold pRd_readUntil_F fRd_readUntil_F pRd_readUntil_F_4 fRd_readUntil_F_4
  unfold sp_until at h9 ⊢
  have a := cS_adv (J := J) (Or.inr rfl) hT hM h hi hk
  have si := tEnd_s hT hi hk
  refine sq a.1 ?_
  have a2 := a.2
  clear a
  generalize fRd_advance I J = I1 at a2
  have tail : ∀ {e w : Nat} {I2 : Mm}, e ≠ 0 → cB A 10 e w I2 → (gf_F_Q mc 0 (nI (d + 1)) 0 I2 J ∧ pRd_readUntil_F_32 (gf_F_F mc) (gf_F_Q mc) (nI o) (nI d) (gf_F_F mc 0 (nI (d + 1)) 0 I2 J) J) ∧ cB A 10 e w (fRd_readUntil_F_32 (gf_F_F mc) (nI o) (nI d) (gf_F_F mc 0 (nI (d + 1)) 0 I2 J) J) := by
    intro e w I2 _ hb
    rw [hmk]
    have f := cBf_F (J := J) mk (nI (d + 1)) hb
    have x := cB_ex (J := J) (Or.inr rfl) f.2 (s := 7) (by decide)
    have ad := cB_add_F (J := J) x.2.2 (nI o) 0
    exact sq f.1 (sq x.1 (sqt ad))
  have tail2 : ∀ {e w : Nat} {I2 : Mm}, e ≠ 0 → cB A 10 e w I2 → (gf_F_Q mc 0 (nI (d + 1)) 0 I2 J ∧ pRd_readUntil_F_18 (gf_F_F mc) (gf_F_Q mc) (nI o) (nI d) (gf_F_F mc 0 (nI (d + 1)) 0 I2 J) J) ∧ cB A 10 e w (fRd_readUntil_F_18 (gf_F_F mc) (nI o) (nI d) (gf_F_F mc 0 (nI (d + 1)) 0 I2 J) J) := by
    intro e w I2 he hb
    have f := cBf_F (J := J) mk (nI (d + 1)) hb
    rw [← hmk] at f
    have x := cB_ex (J := J) (Or.inr rfl) f.2 (s := 36) (by decide)
    have t := tail he x.2.2
    unfold pRd_readUntil_F_18 fRd_readUntil_F_18 pRd_readUntil_F_24 fRd_readUntil_F_24
    rw [nI_1]
    exact sq f.1 (sq x.1 t)
  unfold sp_ex at h9 ⊢
  by_cases k6 : T.1 (i + 1) = 6
  rotate_left
  · rw [if_neg k6]
    have x := cS_ex0 (J := J) (Or.inr rfl) hT hM a2 si (by omega) (by omega) (s := 6) (by decide) k6
    have t := tail2 (sp_no1 T (i + 1)) x.2.2
    unfold pRd_readUntil_F_10 fRd_readUntil_F_10
    rw [nI_1]
    exact sq x.1 ⟨t.1, ER_b (sp_no1 _ _) t.2⟩
  rw [if_pos k6] at h9 ⊢
  try dsimp only at h9 ⊢
  have x := cS_ex1 (J := J) (Or.inr rfl) hT hM a2 si (s := 6) (by decide) k6
  have si2 := tEnd_s hT si (by omega)
  refine sq x.1 ?_
  have x2 : cS A 10 (i + 1 + 1) W C co (fRd_expect (6 : Int32) I1 J).2 := x.2.2
  clear x
  generalize (fRd_expect (6 : Int32) I1 J).1 = z1
  generalize (fRd_expect (6 : Int32) I1 J).2 = I2 at x2
  unfold pRd_readUntil_F_10 fRd_readUntil_F_10
  rw [nI_1]
  have f1 := hf (d + 1) (i + 1 + 1) co mc I2 W C (by omega) (by omega) si2 hco hW (by omega) (b9 h9) x2
  have ln := sp_lenF hT m 0 (d + 1) (i + 1 + 1) co si2 hco
  refine sq f1.1 ?_
  have f2 := f1.2
  clear f1
  generalize gf_F_F mc 0 (nI (d + 1)) 0 I2 J = I3 at f2
  unfold pRd_readUntil_F_18 fRd_readUntil_F_18
  by_cases e1 : (sp_F T m 0 (d + 1) (i + 1 + 1) co).1 = 0
  rotate_left
  · rw [sp_b1 e1]
    have x := cB_ex (J := J) (Or.inr rfl) (f2.2 e1) (s := 36) (by decide)
    have t := tail e1 x.2.2
    unfold pRd_readUntil_F_24 fRd_readUntil_F_24
    rw [nI_1]
    exact sq x.1 ⟨t.1, ER_b e1 t.2⟩
  rw [sp_b0 e1] at h9 ⊢
  have l1 := ln e1
  have s1 := f2.1 e1
  clear f2 ln
  generalize sp_F T m 0 (d + 1) (i + 1 + 1) co = r at s1 l1 h9 ⊢
  obtain ⟨re, rw', rj, rc, rC⟩ := r
  dsimp only at s1 l1 h9 ⊢
  have hl1 : (C ++ rC).length = C.length + rC.length := List.length_append
  by_cases k36 : T.1 rj = 36
  rotate_left
  · rw [if_neg k36]
    have x := cS_ex0 (J := J) (Or.inr rfl) hT hM s1 l1.2.2.1 (by omega) (by omega) (s := 36) (by decide) k36
    have t := tail (sp_no1 T rj) x.2.2
    unfold pRd_readUntil_F_24 fRd_readUntil_F_24
    rw [nI_1]
    exact sq x.1 ⟨t.1, ER_b (sp_no1 _ _) t.2⟩
  rw [if_pos k36] at h9 ⊢
  try dsimp only at h9 ⊢
  have x := cS_ex1 (J := J) (Or.inr rfl) hT hM s1 l1.2.2.1 (s := 36) (by decide) k36
  have sj := tEnd_s hT l1.2.2.1 (by omega)
  refine sq x.1 ?_
  have x2 : cS A 10 (rj + 1) W (C ++ rC) rc (fRd_expect (36 : Int32) I3 J).2 := x.2.2
  clear x
  generalize (fRd_expect (36 : Int32) I3 J).1 = z2
  generalize (fRd_expect (36 : Int32) I3 J).2 = I4 at x2
  unfold pRd_readUntil_F_24 fRd_readUntil_F_24
  rw [nI_1]
  have f1 := hf (d + 1) (rj + 1) rc mc I4 W (C ++ rC) (by omega) (by omega) sj l1.2.2.2.2.1 (by omega) (by omega) (b9 h9) x2
  have ln := sp_lenF hT m 0 (d + 1) (rj + 1) rc sj l1.2.2.2.2.1
  refine sq f1.1 ?_
  have f2 := f1.2
  clear f1
  generalize gf_F_F mc 0 (nI (d + 1)) 0 I4 J = I5 at f2
  unfold pRd_readUntil_F_32 fRd_readUntil_F_32
  by_cases e2 : (sp_F T m 0 (d + 1) (rj + 1) rc).1 = 0
  rotate_left
  · rw [sp_b1 e2]
    have x := cB_ex (J := J) (Or.inr rfl) (f2.2 e2) (s := 7) (by decide)
    have ad := cB_add_F (J := J) x.2.2 (nI o) 0
    exact sq x.1 (sqt ⟨ad.1, ER_b e2 ad.2⟩)
  rw [sp_b0 e2] at h9 ⊢
  have l2 := ln e2
  have s2 := f2.1 e2
  clear f2 ln
  generalize sp_F T m 0 (d + 1) (rj + 1) rc = r2 at s2 l2 h9 ⊢
  obtain ⟨r2e, r2w, r2j, r2c, r2C⟩ := r2
  dsimp only at s2 l2 h9 ⊢
  have hl2 : (C ++ rC ++ r2C).length = C.length + rC.length + r2C.length := by rw [List.length_append, List.length_append]
  by_cases k7 : T.1 r2j = 7
  · rw [if_pos k7]
    have x := cS_ex1 (J := J) (Or.inr rfl) hT hM s2 l2.2.2.1 (s := 7) (by decide) k7
    have ad := cS_add_F (J := J) x.2.2 (by omega) o 0
    refine sq x.1 (sqt ⟨ad.1, ER_ok ?_⟩)
    have z := ad.2
    simp only [List.append_assoc] at z ⊢
    exact z
  · rw [if_neg k7]
    have x := cS_ex0 (J := J) (Or.inr rfl) hT hM s2 l2.2.2.1 (by omega) (by omega) (s := 7) (by decide) k7
    have ad := cB_add_F (J := J) x.2.2 (nI o) 0
    exact sq x.1 (sqt ⟨ad.1, ER_b (sp_no1 _ _) ad.2⟩)
theorem cFS {m : Nat} (hT : tEnd T n) (hM : tMem A T n) (hF : fMem A T n) (hf : HF A J T n m 0) (hs : HF A J T n m 3) : HF A J T n (m + 1) 3 := by
  intro d i co mc I W C hd hmc hi hco hW hC h9 h
  have hn := hT.2.1
  obtain ⟨mc, rfl⟩ : ∃ mc', mc = mc' + 1 := ⟨mc - 1, by omega⟩
  rw [sF3] at h9 ⊢
  rw [gfQ3, gfF3]
  unfold pRd_readSingle_F fRd_readSingle_F
  unfold sp_single at h9 ⊢
  by_cases hdd : 40 < d
  · rw [if_pos hdd]
    have z := cS_deep1 (J := J) (Or.inr rfl) h (by omega) (by omega) (by omega) hdd (by omega)
    refine sq z.1 ?_
    unfold pRd_readSingle_F_5 fRd_readSingle_F_5
    rw [z.2.1]
    exact itn (by decide) ⟨trivial, ER_f (by decide) z.2.2⟩
  rw [if_neg hdd] at h9 ⊢
  have z := cS_deep0 (J := J) h hdd
  refine sq z.1 ?_
  rw [z.2]
  dsimp only
  unfold pRd_readSingle_F_5 fRd_readSingle_F_5
  refine itp rfl ?_
  have e3 := cS_kind hM h hi
  have k48 := hT.2.2.1 i hi
  have nk : ∀ s : Nat, s < 48 → ¬ T.1 i = s → ¬ I 13 3 = nI s := fun s hs hne q => hne ((nI_eq (by omega) (by omega)).mp (e3.symm.trans q))
  obtain ⟨mc, rfl⟩ : ∃ mc', mc = mc' + 1 := ⟨mc - 1, by omega⟩
  by_cases k19 : T.1 i = 19
  · rw [if_pos k19] at h9 ⊢
    have a := cFA (mc := mc) hT hM hs 53 (by omega) (by omega) hi (by omega) hco hW hC h h9
    exact itp (by rw [e3, k19]; rfl) (sq a.1 ⟨trivial, a.2⟩)
  rw [if_neg k19] at h9 ⊢
  refine itn (nk 19 (by decide) k19) ?_
  by_cases k37 : 37 ≤ T.1 i ∧ T.1 i ≤ 42
  · rw [if_pos k37] at h9 ⊢
    have a := cFA (mc := mc) hT hM hs (T.1 i) (by omega) (by omega) hi (by omega) hco hW hC h h9
    rw [e3]
    exact itn (nI_nlt (a := T.1 i) (b := 37) (by omega) (by omega)) (itn (nI_nlt (a := 42) (b := T.1 i) (by omega) (by decide)) (sq a.1 ⟨trivial, a.2⟩))
  rw [if_neg k37] at h9 ⊢
  have go : ∀ {Q : Mm → Prop}, (pRd_readSingle_F_58 (gf_F_F (mc + 1)) (gf_F_Q (mc + 1)) (nI d) I J ∧ Q (fRd_readSingle_F_58 (gf_F_F (mc + 1)) (nI d) I J)) → ((I 13 3 < (37 : Int32) → pRd_readSingle_F_58 (gf_F_F (mc + 1)) (gf_F_Q (mc + 1)) (nI d) I J) ∧ (¬ I 13 3 < (37 : Int32) → ((42 : Int32) < I 13 3 → pRd_readSingle_F_58 (gf_F_F (mc + 1)) (gf_F_Q (mc + 1)) (nI d) I J) ∧ (¬ (42 : Int32) < I 13 3 → gf_F_Q (mc + 1) 4 (I 13 3) (nI d) I J ∧ pRd_readSingle_F_55 (gf_F_F (mc + 1)) (gf_F_Q (mc + 1)) (nI d) (gf_F_F (mc + 1) 4 (I 13 3) (nI d) I J) J))) ∧ Q (if I 13 3 < (37 : Int32) then fRd_readSingle_F_58 (gf_F_F (mc + 1)) (nI d) I J else if (42 : Int32) < I 13 3 then fRd_readSingle_F_58 (gf_F_F (mc + 1)) (nI d) I J else fRd_readSingle_F_55 (gf_F_F (mc + 1)) (nI d) (gf_F_F (mc + 1) 4 (I 13 3) (nI d) I J) J) := by
    intro Q hq
    by_cases c : I 13 3 < (37 : Int32)
    · exact itp c hq
    · refine itn c (itp ?_ hq)
      rw [e3] at c ⊢
      have : ¬ T.1 i < 37 := fun q => c (nI_lt (a := T.1 i) (b := 37) q (by decide))
      exact nI_lt (a := 42) (b := T.1 i) (by omega) (by omega)
  refine go ?_
  unfold pRd_readSingle_F_58 fRd_readSingle_F_58
  by_cases k34 : T.1 i = 34 ∨ T.1 i = 35
  · rw [if_pos k34] at h9 ⊢
    have a := cFU (mc := mc) hT hM hf (T.1 i) (by omega) (by omega) hi (by omega) hco hW hC h h9
    unfold pRd_readSingle_F_76 fRd_readSingle_F_76
    rw [e3]
    by_cases k3 : T.1 i = 34
    · exact itp (by rw [k3]; rfl) (sq a.1 ⟨trivial, a.2⟩)
    · refine itn (fun q => k3 ((nI_eq (a := T.1 i) (b := 34) (by omega) (by decide)).mp q)) (itp (by rw [show T.1 i = 35 by omega]; rfl) (sq a.1 ⟨trivial, a.2⟩))
  rw [if_neg k34] at h9 ⊢
  refine itn (nk 34 (by decide) (by omega)) (itn (nk 35 (by decide) (by omega)) ?_)
  by_cases k4 : T.1 i = 4
  · rw [if_pos k4] at h9 ⊢
    unfold sp_paren at h9 ⊢
    have a := cS_adv (J := J) (Or.inr rfl) hT hM h hi (by omega)
    have si := tEnd_s hT hi (by omega)
    have u := hf (d + 1) (i + 1) co (mc + 1) _ W C (by omega) (by omega) si hco hW (by omega) (b9 h9) a.2
    have ln := sp_lenF hT m 0 (d + 1) (i + 1) co si hco
    refine itp (by rw [e3, k4]; rfl) (sq a.1 ?_)
    unfold pRd_readSingle_F_100 fRd_readSingle_F_100
    rw [nI_1]
    refine sq u.1 ?_
    by_cases e1 : (sp_F T m 0 (d + 1) (i + 1) co).1 = 0
    · have l1 := ln e1
      have u1 := u.2.1 e1
      rw [sp_b0 e1]
      unfold sp_ex
      by_cases k5 : T.1 (sp_F T m 0 (d + 1) (i + 1) co).2.2.1 = 5
      · rw [if_pos k5]
        have x := cS_ex1 (J := J) (Or.inr rfl) hT hM u1 l1.2.2.1 (s := 5) (by decide) k5
        exact sq x.1 ⟨trivial, ER_ok x.2.2⟩
      · rw [if_neg k5]
        have x := cS_ex0 (J := J) (Or.inr rfl) hT hM u1 l1.2.2.1 (by omega) (by rw [List.length_append]; omega) (s := 5) (by decide) k5
        exact sq x.1 ⟨trivial, ER_b (sp_no1 _ _) x.2.2⟩
    · rw [sp_b1 e1]
      have x := cB_ex (J := J) (Or.inr rfl) (u.2.2 e1) (s := 5) (by decide)
      exact sq x.1 ⟨trivial, ER_b e1 x.2.2⟩
  rw [if_neg k4] at h9 ⊢
  refine itn (nk 4 (by decide) k4) ?_
  by_cases k8 : T.1 i = 8
  · rw [if_pos k8] at h9 ⊢
    refine itp (by rw [e3, k8]; rfl) ?_
    unfold pRd_readSingle_F_129 fRd_readSingle_F_129
    unfold sp_test at h9 ⊢
    have si := tEnd_s hT hi (by omega)
    have ce : cst (T.1 i) = 8 := by rw [k8]; rfl
    unfold sp_pay at h9 ⊢
    by_cases hp : co + 8 ≤ 3000
    rotate_left
    · rw [if_neg hp]
      have c := cS_chg1 (J := J) (Or.inr rfl) h (by omega) (by omega) (by omega) hp (by omega)
      rw [← ce] at c
      have s := cS_sgn (J := J) hM h hi (by omega) c
      have a := cB_adv (J := J) s.2
      have x1 : ge_F_Q 200 0 (nI d + 1) 0 (fRd_chargeSign I J) J ∧ cB A 10 4 i (ge_F_F 200 0 (nI d + 1) 0 (fRd_chargeSign I J) J) := cB_X_F (J := J) 197 (nI d + 1) s.2
      have ex := cB_ex (J := J) (Or.inr rfl) x1.2 (s := 9) (by decide)
      have ad := cB_add_F (J := J) ex.2.2 51 0
      refine sq s.1 (sq a.1 ?_)
      rw [a.2]
      exact sq x1.1 (sq ex.1 (sq ad.1 ⟨trivial, ER_f (by decide) ad.2⟩))
    rw [if_pos hp] at h9 ⊢
    dsimp only at h9 ⊢
    have c := cS_chg0 (J := J) (Or.inr rfl) h hp
    rw [← ce] at c
    have s := cS_sgn (J := J) hM h hi (by omega) c
    rw [ce] at s
    have a := cS_adv (J := J) (Or.inr rfl) hT hM s.2 hi (by omega)
    refine sq s.1 (sq a.1 ?_)
    have a2 := a.2
    clear a s c
    generalize fRd_advance (fRd_chargeSign I J) J = I2 at a2
    unfold pRd_readSingle_F_133 fRd_readSingle_F_133 pge_F_Rd_readExpression fge_F_Rd_readExpression
    rw [nI_1]
    have x1 := (cE_F (J := J) hT hM hF 600).1 (d + 1) (i + 1) (co + 8) 200 I2 W C (by omega) (by omega) si hp (by omega) (by omega) (b9 h9) a2
    have ln := sp_len hT 600 0 0 (d + 1) (i + 1) (co + 8) si hp
    refine sq x1.1 ?_
    have x2 := x1.2
    clear x1
    generalize ge_F_F 200 0 (nI (d + 1)) 0 I2 J = I3 at x2
    unfold pRd_readSingle_F_140 fRd_readSingle_F_140
    by_cases e1 : (sp_E T 600 0 0 (d + 1) (i + 1) (co + 8)).1 = 0
    rotate_left
    · rw [sp_b1 e1]
      have ex := cB_ex (J := J) (Or.inr rfl) (x2.2 e1) (s := 9) (by decide)
      have ad := cB_add_F (J := J) ex.2.2 51 0
      exact sq ex.1 (sq ad.1 ⟨trivial, ER_b e1 ad.2⟩)
    rw [sp_b0 e1]
    have l1 := ln e1
    have s1 := x2.1 e1
    clear x2 ln h9
    generalize sp_E T 600 0 0 (d + 1) (i + 1) (co + 8) = r at s1 l1 ⊢
    obtain ⟨re, rw', rj, rc, rC⟩ := r
    dsimp only at s1 l1 ⊢
    have hl1 : (C ++ rC).length = C.length + rC.length := List.length_append
    unfold sp_ex
    by_cases k9 : T.1 rj = 9
    · rw [if_pos k9]
      have x := cS_ex1 (J := J) (Or.inr rfl) hT hM s1 l1.2.2.1 (s := 9) (by decide) k9
      have ad := cS_add_F (J := J) x.2.2 (by omega) 51 0
      rw [List.append_assoc] at ad
      exact sq x.1 (sq ad.1 ⟨trivial, ER_ok ad.2⟩)
    · rw [if_neg k9]
      have x := cS_ex0 (J := J) (Or.inr rfl) hT hM s1 l1.2.2.1 (by omega) (by omega) (s := 9) (by decide) k9
      have ad := cB_add_F (J := J) x.2.2 51 0
      exact sq x.1 (sq ad.1 ⟨trivial, ER_b (sp_no1 _ _) ad.2⟩)
  rw [if_neg k8] at h9 ⊢
  refine itn (nk 8 (by decide) k8) ?_
  by_cases k43 : T.1 i = 43
  · rw [if_pos k43] at h9 ⊢
    have si := tEnd_s hT hi (by omega)
    have a := cS_fsp (J := J) hT hM hF h hi k43 (by omega) (by omega)
    exact itp (by rw [e3, k43]; rfl) (sq a.1 ⟨trivial, a.2⟩)
  rw [if_neg k43]
  have r := cS_refuse (J := J) (Or.inr rfl) hT hM h hi (by omega) (by omega)
  exact itn (nk 43 (by decide) k43) (sqt ⟨r.1, ER_b (sp_no1 _ _) r.2⟩)
theorem cFBoth {m : Nat} (hT : tEnd T n) (hM : tMem A T n) (hs : HF A J T n m 3) : HF A J T n (m + 1) 2 := by
  intro d i co mc I W C hd hmc hi hco hW hC h9 h
  have hn := hT.2.1
  obtain ⟨mc, rfl⟩ : ∃ mc', mc = mc' + 2 := ⟨mc - 2, by omega⟩
  rw [sF2] at h9 ⊢
  rw [gfQ2, gfF2]
  unfold pRd_readBoth_F fRd_readBoth_F pRd_readBoth_F_5 fRd_readBoth_F_5
  have lp : ∀ (k j c : Nat) (acc : Cd) (I' : Mm) (n' y' : Nat), cS A 10 j W (C ++ acc) c I' → n' + y' = 4002 → y' ≤ j → j < n → c ≤ 3000 → co ≤ c → i + acc.length ≤ j → (sp_fl T (sp_F T m) 3 26 54 d k j c acc).1 ≠ 9 → pRd_readBoth_F_7 (gf_F_F (mc + 1)) (gf_F_Q (mc + 1)) n' (nI d) (nI y') I' J ∧ ER A 10 W C (sp_fl T (sp_F T m) 3 26 54 d k j c acc) (fRd_readBoth_F_7 (gf_F_F (mc + 1)) n' (nI d) (nI y') I' J) := by
    intro k
    induction k with
    | zero => intro j c acc I' n' y' _ _ _ _ _ _ _ h; exact absurd rfl h
    | succ k ih =>
      intro j c acc I' n' y' hS hny hyj hj hc3 hcc hacc g9
      obtain ⟨n', rfl⟩ : ∃ n9, n' = n9 + 1 := ⟨n' - 1, by omega⟩
      have e3 := cS_kind hM hS hj
      have k48 := hT.2.2.1 j hj
      have c1 : ¬ (4000 : Int32) < nI y' := nI_nlt (a := 4000) (b := y') (by omega) (by decide)
      unfold sp_fl at g9 ⊢
      by_cases k47 : T.1 j = 47
      · rw [if_pos k47]
        have z := cBf_lBoth (J := J) (mc + 1) (n' + 1) (by omega) (nI d) (nI y') (cS_stuck (Or.inr rfl) hT hM hS hj (by omega) (by rw [List.length_append]; omega) k47)
        exact ⟨z.1, ER_f (by decide) z.2⟩
      rw [if_neg k47] at g9 ⊢
      rw [pRd_readBoth_F_7.eq_2, fRd_readBoth_F_7.eq_2]
      refine itn c1 ?_
      rw [e3]
      by_cases kt : T.1 j = 26
      · rw [if_pos kt] at g9 ⊢
        have a := cS_adv (J := J) (Or.inr rfl) hT hM hS hj (by omega)
        have sj := tEnd_s hT hj (by omega)
        refine itp (by rw [kt]; rfl) (sq a.1 ?_)
        have a2 := a.2
        clear a
        generalize fRd_advance I' J = I2 at a2
        have u := hs d (j + 1) c (mc + 1) I2 W (C ++ acc) hd (by omega) sj hc3 (by omega) (by rw [List.length_append]; omega) (b9 g9) a2
        have ln := sp_lenF hT m 3 d (j + 1) c sj hc3
        unfold pRd_readBoth_F_27 fRd_readBoth_F_27
        refine sq u.1 ?_
        unfold pRd_readBoth_F_32 fRd_readBoth_F_32 pRd_readBoth_F_42 fRd_readBoth_F_42
        rw [nI_i1]
        by_cases e1 : (sp_F T m 3 d (j + 1) c).1 = 0
        · rw [sp_b0 e1] at g9 ⊢
          have l1 := ln e1
          have ad := cS_add_F (J := J) (u.2.1 e1) (by rw [List.length_append, List.length_append]; omega) 54 0
          refine sq ad.1 (ih _ _ _ _ n' (y' + 1) ?_ (by omega) (by omega) l1.2.2.1 l1.2.2.2.2.1 (by omega) (by simp only [List.length_append, List.length_cons, List.length_nil]; omega) g9)
          have z := ad.2
          simp only [List.append_assoc] at z ⊢
          exact z
        · rw [sp_b1 e1]
          have ad := cB_add_F (J := J) (u.2.2 e1) 54 0
          have z := cBf_lBoth (J := J) (mc + 1) n' (by omega) (nI d) (nI (y' + 1)) ad.2
          exact sq ad.1 ⟨z.1, ER_b e1 z.2⟩
      · rw [if_neg kt]
        exact itn (fun q => kt ((nI_eq (a := T.1 j) (b := 26) (by omega) (by decide)).mp q)) ⟨trivial, ER_ok hS⟩
  have u := hs d i co (mc + 1) I W C hd (by omega) hi hco hW hC (b9 h9) h
  have ln := sp_lenF hT m 3 d i co hi hco
  refine sq u.1 ?_
  rw [← nI_0]
  by_cases e1 : (sp_F T m 3 d i co).1 = 0
  · rw [sp_b0 e1] at h9 ⊢
    have l1 := ln e1
    exact lp 4002 _ _ _ _ 4002 0 (u.2.1 e1) (by decide) (Nat.zero_le _) l1.2.2.1 l1.2.2.2.2.1 l1.2.2.2.1 (by omega) h9
  · rw [sp_b1 e1]
    have z := cBf_lBoth (J := J) (mc + 1) 4002 (by decide) (nI d) (nI 0) (u.2.2 e1)
    exact ⟨z.1, ER_b e1 z.2⟩
theorem cFEither {m : Nat} (hT : tEnd T n) (hM : tMem A T n) (hs : HF A J T n m 2) : HF A J T n (m + 1) 1 := by
  intro d i co mc I W C hd hmc hi hco hW hC h9 h
  have hn := hT.2.1
  obtain ⟨mc, rfl⟩ : ∃ mc', mc = mc' + 3 := ⟨mc - 3, by omega⟩
  rw [sF1] at h9 ⊢
  rw [gfQ1, gfF1]
  unfold pRd_readEither_F fRd_readEither_F pRd_readEither_F_5 fRd_readEither_F_5
  have lp : ∀ (k j c : Nat) (acc : Cd) (I' : Mm) (n' y' : Nat), cS A 10 j W (C ++ acc) c I' → n' + y' = 4002 → y' ≤ j → j < n → c ≤ 3000 → co ≤ c → i + acc.length ≤ j → (sp_fl T (sp_F T m) 2 27 55 d k j c acc).1 ≠ 9 → pRd_readEither_F_7 (gf_F_F (mc + 2)) (gf_F_Q (mc + 2)) n' (nI d) (nI y') I' J ∧ ER A 10 W C (sp_fl T (sp_F T m) 2 27 55 d k j c acc) (fRd_readEither_F_7 (gf_F_F (mc + 2)) n' (nI d) (nI y') I' J) := by
    intro k
    induction k with
    | zero => intro j c acc I' n' y' _ _ _ _ _ _ _ h; exact absurd rfl h
    | succ k ih =>
      intro j c acc I' n' y' hS hny hyj hj hc3 hcc hacc g9
      obtain ⟨n', rfl⟩ : ∃ n9, n' = n9 + 1 := ⟨n' - 1, by omega⟩
      have e3 := cS_kind hM hS hj
      have k48 := hT.2.2.1 j hj
      have c1 : ¬ (4000 : Int32) < nI y' := nI_nlt (a := 4000) (b := y') (by omega) (by decide)
      unfold sp_fl at g9 ⊢
      by_cases k47 : T.1 j = 47
      · rw [if_pos k47]
        have z := cBf_lEither (J := J) (mc + 2) (n' + 1) (by omega) (nI d) (nI y') (cS_stuck (Or.inr rfl) hT hM hS hj (by omega) (by rw [List.length_append]; omega) k47)
        exact ⟨z.1, ER_f (by decide) z.2⟩
      rw [if_neg k47] at g9 ⊢
      rw [pRd_readEither_F_7.eq_2, fRd_readEither_F_7.eq_2]
      refine itn c1 ?_
      rw [e3]
      by_cases kt : T.1 j = 27
      · rw [if_pos kt] at g9 ⊢
        have a := cS_adv (J := J) (Or.inr rfl) hT hM hS hj (by omega)
        have sj := tEnd_s hT hj (by omega)
        refine itp (by rw [kt]; rfl) (sq a.1 ?_)
        have a2 := a.2
        clear a
        generalize fRd_advance I' J = I2 at a2
        have u := hs d (j + 1) c (mc + 2) I2 W (C ++ acc) hd (by omega) sj hc3 (by omega) (by rw [List.length_append]; omega) (b9 g9) a2
        have ln := sp_lenF hT m 2 d (j + 1) c sj hc3
        unfold pRd_readEither_F_27 fRd_readEither_F_27
        refine sq u.1 ?_
        unfold pRd_readEither_F_32 fRd_readEither_F_32 pRd_readEither_F_42 fRd_readEither_F_42
        rw [nI_i1]
        by_cases e1 : (sp_F T m 2 d (j + 1) c).1 = 0
        · rw [sp_b0 e1] at g9 ⊢
          have l1 := ln e1
          have ad := cS_add_F (J := J) (u.2.1 e1) (by rw [List.length_append, List.length_append]; omega) 55 0
          refine sq ad.1 (ih _ _ _ _ n' (y' + 1) ?_ (by omega) (by omega) l1.2.2.1 l1.2.2.2.2.1 (by omega) (by simp only [List.length_append, List.length_cons, List.length_nil]; omega) g9)
          have z := ad.2
          simp only [List.append_assoc] at z ⊢
          exact z
        · rw [sp_b1 e1]
          have ad := cB_add_F (J := J) (u.2.2 e1) 55 0
          have z := cBf_lEither (J := J) (mc + 2) n' (by omega) (nI d) (nI (y' + 1)) ad.2
          exact sq ad.1 ⟨z.1, ER_b e1 z.2⟩
      · rw [if_neg kt]
        exact itn (fun q => kt ((nI_eq (a := T.1 j) (b := 27) (by omega) (by decide)).mp q)) ⟨trivial, ER_ok hS⟩
  have u := hs d i co (mc + 2) I W C hd (by omega) hi hco hW hC (b9 h9) h
  have ln := sp_lenF hT m 2 d i co hi hco
  refine sq u.1 ?_
  rw [← nI_0]
  by_cases e1 : (sp_F T m 2 d i co).1 = 0
  · rw [sp_b0 e1] at h9 ⊢
    have l1 := ln e1
    exact lp 4002 _ _ _ _ 4002 0 (u.2.1 e1) (by decide) (Nat.zero_le _) l1.2.2.1 l1.2.2.2.2.1 l1.2.2.2.1 (by omega) h9
  · rw [sp_b1 e1]
    have z := cBf_lEither (J := J) (mc + 2) 4002 (by decide) (nI d) (nI 0) (u.2.2 e1)
    exact ⟨z.1, ER_b e1 z.2⟩
theorem cFF {m : Nat} (hT : tEnd T n) (hM : tMem A T n) (hf : HF A J T n m 0) (hei : HF A J T n m 1) : HF A J T n (m + 1) 0 := by
  intro d i co mc I W C hd hmc hi hco hW hC h9 h
  have hn := hT.2.1
  obtain ⟨mc, rfl⟩ : ∃ mc', mc = mc' + 4 := ⟨mc - 4, by omega⟩
  rw [sF0] at h9 ⊢
  rw [gfQ0, gfF0]
  unfold pRd_readFormula_F fRd_readFormula_F
  unfold sp_formula at h9 ⊢
  by_cases hdd : 40 < d
  · rw [if_pos hdd]
    have z := cS_deep1 (J := J) (Or.inr rfl) h (by omega) (by omega) (by omega) hdd (by omega)
    refine sq z.1 ?_
    unfold pRd_readFormula_F_5 fRd_readFormula_F_5
    rw [z.2.1]
    exact itn (by decide) ⟨trivial, ER_f (by decide) z.2.2⟩
  rw [if_neg hdd] at h9 ⊢
  have z := cS_deep0 (J := J) h hdd
  refine sq z.1 ?_
  rw [z.2]
  dsimp only
  unfold pRd_readFormula_F_5 fRd_readFormula_F_5
  have u := hei d i co (mc + 3) I W C hd (by omega) hi hco hW hC (b9 h9) h
  have ln := sp_lenF hT m 1 d i co hi hco
  refine itp rfl (sq u.1 ?_)
  have u2 := u.2
  clear u
  generalize gf_F_F (mc + 3) 1 (nI d) 0 I J = I1 at u2
  unfold pRd_readFormula_F_14 fRd_readFormula_F_14
  by_cases e1 : (sp_F T m 1 d i co).1 = 0
  rotate_left
  · rw [sp_b1 e1]
    have b := u2.2 e1
    exact itn (cB_ne b (s := 28) (by decide)) ⟨trivial, ER_b e1 b⟩
  rw [sp_b0 e1] at h9 ⊢
  have l1 := ln e1
  have s1 := u2.1 e1
  clear u2 ln
  generalize sp_F T m 1 d i co = r at s1 l1 h9 ⊢
  obtain ⟨re, rw', rj, rc, rC⟩ := r
  dsimp only at s1 l1 h9 ⊢
  have hl1 : (C ++ rC).length = C.length + rC.length := List.length_append
  have e3 := cS_kind hM s1 l1.2.2.1
  have k48 := hT.2.2.1 _ l1.2.2.1
  by_cases k3 : T.1 rj = 28
  rotate_left
  · rw [if_neg k3]
    have c3 : ¬ I1 13 3 = (28 : Int32) := fun q => k3 ((nI_eq (a := T.1 rj) (b := 28) (by omega) (by decide)).mp (e3.symm.trans q))
    exact itn c3 ⟨trivial, ER_ok s1⟩
  rw [if_pos k3] at h9 ⊢
  have a := cS_adv (J := J) (Or.inr rfl) hT hM s1 l1.2.2.1 (by omega)
  have sj := tEnd_s hT l1.2.2.1 (by omega)
  refine itp (by rw [e3, k3]; rfl) (sq a.1 ?_)
  unfold pRd_readFormula_F_27 fRd_readFormula_F_27
  have x1 := hf (d + 1) (rj + 1) rc (mc + 3) _ W (C ++ rC) (by omega) (by omega) sj l1.2.2.2.2.1 (by omega) (by omega) (b9 h9) a.2
  have ln2 := sp_lenF hT m 0 (d + 1) (rj + 1) rc sj l1.2.2.2.2.1
  rw [nI_1]
  refine sq x1.1 ?_
  by_cases e2 : (sp_F T m 0 (d + 1) (rj + 1) rc).1 = 0
  · rw [sp_b0 e2]
    have l2 := ln2 e2
    have ad := cS_add_F (J := J) (x1.2.1 e2) (by rw [List.length_append]; omega) 56 0
    refine sqt ⟨ad.1, ER_ok ?_⟩
    have z := ad.2
    simp only [List.append_assoc] at z ⊢
    exact z
  · rw [sp_b1 e2]
    have ad := cB_add_F (J := J) (x1.2.2 e2) 56 0
    exact sqt ⟨ad.1, ER_b e2 ad.2⟩
theorem cF (hT : tEnd T n) (hM : tMem A T n) (hF : fMem A T n) : ∀ m, HF A J T n m 0 ∧ HF A J T n m 1 ∧ HF A J T n m 2 ∧ HF A J T n m 3 := by
  intro m
  induction m with
  | zero => exact ⟨fun _ _ _ _ _ _ _ _ _ _ _ _ _ h => absurd rfl h, fun _ _ _ _ _ _ _ _ _ _ _ _ _ h => absurd rfl h, fun _ _ _ _ _ _ _ _ _ _ _ _ _ h => absurd rfl h, fun _ _ _ _ _ _ _ _ _ _ _ _ _ h => absurd rfl h⟩
  | succ m ih => exact ⟨cFF hT hM ih.1 ih.2.1, cFEither hT hM ih.2.2.1, cFBoth hT hM ih.2.2.2, cFS hT hM hF ih.1 ih.2.2.2⟩
end
