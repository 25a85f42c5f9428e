/-! READS: class and model read the tape as sp_lines says -/
section
variable {b : Nat → Nat} {L : Nat} {n : Nat} {J : Ml}
theorem c_begin (I : Mm) : pRd_begin I J ∧ (∀ j, fRd_begin I J 13 j = if j = 2 ∨ j = 7 ∨ j = 9 ∨ j = 10 then 0 else I 13 j) ∧ (∀ k, k < 60 → fRd_begin I J 15 k = 0) ∧ (fRd_begin I J 3 5 = 0 ∧ fRd_begin I J 3 6 = 0 ∧ fRd_begin I J 3 7 = 0 ∧ fRd_begin I J 3 8 = 0 ∧ fRd_begin I J 3 9 = 0 ∧ fRd_begin I J 3 10 = 0 ∧ fRd_begin I J 7 2 = 0 ∧ fRd_begin I J 10 2 = 0) ∧ ∀ a, a ≠ 3 → a ≠ 7 → a ≠ 10 → a ≠ 13 → a ≠ 15 → fRd_begin I J a = I a := by
  have hf := Ar_fill_15_o 0 (fCi_clear I J) J
  have pb : pRd_begin I J := ⟨trivial, hf.1, trivial⟩
  have hb : fRd_begin I J = pm_u (pm_u (pm_u (pm_u (pm_fl (fCi_clear I J) 15 60 0) 13 7 0) 13 9 0) 13 10 0) 13 2 0 := by
    unfold fRd_begin fRd_begin_7 fRd_begin_15
    rw [hf.2]
  rw [hb]
  refine ⟨pb, fun j => ?_, fun k hk => ?_, ⟨?_, ?_, ?_, ?_, ?_, ?_, ?_, ?_⟩, fun a h1 h2 h3 h4 h5 => ?_⟩
  · by_cases j2 : j = 2
    · rw [j2, pm_u_s]; rfl
    by_cases j10 : j = 10
    · rw [j10, pm_u_j _ _ _ (by decide), pm_u_s]; rfl
    by_cases j9 : j = 9
    · rw [j9, pm_u_j _ _ _ (by decide), pm_u_j _ _ _ (by decide), pm_u_s]; rfl
    by_cases j7 : j = 7
    · rw [j7, pm_u_j _ _ _ (by decide), pm_u_j _ _ _ (by decide), pm_u_j _ _ _ (by decide), pm_u_s]; rfl
    rw [if_neg (by omega), pm_u_j _ _ _ j2, pm_u_j _ _ _ j10, pm_u_j _ _ _ j9, pm_u_j _ _ _ j7, pm_fl_n _ _ _ (by decide)]
    unfold fCi_clear
    rw [pm_u_n _ _ _ (by decide), pm_u_n _ _ _ (by decide), pm_u_n _ _ _ (by decide), pm_u_n _ _ _ (by decide), pm_u_n _ _ _ (by decide), pm_u_n _ _ _ (by decide), pm_u_n _ _ _ (by decide), pm_u_n _ _ _ (by decide)]
  · rw [pm_u_n _ _ _ (by decide), pm_u_n _ _ _ (by decide), pm_u_n _ _ _ (by decide), pm_u_n _ _ _ (by decide), pm_fl_j _ _ _ hk]
  · simp [fCi_clear, pm_u_n, pm_u_j, pm_u_s, pm_fl_n]
  · simp [fCi_clear, pm_u_n, pm_u_j, pm_u_s, pm_fl_n]
  · simp [fCi_clear, pm_u_n, pm_u_j, pm_u_s, pm_fl_n]
  · simp [fCi_clear, pm_u_n, pm_u_j, pm_u_s, pm_fl_n]
  · simp [fCi_clear, pm_u_n, pm_u_j, pm_u_s, pm_fl_n]
  · simp [fCi_clear, pm_u_n, pm_u_j, pm_u_s, pm_fl_n]
  · simp [fCi_clear, pm_u_n, pm_u_j, pm_u_s, pm_fl_n]
  · simp [fCi_clear, pm_u_n, pm_u_j, pm_u_s, pm_fl_n]
  · rw [pm_u_n _ _ _ h4, pm_u_n _ _ _ h4, pm_u_n _ _ _ h4, pm_u_n _ _ _ h4, pm_fl_n _ _ _ h5]
    unfold fCi_clear
    rw [pm_u_n _ _ _ h3, pm_u_n _ _ _ h2, pm_u_n _ _ _ h1, pm_u_n _ _ _ h1, pm_u_n _ _ _ h1, pm_u_n _ _ _ h1, pm_u_n _ _ _ h1, pm_u_n _ _ _ h1]
theorem c_readTape {I : Mm} (hA : cBy I b L) (hE : bE (tB b L) n) (c : Value) : pRd_readTape 4002 I J c ∧ ∃ A : Mm, TE A (tB b L) n (sp_lines (tB b L) 4002 l0) (fRd_readTape 4002 I J c).1 ∧ (∀ k, k < n → A 19 k = nI (tF b L k)) ∧ ∀ a, (a < 3 ∨ 21 < a) → A a = I a := by
  obtain ⟨pb, x13, x15, ⟨y5, y6, y7, y8, y9, y10, y72, y102⟩, xa⟩ := c_begin (J := J) I
  unfold pRd_readTape fRd_readTape pRd_readTape_4 fRd_readTape_4 pRd_readTape_11 fRd_readTape_11 pTk_part fTk_part
  generalize fRd_begin I J = X at x13 x15 y5 y6 y7 y8 y9 y10 y72 y102 xa
  have hX : cBy X b L := cBy_c hA (xa 1 (by decide) (by decide) (by decide) (by decide) (by decide)) (xa 2 (by decide) (by decide) (by decide) (by decide) (by decide))
  have p := c_part (J := J) hX hE 4002 0 (pm_u (pm_u X 17 6 0) 17 5 0) hE.1 rfl ⟨by rw [pm_u_s]; rfl, by rw [pm_u_j _ _ _ (by decide), pm_u_s]; rfl, fun a ha => by rw [pm_u_n _ _ _ (by omega), pm_u_n _ _ _ (by omega)], fun k hk => absurd hk (Nat.not_lt_zero _)⟩
  have p1 : pTk_part_14 4002 1 0 (pm_u (pm_u X 17 6 0) 17 5 0) J := p.1
  have p2 : cT X b L n (fTk_part_14 4002 1 0 (pm_u (pm_u X 17 6 0) 17 5 0) J) := p.2
  clear p
  generalize fTk_part_14 4002 1 0 (pm_u (pm_u X 17 6 0) 17 5 0) J = Q at p2
  have e0 : (0 : Int32).toNatClampNeg = 0 := by decide
  rw [e0]
  have hM := c_bMem hX hE p2
  have q : ∀ a, a < 17 → Q a = X a := fun a ha => p2.2.2.1 a (Or.inl ha)
  generalize eY : pm_u Q 13 3 (Q 18 0) = Y
  have Ya : ∀ a, a ≠ 13 → Y a = Q a := fun a ha => by rw [← eY, pm_u_n _ _ _ ha]
  have Yj : ∀ j, j ≠ 3 → Y 13 j = X 13 j := fun j hj => by rw [← eY, pm_u_j _ _ _ hj, q 13 (by decide)]
  have hL : cL Q l0 Y := by
    refine ⟨fun a ha => Ya a (by omega), ?_, ?_, ?_, ?_, ?_, ?_, ?_, ?_, ?_, ?_, ?_, ?_, ?_, ?_, ?_, ?_, ?_⟩
    · rw [Yj 2 (by decide), x13, if_pos (Or.inl rfl)]; rfl
    · rw [← eY, pm_u_s]
    · rw [Yj 7 (by decide), x13, if_pos (by omega)]
    · rw [Yj 9 (by decide), x13, if_pos (by omega)]
    · rw [Yj 10 (by decide), x13, if_pos (by omega)]
    · rw [Ya 3 (by decide), q 3 (by decide), y5]; rfl
    · rw [Ya 3 (by decide), q 3 (by decide), y6]; rfl
    · rw [Ya 3 (by decide), q 3 (by decide), y7]; rfl
    · rw [Ya 3 (by decide), q 3 (by decide), y8]; rfl
    · rw [Ya 3 (by decide), q 3 (by decide), y9]; rfl
    · rw [Ya 3 (by decide), q 3 (by decide), y10]; rfl
    · intro k x hx; rw [List.getElem?_nil] at hx; cases hx
    · intro k hk; rw [Ya 15 (by decide), q 15 (by decide), x15 k hk]; exact (if_neg (List.not_mem_nil)).symm
    · rw [Ya 7 (by decide), q 7 (by decide), y72]; rfl
    · intro k x hx; rw [List.getElem?_nil] at hx; cases hx
    · rw [Ya 10 (by decide), q 10 (by decide), y102]; rfl
    · intro k x hx; rw [List.getElem?_nil] at hx; cases hx
  have hO : lOk (tB b L) n l0 := ⟨hE.1, Nat.zero_le _, ⟨Nat.zero_le _, fun k x hx => by rw [List.getElem?_nil] at hx; cases hx⟩, Nat.zero_le _, Nat.zero_le _, Nat.zero_le _, Nat.zero_le _, Nat.one_pos, fun k hk => (by cases hk)⟩
  have z := cl_lines (J := J) hE hM 4002 l0 Y c 4002 0 hL hO (by decide) rfl (Nat.zero_le _)
  have z1 : pRd_readTape_26 4002 0 Y J c := z.1
  have z2 : TE Q (tB b L) n (sp_lines (tB b L) 4002 l0) (fRd_readTape_26 4002 0 Y J c).1 := z.2
  refine ⟨⟨pb, p1, vp_0 (by decide) (by decide), z1⟩, Q, z2, fun k hk => (p2.2.2.2 k hk).2.1, fun a ha => ?_⟩
  rcases ha with ha | ha
  · rw [q a (by omega)]; exact xa a (by omega) (by omega) (by omega) (by omega) (by omega)
  · rw [p2.2.2.1 a (Or.inr ha)]; exact xa a (by omega) (by omega) (by omega) (by omega) (by omega)
/-- the model's -/
theorem m_rd0 (I : Mm) : (∀ a, a ≠ 40 → iMo_rd0 I a = I a) ∧ iMo_rd0 I 40 1 = I 40 1 ∧ iMo_rd0 I 40 5 = 0 ∧ iMo_rd0 I 40 10 = 0 ∧ iMo_rd0 I 40 9 = 0 ∧ iMo_rd0 I 40 11 = 0 ∧ iMo_rd0 I 40 16 = 0 ∧ iMo_rd0 I 40 34 = 0 ∧ iMo_rd0 I 40 38 = 0 ∧ iMo_rd0 I 40 23 = 0 ∧ iMo_rd0 I 40 24 = 0 ∧ iMo_rd0 I 40 25 = 0 ∧ iMo_rd0 I 40 26 = 0 ∧ iMo_rd0 I 40 27 = 0 ∧ iMo_rd0 I 40 28 = 0 := by
  refine ⟨fun a ha => ?_, ?_, ?_, ?_, ?_, ?_, ?_, ?_, ?_, ?_, ?_, ?_, ?_, ?_, ?_⟩
  · unfold iMo_rd0 fMo_clear
    rw [pm_u_n _ _ _ ha, pm_u_n _ _ _ ha, pm_u_n _ _ _ ha, pm_u_n _ _ _ ha, pm_u_n _ _ _ ha, pm_u_n _ _ _ ha, pm_u_n _ _ _ ha, pm_u_n _ _ _ ha, pm_u_n _ _ _ ha, pm_u_n _ _ _ ha, pm_u_n _ _ _ ha, pm_u_n _ _ _ ha, pm_u_n _ _ _ ha, pm_u_n _ _ _ ha, pm_u_n _ _ _ ha, pm_u_n _ _ _ ha]
  all_goals simp [iMo_rd0, fMo_clear, pm_u_j, pm_u_s]
theorem m_read {I : Mm} (hB : mBt I b L) (hE : bE (tB b L) n) : pMo_rdx I ∧ ML2 b L n (iMo_rd0 I) (sp_lines (tB b L) 4002 l0) (fMo_rdx I) ∧ ∀ a, a ≠ 40 → iMo_rd0 I a = I a := by
  obtain ⟨xa, x1, x5, x10, x9, x11, x16, x34, x38, x23, x24, x25, x26, x27, x28⟩ := m_rd0 I
  have x3 : iMo_rd0 I 40 3 = 0 := by simp [iMo_rd0, fMo_clear, pm_u_j, pm_u_s]
  have x4 : iMo_rd0 I 40 4 = 0 := by simp [iMo_rd0, fMo_clear, pm_u_j, pm_u_s]
  unfold pMo_rdx fMo_rdx pMo_rd0
  generalize iMo_rd0 I = X at x3 x4 xa x1 x5 x10 x9 x11 x16 x34 x38 x23 x24 x25 x26 x27 x28
  have hX : mBy X b L := ⟨by rw [x1]; exact hB.1, hB.2.1, fun q hq => by rw [xa 41 (by decide)]; exact hB.2.2 q hq, x3, x4⟩
  have no : ∀ (k : Nat) (x : Nat × Nat × Nat × Nat), ([] : NmT)[k]? ≠ some x := fun k x hx => by rw [List.getElem?_nil] at hx; cases hx
  have hT : mT b L [] 0 0 0 [] X := by
    refine ⟨⟨hX, Or.inl ⟨x10, x5, x9⟩, x11, x34, ⟨x16, Nat.zero_le _, fun k x hx => absurd hx (no k x)⟩, fun k x hx => absurd hx (no k x)⟩, x38, ⟨fun g x hx => ?_, fun k x hx => absurd hx (no k x), fun g x hx => ?_, fun q hq => absurd hq (Nat.not_lt_zero _)⟩, fun k x hx => absurd hx (no k x)⟩
    · rw [List.getElem?_nil] at hx; cases hx
    · rw [List.getElem?_nil] at hx; cases hx
  have hL : mL b L l0 0 [] [] [] [] X := by
    refine ⟨hT, ⟨x23, x24, x25, x26, x27, x28⟩, fun k x hx => absurd hx (no k x), ⟨rfl, rfl, fun r y hy => ?_⟩, ⟨rfl, fun x hx => (by cases hx)⟩, rfl, rfl, fun g C hg => ?_⟩
    · rw [List.getElem?_nil] at hy; cases hy
    · rw [List.getElem?_nil] at hg; cases hg
  have z := m_lines hE 4002 4002 l0 0 [] [] [] [] X (lW_0 hE) hL (Nat.le_refl _) (Nat.le_refl _) (by decide) (by decide)
  exact ⟨⟨trivial, z.1⟩, z.2, fun a ha => xa a ha⟩
end
