/-! CALLS 3: go, tick -/
section
variable {I : Mm} {J : Ml} {B : Nat → Value} {E : List (Nat × Nat)}
/-- the state changes, on both sides -/
theorem Iv_s {I I' : Mm} {st : Nat} (h : Iv I J B E) (hs : ∀ rb, (fMo_all I = nI (2 ^ rb) ∧ rb ≤ 8) → st < 2 ^ rb) (f : ∀ a, a ≠ 0 → a ≠ 40 → I' a = I a) (f40 : ∀ j, j ≠ 2 → j ≠ 46 → I' 40 j = I 40 j) (h7 : I' 0 7 = nI st) (h46 : I' 40 46 = nI st) : Iv I' J B E := by
  obtain ⟨⟨co, Nm, rb, ib, sp, fi, Hn, D, SS, st', e, w, h1⟩, h2, b, L, h3, h4⟩ := h
  refine ⟨⟨co, Nm, rb, ib, sp, fi, Hn, D, SS, st, e, w, Iw_c h1 (fun a ha => f a (by omega) (by omega)) (fun j hj => f40 j (by omega) (by omega)) rfl rfl (hs rb ⟨h1.2.2.1.2.1.1, h1.2.2.1.1.2.1.2.2.2.1⟩) h7 h46⟩, ?_, b, L, cBy_c h3 (f 1 (by decide) (by decide)) (f 2 (by decide) (by decide)), by rw [f40 1 (by decide) (by decide)]; exact h4.1, h4.2.1, fun q hq => by rw [f 41 (by decide) (by decide)]; exact h4.2.2 q hq⟩
  unfold It at h2 ⊢
  rw [f 37 (by decide) (by decide), f 38 (by decide) (by decide), f 39 (by decide) (by decide), f 354 (by decide) (by decide), f 355 (by decide) (by decide), f40 51 (by decide) (by decide), f40 52 (by decide) (by decide)]
  exact h2
theorem p2_i {a b : Nat} (ha : a ≤ 8) (hb : b ≤ 8) (h : nI (2 ^ a) = nI (2 ^ b)) : a = b := (show ∀ a, a < 9 → ∀ b, b < 9 → nI (2 ^ a) = nI (2 ^ b) → a = b by decide +kernel) a (by omega) b (by omega) h
theorem k_go (h : Iv I J B E) (y : Int32) : pCh_go y I J ∧ (((fCh_go y I J).1 = 0 ∧ pMo_go y (fCh_go y I J).2.2 ∧ (fMo_go y (fCh_go y I J).2.2).2 40 2 = 0 ∧ (fCh_go y I J).2.1 = (fMo_go y (fCh_go y I J).2.2).1) ∨ ((fCh_go y I J).1 = 13 ∧ pMo_go y (fCh_go y I J).2.2 ∧ (fMo_go y (fCh_go y I J).2.2).2 40 2 = 1)) ∧ Iv (fMo_go y (fCh_go y I J).2.2).2 J B E := by
  have hI := h
  obtain ⟨⟨co, Nm, rb, ib, sp, fi, Hn, D, SS, st, e, w, ⟨a1, a2, a3, a4, a5⟩, ⟨c1, c2, c4, c5, c6, c7, c8, c9⟩, ⟨m1, m3, m4, m5, m6, m7, m8, m9⟩⟩, _⟩ := h
  have n256 := m1.2.1.2.2.1
  obtain ⟨t1, t2⟩ := is_state (J := J) c2.1.1 n256 y
  have al : ∀ I' : Mm, I' 40 27 = I 40 27 → fMo_all (pm_u I' 40 2 0) = nI (2 ^ rb) := fun I' e => by
    rw [← m1.2.1.1]
    unfold fMo_all
    rw [pm_u_j _ _ _ (by decide), e]
  rcases t2 with ⟨s, j1, rfl, j3, j4, j5⟩ | ⟨j1, j2⟩
  · have f1 : fCh_go (nI s) I J = (0, I 0 7, pm_u I 0 7 (nI s)) := by
      unfold fCh_go
      rw [j5, if_neg (by decide)]
    have f2 : fMo_go (nI s) (pm_u I 0 7 (nI s)) = (I 40 46, pm_u (pm_u (pm_u I 0 7 (nI s)) 40 2 0) 40 46 (nI s)) := by
      unfold fMo_go fMo_go_24 fMo_go_27
      rw [if_neg j3, al _ (by rw [pm_u_n _ _ _ (by decide)]), if_pos j4, (rf0 1).2, if_pos rfl]
      dsimp only
      rw [pm_u_j _ _ _ (by decide), pm_u_n _ _ _ (by decide)]
    have p2 : pMo_go (nI s) (pm_u I 0 7 (nI s)) := by
      unfold pMo_go pMo_go_24 pMo_go_27
      rw [al _ (by rw [pm_u_n _ _ _ (by decide)]), (rf0 1).2]
      exact ⟨fun q => absurd q j3, fun _ => ⟨trivial, fun _ => ⟨(rf0 1).1, fun _ => trivial, fun _ => trivial⟩, fun q => absurd j4 q⟩⟩
    rw [f1]
    dsimp only
    rw [f2]
    dsimp only
    refine ⟨?_, Or.inl ⟨rfl, p2, ?_, ?_⟩, Iv_s (st := s) hI (fun r hr => ?_) (fun a h1 h2 => ?_) (fun j h1 h2 => ?_) ?_ ?_⟩
    · unfold pCh_go
      rw [j5]
      exact ⟨t1, fun q => absurd q (by decide), fun _ => trivial⟩
    · rw [pm_u_j _ _ _ (by decide), pm_u_s]
    · rw [c9, m8]
    · have : r = rb := p2_i hr.2 m1.1.2.1.2.2.2.1 (hr.1.symm.trans m1.2.1.1)
      rw [this]; exact j1
    · rw [pm_u_n _ _ _ h2, pm_u_n _ _ _ h2, pm_u_n _ _ _ h1]
    · rw [pm_u_j _ _ _ h2, pm_u_j _ _ _ h1, pm_u_n _ _ _ (by decide)]
    · rw [pm_u_n _ _ _ (by decide), pm_u_n _ _ _ (by decide), pm_u_s]
    · rw [pm_u_s]
  · have f1 : fCh_go y I J = (13, 0, I) := by
      unfold fCh_go
      rw [j2, if_pos rfl]
    have f2 : fMo_go y I = (0, pm_u (pm_u I 40 2 0) 40 2 1) := by
      unfold fMo_go fMo_go_19 fMo_go_24 fMo_go_27
      rw [al _ rfl]
      rcases j1 with j1 | ⟨j1, j3⟩
      · rw [if_pos j1, (rf1 1).2]; exact if_neg (show ¬ (1 : Int32) = 0 by decide)
      · rw [if_neg j1, if_neg j3, (rf1 1).2]; exact if_neg (show ¬ (1 : Int32) = 0 by decide)
    have p2 : pMo_go y I := by
      have p3 : pMo_go_24 y 1 1 (pm_u I 40 2 0) := ⟨(rf1 1).1, fun _ => trivial, fun _ => trivial⟩
      unfold pMo_go
      rw [al _ rfl]
      refine ⟨fun _ => p3, fun j3 => ⟨trivial, fun j4 => ?_, fun _ => p3⟩⟩
      rcases j1 with j1 | ⟨j1, j5⟩
      · exact absurd j1 j3
      · exact absurd j4 j5
    rw [f1]
    dsimp only
    rw [f2]
    dsimp only
    refine ⟨?_, Or.inr ⟨rfl, p2, pm_u_s _ _ _ _⟩, Iv_6 hI (eq6_1 _ _ _)⟩
    unfold pCh_go
    rw [j2]
    exact ⟨t1, fun _ => trivial, fun q => absurd rfl q⟩
theorem case_of {ib s i : Nat} (h : I 3 8 = nI ib) (hb : ib ≤ 3) (hs : s < 256) (hi : i < 2 ^ ib) : fSt_caseOf (nI s) (nI i) I J = nI (s * 2 ^ ib + i) := by
  unfold fSt_caseOf
  rw [h]
  exact nI_sor hs (by omega) hi
theorem cse_lt {rb ib s i : Nat} (hr : rb ≤ 8) (hb : ib ≤ 3) (hs : s < 2 ^ rb) (hi : i < 2 ^ ib) : s * 2 ^ ib + i < 2 ^ (rb + ib) ∧ s * 2 ^ ib + i < 2048 := by
  have h1 : s * 2 ^ ib + i < (s + 1) * 2 ^ ib := by rw [Nat.succ_mul]; omega
  have h2 : (s + 1) * 2 ^ ib ≤ 2 ^ rb * 2 ^ ib := Nat.mul_le_mul_right _ hs
  have h3 : 2 ^ (rb + ib) ≤ 2 ^ 11 := Nat.pow_le_pow_right (by decide) (by omega)
  rw [Nat.pow_add] at h3 ⊢
  omega
theorem k_tick (h : Iv I J B E) (y : Int32) : pCh_tick y I J ∧ (((fCh_tick y I J).1 = 0 ∧ ∀ E, pMo_tick y (fCh_tick y I J).2.2 B E ∧ (fMo_tick y (fCh_tick y I J).2.2 B E).2 40 2 = 0 ∧ (fCh_tick y I J).2.1 = (fMo_tick y (fCh_tick y I J).2.2 B E).1) ∨ ((fCh_tick y I J).1 = 13 ∧ ∀ E, pMo_tick y (fCh_tick y I J).2.2 B E ∧ (fMo_tick y (fCh_tick y I J).2.2 B E).2 40 2 = 1)) ∧ ∀ E', Iv (fMo_tick y (fCh_tick y I J).2.2 B E').2 J B E := by
  have hI := h
  obtain ⟨⟨co, Nm, rb, ib, sp, fi, Hn, D, SS, st, e, w, ⟨a1, a2, a3, a4, a5⟩, ⟨c1, c2, c4, c5, c6, c7, c8, c9⟩, ⟨m1, m3, m4, m5, m6, m7, m8, m9⟩⟩, _⟩ := h
  have n256 := m1.2.1.2.2.1
  have m8' := m1.2.1.2.2.2.1
  have r8 := m1.1.2.1.2.2.2.1
  have i3 := m1.1.2.1.2.2.2.2
  obtain ⟨t1, t2⟩ := are_in (J := J) c2.1.2.2.1 (by omega) y
  have al : ∀ I' : Mm, I' 40 28 = I 40 28 → fMo_allInputs (pm_u I' 40 2 0) = nI (2 ^ ib) := fun I' e => by
    rw [← m1.2.1.2.1]
    unfold fMo_allInputs
    rw [pm_u_j _ _ _ (by decide), e]
  rcases t2 with ⟨i, j1, rfl, j3, j4, j5⟩ | ⟨j1, j2⟩
  · have cs := case_of (J := J) c1.2.2.2.1 i3 (show st < 256 by omega) j1
    obtain ⟨x1, x2⟩ := cse_lt r8 i3 a4 j1
    obtain ⟨y1, y2⟩ := c2.1.2.2.2.2.2.2.2 st a4 i j1
    obtain ⟨z1, z2⟩ := m1.2.1.2.2.2.2 st i a4 j1
    generalize aN Nm rb ib D st i = nx at y1 y2 z1 z2
    have e26 : I 26 (fSt_caseOf (I 0 7) (nI i) I J).toNatClampNeg = nI nx := by
      rw [c9, cs, nI_clamp (n := st * 2 ^ ib + i) (by omega), y1]
    have f1 : fCh_tick (nI i) I J = (0, nI nx, pm_u I 0 7 (nI nx)) := by
      unfold fCh_tick
      rw [j5, if_neg (by decide), e26]
    have e46 : (pm_u (pm_u I 0 7 (nI nx)) 40 2 0) 40 46 = nI st := by
      rw [pm_u_j _ _ _ (by decide), pm_u_n _ _ _ (by decide)]; exact m8
    have e64 : (pm_u (pm_u I 0 7 (nI nx)) 40 2 0) (64 + (nI st).toNatClampNeg) (nI i).toNatClampNeg = nI nx := by
      rw [nI_clamp (n := st) (by omega), nI_clamp (n := i) (by omega), pm_u_n _ _ _ (show 64 + st ≠ 40 by omega), pm_u_n _ _ _ (show 64 + st ≠ 0 by omega)]; exact z1
    have f2 : ∀ E, fMo_tick (nI i) (pm_u I 0 7 (nI nx)) B E = (nI nx, pm_u (pm_u (pm_u I 0 7 (nI nx)) 40 2 0) 40 46 (nI nx)) := fun E => by
      unfold fMo_tick fMo_tick_24 fMo_tick_27
      rw [if_neg j3, al _ (by rw [pm_u_n _ _ _ (by decide)]), if_pos j4, (rf0 1).2, if_pos rfl]
      dsimp only
      rw [e46, e64]
    have p2 : ∀ E, pMo_tick (nI i) (pm_u I 0 7 (nI nx)) B E := fun E => by
      unfold pMo_tick pMo_tick_24 pMo_tick_27
      rw [al _ (by rw [pm_u_n _ _ _ (by decide)]), (rf0 1).2]
      dsimp only
      rw [e46]
      exact ⟨fun q => absurd q j3, fun _ => ⟨trivial, fun _ => ⟨(rf0 1).1, fun _ => ⟨vp_in_nI (by omega) (by decide), vp_in_nI (by omega) (by decide), trivial⟩, fun _ => trivial⟩, fun q => absurd j4 q⟩⟩
    rw [f1]
    dsimp only
    refine ⟨?_, Or.inl ⟨rfl, fun E => ⟨p2 E, ?_, ?_⟩⟩, fun E' => ?_⟩
    · unfold pCh_tick
      rw [j5, c9, cs]
      exact ⟨t1, fun q => absurd q (by decide), fun _ => ⟨trivial, vp_in_nI (by omega) (by decide), trivial⟩⟩
    · rw [f2]
      dsimp only
      rw [pm_u_j _ _ _ (by decide), pm_u_s]
    · rw [f2]
    · rw [f2]
      dsimp only
      refine Iv_s (st := nx) hI (fun r hr => ?_) (fun a h1 h2 => ?_) (fun j h1 h2 => ?_) ?_ ?_
      · have : r = rb := p2_i hr.2 r8 (hr.1.symm.trans m1.2.1.1)
        rw [this]; exact y2
      · rw [pm_u_n _ _ _ h2, pm_u_n _ _ _ h2, pm_u_n _ _ _ h1]
      · rw [pm_u_j _ _ _ h2, pm_u_j _ _ _ h1, pm_u_n _ _ _ (by decide)]
      · rw [pm_u_n _ _ _ (by decide), pm_u_n _ _ _ (by decide), pm_u_s]
      · rw [pm_u_s]
  · have f1 : fCh_tick y I J = (13, 0, I) := by
      unfold fCh_tick
      rw [j2, if_pos rfl]
    have f2 : ∀ E, fMo_tick y I B E = (0, pm_u (pm_u I 40 2 0) 40 2 1) := fun E => by
      unfold fMo_tick fMo_tick_19 fMo_tick_24 fMo_tick_27
      rw [al _ rfl]
      rcases j1 with j1 | ⟨j1, j3⟩
      · rw [if_pos j1, (rf1 1).2]; exact if_neg (show ¬ (1 : Int32) = 0 by decide)
      · rw [if_neg j1, if_neg j3, (rf1 1).2]; exact if_neg (show ¬ (1 : Int32) = 0 by decide)
    have p2 : ∀ E, pMo_tick y I B E := fun E => by
      have p3 : pMo_tick_24 y 1 1 (pm_u I 40 2 0) B E := by
        unfold pMo_tick_24 pMo_tick_27
        rw [(rf1 1).2]
        exact ⟨(rf1 1).1, fun q => absurd q (show ¬ (1 : Int32) = 0 by decide), fun _ => trivial⟩
      unfold pMo_tick
      rw [al _ rfl]
      refine ⟨fun _ => p3, fun j3 => ⟨trivial, fun j4 => ?_, fun _ => p3⟩⟩
      rcases j1 with j1 | ⟨j1, j5⟩
      · exact absurd j1 j3
      · exact absurd j4 j5
    rw [f1]
    dsimp only
    refine ⟨?_, Or.inr ⟨rfl, fun E => ⟨p2 E, ?_⟩⟩, fun E' => ?_⟩
    · unfold pCh_tick
      rw [j2]
      exact ⟨t1, fun _ => trivial, fun q => absurd rfl q⟩
    · rw [f2]; dsimp only; exact pm_u_s _ _ _ _
    · rw [f2]; dsimp only; exact Iv_6 hI (eq6_1 _ _ _)
end
