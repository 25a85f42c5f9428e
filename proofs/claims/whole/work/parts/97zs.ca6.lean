/-! CALLS 6: step -/
section
variable {I : Mm} {J : Ml} {B : Nat → Value} {E : List (Nat × Nat)}
theorem k_step (h : Iv I J B E) (y z : Int32) : pCh_step y z I J ∧ (((fCh_step y z I J).1 = 0 ∧ ∀ E, pMo_step y z I B E ∧ (fMo_step y z I B E).2 40 2 = 0 ∧ (fCh_step y z I J).2 = (fMo_step y z I B E).1 ∧ eq6 I (fMo_step y z I B E).2) ∨ rfs I 14 1 (fCh_step y z I J).1 (pMo_step y z I B) (fMo_step y z I B) ∨ rfs I 13 2 (fCh_step y z I J).1 (pMo_step y z I B) (fMo_step y z I B)) := by
  have ht := h.2.1
  obtain ⟨tl, t1, t2, t3, t4⟩ : ∃ tl, tl < 256 ∧ I 37 2 = nI tl ∧ I 40 51 = nI tl ∧ ((I 37 3 = 0 ∧ I 40 52 = 0) ∨ (I 37 3 = 1 ∧ I 40 52 = 1 ∧ (∀ j, j ≤ tl → I 38 j = I 354 j) ∧ ∀ j, j < tl → I 39 j = I 355 j)) := by
    rcases ht with ⟨q1, q2, q3, q4⟩ | ⟨tl, q1, q2, q3, q4, q5, q6, q7⟩
    · exact ⟨0, by decide, q1, q3, Or.inl ⟨q2, q4⟩⟩
    · exact ⟨tl, q1, q2, q3, Or.inr ⟨q4, q5, q6, q7⟩⟩
  have inr : ¬ y < 0 → ¬ nI tl < y → ∃ k, k ≤ tl ∧ y = nI k := fun h1 h2 => by
    obtain ⟨k, k1, rfl⟩ := i_nn h1
    refine ⟨k, Nat.le_of_not_lt fun q => h2 ?_, rfl⟩
    exact Int32.not_le.mp (nI_ge q k1)
  have vin : ¬ y < 0 → ¬ nI tl < y → vp_in y 256 ∧ vp_in y 257 := fun h1 h2 => by
    obtain ⟨k, k1, rfl⟩ := inr h1 h2
    exact ⟨vp_in_nI (by omega) (by decide), vp_in_nI (by omega) (by decide)⟩
  have p21 : ∀ z0, pCh_step_21 y z z0 I J := fun z0 => by
    unfold pCh_step_21
    rw [t2]
    refine ⟨fun _ => trivial, fun _ => ⟨fun _ => trivial, fun q1 => ⟨fun _ => trivial, fun q2 => ⟨fun _ => ⟨fun _ => ?_, fun _ => ⟨fun _ => ?_, fun _ => trivial⟩⟩, fun _ => trivial⟩⟩⟩⟩
    · exact ⟨fun _ => ⟨(vin q1 q2).1, trivial⟩, fun _ => ⟨(vin q1 q2).1, trivial⟩⟩
    · exact ⟨fun _ => ⟨(vin q1 q2).1, trivial⟩, fun _ => ⟨(vin q1 q2).1, trivial⟩⟩
  have pC : pCh_step y z I J := by
    unfold pCh_step pCh_step_20
    exact ⟨fun _ => ⟨fun _ => p21 1, fun _ => p21 0⟩, fun _ => p21 0⟩
  refine ⟨pC, ?_⟩
  -- what the model needs
  have pM : ∀ E, pMo_step y z I B E := fun E => by
    unfold pMo_step
    rw [t3]
    have p39 := (mst_bad (pm_u I 40 2 0) y z B E).1
    have p43 : ¬ y < 0 → ¬ nI tl < y → pMo_step_43 y z 1 (pm_u I 40 2 0) B E := fun q1 q2 => by
      by_cases c : z = 0 ∨ z = 1
      · exact (mst_go _ y z B E c (vin q1 q2).1 (vin q1 q2).2).1
      · exact (mst_ok _ y z B E c).1
    exact ⟨fun _ => p39, fun _ => ⟨fun _ => p39, fun q1 => ⟨fun _ => p39, fun q2 => ⟨fun _ => ⟨fun _ => p39, fun _ => p43 q1 q2⟩, fun _ => p43 q1 q2⟩⟩⟩⟩
  have bad : (I 37 3 = 0 ∧ I 40 52 = 0) ∨ (¬ I 37 3 = 0 ∧ ¬ I 40 52 = 0) → (I 37 3 = 0 ∨ y < 0 ∨ nI tl < y ∨ (z = 1 ∧ y = nI tl)) → rfs I 14 1 (fCh_step y z I J).1 (pMo_step y z I B) (fMo_step y z I B) := fun hk hb => by
    have f21 : ∀ z0, (I 37 3 = 0 ∨ y < 0 ∨ nI tl < y ∨ ¬ z0 = 0) → fCh_step_21 y z z0 I J = (14, 0) := fun z0 hz => by
      unfold fCh_step_21 fCh_step_51
      rw [t2]
      by_cases c1 : I 37 3 = 0
      · rw [if_pos c1]
      rw [if_neg c1]
      by_cases c2 : y < 0
      · rw [if_pos c2]
      rw [if_neg c2]
      by_cases c3 : nI tl < y
      · rw [if_pos c3]
      rw [if_neg c3]
      exact if_neg (((hz.resolve_left c1).resolve_left c2).resolve_left c3)
    have f1 : fCh_step y z I J = (14, 0) := by
      unfold fCh_step fCh_step_20
      rw [t2]
      by_cases c1 : z = 1
      · rw [if_pos c1]
        by_cases c2 : y = nI tl
        · rw [if_pos c2]; exact f21 1 (Or.inr (Or.inr (Or.inr (by decide))))
        · rw [if_neg c2]
          refine f21 0 ?_
          rcases hb with q | q | q | ⟨_, q⟩
          · exact Or.inl q
          · exact Or.inr (Or.inl q)
          · exact Or.inr (Or.inr (Or.inl q))
          · exact absurd q c2
      · rw [if_neg c1]
        refine f21 0 ?_
        rcases hb with q | q | q | ⟨q, _⟩
        · exact Or.inl q
        · exact Or.inr (Or.inl q)
        · exact Or.inr (Or.inr (Or.inl q))
        · exact absurd q c1
    have f2 : ∀ E, fMo_step y z I B E = (0, pm_u (pm_u I 40 2 0) 40 2 1) := fun E => by
      have f39 := (mst_bad (pm_u I 40 2 0) y z B E).2
      unfold fMo_step
      rw [t3]
      by_cases c1 : I 40 52 = 0
      · rw [if_pos c1]; exact f39
      rw [if_neg c1]
      have n3 : ¬ I 37 3 = 0 := by
        rcases hk with q | q
        · exact absurd q.2 c1
        · exact q.1
      by_cases c2 : y < 0
      · rw [if_pos c2]; exact f39
      rw [if_neg c2]
      by_cases c3 : nI tl < y
      · rw [if_pos c3]; exact f39
      rw [if_neg c3]
      obtain ⟨q1, q2⟩ := ((hb.resolve_left n3).resolve_left c2).resolve_left c3
      rw [if_pos q1, if_pos q2]; exact f39
    refine ⟨by rw [f1], fun E => ⟨pM E, ?_, ?_⟩⟩
    · rw [f2]; dsimp only; exact pm_u_s _ _ _ _
    · rw [f2]; exact eq6_1 _ _ _
  rcases t4 with ⟨q1, q2⟩ | ⟨q1, q2, q3, q4⟩
  · exact Or.inr (Or.inl (bad (Or.inl ⟨q1, q2⟩) (Or.inl q1)))
  have n1 : ¬ I 37 3 = 0 := by rw [q1]; decide
  have n2 : ¬ I 40 52 = 0 := by rw [q2]; decide
  by_cases hb : y < 0 ∨ nI tl < y ∨ (z = 1 ∧ y = nI tl)
  · exact Or.inr (Or.inl (bad (Or.inr ⟨n1, n2⟩) (Or.inr hb)))
  have c2 : ¬ y < 0 := fun q => hb (Or.inl q)
  have c3 : ¬ nI tl < y := fun q => hb (Or.inr (Or.inl q))
  have c4 : ¬ (z = 1 ∧ y = nI tl) := fun q => hb (Or.inr (Or.inr q))
  have f1 : fCh_step y z I J = if z = 0 then fCh_step_76 y z 0 I J else if z = 1 then fCh_step_76 y z 0 I J else (13, 0) := by
    unfold fCh_step fCh_step_20 fCh_step_21
    rw [t2]
    by_cases c1 : z = 1
    · rw [if_pos c1, if_neg (fun q => c4 ⟨c1, q⟩), if_neg n1, if_neg c2, if_neg c3, if_pos rfl]
    · rw [if_neg c1, if_neg n1, if_neg c2, if_neg c3, if_pos rfl]
  have f2 : ∀ E, fMo_step y z I B E = fMo_step_43 y z 1 (pm_u I 40 2 0) B E := fun E => by
    unfold fMo_step
    rw [t3, if_neg n2, if_neg c2, if_neg c3]
    by_cases c1 : z = 1
    · rw [if_pos c1, if_neg (fun q => c4 ⟨c1, q⟩)]
    · rw [if_neg c1]
  by_cases hz : z = 0 ∨ z = 1
  · obtain ⟨k, k1, rfl⟩ := inr c2 c3
    have ck : (nI k).toNatClampNeg = k := nI_clamp (by omega)
    have g := fun E => (mst_go (pm_u I 40 2 0) (nI k) z B E hz (vin c2 c3).1 (vin c2 c3).2).2
    have f1' : fCh_step (nI k) z I J = (0, if z = 0 then I 38 k else I 39 k) := by
      rw [f1]
      unfold fCh_step_76
      rw [ck]
      rcases hz with rfl | rfl
      · rfl
      · rfl
    refine Or.inl ⟨by rw [f1'], fun E => ⟨pM E, ?_, ?_, ?_⟩⟩
    · rw [f2, g]; dsimp only; exact pm_u_s _ _ _ _
    · rw [f1', f2, g, ck]
      dsimp only
      rw [pm_u_n _ _ _ (show 354 ≠ 40 by decide), pm_u_n _ _ _ (show 355 ≠ 40 by decide)]
      rcases hz with rfl | rfl
      · exact q3 k k1
      · have : k < tl := by
          rcases Nat.lt_or_eq_of_le k1 with q | q
          · exact q
          · exact absurd ⟨rfl, by rw [q]⟩ c4
        exact q4 k this
    · rw [f2, g]; exact eq6_0 _ _
  · have g := fun E => (mst_ok (pm_u I 40 2 0) y z B E hz).2
    have f1' : fCh_step y z I J = (13, 0) := by
      rw [f1, if_neg (fun q => hz (Or.inl q)), if_neg (fun q => hz (Or.inr q))]
    refine Or.inr (Or.inr ⟨by rw [f1'], fun E => ⟨pM E, ?_, ?_⟩⟩)
    · rw [f2, g]; dsimp only; exact pm_u_s _ _ _ _
    · rw [f2, g]; exact eq6_1 _ _ _
end
