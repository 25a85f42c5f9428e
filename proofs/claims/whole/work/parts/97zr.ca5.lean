/-! CALLS 5: end, step -/
section
variable {I : Mm} {J : Ml} {B : Nat → Value} {E : List (Nat × Nat)}
/-- the tape changes, on both sides -/
theorem Iv_t {I I' : Mm} (h : Iv I J B E) (f : ∀ a, a ≠ 1 → a ≠ 2 → a ≠ 40 → a ≠ 41 → I' a = I a) (f40 : ∀ j, j ≠ 1 → j ≠ 2 → I' 40 j = I 40 j) (ht : Ita I') : Iv I' J B E := by
  obtain ⟨⟨co, Nm, rb, ib, sp, fi, Hn, D, SS, st, e, w, h1⟩, h2, _⟩ := h
  refine ⟨⟨co, Nm, rb, ib, sp, fi, Hn, D, SS, st, e, w, Iw_c h1 (fun a ha => f a (by omega) (by omega) (by omega) (by omega)) (fun j hj => f40 j (by omega) (by omega)) rfl rfl h1.1.2.2.2.1 (by rw [f 0 (by decide) (by decide) (by decide) (by decide)]; exact h1.2.1.2.2.2.2.2.2.2) (by rw [f40 46 (by decide) (by decide)]; exact h1.2.2.2.2.2.2.2.2.1)⟩, ?_, ht⟩
  unfold It at h2 ⊢
  rw [f 37 (by decide) (by decide) (by decide) (by decide), f 38 (by decide) (by decide) (by decide) (by decide), f 39 (by decide) (by decide) (by decide) (by decide), f 354 (by decide) (by decide) (by decide) (by decide), f 355 (by decide) (by decide) (by decide) (by decide), f40 51 (by decide) (by decide), f40 52 (by decide) (by decide)]
  exact h2
theorem k_end (h : Iv I J B E) (y : Int32) : pCh_end y I J ∧ (((fCh_end y I J).1 = 0 ∧ pMo_end y (fCh_end y I J).2.2 ∧ (fMo_end y (fCh_end y I J).2.2).2 40 2 = 0 ∧ (fCh_end y I J).2.1 = (fMo_end y (fCh_end y I J).2.2).1) ∨ ((fCh_end y I J).1 = 13 ∧ pMo_end y (fCh_end y I J).2.2 ∧ (fMo_end y (fCh_end y I J).2.2).2 40 2 = 1)) ∧ Iv (fMo_end y (fCh_end y I J).2.2).2 J B E := by
  have hI := h
  obtain ⟨_, _, b, L, ⟨b1, b2', b3⟩, ⟨d1, d2, d3⟩⟩ := h
  have bad : (y < 0 ∨ ¬ y ≤ nI L) → pCh_end y I J ∧ (((fCh_end y I J).1 = 0 ∧ pMo_end y (fCh_end y I J).2.2 ∧ (fMo_end y (fCh_end y I J).2.2).2 40 2 = 0 ∧ (fCh_end y I J).2.1 = (fMo_end y (fCh_end y I J).2.2).1) ∨ ((fCh_end y I J).1 = 13 ∧ pMo_end y (fCh_end y I J).2.2 ∧ (fMo_end y (fCh_end y I J).2.2).2 40 2 = 1)) ∧ Iv (fMo_end y (fCh_end y I J).2.2).2 J B E := fun hb => by
    have f1 : fCh_end y I J = (13, 0, I) := by
      unfold fCh_end fCh_end_15
      rw [b1]
      by_cases c : y < 0
      · rw [if_pos c]
      · rw [if_neg c, if_neg (hb.resolve_left c)]
    have f2 : fMo_end y I = (0, pm_u (pm_u I 40 2 0) 40 2 1) := by
      unfold fMo_end fMo_end_19 fMo_end_24 fMo_end_27
      rw [d1]
      by_cases c : y < 0
      · rw [if_pos c, (rf1 1).2]; exact if_neg (show ¬ (1 : Int32) = 0 by decide)
      · rw [if_neg c, if_neg (hb.resolve_left c), (rf1 1).2]; exact if_neg (show ¬ (1 : Int32) = 0 by decide)
    have p2 : pMo_end y I := by
      have p3 : pMo_end_24 y 1 1 (pm_u I 40 2 0) := ⟨(rf1 1).1, fun _ => trivial, fun _ => trivial⟩
      have p4 : pMo_end_24 y 1 0 (pm_u I 40 2 0) := ⟨(rf0 1).1, fun _ => trivial, fun _ => trivial⟩
      unfold pMo_end
      exact ⟨fun _ => p3, fun _ => ⟨fun _ => p4, fun _ => p3⟩⟩
    rw [f1]
    dsimp only
    rw [f2]
    dsimp only
    refine ⟨?_, Or.inr ⟨rfl, p2, pm_u_s _ _ _ _⟩, Iv_6 hI (eq6_1 _ _ _)⟩
    unfold pCh_end
    exact ⟨fun _ => trivial, fun _ => ⟨fun _ => trivial, fun _ => trivial⟩⟩
  by_cases c : y < 0
  · exact bad (Or.inl c)
  by_cases c2 : y ≤ nI L
  · obtain ⟨k, h1, rfl⟩ := i_nn c
    have kL : k ≤ L := Nat.le_of_not_lt fun q => nI_ge (a := L) (b := k) q h1 c2
    have f1 : fCh_end (nI k) I J = (0, nI k, pm_u I 1 1 (nI k)) := by
      unfold fCh_end
      rw [b1, if_neg c, if_pos c2]
    have e1 : pm_u I 1 1 (nI k) 40 1 = nI L := by rw [pm_u_n _ _ _ (by decide)]; exact d1
    have f2 : fMo_end (nI k) (pm_u I 1 1 (nI k)) = (nI k, pm_u (pm_u (pm_u I 1 1 (nI k)) 40 2 0) 40 1 (nI k)) := by
      unfold fMo_end fMo_end_24 fMo_end_27
      rw [e1, if_neg c, if_pos c2, (rf0 1).2]; exact if_pos rfl
    have p2 : pMo_end (nI k) (pm_u I 1 1 (nI k)) := by
      have p3 : ∀ v, (v = 0 ∨ v = 1) → pMo_end_24 (nI k) 1 v (pm_u (pm_u I 1 1 (nI k)) 40 2 0) := fun v hv => by
        rcases hv with rfl | rfl
        · exact ⟨(rf0 1).1, fun _ => trivial, fun _ => trivial⟩
        · exact ⟨(rf1 1).1, fun _ => trivial, fun _ => trivial⟩
      unfold pMo_end
      exact ⟨fun _ => p3 1 (Or.inr rfl), fun _ => ⟨fun _ => p3 0 (Or.inl rfl), fun _ => p3 1 (Or.inr rfl)⟩⟩
    rw [f1]
    dsimp only
    rw [f2]
    dsimp only
    refine ⟨?_, Or.inl ⟨rfl, p2, ?_, rfl⟩, Iv_t hI (fun a h1 h2 h3 h4 => ?_) (fun j h1 h2 => ?_) ⟨b, k, ⟨?_, by omega, fun q hq => ?_⟩, ?_, by omega, fun q hq => ?_⟩⟩
    · unfold pCh_end
      exact ⟨fun _ => trivial, fun _ => ⟨fun _ => trivial, fun _ => trivial⟩⟩
    · rw [pm_u_j _ _ _ (by decide), pm_u_s]
    · rw [pm_u_n _ _ _ h3, pm_u_n _ _ _ h3, pm_u_n _ _ _ h1]
    · rw [pm_u_j _ _ _ h1, pm_u_j _ _ _ h2, pm_u_n _ _ _ (by decide)]
    · rw [pm_u_n _ _ _ (by decide), pm_u_n _ _ _ (by decide), pm_u_s]
    · rw [pm_u_n _ _ _ (by decide), pm_u_n _ _ _ (by decide), pm_u_n _ _ _ (by decide)]; exact b3 q (by omega)
    · rw [pm_u_s]
    · rw [pm_u_n _ _ _ (by decide), pm_u_n _ _ _ (by decide), pm_u_n _ _ _ (by decide)]; exact d3 q (by omega)
  · exact bad (Or.inr c2)
theorem mst_bad (V : Mm) (y z : Int32) (B : Nat → Value) (E : List (Nat × Nat)) : pMo_step_39 y z 1 V B E ∧ fMo_step_39 y z 1 V B E = (0, pm_u V 40 2 1) := by
  unfold pMo_step_39 fMo_step_39 pMo_step_44 fMo_step_44 pMo_step_47 fMo_step_47 pMo_step_72 fMo_step_72
  rw [(rf1 1).2]
  exact ⟨⟨(rf1 1).1, fun q => absurd q (show ¬ (1 : Int32) = 0 by decide), fun _ => trivial⟩, if_neg (show ¬ (1 : Int32) = 0 by decide)⟩
theorem mst_ok (V : Mm) (y z : Int32) (B : Nat → Value) (E : List (Nat × Nat)) (h : ¬ (z = 0 ∨ z = 1)) : pMo_step_43 y z 1 V B E ∧ fMo_step_43 y z 1 V B E = (0, pm_u V 40 2 2) := by
  have hz : z < 0 ∨ (¬ z < 0 ∧ ¬ z ≤ 1) := by
    by_cases c : z < 0
    · exact Or.inl c
    · refine Or.inr ⟨c, fun q => h ?_⟩
      obtain ⟨k, k1, rfl⟩ := i_nn c
      have : k ≤ 1 := Nat.le_of_not_lt fun q' => nI_ge (a := 1) (b := k) q' k1 q
      rcases (show k = 0 ∨ k = 1 by omega) with rfl | rfl
      · exact Or.inl rfl
      · exact Or.inr rfl
  have p66 : pMo_step_66 y z 2 1 V B E := by
    unfold pMo_step_66 pMo_step_69 pMo_step_72
    rw [(rf1 2).2]
    exact ⟨(rf1 2).1, fun q => absurd q (show ¬ (1 : Int32) = 0 by decide), fun _ => trivial⟩
  have f66 : fMo_step_66 y z 2 1 V B E = (0, pm_u V 40 2 2) := by
    unfold fMo_step_66 fMo_step_69 fMo_step_72
    rw [(rf1 2).2]; exact if_neg (show ¬ (1 : Int32) = 0 by decide)
  unfold pMo_step_43 fMo_step_43 pMo_step_44 fMo_step_44 pMo_step_47 fMo_step_47 pMo_step_61 fMo_step_61
  rw [(rf0 1).2]
  refine ⟨⟨(rf0 1).1, fun _ => ⟨fun _ => p66, fun q1 => ⟨fun q2 => ?_, fun _ => p66⟩⟩, fun q => absurd rfl q⟩, ?_⟩
  · rcases hz with q | ⟨_, q⟩
    · exact absurd q q1
    · exact absurd q2 q
  · rw [if_pos rfl]
    rcases hz with q | ⟨q1, q2⟩
    · rw [if_pos q]; exact f66
    · rw [if_neg q1, if_neg q2]; exact f66
theorem mst_go (V : Mm) (y z : Int32) (B : Nat → Value) (E : List (Nat × Nat)) (h : z = 0 ∨ z = 1) (hv : vp_in y 256) (hv' : vp_in y 257) : pMo_step_43 y z 1 V B E ∧ fMo_step_43 y z 1 V B E = (if z = 0 then V 354 y.toNatClampNeg else V 355 y.toNatClampNeg, V) := by
  have hz : ¬ z < 0 ∧ z ≤ 1 := by rcases h with rfl | rfl <;> decide
  unfold pMo_step_43 fMo_step_43 pMo_step_44 fMo_step_44 pMo_step_47 fMo_step_47 pMo_step_66 fMo_step_66 pMo_step_69 fMo_step_69
  rw [(rf0 1).2]
  dsimp only
  rw [(rf0 2).2, if_pos rfl, if_neg hz.1, if_pos hz.2, if_pos rfl]
  refine ⟨⟨(rf0 1).1, fun _ => ⟨fun q => absurd q hz.1, fun _ => ⟨fun _ => ⟨(rf0 2).1, fun _ => ⟨fun _ => ⟨hv', trivial⟩, fun _ => ⟨hv, trivial⟩⟩, fun q => absurd rfl q⟩, fun q => absurd hz.2 q⟩⟩, fun q => absurd rfl q⟩, ?_⟩
  rcases h with rfl | rfl
  · rfl
  · rfl
end
