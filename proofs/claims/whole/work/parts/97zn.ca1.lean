/-! CALLS 1: what keeps the invariant; the small calls -/
theorem MW_c {Nm : NmT} {rb ib sp : Nat} {Hn : List Nat} {D : List Itm} {SS : Nat → Se} {I I' : Mm} {B : Nat → Value} {E : List (Nat × Nat)} (h30 : sp ≤ 30) (h : MW Nm rb ib sp Hn D SS I B E) (f : ∀ a, ((41 < a ∧ a < 60) ∨ (62 < a ∧ a < 320) ∨ (322 < a ∧ a < 353) ∨ 355 < a) → I' a = I a) (f40 : ∀ j, 22 < j → j < 29 → I' 40 j = I 40 j) : MW Nm rb ib sp Hn D SS I' B E := by
  obtain ⟨h1, h2, h3, h4⟩ := h
  have hC : mC Nm rb ib Hn D I' := mC_x h1 (fun a g1 g2 => f a (by omega)) f40
  refine ⟨hC, ⟨(mall hC).1, (mall hC).2, h2.2.2.1, h2.2.2.2.1, fun s i hs hi => ?_⟩, bOK_c h3 (fun a g1 _ => f a (by omega)), fun k hk => ?_⟩
  · have := h2.2.2.1
    rw [f (64 + s) (by omega)]; exact h2.2.2.2.2 s i hs hi
  · exact rw_c (h4 k hk) (f (323 + k) (by omega))
/-- the circuit stays, the state may change -/
theorem Iw_c {co rb ib sp fi : Nat} {Nm : NmT} {Hn : List Nat} {D : List Itm} {SS : Nat → Se} {st st' e w : Nat} {I I' : Mm} {J J' : Ml} {B : Nat → Value} {E : List (Nat × Nat)} (h : Iw co Nm rb ib sp fi Hn D SS st e w I J B E) (f : ∀ a, ((2 < a ∧ a < 37) ∨ (41 < a ∧ a < 60) ∨ (62 < a ∧ a < 320) ∨ (322 < a ∧ a < 353) ∨ 355 < a) → I' a = I a) (f40 : ∀ j, (22 < j ∧ j < 29) ∨ j = 3 ∨ j = 4 ∨ j = 11 ∨ j = 16 ∨ j = 47 → I' 40 j = I 40 j) (j23 : J' 23 = J 23) (j34 : J' 34 = J 34) (hs : st' < 2 ^ rb) (h07 : I' 0 7 = nI st') (h46 : I' 40 46 = nI st') : Iw co Nm rb ib sp fi Hn D SS st' e w I' J' B E := by
  obtain ⟨⟨a1, a2, a3, a4, a5⟩, ⟨c1, c2, c4, c5, c6, c7, c8, c9⟩, ⟨m1, m3, m4, m5, m6, m7, m8, m9⟩⟩ := h
  have g : ∀ a, (2 < a ∧ a < 37) → I' a = I a := fun a ha => f a (Or.inl ha)
  refine ⟨⟨a1, a2, a3, hs, a5⟩, ⟨cC_c c1 (g 3 (by decide)) (g 4 (by decide)) (g 5 (by decide)) (g 6 (by decide)), CW_c c2 (g 3 (by decide)) (g 25 (by decide)) (g 26 (by decide)) (g 29 (by decide)) (g 30 (by decide)) (g 31 (by decide)) (g 32 (by decide)) j23 j34, by rw [g 13 (by decide)]; exact c4, by rw [g 13 (by decide)]; exact c5, by rw [g 3 (by decide)]; exact c6, by rw [g 3 (by decide)]; exact c7, by rw [g 3 (by decide)]; exact c8, h07⟩, MW_c a2 m1 (fun a ha => f a (Or.inr ha)) (fun j h1 h2 => f40 j (Or.inl ⟨h1, h2⟩)), ?_⟩
  rw [f40 3 (by decide), f40 4 (by decide), f40 11 (by decide), f40 16 (by decide), f40 26 (by decide), f40 47 (by decide)]
  exact ⟨m3, m4, m5, m6, m7, h46, m9⟩
def eq2 (I I' : Mm) : Prop := (∀ a, a ≠ 40 → I' a = I a) ∧ ∀ j, j ≠ 2 → I' 40 j = I 40 j
theorem eq2_u (I : Mm) (v : Int32) : eq2 I (pm_u I 40 2 v) := ⟨fun _ ha => pm_u_n _ _ _ ha, fun _ hj => pm_u_j _ _ _ hj⟩
theorem eq2_t {I I' I'' : Mm} (h : eq2 I I') (h' : eq2 I' I'') : eq2 I I'' := ⟨fun a ha => (h'.1 a ha).trans (h.1 a ha), fun j hj => (h'.2 j hj).trans (h.2 j hj)⟩
theorem It_2 {I I' : Mm} (h : It I) (f : eq2 I I') : It I' := by
  unfold It at h ⊢
  rw [f.1 37 (by decide), f.1 38 (by decide), f.1 39 (by decide), f.1 354 (by decide), f.1 355 (by decide), f.2 51 (by decide), f.2 52 (by decide)]
  exact h
theorem Ita_2 {I I' : Mm} (h : Ita I) (f : eq2 I I') : Ita I' := by
  obtain ⟨b, L, h1, h2⟩ := h
  exact ⟨b, L, cBy_c h1 (f.1 1 (by decide)) (f.1 2 (by decide)), by rw [f.2 1 (by decide)]; exact h2.1, h2.2.1, fun q hq => by rw [f.1 41 (by decide)]; exact h2.2.2 q hq⟩
theorem Iv_2 {I I' : Mm} {J : Ml} {B : Nat → Value} {E : List (Nat × Nat)} (h : Iv I J B E) (f : eq2 I I') : Iv I' J B E := by
  obtain ⟨⟨co, Nm, rb, ib, sp, fi, Hn, D, SS, st, e, w, h1⟩, h2, h3⟩ := h
  refine ⟨⟨co, Nm, rb, ib, sp, fi, Hn, D, SS, st, e, w, Iw_c h1 (fun a ha => f.1 a (by omega)) (fun j hj => f.2 j (by omega)) rfl rfl h1.1.2.2.2.1 (by rw [f.1 0 (by decide)]; exact h1.2.1.2.2.2.2.2.2.2) (by rw [f.2 46 (by decide)]; exact h1.2.2.2.2.2.2.2.2.1)⟩, It_2 h2 f, Ita_2 h3 f⟩
theorem Iv_J {I : Mm} {J J' : Ml} {B : Nat → Value} {E : List (Nat × Nat)} (h : Iv I J B E) (f : ∀ q, q ≠ 356 → J' q = J q) : Iv I J' B E := by
  obtain ⟨⟨co, Nm, rb, ib, sp, fi, Hn, D, SS, st, e, w, h1⟩, h2, h3⟩ := h
  exact ⟨⟨co, Nm, rb, ib, sp, fi, Hn, D, SS, st, e, w, Iw_c h1 (fun a ha => rfl) (fun j hj => rfl) (f 23 (by decide)) (f 34 (by decide)) h1.1.2.2.2.1 h1.2.1.2.2.2.2.2.2.2 h1.2.2.2.2.2.2.2.2.1⟩, h2, h3⟩
theorem Iv_E {I : Mm} {J : Ml} {B : Nat → Value} {E : List (Nat × Nat)} (X : List (Nat × Nat)) (h : Iv I J B E) : Iv I J B (E ++ X) := by
  obtain ⟨⟨co, Nm, rb, ib, sp, fi, Hn, D, SS, st, e, w, h1, h2, ⟨m1, m2, m3, m4⟩, h4⟩, h5⟩ := h
  exact ⟨⟨co, Nm, rb, ib, sp, fi, Hn, D, SS, st, e, w, h1, h2, ⟨m1, m2, bOK_a X m3, m4⟩, h4⟩, h5⟩
theorem i_nn {y : Int32} (h : ¬ y < 0) : ∃ k, k < 2 ^ 31 ∧ y = nI k := by
  have h1 : (0 : Int) ≤ y.toInt := by
    rw [Int32.lt_iff_toInt_lt] at h
    have : (0 : Int32).toInt = 0 := by decide
    omega
  have h2 := Int32.toInt_lt y
  refine ⟨y.toInt.toNat, by omega, ?_⟩
  have e : ((y.toInt.toNat : Nat) : Int) = y.toInt := Int.toNat_of_nonneg h1
  show y = Int32.ofNat y.toInt.toNat
  rw [← Int32.ofInt_eq_ofNat, e, Int32.ofInt_toInt]
theorem rng (y : Int32) {n : Nat} (hn : n < 2 ^ 31) : (∃ k, k < n ∧ y = nI k ∧ ¬ y < 0 ∧ ¬ nI n ≤ y ∧ y < nI n) ∨ (y < 0 ∨ (¬ y < 0 ∧ nI n ≤ y ∧ ¬ y < nI n)) := by
  by_cases c : y < 0
  · exact Or.inr (Or.inl c)
  · obtain ⟨k, h1, h2⟩ := i_nn c
    by_cases d : k < n
    · have c1 : ¬ nI n ≤ y := by rw [h2]; exact nI_ge (by omega) (by omega)
      exact Or.inl ⟨k, d, h2, c, c1, Int32.not_le.mp c1⟩
    · have c1 : nI n ≤ y := by rw [h2]; exact nI_le (by omega) (by omega)
      exact Or.inr (Or.inr ⟨c, c1, Int32.not_lt.mpr c1⟩)
section
variable {I : Mm} {J : Ml}
theorem is_spec {sp : Nat} (h : I 3 6 = nI sp) (hs : sp ≤ 30) (y : Int32) : pCh_isSpec y I J ∧ ((∃ k, k < sp ∧ y = nI k ∧ ¬ y < 0 ∧ y < nI sp ∧ fCh_isSpec y I J = 1) ∨ ((y < 0 ∨ (¬ y < 0 ∧ ¬ y < nI sp)) ∧ fCh_isSpec y I J = 0)) := by
  unfold pCh_isSpec fCh_isSpec
  rw [h]
  rcases rng y (n := sp) (by omega) with ⟨k, h1, h2, h3, h4, h5⟩ | q | ⟨q1, q2, q3⟩
  · rw [if_neg h3, if_neg h4]
    exact ⟨⟨fun q => absurd q h3, fun _ => ⟨fun q => absurd q h4, fun _ => trivial⟩⟩, Or.inl ⟨k, h1, h2, h3, h5, rfl⟩⟩
  · rw [if_pos q]
    exact ⟨⟨fun _ => trivial, fun w => absurd q w⟩, Or.inr ⟨Or.inl q, rfl⟩⟩
  · rw [if_neg q1, if_pos q2]
    exact ⟨⟨fun q => absurd q q1, fun _ => ⟨fun _ => trivial, fun w => absurd q2 w⟩⟩, Or.inr ⟨Or.inr ⟨q1, q3⟩, rfl⟩⟩
theorem is_state {n : Nat} (h : I 25 1 = nI n) (hs : n ≤ 256) (y : Int32) : pCh_isState y I J ∧ ((∃ k, k < n ∧ y = nI k ∧ ¬ y < 0 ∧ y < nI n ∧ fCh_isState y I J = 1) ∨ ((y < 0 ∨ (¬ y < 0 ∧ ¬ y < nI n)) ∧ fCh_isState y I J = 0)) := by
  unfold pCh_isState fCh_isState
  rw [h]
  rcases rng y (n := n) (by omega) with ⟨k, h1, h2, h3, h4, h5⟩ | q | ⟨q1, q2, q3⟩
  · rw [if_neg h3, if_neg h4]
    exact ⟨⟨fun q => absurd q h3, fun _ => ⟨fun q => absurd q h4, fun _ => trivial⟩⟩, Or.inl ⟨k, h1, h2, h3, h5, rfl⟩⟩
  · rw [if_pos q]
    exact ⟨⟨fun _ => trivial, fun w => absurd q w⟩, Or.inr ⟨Or.inl q, rfl⟩⟩
  · rw [if_neg q1, if_pos q2]
    exact ⟨⟨fun q => absurd q q1, fun _ => ⟨fun _ => trivial, fun w => absurd q2 w⟩⟩, Or.inr ⟨Or.inr ⟨q1, q3⟩, rfl⟩⟩
theorem are_in {n : Nat} (h : I 25 2 = nI n) (hs : n ≤ 256) (y : Int32) : pCh_areInputs y I J ∧ ((∃ k, k < n ∧ y = nI k ∧ ¬ y < 0 ∧ y < nI n ∧ fCh_areInputs y I J = 1) ∨ ((y < 0 ∨ (¬ y < 0 ∧ ¬ y < nI n)) ∧ fCh_areInputs y I J = 0)) := by
  unfold pCh_areInputs fCh_areInputs
  rw [h]
  rcases rng y (n := n) (by omega) with ⟨k, h1, h2, h3, h4, h5⟩ | q | ⟨q1, q2, q3⟩
  · rw [if_neg h3, if_neg h4]
    exact ⟨⟨fun q => absurd q h3, fun _ => ⟨fun q => absurd q h4, fun _ => trivial⟩⟩, Or.inl ⟨k, h1, h2, h3, h5, rfl⟩⟩
  · rw [if_pos q]
    exact ⟨⟨fun _ => trivial, fun w => absurd q w⟩, Or.inr ⟨Or.inl q, rfl⟩⟩
  · rw [if_neg q1, if_pos q2]
    exact ⟨⟨fun q => absurd q q1, fun _ => ⟨fun _ => trivial, fun w => absurd q2 w⟩⟩, Or.inr ⟨Or.inr ⟨q1, q3⟩, rfl⟩⟩
/-- the model refuses, or not -/
theorem rf0 (v : Int32) : pMo_refuse v 0 I ∧ fMo_refuse v 0 I = (0, I) := ⟨⟨fun _ => rfl, fun _ => rfl⟩, rfl⟩
theorem rf1 (v : Int32) : pMo_refuse v 1 I ∧ fMo_refuse v 1 I = (1, pm_u I 40 2 v) := ⟨⟨fun _ => rfl, fun _ => rfl⟩, rfl⟩
theorem no_sp0 {sp : Nat} {y : Int32} (h : I 40 26 = nI sp) (h1 : ¬ y < 0) (h2 : y < nI sp) : pMo_noSpec y I ∧ fMo_noSpec y I = (0, pm_u I 40 2 0) := by
  unfold pMo_noSpec fMo_noSpec
  rw [h, if_neg h1, if_pos h2]
  exact ⟨⟨fun q => absurd q h1, fun _ => ⟨fun _ => ⟨(rf0 1).1, by rw [(rf0 1).2]; exact nar_b' false⟩, fun w => absurd h2 w⟩⟩, rfl⟩
theorem no_sp1 {sp : Nat} {y : Int32} (h : I 40 26 = nI sp) (h1 : y < 0 ∨ (¬ y < 0 ∧ ¬ y < nI sp)) : pMo_noSpec y I ∧ fMo_noSpec y I = (1, pm_u (pm_u I 40 2 0) 40 2 1) := by
  unfold pMo_noSpec fMo_noSpec
  rw [h]
  rcases h1 with q | ⟨q1, q2⟩
  · rw [if_pos q]
    exact ⟨⟨fun _ => ⟨(rf1 1).1, by rw [(rf1 1).2]; exact nar_b' true⟩, fun w => absurd q w⟩, rfl⟩
  · rw [if_neg q1, if_neg q2]
    exact ⟨⟨fun q => absurd q q1, fun _ => ⟨fun q => absurd q q2, fun _ => ⟨(rf1 1).1, by rw [(rf1 1).2]; exact nar_b' true⟩⟩⟩, rfl⟩
end
section
variable {I : Mm} {J : Ml} {B : Nat → Value} {E : List (Nat × Nat)}
/-- count -/
theorem k_count (h : Iv I J B E) (y : Int32) : pCh_count y I J ∧ pMo_count y I ∧ fCh_count y I J = (fMo_count y I).1 ∧ eq2 I (fMo_count y I).2 := by
  obtain ⟨⟨co, Nm, rb, ib, sp, fi, Hn, D, SS, st, e, w, ⟨a1, a2, a3, a4, a5⟩, ⟨c1, c2, c4, c5, c6, c7, c8, c9⟩, ⟨m1, m3, m4, m5, m6, m7, m8, m9⟩⟩, ht, b, L, hta, htb⟩ := h
  have hC := m1.1.1
  have tr : I 37 2 = I 40 51 := by
    rcases ht with ⟨q1, _, q2, _⟩ | ⟨tl, _, q1, q2, _⟩
    · rw [q1, q2]
    · rw [q1, q2]
  refine ⟨by unfold pCh_count; simp, by unfold pMo_count; simp, ?_, ?_⟩
  · unfold fCh_count fMo_count
    split
    · rw [c6, m7]
    · split
      · rw [c1.1, m6]
      · split
        · rw [c1.2.2.1, hC.2.2.2.1]
        · split
          · rw [c1.2.2.2.1, hC.2.2.2.2]
          · split
            · rw [c7, m5]
            · split
              · rw [hta.1, htb.1]
              · split
                · rw [c9, m8]
                · split
                  · exact tr
                  · rfl
  · unfold fMo_count
    repeat (first | exact eq2_u I 0 | split)
/-- fault -/
theorem k_fault (h : Iv I J B E) (y : Int32) : pCh_fault y I J ∧ pMo_fault y I ∧ fCh_fault y I J = (fMo_fault y I).1 ∧ eq2 I (fMo_fault y I).2 := by
  obtain ⟨⟨co, Nm, rb, ib, sp, fi, Hn, D, SS, st, e, w, ⟨a1, a2, a3, a4, a5⟩, ⟨c1, c2, c4, c5, c6, c7, c8, c9⟩, ⟨m1, m3, m4, m5, m6, m7, m8, m9⟩⟩, _⟩ := h
  refine ⟨by unfold pCh_fault; simp, by unfold pMo_fault; simp, ?_, ?_⟩
  · unfold fCh_fault fMo_fault
    split
    · rw [c4, m3]
    · split
      · rw [c5, m4]
      · rfl
  · unfold fMo_fault
    repeat (first | exact eq2_u I 0 | split)
end
