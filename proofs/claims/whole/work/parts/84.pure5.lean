/-! PURE 5: the class's answers without a circuit -/
theorem C_end (x : Int32) (I : Nat → Nat → Int32) (J : Nat → Nat → Int64) (h1 : I 1 1 = 0) : pCh_end x I J ∧ ((x = 0 ∧ fCh_end x I J = (0, 0, pm_u I 1 1 0)) ∨ (¬ x = 0 ∧ fCh_end x I J = (13, 0, I))) := by
  rcases T2 x with ⟨h, h0⟩ | ⟨h, h', -, -, h0⟩ | h0
  · simp [pCh_end, fCh_end, pCh_end_15, fCh_end_15, h, h0]
  · simp [pCh_end, fCh_end, pCh_end_15, fCh_end_15, h, h', h0, h1]
  · subst h0
    simp [pCh_end, fCh_end, pCh_end_15, fCh_end_15, h1]
theorem C_isSpec (x : Int32) (I : Nat → Nat → Int32) (J : Nat → Nat → Int64) (h1 : I 3 6 = 0) : pCh_isSpec x I J ∧ fCh_isSpec x I J = 0 := by
  rcases T2 x with ⟨h, h0⟩ | ⟨h, h', -, h2, h0⟩ | h0
  · simp [pCh_isSpec, fCh_isSpec, pCh_isSpec_19, fCh_isSpec_19, h]
  · have h3 : (0 : Int32) ≤ x := Int32.not_lt.mp h
    simp [pCh_isSpec, fCh_isSpec, pCh_isSpec_19, fCh_isSpec_19, h, h1, h3]
  · subst h0
    simp [pCh_isSpec, fCh_isSpec, pCh_isSpec_19, fCh_isSpec_19, h1]
theorem C_holds (x : Int32) (I : Nat → Nat → Int32) (J : Nat → Nat → Int64) (h1 : I 3 6 = 0) : pCh_holds x I J ∧ fCh_holds x I J = (14, 0) := by
  have s := C_isSpec x I J h1
  unfold pCh_holds fCh_holds
  rw [s.2]
  exact ⟨⟨s.1, fun _ => trivial, fun q => absurd rfl q⟩, if_pos rfl⟩
theorem C_states (x : Int32) (I : Nat → Nat → Int32) (J : Nat → Nat → Int64) (h1 : I 3 6 = 0) : pCh_states x I J ∧ fCh_states x I J = (14, 0) := by
  have s := C_isSpec x I J h1
  unfold pCh_states fCh_states
  rw [s.2]
  exact ⟨⟨s.1, fun _ => trivial, fun q => absurd rfl q⟩, if_pos rfl⟩
theorem C_at (x y : Int32) (I : Nat → Nat → Int32) (J : Nat → Nat → Int64) (h1 : I 3 6 = 0) : pCh_at x y I J ∧ fCh_at x y I J = (14, 0) := by
  have s := C_isSpec x I J h1
  unfold pCh_at fCh_at
  rw [s.2]
  exact ⟨⟨s.1, fun _ => trivial, fun q => absurd rfl q⟩, if_pos rfl⟩
theorem C_trace (x : Int32) (I : Nat → Nat → Int32) (J : Nat → Nat → Int64) (h1 : I 3 6 = 0) : pCh_trace x I J ∧ fCh_trace x I J = (14, 0, I) := by
  have s := C_isSpec x I J h1
  unfold pCh_trace fCh_trace
  rw [s.2]
  exact ⟨⟨s.1, fun _ => trivial, fun q => absurd rfl q⟩, if_pos rfl⟩
theorem C_step (x y : Int32) (I : Nat → Nat → Int32) (J : Nat → Nat → Int64) (h1 : I 37 3 = 0) : pCh_step x y I J ∧ fCh_step x y I J = (14, 0) := by
  have k : ∀ z : Int32, pCh_step_21 x y z I J ∧ fCh_step_21 x y z I J = (14, 0) := by
    intro z
    unfold pCh_step_21 fCh_step_21
    rw [h1]
    exact ⟨⟨fun _ => trivial, fun q => absurd rfl q⟩, if_pos rfl⟩
  unfold pCh_step fCh_step pCh_step_20 fCh_step_20
  rw [(k 1).2, (k 0).2]
  exact ⟨⟨fun _ => ⟨fun _ => (k 1).1, fun _ => (k 0).1⟩, fun _ => (k 0).1⟩, by by_cases h : y = 1 <;> by_cases h' : x = I 37 2 <;> simp [h, h']⟩
theorem C_value (x y : Int32) (I : Nat → Nat → Int32) (J : Nat → Nat → Int64) (h1 : I 3 5 = 0) : pCh_value x y I J ∧ fCh_value x y I J = (14, 0) := by
  unfold pCh_value fCh_value
  rw [h1]
  by_cases hx : x < 0
  · rw [if_pos hx]
    exact ⟨⟨fun _ => trivial, fun q => absurd hx q⟩, rfl⟩
  · rw [if_neg hx, if_neg hx]
    exact ⟨⟨fun q => absurd q hx, fun _ => ⟨fun q => absurd q hx, fun _ => trivial⟩⟩, rfl⟩
theorem C_go (x : Int32) (I : Nat → Nat → Int32) (J : Nat → Nat → Int64) (h1 : I 25 1 = 1) (h7 : I 0 7 = 0) : pCh_go x I J ∧ ((x = 0 ∧ fCh_go x I J = (0, 0, pm_u I 0 7 0)) ∨ (¬ x = 0 ∧ fCh_go x I J = (13, 0, I))) := by
  rcases T2 x with ⟨h, h0⟩ | ⟨h, -, -, h', h0⟩ | h0
  · simp [pCh_go, fCh_go, pCh_isState, fCh_isState, pCh_isState_19, fCh_isState_19, h, h0]
  · simp [pCh_go, fCh_go, pCh_isState, fCh_isState, pCh_isState_19, fCh_isState_19, h, h', h0, h1]
  · subst h0
    simp [pCh_go, fCh_go, pCh_isState, fCh_isState, pCh_isState_19, fCh_isState_19, h1, h7]
theorem C_tick (x : Int32) (I : Nat → Nat → Int32) (J : Nat → Nat → Int64) (h1 : I 25 2 = 1) (h7 : I 0 7 = 0) (h8 : I 3 8 = 0) (h26 : I 26 0 = 0) : pCh_tick x I J ∧ ((x = 0 ∧ fCh_tick x I J = (0, 0, pm_u I 0 7 0)) ∨ (¬ x = 0 ∧ fCh_tick x I J = (13, 0, I))) := by
  rcases T2 x with ⟨h, h0⟩ | ⟨h, -, -, h', h0⟩ | h0
  · simp [pCh_tick, fCh_tick, pCh_areInputs, fCh_areInputs, pCh_areInputs_19, fCh_areInputs_19, h, h0]
  · simp [pCh_tick, fCh_tick, pCh_areInputs, fCh_areInputs, pCh_areInputs_19, fCh_areInputs_19, h, h', h0, h1]
  · subst h0
    simp [pCh_tick, fCh_tick, pCh_areInputs, fCh_areInputs, pCh_areInputs_19, fCh_areInputs_19, pSt_caseOf, fSt_caseOf, h1, h7, h8, h26, vp_0]
theorem CM_fault (x : Int32) (I : Nat → Nat → Int32) (J : Nat → Nat → Int64) (h9 : I 13 9 = 0) (h10 : I 13 10 = 0) (h3 : I 40 3 = 0) (h4 : I 40 4 = 0) : pCh_fault x I J ∧ pMo_fault x I ∧ fCh_fault x I J = (fMo_fault x I).1 := by
  refine ⟨⟨fun _ => trivial, fun _ => ⟨fun _ => trivial, fun _ => trivial⟩⟩, ⟨fun _ => trivial, fun _ => ⟨fun _ => trivial, fun _ => trivial⟩⟩, ?_⟩
  unfold fCh_fault fMo_fault
  rw [h9, h10, h3, h4]
  by_cases a : x = 0
  · rw [if_pos a, if_pos a]
  · rw [if_neg a, if_neg a]
    by_cases b : x = 1
    · rw [if_pos b, if_pos b]
    · rw [if_neg b, if_neg b]
theorem CM_count (x : Int32) (I : Nat → Nat → Int32) (J : Nat → Nat → Int64) (h : I 3 6 = I 40 26 ∧ I 3 5 = I 40 16 ∧ I 3 7 = I 40 27 ∧ I 3 8 = I 40 28 ∧ I 3 9 = I 40 11 ∧ I 1 1 = I 40 1 ∧ I 0 7 = I 40 46 ∧ I 37 2 = I 40 51) : pCh_count x I J ∧ pMo_count x I ∧ fCh_count x I J = (fMo_count x I).1 := by
  obtain ⟨a0, a1, a2, a3, a4, a5, a6, a7⟩ := h
  refine ⟨by simp [pCh_count], by simp [pMo_count], ?_⟩
  unfold fCh_count fMo_count
  rw [a0, a1, a2, a3, a4, a5, a6, a7]
  by_cases b0 : x = 0
  · rw [if_pos b0, if_pos b0]
  rw [if_neg b0, if_neg b0]
  by_cases b1 : x = 1
  · rw [if_pos b1, if_pos b1]
  rw [if_neg b1, if_neg b1]
  by_cases b2 : x = 2
  · rw [if_pos b2, if_pos b2]
  rw [if_neg b2, if_neg b2]
  by_cases b3 : x = 3
  · rw [if_pos b3, if_pos b3]
  rw [if_neg b3, if_neg b3]
  by_cases b4 : x = 4
  · rw [if_pos b4, if_pos b4]
  rw [if_neg b4, if_neg b4]
  by_cases b5 : x = 5
  · rw [if_pos b5, if_pos b5]
  rw [if_neg b5, if_neg b5]
  by_cases b6 : x = 6
  · rw [if_pos b6, if_pos b6]
  rw [if_neg b6, if_neg b6]
  by_cases b7 : x = 7
  · rw [if_pos b7, if_pos b7]
  rw [if_neg b7, if_neg b7]
theorem M_reach (I : Nat → Nat → Int32) (B : Nat → Value) (E : List (Nat × Nat)) (h7 : I 40 27 = 0) (h8 : I 40 28 = 0) (h47 : I 40 47 = 0) (h64 : I 64 0 = 0) : pMo_reachable 3 3 3 3 3 I B E ∧ (fMo_reachable 3 3 3 3 3 I B E).1 = 1 := by
  have c1 : ¬ (1 : Int32) ≤ 0 := by decide
  have c2 : (1 : Int32) ≤ 0 + Int32.ofInt 1 := by decide
  have c3 : ¬ (1 : Int32) = 0 := by decide
  have e0 : (0 : Int32).toNatClampNeg = 0 := by decide
  have e1 : ((1 : Int32) <<< ((0 : Int32) &&& 31)) = 1 := by decide
  have en : vp_nar .boolean (1 : Int32) = 1 := by decide
  have ha : ∀ I : Nat → Nat → Int32, I 40 27 = 0 → fMo_all I = 1 := by
    intro I h
    unfold fMo_all
    rw [h]; exact e1
  have hb : ∀ I : Nat → Nat → Int32, I 40 28 = 0 → fMo_allInputs I = 1 := by
    intro I h
    unfold fMo_allInputs
    rw [h]; exact e1
  have v0 : vp_in 0 256 := vp_0 (by decide) (by decide)
  have v8 : vp_in 0 8 := vp_0 (by decide) (by decide)
  have x1 : (pm_u (pm_u I 40 2 0) 321 0 1) 321 0 = 1 := pm_u_s _ _ _ _
  have x27 : (pm_u (pm_u I 40 2 0) 321 0 1) 40 27 = 0 := by rw [pm_u_n _ _ _ (by decide), pm_u_j _ _ _ (by decide)]; exact h7
  have x28 : (pm_u (pm_u I 40 2 0) 321 0 1) 40 28 = 0 := by rw [pm_u_n _ _ _ (by decide), pm_u_j _ _ _ (by decide)]; exact h8
  have x64 : (pm_u (pm_u I 40 2 0) 321 0 1) 64 0 = 0 := by rw [pm_u_n _ _ _ (by decide), pm_u_n _ _ _ (by decide)]; exact h64
  have y27 : (pm_u I 40 2 0) 40 27 = 0 := by rw [pm_u_j _ _ _ (by decide)]; exact h7
  have y47 : (pm_u I 40 2 0) 40 47 = 0 := by rw [pm_u_j _ _ _ (by decide)]; exact h47
  have hX : ∀ X : Nat → Nat → Int32, X 321 0 = 1 → X 40 27 = 0 → X 40 28 = 0 → X 64 0 = 0 → pMo_reachable_42 3 3 3 3 1 X B E ∧ (fMo_reachable_42 3 3 3 3 1 X B E).1 = 1 := by
    intro X x1 x27 x28 x64
    have A := ha X x27
    have B9 := hb X x28
    have d1 : ¬ X 321 0 = 0 := by rw [x1]; exact c3
    have r1 : ∀ n : Nat, pMo_reachable_131 (n + 1) 0 (0 + Int32.ofInt 1) (0 + Int32.ofInt 1) X B E ∧ fMo_reachable_131 (n + 1) 0 (0 + Int32.ofInt 1) (0 + Int32.ofInt 1) X B E = (0 + Int32.ofInt 1, X) := by
      intro n
      rw [pMo_reachable_131.eq_2, fMo_reachable_131.eq_2, A]
      exact ⟨⟨trivial, fun _ => trivial, fun q => absurd c2 q⟩, if_pos c2⟩
    have r2 : ∀ n : Nat, pMo_reachable_131 (n + 1 + 1) 0 0 0 X B E ∧ fMo_reachable_131 (n + 1 + 1) 0 0 0 X B E = (0 + Int32.ofInt 1, X) := by
      intro n
      rw [pMo_reachable_131.eq_2, fMo_reachable_131.eq_2, A, e0]
      exact ⟨⟨trivial, fun q => absurd q c1, fun _ => ⟨v0, fun q => absurd q d1, fun _ => (r1 n).1⟩⟩, (if_neg c1).trans ((if_neg d1).trans (r1 n).2)⟩
    have r3 : ∀ n : Nat, pMo_reachable_42 3 3 3 (n + 1) 0 X B E ∧ fMo_reachable_42 3 3 3 (n + 1) 0 X B E = (0 + Int32.ofInt 1, X) := by
      intro n
      rw [pMo_reachable_42.eq_2, fMo_reachable_42.eq_2]
      exact ⟨⟨fun _ => (r2 1).1, fun q => absurd rfl q⟩, (if_pos rfl).trans (r2 1).2⟩
    have r4 : ∀ n k : Nat, pMo_reachable_50 (pMo_reachable_42 3 3 3 (n + 1)) 3 (k + 1) 0 (0 + Int32.ofInt 1) X B E ∧ fMo_reachable_50 (fMo_reachable_42 3 3 3 (n + 1)) 3 (k + 1) 0 (0 + Int32.ofInt 1) X B E = (0 + Int32.ofInt 1, X) := by
      intro n k
      rw [pMo_reachable_50.eq_2, fMo_reachable_50.eq_2, A]
      exact ⟨⟨trivial, fun _ => (r3 n).1, fun q => absurd c2 q⟩, (if_pos c2).trans (r3 n).2⟩
    have r5 : ∀ n k j : Nat, pMo_reachable_60 (pMo_reachable_42 3 3 3 (n + 1)) (pMo_reachable_50 (pMo_reachable_42 3 3 3 (n + 1)) 3 (k + 1)) (j + 1) 0 0 (0 + Int32.ofInt 1) X B E ∧ fMo_reachable_60 (fMo_reachable_42 3 3 3 (n + 1)) (fMo_reachable_50 (fMo_reachable_42 3 3 3 (n + 1)) 3 (k + 1)) (j + 1) 0 0 (0 + Int32.ofInt 1) X B E = (0 + Int32.ofInt 1, X) := by
      intro n k j
      rw [pMo_reachable_60.eq_2, fMo_reachable_60.eq_2, B9]
      exact ⟨⟨trivial, fun _ => (r4 n k).1, fun q => absurd c2 q⟩, (if_pos c2).trans (r4 n k).2⟩
    have r6 : ∀ n k j : Nat, pMo_reachable_60 (pMo_reachable_42 3 3 3 (n + 1)) (pMo_reachable_50 (pMo_reachable_42 3 3 3 (n + 1)) 3 (k + 1)) (j + 1 + 1) 0 0 0 X B E ∧ fMo_reachable_60 (fMo_reachable_42 3 3 3 (n + 1)) (fMo_reachable_50 (fMo_reachable_42 3 3 3 (n + 1)) 3 (k + 1)) (j + 1 + 1) 0 0 0 X B E = (0 + Int32.ofInt 1, X) := by
      intro n k j
      have z64 : X (64 + 0) 0 = 0 := x64
      rw [pMo_reachable_60.eq_2, fMo_reachable_60.eq_2, B9, e0, z64, e0]
      exact ⟨⟨trivial, fun q => absurd q c1, fun _ => ⟨v0, fun q => absurd q d1, fun _ => ⟨v0, v8, v0, fun q => absurd q d1, fun _ => (r5 n k j).1⟩⟩⟩, (if_neg c1).trans ((if_neg d1).trans ((if_neg d1).trans (r5 n k j).2))⟩
    have r7 : ∀ n k : Nat, pMo_reachable_50 (pMo_reachable_42 3 3 3 (n + 1)) 3 (k + 1 + 1) 0 0 X B E ∧ fMo_reachable_50 (fMo_reachable_42 3 3 3 (n + 1)) 3 (k + 1 + 1) 0 0 X B E = (0 + Int32.ofInt 1, X) := by
      intro n k
      rw [pMo_reachable_50.eq_2, fMo_reachable_50.eq_2, A]
      exact ⟨⟨trivial, fun q => absurd q c1, fun _ => (r6 n k 1).1⟩, (if_neg c1).trans (r6 n k 1).2⟩
    have r8 : ∀ n : Nat, pMo_reachable_42 3 3 3 (n + 1 + 1) 1 X B E ∧ fMo_reachable_42 3 3 3 (n + 1 + 1) 1 X B E = (0 + Int32.ofInt 1, X) := by
      intro n
      rw [pMo_reachable_42.eq_2, fMo_reachable_42.eq_2]
      exact ⟨⟨fun q => absurd q c3, fun _ => (r7 n 1).1⟩, (if_neg c3).trans (r7 n 1).2⟩
    refine ⟨(r8 1).1, ?_⟩
    have q := (r8 1).2
    rw [q]
    show (0 : Int32) + Int32.ofInt 1 = 1
    decide
  have q := hX _ x1 x27 x28 x64
  have s1 : ∀ n : Nat, pMo_reachable_7 3 3 3 3 (n + 1) (0 + Int32.ofInt 1) (pm_u (pm_u I 40 2 0) 321 0 1) B E ∧ (fMo_reachable_7 3 3 3 3 (n + 1) (0 + Int32.ofInt 1) (pm_u (pm_u I 40 2 0) 321 0 1) B E).1 = 1 := by
    intro n
    rw [pMo_reachable_7.eq_2, fMo_reachable_7.eq_2, ha _ x27, if_pos c2]
    exact ⟨⟨trivial, fun _ => q.1, fun r => absurd c2 r⟩, q.2⟩
  have s2 : ∀ n : Nat, pMo_reachable_7 3 3 3 3 (n + 1 + 1) 0 (pm_u I 40 2 0) B E ∧ (fMo_reachable_7 3 3 3 3 (n + 1 + 1) 0 (pm_u I 40 2 0) B E).1 = 1 := by
    intro n
    rw [pMo_reachable_7.eq_2, fMo_reachable_7.eq_2, ha _ y27, if_neg c1, y47, if_pos rfl]
    unfold pMo_reachable_33 fMo_reachable_33
    rw [e0, en]
    exact ⟨⟨trivial, fun r => absurd r c1, fun _ => ⟨fun _ => ⟨v0, (s1 n).1⟩, fun r => absurd rfl r⟩⟩, (s1 n).2⟩
  exact s2 1
