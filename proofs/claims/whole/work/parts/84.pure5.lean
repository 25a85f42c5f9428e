/-! PURE 5: the class's answers without a circuit -/
theorem C_end (x : Int32) (I : Nat → Nat → Int32) (J : Nat → Nat → Int64) (h1 : I 1 1 = 0) : pCh_end x I J ∧ ((x = 0 ∧ fCh_end x I J = (0, 0, pm_u I 1 1 0)) ∨ (¬ x = 0 ∧ fCh_end x I J = (13, 0, I))) := by
  rcases T2 x with ⟨h, h0⟩ | ⟨h, h', -, -, h0⟩ | h0
  · simp [pCh_end, fCh_end, pCh_end_15, fCh_end_15, h, h0]
  · simp [pCh_end, fCh_end, pCh_end_15, fCh_end_15, h, h', h0, h1]
  · subst h0
    simp [pCh_end, fCh_end, pCh_end_15, fCh_end_15, h1]
theorem C_isSpec (x : Int32) (I : Nat → Nat → Int32) (J : Nat → Nat → Int64) (h1 : I 3 6 = 0) : pCh_isSpec x I J ∧ fCh_isSpec x I J = 0 := by
  rcases T2 x with ⟨h, h0⟩ | ⟨h, h', -, h2, h0⟩ | h0
  · simp [pCh_isSpec, fCh_isSpec, pCh_isSpec_19, fCh_isSpec_19, h]
  · have h3 : (0 : Int32) ≤ x := Int32.not_lt.mp h
    simp [pCh_isSpec, fCh_isSpec, pCh_isSpec_19, fCh_isSpec_19, h, h1, h3]
  · subst h0
    simp [pCh_isSpec, fCh_isSpec, pCh_isSpec_19, fCh_isSpec_19, h1]
theorem C_holds (x : Int32) (I : Nat → Nat → Int32) (J : Nat → Nat → Int64) (h1 : I 3 6 = 0) : pCh_holds x I J ∧ fCh_holds x I J = (14, 0) := by
  have s := C_isSpec x I J h1
  unfold pCh_holds fCh_holds
  rw [s.2]
  exact ⟨⟨s.1, fun _ => trivial, fun q => absurd rfl q⟩, if_pos rfl⟩
theorem C_states (x : Int32) (I : Nat → Nat → Int32) (J : Nat → Nat → Int64) (h1 : I 3 6 = 0) : pCh_states x I J ∧ fCh_states x I J = (14, 0) := by
  have s := C_isSpec x I J h1
  unfold pCh_states fCh_states
  rw [s.2]
  exact ⟨⟨s.1, fun _ => trivial, fun q => absurd rfl q⟩, if_pos rfl⟩
theorem C_at (x y : Int32) (I : Nat → Nat → Int32) (J : Nat → Nat → Int64) (h1 : I 3 6 = 0) : pCh_at x y I J ∧ fCh_at x y I J = (14, 0) := by
  have s := C_isSpec x I J h1
  unfold pCh_at fCh_at
  rw [s.2]
  exact ⟨⟨s.1, fun _ => trivial, fun q => absurd rfl q⟩, if_pos rfl⟩
theorem C_trace (x : Int32) (I : Nat → Nat → Int32) (J : Nat → Nat → Int64) (h1 : I 3 6 = 0) : pCh_trace x I J ∧ fCh_trace x I J = (14, 0, I) := by
  have s := C_isSpec x I J h1
  unfold pCh_trace fCh_trace
  rw [s.2]
  exact ⟨⟨s.1, fun _ => trivial, fun q => absurd rfl q⟩, if_pos rfl⟩
theorem C_step (x y : Int32) (I : Nat → Nat → Int32) (J : Nat → Nat → Int64) (h1 : I 37 3 = 0) : pCh_step x y I J ∧ fCh_step x y I J = (14, 0) := by
  have k : ∀ z : Int32, pCh_step_21 x y z I J ∧ fCh_step_21 x y z I J = (14, 0) := by
    intro z
    unfold pCh_step_21 fCh_step_21
    rw [h1]
    exact ⟨⟨fun _ => trivial, fun q => absurd rfl q⟩, if_pos rfl⟩
  unfold pCh_step fCh_step pCh_step_20 fCh_step_20
  rw [(k 1).2, (k 0).2]
  exact ⟨⟨fun _ => ⟨fun _ => (k 1).1, fun _ => (k 0).1⟩, fun _ => (k 0).1⟩, by by_cases h : y = 1 <;> by_cases h' : x = I 37 2 <;> simp [h, h']⟩
theorem C_value (x y : Int32) (I : Nat → Nat → Int32) (J : Nat → Nat → Int64) (h1 : I 3 5 = 0) : pCh_value x y I J ∧ fCh_value x y I J = (14, 0) := by
  unfold pCh_value fCh_value
  rw [h1]
  by_cases hx : x < 0
  · rw [if_pos hx]
    exact ⟨⟨fun _ => trivial, fun q => absurd hx q⟩, rfl⟩
  · rw [if_neg hx, if_neg hx]
    exact ⟨⟨fun q => absurd q hx, fun _ => ⟨fun q => absurd q hx, fun _ => trivial⟩⟩, rfl⟩
theorem C_go (x : Int32) (I : Nat → Nat → Int32) (J : Nat → Nat → Int64) (h1 : I 25 1 = 1) (h7 : I 0 7 = 0) : pCh_go x I J ∧ ((x = 0 ∧ fCh_go x I J = (0, 0, pm_u I 0 7 0)) ∨ (¬ x = 0 ∧ fCh_go x I J = (13, 0, I))) := by
  rcases T2 x with ⟨h, h0⟩ | ⟨h, -, -, h', h0⟩ | h0
  · simp [pCh_go, fCh_go, pCh_isState, fCh_isState, pCh_isState_19, fCh_isState_19, h, h0]
  · simp [pCh_go, fCh_go, pCh_isState, fCh_isState, pCh_isState_19, fCh_isState_19, h, h', h0, h1]
  · subst h0
    simp [pCh_go, fCh_go, pCh_isState, fCh_isState, pCh_isState_19, fCh_isState_19, h1, h7]
theorem C_tick (x : Int32) (I : Nat → Nat → Int32) (J : Nat → Nat → Int64) (h1 : I 25 2 = 1) (h7 : I 0 7 = 0) (h8 : I 3 8 = 0) (h26 : I 26 0 = 0) : pCh_tick x I J ∧ ((x = 0 ∧ fCh_tick x I J = (0, 0, pm_u I 0 7 0)) ∨ (¬ x = 0 ∧ fCh_tick x I J = (13, 0, I))) := by
  rcases T2 x with ⟨h, h0⟩ | ⟨h, -, -, h', h0⟩ | h0
  · simp [pCh_tick, fCh_tick, pCh_areInputs, fCh_areInputs, pCh_areInputs_19, fCh_areInputs_19, h, h0]
  · simp [pCh_tick, fCh_tick, pCh_areInputs, fCh_areInputs, pCh_areInputs_19, fCh_areInputs_19, h, h', h0, h1]
  · subst h0
    simp [pCh_tick, fCh_tick, pCh_areInputs, fCh_areInputs, pCh_areInputs_19, fCh_areInputs_19, pSt_caseOf, fSt_caseOf, h1, h7, h8, h26, vp_0]
theorem CM_fault (x : Int32) (I : Nat → Nat → Int32) (J : Nat → Nat → Int64) (h9 : I 13 9 = 0) (h10 : I 13 10 = 0) (h3 : I 40 3 = 0) (h4 : I 40 4 = 0) : pCh_fault x I J ∧ pMo_fault x I ∧ fCh_fault x I J = (fMo_fault x I).1 := by
  refine ⟨⟨fun _ => trivial, fun _ => ⟨fun _ => trivial, fun _ => trivial⟩⟩, ⟨fun _ => trivial, fun _ => ⟨fun _ => trivial, fun _ => trivial⟩⟩, ?_⟩
  unfold fCh_fault fMo_fault
  rw [h9, h10, h3, h4]
  by_cases a : x = 0
  · rw [if_pos a, if_pos a]
  · rw [if_neg a, if_neg a]
    by_cases b : x = 1
    · rw [if_pos b, if_pos b]
    · rw [if_neg b, if_neg b]
theorem CM_count (x : Int32) (I : Nat → Nat → Int32) (J : Nat → Nat → Int64) (h : I 3 6 = I 40 26 ∧ I 3 5 = I 40 16 ∧ I 3 7 = I 40 27 ∧ I 3 8 = I 40 28 ∧ I 3 9 = I 40 11 ∧ I 1 1 = I 40 1 ∧ I 0 7 = I 40 46 ∧ I 37 2 = I 40 51) : pCh_count x I J ∧ pMo_count x I ∧ fCh_count x I J = (fMo_count x I).1 := by
  obtain ⟨a0, a1, a2, a3, a4, a5, a6, a7⟩ := h
  refine ⟨by simp [pCh_count], by simp [pMo_count], ?_⟩
  unfold fCh_count fMo_count
  rw [a0, a1, a2, a3, a4, a5, a6, a7]
  by_cases b0 : x = 0
  · rw [if_pos b0, if_pos b0]
  rw [if_neg b0, if_neg b0]
  by_cases b1 : x = 1
  · rw [if_pos b1, if_pos b1]
  rw [if_neg b1, if_neg b1]
  by_cases b2 : x = 2
  · rw [if_pos b2, if_pos b2]
  rw [if_neg b2, if_neg b2]
  by_cases b3 : x = 3
  · rw [if_pos b3, if_pos b3]
  rw [if_neg b3, if_neg b3]
  by_cases b4 : x = 4
  · rw [if_pos b4, if_pos b4]
  rw [if_neg b4, if_neg b4]
  by_cases b5 : x = 5
  · rw [if_pos b5, if_pos b5]
  rw [if_neg b5, if_neg b5]
  by_cases b6 : x = 6
  · rw [if_pos b6, if_pos b6]
  rw [if_neg b6, if_neg b6]
  by_cases b7 : x = 7
  · rw [if_pos b7, if_pos b7]
  rw [if_neg b7, if_neg b7]
theorem M_reach (I : Nat → Nat → Int32) (B : Nat → Value) (E : List (Nat × Nat)) (h7 : I 40 27 = 0) (h8 : I 40 28 = 0) (h47 : I 40 47 = 0) (h64 : I 64 0 = 0) : pMo_reachable 3 3 3 3 3 I B E ∧ (fMo_reachable 3 3 3 3 3 I B E).1 = 1 := by
  constructor
  · simp [pMo_reachable, pMo_reachable_7, pMo_reachable_33, pMo_reachable_42, pMo_reachable_50, pMo_reachable_60, pMo_reachable_112, pMo_reachable_131, pMo_reachable_151, pMo_all, fMo_all, pMo_allInputs, fMo_allInputs, h7, h8, h47, h64, pm_u_s, pm_u_n, pm_u_j, vp_0, vp_nar]
  · simp [fMo_reachable, fMo_reachable_7, fMo_reachable_33, fMo_reachable_42, fMo_reachable_50, fMo_reachable_60, fMo_reachable_112, fMo_reachable_131, fMo_reachable_151, fMo_all, fMo_allInputs, h7, h8, h47, h64, pm_u_s, pm_u_n, pm_u_j, vp_nar]
