/-! PURE 3: the model on a circuit without anything; the class's read of an empty TAPE -/
theorem T2 (x : Int32) : (x < 0 ∧ ¬ x = 0) ∨ (¬ x < 0 ∧ ¬ x ≤ 0 ∧ ¬ x < 1 ∧ 1 ≤ x ∧ ¬ x = 0) ∨ x = 0 := by
  rcases T1 x with h | h | h
  · exact Or.inl ⟨h, fun q => absurd (q ▸ h : (0 : Int32) < 0) (by decide)⟩
  · exact Or.inr (Or.inl h)
  · exact Or.inr (Or.inr h)
theorem refuse0 (k : Int32) (I : Nat → Nat → Int32) : pMo_refuse k 0 I ∧ fMo_refuse k 0 I = (0, I) := by
  unfold pMo_refuse fMo_refuse pMo_refuse_9 fMo_refuse_9
  exact ⟨⟨fun _ => rfl, fun q => absurd rfl q⟩, if_pos rfl⟩
theorem refuse1 (k : Int32) (I : Nat → Nat → Int32) : pMo_refuse k 1 I ∧ fMo_refuse k 1 I = (1, pm_u I 40 2 k) := by
  unfold pMo_refuse fMo_refuse pMo_refuse_9 fMo_refuse_9
  exact ⟨⟨fun _ => rfl, fun _ => rfl⟩, if_neg (by decide)⟩
theorem M_end (x : Int32) (I : Nat → Nat → Int32) (h1 : I 40 1 = 0) : pMo_end x I ∧ (x = 0 → (fMo_end x I).1 = 0 ∧ (fMo_end x I).2 40 2 = 0) ∧ (¬ x = 0 → (fMo_end x I).2 40 2 = 1) := by
  have r0 := refuse0 1 (pm_u I 40 2 0)
  have r1 := refuse1 1 (pm_u I 40 2 0)
  rcases T2 x with ⟨h, h0⟩ | ⟨h, h', -, -, h0⟩ | h0
  · simp [pMo_end, fMo_end, pMo_end_19, fMo_end_19, pMo_end_24, fMo_end_24, pMo_end_27, fMo_end_27, h, h0, r1, pm_u_s]
  · simp [pMo_end, fMo_end, pMo_end_19, fMo_end_19, pMo_end_24, fMo_end_24, pMo_end_27, fMo_end_27, h, h', h0, h1, r1, pm_u_s]
  · subst h0
    simp [pMo_end, fMo_end, pMo_end_19, fMo_end_19, pMo_end_24, fMo_end_24, pMo_end_27, fMo_end_27, h1, r0, pm_u_s, pm_u_j]
theorem M_noSpec (x : Int32) (I : Nat → Nat → Int32) (h1 : I 40 26 = 0) : pMo_noSpec x I ∧ fMo_noSpec x I = (1, pm_u (pm_u I 40 2 0) 40 2 1) := by
  have r1 := refuse1 1 (pm_u I 40 2 0)
  have hn : narrow .boolean (.int (1 : Int32)) = .int 1 := rfl
  unfold pMo_noSpec fMo_noSpec pMo_noSpec_19 fMo_noSpec_19 pMo_noSpec_24 fMo_noSpec_24
  rw [h1, r1.2]
  by_cases hx : x < 0
  · rw [if_pos hx]
    exact ⟨⟨fun _ => ⟨r1.1, hn⟩, fun q => absurd hx q⟩, rfl⟩
  · rw [if_neg hx, if_neg hx]
    exact ⟨⟨fun q => absurd q hx, fun _ => ⟨fun q => absurd q hx, fun _ => ⟨r1.1, hn⟩⟩⟩, rfl⟩
theorem M_holds (x : Int32) (I : Nat → Nat → Int32) (B : Nat → Value) (E : List (Nat × Nat)) (h1 : I 40 26 = 0) : pMo_holds x I B E ∧ (fMo_holds x I B E).2 40 2 = 1 := by
  have s := M_noSpec x I h1
  unfold pMo_holds fMo_holds pMo_holds_5 fMo_holds_5
  rw [s.2]
  have c : ¬ (1 : Int32) = 0 := by decide
  refine ⟨⟨s.1, fun q => absurd q c, fun _ => trivial⟩, ?_⟩
  rw [if_neg c]
  exact pm_u_s (pm_u I 40 2 0) 40 2 1
theorem M_states (n : Nat) (x : Int32) (I : Nat → Nat → Int32) (B : Nat → Value) (E : List (Nat × Nat)) (h1 : I 40 26 = 0) : pMo_states n x I B E ∧ (fMo_states n x I B E).2 40 2 = 1 := by
  have s := M_noSpec x I h1
  unfold pMo_states fMo_states pMo_states_5 fMo_states_5
  rw [s.2]
  have c : ¬ (1 : Int32) = 0 := by decide
  refine ⟨⟨s.1, fun q => absurd q c, fun _ => trivial⟩, ?_⟩
  rw [if_neg c]
  exact pm_u_s (pm_u I 40 2 0) 40 2 1
theorem M_at (x y : Int32) (I : Nat → Nat → Int32) (B : Nat → Value) (E : List (Nat × Nat)) (h1 : I 40 26 = 0) : pMo_at x y I B E ∧ (fMo_at x y I B E).2 40 2 = 1 := by
  have s := M_noSpec x I h1
  unfold pMo_at fMo_at pMo_at_5 fMo_at_5 pMo_at_33 fMo_at_33
  rw [s.2]
  have c : ¬ (1 : Int32) = 0 := by decide
  refine ⟨⟨s.1, fun q => absurd q c, fun _ => trivial⟩, ?_⟩
  rw [if_neg c]
  exact pm_u_s (pm_u I 40 2 0) 40 2 1
theorem M_trace (a b c d e f : Nat) (x : Int32) (I : Nat → Nat → Int32) (B : Nat → Value) (E : List (Nat × Nat)) (h1 : I 40 26 = 0) : pMo_trace a b c d e f x I B E ∧ (fMo_trace a b c d e f x I B E).2 40 2 = 1 := by
  have s := M_noSpec x I h1
  unfold pMo_trace fMo_trace pMo_trace_5 fMo_trace_5
  rw [s.2]
  have c : ¬ (1 : Int32) = 0 := by decide
  refine ⟨⟨s.1, fun q => absurd q c, fun _ => trivial⟩, ?_⟩
  rw [if_neg c]
  exact pm_u_s (pm_u I 40 2 0) 40 2 1
theorem M_step (x y : Int32) (I : Nat → Nat → Int32) (B : Nat → Value) (E : List (Nat × Nat)) (h1 : I 40 52 = 0) : pMo_step x y I B E ∧ (fMo_step x y I B E).2 40 2 = 1 := by
  have r1 := refuse1 1 (pm_u I 40 2 0)
  have c : ¬ (1 : Int32) = 0 := by decide
  unfold pMo_step fMo_step pMo_step_39 fMo_step_39 pMo_step_44 fMo_step_44 pMo_step_47 fMo_step_47 pMo_step_72 fMo_step_72
  rw [h1, r1.2, if_pos rfl, if_neg c]
  exact ⟨⟨fun _ => ⟨r1.1, fun q => absurd q c, fun _ => trivial⟩, fun q => absurd rfl q⟩, pm_u_s (pm_u I 40 2 0) 40 2 1⟩
theorem M_value2 (x y : Int32) (I : Nat → Nat → Int32) (B : Nat → Value) (E : List (Nat × Nat)) (h1 : I 40 16 = 0) : pMo_value2 x y I B E ∧ (fMo_value2 x y I B E).2 40 2 = 1 := by
  have r1 := refuse1 1 (pm_u I 40 2 0)
  have h1' : (pm_u I 40 2 0) 40 16 = 0 := by rw [pm_u_j _ _ _ (by decide)]; exact h1
  by_cases hx : x < 0
  · simp [pMo_value2, fMo_value2, pMo_value2_19, fMo_value2_19, pMo_value2_24, fMo_value2_24, pMo_value2_27, fMo_value2_27, pMo_value2_55, fMo_value2_55, hx, h1, h1', r1, pm_u_s]
  · simp [pMo_value2, fMo_value2, pMo_value2_19, fMo_value2_19, pMo_value2_24, fMo_value2_24, pMo_value2_27, fMo_value2_27, pMo_value2_55, fMo_value2_55, hx, h1, h1', r1, pm_u_s]
theorem M_go (x : Int32) (I : Nat → Nat → Int32) (h1 : I 40 27 = 0) (h46 : I 40 46 = 0) : pMo_go x I ∧ (x = 0 → (fMo_go x I).1 = 0 ∧ (fMo_go x I).2 40 2 = 0) ∧ (¬ x = 0 → (fMo_go x I).2 40 2 = 1) := by
  have r0 := refuse0 1 (pm_u I 40 2 0)
  have r1 := refuse1 1 (pm_u I 40 2 0)
  have ha : fMo_all (pm_u I 40 2 0) = 1 := by
    unfold fMo_all
    rw [pm_u_j _ _ _ (by decide), h1]
    decide
  rcases T2 x with ⟨h, h0⟩ | ⟨h, -, h', -, h0⟩ | h0
  · simp [pMo_go, fMo_go, pMo_go_19, fMo_go_19, pMo_go_24, fMo_go_24, pMo_go_27, fMo_go_27, h, h0, ha, r1, pm_u_s]
  · simp [pMo_go, fMo_go, pMo_go_19, fMo_go_19, pMo_go_24, fMo_go_24, pMo_go_27, fMo_go_27, pMo_all, h, h', h0, ha, r1, pm_u_s]
  · subst h0
    simp [pMo_go, fMo_go, pMo_go_19, fMo_go_19, pMo_go_24, fMo_go_24, pMo_go_27, fMo_go_27, pMo_all, ha, h46, r0, pm_u_s, pm_u_j]
theorem M_tick (x : Int32) (I : Nat → Nat → Int32) (B : Nat → Value) (E : List (Nat × Nat)) (h1 : I 40 28 = 0) (h46 : I 40 46 = 0) (h64 : I 64 0 = 0) : pMo_tick x I B E ∧ (x = 0 → (fMo_tick x I B E).1 = 0 ∧ (fMo_tick x I B E).2 40 2 = 0) ∧ (¬ x = 0 → (fMo_tick x I B E).2 40 2 = 1) := by
  have r0 := refuse0 1 (pm_u I 40 2 0)
  have r1 := refuse1 1 (pm_u I 40 2 0)
  have ha : fMo_allInputs (pm_u I 40 2 0) = 1 := by
    unfold fMo_allInputs
    rw [pm_u_j _ _ _ (by decide), h1]
    decide
  rcases T2 x with ⟨h, h0⟩ | ⟨h, -, h', -, h0⟩ | h0
  · simp [pMo_tick, fMo_tick, pMo_tick_19, fMo_tick_19, pMo_tick_24, fMo_tick_24, pMo_tick_27, fMo_tick_27, h, h0, ha, r1, pm_u_s]
  · simp [pMo_tick, fMo_tick, pMo_tick_19, fMo_tick_19, pMo_tick_24, fMo_tick_24, pMo_tick_27, fMo_tick_27, pMo_allInputs, h, h', h0, ha, r1, pm_u_s]
  · subst h0
    simp [pMo_tick, fMo_tick, pMo_tick_19, fMo_tick_19, pMo_tick_24, fMo_tick_24, pMo_tick_27, fMo_tick_27, pMo_allInputs, ha, h46, h64, r0, pm_u_s, pm_u_j, pm_u_n, vp_0]
theorem M_set (I : Nat → Nat → Int32) (h3 : I 40 23 = 0) (h4 : I 40 24 = 0) (h5 : I 40 25 = 0) : pMo_set 61 61 61 0 0 I ∧ fMo_set 61 61 61 0 0 I = I := by
  have c : (0 : Int32) - 1 < 0 := by decide
  have c0 : (0 : Int32) ≤ 0 := by decide
  have k3 : ∀ n : Nat, pMo_set_105 (n + 1) 0 0 0 0 I ∧ fMo_set_105 (n + 1) 0 0 0 0 I = I := by
    intro n
    rw [pMo_set_105.eq_2, fMo_set_105.eq_2]
    rw [h5]
    exact ⟨⟨fun _ => trivial, fun q => absurd c0 q⟩, if_pos c0⟩
  have k2 : ∀ n : Nat, pMo_set_61 61 (n + 1) 0 0 0 (0 - 1) I ∧ fMo_set_61 61 (n + 1) 0 0 0 (0 - 1) I = I := by
    intro n
    rw [pMo_set_61.eq_2, fMo_set_61.eq_2]
    exact ⟨⟨fun _ => (k3 60).1, fun q => absurd c q⟩, (if_pos c).trans (k3 60).2⟩
  have k1 : ∀ n : Nat, pMo_set_10 61 61 (n + 1) 0 0 0 (0 - 1) I ∧ fMo_set_10 61 61 (n + 1) 0 0 0 (0 - 1) I = I := by
    intro n
    rw [pMo_set_10.eq_2, fMo_set_10.eq_2]
    rw [h4]
    exact ⟨⟨fun _ => (k2 60).1, fun q => absurd c q⟩, (if_pos c).trans (k2 60).2⟩
  unfold pMo_set fMo_set
  rw [h3]
  exact k1 60
theorem M_workOut (I : Nat → Nat → Int32) (B : Nat → Value) (E : List (Nat × Nat)) (h3 : I 40 23 = 0) (h4 : I 40 24 = 0) (h5 : I 40 25 = 0) (h7 : I 40 27 = 0) (h8 : I 40 28 = 0) (h38 : I 40 38 = 0) : pMo_workOut 4201 4201 4201 4201 4201 I B E ∧ fMo_workOut 4201 4201 4201 4201 4201 I B E = (pm_u I 64 0 0, B, E) := by
  have c0 : (0 : Int32) ≤ 0 := by decide
  have c1 : ¬ (1 : Int32) ≤ 0 := by decide
  have c2 : (1 : Int32) ≤ 0 + Int32.ofInt 1 := by decide
  have e1 : ((1 : Int32) <<< ((0 : Int32) &&& 31)) = 1 := by decide
  have e0 : (0 : Int32).toNatClampNeg = 0 := by decide
  have ha : ∀ I : Nat → Nat → Int32, I 40 27 = 0 → fMo_all I = 1 := by
    intro I h
    unfold fMo_all
    rw [h]; exact e1
  have hb : ∀ I : Nat → Nat → Int32, I 40 28 = 0 → fMo_allInputs I = 1 := by
    intro I h
    unfold fMo_allInputs
    rw [h]; exact e1
  have g7 : (pm_u I 64 0 0) 40 27 = 0 := by rw [pm_u_n _ _ _ (by decide)]; exact h7
  have g8 : (pm_u I 64 0 0) 40 28 = 0 := by rw [pm_u_n _ _ _ (by decide)]; exact h8
  have g38 : (pm_u I 64 0 0) 40 38 = 0 := by rw [pm_u_n _ _ _ (by decide)]; exact h38
  have s := M_set I h3 h4 h5
  have k5 : ∀ n : Nat, pMo_workOut_123 4201 (n + 1) 0 (pm_u I 64 0 0) B E ∧ fMo_workOut_123 4201 (n + 1) 0 (pm_u I 64 0 0) B E = (pm_u I 64 0 0, B, E) := by
    intro n
    rw [pMo_workOut_123.eq_2, fMo_workOut_123.eq_2]
    rw [g38]
    exact ⟨⟨fun _ => trivial, fun q => absurd c0 q⟩, if_pos c0⟩
  have K2 : ∀ n m l : Nat, pMo_workOut_2 n m 4201 4201 (l + 1) (0 + Int32.ofInt 1) (pm_u I 64 0 0) B E ∧ fMo_workOut_2 n m 4201 4201 (l + 1) (0 + Int32.ofInt 1) (pm_u I 64 0 0) B E = (pm_u I 64 0 0, B, E) := by
    intro n m l
    rw [pMo_workOut_2.eq_2, fMo_workOut_2.eq_2, ha _ g7]
    exact ⟨⟨trivial, fun _ => (k5 4200).1, fun q => absurd c2 q⟩, (if_pos c2).trans (k5 4200).2⟩
  have K12 : ∀ n m m' l : Nat, pMo_workOut_12 (pMo_workOut_2 n m 4201 4201 (l + 1)) n (m' + 1) 0 (0 + Int32.ofInt 1) (pm_u I 64 0 0) B E ∧ fMo_workOut_12 (fMo_workOut_2 n m 4201 4201 (l + 1)) n (m' + 1) 0 (0 + Int32.ofInt 1) (pm_u I 64 0 0) B E = (pm_u I 64 0 0, B, E) := by
    intro n m m' l
    rw [pMo_workOut_12.eq_2, fMo_workOut_12.eq_2, hb _ g8]
    exact ⟨⟨trivial, fun _ => (K2 n m l).1, fun q => absurd c2 q⟩, (if_pos c2).trans (K2 n m l).2⟩
  have K31 : ∀ n m m' l : Nat, pMo_workOut_31 (pMo_workOut_2 (n + 1) m 4201 4201 (l + 1)) (pMo_workOut_12 (pMo_workOut_2 (n + 1) m 4201 4201 (l + 1)) (n + 1) (m' + 1)) (n + 1) 0 0 0 0 I B E ∧ fMo_workOut_31 (fMo_workOut_2 (n + 1) m 4201 4201 (l + 1)) (fMo_workOut_12 (fMo_workOut_2 (n + 1) m 4201 4201 (l + 1)) (n + 1) (m' + 1)) (n + 1) 0 0 0 0 I B E = (pm_u I 64 0 0, B, E) := by
    intro n m m' l
    rw [pMo_workOut_31.eq_2, fMo_workOut_31.eq_2, h3, e0]
    exact ⟨⟨fun _ => ⟨vp_0 (by decide) (by decide), vp_0 (by decide) (by decide), (K12 (n + 1) m m' l).1⟩, fun q => absurd c0 q⟩, (if_pos c0).trans (K12 (n + 1) m m' l).2⟩
  have k1 : ∀ n m l : Nat, pMo_workOut_2 (n + 1) (m + 2) 4201 4201 (l + 2) 0 I B E ∧ fMo_workOut_2 (n + 1) (m + 2) 4201 4201 (l + 2) 0 I B E = (pm_u I 64 0 0, B, E) := by
    intro n m l
    have K := K31 n (m + 2) m l
    have K0 : pMo_workOut_12 (pMo_workOut_2 (n + 1) (m + 2) 4201 4201 (l + 1)) (n + 1) (m + 2) 0 0 I B E ∧ fMo_workOut_12 (fMo_workOut_2 (n + 1) (m + 2) 4201 4201 (l + 1)) (n + 1) (m + 2) 0 0 I B E = (pm_u I 64 0 0, B, E) := by
      rw [pMo_workOut_12.eq_2, fMo_workOut_12.eq_2, hb I h8, s.2]
      unfold pMo_workOut_26 fMo_workOut_26
      exact ⟨⟨trivial, fun q => absurd q c1, fun _ => ⟨s.1, K.1⟩⟩, (if_neg c1).trans K.2⟩
    rw [pMo_workOut_2.eq_2, fMo_workOut_2.eq_2, ha I h7]
    exact ⟨⟨trivial, fun q => absurd q c1, fun _ => K0.1⟩, (if_neg c1).trans K0.2⟩
  exact k1 4200 4199 4199
theorem M_rdx (I : Nat → Nat → Int32) (h1 : I 40 1 = 0) : pMo_rdx I ∧ (fMo_rdx I).1 = 0 ∧ (∀ j : Nat, j ≠ 6 → j ≠ 7 → j ≠ 8 → j ≠ 10 → (fMo_rdx I).2.2 40 j = iMo_rd0 I 40 j) ∧ ∀ a : Nat, a ≠ 40 → (fMo_rdx I).2.2 a = I a := by
  have c0 : (0 : Int32) ≤ 0 := by decide
  have i0 : ∀ a : Nat, a ≠ 40 → iMo_rd0 I a = I a := by
    intro a ha
    unfold iMo_rd0 fMo_clear
    rw [pm_u_n _ _ _ ha, pm_u_n _ _ _ ha, pm_u_n _ _ _ ha, pm_u_n _ _ _ ha, pm_u_n _ _ _ ha, pm_u_n _ _ _ ha, pm_u_n _ _ _ ha, pm_u_n _ _ _ ha, pm_u_n _ _ _ ha, pm_u_n _ _ _ ha, pm_u_n _ _ _ ha, pm_u_n _ _ _ ha, pm_u_n _ _ _ ha, pm_u_n _ _ _ ha, pm_u_n _ _ _ ha, pm_u_n _ _ _ ha]
  have i1 : iMo_rd0 I 40 1 = 0 := by simp [iMo_rd0, fMo_clear, pm_u_j, h1]
  have i5 : iMo_rd0 I 40 5 = 0 := by simp [iMo_rd0, fMo_clear, pm_u_j, pm_u_s]
  have i10 : iMo_rd0 I 40 10 = 0 := by simp [iMo_rd0, fMo_clear, pm_u_j, pm_u_s]
  unfold fMo_rdx pMo_rdx pMo_rd0
  generalize iMo_rd0 I = X at i0 i1 i5 i10
  have kp : ∀ n : Nat, pMo_parts 65537 (n + 1) X ∧ fMo_parts 65537 (n + 1) X = X := by
    intro n
    rw [pMo_parts.eq_2, fMo_parts.eq_2]
    rw [i1, i5]
    exact ⟨⟨fun _ => trivial, fun q => absurd c0 q⟩, if_pos c0⟩
  have kk : pMo_peek 65537 65537 X ∧ fMo_peek 65537 65537 X = (0, 0, 0, pm_u (pm_u (pm_u (pm_u X 40 10 1) 40 7 0) 40 8 0) 40 6 0) := by
    have k := kp 65536
    unfold pMo_peek fMo_peek pMo_peek_16 fMo_peek_16
    rw [k.2, i10, i5, i1]
    exact ⟨⟨fun _ => ⟨k.1, fun _ => trivial, fun q => absurd rfl q⟩, fun q => absurd rfl q⟩, (if_pos rfl).trans (if_pos rfl)⟩
  have kl : ∀ n : Nat, pMo_lines (n + 1) X ∧ fMo_lines (n + 1) X = (0, 0, pm_u (pm_u (pm_u (pm_u X 40 10 1) 40 7 0) 40 8 0) 40 6 0) := by
    intro n
    rw [pMo_lines.eq_2, fMo_lines.eq_2]
    rw [kk.2]
    unfold pMo_lines_4 fMo_lines_4
    exact ⟨⟨kk.1, fun _ => ⟨fun _ => trivial, fun q => absurd rfl q⟩⟩, (if_pos rfl).trans (if_pos rfl)⟩
  have k := kl 4001
  rw [k.2]
  refine ⟨⟨trivial, k.1⟩, rfl, fun j h6 h7 h8 h10 => ?_, fun a ha => ?_⟩
  · show pm_u (pm_u (pm_u (pm_u X 40 10 1) 40 7 0) 40 8 0) 40 6 0 40 j = X 40 j
    rw [pm_u_j _ _ _ h6, pm_u_j _ _ _ h8, pm_u_j _ _ _ h7, pm_u_j _ _ _ h10]
  · show pm_u (pm_u (pm_u (pm_u X 40 10 1) 40 7 0) 40 8 0) 40 6 0 a = I a
    rw [pm_u_n _ _ _ ha, pm_u_n _ _ _ ha, pm_u_n _ _ _ ha, pm_u_n _ _ _ ha, i0 a ha]
