/-! PURE 1: numbers, arrays that are filled -/
theorem nI_i1 (k : Nat) : nI k + Int32.ofInt 1 = nI (k + 1) := by
  rw [show (Int32.ofInt 1 : Int32) = 1 from by decide]
  exact (nI_succ k).symm
theorem vp_0 {n : Nat} (h : 0 < n) (hn : n < 2 ^ 31) : vp_in 0 n := vp_in_nI h hn
/-- the first n places of row a hold v -/
def pm_fl {α : Type} (I : Nat → Nat → α) (a n : Nat) (v : α) : Nat → Nat → α := fun a' => if a' = a then (fun j => if j < n then v else I a j) else I a'
theorem pm_fl_n {α : Type} (I : Nat → Nat → α) {a a' : Nat} (n : Nat) (v : α) (h : a' ≠ a) : pm_fl I a n v a' = I a' := if_neg h
theorem pm_fl_j {α : Type} (I : Nat → Nat → α) (a : Nat) {n j : Nat} (v : α) (h : j < n) : pm_fl I a n v a j = v := by
  unfold pm_fl
  rw [if_pos rfl]
  exact if_pos h
theorem Ar_fill_15_w (v : Int32) (J : Nat → Nat → Int64) : ∀ (n k : Nat) (I : Nat → Nat → Int32), k ≤ 60 → 60 - k < n → pAr_fill_15_5 n v (nI k) 60 I J ∧ fAr_fill_15_5 n v (nI k) 60 I J = fun a' => if a' = 15 then (fun j => if k ≤ j ∧ j < 60 then v else I 15 j) else I a' := by
  intro n
  induction n with
  | zero => intro k I h1 h2; omega
  | succ n ih =>
    intro k I h1 h2
    rw [pAr_fill_15_5.eq_2, fAr_fill_15_5.eq_2]
    by_cases hk : k = 60
    · subst hk
      have hc : (60 : Int32) ≤ nI 60 := by decide
      refine ⟨⟨fun _ => trivial, fun h => absurd hc h⟩, ?_⟩
      rw [if_pos hc]
      funext a'
      by_cases ha : a' = 15
      · subst ha
        rw [if_pos rfl]
        funext j
        rw [if_neg (by omega)]
      · rw [if_neg ha]
    · have hc : ¬ (60 : Int32) ≤ nI k := nI_ge (a := k) (b := 60) (by omega) (by omega)
      have hi := ih (k + 1) (pm_u I 15 (nI k).toNatClampNeg v) (by omega) (by omega)
      rw [nI_i1]
      refine ⟨⟨fun h => absurd h hc, fun _ => ⟨vp_in_nI (by omega) (by omega), hi.1⟩⟩, ?_⟩
      rw [if_neg hc, hi.2, nI_clamp (by omega)]
      funext a'
      by_cases ha : a' = 15
      · subst ha
        rw [if_pos rfl, if_pos rfl, pm_u_a]
        funext j
        show (if k + 1 ≤ j ∧ j < 60 then v else if j = k then v else I 15 j) = if k ≤ j ∧ j < 60 then v else I 15 j
        by_cases h1 : j = k
        · rw [if_neg (by omega), if_pos h1, if_pos (by omega)]
        · rw [if_neg h1]
          by_cases h2 : k + 1 ≤ j ∧ j < 60
          · rw [if_pos h2, if_pos (by omega)]
          · rw [if_neg h2, if_neg (by omega)]
      · rw [if_neg ha, if_neg ha, pm_u_n _ _ _ ha]
theorem Ar_fill_15_o (v : Int32) (I : Nat → Nat → Int32) (J : Nat → Nat → Int64) : pAr_fill_15 300 v I J ∧ fAr_fill_15 300 v I J = pm_fl I 15 60 v := by
  have h := Ar_fill_15_w v J 300 0 I (by decide) (by decide)
  rw [nI_0] at h
  refine ⟨h.1, h.2.trans ?_⟩
  funext a'
  unfold pm_fl
  by_cases ha : a' = 15
  · rw [if_pos ha, if_pos ha]
    funext j
    by_cases hj : j < 60
    · rw [if_pos ⟨Nat.zero_le _, hj⟩, if_pos hj]
    · rw [if_neg (fun h => hj h.2), if_neg hj]
  · rw [if_neg ha, if_neg ha]
theorem Ar_fill_28_w (v : Int32) (J : Nat → Nat → Int64) : ∀ (n k : Nat) (I : Nat → Nat → Int32), k ≤ 257 → 257 - k < n → pAr_fill_28_5 n v (nI k) 257 I J ∧ fAr_fill_28_5 n v (nI k) 257 I J = fun a' => if a' = 28 then (fun j => if k ≤ j ∧ j < 257 then v else I 28 j) else I a' := by
  intro n
  induction n with
  | zero => intro k I h1 h2; omega
  | succ n ih =>
    intro k I h1 h2
    rw [pAr_fill_28_5.eq_2, fAr_fill_28_5.eq_2]
    by_cases hk : k = 257
    · subst hk
      have hc : (257 : Int32) ≤ nI 257 := by decide
      refine ⟨⟨fun _ => trivial, fun h => absurd hc h⟩, ?_⟩
      rw [if_pos hc]
      funext a'
      by_cases ha : a' = 28
      · subst ha
        rw [if_pos rfl]
        funext j
        rw [if_neg (by omega)]
      · rw [if_neg ha]
    · have hc : ¬ (257 : Int32) ≤ nI k := nI_ge (a := k) (b := 257) (by omega) (by omega)
      have hi := ih (k + 1) (pm_u I 28 (nI k).toNatClampNeg v) (by omega) (by omega)
      rw [nI_i1]
      refine ⟨⟨fun h => absurd h hc, fun _ => ⟨vp_in_nI (by omega) (by omega), hi.1⟩⟩, ?_⟩
      rw [if_neg hc, hi.2, nI_clamp (by omega)]
      funext a'
      by_cases ha : a' = 28
      · subst ha
        rw [if_pos rfl, if_pos rfl, pm_u_a]
        funext j
        show (if k + 1 ≤ j ∧ j < 257 then v else if j = k then v else I 28 j) = if k ≤ j ∧ j < 257 then v else I 28 j
        by_cases h1 : j = k
        · rw [if_neg (by omega), if_pos h1, if_pos (by omega)]
        · rw [if_neg h1]
          by_cases h2 : k + 1 ≤ j ∧ j < 257
          · rw [if_pos h2, if_pos (by omega)]
          · rw [if_neg h2, if_neg (by omega)]
      · rw [if_neg ha, if_neg ha, pm_u_n _ _ _ ha]
theorem Ar_fill_28_o (v : Int32) (I : Nat → Nat → Int32) (J : Nat → Nat → Int64) : pAr_fill_28 300 v I J ∧ fAr_fill_28 300 v I J = pm_fl I 28 257 v := by
  have h := Ar_fill_28_w v J 300 0 I (by decide) (by decide)
  rw [nI_0] at h
  refine ⟨h.1, h.2.trans ?_⟩
  funext a'
  unfold pm_fl
  by_cases ha : a' = 28
  · rw [if_pos ha, if_pos ha]
    funext j
    by_cases hj : j < 257
    · rw [if_pos ⟨Nat.zero_le _, hj⟩, if_pos hj]
    · rw [if_neg (fun h => hj h.2), if_neg hj]
  · rw [if_neg ha, if_neg ha]
theorem Ar_fill_30_w (v : Int32) (J : Nat → Nat → Int64) : ∀ (n k : Nat) (I : Nat → Nat → Int32), k ≤ 256 → 256 - k < n → pAr_fill_30_5 n v (nI k) 256 I J ∧ fAr_fill_30_5 n v (nI k) 256 I J = fun a' => if a' = 30 then (fun j => if k ≤ j ∧ j < 256 then v else I 30 j) else I a' := by
  intro n
  induction n with
  | zero => intro k I h1 h2; omega
  | succ n ih =>
    intro k I h1 h2
    rw [pAr_fill_30_5.eq_2, fAr_fill_30_5.eq_2]
    by_cases hk : k = 256
    · subst hk
      have hc : (256 : Int32) ≤ nI 256 := by decide
      refine ⟨⟨fun _ => trivial, fun h => absurd hc h⟩, ?_⟩
      rw [if_pos hc]
      funext a'
      by_cases ha : a' = 30
      · subst ha
        rw [if_pos rfl]
        funext j
        rw [if_neg (by omega)]
      · rw [if_neg ha]
    · have hc : ¬ (256 : Int32) ≤ nI k := nI_ge (a := k) (b := 256) (by omega) (by omega)
      have hi := ih (k + 1) (pm_u I 30 (nI k).toNatClampNeg v) (by omega) (by omega)
      rw [nI_i1]
      refine ⟨⟨fun h => absurd h hc, fun _ => ⟨vp_in_nI (by omega) (by omega), hi.1⟩⟩, ?_⟩
      rw [if_neg hc, hi.2, nI_clamp (by omega)]
      funext a'
      by_cases ha : a' = 30
      · subst ha
        rw [if_pos rfl, if_pos rfl, pm_u_a]
        funext j
        show (if k + 1 ≤ j ∧ j < 256 then v else if j = k then v else I 30 j) = if k ≤ j ∧ j < 256 then v else I 30 j
        by_cases h1 : j = k
        · rw [if_neg (by omega), if_pos h1, if_pos (by omega)]
        · rw [if_neg h1]
          by_cases h2 : k + 1 ≤ j ∧ j < 256
          · rw [if_pos h2, if_pos (by omega)]
          · rw [if_neg h2, if_neg (by omega)]
      · rw [if_neg ha, if_neg ha, pm_u_n _ _ _ ha]
theorem Ar_fill_30_o (v : Int32) (I : Nat → Nat → Int32) (J : Nat → Nat → Int64) : pAr_fill_30 300 v I J ∧ fAr_fill_30 300 v I J = pm_fl I 30 256 v := by
  have h := Ar_fill_30_w v J 300 0 I (by decide) (by decide)
  rw [nI_0] at h
  refine ⟨h.1, h.2.trans ?_⟩
  funext a'
  unfold pm_fl
  by_cases ha : a' = 30
  · rw [if_pos ha, if_pos ha]
    funext j
    by_cases hj : j < 256
    · rw [if_pos ⟨Nat.zero_le _, hj⟩, if_pos hj]
    · rw [if_neg (fun h => hj h.2), if_neg hj]
  · rw [if_neg ha, if_neg ha]
/-! a circuit without anything is worked out -/
theorem W0_begin (n : Nat) (I : Nat → Nat → Int32) (J : Nat → Nat → Int64) (h3 : I 25 3 = 1) (h8 : I 3 8 = 0) : pSt_begin_41 (n + 2) 0 I J ∧ fSt_begin_41 (n + 2) 0 I J = pm_u I 26 0 0 := by
  constructor <;> simp [pSt_begin_41, fSt_begin_41, h3, h8, pm_u_n, vp_0]
theorem W0_St_begin (I : Nat → Nat → Int32) (J : Nat → Nat → Int64) (h7 : I 3 7 = 0) (h8 : I 3 8 = 0) : pSt_begin 2049 I J ∧ fSt_begin 2049 I J = pm_u (pm_u (pm_u (pm_u I 25 1 1) 25 2 1) 25 3 1) 26 0 0 := by
  unfold pSt_begin fSt_begin
  rw [h7, h8, show ((1 : Int32) <<< ((0 : Int32) &&& 31)) = 1 from by decide, show (1 : Int32) * 1 = 1 from by decide]
  exact W0_begin 2047 _ J (pm_u_s _ _ _ _) (by rw [pm_u_n _ _ _ (by decide), pm_u_n _ _ _ (by decide), pm_u_n _ _ _ (by decide)]; exact h8)
theorem W0_Va_begin (I : Nat → Nat → Int32) (J : Nat → Nat → Int64) (h5 : I 3 5 = 0) (h7 : I 3 7 = 0) (h8 : I 3 8 = 0) : pVa_begin 61 I J ∧ fVa_begin 61 I J = (pm_u (pm_u I 22 3 0) 22 4 1, J) := by
  have hc : ((0 : Int32) + 0) ≤ 3 := by decide
  have h0 : (0 : Int32) ≤ 0 := by decide
  have key : ∀ (n : Nat) (I : Nat → Nat → Int32), I 3 5 = 0 → pVa_begin_41 (n + 1) (0 + 0) 0 I J ∧ fVa_begin_41 (n + 1) (0 + 0) 0 I J = (I, J) := by
    intro n I h
    rw [pVa_begin_41.eq_2, fVa_begin_41.eq_2]
    rw [h]
    exact ⟨⟨fun _ => trivial, fun h => absurd h0 h⟩, if_pos h0⟩
  unfold pVa_begin fVa_begin pVa_begin_36 fVa_begin_36
  rw [h7, h8]
  have k := key 60 (pm_u (pm_u I 22 3 0) 22 4 1) (by rw [pm_u_n _ _ _ (by decide), pm_u_n _ _ _ (by decide)]; exact h5)
  exact ⟨⟨fun _ => k.1, fun h => absurd hc h⟩, (if_pos hc).trans k.2⟩
theorem W0_perform_L (I : Nat → Nat → Int32) (J : Nat → Nat → Int64) (h : I 7 2 = 0) : pCh_perform_L 4001 I J ∧ fCh_perform_L 4001 I J = (I, J) := by
  have h0 : (0 : Int32) ≤ 0 := by decide
  have key : ∀ n : Nat, pCh_perform_L_2 (n + 1) 0 I J ∧ fCh_perform_L_2 (n + 1) 0 I J = (I, J) := by
    intro n
    rw [pCh_perform_L_2.eq_2, fCh_perform_L_2.eq_2]
    rw [h]
    exact ⟨⟨fun _ => trivial, fun h => absurd h0 h⟩, if_pos h0⟩
  exact key 4000
theorem W0_perform_F (I : Nat → Nat → Int32) (J : Nat → Nat → Int64) (h : I 10 2 = 0) : pCh_perform_F 4001 I J ∧ fCh_perform_F 4001 I J = (I, J) := by
  have h0 : (0 : Int32) ≤ 0 := by decide
  have key : ∀ n : Nat, pCh_perform_F_2 (n + 1) 0 I J ∧ fCh_perform_F_2 (n + 1) 0 I J = (I, J) := by
    intro n
    rw [pCh_perform_F_2.eq_2, fCh_perform_F_2.eq_2]
    rw [h]
    exact ⟨⟨fun _ => trivial, fun h => absurd h0 h⟩, if_pos h0⟩
  exact key 4000
theorem W0_turnBack (I : Nat → Nat → Int32) (J : Nat → Nat → Int64) (h1 : I 25 1 = 1) (h3 : I 25 3 = 1) (h26 : I 26 0 = 0) (h8 : I 3 8 = 0) : pSt_turnBack 2049 257 2049 I J ∧ ∀ a, a ≠ 27 → a ≠ 28 → fSt_turnBack 2049 257 2049 I J a = I a := by
  have hf := Ar_fill_28_o 0 I J
  have k3 : ∀ (n : Nat) (I : Nat → Nat → Int32), I 25 3 = 1 → I 26 0 = 0 → I 28 0 = 1 → I 3 8 = 0 → pSt_turnBack_74 (n + 2) 0 I J ∧ ∀ a, a ≠ 27 → a ≠ 28 → fSt_turnBack_74 (n + 2) 0 I J a = I a := by
    intro n I g3 g26 g28 g8
    constructor
    · simp [pSt_turnBack_74, g3, g26, g28, g8, pm_u_n, pm_u_s, vp_0]
    · intro a ha hb
      simp [fSt_turnBack_74, g3, g26, g28, g8, pm_u_n, pm_u_s, ha, hb]
  have k2 : ∀ (n : Nat) (I : Nat → Nat → Int32), I 25 1 = 1 → I 25 3 = 1 → I 26 0 = 0 → I 28 0 = 1 → I 28 1 = 0 → I 3 8 = 0 → pSt_turnBack_41 2049 (n + 2) 1 I J ∧ ∀ a, a ≠ 27 → a ≠ 28 → fSt_turnBack_41 2049 (n + 2) 1 I J a = I a := by
    intro n I g1 g3 g26 g28 g281 g8
    have kk := k3 2047 (pm_u I 28 1 (0 + 1)) (by simp [pm_u_n, g3]) (by simp [pm_u_n, g26]) (by simp [pm_u_j, g28]) (by simp [pm_u_n, g8])
    have v1 : vp_in 1 257 := vp_in_nI (n := 1) (by decide) (by decide)
    have e0 : ((1 : Int32) - 1).toNatClampNeg = 0 := by decide
    have e1 : (1 : Int32).toNatClampNeg = 1 := by decide
    have c1 : ¬ ((1 : Int32) < 1) := by decide
    have c2 : (1 : Int32) < 1 + Int32.ofInt 1 := by decide
    have g1' : pm_u I 28 1 (0 + 1) 25 1 = 1 := by simp [pm_u_n, g1]
    rw [pSt_turnBack_41.eq_2, fSt_turnBack_41.eq_2, g1, e1, e0, g281, g28, pSt_turnBack_41.eq_2, fSt_turnBack_41.eq_2, g1']
    refine ⟨⟨fun h => absurd h c1, fun _ => ⟨v1, vp_0 (by decide) (by decide), v1, fun _ => kk.1, fun h => absurd c2 h⟩⟩, ?_⟩
    intro a ha hb
    rw [if_neg c1, if_pos c2, kk.2 a ha hb, pm_u_n _ _ _ hb]
  have k1 : ∀ (n : Nat) (I : Nat → Nat → Int32), I 25 1 = 1 → I 25 3 = 1 → I 26 0 = 0 → I 28 0 = 0 → I 28 1 = 0 → I 3 8 = 0 → pSt_turnBack_10 2049 257 (n + 2) 0 I J ∧ ∀ a, a ≠ 27 → a ≠ 28 → fSt_turnBack_10 2049 257 (n + 2) 0 I J a = I a := by
    intro n I g1 g3 g26 g28 g281 g8
    have kk := k2 255 (pm_u I 28 0 (0 + 1)) (by simp [pm_u_n, g1]) (by simp [pm_u_n, g3]) (by simp [pm_u_n, g26]) (by simp [pm_u_s]) (by simp [pm_u_j, g281]) (by simp [pm_u_n, g8])
    have e0 : (0 : Int32).toNatClampNeg = 0 := by decide
    have c1 : ¬ ((1 : Int32) ≤ 0) := by decide
    have c2 : (1 : Int32) ≤ 0 + Int32.ofInt 1 := by decide
    have g3' : pm_u I 28 0 (0 + 1) 25 3 = 1 := by simp [pm_u_n, g3]
    rw [pSt_turnBack_10.eq_2, fSt_turnBack_10.eq_2, g3, e0, g26, e0, g28, pSt_turnBack_10.eq_2, fSt_turnBack_10.eq_2, g3']
    refine ⟨⟨fun h => absurd h c1, fun _ => ⟨vp_0 (by decide) (by decide), vp_0 (by decide) (by decide), vp_0 (by decide) (by decide), fun _ => kk.1, fun h => absurd c2 h⟩⟩, ?_⟩
    intro a ha hb
    rw [if_neg c1, if_pos c2, kk.2 a ha hb, pm_u_n _ _ _ hb]
  unfold pSt_turnBack fSt_turnBack pSt_turnBack_8 fSt_turnBack_8
  rw [hf.2]
  have kk := k1 2047 (pm_fl I 28 257 0) (by rw [pm_fl_n _ _ _ (by decide)]; exact h1) (by rw [pm_fl_n _ _ _ (by decide)]; exact h3) (by rw [pm_fl_n _ _ _ (by decide)]; exact h26) (pm_fl_j _ _ _ (by decide)) (pm_fl_j _ _ _ (by decide)) (by rw [pm_fl_n _ _ _ (by decide)]; exact h8)
  exact ⟨⟨hf.1, kk.1⟩, fun a ha hb => (kk.2 a ha hb).trans (pm_fl_n _ _ _ hb)⟩
theorem W0_meetAll (I : Nat → Nat → Int32) (J : Nat → Nat → Int64) (h1 : I 25 1 = 1) (h2 : I 25 2 = 1) (h26 : I 26 0 = 0) (h8 : I 3 8 = 0) (h10 : I 3 10 = 0) : pSt_meetAll 9 257 I J ∧ fSt_meetAll 9 257 I J = pm_u (pm_u (pm_u (pm_fl I 30 256 (-1)) 29 0 0) 30 0 0) 25 8 1 := by
  have hf := Ar_fill_30_o (-1) I J
  have k1 : ∀ (n : Nat) (I : Nat → Nat → Int32), I 25 1 = 1 → I 25 2 = 1 → I 25 8 = 1 → I 26 0 = 0 → I 3 8 = 0 → I 29 0 = 0 → I 30 0 = 0 → pSt_meetAll_41 9 (n + 2) 0 I J ∧ fSt_meetAll_41 9 (n + 2) 0 I J = I := by
    intro n I g1 g2 g3 g26 g8 g29 g30
    have hm : pSt_meet 0 0 I J ∧ fSt_meet 0 0 I J = I := by
      constructor <;> simp [pSt_meet, fSt_meet, pSt_caseOf, fSt_caseOf, g8, g26, g30, vp_0]
    have e0 : (0 : Int32).toNatClampNeg = 0 := by decide
    have c1 : ¬ ((1 : Int32) ≤ 0) := by decide
    have c2 : (1 : Int32) ≤ 0 + Int32.ofInt 1 := by decide
    rw [pSt_meetAll_41.eq_2, fSt_meetAll_41.eq_2, pSt_meetAll_59.eq_2, fSt_meetAll_59.eq_2]
    unfold pSt_meetAll_78 fSt_meetAll_78
    rw [g3, g1, g2, e0, g29, hm.2, pSt_meetAll_59.eq_2, fSt_meetAll_59.eq_2, pSt_meetAll_41.eq_2, fSt_meetAll_41.eq_2, g2, g3, g1]
    refine ⟨⟨fun h => absurd h c1, fun _ => ⟨fun h => absurd h c1, fun _ => ⟨fun h => absurd h c1, fun _ => ⟨vp_0 (by decide) (by decide), hm.1, fun _ => ⟨fun _ => trivial, fun h => absurd c2 h⟩, fun h => absurd c2 h⟩⟩⟩⟩, ?_⟩
    rw [if_neg c1, if_neg c1, if_neg c1, if_pos c2, if_pos c2]
  unfold pSt_meetAll fSt_meetAll pSt_meetAll_8 fSt_meetAll_8
  rw [hf.2, show (pm_fl I 30 256 (-1)) 3 10 = 0 by rw [pm_fl_n _ _ _ (by decide)]; exact h10, show (0 : Int32).toNatClampNeg = 0 by decide]
  have kk := k1 255 (pm_u (pm_u (pm_u (pm_fl I 30 256 (-1)) 29 0 0) 30 0 0) 25 8 1)
    (by rw [pm_u_j _ _ _ (by decide), pm_u_n _ _ _ (by decide), pm_u_n _ _ _ (by decide), pm_fl_n _ _ _ (by decide)]; exact h1)
    (by rw [pm_u_j _ _ _ (by decide), pm_u_n _ _ _ (by decide), pm_u_n _ _ _ (by decide), pm_fl_n _ _ _ (by decide)]; exact h2)
    (pm_u_s _ _ _ _)
    (by rw [pm_u_n _ _ _ (by decide), pm_u_n _ _ _ (by decide), pm_u_n _ _ _ (by decide), pm_fl_n _ _ _ (by decide)]; exact h26)
    (by rw [pm_u_n _ _ _ (by decide), pm_u_n _ _ _ (by decide), pm_u_n _ _ _ (by decide), pm_fl_n _ _ _ (by decide)]; exact h8)
    (by rw [pm_u_n _ _ _ (by decide), pm_u_n _ _ _ (by decide), pm_u_s])
    (by rw [pm_u_n _ _ _ (by decide), pm_u_s])
  exact ⟨⟨hf.1, vp_0 (by decide) (by decide), vp_0 (by decide) (by decide), kk.1⟩, kk.2⟩
theorem W0_empty (I : Nat → Nat → Int32) (J : Nat → Nat → Int64) : pCm_empty 5 120 I J ∧ ∀ a, a ≠ 34 → fCm_empty 5 120 I J a = J a := by
  have e1 : (0 : Int32) + Int32.ofInt 1 = 1 := by decide
  have e2 : (1 : Int32) + Int32.ofInt 1 = 2 := by decide
  have e3 : (2 : Int32) + Int32.ofInt 1 = 3 := by decide
  have e4 : (3 : Int32) + Int32.ofInt 1 = 4 := by decide
  have c0 : ¬ (4 : Int32) ≤ 0 := by decide
  have c1 : ¬ (4 : Int32) ≤ 1 := by decide
  have c2 : ¬ (4 : Int32) ≤ 2 := by decide
  have c3 : ¬ (4 : Int32) ≤ 3 := by decide
  have c4 : (4 : Int32) ≤ 4 := by decide
  have v0 : vp_in ((120 : Int32) + 0) 624 := vp_in_nI (n := 120) (by decide) (by decide)
  have v1 : vp_in ((120 : Int32) + 1) 624 := vp_in_nI (n := 121) (by decide) (by decide)
  have v2 : vp_in ((120 : Int32) + 2) 624 := vp_in_nI (n := 122) (by decide) (by decide)
  have v3 : vp_in ((120 : Int32) + 3) 624 := vp_in_nI (n := 123) (by decide) (by decide)
  unfold pCm_empty fCm_empty
  constructor
  · rw [pCm_empty_2.eq_2, pCm_empty_2.eq_2, pCm_empty_2.eq_2, pCm_empty_2.eq_2, pCm_empty_2.eq_2, e1, e2, e3, e4]
    exact ⟨fun h => absurd h c0, fun _ => ⟨v0, fun h => absurd h c1, fun _ => ⟨v1, fun h => absurd h c2, fun _ => ⟨v2, fun h => absurd h c3, fun _ => ⟨v3, fun _ => trivial, fun h => absurd c4 h⟩⟩⟩⟩⟩
  · intro a ha
    rw [fCm_empty_2.eq_2, fCm_empty_2.eq_2, fCm_empty_2.eq_2, fCm_empty_2.eq_2, fCm_empty_2.eq_2, e1, e2, e3, e4, if_neg c0, if_neg c1, if_neg c2, if_neg c3, if_pos c4, pm_u_n _ _ _ ha, pm_u_n _ _ _ ha, pm_u_n _ _ _ ha, pm_u_n _ _ _ ha]
theorem W0_Cm_begin (I : Nat → Nat → Int32) (J : Nat → Nat → Int64) (h1 : I 25 1 = 1) : pCm_begin 257 I J ∧ (fCm_begin 257 I J).1 = pm_u I 33 2 124 ∧ ∀ a, a ≠ 34 → (fCm_begin 257 I J).2 a = J a := by
  have he := W0_empty (pm_u I 33 2 124) J
  have c1 : ¬ ((1 : Int32) ≤ 0) := by decide
  have c2 : (1 : Int32) ≤ 0 + Int32.ofInt 1 := by decide
  have v0 : vp_in ((120 : Int32) + ((0 : Int32) >>> ((6 : Int32) &&& 31))) 624 := vp_in_nI (n := 120) (by decide) (by decide)
  have k1 : ∀ (n : Nat) (I : Nat → Nat → Int32) (J : Nat → Nat → Int64), I 25 1 = 1 → pCm_begin_14 (n + 2) 0 I J ∧ (fCm_begin_14 (n + 2) 0 I J).1 = I ∧ ∀ a, a ≠ 34 → (fCm_begin_14 (n + 2) 0 I J).2 a = J a := by
    intro n I J g1
    rw [pCm_begin_14.eq_2, fCm_begin_14.eq_2]
    unfold pCm_begin_32 fCm_begin_32
    rw [pCm_begin_14.eq_2, fCm_begin_14.eq_2, g1, if_neg c1, if_pos c2]
    refine ⟨⟨fun h => absurd h c1, fun _ => ⟨⟨v0, v0, trivial⟩, fun _ => trivial, fun h => absurd c2 h⟩⟩, rfl, fun a ha => ?_⟩
    show fCm_put 120 0 I J a = J a
    unfold fCm_put
    exact pm_u_n _ _ _ ha
  unfold pCm_begin fCm_begin pCm_begin_12 fCm_begin_12
  have kk := k1 255 (pm_u I 33 2 124) (fCm_empty 5 120 (pm_u I 33 2 124) J) (by rw [pm_u_n _ _ _ (by decide)]; exact h1)
  exact ⟨⟨he.1, kk.1⟩, kk.2.1, fun a ha => (kk.2.2 a ha).trans (he.2 a ha)⟩
/-- a circuit without anything -/
def em0 (I : Nat → Nat → Int32) : Prop := I 3 5 = 0 ∧ I 3 6 = 0 ∧ I 3 7 = 0 ∧ I 3 8 = 0 ∧ I 3 9 = 0 ∧ I 3 10 = 0 ∧ I 7 2 = 0 ∧ I 10 2 = 0
/-- what workOut leaves of it -/
def ew0 (I I' : Nat → Nat → Int32) : Prop := (∀ a : Nat, a ≠ 0 → a ≠ 22 → a ≠ 25 → a ≠ 26 → a ≠ 27 → a ≠ 28 → a ≠ 29 → a ≠ 30 → a ≠ 33 → a ≠ 37 → I' a = I a) ∧ I' 0 7 = 0 ∧ I' 25 1 = 1 ∧ I' 25 2 = 1 ∧ I' 25 3 = 1 ∧ I' 25 8 = 1 ∧ I' 26 0 = 0 ∧ I' 29 0 = 0 ∧ I' 30 0 = 0 ∧ I' 37 2 = 0 ∧ I' 37 3 = 0
theorem W0_workOut (I : Nat → Nat → Int32) (J : Nat → Nat → Int64) (h : em0 I) : pCh_workOut I J ∧ ew0 I (fCh_workOut I J).1 ∧ ∀ a, a ≠ 34 → (fCh_workOut I J).2 a = J a := by
  obtain ⟨h5, h6, h7, h8, h9, h10, hl, hf⟩ := h
  have s1 := W0_St_begin I J h7 h8
  unfold pCh_workOut fCh_workOut pCh_workOut_7 fCh_workOut_7
  rw [s1.2]
  generalize e1 : pm_u (pm_u (pm_u (pm_u I 25 1 1) 25 2 1) 25 3 1) 26 0 0 = I1
  have i1 : ∀ a, a ≠ 25 → a ≠ 26 → I1 a = I a := fun a q1 q2 => by rw [← e1, pm_u_n _ _ _ q2, pm_u_n _ _ _ q1, pm_u_n _ _ _ q1, pm_u_n _ _ _ q1]
  have i2 : I1 25 1 = 1 := by rw [← e1, pm_u_n _ _ _ (by decide), pm_u_j _ _ _ (by decide), pm_u_j _ _ _ (by decide), pm_u_s]
  have i3 : I1 25 2 = 1 := by rw [← e1, pm_u_n _ _ _ (by decide), pm_u_j _ _ _ (by decide), pm_u_s]
  have i4 : I1 25 3 = 1 := by rw [← e1, pm_u_n _ _ _ (by decide), pm_u_s]
  have i5 : I1 26 0 = 0 := by rw [← e1, pm_u_s]
  have s2 := W0_Va_begin I1 J (by rw [i1 3 (by decide) (by decide)]; exact h5) (by rw [i1 3 (by decide) (by decide)]; exact h7) (by rw [i1 3 (by decide) (by decide)]; exact h8)
  rw [s2.2]
  generalize e2 : pm_u (pm_u I1 22 3 0) 22 4 1 = I2
  have j1 : ∀ a, a ≠ 22 → I2 a = I1 a := fun a q => by rw [← e2, pm_u_n _ _ _ q, pm_u_n _ _ _ q]
  unfold pCh_workOut_14 fCh_workOut_14
  have s3 := W0_perform_L I2 J (by rw [j1 7 (by decide), i1 7 (by decide) (by decide)]; exact hl)
  dsimp only
  rw [s3.2]
  dsimp only
  have b1 := (j1 25 (by decide))
  have s4 := W0_turnBack I2 J (by rw [b1]; exact i2) (by rw [b1]; exact i4) (by rw [j1 26 (by decide)]; exact i5) (by rw [j1 3 (by decide), i1 3 (by decide) (by decide)]; exact h8)
  unfold pCh_workOut_25 fCh_workOut_25 pSt_finish fSt_finish pSt_finish_4 fSt_finish_4
  generalize e3 : fSt_turnBack 2049 257 2049 I2 J = I3
  have k1 : ∀ a, a ≠ 27 → a ≠ 28 → I3 a = I2 a := fun a q1 q2 => by rw [← e3]; exact s4.2 a q1 q2
  have k25 : I3 25 = I1 25 := (k1 25 (by decide) (by decide)).trans b1
  have k3 : I3 3 = I 3 := (k1 3 (by decide) (by decide)).trans ((j1 3 (by decide)).trans (i1 3 (by decide) (by decide)))
  have k26 : I3 26 0 = 0 := by rw [k1 26 (by decide) (by decide), j1 26 (by decide)]; exact i5
  have s5 := W0_meetAll I3 J (by rw [k25]; exact i2) (by rw [k25]; exact i3) k26 (by rw [k3]; exact h8) (by rw [k3]; exact h10)
  rw [s5.2]
  generalize e4 : pm_u (pm_u (pm_u (pm_fl I3 30 256 (-1)) 29 0 0) 30 0 0) 25 8 1 = I4
  have l1 : ∀ a, a ≠ 25 → a ≠ 29 → a ≠ 30 → I4 a = I3 a := fun a q1 q2 q3 => by rw [← e4, pm_u_n _ _ _ q1, pm_u_n _ _ _ q3, pm_u_n _ _ _ q2, pm_fl_n _ _ _ q3]
  have l2 : ∀ j, j ≠ 8 → I4 25 j = I1 25 j := fun j q => by rw [← e4, pm_u_j _ _ _ q, pm_u_n _ _ _ (by decide), pm_u_n _ _ _ (by decide), pm_fl_n _ _ _ (by decide), k25]
  have l3 : I4 25 8 = 1 := by rw [← e4, pm_u_s]
  have l4 : I4 29 0 = 0 := by rw [← e4, pm_u_n _ _ _ (by decide), pm_u_n _ _ _ (by decide), pm_u_s]
  have l5 : I4 30 0 = 0 := by rw [← e4, pm_u_n _ _ _ (by decide), pm_u_s]
  have s6 := W0_Cm_begin I4 J (by rw [l2 1 (by decide)]; exact i2)
  unfold pCh_workOut_32 fCh_workOut_32
  rw [s6.2.1]
  generalize e5 : (fCm_begin 257 I4 J).2 = J5
  have m1 : ∀ a, a ≠ 34 → J5 a = J a := fun a q => by rw [← e5]; exact s6.2.2 a q
  generalize e6 : pm_u I4 33 2 124 = I5
  have n1 : ∀ a, a ≠ 33 → I5 a = I4 a := fun a q => by rw [← e6, pm_u_n _ _ _ q]
  have s7 := W0_perform_F I5 J5 (by rw [n1 10 (by decide), l1 10 (by decide) (by decide) (by decide), k1 10 (by decide) (by decide), j1 10 (by decide), i1 10 (by decide) (by decide)]; exact hf)
  unfold pCh_workOut_39 fCh_workOut_39
  rw [s7.2]
  unfold pCh_workOut_50 fCh_workOut_50 pTr_forget fTr_forget
  dsimp only
  have o3 : I5 3 10 = 0 := by rw [n1 3 (by decide), l1 3 (by decide) (by decide) (by decide), k3]; exact h10
  rw [o3]
  refine ⟨⟨s1.1, s2.1, s3.1, ⟨s4.1, s5.1, trivial⟩, s6.1, s7.1, trivial, trivial⟩, ⟨fun a q0 q22 q25 q26 q27 q28 q29 q30 q33 q37 => ?_, ?_, ?_, ?_, ?_, ?_, ?_, ?_, ?_, ?_, ?_⟩, m1⟩
  · show pm_u (pm_u (pm_u I5 0 7 0) 37 3 0) 37 2 0 a = I a
    rw [pm_u_n _ _ _ q37, pm_u_n _ _ _ q37, pm_u_n _ _ _ q0, n1 a q33, l1 a q25 q29 q30, k1 a q27 q28, j1 a q22, i1 a q25 q26]
  · show pm_u (pm_u (pm_u I5 0 7 0) 37 3 0) 37 2 0 0 7 = 0
    rw [pm_u_n _ _ _ (by decide), pm_u_n _ _ _ (by decide), pm_u_s]
  · show pm_u (pm_u (pm_u I5 0 7 0) 37 3 0) 37 2 0 25 1 = 1
    rw [pm_u_n _ _ _ (by decide), pm_u_n _ _ _ (by decide), pm_u_n _ _ _ (by decide), n1 25 (by decide), l2 1 (by decide)]; exact i2
  · show pm_u (pm_u (pm_u I5 0 7 0) 37 3 0) 37 2 0 25 2 = 1
    rw [pm_u_n _ _ _ (by decide), pm_u_n _ _ _ (by decide), pm_u_n _ _ _ (by decide), n1 25 (by decide), l2 2 (by decide)]; exact i3
  · show pm_u (pm_u (pm_u I5 0 7 0) 37 3 0) 37 2 0 25 3 = 1
    rw [pm_u_n _ _ _ (by decide), pm_u_n _ _ _ (by decide), pm_u_n _ _ _ (by decide), n1 25 (by decide), l2 3 (by decide)]; exact i4
  · show pm_u (pm_u (pm_u I5 0 7 0) 37 3 0) 37 2 0 25 8 = 1
    rw [pm_u_n _ _ _ (by decide), pm_u_n _ _ _ (by decide), pm_u_n _ _ _ (by decide), n1 25 (by decide)]; exact l3
  · show pm_u (pm_u (pm_u I5 0 7 0) 37 3 0) 37 2 0 26 0 = 0
    rw [pm_u_n _ _ _ (by decide), pm_u_n _ _ _ (by decide), pm_u_n _ _ _ (by decide), n1 26 (by decide), l1 26 (by decide) (by decide) (by decide)]; exact k26
  · show pm_u (pm_u (pm_u I5 0 7 0) 37 3 0) 37 2 0 29 0 = 0
    rw [pm_u_n _ _ _ (by decide), pm_u_n _ _ _ (by decide), pm_u_n _ _ _ (by decide), n1 29 (by decide)]; exact l4
  · show pm_u (pm_u (pm_u I5 0 7 0) 37 3 0) 37 2 0 30 0 = 0
    rw [pm_u_n _ _ _ (by decide), pm_u_n _ _ _ (by decide), pm_u_n _ _ _ (by decide), n1 30 (by decide)]; exact l5
  · show pm_u (pm_u (pm_u I5 0 7 0) 37 3 0) 37 2 0 37 2 = 0
    rw [pm_u_s]
  · show pm_u (pm_u (pm_u I5 0 7 0) 37 3 0) 37 2 0 37 3 = 0
    rw [pm_u_j _ _ _ (by decide), pm_u_s]
