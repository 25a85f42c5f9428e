/-! the law on a script of at most 6 ints: one call on fresh objects -/
abbrev Rfr : Nat → Nat → Value := Rlw (fun _ _ => .null)
abbrev Jfr : Nat → Nat → Int64 := Jlw (fun _ _ => 0) (fun _ _ => 0)
def p1_At (g : pmG) (pc rc rs : Nat) (y : Int32) (K : List (Nat × Nat)) (R : Nat → Nat → Value) (I : Nat → Nat → Int32) (J : Nat → Nat → Int64) : Prop := ∃ Z : pmM, pmE g kLw_law 1312 rc rs pc [(0, .retAddr 0), (1, .ref 0), (2, .ref 40), (3, .ref 356), (4, .int y)] [] K R I J (.returned (some (.int 1))) Z
theorem p1_fin {g : pmG} (h6 : g.2.2.2.2.2.1 = 6) (rc rs : Nat) (K : List (Nat × Nat)) (R : Nat → Nat → Value) (I : Nat → Nat → Int32) (J : Nat → Nat → Int64) : p1_At g 846 rc rs 0 K R I J := ⟨_, lw_next (lw_stop (by rw [h6]; decide) rfl rfl)⟩
theorem p1_in {g : pmG} (h6 : g.2.2.2.2.2.1 = 6) {y : Int32} (h : vp_in y 6) : vp_in y g.2.2.2.2.2.1 := by rw [h6]; exact h
theorem vp_16 : vp_in (0 + 1) 6 ∧ vp_in (0 + 2) 6 ∧ vp_in (0 + 3) 6 ∧ vp_in (0 + 4) 6 ∧ vp_in (0 + 5) 6 := ⟨vp_in_nI (n := 1) (by decide) (by decide), vp_in_nI (n := 2) (by decide) (by decide), vp_in_nI (n := 3) (by decide) (by decide), vp_in_nI (n := 4) (by decide) (by decide), vp_in_nI (n := 5) (by decide) (by decide)⟩
theorem hRB : pk_R (mk_B Rfr (Rfr 320)) := by rw [fr_B]; exact fr_pk _
theorem p1_0 {g : pmG} (ht : g.1.stackTraces = false) (h6 : g.2.2.2.2.2.1 = 6) : p1_At g 112 600666 7021767 0 (mk_K ++ [(4, 1)]) Rfr Ifr Jfr := by
  have h : p1_At g 112 600666 7021767 0 (mk_K ++ (4, 1) :: []) (mk_B Rfr (Rfr 320)) Ifr Jfr := by
    have f := Ch_feed_w (g.2.2.2.2.2.2 ((0 : Int32) + 1).toNatClampNeg) (g.2.2.2.2.2.2 ((0 : Int32) + 2).toNatClampNeg) (g.2.2.2.2.2.2 ((0 : Int32) + 3).toNatClampNeg) (g.2.2.2.2.2.2 ((0 : Int32) + 4).toNatClampNeg) (g.2.2.2.2.2.2 ((0 : Int32) + 5).toNatClampNeg) Ifr Jfr 0 fr_FC.2.1 (by decide)
    have z := fr_zM
    have t40 : (tA (g.2.2.2.2.2.2 ((0 : Int32) + 5).toNatClampNeg) (0 + 16) (tA (g.2.2.2.2.2.2 ((0 : Int32) + 4).toNatClampNeg) (0 + 12) (tA (g.2.2.2.2.2.2 ((0 : Int32) + 3).toNatClampNeg) (0 + 8) (tA (g.2.2.2.2.2.2 ((0 : Int32) + 2).toNatClampNeg) (0 + 4) (tA (g.2.2.2.2.2.2 ((0 : Int32) + 1).toNatClampNeg) 0 Ifr))))) 40 1 = nI 0 := by
      rw [tA_n _ _ _ (by decide) (by decide), tA_n _ _ _ (by decide) (by decide), tA_n _ _ _ (by decide) (by decide), tA_n _ _ _ (by decide) (by decide), tA_n _ _ _ (by decide) (by decide)]
      exact z 40 1 (by decide)
    have m := Mo_feed_w (g.2.2.2.2.2.2 ((0 : Int32) + 1).toNatClampNeg) (g.2.2.2.2.2.2 ((0 : Int32) + 2).toNatClampNeg) (g.2.2.2.2.2.2 ((0 : Int32) + 3).toNatClampNeg) (g.2.2.2.2.2.2 ((0 : Int32) + 4).toNatClampNeg) (g.2.2.2.2.2.2 ((0 : Int32) + 5).toNatClampNeg) _ 0 t40 (by decide)
    exact lq_0 (d := 1291) (rc := 600665) (rs := 7021761) (y := 0) (E := []) ht 21 (fr_mk _) hRB (p1_in h6 vp_16.1) (p1_in h6 vp_16.2.1) (p1_in h6 vp_16.2.2.1) (p1_in h6 vp_16.2.2.2.1) (p1_in h6 vp_16.2.2.2.2) f.1 (fun _ => by rw [f.2]; exact ⟨m.1, m.2.2, m.2.1.symm⟩) (fun h => by rw [f.2] at h; exact absurd h (by decide)) (Or.inl (by rw [f.2])) (fun _ _ _ _ => p1_fin h6 _ _ _ _ _ _)
  rw [fr_B] at h
  exact h
theorem p1_1 {g : pmG} (ht : g.1.stackTraces = false) (h6 : g.2.2.2.2.2.1 = 6) : p1_At g 216 600666 7021767 0 (mk_K ++ [(4, 1)]) Rfr Ifr Jfr := by
  have h : p1_At g 216 600666 7021767 0 (mk_K ++ (4, 1) :: []) (mk_B Rfr (Rfr 320)) Ifr Jfr := by
    have f := C_end (g.2.2.2.2.2.2 ((0 : Int32) + 1).toNatClampNeg) Ifr Jfr fr_FC.2.1
    have z := fr_zM
    have mm : ∀ (I9 : Nat → Nat → Int32) (E9 : List (Nat × Nat)), (∀ a, 40 ≤ a → I9 a = Ifr a) → pMo_end (g.2.2.2.2.2.2 ((0 : Int32) + 1).toNatClampNeg) I9 ∧ ((g.2.2.2.2.2.2 ((0 : Int32) + 1).toNatClampNeg) = 0 → (fMo_end (g.2.2.2.2.2.2 ((0 : Int32) + 1).toNatClampNeg) I9).1 = 0 ∧ (fMo_end (g.2.2.2.2.2.2 ((0 : Int32) + 1).toNatClampNeg) I9).2 40 2 = 0) ∧ (¬ (g.2.2.2.2.2.2 ((0 : Int32) + 1).toNatClampNeg) = 0 → (fMo_end (g.2.2.2.2.2.2 ((0 : Int32) + 1).toNatClampNeg) I9).2 40 2 = 1) := by
      intro I9 E9 hI
      have z40 : ∀ j, I9 40 j = 0 := fun j => by rw [hI 40 (by decide)]; exact z 40 j (by decide)
      have z64 : I9 64 0 = 0 := by rw [hI 64 (by decide)]; exact z 64 0 (by decide)
      exact M_end (g.2.2.2.2.2.2 ((0 : Int32) + 1).toNatClampNeg) I9 (z40 1)
    rcases f.2 with ⟨x0, fx⟩ | ⟨x0, fx⟩
    · have m := mm (pm_u Ifr 1 1 0) ((4, 1) :: []) (fun a ha => pm_u_n _ _ _ (by omega))
      exact lq_1 (d := 1291) (rc := 600665) (rs := 7021761) (y := 0) (E := []) ht  (fr_mk _) hRB (p1_in h6 vp_16.1) f.1 (fun _ => by rw [fx]; exact ⟨m.1, (m.2.1 x0).2, (m.2.1 x0).1.symm⟩) (fun h => by rw [fx] at h; exact absurd h (by decide)) (Or.inl (by rw [fx])) (fun _ _ _ _ => p1_fin h6 _ _ _ _ _ _)
    · have m := mm Ifr ((4, 1) :: ([] ++ [(0, 13)])) (fun _ _ => rfl)
      exact lq_1 (d := 1291) (rc := 600665) (rs := 7021761) (y := 0) (E := []) ht  (fr_mk _) hRB (p1_in h6 vp_16.1) f.1 (fun h => by rw [fx] at h; exact absurd h (by decide)) (fun _ => by rw [fx]; exact ⟨m.1, m.2.2 x0⟩) (Or.inr (by rw [fx])) (fun _ _ _ _ => p1_fin h6 _ _ _ _ _ _)
  rw [fr_B] at h
  exact h
theorem p1_11 {g : pmG} (ht : g.1.stackTraces = false) (h6 : g.2.2.2.2.2.1 = 6) : p1_At g 697 600666 7021767 0 (mk_K ++ [(4, 1)]) Rfr Ifr Jfr := by
  have h : p1_At g 697 600666 7021767 0 (mk_K ++ (4, 1) :: []) (mk_B Rfr (Rfr 320)) Ifr Jfr := by
    have f := C_go (g.2.2.2.2.2.2 ((0 : Int32) + 1).toNatClampNeg) Ifr Jfr fr_FC.2.2.2.2.2.1 fr_FC.2.2.2.2.1
    have z := fr_zM
    have mm : ∀ (I9 : Nat → Nat → Int32) (E9 : List (Nat × Nat)), (∀ a, 40 ≤ a → I9 a = Ifr a) → pMo_go (g.2.2.2.2.2.2 ((0 : Int32) + 1).toNatClampNeg) I9 ∧ ((g.2.2.2.2.2.2 ((0 : Int32) + 1).toNatClampNeg) = 0 → (fMo_go (g.2.2.2.2.2.2 ((0 : Int32) + 1).toNatClampNeg) I9).1 = 0 ∧ (fMo_go (g.2.2.2.2.2.2 ((0 : Int32) + 1).toNatClampNeg) I9).2 40 2 = 0) ∧ (¬ (g.2.2.2.2.2.2 ((0 : Int32) + 1).toNatClampNeg) = 0 → (fMo_go (g.2.2.2.2.2.2 ((0 : Int32) + 1).toNatClampNeg) I9).2 40 2 = 1) := by
      intro I9 E9 hI
      have z40 : ∀ j, I9 40 j = 0 := fun j => by rw [hI 40 (by decide)]; exact z 40 j (by decide)
      have z64 : I9 64 0 = 0 := by rw [hI 64 (by decide)]; exact z 64 0 (by decide)
      exact M_go (g.2.2.2.2.2.2 ((0 : Int32) + 1).toNatClampNeg) I9 (z40 27) (z40 46)
    rcases f.2 with ⟨x0, fx⟩ | ⟨x0, fx⟩
    · have m := mm (pm_u Ifr 0 7 0) ((4, 1) :: []) (fun a ha => pm_u_n _ _ _ (by omega))
      exact lq_11 (d := 1291) (rc := 600665) (rs := 7021761) (y := 0) (E := []) ht  (fr_mk _) hRB (p1_in h6 vp_16.1) f.1 (fun _ => by rw [fx]; exact ⟨m.1, (m.2.1 x0).2, (m.2.1 x0).1.symm⟩) (fun h => by rw [fx] at h; exact absurd h (by decide)) (Or.inl (by rw [fx])) (fun _ _ _ _ => p1_fin h6 _ _ _ _ _ _)
    · have m := mm Ifr ((4, 1) :: ([] ++ [(0, 13)])) (fun _ _ => rfl)
      exact lq_11 (d := 1291) (rc := 600665) (rs := 7021761) (y := 0) (E := []) ht  (fr_mk _) hRB (p1_in h6 vp_16.1) f.1 (fun h => by rw [fx] at h; exact absurd h (by decide)) (fun _ => by rw [fx]; exact ⟨m.1, m.2.2 x0⟩) (Or.inr (by rw [fx])) (fun _ _ _ _ => p1_fin h6 _ _ _ _ _ _)
  rw [fr_B] at h
  exact h
theorem p1_10 {g : pmG} (ht : g.1.stackTraces = false) (h6 : g.2.2.2.2.2.1 = 6) : p1_At g 641 600666 7021767 0 (mk_K ++ [(4, 1)]) Rfr Ifr Jfr := by
  have h : p1_At g 641 600666 7021767 0 (mk_K ++ (4, 1) :: []) (mk_B Rfr (Rfr 320)) Ifr Jfr := by
    have f := C_tick (g.2.2.2.2.2.2 ((0 : Int32) + 1).toNatClampNeg) Ifr Jfr fr_FC.2.2.2.2.2.2.1 fr_FC.2.2.2.2.1 fr_FC.1.2.2.2.1 fr_FC.2.2.2.2.2.2.2.2.1
    have z := fr_zM
    have mm : ∀ (I9 : Nat → Nat → Int32) (E9 : List (Nat × Nat)), (∀ a, 40 ≤ a → I9 a = Ifr a) → pMo_tick (g.2.2.2.2.2.2 ((0 : Int32) + 1).toNatClampNeg) I9 (Rfr 320) E9 ∧ ((g.2.2.2.2.2.2 ((0 : Int32) + 1).toNatClampNeg) = 0 → (fMo_tick (g.2.2.2.2.2.2 ((0 : Int32) + 1).toNatClampNeg) I9 (Rfr 320) E9).1 = 0 ∧ (fMo_tick (g.2.2.2.2.2.2 ((0 : Int32) + 1).toNatClampNeg) I9 (Rfr 320) E9).2 40 2 = 0) ∧ (¬ (g.2.2.2.2.2.2 ((0 : Int32) + 1).toNatClampNeg) = 0 → (fMo_tick (g.2.2.2.2.2.2 ((0 : Int32) + 1).toNatClampNeg) I9 (Rfr 320) E9).2 40 2 = 1) := by
      intro I9 E9 hI
      have z40 : ∀ j, I9 40 j = 0 := fun j => by rw [hI 40 (by decide)]; exact z 40 j (by decide)
      have z64 : I9 64 0 = 0 := by rw [hI 64 (by decide)]; exact z 64 0 (by decide)
      exact M_tick (g.2.2.2.2.2.2 ((0 : Int32) + 1).toNatClampNeg) I9 (Rfr 320) E9 (z40 28) (z40 46) (z64)
    rcases f.2 with ⟨x0, fx⟩ | ⟨x0, fx⟩
    · have m := mm (pm_u Ifr 0 7 0) ((4, 1) :: []) (fun a ha => pm_u_n _ _ _ (by omega))
      exact lq_10 (d := 1291) (rc := 600665) (rs := 7021761) (y := 0) (E := []) ht  (fr_mk _) hRB (p1_in h6 vp_16.1) f.1 (fun _ => by rw [fx]; exact ⟨m.1, (m.2.1 x0).2, (m.2.1 x0).1.symm⟩) (fun h => by rw [fx] at h; exact absurd h (by decide)) (Or.inl (by rw [fx])) (fun _ _ _ _ => p1_fin h6 _ _ _ _ _ _)
    · have m := mm Ifr ((4, 1) :: ([] ++ [(0, 13)])) (fun _ _ => rfl)
      exact lq_10 (d := 1291) (rc := 600665) (rs := 7021761) (y := 0) (E := []) ht  (fr_mk _) hRB (p1_in h6 vp_16.1) f.1 (fun h => by rw [fx] at h; exact absurd h (by decide)) (fun _ => by rw [fx]; exact ⟨m.1, m.2.2 x0⟩) (Or.inr (by rw [fx])) (fun _ _ _ _ => p1_fin h6 _ _ _ _ _ _)
  rw [fr_B] at h
  exact h
theorem p1_4 {g : pmG} (ht : g.1.stackTraces = false) (h6 : g.2.2.2.2.2.1 = 6) : p1_At g 310 600666 7021767 0 (mk_K ++ [(4, 1)]) Rfr Ifr Jfr := by
  have h : p1_At g 310 600666 7021767 0 (mk_K ++ (4, 1) :: []) (mk_B Rfr (Rfr 320)) Ifr Jfr := by
    have f := C_holds (g.2.2.2.2.2.2 ((0 : Int32) + 1).toNatClampNeg) Ifr Jfr fr_FC.1.2.1
    have m := M_holds (g.2.2.2.2.2.2 ((0 : Int32) + 1).toNatClampNeg) Ifr (Rfr 320) ((4, 1) :: ([] ++ [(0, 14)])) (fr_zM 40 26 (by decide))
    exact lq_4 (d := 1291) (rc := 600665) (rs := 7021761) (y := 0) (E := []) ht  (fr_mk _) hRB (p1_in h6 vp_16.1) f.1 (fun h => by rw [f.2] at h; exact absurd h (by decide)) (fun _ => m) (Or.inr (by rw [f.2])) (fun _ _ _ _ => p1_fin h6 _ _ _ _ _ _)
  rw [fr_B] at h
  exact h
theorem p1_5 {g : pmG} (ht : g.1.stackTraces = false) (h6 : g.2.2.2.2.2.1 = 6) : p1_At g 373 600666 7021767 0 (mk_K ++ [(4, 1)]) Rfr Ifr Jfr := by
  have h : p1_At g 373 600666 7021767 0 (mk_K ++ (4, 1) :: []) (mk_B Rfr (Rfr 320)) Ifr Jfr := by
    have f := C_states (g.2.2.2.2.2.2 ((0 : Int32) + 1).toNatClampNeg) Ifr Jfr fr_FC.1.2.1
    have m := M_states 1 (g.2.2.2.2.2.2 ((0 : Int32) + 1).toNatClampNeg) Ifr (Rfr 320) ((4, 1) :: ([] ++ [(0, 14)])) (fr_zM 40 26 (by decide))
    exact lq_5 (d := 1291) (rc := 600665) (rs := 7021761) (y := 0) (E := []) ht 1 (fr_mk _) hRB (p1_in h6 vp_16.1) f.1 (fun h => by rw [f.2] at h; exact absurd h (by decide)) (fun _ => m) (Or.inr (by rw [f.2])) (fun _ _ _ _ => p1_fin h6 _ _ _ _ _ _)
  rw [fr_B] at h
  exact h
theorem p1_6 {g : pmG} (ht : g.1.stackTraces = false) (h6 : g.2.2.2.2.2.1 = 6) : p1_At g 429 600666 7021767 0 (mk_K ++ [(4, 1)]) Rfr Ifr Jfr := by
  have h : p1_At g 429 600666 7021767 0 (mk_K ++ (4, 1) :: []) (mk_B Rfr (Rfr 320)) Ifr Jfr := by
    have f := C_at (g.2.2.2.2.2.2 ((0 : Int32) + 1).toNatClampNeg) (g.2.2.2.2.2.2 ((0 : Int32) + 2).toNatClampNeg) Ifr Jfr fr_FC.1.2.1
    have m := M_at (g.2.2.2.2.2.2 ((0 : Int32) + 1).toNatClampNeg) (g.2.2.2.2.2.2 ((0 : Int32) + 2).toNatClampNeg) Ifr (Rfr 320) ((4, 1) :: ([] ++ [(0, 14)])) (fr_zM 40 26 (by decide))
    exact lq_6 (d := 1291) (rc := 600665) (rs := 7021761) (y := 0) (E := []) ht  (fr_mk _) hRB (p1_in h6 vp_16.1) (p1_in h6 vp_16.2.1) f.1 (fun h => by rw [f.2] at h; exact absurd h (by decide)) (fun _ => m) (Or.inr (by rw [f.2])) (fun _ _ _ _ => p1_fin h6 _ _ _ _ _ _)
  rw [fr_B] at h
  exact h
theorem p1_8 {g : pmG} (ht : g.1.stackTraces = false) (h6 : g.2.2.2.2.2.1 = 6) : p1_At g 517 600666 7021767 0 (mk_K ++ [(4, 1)]) Rfr Ifr Jfr := by
  have h : p1_At g 517 600666 7021767 0 (mk_K ++ (4, 1) :: []) (mk_B Rfr (Rfr 320)) Ifr Jfr := by
    have f := C_trace (g.2.2.2.2.2.2 ((0 : Int32) + 1).toNatClampNeg) Ifr Jfr fr_FC.1.2.1
    have m := M_trace 1 1 1 1 1 1 (g.2.2.2.2.2.2 ((0 : Int32) + 1).toNatClampNeg) Ifr (Rfr 320) ((4, 1) :: ([] ++ [(0, 14)])) (fr_zM 40 26 (by decide))
    exact lq_8 (d := 1291) (rc := 600665) (rs := 7021761) (y := 0) (E := []) ht 1 1 1 1 1 1 (fr_mk _) hRB (p1_in h6 vp_16.1) f.1 (fun h => by rw [f.2] at h; exact absurd h (by decide)) (fun _ => by rw [f.2]; exact m) (Or.inr (by rw [f.2])) (fun _ _ _ _ => p1_fin h6 _ _ _ _ _ _)
  rw [fr_B] at h
  exact h
theorem p1_9 {g : pmG} (ht : g.1.stackTraces = false) (h6 : g.2.2.2.2.2.1 = 6) : p1_At g 573 600666 7021767 0 (mk_K ++ [(4, 1)]) Rfr Ifr Jfr := by
  have h : p1_At g 573 600666 7021767 0 (mk_K ++ (4, 1) :: []) (mk_B Rfr (Rfr 320)) Ifr Jfr := by
    have f := C_step (g.2.2.2.2.2.2 ((0 : Int32) + 1).toNatClampNeg) (g.2.2.2.2.2.2 ((0 : Int32) + 2).toNatClampNeg) Ifr Jfr fr_FC.2.2.2.2.2.2.2.2.2.2
    have m := M_step (g.2.2.2.2.2.2 ((0 : Int32) + 1).toNatClampNeg) (g.2.2.2.2.2.2 ((0 : Int32) + 2).toNatClampNeg) Ifr (Rfr 320) ((4, 1) :: ([] ++ [(0, 14)])) (fr_zM 40 52 (by decide))
    exact lq_9 (d := 1291) (rc := 600665) (rs := 7021761) (y := 0) (E := []) ht  (fr_mk _) hRB (p1_in h6 vp_16.1) (p1_in h6 vp_16.2.1) f.1 (fun h => by rw [f.2] at h; exact absurd h (by decide)) (fun _ => m) (fun h => by rw [f.2] at h; exact absurd h (by decide)) (Or.inr (Or.inl (by rw [f.2]))) (fun _ _ _ _ => p1_fin h6 _ _ _ _ _ _)
  rw [fr_B] at h
  exact h
theorem p1_12 {g : pmG} (ht : g.1.stackTraces = false) (h6 : g.2.2.2.2.2.1 = 6) : p1_At g 753 600666 7021767 0 (mk_K ++ [(4, 1)]) Rfr Ifr Jfr := by
  have h : p1_At g 753 600666 7021767 0 (mk_K ++ (4, 1) :: []) (mk_B Rfr (Rfr 320)) Ifr Jfr := by
    have f := C_value (g.2.2.2.2.2.2 ((0 : Int32) + 1).toNatClampNeg) (g.2.2.2.2.2.2 ((0 : Int32) + 2).toNatClampNeg) Ifr Jfr fr_FC.1.1
    have m := M_value2 (g.2.2.2.2.2.2 ((0 : Int32) + 1).toNatClampNeg) (g.2.2.2.2.2.2 ((0 : Int32) + 2).toNatClampNeg) Ifr (Rfr 320) ((4, 1) :: ([] ++ [(0, 14)])) (fr_zM 40 16 (by decide))
    exact lq_12 (d := 691) (rc := 600665) (rs := 7021761) (y := 0) (E := []) ht  (fr_mk _) hRB (p1_in h6 vp_16.1) (p1_in h6 vp_16.2.1) f.1 (fun h => by rw [f.2] at h; exact absurd h (by decide)) (fun _ => m) (fun h => by rw [f.2] at h; exact absurd h (by decide)) (Or.inr (Or.inl (by rw [f.2]))) (fun _ _ _ _ => p1_fin h6 _ _ _ _ _ _)
  rw [fr_B] at h
  exact h
theorem p1_3 {g : pmG} (ht : g.1.stackTraces = false) (h6 : g.2.2.2.2.2.1 = 6) : p1_At g 285 600666 7021767 0 (mk_K ++ [(4, 1)]) Rfr Ifr Jfr := by
  have h : p1_At g 285 600666 7021767 0 (mk_K ++ (4, 1) :: []) (mk_B Rfr (Rfr 320)) Ifr Jfr := by
    have f := CM_fault (g.2.2.2.2.2.2 ((0 : Int32) + 1).toNatClampNeg) Ifr Jfr fr_FC.2.2.1 fr_FC.2.2.2.1 (fr_zM 40 3 (by decide)) (fr_zM 40 4 (by decide))
    exact lq_3 (d := 1291) (rc := 600666) (rs := 7021767) (y := 0) (E := []) (fr_mk _) hRB (p1_in h6 vp_16.1) f.1 f.2.1 f.2.2 (p1_fin h6 _ _ _ _ _ _)
  rw [fr_B] at h
  exact h
theorem p1_7 {g : pmG} (ht : g.1.stackTraces = false) (h6 : g.2.2.2.2.2.1 = 6) : p1_At g 504 600666 7021767 0 (mk_K ++ [(4, 1)]) Rfr Ifr Jfr := by
  have h : p1_At g 504 600666 7021767 0 (mk_K ++ (4, 1) :: []) (mk_B Rfr (Rfr 320)) Ifr Jfr := by
    have m := M_reach Ifr (Rfr 320) ((4, 1) :: []) (fr_zM 40 27 (by decide)) (fr_zM 40 28 (by decide)) (fr_zM 40 47 (by decide)) (fr_zM 64 0 (by decide))
    exact lq_7 (d := 1291) (rc := 600666) (rs := 7021767) (y := 0) (E := []) 3 3 3 3 3 (fr_mk _) hRB trivial m.1 (fr_FC.2.2.2.2.2.2.2.1.trans m.2.symm) (p1_fin h6 _ _ _ _ _ _)
  rw [fr_B] at h
  exact h
theorem p1_13 {g : pmG} (ht : g.1.stackTraces = false) (h6 : g.2.2.2.2.2.1 = 6) : p1_At g 821 600666 7021767 0 (mk_K ++ [(4, 1)]) Rfr Ifr Jfr := by
  have h : p1_At g 821 600666 7021767 0 (mk_K ++ (4, 1) :: []) (mk_B Rfr (Rfr 320)) Ifr Jfr := by
    have z : ∀ j, Ifr 40 j = 0 := fun j => fr_zM 40 j (by decide)
    have f := CM_count (g.2.2.2.2.2.2 ((0 : Int32) + 1).toNatClampNeg) Ifr Jfr ⟨fr_FC.1.2.1.trans (z _).symm, fr_FC.1.1.trans (z _).symm, fr_FC.1.2.2.1.trans (z _).symm, fr_FC.1.2.2.2.1.trans (z _).symm, fr_FC.1.2.2.2.2.1.trans (z _).symm, fr_FC.2.1.trans (z _).symm, fr_FC.2.2.2.2.1.trans (z _).symm, fr_FC.2.2.2.2.2.2.2.2.2.1.trans (z _).symm⟩
    exact lq_13 (d := 1291) (rc := 600666) (rs := 7021767) (y := 0) (E := []) (fr_mk _) hRB (p1_in h6 vp_16.1) f.1 f.2.1 f.2.2 (p1_fin h6 _ _ _ _ _ _)
  rw [fr_B] at h
  exact h
theorem mk_R13 {R : Nat → Nat → Value} (h : mk_R R) (c : Value) : mk_R (pm_u R 13 8 c) := by
  refine ⟨fun q hq => ?_, fun i hi => ?_, fun i hi => ?_⟩
  · have hne : ∀ q ∈ mk_Rl, ¬ q.1 = 13 := by decide +kernel
    rw [pm_u_n _ _ _ (hne q hq)]
    exact h.1 q hq
  · rw [pm_u_n _ _ _ (by decide)]
    exact h.2.1 i hi
  · rw [pm_u_n _ _ _ (by decide)]
    exact h.2.2 i hi
theorem M_read0 (I : Nat → Nat → Int32) (B : Nat → Value) (E : List (Nat × Nat)) (h1 : I 40 1 = 0) : pMo_rdx I ∧ (fMo_rdx I).1 = 0 ∧ pMo_rdt (fMo_rdx I).2.2 B E ∧ (fMo_rdt (fMo_rdx I).2.2 B E).2.2 = E ∧ (fMo_rdt (fMo_rdx I).2.2 B E).2.1 = B ∧ rMo_rdt (fMo_rdt (fMo_rdx I).2.2 B E).1 = 0 := by
  obtain ⟨a1, a2, a3, -⟩ := M_rdx I h1
  have x3 : (fMo_rdx I).2.2 40 3 = 0 := by rw [a3 3 (by decide) (by decide) (by decide) (by decide)]; simp [iMo_rd0, fMo_clear, pm_u_s, pm_u_j]
  have x23 : (fMo_rdx I).2.2 40 23 = 0 := by rw [a3 23 (by decide) (by decide) (by decide) (by decide)]; simp [iMo_rd0, fMo_clear, pm_u_s, pm_u_j]
  have x24 : (fMo_rdx I).2.2 40 24 = 0 := by rw [a3 24 (by decide) (by decide) (by decide) (by decide)]; simp [iMo_rd0, fMo_clear, pm_u_s, pm_u_j]
  have x25 : (fMo_rdx I).2.2 40 25 = 0 := by rw [a3 25 (by decide) (by decide) (by decide) (by decide)]; simp [iMo_rd0, fMo_clear, pm_u_s, pm_u_j]
  have x26 : (fMo_rdx I).2.2 40 26 = 0 := by rw [a3 26 (by decide) (by decide) (by decide) (by decide)]; simp [iMo_rd0, fMo_clear, pm_u_s, pm_u_j]
  have x27 : (fMo_rdx I).2.2 40 27 = 0 := by rw [a3 27 (by decide) (by decide) (by decide) (by decide)]; simp [iMo_rd0, fMo_clear, pm_u_s, pm_u_j]
  have x28 : (fMo_rdx I).2.2 40 28 = 0 := by rw [a3 28 (by decide) (by decide) (by decide) (by decide)]; simp [iMo_rd0, fMo_clear, pm_u_s, pm_u_j]
  have x38 : (fMo_rdx I).2.2 40 38 = 0 := by rw [a3 38 (by decide) (by decide) (by decide) (by decide)]; simp [iMo_rd0, fMo_clear, pm_u_s, pm_u_j]
  refine ⟨a1, a2, ?_⟩
  clear a1 a2 a3
  generalize (fMo_rdx I).2.2 = X at x3 x23 x24 x25 x26 x27 x28 x38
  have e7 : ∀ j : Nat, j ≠ 1 → j ≠ 51 → j ≠ 52 → iMo_rd47 X 40 j = X 40 j := by
    intro j h1 h2 h3
    unfold iMo_rd47
    rw [pm_u_j _ _ _ h2, pm_u_j _ _ _ h3, pm_u_j _ _ _ h1]
  have e9 : ∀ j : Nat, j ≠ 1 → j ≠ 51 → j ≠ 52 → j ≠ 46 → j ≠ 47 → iMo_rd96 X 40 j = X 40 j := by
    intro j h1 h2 h3 h4 h5
    unfold iMo_rd96
    rw [pm_u_j _ _ _ h5, pm_u_j _ _ _ h4]
    exact e7 j h1 h2 h3
  have w := M_workOut (iMo_rd96 X) B E ((e9 23 (by decide) (by decide) (by decide) (by decide) (by decide)).trans x23) ((e9 24 (by decide) (by decide) (by decide) (by decide) (by decide)).trans x24) ((e9 25 (by decide) (by decide) (by decide) (by decide) (by decide)).trans x25) ((e9 27 (by decide) (by decide) (by decide) (by decide) (by decide)).trans x27) ((e9 28 (by decide) (by decide) (by decide) (by decide) (by decide)).trans x28) ((e9 38 (by decide) (by decide) (by decide) (by decide) (by decide)).trans x38)
  have c0 : (0 : Int32) ≤ 0 := by decide
  have pr : pMo_rdl (8 + 1) 0 0 (iMo_rd47 X) := by
    rw [pMo_rdl.eq_2, (e7 23 (by decide) (by decide) (by decide)).trans x23]
    exact ⟨fun _ => trivial, fun q => absurd c0 q⟩
  unfold pMo_rdt fMo_rdt rMo_rdt
  rw [w.2]
  refine ⟨⟨pr, w.1⟩, rfl, rfl, ?_⟩
  show (if (pm_u (iMo_rd96 X) 64 0 0) 40 3 ≤ 0 then (pm_u (iMo_rd96 X) 64 0 0) 40 26 else -1) = 0
  rw [pm_u_n _ _ _ (by decide), e9 3 (by decide) (by decide) (by decide) (by decide) (by decide), x3, if_pos c0, e9 26 (by decide) (by decide) (by decide) (by decide) (by decide), x26]
theorem p1_2 {g : pmG} (h6 : g.2.2.2.2.2.1 = 6) : p1_At g 272 600666 7021767 0 (mk_K ++ [(4, 1)]) Rfr Ifr Jfr := by
  have f := R0_read Ifr Jfr (Rfr 13 8) fr_FC.2.1
  have hW := Ch_read_ok g 645 (mk_K0 ++ [(4, 1)]) Rfr (fr_pk _) Ifr Jfr f.1
  rw [lw_K, f.2.1] at hW
  have hk := f.2.2
  generalize fCh_read Ifr Jfr (Rfr 13 8) = X at hW hk
  have m := M_read0 X.2.1 (pm_u Rfr 13 8 X.2.2.2 320) [(4, 1)] (by rw [hk 40 (by decide)]; exact fr_zM 40 1 (by decide))
  have hM := Mo_read_r g 435 (pm_u Rfr 13 8 X.2.2.2) (mk_R13 (fr_mk _) _) (pm_u Rfr 13 8 X.2.2.2 320) [(4, 1)] X.2.2.1 X.2.1 m.1 m.2.1 m.2.2.1 0 (by rw [m.2.2.2.1]; rfl)
  rw [fr_B, m.2.2.2.2.2] at hM
  obtain ⟨Z, hZ⟩ := p1_fin h6 600666 7021767 _ _ _ _
  exact ⟨Z, lw_c2 (d := 1311) (rc := 600666) (rs := 7021767) (t := 0) hW hM rfl (lw_k0 _) (lw_k40 _) (lw_k40 _) hZ⟩
theorem p1_all (g : pmG) (ht : g.1.stackTraces = false) (hL : g.2.2.2.2.2.1 ≤ 6) : ∃ Z : pmM, pmE g kLw_law 1312 601023 7293026 0 [(0, .retAddr 0)] [] [] (fun _ _ => .null) (fun _ _ => 0) (fun _ _ => 0) (.returned (some (.int 1))) Z := by
  have key : p1_At g 23 600666 7021767 0 (mk_K ++ [(4, 1)]) Rfr Ifr Jfr := by
    by_cases h6 : g.2.2.2.2.2.1 = 6
    · have hs : ¬ Int32.ofNat g.2.2.2.2.2.1 - 6 < 0 := by rw [h6]; decide
      have hin : vp_in 0 g.2.2.2.2.2.1 := by rw [h6]; exact vp_0 (by decide) (by decide)
      obtain ⟨k, hk, he⟩ := and15 (g.2.2.2.2.2.2 (0 : Int32).toNatClampNeg)
      have hk2 : k = 0 ∨ k = 1 ∨ k = 2 ∨ k = 3 ∨ k = 4 ∨ k = 5 ∨ k = 6 ∨ k = 7 ∨ k = 8 ∨ k = 9 ∨ k = 10 ∨ k = 11 ∨ k = 12 ∨ k = 13 ∨ k = 14 ∨ k = 15 := by omega
      rcases hk2 with rfl | rfl | rfl | rfl | rfl | rfl | rfl | rfl | rfl | rfl | rfl | rfl | rfl | rfl | rfl | rfl
      · exact Exists.imp (fun Z z => lw_s0 hs hin (he.trans (by decide)) z) (p1_0 ht h6)
      · exact Exists.imp (fun Z z => lw_s1 hs hin (he.trans (by decide)) z) (p1_1 ht h6)
      · exact Exists.imp (fun Z z => lw_s2 hs hin (he.trans (by decide)) z) (p1_2 h6)
      · exact Exists.imp (fun Z z => lw_s3 hs hin (he.trans (by decide)) z) (p1_3 ht h6)
      · exact Exists.imp (fun Z z => lw_s4 hs hin (he.trans (by decide)) z) (p1_4 ht h6)
      · exact Exists.imp (fun Z z => lw_s5 hs hin (he.trans (by decide)) z) (p1_5 ht h6)
      · exact Exists.imp (fun Z z => lw_s6 hs hin (he.trans (by decide)) z) (p1_6 ht h6)
      · exact Exists.imp (fun Z z => lw_s7 hs hin (he.trans (by decide)) z) (p1_7 ht h6)
      · exact Exists.imp (fun Z z => lw_s8 hs hin (he.trans (by decide)) z) (p1_8 ht h6)
      · exact Exists.imp (fun Z z => lw_s9 hs hin (he.trans (by decide)) z) (p1_9 ht h6)
      · exact Exists.imp (fun Z z => lw_s10 hs hin (he.trans (by decide)) z) (p1_10 ht h6)
      · exact Exists.imp (fun Z z => lw_s11 hs hin (he.trans (by decide)) z) (p1_11 ht h6)
      · exact Exists.imp (fun Z z => lw_s12 hs hin (he.trans (by decide)) z) (p1_12 ht h6)
      · exact Exists.imp (fun Z z => lw_s13 hs hin (he.trans (by decide)) z) (p1_13 ht h6)
      · exact Exists.imp (fun Z z => lw_sD hs hin (Or.inl (he.trans (by decide))) z) (p1_fin h6 600666 7021767 _ _ _ _)
      · exact Exists.imp (fun Z z => lw_sD hs hin (Or.inr (he.trans (by decide))) z) (p1_fin h6 600666 7021767 _ _ _ _)
    · have hk2 : g.2.2.2.2.2.1 = 0 ∨ g.2.2.2.2.2.1 = 1 ∨ g.2.2.2.2.2.1 = 2 ∨ g.2.2.2.2.2.1 = 3 ∨ g.2.2.2.2.2.1 = 4 ∨ g.2.2.2.2.2.1 = 5 := by omega
      exact ⟨_, lw_stop (by rcases hk2 with h | h | h | h | h | h <;> (rw [h]; decide)) rfl rfl⟩
  exact Exists.imp (fun Z z => lw_begin (d := 1304) (rc := 600666) (rs := 7021767) fr_p z) key
