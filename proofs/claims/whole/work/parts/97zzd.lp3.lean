/-! THE LOOP 3: read; the loop -/
theorem Iv_J2 {I : Mm} {J J' : Ml} {B : Nat → Value} {E : List (Nat × Nat)} (h : Iv I J B E) (j23 : J' 23 = J 23) (j34 : J' 34 = J 34) : Iv I J' B E := by
  obtain ⟨⟨co, Nm, rb, ib, sp, fi, Hn, D, SS, st, e, w, h1⟩, h2, h3⟩ := h
  exact ⟨⟨co, Nm, rb, ib, sp, fi, Hn, D, SS, st, e, w, Iw_c h1 (fun a ha => rfl) (fun j hj => rfl) j23 j34 h1.1.2.2.2.1 h1.2.1.2.2.2.2.2.2.2 h1.2.2.2.2.2.2.2.2.1⟩, h2, h3⟩
theorem mk_Bu (R : Nat → Nat → Value) (B : Nat → Value) (v : Value) : pm_u (mk_B R B) 13 8 v = mk_B (pm_u R 13 8 v) B := by
  funext a
  unfold mk_B
  by_cases c : a = 320
  · rw [if_pos c, pm_u_n _ _ _ (by omega), if_pos c]
  · rw [if_neg c]
    by_cases d : a = 13
    · rw [d, pm_u_a, pm_u_a, if_neg (by decide)]
    · rw [pm_u_n _ _ _ d, pm_u_n _ _ _ d, if_neg c]
theorem mk_Rne : ∀ q ∈ mk_Rl, q.1 ≠ 13 := by decide +kernel
theorem mk_Ru {R : Nat → Nat → Value} (h : mk_R R) (v : Value) : mk_R (pm_u R 13 8 v) := ⟨fun q hq => by
  rw [pm_u_n _ _ _ (mk_Rne q hq)]; exact h.1 q hq, fun i hi => by rw [pm_u_n _ _ _ (by decide)]; exact h.2.1 i hi, fun i hi => by rw [pm_u_n _ _ _ (by decide)]; exact h.2.2 i hi⟩
section
variable {g : pmG} {p rc rs rc' rs' : Nat} {E : List (Nat × Nat)} {R : Nat → Nat → Value} {B : Nat → Value} {I : Mm} {J : Ml}
theorem L_2 (ih : LH g (p + 6) rc rs) (hR : mk_R R) (hk : pk_R (mk_B R B)) (h : Iv I J B ((4, 1) :: E)) (h1 : rc + 2 + 4200 ≤ rc' + nnB B 4200) (h2 : rs + 16 + 1075200 ≤ rs' + 256 * nnB B 4200) (hs : ¬ Int32.ofNat g.2.2.2.2.2.1 - 6 < nI p) (hin : vp_in (nI p) g.2.2.2.2.2.1) (hc : g.2.2.2.2.2.2 (nI p).toNatClampNeg &&& 15 = 2) : LG g p rc' rs' E R B I J := by
  have nb := nnB_le B 4200
  obtain ⟨k1, k2, k3⟩ := rd_both h (mk_B R B 13 8)
  have hW := Ch_read_ok g 645 (mk_K0 ++ (4, 1) :: E) _ hk I J k1
  rw [lw_K, mk_Bu] at hW
  generalize (fCh_read I J (mk_B R B 13 8)).2.2.2 = c' at hW
  have hR' := mk_Ru hR c'
  have hk' : pk_R (mk_B (pm_u R 13 8 c') B) := by rw [← mk_Bu]; exact pk_Ru hk c'
  rcases k3 with ⟨q1, q2, I', B', X, q3, q4, q5, q6, q7⟩ | ⟨q1, q2, q3, I', B', X, q4, q5, q6, q7, q8⟩
  · have nb' := nnB_le B' 4200
    have hM := Mo_read_r g 435 _ hR' B ((4, 1) :: E) (fCh_read I J (mk_B R B 13 8)).2.2.1 (fCh_read I J (mk_B R B 13 8)).2.1 k2 q1 q2 X.length (by rw [q3]; show (((4, 1) :: E) ++ X).length = _; rw [List.length_append])
    rw [q3] at hM
    dsimp only at hM
    rw [List.cons_append] at hM q5
    obtain ⟨rc1, rfl⟩ : ∃ rc1, rc' = rc1 + X.length + 0 := ⟨rc' - X.length, by omega⟩
    obtain ⟨rs1, rfl⟩ : ∃ rs1, rs' = rs1 + 256 * X.length + 0 := ⟨rs' - 256 * X.length, by omega⟩
    have hk2 : pk_R (mk_B (pm_u R 13 8 c') B') := by
      intro w hw
      have := hk' w hw
      have lt := lw_rl w hw
      unfold mk_B at this ⊢
      rw [if_neg (by omega)] at this ⊢
      exact this
    obtain ⟨Z, hz⟩ := L_nx (p := p) (rc' := rc1) (rs' := rs1) ih hR' hk2 q5 (by omega) (by omega)
    exact ⟨Z, lw_s2 hs hin hc (lw_c2 (d := 1311) (rc := rc1) (rs := rs1) (kx := (fCh_read I J (mk_B R B 13 8)).1) (b := rMo_rdt I') (t := 0) hW hM q4 (lw_k0 _) (lw_k40 _) (lw_k40 _) hz)⟩
  · have nb' := nnB_le B' 4200
    have hn9 := mk_len ((4, 1) :: E)
    have hM := Mo_read_t g 435 _ hR' B ((4, 1) :: E) (fCh_read I J (mk_B R B 13 8)).2.2.1 (fCh_read I J (mk_B R B 13 8)).2.1 _ rfl k2 q1 q2 q3 X.length (by rw [q4]; show ((((4, 1) :: E) ++ [(0, 11)]) ++ X).length = _; rw [List.length_append])
    rw [q4] at hM
    dsimp only at hM
    rw [List.append_assoc, List.cons_append] at hM q6
    obtain ⟨rc1, rfl⟩ : ∃ rc1, rc' = rc1 + (X.length + 1) + 0 := ⟨rc' - (X.length + 1), by omega⟩
    obtain ⟨rs1, rfl⟩ : ∃ rs1, rs' = rs1 + (256 * X.length + 8) + 0 := ⟨rs' - (256 * X.length + 8), by omega⟩
    have hk2 : pk_R (mk_B (pm_z (pm_u R 13 8 c') (mk_K ++ (4, 1) :: E).length .null) B') := by
      intro w hw
      have := hk' w hw
      have lt := lw_rl w hw
      unfold mk_B at this ⊢
      rw [if_neg (by omega)] at this ⊢
      rw [pm_z_n _ _ (by omega)]
      exact this
    obtain ⟨Z, hz⟩ := L_nx (p := p) (rc' := rc1) (rs' := rs1) (J := pm_z (fCh_read I J (mk_B R B 13 8)).2.2.1 (mk_K ++ (4, 1) :: E).length 0) ih (mk_Rz hR' hn9) hk2 (Iv_J2 q6 (pm_z_n _ _ (by omega)) (pm_z_n _ _ (by omega))) (by omega) (by omega)
    exact ⟨Z, lw_s2 hs hin hc (lw_c2 (d := 1311) (rc := rc1) (rs := rs1) (kx := (fCh_read I J (mk_B R B 13 8)).1) (b := rMo_rdt I') (t := 0) hW hM q5 (lw_k0 _) (lw_k40 _) (lw_k40 _) hz)⟩
end
