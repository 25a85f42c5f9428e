/-! THE LOOP 4: to its end -/
theorem and_15 (x : Int32) : ∃ j, j < 16 ∧ x &&& 15 = nI j := by
  have h : x &&& 15 = nI (x.toBitVec.toNat % 2 ^ 4) := pk_and (m := 15) x 4 (by decide)
  exact ⟨_, Nat.mod_lt _ (by decide), h⟩
theorem i_m6 {L : Nat} (h : 6 ≤ L) : nI L - 6 = nI (L - 6) := by
  have e : nI L = nI (L - 6) + 6 := by
    show _ = nI (L - 6) + nI 6
    rw [nI_add, show L - 6 + 6 = L by omega]
  rw [e, Int32.add_sub_cancel]
theorem st_y {L p : Nat} (hL : L ≤ 3072) (hp : p ≤ 4000) (h : L < p + 6) : Int32.ofNat L - 6 < nI p := by
  by_cases c : 6 ≤ L
  · have e : Int32.ofNat L - 6 = nI (L - 6) := i_m6 c
    rw [e]
    exact Int32.not_le.mp (nI_ge (by omega) (by omega))
  · have e : Int32.ofNat L - 6 < 0 := (show ∀ L, L < 6 → Int32.ofNat L - 6 < 0 by decide +kernel) L (by omega)
    exact Int32.lt_of_lt_of_le e (nI_le (a := 0) (Nat.zero_le p) (by omega))
theorem st_n {L p : Nat} (hL : L ≤ 3072) (h : p + 6 ≤ L) : ¬ Int32.ofNat L - 6 < nI p := by
  have e : Int32.ofNat L - 6 = nI (L - 6) := i_m6 (by omega)
  rw [e]
  exact Int32.not_lt.mpr (nI_le (by omega) (by omega))
theorem L_all {g : pmG} (ht : g.1.stackTraces = false) (hL : g.2.2.2.2.2.1 ≤ 3072) : ∀ r p, g.2.2.2.2.2.1 < p + 6 * r + 6 → p ≤ 3072 + 6 → LH g p (2 * r) (16 * r) := by
  intro r
  induction r with
  | zero =>
    intro p hp hp2 E R B I J rc' rs' hR hk h h1 h2
    exact ⟨_, lw_stop (st_y hL (by omega) (by omega)) rfl rfl⟩
  | succ r ih =>
    intro p hp hp2 E R B I J rc' rs' hR hk h h1 h2
    by_cases c : g.2.2.2.2.2.1 < p + 6
    · exact ⟨_, lw_stop (st_y hL (by omega) c) rfl rfl⟩
    · have hs := st_n hL (show p + 6 ≤ g.2.2.2.2.2.1 by omega)
      have hin : vp_in (nI p) g.2.2.2.2.2.1 := vp_in_nI (by omega) (by omega)
      have v : ∀ j, j < 6 → vp_in (nI (p + j)) g.2.2.2.2.2.1 := fun j hj => vp_in_nI (by omega) (by omega)
      have v1 : vp_in (nI p + 1) g.2.2.2.2.2.1 := by
        have e : nI p + 1 = nI (p + 1) := nI_add p 1
        rw [e]; exact v 1 (by decide)
      have v2 : vp_in (nI p + 2) g.2.2.2.2.2.1 := by
        have e : nI p + 2 = nI (p + 2) := nI_add p 2
        rw [e]; exact v 2 (by decide)
      have v3 : vp_in (nI p + 3) g.2.2.2.2.2.1 := by
        have e : nI p + 3 = nI (p + 3) := nI_add p 3
        rw [e]; exact v 3 (by decide)
      have v4 : vp_in (nI p + 4) g.2.2.2.2.2.1 := by
        have e : nI p + 4 = nI (p + 4) := nI_add p 4
        rw [e]; exact v 4 (by decide)
      have v5 : vp_in (nI p + 5) g.2.2.2.2.2.1 := by
        have e : nI p + 5 = nI (p + 5) := nI_add p 5
        rw [e]; exact v 5 (by decide)
      have ihp := ih (p + 6) (by omega) (by omega)
      have r1 : 2 * r + 2 + 4200 ≤ rc' + nnB B 4200 := by omega
      have r2 : 16 * r + 16 + 1075200 ≤ rs' + 256 * nnB B 4200 := by omega
      obtain ⟨j, j1, hc⟩ := and_15 (g.2.2.2.2.2.2 (nI p).toNatClampNeg)
      rcases (show j = 0 ∨ j = 1 ∨ j = 2 ∨ j = 3 ∨ j = 4 ∨ j = 5 ∨ j = 6 ∨ j = 7 ∨ j = 8 ∨ j = 9 ∨ j = 10 ∨ j = 11 ∨ j = 12 ∨ j = 13 ∨ j = 14 ∨ j = 15 by omega) with rfl | rfl | rfl | rfl | rfl | rfl | rfl | rfl | rfl | rfl | rfl | rfl | rfl | rfl | rfl | rfl
      · exact L_0 ht ihp hR hk h r1 r2 hs hin v1 v2 v3 v4 v5 hc
      · exact L_1 ht ihp hR hk h r1 r2 hs hin v1 hc
      · exact L_2 ihp hR hk h r1 r2 hs hin hc
      · exact L_3 ht ihp hR hk h r1 r2 hs hin v1 hc
      · exact L_4 ht ihp hR hk h r1 r2 hs hin v1 hc
      · exact L_5 ht ihp hR hk h r1 r2 hs hin v1 hc
      · exact L_6 ht ihp hR hk h r1 r2 hs hin v1 v2 hc
      · exact L_7 ht ihp hR hk h r1 r2 hs hin hc
      · exact L_8 ht ihp hR hk h r1 r2 hs hin v1 hc
      · exact L_9 ht ihp hR hk h r1 r2 hs hin v1 v2 hc
      · exact L_10 ht ihp hR hk h r1 r2 hs hin v1 hc
      · exact L_11 ht ihp hR hk h r1 r2 hs hin v1 hc
      · exact L_12 ht ihp hR hk h r1 r2 hs hin v1 v2 hc
      · exact L_13 ht ihp hR hk h r1 r2 hs hin v1 hc
      · obtain ⟨Z, hz⟩ := L_nx (rc' := rc') (rs' := rs') ihp hR hk h (by omega) (by omega)
        exact ⟨Z, lw_sD hs hin (Or.inl hc) hz⟩
      · obtain ⟨Z, hz⟩ := L_nx (rc' := rc') (rs' := rs') ihp hR hk h (by omega) (by omega)
        exact ⟨Z, lw_sD hs hin (Or.inr hc) hz⟩
