/-! THE LOOP 2: the calls -/
section
variable {g : pmG} {p rc rs rc' rs' : Nat} {E : List (Nat × Nat)} {R : Nat → Nat → Value} {B : Nat → Value} {I : Mm} {J : Ml}
theorem L_4 (ht : g.1.stackTraces = false) (ih : LH g (p + 6) rc rs) (hR : mk_R R) (hk : pk_R (mk_B R B)) (h : Iv I J B ((4, 1) :: E)) (h1 : rc + 2 + 4200 ≤ rc' + nnB B 4200) (h2 : rs + 16 + 1075200 ≤ rs' + 256 * nnB B 4200) (hs : ¬ Int32.ofNat g.2.2.2.2.2.1 - 6 < nI p) (hin : vp_in (nI p) g.2.2.2.2.2.1) (v1 : vp_in (nI p + 1) g.2.2.2.2.2.1) (hc : g.2.2.2.2.2.2 (nI p).toNatClampNeg &&& 15 = 4) : LG g p rc' rs' E R B I J := by
  have nb := nnB_le B 4200
  obtain ⟨rc1, rfl⟩ : ∃ rc1, rc' = rc1 + 1 := ⟨rc' - 1, by omega⟩
  obtain ⟨rs1, rfl⟩ : ∃ rs1, rs' = rs1 + 6 := ⟨rs' - 6, by omega⟩
  obtain ⟨k1, k2⟩ := k_holds h (g.2.2.2.2.2.2 (nI p + 1).toNatClampNeg)
  have key := lq_4 (d := 1291) (rc := rc1) (rs := rs1) (o := .returned (some (.int 1))) (E := E) ht  hR hk v1 k1 (fun e => by
    rcases k2 with ⟨q0, q⟩ | ⟨q0, q⟩
    · exact ⟨(q _).1, (q _).2.1, (q _).2.2.1⟩
    · rw [q0] at e; cases e) (fun e => by
    rcases k2 with ⟨q0, q⟩ | ⟨q0, q⟩
    · rw [q0] at e; cases e
    · exact ⟨(q _).1, (q _).2.1⟩) (by
    rcases k2 with ⟨q0, q⟩ | ⟨q0, q⟩
    · exact Or.inl q0
    · exact Or.inr q0) (fun E' J' hE hJ => L_nx ih hR hk (Iv_6 (Iv_lw h hE hJ) (by
    rcases k2 with ⟨q0, q⟩ | ⟨q0, q⟩
    · exact (q _).2.2.2
    · exact (q _).2.2)) (by omega) (by omega))
  obtain ⟨Z, hz⟩ := key
  exact ⟨Z, lw_s4 hs hin hc hz⟩
theorem L_5 (ht : g.1.stackTraces = false) (ih : LH g (p + 6) rc rs) (hR : mk_R R) (hk : pk_R (mk_B R B)) (h : Iv I J B ((4, 1) :: E)) (h1 : rc + 2 + 4200 ≤ rc' + nnB B 4200) (h2 : rs + 16 + 1075200 ≤ rs' + 256 * nnB B 4200) (hs : ¬ Int32.ofNat g.2.2.2.2.2.1 - 6 < nI p) (hin : vp_in (nI p) g.2.2.2.2.2.1) (v1 : vp_in (nI p + 1) g.2.2.2.2.2.1) (hc : g.2.2.2.2.2.2 (nI p).toNatClampNeg &&& 15 = 5) : LG g p rc' rs' E R B I J := by
  have nb := nnB_le B 4200
  obtain ⟨rc1, rfl⟩ : ∃ rc1, rc' = rc1 + 1 := ⟨rc' - 1, by omega⟩
  obtain ⟨rs1, rfl⟩ : ∃ rs1, rs' = rs1 + 6 := ⟨rs' - 6, by omega⟩
  obtain ⟨k1, k2⟩ := k_states h (g.2.2.2.2.2.2 (nI p + 1).toNatClampNeg)
  have key := lq_5 (d := 1291) (rc := rc1) (rs := rs1) (o := .returned (some (.int 1))) (E := E) ht 257 hR hk v1 k1 (fun e => by
    rcases k2 with ⟨q0, q⟩ | ⟨q0, q⟩
    · exact ⟨(q _).1, (q _).2.1, (q _).2.2.1⟩
    · rw [q0] at e; cases e) (fun e => by
    rcases k2 with ⟨q0, q⟩ | ⟨q0, q⟩
    · rw [q0] at e; cases e
    · exact ⟨(q _).1, (q _).2.1⟩) (by
    rcases k2 with ⟨q0, q⟩ | ⟨q0, q⟩
    · exact Or.inl q0
    · exact Or.inr q0) (fun E' J' hE hJ => L_nx ih hR hk (Iv_6 (Iv_lw h hE hJ) (by
    rcases k2 with ⟨q0, q⟩ | ⟨q0, q⟩
    · exact (q _).2.2.2
    · exact (q _).2.2)) (by omega) (by omega))
  obtain ⟨Z, hz⟩ := key
  exact ⟨Z, lw_s5 hs hin hc hz⟩
theorem L_6 (ht : g.1.stackTraces = false) (ih : LH g (p + 6) rc rs) (hR : mk_R R) (hk : pk_R (mk_B R B)) (h : Iv I J B ((4, 1) :: E)) (h1 : rc + 2 + 4200 ≤ rc' + nnB B 4200) (h2 : rs + 16 + 1075200 ≤ rs' + 256 * nnB B 4200) (hs : ¬ Int32.ofNat g.2.2.2.2.2.1 - 6 < nI p) (hin : vp_in (nI p) g.2.2.2.2.2.1) (v1 : vp_in (nI p + 1) g.2.2.2.2.2.1) (v2 : vp_in (nI p + 2) g.2.2.2.2.2.1) (hc : g.2.2.2.2.2.2 (nI p).toNatClampNeg &&& 15 = 6) : LG g p rc' rs' E R B I J := by
  have nb := nnB_le B 4200
  obtain ⟨rc1, rfl⟩ : ∃ rc1, rc' = rc1 + 1 := ⟨rc' - 1, by omega⟩
  obtain ⟨rs1, rfl⟩ : ∃ rs1, rs' = rs1 + 6 := ⟨rs' - 6, by omega⟩
  obtain ⟨k1, k2⟩ := k_at h (g.2.2.2.2.2.2 (nI p + 1).toNatClampNeg) (g.2.2.2.2.2.2 (nI p + 2).toNatClampNeg)
  have key := lq_6 (d := 1291) (rc := rc1) (rs := rs1) (o := .returned (some (.int 1))) (E := E) ht  hR hk v1 v2 k1 (fun e => by
    rcases k2 with ⟨q0, q⟩ | ⟨q0, q⟩
    · exact ⟨(q _).1, (q _).2.1, (q _).2.2.1⟩
    · rw [q0] at e; cases e) (fun e => by
    rcases k2 with ⟨q0, q⟩ | ⟨q0, q⟩
    · rw [q0] at e; cases e
    · exact ⟨(q _).1, (q _).2.1⟩) (by
    rcases k2 with ⟨q0, q⟩ | ⟨q0, q⟩
    · exact Or.inl q0
    · exact Or.inr q0) (fun E' J' hE hJ => L_nx ih hR hk (Iv_6 (Iv_lw h hE hJ) (by
    rcases k2 with ⟨q0, q⟩ | ⟨q0, q⟩
    · exact (q _).2.2.2
    · exact (q _).2.2)) (by omega) (by omega))
  obtain ⟨Z, hz⟩ := key
  exact ⟨Z, lw_s6 hs hin hc hz⟩
theorem L_9 (ht : g.1.stackTraces = false) (ih : LH g (p + 6) rc rs) (hR : mk_R R) (hk : pk_R (mk_B R B)) (h : Iv I J B ((4, 1) :: E)) (h1 : rc + 2 + 4200 ≤ rc' + nnB B 4200) (h2 : rs + 16 + 1075200 ≤ rs' + 256 * nnB B 4200) (hs : ¬ Int32.ofNat g.2.2.2.2.2.1 - 6 < nI p) (hin : vp_in (nI p) g.2.2.2.2.2.1) (v1 : vp_in (nI p + 1) g.2.2.2.2.2.1) (v2 : vp_in (nI p + 2) g.2.2.2.2.2.1) (hc : g.2.2.2.2.2.2 (nI p).toNatClampNeg &&& 15 = 9) : LG g p rc' rs' E R B I J := by
  have nb := nnB_le B 4200
  obtain ⟨rc1, rfl⟩ : ∃ rc1, rc' = rc1 + 1 := ⟨rc' - 1, by omega⟩
  obtain ⟨rs1, rfl⟩ : ∃ rs1, rs' = rs1 + 6 := ⟨rs' - 6, by omega⟩
  obtain ⟨k1, k2⟩ := k_step h (g.2.2.2.2.2.2 (nI p + 1).toNatClampNeg) (g.2.2.2.2.2.2 (nI p + 2).toNatClampNeg)
  have key := lq_9 (d := 1291) (rc := rc1) (rs := rs1) (o := .returned (some (.int 1))) (E := E) ht  hR hk v1 v2 k1 (fun e => by
    rcases k2 with ⟨q0, q⟩ | ⟨q0, q⟩ | ⟨q0, q⟩
    · exact ⟨(q _).1, (q _).2.1, (q _).2.2.1⟩
    · rw [q0] at e; cases e
    · rw [q0] at e; cases e) (fun e => by
    rcases k2 with ⟨q0, q⟩ | ⟨q0, q⟩ | ⟨q0, q⟩
    · rw [q0] at e; cases e
    · exact ⟨(q _).1, (q _).2.1⟩
    · rw [q0] at e; cases e) (fun e => by
    rcases k2 with ⟨q0, q⟩ | ⟨q0, q⟩ | ⟨q0, q⟩
    · rw [q0] at e; cases e
    · rw [q0] at e; cases e
    · exact ⟨(q _).1, (q _).2.1⟩) (by
    rcases k2 with ⟨q0, q⟩ | ⟨q0, q⟩ | ⟨q0, q⟩
    · exact Or.inl q0
    · exact Or.inr (Or.inl q0)
    · exact Or.inr (Or.inr q0)) (fun E' J' hE hJ => L_nx ih hR hk (Iv_6 (Iv_lw h hE hJ) (by
    rcases k2 with ⟨q0, q⟩ | ⟨q0, q⟩ | ⟨q0, q⟩
    · exact (q _).2.2.2
    · exact (q _).2.2
    · exact (q _).2.2)) (by omega) (by omega))
  obtain ⟨Z, hz⟩ := key
  exact ⟨Z, lw_s9 hs hin hc hz⟩
theorem L_12 (ht : g.1.stackTraces = false) (ih : LH g (p + 6) rc rs) (hR : mk_R R) (hk : pk_R (mk_B R B)) (h : Iv I J B ((4, 1) :: E)) (h1 : rc + 2 + 4200 ≤ rc' + nnB B 4200) (h2 : rs + 16 + 1075200 ≤ rs' + 256 * nnB B 4200) (hs : ¬ Int32.ofNat g.2.2.2.2.2.1 - 6 < nI p) (hin : vp_in (nI p) g.2.2.2.2.2.1) (v1 : vp_in (nI p + 1) g.2.2.2.2.2.1) (v2 : vp_in (nI p + 2) g.2.2.2.2.2.1) (hc : g.2.2.2.2.2.2 (nI p).toNatClampNeg &&& 15 = 12) : LG g p rc' rs' E R B I J := by
  have nb := nnB_le B 4200
  obtain ⟨rc1, rfl⟩ : ∃ rc1, rc' = rc1 + 1 := ⟨rc' - 1, by omega⟩
  obtain ⟨rs1, rfl⟩ : ∃ rs1, rs' = rs1 + 6 := ⟨rs' - 6, by omega⟩
  obtain ⟨k1, k2⟩ := k_value h (g.2.2.2.2.2.2 (nI p + 1).toNatClampNeg) (g.2.2.2.2.2.2 (nI p + 2).toNatClampNeg)
  have key := lq_12 (d := 691) (rc := rc1) (rs := rs1) (o := .returned (some (.int 1))) (E := E) ht  hR hk v1 v2 k1 (fun e => by
    rcases k2 with ⟨q0, q⟩ | ⟨q0, q⟩ | ⟨q0, q⟩
    · exact ⟨(q _).1, (q _).2.1, (q _).2.2.1⟩
    · rw [q0] at e; cases e
    · rw [q0] at e; cases e) (fun e => by
    rcases k2 with ⟨q0, q⟩ | ⟨q0, q⟩ | ⟨q0, q⟩
    · rw [q0] at e; cases e
    · exact ⟨(q _).1, (q _).2.1⟩
    · rw [q0] at e; cases e) (fun e => by
    rcases k2 with ⟨q0, q⟩ | ⟨q0, q⟩ | ⟨q0, q⟩
    · rw [q0] at e; cases e
    · rw [q0] at e; cases e
    · exact ⟨(q _).1, (q _).2.1⟩) (by
    rcases k2 with ⟨q0, q⟩ | ⟨q0, q⟩ | ⟨q0, q⟩
    · exact Or.inl q0
    · exact Or.inr (Or.inl q0)
    · exact Or.inr (Or.inr q0)) (fun E' J' hE hJ => L_nx ih hR hk (Iv_6 (Iv_lw h hE hJ) (by
    rcases k2 with ⟨q0, q⟩ | ⟨q0, q⟩ | ⟨q0, q⟩
    · exact (q _).2.2.2
    · exact (q _).2.2
    · exact (q _).2.2)) (by omega) (by omega))
  obtain ⟨Z, hz⟩ := key
  exact ⟨Z, lw_s12 hs hin hc hz⟩
theorem L_8 (ht : g.1.stackTraces = false) (ih : LH g (p + 6) rc rs) (hR : mk_R R) (hk : pk_R (mk_B R B)) (h : Iv I J B ((4, 1) :: E)) (h1 : rc + 2 + 4200 ≤ rc' + nnB B 4200) (h2 : rs + 16 + 1075200 ≤ rs' + 256 * nnB B 4200) (hs : ¬ Int32.ofNat g.2.2.2.2.2.1 - 6 < nI p) (hin : vp_in (nI p) g.2.2.2.2.2.1) (v1 : vp_in (nI p + 1) g.2.2.2.2.2.1) (hc : g.2.2.2.2.2.2 (nI p).toNatClampNeg &&& 15 = 8) : LG g p rc' rs' E R B I J := by
  have nb := nnB_le B 4200
  obtain ⟨rc1, rfl⟩ : ∃ rc1, rc' = rc1 + 1 := ⟨rc' - 1, by omega⟩
  obtain ⟨rs1, rfl⟩ : ∃ rs1, rs' = rs1 + 6 := ⟨rs' - 6, by omega⟩
  obtain ⟨k1, k2, k3⟩ := k_trace h (N := 256002) (Nat.le_refl _) (g.2.2.2.2.2.2 (nI p + 1).toNatClampNeg)
  have key := lq_8 (d := 1291) (rc := rc1) (rs := rs1) (o := .returned (some (.int 1))) (E := E) ht 9 257 9 258 256002 257 hR hk v1 k1 (fun e => by
    rcases k2 with ⟨q0, q⟩ | ⟨q0, q⟩
    · exact q _
    · rw [q0] at e; cases e) (fun e => by
    rcases k2 with ⟨q0, q⟩ | ⟨q0, q⟩
    · rw [q0] at e; cases e
    · exact q _) (by
    rcases k2 with ⟨q0, q⟩ | ⟨q0, q⟩
    · exact Or.inl q0
    · exact Or.inr q0) (fun E' J' hE hJ => L_nx ih hR hk (Iv_lw (k3 _) hE hJ) (by omega) (by omega))
  obtain ⟨Z, hz⟩ := key
  exact ⟨Z, lw_s8 hs hin hc hz⟩
theorem L_10 (ht : g.1.stackTraces = false) (ih : LH g (p + 6) rc rs) (hR : mk_R R) (hk : pk_R (mk_B R B)) (h : Iv I J B ((4, 1) :: E)) (h1 : rc + 2 + 4200 ≤ rc' + nnB B 4200) (h2 : rs + 16 + 1075200 ≤ rs' + 256 * nnB B 4200) (hs : ¬ Int32.ofNat g.2.2.2.2.2.1 - 6 < nI p) (hin : vp_in (nI p) g.2.2.2.2.2.1) (v1 : vp_in (nI p + 1) g.2.2.2.2.2.1) (hc : g.2.2.2.2.2.2 (nI p).toNatClampNeg &&& 15 = 10) : LG g p rc' rs' E R B I J := by
  have nb := nnB_le B 4200
  obtain ⟨rc1, rfl⟩ : ∃ rc1, rc' = rc1 + 1 := ⟨rc' - 1, by omega⟩
  obtain ⟨rs1, rfl⟩ : ∃ rs1, rs' = rs1 + 6 := ⟨rs' - 6, by omega⟩
  obtain ⟨k1, k2, k3⟩ := k_tick h (g.2.2.2.2.2.2 (nI p + 1).toNatClampNeg)
  have key := lq_10 (d := 1291) (rc := rc1) (rs := rs1) (o := .returned (some (.int 1))) (E := E) ht  hR hk v1 k1 (fun e => by
    rcases k2 with ⟨q0, q⟩ | ⟨q0, q⟩
    · exact q _
    · rw [q0] at e; cases e) (fun e => by
    rcases k2 with ⟨q0, q⟩ | ⟨q0, q⟩
    · rw [q0] at e; cases e
    · exact q _) (by
    rcases k2 with ⟨q0, q⟩ | ⟨q0, q⟩
    · exact Or.inl q0
    · exact Or.inr q0) (fun E' J' hE hJ => L_nx ih hR hk (Iv_lw (k3 _) hE hJ) (by omega) (by omega))
  obtain ⟨Z, hz⟩ := key
  exact ⟨Z, lw_s10 hs hin hc hz⟩
theorem L_0 (ht : g.1.stackTraces = false) (ih : LH g (p + 6) rc rs) (hR : mk_R R) (hk : pk_R (mk_B R B)) (h : Iv I J B ((4, 1) :: E)) (h1 : rc + 2 + 4200 ≤ rc' + nnB B 4200) (h2 : rs + 16 + 1075200 ≤ rs' + 256 * nnB B 4200) (hs : ¬ Int32.ofNat g.2.2.2.2.2.1 - 6 < nI p) (hin : vp_in (nI p) g.2.2.2.2.2.1) (v1 : vp_in (nI p + 1) g.2.2.2.2.2.1) (v2 : vp_in (nI p + 2) g.2.2.2.2.2.1) (v3 : vp_in (nI p + 3) g.2.2.2.2.2.1) (v4 : vp_in (nI p + 4) g.2.2.2.2.2.1) (v5 : vp_in (nI p + 5) g.2.2.2.2.2.1) (hc : g.2.2.2.2.2.2 (nI p).toNatClampNeg &&& 15 = 0) : LG g p rc' rs' E R B I J := by
  have nb := nnB_le B 4200
  obtain ⟨rc1, rfl⟩ : ∃ rc1, rc' = rc1 + 1 := ⟨rc' - 1, by omega⟩
  obtain ⟨rs1, rfl⟩ : ∃ rs1, rs' = rs1 + 6 := ⟨rs' - 6, by omega⟩
  obtain ⟨k1, k2, k3⟩ := k_feed h (g.2.2.2.2.2.2 (nI p + 1).toNatClampNeg) (g.2.2.2.2.2.2 (nI p + 2).toNatClampNeg) (g.2.2.2.2.2.2 (nI p + 3).toNatClampNeg) (g.2.2.2.2.2.2 (nI p + 4).toNatClampNeg) (g.2.2.2.2.2.2 (nI p + 5).toNatClampNeg)
  have key := lq_0 (d := 1291) (rc := rc1) (rs := rs1) (o := .returned (some (.int 1))) (E := E) ht 21 hR hk v1 v2 v3 v4 v5 k1 (fun e => by
    rcases k2 with ⟨q0, q⟩ | ⟨q0, q⟩
    · exact q
    · rw [q0] at e; cases e) (fun e => by
    rcases k2 with ⟨q0, q⟩ | ⟨q0, q⟩
    · rw [q0] at e; cases e
    · exact q) (by
    rcases k2 with ⟨q0, q⟩ | ⟨q0, q⟩
    · exact Or.inl q0
    · exact Or.inr q0) (fun E' J' hE hJ => L_nx ih hR hk (Iv_lw k3 hE hJ) (by omega) (by omega))
  obtain ⟨Z, hz⟩ := key
  exact ⟨Z, lw_s0 hs hin hc hz⟩
theorem L_1 (ht : g.1.stackTraces = false) (ih : LH g (p + 6) rc rs) (hR : mk_R R) (hk : pk_R (mk_B R B)) (h : Iv I J B ((4, 1) :: E)) (h1 : rc + 2 + 4200 ≤ rc' + nnB B 4200) (h2 : rs + 16 + 1075200 ≤ rs' + 256 * nnB B 4200) (hs : ¬ Int32.ofNat g.2.2.2.2.2.1 - 6 < nI p) (hin : vp_in (nI p) g.2.2.2.2.2.1) (v1 : vp_in (nI p + 1) g.2.2.2.2.2.1) (hc : g.2.2.2.2.2.2 (nI p).toNatClampNeg &&& 15 = 1) : LG g p rc' rs' E R B I J := by
  have nb := nnB_le B 4200
  obtain ⟨rc1, rfl⟩ : ∃ rc1, rc' = rc1 + 1 := ⟨rc' - 1, by omega⟩
  obtain ⟨rs1, rfl⟩ : ∃ rs1, rs' = rs1 + 6 := ⟨rs' - 6, by omega⟩
  obtain ⟨k1, k2, k3⟩ := k_end h (g.2.2.2.2.2.2 (nI p + 1).toNatClampNeg)
  have key := lq_1 (d := 1291) (rc := rc1) (rs := rs1) (o := .returned (some (.int 1))) (E := E) ht  hR hk v1 k1 (fun e => by
    rcases k2 with ⟨q0, q⟩ | ⟨q0, q⟩
    · exact q
    · rw [q0] at e; cases e) (fun e => by
    rcases k2 with ⟨q0, q⟩ | ⟨q0, q⟩
    · rw [q0] at e; cases e
    · exact q) (by
    rcases k2 with ⟨q0, q⟩ | ⟨q0, q⟩
    · exact Or.inl q0
    · exact Or.inr q0) (fun E' J' hE hJ => L_nx ih hR hk (Iv_lw k3 hE hJ) (by omega) (by omega))
  obtain ⟨Z, hz⟩ := key
  exact ⟨Z, lw_s1 hs hin hc hz⟩
theorem L_11 (ht : g.1.stackTraces = false) (ih : LH g (p + 6) rc rs) (hR : mk_R R) (hk : pk_R (mk_B R B)) (h : Iv I J B ((4, 1) :: E)) (h1 : rc + 2 + 4200 ≤ rc' + nnB B 4200) (h2 : rs + 16 + 1075200 ≤ rs' + 256 * nnB B 4200) (hs : ¬ Int32.ofNat g.2.2.2.2.2.1 - 6 < nI p) (hin : vp_in (nI p) g.2.2.2.2.2.1) (v1 : vp_in (nI p + 1) g.2.2.2.2.2.1) (hc : g.2.2.2.2.2.2 (nI p).toNatClampNeg &&& 15 = 11) : LG g p rc' rs' E R B I J := by
  have nb := nnB_le B 4200
  obtain ⟨rc1, rfl⟩ : ∃ rc1, rc' = rc1 + 1 := ⟨rc' - 1, by omega⟩
  obtain ⟨rs1, rfl⟩ : ∃ rs1, rs' = rs1 + 6 := ⟨rs' - 6, by omega⟩
  obtain ⟨k1, k2, k3⟩ := k_go h (g.2.2.2.2.2.2 (nI p + 1).toNatClampNeg)
  have key := lq_11 (d := 1291) (rc := rc1) (rs := rs1) (o := .returned (some (.int 1))) (E := E) ht  hR hk v1 k1 (fun e => by
    rcases k2 with ⟨q0, q⟩ | ⟨q0, q⟩
    · exact q
    · rw [q0] at e; cases e) (fun e => by
    rcases k2 with ⟨q0, q⟩ | ⟨q0, q⟩
    · rw [q0] at e; cases e
    · exact q) (by
    rcases k2 with ⟨q0, q⟩ | ⟨q0, q⟩
    · exact Or.inl q0
    · exact Or.inr q0) (fun E' J' hE hJ => L_nx ih hR hk (Iv_lw k3 hE hJ) (by omega) (by omega))
  obtain ⟨Z, hz⟩ := key
  exact ⟨Z, lw_s11 hs hin hc hz⟩
theorem L_3 (ht : g.1.stackTraces = false) (ih : LH g (p + 6) rc rs) (hR : mk_R R) (hk : pk_R (mk_B R B)) (h : Iv I J B ((4, 1) :: E)) (h1 : rc + 2 + 4200 ≤ rc' + nnB B 4200) (h2 : rs + 16 + 1075200 ≤ rs' + 256 * nnB B 4200) (hs : ¬ Int32.ofNat g.2.2.2.2.2.1 - 6 < nI p) (hin : vp_in (nI p) g.2.2.2.2.2.1) (v1 : vp_in (nI p + 1) g.2.2.2.2.2.1) (hc : g.2.2.2.2.2.2 (nI p).toNatClampNeg &&& 15 = 3) : LG g p rc' rs' E R B I J := by
  have nb := nnB_le B 4200
  obtain ⟨k1, k2, k3, k4⟩ := k_fault h (g.2.2.2.2.2.2 (nI p + 1).toNatClampNeg)
  have key := lq_3 (d := 1291) (rc := rc') (rs := rs') (o := .returned (some (.int 1))) (E := E) hR hk v1 k1 k2 k3 (L_nx ih hR hk (Iv_2 h k4) (by omega) (by omega))
  obtain ⟨Z, hz⟩ := key
  exact ⟨Z, lw_s3 hs hin hc hz⟩
theorem L_13 (ht : g.1.stackTraces = false) (ih : LH g (p + 6) rc rs) (hR : mk_R R) (hk : pk_R (mk_B R B)) (h : Iv I J B ((4, 1) :: E)) (h1 : rc + 2 + 4200 ≤ rc' + nnB B 4200) (h2 : rs + 16 + 1075200 ≤ rs' + 256 * nnB B 4200) (hs : ¬ Int32.ofNat g.2.2.2.2.2.1 - 6 < nI p) (hin : vp_in (nI p) g.2.2.2.2.2.1) (v1 : vp_in (nI p + 1) g.2.2.2.2.2.1) (hc : g.2.2.2.2.2.2 (nI p).toNatClampNeg &&& 15 = 13) : LG g p rc' rs' E R B I J := by
  have nb := nnB_le B 4200
  obtain ⟨k1, k2, k3, k4⟩ := k_count h (g.2.2.2.2.2.2 (nI p + 1).toNatClampNeg)
  have key := lq_13 (d := 1291) (rc := rc') (rs := rs') (o := .returned (some (.int 1))) (E := E) hR hk v1 k1 k2 k3 (L_nx ih hR hk (Iv_2 h k4) (by omega) (by omega))
  obtain ⟨Z, hz⟩ := key
  exact ⟨Z, lw_s13 hs hin hc hz⟩
theorem L_7 (ht : g.1.stackTraces = false) (ih : LH g (p + 6) rc rs) (hR : mk_R R) (hk : pk_R (mk_B R B)) (h : Iv I J B ((4, 1) :: E)) (h1 : rc + 2 + 4200 ≤ rc' + nnB B 4200) (h2 : rs + 16 + 1075200 ≤ rs' + 256 * nnB B 4200) (hs : ¬ Int32.ofNat g.2.2.2.2.2.1 - 6 < nI p) (hin : vp_in (nI p) g.2.2.2.2.2.1)  (hc : g.2.2.2.2.2.2 (nI p).toNatClampNeg &&& 15 = 7) : LG g p rc' rs' E R B I J := by
  have nb := nnB_le B 4200
  obtain ⟨k1, k2⟩ := k_reach h
  obtain ⟨k3, k4, k5⟩ := k2 ((4, 1) :: E)
  have key := lq_7 (d := 1291) (rc := rc') (rs := rs') (o := .returned (some (.int 1))) (E := E) 9 257 257 258 257 hR hk k1 k3 k4 (L_nx ih hR hk k5 (by omega) (by omega))
  obtain ⟨Z, hz⟩ := key
  exact ⟨Z, lw_s7 hs hin hc hz⟩
end
