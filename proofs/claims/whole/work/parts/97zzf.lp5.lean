/-! THE LOOP 5: a fresh object; the whole law -/
theorem fr_Iv : Iv Ifr (Jlw (fun _ _ => 0) (fun _ _ => 0)) (Rlw (fun _ _ => .null) 320) [(4, 1)] := by
  have no : ∀ (k : Nat) (x : Nat × Nat × Nat × Nat), ([] : NmT)[k]? ≠ some x := fun k x hx => by rw [List.getElem?_nil] at hx; cases hx
  have z := fr_zM
  have em := fr_em
  have hC : cC [] 0 0 (ICh_init_0_b (pm_z (fun _ _ => 0) 0 0)) := ⟨em.1, Nat.zero_le _, em.2.2.1, em.2.2.2.1, rfl, rfl, Nat.zero_le _, Nat.zero_le _, fun k x hx => absurd hx (no k x), fun k hk => absurd hk (Nat.not_lt_zero _)⟩
  obtain ⟨⟨D0, d1, d2⟩, _⟩ := lD_0
  have hD0 : D0 = [] := by
    cases D0 with
    | nil => rfl
    | cons x l =>
      have := congrArg List.length d1
      unfold flI at this
      simp at this
  rw [hD0] at d2
  have hmC : mC [] 0 0 [] [] Ifr := ⟨⟨z 40 23 (by decide), z 40 24 (by decide), z 40 25 (by decide), z 40 27 (by decide), z 40 28 (by decide)⟩, ⟨Nat.zero_le _, rfl, rfl, Nat.zero_le _, Nat.zero_le _⟩, fun k x hx => absurd hx (no k x), fun k x hx => absurd hx (no k x), fun k x hx => absurd hx (no k x), d2, fun x hx => absurd hx List.not_mem_nil⟩
  have an : aN [] 0 0 [] 0 0 = 0 := by
    have := nxb hmC (vD (aE [] 0 0 []) (fun c => fC [] 0 0 c) [] (0 * 2 ^ 0 + 0))
    have h2 : aN [] 0 0 [] 0 0 < 2 ^ 0 := this
    omega
  have hmA : mA (2 ^ 0) (2 ^ 0) (aN [] 0 0 []) Ifr := ⟨(mall hmC).1, (mall hmC).2, by decide, by decide, fun s i hs hi => by
    have e1 : s = 0 := by omega
    have e2 : i = 0 := by omega
    rw [e1, e2, an]
    exact ⟨z 64 0 (by decide), by decide⟩⟩
  obtain ⟨_, w2, w3, w4, w5, w6⟩ := cw_out (Nm := []) (rb := 0) (ib := 0) (fi := 0) (sp := 0) (D := []) (SP := []) (SS := fun _ _ => false) (JCh_init_0_b (pm_z (fun _ _ => 0) 0 0)) hC Nat.one_pos em.2.2.2.2.2.1 (fun k _ hk => absurd hk (Nat.not_lt_zero _)) em.2.2.2.2.2.2.1 (fun j x hx => by rw [show flI [] = [] from rfl, List.getElem?_nil] at hx; cases hx) (Nat.zero_le _) em.2.2.2.2.2.2.2 (fun j x hx => by rw [show flS [] 0 = [] from rfl, List.getElem?_nil] at hx; cases hx) (Nat.zero_le _) rfl (Nat.zero_le _) (fun g C hg => by rw [List.getElem?_nil] at hg; cases hg) (fun k s hs => by cases hs) (fun g C hg => by rw [List.getElem?_nil] at hg; cases hg)
  have l := fr_lo
  obtain ⟨f1, f2, f3, f4, f5, f6, f7, f8, f9, f10, f11⟩ := fr_FC
  refine ⟨⟨0, [], 0, 0, 0, 0, [], [], fun _ _ => false, 0, 0, 0, ⟨rfl, Nat.zero_le _, Nat.one_pos, Nat.one_pos, fun k s hs => by cases hs⟩, ⟨⟨f1.1, Nat.zero_le _, f1.2.2.1, f1.2.2.2.1, rfl, rfl, Nat.zero_le _, Nat.zero_le _, fun k x hx => absurd hx (no k x), fun k hk => absurd hk (Nat.not_lt_zero _)⟩, CW_c w3 (l 3 (by decide)) (l 25 (by decide)) (l 26 (by decide)) (l 29 (by decide)) (l 30 (by decide)) (l 31 (by decide)) (l 32 (by decide)) rfl rfl, f3, f4, f1.2.1, f1.2.2.2.2.1, f1.2.2.2.2.2.1, f5⟩, ⟨hmC, hmA, ⟨fun g hg => Or.inl rfl, fun g g' a hg hg' e => by cases e⟩, fun k hk => absurd hk (Nat.not_lt_zero _)⟩, z 40 3 (by decide), z 40 4 (by decide), z 40 11 (by decide), z 40 16 (by decide), z 40 26 (by decide), z 40 46 (by decide), z 40 47 (by decide)⟩, Or.inl ⟨f10, f11, z 40 51 (by decide), z 40 52 (by decide)⟩, fun _ => 0, 0, ⟨f2, Nat.zero_le _, fun q hq => absurd hq (Nat.not_lt_zero _)⟩, z 40 1 (by decide), Nat.zero_le _, fun q hq => absurd hq (Nat.not_lt_zero _)⟩
theorem lw_all (g : pmG) (ht : g.1.stackTraces = false) (hL : g.2.2.2.2.2.1 ≤ 3072) : ∃ Z : pmM, pmE g kLw_law 1312 601023 7293026 0 [(0, .retAddr 0)] [] [] (fun _ _ => .null) (fun _ _ => 0) (fun _ _ => 0) (.returned (some (.int 1))) Z := by
  have h := L_all ht hL 512 0 (by omega) (by omega) [] (Rlw (fun _ _ => .null)) (Rlw (fun _ _ => .null) 320) Ifr (Jlw (fun _ _ => 0) (fun _ _ => 0)) 600666 7021767 (fr_mk _) (by rw [fr_B]; exact fr_pk _) fr_Iv (by omega) (by omega)
  obtain ⟨Z, hz⟩ := h
  rw [fr_B] at hz
  exact ⟨Z, lw_begin (d := 1304) (rc := 600666) (rs := 7021767) fr_p hz⟩
