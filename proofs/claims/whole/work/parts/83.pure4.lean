/-! PURE 4: the class's read of an empty TAPE; the fresh objects -/
theorem R0_skip (n : Nat) (Y : Nat → Nat → Int32) (J : Nat → Nat → Int64) (h1 : Y 1 1 = 0) (h6 : Y 17 6 = 0) : pTk_skipBlanks_2 (n + 1) 0 Y J ∧ fTk_skipBlanks_2 (n + 1) 0 Y J = Y := by
  have c0 : (0 : Int32) ≤ 0 := by decide
  rw [pTk_skipBlanks_2.eq_2, fTk_skipBlanks_2.eq_2, h1, h6]
  exact ⟨⟨fun _ => trivial, fun q => absurd c0 q⟩, if_pos c0⟩
theorem R0_scan (y : Int32) (Y : Nat → Nat → Int32) (J : Nat → Nat → Int64) (h1 : Y 1 1 = 0) (h6 : Y 17 6 = 0) : pTk_scan y Y J ∧ fTk_scan y Y J = (45, Y) := by
  have c0 : ¬ (0 : Int32) < 0 := by decide
  unfold pTk_scan fTk_scan
  rw [h1, h6]
  exact ⟨⟨fun q => absurd q c0, fun _ => trivial⟩, if_neg c0⟩
theorem R0_part (n : Nat) (Y : Nat → Nat → Int32) (J : Nat → Nat → Int64) (h1 : Y 1 1 = 0) (h6 : Y 17 6 = 0) : pTk_part_14 (n + 2) 1 0 Y J ∧ fTk_part_14 (n + 2) 1 0 Y J 18 0 = 45 ∧ ∀ a : Nat, a ≠ 17 → a ≠ 18 → a ≠ 19 → a ≠ 20 → fTk_part_14 (n + 2) 1 0 Y J a = Y a := by
  have s1 : pTk_skipBlanks 65537 Y J := (R0_skip 65536 Y J h1 h6).1
  have s2 : fTk_skipBlanks 65537 Y J = Y := (R0_skip 65536 Y J h1 h6).2
  have y1 : (pm_u Y 19 0 0) 1 1 = 0 := by rw [pm_u_n _ _ _ (by decide)]; exact h1
  have y6 : (pm_u Y 19 0 0) 17 6 = 0 := by rw [pm_u_n _ _ _ (by decide)]; exact h6
  have s3 := R0_scan 0 (pm_u Y 19 0 0) J y1 y6
  have e0 : (0 : Int32).toNatClampNeg = 0 := by decide
  refine ⟨?_, ?_, fun a a1 a2 a3 a4 => ?_⟩
  · simp [pTk_part_14, pTk_part_29, pTk_part_49, pTk_part_90, s1, s2, h6, s3, vp_0, pm_u_s, pm_u_n, pm_u_j]
  · simp [fTk_part_14, fTk_part_29, fTk_part_49, fTk_part_90, s2, h6, s3, pm_u_s, pm_u_n, pm_u_j]
  · simp [fTk_part_14, fTk_part_29, fTk_part_49, fTk_part_90, s2, h6, s3, pm_u_s, pm_u_n, pm_u_j, a1, a2, a3, a4]
theorem R0_loop (n : Nat) (Y : Nat → Nat → Int32) (J : Nat → Nat → Int64) (c : Value) (h9 : Y 13 9 = 0) (h3 : Y 13 3 = 45) : pRd_readTape_26 (n + 1) 0 Y J c ∧ fRd_readTape_26 (n + 1) 0 Y J c = (Y, c) := by
  have c1 : ¬ (4000 : Int32) < 0 := by decide
  rw [pRd_readTape_26.eq_2, fRd_readTape_26.eq_2, h9, h3]
  exact ⟨⟨fun q => absurd q c1, fun _ => ⟨fun _ => ⟨fun _ => trivial, fun q => absurd rfl q⟩, fun q => absurd rfl q⟩⟩, (if_neg c1).trans ((if_pos rfl).trans (if_pos rfl))⟩
theorem R0_read (I : Nat → Nat → Int32) (J : Nat → Nat → Int64) (c : Value) (hL : I 1 1 = 0) : pCh_read I J c ∧ (fCh_read I J c).1 = 0 ∧ ∀ a : Nat, 40 ≤ a → (fCh_read I J c).2.1 a = I a := by
  have hf := Ar_fill_15_o 0 (fCi_clear I J) J
  have pb : pRd_begin I J := ⟨trivial, hf.1, trivial⟩
  have hb : fRd_begin I J = pm_u (pm_u (pm_u (pm_u (pm_fl (fCi_clear I J) 15 60 0) 13 7 0) 13 9 0) 13 10 0) 13 2 0 := by
    unfold fRd_begin fRd_begin_7 fRd_begin_15
    rw [hf.2]
  have b1 : fRd_begin I J 1 1 = 0 := by simp [hb, fCi_clear, pm_u_n, pm_fl_n, hL]
  have b5 : fRd_begin I J 3 5 = 0 := by simp [hb, fCi_clear, pm_u_n, pm_u_j, pm_u_s, pm_fl_n]
  have b6 : fRd_begin I J 3 6 = 0 := by simp [hb, fCi_clear, pm_u_n, pm_u_j, pm_u_s, pm_fl_n]
  have b7 : fRd_begin I J 3 7 = 0 := by simp [hb, fCi_clear, pm_u_n, pm_u_j, pm_u_s, pm_fl_n]
  have b8 : fRd_begin I J 3 8 = 0 := by simp [hb, fCi_clear, pm_u_n, pm_u_j, pm_u_s, pm_fl_n]
  have b9 : fRd_begin I J 3 9 = 0 := by simp [hb, fCi_clear, pm_u_n, pm_u_j, pm_u_s, pm_fl_n]
  have b10 : fRd_begin I J 3 10 = 0 := by simp [hb, fCi_clear, pm_u_n, pm_u_j, pm_u_s, pm_fl_n]
  have d7 : fRd_begin I J 7 2 = 0 := by simp [hb, fCi_clear, pm_u_n, pm_u_j, pm_u_s, pm_fl_n]
  have d10 : fRd_begin I J 10 2 = 0 := by simp [hb, fCi_clear, pm_u_n, pm_u_j, pm_u_s, pm_fl_n]
  have d9 : fRd_begin I J 13 9 = 0 := by simp [hb, pm_u_j, pm_u_s]
  have bA : ∀ a : Nat, 40 ≤ a → fRd_begin I J a = I a := by
    intro a ha
    rw [hb, pm_u_n _ _ _ (by omega), pm_u_n _ _ _ (by omega), pm_u_n _ _ _ (by omega), pm_u_n _ _ _ (by omega), pm_fl_n _ _ _ (by omega)]
    unfold fCi_clear
    rw [pm_u_n _ _ _ (by omega), pm_u_n _ _ _ (by omega), pm_u_n _ _ _ (by omega), pm_u_n _ _ _ (by omega), pm_u_n _ _ _ (by omega), pm_u_n _ _ _ (by omega), pm_u_n _ _ _ (by omega), pm_u_n _ _ _ (by omega)]
  clear hb hf
  unfold pCh_read fCh_read pRd_readTape fRd_readTape pRd_readTape_4 fRd_readTape_4 pRd_readTape_11 fRd_readTape_11 pTk_part fTk_part
  generalize fRd_begin I J = X at b1 b5 b6 b7 b8 b9 b10 d7 d10 d9 bA
  have hp := R0_part 4000 (pm_u (pm_u X 17 6 0) 17 5 0) J (by rw [pm_u_n _ _ _ (by decide), pm_u_n _ _ _ (by decide)]; exact b1) (by rw [pm_u_j _ _ _ (by decide), pm_u_s])
  have hq : ∀ a : Nat, a ≠ 17 → a ≠ 18 → a ≠ 19 → a ≠ 20 → fTk_part_14 4002 1 0 (pm_u (pm_u X 17 6 0) 17 5 0) J a = X a := fun a a1 a2 a3 a4 => (hp.2.2 a a1 a2 a3 a4).trans (by rw [pm_u_n _ _ _ a1, pm_u_n _ _ _ a1])
  have h18 : fTk_part_14 4002 1 0 (pm_u (pm_u X 17 6 0) 17 5 0) J 18 0 = 45 := hp.2.1
  have hpp : pTk_part_14 4002 1 0 (pm_u (pm_u X 17 6 0) 17 5 0) J := hp.1
  clear hp
  generalize fTk_part_14 4002 1 0 (pm_u (pm_u X 17 6 0) 17 5 0) J = Q at hq h18
  have e0 : (0 : Int32).toNatClampNeg = 0 := by decide
  rw [e0, h18]
  have q9 : (pm_u Q 13 3 45) 13 9 = 0 := by rw [pm_u_j _ _ _ (by decide), hq 13 (by decide) (by decide) (by decide) (by decide)]; exact d9
  have hl := R0_loop 4001 (pm_u Q 13 3 45) J c q9 (pm_u_s _ _ _ _)
  have hl1 : pRd_readTape_26 4002 0 (pm_u Q 13 3 45) J c := hl.1
  have hl2 : fRd_readTape_26 4002 0 (pm_u Q 13 3 45) J c = (pm_u Q 13 3 45, c) := hl.2
  rw [hl2]
  have r3 : ∀ j : Nat, (pm_u (pm_u Q 13 3 45) 1 1 0) 3 j = X 3 j := fun j => by rw [pm_u_n _ _ _ (by decide), pm_u_n _ _ _ (by decide), hq 3 (by decide) (by decide) (by decide) (by decide)]
  have w := W0_workOut (pm_u (pm_u Q 13 3 45) 1 1 0) J ⟨(r3 5).trans b5, (r3 6).trans b6, (r3 7).trans b7, (r3 8).trans b8, (r3 9).trans b9, (r3 10).trans b10, by rw [pm_u_n _ _ _ (by decide), pm_u_n _ _ _ (by decide), hq 7 (by decide) (by decide) (by decide) (by decide)]; exact d7, by rw [pm_u_n _ _ _ (by decide), pm_u_n _ _ _ (by decide), hq 10 (by decide) (by decide) (by decide) (by decide)]; exact d10⟩
  have f13 : (fCh_workOut (pm_u (pm_u Q 13 3 45) 1 1 0) J).1 13 9 = 0 := by
    rw [w.2.1.1 13 (by decide) (by decide) (by decide) (by decide) (by decide) (by decide) (by decide) (by decide) (by decide) (by decide), pm_u_n _ _ _ (by decide)]
    exact q9
  have f3 : (fCh_workOut (pm_u (pm_u Q 13 3 45) 1 1 0) J).1 3 6 = 0 := by
    rw [w.2.1.1 3 (by decide) (by decide) (by decide) (by decide) (by decide) (by decide) (by decide) (by decide) (by decide) (by decide), r3]
    exact b6
  have hF : fCh_read_7 (pm_u Q 13 3 45) J c = (0, (fCh_workOut (pm_u (pm_u Q 13 3 45) 1 1 0) J).1, (fCh_workOut (pm_u (pm_u Q 13 3 45) 1 1 0) J).2, c) := by
    unfold fCh_read_7 fCh_read_24 fCh_read_36
    rw [if_pos q9, if_pos f13, f3]
  have hP : pCh_read_7 (pm_u Q 13 3 45) J c := ⟨fun _ => ⟨w.1, fun _ => trivial, fun q => absurd f13 q⟩, fun q => absurd q9 q⟩
  dsimp only
  rw [hF]
  refine ⟨⟨⟨pb, hpp, vp_0 (by decide) (by decide), hl1⟩, hP⟩, rfl, fun a ha => ?_⟩
  show (fCh_workOut (pm_u (pm_u Q 13 3 45) 1 1 0) J).1 a = I a
  rw [w.2.1.1 a (by omega) (by omega) (by omega) (by omega) (by omega) (by omega) (by omega) (by omega) (by omega) (by omega), pm_u_n _ _ _ (by omega), pm_u_n _ _ _ (by omega), hq a (by omega) (by omega) (by omega) (by omega), bA a ha]
/-! all zero; rows of the model's that are zero; rows of the class's that stay -/
def z0 (I : Nat → Nat → Int32) : Prop := ∀ a j : Nat, I a j = 0
theorem z0_z {I : Nat → Nat → Int32} {q : Nat} (h : z0 I) : z0 (pm_z I q 0) := by
  intro a j
  unfold pm_z
  by_cases ha : a = q
  · rw [if_pos ha]
  · rw [if_neg ha]; exact h a j
def zM (I : Nat → Nat → Int32) : Prop := ∀ a j : Nat, 40 ≤ a → I a j = 0
theorem zM_z {I : Nat → Nat → Int32} {q : Nat} (h : zM I) : zM (pm_z I q 0) := by
  intro a j h40
  unfold pm_z
  by_cases ha : a = q
  · rw [if_pos ha]
  · rw [if_neg ha]; exact h a j h40
theorem zM_u {I : Nat → Nat → Int32} {q i : Nat} (h : zM I) : zM (pm_u I q i 0) := by
  intro a j h40
  unfold pm_u
  by_cases ha : a = q
  · rw [if_pos ha]
    by_cases hj : j = i
    · show (if j = i then (0 : Int32) else I q j) = 0
      rw [if_pos hj]
    · show (if j = i then (0 : Int32) else I q j) = 0
      rw [if_neg hj]; exact h q j (ha ▸ h40)
  · rw [if_neg ha]; exact h a j h40
theorem zM_m {I : Nat → Nat → Int32} {q N : Nat} (h : zM I) : zM (mm_I I q N 0) := by
  intro a j h40
  unfold mm_I
  by_cases ha : q ≤ a ∧ a ≤ q + N
  · rw [if_pos ha]
  · rw [if_neg ha]; exact h a j h40
def lo (I I' : Nat → Nat → Int32) : Prop := ∀ a : Nat, a < 40 → I' a = I a
theorem lo_z {I I' : Nat → Nat → Int32} {q : Nat} {v : Int32} (h : lo I I') (hq : 40 ≤ q) : lo I (pm_z I' q v) := fun a ha => (pm_z_n _ _ (by omega)).trans (h a ha)
theorem lo_u {I I' : Nat → Nat → Int32} {q i : Nat} {v : Int32} (h : lo I I') (hq : 40 ≤ q) : lo I (pm_u I' q i v) := fun a ha => (pm_u_n _ _ _ (by omega)).trans (h a ha)
theorem lo_m {I I' : Nat → Nat → Int32} {q N : Nat} {v : Int32} (h : lo I I') (hq : 40 ≤ q) : lo I (mm_I I' q N v) := fun a ha => by
  unfold mm_I
  rw [if_neg (by omega)]
  exact h a ha
theorem fr_z0 : z0 (ICh_init_0_b (pm_z (fun _ _ => 0) 0 0)) := by
  have h0 : z0 (fun _ _ => 0) := fun _ _ => rfl
  unfold ICh_init_0_b ITr_init_37 ICm_init_33 ISt_init_25 IVa_init_22 IRd_init_13 ITk_init_17 ICi_init_3 ICo_init_10 ICo_init_7 ITp_init_1
  repeat (first | exact h0 | apply z0_z)
theorem fr_em : em0 (ICh_init_0_b (pm_z (fun _ _ => 0) 0 0)) := ⟨fr_z0 _ _, fr_z0 _ _, fr_z0 _ _, fr_z0 _ _, fr_z0 _ _, fr_z0 _ _, fr_z0 _ _, fr_z0 _ _⟩
theorem fr_p : pCh_workOut (ICh_init_0_b (pm_z (fun _ _ => 0) 0 0)) (JCh_init_0_b (pm_z (fun _ _ => 0) 0 0)) := (W0_workOut _ _ fr_em).1
abbrev Ifr : Nat → Nat → Int32 := Ilw (fun _ _ => 0) (fun _ _ => 0)
theorem fr_lo : lo (fCh_workOut (ICh_init_0_b (pm_z (fun _ _ => 0) 0 0)) (JCh_init_0_b (pm_z (fun _ _ => 0) 0 0))).1 Ifr := by
  unfold Ifr Ilw
  generalize (fCh_workOut (ICh_init_0_b (pm_z (fun _ _ => 0) 0 0)) (JCh_init_0_b (pm_z (fun _ _ => 0) 0 0))).1 = X
  have h0 : lo X X := fun _ _ => rfl
  unfold IMo_init
  repeat (first | exact h0 | refine lo_z ?_ (by decide) | refine lo_u ?_ (by decide) | refine lo_m ?_ (by decide))
theorem fr_zM : zM Ifr := by
  unfold Ifr Ilw
  have h0 : zM (fCh_workOut (ICh_init_0_b (pm_z (fun _ _ => 0) 0 0)) (JCh_init_0_b (pm_z (fun _ _ => 0) 0 0))).1 := by
    intro a j h
    rw [(W0_workOut _ _ fr_em).2.1.1 a (by omega) (by omega) (by omega) (by omega) (by omega) (by omega) (by omega) (by omega) (by omega) (by omega)]
    exact fr_z0 a j
  generalize (fCh_workOut (ICh_init_0_b (pm_z (fun _ _ => 0) 0 0)) (JCh_init_0_b (pm_z (fun _ _ => 0) 0 0))).1 = X at h0
  unfold IMo_init
  repeat (first | exact h0 | apply zM_z | apply zM_u | apply zM_m)
/-- what the class's fresh object holds -/
def FC (I : Nat → Nat → Int32) : Prop := em0 I ∧ I 1 1 = 0 ∧ I 13 9 = 0 ∧ I 13 10 = 0 ∧ I 0 7 = 0 ∧ I 25 1 = 1 ∧ I 25 2 = 1 ∧ I 25 8 = 1 ∧ I 26 0 = 0 ∧ I 37 2 = 0 ∧ I 37 3 = 0
theorem fr_FC : FC Ifr := by
  obtain ⟨-, ⟨w0, w1, w2, w3, w4, w5, w6, w7, w8, w9, w10⟩, -⟩ := W0_workOut (ICh_init_0_b (pm_z (fun _ _ => 0) 0 0)) (JCh_init_0_b (pm_z (fun _ _ => 0) 0 0)) fr_em
  have l := fr_lo
  have z : ∀ a j : Nat, a < 40 → a ≠ 0 → a ≠ 22 → a ≠ 25 → a ≠ 26 → a ≠ 27 → a ≠ 28 → a ≠ 29 → a ≠ 30 → a ≠ 33 → a ≠ 37 → Ifr a j = 0 := fun a j h40 a0 a1 a2 a3 a4 a5 a6 a7 a8 a9 => by
    rw [l a h40, w0 a a0 a1 a2 a3 a4 a5 a6 a7 a8 a9]
    exact fr_z0 a j
  have z3 : ∀ j, Ifr 3 j = 0 := fun j => z 3 j (by decide) (by decide) (by decide) (by decide) (by decide) (by decide) (by decide) (by decide) (by decide) (by decide) (by decide)
  have z13 : ∀ j, Ifr 13 j = 0 := fun j => z 13 j (by decide) (by decide) (by decide) (by decide) (by decide) (by decide) (by decide) (by decide) (by decide) (by decide) (by decide)
  refine ⟨⟨z3 _, z3 _, z3 _, z3 _, z3 _, z3 _, z 7 2 (by decide) (by decide) (by decide) (by decide) (by decide) (by decide) (by decide) (by decide) (by decide) (by decide) (by decide), z 10 2 (by decide) (by decide) (by decide) (by decide) (by decide) (by decide) (by decide) (by decide) (by decide) (by decide) (by decide)⟩, z 1 1 (by decide) (by decide) (by decide) (by decide) (by decide) (by decide) (by decide) (by decide) (by decide) (by decide) (by decide), z13 _, z13 _, ?_, ?_, ?_, ?_, ?_, ?_, ?_⟩
  · rw [l 0 (by decide)]; exact w1
  · rw [l 25 (by decide)]; exact w2
  · rw [l 25 (by decide)]; exact w3
  · rw [l 25 (by decide)]; exact w5
  · rw [l 26 (by decide)]; exact w6
  · rw [l 37 (by decide)]; exact w9
  · rw [l 37 (by decide)]; exact w10
theorem fr_pk (R : Nat → Nat → Value) : pk_R (Rlw R) := by
  intro q hq
  simp only [pk_Rl, List.mem_cons, List.not_mem_nil, or_false] at hq
  rcases hq with rfl | rfl | rfl | rfl | rfl | rfl | rfl | rfl | rfl | rfl | rfl | rfl | rfl | rfl | rfl | rfl | rfl | rfl | rfl | rfl | rfl | rfl | rfl | rfl | rfl | rfl | rfl | rfl | rfl | rfl | rfl | rfl | rfl | rfl | rfl | rfl | rfl | rfl | rfl | rfl | rfl | rfl | rfl | rfl <;> rfl
theorem fr_mk (R : Nat → Nat → Value) : mk_R (Rlw R) := by
  refine ⟨?_, fun i hi => rfl, fun i hi => rfl⟩
  intro q hq
  simp only [mk_Rl, List.mem_cons, List.not_mem_nil, or_false] at hq
  rcases hq with rfl | rfl | rfl | rfl | rfl | rfl | rfl | rfl | rfl | rfl | rfl | rfl | rfl | rfl | rfl | rfl | rfl | rfl | rfl | rfl | rfl | rfl | rfl | rfl | rfl | rfl | rfl | rfl | rfl <;> rfl
theorem fr_B (R : Nat → Nat → Value) : mk_B R (R 320) = R := by
  funext a
  unfold mk_B
  by_cases h : a = 320
  · rw [if_pos h, h]
  · rw [if_neg h]
