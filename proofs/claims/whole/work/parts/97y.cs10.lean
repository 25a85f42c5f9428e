/-! CLASS WORKS OUT A CIRCUIT -/
theorem cm_bgn {n : Nat} {I : Mm} (J : Ml) (h1 : I 25 1 = nI n) (hn : n ≤ 256) : pCm_begin 257 I J ∧ ∃ J', fCm_begin 257 I J = (pm_u I 33 2 124, J') ∧ cK n (pm_u I 33 2 124) J' [] ∧ kF 120 J J' := by
  have em := cm_empty (I := pm_u I 33 2 124) (t := 120) (by omega) J
  have lp : ∀ (k s : Nat) (J : Ml), s ≤ n → n - s < k → pCm_begin_14 k (nI s) (pm_u I 33 2 124) J ∧ ∃ J', fCm_begin_14 k (nI s) (pm_u I 33 2 124) J = (pm_u I 33 2 124, J') ∧ kF 120 J J' ∧ ∀ r, r < 256 → (sB J' 120 r = true ↔ (sB J 120 r = true ∨ (s ≤ r ∧ r < n))) := by
    intro k
    induction k with
    | zero => intro s J _ h; omega
    | succ k ih =>
      intro s J hs hk
      rw [pCm_begin_14.eq_2, fCm_begin_14.eq_2]
      have h1' : pm_u I 33 2 124 25 1 = nI n := by rw [pm_u_n _ _ _ (by decide)]; exact h1
      by_cases c : n ≤ s
      · have c' : pm_u I 33 2 124 25 1 ≤ nI s := by rw [h1']; exact nI_le c (by omega)
        rw [if_pos c']
        exact ⟨⟨fun _ => trivial, fun q => absurd c' q⟩, J, rfl, kF_r _ _, fun r hr => ⟨fun q => Or.inl q, fun q => by
          rcases q with q | q
          · exact q
          · omega⟩⟩
      · have c' : ¬ pm_u I 33 2 124 25 1 ≤ nI s := by rw [h1']; exact nI_ge (by omega) (by omega)
        have pu := cm_put (I := pm_u I 33 2 124) (J := J) (t := 120) (s := s) (by omega) (by omega)
        have pu1 : pCm_put (120 : Int32) (nI s) (pm_u I 33 2 124) J := pu.1
        obtain ⟨z1, J', z2, z3, z4⟩ := ih (s + 1) (fCm_put (nI 120) (nI s) (pm_u I 33 2 124) J) (by omega) (by omega)
        rw [if_neg c']
        unfold pCm_begin_32 fCm_begin_32
        rw [nI_i1]
        refine ⟨⟨fun q => absurd q c', fun _ => ⟨pu1, z1⟩⟩, J', z2, kF_t pu.2.1 z3, fun r hr => ?_⟩
        rw [z4 r hr, pu.2.2 r hr, Bool.or_eq_true, decide_eq_true_iff]
        constructor
        · rintro ((q | q) | q)
          · exact Or.inl q
          · exact Or.inr (by omega)
          · exact Or.inr (by omega)
        · rintro (q | q)
          · exact Or.inl (Or.inl q)
          · by_cases cr : r = s
            · exact Or.inl (Or.inr cr)
            · exact Or.inr (by omega)
  obtain ⟨z1, J', z2, z3, z4⟩ := lp 257 0 (fCm_empty 5 (nI 120) (pm_u I 33 2 124) J) (Nat.zero_le _) (by omega)
  refine ⟨⟨em.1, z1⟩, J', z2, ⟨by rw [pm_u_s]; rfl, Nat.zero_le _, trivial, fun s hs => ?_, fun f hf => (by cases hf)⟩, kF_t em.2.1 z3⟩
  rw [Bool.eq_iff_iff, z4 s hs, em.2.2 s hs, decide_eq_true_iff]
  constructor
  · rintro (q | q)
    · exact absurd q (by decide)
    · exact q.2
  · exact fun q => Or.inr ⟨Nat.zero_le _, q⟩
/-- the values and steps that a circuit says -/
def aE (Nm : NmT) (rb ib : Nat) (D : List Itm) : Nat → Nat → BitVec 8 := fun c => En Nm rb ib D (c / 2 ^ ib) (c % 2 ^ ib)
def aN (Nm : NmT) (rb ib : Nat) (D : List Itm) : Nat → Nat → Nat := fun s i => nxN Nm (vD (aE Nm rb ib D) (fun c => fC Nm rb ib c) D (s * 2 ^ ib + i)) Nm.length
def wF (I I' : Mm) : Prop := (∀ a, a ≠ 0 → a ≠ 22 → a ≠ 24 → a ≠ 25 → a ≠ 26 → a ≠ 27 → a ≠ 28 → a ≠ 29 → a ≠ 30 → a ≠ 31 → a ≠ 32 → a ≠ 33 → a ≠ 35 → a ≠ 36 → a ≠ 37 → I' a = I a) ∧ ∀ j, j ≠ 7 → I' 0 j = I 0 j
/-- what the class holds behind workOut -/
def CW (Nm : NmT) (rb ib fi sp : Nat) (nx : Nat → Nat → Nat) (E : Nat → Nat → BitVec 8) (SS : Nat → Se) (I : Mm) (J : Ml) : Prop := cN (2 ^ rb) (2 ^ ib) ib nx I ∧ (∃ O q d, bO fi (2 ^ rb) (2 ^ ib) nx (O.length * 2 ^ ib) O q d ∧ bR fi (2 ^ rb) (2 ^ ib) O q d I ∧ ∀ x ∈ O, d x < O.length) ∧ (∀ k, k < Nm.length → kd Nm k ≠ 33 → ∀ c, c < 2 ^ (rb + ib) → lv J (k * 256) c = E c k) ∧ ∀ k, k < sp → ∀ s, s < 256 → sB J (4 * k) s = SS k s
theorem cA_cod {q : Nat} {I : Mm} {C : Cd} (h : cod I q C) : cA q I 0 C := fun j x hx => by rw [Nat.zero_add]; exact h j x hx
set_option maxHeartbeats 4000000 in
theorem cw_out {Nm : NmT} {rb ib fi sp : Nat} {D : List Itm} {SP : List Cd} {SS : Nat → Se} {I : Mm} (J : Ml) (hC : cC Nm rb ib I) (hfi : fi < 2 ^ rb) (h10 : I 3 10 = nI fi) (hD : dW Nm 0 D) (h7 : I 7 2 = nI (flI D).length) (hc7 : cod I 7 (flI D)) (hl7 : (flI D).length ≤ 4000) (h102 : I 10 2 = nI (flS SP 0).length) (hc10 : cod I 10 (flS SP 0)) (hl10 : (flS SP 0).length ≤ 4000) (hsp : SP.length = sp) (h30 : sp ≤ 30) (hG : ∀ g C, SP[g]? = some C → gS Nm g C) (hSS : ∀ k s, SS k s = true → s < 2 ^ rb) (hrun : ∀ g C, SP[g]? = some C → ∀ v ss, runF (2 ^ rb) (2 ^ ib) (aN Nm rb ib D) (aE Nm rb ib D) SS C v ss = (v, SS g :: ss)) : pCh_workOut I J ∧ wF I (fCh_workOut I J).1 ∧ CW Nm rb ib fi sp (aN Nm rb ib D) (aE Nm rb ib D) SS (fCh_workOut I J).1 (fCh_workOut I J).2 ∧ (fCh_workOut I J).1 0 7 = nI fi ∧ (fCh_workOut I J).1 37 2 = 0 ∧ (fCh_workOut I J).1 37 3 = 0 := by
  have r8 := hC.2.2.2.2.2.2.1
  have b3 := hC.2.2.2.2.2.2.2.1
  have hb := hC.2.2.2.2.1
  have n60 := hC.2.1
  have p8 : 2 ^ rb ≤ 2 ^ 8 := Nat.pow_le_pow_right (by decide) r8
  have p3 : 2 ^ ib ≤ 2 ^ 3 := Nat.pow_le_pow_right (by decide) b3
  have pos : 0 < 2 ^ ib := Nat.two_pow_pos _
  have pnm : 2 ^ rb * 2 ^ ib = 2 ^ (rb + ib) := (Nat.pow_add _ _ _).symm
  have p11 : 2 ^ (rb + ib) ≤ 2 ^ 11 := Nat.pow_le_pow_right (by decide) (by omega)
  have lgb := lg_b (show rb + ib ≤ 11 by omega)
  -- begin
  obtain ⟨s1, I1, s2, s3, s4, s5, s6, s7⟩ := st_begin (J := J) hC
  have hC1 := cC_c hC (s3 3 (by decide) (by decide)) (s3 4 (by decide) (by decide)) (s3 5 (by decide) (by decide)) (s3 6 (by decide) (by decide))
  obtain ⟨v1, I2, J2, v2, v3, v4, v5, v6⟩ := va_begin (J := J) hC1
  have ga2 : ∀ a, a ≠ 22 → a ≠ 25 → a ≠ 26 → I2 a = I a := fun a h1 h2 h3 => (v4 a h1).trans (s3 a h2 h3)
  have hC2 := cC_c hC (ga2 3 (by decide) (by decide) (by decide)) (ga2 4 (by decide) (by decide) (by decide)) (ga2 5 (by decide) (by decide) (by decide)) (ga2 6 (by decide) (by decide) (by decide))
  -- the logic
  obtain ⟨I3, J3, w1, w2, w3, w4, w5⟩ := items_L (W := lg (rb + ib)) (rb := rb) (ib := ib) lgb.2.2 (E := aE Nm rb ib D) D 0 0 (flI D).length I2 J2 (fun c => fC Nm rb ib c) hD (fun x hx h31 c s => by
      have : (31, x.2.1, x.2.2) ∈ D := by rw [← h31]; exact hx
      exact En_w hD _ _ this s) hC2 (cA_c (cA_cod hc7) (ga2 8 (by decide) (by decide) (by decide)) (ga2 9 (by decide) (by decide) (by decide))) (by rw [ga2 7 (by decide) (by decide) (by decide)]; exact h7) (by omega) hl7 v3 (by rw [v4 25 (by decide)]; exact s6) (fun k hk h33 hk31 c hc => by
      have h31 : kd Nm k ≠ 31 := by
        rcases hk31 with q | q
        · omega
        · exact q
      obtain ⟨x, hx⟩ := gN hk
      have kk : kd Nm k = 29 ∨ kd Nm k = 30 := by
        rw [kd_s hx] at h33 h31 ⊢
        rcases hC.2.2.2.2.2.2.2.2.1 k x hx with w | w | w | w
        · exact Or.inl w.1
        · exact Or.inr w.1
        · exact absurd w.1 h31
        · exact absurd w.1 h33
      rw [v6 k hk kk c hc]
      exact (En_f hD _ _ h31).symm) (fun c hc => by
      rw [v4 26 (by decide), s7 c hc]
      have st : nxN Nm (fC Nm rb ib c) Nm.length = (c / 2 ^ ib) / 2 ^ (bs 29 Nm - bs 29 (Nm.take Nm.length)) := nxN_st (by rw [← hb]; exact Nat.div_lt_of_lt_mul (by rw [Nat.mul_comm, pnm]; exact hc)) (fun k hk h29 => by
        unfold fC fV
        rw [if_pos h29]
        show c / 2 ^ ib / 2 ^ (rb - pt Nm k) % 2 ^ wd Nm k % 2 ^ wd Nm k = _
        rw [Nat.mod_mod, ← hb, ← (cC_r hC hk h29).1]) Nm.length (Nat.le_refl _)
      rw [st, tk_all (Nat.le_refl _), Nat.sub_self, Nat.pow_zero, Nat.div_one])
  have eL : pCh_perform_L 4001 I2 J2 ∧ fCh_perform_L 4001 I2 J2 = (I3, J3) := by
    have e : ∀ n, I3 7 2 = nI (flI D).length → pCh_perform_L_2 (n + 1) (nI (0 + (flI D).length)) I3 J3 ∧ fCh_perform_L_2 (n + 1) (nI (0 + (flI D).length)) I3 J3 = (I3, J3) := by
      intro n h
      rw [pCh_perform_L_2.eq_2, fCh_perform_L_2.eq_2, Nat.zero_add]
      have c : I3 7 2 ≤ nI (flI D).length := by rw [h]; exact nI_le (Nat.le_refl _) (by omega)
      rw [if_pos c]
      exact ⟨⟨fun _ => trivial, fun q => absurd c q⟩, rfl⟩
    have y := w1 (4000 - (flI D).length + 1) (fun X => X = (I3, J3)) (e _ (by rw [w3.1 7 (by decide) (by decide) (by decide), ga2 7 (by decide) (by decide) (by decide)]; exact h7))
    rw [show 4000 - (flI D).length + 1 + (flI D).length = 4001 by omega] at y
    exact y
  have ga3 : ∀ a, a ≠ 22 → a ≠ 24 → a ≠ 25 → a ≠ 26 → I3 a = I a := fun a h1 h2 h3 h4 => (w3.1 a h1 h2 h4).trans (ga2 a h1 h3 h4)
  have g25 : ∀ j, I3 25 j = I1 25 j := fun j => by rw [w3.1 25 (by decide) (by decide) (by decide), v4 25 (by decide)]
  have nb : ∀ v, nxN Nm v Nm.length < 2 ^ rb := fun v => by
    have := nxN_lt (Nm := Nm) (v := v) Nm.length (Nat.le_refl _)
    rw [tk_all (Nat.le_refl _), ← hb] at this
    exact this
  have hN3 : cN (2 ^ rb) (2 ^ ib) ib (aN Nm rb ib D) I3 := ⟨by rw [g25]; exact s4, by omega, by rw [g25]; exact s5, rfl, b3, by rw [ga3 3 (by decide) (by decide) (by decide) (by decide)]; exact hC.2.2.2.1, by rw [pnm]; omega, fun s hs i hi => ⟨w5 _ (by rw [← pnm]; exact cs_lt hs hi), nb _⟩⟩
  -- the steps backwards
  have hT : ∀ c, c < 2 ^ rb * 2 ^ ib → Tn (aN Nm rb ib D) (2 ^ ib) c < 2 ^ rb := fun c hc => nb _
  have T1 := cs_turn (J := J3) (T := Tn (aN Nm rb ib D) (2 ^ ib)) (m := 2 ^ ib) (n := 2 ^ rb) (N := 2 ^ rb * 2 ^ ib) (I := I3) b3 rfl (by rw [pnm]; omega) (by omega) hT hN3.1 (by rw [g25, pnm]; exact s6) hN3.2.2.2.2.2.1 (fun d hd => by
    have := (hN3.2.2.2.2.2.2.2 (d / 2 ^ ib) (Nat.div_lt_of_lt_mul (by rw [Nat.mul_comm]; exact hd)) (d % 2 ^ ib) (Nat.mod_lt _ pos)).1
    have e : d / 2 ^ ib * 2 ^ ib + d % 2 ^ ib = d := by rw [Nat.mul_comm]; exact Nat.div_add_mod _ _
    rw [e] at this
    exact this)
  generalize e4 : fSt_turnBack 2049 257 2049 I3 J3 = I4 at T1
  obtain ⟨t1, t2, t3, t4⟩ := T1
  have hN4 := cN_c hN3 (t2 3 (by decide) (by decide)) (t2 25 (by decide) (by decide)) (t2 26 (by decide) (by decide))
  have hI4 : cIn (2 ^ rb) (2 ^ ib) (aN Nm rb ib D) I4 := ⟨t3, t4⟩
  -- meet all
  have M1 := cs_meetAll (fi := fi) J3 hN4 hfi (by rw [t2 3 (by decide) (by decide), ga3 3 (by decide) (by decide) (by decide) (by decide)]; exact h10)
  generalize e5 : fSt_meetAll 9 257 I4 J3 = I5 at M1
  obtain ⟨m1, O, q, d, m2, m3, m4, m5⟩ := M1
  have hN5 := cN_b hN4 m4
  have hI5 := cIn_c hI4 (m4.1 27 (by decide) (by decide) (by decide) (by decide) (by decide)) (m4.1 28 (by decide) (by decide) (by decide) (by decide) (by decide))
  -- the formulas
  obtain ⟨c1, J6, c2, c3, c4⟩ := cm_bgn (n := 2 ^ rb) (I := I5) J3 hN5.1 (by omega)
  generalize e6 : pm_u I5 33 2 124 = I6 at c2 c3
  have ga6 : ∀ a, a ≠ 33 → I6 a = I5 a := fun a ha => by rw [← e6, pm_u_n _ _ _ ha]
  have ga5 : ∀ a, a ≠ 22 → a ≠ 24 → a ≠ 25 → a ≠ 26 → a ≠ 27 → a ≠ 28 → a ≠ 29 → a ≠ 30 → a ≠ 31 → a ≠ 32 → I5 a = I a := fun a h1 h2 h3 h4 h5 h6 h7 h8 h9 h10 => (m4.1 a h3 h7 h8 h9 h10).trans ((t2 a h5 h6).trans (ga3 a h1 h2 h3 h4))
  have i22 : I5 22 = I3 22 := by rw [m4.1 22 (by decide) (by decide) (by decide) (by decide) (by decide), t2 22 (by decide) (by decide)]
  have i24 : I5 24 = I3 24 := by rw [m4.1 24 (by decide) (by decide) (by decide) (by decide) (by decide), t2 24 (by decide) (by decide)]
  have hF6 : fST Nm (2 ^ rb) (2 ^ ib) ib (lg (rb + ib)) (aN Nm rb ib D) (aE Nm rb ib D) SS 0 I6 J6 [] := ⟨vT_c w2 (by rw [ga6 22 (by decide), i22]) (by rw [ga6 24 (by decide), i24]) (c4.1 23 (by decide)), c3, cN_c hN5 (ga6 3 (by decide)) (ga6 25 (by decide)) (ga6 26 (by decide)), cIn_c hI5 (ga6 27 (by decide)) (ga6 28 (by decide)), fun k hk h33 c hc => by unfold lv; rw [c4.1 23 (by decide)]; exact w4 k hk h33 c hc, fun k hk => absurd hk (Nat.not_lt_zero _)⟩
  have i10 : ∀ a, 10 ≤ a → a ≤ 12 → I6 a = I a := fun a h1 h2 => by rw [ga6 a (by omega), ga5 a (by omega) (by omega) (by omega) (by omega) (by omega) (by omega) (by omega) (by omega) (by omega) (by omega)]
  obtain ⟨I7, J7, f1, f2, f3⟩ := specs_F hSS n60 (by rw [pnm]; exact lgb.2.2) SP 0 0 (flS SP 0).length I6 J6 (fun j C hj => by
      rw [Nat.zero_add]
      exact ⟨hG j C hj, hrun j C hj⟩) (by omega) (cA_c (cA_cod hc10) (i10 11 (by decide) (by decide)) (i10 12 (by decide) (by decide))) (by rw [i10 10 (by decide) (by decide)]; exact h102) (by omega) hl10 hF6
  rw [Nat.zero_add, hsp] at f2
  have eF : pCh_perform_F 4001 I6 J6 ∧ fCh_perform_F 4001 I6 J6 = (I7, J7) := by
    have e : ∀ n, I7 10 2 = nI (flS SP 0).length → pCh_perform_F_2 (n + 1) (nI (0 + (flS SP 0).length)) I7 J7 ∧ fCh_perform_F_2 (n + 1) (nI (0 + (flS SP 0).length)) I7 J7 = (I7, J7) := by
      intro n h
      rw [pCh_perform_F_2.eq_2, fCh_perform_F_2.eq_2, Nat.zero_add]
      have c : I7 10 2 ≤ nI (flS SP 0).length := by rw [h]; exact nI_le (Nat.le_refl _) (by omega)
      rw [if_pos c]
      exact ⟨⟨fun _ => trivial, fun q => absurd c q⟩, rfl⟩
    have y := f1 (4000 - (flS SP 0).length + 1) (fun X => X = (I7, J7)) (e _ (by rw [f3.1 10 (by decide) (by decide) (by decide) (by decide) (by decide), i10 10 (by decide) (by decide)]; exact h102))
    rw [show 4000 - (flS SP 0).length + 1 + (flS SP 0).length = 4001 by omega] at y
    exact y
  have i310 : I7 3 10 = nI fi := by rw [f3.1 3 (by decide) (by decide) (by decide) (by decide) (by decide), ga6 3 (by decide), ga5 3 (by decide) (by decide) (by decide) (by decide) (by decide) (by decide) (by decide) (by decide) (by decide) (by decide)]; exact h10
  unfold pCh_workOut fCh_workOut pCh_workOut_7 fCh_workOut_7
  rw [s2, v2]
  unfold pCh_workOut_14 fCh_workOut_14
  dsimp only
  rw [eL.2]
  unfold pCh_workOut_25 fCh_workOut_25 pSt_finish fSt_finish pSt_finish_4 fSt_finish_4
  dsimp only
  rw [e4, e5]
  unfold pCh_workOut_32 fCh_workOut_32
  rw [c2]
  unfold pCh_workOut_39 fCh_workOut_39
  dsimp only
  rw [eF.2]
  unfold pCh_workOut_50 fCh_workOut_50 pTr_forget fTr_forget
  dsimp only
  rw [i310]
  generalize e8 : pm_u (pm_u (pm_u I7 0 7 (nI fi)) 37 3 0) 37 2 0 = I8
  have ga8 : ∀ a, a ≠ 0 → a ≠ 37 → I8 a = I7 a := fun a h1 h2 => by rw [← e8, pm_u_n _ _ _ h2, pm_u_n _ _ _ h2, pm_u_n _ _ _ h1]
  have i7 : ∀ a, a = 25 ∨ a = 26 ∨ a = 29 ∨ a = 30 ∨ a = 31 ∨ a = 32 → I8 a = I5 a := fun a ha => by rw [ga8 a (by omega) (by omega), f3.1 a (by omega) (by omega) (by omega) (by omega) (by omega), ga6 a (by omega)]
  refine ⟨⟨s1, v1, eL.1, ⟨t1, m1, trivial⟩, c1, eF.1, trivial, trivial⟩, ⟨fun a h0 h22 h24 h25 h26 h27 h28 h29 h30 h31 h32 h33 h35 h36 h37 => ?_, fun j hj => ?_⟩, ⟨cN_c f2.2.2.1 (ga8 3 (by decide) (by decide)) (ga8 25 (by decide) (by decide)) (ga8 26 (by decide) (by decide)), ⟨O, q, d, m2, ?_, m5⟩, fun k hk h33 c hc => f2.2.2.2.2.1 k hk h33 c (by omega), f2.2.2.2.2.2⟩, ?_, ?_, ?_⟩
  · rw [ga8 a h0 h37, f3.1 a h22 h24 h33 h35 h36, ga6 a h33, ga5 a h22 h24 h25 h26 h27 h28 h29 h30 h31 h32]
  · rw [← e8, pm_u_n _ _ _ (by decide), pm_u_n _ _ _ (by decide), pm_u_j _ _ _ hj, f3.1 0 (by decide) (by decide) (by decide) (by decide) (by decide), ga6 0 (by decide), ga5 0 (by decide) (by decide) (by decide) (by decide) (by decide) (by decide) (by decide) (by decide) (by decide) (by decide)]
  · unfold bR at m3 ⊢
    rw [i7 25 (by decide), i7 29 (by decide), i7 30 (by decide), i7 31 (by decide), i7 32 (by decide)]
    exact m3
  · rw [← e8, pm_u_n _ _ _ (by decide), pm_u_n _ _ _ (by decide), pm_u_s]
  · rw [← e8, pm_u_s]
  · rw [← e8, pm_u_j _ _ _ (by decide), pm_u_s]
