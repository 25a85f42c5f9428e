/-! MODEL'S LINES 5: spec -/
section
variable {b : Nat → Nat} {L : Nat} {n : Nat}
set_option maxHeartbeats 8000000 in
theorem ml_spec {s : LSt} {N : Nat} {F : FT} {RB : List (Nat × Nat)} {D : List Itm} {SP : List Cd} {M : Mm} (hE : bE (tB b L) n) (hW : lW n s) (h : mL b L s N F RB D SP M) (hq : mQ b L s.1 M) (hk : tK b L s.1 = 33) (hN : N ≤ s.1) (hF : F.length ≤ s.1) : pMo_spec M ∧ MLr b L n s M (sp_spec (tB b L) s) (fMo_spec M) := by
  obtain ⟨i, co, Nm, CL, CF, Hn, rb, ib, sp, fi⟩ := s
  obtain ⟨w1, w2, w3, w4, w5, w6, w7, w8, w9, w10, w11⟩ := hW
  obtain ⟨hT, hc, hn, hr, hd, hs⟩ := h
  dsimp only at hq hk hN hF
  have hn4 := hE.2.1
  unfold pMo_spec fMo_spec
  unfold sp_spec
  dsimp only
  by_cases c30 : sp < 30
  rotate_left
  · rw [if_neg c30]
    have e30 : sp = 30 := by omega
    exact itp (by rw [hc.2.2.2.1, e30]; rfl) ⟨trivial, Or.inl ⟨4, i, by decide, rfl, rfl, hq.2.2.2.1, fun _ _ => rfl⟩⟩
  rw [if_pos c30]
  refine itn (show ¬ M 40 26 = (30 : Int32) from fun q => by rw [hc.2.2.2.1] at q; have := (nI_eq (a := sp) (b := 30) (by omega) (by decide)).mp q; omega) ?_
  obtain ⟨t1, M1, t2, t3, t4⟩ := m_take hq (by omega)
  rw [t2]
  refine mq0 t1 rfl ?_
  dsimp only
  have T1 := mT_f hT t4 (Or.inl t3)
  have i1 : i + 1 < n := tEnd_s (bE_T hE Nm) w2.1 (show tK b L i < 45 by omega)
  unfold pMo_spec_26 fMo_spec_26
  have dc := m_declare hE i1 T1 (fun q => (q.1 = 0 → pMo_spec_30 q.2.2.1 q.2.2.2) ∧ MLr b L n (i, co, Nm, CL, CF, Hn, rb, ib, sp, fi) M (l_new (tB b L) Nm (i + 1) (fun j => l_ex (tB b L) 2 j (fun j => l_x (sp_F (tT (tB b L) Nm) 260 0 0 j co) (fun j c C => l_ex (tB b L) 0 j (fun j => (0, 0, j, c, Nm ++ [(i + 1, 33, 0, sp)], CL, CF ++ (C ++ [(33, sp)]), Hn, rb, ib, sp + 1, fi)))))) (if q.1 = 0 then fMo_spec_30 q.2.2.1 q.2.2.2 else (q.1, q.2.1, q.2.2.2))) ?_ ?_
  · exact ⟨⟨dc.1, dc.2.1⟩, dc.2.2⟩
  · intro e r he h1 h2 h3 hl
    have ne : ¬ r.1 = 0 := by rw [h1]; exact e9 he.1 he.2
    rw [if_neg ne, hl]
    exact ⟨fun z => absurd z ne, Or.inl ⟨e, i + 1, he, rfl, h1, h2, mw_t (mfr_w t4) h3⟩⟩
  intro hl k43 h60 M2 T2 dc2
  rw [if_pos rfl, hl]
  dsimp only
  refine (fun (z : _ ∧ _) => ⟨fun _ => z.1, z.2⟩) ?_
  have i2 : i + 1 + 1 < n := tEnd_s (bE_T hE Nm) i1 (show tK b L (i + 1) < 45 by omega)
  have mw2 : mw M M2 := mw_t (mfr_w t4) (fun a ha => dc2.1 a (by omega) (by omega))
  unfold pMo_spec_30 fMo_spec_30
  by_cases k1 : tK b L (i + 1 + 1) = 2
  rotate_left
  · obtain ⟨x1, e, he, x2, x3, x4, x5⟩ := m_mf Nm (v := 61) (s := 2) rfl (by decide) T2.1.1 (by omega) (hE.2.2.1 _ i2) T2.1.2.1 k1
    rw [l_exf Nm k1 x5]
    exact mq1 x1 (by rw [x2]; exact e9 he.1 he.2) (Or.inl ⟨e, _, he, rfl, x2, x3, mw_t mw2 x4⟩)
  rw [l_exs k1]
  obtain ⟨x1, M3, x2, x3, x4⟩ := m_ms (v := 61) (s := 2) rfl (by decide) T2.1.1 (by omega) (hE.2.2.1 _ i2) T2.1.2.1 k1
  rw [x2]
  refine mq0 x1 rfl ?_
  dsimp only
  have T3 := mT_f T2 x4 (Or.inl x3)
  have mw3 := mw_t mw2 (mfr_w x4)
  have i3 : i + 1 + 1 + 1 < n := tEnd_s (bE_T hE Nm) i2 (show tK b L (i + 1 + 1) < 45 by omega)
  have rj : ∀ j, 16 < j → M3 40 j = M 40 j := fun j hj => by rw [x4.2 j (by omega), dc2.2.1 j (by omega) (by omega), t4.2 j (by omega)]
  have ra : ∀ a, 44 < a → M3 a = M a := fun a ha => by rw [x4.1 a (by omega), dc2.1 a (by omega) (by omega), t4.1 a (by omega)]
  unfold pMo_spec_37 fMo_spec_37 pmf_Mo_formula fmf_Mo_formula
  have h9 := sp_fuF (bE_T hE Nm) 260 0 0 (i + 1 + 1 + 1) co (by omega) (by omega) (by omega) i3 w2.2
  have u := mfE hE (Or.inr ⟨i + 1, rfl⟩) (nW_k w3) 260 0 0 (i + 1 + 1 + 1) co N F M3 (by omega) (by omega) i3 w2.2 (by omega) (by omega) h9 T3
  have ln := sp_lenF (bE_T hE Nm) 260 0 0 (i + 1 + 1 + 1) co i3 w2.2
  rw [nI_0] at u
  generalize mf_F 260 0 0 0 M3 = q at u
  generalize sp_F (tT (tB b L) Nm) 260 0 0 (i + 1 + 1 + 1) co = r at u ln h9 ⊢
  unfold l_x
  by_cases e1 : r.1 = 0
  rotate_left
  · rw [if_neg e1]
    have z := u.2.2 e1
    exact mq1 u.1 (by rw [z.1]; exact e9 e1 z.2.2.2) (Or.inl ⟨r.1, r.2.1, ⟨e1, z.2.2.2⟩, rfl, z.1, z.2.1, mw_t mw3 z.2.2.1⟩)
  rw [if_pos e1]
  have l1 := ln e1
  obtain ⟨z1, f, N', G, z2, z3, z4, z5, z6, z7, z9⟩ := u.2.1 e1
  refine mq0 u.1 z1 ?_
  clear u ln h9
  obtain ⟨re, rw', rj', rc, rC⟩ := r
  dsimp only at l1 z3 z4 z6 z7 ⊢
  generalize q.2.2.2 = Q at z3 z9 ⊢
  have mw4 := mw_t mw3 (mG_w z9)
  have h26 : M3 40 26 = nI sp := (rj 26 (by decide)).trans hc.2.2.2.1
  have h26' : Q 40 26 = nI sp := (z9.2.1 26 (by decide) (by decide) (by decide)).trans h26
  unfold pMo_spec_50 fMo_spec_50
  rw [h26, h26', z2, nI_clamp (n := sp) (by omega), nI_clamp (n := Nm.length) (by omega), nI_1]
  have v3 : vp_in (nI sp) 30 := vp_in_nI (by omega) (by decide)
  have v6 : vp_in (nI Nm.length) 60 := vp_in_nI h60 (by decide)
  generalize e6 : pm_u (pm_u (pm_u (pm_u Q 51 sp (nI f)) 44 Nm.length (4 : Int32)) 40 26 (nI (sp + 1))) 45 Nm.length (nI sp) = M6
  have ga : ∀ a, a ≠ 40 → a ≠ 44 → a ≠ 45 → a ≠ 51 → M6 a = Q a := fun a h1 h2 h3 h4 => by rw [← e6, pm_u_n _ _ _ h3, pm_u_n _ _ _ h1, pm_u_n _ _ _ h2, pm_u_n _ _ _ h4]
  have gj : ∀ j, j ≠ 26 → M6 40 j = Q 40 j := fun j h1 => by rw [← e6, pm_u_n _ _ _ (by decide), pm_u_j _ _ _ h1, pm_u_n _ _ _ (by decide), pm_u_n _ _ _ (by decide)]
  have g26 : M6 40 26 = nI (sp + 1) := by rw [← e6, pm_u_n _ _ _ (by decide), pm_u_s]
  have g44 : M6 44 Nm.length = 4 := by rw [← e6, pm_u_n _ _ _ (by decide), pm_u_n _ _ _ (by decide), pm_u_s]
  have g45 : M6 45 Nm.length = nI sp := by rw [← e6, pm_u_s]
  have g51 : M6 51 sp = nI f := by rw [← e6, pm_u_n _ _ _ (by decide), pm_u_n _ _ _ (by decide), pm_u_n _ _ _ (by decide), pm_u_s]
  have g44' : ∀ k, k ≠ Nm.length → M6 44 k = Q 44 k := fun k hk => by rw [← e6, pm_u_n _ _ _ (by decide), pm_u_n _ _ _ (by decide), pm_u_j _ _ _ hk, pm_u_n _ _ _ (by decide)]
  have g45' : ∀ k, k ≠ Nm.length → M6 45 k = Q 45 k := fun k hk => by rw [← e6, pm_u_j _ _ _ hk, pm_u_n _ _ _ (by decide), pm_u_n _ _ _ (by decide), pm_u_n _ _ _ (by decide)]
  have g51' : ∀ k, k ≠ sp → M6 51 k = Q 51 k := fun k hk => by rw [← e6, pm_u_n _ _ _ (by decide), pm_u_n _ _ _ (by decide), pm_u_n _ _ _ (by decide), pm_u_j _ _ _ hk]
  have qM : ∀ a, 44 < a → a < 52 → Q a = M a := fun a h1 h2 => (z9.1 a (by omega) (by omega)).trans (ra a h1)
  have gM : ∀ a, 45 < a → a < 52 → a ≠ 51 → M6 a = M a := fun a h1 h2 h3 => (ga a (by omega) (by omega) (by omega) h3).trans (qM a (by omega) h2)
  have gk : ∀ a k, 52 ≤ a → a ≤ 56 → k < N → M6 a k = M a k := fun a k h1 h2 h3 => by rw [ga a (by omega) (by omega) (by omega) (by omega), z9.2.2.1 a k h3 h1 h2, ra a (by omega)]
  have fj : ∀ j, 16 < j → j ≠ 26 → j ≠ 34 → j ≠ 38 → M6 40 j = M 40 j := fun j h1 h2 h3 h4 => (gj j h2).trans ((z9.2.1 j (by omega) h3 h4).trans (rj j h1))
  have i4 : rj' < n := l1.2.2.1
  have hML : mL b L (rj', rc, Nm ++ [(i + 1, 33, 0, sp)], CL, CF ++ (rC ++ [(33, sp)]), Hn, rb, ib, sp + 1, fi) N' (F ++ G) RB D (SP ++ [rC]) M6 := by
    refine ⟨?_, ⟨?_, ?_, ?_, ?_, ?_, ?_⟩, ?_, ⟨?_, hr.2.1, ?_⟩, ⟨hd.1, ?_⟩, ?_, ?_, ?_⟩
    · exact mT_l z3 (fun q hq => gj q (by omega)) (fun a h1 h2 => ga a h1 (by omega) (by omega) (by omega)) g44 g44' g45' (fun _ => g45) (mU_s z3.2.2.1.2 rfl rfl w6 (by rw [← w6]; exact g51) z4.1 (fun q hq => g51' q (by rw [← w6] at hq; exact hq)))
    · rw [fj 23 (by decide) (by decide) (by decide) (by decide), cnt_app, if_neg (by show ¬ (33 : Nat) = 29; decide)]; exact hc.1
    · rw [fj 24 (by decide) (by decide) (by decide) (by decide), cnt_app, if_neg (by show ¬ (33 : Nat) = 30; decide)]; exact hc.2.1
    · rw [fj 25 (by decide) (by decide) (by decide) (by decide), cnt_app, if_neg (by show ¬ (33 : Nat) = 31; decide)]; exact hc.2.2.1
    · exact g26
    · rw [fj 27 (by decide) (by decide) (by decide) (by decide)]; exact hc.2.2.2.2.1
    · rw [fj 28 (by decide) (by decide) (by decide) (by decide)]; exact hc.2.2.2.2.2
    · intro k x hx
      rcases gE_n hx with ⟨c, hy⟩ | ⟨c, hy⟩
      · have o := hn k x hy
        rw [tk_app (by omega), g45' k (by omega), qM 45 (by decide) (by decide), gM 46 (by decide) (by decide) (by decide), gM 48 (by decide) (by decide) (by decide), gM 49 (by decide) (by decide) (by decide)]
        exact o
      · rw [c, hy, tk_app (Nat.le_refl _), tk_all (Nat.le_refl _)]
        exact ⟨by rw [g45, w6], fun q => absurd q (by show ¬ (33 : Nat) = 29; decide), fun q => absurd q (by show ¬ (33 : Nat) = 30; decide)⟩
    · rw [cnt_app, if_neg (by show ¬ (33 : Nat) = 29; decide)]; exact hr.1
    · intro r y hy
      rw [gM 46 (by decide) (by decide) (by decide), gM 47 (by decide) (by decide) (by decide)]
      exact hr.2.2 r y hy
    · exact mLd_n hd.2 w11 z5 (fun lo e he k _ hk => ⟨gk 52 k (by decide) (by decide) (by omega), gk 53 k (by decide) (by decide) (by omega), gk 54 k (by decide) (by decide) (by omega), fun _ => ⟨gk 55 k (by decide) (by decide) (by omega), gk 56 k (by decide) (by decide) (by omega)⟩⟩) (fun k hk => by rw [gM 50 (by decide) (by decide) (by decide)]) (fun k _ => by rw [gM 48 (by decide) (by decide) (by decide)])
    · rw [flS_app, ← hs.1, Nat.zero_add, hs.2.1]
    · rw [List.length_append, hs.2.1]; rfl
    · intro g C hg
      rw [List.getElem?_append] at hg
      by_cases c : g < SP.length
      · rw [if_pos c] at hg
        obtain ⟨f', a1, a2⟩ := hs.2.2 g C hg
        exact ⟨f', by rw [g51' g (by have := hs.2.1; omega), qM 51 (by decide) (by decide)]; exact a1, Fw_a G a2⟩
      · rw [if_neg c] at hg
        rcases Nat.eq_zero_or_pos (g - SP.length) with h0 | h0
        · rw [h0] at hg
          simp only [List.getElem?_cons_zero, Option.some.injEq] at hg
          have eg : g = sp := by have := hs.2.1; omega
          rw [← hg, eg]
          exact ⟨f, g51, z4⟩
        · rw [List.getElem?_eq_none (by simp only [List.length_cons, List.length_nil]; omega)] at hg; cases hg
  exact sq v3 (sq v6 (sq v6 ⟨trivial, Or.inr ⟨rj', (rc, Nm ++ [(i + 1, 33, 0, sp)], CL, CF ++ (rC ++ [(33, sp)]), Hn, rb, ib, sp + 1, fi), N', F ++ G, RB, D, SP ++ [rC], rfl, (by show i < rj'; omega), i4, rfl, hML, (by omega), (by rw [List.length_append]; omega), mw_t mw4 (fun a ha => ga a (by omega) (by omega) (by omega) (by omega))⟩⟩))
end
