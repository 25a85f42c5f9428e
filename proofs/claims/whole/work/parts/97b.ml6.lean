/-! MODEL'S LINES 6: next -/
theorem cnt_ne {kd : Nat} {Nm : NmT} {k1 k2 : Nat} {x1 x2 : Nat × Nat × Nat × Nat} (h1 : Nm[k1]? = some x1) (h2 : Nm[k2]? = some x2) (e1 : x1.2.1 = kd) (e2 : x2.2.1 = kd) (hne : k1 ≠ k2) : cnt kd (Nm.take k1) ≠ cnt kd (Nm.take k2) := by
  rcases Nat.lt_or_gt_of_ne hne with h | h
  · have a := cnt_lt (Nm.take k2) k1 x1 (by rw [List.getElem?_take, if_pos h]; exact h1) e1
    rw [List.take_take, Nat.min_eq_left (by omega)] at a
    omega
  · have a := cnt_lt (Nm.take k1) k2 x2 (by rw [List.getElem?_take, if_pos h]; exact h2) e2
    rw [List.take_take, Nat.min_eq_left (by omega)] at a
    omega
theorem mkd_1 : ∀ k, k < 50 → (nI (mkd k) = 1 ↔ k = 29) := by decide +kernel
theorem l_noN {b : Nat → Nat} {L i : Nat} (h : tK b L i ≠ 47) : l_no (tB b L) i = lf 1 i := if_neg h
theorem l_noF {b : Nat → Nat} {L i : Nat} (h : tK b L i = 47) : l_no (tB b L) i = lf 4 i := if_pos h
section
variable {b : Nat → Nat} {L : Nat} {n : Nat}
set_option maxHeartbeats 8000000 in
theorem ml_next {s : LSt} {N : Nat} {F : FT} {RB : List (Nat × Nat)} {D : List Itm} {SP : List Cd} {M : Mm} (hE : bE (tB b L) n) (hW : lW n s) (h : mL b L s N F RB D SP M) (hq : mQ b L s.1 M) (hk : tK b L s.1 = 32) (hN : N ≤ s.1) (hF : F.length ≤ s.1) : pMo_next M ∧ MLr b L n s M (sp_next (tB b L) s) (fMo_next M) := by
  obtain ⟨i, co, Nm, CL, CF, Hn, rb, ib, sp, fi⟩ := s
  obtain ⟨w1, w2, w3, w4, w5, w6, w7, w8, w9, w10, w11⟩ := hW
  obtain ⟨hT, hc, hn, hr, hd, hs⟩ := h
  dsimp only at hq hk hN hF
  have hn4 := hE.2.1
  unfold pMo_next fMo_next
  unfold sp_next
  dsimp only
  by_cases hp : co + 8 ≤ 3000
  rotate_left
  · rw [if_neg hp]
    have x := m_pay1 (p := 8) hT.1.2.2.1 hq hp (by omega)
    exact mq1 x.1 (by rw [show (8 : Int32) = nI 8 from rfl, x.2.1]; decide) (Or.inl ⟨4, i, by decide, rfl, x.2.1, x.2.2.1, x.2.2.2⟩)
  rw [if_pos hp]
  have x := m_pay0 (p := 8) hT.1.2.2.1 hp
  have x2 : fMo_pays (8 : Int32) M = (0, 0, pm_u M 40 11 (nI (co + 8))) := x.2
  rw [x2]
  refine mq0 x.1 rfl ?_
  dsimp only
  have fp : ∀ a, a ≠ 40 → (pm_u M 40 11 (nI (co + 8))) a = M a := fun a h1 => pm_u_n _ _ _ h1
  have S3 : mS b L Nm i (co + 8) N (pm_u M 40 11 (nI (co + 8))) := mS_u hT.1 (fun j h1 _ _ => pm_u_j _ _ _ h1) (fun a h1 _ => fp a h1) (pm_u_s _ _ _ _) (by rw [pm_u_j _ _ _ (by decide)]; exact hT.1.2.2.2.1)
  have F3 : mF N M (pm_u M 40 11 (nI (co + 8))) := ⟨fun a h1 _ => fp a h1, fun j h1 h2 => pm_u_j _ _ _ (by omega), fun a k _ h2 _ => by rw [fp a (by omega)]⟩
  have q3 : mQ b L i (pm_u M 40 11 (nI (co + 8))) := by
    refine ⟨?_, ?_, ?_, ?_, ?_, ?_, hq.2.2.2.2.2.2⟩
    · rw [pm_u_j _ _ _ (by decide)]; exact hq.1
    · rw [pm_u_j _ _ _ (by decide)]; exact hq.2.1
    · rw [pm_u_j _ _ _ (by decide)]; exact hq.2.2.1
    · rw [pm_u_j _ _ _ (by decide)]; exact hq.2.2.2.1
    · rw [pm_u_j _ _ _ (by decide)]; exact hq.2.2.2.2.1
    · rw [pm_u_j _ _ _ (by decide)]; exact hq.2.2.2.2.2.1
  generalize pm_u M 40 11 (nI (co + 8)) = M0 at S3 F3 q3 fp
  have T0 := mT_F hT F3 S3 (Nat.le_refl _)
  unfold pMo_next_6 fMo_next_6
  obtain ⟨t1, M1, t2, t3, t4⟩ := m_take q3 (by omega)
  rw [t2]
  refine mq0 t1 rfl ?_
  dsimp only
  have T1 := mT_f T0 t4 (Or.inl t3)
  have mw1 : mw M M1 := mw_t (mF_w F3) (mfr_w t4)
  have i1 : i + 1 < n := tEnd_s (bE_T hE Nm) w2.1 (show tK b L i < 45 by omega)
  have k48 : tK b L (i + 1) < 48 := hE.2.2.1 _ i1
  unfold pMo_next_10 fMo_next_10
  have eb : (tB b L).1 (i + 1) = tK b L (i + 1) := rfl
  rw [eb]
  by_cases k47 : tK b L (i + 1) = 47
  · have p := m_pk47 T1.1.1 (by omega) T1.1.2.1 k47
    rw [if_neg (by omega), l_noF k47]
    exact mq1 p.1 (by rw [p.2.1]; decide) (Or.inl ⟨4, _, by decide, rfl, p.2.1, p.2.2.1, mw_t mw1 p.2.2.2⟩)
  obtain ⟨M2, p1, p2, p3, p4⟩ := m_pk T1.1.1 (by omega) T1.1.2.1 k47
  rw [p2]
  refine mq0 p1 rfl ?_
  dsimp only
  have T2 := mT_f T1 p4 (Or.inr p3)
  have mw2 := mw_t mw1 (mfr_w p4)
  have cn := m_cant p3
  have cnt0 : ∀ (X : LR), X = lf 1 (i + 1) → pMo_next_25 M2 ∧ MLr b L n (i, co, Nm, CL, CF, Hn, rb, ib, sp, fi) M X (fMo_next_25 M2) := by
    intro X hX
    unfold pMo_next_25 fMo_next_25
    rw [cn.2, hX]
    exact ⟨cn.1, Or.inl ⟨1, _, by decide, rfl, rfl, rfl, mw2⟩⟩
  unfold pMo_next_14 fMo_next_14
  by_cases kw : 29 ≤ tK b L (i + 1) ∧ tK b L (i + 1) ≤ 43
  rotate_left
  · rw [if_neg (by omega), l_noN k47]
    exact itn (fun q => kw ((mt_1 _ k48).1.mp q)) (cnt0 _ rfl)
  refine itp ((mt_1 _ k48).1.mpr kw) ?_
  have rs := m_reserved T2.1.1 p3
  rw [rs.2]
  refine mq0 rs.1 rfl ?_
  dsimp only
  unfold pMo_next_22 fMo_next_22
  by_cases k43 : tK b L (i + 1) = 43
  rotate_left
  · rw [if_neg k43, l_noN k47, if_pos (show 29 ≤ tK b L (i + 1) ∧ tK b L (i + 1) ≤ 42 by omega)]
    exact itn (by decide) (cnt0 _ rfl)
  rw [if_pos k43, if_neg (show ¬ (29 ≤ tK b L (i + 1) ∧ tK b L (i + 1) ≤ 42) by omega)]
  refine itp rfl ?_
  have nm := m_named T2.1.1 p3 T2.1.2.2.2.2.1
  refine sq nm.1 ?_
  have n2 := nm.2
  unfold pMo_next_63 fMo_next_63
  cases ho : fnd (tB b L).2.2 Nm 0 (i + 1) with
  | none =>
    rw [ho] at n2
    dsimp only at n2 ⊢
    rw [n2]
    exact itp (by decide) ⟨trivial, Or.inl ⟨2, _, by decide, rfl, rfl, p3.2.2.2.1, mw2⟩⟩
  | some k =>
    have kl := fnd_lt Nm 0 (i + 1) k ho
    obtain ⟨y, hy⟩ : ∃ y, Nm[k]? = some y := ⟨_, List.getElem?_eq_getElem (by omega)⟩
    rw [ho] at n2
    dsimp only at n2 ⊢
    have hyk := nW_k w3 k y hy
    have g4 := T2.1.2.2.2.2.2 k y hy
    have v6 : vp_in (nI k) 60 := vp_in_nI (by omega) (by decide)
    rw [n2, getD_some hy, nI_clamp (n := k) (by omega), g4]
    refine itn (nI_pos (by omega)) (sq v6 ?_)
    have mk := mkd_1 y.2.1 (by omega)
    by_cases c29 : y.2.1 = 29
    rotate_left
    · rw [if_neg c29]
      exact itn (fun q => c29 (mk.mp q)) ⟨trivial, Or.inl ⟨2, _, by decide, rfl, rfl, p3.2.2.2.1, mw2⟩⟩
    rw [if_pos c29]
    refine itp (mk.mpr c29) (sq v6 ?_)
    have o := hn k y hy
    have c8 : cnt 29 (Nm.take k) < 8 := by
      have a1 := cnt_lt Nm k y hy c29
      have a2 := nW_1 (Or.inl rfl) w3
      omega
    have ra2 : ∀ a, a ≠ 40 → M2 a = M a := fun a ha => by rw [p4.1 a ha, t4.1 a ha, fp a ha]
    have e45 : M2 45 k = nI (cnt 29 (Nm.take k)) := by rw [ra2 45 (by decide), o.1, c29]
    have v8 : vp_in (nI (cnt 29 (Nm.take k))) 8 := vp_in_nI c8 (by decide)
    rw [e45, nI_clamp (n := cnt 29 (Nm.take k)) (by omega), ra2 48 (by decide)]
    refine sq v8 ?_
    by_cases cm : k ∈ Hn
    · rw [if_pos cm]
      obtain ⟨e, he, h48⟩ := (o.2.1 c29).2.2 cm
      rw [h48]
      exact itn (nI_pos (by omega)) ⟨trivial, Or.inl ⟨2, _, by decide, rfl, rfl, p3.2.2.2.1, mw2⟩⟩
    rw [if_neg cm, (o.2.1 c29).2.1 cm]
    refine itp (by decide) ?_
    obtain ⟨t1', M3, t2', t3', t4'⟩ := m_take p3 (by omega)
    rw [t2']
    refine mq0 t1' rfl ?_
    dsimp only
    have T3 := mT_f T2 t4' (Or.inl t3')
    have mw3 := mw_t mw2 (mfr_w t4')
    have i2 : i + 1 + 1 < n := tEnd_s (bE_T hE Nm) i1 (show tK b L (i + 1) < 45 by omega)
    unfold pMo_next_80 fMo_next_80
    by_cases k1 : tK b L (i + 1 + 1) = 2
    rotate_left
    · obtain ⟨x1, e, he, x2, x3, x4, x5⟩ := m_mf Nm (v := 61) (s := 2) rfl (by decide) T3.1.1 (by omega) (hE.2.2.1 _ i2) T3.1.2.1 k1
      rw [l_exf Nm k1 x5]
      exact mq1 x1 (by rw [x2]; exact e9 he.1 he.2) (Or.inl ⟨e, _, he, rfl, x2, x3, mw_t mw3 x4⟩)
    rw [l_exs k1]
    obtain ⟨x1, M4, x2, x3, x4⟩ := m_ms (v := 61) (s := 2) rfl (by decide) T3.1.1 (by omega) (hE.2.2.1 _ i2) T3.1.2.1 k1
    rw [x2]
    refine mq0 x1 rfl ?_
    dsimp only
    have T4 := mT_f T3 x4 (Or.inl x3)
    have mw4 := mw_t mw3 (mfr_w x4)
    have i3 : i + 1 + 1 + 1 < n := tEnd_s (bE_T hE Nm) i2 (show tK b L (i + 1 + 1) < 45 by omega)
    have ra : ∀ a, a ≠ 40 → M4 a = M a := fun a ha => by rw [x4.1 a ha, t4'.1 a ha, ra2 a ha]
    have rj : ∀ j, 11 < j → j ≠ 34 → M4 40 j = M 40 j := fun j hj h34 => by rw [x4.2 j (by omega), t4'.2 j (by omega), p4.2 j (by omega), t4.2 j (by omega)]; exact F3.2.1 j (by omega) h34
    have e45' : M4 45 k = nI (cnt 29 (Nm.take k)) := by rw [ra 45 (by decide), o.1, c29]
    unfold pMo_next_86 fMo_next_86 pme_Mo_expression fme_Mo_expression
    rw [nI_clamp (n := k) (by omega), e45']
    refine sq v6 ?_
    have h9 := sp_fuE (bE_T hE Nm) 600 0 0 0 (i + 1 + 1 + 1) (co + 8) (by omega) (by omega) (by omega) (by omega) (by omega) i3 hp
    have u := HM0 (meE hE (Or.inl rfl) (nW_k w3) 600) (d := 0) (i := i + 1 + 1 + 1) (co := co + 8) (N := N) (by omega) i3 hp (by omega) h9 T4.1
    have nc : (sp_E (tT (tB b L) Nm) 600 0 0 0 (i + 1 + 1 + 1) (co + 8)).1 = 0 → nC (sp_E (tT (tB b L) Nm) 600 0 0 0 (i + 1 + 1 + 1) (co + 8)).2.2.2.2 := fun e => sp_nC e
    have ln := sp_len (bE_T hE Nm) 600 0 0 0 (i + 1 + 1 + 1) (co + 8) i3 hp
    rw [nI_0] at u
    generalize me_F 600 0 0 0 M4 = q at u
    generalize sp_E (tT (tB b L) Nm) 600 0 0 0 (i + 1 + 1 + 1) (co + 8) = r at u ln h9 nc ⊢
    unfold l_x
    by_cases e1 : r.1 = 0
    rotate_left
    · rw [if_neg e1]
      have z := u.2.2 e1
      exact mq1 u.1 (by rw [z.1]; exact e9 e1 z.2.2.2) (Or.inl ⟨r.1, r.2.1, ⟨e1, z.2.2.2⟩, rfl, z.1, z.2.1, mw_t mw4 z.2.2.1⟩)
    rw [if_pos e1]
    have l1 := ln e1
    have nc1 := nc e1
    obtain ⟨z1, e, N', z2, z3, z4, z5, z6, z7, z8, z9⟩ := u.2.1 e1
    refine mq0 u.1 z1 ?_
    clear u ln h9 nc
    obtain ⟨re, rw', rj', rc, rC⟩ := r
    dsimp only at l1 z3 z6 z7 nc1 ⊢
    generalize q.2.2.2 = Q at z3 z7 z8 z9 ⊢
    have T5 := mT_F T4 z9 z3 (by omega)
    have mw5 := mw_t mw4 (mF_w z9)
    have e42 := z7.2.1
    unfold pMo_next_101 fMo_next_101
    rw [z2, nI_clamp (n := cnt 29 (Nm.take k)) (by omega)]
    generalize e6 : pm_u Q 48 (cnt 29 (Nm.take k)) (nI e) = M6
    have ga : ∀ a, a ≠ 48 → M6 a = Q a := fun a h1 => by rw [← e6, pm_u_n _ _ _ h1]
    have g48 : M6 48 (cnt 29 (Nm.take k)) = nI e := by rw [← e6, pm_u_s]
    have g48' : ∀ j, j ≠ cnt 29 (Nm.take k) → M6 48 j = Q 48 j := fun j hj => by rw [← e6, pm_u_j _ _ _ hj]
    have qM : ∀ a, 40 < a → a < 52 → Q a = M a := fun a h1 h2 => (z9.1 a (by omega) (by omega)).trans (ra a (by omega))
    have gM : ∀ a, 40 < a → a < 52 → a ≠ 48 → M6 a = M a := fun a h1 h2 h3 => (ga a h3).trans (qM a h1 h2)
    have gk : ∀ a k, 52 ≤ a → a ≤ 56 → k < N → M6 a k = M a k := fun a k h1 h2 h3 => by rw [ga a (by omega), z9.2.2 a k h3 h1 h2, ra a (by omega)]
    have fj : ∀ j, 16 < j → j ≠ 34 → M6 40 j = M 40 j := fun j h1 h3 => by rw [ga 40 (by decide), z9.2.1 j (by omega) h3, rj j (by omega) h3]
    have i4 : rj' < n := l1.2.2.1
    have T6 : mT b L Nm rj' rc N' F M6 := mT_n T5 ⟨mBy_c T5.1.1 (by rw [ga 40 (by decide)]) (ga 41 (by decide)) (by rw [ga 40 (by decide)]) (by rw [ga 40 (by decide)]), mN_u T5.1.2.1 (fun j _ _ => by rw [ga 40 (by decide)]), by rw [ga 40 (by decide)]; exact T5.1.2.2.1, by rw [ga 40 (by decide)]; exact T5.1.2.2.2.1, ⟨by rw [ga 40 (by decide)]; exact T5.1.2.2.2.2.1.1, T5.1.2.2.2.2.1.2.1, fun k x hx => by rw [ga 42 (by decide), ga 43 (by decide)]; exact T5.1.2.2.2.2.1.2.2 k x hx⟩, fun k x hx => by rw [ga 44 (by decide)]; exact T5.1.2.2.2.2.2 k x hx⟩ (by rw [ga 40 (by decide)]) (fun a h1 h2 => ga a (by omega)) (fun k x hx h33 => by rw [ga 45 (by decide)]; exact T5.2.2.2 k x hx h33) (mU_c T5.2.2.1.2 (ga 51 (by decide)))
    have hML : mL b L (rj', rc, Nm, CL ++ (rC ++ [(32, k)]), CF, k :: Hn, rb, ib, sp, fi) N' F RB (D ++ [(32, k, rC)]) SP M6 := by
      refine ⟨T6, ⟨?_, ?_, ?_, ?_, ?_, ?_⟩, ?_, ⟨hr.1, hr.2.1, ?_⟩, ⟨?_, ?_⟩, hs.1, hs.2.1, ?_⟩
      · rw [fj 23 (by decide) (by decide)]; exact hc.1
      · rw [fj 24 (by decide) (by decide)]; exact hc.2.1
      · rw [fj 25 (by decide) (by decide)]; exact hc.2.2.1
      · rw [fj 26 (by decide) (by decide)]; exact hc.2.2.2.1
      · rw [fj 27 (by decide) (by decide)]; exact hc.2.2.2.2.1
      · rw [fj 28 (by decide) (by decide)]; exact hc.2.2.2.2.2
      · intro k' x hx
        have o' := hn k' x hx
        rw [gM 45 (by decide) (by decide) (by decide), gM 46 (by decide) (by decide) (by decide), gM 49 (by decide) (by decide) (by decide)]
        refine ⟨o'.1, fun e29 => ?_, o'.2.2⟩
        have o2 := o'.2.1 e29
        by_cases ek : k' = k
        · refine ⟨o2.1, fun q => absurd (by rw [ek]; exact List.mem_cons_self) q, fun _ => ⟨e, e42, ?_⟩⟩
          rw [ek]; exact g48
        · rw [g48' _ (cnt_ne hx hy e29 c29 ek), qM 48 (by decide) (by decide)]
          refine ⟨o2.1, fun q => o2.2.1 (fun q2 => q (List.mem_cons_of_mem _ q2)), fun q => o2.2.2 ?_⟩
          rcases List.mem_cons.mp q with q | q
          · exact absurd q ek
          · exact q
      · intro r y hy
        rw [gM 46 (by decide) (by decide) (by decide), gM 47 (by decide) (by decide) (by decide)]
        exact hr.2.2 r y hy
      · rw [flI_app, ← hd.1]
      · intro x hx
        rcases List.mem_append.mp hx with hx | hx
        · obtain ⟨h0, h1, e', lo, h2, h3, h4⟩ := hd.2 x hx
          refine ⟨h0, h1, e', lo, Ev_c h2 (fun k _ hk => ⟨gk 52 k (by decide) (by decide) (by omega), gk 53 k (by decide) (by decide) (by omega), gk 54 k (by decide) (by decide) (by omega), fun _ => ⟨gk 55 k (by decide) (by decide) (by omega), gk 56 k (by decide) (by decide) (by omega)⟩⟩) (Nat.le_refl _) (Nat.le_refl _), by omega, ?_⟩
          rcases h4 with ⟨a1, a2, a4⟩ | ⟨a1, a2, a3⟩
          · exact Or.inl ⟨a1, a2, by rw [gM 50 (by decide) (by decide) (by decide)]; exact a4⟩
          · obtain ⟨y', b1, b2⟩ := w11 _ a2
            have nek : x.2.1 ≠ k := fun q => cm (by rw [← q]; exact a2)
            exact Or.inr ⟨a1, List.mem_cons_of_mem _ a2, by rw [g48' _ (cnt_ne b1 hy b2 c29 nek), qM 48 (by decide) (by decide)]; exact a3⟩
        · rw [List.mem_singleton.mp hx]
          exact ⟨nc1, by show k < Nm.length; omega, e, N, Ev_c z7 (fun k _ _ => ⟨by rw [ga 52 (by decide)], by rw [ga 53 (by decide)], by rw [ga 54 (by decide)], fun _ => ⟨by rw [ga 55 (by decide)], by rw [ga 56 (by decide)]⟩⟩) (Nat.le_refl _) (Nat.le_refl _), z5, Or.inr ⟨rfl, List.mem_cons_self, g48⟩⟩
      · intro g C hg
        rw [gM 51 (by decide) (by decide) (by decide)]
        exact hs.2.2 g C hg
    exact sq v8 ⟨trivial, Or.inr ⟨rj', (rc, Nm, CL ++ (rC ++ [(32, k)]), CF, k :: Hn, rb, ib, sp, fi), N', F, RB, D ++ [(32, k, rC)], SP, rfl, (by show i < rj'; omega), i4, rfl, hML, (by omega), (by omega), mw_t mw5 (fun a ha => ga a (by omega))⟩⟩
end
