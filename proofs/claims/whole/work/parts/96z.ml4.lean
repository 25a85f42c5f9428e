/-! MODEL'S LINES 4: wire -/
theorem cnt_le {kd : Nat} : ∀ l : NmT, cnt kd l ≤ l.length
  | [] => Nat.le_refl _
  | x :: l => by
    rw [cnt, List.length_cons]
    have a := cnt_le (kd := kd) l
    by_cases e : x.2.1 = kd
    · rw [if_pos e]; omega
    · rw [if_neg e]; omega
theorem nW_k {Nm : NmT} (h : ∀ (k : Nat) (x : Nat × Nat × Nat × Nat), Nm[k]? = some x → nW Nm k x) : ∀ (k : Nat) (x : Nat × Nat × Nat × Nat), Nm[k]? = some x → x.2.1 = 29 ∨ x.2.1 = 30 ∨ x.2.1 = 31 ∨ x.2.1 = 33 := by
  intro k x hx
  rcases h k x hx with o | o | o | o
  · exact Or.inl o.1
  · exact Or.inr (Or.inl o.1)
  · exact Or.inr (Or.inr (Or.inl o.1))
  · exact Or.inr (Or.inr (Or.inr o.1))
section
variable {b : Nat → Nat} {L : Nat} {n : Nat}
set_option maxHeartbeats 8000000 in
theorem ml_wire {s : LSt} {N : Nat} {F : FT} {RB : List (Nat × Nat)} {D : List Itm} {SP : List Cd} {M : Mm} (hE : bE (tB b L) n) (hW : lW n s) (h : mL b L s N F RB D SP M) (hq : mQ b L s.1 M) (hk : tK b L s.1 = 31) (hN : N ≤ s.1) (hF : F.length ≤ s.1) : pMo_wire M ∧ MLr b L n s M (sp_wire (tB b L) s) (fMo_wire M) := by
  obtain ⟨i, co, Nm, CL, CF, Hn, rb, ib, sp, fi⟩ := s
  obtain ⟨w1, w2, w3, w4, w5, w6, w7, w8, w9, w10, w11⟩ := hW
  obtain ⟨hT, hc, hn, hr, hd, hs⟩ := h
  dsimp only at hq hk hN hF
  have hn4 := hE.2.1
  unfold pMo_wire fMo_wire
  obtain ⟨t1, M1, t2, t3, t4⟩ := m_take hq (by omega)
  rw [t2]
  refine mq0 t1 rfl ?_
  dsimp only
  have T1 := mT_f hT t4 (Or.inl t3)
  have i1 : i + 1 < n := tEnd_s (bE_T hE Nm) w2.1 (show tK b L i < 45 by omega)
  unfold pMo_wire_4 fMo_wire_4 sp_wire
  dsimp only
  have dc := m_declare hE i1 T1 (fun q => (q.1 = 0 → pMo_wire_8 q.2.2.1 q.2.2.2) ∧ MLr b L n (i, co, Nm, CL, CF, Hn, rb, ib, sp, fi) M (l_new (tB b L) Nm (i + 1) (fun j => l_ex (tB b L) 2 j (fun j => l_x (sp_E (tT (tB b L) Nm) 600 0 0 0 j co) (fun j c C => l_ex (tB b L) 0 j (fun j => (0, 0, j, c, Nm ++ [(i + 1, 31, 0, 0)], CL ++ (C ++ [(31, Nm.length)]), CF, Hn, rb, ib, sp, fi)))))) (if q.1 = 0 then fMo_wire_8 q.2.2.1 q.2.2.2 else (q.1, q.2.1, q.2.2.2))) ?_ ?_
  · exact ⟨⟨dc.1, dc.2.1⟩, dc.2.2⟩
  · intro e r he h1 h2 h3 hl
    have ne : ¬ r.1 = 0 := by rw [h1]; exact e9 he.1 he.2
    rw [if_neg ne, hl]
    exact ⟨fun z => absurd z ne, Or.inl ⟨e, i + 1, he, rfl, h1, h2, mw_t (mfr_w t4) h3⟩⟩
  intro hl k43 h60 M2 T2 dc2
  rw [if_pos rfl, hl]
  dsimp only
  refine (fun (z : _ ∧ _) => ⟨fun _ => z.1, z.2⟩) ?_
  have i2 : i + 1 + 1 < n := tEnd_s (bE_T hE Nm) i1 (show tK b L (i + 1) < 45 by omega)
  have mw2 : mw M M2 := mw_t (mfr_w t4) (fun a ha => dc2.1 a (by omega) (by omega))
  unfold pMo_wire_8 fMo_wire_8
  by_cases k1 : tK b L (i + 1 + 1) = 2
  rotate_left
  · obtain ⟨x1, e, he, x2, x3, x4, x5⟩ := m_mf Nm (v := 61) (s := 2) rfl (by decide) T2.1.1 (by omega) (hE.2.2.1 _ i2) T2.1.2.1 k1
    rw [l_exf Nm k1 x5]
    exact mq1 x1 (by rw [x2]; exact e9 he.1 he.2) (Or.inl ⟨e, _, he, rfl, x2, x3, mw_t mw2 x4⟩)
  rw [l_exs k1]
  obtain ⟨x1, M3, x2, x3, x4⟩ := m_ms (v := 61) (s := 2) rfl (by decide) T2.1.1 (by omega) (hE.2.2.1 _ i2) T2.1.2.1 k1
  rw [x2]
  refine mq0 x1 rfl ?_
  dsimp only
  have T3 := mT_f T2 x4 (Or.inl x3)
  have mw3 := mw_t mw2 (mfr_w x4)
  have i3 : i + 1 + 1 + 1 < n := tEnd_s (bE_T hE Nm) i2 (show tK b L (i + 1 + 1) < 45 by omega)
  have rj : ∀ j, 16 < j → M3 40 j = M 40 j := fun j hj => by rw [x4.2 j (by omega), dc2.2.1 j (by omega) (by omega), t4.2 j (by omega)]
  have ra : ∀ a, 44 < a → M3 a = M a := fun a ha => by rw [x4.1 a (by omega), dc2.1 a (by omega) (by omega), t4.1 a (by omega)]
  unfold pMo_wire_15 fMo_wire_15 pme_Mo_expression fme_Mo_expression
  have h9 := sp_fuE (bE_T hE Nm) 600 0 0 0 (i + 1 + 1 + 1) co (by omega) (by omega) (by omega) (by omega) (by omega) i3 w2.2
  have u := HM0 (meE hE (Or.inr ⟨i + 1, rfl⟩) (nW_k w3) 600) (d := 0) (i := i + 1 + 1 + 1) (co := co) (N := N) (by omega) i3 w2.2 (by omega) h9 T3.1
  have nc : (sp_E (tT (tB b L) Nm) 600 0 0 0 (i + 1 + 1 + 1) co).1 = 0 → nC (sp_E (tT (tB b L) Nm) 600 0 0 0 (i + 1 + 1 + 1) co).2.2.2.2 := fun e => sp_nC e
  have ln := sp_len (bE_T hE Nm) 600 0 0 0 (i + 1 + 1 + 1) co i3 w2.2
  rw [nI_0] at u
  generalize me_F 600 0 0 0 M3 = q at u
  generalize sp_E (tT (tB b L) Nm) 600 0 0 0 (i + 1 + 1 + 1) co = r at u ln h9 nc ⊢
  unfold l_x
  by_cases e1 : r.1 = 0
  rotate_left
  · rw [if_neg e1]
    have z := u.2.2 e1
    exact mq1 u.1 (by rw [z.1]; exact e9 e1 z.2.2.2) (Or.inl ⟨r.1, r.2.1, ⟨e1, z.2.2.2⟩, rfl, z.1, z.2.1, mw_t mw3 z.2.2.1⟩)
  rw [if_pos e1]
  have l1 := ln e1
  have nc1 := nc e1
  obtain ⟨z1, e, N', z2, z3, z4, z5, z6, z7, z8, z9⟩ := u.2.1 e1
  refine mq0 u.1 z1 ?_
  clear u ln h9 nc
  obtain ⟨re, rw', rj', rc, rC⟩ := r
  dsimp only at l1 z3 z6 z7 nc1 ⊢
  generalize q.2.2.2 = Q at z3 z7 z8 z9 ⊢
  have T4 := mT_F T3 z9 z3 (by omega)
  have mw4 := mw_t mw3 (mF_w z9)
  have h25 : M3 40 25 = nI (cnt 31 Nm) := (rj 25 (by decide)).trans hc.2.2.1
  have h25' : Q 40 25 = nI (cnt 31 Nm) := (z9.2.1 25 (by decide) (by decide)).trans h25
  have c31 := cnt_le (kd := 31) Nm
  have e42 := z7.2.1
  unfold pMo_wire_28 fMo_wire_28
  rw [h25, h25', z2, nI_clamp (n := cnt 31 Nm) (by omega), nI_clamp (n := Nm.length) (by omega), nI_1]
  have v3 : vp_in (nI (cnt 31 Nm)) 60 := vp_in_nI (by omega) (by decide)
  have v6 : vp_in (nI Nm.length) 60 := vp_in_nI h60 (by decide)
  generalize e6 : pm_u (pm_u (pm_u (pm_u Q 50 (cnt 31 Nm) (nI e)) 44 Nm.length (3 : Int32)) 40 25 (nI (cnt 31 Nm + 1))) 45 Nm.length (nI (cnt 31 Nm)) = M6
  have ga : ∀ a, a ≠ 40 → a ≠ 44 → a ≠ 45 → a ≠ 50 → M6 a = Q a := fun a h1 h2 h3 h4 => by rw [← e6, pm_u_n _ _ _ h3, pm_u_n _ _ _ h1, pm_u_n _ _ _ h2, pm_u_n _ _ _ h4]
  have gj : ∀ j, j ≠ 25 → M6 40 j = Q 40 j := fun j h1 => by rw [← e6, pm_u_n _ _ _ (by decide), pm_u_j _ _ _ h1, pm_u_n _ _ _ (by decide), pm_u_n _ _ _ (by decide)]
  have g25 : M6 40 25 = nI (cnt 31 Nm + 1) := by rw [← e6, pm_u_n _ _ _ (by decide), pm_u_s]
  have g44 : M6 44 Nm.length = 3 := by rw [← e6, pm_u_n _ _ _ (by decide), pm_u_n _ _ _ (by decide), pm_u_s]
  have g45 : M6 45 Nm.length = nI (cnt 31 Nm) := by rw [← e6, pm_u_s]
  have g50 : M6 50 (cnt 31 Nm) = nI e := by rw [← e6, pm_u_n _ _ _ (by decide), pm_u_n _ _ _ (by decide), pm_u_n _ _ _ (by decide), pm_u_s]
  have g44' : ∀ k, k ≠ Nm.length → M6 44 k = Q 44 k := fun k hk => by rw [← e6, pm_u_n _ _ _ (by decide), pm_u_n _ _ _ (by decide), pm_u_j _ _ _ hk, pm_u_n _ _ _ (by decide)]
  have g45' : ∀ k, k ≠ Nm.length → M6 45 k = Q 45 k := fun k hk => by rw [← e6, pm_u_j _ _ _ hk, pm_u_n _ _ _ (by decide), pm_u_n _ _ _ (by decide), pm_u_n _ _ _ (by decide)]
  have g50' : ∀ k, k ≠ cnt 31 Nm → M6 50 k = Q 50 k := fun k hk => by rw [← e6, pm_u_n _ _ _ (by decide), pm_u_n _ _ _ (by decide), pm_u_n _ _ _ (by decide), pm_u_j _ _ _ hk]
  have qM : ∀ a, 44 < a → a < 52 → Q a = M a := fun a h1 h2 => (z9.1 a (by omega) (by omega)).trans (ra a h1)
  have gM : ∀ a, 45 < a → a < 52 → a ≠ 50 → M6 a = M a := fun a h1 h2 h3 => (ga a (by omega) (by omega) (by omega) h3).trans (qM a (by omega) h2)
  have gk : ∀ a k, 52 ≤ a → a ≤ 56 → k < N → M6 a k = M a k := fun a k h1 h2 h3 => by rw [ga a (by omega) (by omega) (by omega) (by omega), z9.2.2 a k h3 h1 h2, ra a (by omega)]
  have fj : ∀ j, 16 < j → j ≠ 25 → j ≠ 34 → M6 40 j = M 40 j := fun j h1 h2 h3 => (gj j h2).trans ((z9.2.1 j (by omega) h3).trans (rj j h1))
  have i4 : rj' < n := l1.2.2.1
  have hML : mL b L (rj', rc, Nm ++ [(i + 1, 31, 0, 0)], CL ++ (rC ++ [(31, Nm.length)]), CF, Hn, rb, ib, sp, fi) N' F RB (D ++ [(31, Nm.length, rC)]) SP M6 := by
    refine ⟨?_, ⟨?_, ?_, ?_, ?_, ?_, ?_⟩, ?_, ⟨?_, hr.2.1, ?_⟩, ⟨?_, ?_⟩, hs.1, hs.2.1, ?_⟩
    · exact mT_l T4 (fun q hq => gj q (by omega)) (fun a h1 h2 => ga a h1 (by omega) (by omega) (by omega)) g44 g44' g45' (fun q => absurd q (by decide)) (mU_k T4.2.2.1.2 rfl (by show (31 : Nat) ≠ 33; decide) (ga 51 (by decide) (by decide) (by decide) (by decide)))
    · rw [fj 23 (by decide) (by decide) (by decide), cnt_app, if_neg (by show ¬ (31 : Nat) = 29; decide)]; exact hc.1
    · rw [fj 24 (by decide) (by decide) (by decide), cnt_app, if_neg (by show ¬ (31 : Nat) = 30; decide)]; exact hc.2.1
    · rw [g25, cnt_app, if_pos rfl]
    · rw [fj 26 (by decide) (by decide) (by decide)]; exact hc.2.2.2.1
    · rw [fj 27 (by decide) (by decide) (by decide)]; exact hc.2.2.2.2.1
    · rw [fj 28 (by decide) (by decide) (by decide)]; exact hc.2.2.2.2.2
    · intro k x hx
      rcases gE_n hx with ⟨c, hy⟩ | ⟨c, hy⟩
      · have o := hn k x hy
        rw [tk_app (by omega), g45' k (by omega), qM 45 (by decide) (by decide), gM 46 (by decide) (by decide) (by decide), gM 48 (by decide) (by decide) (by decide), gM 49 (by decide) (by decide) (by decide)]
        exact o
      · rw [c, hy, tk_app (Nat.le_refl _), tk_all (Nat.le_refl _)]
        exact ⟨g45, fun q => absurd q (by show ¬ (31 : Nat) = 29; decide), fun q => absurd q (by show ¬ (31 : Nat) = 30; decide)⟩
    · rw [cnt_app, if_neg (by show ¬ (31 : Nat) = 29; decide)]; exact hr.1
    · intro r y hy
      rw [gM 46 (by decide) (by decide) (by decide), gM 47 (by decide) (by decide) (by decide)]
      exact hr.2.2 r y hy
    · rw [flI_app, ← hd.1]
    · intro x hx
      rcases List.mem_append.mp hx with hx | hx
      · exact mLd_n hd.2 w11 (show N ≤ N' by omega) (fun lo e he k _ hk => ⟨gk 52 k (by decide) (by decide) (by omega), gk 53 k (by decide) (by decide) (by omega), gk 54 k (by decide) (by decide) (by omega), fun _ => ⟨gk 55 k (by decide) (by decide) (by omega), gk 56 k (by decide) (by decide) (by omega)⟩⟩) (fun k hk => by rw [g50' k (by omega), qM 50 (by decide) (by decide)]) (fun k _ => by rw [gM 48 (by decide) (by decide) (by decide)]) x hx
      · rw [List.mem_singleton.mp hx]
        refine ⟨nc1, by rw [List.length_append]; exact Nat.lt_succ_self _, e, N, Ev_c z7 (fun k _ _ => ⟨by rw [ga 52 (by decide) (by decide) (by decide) (by decide)], by rw [ga 53 (by decide) (by decide) (by decide) (by decide)], by rw [ga 54 (by decide) (by decide) (by decide) (by decide)], fun _ => ⟨by rw [ga 55 (by decide) (by decide) (by decide) (by decide)], by rw [ga 56 (by decide) (by decide) (by decide) (by decide)]⟩⟩) (Nat.le_refl _) (Nat.le_refl _), z5, Or.inl ⟨rfl, ⟨(i + 1, 31, 0, 0), by rw [List.getElem?_append, if_neg (Nat.lt_irrefl _), Nat.sub_self]; rfl, rfl⟩, ?_⟩⟩
        rw [tk_app (Nat.le_refl _), tk_all (Nat.le_refl _)]
        exact g50
    · intro g C hg
      rw [gM 51 (by decide) (by decide) (by decide)]
      exact hs.2.2 g C hg
  exact sq v3 (sq v6 (sq v6 ⟨trivial, Or.inr ⟨rj', (rc, Nm ++ [(i + 1, 31, 0, 0)], CL ++ (rC ++ [(31, Nm.length)]), CF, Hn, rb, ib, sp, fi), N', F, RB, D ++ [(31, Nm.length, rC)], SP, rfl, (by show i < rj'; omega), i4, rfl, hML, (by omega), (by omega), mw_t mw4 (fun a ha => ga a (by omega) (by omega) (by omega) (by omega))⟩⟩))
end
