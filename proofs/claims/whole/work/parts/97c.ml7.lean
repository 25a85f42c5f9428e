/-! MODEL'S LINES 7: reg -/
theorem shl9 : ∀ v, v < 9 → ((1 : Int32) <<< (nI v &&& 31)) - (1 : Int32) = nI (2 ^ v - 1) := by decide +kernel
section
variable {b : Nat → Nat} {L : Nat} {n : Nat}
set_option maxHeartbeats 8000000 in
theorem ml_reg {s : LSt} {N : Nat} {F : FT} {RB : List (Nat × Nat)} {D : List Itm} {SP : List Cd} {M : Mm} (hE : bE (tB b L) n) (hW : lW n s) (h : mL b L s N F RB D SP M) (hq : mQ b L s.1 M) (hk : tK b L s.1 = 29) (hN : N ≤ s.1) (hF : F.length ≤ s.1) : pMo_reg M ∧ MLr b L n s M (sp_reg (tB b L) s) (fMo_reg M) := by
  obtain ⟨i, co, Nm, CL, CF, Hn, rb, ib, sp, fi⟩ := s
  obtain ⟨w1, w2, w3, w4, w5, w6, w7, w8, w9, w10, w11⟩ := hW
  obtain ⟨hT, hc, hn, hr, hd, hs⟩ := h
  dsimp only at hq hk hN hF
  have hn4 := hE.2.1
  unfold pMo_reg fMo_reg
  obtain ⟨t1, M1, t2, t3, t4⟩ := m_take hq (by omega)
  rw [t2]
  refine mq0 t1 rfl ?_
  dsimp only
  have T1 := mT_f hT t4 (Or.inl t3)
  have i1 : i + 1 < n := tEnd_s (bE_T hE Nm) w2.1 (show tK b L i < 45 by omega)
  unfold pMo_reg_4 fMo_reg_4 sp_reg
  dsimp only
  have dc := m_declare hE i1 T1 (fun q => (q.1 = 0 → pMo_reg_8 q.2.2.1 q.2.2.2) ∧ MLr b L n (i, co, Nm, CL, CF, Hn, rb, ib, sp, fi) M (l_new (tB b L) Nm (i + 1) (fun j => l_ex (tB b L) 1 j (fun j => l_num (tB b L) 1 (8 - rb) j (fun b' j => l_ex (tB b L) 2 j (fun j => l_num (tB b L) 0 (2 ^ b' - 1) j (fun v j => l_ex (tB b L) 0 j (fun j => (0, 0, j, co, Nm ++ [(i + 1, 29, b', rb + b')], CL, CF, Hn, rb + b', ib, sp, fi * 2 ^ b' + v)))))))) (if q.1 = 0 then fMo_reg_8 q.2.2.1 q.2.2.2 else (q.1, q.2.1, q.2.2.2))) ?_ ?_
  · exact ⟨⟨dc.1, dc.2.1⟩, dc.2.2⟩
  · intro e r he h1 h2 h3 hl
    have ne : ¬ r.1 = 0 := by rw [h1]; exact e9 he.1 he.2
    rw [if_neg ne, hl]
    exact ⟨fun z => absurd z ne, Or.inl ⟨e, i + 1, he, rfl, h1, h2, mw_t (mfr_w t4) h3⟩⟩
  intro hl k43 h60 M2 T2 dc2
  rw [if_pos rfl, hl]
  dsimp only
  refine (fun (z : _ ∧ _) => ⟨fun _ => z.1, z.2⟩) ?_
  have i2 : i + 1 + 1 < n := tEnd_s (bE_T hE Nm) i1 (show tK b L (i + 1) < 45 by omega)
  have mw2 : mw M M2 := mw_t (mfr_w t4) (fun a ha => dc2.1 a (by omega) (by omega))
  unfold pMo_reg_8 fMo_reg_8
  by_cases k1 : tK b L (i + 1 + 1) = 1
  rotate_left
  · obtain ⟨x1, e, he, x2, x3, x4, x5⟩ := m_mf Nm (v := 58) (s := 1) rfl (by decide) T2.1.1 (by omega) (hE.2.2.1 _ i2) T2.1.2.1 k1
    rw [l_exf Nm k1 x5]
    exact mq1 x1 (by rw [x2]; exact e9 he.1 he.2) (Or.inl ⟨e, _, he, rfl, x2, x3, mw_t mw2 x4⟩)
  rw [l_exs k1]
  obtain ⟨x1, M3, x2, x3, x4⟩ := m_ms (v := 58) (s := 1) rfl (by decide) T2.1.1 (by omega) (hE.2.2.1 _ i2) T2.1.2.1 k1
  rw [x2]
  refine mq0 x1 rfl ?_
  dsimp only
  have T3 := mT_f T2 x4 (Or.inl x3)
  have mw3 := mw_t mw2 (mfr_w x4)
  have i3 : i + 1 + 1 + 1 < n := tEnd_s (bE_T hE Nm) i2 (show tK b L (i + 1 + 1) < 45 by omega)
  unfold pMo_reg_15 fMo_reg_15
  unfold l_num
  have eb : (tB b L).1 (i + 1 + 1 + 1) = tK b L (i + 1 + 1 + 1) := rfl
  rw [eb]
  by_cases k47 : tK b L (i + 1 + 1 + 1) = 47
  · have p := m_pk47 T3.1.1 (by omega) T3.1.2.1 k47
    rw [if_neg (by omega)]
    unfold l_no
    rw [if_pos (show (tB b L).1 (i + 1 + 1 + 1) = 47 from k47)]
    exact mq1 p.1 (by rw [p.2.1]; decide) (Or.inl ⟨4, _, by decide, rfl, p.2.1, p.2.2.1, mw_t mw3 p.2.2.2⟩)
  obtain ⟨M4, p1, p2, p3, p4⟩ := m_pk T3.1.1 (by omega) T3.1.2.1 k47
  rw [p2]
  refine mq0 p1 rfl ?_
  dsimp only
  have T4 := mT_f T3 p4 (Or.inr p3)
  have mw4 := mw_t mw3 (mfr_w p4)
  have k48 : tK b L (i + 1 + 1 + 1) < 48 := hE.2.2.1 _ i3
  have ev : (tB b L).2.1 (i + 1 + 1 + 1) = val b (tF b L (i + 1 + 1 + 1)) (tZ b L (i + 1 + 1 + 1)) := rfl
  unfold pMo_reg_19 fMo_reg_19
  by_cases k44 : tK b L (i + 1 + 1 + 1) = 44
  rotate_left
  · rw [if_neg k44]
    unfold l_no
    rw [if_neg (show ¬ (tB b L).1 (i + 1 + 1 + 1) = 47 from k47)]
    refine itn (fun q => k44 (((mt_1 _ k48).2.1 k47).mp q)) ?_
    unfold pMo_reg_31 fMo_reg_31
    have nn := m_num T4.1.1 (by omega) k48 T4.1.2.1 (lo := 1) (hi := 8) (by decide) (by decide) (fun q => (q.1 = 0 → pMo_reg_39 (nI Nm.length) 0 q.2.2.1 q.2.2.2) ∧ MLr b L n (i, co, Nm, CL, CF, Hn, rb, ib, sp, fi) M (lf 1 (i + 1 + 1 + 1)) (if q.1 = 0 then fMo_reg_39 (nI Nm.length) 0 q.2.2.1 q.2.2.2 else (q.1, q.2.1, q.2.2.2))) ?_ ?_
    · exact ⟨⟨nn.1, nn.2.1⟩, nn.2.2⟩
    · intro e q hh h1 h2 h3
      rcases hh with ⟨q47, -⟩ | ⟨-, -, e1⟩ | ⟨q44, -⟩
      · exact absurd q47 k47
      · have ne : ¬ q.1 = 0 := by rw [h1, e1]; decide
        rw [if_neg ne]
        exact ⟨fun z => absurd z ne, Or.inl ⟨1, _, by decide, rfl, h1.trans e1, h2, mw_t mw4 h3⟩⟩
      · exact absurd q44 k44
    · intro q44 _ _ _ _ _; exact absurd q44 k44
  rw [if_pos k44, ev]
  refine itp (((mt_1 _ k48).2.1 k47).mpr k44) ?_
  rw [p3.2.2.2.1]
  unfold pMo_reg_31 fMo_reg_31
  generalize hv : val b (tF b L (i + 1 + 1 + 1)) (tZ b L (i + 1 + 1 + 1)) = v
  have nn := m_num T4.1.1 (by omega) k48 T4.1.2.1 (lo := 1) (hi := 8) (by decide) (by decide) (fun q => (q.1 = 0 → pMo_reg_39 (nI Nm.length) (nI (tF b L (i + 1 + 1 + 1))) q.2.2.1 q.2.2.2) ∧ MLr b L n (i, co, Nm, CL, CF, Hn, rb, ib, sp, fi) M (if v < 1 then lf 3 (i + 1 + 1 + 1) else if v ≤ 8 - rb then l_ex (tB b L) 2 (i + 1 + 1 + 1 + 1) (fun j => l_num (tB b L) 0 (2 ^ v - 1) j (fun v' j => l_ex (tB b L) 0 j (fun j => (0, 0, j, co, Nm ++ [(i + 1, 29, v, rb + v)], CL, CF, Hn, rb + v, ib, sp, fi * 2 ^ v + v')))) else lf 3 (i + 1 + 1 + 1)) (if q.1 = 0 then fMo_reg_39 (nI Nm.length) (nI (tF b L (i + 1 + 1 + 1))) q.2.2.1 q.2.2.2 else (q.1, q.2.1, q.2.2.2))) ?_ ?_
  · exact ⟨⟨nn.1, nn.2.1⟩, nn.2.2⟩
  · intro e q hh h1 h2 h3
    rw [hv] at hh
    rcases hh with ⟨q47, -⟩ | ⟨-, q44, -⟩ | ⟨-, e3, hvv⟩
    · exact absurd q47 k47
    · exact absurd k44 q44
    · have ne : ¬ q.1 = 0 := by rw [h1, e3]; decide
      have el : (if v < 1 then lf 3 (i + 1 + 1 + 1) else if v ≤ 8 - rb then l_ex (tB b L) 2 (i + 1 + 1 + 1 + 1) (fun j => l_num (tB b L) 0 (2 ^ v - 1) j (fun v' j => l_ex (tB b L) 0 j (fun j => (0, 0, j, co, Nm ++ [(i + 1, 29, v, rb + v)], CL, CF, Hn, rb + v, ib, sp, fi * 2 ^ v + v')))) else lf 3 (i + 1 + 1 + 1)) = lf 3 (i + 1 + 1 + 1) := by
        by_cases c1 : v < 1
        · rw [if_pos c1]
        · rw [if_neg c1, if_neg (by omega)]
      rw [if_neg ne, el]
      exact ⟨fun z => absurd z ne, Or.inl ⟨3, _, by decide, rfl, h1.trans e3, h2, mw_t mw4 h3⟩⟩
  rw [hv]
  intro _ g1 g3 M5 y1 y2
  rw [if_pos rfl, if_neg (by omega)]
  refine (fun (z : _ ∧ _) => ⟨fun _ => z.1, z.2⟩) ?_
  have T5 := mT_f T4 y2 (Or.inl y1)
  have mw5 := mw_t mw4 (mfr_w y2)
  have i4 : i + 1 + 1 + 1 + 1 < n := tEnd_s (bE_T hE Nm) i3 (show tK b L (i + 1 + 1 + 1) < 45 by omega)
  have rj : ∀ j, 16 < j → M5 40 j = M 40 j := fun j hj => by rw [y2.2 j (by omega), p4.2 j (by omega), x4.2 j (by omega), dc2.2.1 j (by omega) (by omega), t4.2 j (by omega)]
  have ra : ∀ a, 44 < a → M5 a = M a := fun a ha => by rw [y2.1 a (by omega), p4.1 a (by omega), x4.1 a (by omega), dc2.1 a (by omega) (by omega), t4.1 a (by omega)]
  have h27 : M5 40 27 = nI rb := (rj 27 (by decide)).trans hc.2.2.2.2.1
  have h23 : M5 40 23 = nI (cnt 29 Nm) := (rj 23 (by decide)).trans hc.1
  have c29 := nW_1 (Or.inl rfl) w3
  unfold pMo_reg_39 fMo_reg_39
  have hsum : M5 40 27 + nI v = nI (rb + v) := by rw [h27, nI_add]
  by_cases c3 : rb + v ≤ 8
  rotate_left
  · rw [if_neg (by omega)]
    exact itn (show ¬ M5 40 27 + nI v ≤ 8 by rw [hsum]; exact nI_ge (a := 8) (b := rb + v) (by omega) (by omega)) ⟨trivial, Or.inl ⟨3, _, by decide, rfl, rfl, rfl, mw5⟩⟩
  rw [if_pos (by omega)]
  refine itp (show M5 40 27 + nI v ≤ 8 by rw [hsum]; exact nI_le (a := rb + v) (b := 8) c3 (by decide)) ?_
  dsimp only
  by_cases k2 : tK b L (i + 1 + 1 + 1 + 1) = 2
  rotate_left
  · obtain ⟨x1, e, he, x2, x3, x4, x5⟩ := m_mf Nm (v := 61) (s := 2) rfl (by decide) T5.1.1 (by omega) (hE.2.2.1 _ i4) T5.1.2.1 k2
    rw [l_exf Nm k2 x5]
    exact mq1 x1 (by rw [x2]; exact e9 he.1 he.2) (Or.inl ⟨e, _, he, rfl, x2, x3, mw_t mw5 x4⟩)
  rw [l_exs k2]
  obtain ⟨a1, M7, a2, a3, a4⟩ := m_ms (v := 61) (s := 2) rfl (by decide) T5.1.1 (by omega) (hE.2.2.1 _ i4) T5.1.2.1 k2
  rw [a2]
  refine mq0 a1 rfl ?_
  dsimp only
  have T7 := mT_f T5 a4 (Or.inl a3)
  have mw7 := mw_t mw5 (mfr_w a4)
  have i5 : i + 1 + 1 + 1 + 1 + 1 < n := tEnd_s (bE_T hE Nm) i4 (show tK b L (i + 1 + 1 + 1 + 1) < 45 by omega)
  have k48' : tK b L (i + 1 + 1 + 1 + 1 + 1) < 48 := hE.2.2.1 _ i5
  have p2v : 2 ^ v ≤ 2 ^ 8 := Nat.pow_le_pow_right (by decide) (by omega)
  have p1v : 1 ≤ 2 ^ v := Nat.one_le_two_pow
  have h23' : M7 40 23 = nI (cnt 29 Nm) := (a4.2 23 (by decide)).trans h23
  unfold pMo_reg_67 fMo_reg_67
  rw [shl9 v (by omega), h23']
  have ev2 : (tB b L).2.1 (i + 1 + 1 + 1 + 1 + 1) = val b (tF b L (i + 1 + 1 + 1 + 1 + 1)) (tZ b L (i + 1 + 1 + 1 + 1 + 1)) := rfl
  generalize hR : l_num (tB b L) 0 (2 ^ v - 1) (i + 1 + 1 + 1 + 1 + 1) (fun v' j => l_ex (tB b L) 0 j (fun j => ((0 : Nat), (0 : Nat), j, co, Nm ++ [(i + 1, 29, v, rb + v)], CL, CF, Hn, rb + v, ib, sp, fi * 2 ^ v + v'))) = R
  unfold l_num at hR
  rw [ev2] at hR
  have nn := m_num T7.1.1 (by omega) k48' T7.1.2.1 (lo := 0) (hi := 2 ^ v - 1) (by decide) (by omega) (fun q => (q.1 = 0 → pMo_reg_85 (nI Nm.length) (nI (tF b L (i + 1 + 1 + 1))) (nI v) (nI (cnt 29 Nm)) q.2.2.1 q.2.2.2) ∧ MLr b L n (i, co, Nm, CL, CF, Hn, rb, ib, sp, fi) M R (if q.1 = 0 then fMo_reg_85 (nI Nm.length) (nI (tF b L (i + 1 + 1 + 1))) (nI v) (nI (cnt 29 Nm)) q.2.2.1 q.2.2.2 else (q.1, q.2.1, q.2.2.2))) ?_ ?_
  · exact ⟨⟨nn.1, nn.2.1⟩, nn.2.2⟩
  · intro e q hh h1 h2 h3
    have fin : ∀ g : Nat, (g ≠ 0 ∧ g < 9) → e = nI g → R = lf g (i + 1 + 1 + 1 + 1 + 1) → (q.1 = 0 → pMo_reg_85 (nI Nm.length) (nI (tF b L (i + 1 + 1 + 1))) (nI v) (nI (cnt 29 Nm)) q.2.2.1 q.2.2.2) ∧ MLr b L n (i, co, Nm, CL, CF, Hn, rb, ib, sp, fi) M R (if q.1 = 0 then fMo_reg_85 (nI Nm.length) (nI (tF b L (i + 1 + 1 + 1))) (nI v) (nI (cnt 29 Nm)) q.2.2.1 q.2.2.2 else (q.1, q.2.1, q.2.2.2)) := by
      intro g hg e3 hRR
      have ne : ¬ q.1 = 0 := by rw [h1, e3]; exact e9 hg.1 hg.2
      rw [if_neg ne, hRR]
      exact ⟨fun z => absurd z ne, Or.inl ⟨g, _, hg, rfl, h1.trans e3, h2, mw_t mw7 h3⟩⟩
    rcases hh with ⟨q47, e4⟩ | ⟨q47, q44, e1⟩ | ⟨q44, e3, hvv⟩
    · exact fin 4 (by decide) e4 (by rw [← hR, if_neg (show ¬ (tB b L).1 (i + 1 + 1 + 1 + 1 + 1) = 44 from by show ¬ tK b L _ = 44; omega)]; exact l_noF q47)
    · exact fin 1 (by decide) e1 (by rw [← hR, if_neg (show ¬ (tB b L).1 (i + 1 + 1 + 1 + 1 + 1) = 44 from q44)]; exact l_noN q47)
    · exact fin 3 (by decide) e3 (by rw [← hR, if_pos (show (tB b L).1 (i + 1 + 1 + 1 + 1 + 1) = 44 from q44), if_neg (Nat.not_lt_zero _), if_neg (by omega)])
  intro q44 _ gw M8 b1 b2
  rw [if_pos (show (tB b L).1 (i + 1 + 1 + 1 + 1 + 1) = 44 from q44), if_neg (Nat.not_lt_zero _), if_pos gw] at hR
  rw [if_pos rfl]
  refine (fun (z : _ ∧ _) => ⟨fun _ => z.1, z.2⟩) ?_
  generalize val b (tF b L (i + 1 + 1 + 1 + 1 + 1)) (tZ b L (i + 1 + 1 + 1 + 1 + 1)) = w at gw hR ⊢
  have T8 := mT_f T7 b2 (Or.inl b1)
  have mw8 := mw_t mw7 (mfr_w b2)
  have i6 : i + 1 + 1 + 1 + 1 + 1 + 1 < n := tEnd_s (bE_T hE Nm) i5 (show tK b L (i + 1 + 1 + 1 + 1 + 1) < 45 by omega)
  have rj8 : ∀ j, 16 < j → M8 40 j = M 40 j := fun j hj => by rw [b2.2 j (by omega), a4.2 j (by omega), rj j hj]
  have ra8 : ∀ a, 44 < a → M8 a = M a := fun a ha => by rw [b2.1 a (by omega), a4.1 a (by omega), ra a ha]
  have h23b : M8 40 23 = nI (cnt 29 Nm) := (rj8 23 (by decide)).trans hc.1
  have h27b : M8 40 27 = nI rb := (rj8 27 (by decide)).trans hc.2.2.2.2.1
  unfold pMo_reg_85 fMo_reg_85
  dsimp only
  rw [h23b, h27b, nI_add, nI_1, nI_clamp (n := cnt 29 Nm) (by omega), nI_clamp (n := Nm.length) (by omega)]
  have v8 : vp_in (nI (cnt 29 Nm)) 8 := vp_in_nI (by omega) (by decide)
  have v6 : vp_in (nI Nm.length) 60 := vp_in_nI h60 (by decide)
  generalize e6 : pm_u (pm_u (pm_u (pm_u (pm_u (pm_u (pm_u M8 47 (cnt 29 Nm) (nI w)) 46 (cnt 29 Nm) (nI v)) 48 (cnt 29 Nm) (-1 : Int32)) 40 27 (nI (rb + v))) 44 Nm.length (1 : Int32)) 40 23 (nI (cnt 29 Nm + 1))) 45 Nm.length (nI (cnt 29 Nm)) = M6
  have ga : ∀ a, a ≠ 40 → a ≠ 44 → a ≠ 45 → a ≠ 46 → a ≠ 47 → a ≠ 48 → M6 a = M8 a := fun a h1 h2 h3 h4 h5 h6 => by rw [← e6, pm_u_n _ _ _ h3, pm_u_n _ _ _ h1, pm_u_n _ _ _ h2, pm_u_n _ _ _ h1, pm_u_n _ _ _ h6, pm_u_n _ _ _ h4, pm_u_n _ _ _ h5]
  have gj : ∀ j, j ≠ 23 → j ≠ 27 → M6 40 j = M8 40 j := fun j h1 h2 => by rw [← e6, pm_u_n _ _ _ (by decide), pm_u_j _ _ _ h1, pm_u_n _ _ _ (by decide), pm_u_j _ _ _ h2, pm_u_n _ _ _ (by decide), pm_u_n _ _ _ (by decide), pm_u_n _ _ _ (by decide)]
  have g23 : M6 40 23 = nI (cnt 29 Nm + 1) := by rw [← e6, pm_u_n _ _ _ (by decide), pm_u_s]
  have g27 : M6 40 27 = nI (rb + v) := by rw [← e6, pm_u_n _ _ _ (by decide), pm_u_j _ _ _ (by decide), pm_u_n _ _ _ (by decide), pm_u_s]
  have g44 : M6 44 Nm.length = 1 := by rw [← e6, pm_u_n _ _ _ (by decide), pm_u_n _ _ _ (by decide), pm_u_s]
  have g45 : M6 45 Nm.length = nI (cnt 29 Nm) := by rw [← e6, pm_u_s]
  have g48 : M6 48 (cnt 29 Nm) = -1 := by rw [← e6, pm_u_n _ _ _ (by decide), pm_u_n _ _ _ (by decide), pm_u_n _ _ _ (by decide), pm_u_n _ _ _ (by decide), pm_u_s]
  have g46 : M6 46 (cnt 29 Nm) = nI v := by rw [← e6, pm_u_n _ _ _ (by decide), pm_u_n _ _ _ (by decide), pm_u_n _ _ _ (by decide), pm_u_n _ _ _ (by decide), pm_u_n _ _ _ (by decide), pm_u_s]
  have g47 : M6 47 (cnt 29 Nm) = nI w := by rw [← e6, pm_u_n _ _ _ (by decide), pm_u_n _ _ _ (by decide), pm_u_n _ _ _ (by decide), pm_u_n _ _ _ (by decide), pm_u_n _ _ _ (by decide), pm_u_n _ _ _ (by decide), pm_u_s]
  have gl' : ∀ a k, a ≠ 40 → a ≠ 46 → a ≠ 47 → a ≠ 48 → k ≠ Nm.length → M6 a k = M8 a k := fun a k h1 h2 h3 h4 hk => by rw [← e6, pm_u3 _ _ _ _ _ _ hk, pm_u_n _ _ _ h1, pm_u3 _ _ _ _ _ _ hk, pm_u_n _ _ _ h1, pm_u_n _ _ _ h4, pm_u_n _ _ _ h2, pm_u_n _ _ _ h3]
  have gc' : ∀ a k, a ≠ 40 → a ≠ 44 → a ≠ 45 → k ≠ cnt 29 Nm → M6 a k = M8 a k := fun a k h1 h2 h3 hk => by rw [← e6, pm_u_n _ _ _ h3, pm_u_n _ _ _ h1, pm_u_n _ _ _ h2, pm_u_n _ _ _ h1, pm_u3 _ _ _ _ _ _ hk, pm_u3 _ _ _ _ _ _ hk, pm_u3 _ _ _ _ _ _ hk]
  have gM : ∀ a, 48 < a → M6 a = M a := fun a h1 => (ga a (by omega) (by omega) (by omega) (by omega) (by omega) (by omega)).trans (ra8 a (by omega))
  have fj : ∀ j, 16 < j → j ≠ 23 → j ≠ 27 → M6 40 j = M 40 j := fun j h1 h2 h3 => (gj j h2 h3).trans (rj8 j h1)
  have hML : mL b L (i + 1 + 1 + 1 + 1 + 1 + 1, co, Nm ++ [(i + 1, 29, v, rb + v)], CL, CF, Hn, rb + v, ib, sp, fi * 2 ^ v + w) N F (RB ++ [(v, w)]) D SP M6 := by
    refine ⟨?_, ⟨?_, ?_, ?_, ?_, g27, ?_⟩, ?_, ⟨?_, ?_, ?_⟩, ⟨hd.1, ?_⟩, hs.1, hs.2.1, ?_⟩
    · exact mT_l T8 (fun q hq => gj q (by omega) (by omega)) (fun a h1 h2 => ga a h1 (by omega) (by omega) (by omega) (by omega) (by omega)) g44 (fun k hk => gl' 44 k (by decide) (by decide) (by decide) (by decide) hk) (fun k hk => gl' 45 k (by decide) (by decide) (by decide) (by decide) hk) (fun q => absurd q (by decide)) (mU_k T8.2.2.1.2 rfl (by show (29 : Nat) ≠ 33; decide) (ga 51 (by decide) (by decide) (by decide) (by decide) (by decide) (by decide)))
    · rw [g23, cnt_app, if_pos rfl]
    · rw [fj 24 (by decide) (by decide) (by decide), cnt_app, if_neg (by show ¬ (29 : Nat) = 30; decide)]; exact hc.2.1
    · rw [fj 25 (by decide) (by decide) (by decide), cnt_app, if_neg (by show ¬ (29 : Nat) = 31; decide)]; exact hc.2.2.1
    · rw [fj 26 (by decide) (by decide) (by decide)]; exact hc.2.2.2.1
    · rw [fj 28 (by decide) (by decide) (by decide)]; exact hc.2.2.2.2.2
    · intro k x hx
      rcases gE_n hx with ⟨c, hy⟩ | ⟨c, hy⟩
      · have o := hn k x hy
        rw [tk_app (by omega), gl' 45 k (by decide) (by decide) (by decide) (by decide) (by omega), ra8 45 (by decide), gM 49 (by decide)]
        refine ⟨o.1, fun e29 => ?_, o.2.2⟩
        have lt := cnt_lt Nm k x hy e29
        rw [gc' 46 _ (by decide) (by decide) (by decide) (by omega), gc' 48 _ (by decide) (by decide) (by decide) (by omega), ra8 46 (by decide), ra8 48 (by decide)]
        exact o.2.1 e29
      · rw [c, hy, tk_app (Nat.le_refl _), tk_all (Nat.le_refl _)]
        refine ⟨g45, fun _ => ⟨g46, fun _ => g48, fun q => ?_⟩, fun q => absurd q (by show ¬ (29 : Nat) = 30; decide)⟩
        obtain ⟨y, b1, _⟩ := w11 _ q
        rw [List.getElem?_eq_none (Nat.le_refl _)] at b1
        cases b1
    · rw [List.length_append, cnt_app, if_pos rfl, hr.1]; rfl
    · rw [rbF_app, ← hr.2.1]
    · intro r y hy
      rw [List.getElem?_append] at hy
      by_cases c : r < RB.length
      · rw [if_pos c] at hy
        rw [gc' 46 _ (by decide) (by decide) (by decide) (by have := hr.1; omega), gc' 47 _ (by decide) (by decide) (by decide) (by have := hr.1; omega), ra8 46 (by decide), ra8 47 (by decide)]
        exact hr.2.2 r y hy
      · rw [if_neg c] at hy
        rcases Nat.eq_zero_or_pos (r - RB.length) with h0 | h0
        · rw [h0] at hy
          simp only [List.getElem?_cons_zero, Option.some.injEq] at hy
          have er : r = cnt 29 Nm := by have := hr.1; omega
          rw [← hy, er]
          exact ⟨g46, g47, by show w < 2 ^ v; omega, by show v ≤ 8; omega⟩
        · rw [List.getElem?_eq_none (by simp only [List.length_cons, List.length_nil]; omega)] at hy; cases hy
    · exact mLd_n hd.2 w11 (Nat.le_refl _) (fun lo e _ k _ _ => ⟨by rw [gM 52 (by decide)], by rw [gM 53 (by decide)], by rw [gM 54 (by decide)], fun _ => ⟨by rw [gM 55 (by decide)], by rw [gM 56 (by decide)]⟩⟩) (fun k _ => by rw [gM 50 (by decide)]) (fun k hk => by rw [gc' 48 k (by decide) (by decide) (by decide) (by omega), ra8 48 (by decide)])
    · intro g C hg
      rw [gM 51 (by decide)]
      exact hs.2.2 g C hg
  exact sq v8 (sq v8 (sq v8 (sq v6 (sq v6 ⟨trivial, Or.inr ⟨i + 1 + 1 + 1 + 1 + 1 + 1, (co, Nm ++ [(i + 1, 29, v, rb + v)], CL, CF, Hn, rb + v, ib, sp, fi * 2 ^ v + w), N, F, RB ++ [(v, w)], D, SP, rfl, (by show i < i + 1 + 1 + 1 + 1 + 1 + 1; omega), i6, hR.symm, hML, (by omega), (by omega), mw_t mw8 (fun a ha => ga a (by omega) (by omega) (by omega) (by omega) (by omega) (by omega))⟩⟩))))
end
