/-! MODEL'S LINES 3: input -/
theorem cnt_bs {kd : Nat} : ∀ l : NmT, (∀ x ∈ l, x.2.1 = kd → 1 ≤ x.2.2.1) → cnt kd l ≤ bs kd l
  | [], _ => Nat.le_refl _
  | x :: l, h => by
    rw [cnt, bs]
    have a := cnt_bs l (fun y hy => h y (List.mem_cons_of_mem _ hy))
    have c := h x List.mem_cons_self
    by_cases e : x.2.1 = kd
    · rw [if_pos e, if_pos e]; have := c e; omega
    · rw [if_neg e, if_neg e]; omega
theorem nW_1 {Nm : NmT} {kd : Nat} (hk : kd = 29 ∨ kd = 30) (h : ∀ (k : Nat) (x : Nat × Nat × Nat × Nat), Nm[k]? = some x → nW Nm k x) : cnt kd Nm ≤ bs kd Nm := by
  refine cnt_bs Nm (fun x hx e => ?_)
  obtain ⟨k, hk2⟩ := List.getElem?_of_mem hx
  rcases h k x hk2 with o | o | o | o
  · exact o.2.1
  · exact o.2.1
  · omega
  · omega
def MLr (b : Nat → Nat) (L n : Nat) (s : LSt) (M : Mm) (r : LR) (q : Int32 × Int32 × Mm) : Prop :=
  (∃ e w, (e ≠ 0 ∧ e < 9) ∧ r = lf e w ∧ q.1 = nI e ∧ q.2.1 = nI (tF b L w) ∧ mw M q.2.2) ∨
  (∃ (j : Nat) (u : Nat × NmT × Cd × Cd × List Nat × Nat × Nat × Nat × Nat) (N' : Nat) (F' : FT) (RB : List (Nat × Nat)) (D : List Itm) (SP : List Cd), q.1 = 0 ∧ s.1 < j ∧ j < n ∧ r = l_ex (tB b L) 0 j (fun j => (0, 0, j, u)) ∧ mL b L (j, u) N' F' RB D SP q.2.2 ∧ N' ≤ j ∧ F'.length ≤ j ∧ mw M q.2.2)
section
variable {b : Nat → Nat} {L : Nat} {n : Nat}
theorem l_exf {s i : Nat} {k : Nat → LR} {e : Nat} (Nm : NmT) (hk : tK b L i ≠ s) (h : sp_no (tT (tB b L) Nm) i = sp_fail e i) : l_ex (tB b L) s i k = lf e i := by
  unfold l_ex
  rw [if_neg (show ¬ (tB b L).1 i = s from hk)]
  unfold l_no
  unfold sp_no at h
  by_cases q : (tB b L).1 i = 47
  · rw [if_pos q]
    rw [if_pos (show (tT (tB b L) Nm).1 i = 47 from q)] at h
    have h1 : (4 : Nat) = e := congrArg (fun r : SR => r.1) h
    rw [h1]
  · rw [if_neg q]
    rw [if_neg (show ¬ (tT (tB b L) Nm).1 i = 47 from q)] at h
    have h1 : (1 : Nat) = e := congrArg (fun r : SR => r.1) h
    rw [h1]
theorem l_exs {s i : Nat} {k : Nat → LR} (hk : tK b L i = s) : l_ex (tB b L) s i k = k (i + 1) := if_pos hk
set_option maxHeartbeats 8000000 in
theorem ml_input {s : LSt} {N : Nat} {F : FT} {RB : List (Nat × Nat)} {D : List Itm} {SP : List Cd} {M : Mm} (hE : bE (tB b L) n) (hW : lW n s) (h : mL b L s N F RB D SP M) (hq : mQ b L s.1 M) (hk : tK b L s.1 = 30) (hN : N ≤ s.1) (hF : F.length ≤ s.1) : pMo_input M ∧ MLr b L n s M (sp_input (tB b L) s) (fMo_input M) := by
  obtain ⟨i, co, Nm, CL, CF, Hn, rb, ib, sp, fi⟩ := s
  obtain ⟨w1, w2, w3, w4, w5, w6, w7, w8, w9, w10, w11⟩ := hW
  obtain ⟨hT, hc, hn, hr, hd, hs⟩ := h
  dsimp only at hq hk hN hF
  have hn4 := hE.2.1
  unfold pMo_input fMo_input
  obtain ⟨t1, M1, t2, t3, t4⟩ := m_take hq (by omega)
  rw [t2]
  refine mq0 t1 rfl ?_
  dsimp only
  have T1 := mT_f hT t4 (Or.inl t3)
  have i1 : i + 1 < n := tEnd_s (bE_T hE Nm) w2.1 (show tK b L i < 45 by omega)
  unfold pMo_input_4 fMo_input_4 sp_input
  dsimp only
  have dc := m_declare hE i1 T1 (fun q => (q.1 = 0 → pMo_input_8 q.2.2.1 q.2.2.2) ∧ MLr b L n (i, co, Nm, CL, CF, Hn, rb, ib, sp, fi) M (l_new (tB b L) Nm (i + 1) (fun j => l_ex (tB b L) 1 j (fun j => l_num (tB b L) 1 (3 - ib) j (fun b' j => l_ex (tB b L) 0 j (fun j => (0, 0, j, co, Nm ++ [(i + 1, 30, b', ib + b')], CL, CF, Hn, rb, ib + b', sp, fi)))))) (if q.1 = 0 then fMo_input_8 q.2.2.1 q.2.2.2 else (q.1, q.2.1, q.2.2.2))) ?_ ?_
  · exact ⟨⟨dc.1, dc.2.1⟩, dc.2.2⟩
  · intro e r he h1 h2 h3 hl
    have ne : ¬ r.1 = 0 := by rw [h1]; exact e9 he.1 he.2
    rw [if_neg ne, hl]
    exact ⟨fun z => absurd z ne, Or.inl ⟨e, i + 1, he, rfl, h1, h2, mw_t (mfr_w t4) h3⟩⟩
  intro hl k43 h60 M2 T2 dc2
  rw [if_pos rfl, hl]
  dsimp only
  refine (fun (z : _ ∧ _) => ⟨fun _ => z.1, z.2⟩) ?_
  have i2 : i + 1 + 1 < n := tEnd_s (bE_T hE Nm) i1 (show tK b L (i + 1) < 45 by omega)
  have mw2 : mw M M2 := mw_t (mfr_w t4) (fun a ha => dc2.1 a (by omega) (by omega))
  unfold pMo_input_8 fMo_input_8
  by_cases k1 : tK b L (i + 1 + 1) = 1
  rotate_left
  · obtain ⟨x1, e, he, x2, x3, x4, x5⟩ := m_mf Nm (v := 58) (s := 1) rfl (by decide) T2.1.1 (by omega) (hE.2.2.1 _ i2) T2.1.2.1 k1
    rw [l_exf Nm k1 x5]
    exact mq1 x1 (by rw [x2]; exact e9 he.1 he.2) (Or.inl ⟨e, _, he, rfl, x2, x3, mw_t mw2 x4⟩)
  rw [l_exs k1]
  obtain ⟨x1, M3, x2, x3, x4⟩ := m_ms (v := 58) (s := 1) rfl (by decide) T2.1.1 (by omega) (hE.2.2.1 _ i2) T2.1.2.1 k1
  rw [x2]
  refine mq0 x1 rfl ?_
  dsimp only
  have T3 := mT_f T2 x4 (Or.inl x3)
  have mw3 := mw_t mw2 (mfr_w x4)
  have i3 : i + 1 + 1 + 1 < n := tEnd_s (bE_T hE Nm) i2 (show tK b L (i + 1 + 1) < 45 by omega)
  unfold pMo_input_15 fMo_input_15
  unfold l_num
  have eb : (tB b L).1 (i + 1 + 1 + 1) = tK b L (i + 1 + 1 + 1) := rfl
  rw [eb]
  by_cases k47 : tK b L (i + 1 + 1 + 1) = 47
  · have p := m_pk47 T3.1.1 (by omega) T3.1.2.1 k47
    rw [if_neg (by omega)]
    unfold l_no
    rw [if_pos (show (tB b L).1 (i + 1 + 1 + 1) = 47 from k47)]
    exact mq1 p.1 (by rw [p.2.1]; decide) (Or.inl ⟨4, _, by decide, rfl, p.2.1, p.2.2.1, mw_t mw3 p.2.2.2⟩)
  obtain ⟨M4, p1, p2, p3, p4⟩ := m_pk T3.1.1 (by omega) T3.1.2.1 k47
  rw [p2]
  refine mq0 p1 rfl ?_
  dsimp only
  have T4 := mT_f T3 p4 (Or.inr p3)
  have mw4 := mw_t mw3 (mfr_w p4)
  have k48 : tK b L (i + 1 + 1 + 1) < 48 := hE.2.2.1 _ i3
  have ev : (tB b L).2.1 (i + 1 + 1 + 1) = val b (tF b L (i + 1 + 1 + 1)) (tZ b L (i + 1 + 1 + 1)) := rfl
  unfold pMo_input_19 fMo_input_19
  by_cases k44 : tK b L (i + 1 + 1 + 1) = 44
  rotate_left
  · rw [if_neg k44]
    unfold l_no
    rw [if_neg (show ¬ (tB b L).1 (i + 1 + 1 + 1) = 47 from k47)]
    refine itn (fun q => k44 (((mt_1 _ k48).2.1 k47).mp q)) ?_
    unfold pMo_input_31 fMo_input_31
    have nn := m_num T4.1.1 (by omega) k48 T4.1.2.1 (lo := 1) (hi := 3) (by decide) (by decide) (fun q => (q.1 = 0 → pMo_input_38 (nI Nm.length) 0 q.2.2.1 q.2.2.2) ∧ MLr b L n (i, co, Nm, CL, CF, Hn, rb, ib, sp, fi) M (lf 1 (i + 1 + 1 + 1)) (if q.1 = 0 then fMo_input_38 (nI Nm.length) 0 q.2.2.1 q.2.2.2 else (q.1, q.2.1, q.2.2.2))) ?_ ?_
    · exact ⟨⟨nn.1, nn.2.1⟩, nn.2.2⟩
    · intro e q hh h1 h2 h3
      rcases hh with ⟨q47, -⟩ | ⟨-, -, e1⟩ | ⟨q44, -⟩
      · exact absurd q47 k47
      · have ne : ¬ q.1 = 0 := by rw [h1, e1]; decide
        rw [if_neg ne]
        exact ⟨fun z => absurd z ne, Or.inl ⟨1, _, by decide, rfl, h1.trans e1, h2, mw_t mw4 h3⟩⟩
      · exact absurd q44 k44
    · intro q44 _ _ _ _ _; exact absurd q44 k44
  rw [if_pos k44, ev]
  refine itp (((mt_1 _ k48).2.1 k47).mpr k44) ?_
  rw [p3.2.2.2.1]
  unfold pMo_input_31 fMo_input_31
  generalize hv : val b (tF b L (i + 1 + 1 + 1)) (tZ b L (i + 1 + 1 + 1)) = v
  have nn := m_num T4.1.1 (by omega) k48 T4.1.2.1 (lo := 1) (hi := 3) (by decide) (by decide) (fun q => (q.1 = 0 → pMo_input_38 (nI Nm.length) (nI (tF b L (i + 1 + 1 + 1))) q.2.2.1 q.2.2.2) ∧ MLr b L n (i, co, Nm, CL, CF, Hn, rb, ib, sp, fi) M (if v < 1 then lf 3 (i + 1 + 1 + 1) else if v ≤ 3 - ib then l_ex (tB b L) 0 (i + 1 + 1 + 1 + 1) (fun j => (0, 0, j, co, Nm ++ [(i + 1, 30, v, ib + v)], CL, CF, Hn, rb, ib + v, sp, fi)) else lf 3 (i + 1 + 1 + 1)) (if q.1 = 0 then fMo_input_38 (nI Nm.length) (nI (tF b L (i + 1 + 1 + 1))) q.2.2.1 q.2.2.2 else (q.1, q.2.1, q.2.2.2))) ?_ ?_
  · exact ⟨⟨nn.1, nn.2.1⟩, nn.2.2⟩
  · intro e q hh h1 h2 h3
    rw [hv] at hh
    rcases hh with ⟨q47, -⟩ | ⟨-, q44, -⟩ | ⟨-, e3, hvv⟩
    · exact absurd q47 k47
    · exact absurd k44 q44
    · have ne : ¬ q.1 = 0 := by rw [h1, e3]; decide
      have el : (if v < 1 then lf 3 (i + 1 + 1 + 1) else if v ≤ 3 - ib then l_ex (tB b L) 0 (i + 1 + 1 + 1 + 1) (fun j => (0, 0, j, co, Nm ++ [(i + 1, 30, v, ib + v)], CL, CF, Hn, rb, ib + v, sp, fi)) else lf 3 (i + 1 + 1 + 1)) = lf 3 (i + 1 + 1 + 1) := by
        by_cases c1 : v < 1
        · rw [if_pos c1]
        · rw [if_neg c1, if_neg (by omega)]
      rw [if_neg ne, el]
      exact ⟨fun z => absurd z ne, Or.inl ⟨3, _, by decide, rfl, h1.trans e3, h2, mw_t mw4 h3⟩⟩
  rw [hv]
  intro _ g1 g3 M5 y1 y2
  rw [if_pos rfl, if_neg (by omega)]
  refine (fun (z : _ ∧ _) => ⟨fun _ => z.1, z.2⟩) ?_
  have T5 := mT_f T4 y2 (Or.inl y1)
  have mw5 := mw_t mw4 (mfr_w y2)
  have i4 : i + 1 + 1 + 1 + 1 < n := tEnd_s (bE_T hE Nm) i3 (show tK b L (i + 1 + 1 + 1) < 45 by omega)
  have rj : ∀ j, 16 < j → M5 40 j = M 40 j := fun j hj => by rw [y2.2 j (by omega), p4.2 j (by omega), x4.2 j (by omega), dc2.2.1 j (by omega) (by omega), t4.2 j (by omega)]
  have ra : ∀ a, 44 < a → M5 a = M a := fun a ha => by rw [y2.1 a (by omega), p4.1 a (by omega), x4.1 a (by omega), dc2.1 a (by omega) (by omega), t4.1 a (by omega)]
  have h28 : M5 40 28 = nI ib := (rj 28 (by decide)).trans hc.2.2.2.2.2
  have h24 : M5 40 24 = nI (cnt 30 Nm) := (rj 24 (by decide)).trans hc.2.1
  have c30 := nW_1 (Or.inr rfl) w3
  unfold pMo_input_38 fMo_input_38
  have hsum : M5 40 28 + nI v = nI (ib + v) := by rw [h28, nI_add]
  by_cases c3 : ib + v ≤ 3
  rotate_left
  · rw [if_neg (by omega)]
    exact itn (show ¬ M5 40 28 + nI v ≤ 3 by rw [hsum]; exact nI_ge (a := 3) (b := ib + v) (by omega) (by omega)) ⟨trivial, Or.inl ⟨3, _, by decide, rfl, rfl, rfl, mw5⟩⟩
  rw [if_pos (by omega)]
  refine itp (show M5 40 28 + nI v ≤ 3 by rw [hsum]; exact nI_le (a := ib + v) (b := 3) c3 (by decide)) ?_
  dsimp only
  rw [hsum, h24, nI_clamp (n := cnt 30 Nm) (by omega), nI_clamp (n := Nm.length) (by omega), nI_1]
  have v3 : vp_in (nI (cnt 30 Nm)) 3 := vp_in_nI (by omega) (by decide)
  have v6 : vp_in (nI Nm.length) 60 := vp_in_nI h60 (by decide)
  generalize e6 : pm_u (pm_u (pm_u (pm_u (pm_u M5 49 (cnt 30 Nm) (nI v)) 40 28 (nI (ib + v))) 44 Nm.length (2 : Int32)) 40 24 (nI (cnt 30 Nm + 1))) 45 Nm.length (nI (cnt 30 Nm)) = M6
  have ga : ∀ a, a ≠ 40 → a ≠ 44 → a ≠ 45 → a ≠ 49 → M6 a = M5 a := fun a h1 h2 h3 h4 => by rw [← e6, pm_u_n _ _ _ h3, pm_u_n _ _ _ h1, pm_u_n _ _ _ h2, pm_u_n _ _ _ h1, pm_u_n _ _ _ h4]
  have gj : ∀ j, j ≠ 24 → j ≠ 28 → M6 40 j = M5 40 j := fun j h1 h2 => by rw [← e6, pm_u_n _ _ _ (by decide), pm_u_j _ _ _ h1, pm_u_n _ _ _ (by decide), pm_u_j _ _ _ h2, pm_u_n _ _ _ (by decide)]
  have g24 : M6 40 24 = nI (cnt 30 Nm + 1) := by rw [← e6, pm_u_n _ _ _ (by decide), pm_u_s]
  have g28 : M6 40 28 = nI (ib + v) := by rw [← e6, pm_u_n _ _ _ (by decide), pm_u_j _ _ _ (by decide), pm_u_n _ _ _ (by decide), pm_u_s]
  have g44 : M6 44 Nm.length = 2 := by rw [← e6, pm_u_n _ _ _ (by decide), pm_u_n _ _ _ (by decide), pm_u_s]
  have g45 : M6 45 Nm.length = nI (cnt 30 Nm) := by rw [← e6, pm_u_s]
  have g49 : M6 49 (cnt 30 Nm) = nI v := by rw [← e6, pm_u_n _ _ _ (by decide), pm_u_n _ _ _ (by decide), pm_u_n _ _ _ (by decide), pm_u_n _ _ _ (by decide), pm_u_s]
  have g44' : ∀ k, k ≠ Nm.length → M6 44 k = M5 44 k := fun k hk => by rw [← e6, pm_u_n _ _ _ (by decide), pm_u_n _ _ _ (by decide), pm_u_j _ _ _ hk, pm_u_n _ _ _ (by decide), pm_u_n _ _ _ (by decide)]
  have g45' : ∀ k, k ≠ Nm.length → M6 45 k = M5 45 k := fun k hk => by rw [← e6, pm_u_j _ _ _ hk, pm_u_n _ _ _ (by decide), pm_u_n _ _ _ (by decide), pm_u_n _ _ _ (by decide), pm_u_n _ _ _ (by decide)]
  have g49' : ∀ k, k ≠ cnt 30 Nm → M6 49 k = M5 49 k := fun k hk => by rw [← e6, pm_u_n _ _ _ (by decide), pm_u_n _ _ _ (by decide), pm_u_n _ _ _ (by decide), pm_u_n _ _ _ (by decide), pm_u_j _ _ _ hk]
  have gM : ∀ a, 45 < a → a ≠ 49 → M6 a = M a := fun a h1 h2 => (ga a (by omega) (by omega) (by omega) h2).trans (ra a (by omega))
  have hML : mL b L (i + 1 + 1 + 1 + 1, co, Nm ++ [(i + 1, 30, v, ib + v)], CL, CF, Hn, rb, ib + v, sp, fi) N F RB D SP M6 := by
    refine ⟨?_, ⟨?_, ?_, ?_, ?_, ?_, ?_⟩, ?_, ⟨?_, hr.2.1, ?_⟩, ⟨hd.1, ?_⟩, hs.1, hs.2.1, ?_⟩
    · exact mT_l T5 (fun q hq => gj q (by omega) (by omega)) (fun a h1 h2 => ga a h1 (by omega) (by omega) (by omega)) g44 g44' g45' (fun q => absurd q (by decide)) (mU_k T5.2.2.1.2 rfl (by show (30 : Nat) ≠ 33; decide) (ga 51 (by decide) (by decide) (by decide) (by decide)))
    · rw [gj 23 (by decide) (by decide), rj 23 (by decide), cnt_app, if_neg (by show ¬ (30 : Nat) = 29; decide)]; exact hc.1
    · rw [g24, cnt_app, if_pos rfl]
    · rw [gj 25 (by decide) (by decide), rj 25 (by decide), cnt_app, if_neg (by show ¬ (30 : Nat) = 31; decide)]; exact hc.2.2.1
    · rw [gj 26 (by decide) (by decide), rj 26 (by decide)]; exact hc.2.2.2.1
    · rw [gj 27 (by decide) (by decide), rj 27 (by decide)]; exact hc.2.2.2.2.1
    · exact g28
    · intro k x hx
      rcases gE_n hx with ⟨c, hy⟩ | ⟨c, hy⟩
      · have o := hn k x hy
        rw [tk_app (by omega), g45' k (by omega), ra 45 (by decide), gM 46 (by decide) (by decide), gM 48 (by decide) (by decide)]
        refine ⟨o.1, o.2.1, fun e30 => ?_⟩
        have lt := cnt_lt Nm k x hy e30
        rw [g49' _ (by omega), ra 49 (by decide)]
        exact o.2.2 e30
      · rw [c, hy, tk_app (Nat.le_refl _), tk_all (Nat.le_refl _)]
        exact ⟨g45, fun q => absurd q (by show ¬ (30 : Nat) = 29; decide), fun _ => g49⟩
    · rw [cnt_app, if_neg (by show ¬ (30 : Nat) = 29; decide)]; exact hr.1
    · intro r y hy
      rw [gM 46 (by decide) (by decide), gM 47 (by decide) (by decide)]
      exact hr.2.2 r y hy
    · refine mLd_n hd.2 w11 (Nat.le_refl _) (fun lo e _ k _ _ => ⟨by rw [gM 52 (by decide) (by decide)], by rw [gM 53 (by decide) (by decide)], by rw [gM 54 (by decide) (by decide)], fun _ => ⟨by rw [gM 55 (by decide) (by decide)], by rw [gM 56 (by decide) (by decide)]⟩⟩) (fun k _ => by rw [gM 50 (by decide) (by decide)]) (fun k _ => by rw [gM 48 (by decide) (by decide)])
    · intro g C hg
      rw [gM 51 (by decide) (by decide)]
      exact hs.2.2 g C hg
  exact sq v3 (sq v6 (sq v6 ⟨trivial, Or.inr ⟨i + 1 + 1 + 1 + 1, (co, Nm ++ [(i + 1, 30, v, ib + v)], CL, CF, Hn, rb, ib + v, sp, fi), N, F, RB, D, SP, rfl, (by show i < i + 1 + 1 + 1 + 1; omega), i4, rfl, hML, (by omega), (by omega), mw_t mw5 (fun a ha => ga a (by omega) (by omega) (by omega) (by omega))⟩⟩))
end
