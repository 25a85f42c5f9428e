/-! CALLS 4: value -/
section
variable {I : Mm} {J : Ml} {B : Nat → Value} {E : List (Nat × Nat)}
theorem sp_ix {Nm : NmT} {rb ib : Nat} {Hn : List Nat} {D : List Itm} {M : Mm} (h : mC Nm rb ib Hn D M) {k : Nat} (hk : k < Nm.length) (h33 : kd Nm k = 33) : pt Nm k = cnt 33 (Nm.take k) ∧ cnt 33 (Nm.take k) < cnt 33 Nm := by
  obtain ⟨x, hx⟩ : ∃ x, Nm[k]? = some x := ⟨_, List.getElem?_eq_getElem hk⟩
  have h1 : x.2.1 = 33 := by unfold kd at h33; rw [getD_some hx] at h33; exact h33
  refine ⟨?_, cnt_lt Nm k x hx h1⟩
  unfold pt
  rw [getD_some hx]
  rcases h.2.2.1 k x hx with ⟨q, _⟩ | ⟨q, _⟩ | ⟨q, _⟩ | ⟨_, _, q⟩
  · omega
  · omega
  · omega
  · exact q
theorem k_value (h : Iv I J B E) (y z : Int32) : pCh_value y z I J ∧ (((fCh_value y z I J).1 = 0 ∧ ∀ E, pMo_value2 y z I B E ∧ (fMo_value2 y z I B E).2 40 2 = 0 ∧ (fCh_value y z I J).2 = (fMo_value2 y z I B E).1 ∧ eq6 I (fMo_value2 y z I B E).2) ∨ rfs I 14 1 (fCh_value y z I J).1 (pMo_value2 y z I B) (fMo_value2 y z I B) ∨ rfs I 13 2 (fCh_value y z I J).1 (pMo_value2 y z I B) (fMo_value2 y z I B)) := by
  obtain ⟨⟨co, Nm, rb, ib, sp, fi, Hn, D, SS, st, e, w, ⟨a1, a2, a3, a4, a5⟩, ⟨c1, c2, c4, c5, c6, c7, c8, c9⟩, ⟨m1, m3, m4, m5, m6_, m7, m8, m9⟩⟩, _⟩ := h
  have n256 := m1.2.1.2.2.1
  have m8' := m1.2.1.2.2.2.1
  have r8 := m1.1.2.1.2.2.2.1
  have i3 := m1.1.2.1.2.2.2.2
  have n60 := m1.1.2.1.1
  rcases rng y (n := Nm.length) (by omega) with ⟨k, k1, rfl, k3, k4, k5⟩ | k1
  · have hV : mC Nm rb ib Hn D (pm_u I 40 2 0) := mC_x m1.1 (fun a h1 h2 => pm_u_n _ _ _ (by omega)) (fun j h1 h2 => pm_u_j _ _ _ (by omega))
    obtain ⟨t1, t2⟩ := are_in (J := J) c2.1.2.2.1 (by omega) z
    have al : fMo_allInputs (pm_u I 40 2 0) = nI (2 ^ ib) := (mall hV).2
    have ck : (nI k).toNatClampNeg = k := nI_clamp (by omega)
    have vk : vp_in (nI k) 60 := vp_in_nI (by omega) (by decide)
    rcases t2 with ⟨i, j1, rfl, j3, j4, j5⟩ | ⟨j1, j2⟩
    · have cs := case_of (J := J) c1.2.2.2.1 i3 (show st < 256 by omega) j1
      obtain ⟨x1, x2⟩ := cse_lt r8 i3 a4 j1
      obtain ⟨g1, M', g2, g3, g4⟩ := m_set hV a4 j1
      have e46 : pm_u I 40 2 0 40 46 = nI st := by rw [pm_u_j _ _ _ (by decide)]; exact m8
      have q40 : M' 40 = pm_u I 40 2 0 40 := g3 40 (by decide) (by decide) (by decide)
      obtain ⟨u1, u2, u3⟩ := mC_g m1.1 k1
      obtain ⟨v1, v2, v3⟩ := c1.2.2.2.2.2.2.2.2.2 k k1
      have r44 : M' 44 = I 44 := (g3 44 (by decide) (by decide) (by decide)).trans (pm_u_n _ _ _ (by decide))
      have r45 : M' 45 = I 45 := (g3 45 (by decide) (by decide) (by decide)).trans (pm_u_n _ _ _ (by decide))
      have eM : eq6 I M' := ⟨fun a h1 h2 h3 h4 => (g3 a h2 h3 h4).trans (pm_u_n _ _ _ h1), fun j hj => by rw [q40, pm_u_j _ _ _ hj]⟩
      have z2 : M' 40 2 = 0 := by rw [q40, pm_u_s]
      -- the model's road to 66
      have fr : ∀ E, fMo_value2 (nI k) (nI i) I B E = fMo_value2_66 (nI k) (nI i) M' B E := fun E => by
        unfold fMo_value2 fMo_value2_24 fMo_value2_27 fMo_value2_49 fMo_value2_52
        rw [m6_, if_neg k3, if_pos k5, (rf0 1).2, if_pos rfl, if_neg j3]
        dsimp only
        rw [al, if_pos j4, (rf0 2).2, if_pos rfl]
        dsimp only
        rw [e46, g2]
      have pr : ∀ E, pMo_value2_66 (nI k) (nI i) M' B E → pMo_value2 (nI k) (nI i) I B E := fun E hp => by
        unfold pMo_value2 pMo_value2_24 pMo_value2_27 pMo_value2_49 pMo_value2_52
        rw [m6_, (rf0 1).2]
        dsimp only
        rw [al, (rf0 2).2]
        dsimp only
        rw [e46, g2]
        exact ⟨fun q => absurd q k3, fun _ => ⟨fun _ => ⟨(rf0 1).1, fun _ => ⟨fun q => absurd q j3, fun _ => ⟨trivial, fun _ => ⟨(rf0 2).1, fun _ => ⟨g1, hp⟩, fun q => absurd rfl q⟩, fun q => absurd j4 q⟩⟩, fun q => absurd rfl q⟩, fun q => absurd k5 q⟩⟩
      by_cases h33 : kd Nm k = 33
      · obtain ⟨s1, s2⟩ := sp_ix m1.1 k1 h33
        have so := is_so (I := I) (J := J) (k := cnt 33 (Nm.take k)) (s := st) (by omega) (by omega)
        rw [c2.2.2.2 _ (by omega) st (by omega)] at so
        have ro := (m1.2.2.2 (cnt 33 (Nm.take k)) (by omega)).2 st a4
        have e4 : I 4 k = 33 := by rw [v1, h33]; rfl
        have w44 : M' 44 k = 4 := by rw [r44, u1, h33]; rfl
        have w45 : M' 45 k = nI (cnt 33 (Nm.take k)) := by rw [r45, u2, h33]
        have w46 : M' 40 46 = nI st := by rw [q40]; exact e46
        have wr : M' (323 + cnt 33 (Nm.take k)) = I (323 + cnt 33 (Nm.take k)) := (g3 _ (by omega) (by omega) (by omega)).trans (pm_u_n _ _ _ (by omega))
        have f1 : fCh_value (nI k) (nI i) I J = (0, b2 (SS (cnt 33 (Nm.take k)) st)) := by
          unfold fCh_value
          rw [if_neg k3, c1.1, if_pos k5, j5, if_neg (by decide), ck, if_pos e4, v3, s1, c9, so.2]
          cases SS (cnt 33 (Nm.take k)) st
          · exact if_pos rfl
          · exact if_neg (show ¬ b2 true = 0 by decide)
        have f2 : fMo_value2_66 (nI k) (nI i) M' B = fun _ => (b2 (SS (cnt 33 (Nm.take k)) st), M') := funext fun E => by
          unfold fMo_value2_66
          rw [ck, w44, w45, w46, nI_clamp (n := cnt 33 (Nm.take k)) (by omega), nI_clamp (n := st) (by omega), wr, ro, if_neg (by decide), if_neg (by decide), if_neg (by decide)]
          cases SS (cnt 33 (Nm.take k)) st
          · exact if_pos rfl
          · exact if_neg (show ¬ b2 true = 0 by decide)
        refine ⟨?_, Or.inl ⟨by rw [f1], fun E => ⟨pr E ?_, ?_, ?_, ?_⟩⟩⟩
        · unfold pCh_value
          rw [c1.1, j5, ck, v3, s1, c9, so.2]
          exact ⟨fun q => absurd q k3, fun _ => ⟨fun _ => ⟨t1, fun q => absurd q (by decide), fun _ => ⟨vk, fun _ => ⟨vk, so.1, fun _ => trivial, fun _ => trivial⟩, fun q => absurd e4 q⟩⟩, fun q => absurd k5 q⟩⟩
        · unfold pMo_value2_66
          rw [ck, w44, w45, w46]
          exact ⟨vk, fun q => absurd q (by decide), fun _ => ⟨fun q => absurd q (by decide), fun _ => ⟨fun q => absurd q (by decide), fun _ => ⟨vk, vp_in_nI (by omega) (by decide), vp_in_nI (by omega) (by decide), fun _ => trivial, fun _ => trivial⟩⟩⟩⟩
        · rw [fr, f2]; exact z2
        · rw [fr, f2, f1]
        · rw [fr, f2]; exact eM
      · have na := va_name (I := I) (J := J) (k := k) (c := st * 2 ^ ib + i) (by omega) x2
        rw [c2.2.2.1 k k1 h33 _ x1, (aE_c (Nm := Nm) (rb := rb) (D := D) (s := st) j1).1] at na
        have nv := g4 k k1 h33
        generalize En Nm rb ib D st i k = v at na nv
        have e4 : ¬ I 4 k = 33 := by
          rw [v1]
          intro q
          have : kd Nm k < 50 := by omega
          exact h33 ((nI_eq (a := kd Nm k) (b := 33) (by omega) (by decide)).mp q)
        have f1 : fCh_value (nI k) (nI i) I J = (0, nI v.toNat) := by
          unfold fCh_value
          rw [if_neg k3, c1.1, if_pos k5, j5, if_neg (by decide), ck, if_neg e4, c9, cs, na.2]
        have pc : pCh_value (nI k) (nI i) I J := by
          unfold pCh_value
          rw [c1.1, j5, ck, c9, cs]
          exact ⟨fun q => absurd q k3, fun _ => ⟨fun _ => ⟨t1, fun q => absurd q (by decide), fun _ => ⟨vk, fun q => absurd q e4, fun _ => ⟨trivial, na.1, trivial⟩⟩⟩, fun q => absurd k5 q⟩⟩
        have fin : (∀ E, pMo_value2_66 (nI k) (nI i) M' B E ∧ fMo_value2_66 (nI k) (nI i) M' B E = (nI v.toNat, M')) → pCh_value (nI k) (nI i) I J ∧ (((fCh_value (nI k) (nI i) I J).1 = 0 ∧ ∀ E, pMo_value2 (nI k) (nI i) I B E ∧ (fMo_value2 (nI k) (nI i) I B E).2 40 2 = 0 ∧ (fCh_value (nI k) (nI i) I J).2 = (fMo_value2 (nI k) (nI i) I B E).1 ∧ eq6 I (fMo_value2 (nI k) (nI i) I B E).2) ∨ rfs I 14 1 (fCh_value (nI k) (nI i) I J).1 (pMo_value2 (nI k) (nI i) I B) (fMo_value2 (nI k) (nI i) I B) ∨ rfs I 13 2 (fCh_value (nI k) (nI i) I J).1 (pMo_value2 (nI k) (nI i) I B) (fMo_value2 (nI k) (nI i) I B)) := fun hh => by
          refine ⟨pc, Or.inl ⟨by rw [f1], fun E => ⟨pr E (hh E).1, ?_, ?_, ?_⟩⟩⟩
          · rw [fr, (hh E).2]; exact z2
          · rw [fr, (hh E).2, f1]
          · rw [fr, (hh E).2]; exact eM
        refine fin fun E => ?_
        unfold pMo_value2_66 fMo_value2_66
        rw [ck]
        rcases nv.2 with ⟨w1, x, hx, w2, w3⟩ | ⟨w1, x, hx, w2, w3⟩ | ⟨w1, x, hx, w2, w3⟩
        · rw [w1, w2, nI_clamp (n := x) (by omega), w3]
          exact ⟨⟨vk, fun _ => ⟨vk, vp_in_nI hx (by decide), trivial⟩, fun q => absurd rfl q⟩, if_pos rfl⟩
        · rw [w1, w2, nI_clamp (n := x) (by omega), w3]
          exact ⟨⟨vk, fun q => absurd q (by decide), fun _ => ⟨fun _ => ⟨vk, vp_in_nI hx (by decide), trivial⟩, fun q => absurd rfl q⟩⟩, (if_neg (by decide)).trans (if_pos rfl)⟩
        · rw [w1, w2, nI_clamp (n := x) (by omega), w3]
          exact ⟨⟨vk, fun q => absurd q (by decide), fun _ => ⟨fun q => absurd q (by decide), fun _ => ⟨fun _ => ⟨vk, vp_in_nI hx (by decide), trivial⟩, fun q => absurd rfl q⟩⟩⟩, (if_neg (by decide)).trans ((if_neg (by decide)).trans (if_pos rfl))⟩
    · have f1 : fCh_value (nI k) z I J = (13, 0) := by
        unfold fCh_value
        rw [if_neg k3, c1.1, if_pos k5, j2, if_pos rfl]
      have f2 : ∀ E, fMo_value2 (nI k) z I B E = (0, pm_u (pm_u I 40 2 0) 40 2 2) := fun E => by
        unfold fMo_value2 fMo_value2_24 fMo_value2_27 fMo_value2_44 fMo_value2_49 fMo_value2_52 fMo_value2_55
        rw [m6_, if_neg k3, if_pos k5, (rf0 1).2, if_pos rfl]
        dsimp only
        rw [al]
        rcases j1 with j1 | ⟨j1, j3⟩
        · rw [if_pos j1, (rf1 2).2]; exact if_neg (show ¬ (1 : Int32) = 0 by decide)
        · rw [if_neg j1, if_neg j3, (rf1 2).2]; exact if_neg (show ¬ (1 : Int32) = 0 by decide)
      have p2 : ∀ E, pMo_value2 (nI k) z I B E := fun E => by
        have p3 : pMo_value2_49 (nI k) z 2 1 (pm_u I 40 2 0) B E := by
          unfold pMo_value2_49 pMo_value2_52
          rw [(rf1 2).2]
          exact ⟨(rf1 2).1, fun q => absurd q (show ¬ (1 : Int32) = 0 by decide), fun _ => trivial⟩
        unfold pMo_value2 pMo_value2_24 pMo_value2_27
        rw [m6_, (rf0 1).2]
        dsimp only
        rw [al]
        refine ⟨fun q => absurd q k3, fun _ => ⟨fun _ => ⟨(rf0 1).1, fun _ => ⟨fun _ => p3, fun j3 => ⟨trivial, fun j4 => ?_, fun _ => p3⟩⟩, fun q => absurd rfl q⟩, fun q => absurd k5 q⟩⟩
        rcases j1 with j1 | ⟨j1, j5⟩
        · exact absurd j1 j3
        · exact absurd j4 j5
      refine ⟨?_, Or.inr (Or.inr ⟨by rw [f1], fun E => ?_⟩)⟩
      · unfold pCh_value
        rw [c1.1, j2]
        exact ⟨fun q => absurd q k3, fun _ => ⟨fun _ => ⟨t1, fun _ => trivial, fun q => absurd rfl q⟩, fun q => absurd k5 q⟩⟩
      · rw [f2]
        dsimp only
        exact ⟨p2 E, pm_u_s _ _ _ _, eq6_1 _ _ _⟩
  · have kk : y < 0 ∨ (¬ y < 0 ∧ ¬ y < nI Nm.length) := by
      rcases k1 with q | ⟨q1, _, q2⟩
      · exact Or.inl q
      · exact Or.inr ⟨q1, q2⟩
    have f1 : fCh_value y z I J = (14, 0) := by
      unfold fCh_value fCh_value_15
      rw [c1.1]
      rcases kk with q | ⟨q1, q2⟩
      · exact if_pos q
      · rw [if_neg q1, if_neg q2]
    have f2 : ∀ E, fMo_value2 y z I B E = (0, pm_u (pm_u I 40 2 0) 40 2 1) := fun E => by
      unfold fMo_value2 fMo_value2_19 fMo_value2_24 fMo_value2_27 fMo_value2_55
      rw [m6_]
      rcases kk with q | ⟨q1, q2⟩
      · rw [if_pos q, (rf1 1).2]; exact if_neg (show ¬ (1 : Int32) = 0 by decide)
      · rw [if_neg q1, if_neg q2, (rf1 1).2]; exact if_neg (show ¬ (1 : Int32) = 0 by decide)
    have p2 : ∀ E, pMo_value2 y z I B E := fun E => by
      have p3 : pMo_value2_24 y z 1 1 (pm_u I 40 2 0) B E := by
        unfold pMo_value2_24 pMo_value2_27
        rw [(rf1 1).2]
        exact ⟨(rf1 1).1, fun q => absurd q (show ¬ (1 : Int32) = 0 by decide), fun _ => trivial⟩
      unfold pMo_value2
      rw [m6_]
      refine ⟨fun _ => p3, fun j3 => ⟨fun j4 => ?_, fun _ => p3⟩⟩
      rcases kk with q | ⟨q1, q2⟩
      · exact absurd q j3
      · exact absurd j4 q2
    refine ⟨?_, Or.inr (Or.inl ⟨by rw [f1], fun E => ?_⟩)⟩
    · unfold pCh_value
      rw [c1.1]
      refine ⟨fun _ => trivial, fun q1 => ⟨fun q2 => ?_, fun _ => trivial⟩⟩
      rcases kk with q | ⟨_, q⟩
      · exact absurd q q1
      · exact absurd q2 q
    · rw [f2]
      dsimp only
      exact ⟨p2 E, pm_u_s _ _ _ _, eq6_1 _ _ _⟩
end
