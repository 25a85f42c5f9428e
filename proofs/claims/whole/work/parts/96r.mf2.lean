/-! MODEL'S FORMULAS 2: either, both, formula -/
theorem mt_f : ∀ k, k < 48 → k ≠ 47 → (nI (mt k) = (308 : Int32) ↔ k = 28) ∧ (nI (mt k) = (307 : Int32) ↔ k = 27) ∧ (nI (mt k) = (306 : Int32) ↔ k = 26) ∧ (nI (mt k) = (33 : Int32) ↔ k = 19) ∧ (nI (mt k) = (40 : Int32) ↔ k = 4) ∧ (nI (mt k) = (123 : Int32) ↔ k = 8) ∧ (nI (mt k) = (1 : Int32) ↔ 29 ≤ k ∧ k ≤ 43) := by decide +kernel
theorem sF_deep {T : TT} {m t d i co : Nat} (ht : t = 0 ∨ t = 3) (hd : 40 < d) (h9 : (sp_F T m t d i co).1 ≠ 9) : sp_F T m t d i co = sp_fail 4 i := by
  cases m with
  | zero => exact absurd rfl h9
  | succ m =>
    rcases ht with rfl | rfl
    · rw [sF0]; exact if_pos hd
    · rw [sF3]; exact if_pos hd
theorem sfl47 {T : TT} {G : Nat → Nat → Nat → Nat → SR} {t s o d : Nat} : ∀ (k j c : Nat) (C : Cd), (sp_fl T G t s o d k j c C).1 = 0 → T.1 (sp_fl T G t s o d k j c C).2.2.1 ≠ 47 := by
  intro k
  induction k with
  | zero => intro j c C h; exact absurd h (by show ¬ (9 : Nat) = 0; decide)
  | succ k ih =>
    intro j c C h
    unfold sp_fl at h ⊢
    by_cases k47 : T.1 j = 47
    · rw [if_pos k47] at h; exact absurd h (by show ¬ (4 : Nat) = 0; decide)
    rw [if_neg k47] at h ⊢
    by_cases kt : T.1 j = s
    · rw [if_pos kt] at h ⊢
      by_cases e1 : (G t d (j + 1) c).1 = 0
      · rw [sp_b0 e1] at h ⊢; exact ih _ _ _ h
      · rw [sp_b1 e1] at h; exact absurd h e1
    · rw [if_neg kt]; exact k47
theorem mfQ0 (m : Nat) (x0 x1 : Int32) (I : Mm) : mf_Q (m + 1) 0 x0 x1 I = pMo_formula (mf_F m) (mf_Q m) x0 I := by rw [mf_Q.eq_2]; exact if_pos rfl
theorem mfF0 (m : Nat) (x0 x1 : Int32) (I : Mm) : mf_F (m + 1) 0 x0 x1 I = fMo_formula (mf_F m) x0 I := by rw [mf_F.eq_2]; exact if_pos rfl
theorem mfQ1 (m : Nat) (x0 x1 : Int32) (I : Mm) : mf_Q (m + 1) 1 x0 x1 I = pMo_either (mf_F m) (mf_Q m) 4002 x0 I := by rw [mf_Q.eq_2, if_neg (by decide)]; exact if_pos rfl
theorem mfF1 (m : Nat) (x0 x1 : Int32) (I : Mm) : mf_F (m + 1) 1 x0 x1 I = fMo_either (mf_F m) 4002 x0 I := by rw [mf_F.eq_2, if_neg (by decide)]; exact if_pos rfl
theorem mfQ2 (m : Nat) (x0 x1 : Int32) (I : Mm) : mf_Q (m + 1) 2 x0 x1 I = pMo_both (mf_F m) (mf_Q m) 4002 x0 I := by rw [mf_Q.eq_2, if_neg (by decide), if_neg (by decide)]; exact if_pos rfl
theorem mfF2 (m : Nat) (x0 x1 : Int32) (I : Mm) : mf_F (m + 1) 2 x0 x1 I = fMo_both (mf_F m) 4002 x0 I := by rw [mf_F.eq_2, if_neg (by decide), if_neg (by decide)]; exact if_pos rfl
theorem mfQ3 (m : Nat) (x0 x1 : Int32) (I : Mm) : mf_Q (m + 1) 3 x0 x1 I = pMo_single (mf_F m) (mf_Q m) x0 I := by rw [mf_Q.eq_2, if_neg (by decide), if_neg (by decide), if_neg (by decide)]; exact if_pos rfl
theorem mfF3 (m : Nat) (x0 x1 : Int32) (I : Mm) : mf_F (m + 1) 3 x0 x1 I = fMo_single (mf_F m) x0 I := by rw [mf_F.eq_2, if_neg (by decide), if_neg (by decide), if_neg (by decide)]; exact if_pos rfl
section
variable {b : Nat → Nat} {L : Nat} {n : Nat} {Nm NL : NmT}
def HG (b : Nat → Nat) (L : Nat) (Nm NL : NmT) (n m : Nat) : Prop := ∀ (t d i co N : Nat) (F : FT) (M : Mm), t ≤ 3 → d ≤ 40 → i < n → co ≤ 3000 → N ≤ i → F.length ≤ i → (sp_F (tT (tB b L) Nm) m t d i co).1 ≠ 9 → mT b L NL i co N F M → mf_Q m t (nI d) 0 M ∧ MF b L NL i N F M (sp_F (tT (tB b L) Nm) m t d i co) (mf_F m t (nI d) 0 M)

set_option maxHeartbeats 4000000 in
theorem mfL_either {m : Nat} (hE : bE (tB b L) n) (hm : HG b L Nm NL n m) {d i N : Nat} {F : FT} {M : Mm} (hd : d ≤ 40) (hN : N ≤ i) (hF : F.length ≤ i) : ∀ (k j c : Nat) (C : Cd) (nm f N' : Nat) (G : FT) (M1 : Mm), mT b L NL j c N' (F ++ G) M1 → j < n → c ≤ 3000 → Fw (F ++ G) f C → N ≤ N' → N' + i ≤ N + j → G.length + i ≤ j → 4002 ≤ nm + j → mG N F.length M M1 → (sp_fl (tT (tB b L) Nm) (sp_F (tT (tB b L) Nm) m) 2 27 55 d k j c C).1 ≠ 9 → pMo_either_6 (mf_F m) (mf_Q m) nm (nI d) (nI f) M1 ∧ MF b L NL i N F M (sp_fl (tT (tB b L) Nm) (sp_F (tT (tB b L) Nm) m) 2 27 55 d k j c C) (fMo_either_6 (mf_F m) nm (nI d) (nI f) M1) := by
  have hn := hE.2.1
  intro k
  induction k with
  | zero => intro j c C nm f N' G M1 _ _ _ _ _ _ _ _ _ h; exact absurd rfl h
  | succ k ih =>
    intro j c C nm f N' G M1 hT hj hc hW hNN hcnt hG hnm hFr h9
    obtain ⟨nm, rfl⟩ : ∃ nm', nm = nm' + 1 := ⟨nm - 1, by omega⟩
    have k48 : tK b L j < 48 := hE.2.2.1 j hj
    have tk : (tT (tB b L) Nm).1 j = tK b L j := rfl
    rw [pMo_either_6.eq_2, fMo_either_6.eq_2]
    unfold sp_fl at h9 ⊢
    rw [tk] at h9 ⊢
    by_cases k47 : tK b L j = 47
    · rw [if_pos k47]
      have p := m_pk47 hT.1.1 (by omega) hT.1.2.1 k47
      exact mq1 p.1 (by rw [p.2.1]; decide) (MF_f (by decide) p.2.1 p.2.2.1 (mw_t (mG_w hFr) p.2.2.2))
    rw [if_neg k47] at h9 ⊢
    obtain ⟨M2, p1, p2, p3, p4⟩ := m_pk hT.1.1 (by omega) hT.1.2.1 k47
    rw [p2]
    refine mq0 p1 rfl ?_
    dsimp only
    have T2 := mT_f hT p4 (Or.inr p3)
    have F2 : mG N F.length M M2 := mG_t hFr (mG_f (N := N) (n := F.length) p4) (Nat.le_refl _) (Nat.le_refl _)
    unfold pMo_either_10 fMo_either_10
    by_cases kt : tK b L j = 27
    rotate_left
    · rw [if_neg kt]
      refine itn (fun q => kt ((mt_f _ k48 k47).2.1.mp q)) ?_
      exact ⟨trivial, fun _ => ⟨rfl, f, N', G, rfl, T2, hW, hNN, hcnt, hG, F2⟩, fun q => absurd rfl q⟩
    rw [if_pos kt] at h9 ⊢
    refine itp ((mt_f _ k48 k47).2.1.mpr kt) ?_
    obtain ⟨t1, M3, t2, t3, t4⟩ := m_take p3 (by omega)
    rw [t2]
    refine mq0 t1 rfl ?_
    dsimp only
    have T3 := mT_f T2 t4 (Or.inl t3)
    have F3 : mG N F.length M M3 := mG_t F2 (mG_f (N := N) (n := F.length) t4) (Nat.le_refl _) (Nat.le_refl _)
    have sj := tEnd_s (bE_T hE Nm) hj (show tK b L j < 45 by omega)
    unfold pMo_either_20 fMo_either_20
    have hl : (F ++ G).length ≤ j := by rw [List.length_append]; omega
    have u := hm 2 d (j + 1) c N' (F ++ G) M3 (by decide) hd sj hc (by omega) (by omega) (b9 h9) T3
    have ln := sp_lenF (bE_T hE Nm) m 2 d (j + 1) c sj hc
    generalize mf_F m 2 (nI d) 0 M3 = q at u
    generalize sp_F (tT (tB b L) Nm) m 2 d (j + 1) c = r at u ln h9 ⊢
    by_cases e1 : r.1 = 0
    rotate_left
    · rw [sp_b1 e1]
      have z := u.2.2 e1
      exact mq1 u.1 (by rw [z.1]; exact e9 e1 z.2.2.2) (MF_b e1 z.1 z.2.1 (mw_t (mG_w F3) z.2.2.1) z.2.2.2)
    rw [sp_b0 e1] at h9 ⊢
    have l1 := ln e1
    obtain ⟨z1, f2, N2, G2, z2, z3, z4, z5, z6, z7, z8⟩ := u.2.1 e1
    refine mq0 u.1 z1 ?_
    unfold pMo_either_25 fMo_either_25
    rw [z2]
    have hl2 : (F ++ G ++ G2).length ≤ r.2.2.1 := by rw [List.length_append, List.length_append]; omega
    obtain ⟨n1, M4, n2, n3, n4⟩ := m_make z3 (by omega) 2 f f2 [] (fun q => absurd q (by decide)) (Or.inr (Or.inr (Or.inr ⟨(Fw_a G2 hW).1, z4.1, 55, by show (2, 55) ∈ op2; decide⟩)))
    have n1' : pMo_make (2 : Int32) (nI f) (nI f2) q.2.2.2 := n1
    have n2' : fMo_make (2 : Int32) (nI f) (nI f2) q.2.2.2 = (nI (F ++ G ++ G2).length, M4) := n2
    rw [n2']
    refine sq n1' ?_
    dsimp only
    unfold pMo_either_33 fMo_either_33
    have W4 := Fw_2 (h := 2) (o := 55) (by decide) (Fw_a G2 hW) z4
    have ea : F ++ G ++ G2 ++ [(2, f, f2, [])] = F ++ (G ++ (G2 ++ [(2, f, f2, [])])) := by simp only [List.append_assoc]
    rw [ea] at n3 W4
    refine ih r.2.2.1 r.2.2.2.1 _ nm _ N2 (G ++ (G2 ++ [(2, f, f2, [])])) M4 n3 l1.2.2.1 l1.2.2.2.2.1 W4 (by omega) (by omega) (by simp only [List.length_append, List.length_cons, List.length_nil]; omega) (by omega) ?_ h9
    exact mG_t (mG_t F3 z8 hNN (by rw [List.length_append]; omega)) n4 (by omega) (by rw [List.length_append, List.length_append]; omega)
theorem mfO_either {m : Nat} (hE : bE (tB b L) n) (hm : HG b L Nm NL n m) {d i co N : Nat} {F : FT} {M : Mm} (hd : d ≤ 40) (hi : i < n) (hco : co ≤ 3000) (hN : N ≤ i) (hF : F.length ≤ i) (h9 : (sp_F (tT (tB b L) Nm) (m + 1) 1 d i co).1 ≠ 9) (hT : mT b L NL i co N F M) : mf_Q (m + 1) 1 (nI d) 0 M ∧ MF b L NL i N F M (sp_F (tT (tB b L) Nm) (m + 1) 1 d i co) (mf_F (m + 1) 1 (nI d) 0 M) := by
  have hn := hE.2.1
  rw [sF1] at h9 ⊢
  rw [mfQ1, mfF1]
  unfold pMo_either fMo_either
  have u := hm 2 d i co N F M (by decide) hd hi hco hN hF (b9 h9) hT
  have ln := sp_lenF (bE_T hE Nm) m 2 d i co hi hco
  generalize mf_F m 2 (nI d) 0 M = q at u
  generalize sp_F (tT (tB b L) Nm) m 2 d i co = r at u ln h9 ⊢
  by_cases e1 : r.1 = 0
  rotate_left
  · rw [sp_b1 e1]
    have z := u.2.2 e1
    exact mq1 u.1 (by rw [z.1]; exact e9 e1 z.2.2.2) (MF_b e1 z.1 z.2.1 z.2.2.1 z.2.2.2)
  rw [sp_b0 e1] at h9 ⊢
  have l1 := ln e1
  obtain ⟨z1, f, N', G, z2, z3, z4, z5, z6, z7, z8⟩ := u.2.1 e1
  refine mq0 u.1 z1 ?_
  unfold pMo_either_5 fMo_either_5
  rw [z2]
  exact mfL_either hE hm hd hN hF 4002 r.2.2.1 r.2.2.2.1 r.2.2.2.2 4002 f N' G q.2.2.2 z3 l1.2.2.1 l1.2.2.2.2.1 z4 z5 z6 z7 (Nat.le_add_right _ _) z8 h9

set_option maxHeartbeats 4000000 in
theorem mfL_both {m : Nat} (hE : bE (tB b L) n) (hm : HG b L Nm NL n m) {d i N : Nat} {F : FT} {M : Mm} (hd : d ≤ 40) (hN : N ≤ i) (hF : F.length ≤ i) : ∀ (k j c : Nat) (C : Cd) (nm f N' : Nat) (G : FT) (M1 : Mm), mT b L NL j c N' (F ++ G) M1 → j < n → c ≤ 3000 → Fw (F ++ G) f C → N ≤ N' → N' + i ≤ N + j → G.length + i ≤ j → 4002 ≤ nm + j → mG N F.length M M1 → (sp_fl (tT (tB b L) Nm) (sp_F (tT (tB b L) Nm) m) 3 26 54 d k j c C).1 ≠ 9 → pMo_both_6 (mf_F m) (mf_Q m) nm (nI d) (nI f) M1 ∧ MF b L NL i N F M (sp_fl (tT (tB b L) Nm) (sp_F (tT (tB b L) Nm) m) 3 26 54 d k j c C) (fMo_both_6 (mf_F m) nm (nI d) (nI f) M1) := by
  have hn := hE.2.1
  intro k
  induction k with
  | zero => intro j c C nm f N' G M1 _ _ _ _ _ _ _ _ _ h; exact absurd rfl h
  | succ k ih =>
    intro j c C nm f N' G M1 hT hj hc hW hNN hcnt hG hnm hFr h9
    obtain ⟨nm, rfl⟩ : ∃ nm', nm = nm' + 1 := ⟨nm - 1, by omega⟩
    have k48 : tK b L j < 48 := hE.2.2.1 j hj
    have tk : (tT (tB b L) Nm).1 j = tK b L j := rfl
    rw [pMo_both_6.eq_2, fMo_both_6.eq_2]
    unfold sp_fl at h9 ⊢
    rw [tk] at h9 ⊢
    by_cases k47 : tK b L j = 47
    · rw [if_pos k47]
      have p := m_pk47 hT.1.1 (by omega) hT.1.2.1 k47
      exact mq1 p.1 (by rw [p.2.1]; decide) (MF_f (by decide) p.2.1 p.2.2.1 (mw_t (mG_w hFr) p.2.2.2))
    rw [if_neg k47] at h9 ⊢
    obtain ⟨M2, p1, p2, p3, p4⟩ := m_pk hT.1.1 (by omega) hT.1.2.1 k47
    rw [p2]
    refine mq0 p1 rfl ?_
    dsimp only
    have T2 := mT_f hT p4 (Or.inr p3)
    have F2 : mG N F.length M M2 := mG_t hFr (mG_f (N := N) (n := F.length) p4) (Nat.le_refl _) (Nat.le_refl _)
    unfold pMo_both_10 fMo_both_10
    by_cases kt : tK b L j = 26
    rotate_left
    · rw [if_neg kt]
      refine itn (fun q => kt ((mt_f _ k48 k47).2.2.1.mp q)) ?_
      exact ⟨trivial, fun _ => ⟨rfl, f, N', G, rfl, T2, hW, hNN, hcnt, hG, F2⟩, fun q => absurd rfl q⟩
    rw [if_pos kt] at h9 ⊢
    refine itp ((mt_f _ k48 k47).2.2.1.mpr kt) ?_
    obtain ⟨t1, M3, t2, t3, t4⟩ := m_take p3 (by omega)
    rw [t2]
    refine mq0 t1 rfl ?_
    dsimp only
    have T3 := mT_f T2 t4 (Or.inl t3)
    have F3 : mG N F.length M M3 := mG_t F2 (mG_f (N := N) (n := F.length) t4) (Nat.le_refl _) (Nat.le_refl _)
    have sj := tEnd_s (bE_T hE Nm) hj (show tK b L j < 45 by omega)
    unfold pMo_both_20 fMo_both_20
    have hl : (F ++ G).length ≤ j := by rw [List.length_append]; omega
    have u := hm 3 d (j + 1) c N' (F ++ G) M3 (by decide) hd sj hc (by omega) (by omega) (b9 h9) T3
    have ln := sp_lenF (bE_T hE Nm) m 3 d (j + 1) c sj hc
    generalize mf_F m 3 (nI d) 0 M3 = q at u
    generalize sp_F (tT (tB b L) Nm) m 3 d (j + 1) c = r at u ln h9 ⊢
    by_cases e1 : r.1 = 0
    rotate_left
    · rw [sp_b1 e1]
      have z := u.2.2 e1
      exact mq1 u.1 (by rw [z.1]; exact e9 e1 z.2.2.2) (MF_b e1 z.1 z.2.1 (mw_t (mG_w F3) z.2.2.1) z.2.2.2)
    rw [sp_b0 e1] at h9 ⊢
    have l1 := ln e1
    obtain ⟨z1, f2, N2, G2, z2, z3, z4, z5, z6, z7, z8⟩ := u.2.1 e1
    refine mq0 u.1 z1 ?_
    unfold pMo_both_25 fMo_both_25
    rw [z2]
    have hl2 : (F ++ G ++ G2).length ≤ r.2.2.1 := by rw [List.length_append, List.length_append]; omega
    obtain ⟨n1, M4, n2, n3, n4⟩ := m_make z3 (by omega) 1 f f2 [] (fun q => absurd q (by decide)) (Or.inr (Or.inr (Or.inr ⟨(Fw_a G2 hW).1, z4.1, 54, by show (1, 54) ∈ op2; decide⟩)))
    have n1' : pMo_make (1 : Int32) (nI f) (nI f2) q.2.2.2 := n1
    have n2' : fMo_make (1 : Int32) (nI f) (nI f2) q.2.2.2 = (nI (F ++ G ++ G2).length, M4) := n2
    rw [n2']
    refine sq n1' ?_
    dsimp only
    unfold pMo_both_33 fMo_both_33
    have W4 := Fw_2 (h := 1) (o := 54) (by decide) (Fw_a G2 hW) z4
    have ea : F ++ G ++ G2 ++ [(1, f, f2, [])] = F ++ (G ++ (G2 ++ [(1, f, f2, [])])) := by simp only [List.append_assoc]
    rw [ea] at n3 W4
    refine ih r.2.2.1 r.2.2.2.1 _ nm _ N2 (G ++ (G2 ++ [(1, f, f2, [])])) M4 n3 l1.2.2.1 l1.2.2.2.2.1 W4 (by omega) (by omega) (by simp only [List.length_append, List.length_cons, List.length_nil]; omega) (by omega) ?_ h9
    exact mG_t (mG_t F3 z8 hNN (by rw [List.length_append]; omega)) n4 (by omega) (by rw [List.length_append, List.length_append]; omega)
theorem mfO_both {m : Nat} (hE : bE (tB b L) n) (hm : HG b L Nm NL n m) {d i co N : Nat} {F : FT} {M : Mm} (hd : d ≤ 40) (hi : i < n) (hco : co ≤ 3000) (hN : N ≤ i) (hF : F.length ≤ i) (h9 : (sp_F (tT (tB b L) Nm) (m + 1) 2 d i co).1 ≠ 9) (hT : mT b L NL i co N F M) : mf_Q (m + 1) 2 (nI d) 0 M ∧ MF b L NL i N F M (sp_F (tT (tB b L) Nm) (m + 1) 2 d i co) (mf_F (m + 1) 2 (nI d) 0 M) := by
  have hn := hE.2.1
  rw [sF2] at h9 ⊢
  rw [mfQ2, mfF2]
  unfold pMo_both fMo_both
  have u := hm 3 d i co N F M (by decide) hd hi hco hN hF (b9 h9) hT
  have ln := sp_lenF (bE_T hE Nm) m 3 d i co hi hco
  generalize mf_F m 3 (nI d) 0 M = q at u
  generalize sp_F (tT (tB b L) Nm) m 3 d i co = r at u ln h9 ⊢
  by_cases e1 : r.1 = 0
  rotate_left
  · rw [sp_b1 e1]
    have z := u.2.2 e1
    exact mq1 u.1 (by rw [z.1]; exact e9 e1 z.2.2.2) (MF_b e1 z.1 z.2.1 z.2.2.1 z.2.2.2)
  rw [sp_b0 e1] at h9 ⊢
  have l1 := ln e1
  obtain ⟨z1, f, N', G, z2, z3, z4, z5, z6, z7, z8⟩ := u.2.1 e1
  refine mq0 u.1 z1 ?_
  unfold pMo_both_5 fMo_both_5
  rw [z2]
  exact mfL_both hE hm hd hN hF 4002 r.2.2.1 r.2.2.2.1 r.2.2.2.2 4002 f N' G q.2.2.2 z3 l1.2.2.1 l1.2.2.2.2.1 z4 z5 z6 z7 (Nat.le_add_right _ _) z8 h9

set_option maxHeartbeats 4000000 in
theorem mfO_formula {m : Nat} (hE : bE (tB b L) n) (hm : HG b L Nm NL n m) {d i co N : Nat} {F : FT} {M : Mm} (hd : d ≤ 40) (hi : i < n) (hco : co ≤ 3000) (hN : N ≤ i) (hF : F.length ≤ i) (h9 : (sp_F (tT (tB b L) Nm) (m + 1) 0 d i co).1 ≠ 9) (hT : mT b L NL i co N F M) : mf_Q (m + 1) 0 (nI d) 0 M ∧ MF b L NL i N F M (sp_F (tT (tB b L) Nm) (m + 1) 0 d i co) (mf_F (m + 1) 0 (nI d) 0 M) := by
  have hn := hE.2.1
  rw [sF0] at h9 ⊢
  rw [mfQ0, mfF0]
  unfold pMo_formula fMo_formula
  unfold sp_formula at h9 ⊢
  rw [if_neg (by omega)] at h9 ⊢
  have u := hm 1 d i co N F M (by decide) hd hi hco hN hF (b9 h9) hT
  have ln := sp_lenF (bE_T hE Nm) m 1 d i co hi hco
  have tl : (sp_F (tT (tB b L) Nm) m 1 d i co).1 = 0 → tK b L (sp_F (tT (tB b L) Nm) m 1 d i co).2.2.1 ≠ 47 := by
    intro e
    cases m with
    | zero => exact absurd e (by show ¬ (9 : Nat) = 0; decide)
    | succ m =>
      rw [sF1] at e ⊢
      by_cases e1 : (sp_F (tT (tB b L) Nm) m 2 d i co).1 = 0
      · rw [sp_b0 e1] at e ⊢; exact sfl47 _ _ _ _ e
      · rw [sp_b1 e1] at e; exact absurd e e1
  generalize mf_F m 1 (nI d) 0 M = q at u
  generalize sp_F (tT (tB b L) Nm) m 1 d i co = r at u ln tl h9 ⊢
  by_cases e1 : r.1 = 0
  rotate_left
  · rw [sp_b1 e1]
    have z := u.2.2 e1
    exact mq1 u.1 (by rw [z.1]; exact e9 e1 z.2.2.2) (MF_b e1 z.1 z.2.1 z.2.2.1 z.2.2.2)
  rw [sp_b0 e1] at h9 ⊢
  have l1 := ln e1
  obtain ⟨z1, f, N', G, z2, z3, z4, z5, z6, z7, z8⟩ := u.2.1 e1
  refine mq0 u.1 z1 ?_
  have k47 := tl e1
  clear u ln tl
  obtain ⟨re, rw', rj, rc, rC⟩ := r
  dsimp only at l1 z3 z4 z6 z7 k47 h9 ⊢
  have k48 : tK b L rj < 48 := hE.2.2.1 _ l1.2.2.1
  unfold pMo_formula_5 fMo_formula_5
  rw [z2]
  obtain ⟨M2, p1, p2, p3, p4⟩ := m_pk z3.1.1 (by have := l1.2.2.1; omega) z3.1.2.1 k47
  rw [p2]
  refine mq0 p1 rfl ?_
  dsimp only
  have T2 := mT_f z3 p4 (Or.inr p3)
  have F2 : mG N F.length M M2 := mG_t z8 (mG_f (N := N) (n := F.length) p4) (Nat.le_refl _) (Nat.le_refl _)
  unfold pMo_formula_10 fMo_formula_10
  have tk : (tT (tB b L) Nm).1 rj = tK b L rj := rfl
  rw [tk] at h9 ⊢
  by_cases kt : tK b L rj = 28
  rotate_left
  · rw [if_neg kt]
    refine itn (fun q => kt ((mt_f _ k48 k47).1.mp q)) ?_
    exact ⟨trivial, fun _ => ⟨rfl, f, N', G, rfl, T2, z4, z5, z6, z7, F2⟩, fun q => absurd rfl q⟩
  rw [if_pos kt] at h9 ⊢
  refine itp ((mt_f _ k48 k47).1.mpr kt) ?_
  obtain ⟨t1, M3, t2, t3, t4⟩ := m_take p3 (by omega)
  rw [t2]
  refine mq0 t1 rfl ?_
  dsimp only
  have T3 := mT_f T2 t4 (Or.inl t3)
  have F3 : mG N F.length M M3 := mG_t F2 (mG_f (N := N) (n := F.length) t4) (Nat.le_refl _) (Nat.le_refl _)
  have sj := tEnd_s (bE_T hE Nm) l1.2.2.1 (show tK b L rj < 45 by omega)
  unfold pMo_formula_22 fMo_formula_22
  by_cases d4 : d < 40
  rotate_left
  · have x := m_nest1 T3.1.1 (by omega) T3.1.2.1 (show 40 ≤ d by omega) (by omega)
    rw [sF_deep (Or.inl rfl) (by omega) (b9 h9), sp_b1 (show ¬ (sp_fail 4 (rj + 1)).1 = 0 by show ¬ (4 : Nat) = 0; decide)]
    exact mq1 x.1 (by rw [x.2.1]; decide) (MF_f (by decide) x.2.1 x.2.2.1 (mw_t (mG_w F3) x.2.2.2))
  have ns := m_nest0 (M := M3) d4
  rw [ns.2]
  refine mq0 ns.1 rfl ?_
  dsimp only
  unfold pMo_formula_31 fMo_formula_31
  have hl : (F ++ G).length ≤ rj := by rw [List.length_append]; omega
  have u := hm 0 (d + 1) (rj + 1) rc N' (F ++ G) M3 (by decide) (by omega) sj l1.2.2.2.2.1 (by omega) (by omega) (b9 h9) T3
  have ln := sp_lenF (bE_T hE Nm) m 0 (d + 1) (rj + 1) rc sj l1.2.2.2.2.1
  generalize mf_F m 0 (nI (d + 1)) 0 M3 = q2 at u
  generalize sp_F (tT (tB b L) Nm) m 0 (d + 1) (rj + 1) rc = r2 at u ln h9 ⊢
  by_cases e2 : r2.1 = 0
  rotate_left
  · rw [sp_b1 e2]
    have z := u.2.2 e2
    exact mq1 u.1 (by rw [z.1]; exact e9 e2 z.2.2.2) (MF_b e2 z.1 z.2.1 (mw_t (mG_w F3) z.2.2.1) z.2.2.2)
  rw [sp_b0 e2]
  have l2 := ln e2
  obtain ⟨y1, f2, N2, G2, y2, y3, y4, y5, y6, y7, y8⟩ := u.2.1 e2
  refine mq0 u.1 y1 ?_
  unfold pMo_formula_34 fMo_formula_34
  rw [y2]
  have hl2 : (F ++ G ++ G2).length ≤ r2.2.2.1 := by rw [List.length_append, List.length_append]; omega
  obtain ⟨n1, M4, n2, n3, n4⟩ := m_make y3 (by have := l2.2.2.1; omega) 3 f f2 [] (fun q => absurd q (by decide)) (Or.inr (Or.inr (Or.inr ⟨(Fw_a G2 z4).1, y4.1, 56, by show (3, 56) ∈ op2; decide⟩)))
  have n1' : pMo_make (3 : Int32) (nI f) (nI f2) q2.2.2.2 := n1
  have n2' : fMo_make (3 : Int32) (nI f) (nI f2) q2.2.2.2 = (nI (F ++ G ++ G2).length, M4) := n2
  rw [n2']
  have W4 := Fw_2 (h := 3) (o := 56) (by decide) (Fw_a G2 z4) y4
  have ea : F ++ G ++ G2 ++ [(3, f, f2, [])] = F ++ (G ++ (G2 ++ [(3, f, f2, [])])) := by simp only [List.append_assoc]
  rw [ea] at n3 W4
  refine ⟨⟨n1', trivial⟩, fun _ => ⟨rfl, (F ++ G ++ G2).length, N2, G ++ (G2 ++ [(3, f, f2, [])]), rfl, n3, W4, by omega, ?_, ?_, ?_⟩, fun q => absurd rfl q⟩
  · show N2 + i ≤ N + r2.2.2.1
    omega
  · show (G ++ (G2 ++ [(3, f, f2, [])])).length + i ≤ r2.2.2.1
    simp only [List.length_append, List.length_cons, List.length_nil]; omega
  · exact mG_t (mG_t F3 y8 z5 (by rw [List.length_append]; omega)) n4 (by omega) (by rw [List.length_append, List.length_append]; omega)
end
