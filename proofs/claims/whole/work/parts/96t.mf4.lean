/-! MODEL'S FORMULAS 4: single, all -/
section
variable {b : Nat → Nat} {L : Nat} {n : Nat} {Nm NL : NmT}
set_option maxHeartbeats 8000000 in
theorem mfT {m : Nat} (hE : bE (tB b L) n) (hNL : nlOk Nm NL) (hkd : ∀ (k : Nat) (x : Nat × Nat × Nat × Nat), Nm[k]? = some x → x.2.1 = 29 ∨ x.2.1 = 30 ∨ x.2.1 = 31 ∨ x.2.1 = 33) (hX : HM b L Nm NL n 600) {d i co N : Nat} {F : FT} {M0 M : Mm} (y2 y3 : Int32) (hd : d ≤ 40) (hi : i < n) (hk : tK b L i = 8) (hco : co ≤ 3000) (hN : N ≤ i) (hF : F.length ≤ i) (hT : mT b L NL i co N F M) (hq : mQ b L i M) (hf : mG N F.length M0 M) (h9 : (sp_test (tT (tB b L) Nm) (sp_E (tT (tB b L) Nm) 600 0 0) d i co).1 ≠ 9) : (pMo_pays (8 : Int32) M ∧ ((fMo_pays (8 : Int32) M).1 = 0 → pMo_single_288 (mf_F m) (mf_Q m) (nI d) y2 y3 ((fMo_pays (8 : Int32) M).2.2))) ∧ MF b L NL i N F M0 (sp_test (tT (tB b L) Nm) (sp_E (tT (tB b L) Nm) 600 0 0) d i co) (if (fMo_pays (8 : Int32) M).1 = 0 then fMo_single_288 (mf_F m) (nI d) y2 y3 ((fMo_pays (8 : Int32) M).2.2) else ((fMo_pays (8 : Int32) M).1, (fMo_pays (8 : Int32) M).2.1, 0, (fMo_pays (8 : Int32) M).2.2)) := by
  have hn := hE.2.1
  unfold sp_test sp_pay at h9
  unfold sp_test sp_pay
  by_cases hp : co + 8 ≤ 3000
  rotate_left
  · rw [if_neg hp]
    have x := m_pay1 (p := 8) hT.1.2.2.1 hq hp (by omega)
    exact mq1 x.1 (by rw [show (8 : Int32) = nI 8 from rfl, x.2.1]; decide) (MF_f (by decide) x.2.1 x.2.2.1 (mw_t (mG_w hf) x.2.2.2))
  rw [if_pos hp] at h9
  rw [if_pos hp]
  have x := m_pay0 (p := 8) hT.1.2.2.1 hp
  have x2 : fMo_pays (8 : Int32) M = (0, 0, pm_u M 40 11 (nI (co + 8))) := x.2
  rw [x2]
  refine mq0 x.1 rfl ?_
  dsimp only
  have fp : ∀ a, a ≠ 40 → (pm_u M 40 11 (nI (co + 8))) a = M a := fun a h1 => pm_u_n _ _ _ h1
  have S3 : mS b L NL i (co + 8) N (pm_u M 40 11 (nI (co + 8))) := mS_u hT.1 (fun j h1 _ _ => pm_u_j _ _ _ h1) (fun a h1 _ => fp a h1) (pm_u_s _ _ _ _) (by rw [pm_u_j _ _ _ (by decide)]; exact hT.1.2.2.2.1)
  have F3 : mF N M (pm_u M 40 11 (nI (co + 8))) := ⟨fun a h1 _ => fp a h1, fun j h1 h2 => pm_u_j _ _ _ (by omega), fun a k _ h2 _ => by rw [fp a (by omega)]⟩
  have q3 : mQ b L i (pm_u M 40 11 (nI (co + 8))) := by
    refine ⟨?_, ?_, ?_, ?_, ?_, ?_, hq.2.2.2.2.2.2⟩
    · rw [pm_u_j _ _ _ (by decide)]; exact hq.1
    · rw [pm_u_j _ _ _ (by decide)]; exact hq.2.1
    · rw [pm_u_j _ _ _ (by decide)]; exact hq.2.2.1
    · rw [pm_u_j _ _ _ (by decide)]; exact hq.2.2.2.1
    · rw [pm_u_j _ _ _ (by decide)]; exact hq.2.2.2.2.1
    · rw [pm_u_j _ _ _ (by decide)]; exact hq.2.2.2.2.2.1
  generalize pm_u M 40 11 (nI (co + 8)) = M3 at S3 F3 q3
  have T3 := mT_F hT F3 S3 (Nat.le_refl _)
  have G3 : mG N F.length M0 M3 := mG_t hf (mG_F (n := F.length) F3) (Nat.le_refl _) (Nat.le_refl _)
  unfold pMo_single_288 fMo_single_288
  obtain ⟨t1, M4, t2, t3, t4⟩ := m_take q3 (by omega)
  rw [t2]
  refine mq0 t1 rfl ?_
  dsimp only
  have T4 := mT_f T3 t4 (Or.inl t3)
  have G4 := mG_1 G3 t4
  have s1 := tEnd_s (bE_T hE Nm) hi (show tK b L i < 45 by omega)
  unfold pMo_single_292 fMo_single_292
  by_cases d4 : d < 40
  rotate_left
  · have x := m_nest1 T4.1.1 (by omega) T4.1.2.1 (show 40 ≤ d by omega) (by omega)
    rw [sp_deep (Or.inl rfl) (by omega) (b9 h9), sp_b1 (show ¬ (sp_fail 4 (i + 1)).1 = 0 by show ¬ (4 : Nat) = 0; decide)]
    exact mq1 x.1 (by rw [x.2.1]; decide) (MF_f (by decide) x.2.1 x.2.2.1 (mw_t (mG_w G4) x.2.2.2))
  have ns := m_nest0 (M := M4) d4
  rw [ns.2]
  refine mq0 ns.1 rfl ?_
  dsimp only
  unfold pMo_single_298 fMo_single_298 pme_Mo_expression fme_Mo_expression
  have u := HM0 hX (d := d + 1) (i := i + 1) (co := co + 8) (N := N) (by omega) s1 hp (by omega) (b9 h9) T4.1
  have ln := sp_len (bE_T hE Nm) 600 0 0 (d + 1) (i + 1) (co + 8) s1 hp
  have nmv : (sp_E (tT (tB b L) Nm) 600 0 0 (d + 1) (i + 1) (co + 8)).1 = 0 → (∃ (T : TT) (c q : Nat), EC T c q (sp_E (tT (tB b L) Nm) 600 0 0 (d + 1) (i + 1) (co + 8)).2.2.2.2) ∧ ∀ k, (43, k) ∈ (sp_E (tT (tB b L) Nm) 600 0 0 (d + 1) (i + 1) (co + 8)).2.2.2.2 → ∃ y, NL[k]? = some y ∧ y.2.1 ≠ 33 ∧ y.2.1 ≠ 0 := by
    intro e
    obtain ⟨c1, q1, _, _, ec⟩ := sp_EC (tT (tB b L) Nm) 600 0 0 (d + 1) (i + 1) (co + 8) e
    refine ⟨⟨_, c1, q1, ec⟩, fun k hk => ?_⟩
    obtain ⟨⟨i', hi'⟩, h33⟩ := EC_nm ec k hk
    have kl := fnd_lt Nm 0 i' k hi'
    obtain ⟨y, hy⟩ : ∃ y, Nm[k]? = some y := ⟨_, List.getElem?_eq_getElem (by omega)⟩
    have h33' : (Nm.getD k (0, 0, 0, 0)).2.1 ≠ 33 := h33
    rw [getD_some hy] at h33'
    refine ⟨y, ?_, h33', by have := hkd k y hy; omega⟩
    rcases hNL with e | ⟨t, e⟩
    · rw [e]; exact hy
    · rw [e, List.getElem?_append, if_pos (by omega)]; exact hy
  generalize me_F 600 0 (nI (d + 1)) 0 M4 = q at u
  generalize sp_E (tT (tB b L) Nm) 600 0 0 (d + 1) (i + 1) (co + 8) = r at u ln h9 nmv
  by_cases e1 : r.1 = 0
  rotate_left
  · rw [sp_b1 e1]
    have z := u.2.2 e1
    exact mq1 u.1 (by rw [z.1]; exact e9 e1 z.2.2.2) (MF_b e1 z.1 z.2.1 (mw_t (mG_w G4) z.2.2.1) z.2.2.2)
  rw [sp_b0 e1]
  have l1 := ln e1
  have nm1 := nmv e1
  obtain ⟨z1, e, N', z2, z3, z4, z5, z6, z7, z8, z9⟩ := u.2.1 e1
  refine mq0 u.1 z1 ?_
  clear u ln h9 nmv
  obtain ⟨re, rw', rj, rc, rC⟩ := r
  dsimp only at l1 z3 z6 z7 nm1
  dsimp only
  have T5 := mT_F T4 z9 z3 (by omega)
  have G5 : mG N F.length M0 q.2.2.2 := mG_t G4 (mG_F (n := F.length) z9) (Nat.le_refl _) (Nat.le_refl _)
  have k48 : tK b L rj < 48 := hE.2.2.1 _ l1.2.2.1
  unfold pMo_single_301 fMo_single_301
  rw [z2]
  unfold sp_ex
  by_cases k9 : tK b L rj = 9
  rotate_left
  · rw [if_neg (show ¬ (tT (tB b L) Nm).1 rj = 9 from k9)]
    obtain ⟨x1, e, he, x2, x3, x4, x5⟩ := m_mf Nm (v := 125) (s := 9) rfl (by decide) T5.1.1 (by omega) k48 T5.1.2.1 k9
    rw [x5]
    exact mq1 x1 (by rw [x2]; exact e9 he.1 he.2) (MF_f he x2 x3 (mw_t (mG_w G5) x4))
  rw [if_pos (show (tT (tB b L) Nm).1 rj = 9 from k9)]
  obtain ⟨x1, M6, x2, x3, x4⟩ := m_ms (v := 125) (s := 9) rfl (by decide) T5.1.1 (by omega) k48 T5.1.2.1 k9
  rw [x2]
  refine mq0 x1 rfl ?_
  dsimp only
  have T6 := mT_f T5 x4 (Or.inl x3)
  have G6 := mG_1 G5 x4
  have E6 : Ev M6 600 N e rC := Ev_c z7 (mF_ag (N := N') (mF_f x4) z5) (Nat.le_refl _) (Nat.le_refl _)
  unfold pMo_single_309 fMo_single_309
  obtain ⟨n1, M7, n2, n3, n4⟩ := m_make T6 (by omega) 12 e 0 rC (fun _ => ⟨N, E6, z5⟩) (Or.inl ⟨rfl, nm1⟩)
  have n1' : pMo_make (12 : Int32) (nI e) (0 : Int32) M6 := n1
  have n2' : fMo_make (12 : Int32) (nI e) (0 : Int32) M6 = (nI F.length, M7) := n2
  rw [n2']
  refine ⟨⟨n1', trivial⟩, fun _ => ⟨rfl, F.length, N', [(12, e, 0, rC)], rfl, n3, Fw_12 e rC, by omega, ?_, ?_, ?_⟩, fun q => absurd rfl q⟩
  · show N' + i ≤ N + (rj + 1)
    omega
  · show 1 + i ≤ rj + 1
    omega
  · exact mG_t G6 n4 (by omega) (Nat.le_refl _)
set_option maxHeartbeats 8000000 in
theorem mfS {m : Nat} (hE : bE (tB b L) n) (hNL : nlOk Nm NL) (hkd : ∀ (k : Nat) (x : Nat × Nat × Nat × Nat), Nm[k]? = some x → x.2.1 = 29 ∨ x.2.1 = 30 ∨ x.2.1 = 31 ∨ x.2.1 = 33) (hX : HM b L Nm NL n 600) (hm : HG b L Nm NL n m) {d i co N : Nat} {F : FT} {M : Mm} (hd : d ≤ 40) (hi : i < n) (hco : co ≤ 3000) (hN : N ≤ i) (hF : F.length ≤ i) (h9 : (sp_F (tT (tB b L) Nm) (m + 1) 3 d i co).1 ≠ 9) (hT : mT b L NL i co N F M) : mf_Q (m + 1) 3 (nI d) 0 M ∧ MF b L NL i N F M (sp_F (tT (tB b L) Nm) (m + 1) 3 d i co) (mf_F (m + 1) 3 (nI d) 0 M) := by
  have hn := hE.2.1
  have k48 : tK b L i < 48 := hE.2.2.1 i hi
  rw [sF3] at h9
  rw [sF3, mfQ3, mfF3]
  unfold pMo_single fMo_single
  unfold sp_single at h9
  unfold sp_single
  have tk : (tT (tB b L) Nm).1 i = tK b L i := rfl
  rw [if_neg (by omega), tk] at h9
  rw [if_neg (by omega), tk]
  by_cases k47 : tK b L i = 47
  · have p := m_pk47 hT.1.1 (by omega) hT.1.2.1 k47
    rw [if_neg (by omega), if_neg (by omega), if_neg (by omega), if_neg (by omega), if_neg (by omega), if_neg (by omega), noT47 _ _ (tk.trans k47)]
    exact mq1 p.1 (by rw [p.2.1]; decide) (MF_f (by decide) p.2.1 p.2.2.1 p.2.2.2)
  obtain ⟨M1, p1, p2, p3, p4⟩ := m_pk hT.1.1 (by omega) hT.1.2.1 k47
  rw [p2]
  refine mq0 p1 rfl ?_
  dsimp only
  have T1 := mT_f hT p4 (Or.inr p3)
  have F1 : mG N F.length M M1 := mG_f p4
  have mu := mt_f _ k48 k47
  have cn := m_cant p3
  unfold pMo_single_4 fMo_single_4
  -- !
  by_cases k19 : tK b L i = 19
  · rw [if_pos k19] at h9
    rw [if_pos k19]
    refine itp (mu.2.2.2.1.mpr k19) ?_
    obtain ⟨t1, M2, t2, t3, t4⟩ := m_take p3 (by omega)
    rw [t2]
    refine mq0 t1 rfl ?_
    dsimp only
    have si := tEnd_s (bE_T hE Nm) hi (show tK b L i < 45 by omega)
    exact mfA_b hE hm _ (h := 0) (o := 53) (by decide) (by decide) rfl hd si hco hN hF (mT_f T1 t4 (Or.inl t3)) (mG_1 F1 t4) h9
  rw [if_neg k19] at h9
  rw [if_neg k19]
  refine itn (fun q => k19 (mu.2.2.2.1.mp q)) ?_
  have i25 := m_is_25 T1.1.1 p3
  have i26 := m_is_26 T1.1.1 p3
  have i27 := m_is_27 T1.1.1 p3
  have i28 := m_is_28 T1.1.1 p3
  have i29 := m_is_29 T1.1.1 p3
  have i30 := m_is_30 T1.1.1 p3
  -- the six
  have al : ∀ h : Nat, 0 < h → h < 12 → (h, tK b L i) ∈ op1 → tK b L i < 45 → (sp_alt (sp_F (tT (tB b L) Nm) m) (tK b L i) d i co).1 ≠ 9 → pMo_single_114 (mf_F m) (mf_Q m) (nI d) (nI (mt (tK b L i))) (nI h) M1 ∧ MF b L NL i N F M (sp_alt (sp_F (tT (tB b L) Nm) m) (tK b L i) d i co) (fMo_single_114 (mf_F m) (nI d) (nI (mt (tK b L i))) (nI h) M1) := by
    intro h h0 h1 ho hk h9
    unfold pMo_single_114 fMo_single_114
    refine itn (nI_ge (a := 0) (b := h) h0 (by omega)) ?_
    obtain ⟨t1, M2, t2, t3, t4⟩ := m_take p3 (by omega)
    rw [t2]
    refine mq0 t1 rfl ?_
    dsimp only
    have si := tEnd_s (bE_T hE Nm) hi (show tK b L i < 45 by omega)
    exact mfA_a hE hm _ (h := h) (o := tK b L i) ho (by omega) hd si hco hN hF (mT_f T1 t4 (Or.inl t3)) (mG_1 F1 t4) h9
  rw [i25.2]
  refine mq0 i25.1 rfl ?_
  dsimp only
  unfold pMo_single_37 fMo_single_37
  by_cases k37 : tK b L i = 37
  · rw [if_pos (by omega)] at h9
    rw [if_pos (show 37 ≤ tK b L i ∧ tK b L i ≤ 42 by omega), if_pos k37]
    exact itn (by decide) (al 5 (by decide) (by decide) (by rw [k37]; decide) (by omega) h9)
  rw [if_neg k37]
  refine itp rfl ?_
  rw [i26.2]
  refine mq0 i26.1 rfl ?_
  dsimp only
  unfold pMo_single_50 fMo_single_50
  by_cases k38 : tK b L i = 38
  · rw [if_pos (by omega)] at h9
    rw [if_pos (show 37 ≤ tK b L i ∧ tK b L i ≤ 42 by omega), if_pos k38]
    exact itn (by decide) (al 4 (by decide) (by decide) (by rw [k38]; decide) (by omega) h9)
  rw [if_neg k38]
  refine itp rfl ?_
  rw [i27.2]
  refine mq0 i27.1 rfl ?_
  dsimp only
  unfold pMo_single_63 fMo_single_63
  by_cases k39 : tK b L i = 39
  · rw [if_pos (by omega)] at h9
    rw [if_pos (show 37 ≤ tK b L i ∧ tK b L i ≤ 42 by omega), if_pos k39]
    exact itn (by decide) (al 9 (by decide) (by decide) (by rw [k39]; decide) (by omega) h9)
  rw [if_neg k39]
  refine itp rfl ?_
  rw [i28.2]
  refine mq0 i28.1 rfl ?_
  dsimp only
  unfold pMo_single_77 fMo_single_77
  by_cases k40 : tK b L i = 40
  · rw [if_pos (by omega)] at h9
    rw [if_pos (show 37 ≤ tK b L i ∧ tK b L i ≤ 42 by omega), if_pos k40]
    exact itn (by decide) (al 8 (by decide) (by decide) (by rw [k40]; decide) (by omega) h9)
  rw [if_neg k40]
  refine itp rfl ?_
  rw [i29.2]
  refine mq0 i29.1 rfl ?_
  dsimp only
  unfold pMo_single_91 fMo_single_91
  by_cases k41 : tK b L i = 41
  · rw [if_pos (by omega)] at h9
    rw [if_pos (show 37 ≤ tK b L i ∧ tK b L i ≤ 42 by omega), if_pos k41]
    exact itn (by decide) (al 11 (by decide) (by decide) (by rw [k41]; decide) (by omega) h9)
  rw [if_neg k41]
  refine itp rfl ?_
  rw [i30.2]
  refine mq0 i30.1 rfl ?_
  dsimp only
  unfold pMo_single_105 fMo_single_105
  by_cases k42 : tK b L i = 42
  · rw [if_pos (by omega)] at h9
    rw [if_pos (show 37 ≤ tK b L i ∧ tK b L i ≤ 42 by omega), if_pos k42]
    exact itn (by decide) (al 10 (by decide) (by decide) (by rw [k42]; decide) (by omega) h9)
  rw [if_neg k42]
  refine itp rfl ?_
  rw [if_neg (by omega)] at h9
  rw [if_neg (show ¬ (37 ≤ tK b L i ∧ tK b L i ≤ 42) by omega)]
  clear al i25 i26 i27 i28 i29 i30
  have i22 := m_is_22 T1.1.1 p3
  have i23 := m_is_23 T1.1.1 p3
  unfold pMo_single_114 fMo_single_114
  refine itp (by decide) ?_
  rw [i22.2]
  refine mq0 i22.1 rfl ?_
  dsimp only
  unfold pMo_single_145 fMo_single_145
  by_cases k34 : tK b L i = 34
  · rw [if_pos (Or.inl k34)] at h9
    rw [if_pos (show tK b L i = 34 ∨ tK b L i = 35 from Or.inl k34), if_pos k34]
    exact itn (by decide) (mfU hE hm _ _ hd hi (Or.inl k34) hco hN hF T1 p3 F1 h9)
  rw [if_neg k34]
  refine itp rfl ?_
  rw [i23.2]
  refine mq0 i23.1 rfl ?_
  dsimp only
  unfold pMo_single_154 fMo_single_154
  by_cases k35 : tK b L i = 35
  · rw [if_pos (Or.inr k35)] at h9
    rw [if_pos (show tK b L i = 34 ∨ tK b L i = 35 from Or.inr k35), if_pos k35]
    exact itn (by decide) (mfU hE hm _ _ hd hi (Or.inr k35) hco hN hF T1 p3 F1 h9)
  rw [if_neg (by omega)] at h9
  rw [if_neg (show ¬ (tK b L i = 34 ∨ tK b L i = 35) by omega), if_neg k35]
  refine itp rfl ?_
  clear i22 i23
  by_cases k4 : tK b L i = 4
  · rw [if_pos k4] at h9
    rw [if_pos k4]
    refine itp (mu.2.2.2.2.1.mpr k4) ?_
    obtain ⟨t1, M2, t2, t3, t4⟩ := m_take p3 (by omega)
    rw [t2]
    refine mq0 t1 rfl ?_
    dsimp only
    have si := tEnd_s (bE_T hE Nm) hi (show tK b L i < 45 by omega)
    exact mfP hE hm _ _ hd si hco hN hF (mT_f T1 t4 (Or.inl t3)) (mG_1 F1 t4) h9
  rw [if_neg k4] at h9
  rw [if_neg k4]
  refine itn (fun q => k4 (mu.2.2.2.2.1.mp q)) ?_
  by_cases k8 : tK b L i = 8
  · rw [if_pos k8] at h9
    rw [if_pos k8]
    exact itp (mu.2.2.2.2.2.1.mpr k8) (mfT hE hNL hkd hX _ _ hd hi k8 hco hN hF T1 p3 F1 h9)
  rw [if_neg k8]
  refine itn (fun q => k8 (mu.2.2.2.2.2.1.mp q)) ?_
  clear h9
  have cnt : pMo_single_331 (mf_F m) (mf_Q m) (nI d) (nI (mt (tK b L i))) 0 M1 ∧ MF b L NL i N F M (sp_fail 1 i) (fMo_single_331 (mf_F m) (nI d) (nI (mt (tK b L i))) 0 M1) := by
    unfold pMo_single_331 fMo_single_331
    rw [cn.2]
    exact ⟨cn.1, MF_f (by decide) rfl rfl (mG_w F1)⟩
  by_cases kw : 29 ≤ tK b L i ∧ tK b L i ≤ 43
  rotate_left
  · rw [if_neg (by omega), noT _ _ k47]
    exact itn (fun q => kw (mu.2.2.2.2.2.2.mp q)) cnt
  refine itp (mu.2.2.2.2.2.2.mpr kw) ?_
  have rs := m_reserved T1.1.1 p3
  rw [rs.2]
  refine mq0 rs.1 rfl ?_
  dsimp only
  unfold pMo_single_328 fMo_single_328
  by_cases k43 : tK b L i = 43
  rotate_left
  · rw [if_neg k43, noT _ _ k47, if_pos (by omega)]
    exact itn (by decide) cnt
  rw [if_pos k43, if_neg (by omega)]
  refine itp rfl ?_
  have nm := meN hNL T1.1 p3
  refine sq nm.1 ?_
  unfold sp_fspec pMo_single_358 fMo_single_358
  have efd : (tT (tB b L) Nm).2.2.1 i = fnd (tB b L).2.2 Nm 0 i := rfl
  rw [efd]
  cases ho : fnd (tB b L).2.2 Nm 0 i with
  | none =>
    dsimp only
    rcases nm.2.2 ho with g | ⟨k, k60, g, g4⟩
    · rw [g]
      exact itp (by decide) ⟨trivial, MF_f (by decide) rfl p3.2.2.2.1 (mG_w F1)⟩
    · rw [g, nI_clamp (by omega), g4]
      exact itn (nI_pos (by omega)) (sq (vp_in_nI k60 (by decide)) (itn (by decide) ⟨trivial, MF_f (by decide) rfl p3.2.2.2.1 (mG_w F1)⟩))
  | some k =>
    obtain ⟨g, k60, g4⟩ := nm.2.1 k ho
    have kl := fnd_lt Nm 0 i k ho
    obtain ⟨y, hy⟩ : ∃ y, Nm[k]? = some y := ⟨_, List.getElem?_eq_getElem (by omega)⟩
    have hy2 := hkd k y hy
    have enk : (tT (tB b L) Nm).2.2.2.1 k = y.2.1 := by show (Nm.getD k (0, 0, 0, 0)).2.1 = y.2.1; rw [getD_some hy]
    have enw : (tT (tB b L) Nm).2.2.2.2 k = y.2.2.2 := by show (Nm.getD k (0, 0, 0, 0)).2.2.2 = y.2.2.2; rw [getD_some hy]
    rw [getD_some hy] at g4
    have mk := mkd_n y.2.1 (by omega)
    have v : vp_in (nI k) 60 := vp_in_nI k60 (by decide)
    dsimp only
    rw [g, nI_clamp (by omega), enk, g4]
    refine itn (nI_pos (by omega)) (sq v ?_)
    by_cases c33 : y.2.1 = 33
    rotate_left
    · rw [if_neg c33]
      exact itn (fun q => c33 (mk.1.mp q)) ⟨trivial, MF_f (by decide) rfl p3.2.2.2.1 (mG_w F1)⟩
    rw [if_pos c33, enw]
    refine itp (mk.1.mpr c33) ?_
    obtain ⟨t1, M2, t2, t3, t4⟩ := m_take p3 (by omega)
    rw [t2]
    refine mq0 t1 rfl ?_
    dsimp only
    have T2 := mT_f T1 t4 (Or.inl t3)
    have G2 := mG_1 F1 t4
    have si := tEnd_s (bE_T hE Nm) hi (show tK b L i < 45 by omega)
    have hyL : NL[k]? = some y := by
      rcases hNL with e | ⟨t, e⟩
      · rw [e]; exact hy
      · rw [e, List.getElem?_append, if_pos (by omega)]; exact hy
    have w45 := T2.2.2.2 k y hyL c33
    unfold pMo_single_375 fMo_single_375
    rw [nI_clamp (by omega), w45]
    obtain ⟨n1, M7, n2, n3, n4⟩ := m_make T2 (by omega) 13 y.2.2.2 0 [] (fun q => absurd q (by decide)) (Or.inr (Or.inl ⟨rfl, T2.2.2.1.2.1 k y hyL c33, T2.2.2.1.2.2.2 _ (T2.2.2.1.2.1 k y hyL c33)⟩))
    have n1' : pMo_make (13 : Int32) (nI y.2.2.2) (0 : Int32) M2 := n1
    have n2' : fMo_make (13 : Int32) (nI y.2.2.2) (0 : Int32) M2 = (nI F.length, M7) := n2
    rw [n2']
    refine ⟨⟨v, n1', trivial⟩, fun _ => ⟨rfl, F.length, N, [(13, y.2.2.2, 0, [])], rfl, n3, Fw_13 _, Nat.le_refl _, ?_, ?_, ?_⟩, fun q => absurd rfl q⟩
    · show N + i ≤ N + (i + 1)
      omega
    · show 1 + i ≤ i + 1
      omega
    · exact mG_t G2 n4 (Nat.le_refl _) (Nat.le_refl _)
theorem mfE (hE : bE (tB b L) n) (hNL : nlOk Nm NL) (hkd : ∀ (k : Nat) (x : Nat × Nat × Nat × Nat), Nm[k]? = some x → x.2.1 = 29 ∨ x.2.1 = 30 ∨ x.2.1 = 31 ∨ x.2.1 = 33) : ∀ m, HG b L Nm NL n m := by
  have hX := meE hE hNL hkd 600
  intro m
  induction m with
  | zero => intro t d i co N F M _ _ _ _ _ _ h _; exact absurd rfl h
  | succ m ih =>
    intro t d i co N F M ht hd hi hco hN hF h9 hT
    have t4 : t = 0 ∨ t = 1 ∨ t = 2 ∨ t = 3 := by omega
    rcases t4 with rfl | rfl | rfl | rfl
    · exact mfO_formula hE ih hd hi hco hN hF h9 hT
    · exact mfO_either hE ih hd hi hco hN hF h9 hT
    · exact mfO_both hE ih hd hi hco hN hF h9 hT
    · exact mfS hE hNL hkd hX ih hd hi hco hN hF h9 hT
end
