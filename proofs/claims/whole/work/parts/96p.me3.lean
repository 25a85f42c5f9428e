/-! MODEL'S EXPRESSIONS: chains, choices -/
theorem joi : ∀ l, l < 10 → ∀ k, k < 48 → k ≠ 47 → fMo_joins (nI l) (nI (mt k)) = if tyt k = l + 1 then 1 else 0 := by decide +kernel
theorem pri : ∀ k, k < 29 → 0 < tyt k → fMo_price (nI (tyt k - 1)) = nI (cst k) := by decide +kernel
theorem pJo (a b : Int32) : pMo_joins a b := by
  unfold pMo_joins pMo_joins_128 pMo_joins_160 pMo_joins_180 pMo_joins_198
  simp
section
variable {b : Nat → Nat} {L : Nat} {n : Nat} {Nm NL : NmT}
theorem MR_m {m m' i N : Nat} {M : Mm} {r : SR} {q : Int32 × Int32 × Int32 × Mm} (h : MR b L NL m i N M r q) (hm : m ≤ m') : MR b L NL m' i N M r q := ⟨fun e => by
    obtain ⟨z1, e, N', z2, z3, z4, z5, z6, z7, z8, z9⟩ := h.1 e
    exact ⟨z1, e, N', z2, z3, z4, z5, z6, Ev_c z7 (agN_r _ _ _) hm (Nat.le_refl _), z8, z9⟩, h.2⟩
set_option maxHeartbeats 4000000 in
theorem meL {m : Nat} (hE : bE (tB b L) n) (hm : HM b L Nm NL n m) {l d i N x0 : Nat} {M : Mm} (hl : l < 10) (hd : d ≤ 40) (hi : i < n) (hNi : N ≤ i) (hx0 : N ≤ x0) : ∀ (k j c : Nat) (C : Cd) (nm la cn N' : Nat) (M1 : Mm), mS b L NL j c N' M1 → j < n → c ≤ 3000 → la < N' → PC M1 m N x0 la cn C → M1 55 la = -1 → N' + cn + i ≤ N + j → (cn = 0 → tyt (tK b L j) = l + 1 ∧ tK b L j ≠ 47) → cn ≤ j → 4002 ≤ nm + cn → mF N M M1 → (sp_loop (tT (tB b L) Nm) (sp_E (tT (tB b L) Nm) m) l d k j c C).1 ≠ 9 → pMo_chain_37 (me_F m) (me_Q m) nm (nI l) (nI d) (nI x0) (nI la) M1 ∧ MR b L NL (m + 1) i N M (sp_loop (tT (tB b L) Nm) (sp_E (tT (tB b L) Nm) m) l d k j c C) (fMo_chain_37 (me_F m) nm (nI l) (nI d) (nI x0) (nI la) M1) := by
  have hn := hE.2.1
  intro k
  induction k with
  | zero => intro j c C nm la cn N' M1 _ _ _ _ _ _ _ _ _ _ _ h; exact absurd rfl h
  | succ k ih =>
    intro j c C nm la cn N' M1 hS hj hc hla hP h55 hcnt hc0 hcj hnm hF h9
    obtain ⟨nm, rfl⟩ : ∃ nm', nm = nm' + 1 := ⟨nm - 1, by omega⟩
    have hNla : N ≤ la := Nat.le_trans hP.1 hP.2.1
    have k48 : tK b L j < 48 := hE.2.2.1 j hj
    have tk : (tT (tB b L) Nm).1 j = tK b L j := rfl
    rw [pMo_chain_37.eq_2, fMo_chain_37.eq_2]
    unfold sp_loop at h9 ⊢
    rw [tk] at h9 ⊢
    by_cases k47 : tK b L j = 47
    · rw [if_pos k47]
      have p := m_pk47 hS.1 (by omega) hS.2.1 k47
      exact mq1 p.1 (by rw [p.2.1]; decide) (MR_f (by decide) p.2.1 p.2.2.1 (mw_t (mF_w hF) p.2.2.2))
    rw [if_neg k47] at h9 ⊢
    obtain ⟨M2, p1, p2, p3, p4⟩ := m_pk hS.1 (by omega) hS.2.1 k47
    rw [p2]
    refine mq0 p1 rfl ?_
    dsimp only
    have S2 := mS_f hS p4 (Or.inr p3)
    have F2 : mF N M M2 := mF_t hF (mF_f p4) (Nat.le_refl _)
    have ag2 : agN N la M1 M2 := mF_ag (N := N') (mF_f p4) hla
    have P2 := PC_c hP ag2 (by rw [p4.1 56 (by decide)])
    have h55' : M2 55 la = -1 := by rw [p4.1 55 (by decide)]; exact h55
    unfold pMo_chain_42 fMo_chain_42
    rw [joi l hl _ k48 k47]
    refine sq (pJo _ _) ?_
    by_cases kt : tyt (tK b L j) = l + 1
    rotate_left
    · rw [if_neg kt, if_neg kt]
      refine itp rfl ?_
      have cn1 : 1 ≤ cn := by
        rcases Nat.eq_zero_or_pos cn with h0 | h0
        · exact absurd (hc0 h0).1 kt
        · exact h0
      obtain ⟨n1, M4, n2, a52, a53, a54, a55, a34, aj, aa, ak⟩ := m_node S2.2.2.2.1 (by omega) 3 0 (nI x0)
      rw [n2]
      dsimp only
      refine sqt ⟨n1, fun _ => ⟨rfl, N', N' + 1, rfl, ?_, by omega, by omega, ?_, ?_, a55, ?_⟩, fun q => absurd rfl q⟩
      · exact mS_u S2 (fun j _ h _ => aj j h) (fun a h1 h2 => aa a h1 (by omega)) ((aj 11 (by decide)).trans S2.2.2.1) a34
      · show N' + 1 + i ≤ N + j
        omega
      · have ag : agN N la M2 M4 := fun k _ h2 => ⟨ak 52 k (by decide) (by omega), ak 53 k (by decide) (by omega), ak 54 k (by decide) (by omega), fun _ => ⟨ak 55 k (by decide) (by omega), ak 56 k (by decide) (by omega)⟩⟩
        exact Ev_ch (PC_c P2 ag (ak 56 la (by decide) (by omega))) hla (by omega) (by omega) a52 a54 ((ak 55 la (by decide) (by omega)).trans h55')
      · exact mF_t F2 ⟨fun a h1 h2 => aa a h1 (by omega), fun j h1 h2 => aj j h2, fun a k h1 h2 h3 => ak a k (by omega) (by omega)⟩ (Nat.le_refl _)
    rw [if_pos kt] at h9
    rw [if_pos kt, if_pos kt]
    refine itn (by decide) ?_
    have p5 := m_pks p3
    rw [p5.2]
    refine mq0 p5.1 rfl ?_
    dsimp only
    have k29 := tyt_lt (k := tK b L j) (by omega)
    have sj := tEnd_s (bE_T hE Nm) hj (show tK b L j < 45 by omega)
    have c24 := cst24 (k := tK b L j) (by omega)
    have pr : fMo_price (nI l) = nI (cst (tK b L j)) := by
      have := pri (tK b L j) k29 (by omega)
      rw [kt, Nat.add_sub_cancel] at this
      exact this
    unfold pMo_chain_52 fMo_chain_52
    rw [pr]
    have ppr : pMo_price (nI l) := by unfold pMo_price; simp
    unfold sp_pay at h9 ⊢
    by_cases hp : c + cst (tK b L j) ≤ 3000
    rotate_left
    · rw [if_neg hp]
      have x := m_pay1 S2.2.2.1 p3 hp (by omega)
      exact sq ppr (mq1 x.1 (by rw [x.2.1]; decide) (MR_f (by decide) x.2.1 x.2.2.1 (mw_t (mF_w F2) x.2.2.2)))
    rw [if_pos hp] at h9 ⊢
    dsimp only at h9 ⊢
    have x := m_pay0 S2.2.2.1 hp
    rw [x.2]
    refine sq ppr (mq0 x.1 rfl ?_)
    dsimp only
    have fp : ∀ a, a ≠ 40 → (pm_u M2 40 11 (nI (c + cst (tK b L j)))) a = M2 a := fun a h1 => pm_u_n _ _ _ h1
    have S3 : mS b L NL j (c + cst (tK b L j)) N' (pm_u M2 40 11 (nI (c + cst (tK b L j)))) := mS_u S2 (fun j h1 _ _ => pm_u_j _ _ _ h1) (fun a h1 _ => fp a h1) (pm_u_s _ _ _ _) (by rw [pm_u_j _ _ _ (by decide)]; exact S2.2.2.2.1)
    have F3 : mF N' M2 (pm_u M2 40 11 (nI (c + cst (tK b L j)))) := ⟨fun a h1 _ => fp a h1, fun j h1 h2 => pm_u_j _ _ _ (by omega), fun a k _ h2 _ => by rw [fp a (by omega)]⟩
    have q3 : mQ b L j (pm_u M2 40 11 (nI (c + cst (tK b L j)))) := by
      refine ⟨?_, ?_, ?_, ?_, ?_, ?_, p3.2.2.2.2.2.2⟩
      · rw [pm_u_j _ _ _ (by decide)]; exact p3.1
      · rw [pm_u_j _ _ _ (by decide)]; exact p3.2.1
      · rw [pm_u_j _ _ _ (by decide)]; exact p3.2.2.1
      · rw [pm_u_j _ _ _ (by decide)]; exact p3.2.2.2.1
      · rw [pm_u_j _ _ _ (by decide)]; exact p3.2.2.2.2.1
      · rw [pm_u_j _ _ _ (by decide)]; exact p3.2.2.2.2.2.1
    generalize pm_u M2 40 11 (nI (c + cst (tK b L j))) = M3 at S3 F3 q3
    obtain ⟨t1, M4, t2, t3, t4⟩ := m_take q3 (by omega)
    unfold pMo_chain_62 fMo_chain_62
    rw [t2]
    refine mq0 t1 rfl ?_
    dsimp only
    have S4 := mS_f S3 t4 (Or.inl t3)
    have F4 : mF N' M2 M4 := mF_t F3 (mF_f t4) (Nat.le_refl _)
    have F4' : mF N M M4 := mF_t F2 F4 (by have := hP.1; have := hP.2.1; omega)
    unfold pMo_chain_66 fMo_chain_66
    rw [nI_1]
    have u := HM1 hm (l := l + 1) (d := d) (i := j + 1) (co := c + cst (tK b L j)) (N := N') (by omega) hd sj hp (by omega) (b9 h9) S4
    have ln := sp_len (bE_T hE Nm) m 1 (l + 1) d (j + 1) (c + cst (tK b L j)) sj hp
    generalize me_F m 1 (nI (l + 1)) (nI d) M4 = q at u
    generalize sp_E (tT (tB b L) Nm) m 1 (l + 1) d (j + 1) (c + cst (tK b L j)) = r at u ln h9 ⊢
    by_cases e1 : r.1 = 0
    rotate_left
    · rw [sp_b1 e1]
      have z := u.2.2 e1
      exact mq1 u.1 (by rw [z.1]; exact e9 e1 z.2.2.2) (MR_b e1 z.1 z.2.1 (mw_t (mF_w F4') z.2.2.1) z.2.2.2)
    rw [sp_b0 e1] at h9 ⊢
    have l1 := ln e1
    obtain ⟨z1, e, N2, z2, z3, z4, z5, z6, z7, z8, z9⟩ := u.2.1 e1
    refine mq0 u.1 z1 ?_
    unfold pMo_chain_74 fMo_chain_74
    have hla2 := hP.2.2.1
    have e42 := z7.2.1
    rw [z2, nI_clamp (n := e) (by omega), nI_clamp (n := la) (by omega)]
    have ve : vp_in (nI e) 4200 := vp_in_nI e42 (by decide)
    have vl : vp_in (nI la) 4200 := vp_in_nI hla2 (by decide)
    generalize e5 : pm_u (pm_u q.2.2.2 56 e (nI (mt (tK b L j)))) 55 la (nI e) = M5
    have g5 : ∀ a, a ≠ 55 → a ≠ 56 → M5 a = q.2.2.2 a := fun a h1 h2 => by rw [← e5, pm_u_n _ _ _ h1, pm_u_n _ _ _ h2]
    have g55 : ∀ k, k ≠ la → M5 55 k = q.2.2.2 55 k := fun k hk => by rw [← e5, pm_u_j _ _ _ hk, pm_u_n _ _ _ (by decide)]
    have g55l : M5 55 la = nI e := by rw [← e5, pm_u_s]
    have g56 : ∀ k, k ≠ e → M5 56 k = q.2.2.2 56 k := fun k hk => by rw [← e5, pm_u_n _ _ _ (by decide), pm_u_j _ _ _ hk]
    have g56e : M5 56 e = nI (mt (tK b L j)) := by rw [← e5, pm_u_n _ _ _ (by decide), pm_u_s]
    have S5 : mS b L NL r.2.2.1 r.2.2.2.1 N2 M5 := mS_u z3 (fun j _ _ _ => by rw [g5 40 (by decide) (by decide)]) (fun a _ h2 => g5 a (by omega) (by omega)) (by rw [g5 40 (by decide) (by decide)]; exact z3.2.2.1) (by rw [g5 40 (by decide) (by decide)]; exact z3.2.2.2.1)
    have agE : agN N' e q.2.2.2 M5 := fun k h1 h2 => ⟨by rw [g5 52 (by decide) (by decide)], by rw [g5 53 (by decide) (by decide)], by rw [g5 54 (by decide) (by decide)], fun h3 => ⟨g55 k (by omega), g56 k (by omega)⟩⟩
    have agP : agN N la M2 q.2.2.2 := agN_t (mF_ag (N := N') F4 hla) (mF_ag (N := N') z9 hla)
    have agP2 : agN N la q.2.2.2 M5 := fun k h1 h2 => ⟨by rw [g5 52 (by decide) (by decide)], by rw [g5 53 (by decide) (by decide)], by rw [g5 54 (by decide) (by decide)], fun h3 => ⟨g55 k (by omega), g56 k (by omega)⟩⟩
    have P5 := PC_c (PC_c P2 agP ((z9.2.2 56 la hla (by decide) (by decide)).trans (F4.2.2 56 la hla (by decide) (by decide)))) agP2 (g56 la (by omega))
    have P6 := PC_s P5 (Ev_c z7 agE (Nat.le_refl _) (Nat.le_refl _)) hla (t := tK b L j) (by omega) g55l g56e
    refine sq ve (sq vl ?_)
    refine ih r.2.2.1 r.2.2.2.1 _ nm e (cn + 1) N2 M5 S5 l1.2.2.1 l1.2.2.2.2.1 z5 P6 ((g55 e (by omega)).trans z8) (by omega) (fun h0 => by omega) (by omega) (by omega) ?_ h9
    refine mF_t (mF_t F4' z9 (by omega)) ⟨fun a h1 h2 => g5 a (by omega) (by omega), fun j h1 h2 => by rw [g5 40 (by decide) (by decide)], fun a k h1 h2 h3 => ?_⟩ (Nat.le_refl N)
    by_cases c55 : a = 55
    · subst c55; exact g55 k (by omega)
    · by_cases c56 : a = 56
      · subst c56; exact g56 k (by omega)
      · rw [g5 a c55 c56]
set_option maxHeartbeats 4000000 in
theorem meC {m : Nat} (hE : bE (tB b L) n) (hm : HM b L Nm NL n m) {l d i co N : Nat} {M : Mm} (hl : l ≤ 10) (hd : d ≤ 40) (hi : i < n) (hco : co ≤ 3000) (hN : N ≤ i) (h9 : (sp_E (tT (tB b L) Nm) (m + 1) 1 l d i co).1 ≠ 9) (hS : mS b L NL i co N M) : me_Q (m + 1) 1 (nI l) (nI d) M ∧ MR b L NL (m + 1) i N M (sp_E (tT (tB b L) Nm) (m + 1) 1 l d i co) (me_F (m + 1) 1 (nI l) (nI d) M) := by
  have hn := hE.2.1
  have es : sp_E (tT (tB b L) Nm) (m + 1) 1 l d i co = sp_chain (tT (tB b L) Nm) (sp_E (tT (tB b L) Nm) m) l d i co := rfl
  rw [es] at h9 ⊢
  rw [meQ1, meF1]
  unfold pMo_chain fMo_chain
  unfold sp_chain at h9 ⊢
  by_cases l10 : l = 10
  · rw [if_pos l10] at h9 ⊢
    have u := HM2 hm hd hi hco hN h9 hS
    refine itp (by rw [l10]; rfl) ?_
    generalize me_F m 2 (nI d) 0 M = q at u
    generalize sp_E (tT (tB b L) Nm) m 2 0 d i co = r at u
    by_cases e1 : r.1 = 0
    · exact mq0 u.1 (u.2.1 e1).1 ⟨trivial, (by
        have z := MR_m u.2 (Nat.le_succ m)
        exact ⟨fun e => ⟨rfl, (z.1 e).2⟩, fun e => absurd e1 e⟩)⟩
    · have z := u.2.2 e1
      exact mq1 u.1 (by rw [z.1]; exact e9 e1 z.2.2.2) (MR_b e1 z.1 z.2.1 z.2.2.1 z.2.2.2)
  rw [if_neg l10] at h9 ⊢
  refine itn (fun q => l10 ((nI_eq (a := l) (b := 10) (by omega) (by decide)).mp q)) ?_
  rw [nI_1]
  have u := HM1 hm (l := l + 1) (by omega) hd hi hco hN (b9 h9) hS
  have ln := sp_len (bE_T hE Nm) m 1 (l + 1) d i co hi hco
  generalize me_F m 1 (nI (l + 1)) (nI d) M = q at u
  generalize sp_E (tT (tB b L) Nm) m 1 (l + 1) d i co = r at u ln h9 ⊢
  by_cases e1 : r.1 = 0
  rotate_left
  · rw [sp_b1 e1]
    have z := u.2.2 e1
    exact mq1 u.1 (by rw [z.1]; exact e9 e1 z.2.2.2) (MR_b e1 z.1 z.2.1 z.2.2.1 z.2.2.2)
  rw [sp_b0 e1] at h9 ⊢
  have l1 := ln e1
  obtain ⟨z1, e, N', z2, z3, z4, z5, z6, z7, z8, z9⟩ := u.2.1 e1
  refine mq0 u.1 z1 ?_
  unfold pMo_chain_20 fMo_chain_20
  rw [z2]
  have k48 : tK b L r.2.2.1 < 48 := hE.2.2.1 _ l1.2.2.1
  by_cases k47 : tK b L r.2.2.1 = 47
  · have p := m_pk47 z3.1 (by have := l1.2.2.1; omega) z3.2.1 k47
    have e2 : sp_loop (tT (tB b L) Nm) (sp_E (tT (tB b L) Nm) m) l d 4002 r.2.2.1 r.2.2.2.1 r.2.2.2.2 = sp_fail 4 r.2.2.1 := by
      unfold sp_loop; rw [if_pos (show (tT (tB b L) Nm).1 r.2.2.1 = 47 from k47)]
    rw [e2]
    exact mq1 p.1 (by rw [p.2.1]; decide) (MR_f (by decide) p.2.1 p.2.2.1 (mw_t (mF_w z9) p.2.2.2))
  obtain ⟨M2, p1, p2, p3, p4⟩ := m_pk z3.1 (by have := l1.2.2.1; omega) z3.2.1 k47
  rw [p2]
  refine mq0 p1 rfl ?_
  dsimp only
  have S2 := mS_f z3 p4 (Or.inr p3)
  have F2 : mF N M M2 := mF_t z9 (mF_f p4) (Nat.le_refl _)
  have E2 := Ev_c z7 (mF_ag (N := N') (lo := N) (mF_f p4) z5) (Nat.le_refl m) (Nat.le_refl N)
  have b2 : M2 55 e = -1 := by rw [p4.1 55 (by decide)]; exact z8
  unfold pMo_chain_26 fMo_chain_26
  rw [joi l (by omega) _ k48 k47]
  refine sq (pJo _ _) ?_
  by_cases kt : tyt (tK b L r.2.2.1) = l + 1
  · rw [if_pos kt]
    refine itn (by decide) ?_
    exact meL hE hm (by omega) hd hi hN z4 4002 r.2.2.1 r.2.2.2.1 r.2.2.2.2 4002 e 0 N' M2 S2 l1.2.2.1 l1.2.2.2.2.1 z5 (PC_0 E2) b2 (by omega) (fun _ => ⟨kt, k47⟩) (Nat.zero_le _) (by decide) F2 h9
  · rw [if_neg kt]
    have e2 : sp_loop (tT (tB b L) Nm) (sp_E (tT (tB b L) Nm) m) l d 4002 r.2.2.1 r.2.2.2.1 r.2.2.2.2 = sp_ok r.2.2.1 r.2.2.2.1 r.2.2.2.2 := by
      unfold sp_loop; rw [if_neg (show ¬ (tT (tB b L) Nm).1 r.2.2.1 = 47 from k47), if_neg (show ¬ tyt ((tT (tB b L) Nm).1 r.2.2.1) = l + 1 from kt)]
    rw [e2]
    exact itp rfl ⟨trivial, fun _ => ⟨rfl, e, N', rfl, S2, z4, z5, z6, Ev_c E2 (agN_r _ _ _) (Nat.le_succ m) (Nat.le_refl _), b2, F2⟩, fun q => absurd rfl q⟩
set_option maxHeartbeats 4000000 in
theorem meX {m : Nat} (hE : bE (tB b L) n) (hm : HM b L Nm NL n m) {d i co N : Nat} {M : Mm} (hd : d ≤ 40) (hi : i < n) (hco : co ≤ 3000) (hN : N ≤ i) (h9 : (sp_E (tT (tB b L) Nm) (m + 1) 0 0 d i co).1 ≠ 9) (hS : mS b L NL i co N M) : me_Q (m + 1) 0 (nI d) 0 M ∧ MR b L NL (m + 1) i N M (sp_E (tT (tB b L) Nm) (m + 1) 0 0 d i co) (me_F (m + 1) 0 (nI d) 0 M) := by
  have hn := hE.2.1
  have es : sp_E (tT (tB b L) Nm) (m + 1) 0 0 d i co = sp_expr (tT (tB b L) Nm) (sp_E (tT (tB b L) Nm) m) d i co := rfl
  rw [es] at h9 ⊢
  rw [meQ0, meF0]
  unfold pMo_expression fMo_expression
  unfold sp_expr at h9 ⊢
  rw [if_neg (by omega)] at h9 ⊢
  have u := HM1 hm (l := 0) (by decide) hd hi hco hN (b9 h9) hS
  rw [nI_0] at u
  have ln := sp_len (bE_T hE Nm) m 1 0 d i co hi hco
  have tl : (sp_E (tT (tB b L) Nm) m 1 0 d i co).1 = 0 → tK b L (sp_E (tT (tB b L) Nm) m 1 0 d i co).2.2.1 ≠ 47 := by
    intro e
    cases m with
    | zero => exact absurd e (by show ¬ (9 : Nat) = 0; decide)
    | succ m =>
      have e2 : sp_E (tT (tB b L) Nm) (m + 1) 1 0 d i co = sp_chain (tT (tB b L) Nm) (sp_E (tT (tB b L) Nm) m) 0 d i co := rfl
      rw [e2] at e ⊢
      unfold sp_chain at e ⊢
      rw [if_neg (by decide)] at e ⊢
      have lp : ∀ k j c C, (sp_loop (tT (tB b L) Nm) (sp_E (tT (tB b L) Nm) m) 0 d k j c C).1 = 0 → tK b L (sp_loop (tT (tB b L) Nm) (sp_E (tT (tB b L) Nm) m) 0 d k j c C).2.2.1 ≠ 47 := by
        intro k
        induction k with
        | zero => intro j c C h; exact absurd h (by show ¬ (9 : Nat) = 0; decide)
        | succ k ih =>
          intro j c C h
          unfold sp_loop at h ⊢
          by_cases k47 : (tT (tB b L) Nm).1 j = 47
          · rw [if_pos k47] at h; exact absurd h (by show ¬ (4 : Nat) = 0; decide)
          rw [if_neg k47] at h ⊢
          by_cases kt : tyt ((tT (tB b L) Nm).1 j) = 0 + 1
          · rw [if_pos kt] at h ⊢
            unfold sp_pay at h ⊢
            by_cases hp : c + cst ((tT (tB b L) Nm).1 j) ≤ 3000
            · rw [if_pos hp] at h ⊢
              dsimp only at h ⊢
              by_cases e3 : (sp_E (tT (tB b L) Nm) m 1 (0 + 1) d (j + 1) (c + cst ((tT (tB b L) Nm).1 j))).1 = 0
              · rw [sp_b0 e3] at h ⊢; exact ih _ _ _ h
              · rw [sp_b1 e3] at h; exact absurd h e3
            · rw [if_neg hp] at h; exact absurd h (by show ¬ (4 : Nat) = 0; decide)
          · rw [if_neg kt]; exact k47
      by_cases e3 : (sp_E (tT (tB b L) Nm) m 1 (0 + 1) d i co).1 = 0
      · rw [sp_b0 e3] at e ⊢; exact lp _ _ _ _ e
      · rw [sp_b1 e3] at e; exact absurd e e3
  generalize me_F m 1 0 (nI d) M = q at u
  generalize sp_E (tT (tB b L) Nm) m 1 0 d i co = r at u ln h9 tl ⊢
  by_cases e1 : r.1 = 0
  rotate_left
  · rw [sp_b1 e1]
    have z := u.2.2 e1
    exact mq1 u.1 (by rw [z.1]; exact e9 e1 z.2.2.2) (MR_b e1 z.1 z.2.1 z.2.2.1 z.2.2.2)
  rw [sp_b0 e1] at h9 ⊢
  have l1 := ln e1
  have k47 := tl e1
  obtain ⟨z1, e, N', z2, z3, z4, z5, z6, z7, z8, z9⟩ := u.2.1 e1
  refine mq0 u.1 z1 ?_
  clear u ln tl
  obtain ⟨re, rw', rj, rc, rC⟩ := r
  dsimp only at l1 k47 z3 z6 z7 h9 ⊢
  have k48 : tK b L rj < 48 := hE.2.2.1 _ l1.2.2.1
  have tk : (tT (tB b L) Nm).1 rj = tK b L rj := rfl
  unfold pMo_expression_6 fMo_expression_6
  obtain ⟨M2, p1, p2, p3, p4⟩ := m_pk z3.1 (by omega) z3.2.1 k47
  rw [p2]
  refine mq0 p1 rfl ?_
  dsimp only
  have S2 := mS_f z3 p4 (Or.inr p3)
  have F2 : mF N M M2 := mF_t z9 (mF_f p4) (Nat.le_refl _)
  have E2 := Ev_c z7 (mF_ag (N := N') (lo := N) (mF_f p4) z5) (Nat.le_refl m) (Nat.le_refl N)
  have b2 : M2 55 e = -1 := by rw [p4.1 55 (by decide)]; exact z8
  have mu := mt_u _ k48 k47
  have e42 := z7.2.1
  have ve : vp_in (nI e) 4200 := vp_in_nI e42 (by decide)
  unfold pMo_expression_11 fMo_expression_11
  rw [tk] at h9 ⊢
  by_cases k3 : tK b L rj = 3
  rotate_left
  · rw [if_neg k3]
    exact itn (fun q => k3 (mu.2.2.2.2.mp q)) ⟨trivial, fun _ => ⟨rfl, e, N', z2, S2, z4, z5, z6, Ev_c E2 (agN_r _ _ _) (Nat.le_succ m) (Nat.le_refl _), b2, F2⟩, fun q => absurd rfl q⟩
  rw [if_pos k3] at h9 ⊢
  refine itp (mu.2.2.2.2.mpr k3) ?_
  rw [z2]
  unfold sp_pay at h9 ⊢
  by_cases hp : rc + 40 ≤ 3000
  rotate_left
  · rw [if_neg hp]
    have x := m_pay1 (p := 40) S2.2.2.1 p3 hp (by omega)
    exact mq1 x.1 (by rw [show fMo_pays (40 : Int32) M2 = fMo_pays (nI 40) M2 from rfl, x.2.1]; decide) (MR_f (by decide) x.2.1 x.2.2.1 (mw_t (mF_w F2) x.2.2.2))
  rw [if_pos hp] at h9 ⊢
  dsimp only at h9 ⊢
  have x := m_pay0 (p := 40) S2.2.2.1 hp
  have x2 : fMo_pays (40 : Int32) M2 = (0, 0, pm_u M2 40 11 (nI (rc + 40))) := x.2
  rw [x2]
  refine mq0 x.1 rfl ?_
  dsimp only
  have fp : ∀ a, a ≠ 40 → (pm_u M2 40 11 (nI (rc + 40))) a = M2 a := fun a h1 => pm_u_n _ _ _ h1
  have S3 : mS b L NL rj (rc + 40) N' (pm_u M2 40 11 (nI (rc + 40))) := mS_u S2 (fun j h1 _ _ => pm_u_j _ _ _ h1) (fun a h1 _ => fp a h1) (pm_u_s _ _ _ _) (by rw [pm_u_j _ _ _ (by decide)]; exact S2.2.2.2.1)
  have F3 : mF N' M2 (pm_u M2 40 11 (nI (rc + 40))) := ⟨fun a h1 _ => fp a h1, fun j h1 h2 => pm_u_j _ _ _ (by omega), fun a k _ h2 _ => by rw [fp a (by omega)]⟩
  have q3 : mQ b L rj (pm_u M2 40 11 (nI (rc + 40))) := by
    refine ⟨?_, ?_, ?_, ?_, ?_, ?_, p3.2.2.2.2.2.2⟩
    · rw [pm_u_j _ _ _ (by decide)]; exact p3.1
    · rw [pm_u_j _ _ _ (by decide)]; exact p3.2.1
    · rw [pm_u_j _ _ _ (by decide)]; exact p3.2.2.1
    · rw [pm_u_j _ _ _ (by decide)]; exact p3.2.2.2.1
    · rw [pm_u_j _ _ _ (by decide)]; exact p3.2.2.2.2.1
    · rw [pm_u_j _ _ _ (by decide)]; exact p3.2.2.2.2.2.1
  generalize pm_u M2 40 11 (nI (rc + 40)) = M3 at S3 F3 q3
  obtain ⟨t1, M4, t2, t3, t4⟩ := m_take q3 (by omega)
  unfold pMo_expression_24 fMo_expression_24
  rw [t2]
  refine mq0 t1 rfl ?_
  dsimp only
  have S4 := mS_f S3 t4 (Or.inl t3)
  have F4 : mF N' M2 M4 := mF_t F3 (mF_f t4) (Nat.le_refl _)
  have F4' : mF N M M4 := mF_t F2 F4 (by omega)
  have sj := tEnd_s (bE_T hE Nm) l1.2.2.1 (show tK b L rj < 45 by omega)
  unfold pMo_expression_28 fMo_expression_28
  by_cases d4 : d < 40
  rotate_left
  · have x := m_nest1 S4.1 (by omega) S4.2.1 (show 40 ≤ d by omega) (by omega)
    rw [sp_deep (Or.inl rfl) (by omega) (b9 h9), sp_b1 (show ¬ (sp_fail 4 (rj + 1)).1 = 0 by show ¬ (4 : Nat) = 0; decide)]
    exact mq1 x.1 (by rw [x.2.1]; decide) (MR_f (by decide) x.2.1 x.2.2.1 (mw_t (mF_w F4') x.2.2.2))
  have ns := m_nest0 (M := M4) d4
  rw [ns.2]
  refine mq0 ns.1 rfl ?_
  dsimp only
  unfold pMo_expression_39 fMo_expression_39
  have u := HM0 hm (d := d + 1) (i := rj + 1) (co := rc + 40) (N := N') (by omega) sj hp (by omega) (b9 h9) S4
  have ln := sp_len (bE_T hE Nm) m 0 0 (d + 1) (rj + 1) (rc + 40) sj hp
  generalize me_F m 0 (nI (d + 1)) 0 M4 = q2 at u
  generalize sp_E (tT (tB b L) Nm) m 0 0 (d + 1) (rj + 1) (rc + 40) = r2 at u ln h9 ⊢
  by_cases f1 : r2.1 = 0
  rotate_left
  · rw [sp_b1 f1]
    have z := u.2.2 f1
    exact mq1 u.1 (by rw [z.1]; exact e9 f1 z.2.2.2) (MR_b f1 z.1 z.2.1 (mw_t (mF_w F4') z.2.2.1) z.2.2.2)
  rw [sp_b0 f1] at h9 ⊢
  have l2 := ln f1
  obtain ⟨y1, ey, Ny, y2, y3, y4, y5, y6, y7, y8, y9⟩ := u.2.1 f1
  refine mq0 u.1 y1 ?_
  clear u ln
  obtain ⟨r2e, r2w, r2j, r2c, r2C⟩ := r2
  dsimp only at l2 y3 y6 y7 h9 ⊢
  unfold pMo_expression_42 fMo_expression_42
  rw [y2, nI_clamp (n := e) (by omega)]
  have ey42 := y7.2.1
  have vy : vp_in (nI ey) 4200 := vp_in_nI ey42 (by decide)
  have gx : ∀ a k, (a ≠ 55 ∨ k ≠ e) → (pm_u q2.2.2.2 55 e (nI ey)) a k = q2.2.2.2 a k := fun a k hak => by
    by_cases c : a = 55
    · subst c; exact pm_u_j _ _ _ (by omega)
    · rw [pm_u_n _ _ _ c]
  have g55 : (pm_u q2.2.2.2 55 e (nI ey)) 55 e = nI ey := pm_u_s _ _ _ _
  have ga : ∀ a, a ≠ 55 → (pm_u q2.2.2.2 55 e (nI ey)) a = q2.2.2.2 a := fun a h => pm_u_n _ _ _ h
  generalize pm_u q2.2.2.2 55 e (nI ey) = M5 at gx g55 ga
  have S5 : mS b L NL r2j r2c Ny M5 := mS_u y3 (fun j _ _ _ => by rw [ga 40 (by decide)]) (fun a _ h2 => ga a (by omega)) (by rw [ga 40 (by decide)]; exact y3.2.2.1) (by rw [ga 40 (by decide)]; exact y3.2.2.2.1)
  have F5 : mF N M M5 := mF_t (mF_t F4' y9 (by omega)) ⟨fun a h1 h2 => ga a (by omega), fun j h1 h2 => by rw [ga 40 (by decide)], fun a k h1 h2 h3 => gx a k (by omega)⟩ (Nat.le_refl N)
  have Ex5 : Ev M5 m N e rC := Ev_c E2 (agN_t (mF_ag (N := N') F4 z5) (agN_t (mF_ag (N := N') y9 z5) (fun k h1 h2 => ⟨gx 52 k (by omega), gx 53 k (by omega), gx 54 k (by omega), fun h3 => ⟨gx 55 k (by omega), gx 56 k (by omega)⟩⟩))) (Nat.le_refl _) (Nat.le_refl _)
  have Ey5 : Ev M5 m N' ey r2C := Ev_c y7 (fun k h1 h2 => ⟨gx 52 k (by omega), gx 53 k (by omega), gx 54 k (by omega), fun h3 => ⟨gx 55 k (by omega), gx 56 k (by omega)⟩⟩) (Nat.le_refl _) (Nat.le_refl _)
  have by5 : M5 55 ey = -1 := (gx 55 ey (by omega)).trans y8
  have kj48 : tK b L r2j < 48 := hE.2.2.1 _ l2.2.2.1
  have mu1 := m_must S5.1 (by omega) kj48 S5.2.1 (s := 1) (by decide)
  unfold sp_ex at h9 ⊢
  by_cases k1 : tK b L r2j = 1
  rotate_left
  · rw [if_neg (show ¬ (tT (tB b L) Nm).1 r2j = 1 from k1)]
    have y := mu1.2.2 k1
    have sn : sp_no (tT (tB b L) Nm) r2j = sp_fail (if tK b L r2j = 47 then 4 else 1) r2j := by
      by_cases q : tK b L r2j = 47
      · rw [noT47 _ _ q, if_pos q]
      · rw [noT _ _ q, if_neg q]
    have w1 : (fMo_must 58 M5).1 = nI (if tK b L r2j = 47 then 4 else 1) := by
      refine (show (fMo_must 58 M5).1 = _ from y.1).trans ?_
      split <;> rfl
    rw [sn]
    refine sq ve (mq1 mu1.1 ?_ (MR_f ?_ w1 y.2.1 (mw_t (mF_w F5) y.2.2)))
    · rw [w1]; split <;> decide
    · split <;> decide
  rw [if_pos (show (tT (tB b L) Nm).1 r2j = 1 from k1)] at h9 ⊢
  dsimp only at h9 ⊢
  obtain ⟨M6, w1, w2, w3⟩ := mu1.2.1 k1
  have w1' : fMo_must 58 M5 = (0, 0, M6) := w1
  rw [w1']
  refine sq ve (mq0 mu1.1 rfl ?_)
  dsimp only
  have S6 := mS_f S5 w3 (Or.inl w2)
  have F6 : mF N M M6 := mF_t F5 (mF_f w3) (Nat.le_refl _)
  have sj2 := tEnd_s (bE_T hE Nm) l2.2.2.1 (show tK b L r2j < 45 by omega)
  have b56 : M6 55 e = nI ey := by rw [w3.1 55 (by decide)]; exact g55
  unfold pMo_expression_49 fMo_expression_49
  have ns2 := m_nest0 (M := M6) d4
  rw [ns2.2, nI_clamp (n := e) (by omega), b56]
  refine sq ve (mq0 ns2.1 rfl ?_)
  dsimp only
  unfold pMo_expression_65 fMo_expression_65
  have u := HM0 hm (d := d + 1) (i := r2j + 1) (co := r2c) (N := Ny) (by omega) sj2 l2.2.2.2.2.1 (by omega) (b9 h9) S6
  have ln := sp_len (bE_T hE Nm) m 0 0 (d + 1) (r2j + 1) r2c sj2 l2.2.2.2.2.1
  generalize me_F m 0 (nI (d + 1)) 0 M6 = q4 at u
  generalize sp_E (tT (tB b L) Nm) m 0 0 (d + 1) (r2j + 1) r2c = r3 at u ln h9 ⊢
  by_cases f2 : r3.1 = 0
  rotate_left
  · rw [sp_b1 f2]
    have z := u.2.2 f2
    exact mq1 u.1 (by rw [z.1]; exact e9 f2 z.2.2.2) (MR_b f2 z.1 z.2.1 (mw_t (mF_w F6) z.2.2.1) z.2.2.2)
  rw [sp_b0 f2]
  have l3 := ln f2
  obtain ⟨x1, ez, Nz, x2, x3, x4, x5, x6, x7, x8, x9⟩ := u.2.1 f2
  refine mq0 u.1 x1 ?_
  clear u ln
  unfold pMo_expression_68 fMo_expression_68
  rw [x2, nI_clamp (n := ey) (by omega)]
  have ez42 := x7.2.1
  have hx : ∀ a k, (a ≠ 55 ∨ k ≠ ey) → (pm_u q4.2.2.2 55 ey (nI ez)) a k = q4.2.2.2 a k := fun a k hak => by
    by_cases c : a = 55
    · subst c; exact pm_u_j _ _ _ (by omega)
    · rw [pm_u_n _ _ _ c]
  have h55 : (pm_u q4.2.2.2 55 ey (nI ez)) 55 ey = nI ez := pm_u_s _ _ _ _
  have ha : ∀ a, a ≠ 55 → (pm_u q4.2.2.2 55 ey (nI ez)) a = q4.2.2.2 a := fun a h => pm_u_n _ _ _ h
  generalize pm_u q4.2.2.2 55 ey (nI ez) = M7 at hx h55 ha
  have S7 : mS b L NL r3.2.2.1 r3.2.2.2.1 Nz M7 := mS_u x3 (fun j _ _ _ => by rw [ha 40 (by decide)]) (fun a _ h2 => ha a (by omega)) (by rw [ha 40 (by decide)]; exact x3.2.2.1) (by rw [ha 40 (by decide)]; exact x3.2.2.2.1)
  obtain ⟨n1, M8, n2, a52, a53, a54, a55, a34, aj, aa, ak⟩ := m_node S7.2.2.2.1 (by have := l3.2.2.1; omega) 4 0 (nI e)
  rw [n2]
  dsimp only
  have kk : ∀ a k, 52 ≤ a → a ≤ 56 → k < Ny → (a ≠ 55 ∨ k ≠ ey) → M8 a k = M5 a k := fun a k h1 h2 h3 h4 => by
    rw [ak a k (by omega) (by omega), hx a k h4, x9.2.2 a k h3 h1 h2, w3.1 a (by omega)]
  refine sq vy (sqt ⟨n1, fun _ => ⟨rfl, Nz, Nz + 1, rfl, ?_, by omega, by omega, ?_, ?_, a55, ?_⟩, fun q => absurd rfl q⟩)
  · exact mS_u S7 (fun j _ h _ => aj j h) (fun a h1 h2 => aa a h1 (by omega)) ((aj 11 (by decide)).trans S7.2.2.1) a34
  · show Nz + 1 + i ≤ N + r3.2.2.1
    omega
  · have A1 : agN N e M5 M8 := fun k h1 h2 => ⟨kk 52 k (by decide) (by decide) (by omega) (by omega), kk 53 k (by decide) (by decide) (by omega) (by omega), kk 54 k (by decide) (by decide) (by omega) (by omega), fun h3 => ⟨kk 55 k (by decide) (by decide) (by omega) (by omega), kk 56 k (by decide) (by decide) (by omega) (by omega)⟩⟩
    have A2 : agN N' ey M5 M8 := fun k h1 h2 => ⟨kk 52 k (by decide) (by decide) (by omega) (by omega), kk 53 k (by decide) (by decide) (by omega) (by omega), kk 54 k (by decide) (by decide) (by omega) (by omega), fun h3 => ⟨kk 55 k (by decide) (by decide) (by omega) (by omega), kk 56 k (by decide) (by decide) (by omega) (by omega)⟩⟩
    have A3 : agN Ny ez q4.2.2.2 M8 := fun k h1 h2 => ⟨(ak 52 k (by decide) (by omega)).trans (hx 52 k (by omega)), (ak 53 k (by decide) (by omega)).trans (hx 53 k (by omega)), (ak 54 k (by decide) (by omega)).trans (hx 54 k (by omega)), fun h3 => ⟨(ak 55 k (by decide) (by omega)).trans (hx 55 k (by omega)), (ak 56 k (by decide) (by omega)).trans (hx 56 k (by omega))⟩⟩
    exact Ev_cho (Ev_c Ex5 A1 (Nat.le_refl _) (Nat.le_refl _)) (Ev_c Ey5 A2 (Nat.le_refl _) (Nat.le_refl _)) (Ev_c x7 A3 (Nat.le_refl _) (Nat.le_refl _)) z5 y5 x5 (by omega) a52 a54 ((kk 55 e (by decide) (by decide) (by omega) (by omega)).trans g55) ((ak 55 ey (by decide) (by omega)).trans h55)
  · exact mF_t (mF_t F6 x9 (by omega)) (mF_t ⟨fun a h1 h2 => ha a (by omega), fun j h1 h2 => by rw [ha 40 (by decide)], fun a k h1 h2 h3 => hx a k (by omega)⟩ ⟨fun a h1 h2 => aa a h1 (by omega), fun j h1 h2 => aj j h2, fun a k h1 h2 h3 => ak a k (by omega) (by omega)⟩ (Nat.le_refl N)) (Nat.le_refl _)
theorem meE (hE : bE (tB b L) n) (hNL : nlOk Nm NL) (hkd : ∀ (k : Nat) (x : Nat × Nat × Nat × Nat), Nm[k]? = some x → x.2.1 = 29 ∨ x.2.1 = 30 ∨ x.2.1 = 31 ∨ x.2.1 = 33) : ∀ m, HM b L Nm NL n m := by
  intro m
  induction m with
  | zero => intro t l d i co N M _ _ _ _ _ _ h _; exact absurd rfl h
  | succ m ih =>
    intro t l d i co N M ht hl hd hi hco hN h9 hS
    have t3 : t = 0 ∨ t = 1 ∨ t = 2 := by omega
    rcases t3 with rfl | rfl | rfl
    · have e : sp_E (tT (tB b L) Nm) (m + 1) 0 l d i co = sp_E (tT (tB b L) Nm) (m + 1) 0 0 d i co := by
        rw [sp_E.eq_2, sp_E.eq_2, if_pos rfl, if_pos rfl]
      rw [e] at h9
      rw [e, if_neg (show ¬ (0 : Nat) = 1 by decide), if_neg (show ¬ (0 : Nat) = 1 by decide)]
      exact meX hE ih hd hi hco hN h9 hS
    · rw [if_pos rfl, if_pos rfl]
      exact meC hE ih hl hd hi hco hN h9 hS
    · have e : sp_E (tT (tB b L) Nm) (m + 1) 2 l d i co = sp_E (tT (tB b L) Nm) (m + 1) 2 0 d i co := by
        rw [sp_E.eq_2, sp_E.eq_2, if_neg (by decide), if_neg (by decide), if_neg (by decide), if_neg (by decide)]
      rw [e] at h9
      rw [e, if_neg (show ¬ (2 : Nat) = 1 by decide), if_neg (show ¬ (2 : Nat) = 1 by decide)]
      exact meU hE hNL hkd ih hd hi hco hN h9 hS
end
