/-! MODEL'S FORMULAS 3: single -/
section
variable {b : Nat → Nat} {L : Nat} {n : Nat} {Nm NL : NmT}
theorem m_in_24 {M : Mm} {i : Nat} (hB : mBy M b L) (hi : i ≤ 4000) (h : mN b L i M) (hk : tK b L i ≠ 47) : pMo_is_24 32 M ∧ ∃ w M', fMo_is_24 32 M = (0, w, if tK b L i = 36 then 1 else 0, M') ∧ mQ b L i M' ∧ mfr M M' := by
  obtain ⟨M', p1, p2, p3, p4⟩ := m_pk hB hi h hk
  have x := m_is_24 (mBy_f hB p4) p3
  have p5 := m_pks p3
  unfold pMo_is_24 fMo_is_24 at x ⊢
  rw [p5.2, if_pos rfl] at x
  rw [p2, if_pos rfl]
  dsimp only at x ⊢
  exact ⟨⟨p1, fun _ => x.1.2 rfl⟩, 0, M', x.2, p3, p4⟩
theorem m_in_24f {M : Mm} {i : Nat} (hB : mBy M b L) (hi : i ≤ 4000) (h : mN b L i M) (hk : tK b L i = 47) : pMo_is_24 32 M ∧ (fMo_is_24 32 M).1 = 4 ∧ (fMo_is_24 32 M).2.1 = nI (tF b L i) ∧ mw M (fMo_is_24 32 M).2.2.2 := by
  have p := m_pk47 hB hi h hk
  have c : ¬ (fMo_peek 65537 65537 M).1 = 0 := by rw [p.2.1]; decide
  unfold pMo_is_24 fMo_is_24
  rw [if_neg c]
  exact ⟨⟨p.1, fun q => absurd q c⟩, p.2.1, p.2.2.1, p.2.2.2⟩
theorem m_ms {M : Mm} {i s : Nat} {v : Int32} (hv : v = nI (mt s)) (hs : s < 29) (hB : mBy M b L) (hi : i ≤ 4000) (hk48 : tK b L i < 48) (h : mN b L i M) (hk : tK b L i = s) : pMo_must v M ∧ ∃ M', fMo_must v M = (0, 0, M') ∧ mP b L (i + 1) M' ∧ mfr M M' := by
  subst hv
  have x := m_must hB hi hk48 h hs
  exact ⟨x.1, x.2.1 hk⟩
theorem m_mf {M : Mm} {i s : Nat} {v : Int32} (Nm : NmT) (hv : v = nI (mt s)) (hs : s < 29) (hB : mBy M b L) (hi : i ≤ 4000) (hk48 : tK b L i < 48) (h : mN b L i M) (hk : tK b L i ≠ s) : pMo_must v M ∧ ∃ e, (e ≠ 0 ∧ e < 9) ∧ (fMo_must v M).1 = nI e ∧ (fMo_must v M).2.1 = nI (tF b L i) ∧ mw M (fMo_must v M).2.2 ∧ sp_no (tT (tB b L) Nm) i = sp_fail e i := by
  subst hv
  have x := m_must hB hi hk48 h hs
  have y := x.2.2 hk
  by_cases q : tK b L i = 47
  · rw [if_pos q] at y
    exact ⟨x.1, 4, by decide, y.1, y.2.1, y.2.2, noT47 _ _ q⟩
  · rw [if_neg q] at y
    exact ⟨x.1, 1, by decide, y.1, y.2.1, y.2.2, noT _ _ q⟩
theorem mG_1 {N k : Nat} {M M' M'' : Mm} (h : mG N k M M') (f : mfr M' M'') : mG N k M M'' := mG_t h (mG_f (N := N) (n := k) f) (Nat.le_refl _) (Nat.le_refl _)

set_option maxHeartbeats 4000000 in
theorem mfA_b {m : Nat} (hE : bE (tB b L) n) (hm : HG b L Nm NL n m) {d i co N h o : Nat} {F : FT} {M0 M : Mm} (y2 : Int32) (ho : (h, o) ∈ op1) (h12 : h ≠ 12) (h0 : h = 0) (hd : d ≤ 40) (hi : i + 1 < n) (hco : co ≤ 3000) (hN : N ≤ i) (hF : F.length ≤ i) (hT : mT b L NL (i + 1) co N F M) (hf : mG N F.length M0 M) (h9 : (sp_alt (sp_F (tT (tB b L) Nm) m) o d i co).1 ≠ 9) : pMo_single_15 (mf_F m) (mf_Q m) (nI d) y2 M ∧ MF b L NL i N F M0 (sp_alt (sp_F (tT (tB b L) Nm) m) o d i co) (fMo_single_15 (mf_F m) (nI d) y2 M) := by
  have hn := hE.2.1
  unfold pMo_single_15 fMo_single_15
  unfold sp_alt at h9 ⊢
  by_cases d4 : d < 40
  rotate_left
  · have x := m_nest1 hT.1.1 (by omega) hT.1.2.1 (show 40 ≤ d by omega) (by omega)
    rw [sF_deep (Or.inr rfl) (by omega) (b9 h9), sp_b1 (show ¬ (sp_fail 4 (i + 1)).1 = 0 by show ¬ (4 : Nat) = 0; decide)]
    exact mq1 x.1 (by rw [x.2.1]; decide) (MF_f (by decide) x.2.1 x.2.2.1 (mw_t (mG_w hf) x.2.2.2))
  have ns := m_nest0 (M := M) d4
  rw [ns.2]
  refine mq0 ns.1 rfl ?_
  dsimp only
  unfold pMo_single_23 fMo_single_23
  have u := hm 3 (d + 1) (i + 1) co N F M (by decide) (by omega) hi hco (by omega) (by omega) (b9 h9) hT
  have ln := sp_lenF (bE_T hE Nm) m 3 (d + 1) (i + 1) co hi hco
  generalize mf_F m 3 (nI (d + 1)) 0 M = q2 at u
  generalize sp_F (tT (tB b L) Nm) m 3 (d + 1) (i + 1) co = r2 at u ln h9 ⊢
  by_cases e2 : r2.1 = 0
  rotate_left
  · rw [sp_b1 e2]
    have z := u.2.2 e2
    exact mq1 u.1 (by rw [z.1]; exact e9 e2 z.2.2.2) (MF_b e2 z.1 z.2.1 (mw_t (mG_w hf) z.2.2.1) z.2.2.2)
  rw [sp_b0 e2]
  have l2 := ln e2
  obtain ⟨y1, f2, N2, G2, y2', y3', y4, y5, y6, y7, y8⟩ := u.2.1 e2
  refine mq0 u.1 y1 ?_
  unfold pMo_single_26 fMo_single_26
  rw [y2']
  have hl2 : (F ++ G2).length ≤ r2.2.2.1 := by rw [List.length_append]; omega
  obtain ⟨n1, M4, n2, n3, n4⟩ := m_make y3' (by have := l2.2.2.1; omega) h f2 0 [] (fun q => absurd q h12) (Or.inr (Or.inr (Or.inl ⟨y4.1, o, ho⟩)))
  have n1' : pMo_make (0 : Int32) (nI f2) (0 : Int32) q2.2.2.2 := by rw [h0] at n1 n2; exact n1
  have n2' : fMo_make (0 : Int32) (nI f2) (0 : Int32) q2.2.2.2 = (nI (F ++ G2).length, M4) := by rw [h0] at n1 n2; exact n2
  rw [n2']
  have W4 := Fw_1 (h := h) (o := o) ho y4
  rw [List.append_assoc] at n3 W4
  refine ⟨⟨n1', trivial⟩, fun _ => ⟨rfl, (F ++ G2).length, N2, G2 ++ [(h, f2, 0, [])], rfl, n3, W4, by omega, ?_, ?_, ?_⟩, fun q => absurd rfl q⟩
  · show N2 + i ≤ N + r2.2.2.1
    omega
  · show (G2 ++ [(h, f2, 0, [])]).length + i ≤ r2.2.2.1
    simp only [List.length_append, List.length_cons, List.length_nil]; omega
  · exact mG_t (mG_t hf y8 (Nat.le_refl _) (Nat.le_refl _)) n4 (by omega) (by rw [List.length_append]; omega)

set_option maxHeartbeats 4000000 in
theorem mfA_a {m : Nat} (hE : bE (tB b L) n) (hm : HG b L Nm NL n m) {d i co N h o : Nat} {F : FT} {M0 M : Mm} (y2 : Int32) (ho : (h, o) ∈ op1) (h12 : h ≠ 12) (hd : d ≤ 40) (hi : i + 1 < n) (hco : co ≤ 3000) (hN : N ≤ i) (hF : F.length ≤ i) (hT : mT b L NL (i + 1) co N F M) (hf : mG N F.length M0 M) (h9 : (sp_alt (sp_F (tT (tB b L) Nm) m) o d i co).1 ≠ 9) : pMo_single_123 (mf_F m) (mf_Q m) (nI d) y2 (nI h) M ∧ MF b L NL i N F M0 (sp_alt (sp_F (tT (tB b L) Nm) m) o d i co) (fMo_single_123 (mf_F m) (nI d) y2 (nI h) M) := by
  have hn := hE.2.1
  unfold pMo_single_123 fMo_single_123
  unfold sp_alt at h9 ⊢
  by_cases d4 : d < 40
  rotate_left
  · have x := m_nest1 hT.1.1 (by omega) hT.1.2.1 (show 40 ≤ d by omega) (by omega)
    rw [sF_deep (Or.inr rfl) (by omega) (b9 h9), sp_b1 (show ¬ (sp_fail 4 (i + 1)).1 = 0 by show ¬ (4 : Nat) = 0; decide)]
    exact mq1 x.1 (by rw [x.2.1]; decide) (MF_f (by decide) x.2.1 x.2.2.1 (mw_t (mG_w hf) x.2.2.2))
  have ns := m_nest0 (M := M) d4
  rw [ns.2]
  refine mq0 ns.1 rfl ?_
  dsimp only
  unfold pMo_single_131 fMo_single_131
  have u := hm 3 (d + 1) (i + 1) co N F M (by decide) (by omega) hi hco (by omega) (by omega) (b9 h9) hT
  have ln := sp_lenF (bE_T hE Nm) m 3 (d + 1) (i + 1) co hi hco
  generalize mf_F m 3 (nI (d + 1)) 0 M = q2 at u
  generalize sp_F (tT (tB b L) Nm) m 3 (d + 1) (i + 1) co = r2 at u ln h9 ⊢
  by_cases e2 : r2.1 = 0
  rotate_left
  · rw [sp_b1 e2]
    have z := u.2.2 e2
    exact mq1 u.1 (by rw [z.1]; exact e9 e2 z.2.2.2) (MF_b e2 z.1 z.2.1 (mw_t (mG_w hf) z.2.2.1) z.2.2.2)
  rw [sp_b0 e2]
  have l2 := ln e2
  obtain ⟨y1, f2, N2, G2, y2', y3', y4, y5, y6, y7, y8⟩ := u.2.1 e2
  refine mq0 u.1 y1 ?_
  unfold pMo_single_134 fMo_single_134
  rw [y2']
  have hl2 : (F ++ G2).length ≤ r2.2.2.1 := by rw [List.length_append]; omega
  obtain ⟨n1, M4, n2, n3, n4⟩ := m_make y3' (by have := l2.2.2.1; omega) h f2 0 [] (fun q => absurd q h12) (Or.inr (Or.inr (Or.inl ⟨y4.1, o, ho⟩)))
  have n1' : pMo_make (nI h) (nI f2) (0 : Int32) q2.2.2.2 := n1
  have n2' : fMo_make (nI h) (nI f2) (0 : Int32) q2.2.2.2 = (nI (F ++ G2).length, M4) := n2
  rw [n2']
  have W4 := Fw_1 (h := h) (o := o) ho y4
  rw [List.append_assoc] at n3 W4
  refine ⟨⟨n1', trivial⟩, fun _ => ⟨rfl, (F ++ G2).length, N2, G2 ++ [(h, f2, 0, [])], rfl, n3, W4, by omega, ?_, ?_, ?_⟩, fun q => absurd rfl q⟩
  · show N2 + i ≤ N + r2.2.2.1
    omega
  · show (G2 ++ [(h, f2, 0, [])]).length + i ≤ r2.2.2.1
    simp only [List.length_append, List.length_cons, List.length_nil]; omega
  · exact mG_t (mG_t hf y8 (Nat.le_refl _) (Nat.le_refl _)) n4 (by omega) (by rw [List.length_append]; omega)

set_option maxHeartbeats 4000000 in
theorem mfP {m : Nat} (hE : bE (tB b L) n) (hm : HG b L Nm NL n m) {d i co N : Nat} {F : FT} {M0 M : Mm} (y2 y3 : Int32) (hd : d ≤ 40) (hi : i + 1 < n) (hco : co ≤ 3000) (hN : N ≤ i) (hF : F.length ≤ i) (hT : mT b L NL (i + 1) co N F M) (hf : mG N F.length M0 M) (h9 : (sp_paren (tT (tB b L) Nm) (sp_F (tT (tB b L) Nm) m) d i co).1 ≠ 9) : pMo_single_256 (mf_F m) (mf_Q m) (nI d) y2 y3 M ∧ MF b L NL i N F M0 (sp_paren (tT (tB b L) Nm) (sp_F (tT (tB b L) Nm) m) d i co) (fMo_single_256 (mf_F m) (nI d) y2 y3 M) := by
  have hn := hE.2.1
  unfold pMo_single_256 fMo_single_256
  unfold sp_paren at h9 ⊢
  by_cases d4 : d < 40
  rotate_left
  · have x := m_nest1 hT.1.1 (by omega) hT.1.2.1 (show 40 ≤ d by omega) (by omega)
    rw [sF_deep (Or.inl rfl) (by omega) (b9 h9), sp_b1 (show ¬ (sp_fail 4 (i + 1)).1 = 0 by show ¬ (4 : Nat) = 0; decide)]
    exact mq1 x.1 (by rw [x.2.1]; decide) (MF_f (by decide) x.2.1 x.2.2.1 (mw_t (mG_w hf) x.2.2.2))
  have ns := m_nest0 (M := M) d4
  rw [ns.2]
  refine mq0 ns.1 rfl ?_
  dsimp only
  unfold pMo_single_262 fMo_single_262
  have u := hm 0 (d + 1) (i + 1) co N F M (by decide) (by omega) hi hco (by omega) (by omega) (b9 h9) hT
  have ln := sp_lenF (bE_T hE Nm) m 0 (d + 1) (i + 1) co hi hco
  generalize mf_F m 0 (nI (d + 1)) 0 M = q2 at u
  generalize sp_F (tT (tB b L) Nm) m 0 (d + 1) (i + 1) co = r2 at u ln h9 ⊢
  by_cases e2 : r2.1 = 0
  rotate_left
  · rw [sp_b1 e2]
    have z := u.2.2 e2
    exact mq1 u.1 (by rw [z.1]; exact e9 e2 z.2.2.2) (MF_b e2 z.1 z.2.1 (mw_t (mG_w hf) z.2.2.1) z.2.2.2)
  rw [sp_b0 e2]
  have l2 := ln e2
  obtain ⟨y1, f2, N2, G2, y2', y3', y4, y5, y6, y7, y8⟩ := u.2.1 e2
  refine mq0 u.1 y1 ?_
  unfold pMo_single_265 fMo_single_265
  rw [y2']
  have k48 : tK b L r2.2.2.1 < 48 := hE.2.2.1 _ l2.2.2.1
  have F2 : mG N F.length M0 q2.2.2.2 := mG_t hf y8 (Nat.le_refl _) (Nat.le_refl _)
  unfold sp_ex
  by_cases k5 : tK b L r2.2.2.1 = 5
  rotate_left
  · rw [if_neg (show ¬ (tT (tB b L) Nm).1 r2.2.2.1 = 5 from k5)]
    obtain ⟨x1, e, he, x2, x3, x4, x5⟩ := m_mf Nm (v := 41) (s := 5) rfl (by decide) y3'.1.1 (by have := l2.2.2.1; omega) k48 y3'.1.2.1 k5
    rw [x5]
    exact mq1 x1 (by rw [x2]; exact e9 he.1 he.2) (MF_f he x2 x3 (mw_t (mG_w F2) x4))
  rw [if_pos (show (tT (tB b L) Nm).1 r2.2.2.1 = 5 from k5)]
  obtain ⟨x1, M4, x2, x3, x4⟩ := m_ms (v := 41) (s := 5) rfl (by decide) y3'.1.1 (by have := l2.2.2.1; omega) k48 y3'.1.2.1 k5
  rw [x2]
  refine mq0 x1 rfl ?_
  dsimp only
  unfold pMo_single_273 fMo_single_273
  refine ⟨trivial, fun _ => ⟨rfl, f2, N2, G2, rfl, mT_f y3' x4 (Or.inl x3), y4, y5, ?_, ?_, mG_1 F2 x4⟩, fun q => absurd rfl q⟩
  · show N2 + i ≤ N + (r2.2.2.1 + 1)
    omega
  · show G2.length + i ≤ r2.2.2.1 + 1
    omega

set_option maxHeartbeats 8000000 in
theorem mfU {m : Nat} (hE : bE (tB b L) n) (hm : HG b L Nm NL n m) {d i co N : Nat} {F : FT} {M0 M : Mm} (y2 y3 : Int32) (hd : d ≤ 40) (hi : i < n) (hk : tK b L i = 34 ∨ tK b L i = 35) (hco : co ≤ 3000) (hN : N ≤ i) (hF : F.length ≤ i) (hT : mT b L NL i co N F M) (hq : mQ b L i M) (hf : mG N F.length M0 M) (h9 : (sp_until (tT (tB b L) Nm) (sp_F (tT (tB b L) Nm) m) (tK b L i) d i co).1 ≠ 9) : pMo_single_157 (mf_F m) (mf_Q m) (nI d) y2 y3 M ∧ MF b L NL i N F M0 (sp_until (tT (tB b L) Nm) (sp_F (tT (tB b L) Nm) m) (tK b L i) d i co) (fMo_single_157 (mf_F m) (nI d) y2 y3 M) := by
  have hn := hE.2.1
  have iA := m_is_22 hT.1.1 hq
  unfold pMo_single_157 fMo_single_157
  rw [iA.2]
  refine mq0 iA.1 rfl ?_
  try dsimp only
  unfold pMo_single_163 fMo_single_163
  obtain ⟨t1, M1, t2, t3, t4⟩ := m_take hq (by omega)
  rw [t2]
  refine mq0 t1 rfl ?_
  try dsimp only
  have T1 := mT_f hT t4 (Or.inl t3)
  have F1 := mG_1 hf t4
  have s1 := tEnd_s (bE_T hE Nm) hi (show tK b L i < 45 by omega)
  have k48 : tK b L (i + 1) < 48 := hE.2.2.1 _ s1
  unfold sp_until at h9 ⊢
  unfold pMo_single_169 fMo_single_169
  unfold sp_ex at h9 ⊢
  by_cases k6 : tK b L (i + 1) = 6
  rotate_left
  · rw [if_neg (show ¬ (tT (tB b L) Nm).1 (i + 1) = 6 from k6)]
    obtain ⟨x1, e, he, x2, x3, x4, x5⟩ := m_mf Nm (v := 91) (s := 6) rfl (by decide) T1.1.1 (by omega) k48 T1.1.2.1 k6
    rw [x5]
    exact mq1 x1 (by rw [x2]; exact e9 he.1 he.2) (MF_f he x2 x3 (mw_t (mG_w F1) x4))
  rw [if_pos (show (tT (tB b L) Nm).1 (i + 1) = 6 from k6)] at h9 ⊢
  try dsimp only at h9
  try dsimp only
  obtain ⟨x1, M2, x2, x3, x4⟩ := m_ms (v := 91) (s := 6) rfl (by decide) T1.1.1 (by omega) k48 T1.1.2.1 k6
  rw [x2]
  refine mq0 x1 rfl ?_
  try dsimp only
  have T2 := mT_f T1 x4 (Or.inl x3)
  have F2 := mG_1 F1 x4
  have s2 := tEnd_s (bE_T hE Nm) s1 (show tK b L (i + 1) < 45 by omega)
  unfold pMo_single_175 fMo_single_175
  by_cases d4 : d < 40
  rotate_left
  · have x := m_nest1 T2.1.1 (by omega) T2.1.2.1 (show 40 ≤ d by omega) (by omega)
    rw [sF_deep (Or.inl rfl) (by omega) (b9 h9), sp_b1 (show ¬ (sp_fail 4 (i + 1 + 1)).1 = 0 by show ¬ (4 : Nat) = 0; decide)]
    exact mq1 x.1 (by rw [x.2.1]; decide) (MF_f (by decide) x.2.1 x.2.2.1 (mw_t (mG_w F2) x.2.2.2))
  have ns := m_nest0 (M := M2) d4
  rw [ns.2]
  refine mq0 ns.1 rfl ?_
  try dsimp only
  unfold pMo_single_180 fMo_single_180
  have u := hm 0 (d + 1) (i + 1 + 1) co N F M2 (by decide) (by omega) s2 hco (by omega) (by omega) (b9 h9) T2
  have ln := sp_lenF (bE_T hE Nm) m 0 (d + 1) (i + 1 + 1) co s2 hco
  generalize mf_F m 0 (nI (d + 1)) 0 M2 = q at u
  generalize sp_F (tT (tB b L) Nm) m 0 (d + 1) (i + 1 + 1) co = r at u ln h9 ⊢
  by_cases e1 : r.1 = 0
  rotate_left
  · rw [sp_b1 e1]
    have z := u.2.2 e1
    exact mq1 u.1 (by rw [z.1]; exact e9 e1 z.2.2.2) (MF_b e1 z.1 z.2.1 (mw_t (mG_w F2) z.2.2.1) z.2.2.2)
  rw [sp_b0 e1] at h9 ⊢
  have l1 := ln e1
  obtain ⟨z1, f, N', G, z2, z3, z4, z5, z6, z7, z8⟩ := u.2.1 e1
  refine mq0 u.1 z1 ?_
  clear u ln
  obtain ⟨re, rw', rj, rc, rC⟩ := r
  dsimp only at l1 z3 z4 z6 z7
  try dsimp only at h9
  try dsimp only
  have k48 : tK b L rj < 48 := hE.2.2.1 _ l1.2.2.1
  have F3 : mG N F.length M0 q.2.2.2 := mG_t F2 z8 (Nat.le_refl _) (Nat.le_refl _)
  unfold pMo_single_188 fMo_single_188
  rw [z2]
  by_cases k47 : tK b L rj = 47
  · have x := m_in_24f z3.1.1 (by omega) z3.1.2.1 k47
    rw [if_neg (show ¬ (tT (tB b L) Nm).1 rj = 36 from by show ¬ tK b L rj = 36; omega), noT47 _ _ k47]
    exact mq1 x.1 (by rw [x.2.1]; decide) (MF_f (by decide) x.2.1 x.2.2.1 (mw_t (mG_w F3) x.2.2.2))
  obtain ⟨v1, w, M4, v2, v3, v4⟩ := m_in_24 z3.1.1 (by omega) z3.1.2.1 k47
  rw [v2]
  refine mq0 v1 rfl ?_
  try dsimp only
  have T4 := mT_f z3 v4 (Or.inr v3)
  have F4 := mG_1 F3 v4
  unfold pMo_single_196 fMo_single_196
  by_cases k36 : tK b L rj = 36
  rotate_left
  · have cn := m_cant v3
    rw [if_neg (show ¬ (tT (tB b L) Nm).1 rj = 36 from k36), noT _ _ k47, if_neg k36]
    refine itp rfl ?_
    rw [cn.2]
    exact ⟨cn.1, MF_f (by decide) rfl rfl (mG_w F4)⟩
  rw [if_pos (show (tT (tB b L) Nm).1 rj = 36 from k36)] at h9 ⊢
  try dsimp only at h9
  try dsimp only
  rw [if_pos k36]
  refine itn (by decide) ?_
  obtain ⟨t1, M5, t2, t3, t4⟩ := m_take v3 (by omega)
  rw [t2]
  refine mq0 t1 rfl ?_
  try dsimp only
  have T5 := mT_f T4 t4 (Or.inl t3)
  have F5 := mG_1 F4 t4
  have s3 := tEnd_s (bE_T hE Nm) l1.2.2.1 (show tK b L rj < 45 by omega)
  unfold pMo_single_208 fMo_single_208
  have ns := m_nest0 (M := M5) d4
  rw [ns.2]
  refine mq0 ns.1 rfl ?_
  try dsimp only
  unfold pMo_single_214 fMo_single_214
  have hl : (F ++ G).length ≤ rj := by rw [List.length_append]; omega
  have u := hm 0 (d + 1) (rj + 1) rc N' (F ++ G) M5 (by decide) (by omega) s3 l1.2.2.2.2.1 (by omega) (by omega) (b9 h9) T5
  have ln := sp_lenF (bE_T hE Nm) m 0 (d + 1) (rj + 1) rc s3 l1.2.2.2.2.1
  generalize mf_F m 0 (nI (d + 1)) 0 M5 = q2 at u
  generalize sp_F (tT (tB b L) Nm) m 0 (d + 1) (rj + 1) rc = r2 at u ln h9 ⊢
  by_cases e2 : r2.1 = 0
  rotate_left
  · rw [sp_b1 e2]
    have z := u.2.2 e2
    exact mq1 u.1 (by rw [z.1]; exact e9 e2 z.2.2.2) (MF_b e2 z.1 z.2.1 (mw_t (mG_w F5) z.2.2.1) z.2.2.2)
  rw [sp_b0 e2]
  have l2 := ln e2
  obtain ⟨y1, f2, N2, G2, y2', y3', y4, y5, y6, y7, y8⟩ := u.2.1 e2
  refine mq0 u.1 y1 ?_
  clear u ln
  obtain ⟨r2e, r2w, r2j, r2c, r2C⟩ := r2
  dsimp only at l2 y3' y4 y6 y7 ⊢
  have k48 : tK b L r2j < 48 := hE.2.2.1 _ l2.2.2.1
  have F6 : mG N F.length M0 q2.2.2.2 := mG_t F5 y8 z5 (by rw [List.length_append]; omega)
  unfold pMo_single_217 fMo_single_217
  rw [y2']
  by_cases k7 : tK b L r2j = 7
  rotate_left
  · rw [if_neg (show ¬ (tT (tB b L) Nm).1 r2j = 7 from k7)]
    obtain ⟨x1, e, he, x2, x3, x4, x5⟩ := m_mf Nm (v := 93) (s := 7) rfl (by decide) y3'.1.1 (by omega) k48 y3'.1.2.1 k7
    rw [x5]
    exact mq1 x1 (by rw [x2]; exact e9 he.1 he.2) (MF_f he x2 x3 (mw_t (mG_w F6) x4))
  rw [if_pos (show (tT (tB b L) Nm).1 r2j = 7 from k7)]
  try dsimp only
  obtain ⟨x1, M7, x2, x3, x4⟩ := m_ms (v := 93) (s := 7) rfl (by decide) y3'.1.1 (by omega) k48 y3'.1.2.1 k7
  rw [x2]
  refine mq0 x1 rfl ?_
  try dsimp only
  have T7 := mT_f y3' x4 (Or.inl x3)
  have F7 := mG_1 F6 x4
  have hl2 : (F ++ G ++ G2).length ≤ r2j := by rw [List.length_append, List.length_append]; omega
  unfold pMo_single_225 fMo_single_225 pMo_single_238 fMo_single_238
  have fin : ∀ (h : Nat) (z : Int32), z = nI h → h ≠ 12 → (h, tK b L i) ∈ op2 → ((pMo_make z (nI f) (nI f2) M7) ∧ True) ∧ MF b L NL i N F M0 (sp_ok (r2j + 1) r2c (rC ++ (r2C ++ [(tK b L i, 0)]))) (0, 0, (fMo_make z (nI f) (nI f2) M7).1, (fMo_make z (nI f) (nI f2) M7).2) := by
    intro h z hz h12 ho
    subst hz
    obtain ⟨n1, M8, n2, n3, n4⟩ := m_make T7 (by omega) h f f2 [] (fun q => absurd q h12) (Or.inr (Or.inr (Or.inr ⟨(Fw_a G2 z4).1, y4.1, tK b L i, ho⟩)))
    rw [n2]
    have W4 := Fw_2 (h := h) (o := tK b L i) ho (Fw_a G2 z4) y4
    have ea : F ++ G ++ G2 ++ [(h, f, f2, [])] = F ++ (G ++ (G2 ++ [(h, f, f2, [])])) := by simp only [List.append_assoc]
    rw [ea] at n3 W4
    refine ⟨⟨n1, trivial⟩, fun _ => ⟨rfl, (F ++ G ++ G2).length, N2, G ++ (G2 ++ [(h, f, f2, [])]), rfl, n3, W4, by omega, ?_, ?_, ?_⟩, fun q => absurd rfl q⟩
    · show N2 + i ≤ N + (r2j + 1)
      omega
    · show (G ++ (G2 ++ [(h, f, f2, [])])).length + i ≤ r2j + 1
      simp only [List.length_append, List.length_cons, List.length_nil]; omega
    · exact mG_t F7 n4 (by omega) (by rw [List.length_append, List.length_append]; omega)
  by_cases k34 : tK b L i = 34
  · rw [if_pos k34]
    exact itn (by decide) (fin 7 7 rfl (by decide) (by rw [k34]; decide))
  · have k35 : tK b L i = 35 := by omega
    rw [if_neg k34]
    exact itp rfl (fin 6 6 rfl (by decide) (by rw [k35]; decide))
end
