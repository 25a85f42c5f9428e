/-! MODEL'S TOKENS 3: take, must, cant, nest, words, numbers, names -/
section
variable {b : Nat → Nat} {L : Nat}
theorem tok_wk {i p : Nat} (h : 29 ≤ (tok b L i p).1 ∧ (tok b L i p).1 ≤ 43) : (tok b L i p).1 = wkind b p (tok b L i p).2 := by
  unfold tok at h ⊢
  by_cases g1 : L ≤ p
  · rw [if_pos g1] at h; dsimp only at h; omega
  rw [if_neg g1] at h ⊢
  by_cases g2 : 4000 ≤ i
  · rw [if_pos g2] at h; dsimp only at h; omega
  rw [if_neg g2] at h ⊢
  by_cases g3 : isL (b p) = true
  · rw [if_pos g3] at h ⊢
    dsimp only at h ⊢
    by_cases g4 : rn isW b L 65537 p - p ≤ 31
    · rw [if_pos g4]
    · rw [if_neg g4] at h; omega
  rw [if_neg g3] at h ⊢
  by_cases g4 : isD (b p) = true
  · rw [if_pos g4] at h
    dsimp only at h
    by_cases g5 : rn isD b L 65537 p - p ≤ 9
    · rw [if_pos g5] at h; omega
    · rw [if_neg g5] at h; omega
  rw [if_neg g4] at h
  have := (sgn_sz (b p) (if L ≤ p + 1 then 0 else b (p + 1))).2.2.2.2
  omega
theorem m_pks {M : Mm} {i : Nat} (h : mQ b L i M) : pMo_peek 65537 65537 M ∧ fMo_peek 65537 65537 M = (0, 0, nI (mt (tK b L i)), M) := by
  have c : ¬ M 40 10 = 0 := by rw [h.1]; decide
  unfold pMo_peek fMo_peek
  rw [if_neg c, h.2.2.1]
  exact ⟨⟨fun q => absurd q c, fun _ => trivial⟩, rfl⟩
theorem m_take {M : Mm} {i : Nat} (h : mQ b L i M) (hk : tK b L i ≠ 45) : pMo_take M ∧ ∃ M', fMo_take M = (0, 0, M') ∧ mP b L (i + 1) M' ∧ mfr M M' := by
  have p := m_pks h
  unfold pMo_take fMo_take pMo_take_4 fMo_take_4
  rw [p.2]
  dsimp only
  refine ⟨⟨p.1, fun _ => trivial⟩, _, if_pos rfl, ⟨pm_u_s _ _ _ _, ?_, ?_⟩, mfr_u (mfr_u (mfr_r M) (by decide)) (by decide)⟩
  · rw [pm_u_j _ _ _ (by decide), pm_u_s, h.2.2.2.2.1, tP_s]
  · rw [pm_u_j _ _ _ (by decide), pm_u_j _ _ _ (by decide), h.2.2.2.2.2.1, if_neg hk]
theorem m_cant {M : Mm} {i : Nat} (h : mQ b L i M) : pMo_cant M ∧ fMo_cant M = (1, nI (tF b L i), M) := by
  have p := m_pks h
  unfold pMo_cant fMo_cant
  rw [p.2]
  dsimp only
  rw [h.2.2.2.1]
  exact ⟨p.1, if_pos rfl⟩
theorem mt_inj : ∀ k, k < 48 → ∀ s, s < 29 → k ≠ 47 → (nI (mt k) = nI (mt s) ↔ k = s) := by decide +kernel
theorem mt_1 : ∀ k, k < 48 → (nI (mt k) = 1 ↔ 29 ≤ k ∧ k ≤ 43) ∧ (k ≠ 47 → (nI (mt k) = 2 ↔ k = 44)) ∧ (nI (mt k) = 0 ↔ k = 45) := by decide +kernel
/-- peek from any standing: where it goes on, a memory in which the token is seen -/
theorem m_pk {M : Mm} {i : Nat} (hB : mBy M b L) (hi : i ≤ 4000) (h : mN b L i M) (hk : tK b L i ≠ 47) : ∃ M', pMo_peek 65537 65537 M ∧ fMo_peek 65537 65537 M = (0, (fMo_peek 65537 65537 M).2.1, nI (mt (tK b L i)), M') ∧ mQ b L i M' ∧ mfr M M' := by
  have p := m_peek hB hi h
  obtain ⟨q1, q2, q3, q4⟩ := p.2.2.2 hk
  refine ⟨_, p.1, ?_, q3, q4⟩
  rw [← q1, ← q2]
theorem m_pk47 {M : Mm} {i : Nat} (hB : mBy M b L) (hi : i ≤ 4000) (h : mN b L i M) (hk : tK b L i = 47) : pMo_peek 65537 65537 M ∧ (fMo_peek 65537 65537 M).1 = 4 ∧ (fMo_peek 65537 65537 M).2.1 = nI (tF b L i) ∧ mw M (fMo_peek 65537 65537 M).2.2.2 := by
  have p := m_peek hB hi h
  obtain ⟨q1, q2⟩ := p.2.2.1 hk
  exact ⟨p.1, q1, q2, p.2.1⟩
theorem noT (B : TT) (i : Nat) (h : B.1 i ≠ 47) : sp_no B i = sp_fail 1 i := if_neg h
theorem noT47 (B : TT) (i : Nat) (h : B.1 i = 47) : sp_no B i = sp_fail 4 i := if_pos h
theorem m_must {M : Mm} {i s : Nat} (hB : mBy M b L) (hi : i ≤ 4000) (hk48 : tK b L i < 48) (h : mN b L i M) (hs : s < 29) : pMo_must (nI (mt s)) M ∧ (tK b L i = s → ∃ M', fMo_must (nI (mt s)) M = (0, 0, M') ∧ mP b L (i + 1) M' ∧ mfr M M') ∧ (tK b L i ≠ s → (fMo_must (nI (mt s)) M).1 = (if tK b L i = 47 then 4 else 1) ∧ (fMo_must (nI (mt s)) M).2.1 = nI (tF b L i) ∧ mw M (fMo_must (nI (mt s)) M).2.2) := by
  unfold pMo_must fMo_must
  by_cases k47 : tK b L i = 47
  · have p := m_pk47 hB hi h k47
    have c : ¬ (fMo_peek 65537 65537 M).1 = 0 := by rw [p.2.1]; decide
    rw [if_neg c]
    exact ⟨⟨p.1, fun q => absurd q c⟩, fun q => by omega, fun _ => ⟨by rw [if_pos k47]; exact p.2.1, p.2.2.1, p.2.2.2⟩⟩
  obtain ⟨M1, p1, p2, p3, p4⟩ := m_pk hB hi h k47
  rw [p2, if_pos rfl]
  unfold pMo_must_4 fMo_must_4
  have inj := mt_inj _ hk48 s hs k47
  by_cases e : tK b L i = s
  · obtain ⟨t1, M2, t2, t3, t4⟩ := m_take p3 (by omega)
    have c := inj.mpr e
    rw [if_pos c, t2, if_pos rfl]
    exact ⟨⟨p1, fun _ => ⟨fun _ => ⟨t1, fun _ => trivial⟩, fun q => absurd c q⟩⟩, fun _ => ⟨M2, rfl, t3, mfr_t p4 t4⟩, fun q => absurd e q⟩
  · have c : ¬ nI (mt (tK b L i)) = nI (mt s) := fun q => e (inj.mp q)
    have cn := m_cant p3
    rw [if_neg c, cn.2]
    exact ⟨⟨p1, fun _ => ⟨fun q => absurd q c, fun _ => cn.1⟩⟩, fun q => absurd q e, fun _ => ⟨by rw [if_neg k47], rfl, mfr_w p4⟩⟩
theorem m_nest0 {M : Mm} {d : Nat} (hd : d < 40) : pMo_nest (nI d) M ∧ fMo_nest (nI d) M = (0, 0, nI (d + 1), M) := by
  have c : ¬ (40 : Int32) ≤ nI d := nI_ge (a := d) (b := 40) hd (by decide)
  unfold pMo_nest fMo_nest
  rw [if_neg c, nI_1]
  exact ⟨⟨fun q => absurd q c, fun _ => trivial⟩, rfl⟩
theorem m_nest1 {M : Mm} {d i : Nat} (hB : mBy M b L) (hi : i ≤ 4000) (h : mN b L i M) (hd : 40 ≤ d) (hd2 : d < 2 ^ 31) : pMo_nest (nI d) M ∧ (fMo_nest (nI d) M).1 = 4 ∧ (fMo_nest (nI d) M).2.1 = nI (tF b L i) ∧ mw M (fMo_nest (nI d) M).2.2.2 := by
  have c : (40 : Int32) ≤ nI d := nI_le (a := 40) (b := d) hd hd2
  unfold pMo_nest fMo_nest pMo_nest_14 fMo_nest_14
  rw [if_pos c]
  by_cases k47 : tK b L i = 47
  · have p := m_pk47 hB hi h k47
    have c0 : ¬ (fMo_peek 65537 65537 M).1 = 0 := by rw [p.2.1]; decide
    rw [if_neg c0]
    exact ⟨⟨fun _ => ⟨p.1, fun _ => trivial⟩, fun q => absurd c q⟩, p.2.1, p.2.2.1, p.2.2.2⟩
  · obtain ⟨M1, p1, p2, p3, p4⟩ := m_pk hB hi h k47
    rw [p2, if_pos rfl]
    exact ⟨⟨fun _ => ⟨p1, fun _ => trivial⟩, fun q => absurd c q⟩, rfl, p3.2.2.2.1, mfr_w p4⟩
theorem m_pay0 {M : Mm} {co p : Nat} (h : M 40 11 = nI co) (hp : co + p ≤ 3000) : pMo_pays (nI p) M ∧ fMo_pays (nI p) M = (0, 0, pm_u M 40 11 (nI (co + p))) := by
  have c : nI (co + p) ≤ (3000 : Int32) := nI_le (a := co + p) (b := 3000) hp (by decide)
  unfold pMo_pays fMo_pays
  rw [h, nI_add, if_pos c]
  exact ⟨⟨fun _ => trivial, fun _ => trivial⟩, rfl⟩
theorem m_pay1 {M : Mm} {co p i : Nat} (h : M 40 11 = nI co) (hq : mQ b L i M) (hp : ¬ co + p ≤ 3000) (hp2 : co + p < 2 ^ 31) : pMo_pays (nI p) M ∧ (fMo_pays (nI p) M).1 = 4 ∧ (fMo_pays (nI p) M).2.1 = nI (tF b L i) ∧ mw M (fMo_pays (nI p) M).2.2 := by
  have c : ¬ nI (co + p) ≤ (3000 : Int32) := nI_ge (a := 3000) (b := co + p) (by omega) hp2
  unfold pMo_pays fMo_pays
  rw [h, nI_add, if_neg c]
  exact ⟨⟨fun _ => trivial, fun _ => trivial⟩, rfl, hq.2.2.2.1, fun a ha => pm_u_n _ _ _ (by omega)⟩
theorem wki_17 (p z : Nat) (hz : 0 < z) : wkind b p z = 29 ↔ z = 3 ∧ eqw b p [114, 101, 103] = true := by
  unfold wkind wkS wkL
  simp only [eqw, Bool.and_eq_true, decide_eq_true_eq, and_true]
  repeat' split
  all_goals omega
theorem m_ch_17 : ∀ j, j < 3 → pSg_charAt_17 (nI j) ∧ fSg_charAt_17 (nI j) = nI ([114, 101, 103].getD j 0) := by
  intro j hj
  have e := (show ∀ j, j < 3 → fSg_charAt_17 (nI j) = nI ([114, 101, 103].getD j 0) by decide +kernel) j hj
  have h9 := (show ∀ j, j < 3 → [114, 101, 103].getD j 0 < 256 by decide) j hj
  have en : narrow .char (.int (fSg_charAt_17 (nI j))) = .int (fSg_charAt_17 (nI j)) := by rw [e]; exact nar_c h9
  exact ⟨⟨trivial, ⟨ckI hj (by decide), vp_in_nI hj (by decide), en⟩, en⟩, e⟩
theorem m_iw_17 {M : Mm} {p : Nat} (hB : mBy M b L) (h7 : M 40 7 = nI p) (hp : p + 3 ≤ L) : ∀ (k j : Nat) (w : List Nat), j + w.length = 3 → w = [114, 101, 103].drop j → w.length < k → pMo_is_17_28 k (nI j) M ∧ fMo_is_17_28 k (nI j) M = (0, 0, if eqw b (p + j) w = true then 1 else 0, M) := by
  have hl := hB.2.1
  have el : fSg_length_17 = nI 3 := (show (3 : Int32) >>> ((0 : Int32) &&& 31) = nI 3 by decide)
  intro k
  induction k with
  | zero => intro j w _ _ hk; omega
  | succ k ih =>
    intro j w hj hw hk
    rw [pMo_is_17_28.eq_2, fMo_is_17_28.eq_2, el]
    cases w with
    | nil =>
      have c : nI 3 ≤ nI j := nI_le (by simp only [List.length_nil] at hj; omega) (by simp only [List.length_nil] at hj; omega)
      rw [if_pos c]
      exact ⟨⟨⟨trivial, trivial⟩, fun _ => trivial, fun q => absurd c q⟩, rfl⟩
    | cons x w =>
      simp only [List.length_cons] at hj hk
      have c : ¬ nI 3 ≤ nI j := nI_ge (by omega) (by decide)
      have bb := hB.2.2.1 (p + j) (by omega)
      have ch := m_ch_17 j (by omega)
      have hx : [114, 101, 103].getD j 0 = x := by
        have := congrArg (fun l : List Nat => l.head?) hw
        simp only [List.head?_cons, List.head?_drop] at this
        rw [List.getD_eq_getElem?_getD, ← this]; rfl
      have hw2 : w = [114, 101, 103].drop (j + 1) := by
        have := congrArg List.tail hw
        rw [List.tail_drop] at this
        exact this
      have hx9 : x < 128 := by rw [← hx]; exact (show ∀ j, j < 3 → [114, 101, 103].getD j 0 < 128 by decide) j (by omega)
      rw [hx] at ch
      have i2 := ih (j + 1) w (by omega) hw2 (by omega)
      rw [if_neg c, h7, nI_add, nI_clamp (by omega), bb.1, ch.2, nI_i1]
      have v := vp_in_nI (n := p + j) (N := 65536) (by omega) (by decide)
      have se := sbE bb.2 hx9
      unfold eqw
      by_cases e : b (p + j) = x
      · rw [if_pos (se.mpr e), decide_eq_true e, Bool.true_and]
        exact ⟨⟨⟨trivial, trivial⟩, fun q => absurd q c, fun _ => ⟨v, ch.1, fun _ => i2.1, fun q => absurd (se.mpr e) q⟩⟩, i2.2⟩
      · have e' : ¬ sb (b (p + j)) = nI x := fun q => e (se.mp q)
        rw [if_neg e', decide_eq_false e, Bool.false_and]
        exact ⟨⟨⟨trivial, trivial⟩, fun q => absurd q c, fun _ => ⟨v, ch.1, fun q => absurd q e', fun _ => trivial⟩⟩, rfl⟩
theorem m_is_17 {M : Mm} {i : Nat} (hB : mBy M b L) (h : mQ b L i M) : pMo_is_17 32 M ∧ fMo_is_17 32 M = (0, 0, if tK b L i = 29 then 1 else 0, M) := by
  have hb := fun q hq => (hB.2.2.1 q hq).2
  have hl := hB.2.1
  have tin := tok_in (i := i) hb (tF_le hb i)
  have k48 : tK b L i < 48 := tin.2.1
  have zin : tF b L i + tZ b L i ≤ L := tin.1
  have p := m_pks h
  have el : fSg_length_17 = nI 3 := (show (3 : Int32) >>> ((0 : Int32) &&& 31) = nI 3 by decide)
  unfold pMo_is_17 fMo_is_17
  rw [p.2, if_pos rfl]
  dsimp only
  refine (fun (z : _ ∧ _) => ⟨⟨p.1, fun _ => z.1⟩, z.2⟩) ?_
  unfold pMo_is_17_4 fMo_is_17_4 pMo_is_17_24 fMo_is_17_24
  by_cases c1 : 29 ≤ tK b L i ∧ tK b L i ≤ 43
  rotate_left
  · have n1 : ¬ nI (mt (tK b L i)) = 1 := fun q => c1 ((mt_1 _ k48).1.mp q)
    rw [if_neg n1, if_neg (by omega)]
    exact ⟨⟨fun q => absurd q n1, fun _ => trivial⟩, rfl⟩
  have n1 : nI (mt (tK b L i)) = 1 := (mt_1 _ k48).1.mpr c1
  have wk : tK b L i = wkind b (tF b L i) (tZ b L i) := tok_wk c1
  have wi := wki_17 (b := b) (tF b L i) (tZ b L i) (tin.2.2.1 (show tK b L i < 45 by omega))
  rw [if_pos n1, h.2.2.2.2.1, h.2.2.2.1, pk_sub (by omega), Nat.add_sub_cancel_left, el]
  refine (fun (z : _ ∧ _) => ⟨⟨fun _ => ⟨⟨trivial, trivial⟩, z.1⟩, fun q => absurd n1 q⟩, z.2⟩) ?_
  by_cases c2 : tZ b L i = 3
  · have x := m_iw_17 hB h.2.2.2.1 (by omega) 32 0 [114, 101, 103] rfl rfl (by decide)
    rw [nI_0, Nat.add_zero] at x
    have c2' : nI (tZ b L i) = nI 3 := by rw [c2]
    rw [if_pos c2', x.2]
    refine ⟨⟨fun _ => x.1, fun q => absurd c2' q⟩, ?_⟩
    by_cases e : eqw b (tF b L i) [114, 101, 103] = true
    · rw [if_pos e, if_pos (wk.trans (wi.mpr ⟨c2, e⟩))]
    · rw [if_neg e, if_neg (fun q => e (wi.mp (wk.symm.trans q)).2)]
  · have c2' : ¬ nI (tZ b L i) = nI 3 := fun q => c2 ((nI_eq (by omega) (by decide)).mp q)
    rw [if_neg c2', if_neg (fun q => c2 (wi.mp (wk.symm.trans q)).1)]
    exact ⟨⟨fun q => absurd q c2', fun _ => trivial⟩, rfl⟩
theorem wki_18 (p z : Nat) (hz : 0 < z) : wkind b p z = 30 ↔ z = 5 ∧ eqw b p [105, 110, 112, 117, 116] = true := by
  unfold wkind wkS wkL
  simp only [eqw, Bool.and_eq_true, decide_eq_true_eq, and_true]
  repeat' split
  all_goals omega
theorem m_ch_18 : ∀ j, j < 5 → pSg_charAt_18 (nI j) ∧ fSg_charAt_18 (nI j) = nI ([105, 110, 112, 117, 116].getD j 0) := by
  intro j hj
  have e := (show ∀ j, j < 5 → fSg_charAt_18 (nI j) = nI ([105, 110, 112, 117, 116].getD j 0) by decide +kernel) j hj
  have h9 := (show ∀ j, j < 5 → [105, 110, 112, 117, 116].getD j 0 < 256 by decide) j hj
  have en : narrow .char (.int (fSg_charAt_18 (nI j))) = .int (fSg_charAt_18 (nI j)) := by rw [e]; exact nar_c h9
  exact ⟨⟨trivial, ⟨ckI hj (by decide), vp_in_nI hj (by decide), en⟩, en⟩, e⟩
theorem m_iw_18 {M : Mm} {p : Nat} (hB : mBy M b L) (h7 : M 40 7 = nI p) (hp : p + 5 ≤ L) : ∀ (k j : Nat) (w : List Nat), j + w.length = 5 → w = [105, 110, 112, 117, 116].drop j → w.length < k → pMo_is_18_28 k (nI j) M ∧ fMo_is_18_28 k (nI j) M = (0, 0, if eqw b (p + j) w = true then 1 else 0, M) := by
  have hl := hB.2.1
  have el : fSg_length_18 = nI 5 := (show (5 : Int32) >>> ((0 : Int32) &&& 31) = nI 5 by decide)
  intro k
  induction k with
  | zero => intro j w _ _ hk; omega
  | succ k ih =>
    intro j w hj hw hk
    rw [pMo_is_18_28.eq_2, fMo_is_18_28.eq_2, el]
    cases w with
    | nil =>
      have c : nI 5 ≤ nI j := nI_le (by simp only [List.length_nil] at hj; omega) (by simp only [List.length_nil] at hj; omega)
      rw [if_pos c]
      exact ⟨⟨⟨trivial, trivial⟩, fun _ => trivial, fun q => absurd c q⟩, rfl⟩
    | cons x w =>
      simp only [List.length_cons] at hj hk
      have c : ¬ nI 5 ≤ nI j := nI_ge (by omega) (by decide)
      have bb := hB.2.2.1 (p + j) (by omega)
      have ch := m_ch_18 j (by omega)
      have hx : [105, 110, 112, 117, 116].getD j 0 = x := by
        have := congrArg (fun l : List Nat => l.head?) hw
        simp only [List.head?_cons, List.head?_drop] at this
        rw [List.getD_eq_getElem?_getD, ← this]; rfl
      have hw2 : w = [105, 110, 112, 117, 116].drop (j + 1) := by
        have := congrArg List.tail hw
        rw [List.tail_drop] at this
        exact this
      have hx9 : x < 128 := by rw [← hx]; exact (show ∀ j, j < 5 → [105, 110, 112, 117, 116].getD j 0 < 128 by decide) j (by omega)
      rw [hx] at ch
      have i2 := ih (j + 1) w (by omega) hw2 (by omega)
      rw [if_neg c, h7, nI_add, nI_clamp (by omega), bb.1, ch.2, nI_i1]
      have v := vp_in_nI (n := p + j) (N := 65536) (by omega) (by decide)
      have se := sbE bb.2 hx9
      unfold eqw
      by_cases e : b (p + j) = x
      · rw [if_pos (se.mpr e), decide_eq_true e, Bool.true_and]
        exact ⟨⟨⟨trivial, trivial⟩, fun q => absurd q c, fun _ => ⟨v, ch.1, fun _ => i2.1, fun q => absurd (se.mpr e) q⟩⟩, i2.2⟩
      · have e' : ¬ sb (b (p + j)) = nI x := fun q => e (se.mp q)
        rw [if_neg e', decide_eq_false e, Bool.false_and]
        exact ⟨⟨⟨trivial, trivial⟩, fun q => absurd q c, fun _ => ⟨v, ch.1, fun q => absurd q e', fun _ => trivial⟩⟩, rfl⟩
theorem m_is_18 {M : Mm} {i : Nat} (hB : mBy M b L) (h : mQ b L i M) : pMo_is_18 32 M ∧ fMo_is_18 32 M = (0, 0, if tK b L i = 30 then 1 else 0, M) := by
  have hb := fun q hq => (hB.2.2.1 q hq).2
  have hl := hB.2.1
  have tin := tok_in (i := i) hb (tF_le hb i)
  have k48 : tK b L i < 48 := tin.2.1
  have zin : tF b L i + tZ b L i ≤ L := tin.1
  have p := m_pks h
  have el : fSg_length_18 = nI 5 := (show (5 : Int32) >>> ((0 : Int32) &&& 31) = nI 5 by decide)
  unfold pMo_is_18 fMo_is_18
  rw [p.2, if_pos rfl]
  dsimp only
  refine (fun (z : _ ∧ _) => ⟨⟨p.1, fun _ => z.1⟩, z.2⟩) ?_
  unfold pMo_is_18_4 fMo_is_18_4 pMo_is_18_24 fMo_is_18_24
  by_cases c1 : 29 ≤ tK b L i ∧ tK b L i ≤ 43
  rotate_left
  · have n1 : ¬ nI (mt (tK b L i)) = 1 := fun q => c1 ((mt_1 _ k48).1.mp q)
    rw [if_neg n1, if_neg (by omega)]
    exact ⟨⟨fun q => absurd q n1, fun _ => trivial⟩, rfl⟩
  have n1 : nI (mt (tK b L i)) = 1 := (mt_1 _ k48).1.mpr c1
  have wk : tK b L i = wkind b (tF b L i) (tZ b L i) := tok_wk c1
  have wi := wki_18 (b := b) (tF b L i) (tZ b L i) (tin.2.2.1 (show tK b L i < 45 by omega))
  rw [if_pos n1, h.2.2.2.2.1, h.2.2.2.1, pk_sub (by omega), Nat.add_sub_cancel_left, el]
  refine (fun (z : _ ∧ _) => ⟨⟨fun _ => ⟨⟨trivial, trivial⟩, z.1⟩, fun q => absurd n1 q⟩, z.2⟩) ?_
  by_cases c2 : tZ b L i = 5
  · have x := m_iw_18 hB h.2.2.2.1 (by omega) 32 0 [105, 110, 112, 117, 116] rfl rfl (by decide)
    rw [nI_0, Nat.add_zero] at x
    have c2' : nI (tZ b L i) = nI 5 := by rw [c2]
    rw [if_pos c2', x.2]
    refine ⟨⟨fun _ => x.1, fun q => absurd c2' q⟩, ?_⟩
    by_cases e : eqw b (tF b L i) [105, 110, 112, 117, 116] = true
    · rw [if_pos e, if_pos (wk.trans (wi.mpr ⟨c2, e⟩))]
    · rw [if_neg e, if_neg (fun q => e (wi.mp (wk.symm.trans q)).2)]
  · have c2' : ¬ nI (tZ b L i) = nI 5 := fun q => c2 ((nI_eq (by omega) (by decide)).mp q)
    rw [if_neg c2', if_neg (fun q => c2 (wi.mp (wk.symm.trans q)).1)]
    exact ⟨⟨fun q => absurd q c2', fun _ => trivial⟩, rfl⟩
theorem wki_19 (p z : Nat) (hz : 0 < z) : wkind b p z = 31 ↔ z = 4 ∧ eqw b p [119, 105, 114, 101] = true := by
  unfold wkind wkS wkL
  simp only [eqw, Bool.and_eq_true, decide_eq_true_eq, and_true]
  repeat' split
  all_goals omega
theorem m_ch_19 : ∀ j, j < 4 → pSg_charAt_19 (nI j) ∧ fSg_charAt_19 (nI j) = nI ([119, 105, 114, 101].getD j 0) := by
  intro j hj
  have e := (show ∀ j, j < 4 → fSg_charAt_19 (nI j) = nI ([119, 105, 114, 101].getD j 0) by decide +kernel) j hj
  have h9 := (show ∀ j, j < 4 → [119, 105, 114, 101].getD j 0 < 256 by decide) j hj
  have en : narrow .char (.int (fSg_charAt_19 (nI j))) = .int (fSg_charAt_19 (nI j)) := by rw [e]; exact nar_c h9
  exact ⟨⟨trivial, ⟨ckI hj (by decide), vp_in_nI hj (by decide), en⟩, en⟩, e⟩
theorem m_iw_19 {M : Mm} {p : Nat} (hB : mBy M b L) (h7 : M 40 7 = nI p) (hp : p + 4 ≤ L) : ∀ (k j : Nat) (w : List Nat), j + w.length = 4 → w = [119, 105, 114, 101].drop j → w.length < k → pMo_is_19_28 k (nI j) M ∧ fMo_is_19_28 k (nI j) M = (0, 0, if eqw b (p + j) w = true then 1 else 0, M) := by
  have hl := hB.2.1
  have el : fSg_length_19 = nI 4 := (show (4 : Int32) >>> ((0 : Int32) &&& 31) = nI 4 by decide)
  intro k
  induction k with
  | zero => intro j w _ _ hk; omega
  | succ k ih =>
    intro j w hj hw hk
    rw [pMo_is_19_28.eq_2, fMo_is_19_28.eq_2, el]
    cases w with
    | nil =>
      have c : nI 4 ≤ nI j := nI_le (by simp only [List.length_nil] at hj; omega) (by simp only [List.length_nil] at hj; omega)
      rw [if_pos c]
      exact ⟨⟨⟨trivial, trivial⟩, fun _ => trivial, fun q => absurd c q⟩, rfl⟩
    | cons x w =>
      simp only [List.length_cons] at hj hk
      have c : ¬ nI 4 ≤ nI j := nI_ge (by omega) (by decide)
      have bb := hB.2.2.1 (p + j) (by omega)
      have ch := m_ch_19 j (by omega)
      have hx : [119, 105, 114, 101].getD j 0 = x := by
        have := congrArg (fun l : List Nat => l.head?) hw
        simp only [List.head?_cons, List.head?_drop] at this
        rw [List.getD_eq_getElem?_getD, ← this]; rfl
      have hw2 : w = [119, 105, 114, 101].drop (j + 1) := by
        have := congrArg List.tail hw
        rw [List.tail_drop] at this
        exact this
      have hx9 : x < 128 := by rw [← hx]; exact (show ∀ j, j < 4 → [119, 105, 114, 101].getD j 0 < 128 by decide) j (by omega)
      rw [hx] at ch
      have i2 := ih (j + 1) w (by omega) hw2 (by omega)
      rw [if_neg c, h7, nI_add, nI_clamp (by omega), bb.1, ch.2, nI_i1]
      have v := vp_in_nI (n := p + j) (N := 65536) (by omega) (by decide)
      have se := sbE bb.2 hx9
      unfold eqw
      by_cases e : b (p + j) = x
      · rw [if_pos (se.mpr e), decide_eq_true e, Bool.true_and]
        exact ⟨⟨⟨trivial, trivial⟩, fun q => absurd q c, fun _ => ⟨v, ch.1, fun _ => i2.1, fun q => absurd (se.mpr e) q⟩⟩, i2.2⟩
      · have e' : ¬ sb (b (p + j)) = nI x := fun q => e (se.mp q)
        rw [if_neg e', decide_eq_false e, Bool.false_and]
        exact ⟨⟨⟨trivial, trivial⟩, fun q => absurd q c, fun _ => ⟨v, ch.1, fun q => absurd q e', fun _ => trivial⟩⟩, rfl⟩
theorem m_is_19 {M : Mm} {i : Nat} (hB : mBy M b L) (h : mQ b L i M) : pMo_is_19 32 M ∧ fMo_is_19 32 M = (0, 0, if tK b L i = 31 then 1 else 0, M) := by
  have hb := fun q hq => (hB.2.2.1 q hq).2
  have hl := hB.2.1
  have tin := tok_in (i := i) hb (tF_le hb i)
  have k48 : tK b L i < 48 := tin.2.1
  have zin : tF b L i + tZ b L i ≤ L := tin.1
  have p := m_pks h
  have el : fSg_length_19 = nI 4 := (show (4 : Int32) >>> ((0 : Int32) &&& 31) = nI 4 by decide)
  unfold pMo_is_19 fMo_is_19
  rw [p.2, if_pos rfl]
  dsimp only
  refine (fun (z : _ ∧ _) => ⟨⟨p.1, fun _ => z.1⟩, z.2⟩) ?_
  unfold pMo_is_19_4 fMo_is_19_4 pMo_is_19_24 fMo_is_19_24
  by_cases c1 : 29 ≤ tK b L i ∧ tK b L i ≤ 43
  rotate_left
  · have n1 : ¬ nI (mt (tK b L i)) = 1 := fun q => c1 ((mt_1 _ k48).1.mp q)
    rw [if_neg n1, if_neg (by omega)]
    exact ⟨⟨fun q => absurd q n1, fun _ => trivial⟩, rfl⟩
  have n1 : nI (mt (tK b L i)) = 1 := (mt_1 _ k48).1.mpr c1
  have wk : tK b L i = wkind b (tF b L i) (tZ b L i) := tok_wk c1
  have wi := wki_19 (b := b) (tF b L i) (tZ b L i) (tin.2.2.1 (show tK b L i < 45 by omega))
  rw [if_pos n1, h.2.2.2.2.1, h.2.2.2.1, pk_sub (by omega), Nat.add_sub_cancel_left, el]
  refine (fun (z : _ ∧ _) => ⟨⟨fun _ => ⟨⟨trivial, trivial⟩, z.1⟩, fun q => absurd n1 q⟩, z.2⟩) ?_
  by_cases c2 : tZ b L i = 4
  · have x := m_iw_19 hB h.2.2.2.1 (by omega) 32 0 [119, 105, 114, 101] rfl rfl (by decide)
    rw [nI_0, Nat.add_zero] at x
    have c2' : nI (tZ b L i) = nI 4 := by rw [c2]
    rw [if_pos c2', x.2]
    refine ⟨⟨fun _ => x.1, fun q => absurd c2' q⟩, ?_⟩
    by_cases e : eqw b (tF b L i) [119, 105, 114, 101] = true
    · rw [if_pos e, if_pos (wk.trans (wi.mpr ⟨c2, e⟩))]
    · rw [if_neg e, if_neg (fun q => e (wi.mp (wk.symm.trans q)).2)]
  · have c2' : ¬ nI (tZ b L i) = nI 4 := fun q => c2 ((nI_eq (by omega) (by decide)).mp q)
    rw [if_neg c2', if_neg (fun q => c2 (wi.mp (wk.symm.trans q)).1)]
    exact ⟨⟨fun q => absurd q c2', fun _ => trivial⟩, rfl⟩
theorem wki_20 (p z : Nat) (hz : 0 < z) : wkind b p z = 32 ↔ z = 4 ∧ eqw b p [110, 101, 120, 116] = true := by
  unfold wkind wkS wkL
  simp only [eqw, Bool.and_eq_true, decide_eq_true_eq, and_true]
  repeat' split
  all_goals omega
theorem m_ch_20 : ∀ j, j < 4 → pSg_charAt_20 (nI j) ∧ fSg_charAt_20 (nI j) = nI ([110, 101, 120, 116].getD j 0) := by
  intro j hj
  have e := (show ∀ j, j < 4 → fSg_charAt_20 (nI j) = nI ([110, 101, 120, 116].getD j 0) by decide +kernel) j hj
  have h9 := (show ∀ j, j < 4 → [110, 101, 120, 116].getD j 0 < 256 by decide) j hj
  have en : narrow .char (.int (fSg_charAt_20 (nI j))) = .int (fSg_charAt_20 (nI j)) := by rw [e]; exact nar_c h9
  exact ⟨⟨trivial, ⟨ckI hj (by decide), vp_in_nI hj (by decide), en⟩, en⟩, e⟩
theorem m_iw_20 {M : Mm} {p : Nat} (hB : mBy M b L) (h7 : M 40 7 = nI p) (hp : p + 4 ≤ L) : ∀ (k j : Nat) (w : List Nat), j + w.length = 4 → w = [110, 101, 120, 116].drop j → w.length < k → pMo_is_20_28 k (nI j) M ∧ fMo_is_20_28 k (nI j) M = (0, 0, if eqw b (p + j) w = true then 1 else 0, M) := by
  have hl := hB.2.1
  have el : fSg_length_20 = nI 4 := (show (4 : Int32) >>> ((0 : Int32) &&& 31) = nI 4 by decide)
  intro k
  induction k with
  | zero => intro j w _ _ hk; omega
  | succ k ih =>
    intro j w hj hw hk
    rw [pMo_is_20_28.eq_2, fMo_is_20_28.eq_2, el]
    cases w with
    | nil =>
      have c : nI 4 ≤ nI j := nI_le (by simp only [List.length_nil] at hj; omega) (by simp only [List.length_nil] at hj; omega)
      rw [if_pos c]
      exact ⟨⟨⟨trivial, trivial⟩, fun _ => trivial, fun q => absurd c q⟩, rfl⟩
    | cons x w =>
      simp only [List.length_cons] at hj hk
      have c : ¬ nI 4 ≤ nI j := nI_ge (by omega) (by decide)
      have bb := hB.2.2.1 (p + j) (by omega)
      have ch := m_ch_20 j (by omega)
      have hx : [110, 101, 120, 116].getD j 0 = x := by
        have := congrArg (fun l : List Nat => l.head?) hw
        simp only [List.head?_cons, List.head?_drop] at this
        rw [List.getD_eq_getElem?_getD, ← this]; rfl
      have hw2 : w = [110, 101, 120, 116].drop (j + 1) := by
        have := congrArg List.tail hw
        rw [List.tail_drop] at this
        exact this
      have hx9 : x < 128 := by rw [← hx]; exact (show ∀ j, j < 4 → [110, 101, 120, 116].getD j 0 < 128 by decide) j (by omega)
      rw [hx] at ch
      have i2 := ih (j + 1) w (by omega) hw2 (by omega)
      rw [if_neg c, h7, nI_add, nI_clamp (by omega), bb.1, ch.2, nI_i1]
      have v := vp_in_nI (n := p + j) (N := 65536) (by omega) (by decide)
      have se := sbE bb.2 hx9
      unfold eqw
      by_cases e : b (p + j) = x
      · rw [if_pos (se.mpr e), decide_eq_true e, Bool.true_and]
        exact ⟨⟨⟨trivial, trivial⟩, fun q => absurd q c, fun _ => ⟨v, ch.1, fun _ => i2.1, fun q => absurd (se.mpr e) q⟩⟩, i2.2⟩
      · have e' : ¬ sb (b (p + j)) = nI x := fun q => e (se.mp q)
        rw [if_neg e', decide_eq_false e, Bool.false_and]
        exact ⟨⟨⟨trivial, trivial⟩, fun q => absurd q c, fun _ => ⟨v, ch.1, fun q => absurd q e', fun _ => trivial⟩⟩, rfl⟩
theorem m_is_20 {M : Mm} {i : Nat} (hB : mBy M b L) (h : mQ b L i M) : pMo_is_20 32 M ∧ fMo_is_20 32 M = (0, 0, if tK b L i = 32 then 1 else 0, M) := by
  have hb := fun q hq => (hB.2.2.1 q hq).2
  have hl := hB.2.1
  have tin := tok_in (i := i) hb (tF_le hb i)
  have k48 : tK b L i < 48 := tin.2.1
  have zin : tF b L i + tZ b L i ≤ L := tin.1
  have p := m_pks h
  have el : fSg_length_20 = nI 4 := (show (4 : Int32) >>> ((0 : Int32) &&& 31) = nI 4 by decide)
  unfold pMo_is_20 fMo_is_20
  rw [p.2, if_pos rfl]
  dsimp only
  refine (fun (z : _ ∧ _) => ⟨⟨p.1, fun _ => z.1⟩, z.2⟩) ?_
  unfold pMo_is_20_4 fMo_is_20_4 pMo_is_20_24 fMo_is_20_24
  by_cases c1 : 29 ≤ tK b L i ∧ tK b L i ≤ 43
  rotate_left
  · have n1 : ¬ nI (mt (tK b L i)) = 1 := fun q => c1 ((mt_1 _ k48).1.mp q)
    rw [if_neg n1, if_neg (by omega)]
    exact ⟨⟨fun q => absurd q n1, fun _ => trivial⟩, rfl⟩
  have n1 : nI (mt (tK b L i)) = 1 := (mt_1 _ k48).1.mpr c1
  have wk : tK b L i = wkind b (tF b L i) (tZ b L i) := tok_wk c1
  have wi := wki_20 (b := b) (tF b L i) (tZ b L i) (tin.2.2.1 (show tK b L i < 45 by omega))
  rw [if_pos n1, h.2.2.2.2.1, h.2.2.2.1, pk_sub (by omega), Nat.add_sub_cancel_left, el]
  refine (fun (z : _ ∧ _) => ⟨⟨fun _ => ⟨⟨trivial, trivial⟩, z.1⟩, fun q => absurd n1 q⟩, z.2⟩) ?_
  by_cases c2 : tZ b L i = 4
  · have x := m_iw_20 hB h.2.2.2.1 (by omega) 32 0 [110, 101, 120, 116] rfl rfl (by decide)
    rw [nI_0, Nat.add_zero] at x
    have c2' : nI (tZ b L i) = nI 4 := by rw [c2]
    rw [if_pos c2', x.2]
    refine ⟨⟨fun _ => x.1, fun q => absurd c2' q⟩, ?_⟩
    by_cases e : eqw b (tF b L i) [110, 101, 120, 116] = true
    · rw [if_pos e, if_pos (wk.trans (wi.mpr ⟨c2, e⟩))]
    · rw [if_neg e, if_neg (fun q => e (wi.mp (wk.symm.trans q)).2)]
  · have c2' : ¬ nI (tZ b L i) = nI 4 := fun q => c2 ((nI_eq (by omega) (by decide)).mp q)
    rw [if_neg c2', if_neg (fun q => c2 (wi.mp (wk.symm.trans q)).1)]
    exact ⟨⟨fun q => absurd q c2', fun _ => trivial⟩, rfl⟩
theorem wki_21 (p z : Nat) (hz : 0 < z) : wkind b p z = 33 ↔ z = 4 ∧ eqw b p [115, 112, 101, 99] = true := by
  unfold wkind wkS wkL
  simp only [eqw, Bool.and_eq_true, decide_eq_true_eq, and_true]
  repeat' split
  all_goals omega
theorem m_ch_21 : ∀ j, j < 4 → pSg_charAt_21 (nI j) ∧ fSg_charAt_21 (nI j) = nI ([115, 112, 101, 99].getD j 0) := by
  intro j hj
  have e := (show ∀ j, j < 4 → fSg_charAt_21 (nI j) = nI ([115, 112, 101, 99].getD j 0) by decide +kernel) j hj
  have h9 := (show ∀ j, j < 4 → [115, 112, 101, 99].getD j 0 < 256 by decide) j hj
  have en : narrow .char (.int (fSg_charAt_21 (nI j))) = .int (fSg_charAt_21 (nI j)) := by rw [e]; exact nar_c h9
  exact ⟨⟨trivial, ⟨ckI hj (by decide), vp_in_nI hj (by decide), en⟩, en⟩, e⟩
theorem m_iw_21 {M : Mm} {p : Nat} (hB : mBy M b L) (h7 : M 40 7 = nI p) (hp : p + 4 ≤ L) : ∀ (k j : Nat) (w : List Nat), j + w.length = 4 → w = [115, 112, 101, 99].drop j → w.length < k → pMo_is_21_28 k (nI j) M ∧ fMo_is_21_28 k (nI j) M = (0, 0, if eqw b (p + j) w = true then 1 else 0, M) := by
  have hl := hB.2.1
  have el : fSg_length_21 = nI 4 := (show (4 : Int32) >>> ((0 : Int32) &&& 31) = nI 4 by decide)
  intro k
  induction k with
  | zero => intro j w _ _ hk; omega
  | succ k ih =>
    intro j w hj hw hk
    rw [pMo_is_21_28.eq_2, fMo_is_21_28.eq_2, el]
    cases w with
    | nil =>
      have c : nI 4 ≤ nI j := nI_le (by simp only [List.length_nil] at hj; omega) (by simp only [List.length_nil] at hj; omega)
      rw [if_pos c]
      exact ⟨⟨⟨trivial, trivial⟩, fun _ => trivial, fun q => absurd c q⟩, rfl⟩
    | cons x w =>
      simp only [List.length_cons] at hj hk
      have c : ¬ nI 4 ≤ nI j := nI_ge (by omega) (by decide)
      have bb := hB.2.2.1 (p + j) (by omega)
      have ch := m_ch_21 j (by omega)
      have hx : [115, 112, 101, 99].getD j 0 = x := by
        have := congrArg (fun l : List Nat => l.head?) hw
        simp only [List.head?_cons, List.head?_drop] at this
        rw [List.getD_eq_getElem?_getD, ← this]; rfl
      have hw2 : w = [115, 112, 101, 99].drop (j + 1) := by
        have := congrArg List.tail hw
        rw [List.tail_drop] at this
        exact this
      have hx9 : x < 128 := by rw [← hx]; exact (show ∀ j, j < 4 → [115, 112, 101, 99].getD j 0 < 128 by decide) j (by omega)
      rw [hx] at ch
      have i2 := ih (j + 1) w (by omega) hw2 (by omega)
      rw [if_neg c, h7, nI_add, nI_clamp (by omega), bb.1, ch.2, nI_i1]
      have v := vp_in_nI (n := p + j) (N := 65536) (by omega) (by decide)
      have se := sbE bb.2 hx9
      unfold eqw
      by_cases e : b (p + j) = x
      · rw [if_pos (se.mpr e), decide_eq_true e, Bool.true_and]
        exact ⟨⟨⟨trivial, trivial⟩, fun q => absurd q c, fun _ => ⟨v, ch.1, fun _ => i2.1, fun q => absurd (se.mpr e) q⟩⟩, i2.2⟩
      · have e' : ¬ sb (b (p + j)) = nI x := fun q => e (se.mp q)
        rw [if_neg e', decide_eq_false e, Bool.false_and]
        exact ⟨⟨⟨trivial, trivial⟩, fun q => absurd q c, fun _ => ⟨v, ch.1, fun q => absurd q e', fun _ => trivial⟩⟩, rfl⟩
theorem m_is_21 {M : Mm} {i : Nat} (hB : mBy M b L) (h : mQ b L i M) : pMo_is_21 32 M ∧ fMo_is_21 32 M = (0, 0, if tK b L i = 33 then 1 else 0, M) := by
  have hb := fun q hq => (hB.2.2.1 q hq).2
  have hl := hB.2.1
  have tin := tok_in (i := i) hb (tF_le hb i)
  have k48 : tK b L i < 48 := tin.2.1
  have zin : tF b L i + tZ b L i ≤ L := tin.1
  have p := m_pks h
  have el : fSg_length_21 = nI 4 := (show (4 : Int32) >>> ((0 : Int32) &&& 31) = nI 4 by decide)
  unfold pMo_is_21 fMo_is_21
  rw [p.2, if_pos rfl]
  dsimp only
  refine (fun (z : _ ∧ _) => ⟨⟨p.1, fun _ => z.1⟩, z.2⟩) ?_
  unfold pMo_is_21_4 fMo_is_21_4 pMo_is_21_24 fMo_is_21_24
  by_cases c1 : 29 ≤ tK b L i ∧ tK b L i ≤ 43
  rotate_left
  · have n1 : ¬ nI (mt (tK b L i)) = 1 := fun q => c1 ((mt_1 _ k48).1.mp q)
    rw [if_neg n1, if_neg (by omega)]
    exact ⟨⟨fun q => absurd q n1, fun _ => trivial⟩, rfl⟩
  have n1 : nI (mt (tK b L i)) = 1 := (mt_1 _ k48).1.mpr c1
  have wk : tK b L i = wkind b (tF b L i) (tZ b L i) := tok_wk c1
  have wi := wki_21 (b := b) (tF b L i) (tZ b L i) (tin.2.2.1 (show tK b L i < 45 by omega))
  rw [if_pos n1, h.2.2.2.2.1, h.2.2.2.1, pk_sub (by omega), Nat.add_sub_cancel_left, el]
  refine (fun (z : _ ∧ _) => ⟨⟨fun _ => ⟨⟨trivial, trivial⟩, z.1⟩, fun q => absurd n1 q⟩, z.2⟩) ?_
  by_cases c2 : tZ b L i = 4
  · have x := m_iw_21 hB h.2.2.2.1 (by omega) 32 0 [115, 112, 101, 99] rfl rfl (by decide)
    rw [nI_0, Nat.add_zero] at x
    have c2' : nI (tZ b L i) = nI 4 := by rw [c2]
    rw [if_pos c2', x.2]
    refine ⟨⟨fun _ => x.1, fun q => absurd c2' q⟩, ?_⟩
    by_cases e : eqw b (tF b L i) [115, 112, 101, 99] = true
    · rw [if_pos e, if_pos (wk.trans (wi.mpr ⟨c2, e⟩))]
    · rw [if_neg e, if_neg (fun q => e (wi.mp (wk.symm.trans q)).2)]
  · have c2' : ¬ nI (tZ b L i) = nI 4 := fun q => c2 ((nI_eq (by omega) (by decide)).mp q)
    rw [if_neg c2', if_neg (fun q => c2 (wi.mp (wk.symm.trans q)).1)]
    exact ⟨⟨fun q => absurd q c2', fun _ => trivial⟩, rfl⟩
theorem wki_22 (p z : Nat) (hz : 0 < z) : wkind b p z = 34 ↔ z = 1 ∧ eqw b p [65] = true := by
  unfold wkind wkS wkL
  simp only [eqw, Bool.and_eq_true, decide_eq_true_eq, and_true]
  repeat' split
  all_goals omega
theorem m_ch_22 : ∀ j, j < 1 → pSg_charAt_22 (nI j) ∧ fSg_charAt_22 (nI j) = nI ([65].getD j 0) := by
  intro j hj
  have e := (show ∀ j, j < 1 → fSg_charAt_22 (nI j) = nI ([65].getD j 0) by decide +kernel) j hj
  have h9 := (show ∀ j, j < 1 → [65].getD j 0 < 256 by decide) j hj
  have en : narrow .char (.int (fSg_charAt_22 (nI j))) = .int (fSg_charAt_22 (nI j)) := by rw [e]; exact nar_c h9
  exact ⟨⟨trivial, ⟨ckI hj (by decide), vp_in_nI hj (by decide), en⟩, en⟩, e⟩
theorem m_iw_22 {M : Mm} {p : Nat} (hB : mBy M b L) (h7 : M 40 7 = nI p) (hp : p + 1 ≤ L) : ∀ (k j : Nat) (w : List Nat), j + w.length = 1 → w = [65].drop j → w.length < k → pMo_is_22_28 k (nI j) M ∧ fMo_is_22_28 k (nI j) M = (0, 0, if eqw b (p + j) w = true then 1 else 0, M) := by
  have hl := hB.2.1
  have el : fSg_length_22 = nI 1 := (show (1 : Int32) >>> ((0 : Int32) &&& 31) = nI 1 by decide)
  intro k
  induction k with
  | zero => intro j w _ _ hk; omega
  | succ k ih =>
    intro j w hj hw hk
    rw [pMo_is_22_28.eq_2, fMo_is_22_28.eq_2, el]
    cases w with
    | nil =>
      have c : nI 1 ≤ nI j := nI_le (by simp only [List.length_nil] at hj; omega) (by simp only [List.length_nil] at hj; omega)
      rw [if_pos c]
      exact ⟨⟨⟨trivial, trivial⟩, fun _ => trivial, fun q => absurd c q⟩, rfl⟩
    | cons x w =>
      simp only [List.length_cons] at hj hk
      have c : ¬ nI 1 ≤ nI j := nI_ge (by omega) (by decide)
      have bb := hB.2.2.1 (p + j) (by omega)
      have ch := m_ch_22 j (by omega)
      have hx : [65].getD j 0 = x := by
        have := congrArg (fun l : List Nat => l.head?) hw
        simp only [List.head?_cons, List.head?_drop] at this
        rw [List.getD_eq_getElem?_getD, ← this]; rfl
      have hw2 : w = [65].drop (j + 1) := by
        have := congrArg List.tail hw
        rw [List.tail_drop] at this
        exact this
      have hx9 : x < 128 := by rw [← hx]; exact (show ∀ j, j < 1 → [65].getD j 0 < 128 by decide) j (by omega)
      rw [hx] at ch
      have i2 := ih (j + 1) w (by omega) hw2 (by omega)
      rw [if_neg c, h7, nI_add, nI_clamp (by omega), bb.1, ch.2, nI_i1]
      have v := vp_in_nI (n := p + j) (N := 65536) (by omega) (by decide)
      have se := sbE bb.2 hx9
      unfold eqw
      by_cases e : b (p + j) = x
      · rw [if_pos (se.mpr e), decide_eq_true e, Bool.true_and]
        exact ⟨⟨⟨trivial, trivial⟩, fun q => absurd q c, fun _ => ⟨v, ch.1, fun _ => i2.1, fun q => absurd (se.mpr e) q⟩⟩, i2.2⟩
      · have e' : ¬ sb (b (p + j)) = nI x := fun q => e (se.mp q)
        rw [if_neg e', decide_eq_false e, Bool.false_and]
        exact ⟨⟨⟨trivial, trivial⟩, fun q => absurd q c, fun _ => ⟨v, ch.1, fun q => absurd q e', fun _ => trivial⟩⟩, rfl⟩
theorem m_is_22 {M : Mm} {i : Nat} (hB : mBy M b L) (h : mQ b L i M) : pMo_is_22 32 M ∧ fMo_is_22 32 M = (0, 0, if tK b L i = 34 then 1 else 0, M) := by
  have hb := fun q hq => (hB.2.2.1 q hq).2
  have hl := hB.2.1
  have tin := tok_in (i := i) hb (tF_le hb i)
  have k48 : tK b L i < 48 := tin.2.1
  have zin : tF b L i + tZ b L i ≤ L := tin.1
  have p := m_pks h
  have el : fSg_length_22 = nI 1 := (show (1 : Int32) >>> ((0 : Int32) &&& 31) = nI 1 by decide)
  unfold pMo_is_22 fMo_is_22
  rw [p.2, if_pos rfl]
  dsimp only
  refine (fun (z : _ ∧ _) => ⟨⟨p.1, fun _ => z.1⟩, z.2⟩) ?_
  unfold pMo_is_22_4 fMo_is_22_4 pMo_is_22_24 fMo_is_22_24
  by_cases c1 : 29 ≤ tK b L i ∧ tK b L i ≤ 43
  rotate_left
  · have n1 : ¬ nI (mt (tK b L i)) = 1 := fun q => c1 ((mt_1 _ k48).1.mp q)
    rw [if_neg n1, if_neg (by omega)]
    exact ⟨⟨fun q => absurd q n1, fun _ => trivial⟩, rfl⟩
  have n1 : nI (mt (tK b L i)) = 1 := (mt_1 _ k48).1.mpr c1
  have wk : tK b L i = wkind b (tF b L i) (tZ b L i) := tok_wk c1
  have wi := wki_22 (b := b) (tF b L i) (tZ b L i) (tin.2.2.1 (show tK b L i < 45 by omega))
  rw [if_pos n1, h.2.2.2.2.1, h.2.2.2.1, pk_sub (by omega), Nat.add_sub_cancel_left, el]
  refine (fun (z : _ ∧ _) => ⟨⟨fun _ => ⟨⟨trivial, trivial⟩, z.1⟩, fun q => absurd n1 q⟩, z.2⟩) ?_
  by_cases c2 : tZ b L i = 1
  · have x := m_iw_22 hB h.2.2.2.1 (by omega) 32 0 [65] rfl rfl (by decide)
    rw [nI_0, Nat.add_zero] at x
    have c2' : nI (tZ b L i) = nI 1 := by rw [c2]
    rw [if_pos c2', x.2]
    refine ⟨⟨fun _ => x.1, fun q => absurd c2' q⟩, ?_⟩
    by_cases e : eqw b (tF b L i) [65] = true
    · rw [if_pos e, if_pos (wk.trans (wi.mpr ⟨c2, e⟩))]
    · rw [if_neg e, if_neg (fun q => e (wi.mp (wk.symm.trans q)).2)]
  · have c2' : ¬ nI (tZ b L i) = nI 1 := fun q => c2 ((nI_eq (by omega) (by decide)).mp q)
    rw [if_neg c2', if_neg (fun q => c2 (wi.mp (wk.symm.trans q)).1)]
    exact ⟨⟨fun q => absurd q c2', fun _ => trivial⟩, rfl⟩
theorem wki_23 (p z : Nat) (hz : 0 < z) : wkind b p z = 35 ↔ z = 1 ∧ eqw b p [69] = true := by
  unfold wkind wkS wkL
  simp only [eqw, Bool.and_eq_true, decide_eq_true_eq, and_true]
  repeat' split
  all_goals omega
theorem m_ch_23 : ∀ j, j < 1 → pSg_charAt_23 (nI j) ∧ fSg_charAt_23 (nI j) = nI ([69].getD j 0) := by
  intro j hj
  have e := (show ∀ j, j < 1 → fSg_charAt_23 (nI j) = nI ([69].getD j 0) by decide +kernel) j hj
  have h9 := (show ∀ j, j < 1 → [69].getD j 0 < 256 by decide) j hj
  have en : narrow .char (.int (fSg_charAt_23 (nI j))) = .int (fSg_charAt_23 (nI j)) := by rw [e]; exact nar_c h9
  exact ⟨⟨trivial, ⟨ckI hj (by decide), vp_in_nI hj (by decide), en⟩, en⟩, e⟩
theorem m_iw_23 {M : Mm} {p : Nat} (hB : mBy M b L) (h7 : M 40 7 = nI p) (hp : p + 1 ≤ L) : ∀ (k j : Nat) (w : List Nat), j + w.length = 1 → w = [69].drop j → w.length < k → pMo_is_23_28 k (nI j) M ∧ fMo_is_23_28 k (nI j) M = (0, 0, if eqw b (p + j) w = true then 1 else 0, M) := by
  have hl := hB.2.1
  have el : fSg_length_23 = nI 1 := (show (1 : Int32) >>> ((0 : Int32) &&& 31) = nI 1 by decide)
  intro k
  induction k with
  | zero => intro j w _ _ hk; omega
  | succ k ih =>
    intro j w hj hw hk
    rw [pMo_is_23_28.eq_2, fMo_is_23_28.eq_2, el]
    cases w with
    | nil =>
      have c : nI 1 ≤ nI j := nI_le (by simp only [List.length_nil] at hj; omega) (by simp only [List.length_nil] at hj; omega)
      rw [if_pos c]
      exact ⟨⟨⟨trivial, trivial⟩, fun _ => trivial, fun q => absurd c q⟩, rfl⟩
    | cons x w =>
      simp only [List.length_cons] at hj hk
      have c : ¬ nI 1 ≤ nI j := nI_ge (by omega) (by decide)
      have bb := hB.2.2.1 (p + j) (by omega)
      have ch := m_ch_23 j (by omega)
      have hx : [69].getD j 0 = x := by
        have := congrArg (fun l : List Nat => l.head?) hw
        simp only [List.head?_cons, List.head?_drop] at this
        rw [List.getD_eq_getElem?_getD, ← this]; rfl
      have hw2 : w = [69].drop (j + 1) := by
        have := congrArg List.tail hw
        rw [List.tail_drop] at this
        exact this
      have hx9 : x < 128 := by rw [← hx]; exact (show ∀ j, j < 1 → [69].getD j 0 < 128 by decide) j (by omega)
      rw [hx] at ch
      have i2 := ih (j + 1) w (by omega) hw2 (by omega)
      rw [if_neg c, h7, nI_add, nI_clamp (by omega), bb.1, ch.2, nI_i1]
      have v := vp_in_nI (n := p + j) (N := 65536) (by omega) (by decide)
      have se := sbE bb.2 hx9
      unfold eqw
      by_cases e : b (p + j) = x
      · rw [if_pos (se.mpr e), decide_eq_true e, Bool.true_and]
        exact ⟨⟨⟨trivial, trivial⟩, fun q => absurd q c, fun _ => ⟨v, ch.1, fun _ => i2.1, fun q => absurd (se.mpr e) q⟩⟩, i2.2⟩
      · have e' : ¬ sb (b (p + j)) = nI x := fun q => e (se.mp q)
        rw [if_neg e', decide_eq_false e, Bool.false_and]
        exact ⟨⟨⟨trivial, trivial⟩, fun q => absurd q c, fun _ => ⟨v, ch.1, fun q => absurd q e', fun _ => trivial⟩⟩, rfl⟩
theorem m_is_23 {M : Mm} {i : Nat} (hB : mBy M b L) (h : mQ b L i M) : pMo_is_23 32 M ∧ fMo_is_23 32 M = (0, 0, if tK b L i = 35 then 1 else 0, M) := by
  have hb := fun q hq => (hB.2.2.1 q hq).2
  have hl := hB.2.1
  have tin := tok_in (i := i) hb (tF_le hb i)
  have k48 : tK b L i < 48 := tin.2.1
  have zin : tF b L i + tZ b L i ≤ L := tin.1
  have p := m_pks h
  have el : fSg_length_23 = nI 1 := (show (1 : Int32) >>> ((0 : Int32) &&& 31) = nI 1 by decide)
  unfold pMo_is_23 fMo_is_23
  rw [p.2, if_pos rfl]
  dsimp only
  refine (fun (z : _ ∧ _) => ⟨⟨p.1, fun _ => z.1⟩, z.2⟩) ?_
  unfold pMo_is_23_4 fMo_is_23_4 pMo_is_23_24 fMo_is_23_24
  by_cases c1 : 29 ≤ tK b L i ∧ tK b L i ≤ 43
  rotate_left
  · have n1 : ¬ nI (mt (tK b L i)) = 1 := fun q => c1 ((mt_1 _ k48).1.mp q)
    rw [if_neg n1, if_neg (by omega)]
    exact ⟨⟨fun q => absurd q n1, fun _ => trivial⟩, rfl⟩
  have n1 : nI (mt (tK b L i)) = 1 := (mt_1 _ k48).1.mpr c1
  have wk : tK b L i = wkind b (tF b L i) (tZ b L i) := tok_wk c1
  have wi := wki_23 (b := b) (tF b L i) (tZ b L i) (tin.2.2.1 (show tK b L i < 45 by omega))
  rw [if_pos n1, h.2.2.2.2.1, h.2.2.2.1, pk_sub (by omega), Nat.add_sub_cancel_left, el]
  refine (fun (z : _ ∧ _) => ⟨⟨fun _ => ⟨⟨trivial, trivial⟩, z.1⟩, fun q => absurd n1 q⟩, z.2⟩) ?_
  by_cases c2 : tZ b L i = 1
  · have x := m_iw_23 hB h.2.2.2.1 (by omega) 32 0 [69] rfl rfl (by decide)
    rw [nI_0, Nat.add_zero] at x
    have c2' : nI (tZ b L i) = nI 1 := by rw [c2]
    rw [if_pos c2', x.2]
    refine ⟨⟨fun _ => x.1, fun q => absurd c2' q⟩, ?_⟩
    by_cases e : eqw b (tF b L i) [69] = true
    · rw [if_pos e, if_pos (wk.trans (wi.mpr ⟨c2, e⟩))]
    · rw [if_neg e, if_neg (fun q => e (wi.mp (wk.symm.trans q)).2)]
  · have c2' : ¬ nI (tZ b L i) = nI 1 := fun q => c2 ((nI_eq (by omega) (by decide)).mp q)
    rw [if_neg c2', if_neg (fun q => c2 (wi.mp (wk.symm.trans q)).1)]
    exact ⟨⟨fun q => absurd q c2', fun _ => trivial⟩, rfl⟩
theorem wki_24 (p z : Nat) (hz : 0 < z) : wkind b p z = 36 ↔ z = 1 ∧ eqw b p [85] = true := by
  unfold wkind wkS wkL
  simp only [eqw, Bool.and_eq_true, decide_eq_true_eq, and_true]
  repeat' split
  all_goals omega
theorem m_ch_24 : ∀ j, j < 1 → pSg_charAt_24 (nI j) ∧ fSg_charAt_24 (nI j) = nI ([85].getD j 0) := by
  intro j hj
  have e := (show ∀ j, j < 1 → fSg_charAt_24 (nI j) = nI ([85].getD j 0) by decide +kernel) j hj
  have h9 := (show ∀ j, j < 1 → [85].getD j 0 < 256 by decide) j hj
  have en : narrow .char (.int (fSg_charAt_24 (nI j))) = .int (fSg_charAt_24 (nI j)) := by rw [e]; exact nar_c h9
  exact ⟨⟨trivial, ⟨ckI hj (by decide), vp_in_nI hj (by decide), en⟩, en⟩, e⟩
theorem m_iw_24 {M : Mm} {p : Nat} (hB : mBy M b L) (h7 : M 40 7 = nI p) (hp : p + 1 ≤ L) : ∀ (k j : Nat) (w : List Nat), j + w.length = 1 → w = [85].drop j → w.length < k → pMo_is_24_28 k (nI j) M ∧ fMo_is_24_28 k (nI j) M = (0, 0, if eqw b (p + j) w = true then 1 else 0, M) := by
  have hl := hB.2.1
  have el : fSg_length_24 = nI 1 := (show (1 : Int32) >>> ((0 : Int32) &&& 31) = nI 1 by decide)
  intro k
  induction k with
  | zero => intro j w _ _ hk; omega
  | succ k ih =>
    intro j w hj hw hk
    rw [pMo_is_24_28.eq_2, fMo_is_24_28.eq_2, el]
    cases w with
    | nil =>
      have c : nI 1 ≤ nI j := nI_le (by simp only [List.length_nil] at hj; omega) (by simp only [List.length_nil] at hj; omega)
      rw [if_pos c]
      exact ⟨⟨⟨trivial, trivial⟩, fun _ => trivial, fun q => absurd c q⟩, rfl⟩
    | cons x w =>
      simp only [List.length_cons] at hj hk
      have c : ¬ nI 1 ≤ nI j := nI_ge (by omega) (by decide)
      have bb := hB.2.2.1 (p + j) (by omega)
      have ch := m_ch_24 j (by omega)
      have hx : [85].getD j 0 = x := by
        have := congrArg (fun l : List Nat => l.head?) hw
        simp only [List.head?_cons, List.head?_drop] at this
        rw [List.getD_eq_getElem?_getD, ← this]; rfl
      have hw2 : w = [85].drop (j + 1) := by
        have := congrArg List.tail hw
        rw [List.tail_drop] at this
        exact this
      have hx9 : x < 128 := by rw [← hx]; exact (show ∀ j, j < 1 → [85].getD j 0 < 128 by decide) j (by omega)
      rw [hx] at ch
      have i2 := ih (j + 1) w (by omega) hw2 (by omega)
      rw [if_neg c, h7, nI_add, nI_clamp (by omega), bb.1, ch.2, nI_i1]
      have v := vp_in_nI (n := p + j) (N := 65536) (by omega) (by decide)
      have se := sbE bb.2 hx9
      unfold eqw
      by_cases e : b (p + j) = x
      · rw [if_pos (se.mpr e), decide_eq_true e, Bool.true_and]
        exact ⟨⟨⟨trivial, trivial⟩, fun q => absurd q c, fun _ => ⟨v, ch.1, fun _ => i2.1, fun q => absurd (se.mpr e) q⟩⟩, i2.2⟩
      · have e' : ¬ sb (b (p + j)) = nI x := fun q => e (se.mp q)
        rw [if_neg e', decide_eq_false e, Bool.false_and]
        exact ⟨⟨⟨trivial, trivial⟩, fun q => absurd q c, fun _ => ⟨v, ch.1, fun q => absurd q e', fun _ => trivial⟩⟩, rfl⟩
theorem m_is_24 {M : Mm} {i : Nat} (hB : mBy M b L) (h : mQ b L i M) : pMo_is_24 32 M ∧ fMo_is_24 32 M = (0, 0, if tK b L i = 36 then 1 else 0, M) := by
  have hb := fun q hq => (hB.2.2.1 q hq).2
  have hl := hB.2.1
  have tin := tok_in (i := i) hb (tF_le hb i)
  have k48 : tK b L i < 48 := tin.2.1
  have zin : tF b L i + tZ b L i ≤ L := tin.1
  have p := m_pks h
  have el : fSg_length_24 = nI 1 := (show (1 : Int32) >>> ((0 : Int32) &&& 31) = nI 1 by decide)
  unfold pMo_is_24 fMo_is_24
  rw [p.2, if_pos rfl]
  dsimp only
  refine (fun (z : _ ∧ _) => ⟨⟨p.1, fun _ => z.1⟩, z.2⟩) ?_
  unfold pMo_is_24_4 fMo_is_24_4 pMo_is_24_24 fMo_is_24_24
  by_cases c1 : 29 ≤ tK b L i ∧ tK b L i ≤ 43
  rotate_left
  · have n1 : ¬ nI (mt (tK b L i)) = 1 := fun q => c1 ((mt_1 _ k48).1.mp q)
    rw [if_neg n1, if_neg (by omega)]
    exact ⟨⟨fun q => absurd q n1, fun _ => trivial⟩, rfl⟩
  have n1 : nI (mt (tK b L i)) = 1 := (mt_1 _ k48).1.mpr c1
  have wk : tK b L i = wkind b (tF b L i) (tZ b L i) := tok_wk c1
  have wi := wki_24 (b := b) (tF b L i) (tZ b L i) (tin.2.2.1 (show tK b L i < 45 by omega))
  rw [if_pos n1, h.2.2.2.2.1, h.2.2.2.1, pk_sub (by omega), Nat.add_sub_cancel_left, el]
  refine (fun (z : _ ∧ _) => ⟨⟨fun _ => ⟨⟨trivial, trivial⟩, z.1⟩, fun q => absurd n1 q⟩, z.2⟩) ?_
  by_cases c2 : tZ b L i = 1
  · have x := m_iw_24 hB h.2.2.2.1 (by omega) 32 0 [85] rfl rfl (by decide)
    rw [nI_0, Nat.add_zero] at x
    have c2' : nI (tZ b L i) = nI 1 := by rw [c2]
    rw [if_pos c2', x.2]
    refine ⟨⟨fun _ => x.1, fun q => absurd c2' q⟩, ?_⟩
    by_cases e : eqw b (tF b L i) [85] = true
    · rw [if_pos e, if_pos (wk.trans (wi.mpr ⟨c2, e⟩))]
    · rw [if_neg e, if_neg (fun q => e (wi.mp (wk.symm.trans q)).2)]
  · have c2' : ¬ nI (tZ b L i) = nI 1 := fun q => c2 ((nI_eq (by omega) (by decide)).mp q)
    rw [if_neg c2', if_neg (fun q => c2 (wi.mp (wk.symm.trans q)).1)]
    exact ⟨⟨fun q => absurd q c2', fun _ => trivial⟩, rfl⟩
theorem wki_25 (p z : Nat) (hz : 0 < z) : wkind b p z = 37 ↔ z = 2 ∧ eqw b p [65, 88] = true := by
  unfold wkind wkS wkL
  simp only [eqw, Bool.and_eq_true, decide_eq_true_eq, and_true]
  repeat' split
  all_goals omega
theorem m_ch_25 : ∀ j, j < 2 → pSg_charAt_25 (nI j) ∧ fSg_charAt_25 (nI j) = nI ([65, 88].getD j 0) := by
  intro j hj
  have e := (show ∀ j, j < 2 → fSg_charAt_25 (nI j) = nI ([65, 88].getD j 0) by decide +kernel) j hj
  have h9 := (show ∀ j, j < 2 → [65, 88].getD j 0 < 256 by decide) j hj
  have en : narrow .char (.int (fSg_charAt_25 (nI j))) = .int (fSg_charAt_25 (nI j)) := by rw [e]; exact nar_c h9
  exact ⟨⟨trivial, ⟨ckI hj (by decide), vp_in_nI hj (by decide), en⟩, en⟩, e⟩
theorem m_iw_25 {M : Mm} {p : Nat} (hB : mBy M b L) (h7 : M 40 7 = nI p) (hp : p + 2 ≤ L) : ∀ (k j : Nat) (w : List Nat), j + w.length = 2 → w = [65, 88].drop j → w.length < k → pMo_is_25_28 k (nI j) M ∧ fMo_is_25_28 k (nI j) M = (0, 0, if eqw b (p + j) w = true then 1 else 0, M) := by
  have hl := hB.2.1
  have el : fSg_length_25 = nI 2 := (show (2 : Int32) >>> ((0 : Int32) &&& 31) = nI 2 by decide)
  intro k
  induction k with
  | zero => intro j w _ _ hk; omega
  | succ k ih =>
    intro j w hj hw hk
    rw [pMo_is_25_28.eq_2, fMo_is_25_28.eq_2, el]
    cases w with
    | nil =>
      have c : nI 2 ≤ nI j := nI_le (by simp only [List.length_nil] at hj; omega) (by simp only [List.length_nil] at hj; omega)
      rw [if_pos c]
      exact ⟨⟨⟨trivial, trivial⟩, fun _ => trivial, fun q => absurd c q⟩, rfl⟩
    | cons x w =>
      simp only [List.length_cons] at hj hk
      have c : ¬ nI 2 ≤ nI j := nI_ge (by omega) (by decide)
      have bb := hB.2.2.1 (p + j) (by omega)
      have ch := m_ch_25 j (by omega)
      have hx : [65, 88].getD j 0 = x := by
        have := congrArg (fun l : List Nat => l.head?) hw
        simp only [List.head?_cons, List.head?_drop] at this
        rw [List.getD_eq_getElem?_getD, ← this]; rfl
      have hw2 : w = [65, 88].drop (j + 1) := by
        have := congrArg List.tail hw
        rw [List.tail_drop] at this
        exact this
      have hx9 : x < 128 := by rw [← hx]; exact (show ∀ j, j < 2 → [65, 88].getD j 0 < 128 by decide) j (by omega)
      rw [hx] at ch
      have i2 := ih (j + 1) w (by omega) hw2 (by omega)
      rw [if_neg c, h7, nI_add, nI_clamp (by omega), bb.1, ch.2, nI_i1]
      have v := vp_in_nI (n := p + j) (N := 65536) (by omega) (by decide)
      have se := sbE bb.2 hx9
      unfold eqw
      by_cases e : b (p + j) = x
      · rw [if_pos (se.mpr e), decide_eq_true e, Bool.true_and]
        exact ⟨⟨⟨trivial, trivial⟩, fun q => absurd q c, fun _ => ⟨v, ch.1, fun _ => i2.1, fun q => absurd (se.mpr e) q⟩⟩, i2.2⟩
      · have e' : ¬ sb (b (p + j)) = nI x := fun q => e (se.mp q)
        rw [if_neg e', decide_eq_false e, Bool.false_and]
        exact ⟨⟨⟨trivial, trivial⟩, fun q => absurd q c, fun _ => ⟨v, ch.1, fun q => absurd q e', fun _ => trivial⟩⟩, rfl⟩
theorem m_is_25 {M : Mm} {i : Nat} (hB : mBy M b L) (h : mQ b L i M) : pMo_is_25 32 M ∧ fMo_is_25 32 M = (0, 0, if tK b L i = 37 then 1 else 0, M) := by
  have hb := fun q hq => (hB.2.2.1 q hq).2
  have hl := hB.2.1
  have tin := tok_in (i := i) hb (tF_le hb i)
  have k48 : tK b L i < 48 := tin.2.1
  have zin : tF b L i + tZ b L i ≤ L := tin.1
  have p := m_pks h
  have el : fSg_length_25 = nI 2 := (show (2 : Int32) >>> ((0 : Int32) &&& 31) = nI 2 by decide)
  unfold pMo_is_25 fMo_is_25
  rw [p.2, if_pos rfl]
  dsimp only
  refine (fun (z : _ ∧ _) => ⟨⟨p.1, fun _ => z.1⟩, z.2⟩) ?_
  unfold pMo_is_25_4 fMo_is_25_4 pMo_is_25_24 fMo_is_25_24
  by_cases c1 : 29 ≤ tK b L i ∧ tK b L i ≤ 43
  rotate_left
  · have n1 : ¬ nI (mt (tK b L i)) = 1 := fun q => c1 ((mt_1 _ k48).1.mp q)
    rw [if_neg n1, if_neg (by omega)]
    exact ⟨⟨fun q => absurd q n1, fun _ => trivial⟩, rfl⟩
  have n1 : nI (mt (tK b L i)) = 1 := (mt_1 _ k48).1.mpr c1
  have wk : tK b L i = wkind b (tF b L i) (tZ b L i) := tok_wk c1
  have wi := wki_25 (b := b) (tF b L i) (tZ b L i) (tin.2.2.1 (show tK b L i < 45 by omega))
  rw [if_pos n1, h.2.2.2.2.1, h.2.2.2.1, pk_sub (by omega), Nat.add_sub_cancel_left, el]
  refine (fun (z : _ ∧ _) => ⟨⟨fun _ => ⟨⟨trivial, trivial⟩, z.1⟩, fun q => absurd n1 q⟩, z.2⟩) ?_
  by_cases c2 : tZ b L i = 2
  · have x := m_iw_25 hB h.2.2.2.1 (by omega) 32 0 [65, 88] rfl rfl (by decide)
    rw [nI_0, Nat.add_zero] at x
    have c2' : nI (tZ b L i) = nI 2 := by rw [c2]
    rw [if_pos c2', x.2]
    refine ⟨⟨fun _ => x.1, fun q => absurd c2' q⟩, ?_⟩
    by_cases e : eqw b (tF b L i) [65, 88] = true
    · rw [if_pos e, if_pos (wk.trans (wi.mpr ⟨c2, e⟩))]
    · rw [if_neg e, if_neg (fun q => e (wi.mp (wk.symm.trans q)).2)]
  · have c2' : ¬ nI (tZ b L i) = nI 2 := fun q => c2 ((nI_eq (by omega) (by decide)).mp q)
    rw [if_neg c2', if_neg (fun q => c2 (wi.mp (wk.symm.trans q)).1)]
    exact ⟨⟨fun q => absurd q c2', fun _ => trivial⟩, rfl⟩
theorem wki_26 (p z : Nat) (hz : 0 < z) : wkind b p z = 38 ↔ z = 2 ∧ eqw b p [69, 88] = true := by
  unfold wkind wkS wkL
  simp only [eqw, Bool.and_eq_true, decide_eq_true_eq, and_true]
  repeat' split
  all_goals omega
theorem m_ch_26 : ∀ j, j < 2 → pSg_charAt_26 (nI j) ∧ fSg_charAt_26 (nI j) = nI ([69, 88].getD j 0) := by
  intro j hj
  have e := (show ∀ j, j < 2 → fSg_charAt_26 (nI j) = nI ([69, 88].getD j 0) by decide +kernel) j hj
  have h9 := (show ∀ j, j < 2 → [69, 88].getD j 0 < 256 by decide) j hj
  have en : narrow .char (.int (fSg_charAt_26 (nI j))) = .int (fSg_charAt_26 (nI j)) := by rw [e]; exact nar_c h9
  exact ⟨⟨trivial, ⟨ckI hj (by decide), vp_in_nI hj (by decide), en⟩, en⟩, e⟩
theorem m_iw_26 {M : Mm} {p : Nat} (hB : mBy M b L) (h7 : M 40 7 = nI p) (hp : p + 2 ≤ L) : ∀ (k j : Nat) (w : List Nat), j + w.length = 2 → w = [69, 88].drop j → w.length < k → pMo_is_26_28 k (nI j) M ∧ fMo_is_26_28 k (nI j) M = (0, 0, if eqw b (p + j) w = true then 1 else 0, M) := by
  have hl := hB.2.1
  have el : fSg_length_26 = nI 2 := (show (2 : Int32) >>> ((0 : Int32) &&& 31) = nI 2 by decide)
  intro k
  induction k with
  | zero => intro j w _ _ hk; omega
  | succ k ih =>
    intro j w hj hw hk
    rw [pMo_is_26_28.eq_2, fMo_is_26_28.eq_2, el]
    cases w with
    | nil =>
      have c : nI 2 ≤ nI j := nI_le (by simp only [List.length_nil] at hj; omega) (by simp only [List.length_nil] at hj; omega)
      rw [if_pos c]
      exact ⟨⟨⟨trivial, trivial⟩, fun _ => trivial, fun q => absurd c q⟩, rfl⟩
    | cons x w =>
      simp only [List.length_cons] at hj hk
      have c : ¬ nI 2 ≤ nI j := nI_ge (by omega) (by decide)
      have bb := hB.2.2.1 (p + j) (by omega)
      have ch := m_ch_26 j (by omega)
      have hx : [69, 88].getD j 0 = x := by
        have := congrArg (fun l : List Nat => l.head?) hw
        simp only [List.head?_cons, List.head?_drop] at this
        rw [List.getD_eq_getElem?_getD, ← this]; rfl
      have hw2 : w = [69, 88].drop (j + 1) := by
        have := congrArg List.tail hw
        rw [List.tail_drop] at this
        exact this
      have hx9 : x < 128 := by rw [← hx]; exact (show ∀ j, j < 2 → [69, 88].getD j 0 < 128 by decide) j (by omega)
      rw [hx] at ch
      have i2 := ih (j + 1) w (by omega) hw2 (by omega)
      rw [if_neg c, h7, nI_add, nI_clamp (by omega), bb.1, ch.2, nI_i1]
      have v := vp_in_nI (n := p + j) (N := 65536) (by omega) (by decide)
      have se := sbE bb.2 hx9
      unfold eqw
      by_cases e : b (p + j) = x
      · rw [if_pos (se.mpr e), decide_eq_true e, Bool.true_and]
        exact ⟨⟨⟨trivial, trivial⟩, fun q => absurd q c, fun _ => ⟨v, ch.1, fun _ => i2.1, fun q => absurd (se.mpr e) q⟩⟩, i2.2⟩
      · have e' : ¬ sb (b (p + j)) = nI x := fun q => e (se.mp q)
        rw [if_neg e', decide_eq_false e, Bool.false_and]
        exact ⟨⟨⟨trivial, trivial⟩, fun q => absurd q c, fun _ => ⟨v, ch.1, fun q => absurd q e', fun _ => trivial⟩⟩, rfl⟩
theorem m_is_26 {M : Mm} {i : Nat} (hB : mBy M b L) (h : mQ b L i M) : pMo_is_26 32 M ∧ fMo_is_26 32 M = (0, 0, if tK b L i = 38 then 1 else 0, M) := by
  have hb := fun q hq => (hB.2.2.1 q hq).2
  have hl := hB.2.1
  have tin := tok_in (i := i) hb (tF_le hb i)
  have k48 : tK b L i < 48 := tin.2.1
  have zin : tF b L i + tZ b L i ≤ L := tin.1
  have p := m_pks h
  have el : fSg_length_26 = nI 2 := (show (2 : Int32) >>> ((0 : Int32) &&& 31) = nI 2 by decide)
  unfold pMo_is_26 fMo_is_26
  rw [p.2, if_pos rfl]
  dsimp only
  refine (fun (z : _ ∧ _) => ⟨⟨p.1, fun _ => z.1⟩, z.2⟩) ?_
  unfold pMo_is_26_4 fMo_is_26_4 pMo_is_26_24 fMo_is_26_24
  by_cases c1 : 29 ≤ tK b L i ∧ tK b L i ≤ 43
  rotate_left
  · have n1 : ¬ nI (mt (tK b L i)) = 1 := fun q => c1 ((mt_1 _ k48).1.mp q)
    rw [if_neg n1, if_neg (by omega)]
    exact ⟨⟨fun q => absurd q n1, fun _ => trivial⟩, rfl⟩
  have n1 : nI (mt (tK b L i)) = 1 := (mt_1 _ k48).1.mpr c1
  have wk : tK b L i = wkind b (tF b L i) (tZ b L i) := tok_wk c1
  have wi := wki_26 (b := b) (tF b L i) (tZ b L i) (tin.2.2.1 (show tK b L i < 45 by omega))
  rw [if_pos n1, h.2.2.2.2.1, h.2.2.2.1, pk_sub (by omega), Nat.add_sub_cancel_left, el]
  refine (fun (z : _ ∧ _) => ⟨⟨fun _ => ⟨⟨trivial, trivial⟩, z.1⟩, fun q => absurd n1 q⟩, z.2⟩) ?_
  by_cases c2 : tZ b L i = 2
  · have x := m_iw_26 hB h.2.2.2.1 (by omega) 32 0 [69, 88] rfl rfl (by decide)
    rw [nI_0, Nat.add_zero] at x
    have c2' : nI (tZ b L i) = nI 2 := by rw [c2]
    rw [if_pos c2', x.2]
    refine ⟨⟨fun _ => x.1, fun q => absurd c2' q⟩, ?_⟩
    by_cases e : eqw b (tF b L i) [69, 88] = true
    · rw [if_pos e, if_pos (wk.trans (wi.mpr ⟨c2, e⟩))]
    · rw [if_neg e, if_neg (fun q => e (wi.mp (wk.symm.trans q)).2)]
  · have c2' : ¬ nI (tZ b L i) = nI 2 := fun q => c2 ((nI_eq (by omega) (by decide)).mp q)
    rw [if_neg c2', if_neg (fun q => c2 (wi.mp (wk.symm.trans q)).1)]
    exact ⟨⟨fun q => absurd q c2', fun _ => trivial⟩, rfl⟩
theorem wki_27 (p z : Nat) (hz : 0 < z) : wkind b p z = 39 ↔ z = 2 ∧ eqw b p [65, 70] = true := by
  unfold wkind wkS wkL
  simp only [eqw, Bool.and_eq_true, decide_eq_true_eq, and_true]
  repeat' split
  all_goals omega
theorem m_ch_27 : ∀ j, j < 2 → pSg_charAt_27 (nI j) ∧ fSg_charAt_27 (nI j) = nI ([65, 70].getD j 0) := by
  intro j hj
  have e := (show ∀ j, j < 2 → fSg_charAt_27 (nI j) = nI ([65, 70].getD j 0) by decide +kernel) j hj
  have h9 := (show ∀ j, j < 2 → [65, 70].getD j 0 < 256 by decide) j hj
  have en : narrow .char (.int (fSg_charAt_27 (nI j))) = .int (fSg_charAt_27 (nI j)) := by rw [e]; exact nar_c h9
  exact ⟨⟨trivial, ⟨ckI hj (by decide), vp_in_nI hj (by decide), en⟩, en⟩, e⟩
theorem m_iw_27 {M : Mm} {p : Nat} (hB : mBy M b L) (h7 : M 40 7 = nI p) (hp : p + 2 ≤ L) : ∀ (k j : Nat) (w : List Nat), j + w.length = 2 → w = [65, 70].drop j → w.length < k → pMo_is_27_28 k (nI j) M ∧ fMo_is_27_28 k (nI j) M = (0, 0, if eqw b (p + j) w = true then 1 else 0, M) := by
  have hl := hB.2.1
  have el : fSg_length_27 = nI 2 := (show (2 : Int32) >>> ((0 : Int32) &&& 31) = nI 2 by decide)
  intro k
  induction k with
  | zero => intro j w _ _ hk; omega
  | succ k ih =>
    intro j w hj hw hk
    rw [pMo_is_27_28.eq_2, fMo_is_27_28.eq_2, el]
    cases w with
    | nil =>
      have c : nI 2 ≤ nI j := nI_le (by simp only [List.length_nil] at hj; omega) (by simp only [List.length_nil] at hj; omega)
      rw [if_pos c]
      exact ⟨⟨⟨trivial, trivial⟩, fun _ => trivial, fun q => absurd c q⟩, rfl⟩
    | cons x w =>
      simp only [List.length_cons] at hj hk
      have c : ¬ nI 2 ≤ nI j := nI_ge (by omega) (by decide)
      have bb := hB.2.2.1 (p + j) (by omega)
      have ch := m_ch_27 j (by omega)
      have hx : [65, 70].getD j 0 = x := by
        have := congrArg (fun l : List Nat => l.head?) hw
        simp only [List.head?_cons, List.head?_drop] at this
        rw [List.getD_eq_getElem?_getD, ← this]; rfl
      have hw2 : w = [65, 70].drop (j + 1) := by
        have := congrArg List.tail hw
        rw [List.tail_drop] at this
        exact this
      have hx9 : x < 128 := by rw [← hx]; exact (show ∀ j, j < 2 → [65, 70].getD j 0 < 128 by decide) j (by omega)
      rw [hx] at ch
      have i2 := ih (j + 1) w (by omega) hw2 (by omega)
      rw [if_neg c, h7, nI_add, nI_clamp (by omega), bb.1, ch.2, nI_i1]
      have v := vp_in_nI (n := p + j) (N := 65536) (by omega) (by decide)
      have se := sbE bb.2 hx9
      unfold eqw
      by_cases e : b (p + j) = x
      · rw [if_pos (se.mpr e), decide_eq_true e, Bool.true_and]
        exact ⟨⟨⟨trivial, trivial⟩, fun q => absurd q c, fun _ => ⟨v, ch.1, fun _ => i2.1, fun q => absurd (se.mpr e) q⟩⟩, i2.2⟩
      · have e' : ¬ sb (b (p + j)) = nI x := fun q => e (se.mp q)
        rw [if_neg e', decide_eq_false e, Bool.false_and]
        exact ⟨⟨⟨trivial, trivial⟩, fun q => absurd q c, fun _ => ⟨v, ch.1, fun q => absurd q e', fun _ => trivial⟩⟩, rfl⟩
theorem m_is_27 {M : Mm} {i : Nat} (hB : mBy M b L) (h : mQ b L i M) : pMo_is_27 32 M ∧ fMo_is_27 32 M = (0, 0, if tK b L i = 39 then 1 else 0, M) := by
  have hb := fun q hq => (hB.2.2.1 q hq).2
  have hl := hB.2.1
  have tin := tok_in (i := i) hb (tF_le hb i)
  have k48 : tK b L i < 48 := tin.2.1
  have zin : tF b L i + tZ b L i ≤ L := tin.1
  have p := m_pks h
  have el : fSg_length_27 = nI 2 := (show (2 : Int32) >>> ((0 : Int32) &&& 31) = nI 2 by decide)
  unfold pMo_is_27 fMo_is_27
  rw [p.2, if_pos rfl]
  dsimp only
  refine (fun (z : _ ∧ _) => ⟨⟨p.1, fun _ => z.1⟩, z.2⟩) ?_
  unfold pMo_is_27_4 fMo_is_27_4 pMo_is_27_24 fMo_is_27_24
  by_cases c1 : 29 ≤ tK b L i ∧ tK b L i ≤ 43
  rotate_left
  · have n1 : ¬ nI (mt (tK b L i)) = 1 := fun q => c1 ((mt_1 _ k48).1.mp q)
    rw [if_neg n1, if_neg (by omega)]
    exact ⟨⟨fun q => absurd q n1, fun _ => trivial⟩, rfl⟩
  have n1 : nI (mt (tK b L i)) = 1 := (mt_1 _ k48).1.mpr c1
  have wk : tK b L i = wkind b (tF b L i) (tZ b L i) := tok_wk c1
  have wi := wki_27 (b := b) (tF b L i) (tZ b L i) (tin.2.2.1 (show tK b L i < 45 by omega))
  rw [if_pos n1, h.2.2.2.2.1, h.2.2.2.1, pk_sub (by omega), Nat.add_sub_cancel_left, el]
  refine (fun (z : _ ∧ _) => ⟨⟨fun _ => ⟨⟨trivial, trivial⟩, z.1⟩, fun q => absurd n1 q⟩, z.2⟩) ?_
  by_cases c2 : tZ b L i = 2
  · have x := m_iw_27 hB h.2.2.2.1 (by omega) 32 0 [65, 70] rfl rfl (by decide)
    rw [nI_0, Nat.add_zero] at x
    have c2' : nI (tZ b L i) = nI 2 := by rw [c2]
    rw [if_pos c2', x.2]
    refine ⟨⟨fun _ => x.1, fun q => absurd c2' q⟩, ?_⟩
    by_cases e : eqw b (tF b L i) [65, 70] = true
    · rw [if_pos e, if_pos (wk.trans (wi.mpr ⟨c2, e⟩))]
    · rw [if_neg e, if_neg (fun q => e (wi.mp (wk.symm.trans q)).2)]
  · have c2' : ¬ nI (tZ b L i) = nI 2 := fun q => c2 ((nI_eq (by omega) (by decide)).mp q)
    rw [if_neg c2', if_neg (fun q => c2 (wi.mp (wk.symm.trans q)).1)]
    exact ⟨⟨fun q => absurd q c2', fun _ => trivial⟩, rfl⟩
theorem wki_28 (p z : Nat) (hz : 0 < z) : wkind b p z = 40 ↔ z = 2 ∧ eqw b p [69, 70] = true := by
  unfold wkind wkS wkL
  simp only [eqw, Bool.and_eq_true, decide_eq_true_eq, and_true]
  repeat' split
  all_goals omega
theorem m_ch_28 : ∀ j, j < 2 → pSg_charAt_28 (nI j) ∧ fSg_charAt_28 (nI j) = nI ([69, 70].getD j 0) := by
  intro j hj
  have e := (show ∀ j, j < 2 → fSg_charAt_28 (nI j) = nI ([69, 70].getD j 0) by decide +kernel) j hj
  have h9 := (show ∀ j, j < 2 → [69, 70].getD j 0 < 256 by decide) j hj
  have en : narrow .char (.int (fSg_charAt_28 (nI j))) = .int (fSg_charAt_28 (nI j)) := by rw [e]; exact nar_c h9
  exact ⟨⟨trivial, ⟨ckI hj (by decide), vp_in_nI hj (by decide), en⟩, en⟩, e⟩
theorem m_iw_28 {M : Mm} {p : Nat} (hB : mBy M b L) (h7 : M 40 7 = nI p) (hp : p + 2 ≤ L) : ∀ (k j : Nat) (w : List Nat), j + w.length = 2 → w = [69, 70].drop j → w.length < k → pMo_is_28_28 k (nI j) M ∧ fMo_is_28_28 k (nI j) M = (0, 0, if eqw b (p + j) w = true then 1 else 0, M) := by
  have hl := hB.2.1
  have el : fSg_length_28 = nI 2 := (show (2 : Int32) >>> ((0 : Int32) &&& 31) = nI 2 by decide)
  intro k
  induction k with
  | zero => intro j w _ _ hk; omega
  | succ k ih =>
    intro j w hj hw hk
    rw [pMo_is_28_28.eq_2, fMo_is_28_28.eq_2, el]
    cases w with
    | nil =>
      have c : nI 2 ≤ nI j := nI_le (by simp only [List.length_nil] at hj; omega) (by simp only [List.length_nil] at hj; omega)
      rw [if_pos c]
      exact ⟨⟨⟨trivial, trivial⟩, fun _ => trivial, fun q => absurd c q⟩, rfl⟩
    | cons x w =>
      simp only [List.length_cons] at hj hk
      have c : ¬ nI 2 ≤ nI j := nI_ge (by omega) (by decide)
      have bb := hB.2.2.1 (p + j) (by omega)
      have ch := m_ch_28 j (by omega)
      have hx : [69, 70].getD j 0 = x := by
        have := congrArg (fun l : List Nat => l.head?) hw
        simp only [List.head?_cons, List.head?_drop] at this
        rw [List.getD_eq_getElem?_getD, ← this]; rfl
      have hw2 : w = [69, 70].drop (j + 1) := by
        have := congrArg List.tail hw
        rw [List.tail_drop] at this
        exact this
      have hx9 : x < 128 := by rw [← hx]; exact (show ∀ j, j < 2 → [69, 70].getD j 0 < 128 by decide) j (by omega)
      rw [hx] at ch
      have i2 := ih (j + 1) w (by omega) hw2 (by omega)
      rw [if_neg c, h7, nI_add, nI_clamp (by omega), bb.1, ch.2, nI_i1]
      have v := vp_in_nI (n := p + j) (N := 65536) (by omega) (by decide)
      have se := sbE bb.2 hx9
      unfold eqw
      by_cases e : b (p + j) = x
      · rw [if_pos (se.mpr e), decide_eq_true e, Bool.true_and]
        exact ⟨⟨⟨trivial, trivial⟩, fun q => absurd q c, fun _ => ⟨v, ch.1, fun _ => i2.1, fun q => absurd (se.mpr e) q⟩⟩, i2.2⟩
      · have e' : ¬ sb (b (p + j)) = nI x := fun q => e (se.mp q)
        rw [if_neg e', decide_eq_false e, Bool.false_and]
        exact ⟨⟨⟨trivial, trivial⟩, fun q => absurd q c, fun _ => ⟨v, ch.1, fun q => absurd q e', fun _ => trivial⟩⟩, rfl⟩
theorem m_is_28 {M : Mm} {i : Nat} (hB : mBy M b L) (h : mQ b L i M) : pMo_is_28 32 M ∧ fMo_is_28 32 M = (0, 0, if tK b L i = 40 then 1 else 0, M) := by
  have hb := fun q hq => (hB.2.2.1 q hq).2
  have hl := hB.2.1
  have tin := tok_in (i := i) hb (tF_le hb i)
  have k48 : tK b L i < 48 := tin.2.1
  have zin : tF b L i + tZ b L i ≤ L := tin.1
  have p := m_pks h
  have el : fSg_length_28 = nI 2 := (show (2 : Int32) >>> ((0 : Int32) &&& 31) = nI 2 by decide)
  unfold pMo_is_28 fMo_is_28
  rw [p.2, if_pos rfl]
  dsimp only
  refine (fun (z : _ ∧ _) => ⟨⟨p.1, fun _ => z.1⟩, z.2⟩) ?_
  unfold pMo_is_28_4 fMo_is_28_4 pMo_is_28_24 fMo_is_28_24
  by_cases c1 : 29 ≤ tK b L i ∧ tK b L i ≤ 43
  rotate_left
  · have n1 : ¬ nI (mt (tK b L i)) = 1 := fun q => c1 ((mt_1 _ k48).1.mp q)
    rw [if_neg n1, if_neg (by omega)]
    exact ⟨⟨fun q => absurd q n1, fun _ => trivial⟩, rfl⟩
  have n1 : nI (mt (tK b L i)) = 1 := (mt_1 _ k48).1.mpr c1
  have wk : tK b L i = wkind b (tF b L i) (tZ b L i) := tok_wk c1
  have wi := wki_28 (b := b) (tF b L i) (tZ b L i) (tin.2.2.1 (show tK b L i < 45 by omega))
  rw [if_pos n1, h.2.2.2.2.1, h.2.2.2.1, pk_sub (by omega), Nat.add_sub_cancel_left, el]
  refine (fun (z : _ ∧ _) => ⟨⟨fun _ => ⟨⟨trivial, trivial⟩, z.1⟩, fun q => absurd n1 q⟩, z.2⟩) ?_
  by_cases c2 : tZ b L i = 2
  · have x := m_iw_28 hB h.2.2.2.1 (by omega) 32 0 [69, 70] rfl rfl (by decide)
    rw [nI_0, Nat.add_zero] at x
    have c2' : nI (tZ b L i) = nI 2 := by rw [c2]
    rw [if_pos c2', x.2]
    refine ⟨⟨fun _ => x.1, fun q => absurd c2' q⟩, ?_⟩
    by_cases e : eqw b (tF b L i) [69, 70] = true
    · rw [if_pos e, if_pos (wk.trans (wi.mpr ⟨c2, e⟩))]
    · rw [if_neg e, if_neg (fun q => e (wi.mp (wk.symm.trans q)).2)]
  · have c2' : ¬ nI (tZ b L i) = nI 2 := fun q => c2 ((nI_eq (by omega) (by decide)).mp q)
    rw [if_neg c2', if_neg (fun q => c2 (wi.mp (wk.symm.trans q)).1)]
    exact ⟨⟨fun q => absurd q c2', fun _ => trivial⟩, rfl⟩
theorem wki_29 (p z : Nat) (hz : 0 < z) : wkind b p z = 41 ↔ z = 2 ∧ eqw b p [65, 71] = true := by
  unfold wkind wkS wkL
  simp only [eqw, Bool.and_eq_true, decide_eq_true_eq, and_true]
  repeat' split
  all_goals omega
theorem m_ch_29 : ∀ j, j < 2 → pSg_charAt_29 (nI j) ∧ fSg_charAt_29 (nI j) = nI ([65, 71].getD j 0) := by
  intro j hj
  have e := (show ∀ j, j < 2 → fSg_charAt_29 (nI j) = nI ([65, 71].getD j 0) by decide +kernel) j hj
  have h9 := (show ∀ j, j < 2 → [65, 71].getD j 0 < 256 by decide) j hj
  have en : narrow .char (.int (fSg_charAt_29 (nI j))) = .int (fSg_charAt_29 (nI j)) := by rw [e]; exact nar_c h9
  exact ⟨⟨trivial, ⟨ckI hj (by decide), vp_in_nI hj (by decide), en⟩, en⟩, e⟩
theorem m_iw_29 {M : Mm} {p : Nat} (hB : mBy M b L) (h7 : M 40 7 = nI p) (hp : p + 2 ≤ L) : ∀ (k j : Nat) (w : List Nat), j + w.length = 2 → w = [65, 71].drop j → w.length < k → pMo_is_29_28 k (nI j) M ∧ fMo_is_29_28 k (nI j) M = (0, 0, if eqw b (p + j) w = true then 1 else 0, M) := by
  have hl := hB.2.1
  have el : fSg_length_29 = nI 2 := (show (2 : Int32) >>> ((0 : Int32) &&& 31) = nI 2 by decide)
  intro k
  induction k with
  | zero => intro j w _ _ hk; omega
  | succ k ih =>
    intro j w hj hw hk
    rw [pMo_is_29_28.eq_2, fMo_is_29_28.eq_2, el]
    cases w with
    | nil =>
      have c : nI 2 ≤ nI j := nI_le (by simp only [List.length_nil] at hj; omega) (by simp only [List.length_nil] at hj; omega)
      rw [if_pos c]
      exact ⟨⟨⟨trivial, trivial⟩, fun _ => trivial, fun q => absurd c q⟩, rfl⟩
    | cons x w =>
      simp only [List.length_cons] at hj hk
      have c : ¬ nI 2 ≤ nI j := nI_ge (by omega) (by decide)
      have bb := hB.2.2.1 (p + j) (by omega)
      have ch := m_ch_29 j (by omega)
      have hx : [65, 71].getD j 0 = x := by
        have := congrArg (fun l : List Nat => l.head?) hw
        simp only [List.head?_cons, List.head?_drop] at this
        rw [List.getD_eq_getElem?_getD, ← this]; rfl
      have hw2 : w = [65, 71].drop (j + 1) := by
        have := congrArg List.tail hw
        rw [List.tail_drop] at this
        exact this
      have hx9 : x < 128 := by rw [← hx]; exact (show ∀ j, j < 2 → [65, 71].getD j 0 < 128 by decide) j (by omega)
      rw [hx] at ch
      have i2 := ih (j + 1) w (by omega) hw2 (by omega)
      rw [if_neg c, h7, nI_add, nI_clamp (by omega), bb.1, ch.2, nI_i1]
      have v := vp_in_nI (n := p + j) (N := 65536) (by omega) (by decide)
      have se := sbE bb.2 hx9
      unfold eqw
      by_cases e : b (p + j) = x
      · rw [if_pos (se.mpr e), decide_eq_true e, Bool.true_and]
        exact ⟨⟨⟨trivial, trivial⟩, fun q => absurd q c, fun _ => ⟨v, ch.1, fun _ => i2.1, fun q => absurd (se.mpr e) q⟩⟩, i2.2⟩
      · have e' : ¬ sb (b (p + j)) = nI x := fun q => e (se.mp q)
        rw [if_neg e', decide_eq_false e, Bool.false_and]
        exact ⟨⟨⟨trivial, trivial⟩, fun q => absurd q c, fun _ => ⟨v, ch.1, fun q => absurd q e', fun _ => trivial⟩⟩, rfl⟩
theorem m_is_29 {M : Mm} {i : Nat} (hB : mBy M b L) (h : mQ b L i M) : pMo_is_29 32 M ∧ fMo_is_29 32 M = (0, 0, if tK b L i = 41 then 1 else 0, M) := by
  have hb := fun q hq => (hB.2.2.1 q hq).2
  have hl := hB.2.1
  have tin := tok_in (i := i) hb (tF_le hb i)
  have k48 : tK b L i < 48 := tin.2.1
  have zin : tF b L i + tZ b L i ≤ L := tin.1
  have p := m_pks h
  have el : fSg_length_29 = nI 2 := (show (2 : Int32) >>> ((0 : Int32) &&& 31) = nI 2 by decide)
  unfold pMo_is_29 fMo_is_29
  rw [p.2, if_pos rfl]
  dsimp only
  refine (fun (z : _ ∧ _) => ⟨⟨p.1, fun _ => z.1⟩, z.2⟩) ?_
  unfold pMo_is_29_4 fMo_is_29_4 pMo_is_29_24 fMo_is_29_24
  by_cases c1 : 29 ≤ tK b L i ∧ tK b L i ≤ 43
  rotate_left
  · have n1 : ¬ nI (mt (tK b L i)) = 1 := fun q => c1 ((mt_1 _ k48).1.mp q)
    rw [if_neg n1, if_neg (by omega)]
    exact ⟨⟨fun q => absurd q n1, fun _ => trivial⟩, rfl⟩
  have n1 : nI (mt (tK b L i)) = 1 := (mt_1 _ k48).1.mpr c1
  have wk : tK b L i = wkind b (tF b L i) (tZ b L i) := tok_wk c1
  have wi := wki_29 (b := b) (tF b L i) (tZ b L i) (tin.2.2.1 (show tK b L i < 45 by omega))
  rw [if_pos n1, h.2.2.2.2.1, h.2.2.2.1, pk_sub (by omega), Nat.add_sub_cancel_left, el]
  refine (fun (z : _ ∧ _) => ⟨⟨fun _ => ⟨⟨trivial, trivial⟩, z.1⟩, fun q => absurd n1 q⟩, z.2⟩) ?_
  by_cases c2 : tZ b L i = 2
  · have x := m_iw_29 hB h.2.2.2.1 (by omega) 32 0 [65, 71] rfl rfl (by decide)
    rw [nI_0, Nat.add_zero] at x
    have c2' : nI (tZ b L i) = nI 2 := by rw [c2]
    rw [if_pos c2', x.2]
    refine ⟨⟨fun _ => x.1, fun q => absurd c2' q⟩, ?_⟩
    by_cases e : eqw b (tF b L i) [65, 71] = true
    · rw [if_pos e, if_pos (wk.trans (wi.mpr ⟨c2, e⟩))]
    · rw [if_neg e, if_neg (fun q => e (wi.mp (wk.symm.trans q)).2)]
  · have c2' : ¬ nI (tZ b L i) = nI 2 := fun q => c2 ((nI_eq (by omega) (by decide)).mp q)
    rw [if_neg c2', if_neg (fun q => c2 (wi.mp (wk.symm.trans q)).1)]
    exact ⟨⟨fun q => absurd q c2', fun _ => trivial⟩, rfl⟩
theorem wki_30 (p z : Nat) (hz : 0 < z) : wkind b p z = 42 ↔ z = 2 ∧ eqw b p [69, 71] = true := by
  unfold wkind wkS wkL
  simp only [eqw, Bool.and_eq_true, decide_eq_true_eq, and_true]
  repeat' split
  all_goals omega
theorem m_ch_30 : ∀ j, j < 2 → pSg_charAt_30 (nI j) ∧ fSg_charAt_30 (nI j) = nI ([69, 71].getD j 0) := by
  intro j hj
  have e := (show ∀ j, j < 2 → fSg_charAt_30 (nI j) = nI ([69, 71].getD j 0) by decide +kernel) j hj
  have h9 := (show ∀ j, j < 2 → [69, 71].getD j 0 < 256 by decide) j hj
  have en : narrow .char (.int (fSg_charAt_30 (nI j))) = .int (fSg_charAt_30 (nI j)) := by rw [e]; exact nar_c h9
  exact ⟨⟨trivial, ⟨ckI hj (by decide), vp_in_nI hj (by decide), en⟩, en⟩, e⟩
theorem m_iw_30 {M : Mm} {p : Nat} (hB : mBy M b L) (h7 : M 40 7 = nI p) (hp : p + 2 ≤ L) : ∀ (k j : Nat) (w : List Nat), j + w.length = 2 → w = [69, 71].drop j → w.length < k → pMo_is_30_28 k (nI j) M ∧ fMo_is_30_28 k (nI j) M = (0, 0, if eqw b (p + j) w = true then 1 else 0, M) := by
  have hl := hB.2.1
  have el : fSg_length_30 = nI 2 := (show (2 : Int32) >>> ((0 : Int32) &&& 31) = nI 2 by decide)
  intro k
  induction k with
  | zero => intro j w _ _ hk; omega
  | succ k ih =>
    intro j w hj hw hk
    rw [pMo_is_30_28.eq_2, fMo_is_30_28.eq_2, el]
    cases w with
    | nil =>
      have c : nI 2 ≤ nI j := nI_le (by simp only [List.length_nil] at hj; omega) (by simp only [List.length_nil] at hj; omega)
      rw [if_pos c]
      exact ⟨⟨⟨trivial, trivial⟩, fun _ => trivial, fun q => absurd c q⟩, rfl⟩
    | cons x w =>
      simp only [List.length_cons] at hj hk
      have c : ¬ nI 2 ≤ nI j := nI_ge (by omega) (by decide)
      have bb := hB.2.2.1 (p + j) (by omega)
      have ch := m_ch_30 j (by omega)
      have hx : [69, 71].getD j 0 = x := by
        have := congrArg (fun l : List Nat => l.head?) hw
        simp only [List.head?_cons, List.head?_drop] at this
        rw [List.getD_eq_getElem?_getD, ← this]; rfl
      have hw2 : w = [69, 71].drop (j + 1) := by
        have := congrArg List.tail hw
        rw [List.tail_drop] at this
        exact this
      have hx9 : x < 128 := by rw [← hx]; exact (show ∀ j, j < 2 → [69, 71].getD j 0 < 128 by decide) j (by omega)
      rw [hx] at ch
      have i2 := ih (j + 1) w (by omega) hw2 (by omega)
      rw [if_neg c, h7, nI_add, nI_clamp (by omega), bb.1, ch.2, nI_i1]
      have v := vp_in_nI (n := p + j) (N := 65536) (by omega) (by decide)
      have se := sbE bb.2 hx9
      unfold eqw
      by_cases e : b (p + j) = x
      · rw [if_pos (se.mpr e), decide_eq_true e, Bool.true_and]
        exact ⟨⟨⟨trivial, trivial⟩, fun q => absurd q c, fun _ => ⟨v, ch.1, fun _ => i2.1, fun q => absurd (se.mpr e) q⟩⟩, i2.2⟩
      · have e' : ¬ sb (b (p + j)) = nI x := fun q => e (se.mp q)
        rw [if_neg e', decide_eq_false e, Bool.false_and]
        exact ⟨⟨⟨trivial, trivial⟩, fun q => absurd q c, fun _ => ⟨v, ch.1, fun q => absurd q e', fun _ => trivial⟩⟩, rfl⟩
theorem m_is_30 {M : Mm} {i : Nat} (hB : mBy M b L) (h : mQ b L i M) : pMo_is_30 32 M ∧ fMo_is_30 32 M = (0, 0, if tK b L i = 42 then 1 else 0, M) := by
  have hb := fun q hq => (hB.2.2.1 q hq).2
  have hl := hB.2.1
  have tin := tok_in (i := i) hb (tF_le hb i)
  have k48 : tK b L i < 48 := tin.2.1
  have zin : tF b L i + tZ b L i ≤ L := tin.1
  have p := m_pks h
  have el : fSg_length_30 = nI 2 := (show (2 : Int32) >>> ((0 : Int32) &&& 31) = nI 2 by decide)
  unfold pMo_is_30 fMo_is_30
  rw [p.2, if_pos rfl]
  dsimp only
  refine (fun (z : _ ∧ _) => ⟨⟨p.1, fun _ => z.1⟩, z.2⟩) ?_
  unfold pMo_is_30_4 fMo_is_30_4 pMo_is_30_24 fMo_is_30_24
  by_cases c1 : 29 ≤ tK b L i ∧ tK b L i ≤ 43
  rotate_left
  · have n1 : ¬ nI (mt (tK b L i)) = 1 := fun q => c1 ((mt_1 _ k48).1.mp q)
    rw [if_neg n1, if_neg (by omega)]
    exact ⟨⟨fun q => absurd q n1, fun _ => trivial⟩, rfl⟩
  have n1 : nI (mt (tK b L i)) = 1 := (mt_1 _ k48).1.mpr c1
  have wk : tK b L i = wkind b (tF b L i) (tZ b L i) := tok_wk c1
  have wi := wki_30 (b := b) (tF b L i) (tZ b L i) (tin.2.2.1 (show tK b L i < 45 by omega))
  rw [if_pos n1, h.2.2.2.2.1, h.2.2.2.1, pk_sub (by omega), Nat.add_sub_cancel_left, el]
  refine (fun (z : _ ∧ _) => ⟨⟨fun _ => ⟨⟨trivial, trivial⟩, z.1⟩, fun q => absurd n1 q⟩, z.2⟩) ?_
  by_cases c2 : tZ b L i = 2
  · have x := m_iw_30 hB h.2.2.2.1 (by omega) 32 0 [69, 71] rfl rfl (by decide)
    rw [nI_0, Nat.add_zero] at x
    have c2' : nI (tZ b L i) = nI 2 := by rw [c2]
    rw [if_pos c2', x.2]
    refine ⟨⟨fun _ => x.1, fun q => absurd c2' q⟩, ?_⟩
    by_cases e : eqw b (tF b L i) [69, 71] = true
    · rw [if_pos e, if_pos (wk.trans (wi.mpr ⟨c2, e⟩))]
    · rw [if_neg e, if_neg (fun q => e (wi.mp (wk.symm.trans q)).2)]
  · have c2' : ¬ nI (tZ b L i) = nI 2 := fun q => c2 ((nI_eq (by omega) (by decide)).mp q)
    rw [if_neg c2', if_neg (fun q => c2 (wi.mp (wk.symm.trans q)).1)]
    exact ⟨⟨fun q => absurd q c2', fun _ => trivial⟩, rfl⟩
end
