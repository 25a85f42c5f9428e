/-! MODEL'S LINES 9: the loop -/
theorem mt_45 : ∀ k, k < 48 → k ≠ 47 → (nI (mt k) = 0 ↔ k = 45) := by decide +kernel
section
variable {b : Nat → Nat} {L : Nat} {n : Nat}
set_option maxHeartbeats 4000000 in
theorem m_lines (hE : bE (tB b L) n) : ∀ (m n' : Nat) (s : LSt) (N : Nat) (F : FT) (RB : List (Nat × Nat)) (D : List Itm) (SP : List Cd) (M : Mm), lW n s → mL b L s N F RB D SP M → N ≤ s.1 → F.length ≤ s.1 → 4001 ≤ m + s.1 → 4001 ≤ n' + s.1 → pMo_lines n' M ∧ ML2 b L n M (sp_lines (tB b L) m s) (fMo_lines n' M) := by
  have hn4 := hE.2.1
  intro m
  induction m with
  | zero =>
    intro n' s N F RB D SP M hW h hN hF hm hn'
    have hi : s.1 < n := by obtain ⟨i, co, Nm, CL, CF, Hn, rb, ib, sp, fi⟩ := s; exact hW.2.1.1
    omega
  | succ m ih =>
    intro n' s N F RB D SP M hW h hN hF hm hn'
    have hi : s.1 < n := by obtain ⟨i, co, Nm, CL, CF, Hn, rb, ib, sp, fi⟩ := s; exact hW.2.1.1
    obtain ⟨n', rfl⟩ : ∃ k, n' = k + 1 := ⟨n' - 1, by omega⟩
    have T : mN b L s.1 M ∧ mBy M b L := by obtain ⟨i, co, Nm, CL, CF, Hn, rb, ib, sp, fi⟩ := s; exact ⟨h.1.1.2.1, h.1.1.1⟩
    have k48 : tK b L s.1 < 48 := hE.2.2.1 _ hi
    rw [pMo_lines.eq_2, fMo_lines.eq_2]
    by_cases k47 : tK b L s.1 = 47
    · have p := m_pk47 T.2 (by omega) T.1 k47
      have el : sp_line (tB b L) s = lf 4 s.1 := by
        have eb : (tB b L).1 s.1 = tK b L s.1 := rfl
        unfold sp_line
        rw [eb, if_neg (by omega), if_neg (by omega), if_neg (by omega), if_neg (by omega), if_neg (by omega)]
        exact l_noF k47
      rw [slG (show (tB b L).1 s.1 ≠ 45 from by show tK b L s.1 ≠ 45; omega), el, if_neg (show ¬ (lf 4 s.1).1 = 0 by show ¬ (4 : Nat) = 0; decide)]
      exact mq1 p.1 (by rw [p.2.1]; decide) (ML2_f (by decide) p.2.1 p.2.2.1 p.2.2.2)
    obtain ⟨M1, p1, p2, p3, p4⟩ := m_pk T.2 (by omega) T.1 k47
    rw [p2]
    refine mq0 p1 rfl ?_
    dsimp only
    have h1 : mL b L s N F RB D SP M1 := mL_f (i := s.1) (u := s.2) h p4 (Or.inr p3)
    have hB1 := mBy_f T.2 p4
    have mw1 := mfr_w p4
    unfold pMo_lines_4 fMo_lines_4
    by_cases k45 : tK b L s.1 = 45
    · have es : sp_lines (tB b L) (m + 1) s = (0, 0, s) := by rw [sp_lines.eq_2]; exact if_pos k45
      rw [es]
      exact itp ((mt_45 _ k48 k47).mpr k45) ⟨trivial, fun _ => ⟨rfl, ⟨N, F, RB, D, SP, h1, hN, hF⟩, hW, mw1⟩, fun q => absurd rfl q⟩
    refine itn (fun q => k45 ((mt_45 _ k48 k47).mp q)) ?_
    have i17 := m_is_17 hB1 p3
    have i18 := m_is_18 hB1 p3
    have i19 := m_is_19 hB1 p3
    have i20 := m_is_20 hB1 p3
    have i21 := m_is_21 hB1 p3
    have eb : (tB b L).1 s.1 = tK b L s.1 := rfl
    rw [i17.2]
    refine mq0 i17.1 rfl ?_
    dsimp only
    unfold pMo_lines_13 fMo_lines_13 pMo_lines_20 fMo_lines_20
    by_cases k29 : tK b L s.1 = 29
    · rw [if_pos k29]
      refine itn (by decide) (ml_end hE hW mw1 k45 hm hn' ?_ (ih n'))
      have el : sp_line (tB b L) s = sp_reg (tB b L) s := if_pos k29
      rw [el]
      exact ml_reg hE hW h1 p3 k29 hN hF
    rw [if_neg k29]
    refine itp rfl ?_
    rw [i18.2]
    refine mq0 i18.1 rfl ?_
    dsimp only
    unfold pMo_lines_29 fMo_lines_29 pMo_lines_36 fMo_lines_36
    by_cases k30 : tK b L s.1 = 30
    · rw [if_pos k30]
      refine itn (by decide) (ml_end hE hW mw1 k45 hm hn' ?_ (ih n'))
      have el : sp_line (tB b L) s = sp_input (tB b L) s := by unfold sp_line; rw [eb, if_neg k29, if_pos k30]
      rw [el]
      exact ml_input hE hW h1 p3 k30 hN hF
    rw [if_neg k30]
    refine itp rfl ?_
    rw [i19.2]
    refine mq0 i19.1 rfl ?_
    dsimp only
    unfold pMo_lines_45 fMo_lines_45 pMo_lines_52 fMo_lines_52
    by_cases k31 : tK b L s.1 = 31
    · rw [if_pos k31]
      refine itn (by decide) (ml_end hE hW mw1 k45 hm hn' ?_ (ih n'))
      have el : sp_line (tB b L) s = sp_wire (tB b L) s := by unfold sp_line; rw [eb, if_neg k29, if_neg k30, if_pos k31]
      rw [el]
      exact ml_wire hE hW h1 p3 k31 hN hF
    rw [if_neg k31]
    refine itp rfl ?_
    rw [i20.2]
    refine mq0 i20.1 rfl ?_
    dsimp only
    unfold pMo_lines_61 fMo_lines_61 pMo_lines_68 fMo_lines_68
    by_cases k32 : tK b L s.1 = 32
    · rw [if_pos k32]
      refine itn (by decide) (ml_end hE hW mw1 k45 hm hn' ?_ (ih n'))
      have el : sp_line (tB b L) s = sp_next (tB b L) s := by unfold sp_line; rw [eb, if_neg k29, if_neg k30, if_neg k31, if_pos k32]
      rw [el]
      exact ml_next hE hW h1 p3 k32 hN hF
    rw [if_neg k32]
    refine itp rfl ?_
    rw [i21.2]
    refine mq0 i21.1 rfl ?_
    dsimp only
    unfold pMo_lines_77 fMo_lines_77 pMo_lines_84 fMo_lines_84
    by_cases k33 : tK b L s.1 = 33
    · rw [if_pos k33]
      refine itn (by decide) (ml_end hE hW mw1 k45 hm hn' ?_ (ih n'))
      have el : sp_line (tB b L) s = sp_spec (tB b L) s := by unfold sp_line; rw [eb, if_neg k29, if_neg k30, if_neg k31, if_neg k32, if_pos k33]
      rw [el]
      exact ml_spec hE hW h1 p3 k33 hN hF
    rw [if_neg k33]
    refine itp rfl ?_
    have el : sp_line (tB b L) s = lf 1 s.1 := by
      unfold sp_line
      rw [eb, if_neg k29, if_neg k30, if_neg k31, if_neg k32, if_neg k33]
      exact l_noN k47
    have cn := m_cant p3
    rw [slG (show (tB b L).1 s.1 ≠ 45 from k45), el, if_neg (show ¬ (lf 1 s.1).1 = 0 by show ¬ (1 : Nat) = 0; decide), cn.2]
    exact ⟨cn.1, ML2_f (by decide) rfl rfl mw1⟩
end
