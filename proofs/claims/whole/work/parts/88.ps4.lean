/-! PARSE 4 (code 7): code grows; signs settle; after a FAULT -/
theorem geQ0_L (m : Nat) (x0 x1 : Int32) (I : Mm) (J : Ml) : ge_L_Q (m + 1) 0 x0 x1 I J = pRd_readExpression_L (ge_L_F m) (ge_L_Q m) x0 I J := by rw [ge_L_Q.eq_2]; exact if_pos rfl
theorem geF0_L (m : Nat) (x0 x1 : Int32) (I : Mm) (J : Ml) : ge_L_F (m + 1) 0 x0 x1 I J = fRd_readExpression_L (ge_L_F m) x0 I J := by rw [ge_L_F.eq_2]; exact if_pos rfl
theorem geQ1_L (m : Nat) (x0 x1 : Int32) (I : Mm) (J : Ml) : ge_L_Q (m + 1) 1 x0 x1 I J = pRd_readOperands_L (ge_L_F m) (ge_L_Q m) 4002 x0 I J := by rw [ge_L_Q.eq_2, if_neg (by decide)]; exact if_pos rfl
theorem geF1_L (m : Nat) (x0 x1 : Int32) (I : Mm) (J : Ml) : ge_L_F (m + 1) 1 x0 x1 I J = fRd_readOperands_L (ge_L_F m) 4002 x0 I J := by rw [ge_L_F.eq_2, if_neg (by decide)]; exact if_pos rfl
theorem geQ2_L (m : Nat) (x0 x1 : Int32) (I : Mm) (J : Ml) : ge_L_Q (m + 1) 2 x0 x1 I J = pRd_readUnary_L (ge_L_F m) (ge_L_Q m) x0 I J := by rw [ge_L_Q.eq_2, if_neg (by decide), if_neg (by decide)]; exact if_pos rfl
theorem geF2_L (m : Nat) (x0 x1 : Int32) (I : Mm) (J : Ml) : ge_L_F (m + 1) 2 x0 x1 I J = fRd_readUnary_L (ge_L_F m) x0 I J := by rw [ge_L_F.eq_2, if_neg (by decide), if_neg (by decide)]; exact if_pos rfl
theorem geQ3_L (m : Nat) (x0 x1 : Int32) (I : Mm) (J : Ml) : ge_L_Q (m + 1) 3 x0 x1 I J = pRd_readAltered_L (ge_L_F m) (ge_L_Q m) x0 x1 I J := by rw [ge_L_Q.eq_2, if_neg (by decide), if_neg (by decide), if_neg (by decide)]; exact if_pos rfl
theorem geF3_L (m : Nat) (x0 x1 : Int32) (I : Mm) (J : Ml) : ge_L_F (m + 1) 3 x0 x1 I J = fRd_readAltered_L (ge_L_F m) x0 x1 I J := by rw [ge_L_F.eq_2, if_neg (by decide), if_neg (by decide), if_neg (by decide)]; exact if_pos rfl
section
variable {A : Mm} {i co e w : Nat} {W : List Nat} {C : Cd} {I : Mm} {J : Ml} {T : TT} {n : Nat}
theorem cS_add_L (h : cS A 7 i W C co I) (hC : C.length < 4000) (o b : Nat) : pCo_add_L (nI o) (nI b) I J ∧ cS A 7 i W (C ++ [(o, b)]) co (fCo_add_L (nI o) (nI b) I J) := by
  obtain ⟨f, h39, h2, h3, h7, h9, hs16, hl, hc⟩ := h
  have c : ¬ (4000 : Int32) ≤ nI C.length := nI_ge (a := C.length) (b := 4000) hC (by decide)
  unfold pCo_add_L fCo_add_L
  rw [hl, if_neg c, nI_clamp (by omega), nI_1]
  refine ⟨⟨fun q => absurd q c, fun _ => ⟨vp_in_nI hC (by decide), vp_in_nI hC (by decide), trivial⟩⟩, fr_u (by unfold rwOk; omega) (fr_u (by unfold rwOk; omega) (fr_u (by unfold rwOk; omega) f)), ?_, ?_, ?_, ?_, ?_, ?_, ?_, ?_⟩
  · rw [pm_u_n _ _ _ (by decide), pm_u_n _ _ _ (by decide), pm_u_n _ _ _ (by decide)]; exact h39
  · rw [pm_u_n _ _ _ (by decide), pm_u_n _ _ _ (by decide), pm_u_n _ _ _ (by decide)]; exact h2
  · rw [pm_u_n _ _ _ (by decide), pm_u_n _ _ _ (by decide), pm_u_n _ _ _ (by decide)]; exact h3
  · rw [pm_u_n _ _ _ (by decide), pm_u_n _ _ _ (by decide), pm_u_n _ _ _ (by decide)]; exact h7
  · rw [pm_u_n _ _ _ (by decide), pm_u_n _ _ _ (by decide), pm_u_n _ _ _ (by decide)]; exact h9
  · exact stk_c (by rw [pm_u_n _ _ _ (by decide), pm_u_n _ _ _ (by decide), pm_u_n _ _ _ (by decide)]) W hs16
  · rw [pm_u_s, List.length_append]; rfl
  · exact ⟨cod_c (I := pm_u (pm_u I (7 + 1) C.length (nI o)) (7 + 2) C.length (nI b)) (by rw [pm_u_n _ _ _ (by decide)]) (by rw [pm_u_n _ _ _ (by decide)]) (cod_a (o, b) hc.1), by rw [pm_u_n _ _ _ (by decide), pm_u_n _ _ _ (by decide), pm_u_n _ _ _ (by decide)]; exact hc.2⟩
theorem cS_pop_L {k : Nat} (h : cS A 7 i (k :: W) C co I) : cS A 7 i W C co (pm_u I 13 7 (nI W.length)) := by
  obtain ⟨f, h39, h2, h3, h7, h9, hs16, hl, hc⟩ := h
  refine ⟨fr_u (by unfold rwOk; omega) f, ?_, ?_, ?_, ?_, ?_, ?_, ?_, ?_⟩
  · rw [pm_u_n _ _ _ (by decide)]; exact h39
  · rw [pm_u_j _ _ _ (by decide)]; exact h2
  · rw [pm_u_j _ _ _ (by decide)]; exact h3
  · rw [pm_u_s]
  · rw [pm_u_j _ _ _ (by decide)]; exact h9
  · exact stk_c (by rw [pm_u_n _ _ _ (by decide)]) W hs16.2.2
  · rw [pm_u_n _ _ _ (by decide)]; exact hl
  · exact ⟨cod_c (by rw [pm_u_n _ _ _ (by decide)]) (by rw [pm_u_n _ _ _ (by decide)]) hc.1, by rw [pm_u_j _ _ _ (by decide)]; exact hc.2⟩
theorem cS_set_L {b t : Nat} : ∀ (V : List Nat) (W : List Nat) (C : Cd) (m : Nat) (I : Mm), cS A 7 i (V ++ W) C co I → (∀ k ∈ V, t ≤ tyt k) → b ≤ W.length → (W.length = b ∨ ∃ k W', W = k :: W' ∧ tyt k < t) → V.length < m → (V ++ W).length ≤ 125 → C.length + V.length ≤ 4000 → t ≤ 10 → pRd_settle_L m (nI b) (nI t) I J ∧ cS A 7 i W (C ++ V.map (fun k => (k, 0))) co (fRd_settle_L m (nI b) (nI t) I J) := by
  intro V
  induction V with
  | nil =>
    intro W C m I h _ hb hw hm hl _ ht
    obtain ⟨m, rfl⟩ : ∃ m', m = m' + 1 := ⟨m - 1, by simp only [List.length_nil] at hm; omega⟩
    rw [List.nil_append] at h hl
    have h7 := h.2.2.2.2.1
    simp only [List.map_nil, List.append_nil]
    rw [pRd_settle_L.eq_2, fRd_settle_L.eq_2]
    rw [h7]
    rcases hw with hw | ⟨k, W', rfl, hk⟩
    · have c : nI W.length ≤ nI b := nI_le (by omega) (by omega)
      rw [if_pos c]
      exact ⟨⟨fun _ => trivial, fun q => absurd c q⟩, h⟩
    · have hs := h.2.2.2.2.2.2.1
      have ft := fti I J k (by have := hs.2.1; omega)
      have e1 : nI (k :: W').length - 1 = nI W'.length := nI_pred W'.length
      have c2 : nI (tyt k) < nI t := nI_lt hk (by omega)
      have hlw : W'.length < 125 := by simp only [List.length_cons] at hl; omega
      by_cases c : nI (k :: W').length ≤ nI b
      · rw [if_pos c]
        exact ⟨⟨fun _ => trivial, fun q => absurd c q⟩, h⟩
      · rw [if_neg c, e1, nI_clamp (by omega), hs.1, ft.2, if_pos c2]
        exact ⟨⟨fun q => absurd q c, fun _ => ⟨vp_in_nI hlw (by decide), ft.1, fun _ => trivial, fun q => absurd c2 q⟩⟩, h⟩
  | cons k V ih =>
    intro W C m I h ht1 hb hw hm hl hc4 ht
    obtain ⟨m, rfl⟩ : ∃ m', m = m' + 1 := ⟨m - 1, by simp only [List.length_cons] at hm; omega⟩
    have h7 := h.2.2.2.2.1
    rw [List.cons_append] at h h7 hl
    have hs := h.2.2.2.2.2.2.1
    have ft := fti I J k (by have := hs.2.1; omega)
    have e1 : nI (k :: (V ++ W)).length - 1 = nI (V ++ W).length := nI_pred (V ++ W).length
    have hlw : (V ++ W).length < 125 := by simp only [List.length_cons] at hl; omega
    have hlb : b < (k :: (V ++ W)).length := by simp only [List.length_cons, List.length_append]; omega
    have c : ¬ nI (k :: (V ++ W)).length ≤ nI b := nI_ge hlb (by omega)
    have c2 : ¬ nI (tyt k) < nI t := nI_nlt (ht1 k List.mem_cons_self) (by have := tyt10 k; omega)
    have hp := cS_pop_L h
    have hk16 : (pm_u I 13 7 (nI (V ++ W).length)) 16 (V ++ W).length = nI k := by rw [pm_u_n _ _ _ (by decide)]; exact hs.1
    have ha := cS_add_L (J := J) hp (by simp only [List.length_cons] at hc4; omega) k 0
    have hi := ih W (C ++ [(k, 0)]) m _ ha.2 (fun x hx => ht1 x (List.mem_cons_of_mem _ hx)) hb hw (by simp only [List.length_cons] at hm; omega) (by omega) (by simp only [List.length_append, List.length_cons, List.length_nil] at hc4 ⊢; omega) ht
    rw [pRd_settle_L.eq_2, fRd_settle_L.eq_2]
    unfold pRd_settle_L_53 fRd_settle_L_53
    rw [h7, if_neg c, e1, nI_clamp (by omega), hs.1, ft.2, if_neg c2, hk16]
    refine ⟨⟨fun q => absurd q c, fun _ => ⟨vp_in_nI hlw (by decide), ft.1, fun q => absurd q c2, fun _ => ⟨vp_in_nI hlw (by decide), ha.1, hi.1⟩⟩⟩, ?_⟩
    have := hi.2
    rw [List.append_assoc] at this
    exact this
theorem cB_add_L (h : cB A 7 e w I) (y z : Int32) : pCo_add_L y z I J ∧ cB A 7 e w (fCo_add_L y z I J) := by
  have h' := h
  obtain ⟨f, ⟨n2, a2, b2⟩, ⟨n7, a7, b7⟩, ⟨n1, aq, bq⟩, hh⟩ := h'
  unfold pCo_add_L fCo_add_L
  by_cases c : (4000 : Int32) ≤ I 7 2
  · rw [if_pos c]; exact ⟨⟨fun _ => trivial, fun q => absurd c q⟩, h⟩
  · have hn : n1 < 4000 := by
      rw [bq] at c
      rcases Nat.lt_or_ge n1 4000 with h9 | h9
      · exact h9
      · exact absurd (nI_le (a := 4000) (b := n1) h9 (by omega)) c
    rw [if_neg c]
    refine ⟨⟨fun q => absurd q c, fun _ => ⟨by rw [bq]; exact vp_in_nI hn (by decide), by rw [bq]; exact vp_in_nI hn (by decide), trivial⟩⟩, fr_u (by unfold rwOk; omega) (fr_u (by unfold rwOk; omega) (fr_u (by unfold rwOk; omega) f)), ⟨n2, a2, ?_⟩, ⟨n7, a7, ?_⟩, ⟨n1 + 1, by omega, ?_⟩, ?_⟩
    · rw [pm_u_n _ _ _ (by decide), pm_u_n _ _ _ (by decide), pm_u_n _ _ _ (by decide)]; exact b2
    · rw [pm_u_n _ _ _ (by decide), pm_u_n _ _ _ (by decide), pm_u_n _ _ _ (by decide)]; exact b7
    · rw [pm_u_s, bq, nI_1]
    · rw [pm_u_n _ _ _ (by decide), pm_u_n _ _ _ (by decide), pm_u_n _ _ _ (by decide), pm_u_n _ _ _ (by decide), pm_u_n _ _ _ (by decide), pm_u_n _ _ _ (by decide)]; exact hh
theorem cB_set_L (b : Nat) (hb : b < 2 ^ 31) (y : Int32) : ∀ (m k : Nat) (I : Mm), cB A 7 e w I → I 13 7 = nI k → k < m → k ≤ 125 → pRd_settle_L m (nI b) y I J ∧ cB A 7 e w (fRd_settle_L m (nI b) y I J) := by
  intro m
  induction m with
  | zero => intro k I _ _ h; omega
  | succ m ih =>
    intro k I h h7 hm hk
    rw [pRd_settle_L.eq_2, fRd_settle_L.eq_2]
    unfold pRd_settle_L_53 fRd_settle_L_53
    rw [h7]
    by_cases c : nI k ≤ nI b
    · rw [if_pos c]; exact ⟨⟨fun _ => trivial, fun q => absurd c q⟩, h⟩
    · have k1 : 0 < k := by
        rcases Nat.eq_zero_or_pos k with h0 | h0
        · subst h0; exact absurd (nI_le (Nat.zero_le b) hb) c
        · exact h0
      obtain ⟨k, rfl⟩ : ∃ k', k = k' + 1 := ⟨k - 1, by omega⟩
      have e1 : nI (k + 1) - 1 = nI k := nI_pred k
      have h1 : cB A 7 e w (pm_u I 13 7 (nI k)) := by
        obtain ⟨f, ⟨n2, a2, b2⟩, -, ⟨n1, aq, bq⟩, hh⟩ := h
        refine ⟨fr_u (by unfold rwOk; omega) f, ⟨n2, a2, ?_⟩, ⟨k, by omega, ?_⟩, ⟨n1, aq, ?_⟩, ?_⟩
        · rw [pm_u_j _ _ _ (by decide)]; exact b2
        · rw [pm_u_s]
        · rw [pm_u_n _ _ _ (by decide)]; exact bq
        · rw [pm_u_j _ _ _ (by decide), pm_u_j _ _ _ (by decide), pm_u_j _ _ _ (by decide), pm_u_j _ _ _ (by decide), pm_u_n _ _ _ (by decide)]; exact hh
      rw [if_neg c, e1]
      by_cases c2 : fRd_tightness (I 16 (nI k).toNatClampNeg) I J < y
      · rw [if_pos c2]
        exact ⟨⟨fun q => absurd q c, fun _ => ⟨vp_in_nI (by omega) (by decide), ti_p _ _ _, fun _ => trivial, fun q => absurd c2 q⟩⟩, h⟩
      · rw [if_neg c2]
        have ha := cB_add_L (J := J) h1 ((pm_u I 13 7 (nI k)) 16 (nI k).toNatClampNeg) 0
        have h77 : (fCo_add_L ((pm_u I 13 7 (nI k)) 16 (nI k).toNatClampNeg) 0 (pm_u I 13 7 (nI k)) J) 13 7 = nI k := by
          unfold fCo_add_L
          by_cases c4 : (4000 : Int32) ≤ (pm_u I 13 7 (nI k)) 7 2
          · rw [if_pos c4, pm_u_s]
          · rw [if_neg c4, pm_u_n _ _ _ (by decide), pm_u_n _ _ _ (by decide), pm_u_n _ _ _ (by decide), pm_u_s]
        have hi := ih k _ ha.2 h77 (by omega) (by omega)
        exact ⟨⟨fun q => absurd q c, fun _ => ⟨vp_in_nI (by omega) (by decide), ti_p _ _ _, fun q => absurd q c2, fun _ => ⟨vp_in_nI (by omega) (by decide), ha.1, hi.1⟩⟩⟩, hi.2⟩
theorem cB_st_L (b : Nat) (hb : b < 2 ^ 31) (y : Int32) (h : cB A 7 e w I) : pRd_settle_L 126 (nI b) y I J ∧ cB A 7 e w (fRd_settle_L 126 (nI b) y I J) := by
  obtain ⟨n7, a7, b7⟩ := h.2.2.1
  exact cB_set_L b hb y 126 n7 I h b7 (by omega) a7
theorem cB_U_L (m : Nat) (y : Int32) (h : cB A 7 e w I) : ge_L_Q (m + 1) 2 y 0 I J ∧ cB A 7 e w (ge_L_F (m + 1) 2 y 0 I J) := by
  rw [geQ2_L, geF2_L]
  unfold pRd_readUnary_L fRd_readUnary_L
  have d := cB_deep (J := J) (Or.inl rfl) h y
  refine sq d.1 ?_
  generalize (fRd_isTooDeep y I J).1 = z0
  generalize (fRd_isTooDeep y I J).2 = I1 at d
  unfold pRd_readUnary_L_5 fRd_readUnary_L_5
  by_cases z : z0 = 0
  · have r := cB_refuse (J := J) (Or.inl rfl) d.2
    refine itp z ?_
    refine itn (cB_ne d.2 (s := 4) (by decide)) ?_
    refine itn (cB_ne d.2 (s := 13) (by decide)) ?_
    refine itn (cB_ne d.2 (s := 18) (by decide)) ?_
    refine itn (cB_ne d.2 (s := 19) (by decide)) ?_
    refine itn (cB_ne d.2 (s := 43) (by decide)) ?_
    refine itn (cB_ne d.2 (s := 44) (by decide)) ?_
    exact sqt r
  · exact itn z ⟨trivial, d.2⟩
theorem cB_L_L (m n : Nat) (hn : 0 < n) (y1 y3 : Int32) (b : Nat) (hb : b < 2 ^ 31) (h : cB A 7 e w I) : pRd_readOperands_L_12 (ge_L_F m) (ge_L_Q m) n y1 (nI b) y3 I J ∧ cB A 7 e w (fRd_readOperands_L_12 (ge_L_F m) n y1 (nI b) y3 I J) := by
  obtain ⟨n, rfl⟩ : ∃ n', n = n' + 1 := ⟨n - 1, by omega⟩
  have s := cB_st_L (J := J) b hb 1 h
  have ft : fRd_tightness (I 13 3) I J = 0 := by
    rcases cB_k h with k | k <;> rw [k]
    · exact (fti I J 47 (by decide)).2.trans (by decide)
    · exact (fti I J 48 (by decide)).2.trans (by decide)
  have c2 : fRd_tightness (I 13 3) I J ≤ 0 := by rw [ft]; decide
  rw [pRd_readOperands_L_12.eq_2, fRd_readOperands_L_12.eq_2]
  by_cases c : (4000 : Int32) < y3
  · exact itp c (sqt s)
  · refine itn c ?_
    exact sq (ti_p _ _ _) (itp c2 (sqt s))
theorem cB_O_L (m : Nat) (y : Int32) (h : cB A 7 e w I) : ge_L_Q (m + 2) 1 y 0 I J ∧ cB A 7 e w (ge_L_F (m + 2) 1 y 0 I J) := by
  rw [geQ1_L, geF1_L]
  have u := cB_U_L (J := J) m y h
  obtain ⟨n7, a7, b7⟩ := h.2.2.1
  unfold pRd_readOperands_L fRd_readOperands_L fRd_readOperands_L_10 pRd_readOperands_L_10
  rw [b7]
  exact sq u.1 (cB_L_L (m + 1) 4002 (by decide) y 0 n7 (by omega) u.2)
theorem cB_X_L (m : Nat) (y : Int32) (h : cB A 7 e w I) : ge_L_Q (m + 3) 0 y 0 I J ∧ cB A 7 e w (ge_L_F (m + 3) 0 y 0 I J) := by
  rw [geQ0_L, geF0_L]
  unfold pRd_readExpression_L fRd_readExpression_L
  have d := cB_deep (J := J) (Or.inl rfl) h y
  refine sq d.1 ?_
  generalize (fRd_isTooDeep y I J).1 = z0
  generalize (fRd_isTooDeep y I J).2 = I1 at d
  unfold pRd_readExpression_L_5 fRd_readExpression_L_5
  by_cases z : z0 = 0
  · have o := cB_O_L (J := J) m y d.2
    refine itp z (sq o.1 ?_)
    unfold pRd_readExpression_L_14 fRd_readExpression_L_14
    exact itn (cB_ne o.2 (s := 3) (by decide)) ⟨trivial, o.2⟩
  · exact itn z ⟨trivial, d.2⟩
theorem cB_A_L (m : Nat) (y z : Int32) (h : cB A 7 e w I) : ge_L_Q (m + 2) 3 y z I J ∧ cB A 7 e w (ge_L_F (m + 2) 3 y z I J) := by
  rw [geQ3_L, geF3_L]
  have s := cB_sgn (J := J) (Or.inl rfl) h
  have a := cB_adv (J := J) s.2
  have u := cB_U_L (J := J) m (z + 1) s.2
  have ad := cB_add_L (J := J) u.2 y 0
  unfold pRd_readAltered_L fRd_readAltered_L pRd_readAltered_L_4 fRd_readAltered_L_4
  refine sq s.1 (sq a.1 ?_)
  rw [a.2]
  exact sq u.1 (sqt ad)
end
/-! PARSE 4 (code 10): code grows; signs settle; after a FAULT -/
theorem geQ0_F (m : Nat) (x0 x1 : Int32) (I : Mm) (J : Ml) : ge_F_Q (m + 1) 0 x0 x1 I J = pRd_readExpression_F (ge_F_F m) (ge_F_Q m) x0 I J := by rw [ge_F_Q.eq_2]; exact if_pos rfl
theorem geF0_F (m : Nat) (x0 x1 : Int32) (I : Mm) (J : Ml) : ge_F_F (m + 1) 0 x0 x1 I J = fRd_readExpression_F (ge_F_F m) x0 I J := by rw [ge_F_F.eq_2]; exact if_pos rfl
theorem geQ1_F (m : Nat) (x0 x1 : Int32) (I : Mm) (J : Ml) : ge_F_Q (m + 1) 1 x0 x1 I J = pRd_readOperands_F (ge_F_F m) (ge_F_Q m) 4002 x0 I J := by rw [ge_F_Q.eq_2, if_neg (by decide)]; exact if_pos rfl
theorem geF1_F (m : Nat) (x0 x1 : Int32) (I : Mm) (J : Ml) : ge_F_F (m + 1) 1 x0 x1 I J = fRd_readOperands_F (ge_F_F m) 4002 x0 I J := by rw [ge_F_F.eq_2, if_neg (by decide)]; exact if_pos rfl
theorem geQ2_F (m : Nat) (x0 x1 : Int32) (I : Mm) (J : Ml) : ge_F_Q (m + 1) 2 x0 x1 I J = pRd_readUnary_F (ge_F_F m) (ge_F_Q m) x0 I J := by rw [ge_F_Q.eq_2, if_neg (by decide), if_neg (by decide)]; exact if_pos rfl
theorem geF2_F (m : Nat) (x0 x1 : Int32) (I : Mm) (J : Ml) : ge_F_F (m + 1) 2 x0 x1 I J = fRd_readUnary_F (ge_F_F m) x0 I J := by rw [ge_F_F.eq_2, if_neg (by decide), if_neg (by decide)]; exact if_pos rfl
theorem geQ3_F (m : Nat) (x0 x1 : Int32) (I : Mm) (J : Ml) : ge_F_Q (m + 1) 3 x0 x1 I J = pRd_readAltered_F (ge_F_F m) (ge_F_Q m) x0 x1 I J := by rw [ge_F_Q.eq_2, if_neg (by decide), if_neg (by decide), if_neg (by decide)]; exact if_pos rfl
theorem geF3_F (m : Nat) (x0 x1 : Int32) (I : Mm) (J : Ml) : ge_F_F (m + 1) 3 x0 x1 I J = fRd_readAltered_F (ge_F_F m) x0 x1 I J := by rw [ge_F_F.eq_2, if_neg (by decide), if_neg (by decide), if_neg (by decide)]; exact if_pos rfl
section
variable {A : Mm} {i co e w : Nat} {W : List Nat} {C : Cd} {I : Mm} {J : Ml} {T : TT} {n : Nat}
theorem cS_add_F (h : cS A 10 i W C co I) (hC : C.length < 4000) (o b : Nat) : pCo_add_F (nI o) (nI b) I J ∧ cS A 10 i W (C ++ [(o, b)]) co (fCo_add_F (nI o) (nI b) I J) := by
  obtain ⟨f, h39, h2, h3, h7, h9, hs16, hl, hc⟩ := h
  have c : ¬ (4000 : Int32) ≤ nI C.length := nI_ge (a := C.length) (b := 4000) hC (by decide)
  unfold pCo_add_F fCo_add_F
  rw [hl, if_neg c, nI_clamp (by omega), nI_1]
  refine ⟨⟨fun q => absurd q c, fun _ => ⟨vp_in_nI hC (by decide), vp_in_nI hC (by decide), trivial⟩⟩, fr_u (by unfold rwOk; omega) (fr_u (by unfold rwOk; omega) (fr_u (by unfold rwOk; omega) f)), ?_, ?_, ?_, ?_, ?_, ?_, ?_, ?_⟩
  · rw [pm_u_n _ _ _ (by decide), pm_u_n _ _ _ (by decide), pm_u_n _ _ _ (by decide)]; exact h39
  · rw [pm_u_n _ _ _ (by decide), pm_u_n _ _ _ (by decide), pm_u_n _ _ _ (by decide)]; exact h2
  · rw [pm_u_n _ _ _ (by decide), pm_u_n _ _ _ (by decide), pm_u_n _ _ _ (by decide)]; exact h3
  · rw [pm_u_n _ _ _ (by decide), pm_u_n _ _ _ (by decide), pm_u_n _ _ _ (by decide)]; exact h7
  · rw [pm_u_n _ _ _ (by decide), pm_u_n _ _ _ (by decide), pm_u_n _ _ _ (by decide)]; exact h9
  · exact stk_c (by rw [pm_u_n _ _ _ (by decide), pm_u_n _ _ _ (by decide), pm_u_n _ _ _ (by decide)]) W hs16
  · rw [pm_u_s, List.length_append]; rfl
  · exact ⟨cod_c (I := pm_u (pm_u I (10 + 1) C.length (nI o)) (10 + 2) C.length (nI b)) (by rw [pm_u_n _ _ _ (by decide)]) (by rw [pm_u_n _ _ _ (by decide)]) (cod_a (o, b) hc.1), by rw [pm_u_n _ _ _ (by decide), pm_u_n _ _ _ (by decide), pm_u_n _ _ _ (by decide)]; exact hc.2⟩
theorem cS_pop_F {k : Nat} (h : cS A 10 i (k :: W) C co I) : cS A 10 i W C co (pm_u I 13 7 (nI W.length)) := by
  obtain ⟨f, h39, h2, h3, h7, h9, hs16, hl, hc⟩ := h
  refine ⟨fr_u (by unfold rwOk; omega) f, ?_, ?_, ?_, ?_, ?_, ?_, ?_, ?_⟩
  · rw [pm_u_n _ _ _ (by decide)]; exact h39
  · rw [pm_u_j _ _ _ (by decide)]; exact h2
  · rw [pm_u_j _ _ _ (by decide)]; exact h3
  · rw [pm_u_s]
  · rw [pm_u_j _ _ _ (by decide)]; exact h9
  · exact stk_c (by rw [pm_u_n _ _ _ (by decide)]) W hs16.2.2
  · rw [pm_u_n _ _ _ (by decide)]; exact hl
  · exact ⟨cod_c (by rw [pm_u_n _ _ _ (by decide)]) (by rw [pm_u_n _ _ _ (by decide)]) hc.1, by rw [pm_u_j _ _ _ (by decide)]; exact hc.2⟩
theorem cS_set_F {b t : Nat} : ∀ (V : List Nat) (W : List Nat) (C : Cd) (m : Nat) (I : Mm), cS A 10 i (V ++ W) C co I → (∀ k ∈ V, t ≤ tyt k) → b ≤ W.length → (W.length = b ∨ ∃ k W', W = k :: W' ∧ tyt k < t) → V.length < m → (V ++ W).length ≤ 125 → C.length + V.length ≤ 4000 → t ≤ 10 → pRd_settle_F m (nI b) (nI t) I J ∧ cS A 10 i W (C ++ V.map (fun k => (k, 0))) co (fRd_settle_F m (nI b) (nI t) I J) := by
  intro V
  induction V with
  | nil =>
    intro W C m I h _ hb hw hm hl _ ht
    obtain ⟨m, rfl⟩ : ∃ m', m = m' + 1 := ⟨m - 1, by simp only [List.length_nil] at hm; omega⟩
    rw [List.nil_append] at h hl
    have h7 := h.2.2.2.2.1
    simp only [List.map_nil, List.append_nil]
    rw [pRd_settle_F.eq_2, fRd_settle_F.eq_2]
    rw [h7]
    rcases hw with hw | ⟨k, W', rfl, hk⟩
    · have c : nI W.length ≤ nI b := nI_le (by omega) (by omega)
      rw [if_pos c]
      exact ⟨⟨fun _ => trivial, fun q => absurd c q⟩, h⟩
    · have hs := h.2.2.2.2.2.2.1
      have ft := fti I J k (by have := hs.2.1; omega)
      have e1 : nI (k :: W').length - 1 = nI W'.length := nI_pred W'.length
      have c2 : nI (tyt k) < nI t := nI_lt hk (by omega)
      have hlw : W'.length < 125 := by simp only [List.length_cons] at hl; omega
      by_cases c : nI (k :: W').length ≤ nI b
      · rw [if_pos c]
        exact ⟨⟨fun _ => trivial, fun q => absurd c q⟩, h⟩
      · rw [if_neg c, e1, nI_clamp (by omega), hs.1, ft.2, if_pos c2]
        exact ⟨⟨fun q => absurd q c, fun _ => ⟨vp_in_nI hlw (by decide), ft.1, fun _ => trivial, fun q => absurd c2 q⟩⟩, h⟩
  | cons k V ih =>
    intro W C m I h ht1 hb hw hm hl hc4 ht
    obtain ⟨m, rfl⟩ : ∃ m', m = m' + 1 := ⟨m - 1, by simp only [List.length_cons] at hm; omega⟩
    have h7 := h.2.2.2.2.1
    rw [List.cons_append] at h h7 hl
    have hs := h.2.2.2.2.2.2.1
    have ft := fti I J k (by have := hs.2.1; omega)
    have e1 : nI (k :: (V ++ W)).length - 1 = nI (V ++ W).length := nI_pred (V ++ W).length
    have hlw : (V ++ W).length < 125 := by simp only [List.length_cons] at hl; omega
    have hlb : b < (k :: (V ++ W)).length := by simp only [List.length_cons, List.length_append]; omega
    have c : ¬ nI (k :: (V ++ W)).length ≤ nI b := nI_ge hlb (by omega)
    have c2 : ¬ nI (tyt k) < nI t := nI_nlt (ht1 k List.mem_cons_self) (by have := tyt10 k; omega)
    have hp := cS_pop_F h
    have hk16 : (pm_u I 13 7 (nI (V ++ W).length)) 16 (V ++ W).length = nI k := by rw [pm_u_n _ _ _ (by decide)]; exact hs.1
    have ha := cS_add_F (J := J) hp (by simp only [List.length_cons] at hc4; omega) k 0
    have hi := ih W (C ++ [(k, 0)]) m _ ha.2 (fun x hx => ht1 x (List.mem_cons_of_mem _ hx)) hb hw (by simp only [List.length_cons] at hm; omega) (by omega) (by simp only [List.length_append, List.length_cons, List.length_nil] at hc4 ⊢; omega) ht
    rw [pRd_settle_F.eq_2, fRd_settle_F.eq_2]
    unfold pRd_settle_F_53 fRd_settle_F_53
    rw [h7, if_neg c, e1, nI_clamp (by omega), hs.1, ft.2, if_neg c2, hk16]
    refine ⟨⟨fun q => absurd q c, fun _ => ⟨vp_in_nI hlw (by decide), ft.1, fun q => absurd q c2, fun _ => ⟨vp_in_nI hlw (by decide), ha.1, hi.1⟩⟩⟩, ?_⟩
    have := hi.2
    rw [List.append_assoc] at this
    exact this
theorem cB_add_F (h : cB A 10 e w I) (y z : Int32) : pCo_add_F y z I J ∧ cB A 10 e w (fCo_add_F y z I J) := by
  have h' := h
  obtain ⟨f, ⟨n2, a2, b2⟩, ⟨n7, a7, b7⟩, ⟨n1, aq, bq⟩, hh⟩ := h'
  unfold pCo_add_F fCo_add_F
  by_cases c : (4000 : Int32) ≤ I 10 2
  · rw [if_pos c]; exact ⟨⟨fun _ => trivial, fun q => absurd c q⟩, h⟩
  · have hn : n1 < 4000 := by
      rw [bq] at c
      rcases Nat.lt_or_ge n1 4000 with h9 | h9
      · exact h9
      · exact absurd (nI_le (a := 4000) (b := n1) h9 (by omega)) c
    rw [if_neg c]
    refine ⟨⟨fun q => absurd q c, fun _ => ⟨by rw [bq]; exact vp_in_nI hn (by decide), by rw [bq]; exact vp_in_nI hn (by decide), trivial⟩⟩, fr_u (by unfold rwOk; omega) (fr_u (by unfold rwOk; omega) (fr_u (by unfold rwOk; omega) f)), ⟨n2, a2, ?_⟩, ⟨n7, a7, ?_⟩, ⟨n1 + 1, by omega, ?_⟩, ?_⟩
    · rw [pm_u_n _ _ _ (by decide), pm_u_n _ _ _ (by decide), pm_u_n _ _ _ (by decide)]; exact b2
    · rw [pm_u_n _ _ _ (by decide), pm_u_n _ _ _ (by decide), pm_u_n _ _ _ (by decide)]; exact b7
    · rw [pm_u_s, bq, nI_1]
    · rw [pm_u_n _ _ _ (by decide), pm_u_n _ _ _ (by decide), pm_u_n _ _ _ (by decide), pm_u_n _ _ _ (by decide), pm_u_n _ _ _ (by decide), pm_u_n _ _ _ (by decide)]; exact hh
theorem cB_set_F (b : Nat) (hb : b < 2 ^ 31) (y : Int32) : ∀ (m k : Nat) (I : Mm), cB A 10 e w I → I 13 7 = nI k → k < m → k ≤ 125 → pRd_settle_F m (nI b) y I J ∧ cB A 10 e w (fRd_settle_F m (nI b) y I J) := by
  intro m
  induction m with
  | zero => intro k I _ _ h; omega
  | succ m ih =>
    intro k I h h7 hm hk
    rw [pRd_settle_F.eq_2, fRd_settle_F.eq_2]
    unfold pRd_settle_F_53 fRd_settle_F_53
    rw [h7]
    by_cases c : nI k ≤ nI b
    · rw [if_pos c]; exact ⟨⟨fun _ => trivial, fun q => absurd c q⟩, h⟩
    · have k1 : 0 < k := by
        rcases Nat.eq_zero_or_pos k with h0 | h0
        · subst h0; exact absurd (nI_le (Nat.zero_le b) hb) c
        · exact h0
      obtain ⟨k, rfl⟩ : ∃ k', k = k' + 1 := ⟨k - 1, by omega⟩
      have e1 : nI (k + 1) - 1 = nI k := nI_pred k
      have h1 : cB A 10 e w (pm_u I 13 7 (nI k)) := by
        obtain ⟨f, ⟨n2, a2, b2⟩, -, ⟨n1, aq, bq⟩, hh⟩ := h
        refine ⟨fr_u (by unfold rwOk; omega) f, ⟨n2, a2, ?_⟩, ⟨k, by omega, ?_⟩, ⟨n1, aq, ?_⟩, ?_⟩
        · rw [pm_u_j _ _ _ (by decide)]; exact b2
        · rw [pm_u_s]
        · rw [pm_u_n _ _ _ (by decide)]; exact bq
        · rw [pm_u_j _ _ _ (by decide), pm_u_j _ _ _ (by decide), pm_u_j _ _ _ (by decide), pm_u_j _ _ _ (by decide), pm_u_n _ _ _ (by decide)]; exact hh
      rw [if_neg c, e1]
      by_cases c2 : fRd_tightness (I 16 (nI k).toNatClampNeg) I J < y
      · rw [if_pos c2]
        exact ⟨⟨fun q => absurd q c, fun _ => ⟨vp_in_nI (by omega) (by decide), ti_p _ _ _, fun _ => trivial, fun q => absurd c2 q⟩⟩, h⟩
      · rw [if_neg c2]
        have ha := cB_add_F (J := J) h1 ((pm_u I 13 7 (nI k)) 16 (nI k).toNatClampNeg) 0
        have h77 : (fCo_add_F ((pm_u I 13 7 (nI k)) 16 (nI k).toNatClampNeg) 0 (pm_u I 13 7 (nI k)) J) 13 7 = nI k := by
          unfold fCo_add_F
          by_cases c4 : (4000 : Int32) ≤ (pm_u I 13 7 (nI k)) 10 2
          · rw [if_pos c4, pm_u_s]
          · rw [if_neg c4, pm_u_n _ _ _ (by decide), pm_u_n _ _ _ (by decide), pm_u_n _ _ _ (by decide), pm_u_s]
        have hi := ih k _ ha.2 h77 (by omega) (by omega)
        exact ⟨⟨fun q => absurd q c, fun _ => ⟨vp_in_nI (by omega) (by decide), ti_p _ _ _, fun q => absurd q c2, fun _ => ⟨vp_in_nI (by omega) (by decide), ha.1, hi.1⟩⟩⟩, hi.2⟩
theorem cB_st_F (b : Nat) (hb : b < 2 ^ 31) (y : Int32) (h : cB A 10 e w I) : pRd_settle_F 126 (nI b) y I J ∧ cB A 10 e w (fRd_settle_F 126 (nI b) y I J) := by
  obtain ⟨n7, a7, b7⟩ := h.2.2.1
  exact cB_set_F b hb y 126 n7 I h b7 (by omega) a7
theorem cB_U_F (m : Nat) (y : Int32) (h : cB A 10 e w I) : ge_F_Q (m + 1) 2 y 0 I J ∧ cB A 10 e w (ge_F_F (m + 1) 2 y 0 I J) := by
  rw [geQ2_F, geF2_F]
  unfold pRd_readUnary_F fRd_readUnary_F
  have d := cB_deep (J := J) (Or.inr rfl) h y
  refine sq d.1 ?_
  generalize (fRd_isTooDeep y I J).1 = z0
  generalize (fRd_isTooDeep y I J).2 = I1 at d
  unfold pRd_readUnary_F_5 fRd_readUnary_F_5
  by_cases z : z0 = 0
  · have r := cB_refuse (J := J) (Or.inr rfl) d.2
    refine itp z ?_
    refine itn (cB_ne d.2 (s := 4) (by decide)) ?_
    refine itn (cB_ne d.2 (s := 13) (by decide)) ?_
    refine itn (cB_ne d.2 (s := 18) (by decide)) ?_
    refine itn (cB_ne d.2 (s := 19) (by decide)) ?_
    refine itn (cB_ne d.2 (s := 43) (by decide)) ?_
    refine itn (cB_ne d.2 (s := 44) (by decide)) ?_
    exact sqt r
  · exact itn z ⟨trivial, d.2⟩
theorem cB_L_F (m n : Nat) (hn : 0 < n) (y1 y3 : Int32) (b : Nat) (hb : b < 2 ^ 31) (h : cB A 10 e w I) : pRd_readOperands_F_12 (ge_F_F m) (ge_F_Q m) n y1 (nI b) y3 I J ∧ cB A 10 e w (fRd_readOperands_F_12 (ge_F_F m) n y1 (nI b) y3 I J) := by
  obtain ⟨n, rfl⟩ : ∃ n', n = n' + 1 := ⟨n - 1, by omega⟩
  have s := cB_st_F (J := J) b hb 1 h
  have ft : fRd_tightness (I 13 3) I J = 0 := by
    rcases cB_k h with k | k <;> rw [k]
    · exact (fti I J 47 (by decide)).2.trans (by decide)
    · exact (fti I J 48 (by decide)).2.trans (by decide)
  have c2 : fRd_tightness (I 13 3) I J ≤ 0 := by rw [ft]; decide
  rw [pRd_readOperands_F_12.eq_2, fRd_readOperands_F_12.eq_2]
  by_cases c : (4000 : Int32) < y3
  · exact itp c (sqt s)
  · refine itn c ?_
    exact sq (ti_p _ _ _) (itp c2 (sqt s))
theorem cB_O_F (m : Nat) (y : Int32) (h : cB A 10 e w I) : ge_F_Q (m + 2) 1 y 0 I J ∧ cB A 10 e w (ge_F_F (m + 2) 1 y 0 I J) := by
  rw [geQ1_F, geF1_F]
  have u := cB_U_F (J := J) m y h
  obtain ⟨n7, a7, b7⟩ := h.2.2.1
  unfold pRd_readOperands_F fRd_readOperands_F fRd_readOperands_F_10 pRd_readOperands_F_10
  rw [b7]
  exact sq u.1 (cB_L_F (m + 1) 4002 (by decide) y 0 n7 (by omega) u.2)
theorem cB_X_F (m : Nat) (y : Int32) (h : cB A 10 e w I) : ge_F_Q (m + 3) 0 y 0 I J ∧ cB A 10 e w (ge_F_F (m + 3) 0 y 0 I J) := by
  rw [geQ0_F, geF0_F]
  unfold pRd_readExpression_F fRd_readExpression_F
  have d := cB_deep (J := J) (Or.inr rfl) h y
  refine sq d.1 ?_
  generalize (fRd_isTooDeep y I J).1 = z0
  generalize (fRd_isTooDeep y I J).2 = I1 at d
  unfold pRd_readExpression_F_5 fRd_readExpression_F_5
  by_cases z : z0 = 0
  · have o := cB_O_F (J := J) m y d.2
    refine itp z (sq o.1 ?_)
    unfold pRd_readExpression_F_14 fRd_readExpression_F_14
    exact itn (cB_ne o.2 (s := 3) (by decide)) ⟨trivial, o.2⟩
  · exact itn z ⟨trivial, d.2⟩
theorem cB_A_F (m : Nat) (y z : Int32) (h : cB A 10 e w I) : ge_F_Q (m + 2) 3 y z I J ∧ cB A 10 e w (ge_F_F (m + 2) 3 y z I J) := by
  rw [geQ3_F, geF3_F]
  have s := cB_sgn (J := J) (Or.inr rfl) h
  have a := cB_adv (J := J) s.2
  have u := cB_U_F (J := J) m (z + 1) s.2
  have ad := cB_add_F (J := J) u.2 y 0
  unfold pRd_readAltered_F fRd_readAltered_F pRd_readAltered_F_4 fRd_readAltered_F_4
  refine sq s.1 (sq a.1 ?_)
  rw [a.2]
  exact sq u.1 (sqt ad)
end
/-! PARSE 5: the class reads expressions as the grammar's function says -/
def ER (A : Mm) (q : Nat) (W : List Nat) (C : Cd) (r : SR) (I' : Mm) : Prop := (r.1 = 0 → cS A q r.2.2.1 W (C ++ r.2.2.2.2) r.2.2.2.1 I') ∧ (r.1 ≠ 0 → cB A q r.1 r.2.1 I')
theorem ER_b {A : Mm} {q : Nat} {W : List Nat} {C : Cd} {r : SR} {I' : Mm} (h : r.1 ≠ 0) (b : cB A q r.1 r.2.1 I') : ER A q W C r I' := ⟨fun q => absurd q h, fun _ => b⟩
theorem ER_f {A : Mm} {q : Nat} {W : List Nat} {C : Cd} {e w : Nat} {I' : Mm} (h : e ≠ 0) (b : cB A q e w I') : ER A q W C (sp_fail e w) I' := ⟨fun q => absurd q h, fun _ => b⟩
theorem ER_ok {A : Mm} {q : Nat} {W : List Nat} {C C' : Cd} {i co : Nat} {I' : Mm} (b : cS A q i W (C ++ C') co I') : ER A q W C (sp_ok i co C') I' := ⟨fun _ => b, fun q => absurd rfl q⟩
theorem sp_no1 (T : TT) (i : Nat) : (sp_no T i).1 ≠ 0 := by
  unfold sp_no
  by_cases h : T.1 i = 47
  · rw [if_pos h]; exact (show (4 : Nat) ≠ 0 by decide)
  · rw [if_neg h]; exact (show (1 : Nat) ≠ 0 by decide)
/-- names are found as the grammar's function says -/
def fMem (A : Mm) (T : TT) (n : Nat) : Prop := ∀ (I : Mm) (J : Ml) (i : Nat), i < n → T.1 i = 43 → I 3 5 = A 3 5 → I 14 = A 14 → I 13 2 = nI i → I 19 = A 19 → I 20 = A 20 → I 2 = A 2 → pRd_findName 61 I J ∧ (∀ k, T.2.2.1 i = some k → fRd_findName 61 I J = nI k ∧ k < 60 ∧ A 4 k = nI (T.2.2.2.1 k) ∧ T.2.2.2.1 k < 50 ∧ A 6 k = nI (T.2.2.2.2 k)) ∧ (T.2.2.1 i = none → fRd_findName 61 I J = -1)
theorem cS_stuck {A : Mm} {q i co n : Nat} {W : List Nat} {C : Cd} {I : Mm} {T : TT} (hq : q = 7 ∨ q = 10) (hT : tEnd T n) (hM : tMem A T n) (h : cS A q i W C co I) (hi : i < n) (hW : W.length ≤ 125) (hC : C.length ≤ 4000) (k : T.1 i = 47) : cB A q 4 i I := by
  have e3 := cS_kind hM h hi
  obtain ⟨f, h39, h2, h3, h7, h9, hs16, hl, hc⟩ := h
  have f5 := fr_5 hq f
  have hn := hT.2.1
  have hl9 : n ≤ i + 1 := by
    rcases Nat.lt_or_ge (i + 1) n with h9 | h9
    · have := hT.2.2.2.1 i h9; omega
    · exact h9
  exact ⟨f, ⟨i, by omega, h2⟩, ⟨W.length, hW, h7⟩, ⟨C.length, hC, hl⟩, Or.inr ⟨rfl, by omega, h9, by rw [e3, k]; rfl, h2, by rw [f5.1, hM.1, nI_1]; exact nI_le hl9 (by omega)⟩⟩
