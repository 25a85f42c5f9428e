/-! CALLS 7: feed -/
def i8b (y s : Int32) : Int32 := ((y.toUInt32 >>> (s.toUInt32 &&& Int32.toUInt32 31)).toInt32.toInt8.toInt32).toInt8.toInt32
theorem i8_sb (w : Int8) : ∃ c, c < 256 ∧ w.toInt32 = sb c := by
  obtain ⟨⟨⟨f⟩⟩⟩ := w
  exact ⟨f.val, f.isLt, (show ∀ f : Fin 256, (Int8.toInt32 ⟨⟨⟨f⟩⟩⟩) = sb f.val by decide +kernel) f⟩
def fdY (y1 y2 y3 y4 y5 : Int32) (j : Nat) : Int32 := if 4 ≤ j then if 8 ≤ j then if 12 ≤ j then if 16 ≤ j then y5 else y4 else y3 else y2 else y1
def fdS (j : Nat) : Int32 := (24 : Int32) - ((8 : Int32) * (nI j - nI j / (4 : Int32) * (4 : Int32)))
theorem fdS_v : ∀ j, j < 20 → fdS j = nI (24 - 8 * (j % 4)) := by decide +kernel
def fdV (y1 y2 y3 y4 y5 : Int32) (j : Nat) : Int32 := i8b (fdY y1 y2 y3 y4 y5 j) (fdS j)
def tpC (VS : Nat → Int32) (I0 : Mm) (L j : Nat) (I : Mm) : Prop := I 1 1 = nI (L + j) ∧ (∀ a, a ≠ 1 → a ≠ 2 → I a = I0 a) ∧ (∀ q, q < L → I 2 q = I0 2 q) ∧ ∀ i, i < j → I 2 (L + i) = VS i
def tpM (VS : Nat → Int32) (I0 : Mm) (L j : Nat) (I : Mm) : Prop := I 40 1 = nI (L + j) ∧ (∀ a, a ≠ 40 → a ≠ 41 → I a = I0 a) ∧ (∀ i, i ≠ 1 → I 40 i = I0 40 i) ∧ (∀ q, q < L → I 41 q = I0 41 q) ∧ ∀ i, i < j → I 41 (L + i) = VS i
section
variable {VS : Nat → Int32} {I0 I : Mm} {J : Ml} {L j : Nat}
theorem tpC_s (h : tpC VS I0 L j I) (hL : L + j < 65536) : tpC VS I0 L (j + 1) (pm_u (pm_u I 2 (I 1 1).toNatClampNeg (VS j)) 1 1 (I 1 1 + 1)) := by
  obtain ⟨h1, h2, h4, h5⟩ := h
  have cl : (I 1 1).toNatClampNeg = L + j := by rw [h1]; exact nI_clamp (by omega)
  rw [cl]
  refine ⟨?_, fun a g1 g2 => ?_, fun q hq => ?_, fun i hi => ?_⟩
  · rw [pm_u_s, h1]; exact nI_i1 _
  · rw [pm_u_n _ _ _ g1, pm_u_n _ _ _ g2]; exact h2 a g1 g2
  · rw [pm_u_n _ _ _ (by decide), pm_u_j _ _ _ (by omega)]; exact h4 q hq
  · rw [pm_u_n _ _ _ (by decide)]
    by_cases c : i = j
    · rw [c, pm_u_s]
    · rw [pm_u_j _ _ _ (by omega)]; exact h5 i (by omega)
theorem c_add1 {n k : Nat} {y s s' : Int32} (h : tpC VS I0 L j I) (hL : L + j < 65536) (hs : ¬ s < 0) (hs' : s + Int32.ofInt (-8) = s') (hv : VS j = i8b y s) (ih : ∀ I', tpC VS I0 L (j + 1) I' → pTp_add_3 n y s' I' J ∧ tpC VS I0 L k (fTp_add_3 n y s' I' J)) : pTp_add_3 (n + 1) y s I J ∧ tpC VS I0 L k (fTp_add_3 (n + 1) y s I J) := by
  have z := ih _ (tpC_s h hL)
  rw [hv] at z
  have c : ¬ (65536 : Int32) ≤ I 1 1 := by rw [h.1]; exact nI_ge (a := L + j) (b := 65536) (by omega) (by decide)
  rw [pTp_add_3.eq_2, fTp_add_3.eq_2, if_neg hs, if_neg c, hs']
  exact ⟨⟨fun q => absurd q hs, fun _ => ⟨fun q => absurd q c, fun _ => ⟨by rw [h.1]; exact vp_in_nI hL (by decide), z.1⟩⟩⟩, z.2⟩
theorem c_add {y : Int32} (h : tpC VS I0 L j I) (hL : L + j + 4 ≤ 65536) (h0 : VS j = i8b y 24) (h1 : VS (j + 1) = i8b y 16) (h2 : VS (j + 2) = i8b y 8) (h3 : VS (j + 3) = i8b y 0) : pTp_add 5 y I J ∧ tpC VS I0 L (j + 4) (fTp_add 5 y I J) := by
  unfold pTp_add fTp_add
  refine c_add1 h (by omega) (by decide) (s' := 16) (by decide) h0 fun I1 g1 => ?_
  refine c_add1 g1 (by omega) (by decide) (s' := 8) (by decide) h1 fun I2 g2 => ?_
  refine c_add1 g2 (by omega) (by decide) (s' := 0) (by decide) h2 fun I3 g3 => ?_
  refine c_add1 g3 (by omega) (by decide) (s' := -8) (by decide) h3 fun I4 g4 => ?_
  rw [pTp_add_3.eq_2, fTp_add_3.eq_2, if_pos (by decide)]
  exact ⟨⟨fun _ => trivial, fun q => absurd (by decide) q⟩, g4⟩
theorem m_fd {y1 y2 y3 y4 y5 : Int32} {n : Nat} (hj : j < 20) : (pMo_feed_85 (pMo_feed_32 n) y1 y2 y3 y4 y5 (nI j) (fdY y1 y2 y3 y4 y5 j) I → pMo_feed_32 (n + 1) y1 y2 y3 y4 y5 (nI j) I) ∧ fMo_feed_32 (n + 1) y1 y2 y3 y4 y5 (nI j) I = fMo_feed_85 (fMo_feed_32 n) y1 y2 y3 y4 y5 (nI j) (fdY y1 y2 y3 y4 y5 j) I := by
  have no : ∀ b, j < b → b < 100 → ¬ nI b ≤ nI j := fun b h1 h2 => nI_ge h1 (by omega)
  have ye : ∀ b, b ≤ j → nI b ≤ nI j := fun b h1 => nI_le h1 (by omega)
  rw [pMo_feed_32.eq_2, fMo_feed_32.eq_2]
  have e20 : ¬ (20 : Int32) ≤ nI j := no 20 hj (by decide)
  unfold fdY
  rw [if_neg e20]
  by_cases c4 : 4 ≤ j
  · have d4 : (4 : Int32) ≤ nI j := ye 4 c4
    rw [if_pos c4, if_pos d4]
    by_cases c8 : 8 ≤ j
    · have d8 : (8 : Int32) ≤ nI j := ye 8 c8
      rw [if_pos c8, if_pos d8]
      by_cases c12 : 12 ≤ j
      · have d12 : (12 : Int32) ≤ nI j := ye 12 c12
        rw [if_pos c12, if_pos d12]
        by_cases c16 : 16 ≤ j
        · have d16 : (16 : Int32) ≤ nI j := ye 16 c16
          rw [if_pos c16, if_pos d16]
          exact ⟨fun h => ⟨fun q => absurd q e20, fun _ => ⟨fun _ => ⟨fun _ => ⟨fun _ => ⟨fun _ => h, fun q => absurd d16 q⟩, fun q => absurd d12 q⟩, fun q => absurd d8 q⟩, fun q => absurd d4 q⟩⟩, rfl⟩
        · have d16 : ¬ (16 : Int32) ≤ nI j := no 16 (by omega) (by decide)
          rw [if_neg c16, if_neg d16]
          exact ⟨fun h => ⟨fun q => absurd q e20, fun _ => ⟨fun _ => ⟨fun _ => ⟨fun _ => ⟨fun q => absurd q d16, fun _ => h⟩, fun q => absurd d12 q⟩, fun q => absurd d8 q⟩, fun q => absurd d4 q⟩⟩, rfl⟩
      · have d12 : ¬ (12 : Int32) ≤ nI j := no 12 (by omega) (by decide)
        rw [if_neg c12, if_neg d12]
        exact ⟨fun h => ⟨fun q => absurd q e20, fun _ => ⟨fun _ => ⟨fun _ => ⟨fun q => absurd q d12, fun _ => h⟩, fun q => absurd d8 q⟩, fun q => absurd d4 q⟩⟩, rfl⟩
    · have d8 : ¬ (8 : Int32) ≤ nI j := no 8 (by omega) (by decide)
      rw [if_neg c8, if_neg d8]
      exact ⟨fun h => ⟨fun q => absurd q e20, fun _ => ⟨fun _ => ⟨fun q => absurd q d8, fun _ => h⟩, fun q => absurd d4 q⟩⟩, rfl⟩
  · have d4 : ¬ (4 : Int32) ≤ nI j := no 4 (by omega) (by decide)
    rw [if_neg c4, if_neg d4]
    exact ⟨fun h => ⟨fun q => absurd q e20, fun _ => ⟨fun q => absurd q d4, fun _ => h⟩⟩, rfl⟩
theorem tpM_s (h : tpM VS I0 L j I) (hL : L + j < 65536) : tpM VS I0 L (j + 1) (pm_u (pm_u I 40 1 (I 40 1 + 1)) 41 (I 40 1).toNatClampNeg (VS j)) := by
  obtain ⟨h1, h2, h3, h4, h5⟩ := h
  have cl : (I 40 1).toNatClampNeg = L + j := by rw [h1]; exact nI_clamp (by omega)
  rw [cl]
  refine ⟨?_, fun a g1 g2 => ?_, fun i hi => ?_, fun q hq => ?_, fun i hi => ?_⟩
  · rw [pm_u_n _ _ _ (by decide), pm_u_s, h1]; exact nI_i1 _
  · rw [pm_u_n _ _ _ g2, pm_u_n _ _ _ g1]; exact h2 a g1 g2
  · rw [pm_u_n _ _ _ (by decide), pm_u_j _ _ _ hi]; exact h3 i hi
  · rw [pm_u_j _ _ _ (by omega), pm_u_n _ _ _ (by decide)]; exact h4 q hq
  · by_cases c : i = j
    · rw [c, pm_u_s]
    · rw [pm_u_j _ _ _ (by omega), pm_u_n _ _ _ (by decide)]; exact h5 i (by omega)
theorem m_fl {y1 y2 y3 y4 y5 : Int32} (hL : L + 20 ≤ 65536) : ∀ (d j : Nat) (I : Mm), j ≤ 20 → 20 - j < d → tpM (fdV y1 y2 y3 y4 y5) I0 L j I → pMo_feed_32 d y1 y2 y3 y4 y5 (nI j) I ∧ ∃ I', fMo_feed_32 d y1 y2 y3 y4 y5 (nI j) I = (nI (L + 20), I') ∧ tpM (fdV y1 y2 y3 y4 y5) I0 L 20 I' := by
  intro d
  induction d with
  | zero => intro j I _ h; omega
  | succ d ih =>
    intro j I hj hd h
    by_cases c : j = 20
    · subst c
      rw [pMo_feed_32.eq_2, fMo_feed_32.eq_2, if_pos (by decide)]
      exact ⟨⟨fun _ => trivial, fun q => absurd (by decide) q⟩, I, by rw [h.1], h⟩
    · obtain ⟨s1, s2⟩ := m_fd (I := I) (y1 := y1) (y2 := y2) (y3 := y3) (y4 := y4) (y5 := y5) (n := d) (show j < 20 by omega)
      have z := ih (j + 1) _ (by omega) (by omega) (tpM_s h (by omega))
      rw [s2]
      unfold fMo_feed_85
      unfold pMo_feed_85 at s1
      rw [nI_i1] at s1 ⊢
      exact ⟨s1 ⟨by decide, by rw [h.1]; exact vp_in_nI (by omega) (by decide), z.1⟩, z.2⟩
end
section
variable {I : Mm} {J : Ml} {B : Nat → Value} {E : List (Nat × Nat)}
theorem k_feed (h : Iv I J B E) (y1 y2 y3 y4 y5 : Int32) : pCh_feed y1 y2 y3 y4 y5 I J ∧ (((fCh_feed y1 y2 y3 y4 y5 I J).1 = 0 ∧ pMo_feed 21 y1 y2 y3 y4 y5 (fCh_feed y1 y2 y3 y4 y5 I J).2.2 ∧ (fMo_feed 21 y1 y2 y3 y4 y5 (fCh_feed y1 y2 y3 y4 y5 I J).2.2).2 40 2 = 0 ∧ (fCh_feed y1 y2 y3 y4 y5 I J).2.1 = (fMo_feed 21 y1 y2 y3 y4 y5 (fCh_feed y1 y2 y3 y4 y5 I J).2.2).1) ∨ ((fCh_feed y1 y2 y3 y4 y5 I J).1 = 12 ∧ pMo_feed 21 y1 y2 y3 y4 y5 (fCh_feed y1 y2 y3 y4 y5 I J).2.2 ∧ (fMo_feed 21 y1 y2 y3 y4 y5 (fCh_feed y1 y2 y3 y4 y5 I J).2.2).2 40 2 = 1)) ∧ Iv (fMo_feed 21 y1 y2 y3 y4 y5 (fCh_feed y1 y2 y3 y4 y5 I J).2.2).2 J B E := by
  have hI := h
  obtain ⟨_, _, b, L, ⟨b1, b2', b3⟩, ⟨d1, d2, d3⟩⟩ := h
  by_cases c : L ≤ 65516
  · have c' : nI L ≤ (65516 : Int32) := nI_le c (by decide)
    have i0 : tpC (fdV y1 y2 y3 y4 y5) I L 0 I := ⟨b1, fun _ _ _ => rfl, fun _ _ => rfl, fun i hi => absurd hi (Nat.not_lt_zero _)⟩
    obtain ⟨p1, i1⟩ := c_add (J := J) (y := y1) i0 (by omega) rfl rfl rfl rfl
    obtain ⟨p2, i2⟩ := c_add (J := J) (y := y2) i1 (by omega) rfl rfl rfl rfl
    obtain ⟨p3, i3⟩ := c_add (J := J) (y := y3) i2 (by omega) rfl rfl rfl rfl
    obtain ⟨p4, i4⟩ := c_add (J := J) (y := y4) i3 (by omega) rfl rfl rfl rfl
    obtain ⟨p5, i5⟩ := c_add (J := J) (y := y5) i4 (by omega) rfl rfl rfl rfl
    have f1 : fCh_feed y1 y2 y3 y4 y5 I J = (0, (fTp_add 5 y5 (fTp_add 5 y4 (fTp_add 5 y3 (fTp_add 5 y2 (fTp_add 5 y1 I J) J) J) J) J) 1 1, fTp_add 5 y5 (fTp_add 5 y4 (fTp_add 5 y3 (fTp_add 5 y2 (fTp_add 5 y1 I J) J) J) J) J) := by
      unfold fCh_feed
      rw [b1, if_pos c']
      rfl
    have pC : pCh_feed y1 y2 y3 y4 y5 I J := by
      unfold pCh_feed
      rw [b1]
      exact ⟨fun _ => ⟨p1, p2, p3, p4, p5, trivial⟩, fun q => absurd c' q⟩
    rw [f1]
    dsimp only
    generalize fTp_add 5 y5 (fTp_add 5 y4 (fTp_add 5 y3 (fTp_add 5 y2 (fTp_add 5 y1 I J) J) J) J) J = X at i5
    have x1 : X 40 1 = nI L := by rw [i5.2.1 40 (by decide) (by decide)]; exact d1
    have V0 : tpM (fdV y1 y2 y3 y4 y5) (pm_u X 40 2 0) L 0 (pm_u X 40 2 0) := ⟨by rw [pm_u_j _ _ _ (by decide)]; exact x1, fun _ _ _ => rfl, fun _ _ => rfl, fun _ _ => rfl, fun i hi => absurd hi (Nat.not_lt_zero _)⟩
    obtain ⟨m1, I', m2, m3⟩ := m_fl (by omega) 21 0 _ (Nat.zero_le _) (by decide) V0
    have m1' : pMo_feed_32 21 y1 y2 y3 y4 y5 0 (pm_u X 40 2 0) := m1
    have m2' : fMo_feed_32 21 y1 y2 y3 y4 y5 0 (pm_u X 40 2 0) = (nI (L + 20), I') := m2
    have f2 : fMo_feed 21 y1 y2 y3 y4 y5 X = (nI (L + 20), I') := by
      unfold fMo_feed fMo_feed_21 fMo_feed_24
      rw [x1, if_pos c', (rf0 1).2, if_pos rfl]
      exact m2'
    have pM : pMo_feed 21 y1 y2 y3 y4 y5 X := by
      unfold pMo_feed pMo_feed_21 pMo_feed_24
      rw [x1, (rf0 1).2]
      exact ⟨fun _ => ⟨(rf0 1).1, fun _ => m1', fun q => absurd rfl q⟩, fun q => absurd c' q⟩
    rw [f2]
    dsimp only
    have vb : ∀ i, ∃ c, c < 256 ∧ fdV y1 y2 y3 y4 y5 i = sb c := fun i => i8_sb _
    obtain ⟨vc, hvc⟩ := Classical.axiomOfChoice vb
    have k0 : ∀ a, a ≠ 1 → a ≠ 2 → a ≠ 40 → a ≠ 41 → I' a = I a := fun a h1 h2 h3 h4 => by
      rw [m3.2.1 a h3 h4, pm_u_n _ _ _ h3]; exact i5.2.1 a h1 h2
    refine ⟨pC, Or.inl ⟨rfl, pM, ?_, ?_⟩, Iv_t hI k0 (fun j h1 h2 => ?_) ⟨fun q => if q < L then b q else vc (q - L), L + 20, ⟨?_, by omega, fun q hq => ?_⟩, m3.1, by omega, fun q hq => ?_⟩⟩
    · rw [m3.2.2.1 2 (by decide), pm_u_s]
    · exact i5.1
    · rw [m3.2.2.1 j h1, pm_u_j _ _ _ h2, i5.2.1 40 (by decide) (by decide)]
    · rw [m3.2.1 1 (by decide) (by decide), pm_u_n _ _ _ (by decide)]; exact i5.1
    · rw [m3.2.1 2 (by decide) (by decide), pm_u_n _ _ _ (by decide)]
      dsimp only
      by_cases cq : q < L
      · rw [if_pos cq, i5.2.2.1 q cq]; exact b3 q cq
      · have := i5.2.2.2 (q - L) (by omega)
        rw [show L + (q - L) = q by omega] at this
        rw [if_neg cq, this]
        exact ⟨(hvc _).2, (hvc _).1⟩
    · dsimp only
      by_cases cq : q < L
      · rw [if_pos cq, m3.2.2.2.1 q cq, pm_u_n _ _ _ (by decide), i5.2.1 41 (by decide) (by decide)]; exact d3 q cq
      · have := m3.2.2.2.2 (q - L) (by omega)
        rw [show L + (q - L) = q by omega] at this
        rw [if_neg cq, this]
        exact ⟨(hvc _).2, (hvc _).1⟩
  · have c' : ¬ nI L ≤ (65516 : Int32) := nI_ge (a := 65516) (b := L) (by omega) (by omega)
    have f1 : fCh_feed y1 y2 y3 y4 y5 I J = (12, 0, I) := by
      unfold fCh_feed
      rw [b1, if_neg c']
    have f2 : fMo_feed 21 y1 y2 y3 y4 y5 I = (0, pm_u (pm_u I 40 2 0) 40 2 1) := by
      unfold fMo_feed fMo_feed_21 fMo_feed_24
      rw [d1, if_neg c', (rf1 1).2]; exact if_neg (show ¬ (1 : Int32) = 0 by decide)
    have pM : pMo_feed 21 y1 y2 y3 y4 y5 I := by
      unfold pMo_feed pMo_feed_21 pMo_feed_24
      rw [d1, (rf1 1).2]
      exact ⟨fun q => absurd q c', fun _ => ⟨(rf1 1).1, fun q => absurd q (show ¬ (1 : Int32) = 0 by decide), fun _ => trivial⟩⟩
    rw [f1]
    dsimp only
    rw [f2]
    dsimp only
    refine ⟨?_, Or.inr ⟨rfl, pM, pm_u_s _ _ _ _⟩, Iv_6 hI (eq6_1 _ _ _)⟩
    unfold pCh_feed
    rw [b1]
    exact ⟨fun q => absurd q c', fun _ => trivial⟩
end
