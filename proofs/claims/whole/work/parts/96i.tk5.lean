/-! TOKENS 5: the class's list of tokens -/
section
variable {I : Mm} {J : Ml} {b : Nat → Nat} {L : Nat}
/-- i tokens are parted -/
def cT (A : Mm) (b : Nat → Nat) (L i : Nat) (I : Mm) : Prop := I 17 5 = nI i ∧ I 17 6 = nI (tP b L i) ∧ (∀ a, a < 17 ∨ 21 < a → I a = A a) ∧ ∀ k, k < i → I 18 k = nI (tK b L k) ∧ I 19 k = nI (tF b L k) ∧ I 20 k = nI (tZ b L k) ∧ (tK b L k = 44 → I 21 k = nI (val b (tF b L k) (tZ b L k)))
theorem c_part {A : Mm} (hA : cBy A b L) {n : Nat} (hE : bE (tB b L) n) : ∀ (m i : Nat) (I : Mm), i < n → m + i = 4002 → cT A b L i I → pTk_part_14 m 1 (nI i) I J ∧ cT A b L n (fTk_part_14 m 1 (nI i) I J) := by
  intro m
  have hb := fun q hq => (hA.2.2 q hq).2
  have hL := hA.2.1
  have hn := hE.2.1
  induction m with
  | zero => intro i I hi hm _; omega
  | succ m ih =>
    intro i I hi hm hT
    obtain ⟨h5, h6, hr, hk⟩ := hT
    have hB : cBy I b L := cBy_c hA (hr 1 (by decide)) (hr 2 (by decide))
    have hp := tP_le hb i
    have hf := tF_le hb i
    have sk := c_skip (J := J) 65537 false (tP b L i) I hB h6 hp (by omega)
    have c4 : ¬ (4000 : Int32) < nI i := nI_nlt (a := 4000) (b := i) (by omega) (by decide)
    have sk1 : pTk_skipBlanks 65537 I J := sk.1
    have sk2 : fTk_skipBlanks 65537 I J = pm_u I 17 6 (nI (tF b L i)) := sk.2
    rw [pTk_part_14.eq_2, fTk_part_14.eq_2, if_neg c4, if_neg (show ¬ (1 : Int32) = 0 by decide), sk2]
    refine (fun (z : _ ∧ _) => ⟨⟨fun q => absurd q c4, fun _ => ⟨fun q => absurd q (by decide), fun _ => ⟨sk1, z.1⟩⟩⟩, z.2⟩) ?_
    unfold pTk_part_29 fTk_part_29
    rw [pm_u_s, nI_clamp (by omega)]
    have v : vp_in (nI i) 4001 := vp_in_nI (by omega) (by decide)
    generalize e1 : pm_u (pm_u I 17 6 (nI (tF b L i))) 19 i (nI (tF b L i)) = I1
    have a1 : ∀ a, a ≠ 17 → a ≠ 19 → I1 a = I a := fun a x y => by rw [← e1, pm_u_n _ _ _ y, pm_u_n _ _ _ x]
    have a6 : I1 17 6 = nI (tF b L i) := by rw [← e1, pm_u_n _ _ _ (by decide), pm_u_s]
    have a19 : I1 19 i = nI (tF b L i) := by rw [← e1, pm_u_s]
    have a19j : ∀ j, j ≠ i → I1 19 j = I 19 j := fun j hj => by rw [← e1, pm_u_j _ _ _ hj, pm_u_n _ _ _ (by decide)]
    have hB1 : cBy I1 b L := cBy_c hB (a1 1 (by decide) (by decide)) (a1 2 (by decide) (by decide))
    have sc := c_scan (J := J) hB1 (p := tF b L i) (i := i) (by omega) a6 hf
    refine sq v (sq sc.1 ?_)
    obtain ⟨-, s1, s2, s3, s4, s5, s6⟩ := sc
    rw [s1]
    generalize (fTk_scan (nI i) I1 J).2 = I2 at s2 s3 s4 s5 s6
    have tk : (tok b L i (tF b L i)).1 = tK b L i := rfl
    have tz : (tok b L i (tF b L i)).2 = tZ b L i := rfl
    rw [tk] at s6
    rw [tz] at s2 s6
    rw [tk]
    unfold pTk_part_49 fTk_part_49 pTk_part_90 fTk_part_90
    have b19 : (pm_u I2 18 i (nI (tK b L i))) 19 i = nI (tF b L i) := by rw [pm_u_n _ _ _ (by decide), s4 19 (by decide) (by decide)]; exact a19
    rw [nI_clamp (by omega), s2, b19, pk_sub (by omega), Nat.add_sub_cancel_left, nI_1, nI_i1]
    generalize e3 : pm_u (pm_u (pm_u I2 18 i (nI (tK b L i))) 20 i (nI (tZ b L i))) 17 5 (nI (i + 1)) = I3
    have c18 : I3 18 i = nI (tK b L i) := by rw [← e3, pm_u_n _ _ _ (by decide), pm_u_n _ _ _ (by decide), pm_u_s]
    have hT3 : cT A b L (i + 1) I3 := by
      refine ⟨by rw [← e3, pm_u_s], ?_, fun a ha => ?_, fun k hk9 => ?_⟩
      · rw [← e3, pm_u_j _ _ _ (by decide), pm_u_n _ _ _ (by decide), pm_u_n _ _ _ (by decide), s2, tP_s]
      · rw [← e3, pm_u_n _ _ _ (by omega), pm_u_n _ _ _ (by omega), pm_u_n _ _ _ (by omega), s4 a (by omega) (by omega), a1 a (by omega) (by omega)]; exact hr a ha
      · by_cases ek : k = i
        · subst ek
          refine ⟨c18, ?_, ?_, fun h44 => ?_⟩
          · rw [← e3, pm_u_n _ _ _ (by decide), pm_u_n _ _ _ (by decide), pm_u_n _ _ _ (by decide), s4 19 (by decide) (by decide)]; exact a19
          · rw [← e3, pm_u_n _ _ _ (by decide), pm_u_s]
          · rw [← e3, pm_u_n _ _ _ (by decide), pm_u_n _ _ _ (by decide), pm_u_n _ _ _ (by decide)]; exact s6 h44
        · have z := hk k (by omega)
          refine ⟨?_, ?_, ?_, fun h44 => ?_⟩
          · rw [← e3, pm_u_n _ _ _ (by decide), pm_u_n _ _ _ (by decide), pm_u_j _ _ _ ek, s4 18 (by decide) (by decide), a1 18 (by decide) (by decide)]; exact z.1
          · rw [← e3, pm_u_n _ _ _ (by decide), pm_u_n _ _ _ (by decide), pm_u_n _ _ _ (by decide), s4 19 (by decide) (by decide), a19j k ek]; exact z.2.1
          · rw [← e3, pm_u_n _ _ _ (by decide), pm_u_j _ _ _ ek, pm_u_n _ _ _ (by decide), s4 20 (by decide) (by decide), a1 20 (by decide) (by decide)]; exact z.2.2.1
          · rw [← e3, pm_u_n _ _ _ (by decide), pm_u_n _ _ _ (by decide), pm_u_n _ _ _ (by decide), s5 k ek, a1 21 (by decide) (by decide)]; exact z.2.2.2 h44
    refine sq v (sq v (sq v (sq v ?_)))
    rw [c18]
    have k48 := hE.2.2.1 i hi
    have k48' : tK b L i < 48 := k48
    by_cases c45 : 45 ≤ tK b L i
    · have c45' : (45 : Int32) ≤ nI (tK b L i) := nI_le (a := 45) (b := tK b L i) c45 (by omega)
      have ei : i + 1 = n := by
        rcases Nat.lt_or_ge (i + 1) n with h9 | h9
        · have h45 : tK b L i < 45 := hE.2.2.2.1 i h9
          omega
        · omega
      refine itp c45' ?_
      obtain ⟨m, rfl⟩ : ∃ m', m = m' + 1 := ⟨m - 1, by omega⟩
      rw [pTk_part_14.eq_2, fTk_part_14.eq_2]
      rw [ei] at hT3
      by_cases c9 : (4000 : Int32) < nI (i + 1)
      · exact itp c9 ⟨trivial, hT3⟩
      · exact itn c9 (itp rfl ⟨trivial, hT3⟩)
    · have c45' : ¬ (45 : Int32) ≤ nI (tK b L i) := nI_ge (a := tK b L i) (b := 45) (by omega) (by decide)
      have ei : i + 1 < n := by
        rcases Nat.lt_or_ge (i + 1) n with h9 | h9
        · exact h9
        · have h45 : 45 ≤ tK b L (n - 1) := hE.2.2.2.2
          rw [show n - 1 = i by omega] at h45; omega
      refine itn c45' ?_
      exact ih (i + 1) I3 ei (by omega) hT3
theorem val_lt {b : Nat → Nat} {p : Nat} : ∀ z, (∀ k, k < z → isD (b (p + k)) = true) → val b p z < 10 ^ z
  | 0, _ => Nat.zero_lt_one
  | z + 1, h => by
    have i1 := val_lt (b := b) (p := p) z (fun k hk => h k (by omega))
    have d := h z (by omega)
    unfold isD at d
    simp at d
    unfold val
    rw [Nat.pow_succ]
    omega
theorem c_same {A : Mm} (hA : cBy A b L) {n : Nat} {I : Mm} {x y : Nat} (hx : x < 4001) (hy : y < 4001) (h20x : I 20 x = nI (tZ b L x)) (h20y : I 20 y = nI (tZ b L y)) (h19x : I 19 x = nI (tF b L x)) (h19y : I 19 y = nI (tF b L y)) (h2 : I 2 = A 2) (hzx : tZ b L x ≤ 31) (hex : tF b L x + tZ b L x ≤ L) (hey : tF b L y + tZ b L y ≤ L) : pTk_areSame 40 (nI x) (nI y) I J ∧ fTk_areSame 40 (nI x) (nI y) I J = if (decide (tZ b L x = tZ b L y) && eqr b (tF b L x) (tF b L y) (tZ b L x)) = true then 1 else 0 := by
  have hL := hA.2.1
  have vx := vp_in_nI hx (by decide : 4001 < 2 ^ 31)
  have vy := vp_in_nI hy (by decide : 4001 < 2 ^ 31)
  have lp : ∀ (m j : Nat) (s : Bool), j ≤ tZ b L x → tZ b L x - j < m → (s = true → tZ b L x = tZ b L y) → pTk_areSame_24 m (nI x) (nI y) (if s = true then 1 else 0) (nI j) I J ∧ fTk_areSame_24 m (nI x) (nI y) (if s = true then 1 else 0) (nI j) I J = if (s && decide (∀ k, k < tZ b L x → j ≤ k → b (tF b L x + k) = b (tF b L y + k))) = true then 1 else 0 := by
    intro m
    induction m with
    | zero => intro j s _ h _; omega
    | succ m ih =>
      intro j s hj hm hs
      rw [pTk_areSame_24.eq_2, fTk_areSame_24.eq_2]
      unfold pTk_areSame_88 fTk_areSame_88 pTk_areSame_81 fTk_areSame_81
      rw [nI_clamp (n := x) (by omega), nI_clamp (n := y) (by omega), h20x, h19x, h19y, nI_add, nI_add, nI_i1]
      by_cases c : tZ b L x ≤ j
      · have c' : nI (tZ b L x) ≤ nI j := nI_le c (by omega)
        have e : decide (∀ k, k < tZ b L x → j ≤ k → b (tF b L x + k) = b (tF b L y + k)) = true := decide_eq_true (fun k h1 h2 => by omega)
        rw [if_pos c', e, Bool.and_true]
        exact ⟨⟨vx, fun _ => (by cases s <;> rfl), fun q => absurd c' q⟩, rfl⟩
      have c' : ¬ nI (tZ b L x) ≤ nI j := nI_ge (by omega) (by omega)
      rw [if_neg c']
      cases s with
      | false =>
        rw [if_neg (show ¬ false = true by decide), if_pos rfl, Bool.false_and]
        exact ⟨⟨vx, fun q => absurd q c', fun _ => ⟨fun _ => rfl, fun q => absurd rfl q⟩⟩, rfl⟩
      | true =>
        have zy := hs rfl
        have bx := hA.2.2 (tF b L x + j) (by omega)
        have by' := hA.2.2 (tF b L y + j) (by omega)
        rw [if_pos rfl, if_neg (show ¬ (1 : Int32) = 0 by decide), nI_clamp (by omega), nI_clamp (by omega), h2, bx.1, by'.1, Bool.true_and]
        have v1 := vp_in_nI (n := tF b L x + j) (N := 65536) (by omega) (by decide)
        have v2 := vp_in_nI (n := tF b L y + j) (N := 65536) (by omega) (by decide)
        by_cases d : b (tF b L x + j) = b (tF b L y + j)
        · have d' : sb (b (tF b L x + j)) = sb (b (tF b L y + j)) := by rw [d]
          have i2 := ih (j + 1) true (by omega) (by omega) hs
          rw [if_pos rfl, Bool.true_and] at i2
          have ee : decide (∀ k, k < tZ b L x → j ≤ k → b (tF b L x + k) = b (tF b L y + k)) = decide (∀ k, k < tZ b L x → j + 1 ≤ k → b (tF b L x + k) = b (tF b L y + k)) := by
            apply decide_eq_decide.mpr
            constructor
            · intro h k h1 h2; exact h k h1 (by omega)
            · intro h k h1 h2
              by_cases e : k = j
              · rw [e]; exact d
              · exact h k h1 (by omega)
          rw [if_pos d', ee]
          exact ⟨⟨vx, fun q => absurd q c', fun _ => ⟨fun q => absurd q (by decide), fun _ => ⟨vx, v1, vy, v2, fun _ => i2.1, fun q => absurd d' q⟩⟩⟩, i2.2⟩
        · have d' : ¬ sb (b (tF b L x + j)) = sb (b (tF b L y + j)) := fun q => d ((sb_inj bx.2 by'.2).mp q)
          have i2 := ih (j + 1) false (by omega) (by omega) (fun q => by cases q)
          rw [if_neg (show ¬ false = true by decide), Bool.false_and] at i2
          have ee : decide (∀ k, k < tZ b L x → j ≤ k → b (tF b L x + k) = b (tF b L y + k)) = false := decide_eq_false (fun h => d (h j (by omega) (Nat.le_refl _)))
          rw [if_neg d', ee]
          exact ⟨⟨vx, fun q => absurd q c', fun _ => ⟨fun q => absurd q (by decide), fun _ => ⟨vx, v1, vy, v2, fun q => absurd q d', fun _ => i2.1⟩⟩⟩, i2.2⟩
  have eqz : ∀ (p q z : Nat), eqr b p q z = decide (∀ k, k < z → b (p + k) = b (q + k)) := by
    intro p q z
    induction z with
    | zero => exact (decide_eq_true (fun k h => by omega)).symm
    | succ z ihz =>
      unfold eqr
      rw [ihz, ← Bool.decide_and]
      apply decide_eq_decide.mpr
      constructor
      · intro h k hk
        by_cases e : k = z
        · rw [e]; exact h.2
        · exact h.1 k (by omega)
      · intro h; exact ⟨fun k hk => h k (by omega), h z (by omega)⟩
  unfold pTk_areSame fTk_areSame pTk_areSame_20 fTk_areSame_20
  rw [nI_clamp (n := x) (by omega), nI_clamp (n := y) (by omega), h20x, h20y, ← nI_0, eqz]
  by_cases e : tZ b L x = tZ b L y
  · have e' : nI (tZ b L x) = nI (tZ b L y) := by rw [e]
    have z := lp 40 0 true (by omega) (by omega) (fun _ => e)
    rw [if_pos rfl, Bool.true_and] at z
    rw [if_pos e', decide_eq_true e, Bool.true_and]
    have ee : decide (∀ k, k < tZ b L x → 0 ≤ k → b (tF b L x + k) = b (tF b L y + k)) = decide (∀ k, k < tZ b L x → b (tF b L x + k) = b (tF b L y + k)) := decide_eq_decide.mpr ⟨fun h k h1 => h k h1 (Nat.zero_le _), fun h k h1 _ => h k h1⟩
    rw [ee] at z
    exact ⟨⟨vx, vy, fun _ => z.1, fun q => absurd e' q⟩, z.2⟩
  · have e' : ¬ nI (tZ b L x) = nI (tZ b L y) := fun q => e ((nI_eq (by omega) (by omega)).mp q)
    have z := lp 40 0 false (by omega) (by omega) (fun q => by cases q)
    rw [if_neg (show ¬ false = true by decide), Bool.false_and] at z
    rw [if_neg e', decide_eq_false e, Bool.false_and]
    rw [nI_0] at z ⊢
    exact ⟨⟨vx, vy, fun q => absurd q e', fun _ => z.1⟩, z.2⟩
theorem c_bMem {A I : Mm} (hA : cBy A b L) {n : Nat} (hE : bE (tB b L) n) (h : cT A b L n I) : bMem I (tB b L) n := by
  have hb := fun q hq => (hA.2.2 q hq).2
  obtain ⟨h5, h6, hr, hk⟩ := h
  have hn := hE.2.1
  refine ⟨h5, fun i hi => (hk i hi).1, fun i hi h44 => ⟨(hk i hi).2.2.2 h44, ?_⟩, fun I' J x y hx hy kx ky e19 e20 e2 => ?_⟩
  · have t := (tok_in (i := i) hb (tF_le hb i)).2.2.2.2.1 h44
    have v := val_lt (b := b) (p := tF b L i) (tZ b L i) t.2
    have p9 : 10 ^ tZ b L i ≤ 10 ^ 9 := Nat.pow_le_pow_right (by decide) t.1
    show val b (tF b L i) (tZ b L i) < 2 ^ 30
    exact Nat.lt_of_lt_of_le v (Nat.le_trans p9 (by decide))
  · have tx := tok_in (i := x) hb (tF_le hb x)
    have ty := tok_in (i := y) hb (tF_le hb y)
    exact c_same hA (n := n) (by omega) (by omega) (by rw [e20]; exact (hk x hx).2.2.1) (by rw [e20]; exact (hk y hy).2.2.1) (by rw [e19]; exact (hk x hx).2.1) (by rw [e19]; exact (hk y hy).2.1) (by rw [e2]; exact hr 2 (by decide)) (tx.2.2.2.1 kx) tx.1 ty.1
end
