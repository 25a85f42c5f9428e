/-! CLASS'S SETS 3: all next, { } -/
def cN (n m ib : Nat) (nx : Nat → Nat → Nat) (I : Mm) : Prop := I 25 1 = nI n ∧ n ≤ 256 ∧ I 25 2 = nI m ∧ m = 2 ^ ib ∧ ib ≤ 3 ∧ I 3 8 = nI ib ∧ n * m ≤ 2048 ∧ ∀ s, s < n → ∀ i, i < m → I 26 (s * m + i) = nI (nx s i) ∧ nx s i < n
theorem cN_c {n m ib : Nat} {nx : Nat → Nat → Nat} {I I' : Mm} (h : cN n m ib nx I) (e3 : I' 3 = I 3) (e25 : I' 25 = I 25) (e26 : I' 26 = I 26) : cN n m ib nx I' := by
  unfold cN at h ⊢
  rw [e3, e25, e26]; exact h
theorem cN_m {n m ib : Nat} {nx : Nat → Nat → Nat} {I : Mm} (h : cN n m ib nx I) : 1 ≤ m ∧ m ≤ 8 := by
  obtain ⟨h1, h2, h3, h4, h5, h6, h7, h8⟩ := h
  rw [h4]
  have : 2 ^ ib ≤ 2 ^ 3 := Nat.pow_le_pow_right (by decide) h5
  have : 0 < 2 ^ ib := Nat.two_pow_pos _
  omega
theorem cs_lt {n m s i : Nat} (hs : s < n) (hi : i < m) : s * m + i < n * m := by
  have : (s + 1) * m ≤ n * m := Nat.mul_le_mul_right _ hs
  rw [Nat.succ_mul] at this
  omega
section
variable {n m ib : Nat} {nx : Nat → Nat → Nat} {I : Mm}
theorem cN_case (h : cN n m ib nx I) (J : Ml) {s i : Nat} (hs : s < n) (hi : i < m) : fSt_caseOf (nI s) (nI i) I J = nI (s * m + i) := by
  obtain ⟨h1, h2, h3, h4, h5, h6, h7, h8⟩ := h
  unfold fSt_caseOf
  rw [h6, nI_sor (by omega) (by omega) (by omega), ← h4]
theorem cm_aan (h : cN n m ib nx I) (J : Ml) {t s : Nat} (ht : t + 4 ≤ 624) (hs : s < n) : ∀ k i, i ≤ m → m - i < k → pCm_isAtAllNext_2 k (nI t) (nI s) (nI i) I J ∧ (fCm_isAtAllNext_2 k (nI t) (nI s) (nI i) I J = 0 ↔ ¬ ∀ j, i ≤ j → j < m → sB J t (nx s j) = true) := by
  have m8 := cN_m h
  have hc := h
  obtain ⟨h1, h2, h3, h4, h5, h6, h7, h8⟩ := h
  intro k
  induction k with
  | zero => intro i _ h; omega
  | succ k ih =>
    intro i hi hk
    rw [pCm_isAtAllNext_2.eq_2, fCm_isAtAllNext_2.eq_2]
    by_cases c : m ≤ i
    · have c' : I 25 2 ≤ nI i := by rw [h3]; exact nI_le c (by omega)
      rw [if_pos c']
      exact ⟨⟨fun _ => trivial, fun q => absurd c' q⟩, fun q => absurd q (by decide), fun q => absurd (fun j h1 h2 => by omega) q⟩
    · have c' : ¬ I 25 2 ≤ nI i := by rw [h3]; exact nI_ge (by omega) (by omega)
      have lt := cs_lt hs (show i < m by omega)
      obtain ⟨x1, x2⟩ := h8 s hs i (by omega)
      rw [if_neg c', cN_case hc J hs (by omega), nI_clamp (by omega), x1]
      have hh := cm_has (I := I) (J := J) ht (show nx s i < 256 by omega)
      have vv : vp_in (nI (s * m + i)) 2048 := vp_in_nI (by omega) (by decide)
      rw [nI_i1]
      obtain ⟨z1, z2⟩ := ih (i + 1) (by omega) (by omega)
      by_cases b : sB J t (nx s i) = true
      · have e : ¬ fCm_has (nI t) (nI (nx s i)) I J = 0 := by rw [hh.2, if_pos b]; decide
        rw [if_neg e]
        refine ⟨⟨fun q => absurd q c', fun _ => ⟨trivial, vv, hh.1, fun q => absurd q e, fun _ => z1⟩⟩, z2.trans (not_congr ⟨fun q j h1 h2 => ?_, fun q j h1 h2 => q j (by omega) h2⟩)⟩
        by_cases cj : j = i
        · rw [cj]; exact b
        · exact q j (by omega) h2
      · have e : fCm_has (nI t) (nI (nx s i)) I J = 0 := by rw [hh.2, if_neg b]
        rw [if_pos e]
        exact ⟨⟨fun q => absurd q c', fun _ => ⟨trivial, vv, hh.1, fun _ => trivial, fun q => absurd e q⟩⟩, fun _ q => b (q i (Nat.le_refl _) (by omega)), fun _ => rfl⟩
theorem cm_aan' (h : cN n m ib nx I) (J : Ml) {t s : Nat} (ht : t + 4 ≤ 624) (hs : s < n) : pCm_isAtAllNext 9 (nI t) (nI s) I J ∧ (fCm_isAtAllNext 9 (nI t) (nI s) I J = 0 ↔ ¬ preA m nx (fun r => sB J t r) s) := by
  have m8 := cN_m h
  have z := cm_aan h J ht hs 9 0 (Nat.zero_le _) (by omega)
  exact ⟨z.1, z.2.trans (not_congr ⟨fun q i hi => q i (Nat.zero_le _) hi, fun q j _ hj => q j hj⟩)⟩
theorem cm_an_l (h : cN n m ib nx I) {t : Nat} (ht : t + 8 ≤ 624) (Q : Mm × Ml → Prop) {f : Se} : ∀ (k s : Nat) (J : Ml), s ≤ n → n - s < k → (∀ r, r < 256 → sB J t r = f r) → (∀ (y : Int32) (J' : Ml), kF (t + 4) J J' → (∀ r, r < 256 → (sB J' (t + 4) r = true ↔ (sB J (t + 4) r = true ∨ (s ≤ r ∧ r < n ∧ preA m nx f r)))) → (pCm_pop I J' ∧ pCm_allNext_44 (nI t) (nI (t + 4)) y (fCm_pop I J').1 (fCm_pop I J').2 J') ∧ Q (fCm_allNext_44 (nI t) (nI (t + 4)) y (fCm_pop I J').1 (fCm_pop I J').2 J')) → pCm_allNext_7 k (nI t) (nI (t + 4)) (nI s) I J ∧ Q (fCm_allNext_7 k (nI t) (nI (t + 4)) (nI s) I J) := by
  have hc := h
  obtain ⟨h1, h2, h3, h4, h5, h6, h7, h8⟩ := h
  intro k
  induction k with
  | zero => intro s J _ h; omega
  | succ k ih =>
    intro s J hs hk hf nxt
    rw [pCm_allNext_7.eq_2, fCm_allNext_7.eq_2]
    by_cases c : n ≤ s
    · have c' : I 25 1 ≤ nI s := by rw [h1]; exact nI_le c (by omega)
      have z := nxt (nI s) J (kF_r _ _) (fun r hr => ⟨fun q => Or.inl q, fun q => by
        rcases q with q | q
        · exact q
        · omega⟩)
      rw [if_pos c']
      exact ⟨⟨fun _ => z.1, fun q => absurd c' q⟩, z.2⟩
    · have c' : ¬ I 25 1 ≤ nI s := by rw [h1]; exact nI_ge (by omega) (by omega)
      have a := cm_aan' hc J (t := t) (s := s) (by omega) (by omega)
      have pe : preA m nx (fun r => sB J t r) s ↔ preA m nx f s := ⟨fun q i hi => by rw [← hf _ (by have := (h8 s (by omega) i hi).2; omega)]; exact q i hi, fun q i hi => by
        show sB J t (nx s i) = true
        rw [hf _ (by have := (h8 s (by omega) i hi).2; omega)]; exact q i hi⟩
      rw [if_neg c']
      unfold pCm_allNext_33 fCm_allNext_33
      rw [nI_i1]
      by_cases b : preA m nx f s
      · have e : ¬ fCm_isAtAllNext 9 (nI t) (nI s) I J = 0 := fun q => (a.2.mp q) (pe.mpr b)
        have pu := cm_put (I := I) (J := J) (t := t + 4) (s := s) (by omega) (by omega)
        rw [if_neg e]
        have z := ih (s + 1) (fCm_put (nI (t + 4)) (nI s) I J) (by omega) (by omega) (fun r hr => by rw [kF_b pu.2.1 (by omega) hr]; exact hf r hr) (fun y J' k1 k2 => nxt y J' (kF_t pu.2.1 k1) (fun r hr => by
          rw [k2 r hr, pu.2.2 r hr, Bool.or_eq_true, decide_eq_true_iff]
          constructor
          · rintro ((q | q) | q)
            · exact Or.inl q
            · exact Or.inr ⟨by omega, by omega, by rw [q]; exact b⟩
            · exact Or.inr ⟨by omega, q.2.1, q.2.2⟩
          · rintro (q | q)
            · exact Or.inl (Or.inl q)
            · by_cases cr : r = s
              · exact Or.inl (Or.inr cr)
              · exact Or.inr ⟨by omega, q.2.1, q.2.2⟩))
        exact ⟨⟨fun q => absurd q c', fun _ => ⟨a.1, fun q => absurd q e, fun _ => ⟨pu.1, z.1⟩⟩⟩, z.2⟩
      · have e : fCm_isAtAllNext 9 (nI t) (nI s) I J = 0 := a.2.mpr (fun q => b (pe.mp q))
        rw [if_pos e]
        have z := ih (s + 1) J (by omega) (by omega) hf (fun y J' k1 k2 => nxt y J' k1 (fun r hr => by
          rw [k2 r hr]
          constructor
          · rintro (q | q)
            · exact Or.inl q
            · exact Or.inr ⟨by omega, q.2.1, q.2.2⟩
          · rintro (q | q)
            · exact Or.inl q
            · by_cases cr : r = s
              · rw [cr] at q; exact absurd q.2.2 b
              · exact Or.inr ⟨by omega, q.2.1, q.2.2⟩))
        exact ⟨⟨fun q => absurd q c', fun _ => ⟨a.1, fun _ => z.1, fun q => absurd e q⟩⟩, z.2⟩
theorem cm_ax {J : Ml} {f : Se} {S : List Se} (h : cN n m ib nx I) (hK : cK n I J (f :: S)) (hS : S.length + 1 < 125) : pCm_allNext 257 (nI (124 + 4 * S.length)) I J ∧ ∃ I' J', fCm_allNext 257 (nI (124 + 4 * S.length)) I J = (I', J') ∧ cK n I' J' (axF n m nx f :: S) ∧ gI I I' ∧ gJ J J' := by
  obtain ⟨p1, I1, J1, p2, p3, p4, p5⟩ := cm_push hK (by rw [List.length_cons]; omega)
  rw [List.length_cons] at p2 p5
  have e4 : 124 + 4 * (S.length + 1) = 124 + 4 * S.length + 4 := by omega
  rw [e4] at p2 p5
  have h1 : cN n m ib nx I1 := cN_c h (p4 3 (by decide) (by decide) (by decide)) (p4 25 (by decide) (by decide) (by decide)) (p4 26 (by decide) (by decide) (by decide))
  have n256 := h.2.1
  have z := cm_an_l h1 (t := 124 + 4 * S.length) (by omega) (fun X => ∃ I' J', X = (I', J') ∧ cK n I' J' (axF n m nx f :: S) ∧ gI I I' ∧ gJ J J') (f := f) 257 0 J1 (Nat.zero_le _) (by omega) p3.2.2.1.2.1 (fun y J' k1 k2 => by
    have hb : ∀ s, s < 256 → sB J' (124 + 4 * S.length + 4) s = axF n m nx f s := fun s hs => by
      rw [Bool.eq_iff_iff, k2 s hs, axF_i]
      have e0 : sB J1 (124 + 4 * S.length + 4) s = false := by
        have := p3.2.2.1.1 s hs
        rw [List.length_cons, e4] at this
        exact this
      rw [e0]
      constructor
      · rintro (q | q)
        · exact absurd q (by decide)
        · exact q.2
      · exact fun q => Or.inr ⟨Nat.zero_le _, q⟩
    have hK' : cK n I1 J' (axF n m nx f :: f :: S) := cK_top p3 (by rw [List.length_cons, e4]; exact k1) (by rw [List.length_cons, e4]; exact hb) (fun s hs => (axF_i.mp hs).1)
    obtain ⟨o1, I2, o2, o3, o4⟩ := cm_pop hK'
    rw [List.length_cons, e4] at o2
    rw [o2]
    have cp := cm_copy (I := I2) (a := 124 + 4 * S.length + 4) (t := 124 + 4 * S.length) (by omega) (by omega) J'
    refine ⟨⟨o1, cp.1, trivial⟩, I2, _, rfl, cK_top o3 cp.2.1 (fun s hs => by rw [cp.2.2 s hs]; exact hb s hs) (fun s hs => (axF_i.mp hs).1), gI_t p4 o4, gJ_t (gJ_t (gJ_k p5 (by omega)) (gJ_k k1 (by omega))) (gJ_k cp.2.1 (by omega))⟩)
  unfold pCm_allNext fCm_allNext pCm_allNext_4 fCm_allNext_4
  rw [p2]
  exact ⟨⟨p1, z.1⟩, z.2⟩
/-! { } -/
theorem vT_c {W : Nat} {I I' : Mm} {J J' : Ml} {S : List (Nat → BitVec 8)} (h : vT W I J S) (e22 : I' 22 = I 22) (e24 : I' 24 = I 24) (e23 : J' 23 = J 23) : vT W I' J' S := by
  have go : ∀ S : List (Nat → BitVec 8), vS (8 * W) I J S → vS (8 * W) I' J' S := by
    intro S
    induction S with
    | nil => exact fun _ => trivial
    | cons f S ih =>
      intro h
      obtain ⟨⟨row, h1, h2, h3⟩, h4⟩ := h
      exact ⟨⟨row, by rw [e24]; exact h1, h2, fun c hc => by unfold lv; rw [e23]; exact h3 c hc⟩, ih h4⟩
  exact ⟨by rw [e22]; exact h.1, h.2.1, h.2.2.1, by rw [e22]; exact h.2.2.2.1, h.2.2.2.2.1, go S h.2.2.2.2.2⟩
theorem cm_tai {W : Nat} {J : Ml} {g : Nat → BitVec 8} (h : cN n m ib nx I) (hW : n * m ≤ 8 * W) (hV : vT W I J [g]) {s : Nat} (hs : s < n) : ∀ k i, i ≤ m → m - i < k → pCm_isTrueWithAllInputs_2 k (nI s) (nI i) I J ∧ (fCm_isTrueWithAllInputs_2 k (nI s) (nI i) I J = 0 ↔ ¬ ∀ j, i ≤ j → j < m → g (s * m + j) ≠ 0#8) := by
  have m8 := cN_m h
  have hc := h
  obtain ⟨h1, h2, h3, h4, h5, h6, h7, h8⟩ := h
  intro k
  induction k with
  | zero => intro i _ h; omega
  | succ k ih =>
    intro i hi hk
    rw [pCm_isTrueWithAllInputs_2.eq_2, fCm_isTrueWithAllInputs_2.eq_2]
    by_cases c : m ≤ i
    · have c' : I 25 2 ≤ nI i := by rw [h3]; exact nI_le c (by omega)
      rw [if_pos c']
      exact ⟨⟨fun _ => trivial, fun q => absurd c' q⟩, fun q => absurd q (by decide), fun q => absurd (fun j h1 h2 => by omega) q⟩
    · have c' : ¬ I 25 2 ≤ nI i := by rw [h3]; exact nI_ge (by omega) (by omega)
      have lt := cs_lt hs (show i < m by omega)
      have ol := vx_last hV (c := s * m + i) (by omega)
      rw [if_neg c', cN_case hc J hs (by omega), ol.2, nI_i1]
      obtain ⟨z1, z2⟩ := ih (i + 1) (by omega) (by omega)
      by_cases b : g (s * m + i) = 0#8
      · have e : nI (g (s * m + i)).toNat = 0 := by rw [b]; rfl
        rw [if_pos e]
        exact ⟨⟨fun q => absurd q c', fun _ => ⟨trivial, ol.1, fun _ => trivial, fun q => absurd e q⟩⟩, fun _ q => q i (Nat.le_refl _) (by omega) b, fun _ => rfl⟩
      · have e : ¬ nI (g (s * m + i)).toNat = 0 := nI_ne0 (Nat.pos_of_ne_zero (fun q => b ((b0n _).mpr q))) (by have := (g (s * m + i)).isLt; omega)
        rw [if_neg e]
        refine ⟨⟨fun q => absurd q c', fun _ => ⟨trivial, ol.1, fun q => absurd q e, fun _ => z1⟩⟩, z2.trans (not_congr ⟨fun q j h1 h2 => ?_, fun q j h1 h2 => q j (by omega) h2⟩)⟩
        by_cases cj : j = i
        · rw [cj]; exact b
        · exact q j (by omega) h2
theorem cm_te_l {W : Nat} {g : Nat → BitVec 8} (h : cN n m ib nx I) (hW : n * m ≤ 8 * W) {t : Nat} (ht : t + 4 ≤ 624) : ∀ (k s : Nat) (J : Ml), vT W I J [g] → s ≤ n → n - s < k → pCm_test_7 k (nI t) (nI s) I J ∧ ∃ J', fCm_test_7 k (nI t) (nI s) I J = (pm_u I 22 3 0, J') ∧ kF t J J' ∧ ∀ r, r < 256 → (sB J' t r = true ↔ (sB J t r = true ∨ (s ≤ r ∧ r < n ∧ ∀ i, i < m → g (r * m + i) ≠ 0#8))) := by
  have m8 := cN_m h
  have hc := h
  obtain ⟨h1, h2, h3, h4, h5, h6, h7, h8⟩ := h
  intro k
  induction k with
  | zero => intro s J _ _ h; omega
  | succ k ih =>
    intro s J hV hs hk
    rw [pCm_test_7.eq_2, fCm_test_7.eq_2]
    by_cases c : n ≤ s
    · have c' : I 25 1 ≤ nI s := by rw [h1]; exact nI_le c (by omega)
      have d := va_drop hV J
      rw [if_pos c', d.2]
      exact ⟨⟨fun _ => ⟨d.1, trivial⟩, fun q => absurd c' q⟩, J, rfl, kF_r _ _, fun r hr => ⟨fun q => Or.inl q, fun q => by
        rcases q with q | q
        · exact q
        · omega⟩⟩
    · have c' : ¬ I 25 1 ≤ nI s := by rw [h1]; exact nI_ge (by omega) (by omega)
      have a := cm_tai hc hW hV (s := s) (by omega) 9 0 (Nat.zero_le _) (by omega)
      have a1 : pCm_isTrueWithAllInputs 9 (nI s) I J := a.1
      have a2 : fCm_isTrueWithAllInputs 9 (nI s) I J = 0 ↔ ¬ ∀ j, 0 ≤ j → j < m → g (s * m + j) ≠ 0#8 := a.2
      rw [if_neg c']
      unfold pCm_test_33 fCm_test_33
      rw [nI_i1]
      by_cases b : ∀ i, i < m → g (s * m + i) ≠ 0#8
      · have e : ¬ fCm_isTrueWithAllInputs 9 (nI s) I J = 0 := fun q => (a2.mp q) (fun j _ hj => b j hj)
        have pu := cm_put (I := I) (J := J) (t := t) (s := s) ht (by omega)
        rw [if_neg e]
        obtain ⟨z1, J', z2, z3, z4⟩ := ih (s + 1) (fCm_put (nI t) (nI s) I J) (vT_c hV rfl rfl (pu.2.1.1 23 (by decide))) (by omega) (by omega)
        refine ⟨⟨fun q => absurd q c', fun _ => ⟨a1, fun q => absurd q e, fun _ => ⟨pu.1, z1⟩⟩⟩, J', z2, kF_t pu.2.1 z3, fun r hr => ?_⟩
        rw [z4 r hr, pu.2.2 r hr, Bool.or_eq_true, decide_eq_true_iff]
        constructor
        · rintro ((q | q) | q)
          · exact Or.inl q
          · exact Or.inr ⟨by omega, by omega, by rw [q]; exact b⟩
          · exact Or.inr ⟨by omega, q.2.1, q.2.2⟩
        · rintro (q | q)
          · exact Or.inl (Or.inl q)
          · by_cases cr : r = s
            · exact Or.inl (Or.inr cr)
            · exact Or.inr ⟨by omega, q.2.1, q.2.2⟩
      · have e : fCm_isTrueWithAllInputs 9 (nI s) I J = 0 := a2.mpr (fun q => b (fun i hi => q i (Nat.zero_le _) hi))
        rw [if_pos e]
        obtain ⟨z1, J', z2, z3, z4⟩ := ih (s + 1) J hV (by omega) (by omega)
        refine ⟨⟨fun q => absurd q c', fun _ => ⟨a1, fun _ => z1, fun q => absurd e q⟩⟩, J', z2, z3, fun r hr => ?_⟩
        rw [z4 r hr]
        constructor
        · rintro (q | q)
          · exact Or.inl q
          · exact Or.inr ⟨by omega, q.2.1, q.2.2⟩
        · rintro (q | q)
          · exact Or.inl q
          · by_cases cr : r = s
            · rw [cr] at q; exact absurd q.2.2 b
            · exact Or.inr ⟨by omega, q.2.1, q.2.2⟩
theorem cm_tst {W : Nat} {J : Ml} {g : Nat → BitVec 8} {S : List Se} (h : cN n m ib nx I) (hW : n * m ≤ 8 * W) (hV : vT W I J [g]) (hK : cK n I J S) (hS : S.length < 125) : pCm_test 257 I J ∧ ∃ I' J', fCm_test 257 I J = (I', J') ∧ vT W I' J' [] ∧ cK n I' J' (tsF n m (fun c => [g c]) :: S) ∧ (∀ a, a ≠ 22 → a ≠ 33 → a ≠ 35 → a ≠ 36 → I' a = I a) ∧ (∀ j, j ≠ 3 → I' 22 j = I 22 j) ∧ gJ J J' := by
  obtain ⟨p1, I1, J1, p2, p3, p4, p5⟩ := cm_push hK hS
  have n256 := h.2.1
  have h1 : cN n m ib nx I1 := cN_c h (p4 3 (by decide) (by decide) (by decide)) (p4 25 (by decide) (by decide) (by decide)) (p4 26 (by decide) (by decide) (by decide))
  have hV1 : vT W I1 J1 [g] := vT_c hV (p4 22 (by decide) (by decide) (by decide)) (p4 24 (by decide) (by decide) (by decide)) (p5.1 23 (by decide))
  obtain ⟨z1, J', z2, z3, z4⟩ := cm_te_l h1 hW (t := 124 + 4 * S.length) (by omega) 257 0 J1 hV1 (Nat.zero_le _) (by omega)
  have z1' : pCm_test_7 257 (nI (124 + 4 * S.length)) 0 I1 J1 := z1
  have z2' : fCm_test_7 257 (nI (124 + 4 * S.length)) 0 I1 J1 = (pm_u I1 22 3 0, J') := z2
  unfold pCm_test fCm_test pCm_test_4 fCm_test_4
  rw [p2]
  dsimp only
  rw [z2']
  have hK' : cK n I1 J' (tsF n m (fun c => [g c]) :: S) := cK_top p3 z3 (fun s hs => by
    rw [Bool.eq_iff_iff, z4 s hs, tsF_i]
    have e0 : sB J1 (124 + 4 * S.length) s = false := p3.2.2.1.1 s hs
    rw [e0]
    constructor
    · rintro (q | q)
      · exact absurd q (by decide)
      · exact q.2
    · exact fun q => Or.inr ⟨Nat.zero_le _, q⟩) (fun s hs => (tsF_i.mp hs).1)
  refine ⟨⟨p1, z1'⟩, _, J', rfl, ⟨?_, hV1.2.1, hV1.2.2.1, by rw [pm_u_s]; rfl, Nat.zero_le _, trivial⟩, cK_i hK' (by rw [pm_u_n _ _ _ (by decide)]), fun a h1 h2 h3 h4 => by rw [pm_u_n _ _ _ h1]; exact p4 a h2 h3 h4, fun j hj => by rw [pm_u_j _ _ _ hj, p4 22 (by decide) (by decide) (by decide)], gJ_t (gJ_k p5 (by omega)) (gJ_k z3 (by omega))⟩
  rw [pm_u_j _ _ _ (by decide)]; exact hV1.1
end
