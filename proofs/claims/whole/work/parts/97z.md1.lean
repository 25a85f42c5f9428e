/-! MODEL WORKS OUT 1: what it knows of a circuit; values of the names -/
def mC (Nm : NmT) (rb ib : Nat) (Hn : List Nat) (D : List Itm) (M : Mm) : Prop := (M 40 23 = nI (cnt 29 Nm) ∧ M 40 24 = nI (cnt 30 Nm) ∧ M 40 25 = nI (cnt 31 Nm) ∧ M 40 27 = nI rb ∧ M 40 28 = nI ib) ∧ (Nm.length ≤ 60 ∧ rb = bs 29 Nm ∧ ib = bs 30 Nm ∧ rb ≤ 8 ∧ ib ≤ 3) ∧ (∀ (k : Nat) (x : Nat × Nat × Nat × Nat), Nm[k]? = some x → nW Nm k x) ∧ (∀ (k : Nat) (x : Nat × Nat × Nat × Nat), Nm[k]? = some x → M 44 k = nI (mkd x.2.1)) ∧ mLn Nm Hn M ∧ lDD Nm Hn D ∧ ∀ x ∈ D, x.2.1 < Nm.length ∧ ∃ e lo, Ev M 600 lo e x.2.2 ∧ ((x.1 = 31 ∧ M 50 (cnt 31 (Nm.take x.2.1)) = nI e) ∨ (x.1 = 32 ∧ x.2.1 ∈ Hn ∧ M 48 (cnt 29 (Nm.take x.2.1)) = nI e))
/-- rows that the evaluation leaves alone -/
def mX (M M' : Mm) : Prop := ∀ a, 41 < a → a < 60 → M' a = M a
theorem mC_x {Nm : NmT} {rb ib : Nat} {Hn : List Nat} {D : List Itm} {M M' : Mm} (h : mC Nm rb ib Hn D M) (f : mX M M') (f40 : ∀ j, 22 < j → j < 29 → M' 40 j = M 40 j) : mC Nm rb ib Hn D M' := by
  obtain ⟨h1, h2, h3, h4, h5, h6, h7⟩ := h
  refine ⟨⟨by rw [f40 23 (by decide) (by decide)]; exact h1.1, by rw [f40 24 (by decide) (by decide)]; exact h1.2.1, by rw [f40 25 (by decide) (by decide)]; exact h1.2.2.1, by rw [f40 27 (by decide) (by decide)]; exact h1.2.2.2.1, by rw [f40 28 (by decide) (by decide)]; exact h1.2.2.2.2⟩, h2, h3, fun k x hx => by rw [f 44 (by decide) (by decide)]; exact h4 k x hx, fun k x hx => by rw [f 45 (by decide) (by decide), f 46 (by decide) (by decide), f 48 (by decide) (by decide), f 49 (by decide) (by decide)]; exact h5 k x hx, h6, fun x hx => ?_⟩
  obtain ⟨a1, e, lo, a2, a3⟩ := h7 x hx
  refine ⟨a1, e, lo, Ev_c a2 (fun k _ _ => ⟨by rw [f 52 (by decide) (by decide)], by rw [f 53 (by decide) (by decide)], by rw [f 54 (by decide) (by decide)], fun _ => ⟨by rw [f 55 (by decide) (by decide)], by rw [f 56 (by decide) (by decide)]⟩⟩) (Nat.le_refl _) (Nat.le_refl _), ?_⟩
  rw [f 50 (by decide) (by decide), f 48 (by decide) (by decide)]
  exact a3
theorem dW_it {Nm : NmT} : ∀ (D : List Itm) (lo : Nat), dW Nm lo D → ∀ x ∈ D, ∃ p, p ≤ Nm.length ∧ dI Nm p x.2.2 ∧ (x.1 = 31 → x.2.1 = p ∧ kd Nm x.2.1 = 31) ∧ (x.1 = 32 → kd Nm x.2.1 = 29)
  | [], _, _, x, hx => by cases hx
  | y :: l, lo, h, x, hx => by
    obtain ⟨p, h1, h2, hq, h3, h4⟩ := h
    rcases List.mem_cons.mp hx with rfl | hx
    · refine ⟨p, h2, h3, fun e => ?_, fun e => ?_⟩
      · rcases h4 with ⟨a1, a2, a3, a4, a5⟩ | ⟨a1, _⟩
        · exact ⟨a2, by rw [a2]; exact a4⟩
        · omega
      · rcases h4 with ⟨a1, _⟩ | ⟨a1, a2, a3, a4⟩
        · omega
        · exact a3
    · rcases h4 with ⟨a1, a2, a3, a4, a5⟩ | ⟨a1, a2, a3, a4⟩
      · exact dW_it l _ a5 x hx
      · exact dW_it l _ a4 x hx
theorem cnt_mo {t : Nat} {Nm : NmT} {a b : Nat} (h : a ≤ b) (hb : b ≤ Nm.length) : cnt t (Nm.take a) ≤ cnt t (Nm.take b) := by
  induction b with
  | zero => rw [show a = 0 by omega]; exact Nat.le_refl _
  | succ b ih =>
    by_cases e : a = b + 1
    · rw [e]; exact Nat.le_refl _
    · have := ih (by omega) (by omega)
      rw [cnt_t (by omega)]; omega
theorem cntbs {t : Nat} {Nm : NmT} (h : ∀ k, k < Nm.length → kd Nm k = t → 1 ≤ wd Nm k) : ∀ k, k ≤ Nm.length → cnt t (Nm.take k) ≤ bs t (Nm.take k)
  | 0, _ => by rw [List.take_zero, cnt, bs]; exact Nat.le_refl _
  | k + 1, hk => by
    have ih := cntbs h k (by omega)
    rw [cnt_t (by omega), bs_t (by omega)]
    by_cases c : kd Nm k = t
    · rw [if_pos c, if_pos c]; have := h k (by omega) c; omega
    · rw [if_neg c, if_neg c]; omega
section
variable {Nm : NmT} {rb ib : Nat} {Hn : List Nat} {D : List Itm} {M : Mm}
theorem mC_g (h : mC Nm rb ib Hn D M) {k : Nat} (hk : k < Nm.length) : M 44 k = nI (mkd (kd Nm k)) ∧ M 45 k = nI (cnt (kd Nm k) (Nm.take k)) ∧ (kd Nm k = 29 ∨ kd Nm k = 30 ∨ kd Nm k = 31 ∨ kd Nm k = 33) := by
  obtain ⟨x, hx⟩ := gN hk
  rw [kd_s hx]
  refine ⟨h.2.2.2.1 k x hx, (h.2.2.2.2.1 k x hx).1, ?_⟩
  rcases h.2.2.1 k x hx with w | w | w | w
  · exact Or.inl w.1
  · exact Or.inr (Or.inl w.1)
  · exact Or.inr (Or.inr (Or.inl w.1))
  · exact Or.inr (Or.inr (Or.inr w.1))
theorem mC_r (h : mC Nm rb ib Hn D M) {k : Nat} (hk : k < Nm.length) (h29 : kd Nm k = 29) : M 46 (cnt 29 (Nm.take k)) = nI (wd Nm k) ∧ pt Nm k = bs 29 (Nm.take (k + 1)) ∧ pt Nm k ≤ rb ∧ 1 ≤ wd Nm k ∧ (k ∉ Hn → M 48 (cnt 29 (Nm.take k)) = -1) := by
  obtain ⟨x, hx⟩ := gN hk
  have m := bs_mo (t := 29) (Nm := Nm) (show k + 1 ≤ Nm.length from hk) (Nat.le_refl _)
  rw [tk_all (Nat.le_refl _), ← h.2.1.2.1] at m
  have o := (h.2.2.2.2.1 k x hx).2.1
  have hw := h.2.2.1 k x hx
  rw [kd_s hx] at h29
  rw [pt_s hx, wd_s hx]
  have o' := o h29
  rcases hw with w | w | w | w
  · exact ⟨o'.1, w.2.2, by rw [w.2.2]; exact m, w.2.1, o'.2.1⟩
  · have := w.1; omega
  · have := w.1; omega
  · have := w.1; omega
theorem mC_i (h : mC Nm rb ib Hn D M) {k : Nat} (hk : k < Nm.length) (h30 : kd Nm k = 30) : M 49 (cnt 30 (Nm.take k)) = nI (wd Nm k) ∧ pt Nm k = bs 30 (Nm.take (k + 1)) ∧ pt Nm k ≤ ib ∧ 1 ≤ wd Nm k := by
  obtain ⟨x, hx⟩ := gN hk
  have m := bs_mo (t := 30) (Nm := Nm) (show k + 1 ≤ Nm.length from hk) (Nat.le_refl _)
  rw [tk_all (Nat.le_refl _), ← h.2.1.2.2.1] at m
  have o := (h.2.2.2.2.1 k x hx).2.2
  have hw := h.2.2.1 k x hx
  rw [kd_s hx] at h30
  rw [pt_s hx, wd_s hx]
  rcases hw with w | w | w | w
  · have := w.1; omega
  · exact ⟨o h30, w.2.2, by rw [w.2.2]; exact m, w.2.1⟩
  · have := w.1; omega
  · have := w.1; omega
theorem mC_n (h : mC Nm rb ib Hn D M) : cnt 29 Nm ≤ 8 ∧ cnt 30 Nm ≤ 3 ∧ cnt 31 Nm ≤ 60 := by
  have a := cntbs (t := 29) (Nm := Nm) (fun k hk h29 => (mC_r h hk h29).2.2.2.1) Nm.length (Nat.le_refl _)
  have c := cntbs (t := 30) (Nm := Nm) (fun k hk h30 => (mC_i h hk h30).2.2.2) Nm.length (Nat.le_refl _)
  rw [tk_all (Nat.le_refl _)] at a c
  have := cnt_le (kd := 31) Nm
  have h2 := h.2.1
  omega
theorem msk {w : Nat} (hw : w ≤ 8) : ((1 : Int32) <<< (nI w &&& 31)) - 1 = nI (2 ^ w - 1) := (show ∀ w, w ≤ 8 → ((1 : Int32) <<< (nI w &&& 31)) - 1 = nI (2 ^ w - 1) by decide +kernel) w hw
theorem and_m {a w : Nat} (ha : a < 2 ^ 31) (hw : w ≤ 8) : nI a &&& nI (2 ^ w - 1) = nI (a % 2 ^ w) := by
  have p8 : 2 ^ w ≤ 2 ^ 8 := Nat.pow_le_pow_right (by decide) hw
  exact pk_andN (by omega) w (pk_tn (by omega))
/-- registers -/
theorem ms_10 (h : mC Nm rb ib Hn D M) {s : Nat} (hs : s < 2 ^ rb) (y1 y2 : Int32) (Q : Mm → Prop) : ∀ (k f : Nat) (X : Mm), k ≤ Nm.length → cnt 29 (Nm.take k) < f → (∀ a, a ≠ 60 → X a = M a) → (∀ j, k ≤ j → j < Nm.length → kd Nm j = 29 → X 60 (cnt 29 (Nm.take j)) = nI (fV Nm rb ib s 0 j)) → (∀ X' : Mm, (∀ a, a ≠ 60 → X' a = M a) → (∀ j, j < Nm.length → kd Nm j = 29 → X' 60 (cnt 29 (Nm.take j)) = nI (fV Nm rb ib s 0 j)) → pMo_set_61 61 61 y1 y2 y2 (nI (cnt 30 Nm) - 1) X' ∧ Q (fMo_set_61 61 61 y1 y2 y2 (nI (cnt 30 Nm) - 1) X')) → pMo_set_10 61 61 f y1 y2 (nI (s / 2 ^ (rb - bs 29 (Nm.take k)))) (nI (cnt 29 (Nm.take k)) - 1) X ∧ Q (fMo_set_10 61 61 f y1 y2 (nI (s / 2 ^ (rb - bs 29 (Nm.take k)))) (nI (cnt 29 (Nm.take k)) - 1) X)
  | 0, f, X, hk, hf, hX, hv, nxt => by
    obtain ⟨f, rfl⟩ : ∃ q, f = q + 1 := ⟨f - 1, by omega⟩
    rw [pMo_set_10.eq_2, fMo_set_10.eq_2]
    have c : nI (cnt 29 (Nm.take 0)) - 1 < 0 := by rw [List.take_zero]; show nI 0 - 1 < 0; decide
    have z := nxt X hX (fun j hj h29 => hv j (Nat.zero_le _) hj h29)
    rw [if_pos c, hX 40 (by decide), h.1.2.1]
    exact ⟨⟨fun _ => z.1, fun q => absurd c q⟩, z.2⟩
  | k + 1, f, X, hk, hf, hX, hv, nxt => by
    have ct := cnt_t (t := 29) (show k < Nm.length by omega)
    have bt := bs_t (t := 29) (show k < Nm.length by omega)
    by_cases c : kd Nm k = 29
    · rw [if_pos c] at ct bt
      obtain ⟨r1, r2, r3, r4, _⟩ := mC_r h (show k < Nm.length by omega) c
      have n8 := mC_n h
      have cl := cnt_mo (t := 29) (Nm := Nm) (show k + 1 ≤ Nm.length from hk) (Nat.le_refl _)
      rw [tk_all (Nat.le_refl _)] at cl
      obtain ⟨f, rfl⟩ : ∃ q, f = q + 1 := ⟨f - 1, by omega⟩
      have r8 := h.2.1.2.2.2.1
      have p8 : 2 ^ rb ≤ 2 ^ 8 := Nat.pow_le_pow_right (by decide) r8
      have dl : s / 2 ^ (rb - bs 29 (Nm.take (k + 1))) ≤ s := Nat.div_le_self _ _
      have e1 : nI (cnt 29 (Nm.take (k + 1))) - 1 = nI (cnt 29 (Nm.take k)) := by rw [ct]; exact nI_pred _
      have c' : ¬ nI (cnt 29 (Nm.take k)) < 0 := nI_pos (by omega)
      have w8 : wd Nm k ≤ 8 := by omega
      have em : ((1 : Int32) <<< (M 46 (cnt 29 (Nm.take k)) &&& 31)) - 1 = nI (2 ^ wd Nm k - 1) := by rw [r1]; exact msk w8
      have ev : nI (s / 2 ^ (rb - bs 29 (Nm.take (k + 1)))) &&& nI (2 ^ wd Nm k - 1) = nI (fV Nm rb ib s 0 k) := by
        rw [and_m (by omega) w8]
        unfold fV
        rw [if_pos c, ← r2]; rfl
      have es : nI (s / 2 ^ (rb - bs 29 (Nm.take (k + 1)))) >>> (M 46 (cnt 29 (Nm.take k)) &&& 31) = nI (s / 2 ^ (rb - bs 29 (Nm.take k))) := by
        rw [r1, pk_shrN (by omega) _ (wd Nm k) (smk _ (by omega)), Nat.div_div_eq_div_mul, ← Nat.pow_add]
        congr 3
        omega
      have em1 : nI (cnt 29 (Nm.take k)) + Int32.ofInt (-1) = nI (cnt 29 (Nm.take k)) - 1 := by rw [show Int32.ofInt (-1) = (-1 : Int32) by decide, Int32.sub_eq_add_neg]
      rw [pMo_set_10.eq_2, fMo_set_10.eq_2, e1, if_neg c', nI_clamp (by omega), hX 46 (by decide), em, ev]
      have u46 : pm_u X 60 (cnt 29 (Nm.take k)) (nI (fV Nm rb ib s 0 k)) 46 (cnt 29 (Nm.take k)) = M 46 (cnt 29 (Nm.take k)) := by rw [pm_u_n _ _ _ (by decide), hX 46 (by decide)]
      rw [u46, es, em1]
      have z := ms_10 h hs y1 y2 Q k f (pm_u X 60 (cnt 29 (Nm.take k)) (nI (fV Nm rb ib s 0 k))) (by omega) (by omega) (fun a ha => by rw [pm_u_n _ _ _ ha]; exact hX a ha) (fun j h1 h2 h3 => by
        by_cases ej : j = k
        · rw [ej, pm_u_s]
        · have := cnt_mo (t := 29) (Nm := Nm) (show k + 1 ≤ j by omega) (by omega)
          rw [pm_u_j _ _ _ (by omega)]
          exact hv j (by omega) h2 h3) nxt
      have v8 : vp_in (nI (cnt 29 (Nm.take k))) 8 := vp_in_nI (by omega) (by decide)
      exact ⟨⟨fun q => absurd q c', fun _ => ⟨v8, v8, v8, z.1⟩⟩, z.2⟩
    · rw [if_neg c] at ct bt
      have ct' : cnt 29 (Nm.take (k + 1)) = cnt 29 (Nm.take k) := ct
      have bt' : bs 29 (Nm.take (k + 1)) = bs 29 (Nm.take k) := bt
      rw [ct', bt']
      exact ms_10 h hs y1 y2 Q k f X (by omega) (by rw [← ct']; exact hf) hX (fun j h1 h2 h3 => by
        by_cases ej : j = k
        · rw [ej] at h3; exact absurd h3 c
        · exact hv j (by omega) h2 h3) nxt
/-- inputs -/
theorem ms_61 (h : mC Nm rb ib Hn D M) {i : Nat} (hi : i < 2 ^ ib) (y1 y2 : Int32) (Y : Mm) (hY : ∀ a, a ≠ 60 → Y a = M a) (Q : Mm → Prop) : ∀ (k f : Nat) (X : Mm), k ≤ Nm.length → cnt 30 (Nm.take k) < f → (∀ a, a ≠ 61 → X a = Y a) → (∀ j, k ≤ j → j < Nm.length → kd Nm j = 30 → X 61 (cnt 30 (Nm.take j)) = nI (fV Nm rb ib 0 i j)) → (∀ X' : Mm, ∀ y3 : Int32, (∀ a, a ≠ 61 → X' a = Y a) → (∀ j, j < Nm.length → kd Nm j = 30 → X' 61 (cnt 30 (Nm.take j)) = nI (fV Nm rb ib 0 i j)) → pMo_set_105 61 y1 y2 y3 0 X' ∧ Q (fMo_set_105 61 y1 y2 y3 0 X')) → pMo_set_61 61 f y1 y2 (nI (i / 2 ^ (ib - bs 30 (Nm.take k)))) (nI (cnt 30 (Nm.take k)) - 1) X ∧ Q (fMo_set_61 61 f y1 y2 (nI (i / 2 ^ (ib - bs 30 (Nm.take k)))) (nI (cnt 30 (Nm.take k)) - 1) X)
  | 0, f, X, hk, hf, hX, hv, nxt => by
    obtain ⟨f, rfl⟩ : ∃ q, f = q + 1 := ⟨f - 1, by omega⟩
    rw [pMo_set_61.eq_2, fMo_set_61.eq_2]
    have c : nI (cnt 30 (Nm.take 0)) - 1 < 0 := by rw [List.take_zero]; show nI 0 - 1 < 0; decide
    have z := nxt X (nI (i / 2 ^ (ib - bs 30 (Nm.take 0)))) hX (fun j hj h29 => hv j (Nat.zero_le _) hj h29)
    rw [if_pos c]
    exact ⟨⟨fun _ => z.1, fun q => absurd c q⟩, z.2⟩
  | k + 1, f, X, hk, hf, hX, hv, nxt => by
    have ct := cnt_t (t := 30) (show k < Nm.length by omega)
    have bt := bs_t (t := 30) (show k < Nm.length by omega)
    by_cases c : kd Nm k = 30
    · rw [if_pos c] at ct bt
      obtain ⟨r1, r2, r3, r4⟩ := mC_i h (show k < Nm.length by omega) c
      have n8 := mC_n h
      have cl := cnt_mo (t := 30) (Nm := Nm) (show k + 1 ≤ Nm.length from hk) (Nat.le_refl _)
      rw [tk_all (Nat.le_refl _)] at cl
      obtain ⟨f, rfl⟩ : ∃ q, f = q + 1 := ⟨f - 1, by omega⟩
      have r8 := h.2.1.2.2.2.2
      have p8 : 2 ^ ib ≤ 2 ^ 8 := Nat.pow_le_pow_right (by decide) (by omega)
      have dl : i / 2 ^ (ib - bs 30 (Nm.take (k + 1))) ≤ i := Nat.div_le_self _ _
      have e1 : nI (cnt 30 (Nm.take (k + 1))) - 1 = nI (cnt 30 (Nm.take k)) := by rw [ct]; exact nI_pred _
      have c' : ¬ nI (cnt 30 (Nm.take k)) < 0 := nI_pos (by omega)
      have w8 : wd Nm k ≤ 8 := by omega
      have em : ((1 : Int32) <<< (M 49 (cnt 30 (Nm.take k)) &&& 31)) - 1 = nI (2 ^ wd Nm k - 1) := by rw [r1]; exact msk w8
      have ev : nI (i / 2 ^ (ib - bs 30 (Nm.take (k + 1)))) &&& nI (2 ^ wd Nm k - 1) = nI (fV Nm rb ib 0 i k) := by
        rw [and_m (by omega) w8]
        unfold fV
        rw [if_neg (by omega), if_pos c, ← r2]; rfl
      have es : nI (i / 2 ^ (ib - bs 30 (Nm.take (k + 1)))) >>> (M 49 (cnt 30 (Nm.take k)) &&& 31) = nI (i / 2 ^ (ib - bs 30 (Nm.take k))) := by
        rw [r1, pk_shrN (by omega) _ (wd Nm k) (smk _ (by omega)), Nat.div_div_eq_div_mul, ← Nat.pow_add]
        congr 3
        omega
      have em1 : nI (cnt 30 (Nm.take k)) + Int32.ofInt (-1) = nI (cnt 30 (Nm.take k)) - 1 := by rw [show Int32.ofInt (-1) = (-1 : Int32) by decide, Int32.sub_eq_add_neg]
      have x49 : X 49 = M 49 := by rw [hX 49 (by decide), hY 49 (by decide)]
      rw [pMo_set_61.eq_2, fMo_set_61.eq_2, e1, if_neg c', nI_clamp (by omega), x49, em, ev]
      have u46 : pm_u X 61 (cnt 30 (Nm.take k)) (nI (fV Nm rb ib 0 i k)) 49 (cnt 30 (Nm.take k)) = M 49 (cnt 30 (Nm.take k)) := by rw [pm_u_n _ _ _ (by decide), x49]
      rw [u46, es, em1]
      have z := ms_61 h hi y1 y2 Y hY Q k f (pm_u X 61 (cnt 30 (Nm.take k)) (nI (fV Nm rb ib 0 i k))) (by omega) (by omega) (fun a ha => by rw [pm_u_n _ _ _ ha]; exact hX a ha) (fun j h1 h2 h3 => by
        by_cases ej : j = k
        · rw [ej, pm_u_s]
        · have := cnt_mo (t := 30) (Nm := Nm) (show k + 1 ≤ j by omega) (by omega)
          rw [pm_u_j _ _ _ (by omega)]
          exact hv j (by omega) h2 h3) nxt
      have v8 : vp_in (nI (cnt 30 (Nm.take k))) 3 := vp_in_nI (by omega) (by decide)
      exact ⟨⟨fun q => absurd q c', fun _ => ⟨v8, v8, v8, z.1⟩⟩, z.2⟩
    · rw [if_neg c] at ct bt
      have ct' : cnt 30 (Nm.take (k + 1)) = cnt 30 (Nm.take k) := ct
      have bt' : bs 30 (Nm.take (k + 1)) = bs 30 (Nm.take k) := bt
      rw [ct', bt']
      exact ms_61 h hi y1 y2 Y hY Q k f X (by omega) (by rw [← ct']; exact hf) hX (fun j h1 h2 h3 => by
        by_cases ej : j = k
        · rw [ej] at h3; exact absurd h3 c
        · exact hv j (by omega) h2 h3) nxt
/-- what stands for a name whose value is set -/
theorem nv_set (h : mC Nm rb ib Hn D M) {X : Mm} (h44 : X 44 = M 44) (h45 : X 45 = M 45) {k : Nat} (hk : k < Nm.length) (v : BitVec 8) (h29 : kd Nm k = 29 → X 60 (cnt 29 (Nm.take k)) = nI v.toNat) (h30 : kd Nm k = 30 → X 61 (cnt 30 (Nm.take k)) = nI v.toNat) (h31 : kd Nm k = 31 → X 62 (cnt 31 (Nm.take k)) = nI v.toNat) (h33 : kd Nm k ≠ 33) : nameV X k v := by
  have n8 := mC_n h
  obtain ⟨g1, g2, g3⟩ := mC_g h hk
  have n60 := h.2.1.1
  have cl : ∀ t, kd Nm k = t → cnt t (Nm.take k) < cnt t Nm := fun t ht => by
    obtain ⟨x, hx⟩ := gN hk
    exact cnt_lt Nm k x hx (by rw [← kd_s hx]; exact ht)
  refine ⟨by omega, ?_⟩
  rw [h44, h45, g1, g2]
  rcases g3 with g | g | g | g
  · have := cl 29 g
    rw [g]
    exact Or.inl ⟨rfl, cnt 29 (Nm.take k), by omega, rfl, h29 g⟩
  · have := cl 30 g
    rw [g]
    exact Or.inr (Or.inl ⟨rfl, cnt 30 (Nm.take k), by omega, rfl, h30 g⟩)
  · have := cl 31 g
    rw [g]
    exact Or.inr (Or.inr ⟨rfl, cnt 31 (Nm.take k), by omega, rfl, h31 g⟩)
  · exact absurd g h33
end
