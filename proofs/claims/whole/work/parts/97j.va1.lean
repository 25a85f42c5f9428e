/-! CLASS'S VALUES 1: rows, lanes, the stack -/
def mR (J : Ml) (row W : Nat) (g : Nat → Int64) : Ml := fun a => if a = 23 then (fun j => if row ≤ j ∧ j < row + W then g (j - row) else J 23 j) else J a
theorem mR_0 (J : Ml) (row : Nat) (g : Nat → Int64) : mR J row 0 g = J := by
  funext a
  unfold mR
  by_cases c : a = 23
  · rw [if_pos c, c]
    funext j
    exact if_neg (by omega)
  · rw [if_neg c]
theorem mR_n (J : Ml) {a : Nat} (row W : Nat) (g : Nat → Int64) (h : a ≠ 23) : mR J row W g a = J a := if_neg h
theorem mR_o (J : Ml) {row W j : Nat} (g : Nat → Int64) (h : j < row ∨ row + W ≤ j) : mR J row W g 23 j = J 23 j := by
  unfold mR; rw [if_pos rfl]; exact if_neg (by omega)
theorem mR_i (J : Ml) {row W t : Nat} (g : Nat → Int64) (h : t < W) : mR J row W g 23 (row + t) = g t := by
  unfold mR; rw [if_pos rfl]
  show (if row ≤ row + t ∧ row + t < row + W then g (row + t - row) else J 23 (row + t)) = g t
  rw [if_pos (by omega), Nat.add_sub_cancel_left]
theorem mR_s (J : Ml) (row i : Nat) (g : Nat → Int64) : pm_u (mR J row i g) 23 (row + i) (g i) = mR J row (i + 1) g := by
  funext a
  by_cases c : a = 23
  · rw [c]
    funext j
    by_cases e : j = row + i
    · rw [e, pm_u_s, mR_i _ _ (Nat.lt_succ_self _)]
    · rw [pm_u_j _ _ _ e]
      by_cases r : row ≤ j ∧ j < row + i
      · obtain ⟨t, rfl⟩ : ∃ t, j = row + t := ⟨j - row, by omega⟩
        rw [mR_i _ _ (by omega), mR_i _ _ (by omega)]
      · rw [mR_o _ _ (by omega), mR_o _ _ (by omega)]
  · rw [pm_u_n _ _ _ c, mR_n _ _ _ _ c, mR_n _ _ _ _ c]
def lv (J : Ml) (row c : Nat) : BitVec 8 := ln (J 23 (row + c / 8)) (c % 8)
theorem lv_o {J : Ml} {row W : Nat} {g : Nat → Int64} {row' c : Nat} (h : row' + 256 ≤ row ∨ row + 256 ≤ row') (hW : W ≤ 256) (hc : c < 2048) : lv (mR J row W g) row' c = lv J row' c := by
  unfold lv
  rw [mR_o _ _ (by omega)]
theorem lv_i {J : Ml} {row W : Nat} {g : Nat → Int64} {c : Nat} (hc : c < 8 * W) : lv (mR J row W g) row c = ln (g (c / 8)) (c % 8) := by
  unfold lv
  rw [mR_i _ _ (by omega)]
def rwk (i row : Nat) : Prop := row = (60 + i) * 256 ∨ ∃ k, k < 60 ∧ row = k * 256
def vS (N : Nat) (I : Mm) (J : Ml) : List (Nat → BitVec 8) → Prop
  | [] => True
  | f :: S => (∃ row, I 24 S.length = nI row ∧ rwk S.length row ∧ ∀ c, c < N → lv J row c = f c) ∧ vS N I J S
def vT (W : Nat) (I : Mm) (J : Ml) (S : List (Nat → BitVec 8)) : Prop := I 22 4 = nI W ∧ 1 ≤ W ∧ W ≤ 256 ∧ I 22 3 = nI S.length ∧ S.length ≤ 140 ∧ vS (8 * W) I J S
def vF (I : Mm) (J : Ml) (I' : Mm) (J' : Ml) : Prop := (∀ a, a ≠ 22 → a ≠ 24 → I' a = I a) ∧ (∀ j, j ≠ 3 → I' 22 j = I 22 j) ∧ (∀ a, a ≠ 23 → J' a = J a) ∧ ∀ j, j < 15360 → J' 23 j = J 23 j
theorem vF_r (I : Mm) (J : Ml) : vF I J I J := ⟨fun _ _ _ => rfl, fun _ _ => rfl, fun _ _ => rfl, fun _ _ => rfl⟩
theorem vF_t {I I' I'' : Mm} {J J' J'' : Ml} (h : vF I J I' J') (h' : vF I' J' I'' J'') : vF I J I'' J'' := ⟨fun a h1 h2 => (h'.1 a h1 h2).trans (h.1 a h1 h2), fun j hj => (h'.2.1 j hj).trans (h.2.1 j hj), fun a ha => (h'.2.2.1 a ha).trans (h.2.2.1 a ha), fun j hj => (h'.2.2.2 j hj).trans (h.2.2.2 j hj)⟩
theorem vF_lv {I I' : Mm} {J J' : Ml} (h : vF I J I' J') {k c : Nat} (hk : k < 60) (hc : c < 2048) : lv J' (k * 256) c = lv J (k * 256) c := by
  unfold lv
  rw [h.2.2.2 _ (by omega)]
theorem vS_m {N row W : Nat} {g : Nat → Int64} {I I' : Mm} {J : Ml} (hN : N ≤ 2048) (hW : W ≤ 256) {p : Nat} (hr : row = (60 + p) * 256) : ∀ S : List (Nat → BitVec 8), S.length ≤ p → (∀ i, i < S.length → I' 24 i = I 24 i) → vS N I J S → vS N I' (mR J row W g) S
  | [], _, _, _ => trivial
  | f :: S, hp, hi, h => by
    rw [List.length_cons] at hp
    obtain ⟨⟨row', h1, h2, h3⟩, h4⟩ := h
    refine ⟨⟨row', by rw [hi _ (by rw [List.length_cons]; omega)]; exact h1, h2, fun c hc => ?_⟩, vS_m hN hW hr S (by omega) (fun i hi' => hi i (by rw [List.length_cons]; omega)) h4⟩
    rw [lv_o (by rcases h2 with h2 | ⟨k, h2, h5⟩ <;> omega) hW (by omega)]
    exact h3 c hc
theorem vS_c {N : Nat} {I I' : Mm} {J : Ml} : ∀ S : List (Nat → BitVec 8), (∀ i, i < S.length → I' 24 i = I 24 i) → vS N I J S → vS N I' J S
  | [], _, _ => trivial
  | f :: S, hi, h => by
    obtain ⟨⟨row', h1, h2, h3⟩, h4⟩ := h
    exact ⟨⟨row', by rw [hi _ (by rw [List.length_cons]; omega)]; exact h1, h2, h3⟩, vS_c S (fun i hi' => hi i (by rw [List.length_cons]; omega)) h4⟩
theorem rwk_b {i row : Nat} (h : rwk i row) (hi : i < 140) : row + 256 ≤ 51200 := by rcases h with h | ⟨k, h, h'⟩ <;> omega
theorem rowP (p : Nat) : fVa_rowOfPlace (nI p) = nI ((60 + p) * 256) := by
  show (nI 60 + nI p) * nI 256 = _
  rw [nI_add, pk_mul]
theorem rowN (p : Nat) : fVa_rowOfName (nI p) = nI (p * 256) := by
  show nI p * nI 256 = _
  rw [pk_mul]
section
variable {W : Nat} {I : Mm}
/-- the four loops -/
theorem va_num_l (hW : I 22 4 = nI W) (hW' : W ≤ 256) {row : Nat} (hr : row + 256 ≤ 51200) (y1 : Int32) (v : Int64) (J : Ml) (hp : ∀ J', pVa_push (nI row) I J') : ∀ n i, i ≤ W → W - i < n → pVa_pushNumber_26 n y1 (nI row) v (nI i) I (mR J row i (fun _ => v)) ∧ fVa_pushNumber_26 n y1 (nI row) v (nI i) I (mR J row i (fun _ => v)) = (fVa_push (nI row) I (mR J row W (fun _ => v)), mR J row W (fun _ => v)) := by
  intro n
  induction n with
  | zero => intro i _ h; omega
  | succ n ih =>
    intro i hi hn
    rw [pVa_pushNumber_26.eq_2, fVa_pushNumber_26.eq_2]
    by_cases c : W ≤ i
    · have c' : I 22 4 ≤ nI i := by rw [hW]; exact nI_le c (by omega)
      have e : i = W := by omega
      rw [if_pos c', e]
      rw [e] at c'
      exact ⟨⟨fun _ => ⟨hp _, trivial⟩, fun q => absurd c' q⟩, rfl⟩
    · have c' : ¬ I 22 4 ≤ nI i := by rw [hW]; exact nI_ge (by omega) (by omega)
      rw [if_neg c', nI_add, nI_clamp (by omega), nI_i1]
      have s := mR_s J row i (fun _ => v)
      try dsimp only at s
      rw [s]
      have z := ih (i + 1) (by omega) (by omega)
      exact ⟨⟨fun q => absurd q c', fun _ => ⟨vp_in_nI (by omega) (by decide), z.1⟩⟩, z.2⟩
theorem va_alt_l (hW : I 22 4 = nI W) (hW' : W ≤ 256) {a0 row : Nat} (ha : a0 + 256 ≤ 51200) (hr : row + 256 ≤ 51200) (hd : a0 = row ∨ a0 + 256 ≤ row ∨ row + 256 ≤ a0) (hv : vp_in (I 22 3 - 1) 140) (o : Int32) (J : Ml) : ∀ n i, i ≤ W → W - i < n → pVa_alter_34 n o (nI a0) (nI row) (nI i) I (mR J row i (fun t => fLa_alter o (J 23 (a0 + t)))) ∧ fVa_alter_34 n o (nI a0) (nI row) (nI i) I (mR J row i (fun t => fLa_alter o (J 23 (a0 + t)))) = (pm_u I 24 (I 22 3 - 1).toNatClampNeg (nI row), mR J row W (fun t => fLa_alter o (J 23 (a0 + t)))) := by
  intro n
  induction n with
  | zero => intro i _ h; omega
  | succ n ih =>
    intro i hi hn
    rw [pVa_alter_34.eq_2, fVa_alter_34.eq_2]
    by_cases c : W ≤ i
    · have c' : I 22 4 ≤ nI i := by rw [hW]; exact nI_le c (by omega)
      have e : i = W := by omega
      rw [if_pos c', e]
      rw [e] at c'
      exact ⟨⟨fun _ => ⟨hv, trivial⟩, fun q => absurd c' q⟩, rfl⟩
    · have c' : ¬ I 22 4 ≤ nI i := by rw [hW]; exact nI_ge (by omega) (by omega)
      rw [if_neg c', nI_add, nI_add, nI_clamp (n := a0 + i) (by omega), nI_clamp (n := row + i) (by omega), nI_i1, mR_o (j := a0 + i) _ _ (by omega)]
      have s := mR_s J row i (fun t => fLa_alter o (J 23 (a0 + t)))
      try dsimp only at s
      rw [s]
      have z := ih (i + 1) (by omega) (by omega)
      exact ⟨⟨fun q => absurd q c', fun _ => ⟨vp_in_nI (by omega) (by decide), pLa_alter_t _ _, vp_in_nI (by omega) (by decide), z.1⟩⟩, z.2⟩
theorem va_joi_l (hW : I 22 4 = nI W) (hW' : W ≤ 256) {a0 b0 row : Nat} (ha : a0 + 256 ≤ 51200) (hb : b0 + 256 ≤ 51200) (hr : row + 256 ≤ 51200) (hd : a0 = row ∨ a0 + 256 ≤ row ∨ row + 256 ≤ a0) (hd' : b0 = row ∨ b0 + 256 ≤ row ∨ row + 256 ≤ b0) (hv : vp_in (I 22 3 - 1 - 1) 140) (o : Int32) (J : Ml) : ∀ n i, i ≤ W → W - i < n → pVa_join_47 n o (nI a0) (nI b0) (nI row) (nI i) I (mR J row i (fun t => fLa_join o (J 23 (a0 + t)) (J 23 (b0 + t)))) ∧ fVa_join_47 n o (nI a0) (nI b0) (nI row) (nI i) I (mR J row i (fun t => fLa_join o (J 23 (a0 + t)) (J 23 (b0 + t)))) = (pm_u (pm_u I 22 3 (I 22 3 - 1)) 24 (I 22 3 - 1 - 1).toNatClampNeg (nI row), mR J row W (fun t => fLa_join o (J 23 (a0 + t)) (J 23 (b0 + t)))) := by
  intro n
  induction n with
  | zero => intro i _ h; omega
  | succ n ih =>
    intro i hi hn
    rw [pVa_join_47.eq_2, fVa_join_47.eq_2]
    by_cases c : W ≤ i
    · have c' : I 22 4 ≤ nI i := by rw [hW]; exact nI_le c (by omega)
      have e : i = W := by omega
      rw [if_pos c', e]
      rw [e] at c'
      exact ⟨⟨fun _ => ⟨hv, trivial⟩, fun q => absurd c' q⟩, rfl⟩
    · have c' : ¬ I 22 4 ≤ nI i := by rw [hW]; exact nI_ge (by omega) (by omega)
      rw [if_neg c', nI_add, nI_add, nI_add, nI_clamp (n := a0 + i) (by omega), nI_clamp (n := b0 + i) (by omega), nI_clamp (n := row + i) (by omega), nI_i1, mR_o (j := a0 + i) _ _ (by omega), mR_o (j := b0 + i) _ _ (by omega)]
      have s := mR_s J row i (fun t => fLa_join o (J 23 (a0 + t)) (J 23 (b0 + t)))
      try dsimp only at s
      rw [s]
      have z := ih (i + 1) (by omega) (by omega)
      exact ⟨⟨fun q => absurd q c', fun _ => ⟨vp_in_nI (by omega) (by decide), vp_in_nI (by omega) (by decide), pLa_join_t _ _ _, vp_in_nI (by omega) (by decide), z.1⟩⟩, z.2⟩
theorem va_cho_l (hW : I 22 4 = nI W) (hW' : W ≤ 256) {t0 a0 b0 row : Nat} (ht : t0 + 256 ≤ 51200) (ha : a0 + 256 ≤ 51200) (hb : b0 + 256 ≤ 51200) (hr : row + 256 ≤ 51200) (hdt : t0 = row ∨ t0 + 256 ≤ row ∨ row + 256 ≤ t0) (hd : a0 = row ∨ a0 + 256 ≤ row ∨ row + 256 ≤ a0) (hd' : b0 = row ∨ b0 + 256 ≤ row ∨ row + 256 ≤ b0) (hv : vp_in (I 22 3 - 2 - 1) 140) (J : Ml) : ∀ n i, i ≤ W → W - i < n → pVa_choose_59 n (nI t0) (nI a0) (nI b0) (nI row) (nI i) I (mR J row i (fun t => fLa_choose (J 23 (t0 + t)) (J 23 (a0 + t)) (J 23 (b0 + t)))) ∧ fVa_choose_59 n (nI t0) (nI a0) (nI b0) (nI row) (nI i) I (mR J row i (fun t => fLa_choose (J 23 (t0 + t)) (J 23 (a0 + t)) (J 23 (b0 + t)))) = (pm_u (pm_u I 22 3 (I 22 3 - 2)) 24 (I 22 3 - 2 - 1).toNatClampNeg (nI row), mR J row W (fun t => fLa_choose (J 23 (t0 + t)) (J 23 (a0 + t)) (J 23 (b0 + t)))) := by
  intro n
  induction n with
  | zero => intro i _ h; omega
  | succ n ih =>
    intro i hi hn
    rw [pVa_choose_59.eq_2, fVa_choose_59.eq_2]
    by_cases c : W ≤ i
    · have c' : I 22 4 ≤ nI i := by rw [hW]; exact nI_le c (by omega)
      have e : i = W := by omega
      rw [if_pos c', e]
      rw [e] at c'
      exact ⟨⟨fun _ => ⟨hv, trivial⟩, fun q => absurd c' q⟩, rfl⟩
    · have c' : ¬ I 22 4 ≤ nI i := by rw [hW]; exact nI_ge (by omega) (by omega)
      rw [if_neg c', nI_add, nI_add, nI_add, nI_add, nI_clamp (n := t0 + i) (by omega), nI_clamp (n := a0 + i) (by omega), nI_clamp (n := b0 + i) (by omega), nI_clamp (n := row + i) (by omega), nI_i1, mR_o (j := t0 + i) _ _ (by omega), mR_o (j := a0 + i) _ _ (by omega), mR_o (j := b0 + i) _ _ (by omega)]
      have s := mR_s J row i (fun t => fLa_choose (J 23 (t0 + t)) (J 23 (a0 + t)) (J 23 (b0 + t)))
      try dsimp only at s
      rw [s]
      have z := ih (i + 1) (by omega) (by omega)
      exact ⟨⟨fun q => absurd q c', fun _ => ⟨vp_in_nI (by omega) (by decide), vp_in_nI (by omega) (by decide), vp_in_nI (by omega) (by decide), pLa_choose_t _ _ _, vp_in_nI (by omega) (by decide), z.1⟩⟩, z.2⟩
end
