/-! TOKENS 3: the class's words and signs -/
theorem nIe {x t : Nat} (hx : x < 256) (ht : t < 2 ^ 31) : (nI x = nI t) = (x = t) := propext (nI_eq (by omega) ht)
section
variable {I : Mm} {J : Ml} {b : Nat → Nat} {L : Nat}
theorem c_short (h : cBy I b L) {p z : Nat} (hz : z = 1 ∨ z = 2) (hp : p + z ≤ L) : pTk_kindOfShortWord (nI p) (nI z) I J ∧ fTk_kindOfShortWord (nI p) (nI z) I J = nI (wkS b p z) := by
  have b0 := cBA (J := J) h (p := p) (by omega)
  have hb0 := (h.2.2 p (by omega)).2
  have e65 : (nI (b p) = (65 : Int32)) = (b p = 65) := nIe hb0 (by decide)
  have e69 : (nI (b p) = (69 : Int32)) = (b p = 69) := nIe hb0 (by decide)
  have e85 : (nI (b p) = (85 : Int32)) = (b p = 85) := nIe hb0 (by decide)
  unfold pTk_kindOfShortWord fTk_kindOfShortWord pTk_kindOfShortWord_65 fTk_kindOfShortWord_65 wkS
  rcases hz with rfl | rfl
  · rw [if_pos (show nI 1 = (1 : Int32) from rfl), if_pos rfl, b0.2]
    refine ⟨⟨b0.1, fun _ => ⟨fun _ => trivial, fun _ => ⟨fun _ => trivial, fun _ => ⟨fun _ => trivial, fun _ => trivial⟩⟩⟩, fun q => absurd rfl q⟩, ?_⟩
    by_cases a1 : b p = 65
    · rw [if_pos (e65.mpr a1), if_pos a1]; rfl
    rw [if_neg (fun q => a1 (e65.mp q)), if_neg a1]
    by_cases a2 : b p = 69
    · rw [if_pos (e69.mpr a2), if_pos a2]; rfl
    rw [if_neg (fun q => a2 (e69.mp q)), if_neg a2]
    by_cases a3 : b p = 85
    · rw [if_pos (e85.mpr a3), if_pos a3]; rfl
    rw [if_neg (fun q => a3 (e85.mp q)), if_neg a3]; rfl
  · have b1 := cBA (J := J) h (p := p + 1) (by omega)
    have hb1 := (h.2.2 (p + 1) (by omega)).2
    have e70 : (nI (b (p + 1)) = (70 : Int32)) = (b (p + 1) = 70) := nIe hb1 (by decide)
    have e71 : (nI (b (p + 1)) = (71 : Int32)) = (b (p + 1) = 71) := nIe hb1 (by decide)
    have e88 : (nI (b (p + 1)) = (88 : Int32)) = (b (p + 1) = 88) := nIe hb1 (by decide)
    have c2 : ¬ nI 2 = (1 : Int32) := by decide
    rw [if_neg c2, if_neg (show ¬ (2 : Nat) = 1 by decide), b0.2, nI_1, b1.2]
    refine ⟨⟨b0.1, fun q => absurd q c2, fun _ => ⟨fun _ => ⟨b1.1, fun _ => ⟨fun _ => trivial, fun _ => trivial⟩, fun _ => ⟨fun _ => ⟨fun _ => trivial, fun _ => trivial⟩, fun _ => ⟨fun _ => ⟨fun _ => trivial, fun _ => trivial⟩, fun _ => trivial⟩⟩⟩, fun _ => ⟨fun _ => ⟨b1.1, fun _ => ⟨fun _ => trivial, fun _ => trivial⟩, fun _ => ⟨fun _ => ⟨fun _ => trivial, fun _ => trivial⟩, fun _ => ⟨fun _ => ⟨fun _ => trivial, fun _ => trivial⟩, fun _ => trivial⟩⟩⟩, fun _ => trivial⟩⟩⟩, ?_⟩
    by_cases a1 : b p = 65
    · rw [if_pos (e65.mpr a1), if_pos a1]
      by_cases d1 : b (p + 1) = 70
      · rw [if_pos (e70.mpr d1), if_pos d1, if_pos (e65.mpr a1)]; rfl
      rw [if_neg (fun q => d1 (e70.mp q)), if_neg d1]
      by_cases d2 : b (p + 1) = 71
      · rw [if_pos (e71.mpr d2), if_pos d2, if_pos (e65.mpr a1)]; rfl
      rw [if_neg (fun q => d2 (e71.mp q)), if_neg d2]
      by_cases d3 : b (p + 1) = 88
      · rw [if_pos (e88.mpr d3), if_pos d3, if_pos (e65.mpr a1)]; rfl
      rw [if_neg (fun q => d3 (e88.mp q)), if_neg d3]; rfl
    rw [if_neg (fun q => a1 (e65.mp q)), if_neg a1]
    by_cases a2 : b p = 69
    · rw [if_pos (e69.mpr a2), if_pos a2]
      by_cases d1 : b (p + 1) = 70
      · rw [if_pos (e70.mpr d1), if_pos d1, if_neg (fun q => a1 (e65.mp q))]; rfl
      rw [if_neg (fun q => d1 (e70.mp q)), if_neg d1]
      by_cases d2 : b (p + 1) = 71
      · rw [if_pos (e71.mpr d2), if_pos d2, if_neg (fun q => a1 (e65.mp q))]; rfl
      rw [if_neg (fun q => d2 (e71.mp q)), if_neg d2]
      by_cases d3 : b (p + 1) = 88
      · rw [if_pos (e88.mpr d3), if_pos d3, if_neg (fun q => a1 (e65.mp q))]; rfl
      rw [if_neg (fun q => d3 (e88.mp q)), if_neg d3]; rfl
    rw [if_neg (fun q => a2 (e69.mp q)), if_neg a2]; rfl
theorem nar_c {c : Nat} (h : c < 256) : narrow .char (.int (nI c)) = .int (nI c) := congrArg Value.int ((show ∀ c, c < 256 → (nI c).toUInt32.toUInt16.toUInt32.toInt32 = nI c by decide +kernel) c h)
theorem ckI {j m : Nat} (h : j < m) (hm : m < 2 ^ 31) : pSg_checkIndex (nI j) (nI m) := by
  have c0 : ¬ nI j < 0 := nI_pos (by omega)
  have c1 : nI j < nI m := nI_lt h hm
  unfold pSg_checkIndex pPr_checkIndex_n pPr_checkIndex_5
  exact ⟨⟨⟨fun q => absurd q c0, fun _ => ⟨fun _ => trivial, fun q => absurd c1 q⟩⟩, trivial⟩, ⟨fun q => absurd q c0, fun _ => ⟨fun _ => trivial, fun q => absurd c1 q⟩⟩, trivial⟩
theorem i01 {c : Prop} {d : Decidable c} {x : Int32} (h : c → x = 1) (h2 : ¬ c → x = 0) : x = 0 ↔ ¬ c := by
  constructor
  · intro hx hc; rw [h hc] at hx; exact absurd hx (by decide)
  · exact h2
theorem c_ch_10 : ∀ j, j < 3 → pSg_charAt_10 (nI j) (fun _ _ => 0) (fun _ _ => 0) ∧ fSg_charAt_10 (nI j) (fun _ _ => 0) (fun _ _ => 0) = nI ([114, 101, 103].getD j 0) := by
  intro j hj
  have e := (show ∀ j, j < 3 → fSg_charAt_10 (nI j) (fun _ _ => 0) (fun _ _ => 0) = nI ([114, 101, 103].getD j 0) by decide +kernel) j hj
  have h9 := (show ∀ j, j < 3 → [114, 101, 103].getD j 0 < 256 by decide) j hj
  have en : narrow .char (.int (fSg_charAt_10 (nI j) (fun _ _ => 0) (fun _ _ => 0))) = .int (fSg_charAt_10 (nI j) (fun _ _ => 0) (fun _ _ => 0)) := by rw [e]; exact nar_c h9
  exact ⟨⟨trivial, ⟨ckI hj (by decide), vp_in_nI hj (by decide), en⟩, en⟩, e⟩
theorem c_iw_10' (h : cBy I b L) {p : Nat} (hp : p + 3 ≤ L) : ∀ (k j : Nat) (w : List Nat), j + w.length = 3 → w = [114, 101, 103].drop j → w.length < k → pTk_isWord_10_13 k (nI p) (nI 3) (nI j) I J ∧ fTk_isWord_10_13 k (nI p) (nI 3) (nI j) I J = if eqw b (p + j) w = true then 1 else 0 := by
  intro k
  induction k with
  | zero => intro j w _ _ hk; omega
  | succ k ih =>
    intro j w hj hw hk
    rw [pTk_isWord_10_13.eq_2, fTk_isWord_10_13.eq_2]
    cases w with
    | nil =>
      have c : nI 3 ≤ nI j := nI_le (by simp only [List.length_nil] at hj; omega) (by simp only [List.length_nil] at hj; omega)
      rw [if_pos c]
      exact ⟨⟨fun _ => trivial, fun q => absurd c q⟩, rfl⟩
    | cons x w =>
      simp only [List.length_cons] at hj hk
      have c : ¬ nI 3 ≤ nI j := nI_ge (by omega) (by decide)
      have ba := cBA (J := J) h (p := p + j) (by omega)
      have hb := (h.2.2 (p + j) (by omega)).2
      have ch := c_ch_10 j (by omega)
      have hx : [114, 101, 103].getD j 0 = x := by
        have := congrArg (fun l : List Nat => l.head?) hw
        simp only [List.head?_cons, List.head?_drop] at this
        rw [List.getD_eq_getElem?_getD, ← this]; rfl
      have hw2 : w = [114, 101, 103].drop (j + 1) := by
        have := congrArg List.tail hw
        rw [List.tail_drop] at this
        exact this
      have chf : fSg_charAt_10 (nI j) I J = nI x := by rw [← hx]; exact ch.2
      have chp : pSg_charAt_10 (nI j) I J := ch.1
      have hx9 : x < 256 := by rw [← hx]; exact (show ∀ j, j < 3 → [114, 101, 103].getD j 0 < 256 by decide) j (by omega)
      have i2 := ih (j + 1) w (by omega) hw2 (by omega)
      rw [if_neg c, nI_add, ba.2, chf, nI_i1]
      unfold eqw
      by_cases e : b (p + j) = x
      · rw [if_pos (by rw [e]), decide_eq_true e, Bool.true_and]
        exact ⟨⟨fun q => absurd q c, fun _ => ⟨ba.1, chp, fun _ => i2.1, fun q => absurd (by rw [e]) q⟩⟩, i2.2⟩
      · have e' : ¬ nI (b (p + j)) = nI x := fun q => e ((nI_eq (by omega) (by omega)).mp q)
        rw [if_neg e', decide_eq_false e, Bool.false_and]
        exact ⟨⟨fun q => absurd q c, fun _ => ⟨ba.1, chp, fun q => absurd q e', fun _ => trivial⟩⟩, rfl⟩
theorem c_iw_10 (h : cBy I b L) {p z : Nat} (hp : p + z ≤ L) : pTk_isWord_10 32 (nI p) (nI z) I J ∧ (fTk_isWord_10 32 (nI p) (nI z) I J = 0 ↔ ¬ (z = 3 ∧ eqw b p [114, 101, 103] = true)) := by
  have hl := h.2.1
  have el : fSg_length_10 I J = nI 3 := (show (3 : Int32) >>> ((0 : Int32) &&& 31) = nI 3 by decide)
  unfold pTk_isWord_10 fTk_isWord_10
  rw [el]
  by_cases hz : z = 3
  · subst hz
    have x := c_iw_10' (J := J) h hp 32 0 [114, 101, 103] rfl rfl (by decide)
    rw [nI_0] at x
    rw [if_pos rfl, x.2]
    refine ⟨⟨⟨trivial, trivial⟩, fun _ => x.1, fun q => absurd rfl q⟩, ?_⟩
    rw [Nat.add_zero]
    by_cases e : eqw b p [114, 101, 103] = true
    · rw [if_pos e]; exact ⟨fun q => absurd q (by decide), fun q => absurd ⟨rfl, e⟩ q⟩
    · rw [if_neg e]; exact ⟨fun _ q => e q.2, fun _ => rfl⟩
  · have c : ¬ nI z = nI 3 := fun q => hz ((nI_eq (by omega) (by decide)).mp q)
    rw [if_neg c]
    exact ⟨⟨⟨trivial, trivial⟩, fun q => absurd q c, fun _ => trivial⟩, fun _ q => hz q.1, fun _ => rfl⟩
theorem c_ch_11 : ∀ j, j < 5 → pSg_charAt_11 (nI j) (fun _ _ => 0) (fun _ _ => 0) ∧ fSg_charAt_11 (nI j) (fun _ _ => 0) (fun _ _ => 0) = nI ([105, 110, 112, 117, 116].getD j 0) := by
  intro j hj
  have e := (show ∀ j, j < 5 → fSg_charAt_11 (nI j) (fun _ _ => 0) (fun _ _ => 0) = nI ([105, 110, 112, 117, 116].getD j 0) by decide +kernel) j hj
  have h9 := (show ∀ j, j < 5 → [105, 110, 112, 117, 116].getD j 0 < 256 by decide) j hj
  have en : narrow .char (.int (fSg_charAt_11 (nI j) (fun _ _ => 0) (fun _ _ => 0))) = .int (fSg_charAt_11 (nI j) (fun _ _ => 0) (fun _ _ => 0)) := by rw [e]; exact nar_c h9
  exact ⟨⟨trivial, ⟨ckI hj (by decide), vp_in_nI hj (by decide), en⟩, en⟩, e⟩
theorem c_iw_11' (h : cBy I b L) {p : Nat} (hp : p + 5 ≤ L) : ∀ (k j : Nat) (w : List Nat), j + w.length = 5 → w = [105, 110, 112, 117, 116].drop j → w.length < k → pTk_isWord_11_13 k (nI p) (nI 5) (nI j) I J ∧ fTk_isWord_11_13 k (nI p) (nI 5) (nI j) I J = if eqw b (p + j) w = true then 1 else 0 := by
  intro k
  induction k with
  | zero => intro j w _ _ hk; omega
  | succ k ih =>
    intro j w hj hw hk
    rw [pTk_isWord_11_13.eq_2, fTk_isWord_11_13.eq_2]
    cases w with
    | nil =>
      have c : nI 5 ≤ nI j := nI_le (by simp only [List.length_nil] at hj; omega) (by simp only [List.length_nil] at hj; omega)
      rw [if_pos c]
      exact ⟨⟨fun _ => trivial, fun q => absurd c q⟩, rfl⟩
    | cons x w =>
      simp only [List.length_cons] at hj hk
      have c : ¬ nI 5 ≤ nI j := nI_ge (by omega) (by decide)
      have ba := cBA (J := J) h (p := p + j) (by omega)
      have hb := (h.2.2 (p + j) (by omega)).2
      have ch := c_ch_11 j (by omega)
      have hx : [105, 110, 112, 117, 116].getD j 0 = x := by
        have := congrArg (fun l : List Nat => l.head?) hw
        simp only [List.head?_cons, List.head?_drop] at this
        rw [List.getD_eq_getElem?_getD, ← this]; rfl
      have hw2 : w = [105, 110, 112, 117, 116].drop (j + 1) := by
        have := congrArg List.tail hw
        rw [List.tail_drop] at this
        exact this
      have chf : fSg_charAt_11 (nI j) I J = nI x := by rw [← hx]; exact ch.2
      have chp : pSg_charAt_11 (nI j) I J := ch.1
      have hx9 : x < 256 := by rw [← hx]; exact (show ∀ j, j < 5 → [105, 110, 112, 117, 116].getD j 0 < 256 by decide) j (by omega)
      have i2 := ih (j + 1) w (by omega) hw2 (by omega)
      rw [if_neg c, nI_add, ba.2, chf, nI_i1]
      unfold eqw
      by_cases e : b (p + j) = x
      · rw [if_pos (by rw [e]), decide_eq_true e, Bool.true_and]
        exact ⟨⟨fun q => absurd q c, fun _ => ⟨ba.1, chp, fun _ => i2.1, fun q => absurd (by rw [e]) q⟩⟩, i2.2⟩
      · have e' : ¬ nI (b (p + j)) = nI x := fun q => e ((nI_eq (by omega) (by omega)).mp q)
        rw [if_neg e', decide_eq_false e, Bool.false_and]
        exact ⟨⟨fun q => absurd q c, fun _ => ⟨ba.1, chp, fun q => absurd q e', fun _ => trivial⟩⟩, rfl⟩
theorem c_iw_11 (h : cBy I b L) {p z : Nat} (hp : p + z ≤ L) : pTk_isWord_11 32 (nI p) (nI z) I J ∧ (fTk_isWord_11 32 (nI p) (nI z) I J = 0 ↔ ¬ (z = 5 ∧ eqw b p [105, 110, 112, 117, 116] = true)) := by
  have hl := h.2.1
  have el : fSg_length_11 I J = nI 5 := (show (5 : Int32) >>> ((0 : Int32) &&& 31) = nI 5 by decide)
  unfold pTk_isWord_11 fTk_isWord_11
  rw [el]
  by_cases hz : z = 5
  · subst hz
    have x := c_iw_11' (J := J) h hp 32 0 [105, 110, 112, 117, 116] rfl rfl (by decide)
    rw [nI_0] at x
    rw [if_pos rfl, x.2]
    refine ⟨⟨⟨trivial, trivial⟩, fun _ => x.1, fun q => absurd rfl q⟩, ?_⟩
    rw [Nat.add_zero]
    by_cases e : eqw b p [105, 110, 112, 117, 116] = true
    · rw [if_pos e]; exact ⟨fun q => absurd q (by decide), fun q => absurd ⟨rfl, e⟩ q⟩
    · rw [if_neg e]; exact ⟨fun _ q => e q.2, fun _ => rfl⟩
  · have c : ¬ nI z = nI 5 := fun q => hz ((nI_eq (by omega) (by decide)).mp q)
    rw [if_neg c]
    exact ⟨⟨⟨trivial, trivial⟩, fun q => absurd q c, fun _ => trivial⟩, fun _ q => hz q.1, fun _ => rfl⟩
theorem c_ch_12 : ∀ j, j < 4 → pSg_charAt_12 (nI j) (fun _ _ => 0) (fun _ _ => 0) ∧ fSg_charAt_12 (nI j) (fun _ _ => 0) (fun _ _ => 0) = nI ([119, 105, 114, 101].getD j 0) := by
  intro j hj
  have e := (show ∀ j, j < 4 → fSg_charAt_12 (nI j) (fun _ _ => 0) (fun _ _ => 0) = nI ([119, 105, 114, 101].getD j 0) by decide +kernel) j hj
  have h9 := (show ∀ j, j < 4 → [119, 105, 114, 101].getD j 0 < 256 by decide) j hj
  have en : narrow .char (.int (fSg_charAt_12 (nI j) (fun _ _ => 0) (fun _ _ => 0))) = .int (fSg_charAt_12 (nI j) (fun _ _ => 0) (fun _ _ => 0)) := by rw [e]; exact nar_c h9
  exact ⟨⟨trivial, ⟨ckI hj (by decide), vp_in_nI hj (by decide), en⟩, en⟩, e⟩
theorem c_iw_12' (h : cBy I b L) {p : Nat} (hp : p + 4 ≤ L) : ∀ (k j : Nat) (w : List Nat), j + w.length = 4 → w = [119, 105, 114, 101].drop j → w.length < k → pTk_isWord_12_13 k (nI p) (nI 4) (nI j) I J ∧ fTk_isWord_12_13 k (nI p) (nI 4) (nI j) I J = if eqw b (p + j) w = true then 1 else 0 := by
  intro k
  induction k with
  | zero => intro j w _ _ hk; omega
  | succ k ih =>
    intro j w hj hw hk
    rw [pTk_isWord_12_13.eq_2, fTk_isWord_12_13.eq_2]
    cases w with
    | nil =>
      have c : nI 4 ≤ nI j := nI_le (by simp only [List.length_nil] at hj; omega) (by simp only [List.length_nil] at hj; omega)
      rw [if_pos c]
      exact ⟨⟨fun _ => trivial, fun q => absurd c q⟩, rfl⟩
    | cons x w =>
      simp only [List.length_cons] at hj hk
      have c : ¬ nI 4 ≤ nI j := nI_ge (by omega) (by decide)
      have ba := cBA (J := J) h (p := p + j) (by omega)
      have hb := (h.2.2 (p + j) (by omega)).2
      have ch := c_ch_12 j (by omega)
      have hx : [119, 105, 114, 101].getD j 0 = x := by
        have := congrArg (fun l : List Nat => l.head?) hw
        simp only [List.head?_cons, List.head?_drop] at this
        rw [List.getD_eq_getElem?_getD, ← this]; rfl
      have hw2 : w = [119, 105, 114, 101].drop (j + 1) := by
        have := congrArg List.tail hw
        rw [List.tail_drop] at this
        exact this
      have chf : fSg_charAt_12 (nI j) I J = nI x := by rw [← hx]; exact ch.2
      have chp : pSg_charAt_12 (nI j) I J := ch.1
      have hx9 : x < 256 := by rw [← hx]; exact (show ∀ j, j < 4 → [119, 105, 114, 101].getD j 0 < 256 by decide) j (by omega)
      have i2 := ih (j + 1) w (by omega) hw2 (by omega)
      rw [if_neg c, nI_add, ba.2, chf, nI_i1]
      unfold eqw
      by_cases e : b (p + j) = x
      · rw [if_pos (by rw [e]), decide_eq_true e, Bool.true_and]
        exact ⟨⟨fun q => absurd q c, fun _ => ⟨ba.1, chp, fun _ => i2.1, fun q => absurd (by rw [e]) q⟩⟩, i2.2⟩
      · have e' : ¬ nI (b (p + j)) = nI x := fun q => e ((nI_eq (by omega) (by omega)).mp q)
        rw [if_neg e', decide_eq_false e, Bool.false_and]
        exact ⟨⟨fun q => absurd q c, fun _ => ⟨ba.1, chp, fun q => absurd q e', fun _ => trivial⟩⟩, rfl⟩
theorem c_iw_12 (h : cBy I b L) {p z : Nat} (hp : p + z ≤ L) : pTk_isWord_12 32 (nI p) (nI z) I J ∧ (fTk_isWord_12 32 (nI p) (nI z) I J = 0 ↔ ¬ (z = 4 ∧ eqw b p [119, 105, 114, 101] = true)) := by
  have hl := h.2.1
  have el : fSg_length_12 I J = nI 4 := (show (4 : Int32) >>> ((0 : Int32) &&& 31) = nI 4 by decide)
  unfold pTk_isWord_12 fTk_isWord_12
  rw [el]
  by_cases hz : z = 4
  · subst hz
    have x := c_iw_12' (J := J) h hp 32 0 [119, 105, 114, 101] rfl rfl (by decide)
    rw [nI_0] at x
    rw [if_pos rfl, x.2]
    refine ⟨⟨⟨trivial, trivial⟩, fun _ => x.1, fun q => absurd rfl q⟩, ?_⟩
    rw [Nat.add_zero]
    by_cases e : eqw b p [119, 105, 114, 101] = true
    · rw [if_pos e]; exact ⟨fun q => absurd q (by decide), fun q => absurd ⟨rfl, e⟩ q⟩
    · rw [if_neg e]; exact ⟨fun _ q => e q.2, fun _ => rfl⟩
  · have c : ¬ nI z = nI 4 := fun q => hz ((nI_eq (by omega) (by decide)).mp q)
    rw [if_neg c]
    exact ⟨⟨⟨trivial, trivial⟩, fun q => absurd q c, fun _ => trivial⟩, fun _ q => hz q.1, fun _ => rfl⟩
theorem c_ch_13 : ∀ j, j < 4 → pSg_charAt_13 (nI j) (fun _ _ => 0) (fun _ _ => 0) ∧ fSg_charAt_13 (nI j) (fun _ _ => 0) (fun _ _ => 0) = nI ([110, 101, 120, 116].getD j 0) := by
  intro j hj
  have e := (show ∀ j, j < 4 → fSg_charAt_13 (nI j) (fun _ _ => 0) (fun _ _ => 0) = nI ([110, 101, 120, 116].getD j 0) by decide +kernel) j hj
  have h9 := (show ∀ j, j < 4 → [110, 101, 120, 116].getD j 0 < 256 by decide) j hj
  have en : narrow .char (.int (fSg_charAt_13 (nI j) (fun _ _ => 0) (fun _ _ => 0))) = .int (fSg_charAt_13 (nI j) (fun _ _ => 0) (fun _ _ => 0)) := by rw [e]; exact nar_c h9
  exact ⟨⟨trivial, ⟨ckI hj (by decide), vp_in_nI hj (by decide), en⟩, en⟩, e⟩
theorem c_iw_13' (h : cBy I b L) {p : Nat} (hp : p + 4 ≤ L) : ∀ (k j : Nat) (w : List Nat), j + w.length = 4 → w = [110, 101, 120, 116].drop j → w.length < k → pTk_isWord_13_13 k (nI p) (nI 4) (nI j) I J ∧ fTk_isWord_13_13 k (nI p) (nI 4) (nI j) I J = if eqw b (p + j) w = true then 1 else 0 := by
  intro k
  induction k with
  | zero => intro j w _ _ hk; omega
  | succ k ih =>
    intro j w hj hw hk
    rw [pTk_isWord_13_13.eq_2, fTk_isWord_13_13.eq_2]
    cases w with
    | nil =>
      have c : nI 4 ≤ nI j := nI_le (by simp only [List.length_nil] at hj; omega) (by simp only [List.length_nil] at hj; omega)
      rw [if_pos c]
      exact ⟨⟨fun _ => trivial, fun q => absurd c q⟩, rfl⟩
    | cons x w =>
      simp only [List.length_cons] at hj hk
      have c : ¬ nI 4 ≤ nI j := nI_ge (by omega) (by decide)
      have ba := cBA (J := J) h (p := p + j) (by omega)
      have hb := (h.2.2 (p + j) (by omega)).2
      have ch := c_ch_13 j (by omega)
      have hx : [110, 101, 120, 116].getD j 0 = x := by
        have := congrArg (fun l : List Nat => l.head?) hw
        simp only [List.head?_cons, List.head?_drop] at this
        rw [List.getD_eq_getElem?_getD, ← this]; rfl
      have hw2 : w = [110, 101, 120, 116].drop (j + 1) := by
        have := congrArg List.tail hw
        rw [List.tail_drop] at this
        exact this
      have chf : fSg_charAt_13 (nI j) I J = nI x := by rw [← hx]; exact ch.2
      have chp : pSg_charAt_13 (nI j) I J := ch.1
      have hx9 : x < 256 := by rw [← hx]; exact (show ∀ j, j < 4 → [110, 101, 120, 116].getD j 0 < 256 by decide) j (by omega)
      have i2 := ih (j + 1) w (by omega) hw2 (by omega)
      rw [if_neg c, nI_add, ba.2, chf, nI_i1]
      unfold eqw
      by_cases e : b (p + j) = x
      · rw [if_pos (by rw [e]), decide_eq_true e, Bool.true_and]
        exact ⟨⟨fun q => absurd q c, fun _ => ⟨ba.1, chp, fun _ => i2.1, fun q => absurd (by rw [e]) q⟩⟩, i2.2⟩
      · have e' : ¬ nI (b (p + j)) = nI x := fun q => e ((nI_eq (by omega) (by omega)).mp q)
        rw [if_neg e', decide_eq_false e, Bool.false_and]
        exact ⟨⟨fun q => absurd q c, fun _ => ⟨ba.1, chp, fun q => absurd q e', fun _ => trivial⟩⟩, rfl⟩
theorem c_iw_13 (h : cBy I b L) {p z : Nat} (hp : p + z ≤ L) : pTk_isWord_13 32 (nI p) (nI z) I J ∧ (fTk_isWord_13 32 (nI p) (nI z) I J = 0 ↔ ¬ (z = 4 ∧ eqw b p [110, 101, 120, 116] = true)) := by
  have hl := h.2.1
  have el : fSg_length_13 I J = nI 4 := (show (4 : Int32) >>> ((0 : Int32) &&& 31) = nI 4 by decide)
  unfold pTk_isWord_13 fTk_isWord_13
  rw [el]
  by_cases hz : z = 4
  · subst hz
    have x := c_iw_13' (J := J) h hp 32 0 [110, 101, 120, 116] rfl rfl (by decide)
    rw [nI_0] at x
    rw [if_pos rfl, x.2]
    refine ⟨⟨⟨trivial, trivial⟩, fun _ => x.1, fun q => absurd rfl q⟩, ?_⟩
    rw [Nat.add_zero]
    by_cases e : eqw b p [110, 101, 120, 116] = true
    · rw [if_pos e]; exact ⟨fun q => absurd q (by decide), fun q => absurd ⟨rfl, e⟩ q⟩
    · rw [if_neg e]; exact ⟨fun _ q => e q.2, fun _ => rfl⟩
  · have c : ¬ nI z = nI 4 := fun q => hz ((nI_eq (by omega) (by decide)).mp q)
    rw [if_neg c]
    exact ⟨⟨⟨trivial, trivial⟩, fun q => absurd q c, fun _ => trivial⟩, fun _ q => hz q.1, fun _ => rfl⟩
theorem c_ch_14 : ∀ j, j < 4 → pSg_charAt_14 (nI j) (fun _ _ => 0) (fun _ _ => 0) ∧ fSg_charAt_14 (nI j) (fun _ _ => 0) (fun _ _ => 0) = nI ([115, 112, 101, 99].getD j 0) := by
  intro j hj
  have e := (show ∀ j, j < 4 → fSg_charAt_14 (nI j) (fun _ _ => 0) (fun _ _ => 0) = nI ([115, 112, 101, 99].getD j 0) by decide +kernel) j hj
  have h9 := (show ∀ j, j < 4 → [115, 112, 101, 99].getD j 0 < 256 by decide) j hj
  have en : narrow .char (.int (fSg_charAt_14 (nI j) (fun _ _ => 0) (fun _ _ => 0))) = .int (fSg_charAt_14 (nI j) (fun _ _ => 0) (fun _ _ => 0)) := by rw [e]; exact nar_c h9
  exact ⟨⟨trivial, ⟨ckI hj (by decide), vp_in_nI hj (by decide), en⟩, en⟩, e⟩
theorem c_iw_14' (h : cBy I b L) {p : Nat} (hp : p + 4 ≤ L) : ∀ (k j : Nat) (w : List Nat), j + w.length = 4 → w = [115, 112, 101, 99].drop j → w.length < k → pTk_isWord_14_13 k (nI p) (nI 4) (nI j) I J ∧ fTk_isWord_14_13 k (nI p) (nI 4) (nI j) I J = if eqw b (p + j) w = true then 1 else 0 := by
  intro k
  induction k with
  | zero => intro j w _ _ hk; omega
  | succ k ih =>
    intro j w hj hw hk
    rw [pTk_isWord_14_13.eq_2, fTk_isWord_14_13.eq_2]
    cases w with
    | nil =>
      have c : nI 4 ≤ nI j := nI_le (by simp only [List.length_nil] at hj; omega) (by simp only [List.length_nil] at hj; omega)
      rw [if_pos c]
      exact ⟨⟨fun _ => trivial, fun q => absurd c q⟩, rfl⟩
    | cons x w =>
      simp only [List.length_cons] at hj hk
      have c : ¬ nI 4 ≤ nI j := nI_ge (by omega) (by decide)
      have ba := cBA (J := J) h (p := p + j) (by omega)
      have hb := (h.2.2 (p + j) (by omega)).2
      have ch := c_ch_14 j (by omega)
      have hx : [115, 112, 101, 99].getD j 0 = x := by
        have := congrArg (fun l : List Nat => l.head?) hw
        simp only [List.head?_cons, List.head?_drop] at this
        rw [List.getD_eq_getElem?_getD, ← this]; rfl
      have hw2 : w = [115, 112, 101, 99].drop (j + 1) := by
        have := congrArg List.tail hw
        rw [List.tail_drop] at this
        exact this
      have chf : fSg_charAt_14 (nI j) I J = nI x := by rw [← hx]; exact ch.2
      have chp : pSg_charAt_14 (nI j) I J := ch.1
      have hx9 : x < 256 := by rw [← hx]; exact (show ∀ j, j < 4 → [115, 112, 101, 99].getD j 0 < 256 by decide) j (by omega)
      have i2 := ih (j + 1) w (by omega) hw2 (by omega)
      rw [if_neg c, nI_add, ba.2, chf, nI_i1]
      unfold eqw
      by_cases e : b (p + j) = x
      · rw [if_pos (by rw [e]), decide_eq_true e, Bool.true_and]
        exact ⟨⟨fun q => absurd q c, fun _ => ⟨ba.1, chp, fun _ => i2.1, fun q => absurd (by rw [e]) q⟩⟩, i2.2⟩
      · have e' : ¬ nI (b (p + j)) = nI x := fun q => e ((nI_eq (by omega) (by omega)).mp q)
        rw [if_neg e', decide_eq_false e, Bool.false_and]
        exact ⟨⟨fun q => absurd q c, fun _ => ⟨ba.1, chp, fun q => absurd q e', fun _ => trivial⟩⟩, rfl⟩
theorem c_iw_14 (h : cBy I b L) {p z : Nat} (hp : p + z ≤ L) : pTk_isWord_14 32 (nI p) (nI z) I J ∧ (fTk_isWord_14 32 (nI p) (nI z) I J = 0 ↔ ¬ (z = 4 ∧ eqw b p [115, 112, 101, 99] = true)) := by
  have hl := h.2.1
  have el : fSg_length_14 I J = nI 4 := (show (4 : Int32) >>> ((0 : Int32) &&& 31) = nI 4 by decide)
  unfold pTk_isWord_14 fTk_isWord_14
  rw [el]
  by_cases hz : z = 4
  · subst hz
    have x := c_iw_14' (J := J) h hp 32 0 [115, 112, 101, 99] rfl rfl (by decide)
    rw [nI_0] at x
    rw [if_pos rfl, x.2]
    refine ⟨⟨⟨trivial, trivial⟩, fun _ => x.1, fun q => absurd rfl q⟩, ?_⟩
    rw [Nat.add_zero]
    by_cases e : eqw b p [115, 112, 101, 99] = true
    · rw [if_pos e]; exact ⟨fun q => absurd q (by decide), fun q => absurd ⟨rfl, e⟩ q⟩
    · rw [if_neg e]; exact ⟨fun _ q => e q.2, fun _ => rfl⟩
  · have c : ¬ nI z = nI 4 := fun q => hz ((nI_eq (by omega) (by decide)).mp q)
    rw [if_neg c]
    exact ⟨⟨⟨trivial, trivial⟩, fun q => absurd q c, fun _ => trivial⟩, fun _ q => hz q.1, fun _ => rfl⟩
theorem c_long (h : cBy I b L) {p z : Nat} (hp : p + z ≤ L) : pTk_kindOfLongWord (nI p) (nI z) I J ∧ fTk_kindOfLongWord (nI p) (nI z) I J = nI (wkL b p z) := by
  have w0 := c_iw_10 (J := J) h hp
  have w1 := c_iw_11 (J := J) h hp
  have w2 := c_iw_12 (J := J) h hp
  have w3 := c_iw_13 (J := J) h hp
  have w4 := c_iw_14 (J := J) h hp
  unfold pTk_kindOfLongWord fTk_kindOfLongWord wkL
  refine ⟨⟨w0.1, fun _ => ⟨w1.1, fun _ => ⟨w2.1, fun _ => ⟨w3.1, fun _ => ⟨w4.1, fun _ => trivial, fun _ => trivial⟩, fun _ => trivial⟩, fun _ => trivial⟩, fun _ => trivial⟩, fun _ => trivial⟩, ?_⟩
  by_cases a0 : z = 3 ∧ eqw b p [114, 101, 103] = true
  · rw [if_neg (fun q => w0.2.mp q a0), if_pos a0]; rfl
  rw [if_pos (w0.2.mpr a0), if_neg a0]
  by_cases a1 : z = 5 ∧ eqw b p [105, 110, 112, 117, 116] = true
  · rw [if_neg (fun q => w1.2.mp q a1), if_pos a1]; rfl
  rw [if_pos (w1.2.mpr a1), if_neg a1]
  by_cases a2 : z = 4 ∧ eqw b p [119, 105, 114, 101] = true
  · rw [if_neg (fun q => w2.2.mp q a2), if_pos a2]; rfl
  rw [if_pos (w2.2.mpr a2), if_neg a2]
  by_cases a3 : z = 4 ∧ eqw b p [110, 101, 120, 116] = true
  · rw [if_neg (fun q => w3.2.mp q a3), if_pos a3]; rfl
  rw [if_pos (w3.2.mpr a3), if_neg a3]
  by_cases a4 : z = 4 ∧ eqw b p [115, 112, 101, 99] = true
  · rw [if_neg (fun q => w4.2.mp q a4), if_pos a4]; rfl
  rw [if_pos (w4.2.mpr a4), if_neg a4]; rfl
theorem c_word (h : cBy I b L) {p : Nat} (h6 : I 17 6 = nI p) (hp : p < L) (hl : isL (b p) = true) : pTk_scanWord 65537 I J ∧ fTk_scanWord 65537 I J = (nI (if rn isW b L 65537 p - p ≤ 31 then wkind b p (rn isW b L 65537 p - p) else 46), pm_u I 17 6 (nI (rn isW b L 65537 p))) := by
  have hL := h.2.1
  have hw : isW (b p) = true := by unfold isW; rw [hl]; rfl
  have g1 := rn_1 isW b L 65536 p hp hw
  have g2 := rn_le isW b L 65537 p (by omega)
  unfold pTk_scanWord fTk_scanWord
  rw [h6]
  refine c_wrun (J := J) (nI p) 65537 p I h h6 (by omega) (by omega) (fun r => r = _) ?_
  generalize rn isW b L 65537 p = e at g1 g2
  have hB : cBy (pm_u I 17 6 (nI e)) b L := cBy_c h (pm_u_n _ _ _ (by decide)) (pm_u_n _ _ _ (by decide))
  unfold pTk_scanWord_49 fTk_scanWord_49 wkind
  rw [pm_u_s, pk_sub (by omega)]
  by_cases c31 : e - p ≤ 31
  · have c31' : nI (e - p) ≤ (31 : Int32) := nI_le (a := e - p) (b := 31) c31 (by decide)
    rw [if_pos c31', if_pos c31]
    by_cases c2 : e - p ≤ 2
    · have c2' : nI (e - p) ≤ (2 : Int32) := nI_le (a := e - p) (b := 2) c2 (by decide)
      have s := c_short (J := J) hB (p := p) (z := e - p) (by omega) (by omega)
      rw [if_pos c2', if_pos c2, s.2]
      exact ⟨⟨fun _ => ⟨fun _ => ⟨s.1, trivial⟩, fun q => absurd c2' q⟩, fun q => absurd c31' q⟩, rfl⟩
    · have c2' : ¬ nI (e - p) ≤ (2 : Int32) := nI_ge (a := 2) (b := e - p) (by omega) (by omega)
      have s := c_long (J := J) hB (p := p) (z := e - p) (by omega)
      rw [if_neg c2', if_neg c2, s.2]
      exact ⟨⟨fun _ => ⟨fun q => absurd q c2', fun _ => ⟨s.1, trivial⟩⟩, fun q => absurd c31' q⟩, rfl⟩
  · have c31' : ¬ nI (e - p) ≤ (31 : Int32) := nI_ge (a := 31) (b := e - p) (by omega) (by omega)
    rw [if_neg c31', if_neg c31]
    exact ⟨⟨fun q => absurd q c31', fun _ => trivial⟩, rfl⟩
theorem c_num (h : cBy I b L) {p i : Nat} (hi : i < 4001) (h6 : I 17 6 = nI p) (hp : p < L) : pTk_scanNumber 65537 (nI i) I J ∧ fTk_scanNumber 65537 (nI i) I J = (nI (if rn isD b L 65537 p - p ≤ 9 then 44 else 46), pm_u (pm_u I 17 6 (nI (rn isD b L 65537 p))) 21 i (nI (val b p (rn isD b L 65537 p - p)))) := by
  have hL := h.2.1
  have g1 := rn_ge isD b L 65537 p
  have g2 := rn_le isD b L 65537 p (by omega)
  unfold pTk_scanNumber fTk_scanNumber
  rw [h6, show (0 : Int32) = nI (val b p 0) from nI_0.symm]
  refine c_drun (J := J) (nI i) (nI p) p 65537 0 I h (by rw [Nat.add_zero]; exact h6) (by omega) (by omega) (fun r => r = _) ?_
  rw [Nat.add_zero]
  generalize rn isD b L 65537 p = e at g1 g2
  unfold pTk_scanNumber_71 fTk_scanNumber_71
  rw [pm_u_s, pk_sub g1, nI_clamp (by omega)]
  by_cases c9 : e - p ≤ 9
  · have c9' : nI (e - p) ≤ (9 : Int32) := nI_le (a := e - p) (b := 9) c9 (by decide)
    rw [if_pos c9', if_pos c9]
    exact ⟨⟨vp_in_nI hi (by decide), fun _ => trivial, fun q => absurd c9' q⟩, rfl⟩
  · have c9' : ¬ nI (e - p) ≤ (9 : Int32) := nI_ge (a := 9) (b := e - p) (by omega) (by omega)
    rw [if_neg c9', if_neg c9]
    exact ⟨⟨vp_in_nI hi (by decide), fun q => absurd q c9', fun _ => trivial⟩, rfl⟩
end
