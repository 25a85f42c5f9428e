/-! TOKENS 2: the class parts the TAPE so -/
def cBy (I : Mm) (b : Nat → Nat) (L : Nat) : Prop := I 1 1 = nI L ∧ L ≤ 65536 ∧ ∀ q, q < L → I 2 q = sb (b q) ∧ b q < 256
theorem cBy_c {I I' : Mm} {b : Nat → Nat} {L : Nat} (h : cBy I b L) (h1 : I' 1 = I 1) (h2 : I' 2 = I 2) : cBy I' b L := ⟨by rw [h1]; exact h.1, h.2.1, fun q hq => by rw [h2]; exact h.2.2 q hq⟩
section
variable {I : Mm} {J : Ml} {b : Nat → Nat} {L : Nat}
theorem cBA (h : cBy I b L) {p : Nat} (hp : p < L) : pTp_byteAt (nI p) I J ∧ fTp_byteAt (nI p) I J = nI (b p) := by
  have hl := h.2.1
  have c0 : ¬ nI p < 0 := nI_pos (by omega)
  have c1 : ¬ nI L ≤ nI p := nI_ge hp (by omega)
  have q := h.2.2 p hp
  unfold pTp_byteAt fTp_byteAt
  rw [h.1, if_neg c0, if_neg c1, nI_clamp (by omega), q.1, sb_and _ q.2]
  exact ⟨⟨fun q => absurd q c0, fun _ => ⟨fun q => absurd q c1, fun _ => ⟨vp_in_nI (by omega) (by decide), trivial⟩⟩⟩, rfl⟩
theorem cBA0 (h : cBy I b L) {p : Nat} (hp : ¬ p < L) (hp2 : p < 2 ^ 31) : pTp_byteAt (nI p) I J ∧ fTp_byteAt (nI p) I J = 0 := by
  have hl := h.2.1
  have c0 : ¬ nI p < 0 := nI_pos hp2
  have c1 : nI L ≤ nI p := nI_le (by omega) hp2
  unfold pTp_byteAt fTp_byteAt pTp_byteAt_25 fTp_byteAt_25
  rw [h.1, if_neg c0, if_pos c1]
  exact ⟨⟨fun q => absurd q c0, fun _ => ⟨fun _ => trivial, fun q => absurd c1 q⟩⟩, rfl⟩
theorem c_skip : ∀ (n : Nat) (r : Bool) (p : Nat) (I : Mm), cBy I b L → I 17 6 = nI p → p ≤ L → L - p < n → pTk_skipBlanks_2 n (if r = true then 1 else 0) I J ∧ fTk_skipBlanks_2 n (if r = true then 1 else 0) I J = pm_u I 17 6 (nI (skp b L n r p)) := by
  intro n
  induction n with
  | zero => intro r p I _ _ _ h; omega
  | succ n ih =>
    intro r p I hB h6 hp hn
    have hl := hB.2.1
    rw [pTk_skipBlanks_2.eq_2, fTk_skipBlanks_2.eq_2]
    unfold skp pTk_skipBlanks_43 fTk_skipBlanks_43 pTk_skipBlanks_83 fTk_skipBlanks_83
    rw [hB.1, h6]
    by_cases c : L ≤ p
    · have c' : nI L ≤ nI p := nI_le c (by omega)
      rw [if_pos c', if_pos c, ← h6, pm_ui]
      exact ⟨⟨fun _ => trivial, fun q => absurd c' (by rw [h6] at q; exact q)⟩, rfl⟩
    have c' : ¬ nI L ≤ nI p := nI_ge (by omega) (by omega)
    have ba := cBA (J := J) hB (p := p) (by omega)
    have hb := (hB.2.2 p (by omega)).2
    have stp : ∀ r' : Bool, pTk_skipBlanks_2 n (if r' = true then 1 else 0) (pm_u I 17 6 (nI p + 1)) J ∧ fTk_skipBlanks_2 n (if r' = true then 1 else 0) (pm_u I 17 6 (nI p + 1)) J = pm_u I 17 6 (nI (skp b L n r' (p + 1))) := by
      intro r'
      have x := ih r' (p + 1) (pm_u I 17 6 (nI p + 1)) (cBy_c hB (pm_u_n _ _ _ (by decide)) (pm_u_n _ _ _ (by decide))) (by rw [pm_u_s, nI_1]) (by omega) (by omega)
      rw [pm_uu] at x
      exact x
    have s0 := stp false
    have s1 := stp true
    have eq : ∀ t : Nat, t < 256 → (nI (b p) = nI t ↔ b p = t) := fun t ht => nI_eq (by omega) (by omega)
    rw [if_neg c', if_neg c, ba.2]
    cases r with
    | true =>
      rw [if_pos rfl, if_pos rfl, if_neg (by decide)]
      by_cases d : b p = 10
      · have d' : nI (b p) = (10 : Int32) := (eq 10 (by decide)).mpr d
        rw [if_pos d', if_pos d]
        exact ⟨⟨fun q => absurd q c', fun _ => ⟨ba.1, fun q => absurd q (by decide), fun _ => ⟨fun _ => s0.1, fun q => absurd d' q⟩⟩⟩, s0.2⟩
      · have d' : ¬ nI (b p) = (10 : Int32) := fun q => d ((eq 10 (by decide)).mp q)
        rw [if_neg d', if_neg d]
        exact ⟨⟨fun q => absurd q c', fun _ => ⟨ba.1, fun q => absurd q (by decide), fun _ => ⟨fun q => absurd q d', fun _ => s1.1⟩⟩⟩, s1.2⟩
    | false =>
      rw [if_neg (show ¬ false = true by decide), if_pos rfl, if_neg (show ¬ false = true by decide)]
      refine (fun (z : _ ∧ _) => ⟨⟨fun q => absurd q c', fun _ => ⟨ba.1, fun _ => z.1, fun q => absurd rfl q⟩⟩, z.2⟩) ?_
      by_cases d : b p = 35
      · have d' : nI (b p) = (35 : Int32) := (eq 35 (by decide)).mpr d
        rw [if_pos d', if_pos d]
        exact ⟨⟨fun _ => s1.1, fun q => absurd d' q⟩, s1.2⟩
      have d' : ¬ nI (b p) = (35 : Int32) := fun q => d ((eq 35 (by decide)).mp q)
      rw [if_neg d', if_neg d]
      refine (fun (z : _ ∧ _) => ⟨⟨fun q => absurd q d', fun _ => z.1⟩, z.2⟩) ?_
      by_cases d1 : b p = 32
      · have d1' : nI (b p) = (32 : Int32) := (eq 32 (by decide)).mpr d1
        rw [if_pos d1', if_pos (Or.inl d1)]
        exact ⟨⟨fun _ => s0.1, fun q => absurd d1' q⟩, s0.2⟩
      have d1' : ¬ nI (b p) = (32 : Int32) := fun q => d1 ((eq 32 (by decide)).mp q)
      rw [if_neg d1']
      refine (fun (z : _ ∧ _) => ⟨⟨fun q => absurd q d1', fun _ => z.1⟩, z.2⟩) ?_
      by_cases d2 : b p = 9
      · have d2' : nI (b p) = (9 : Int32) := (eq 9 (by decide)).mpr d2
        rw [if_pos d2', if_pos (Or.inr (Or.inl d2))]
        exact ⟨⟨fun _ => s0.1, fun q => absurd d2' q⟩, s0.2⟩
      have d2' : ¬ nI (b p) = (9 : Int32) := fun q => d2 ((eq 9 (by decide)).mp q)
      rw [if_neg d2']
      refine (fun (z : _ ∧ _) => ⟨⟨fun q => absurd q d2', fun _ => z.1⟩, z.2⟩) ?_
      by_cases d3 : b p = 10
      · have d3' : nI (b p) = (10 : Int32) := (eq 10 (by decide)).mpr d3
        rw [if_pos d3', if_pos (Or.inr (Or.inr (Or.inl d3)))]
        exact ⟨⟨fun _ => s0.1, fun q => absurd d3' q⟩, s0.2⟩
      have d3' : ¬ nI (b p) = (10 : Int32) := fun q => d3 ((eq 10 (by decide)).mp q)
      rw [if_neg d3']
      refine (fun (z : _ ∧ _) => ⟨⟨fun q => absurd q d3', fun _ => z.1⟩, z.2⟩) ?_
      by_cases d4 : b p = 13
      · have d4' : nI (b p) = (13 : Int32) := (eq 13 (by decide)).mpr d4
        rw [if_pos d4', if_pos (Or.inr (Or.inr (Or.inr d4)))]
        exact ⟨⟨fun _ => s0.1, fun q => absurd d4' q⟩, s0.2⟩
      have d4' : ¬ nI (b p) = (13 : Int32) := fun q => d4 ((eq 13 (by decide)).mp q)
      rw [if_neg d4', if_neg (by omega), ← h6, pm_ui]
      exact ⟨⟨fun q => absurd q d4', fun _ => trivial⟩, rfl⟩
theorem pLD (y : Int32) : pTk_isLetter y ∧ pTk_isDigit y ∧ pTk_isOfWord y := by
  refine ⟨?_, ?_, ?_⟩ <;> simp [pTk_isLetter, pTk_isLetter_12, pTk_isLetter_24, pTk_isLetter_28, pTk_isDigit, pTk_isDigit_16, pTk_isOfWord, pTk_isOfWord_20]
theorem i10 {c : Bool} : ((if c = true then (1 : Int32) else 0) = 0) ↔ ¬ c = true := by cases c <;> decide
theorem c_wrun (y : Int32) : ∀ (n p : Nat) (I : Mm), cBy I b L → I 17 6 = nI p → p ≤ L → L - p < n → ∀ Q : Int32 × Mm → Prop, (pTk_scanWord_49 y (pm_u I 17 6 (nI (rn isW b L n p))) J ∧ Q (fTk_scanWord_49 y (pm_u I 17 6 (nI (rn isW b L n p))) J)) → pTk_scanWord_5 n y I J ∧ Q (fTk_scanWord_5 n y I J) := by
  intro n
  induction n with
  | zero => intro p I _ _ _ h; omega
  | succ n ih =>
    intro p I hB h6 hp hn Q hQ
    have hl := hB.2.1
    rw [pTk_scanWord_5.eq_2, fTk_scanWord_5.eq_2]
    unfold rn at hQ
    by_cases c : L ≤ p
    · have c' : I 1 1 ≤ I 17 6 := by rw [hB.1, h6]; exact nI_le c (by omega)
      rw [if_pos c, ← h6, pm_ui] at hQ
      exact itp c' hQ
    have c' : ¬ I 1 1 ≤ I 17 6 := by rw [hB.1, h6]; exact nI_ge (by omega) (by omega)
    rw [if_neg c] at hQ
    have ba := cBA (J := J) hB (p := p) (by omega)
    have hb := (hB.2.2 p (by omega)).2
    have cl := (cLet (b p) hb).2.2
    refine itn c' ?_
    rw [h6, ba.2, cl]
    refine sq ba.1 (sq (pLD _).2.2 ?_)
    by_cases d : isW (b p) = true
    · rw [if_pos d] at hQ
      refine itn (fun q => (i10.mp q) d) ?_
      refine ih (p + 1) (pm_u I 17 6 (nI p + 1)) (cBy_c hB (pm_u_n _ _ _ (by decide)) (pm_u_n _ _ _ (by decide))) (by rw [pm_u_s, nI_1]) (by omega) (by omega) Q ?_
      rw [pm_uu]; exact hQ
    · rw [if_neg d, ← h6, pm_ui] at hQ
      exact itp (i10.mpr d) hQ
theorem c_drun (y1 y2 : Int32) (p0 : Nat) : ∀ (n z : Nat) (I : Mm), cBy I b L → I 17 6 = nI (p0 + z) → p0 + z ≤ L → L - (p0 + z) < n → ∀ Q : Int32 × Mm → Prop, (pTk_scanNumber_71 y1 y2 (nI (val b p0 (rn isD b L n (p0 + z) - p0))) (pm_u I 17 6 (nI (rn isD b L n (p0 + z)))) J ∧ Q (fTk_scanNumber_71 y1 y2 (nI (val b p0 (rn isD b L n (p0 + z) - p0))) (pm_u I 17 6 (nI (rn isD b L n (p0 + z)))) J)) → pTk_scanNumber_7 n y1 y2 (nI (val b p0 z)) I J ∧ Q (fTk_scanNumber_7 n y1 y2 (nI (val b p0 z)) I J) := by
  intro n
  induction n with
  | zero => intro z I _ _ _ h; omega
  | succ n ih =>
    intro z I hB h6 hp hn Q hQ
    have hl := hB.2.1
    rw [pTk_scanNumber_7.eq_2, fTk_scanNumber_7.eq_2]
    unfold rn at hQ
    by_cases c : L ≤ p0 + z
    · have c' : I 1 1 ≤ I 17 6 := by rw [hB.1, h6]; exact nI_le c (by omega)
      rw [if_pos c, ← h6, pm_ui, Nat.add_sub_cancel_left] at hQ
      exact itp c' hQ
    have c' : ¬ I 1 1 ≤ I 17 6 := by rw [hB.1, h6]; exact nI_ge (by omega) (by omega)
    rw [if_neg c] at hQ
    have ba := cBA (J := J) hB (p := p0 + z) (by omega)
    have hb := (hB.2.2 (p0 + z) (by omega)).2
    have cl := (cLet (b (p0 + z)) hb).2.1
    refine itn c' ?_
    rw [h6, ba.2, cl]
    refine sq ba.1 (sq (pLD _).2.1 ?_)
    by_cases d : isD (b (p0 + z)) = true
    · rw [if_pos d] at hQ
      have d48 : 48 ≤ b (p0 + z) := by unfold isD at d; simp at d; exact d.1
      refine itn (fun q => (i10.mp q) d) ?_
      refine (fun (x : _ ∧ _) => ⟨⟨ba.1, x.1⟩, x.2⟩) ?_
      have ev : nI (val b p0 z) * 10 + nI (b (p0 + z)) - 48 = nI (val b p0 (z + 1)) := by
        show nI (val b p0 z) * nI 10 + nI (b (p0 + z)) - nI 48 = nI (val b p0 z * 10 + (b (p0 + z) - 48))
        rw [pk_mul, nI_add, pk_sub (by omega)]
        congr 1
        omega
      rw [ev]
      refine ih (z + 1) (pm_u I 17 6 (nI (p0 + z) + 1)) (cBy_c hB (pm_u_n _ _ _ (by decide)) (pm_u_n _ _ _ (by decide))) (by rw [pm_u_s, nI_1]; rfl) (by omega) (by omega) Q ?_
      rw [pm_uu]; exact hQ
    · rw [if_neg d, ← h6, pm_ui, Nat.add_sub_cancel_left] at hQ
      exact itp (i10.mpr d) hQ
end
