/-! MODEL'S TOKENS 1: blanks, signs, peek -/
def mBt (M : Mm) (b : Nat → Nat) (L : Nat) : Prop := M 40 1 = nI L ∧ L ≤ 65536 ∧ ∀ q, q < L → M 41 q = sb (b q) ∧ b q < 256
def mBy (M : Mm) (b : Nat → Nat) (L : Nat) : Prop := M 40 1 = nI L ∧ L ≤ 65536 ∧ (∀ q, q < L → M 41 q = sb (b q) ∧ b q < 256) ∧ M 40 3 = 0 ∧ M 40 4 = 0
theorem mBy_c {M M' : Mm} {b : Nat → Nat} {L : Nat} (h : mBy M b L) (h1 : M' 40 1 = M 40 1) (h2 : M' 41 = M 41) (h3 : M' 40 3 = M 40 3) (h4 : M' 40 4 = M 40 4) : mBy M' b L := ⟨by rw [h1]; exact h.1, h.2.1, fun q hq => by rw [h2]; exact h.2.2.1 q hq, h3.trans h.2.2.2.1, h4.trans h.2.2.2.2⟩
theorem skp_k (b : Nat → Nat) (L : Nat) : ∀ n n' r p, L - p < n → L - p < n' → skp b L n r p = skp b L n' r p := by
  intro n
  induction n with
  | zero => intro n' r p h _; omega
  | succ n ih =>
    intro n' r p h h'
    obtain ⟨n', rfl⟩ : ∃ m, n' = m + 1 := ⟨n' - 1, by omega⟩
    unfold skp
    by_cases c : L ≤ p
    · rw [if_pos c, if_pos c]
    · rw [if_neg c, if_neg c, ih n' false (p + 1) (by omega) (by omega), ih n' true (p + 1) (by omega) (by omega)]
def nl (b : Nat → Nat) (L : Nat) : Nat → Nat → Nat
  | 0, p => p
  | n + 1, p => if L ≤ p then p else if b p = 10 then p else nl b L n (p + 1)
theorem nl_ge (b : Nat → Nat) (L : Nat) : ∀ n p, p ≤ nl b L n p := by
  intro n
  induction n with
  | zero => intro p; exact Nat.le_refl _
  | succ n ih =>
    intro p
    have a := ih (p + 1)
    unfold nl
    split
    · exact Nat.le_refl _
    · split <;> omega
theorem nl_le (b : Nat → Nat) (L : Nat) : ∀ n p, p ≤ L → nl b L n p ≤ L := by
  intro n
  induction n with
  | zero => intro p h; exact h
  | succ n ih =>
    intro p h
    unfold nl
    split
    · exact h
    · split
      · exact h
      · exact ih (p + 1) (by omega)
theorem skp_nl (b : Nat → Nat) (L : Nat) : ∀ n m p, L - p < n → L - p < m → p ≤ L → skp b L n true p = skp b L n false (nl b L m p) := by
  intro n
  induction n with
  | zero => intro m p h _ _; omega
  | succ n ih =>
    intro m p h hm hp
    obtain ⟨m, rfl⟩ : ∃ m', m = m' + 1 := ⟨m - 1, by omega⟩
    unfold nl
    by_cases c : L ≤ p
    · rw [if_pos c]
      unfold skp
      rw [if_pos c, if_pos c]
    · rw [if_neg c]
      by_cases c10 : b p = 10
      · rw [if_pos c10]
        unfold skp
        rw [if_neg c, if_neg c, if_pos rfl, if_pos c10, if_neg (show ¬ false = true by decide), if_neg (by omega), if_pos (Or.inr (Or.inr (Or.inl c10)))]
      · rw [if_neg c10]
        have g := nl_ge b L m (p + 1)
        have e : skp b L (n + 1) true p = skp b L n true (p + 1) := by
          show (if L ≤ p then p else if true = true then (if b p = 10 then skp b L n false (p + 1) else skp b L n true (p + 1)) else _) = _
          rw [if_neg c, if_pos rfl, if_neg c10]
        rw [e, ih m (p + 1) (by omega) (by omega) (by omega)]
        exact skp_k b L _ _ _ _ (by omega) (by omega)
section
variable {b : Nat → Nat} {L : Nat}
theorem sbE {c t : Nat} (hc : c < 256) (ht : t < 128) : sb c = nI t ↔ c = t := by
  have e : sb t = nI t := if_pos ht
  rw [← e]; exact sb_inj hc (by omega)
theorem m_p27 (y : Int32) (q0 : Mm → Prop) (r0 : Mm → Mm) (Q : Mm → Prop) : ∀ (n p : Nat) (M : Mm), mBy M b L → M 40 5 = nI p → p ≤ L → L - p < n → (q0 (pm_u M 40 5 (nI (nl b L n p))) ∧ Q (r0 (pm_u M 40 5 (nI (nl b L n p))))) → pMo_parts_27 q0 n y M ∧ Q (fMo_parts_27 r0 n y M) := by
  intro n
  induction n with
  | zero => intro p M _ _ _ h; omega
  | succ n ih =>
    intro p M hB h5 hp hn hQ
    have hl := hB.2.1
    rw [pMo_parts_27.eq_2, fMo_parts_27.eq_2]
    unfold pMo_parts_103 fMo_parts_103
    unfold nl at hQ
    rw [hB.1, h5]
    by_cases c : L ≤ p
    · have c' : nI L ≤ nI p := nI_le c (by omega)
      rw [if_pos c, ← h5, pm_ui] at hQ
      exact itp c' hQ
    have c' : ¬ nI L ≤ nI p := nI_ge (by omega) (by omega)
    rw [if_neg c] at hQ
    have bp := hB.2.2.1 p (by omega)
    refine itn c' ?_
    rw [nI_clamp (by omega), bp.1, nI_1]
    refine sq (vp_in_nI (by omega) (by decide)) ?_
    by_cases d : b p = 10
    · rw [if_pos d, ← h5, pm_ui] at hQ
      exact itp ((sbE bp.2 (t := 10) (by decide)).mpr d) hQ
    · rw [if_neg d] at hQ
      refine itn (fun q => d ((sbE bp.2 (t := 10) (by decide)).mp q)) ?_
      refine ih (p + 1) (pm_u M 40 5 (nI (p + 1))) (mBy_c hB (pm_u_j _ _ _ (by decide)) (pm_u_n _ _ _ (by decide)) (pm_u_j _ _ _ (by decide)) (pm_u_j _ _ _ (by decide))) (pm_u_s _ _ _ _) (by omega) (by omega) ?_
      rw [pm_uu]; exact hQ
theorem m_parts : ∀ (n p : Nat) (M : Mm), mBy M b L → M 40 5 = nI p → p ≤ L → L - p < n → pMo_parts 65537 n M ∧ fMo_parts 65537 n M = pm_u M 40 5 (nI (skp b L n false p)) := by
  intro n
  induction n with
  | zero => intro p M _ _ _ h; omega
  | succ n ih =>
    intro p M hB h5 hp hn
    have hl := hB.2.1
    rw [pMo_parts.eq_2, fMo_parts.eq_2]
    unfold skp pMo_parts_89 fMo_parts_89 pMo_parts_103 fMo_parts_103
    rw [hB.1, h5, if_neg (show ¬ false = true by decide)]
    by_cases c : L ≤ p
    · have c' : nI L ≤ nI p := nI_le c (by omega)
      rw [if_pos c', if_pos c, ← h5, pm_ui]
      exact ⟨⟨fun _ => trivial, fun q => absurd c' (by rw [h5] at q; exact q)⟩, rfl⟩
    have c' : ¬ nI L ≤ nI p := nI_ge (by omega) (by omega)
    have bp := hB.2.2.1 p (by omega)
    have eq : ∀ t : Nat, t < 128 → (sb (b p) = nI t ↔ b p = t) := fun t ht => sbE bp.2 ht
    have v : vp_in (nI p) 65536 := vp_in_nI (by omega) (by decide)
    rw [if_neg c', if_neg c, nI_clamp (by omega), bp.1, nI_1]
    refine (fun (z : _ ∧ _) => ⟨⟨fun q => absurd q c', fun _ => ⟨v, z.1⟩⟩, z.2⟩) ?_
    by_cases d : b p = 35
    · have d' : sb (b p) = (35 : Int32) := (eq 35 (by decide)).mpr d
      rw [if_pos d', if_pos d]
      refine (fun (z : _ ∧ _) => ⟨⟨fun _ => z.1, fun q => absurd d' q⟩, z.2⟩) ?_
      refine m_p27 (sb (b p)) (pMo_parts 65537 n) (fMo_parts 65537 n) (fun r => r = pm_u M 40 5 (nI (skp b L n true (p + 1)))) 65537 p M hB h5 hp (by omega) ?_
      have e1 : nl b L 65537 p = nl b L 65536 (p + 1) := by
        show (if L ≤ p then p else if b p = 10 then p else nl b L 65536 (p + 1)) = _
        rw [if_neg c, if_neg (by omega)]
      have g1 := nl_ge b L 65536 (p + 1)
      have g2 := nl_le b L 65536 (p + 1) (by omega)
      have e2 := skp_nl b L n 65536 (p + 1) (by omega) (by omega) (by omega)
      rw [e1, e2]
      generalize nl b L 65536 (p + 1) = q at g1 g2
      have x := ih q (pm_u M 40 5 (nI q)) (mBy_c hB (pm_u_j _ _ _ (by decide)) (pm_u_n _ _ _ (by decide)) (pm_u_j _ _ _ (by decide)) (pm_u_j _ _ _ (by decide))) (pm_u_s _ _ _ _) g2 (by omega)
      rw [pm_uu] at x
      exact x
    have d' : ¬ sb (b p) = (35 : Int32) := fun q => d ((eq 35 (by decide)).mp q)
    have x := ih (p + 1) (pm_u M 40 5 (nI (p + 1))) (mBy_c hB (pm_u_j _ _ _ (by decide)) (pm_u_n _ _ _ (by decide)) (pm_u_j _ _ _ (by decide)) (pm_u_j _ _ _ (by decide))) (pm_u_s _ _ _ _) (by omega) (by omega)
    rw [pm_uu] at x
    rw [if_neg d', if_neg d]
    refine (fun (z : _ ∧ _) => ⟨⟨fun q => absurd q d', fun _ => z.1⟩, z.2⟩) ?_
    by_cases d1 : b p = 32
    · have d1' : sb (b p) = (32 : Int32) := (eq 32 (by decide)).mpr d1
      rw [if_pos d1', if_pos (Or.inl d1)]
      exact ⟨⟨fun _ => x.1, fun q => absurd d1' q⟩, x.2⟩
    have d1' : ¬ sb (b p) = (32 : Int32) := fun q => d1 ((eq 32 (by decide)).mp q)
    rw [if_neg d1']
    refine (fun (z : _ ∧ _) => ⟨⟨fun q => absurd q d1', fun _ => z.1⟩, z.2⟩) ?_
    by_cases d2 : b p = 9
    · have d2' : sb (b p) = (9 : Int32) := (eq 9 (by decide)).mpr d2
      rw [if_pos d2', if_pos (Or.inr (Or.inl d2))]
      exact ⟨⟨fun _ => x.1, fun q => absurd d2' q⟩, x.2⟩
    have d2' : ¬ sb (b p) = (9 : Int32) := fun q => d2 ((eq 9 (by decide)).mp q)
    rw [if_neg d2']
    refine (fun (z : _ ∧ _) => ⟨⟨fun q => absurd q d2', fun _ => z.1⟩, z.2⟩) ?_
    by_cases d3 : b p = 10
    · have d3' : sb (b p) = (10 : Int32) := (eq 10 (by decide)).mpr d3
      rw [if_pos d3', if_pos (Or.inr (Or.inr (Or.inl d3)))]
      exact ⟨⟨fun _ => x.1, fun q => absurd d3' q⟩, x.2⟩
    have d3' : ¬ sb (b p) = (10 : Int32) := fun q => d3 ((eq 10 (by decide)).mp q)
    rw [if_neg d3']
    refine (fun (z : _ ∧ _) => ⟨⟨fun q => absurd q d3', fun _ => z.1⟩, z.2⟩) ?_
    by_cases d4 : b p = 13
    · have d4' : sb (b p) = (13 : Int32) := (eq 13 (by decide)).mpr d4
      rw [if_pos d4', if_pos (Or.inr (Or.inr (Or.inr d4)))]
      exact ⟨⟨fun _ => x.1, fun q => absurd d4' q⟩, x.2⟩
    have d4' : ¬ sb (b p) = (13 : Int32) := fun q => d4 ((eq 13 (by decide)).mp q)
    rw [if_neg d4', if_neg (by omega), ← h5, pm_ui]
    exact ⟨⟨fun q => absurd q d4', fun _ => trivial⟩, rfl⟩
end
/-- the model's token for each kind -/
def mt (k : Nat) : Nat := if k < 20 then sgl.getD k 0 else if k < 29 then 280 + k else if k ≤ 43 then 1 else if k = 44 then 2 else if k = 45 then 0 else 3
theorem sg_o {d : Nat} (h : d ≠ 38 ∧ d ≠ 60 ∧ d ≠ 61 ∧ d ≠ 62 ∧ d ≠ 124) (hd : d < 256) (y : Int32) (c : Nat) : fMo_sign y (sb d) = fMo_sign y (sb 1) ∧ sgn c d = sgn c 1 := by
  have n38 : ¬ sb d = (38 : Int32) := fun q => h.1 ((sbE hd (t := 38) (by decide)).mp q)
  have n60 : ¬ sb d = (60 : Int32) := fun q => h.2.1 ((sbE hd (t := 60) (by decide)).mp q)
  have n61 : ¬ sb d = (61 : Int32) := fun q => h.2.2.1 ((sbE hd (t := 61) (by decide)).mp q)
  have n62 : ¬ sb d = (62 : Int32) := fun q => h.2.2.2.1 ((sbE hd (t := 62) (by decide)).mp q)
  have n124 : ¬ sb d = (124 : Int32) := fun q => h.2.2.2.2 ((sbE hd (t := 124) (by decide)).mp q)
  have m38 : ¬ sb 1 = (38 : Int32) := by decide
  have m60 : ¬ sb 1 = (60 : Int32) := by decide
  have m61 : ¬ sb 1 = (61 : Int32) := by decide
  have m62 : ¬ sb 1 = (62 : Int32) := by decide
  have m124 : ¬ sb 1 = (124 : Int32) := by decide
  constructor
  · unfold fMo_sign
    simp only [n38, n60, n61, n62, n124, m38, m60, m61, m62, m124, if_false]
  · have e : ∀ x ∈ dbl, (x.1 = c ∧ x.2 = d) = False ∧ (x.1 = c ∧ x.2 = 1) = False := by
      intro x hx
      simp only [dbl, List.mem_cons, List.not_mem_nil, or_false] at hx
      constructor <;> (apply eq_false; rintro ⟨-, q⟩; rcases hx with rfl | rfl | rfl | rfl | rfl | rfl | rfl | rfl | rfl <;> simp at q <;> omega)
    have f2 : ∀ (l : List (Nat × Nat)) (k : Nat), (∀ x ∈ l, x ∈ dbl) → fd2 c d l k = fd2 c 1 l k := by
      intro l
      induction l with
      | nil => intro k _; rfl
      | cons x l ih =>
        intro k hl
        unfold fd2
        have ex := e x (hl x List.mem_cons_self)
        rw [if_neg (fun q => (ex.1 ▸ q : False)), if_neg (fun q => (ex.2 ▸ q : False))]
        exact ih (k + 1) (fun y hy => hl y (List.mem_cons_of_mem _ hy))
    unfold sgn
    rw [f2 dbl 20 (fun x hx => hx)]
theorem sg_m {c d : Nat} (hc : c < 256) (hd : d < 256) : fMo_sign (sb c) (sb d) = nI (mt (sgn c d).1) ∧ (nI (mt (sgn c d).1) ≤ (299 : Int32) ↔ (sgn c d).2 = 1) := by
  have fin : ∀ c, c < 256 → ∀ d ∈ [1, 38, 60, 61, 62, 124], fMo_sign (sb c) (sb d) = nI (mt (sgn c d).1) ∧ (nI (mt (sgn c d).1) ≤ (299 : Int32) ↔ (sgn c d).2 = 1) := by decide +kernel
  by_cases h : d ≠ 38 ∧ d ≠ 60 ∧ d ≠ 61 ∧ d ≠ 62 ∧ d ≠ 124
  · have x := sg_o h hd (sb c) c
    rw [x.1, x.2]
    exact fin c hc 1 (by decide)
  · refine fin c hc d ?_
    simp only [List.mem_cons, List.not_mem_nil, or_false]
    omega
theorem pSgn (y z : Int32) : pMo_sign y z := by
  unfold pMo_sign
  simp
theorem pLDm (y : Int32) : pMo_letter y ∧ pMo_digit y := by
  constructor <;> simp [pMo_letter, pMo_letter_12, pMo_letter_24, pMo_letter_28, pMo_digit, pMo_digit_16]
