/-! PARSE 6: formulas, as a function over the tokens -/
def sp_fl (T : TT) (G : Nat → Nat → Nat → Nat → SR) (t s o d : Nat) : Nat → Nat → Nat → Cd → SR
  | 0, _, _, _ => sp_fail 9 0
  | n + 1, i, co, C => if T.1 i = 47 then sp_fail 4 i
    else if T.1 i = s then sp_b (G t d (i + 1) co) (fun j c C' => sp_fl T G t s o d n j c (C ++ (C' ++ [(o, 0)])))
    else sp_ok i co C
def sp_formula (T : TT) (G : Nat → Nat → Nat → Nat → SR) (d i co : Nat) : SR :=
  if 40 < d then sp_fail 4 i
  else sp_b (G 1 d i co) (fun j c C => if T.1 j = 28 then sp_b (G 0 (d + 1) (j + 1) c) (fun j c C2 => sp_ok j c (C ++ (C2 ++ [(56, 0)]))) else sp_ok j c C)
def sp_fspec (T : TT) (i co : Nat) : SR := match T.2.2.1 i with
  | some k => if T.2.2.2.1 k = 33 then sp_ok (i + 1) co [(52, T.2.2.2.2 k)] else sp_fail 2 i
  | none => sp_fail 2 i
def sp_alt (G : Nat → Nat → Nat → Nat → SR) (o d i co : Nat) : SR := sp_b (G 3 (d + 1) (i + 1) co) (fun j c C => sp_ok j c (C ++ [(o, 0)]))
def sp_until (T : TT) (G : Nat → Nat → Nat → Nat → SR) (o d i co : Nat) : SR :=
  sp_ex T 6 (i + 1) (fun j => sp_b (G 0 (d + 1) j co) (fun j c C1 => sp_ex T 36 j (fun j => sp_b (G 0 (d + 1) j c) (fun j c C2 => sp_ex T 7 j (fun j => sp_ok j c (C1 ++ (C2 ++ [(o, 0)])))))))
def sp_paren (T : TT) (G : Nat → Nat → Nat → Nat → SR) (d i co : Nat) : SR := sp_b (G 0 (d + 1) (i + 1) co) (fun j c C => sp_ex T 5 j (fun j => sp_ok j c C))
def sp_test (T : TT) (X : Nat → Nat → Nat → SR) (d i co : Nat) : SR := sp_pay i co 8 (fun co => sp_b (X (d + 1) (i + 1) co) (fun j c C => sp_ex T 9 j (fun j => sp_ok j c (C ++ [(51, 0)]))))
def sp_single (T : TT) (X : Nat → Nat → Nat → SR) (G : Nat → Nat → Nat → Nat → SR) (d i co : Nat) : SR :=
  if 40 < d then sp_fail 4 i
  else if T.1 i = 19 then sp_alt G 53 d i co
  else if 37 ≤ T.1 i ∧ T.1 i ≤ 42 then sp_alt G (T.1 i) d i co
  else if T.1 i = 34 ∨ T.1 i = 35 then sp_until T G (T.1 i) d i co
  else if T.1 i = 4 then sp_paren T G d i co
  else if T.1 i = 8 then sp_test T X d i co
  else if T.1 i = 43 then sp_fspec T i co
  else sp_no T i
def sp_F (T : TT) : Nat → Nat → Nat → Nat → Nat → SR
  | 0, _, _, _, _ => sp_fail 9 0
  | m + 1, t, d, i, co => if t = 0 then sp_formula T (sp_F T m) d i co
    else if t = 1 then sp_b (sp_F T m 2 d i co) (fun j c C => sp_fl T (sp_F T m) 2 27 55 d 4002 j c C)
    else if t = 2 then sp_b (sp_F T m 3 d i co) (fun j c C => sp_fl T (sp_F T m) 3 26 54 d 4002 j c C)
    else sp_single T (sp_E T 600 0 0) (sp_F T m) d i co
theorem sF0 (T : TT) (m d i co : Nat) : sp_F T (m + 1) 0 d i co = sp_formula T (sp_F T m) d i co := by rw [sp_F.eq_2]; exact if_pos rfl
theorem sF1 (T : TT) (m d i co : Nat) : sp_F T (m + 1) 1 d i co = sp_b (sp_F T m 2 d i co) (fun j c C => sp_fl T (sp_F T m) 2 27 55 d 4002 j c C) := by rw [sp_F.eq_2, if_neg (by decide)]; exact if_pos rfl
theorem sF2 (T : TT) (m d i co : Nat) : sp_F T (m + 1) 2 d i co = sp_b (sp_F T m 3 d i co) (fun j c C => sp_fl T (sp_F T m) 3 26 54 d 4002 j c C) := by rw [sp_F.eq_2, if_neg (by decide), if_neg (by decide)]; exact if_pos rfl
theorem sF3 (T : TT) (m d i co : Nat) : sp_F T (m + 1) 3 d i co = sp_single T (sp_E T 600 0 0) (sp_F T m) d i co := by rw [sp_F.eq_2, if_neg (by decide), if_neg (by decide)]; exact if_neg (by decide)
theorem sOk_b {n i co : Nat} {r : SR} {k : Nat → Nat → Cd → SR} (h : r.1 = 0 → sOk n i co (k r.2.2.1 r.2.2.2.1 r.2.2.2.2)) : sOk n i co (sp_b r k) := by
  by_cases e : r.1 = 0
  · rw [sp_b0 e]; exact h e
  · rw [sp_b1 e]; exact fun q => absurd q e
theorem sOk_ex {T : TT} {n i co s j : Nat} {k : Nat → SR} (h : T.1 j = s → sOk n i co (k (j + 1))) : sOk n i co (sp_ex T s j k) := by
  unfold sp_ex
  by_cases e : T.1 j = s
  · rw [if_pos e]; exact h e
  · rw [if_neg e]; exact sOk_no
theorem sOk_pay {n i co j c p : Nat} {k : Nat → SR} (h : c + p ≤ 3000 → sOk n i co (k (c + p))) : sOk n i co (sp_pay j c p k) := by
  unfold sp_pay
  by_cases e : c + p ≤ 3000
  · rw [if_pos e]; exact h e
  · rw [if_neg e]; exact sOk_f (by decide)
theorem sp_lenF {T : TT} {n : Nat} (hT : tEnd T n) : ∀ m t d i co : Nat, i < n → co ≤ 3000 → sOk n i co (sp_F T m t d i co) := by
  intro m
  induction m with
  | zero => intro t d i co hi hc; exact sOk_f (by decide)
  | succ m ih =>
    intro t d i co hi hc
    have lp : ∀ t s o, s < 45 → ∀ k j c C, j < n → i + C.length ≤ j → i < j → co ≤ c → c ≤ 3000 → 0 < C.length → sOk n i co (sp_fl T (sp_F T m) t s o d k j c C) := by
      intro t s o hs k
      induction k with
      | zero => intro j c C _ _ _ _ _ _; exact sOk_f (by decide)
      | succ k ihk =>
        intro j c C hj h2 h3 h4 h5 h6
        unfold sp_fl
        by_cases k47 : T.1 j = 47
        · rw [if_pos k47]; exact sOk_f (by decide)
        rw [if_neg k47]
        by_cases kt : T.1 j = s
        · rw [if_pos kt]
          have s1 := tEnd_s hT hj (by omega)
          refine sOk_b (fun e => ?_)
          have q2 := ih t d (j + 1) c s1 h5 e
          exact ihk _ _ _ q2.2.2.1 (by simp only [List.length_append, List.length_cons, List.length_nil]; omega) (by omega) (by omega) q2.2.2.2.2.1 (by simp only [List.length_append]; omega)
        · rw [if_neg kt]
          intro _
          exact ⟨h2, h3, hj, h4, h5, h6⟩
    unfold sp_F
    by_cases h0 : t = 0
    · rw [if_pos h0]
      unfold sp_formula
      by_cases hd : 40 < d
      · rw [if_pos hd]; exact sOk_f (by decide)
      rw [if_neg hd]
      refine sOk_b (fun e => ?_)
      have q1 := ih 1 d i co hi hc e
      by_cases k3 : T.1 (sp_F T m 1 d i co).2.2.1 = 28
      · rw [if_pos k3]
        have s1 := tEnd_s hT q1.2.2.1 (by omega)
        refine sOk_b (fun e2 => ?_)
        have q2 := ih 0 (d + 1) _ _ s1 q1.2.2.2.2.1 e2
        intro _
        unfold sp_ok
        simp only [List.length_append, List.length_cons, List.length_nil]
        omega
      · rw [if_neg k3]
        intro _
        exact q1
    rw [if_neg h0]
    by_cases h1 : t = 1
    · rw [if_pos h1]
      refine sOk_b (fun e => ?_)
      have q1 := ih 2 d i co hi hc e
      exact lp 2 27 55 (by decide) _ _ _ _ q1.2.2.1 q1.1 q1.2.1 q1.2.2.2.1 q1.2.2.2.2.1 q1.2.2.2.2.2
    rw [if_neg h1]
    by_cases h2 : t = 2
    · rw [if_pos h2]
      refine sOk_b (fun e => ?_)
      have q1 := ih 3 d i co hi hc e
      exact lp 3 26 54 (by decide) _ _ _ _ q1.2.2.1 q1.1 q1.2.1 q1.2.2.2.1 q1.2.2.2.2.1 q1.2.2.2.2.2
    rw [if_neg h2]
    have alt : ∀ o : Nat, T.1 i < 45 → sOk n i co (sp_alt (sp_F T m) o d i co) := by
      intro o hk
      refine sOk_b (fun e => ?_)
      have q1 := ih 3 (d + 1) (i + 1) co (tEnd_s hT hi hk) hc e
      intro _
      unfold sp_ok
      simp only [List.length_append, List.length_cons, List.length_nil]
      omega
    unfold sp_single
    by_cases hd : 40 < d
    · rw [if_pos hd]; exact sOk_f (by decide)
    rw [if_neg hd]
    by_cases k19 : T.1 i = 19
    · rw [if_pos k19]; exact alt _ (by omega)
    rw [if_neg k19]
    by_cases k37 : 37 ≤ T.1 i ∧ T.1 i ≤ 42
    · rw [if_pos k37]; exact alt _ (by omega)
    rw [if_neg k37]
    by_cases k34 : T.1 i = 34 ∨ T.1 i = 35
    · rw [if_pos k34]
      have s0 := tEnd_s hT hi (by omega)
      refine sOk_ex (fun k6 => ?_)
      have s1 := tEnd_s hT s0 (by omega)
      refine sOk_b (fun e1 => ?_)
      have q1 := ih 0 (d + 1) (i + 1 + 1) co s1 hc e1
      refine sOk_ex (fun k36 => ?_)
      have s2 := tEnd_s hT q1.2.2.1 (by omega)
      refine sOk_b (fun e2 => ?_)
      have q2 := ih 0 (d + 1) _ _ s2 q1.2.2.2.2.1 e2
      refine sOk_ex (fun k7 => ?_)
      have s3 := tEnd_s hT q2.2.2.1 (by omega)
      intro _
      unfold sp_ok
      simp only [List.length_append, List.length_cons, List.length_nil]
      omega
    rw [if_neg k34]
    by_cases k4 : T.1 i = 4
    · rw [if_pos k4]
      refine sOk_b (fun e1 => ?_)
      have q1 := ih 0 (d + 1) (i + 1) co (tEnd_s hT hi (by omega)) hc e1
      refine sOk_ex (fun k5 => ?_)
      have s2 := tEnd_s hT q1.2.2.1 (by omega)
      intro _
      unfold sp_ok
      dsimp only
      omega
    rw [if_neg k4]
    by_cases k8 : T.1 i = 8
    · rw [if_pos k8]
      refine sOk_pay (fun hp => ?_)
      refine sOk_b (fun e1 => ?_)
      have q1 := sp_len hT 600 0 0 (d + 1) (i + 1) (co + 8) (tEnd_s hT hi (by omega)) hp e1
      refine sOk_ex (fun k5 => ?_)
      have s2 := tEnd_s hT q1.2.2.1 (by omega)
      intro _
      unfold sp_ok
      simp only [List.length_append, List.length_cons, List.length_nil]
      omega
    rw [if_neg k8]
    by_cases k43 : T.1 i = 43
    · rw [if_pos k43]
      unfold sp_fspec
      split
      · split
        · intro _
          have := tEnd_s hT hi (by omega)
          exact ⟨Nat.le_refl _, Nat.lt_succ_self _, this, Nat.le_refl _, hc, Nat.zero_lt_one⟩
        · exact sOk_f (by decide)
      · exact sOk_f (by decide)
    rw [if_neg k43]
    exact sOk_no
