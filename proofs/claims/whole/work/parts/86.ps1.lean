/-! PARSE 1: rows of a walk over pure functions; the grammar of expressions and formulas as one function over the tokens -/
theorem sq {a b c : Prop} (h1 : a) (h2 : b ∧ c) : (a ∧ b) ∧ c := ⟨⟨h1, h2.1⟩, h2.2⟩
theorem sqt {a c : Prop} (h1 : a ∧ c) : (a ∧ True) ∧ c := ⟨⟨h1.1, trivial⟩, h1.2⟩
theorem itp {α : Type} {c p1 p2 : Prop} {d : Decidable c} {f1 f2 : α} {Q : α → Prop} (hc : c) (h : p1 ∧ Q f1) : ((c → p1) ∧ (¬ c → p2)) ∧ Q (@ite α c d f1 f2) := ⟨⟨fun _ => h.1, fun n => absurd hc n⟩, by rw [if_pos hc]; exact h.2⟩
theorem itn {α : Type} {c p1 p2 : Prop} {d : Decidable c} {f1 f2 : α} {Q : α → Prop} (hc : ¬ c) (h : p2 ∧ Q f2) : ((c → p1) ∧ (¬ c → p2)) ∧ Q (@ite α c d f1 f2) := ⟨⟨fun q => absurd q hc, fun _ => h.1⟩, by rw [if_neg hc]; exact h.2⟩
theorem mq0 {α : Type} {pc pn : Prop} {e : Int32} {f1 f2 : α} {Q : α → Prop} (hp : pc) (h0 : e = 0) (h : pn ∧ Q f1) : (pc ∧ (e = 0 → pn)) ∧ Q (if e = 0 then f1 else f2) := ⟨⟨hp, fun _ => h.1⟩, by rw [if_pos h0]; exact h.2⟩
theorem mq1 {α : Type} {pc pn : Prop} {e : Int32} {f1 f2 : α} {Q : α → Prop} (hp : pc) (h0 : ¬ e = 0) (h : Q f2) : (pc ∧ (e = 0 → pn)) ∧ Q (if e = 0 then f1 else f2) := ⟨⟨hp, fun q => absurd q h0⟩, by rw [if_neg h0]; exact h⟩
abbrev Mm := Nat → Nat → Int32
abbrev Ml := Nat → Nat → Int64
abbrev Cd := List (Nat × Nat)
/-- fault's kind (0: none), its token, the next token, costs, code -/
abbrev SR := Nat × Nat × Nat × Nat × Cd
/-- kind and number of each token; the name that stands there; kind and part of each name -/
abbrev TT := (Nat → Nat) × (Nat → Nat) × (Nat → Option Nat) × (Nat → Nat) × (Nat → Nat)
def tyt (k : Nat) : Nat := [0, 0, 0, 0, 0, 0, 0, 0, 0, 0, 7, 7, 9, 9, 10, 5, 3, 4, 0, 0, 6, 6, 7, 7, 8, 8, 2, 1, 0].getD k 0
def cst (k : Nat) : Nat := [0, 0, 0, 40, 0, 0, 0, 0, 8, 0, 96, 96, 96, 96, 900, 24, 24, 24, 0, 24, 32, 32, 96, 96, 128, 128, 24, 24, 0].getD k 0
theorem tyt_big {k : Nat} (h : 29 ≤ k) : tyt k = 0 := by
  unfold tyt
  rw [List.getD_eq_getElem?_getD, List.getElem?_eq_none (by simpa using h)]
  rfl
theorem tyt_lt {k : Nat} (h : 0 < tyt k) : k < 29 := by
  rcases Nat.lt_or_ge k 29 with h9 | h9
  · exact h9
  · rw [tyt_big h9] at h; omega
theorem tyt10 (k : Nat) : tyt k ≤ 10 := by
  rcases Nat.lt_or_ge k 29 with h9 | h9
  · exact (show ∀ k, k < 29 → tyt k ≤ 10 by decide +kernel) k h9
  · rw [tyt_big h9]; omega
theorem cst24 {k : Nat} (h : 0 < tyt k) : 24 ≤ cst k ∧ cst k ≤ 900 := (show ∀ k, k < 29 → 0 < tyt k → 24 ≤ cst k ∧ cst k ≤ 900 by decide +kernel) k (tyt_lt h) h
theorem fti (I : Mm) (J : Ml) : ∀ k, k < 50 → pRd_tightness (nI k) I J ∧ fRd_tightness (nI k) I J = nI (tyt k) := by
  intro k hk
  unfold pRd_tightness fRd_tightness pRd_tightness_20 fRd_tightness_20
  rw [if_neg (nI_pos (by omega))]
  by_cases h : k < 29
  · rw [if_neg (show ¬ (29 : Int32) ≤ nI k from nI_ge (a := k) (b := 29) h (by decide)), nI_clamp (by omega)]
    refine ⟨⟨fun _ => trivial, fun _ => ⟨fun _ => trivial, fun _ => ⟨vp_in_nI h (by decide), trivial⟩⟩⟩, ?_⟩
    exact (show ∀ k, k < 29 → pk_TI.getD k 0 = nI (tyt k) by decide +kernel) k h
  · rw [if_pos (show (29 : Int32) ≤ nI k from nI_le (a := 29) (b := k) (by omega) (by omega)), tyt_big (by omega)]
    exact ⟨⟨fun _ => trivial, fun _ => ⟨fun _ => trivial, fun q => absurd (show (29 : Int32) ≤ nI k from nI_le (a := 29) (b := k) (by omega) (by omega)) q⟩⟩, by decide⟩
def sp_fail (e w : Nat) : SR := (e, w, 0, 0, [])
def sp_ok (i co : Nat) (C : Cd) : SR := (0, 0, i, co, C)
def sp_b (r : SR) (k : Nat → Nat → Cd → SR) : SR := if r.1 = 0 then k r.2.2.1 r.2.2.2.1 r.2.2.2.2 else r
def sp_pay (i co c : Nat) (k : Nat → SR) : SR := if co + c ≤ 3000 then k (co + c) else sp_fail 4 i
def sp_no (T : TT) (i : Nat) : SR := if T.1 i = 47 then sp_fail 4 i else sp_fail 1 i
def sp_ex (T : TT) (s i : Nat) (k : Nat → SR) : SR := if T.1 i = s then k (i + 1) else sp_no T i
def sp_named (T : TT) (i co : Nat) : SR := match T.2.2.1 i with
  | some k => if T.2.2.2.1 k = 33 then sp_fail 2 i else sp_ok (i + 1) co [(43, k)]
  | none => sp_fail 2 i
def sp_unary (T : TT) (G : Nat → Nat → Nat → Nat → Nat → SR) (d i co : Nat) : SR :=
  if 40 < d then sp_fail 4 i
  else if T.1 i = 4 then sp_b (G 0 0 (d + 1) (i + 1) co) (fun j c C => sp_ex T 5 j (fun j => sp_ok j c C))
  else if T.1 i = 13 then sp_pay i co 96 (fun co => sp_b (G 2 0 (d + 1) (i + 1) co) (fun j c C => sp_ok j c (C ++ [(49, 0)])))
  else if T.1 i = 18 then sp_pay i co 0 (fun co => sp_b (G 2 0 (d + 1) (i + 1) co) (fun j c C => sp_ok j c (C ++ [(18, 0)])))
  else if T.1 i = 19 then sp_pay i co 24 (fun co => sp_b (G 2 0 (d + 1) (i + 1) co) (fun j c C => sp_ok j c (C ++ [(19, 0)])))
  else if T.1 i = 43 then sp_named T i co
  else if T.1 i = 44 then (if T.2.1 i ≤ 255 then sp_ok (i + 1) co [(44, T.2.1 i)] else sp_fail 3 i)
  else sp_no T i
def sp_loop (T : TT) (G : Nat → Nat → Nat → Nat → Nat → SR) (l d : Nat) : Nat → Nat → Nat → Cd → SR
  | 0, _, _, _ => sp_fail 9 0
  | n + 1, i, co, C => if T.1 i = 47 then sp_fail 4 i
    else if tyt (T.1 i) = l + 1 then sp_pay i co (cst (T.1 i)) (fun co => sp_b (G 1 (l + 1) d (i + 1) co) (fun j c C' => sp_loop T G l d n j c (C ++ (C' ++ [(T.1 i, 0)]))))
    else sp_ok i co C
def sp_chain (T : TT) (G : Nat → Nat → Nat → Nat → Nat → SR) (l d i co : Nat) : SR :=
  if l = 10 then G 2 0 d i co else sp_b (G 1 (l + 1) d i co) (fun j c C => sp_loop T G l d 4002 j c C)
def sp_expr (T : TT) (G : Nat → Nat → Nat → Nat → Nat → SR) (d i co : Nat) : SR :=
  if 40 < d then sp_fail 4 i
  else sp_b (G 1 0 d i co) (fun j c C => if T.1 j = 3 then sp_pay j c 40 (fun c => sp_b (G 0 0 (d + 1) (j + 1) c) (fun j c C2 => sp_ex T 1 j (fun j => sp_b (G 0 0 (d + 1) j c) (fun j c C3 => sp_ok j c (C ++ (C2 ++ (C3 ++ [(50, 0)])))))))
    else sp_ok j c C)
def sp_E (T : TT) : Nat → Nat → Nat → Nat → Nat → Nat → SR
  | 0, _, _, _, _, _ => sp_fail 9 0
  | m + 1, t, l, d, i, co => if t = 0 then sp_expr T (sp_E T m) d i co else if t = 1 then sp_chain T (sp_E T m) l d i co else sp_unary T (sp_E T m) d i co
theorem sp_b0 {r : SR} {k : Nat → Nat → Cd → SR} (h : r.1 = 0) : sp_b r k = k r.2.2.1 r.2.2.2.1 r.2.2.2.2 := if_pos h
theorem sp_b1 {r : SR} {k : Nat → Nat → Cd → SR} (h : ¬ r.1 = 0) : sp_b r k = r := if_neg h
/-! what the grammar's function answers: tokens go on, costs are kept, code is short -/
/-- n tokens; the last one, and only it, is the end or what stops the reading -/
def tEnd (T : TT) (n : Nat) : Prop := 0 < n ∧ n ≤ 4001 ∧ (∀ i, i < n → T.1 i < 48) ∧ (∀ i, i + 1 < n → T.1 i < 45) ∧ 45 ≤ T.1 (n - 1)
theorem tEnd_s {T : TT} {n i : Nat} (h : tEnd T n) (hi : i < n) (hk : T.1 i < 45) : i + 1 < n := by
  obtain ⟨h1, h2, h3, h4, h5⟩ := h
  rcases Nat.lt_or_ge (i + 1) n with h9 | h9
  · exact h9
  · have : i = n - 1 := by omega
    rw [this] at hk; omega
def sOk (n i co : Nat) (r : SR) : Prop := r.1 = 0 → i + r.2.2.2.2.length ≤ r.2.2.1 ∧ i < r.2.2.1 ∧ r.2.2.1 < n ∧ co ≤ r.2.2.2.1 ∧ r.2.2.2.1 ≤ 3000 ∧ 0 < r.2.2.2.2.length
theorem sOk_f {n i co e w : Nat} (h : e ≠ 0) : sOk n i co (sp_fail e w) := fun q => absurd q h
theorem sOk_no {T : TT} {n i co j : Nat} : sOk n i co (sp_no T j) := by
  unfold sp_no
  by_cases h : T.1 j = 47
  · rw [if_pos h]; exact sOk_f (by decide)
  · rw [if_neg h]; exact sOk_f (by decide)
theorem sp_len {T : TT} {n : Nat} (hT : tEnd T n) : ∀ m t l d i co : Nat, i < n → co ≤ 3000 → sOk n i co (sp_E T m t l d i co) := by
  intro m
  induction m with
  | zero => intro t l d i co hi hc; exact sOk_f (by decide)
  | succ m ih =>
    intro t l d i co hi hc
    unfold sp_E
    by_cases h0 : t = 0
    · rw [if_pos h0]
      unfold sp_expr
      by_cases hd : 40 < d
      · rw [if_pos hd]; exact sOk_f (by decide)
      rw [if_neg hd]
      have r1 := ih 1 0 d i co hi hc
      by_cases e1 : (sp_E T m 1 0 d i co).1 = 0
      · rw [sp_b0 e1]; try dsimp only
        have q1 := r1 e1
        generalize sp_E T m 1 0 d i co = r at q1 ⊢
        by_cases k3 : T.1 r.2.2.1 = 3
        · rw [if_pos k3]
          unfold sp_pay
          by_cases hp : r.2.2.2.1 + 40 ≤ 3000
          · rw [if_pos hp]; try dsimp only
            have s1 := tEnd_s hT q1.2.2.1 (by omega)
            have r2 := ih 0 0 (d + 1) (r.2.2.1 + 1) (r.2.2.2.1 + 40) s1 hp
            by_cases e2 : (sp_E T m 0 0 (d + 1) (r.2.2.1 + 1) (r.2.2.2.1 + 40)).1 = 0
            · rw [sp_b0 e2]; try dsimp only
              have q2 := r2 e2
              generalize sp_E T m 0 0 (d + 1) (r.2.2.1 + 1) (r.2.2.2.1 + 40) = r' at q2 ⊢
              unfold sp_ex
              by_cases k1 : T.1 r'.2.2.1 = 1
              · rw [if_pos k1]; try dsimp only
                have s2 := tEnd_s hT q2.2.2.1 (by omega)
                have r3 := ih 0 0 (d + 1) (r'.2.2.1 + 1) r'.2.2.2.1 s2 q2.2.2.2.2.1
                by_cases e3 : (sp_E T m 0 0 (d + 1) (r'.2.2.1 + 1) r'.2.2.2.1).1 = 0
                · rw [sp_b0 e3]; try dsimp only
                  have q3 := r3 e3
                  generalize sp_E T m 0 0 (d + 1) (r'.2.2.1 + 1) r'.2.2.2.1 = r'' at q3 ⊢
                  intro _
                  unfold sp_ok
                  simp only [List.length_append, List.length_cons, List.length_nil]
                  omega
                · rw [sp_b1 e3]; exact fun q => absurd q e3
              · rw [if_neg k1]; exact sOk_no
            · rw [sp_b1 e2]; exact fun q => absurd q e2
          · rw [if_neg hp]; exact sOk_f (by decide)
        · rw [if_neg k3]
          intro _
          exact q1
      · rw [sp_b1 e1]; exact fun q => absurd q e1
    rw [if_neg h0]
    by_cases h1 : t = 1
    · rw [if_pos h1]
      unfold sp_chain
      by_cases hl : l = 10
      · rw [if_pos hl]; exact ih 2 0 d i co hi hc
      rw [if_neg hl]
      have lp : ∀ k j c C, j < n → i + C.length ≤ j → i < j → co ≤ c → c ≤ 3000 → 0 < C.length → sOk n i co (sp_loop T (sp_E T m) l d k j c C) := by
        intro k
        induction k with
        | zero => intro j c C _ _ _ _ _ _; exact sOk_f (by decide)
        | succ k ihk =>
          intro j c C hj h2 h3 h4 h5 h6
          unfold sp_loop
          by_cases k47 : T.1 j = 47
          · rw [if_pos k47]; exact sOk_f (by decide)
          rw [if_neg k47]
          by_cases kt : tyt (T.1 j) = l + 1
          · rw [if_pos kt]
            unfold sp_pay
            by_cases hp : c + cst (T.1 j) ≤ 3000
            · rw [if_pos hp]; try dsimp only
              have s1 := tEnd_s hT hj (by have := tyt_lt (k := T.1 j) (by omega); omega)
              have r2 := ih 1 (l + 1) d (j + 1) (c + cst (T.1 j)) s1 hp
              by_cases e2 : (sp_E T m 1 (l + 1) d (j + 1) (c + cst (T.1 j))).1 = 0
              · rw [sp_b0 e2]; try dsimp only
                have q2 := r2 e2
                generalize sp_E T m 1 (l + 1) d (j + 1) (c + cst (T.1 j)) = r' at q2 ⊢
                exact ihk _ _ _ q2.2.2.1 (by simp only [List.length_append, List.length_cons, List.length_nil]; omega) (by omega) (by omega) q2.2.2.2.2.1 (by simp only [List.length_append]; omega)
              · rw [sp_b1 e2]; exact fun q => absurd q e2
            · rw [if_neg hp]; exact sOk_f (by decide)
          · rw [if_neg kt]
            intro _
            exact ⟨h2, h3, hj, h4, h5, h6⟩
      have r1 := ih 1 (l + 1) d i co hi hc
      by_cases e1 : (sp_E T m 1 (l + 1) d i co).1 = 0
      · rw [sp_b0 e1]; try dsimp only
        have q1 := r1 e1
        exact lp _ _ _ _ q1.2.2.1 q1.1 q1.2.1 q1.2.2.2.1 q1.2.2.2.2.1 q1.2.2.2.2.2
      · rw [sp_b1 e1]; exact fun q => absurd q e1
    rw [if_neg h1]
    unfold sp_unary
    have alt : ∀ o p : Nat, T.1 i < 45 → sOk n i co (sp_pay i co p (fun co => sp_b (sp_E T m 2 0 (d + 1) (i + 1) co) (fun j c C => sp_ok j c (C ++ [(o, 0)])))) := by
      intro o p hk
      unfold sp_pay
      by_cases hp : co + p ≤ 3000
      · rw [if_pos hp]; try dsimp only
        have r1 := ih 2 0 (d + 1) (i + 1) (co + p) (tEnd_s hT hi hk) hp
        by_cases e1 : (sp_E T m 2 0 (d + 1) (i + 1) (co + p)).1 = 0
        · rw [sp_b0 e1]; try dsimp only
          have q1 := r1 e1
          intro _
          unfold sp_ok
          simp only [List.length_append, List.length_cons, List.length_nil]
          omega
        · rw [sp_b1 e1]; exact fun q => absurd q e1
      · rw [if_neg hp]; exact sOk_f (by decide)
    by_cases hd : 40 < d
    · rw [if_pos hd]; exact sOk_f (by decide)
    rw [if_neg hd]
    by_cases k4 : T.1 i = 4
    · rw [if_pos k4]
      have r1 := ih 0 0 (d + 1) (i + 1) co (tEnd_s hT hi (by omega)) hc
      by_cases e1 : (sp_E T m 0 0 (d + 1) (i + 1) co).1 = 0
      · rw [sp_b0 e1]; try dsimp only
        have q1 := r1 e1
        unfold sp_ex
        by_cases k5 : T.1 (sp_E T m 0 0 (d + 1) (i + 1) co).2.2.1 = 5
        · rw [if_pos k5]
          have s1 := tEnd_s hT q1.2.2.1 (by omega)
          intro _
          unfold sp_ok
          refine ⟨?_, ?_, s1, q1.2.2.2.1, q1.2.2.2.2.1, q1.2.2.2.2.2⟩
          · show i + (sp_E T m 0 0 (d + 1) (i + 1) co).2.2.2.2.length ≤ (sp_E T m 0 0 (d + 1) (i + 1) co).2.2.1 + 1
            omega
          · show i < (sp_E T m 0 0 (d + 1) (i + 1) co).2.2.1 + 1
            omega
        · rw [if_neg k5]; exact sOk_no
      · rw [sp_b1 e1]; exact fun q => absurd q e1
    rw [if_neg k4]
    by_cases k13 : T.1 i = 13
    · rw [if_pos k13]; exact alt _ _ (by omega)
    rw [if_neg k13]
    by_cases k18 : T.1 i = 18
    · rw [if_pos k18]; exact alt _ _ (by omega)
    rw [if_neg k18]
    by_cases k19 : T.1 i = 19
    · rw [if_pos k19]; exact alt _ _ (by omega)
    rw [if_neg k19]
    by_cases k43 : T.1 i = 43
    · rw [if_pos k43]
      unfold sp_named
      split
      · split
        · exact sOk_f (by decide)
        · intro _
          have := tEnd_s hT hi (by omega)
          exact ⟨Nat.le_refl _, Nat.lt_succ_self _, this, Nat.le_refl _, hc, Nat.zero_lt_one⟩
      · exact sOk_f (by decide)
    rw [if_neg k43]
    by_cases k44 : T.1 i = 44
    · rw [if_pos k44]
      split
      · intro _
        have := tEnd_s hT hi (by omega)
        exact ⟨Nat.le_refl _, Nat.lt_succ_self _, this, Nat.le_refl _, hc, Nat.zero_lt_one⟩
      · exact sOk_f (by decide)
    rw [if_neg k44]
    exact sOk_no
