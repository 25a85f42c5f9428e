/-! THE SHAPE OF CODES: costs, depth of choices, names -/
def Ecl (T : TT) (P : Nat → Nat → Cd → Prop) : Prop :=
  (∀ v, v ≤ 255 → P 0 0 [(44, v)]) ∧
  (∀ k i, T.2.2.1 i = some k → T.2.2.2.1 k ≠ 33 → P 0 0 [(43, k)]) ∧
  (∀ o p c q C, ((o = 49 ∧ p = 96) ∨ (o = 18 ∧ p = 0) ∨ (o = 19 ∧ p = 24)) → P c q C → P (p + c) q (C ++ [(o, 0)])) ∧
  (∀ o c q c' q' C D, 0 < tyt o → P c q C → P c' q' D → P (c + (cst o + c')) (max q q') (C ++ (D ++ [(o, 0)]))) ∧
  (∀ c q c' q' c'' q'' C D E, P c q C → P c' q' D → P c'' q'' E → P (c + (40 + (c' + c''))) (max q (1 + max q' q'')) (C ++ (D ++ (E ++ [(50, 0)]))))
/-- C is the code of an expression, with costs c and choices q deep -/
def EC (T : TT) (c q : Nat) (C : Cd) : Prop := ∀ P, Ecl T P → P c q C
def eOk (T : TT) (d co : Nat) (r : SR) : Prop := r.1 = 0 → ∃ c q, r.2.2.2.1 = co + c ∧ d + q ≤ 40 ∧ EC T c q r.2.2.2.2
theorem eOk_f {T : TT} {d co e w : Nat} (h : e ≠ 0) : eOk T d co (sp_fail e w) := fun q => absurd q h
theorem eOk_no {T : TT} {d co i : Nat} : eOk T d co (sp_no T i) := by
  unfold sp_no
  split
  · exact eOk_f (by decide)
  · exact eOk_f (by decide)
theorem eOk_b {T : TT} {d co : Nat} {r : SR} {k : Nat → Nat → Cd → SR} (h : r.1 = 0 → eOk T d co (k r.2.2.1 r.2.2.2.1 r.2.2.2.2)) : eOk T d co (sp_b r k) := by
  by_cases e : r.1 = 0
  · rw [sp_b0 e]; exact h e
  · rw [sp_b1 e]; exact fun q => absurd q e
theorem eOk_ex {T : TT} {d co s j : Nat} {k : Nat → SR} (h : T.1 j = s → eOk T d co (k (j + 1))) : eOk T d co (sp_ex T s j k) := by
  unfold sp_ex
  by_cases e : T.1 j = s
  · rw [if_pos e]; exact h e
  · rw [if_neg e]; exact eOk_no
theorem eOk_pay {T : TT} {d co j c p : Nat} {k : Nat → SR} (h : c + p ≤ 3000 → eOk T d co (k (c + p))) : eOk T d co (sp_pay j c p k) := by
  unfold sp_pay
  by_cases e : c + p ≤ 3000
  · rw [if_pos e]; exact h e
  · rw [if_neg e]; exact eOk_f (by decide)
theorem sp_EC (T : TT) : ∀ m t l d i co : Nat, eOk T d co (sp_E T m t l d i co) := by
  intro m
  induction m with
  | zero => intro t l d i co; exact eOk_f (by decide)
  | succ m ih =>
    intro t l d i co
    rw [sp_E.eq_2]
    by_cases h0 : t = 0
    · rw [if_pos h0]
      unfold sp_expr
      by_cases hd : 40 < d
      · rw [if_pos hd]; exact eOk_f (by decide)
      rw [if_neg hd]
      refine eOk_b (fun e => ?_)
      obtain ⟨c, q, a1, a2, a3⟩ := ih 1 0 d i co e
      generalize sp_E T m 1 0 d i co = r at a1 a3 ⊢
      by_cases k3 : T.1 r.2.2.1 = 3
      · rw [if_pos k3]
        refine eOk_pay (fun _ => eOk_b (fun e2 => ?_))
        obtain ⟨c', q', b1, b2, b3⟩ := ih 0 0 (d + 1) (r.2.2.1 + 1) (r.2.2.2.1 + 40) e2
        generalize sp_E T m 0 0 (d + 1) (r.2.2.1 + 1) (r.2.2.2.1 + 40) = r2 at b1 b3 ⊢
        refine eOk_ex (fun _ => eOk_b (fun e3 => ?_))
        obtain ⟨c'', q'', d1, d2, d3⟩ := ih 0 0 (d + 1) (r2.2.2.1 + 1) r2.2.2.2.1 e3
        generalize sp_E T m 0 0 (d + 1) (r2.2.2.1 + 1) r2.2.2.2.1 = r3 at d1 d3 ⊢
        refine fun _ => ⟨c + (40 + (c' + c'')), max q (1 + max q' q''), ?_, by omega, fun P hP => hP.2.2.2.2 _ _ _ _ _ _ _ _ _ (a3 P hP) (b3 P hP) (d3 P hP)⟩
        show r3.2.2.2.1 = _
        omega
      · rw [if_neg k3]
        exact fun _ => ⟨c, q, a1, a2, a3⟩
    rw [if_neg h0]
    by_cases h1 : t = 1
    · rw [if_pos h1]
      unfold sp_chain
      by_cases hl : l = 10
      · rw [if_pos hl]; exact ih 2 0 d i co
      rw [if_neg hl]
      have lp : ∀ k j c C u q, c = co + u → d + q ≤ 40 → EC T u q C → eOk T d co (sp_loop T (sp_E T m) l d k j c C) := by
        intro k
        induction k with
        | zero => intro j c C u q _ _ _; exact eOk_f (by decide)
        | succ k ihk =>
          intro j c C u q g1 g2 g3
          rw [sp_loop.eq_2]
          by_cases k47 : T.1 j = 47
          · rw [if_pos k47]; exact eOk_f (by decide)
          rw [if_neg k47]
          by_cases kt : tyt (T.1 j) = l + 1
          · rw [if_pos kt]
            refine eOk_pay (fun _ => eOk_b (fun e2 => ?_))
            obtain ⟨c', q', b1, b2, b3⟩ := ih 1 (l + 1) d (j + 1) (c + cst (T.1 j)) e2
            exact ihk _ _ _ (u + (cst (T.1 j) + c')) (max q q') (by omega) (by omega) (fun P hP => hP.2.2.2.1 _ _ _ _ _ _ _ (by omega) (g3 P hP) (b3 P hP))
          · rw [if_neg kt]
            exact fun _ => ⟨u, q, g1, g2, g3⟩
      refine eOk_b (fun e => ?_)
      obtain ⟨c, q, a1, a2, a3⟩ := ih 1 (l + 1) d i co e
      exact lp 4002 _ _ _ c q a1 a2 a3
    rw [if_neg h1]
    unfold sp_unary
    by_cases hd : 40 < d
    · rw [if_pos hd]; exact eOk_f (by decide)
    rw [if_neg hd]
    have un : ∀ o p : Nat, ((o = 49 ∧ p = 96) ∨ (o = 18 ∧ p = 0) ∨ (o = 19 ∧ p = 24)) → eOk T d co (sp_pay i co p (fun co => sp_b (sp_E T m 2 0 (d + 1) (i + 1) co) (fun j c C => sp_ok j c (C ++ [(o, 0)])))) := by
      intro o p ho
      refine eOk_pay (fun _ => eOk_b (fun e2 => ?_))
      obtain ⟨c', q', b1, b2, b3⟩ := ih 2 0 (d + 1) (i + 1) (co + p) e2
      refine fun _ => ⟨p + c', q', ?_, by omega, fun P hP => hP.2.2.1 _ _ _ _ _ ho (b3 P hP)⟩
      show (sp_E T m 2 0 (d + 1) (i + 1) (co + p)).2.2.2.1 = _
      omega
    by_cases k4 : T.1 i = 4
    · rw [if_pos k4]
      refine eOk_b (fun e2 => ?_)
      obtain ⟨c', q', b1, b2, b3⟩ := ih 0 0 (d + 1) (i + 1) co e2
      exact eOk_ex (fun _ => fun _ => ⟨c', q', b1, by omega, b3⟩)
    rw [if_neg k4]
    by_cases k13 : T.1 i = 13
    · rw [if_pos k13]; exact un 49 96 (by decide)
    rw [if_neg k13]
    by_cases k18 : T.1 i = 18
    · rw [if_pos k18]; exact un 18 0 (by decide)
    rw [if_neg k18]
    by_cases k19 : T.1 i = 19
    · rw [if_pos k19]; exact un 19 24 (by decide)
    rw [if_neg k19]
    by_cases k43 : T.1 i = 43
    · rw [if_pos k43]
      unfold sp_named
      cases hk : T.2.2.1 i with
      | none => exact eOk_f (by decide)
      | some k =>
        dsimp only
        by_cases c33 : T.2.2.2.1 k = 33
        · rw [if_pos c33]; exact eOk_f (by decide)
        · rw [if_neg c33]
          exact fun _ => ⟨0, 0, rfl, by omega, fun P hP => hP.2.1 k i hk c33⟩
    rw [if_neg k43]
    by_cases k44 : T.1 i = 44
    · rw [if_pos k44]
      by_cases cv : T.2.1 i ≤ 255
      · rw [if_pos cv]
        exact fun _ => ⟨0, 0, rfl, by omega, fun P hP => hP.1 _ cv⟩
      · rw [if_neg cv]; exact eOk_f (by decide)
    rw [if_neg k44]
    exact eOk_no
/-- names in a code -/
theorem EC_nm {T : TT} {c q : Nat} {C : Cd} (h : EC T c q C) : ∀ k, (43, k) ∈ C → (∃ i, T.2.2.1 i = some k) ∧ T.2.2.2.1 k ≠ 33 := by
  refine h (fun _ _ C => ∀ k, (43, k) ∈ C → (∃ i, T.2.2.1 i = some k) ∧ T.2.2.2.1 k ≠ 33) ⟨?_, ?_, ?_, ?_, ?_⟩
  · intro v _ k hk
    rw [List.mem_singleton] at hk
    cases hk
  · intro k i h1 h2 k' hk
    rw [List.mem_singleton] at hk
    cases hk
    exact ⟨⟨i, h1⟩, h2⟩
  · intro o p c q C ho ih k hk
    rw [List.mem_append, List.mem_singleton] at hk
    rcases hk with hk | hk
    · exact ih k hk
    · cases hk; omega
  · intro o c q c' q' C D ho i1 i2 k hk
    rw [List.mem_append, List.mem_append, List.mem_singleton] at hk
    rcases hk with hk | hk | hk
    · exact i1 k hk
    · exact i2 k hk
    · cases hk; exact absurd ho (by decide)
  · intro c q c' q' c'' q'' C D E i1 i2 i3 k hk
    rw [List.mem_append, List.mem_append, List.mem_append, List.mem_singleton] at hk
    rcases hk with hk | hk | hk | hk
    · exact i1 k hk
    · exact i2 k hk
    · exact i3 k hk
    · cases hk
/-! the token of a fault -/
def sFn (n : Nat) (r : SR) : Prop := r.1 ≠ 0 → r.2.1 < n
theorem sFn_f {n e w : Nat} (h : w < n) : sFn n (sp_fail e w) := fun _ => h
theorem sFn_k {n j c : Nat} {C : Cd} : sFn n (sp_ok j c C) := fun q => absurd rfl q
theorem sFn_no {T : TT} {n i : Nat} (h : i < n) : sFn n (sp_no T i) := by
  unfold sp_no
  split
  · exact sFn_f h
  · exact sFn_f h
theorem sFn_b {n : Nat} {r : SR} {k : Nat → Nat → Cd → SR} (h0 : sFn n r) (h : r.1 = 0 → sFn n (k r.2.2.1 r.2.2.2.1 r.2.2.2.2)) : sFn n (sp_b r k) := by
  by_cases e : r.1 = 0
  · rw [sp_b0 e]; exact h e
  · rw [sp_b1 e]; exact h0
theorem sFn_ex {T : TT} {n s j : Nat} {k : Nat → SR} (hj : j < n) (h : T.1 j = s → sFn n (k (j + 1))) : sFn n (sp_ex T s j k) := by
  unfold sp_ex
  by_cases e : T.1 j = s
  · rw [if_pos e]; exact h e
  · rw [if_neg e]; exact sFn_no hj
theorem sFn_pay {n j c p : Nat} {k : Nat → SR} (hj : j < n) (h : c + p ≤ 3000 → sFn n (k (c + p))) : sFn n (sp_pay j c p k) := by
  unfold sp_pay
  by_cases e : c + p ≤ 3000
  · rw [if_pos e]; exact h e
  · rw [if_neg e]; exact sFn_f hj
theorem sp_wE {T : TT} {n : Nat} (hT : tEnd T n) : ∀ m t l d i co : Nat, i < n → co ≤ 3000 → sFn n (sp_E T m t l d i co) := by
  have hn : 0 < n := hT.1
  intro m
  induction m with
  | zero => intro t l d i co _ _; exact sFn_f hn
  | succ m ih =>
    intro t l d i co hi hc
    rw [sp_E.eq_2]
    by_cases h0 : t = 0
    · rw [if_pos h0]
      unfold sp_expr
      by_cases hd : 40 < d
      · rw [if_pos hd]; exact sFn_f hi
      rw [if_neg hd]
      refine sFn_b (ih _ _ _ _ _ hi hc) (fun e => ?_)
      have q := sp_len hT m 1 0 d i co hi hc e
      by_cases k3 : T.1 (sp_E T m 1 0 d i co).2.2.1 = 3
      · rw [if_pos k3]
        refine sFn_pay q.2.2.1 (fun hp => ?_)
        have s1 := tEnd_s hT q.2.2.1 (by omega)
        refine sFn_b (ih _ _ _ _ _ s1 hp) (fun e2 => ?_)
        have q2 := sp_len hT m 0 0 (d + 1) _ _ s1 hp e2
        refine sFn_ex q2.2.2.1 (fun k1 => ?_)
        have s2 := tEnd_s hT q2.2.2.1 (by omega)
        exact sFn_b (ih _ _ _ _ _ s2 q2.2.2.2.2.1) (fun _ => sFn_k)
      · rw [if_neg k3]; exact sFn_k
    rw [if_neg h0]
    by_cases h1 : t = 1
    · rw [if_pos h1]
      unfold sp_chain
      by_cases hl : l = 10
      · rw [if_pos hl]; exact ih _ _ _ _ _ hi hc
      rw [if_neg hl]
      have lp : ∀ k j c C, j < n → c ≤ 3000 → sFn n (sp_loop T (sp_E T m) l d k j c C) := by
        intro k
        induction k with
        | zero => intro j c C _ _; exact sFn_f hn
        | succ k ihk =>
          intro j c C hj hc
          rw [sp_loop.eq_2]
          by_cases k47 : T.1 j = 47
          · rw [if_pos k47]; exact sFn_f hj
          rw [if_neg k47]
          by_cases kt : tyt (T.1 j) = l + 1
          · rw [if_pos kt]
            refine sFn_pay hj (fun hp => ?_)
            have k29 := tyt_lt (k := T.1 j) (by omega)
            have s1 := tEnd_s hT hj (by omega)
            refine sFn_b (ih _ _ _ _ _ s1 hp) (fun e2 => ?_)
            have q2 := sp_len hT m 1 (l + 1) d _ _ s1 hp e2
            exact ihk _ _ _ q2.2.2.1 q2.2.2.2.2.1
          · rw [if_neg kt]; exact sFn_k
      refine sFn_b (ih _ _ _ _ _ hi hc) (fun e => ?_)
      have q := sp_len hT m 1 (l + 1) d i co hi hc e
      exact lp 4002 _ _ _ q.2.2.1 q.2.2.2.2.1
    rw [if_neg h1]
    unfold sp_unary
    by_cases hd : 40 < d
    · rw [if_pos hd]; exact sFn_f hi
    rw [if_neg hd]
    have un : ∀ o p : Nat, T.1 i < 45 → sFn n (sp_pay i co p (fun co => sp_b (sp_E T m 2 0 (d + 1) (i + 1) co) (fun j c C => sp_ok j c (C ++ [(o, 0)])))) := fun o p hk => sFn_pay hi (fun hp => sFn_b (ih _ _ _ _ _ (tEnd_s hT hi hk) hp) (fun _ => sFn_k))
    by_cases k4 : T.1 i = 4
    · rw [if_pos k4]
      have s1 := tEnd_s hT hi (by omega)
      refine sFn_b (ih _ _ _ _ _ s1 hc) (fun e => ?_)
      have q := sp_len hT m 0 0 (d + 1) _ _ s1 hc e
      exact sFn_ex q.2.2.1 (fun _ => sFn_k)
    rw [if_neg k4]
    by_cases k13 : T.1 i = 13
    · rw [if_pos k13]; exact un _ _ (by omega)
    rw [if_neg k13]
    by_cases k18 : T.1 i = 18
    · rw [if_pos k18]; exact un _ _ (by omega)
    rw [if_neg k18]
    by_cases k19 : T.1 i = 19
    · rw [if_pos k19]; exact un _ _ (by omega)
    rw [if_neg k19]
    by_cases k43 : T.1 i = 43
    · rw [if_pos k43]
      unfold sp_named
      split
      · split
        · exact sFn_f hi
        · exact sFn_k
      · exact sFn_f hi
    rw [if_neg k43]
    by_cases k44 : T.1 i = 44
    · rw [if_pos k44]
      split
      · exact sFn_k
      · exact sFn_f hi
    rw [if_neg k44]
    exact sFn_no hi
theorem sp_wF {T : TT} {n : Nat} (hT : tEnd T n) : ∀ m t d i co : Nat, i < n → co ≤ 3000 → sFn n (sp_F T m t d i co) := by
  have hn : 0 < n := hT.1
  intro m
  induction m with
  | zero => intro t d i co _ _; exact sFn_f hn
  | succ m ih =>
    intro t d i co hi hc
    have lp : ∀ t s o, s < 45 → ∀ k j c C, j < n → c ≤ 3000 → sFn n (sp_fl T (sp_F T m) t s o d k j c C) := by
      intro t s o hs k
      induction k with
      | zero => intro j c C _ _; exact sFn_f hn
      | succ k ihk =>
        intro j c C hj hc
        rw [sp_fl.eq_2]
        by_cases k47 : T.1 j = 47
        · rw [if_pos k47]; exact sFn_f hj
        rw [if_neg k47]
        by_cases kt : T.1 j = s
        · rw [if_pos kt]
          have s1 := tEnd_s hT hj (by omega)
          refine sFn_b (ih _ _ _ _ s1 hc) (fun e2 => ?_)
          have q2 := sp_lenF hT m t d _ _ s1 hc e2
          exact ihk _ _ _ q2.2.2.1 q2.2.2.2.2.1
        · rw [if_neg kt]; exact sFn_k
    rw [sp_F.eq_2]
    by_cases h0 : t = 0
    · rw [if_pos h0]
      unfold sp_formula
      by_cases hd : 40 < d
      · rw [if_pos hd]; exact sFn_f hi
      rw [if_neg hd]
      refine sFn_b (ih _ _ _ _ hi hc) (fun e => ?_)
      have q := sp_lenF hT m 1 d i co hi hc e
      by_cases k3 : T.1 (sp_F T m 1 d i co).2.2.1 = 28
      · rw [if_pos k3]
        have s1 := tEnd_s hT q.2.2.1 (by omega)
        exact sFn_b (ih _ _ _ _ s1 q.2.2.2.2.1) (fun _ => sFn_k)
      · rw [if_neg k3]; exact sFn_k
    rw [if_neg h0]
    by_cases h1 : t = 1
    · rw [if_pos h1]
      refine sFn_b (ih _ _ _ _ hi hc) (fun e => ?_)
      have q := sp_lenF hT m 2 d i co hi hc e
      exact lp 2 27 55 (by decide) _ _ _ _ q.2.2.1 q.2.2.2.2.1
    rw [if_neg h1]
    by_cases h2 : t = 2
    · rw [if_pos h2]
      refine sFn_b (ih _ _ _ _ hi hc) (fun e => ?_)
      have q := sp_lenF hT m 3 d i co hi hc e
      exact lp 3 26 54 (by decide) _ _ _ _ q.2.2.1 q.2.2.2.2.1
    rw [if_neg h2]
    unfold sp_single
    by_cases hd : 40 < d
    · rw [if_pos hd]; exact sFn_f hi
    rw [if_neg hd]
    have alt : ∀ o : Nat, T.1 i < 45 → sFn n (sp_alt (sp_F T m) o d i co) := fun o hk => sFn_b (ih _ _ _ _ (tEnd_s hT hi hk) hc) (fun _ => sFn_k)
    by_cases k19 : T.1 i = 19
    · rw [if_pos k19]; exact alt _ (by omega)
    rw [if_neg k19]
    by_cases k37 : 37 ≤ T.1 i ∧ T.1 i ≤ 42
    · rw [if_pos k37]; exact alt _ (by omega)
    rw [if_neg k37]
    by_cases k34 : T.1 i = 34 ∨ T.1 i = 35
    · rw [if_pos k34]
      have s0 := tEnd_s hT hi (by omega)
      refine sFn_ex s0 (fun k6 => ?_)
      have s1 := tEnd_s hT s0 (by omega)
      refine sFn_b (ih _ _ _ _ s1 hc) (fun e1 => ?_)
      have q1 := sp_lenF hT m 0 (d + 1) _ _ s1 hc e1
      refine sFn_ex q1.2.2.1 (fun k36 => ?_)
      have s2 := tEnd_s hT q1.2.2.1 (by omega)
      refine sFn_b (ih _ _ _ _ s2 q1.2.2.2.2.1) (fun e2 => ?_)
      have q2 := sp_lenF hT m 0 (d + 1) _ _ s2 q1.2.2.2.2.1 e2
      exact sFn_ex q2.2.2.1 (fun _ => sFn_k)
    rw [if_neg k34]
    by_cases k4 : T.1 i = 4
    · rw [if_pos k4]
      have s1 := tEnd_s hT hi (by omega)
      refine sFn_b (ih _ _ _ _ s1 hc) (fun e => ?_)
      have q := sp_lenF hT m 0 (d + 1) _ _ s1 hc e
      exact sFn_ex q.2.2.1 (fun _ => sFn_k)
    rw [if_neg k4]
    by_cases k8 : T.1 i = 8
    · rw [if_pos k8]
      refine sFn_pay hi (fun hp => ?_)
      have s1 := tEnd_s hT hi (by omega)
      refine sFn_b (sp_wE hT _ _ _ _ _ _ s1 hp) (fun e => ?_)
      have q := sp_len hT 600 0 0 (d + 1) _ _ s1 hp e
      exact sFn_ex q.2.2.1 (fun _ => sFn_k)
    rw [if_neg k8]
    by_cases k43 : T.1 i = 43
    · rw [if_pos k43]
      unfold sp_fspec
      split
      · split
        · exact sFn_k
        · exact sFn_f hi
      · exact sFn_f hi
    rw [if_neg k43]
    exact sFn_no hi
