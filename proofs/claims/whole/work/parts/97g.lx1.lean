/-! SHAPES: heights of expressions and formulas -/
def Xcl (ok : Nat → Prop) (P : Nat → Cd → Prop) : Prop :=
  (∀ v, v ≤ 255 → P 1 [(44, v)]) ∧ (∀ k, ok k → P 1 [(43, k)]) ∧
  (∀ o h C, (o = 49 ∨ o = 18 ∨ o = 19) → P h C → P h (C ++ [(o, 0)])) ∧
  (∀ o h h' C D, 0 < tyt o → P h C → P h' D → P (max h (1 + h')) (C ++ (D ++ [(o, 0)]))) ∧
  (∀ h h' h'' C D E, P h C → P h' D → P h'' E → P (max h (max (1 + h') (2 + h''))) (C ++ (D ++ (E ++ [(50, 0)]))))
def XC (ok : Nat → Prop) (h : Nat) (C : Cd) : Prop := ∀ P, Xcl ok P → P h C
theorem XC_m {ok ok' : Nat → Prop} {h : Nat} {C : Cd} (hm : ∀ k, ok k → ok' k) (x : XC ok h C) : XC ok' h C := fun P hP => x P ⟨hP.1, fun k hk => hP.2.1 k (hm k hk), hP.2.2⟩
theorem EC_X {T : TT} {c q : Nat} {C : Cd} {ok : Nat → Prop} (h : EC T c q C) (hok : ∀ k i, T.2.2.1 i = some k → T.2.2.2.1 k ≠ 33 → ok k) : ∃ h B Q, XC ok h C ∧ h ≤ 1 + B + 2 * Q ∧ Q ≤ q ∧ 24 * B + 40 * Q ≤ c := by
  refine h (fun c q C => ∃ h B Q, XC ok h C ∧ h ≤ 1 + B + 2 * Q ∧ Q ≤ q ∧ 24 * B + 40 * Q ≤ c) ⟨fun v hv => ⟨1, 0, 0, fun P hP => hP.1 v hv, by omega, by omega, by omega⟩, fun k i h1 h2 => ⟨1, 0, 0, fun P hP => hP.2.1 k (hok k i h1 h2), by omega, by omega, by omega⟩, ?_, ?_, ?_⟩
  · rintro o p c q C ho ⟨h, B, Q, a1, a2, a3, a4⟩
    exact ⟨h, B, Q, fun P hP => hP.2.2.1 o h C (by omega) (a1 P hP), a2, a3, by omega⟩
  · rintro o c q c' q' C D ho ⟨h, B, Q, a1, a2, a3, a4⟩ ⟨h', B', Q', b1, b2, b3, b4⟩
    have x : XC ok (max h (1 + h')) (C ++ (D ++ [(o, 0)])) := fun P hP => hP.2.2.2.1 o h h' C D ho (a1 P hP) (b1 P hP)
    have k := (cst24 ho).1
    by_cases g : 1 + h' ≤ h
    · exact ⟨_, B, Q, x, by omega, by omega, by omega⟩
    · exact ⟨_, B' + 1, Q', x, by omega, by omega, by omega⟩
  · rintro c q c' q' c'' q'' C D E ⟨h, B, Q, a1, a2, a3, a4⟩ ⟨h', B', Q', b1, b2, b3, b4⟩ ⟨h'', B'', Q'', d1, d2, d3, d4⟩
    have x : XC ok (max h (max (1 + h') (2 + h''))) (C ++ (D ++ (E ++ [(50, 0)]))) := fun P hP => hP.2.2.2.2 h h' h'' C D E (a1 P hP) (b1 P hP) (d1 P hP)
    by_cases g : max (1 + h') (2 + h'') ≤ h
    · exact ⟨_, B, Q, x, by omega, by omega, by omega⟩
    · by_cases g2 : 1 + h' ≤ 2 + h''
      · exact ⟨_, B'', Q'' + 1, x, by omega, by omega, by omega⟩
      · exact ⟨_, B', Q' + 1, x, by omega, by omega, by omega⟩
theorem EC_X' {T : TT} {c q : Nat} {C : Cd} {ok : Nat → Prop} (h : EC T c q C) (hc : c ≤ 3000) (hq : q ≤ 40) (hok : ∀ k i, T.2.2.1 i = some k → T.2.2.2.1 k ≠ 33 → ok k) : ∃ h, h ≤ 140 ∧ XC ok h C := by
  obtain ⟨h, B, Q, a1, a2, a3, a4⟩ := EC_X h hok
  exact ⟨h, by omega, a1⟩
/-- formulas, with costs -/
def Kcl (T : TT) (P : Nat → Nat → Cd → Prop) : Prop :=
  (∀ c q C, EC T c q C → q ≤ 40 → P 1 c (C ++ [(51, 0)])) ∧
  (∀ k i, T.2.2.1 i = some k → T.2.2.2.1 k = 33 → P 1 0 [(52, T.2.2.2.2 k)]) ∧
  (∀ o h c C, (o = 53 ∨ (37 ≤ o ∧ o ≤ 42)) → P h c C → P (max h 2) c (C ++ [(o, 0)])) ∧
  (∀ o h c h' c' C D, (o = 54 ∨ o = 55 ∨ o = 56 ∨ o = 34 ∨ o = 35) → P h c C → P h' c' D → P (max h (1 + h')) (c + c') (C ++ (D ++ [(o, 0)])))
def KC (T : TT) (h c : Nat) (C : Cd) : Prop := ∀ P, Kcl T P → P h c C
def gOk (T : TT) (d t co : Nat) (r : SR) : Prop := r.1 = 0 → ∃ h c, co + c ≤ r.2.2.2.1 ∧ h + (t - 1) ≤ 3 * (41 - d) ∧ KC T h c r.2.2.2.2
theorem gOk_f {T : TT} {d t co e w : Nat} (h : e ≠ 0) : gOk T d t co (sp_fail e w) := fun q => absurd q h
theorem gOk_no {T : TT} {d t co i : Nat} : gOk T d t co (sp_no T i) := fun q => absurd q (sp_no1 T i)
theorem gOk_b {T : TT} {d t co : Nat} {r : SR} {k : Nat → Nat → Cd → SR} (h : r.1 = 0 → gOk T d t co (k r.2.2.1 r.2.2.2.1 r.2.2.2.2)) : gOk T d t co (sp_b r k) := by
  by_cases e : r.1 = 0
  · rw [sp_b0 e]; exact h e
  · rw [sp_b1 e]; exact fun q => absurd q e
theorem gOk_ex {T : TT} {d t co s j : Nat} {k : Nat → SR} (h : T.1 j = s → gOk T d t co (k (j + 1))) : gOk T d t co (sp_ex T s j k) := by
  unfold sp_ex
  by_cases e : T.1 j = s
  · rw [if_pos e]; exact h e
  · rw [if_neg e]; exact gOk_no
theorem gOk_pay {T : TT} {d t co j c p : Nat} {k : Nat → SR} (h : c + p ≤ 3000 → gOk T d t co (k (c + p))) : gOk T d t co (sp_pay j c p k) := by
  unfold sp_pay
  by_cases e : c + p ≤ 3000
  · rw [if_pos e]; exact h e
  · rw [if_neg e]; exact gOk_f (by decide)
set_option maxHeartbeats 4000000 in
theorem sp_KC (T : TT) : ∀ m t d i co : Nat, t ≤ 3 → gOk T d t co (sp_F T m t d i co) := by
  intro m
  induction m with
  | zero => intro t d i co _; exact gOk_f (by decide)
  | succ m ih =>
    intro t d i co ht
    have lp : ∀ t s o, (t = 2 ∨ t = 3) → (o = 54 ∨ o = 55) → ∀ k j c C u h, co + u ≤ c → h + (t - 2) ≤ 3 * (41 - d) → KC T h u C → gOk T d (t - 1) co (sp_fl T (sp_F T m) t s o d k j c C) := by
      intro t s o ht ho k
      induction k with
      | zero => intro j c C u h _ _ _; exact gOk_f (by decide)
      | succ k ihk =>
        intro j c C u h g1 g2 g3
        rw [sp_fl.eq_2]
        by_cases k47 : T.1 j = 47
        · rw [if_pos k47]; exact gOk_f (by decide)
        rw [if_neg k47]
        by_cases ks : T.1 j = s
        · rw [if_pos ks]
          refine gOk_b (fun e2 => ?_)
          obtain ⟨h', c', b1, b2, b3⟩ := ih t d (j + 1) c (by omega) e2
          exact ihk _ _ _ (u + c') (max h (1 + h')) (by omega) (by omega) (fun P hP => hP.2.2.2 o h u h' c' C _ (by omega) (g3 P hP) (b3 P hP))
        · rw [if_neg ks]
          exact fun _ => ⟨h, u, g1, by omega, g3⟩
    rcases (show t = 0 ∨ t = 1 ∨ t = 2 ∨ t = 3 by omega) with rfl | rfl | rfl | rfl
    · rw [sF0]
      unfold sp_formula
      by_cases hd : 40 < d
      · rw [if_pos hd]; exact gOk_f (by decide)
      rw [if_neg hd]
      refine gOk_b (fun e => ?_)
      obtain ⟨h, c, a1, a2, a3⟩ := ih 1 d i co (by decide) e
      generalize sp_F T m 1 d i co = r at a1 a3 ⊢
      by_cases k3 : T.1 r.2.2.1 = 28
      · rw [if_pos k3]
        refine gOk_b (fun e2 => ?_)
        obtain ⟨h', c', b1, b2, b3⟩ := ih 0 (d + 1) (r.2.2.1 + 1) r.2.2.2.1 (by decide) e2
        generalize sp_F T m 0 (d + 1) (r.2.2.1 + 1) r.2.2.2.1 = r2 at b1 b3 ⊢
        refine fun _ => ⟨max h (1 + h'), c + c', ?_, by omega, fun P hP => hP.2.2.2 56 h c h' c' _ _ (by omega) (a3 P hP) (b3 P hP)⟩
        show co + (c + c') ≤ r2.2.2.2.1
        omega
      · rw [if_neg k3]
        exact fun _ => ⟨h, c, a1, by omega, a3⟩
    · rw [sF1]
      refine gOk_b (fun e => ?_)
      obtain ⟨h, c, a1, a2, a3⟩ := ih 2 d i co (by decide) e
      exact lp 2 27 55 (by decide) (by decide) 4002 _ _ _ c h a1 (by omega) a3
    · rw [sF2]
      refine gOk_b (fun e => ?_)
      obtain ⟨h, c, a1, a2, a3⟩ := ih 3 d i co (by decide) e
      exact lp 3 26 54 (by decide) (by decide) 4002 _ _ _ c h a1 (by omega) a3
    · rw [sF3]
      unfold sp_single
      by_cases hd : 40 < d
      · rw [if_pos hd]; exact gOk_f (by decide)
      rw [if_neg hd]
      have al : ∀ o, (o = 53 ∨ (37 ≤ o ∧ o ≤ 42)) → gOk T d 3 co (sp_alt (sp_F T m) o d i co) := by
        intro o ho
        unfold sp_alt
        refine gOk_b (fun e2 => ?_)
        obtain ⟨h', c', b1, b2, b3⟩ := ih 3 (d + 1) (i + 1) co (by decide) e2
        exact fun _ => ⟨max h' 2, c', b1, by omega, fun P hP => hP.2.2.1 o h' c' _ ho (b3 P hP)⟩
      by_cases k19 : T.1 i = 19
      · rw [if_pos k19]; exact al 53 (by decide)
      rw [if_neg k19]
      by_cases k37 : 37 ≤ T.1 i ∧ T.1 i ≤ 42
      · rw [if_pos k37]; exact al _ (Or.inr k37)
      rw [if_neg k37]
      by_cases k34 : T.1 i = 34 ∨ T.1 i = 35
      · rw [if_pos k34]
        unfold sp_until
        refine gOk_ex (fun _ => gOk_b (fun e => ?_))
        obtain ⟨h, c, a1, a2, a3⟩ := ih 0 (d + 1) (i + 1 + 1) co (by decide) e
        generalize sp_F T m 0 (d + 1) (i + 1 + 1) co = r at a1 a3 ⊢
        refine gOk_ex (fun _ => gOk_b (fun e2 => ?_))
        obtain ⟨h', c', b1, b2, b3⟩ := ih 0 (d + 1) (r.2.2.1 + 1) r.2.2.2.1 (by decide) e2
        generalize sp_F T m 0 (d + 1) (r.2.2.1 + 1) r.2.2.2.1 = r2 at b1 b3 ⊢
        refine gOk_ex (fun _ => fun _ => ⟨max h (1 + h'), c + c', ?_, by omega, fun P hP => hP.2.2.2 _ h c h' c' _ _ (by omega) (a3 P hP) (b3 P hP)⟩)
        show co + (c + c') ≤ r2.2.2.2.1
        omega
      rw [if_neg k34]
      by_cases k4 : T.1 i = 4
      · rw [if_pos k4]
        unfold sp_paren
        refine gOk_b (fun e => ?_)
        obtain ⟨h, c, a1, a2, a3⟩ := ih 0 (d + 1) (i + 1) co (by decide) e
        exact gOk_ex (fun _ => fun _ => ⟨h, c, a1, by omega, a3⟩)
      rw [if_neg k4]
      by_cases k8 : T.1 i = 8
      · rw [if_pos k8]
        unfold sp_test
        refine gOk_pay (fun _ => gOk_b (fun e => ?_))
        obtain ⟨c, q, a1, a2, a3⟩ := sp_EC T 600 0 0 (d + 1) (i + 1) (co + 8) e
        generalize sp_E T 600 0 0 (d + 1) (i + 1) (co + 8) = r at a1 a3 ⊢
        refine gOk_ex (fun _ => fun _ => ⟨1, c, ?_, by omega, fun P hP => hP.1 c q _ a3 (by omega)⟩)
        show co + c ≤ r.2.2.2.1
        omega
      rw [if_neg k8]
      by_cases k43 : T.1 i = 43
      · rw [if_pos k43]
        unfold sp_fspec
        cases hk : T.2.2.1 i with
        | none => exact gOk_f (by decide)
        | some k =>
          dsimp only
          by_cases k33 : T.2.2.2.1 k = 33
          · rw [if_pos k33]
            exact fun _ => ⟨1, 0, Nat.le_refl _, by omega, fun P hP => hP.2.1 k i hk k33⟩
          · rw [if_neg k33]; exact gOk_f (by decide)
      rw [if_neg k43]
      exact gOk_no
/-- formulas, without costs -/
def Gcl (okE okS : Nat → Prop) (P : Nat → Cd → Prop) : Prop :=
  (∀ h C, XC okE h C → h ≤ 140 → P 1 (C ++ [(51, 0)])) ∧ (∀ k, okS k → P 1 [(52, k)]) ∧
  (∀ o h C, (o = 53 ∨ (37 ≤ o ∧ o ≤ 42)) → P h C → P (max h 2) (C ++ [(o, 0)])) ∧
  (∀ o h h' C D, (o = 54 ∨ o = 55 ∨ o = 56 ∨ o = 34 ∨ o = 35) → P h C → P h' D → P (max h (1 + h')) (C ++ (D ++ [(o, 0)])))
def GC (okE okS : Nat → Prop) (h : Nat) (C : Cd) : Prop := ∀ P, Gcl okE okS P → P h C
theorem KC_G {T : TT} {h c : Nat} {C : Cd} {okE okS : Nat → Prop} (x : KC T h c C) (hc : c ≤ 3000) (hE : ∀ k i, T.2.2.1 i = some k → T.2.2.2.1 k ≠ 33 → okE k) (hS : ∀ k i, T.2.2.1 i = some k → T.2.2.2.1 k = 33 → okS (T.2.2.2.2 k)) : GC okE okS h C := by
  refine x (fun h c C => c ≤ 3000 → GC okE okS h C) ⟨?_, ?_, ?_, ?_⟩ hc
  · intro c q C hx hq hc
    obtain ⟨h, a1, a2⟩ := EC_X' hx hc hq hE
    exact fun P hP => hP.1 h C a2 a1
  · intro k i h1 h2 _
    exact fun P hP => hP.2.1 _ (hS k i h1 h2)
  · intro o h c C ho hx hc
    exact fun P hP => hP.2.2.1 o h C ho (hx hc P hP)
  · intro o h c h' c' C D ho hx hy hc
    exact fun P hP => hP.2.2.2 o h h' C D ho (hx (by omega) P hP) (hy (by omega) P hP)
theorem GC_m {okE okE' okS okS' : Nat → Prop} {h : Nat} {C : Cd} (hE : ∀ k, okE k → okE' k) (hS : ∀ k, okS k → okS' k) (x : GC okE okS h C) : GC okE' okS' h C := fun P hP => x P ⟨fun h C hx => hP.1 h C (XC_m hE hx), fun k hk => hP.2.1 k (hS k hk), hP.2.2⟩
