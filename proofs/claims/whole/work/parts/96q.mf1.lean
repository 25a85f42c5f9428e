/-! MODEL'S FORMULAS 1: the table of formulas -/
/-- how, one, two, and of { } the code within -/
abbrev FT := List (Nat × Nat × Nat × Cd)
def op1 : List (Nat × Nat) := [(0, 53), (4, 38), (5, 37), (8, 40), (9, 39), (10, 42), (11, 41)]
def op2 : List (Nat × Nat) := [(1, 54), (2, 55), (3, 56), (6, 35), (7, 34)]
/-- P holds of what the table says -/
def Fcl (F : FT) (P : Nat → Cd → Prop) : Prop :=
  (∀ (g e : Nat) (C : Cd), F[g]? = some (12, e, 0, C) → P g (C ++ [(51, 0)])) ∧
  (∀ (g k : Nat), F[g]? = some (13, k, 0, []) → P g [(52, k)]) ∧
  (∀ (g h o a : Nat) (Ca : Cd), F[g]? = some (h, a, 0, []) → (h, o) ∈ op1 → a < g → P a Ca → P g (Ca ++ [(o, 0)])) ∧
  (∀ (g h o a c : Nat) (Ca Cc : Cd), F[g]? = some (h, a, c, []) → (h, o) ∈ op2 → a < g → c < g → P a Ca → P c Cc → P g (Ca ++ (Cc ++ [(o, 0)])))
/-- formula f of the table has code C -/
def Fw (F : FT) (f : Nat) (C : Cd) : Prop := f < F.length ∧ ∀ P, Fcl F P → P f C
theorem gE_a {F G : FT} {g : Nat} {x : Nat × Nat × Nat × Cd} (h : F[g]? = some x) : (F ++ G)[g]? = some x := by
  have hl : g < F.length := by
    rcases Nat.lt_or_ge g F.length with q | q
    · exact q
    · rw [List.getElem?_eq_none q] at h; cases h
  rw [List.getElem?_append, if_pos hl]; exact h
theorem gE_l {F : FT} {x : Nat × Nat × Nat × Cd} : (F ++ [x])[F.length]? = some x := by
  rw [List.getElem?_append, if_neg (Nat.lt_irrefl _), Nat.sub_self]; rfl
theorem Fcl_a {F G : FT} {P : Nat → Cd → Prop} (h : Fcl (F ++ G) P) : Fcl F P := ⟨fun g e C q => h.1 g e C (gE_a q), fun g k q => h.2.1 g k (gE_a q), fun g i o a Ca q => h.2.2.1 g i o a Ca (gE_a q), fun g i o a c Ca Cc q => h.2.2.2 g i o a c Ca Cc (gE_a q)⟩
theorem Fw_a {F : FT} {f : Nat} {C : Cd} (G : FT) (h : Fw F f C) : Fw (F ++ G) f C := ⟨by rw [List.length_append]; have := h.1; omega, fun P hP => h.2 P (Fcl_a hP)⟩
theorem Fw_12 {F : FT} (e : Nat) (C : Cd) : Fw (F ++ [(12, e, 0, C)]) F.length (C ++ [(51, 0)]) := ⟨by rw [List.length_append]; exact Nat.lt_succ_self _, fun P hP => hP.1 _ e C gE_l⟩
theorem Fw_13 {F : FT} (k : Nat) : Fw (F ++ [(13, k, 0, [])]) F.length [(52, k)] := ⟨by rw [List.length_append]; exact Nat.lt_succ_self _, fun P hP => hP.2.1 _ k gE_l⟩
theorem Fw_1 {F : FT} {h o a : Nat} {Ca : Cd} (ho : (h, o) ∈ op1) (ha : Fw F a Ca) : Fw (F ++ [(h, a, 0, [])]) F.length (Ca ++ [(o, 0)]) := ⟨by rw [List.length_append]; exact Nat.lt_succ_self _, fun P hP => hP.2.2.1 _ h o a Ca gE_l ho ha.1 (ha.2 P (Fcl_a hP))⟩
theorem Fw_2 {F : FT} {h o a c : Nat} {Ca Cc : Cd} (ho : (h, o) ∈ op2) (ha : Fw F a Ca) (hc : Fw F c Cc) : Fw (F ++ [(h, a, c, [])]) F.length (Ca ++ (Cc ++ [(o, 0)])) := ⟨by rw [List.length_append]; exact Nat.lt_succ_self _, fun P hP => hP.2.2.2 _ h o a c Ca Cc gE_l ho ha.1 hc.1 (ha.2 P (Fcl_a hP)) (hc.2 P (Fcl_a hP))⟩
def cnt (kd : Nat) : NmT → Nat
  | [] => 0
  | x :: l => (if x.2.1 = kd then 1 else 0) + cnt kd l
theorem cnt_app (kd : Nat) (x : Nat × Nat × Nat × Nat) : ∀ l : NmT, cnt kd (l ++ [x]) = cnt kd l + (if x.2.1 = kd then 1 else 0)
  | [] => by rw [List.nil_append, cnt, cnt, cnt]; omega
  | y :: l => by rw [List.cons_append, cnt, cnt, cnt_app kd x l]; omega
theorem gE_n {Nm : NmT} {y : Nat × Nat × Nat × Nat} {k : Nat} {x : Nat × Nat × Nat × Nat} (hx : (Nm ++ [y])[k]? = some x) : (k < Nm.length ∧ Nm[k]? = some x) ∨ (k = Nm.length ∧ x = y) := by
  rw [List.getElem?_append] at hx
  by_cases c : k < Nm.length
  · rw [if_pos c] at hx; exact Or.inl ⟨c, hx⟩
  · rw [if_neg c] at hx
    rcases Nat.eq_zero_or_pos (k - Nm.length) with h0 | h0
    · rw [h0] at hx
      simp only [List.getElem?_cons_zero, Option.some.injEq] at hx
      exact Or.inr ⟨by omega, hx.symm⟩
    · rw [List.getElem?_eq_none (by simp only [List.length_cons, List.length_nil]; omega)] at hx; cases hx
/-- a formula of the table is made of earlier ones -/
def mV (NL : NmT) (M : Mm) (g : Nat) (x : Nat × Nat × Nat × Cd) : Prop := (x.1 = 12 ∧ (∃ (T : TT) (c q : Nat), EC T c q x.2.2.2) ∧ ∀ k, (43, k) ∈ x.2.2.2 → ∃ y, NL[k]? = some y ∧ y.2.1 ≠ 33 ∧ y.2.1 ≠ 0) ∨ (x.1 = 13 ∧ x.2.1 < cnt 33 NL ∧ ∃ f, M 51 x.2.1 = nI f ∧ f < g) ∨ (x.2.1 < g ∧ ∃ o, (x.1, o) ∈ op1) ∨ (x.2.1 < g ∧ x.2.2.1 < g ∧ ∃ o, (x.1, o) ∈ op2)
def mU (NL : NmT) (F : FT) (M : Mm) : Prop := (∀ (k : Nat) (x : Nat × Nat × Nat × Nat), NL[k]? = some x → x.2.1 = 33 → x.2.2.2 < cnt 33 NL) ∧ (∀ (g : Nat) (x : Nat × Nat × Nat × Cd), F[g]? = some x → mV NL M g x) ∧ ∀ q, q < cnt 33 NL → ∃ f, M 51 q = nI f ∧ f < F.length
theorem mU_c {NL : NmT} {F : FT} {M M' : Mm} (h : mU NL F M) (e : M' 51 = M 51) : mU NL F M' := by
  unfold mU mV at h ⊢
  rw [e]
  exact h
theorem mU_a {NL : NmT} {F : FT} {M : Mm} {y : Nat × Nat × Nat × Cd} (h : mU NL F M) (hv : mV NL M F.length y) : mU NL (F ++ [y]) M := by
  refine ⟨h.1, fun g x hx => ?_, fun q hq => ?_⟩
  · rw [List.getElem?_append] at hx
    by_cases c : g < F.length
    · rw [if_pos c] at hx; exact h.2.1 g x hx
    · rw [if_neg c] at hx
      rcases Nat.eq_zero_or_pos (g - F.length) with h0 | h0
      · rw [h0] at hx
        simp only [List.getElem?_cons_zero, Option.some.injEq] at hx
        rw [show g = F.length by omega, ← hx]
        exact hv
      · rw [List.getElem?_eq_none (by simp only [List.length_cons, List.length_nil]; omega)] at hx; cases hx
  · obtain ⟨f, h1, h2⟩ := h.2.2 q hq
    exact ⟨f, h1, by rw [List.length_append]; omega⟩
/-- a name whose kind is none of a spec's -/
theorem mU_n {Nm : NmT} {F : FT} {M M' : Mm} {y : Nat × Nat × Nat × Nat} (h : mU Nm F M) (hy : y.2.1 ≠ 33) (e : M' 51 = M 51) : mU (Nm ++ [y]) F M' := by
  have hc : cnt 33 (Nm ++ [y]) = cnt 33 Nm := by rw [cnt_app, if_neg hy, Nat.add_zero]
  refine mU_c (M := M) ?_ e
  unfold mU
  rw [hc]
  refine ⟨fun k x hx h3 => ?_, fun g x hx => ?_, h.2.2⟩
  · rcases gE_n hx with ⟨_, hz⟩ | ⟨_, hz⟩
    · exact h.1 k x hz h3
    · rw [hz] at h3; exact absurd h3 hy
  · rcases h.2.1 g x hx with ⟨h1, hc12, h2⟩ | h1 | h1 | h1
    · refine Or.inl ⟨h1, hc12, fun k hk => ?_⟩
      obtain ⟨z, z1, z2⟩ := h2 k hk
      exact ⟨z, by rw [List.getElem?_append, if_pos (by obtain ⟨q, _⟩ := List.getElem?_eq_some_iff.mp z1; exact q)]; exact z1, z2⟩
    · exact Or.inr (Or.inl (by rw [hc]; exact h1))
    · exact Or.inr (Or.inr (Or.inl h1))
    · exact Or.inr (Or.inr (Or.inr h1))
theorem mU_b {Nm : NmT} {F : FT} {M : Mm} {y : Nat × Nat × Nat × Nat} (h : mU (Nm ++ [y]) F M) (hy : y.2.1 = 0) : mU Nm F M := by
  have hc : cnt 33 (Nm ++ [y]) = cnt 33 Nm := by rw [cnt_app, if_neg (by rw [hy]; decide), Nat.add_zero]
  unfold mU at h
  rw [hc] at h
  refine ⟨fun k x hx h3 => h.1 k x (by rw [List.getElem?_append, if_pos (by obtain ⟨q, _⟩ := List.getElem?_eq_some_iff.mp hx; exact q)]; exact hx) h3, fun g x hx => ?_, h.2.2⟩
  rcases h.2.1 g x hx with ⟨h1, hc12, h2⟩ | h1 | h1 | h1
  · refine Or.inl ⟨h1, hc12, fun k hk => ?_⟩
    obtain ⟨z, z1, z2⟩ := h2 k hk
    rcases gE_n z1 with ⟨_, hz⟩ | ⟨_, hz⟩
    · exact ⟨z, hz, z2⟩
    · rw [hz] at z2; exact absurd hy z2.2
  · rw [hc] at h1; exact Or.inr (Or.inl h1)
  · exact Or.inr (Or.inr (Or.inl h1))
  · exact Or.inr (Or.inr (Or.inr h1))
theorem mU_k {Nm : NmT} {F : FT} {M M' : Mm} {y z : Nat × Nat × Nat × Nat} (h : mU (Nm ++ [y]) F M) (hy : y.2.1 = 0) (hz : z.2.1 ≠ 33) (e : M' 51 = M 51) : mU (Nm ++ [z]) F M' := mU_n (mU_b h hy) hz e
theorem mU_s {Nm : NmT} {F : FT} {M M' : Mm} {y z : Nat × Nat × Nat × Nat} {f : Nat} (h : mU (Nm ++ [y]) F M) (hy : y.2.1 = 0) (hz : z.2.1 = 33) (hp : z.2.2.2 = cnt 33 Nm) (e : M' 51 (cnt 33 Nm) = nI f) (hf : f < F.length) (e' : ∀ q, q ≠ cnt 33 Nm → M' 51 q = M 51 q) : mU (Nm ++ [z]) F M' := by
  have h' := mU_b h hy
  have hc : cnt 33 (Nm ++ [z]) = cnt 33 Nm + 1 := by rw [cnt_app, if_pos hz]
  unfold mU
  rw [hc]
  refine ⟨fun k x hx h3 => ?_, fun g x hx => ?_, fun q hq => ?_⟩
  · rcases gE_n hx with ⟨_, hw⟩ | ⟨_, hw⟩
    · have := h'.1 k x hw h3; omega
    · rw [hw, hp]; exact Nat.lt_succ_self _
  · rcases h'.2.1 g x hx with ⟨h1, hc12, h2⟩ | ⟨h1, h2, f', h3, h4⟩ | h1 | h1
    · refine Or.inl ⟨h1, hc12, fun k hk => ?_⟩
      obtain ⟨w, z1, z2⟩ := h2 k hk
      exact ⟨w, by rw [List.getElem?_append, if_pos (by obtain ⟨q, _⟩ := List.getElem?_eq_some_iff.mp z1; exact q)]; exact z1, z2⟩
    · exact Or.inr (Or.inl ⟨h1, by rw [hc]; omega, f', by rw [e' _ (by omega)]; exact h3, h4⟩)
    · exact Or.inr (Or.inr (Or.inl h1))
    · exact Or.inr (Or.inr (Or.inr h1))
  · by_cases c : q = cnt 33 Nm
    · exact ⟨f, by rw [c]; exact e, hf⟩
    · obtain ⟨f', h3, h4⟩ := h'.2.2 q (by omega)
      exact ⟨f', by rw [e' _ c]; exact h3, h4⟩
/-- the table lies in the model's memory -/
def tab (M : Mm) (N : Nat) (F : FT) : Prop := ∀ (g : Nat) (x : Nat × Nat × Nat × Cd), F[g]? = some x → M 57 g = nI x.1 ∧ M 58 g = nI x.2.1 ∧ M 59 g = nI x.2.2.1 ∧ (x.1 = 12 → ∃ lo, Ev M 600 lo x.2.1 x.2.2.2 ∧ x.2.1 < N)
/-- the model reads formulas -/
def mT (b : Nat → Nat) (L : Nat) (NL : NmT) (i co N : Nat) (F : FT) (M : Mm) : Prop := mS b L NL i co N M ∧ M 40 38 = nI F.length ∧ (tab M N F ∧ mU NL F M) ∧ ∀ (k : Nat) (x : Nat × Nat × Nat × Nat), NL[k]? = some x → x.2.1 = 33 → M 45 k = nI x.2.2.2
def mG (N n : Nat) (M M' : Mm) : Prop := (∀ a, a ≠ 40 → (a < 52 ∨ 59 < a) → M' a = M a) ∧ (∀ j, (j < 5 ∨ 11 < j) → j ≠ 34 → j ≠ 38 → M' 40 j = M 40 j) ∧ (∀ a k, k < N → 52 ≤ a → a ≤ 56 → M' a k = M a k) ∧ (∀ a k, k < n → 57 ≤ a → a ≤ 59 → M' a k = M a k)
theorem mG_t {N N' n n' : Nat} {M M' M'' : Mm} (h : mG N n M M') (h' : mG N' n' M' M'') (hN : N ≤ N') (hn : n ≤ n') : mG N n M M'' := ⟨fun a h1 h2 => (h'.1 a h1 h2).trans (h.1 a h1 h2), fun j h1 h2 h3 => (h'.2.1 j h1 h2 h3).trans (h.2.1 j h1 h2 h3), fun a k h1 h2 h3 => (h'.2.2.1 a k (by omega) h2 h3).trans (h.2.2.1 a k h1 h2 h3), fun a k h1 h2 h3 => (h'.2.2.2 a k (by omega) h2 h3).trans (h.2.2.2 a k h1 h2 h3)⟩
theorem mG_F {N n : Nat} {M M' : Mm} (h : mF N M M') : mG N n M M' := ⟨fun a h1 h2 => h.1 a h1 (by omega), fun j h1 h2 _ => h.2.1 j h1 h2, h.2.2, fun a k _ h2 h3 => by rw [h.1 a (by omega) (by omega)]⟩
theorem mG_f {N n : Nat} {M M' : Mm} (h : mfr M M') : mG N n M M' := mG_F (mF_f h)
theorem mG_w {N n : Nat} {M M' : Mm} (h : mG N n M M') : mw M M' := fun a ha => h.1 a (by omega) (by omega)
/-- an expression is read, or the standing changes -/
theorem mT_F {b : Nat → Nat} {L : Nat} {NL : NmT} {i j co co' N N' : Nat} {F : FT} {M M' : Mm} (h : mT b L NL i co N F M) (f : mF N M M') (hS : mS b L NL j co' N' M') (hN : N ≤ N') : mT b L NL j co' N' F M' := by
  refine ⟨hS, by rw [f.2.1 38 (by decide) (by decide)]; exact h.2.1, ⟨fun g x hx => ?_, mU_c h.2.2.1.2 (f.1 51 (by decide) (by decide))⟩, fun k x hx h3 => by rw [f.1 45 (by decide) (by decide)]; exact h.2.2.2 k x hx h3⟩
  have t := h.2.2.1.1 g x hx
  refine ⟨by rw [f.1 57 (by decide) (by decide)]; exact t.1, by rw [f.1 58 (by decide) (by decide)]; exact t.2.1, by rw [f.1 59 (by decide) (by decide)]; exact t.2.2.1, fun e => ?_⟩
  obtain ⟨lo, ev, hl⟩ := t.2.2.2 e
  exact ⟨lo, Ev_c ev (mF_ag f hl) (Nat.le_refl _) (Nat.le_refl _), by omega⟩
theorem mT_f {b : Nat → Nat} {L : Nat} {NL : NmT} {i j co N : Nat} {F : FT} {M M' : Mm} (h : mT b L NL i co N F M) (f : mfr M M') (hn : mN b L j M') : mT b L NL j co N F M' := mT_F h (mF_f f) (mS_f h.1 f hn) (Nat.le_refl _)
theorem m_make {b : Nat → Nat} {L : Nat} {NL : NmT} {i co N : Nat} {F : FT} {M : Mm} (h : mT b L NL i co N F M) (hF : F.length < 4200) (y1 y2 y3 : Nat) (C : Cd) (hc : y1 = 12 → ∃ lo, Ev M 600 lo y2 C ∧ y2 < N) (hv : mV NL M F.length (y1, y2, y3, C)) : pMo_make (nI y1) (nI y2) (nI y3) M ∧ ∃ M', fMo_make (nI y1) (nI y2) (nI y3) M = (nI F.length, M') ∧ mT b L NL i co N (F ++ [(y1, y2, y3, C)]) M' ∧ mG N F.length M M' := by
  have v : vp_in (nI F.length) 4200 := vp_in_nI hF (by decide)
  unfold pMo_make fMo_make
  rw [h.2.1, nI_clamp (by omega), nI_1]
  generalize e : pm_u (pm_u (pm_u (pm_u M 57 F.length (nI y1)) 58 F.length (nI y2)) 59 F.length (nI y3)) 40 38 (nI (F.length + 1)) = M'
  have ga : ∀ a, a ≠ 40 → (a < 57 ∨ 59 < a) → M' a = M a := fun a h1 h2 => by rw [← e, pm_u_n _ _ _ h1, pm_u_n _ _ _ (by omega), pm_u_n _ _ _ (by omega), pm_u_n _ _ _ (by omega)]
  have gj : ∀ j, j ≠ 38 → M' 40 j = M 40 j := fun j h1 => by rw [← e, pm_u_j _ _ _ h1, pm_u_n _ _ _ (by decide), pm_u_n _ _ _ (by decide), pm_u_n _ _ _ (by decide)]
  have g38 : M' 40 38 = nI (F.length + 1) := by rw [← e, pm_u_s]
  have g57 : M' 57 F.length = nI y1 := by rw [← e, pm_u_n _ _ _ (by decide), pm_u_n _ _ _ (by decide), pm_u_n _ _ _ (by decide), pm_u_s]
  have g58 : M' 58 F.length = nI y2 := by rw [← e, pm_u_n _ _ _ (by decide), pm_u_n _ _ _ (by decide), pm_u_s]
  have g59 : M' 59 F.length = nI y3 := by rw [← e, pm_u_n _ _ _ (by decide), pm_u_s]
  have gk : ∀ a k, a ≠ 40 → k ≠ F.length → M' a k = M a k := fun a k h1 h2 => by
    have uu : ∀ (X : Mm) (q : Nat) (w : Int32), pm_u X q F.length w a k = X a k := fun X q w => by
      unfold pm_u
      by_cases e : a = q
      · rw [if_pos e]; show (if k = F.length then w else X q k) = X a k; rw [if_neg h2, e]
      · rw [if_neg e]
    rw [← e, pm_u_n _ _ _ h1, uu, uu, uu]
  have ag : ∀ lo e, agN lo e M M' := fun lo e k _ _ => ⟨by rw [ga 52 (by decide) (by decide)], by rw [ga 53 (by decide) (by decide)], by rw [ga 54 (by decide) (by decide)], fun _ => ⟨by rw [ga 55 (by decide) (by decide)], by rw [ga 56 (by decide) (by decide)]⟩⟩
  refine ⟨⟨v, v, v, trivial⟩, M', rfl, ⟨mS_u h.1 (fun j _ _ h2 => gj j (by omega)) (fun a h1 h2 => ga a h1 (by omega)) ?_ ?_, by rw [g38, List.length_append]; rfl, ⟨fun g x hx => ?_, mU_c (mU_a h.2.2.1.2 hv) (ga 51 (by decide) (by decide))⟩, fun k x hx h3 => by rw [ga 45 (by decide) (by decide)]; exact h.2.2.2 k x hx h3⟩, fun a h1 h2 => ga a h1 (by omega), fun j _ _ h3 => gj j h3, fun a k _ h2 h3 => by rw [ga a (by omega) (by omega)], fun a k h1 h2 h3 => gk a k (by omega) (by omega)⟩
  · rw [gj 11 (by decide)]; exact h.1.2.2.1
  · rw [gj 34 (by decide)]; exact h.1.2.2.2.1
  · rw [List.getElem?_append] at hx
    by_cases hg : g < F.length
    · rw [if_pos hg] at hx
      have t := h.2.2.1.1 g x hx
      refine ⟨(gk 57 g (by decide) (by omega)).trans t.1, (gk 58 g (by decide) (by omega)).trans t.2.1, (gk 59 g (by decide) (by omega)).trans t.2.2.1, fun e => ?_⟩
      obtain ⟨lo, ev, hl⟩ := t.2.2.2 e
      exact ⟨lo, Ev_c ev (ag _ _) (Nat.le_refl _) (Nat.le_refl _), hl⟩
    · rw [if_neg hg] at hx
      rcases Nat.eq_zero_or_pos (g - F.length) with h0 | h0
      · have eg : g = F.length := by omega
        rw [h0] at hx
        simp only [List.getElem?_cons_zero, Option.some.injEq] at hx
        subst hx
        subst eg
        refine ⟨g57, g58, g59, fun e => ?_⟩
        obtain ⟨lo, ev, hl⟩ := hc e
        exact ⟨lo, Ev_c ev (ag _ _) (Nat.le_refl _) (Nat.le_refl _), hl⟩
      · rw [List.getElem?_eq_none (by simp only [List.length_cons, List.length_nil]; omega)] at hx; cases hx
/-- what the model's functions on formulas answer -/
def MF (b : Nat → Nat) (L : Nat) (NL : NmT) (i N : Nat) (F : FT) (M : Mm) (r : SR) (q : Int32 × Int32 × Int32 × Mm) : Prop := (r.1 = 0 → q.1 = 0 ∧ ∃ (f N' : Nat) (G : FT), q.2.2.1 = nI f ∧ mT b L NL r.2.2.1 r.2.2.2.1 N' (F ++ G) q.2.2.2 ∧ Fw (F ++ G) f r.2.2.2.2 ∧ N ≤ N' ∧ N' + i ≤ N + r.2.2.1 ∧ G.length + i ≤ r.2.2.1 ∧ mG N F.length M q.2.2.2) ∧ (r.1 ≠ 0 → q.1 = nI r.1 ∧ q.2.1 = nI (tF b L r.2.1) ∧ mw M q.2.2.2 ∧ r.1 < 9)
theorem MF_f {b : Nat → Nat} {L : Nat} {NL : NmT} {i N e w : Nat} {F : FT} {M : Mm} {q : Int32 × Int32 × Int32 × Mm} (he : e ≠ 0 ∧ e < 9) (h1 : q.1 = nI e) (h2 : q.2.1 = nI (tF b L w)) (h3 : mw M q.2.2.2) : MF b L NL i N F M (sp_fail e w) q := ⟨fun h => absurd h he.1, fun _ => ⟨h1, h2, h3, he.2⟩⟩
theorem MF_b {b : Nat → Nat} {L : Nat} {NL : NmT} {i N : Nat} {F : FT} {M : Mm} {r : SR} {q : Int32 × Int32 × Int32 × Mm} (he : r.1 ≠ 0) (h1 : q.1 = nI r.1) (h2 : q.2.1 = nI (tF b L r.2.1)) (h3 : mw M q.2.2.2) (h9 : r.1 < 9) : MF b L NL i N F M r q := ⟨fun h => absurd h he, fun _ => ⟨h1, h2, h3, h9⟩⟩
