/-! LINES: what the names say -/
def cnt (kd : Nat) : NmT → Nat
  | [] => 0
  | x :: l => (if x.2.1 = kd then 1 else 0) + cnt kd l
def bs (kd : Nat) : NmT → Nat
  | [] => 0
  | x :: l => (if x.2.1 = kd then x.2.2.1 else 0) + bs kd l
theorem cnt_app (kd : Nat) (x : Nat × Nat × Nat × Nat) : ∀ l : NmT, cnt kd (l ++ [x]) = cnt kd l + (if x.2.1 = kd then 1 else 0)
  | [] => by rw [List.nil_append, cnt, cnt, cnt]; omega
  | y :: l => by rw [List.cons_append, cnt, cnt, cnt_app kd x l]; omega
theorem bs_app (kd : Nat) (x : Nat × Nat × Nat × Nat) : ∀ l : NmT, bs kd (l ++ [x]) = bs kd l + (if x.2.1 = kd then x.2.2.1 else 0)
  | [] => by rw [List.nil_append, bs, bs, bs]; omega
  | y :: l => by rw [List.cons_append, bs, bs, bs_app kd x l]; omega
theorem tk_app {Nm : NmT} {x : Nat × Nat × Nat × Nat} {k : Nat} (h : k ≤ Nm.length) : (Nm ++ [x]).take k = Nm.take k := by
  rw [List.take_append, Nat.sub_eq_zero_of_le h, List.take_zero, List.append_nil]
theorem tk_all {Nm : NmT} {k : Nat} (h : Nm.length ≤ k) : Nm.take k = Nm := List.take_of_length_le h
theorem gE_n {Nm : NmT} {y : Nat × Nat × Nat × Nat} {k : Nat} {x : Nat × Nat × Nat × Nat} (hx : (Nm ++ [y])[k]? = some x) : (k < Nm.length ∧ Nm[k]? = some x) ∨ (k = Nm.length ∧ x = y) := by
  rw [List.getElem?_append] at hx
  by_cases c : k < Nm.length
  · rw [if_pos c] at hx; exact Or.inl ⟨c, hx⟩
  · rw [if_neg c] at hx
    rcases Nat.eq_zero_or_pos (k - Nm.length) with h0 | h0
    · rw [h0] at hx
      simp only [List.getElem?_cons_zero, Option.some.injEq] at hx
      exact Or.inr ⟨by omega, hx.symm⟩
    · rw [List.getElem?_eq_none (by simp only [List.length_cons, List.length_nil]; omega)] at hx; cases hx
/-- what stands for the k-th name -/
def nW (Nm : NmT) (k : Nat) (x : Nat × Nat × Nat × Nat) : Prop := (x.2.1 = 29 ∧ 1 ≤ x.2.2.1 ∧ x.2.2.2 = bs 29 (Nm.take (k + 1))) ∨ (x.2.1 = 30 ∧ 1 ≤ x.2.2.1 ∧ x.2.2.2 = bs 30 (Nm.take (k + 1))) ∨ (x.2.1 = 31 ∧ x.2.2.1 = 0 ∧ x.2.2.2 = 0) ∨ (x.2.1 = 33 ∧ x.2.2.1 = 0 ∧ x.2.2.2 = cnt 33 (Nm.take k))
def lW (s : LSt) : Prop := match s with
  | (_, co, Nm, _, _, Hn, rb, ib, sp, fi) => Nm.length ≤ 60 ∧ co ≤ 3000 ∧ (∀ (k : Nat) (x : Nat × Nat × Nat × Nat), Nm[k]? = some x → nW Nm k x) ∧ rb = bs 29 Nm ∧ ib = bs 30 Nm ∧ sp = cnt 33 Nm ∧ rb ≤ 8 ∧ ib ≤ 3 ∧ sp ≤ 30 ∧ fi < 2 ^ rb ∧ ∀ k ∈ Hn, ∃ x, Nm[k]? = some x ∧ x.2.1 = 29
theorem nW_app {Nm : NmT} {y : Nat × Nat × Nat × Nat} (h : ∀ (k : Nat) (x : Nat × Nat × Nat × Nat), Nm[k]? = some x → nW Nm k x) (hy : nW (Nm ++ [y]) Nm.length y) : ∀ (k : Nat) (x : Nat × Nat × Nat × Nat), (Nm ++ [y])[k]? = some x → nW (Nm ++ [y]) k x := by
  intro k x hx
  rcases gE_n hx with ⟨c, hx⟩ | ⟨c, rfl⟩
  · have o := h k x hx
    unfold nW at o ⊢
    rw [tk_app (by omega), tk_app (by omega)]
    exact o
  · rw [c]; exact hy
theorem gA_n {Nm : NmT} {y : Nat × Nat × Nat × Nat} {k : Nat} (h : ∃ x, Nm[k]? = some x ∧ x.2.1 = 29) : ∃ x, (Nm ++ [y])[k]? = some x ∧ x.2.1 = 29 := by
  obtain ⟨x, h1, h2⟩ := h
  have hl : k < Nm.length := by
    rcases Nat.lt_or_ge k Nm.length with q | q
    · exact q
    · rw [List.getElem?_eq_none q] at h1; cases h1
  exact ⟨x, by rw [List.getElem?_append, if_pos hl]; exact h1, h2⟩
def lQ (Q : LSt → Prop) (r : LR) : Prop := r.1 = 0 → Q r.2.2
theorem lQ_f {Q : LSt → Prop} {e w : Nat} (h : e ≠ 0) : lQ Q (lf e w) := fun q => absurd q h
theorem lQ_no {Q : LSt → Prop} {B : TB} {i : Nat} : lQ Q (l_no B i) := by
  unfold l_no
  split
  · exact lQ_f (by decide)
  · exact lQ_f (by decide)
theorem lQ_ex {Q : LSt → Prop} {B : TB} {s i : Nat} {k : Nat → LR} (h : lQ Q (k (i + 1))) : lQ Q (l_ex B s i k) := by
  unfold l_ex
  split
  · exact h
  · exact lQ_no
theorem lQ_num {Q : LSt → Prop} {B : TB} {lo hi i : Nat} {k : Nat → Nat → LR} (h : lo ≤ B.2.1 i → B.2.1 i ≤ hi → lQ Q (k (B.2.1 i) (i + 1))) : lQ Q (l_num B lo hi i k) := by
  unfold l_num
  split
  · by_cases c : B.2.1 i < lo
    · rw [if_pos c]; exact lQ_f (by decide)
    rw [if_neg c]
    by_cases d : B.2.1 i ≤ hi
    · rw [if_pos d]; exact h (by omega) d
    · rw [if_neg d]; exact lQ_f (by decide)
  · exact lQ_no
theorem lQ_new {Q : LSt → Prop} {B : TB} {Nm : NmT} {i : Nat} {k : Nat → LR} (h : Nm.length < 60 → lQ Q (k (i + 1))) : lQ Q (l_new B Nm i k) := by
  unfold l_new
  by_cases c : B.1 i = 43
  · rw [if_pos c]
    cases fnd B.2.2 Nm 0 i with
    | some _ => exact lQ_f (by decide)
    | none =>
      dsimp only
      by_cases d : Nm.length < 60
      · rw [if_pos d]; exact h d
      · rw [if_neg d]; exact lQ_f (by decide)
  · rw [if_neg c]; exact lQ_no
theorem lQ_x {Q : LSt → Prop} {r : SR} {k : Nat → Nat → Cd → LR} (h : r.1 = 0 → lQ Q (k r.2.2.1 r.2.2.2.1 r.2.2.2.2)) : lQ Q (l_x r k) := by
  unfold l_x
  by_cases c : r.1 = 0
  · rw [if_pos c]; exact h c
  · rw [if_neg c]; exact lQ_f c
theorem len_app1 {Nm : NmT} {y : Nat × Nat × Nat × Nat} (h : Nm.length < 60) : (Nm ++ [y]).length ≤ 60 := by rw [List.length_append]; exact h
theorem lW_reg {B : TB} {s : LSt} (h : lW s) : lQ lW (sp_reg B s) := by
  obtain ⟨i, co, Nm, CL, CF, Hn, rb, ib, sp, fi⟩ := s
  obtain ⟨h1, h2, h3, h4, h5, h6, h7, h8, h9, h10, h11⟩ := h
  unfold sp_reg
  dsimp only
  refine lQ_new (fun h60 => lQ_ex (lQ_num (fun g1 g2 => lQ_ex (lQ_num (fun g3 g4 => lQ_ex (fun _ => ?_))))))
  generalize B.2.1 _ = bt at g1 g2 g3 g4 ⊢
  generalize B.2.1 _ = v at g3 g4 ⊢
  have e2 : 1 ≤ 2 ^ bt := Nat.one_le_two_pow
  refine ⟨len_app1 h60, h2, nW_app h3 (Or.inl ⟨rfl, g1, ?_⟩), ?_, ?_, ?_, ?_, h8, h9, ?_, fun k hk => gA_n (h11 k hk)⟩
  · rw [tk_all (by rw [List.length_append]; exact Nat.le_refl _), bs_app, if_pos rfl, ← h4]
  · rw [bs_app, if_pos rfl, ← h4]
  · rw [bs_app, if_neg (by show ¬ (29 : Nat) = 30; decide)]; exact h5
  · rw [cnt_app, if_neg (by show ¬ (29 : Nat) = 33; decide)]; exact h6
  · omega
  · rw [Nat.pow_add]
    have : fi * 2 ^ bt + 2 ^ bt ≤ 2 ^ rb * 2 ^ bt := by
      rw [← Nat.succ_mul]; exact Nat.mul_le_mul_right _ h10
    omega
theorem lW_input {B : TB} {s : LSt} (h : lW s) : lQ lW (sp_input B s) := by
  obtain ⟨i, co, Nm, CL, CF, Hn, rb, ib, sp, fi⟩ := s
  obtain ⟨h1, h2, h3, h4, h5, h6, h7, h8, h9, h10, h11⟩ := h
  unfold sp_input
  dsimp only
  refine lQ_new (fun h60 => lQ_ex (lQ_num (fun g1 g2 => lQ_ex (fun _ => ?_))))
  generalize B.2.1 _ = bt at g1 g2 ⊢
  refine ⟨len_app1 h60, h2, nW_app h3 (Or.inr (Or.inl ⟨rfl, g1, ?_⟩)), ?_, ?_, ?_, h7, ?_, h9, h10, fun k hk => gA_n (h11 k hk)⟩
  · rw [tk_all (by rw [List.length_append]; exact Nat.le_refl _), bs_app, if_pos rfl, ← h5]
  · rw [bs_app, if_neg (by show ¬ (30 : Nat) = 29; decide)]; exact h4
  · rw [bs_app, if_pos rfl, ← h5]
  · rw [cnt_app, if_neg (by show ¬ (30 : Nat) = 33; decide)]; exact h6
  · omega
