/-! LINES: what the names say -/
def bs (kd : Nat) : NmT → Nat
  | [] => 0
  | x :: l => (if x.2.1 = kd then x.2.2.1 else 0) + bs kd l
theorem bs_app (kd : Nat) (x : Nat × Nat × Nat × Nat) : ∀ l : NmT, bs kd (l ++ [x]) = bs kd l + (if x.2.1 = kd then x.2.2.1 else 0)
  | [] => by rw [List.nil_append, bs, bs, bs]; omega
  | y :: l => by rw [List.cons_append, bs, bs, bs_app kd x l]; omega
theorem tk_app {Nm : NmT} {x : Nat × Nat × Nat × Nat} {k : Nat} (h : k ≤ Nm.length) : (Nm ++ [x]).take k = Nm.take k := by
  rw [List.take_append, Nat.sub_eq_zero_of_le h, List.take_zero, List.append_nil]
theorem tk_all {Nm : NmT} {k : Nat} (h : Nm.length ≤ k) : Nm.take k = Nm := List.take_of_length_le h
/-- what stands for the k-th name -/
def nW (Nm : NmT) (k : Nat) (x : Nat × Nat × Nat × Nat) : Prop := (x.2.1 = 29 ∧ 1 ≤ x.2.2.1 ∧ x.2.2.2 = bs 29 (Nm.take (k + 1))) ∨ (x.2.1 = 30 ∧ 1 ≤ x.2.2.1 ∧ x.2.2.2 = bs 30 (Nm.take (k + 1))) ∨ (x.2.1 = 31 ∧ x.2.2.1 = 0 ∧ x.2.2.2 = 0) ∨ (x.2.1 = 33 ∧ x.2.2.1 = 0 ∧ x.2.2.2 = cnt 33 (Nm.take k))
def lW (n : Nat) (s : LSt) : Prop := match s with
  | (i, co, Nm, _, _, Hn, rb, ib, sp, fi) => Nm.length ≤ 60 ∧ (i < n ∧ co ≤ 3000) ∧ (∀ (k : Nat) (x : Nat × Nat × Nat × Nat), Nm[k]? = some x → nW Nm k x) ∧ rb = bs 29 Nm ∧ ib = bs 30 Nm ∧ sp = cnt 33 Nm ∧ rb ≤ 8 ∧ ib ≤ 3 ∧ sp ≤ 30 ∧ fi < 2 ^ rb ∧ ∀ k ∈ Hn, ∃ x, Nm[k]? = some x ∧ x.2.1 = 29
theorem nW_app {Nm : NmT} {y : Nat × Nat × Nat × Nat} (h : ∀ (k : Nat) (x : Nat × Nat × Nat × Nat), Nm[k]? = some x → nW Nm k x) (hy : nW (Nm ++ [y]) Nm.length y) : ∀ (k : Nat) (x : Nat × Nat × Nat × Nat), (Nm ++ [y])[k]? = some x → nW (Nm ++ [y]) k x := by
  intro k x hx
  rcases gE_n hx with ⟨c, hx⟩ | ⟨c, rfl⟩
  · have o := h k x hx
    unfold nW at o ⊢
    rw [tk_app (by omega), tk_app (by omega)]
    exact o
  · rw [c]; exact hy
theorem gA_n {Nm : NmT} {y : Nat × Nat × Nat × Nat} {k : Nat} (h : ∃ x, Nm[k]? = some x ∧ x.2.1 = 29) : ∃ x, (Nm ++ [y])[k]? = some x ∧ x.2.1 = 29 := by
  obtain ⟨x, h1, h2⟩ := h
  have hl : k < Nm.length := by
    rcases Nat.lt_or_ge k Nm.length with q | q
    · exact q
    · rw [List.getElem?_eq_none q] at h1; cases h1
  exact ⟨x, by rw [List.getElem?_append, if_pos hl]; exact h1, h2⟩
/-- a line's end: the state, or a token of the fault that is there; a good line goes on from i -/
def lQ (n i : Nat) (Q : LSt → Prop) (r : LR) : Prop := (r.1 = 0 → Q r.2.2 ∧ i < r.2.2.1) ∧ (r.1 ≠ 0 → r.2.1 < n)
theorem lQ_f {n i : Nat} {Q : LSt → Prop} {e w : Nat} (h : e ≠ 0) (hw : w < n) : lQ n i Q (lf e w) := ⟨fun q => absurd q h, fun _ => hw⟩
theorem lQ_s {n i : Nat} {Q : LSt → Prop} {s : LSt} (h : Q s) (hi : i < s.1) : lQ n i Q (0, 0, s) := ⟨fun _ => ⟨h, hi⟩, fun q => absurd rfl q⟩
theorem lQ_no {n i : Nat} {Q : LSt → Prop} {B : TB} {j : Nat} (hj : j < n) : lQ n i Q (l_no B j) := by
  unfold l_no
  split
  · exact lQ_f (by decide) hj
  · exact lQ_f (by decide) hj
section
variable {B : TB} {n i : Nat} {Q : LSt → Prop}
theorem lQ_ex (hT : bE B n) {s j : Nat} {k : Nat → LR} (hs : s < 45) (hj : j < n) (h : j + 1 < n → lQ n i Q (k (j + 1))) : lQ n i Q (l_ex B s j k) := by
  unfold l_ex
  by_cases c : B.1 j = s
  · rw [if_pos c]; exact h (tEnd_s (bE_T hT []) hj (show B.1 j < 45 by omega))
  · rw [if_neg c]; exact lQ_no hj
theorem lQ_num (hT : bE B n) {lo hi j : Nat} {k : Nat → Nat → LR} (hj : j < n) (h : j + 1 < n → lo ≤ B.2.1 j → B.2.1 j ≤ hi → lQ n i Q (k (B.2.1 j) (j + 1))) : lQ n i Q (l_num B lo hi j k) := by
  unfold l_num
  by_cases c44 : B.1 j = 44
  · rw [if_pos c44]
    by_cases c : B.2.1 j < lo
    · rw [if_pos c]; exact lQ_f (by decide) hj
    rw [if_neg c]
    by_cases d : B.2.1 j ≤ hi
    · rw [if_pos d]; exact h (tEnd_s (bE_T hT []) hj (show B.1 j < 45 by omega)) (by omega) d
    · rw [if_neg d]; exact lQ_f (by decide) hj
  · rw [if_neg c44]; exact lQ_no hj
theorem lQ_new (hT : bE B n) {Nm : NmT} {j : Nat} {k : Nat → LR} (hj : j < n) (h : j + 1 < n → Nm.length < 60 → lQ n i Q (k (j + 1))) : lQ n i Q (l_new B Nm j k) := by
  unfold l_new
  by_cases c : B.1 j = 43
  · rw [if_pos c]
    cases fnd B.2.2 Nm 0 j with
    | some _ => exact lQ_f (by decide) hj
    | none =>
      dsimp only
      by_cases d : Nm.length < 60
      · rw [if_pos d]; exact h (tEnd_s (bE_T hT []) hj (show B.1 j < 45 by omega)) d
      · rw [if_neg d]; exact lQ_f (by decide) hj
  · rw [if_neg c]; exact lQ_no hj
theorem lQ_x {r : SR} {k : Nat → Nat → Cd → LR} (hr : sFn n r) (h : r.1 = 0 → lQ n i Q (k r.2.2.1 r.2.2.2.1 r.2.2.2.2)) : lQ n i Q (l_x r k) := by
  unfold l_x
  by_cases c : r.1 = 0
  · rw [if_pos c]; exact h c
  · rw [if_neg c]; exact lQ_f c (hr c)
end
theorem len_app1 {Nm : NmT} {y : Nat × Nat × Nat × Nat} (h : Nm.length < 60) : (Nm ++ [y]).length ≤ 60 := by rw [List.length_append]; exact h
section
variable {B : TB} {n : Nat}
theorem lW_reg (hT : bE B n) {s : LSt} (h : lW n s) (hk : B.1 s.1 < 45) : lQ n s.1 (lW n) (sp_reg B s) := by
  obtain ⟨i, co, Nm, CL, CF, Hn, rb, ib, sp, fi⟩ := s
  obtain ⟨h1, h2, h3, h4, h5, h6, h7, h8, h9, h10, h11⟩ := h
  unfold sp_reg
  dsimp only at hk ⊢
  refine lQ_new hT (tEnd_s (bE_T hT []) h2.1 hk) (fun i1 h60 => lQ_ex hT (by decide) i1 (fun i2 => lQ_num hT i2 (fun i3 g1 g2 => lQ_ex hT (by decide) i3 (fun i4 => lQ_num hT i4 (fun i5 g3 g4 => lQ_ex hT (by decide) i5 (fun i6 => lQ_s ?_ (by show i < i + 1 + 1 + 1 + 1 + 1 + 1 + 1; omega)))))))
  generalize B.2.1 (i + 1 + 1 + 1) = bt at g1 g2 g3 g4 ⊢
  generalize B.2.1 _ = v at g3 g4 ⊢
  have e2 : 1 ≤ 2 ^ bt := Nat.one_le_two_pow
  refine ⟨len_app1 h60, ⟨i6, h2.2⟩, nW_app h3 (Or.inl ⟨rfl, g1, ?_⟩), ?_, ?_, ?_, ?_, h8, h9, ?_, fun k hk => gA_n (h11 k hk)⟩
  · rw [tk_all (by rw [List.length_append]; exact Nat.le_refl _), bs_app, if_pos rfl, ← h4]
  · rw [bs_app, if_pos rfl, ← h4]
  · rw [bs_app, if_neg (by show ¬ (29 : Nat) = 30; decide)]; exact h5
  · rw [cnt_app, if_neg (by show ¬ (29 : Nat) = 33; decide)]; exact h6
  · omega
  · rw [Nat.pow_add]
    have : fi * 2 ^ bt + 2 ^ bt ≤ 2 ^ rb * 2 ^ bt := by
      rw [← Nat.succ_mul]; exact Nat.mul_le_mul_right _ h10
    omega
theorem lW_input (hT : bE B n) {s : LSt} (h : lW n s) (hk : B.1 s.1 < 45) : lQ n s.1 (lW n) (sp_input B s) := by
  obtain ⟨i, co, Nm, CL, CF, Hn, rb, ib, sp, fi⟩ := s
  obtain ⟨h1, h2, h3, h4, h5, h6, h7, h8, h9, h10, h11⟩ := h
  unfold sp_input
  dsimp only at hk ⊢
  refine lQ_new hT (tEnd_s (bE_T hT []) h2.1 hk) (fun i1 h60 => lQ_ex hT (by decide) i1 (fun i2 => lQ_num hT i2 (fun i3 g1 g2 => lQ_ex hT (by decide) i3 (fun i4 => lQ_s ?_ (by show i < i + 1 + 1 + 1 + 1 + 1; omega)))))
  generalize B.2.1 _ = bt at g1 g2 ⊢
  refine ⟨len_app1 h60, ⟨i4, h2.2⟩, nW_app h3 (Or.inr (Or.inl ⟨rfl, g1, ?_⟩)), ?_, ?_, ?_, h7, ?_, h9, h10, fun k hk => gA_n (h11 k hk)⟩
  · rw [tk_all (by rw [List.length_append]; exact Nat.le_refl _), bs_app, if_pos rfl, ← h5]
  · rw [bs_app, if_neg (by show ¬ (30 : Nat) = 29; decide)]; exact h4
  · rw [bs_app, if_pos rfl, ← h5]
  · rw [cnt_app, if_neg (by show ¬ (30 : Nat) = 33; decide)]; exact h6
  · omega
theorem lW_wire (hT : bE B n) {s : LSt} (h : lW n s) (hk : B.1 s.1 < 45) : lQ n s.1 (lW n) (sp_wire B s) := by
  obtain ⟨i, co, Nm, CL, CF, Hn, rb, ib, sp, fi⟩ := s
  obtain ⟨h1, h2, h3, h4, h5, h6, h7, h8, h9, h10, h11⟩ := h
  unfold sp_wire
  dsimp only at hk ⊢
  refine lQ_new hT (tEnd_s (bE_T hT []) h2.1 hk) (fun i1 h60 => lQ_ex hT (by decide) i1 (fun i2 => lQ_x (sp_wE (bE_T hT Nm) _ _ _ _ _ _ i2 h2.2) (fun e => ?_)))
  have q := sp_len (bE_T hT Nm) 600 0 0 0 _ co i2 h2.2 e
  generalize sp_E (tT B Nm) 600 0 0 0 (i + 1 + 1 + 1) co = r at q ⊢
  refine lQ_ex hT (by decide) q.2.2.1 (fun i3 => lQ_s ?_ (by show i < r.2.2.1 + 1; omega))
  refine ⟨len_app1 h60, ⟨i3, q.2.2.2.2.1⟩, nW_app h3 (Or.inr (Or.inr (Or.inl ⟨rfl, rfl, rfl⟩))), ?_, ?_, ?_, h7, h8, h9, h10, fun k hk => gA_n (h11 k hk)⟩
  · rw [bs_app, if_neg (by show ¬ (31 : Nat) = 29; decide)]; exact h4
  · rw [bs_app, if_neg (by show ¬ (31 : Nat) = 30; decide)]; exact h5
  · rw [cnt_app, if_neg (by show ¬ (31 : Nat) = 33; decide)]; exact h6
theorem lW_next (hT : bE B n) {s : LSt} (h : lW n s) (hk : B.1 s.1 < 45) : lQ n s.1 (lW n) (sp_next B s) := by
  obtain ⟨i, co, Nm, CL, CF, Hn, rb, ib, sp, fi⟩ := s
  obtain ⟨h1, h2, h3, h4, h5, h6, h7, h8, h9, h10, h11⟩ := h
  unfold sp_next
  dsimp only at hk ⊢
  have i1 := tEnd_s (bE_T hT []) h2.1 hk
  by_cases hp : co + 8 ≤ 3000
  rotate_left
  · rw [if_neg hp]; exact lQ_f (by decide) h2.1
  rw [if_pos hp]
  by_cases k43 : B.1 (i + 1) = 43
  rotate_left
  · rw [if_neg k43]; exact lQ_no i1
  rw [if_pos k43]
  have i2 := tEnd_s (bE_T hT []) i1 (show B.1 (i + 1) < 45 by omega)
  cases ho : fnd B.2.2 Nm 0 (i + 1) with
  | none => exact lQ_f (by decide) i1
  | some k =>
    dsimp only
    have kl := fnd_lt Nm 0 (i + 1) k ho
    obtain ⟨y, hy⟩ : ∃ y, Nm[k]? = some y := ⟨_, List.getElem?_eq_getElem (by omega)⟩
    by_cases c29 : (Nm.getD k (0, 0, 0, 0)).2.1 = 29
    rotate_left
    · rw [if_neg c29]; exact lQ_f (by decide) i1
    rw [if_pos c29]
    by_cases cm : k ∈ Hn
    · rw [if_pos cm]; exact lQ_f (by decide) i1
    rw [if_neg cm]
    rw [getD_some hy] at c29
    refine lQ_ex hT (by decide) i2 (fun i3 => lQ_x (sp_wE (bE_T hT Nm) _ _ _ _ _ _ i3 hp) (fun e => ?_))
    have q := sp_len (bE_T hT Nm) 600 0 0 0 _ (co + 8) i3 hp e
    generalize sp_E (tT B Nm) 600 0 0 0 (i + 1 + 1 + 1) (co + 8) = r at q ⊢
    refine lQ_ex hT (by decide) q.2.2.1 (fun i4 => lQ_s ?_ (by show i < r.2.2.1 + 1; omega))
    refine ⟨h1, ⟨i4, q.2.2.2.2.1⟩, h3, h4, h5, h6, h7, h8, h9, h10, fun j hj => ?_⟩
    rcases List.mem_cons.mp hj with rfl | hj
    · exact ⟨y, hy, c29⟩
    · exact h11 j hj
theorem lW_spec (hT : bE B n) {s : LSt} (h : lW n s) (hk : B.1 s.1 < 45) : lQ n s.1 (lW n) (sp_spec B s) := by
  obtain ⟨i, co, Nm, CL, CF, Hn, rb, ib, sp, fi⟩ := s
  obtain ⟨h1, h2, h3, h4, h5, h6, h7, h8, h9, h10, h11⟩ := h
  unfold sp_spec
  dsimp only at hk ⊢
  by_cases h30 : sp < 30
  rotate_left
  · rw [if_neg h30]; exact lQ_f (by decide) h2.1
  rw [if_pos h30]
  refine lQ_new hT (tEnd_s (bE_T hT []) h2.1 hk) (fun i1 h60 => lQ_ex hT (by decide) i1 (fun i2 => lQ_x (sp_wF (bE_T hT Nm) _ _ _ _ _ i2 h2.2) (fun e => ?_)))
  have q := sp_lenF (bE_T hT Nm) 260 0 0 _ co i2 h2.2 e
  generalize sp_F (tT B Nm) 260 0 0 (i + 1 + 1 + 1) co = r at q ⊢
  refine lQ_ex hT (by decide) q.2.2.1 (fun i3 => lQ_s ?_ (by show i < r.2.2.1 + 1; omega))
  refine ⟨len_app1 h60, ⟨i3, q.2.2.2.2.1⟩, nW_app h3 (Or.inr (Or.inr (Or.inr ⟨rfl, rfl, ?_⟩))), ?_, ?_, ?_, h7, h8, by omega, h10, fun k hk => gA_n (h11 k hk)⟩
  · rw [tk_app (Nat.le_refl _), tk_all (Nat.le_refl _)]; exact h6
  · rw [bs_app, if_neg (by show ¬ (33 : Nat) = 29; decide)]; exact h4
  · rw [bs_app, if_neg (by show ¬ (33 : Nat) = 30; decide)]; exact h5
  · rw [cnt_app, if_pos rfl, ← h6]
theorem lW_line (hT : bE B n) {s : LSt} (h : lW n s) : lQ n s.1 (lW n) (sp_line B s) := by
  have hi : s.1 < n := by obtain ⟨i, co, Nm, CL, CF, Hn, rb, ib, sp, fi⟩ := s; exact h.2.1.1
  unfold sp_line
  by_cases c29 : B.1 s.1 = 29
  · rw [if_pos c29]; exact lW_reg hT h (by omega)
  rw [if_neg c29]
  by_cases c30 : B.1 s.1 = 30
  · rw [if_pos c30]; exact lW_input hT h (by omega)
  rw [if_neg c30]
  by_cases c31 : B.1 s.1 = 31
  · rw [if_pos c31]; exact lW_wire hT h (by omega)
  rw [if_neg c31]
  by_cases c32 : B.1 s.1 = 32
  · rw [if_pos c32]; exact lW_next hT h (by omega)
  rw [if_neg c32]
  by_cases c33 : B.1 s.1 = 33
  · rw [if_pos c33]; exact lW_spec hT h (by omega)
  rw [if_neg c33]
  exact lQ_no hi
theorem lW_0 (hT : bE B n) : lW n l0 := ⟨Nat.zero_le _, ⟨hT.1, Nat.zero_le _⟩, fun k x hx => (by rw [List.getElem?_nil] at hx; cases hx), rfl, rfl, rfl, Nat.zero_le _, Nat.zero_le _, Nat.zero_le _, Nat.one_pos, fun k hk => (by cases hk)⟩
end
