/-! MODEL'S LINES 2: the state between lines -/
/-- 31 a wire or 32 a next, the name, the code -/
abbrev Itm := Nat × Nat × Cd
def flI : List Itm → Cd
  | [] => []
  | x :: l => (x.2.2 ++ [(x.1, x.2.1)]) ++ flI l
theorem flI_app (x : Itm) : ∀ l : List Itm, flI (l ++ [x]) = flI l ++ (x.2.2 ++ [(x.1, x.2.1)])
  | [] => by rw [List.nil_append, flI, flI, flI, List.append_nil, List.nil_append]
  | y :: l => by rw [List.cons_append, flI, flI, flI_app x l]; simp only [List.append_assoc]
def flS : List Cd → Nat → Cd
  | [], _ => []
  | C :: l, k => (C ++ [(33, k)]) ++ flS l (k + 1)
theorem flS_app (C : Cd) : ∀ (l : List Cd) (k : Nat), flS (l ++ [C]) k = flS l k ++ (C ++ [(33, k + l.length)])
  | [], k => by rw [List.nil_append, flS, flS, flS, List.append_nil, List.nil_append]; rfl
  | y :: l, k => by rw [List.cons_append, flS, flS, flS_app C l (k + 1), List.length_cons, show k + 1 + l.length = k + (l.length + 1) by omega]; simp only [List.append_assoc]
def rbF (RB : List (Nat × Nat)) : Nat := RB.foldl (fun a y => a * 2 ^ y.1 + y.2) 0
theorem rbF_app (RB : List (Nat × Nat)) (y : Nat × Nat) : rbF (RB ++ [y]) = rbF RB * 2 ^ y.1 + y.2 := by unfold rbF; rw [List.foldl_append]; rfl
def mLn (Nm : NmT) (Hn : List Nat) (M : Mm) : Prop := ∀ (k : Nat) (x : Nat × Nat × Nat × Nat), Nm[k]? = some x → M 45 k = nI (cnt x.2.1 (Nm.take k)) ∧ (x.2.1 = 29 → M 46 (cnt 29 (Nm.take k)) = nI x.2.2.1 ∧ (k ∉ Hn → M 48 (cnt 29 (Nm.take k)) = -1) ∧ (k ∈ Hn → ∃ e, e < 4200 ∧ M 48 (cnt 29 (Nm.take k)) = nI e)) ∧ (x.2.1 = 30 → M 49 (cnt 30 (Nm.take k)) = nI x.2.2.1)
def nC (C : Cd) : Prop := ∀ y ∈ C, y.1 ≠ 31 ∧ y.1 ≠ 32
theorem nC_a {C D : Cd} (h : nC C) (h' : nC D) : nC (C ++ D) := fun y hy => by
  rcases List.mem_append.mp hy with q | q
  · exact h y q
  · exact h' y q
theorem nC_1 {o k : Nat} (h : o ≠ 31 ∧ o ≠ 32) : nC [(o, k)] := fun y hy => by rw [List.mem_singleton.mp hy]; exact h
theorem EC_nC {T : TT} {c q : Nat} {C : Cd} (h : EC T c q C) : nC C := by
  refine h (fun _ _ C => nC C) ⟨fun v _ => nC_1 (by decide), fun k i _ _ => nC_1 (by decide), fun o p c q C ho hC => nC_a hC (nC_1 (by omega)), fun o c q c' q' C D ho hC hD => nC_a hC (nC_a hD (nC_1 (by have := tyt_lt ho; omega))), fun c q c' q' c'' q'' C D E hC hD hE => nC_a hC (nC_a hD (nC_a hE (nC_1 (by decide))))⟩
theorem sp_nC {T : TT} {m t l d i co : Nat} (h : (sp_E T m t l d i co).1 = 0) : nC (sp_E T m t l d i co).2.2.2.2 := by
  obtain ⟨c, q, _, _, z⟩ := sp_EC T m t l d i co h
  exact EC_nC z
def mLd (Nm : NmT) (Hn : List Nat) (N : Nat) (D : List Itm) (M : Mm) : Prop := ∀ x ∈ D, nC x.2.2 ∧ x.2.1 < Nm.length ∧ ∃ e lo, Ev M 600 lo e x.2.2 ∧ e < N ∧ ((x.1 = 31 ∧ (∃ y, Nm[x.2.1]? = some y ∧ y.2.1 = 31) ∧ M 50 (cnt 31 (Nm.take x.2.1)) = nI e) ∨ (x.1 = 32 ∧ x.2.1 ∈ Hn ∧ M 48 (cnt 29 (Nm.take x.2.1)) = nI e))
/-- the model stands at a line's beginning -/
def mL (b : Nat → Nat) (L : Nat) (s : LSt) (N : Nat) (F : FT) (RB : List (Nat × Nat)) (D : List Itm) (SP : List Cd) (M : Mm) : Prop := match s with
  | (i, co, Nm, CL, CF, Hn, rb, ib, sp, fi) => mT b L Nm i co N F M ∧ (M 40 23 = nI (cnt 29 Nm) ∧ M 40 24 = nI (cnt 30 Nm) ∧ M 40 25 = nI (cnt 31 Nm) ∧ M 40 26 = nI sp ∧ M 40 27 = nI rb ∧ M 40 28 = nI ib) ∧ mLn Nm Hn M ∧ (RB.length = cnt 29 Nm ∧ fi = rbF RB ∧ ∀ r y, RB[r]? = some y → M 46 r = nI y.1 ∧ M 47 r = nI y.2 ∧ y.2 < 2 ^ y.1 ∧ y.1 ≤ 8) ∧ (CL = flI D ∧ mLd Nm Hn N D M) ∧ (CF = flS SP 0 ∧ SP.length = sp ∧ ∀ g C, SP[g]? = some C → ∃ f, M 51 g = nI f ∧ Fw F f C)
theorem cnt_lt {kd : Nat} : ∀ (l : NmT) (k : Nat) (x : Nat × Nat × Nat × Nat), l[k]? = some x → x.2.1 = kd → cnt kd (l.take k) < cnt kd l
  | [], k, x, h, _ => by rw [List.getElem?_nil] at h; cases h
  | y :: l, 0, x, h, hx => by
    rw [List.getElem?_cons_zero] at h
    cases h
    rw [List.take_zero, cnt, cnt, if_pos hx]; omega
  | y :: l, k + 1, x, h, hx => by
    rw [List.getElem?_cons_succ] at h
    have := cnt_lt l k x h hx
    rw [List.take_succ_cons, cnt, cnt]; omega
theorem mLd_n {Nm : NmT} {Hn : List Nat} {N N' : Nat} {D : List Itm} {M M' : Mm} {z : Nat × Nat × Nat × Nat} (h : mLd Nm Hn N D M) (hH : ∀ k ∈ Hn, ∃ x, Nm[k]? = some x ∧ x.2.1 = 29) (hN : N ≤ N') (ag : ∀ lo e, e < N → agN lo e M M') (h50 : ∀ k, k < cnt 31 Nm → M' 50 k = M 50 k) (h48 : ∀ k, k < cnt 29 Nm → M' 48 k = M 48 k) : mLd (Nm ++ [z]) Hn N' D M' := by
  intro x hx
  obtain ⟨h0, h1, e, lo, h2, h3, h4⟩ := h x hx
  refine ⟨h0, by rw [List.length_append]; omega, e, lo, Ev_c h2 (ag lo e h3) (Nat.le_refl _) (Nat.le_refl _), by omega, ?_⟩
  rw [tk_app (by omega)]
  rcases h4 with ⟨a1, ⟨y, a2, a3⟩, a4⟩ | ⟨a1, a2, a3⟩
  · exact Or.inl ⟨a1, ⟨y, by rw [List.getElem?_append, if_pos h1]; exact a2, a3⟩, (h50 _ (cnt_lt _ _ _ a2 a3)).trans a4⟩
  · obtain ⟨y, b1, b2⟩ := hH _ a2
    exact Or.inr ⟨a1, a2, (h48 _ (cnt_lt _ _ _ b1 b2)).trans a3⟩
section
variable {b : Nat → Nat} {L : Nat} {Nm : NmT}
/-- the last name gets its kind -/
theorem mT_l {t kd bt pt j co N : Nat} {F : FT} {M M' : Mm} (h : mT b L (Nm ++ [(t, 0, 0, 0)]) j co N F M) (e40 : ∀ q, (q < 23 ∨ 28 < q) → M' 40 q = M 40 q) (ea : ∀ a, a ≠ 40 → (a < 44 ∨ 51 < a) → M' a = M a) (e44 : M' 44 Nm.length = nI (mkd kd)) (e44' : ∀ k, k ≠ Nm.length → M' 44 k = M 44 k) (e45' : ∀ k, k ≠ Nm.length → M' 45 k = M 45 k) (e45 : kd = 33 → M' 45 Nm.length = nI pt) (hu : mU (Nm ++ [(t, kd, bt, pt)]) F M') : mT b L (Nm ++ [(t, kd, bt, pt)]) j co N F M' := by
  have up : ∀ (k : Nat) (x : Nat × Nat × Nat × Nat), k < Nm.length → Nm[k]? = some x → (Nm ++ [(t, 0, 0, 0)])[k]? = some x := fun k x c hx => by rw [List.getElem?_append, if_pos c]; exact hx
  have la : (Nm ++ [(t, 0, 0, 0)])[Nm.length]? = some (t, 0, 0, 0) := by rw [List.getElem?_append, if_neg (Nat.lt_irrefl _), Nat.sub_self]; rfl
  have hl : (Nm ++ [(t, kd, bt, pt)]).length = (Nm ++ [(t, 0, 0, 0)]).length := by rw [List.length_append, List.length_append]; rfl
  have hw := h.1.2.2.2.2.1
  have hS : mS b L (Nm ++ [(t, kd, bt, pt)]) j co N M' := by
    refine ⟨mBy_c h.1.1 (e40 1 (by decide)) (ea 41 (by decide) (by decide)) (e40 3 (by decide)) (e40 4 (by decide)), mN_u h.1.2.1 (fun q h1 h2 => e40 q (by omega)), (e40 11 (by decide)).trans h.1.2.2.1, (e40 34 (by decide)).trans h.1.2.2.2.1, ⟨by rw [hl]; exact (e40 16 (by decide)).trans hw.1, by rw [hl]; exact hw.2.1, fun k x hx => ?_⟩, fun k x hx => ?_⟩
    · rw [ea 42 (by decide) (by decide), ea 43 (by decide) (by decide)]
      rcases gE_n hx with ⟨c, hy⟩ | ⟨c, hy⟩
      · exact hw.2.2 k x (up k x c hy)
      · rw [c, hy]; exact hw.2.2 Nm.length (t, 0, 0, 0) la
    · rcases gE_n hx with ⟨c, hy⟩ | ⟨c, hy⟩
      · exact (e44' k (by omega)).trans (h.1.2.2.2.2.2 k x (up k x c hy))
      · rw [c, hy]; exact e44
  refine mT_n h hS (e40 38 (by decide)) (fun a h1 h2 => ea a (by omega) (by omega)) (fun k x hx h33 => ?_) hu
  rcases gE_n hx with ⟨c, hy⟩ | ⟨c, hy⟩
  · exact (e45' k (by omega)).trans (h.2.2.2 k x (up k x c hy) h33)
  · rw [hy] at h33 ⊢; rw [c]; exact e45 h33
end
