/-! WHAT THE LINES SAY: the items in their order, the formulas -/
def kd (Nm : NmT) (k : Nat) : Nat := (Nm.getD k (0, 0, 0, 0)).2.1
def okN (Nm : NmT) (p k : Nat) : Prop := k < p ∧ kd Nm k ≠ 33
theorem kd_a {Nm : NmT} {z : Nat × Nat × Nat × Nat} {k : Nat} (h : k < Nm.length) : kd (Nm ++ [z]) k = kd Nm k := by
  unfold kd
  rw [List.getD_eq_getElem?_getD, List.getD_eq_getElem?_getD, List.getElem?_append, if_pos h]
theorem kd_l {Nm : NmT} {z : Nat × Nat × Nat × Nat} : kd (Nm ++ [z]) Nm.length = z.2.1 := by
  unfold kd
  rw [List.getD_eq_getElem?_getD, List.getElem?_append, if_neg (Nat.lt_irrefl _), Nat.sub_self]; rfl
theorem kd_s {Nm : NmT} {k : Nat} {x : Nat × Nat × Nat × Nat} (h : Nm[k]? = some x) : kd Nm k = x.2.1 := by
  unfold kd; rw [getD_some h]
theorem kd_o {Nm : NmT} {k : Nat} (h : ¬ k < Nm.length) : kd Nm k = 0 := by
  unfold kd
  rw [List.getD_eq_getElem?_getD, List.getElem?_eq_none (by omega)]; rfl
def dI (Nm : NmT) (p : Nat) (C : Cd) : Prop := ∃ h, h ≤ 140 ∧ XC (okN Nm p) h C
theorem dI_a {Nm : NmT} {z : Nat × Nat × Nat × Nat} {p : Nat} {C : Cd} (hp : p ≤ Nm.length) (h : dI Nm p C) : dI (Nm ++ [z]) p C := by
  obtain ⟨a, b, c⟩ := h
  exact ⟨a, b, XC_m (fun k hk => ⟨hk.1, by rw [kd_a (by have := hk.1; omega)]; exact hk.2⟩) c⟩
/-- the items in their order: a wire stands behind the names that its code uses -/
def dW (Nm : NmT) : Nat → List Itm → Prop
  | lo, [] => ∀ k, lo ≤ k → k < Nm.length → kd Nm k ≠ 31
  | lo, x :: l => ∃ p, lo ≤ p ∧ p ≤ Nm.length ∧ (∀ k, lo ≤ k → k < p → kd Nm k ≠ 31) ∧ dI Nm p x.2.2 ∧ ((x.1 = 31 ∧ x.2.1 = p ∧ p < Nm.length ∧ kd Nm p = 31 ∧ dW Nm (p + 1) l) ∨ (x.1 = 32 ∧ x.2.1 < p ∧ kd Nm x.2.1 = 29 ∧ dW Nm p l))
theorem dW_a {Nm : NmT} {z : Nat × Nat × Nat × Nat} (hz : z.2.1 ≠ 31) : ∀ (D : List Itm) (lo : Nat), dW Nm lo D → dW (Nm ++ [z]) lo D
  | [], lo, h => fun k h1 h2 => by
    rw [List.length_append] at h2
    simp only [List.length_cons, List.length_nil] at h2
    by_cases c : k < Nm.length
    · rw [kd_a c]; exact h k h1 c
    · rw [show k = Nm.length by omega, kd_l]; exact hz
  | x :: l, lo, h => by
    obtain ⟨p, h1, h2, hq, h3, h4⟩ := h
    refine ⟨p, h1, by rw [List.length_append]; omega, fun k g1 g2 => by rw [kd_a (by omega)]; exact hq k g1 g2, dI_a h2 h3, ?_⟩
    rcases h4 with ⟨a1, a2, a3, a4, a5⟩ | ⟨a1, a2, a3, a4⟩
    · exact Or.inl ⟨a1, a2, by rw [List.length_append]; omega, by rw [kd_a a3]; exact a4, dW_a hz l _ a5⟩
    · exact Or.inr ⟨a1, a2, by rw [kd_a (by omega)]; exact a3, dW_a hz l _ a4⟩
theorem dW_s {Nm Nm' : NmT} {y : Itm} (hl : Nm.length ≤ Nm'.length) (hk : ∀ k, k < Nm.length → kd Nm' k = kd Nm k) (hd : ∀ p C, p ≤ Nm.length → dI Nm p C → dI Nm' p C) (hy : ∀ lo, lo ≤ Nm.length → (∀ k, lo ≤ k → k < Nm.length → kd Nm k ≠ 31) → dW Nm' lo [y]) : ∀ (D : List Itm) (lo : Nat), lo ≤ Nm.length → dW Nm lo D → dW Nm' lo (D ++ [y])
  | [], lo, hlo, h => hy lo hlo h
  | x :: l, lo, hlo, h => by
    obtain ⟨p, h1, h2, hq, h3, h4⟩ := h
    refine ⟨p, h1, by omega, fun k g1 g2 => by rw [hk k (by omega)]; exact hq k g1 g2, hd p _ h2 h3, ?_⟩
    rcases h4 with ⟨a1, a2, a3, a4, a5⟩ | ⟨a1, a2, a3, a4⟩
    · exact Or.inl ⟨a1, a2, by omega, by rw [hk p a3]; exact a4, dW_s hl hk hd hy l _ (by omega) a5⟩
    · exact Or.inr ⟨a1, a2, by rw [hk _ (by omega)]; exact a3, dW_s hl hk hd hy l _ h2 a4⟩
def lDD (Nm : NmT) (Hn : List Nat) (D : List Itm) : Prop := dW Nm 0 D ∧ (∀ k, kd Nm k = 31 → ∃ C, (31, k, C) ∈ D) ∧ (∀ k, k ∈ Hn → ∃ C, (32, k, C) ∈ D) ∧ (∀ x ∈ D, x.1 = 32 → x.2.1 ∈ Hn) ∧ ∀ x ∈ D, nC x.2.2
def gS (Nm : NmT) (g : Nat) (C : Cd) : Prop := ∃ h, h ≤ 123 ∧ GC (okN Nm Nm.length) (fun k => k < g) h C
def lD (s : LSt) : Prop := match s with
  | (_, _, Nm, CL, CF, Hn, _, _, sp, _) => (∃ D, CL = flI D ∧ lDD Nm Hn D) ∧ ∃ SP : List Cd, CF = flS SP 0 ∧ SP.length = sp ∧ ∀ g C, SP[g]? = some C → gS Nm g C
theorem lDD_a {Nm : NmT} {Hn : List Nat} {D : List Itm} {z : Nat × Nat × Nat × Nat} (hz : z.2.1 ≠ 31) (h : lDD Nm Hn D) : lDD (Nm ++ [z]) Hn D := by
  refine ⟨dW_a hz _ _ h.1, fun k hk => h.2.1 k ?_, h.2.2⟩
  by_cases c : k < Nm.length
  · rw [kd_a c] at hk; exact hk
  · by_cases c2 : k = Nm.length
    · rw [c2, kd_l] at hk; exact absurd hk hz
    · rw [kd_o (by rw [List.length_append]; simp only [List.length_cons, List.length_nil]; omega)] at hk; exact absurd hk (by decide)
theorem gS_a {Nm : NmT} {g : Nat} {C : Cd} {z : Nat × Nat × Nat × Nat} (h : gS Nm g C) : gS (Nm ++ [z]) g C := by
  obtain ⟨a, b, c⟩ := h
  refine ⟨a, b, GC_m (fun k hk => ⟨by rw [List.length_append]; have := hk.1; omega, by rw [kd_a hk.1]; exact hk.2⟩) (fun k hk => hk) c⟩
theorem lD_0 : lD l0 := ⟨⟨[], rfl, fun k _ hk => absurd hk (Nat.not_lt_zero _), fun k hk => by rw [kd_o (by simp)] at hk; exact absurd hk (by decide), fun k hk => (by cases hk), fun x hx => (by cases hx), fun x hx => (by cases hx)⟩, [], rfl, rfl, fun g C hg => by rw [List.getElem?_nil] at hg; cases hg⟩
section
variable {B : TB} {n : Nat}
theorem T_ok {Nm : NmT} : ∀ k i, (tT B Nm).2.2.1 i = some k → (tT B Nm).2.2.2.1 k ≠ 33 → okN Nm Nm.length k := fun k i h1 h2 => ⟨by have := fnd_lt Nm 0 i k h1; omega, h2⟩
theorem lD_E {Nm : NmT} {m j co : Nat} (e : (sp_E (tT B Nm) m 0 0 0 j co).1 = 0) (hc : (sp_E (tT B Nm) m 0 0 0 j co).2.2.2.1 ≤ 3000) : dI Nm Nm.length (sp_E (tT B Nm) m 0 0 0 j co).2.2.2.2 ∧ nC (sp_E (tT B Nm) m 0 0 0 j co).2.2.2.2 := by
  obtain ⟨c, q, a1, a2, a3⟩ := sp_EC (tT B Nm) m 0 0 0 j co e
  exact ⟨EC_X' a3 (by omega) (by omega) T_ok, EC_nC a3⟩
theorem lD_reg (hT : bE B n) {s : LSt} (hW : lW n s) (h : lD s) (hk : B.1 s.1 < 45) : lQ n s.1 lD (sp_reg B s) := by
  obtain ⟨i, co, Nm, CL, CF, Hn, rb, ib, sp, fi⟩ := s
  obtain ⟨h1, h2, h3, h4, h5, h6, h7, h8, h9, h10, h11⟩ := hW
  obtain ⟨⟨D, d1, d2⟩, SP, s1, s2, s3⟩ := h
  unfold sp_reg
  dsimp only at hk ⊢
  exact lQ_new hT (tEnd_s (bE_T hT []) h2.1 hk) (fun i1 h60 => lQ_ex hT (by decide) i1 (fun i2 => lQ_num hT i2 (fun i3 g1 g2 => lQ_ex hT (by decide) i3 (fun i4 => lQ_num hT i4 (fun i5 g3 g4 => lQ_ex hT (by decide) i5 (fun i6 => lQ_s ⟨⟨D, d1, lDD_a (by show (29 : Nat) ≠ 31; decide) d2⟩, SP, s1, s2, fun g C hg => gS_a (s3 g C hg)⟩ (by show i < i + 1 + 1 + 1 + 1 + 1 + 1 + 1; omega)))))))
theorem lD_input (hT : bE B n) {s : LSt} (hW : lW n s) (h : lD s) (hk : B.1 s.1 < 45) : lQ n s.1 lD (sp_input B s) := by
  obtain ⟨i, co, Nm, CL, CF, Hn, rb, ib, sp, fi⟩ := s
  obtain ⟨h1, h2, h3, h4, h5, h6, h7, h8, h9, h10, h11⟩ := hW
  obtain ⟨⟨D, d1, d2⟩, SP, s1, s2, s3⟩ := h
  unfold sp_input
  dsimp only at hk ⊢
  exact lQ_new hT (tEnd_s (bE_T hT []) h2.1 hk) (fun i1 h60 => lQ_ex hT (by decide) i1 (fun i2 => lQ_num hT i2 (fun i3 g1 g2 => lQ_ex hT (by decide) i3 (fun i4 => lQ_s ⟨⟨D, d1, lDD_a (by show (30 : Nat) ≠ 31; decide) d2⟩, SP, s1, s2, fun g C hg => gS_a (s3 g C hg)⟩ (by show i < i + 1 + 1 + 1 + 1 + 1; omega)))))
theorem lD_wire (hT : bE B n) {s : LSt} (hW : lW n s) (h : lD s) (hk : B.1 s.1 < 45) : lQ n s.1 lD (sp_wire B s) := by
  obtain ⟨i, co, Nm, CL, CF, Hn, rb, ib, sp, fi⟩ := s
  obtain ⟨h1, h2, h3, h4, h5, h6, h7, h8, h9, h10, h11⟩ := hW
  obtain ⟨⟨D, d1, d2⟩, SP, s1, s2, s3⟩ := h
  unfold sp_wire
  dsimp only at hk ⊢
  refine lQ_new hT (tEnd_s (bE_T hT []) h2.1 hk) (fun i1 h60 => lQ_ex hT (by decide) i1 (fun i2 => lQ_x (sp_wE (bE_T hT Nm) _ _ _ _ _ _ i2 h2.2) (fun e => ?_)))
  have q := sp_len (bE_T hT Nm) 600 0 0 0 _ co i2 h2.2 e
  have x := lD_E e q.2.2.2.2.1
  generalize sp_E (tT B Nm) 600 0 0 0 (i + 1 + 1 + 1) co = r at q x ⊢
  refine lQ_ex hT (by decide) q.2.2.1 (fun i3 => lQ_s ?_ (by show i < r.2.2.1 + 1; omega))
  refine ⟨⟨D ++ [(31, Nm.length, r.2.2.2.2)], by rw [flI_app, d1], ?_, ?_, ?_, ?_, ?_⟩, SP, s1, s2, fun g C hg => gS_a (s3 g C hg)⟩
  · refine dW_s (Nm' := Nm ++ [(i + 1, 31, 0, 0)]) (y := (31, Nm.length, r.2.2.2.2)) (by rw [List.length_append]; omega) (fun k hk => kd_a hk) (fun p C hp => dI_a hp) (fun lo hlo hq => ⟨Nm.length, hlo, by rw [List.length_append]; omega, fun k g1 g2 => by rw [kd_a g2]; exact hq k g1 g2, dI_a (Nat.le_refl _) x.1, Or.inl ⟨rfl, rfl, by rw [List.length_append]; exact Nat.lt_succ_self _, kd_l, fun k g1 g2 => by rw [List.length_append] at g2; simp only [List.length_cons, List.length_nil] at g2; omega⟩⟩) D 0 (Nat.zero_le _) d2.1
  · intro k hk
    by_cases c : k < Nm.length
    · rw [kd_a c] at hk
      obtain ⟨C, hC⟩ := d2.2.1 k hk
      exact ⟨C, List.mem_append_left _ hC⟩
    · by_cases c2 : k = Nm.length
      · exact ⟨r.2.2.2.2, by rw [c2]; exact List.mem_append_right _ (List.mem_singleton.mpr rfl)⟩
      · rw [kd_o (by rw [List.length_append]; simp only [List.length_cons, List.length_nil]; omega)] at hk; exact absurd hk (by decide)
  · intro k hk
    obtain ⟨C, hC⟩ := d2.2.2.1 k hk
    exact ⟨C, List.mem_append_left _ hC⟩
  · intro y hy h32
    rcases List.mem_append.mp hy with hy | hy
    · exact d2.2.2.2.1 y hy h32
    · rw [List.mem_singleton.mp hy] at h32; exact absurd h32 (by show ¬ (31 : Nat) = 32; decide)
  · intro y hy
    rcases List.mem_append.mp hy with hy | hy
    · exact d2.2.2.2.2 y hy
    · rw [List.mem_singleton.mp hy]; exact x.2
theorem lD_next (hT : bE B n) {s : LSt} (hW : lW n s) (h : lD s) (hk : B.1 s.1 < 45) : lQ n s.1 lD (sp_next B s) := by
  obtain ⟨i, co, Nm, CL, CF, Hn, rb, ib, sp, fi⟩ := s
  obtain ⟨h1, h2, h3, h4, h5, h6, h7, h8, h9, h10, h11⟩ := hW
  obtain ⟨⟨D, d1, d2⟩, SP, s1, s2, s3⟩ := h
  unfold sp_next
  dsimp only at hk ⊢
  have i1 := tEnd_s (bE_T hT []) h2.1 hk
  by_cases hp : co + 8 ≤ 3000
  rotate_left
  · rw [if_neg hp]; exact lQ_f (by decide) h2.1
  rw [if_pos hp]
  by_cases k43 : B.1 (i + 1) = 43
  rotate_left
  · rw [if_neg k43]; exact lQ_no i1
  rw [if_pos k43]
  have i2 := tEnd_s (bE_T hT []) i1 (show B.1 (i + 1) < 45 by omega)
  cases ho : fnd B.2.2 Nm 0 (i + 1) with
  | none => exact lQ_f (by decide) i1
  | some k =>
    dsimp only
    have kl := fnd_lt Nm 0 (i + 1) k ho
    by_cases c29 : (Nm.getD k (0, 0, 0, 0)).2.1 = 29
    rotate_left
    · rw [if_neg c29]; exact lQ_f (by decide) i1
    rw [if_pos c29]
    by_cases cm : k ∈ Hn
    · rw [if_pos cm]; exact lQ_f (by decide) i1
    rw [if_neg cm]
    refine lQ_ex hT (by decide) i2 (fun i3 => lQ_x (sp_wE (bE_T hT Nm) _ _ _ _ _ _ i3 hp) (fun e => ?_))
    have q := sp_len (bE_T hT Nm) 600 0 0 0 _ (co + 8) i3 hp e
    have x := lD_E e q.2.2.2.2.1
    generalize sp_E (tT B Nm) 600 0 0 0 (i + 1 + 1 + 1) (co + 8) = r at q x ⊢
    refine lQ_ex hT (by decide) q.2.2.1 (fun i4 => lQ_s ?_ (by show i < r.2.2.1 + 1; omega))
    refine ⟨⟨D ++ [(32, k, r.2.2.2.2)], by rw [flI_app, d1], ?_, ?_, ?_, ?_, ?_⟩, SP, s1, s2, s3⟩
    · refine dW_s (Nm' := Nm) (y := (32, k, r.2.2.2.2)) (Nat.le_refl _) (fun k hk => rfl) (fun p C hp h => h) (fun lo hlo hq => ⟨Nm.length, hlo, Nat.le_refl _, hq, x.1, Or.inr ⟨rfl, by show k < Nm.length; omega, c29, fun k g1 g2 => by omega⟩⟩) D 0 (Nat.zero_le _) d2.1
    · intro k' hk'
      obtain ⟨C, hC⟩ := d2.2.1 k' hk'
      exact ⟨C, List.mem_append_left _ hC⟩
    · intro k' hk'
      rcases List.mem_cons.mp hk' with rfl | hk'
      · exact ⟨r.2.2.2.2, List.mem_append_right _ (List.mem_singleton.mpr rfl)⟩
      · obtain ⟨C, hC⟩ := d2.2.2.1 k' hk'
        exact ⟨C, List.mem_append_left _ hC⟩
    · intro y hy h32
      rcases List.mem_append.mp hy with hy | hy
      · exact List.mem_cons_of_mem _ (d2.2.2.2.1 y hy h32)
      · rw [List.mem_singleton.mp hy]; exact List.mem_cons_self
    · intro y hy
      rcases List.mem_append.mp hy with hy | hy
      · exact d2.2.2.2.2 y hy
      · rw [List.mem_singleton.mp hy]; exact x.2
theorem lD_spec (hT : bE B n) {s : LSt} (hW : lW n s) (h : lD s) (hk : B.1 s.1 < 45) : lQ n s.1 lD (sp_spec B s) := by
  obtain ⟨i, co, Nm, CL, CF, Hn, rb, ib, sp, fi⟩ := s
  obtain ⟨h1, h2, h3, h4, h5, h6, h7, h8, h9, h10, h11⟩ := hW
  obtain ⟨⟨D, d1, d2⟩, SP, s1, s2, s3⟩ := h
  unfold sp_spec
  dsimp only at hk ⊢
  by_cases h30 : sp < 30
  rotate_left
  · rw [if_neg h30]; exact lQ_f (by decide) h2.1
  rw [if_pos h30]
  refine lQ_new hT (tEnd_s (bE_T hT []) h2.1 hk) (fun i1 h60 => lQ_ex hT (by decide) i1 (fun i2 => lQ_x (sp_wF (bE_T hT Nm) _ _ _ _ _ i2 h2.2) (fun e => ?_)))
  have q := sp_lenF (bE_T hT Nm) 260 0 0 _ co i2 h2.2 e
  obtain ⟨ht, c, x1, x2, x3⟩ := sp_KC (tT B Nm) 260 0 0 (i + 1 + 1 + 1) co (by decide) e
  generalize sp_F (tT B Nm) 260 0 0 (i + 1 + 1 + 1) co = r at q x1 x3 ⊢
  have x : gS Nm sp r.2.2.2.2 := ⟨ht, by omega, KC_G x3 (by have := q.2.2.2.2.1; omega) T_ok (fun k j g1 g2 => by
    have kl := fnd_lt Nm 0 j k g1
    obtain ⟨y, hy⟩ : ∃ y, Nm[k]? = some y := ⟨_, List.getElem?_eq_getElem (by omega)⟩
    have e2 : (Nm.getD k (0, 0, 0, 0)).2.1 = 33 := g2
    show (Nm.getD k (0, 0, 0, 0)).2.2.2 < sp
    rw [getD_some hy] at e2 ⊢
    rcases h3 k y hy with w | w | w | w
    · have := w.1; omega
    · have := w.1; omega
    · have := w.1; omega
    · rw [w.2.2, h6]; exact cnt_lt Nm k y hy e2)⟩
  refine lQ_ex hT (by decide) q.2.2.1 (fun i3 => lQ_s ?_ (by show i < r.2.2.1 + 1; omega))
  refine ⟨⟨D, d1, lDD_a (by show (33 : Nat) ≠ 31; decide) d2⟩, SP ++ [r.2.2.2.2], by rw [flS_app, s1, s2, Nat.zero_add], by rw [List.length_append, s2]; rfl, fun g C hg => ?_⟩
  rw [List.getElem?_append] at hg
  by_cases c3 : g < SP.length
  · rw [if_pos c3] at hg; exact gS_a (s3 g C hg)
  · rw [if_neg c3] at hg
    rcases Nat.eq_zero_or_pos (g - SP.length) with h0 | h0
    · rw [h0] at hg
      simp only [List.getElem?_cons_zero, Option.some.injEq] at hg
      rw [← hg, show g = sp by omega]; exact gS_a x
    · rw [List.getElem?_eq_none (by simp only [List.length_cons, List.length_nil]; omega)] at hg; cases hg
theorem lD_line (hT : bE B n) {s : LSt} (hW : lW n s) (h : lD s) : lQ n s.1 lD (sp_line B s) := by
  have hi : s.1 < n := by obtain ⟨i, co, Nm, CL, CF, Hn, rb, ib, sp, fi⟩ := s; exact hW.2.1.1
  unfold sp_line
  by_cases c29 : B.1 s.1 = 29
  · rw [if_pos c29]; exact lD_reg hT hW h (by omega)
  rw [if_neg c29]
  by_cases c30 : B.1 s.1 = 30
  · rw [if_pos c30]; exact lD_input hT hW h (by omega)
  rw [if_neg c30]
  by_cases c31 : B.1 s.1 = 31
  · rw [if_pos c31]; exact lD_wire hT hW h (by omega)
  rw [if_neg c31]
  by_cases c32 : B.1 s.1 = 32
  · rw [if_pos c32]; exact lD_next hT hW h (by omega)
  rw [if_neg c32]
  by_cases c33 : B.1 s.1 = 33
  · rw [if_pos c33]; exact lD_spec hT hW h (by omega)
  rw [if_neg c33]
  exact lQ_no hi
theorem lD_lines (hT : bE B n) : ∀ (m : Nat) (s : LSt), lW n s → lD s → (sp_lines B m s).1 = 0 → lW n (sp_lines B m s).2.2 ∧ lD (sp_lines B m s).2.2
  | 0, s, _, _, e => absurd e (by show ¬ (9 : Nat) = 0; decide)
  | m + 1, s, hW, h, e => by
    rw [sp_lines.eq_2] at e ⊢
    by_cases k45 : B.1 s.1 = 45
    · rw [if_pos k45]; exact ⟨hW, h⟩
    rw [if_neg k45] at e ⊢
    by_cases e0 : (sp_line B s).1 = 0
    · rw [if_pos e0] at e ⊢
      exact lD_lines hT m _ ((lW_line hT hW).1 e0).1 ((lD_line hT hW h).1 e0).1 e
    · rw [if_neg e0] at e; exact absurd e e0
end
/-! the items and the formulas are told by the codes -/
theorem nC_u {C C' : Cd} {o o' k k' : Nat} {R R' : Cd} (h : nC C) (h' : nC C') (ho : o = 31 ∨ o = 32) (ho' : o' = 31 ∨ o' = 32) (e : (C ++ [(o, k)]) ++ R = (C' ++ [(o', k')]) ++ R') : C = C' ∧ o = o' ∧ k = k' ∧ R = R' := by
  induction C generalizing C' with
  | nil =>
    cases C' with
    | nil =>
      simp only [List.nil_append, List.cons_append, List.cons.injEq, Prod.mk.injEq] at e
      exact ⟨rfl, e.1.1, e.1.2, e.2⟩
    | cons y l =>
      simp only [List.nil_append, List.cons_append, List.cons.injEq] at e
      have := h' y List.mem_cons_self
      rw [← e.1] at this
      dsimp only at this
      omega
  | cons x l ih =>
    cases C' with
    | nil =>
      simp only [List.nil_append, List.cons_append, List.cons.injEq] at e
      have := h x List.mem_cons_self
      rw [e.1] at this
      dsimp only at this
      omega
    | cons y l' =>
      simp only [List.cons_append, List.cons.injEq] at e
      obtain ⟨a1, a2, a3, a4⟩ := ih (C' := l') (fun z hz => h z (List.mem_cons_of_mem _ hz)) (fun z hz => h' z (List.mem_cons_of_mem _ hz)) e.2
      exact ⟨by rw [e.1, a1], a2, a3, a4⟩
theorem flI_u : ∀ (D D' : List Itm), (∀ x ∈ D, nC x.2.2 ∧ (x.1 = 31 ∨ x.1 = 32)) → (∀ x ∈ D', nC x.2.2 ∧ (x.1 = 31 ∨ x.1 = 32)) → flI D = flI D' → D = D'
  | [], [], _, _, _ => rfl
  | [], y :: l, _, _, e => by
    have := congrArg List.length e
    simp only [flI, List.length_append, List.length_cons, List.length_nil] at this
    omega
  | x :: l, [], _, _, e => by
    have := congrArg List.length e
    simp only [flI, List.length_append, List.length_cons, List.length_nil] at this
    omega
  | x :: l, y :: l', h, h', e => by
    have hx := h x List.mem_cons_self
    have hy := h' y List.mem_cons_self
    rw [flI, flI] at e
    obtain ⟨a1, a2, a3, a4⟩ := nC_u hx.1 hy.1 hx.2 hy.2 e
    rw [flI_u l l' (fun z hz => h z (List.mem_cons_of_mem _ hz)) (fun z hz => h' z (List.mem_cons_of_mem _ hz)) a4]
    obtain ⟨x1, x2, x3⟩ := x
    obtain ⟨y1, y2, y3⟩ := y
    dsimp only at a1 a2 a3
    rw [a1, a2, a3]
def c33 : Cd → Nat
  | [] => 0
  | x :: l => (if x.1 = 33 then 1 else 0) + c33 l
theorem c33_a : ∀ (C D : Cd), c33 (C ++ D) = c33 C + c33 D
  | [], D => by rw [List.nil_append, c33]; omega
  | x :: l, D => by rw [List.cons_append, c33, c33, c33_a l D]; omega
theorem c33_n : ∀ (C : Cd), c33 C = 0 → ∀ y ∈ C, y.1 ≠ 33
  | [], _, y, hy => by cases hy
  | x :: l, h, y, hy => by
    rw [c33] at h
    rcases List.mem_cons.mp hy with rfl | hy
    · intro q; rw [if_pos q] at h; omega
    · exact c33_n l (by omega) y hy
theorem c33_0 : ∀ (C : Cd), (∀ y ∈ C, y.1 ≠ 33) → c33 C = 0
  | [], _ => rfl
  | x :: l, h => by rw [c33, if_neg (h x List.mem_cons_self), c33_0 l (fun y hy => h y (List.mem_cons_of_mem _ hy))]
def s33 : List Cd → Nat
  | [] => 0
  | C :: l => c33 C + s33 l
theorem c33_S : ∀ (SP : List Cd) (k : Nat), c33 (flS SP k) = SP.length + s33 SP
  | [], _ => rfl
  | C :: l, k => by
    rw [flS, c33_a, c33_a, c33_S l (k + 1), s33, List.length_cons]
    show c33 C + ((if (33 : Nat) = 33 then 1 else 0) + 0) + (l.length + s33 l) = _
    rw [if_pos rfl]; omega
theorem s33_n : ∀ (SP : List Cd), s33 SP = 0 → ∀ C ∈ SP, ∀ y ∈ C, y.1 ≠ 33
  | [], _, C, hC => by cases hC
  | D :: l, h, C, hC => by
    rw [s33] at h
    rcases List.mem_cons.mp hC with rfl | hC
    · exact c33_n _ (by omega)
    · exact s33_n l (by omega) C hC
theorem s33_0 : ∀ (SP : List Cd), (∀ C ∈ SP, ∀ y ∈ C, y.1 ≠ 33) → s33 SP = 0
  | [], _ => rfl
  | D :: l, h => by rw [s33, c33_0 D (h D List.mem_cons_self), s33_0 l (fun C hC => h C (List.mem_cons_of_mem _ hC))]
theorem n33_u {C C' : Cd} {k k' : Nat} {R R' : Cd} (h : ∀ y ∈ C, y.1 ≠ 33) (h' : ∀ y ∈ C', y.1 ≠ 33) (e : (C ++ [(33, k)]) ++ R = (C' ++ [(33, k')]) ++ R') : C = C' ∧ R = R' := by
  induction C generalizing C' with
  | nil =>
    cases C' with
    | nil =>
      simp only [List.nil_append, List.cons_append, List.cons.injEq] at e
      exact ⟨rfl, e.2⟩
    | cons y l =>
      simp only [List.nil_append, List.cons_append, List.cons.injEq] at e
      have := h' y List.mem_cons_self
      rw [← e.1] at this
      exact absurd rfl this
  | cons x l ih =>
    cases C' with
    | nil =>
      simp only [List.nil_append, List.cons_append, List.cons.injEq] at e
      have := h x List.mem_cons_self
      rw [e.1] at this
      exact absurd rfl this
    | cons y l' =>
      simp only [List.cons_append, List.cons.injEq] at e
      obtain ⟨a1, a4⟩ := ih (C' := l') (fun z hz => h z (List.mem_cons_of_mem _ hz)) (fun z hz => h' z (List.mem_cons_of_mem _ hz)) e.2
      exact ⟨by rw [e.1, a1], a4⟩
theorem flS_u' : ∀ (S S' : List Cd) (k : Nat), (∀ C ∈ S, ∀ y ∈ C, y.1 ≠ 33) → (∀ C ∈ S', ∀ y ∈ C, y.1 ≠ 33) → flS S k = flS S' k → S = S'
  | [], [], _, _, _, _ => rfl
  | [], y :: l, _, _, _, e => by
    have := congrArg List.length e
    simp only [flS, List.length_append, List.length_cons, List.length_nil] at this
    omega
  | x :: l, [], _, _, _, e => by
    have := congrArg List.length e
    simp only [flS, List.length_append, List.length_cons, List.length_nil] at this
    omega
  | x :: l, y :: l', k, h, h', e => by
    rw [flS, flS] at e
    obtain ⟨a1, a4⟩ := n33_u (h x List.mem_cons_self) (h' y List.mem_cons_self) e
    rw [a1, flS_u' l l' (k + 1) (fun z hz => h z (List.mem_cons_of_mem _ hz)) (fun z hz => h' z (List.mem_cons_of_mem _ hz)) a4]
theorem flS_u {S S' : List Cd} (h : ∀ C ∈ S', ∀ y ∈ C, y.1 ≠ 33) (hl : S.length = S'.length) (e : flS S 0 = flS S' 0) : S = S' := by
  have x := congrArg c33 e
  rw [c33_S, c33_S, s33_0 S' h] at x
  exact flS_u' S S' 0 (s33_n S (by omega)) h e
def n33 (C : Cd) : Prop := ∀ y ∈ C, y.1 ≠ 33
theorem n33_a {C D : Cd} (h : n33 C) (h' : n33 D) : n33 (C ++ D) := fun y hy => by
  rcases List.mem_append.mp hy with q | q
  · exact h y q
  · exact h' y q
theorem n33_1 {o k : Nat} (h : o ≠ 33) : n33 [(o, k)] := fun y hy => by rw [List.mem_singleton.mp hy]; exact h
theorem XC_33 {ok : Nat → Prop} {h : Nat} {C : Cd} (x : XC ok h C) : n33 C := by
  refine x (fun _ C => n33 C) ⟨fun v _ => n33_1 (by decide), fun k _ => n33_1 (by decide), fun o h C ho hC => n33_a hC (n33_1 (by omega)), fun o h h' C D ho hC hD => n33_a hC (n33_a hD (n33_1 (by have := tyt_lt ho; omega))), fun h h' h'' C D E hC hD hE => n33_a hC (n33_a hD (n33_a hE (n33_1 (by decide))))⟩
theorem GC_33 {okE okS : Nat → Prop} {h : Nat} {C : Cd} (x : GC okE okS h C) : n33 C := by
  refine x (fun _ C => n33 C) ⟨fun h C hx _ => n33_a (XC_33 hx) (n33_1 (by decide)), fun k _ => n33_1 (by decide), fun o h C ho hC => n33_a hC (n33_1 (by omega)), fun o h h' C D ho hC hD => n33_a hC (n33_a hD (n33_1 (by omega)))⟩
