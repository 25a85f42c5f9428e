/-! READ 2: the model's read, to its end -/
theorem ln_w {B : TB} {n : Nat} (hE : bE B n) : ∀ (m : Nat) (s : LSt), lW n s → n ≤ m + s.1 → (sp_lines B m s).1 ≠ 0 → (sp_lines B m s).2.1 < n
  | 0, s, hW, hm, _ => by
    obtain ⟨i, co, Nm, CL, CF, Hn, rb, ib, sp, fi⟩ := s
    have h1 : i < n := hW.2.1.1
    have hm' : n ≤ 0 + i := hm
    omega
  | m + 1, s, hW, hm, h => by
    by_cases c : B.1 s.1 = 45
    · rw [sp_lines.eq_2, if_pos c] at h; exact absurd rfl h
    · rw [slG c] at h ⊢
      have lq := lW_line hE hW
      by_cases e : (sp_line B s).1 = 0
      · rw [if_pos e] at h ⊢
        have h1 := lq.1 e
        exact ln_w hE m _ h1.1 (by have := h1.2; omega) h
      · rw [if_neg e]; exact lq.2 e
theorem rbF_tk {RB : List (Nat × Nat)} {r : Nat} {y : Nat × Nat} (h : RB[r]? = some y) : rbF (RB.take (r + 1)) = rbF (RB.take r) * 2 ^ y.1 + y.2 := by
  rw [List.take_add_one, h]
  exact rbF_app _ _
theorem rbF_le (RB : List (Nat × Nat)) : ∀ k r, rbF (RB.take r) ≤ rbF (RB.take (r + k))
  | 0, r => Nat.le_refl _
  | k + 1, r => by
    refine Nat.le_trans (rbF_le RB k r) ?_
    cases h : RB[r + k]? with
    | none => rw [show r + (k + 1) = r + k + 1 from rfl, List.take_add_one, h]; simp
    | some y =>
      rw [show r + (k + 1) = r + k + 1 from rfl, rbF_tk h]
      have := Nat.le_mul_of_pos_right (rbF (RB.take (r + k))) (Nat.pos_of_ne_zero (n := 2 ^ y.1) (by have := Nat.two_pow_pos y.1; omega))
      omega
theorem m_rdl {RB : List (Nat × Nat)} {M : Mm} (h23 : M 40 23 = nI RB.length) (h8 : RB.length ≤ 8) (hR : ∀ (r : Nat) (y : Nat × Nat), RB[r]? = some y → M 46 r = nI y.1 ∧ M 47 r = nI y.2 ∧ y.2 < 2 ^ y.1 ∧ y.1 ≤ 8) (hb : rbF RB < 256) : ∀ d r, r ≤ RB.length → RB.length - r < d → pMo_rdl d (nI (rbF (RB.take r))) (nI r) M ∧ fMo_rdl d (nI (rbF (RB.take r))) (nI r) M = nI (rbF RB) := by
  intro d
  induction d with
  | zero => intro r _ h; omega
  | succ d ih =>
    intro r hr hd
    rw [pMo_rdl.eq_2, fMo_rdl.eq_2, h23]
    by_cases c : RB.length ≤ r
    · have c' : nI RB.length ≤ nI r := nI_le c (by omega)
      have e : r = RB.length := by omega
      rw [if_pos c', e, List.take_length]
      exact ⟨⟨fun _ => trivial, fun w => absurd (nI_le (Nat.le_refl RB.length) (by omega)) w⟩, rfl⟩
    · have c' : ¬ nI RB.length ≤ nI r := nI_ge (by omega) (by omega)
      obtain ⟨y, hy⟩ : ∃ y, RB[r]? = some y := ⟨_, List.getElem?_eq_getElem (by omega)⟩
      obtain ⟨y1, y2, y3, y4⟩ := hR r y hy
      have le := rbF_le RB (RB.length - r) r
      rw [show r + (RB.length - r) = RB.length by omega, List.take_length] at le
      have vr : vp_in (nI r) 8 := vp_in_nI (by omega) (by decide)
      rw [if_neg c', nI_clamp (n := r) (by omega), y1, y2, nI_sor (by omega) y4 y3, ← rbF_tk hy, nI_i1]
      have z := ih (r + 1) (by omega) (by omega)
      exact ⟨⟨fun w => absurd w c', fun _ => ⟨vr, vr, z.1⟩⟩, z.2⟩
/-- the model holds a circuit, just read -/
def MH (co : Nat) (Nm : NmT) (rb ib sp fi : Nat) (Hn : List Nat) (D : List Itm) (SS : Nat → Se) (e w : Nat) (I : Mm) (B : Nat → Value) (E : List (Nat × Nat)) : Prop := MW Nm rb ib sp Hn D SS I B E ∧ I 40 1 = 0 ∧ I 40 3 = nI e ∧ I 40 4 = nI w ∧ I 40 11 = nI co ∧ I 40 16 = nI Nm.length ∧ I 40 26 = nI sp ∧ I 40 46 = nI fi ∧ I 40 47 = nI fi ∧ I 40 51 = 0 ∧ I 40 52 = 0
theorem bOK_c {B : Nat → Value} {E : List (Nat × Nat)} {I I' : Mm} (h : bOK B E I) (e : ∀ a, 356 ≤ a → a < (mk_K ++ E).length → I' a = I a) : bOK B E I' := ⟨fun g hg => by
  rcases h.1 g hg with v | ⟨a, a1, a2, a3⟩
  · exact Or.inl v
  · exact Or.inr ⟨a, a1, a2, fun j hj => by rw [e a a2 (rv_lt a1)]; exact a3 j hj⟩, h.2⟩
theorem bOK_a {B : Nat → Value} {E : List (Nat × Nat)} {I : Mm} (X : List (Nat × Nat)) (h : bOK B E I) : bOK B (E ++ X) I := ⟨fun g hg => by
  rcases h.1 g hg with v | ⟨a, a1, a2, a3⟩
  · exact Or.inl v
  · exact Or.inr ⟨a, rv_app _ a1, a2, a3⟩, h.2⟩
def mOut (co : Nat) (Nm : NmT) (rb ib sp fi : Nat) (Hn : List Nat) (D : List Itm) (SP : List Cd) (e w : Nat) (M : Mm) (B : Nat → Value) (E : List (Nat × Nat)) (R : R3) : Prop := ∃ I' B' X SS, R = (I', B', E ++ X) ∧ MH co Nm rb ib sp fi Hn D SS e w I' B' (E ++ X) ∧ (∀ a, a < 40 → I' a = M a) ∧ (∀ k s, SS k s = true → s < 2 ^ rb) ∧ (∀ g C, SP[g]? = some C → ∀ v ss, runF (2 ^ rb) (2 ^ ib) (aN Nm rb ib D) (aE Nm rb ib D) SS C v ss = (v, SS g :: ss)) ∧ (∀ x ∈ X, x = (3, 256)) ∧ X.length + nnB B 4200 = nnB B' 4200
section
variable {Nm : NmT} {rb ib sp : Nat} {Hn : List Nat} {D : List Itm} {F : FT}
theorem m_rdt {n i co N fi e w : Nat} {CL CF : Cd} {RB : List (Nat × Nat)} {SP : List Cd} {M : Mm} {B : Nat → Value} {E : List (Nat × Nat)} (h : mK Nm rb ib sp Hn N F D SP M) (hW : lW n (i, co, Nm, CL, CF, Hn, rb, ib, sp, fi)) (hn : n ≤ 4001) (hF : F.length ≤ i) (hD : lDD Nm Hn D) (hRB : RB.length = cnt 29 Nm ∧ fi = rbF RB ∧ ∀ (r : Nat) (y : Nat × Nat), RB[r]? = some y → M 46 r = nI y.1 ∧ M 47 r = nI y.2 ∧ y.2 < 2 ^ y.1 ∧ y.1 ≤ 8) (h3 : M 40 3 = nI e) (h4 : M 40 4 = nI w) (h11 : M 40 11 = nI co) (h16 : M 40 16 = nI Nm.length) (hB : bOK B E M) : pMo_rdt M B E ∧ mOut co Nm rb ib sp fi Hn D SP e w M B E (fMo_rdt M B E) := by
  have e47 : ∀ a, a ≠ 40 → iMo_rd47 M a = M a := fun a ha => by
    unfold iMo_rd47
    rw [pm_u_n _ _ _ ha, pm_u_n _ _ _ ha, pm_u_n _ _ _ ha]
  have j47 : ∀ j, j ≠ 1 → j ≠ 51 → j ≠ 52 → iMo_rd47 M 40 j = M 40 j := fun j h1 h2 h3 => by
    unfold iMo_rd47
    rw [pm_u_j _ _ _ h2, pm_u_j _ _ _ h3, pm_u_j _ _ _ h1]
  obtain ⟨hC, _⟩ := mL_fT h hW hn hF hD
  have c8 := (mC_n hC).1
  have hfi : fi < 256 := by
    have := hW.2.2.2.2.2.2.2.2.2.1
    have p8 : 2 ^ rb ≤ 2 ^ 8 := Nat.pow_le_pow_right (by decide) hC.2.1.2.2.2.1
    omega
  have zl := m_rdl (RB := RB) (M := iMo_rd47 M) (by rw [j47 23 (by decide) (by decide) (by decide), hRB.1]; exact h.2.2.2.1.1) (by have := hRB.1; omega) (fun r y hy => by rw [e47 46 (by decide), e47 47 (by decide)]; exact hRB.2.2 r y hy) (by rw [← hRB.2.1]; exact hfi) 9 0 (Nat.zero_le _) (by have := hRB.1; omega)
  rw [List.take_zero] at zl
  have zl1 : pMo_rdl 9 0 0 (iMo_rd47 M) := zl.1
  have zl2 : fMo_rdl 9 0 0 (iMo_rd47 M) = nI fi := by rw [hRB.2.1]; exact zl.2
  have e96 : ∀ a, a ≠ 40 → iMo_rd96 M a = M a := fun a ha => by
    unfold iMo_rd96
    rw [pm_u_n _ _ _ ha, pm_u_n _ _ _ ha, e47 a ha]
  have j96 : ∀ j, j ≠ 1 → j ≠ 51 → j ≠ 52 → j ≠ 46 → j ≠ 47 → iMo_rd96 M 40 j = M 40 j := fun j h1 h2 h3 h4 h5 => by
    unfold iMo_rd96
    rw [pm_u_j _ _ _ h5, pm_u_j _ _ _ h4, j47 j h1 h2 h3]
  have x1 : iMo_rd96 M 40 1 = 0 := by simp [iMo_rd96, iMo_rd47, pm_u_j, pm_u_s]
  have x51 : iMo_rd96 M 40 51 = 0 := by simp [iMo_rd96, iMo_rd47, pm_u_j, pm_u_s]
  have x52 : iMo_rd96 M 40 52 = 0 := by simp [iMo_rd96, iMo_rd47, pm_u_j, pm_u_s]
  have x47 : iMo_rd96 M 40 47 = nI fi := by unfold iMo_rd96; rw [pm_u_s, zl2]
  have x46 : iMo_rd96 M 40 46 = nI fi := by unfold iMo_rd96; rw [pm_u_j _ _ _ (by decide), pm_u_s, zl2]
  have hK : mK Nm rb ib sp Hn N F D SP (iMo_rd96 M) := mK_c h (fun a h1 h2 => e96 a (by omega)) (fun j hj => j96 j (by omega) (by omega) (by omega) (by omega) (by omega))
  obtain ⟨z1, I', B', X, SS, z2, z3, z4, z5, z6, z7, z8⟩ := m_wo (B := B) (E := E) hK hW hn hF hD (bOK_c hB (fun a h1 _ => e96 a (by omega)))
  have r40 : I' 40 = iMo_rd96 M 40 := z3 40 (by decide) (by decide) (by decide) (by decide)
  refine ⟨⟨zl1, z1⟩, I', B', X, SS, z2, ⟨z4, by rw [r40]; exact x1, by rw [r40, j96 3 (by decide) (by decide) (by decide) (by decide) (by decide)]; exact h3, by rw [r40, j96 4 (by decide) (by decide) (by decide) (by decide) (by decide)]; exact h4, by rw [r40, j96 11 (by decide) (by decide) (by decide) (by decide) (by decide)]; exact h11, by rw [r40, j96 16 (by decide) (by decide) (by decide) (by decide) (by decide)]; exact h16, by rw [r40, j96 26 (by decide) (by decide) (by decide) (by decide) (by decide)]; exact h.2.2.2.1.2.2.2.1, by rw [r40]; exact x46, by rw [r40]; exact x47, by rw [r40]; exact x51, by rw [r40]; exact x52⟩, fun a ha => ?_, z5, z6, z7, z8⟩
  rw [z3 a (by omega) (by omega) (by omega) (by omega)]
  exact e96 a (by omega)
end
theorem dW_k {Nm : NmT} : ∀ (D : List Itm) (lo : Nat), dW Nm lo D → ∀ x ∈ D, x.1 = 31 ∨ x.1 = 32
  | [], _, _, x, hx => absurd hx List.not_mem_nil
  | y :: l, lo, h, x, hx => by
    obtain ⟨p, _, _, _, _, h5⟩ := h
    rcases h5 with ⟨q1, _, _, _, q2⟩ | ⟨q1, _, _, q2⟩
    · rcases List.mem_cons.mp hx with e | e
      · rw [e]; exact Or.inl q1
      · exact dW_k l _ q2 x e
    · rcases List.mem_cons.mp hx with e | e
      · rw [e]; exact Or.inr q1
      · exact dW_k l _ q2 x e
section
variable {b : Nat → Nat} {L n : Nat}
/-- the text is right -/
theorem m_rdA {I : Mm} {B : Nat → Value} {E : List (Nat × Nat)} (hT : mBt I b L) (hE : bE (tB b L) n) (hB : bOK B E I) {i co rb ib sp fi : Nat} {Nm : NmT} {CL CF : Cd} {Hn : List Nat} {D : List Itm} {SP : List Cd} (hr : sp_lines (tB b L) 4002 l0 = (0, 0, (i, co, Nm, CL, CF, Hn, rb, ib, sp, fi)) ∨ ((sp_lines (tB b L) 4002 l0).1 = 0 ∧ (sp_lines (tB b L) 4002 l0).2.2 = (i, co, Nm, CL, CF, Hn, rb, ib, sp, fi))) (hDD : CL = flI D ∧ lDD Nm Hn D) (hSP : CF = flS SP 0 ∧ SP.length = sp ∧ ∀ g C, SP[g]? = some C → gS Nm g C) : pMo_rdx I ∧ (fMo_rdx I).1 = 0 ∧ pMo_rdt (fMo_rdx I).2.2 B E ∧ mOut co Nm rb ib sp fi Hn D SP 0 0 I B E (fMo_rdt (fMo_rdx I).2.2 B E) := by
  obtain ⟨r1, r2⟩ : (sp_lines (tB b L) 4002 l0).1 = 0 ∧ (sp_lines (tB b L) 4002 l0).2.2 = (i, co, Nm, CL, CF, Hn, rb, ib, sp, fi) := by
    rcases hr with q | q
    · rw [q]; exact ⟨rfl, rfl⟩
    · exact q
  obtain ⟨m1, ⟨m2, _⟩, m4⟩ := m_read hT hE
  obtain ⟨g1, ⟨N, F, RB, D', SP', g2, g3, g4⟩, g5, g6⟩ := m2 r1
  rw [r2] at g2 g3 g4 g5
  have hD' : D' = D := by
    refine flI_u D' D (fun x hx => ?_) (fun x hx => ?_) (g2.2.2.2.2.1.1.symm.trans hDD.1)
    · obtain ⟨d0, d1, y, lo, d2, d3, d4⟩ := g2.2.2.2.2.1.2 x hx
      refine ⟨d0, ?_⟩
      rcases d4 with ⟨q, _⟩ | ⟨q, _⟩
      · exact Or.inl q
      · exact Or.inr q
    · exact ⟨hDD.2.2.2.2.2 x hx, dW_k D 0 hDD.2.1 x hx⟩
  have hSP' : SP' = SP := flS_u (fun C hC => by
      obtain ⟨g, hg⟩ := List.getElem?_of_mem hC
      obtain ⟨h, _, hG⟩ := hSP.2.2 g C hg
      exact GC_33 hG) (by rw [g2.2.2.2.2.2.2.1, hSP.2.1]) (g2.2.2.2.2.2.1.symm.trans hSP.1)
  rw [hD', hSP'] at g2
  have k34 := g2.1.1.1.2.2.2
  obtain ⟨z1, I', B', X, SS, z2, z3, z4, z5⟩ := m_rdt (e := 0) (w := 0) (B := B) (E := E) (mK_L g2) g5 hE.2.1 g4 hDD.2 g2.2.2.2.1 k34.1 k34.2 g2.1.1.2.2.1 g2.1.1.2.2.2.2.1.1 (bOK_c hB (fun a h1 _ => by rw [g6 a (by omega), m4 a (by omega)]))
  refine ⟨m1, g1, z1, I', B', X, SS, z2, z3, fun a ha => ?_, z5⟩
  rw [z4 a ha, g6 a (Or.inl ha), m4 a (by omega)]
theorem m_clr (M : Mm) : (∀ a, a ≠ 40 → fMo_clear M a = M a) ∧ (fMo_clear M 40 3 = M 40 3 ∧ fMo_clear M 40 4 = M 40 4) ∧ fMo_clear M 40 11 = 0 ∧ fMo_clear M 40 16 = 0 ∧ fMo_clear M 40 38 = 0 ∧ fMo_clear M 40 23 = 0 ∧ fMo_clear M 40 24 = 0 ∧ fMo_clear M 40 25 = 0 ∧ fMo_clear M 40 26 = 0 ∧ fMo_clear M 40 27 = 0 ∧ fMo_clear M 40 28 = 0 := by
  refine ⟨fun a ha => ?_, ⟨?_, ?_⟩, ?_, ?_, ?_, ?_, ?_, ?_, ?_, ?_, ?_⟩
  · unfold fMo_clear
    rw [pm_u_n _ _ _ ha, pm_u_n _ _ _ ha, pm_u_n _ _ _ ha, pm_u_n _ _ _ ha, pm_u_n _ _ _ ha, pm_u_n _ _ _ ha, pm_u_n _ _ _ ha, pm_u_n _ _ _ ha, pm_u_n _ _ _ ha, pm_u_n _ _ _ ha, pm_u_n _ _ _ ha, pm_u_n _ _ _ ha, pm_u_n _ _ _ ha]
  all_goals simp [fMo_clear, pm_u_j, pm_u_s]
theorem mK_0 {M : Mm} (h38 : M 40 38 = 0) (h23 : M 40 23 = 0) (h24 : M 40 24 = 0) (h25 : M 40 25 = 0) (h26 : M 40 26 = 0) (h27 : M 40 27 = 0) (h28 : M 40 28 = 0) : mK [] 0 0 0 [] 0 [] [] [] M := by
  have no : ∀ (k : Nat) (x : Nat × Nat × Nat × Nat), ([] : NmT)[k]? ≠ some x := fun k x hx => by rw [List.getElem?_nil] at hx; cases hx
  refine ⟨fun k x hx => absurd hx (no k x), h38, ⟨fun g x hx => ?_, fun k x hx => absurd hx (no k x), fun g x hx => ?_, fun q hq => absurd hq (Nat.not_lt_zero _)⟩, ⟨h23, h24, h25, h26, h27, h28⟩, fun k x hx => absurd hx (no k x), fun x hx => absurd hx List.not_mem_nil, rfl, fun g C hg => ?_⟩
  · rw [List.getElem?_nil] at hx; cases hx
  · rw [List.getElem?_nil] at hx; cases hx
  · rw [List.getElem?_nil] at hg; cases hg
/-- the text is wrong -/
theorem m_rdF {I : Mm} {B : Nat → Value} {E : List (Nat × Nat)} (hT : mBt I b L) (hE : bE (tB b L) n) (hB : bOK B E I) (hr : (sp_lines (tB b L) 4002 l0).1 ≠ 0) (m : Nat) (hm : m = (mk_K ++ E).length) : pMo_rdx I ∧ ¬ (fMo_rdx I).1 = 0 ∧ pMo_rdc I m ∧ pMo_rdt (iMo_rdc I m) B (E ++ [(0, 11)]) ∧ (sp_lines (tB b L) 4002 l0).1 < 9 ∧ mOut 0 [] 0 0 0 0 [] [] [] (sp_lines (tB b L) 4002 l0).1 (tF b L (sp_lines (tB b L) 4002 l0).2.1) I B (E ++ [(0, 11)]) (fMo_rdt (iMo_rdc I m) B (E ++ [(0, 11)])) := by
  obtain ⟨m1, ⟨_, m3⟩, m4⟩ := m_read hT hE
  obtain ⟨g1, g2, g3, g4⟩ := m3 hr
  generalize (sp_lines (tB b L) 4002 l0).1 = e at *
  generalize tF b L (sp_lines (tB b L) 4002 l0).2.1 = w at *
  have m356 : 356 ≤ m := by rw [hm]; exact mk_len E
  have ne : ¬ (fMo_rdx I).1 = 0 := by
    rw [g1]
    intro q
    exact hr ((nI_eq (a := e) (b := 0) (by omega) (by decide)).mp q)
  obtain ⟨c0, ⟨c3, c4⟩, c11, c16, c38, c23, c24, c25, c26, c27, c28⟩ := m_clr (pm_u (pm_u (pm_u (pm_u (pm_z (fMo_rdx I).2.2 m 0) m 5 (fMo_rdx I).1) m 6 (fMo_rdx I).2.1) 40 3 (fMo_rdx I).1) 40 4 (fMo_rdx I).2.1)
  have y3 : iMo_rdc I m 40 3 = nI e := by
    unfold iMo_rdc
    rw [c3, pm_u_j _ _ _ (by decide), pm_u_s, g1]
  have y4 : iMo_rdc I m 40 4 = nI w := by
    unfold iMo_rdc
    rw [c4, pm_u_s, g2]
  have ya : ∀ a, a ≠ 40 → a ≠ m → (a < 40 ∨ 59 < a) → iMo_rdc I m a = I a := fun a h1 h2 h3 => by
    unfold iMo_rdc
    rw [c0 a h1, pm_u_n _ _ _ h1, pm_u_n _ _ _ h1, pm_u_n _ _ _ h2, pm_u_n _ _ _ h2, pm_z_n _ _ h2, g3 a h3, m4 a h1]
  have hK : mK [] 0 0 0 [] 0 [] [] [] (iMo_rdc I m) := mK_0 c38 c23 c24 c25 c26 c27 c28
  obtain ⟨⟨D0, d1, d2⟩, _⟩ := lD_0
  have hD0 : D0 = [] := by
    cases D0 with
    | nil => rfl
    | cons x l =>
      have := congrArg List.length d1
      unfold flI at this
      simp at this
  rw [hD0] at d2
  obtain ⟨z1, I', B', X, SS, z2, z3, z4, z5⟩ := m_rdt (e := e) (w := w) (RB := []) (B := B) (E := E ++ [(0, 11)]) hK (lW_0 hE) hE.2.1 (Nat.le_refl _) d2 ⟨rfl, rfl, fun r y hy => by rw [List.getElem?_nil] at hy; cases hy⟩ y3 y4 c11 c16 (bOK_a _ (bOK_c hB (fun a h1 h2 => ya a (by omega) (by omega) (by omega))))
  exact ⟨m1, ne, trivial, z1, g4, I', B', X, SS, z2, z3, fun a ha => by rw [z4 a ha, ya a (by omega) (by omega) (by omega)], z5⟩
end
