/-! MODEL'S EXPRESSIONS: read as the grammar's function says -/
def mkd (k : Nat) : Nat := if k = 29 then 1 else if k = 30 then 2 else if k = 31 then 3 else if k = 33 then 4 else 0
/-- the model reads: at token i, costs co, N nodes -/
def mS (b : Nat → Nat) (L : Nat) (NL : NmT) (i co N : Nat) (M : Mm) : Prop := mBy M b L ∧ mN b L i M ∧ M 40 11 = nI co ∧ M 40 34 = nI N ∧ mNw b L NL M ∧ ∀ (k : Nat) (x : Nat × Nat × Nat × Nat), NL[k]? = some x → M 44 k = nI (mkd x.2.1)
def mF (N : Nat) (M M' : Mm) : Prop := (∀ a, a ≠ 40 → (a < 52 ∨ 56 < a) → M' a = M a) ∧ (∀ j, (j < 5 ∨ 11 < j) → j ≠ 34 → M' 40 j = M 40 j) ∧ (∀ a k, k < N → 52 ≤ a → a ≤ 56 → M' a k = M a k)
theorem mF_r (N : Nat) (M : Mm) : mF N M M := ⟨fun _ _ _ => rfl, fun _ _ _ => rfl, fun _ _ _ _ _ => rfl⟩
theorem mF_t {N N' : Nat} {M M' M'' : Mm} (h : mF N M M') (h' : mF N' M' M'') (hN : N ≤ N') : mF N M M'' := ⟨fun a h1 h2 => (h'.1 a h1 h2).trans (h.1 a h1 h2), fun j h1 h2 => (h'.2.1 j h1 h2).trans (h.2.1 j h1 h2), fun a k h1 h2 h3 => (h'.2.2 a k (by omega) h2 h3).trans (h.2.2 a k h1 h2 h3)⟩
theorem mF_f {N : Nat} {M M' : Mm} (h : mfr M M') : mF N M M' := ⟨fun a h1 _ => h.1 a h1, fun j h1 _ => h.2 j (by omega), fun a k _ h2 _ => by rw [h.1 a (by omega)]⟩
theorem mF_w {N : Nat} {M M' : Mm} (h : mF N M M') : mw M M' := fun a ha => h.1 a (by omega) (by omega)
theorem mF_N {N N' : Nat} {M M' : Mm} (h : mF N' M M') (hN : N ≤ N') : mF N M M' := ⟨h.1, h.2.1, fun a k h1 h2 h3 => h.2.2 a k (by omega) h2 h3⟩
theorem mw_t {M M' M'' : Mm} (h : mw M M') (h' : mw M' M'') : mw M M'' := fun a ha => (h' a ha).trans (h a ha)
theorem mF_ag {N lo e : Nat} {M M' : Mm} (h : mF N M M') (he : e < N) : agN lo e M M' := fun k _ h2 => ⟨h.2.2 52 k (by omega) (by decide) (by decide), h.2.2 53 k (by omega) (by decide) (by decide), h.2.2 54 k (by omega) (by decide) (by decide), fun _ => ⟨h.2.2 55 k (by omega) (by decide) (by decide), h.2.2 56 k (by omega) (by decide) (by decide)⟩⟩
/-- the standing changes, nothing else -/
theorem mS_f {b : Nat → Nat} {L : Nat} {NL : NmT} {i j co N : Nat} {M M' : Mm} (h : mS b L NL i co N M) (f : mfr M M') (hn : mN b L j M') : mS b L NL j co N M' := ⟨mBy_f h.1 f, hn, by rw [f.2 11 (by decide)]; exact h.2.2.1, by rw [f.2 34 (by decide)]; exact h.2.2.2.1, ⟨by rw [f.2 16 (by decide)]; exact h.2.2.2.2.1.1, h.2.2.2.2.1.2.1, fun k x hx => by rw [f.1 42 (by decide), f.1 43 (by decide)]; exact h.2.2.2.2.1.2.2 k x hx⟩, fun k x hx => by rw [f.1 44 (by decide)]; exact h.2.2.2.2.2 k x hx⟩
theorem mN_u {b : Nat → Nat} {L i : Nat} {M M' : Mm} (h : mN b L i M) (e : ∀ j, 5 ≤ j → j ≤ 10 → M' 40 j = M 40 j) : mN b L i M' := by
  rcases h with h | h
  · exact Or.inl ⟨by rw [e 10 (by decide) (by decide)]; exact h.1, by rw [e 5 (by decide) (by decide)]; exact h.2.1, by rw [e 9 (by decide) (by decide)]; exact h.2.2⟩
  · exact Or.inr ⟨by rw [e 10 (by decide) (by decide)]; exact h.1, by rw [e 5 (by decide) (by decide)]; exact h.2.1, by rw [e 6 (by decide) (by decide)]; exact h.2.2.1, by rw [e 7 (by decide) (by decide)]; exact h.2.2.2.1, by rw [e 8 (by decide) (by decide)]; exact h.2.2.2.2.1, by rw [e 9 (by decide) (by decide)]; exact h.2.2.2.2.2.1, h.2.2.2.2.2.2⟩
/-- costs, or nodes, are written -/
theorem mS_u {b : Nat → Nat} {L : Nat} {NL : NmT} {i co N co' N' : Nat} {M M' : Mm} (h : mS b L NL i co N M) (e : ∀ j, j ≠ 11 → j ≠ 34 → j < 38 → M' 40 j = M 40 j) (ea : ∀ a, a ≠ 40 → a < 52 → M' a = M a) (e11 : M' 40 11 = nI co') (e34 : M' 40 34 = nI N') : mS b L NL i co' N' M' := ⟨mBy_c h.1 (e 1 (by decide) (by decide) (by decide)) (ea 41 (by decide) (by decide)) (e 3 (by decide) (by decide) (by decide)) (e 4 (by decide) (by decide) (by decide)), mN_u h.2.1 (fun j h1 h2 => e j (by omega) (by omega) (by omega)), e11, e34, ⟨by rw [e 16 (by decide) (by decide) (by decide)]; exact h.2.2.2.2.1.1, h.2.2.2.2.1.2.1, fun k x hx => by rw [ea 42 (by decide) (by decide), ea 43 (by decide) (by decide)]; exact h.2.2.2.2.1.2.2 k x hx⟩, fun k x hx => by rw [ea 44 (by decide) (by decide)]; exact h.2.2.2.2.2 k x hx⟩
theorem m_node {M : Mm} {N : Nat} (h : M 40 34 = nI N) (hN : N < 4200) (y1 y2 y3 : Int32) : pMo_node y1 y2 y3 M ∧ ∃ M', fMo_node y1 y2 y3 M = (nI N, M') ∧ M' 52 N = y1 ∧ M' 53 N = y2 ∧ M' 54 N = y3 ∧ M' 55 N = -1 ∧ M' 40 34 = nI (N + 1) ∧ (∀ j, j ≠ 34 → M' 40 j = M 40 j) ∧ (∀ a, a ≠ 40 → (a < 52 ∨ 55 < a) → M' a = M a) ∧ (∀ a k, a ≠ 40 → k ≠ N → M' a k = M a k) := by
  have v : vp_in (nI N) 4200 := vp_in_nI hN (by decide)
  unfold pMo_node fMo_node
  rw [h, nI_clamp (by omega), nI_1]
  refine ⟨⟨v, v, v, v, trivial⟩, _, rfl, ?_, ?_, ?_, ?_, ?_, fun j hj => ?_, fun a h1 h2 => ?_, fun a k h1 h2 => ?_⟩
  · rw [pm_u_n _ _ _ (by decide), pm_u_n _ _ _ (by decide), pm_u_n _ _ _ (by decide), pm_u_n _ _ _ (by decide), pm_u_s]
  · rw [pm_u_n _ _ _ (by decide), pm_u_n _ _ _ (by decide), pm_u_n _ _ _ (by decide), pm_u_s]
  · rw [pm_u_n _ _ _ (by decide), pm_u_n _ _ _ (by decide), pm_u_s]
  · rw [pm_u_n _ _ _ (by decide), pm_u_s]
  · rw [pm_u_s]
  · rw [pm_u_j _ _ _ hj, pm_u_n _ _ _ (by decide), pm_u_n _ _ _ (by decide), pm_u_n _ _ _ (by decide), pm_u_n _ _ _ (by decide)]
  · rw [pm_u_n _ _ _ h1, pm_u_n _ _ _ (by omega), pm_u_n _ _ _ (by omega), pm_u_n _ _ _ (by omega), pm_u_n _ _ _ (by omega)]
  · have uu : ∀ (X : Mm) (q : Nat) (w : Int32), pm_u X q N w a k = X a k := fun X q w => by
      unfold pm_u
      by_cases e : a = q
      · rw [if_pos e]; show (if k = N then w else X q k) = X a k; rw [if_neg h2, e]
      · rw [if_neg e]
    rw [pm_u_n _ _ _ h1, uu, uu, uu, uu]
/-- what the model's functions on expressions answer -/
def MR (b : Nat → Nat) (L : Nat) (NL : NmT) (m i N : Nat) (M : Mm) (r : SR) (q : Int32 × Int32 × Int32 × Mm) : Prop := (r.1 = 0 → q.1 = 0 ∧ ∃ e N', q.2.2.1 = nI e ∧ mS b L NL r.2.2.1 r.2.2.2.1 N' q.2.2.2 ∧ N ≤ e ∧ e < N' ∧ N' + i ≤ N + r.2.2.1 ∧ Ev q.2.2.2 m N e r.2.2.2.2 ∧ q.2.2.2 55 e = -1 ∧ mF N M q.2.2.2) ∧ (r.1 ≠ 0 → q.1 = nI r.1 ∧ q.2.1 = nI (tF b L r.2.1) ∧ mw M q.2.2.2 ∧ r.1 < 9)
theorem MR_f {b : Nat → Nat} {L : Nat} {NL : NmT} {m i N e w : Nat} {M : Mm} {q : Int32 × Int32 × Int32 × Mm} (he : e ≠ 0 ∧ e < 9) (h1 : q.1 = nI e) (h2 : q.2.1 = nI (tF b L w)) (h3 : mw M q.2.2.2) : MR b L NL m i N M (sp_fail e w) q := ⟨fun h => absurd h he.1, fun _ => ⟨h1, h2, h3, he.2⟩⟩
theorem MR_b {b : Nat → Nat} {L : Nat} {NL : NmT} {m i N : Nat} {M : Mm} {r : SR} {q : Int32 × Int32 × Int32 × Mm} (he : r.1 ≠ 0) (h1 : q.1 = nI r.1) (h2 : q.2.1 = nI (tF b L r.2.1)) (h3 : mw M q.2.2.2) (h9 : r.1 < 9) : MR b L NL m i N M r q := ⟨fun h => absurd h he, fun _ => ⟨h1, h2, h3, h9⟩⟩
theorem meQ0 (m : Nat) (x0 x1 : Int32) (I : Mm) : me_Q (m + 1) 0 x0 x1 I = pMo_expression (me_F m) (me_Q m) x0 I := by rw [me_Q.eq_2]; exact if_pos rfl
theorem meF0 (m : Nat) (x0 x1 : Int32) (I : Mm) : me_F (m + 1) 0 x0 x1 I = fMo_expression (me_F m) x0 I := by rw [me_F.eq_2]; exact if_pos rfl
theorem meQ1 (m : Nat) (x0 x1 : Int32) (I : Mm) : me_Q (m + 1) 1 x0 x1 I = pMo_chain (me_F m) (me_Q m) 4002 x0 x1 I := by rw [me_Q.eq_2, if_neg (by decide)]; exact if_pos rfl
theorem meF1 (m : Nat) (x0 x1 : Int32) (I : Mm) : me_F (m + 1) 1 x0 x1 I = fMo_chain (me_F m) 4002 x0 x1 I := by rw [me_F.eq_2, if_neg (by decide)]; exact if_pos rfl
theorem meQ2 (m : Nat) (x0 x1 : Int32) (I : Mm) : me_Q (m + 1) 2 x0 x1 I = pMo_unary (me_F m) (me_Q m) x0 I := by rw [me_Q.eq_2, if_neg (by decide), if_neg (by decide)]; exact if_pos rfl
theorem meF2 (m : Nat) (x0 x1 : Int32) (I : Mm) : me_F (m + 1) 2 x0 x1 I = fMo_unary (me_F m) x0 I := by rw [me_F.eq_2, if_neg (by decide), if_neg (by decide)]; exact if_pos rfl
theorem sp_deep {T : TT} {m t d i co : Nat} (ht : t = 0 ∨ t = 2) (hd : 40 < d) (h9 : (sp_E T m t 0 d i co).1 ≠ 9) : sp_E T m t 0 d i co = sp_fail 4 i := by
  cases m with
  | zero => exact absurd rfl h9
  | succ m =>
    rcases ht with rfl | rfl
    · show (if (0 : Nat) = 0 then sp_expr T (sp_E T m) d i co else _) = _
      rw [if_pos rfl]; unfold sp_expr; rw [if_pos hd]
    · show (if (2 : Nat) = 0 then _ else if (2 : Nat) = 1 then _ else sp_unary T (sp_E T m) d i co) = _
      rw [if_neg (by decide), if_neg (by decide)]; unfold sp_unary; rw [if_pos hd]
section
variable {b : Nat → Nat} {L : Nat} {n : Nat} {Nm NL : NmT}
/-- t 0: expression (x0 its depth), 1: chain (level, depth), 2: unary -/
def HM (b : Nat → Nat) (L : Nat) (Nm NL : NmT) (n m : Nat) : Prop := ∀ (t l d i co N : Nat) (M : Mm), t ≤ 2 → l ≤ 10 → d ≤ 40 → i < n → co ≤ 3000 → N ≤ i → (sp_E (tT (tB b L) Nm) m t l d i co).1 ≠ 9 → mS b L NL i co N M → me_Q m t (if t = 1 then nI l else nI d) (if t = 1 then nI d else 0) M ∧ MR b L NL m i N M (sp_E (tT (tB b L) Nm) m t l d i co) (me_F m t (if t = 1 then nI l else nI d) (if t = 1 then nI d else 0) M)
theorem HM0 {m : Nat} (h : HM b L Nm NL n m) {d i co N : Nat} {M : Mm} (hd : d ≤ 40) (hi : i < n) (hco : co ≤ 3000) (hN : N ≤ i) (h9 : (sp_E (tT (tB b L) Nm) m 0 0 d i co).1 ≠ 9) (hS : mS b L NL i co N M) : me_Q m 0 (nI d) 0 M ∧ MR b L NL m i N M (sp_E (tT (tB b L) Nm) m 0 0 d i co) (me_F m 0 (nI d) 0 M) := h 0 0 d i co N M (by decide) (by decide) hd hi hco hN h9 hS
theorem HM1 {m : Nat} (h : HM b L Nm NL n m) {l d i co N : Nat} {M : Mm} (hl : l ≤ 10) (hd : d ≤ 40) (hi : i < n) (hco : co ≤ 3000) (hN : N ≤ i) (h9 : (sp_E (tT (tB b L) Nm) m 1 l d i co).1 ≠ 9) (hS : mS b L NL i co N M) : me_Q m 1 (nI l) (nI d) M ∧ MR b L NL m i N M (sp_E (tT (tB b L) Nm) m 1 l d i co) (me_F m 1 (nI l) (nI d) M) := h 1 l d i co N M (by decide) hl hd hi hco hN h9 hS
theorem HM2 {m : Nat} (h : HM b L Nm NL n m) {d i co N : Nat} {M : Mm} (hd : d ≤ 40) (hi : i < n) (hco : co ≤ 3000) (hN : N ≤ i) (h9 : (sp_E (tT (tB b L) Nm) m 2 0 d i co).1 ≠ 9) (hS : mS b L NL i co N M) : me_Q m 2 (nI d) 0 M ∧ MR b L NL m i N M (sp_E (tT (tB b L) Nm) m 2 0 d i co) (me_F m 2 (nI d) 0 M) := h 2 0 d i co N M (by decide) (by decide) hd hi hco hN h9 hS
/-- a sign before an operand -/
theorem meA {m : Nat} (hE : bE (tB b L) n) (hm : HM b L Nm NL n m) {d i co N : Nat} {M0 M : Mm} (o p t : Nat) (ho : (o = 49 ∧ t = 45) ∨ (o = 18 ∧ t = 126) ∨ (o = 19 ∧ t = 33)) (hd : d ≤ 40) (hi : i < n) (hk : tK b L i < 45) (hp9 : p ≤ 1000) (hco : co ≤ 3000) (hN : N ≤ i) (hS : mS b L NL i co N M) (hq : mQ b L i M) (hf : mfr M0 M) (h9 : (sp_pay i co p (fun co => sp_b (sp_E (tT (tB b L) Nm) m 2 0 (d + 1) (i + 1) co) (fun j c C => sp_ok j c (C ++ [(o, 0)])))).1 ≠ 9) : pMo_unary_47 (me_F m) (me_Q m) (nI d) (nI t) (nI p) M ∧ MR b L NL (m + 1) i N M0 (sp_pay i co p (fun co => sp_b (sp_E (tT (tB b L) Nm) m 2 0 (d + 1) (i + 1) co) (fun j c C => sp_ok j c (C ++ [(o, 0)])))) (fMo_unary_47 (me_F m) (nI d) (nI t) (nI p) M) := by
  have hn := hE.2.1
  unfold pMo_unary_47 fMo_unary_47
  unfold sp_pay at h9 ⊢
  by_cases hp : co + p ≤ 3000
  rotate_left
  · rw [if_neg hp]
    have x := m_pay1 hS.2.2.1 hq hp (by omega)
    exact mq1 x.1 (by rw [x.2.1]; decide) (MR_f (by decide) x.2.1 x.2.2.1 (mw_t (mfr_w hf) x.2.2.2))
  rw [if_pos hp] at h9 ⊢
  dsimp only at h9 ⊢
  have x := m_pay0 hS.2.2.1 hp
  rw [x.2]
  refine mq0 x.1 rfl ?_
  dsimp only
  have S1 : mS b L NL i (co + p) N (pm_u M 40 11 (nI (co + p))) := mS_u hS (fun j h1 _ _ => pm_u_j _ _ _ h1) (fun a h1 _ => pm_u_n _ _ _ h1) (pm_u_s _ _ _ _) (by rw [pm_u_j _ _ _ (by decide)]; exact hS.2.2.2.1)
  have F1 : mF N M (pm_u M 40 11 (nI (co + p))) := ⟨fun a h1 _ => pm_u_n _ _ _ h1, fun j h1 h2 => pm_u_j _ _ _ (by omega), fun a k _ h2 _ => by rw [pm_u_n _ _ _ (by omega)]⟩
  have q1 : mQ b L i (pm_u M 40 11 (nI (co + p))) := by
    refine ⟨?_, ?_, ?_, ?_, ?_, ?_, hq.2.2.2.2.2.2⟩
    · rw [pm_u_j _ _ _ (by decide)]; exact hq.1
    · rw [pm_u_j _ _ _ (by decide)]; exact hq.2.1
    · rw [pm_u_j _ _ _ (by decide)]; exact hq.2.2.1
    · rw [pm_u_j _ _ _ (by decide)]; exact hq.2.2.2.1
    · rw [pm_u_j _ _ _ (by decide)]; exact hq.2.2.2.2.1
    · rw [pm_u_j _ _ _ (by decide)]; exact hq.2.2.2.2.2.1
  generalize pm_u M 40 11 (nI (co + p)) = M1 at S1 F1 q1
  obtain ⟨t1, M2, t2, t3, t4⟩ := m_take q1 (by omega)
  unfold pMo_unary_50 fMo_unary_50
  rw [t2]
  refine mq0 t1 rfl ?_
  dsimp only
  have S2 := mS_f S1 t4 (Or.inl t3)
  have F2 : mF N M0 M2 := mF_t (mF_t (mF_f hf) F1 (Nat.le_refl _)) (mF_f t4) (Nat.le_refl _)
  have si := tEnd_s (bE_T hE Nm) hi hk
  unfold pMo_unary_54 fMo_unary_54
  by_cases d4 : d < 40
  rotate_left
  · have x := m_nest1 S2.1 (by omega) S2.2.1 (show 40 ≤ d by omega) (by omega)
    rw [sp_deep (Or.inr rfl) (by omega) (b9 h9), sp_b1 (show ¬ (sp_fail 4 (i + 1)).1 = 0 by show ¬ (4 : Nat) = 0; decide)]
    exact mq1 x.1 (by rw [x.2.1]; decide) (MR_f (by decide) x.2.1 x.2.2.1 (mw_t (mF_w F2) x.2.2.2))
  have ns := m_nest0 (M := M2) d4
  rw [ns.2]
  refine mq0 ns.1 rfl ?_
  dsimp only
  unfold pMo_unary_63 fMo_unary_63
  have u := HM2 hm (d := d + 1) (i := i + 1) (co := co + p) (N := N) (by omega) si hp (by omega) (b9 h9) S2
  have ln := sp_len (bE_T hE Nm) m 2 0 (d + 1) (i + 1) (co + p) si hp
  generalize me_F m 2 (nI (d + 1)) 0 M2 = q at u
  generalize sp_E (tT (tB b L) Nm) m 2 0 (d + 1) (i + 1) (co + p) = r at u ln h9 ⊢
  by_cases e1 : r.1 = 0
  rotate_left
  · rw [sp_b1 e1]
    have z := u.2.2 e1
    exact mq1 u.1 (by rw [z.1]; exact e9 e1 z.2.2.2) (MR_b e1 z.1 z.2.1 (mw_t (mF_w F2) z.2.2.1) z.2.2.2)
  rw [sp_b0 e1]
  have l1 := ln e1
  obtain ⟨z1, e, N', z2, z3, z4, z5, z6, z7, z8, z9⟩ := u.2.1 e1
  refine mq0 u.1 z1 ?_
  unfold pMo_unary_66 fMo_unary_66
  rw [z2]
  obtain ⟨n1, M4, n2, a52, a53, a54, a55, a34, aj, aa, ak⟩ := m_node z3.2.2.2.1 (by have := l1.2.2.1; omega) 2 (nI t) (nI e)
  rw [n2]
  dsimp only
  refine sqt ⟨n1, fun _ => ⟨rfl, N', N' + 1, rfl, ?_, by omega, by omega, ?_, ?_, a55, ?_⟩, fun q => absurd rfl q⟩
  · exact mS_u z3 (fun j _ h _ => aj j h) (fun a h1 h2 => aa a h1 (by omega)) ((aj 11 (by decide)).trans z3.2.2.1) a34
  · show N' + 1 + i ≤ N + r.2.2.1
    omega
  · have ag : agN N e q.2.2.2 M4 := fun k _ h2 => ⟨ak 52 k (by decide) (by omega), ak 53 k (by decide) (by omega), ak 54 k (by decide) (by omega), fun _ => ⟨ak 55 k (by decide) (by omega), ak 56 k (by decide) (by omega)⟩⟩
    exact Ev_un ho (Ev_c z7 ag (Nat.le_refl _) (Nat.le_refl _)) (by omega) (by have := l1.2.2.1; omega) a52 a53 a54
  · refine mF_t F2 (mF_t z9 ⟨fun a h1 h2 => aa a h1 (by omega), fun j h1 h2 => aj j h2, fun a k h1 h2 h3 => ak a k (by omega) (by omega)⟩ (Nat.le_refl N)) (Nat.le_refl _)
theorem mt_u : ∀ k, k < 48 → k ≠ 47 → (nI (mt k) = 45 ↔ k = 13) ∧ (nI (mt k) = 126 ↔ k = 18) ∧ (nI (mt k) = 33 ↔ k = 19) ∧ (nI (mt k) = 40 ↔ k = 4) ∧ (nI (mt k) = 63 ↔ k = 3) := by decide +kernel
/-- the names: NL may hold one more, which is being declared -/
def nlOk (Nm NL : NmT) : Prop := NL = Nm ∨ ∃ t, NL = Nm ++ [(t, 0, 0, 0)]
theorem fnd_a (sm : Nat → Nat → Bool) (x : Nat × Nat × Nat × Nat) (i : Nat) : ∀ (l : NmT) (k : Nat), fnd sm (l ++ [x]) k i = (match fnd sm l k i with | some r => some r | none => if sm x.1 i = true then some (k + l.length) else none)
  | [], k => by unfold fnd fnd; rfl
  | y :: l, k => by
    rw [List.cons_append]
    unfold fnd
    by_cases c : sm y.1 i = true
    · rw [if_pos c, if_pos c]
    · rw [if_neg c, if_neg c, fnd_a sm x i l (k + 1)]
      simp only [List.length_cons]
      rw [show k + 1 + l.length = k + (l.length + 1) by omega]
theorem meN {M : Mm} {i co N : Nat} (hNL : nlOk Nm NL) (hS : mS b L NL i co N M) (hq : mQ b L i M) : pMo_named 61 61 M ∧ (∀ k, fnd (tB b L).2.2 Nm 0 i = some k → fMo_named 61 61 M = nI k ∧ k < 60 ∧ M 44 k = nI (mkd (Nm.getD k (0, 0, 0, 0)).2.1)) ∧ (fnd (tB b L).2.2 Nm 0 i = none → fMo_named 61 61 M = -1 ∨ ∃ k, k < 60 ∧ fMo_named 61 61 M = nI k ∧ M 44 k = 0) := by
  have x := m_named hS.1 hq hS.2.2.2.2.1
  have l6 := hS.2.2.2.2.1.2.1
  refine ⟨x.1, fun k hk => ?_, fun hk => ?_⟩
  · have kl := fnd_lt Nm 0 i k hk
    obtain ⟨y, hy⟩ : ∃ y, Nm[k]? = some y := ⟨_, List.getElem?_eq_getElem (by omega)⟩
    have e : fnd (tB b L).2.2 NL 0 i = some k ∧ NL[k]? = some y ∧ Nm.length ≤ NL.length := by
      rcases hNL with rfl | ⟨t, rfl⟩
      · exact ⟨hk, hy, Nat.le_refl _⟩
      · rw [fnd_a, hk]
        exact ⟨rfl, by rw [List.getElem?_append, if_pos (by omega)]; exact hy, by rw [List.length_append]; omega⟩
    have x2 := x.2
    rw [e.1] at x2
    rw [getD_some hy]
    exact ⟨x2, by omega, hS.2.2.2.2.2 k y e.2.1⟩
  · rcases hNL with rfl | ⟨t, rfl⟩
    · have x2 := x.2
      rw [hk] at x2
      exact Or.inl x2
    · have x2 := x.2
      rw [fnd_a, hk] at x2
      dsimp only at x2
      by_cases c : (tB b L).2.2 t i = true
      · rw [if_pos c, Nat.zero_add] at x2
        rw [List.length_append] at l6
        have y := hS.2.2.2.2.2 Nm.length (t, 0, 0, 0) (by rw [List.getElem?_append, if_neg (by omega), Nat.sub_self]; rfl)
        exact Or.inr ⟨Nm.length, by simp only [List.length_cons, List.length_nil] at l6; omega, x2, y⟩
      · rw [if_neg c] at x2
        exact Or.inl x2
theorem mkd_n : ∀ k, k < 50 → (nI (mkd k) = 4 ↔ k = 33) ∧ (nI (mkd k) = 0 → k ≠ 29 ∧ k ≠ 30 ∧ k ≠ 31 ∧ k ≠ 33) := by decide +kernel
set_option maxHeartbeats 4000000 in
theorem meU {m : Nat} (hE : bE (tB b L) n) (hNL : nlOk Nm NL) (hkd : ∀ (k : Nat) (x : Nat × Nat × Nat × Nat), Nm[k]? = some x → x.2.1 = 29 ∨ x.2.1 = 30 ∨ x.2.1 = 31 ∨ x.2.1 = 33) (hm : HM b L Nm NL n m) {d i co N : Nat} {M : Mm} (hd : d ≤ 40) (hi : i < n) (hco : co ≤ 3000) (hN : N ≤ i) (h9 : (sp_E (tT (tB b L) Nm) (m + 1) 2 0 d i co).1 ≠ 9) (hS : mS b L NL i co N M) : me_Q (m + 1) 2 (nI d) 0 M ∧ MR b L NL (m + 1) i N M (sp_E (tT (tB b L) Nm) (m + 1) 2 0 d i co) (me_F (m + 1) 2 (nI d) 0 M) := by
  have hn := hE.2.1
  have k48 : tK b L i < 48 := hE.2.2.1 i hi
  have es : sp_E (tT (tB b L) Nm) (m + 1) 2 0 d i co = sp_unary (tT (tB b L) Nm) (sp_E (tT (tB b L) Nm) m) d i co := rfl
  rw [es] at h9 ⊢
  rw [meQ2, meF2]
  unfold pMo_unary fMo_unary
  unfold sp_unary at h9 ⊢
  rw [if_neg (by omega)] at h9 ⊢
  have tk : (tT (tB b L) Nm).1 i = tK b L i := rfl
  rw [tk] at h9 ⊢
  by_cases k47 : tK b L i = 47
  · have p := m_pk47 hS.1 (by omega) hS.2.1 k47
    rw [if_neg (by omega), if_neg (by omega), if_neg (by omega), if_neg (by omega), if_neg (by omega), if_neg (by omega), noT47 _ _ (tk.trans k47)]
    exact mq1 p.1 (by rw [p.2.1]; decide) (MR_f (by decide) p.2.1 p.2.2.1 p.2.2.2)
  obtain ⟨M1, p1, p2, p3, p4⟩ := m_pk hS.1 (by omega) hS.2.1 k47
  rw [p2]
  refine mq0 p1 rfl ?_
  dsimp only
  have S1 := mS_f hS p4 (Or.inr p3)
  have mu := mt_u _ k48 k47
  have m1 := mt_1 _ k48
  have cn := m_cant p3
  unfold pMo_unary_4 fMo_unary_4
  by_cases k4 : tK b L i = 4
  · rw [if_pos k4] at h9 ⊢
    refine itn (fun q => by have := mu.1.mp q; omega) (itn (fun q => by have := mu.2.1.mp q; omega) (itn (fun q => by have := mu.2.2.1.mp q; omega) (itp (mu.2.2.2.1.mpr k4) ?_)))
    obtain ⟨t1, M2, t2, t3, t4⟩ := m_take p3 (by omega)
    rw [t2]
    refine mq0 t1 rfl ?_
    dsimp only
    have S2 := mS_f S1 t4 (Or.inl t3)
    have F2 : mF N M M2 := mF_t (mF_f p4) (mF_f t4) (Nat.le_refl _)
    have si := tEnd_s (bE_T hE Nm) hi (show tK b L i < 45 by omega)
    unfold pMo_unary_80 fMo_unary_80
    by_cases d4 : d < 40
    rotate_left
    · have x := m_nest1 S2.1 (by omega) S2.2.1 (show 40 ≤ d by omega) (by omega)
      rw [sp_deep (Or.inl rfl) (by omega) (b9 h9), sp_b1 (show ¬ (sp_fail 4 (i + 1)).1 = 0 by show ¬ (4 : Nat) = 0; decide)]
      exact mq1 x.1 (by rw [x.2.1]; decide) (MR_f (by decide) x.2.1 x.2.2.1 (mw_t (mF_w F2) x.2.2.2))
    have ns := m_nest0 (M := M2) d4
    rw [ns.2]
    refine mq0 ns.1 rfl ?_
    dsimp only
    unfold pMo_unary_86 fMo_unary_86
    have u := HM0 hm (d := d + 1) (i := i + 1) (co := co) (N := N) (by omega) si hco (by omega) (b9 h9) S2
    have ln := sp_len (bE_T hE Nm) m 0 0 (d + 1) (i + 1) co si hco
    generalize me_F m 0 (nI (d + 1)) 0 M2 = q at u
    generalize sp_E (tT (tB b L) Nm) m 0 0 (d + 1) (i + 1) co = r at u ln h9 ⊢
    by_cases e1 : r.1 = 0
    rotate_left
    · rw [sp_b1 e1]
      have z := u.2.2 e1
      exact mq1 u.1 (by rw [z.1]; exact e9 e1 z.2.2.2) (MR_b e1 z.1 z.2.1 (mw_t (mF_w F2) z.2.2.1) z.2.2.2)
    rw [sp_b0 e1]
    have l1 := ln e1
    obtain ⟨z1, e, N', z2, z3, z4, z5, z6, z7, z8, z9⟩ := u.2.1 e1
    refine mq0 u.1 z1 ?_
    unfold pMo_unary_89 fMo_unary_89
    have kj48 : tK b L r.2.2.1 < 48 := hE.2.2.1 _ l1.2.2.1
    have mu5 := m_must z3.1 (by have := l1.2.2.1; omega) kj48 z3.2.1 (s := 5) (by decide)
    unfold sp_ex
    by_cases k5 : tK b L r.2.2.1 = 5
    rotate_left
    · rw [if_neg (show ¬ (tT (tB b L) Nm).1 r.2.2.1 = 5 from k5)]
      have y := mu5.2.2 k5
      have sn : sp_no (tT (tB b L) Nm) r.2.2.1 = sp_fail (if tK b L r.2.2.1 = 47 then 4 else 1) r.2.2.1 := by
        by_cases q : tK b L r.2.2.1 = 47
        · rw [noT47 _ _ q, if_pos q]
        · rw [noT _ _ q, if_neg q]
      have y1 : (fMo_must 41 q.2.2.2).1 = nI (if tK b L r.2.2.1 = 47 then 4 else 1) := by
        refine (show (fMo_must 41 q.2.2.2).1 = _ from y.1).trans ?_
        split <;> rfl
      rw [sn]
      refine mq1 mu5.1 ?_ (MR_f ?_ y1 y.2.1 (mw_t (mF_w (mF_t F2 z9 (Nat.le_refl _))) y.2.2))
      · rw [y1]; split <;> decide
      · split <;> decide
    rw [if_pos (show (tT (tB b L) Nm).1 r.2.2.1 = 5 from k5)]
    obtain ⟨M3, y1, y2, y3⟩ := mu5.2.1 k5
    have y1' : fMo_must 41 q.2.2.2 = (0, 0, M3) := y1
    rw [y1']
    refine mq0 mu5.1 rfl ?_
    dsimp only
    have S3 := mS_f z3 y3 (Or.inl y2)
    have F3 : mF N M M3 := mF_t (mF_t F2 z9 (Nat.le_refl _)) (mF_f y3) (Nat.le_refl _)
    have sj := tEnd_s (bE_T hE Nm) l1.2.2.1 (show tK b L r.2.2.1 < 45 by omega)
    unfold pMo_unary_96 fMo_unary_96
    rw [z2]
    obtain ⟨n1, M4, n2, a52, a53, a54, a55, a34, aj, aa, ak⟩ := m_node S3.2.2.2.1 (by omega) 3 0 (nI e)
    rw [n2]
    dsimp only
    refine sqt ⟨n1, fun _ => ⟨rfl, N', N' + 1, rfl, ?_, by omega, by omega, ?_, ?_, a55, ?_⟩, fun q => absurd rfl q⟩
    · exact mS_u S3 (fun j _ h _ => aj j h) (fun a h1 h2 => aa a h1 (by omega)) ((aj 11 (by decide)).trans S3.2.2.1) a34
    · show N' + 1 + i ≤ N + (r.2.2.1 + 1)
      omega
    · have ag : agN N e q.2.2.2 M4 := fun k _ h2 => ⟨(ak 52 k (by decide) (by omega)).trans (by rw [y3.1 52 (by decide)]), (ak 53 k (by decide) (by omega)).trans (by rw [y3.1 53 (by decide)]), (ak 54 k (by decide) (by omega)).trans (by rw [y3.1 54 (by decide)]), fun _ => ⟨(ak 55 k (by decide) (by omega)).trans (by rw [y3.1 55 (by decide)]), (ak 56 k (by decide) (by omega)).trans (by rw [y3.1 56 (by decide)])⟩⟩
      exact Ev_par (Ev_c z7 ag (Nat.le_refl _) (Nat.le_refl _)) (by omega) (by omega) a52 a54 ((ak 55 e (by decide) (by omega)).trans ((congrFun (y3.1 55 (by decide)) e).trans z8))
    · exact mF_t F3 ⟨fun a h1 h2 => aa a h1 (by omega), fun j h1 h2 => aj j h2, fun a k h1 h2 h3 => ak a k (by omega) (by omega)⟩ (Nat.le_refl _)
  rw [if_neg k4] at h9 ⊢
  by_cases k13 : tK b L i = 13
  · rw [if_pos k13] at h9 ⊢
    have a := meA hE hm 49 96 45 (Or.inl ⟨rfl, rfl⟩) hd hi (by omega) (by decide) hco hN S1 p3 p4 h9
    refine itp (mu.1.mpr k13) ?_
    unfold pMo_unary_23 fMo_unary_23
    rw [mu.1.mpr k13]
    exact itp rfl a
  rw [if_neg k13] at h9 ⊢
  refine itn (fun q => k13 (mu.1.mp q)) ?_
  by_cases k18 : tK b L i = 18
  · rw [if_pos k18] at h9 ⊢
    have a := meA hE hm 18 0 126 (Or.inr (Or.inl ⟨rfl, rfl⟩)) hd hi (by omega) (by decide) hco hN S1 p3 p4 h9
    refine itp (mu.2.1.mpr k18) ?_
    unfold pMo_unary_23 fMo_unary_23
    rw [mu.2.1.mpr k18]
    exact itn (by decide) (itn (by decide) a)
  rw [if_neg k18] at h9 ⊢
  refine itn (fun q => k18 (mu.2.1.mp q)) ?_
  by_cases k19 : tK b L i = 19
  · rw [if_pos k19] at h9 ⊢
    have a := meA hE hm 19 24 33 (Or.inr (Or.inr ⟨rfl, rfl⟩)) hd hi (by omega) (by decide) hco hN S1 p3 p4 h9
    refine itp (mu.2.2.1.mpr k19) ?_
    unfold pMo_unary_23 fMo_unary_23
    rw [mu.2.2.1.mpr k19]
    exact itn (by decide) (itp rfl a)
  rw [if_neg k19] at h9 ⊢
  refine itn (fun q => k19 (mu.2.2.1.mp q)) (itn (fun q => k4 (mu.2.2.2.1.mp q)) ?_)
  -- a number
  by_cases k44 : tK b L i = 44
  · rw [if_neg (by omega), if_pos k44]
    refine itp ((m1.2.1 k47).mpr k44) ?_
    have si := tEnd_s (bE_T hE Nm) hi (show tK b L i < 45 by omega)
    have ev : (tT (tB b L) Nm).2.1 i = val b (tF b L i) (tZ b L i) := rfl
    have nn := m_num S1.1 (by omega) k48 S1.2.1 (lo := 0) (hi := 255) (by decide) (by decide) (fun q => (q.1 = 0 → pMo_unary_119 (me_F m) (me_Q m) (nI d) (nI (mt (tK b L i))) 0 q.2.2.1 q.2.2.2) ∧ MR b L NL (m + 1) i N M (if (tT (tB b L) Nm).2.1 i ≤ 255 then sp_ok (i + 1) co [(44, (tT (tB b L) Nm).2.1 i)] else sp_fail 3 i) (if q.1 = 0 then fMo_unary_119 (me_F m) (nI d) (nI (mt (tK b L i))) 0 q.2.2.1 q.2.2.2 else (q.1, q.2.1, 0, q.2.2.2))) ?_ ?_
    · exact ⟨⟨nn.1, nn.2.1⟩, nn.2.2⟩
    · intro e q hh h1 h2 h3
      rcases hh with ⟨q47, -⟩ | ⟨-, q44, -⟩ | ⟨-, e3, hv⟩
      · exact absurd q47 k47
      · exact absurd k44 q44
      · have ne : ¬ q.1 = 0 := by rw [h1, e3]; decide
        rw [if_neg ne, if_neg (by rw [ev]; omega)]
        exact ⟨fun z => absurd z ne, MR_f (by decide) (h1.trans e3) h2 (mw_t (mfr_w p4) h3)⟩
    · intro _ _ hv M2 y1 y2
      rw [if_pos rfl, if_pos (by rw [ev]; exact hv), ev]
      have S2 := mS_f S1 y2 (Or.inl y1)
      have F2 : mF N M M2 := mF_t (mF_f p4) (mF_f y2) (Nat.le_refl _)
      unfold pMo_unary_119 fMo_unary_119
      dsimp only
      obtain ⟨n1, M4, n2, a52, a53, a54, a55, a34, aj, aa, ak⟩ := m_node S2.2.2.2.1 (by omega) 0 (nI (val b (tF b L i) (tZ b L i))) (-1)
      rw [n2]
      dsimp only
      refine ⟨fun _ => ⟨n1, trivial⟩, fun _ => ⟨rfl, N, N + 1, rfl, ?_, Nat.le_refl _, by omega, ?_, ?_, a55, ?_⟩, fun q => absurd rfl q⟩
      · exact mS_u S2 (fun j _ h _ => aj j h) (fun a h1 h2 => aa a h1 (by omega)) ((aj 11 (by decide)).trans S2.2.2.1) a34
      · show N + 1 + i ≤ N + (i + 1)
        omega
      · exact Ev_num (Nat.le_refl _) (by omega) a52 a53 (by omega)
      · exact mF_t F2 ⟨fun a h1 h2 => aa a h1 (by omega), fun j h1 h2 => aj j h2, fun a k h1 h2 h3 => ak a k (by omega) (by omega)⟩ (Nat.le_refl _)
  refine itn (fun q => k44 ((m1.2.1 k47).mp q)) ?_
  by_cases kw : 29 ≤ tK b L i ∧ tK b L i ≤ 43
  rotate_left
  · rw [if_neg (by omega), if_neg k44, noT _ _ k47]
    refine itn (fun q => kw (m1.1.mp q)) ?_
    unfold pMo_unary_136 fMo_unary_136
    rw [cn.2]
    exact ⟨cn.1, MR_f (by decide) rfl rfl (mfr_w p4)⟩
  refine itp (m1.1.mpr kw) ?_
  have rs := m_reserved S1.1 p3
  rw [rs.2]
  refine mq0 rs.1 rfl ?_
  dsimp only
  unfold pMo_unary_133 fMo_unary_133
  by_cases k43 : tK b L i = 43
  rotate_left
  · rw [if_neg k43, if_neg k44, noT _ _ k47, if_pos (by omega)]
    refine itn (by decide) ?_
    unfold pMo_unary_136 fMo_unary_136
    rw [cn.2]
    exact ⟨cn.1, MR_f (by decide) rfl rfl (mfr_w p4)⟩
  rw [if_pos k43, if_neg (by omega)]
  refine itp rfl ?_
  have nm := meN hNL S1 p3
  refine sq nm.1 ?_
  unfold sp_named pMo_unary_169 fMo_unary_169
  have efd : (tT (tB b L) Nm).2.2.1 i = fnd (tB b L).2.2 Nm 0 i := rfl
  rw [efd]
  cases ho : fnd (tB b L).2.2 Nm 0 i with
  | none =>
    dsimp only
    rcases nm.2.2 ho with g | ⟨k, k60, g, g4⟩
    · rw [g]
      exact itp (by decide) ⟨trivial, MR_f (by decide) rfl p3.2.2.2.1 (mfr_w p4)⟩
    · rw [g, nI_clamp (by omega)]
      exact itn (nI_pos (by omega)) (sq (vp_in_nI k60 (by decide)) (itp g4 ⟨trivial, MR_f (by decide) rfl p3.2.2.2.1 (mfr_w p4)⟩))
  | some k =>
    obtain ⟨g, k60, g4⟩ := nm.2.1 k ho
    have kl := fnd_lt Nm 0 i k ho
    obtain ⟨y, hy⟩ : ∃ y, Nm[k]? = some y := ⟨_, List.getElem?_eq_getElem (by omega)⟩
    have hy2 := hkd k y hy
    have enk : (tT (tB b L) Nm).2.2.2.1 k = y.2.1 := by show (Nm.getD k (0, 0, 0, 0)).2.1 = y.2.1; rw [getD_some hy]
    rw [getD_some hy] at g4
    have mk := mkd_n y.2.1 (by omega)
    have v : vp_in (nI k) 60 := vp_in_nI k60 (by decide)
    dsimp only
    rw [g, nI_clamp (by omega), enk, g4]
    refine itn (nI_pos (by omega)) (sq v (itn (fun q => by have := mk.2 q; omega) (sq v ?_)))
    by_cases c33 : y.2.1 = 33
    · rw [if_pos c33]
      exact itp (mk.1.mpr c33) ⟨trivial, MR_f (by decide) rfl p3.2.2.2.1 (mfr_w p4)⟩
    rw [if_neg c33]
    refine itn (fun q => c33 (mk.1.mp q)) ?_
    obtain ⟨t1, M2, t2, t3, t4⟩ := m_take p3 (by omega)
    rw [t2]
    refine mq0 t1 rfl ?_
    dsimp only
    have S2 := mS_f S1 t4 (Or.inl t3)
    have F2 : mF N M M2 := mF_t (mF_f p4) (mF_f t4) (Nat.le_refl _)
    have si := tEnd_s (bE_T hE Nm) hi (show tK b L i < 45 by omega)
    unfold pMo_unary_186 fMo_unary_186
    obtain ⟨n1, M4, n2, a52, a53, a54, a55, a34, aj, aa, ak⟩ := m_node S2.2.2.2.1 (by omega) 1 (nI k) (-1)
    rw [n2]
    dsimp only
    refine sqt ⟨n1, fun _ => ⟨rfl, N, N + 1, rfl, ?_, Nat.le_refl _, by omega, ?_, ?_, a55, ?_⟩, fun q => absurd rfl q⟩
    · exact mS_u S2 (fun j _ h _ => aj j h) (fun a h1 h2 => aa a h1 (by omega)) ((aj 11 (by decide)).trans S2.2.2.1) a34
    · show N + 1 + i ≤ N + (i + 1)
      omega
    · exact Ev_nam (Nat.le_refl _) (by omega) a52 a53
    · exact mF_t F2 ⟨fun a h1 h2 => aa a h1 (by omega), fun j h1 h2 => aj j h2, fun a k h1 h2 h3 => ak a k (by omega) (by omega)⟩ (Nat.le_refl _)
end
