/-! MODEL'S LINES 1: a new name -/
/-- what declaring the k-th name leaves alone -/
def mDc (k : Nat) (M M' : Mm) : Prop := (∀ a, a ≠ 40 → (a < 42 ∨ 44 < a) → M' a = M a) ∧ (∀ j, (j < 5 ∨ 10 < j) → j ≠ 16 → M' 40 j = M 40 j) ∧ ∀ a q, a ≠ 40 → q ≠ k → M' a q = M a q
theorem pm_u3 (X : Mm) (a c q k : Nat) (w : Int32) (h : k ≠ q) : pm_u X c q w a k = X a k := by
  unfold pm_u
  by_cases e : a = c
  · rw [if_pos e]; show (if k = q then w else X c k) = X a k; rw [if_neg h, e]
  · rw [if_neg e]
section
variable {b : Nat → Nat} {L : Nat} {n : Nat} {Nm : NmT}
theorem mT_n {NL : NmT} {i j co co' N : Nat} {F : FT} {M M' : Mm} (h : mT b L Nm i co N F M) (hS : mS b L NL j co' N M') (h38 : M' 40 38 = M 40 38) (ha : ∀ a, 52 ≤ a → a ≤ 59 → M' a = M a) (hw : ∀ (k : Nat) (x : Nat × Nat × Nat × Nat), NL[k]? = some x → x.2.1 = 33 → M' 45 k = nI x.2.2.2) (hu : mU NL F M') : mT b L NL j co' N F M' := by
  refine ⟨hS, h38.trans h.2.1, ⟨fun g x hx => ?_, hu⟩, hw⟩
  have t := h.2.2.1.1 g x hx
  refine ⟨by rw [ha 57 (by decide) (by decide)]; exact t.1, by rw [ha 58 (by decide) (by decide)]; exact t.2.1, by rw [ha 59 (by decide) (by decide)]; exact t.2.2.1, fun e => ?_⟩
  obtain ⟨lo, ev, hl⟩ := t.2.2.2 e
  exact ⟨lo, Ev_c ev (fun k _ _ => ⟨by rw [ha 52 (by decide) (by decide)], by rw [ha 53 (by decide) (by decide)], by rw [ha 54 (by decide) (by decide)], fun _ => ⟨by rw [ha 55 (by decide) (by decide)], by rw [ha 56 (by decide) (by decide)]⟩⟩) (Nat.le_refl _) (Nat.le_refl _), hl⟩
theorem l_new0 {i : Nat} (k : Nat → LR) (h1 : tK b L i ≠ 43) (h2 : tK b L i ≠ 47) : l_new (tB b L) Nm i k = lf 1 i := by
  unfold l_new l_no
  rw [if_neg (show ¬ (tB b L).1 i = 43 from h1), if_neg (show ¬ (tB b L).1 i = 47 from h2)]
set_option maxHeartbeats 4000000 in
theorem m_declare (hE : bE (tB b L) n) {i co N : Nat} {F : FT} {M : Mm} (hi : i < n) (hT : mT b L Nm i co N F M) (P : Int32 × Int32 × Int32 × Mm → Prop)
    (hf : ∀ (e : Nat) (r : Int32 × Int32 × Int32 × Mm), (e ≠ 0 ∧ e < 9) → r.1 = nI e → r.2.1 = nI (tF b L i) → mw M r.2.2.2 → (∀ k, l_new (tB b L) Nm i k = lf e i) → P r)
    (hs : (∀ k, l_new (tB b L) Nm i k = k (i + 1)) → tK b L i = 43 → Nm.length < 60 → ∀ M', mT b L (Nm ++ [(i, 0, 0, 0)]) (i + 1) co N F M' → mDc Nm.length M M' → P (0, 0, nI Nm.length, M')) : pMo_declare M ∧ P (fMo_declare M) := by
  have hn := hE.2.1
  have k48 : tK b L i < 48 := hE.2.2.1 i hi
  unfold pMo_declare fMo_declare
  by_cases k47 : tK b L i = 47
  · have p := m_pk47 hT.1.1 (by omega) hT.1.2.1 k47
    refine mq1 p.1 (by rw [p.2.1]; decide) (hf 4 _ (by decide) p.2.1 p.2.2.1 p.2.2.2 (fun k => ?_))
    unfold l_new l_no
    rw [if_neg (show ¬ (tB b L).1 i = 43 from by show ¬ tK b L i = 43; omega), if_pos (show (tB b L).1 i = 47 from k47)]
  obtain ⟨M1, p1, p2, p3, p4⟩ := m_pk hT.1.1 (by omega) hT.1.2.1 k47
  rw [p2]
  refine mq0 p1 rfl ?_
  dsimp only
  have T1 := mT_f hT p4 (Or.inr p3)
  have cn := m_cant p3
  unfold pMo_declare_4 fMo_declare_4 pMo_declare_15 fMo_declare_15
  by_cases kw : 29 ≤ tK b L i ∧ tK b L i ≤ 43
  rotate_left
  · refine itn (fun q => kw ((mt_1 _ k48).1.mp q)) ?_
    rw [cn.2]
    exact ⟨cn.1, hf 1 _ (by decide) rfl rfl (mfr_w p4) (fun k => l_new0 k (by omega) k47)⟩
  refine itp ((mt_1 _ k48).1.mpr kw) ?_
  have rs := m_reserved T1.1.1 p3
  rw [rs.2]
  refine mq0 rs.1 rfl ?_
  dsimp only
  unfold pMo_declare_12 fMo_declare_12 pMo_declare_15 fMo_declare_15
  by_cases k43 : tK b L i = 43
  rotate_left
  · rw [if_pos (show 29 ≤ tK b L i ∧ tK b L i ≤ 42 by omega)]
    refine itn (by decide) ?_
    rw [cn.2]
    exact ⟨cn.1, hf 1 _ (by decide) rfl rfl (mfr_w p4) (fun k => l_new0 k (by omega) k47)⟩
  rw [if_neg (show ¬ (29 ≤ tK b L i ∧ tK b L i ≤ 42) by omega)]
  refine itp rfl ?_
  have nm := m_named T1.1.1 p3 T1.1.2.2.2.2.1
  refine sq nm.1 ?_
  have n2 := nm.2
  have l6 := T1.1.2.2.2.2.1.2.1
  have e16 := T1.1.2.2.2.2.1.1
  cases ho : fnd (tB b L).2.2 Nm 0 i with
  | some k =>
    have kl := fnd_lt Nm 0 i k ho
    rw [ho] at n2
    dsimp only at n2
    rw [n2]
    refine itn (nI_pos (by omega)) ⟨trivial, hf 2 _ (by decide) rfl p3.2.2.2.1 (mfr_w p4) (fun k => ?_)⟩
    unfold l_new
    rw [if_pos (show (tB b L).1 i = 43 from k43), ho]
  | none =>
    rw [ho] at n2
    dsimp only at n2
    rw [n2, e16]
    refine itp (by decide) ?_
    by_cases c60 : Nm.length = 60
    · refine itp (by rw [c60]; rfl) ⟨trivial, hf 4 _ (by decide) rfl p3.2.2.2.1 (mfr_w p4) (fun k => ?_)⟩
      unfold l_new
      rw [if_pos (show (tB b L).1 i = 43 from k43), ho]
      dsimp only
      rw [if_neg (by omega)]
    refine itn (fun q => c60 ((nI_eq (a := Nm.length) (b := 60) (by omega) (by decide)).mp q)) ?_
    have v : vp_in (nI Nm.length) 60 := vp_in_nI (by omega) (by decide)
    refine sq v (sq v (sq v ?_))
    have zin := tok_in (i := i) (fun q hq => (hT.1.1.2.2.1 q hq).2) (tF_le (fun q hq => (hT.1.1.2.2.1 q hq).2) i)
    have z31 : tZ b L i ≤ 31 := zin.2.2.2.1 k43
    have zL : tF b L i + tZ b L i ≤ L := zin.1
    have hL := hT.1.1.2.1
    rw [nI_clamp (by omega), p3.2.2.2.1, p3.2.2.2.2.1, pk_sub (by omega), Nat.add_sub_cancel_left]
    generalize e2 : pm_u (pm_u (pm_u M1 42 Nm.length (nI (tF b L i))) 43 Nm.length (nI (tZ b L i))) 44 Nm.length (0 : Int32) = M2
    have ga : ∀ a, (a < 42 ∨ 44 < a) → M2 a = M1 a := fun a h => by rw [← e2, pm_u_n _ _ _ (by omega), pm_u_n _ _ _ (by omega), pm_u_n _ _ _ (by omega)]
    have gk : ∀ a q, q ≠ Nm.length → M2 a q = M1 a q := fun a q h => by rw [← e2, pm_u3 _ _ _ _ _ _ h, pm_u3 _ _ _ _ _ _ h, pm_u3 _ _ _ _ _ _ h]
    have g42 : M2 42 Nm.length = nI (tF b L i) := by rw [← e2, pm_u_n _ _ _ (by decide), pm_u_n _ _ _ (by decide), pm_u_s]
    have g43 : M2 43 Nm.length = nI (tZ b L i) := by rw [← e2, pm_u_n _ _ _ (by decide), pm_u_s]
    have g44 : M2 44 Nm.length = 0 := by rw [← e2, pm_u_s]
    have q2 : mQ b L i M2 := by
      unfold mQ
      rw [ga 40 (by decide)]
      exact p3
    obtain ⟨t1, M3, t2, t3, t4⟩ := m_take q2 (by omega)
    rw [t2]
    refine mq0 t1 rfl ⟨trivial, ?_⟩
    unfold fMo_declare_107
    dsimp only
    have h16 : M3 40 16 = nI Nm.length := by rw [t4.2 16 (by decide), ga 40 (by decide)]; exact e16
    rw [h16, nI_1]
    generalize e4 : pm_u M3 40 16 (nI (Nm.length + 1)) = M4
    have fa : ∀ a, a ≠ 40 → M4 a = M2 a := fun a h => by rw [← e4, pm_u_n _ _ _ h]; exact t4.1 a h
    have fj : ∀ j, (j < 5 ∨ 10 < j) → j ≠ 16 → M4 40 j = M1 40 j := fun j h h2 => by rw [← e4, pm_u_j _ _ _ h2, t4.2 j h, ga 40 (by decide)]
    have f3 : ∀ j, j ≠ 16 → M4 40 j = M3 40 j := fun j h2 => by rw [← e4, pm_u_j _ _ _ h2]
    have f16 : M4 40 16 = nI (Nm.length + 1) := by rw [← e4, pm_u_s]
    have gl : ∀ (k : Nat) (x : Nat × Nat × Nat × Nat), (Nm ++ [(i, 0, 0, 0)])[k]? = some x → (k < Nm.length ∧ Nm[k]? = some x) ∨ (k = Nm.length ∧ x = (i, 0, 0, 0)) := by
      intro k x hx
      rw [List.getElem?_append] at hx
      by_cases c : k < Nm.length
      · rw [if_pos c] at hx; exact Or.inl ⟨c, hx⟩
      · rw [if_neg c] at hx
        rcases Nat.eq_zero_or_pos (k - Nm.length) with h0 | h0
        · rw [h0] at hx
          simp only [List.getElem?_cons_zero, Option.some.injEq] at hx
          exact Or.inr ⟨by omega, hx.symm⟩
        · rw [List.getElem?_eq_none (by simp only [List.length_cons, List.length_nil]; omega)] at hx; cases hx
    have m3 : mP b L (i + 1) M4 := ⟨(f3 10 (by decide)).trans t3.1, (f3 5 (by decide)).trans t3.2.1, (f3 9 (by decide)).trans t3.2.2⟩
    have hS : mS b L (Nm ++ [(i, 0, 0, 0)]) (i + 1) co N M4 := by
      refine ⟨mBy_c T1.1.1 (fj 1 (by decide) (by decide)) ((fa 41 (by decide)).trans (ga 41 (by decide))) (fj 3 (by decide) (by decide)) (fj 4 (by decide) (by decide)), Or.inl m3, (fj 11 (by decide) (by decide)).trans T1.1.2.2.1, (fj 34 (by decide) (by decide)).trans T1.1.2.2.2.1, ⟨by rw [f16, List.length_append]; rfl, by rw [List.length_append]; simp only [List.length_cons, List.length_nil]; omega, fun k x hx => ?_⟩, fun k x hx => ?_⟩
      · rw [fa 42 (by decide), fa 43 (by decide)]
        rcases gl k x hx with ⟨c, hy⟩ | ⟨c, hy⟩
        · have o := T1.1.2.2.2.2.1.2.2 k x hy
          exact ⟨(gk 42 k (by omega)).trans o.1, (gk 43 k (by omega)).trans o.2.1, o.2.2⟩
        · rw [c, hy]; exact ⟨g42, g43, z31⟩
      · rw [fa 44 (by decide)]
        rcases gl k x hx with ⟨c, hy⟩ | ⟨c, hy⟩
        · exact (gk 44 k (by omega)).trans (T1.1.2.2.2.2.2 k x hy)
        · rw [c, hy]; exact g44
    refine hs (fun k => ?_) k43 (by omega) M4 (mT_n T1 hS (fj 38 (by decide) (by decide)) (fun a h1 h2 => (fa a (by omega)).trans (ga a (by omega))) (fun k x hx h33 => ?_) (mU_n T1.2.2.1.2 (by show (0 : Nat) ≠ 33; decide) ((fa 51 (by decide)).trans (ga 51 (by decide))))) ⟨fun a h1 h2 => ((fa a h1).trans (ga a h2)).trans (p4.1 a h1), fun j h1 h2 => (fj j h1 h2).trans (p4.2 j h1), fun a q h1 h2 => by rw [fa a h1, gk a q h2, p4.1 a h1]⟩
    · unfold l_new
      rw [if_pos (show (tB b L).1 i = 43 from k43), ho]
      dsimp only
      rw [if_pos (by omega)]
    · rw [fa 45 (by decide), ga 45 (by decide)]
      rcases gl k x hx with ⟨c, hy⟩ | ⟨c, hy⟩
      · exact T1.2.2.2 k x hy h33
      · rw [hy] at h33; exact absurd h33 (by show ¬ (0 : Nat) = 33; decide)
end
