/-! CALLS 14: trace, both sides -/
theorem mA_40 {n m : Nat} {nx : Nat → Nat → Nat} {I I' : Mm} (h : mA n m nx I) (e27 : I' 40 27 = I 40 27) (e28 : I' 40 28 = I 40 28) (ea : ∀ a, 64 ≤ a → a < 320 → I' a = I a) : mA n m nx I' := by
  obtain ⟨h1, h2, h3, h4, h5⟩ := h
  refine ⟨by unfold fMo_all at h1 ⊢; rw [e27]; exact h1, by unfold fMo_allInputs at h2 ⊢; rw [e28]; exact h2, h3, h4, fun s i hs hi => ?_⟩
  rw [ea (64 + s) (by omega) (by omega)]; exact h5 s i hs hi
section
variable {fi n m : Nat} {nx : Nat → Nat → Nat} {O : List Nat} {q d : Nat → Nat} {T : Se} {V : Mm} {B : Nat → Value} {E : List (Nat × Nat)} {k N : Nat}
def trA (O : List Nat) (q : Nat → Nat) (m g D : Nat) (V : Mm) (R : Int32 × Mm) : Prop := R.1 = nI D ∧ (∀ a, a ≠ 40 → a ≠ 353 → a ≠ 354 → a ≠ 355 → R.2 a = V a) ∧ (∀ j, j ≠ 51 → j ≠ 52 → R.2 40 j = V 40 j) ∧ R.2 40 51 = nI D ∧ R.2 40 52 = 1 ∧ wayI O q m g D 354 R.2
theorem m_trA (h : bO fi n m nx (O.length * m) O q d) (hm : 0 < m) (hk : k < 30) (hV : mA n m nx V) (hr : rw_ n V (323 + k) T) (h47 : V 40 47 = nI fi) (hfi : fi < n) (hN : 256002 ≤ N) {jg g : Nat} (hg : fst_ O T jg g) (hd : d g < 256) : pMo_trace_12 9 257 9 258 N 257 (nI k) 0 V B E ∧ trA O q m g (d g) V (fMo_trace_12 9 257 9 258 N 257 (nI k) 0 V B E) ∧ ∃ A, aw n m nx A T := by
  have n256 := hV.2.2.1
  have z := t_12 (T := T) (N := N) (F := 258) (B := B) (E := E) hk hV hr (fun R => trA O q m g (d g) V R ∧ ∃ A, aw n m nx A T) (fun A I hp => t_52 (T := T) hV (nI k) 258 (fun R => trA O q m g (d g) V R ∧ ∃ A, aw n m nx A T) (fun e A I hf h353 hle ha => by
    have hI := mA_T hV hf
    have e47 : I 40 47 = nI fi := by rw [hf 40 (by decide)]; exact h47
    have cf : (nI fi).toNatClampNeg = fi := nI_clamp (by omega)
    have hD := aw_D h hm ha hg (by omega)
    have ne : ¬ nI (A fi) = (1000 : Int32) := fun w => by
      have := (nI_eq (a := A fi) (b := 1000) (by omega) (by decide)).mp w
      omega
    have x353 : pm_u I 40 52 1 353 fi = nI (d g) := by rw [pm_u_n _ _ _ (by decide), h353 fi hfi, hD]
    have w0 := t_190 (B := B) (E := E) h hm ha hg hd (Y := pm_u (pm_u I 40 52 1) 40 51 (nI (d g))) (mA_40 hI (by rw [pm_u_j _ _ _ (by decide), pm_u_j _ _ _ (by decide)]) (by rw [pm_u_j _ _ _ (by decide), pm_u_j _ _ _ (by decide)]) (fun a _ _ => by rw [pm_u_n _ _ _ (by omega), pm_u_n _ _ _ (by omega)])) (fun s hs => by rw [pm_u_n _ _ _ (by decide), pm_u_n _ _ _ (by decide)]; exact h353 s hs) hle (pm_u_s _ _ _ _) (nI k) 0 258 0 _ (Nat.zero_le _) (by omega) (fun _ _ _ => rfl) (fun j hj => absurd hj (Nat.not_lt_zero _)) (fun j hj => absurd hj (Nat.not_lt_zero _))
    rw [Nat.sub_zero, bk_0 h hm ha hg (by omega)] at w0
    obtain ⟨w1, X', w2, w3, w4⟩ := w0
    have w1' : pMo_trace_190 9 258 (nI k) 0 (nI fi) 0 (pm_u (pm_u I 40 52 1) 40 51 (nI (d g))) B E := w1
    have w2' : fMo_trace_190 9 258 (nI k) 0 (nI fi) 0 (pm_u (pm_u I 40 52 1) 40 51 (nI (d g))) B E = (nI (d g), X') := w2
    rw [pMo_trace_52.eq_2, fMo_trace_52.eq_2, e47, cf, h353 fi hfi, x353, if_pos rfl, if_neg ne, w2']
    have v : vp_in (nI fi) 256 := vp_in_nI (by omega) (by decide)
    refine ⟨⟨fun _ => ⟨v, fun w => absurd w ne, fun _ => ⟨v, w1'⟩⟩, fun w => absurd rfl w⟩, ⟨rfl, fun a g1 g2 g3 g4 => ?_, fun j g1 g2 => ?_, ?_, ?_, w4⟩, A, ha⟩
    · show X' a = V a
      rw [w3 a g3 g4, pm_u_n _ _ _ g1, pm_u_n _ _ _ g1]; exact hf a g2
    · show X' 40 j = V 40 j
      rw [w3 40 (by decide) (by decide), pm_u_j _ _ _ g1, pm_u_j _ _ _ g2, hf 40 (by decide)]
    · show X' 40 51 = _
      rw [w3 40 (by decide) (by decide), pm_u_s]
    · show X' 40 52 = _
      rw [w3 40 (by decide) (by decide), pm_u_j _ _ _ (by decide), pm_u_s]) N (1000 * n + 1) 1 A I hp (by omega) (fun _ => by have := sumA_le hp.2.1.2 n; omega)) 257 0 V (Nat.zero_le _) (by omega) (fun _ _ => rfl) (fun s hs => absurd hs (Nat.not_lt_zero _))
  exact z
theorem m_trB (h : bO fi n m nx (O.length * m) O q d) (hk : k < 30) (hV : mA n m nx V) (hr : rw_ n V (323 + k) T) (h47 : V 40 47 = nI fi) (hfi : fi < n) (hN : 256002 ≤ N) (hn : ∀ u ∈ O, T u = false) : pMo_trace_12 9 257 9 258 N 257 (nI k) 0 V B E ∧ ((fMo_trace_12 9 257 9 258 N 257 (nI k) 0 V B E).1 = -1 ∧ tFr V (fMo_trace_12 9 257 9 258 N 257 (nI k) 0 V B E).2) := by
  have n256 := hV.2.2.1
  have z := t_12 (T := T) (N := N) (F := 258) (B := B) (E := E) hk hV hr (fun R => R.1 = -1 ∧ tFr V R.2) (fun A I hp => t_52 (T := T) hV (nI k) 258 (fun R => R.1 = -1 ∧ tFr V R.2) (fun e A I hf h353 hle ha => by
    have e47 : I 40 47 = nI fi := by rw [hf 40 (by decide)]; exact h47
    have cf : (nI fi).toNatClampNeg = fi := nI_clamp (by omega)
    have no := aw_no h ha hn
    have e1000 : A fi = 1000 := by have := hle fi; omega
    have e : nI (A fi) = (1000 : Int32) := by rw [e1000]; rfl
    have v : vp_in (nI fi) 256 := vp_in_nI (by omega) (by decide)
    rw [pMo_trace_52.eq_2, fMo_trace_52.eq_2, e47, cf, h353 fi hfi, if_pos rfl, if_pos e]
    exact ⟨⟨fun _ => ⟨v, fun _ => trivial, fun w => absurd e w⟩, fun w => absurd rfl w⟩, rfl, hf⟩) N (1000 * n + 1) 1 A I hp (by omega) (fun _ => by have := sumA_le hp.2.1.2 n; omega)) 257 0 V (Nat.zero_le _) (by omega) (fun _ _ => rfl) (fun s hs => absurd hs (Nat.not_lt_zero _))
  exact z
end
section
variable {I : Mm} {J : Ml} {B : Nat → Value} {E : List (Nat × Nat)}
/-- where the trace may change -/
theorem Iv_r {I I' : Mm} (h : Iv I J B E) (f : ∀ a, a ≠ 37 → a ≠ 38 → a ≠ 39 → a ≠ 40 → a ≠ 353 → a ≠ 354 → a ≠ 355 → I' a = I a) (f40 : ∀ j, j ≠ 2 → j ≠ 51 → j ≠ 52 → I' 40 j = I 40 j) (ht : It I') : Iv I' J B E := by
  obtain ⟨⟨co, Nm, rb, ib, sp, fi, Hn, D, SS, st, e, w, h1⟩, _, b, L, h3, h4⟩ := h
  have g : ∀ a, a < 37 → I' a = I a := fun a ha => f a (by omega) (by omega) (by omega) (by omega) (by omega) (by omega) (by omega)
  exact ⟨⟨co, Nm, rb, ib, sp, fi, Hn, D, SS, st, e, w, Iw_c h1 (fun a ha => f a (by omega) (by omega) (by omega) (by omega) (by omega) (by omega) (by omega)) (fun j hj => f40 j (by omega) (by omega) (by omega)) rfl rfl h1.1.2.2.2.1 (by rw [g 0 (by decide)]; exact h1.2.1.2.2.2.2.2.2.2) (by rw [f40 46 (by decide) (by decide) (by decide)]; exact h1.2.2.2.2.2.2.2.2.1)⟩, ht, b, L, cBy_c h3 (g 1 (by decide)) (g 2 (by decide)), by rw [f40 1 (by decide) (by decide) (by decide)]; exact h4.1, h4.2.1, fun q hq => by rw [f 41 (by decide) (by decide) (by decide) (by decide) (by decide) (by decide) (by decide)]; exact h4.2.2 q hq⟩
theorem k_trace (h : Iv I J B E) {N : Nat} (hN : 256002 ≤ N) (y : Int32) : pCh_trace y I J ∧ (((fCh_trace y I J).1 = 0 ∧ ∀ E, pMo_trace 9 257 9 258 N 257 y (fCh_trace y I J).2.2 B E ∧ (fMo_trace 9 257 9 258 N 257 y (fCh_trace y I J).2.2 B E).2 40 2 = 0 ∧ (fCh_trace y I J).2.1 = (fMo_trace 9 257 9 258 N 257 y (fCh_trace y I J).2.2 B E).1) ∨ ((fCh_trace y I J).1 = 14 ∧ ∀ E, pMo_trace 9 257 9 258 N 257 y (fCh_trace y I J).2.2 B E ∧ (fMo_trace 9 257 9 258 N 257 y (fCh_trace y I J).2.2 B E).2 40 2 = 1)) ∧ ∀ E', Iv (fMo_trace 9 257 9 258 N 257 y (fCh_trace y I J).2.2 B E').2 J B E := by
  have hI := h
  obtain ⟨⟨co, Nm, rb, ib, sp, fi, Hn, D, SS, st, e, w, ⟨a1, a2, a3, a4, a5⟩, ⟨c1, c2, c4, c5, c6, c7, c8, c9⟩, ⟨m1, m3, m4, m5, m6, m7, m8, m9⟩⟩, hIt, _⟩ := h
  have n256 := m1.2.1.2.2.1
  have m8' := m1.2.1.2.2.2.1
  have mp : 0 < 2 ^ ib := Nat.two_pow_pos _
  obtain ⟨O, q, d, o1, o2, o3⟩ := c2.2.1
  obtain ⟨s1, s2⟩ := is_spec (J := J) c6 a2 y
  rcases s2 with ⟨k, k1, rfl, k3, k4, k5⟩ | ⟨k1, k2⟩
  · have ol := ap_len o1.2.1 o1.2.2.1
    obtain ⟨f1, f2⟩ := first_met (T := SS k) (I := I) (J := J) (show k < 30 by omega) o1.2.1 o1.2.2.1 n256 o2.1 o2.2.1 (fun s hs => c2.2.2.2 k k1 s hs) 257 0 (Nat.zero_le _) (by omega) (fun i u hi => absurd hi (Nat.not_lt_zero _))
    have f1' : pCh_firstMet 257 (nI k) I J := f1
    rcases f2 with ⟨jg, g, hg, f3⟩ | ⟨hn, f3⟩
    · have f3' : fCh_firstMet 257 (nI k) I J = nI g := f3
      have gO : g ∈ O := List.mem_of_getElem? hg.1
      have gn := o1.2.2.1 g gO
      have hd : d g < 256 := by have := o3 g gO; omega
      have ge : (0 : Int32) ≤ nI g := nI_le (a := 0) (Nat.zero_le g) (by omega)
      have vI : ∀ X : Mm, (∀ a, a ≠ 37 → a ≠ 38 → a ≠ 39 → X a = I a) → mA (2 ^ rb) (2 ^ ib) (aN Nm rb ib D) (pm_u X 40 2 0) ∧ rw_ (2 ^ rb) (pm_u X 40 2 0) (323 + k) (SS k) ∧ pm_u X 40 2 0 40 47 = nI fi := fun X hX => ⟨mA_40 m1.2.1 (by rw [pm_u_j _ _ _ (by decide), hX 40 (by decide) (by decide) (by decide)]) (by rw [pm_u_j _ _ _ (by decide), hX 40 (by decide) (by decide) (by decide)]) (fun a g1 g2 => by rw [pm_u_n _ _ _ (by omega), hX a (by omega) (by omega) (by omega)]), rw_c (m1.2.2.2 k k1) (by rw [pm_u_n _ _ _ (by omega), hX (323 + k) (by omega) (by omega) (by omega)]), by rw [pm_u_j _ _ _ (by decide), hX 40 (by decide) (by decide) (by decide)]; exact m9⟩
      obtain ⟨i1, i2, i3⟩ := vI I (fun _ _ _ _ => rfl)
      obtain ⟨_, _, A, ha⟩ := m_trA (B := B) (E := E) (N := N) o1 mp (show k < 30 by omega) i1 i2 i3 a3 hN hg hd
      obtain ⟨l1, l2, l3, l4, l5⟩ := tr_lead (J := J) o1 o2 mp m8' ha hg hd n256
      have fC : fCh_trace (nI k) I J = (0, nI (d g), fTr_lead 257 (nI g) I J) := by
        unfold fCh_trace fCh_trace_40
        rw [k5, if_neg (by decide), f3', if_pos ge, l3]
      have pC : pCh_trace (nI k) I J := by
        unfold pCh_trace
        rw [k5, f3']
        exact ⟨s1, fun w => absurd w (by decide), fun _ => ⟨f1', fun _ => ⟨l1, trivial⟩, fun w => absurd ge w⟩⟩
      rw [fC]
      dsimp only
      generalize fTr_lead 257 (nI g) I J = X at l2 l3 l4 l5
      obtain ⟨n1, n2⟩ := no_sp0 (I := X) (sp := sp) (by rw [l2 40 (by decide) (by decide) (by decide)]; exact m7) k3 k4
      obtain ⟨v1, v2, v3⟩ := vI X l2
      have mt := fun E' => m_trA (B := B) (E := E') (N := N) o1 mp (show k < 30 by omega) v1 v2 v3 a3 hN hg hd
      have fM : ∀ E', fMo_trace 9 257 9 258 N 257 (nI k) X B E' = fMo_trace_12 9 257 9 258 N 257 (nI k) 0 (pm_u X 40 2 0) B E' := fun E' => by
        unfold fMo_trace fMo_trace_5
        rw [n2]; exact if_pos rfl
      have pM : ∀ E', pMo_trace 9 257 9 258 N 257 (nI k) X B E' := fun E' => by
        unfold pMo_trace pMo_trace_5
        rw [n2]
        exact ⟨n1, fun _ => (mt E').1, fun w => absurd rfl w⟩
      refine ⟨pC, Or.inl ⟨rfl, fun E' => ⟨pM E', ?_, ?_⟩⟩, fun E' => ?_⟩
      · rw [fM, (mt E').2.1.2.2.1 2 (by decide) (by decide), pm_u_s]
      · rw [fM, (mt E').2.1.1]
      · rw [fM]
        obtain ⟨r1, r2, r3, r4, r5, r6⟩ := (mt E').2.1
        generalize (fMo_trace_12 9 257 9 258 N 257 (nI k) 0 (pm_u X 40 2 0) B E').2 = R at r2 r3 r4 r5 r6
        have rX : ∀ a, a < 40 → R a = X a := fun a ha => by rw [r2 a (by omega) (by omega) (by omega) (by omega), pm_u_n _ _ _ (by omega)]
        refine Iv_r hI (fun a g1 g2 g3 g4 g5 g6 g7 => ?_) (fun j g1 g2 g3 => ?_) (Or.inr ⟨d g, hd, ?_, r4, ?_, r5, fun j hj => ?_, fun j hj => ?_⟩)
        · rw [r2 a g4 g5 g6 g7, pm_u_n _ _ _ g4]; exact l2 a g1 g2 g3
        · rw [r3 j g2 g3, pm_u_j _ _ _ g1, l2 40 (by decide) (by decide) (by decide)]
        · rw [rX 37 (by decide)]; exact l3
        · rw [rX 37 (by decide)]; exact l4
        · rw [rX 38 (by decide), l5.1 j hj, r6.1 j hj]
        · have x1 := l5.2 j hj
          have x2 := r6.2 j hj
          rw [rX 39 (by decide)]
          exact x1.trans x2.symm
    · have f3' : fCh_firstMet 257 (nI k) I J = -1 := f3
      have ge : ¬ (0 : Int32) ≤ -1 := by decide
      have fC : fCh_trace (nI k) I J = (0, -1, I) := by
        unfold fCh_trace
        rw [k5, if_neg (by decide), f3', if_neg ge]
      have pC : pCh_trace (nI k) I J := by
        unfold pCh_trace
        rw [k5, f3']
        exact ⟨s1, fun w => absurd w (by decide), fun _ => ⟨f1', fun w => absurd w ge, fun _ => trivial⟩⟩
      rw [fC]
      dsimp only
      obtain ⟨n1, n2⟩ := no_sp0 m7 k3 k4
      have v1 : mA (2 ^ rb) (2 ^ ib) (aN Nm rb ib D) (pm_u I 40 2 0) := mA_40 m1.2.1 (pm_u_j _ _ _ (by decide)) (pm_u_j _ _ _ (by decide)) (fun a g1 g2 => pm_u_n _ _ _ (by omega))
      have v2 : rw_ (2 ^ rb) (pm_u I 40 2 0) (323 + k) (SS k) := rw_c (m1.2.2.2 k k1) (pm_u_n _ _ _ (by omega))
      have v3 : pm_u I 40 2 0 40 47 = nI fi := by rw [pm_u_j _ _ _ (by decide)]; exact m9
      have mt := fun E' => m_trB (B := B) (E := E') (N := N) o1 (show k < 30 by omega) v1 v2 v3 a3 hN hn
      have fM : ∀ E', fMo_trace 9 257 9 258 N 257 (nI k) I B E' = fMo_trace_12 9 257 9 258 N 257 (nI k) 0 (pm_u I 40 2 0) B E' := fun E' => by
        unfold fMo_trace fMo_trace_5
        rw [n2]; exact if_pos rfl
      have pM : ∀ E', pMo_trace 9 257 9 258 N 257 (nI k) I B E' := fun E' => by
        unfold pMo_trace pMo_trace_5
        rw [n2]
        exact ⟨n1, fun _ => (mt E').1, fun w => absurd rfl w⟩
      refine ⟨pC, Or.inl ⟨rfl, fun E' => ⟨pM E', ?_, ?_⟩⟩, fun E' => ?_⟩
      · rw [fM, (mt E').2.2 40 (by decide), pm_u_s]
      · rw [fM, (mt E').2.1]
      · rw [fM]
        have r2 := (mt E').2.2
        generalize (fMo_trace_12 9 257 9 258 N 257 (nI k) 0 (pm_u I 40 2 0) B E').2 = R at r2
        have f : ∀ a, a ≠ 40 → a ≠ 353 → R a = I a := fun a g1 g2 => (r2 a g2).trans (pm_u_n _ _ _ g1)
        have f40 : ∀ j, j ≠ 2 → R 40 j = I 40 j := fun j hj => by rw [r2 40 (by decide), pm_u_j _ _ _ hj]
        refine Iv_r hI (fun a g1 g2 g3 g4 g5 g6 g7 => f a g4 g5) (fun j g1 g2 g3 => f40 j g1) ?_
        unfold It at hIt ⊢
        rw [f 37 (by decide) (by decide), f 38 (by decide) (by decide), f 39 (by decide) (by decide), f 354 (by decide) (by decide), f 355 (by decide) (by decide), f40 51 (by decide), f40 52 (by decide)]
        exact hIt
  · obtain ⟨n1, n2⟩ := no_sp1 m7 k1
    have fC : fCh_trace y I J = (14, 0, I) := by
      unfold fCh_trace
      rw [k2, if_pos rfl]
    have pC : pCh_trace y I J := by
      unfold pCh_trace
      rw [k2]
      exact ⟨s1, fun _ => trivial, fun w => absurd rfl w⟩
    have fM : ∀ E', fMo_trace 9 257 9 258 N 257 y I B E' = (0, pm_u (pm_u I 40 2 0) 40 2 1) := fun E' => by
      unfold fMo_trace fMo_trace_5
      rw [n2]; exact if_neg (show ¬ (1 : Int32) = 0 by decide)
    have pM : ∀ E', pMo_trace 9 257 9 258 N 257 y I B E' := fun E' => by
      unfold pMo_trace pMo_trace_5
      rw [n2]
      exact ⟨n1, fun w => absurd w (show ¬ (1 : Int32) = 0 by decide), fun _ => trivial⟩
    rw [fC]
    dsimp only
    refine ⟨pC, Or.inr ⟨rfl, fun E' => ⟨pM E', ?_⟩⟩, fun E' => ?_⟩
    · rw [fM]; dsimp only; exact pm_u_s _ _ _ _
    · rw [fM]; dsimp only; exact Iv_6 hI (eq6_1 _ _ _)
end
