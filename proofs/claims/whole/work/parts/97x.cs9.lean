/-! CLASS MEETS ALL STATES -/
/-- O: the states in their order; q: the code of the step by which a state is met; c: the codes below c are done -/
def bO (fi n m : Nat) (nx : Nat → Nat → Nat) (c : Nat) (O : List Nat) (q d : Nat → Nat) : Prop := O[0]? = some fi ∧ O.Nodup ∧ (∀ x ∈ O, x < n) ∧ d fi = 0 ∧ (∀ j u, O[j]? = some u → 0 < j → q u < c ∧ q u / m < j ∧ ∃ b, O[q u / m]? = some b ∧ nx b (q u % m) = u ∧ d u = d b + 1) ∧ (∀ j j' u v, O[j]? = some u → O[j']? = some v → 0 < j → j < j' → q u < q v) ∧ ∀ i e u, i * m + e < c → e < m → O[i]? = some u → nx u e ∈ O ∧ (nx u e = fi ∨ q (nx u e) ≤ i * m + e)
def bR (fi n m : Nat) (O : List Nat) (q d : Nat → Nat) (I : Mm) : Prop := I 25 8 = nI O.length ∧ (∀ j u, O[j]? = some u → I 29 j = nI u) ∧ (∀ s, s < n → (s ∈ O → I 30 s = nI (d s)) ∧ (s ∉ O → I 30 s = -1)) ∧ ∀ j u, O[j]? = some u → 0 < j → ∃ b, O[q u / m]? = some b ∧ I 31 u = nI b ∧ I 32 u = nI (q u % m)
def bF (I I' : Mm) : Prop := (∀ a, a ≠ 25 → a ≠ 29 → a ≠ 30 → a ≠ 31 → a ≠ 32 → I' a = I a) ∧ ∀ j, j ≠ 8 → I' 25 j = I 25 j
theorem bF_r (I : Mm) : bF I I := ⟨fun _ _ _ _ _ _ => rfl, fun _ _ => rfl⟩
theorem bF_t {I I' I'' : Mm} (h : bF I I') (h' : bF I' I'') : bF I I'' := ⟨fun a h1 h2 h3 h4 h5 => (h'.1 a h1 h2 h3 h4 h5).trans (h.1 a h1 h2 h3 h4 h5), fun j hj => (h'.2 j hj).trans (h.2 j hj)⟩
theorem cN_b {n m ib : Nat} {nx : Nat → Nat → Nat} {I I' : Mm} (h : cN n m ib nx I) (f : bF I I') : cN n m ib nx I' := by
  unfold cN at h ⊢
  rw [f.1 3 (by decide) (by decide) (by decide) (by decide) (by decide), f.1 26 (by decide) (by decide) (by decide) (by decide) (by decide), f.2 1 (by decide), f.2 2 (by decide)]
  exact h
theorem gl_a {O : List Nat} {x j u : Nat} (h : (O ++ [x])[j]? = some u) : (j < O.length ∧ O[j]? = some u) ∨ (j = O.length ∧ u = x) := by
  rw [List.getElem?_append] at h
  by_cases c : j < O.length
  · rw [if_pos c] at h; exact Or.inl ⟨c, h⟩
  · rw [if_neg c] at h
    rcases Nat.eq_zero_or_pos (j - O.length) with h0 | h0
    · rw [h0] at h
      simp only [List.getElem?_cons_zero, Option.some.injEq] at h
      exact Or.inr ⟨by omega, h.symm⟩
    · rw [List.getElem?_eq_none (by simp only [List.length_cons, List.length_nil]; omega)] at h; cases h
theorem gl_l {O : List Nat} {j u : Nat} (h : O[j]? = some u) : j < O.length := by
  obtain ⟨k, _⟩ := List.getElem?_eq_some_iff.mp h; exact k
theorem gl_u {O : List Nat} {j u : Nat} (x : Nat) (h : O[j]? = some u) : (O ++ [x])[j]? = some u := by
  rw [List.getElem?_append, if_pos (gl_l h)]; exact h
section
variable {fi n m ib : Nat} {nx : Nat → Nat → Nat}
set_option maxHeartbeats 2000000 in
theorem cs_meet {I : Mm} {O : List Nat} {q d : Nat → Nat} {k i u : Nat} (J : Ml) (hN : cN n m ib nx I) (hO : bO fi n m nx (k * m + i) O q d) (hR : bR fi n m O q d I) (hd : ∀ x ∈ O, d x < O.length) (hi : i < m) (hu : O[k]? = some u) : pSt_meet (nI u) (nI i) I J ∧ ∃ O' q' d', bO fi n m nx (k * m + i + 1) O' q' d' ∧ bR fi n m O' q' d' (fSt_meet (nI u) (nI i) I J) ∧ bF I (fSt_meet (nI u) (nI i) I J) ∧ (∀ x ∈ O', d' x < O'.length) ∧ O'[k]? = some u ∧ O.length ≤ O'.length := by
  have hNN := hN
  have m8 := cN_m hN
  obtain ⟨h1, h2, h3, h4, h5, h6, h7, h8⟩ := hN
  obtain ⟨o1, o2, o3, o4, o5, o6, o7⟩ := hO
  obtain ⟨r1, r2, r3, r4⟩ := hR
  have uO : u ∈ O := List.mem_of_getElem? hu
  have un := o3 u uO
  obtain ⟨x1, x2⟩ := h8 u un i hi
  have lt := cs_lt un hi
  have kl := gl_l hu
  have vc : vp_in (nI (u * m + i)) 2048 := vp_in_nI (by omega) (by decide)
  have vt : vp_in (nI (nx u i)) 256 := vp_in_nI (by omega) (by decide)
  have Ol := nd_le n O o2 o3
  unfold pSt_meet fSt_meet
  rw [cN_case hNN J un hi, nI_clamp (n := u * m + i) (by omega), x1, nI_clamp (n := nx u i) (by omega)]
  have code : ∀ a e, e < m → a * m + e < k * m + i + 1 → a * m + e < k * m + i ∨ (a = k ∧ e = i) := fun a e he hlt => by
    by_cases c : a * m + e < k * m + i
    · exact Or.inl c
    · refine Or.inr ?_
      have e1 : a * m + e = k * m + i := by omega
      have d1 : (a * m + e) / m = a := by rw [Nat.mul_comm, Nat.mul_add_div (by omega), Nat.div_eq_of_lt he, Nat.add_zero]
      have d2 : (k * m + i) / m = k := by rw [Nat.mul_comm, Nat.mul_add_div (by omega), Nat.div_eq_of_lt hi, Nat.add_zero]
      rw [e1, d2] at d1
      subst d1
      exact ⟨rfl, by omega⟩
  by_cases tO : nx u i ∈ O
  · have c0 : 0 ≤ I 30 (nx u i) := by rw [(r3 _ x2).1 tO]; exact nI_pos' (by have := hd _ tO; omega)
    rw [if_pos c0]
    refine ⟨⟨trivial, vc, vt, fun _ => trivial, fun w => absurd c0 w⟩, O, q, d, ⟨o1, o2, o3, o4, fun j v hv hj => ?_, o6, fun a e v hlt he hv => ?_⟩, ⟨r1, r2, r3, r4⟩, bF_r _, hd, hu, Nat.le_refl _⟩
    · have z := o5 j v hv hj
      exact ⟨by omega, z.2⟩
    · rcases code a e he hlt with c | ⟨ca, ce⟩
      · exact o7 a e v c he hv
      · subst ca; subst ce
        rw [hu] at hv
        cases hv
        refine ⟨tO, ?_⟩
        obtain ⟨j, hj⟩ := List.getElem?_of_mem tO
        by_cases j0 : j = 0
        · rw [j0, o1] at hj
          cases hj
          exact Or.inl rfl
        · exact Or.inr (Nat.le_of_lt (o5 j _ hj (by omega)).1)
  · have c0 : ¬ 0 ≤ I 30 (nx u i) := by rw [(r3 _ x2).2 tO]; decide
    have nd : (O ++ [nx u i]).Nodup := by
      rw [List.nodup_append]
      exact ⟨o2, List.nodup_cons.mpr ⟨List.not_mem_nil, List.nodup_nil⟩, fun a ha b hb => by rw [List.mem_singleton.mp hb]; exact fun w => tO (by rw [← w]; exact ha)⟩
    have al : ∀ y ∈ O ++ [nx u i], y < n := fun y hy => by
      rcases List.mem_append.mp hy with w | w
      · exact o3 y w
      · rw [List.mem_singleton.mp w]; exact x2
    have ll := nd_le n _ nd al
    rw [List.length_append] at ll
    simp only [List.length_cons, List.length_nil] at ll
    have c1 : ¬ (256 : Int32) ≤ I 25 8 := by rw [r1]; exact nI_ge (b := 256) (by omega) (by decide)
    have du := hd u uO
    have vu : vp_in (nI u) 256 := vp_in_nI (by omega) (by decide)
    have vl : vp_in (nI O.length) 256 := vp_in_nI (by omega) (by decide)
    rw [if_neg c0, if_neg c1, r1, nI_clamp (n := u) (by omega), nI_clamp (n := O.length) (by omega), (r3 u un).1 uO, nI_1, nI_1]
    rw [r1] at c1
    generalize eI : pm_u (pm_u (pm_u (pm_u (pm_u I 30 (nx u i) (nI (d u + 1))) 31 (nx u i) (nI u)) 32 (nx u i) (nI i)) 29 O.length (nI (nx u i))) 25 8 (nI (O.length + 1)) = I1
    have gb : bF I I1 := ⟨fun a g1 g2 g3 g4 g5 => by rw [← eI, pm_u_n _ _ _ g1, pm_u_n _ _ _ g2, pm_u_n _ _ _ g5, pm_u_n _ _ _ g4, pm_u_n _ _ _ g3], fun j hj => by rw [← eI, pm_u_j _ _ _ hj, pm_u_n _ _ _ (by decide), pm_u_n _ _ _ (by decide), pm_u_n _ _ _ (by decide), pm_u_n _ _ _ (by decide)]⟩
    have g258 : I1 25 8 = nI (O.length + 1) := by rw [← eI, pm_u_s]
    have g29 : I1 29 O.length = nI (nx u i) := by rw [← eI, pm_u_n _ _ _ (by decide), pm_u_s]
    have g29' : ∀ j, j ≠ O.length → I1 29 j = I 29 j := fun j hj => by rw [← eI, pm_u_n _ _ _ (by decide), pm_u_j _ _ _ hj, pm_u_n _ _ _ (by decide), pm_u_n _ _ _ (by decide), pm_u_n _ _ _ (by decide)]
    have g32 : I1 32 (nx u i) = nI i := by rw [← eI, pm_u_n _ _ _ (by decide), pm_u_n _ _ _ (by decide), pm_u_s]
    have g32' : ∀ j, j ≠ nx u i → I1 32 j = I 32 j := fun j hj => by rw [← eI, pm_u_n _ _ _ (by decide), pm_u_n _ _ _ (by decide), pm_u_j _ _ _ hj, pm_u_n _ _ _ (by decide), pm_u_n _ _ _ (by decide)]
    have g31 : I1 31 (nx u i) = nI u := by rw [← eI, pm_u_n _ _ _ (by decide), pm_u_n _ _ _ (by decide), pm_u_n _ _ _ (by decide), pm_u_s]
    have g31' : ∀ j, j ≠ nx u i → I1 31 j = I 31 j := fun j hj => by rw [← eI, pm_u_n _ _ _ (by decide), pm_u_n _ _ _ (by decide), pm_u_n _ _ _ (by decide), pm_u_j _ _ _ hj, pm_u_n _ _ _ (by decide)]
    have g30 : I1 30 (nx u i) = nI (d u + 1) := by rw [← eI, pm_u_n _ _ _ (by decide), pm_u_n _ _ _ (by decide), pm_u_n _ _ _ (by decide), pm_u_n _ _ _ (by decide), pm_u_s]
    have g30' : ∀ j, j ≠ nx u i → I1 30 j = I 30 j := fun j hj => by rw [← eI, pm_u_n _ _ _ (by decide), pm_u_n _ _ _ (by decide), pm_u_n _ _ _ (by decide), pm_u_n _ _ _ (by decide), pm_u_j _ _ _ hj]
    have ne : ∀ x ∈ O, x ≠ nx u i := fun x hx w => tO (by rw [← w]; exact hx)
    have fO : fi ∈ O := List.mem_of_getElem? o1
    have dv : (k * m + i) / m = k := by rw [Nat.mul_comm, Nat.mul_add_div (by omega), Nat.div_eq_of_lt hi, Nat.add_zero]
    have md : (k * m + i) % m = i := by rw [Nat.mul_comm, Nat.mul_add_mod, Nat.mod_eq_of_lt hi]
    have qn : ∀ x ∈ O, upv q (nx u i) (k * m + i) x = q x := fun x hx => if_neg (ne x hx)
    have dn : ∀ x ∈ O, upv d (nx u i) (d u + 1) x = d x := fun x hx => if_neg (ne x hx)
    have qs : upv q (nx u i) (k * m + i) (nx u i) = k * m + i := if_pos rfl
    have ds : upv d (nx u i) (d u + 1) (nx u i) = d u + 1 := if_pos rfl
    refine ⟨⟨trivial, vc, vt, fun w => absurd w c0, fun _ => ⟨fun w => absurd w c1, fun _ => ⟨vu, vt, vt, vt, vl, trivial⟩⟩⟩, O ++ [nx u i], upv q (nx u i) (k * m + i), upv d (nx u i) (d u + 1), ⟨gl_u _ o1, nd, al, by rw [dn fi fO]; exact o4, fun j v hv hj => ?_, fun j j' v w hv hw hj hjj => ?_, fun a e v hlt he hv => ?_⟩, ⟨by rw [g258, List.length_append]; rfl, fun j v hv => ?_, fun s hs => ⟨fun w => ?_, fun w => ?_⟩, fun j v hv hj => ?_⟩, gb, fun x hx => ?_, gl_u _ hu, by rw [List.length_append]; omega⟩
    · rcases gl_a hv with ⟨c, hv'⟩ | ⟨c, hv'⟩
      · have vO := List.mem_of_getElem? hv'
        obtain ⟨z1, z2, b, z3, z4, z5⟩ := o5 j v hv' hj
        rw [qn v vO, dn v vO]
        exact ⟨by omega, z2, b, gl_u _ z3, z4, by rw [dn b (List.mem_of_getElem? z3)]; exact z5⟩
      · rw [hv', qs, ds, dv, md]
        exact ⟨by omega, by omega, u, gl_u _ hu, rfl, by rw [dn u uO]⟩
    · rcases gl_a hw with ⟨c, hw'⟩ | ⟨c, hw'⟩
      · rcases gl_a hv with ⟨c2, hv'⟩ | ⟨c2, _⟩
        · rw [qn v (List.mem_of_getElem? hv'), qn w (List.mem_of_getElem? hw')]
          exact o6 j j' v w hv' hw' hj hjj
        · omega
      · rcases gl_a hv with ⟨c2, hv'⟩ | ⟨c2, _⟩
        · rw [qn v (List.mem_of_getElem? hv'), hw', qs]
          exact (o5 j v hv' hj).1
        · omega
    · rcases gl_a hv with ⟨c, hv'⟩ | ⟨c, hv'⟩
      · rcases code a e he hlt with c2 | ⟨ca, ce⟩
        · obtain ⟨z1, z2⟩ := o7 a e v c2 he hv'
          refine ⟨List.mem_append_left _ z1, ?_⟩
          rw [qn _ z1]; exact z2
        · subst ca; subst ce
          rw [hu] at hv'
          cases hv'
          exact ⟨List.mem_append_right _ (List.mem_singleton.mpr rfl), Or.inr (by rw [qs]; exact Nat.le_refl _)⟩
      · rcases code a e he hlt with c2 | ⟨ca, ce⟩
        · have : k * m + m ≤ O.length * m := by
            have : (k + 1) * m ≤ O.length * m := Nat.mul_le_mul_right _ kl
            rw [Nat.succ_mul] at this; exact this
          rw [c] at c2
          omega
        · omega
    · rcases gl_a hv with ⟨c, hv'⟩ | ⟨c, hv'⟩
      · rw [g29' j (by omega)]; exact r2 j v hv'
      · rw [c, hv']; exact g29
    · rcases List.mem_append.mp w with w | w
      · rw [g30' s (ne s w), dn s w]; exact (r3 s hs).1 w
      · rw [List.mem_singleton.mp w, ds]; exact g30
    · have w1 : s ∉ O := fun z => w (List.mem_append_left _ z)
      have w2 : s ≠ nx u i := fun z => w (List.mem_append_right _ (List.mem_singleton.mpr z))
      rw [g30' s w2]; exact (r3 s hs).2 w1
    · rcases gl_a hv with ⟨c, hv'⟩ | ⟨c, hv'⟩
      · have vO := List.mem_of_getElem? hv'
        obtain ⟨b, z1, z2, z3⟩ := r4 j v hv' hj
        rw [qn v vO, g31' v (ne v vO), g32' v (ne v vO)]
        exact ⟨b, gl_u _ z1, z2, z3⟩
      · rw [hv', qs, dv, md, g31, g32]
        exact ⟨u, gl_u _ hu, rfl, rfl⟩
    · rw [List.length_append]
      simp only [List.length_cons, List.length_nil]
      rcases List.mem_append.mp hx with w | w
      · rw [dn x w]; have := hd x w; omega
      · rw [List.mem_singleton.mp w, ds]; omega
def bZ (fi n m : Nat) (nx : Nat → Nat → Nat) (I I' : Mm) : Prop := ∃ O q d, bO fi n m nx (O.length * m) O q d ∧ bR fi n m O q d I' ∧ bF I I' ∧ ∀ x ∈ O, d x < O.length
theorem cs_59 (J : Ml) (f : Nat) (Ist : Mm) (hin : ∀ (k : Nat) (I : Mm) (O : List Nat) (q d : Nat → Nat), cN n m ib nx I → bO fi n m nx (k * m) O q d → bR fi n m O q d I → (∀ x ∈ O, d x < O.length) → bF Ist I → k ≤ O.length → n - k < f → pSt_meetAll_41 9 f (nI k) I J ∧ bZ fi n m nx Ist (fSt_meetAll_41 9 f (nI k) I J)) : ∀ (f59 i k u : Nat) (I : Mm) (O : List Nat) (q d : Nat → Nat), cN n m ib nx I → bO fi n m nx (k * m + i) O q d → bR fi n m O q d I → (∀ x ∈ O, d x < O.length) → bF Ist I → O[k]? = some u → i ≤ m → m - i < f59 → n - (k + 1) < f → pSt_meetAll_59 (pSt_meetAll_41 9 f) f59 (nI k) (nI i) I J ∧ bZ fi n m nx Ist (fSt_meetAll_59 (fSt_meetAll_41 9 f) f59 (nI k) (nI i) I J) := by
  intro f59
  induction f59 with
  | zero => intro i k u I O q d _ _ _ _ _ _ _ h; omega
  | succ f59 ih =>
    intro i k u I O q d hN hO hR hd hF hu hi hf hk
    have m8 := cN_m hN
    have kl := gl_l hu
    have Ol := nd_le n O hO.2.1 hO.2.2.1
    have n256 := hN.2.1
    rw [pSt_meetAll_59.eq_2, fSt_meetAll_59.eq_2]
    by_cases c : m ≤ i
    · have c' : I 25 2 ≤ nI i := by rw [hN.2.2.1]; exact nI_le c (by omega)
      have e : k * m + i = (k + 1) * m := by rw [Nat.succ_mul]; omega
      rw [e] at hO
      have z := hin (k + 1) I O q d hN hO hR hd hF (by omega) hk
      rw [if_pos c', nI_i1]
      exact ⟨⟨fun _ => z.1, fun w => absurd c' w⟩, z.2⟩
    · have c' : ¬ I 25 2 ≤ nI i := by rw [hN.2.2.1]; exact nI_ge (by omega) (by omega)
      have vk : vp_in (nI k) 256 := vp_in_nI (by omega) (by decide)
      rw [if_neg c', nI_clamp (n := k) (by omega), hR.2.1 k u hu]
      obtain ⟨z1, O', q', d', z2, z3, z4, z5, z6, z7⟩ := cs_meet J hN hO hR hd (show i < m by omega) hu
      unfold pSt_meetAll_78 fSt_meetAll_78
      rw [nI_i1 i]
      have z := ih (i + 1) k u _ O' q' d' (cN_b hN z4) z2 z3 z5 (bF_t hF z4) z6 (by omega) (by omega) hk
      exact ⟨⟨fun w => absurd w c', fun _ => ⟨vk, z1, z.1⟩⟩, z.2⟩
theorem cs_41 (J : Ml) (Ist : Mm) : ∀ (f k : Nat) (I : Mm) (O : List Nat) (q d : Nat → Nat), cN n m ib nx I → bO fi n m nx (k * m) O q d → bR fi n m O q d I → (∀ x ∈ O, d x < O.length) → bF Ist I → k ≤ O.length → n - k < f → pSt_meetAll_41 9 f (nI k) I J ∧ bZ fi n m nx Ist (fSt_meetAll_41 9 f (nI k) I J) := by
  intro f
  induction f with
  | zero => intro k I O q d _ _ _ _ _ _ h; omega
  | succ f ih =>
    intro k I O q d hN hO hR hd hF hk hf
    have m8 := cN_m hN
    have Ol := nd_le n O hO.2.1 hO.2.2.1
    have n256 := hN.2.1
    rw [pSt_meetAll_41.eq_2, fSt_meetAll_41.eq_2]
    by_cases c : O.length ≤ k
    · have c' : I 25 8 ≤ nI k := by rw [hR.1]; exact nI_le c (by omega)
      rw [if_pos c']
      have e : k = O.length := by omega
      rw [e] at hO
      exact ⟨⟨fun _ => trivial, fun w => absurd c' w⟩, O, q, d, hO, hR, hF, hd⟩
    · have c' : ¬ I 25 8 ≤ nI k := by rw [hR.1]; exact nI_ge (by omega) (by omega)
      have c2 : ¬ I 25 1 ≤ nI k := by rw [hN.1]; exact nI_ge (by omega) (by omega)
      obtain ⟨u, hu⟩ : ∃ u, O[k]? = some u := ⟨_, List.getElem?_eq_getElem (by omega)⟩
      have z := cs_59 J f Ist ih 9 0 k u I O q d hN (by rw [Nat.add_zero]; exact hO) hR hd hF hu (Nat.zero_le _) (by omega) (by omega)
      have z1 : pSt_meetAll_59 (pSt_meetAll_41 9 f) 9 (nI k) 0 I J := z.1
      have z2 : bZ fi n m nx Ist (fSt_meetAll_59 (fSt_meetAll_41 9 f) 9 (nI k) 0 I J) := z.2
      rw [if_neg c', if_neg c2]
      exact ⟨⟨fun w => absurd w c', fun _ => ⟨fun w => absurd w c2, fun _ => z1⟩⟩, z2⟩
theorem cs_meetAll {I : Mm} (J : Ml) (hN : cN n m ib nx I) (hfi : fi < n) (h10 : I 3 10 = nI fi) : pSt_meetAll 9 257 I J ∧ bZ fi n m nx I (fSt_meetAll 9 257 I J) := by
  have n256 := hN.2.1
  have hf := Ar_fill_30_o (-1) I J
  have fa : ∀ a, a ≠ 30 → pm_fl I 30 256 (-1) a = I a := fun a ha => pm_fl_n _ _ _ ha
  have e0 : (0 : Int32).toNatClampNeg = 0 := by decide
  unfold pSt_meetAll fSt_meetAll pSt_meetAll_8 fSt_meetAll_8
  rw [hf.2, fa 3 (by decide), h10, nI_clamp (by omega), e0]
  generalize eI : pm_u (pm_u (pm_u (pm_fl I 30 256 (-1)) 29 0 (nI fi)) 30 fi 0) 25 8 1 = I1
  have gb : bF I I1 := ⟨fun a g1 g2 g3 g4 g5 => by rw [← eI, pm_u_n _ _ _ g1, pm_u_n _ _ _ g3, pm_u_n _ _ _ g2, fa a g3], fun j hj => by rw [← eI, pm_u_j _ _ _ hj, pm_u_n _ _ _ (by decide), pm_u_n _ _ _ (by decide), fa 25 (by decide)]⟩
  have hO : bO fi n m nx (0 * m) [fi] (fun _ => 0) (fun _ => 0) := by
    refine ⟨rfl, List.nodup_cons.mpr ⟨List.not_mem_nil, List.nodup_nil⟩, fun x hx => by rw [List.mem_singleton.mp hx]; exact hfi, rfl, fun j u hu hj => ?_, fun j j' u v hu hv hj hjj => ?_, fun i e u hlt => by omega⟩
    · have := gl_l hu; simp only [List.length_cons, List.length_nil] at this; omega
    · have := gl_l hu; simp only [List.length_cons, List.length_nil] at this; omega
  have hR : bR fi n m [fi] (fun _ => 0) (fun _ => 0) I1 := by
    refine ⟨by rw [← eI, pm_u_s]; rfl, fun j u hu => ?_, fun s hs => ⟨fun w => ?_, fun w => ?_⟩, fun j u hu hj => ?_⟩
    · have := gl_l hu; simp only [List.length_cons, List.length_nil] at this
      have j0 : j = 0 := by omega
      subst j0
      cases hu
      rw [← eI, pm_u_n _ _ _ (by decide), pm_u_n _ _ _ (by decide), pm_u_s]
    · rw [List.mem_singleton.mp w, ← eI, pm_u_n _ _ _ (by decide), pm_u_s]; rfl
    · rw [← eI, pm_u_n _ _ _ (by decide), pm_u_j _ _ _ (fun z => w (List.mem_singleton.mpr z)), pm_u_n _ _ _ (by decide), pm_fl_j _ _ _ (by omega)]
    · have := gl_l hu; simp only [List.length_cons, List.length_nil] at this; omega
  have z := cs_41 J I 257 0 I1 [fi] _ _ (cN_b hN gb) hO hR (fun x _ => Nat.one_pos) gb (Nat.zero_le _) (by omega)
  have z1 : pSt_meetAll_41 9 257 0 I1 J := z.1
  have z2 : bZ fi n m nx I (fSt_meetAll_41 9 257 0 I1 J) := z.2
  exact ⟨⟨hf.1, vp_0 (by decide) (by decide), vp_in_nI (by omega) (by decide), z1⟩, z2⟩
end
