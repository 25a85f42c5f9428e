/-! CALLS 11: the class's trace -/
section
variable {fi n m : Nat} {nx : Nat → Nat → Nat} {O : List Nat} {q d : Nat → Nat} {T : Se} {I : Mm} {J : Ml}
theorem ap_len {O : List Nat} (h : O.Nodup) (hn : ∀ x ∈ O, x < n) : O.length ≤ n := by
  rw [← cntB_O O h hn]; exact cntB_le _ _
theorem first_met {k : Nat} (hk : k < 30) (hO : O.Nodup) (hn : ∀ x ∈ O, x < n) (n256 : n ≤ 256) (h8 : I 25 8 = nI O.length) (h29 : ∀ (j u : Nat), O[j]? = some u → I 29 j = nI u) (hT : ∀ s, s < 256 → sB J (4 * k) s = T s) : ∀ (e j : Nat), j ≤ O.length → O.length - j < e → (∀ i u : Nat, i < j → O[i]? = some u → T u = false) → pCh_firstMet_2 e (nI k) (nI j) I J ∧ ((∃ jg g, fst_ O T jg g ∧ fCh_firstMet_2 e (nI k) (nI j) I J = nI g) ∨ ((∀ u ∈ O, T u = false) ∧ fCh_firstMet_2 e (nI k) (nI j) I J = -1)) := by
  have ol := ap_len hO hn
  intro e
  induction e with
  | zero => intro j _ h; omega
  | succ e ih =>
    intro j hj he hb
    rw [pCh_firstMet_2.eq_2, fCh_firstMet_2.eq_2, h8]
    by_cases c : O.length ≤ j
    · have c' : nI O.length ≤ nI j := nI_le c (by omega)
      rw [if_pos c']
      refine ⟨⟨fun _ => trivial, fun w => absurd c' w⟩, Or.inr ⟨fun u hu => ?_, rfl⟩⟩
      obtain ⟨i, hi⟩ := List.getElem?_of_mem hu
      have il : i < O.length := by obtain ⟨w, _⟩ := List.getElem?_eq_some_iff.mp hi; exact w
      exact hb i u (by omega) hi
    · have c' : ¬ nI O.length ≤ nI j := nI_ge (by omega) (by omega)
      obtain ⟨u, hu⟩ : ∃ u, O[j]? = some u := ⟨_, List.getElem?_eq_getElem (by omega)⟩
      have un : u < n := hn u (List.mem_of_getElem? hu)
      have so := is_so (I := I) (J := J) (k := k) (s := u) hk (by omega)
      rw [hT u (by omega)] at so
      have vj : vp_in (nI j) 256 := vp_in_nI (by omega) (by decide)
      rw [if_neg c', nI_clamp (n := j) (by omega), h29 j u hu, so.2, nI_i1]
      cases ht : T u with
      | false =>
        have z := ih (j + 1) (by omega) (by omega) (fun i v hi hv => by
          by_cases ci : i = j
          · rw [ci, hu] at hv; injection hv with hv; rw [← hv]; exact ht
          · exact hb i v (by omega) hv)
        rw [if_pos (show b2 false = 0 from rfl)]
        exact ⟨⟨fun w => absurd w c', fun _ => ⟨vj, so.1, fun _ => z.1, fun w => absurd rfl w⟩⟩, z.2⟩
      | true =>
        rw [if_neg (show ¬ b2 true = 0 by decide)]
        exact ⟨⟨fun w => absurd w c', fun _ => ⟨vj, so.1, fun w => absurd w (show ¬ b2 true = 0 by decide), fun _ => ⟨vj, trivial⟩⟩⟩, Or.inl ⟨j, u, ⟨hu, ht, hb⟩, rfl⟩⟩
/-- the way lies in rows r, r + 1 -/
def wayI (O : List Nat) (q : Nat → Nat) (m g D : Nat) (r : Nat) (I : Mm) : Prop := (∀ j, j ≤ D → I r j = nI (bk O q m g (D - j))) ∧ ∀ j, j < D → I (r + 1) j = nI (q (bk O q m g (D - j - 1)) % m)
theorem lead23 {A : Nat → Nat} {g jg : Nat} (h : bO fi n m nx (O.length * m) O q d) (hR : bR fi n m O q d I) (hm : 0 < m) (m8 : m ≤ 8) (ha : aw n m nx A T) (hg : fst_ O T jg g) (hd : d g < 256) (n256 : n ≤ 256) (y2 : Int32) : ∀ (e t : Nat) (X : Mm), t ≤ d g → t < e → (∀ a, a ≠ 37 → a ≠ 38 → a ≠ 39 → X a = I a) → (∀ j, t < j → j ≤ d g → X 38 j = nI (bk O q m g (d g - j))) → (∀ j, t ≤ j → j < d g → X 39 j = nI (q (bk O q m g (d g - j - 1)) % m)) → pTr_lead_23 e y2 (nI (bk O q m g (d g - t))) (nI t) X J ∧ ∃ X', fTr_lead_23 e y2 (nI (bk O q m g (d g - t))) (nI t) X J = X' ∧ (∀ a, a ≠ 38 → a ≠ 39 → X' a = X a) ∧ wayI O q m g (d g) 38 X' := by
  intro e
  induction e with
  | zero => intro t X _ h; omega
  | succ e ih =>
    intro t X ht he hX h38 h39
    rw [pTr_lead_23.eq_2, fTr_lead_23.eq_2]
    obtain ⟨⟨j, k1, k2⟩, k3, k4⟩ := bk_p h hm ha hg (by omega) (d g - t) (by omega)
    have un : bk O q m g (d g - t) < n := h.2.2.1 _ (List.mem_of_getElem? k1)
    by_cases c : t = 0
    · subst c
      rw [if_pos (by decide)]
      have e0 : (0 : Int32).toNatClampNeg = 0 := by decide
      rw [e0]
      refine ⟨⟨fun _ => ⟨vp_in_nI (n := 0) (by decide) (by decide), trivial⟩, fun w => absurd (by decide) w⟩, _, rfl, fun a h1 h2 => pm_u_n _ _ _ h1, fun j hj => ?_, fun j hj => ?_⟩
      · by_cases cj : j = 0
        · rw [cj, pm_u_s]
        · rw [pm_u_j _ _ _ cj]; exact h38 j (by omega) hj
      · rw [pm_u_n _ _ _ (by decide)]; exact h39 j (Nat.zero_le _) hj
    · have c' : ¬ nI t ≤ (0 : Int32) := nI_ge (a := 0) (b := t) (by omega) (by omega)
      obtain ⟨l1, l2, l3⟩ := k2 (by omega)
      obtain ⟨b, r1, r2, r3⟩ := hR.2.2.2 j _ k1 l1
      have eb : b = bk O q m g (d g - t + 1) := by rw [l2] at r1; injection r1 with r1; exact r1.symm
      have es : nI t - 1 = nI (t - 1) := by
        have := nI_pred (t - 1)
        rw [show t - 1 + 1 = t by omega] at this
        exact this
      have em : nI t + Int32.ofInt (-1) = nI (t - 1) := by
        rw [← es, show Int32.ofInt (-1) = -1 by decide, ← Int32.sub_eq_add_neg]
      have ct : (nI t).toNatClampNeg = t := nI_clamp (by omega)
      have ct1 : (nI (t - 1)).toNatClampNeg = t - 1 := nI_clamp (by omega)
      have cu : (nI (bk O q m g (d g - t))).toNatClampNeg = bk O q m g (d g - t) := nI_clamp (by omega)
      have x32 : pm_u X 38 t (nI (bk O q m g (d g - t))) 32 (bk O q m g (d g - t)) = nI (q (bk O q m g (d g - t)) % m) := by
        rw [pm_u_n _ _ _ (by decide), hX 32 (by decide) (by decide) (by decide)]; exact r3
      rw [if_neg c', es, em, ct, ct1, cu, x32]
      have x31 : pm_u (pm_u X 38 t (nI (bk O q m g (d g - t)))) 39 (t - 1) (nI (q (bk O q m g (d g - t)) % m)) 31 (bk O q m g (d g - t)) = nI (bk O q m g (d g - (t - 1))) := by
        rw [pm_u_n _ _ _ (by decide), pm_u_n _ _ _ (by decide), hX 31 (by decide) (by decide) (by decide), r2, eb, show d g - (t - 1) = d g - t + 1 by omega]
      rw [x31]
      obtain ⟨z1, X', z2, z3, z4⟩ := ih (t - 1) (pm_u (pm_u X 38 t (nI (bk O q m g (d g - t)))) 39 (t - 1) (nI (q (bk O q m g (d g - t)) % m))) (by omega) (by omega) (fun a h1 h2 h3 => by rw [pm_u_n _ _ _ h3, pm_u_n _ _ _ h2]; exact hX a h1 h2 h3) (fun j h1 h2 => by
        rw [pm_u_n _ _ _ (by decide)]
        by_cases cj : j = t
        · rw [cj, pm_u_s]
        · rw [pm_u_j _ _ _ cj]; exact h38 j (by omega) h2) (fun j h1 h2 => by
        by_cases cj : j = t - 1
        · rw [cj, pm_u_s, show d g - (t - 1) - 1 = d g - t by omega]
        · rw [pm_u_j _ _ _ cj, pm_u_n _ _ _ (by decide)]; exact h39 j (by omega) h2)
      have vt : vp_in (nI t) 256 := vp_in_nI (by omega) (by decide)
      have vu : vp_in (nI (bk O q m g (d g - t))) 256 := vp_in_nI (by omega) (by decide)
      have vt1 : vp_in (nI (t - 1)) 256 := vp_in_nI (by omega) (by decide)
      exact ⟨⟨fun w => absurd w c', fun _ => ⟨vt, vu, vt1, vu, z1⟩⟩, X', z2, fun a h1 h2 => by rw [z3 a h1 h2, pm_u_n _ _ _ h2, pm_u_n _ _ _ h1], z4⟩
theorem tr_lead {A : Nat → Nat} {g jg : Nat} (h : bO fi n m nx (O.length * m) O q d) (hR : bR fi n m O q d I) (hm : 0 < m) (m8 : m ≤ 8) (ha : aw n m nx A T) (hg : fst_ O T jg g) (hd : d g < 256) (n256 : n ≤ 256) : pTr_lead 257 (nI g) I J ∧ (∀ a, a ≠ 37 → a ≠ 38 → a ≠ 39 → fTr_lead 257 (nI g) I J a = I a) ∧ fTr_lead 257 (nI g) I J 37 2 = nI (d g) ∧ fTr_lead 257 (nI g) I J 37 3 = 1 ∧ wayI O q m g (d g) 38 (fTr_lead 257 (nI g) I J) := by
  have gO : g ∈ O := List.mem_of_getElem? hg.1
  have gn : g < n := h.2.2.1 g gO
  have cg : (nI g).toNatClampNeg = g := nI_clamp (by omega)
  have e30 : pm_u I 37 3 1 30 g = nI (d g) := by
    rw [pm_u_n _ _ _ (by decide)]; exact (hR.2.2.1 g gn).1 gO
  obtain ⟨z1, X', z2, z3, z4⟩ := lead23 (J := J) h hR hm m8 ha hg hd n256 (nI g) 257 (d g) (pm_u (pm_u I 37 3 1) 37 2 (nI (d g))) (Nat.le_refl _) (by omega) (fun a h1 _ _ => by rw [pm_u_n _ _ _ h1, pm_u_n _ _ _ h1]) (fun j h1 h2 => by omega) (fun j h1 h2 => by omega)
  rw [Nat.sub_self] at z1 z2
  unfold pTr_lead fTr_lead
  rw [cg, e30]
  have z1' : pTr_lead_23 257 (nI g) (nI g) (nI (d g)) (pm_u (pm_u I 37 3 1) 37 2 (nI (d g))) J := z1
  have z2' : fTr_lead_23 257 (nI g) (nI g) (nI (d g)) (pm_u (pm_u I 37 3 1) 37 2 (nI (d g))) J = X' := z2
  rw [z2']
  refine ⟨⟨vp_in_nI (by omega) (by decide), z1'⟩, fun a h1 h2 h3 => ?_, ?_, ?_, z4⟩
  · rw [z3 a h2 h3, pm_u_n _ _ _ h1, pm_u_n _ _ _ h1]
  · rw [z3 37 (by decide) (by decide), pm_u_s]
  · rw [z3 37 (by decide) (by decide), pm_u_j _ _ _ (by decide), pm_u_s]
end
