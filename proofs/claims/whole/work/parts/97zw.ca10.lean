/-! CALLS 10: the shortest way, purely -/
section
variable {fi n m : Nat} {nx : Nat → Nat → Nat} {O : List Nat} {q d : Nat → Nat}
theorem nd_ix {O : List Nat} (h : O.Nodup) : ∀ {j j' u : Nat}, O[j]? = some u → O[j']? = some u → j = j' := by
  intro j j' u h1 h2
  obtain ⟨a1, _⟩ := List.getElem?_eq_some_iff.mp h1
  exact (List.getElem?_inj a1 h).mp (h1.trans h2.symm)
/-- where no code is below, no state is before -/
theorem ix_lt (h : bO fi n m nx (O.length * m) O q d) {j j' u v : Nat} (hu : O[j]? = some u) (hv : O[j']? = some v) (h0 : 0 < j') (hq : q u < q v) : j < j' := by
  rcases Nat.lt_trichotomy j j' with c | c | c
  · exact c
  · rw [c, hv] at hu
    injection hu with hu
    rw [hu] at hq
    omega
  · have := h.2.2.2.2.2.1 j' j v u hv hu h0 c
    omega
/-- distances do not fall along the order -/
theorem d_mono (h : bO fi n m nx (O.length * m) O q d) : ∀ (k j j' u v : Nat), j' < k → j ≤ j' → O[j]? = some u → O[j']? = some v → d u ≤ d v := by
  intro k
  induction k with
  | zero => intro j j' u v hk; omega
  | succ k ih =>
    intro j j' u v hk hj hu hv
    by_cases c0 : j = 0
    · rw [c0, h.1] at hu
      injection hu with hu
      rw [← hu, h.2.2.2.1]; omega
    by_cases ce : j = j'
    · rw [ce, hv] at hu
      injection hu with hu
      rw [hu]; exact Nat.le_refl _
    obtain ⟨_, u2, b, u3, _, u5⟩ := h.2.2.2.2.1 j u hu (by omega)
    obtain ⟨_, v2, c, v3, _, v5⟩ := h.2.2.2.2.1 j' v hv (by omega)
    have hq := h.2.2.2.2.2.1 j j' u v hu hv (by omega) (by omega)
    have hd : q u / m ≤ q v / m := Nat.div_le_div_right (by omega)
    have := ih (q u / m) (q v / m) b c (by omega) hd u3 v3
    omega
theorem nx_in (h : bO fi n m nx (O.length * m) O q d) {j u e : Nat} (hu : O[j]? = some u) (he : e < m) : nx u e ∈ O ∧ (nx u e = fi ∨ q (nx u e) ≤ j * m + e) := by
  have jl : j < O.length := by obtain ⟨q, _⟩ := List.getElem?_eq_some_iff.mp hu; exact q
  have h1 : (j + 1) * m ≤ O.length * m := Nat.mul_le_mul_right _ jl
  rw [Nat.succ_mul] at h1
  exact h.2.2.2.2.2.2 j e u (by omega) he hu
theorem d_step (h : bO fi n m nx (O.length * m) O q d) {j u e : Nat} (hu : O[j]? = some u) (he : e < m) : d (nx u e) ≤ d u + 1 := by
  obtain ⟨h1, h2⟩ := nx_in h hu he
  rcases h2 with h2 | h2
  · rw [h2, h.2.2.2.1]; omega
  · obtain ⟨j', hj'⟩ := List.getElem?_of_mem h1
    by_cases c0 : j' = 0
    · rw [c0, h.1] at hj'
      injection hj' with hj'
      rw [← hj', h.2.2.2.1]; omega
    · obtain ⟨_, u2, b, u3, _, u5⟩ := h.2.2.2.2.1 j' _ hj' (by omega)
      have hd : q (nx u e) / m ≤ (j * m + e) / m := Nat.div_le_div_right h2
      have e1 : (j * m + e) / m = j := by rw [Nat.mul_comm, Nat.mul_add_div (by omega), Nat.div_eq_of_lt he, Nat.add_zero]
      rw [e1] at hd
      have := d_mono h (j + 1) (q (nx u e) / m) j b u (Nat.lt_succ_self _) hd u3 hu
      omega
variable {A : Nat → Nat} {T : Se}
/-- how far off T is -/
def aw (n m : Nat) (nx : Nat → Nat → Nat) (A : Nat → Nat) (T : Se) : Prop := (∀ s, s < n → (A s = 0 ↔ T s = true)) ∧ (∀ s i, s < n → i < m → A s ≤ A (nx s i) + 1) ∧ ∀ s, s < n → A s ≠ 0 → A s < 1000 → ∃ i, i < m ∧ A (nx s i) + 1 = A s
theorem aw_to (h : bO fi n m nx (O.length * m) O q d) (ha : aw n m nx A T) : ∀ (t j u : Nat), O[j]? = some u → A u = t → t < 1000 → ∃ (j' w : Nat), O[j']? = some w ∧ T w = true ∧ d w ≤ d u + t := by
  intro t
  induction t with
  | zero => intro j u hu hA _; exact ⟨j, u, hu, (ha.1 u (h.2.2.1 u (List.mem_of_getElem? hu))).mp hA, Nat.le_refl _⟩
  | succ t ih =>
    intro j u hu hA ht
    obtain ⟨i, i1, i2⟩ := ha.2.2 u (h.2.2.1 u (List.mem_of_getElem? hu)) (by omega) (by omega)
    obtain ⟨j', hj'⟩ := List.getElem?_of_mem (nx_in h hu i1).1
    obtain ⟨j2, w, w1, w2, w3⟩ := ih j' _ hj' (by omega) (by omega)
    have := d_step h hu i1
    exact ⟨j2, w, w1, w2, by omega⟩
theorem aw_fi (h : bO fi n m nx (O.length * m) O q d) (hm : 0 < m) (ha : aw n m nx A T) : ∀ (k j u : Nat), j < k → O[j]? = some u → A fi ≤ A u + d u := by
  intro k
  induction k with
  | zero => intro j u hj; omega
  | succ k ih =>
    intro j u hj hu
    by_cases c0 : j = 0
    · rw [c0, h.1] at hu
      injection hu with hu
      rw [← hu]; omega
    · obtain ⟨_, u2, b, u3, u4, u5⟩ := h.2.2.2.2.1 j u hu (by omega)
      have := ih _ b (by omega) u3
      have h2 := ha.2.1 b (q u % m) (h.2.2.1 b (List.mem_of_getElem? u3)) (Nat.mod_lt _ hm)
      rw [u4] at h2
      omega
/-- g is the first state of the order that lies in T -/
def fst_ (O : List Nat) (T : Se) (jg g : Nat) : Prop := O[jg]? = some g ∧ T g = true ∧ ∀ j u : Nat, j < jg → O[j]? = some u → T u = false
theorem aw_D (h : bO fi n m nx (O.length * m) O q d) (hm : 0 < m) (ha : aw n m nx A T) {jg g : Nat} (hg : fst_ O T jg g) (hd : d g < 1000) : A fi = d g := by
  have h1 := aw_fi h hm ha (jg + 1) jg g (Nat.lt_succ_self _) hg.1
  have h2 := (ha.1 g (h.2.2.1 g (List.mem_of_getElem? hg.1))).mpr hg.2.1
  obtain ⟨j', w, w1, w2, w3⟩ := aw_to h ha (A fi) 0 fi h.1 rfl (by omega)
  rw [h.2.2.2.1] at w3
  have hj : jg ≤ j' := Nat.le_of_not_lt fun c => by rw [hg.2.2 j' w c w1] at w2; cases w2
  have := d_mono h (j' + 1) jg j' g w (Nat.lt_succ_self _) hj hg.1 w1
  omega
/-- no state of T is met: none can be -/
theorem aw_no (h : bO fi n m nx (O.length * m) O q d) (ha : aw n m nx A T) (hn : ∀ u ∈ O, T u = false) : ¬ A fi < 1000 := fun c => by
  obtain ⟨j', w, w1, w2, _⟩ := aw_to h ha (A fi) 0 fi h.1 rfl c
  rw [hn w (List.mem_of_getElem? w1)] at w2
  cases w2
/-- back from g -/
def bk (O : List Nat) (q : Nat → Nat) (m g : Nat) : Nat → Nat
  | 0 => g
  | s + 1 => O.getD (q (bk O q m g s) / m) 0
theorem bk_p (h : bO fi n m nx (O.length * m) O q d) (hm : 0 < m) (ha : aw n m nx A T) {jg g : Nat} (hg : fst_ O T jg g) (hd : d g < 1000) : ∀ s, s ≤ d g → (∃ j : Nat, O[j]? = some (bk O q m g s) ∧ (s < d g → 0 < j ∧ O[q (bk O q m g s) / m]? = some (bk O q m g (s + 1)) ∧ nx (bk O q m g (s + 1)) (q (bk O q m g s) % m) = bk O q m g s)) ∧ d (bk O q m g s) = d g - s ∧ A (bk O q m g s) = s := by
  have hD := aw_D h hm ha hg hd
  have fin : ∀ s j : Nat, s ≤ d g → O[j]? = some (bk O q m g s) → d (bk O q m g s) = d g - s → A (bk O q m g s) ≤ s → (∃ j : Nat, O[j]? = some (bk O q m g s) ∧ (s < d g → 0 < j ∧ O[q (bk O q m g s) / m]? = some (bk O q m g (s + 1)) ∧ nx (bk O q m g (s + 1)) (q (bk O q m g s) % m) = bk O q m g s)) ∧ d (bk O q m g s) = d g - s ∧ A (bk O q m g s) = s := by
    intro s j hs hj hd' hA
    refine ⟨⟨j, hj, fun hlt => ?_⟩, hd', ?_⟩
    · have j0 : j ≠ 0 := fun c => by
        rw [c, h.1] at hj
        injection hj with hj
        rw [← hj, h.2.2.2.1] at hd'
        omega
      obtain ⟨_, u2, b, u3, u4, u5⟩ := h.2.2.2.2.1 j _ hj (by omega)
      have e : bk O q m g (s + 1) = b := by
        show O.getD (q (bk O q m g s) / m) 0 = b
        rw [List.getD_eq_getElem?_getD, u3]; rfl
      rw [e]
      exact ⟨by omega, u3, u4⟩
    · have := aw_fi h hm ha (j + 1) j _ (Nat.lt_succ_self _) hj
      omega
  intro s
  induction s with
  | zero => intro _; exact fin 0 jg (Nat.zero_le _) hg.1 rfl (Nat.le_of_eq ((ha.1 g (h.2.2.1 g (List.mem_of_getElem? hg.1))).mpr hg.2.1))
  | succ s ih =>
    intro hs
    obtain ⟨⟨j, j1, j2⟩, i2, i3⟩ := ih (by omega)
    obtain ⟨k1, k2, k3⟩ := j2 (by omega)
    obtain ⟨_, u2, b, u3, u4, u5⟩ := h.2.2.2.2.1 j _ j1 k1
    have e : bk O q m g (s + 1) = b := by rw [u3] at k2; injection k2 with k2; exact k2.symm
    refine fin (s + 1) _ hs k2 (by rw [e]; omega) ?_
    have := ha.2.1 (bk O q m g (s + 1)) (q (bk O q m g s) % m) (h.2.2.1 _ (List.mem_of_getElem? k2)) (Nat.mod_lt _ hm)
    rw [k3] at this
    omega
/-- none before it, at each distance -/
theorem bk_x (h : bO fi n m nx (O.length * m) O q d) (hm : 0 < m) (ha : aw n m nx A T) {jg g : Nat} (hg : fst_ O T jg g) (hd : d g < 1000) : ∀ s, s ≤ d g → ∀ w j j' : Nat, O[j]? = some w → A w = s → O[j']? = some (bk O q m g s) → j < j' → False := by
  have hD := aw_D h hm ha hg hd
  intro s
  induction s with
  | zero =>
    intro _ w j j' hw hA hb hlt
    have hb' : O[j']? = some g := hb
    have : j' = jg := nd_ix h.2.1 hb' hg.1
    have hT := (ha.1 w (h.2.2.1 w (List.mem_of_getElem? hw))).mp hA
    rw [hg.2.2 j w (by omega) hw] at hT
    cases hT
  | succ s ih =>
    intro hs w j j' hw hA hb hlt
    obtain ⟨i, i1, i2⟩ := ha.2.2 w (h.2.2.1 w (List.mem_of_getElem? hw)) (by omega) (by omega)
    obtain ⟨x1, x2⟩ := nx_in h hw i1
    obtain ⟨j2, hj2⟩ := List.getElem?_of_mem x1
    obtain ⟨⟨j3, k1, k2⟩, _, _⟩ := bk_p h hm ha hg hd s (by omega)
    obtain ⟨l1, l2, l3⟩ := k2 (by omega)
    have ej : q (bk O q m g s) / m = j' := nd_ix h.2.1 l2 hb
    have nf : nx w i ≠ fi := fun c => by rw [c] at i2; omega
    have hq := x2.resolve_left nf
    have e1 : (j + 1) * m ≤ q (bk O q m g s) / m * m := Nat.mul_le_mul_right _ (by omega)
    have e2 : q (bk O q m g s) / m * m ≤ q (bk O q m g s) := Nat.div_mul_le_self _ _
    rw [Nat.succ_mul] at e1
    exact ih (by omega) (nx w i) j2 j3 hj2 (by omega) k1 (ix_lt h hj2 k1 l1 (by omega))
/-- the input that leads on is the least -/
theorem bk_f (h : bO fi n m nx (O.length * m) O q d) (hm : 0 < m) (ha : aw n m nx A T) {jg g : Nat} (hg : fst_ O T jg g) (hd : d g < 1000) {s f : Nat} (hs : s < d g) (hf : f < q (bk O q m g s) % m) : A (nx (bk O q m g (s + 1)) f) ≠ s := fun hA => by
  have hD := aw_D h hm ha hg hd
  obtain ⟨⟨j, k1, k2⟩, _, _⟩ := bk_p h hm ha hg hd s (by omega)
  obtain ⟨l1, l2, l3⟩ := k2 hs
  have hfm : f < m := by have := Nat.mod_lt (q (bk O q m g s)) hm; omega
  obtain ⟨x1, x2⟩ := nx_in h l2 hfm
  obtain ⟨j2, hj2⟩ := List.getElem?_of_mem x1
  have nf : nx (bk O q m g (s + 1)) f ≠ fi := fun c => by rw [c] at hA; omega
  have hq := x2.resolve_left nf
  have e := Nat.div_add_mod (q (bk O q m g s)) m
  rw [Nat.mul_comm] at e
  exact bk_x h hm ha hg hd s (by omega) _ j2 j hj2 hA k1 (ix_lt h hj2 k1 l1 (by omega))
theorem bk_0 (h : bO fi n m nx (O.length * m) O q d) (hm : 0 < m) (ha : aw n m nx A T) {jg g : Nat} (hg : fst_ O T jg g) (hd : d g < 1000) : bk O q m g (d g) = fi := by
  obtain ⟨⟨j, k1, _⟩, k3, _⟩ := bk_p h hm ha hg hd (d g) (Nat.le_refl _)
  by_cases c0 : j = 0
  · rw [c0, h.1] at k1
    injection k1 with k1
    exact k1.symm
  · obtain ⟨_, _, b, _, _, u5⟩ := h.2.2.2.2.1 j _ k1 (by omega)
    omega
end
