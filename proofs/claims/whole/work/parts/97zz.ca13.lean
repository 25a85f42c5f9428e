/-! CALLS 13: trace -/
section
variable {fi n m : Nat} {nx : Nat → Nat → Nat} {O : List Nat} {q d : Nat → Nat} {T : Se} {A : Nat → Nat} {g jg : Nat} {Y : Mm} {B : Nat → Value} {E : List (Nat × Nat)}
theorem t_190 (h : bO fi n m nx (O.length * m) O q d) (hm : 0 < m) (ha : aw n m nx A T) (hg : fst_ O T jg g) (hd : d g < 256) (hY : mA n m nx Y) (h353 : ∀ s, s < n → Y 353 s = nI (A s)) (hA : ∀ s, A s ≤ 1000) (h51 : Y 40 51 = nI (d g)) (y1 y2 : Int32) : ∀ (e t : Nat) (X : Mm), t ≤ d g → d g - t < e → (∀ a, a ≠ 354 → a ≠ 355 → X a = Y a) → (∀ j, j < t → X 354 j = nI (bk O q m g (d g - j))) → (∀ j, j < t → X 355 j = nI (q (bk O q m g (d g - j - 1)) % m)) → pMo_trace_190 9 e y1 y2 (nI (bk O q m g (d g - t))) (nI t) X B E ∧ ∃ X', fMo_trace_190 9 e y1 y2 (nI (bk O q m g (d g - t))) (nI t) X B E = (nI (d g), X') ∧ (∀ a, a ≠ 354 → a ≠ 355 → X' a = Y a) ∧ wayI O q m g (d g) 354 X' := by
  have n256 := hY.2.2.1
  have m8 := hY.2.2.2.1
  intro e
  induction e with
  | zero => intro t X _ h; omega
  | succ e ih =>
    intro t X ht he hX h1 h2
    have x51 : X 40 51 = nI (d g) := by rw [hX 40 (by decide) (by decide)]; exact h51
    rw [pMo_trace_190.eq_2, fMo_trace_190.eq_2, x51]
    by_cases c : d g ≤ t
    · have c' : nI (d g) ≤ nI t := nI_le c (by omega)
      have et : t = d g := by omega
      rw [if_pos c', nI_clamp (n := d g) (by omega)]
      refine ⟨⟨fun _ => ⟨vp_in_nI (by omega) (by decide), trivial⟩, fun w => absurd c' w⟩, _, rfl, fun a g1 g2 => ?_, fun j hj => ?_, fun j hj => ?_⟩
      · rw [pm_u_n _ _ _ g1]; exact hX a g1 g2
      · by_cases cj : j = d g
        · rw [cj, pm_u_s, et]
        · rw [pm_u_j _ _ _ cj]; exact h1 j (by omega)
      · rw [pm_u_n _ _ _ (by decide)]; exact h2 j (by omega)
    · have c' : ¬ nI (d g) ≤ nI t := nI_ge (by omega) (by omega)
      obtain ⟨s, es⟩ : ∃ s, d g - t = s + 1 := ⟨d g - t - 1, by omega⟩
      rw [if_neg c', es]
      obtain ⟨⟨j0, k1, k2⟩, k3, k4⟩ := bk_p h hm ha hg (by omega) s (by omega)
      obtain ⟨l1, l2, l3⟩ := k2 (by omega)
      obtain ⟨_, k5, k6⟩ := bk_p h hm ha hg (by omega) (s + 1) (by omega)
      have un : bk O q m g (s + 1) < n := h.2.2.1 _ (List.mem_of_getElem? l2)
      have em : q (bk O q m g s) % m < m := Nat.mod_lt _ hm
      have X353 : ∀ v, v < n → X 353 v = nI (A v) := fun v hv => by rw [hX 353 (by decide) (by decide)]; exact h353 v hv
      have X64 : ∀ i, i < m → X (64 + bk O q m g (s + 1)) i = nI (nx (bk O q m g (s + 1)) i) ∧ nx (bk O q m g (s + 1)) i < n := fun i hi => by
        rw [hX (64 + bk O q m g (s + 1)) (by omega) (by omega)]; exact hY.2.2.2.2 _ i un hi
      have cu : (nI (bk O q m g (s + 1))).toNatClampNeg = bk O q m g (s + 1) := nI_clamp (by omega)
      have ct : (nI t).toNatClampNeg = t := nI_clamp (by omega)
      have vu : vp_in (nI (bk O q m g (s + 1))) 256 := vp_in_nI (by omega) (by decide)
      have rcc := ih (t + 1) (pm_u (pm_u X 354 t (nI (bk O q m g (s + 1)))) 355 t (nI (q (bk O q m g s) % m))) (by omega) (by omega) (fun a g1 g2 => by rw [pm_u_n _ _ _ g2, pm_u_n _ _ _ g1]; exact hX a g1 g2) (fun j hj => by
        rw [pm_u_n _ _ _ (by decide)]
        by_cases cj : j = t
        · rw [cj, pm_u_s, es]
        · rw [pm_u_j _ _ _ cj]; exact h1 j (by omega)) (fun j hj => by
        by_cases cj : j = t
        · rw [cj, pm_u_s, show d g - t - 1 = s by omega]
        · rw [pm_u_j _ _ _ cj, pm_u_n _ _ _ (by decide)]; exact h2 j (by omega))
      rw [show d g - (t + 1) = s by omega] at rcc
      have srch : ∀ (e' f : Nat), f ≤ q (bk O q m g s) % m → q (bk O q m g s) % m - f < e' → pMo_trace_202 (pMo_trace_190 9 e) e' y1 y2 (nI (bk O q m g (s + 1))) (nI t) (nI f) X B E ∧ ∃ X', fMo_trace_202 (fMo_trace_190 9 e) e' y1 y2 (nI (bk O q m g (s + 1))) (nI t) (nI f) X B E = (nI (d g), X') ∧ (∀ a, a ≠ 354 → a ≠ 355 → X' a = Y a) ∧ wayI O q m g (d g) 354 X' := by
        intro e'
        induction e' with
        | zero => intro f _ h; omega
        | succ e' ih' =>
          intro f hf he'
          obtain ⟨x1, x2⟩ := X64 f (by omega)
          have vf : vp_in (nI f) 8 := vp_in_nI (by omega) (by decide)
          have vx : vp_in (nI (nx (bk O q m g (s + 1)) f)) 256 := vp_in_nI (by omega) (by decide)
          have cf : (nI f).toNatClampNeg = f := nI_clamp (by omega)
          have ep : nI (A (bk O q m g (s + 1))) - 1 = nI s := by rw [k6]; exact nI_pred s
          rw [pMo_trace_202.eq_2, fMo_trace_202.eq_2, cu, cf, ct, x1, nI_clamp (n := nx (bk O q m g (s + 1)) f) (by omega), X353 _ x2, X353 _ un, ep]
          have av := hA (nx (bk O q m g (s + 1)) f)
          by_cases cf2 : f = q (bk O q m g s) % m
          · have ee : nI (A (nx (bk O q m g (s + 1)) f)) = nI s := by rw [cf2, l3, k4]
            have e64 : pm_u (pm_u X 354 t (nI (bk O q m g (s + 1)))) 355 t (nI f) (64 + bk O q m g (s + 1)) f = nI (bk O q m g s) := by
              rw [pm_u_n _ _ _ (by omega), pm_u_n _ _ _ (by omega), x1, cf2, l3]
            rw [if_pos ee, e64, nI_i1, cf2]
            exact ⟨⟨vu, by rw [← cf2]; exact vf, vp_in_nI (by rw [← cf2]; omega) (by decide), vu, fun _ => ⟨vp_in_nI (by omega) (by decide), vp_in_nI (by omega) (by decide), vu, by rw [← cf2]; exact vf, rcc.1⟩, fun w => absurd (by rw [← cf2]; exact ee) w⟩, rcc.2⟩
          · have ne : ¬ nI (A (nx (bk O q m g (s + 1)) f)) = nI s := fun w => bk_f h hm ha hg (by omega) (show s < d g by omega) (show f < q (bk O q m g s) % m by omega) ((nI_eq (by omega) (by omega)).mp w)
            have z := ih' (f + 1) (by omega) (by omega)
            have ei : nI f + Int32.ofInt 1 = nI (f + 1) := nI_i1 f
            rw [if_neg ne, ei]
            exact ⟨⟨vu, vf, vx, vu, fun w => absurd w ne, fun _ => z.1⟩, z.2⟩
      have z := srch 9 0 (Nat.zero_le _) (by omega)
      have z1 : pMo_trace_202 (pMo_trace_190 9 e) 9 y1 y2 (nI (bk O q m g (s + 1))) (nI t) 0 X B E := z.1
      have z2 : ∃ X', fMo_trace_202 (fMo_trace_190 9 e) 9 y1 y2 (nI (bk O q m g (s + 1))) (nI t) 0 X B E = (nI (d g), X') ∧ (∀ a, a ≠ 354 → a ≠ 355 → X' a = Y a) ∧ wayI O q m g (d g) 354 X' := z.2
      exact ⟨⟨fun w => absurd w c', fun _ => z1⟩, z2⟩
theorem t_12 {V : Mm} {k : Nat} {N F : Nat} (hk : k < 30) (hA : mA n m nx V) (hr : rw_ n V (323 + k) T) (Q : Int32 × Mm → Prop) (nxt : ∀ A I, pT V T n m nx (1000 * n + 1) n 0 1 A I → pMo_trace_52 9 257 9 F N (nI k) 1 I B E ∧ Q (fMo_trace_52 9 257 9 F N (nI k) 1 I B E)) : ∀ (e y : Nat) (I : Mm), y ≤ n → n - y < e → tFr V I → (∀ s, s < y → I 353 s = nI (if T s = true then 0 else 1000)) → pMo_trace_12 9 257 9 F N e (nI k) (nI y) I B E ∧ Q (fMo_trace_12 9 257 9 F N e (nI k) (nI y) I B E) := by
  intro e
  induction e with
  | zero => intro y I _ h; omega
  | succ e ih =>
    intro y I hy he hf hs
    have hI := mA_T hA hf
    have n256 := hI.2.2.1
    rw [pMo_trace_12.eq_2, fMo_trace_12.eq_2, hI.1]
    unfold pMo_trace_43 fMo_trace_43
    by_cases c : n ≤ y
    · have c' : nI n ≤ nI y := nI_le c (by omega)
      have le : ∀ s, (fun s => if T s = true then 0 else 1000) s ≤ 1000 := fun s => by
        show (if T s = true then 0 else 1000) ≤ 1000
        split <;> omega
      have z := nxt (fun s => if T s = true then 0 else 1000) I ⟨hf, ⟨fun s hsn => hs s (by omega), le⟩, fun s _ => by
        show (if T s = true then 0 else 1000) = 0 ↔ _
        by_cases ht : T s = true
        · rw [if_pos ht]; exact ⟨fun _ => ht, fun _ => rfl⟩
        · rw [if_neg ht]; exact ⟨fun w => by omega, fun w => absurd w ht⟩, fun s _ w1 w2 => by
        have w1' : (if T s = true then 0 else 1000) ≠ 0 := w1
        have w2' : (if T s = true then 0 else 1000) < 1000 := w2
        by_cases ht : T s = true
        · rw [if_pos ht] at w1'; exact absurd rfl w1'
        · rw [if_neg ht] at w2'; omega, Or.inr ⟨rfl, by
        have := sumA_le le n
        omega⟩⟩
      rw [if_pos c']
      exact ⟨⟨trivial, fun _ => z.1, fun w => absurd c' w⟩, z.2⟩
    · have c' : ¬ nI n ≤ nI y := nI_ge (by omega) (by omega)
      have vk : vp_in (nI k) 30 := vp_in_nI hk (by decide)
      have vy : vp_in (nI y) 256 := vp_in_nI (by omega) (by decide)
      rw [if_neg c', nI_clamp (n := k) (by omega), nI_clamp (n := y) (by omega), hf (323 + k) (by omega), hr.2 y (by omega), nI_i1]
      cases ht : T y with
      | false =>
        have z := ih (y + 1) (pm_u I 353 y 1000) (by omega) (by omega) (fun a ha => (pm_u_n _ _ _ ha).trans (hf a ha)) (fun s hsy => by
          by_cases c1 : s = y
          · rw [c1, pm_u_s, ht]; rfl
          · rw [pm_u_j _ _ _ c1]; exact hs s (by omega))
        rw [if_pos (show b2 false = 0 from rfl)]
        exact ⟨⟨trivial, fun w => absurd w c', fun _ => ⟨vk, vy, fun _ => ⟨vy, z.1⟩, fun w => absurd rfl w⟩⟩, z.2⟩
      | true =>
        have z := ih (y + 1) (pm_u I 353 y 0) (by omega) (by omega) (fun a ha => (pm_u_n _ _ _ ha).trans (hf a ha)) (fun s hsy => by
          by_cases c1 : s = y
          · rw [c1, pm_u_s, ht]; rfl
          · rw [pm_u_j _ _ _ c1]; exact hs s (by omega))
        rw [if_neg (show ¬ b2 true = 0 by decide)]
        exact ⟨⟨trivial, fun w => absurd w c', fun _ => ⟨vk, vy, fun w => absurd w (show ¬ b2 true = 0 by decide), fun _ => ⟨vy, z.1⟩⟩⟩, z.2⟩
end
