/-! CLASS'S UNTIL -/
theorem nd_le : ∀ (n : Nat) (l : List Nat), l.Nodup → (∀ x ∈ l, x < n) → l.length ≤ n
  | 0, l, _, h => by
    cases l with
    | nil => exact Nat.le_refl _
    | cons x l => exact absurd (h x List.mem_cons_self) (Nat.not_lt_zero _)
  | n + 1, l, hd, h => by
    by_cases c : n ∈ l
    · have e := List.length_erase_of_mem c
      have := nd_le n (l.erase n) (hd.erase n) (fun x hx => by
        have h1 := h x (List.mem_of_mem_erase hx)
        have h2 : x ≠ n := fun q => by
          rw [q] at hx
          exact (List.Nodup.not_mem_erase hd) hx
        omega)
      omega
    · have := nd_le n l hd (fun x hx => by
        have h1 := h x hx
        have h2 : x ≠ n := fun q => c (by rw [← q]; exact hx)
        omega)
      omega
theorem cI_le {nx : Nat → Nat → Nat} {A : Nat → Bool} {r : Nat} : ∀ m, cI nx A r m ≤ m
  | 0 => Nat.le_refl _
  | m + 1 => by
    have := cI_le (nx := nx) (A := A) (r := r) m
    rw [cI]
    by_cases c : A (nx r m) = true
    · rw [if_pos c]; omega
    · rw [if_neg c]; omega
theorem cI_add {nx : Nat → Nat → Nat} {A B C : Nat → Bool} {r : Nat} (h : ∀ t, C t = true ↔ (A t = true ∨ B t = true)) (hd : ∀ t, A t = true → B t = true → False) : ∀ m, cI nx C r m = cI nx A r m + cI nx B r m
  | 0 => rfl
  | m + 1 => by
    rw [cI, cI, cI, cI_add h hd m]
    by_cases a : A (nx r m) = true
    · have b : ¬ B (nx r m) = true := fun q => hd _ a q
      rw [if_pos a, if_neg b, if_pos ((h _).mpr (Or.inl a))]; omega
    · by_cases b : B (nx r m) = true
      · rw [if_neg a, if_pos b, if_pos ((h _).mpr (Or.inr b))]; omega
      · rw [if_neg a, if_neg b, if_neg (fun q => by rcases (h _).mp q with q | q <;> contradiction)]; omega
theorem cI_all {nx : Nat → Nat → Nat} {A : Nat → Bool} {r : Nat} : ∀ m, m ≤ cI nx A r m → ∀ i, i < m → A (nx r i) = true
  | 0, _, i, hi => absurd hi (Nat.not_lt_zero _)
  | m + 1, h, i, hi => by
    have l := cI_le (nx := nx) (A := A) (r := r) m
    rw [cI] at h
    by_cases c : A (nx r m) = true
    · rw [if_pos c] at h
      by_cases e : i = m
      · rw [e]; exact c
      · exact cI_all m (by omega) i (by omega)
    · rw [if_neg c] at h; omega
theorem cI_allr {nx : Nat → Nat → Nat} {A : Nat → Bool} {r : Nat} : ∀ m, (∀ i, i < m → A (nx r i) = true) → m ≤ cI nx A r m
  | 0, _ => Nat.zero_le _
  | m + 1, h => by
    have := cI_allr m (fun i hi => h i (by omega))
    rw [cI, if_pos (h m (by omega))]; omega
theorem cI_ex {nx : Nat → Nat → Nat} {A : Nat → Bool} {r : Nat} : ∀ m, 1 ≤ cI nx A r m ↔ ∃ i, i < m ∧ A (nx r i) = true
  | 0 => ⟨fun h => absurd h (by rw [cI]; omega), fun ⟨i, hi, _⟩ => absurd hi (Nat.not_lt_zero _)⟩
  | m + 1 => by
    rw [cI]
    by_cases c : A (nx r m) = true
    · rw [if_pos c]
      exact ⟨fun _ => ⟨m, by omega, c⟩, fun _ => by omega⟩
    · rw [if_neg c, Nat.add_zero, cI_ex m]
      exact ⟨fun ⟨i, h1, h2⟩ => ⟨i, by omega, h2⟩, fun ⟨i, h1, h2⟩ => ⟨i, by
        have : i ≠ m := fun q => c (by rw [← q]; exact h2)
        omega, h2⟩⟩
theorem sub0 {a b : Nat} (ha : a < 2 ^ 30) (hb : b < 2 ^ 30) : nI a - nI b = 0 ↔ a = b := by
  rw [← Int32.toInt_inj, pk_sub_toInt ha hb]
  have : (0 : Int32).toInt = 0 := by decide
  rw [this]
  omega
def Tn (nx : Nat → Nat → Nat) (m : Nat) : Nat → Nat := fun c => nx (c / m) (c % m)
theorem Tn_s {nx : Nat → Nat → Nat} {m : Nat} {a i : Nat} (hi : i < m) : Tn nx m (a * m + i) = nx a i := by
  unfold Tn
  rw [Nat.mul_comm, Nat.mul_add_div (by omega), Nat.div_eq_of_lt hi, Nat.add_zero, Nat.mul_add_mod, Nat.mod_eq_of_lt hi]
def cIn (n m : Nat) (nx : Nat → Nat → Nat) (I : Mm) : Prop := (∀ s, s ≤ n → I 28 s = nI (cum (Tn nx m) m (n * m) s)) ∧ ∀ s, s < n → ∀ j x, (PL (Tn nx m) m (n * m) s)[j]? = some x → I 27 (cum (Tn nx m) m (n * m) s + j) = nI x
/-- missing and the queue -/
def bas (m need : Nat) (way goal : Se) (s : Nat) : Nat := if goal s = true then 0 else if way s = true then need else m + 1
def uV (n m need : Nat) (way goal : Se) (d : Nat → Nat) (Q : List Nat) (I : Mm) : Prop := (∀ s, s < n → I 36 s = nI (bas m need way goal s) - nI (d s)) ∧ I 33 4 = nI Q.length ∧ (∀ j x, Q[j]? = some x → I 35 j = nI x) ∧ Q.Nodup ∧ (∀ x ∈ Q, x < n) ∧ ∀ s, s < n → (s ∈ Q ↔ (goal s = true ∨ (way s = true ∧ need ≤ d s)))
def uI (I I' : Mm) : Prop := (∀ a, a ≠ 33 → a ≠ 35 → a ≠ 36 → I' a = I a) ∧ ∀ j, j ≠ 4 → I' 33 j = I 33 j
theorem uI_t {I I' I'' : Mm} (h : uI I I') (h' : uI I' I'') : uI I I'' := ⟨fun a h1 h2 h3 => (h'.1 a h1 h2 h3).trans (h.1 a h1 h2 h3), fun j hj => (h'.2 j hj).trans (h.2 j hj)⟩
section
variable {n m need : Nat} {way goal : Se}
theorem cm_enq {Q : List Nat} {I : Mm} (hn : n ≤ 256) (h4 : I 33 4 = nI Q.length) (hQ : ∀ j x, Q[j]? = some x → I 35 j = nI x) (hd : Q.Nodup) (hl : ∀ x ∈ Q, x < n) {x : Nat} (hx : x < n) (hxQ : x ∉ Q) (J : Ml) : pCm_enqueue (nI x) I J ∧ uI I (fCm_enqueue (nI x) I J) ∧ fCm_enqueue (nI x) I J 36 = I 36 ∧ fCm_enqueue (nI x) I J 33 4 = nI (Q ++ [x]).length ∧ (∀ j y, (Q ++ [x])[j]? = some y → fCm_enqueue (nI x) I J 35 j = nI y) ∧ (Q ++ [x]).Nodup ∧ ∀ y ∈ Q ++ [x], y < n := by
  have nd : (Q ++ [x]).Nodup := by
    rw [List.nodup_append]
    exact ⟨hd, List.nodup_cons.mpr ⟨List.not_mem_nil, List.nodup_nil⟩, fun a ha b hb => by rw [List.mem_singleton.mp hb]; exact fun q => hxQ (by rw [← q]; exact ha)⟩
  have al : ∀ y ∈ Q ++ [x], y < n := fun y hy => by
    rcases List.mem_append.mp hy with q | q
    · exact hl y q
    · rw [List.mem_singleton.mp q]; exact hx
  have ll := nd_le n (Q ++ [x]) nd al
  rw [List.length_append] at ll
  simp only [List.length_cons, List.length_nil] at ll
  have c : ¬ (256 : Int32) ≤ I 33 4 := by rw [h4]; exact nI_ge (b := 256) (by omega) (by decide)
  unfold pCm_enqueue fCm_enqueue
  rw [if_neg c, h4, nI_clamp (by omega), nI_1]
  rw [h4] at c
  refine ⟨⟨fun q => absurd q c, fun _ => ⟨vp_in_nI (by omega) (by decide), trivial⟩⟩, ⟨fun a h1 h2 _ => by rw [pm_u_n _ _ _ h1, pm_u_n _ _ _ h2], fun j hj => by rw [pm_u_j _ _ _ hj, pm_u_n _ _ _ (by decide)]⟩, by rw [pm_u_n _ _ _ (by decide), pm_u_n _ _ _ (by decide)], by rw [pm_u_s, List.length_append]; rfl, fun j y hy => ?_, nd, al⟩
  rw [pm_u_n _ _ _ (by decide)]
  rw [List.getElem?_append] at hy
  by_cases cj : j < Q.length
  · rw [if_pos cj] at hy
    rw [pm_u_j _ _ _ (by omega)]; exact hQ j y hy
  · rw [if_neg cj] at hy
    rcases Nat.eq_zero_or_pos (j - Q.length) with h0 | h0
    · rw [h0] at hy
      simp only [List.getElem?_cons_zero, Option.some.injEq] at hy
      rw [show j = Q.length by omega, pm_u_s, hy]
    · rw [List.getElem?_eq_none (by simp only [List.length_cons, List.length_nil]; omega)] at hy; cases hy
set_option maxHeartbeats 2000000 in
theorem lb_l (hn : n ≤ 256) (hm : m ≤ 8) (hneed : 1 ≤ need ∧ need ≤ m) {to : Nat} (hto : to < n) (J : Ml) : ∀ (l : List Nat) (p k : Nat) (I : Mm) (d : Nat → Nat) (Q : List Nat), (∀ j x, l[j]? = some x → I 27 (p + j) = nI x) → I 28 (to + 1) = nI (p + l.length) → p + l.length ≤ 2048 → l.length < k → (∀ x ∈ l, x < n) → (∀ s, s < n → d s + l.count s ≤ m) → uV n m need way goal d Q I → pCm_leadBack_10 k (nI to) (nI p) I J ∧ ∃ Q', uV n m need way goal (fun s => d s + l.count s) (Q ++ Q') (fCm_leadBack_10 k (nI to) (nI p) I J) ∧ uI I (fCm_leadBack_10 k (nI to) (nI p) I J)
  | [], p, k, I, d, Q, h27, h28, hp, hk, hl, hdm, hU => by
    obtain ⟨k, rfl⟩ : ∃ q, k = q + 1 := ⟨k - 1, by simp only [List.length_nil] at hk; omega⟩
    rw [pCm_leadBack_10.eq_2, fCm_leadBack_10.eq_2]
    have e1 : nI to + 1 = nI (to + 1) := nI_1 _
    rw [e1, nI_clamp (by omega), h28]
    have c : nI (p + ([] : List Nat).length) ≤ nI p := nI_le (Nat.le_refl _) (by simp only [List.length_nil] at hp; omega)
    rw [if_pos c]
    refine ⟨⟨vp_in_nI (by omega) (by decide), fun _ => trivial, fun q => absurd c q⟩, [], ?_, fun _ _ _ _ => rfl, fun _ _ => rfl⟩
    rw [List.append_nil]
    have : (fun s => d s + ([] : List Nat).count s) = d := funext fun s => by rw [List.count_nil]; rfl
    rw [this]
    exact hU
  | x :: l, p, k, I, d, Q, h27, h28, hp, hk, hl, hdm, hU => by
    rw [List.length_cons] at h28 hp hk
    obtain ⟨k, rfl⟩ : ∃ q, k = q + 1 := ⟨k - 1, by omega⟩
    have hx : x < n := hl x List.mem_cons_self
    have e1 : nI to + 1 = nI (to + 1) := nI_1 _
    have c : ¬ nI (p + (l.length + 1)) ≤ nI p := nI_ge (by omega) (by omega)
    have h27x : I 27 p = nI x := h27 0 x rfl
    obtain ⟨u1, u2, u3, u4, u5, u6⟩ := hU
    have dx := hdm x hx
    rw [List.count_cons_self] at dx
    have bb : bas m need way goal x ≤ m + 1 := by
      unfold bas
      by_cases g : goal x = true
      · rw [if_pos g]; omega
      · rw [if_neg g]
        by_cases w : way x = true
        · rw [if_pos w]; omega
        · rw [if_neg w]; omega
    have e36 : I 36 x - 1 = nI (bas m need way goal x) - nI (d x + 1) := by
      rw [u1 x hx, ← nI_1, Int32.sub_sub]
    rw [pCm_leadBack_10.eq_2, fCm_leadBack_10.eq_2, e1, nI_clamp (n := to + 1) (by omega), h28, if_neg c, nI_clamp (n := p) (by omega), h27x, nI_clamp (n := x) (by omega), e36, pm_u_s]
    unfold pCm_leadBack_59 fCm_leadBack_59
    rw [nI_i1]
    generalize eI : pm_u I 36 x (nI (bas m need way goal x) - nI (d x + 1)) = I1
    have ga : ∀ a, a ≠ 36 → I1 a = I a := fun a ha => by rw [← eI, pm_u_n _ _ _ ha]
    have g36 : ∀ s, s < n → I1 36 s = nI (bas m need way goal s) - nI (if s = x then d x + 1 else d s) := fun s hs => by
      rw [← eI]
      by_cases e : s = x
      · rw [e, pm_u_s, if_pos rfl]
      · rw [pm_u_j _ _ _ e, if_neg e]; exact u1 s hs
    have hdm' : ∀ s, s < n → (if s = x then d x + 1 else d s) + l.count s ≤ m := fun s hs => by
      have := hdm s hs
      by_cases e : s = x
      · rw [if_pos e, e]; rw [e, List.count_cons_self] at this; omega
      · rw [if_neg e]
        rw [List.count_cons_of_ne (fun q => e q.symm)] at this
        exact this
    have ed : (fun s => (if s = x then d x + 1 else d s) + l.count s) = (fun s => d s + (x :: l).count s) := funext fun s => by
      by_cases e : s = x
      · rw [if_pos e, e, List.count_cons_self]; omega
      · rw [if_neg e, List.count_cons_of_ne (fun q => e q.symm)]
    have v257 : vp_in (nI (to + 1)) 257 := vp_in_nI (by omega) (by decide)
    have vp : vp_in (nI p) 2048 := vp_in_nI (by omega) (by decide)
    have vx : vp_in (nI x) 256 := vp_in_nI (by omega) (by decide)
    have b30 : bas m need way goal x < 2 ^ 30 := by omega
    by_cases z0 : bas m need way goal x = d x + 1
    · have zc : nI (bas m need way goal x) - nI (d x + 1) = 0 := (sub0 b30 (by omega)).mpr z0
      have ng : ¬ goal x = true := fun q => by unfold bas at z0; rw [if_pos q] at z0; omega
      have wx : way x = true := by
        cases hw : way x with
        | true => rfl
        | false =>
          unfold bas at z0
          rw [if_neg ng, if_neg (by rw [hw]; decide)] at z0
          omega
      have bn : bas m need way goal x = need := by unfold bas; rw [if_neg ng, if_pos wx]
      have nQ : x ∉ Q := fun q => by
        rcases (u6 x hx).mp q with q | q
        · exact ng q
        · have := q.2; omega
      have en := cm_enq hn (I := I1) (Q := Q) (by rw [ga 33 (by decide)]; exact u2) (fun j y hy => by rw [ga 35 (by decide)]; exact u3 j y hy) u4 u5 hx nQ J
      rw [if_pos zc]
      obtain ⟨y1, Q', y2, y3⟩ := lb_l hn hm hneed hto J l (p + 1) k (fCm_enqueue (nI x) I1 J) (fun s => if s = x then d x + 1 else d s) (Q ++ [x]) (fun j y hy => by
        rw [en.2.1.1 27 (by decide) (by decide) (by decide), ga 27 (by decide)]
        have := h27 (j + 1) y hy
        rw [show p + (j + 1) = p + 1 + j by omega] at this
        exact this) (by rw [en.2.1.1 28 (by decide) (by decide) (by decide), ga 28 (by decide), h28]; congr 1; omega) (by omega) (by omega) (fun y hy => hl y (List.mem_cons_of_mem _ hy)) hdm' ⟨fun s hs => by rw [en.2.2.1]; exact g36 s hs, en.2.2.2.1, en.2.2.2.2.1, en.2.2.2.2.2.1, en.2.2.2.2.2.2, fun s hs => by
          dsimp only
          by_cases e : s = x
          · rw [e, if_pos rfl]
            exact ⟨fun _ => Or.inr ⟨wx, by omega⟩, fun _ => List.mem_append_right _ (List.mem_singleton.mpr rfl)⟩
          · rw [if_neg e, ← u6 s hs]
            exact ⟨fun q => by
              rcases List.mem_append.mp q with q | q
              · exact q
              · exact absurd (List.mem_singleton.mp q) e, fun q => List.mem_append_left _ q⟩⟩
      rw [ed, List.append_assoc] at y2
      exact ⟨⟨v257, fun q => absurd q c, fun _ => ⟨vp, vx, vx, vx, fun _ => ⟨en.1, y1⟩, fun q => absurd zc q⟩⟩, [x] ++ Q', y2, uI_t (uI_t ⟨fun a h1 h2 h3 => ga a h3, fun j _ => by rw [ga 33 (by decide)]⟩ en.2.1) y3⟩
    · have zc : ¬ nI (bas m need way goal x) - nI (d x + 1) = 0 := fun q => z0 ((sub0 b30 (by omega)).mp q)
      rw [if_neg zc]
      obtain ⟨y1, Q', y2, y3⟩ := lb_l hn hm hneed hto J l (p + 1) k I1 (fun s => if s = x then d x + 1 else d s) Q (fun j y hy => by
        rw [ga 27 (by decide)]
        have := h27 (j + 1) y hy
        rw [show p + (j + 1) = p + 1 + j by omega] at this
        exact this) (by rw [ga 28 (by decide), h28]; congr 1; omega) (by omega) (by omega) (fun y hy => hl y (List.mem_cons_of_mem _ hy)) hdm' ⟨g36, by rw [ga 33 (by decide)]; exact u2, fun j y hy => by rw [ga 35 (by decide)]; exact u3 j y hy, u4, u5, fun s hs => by
          rw [u6 s hs]
          dsimp only
          by_cases e : s = x
          · rw [e, if_pos rfl]
            constructor
            · rintro (q | q)
              · exact Or.inl q
              · exact Or.inr ⟨q.1, by have := q.2; omega⟩
            · rintro (q | q)
              · exact Or.inl q
              · by_cases g : goal x = true
                · exact Or.inl g
                · refine Or.inr ⟨q.1, ?_⟩
                  have bn : bas m need way goal x = need := by unfold bas; rw [if_neg g, if_pos q.1]
                  have := q.2
                  omega
          · rw [if_neg e]⟩
      rw [ed] at y2
      exact ⟨⟨v257, fun q => absurd q c, fun _ => ⟨vp, vx, vx, vx, fun q => absurd q zc, fun _ => y1⟩⟩, Q', y2, uI_t ⟨fun a h1 h2 h3 => ga a h3, fun j _ => by rw [ga 33 (by decide)]⟩ y3⟩
end
