/-! CLASS'S STEPS BACKWARDS -/
def PL (T : Nat → Nat) (m : Nat) : Nat → Nat → List Nat
  | 0, _ => []
  | c + 1, s => if T c = s then (c / m) :: PL T m c s else PL T m c s
def cum (T : Nat → Nat) (m N : Nat) : Nat → Nat
  | 0 => 0
  | s + 1 => cum T m N s + (PL T m N s).length
theorem PL_le {T : Nat → Nat} {m s : Nat} : ∀ c d, c ≤ d → (PL T m c s).length ≤ (PL T m d s).length
  | c, 0, h => by rw [show c = 0 by omega]; exact Nat.le_refl _
  | c, d + 1, h => by
    by_cases e : c = d + 1
    · rw [e]; exact Nat.le_refl _
    · have := PL_le (T := T) (m := m) (s := s) c d (by omega)
      rw [PL]
      by_cases q : T d = s
      · rw [if_pos q, List.length_cons]; omega
      · rw [if_neg q]; exact this
def tot (T : Nat → Nat) (m c : Nat) : Nat → Nat
  | 0 => 0
  | s + 1 => tot T m c s + (PL T m c s).length
theorem tot_s {T : Nat → Nat} {m c : Nat} : ∀ n, tot T m (c + 1) n = tot T m c n + (if T c < n then 1 else 0)
  | 0 => by rw [tot, tot, if_neg (by omega)]
  | n + 1 => by
    rw [tot, tot, tot_s n, PL]
    by_cases e : T c = n
    · rw [if_pos e, List.length_cons, if_neg (by omega), if_pos (by omega)]; omega
    · rw [if_neg e]
      by_cases d : T c < n
      · rw [if_pos d, if_pos (by omega)]; omega
      · rw [if_neg d, if_neg (by omega)]; omega
theorem tot_0 {T : Nat → Nat} {m : Nat} : ∀ n, tot T m 0 n = 0
  | 0 => rfl
  | n + 1 => by rw [tot, tot_0 n]; rfl
theorem tot_n {T : Nat → Nat} {m n : Nat} : ∀ c, (∀ d, d < c → T d < n) → tot T m c n = c
  | 0, _ => tot_0 n
  | c + 1, h => by rw [tot_s, tot_n c (fun d hd => h d (by omega)), if_pos (h c (by omega))]
theorem cum_tot (T : Nat → Nat) (m N : Nat) : ∀ s, cum T m N s = tot T m N s
  | 0 => rfl
  | s + 1 => by rw [cum, tot, cum_tot T m N s]
theorem cum_mo {T : Nat → Nat} {m N : Nat} : ∀ a b, a ≤ b → cum T m N a ≤ cum T m N b
  | a, 0, h => by rw [show a = 0 by omega]; exact Nat.le_refl _
  | a, b + 1, h => by
    by_cases e : a = b + 1
    · rw [e]; exact Nat.le_refl _
    · have := cum_mo (T := T) (m := m) (N := N) a b (by omega)
      rw [cum]; omega
theorem cum_n {T : Nat → Nat} {m N n : Nat} (h : ∀ d, d < N → T d < n) : cum T m N n = N := by rw [cum_tot, tot_n N h]
theorem PL_n {T : Nat → Nat} {m n : Nat} : ∀ c, (∀ d, d < c → T d < n) → PL T m c n = []
  | 0, _ => rfl
  | c + 1, h => by rw [PL, if_neg (by have := h c (by omega); omega), PL_n c (fun d hd => h d (by omega))]
theorem PL_lt {T : Nat → Nat} {m n s : Nat} : ∀ c, c ≤ n * m → ∀ x ∈ PL T m c s, x < n
  | 0, _, x, hx => by cases hx
  | c + 1, h, x, hx => by
    rw [PL] at hx
    by_cases e : T c = s
    · rw [if_pos e] at hx
      rcases List.mem_cons.mp hx with rfl | hx
      · exact Nat.div_lt_of_lt_mul (by rw [Nat.mul_comm]; omega)
      · exact PL_lt c (by omega) x hx
    · rw [if_neg e] at hx; exact PL_lt c (by omega) x hx
/-- how many of the first i inputs lead from r into A -/
def cI (nx : Nat → Nat → Nat) (A : Nat → Bool) (r : Nat) : Nat → Nat
  | 0 => 0
  | i + 1 => cI nx A r i + (if A (nx r i) = true then 1 else 0)
theorem PL_c {T : Nat → Nat} {m s r : Nat} {nx : Nat → Nat → Nat} (hm : 0 < m) (hT : ∀ a i, i < m → T (a * m + i) = nx a i) : ∀ a i, i ≤ m → (PL T m (a * m + i) s).count r = if r < a then cI nx (fun t => decide (t = s)) r m else if r = a then cI nx (fun t => decide (t = s)) r i else 0 := by
  intro a
  induction a with
  | zero =>
    intro i
    induction i with
    | zero =>
      intro _
      rw [if_neg (by omega)]
      show List.count r (PL T m (0 * m + 0) s) = _
      rw [Nat.zero_mul, PL, List.count_nil]
      by_cases c : r = 0
      · rw [if_pos c, cI]
      · rw [if_neg c]
    | succ i ih =>
      intro hi
      have z := ih (by omega)
      rw [if_neg (by omega)] at z ⊢
      rw [show 0 * m + (i + 1) = 0 * m + i + 1 by omega, PL, hT 0 i (by omega)]
      have d0 : (0 * m + i) / m = 0 := Nat.div_eq_of_lt (by omega)
      rw [d0]
      by_cases q : nx 0 i = s
      · rw [if_pos q, List.count_cons, z]
        by_cases c : r = 0
        · rw [if_pos c, if_pos c, cI, c, q]; simp
        · rw [if_neg c, if_neg c]
          have : ¬ (0 : Nat) = r := fun h => c h.symm
          simp [this]
      · rw [if_neg q, z]
        by_cases c : r = 0
        · rw [if_pos c, if_pos c, cI, c]; simp [q]
        · rw [if_neg c, if_neg c]
  | succ a iha =>
    intro i
    induction i with
    | zero =>
      intro _
      rw [show (a + 1) * m + 0 = a * m + m by rw [Nat.succ_mul]; omega, iha m (Nat.le_refl _)]
      by_cases c : r < a
      · rw [if_pos c, if_pos (by omega)]
      · rw [if_neg c]
        by_cases d : r = a
        · rw [if_pos d, if_pos (by omega)]
        · rw [if_neg d, if_neg (by omega)]
          by_cases g : r = a + 1
          · rw [if_pos g, cI]
          · rw [if_neg g]
    | succ i ih =>
      intro hi
      have z := ih (by omega)
      rw [show (a + 1) * m + (i + 1) = (a + 1) * m + i + 1 by omega, PL, hT (a + 1) i (by omega)]
      have d0 : ((a + 1) * m + i) / m = a + 1 := by
        rw [Nat.mul_comm, Nat.mul_add_div hm, Nat.div_eq_of_lt (by omega), Nat.add_zero]
      rw [d0]
      by_cases q : nx (a + 1) i = s
      · rw [if_pos q, List.count_cons, z]
        by_cases c : r < a + 1
        · rw [if_pos c, if_pos c]
          have : ¬ a + 1 = r := by omega
          simp [this]
        · rw [if_neg c, if_neg c]
          by_cases d : r = a + 1
          · rw [if_pos d, if_pos d, cI, d, q]; simp
          · rw [if_neg d, if_neg d]
            have : ¬ a + 1 = r := fun h => d h.symm
            simp [this]
      · rw [if_neg q, z]
        by_cases c : r < a + 1
        · rw [if_pos c, if_pos c]
        · rw [if_neg c, if_neg c]
          by_cases d : r = a + 1
          · rw [if_pos d, if_pos d, cI, d]; simp [q]
          · rw [if_neg d, if_neg d]
section
variable {T : Nat → Nat} {m n N : Nat} {J : Ml}
/-- the loops of turnBack -/
theorem tb_10 (hN : N ≤ 2048) (hn : n ≤ 256) (hT : ∀ c, c < N → T c < n) (k74 k41 : Nat) (Q : Mm → Prop) : ∀ (k c : Nat) (I : Mm), I 25 3 = nI N → (∀ d, d < N → I 26 d = nI (T d)) → c ≤ N → N - c < k → (∀ s, s ≤ n → I 28 s = nI (PL T m c s).length) → (∀ I' : Mm, (∀ a, a ≠ 28 → I' a = I a) → (∀ s, s ≤ n → I' 28 s = nI (PL T m N s).length) → pSt_turnBack_41 k74 k41 1 I' J ∧ Q (fSt_turnBack_41 k74 k41 1 I' J)) → pSt_turnBack_10 k74 k41 k (nI c) I J ∧ Q (fSt_turnBack_10 k74 k41 k (nI c) I J) := by
  intro k
  induction k with
  | zero => intro c I _ _ _ h; omega
  | succ k ih =>
    intro c I h3 h26 hc hk h28 nxt
    rw [pSt_turnBack_10.eq_2, fSt_turnBack_10.eq_2]
    by_cases q : N ≤ c
    · have c' : I 25 3 ≤ nI c := by rw [h3]; exact nI_le q (by omega)
      have z := nxt I (fun _ _ => rfl) (fun s hs => by rw [h28 s hs, show c = N by omega])
      rw [if_pos c']
      exact ⟨⟨fun _ => z.1, fun w => absurd c' w⟩, z.2⟩
    · have c' : ¬ I 25 3 ≤ nI c := by rw [h3]; exact nI_ge (by omega) (by omega)
      have t := hT c (by omega)
      have pl := PL_le (T := T) (m := m) (s := T c) c N (by omega)
      rw [if_neg c', nI_clamp (n := c) (by omega), h26 c (by omega), nI_clamp (n := T c) (by omega), h28 (T c) (by omega), nI_1, nI_i1]
      have z := ih (c + 1) (pm_u I 28 (T c) (nI ((PL T m c (T c)).length + 1))) (by rw [pm_u_n _ _ _ (by decide)]; exact h3) (fun d hd => by rw [pm_u_n _ _ _ (by decide)]; exact h26 d hd) (by omega) (by omega) (fun s hs => by
        rw [PL]
        by_cases e : T c = s
        · rw [if_pos e, ← e, pm_u_s, List.length_cons]
        · rw [if_neg e, pm_u_j _ _ _ (fun w => e w.symm)]; exact h28 s hs) (fun I' g1 g2 => nxt I' (fun a ha => by rw [g1 a ha, pm_u_n _ _ _ ha]) g2)
      exact ⟨⟨fun w => absurd w c', fun _ => ⟨vp_in_nI (by omega) (by decide), vp_in_nI (by omega) (by decide), vp_in_nI (by omega) (by decide), z.1⟩⟩, z.2⟩
theorem tb_41 (hn : n ≤ 256) (k74 : Nat) (Q : Mm → Prop) : ∀ (k s : Nat) (I : Mm), I 25 1 = nI n → 1 ≤ s → s ≤ n + 1 → n + 1 - s < k → (∀ r, r < s → I 28 r = nI (cum T m N (r + 1))) → (∀ r, s ≤ r → r ≤ n → I 28 r = nI (PL T m N r).length) → (∀ I' : Mm, (∀ a, a ≠ 28 → I' a = I a) → (∀ r, r ≤ n → I' 28 r = nI (cum T m N (r + 1))) → pSt_turnBack_74 k74 0 I' J ∧ Q (fSt_turnBack_74 k74 0 I' J)) → pSt_turnBack_41 k74 k (nI s) I J ∧ Q (fSt_turnBack_41 k74 k (nI s) I J) := by
  intro k
  induction k with
  | zero => intro s I _ _ _ h; omega
  | succ k ih =>
    intro s I h1 hs1 hs hk hlo hhi nxt
    rw [pSt_turnBack_41.eq_2, fSt_turnBack_41.eq_2]
    by_cases q : n < s
    · have c' : I 25 1 < nI s := by rw [h1]; exact nI_lt q (by omega)
      have z := nxt I (fun _ _ => rfl) (fun r hr => hlo r (by omega))
      rw [if_pos c']
      exact ⟨⟨fun _ => z.1, fun w => absurd c' w⟩, z.2⟩
    · have c' : ¬ I 25 1 < nI s := by rw [h1]; exact nI_nlt (by omega) (by omega)
      obtain ⟨s, rfl⟩ : ∃ t, s = t + 1 := ⟨s - 1, by omega⟩
      have e1 : nI (s + 1) - 1 = nI s := nI_pred s
      rw [if_neg c', e1, nI_clamp (n := s + 1) (by omega), nI_clamp (n := s) (by omega), hhi (s + 1) (Nat.le_refl _) (by omega), hlo s (by omega), nI_add, nI_i1, Nat.add_comm (PL T m N (s + 1)).length]
      have z := ih (s + 1 + 1) (pm_u I 28 (s + 1) (nI (cum T m N (s + 1) + (PL T m N (s + 1)).length))) (by rw [pm_u_n _ _ _ (by decide)]; exact h1) (by omega) (by omega) (by omega) (fun r hr => by
        by_cases e : r = s + 1
        · rw [e, pm_u_s]; rfl
        · rw [pm_u_j _ _ _ e]; exact hlo r (by omega)) (fun r h1 h2 => by rw [pm_u_j _ _ _ (by omega)]; exact hhi r (by omega) h2) (fun I' g1 g2 => nxt I' (fun a ha => by rw [g1 a ha, pm_u_n _ _ _ ha]) g2)
      exact ⟨⟨fun w => absurd w c', fun _ => ⟨vp_in_nI (by omega) (by decide), vp_in_nI (by omega) (by decide), vp_in_nI (by omega) (by decide), z.1⟩⟩, z.2⟩
theorem tb_74 {ib : Nat} (hib : ib ≤ 3) (hm : m = 2 ^ ib) (hN : N ≤ 2048) (hn : n ≤ 256) (hT : ∀ c, c < N → T c < n) : ∀ (k c : Nat) (I : Mm), I 25 3 = nI N → I 3 8 = nI ib → (∀ d, d < N → I 26 d = nI (T d)) → c ≤ N → N - c < k → (∀ s, s < n → I 28 s = nI (cum T m N (s + 1) - (PL T m c s).length)) → (∀ s, s < n → ∀ j x, (PL T m c s)[j]? = some x → I 27 (cum T m N (s + 1) - (PL T m c s).length + j) = nI x) → pSt_turnBack_74 k (nI c) I J ∧ ∃ I', fSt_turnBack_74 k (nI c) I J = I' ∧ (∀ a, a ≠ 27 → a ≠ 28 → I' a = I a) ∧ (∀ s, s < n → I' 28 s = nI (cum T m N s)) ∧ I' 28 n = I 28 n ∧ ∀ s, s < n → ∀ j x, (PL T m N s)[j]? = some x → I' 27 (cum T m N s + j) = nI x := by
  intro k
  induction k with
  | zero => intro c I _ _ _ _ h; omega
  | succ k ih =>
    intro c I h3 h8 h26 hc hk h28 h27
    rw [pSt_turnBack_74.eq_2, fSt_turnBack_74.eq_2]
    by_cases q : N ≤ c
    · have c' : I 25 3 ≤ nI c := by rw [h3]; exact nI_le q (by omega)
      have e : c = N := by omega
      subst e
      rw [if_pos c']
      have ec : ∀ s, cum T m c (s + 1) - (PL T m c s).length = cum T m c s := fun s => by rw [cum]; omega
      exact ⟨⟨fun _ => trivial, fun w => absurd c' w⟩, I, rfl, fun _ _ _ => rfl, fun s hs => by rw [h28 s hs, ec], rfl, fun s hs j x hx => by rw [← ec]; exact h27 s hs j x hx⟩
    · have c' : ¬ I 25 3 ≤ nI c := by rw [h3]; exact nI_ge (by omega) (by omega)
      have t := hT c (by omega)
      have pl := PL_le (T := T) (m := m) (s := T c) (c + 1) N (by omega)
      have pe : PL T m (c + 1) (T c) = (c / m) :: PL T m c (T c) := by rw [PL, if_pos rfl]
      rw [pe, List.length_cons] at pl
      have cs : cum T m N (T c + 1) = cum T m N (T c) + (PL T m N (T c)).length := rfl
      have cn := cum_mo (T := T) (m := m) (N := N) (T c + 1) n (by omega)
      rw [cum_n hT] at cn
      have e1 : nI (cum T m N (T c + 1) - (PL T m c (T c)).length) - 1 = nI (cum T m N (T c + 1) - (PL T m c (T c)).length - 1) := pk_sub (b := 1) (by omega)
      have es : nI c >>> (nI ib &&& 31) = nI (c / m) := by rw [hm]; exact pk_shrN (by omega) _ ib (smk ib (by omega))
      generalize hp : cum T m N (T c + 1) - (PL T m c (T c)).length - 1 = P at e1
      have Pb : cum T m N (T c) ≤ P ∧ P < cum T m N (T c + 1) := by omega
      rw [if_neg c', nI_clamp (n := c) (by omega), h26 c (by omega), nI_clamp (n := T c) (by omega), h28 (T c) t, e1]
      have u26 : pm_u I 28 (T c) (nI P) 26 c = nI (T c) := by rw [pm_u_n _ _ _ (by decide)]; exact h26 c (by omega)
      rw [u26, nI_clamp (n := T c) (by omega), pm_u_s, nI_clamp (n := P) (by omega), h8, es, nI_i1]
      have ga : ∀ a, a ≠ 27 → a ≠ 28 → pm_u (pm_u I 28 (T c) (nI P)) 27 P (nI (c / m)) a = I a := fun a h1 h2 => by rw [pm_u_n _ _ _ h1, pm_u_n _ _ _ h2]
      obtain ⟨z1, I', z2, z3, z4, z5, z6⟩ := ih (c + 1) (pm_u (pm_u I 28 (T c) (nI P)) 27 P (nI (c / m))) (by rw [ga 25 (by decide) (by decide)]; exact h3) (by rw [ga 3 (by decide) (by decide)]; exact h8) (fun d hd => by rw [ga 26 (by decide) (by decide)]; exact h26 d hd) (by omega) (by omega) (fun s hs => by
        rw [pm_u_n _ _ _ (by decide)]
        by_cases e : s = T c
        · rw [e, pm_u_s, pe, List.length_cons, ← hp]; congr 1
        · rw [pm_u_j _ _ _ e, PL, if_neg (fun w => e w.symm)]; exact h28 s hs) (fun s hs j x hx => by
        by_cases e : s = T c
        · subst e
          rw [pe, List.length_cons]
          rw [pe] at hx
          have eP : cum T m N (T c + 1) - ((PL T m c (T c)).length + 1) = P := by omega
          rw [eP]
          cases j with
          | zero =>
            rw [List.getElem?_cons_zero] at hx
            cases hx
            rw [Nat.add_zero, pm_u_s]
          | succ j =>
            rw [List.getElem?_cons_succ] at hx
            rw [pm_u_j _ _ _ (by omega), pm_u_n _ _ _ (by decide)]
            have := h27 (T c) hs j x hx
            rw [show cum T m N (T c + 1) - (PL T m c (T c)).length + j = P + (j + 1) by omega] at this
            exact this
        · have pn : PL T m (c + 1) s = PL T m c s := by rw [PL, if_neg (fun w => e w.symm)]
          rw [pn] at hx ⊢
          obtain ⟨jl, _⟩ := List.getElem?_eq_some_iff.mp hx
          have ple := PL_le (T := T) (m := m) (s := s) c N (by omega)
          have cs' : cum T m N (s + 1) = cum T m N s + (PL T m N s).length := rfl
          have ne : cum T m N (s + 1) - (PL T m c s).length + j ≠ P := by
            rcases Nat.lt_or_gt_of_ne e with w | w
            · have := cum_mo (T := T) (m := m) (N := N) (s + 1) (T c) (by omega); omega
            · have := cum_mo (T := T) (m := m) (N := N) (T c + 1) s (by omega); omega
          rw [pm_u_j _ _ _ ne, pm_u_n _ _ _ (by decide)]
          exact h27 s hs j x hx)
      have v2 : vp_in (nI c) 2048 := vp_in_nI (by omega) (by decide)
      have vt : vp_in (nI (T c)) 257 := vp_in_nI (by omega) (by decide)
      exact ⟨⟨fun w => absurd w c', fun _ => ⟨v2, vt, vt, v2, vt, vp_in_nI (by omega) (by decide), z1⟩⟩, I', z2, fun a h1 h2 => by rw [z3 a h1 h2, ga a h1 h2], z4, by rw [z5, pm_u_n _ _ _ (by decide), pm_u_j _ _ _ (by omega)], z6⟩
def tbQ (T : Nat → Nat) (m n N : Nat) (I I' : Mm) : Prop := (∀ a, a ≠ 27 → a ≠ 28 → I' a = I a) ∧ (∀ s, s ≤ n → I' 28 s = nI (cum T m N s)) ∧ ∀ s, s < n → ∀ j x, (PL T m N s)[j]? = some x → I' 27 (cum T m N s + j) = nI x
theorem cs_turn {ib : Nat} {I : Mm} (hib : ib ≤ 3) (hm : m = 2 ^ ib) (hN : N ≤ 2048) (hn : n ≤ 256) (hT : ∀ c, c < N → T c < n) (h1 : I 25 1 = nI n) (h3 : I 25 3 = nI N) (h8 : I 3 8 = nI ib) (h26 : ∀ d, d < N → I 26 d = nI (T d)) : pSt_turnBack 2049 257 2049 I J ∧ tbQ T m n N I (fSt_turnBack 2049 257 2049 I J) := by
  have hf := Ar_fill_28_o 0 I J
  have fa : ∀ a, a ≠ 28 → pm_fl I 28 257 0 a = I a := fun a ha => pm_fl_n _ _ _ ha
  have z := tb_10 (J := J) (m := m) hN hn hT 2049 257 (tbQ T m n N I) 2049 0 (pm_fl I 28 257 0) (by rw [fa 25 (by decide)]; exact h3) (fun d hd => by rw [fa 26 (by decide)]; exact h26 d hd) (Nat.zero_le _) (by omega) (fun s hs => by rw [pm_fl_j _ _ _ (by omega)]; rfl) (fun I1 g1 g2 => by
    have y := tb_41 (J := J) (T := T) (m := m) (N := N) hn 2049 (tbQ T m n N I) 257 1 I1 (by rw [g1 25 (by decide), fa 25 (by decide)]; exact h1) (Nat.le_refl _) (by omega) (by omega) (fun r hr => by
      rw [show r = 0 by omega, g2 0 (Nat.zero_le _), cum, cum, Nat.zero_add]) (fun r _ hr => g2 r hr) (fun I2 k1 k2 => by
        obtain ⟨w1, I3, w2, w3, w4, w5, w6⟩ := tb_74 (J := J) hib hm hN hn hT 2049 0 I2 (by rw [k1 25 (by decide), g1 25 (by decide), fa 25 (by decide)]; exact h3) (by rw [k1 3 (by decide), g1 3 (by decide), fa 3 (by decide)]; exact h8) (fun d hd => by rw [k1 26 (by decide), g1 26 (by decide), fa 26 (by decide)]; exact h26 d hd) (Nat.zero_le _) (by omega) (fun s hs => by rw [k2 s (by omega)]; rfl) (fun s hs j x hx => by rw [PL, List.getElem?_nil] at hx; cases hx)
        have w1' : pSt_turnBack_74 2049 0 I2 J := w1
        have w2' : fSt_turnBack_74 2049 0 I2 J = I3 := w2
        rw [w2']
        refine ⟨w1', fun a h1 h2 => by rw [w3 a h1 h2, k1 a h2, g1 a h2, fa a h2], fun s hs => ?_, w6⟩
        by_cases e : s = n
        · rw [e, w5, k2 n (Nat.le_refl _), cum, PL_n N hT]; rfl
        · exact w4 s (by omega))
    exact y)
  unfold pSt_turnBack fSt_turnBack pSt_turnBack_8 fSt_turnBack_8
  rw [hf.2]
  exact ⟨⟨hf.1, z.1⟩, z.2⟩
end
