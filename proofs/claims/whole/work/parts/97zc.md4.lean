/-! MODEL WORKS OUT 4: next, fixed -/
def b2 (c : Bool) : Int32 := if c = true then 1 else 0
theorem b2_0 (c : Bool) : b2 c = 0 ↔ c = false := by cases c <;> decide
theorem b2_i {c d : Bool} : b2 c = b2 d ↔ c = d := by cases c <;> cases d <;> decide
theorem nar_b (c : Bool) : vp_nar .boolean (b2 c) = b2 c := by cases c <;> rfl
theorem nar_b' (c : Bool) : narrow .boolean (.int (b2 c)) = .int (b2 c) := by cases c <;> rfl
/-- a row of booleans that holds a set -/
def rw_ (n : Nat) (I : Mm) (a : Nat) (g : Se) : Prop := (∀ j, j < 256 → ∃ c, I a j = b2 c) ∧ ∀ s, s < n → I a s = b2 (g s)
def rv (E : List (Nat × Nat)) (v : Value) (a : Nat) : Prop := v = .ref a ∧ (mk_K ++ E)[a]? = some (3, 256)
theorem rv_pv {E : List (Nat × Nat)} {v : Value} {a : Nat} (h : rv E v a) : pv v ∧ pa v = a := by
  rw [h.1]; exact ⟨Or.inr ⟨a, rfl⟩, rfl⟩
theorem rv_p {E : List (Nat × Nat)} {v : Value} {a : Nat} (h : rv E v a) : v = .ref (pa v) ∧ (mk_K ++ E)[pa v]? = some (3, 256) := by
  rw [(rv_pv h).2]; exact ⟨h.1, h.2⟩
/-- the steps, in the model's memory -/
def mA (n m : Nat) (nx : Nat → Nat → Nat) (I : Mm) : Prop := fMo_all I = nI n ∧ fMo_allInputs I = nI m ∧ n ≤ 256 ∧ m ≤ 8 ∧ ∀ s i, s < n → i < m → I (64 + s) i = nI (nx s i) ∧ nx s i < n
theorem mA_c {n m : Nat} {nx : Nat → Nat → Nat} {I I' : Mm} (h : mA n m nx I) (e40 : I' 40 = I 40) (ea : ∀ a, 64 ≤ a → a < 320 → I' a = I a) : mA n m nx I' := by
  obtain ⟨h1, h2, h3, h4, h5⟩ := h
  refine ⟨by unfold fMo_all at h1 ⊢; rw [e40]; exact h1, by unfold fMo_allInputs at h2 ⊢; rw [e40]; exact h2, h3, h4, fun s i hs hi => ?_⟩
  rw [ea (64 + s) (by omega) (by omega)]; exact h5 s i hs hi
section
variable {n m : Nat} {nx : Nat → Nat → Nat} {I : Mm} {B : Nat → Value} {E : List (Nat × Nat)}
theorem m_nx {v : Value} {a : Nat} {g : Se} (h : mA n m nx I) (hv : rv E v a) (hr : rw_ n I a g) {s : Nat} (hs : s < n) (ev : Bool) : ∀ (k i : Nat), i ≤ m → m - i < k → pMo_next2_3 k v (nI s) (b2 ev) (nI i) I B E ∧ ∃ c : Bool, fMo_next2_3 k v (nI s) (b2 ev) (nI i) I B E = b2 c ∧ (c = ev ↔ ∀ j, i ≤ j → j < m → g (nx s j) = ev) := by
  obtain ⟨h1, h2, h3, h4, h5⟩ := h
  intro k
  induction k with
  | zero => intro i _ h; omega
  | succ k ih =>
    intro i hi hk
    rw [pMo_next2_3.eq_2, fMo_next2_3.eq_2, h2]
    by_cases c : m ≤ i
    · have c' : nI m ≤ nI i := nI_le c (by omega)
      rw [if_pos c']
      exact ⟨⟨trivial, fun _ => nar_b' ev, fun q => absurd c' q⟩, ev, rfl, fun _ j h1 h2 => by omega, fun _ => rfl⟩
    · have c' : ¬ nI m ≤ nI i := nI_ge (by omega) (by omega)
      obtain ⟨x1, x2⟩ := h5 s i hs (by omega)
      have p1 := rv_p hv
      rw [if_neg c', nI_clamp (n := s) (by omega), nI_clamp (n := i) (by omega), x1, nI_clamp (n := nx s i) (by omega), (rv_pv hv).2, hr.2 _ x2, nI_i1]
      rw [(rv_pv hv).2] at p1
      have v1 : vp_in (nI s) 256 := vp_in_nI (by omega) (by decide)
      have v2 : vp_in (nI i) 8 := vp_in_nI (by omega) (by decide)
      have v3 : vp_in (nI (nx s i)) 256 := vp_in_nI (by omega) (by decide)
      obtain ⟨z1, c2, z2, z3⟩ := ih (i + 1) (by omega) (by omega)
      by_cases b : g (nx s i) = ev
      · have e : b2 (g (nx s i)) = b2 ev := by rw [b]
        rw [if_pos e]
        refine ⟨⟨trivial, fun q => absurd q c', fun _ => ⟨(rv_pv hv).1, v1, v2, ⟨p1.1, p1.2, v3⟩, fun _ => z1, fun q => absurd e q⟩⟩, c2, z2, z3.trans ⟨fun q j h1 h2 => ?_, fun q j h1 h2 => q j (by omega) h2⟩⟩
        by_cases ej : j = i
        · rw [ej]; exact b
        · exact q j (by omega) h2
      · have e : ¬ b2 (g (nx s i)) = b2 ev := fun q => b (b2_i.mp q)
        rw [if_neg e]
        refine ⟨⟨trivial, fun q => absurd q c', fun _ => ⟨(rv_pv hv).1, v1, v2, ⟨p1.1, p1.2, v3⟩, fun q => absurd q e, fun _ => ⟨fun _ => trivial, fun _ => trivial⟩⟩⟩, !ev, ?_, ?_⟩
        · cases ev
          · exact if_pos rfl
          · exact if_neg (by decide)
        · constructor
          · intro q; cases ev <;> cases q
          · intro q; exact absurd (q i (Nat.le_refl _) (by omega)) b
theorem m_nx2 {v : Value} {a : Nat} {g : Se} (h : mA n m nx I) (hv : rv E v a) (hr : rw_ n I a g) {s : Nat} (hs : s < n) (ev : Bool) : pMo_next2 9 v (nI s) (b2 ev) I B E ∧ ∃ c : Bool, fMo_next2 9 v (nI s) (b2 ev) I B E = b2 c ∧ (c = true ↔ pre m nx ev g s) := by
  have m8 := h.2.2.2.1
  obtain ⟨z1, c, z2, z3⟩ := m_nx (B := B) h hv hr hs ev 9 0 (Nat.zero_le _) (by omega)
  refine ⟨⟨(rv_pv hv).1, z1⟩, c, z2, ?_⟩
  cases ev with
  | true =>
    rw [z3]
    exact ⟨fun q => ⟨fun _ i hi => q i (Nat.zero_le _) hi, fun w => absurd w (by decide)⟩, fun q j _ hj => q.1 rfl j hj⟩
  | false =>
    constructor
    · intro hc
      refine ⟨fun w => absurd w (by decide), fun _ => Classical.byContradiction fun w => ?_⟩
      have : c = false := z3.mpr (fun j _ hj => by
        cases hg : g (nx s j) with
        | false => rfl
        | true => exact absurd ⟨j, hj, hg⟩ w)
      rw [this] at hc; cases hc
    · intro hp
      obtain ⟨i, hi, hg⟩ := hp.2 rfl
      cases hc : c with
      | true => rfl
      | false =>
        have := (z3.mp hc) i (Nat.zero_le _) hi
        rw [hg] at this; cases this
end
/-! the iteration, in the abstract -/
def psi (m : Nat) (nx : Nat → Nat → Nat) (a : Bool) (way goal x : Se) (s : Nat) : Prop := goal s = true ∨ (way s = true ∧ pre m nx a x s)
def itI (n m : Nat) (nx : Nat → Nat → Nat) (a : Bool) (way goal x : Se) : Prop := (∀ s, s < n → x s = true → psi m nx a way goal x s) ∧ ∀ s, s < n → x s = true → unt n m nx a way goal s = true
def upb (x : Se) (s : Nat) (c : Bool) : Se := fun t => if t = s then c else x t
theorem psi_m {m : Nat} {nx : Nat → Nat → Nat} {a : Bool} {way goal x y : Se} {s : Nat} (h : ∀ i, i < m → x (nx s i) = true → y (nx s i) = true) (p : psi m nx a way goal x s) : psi m nx a way goal y s := by
  rcases p with p | p
  · exact Or.inl p
  · exact Or.inr ⟨p.1, pre_m h p.2⟩
theorem it_s {n m : Nat} {nx : Nat → Nat → Nat} {a : Bool} {way goal x : Se} (hnx : ∀ s i, s < n → i < m → nx s i < n) (h : itI n m nx a way goal x) {s : Nat} (hs : s < n) {c : Bool} (hc : c = true ↔ psi m nx a way goal x s) : itI n m nx a way goal (upb x s c) ∧ ∀ t, t < n → x t = true → upb x s c t = true := by
  have up : ∀ t, t < n → x t = true → upb x s c t = true := fun t ht q => by
    unfold upb
    by_cases e : t = s
    · rw [if_pos e]; subst e; exact hc.mpr (h.1 t ht q)
    · rw [if_neg e]; exact q
  refine ⟨⟨fun t ht q => ?_, fun t ht q => ?_⟩, up⟩
  · have base : psi m nx a way goal x t := by
      unfold upb at q
      by_cases e : t = s
      · rw [if_pos e] at q; rw [e]; exact hc.mp q
      · rw [if_neg e] at q; exact h.1 t ht q
    exact psi_m (fun i hi w => up _ (hnx t i ht hi) w) base
  · unfold upb at q
    by_cases e : t = s
    · rw [if_pos e] at q
      rw [e]
      exact unt_clo n m nx a way goal s hs (psi_m (fun i hi w => h.2 _ (hnx s i hs hi) w) (hc.mp q))
    · rw [if_neg e] at q; exact h.2 t ht q
theorem it_e {n m : Nat} {nx : Nat → Nat → Nat} {a : Bool} {way goal x : Se} (hnx : ∀ s i, s < n → i < m → nx s i < n) (h : itI n m nx a way goal x) (hf : ∀ s, s < n → psi m nx a way goal x s → x s = true) : ∀ s, s < n → x s = unt n m nx a way goal s := by
  intro s hs
  rw [Bool.eq_iff_iff]
  refine ⟨h.2 s hs, fun q => ?_⟩
  have := (unt_i.mp q).2 (fun t => decide (t < n) && x t) (fun t ht p => by
    have : x t = true := hf t ht (psi_m (fun i hi w => by simp at w; exact w.2) p)
    simp [ht, this])
  simp at this
  exact this.2
/-- how many are in -/
def cBn (x : Se) : Nat → Nat
  | 0 => 0
  | n + 1 => cBn x n + (if x n = true then 1 else 0)
theorem cBn_le (x : Se) : ∀ n, cBn x n ≤ n
  | 0 => Nat.le_refl _
  | n + 1 => by
    have := cBn_le x n
    rw [cBn]
    by_cases c : x n = true
    · rw [if_pos c]; omega
    · rw [if_neg c]; omega
theorem cBn_mo {x y : Se} : ∀ n, (∀ t, t < n → x t = true → y t = true) → cBn x n ≤ cBn y n
  | 0, _ => Nat.le_refl _
  | n + 1, h => by
    have := cBn_mo n (fun t ht => h t (by omega))
    rw [cBn, cBn]
    by_cases c : x n = true
    · rw [if_pos c, if_pos (h n (by omega) c)]; omega
    · rw [if_neg c]; omega
theorem cBn_lt {x y : Se} : ∀ n s, (∀ t, t < n → x t = true → y t = true) → s < n → x s = false → y s = true → cBn x n < cBn y n
  | 0, s, _, hs, _, _ => absurd hs (Nat.not_lt_zero _)
  | n + 1, s, h, hs, h1, h2 => by
    rw [cBn, cBn]
    by_cases e : s = n
    · subst e
      have := cBn_mo s (fun t ht => h t (by omega))
      rw [if_neg (by rw [h1]; decide), if_pos h2]; omega
    · have := cBn_lt n s (fun t ht => h t (by omega)) (by omega) h1 h2
      by_cases c : x n = true
      · rw [if_pos c, if_pos (h n (by omega) c)]; omega
      · rw [if_neg c]; omega
