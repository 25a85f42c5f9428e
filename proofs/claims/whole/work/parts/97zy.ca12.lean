/-! CALLS 12: the model's trace -/
def sumA (A : Nat → Nat) : Nat → Nat
  | 0 => 0
  | n + 1 => sumA A n + A n
theorem sumA_up {A : Nat → Nat} {t v : Nat} (h : v < A t) : ∀ n, sumA (fun s => if s = t then v else A s) n ≤ sumA A n ∧ (t < n → sumA (fun s => if s = t then v else A s) n < sumA A n)
  | 0 => ⟨Nat.le_refl _, fun h => absurd h (Nat.not_lt_zero _)⟩
  | n + 1 => by
    obtain ⟨h1, h2⟩ := sumA_up h n
    rw [sumA, sumA]
    by_cases e : n = t
    · subst e
      rw [if_pos rfl]
      constructor
      · omega
      · intro _; omega
    · rw [if_neg e]
      constructor
      · omega
      · intro ht; have := h2 (by omega); omega
theorem sumA_le {A : Nat → Nat} (h : ∀ s, A s ≤ 1000) : ∀ n, sumA A n ≤ 1000 * n
  | 0 => Nat.le_refl _
  | n + 1 => by
    have := sumA_le h n
    have := h n
    rw [sumA]; omega
def tFr (V I : Mm) : Prop := ∀ a, a ≠ 353 → I a = V a
def pT (V : Mm) (T : Se) (n m : Nat) (nx : Nat → Nat → Nat) (c0 y3 y4 : Nat) (ch : Int32) (A : Nat → Nat) (I : Mm) : Prop := tFr V I ∧ ((∀ s, s < n → I 353 s = nI (A s)) ∧ ∀ s, A s ≤ 1000) ∧ (∀ s, s < n → (A s = 0 ↔ T s = true)) ∧ (∀ s, s < n → A s ≠ 0 → A s < 1000 → ∃ i, i < m ∧ A (nx s i) + 1 ≤ A s) ∧ ((ch = 0 ∧ sumA A n = c0 ∧ ∀ s i, (s < y3 ∨ (s = y3 ∧ i < y4)) → s < n → i < m → A s ≤ A (nx s i) + 1) ∨ (ch = 1 ∧ sumA A n < c0))
section
variable {V : Mm} {T : Se} {n m : Nat} {nx : Nat → Nat → Nat} {c0 : Nat} {B : Nat → Value} {E : List (Nat × Nat)}
theorem mA_T {I : Mm} (h : mA n m nx V) (f : tFr V I) : mA n m nx I := mA_c h (f 40 (by decide)) (fun a _ _ => f a (by omega))
theorem t_71 (hA : mA n m nx V) (y1 : Int32) {y3 : Nat} (hy : y3 < n) {q52 : Int32 → Int32 → Mm → (Nat → Value) → List (Nat × Nat) → Prop} {r52 : Int32 → Int32 → Mm → (Nat → Value) → List (Nat × Nat) → Int32 × Mm} {q60 : Int32 → Int32 → Int32 → Mm → (Nat → Value) → List (Nat × Nat) → Prop} {r60 : Int32 → Int32 → Int32 → Mm → (Nat → Value) → List (Nat × Nat) → Int32 × Mm} (Q : Int32 × Mm → Prop) (nxt : ∀ ch A I, pT V T n m nx c0 (y3 + 1) 0 ch A I → q60 y1 ch (nI (y3 + 1)) I B E ∧ Q (r60 y1 ch (nI (y3 + 1)) I B E)) : ∀ (d y4 : Nat) (ch : Int32) (A : Nat → Nat) (I : Mm), y4 ≤ m → m - y4 < d → pT V T n m nx c0 y3 y4 ch A I → pMo_trace_71 q52 q60 d y1 ch (nI y3) (nI y4) I B E ∧ Q (fMo_trace_71 r52 r60 d y1 ch (nI y3) (nI y4) I B E) := by
  intro d
  induction d with
  | zero => intro y4 ch A I _ h; omega
  | succ d ih =>
    intro y4 ch A I hy4 hd hp
    obtain ⟨p1, ⟨p2, p2'⟩, p3, p4, p5⟩ := hp
    have hI := mA_T hA p1
    have n256 := hI.2.2.1
    have m8 := hI.2.2.2.1
    rw [pMo_trace_71.eq_2, fMo_trace_71.eq_2, hI.2.1]
    by_cases c : m ≤ y4
    · have c' : nI m ≤ nI y4 := nI_le c (by omega)
      have z := nxt ch A I ⟨p1, ⟨p2, p2'⟩, p3, p4, by
        rcases p5 with ⟨e1, e2, e3⟩ | e
        · exact Or.inl ⟨e1, e2, fun s i hs hsn hi => e3 s i (by omega) hsn hi⟩
        · exact Or.inr e⟩
      rw [if_pos c', nI_i1]
      exact ⟨⟨trivial, fun _ => z.1, fun q => absurd c' q⟩, z.2⟩
    · have c' : ¬ nI m ≤ nI y4 := nI_ge (by omega) (by omega)
      have v3 : vp_in (nI y3) 256 := vp_in_nI (by omega) (by decide)
      have v4 : vp_in (nI y4) 8 := vp_in_nI (by omega) (by decide)
      obtain ⟨t1, t2⟩ := hI.2.2.2.2 y3 y4 hy (by omega)
      have vx : vp_in (nI (nx y3 y4)) 256 := vp_in_nI (by omega) (by decide)
      have e1 : nI (A (nx y3 y4)) + 1 = nI (A (nx y3 y4) + 1) := nI_i1 _
      rw [if_neg c', nI_clamp (n := y3) (by omega), nI_clamp (n := y4) (by omega), p2 y3 hy, t1, nI_clamp (n := nx y3 y4) (by omega), p2 _ t2, e1]
      unfold pMo_trace_132 fMo_trace_132
      have ei : nI y4 + Int32.ofInt 1 = nI (y4 + 1) := nI_i1 y4
      rw [ei]
      have a1 := p2' (nx y3 y4)
      have a2 := p2' y3
      by_cases k : A (nx y3 y4) + 1 < A y3
      · have k' : nI (A (nx y3 y4) + 1) < nI (A y3) := Int32.not_le.mp (nI_ge k (by omega))
        obtain ⟨u1, u2⟩ := sumA_up (A := A) (t := y3) k n
        have ne : nx y3 y4 ≠ y3 := fun q => by rw [q] at k; omega
        have z := ih (y4 + 1) 1 (fun s => if s = y3 then A (nx y3 y4) + 1 else A s) (pm_u I 353 y3 (nI (A (nx y3 y4) + 1))) (by omega) (by omega) ⟨fun a ha => (pm_u_n _ _ _ ha).trans (p1 a ha), ⟨fun s hs => by
            show _ = nI (if s = y3 then A (nx y3 y4) + 1 else A s)
            by_cases e : s = y3
            · rw [e, pm_u_s, if_pos rfl]
            · rw [pm_u_j _ _ _ e, if_neg e]; exact p2 s hs, fun s => by
            show (if s = y3 then A (nx y3 y4) + 1 else A s) ≤ 1000
            have := p2' s
            split <;> omega⟩, fun s hs => by
            show (if s = y3 then A (nx y3 y4) + 1 else A s) = 0 ↔ T s = true
            by_cases e : s = y3
            · rw [if_pos e, e, ← p3 y3 hy]
              constructor
              · intro w; omega
              · intro w; omega
            · rw [if_neg e]; exact p3 s hs, fun s hs w1 w2 => by
            show ∃ i, i < m ∧ (if nx s i = y3 then A (nx y3 y4) + 1 else A (nx s i)) + 1 ≤ (if s = y3 then A (nx y3 y4) + 1 else A s)
            have w1' : (if s = y3 then A (nx y3 y4) + 1 else A s) ≠ 0 := w1
            have w2' : (if s = y3 then A (nx y3 y4) + 1 else A s) < 1000 := w2
            by_cases e : s = y3
            · refine ⟨y4, by omega, ?_⟩
              rw [e, if_neg ne, if_pos rfl]; exact Nat.le_refl _
            · rw [if_neg e] at w1' w2'
              obtain ⟨i, i1, i2⟩ := p4 s hs w1' w2'
              refine ⟨i, i1, ?_⟩
              rw [if_neg e]
              by_cases e3 : nx s i = y3
              · rw [if_pos e3]; rw [e3] at i2; omega
              · rw [if_neg e3]; exact i2, Or.inr ⟨rfl, by
            have := u2 hy
            rcases p5 with ⟨_, e2, _⟩ | ⟨_, e2⟩
            · omega
            · omega⟩⟩
        rw [if_pos k']
        exact ⟨⟨trivial, fun q => absurd q c', fun _ => ⟨v3, v4, vx, v3, fun _ => ⟨v3, v4, vx, v3, z.1⟩, fun q => absurd k' q⟩⟩, z.2⟩
      · have k' : ¬ nI (A (nx y3 y4) + 1) < nI (A y3) := Int32.not_lt.mpr (nI_le (by omega) (by omega))
        have z := ih (y4 + 1) ch A I (by omega) (by omega) ⟨p1, ⟨p2, p2'⟩, p3, p4, by
          rcases p5 with ⟨e1, e2, e3⟩ | e
          · refine Or.inl ⟨e1, e2, fun s i hs hsn hi => ?_⟩
            by_cases c1 : s = y3 ∧ i = y4
            · rw [c1.1, c1.2]; omega
            · exact e3 s i (by omega) hsn hi
          · exact Or.inr e⟩
        rw [if_neg k']
        exact ⟨⟨trivial, fun q => absurd q c', fun _ => ⟨v3, v4, vx, v3, fun q => absurd q k', fun _ => z.1⟩⟩, z.2⟩
theorem t_60 (hA : mA n m nx V) (y1 : Int32) {q52 : Int32 → Int32 → Mm → (Nat → Value) → List (Nat × Nat) → Prop} {r52 : Int32 → Int32 → Mm → (Nat → Value) → List (Nat × Nat) → Int32 × Mm} (Q : Int32 × Mm → Prop) (nxt : ∀ ch A I, pT V T n m nx c0 n 0 ch A I → q52 y1 ch I B E ∧ Q (r52 y1 ch I B E)) : ∀ (d y3 : Nat) (ch : Int32) (A : Nat → Nat) (I : Mm), y3 ≤ n → n - y3 < d → pT V T n m nx c0 y3 0 ch A I → pMo_trace_60 q52 9 d y1 ch (nI y3) I B E ∧ Q (fMo_trace_60 r52 9 d y1 ch (nI y3) I B E) := by
  intro d
  induction d with
  | zero => intro y3 ch A I _ h; omega
  | succ d ih =>
    intro y3 ch A I hy hd hp
    have hI := mA_T hA hp.1
    have n256 := hI.2.2.1
    have m8 := hI.2.2.2.1
    rw [pMo_trace_60.eq_2, fMo_trace_60.eq_2, hI.1]
    by_cases c : n ≤ y3
    · have c' : nI n ≤ nI y3 := nI_le c (by omega)
      have e : y3 = n := by omega
      have hp' : pT V T n m nx c0 n 0 ch A I := by
        have h2 := hp
        unfold pT at h2 ⊢
        rw [e] at h2
        exact h2
      have z := nxt ch A I hp'
      rw [if_pos c']
      exact ⟨⟨trivial, fun _ => z.1, fun q => absurd c' q⟩, z.2⟩
    · have c' : ¬ nI n ≤ nI y3 := nI_ge (by omega) (by omega)
      have z := t_71 (q52 := q52) (r52 := r52) (q60 := pMo_trace_60 q52 9 d) (r60 := fMo_trace_60 r52 9 d) hA y1 (show y3 < n by omega) Q (fun ch A I hp' => ih (y3 + 1) ch A I (by omega) (by omega) hp') 9 0 ch A I (Nat.zero_le _) (by omega) hp
      have z1 : pMo_trace_71 q52 (pMo_trace_60 q52 9 d) 9 y1 ch (nI y3) 0 I B E := z.1
      have z2 : Q (fMo_trace_71 r52 (fMo_trace_60 r52 9 d) 9 y1 ch (nI y3) 0 I B E) := z.2
      rw [if_neg c']
      exact ⟨⟨trivial, fun q => absurd q c', fun _ => z1⟩, z2⟩
theorem aw_of {ch : Int32} {A : Nat → Nat} {I : Mm} (h : pT V T n m nx c0 n 0 ch A I) (h0 : ch = 0) : aw n m nx A T := by
  obtain ⟨_, _, p3, p4, p5⟩ := h
  rcases p5 with ⟨_, _, e3⟩ | ⟨e, _⟩
  · refine ⟨p3, fun s i hs hi => e3 s i (Or.inl hs) hs hi, fun s hs w1 w2 => ?_⟩
    obtain ⟨i, i1, i2⟩ := p4 s hs w1 w2
    have := e3 s i (Or.inl hs) hs i1
    exact ⟨i, i1, by omega⟩
  · rw [h0] at e; exact absurd e (by decide)
theorem t_52 (hA : mA n m nx V) (y1 : Int32) (F : Nat) (Q : Int32 × Mm → Prop) (fin : ∀ (d : Nat) (A : Nat → Nat) (I : Mm), tFr V I → (∀ s, s < n → I 353 s = nI (A s)) → (∀ s, A s ≤ 1000) → aw n m nx A T → pMo_trace_52 9 257 9 F (d + 1) y1 0 I B E ∧ Q (fMo_trace_52 9 257 9 F (d + 1) y1 0 I B E)) : ∀ (d c0 : Nat) (ch : Int32) (A : Nat → Nat) (I : Mm), pT V T n m nx c0 n 0 ch A I → 0 < d → (ch = 1 → sumA A n + 2 ≤ d) → pMo_trace_52 9 257 9 F d y1 ch I B E ∧ Q (fMo_trace_52 9 257 9 F d y1 ch I B E) := by
  intro d
  induction d with
  | zero => intro c0 ch A I _ h; omega
  | succ d ih =>
    intro c0 ch A I hp _ hd
    have hI := mA_T hA hp.1
    have n256 := hI.2.2.1
    rcases hp.2.2.2.2 with ⟨e1, _⟩ | ⟨e1, e2⟩
    · have := fin d A I hp.1 hp.2.1.1 hp.2.1.2 (aw_of hp e1)
      rw [e1]; exact this
    · have ne : ¬ ch = 0 := by rw [e1]; decide
      have hd' := hd e1
      rw [pMo_trace_52.eq_2, fMo_trace_52.eq_2]
      have z := t_60 (c0 := sumA A n) (T := T) (q52 := pMo_trace_52 9 257 9 F d) (r52 := fMo_trace_52 9 257 9 F d) (B := B) (E := E) hA y1 Q (fun ch' A' I' hp' => ih (sumA A n) ch' A' I' hp' (by omega) (fun q => by
        rcases hp'.2.2.2.2 with ⟨w1, _⟩ | ⟨_, w2⟩
        · rw [w1] at q; exact absurd q (by decide)
        · omega)) 257 0 0 A I (Nat.zero_le _) (by omega) ⟨hp.1, hp.2.1, hp.2.2.1, hp.2.2.2.1, Or.inl ⟨rfl, rfl, fun s i hs => by omega⟩⟩
      have z1 : pMo_trace_60 (pMo_trace_52 9 257 9 F d) 9 257 y1 0 0 I B E := z.1
      have z2 : Q (fMo_trace_60 (fMo_trace_52 9 257 9 F d) 9 257 y1 0 0 I B E) := z.2
      rw [if_neg ne]
      exact ⟨⟨fun q => absurd q ne, fun _ => z1⟩, z2⟩
end
