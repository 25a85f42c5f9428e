/-! CALLS 9: reachable -/
theorem cntB_up {g : Se} {t : Nat} (h : g t = false) : ∀ n, cntB (fun s => if s = t then true else g s) n = cntB g n + (if t < n then 1 else 0)
  | 0 => by rw [if_neg (Nat.not_lt_zero _)]; rfl
  | n + 1 => by
    rw [cntB, cntB, cntB_up h n]
    by_cases e : n = t
    · subst e
      rw [if_pos rfl, if_pos rfl, h, if_neg (Nat.lt_irrefl n), if_pos (Nat.lt_succ_self n)]
      rfl
    · rw [if_neg e]
      by_cases c : t < n
      · rw [if_pos c, if_pos (show t < n + 1 by omega)]; omega
      · rw [if_neg c, if_neg (show ¬ t < n + 1 by omega)]; omega
theorem cntB_pos {g : Se} {t : Nat} (h : g t = true) : ∀ n, t < n → 0 < cntB g n
  | 0, ht => absurd ht (Nat.not_lt_zero _)
  | n + 1, ht => by
    rw [cntB]
    by_cases e : n = t
    · rw [e, h, if_pos rfl]; omega
    · have := cntB_pos h n (by omega); omega
theorem cntB_O {n : Nat} : ∀ O : List Nat, O.Nodup → (∀ x ∈ O, x < n) → cntB (fun s => decide (s ∈ O)) n = O.length
  | [], _, _ => cntB_0 n (fun i _ => by simp)
  | a :: l, h, hx => by
    obtain ⟨h1, h2⟩ := List.nodup_cons.mp h
    have ih := cntB_O l h2 (fun x hx' => hx x (List.mem_cons_of_mem _ hx'))
    have u := cntB_up (g := fun s => decide (s ∈ l)) (t := a) (by simp [h1]) n
    rw [if_pos (hx a List.mem_cons_self), ih] at u
    rw [List.length_cons, ← u]
    refine cntB_cg n (fun i _ => ?_)
    by_cases e : i = a
    · simp [e]
    · simp [e]
def rS (n : Nat) (I : Mm) (g : Se) : Prop := ∀ s, s < n → I 321 s = b2 (g s)
def rFr (V I : Mm) : Prop := ∀ a, a ≠ 321 → I a = V a
def pS (V : Mm) (O : List Nat) (n m : Nat) (nx : Nat → Nat → Nat) (fi c0 y2 y3 : Nat) (ch : Int32) (g : Se) (I : Mm) : Prop := rFr V I ∧ rS n I g ∧ (∀ s, g s = true → s ∈ O) ∧ g fi = true ∧ ((ch = 0 ∧ cntB g n = c0 ∧ ∀ s i, (s < y2 ∨ (s = y2 ∧ i < y3)) → s < n → i < m → g s = true → g (nx s i) = true) ∨ (ch = 1 ∧ c0 < cntB g n))
section
variable {V : Mm} {O : List Nat} {n m : Nat} {nx : Nat → Nat → Nat} {fi c0 : Nat} {B : Nat → Value} {E : List (Nat × Nat)}
theorem mA_F {I : Mm} (h : mA n m nx V) (f : rFr V I) : mA n m nx I := mA_c h (f 40 (by decide)) (fun a _ _ => f a (by omega))
theorem r_60 (hA : mA n m nx V) (hO : ∀ s, s ∈ O → ∀ i, i < m → nx s i ∈ O) {y2 : Nat} (hy : y2 < n) {q42 : Int32 → Mm → (Nat → Value) → List (Nat × Nat) → Prop} {r42 : Int32 → Mm → (Nat → Value) → List (Nat × Nat) → Int32 × Mm} {q50 : Int32 → Int32 → Mm → (Nat → Value) → List (Nat × Nat) → Prop} {r50 : Int32 → Int32 → Mm → (Nat → Value) → List (Nat × Nat) → Int32 × Mm} (Q : Int32 × Mm → Prop) (nxt : ∀ ch g I, pS V O n m nx fi c0 (y2 + 1) 0 ch g I → q50 ch (nI (y2 + 1)) I B E ∧ Q (r50 ch (nI (y2 + 1)) I B E)) : ∀ (d y3 : Nat) (ch : Int32) (g : Se) (I : Mm), y3 ≤ m → m - y3 < d → pS V O n m nx fi c0 y2 y3 ch g I → pMo_reachable_60 q42 q50 d ch (nI y2) (nI y3) I B E ∧ Q (fMo_reachable_60 r42 r50 d ch (nI y2) (nI y3) I B E) := by
  intro d
  induction d with
  | zero => intro y3 ch g I _ h; omega
  | succ d ih =>
    intro y3 ch g I hy3 hd hp
    obtain ⟨p1, p2, p3, p4, p5⟩ := hp
    have hI := mA_F hA p1
    have n256 := hI.2.2.1
    have m8 := hI.2.2.2.1
    rw [pMo_reachable_60.eq_2, fMo_reachable_60.eq_2, hI.2.1]
    by_cases c : m ≤ y3
    · have c' : nI m ≤ nI y3 := nI_le c (by omega)
      have z := nxt ch g I ⟨p1, p2, p3, p4, by
        rcases p5 with ⟨e1, e2, e3⟩ | e
        · exact Or.inl ⟨e1, e2, fun s i hs hsn hi => e3 s i (by omega) hsn hi⟩
        · exact Or.inr e⟩
      rw [if_pos c', nI_i1]
      exact ⟨⟨trivial, fun _ => z.1, fun q => absurd c' q⟩, z.2⟩
    · have c' : ¬ nI m ≤ nI y3 := nI_ge (by omega) (by omega)
      have v2 : vp_in (nI y2) 256 := vp_in_nI (by omega) (by decide)
      have v3 : vp_in (nI y3) 8 := vp_in_nI (by omega) (by decide)
      obtain ⟨t1, t2⟩ := hI.2.2.2.2 y2 y3 hy (by omega)
      have v4 : vp_in (nI (nx y2 y3)) 256 := vp_in_nI (by omega) (by decide)
      rw [if_neg c', nI_clamp (n := y2) (by omega), nI_clamp (n := y3) (by omega), p2 y2 hy, t1, nI_clamp (n := nx y2 y3) (by omega), p2 _ t2]
      unfold pMo_reachable_112 fMo_reachable_112
      have ei : nI y3 + Int32.ofInt 1 = nI (y3 + 1) := nI_i1 y3
      rw [ei]
      cases hg : g y2 with
      | false =>
        have z := ih (y3 + 1) ch g I (by omega) (by omega) ⟨p1, p2, p3, p4, by
          rcases p5 with ⟨e1, e2, e3⟩ | e
          · refine Or.inl ⟨e1, e2, fun s i hs hsn hi hgs => ?_⟩
            by_cases c1 : s = y2 ∧ i = y3
            · rw [c1.1, hg] at hgs; cases hgs
            · exact e3 s i (by omega) hsn hi hgs
          · exact Or.inr e⟩
        rw [if_pos (show b2 false = 0 from rfl)]
        exact ⟨⟨trivial, fun q => absurd q c', fun _ => ⟨v2, fun _ => z.1, fun q => absurd rfl q⟩⟩, z.2⟩
      | true =>
        rw [if_neg (show ¬ b2 true = 0 by decide)]
        cases hx : g (nx y2 y3) with
        | true =>
          have z := ih (y3 + 1) ch g I (by omega) (by omega) ⟨p1, p2, p3, p4, by
            rcases p5 with ⟨e1, e2, e3⟩ | e
            · refine Or.inl ⟨e1, e2, fun s i hs hsn hi hgs => ?_⟩
              by_cases c1 : s = y2 ∧ i = y3
              · rw [c1.1, c1.2]; exact hx
              · exact e3 s i (by omega) hsn hi hgs
            · exact Or.inr e⟩
          rw [if_neg (show ¬ b2 true = 0 by decide)]
          exact ⟨⟨trivial, fun q => absurd q c', fun _ => ⟨v2, fun q => absurd q (show ¬ b2 true = 0 by decide), fun _ => ⟨v2, v3, v4, fun q => absurd q (show ¬ b2 true = 0 by decide), fun _ => z.1⟩⟩⟩, z.2⟩
        | false =>
          have u := cntB_up (g := g) (t := nx y2 y3) hx n
          rw [if_pos t2] at u
          have z := ih (y3 + 1) 1 (fun s => if s = nx y2 y3 then true else g s) (pm_u I 321 (nx y2 y3) (vp_nar .boolean 1)) (by omega) (by omega) ⟨fun a ha => (pm_u_n _ _ _ ha).trans (p1 a ha), fun s hs => by
            show _ = b2 (if s = nx y2 y3 then true else g s)
            by_cases e : s = nx y2 y3
            · rw [e, pm_u_s, if_pos rfl]; rfl
            · rw [pm_u_j _ _ _ e, if_neg e]; exact p2 s hs, fun s hs => by
            have hs' : (if s = nx y2 y3 then true else g s) = true := hs
            by_cases e : s = nx y2 y3
            · rw [e]; exact hO y2 (p3 y2 hg) y3 (by omega)
            · rw [if_neg e] at hs'; exact p3 s hs', by
            show (if fi = nx y2 y3 then true else g fi) = true
            by_cases e : fi = nx y2 y3
            · rw [if_pos e]
            · rw [if_neg e]; exact p4, Or.inr ⟨rfl, by
            rw [u]
            rcases p5 with ⟨_, e2, _⟩ | ⟨_, e2⟩
            · omega
            · omega⟩⟩
          rw [if_pos (show b2 false = 0 from rfl)]
          exact ⟨⟨trivial, fun q => absurd q c', fun _ => ⟨v2, fun q => absurd q (show ¬ b2 true = 0 by decide), fun _ => ⟨v2, v3, v4, fun _ => ⟨v2, v3, v4, z.1⟩, fun q => absurd rfl q⟩⟩⟩, z.2⟩
theorem r_50 (hA : mA n m nx V) (hO : ∀ s, s ∈ O → ∀ i, i < m → nx s i ∈ O) {q42 : Int32 → Mm → (Nat → Value) → List (Nat × Nat) → Prop} {r42 : Int32 → Mm → (Nat → Value) → List (Nat × Nat) → Int32 × Mm} (Q : Int32 × Mm → Prop) (nxt : ∀ ch g I, pS V O n m nx fi c0 n 0 ch g I → q42 ch I B E ∧ Q (r42 ch I B E)) : ∀ (d y2 : Nat) (ch : Int32) (g : Se) (I : Mm), y2 ≤ n → n - y2 < d → pS V O n m nx fi c0 y2 0 ch g I → pMo_reachable_50 q42 9 d ch (nI y2) I B E ∧ Q (fMo_reachable_50 r42 9 d ch (nI y2) I B E) := by
  intro d
  induction d with
  | zero => intro y2 ch g I _ h; omega
  | succ d ih =>
    intro y2 ch g I hy hd hp
    have hI := mA_F hA hp.1
    have n256 := hI.2.2.1
    have m8 := hI.2.2.2.1
    rw [pMo_reachable_50.eq_2, fMo_reachable_50.eq_2, hI.1]
    by_cases c : n ≤ y2
    · have c' : nI n ≤ nI y2 := nI_le c (by omega)
      have e : y2 = n := by omega
      have hp' : pS V O n m nx fi c0 n 0 ch g I := by
        have h2 := hp
        unfold pS at h2 ⊢
        rw [e] at h2
        exact h2
      have z := nxt ch g I hp'
      rw [if_pos c']
      exact ⟨⟨trivial, fun _ => z.1, fun q => absurd c' q⟩, z.2⟩
    · have c' : ¬ nI n ≤ nI y2 := nI_ge (by omega) (by omega)
      have z := r_60 (q42 := q42) (r42 := r42) (q50 := pMo_reachable_50 q42 9 d) (r50 := fMo_reachable_50 r42 9 d) hA hO (show y2 < n by omega) Q (fun ch g I hp' => ih (y2 + 1) ch g I (by omega) (by omega) hp') 9 0 ch g I (Nat.zero_le _) (by omega) hp
      have z1 : pMo_reachable_60 q42 (pMo_reachable_50 q42 9 d) 9 ch (nI y2) 0 I B E := z.1
      have z2 : Q (fMo_reachable_60 r42 (fMo_reachable_50 r42 9 d) 9 ch (nI y2) 0 I B E) := z.2
      rw [if_neg c']
      exact ⟨⟨trivial, fun q => absurd q c', fun _ => z1⟩, z2⟩
theorem r_131 {g : Se} {I : Mm} (y : Int32) (hn : n ≤ 256) (hV : fMo_all I = nI n) (hr : rS n I g) : ∀ (d s : Nat), s ≤ n → n - s < d → pMo_reachable_131 d y (nI (cntB g s)) (nI s) I B E ∧ fMo_reachable_131 d y (nI (cntB g s)) (nI s) I B E = (nI (cntB g n), I) := by
  intro d
  induction d with
  | zero => intro s _ h; omega
  | succ d ih =>
    intro s hs hd
    rw [pMo_reachable_131.eq_2, fMo_reachable_131.eq_2, hV]
    unfold pMo_reachable_151 fMo_reachable_151
    by_cases c : n ≤ s
    · have c' : nI n ≤ nI s := nI_le c (by omega)
      have e : s = n := by omega
      rw [if_pos c', e]
      exact ⟨⟨trivial, fun _ => trivial, fun q => absurd (nI_le (Nat.le_refl n) (by omega)) q⟩, rfl⟩
    · have c' : ¬ nI n ≤ nI s := nI_ge (by omega) (by omega)
      have z := ih (s + 1) (by omega) (by omega)
      rw [cntB] at z
      rw [if_neg c', nI_clamp (n := s) (by omega), hr s (by omega), nI_i1, nI_i1]
      have v2 : vp_in (nI s) 256 := vp_in_nI (by omega) (by decide)
      cases hg : g s with
      | false =>
        rw [hg, if_neg (by decide), Nat.add_zero] at z
        rw [if_pos (show b2 false = 0 from rfl)]
        exact ⟨⟨trivial, fun q => absurd q c', fun _ => ⟨v2, fun _ => z.1, fun q => absurd rfl q⟩⟩, z.2⟩
      | true =>
        rw [hg, if_pos rfl] at z
        rw [if_neg (show ¬ b2 true = 0 by decide)]
        exact ⟨⟨trivial, fun q => absurd q c', fun _ => ⟨v2, fun q => absurd q (show ¬ b2 true = 0 by decide), fun _ => z.1⟩⟩, z.2⟩
theorem r_42 (hA : mA n m nx V) (hO : ∀ s, s ∈ O → ∀ i, i < m → nx s i ∈ O) (hOn : ∀ s, s ∈ O → s < n) (Q : Int32 × Mm → Prop) (fin : ∀ g I, rFr V I → rS n I g → (∀ s, g s = true → s ∈ O) → g fi = true → (∀ s i, s < n → i < m → g s = true → g (nx s i) = true) → Q (nI (cntB g n), I)) : ∀ (d c0 : Nat) (ch : Int32) (g : Se) (I : Mm), pS V O n m nx fi c0 n 0 ch g I → 0 < d → (ch = 1 → n + 2 ≤ cntB g n + d) → pMo_reachable_42 9 257 257 d ch I B E ∧ Q (fMo_reachable_42 9 257 257 d ch I B E) := by
  intro d
  induction d with
  | zero => intro c0 ch g I _ h; omega
  | succ d ih =>
    intro c0 ch g I hp _ hd
    have hI := mA_F hA hp.1
    have n256 := hI.2.2.1
    have le := cntB_le g n
    rw [pMo_reachable_42.eq_2, fMo_reachable_42.eq_2]
    rcases hp.2.2.2.2 with ⟨e1, e2, e3⟩ | ⟨e1, e2⟩
    · obtain ⟨z1, z2⟩ := r_131 (B := B) (E := E) ch n256 hI.1 hp.2.1 257 0 (Nat.zero_le _) (by omega)
      have z1' : pMo_reachable_131 257 ch 0 0 I B E := z1
      have z2' : fMo_reachable_131 257 ch 0 0 I B E = (nI (cntB g n), I) := z2
      rw [if_pos e1, z2']
      exact ⟨⟨fun _ => z1', fun q => absurd e1 q⟩, fin g I hp.1 hp.2.1 hp.2.2.1 hp.2.2.2.1 (fun s i hs hi => e3 s i (Or.inl hs) hs hi)⟩
    · have ne : ¬ ch = 0 := by rw [e1]; decide
      have hd' := hd e1
      have z := r_50 (c0 := cntB g n) (fi := fi) (q42 := pMo_reachable_42 9 257 257 d) (r42 := fMo_reachable_42 9 257 257 d) (B := B) (E := E) hA hO Q (fun ch' g' I' hp' => ih (cntB g n) ch' g' I' hp' (by omega) (fun q => by
        rcases hp'.2.2.2.2 with ⟨w1, _⟩ | ⟨_, w2⟩
        · rw [w1] at q; exact absurd q (by decide)
        · omega)) 257 0 0 g I (Nat.zero_le _) (by omega) ⟨hp.1, hp.2.1, hp.2.2.1, hp.2.2.2.1, Or.inl ⟨rfl, rfl, fun s i hs => by omega⟩⟩
      have z1 : pMo_reachable_50 (pMo_reachable_42 9 257 257 d) 9 257 0 0 I B E := z.1
      have z2 : Q (fMo_reachable_50 (fMo_reachable_42 9 257 257 d) 9 257 0 0 I B E) := z.2
      rw [if_neg ne]
      exact ⟨⟨fun q => absurd q ne, fun _ => z1⟩, z2⟩
theorem r_7 (hA : mA n m nx V) (h47 : V 40 47 = nI fi) (hfi : fi < n) (Q : Int32 × Mm → Prop) (nxt : ∀ I, rFr V I → rS n I (fun s => decide (s = fi)) → pMo_reachable_42 9 257 257 258 1 I B E ∧ Q (fMo_reachable_42 9 257 257 258 1 I B E)) : ∀ (d y : Nat) (I : Mm), y ≤ n → n - y < d → rFr V I → (∀ s, s < y → I 321 s = b2 (decide (s = fi))) → pMo_reachable_7 9 257 257 258 d (nI y) I B E ∧ Q (fMo_reachable_7 9 257 257 258 d (nI y) I B E) := by
  intro d
  induction d with
  | zero => intro y I _ h; omega
  | succ d ih =>
    intro y I hy hd hf hs
    have hI := mA_F hA hf
    have n256 := hI.2.2.1
    have e47 : I 40 47 = nI fi := by rw [hf 40 (by decide)]; exact h47
    rw [pMo_reachable_7.eq_2, fMo_reachable_7.eq_2, hI.1, e47]
    unfold pMo_reachable_33 fMo_reachable_33
    by_cases c : n ≤ y
    · have c' : nI n ≤ nI y := nI_le c (by omega)
      have z := nxt I hf (fun s hsn => hs s (by omega))
      rw [if_pos c']
      exact ⟨⟨trivial, fun _ => z.1, fun q => absurd c' q⟩, z.2⟩
    · have c' : ¬ nI n ≤ nI y := nI_ge (by omega) (by omega)
      have vy : vp_in (nI y) 256 := vp_in_nI (by omega) (by decide)
      rw [if_neg c', nI_clamp (n := y) (by omega), nI_i1]
      by_cases e : y = fi
      · have e' : nI y = nI fi := by rw [e]
        have z := ih (y + 1) (pm_u I 321 y (vp_nar .boolean 1)) (by omega) (by omega) (fun a ha => (pm_u_n _ _ _ ha).trans (hf a ha)) (fun s hsy => by
          by_cases c1 : s = y
          · rw [c1, pm_u_s, decide_eq_true e]; rfl
          · rw [pm_u_j _ _ _ c1]; exact hs s (by omega))
        rw [if_pos e']
        exact ⟨⟨trivial, fun q => absurd q c', fun _ => ⟨fun _ => ⟨vy, z.1⟩, fun q => absurd e' q⟩⟩, z.2⟩
      · have e' : ¬ nI y = nI fi := fun q => e ((nI_eq (by omega) (by omega)).mp q)
        have z := ih (y + 1) (pm_u I 321 y (vp_nar .boolean 0)) (by omega) (by omega) (fun a ha => (pm_u_n _ _ _ ha).trans (hf a ha)) (fun s hsy => by
          by_cases c1 : s = y
          · rw [c1, pm_u_s, decide_eq_false e]; rfl
          · rw [pm_u_j _ _ _ c1]; exact hs s (by omega))
        rw [if_neg e']
        exact ⟨⟨trivial, fun q => absurd q c', fun _ => ⟨fun q => absurd q e', fun _ => ⟨vy, z.1⟩⟩⟩, z.2⟩
end
/-- the order holds just the states that can be met -/
theorem bO_in {fi n m : Nat} {nx : Nat → Nat → Nat} {c : Nat} {O : List Nat} {q d : Nat → Nat} (h : bO fi n m nx c O q d) (hm : 0 < m) {g : Se} (hfi : g fi = true) (hc : ∀ s i, s < n → i < m → g s = true → g (nx s i) = true) : ∀ (k j u : Nat), j < k → O[j]? = some u → g u = true := by
  obtain ⟨h0, h1, h2, h3, h4, h5, h6⟩ := h
  intro k
  induction k with
  | zero => intro j u hj; omega
  | succ k ih =>
    intro j u hj hu
    by_cases c : j = 0
    · rw [c, h0] at hu
      injection hu with hu
      rw [← hu]; exact hfi
    · obtain ⟨_, w2, b, w3, w4, _⟩ := h4 j u hu (by omega)
      have hb := ih _ b (by omega) w3
      have bn : b < n := h2 b (List.mem_of_getElem? w3)
      have := hc b (q u % m) bn (Nat.mod_lt _ hm) hb
      rw [w4] at this
      exact this
section
variable {I : Mm} {J : Ml} {B : Nat → Value} {E : List (Nat × Nat)}
theorem k_reach (h : Iv I J B E) : pCh_reachable I J ∧ ∀ E', pMo_reachable 9 257 257 258 257 I B E' ∧ fCh_reachable I J = (fMo_reachable 9 257 257 258 257 I B E').1 ∧ Iv (fMo_reachable 9 257 257 258 257 I B E').2 J B E := by
  have hI := h
  obtain ⟨⟨co, Nm, rb, ib, sp, fi, Hn, D, SS, st, e, w, ⟨a1, a2, a3, a4, a5⟩, ⟨c1, c2, c4, c5, c6, c7, c8, c9⟩, ⟨m1, m3, m4, m5, m6, m7, m8, m9⟩⟩, _⟩ := h
  have n256 := m1.2.1.2.2.1
  have mp : 0 < 2 ^ ib := Nat.two_pow_pos _
  obtain ⟨O, q, d, o1, o2, _⟩ := c2.2.1
  have hA : mA (2 ^ rb) (2 ^ ib) (aN Nm rb ib D) (pm_u I 40 2 0) := by
    refine ⟨?_, ?_, m1.2.1.2.2.1, m1.2.1.2.2.2.1, fun s i hs hi => ?_⟩
    · rw [← m1.2.1.1]; unfold fMo_all; rw [pm_u_j _ _ _ (by decide)]
    · rw [← m1.2.1.2.1]; unfold fMo_allInputs; rw [pm_u_j _ _ _ (by decide)]
    · rw [pm_u_n _ _ _ (show 64 + s ≠ 40 by omega)]; exact m1.2.1.2.2.2.2 s i hs hi
  have fiO : fi ∈ O := List.mem_of_getElem? o1.1
  have hO : ∀ s, s ∈ O → ∀ i, i < 2 ^ ib → aN Nm rb ib D s i ∈ O := fun s hs i hi => by
    obtain ⟨j, hj⟩ := List.getElem?_of_mem hs
    have jl : j < O.length := by obtain ⟨q, _⟩ := List.getElem?_eq_some_iff.mp hj; exact q
    have : j * 2 ^ ib + i < O.length * 2 ^ ib := by
      have : (j + 1) * 2 ^ ib ≤ O.length * 2 ^ ib := Nat.mul_le_mul_right _ jl
      rw [Nat.succ_mul] at this
      omega
    exact (o1.2.2.2.2.2.2 j i s this hi hj).1
  refine ⟨trivial, fun E' => ?_⟩
  have fi1 : cntB (fun s => decide (s = fi)) (2 ^ rb) > 0 := cntB_pos (t := fi) (decide_eq_true rfl) _ a3
  have cn : ∀ g : Se, (∀ s, g s = true → s ∈ O) → g fi = true → (∀ s i, s < 2 ^ rb → i < 2 ^ ib → g s = true → g (aN Nm rb ib D s i) = true) → nI (cntB g (2 ^ rb)) = nI O.length := fun g g3 g4 g5 => by
    rw [← cntB_O O o1.2.1 o1.2.2.1]
    congr 1
    refine cntB_cg _ (fun s _ => ?_)
    cases hg : g s with
    | true => exact (decide_eq_true (g3 s hg)).symm
    | false =>
      refine (decide_eq_false fun hs => ?_).symm
      obtain ⟨j, hj⟩ := List.getElem?_of_mem hs
      rw [bO_in o1 mp g4 g5 (j + 1) j s (Nat.lt_succ_self _) hj] at hg
      cases hg
  have z := r_7 (B := B) (E := E') hA (show pm_u I 40 2 0 40 47 = nI fi by rw [pm_u_j _ _ _ (by decide)]; exact m9) a3 (fun R => R.1 = nI O.length ∧ rFr (pm_u I 40 2 0) R.2) (fun X f1 f2 => r_42 hA hO o1.2.2.1 (fun R => R.1 = nI O.length ∧ rFr (pm_u I 40 2 0) R.2) (fun g Y g1 g2 g3 g4 g5 => ⟨cn g g3 g4 g5, g1⟩) 258 0 1 (fun s => decide (s = fi)) X ⟨f1, f2, fun s hs => by rw [of_decide_eq_true hs]; exact fiO, decide_eq_true rfl, Or.inr ⟨rfl, fi1⟩⟩ (by decide) (fun _ => by omega)) 257 0 (pm_u I 40 2 0) (Nat.zero_le _) (by omega) (fun _ _ => rfl) (fun s hs => absurd hs (Nat.not_lt_zero _))
  have z1 : pMo_reachable 9 257 257 258 257 I B E' := z.1
  have z2 : (fMo_reachable 9 257 257 258 257 I B E').1 = nI O.length ∧ rFr (pm_u I 40 2 0) (fMo_reachable 9 257 257 258 257 I B E').2 := z.2
  refine ⟨z1, ?_, ?_⟩
  · rw [z2.1]; exact o2.1
  · generalize (fMo_reachable 9 257 257 258 257 I B E').2 = Y at z2
    have f : ∀ a, a ≠ 40 → a ≠ 321 → Y a = I a := fun a h1 h2 => (z2.2 a h2).trans (pm_u_n _ _ _ h1)
    have f40 : ∀ j, j ≠ 2 → Y 40 j = I 40 j := fun j hj => by rw [z2.2 40 (by decide), pm_u_j _ _ _ hj]
    obtain ⟨⟨co, Nm, rb, ib, sp, fi, Hn, D, SS, st, e, w, h1⟩, h2, b, L, h3, h4⟩ := hI
    refine ⟨⟨co, Nm, rb, ib, sp, fi, Hn, D, SS, st, e, w, Iw_c h1 (fun a ha => f a (by omega) (by omega)) (fun j hj => f40 j (by omega)) rfl rfl h1.1.2.2.2.1 (by rw [f 0 (by decide) (by decide)]; exact h1.2.1.2.2.2.2.2.2.2) (by rw [f40 46 (by decide)]; exact h1.2.2.2.2.2.2.2.2.1)⟩, ?_, b, L, cBy_c h3 (f 1 (by decide) (by decide)) (f 2 (by decide) (by decide)), by rw [f40 1 (by decide)]; exact h4.1, h4.2.1, fun q hq => by rw [f 41 (by decide) (by decide)]; exact h4.2.2 q hq⟩
    unfold It at h2 ⊢
    rw [f 37 (by decide) (by decide), f 38 (by decide) (by decide), f 39 (by decide) (by decide), f 354 (by decide) (by decide), f 355 (by decide) (by decide), f40 51 (by decide), f40 52 (by decide)]
    exact h2
end
