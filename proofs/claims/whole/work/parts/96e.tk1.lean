/-! TOKENS 1: the TAPE parted, as functions over its bytes -/
def isL (c : Nat) : Bool := (decide (97 ≤ c) && decide (c ≤ 122)) || (decide (65 ≤ c) && decide (c ≤ 90))
def isD (c : Nat) : Bool := decide (48 ≤ c) && decide (c ≤ 57)
def isW (c : Nat) : Bool := isL c || isD c || decide (c = 95)
def skp (b : Nat → Nat) (L : Nat) : Nat → Bool → Nat → Nat
  | 0, _, p => p
  | n + 1, r, p => if L ≤ p then p
    else if r = true then (if b p = 10 then skp b L n false (p + 1) else skp b L n true (p + 1))
    else if b p = 35 then skp b L n true (p + 1)
    else if b p = 32 ∨ b p = 9 ∨ b p = 10 ∨ b p = 13 then skp b L n false (p + 1) else p
def rn (f : Nat → Bool) (b : Nat → Nat) (L : Nat) : Nat → Nat → Nat
  | 0, p => p
  | n + 1, p => if L ≤ p then p else if f (b p) = true then rn f b L n (p + 1) else p
def val (b : Nat → Nat) (p : Nat) : Nat → Nat
  | 0 => 0
  | z + 1 => val b p z * 10 + (b (p + z) - 48)
def eqw (b : Nat → Nat) : Nat → List Nat → Bool
  | _, [] => true
  | p, c :: w => decide (b p = c) && eqw b (p + 1) w
def wkS (b : Nat → Nat) (p z : Nat) : Nat :=
  if z = 1 then (if b p = 65 then 34 else if b p = 69 then 35 else if b p = 85 then 36 else 43)
  else if b p = 65 then (if b (p + 1) = 70 then 39 else if b (p + 1) = 71 then 41 else if b (p + 1) = 88 then 37 else 43)
  else if b p = 69 then (if b (p + 1) = 70 then 40 else if b (p + 1) = 71 then 42 else if b (p + 1) = 88 then 38 else 43)
  else 43
def wkL (b : Nat → Nat) (p z : Nat) : Nat :=
  if z = 3 ∧ eqw b p [114, 101, 103] = true then 29
  else if z = 5 ∧ eqw b p [105, 110, 112, 117, 116] = true then 30
  else if z = 4 ∧ eqw b p [119, 105, 114, 101] = true then 31
  else if z = 4 ∧ eqw b p [110, 101, 120, 116] = true then 32
  else if z = 4 ∧ eqw b p [115, 112, 101, 99] = true then 33
  else 43
def wkind (b : Nat → Nat) (p z : Nat) : Nat := if z ≤ 2 then wkS b p z else wkL b p z
def dbl : List (Nat × Nat) := [(61, 61), (33, 61), (60, 61), (62, 61), (60, 60), (62, 62), (38, 38), (124, 124), (45, 62)]
def sgl : List Nat := [59, 58, 61, 63, 40, 41, 91, 93, 123, 125, 60, 62, 43, 45, 42, 38, 124, 94, 126, 33]
def fd2 (c d : Nat) : List (Nat × Nat) → Nat → Option Nat
  | [], _ => none
  | x :: l, k => if x.1 = c ∧ x.2 = d then some k else fd2 c d l (k + 1)
def fd1 (c : Nat) : List Nat → Nat → Option Nat
  | [], _ => none
  | x :: l, k => if x = c then some k else fd1 c l (k + 1)
def sgn (c d : Nat) : Nat × Nat := match fd2 c d dbl 20 with
  | some k => (k, 2)
  | none => match fd1 c sgl 0 with
    | some k => (k, 1)
    | none => (46, 1)
def tok (b : Nat → Nat) (L i p : Nat) : Nat × Nat :=
  if L ≤ p then (45, 0) else if 4000 ≤ i then (47, 0)
  else if isL (b p) = true then (if rn isW b L 65537 p - p ≤ 31 then wkind b p (rn isW b L 65537 p - p) else 46, rn isW b L 65537 p - p)
  else if isD (b p) = true then (if rn isD b L 65537 p - p ≤ 9 then 44 else 46, rn isD b L 65537 p - p)
  else sgn (b p) (if L ≤ p + 1 then 0 else b (p + 1))
def tP (b : Nat → Nat) (L : Nat) : Nat → Nat
  | 0 => 0
  | i + 1 => skp b L 65537 false (tP b L i) + (tok b L i (skp b L 65537 false (tP b L i))).2
def tF (b : Nat → Nat) (L i : Nat) : Nat := skp b L 65537 false (tP b L i)
def tK (b : Nat → Nat) (L i : Nat) : Nat := (tok b L i (tF b L i)).1
def tZ (b : Nat → Nat) (L i : Nat) : Nat := (tok b L i (tF b L i)).2
def eqr (b : Nat → Nat) (p q : Nat) : Nat → Bool
  | 0 => true
  | z + 1 => eqr b p q z && decide (b (p + z) = b (q + z))
def tB (b : Nat → Nat) (L : Nat) : TB := (tK b L, fun i => val b (tF b L i) (tZ b L i), fun i j => decide (tZ b L i = tZ b L j) && eqr b (tF b L i) (tF b L j) (tZ b L i))
theorem skp_ge (b : Nat → Nat) (L : Nat) : ∀ n r p, p ≤ skp b L n r p := by
  intro n
  induction n with
  | zero => intro r p; exact Nat.le_refl _
  | succ n ih =>
    intro r p
    unfold skp
    have h1 := fun r => ih r (p + 1)
    have a := h1 false
    have c := h1 true
    split
    · exact Nat.le_refl _
    · split
      · split <;> omega
      · split
        · omega
        · split <;> omega
theorem skp_le (b : Nat → Nat) (L : Nat) : ∀ n r p, p ≤ L → skp b L n r p ≤ L := by
  intro n
  induction n with
  | zero => intro r p h; exact h
  | succ n ih =>
    intro r p h
    unfold skp
    split
    · exact h
    · have a := ih false (p + 1) (by omega)
      have c := ih true (p + 1) (by omega)
      split
      · split <;> assumption
      · split
        · exact c
        · split
          · exact a
          · exact h
theorem rn_ge (f : Nat → Bool) (b : Nat → Nat) (L : Nat) : ∀ n p, p ≤ rn f b L n p := by
  intro n
  induction n with
  | zero => intro p; exact Nat.le_refl _
  | succ n ih =>
    intro p
    unfold rn
    have a := ih (p + 1)
    split
    · exact Nat.le_refl _
    · split <;> omega
theorem rn_le (f : Nat → Bool) (b : Nat → Nat) (L : Nat) : ∀ n p, p ≤ L → rn f b L n p ≤ L := by
  intro n
  induction n with
  | zero => intro p h; exact h
  | succ n ih =>
    intro p h
    unfold rn
    split
    · exact h
    · split
      · exact ih (p + 1) (by omega)
      · exact h
theorem rn_in (f : Nat → Bool) (b : Nat → Nat) (L : Nat) : ∀ n p q, p ≤ q → q < rn f b L n p → f (b q) = true := by
  intro n
  induction n with
  | zero => intro p q h1 h2; unfold rn at h2; omega
  | succ n ih =>
    intro p q h1 h2
    unfold rn at h2
    by_cases c : L ≤ p
    · rw [if_pos c] at h2; omega
    · rw [if_neg c] at h2
      by_cases c2 : f (b p) = true
      · rw [if_pos c2] at h2
        by_cases e : q = p
        · rw [e]; exact c2
        · exact ih (p + 1) q (by omega) h2
      · rw [if_neg c2] at h2; omega
theorem rn_1 (f : Nat → Bool) (b : Nat → Nat) (L n p : Nat) (h : p < L) (hf : f (b p) = true) : p < rn f b L (n + 1) p := by
  unfold rn
  rw [if_neg (by omega), if_pos hf]
  exact rn_ge f b L n (p + 1)
theorem fd2_lt {c d : Nat} : ∀ (l : List (Nat × Nat)) (k r : Nat), fd2 c d l k = some r → k ≤ r ∧ r < k + l.length ∧ ∃ x ∈ l, x.2 = d
  | [], _, _, h => by cases h
  | x :: l, k, r, h => by
    unfold fd2 at h
    by_cases hs : x.1 = c ∧ x.2 = d
    · rw [if_pos hs] at h; cases h
      exact ⟨Nat.le_refl _, by simp only [List.length_cons]; omega, x, List.mem_cons_self, hs.2⟩
    · rw [if_neg hs] at h
      obtain ⟨h1, h2, y, hy, h3⟩ := fd2_lt l (k + 1) r h
      exact ⟨by omega, by simp only [List.length_cons]; omega, y, List.mem_cons_of_mem _ hy, h3⟩
theorem fd1_lt {c : Nat} : ∀ (l : List Nat) (k r : Nat), fd1 c l k = some r → k ≤ r ∧ r < k + l.length
  | [], _, _, h => by cases h
  | x :: l, k, r, h => by
    unfold fd1 at h
    by_cases hs : x = c
    · rw [if_pos hs] at h; cases h
      exact ⟨Nat.le_refl _, by simp only [List.length_cons]; omega⟩
    · rw [if_neg hs] at h
      have := fd1_lt l (k + 1) r h
      exact ⟨by omega, by simp only [List.length_cons]; omega⟩
theorem sgn_sz (c d : Nat) : (sgn c d).2 ≤ 2 ∧ 0 < (sgn c d).2 ∧ (sgn c d).1 ≤ 46 ∧ ((sgn c d).2 = 2 → d ≠ 0) ∧ (29 ≤ (sgn c d).1 → (sgn c d).1 = 46) := by
  unfold sgn
  cases h2 : fd2 c d dbl 20 with
  | some k =>
    obtain ⟨h1, h3, y, hy, h4⟩ := fd2_lt dbl 20 k h2
    have hl : dbl.length = 9 := rfl
    have h0 : y.2 ≠ 0 := (show ∀ x ∈ dbl, x.2 ≠ 0 by decide) y hy
    dsimp only
    exact ⟨Nat.le_refl _, by omega, by omega, fun _ => by rw [← h4]; exact h0, fun h => by omega⟩
  | none =>
    cases h1 : fd1 c sgl 0 with
    | some k =>
      have h3 := fd1_lt sgl 0 k h1
      have hl : sgl.length = 20 := rfl
      dsimp only
      exact ⟨by omega, by omega, by omega, fun h => by omega, fun h => by omega⟩
    | none => exact ⟨by decide, by decide, by decide, fun h => absurd h (by decide), fun _ => rfl⟩
theorem wk_le (b : Nat → Nat) (p z : Nat) : 29 ≤ wkind b p z ∧ wkind b p z ≤ 43 := by
  unfold wkind wkS wkL
  repeat' split
  all_goals decide
/-- a token lies within the TAPE -/
theorem tok_in {b : Nat → Nat} {L i p : Nat} (hb : ∀ q, q < L → b q < 256) (hp : p ≤ L) : p + (tok b L i p).2 ≤ L ∧ (tok b L i p).1 < 48 ∧ ((tok b L i p).1 < 45 → 0 < (tok b L i p).2) ∧ ((tok b L i p).1 = 43 → (tok b L i p).2 ≤ 31) ∧ ((tok b L i p).1 = 44 → (tok b L i p).2 ≤ 9 ∧ ∀ k, k < (tok b L i p).2 → isD (b (p + k)) = true) ∧ (4000 ≤ i → 45 ≤ (tok b L i p).1) := by
  unfold tok
  by_cases c : L ≤ p
  · rw [if_pos c]; exact ⟨by omega, by decide, fun h => absurd h (by decide), fun h => absurd h (by decide), fun h => absurd h (by decide), fun _ => by decide⟩
  rw [if_neg c]
  by_cases ci : 4000 ≤ i
  · rw [if_pos ci]; exact ⟨by omega, by decide, fun h => absurd h (by decide), fun h => absurd h (by decide), fun h => absurd h (by decide), fun _ => by decide⟩
  rw [if_neg ci]
  by_cases cl : isL (b p) = true
  · rw [if_pos cl]
    have hw : isW (b p) = true := by unfold isW; rw [cl]; rfl
    have g1 := rn_1 isW b L 65536 p (by omega) hw
    have g2 := rn_le isW b L 65537 p hp
    have g3 := wk_le b p (rn isW b L 65537 p - p)
    generalize rn isW b L 65537 p = e at g1 g2 g3
    dsimp only
    by_cases cz : e - p ≤ 31
    · rw [if_pos cz]; exact ⟨by omega, by omega, fun _ => by omega, fun _ => cz, fun h => by omega, fun h => absurd h ci⟩
    · rw [if_neg cz]; exact ⟨by omega, by decide, fun h => absurd h (by decide), fun h => absurd h (by decide), fun h => absurd h (by decide), fun h => absurd h ci⟩
  rw [if_neg cl]
  by_cases cd : isD (b p) = true
  · rw [if_pos cd]
    have g1 := rn_1 isD b L 65536 p (by omega) cd
    have g2 := rn_le isD b L 65537 p hp
    have g3 := rn_in isD b L 65537 p
    generalize rn isD b L 65537 p = e at g1 g2 g3
    dsimp only
    by_cases cz : e - p ≤ 9
    · rw [if_pos cz]; exact ⟨by omega, by decide, fun _ => by omega, fun h => absurd h (by decide), fun _ => ⟨cz, fun k hk => g3 (p + k) (by omega) (by omega)⟩, fun h => absurd h ci⟩
    · rw [if_neg cz]; exact ⟨by omega, by decide, fun h => absurd h (by decide), fun h => absurd h (by decide), fun h => absurd h (by decide), fun h => absurd h ci⟩
  rw [if_neg cd]
  have s := sgn_sz (b p) (if L ≤ p + 1 then 0 else b (p + 1))
  refine ⟨?_, by omega, fun _ => s.2.1, fun h => by omega, fun h => by omega, fun h => absurd h ci⟩
  by_cases c1 : L ≤ p + 1
  · rw [if_pos c1] at s ⊢
    rcases Nat.lt_or_ge (sgn (b p) 0).2 2 with q | q
    · omega
    · exact absurd rfl (s.2.2.2.1 (by omega))
  · omega
theorem tP_le {b : Nat → Nat} {L : Nat} (hb : ∀ q, q < L → b q < 256) : ∀ i, tP b L i ≤ L
  | 0 => Nat.zero_le _
  | i + 1 => by
    unfold tP
    exact (tok_in (i := i) hb (skp_le b L _ _ _ (tP_le hb i))).1
theorem tF_le {b : Nat → Nat} {L : Nat} (hb : ∀ q, q < L → b q < 256) (i : Nat) : tF b L i ≤ L := skp_le b L _ _ _ (tP_le hb i)
theorem tP_s (b : Nat → Nat) (L i : Nat) : tP b L (i + 1) = tF b L i + tZ b L i := rfl
/-- the number of tokens -/
theorem tn_ex {b : Nat → Nat} {L : Nat} (hb : ∀ q, q < L → b q < 256) : ∃ n, bE (tB b L) n := by
  have h4 : 45 ≤ tK b L 4000 := (tok_in (i := 4000) hb (tF_le hb 4000)).2.2.2.2.2 (Nat.le_refl _)
  have key : ∀ m, m ≤ 4000 → (∀ i, i + m < 4000 → tK b L i < 45) → ∃ n, bE (tB b L) n := by
    intro m
    induction m with
    | zero =>
      intro _ h
      exact ⟨4001, by decide, by decide, fun i hi => (tok_in (i := i) hb (tF_le hb i)).2.1, fun i hi => h i (by omega), h4⟩
    | succ m ih =>
      intro hm h
      by_cases c : tK b L (4000 - (m + 1)) < 45
      · refine ih (by omega) (fun i hi => ?_)
        by_cases e : i = 4000 - (m + 1)
        · rw [e]; exact c
        · exact h i (by omega)
      · refine ⟨4000 - (m + 1) + 1, by omega, by omega, fun i hi => (tok_in (i := i) hb (tF_le hb i)).2.1, fun i hi => h i (by omega), ?_⟩
        show 45 ≤ tK b L (4000 - (m + 1) + 1 - 1)
        rw [Nat.add_sub_cancel]; omega
  exact key 4000 (Nat.le_refl _) (fun i hi => by omega)
/-- a signed byte -/
def sb (c : Nat) : Int32 := if c < 128 then nI c else nI c - 256
theorem sb_and : ∀ c, c < 256 → sb c &&& (255 : Int32) = nI c := by decide +kernel
theorem sb_inj {c d : Nat} (hc : c < 256) (hd : d < 256) : sb c = sb d ↔ c = d := by
  constructor
  · intro h
    have h2 := congrArg (fun x : Int32 => x &&& (255 : Int32)) h
    rw [sb_and c hc, sb_and d hd] at h2
    exact (nI_eq (by omega) (by omega)).mp h2
  · intro h; rw [h]
theorem cLet : ∀ c, c < 256 → fTk_isLetter (nI c) = (if isL c = true then 1 else 0) ∧ fTk_isDigit (nI c) = (if isD c = true then 1 else 0) ∧ fTk_isOfWord (nI c) = (if isW c = true then 1 else 0) := by decide +kernel
theorem mLet : ∀ c, c < 256 → fMo_letter (sb c) = (if isL c = true then 1 else 0) ∧ fMo_digit (sb c) = (if isD c = true then 1 else 0) := by decide +kernel
