/-! CLASS'S SETS 1: bits -/
def sB (J : Ml) (t s : Nat) : Bool := (J 34 (t + s / 64)).toBitVec.getLsbD (s % 64)
theorem u64 : ∀ m, m < 64 → (((nI m).toInt64.toUInt64 &&& Int64.toUInt64 63).toBitVec % 64).toNat = m ∧ (((nI m).toInt64 &&& 63).toBitVec.smod 64).toNat = m := by decide +kernel
theorem cmp0 (x : Int64) : lg_cmp x 0 = 0 ↔ x = 0 := by
  unfold lg_cmp
  by_cases c : x > 0
  · rw [if_pos c]
    constructor
    · intro h; exact absurd h (by decide)
    · intro h; rw [h] at c; exact absurd c (by decide)
  · rw [if_neg c]
    by_cases d : x = 0
    · rw [if_pos d]; exact ⟨fun _ => d, fun _ => rfl⟩
    · rw [if_neg d]
      exact ⟨fun h => absurd h (by decide), fun h => absurd h d⟩
theorem bit_and1 (x : Int64) {m : Nat} (hm : m < 64) : ((x.toUInt64 >>> ((nI m).toInt64.toUInt64 &&& Int64.toUInt64 63)).toInt64 &&& (1 : Int64)) = 0 ↔ x.toBitVec.getLsbD m = false := by
  have e : ((x.toUInt64 >>> ((nI m).toInt64.toUInt64 &&& Int64.toUInt64 63)).toInt64).toBitVec = x.toBitVec >>> m := by
    rw [UInt64.toBitVec_toInt64, UInt64.toBitVec_shiftRight, Int64.toBitVec_toUInt64, BitVec.ushiftRight_eq', (u64 m hm).1]
  rw [← Int64.toBitVec_inj, Int64.toBitVec_and, e]
  have z : (0 : Int64).toBitVec = 0#64 := rfl
  have o : (1 : Int64).toBitVec = 1#64 := rfl
  rw [z, o]
  constructor
  · intro h
    have := congrArg (fun v => v.getLsbD 0) h
    simp at this
    simpa using this
  · intro h
    apply BitVec.eq_of_getLsbD_eq
    intro i hi
    rw [BitVec.getLsbD_and, BitVec.getLsbD_ushiftRight, BitVec.getLsbD_zero]
    by_cases c : i = 0
    · rw [c, Nat.add_zero, h]; rfl
    · have : (1#64).getLsbD i = false := by
        rw [BitVec.getLsbD_one]; simp [c]
      rw [this, Bool.and_false]
def kF (t : Nat) (J J' : Ml) : Prop := (∀ a, a ≠ 34 → J' a = J a) ∧ ∀ j, (j < t ∨ t + 4 ≤ j) → J' 34 j = J 34 j
theorem kF_r (t : Nat) (J : Ml) : kF t J J := ⟨fun _ _ => rfl, fun _ _ => rfl⟩
theorem kF_t {t : Nat} {J J' J'' : Ml} (h : kF t J J') (h' : kF t J' J'') : kF t J J'' := ⟨fun a ha => (h'.1 a ha).trans (h.1 a ha), fun j hj => (h'.2 j hj).trans (h.2 j hj)⟩
theorem kF_b {t : Nat} {J J' : Ml} (h : kF t J J') {t' s : Nat} (ht : t' + 4 ≤ t ∨ t + 4 ≤ t') (hs : s < 256) : sB J' t' s = sB J t' s := by
  unfold sB
  rw [h.2 _ (by omega)]
section
variable {I : Mm} {J : Ml}
theorem cm_has {t s : Nat} (ht : t + 4 ≤ 624) (hs : s < 256) : pCm_has (nI t) (nI s) I J ∧ fCm_has (nI t) (nI s) I J = if sB J t s = true then 1 else 0 := by
  have e1 : nI s >>> ((6 : Int32) &&& 31) = nI (s / 2 ^ 6) := pk_shrN (by omega) _ 6 (by decide)
  have e2 : nI s &&& (63 : Int32) = nI (s % 2 ^ 6) := pk_andN (by omega) 6 (by decide)
  have b := bit_and1 (J 34 (t + s / 2 ^ 6)) (Nat.mod_lt s (show 0 < 2 ^ 6 by decide))
  unfold pCm_has fCm_has
  rw [e1, e2, nI_add, nI_clamp (by omega)]
  refine ⟨⟨vp_in_nI (by omega) (by decide), fun _ => trivial, fun _ => trivial⟩, ?_⟩
  by_cases c : sB J t s = true
  · rw [if_pos c]
    refine if_neg (fun h => ?_)
    have h2 : (J 34 (t + s / 2 ^ 6)).toBitVec.getLsbD (s % 2 ^ 6) = false := b.mp ((cmp0 _).mp h)
    have h3 : (J 34 (t + s / 64)).toBitVec.getLsbD (s % 64) = true := c
    rw [show (2 : Nat) ^ 6 = 64 by decide] at h2
    rw [h2] at h3
    exact absurd h3 (by decide)
  · rw [if_neg c]
    refine if_pos ((cmp0 _).mpr (b.mpr ?_))
    have : sB J t s = false := by simpa using c
    exact this
theorem cm_put {t s : Nat} (ht : t + 4 ≤ 624) (hs : s < 256) : pCm_put (nI t) (nI s) I J ∧ kF t J (fCm_put (nI t) (nI s) I J) ∧ ∀ r, r < 256 → sB (fCm_put (nI t) (nI s) I J) t r = (sB J t r || decide (r = s)) := by
  have e1 : nI s >>> ((6 : Int32) &&& 31) = nI (s / 2 ^ 6) := pk_shrN (by omega) _ 6 (by decide)
  have e2 : nI s &&& (63 : Int32) = nI (s % 2 ^ 6) := pk_andN (by omega) 6 (by decide)
  have q6 : s % 2 ^ 6 < 64 := Nat.mod_lt s (show 0 < 2 ^ 6 by decide)
  unfold pCm_put fCm_put
  rw [e1, e2, nI_add, nI_clamp (by omega)]
  have vv : vp_in (nI (t + s / 2 ^ 6)) 624 := vp_in_nI (by omega) (by decide)
  refine ⟨⟨vv, vv, trivial⟩, ⟨fun a ha => pm_u_n _ _ _ ha, fun j hj => pm_u_j _ _ _ (by omega)⟩, fun r hr => ?_⟩
  have eb : (((1 : Int64) <<< ((nI (s % 2 ^ 6)).toInt64 &&& 63))).toBitVec = 1#64 <<< (s % 2 ^ 6) := by
    rw [Int64.toBitVec_shiftLeft, BitVec.shiftLeft_eq', (u64 _ q6).2]; rfl
  unfold sB
  by_cases c : r / 64 = s / 64
  · rw [show t + r / 64 = t + s / 2 ^ 6 by omega, pm_u_s, Int64.toBitVec_or, BitVec.getLsbD_or, eb, BitVec.getLsbD_shiftLeft, BitVec.getLsbD_one]
    have q7 : r % 64 < 64 := Nat.mod_lt _ (by decide)
    by_cases d : r = s
    · subst d
      simp [q7]
    · have : r % 64 ≠ s % 64 := fun h => d (by omega)
      by_cases g : r % 64 < s % 64
      · simp [g, d]
      · have : ¬ (r % 64 - s % 64 = 0) := by omega
        simp [this, d]
  · rw [pm_u_j _ _ _ (by omega)]
    have d : ¬ r = s := fun h => c (by rw [h])
    simp [d]
end
/-- four longs are written -/
theorem sB4 {J' : Ml} {t : Nat} {g : Nat → Int64} (h : ∀ i, i < 4 → J' 34 (t + i) = g i) {s : Nat} (hs : s < 256) : sB J' t s = (g (s / 64)).toBitVec.getLsbD (s % 64) := by
  unfold sB
  rw [h _ (by omega)]
section
variable {I : Mm}
theorem cm_empty {t : Nat} (ht : t + 4 ≤ 624) (J : Ml) : pCm_empty 5 (nI t) I J ∧ kF t J (fCm_empty 5 (nI t) I J) ∧ ∀ s, s < 256 → sB (fCm_empty 5 (nI t) I J) t s = false := by
  have lp : ∀ (n i : Nat) (J : Ml), i ≤ 4 → 4 - i < n → pCm_empty_2 n (nI t) (nI i) I J ∧ ∃ J', fCm_empty_2 n (nI t) (nI i) I J = J' ∧ kF t J J' ∧ (∀ j, j < i → J' 34 (t + j) = J 34 (t + j)) ∧ ∀ j, i ≤ j → j < 4 → J' 34 (t + j) = 0 := by
    intro n
    induction n with
    | zero => intro i J _ h; omega
    | succ n ih =>
      intro i J hi hn
      rw [pCm_empty_2.eq_2, fCm_empty_2.eq_2]
      by_cases c : 4 ≤ i
      · have c' : (4 : Int32) ≤ nI i := nI_le (a := 4) c (by omega)
        rw [if_pos c']
        exact ⟨⟨fun _ => trivial, fun q => absurd c' q⟩, J, rfl, kF_r _ _, fun _ _ => rfl, fun j h1 h2 => by omega⟩
      · have c' : ¬ (4 : Int32) ≤ nI i := nI_ge (b := 4) (by omega) (by decide)
        rw [if_neg c', nI_add, nI_clamp (by omega), nI_i1]
        obtain ⟨z1, J', z2, z3, z4, z5⟩ := ih (i + 1) (pm_u J 34 (t + i) 0) (by omega) (by omega)
        refine ⟨⟨fun q => absurd q c', fun _ => ⟨vp_in_nI (by omega) (by decide), z1⟩⟩, J', z2, ⟨fun a ha => by rw [z3.1 a ha, pm_u_n _ _ _ ha], fun j hj => by rw [z3.2 j hj, pm_u_j _ _ _ (by omega)]⟩, fun j hj => by rw [z4 j (by omega), pm_u_j _ _ _ (by omega)], fun j h1 h2 => ?_⟩
        by_cases cj : j = i
        · rw [cj, z4 i (by omega), pm_u_s]
        · exact z5 j (by omega) h2
  obtain ⟨z1, J', z2, z3, z4, z5⟩ := lp 5 0 J (by omega) (by omega)
  have z2' : fCm_empty 5 (nI t) I J = J' := z2
  rw [z2']
  refine ⟨z1, z3, fun s hs => ?_⟩
  rw [sB4 (g := fun _ => 0) (fun i hi => z5 i (Nat.zero_le _) hi) hs]
  exact BitVec.getLsbD_zero
theorem cm_turn {t : Nat} (ht : t + 4 ≤ 624) (hd : 124 ≤ t) (J : Ml) : pCm_turn 5 (nI t) I J ∧ kF t J (fCm_turn 5 (nI t) I J) ∧ ∀ s, s < 256 → sB (fCm_turn 5 (nI t) I J) t s = (sB J t s ^^ sB J 120 s) := by
  have lp : ∀ (n i : Nat) (J : Ml), i ≤ 4 → 4 - i < n → pCm_turn_2 n (nI t) (nI i) I J ∧ ∃ J', fCm_turn_2 n (nI t) (nI i) I J = J' ∧ kF t J J' ∧ (∀ j, j < i → J' 34 (t + j) = J 34 (t + j)) ∧ ∀ j, i ≤ j → j < 4 → J' 34 (t + j) = J 34 (t + j) ^^^ J 34 (120 + j) := by
    intro n
    induction n with
    | zero => intro i J _ h; omega
    | succ n ih =>
      intro i J hi hn
      rw [pCm_turn_2.eq_2, fCm_turn_2.eq_2]
      by_cases c : 4 ≤ i
      · have c' : (4 : Int32) ≤ nI i := nI_le (a := 4) c (by omega)
        rw [if_pos c']
        exact ⟨⟨fun _ => trivial, fun q => absurd c' q⟩, J, rfl, kF_r _ _, fun _ _ => rfl, fun j h1 h2 => by omega⟩
      · have c' : ¬ (4 : Int32) ≤ nI i := nI_ge (b := 4) (by omega) (by decide)
        have e2 : (120 : Int32) + nI i = nI (120 + i) := nI_add 120 i
        rw [if_neg c', nI_add, e2, nI_clamp (n := t + i) (by omega), nI_clamp (n := 120 + i) (by omega), nI_i1]
        obtain ⟨z1, J', z2, z3, z4, z5⟩ := ih (i + 1) (pm_u J 34 (t + i) (J 34 (t + i) ^^^ J 34 (120 + i))) (by omega) (by omega)
        refine ⟨⟨fun q => absurd q c', fun _ => ⟨vp_in_nI (by omega) (by decide), vp_in_nI (by omega) (by decide), vp_in_nI (by omega) (by decide), z1⟩⟩, J', z2, ⟨fun a ha => by rw [z3.1 a ha, pm_u_n _ _ _ ha], fun j hj => by rw [z3.2 j hj, pm_u_j _ _ _ (by omega)]⟩, fun j hj => by rw [z4 j (by omega), pm_u_j _ _ _ (by omega)], fun j h1 h2 => ?_⟩
        by_cases cj : j = i
        · rw [cj, z4 i (by omega), pm_u_s]
        · rw [z5 j (by omega) h2, pm_u_j _ _ _ (by omega), pm_u_j _ _ _ (by omega)]
  obtain ⟨z1, J', z2, z3, z4, z5⟩ := lp 5 0 J (by omega) (by omega)
  have z2' : fCm_turn 5 (nI t) I J = J' := z2
  rw [z2']
  refine ⟨z1, z3, fun s hs => ?_⟩
  rw [sB4 (g := fun i => J 34 (t + i) ^^^ J 34 (120 + i)) (fun i hi => z5 i (Nat.zero_le _) hi) hs]
  try dsimp only
  rw [Int64.toBitVec_xor, BitVec.getLsbD_xor]; rfl
def jnB (o : Nat) (a b e : Bool) : Bool := if o = 54 then a && b else if o = 55 then a || b else (e && !a) || b
theorem cm_copy {a t : Nat} (ha : a + 4 ≤ 624) (ht : t + 4 ≤ 624) (J : Ml) : pCm_copy (nI a) (nI t) I J ∧ kF t J (fCm_copy (nI a) (nI t) I J) ∧ ∀ s, s < 256 → sB (fCm_copy (nI a) (nI t) I J) t s = sB J a s := by
  have e4 : (4 : Int32).toNatClampNeg = 4 := by decide
  unfold pCm_copy fCm_copy
  rw [nI_clamp (n := a) (by omega), nI_clamp (n := t) (by omega), e4]
  refine ⟨⟨⟨nI_pos (by omega), nI_pos (by omega), by decide, ha, ht⟩, trivial⟩, ⟨fun x hx => if_neg hx, fun j hj => ?_⟩, fun s hs => ?_⟩
  · unfold pm_cpJ; rw [if_pos rfl, pk_cpy_out (by omega)]
  · unfold sB pm_cpJ
    rw [if_pos rfl, pk_cpy_in (by omega) (by omega), show a + (t + s / 64 - t) = a + s / 64 by omega]
end
