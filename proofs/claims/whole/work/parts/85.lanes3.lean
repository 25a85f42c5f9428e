/-! eight values side by side in a long: lane k -/
def ln (x : Int64) (k : Nat) : BitVec 8 := x.toBitVec.extractLsb' (8 * k) 8
theorem two8 : (2 : Nat) ^ 8 = 256 := by decide
theorem ln_nat (x : Int64) (k : Nat) : (ln x k).toNat = x.toBitVec.toNat / 256 ^ k % 256 := by
  unfold ln
  rw [BitVec.extractLsb'_toNat, Nat.shiftRight_eq_div_pow, Nat.pow_mul, two8]
theorem ln_and (a b : Int64) (k : Nat) : ln (a &&& b) k = ln a k &&& ln b k := by
  unfold ln
  rw [Int64.toBitVec_and, BitVec.extractLsb'_and]
theorem ln_or (a b : Int64) (k : Nat) : ln (a ||| b) k = ln a k ||| ln b k := by
  unfold ln
  rw [Int64.toBitVec_or, BitVec.extractLsb'_or]
theorem ln_xor (a b : Int64) (k : Nat) : ln (a ^^^ b) k = ln a k ^^^ ln b k := by
  unfold ln
  rw [Int64.toBitVec_xor, BitVec.extractLsb'_xor]
theorem ln_bit (x : Int64) (k : Nat) {i : Nat} (h : i < 8) : (ln x k).getLsbD i = x.toBitVec.getLsbD (8 * k + i) := by
  unfold ln
  rw [BitVec.getLsbD_extractLsb', decide_eq_true h, Bool.true_and]
theorem ln_lo : ∀ k, k < 8 → ln 9187201950435737471 k = 127#8 := by decide +kernel
theorem ln_hi : ∀ k, k < 8 → ln (-9187201950435737472) k = 128#8 := by decide +kernel
theorem ln_one : ∀ k, k < 8 → ln 72340172838076673 k = 1#8 := by decide +kernel
theorem ln_all1 : ∀ k, k < 8 → ln (-1) k = 255#8 := by decide +kernel
theorem ln_zero : ∀ k, k < 8 → ln 0 k = 0#8 := by decide +kernel
/-! sums of digits to the base 256 -/
theorem dg_mod (X k : Nat) : X % 256 ^ (k + 1) = X % 256 ^ k + 256 ^ k * (X / 256 ^ k % 256) := by rw [Nat.pow_succ, Nat.mod_mul]
theorem dg_pos (k : Nat) : 0 < 256 ^ k := Nat.pow_pos (by decide)
theorem dg_add {X Y : Nat} (h : ∀ k, k < 8 → X / 256 ^ k % 256 + Y / 256 ^ k % 256 < 256) : ∀ k, k ≤ 8 → X % 256 ^ k + Y % 256 ^ k < 256 ^ k
  | 0, _ => by simp [Nat.mod_one]
  | k + 1, hk => by
    have ih := dg_add h k (by omega)
    have h2 := h k (by omega)
    have h3 : 256 ^ k * (X / 256 ^ k % 256) + 256 ^ k * (Y / 256 ^ k % 256) ≤ 256 ^ k * 255 := by
      rw [← Nat.mul_add]
      exact Nat.mul_le_mul_left _ (by omega)
    rw [dg_mod, dg_mod, Nat.pow_succ]
    generalize 256 ^ k * (X / 256 ^ k % 256) = A at h3 ⊢
    generalize 256 ^ k * (Y / 256 ^ k % 256) = B at h3 ⊢
    generalize X % 256 ^ k = C at ih ⊢
    generalize Y % 256 ^ k = D at ih ⊢
    generalize 256 ^ k = P at h3 ih ⊢
    omega
theorem dg_div {X Y P : Nat} (hp : 0 < P) (h : X % P + Y % P < P) : (X + Y) / P = X / P + Y / P := by
  have hx := Nat.div_add_mod X P
  have hy := Nat.div_add_mod Y P
  have e : X + Y = P * (X / P + Y / P) + (X % P + Y % P) := by
    rw [Nat.mul_add]
    generalize P * (X / P) = A at hx ⊢
    generalize P * (Y / P) = B at hy ⊢
    generalize X % P = C at hx ⊢
    generalize Y % P = D at hy ⊢
    omega
  generalize X / P = qx at e ⊢
  generalize Y / P = qy at e ⊢
  rw [e, Nat.mul_add_div hp, Nat.div_eq_of_lt h, Nat.add_zero]
theorem dg_sub {X Y : Nat} (h : ∀ k, k < 8 → Y / 256 ^ k % 256 ≤ X / 256 ^ k % 256) : ∀ k, k ≤ 8 → Y % 256 ^ k ≤ X % 256 ^ k
  | 0, _ => by simp [Nat.mod_one]
  | k + 1, hk => by
    have ih := dg_sub h k (by omega)
    rw [dg_mod, dg_mod]
    exact Nat.add_le_add ih (Nat.mul_le_mul_left _ (h k (by omega)))
theorem dg_sdiv {X Y P : Nat} (hp : 0 < P) (hle : Y ≤ X) (h : Y % P ≤ X % P) : (X - Y) / P = X / P - Y / P := by
  have hd : Y / P ≤ X / P := Nat.div_le_div_right hle
  have hx := Nat.div_add_mod X P
  have hy := Nat.div_add_mod Y P
  have hm := Nat.mod_lt X hp
  obtain ⟨q, hq⟩ := Nat.exists_eq_add_of_le hd
  rw [hq, Nat.mul_add] at hx
  have e : X - Y = P * q + (X % P - Y % P) := by
    generalize P * (Y / P) = A at hx hy
    generalize P * q = B at hx ⊢
    generalize X % P = C at hx h ⊢
    generalize Y % P = D at hy h ⊢
    omega
  have hlt : X % P - Y % P < P := by omega
  rw [hq]
  generalize X % P - Y % P = r at e hlt
  rw [e, Nat.mul_add_div hp, Nat.div_eq_of_lt hlt]
  omega
theorem dg_mul {c X : Nat} (h : ∀ k, k < 8 → c * (X / 256 ^ k % 256) ≤ 255) : ∀ k, k ≤ 8 → c * (X % 256 ^ k) < 256 ^ k
  | 0, _ => by simp [Nat.mod_one]
  | k + 1, hk => by
    have ih := dg_mul h k (by omega)
    have h3 : 256 ^ k * (c * (X / 256 ^ k % 256)) ≤ 256 ^ k * 255 := Nat.mul_le_mul_left _ (h k (by omega))
    rw [dg_mod, Nat.mul_add, Nat.pow_succ, Nat.mul_left_comm]
    generalize 256 ^ k * (c * (X / 256 ^ k % 256)) = A at h3 ⊢
    generalize c * (X % 256 ^ k) = C at ih ⊢
    generalize 256 ^ k = P at h3 ih ⊢
    omega
theorem dg_mulk {c X : Nat} (h : ∀ k, k < 8 → c * (X / 256 ^ k % 256) ≤ 255) {k : Nat} (hk : k < 8) : (c * X) / 256 ^ k % 256 = c * (X / 256 ^ k % 256) := by
  have h1 := dg_mul h k (Nat.le_of_lt hk)
  have h2 := h k hk
  have e : c * X = 256 ^ k * (c * (X / 256 ^ k)) + c * (X % 256 ^ k) := by
    have hx := Nat.div_add_mod X (256 ^ k)
    conv => lhs; rw [← hx]
    rw [Nat.mul_add, Nat.mul_left_comm]
  rw [e, Nat.mul_add_div (dg_pos k), Nat.div_eq_of_lt h1, Nat.add_zero]
  have e2 := Nat.div_add_mod (X / 256 ^ k) 256
  conv => lhs; rw [← e2]
  rw [Nat.mul_add, Nat.mul_left_comm, Nat.mul_add_mod, Nat.mod_eq_of_lt (Nat.lt_succ_of_le h2)]
theorem ln_add {a b : Int64} (h : ∀ k, k < 8 → (ln a k).toNat + (ln b k).toNat < 256) {k : Nat} (hk : k < 8) : ln (a + b) k = ln a k + ln b k := by
  apply BitVec.eq_of_toNat_eq
  rw [BitVec.toNat_add, ln_nat, Int64.toBitVec_add, BitVec.toNat_add, two8]
  simp only [ln_nat] at h ⊢
  have h8 := dg_add h 8 (Nat.le_refl _)
  have hk3 := dg_add h k (Nat.le_of_lt hk)
  have ha := a.toBitVec.isLt
  have hb := b.toBitVec.isLt
  generalize a.toBitVec.toNat = A at *
  generalize b.toBitVec.toNat = B at *
  rw [show (256 : Nat) ^ 8 = 2 ^ 64 by decide, Nat.mod_eq_of_lt ha, Nat.mod_eq_of_lt hb] at h8
  rw [Nat.mod_eq_of_lt h8, dg_div (dg_pos k) hk3, ← Nat.add_mod]
theorem ln_sub {a b : Int64} (h : ∀ k, k < 8 → (ln b k).toNat ≤ (ln a k).toNat) {k : Nat} (hk : k < 8) : ln (a - b) k = ln a k - ln b k := by
  apply BitVec.eq_of_toNat_eq
  rw [BitVec.toNat_sub, ln_nat, Int64.toBitVec_sub, BitVec.toNat_sub, two8]
  simp only [ln_nat] at h ⊢
  have h8 := dg_sub h 8 (Nat.le_refl _)
  have hk2 := h k hk
  have hk3 := dg_sub h k (Nat.le_of_lt hk)
  have ha := a.toBitVec.isLt
  have hb := b.toBitVec.isLt
  generalize a.toBitVec.toNat = A at *
  generalize b.toBitVec.toNat = B at *
  rw [show (256 : Nat) ^ 8 = 2 ^ 64 by decide, Nat.mod_eq_of_lt ha, Nat.mod_eq_of_lt hb] at h8
  rw [show 2 ^ 64 - B + A = (A - B) + 2 ^ 64 by omega, Nat.add_mod_right, Nat.mod_eq_of_lt (show A - B < 2 ^ 64 by omega), dg_sdiv (dg_pos k) h8 hk3]
  have hd : B / 256 ^ k ≤ A / 256 ^ k := Nat.div_le_div_right h8
  generalize A / 256 ^ k = U at *
  generalize B / 256 ^ k = V at *
  omega
theorem i64n : ∀ n, n < 256 → (nI n).toInt64.toBitVec.toNat = n := by decide +kernel
theorem o64n : ∀ k, k < 8 → 72340172838076673 / 256 ^ k % 256 = 1 := by decide +kernel
theorem ln_all {n : Nat} (hn : n < 256) {k : Nat} (hk : k < 8) : ln (fLa_all (nI n)) k = BitVec.ofNat 8 n := by
  apply BitVec.eq_of_toNat_eq
  unfold fLa_all
  rw [ln_nat, Int64.toBitVec_mul, BitVec.toNat_mul, i64n n hn, show (72340172838076673 : Int64).toBitVec.toNat = 72340172838076673 by decide +kernel, BitVec.toNat_ofNat, two8, Nat.mod_eq_of_lt (show 72340172838076673 * n < 2 ^ 64 by omega), Nat.mul_comm, dg_mulk (fun k hk => by rw [o64n k hk]; omega) hk, o64n k hk, Nat.mul_one, Nat.mod_eq_of_lt hn]
/-! a mask of each lane that is 1 -/
theorem ln_mask {o : Int64} (h : ∀ k, k < 8 → (ln o k).toNat ≤ 1) {k : Nat} (hk : k < 8) : ln ((o <<< ((((8 : Int32) : Int32)).toInt64 &&& 63)) - o) k = if ln o k = 0#8 then 0#8 else 255#8 := by
  have e : (o <<< ((((8 : Int32) : Int32)).toInt64 &&& 63)).toBitVec = o.toBitVec <<< (8 : Nat) := rfl
  have hk2 := h k hk
  have h255 : (ln ((o <<< ((((8 : Int32) : Int32)).toInt64 &&& 63)) - o) k).toNat = 255 * (ln o k).toNat := by
    rw [ln_nat, Int64.toBitVec_sub, BitVec.toNat_sub, e, BitVec.toNat_shiftLeft, Nat.shiftLeft_eq, two8, ln_nat]
    simp only [ln_nat] at h
    have hm : ∀ k, k < 8 → 255 * (o.toBitVec.toNat / 256 ^ k % 256) ≤ 255 := fun k hk => by have := h k hk; omega
    have h8 := dg_mul hm 8 (Nat.le_refl _)
    have ho := o.toBitVec.isLt
    have hr := dg_mulk hm hk
    generalize o.toBitVec.toNat = O at *
    rw [show (256 : Nat) ^ 8 = 2 ^ 64 by decide, Nat.mod_eq_of_lt ho] at h8
    rw [show (2 ^ 64 - O + O * 256 % 2 ^ 64) % 2 ^ 64 = 255 * O by omega]
    exact hr
  by_cases h0 : ln o k = 0#8
  · rw [if_pos h0]
    apply BitVec.eq_of_toNat_eq
    rw [h255, h0]
    decide
  · rw [if_neg h0]
    apply BitVec.eq_of_toNat_eq
    have h1 : (ln o k).toNat = 1 := by
      have : (ln o k).toNat ≠ 0 := fun q => h0 (BitVec.eq_of_toNat_eq q)
      omega
    rw [h255, h1]
    decide
theorem b8_1 : ∀ x : BitVec 8, x &&& 0#8 = 0#8 ∧ 0#8 ||| x = x ∧ x ||| 0#8 = x ∧ x &&& (0#8 ^^^ 255#8) = x ∧ x &&& 255#8 = x ∧ x &&& (255#8 ^^^ 255#8) = 0#8 := by decide +kernel
theorem ln_pick {o : Int64} (h : ∀ k, k < 8 → (ln o k).toNat ≤ 1) (a b : Int64) {k : Nat} (hk : k < 8) : ln (fLa_pick o a b) k = if ln o k = 0#8 then ln b k else ln a k := by
  unfold fLa_pick
  rw [ln_or, ln_and, ln_and, ln_xor, ln_mask h hk, ln_all1 k hk]
  by_cases h0 : ln o k = 0#8
  · rw [if_pos h0, if_pos h0, (b8_1 _).1, (b8_1 (ln b k)).2.2.2.1, (b8_1 _).2.1]
  · rw [if_neg h0, if_neg h0, (b8_1 _).2.2.2.2.1, (b8_1 (ln b k)).2.2.2.2.2, (b8_1 _).2.2.1]
/-! bits that move -/
theorem ub : ∀ b, b < 8 → ((nI b).toInt64.toUInt64 &&& Int64.toUInt64 63).toBitVec.toNat = b ∧ (((nI b).toInt64.toUInt64 &&& Int64.toUInt64 63).toBitVec % 64).toNat = b ∧ (((nI b).toInt64 &&& 63).toBitVec.smod 64).toNat = b := by decide +kernel
theorem shr_b (x : Int64) {b : Nat} (h : b < 8) : ((x.toUInt64 >>> ((nI b).toInt64.toUInt64 &&& Int64.toUInt64 63)).toInt64).toBitVec = x.toBitVec >>> b := by
  rw [UInt64.toBitVec_toInt64, UInt64.toBitVec_shiftRight, Int64.toBitVec_toUInt64, BitVec.ushiftRight_eq', (ub b h).2.1]
theorem shl_b (x : Int64) {b : Nat} (h : b < 8) : (x <<< ((nI b).toInt64 &&& 63)).toBitVec = x.toBitVec <<< b := by
  rw [Int64.toBitVec_shiftLeft, BitVec.shiftLeft_eq', (ub b h).2.2]
theorem one_bit : ∀ i, i < 8 → (1#8).getLsbD i = decide (i = 0) := by decide
/-- the bit b of each lane -/
theorem ln_bitb (x : Int64) {b : Nat} (hb : b < 8) {k : Nat} (hk : k < 8) : ln (((x.toUInt64 >>> ((nI b).toInt64.toUInt64 &&& Int64.toUInt64 63)).toInt64) &&& (72340172838076673 : Int64)) k = (ln x k >>> b) &&& 1#8 := by
  rw [ln_and, ln_one k hk]
  apply BitVec.eq_of_getLsbD_eq
  intro i hi
  rw [BitVec.getLsbD_and, BitVec.getLsbD_and, one_bit i hi, ln_bit _ _ hi, shr_b x hb, BitVec.getLsbD_ushiftRight, BitVec.getLsbD_ushiftRight]
  by_cases h0 : i = 0
  · subst h0
    rw [ln_bit _ _ (show b + 0 < 8 by omega), show b + (8 * k + 0) = 8 * k + (b + 0) by omega]
  · rw [decide_eq_false h0, Bool.and_false, Bool.and_false]
theorem ln_shl (x : Int64) {b : Nat} (hb : b < 8) (k : Nat) (hk : k < 8) : ln (x <<< ((nI b).toInt64 &&& 63)) k &&& (255#8 <<< b) = ln x k <<< b := by
  apply BitVec.eq_of_getLsbD_eq
  intro i hi
  rw [BitVec.getLsbD_and, BitVec.getLsbD_shiftLeft, BitVec.getLsbD_shiftLeft, ln_bit _ _ hi, shl_b x hb, BitVec.getLsbD_shiftLeft]
  by_cases h0 : i < b
  · simp [h0]
  · have h255 : ∀ i, i < 8 → (255#8).getLsbD i = true := by decide
    rw [h255 (i - b) (by omega), ln_bit _ _ (show i - b < 8 by omega), show 8 * k + i - b = 8 * k + (i - b) by omega]
    simp [h0, hi, show 8 * k + i < 64 by omega, show ¬ 8 * k + i < b by omega]
theorem ln_shr (x : Int64) {b : Nat} (hb : b < 8) (k : Nat) : ln ((x.toUInt64 >>> ((nI b).toInt64.toUInt64 &&& Int64.toUInt64 63)).toInt64) k &&& (255#8 >>> b) = ln x k >>> b := by
  apply BitVec.eq_of_getLsbD_eq
  intro i hi
  rw [BitVec.getLsbD_and, BitVec.getLsbD_ushiftRight, BitVec.getLsbD_ushiftRight, ln_bit _ _ hi, shr_b x hb, BitVec.getLsbD_ushiftRight]
  by_cases h0 : b + i < 8
  · have h255 : ∀ i, i < 8 → (255#8).getLsbD i = true := by decide
    rw [h255 (b + i) h0, ln_bit _ _ h0, Bool.and_true, show b + (8 * k + i) = 8 * k + (b + i) by omega]
  · rw [BitVec.getLsbD_of_ge _ _ (show 8 ≤ b + i by omega), BitVec.getLsbD_of_ge (ln x k) _ (show 8 ≤ b + i by omega), Bool.and_false]
/-! what is worked out in each lane -/
theorem b8_lo : ∀ x : BitVec 8, (x &&& 127#8).toNat < 128 := by decide +kernel
theorem b8_truth : ∀ x : BitVec 8, ((((x &&& 127#8) + 127#8) ||| x) >>> 7) &&& 1#8 = if x = 0#8 then 0#8 else 1#8 := by decide +kernel
theorem ln_truth (x : Int64) {k : Nat} (hk : k < 8) : ln (fLa_truth x) k = if ln x k = 0#8 then 0#8 else 1#8 := by
  unfold fLa_truth
  have h7 : (((7 : Int32) : Int32)).toInt64.toUInt64 &&& Int64.toUInt64 63 = (nI 7).toInt64.toUInt64 &&& Int64.toUInt64 63 := rfl
  rw [h7, ln_bitb _ (by decide) hk, ln_or, ln_add (fun j hj => by rw [ln_and, ln_lo j hj]; have := b8_lo (ln x j); show _ + 127 < 256; omega) hk, ln_and, ln_lo k hk]
  exact b8_truth _
theorem ln_truth1 (x : Int64) : ∀ k, k < 8 → (ln (fLa_truth x) k).toNat ≤ 1 := by
  intro k hk
  rw [ln_truth x hk]
  split <;> decide
theorem ln_not (x : Int64) {k : Nat} (hk : k < 8) : ln (fLa_not x) k = if ln x k = 0#8 then 1#8 else 0#8 := by
  unfold fLa_not
  rw [ln_xor, ln_truth x hk, ln_one k hk]
  split <;> decide
theorem ln_choose (t a b : Int64) {k : Nat} (hk : k < 8) : ln (fLa_choose t a b) k = if ln t k = 0#8 then ln b k else ln a k := by
  unfold fLa_choose
  rw [ln_pick (ln_truth1 t) a b hk, ln_truth t hk]
  by_cases h : ln t k = 0#8
  · rw [if_pos h, if_pos h, if_pos rfl]
  · rw [if_neg h, if_neg h, if_neg (by decide)]
theorem b8_split : ∀ x : BitVec 8, x = (x &&& 127#8) ^^^ (x &&& 128#8) ∧ (x &&& 127#8).toNat = x.toNat % 128 ∧ ((x ||| 128#8).toNat = 128 + x.toNat % 128) := by decide +kernel
theorem b8_plus : ∀ x y : BitVec 8, ((x &&& 127#8) + (y &&& 127#8)) ^^^ ((x ^^^ y) &&& 128#8) = x + y := by decide +kernel
theorem b8_minus : ∀ x y : BitVec 8, ((x ||| 128#8) - (y &&& 127#8)) ^^^ ((x ^^^ (y ^^^ 255#8)) &&& 128#8) = x - y := by decide +kernel
theorem b8_less : ∀ x y : BitVec 8, (((((x ^^^ 255#8) &&& y) ||| (((x ^^^ 255#8) ||| y) &&& (x - y))) >>> 7) &&& 1#8) = if x.toNat < y.toNat then 1#8 else 0#8 := by decide +kernel
theorem ln_plus (a b : Int64) {k : Nat} (hk : k < 8) : ln (fLa_plus a b) k = ln a k + ln b k := by
  unfold fLa_plus
  rw [ln_xor, ln_and, ln_xor, ln_hi k hk, ln_add (fun j hj => by rw [ln_and, ln_and, ln_lo j hj]; have h1 := b8_lo (ln a j); have h2 := b8_lo (ln b j); omega) hk, ln_and, ln_and, ln_lo k hk]
  exact b8_plus _ _
theorem ln_minus (a b : Int64) {k : Nat} (hk : k < 8) : ln (fLa_minus a b) k = ln a k - ln b k := by
  unfold fLa_minus
  rw [ln_xor, ln_and, ln_xor, ln_xor, ln_hi k hk, ln_all1 k hk, ln_sub (fun j hj => by rw [ln_and, ln_or, ln_lo j hj, ln_hi j hj, (b8_split (ln a j)).2.2]; have h2 := b8_lo (ln b j); omega) hk, ln_and, ln_or, ln_lo k hk, ln_hi k hk]
  exact b8_minus _ _
theorem ln_less (a b : Int64) {k : Nat} (hk : k < 8) : ln (fLa_less a b) k = if (ln a k).toNat < (ln b k).toNat then 1#8 else 0#8 := by
  unfold fLa_less
  have h7 : (((7 : Int32) : Int32)).toInt64.toUInt64 &&& Int64.toUInt64 63 = (nI 7).toInt64.toUInt64 &&& Int64.toUInt64 63 := rfl
  rw [h7, ln_bitb _ (by decide) hk, ln_or, ln_and, ln_and, ln_or, ln_xor, ln_all1 k hk, ln_minus a b hk]
  exact b8_less _ _
/-! times and shifts, bit by bit -/
theorem b8_of (x : BitVec 8) : BitVec.ofNat 8 x.toNat = x := BitVec.eq_of_toNat_eq (by rw [BitVec.toNat_ofNat]; exact Nat.mod_eq_of_lt x.isLt)
theorem b8_and1 : ∀ x : BitVec 8, (x &&& 1#8).toNat ≤ 1 := by decide +kernel
theorem tmask : ∀ b, b < 8 → ((255 : Int32) <<< (nI b &&& 31)) &&& (255 : Int32) = nI ((255#8 <<< b).toNat) := by decide +kernel
def tm (x y : BitVec 8) : Nat → BitVec 8
  | 0 => 0#8
  | b + 1 => tm x y b + (if (y >>> b) &&& 1#8 = 0#8 then 0#8 else x <<< b)
theorem ln_times_l (a c : Int64) : ∀ (m b n : Nat), b + m = 8 → m < n → ∀ s : Int64, (∀ k, k < 8 → ln s k = tm (ln a k) (ln c k) b) → pLa_times_6 n a c s (nI b) ∧ ∀ k, k < 8 → ln (fLa_times_6 n a c s (nI b)) k = tm (ln a k) (ln c k) 8 := by
  intro m
  induction m with
  | zero =>
    intro b n hb hn s hs
    obtain ⟨n, rfl⟩ : ∃ q, n = q + 1 := ⟨n - 1, by omega⟩
    have hb8 : b = 8 := by omega
    subst hb8
    have h8 : (8 : Int32) ≤ nI 8 := by decide
    rw [pLa_times_6.eq_2, fLa_times_6.eq_2, if_pos h8]
    exact ⟨⟨fun _ => trivial, fun q => absurd h8 q⟩, hs⟩
  | succ m ih =>
    intro b n hb hn s hs
    obtain ⟨n, rfl⟩ : ∃ q, n = q + 1 := ⟨n - 1, by omega⟩
    have hb8 : b < 8 := by omega
    have h8 : ¬ (8 : Int32) ≤ nI b := nI_ge (a := b) (b := 8) hb8 (by decide)
    have key : ∀ k, k < 8 → ln (fLa_plus s (fLa_pick (((c.toUInt64 >>> ((nI b).toInt64.toUInt64 &&& Int64.toUInt64 63)).toInt64) &&& (72340172838076673 : Int64)) ((a <<< ((nI b).toInt64 &&& 63)) &&& fLa_all (((255 : Int32) <<< (nI b &&& 31)) &&& (255 : Int32))) (0 : Int64))) k = tm (ln a k) (ln c k) (b + 1) := by
      intro k hk
      rw [ln_plus _ _ hk, hs k hk, ln_pick (fun j hj => by rw [ln_bitb _ hb8 hj]; exact b8_and1 _) _ _ hk, ln_bitb _ hb8 hk, ln_zero k hk, ln_and, tmask b hb8, ln_all (BitVec.isLt _) hk, b8_of, ln_shl a hb8 k hk]
      rfl
    have h := ih (b + 1) n (by omega) (by omega) _ key
    rw [pLa_times_6.eq_2, fLa_times_6.eq_2, if_neg h8, nI_i1]
    exact ⟨⟨fun q => absurd q h8, fun _ => ⟨trivial, trivial, trivial, h.1⟩⟩, h.2⟩
theorem tm_nat (x y : BitVec 8) : ∀ b, b ≤ 8 → tm x y b = x * BitVec.ofNat 8 (y.toNat % 2 ^ b)
  | 0, _ => by
    rw [tm, Nat.pow_zero, Nat.mod_one]
    exact (BitVec.mul_zero).symm
  | b + 1, hb => by
    have e : BitVec.ofNat 8 (y.toNat % 2 ^ (b + 1)) = BitVec.ofNat 8 (y.toNat % 2 ^ b) + (if (y >>> b) &&& 1#8 = 0#8 then 0#8 else 1#8 <<< b) := by
      have hall : ∀ b, b < 8 → ∀ y : BitVec 8, BitVec.ofNat 8 (y.toNat % 2 ^ (b + 1)) = BitVec.ofNat 8 (y.toNat % 2 ^ b) + (if (y >>> b) &&& 1#8 = 0#8 then 0#8 else 1#8 <<< b) := by decide +kernel
      exact hall b (by omega) y
    have e2 : x * (1#8 <<< b) = x <<< b := by
      have hall : ∀ b, b < 8 → ∀ x : BitVec 8, x * (1#8 <<< b) = x <<< b := by decide +kernel
      exact hall b (by omega) x
    rw [tm, tm_nat x y b (by omega), e, BitVec.mul_add]
    split
    · rw [BitVec.mul_zero]
    · rw [e2]
theorem ln_times (a b : Int64) : pLa_times 9 a b ∧ ∀ k, k < 8 → ln (fLa_times 9 a b) k = ln a k * ln b k := by
  have h := ln_times_l a b 8 0 9 rfl (by decide) 0 (fun k hk => by rw [ln_zero k hk]; rfl)
  refine ⟨h.1, fun k hk => (h.2 k hk).trans ?_⟩
  rw [tm_nat _ _ 8 (Nat.le_refl _), Nat.mod_eq_of_lt (BitVec.isLt _), b8_of]
theorem sh_by : ∀ b, b < 3 → ((1 : Int32) <<< (nI b &&& 31)) = nI (2 ^ b) ∧ ((255 : Int32).toUInt32 >>> ((nI (2 ^ b)).toUInt32 &&& Int32.toUInt32 31)).toInt32 = nI ((255#8 >>> (2 ^ b)).toNat) ∧ (((255 : Int32) <<< (nI (2 ^ b) &&& 31)) &&& (255 : Int32)) = nI ((255#8 <<< (2 ^ b)).toNat) ∧ 2 ^ b < 8 := by decide +kernel
def sh (l : Bool) (x y : BitVec 8) : Nat → BitVec 8
  | 0 => x
  | b + 1 => if (y >>> b) &&& 1#8 = 0#8 then sh l x y b else if l then sh l x y b <<< (2 ^ b) else sh l x y b >>> (2 ^ b)
theorem ln_shift_l (l : Bool) (y0 : Int32) (h0 : y0 = if l then 1 else 0) (a c : Int64) : ∀ (m b n : Nat), b + m = 3 → m < n → ∀ s : Int64, (∀ k, k < 8 → ln s k = sh l (ln a k) (ln c k) b) → pLa_shift_6 n y0 a c s (nI b) ∧ ∀ k, k < 8 → ln (fLa_shift_6 n y0 a c s (nI b)) k = if ln c k &&& 248#8 = 0#8 then sh l (ln a k) (ln c k) 3 else 0#8 := by
  intro m
  induction m with
  | zero =>
    intro b n hb hn s hs
    obtain ⟨n, rfl⟩ : ∃ q, n = q + 1 := ⟨n - 1, by omega⟩
    have hb8 : b = 3 := by omega
    subst hb8
    have h8 : (3 : Int32) ≤ nI 3 := by decide
    rw [pLa_shift_6.eq_2, fLa_shift_6.eq_2, if_pos h8]
    refine ⟨⟨fun _ => ⟨trivial, trivial, trivial, trivial⟩, fun q => absurd h8 q⟩, fun k hk => ?_⟩
    have e248 : (248 : Int32) = nI 248 := by decide
    rw [ln_pick (ln_truth1 _) _ _ hk, ln_truth _ hk, ln_and, e248, ln_all (by decide) hk, ln_zero k hk, hs k hk]
    by_cases hc : ln c k &&& 248#8 = 0#8
    · rw [if_pos hc, if_pos hc, if_pos rfl]
    · rw [if_neg hc, if_neg hc, if_neg (by decide)]
  | succ m ih =>
    intro b n hb hn s hs
    obtain ⟨n, rfl⟩ : ∃ q, n = q + 1 := ⟨n - 1, by omega⟩
    have hb3 : b < 3 := by omega
    have h8 : ¬ (3 : Int32) ≤ nI b := nI_ge (a := b) (b := 3) hb3 (by decide)
    obtain ⟨e1, e2, e3, e4⟩ := sh_by b hb3
    rw [pLa_shift_6.eq_2, fLa_shift_6.eq_2, if_neg h8, e1, e2, e3]
    unfold pLa_shift_59 fLa_shift_59
    rw [nI_i1]
    cases l with
    | true =>
      have h00 : ¬ y0 = 0 := by rw [h0]; decide
      have key : ∀ k, k < 8 → ln (fLa_pick (((c.toUInt64 >>> ((nI b).toInt64.toUInt64 &&& Int64.toUInt64 63)).toInt64) &&& (72340172838076673 : Int64)) ((s <<< ((nI (2 ^ b)).toInt64 &&& 63)) &&& fLa_all (nI ((255#8 <<< (2 ^ b)).toNat))) s) k = sh true (ln a k) (ln c k) (b + 1) := by
        intro k hk
        rw [ln_pick (fun j hj => by rw [ln_bitb _ (by omega) hj]; exact b8_and1 _) _ _ hk, ln_bitb _ (by omega) hk, ln_and, ln_all (BitVec.isLt _) hk, b8_of, ln_shl s e4 k hk, hs k hk]
        rfl
      have h := ih (b + 1) n (by omega) (by omega) _ key
      rw [if_neg h00]
      exact ⟨⟨fun q => absurd q h8, fun _ => ⟨fun q => absurd q h00, fun _ => ⟨trivial, trivial, h.1⟩⟩⟩, h.2⟩
    | false =>
      have h00 : y0 = 0 := by rw [h0]; decide
      have key : ∀ k, k < 8 → ln (fLa_pick (((c.toUInt64 >>> ((nI b).toInt64.toUInt64 &&& Int64.toUInt64 63)).toInt64) &&& (72340172838076673 : Int64)) (((s.toUInt64 >>> ((nI (2 ^ b)).toInt64.toUInt64 &&& Int64.toUInt64 63)).toInt64) &&& fLa_all (nI ((255#8 >>> (2 ^ b)).toNat))) s) k = sh false (ln a k) (ln c k) (b + 1) := by
        intro k hk
        rw [ln_pick (fun j hj => by rw [ln_bitb _ (by omega) hj]; exact b8_and1 _) _ _ hk, ln_bitb _ (by omega) hk, ln_and, ln_all (BitVec.isLt _) hk, b8_of, ln_shr s e4 k, hs k hk]
        rfl
      have h := ih (b + 1) n (by omega) (by omega) _ key
      rw [if_pos h00]
      exact ⟨⟨fun q => absurd q h8, fun _ => ⟨fun _ => ⟨trivial, trivial, h.1⟩, fun q => absurd h00 q⟩⟩, h.2⟩
theorem sh_fin : ∀ y, y < 8 → ∀ x : BitVec 8, sh true x (BitVec.ofNat 8 y) 3 = x <<< y ∧ sh false x (BitVec.ofNat 8 y) 3 = x >>> y := by decide +kernel
theorem sh_big : ∀ y : BitVec 8, (y &&& 248#8 = 0#8) ↔ y.toNat < 8 := by decide +kernel
theorem ln_shift (l : Bool) (y0 : Int32) (h0 : y0 = if l then 1 else 0) (a b : Int64) : pLa_shift 4 y0 a b ∧ ∀ k, k < 8 → ln (fLa_shift 4 y0 a b) k = if (ln b k).toNat < 8 then (if l then ln a k <<< (ln b k).toNat else ln a k >>> (ln b k).toNat) else 0#8 := by
  have h := ln_shift_l l y0 h0 a b 3 0 4 rfl (by decide) a (fun k hk => rfl)
  refine ⟨h.1, fun k hk => (h.2 k hk).trans ?_⟩
  by_cases hb : (ln b k).toNat < 8
  · have hf := sh_fin (ln b k).toNat hb (ln a k)
    rw [b8_of] at hf
    rw [if_pos ((sh_big _).mpr hb), if_pos hb]
    cases l
    · exact hf.2
    · exact hf.1
  · rw [if_neg (fun q => hb ((sh_big _).mp q)), if_neg hb]
/-! the signs of two operands -/
def b1 (c : Bool) : BitVec 8 := if c then 1#8 else 0#8
def jo (s : Nat) (x y : BitVec 8) : BitVec 8 :=
  if s = 10 then b1 (decide (x.toNat < y.toNat))
  else if s = 11 then b1 (decide (y.toNat < x.toNat))
  else if s = 12 then x + y
  else if s = 13 then x - y
  else if s = 15 then x &&& y
  else if s = 16 then x ||| y
  else if s = 17 then x ^^^ y
  else if s = 20 then b1 (decide (x = y))
  else if s = 21 then b1 (decide (¬ x = y))
  else if s = 22 then b1 (decide (x.toNat ≤ y.toNat))
  else if s = 23 then b1 (decide (y.toNat ≤ x.toNat))
  else if s = 24 then (if y.toNat < 8 then x <<< y.toNat else 0#8)
  else if s = 25 then (if y.toNat < 8 then x >>> y.toNat else 0#8)
  else if s = 26 then b1 (decide (¬ x = 0#8 ∧ ¬ y = 0#8))
  else if s = 27 then b1 (decide (¬ x = 0#8 ∨ ¬ y = 0#8))
  else x * y
theorem pLa_join_t (y0 : Int32) (a b : Int64) : pLa_join y0 a b := by
  have ht := (ln_times a b).1
  have h1 := (ln_shift true 1 rfl a b).1
  have h2 := (ln_shift false 0 rfl a b).1
  unfold pLa_join
  simp [ht, h1, h2, pLa_less, pLa_plus, pLa_minus, pLa_not, pLa_truth]
theorem b8_xor0 (x y : BitVec 8) : (x ^^^ y = 0#8) ↔ x = y := by
  constructor
  · intro h
    have : x ^^^ y ^^^ y = 0#8 ^^^ y := by rw [h]
    rw [BitVec.xor_assoc, BitVec.xor_self, BitVec.xor_zero, BitVec.zero_xor] at this
    exact this
  · intro h
    rw [h, BitVec.xor_self]
theorem b8_or0 (x y : BitVec 8) : (x ||| y = 0#8) ↔ x = 0#8 ∧ y = 0#8 := BitVec.or_eq_zero_iff
theorem jn_10 (a b : Int64) : fLa_join (nI 10) a b = fLa_less a b := by
  unfold fLa_join
  rw [if_pos (by decide)]
theorem jo_10 (x y : BitVec 8) : jo 10 x y = b1 (decide (x.toNat < y.toNat)) := by
  unfold jo
  simp
theorem jn_11 (a b : Int64) : fLa_join (nI 11) a b = fLa_less b a := by
  unfold fLa_join
  rw [if_neg (by decide), if_pos (by decide)]
theorem jo_11 (x y : BitVec 8) : jo 11 x y = b1 (decide (y.toNat < x.toNat)) := by
  unfold jo
  simp
theorem jn_12 (a b : Int64) : fLa_join (nI 12) a b = fLa_plus a b := by
  unfold fLa_join
  rw [if_neg (by decide), if_neg (by decide), if_pos (by decide)]
theorem jo_12 (x y : BitVec 8) : jo 12 x y = x + y := by
  unfold jo
  simp
theorem jn_13 (a b : Int64) : fLa_join (nI 13) a b = fLa_minus a b := by
  unfold fLa_join
  rw [if_neg (by decide), if_neg (by decide), if_neg (by decide), if_pos (by decide)]
theorem jo_13 (x y : BitVec 8) : jo 13 x y = x - y := by
  unfold jo
  simp
theorem jn_14 (a b : Int64) : fLa_join (nI 14) a b = fLa_times 9 a b := by
  unfold fLa_join
  rw [if_neg (by decide), if_neg (by decide), if_neg (by decide), if_neg (by decide), if_pos (by decide)]
theorem jo_14 (x y : BitVec 8) : jo 14 x y = x * y := by
  unfold jo
  simp
theorem jn_15 (a b : Int64) : fLa_join (nI 15) a b = a &&& b := by
  unfold fLa_join
  rw [if_neg (by decide), if_neg (by decide), if_neg (by decide), if_neg (by decide), if_neg (by decide), if_pos (by decide)]
theorem jo_15 (x y : BitVec 8) : jo 15 x y = x &&& y := by
  unfold jo
  simp
theorem jn_16 (a b : Int64) : fLa_join (nI 16) a b = a ||| b := by
  unfold fLa_join
  rw [if_neg (by decide), if_neg (by decide), if_neg (by decide), if_neg (by decide), if_neg (by decide), if_neg (by decide), if_pos (by decide)]
theorem jo_16 (x y : BitVec 8) : jo 16 x y = x ||| y := by
  unfold jo
  simp
theorem jn_17 (a b : Int64) : fLa_join (nI 17) a b = a ^^^ b := by
  unfold fLa_join
  rw [if_neg (by decide), if_neg (by decide), if_neg (by decide), if_neg (by decide), if_neg (by decide), if_neg (by decide), if_neg (by decide), if_pos (by decide)]
theorem jo_17 (x y : BitVec 8) : jo 17 x y = x ^^^ y := by
  unfold jo
  simp
theorem jn_20 (a b : Int64) : fLa_join (nI 20) a b = fLa_not (a ^^^ b) := by
  unfold fLa_join
  rw [if_neg (by decide), if_neg (by decide), if_neg (by decide), if_neg (by decide), if_neg (by decide), if_neg (by decide), if_neg (by decide), if_neg (by decide), if_neg (by decide), if_neg (by decide), if_pos (by decide)]
theorem jo_20 (x y : BitVec 8) : jo 20 x y = b1 (decide (x = y)) := by
  unfold jo
  simp
theorem jn_21 (a b : Int64) : fLa_join (nI 21) a b = fLa_truth (a ^^^ b) := by
  unfold fLa_join
  rw [if_neg (by decide), if_neg (by decide), if_neg (by decide), if_neg (by decide), if_neg (by decide), if_neg (by decide), if_neg (by decide), if_neg (by decide), if_neg (by decide), if_neg (by decide), if_neg (by decide), if_pos (by decide)]
theorem jo_21 (x y : BitVec 8) : jo 21 x y = b1 (decide (¬ x = y)) := by
  unfold jo
  simp
theorem jn_22 (a b : Int64) : fLa_join (nI 22) a b = fLa_not (fLa_less b a) := by
  unfold fLa_join
  rw [if_neg (by decide), if_neg (by decide), if_neg (by decide), if_neg (by decide), if_neg (by decide), if_neg (by decide), if_neg (by decide), if_neg (by decide), if_neg (by decide), if_neg (by decide), if_neg (by decide), if_neg (by decide), if_pos (by decide)]
theorem jo_22 (x y : BitVec 8) : jo 22 x y = b1 (decide (x.toNat ≤ y.toNat)) := by
  unfold jo
  simp
theorem jn_23 (a b : Int64) : fLa_join (nI 23) a b = fLa_not (fLa_less a b) := by
  unfold fLa_join
  rw [if_neg (by decide), if_neg (by decide), if_neg (by decide), if_neg (by decide), if_neg (by decide), if_neg (by decide), if_neg (by decide), if_neg (by decide), if_neg (by decide), if_neg (by decide), if_neg (by decide), if_neg (by decide), if_neg (by decide), if_pos (by decide)]
theorem jo_23 (x y : BitVec 8) : jo 23 x y = b1 (decide (y.toNat ≤ x.toNat)) := by
  unfold jo
  simp
theorem jn_24 (a b : Int64) : fLa_join (nI 24) a b = fLa_shift 4 1 a b := by
  unfold fLa_join
  rw [if_neg (by decide), if_neg (by decide), if_neg (by decide), if_neg (by decide), if_neg (by decide), if_neg (by decide), if_neg (by decide), if_neg (by decide), if_neg (by decide), if_neg (by decide), if_neg (by decide), if_neg (by decide), if_neg (by decide), if_neg (by decide), if_pos (by decide)]
theorem jo_24 (x y : BitVec 8) : jo 24 x y = (if y.toNat < 8 then x <<< y.toNat else 0#8) := by
  unfold jo
  simp
theorem jn_25 (a b : Int64) : fLa_join (nI 25) a b = fLa_shift 4 0 a b := by
  unfold fLa_join
  rw [if_neg (by decide), if_neg (by decide), if_neg (by decide), if_neg (by decide), if_neg (by decide), if_neg (by decide), if_neg (by decide), if_neg (by decide), if_neg (by decide), if_neg (by decide), if_neg (by decide), if_neg (by decide), if_neg (by decide), if_neg (by decide), if_neg (by decide), if_pos (by decide)]
theorem jo_25 (x y : BitVec 8) : jo 25 x y = (if y.toNat < 8 then x >>> y.toNat else 0#8) := by
  unfold jo
  simp
theorem jn_26 (a b : Int64) : fLa_join (nI 26) a b = fLa_truth a &&& fLa_truth b := by
  unfold fLa_join
  rw [if_neg (by decide), if_neg (by decide), if_neg (by decide), if_neg (by decide), if_neg (by decide), if_neg (by decide), if_neg (by decide), if_neg (by decide), if_neg (by decide), if_neg (by decide), if_neg (by decide), if_neg (by decide), if_neg (by decide), if_neg (by decide), if_neg (by decide), if_neg (by decide), if_pos (by decide)]
theorem jo_26 (x y : BitVec 8) : jo 26 x y = b1 (decide (¬ x = 0#8 ∧ ¬ y = 0#8)) := by
  unfold jo
  simp
theorem jn_27 (a b : Int64) : fLa_join (nI 27) a b = fLa_truth (a ||| b) := by
  unfold fLa_join
  rw [if_neg (by decide), if_neg (by decide), if_neg (by decide), if_neg (by decide), if_neg (by decide), if_neg (by decide), if_neg (by decide), if_neg (by decide), if_neg (by decide), if_neg (by decide), if_neg (by decide), if_neg (by decide), if_neg (by decide), if_neg (by decide), if_neg (by decide), if_neg (by decide), if_neg (by decide), if_pos (by decide)]
theorem jo_27 (x y : BitVec 8) : jo 27 x y = b1 (decide (¬ x = 0#8 ∨ ¬ y = 0#8)) := by
  unfold jo
  simp
theorem ln_join {s : Nat} (hs : s = 10 ∨ s = 11 ∨ s = 12 ∨ s = 13 ∨ s = 14 ∨ s = 15 ∨ s = 16 ∨ s = 17 ∨ s = 20 ∨ s = 21 ∨ s = 22 ∨ s = 23 ∨ s = 24 ∨ s = 25 ∨ s = 26 ∨ s = 27) (a b : Int64) {k : Nat} (hk : k < 8) : ln (fLa_join (nI s) a b) k = jo s (ln a k) (ln b k) := by
  rcases hs with rfl | rfl | rfl | rfl | rfl | rfl | rfl | rfl | rfl | rfl | rfl | rfl | rfl | rfl | rfl | rfl
  · rw [jn_10, jo_10, ln_less a b hk]; unfold b1; simp
  · rw [jn_11, jo_11, ln_less b a hk]; unfold b1; simp
  · rw [jn_12, jo_12, ln_plus a b hk]
  · rw [jn_13, jo_13, ln_minus a b hk]
  · rw [jn_14, jo_14, (ln_times a b).2 k hk]
  · rw [jn_15, jo_15, ln_and]
  · rw [jn_16, jo_16, ln_or]
  · rw [jn_17, jo_17, ln_xor]
  · rw [jn_20, jo_20, ln_not _ hk, ln_xor]; unfold b1; simp [b8_xor0]
  · rw [jn_21, jo_21, ln_truth _ hk, ln_xor]; unfold b1; simp [b8_xor0]
  · rw [jn_22, jo_22, ln_not _ hk, ln_less b a hk]
    unfold b1
    by_cases h : (ln b k).toNat < (ln a k).toNat
    · simp [h]
    · simp [h, Nat.not_lt.mp h]
  · rw [jn_23, jo_23, ln_not _ hk, ln_less a b hk]
    unfold b1
    by_cases h : (ln a k).toNat < (ln b k).toNat
    · simp [h]
    · simp [h, Nat.not_lt.mp h]
  · rw [jn_24, jo_24, (ln_shift true 1 rfl a b).2 k hk]; rfl
  · rw [jn_25, jo_25, (ln_shift false 0 rfl a b).2 k hk]; rfl
  · rw [jn_26, jo_26, ln_and, ln_truth a hk, ln_truth b hk]
    unfold b1
    by_cases h : ln a k = 0#8 <;> by_cases h2 : ln b k = 0#8 <;> simp [h, h2]
  · rw [jn_27, jo_27, ln_truth _ hk, ln_or]
    unfold b1
    by_cases h : ln a k = 0#8 <;> by_cases h2 : ln b k = 0#8 <;> simp [h, h2]
theorem ln_alter49 (a : Int64) {k : Nat} (hk : k < 8) : ln (fLa_alter 49 a) k = - ln a k := by
  refine (show ln (fLa_minus 0 a) k = _ from ln_minus 0 a hk).trans ?_
  rw [ln_zero k hk, BitVec.zero_sub]
theorem ln_alter19 (a : Int64) {k : Nat} (hk : k < 8) : ln (fLa_alter 19 a) k = b1 (decide (ln a k = 0#8)) := by
  refine (show ln (fLa_not a) k = _ from ln_not a hk).trans ?_
  unfold b1
  simp
theorem ln_alter18 (a : Int64) {k : Nat} (hk : k < 8) : ln (fLa_alter 18 a) k = ~~~ ln a k := by
  refine (show ln (a ^^^ -1) k = _ from ln_xor a (-1) k).trans ?_
  rw [ln_all1 k hk]
  have h : ∀ x : BitVec 8, x ^^^ 255#8 = ~~~ x := by decide +kernel
  exact h _
theorem pLa_alter_t (y0 : Int32) (a : Int64) : pLa_alter y0 a := by
  unfold pLa_alter
  simp [pLa_minus, pLa_not, pLa_truth]
theorem pLa_choose_t (a b c : Int64) : pLa_choose a b c := ⟨trivial, trivial, trivial⟩
