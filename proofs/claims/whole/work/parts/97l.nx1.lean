/-! NUMBERS OF STATES: fields -/
def wd (Nm : NmT) (k : Nat) : Nat := (Nm.getD k (0, 0, 0, 0)).2.2.1
def pt (Nm : NmT) (k : Nat) : Nat := (Nm.getD k (0, 0, 0, 0)).2.2.2
theorem wd_s {Nm : NmT} {k : Nat} {x : Nat × Nat × Nat × Nat} (h : Nm[k]? = some x) : wd Nm k = x.2.2.1 := by unfold wd; rw [getD_some h]
theorem pt_s {Nm : NmT} {k : Nat} {x : Nat × Nat × Nat × Nat} (h : Nm[k]? = some x) : pt Nm k = x.2.2.2 := by unfold pt; rw [getD_some h]
theorem bs_t {t : Nat} {Nm : NmT} {k : Nat} (h : k < Nm.length) : bs t (Nm.take (k + 1)) = bs t (Nm.take k) + (if kd Nm k = t then wd Nm k else 0) := by
  have e : Nm[k]? = some Nm[k] := List.getElem?_eq_getElem h
  rw [List.take_succ, e, Option.toList_some, bs_app, kd_s e, wd_s e]
theorem cnt_t {t : Nat} {Nm : NmT} {k : Nat} (h : k < Nm.length) : cnt t (Nm.take (k + 1)) = cnt t (Nm.take k) + (if kd Nm k = t then 1 else 0) := by
  have e : Nm[k]? = some Nm[k] := List.getElem?_eq_getElem h
  rw [List.take_succ, e, Option.toList_some, cnt_app, kd_s e]
theorem bs_mo {t : Nat} {Nm : NmT} {a b : Nat} (h : a ≤ b) (hb : b ≤ Nm.length) : bs t (Nm.take a) ≤ bs t (Nm.take b) := by
  induction b with
  | zero => rw [show a = 0 by omega]; exact Nat.le_refl _
  | succ b ih =>
    by_cases e : a = b + 1
    · rw [e]; exact Nat.le_refl _
    · have := ih (by omega) (by omega)
      rw [bs_t (by omega)]; omega
def nxN (Nm : NmT) (v : Nat → Nat) : Nat → Nat
  | 0 => 0
  | k + 1 => if kd Nm k = 29 then nxN Nm v k * 2 ^ wd Nm k + v k % 2 ^ wd Nm k else nxN Nm v k
theorem nxN_lt {Nm : NmT} {v : Nat → Nat} : ∀ n, n ≤ Nm.length → nxN Nm v n < 2 ^ bs 29 (Nm.take n)
  | 0, _ => by rw [nxN, List.take_zero, bs]; decide
  | n + 1, h => by
    have ih := nxN_lt (Nm := Nm) (v := v) n (by omega)
    rw [nxN, bs_t (by omega)]
    by_cases c : kd Nm n = 29
    · rw [if_pos c, if_pos c, Nat.pow_add]
      have h1 : v n % 2 ^ wd Nm n < 2 ^ wd Nm n := Nat.mod_lt _ (Nat.two_pow_pos _)
      have h2 : (nxN Nm v n + 1) * 2 ^ wd Nm n ≤ 2 ^ bs 29 (Nm.take n) * 2 ^ wd Nm n := Nat.mul_le_mul_right _ ih
      rw [Nat.succ_mul] at h2
      omega
    · rw [if_neg c, if_neg c, Nat.add_zero]; exact ih
theorem nxN_st {Nm : NmT} {v : Nat → Nat} {st : Nat} (hs : st < 2 ^ bs 29 Nm) (hv : ∀ k, k < Nm.length → kd Nm k = 29 → v k % 2 ^ wd Nm k = st / 2 ^ (bs 29 Nm - bs 29 (Nm.take (k + 1))) % 2 ^ wd Nm k) : ∀ n, n ≤ Nm.length → nxN Nm v n = st / 2 ^ (bs 29 Nm - bs 29 (Nm.take n))
  | 0, _ => by
    rw [nxN, List.take_zero, bs, Nat.sub_zero]
    exact (Nat.div_eq_of_lt hs).symm
  | n + 1, h => by
    have ih := nxN_st hs hv n (by omega)
    rw [nxN]
    have m1 := bs_mo (t := 29) (show n + 1 ≤ Nm.length from h) (Nat.le_refl _)
    rw [tk_all (Nat.le_refl _)] at m1
    by_cases c : kd Nm n = 29
    · have bt := bs_t (t := 29) (show n < Nm.length by omega)
      rw [if_pos c] at bt
      rw [if_pos c, hv n (by omega) c, ih]
      have e : bs 29 Nm - bs 29 (Nm.take n) = bs 29 Nm - bs 29 (Nm.take (n + 1)) + wd Nm n := by omega
      rw [e, Nat.pow_add, ← Nat.div_div_eq_div_mul]
      have := Nat.div_add_mod (st / 2 ^ (bs 29 Nm - bs 29 (Nm.take (n + 1)))) (2 ^ wd Nm n)
      rw [Nat.mul_comm] at this
      exact this
    · have bt := bs_t (t := 29) (show n < Nm.length by omega)
      rw [if_neg c] at bt
      rw [if_neg c, ih, bt, Nat.add_zero]
def upv (v : Nat → Nat) (k x : Nat) : Nat → Nat := fun j => if j = k then x else v j
theorem tb_step {a b w j : Nat} : (a * 2 ^ w + b % 2 ^ w).testBit j = if j < w then b.testBit j else a.testBit (j - w) := by
  have hb : b % 2 ^ w < 2 ^ w := Nat.mod_lt _ (Nat.two_pow_pos _)
  rw [Nat.mul_comm, Nat.testBit_two_pow_mul_add a hb]
  by_cases c : j < w
  · rw [if_pos c, if_pos c, Nat.testBit_mod_two_pow]; simp [c]
  · rw [if_neg c, if_neg c]
theorem nxN_u {Nm : NmT} {v : Nat → Nat} {k x : Nat} (hk : kd Nm k = 29) : ∀ n, k < n → n ≤ Nm.length → ∀ j, (nxN Nm (upv v k x) n).testBit j = if bs 29 (Nm.take n) - bs 29 (Nm.take (k + 1)) ≤ j ∧ j < bs 29 (Nm.take n) - bs 29 (Nm.take (k + 1)) + wd Nm k then x.testBit (j - (bs 29 (Nm.take n) - bs 29 (Nm.take (k + 1)))) else (nxN Nm v n).testBit j
  | 0, h, _, _ => absurd h (Nat.not_lt_zero _)
  | n + 1, h, hl, j => by
    have mm := bs_mo (t := 29) (Nm := Nm) (show k + 1 ≤ n + 1 by omega) hl
    by_cases e : k = n
    · subst e
      rw [nxN, nxN, if_pos hk, if_pos hk, tb_step, tb_step]
      have eu : upv v k x k = x := if_pos rfl
      have en : ∀ m, m ≤ k → nxN Nm (upv v k x) m = nxN Nm v m := by
        intro m
        induction m with
        | zero => intro _; rfl
        | succ m ih =>
          intro hm
          rw [nxN, nxN, ih (by omega), show upv v k x m = v m from if_neg (by omega)]
      rw [eu, en k (Nat.le_refl _), Nat.sub_self]
      by_cases c : j < wd Nm k
      · rw [if_pos c, if_pos ⟨Nat.zero_le _, by omega⟩, Nat.sub_zero]
      · rw [if_neg c, if_neg (by omega), if_neg c]
    · have ih := nxN_u (v := v) (x := x) hk n (by omega) (by omega)
      have m2 := bs_mo (t := 29) (Nm := Nm) (show k + 1 ≤ n by omega) (by omega)
      have bt := bs_t (t := 29) (show n < Nm.length by omega)
      rw [nxN, nxN]
      by_cases c : kd Nm n = 29
      · rw [if_pos c] at bt
        rw [if_pos c, if_pos c, tb_step, tb_step, show upv v k x n = v n from if_neg (by omega)]
        by_cases d : j < wd Nm n
        · rw [if_pos d, if_pos d, if_neg (by omega)]
        · rw [if_neg d, if_neg d, ih]
          by_cases g : bs 29 (Nm.take n) - bs 29 (Nm.take (k + 1)) ≤ j - wd Nm n ∧ j - wd Nm n < bs 29 (Nm.take n) - bs 29 (Nm.take (k + 1)) + wd Nm k
          · rw [if_pos g, if_pos (by omega)]
            congr 1
            omega
          · rw [if_neg g, if_neg (by omega)]
      · rw [if_neg c] at bt
        have bt' : bs 29 (Nm.take (n + 1)) = bs 29 (Nm.take n) := bt
        rw [if_neg c, if_neg c, ih, bt']
/-- the class's step in a number -/
theorem smk : ∀ k, k < 32 → ((nI k &&& 31).toBitVec.smod 32).toNat = k := by decide +kernel
theorem i_nx {T X w off : Nat} (hT : T < 256) (hX : X < 256) (ho : off + w ≤ 8) : ∃ R, (nI T &&& ((nI (2 ^ w - 1) <<< (nI off &&& 31)) ^^^ (-1 : Int32))) ||| ((nI X &&& nI (2 ^ w - 1)) <<< (nI off &&& 31)) = nI R ∧ R < 256 ∧ ∀ j, R.testBit j = if off ≤ j ∧ j < off + w then X.testBit (j - off) else T.testBit j := by
  have p8 : 2 ^ w ≤ 2 ^ 8 := Nat.pow_le_pow_right (by decide) (by omega)
  have pw : 0 < 2 ^ w := Nat.two_pow_pos _
  have p8' : 2 ^ off ≤ 2 ^ 8 := Nat.pow_le_pow_right (by decide) (by omega)
  have pow : 2 ^ w * 2 ^ off ≤ 2 ^ 8 := by rw [← Nat.pow_add]; exact Nat.pow_le_pow_right (by decide) (by omega)
  have e1 : nI (2 ^ w - 1) <<< (nI off &&& 31) = nI ((2 ^ w - 1) * 2 ^ off) := pk_shlN _ off (smk off (by omega)) (by
    have : (2 ^ w - 1) * 2 ^ off ≤ 2 ^ w * 2 ^ off := Nat.mul_le_mul_right _ (by omega)
    omega)
  have a8 : (2 ^ w - 1) * 2 ^ off < 256 := by
    have : (2 ^ w - 1) * 2 ^ off < 2 ^ w * 2 ^ off := Nat.mul_lt_mul_of_pos_right (by omega) (Nat.two_pow_pos _)
    omega
  have e2 : nI X &&& nI (2 ^ w - 1) = nI (X % 2 ^ w) := pk_andN (by omega) w (pk_tn (by omega))
  have xm : X % 2 ^ w < 2 ^ w := Nat.mod_lt _ pw
  have e3 : nI (X % 2 ^ w) <<< (nI off &&& 31) = nI (X % 2 ^ w * 2 ^ off) := pk_shlN _ off (smk off (by omega)) (by
    have : X % 2 ^ w * 2 ^ off ≤ 2 ^ w * 2 ^ off := Nat.mul_le_mul_right _ (by omega)
    omega)
  have x8 : X % 2 ^ w * 2 ^ off < 256 := by
    have : X % 2 ^ w * 2 ^ off < 2 ^ w * 2 ^ off := Nat.mul_lt_mul_of_pos_right xm (Nat.two_pow_pos _)
    omega
  generalize hA : (2 ^ w - 1) * 2 ^ off = A at e1 a8
  have e4 : nI T &&& (nI A ^^^ (-1 : Int32)) = nI (T &&& (255 - A)) := e4n A a8 T hT
  have t8 : T &&& (255 - A) < 256 := Nat.lt_of_le_of_lt Nat.and_le_left hT
  refine ⟨(T &&& (255 - A)) ||| (X % 2 ^ w * 2 ^ off), by rw [e1, e2, e3, e4, nI_or (by omega) (by omega)], Nat.or_lt_two_pow (n := 8) t8 x8, fun j => ?_⟩
  have tA : ∀ j, A.testBit j = decide (off ≤ j ∧ j < off + w) := fun j => by
    rw [← hA, Nat.mul_comm, Nat.testBit_two_pow_mul, Nat.testBit_two_pow_sub_one]
    by_cases c : off ≤ j
    · simp [c]; omega
    · simp [c]
  have tc : (255 - A).testBit j = (decide (j < 8) && !A.testBit j) := by
    have := Nat.testBit_two_pow_sub_succ (n := 8) a8 j
    rw [show 2 ^ 8 - (A + 1) = 255 - A by omega] at this
    exact this
  rw [Nat.testBit_or, Nat.testBit_and, tc, tA, Nat.mul_comm, Nat.testBit_two_pow_mul, Nat.testBit_mod_two_pow]
  by_cases c : off ≤ j ∧ j < off + w
  · rw [if_pos c]
    have c2 : j - off < w := by omega
    simp [c.1, c.2, c2]
  · rw [if_neg c]
    by_cases d : j < 8
    · by_cases g : off ≤ j
      · have c2 : ¬ j - off < w := by omega
        simp [c, d, c2]
      · simp [g, d]
    · have t0 : T.testBit j = false := Nat.testBit_lt_two_pow (Nat.lt_of_lt_of_le hT (show 2 ^ 8 ≤ 2 ^ j from Nat.pow_le_pow_right (by decide) (by omega)))
      have c2 : ¬ (off ≤ j ∧ j - off < w) := by omega
      rw [t0]
      by_cases g : off ≤ j
      · have c3 : ¬ j - off < w := by omega
        simp [c3]
      · simp [g]
