/-! CALLS 8: states -/
def sr (x : Int64) (b : Nat) : Int64 := (x.toUInt64 >>> ((nI b).toInt64.toUInt64 &&& Int64.toUInt64 63)).toInt64
def bcA (x : Int64) : Int64 := x - (sr x 1 &&& 6148914691236517205)
def bcB (x : Int64) : Int64 := (x &&& 3689348814741910323) + (sr x 2 &&& 3689348814741910323)
def bcC (x : Int64) : Int64 := (x + sr x 4) &&& 1085102592571150095
def bcD (x : Int64) (b : Nat) : Int64 := x + sr x b
theorem bc_eq (x : Int64) : fLo_bitCount x = (bcD (bcD (bcD (bcC (bcB (bcA x))) 8) 16) 32).toInt32 &&& 127 := rfl
theorem m55 : ∀ k, k < 8 → ln 6148914691236517205 k = 85#8 := by decide +kernel
theorem m33 : ∀ k, k < 8 → ln 3689348814741910323 k = 51#8 := by decide +kernel
theorem m0f : ∀ k, k < 8 → ln 1085102592571150095 k = 15#8 := by decide +kernel
theorem bv_and3 : (127#8 : BitVec 8) &&& 85#8 = 85#8 ∧ (63#8 : BitVec 8) &&& 51#8 = 51#8 := by decide
theorem sr_1 (x : Int64) {k : Nat} (hk : k < 8) : ln (sr x 1 &&& 6148914691236517205) k = (ln x k >>> 1) &&& 85#8 := by
  have h := ln_shr x (b := 1) (by decide) k
  rw [ln_and, m55 k hk]
  have e : ln (sr x 1) k &&& 85#8 = (ln (sr x 1) k &&& (255#8 >>> 1)) &&& 85#8 := by
    rw [BitVec.and_assoc, show (255#8 >>> 1 : BitVec 8) &&& 85#8 = 85#8 from by decide]
  rw [e]
  unfold sr
  rw [h]
theorem sr_2 (x : Int64) {k : Nat} (hk : k < 8) : ln (sr x 2 &&& 3689348814741910323) k = (ln x k >>> 2) &&& 51#8 := by
  have h := ln_shr x (b := 2) (by decide) k
  rw [ln_and, m33 k hk]
  have e : ln (sr x 2) k &&& 51#8 = (ln (sr x 2) k &&& (255#8 >>> 2)) &&& 51#8 := by
    rw [BitVec.and_assoc, show (255#8 >>> 2 : BitVec 8) &&& 51#8 = 51#8 from by decide]
  rw [e]
  unfold sr
  rw [h]
def a8 (l : BitVec 8) : BitVec 8 := l - ((l >>> 1) &&& 85#8)
def b8 (l : BitVec 8) : BitVec 8 := (l &&& 51#8) + ((l >>> 2) &&& 51#8)
def c8 (l : BitVec 8) : BitVec 8 := (l + (l >>> 4)) &&& 15#8
theorem a8_le : ∀ l : BitVec 8, ((l >>> 1) &&& 85#8).toNat ≤ l.toNat := by decide +kernel
theorem b8_le : ∀ l : BitVec 8, (l &&& 51#8).toNat + ((l >>> 2) &&& 51#8).toNat < 256 := by decide +kernel
theorem ab_le : ∀ l : BitVec 8, (b8 (a8 l)).toNat % 16 ≤ 4 ∧ (b8 (a8 l)).toNat / 16 ≤ 4 := by decide +kernel
theorem abc_le : ∀ l : BitVec 8, (c8 (b8 (a8 l))).toNat ≤ 8 := by decide +kernel
theorem ln_A (x : Int64) {k : Nat} (hk : k < 8) : ln (bcA x) k = a8 (ln x k) := by
  unfold bcA
  rw [ln_sub (fun j hj => by rw [sr_1 x hj]; exact a8_le _) hk, sr_1 x hk]
  rfl
theorem ln_B (x : Int64) {k : Nat} (hk : k < 8) : ln (bcB x) k = b8 (ln x k) := by
  unfold bcB
  rw [ln_add (fun j hj => by rw [sr_2 x hj, ln_and, m33 j hj]; exact b8_le _) hk, sr_2 x hk, ln_and, m33 k hk]
  rfl
theorem sr_nat (x : Int64) : ∀ b, b < 64 → (sr x b).toBitVec.toNat = x.toBitVec.toNat / 2 ^ b := fun b hb => by
  unfold sr
  rw [UInt64.toBitVec_toInt64, UInt64.toBitVec_shiftRight, Int64.toBitVec_toUInt64, BitVec.ushiftRight_eq', (u64 b hb).1, BitVec.toNat_ushiftRight, Nat.shiftRight_eq_div_pow]
theorem ln_s4 (x : Int64) (k : Nat) : (ln (sr x 4) k).toNat = (ln x k).toNat / 16 + 16 * ((ln x (k + 1)).toNat % 16) := by
  have e1 : x.toBitVec.toNat / 2 ^ 4 / 256 ^ k = x.toBitVec.toNat / 256 ^ k / 16 := by rw [Nat.div_div_eq_div_mul, Nat.mul_comm, ← Nat.div_div_eq_div_mul]
  have e2 : x.toBitVec.toNat / 256 ^ (k + 1) = x.toBitVec.toNat / 256 ^ k / 256 := by rw [Nat.pow_succ, Nat.div_div_eq_div_mul]
  rw [ln_nat, ln_nat, ln_nat, sr_nat x 4 (by decide), e1, e2]
  generalize x.toBitVec.toNat / 256 ^ k = q
  omega
theorem ln_7 (x : Int64) : (ln x 8).toNat = 0 := by
  rw [ln_nat, Nat.div_eq_of_lt (by have := x.toBitVec.isLt; simpa using this)]
theorem low4 : ∀ a b : BitVec 8, ∀ c : Nat, b.toNat % 16 = c % 16 → (a + b) &&& 15#8 = (a + BitVec.ofNat 8 (c % 16)) &&& 15#8 := by
  intro a b c h
  apply BitVec.eq_of_toNat_eq
  have e15 : ∀ z : BitVec 8, (z &&& 15#8).toNat = z.toNat % 16 := by decide +kernel
  rw [e15, e15, BitVec.toNat_add, BitVec.toNat_add, BitVec.toNat_ofNat]
  omega
theorem ln_C (x : Int64) (hx : ∀ k, k < 8 → (ln x k).toNat % 16 ≤ 4 ∧ (ln x k).toNat / 16 ≤ 4) {k : Nat} (hk : k < 8) : ln (bcC x) k = c8 (ln x k) := by
  have hb : ∀ j, j < 8 → (ln x j).toNat + (ln (sr x 4) j).toNat < 256 := fun j hj => by
    rw [ln_s4]
    have h1 := hx j hj
    have h2 : (ln x (j + 1)).toNat % 16 ≤ 4 := by
      by_cases c : j + 1 < 8
      · exact (hx (j + 1) c).1
      · rw [show j + 1 = 8 by omega, ln_7]; decide
    omega
  unfold bcC c8
  rw [ln_and, ln_add hb hk, m0f k hk]
  have e : ln x k >>> 4 = BitVec.ofNat 8 ((ln x k).toNat / 16 % 16) := by
    have := (show ∀ l : BitVec 8, l >>> 4 = BitVec.ofNat 8 (l.toNat / 16 % 16) by decide +kernel) (ln x k)
    exact this
  rw [e]
  exact low4 _ _ _ (by rw [ln_s4]; omega)
theorem ln_s8 (x : Int64) {m k : Nat} (hm : 8 * m < 64) : (ln (sr x (8 * m)) k).toNat = (ln x (k + m)).toNat := by
  rw [ln_nat, ln_nat, sr_nat x (8 * m) hm, Nat.pow_mul, Nat.div_div_eq_div_mul, Nat.pow_add, Nat.mul_comm (256 ^ k)]
theorem ln_hi0 (x : Int64) {k : Nat} (hk : 8 ≤ k) : (ln x k).toNat = 0 := by
  rw [ln_nat, Nat.div_eq_of_lt (by
    have h1 := x.toBitVec.isLt
    have h2 : 256 ^ 8 ≤ 256 ^ k := Nat.pow_le_pow_right (by decide) hk
    have h3 : (2 : Nat) ^ 64 = 256 ^ 8 := by decide
    omega)]
theorem ln_D (x : Int64) {m c : Nat} (hm : 8 * m < 64) (hc : c < 128) (hx : ∀ k, (ln x k).toNat ≤ c) : ∀ k, k < 8 → (ln (bcD x (8 * m)) k).toNat = (ln x k).toNat + (ln x (k + m)).toNat := by
  intro k hk
  unfold bcD
  rw [ln_add (fun j hj => by rw [ln_s8 x hm]; have := hx j; have := hx (j + m); omega) hk, BitVec.toNat_add, ln_s8 x hm]
  have := hx k
  have := hx (k + m)
  omega
def cntB (f : Nat → Bool) : Nat → Nat
  | 0 => 0
  | n + 1 => cntB f n + (if f n = true then 1 else 0)
theorem cntB_add (f : Nat → Bool) (a : Nat) : ∀ b, cntB f (a + b) = cntB f a + cntB (fun i => f (a + i)) b
  | 0 => rfl
  | b + 1 => by
    rw [show a + (b + 1) = a + b + 1 from rfl, cntB, cntB, cntB_add f a b]
    omega
theorem cntB_le (f : Nat → Bool) : ∀ n, cntB f n ≤ n
  | 0 => Nat.le_refl _
  | n + 1 => by
    have := cntB_le f n
    rw [cntB]
    split <;> omega
theorem cntB_cg {f g : Nat → Bool} : ∀ n, (∀ i, i < n → f i = g i) → cntB f n = cntB g n
  | 0, _ => rfl
  | n + 1, h => by rw [cntB, cntB, cntB_cg n (fun i hi => h i (by omega)), h n (by omega)]
theorem cntB_0 {f : Nat → Bool} : ∀ n, (∀ i, i < n → f i = false) → cntB f n = 0
  | 0, _ => rfl
  | n + 1, h => by rw [cntB, cntB_0 n (fun i hi => h i (by omega)), h n (by omega)]; rfl
theorem pc8 : ∀ l : BitVec 8, (c8 (b8 (a8 l))).toNat = cntB l.getLsbD 8 := by decide +kernel
theorem ln8 (f : Nat → Bool) : cntB f 64 = cntB (fun i => f (0 + i)) 8 + cntB (fun i => f (8 + i)) 8 + cntB (fun i => f (16 + i)) 8 + cntB (fun i => f (24 + i)) 8 + cntB (fun i => f (32 + i)) 8 + cntB (fun i => f (40 + i)) 8 + cntB (fun i => f (48 + i)) 8 + cntB (fun i => f (56 + i)) 8 := by
  have e := fun a => cntB_add f a 8
  have e0 := e 0
  have e1 := e 8
  have e2 := e 16
  have e3 := e 24
  have e4 := e 32
  have e5 := e 40
  have e6 := e 48
  have e7 := e 56
  have z : cntB f 0 = 0 := rfl
  simp only [Nat.reduceAdd] at e0 e1 e2 e3 e4 e5 e6 e7
  omega
/-- Long.bitCount counts -/
theorem bit_count (x : Int64) : fLo_bitCount x = nI (cntB x.toBitVec.getLsbD 64) := by
  have hl : ∀ k, k < 8 → ln (bcC (bcB (bcA x))) k = c8 (b8 (a8 (ln x k))) := fun k hk => by
    rw [ln_C _ (fun j hj => by rw [ln_B _ hj, ln_A _ hj]; exact ab_le _) hk, ln_B _ hk, ln_A _ hk]
  generalize hy : bcC (bcB (bcA x)) = y at hl
  have h8 : ∀ k, (ln y k).toNat ≤ 8 := fun k => by
    by_cases c : k < 8
    · rw [hl k c]; exact abc_le _
    · rw [ln_hi0 y (by omega)]; omega
  have d1 := ln_D y (m := 1) (c := 8) (by decide) (by decide) h8
  generalize hz : bcD y (8 * 1) = z at d1
  have h16 : ∀ k, (ln z k).toNat ≤ 16 := fun k => by
    by_cases c : k < 8
    · rw [d1 k c]; have := h8 k; have := h8 (k + 1); omega
    · rw [ln_hi0 z (by omega)]; omega
  have d2 := ln_D z (m := 2) (c := 16) (by decide) (by decide) h16
  generalize hw : bcD z (8 * 2) = w at d2
  have h32 : ∀ k, (ln w k).toNat ≤ 32 := fun k => by
    by_cases c : k < 8
    · rw [d2 k c]; have := h16 k; have := h16 (k + 2); omega
    · rw [ln_hi0 w (by omega)]; omega
  have d3 := ln_D w (m := 4) (c := 32) (by decide) (by decide) h32
  have t := d3 0 (by decide)
  rw [d2 0 (by decide), d2 (0 + 4) (by decide), d1 0 (by decide), d1 (0 + 2) (by decide), d1 (0 + 4) (by decide), d1 (0 + 4 + 2) (by decide)] at t
  have pk : ∀ k, k < 8 → (ln y k).toNat = cntB (fun i => x.toBitVec.getLsbD (8 * k + i)) 8 := fun k hk => by
    rw [hl k hk, pc8]
    exact cntB_cg 8 (fun i hi => ln_bit x k hi)
  have s := ln8 x.toBitVec.getLsbD
  have p0 := pk 0 (by decide)
  have p1 := pk 1 (by decide)
  have p2 := pk 2 (by decide)
  have p3 := pk 3 (by decide)
  have p4 := pk 4 (by decide)
  have p5 := pk 5 (by decide)
  have p6 := pk 6 (by decide)
  have p7 := pk 7 (by decide)
  simp only [Nat.reduceMul, Nat.reduceAdd, Nat.zero_add] at p0 p1 p2 p3 p4 p5 p6 p7 t s
  have tot : (ln (bcD w (8 * 4)) 0).toNat = cntB x.toBitVec.getLsbD 64 := by
    rw [s, ← p0, ← p1, ← p2, ← p3, ← p4, ← p5, ← p6, ← p7]
    show (ln (bcD w 32) 0).toNat = _
    omega
  have le := cntB_le x.toBitVec.getLsbD 64
  rw [bc_eq, hy, show bcD y 8 = z from hz, show bcD z 16 = w from hw]
  have g := ln_get (bcD w 32) (m := 0) (by decide)
  have e0 : ((bcD w 32).toUInt64 >>> ((nI (0 * 8)).toInt64.toUInt64 &&& Int64.toUInt64 63)).toInt64 = bcD w 32 := by
    have : (sr (bcD w 32) 0).toBitVec.toNat = (bcD w 32).toBitVec.toNat := by rw [sr_nat _ 0 (by decide)]; exact Nat.div_one _
    have h2 := BitVec.eq_of_toNat_eq this
    exact Int64.toBitVec_inj.mp h2
  rw [e0] at g
  have g2 : (bcD w 32).toInt32 &&& 127 = ((bcD w 32).toInt32 &&& 255) &&& 127 := by
    rw [Int32.and_assoc]; rfl
  rw [g2, g, show (ln (bcD w 32) 0).toNat = cntB x.toBitVec.getLsbD 64 from tot]
  exact (show ∀ c, c ≤ 64 → nI c &&& 127 = nI c by decide +kernel) _ le
section
variable {I : Mm} {J : Ml} {B : Nat → Value} {E : List (Nat × Nat)}
theorem size_of {k : Nat} (hk : k < 30) : ∀ (d j : Nat), j ≤ 4 → 4 - j < d → pCm_sizeOf_4 d (nI k) (nI (cntB (sB J (4 * k)) (64 * j))) (nI j) I J ∧ fCm_sizeOf_4 d (nI k) (nI (cntB (sB J (4 * k)) (64 * j))) (nI j) I J = nI (cntB (sB J (4 * k)) 256) := by
  have e4 : nI k * 4 = nI (4 * k) := by show nI k * nI 4 = _; rw [pk_mul, Nat.mul_comm]
  intro d
  induction d with
  | zero => intro j _ h; omega
  | succ d ih =>
    intro j hj hd
    rw [pCm_sizeOf_4.eq_2, fCm_sizeOf_4.eq_2, e4, nI_add]
    by_cases c : j = 4
    · subst c
      rw [if_pos (by decide)]
      exact ⟨⟨fun _ => trivial, fun q => absurd (by decide) q⟩, rfl⟩
    · have c' : ¬ (4 : Int32) ≤ nI j := nI_ge (a := j) (b := 4) (by omega) (by decide)
      have z := ih (j + 1) (by omega) (by omega)
      have s : cntB (sB J (4 * k)) (64 * (j + 1)) = cntB (sB J (4 * k)) (64 * j) + cntB (J 34 (4 * k + j)).toBitVec.getLsbD 64 := by
        rw [show 64 * (j + 1) = 64 * j + 64 by omega, cntB_add]
        congr 1
        refine cntB_cg 64 (fun i hi => ?_)
        unfold sB
        rw [show (64 * j + i) / 64 = j by omega, show (64 * j + i) % 64 = i by omega]
      rw [if_neg c', nI_clamp (n := 4 * k + j) (by omega), bit_count, nI_add, ← s, nI_i1]
      exact ⟨⟨fun q => absurd q c', fun _ => ⟨vp_in_nI (by omega) (by decide), trivial, z.1⟩⟩, z.2⟩
theorem m_cnt {k n : Nat} {V : Mm} {g : Se} (hk : k < 30) (hn : n ≤ 256) (hV : fMo_all V = nI n) (hr : rw_ n V (323 + k) g) : ∀ (d s : Nat), s ≤ n → n - s < d → pMo_states_14 d (nI k) (nI (cntB g s)) (nI s) V B E ∧ fMo_states_14 d (nI k) (nI (cntB g s)) (nI s) V B E = (nI (cntB g n), V) := by
  intro d
  induction d with
  | zero => intro s _ h; omega
  | succ d ih =>
    intro s hs hd
    rw [pMo_states_14.eq_2, fMo_states_14.eq_2, hV]
    unfold pMo_states_36 fMo_states_36
    by_cases c : n ≤ s
    · have c' : nI n ≤ nI s := nI_le c (by omega)
      have e : s = n := by omega
      rw [if_pos c', e]
      exact ⟨⟨trivial, fun _ => trivial, fun q => absurd (nI_le (Nat.le_refl n) (by omega)) q⟩, rfl⟩
    · have c' : ¬ nI n ≤ nI s := nI_ge (by omega) (by omega)
      have z := ih (s + 1) (by omega) (by omega)
      rw [cntB] at z
      rw [if_neg c', nI_clamp (n := k) (by omega), nI_clamp (n := s) (by omega), hr.2 s (by omega), nI_i1, nI_i1]
      have v1 : vp_in (nI k) 30 := vp_in_nI hk (by decide)
      have v2 : vp_in (nI s) 256 := vp_in_nI (by omega) (by decide)
      cases hg : g s with
      | false =>
        rw [hg, if_neg (by decide), Nat.add_zero] at z
        rw [if_pos (show b2 false = 0 from rfl)]
        exact ⟨⟨trivial, fun q => absurd q c', fun _ => ⟨v1, v2, fun _ => z.1, fun q => absurd rfl q⟩⟩, z.2⟩
      | true =>
        rw [hg, if_pos rfl] at z
        rw [if_neg (show ¬ b2 true = 0 by decide)]
        exact ⟨⟨trivial, fun q => absurd q c', fun _ => ⟨v1, v2, fun q => absurd q (show ¬ b2 true = 0 by decide), fun _ => z.1⟩⟩, z.2⟩
theorem k_states (h : Iv I J B E) (y : Int32) : pCh_states y I J ∧ (((fCh_states y I J).1 = 0 ∧ ∀ E, pMo_states 257 y I B E ∧ (fMo_states 257 y I B E).2 40 2 = 0 ∧ (fCh_states y I J).2 = (fMo_states 257 y I B E).1 ∧ eq6 I (fMo_states 257 y I B E).2) ∨ rfs I 14 1 (fCh_states y I J).1 (pMo_states 257 y I B) (fMo_states 257 y I B)) := by
  obtain ⟨⟨co, Nm, rb, ib, sp, fi, Hn, D, SS, st, e, w, ⟨a1, a2, a3, a4, a5⟩, ⟨c1, c2, c4, c5, c6, c7, c8, c9⟩, ⟨m1, m3, m4, m5, m6, m7, m8, m9⟩⟩, _⟩ := h
  have n256 := m1.2.1.2.2.1
  obtain ⟨s1, s2⟩ := is_spec (J := J) c6 a2 y
  rcases s2 with ⟨k, k1, rfl, k3, k4, k5⟩ | ⟨k1, k2⟩
  · obtain ⟨n1, n2⟩ := no_sp0 m7 k3 k4
    have sz := size_of (I := I) (J := J) (k := k) (by omega) 5 0 (by decide) (by decide)
    have sz1 : pCm_sizeOf 5 (nI k) I J := sz.1
    have sz2 : fCm_sizeOf 5 (nI k) I J = nI (cntB (sB J (4 * k)) 256) := sz.2
    have ce : cntB (sB J (4 * k)) 256 = cntB (SS k) (2 ^ rb) := by
      have z0 : cntB (fun i => SS k (2 ^ rb + i)) (256 - 2 ^ rb) = 0 := cntB_0 _ (fun i _ => by
        cases hh : SS k (2 ^ rb + i) with
        | false => rfl
        | true => have := a5 k _ hh; omega)
      have s := cntB_add (SS k) (2 ^ rb) (256 - 2 ^ rb)
      rw [show 2 ^ rb + (256 - 2 ^ rb) = 256 by omega, z0, Nat.add_zero] at s
      rw [cntB_cg 256 (fun i hi => c2.2.2.2 k k1 i hi), s]
    rw [ce] at sz2
    have hV : fMo_all (pm_u I 40 2 0) = nI (2 ^ rb) := by
      rw [← m1.2.1.1]
      unfold fMo_all
      rw [pm_u_j _ _ _ (by decide)]
    have mc := fun E => m_cnt (B := B) (E := E) (k := k) (V := pm_u I 40 2 0) (by omega) n256 hV (rw_c (m1.2.2.2 k k1) (pm_u_n _ _ _ (by omega))) 257 0 (Nat.zero_le _) (by omega)
    have mc1 : ∀ E, pMo_states_14 257 (nI k) 0 0 (pm_u I 40 2 0) B E := fun E => (mc E).1
    have mc2 : ∀ E, fMo_states_14 257 (nI k) 0 0 (pm_u I 40 2 0) B E = (nI (cntB (SS k) (2 ^ rb)), pm_u I 40 2 0) := fun E => (mc E).2
    have f1 : fCh_states (nI k) I J = (0, nI (cntB (SS k) (2 ^ rb))) := by
      unfold fCh_states
      rw [k5, if_neg (by decide), sz2]
    have f2 : ∀ E, fMo_states 257 (nI k) I B E = (nI (cntB (SS k) (2 ^ rb)), pm_u I 40 2 0) := fun E => by
      unfold fMo_states fMo_states_5
      rw [n2, if_pos rfl]
      exact mc2 E
    have p2 : ∀ E, pMo_states 257 (nI k) I B E := fun E => by
      unfold pMo_states pMo_states_5
      rw [n2]
      exact ⟨n1, fun _ => mc1 E, fun q => absurd rfl q⟩
    refine ⟨?_, Or.inl ⟨by rw [f1], fun E => ?_⟩⟩
    · unfold pCh_states
      rw [k5]
      exact ⟨s1, fun q => absurd q (by decide), fun _ => ⟨sz1, trivial⟩⟩
    · rw [f1, f2]
      dsimp only
      exact ⟨p2 E, pm_u_s _ _ _ _, rfl, eq6_0 _ _⟩
  · obtain ⟨n1, n2⟩ := no_sp1 m7 k1
    have f1 : fCh_states y I J = (14, 0) := by
      unfold fCh_states
      rw [k2, if_pos rfl]
    have f2 : ∀ E, fMo_states 257 y I B E = (0, pm_u (pm_u I 40 2 0) 40 2 1) := fun E => by
      unfold fMo_states fMo_states_5
      rw [n2]; exact if_neg (show ¬ (1 : Int32) = 0 by decide)
    have p2 : ∀ E, pMo_states 257 y I B E := fun E => by
      unfold pMo_states pMo_states_5
      rw [n2]
      exact ⟨n1, fun q => absurd q (show ¬ (1 : Int32) = 0 by decide), fun _ => trivial⟩
    refine ⟨?_, Or.inr ⟨by rw [f1], fun E => ?_⟩⟩
    · unfold pCh_states
      rw [k2]
      exact ⟨s1, fun _ => trivial, fun q => absurd rfl q⟩
    · rw [f2]
      dsimp only
      exact ⟨p2 E, pm_u_s _ _ _ _, eq6_1 _ _ _⟩
end
