/-! VALUES 1: code run on values; the model's operators -/
def st1 (env : Nat → BitVec 8) (x : Nat × Nat) (s : List (BitVec 8)) : List (BitVec 8) :=
  if x.1 = 44 then BitVec.ofNat 8 x.2 :: s
  else if x.1 = 43 then env x.2 :: s
  else if x.1 = 49 then (match s with | a :: s => (- a) :: s | [] => [])
  else if x.1 = 18 then (match s with | a :: s => (~~~ a) :: s | [] => [])
  else if x.1 = 19 then (match s with | a :: s => b1 (decide (a = 0#8)) :: s | [] => [])
  else if x.1 = 50 then (match s with | c :: b :: a :: s => (if a = 0#8 then c else b) :: s | _ => [])
  else (match s with | y :: z :: s => jo x.1 z y :: s | _ => [])
def run (env : Nat → BitVec 8) : Cd → List (BitVec 8) → List (BitVec 8)
  | [], s => s
  | x :: C, s => run env C (st1 env x s)
theorem run_app (env : Nat → BitVec 8) : ∀ (C D : Cd) (s : List (BitVec 8)), run env (C ++ D) s = run env D (run env C s)
  | [], _, _ => rfl
  | _ :: C, D, s => run_app env C D _
theorem nI_and {a b : Nat} (ha : a < 2 ^ 31) (hb : b < 2 ^ 31) : nI a &&& nI b = nI (a &&& b) := by
  apply Int32.toBitVec_inj.mp
  rw [Int32.toBitVec_and]
  apply BitVec.eq_of_toNat_eq
  rw [BitVec.toNat_and]
  have hab : a &&& b < 2 ^ 31 := Nat.and_lt_two_pow a hb
  rw [pk_tn (by omega), pk_tn (by omega), pk_tn (by omega)]
theorem nI_xor {a b : Nat} (ha : a < 2 ^ 31) (hb : b < 2 ^ 31) : nI a ^^^ nI b = nI (a ^^^ b) := by
  apply Int32.toBitVec_inj.mp
  rw [Int32.toBitVec_xor]
  apply BitVec.eq_of_toNat_eq
  rw [BitVec.toNat_xor]
  have hab : a ^^^ b < 2 ^ 31 := Nat.xor_lt_two_pow ha hb
  rw [pk_tn (by omega), pk_tn (by omega), pk_tn (by omega)]
theorem and255 {n : Nat} (h : n < 2 ^ 32) : nI n &&& (255 : Int32) = nI (n % 256) := pk_andN h 8 (by decide)
theorem b1n (c : Bool) : (b1 c).toNat = if c = true then 1 else 0 := by cases c <;> rfl
theorem b0n (x : BitVec 8) : x = 0#8 ↔ x.toNat = 0 := ⟨fun h => by rw [h]; rfl, fun h => BitVec.eq_of_toNat_eq h⟩
theorem bvn (x : BitVec 8) : x.toNat < 256 := x.isLt
theorem jd_10 (a b : Int32) : fMo_joined (nI 60) a b = (if b ≤ a then 0 else 1) := by
  unfold fMo_joined
  rw [if_neg (by decide), if_neg (by decide), if_neg (by decide), if_pos (by decide)]
theorem jd_11 (a b : Int32) : fMo_joined (nI 62) a b = (if a ≤ b then 0 else 1) := by
  unfold fMo_joined
  rw [if_neg (by decide), if_neg (by decide), if_neg (by decide), if_neg (by decide), if_pos (by decide)]
theorem jd_12 (a b : Int32) : fMo_joined (nI 43) a b = ((a + b) &&& 255) := by
  unfold fMo_joined
  rw [if_neg (by decide), if_pos (by decide)]
theorem jd_13 (a b : Int32) : fMo_joined (nI 45) a b = ((a - b) &&& 255) := by
  unfold fMo_joined
  rw [if_neg (by decide), if_neg (by decide), if_pos (by decide)]
theorem jd_14 (a b : Int32) : fMo_joined (nI 42) a b = ((a * b) &&& 255) := by
  unfold fMo_joined
  rw [if_neg (by decide), if_neg (by decide), if_neg (by decide), if_neg (by decide), if_neg (by decide), if_neg (by decide), if_neg (by decide), if_neg (by decide), if_neg (by decide), if_neg (by decide), if_neg (by decide), if_neg (by decide), if_neg (by decide), if_neg (by decide), if_neg (by decide)]
theorem jd_15 (a b : Int32) : fMo_joined (nI 38) a b = (a &&& b) := by
  unfold fMo_joined
  rw [if_pos (by decide)]
theorem jd_16 (a b : Int32) : fMo_joined (nI 124) a b = (a ||| b) := by
  unfold fMo_joined
  rw [if_neg (by decide), if_neg (by decide), if_neg (by decide), if_neg (by decide), if_neg (by decide), if_neg (by decide), if_pos (by decide)]
theorem jd_17 (a b : Int32) : fMo_joined (nI 94) a b = (a ^^^ b) := by
  unfold fMo_joined
  rw [if_neg (by decide), if_neg (by decide), if_neg (by decide), if_neg (by decide), if_neg (by decide), if_pos (by decide)]
theorem jd_20 (a b : Int32) : fMo_joined (nI 300) a b = (if a = b then 1 else 0) := by
  unfold fMo_joined
  rw [if_neg (by decide), if_neg (by decide), if_neg (by decide), if_neg (by decide), if_neg (by decide), if_neg (by decide), if_neg (by decide), if_pos (by decide)]
theorem jd_21 (a b : Int32) : fMo_joined (nI 301) a b = (if a = b then 0 else 1) := by
  unfold fMo_joined
  rw [if_neg (by decide), if_neg (by decide), if_neg (by decide), if_neg (by decide), if_neg (by decide), if_neg (by decide), if_neg (by decide), if_neg (by decide), if_pos (by decide)]
theorem jd_22 (a b : Int32) : fMo_joined (nI 302) a b = (if b < a then 0 else 1) := by
  unfold fMo_joined
  rw [if_neg (by decide), if_neg (by decide), if_neg (by decide), if_neg (by decide), if_neg (by decide), if_neg (by decide), if_neg (by decide), if_neg (by decide), if_neg (by decide), if_pos (by decide)]
theorem jd_23 (a b : Int32) : fMo_joined (nI 303) a b = (if a < b then 0 else 1) := by
  unfold fMo_joined
  rw [if_neg (by decide), if_neg (by decide), if_neg (by decide), if_neg (by decide), if_neg (by decide), if_neg (by decide), if_neg (by decide), if_neg (by decide), if_neg (by decide), if_neg (by decide), if_pos (by decide)]
theorem jd_24 (a b : Int32) : fMo_joined (nI 304) a b = (if b < 8 then (a <<< (b &&& 31)) &&& 255 else 0) := by
  unfold fMo_joined
  rw [if_neg (by decide), if_neg (by decide), if_neg (by decide), if_neg (by decide), if_neg (by decide), if_neg (by decide), if_neg (by decide), if_neg (by decide), if_neg (by decide), if_neg (by decide), if_neg (by decide), if_pos (by decide)]
theorem jd_25 (a b : Int32) : fMo_joined (nI 305) a b = (if b < 8 then a >>> (b &&& 31) else 0) := by
  unfold fMo_joined
  rw [if_neg (by decide), if_neg (by decide), if_neg (by decide), if_neg (by decide), if_neg (by decide), if_neg (by decide), if_neg (by decide), if_neg (by decide), if_neg (by decide), if_neg (by decide), if_neg (by decide), if_neg (by decide), if_pos (by decide)]
theorem jd_26 (a b : Int32) : fMo_joined (nI 306) a b = (if a = 0 then 0 else if b = 0 then 0 else 1) := by
  unfold fMo_joined fMo_joined_158
  rw [if_neg (by decide), if_neg (by decide), if_neg (by decide), if_neg (by decide), if_neg (by decide), if_neg (by decide), if_neg (by decide), if_neg (by decide), if_neg (by decide), if_neg (by decide), if_neg (by decide), if_neg (by decide), if_neg (by decide), if_pos (by decide)]
theorem jd_27 (a b : Int32) : fMo_joined (nI 307) a b = (if a = 0 then if b = 0 then 0 else 1 else 1) := by
  unfold fMo_joined fMo_joined_140
  rw [if_neg (by decide), if_neg (by decide), if_neg (by decide), if_neg (by decide), if_neg (by decide), if_neg (by decide), if_neg (by decide), if_neg (by decide), if_neg (by decide), if_neg (by decide), if_neg (by decide), if_neg (by decide), if_neg (by decide), if_neg (by decide), if_pos (by decide)]
theorem jm_sh : ∀ a, a < 256 → ∀ b, b < 8 → (nI a <<< (nI b &&& 31)) &&& 255 = nI ((BitVec.ofNat 8 a <<< b).toNat) ∧ nI a >>> (nI b &&& 31) = nI ((BitVec.ofNat 8 a >>> b).toNat) := by decide +kernel
theorem jm {s : Nat} (hs : s = 10 ∨ s = 11 ∨ s = 12 ∨ s = 13 ∨ s = 14 ∨ s = 15 ∨ s = 16 ∨ s = 17 ∨ s = 20 ∨ s = 21 ∨ s = 22 ∨ s = 23 ∨ s = 24 ∨ s = 25 ∨ s = 26 ∨ s = 27) (x y : BitVec 8) : fMo_joined (nI (mt s)) (nI x.toNat) (nI y.toNat) = nI (jo s x y).toNat := by
  have hx := bvn x
  have hy := bvn y
  have hxy : x.toNat * y.toNat < 256 * 256 := Nat.mul_lt_mul'' hx hy
  have e : nI x.toNat = nI y.toNat ↔ x = y := (nI_eq (by omega) (by omega)).trans ⟨fun h => BitVec.eq_of_toNat_eq h, fun h => by rw [h]⟩
  have ex : nI x.toNat = 0 ↔ x = 0#8 := (nI_eq (a := x.toNat) (b := 0) (by omega) (by decide)).trans (b0n x).symm
  have ey : nI y.toNat = 0 ↔ y = 0#8 := (nI_eq (a := y.toNat) (b := 0) (by omega) (by decide)).trans (b0n y).symm
  have xo : BitVec.ofNat 8 x.toNat = x := b8_of x
  rcases hs with rfl | rfl | rfl | rfl | rfl | rfl | rfl | rfl | rfl | rfl | rfl | rfl | rfl | rfl | rfl | rfl
  · rw [show mt 10 = 60 from rfl, jd_10, jo_10, b1n]
    by_cases c : x.toNat < y.toNat
    · rw [if_neg (nI_ge c (by omega)), decide_eq_true c]; rfl
    · rw [if_pos (nI_le (by omega) (by omega)), decide_eq_false c]; rfl
  · rw [show mt 11 = 62 from rfl, jd_11, jo_11, b1n]
    by_cases c : y.toNat < x.toNat
    · rw [if_neg (nI_ge c (by omega)), decide_eq_true c]; rfl
    · rw [if_pos (nI_le (by omega) (by omega)), decide_eq_false c]; rfl
  · rw [show mt 12 = 43 from rfl, jd_12, jo_12, nI_add, and255 (by omega), BitVec.toNat_add]
  · rw [show mt 13 = 45 from rfl, jd_13, jo_13, pk_and (nI x.toNat - nI y.toNat) 8 (by decide), Int32.toBitVec_sub, BitVec.toNat_sub, pk_tn (by omega), pk_tn (by omega), BitVec.toNat_sub]
    congr 1
    omega
  · rw [show mt 14 = 42 from rfl, jd_14, jo_14, pk_mul, and255 (by omega), BitVec.toNat_mul]
  · rw [show mt 15 = 38 from rfl, jd_15, jo_15, nI_and (by omega) (by omega), BitVec.toNat_and]
  · rw [show mt 16 = 124 from rfl, jd_16, jo_16, nI_or (by omega) (by omega), BitVec.toNat_or]
  · rw [show mt 17 = 94 from rfl, jd_17, jo_17, nI_xor (by omega) (by omega), BitVec.toNat_xor]
  · rw [show mt 20 = 300 from rfl, jd_20, jo_20, b1n]
    by_cases c : x = y
    · rw [if_pos (e.mpr c), decide_eq_true c]; rfl
    · rw [if_neg (fun q => c (e.mp q)), decide_eq_false c]; rfl
  · rw [show mt 21 = 301 from rfl, jd_21, jo_21, b1n]
    by_cases c : x = y
    · rw [if_pos (e.mpr c), decide_eq_false (fun q => q c)]; rfl
    · rw [if_neg (fun q => c (e.mp q)), decide_eq_true c]; rfl
  · rw [show mt 22 = 302 from rfl, jd_22, jo_22, b1n]
    by_cases c : x.toNat ≤ y.toNat
    · rw [if_neg (nI_nlt c (by omega)), decide_eq_true c]; rfl
    · rw [if_pos (nI_lt (by omega) (by omega)), decide_eq_false c]; rfl
  · rw [show mt 23 = 303 from rfl, jd_23, jo_23, b1n]
    by_cases c : y.toNat ≤ x.toNat
    · rw [if_neg (nI_nlt c (by omega)), decide_eq_true c]; rfl
    · rw [if_pos (nI_lt (by omega) (by omega)), decide_eq_false c]; rfl
  · rw [show mt 24 = 304 from rfl, jd_24, jo_24]
    by_cases c : y.toNat < 8
    · rw [if_pos (show nI y.toNat < (8 : Int32) from nI_lt (a := y.toNat) (b := 8) c (by decide)), if_pos c, (jm_sh _ hx _ c).1, xo]
    · rw [if_neg (show ¬ nI y.toNat < (8 : Int32) from nI_nlt (a := y.toNat) (b := 8) (by omega) (by omega)), if_neg c]; rfl
  · rw [show mt 25 = 305 from rfl, jd_25, jo_25]
    by_cases c : y.toNat < 8
    · rw [if_pos (show nI y.toNat < (8 : Int32) from nI_lt (a := y.toNat) (b := 8) c (by decide)), if_pos c, (jm_sh _ hx _ c).2, xo]
    · rw [if_neg (show ¬ nI y.toNat < (8 : Int32) from nI_nlt (a := y.toNat) (b := 8) (by omega) (by omega)), if_neg c]; rfl
  · rw [show mt 26 = 306 from rfl, jd_26, jo_26, b1n]
    by_cases c : x = 0#8
    · rw [if_pos (ex.mpr c), decide_eq_false (fun q => q.1 c)]; rfl
    · rw [if_neg (fun q => c (ex.mp q))]
      by_cases d : y = 0#8
      · rw [if_pos (ey.mpr d), decide_eq_false (fun q => q.2 d)]; rfl
      · rw [if_neg (fun q => d (ey.mp q)), decide_eq_true ⟨c, d⟩]; rfl
  · rw [show mt 27 = 307 from rfl, jd_27, jo_27, b1n]
    by_cases c : x = 0#8
    · rw [if_pos (ex.mpr c)]
      by_cases d : y = 0#8
      · rw [if_pos (ey.mpr d), decide_eq_false (fun q => by rcases q with q | q; exact q c; exact q d)]; rfl
      · rw [if_neg (fun q => d (ey.mp q)), decide_eq_true (Or.inr d)]; rfl
    · rw [if_neg (fun q => c (ex.mp q)), decide_eq_true (Or.inl c)]; rfl
theorem pJm (a b c : Int32) : pMo_joined a b c := by
  unfold pMo_joined pMo_joined_140 pMo_joined_158
  simp
theorem um : ∀ a, a < 256 → (-(nI a)) &&& (255 : Int32) = nI ((-(BitVec.ofNat 8 a)).toNat) ∧ (nI a ^^^ (-1 : Int32)) &&& (255 : Int32) = nI ((~~~(BitVec.ofNat 8 a)).toNat) := by decide +kernel
/-- signs of two operands -/
theorem tyt_op {k : Nat} (h : 0 < tyt k) : k = 10 ∨ k = 11 ∨ k = 12 ∨ k = 13 ∨ k = 14 ∨ k = 15 ∨ k = 16 ∨ k = 17 ∨ k = 20 ∨ k = 21 ∨ k = 22 ∨ k = 23 ∨ k = 24 ∨ k = 25 ∨ k = 26 ∨ k = 27 := by
  have z := (show ∀ k, k < 29 → 0 < tyt k → k ∈ [10, 11, 12, 13, 14, 15, 16, 17, 20, 21, 22, 23, 24, 25, 26, 27] by decide +kernel) k (tyt_lt h) h
  simp only [List.mem_cons, List.not_mem_nil, or_false] at z
  exact z
theorem st_op (env : Nat → BitVec 8) {k : Nat} (h : 0 < tyt k) (z y : BitVec 8) (s : List (BitVec 8)) : st1 env (k, 0) (y :: z :: s) = jo k z y :: s := by
  have o := tyt_op h
  unfold st1
  dsimp only
  rw [if_neg (by omega), if_neg (by omega), if_neg (by omega), if_neg (by omega), if_neg (by omega), if_neg (by omega)]
/-- what a name is in the model's memory -/
def nameV (M : Mm) (k : Nat) (v : BitVec 8) : Prop := k < 60 ∧ ((M 44 k = 1 ∧ ∃ w, w < 8 ∧ M 45 k = nI w ∧ M 60 w = nI v.toNat) ∨ (M 44 k = 2 ∧ ∃ w, w < 3 ∧ M 45 k = nI w ∧ M 61 w = nI v.toNat) ∨ (M 44 k = 3 ∧ ∃ w, w < 60 ∧ M 45 k = nI w ∧ M 62 w = nI v.toNat))
/-- the nodes from lo to e are the same (what stands beside the last one does not matter) -/
def agN (lo e : Nat) (M M' : Mm) : Prop := ∀ k, lo ≤ k → k ≤ e → M' 52 k = M 52 k ∧ M' 53 k = M 53 k ∧ M' 54 k = M 54 k ∧ (k < e → M' 55 k = M 55 k ∧ M' 56 k = M 56 k)
theorem agN_r (lo e : Nat) (M : Mm) : agN lo e M M := fun _ _ _ => ⟨rfl, rfl, rfl, fun _ => ⟨rfl, rfl⟩⟩
theorem agN_t {lo e : Nat} {M M' M'' : Mm} (h : agN lo e M M') (h' : agN lo e M' M'') : agN lo e M M'' := fun k h1 h2 => by
  have a := h k h1 h2
  have c := h' k h1 h2
  exact ⟨c.1.trans a.1, c.2.1.trans a.2.1, c.2.2.1.trans a.2.2.1, fun q => ⟨(c.2.2.2 q).1.trans (a.2.2.2 q).1, (c.2.2.2 q).2.trans (a.2.2.2 q).2⟩⟩
theorem agN_m {lo lo' e e' : Nat} {M M' : Mm} (h : agN lo e M M') (h1 : lo ≤ lo') (h2 : e' ≤ e) : agN lo' e' M M' := fun k a c => by
  have z := h k (by omega) (by omega)
  exact ⟨z.1, z.2.1, z.2.2.1, fun q => z.2.2.2 (by omega)⟩
/-- node e (its nodes lie from lo on) is what code C says, with fuel m -/
def Ev (M : Mm) (m lo e : Nat) (C : Cd) : Prop := lo ≤ e ∧ e < 4200 ∧ ∀ (M' : Mm) (env : Nat → BitVec 8), agN lo e M M' → (∀ k, (43, k) ∈ C → nameV M' k (env k)) → ∀ f, m ≤ f → ∃ v : BitVec 8, (∀ s, run env C s = v :: s) ∧ mv_Q f 0 (nI e) 0 M' ∧ mv_F f 0 (nI e) 0 M' = nI v.toNat
theorem Ev_c {M M2 : Mm} {m m' lo lo' e : Nat} {C : Cd} (h : Ev M m lo e C) (a : agN lo e M M2) (hm : m ≤ m') (hl : lo' ≤ lo) : Ev M2 m' lo' e C := ⟨Nat.le_trans hl h.1, h.2.1, fun M' env a' hn f hf => h.2.2 M' env (agN_t a (agN_m a' hl (Nat.le_refl _))) hn f (Nat.le_trans hm hf)⟩
theorem mvQ (m : Nat) (x0 x1 : Int32) (I : Mm) : mv_Q (m + 1) 0 x0 x1 I = pMo_value (mv_F m) (mv_Q m) 4002 x0 I := by rw [mv_Q.eq_2]; exact if_pos rfl
theorem mvF (m : Nat) (x0 x1 : Int32) (I : Mm) : mv_F (m + 1) 0 x0 x1 I = fMo_value (mv_F m) 4002 x0 I := by rw [mv_F.eq_2]; exact if_pos rfl
theorem Ev_num {M : Mm} {lo e n m : Nat} (hl : lo ≤ e) (he : e < 4200) (h52 : M 52 e = 0) (h53 : M 53 e = nI n) (hn : n < 256) : Ev M (m + 1) lo e [(44, n)] := by
  refine ⟨hl, he, fun M' env a _ f hf => ⟨BitVec.ofNat 8 n, fun s => ?_, ?_⟩⟩
  · rfl
  obtain ⟨f, rfl⟩ : ∃ f', f = f' + 1 := ⟨f - 1, by omega⟩
  have z := a e hl (Nat.le_refl _)
  have v : vp_in (nI e) 4200 := vp_in_nI he (by decide)
  have c0 : M' 52 e = 0 := z.1.trans h52
  rw [mvQ, mvF]
  unfold pMo_value fMo_value
  rw [nI_clamp (by omega), if_pos c0, z.2.1, h53]
  refine ⟨⟨v, fun _ => ⟨v, trivial⟩, fun q => absurd c0 q⟩, ?_⟩
  rw [BitVec.toNat_ofNat, Nat.mod_eq_of_lt hn]
theorem Ev_nam {M : Mm} {lo e k m : Nat} (hl : lo ≤ e) (he : e < 4200) (h52 : M 52 e = 1) (h53 : M 53 e = nI k) : Ev M (m + 1) lo e [(43, k)] := by
  refine ⟨hl, he, fun M' env a hn f hf => ⟨env k, fun s => ?_, ?_⟩⟩
  · rfl
  obtain ⟨f, rfl⟩ : ∃ f', f = f' + 1 := ⟨f - 1, by omega⟩
  have z := a e hl (Nat.le_refl _)
  have v : vp_in (nI e) 4200 := vp_in_nI he (by decide)
  have c0 : ¬ M' 52 e = 0 := by rw [z.1, h52]; decide
  have c1 : M' 52 e = 1 := z.1.trans h52
  obtain ⟨k60, nv⟩ := hn k List.mem_cons_self
  have vk : vp_in (nI k) 60 := vp_in_nI k60 (by decide)
  rw [mvQ, mvF]
  unfold pMo_value fMo_value
  rw [nI_clamp (by omega), if_neg c0, if_pos c1, z.2.1, h53, nI_clamp (by omega)]
  refine (fun (q : _ ∧ _) => ⟨⟨v, fun r => absurd r c0, fun _ => ⟨fun _ => ⟨v, vk, q.1⟩, fun r => absurd c1 r⟩⟩, q.2⟩) ?_
  rcases nv with ⟨g1, w, hw, g2, g3⟩ | ⟨g1, w, hw, g2, g3⟩ | ⟨g1, w, hw, g2, g3⟩
  · rw [if_pos g1, g2, nI_clamp (by omega)]
    exact ⟨⟨fun _ => ⟨v, vk, vp_in_nI hw (by decide), trivial⟩, fun r => absurd g1 r⟩, g3⟩
  · have g0 : ¬ M' 44 k = 1 := by rw [g1]; decide
    rw [if_neg g0, if_pos g1, g2, nI_clamp (by omega)]
    exact ⟨⟨fun r => absurd r g0, fun _ => ⟨v, vk, fun _ => ⟨v, vk, vp_in_nI hw (by decide), trivial⟩, fun r => absurd g1 r⟩⟩, g3⟩
  · have g0 : ¬ M' 44 k = 1 := by rw [g1]; decide
    have g00 : ¬ M' 44 k = 2 := by rw [g1]; decide
    rw [if_neg g0, if_neg g00, g2, nI_clamp (by omega)]
    exact ⟨⟨fun r => absurd r g0, fun _ => ⟨v, vk, fun r => absurd r g00, fun _ => ⟨v, vk, vp_in_nI hw (by decide), trivial⟩⟩⟩, g3⟩
/-- - ~ ! before an operand -/
theorem Ev_un {M : Mm} {lo e x m o t : Nat} {C : Cd} (ho : (o = 49 ∧ t = 45) ∨ (o = 18 ∧ t = 126) ∨ (o = 19 ∧ t = 33)) (hx : Ev M m lo x C) (hxe : x < e) (he : e < 4200) (h52 : M 52 e = 2) (h53 : M 53 e = nI t) (h54 : M 54 e = nI x) : Ev M (m + 1) lo e (C ++ [(o, 0)]) := by
  refine ⟨by have := hx.1; omega, he, fun M' env a hn f hf => ?_⟩
  have hl := hx.1
  obtain ⟨f, rfl⟩ : ∃ f', f = f' + 1 := ⟨f - 1, by omega⟩
  obtain ⟨w, w1, w2, w3⟩ := hx.2.2 M' env (agN_m a (Nat.le_refl _) (by omega)) (fun k hk => hn k (List.mem_append_left _ hk)) f (by omega)
  have z := a e (by omega) (Nat.le_refl _)
  have v : vp_in (nI e) 4200 := vp_in_nI he (by decide)
  have c0 : ¬ M' 52 e = 0 := by rw [z.1, h52]; decide
  have c1 : ¬ M' 52 e = 1 := by rw [z.1, h52]; decide
  have c2 : M' 52 e = 2 := z.1.trans h52
  have hw := bvn w
  have u := um w.toNat hw
  rw [b8_of] at u
  have e0 : nI w.toNat = 0 ↔ w = 0#8 := (nI_eq (a := w.toNat) (b := 0) (by omega) (by decide)).trans (b0n w).symm
  rw [mvQ, mvF]
  unfold pMo_value fMo_value
  rw [nI_clamp (by omega), if_neg c0, if_neg c1, if_pos c2, z.2.1, h53, z.2.2.1, h54, w3]
  rcases ho with ⟨rfl, rfl⟩ | ⟨rfl, rfl⟩ | ⟨rfl, rfl⟩
  · refine ⟨-w, fun s => by rw [run_app, w1]; rfl, ⟨v, fun r => absurd r c0, fun _ => ⟨fun r => absurd r c1, fun _ => ⟨fun _ => ⟨v, w2, v, fun _ => trivial, fun _ => ⟨v, fun _ => trivial, fun _ => ⟨fun _ => trivial, fun _ => trivial⟩⟩⟩, fun r => absurd c2 r⟩⟩⟩, ?_⟩
    rw [if_pos (show nI 45 = (45 : Int32) from rfl)]; exact u.1
  · refine ⟨~~~w, fun s => by rw [run_app, w1]; rfl, ⟨v, fun r => absurd r c0, fun _ => ⟨fun r => absurd r c1, fun _ => ⟨fun _ => ⟨v, w2, v, fun _ => trivial, fun _ => ⟨v, fun _ => trivial, fun _ => ⟨fun _ => trivial, fun _ => trivial⟩⟩⟩, fun r => absurd c2 r⟩⟩⟩, ?_⟩
    rw [if_neg (by decide), if_pos (show nI 126 = (126 : Int32) from rfl)]; exact u.2
  · refine ⟨b1 (decide (w = 0#8)), fun s => by rw [run_app, w1]; rfl, ⟨v, fun r => absurd r c0, fun _ => ⟨fun r => absurd r c1, fun _ => ⟨fun _ => ⟨v, w2, v, fun _ => trivial, fun _ => ⟨v, fun _ => trivial, fun _ => ⟨fun _ => trivial, fun _ => trivial⟩⟩⟩, fun r => absurd c2 r⟩⟩⟩, ?_⟩
    rw [if_neg (by decide), if_neg (by decide), b1n]
    by_cases c : w = 0#8
    · rw [if_pos (e0.mpr c), decide_eq_true c]; rfl
    · rw [if_neg (fun q => c (e0.mp q)), decide_eq_false c]; rfl
/-- the operands of a chain up to node l are joined: code C; c of them behind the first, which is x0 -/
def PC (M : Mm) (m lo x0 l c : Nat) (C : Cd) : Prop := lo ≤ x0 ∧ x0 ≤ l ∧ l < 4200 ∧ ∀ (M' : Mm) (env : Nat → BitVec 8), agN lo l M M' → M' 56 l = M 56 l → (∀ k, (43, k) ∈ C → nameV M' k (env k)) → ∀ f, m ≤ f → ∃ v : BitVec 8, (∀ s, run env C s = v :: s) ∧ mv_Q f 0 (nI x0) 0 M' ∧ ∀ (n : Nat) (y : Int32) (Q : Int32 → Prop), (pMo_value_214 (mv_F f) (mv_Q f) n y (nI v.toNat) (M' 55 l) M' ∧ Q (fMo_value_214 (mv_F f) n y (nI v.toNat) (M' 55 l) M')) → pMo_value_214 (mv_F f) (mv_Q f) (n + c) y (mv_F f 0 (nI x0) 0 M') (M' 55 x0) M' ∧ Q (fMo_value_214 (mv_F f) (n + c) y (mv_F f 0 (nI x0) 0 M') (M' 55 x0) M')
theorem PC_0 {M : Mm} {m lo x : Nat} {C : Cd} (h : Ev M m lo x C) : PC M m lo x x 0 C := by
  refine ⟨h.1, Nat.le_refl _, h.2.1, fun M' env a _ hn f hf => ?_⟩
  obtain ⟨v, v1, v2, v3⟩ := h.2.2 M' env a hn f hf
  refine ⟨v, v1, v2, fun n y Q hq => ?_⟩
  rw [v3]; exact hq
theorem PC_c {M M2 : Mm} {m lo x0 l c : Nat} {C : Cd} (h : PC M m lo x0 l c C) (a : agN lo l M M2) (a6 : M2 56 l = M 56 l) : PC M2 m lo x0 l c C := ⟨h.1, h.2.1, h.2.2.1, fun M' env a' b' hn f hf => h.2.2.2 M' env (agN_t a a') (b'.trans a6) hn f hf⟩
theorem PC_s {M : Mm} {m lo x0 l c lo2 x t : Nat} {C D : Cd} (h : PC M m lo x0 l c C) (hx : Ev M m lo2 x D) (hl2 : l < lo2) (ht : 0 < tyt t) (h55 : M 55 l = nI x) (h56 : M 56 x = nI (mt t)) : PC M m lo x0 x (c + 1) (C ++ (D ++ [(t, 0)])) := by
  have q1 := hx.1
  have q2 := h.2.1
  refine ⟨h.1, by omega, hx.2.1, fun M' env a b' hn f hf => ?_⟩
  have q0 := h.1
  obtain ⟨v, v1, v2, v3⟩ := h.2.2.2 M' env (agN_m a (Nat.le_refl _) (by omega)) ((a l (by omega) (by omega)).2.2.2 (by omega)).2 (fun k hk => hn k (List.mem_append_left _ hk)) f hf
  obtain ⟨w, w1, w2, w3⟩ := hx.2.2 M' env (agN_m a (by omega) (Nat.le_refl _)) (fun k hk => hn k (List.mem_append_right _ (List.mem_append_left _ hk))) f hf
  have e55 : M' 55 l = nI x := (((a l (by omega) (by omega)).2.2.2 (by omega)).1).trans h55
  have e56 : M' 56 x = nI (mt t) := b'.trans h56
  refine ⟨jo t v w, fun s => ?_, v2, fun n y Q hq => ?_⟩
  · rw [run_app, v1, run_app, w1]
    show st1 env (t, 0) (w :: v :: s) = _
    exact st_op env ht v w s
  · have z := v3 (n + 1) y Q ?_
    · rw [show n + (c + 1) = n + 1 + c by omega]; exact z
    · have vx : vp_in (nI x) 4200 := vp_in_nI hx.2.1 (by decide)
      have c0 : ¬ nI x < 0 := nI_pos (by have := hx.2.1; omega)
      rw [e55, pMo_value_214.eq_2, fMo_value_214.eq_2]
      refine itn c0 ?_
      rw [nI_clamp (by have := hx.2.1; omega), e56, w3, jm (tyt_op ht) v w]
      exact sq vx (sq w2 (sq (pJm _ _ _) (sq vx hq)))
/-- a chain (or what stands in brackets) -/
theorem Ev_ch {M : Mm} {m lo x0 l c e : Nat} {C : Cd} (h : PC M m lo x0 l c C) (hle : l < e) (he : e < 4200) (hc : c < 4001) (h52 : M 52 e = 3) (h54 : M 54 e = nI x0) (h55 : M 55 l = -1) : Ev M (m + 1) lo e C := by
  have q0 := h.1
  have q1 := h.2.1
  refine ⟨by omega, he, fun M' env a hn f hf => ?_⟩
  obtain ⟨f, rfl⟩ : ∃ f', f = f' + 1 := ⟨f - 1, by omega⟩
  have al := (a l (by omega) (by omega)).2.2.2 (by omega)
  obtain ⟨v, v1, v2, v3⟩ := h.2.2.2 M' env (agN_m a (Nat.le_refl _) (by omega)) al.2 hn f (by omega)
  have z := a e (by omega) (Nat.le_refl _)
  have ve : vp_in (nI e) 4200 := vp_in_nI he (by decide)
  have vx : vp_in (nI x0) 4200 := vp_in_nI (by omega) (by decide)
  have c0 : ¬ M' 52 e = 0 := by rw [z.1, h52]; decide
  have c1 : ¬ M' 52 e = 1 := by rw [z.1, h52]; decide
  have c2 : ¬ M' 52 e = 2 := by rw [z.1, h52]; decide
  have c3 : M' 52 e = 3 := z.1.trans h52
  refine ⟨v, v1, ?_⟩
  rw [mvQ, mvF]
  unfold pMo_value fMo_value
  rw [nI_clamp (n := e) (by omega), if_neg c0, if_neg c1, if_neg c2, if_pos c3, z.2.2.1, h54, nI_clamp (n := x0) (by omega)]
  have w := v3 (4002 - c) (nI e) (fun r => r = nI v.toNat) ?_
  · rw [show 4002 - c + c = 4002 by omega] at w
    exact ⟨⟨ve, fun r => absurd r c0, fun _ => ⟨fun r => absurd r c1, fun _ => ⟨fun r => absurd r c2, fun _ => ⟨fun _ => ⟨ve, v2, ve, vx, w.1⟩, fun r => absurd c3 r⟩⟩⟩⟩, w.2⟩
  · obtain ⟨n9, e9⟩ : ∃ n9, 4002 - c = n9 + 1 := ⟨4001 - c, by omega⟩
    have em : M' 55 l = -1 := al.1.trans h55
    rw [e9, em, pMo_value_214.eq_2, fMo_value_214.eq_2]
    exact itp (Q := fun r => r = nI v.toNat) (by decide) ⟨trivial, rfl⟩
theorem Ev_par {M : Mm} {m lo x e : Nat} {C : Cd} (h : Ev M m lo x C) (hxe : x < e) (he : e < 4200) (h52 : M 52 e = 3) (h54 : M 54 e = nI x) (h55 : M 55 x = -1) : Ev M (m + 1) lo e C := Ev_ch (PC_0 h) hxe he (by decide) h52 h54 h55
theorem Ev_cho {M : Mm} {m lo x lo2 y lo3 z e : Nat} {C D F : Cd} (hx : Ev M m lo x C) (hy : Ev M m lo2 y D) (hz : Ev M m lo3 z F) (h1 : x < lo2) (h2 : y < lo3) (h3 : z < e) (he : e < 4200) (h52 : M 52 e = 4) (h54 : M 54 e = nI x) (h55x : M 55 x = nI y) (h55y : M 55 y = nI z) : Ev M (m + 1) lo e (C ++ (D ++ (F ++ [(50, 0)]))) := by
  have a1 := hx.1
  have a2 := hy.1
  have a3 := hz.1
  refine ⟨by omega, he, fun M' env a hn f hf => ?_⟩
  obtain ⟨f, rfl⟩ : ∃ f', f = f' + 1 := ⟨f - 1, by omega⟩
  obtain ⟨u, u1, u2, u3⟩ := hx.2.2 M' env (agN_m a (Nat.le_refl _) (by omega)) (fun k hk => hn k (List.mem_append_left _ hk)) f (by omega)
  obtain ⟨v, v1, v2, v3⟩ := hy.2.2 M' env (agN_m a (by omega) (by omega)) (fun k hk => hn k (List.mem_append_right _ (List.mem_append_left _ hk))) f (by omega)
  obtain ⟨w, w1, w2, w3⟩ := hz.2.2 M' env (agN_m a (by omega) (by omega)) (fun k hk => hn k (List.mem_append_right _ (List.mem_append_right _ (List.mem_append_left _ hk)))) f (by omega)
  have q := a e (by omega) (Nat.le_refl _)
  have ve : vp_in (nI e) 4200 := vp_in_nI he (by decide)
  have vx : vp_in (nI x) 4200 := vp_in_nI (by omega) (by decide)
  have vy : vp_in (nI y) 4200 := vp_in_nI (by omega) (by decide)
  have c0 : ¬ M' 52 e = 0 := by rw [q.1, h52]; decide
  have c1 : ¬ M' 52 e = 1 := by rw [q.1, h52]; decide
  have c2 : ¬ M' 52 e = 2 := by rw [q.1, h52]; decide
  have c3 : ¬ M' 52 e = 3 := by rw [q.1, h52]; decide
  have ex : M' 55 x = nI y := (((a x (by omega) (by omega)).2.2.2 (by omega)).1).trans h55x
  have ey : M' 55 y = nI z := (((a y (by omega) (by omega)).2.2.2 (by omega)).1).trans h55y
  have hu := bvn u
  have e0 : nI u.toNat = 0 ↔ u = 0#8 := (nI_eq (a := u.toNat) (b := 0) (by omega) (by decide)).trans (b0n u).symm
  refine ⟨if u = 0#8 then w else v, fun s => ?_, ?_⟩
  · rw [run_app, u1, run_app, v1, run_app, w1]; rfl
  rw [mvQ, mvF]
  unfold pMo_value fMo_value
  rw [nI_clamp (n := e) (by omega), if_neg c0, if_neg c1, if_neg c2, if_neg c3, q.2.2.1, h54, nI_clamp (n := x) (by omega), ex, nI_clamp (n := y) (by omega), ey, u3, v3, w3]
  refine ⟨⟨ve, fun r => absurd r c0, fun _ => ⟨fun r => absurd r c1, fun _ => ⟨fun r => absurd r c2, fun _ => ⟨fun r => absurd r c3, fun _ => ⟨ve, u2, fun _ => ⟨vx, vy, w2, trivial⟩, fun _ => ⟨vx, v2, trivial⟩⟩⟩⟩⟩⟩, ?_⟩
  by_cases c : u = 0#8
  · rw [if_pos (e0.mpr c), if_pos c]
  · rw [if_neg (fun q => c (e0.mp q)), if_neg c]
