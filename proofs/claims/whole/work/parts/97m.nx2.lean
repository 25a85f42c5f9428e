/-! CLASS'S VALUES 3: lanes read; the rows of regs and inputs -/
theorem u8 : ∀ m, m < 8 → (((nI (m * 8)).toInt64.toUInt64 &&& Int64.toUInt64 63).toBitVec % 64).toNat = 8 * m := by decide +kernel
theorem ln_get (x : Int64) {m : Nat} (hm : m < 8) : ((x.toUInt64 >>> ((nI (m * 8)).toInt64.toUInt64 &&& Int64.toUInt64 63)).toInt64).toInt32 &&& (255 : Int32) = nI (ln x m).toNat := by
  rw [pk_and _ 8 (by decide)]
  congr 1
  rw [ln_nat, Int64.toBitVec_toInt32, UInt64.toBitVec_toInt64, UInt64.toBitVec_shiftRight, Int64.toBitVec_toUInt64, BitVec.ushiftRight_eq', u8 m hm, BitVec.signExtend_eq_setWidth_of_le _ (by decide), BitVec.toNat_setWidth, BitVec.toNat_ushiftRight, Nat.shiftRight_eq_div_pow, Nat.pow_mul, two8]
  exact Nat.mod_mod_of_dvd _ (by decide)
section
variable {I : Mm} {J : Ml}
theorem va_lane {row c : Nat} (hr : row + 256 ≤ 51200) (hc : c < 2048) : pVa_lane (nI row) (nI c) I J ∧ fVa_lane (nI row) (nI c) I J = nI (lv J row c).toNat := by
  have e1 : nI c >>> ((3 : Int32) &&& 31) = nI (c / 2 ^ 3) := pk_shrN (by omega) _ 3 (by decide)
  have e2 : nI c &&& (7 : Int32) = nI (c % 2 ^ 3) := pk_andN (by omega) 3 (by decide)
  have e3 : nI (c % 2 ^ 3) * (8 : Int32) = nI (c % 2 ^ 3 * 8) := pk_mul _ 8
  unfold pVa_lane fVa_lane
  rw [e1, e2, e3, nI_add, nI_clamp (by omega)]
  exact ⟨⟨vp_in_nI (by omega) (by decide), trivial⟩, ln_get _ (Nat.mod_lt _ (by decide))⟩
theorem vx_last {W : Nat} {S : List (Nat → BitVec 8)} {f : Nat → BitVec 8} (h : vT W I J (f :: S)) {c : Nat} (hc : c < 8 * W) : pVa_ofLast (nI c) I J ∧ fVa_ofLast (nI c) I J = nI (f c).toNat := by
  obtain ⟨h1, h2, h3, h4, h5, ⟨row, g1, g2, g3⟩, h6⟩ := h
  rw [List.length_cons] at h4 h5
  have c0 : ¬ I 22 3 ≤ 0 := by rw [h4]; exact nI_nle (by omega) (by omega)
  have e1 : I 22 3 - 1 = nI S.length := by rw [h4]; exact nI_pred _
  have z := va_lane (I := I) (J := J) (row := row) (c := c) (rwk_b g2 (by omega)) (by omega)
  unfold pVa_ofLast fVa_ofLast
  rw [if_neg c0, e1, nI_clamp (by omega), g1, z.2, g3 c hc]
  exact ⟨⟨fun q => absurd q c0, fun _ => ⟨vp_in_nI (by omega) (by decide), z.1, trivial⟩⟩, rfl⟩
theorem va_name {k c : Nat} (hk : k < 60) (hc : c < 2048) : pVa_ofName (nI k) (nI c) I J ∧ fVa_ofName (nI k) (nI c) I J = nI (lv J (k * 256) c).toNat := by
  have z := va_lane (I := I) (J := J) (row := k * 256) (c := c) (by omega) hc
  unfold pVa_ofName fVa_ofName
  rw [rowN]
  exact ⟨⟨trivial, z.1, trivial⟩, z.2⟩
theorem va_drop {W : Nat} {S : List (Nat → BitVec 8)} {f : Nat → BitVec 8} (h : vT W I J (f :: S)) (J' : Ml) : pVa_drop I J' ∧ fVa_drop I J' = pm_u I 22 3 (nI S.length) := by
  obtain ⟨h1, h2, h3, h4, h5, h6⟩ := h
  rw [List.length_cons] at h4 h5
  have c0 : ¬ I 22 3 ≤ 0 := by rw [h4]; exact nI_nle (by omega) (by omega)
  have e1 : I 22 3 - 1 = nI S.length := by rw [h4]; exact nI_pred _
  unfold pVa_drop fVa_drop
  rw [if_neg c0, e1]
  exact ⟨⟨fun q => absurd q c0, fun _ => trivial⟩, rfl⟩
end
/-! a row is filled -/
theorem l8 : ((((8 : Int32) : Int32).toInt64 &&& 63).toBitVec.smod 64).toNat = 8 := by decide
theorem ln_sh8 (y : Int64) {k : Nat} (hk : k < 8) : ln (y <<< ((((8 : Int32) : Int32)).toInt64 &&& 63)) k = if k = 0 then 0#8 else ln y (k - 1) := by
  apply BitVec.eq_of_getLsbD_eq
  intro i hi
  rw [ln_bit _ _ hi, Int64.toBitVec_shiftLeft, BitVec.shiftLeft_eq', l8, BitVec.getLsbD_shiftLeft]
  by_cases c : k = 0
  · rw [if_pos c, c]
    simp
    omega
  · rw [if_neg c, ln_bit _ _ hi]
    have h1 : ¬ (8 * k + i < 8) := by omega
    have h2 : 8 * k + i < 64 := by omega
    rw [show 8 * (k - 1) + i = 8 * k + i - 8 by omega]
    simp [h1, h2]
theorem ln_i64 {v : Nat} (hv : v < 256) {k : Nat} (hk : k < 8) : ln (nI v).toInt64 k = if k = 0 then BitVec.ofNat 8 v else 0#8 := by
  apply BitVec.eq_of_toNat_eq
  rw [ln_nat, i64n v hv]
  by_cases c : k = 0
  · rw [if_pos c, c, BitVec.toNat_ofNat]; simp
  · rw [if_neg c]
    have : 256 ^ 1 ≤ 256 ^ k := Nat.pow_le_pow_right (by decide) (by omega)
    rw [Nat.div_eq_of_lt (by omega)]; rfl
theorem ln_ap8 (y : Int64) {v : Nat} (hv : v < 256) {k : Nat} (hk : k < 8) : ln ((y <<< ((((8 : Int32) : Int32)).toInt64 &&& 63)) ||| (nI v).toInt64) k = if k = 0 then BitVec.ofNat 8 v else ln y (k - 1) := by
  rw [ln_or, ln_sh8 y hk, ln_i64 hv hk]
  by_cases c : k = 0
  · rw [if_pos c, if_pos c, if_pos c]; exact BitVec.zero_or
  · rw [if_neg c, if_neg c, if_neg c]; exact BitVec.or_zero
theorem sh_val {c bh w : Nat} (hc : c < 2048) (hb : bh ≤ 11) (hw : w ≤ 8) : (nI c >>> (nI bh &&& 31)) &&& nI (2 ^ w - 1) = nI (c / 2 ^ bh % 2 ^ w) := by
  have p8 : 2 ^ w ≤ 2 ^ 8 := Nat.pow_le_pow_right (by decide) hw
  have : c / 2 ^ bh ≤ c := Nat.div_le_self _ _
  rw [pk_shrN (by omega) _ bh (smk bh (by omega))]
  exact pk_andN (by omega) w (pk_tn (by omega))
section
variable {I : Mm}
theorem fill_in {bh w : Nat} (hb : bh ≤ 11) (hw : w ≤ 8) {q32 : Int32 → Int32 → Int32 → Int32 → Int32 → Mm → Ml → Prop} {r32 : Int32 → Int32 → Int32 → Int32 → Int32 → Mm → Ml → Ml} {row i : Nat} (hr : row + 256 ≤ 51200) (hi : i < 256) (y1 : Int32) (J : Ml) (Q : Ml → Prop)
    (hf : ∀ y6 : Int64, (∀ k, k < 8 → ln y6 k = BitVec.ofNat 8 ((i * 8 + k) / 2 ^ bh % 2 ^ w)) → q32 y1 (nI row) (nI bh) (nI (2 ^ w - 1)) (nI (i + 1)) I (pm_u J 23 (row + i) y6) ∧ Q (r32 y1 (nI row) (nI bh) (nI (2 ^ w - 1)) (nI (i + 1)) I (pm_u J 23 (row + i) y6))) :
    ∀ (n t : Nat) (y6 : Int64), t ≤ 8 → t < n → (∀ k, k < 8 - t → ln y6 k = BitVec.ofNat 8 ((i * 8 + t + k) / 2 ^ bh % 2 ^ w)) → pVa_fillRow_48 q32 n y1 (nI row) (nI bh) (nI (2 ^ w - 1)) (nI i) y6 (nI t - 1) I J ∧ Q (fVa_fillRow_48 r32 n y1 (nI row) (nI bh) (nI (2 ^ w - 1)) (nI i) y6 (nI t - 1) I J) := by
  intro n
  induction n with
  | zero => intro t y6 _ h; omega
  | succ n ih =>
    intro t y6 ht hn hy
    rw [pVa_fillRow_48.eq_2, fVa_fillRow_48.eq_2]
    rcases Nat.eq_zero_or_pos t with h0 | h0
    · subst h0
      have c : nI 0 - 1 < 0 := by decide
      have z := hf y6 (fun k hk => by have := hy k hk; rw [Nat.add_zero] at this; exact this)
      rw [if_pos c, nI_add, nI_clamp (by omega), nI_i1]
      exact ⟨⟨fun _ => ⟨vp_in_nI (by omega) (by decide), z.1⟩, fun q => absurd c q⟩, z.2⟩
    · obtain ⟨t, rfl⟩ : ∃ s, t = s + 1 := ⟨t - 1, by omega⟩
      rw [nI_pred]
      have c : ¬ nI t < 0 := nI_pos (by omega)
      have e1 : nI i * (8 : Int32) = nI (i * 8) := pk_mul _ 8
      have e2 : nI t + Int32.ofInt (-1) = nI t - 1 := by rw [show Int32.ofInt (-1) = (-1 : Int32) by decide, Int32.sub_eq_add_neg]
      have v8 : (i * 8 + t) / 2 ^ bh % 2 ^ w < 256 := by
        have : (i * 8 + t) / 2 ^ bh % 2 ^ w < 2 ^ w := Nat.mod_lt _ (Nat.two_pow_pos _)
        have : 2 ^ w ≤ 2 ^ 8 := Nat.pow_le_pow_right (by decide) hw
        omega
      rw [if_neg c, e1, nI_add (i * 8) t, sh_val (c := i * 8 + t) (by omega) hb hw, e2]
      have z := ih t ((y6 <<< ((((8 : Int32) : Int32)).toInt64 &&& 63)) ||| (nI ((i * 8 + t) / 2 ^ bh % 2 ^ w)).toInt64) (by omega) (by omega) (fun k hk => by
        rw [ln_ap8 _ v8 (by omega)]
        by_cases ck : k = 0
        · rw [if_pos ck, ck, Nat.add_zero]
        · rw [if_neg ck, hy (k - 1) (by omega), show i * 8 + (t + 1) + (k - 1) = i * 8 + t + k by omega])
      exact ⟨⟨fun q => absurd q c, fun _ => z.1⟩, z.2⟩
theorem fill_row {W bh w : Nat} (hW : I 22 4 = nI W) (hW' : W ≤ 256) (hb : bh ≤ 11) (hw : w ≤ 8) {row : Nat} (hr : row + 256 ≤ 51200) (y1 : Int32) : ∀ (n i : Nat) (J : Ml), i ≤ W → W - i < n → pVa_fillRow_32 9 n y1 (nI row) (nI bh) (nI (2 ^ w - 1)) (nI i) I J ∧ ∃ J', fVa_fillRow_32 9 n y1 (nI row) (nI bh) (nI (2 ^ w - 1)) (nI i) I J = J' ∧ (∀ a, a ≠ 23 → J' a = J a) ∧ (∀ j, (j < row + i ∨ row + W ≤ j) → J' 23 j = J 23 j) ∧ ∀ t, i ≤ t → t < W → ∀ k, k < 8 → ln (J' 23 (row + t)) k = BitVec.ofNat 8 ((t * 8 + k) / 2 ^ bh % 2 ^ w) := by
  intro n
  induction n with
  | zero => intro i J _ h; omega
  | succ n ih =>
    intro i J hi hn
    rw [pVa_fillRow_32.eq_2, fVa_fillRow_32.eq_2]
    by_cases c : W ≤ i
    · have c' : I 22 4 ≤ nI i := by rw [hW]; exact nI_le c (by omega)
      rw [if_pos c']
      exact ⟨⟨fun _ => trivial, fun q => absurd c' q⟩, J, rfl, fun _ _ => rfl, fun _ _ => rfl, fun t h1 h2 => by omega⟩
    · have c' : ¬ I 22 4 ≤ nI i := by rw [hW]; exact nI_ge (by omega) (by omega)
      rw [if_neg c']
      have z := fill_in hb hw (q32 := pVa_fillRow_32 9 n) (r32 := fVa_fillRow_32 9 n) (I := I) hr (show i < 256 by omega) y1 J (fun X => ∃ J', X = J' ∧ (∀ a, a ≠ 23 → J' a = J a) ∧ (∀ j, (j < row + i ∨ row + W ≤ j) → J' 23 j = J 23 j) ∧ ∀ t, i ≤ t → t < W → ∀ k, k < 8 → ln (J' 23 (row + t)) k = BitVec.ofNat 8 ((t * 8 + k) / 2 ^ bh % 2 ^ w)) (fun y6 hy => by
        obtain ⟨z1, J', z2, z3, z4, z5⟩ := ih (i + 1) (pm_u J 23 (row + i) y6) (by omega) (by omega)
        refine ⟨z1, J', z2, fun a ha => by rw [z3 a ha, pm_u_n _ _ _ ha], fun j hj => by rw [z4 j (by omega), pm_u_j _ _ _ (by omega)], fun t h1 h2 => ?_⟩
        by_cases ct : t = i
        · rw [ct, z4 (row + i) (by omega), pm_u_s]; exact hy
        · exact z5 t (by omega) h2) 9 8 0 (by omega) (by omega) (fun k hk => by omega)
      have e7 : nI 8 - 1 = (7 : Int32) := by decide
      rw [e7] at z
      exact ⟨⟨fun q => absurd q c', fun _ => z.1⟩, z.2⟩
end
/-! what the class knows of a circuit -/
def cC (Nm : NmT) (rb ib : Nat) (I : Mm) : Prop := I 3 5 = nI Nm.length ∧ Nm.length ≤ 60 ∧ I 3 7 = nI rb ∧ I 3 8 = nI ib ∧ rb = bs 29 Nm ∧ ib = bs 30 Nm ∧ rb ≤ 8 ∧ ib ≤ 3 ∧ (∀ (k : Nat) (x : Nat × Nat × Nat × Nat), Nm[k]? = some x → nW Nm k x) ∧ ∀ k, k < Nm.length → I 4 k = nI (kd Nm k) ∧ I 5 k = nI (wd Nm k) ∧ I 6 k = nI (pt Nm k)
theorem cC_c {Nm : NmT} {rb ib : Nat} {I I' : Mm} (h : cC Nm rb ib I) (e3 : I' 3 = I 3) (e4 : I' 4 = I 4) (e5 : I' 5 = I 5) (e6 : I' 6 = I 6) : cC Nm rb ib I' := by
  unfold cC at h ⊢
  rw [e3, e4, e5, e6]; exact h
theorem gN {Nm : NmT} {k : Nat} (h : k < Nm.length) : ∃ x, Nm[k]? = some x := ⟨_, List.getElem?_eq_getElem h⟩
theorem cC_r {Nm : NmT} {rb ib : Nat} {I : Mm} (h : cC Nm rb ib I) {k : Nat} (hk : k < Nm.length) (h29 : kd Nm k = 29) : pt Nm k = bs 29 (Nm.take (k + 1)) ∧ wd Nm k ≤ pt Nm k ∧ pt Nm k ≤ rb := by
  obtain ⟨x, hx⟩ := gN hk
  have hw := h.2.2.2.2.2.2.2.2.1 k x hx
  have m := bs_mo (t := 29) (Nm := Nm) (show k + 1 ≤ Nm.length from hk) (Nat.le_refl _)
  have bt := bs_t (t := 29) hk
  have hb := h.2.2.2.2.1
  rw [tk_all (Nat.le_refl _), ← hb] at m
  rw [if_pos h29] at bt
  rw [kd_s hx] at h29
  rw [pt_s hx]
  rw [wd_s hx] at bt ⊢
  rcases hw with w | w | w | w
  · have := w.2.2; omega
  · have := w.1; omega
  · have := w.1; omega
  · have := w.1; omega
theorem cC_i {Nm : NmT} {rb ib : Nat} {I : Mm} (h : cC Nm rb ib I) {k : Nat} (hk : k < Nm.length) (h30 : kd Nm k = 30) : pt Nm k = bs 30 (Nm.take (k + 1)) ∧ wd Nm k ≤ pt Nm k ∧ pt Nm k ≤ ib := by
  obtain ⟨x, hx⟩ := gN hk
  have hw := h.2.2.2.2.2.2.2.2.1 k x hx
  have m := bs_mo (t := 30) (Nm := Nm) (show k + 1 ≤ Nm.length from hk) (Nat.le_refl _)
  have bt := bs_t (t := 30) hk
  have hb := h.2.2.2.2.2.1
  rw [tk_all (Nat.le_refl _), ← hb] at m
  rw [if_pos h30] at bt
  rw [kd_s hx] at h30
  rw [pt_s hx]
  rw [wd_s hx] at bt ⊢
  rcases hw with w | w | w | w
  · have := w.1; omega
  · have := w.2.2; omega
  · have := w.1; omega
  · have := w.1; omega
def fC (Nm : NmT) (rb ib c k : Nat) : Nat := fV Nm rb ib (c / 2 ^ ib) (c % 2 ^ ib) k
theorem fC_r {Nm : NmT} {rb ib c k : Nat} (h : kd Nm k = 29) : fC Nm rb ib c k = c / 2 ^ (rb - pt Nm k + ib) % 2 ^ wd Nm k := by
  unfold fC fV
  rw [if_pos h, Nat.div_div_eq_div_mul, ← Nat.pow_add, Nat.add_comm ib]; rfl
theorem fC_i {Nm : NmT} {rb ib c k : Nat} (h : kd Nm k = 30) (hp : pt Nm k ≤ ib) (hw : wd Nm k ≤ pt Nm k) : fC Nm rb ib c k = c / 2 ^ (ib - pt Nm k) % 2 ^ wd Nm k := by
  unfold fC fV
  rw [if_neg (by omega), if_pos h]
  show c % 2 ^ ib / 2 ^ (ib - pt Nm k) % 2 ^ wd Nm k = _
  have e : 2 ^ ib = 2 ^ (ib - pt Nm k) * 2 ^ pt Nm k := by rw [← Nat.pow_add]; congr 1; omega
  rw [e, Nat.mod_mul_right_div_self]
  exact Nat.mod_mod_of_dvd _ (Nat.pow_dvd_pow 2 hw)
section
variable {Nm : NmT} {rb ib : Nat} {I : Mm}
theorem fill_name {W : Nat} {J : Ml} (h : cC Nm rb ib I) (hW : I 22 4 = nI W) (hW' : W ≤ 256) {k : Nat} (hk : k < Nm.length) (hkd : kd Nm k = 29 ∨ kd Nm k = 30) : pVa_fillRow 9 257 (nI k) I J ∧ ∃ J', fVa_fillRow 9 257 (nI k) I J = J' ∧ (∀ a, a ≠ 23 → J' a = J a) ∧ (∀ j, (j < k * 256 ∨ k * 256 + 256 ≤ j) → J' 23 j = J 23 j) ∧ ∀ c, c < 8 * W → lv J' (k * 256) c = BitVec.ofNat 8 (fC Nm rb ib c k) := by
  have n60 := h.2.1
  obtain ⟨i4, i5, i6⟩ := h.2.2.2.2.2.2.2.2.2 k hk
  have r8 := h.2.2.2.2.2.2.1
  have b3 := h.2.2.2.2.2.2.2.1
  have v60 : vp_in (nI k) 60 := vp_in_nI (by omega) (by decide)
  have key : ∀ bh w : Nat, bh ≤ 11 → w ≤ 8 → wd Nm k = w → (pCi_bitsBehind (nI k) I J) → fCi_bitsBehind (nI k) I J = nI bh → (∀ c, fC Nm rb ib c k = c / 2 ^ bh % 2 ^ w) → pVa_fillRow 9 257 (nI k) I J ∧ ∃ J', fVa_fillRow 9 257 (nI k) I J = J' ∧ (∀ a, a ≠ 23 → J' a = J a) ∧ (∀ j, (j < k * 256 ∨ k * 256 + 256 ≤ j) → J' 23 j = J 23 j) ∧ ∀ c, c < 8 * W → lv J' (k * 256) c = BitVec.ofNat 8 (fC Nm rb ib c k) := by
    intro bh w hb hw ew pb eb ev
    have em : ((1 : Int32) <<< (I 5 k &&& 31)) - 1 = nI (2 ^ w - 1) := by
      rw [i5, ew]
      exact (show ∀ w, w ≤ 8 → ((1 : Int32) <<< (nI w &&& 31)) - 1 = nI (2 ^ w - 1) by decide +kernel) w hw
    obtain ⟨z1, J', z2, z3, z4, z5⟩ := fill_row hW hW' hb hw (row := k * 256) (by omega) (nI k) 257 0 J (Nat.zero_le _) (by omega)
    have z1' : pVa_fillRow_32 9 257 (nI k) (nI (k * 256)) (nI bh) (nI (2 ^ w - 1)) 0 I J := z1
    have z2' : fVa_fillRow_32 9 257 (nI k) (nI (k * 256)) (nI bh) (nI (2 ^ w - 1)) 0 I J = J' := z2
    unfold pVa_fillRow fVa_fillRow
    rw [nI_clamp (by omega), em, rowN, eb, z2']
    refine ⟨⟨trivial, pb, v60, z1'⟩, J', rfl, z3, fun j hj => ?_, fun c hc => ?_⟩
    · refine z4 j ?_
      rw [Nat.add_zero]
      rcases hj with hj | hj
      · exact Or.inl hj
      · exact Or.inr (Nat.le_trans (Nat.add_le_add_left hW' _) hj)
    have := z5 (c / 8) (Nat.zero_le _) (by omega) (c % 8) (Nat.mod_lt _ (by decide))
    unfold lv
    rw [this, ev c, show c / 8 * 8 + c % 8 = c by omega]
  rcases hkd with h29 | h30
  · obtain ⟨p1, p2, p3⟩ := cC_r h hk h29
    have c4 : I 4 k = (29 : Int32) := by rw [i4, h29]; rfl
    have eb : fCi_bitsBehind (nI k) I J = nI (rb - pt Nm k + ib) := by
      unfold fCi_bitsBehind fCi_bitsBehindReg
      rw [nI_clamp (by omega), if_pos c4, h.2.2.1, i6, h.2.2.2.1, pk_sub p3, nI_add]
    refine key (rb - pt Nm k + ib) (wd Nm k) (by omega) (by omega) rfl ?_ eb (fun c => fC_r h29)
    unfold pCi_bitsBehind pCi_bitsBehindReg
    rw [nI_clamp (by omega)]
    exact ⟨v60, fun _ => ⟨⟨v60, trivial⟩, trivial⟩, fun q => absurd c4 q⟩
  · obtain ⟨p1, p2, p3⟩ := cC_i h hk h30
    have c4 : ¬ I 4 k = (29 : Int32) := by rw [i4, h30]; decide
    have eb : fCi_bitsBehind (nI k) I J = nI (ib - pt Nm k) := by
      unfold fCi_bitsBehind
      rw [nI_clamp (by omega), if_neg c4, i6, h.2.2.2.1, pk_sub p3]
    refine key (ib - pt Nm k) (wd Nm k) (by omega) (by omega) rfl ?_ eb (fun c => fC_i h30 p3 p2)
    unfold pCi_bitsBehind pCi_bitsBehindReg
    rw [nI_clamp (by omega)]
    exact ⟨v60, fun q => absurd q c4, fun _ => ⟨v60, trivial⟩⟩
theorem fill_all {W : Nat} (h : cC Nm rb ib I) (hW : I 22 4 = nI W) (hW' : W ≤ 256) (y1 : Int32) : ∀ (n k : Nat) (J : Ml), k ≤ Nm.length → Nm.length - k < n → pVa_begin_41 n y1 (nI k) I J ∧ ∃ J', fVa_begin_41 n y1 (nI k) I J = (I, J') ∧ (∀ a, a ≠ 23 → J' a = J a) ∧ (∀ j, j < k * 256 → J' 23 j = J 23 j) ∧ ∀ t, k ≤ t → t < Nm.length → (kd Nm t = 29 ∨ kd Nm t = 30) → ∀ c, c < 8 * W → lv J' (t * 256) c = BitVec.ofNat 8 (fC Nm rb ib c t) := by
  have n60 := h.2.1
  intro n
  induction n with
  | zero => intro k J _ h; omega
  | succ n ih =>
    intro k J hk hn
    rw [pVa_begin_41.eq_2, fVa_begin_41.eq_2]
    by_cases c : Nm.length ≤ k
    · have c' : I 3 5 ≤ nI k := by rw [h.1]; exact nI_le c (by omega)
      rw [if_pos c']
      exact ⟨⟨fun _ => trivial, fun q => absurd c' q⟩, J, rfl, fun _ _ => rfl, fun _ _ => rfl, fun t h1 h2 => by omega⟩
    have c' : ¬ I 3 5 ≤ nI k := by rw [h.1]; exact nI_ge (by omega) (by omega)
    have v60 : vp_in (nI k) 60 := vp_in_nI (by omega) (by decide)
    obtain ⟨i4, i5, i6⟩ := h.2.2.2.2.2.2.2.2.2 k (by omega)
    have kw : kd Nm k < 50 := by
      obtain ⟨x, hx⟩ := gN (show k < Nm.length by omega)
      rw [kd_s hx]
      rcases h.2.2.2.2.2.2.2.2.1 k x hx with w | w | w | w
      · have := w.1; omega
      · have := w.1; omega
      · have := w.1; omega
      · have := w.1; omega
    rw [if_neg c', nI_clamp (by omega), i4]
    have fin : (kd Nm k = 29 ∨ kd Nm k = 30) → pVa_begin_80 (pVa_begin_41 n) y1 (nI k) I J ∧ ∃ J', fVa_begin_80 (fVa_begin_41 n) y1 (nI k) I J = (I, J') ∧ (∀ a, a ≠ 23 → J' a = J a) ∧ (∀ j, j < k * 256 → J' 23 j = J 23 j) ∧ ∀ t, k ≤ t → t < Nm.length → (kd Nm t = 29 ∨ kd Nm t = 30) → ∀ c, c < 8 * W → lv J' (t * 256) c = BitVec.ofNat 8 (fC Nm rb ib c t) := by
      intro hkd
      obtain ⟨z1, J1, z2, z3, z4, z5⟩ := fill_name (J := J) h hW hW' (show k < Nm.length by omega) hkd
      obtain ⟨y1', J', y2, y3, y4, y5⟩ := ih (k + 1) J1 (by omega) (by omega)
      unfold pVa_begin_80 fVa_begin_80 pVa_begin_85 fVa_begin_85
      rw [z2, nI_i1]
      refine ⟨⟨z1, y1'⟩, J', y2, fun a ha => (y3 a ha).trans (z3 a ha), fun j hj => by rw [y4 j (Nat.lt_of_lt_of_le hj (Nat.mul_le_mul_right _ (Nat.le_succ k))), z4 j (Or.inl hj)], fun t h1 h2 h3 c hc => ?_⟩
      by_cases ct : t = k
      · rw [ct, ← z5 c hc]
        unfold lv
        rw [y4 _ (by omega)]
      · exact y5 t (by omega) h2 h3 c hc
    by_cases k29 : kd Nm k = 29
    · have e : nI (kd Nm k) = (29 : Int32) := by rw [k29]; rfl
      have z := fin (Or.inl k29)
      rw [if_pos e]
      exact ⟨⟨fun q => absurd q c', fun _ => ⟨v60, fun _ => z.1, fun q => absurd e q⟩⟩, z.2⟩
    have e29 : ¬ nI (kd Nm k) = (29 : Int32) := fun q => k29 ((nI_eq (by omega) (by decide)).mp (show nI (kd Nm k) = nI 29 from q))
    rw [if_neg e29]
    by_cases k30 : kd Nm k = 30
    · have e : nI (kd Nm k) = (30 : Int32) := by rw [k30]; rfl
      have z := fin (Or.inr k30)
      rw [if_pos e]
      exact ⟨⟨fun q => absurd q c', fun _ => ⟨v60, fun q => absurd q e29, fun _ => ⟨v60, fun _ => z.1, fun q => absurd e q⟩⟩⟩, z.2⟩
    have e30 : ¬ nI (kd Nm k) = (30 : Int32) := fun q => k30 ((nI_eq (by omega) (by decide)).mp (show nI (kd Nm k) = nI 30 from q))
    rw [if_neg e30]
    obtain ⟨y1', J', y2, y3, y4, y5⟩ := ih (k + 1) J (by omega) (by omega)
    unfold pVa_begin_85 fVa_begin_85
    rw [nI_i1]
    refine ⟨⟨fun q => absurd q c', fun _ => ⟨v60, fun q => absurd q e29, fun _ => ⟨v60, fun q => absurd q e30, fun _ => y1'⟩⟩⟩, J', y2, y3, fun j hj => y4 j (Nat.lt_of_lt_of_le hj (Nat.mul_le_mul_right _ (Nat.le_succ k))), fun t h1 h2 h3 c hc => ?_⟩
    by_cases ct : t = k
    · rw [ct] at h3; omega
    · exact y5 t (by omega) h2 h3 c hc
/-- how many longs -/
def lg (m : Nat) : Nat := if m ≤ 3 then 1 else 2 ^ (m - 3)
theorem lg_b {m : Nat} (h : m ≤ 11) : 1 ≤ lg m ∧ lg m ≤ 256 ∧ 2 ^ m ≤ 8 * lg m := by
  unfold lg
  by_cases c : m ≤ 3
  · rw [if_pos c]
    have : 2 ^ m ≤ 2 ^ 3 := Nat.pow_le_pow_right (by decide) c
    omega
  · rw [if_neg c]
    have h1 : 2 ^ (m - 3) ≤ 2 ^ 8 := Nat.pow_le_pow_right (by decide) (by omega)
    have h2 : 0 < 2 ^ (m - 3) := Nat.two_pow_pos _
    have h3 : 2 ^ m = 2 ^ 3 * 2 ^ (m - 3) := by rw [← Nat.pow_add]; congr 1; omega
    omega
theorem va_begin {J : Ml} (h : cC Nm rb ib I) : pVa_begin 61 I J ∧ ∃ I' J', fVa_begin 61 I J = (I', J') ∧ vT (lg (rb + ib)) I' J' [] ∧ (∀ a, a ≠ 22 → I' a = I a) ∧ (∀ a, a ≠ 23 → J' a = J a) ∧ ∀ t, t < Nm.length → (kd Nm t = 29 ∨ kd Nm t = 30) → ∀ c, c < 8 * lg (rb + ib) → lv J' (t * 256) c = BitVec.ofNat 8 (fC Nm rb ib c t) := by
  have r8 := h.2.2.2.2.2.2.1
  have b3 := h.2.2.2.2.2.2.2.1
  have e : I 3 7 + I 3 8 = nI (rb + ib) := by rw [h.2.2.1, h.2.2.2.1, nI_add]
  have bb := lg_b (show rb + ib ≤ 11 by omega)
  have key : ∀ z : Int32, z = nI (lg (rb + ib)) → pVa_begin_36 61 (I 3 7 + I 3 8) z (pm_u I 22 3 0) J ∧ ∃ I' J', fVa_begin_36 61 (I 3 7 + I 3 8) z (pm_u I 22 3 0) J = (I', J') ∧ vT (lg (rb + ib)) I' J' [] ∧ (∀ a, a ≠ 22 → I' a = I a) ∧ (∀ a, a ≠ 23 → J' a = J a) ∧ ∀ t, t < Nm.length → (kd Nm t = 29 ∨ kd Nm t = 30) → ∀ c, c < 8 * lg (rb + ib) → lv J' (t * 256) c = BitVec.ofNat 8 (fC Nm rb ib c t) := by
    intro z hz
    have ga : ∀ a, a ≠ 22 → pm_u (pm_u I 22 3 0) 22 4 z a = I a := fun a ha => by rw [pm_u_n _ _ _ ha, pm_u_n _ _ _ ha]
    have h' : cC Nm rb ib (pm_u (pm_u I 22 3 0) 22 4 z) := cC_c h (ga 3 (by decide)) (ga 4 (by decide)) (ga 5 (by decide)) (ga 6 (by decide))
    obtain ⟨y1, J', y2, y3, y4, y5⟩ := fill_all h' (W := lg (rb + ib)) (by rw [pm_u_s]; exact hz) bb.2.1 (I 3 7 + I 3 8) 61 0 J (Nat.zero_le _) (by have := h.2.1; omega)
    exact ⟨y1, _, J', y2, ⟨by rw [pm_u_s]; exact hz, bb.1, bb.2.1, by rw [pm_u_j _ _ _ (by decide), pm_u_s]; rfl, Nat.zero_le _, trivial⟩, ga, y3, fun t h1 => y5 t (Nat.zero_le _) h1⟩
  unfold pVa_begin fVa_begin
  by_cases c : rb + ib ≤ 3
  · have c' : I 3 7 + I 3 8 ≤ (3 : Int32) := by rw [e]; exact nI_le (b := 3) c (by decide)
    have z := key 1 (by unfold lg; rw [if_pos c]; rfl)
    rw [if_pos c']
    exact ⟨⟨fun _ => z.1, fun q => absurd c' q⟩, z.2⟩
  · have c' : ¬ I 3 7 + I 3 8 ≤ (3 : Int32) := by rw [e]; exact nI_ge (a := 3) (by omega) (by omega)
    have z := key ((1 : Int32) <<< ((I 3 7 + I 3 8 - 3) &&& 31)) (by
      rw [e]
      unfold lg; rw [if_neg c]
      have : nI (rb + ib) - 3 = nI (rb + ib - 3) := pk_sub (b := 3) (by omega)
      rw [this]
      exact (show ∀ m, m ≤ 8 → (1 : Int32) <<< (nI m &&& 31) = nI (2 ^ m) by decide +kernel) _ (by omega))
    rw [if_neg c']
    exact ⟨⟨fun q => absurd q c', fun _ => z.1⟩, z.2⟩
/-- the steps at first -/
theorem st_begin_l {N : Nat} (hN : N ≤ 2048) (hib : ib ≤ 3) (J : Ml) : ∀ (n i : Nat) (I : Mm), I 25 3 = nI N → I 3 8 = nI ib → i ≤ N → N - i < n → pSt_begin_41 n (nI i) I J ∧ ∃ I', fSt_begin_41 n (nI i) I J = I' ∧ (∀ a, a ≠ 26 → I' a = I a) ∧ (∀ c, c < i → I' 26 c = I 26 c) ∧ ∀ c, i ≤ c → c < N → I' 26 c = nI (c / 2 ^ ib) := by
  intro n
  induction n with
  | zero => intro i I _ _ _ h; omega
  | succ n ih =>
    intro i I h3 h8 hi hn
    rw [pSt_begin_41.eq_2, fSt_begin_41.eq_2]
    by_cases c : N ≤ i
    · have c' : I 25 3 ≤ nI i := by rw [h3]; exact nI_le c (by omega)
      rw [if_pos c']
      exact ⟨⟨fun _ => trivial, fun q => absurd c' q⟩, I, rfl, fun _ _ => rfl, fun _ _ => rfl, fun c h1 h2 => by omega⟩
    · have c' : ¬ I 25 3 ≤ nI i := by rw [h3]; exact nI_ge (by omega) (by omega)
      have e : nI i >>> (I 3 8 &&& 31) = nI (i / 2 ^ ib) := by rw [h8]; exact pk_shrN (by omega) _ ib (smk ib (by omega))
      rw [if_neg c', nI_clamp (by omega), e, nI_i1]
      obtain ⟨z1, I', z2, z3, z4, z5⟩ := ih (i + 1) (pm_u I 26 i (nI (i / 2 ^ ib))) (by rw [pm_u_n _ _ _ (by decide)]; exact h3) (by rw [pm_u_n _ _ _ (by decide)]; exact h8) (by omega) (by omega)
      refine ⟨⟨fun q => absurd q c', fun _ => ⟨vp_in_nI (by omega) (by decide), z1⟩⟩, I', z2, fun a ha => by rw [z3 a ha, pm_u_n _ _ _ ha], fun c hc => by rw [z4 c (by omega), pm_u_j _ _ _ (by omega)], fun c h1 h2 => ?_⟩
      by_cases cc : c = i
      · rw [cc, z4 i (by omega), pm_u_s]
      · exact z5 c (by omega) h2
theorem p2s : ∀ m, m ≤ 11 → (1 : Int32) <<< (nI m &&& 31) = nI (2 ^ m) := by decide +kernel
theorem st_begin {J : Ml} (h : cC Nm rb ib I) : pSt_begin 2049 I J ∧ ∃ I', fSt_begin 2049 I J = I' ∧ (∀ a, a ≠ 25 → a ≠ 26 → I' a = I a) ∧ I' 25 1 = nI (2 ^ rb) ∧ I' 25 2 = nI (2 ^ ib) ∧ I' 25 3 = nI (2 ^ (rb + ib)) ∧ ∀ c, c < 2 ^ (rb + ib) → I' 26 c = nI (c / 2 ^ ib) := by
  have r8 := h.2.2.2.2.2.2.1
  have b3 := h.2.2.2.2.2.2.2.1
  have e1 : (1 : Int32) <<< (I 3 7 &&& 31) = nI (2 ^ rb) := by rw [h.2.2.1]; exact p2s rb (by omega)
  have e2 : (1 : Int32) <<< (I 3 8 &&& 31) = nI (2 ^ ib) := by rw [h.2.2.2.1]; exact p2s ib (by omega)
  have e3 : nI (2 ^ rb) * nI (2 ^ ib) = nI (2 ^ (rb + ib)) := by rw [pk_mul, ← Nat.pow_add]
  have p11 : 2 ^ (rb + ib) ≤ 2 ^ 11 := Nat.pow_le_pow_right (by decide) (by omega)
  unfold pSt_begin fSt_begin
  rw [e1, e2, e3]
  generalize eX : pm_u (pm_u (pm_u I 25 1 (nI (2 ^ rb))) 25 2 (nI (2 ^ ib))) 25 3 (nI (2 ^ (rb + ib))) = X
  have x1 : X 25 1 = nI (2 ^ rb) := by rw [← eX, pm_u_j _ _ _ (by decide), pm_u_j _ _ _ (by decide), pm_u_s]
  have x2 : X 25 2 = nI (2 ^ ib) := by rw [← eX, pm_u_j _ _ _ (by decide), pm_u_s]
  have x3 : X 25 3 = nI (2 ^ (rb + ib)) := by rw [← eX, pm_u_s]
  have xa : ∀ a, a ≠ 25 → X a = I a := fun a ha => by rw [← eX, pm_u_n _ _ _ ha, pm_u_n _ _ _ ha, pm_u_n _ _ _ ha]
  obtain ⟨z1, I', z2, z3, z4, z5⟩ := st_begin_l (N := 2 ^ (rb + ib)) (by omega) b3 J 2049 0 X x3 (by rw [xa 3 (by decide)]; exact h.2.2.2.1) (Nat.zero_le _) (by omega)
  exact ⟨z1, I', z2, fun a h1 h2 => by rw [z3 a h2, xa a h1], by rw [z3 25 (by decide)]; exact x1, by rw [z3 25 (by decide)]; exact x2, by rw [z3 25 (by decide)]; exact x3, fun c hc => z5 c (Nat.zero_le _) hc⟩
end
