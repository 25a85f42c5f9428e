/-! PURE 2: the TAPE -/
theorem T1 (x : Int32) : x < 0 ∨ (¬ x < 0 ∧ ¬ x ≤ 0 ∧ ¬ x < 1 ∧ 1 ≤ x ∧ ¬ x = 0) ∨ x = 0 := by
  have e0 : (0 : Int32).toInt = 0 := by decide
  have e1 : (1 : Int32).toInt = 1 := by decide
  simp only [Int32.lt_iff_toInt_lt, Int32.le_iff_toInt_le, ← Int32.toInt_inj, e0, e1]
  omega
theorem and15 (v : Int32) : ∃ k : Nat, k < 16 ∧ v &&& 15 = nI k := by
  refine ⟨v.toBitVec.toNat % 16, Nat.mod_lt _ (by decide), ?_⟩
  apply Int32.toBitVec_inj.mp
  rw [Int32.toBitVec_and]
  apply BitVec.eq_of_toNat_eq
  rw [BitVec.toNat_and]
  show v.toBitVec.toNat &&& 15 = (BitVec.ofNat 32 (v.toBitVec.toNat % 16)).toNat
  rw [BitVec.toNat_ofNat, show (15 : Nat) = 2 ^ 4 - 1 from rfl, Nat.and_two_pow_sub_one_eq_mod]
  omega
/-- the byte of y behind s bits -/
def fb (y s : Int32) : Int32 := (((y.toUInt32 >>> (s.toUInt32 &&& Int32.toUInt32 31)).toInt32).toInt8.toInt32).toInt8.toInt32
theorem Tp_add_s (n : Nat) (y s : Int32) (I : Nat → Nat → Int32) (J : Nat → Nat → Int64) (L : Nat) (hs : ¬ s < 0) (hL : I 1 1 = nI L) (h : L < 65536) : fTp_add_3 (n + 1) y s I J = fTp_add_3 n y (s + Int32.ofInt (-8)) (pm_u (pm_u I 2 L (fb y s)) 1 1 (nI (L + 1))) J ∧ (pTp_add_3 n y (s + Int32.ofInt (-8)) (pm_u (pm_u I 2 L (fb y s)) 1 1 (nI (L + 1))) J → pTp_add_3 (n + 1) y s I J) := by
  have c : ¬ (65536 : Int32) ≤ nI L := nI_ge (a := L) (b := 65536) h (by decide)
  rw [fTp_add_3.eq_2, pTp_add_3.eq_2]
  rw [hL, if_neg hs, if_neg c, nI_clamp (by omega), nI_1]
  exact ⟨rfl, fun hp => ⟨fun q => absurd q hs, fun _ => ⟨fun q => absurd q c, fun _ => ⟨vp_in_nI h (by decide), hp⟩⟩⟩⟩
/-- four bytes more -/
def tA (y : Int32) (L : Nat) (I : Nat → Nat → Int32) : Nat → Nat → Int32 := pm_u (pm_u (pm_u (pm_u (pm_u (pm_u (pm_u (pm_u I 2 L (fb y 24)) 1 1 (nI (L + 1))) 2 (L + 1) (fb y 16)) 1 1 (nI (L + 1 + 1))) 2 (L + 1 + 1) (fb y 8)) 1 1 (nI (L + 1 + 1 + 1))) 2 (L + 1 + 1 + 1) (fb y 0)) 1 1 (nI (L + 1 + 1 + 1 + 1))
theorem Tp_add_w (y : Int32) (I : Nat → Nat → Int32) (J : Nat → Nat → Int64) (L : Nat) (hL : I 1 1 = nI L) (h : L + 4 ≤ 65536) : pTp_add 5 y I J ∧ fTp_add 5 y I J = tA y L I := by
  have s1 := Tp_add_s 4 y 24 I J L (by decide) hL (by omega)
  have s2 := Tp_add_s 3 y 16 (pm_u (pm_u I 2 L (fb y 24)) 1 1 (nI (L + 1))) J (L + 1) (by decide) (pm_u_s _ _ _ _) (by omega)
  have s3 := Tp_add_s 2 y 8 (pm_u (pm_u (pm_u (pm_u I 2 L (fb y 24)) 1 1 (nI (L + 1))) 2 (L + 1) (fb y 16)) 1 1 (nI (L + 1 + 1))) J (L + 1 + 1) (by decide) (pm_u_s _ _ _ _) (by omega)
  have s4 := Tp_add_s 1 y 0 (pm_u (pm_u (pm_u (pm_u (pm_u (pm_u I 2 L (fb y 24)) 1 1 (nI (L + 1))) 2 (L + 1) (fb y 16)) 1 1 (nI (L + 1 + 1))) 2 (L + 1 + 1) (fb y 8)) 1 1 (nI (L + 1 + 1 + 1))) J (L + 1 + 1 + 1) (by decide) (pm_u_s _ _ _ _) (by omega)
  have e1 : (24 : Int32) + Int32.ofInt (-8) = 16 := by decide
  have e2 : (16 : Int32) + Int32.ofInt (-8) = 8 := by decide
  have e3 : (8 : Int32) + Int32.ofInt (-8) = 0 := by decide
  have e4 : (0 : Int32) + Int32.ofInt (-8) < 0 := by decide
  rw [e1] at s1
  rw [e2] at s2
  rw [e3] at s3
  have s5 : ∀ I : Nat → Nat → Int32, fTp_add_3 (0 + 1) y (0 + Int32.ofInt (-8)) I J = I ∧ pTp_add_3 (0 + 1) y (0 + Int32.ofInt (-8)) I J := by
    intro I
    rw [fTp_add_3.eq_2, pTp_add_3.eq_2]
    exact ⟨if_pos e4, fun _ => trivial, fun q => absurd e4 q⟩
  unfold pTp_add fTp_add
  exact ⟨s1.2 (s2.2 (s3.2 (s4.2 (s5 _).2))), s1.1.trans (s2.1.trans (s3.1.trans (s4.1.trans (s5 _).1)))⟩
theorem tA_len (y : Int32) (L : Nat) (I : Nat → Nat → Int32) : tA y L I 1 1 = nI (L + 1 + 1 + 1 + 1) := pm_u_s _ _ _ _
theorem tA_n (y : Int32) (L : Nat) (I : Nat → Nat → Int32) {a : Nat} (h1 : a ≠ 1) (h2 : a ≠ 2) : tA y L I a = I a := by
  unfold tA
  rw [pm_u_n _ _ _ h1, pm_u_n _ _ _ h2, pm_u_n _ _ _ h1, pm_u_n _ _ _ h2, pm_u_n _ _ _ h1, pm_u_n _ _ _ h2, pm_u_n _ _ _ h1, pm_u_n _ _ _ h2]
theorem Ch_feed_w (y1 y2 y3 y4 y5 : Int32) (I : Nat → Nat → Int32) (J : Nat → Nat → Int64) (L : Nat) (hL : I 1 1 = nI L) (h : L ≤ 65516) : pCh_feed y1 y2 y3 y4 y5 I J ∧ fCh_feed y1 y2 y3 y4 y5 I J = (0, nI (L + 20), tA y5 (L + 16) (tA y4 (L + 12) (tA y3 (L + 8) (tA y2 (L + 4) (tA y1 L I))))) := by
  have c : nI L ≤ (65516 : Int32) := nI_le (a := L) (b := 65516) h (by decide)
  have a1 := Tp_add_w y1 I J L hL (by omega)
  have a2 := Tp_add_w y2 (tA y1 L I) J (L + 4) (tA_len _ _ _) (by omega)
  have a3 := Tp_add_w y3 (tA y2 (L + 4) (tA y1 L I)) J (L + 8) (tA_len _ _ _) (by omega)
  have a4 := Tp_add_w y4 (tA y3 (L + 8) (tA y2 (L + 4) (tA y1 L I))) J (L + 12) (tA_len _ _ _) (by omega)
  have a5 := Tp_add_w y5 (tA y4 (L + 12) (tA y3 (L + 8) (tA y2 (L + 4) (tA y1 L I)))) J (L + 16) (tA_len _ _ _) (by omega)
  unfold pCh_feed fCh_feed pCh_feed_28 fCh_feed_28 pCh_feed_36 fCh_feed_36 pCh_feed_44 fCh_feed_44 pCh_feed_53 fCh_feed_53 pCh_feed_62 fCh_feed_62
  rw [hL, a1.2, a2.2, a3.2, a4.2, a5.2, if_pos c]
  refine ⟨⟨fun _ => ⟨a1.1, a2.1, a3.1, a4.1, a5.1, trivial⟩, fun q => absurd c q⟩, ?_⟩
  rw [tA_len]
theorem Mo_feed_s (n k : Nat) (y1 y2 y3 y4 y5 : Int32) (I : Nat → Nat → Int32) (L : Nat) (hk : k < 20) (hL : I 40 1 = nI L) (h : L < 65536) : ∃ v : Int32, fMo_feed_32 (n + 1) y1 y2 y3 y4 y5 (nI k) I = fMo_feed_32 n y1 y2 y3 y4 y5 (nI (k + 1)) (pm_u (pm_u I 40 1 (nI (L + 1))) 41 L v) ∧ (pMo_feed_32 n y1 y2 y3 y4 y5 (nI (k + 1)) (pm_u (pm_u I 40 1 (nI (L + 1))) 41 L v) → pMo_feed_32 (n + 1) y1 y2 y3 y4 y5 (nI k) I) ∧ v = fb (if k < 4 then y1 else if k < 8 then y2 else if k < 12 then y3 else if k < 16 then y4 else y5) (nI (24 - 8 * (k % 4))) := by
  have c : ¬ (20 : Int32) ≤ nI k := nI_ge (a := k) (b := 20) hk (by decide)
  have hsh : (24 : Int32) - (8 : Int32) * (nI k - nI k / (4 : Int32) * (4 : Int32)) = nI (24 - 8 * (k % 4)) := by
    show nI 24 - nI 8 * (nI k - nI k / nI 4 * nI 4) = _
    rw [pk_rem (by omega) (by decide) (by decide), pk_mul, pk_sub (by omega)]
  have hv := vp_in_nI h (by decide : 65536 < 2 ^ 31)
  have h4 : ¬ (4 : Int32) = 0 := by decide
  refine ⟨_, ?_, ?_, rfl⟩
  · rw [fMo_feed_32.eq_2]
    unfold fMo_feed_85
    rw [if_neg c, hL, nI_clamp (by omega), nI_1, nI_i1, hsh]
    by_cases k1 : k < 4
    · rw [if_neg (show ¬ (4 : Int32) ≤ nI k from nI_ge (a := k) (b := 4) k1 (by decide)), if_pos k1]; rfl
    · rw [if_pos (show (4 : Int32) ≤ nI k from nI_le (a := 4) (b := k) (by omega) (by omega)), if_neg k1]
      by_cases k2 : k < 8
      · rw [if_neg (show ¬ (8 : Int32) ≤ nI k from nI_ge (a := k) (b := 8) k2 (by decide)), if_pos k2]; rfl
      · rw [if_pos (show (8 : Int32) ≤ nI k from nI_le (a := 8) (b := k) (by omega) (by omega)), if_neg k2]
        by_cases k3 : k < 12
        · rw [if_neg (show ¬ (12 : Int32) ≤ nI k from nI_ge (a := k) (b := 12) k3 (by decide)), if_pos k3]; rfl
        · rw [if_pos (show (12 : Int32) ≤ nI k from nI_le (a := 12) (b := k) (by omega) (by omega)), if_neg k3]
          by_cases k4 : k < 16
          · rw [if_neg (show ¬ (16 : Int32) ≤ nI k from nI_ge (a := k) (b := 16) k4 (by decide)), if_pos k4]; rfl
          · rw [if_pos (show (16 : Int32) ≤ nI k from nI_le (a := 16) (b := k) (by omega) (by omega)), if_neg k4]; rfl
  · intro hp
    rw [pMo_feed_32.eq_2]
    unfold pMo_feed_85
    rw [hL, nI_clamp (by omega), nI_1, nI_i1, hsh]
    refine ⟨fun q => absurd q c, fun _ => ⟨fun q1 => ⟨fun q2 => ⟨fun q3 => ⟨fun q4 => ?_, fun q4 => ?_⟩, fun q3 => ?_⟩, fun q2 => ?_⟩, fun q1 => ?_⟩⟩
    · have k1 := (nI_leI (a := 4) (b := k) (by decide) (by omega)).mp q1
      have k4 := (nI_leI (a := 16) (b := k) (by decide) (by omega)).mp q4
      rw [if_neg (by omega), if_neg (by omega), if_neg (by omega), if_neg (by omega)] at hp
      exact ⟨h4, hv, hp⟩
    · have k3 := (nI_leI (a := 12) (b := k) (by decide) (by omega)).mp q3
      have k4 : k < 16 := Nat.lt_of_not_le (fun q => q4 (nI_le (a := 16) (b := k) q (by omega)))
      rw [if_neg (by omega), if_neg (by omega), if_neg (by omega), if_pos k4] at hp
      exact ⟨h4, hv, hp⟩
    · have k2 := (nI_leI (a := 8) (b := k) (by decide) (by omega)).mp q2
      have k3 : k < 12 := Nat.lt_of_not_le (fun q => q3 (nI_le (a := 12) (b := k) q (by omega)))
      rw [if_neg (by omega), if_neg (by omega), if_pos k3] at hp
      exact ⟨h4, hv, hp⟩
    · have k1 := (nI_leI (a := 4) (b := k) (by decide) (by omega)).mp q1
      have k2 : k < 8 := Nat.lt_of_not_le (fun q => q2 (nI_le (a := 8) (b := k) q (by omega)))
      rw [if_neg (by omega), if_pos k2] at hp
      exact ⟨h4, hv, hp⟩
    · have k1 : k < 4 := Nat.lt_of_not_le (fun q => q1 (nI_le (a := 4) (b := k) q (by omega)))
      rw [if_pos k1] at hp
      exact ⟨h4, hv, hp⟩
theorem Mo_feed_l (y1 y2 y3 y4 y5 : Int32) (L : Nat) (hL : L ≤ 65516) : ∀ (n k : Nat) (I : Nat → Nat → Int32), k + n = 20 → I 40 1 = nI (L + k) → pMo_feed_32 (n + 1) y1 y2 y3 y4 y5 (nI k) I ∧ (fMo_feed_32 (n + 1) y1 y2 y3 y4 y5 (nI k) I).1 = nI (L + 20) ∧ (∀ j, j ≠ 1 → (fMo_feed_32 (n + 1) y1 y2 y3 y4 y5 (nI k) I).2 40 j = I 40 j) ∧ (∀ a, a ≠ 40 → a ≠ 41 → (fMo_feed_32 (n + 1) y1 y2 y3 y4 y5 (nI k) I).2 a = I a) := by
  intro n
  induction n with
  | zero =>
    intro k I hk hI
    have hk : k = 20 := by omega
    subst hk
    have c : (20 : Int32) ≤ nI 20 := by decide
    rw [pMo_feed_32.eq_2, fMo_feed_32.eq_2]
    rw [if_pos c]
    exact ⟨⟨fun _ => trivial, fun q => absurd c q⟩, hI, fun _ _ => rfl, fun _ _ _ => rfl⟩
  | succ n ih =>
    intro k I hk hI
    obtain ⟨v, s1, s2, -⟩ := Mo_feed_s (n + 1) k y1 y2 y3 y4 y5 I (L + k) (by omega) hI (by omega)
    have hi := ih (k + 1) (pm_u (pm_u I 40 1 (nI (L + k + 1))) 41 (L + k) v) (by omega) (by rw [pm_u_n _ _ _ (by decide), pm_u_s]; rfl)
    rw [s1]
    refine ⟨s2 hi.1, hi.2.1, fun j hj => ?_, fun a h1 h2 => ?_⟩
    · rw [hi.2.2.1 j hj, pm_u_n _ _ _ (by decide), pm_u_j _ _ _ hj]
    · rw [hi.2.2.2 a h1 h2, pm_u_n _ _ _ h2, pm_u_n _ _ _ h1]
theorem Mo_feed_w (y1 y2 y3 y4 y5 : Int32) (I : Nat → Nat → Int32) (L : Nat) (hL : I 40 1 = nI L) (h : L ≤ 65516) : pMo_feed 21 y1 y2 y3 y4 y5 I ∧ (fMo_feed 21 y1 y2 y3 y4 y5 I).1 = nI (L + 20) ∧ (fMo_feed 21 y1 y2 y3 y4 y5 I).2 40 2 = 0 := by
  have c : nI L ≤ (65516 : Int32) := nI_le (a := L) (b := 65516) h (by decide)
  have hl := Mo_feed_l y1 y2 y3 y4 y5 L h 20 0 (pm_u I 40 2 0) (by decide) (by rw [pm_u_j _ _ _ (by decide)]; exact hL)
  rw [nI_0] at hl
  have hf : fMo_feed 21 y1 y2 y3 y4 y5 I = fMo_feed_32 21 y1 y2 y3 y4 y5 0 (pm_u I 40 2 0) := by
    unfold fMo_feed fMo_feed_21 fMo_feed_24 fMo_refuse fMo_refuse_9
    rw [hL, if_pos c, if_pos rfl]
    exact if_pos rfl
  rw [hf]
  refine ⟨?_, hl.2.1, ?_⟩
  · unfold pMo_feed pMo_feed_21 pMo_feed_24 pMo_refuse pMo_refuse_9 fMo_refuse fMo_refuse_9
    rw [hL]
    refine ⟨fun _ => ⟨⟨fun _ => by decide, fun q => absurd rfl q⟩, ?_⟩, fun q => absurd c q⟩
    rw [if_pos rfl]
    exact ⟨fun _ => hl.1, fun _ => trivial⟩
  · rw [hl.2.2.1 2 (by decide), pm_u_s]
