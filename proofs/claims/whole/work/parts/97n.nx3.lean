/-! CLASS'S VALUES 4: the loop's steps; wires kept, nexts changed -/
set_option maxHeartbeats 2000000 in
theorem VS_L : VStep 7 pCh_perform_L_2 fCh_perform_L_2 := by
  intro p len x I J hl hp hn h8 h9 hx hv n Q z
  have c' : ¬ I 7 2 ≤ nI p := by rw [hl]; exact nI_ge hp (by omega)
  have ne : ∀ t : Nat, t < 2 ^ 31 → x.1 ≠ t → ¬ nI x.1 = nI t := fun t ht h q => h ((nI_eq (by omega) ht).mp q)
  have n32 : ¬ nI x.1 = (32 : Int32) := ne 32 (by decide) (by omega)
  have n51 : ¬ nI x.1 = (51 : Int32) := ne 51 (by decide) (by omega)
  have g51 : ¬ (51 : Int32) < nI x.1 := nI_nlt (a := 51) (by omega) (by decide)
  have vv : vp_in (nI p) 4000 := vp_in_nI (by omega) (by decide)
  rw [pCh_perform_L_2.eq_2, fCh_perform_L_2.eq_2, if_neg c', nI_clamp (by omega), h8, h9, if_neg n32, if_neg n51, if_neg g51]
  have y : pCh_perform_L_98 (pCh_perform_L_2 n) (nI p) (nI x.1) (nI x.2) I J ∧ Q (fCh_perform_L_98 (fCh_perform_L_2 n) (nI p) (nI x.1) (nI x.2) I J) := by
    unfold pCh_perform_L_98 fCh_perform_L_98 pCh_perform_L_108 fCh_perform_L_108
    rw [nI_i1]
    exact ⟨⟨hv, z.1⟩, z.2⟩
  rcases hx with hx | hx
  · have l33 : nI x.1 < (33 : Int32) := nI_lt (b := 33) (by omega) (by decide)
    rw [if_pos l33]
    exact ⟨⟨fun q => absurd q c', fun _ => ⟨vv, vv, fun q => absurd q n32, fun _ => ⟨fun q => absurd q n51, fun _ => ⟨fun q => absurd q g51, fun _ => ⟨fun _ => y.1, fun q => absurd l33 q⟩⟩⟩⟩⟩, y.2⟩
  · have l33 : ¬ nI x.1 < (33 : Int32) := nI_nlt (b := 33) (by omega) (by omega)
    have g42 : (42 : Int32) < nI x.1 := nI_lt (a := 42) (by omega) (by omega)
    rw [if_neg l33, if_pos g42]
    exact ⟨⟨fun q => absurd q c', fun _ => ⟨vv, vv, fun q => absurd q n32, fun _ => ⟨fun q => absurd q n51, fun _ => ⟨fun q => absurd q g51, fun _ => ⟨fun q => absurd q l33, fun _ => ⟨fun _ => y.1, fun q => absurd g42 q⟩⟩⟩⟩⟩⟩, y.2⟩
set_option maxHeartbeats 2000000 in
theorem VS_F : VStep 10 pCh_perform_F_2 fCh_perform_F_2 := by
  intro p len x I J hl hp hn h8 h9 hx hv n Q z
  have c' : ¬ I 10 2 ≤ nI p := by rw [hl]; exact nI_ge hp (by omega)
  have ne : ∀ t : Nat, t < 2 ^ 31 → x.1 ≠ t → ¬ nI x.1 = nI t := fun t ht h q => h ((nI_eq (by omega) ht).mp q)
  have n32 : ¬ nI x.1 = (32 : Int32) := ne 32 (by decide) (by omega)
  have n51 : ¬ nI x.1 = (51 : Int32) := ne 51 (by decide) (by omega)
  have g51 : ¬ (51 : Int32) < nI x.1 := nI_nlt (a := 51) (by omega) (by decide)
  have vv : vp_in (nI p) 4000 := vp_in_nI (by omega) (by decide)
  rw [pCh_perform_F_2.eq_2, fCh_perform_F_2.eq_2, if_neg c', nI_clamp (by omega), h8, h9, if_neg n32, if_neg n51, if_neg g51]
  have y : pCh_perform_F_98 (pCh_perform_F_2 n) (nI p) (nI x.1) (nI x.2) I J ∧ Q (fCh_perform_F_98 (fCh_perform_F_2 n) (nI p) (nI x.1) (nI x.2) I J) := by
    unfold pCh_perform_F_98 fCh_perform_F_98 pCh_perform_F_108 fCh_perform_F_108
    rw [nI_i1]
    exact ⟨⟨hv, z.1⟩, z.2⟩
  rcases hx with hx | hx
  · have l33 : nI x.1 < (33 : Int32) := nI_lt (b := 33) (by omega) (by decide)
    rw [if_pos l33]
    exact ⟨⟨fun q => absurd q c', fun _ => ⟨vv, vv, fun q => absurd q n32, fun _ => ⟨fun q => absurd q n51, fun _ => ⟨fun q => absurd q g51, fun _ => ⟨fun _ => y.1, fun q => absurd l33 q⟩⟩⟩⟩⟩, y.2⟩
  · have l33 : ¬ nI x.1 < (33 : Int32) := nI_nlt (b := 33) (by omega) (by omega)
    have g42 : (42 : Int32) < nI x.1 := nI_lt (a := 42) (by omega) (by omega)
    rw [if_neg l33, if_pos g42]
    exact ⟨⟨fun q => absurd q c', fun _ => ⟨vv, vv, fun q => absurd q n32, fun _ => ⟨fun q => absurd q n51, fun _ => ⟨fun q => absurd q g51, fun _ => ⟨fun q => absurd q l33, fun _ => ⟨fun _ => y.1, fun q => absurd g42 q⟩⟩⟩⟩⟩⟩, y.2⟩
theorem CS_L : ∀ (p len k : Nat) (I : Mm) (J : Ml), I 7 2 = nI len → p < len → len ≤ 4000 → I 8 p = nI 32 → I 9 p = nI k → pSt_change 2049 (nI k) I J → Ex pCh_perform_L_2 fCh_perform_L_2 I J p 1 (fSt_change 2049 (nI k) I J) J := by
  intro p len k I J hl hp hn h8 h9 hv n Q z
  have c' : ¬ I 7 2 ≤ nI p := by rw [hl]; exact nI_ge hp (by omega)
  have y32 : nI 32 = (32 : Int32) := rfl
  have vv : vp_in (nI p) 4000 := vp_in_nI (by omega) (by decide)
  rw [pCh_perform_L_2.eq_2, fCh_perform_L_2.eq_2, if_neg c', nI_clamp (by omega), h8, h9, if_pos y32]
  unfold pCh_perform_L_44 fCh_perform_L_44 pCh_perform_L_108 fCh_perform_L_108
  rw [nI_i1]
  exact ⟨⟨fun q => absurd q c', fun _ => ⟨vv, vv, fun _ => ⟨hv, z.1⟩, fun q => absurd y32 q⟩⟩, z.2⟩
theorem pf_kee {I : Mm} {J : Ml} (y : Int32) : (pVa_keep y I J → pVa_perform 31 y I J) ∧ fVa_perform 31 y I J = fVa_keep y I J := ⟨fun h => ⟨fun q => absurd q (by decide), fun _ => ⟨fun q => absurd q (by decide), fun _ => ⟨fun _ => ⟨h, trivial⟩, fun q => absurd rfl q⟩⟩⟩, rfl⟩
theorem va_keep {W : Nat} {I : Mm} {J : Ml} {f : Nat → BitVec 8} (h : vT W I J [f]) {k : Nat} (hk : k < 60) : pVa_keep (nI k) I J ∧ ∃ I' J', fVa_keep (nI k) I J = (I', J') ∧ vT W I' J' [] ∧ (∀ a, a ≠ 22 → I' a = I a) ∧ (∀ j, j ≠ 3 → I' 22 j = I 22 j) ∧ (∀ a, a ≠ 23 → J' a = J a) ∧ (∀ c, c < 8 * W → lv J' (k * 256) c = f c) ∧ ∀ j, j < 60 → j ≠ k → ∀ c, c < 2048 → lv J' (j * 256) c = lv J (j * 256) c := by
  have hd := va_drop h
  obtain ⟨h1, h2, h3, h4, h5, ⟨row, g1, g2, g3⟩, h6⟩ := h
  have h4' : I 22 3 = nI 1 := h4
  have g1' : I 24 0 = nI row := g1
  have c0 : ¬ I 22 3 ≤ 0 := by rw [h4']; decide
  have e1 : (I 22 3 - 1).toNatClampNeg = 0 := by rw [h4']; decide
  have rb := rwk_b g2 (by decide)
  have vv : vp_in (I 22 3 - 1) 140 := by rw [h4']; exact vp_in_nI (n := 0) (by decide) (by decide)
  unfold pVa_keep fVa_keep
  rw [if_neg c0, e1, g1', rowN, h1, nI_clamp (n := row) (by omega), nI_clamp (n := k * 256) (by omega), nI_clamp (n := W) (by omega), (hd _).2]
  refine ⟨⟨fun q => absurd q c0, fun _ => ⟨vv, trivial, ⟨nI_pos (by omega), nI_pos (by omega), nI_pos (by omega), by omega, by omega⟩, (hd _).1, trivial⟩⟩, _, _, rfl, ⟨?_, h2, h3, ?_, Nat.zero_le _, trivial⟩, fun a ha => pm_u_n _ _ _ ha, fun j hj => pm_u_j _ _ _ hj, fun a ha => if_neg ha, fun c hc => ?_, fun j hj hjk c hc => ?_⟩
  · rw [pm_u_j _ _ _ (by decide)]; exact h1
  · rw [pm_u_s]
  · have : pm_cpJ J 23 row (k * 256) W 23 (k * 256 + c / 8) = J 23 (row + c / 8) := by
      unfold pm_cpJ
      rw [if_pos rfl, pk_cpy_in (by omega) (by omega), Nat.add_sub_cancel_left]
    unfold lv
    rw [this]
    exact g3 c hc
  · have : pm_cpJ J 23 row (k * 256) W 23 (j * 256 + c / 8) = J 23 (j * 256 + c / 8) := by
      unfold pm_cpJ
      rw [if_pos rfl, pk_cpy_out (by omega)]
    unfold lv
    rw [this]
theorem vT_26 {W : Nat} {I : Mm} {J : Ml} {S : List (Nat → BitVec 8)} {i : Nat} {v : Int32} (h : vT W I J S) : vT W (pm_u I 26 i v) J S := ⟨by rw [pm_u_n _ _ _ (by decide)]; exact h.1, h.2.1, h.2.2.1, by rw [pm_u_n _ _ _ (by decide)]; exact h.2.2.2.1, h.2.2.2.2.1, vS_c S (fun i _ => by rw [pm_u_n _ _ _ (by decide)]) h.2.2.2.2.2⟩
theorem st_chg_l {W : Nat} {J : Ml} {f : Nat → BitVec 8} {N off w : Nat} (hN : N ≤ 8 * W) (ho : off + w ≤ 8) (y1 : Int32) {T : Nat → Nat} (hT : ∀ c, c < N → T c < 256) : ∀ (n i : Nat) (I : Mm), vT W I J [f] → I 25 3 = nI N → (∀ c, i ≤ c → c < N → I 26 c = nI (T c)) → i ≤ N → N - i < n → pSt_change_27 n y1 (nI off) (nI (2 ^ w - 1)) (nI i) I J ∧ ∃ I', fSt_change_27 n y1 (nI off) (nI (2 ^ w - 1)) (nI i) I J = I' ∧ (∀ a, a ≠ 22 → a ≠ 26 → I' a = I a) ∧ (∀ j, j ≠ 3 → I' 22 j = I 22 j) ∧ I' 22 3 = 0 ∧ (∀ c, c < i → I' 26 c = I 26 c) ∧ ∀ c, i ≤ c → c < N → ∃ R, I' 26 c = nI R ∧ R < 256 ∧ ∀ j, R.testBit j = if off ≤ j ∧ j < off + w then (f c).toNat.testBit (j - off) else (T c).testBit j := by
  intro n
  induction n with
  | zero => intro i I _ _ _ _ h; omega
  | succ n ih =>
    intro i I hV h3 h26 hi hn
    have W2 := hV.2.2.1
    rw [pSt_change_27.eq_2, fSt_change_27.eq_2]
    by_cases c : N ≤ i
    · have c' : I 25 3 ≤ nI i := by rw [h3]; exact nI_le c (by omega)
      have d := va_drop hV J
      rw [if_pos c', d.2]
      exact ⟨⟨fun _ => ⟨d.1, trivial⟩, fun q => absurd c' q⟩, _, rfl, fun a h1 _ => pm_u_n _ _ _ h1, fun j hj => pm_u_j _ _ _ hj, pm_u_s _ _ _ _, fun c _ => by rw [pm_u_n _ _ _ (by decide)], fun c h1 h2 => by omega⟩
    · have c' : ¬ I 25 3 ≤ nI i := by rw [h3]; exact nI_ge (by omega) (by omega)
      have ol := vx_last hV (c := i) (by omega)
      obtain ⟨R, r1, r2, r3⟩ := i_nx (T := T i) (X := (f i).toNat) (hT i (by omega)) (f i).isLt ho
      have vv : vp_in (nI i) 2048 := vp_in_nI (by omega) (by decide)
      rw [if_neg c', nI_clamp (by omega), h26 i (Nat.le_refl _) (by omega), ol.2, r1, nI_i1]
      obtain ⟨z1, I', z2, z3, z4, z5, z6, z7⟩ := ih (i + 1) (pm_u I 26 i (nI R)) (vT_26 hV) (by rw [pm_u_n _ _ _ (by decide)]; exact h3) (fun c h1 h2 => by rw [pm_u_j _ _ _ (by omega)]; exact h26 c (by omega) h2) (by omega) (by omega)
      refine ⟨⟨fun q => absurd q c', fun _ => ⟨vv, ol.1, vv, z1⟩⟩, I', z2, fun a h1 h2 => by rw [z3 a h1 h2, pm_u_n _ _ _ h2], fun j hj => by rw [z4 j hj, pm_u_n _ _ _ (by decide)], z5, fun c hc => by rw [z6 c (by omega), pm_u_j _ _ _ (by omega)], fun c h1 h2 => ?_⟩
      by_cases cc : c = i
      · rw [cc, z6 i (by omega), pm_u_s]
        exact ⟨R, rfl, r2, r3⟩
      · exact z7 c (by omega) h2
section
variable {Nm : NmT} {rb ib : Nat}
theorem st_chg {W : Nat} {I : Mm} {J : Ml} {f : Nat → BitVec 8} (h : cC Nm rb ib I) (hV : vT W I J [f]) (hN : 2 ^ (rb + ib) ≤ 8 * W) (h3 : I 25 3 = nI (2 ^ (rb + ib))) {V : Nat → Nat → Nat} (h26 : ∀ c, c < 2 ^ (rb + ib) → I 26 c = nI (nxN Nm (V c) Nm.length)) {k : Nat} (hk : k < Nm.length) (h29 : kd Nm k = 29) : pSt_change 2049 (nI k) I J ∧ ∃ I', fSt_change 2049 (nI k) I J = I' ∧ (∀ a, a ≠ 22 → a ≠ 26 → I' a = I a) ∧ (∀ j, j ≠ 3 → I' 22 j = I 22 j) ∧ I' 22 3 = 0 ∧ ∀ c, c < 2 ^ (rb + ib) → I' 26 c = nI (nxN Nm (upv (V c) k (f c).toNat) Nm.length) := by
  have n60 := h.2.1
  obtain ⟨p1, p2, p3⟩ := cC_r h hk h29
  obtain ⟨i4, i5, i6⟩ := h.2.2.2.2.2.2.2.2.2 k hk
  have r8 := h.2.2.2.2.2.2.1
  have b3 := h.2.2.2.2.2.2.2.1
  have hb := h.2.2.2.2.1
  have v60 : vp_in (nI k) 60 := vp_in_nI (by omega) (by decide)
  have em : ((1 : Int32) <<< (I 5 k &&& 31)) - 1 = nI (2 ^ wd Nm k - 1) := by
    rw [i5]
    exact (show ∀ w, w ≤ 8 → ((1 : Int32) <<< (nI w &&& 31)) - 1 = nI (2 ^ w - 1) by decide +kernel) _ (by omega)
  have eb : fCi_bitsBehindReg (nI k) I J = nI (rb - pt Nm k) := by
    unfold fCi_bitsBehindReg
    rw [nI_clamp (by omega), h.2.2.1, i6, pk_sub p3]
  have p11 : 2 ^ (rb + ib) ≤ 2 ^ 11 := Nat.pow_le_pow_right (by decide) (by omega)
  have nl : ∀ v, nxN Nm v Nm.length < 2 ^ rb := fun v => by
    have := nxN_lt (Nm := Nm) (v := v) Nm.length (Nat.le_refl _)
    rw [tk_all (Nat.le_refl _), ← hb] at this
    exact this
  have p8 : 2 ^ rb ≤ 2 ^ 8 := Nat.pow_le_pow_right (by decide) r8
  obtain ⟨z1, I', z2, z3, z4, z5, z6, z7⟩ := st_chg_l (f := f) (w := wd Nm k) (off := rb - pt Nm k) hN (by omega) (nI k) (T := fun c => nxN Nm (V c) Nm.length) (fun c _ => by have := nl (V c); omega) 2049 0 I hV h3 (fun c _ hc => h26 c hc) (Nat.zero_le _) (by omega)
  have z1' : pSt_change_27 2049 (nI k) (nI (rb - pt Nm k)) (nI (2 ^ wd Nm k - 1)) 0 I J := z1
  have z2' : fSt_change_27 2049 (nI k) (nI (rb - pt Nm k)) (nI (2 ^ wd Nm k - 1)) 0 I J = I' := z2
  unfold pSt_change fSt_change
  rw [nI_clamp (by omega), em, eb, z2']
  refine ⟨⟨⟨v60, trivial⟩, v60, z1'⟩, I', rfl, z3, z4, z5, fun c hc => ?_⟩
  obtain ⟨R, r1, r2, r3⟩ := z7 c (Nat.zero_le _) hc
  rw [r1]
  congr 1
  apply Nat.eq_of_testBit_eq
  intro j
  have u := nxN_u (v := V c) (x := (f c).toNat) h29 Nm.length hk (Nat.le_refl _) j
  rw [tk_all (Nat.le_refl _), ← hb, ← p1] at u
  rw [r3 j, u]
/-- the nexts of the items -/
def vD (E : Nat → Nat → BitVec 8) : (Nat → Nat → Nat) → List Itm → Nat → Nat → Nat
  | V, [] => V
  | V, x :: l => vD E (if x.1 = 32 then (fun c => upv (V c) x.2.1 ((run (E c) x.2.2 []).headD 0#8).toNat) else V) l
def rI (Nm : NmT) (W : Nat) (E : Nat → Nat → BitVec 8) (lo : Nat) (J : Ml) : Prop := ∀ k, k < Nm.length → kd Nm k ≠ 33 → (k < lo ∨ kd Nm k ≠ 31) → ∀ c, c < 8 * W → lv J (k * 256) c = E c k
def iF (I : Mm) (J : Ml) (I' : Mm) (J' : Ml) : Prop := (∀ a, a ≠ 22 → a ≠ 24 → a ≠ 26 → I' a = I a) ∧ (∀ j, j ≠ 3 → I' 22 j = I 22 j) ∧ ∀ a, a ≠ 23 → J' a = J a
set_option maxHeartbeats 4000000 in
theorem items_L {W : Nat} (hN : 2 ^ (rb + ib) ≤ 8 * W) {E : Nat → Nat → BitVec 8} : ∀ (D : List Itm) (lo p len : Nat) (I : Mm) (J : Ml) (V : Nat → Nat → Nat), dW Nm lo D → (∀ x ∈ D, x.1 = 31 → ∀ c s, run (E c) x.2.2 s = E c x.2.1 :: s) → cC Nm rb ib I → cA 7 I p (flI D) → I 7 2 = nI len → p + (flI D).length ≤ len → len ≤ 4000 → vT W I J [] → I 25 3 = nI (2 ^ (rb + ib)) → rI Nm W E lo J → (∀ c, c < 2 ^ (rb + ib) → I 26 c = nI (nxN Nm (V c) Nm.length)) → ∃ I' J', Ex pCh_perform_L_2 fCh_perform_L_2 I J p (flI D).length I' J' ∧ vT W I' J' [] ∧ iF I J I' J' ∧ (∀ k, k < Nm.length → kd Nm k ≠ 33 → ∀ c, c < 8 * W → lv J' (k * 256) c = E c k) ∧ ∀ c, c < 2 ^ (rb + ib) → I' 26 c = nI (nxN Nm (vD E V D c) Nm.length)
  | [], lo, p, len, I, J, V, hD, hE, hC, hA, hl, hp, hn, hV, h3, hr, h26 => ⟨I, J, fun n Q z => z, hV, ⟨fun _ _ _ _ => rfl, fun _ _ => rfl, fun _ _ => rfl⟩, fun k hk h33 => hr k hk h33 (by
      by_cases c : k < lo
      · exact Or.inl c
      · exact Or.inr (hD k (by omega) hk)), h26⟩
  | x :: l, lo, p, len, I, J, V, hD, hE, hC, hA, hl, hp, hn, hV, h3, hr, h26 => by
    obtain ⟨q, d1, d2, d3, ⟨ht, d4, d5⟩, d6⟩ := hD
    have n60 := hC.2.1
    have W2 := hV.2.2.1
    rw [flI] at hA hp
    rw [List.length_append, List.length_append] at hp
    simp only [List.length_cons, List.length_nil] at hp
    have xe := (XE_of (W := W) (Or.inl rfl) VS_L (ok := okN Nm q) (fun k hk => by have := hk.1; omega) d5).2
    obtain ⟨I1, J1, f, a1, a2, a3, a4⟩ := xe p len I J [] (cA_l (cA_l hA)) hl (by omega) hn hV (by rw [List.length_nil]; omega)
    have hA1 := cA_1 (cA_c (cA_r (cA_l hA)) (a2.1 8 (by decide) (by decide)) (a2.1 9 (by decide) (by decide)))
    have hl1 : I1 7 2 = nI len := by rw [a2.1 7 (by decide) (by decide)]; exact hl
    have ef : ∀ c, c < 8 * W → ∀ s, run (E c) x.2.2 s = f c :: s := fun c hc s => by
      rw [← a3 c hc s]
      refine run_cg _ _ (fun k hk => ?_)
      have o := XC_nm d5 k hk
      have k1 := o.1
      refine (hr k (by omega) o.2 ?_ c hc).symm
      by_cases cl : k < lo
      · exact Or.inl cl
      · exact Or.inr (d3 k (by omega) o.1)
    have ll : (flI (x :: l)).length = x.2.2.length + 1 + (flI l).length := by rw [flI, List.length_append, List.length_append]; rfl
    rw [ll]
    rcases d6 with ⟨e1, e2, e3, e4, e5⟩ | ⟨e1, e2, e3, e4⟩
    · -- a wire
      obtain ⟨k1, I2, J2, k2, k3, k4, k5, k6, k7, k8⟩ := va_keep a1 (show x.2.1 < 60 by omega)
      have y := pf_kee (I := I1) (J := J1) (nI x.2.1)
      have st := VS_L (p + x.2.2.length) len (31, x.2.1) I1 J1 hl1 (by omega) hn (by rw [← e1]; exact hA1.1) hA1.2 (Or.inl (show 31 < 32 by decide)) (y.1 k1)
      have y2 : fVa_perform (nI 31) (nI x.2.1) I1 J1 = (I2, J2) := y.2.trans k2
      dsimp only at st
      rw [y2] at st
      have ga : ∀ a, a ≠ 22 → a ≠ 24 → I2 a = I a := fun a g1 g2 => (k4 a g1).trans (a2.1 a g1 g2)
      obtain ⟨I', J', w1, w2, w3, w4, w5⟩ := items_L hN l (q + 1) (p + (x.2.2.length + 1)) len I2 J2 V e5 (fun z hz => hE z (List.mem_cons_of_mem _ hz)) (cC_c hC (ga 3 (by decide) (by decide)) (ga 4 (by decide) (by decide)) (ga 5 (by decide) (by decide)) (ga 6 (by decide) (by decide))) (cA_c (by have := cA_r hA; rw [List.length_append] at this; exact this) (ga 8 (by decide) (by decide)) (ga 9 (by decide) (by decide))) (by rw [ga 7 (by decide) (by decide)]; exact hl) (by omega) hn k3 (by rw [ga 25 (by decide) (by decide)]; exact h3) (by
          intro k hk h33 hlo c hc
          by_cases ck : k = q
          · rw [ck, ← e2, k7 c hc]
            have z1 := ef c hc []
            rw [hE x List.mem_cons_self e1 c []] at z1
            exact (List.cons.inj z1).1.symm
          · rw [k8 k (by omega) (by omega) c (by omega), vF_lv a2 (by omega) (by omega)]
            refine hr k hk h33 ?_ c hc
            by_cases cl : k < lo
            · exact Or.inl cl
            · rcases hlo with hlo | hlo
              · exact Or.inr (d3 k (by omega) (by omega))
              · exact Or.inr hlo) (fun c hc => by rw [ga 26 (by decide) (by decide)]; exact h26 c hc)
      refine ⟨I', J', Ex_t (Ex_t a4 st) w1, w2, ⟨fun a g1 g2 g3 => (w3.1 a g1 g2 g3).trans (ga a g1 g2), fun j hj => by rw [w3.2.1 j hj, k5 j hj, a2.2.1 j hj], fun a ha => by rw [w3.2.2 a ha, k6 a ha, a2.2.2.1 a ha]⟩, w4, ?_⟩
      rw [vD, if_neg (by omega)]
      exact w5
    · -- a next
      have n25 : I1 25 3 = nI (2 ^ (rb + ib)) := by rw [a2.1 25 (by decide) (by decide)]; exact h3
      have hC1 := cC_c hC (a2.1 3 (by decide) (by decide)) (a2.1 4 (by decide) (by decide)) (a2.1 5 (by decide) (by decide)) (a2.1 6 (by decide) (by decide))
      obtain ⟨k1, I2, k2, k3, k4, k5, k6⟩ := st_chg hC1 a1 hN n25 (V := V) (fun c hc => by rw [a2.1 26 (by decide) (by decide)]; exact h26 c hc) (show x.2.1 < Nm.length by omega) e3
      have st := CS_L (p + x.2.2.length) len x.2.1 I1 J1 hl1 (by omega) hn (by rw [← e1]; exact hA1.1) hA1.2 k1
      rw [k2] at st
      have ga : ∀ a, a ≠ 22 → a ≠ 24 → a ≠ 26 → I2 a = I a := fun a g1 g2 g3 => (k3 a g1 g3).trans (a2.1 a g1 g2)
      have hV2 : vT W I2 J1 [] := ⟨by rw [k4 4 (by decide)]; exact a1.1, a1.2.1, W2, k5, Nat.zero_le _, trivial⟩
      obtain ⟨I', J', w1, w2, w3, w4, w5⟩ := items_L hN l q (p + (x.2.2.length + 1)) len I2 J1 (fun c => upv (V c) x.2.1 ((run (E c) x.2.2 []).headD 0#8).toNat) e4 (fun z hz => hE z (List.mem_cons_of_mem _ hz)) (cC_c hC (ga 3 (by decide) (by decide) (by decide)) (ga 4 (by decide) (by decide) (by decide)) (ga 5 (by decide) (by decide) (by decide)) (ga 6 (by decide) (by decide) (by decide))) (cA_c (by have := cA_r hA; rw [List.length_append] at this; exact this) (ga 8 (by decide) (by decide) (by decide)) (ga 9 (by decide) (by decide) (by decide))) (by rw [ga 7 (by decide) (by decide) (by decide)]; exact hl) (by omega) hn hV2 (by rw [ga 25 (by decide) (by decide) (by decide)]; exact h3) (by
          intro k hk h33 hlo c hc
          rw [vF_lv a2 (by omega) (by omega)]
          refine hr k hk h33 ?_ c hc
          by_cases cl : k < lo
          · exact Or.inl cl
          · rcases hlo with hlo | hlo
            · exact Or.inr (d3 k (by omega) hlo)
            · exact Or.inr hlo) (fun c hc => by
          rw [k6 c hc, ef c (by omega) []]; rfl)
      refine ⟨I', J', Ex_t (Ex_t a4 st) w1, w2, ⟨fun a g1 g2 g3 => (w3.1 a g1 g2 g3).trans (ga a g1 g2 g3), fun j hj => by rw [w3.2.1 j hj, k4 j hj, a2.2.1 j hj], fun a ha => by rw [w3.2.2 a ha, a2.2.2.1 a ha]⟩, w4, ?_⟩
      rw [vD, if_pos e1]
      exact w5
end
