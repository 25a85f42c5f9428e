/-! MODEL WORKS OUT 2: set, after -/
section
variable {Nm : NmT} {rb ib : Nat} {Hn : List Nat} {D : List Itm} {M : Mm}
theorem fV_r {s i j k : Nat} (h : kd Nm k = 29) : fV Nm rb ib s i k = fV Nm rb ib s j k := by unfold fV; rw [if_pos h, if_pos h]
theorem fV_i {s t i k : Nat} (h : kd Nm k = 30) : fV Nm rb ib s i k = fV Nm rb ib t i k := by
  have n : ¬ kd Nm k = 29 := by omega
  unfold fV; rw [if_neg n, if_neg n, if_pos h]
theorem fV_8 (h : mC Nm rb ib Hn D M) {s i k : Nat} (hk : k < Nm.length) : fV Nm rb ib s i k < 256 := by
  unfold fV
  have r8 := h.2.1.2.2.2.1
  have i3 := h.2.1.2.2.2.2
  by_cases c : kd Nm k = 29
  · rw [if_pos c]
    obtain ⟨_, r2, r3, r4, _⟩ := mC_r h hk c
    have bt := bs_t (t := 29) hk
    rw [if_pos c] at bt
    have p8 : 2 ^ wd Nm k ≤ 2 ^ 8 := Nat.pow_le_pow_right (by decide) (by omega)
    have : s / 2 ^ (rb - pt Nm k) % 2 ^ wd Nm k < 2 ^ wd Nm k := Nat.mod_lt _ (Nat.two_pow_pos _)
    show s / 2 ^ (rb - pt Nm k) % 2 ^ wd Nm k < 256
    omega
  · rw [if_neg c]
    by_cases c2 : kd Nm k = 30
    · rw [if_pos c2]
      obtain ⟨_, r2, r3, r4⟩ := mC_i h hk c2
      have bt := bs_t (t := 30) hk
      rw [if_pos c2] at bt
      have p8 : 2 ^ wd Nm k ≤ 2 ^ 8 := Nat.pow_le_pow_right (by decide) (by omega)
      have : i / 2 ^ (ib - pt Nm k) % 2 ^ wd Nm k < 2 ^ wd Nm k := Nat.mod_lt _ (Nat.two_pow_pos _)
      show i / 2 ^ (ib - pt Nm k) % 2 ^ wd Nm k < 256
      omega
    · rw [if_neg c2]; decide
/-- which name is the w-th wire -/
theorem wire_at : ∀ (n w : Nat), n ≤ Nm.length → w < cnt 31 (Nm.take n) → ∃ k, k < n ∧ kd Nm k = 31 ∧ cnt 31 (Nm.take k) = w
  | 0, w, _, h => by rw [List.take_zero, cnt] at h; omega
  | n + 1, w, hn, h => by
    rw [cnt_t (by omega)] at h
    by_cases c : kd Nm n = 31
    · rw [if_pos c] at h
      by_cases e : w = cnt 31 (Nm.take n)
      · exact ⟨n, by omega, c, e.symm⟩
      · obtain ⟨k, h1, h2, h3⟩ := wire_at n w (by omega) (by omega)
        exact ⟨k, by omega, h2, h3⟩
    · rw [if_neg c] at h
      obtain ⟨k, h1, h2, h3⟩ := wire_at n w (by omega) (by omega)
      exact ⟨k, by omega, h2, h3⟩
theorem mX_ag {M M' : Mm} (f : mX M M') (lo e : Nat) : agN lo e M M' := fun k _ _ => ⟨by rw [f 52 (by decide) (by decide)], by rw [f 53 (by decide) (by decide)], by rw [f 54 (by decide) (by decide)], fun _ => ⟨by rw [f 55 (by decide) (by decide)], by rw [f 56 (by decide) (by decide)]⟩⟩
set_option maxHeartbeats 2000000 in
theorem ms_105 (h : mC Nm rb ib Hn D M) (env : Nat → BitVec 8) (hw : ∀ x ∈ D, x.1 = 31 → ∀ s, run env x.2.2 s = env x.2.1 :: s) (y1 y2 y3 : Int32) (Y : Mm) (hY : ∀ a, a ≠ 60 → a ≠ 61 → Y a = M a) (h29 : ∀ k, k < Nm.length → kd Nm k = 29 → Y 60 (cnt 29 (Nm.take k)) = nI (env k).toNat) (h30 : ∀ k, k < Nm.length → kd Nm k = 30 → Y 61 (cnt 30 (Nm.take k)) = nI (env k).toNat) : ∀ (f w : Nat) (X : Mm), w ≤ cnt 31 Nm → cnt 31 Nm - w < f → (∀ a, a ≠ 62 → X a = Y a) → (∀ k, k < Nm.length → kd Nm k = 31 → cnt 31 (Nm.take k) < w → X 62 (cnt 31 (Nm.take k)) = nI (env k).toNat) → pMo_set_105 f y1 y2 y3 (nI w) X ∧ ∃ X', fMo_set_105 f y1 y2 y3 (nI w) X = X' ∧ (∀ a, a ≠ 62 → X' a = Y a) ∧ ∀ k, k < Nm.length → kd Nm k = 31 → X' 62 (cnt 31 (Nm.take k)) = nI (env k).toNat := by
  have n8 := mC_n h
  have n60 := h.2.1.1
  intro f
  induction f with
  | zero => intro w X _ hf; omega
  | succ f ih =>
    intro w X hw2 hf hX hv
    have x25 : X 40 25 = nI (cnt 31 Nm) := by rw [hX 40 (by decide), hY 40 (by decide) (by decide)]; exact h.1.2.2.1
    rw [pMo_set_105.eq_2, fMo_set_105.eq_2, x25]
    by_cases c : cnt 31 Nm ≤ w
    · have c' : nI (cnt 31 Nm) ≤ nI w := nI_le c (by omega)
      rw [if_pos c']
      exact ⟨⟨fun _ => trivial, fun q => absurd c' q⟩, X, rfl, hX, fun k hk h31 => hv k hk h31 (by
        obtain ⟨x, hx⟩ := gN hk
        have := cnt_lt (kd := 31) Nm k x hx (by rw [← kd_s hx]; exact h31)
        omega)⟩
    · have c' : ¬ nI (cnt 31 Nm) ≤ nI w := nI_ge (by omega) (by omega)
      obtain ⟨k, k1, k2, k3⟩ := wire_at Nm.length w (Nat.le_refl _) (by rw [tk_all (Nat.le_refl _)]; omega)
      obtain ⟨C, hC⟩ := h.2.2.2.2.2.1.2.1 k k2
      obtain ⟨a1, e, lo, a2, a3⟩ := h.2.2.2.2.2.2 (31, k, C) hC
      have a50 : M 50 w = nI e := by
        rcases a3 with a3 | a3
        · have z := a3.2
          dsimp only at z
          rw [k3] at z; exact z
        · exact absurd a3.1 (by show ¬ (31 : Nat) = 32; decide)
      obtain ⟨p, p1, p2, p3, _⟩ := dW_it D 0 h.2.2.2.2.2.1.1 (31, k, C) hC
      have pk := (p3 rfl).1
      dsimp only at pk p2 a2
      have x50 : X 50 = M 50 := by rw [hX 50 (by decide), hY 50 (by decide) (by decide)]
      have xX : mX M X := fun a h1 h2 => by rw [hX a (by omega), hY a (by omega) (by omega)]
      obtain ⟨v, v1, v2, v3⟩ := a2.2.2 X env (mX_ag xX lo e) (fun j hj => by
        have o := dI_nm p2 j hj
        have jl : j < Nm.length := by omega
        refine nv_set h (by rw [hX 44 (by decide), hY 44 (by decide) (by decide)]) (by rw [hX 45 (by decide), hY 45 (by decide) (by decide)]) jl (env j) (fun q => by rw [hX 60 (by decide)]; exact h29 j jl q) (fun q => by rw [hX 61 (by decide)]; exact h30 j jl q) (fun q => hv j jl q ?_) o.2
        have c1 := cnt_mo (t := 31) (Nm := Nm) (show j + 1 ≤ k by omega) (by omega)
        rw [cnt_t jl, if_pos q] at c1
        omega) 600 (Nat.le_refl _)
      have ev : v = env k := by
        have z := hw (31, k, C) hC rfl []
        dsimp only at z
        rw [v1 []] at z
        exact (List.cons.inj z).1
      have vw : vp_in (nI w) 60 := vp_in_nI (by omega) (by decide)
      have q1 : pmv_Mo_value (nI e) X := v2
      have q2 : fmv_Mo_value (nI e) X = nI v.toNat := v3
      rw [if_neg c', nI_clamp (by omega), x50, a50, q2, ev, nI_i1]
      obtain ⟨z1, X', z2, z3, z4⟩ := ih (w + 1) (pm_u X 62 w (nI (env k).toNat)) (by omega) (by omega) (fun a ha => by rw [pm_u_n _ _ _ ha]; exact hX a ha) (fun j hj h31 hlt => by
        by_cases ej : cnt 31 (Nm.take j) = w
        · have ejk : j = k := by
            rcases Nat.lt_trichotomy j k with q | q | q
            · have c1 := cnt_mo (t := 31) (Nm := Nm) (show j + 1 ≤ k by omega) (by omega)
              rw [cnt_t hj, if_pos h31] at c1; omega
            · exact q
            · have c1 := cnt_mo (t := 31) (Nm := Nm) (show k + 1 ≤ j by omega) (by omega)
              rw [cnt_t k1, if_pos k2] at c1; omega
          rw [ejk, k3, pm_u_s]
        · rw [pm_u_j _ _ _ ej]; exact hv j hj h31 (by omega))
      exact ⟨⟨fun q => absurd q c', fun _ => ⟨vw, q1, vw, z1⟩⟩, X', z2, z3, z4⟩
def m6 (M M' : Mm) : Prop := ∀ a, a ≠ 60 → a ≠ 61 → a ≠ 62 → M' a = M a
/-- set: the model's values are the circuit's -/
theorem m_set (h : mC Nm rb ib Hn D M) {s i : Nat} (hs : s < 2 ^ rb) (hi : i < 2 ^ ib) : pMo_set 61 61 61 (nI s) (nI i) M ∧ ∃ M', fMo_set 61 61 61 (nI s) (nI i) M = M' ∧ m6 M M' ∧ ∀ k, k < Nm.length → kd Nm k ≠ 33 → nameV M' k (En Nm rb ib D s i k) := by
  have n8 := mC_n h
  have hD := h.2.2.2.2.2.1.1
  have eb : ∀ k, k < Nm.length → kd Nm k ≠ 31 → (En Nm rb ib D s i k).toNat = fV Nm rb ib s i k := fun k hk h31 => by
    rw [En_f hD s i h31, BitVec.toNat_ofNat]
    exact Nat.mod_eq_of_lt (fV_8 h hk)
  have t0 : s / 2 ^ (rb - bs 29 (Nm.take Nm.length)) = s := by rw [tk_all (Nat.le_refl _), ← h.2.1.2.1, Nat.sub_self, Nat.pow_zero, Nat.div_one]
  have t1 : i / 2 ^ (ib - bs 30 (Nm.take Nm.length)) = i := by rw [tk_all (Nat.le_refl _), ← h.2.1.2.2.1, Nat.sub_self, Nat.pow_zero, Nat.div_one]
  have c29 : cnt 29 (Nm.take Nm.length) = cnt 29 Nm := by rw [tk_all (Nat.le_refl _)]
  have c30 : cnt 30 (Nm.take Nm.length) = cnt 30 Nm := by rw [tk_all (Nat.le_refl _)]
  have z := ms_10 h hs (nI s) (nI i) (fun X => ∃ M', X = M' ∧ m6 M M' ∧ ∀ k, k < Nm.length → kd Nm k ≠ 33 → nameV M' k (En Nm rb ib D s i k)) Nm.length 61 M (Nat.le_refl _) (by omega) (fun _ _ => rfl) (fun j h1 h2 => by omega) (fun X1 g1 g2 => by
    have y := ms_61 h hi (nI s) (nI i) X1 g1 (fun X => ∃ M', X = M' ∧ m6 M M' ∧ ∀ k, k < Nm.length → kd Nm k ≠ 33 → nameV M' k (En Nm rb ib D s i k)) Nm.length 61 X1 (Nat.le_refl _) (by omega) (fun _ _ => rfl) (fun j h1 h2 => by omega) (fun X2 y3 k1 k2 => by
      obtain ⟨w1, X3, w2, w3, w4⟩ := ms_105 h (En Nm rb ib D s i) (fun x hx h31 t => by
        have hx' : (31, x.2.1, x.2.2) ∈ D := by rw [← h31]; exact hx
        exact En_w hD s i hx' t) (nI s) (nI i) y3 X2 (fun a h1 h2 => (k1 a h2).trans (g1 a h1)) (fun k hk h29 => by rw [k1 60 (by decide), g2 k hk h29, eb k hk (by omega), fV_r h29]) (fun k hk h30 => by rw [k2 k hk h30, eb k hk (by omega), fV_i h30]) 61 0 X2 (Nat.zero_le _) (by omega) (fun _ _ => rfl) (fun k _ _ hlt => by omega)
      refine ⟨w1, X3, w2, fun a h1 h2 h3 => by rw [w3 a h3, k1 a h2, g1 a h1], fun k hk h33 => nv_set h (by rw [w3 44 (by decide), k1 44 (by decide), g1 44 (by decide)]) (by rw [w3 45 (by decide), k1 45 (by decide), g1 45 (by decide)]) hk _ (fun q => ?_) (fun q => ?_) (fun q => w4 k hk q) h33⟩
      · rw [w3 60 (by decide), k1 60 (by decide), g2 k hk q, eb k hk (by omega), fV_r q]
      · rw [w3 61 (by decide), k2 k hk q, eb k hk (by omega), fV_i q])
    rw [t1, c30] at y
    exact y)
  rw [t0, c29] at z
  unfold pMo_set fMo_set
  rw [h.1.1]
  exact z
/-- the value of a node under set -/
theorem m_val (h : mC Nm rb ib Hn D M) {s i : Nat} {M' : Mm} (g : m6 M M') (hn : ∀ k, k < Nm.length → kd Nm k ≠ 33 → nameV M' k (En Nm rb ib D s i k)) {lo e : Nat} {C : Cd} (hE : Ev M 600 lo e C) (hC : ∀ k, (43, k) ∈ C → k < Nm.length ∧ kd Nm k ≠ 33) : pmv_Mo_value (nI e) M' ∧ fmv_Mo_value (nI e) M' = nI ((run (En Nm rb ib D s i) C []).headD 0#8).toNat := by
  obtain ⟨v, v1, v2, v3⟩ := hE.2.2 M' (En Nm rb ib D s i) (mX_ag (fun a h1 h2 => g a (by omega) (by omega) (by omega)) lo e) (fun k hk => hn k (hC k hk).1 (hC k hk).2) 600 (Nat.le_refl _)
  refine ⟨v2, ?_⟩
  rw [v1 []]; exact v3
end
