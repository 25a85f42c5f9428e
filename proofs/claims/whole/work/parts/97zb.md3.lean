/-! MODEL WORKS OUT 3: after -/
theorem vD_g {E : Nat → Nat → BitVec 8} {c k v : Nat} : ∀ (D : List Itm) (V : Nat → Nat → Nat), (∀ x ∈ D, x.1 = 32 → x.2.1 = k → ((run (E c) x.2.2 []).headD 0#8).toNat = v) → vD E V D c k = v ∨ (vD E V D c k = V c k ∧ ∀ x ∈ D, ¬ (x.1 = 32 ∧ x.2.1 = k))
  | [], V, _ => Or.inr ⟨rfl, fun x hx => (by cases hx)⟩
  | x :: l, V, h => by
    rw [vD]
    have ih := vD_g l (if x.1 = 32 then (fun c => upv (V c) x.2.1 ((run (E c) x.2.2 []).headD 0#8).toNat) else V) (fun y hy => h y (List.mem_cons_of_mem _ hy))
    by_cases c1 : x.1 = 32
    · rw [if_pos c1] at ih ⊢
      by_cases c2 : x.2.1 = k
      · have e : upv (V c) x.2.1 ((run (E c) x.2.2 []).headD 0#8).toNat k = v := by
          unfold upv
          rw [if_pos c2.symm]
          exact h x List.mem_cons_self c1 c2
        rcases ih with q | q
        · exact Or.inl q
        · exact Or.inl (q.1.trans e)
      · have e : upv (V c) x.2.1 ((run (E c) x.2.2 []).headD 0#8).toNat k = V c k := if_neg (fun q => c2 q.symm)
        rcases ih with q | q
        · exact Or.inl q
        · refine Or.inr ⟨q.1.trans e, fun y hy => ?_⟩
          rcases List.mem_cons.mp hy with rfl | hy
          · exact fun z => c2 z.2
          · exact q.2 y hy
    · rw [if_neg c1] at ih ⊢
      rcases ih with q | q
      · exact Or.inl q
      · refine Or.inr ⟨q.1, fun y hy => ?_⟩
        rcases List.mem_cons.mp hy with rfl | hy
        · exact fun z => c1 z.1
        · exact q.2 y hy
theorem vD_b {E : Nat → Nat → BitVec 8} {c k : Nat} : ∀ (D : List Itm) (V : Nat → Nat → Nat), V c k < 256 → vD E V D c k < 256
  | [], V, h => h
  | x :: l, V, h => by
    rw [vD]
    refine vD_b l _ ?_
    by_cases c1 : x.1 = 32
    · rw [if_pos c1]
      show upv (V c) x.2.1 ((run (E c) x.2.2 []).headD 0#8).toNat k < 256
      unfold upv
      by_cases c2 : k = x.2.1
      · rw [if_pos c2]; exact ((run (E c) x.2.2 []).headD 0#8).isLt
      · rw [if_neg c2]; exact h
    · rw [if_neg c1]; exact h
section
variable {Nm : NmT} {rb ib : Nat} {Hn : List Nat} {D : List Itm} {M : Mm}
theorem aE_c {s i : Nat} (hi : i < 2 ^ ib) : aE Nm rb ib D (s * 2 ^ ib + i) = En Nm rb ib D s i ∧ ∀ k, fC Nm rb ib (s * 2 ^ ib + i) k = fV Nm rb ib s i k := by
  have pos : 0 < 2 ^ ib := Nat.two_pow_pos _
  have d : (s * 2 ^ ib + i) / 2 ^ ib = s := by rw [Nat.mul_comm, Nat.mul_add_div pos, Nat.div_eq_of_lt hi, Nat.add_zero]
  have m : (s * 2 ^ ib + i) % 2 ^ ib = i := by rw [Nat.mul_comm, Nat.mul_add_mod, Nat.mod_eq_of_lt hi]
  refine ⟨?_, fun k => ?_⟩
  · unfold aE; rw [d, m]
  · unfold fC; rw [d, m]
/-- what a register becomes, in the model -/
theorem m_next (h : mC Nm rb ib Hn D M) {s i : Nat} (hs : s < 2 ^ rb) (hi : i < 2 ^ ib) {X : Mm} (g : m6 M X) (hn : ∀ k, k < Nm.length → kd Nm k ≠ 33 → nameV X k (En Nm rb ib D s i k)) {k : Nat} (hk : k < Nm.length) (h29 : kd Nm k = 29) : (∃ e, X 48 (cnt 29 (Nm.take k)) = nI e ∧ e < 4200 ∧ pmv_Mo_value (nI e) X ∧ fmv_Mo_value (nI e) X = nI (vD (aE Nm rb ib D) (fun c => fC Nm rb ib c) D (s * 2 ^ ib + i) k)) ∨ (X 48 (cnt 29 (Nm.take k)) = -1 ∧ X 60 (cnt 29 (Nm.take k)) = nI (vD (aE Nm rb ib D) (fun c => fC Nm rb ib c) D (s * 2 ^ ib + i) k)) := by
  have hD := h.2.2.2.2.2.1
  have x48 : X 48 = M 48 := g 48 (by decide) (by decide) (by decide)
  have ac := aE_c (Nm := Nm) (rb := rb) (D := D) (s := s) hi
  rw [x48]
  by_cases c : k ∈ Hn
  · obtain ⟨C, hC⟩ := hD.2.2.1 k c
    have val : ∀ y ∈ D, y.1 = 32 → y.2.1 = k → ∃ e, M 48 (cnt 29 (Nm.take k)) = nI e ∧ e < 4200 ∧ pmv_Mo_value (nI e) X ∧ fmv_Mo_value (nI e) X = nI ((run (En Nm rb ib D s i) y.2.2 []).headD 0#8).toNat := by
      intro y hy y1 y2
      obtain ⟨a1, e, lo, a2, a3⟩ := h.2.2.2.2.2.2 y hy
      obtain ⟨p, p1, p2, _, _⟩ := dW_it D 0 hD.1 y hy
      have mv := m_val h g hn a2 (fun j hj => ⟨by have := (dI_nm p2 j hj).1; omega, (dI_nm p2 j hj).2⟩)
      rcases a3 with a3 | a3
      · omega
      · refine ⟨e, ?_, a2.2.1, mv⟩
        have z := a3.2.2
        rw [y2] at z
        exact z
    obtain ⟨e, e1, e2, e3, e4⟩ := val (32, k, C) hC rfl rfl
    refine Or.inl ⟨e, e1, e2, e3, ?_⟩
    rw [e4]
    congr 1
    rcases vD_g (E := aE Nm rb ib D) (c := s * 2 ^ ib + i) (k := k) (v := ((run (En Nm rb ib D s i) C []).headD 0#8).toNat) D (fun c => fC Nm rb ib c) (fun y hy y1 y2 => by
      rw [ac.1]
      obtain ⟨e', f1, f2, f3, f4⟩ := val y hy y1 y2
      rw [e1] at f1
      have ee : e = e' := (nI_eq (by omega) (by omega)).mp f1
      rw [← ee, e4] at f4
      have b1 := ((run (En Nm rb ib D s i) C []).headD 0#8).isLt
      have b2 := ((run (En Nm rb ib D s i) y.2.2 []).headD 0#8).isLt
      exact ((nI_eq (by omega) (by omega)).mp f4).symm) with q | q
    · exact q.symm
    · exact absurd ⟨rfl, rfl⟩ (q.2 (32, k, C) hC)
  · refine Or.inr ⟨(mC_r h hk h29).2.2.2.2 c, ?_⟩
    have nv := hn k hk (by omega)
    obtain ⟨g1, g2, _⟩ := mC_g h hk
    have x44 : X 44 = M 44 := g 44 (by decide) (by decide) (by decide)
    have x45 : X 45 = M 45 := g 45 (by decide) (by decide) (by decide)
    have n8 := mC_n h
    have cl : cnt 29 (Nm.take k) < cnt 29 Nm := by
      obtain ⟨x, hx⟩ := gN hk
      exact cnt_lt Nm k x hx (by rw [← kd_s hx]; exact h29)
    have v60 : X 60 (cnt 29 (Nm.take k)) = nI (En Nm rb ib D s i k).toNat := by
      rcases nv.2 with q | q | q
      · obtain ⟨_, w, w1, w2, w3⟩ := q
        rw [x45, g2, h29] at w2
        rw [(nI_eq (by omega) (by omega)).mp w2]; exact w3
      · have := q.1
        rw [x44, g1, h29] at this
        exact absurd this (by decide)
      · have := q.1
        rw [x44, g1, h29] at this
        exact absurd this (by decide)
    rw [v60, En_f hD.1 s i (by omega), BitVec.toNat_ofNat]
    congr 1
    rw [Nat.mod_eq_of_lt (show fV Nm rb ib s i k < 2 ^ 8 from fV_8 h hk)]
    rcases vD_g (E := aE Nm rb ib D) (c := s * 2 ^ ib + i) (k := k) (v := fV Nm rb ib s i k) D (fun c => fC Nm rb ib c) (fun y hy y1 y2 => absurd (hD.2.2.2.1 y hy y1) (by rw [y2]; exact c)) with q | q
    · exact q.symm
    · rw [q.1]; exact (ac.2 k).symm
def mB (Nm : NmT) (rb ib : Nat) (D : List Itm) (Z : Mm) (p : Nat → Nat → Prop) : Prop := ∀ s i, s < 2 ^ rb → i < 2 ^ ib → p s i → Z (64 + s) i = nI (aN Nm rb ib D s i)
def aF (M Z : Mm) : Prop := ∀ a, a ≠ 60 → a ≠ 61 → a ≠ 62 → (a < 64 ∨ 319 < a) → Z a = M a
theorem aF_C (h : mC Nm rb ib Hn D M) {Z : Mm} (f : aF M Z) : mC Nm rb ib Hn D Z := mC_x h (fun a h1 h2 => f a (by omega) (by omega) (by omega) (by omega)) (fun j _ _ => by rw [f 40 (by decide) (by decide) (by decide) (by decide)])
theorem nxb (h : mC Nm rb ib Hn D M) (v : Nat → Nat) : nxN Nm v Nm.length < 2 ^ rb := by
  have := nxN_lt (Nm := Nm) (v := v) Nm.length (Nat.le_refl _)
  rw [tk_all (Nat.le_refl _), ← h.2.1.2.1] at this
  exact this
abbrev R3 := Mm × (Nat → Value) × List (Nat × Nat)
theorem mo_31 (h : mC Nm rb ib Hn D M) {s i : Nat} (hs : s < 2 ^ rb) (hi : i < 2 ^ ib) {X : Mm} (g : m6 M X) (hn : ∀ k, k < Nm.length → kd Nm k ≠ 33 → nameV X k (En Nm rb ib D s i k)) {q2 : Int32 → Mm → (Nat → Value) → List (Nat × Nat) → Prop} {q12 : Int32 → Int32 → Mm → (Nat → Value) → List (Nat × Nat) → Prop} {r2 : Int32 → Mm → (Nat → Value) → List (Nat × Nat) → R3} {r12 : Int32 → Int32 → Mm → (Nat → Value) → List (Nat × Nat) → R3} (B : Nat → Value) (E : List (Nat × Nat)) (Q : R3 → Prop) (nxt : q12 (nI s) (nI (i + 1)) (pm_u X (64 + s) i (nI (aN Nm rb ib D s i))) B E ∧ Q (r12 (nI s) (nI (i + 1)) (pm_u X (64 + s) i (nI (aN Nm rb ib D s i))) B E)) : ∀ (d k f : Nat), k + d = Nm.length → cnt 29 Nm - cnt 29 (Nm.take k) < f → pMo_workOut_31 q2 q12 f (nI s) (nI i) (nI (nxN Nm (vD (aE Nm rb ib D) (fun c => fC Nm rb ib c) D (s * 2 ^ ib + i)) k)) (nI (cnt 29 (Nm.take k))) X B E ∧ Q (fMo_workOut_31 r2 r12 f (nI s) (nI i) (nI (nxN Nm (vD (aE Nm rb ib D) (fun c => fC Nm rb ib c) D (s * 2 ^ ib + i)) k)) (nI (cnt 29 (Nm.take k))) X B E) := by
  have n8 := mC_n h
  have r8 := h.2.1.2.2.2.1
  have i3 := h.2.1.2.2.2.2
  have p8 : 2 ^ rb ≤ 2 ^ 8 := Nat.pow_le_pow_right (by decide) r8
  have p3 : 2 ^ ib ≤ 2 ^ 3 := Nat.pow_le_pow_right (by decide) i3
  have x23 : X 40 23 = nI (cnt 29 Nm) := by rw [g 40 (by decide) (by decide) (by decide)]; exact h.1.1
  intro d
  induction d with
  | zero =>
    intro k f hk hf
    have ek : k = Nm.length := by omega
    subst ek
    obtain ⟨f, rfl⟩ : ∃ q, f = q + 1 := ⟨f - 1, by omega⟩
    rw [pMo_workOut_31.eq_2, fMo_workOut_31.eq_2, tk_all (Nat.le_refl _), x23]
    have c' : nI (cnt 29 Nm) ≤ nI (cnt 29 Nm) := nI_le (Nat.le_refl _) (by omega)
    rw [if_pos c', nI_clamp (n := s) (by omega), nI_clamp (n := i) (by omega), nI_i1]
    exact ⟨⟨fun _ => ⟨vp_in_nI (by omega) (by decide), vp_in_nI (by omega) (by decide), nxt.1⟩, fun q => absurd c' q⟩, nxt.2⟩
  | succ d ih =>
    intro k f hk hf
    have kl : k < Nm.length := by omega
    have ct := cnt_t (t := 29) kl
    have bt := bs_t (t := 29) kl
    have cm := cnt_mo (t := 29) (Nm := Nm) (show k + 1 ≤ Nm.length from kl) (Nat.le_refl _)
    rw [tk_all (Nat.le_refl _)] at cm
    have z := ih (k + 1)
    by_cases c : kd Nm k = 29
    · rw [if_pos c] at ct bt
      obtain ⟨f, rfl⟩ : ∃ q, f = q + 1 := ⟨f - 1, by omega⟩
      have z := ih (k + 1) f (by omega) (by omega)
      obtain ⟨r1, rp, r3, r4, _⟩ := mC_r h kl c
      have x46 : X 46 (cnt 29 (Nm.take k)) = nI (wd Nm k) := by rw [g 46 (by decide) (by decide) (by decide)]; exact r1
      have bm := bs_mo (t := 29) (Nm := Nm) (show k ≤ Nm.length by omega) (Nat.le_refl _)
      rw [tk_all (Nat.le_refl _), ← h.2.1.2.1] at bm
      have w8 : wd Nm k ≤ 8 := by omega
      have nl := nxN_lt (Nm := Nm) (v := vD (aE Nm rb ib D) (fun c => fC Nm rb ib c) D (s * 2 ^ ib + i)) k (by omega)
      have nl8 : 2 ^ bs 29 (Nm.take k) ≤ 2 ^ 8 := Nat.pow_le_pow_right (by decide) (by omega)
      have en : nxN Nm (vD (aE Nm rb ib D) (fun c => fC Nm rb ib c) D (s * 2 ^ ib + i)) (k + 1) = nxN Nm (vD (aE Nm rb ib D) (fun c => fC Nm rb ib c) D (s * 2 ^ ib + i)) k * 2 ^ wd Nm k + vD (aE Nm rb ib D) (fun c => fC Nm rb ib c) D (s * 2 ^ ib + i) k % 2 ^ wd Nm k := by rw [nxN, if_pos c]
      have c' : ¬ nI (cnt 29 Nm) ≤ nI (cnt 29 (Nm.take k)) := nI_ge (by omega) (by omega)
      have v8 : vp_in (nI (cnt 29 (Nm.take k))) 8 := vp_in_nI (by omega) (by decide)
      have mn := m_next h hs hi g hn kl c
      have V8 : vD (aE Nm rb ib D) (fun c => fC Nm rb ib c) D (s * 2 ^ ib + i) k < 256 := vD_b D _ (by rw [(aE_c (Nm := Nm) (rb := rb) (D := D) (s := s) hi).2 k]; exact fV_8 h kl)
      generalize vD (aE Nm rb ib D) (fun c => fC Nm rb ib c) D (s * 2 ^ ib + i) = V at z nl en mn V8 ⊢
      have fin : ∀ z1 : Int32, z1 = nI (V k) → V k < 2 ^ 31 → pMo_workOut_80 q2 q12 (pMo_workOut_31 q2 q12 f) (nI s) (nI i) (nI (nxN Nm V k)) (nI (cnt 29 (Nm.take k))) (nI (nxN Nm V k) <<< (nI (wd Nm k) &&& 31)) z1 X B E ∧ Q (fMo_workOut_80 r2 r12 (fMo_workOut_31 r2 r12 f) (nI s) (nI i) (nI (nxN Nm V k)) (nI (cnt 29 (Nm.take k))) (nI (nxN Nm V k) <<< (nI (wd Nm k) &&& 31)) z1 X B E) := by
        intro z1 hz1 hV
        unfold pMo_workOut_80 fMo_workOut_80
        rw [nI_clamp (by omega), x46, msk w8, hz1, and_m hV w8, nI_sor (by omega) w8 (Nat.mod_lt _ (Nat.two_pow_pos _)), nI_i1, ← en, ← ct]
        exact ⟨⟨v8, z.1⟩, z.2⟩
      rw [pMo_workOut_31.eq_2, fMo_workOut_31.eq_2, x23, if_neg c', nI_clamp (n := cnt 29 (Nm.take k)) (by omega), x46]
      rcases mn with ⟨e, e1, e2, e3, e4⟩ | ⟨e1, e2⟩
      · have c0 : 0 ≤ X 48 (cnt 29 (Nm.take k)) := by rw [e1]; exact nI_pos' (by omega)
        rw [if_pos c0, e1, e4]
        rw [e1] at c0
        have y := fin _ rfl (by omega)
        exact ⟨⟨fun q => absurd q c', fun _ => ⟨v8, v8, fun _ => ⟨v8, e3, y.1⟩, fun q => absurd c0 q⟩⟩, y.2⟩
      · have c0 : ¬ 0 ≤ X 48 (cnt 29 (Nm.take k)) := by rw [e1]; decide
        rw [if_neg c0, e2]
        have y := fin _ rfl (by omega)
        exact ⟨⟨fun q => absurd q c', fun _ => ⟨v8, v8, fun q => absurd q c0, fun _ => ⟨v8, y.1⟩⟩⟩, y.2⟩
    · rw [if_neg c] at ct
      have ct' : cnt 29 (Nm.take (k + 1)) = cnt 29 (Nm.take k) := ct
      have z := ih (k + 1) f (by omega) (by omega)
      rw [ct', nxN, if_neg c] at z
      exact z
theorem mall (h : mC Nm rb ib Hn D M) : fMo_all M = nI (2 ^ rb) ∧ fMo_allInputs M = nI (2 ^ ib) := by
  have r8 := h.2.1.2.2.2.1
  have i3 := h.2.1.2.2.2.2
  unfold fMo_all fMo_allInputs
  rw [h.1.2.2.2.1, h.1.2.2.2.2]
  exact ⟨p2s rb (by omega), p2s ib (by omega)⟩
theorem mo_12 (h : mC Nm rb ib Hn D M) {s : Nat} (hs : s < 2 ^ rb) {q2 : Int32 → Mm → (Nat → Value) → List (Nat × Nat) → Prop} {r2 : Int32 → Mm → (Nat → Value) → List (Nat × Nat) → R3} (B : Nat → Value) (E : List (Nat × Nat)) (Q : R3 → Prop) (nxt : ∀ Z : Mm, aF M Z → mB Nm rb ib D Z (fun s' _ => s' < s + 1) → q2 (nI (s + 1)) Z B E ∧ Q (r2 (nI (s + 1)) Z B E)) : ∀ (f i : Nat) (Z : Mm), i ≤ 2 ^ ib → 2 ^ ib - i < f → aF M Z → mB Nm rb ib D Z (fun s' i' => s' < s ∨ (s' = s ∧ i' < i)) → pMo_workOut_12 q2 4201 f (nI s) (nI i) Z B E ∧ Q (fMo_workOut_12 r2 4201 f (nI s) (nI i) Z B E) := by
  have r8 := h.2.1.2.2.2.1
  have i3 := h.2.1.2.2.2.2
  have p8 : 2 ^ rb ≤ 2 ^ 8 := Nat.pow_le_pow_right (by decide) r8
  have p3 : 2 ^ ib ≤ 2 ^ 3 := Nat.pow_le_pow_right (by decide) i3
  intro f
  induction f with
  | zero => intro i Z _ hf; omega
  | succ f ih =>
    intro i Z hi hf hZ hB
    have hZC := aF_C h hZ
    have n8 := mC_n h
    rw [pMo_workOut_12.eq_2, fMo_workOut_12.eq_2, (mall hZC).2]
    by_cases c : 2 ^ ib ≤ i
    · have c' : nI (2 ^ ib) ≤ nI i := nI_le c (by omega)
      have z := nxt Z hZ (fun s' i' h1 h2 h3 => hB s' i' h1 h2 (by omega))
      rw [if_pos c', nI_i1]
      exact ⟨⟨trivial, fun _ => z.1, fun q => absurd c' q⟩, z.2⟩
    · have c' : ¬ nI (2 ^ ib) ≤ nI i := nI_ge (by omega) (by omega)
      obtain ⟨z1, X, z2, z3, z4⟩ := m_set hZC hs (show i < 2 ^ ib by omega)
      rw [if_neg c', z2]
      unfold pMo_workOut_26 fMo_workOut_26
      have aX : aF M X := fun a h1 h2 h3 h4 => (z3 a h1 h2 h3).trans (hZ a h1 h2 h3 h4)
      have y := mo_31 hZC hs (show i < 2 ^ ib by omega) z3 z4 (q2 := q2) (q12 := pMo_workOut_12 q2 4201 f) (r2 := r2) (r12 := fMo_workOut_12 r2 4201 f) B E Q (ih (i + 1) _ (by omega) (by omega) (fun a h1 h2 h3 h4 => by rw [pm_u_n _ _ _ (by omega)]; exact aX a h1 h2 h3 h4) (fun s' i' h1 h2 h3 => by
        by_cases es : s' = s
        · subst es
          by_cases ei : i' = i
          · rw [ei, pm_u_s]
          · rw [pm_u_j _ _ _ ei, z3 _ (by omega) (by omega) (by omega)]; exact hB s' i' h1 h2 (by omega)
        · rw [pm_u_n _ _ _ (by omega), z3 _ (by omega) (by omega) (by omega)]; exact hB s' i' h1 h2 (by omega))) Nm.length 0 4201 (Nat.zero_add _) (by omega)
      rw [List.take_zero] at y
      have y1 : pMo_workOut_31 q2 (pMo_workOut_12 q2 4201 f) 4201 (nI s) (nI i) 0 0 X B E := y.1
      have y2 : Q (fMo_workOut_31 r2 (fMo_workOut_12 r2 4201 f) 4201 (nI s) (nI i) 0 0 X B E) := y.2
      exact ⟨⟨trivial, fun q => absurd q c', fun _ => ⟨z1, y1⟩⟩, y2⟩
theorem mo_2 (h : mC Nm rb ib Hn D M) (B : Nat → Value) (E : List (Nat × Nat)) (Q : R3 → Prop) (nxt : ∀ Z : Mm, aF M Z → mB Nm rb ib D Z (fun _ _ => True) → pMo_workOut_123 4201 4201 0 Z B E ∧ Q (fMo_workOut_123 4201 4201 0 Z B E)) : ∀ (f s : Nat) (Z : Mm), s ≤ 2 ^ rb → 2 ^ rb - s < f → aF M Z → mB Nm rb ib D Z (fun s' _ => s' < s) → pMo_workOut_2 4201 4201 4201 4201 f (nI s) Z B E ∧ Q (fMo_workOut_2 4201 4201 4201 4201 f (nI s) Z B E) := by
  have r8 := h.2.1.2.2.2.1
  have i3 := h.2.1.2.2.2.2
  have p8 : 2 ^ rb ≤ 2 ^ 8 := Nat.pow_le_pow_right (by decide) r8
  have p3 : 2 ^ ib ≤ 2 ^ 3 := Nat.pow_le_pow_right (by decide) i3
  intro f
  induction f with
  | zero => intro s Z _ hf; omega
  | succ f ih =>
    intro s Z hs hf hZ hB
    have hZC := aF_C h hZ
    rw [pMo_workOut_2.eq_2, fMo_workOut_2.eq_2, (mall hZC).1]
    by_cases c : 2 ^ rb ≤ s
    · have c' : nI (2 ^ rb) ≤ nI s := nI_le c (by omega)
      have z := nxt Z hZ (fun s' i' h1 h2 _ => hB s' i' h1 h2 (by omega))
      rw [if_pos c']
      exact ⟨⟨trivial, fun _ => z.1, fun q => absurd c' q⟩, z.2⟩
    · have c' : ¬ nI (2 ^ rb) ≤ nI s := nI_ge (by omega) (by omega)
      have y := mo_12 h (show s < 2 ^ rb by omega) (q2 := pMo_workOut_2 4201 4201 4201 4201 f) (r2 := fMo_workOut_2 4201 4201 4201 4201 f) B E Q (fun Z' k1 k2 => ih (s + 1) Z' (by omega) (by omega) k1 k2) 4201 0 Z (Nat.zero_le _) (by omega) hZ (fun s' i' h1 h2 h3 => hB s' i' h1 h2 (by omega))
      have y1 : pMo_workOut_12 (pMo_workOut_2 4201 4201 4201 4201 f) 4201 4201 (nI s) 0 Z B E := y.1
      have y2 : Q (fMo_workOut_12 (fMo_workOut_2 4201 4201 4201 4201 f) 4201 4201 (nI s) 0 Z B E) := y.2
      rw [if_neg c']
      exact ⟨⟨trivial, fun q => absurd q c', fun _ => y1⟩, y2⟩
end
