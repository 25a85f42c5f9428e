/-! MODEL WORKS OUT 8: always, judge -/
section
variable {Nm : NmT} {rb ib : Nat} {Hn : List Nat} {D : List Itm}
theorem m6_t {M M' M'' : Mm} (h : m6 M M') (h' : m6 M' M'') : m6 M M'' := fun a h1 h2 h3 => (h' a h1 h2 h3).trans (h a h1 h2 h3)
theorem m6_C {M M' : Mm} (h : mC Nm rb ib Hn D M) (g : m6 M M') : mC Nm rb ib Hn D M' := mC_x h (fun a h1 h2 => g a (by omega) (by omega) (by omega)) (fun j _ _ => by rw [g 40 (by decide) (by decide) (by decide)])
theorem m_alw {s lo e : Nat} {C : Cd} (hs : s < 2 ^ rb) (hC : ∀ k, (43, k) ∈ C → k < Nm.length ∧ kd Nm k ≠ 33) (he : e < 4200) : ∀ (k i : Nat) (I : Mm), mC Nm rb ib Hn D I → Ev I 600 lo e C → i ≤ 2 ^ ib → 2 ^ ib - i < k → pMo_always_2 k (nI e) (nI s) (nI i) I ∧ ∃ c I1, fMo_always_2 k (nI e) (nI s) (nI i) I = (b2 c, I1) ∧ m6 I I1 ∧ (c = true ↔ ∀ j, i ≤ j → j < 2 ^ ib → (run (En Nm rb ib D s j) C []).headD 0#8 ≠ 0#8) := by
  intro k
  induction k with
  | zero => intro i I _ _ _ h; omega
  | succ k ih =>
    intro i I h hE hi hk
    have i3 := h.2.1.2.2.2.2
    have p3 : 2 ^ ib ≤ 2 ^ 3 := Nat.pow_le_pow_right (by decide) i3
    rw [pMo_always_2.eq_2, fMo_always_2.eq_2, (mall h).2]
    by_cases c : 2 ^ ib ≤ i
    · have c' : nI (2 ^ ib) ≤ nI i := nI_le c (by omega)
      rw [if_pos c']
      exact ⟨⟨trivial, fun _ => trivial, fun q => absurd c' q⟩, true, I, rfl, fun _ _ _ _ => rfl, fun _ j h1 h2 => by omega, fun _ => rfl⟩
    · have c' : ¬ nI (2 ^ ib) ≤ nI i := nI_ge (by omega) (by omega)
      obtain ⟨z1, X, z2, z3, z4⟩ := m_set h hs (show i < 2 ^ ib by omega)
      have mv := m_val h z3 z4 hE hC
      rw [if_neg c', z2]
      unfold pMo_always_16 fMo_always_16
      rw [mv.2, nI_i1]
      have EX : Ev X 600 lo e C := Ev_c hE (mX_ag (fun a h1 h2 => z3 a (by omega) (by omega) (by omega)) lo e) (Nat.le_refl _) (Nat.le_refl _)
      obtain ⟨w1, c2, I1, w2, w3, w4⟩ := ih (i + 1) X (m6_C h z3) EX (by omega) (by omega)
      by_cases b : (run (En Nm rb ib D s i) C []).headD 0#8 = 0#8
      · have e0 : nI ((run (En Nm rb ib D s i) C []).headD 0#8).toNat = 0 := by rw [b]; rfl
        rw [if_pos e0]
        exact ⟨⟨trivial, fun q => absurd q c', fun _ => ⟨z1, mv.1, fun _ => trivial, fun q => absurd e0 q⟩⟩, false, X, rfl, z3, fun q => (by cases q), fun q => absurd b (q i (Nat.le_refl _) (by omega))⟩
      · have e0 : ¬ nI ((run (En Nm rb ib D s i) C []).headD 0#8).toNat = 0 := nI_ne0 (Nat.pos_of_ne_zero (fun q => b ((b0n _).mpr q))) (by have := ((run (En Nm rb ib D s i) C []).headD 0#8).isLt; omega)
        rw [if_neg e0]
        refine ⟨⟨trivial, fun q => absurd q c', fun _ => ⟨z1, mv.1, fun q => absurd q e0, fun _ => w1⟩⟩, c2, I1, w2, m6_t z3 w3, w4.trans ⟨fun q j h1 h2 => ?_, fun q j h1 h2 => q j (by omega) h2⟩⟩
        by_cases ej : j = i
        · rw [ej]; exact b
        · exact q j (by omega) h2
end
section
variable {n m : Nat} {nx : Nat → Nat → Nat} {B : Nat → Value} {E : List (Nat × Nat)} {f at_ : Nat} {vt va vb : Value} {JF : Mm → Prop} {g : Se}
def JS (n : Nat) (B : Nat → Value) (E : List (Nat × Nat)) (f at_ : Nat) (vt va vb : Value) (JF : Mm → Prop) (g : Se) : Prop := ∀ (k s : Nat) (Q : Mm → Prop) (I : Mm), JF I → s < n → (∀ I' : Mm, JF I' → (∀ a, a ≠ 60 → a ≠ 61 → a ≠ 62 → I' a = I a) → pMo_judge_107 k (nI f) vt va vb (nI (s + 1)) (pm_u I' at_ s (b2 (g s))) B E ∧ Q (fMo_judge_107 k (nI f) vt va vb (nI (s + 1)) (pm_u I' at_ s (b2 (g s))) B E)) → pMo_judge_107 (k + 1) (nI f) vt va vb (nI s) I B E ∧ Q (fMo_judge_107 (k + 1) (nI f) vt va vb (nI s) I B E)
theorem j_loop (hat : 63 < at_) (hJ : ∀ I s v, JF I → JF (pm_u I at_ s v)) (hst : JS n B E f at_ vt va vb JF g) (I0 : Mm) (Q : Mm → Prop) (nxt : ∀ (k : Nat) (I' : Mm), JF I' → rw_ n I' at_ g → (∀ a, a ≠ 60 → a ≠ 61 → a ≠ 62 → a ≠ at_ → I' a = I0 a) → pMo_judge_107 (k + 1) (nI f) vt va vb (nI n) I' B E ∧ Q (fMo_judge_107 (k + 1) (nI f) vt va vb (nI n) I' B E)) : ∀ (k s : Nat) (I : Mm), s ≤ n → n - s < k → JF I → (∀ j, j < 256 → ∃ c, I at_ j = b2 c) → (∀ t, t < s → I at_ t = b2 (g t)) → (∀ a, a ≠ 60 → a ≠ 61 → a ≠ 62 → a ≠ at_ → I a = I0 a) → pMo_judge_107 k (nI f) vt va vb (nI s) I B E ∧ Q (fMo_judge_107 k (nI f) vt va vb (nI s) I B E) := by
  intro k
  induction k with
  | zero => intro s I _ h; omega
  | succ k ih =>
    intro s I hs hk hI hb hg hF
    by_cases c : n ≤ s
    · have es : s = n := by omega
      subst es
      exact nxt k I hI ⟨hb, hg⟩ hF
    · refine hst k s Q I hI (by omega) (fun I' g1 g2 => ih (s + 1) _ (by omega) (by omega) (hJ I' s _ g1) (fun j hj => ?_) (fun t ht => ?_) (fun a h1 h2 h3 h4 => by rw [pm_u_n _ _ _ h4, g2 a h1 h2 h3]; exact hF a h1 h2 h3 h4))
      · by_cases e : j = s
        · rw [e, pm_u_s]; exact ⟨_, rfl⟩
        · rw [pm_u_j _ _ _ e, g2 at_ (by omega) (by omega) (by omega)]; exact hb j hj
      · by_cases e : t = s
        · rw [e, pm_u_s]
        · rw [pm_u_j _ _ _ e, g2 at_ (by omega) (by omega) (by omega)]; exact hg t (by omega)
/-- the end of the loop -/
theorem j_end (k : Nat) {I : Mm} {hw : Nat} (hn : n ≤ 256) (hf : f < 4200) (hall : fMo_all I = nI n) (h57 : I 57 f = nI hw) (hh : hw < 6 ∨ hw = 12 ∨ hw = 13) (Q : Mm → Prop) (hq : Q I) : pMo_judge_107 (k + 1) (nI f) vt va vb (nI n) I B E ∧ Q (fMo_judge_107 (k + 1) (nI f) vt va vb (nI n) I B E) := by
  have c' : nI n ≤ nI n := nI_le (Nat.le_refl _) (by omega)
  have v42 : vp_in (nI f) 4200 := vp_in_nI hf (by decide)
  rw [pMo_judge_107.eq_2, fMo_judge_107.eq_2, hall, if_pos c', nI_clamp (by omega), h57]
  rcases hh with hh | hh
  · have e : nI hw < (6 : Int32) := nI_lt (b := 6) hh (by decide)
    rw [if_pos e]
    exact ⟨⟨trivial, fun _ => ⟨v42, fun _ => trivial, fun q => absurd e q⟩, fun q => absurd c' q⟩, hq⟩
  · have e : ¬ nI hw < (6 : Int32) := nI_nlt (b := 6) (by omega) (by omega)
    have e2 : (11 : Int32) < nI hw := nI_lt (a := 11) (by omega) (by omega)
    rw [if_neg e, if_pos e2]
    exact ⟨⟨trivial, fun _ => ⟨v42, fun q => absurd q e, fun _ => ⟨v42, fun _ => trivial, fun q => absurd e2 q⟩⟩, fun q => absurd c' q⟩, hq⟩
theorem j_endF (k : Nat) {I : Mm} {hw : Nat} (hn : n ≤ 256) (hf : f < 4200) (hall : fMo_all I = nI n) (h57 : I 57 f = nI hw) (hh : 6 ≤ hw ∧ hw ≤ 11) (ht : pv vt) (ha : pv va) (hb : pv vb) (Q : Mm → Prop) (hq : pMo_fixed 66000 66000 (nI f) vt va vb I B E ∧ Q (fMo_fixed 66000 66000 (nI f) vt va vb I B E)) : pMo_judge_107 (k + 1) (nI f) vt va vb (nI n) I B E ∧ Q (fMo_judge_107 (k + 1) (nI f) vt va vb (nI n) I B E) := by
  have c' : nI n ≤ nI n := nI_le (Nat.le_refl _) (by omega)
  have v42 : vp_in (nI f) 4200 := vp_in_nI hf (by decide)
  rw [pMo_judge_107.eq_2, fMo_judge_107.eq_2, hall, if_pos c', nI_clamp (by omega), h57]
  have e : ¬ nI hw < (6 : Int32) := nI_nlt (b := 6) (by omega) (by omega)
  have e2 : ¬ (11 : Int32) < nI hw := nI_nlt (a := 11) (by omega) (by decide)
  rw [if_neg e, if_neg e2]
  exact ⟨⟨trivial, fun _ => ⟨v42, fun q => absurd q e, fun _ => ⟨v42, fun q => absurd q e2, fun _ => ⟨ht, ha, hb, hq.1, trivial⟩⟩⟩, fun q => absurd c' q⟩, hq.2⟩
/-- the start of judge -/
theorem j_g1 {I : Mm} {hw : Nat} (hf : f < 4200) (h57 : I 57 f = nI hw) (hh : hw = 12 ∨ hw = 13) (hB : pv (B f)) (Q : Mm → Prop) (hq : pMo_judge_107 257 (nI f) (B f) .null .null 0 I B E ∧ Q (fMo_judge_107 257 (nI f) (B f) .null .null 0 I B E)) : pMo_judge 257 (nI f) I B E ∧ Q (fMo_judge 257 (nI f) I B E) := by
  have v42 : vp_in (nI f) 4200 := vp_in_nI hf (by decide)
  have pn : pv .null := Or.inl rfl
  have J : pMo_judge_29 257 (nI f) (B f) I B E ∧ Q (fMo_judge_29 257 (nI f) (B f) I B E) := by
    unfold pMo_judge_29 fMo_judge_29 pMo_judge_44 fMo_judge_44 pMo_judge_65 fMo_judge_65 pMo_judge_102 fMo_judge_102
    rw [nI_clamp (by omega), h57]
    rcases hh with rfl | rfl
    · rw [if_neg (by decide), if_neg (by decide), if_neg (by decide), if_neg (by decide)]
      exact ⟨⟨⟨pn, hB⟩, v42, fun w => absurd w (by decide), fun _ => ⟨v42, fun w => absurd w (by decide), fun _ => ⟨v42, fun w => absurd w (by decide), fun _ => ⟨v42, fun w => absurd w (by decide), fun _ => ⟨⟨pn, pn⟩, pn, hq.1⟩⟩⟩⟩⟩, hq.2⟩
    · rw [if_neg (by decide), if_neg (by decide), if_neg (by decide), if_neg (by decide)]
      exact ⟨⟨⟨pn, hB⟩, v42, fun w => absurd w (by decide), fun _ => ⟨v42, fun w => absurd w (by decide), fun _ => ⟨v42, fun w => absurd w (by decide), fun _ => ⟨v42, fun w => absurd w (by decide), fun _ => ⟨⟨pn, pn⟩, pn, hq.1⟩⟩⟩⟩⟩, hq.2⟩
  unfold pMo_judge fMo_judge
  rw [nI_clamp (by omega), h57]
  rcases hh with rfl | rfl
  · rw [if_pos (show nI 12 = 12 by decide)]
    exact ⟨⟨⟨v42, hB⟩, hB, v42, fun _ => J.1, fun w => absurd rfl w⟩, J.2⟩
  · rw [if_neg (show ¬ nI 13 = 12 by decide), if_pos (show nI 13 = 13 by decide)]
    exact ⟨⟨⟨v42, hB⟩, hB, v42, fun w => absurd w (by decide), fun _ => ⟨v42, fun _ => J.1, fun w => absurd rfl w⟩⟩, J.2⟩
theorem j_g2 {I : Mm} {hw one : Nat} (hf : f < 4200) (h57 : I 57 f = nI hw) (h58 : I 58 f = nI one) (h1 : one < 4200) (hh : hw = 0 ∨ hw = 4 ∨ hw = 5 ∨ hw = 8 ∨ hw = 9 ∨ hw = 10 ∨ hw = 11) (hB : pv (B f)) (hA : pv (B one)) (Q : Mm → Prop) (hq : pMo_judge_107 257 (nI f) (B f) (B one) .null 0 I B E ∧ Q (fMo_judge_107 257 (nI f) (B f) (B one) .null 0 I B E)) : pMo_judge 257 (nI f) I B E ∧ Q (fMo_judge 257 (nI f) I B E) := by
  have v42 : vp_in (nI f) 4200 := vp_in_nI hf (by decide)
  have v1 : vp_in (nI one) 4200 := vp_in_nI h1 (by decide)
  have pn : pv .null := Or.inl rfl
  have J65 : pMo_judge_65 257 (nI f) (B f) (B one) I B E ∧ Q (fMo_judge_65 257 (nI f) (B f) (B one) I B E) := by
    unfold pMo_judge_65 fMo_judge_65 pMo_judge_102 fMo_judge_102
    rw [nI_clamp (by omega), h57]
    have e6 : ¬ nI hw = (6 : Int32) := fun q => by have := (nI_eq (by omega) (by decide)).mp (show nI hw = nI 6 from q); omega
    have e7 : ¬ nI hw = (7 : Int32) := fun q => by have := (nI_eq (by omega) (by decide)).mp (show nI hw = nI 7 from q); omega
    rw [if_neg e6, if_neg e7]
    exact ⟨⟨v42, fun w => absurd w e6, fun _ => ⟨v42, fun w => absurd w e7, fun _ => ⟨⟨pn, hA⟩, pn, hq.1⟩⟩⟩, hq.2⟩
  have J : pMo_judge_44 257 (nI f) (B f) (B one) I B E ∧ Q (fMo_judge_44 257 (nI f) (B f) (B one) I B E) := by
    unfold pMo_judge_44 fMo_judge_44
    rw [nI_clamp (by omega), h57]
    by_cases c : hw = 0
    · have e : nI hw < (1 : Int32) := by rw [c]; decide
      rw [if_pos e]
      exact ⟨⟨⟨hA, hB⟩, v42, fun _ => J65.1, fun w => absurd e w⟩, J65.2⟩
    · have e : ¬ nI hw < (1 : Int32) := nI_nlt (b := 1) (by omega) (by omega)
      have e3 : ¬ nI hw ≤ (3 : Int32) := nI_ge (a := 3) (by omega) (by omega)
      rw [if_neg e, if_neg e3]
      exact ⟨⟨⟨hA, hB⟩, v42, fun w => absurd w e, fun _ => ⟨v42, fun w => absurd w e3, fun _ => J65.1⟩⟩, J65.2⟩
  unfold pMo_judge fMo_judge
  rw [nI_clamp (n := f) (by omega), h57, h58, nI_clamp (n := one) (by omega)]
  have e12 : ¬ nI hw = (12 : Int32) := fun q => by have := (nI_eq (by omega) (by decide)).mp (show nI hw = nI 12 from q); omega
  have e13 : ¬ nI hw = (13 : Int32) := fun q => by have := (nI_eq (by omega) (by decide)).mp (show nI hw = nI 13 from q); omega
  rw [if_neg e12, if_neg e13]
  exact ⟨⟨⟨v42, hB⟩, hB, v42, fun w => absurd w e12, fun _ => ⟨v42, fun w => absurd w e13, fun _ => ⟨v42, ⟨v1, hA⟩, J.1⟩⟩⟩, J.2⟩
theorem j_g3 {I : Mm} {hw one two : Nat} (hf : f < 4200) (h57 : I 57 f = nI hw) (h58 : I 58 f = nI one) (h59 : I 59 f = nI two) (h1 : one < 4200) (h2 : two < 4200) (hh : hw = 1 ∨ hw = 2 ∨ hw = 3 ∨ hw = 6 ∨ hw = 7) (hB : pv (B f)) (hA : pv (B one)) (hA2 : pv (B two)) (Q : Mm → Prop) (hq : pMo_judge_107 257 (nI f) (B f) (B one) (B two) 0 I B E ∧ Q (fMo_judge_107 257 (nI f) (B f) (B one) (B two) 0 I B E)) : pMo_judge 257 (nI f) I B E ∧ Q (fMo_judge 257 (nI f) I B E) := by
  have v42 : vp_in (nI f) 4200 := vp_in_nI hf (by decide)
  have v1 : vp_in (nI one) 4200 := vp_in_nI h1 (by decide)
  have v2 : vp_in (nI two) 4200 := vp_in_nI h2 (by decide)
  have J87 : pMo_judge_87 257 (nI f) (B f) (B one) I B E ∧ Q (fMo_judge_87 257 (nI f) (B f) (B one) I B E) := by
    unfold pMo_judge_87 fMo_judge_87 pMo_judge_102 fMo_judge_102
    rw [nI_clamp (n := f) (by omega), h59, nI_clamp (n := two) (by omega)]
    exact ⟨⟨v42, ⟨v2, hA2⟩, ⟨hA2, hA⟩, hA2, hq.1⟩, hq.2⟩
  have J : pMo_judge_44 257 (nI f) (B f) (B one) I B E ∧ Q (fMo_judge_44 257 (nI f) (B f) (B one) I B E) := by
    unfold pMo_judge_44 fMo_judge_44
    rw [nI_clamp (by omega), h57]
    have e : ¬ nI hw < (1 : Int32) := nI_nlt (b := 1) (by omega) (by omega)
    rw [if_neg e]
    by_cases c : hw ≤ 3
    · have e3 : nI hw ≤ (3 : Int32) := nI_le (b := 3) c (by decide)
      rw [if_pos e3]
      exact ⟨⟨⟨hA, hB⟩, v42, fun w => absurd w e, fun _ => ⟨v42, fun _ => J87.1, fun w => absurd e3 w⟩⟩, J87.2⟩
    · have e3 : ¬ nI hw ≤ (3 : Int32) := nI_ge (a := 3) (by omega) (by omega)
      rw [if_neg e3]
      unfold pMo_judge_65 fMo_judge_65
      rw [nI_clamp (by omega), h57]
      by_cases c6 : hw = 6
      · have e6 : nI hw = (6 : Int32) := by rw [c6]; rfl
        rw [if_pos e6]
        exact ⟨⟨⟨hA, hB⟩, v42, fun w => absurd w e, fun _ => ⟨v42, fun w => absurd w e3, fun _ => ⟨v42, fun _ => J87.1, fun w => absurd e6 w⟩⟩⟩, J87.2⟩
      · have e6 : ¬ nI hw = (6 : Int32) := fun q => by have := (nI_eq (by omega) (by decide)).mp (show nI hw = nI 6 from q); omega
        have e7 : nI hw = (7 : Int32) := by rw [show hw = 7 by omega]; rfl
        rw [if_neg e6, if_pos e7]
        exact ⟨⟨⟨hA, hB⟩, v42, fun w => absurd w e, fun _ => ⟨v42, fun w => absurd w e3, fun _ => ⟨v42, fun w => absurd w e6, fun _ => ⟨v42, fun _ => J87.1, fun w => absurd e7 w⟩⟩⟩⟩, J87.2⟩
  unfold pMo_judge fMo_judge
  rw [nI_clamp (n := f) (by omega), h57, h58, nI_clamp (n := one) (by omega)]
  have e12 : ¬ nI hw = (12 : Int32) := fun q => by have := (nI_eq (by omega) (by decide)).mp (show nI hw = nI 12 from q); omega
  have e13 : ¬ nI hw = (13 : Int32) := fun q => by have := (nI_eq (by omega) (by decide)).mp (show nI hw = nI 13 from q); omega
  rw [if_neg e12, if_neg e13]
  exact ⟨⟨⟨v42, hB⟩, hB, v42, fun w => absurd w e12, fun _ => ⟨v42, fun w => absurd w e13, fun _ => ⟨v42, ⟨v1, hA⟩, J.1⟩⟩⟩, J.2⟩
end
