/-! CALLS 2: holds, at, go, tick, value -/
def eq6 (I I' : Mm) : Prop := (∀ a, a ≠ 40 → a ≠ 60 → a ≠ 61 → a ≠ 62 → I' a = I a) ∧ ∀ j, j ≠ 2 → I' 40 j = I 40 j
theorem Iv_6 {I I' : Mm} {J : Ml} {B : Nat → Value} {E : List (Nat × Nat)} (h : Iv I J B E) (f : eq6 I I') : Iv I' J B E := by
  obtain ⟨⟨co, Nm, rb, ib, sp, fi, Hn, D, SS, st, e, w, h1⟩, h2, b, L, h3, h4⟩ := h
  have g : ∀ a, (a < 40 ∨ a = 41 ∨ a = 354 ∨ a = 355) → I' a = I a := fun a ha => f.1 a (by omega) (by omega) (by omega) (by omega)
  refine ⟨⟨co, Nm, rb, ib, sp, fi, Hn, D, SS, st, e, w, Iw_c h1 (fun a ha => f.1 a (by omega) (by omega) (by omega) (by omega)) (fun j hj => f.2 j (by omega)) rfl rfl h1.1.2.2.2.1 (by rw [g 0 (by decide)]; exact h1.2.1.2.2.2.2.2.2.2) (by rw [f.2 46 (by decide)]; exact h1.2.2.2.2.2.2.2.2.1)⟩, ?_, b, L, cBy_c h3 (g 1 (by decide)) (g 2 (by decide)), by rw [f.2 1 (by decide)]; exact h4.1, h4.2.1, fun q hq => by rw [g 41 (by decide)]; exact h4.2.2 q hq⟩
  unfold It at h2 ⊢
  rw [g 37 (by decide), g 38 (by decide), g 39 (by decide), g 354 (by decide), g 355 (by decide), f.2 51 (by decide), f.2 52 (by decide)]
  exact h2
section
variable {I : Mm} {J : Ml} {B : Nat → Value} {E : List (Nat × Nat)}
theorem is_so {k s : Nat} (hk : k < 30) (hs : s < 256) : pCm_isSo (nI k) (nI s) I J ∧ fCm_isSo (nI k) (nI s) I J = b2 (sB J (4 * k) s) := by
  have e4 : nI k * 4 = nI (4 * k) := by show nI k * nI 4 = _; rw [pk_mul, Nat.mul_comm]
  have hh := cm_has (I := I) (J := J) (t := 4 * k) (s := s) (by omega) hs
  have e : fCm_has (nI (4 * k)) (nI s) I J = b2 (sB J (4 * k) s) := hh.2
  unfold pCm_isSo fCm_isSo
  rw [e4, e]
  exact ⟨⟨hh.1, nar_b' _⟩, rfl⟩
theorem eq6_0 (I : Mm) (v : Int32) : eq6 I (pm_u I 40 2 v) := ⟨fun _ ha _ _ _ => pm_u_n _ _ _ ha, fun _ hj => pm_u_j _ _ _ hj⟩
theorem eq6_1 (I : Mm) (u v : Int32) : eq6 I (pm_u (pm_u I 40 2 u) 40 2 v) := ⟨fun _ ha _ _ _ => (pm_u_n _ _ _ ha).trans (pm_u_n _ _ _ ha), fun _ hj => (pm_u_j _ _ _ hj).trans (pm_u_j _ _ _ hj)⟩
/-- refused with v, on both sides -/
def rfs (I : Mm) (c : Nat) (v : Int32) (x : Nat) (P : List (Nat × Nat) → Prop) (F : List (Nat × Nat) → Int32 × Mm) : Prop := x = c ∧ ∀ E, P E ∧ (F E).2 40 2 = v ∧ eq6 I (F E).2
theorem k_holds (h : Iv I J B E) (y : Int32) : pCh_holds y I J ∧ (((fCh_holds y I J).1 = 0 ∧ ∀ E, pMo_holds y I B E ∧ (fMo_holds y I B E).2 40 2 = 0 ∧ ((fCh_holds y I J).2 = 0 ↔ (fMo_holds y I B E).1 = 0) ∧ eq6 I (fMo_holds y I B E).2) ∨ rfs I 14 1 (fCh_holds y I J).1 (pMo_holds y I B) (fMo_holds y I B)) := by
  obtain ⟨⟨co, Nm, rb, ib, sp, fi, Hn, D, SS, st, e, w, ⟨a1, a2, a3, a4, a5⟩, ⟨c1, c2, c4, c5, c6, c7, c8, c9⟩, ⟨m1, m3, m4, m5, m6, m7, m8, m9⟩⟩, _⟩ := h
  have n256 := m1.2.1.2.2.1
  obtain ⟨s1, s2⟩ := is_spec (J := J) c6 a2 y
  rcases s2 with ⟨k, k1, rfl, k3, k4, k5⟩ | ⟨k1, k2⟩
  · obtain ⟨n1, n2⟩ := no_sp0 m7 k3 k4
    have so := is_so (I := I) (J := J) (k := k) (s := fi) (by omega) (by omega)
    rw [c2.2.2.2 k k1 fi (by omega)] at so
    have ro := (m1.2.2.2 k k1).2 fi a3
    have e40 : pm_u I 40 2 0 40 47 = nI fi := by rw [pm_u_j _ _ _ (by decide)]; exact m9
    have cc : pm_u I 40 2 0 (323 + (nI k).toNatClampNeg) (pm_u I 40 2 0 40 47).toNatClampNeg = b2 (SS k fi) := by
      rw [e40, nI_clamp (n := k) (by omega), nI_clamp (n := fi) (by omega), pm_u_n _ _ _ (show 323 + k ≠ 40 by omega), ro]
    have f1 : fCh_holds (nI k) I J = (0, b2 (SS k fi)) := by
      unfold fCh_holds
      rw [k5, if_neg (by decide), c8, so.2]
    have f2 : ∀ E, fMo_holds (nI k) I B E = (b2 (SS k fi), pm_u I 40 2 0) := fun E => by
      unfold fMo_holds fMo_holds_5
      rw [n2, if_pos rfl]
      dsimp only
      rw [cc]
    have p2 : ∀ E, pMo_holds (nI k) I B E := fun E => by
      unfold pMo_holds pMo_holds_5
      rw [n2]
      refine ⟨n1, fun _ => ⟨vp_in_nI (by omega) (by decide), ?_, ?_⟩, fun q => absurd rfl q⟩
      · show vp_in (pm_u I 40 2 0 40 47) 256
        rw [e40]; exact vp_in_nI (by omega) (by decide)
      · show narrow .boolean (.int (pm_u I 40 2 0 (323 + (nI k).toNatClampNeg) (pm_u I 40 2 0 40 47).toNatClampNeg)) = .int (pm_u I 40 2 0 (323 + (nI k).toNatClampNeg) (pm_u I 40 2 0 40 47).toNatClampNeg)
        rw [cc]; exact nar_b' _
    refine ⟨?_, Or.inl ⟨by rw [f1], fun E => ?_⟩⟩
    · unfold pCh_holds
      rw [k5, c8, so.2]
      exact ⟨s1, fun q => absurd q (by decide), fun _ => ⟨so.1, nar_b' _⟩⟩
    · rw [f1, f2]
      dsimp only
      exact ⟨p2 E, pm_u_s _ _ _ _, Iff.rfl, eq6_0 _ _⟩
  · obtain ⟨n1, n2⟩ := no_sp1 m7 k1
    have f1 : fCh_holds y I J = (14, 0) := by
      unfold fCh_holds
      rw [k2, if_pos rfl]
    have f2 : ∀ E, fMo_holds y I B E = (0, pm_u (pm_u I 40 2 0) 40 2 1) := fun E => by
      unfold fMo_holds fMo_holds_5
      rw [n2]; exact if_neg (show ¬ (1 : Int32) = 0 by decide)
    have p2 : ∀ E, pMo_holds y I B E := fun E => by
      unfold pMo_holds pMo_holds_5
      rw [n2]
      exact ⟨n1, fun q => absurd q (show ¬ (1 : Int32) = 0 by decide), fun _ => trivial⟩
    refine ⟨?_, Or.inr ⟨by rw [f1], fun E => ?_⟩⟩
    · unfold pCh_holds
      rw [k2]
      exact ⟨s1, fun _ => trivial, fun q => absurd rfl q⟩
    · rw [f2]
      dsimp only
      exact ⟨p2 E, pm_u_s _ _ _ _, eq6_1 _ _ _⟩
theorem k_at (h : Iv I J B E) (y z : Int32) : pCh_at y z I J ∧ (((fCh_at y z I J).1 = 0 ∧ ∀ E, pMo_at y z I B E ∧ (fMo_at y z I B E).2 40 2 = 0 ∧ ((fCh_at y z I J).2 = 0 ↔ (fMo_at y z I B E).1 = 0) ∧ eq6 I (fMo_at y z I B E).2) ∨ rfs I 14 1 (fCh_at y z I J).1 (pMo_at y z I B) (fMo_at y z I B)) := by
  obtain ⟨⟨co, Nm, rb, ib, sp, fi, Hn, D, SS, st, e, w, ⟨a1, a2, a3, a4, a5⟩, ⟨c1, c2, c4, c5, c6, c7, c8, c9⟩, ⟨m1, m3, m4, m5, m6, m7, m8, m9⟩⟩, _⟩ := h
  have n256 := m1.2.1.2.2.1
  obtain ⟨s1, s2⟩ := is_spec (J := J) c6 a2 y
  rcases s2 with ⟨k, k1, rfl, k3, k4, k5⟩ | ⟨k1, k2⟩
  · obtain ⟨n1, n2⟩ := no_sp0 m7 k3 k4
    obtain ⟨t1, t2⟩ := is_state (J := J) c2.1.1 n256 z
    have al : fMo_all (pm_u I 40 2 0) = nI (2 ^ rb) := by
      rw [← m1.2.1.1]
      unfold fMo_all
      rw [pm_u_j _ _ _ (by decide)]
    rcases t2 with ⟨s, j1, rfl, j3, j4, j5⟩ | ⟨j1, j2⟩
    · have so := is_so (I := I) (J := J) (k := k) (s := s) (by omega) (by omega)
      rw [c2.2.2.2 k k1 s (by omega)] at so
      have ro := (m1.2.2.2 k k1).2 s j1
      have cc : pm_u I 40 2 0 (323 + (nI k).toNatClampNeg) (nI s).toNatClampNeg = b2 (SS k s) := by
        rw [nI_clamp (n := k) (by omega), nI_clamp (n := s) (by omega), pm_u_n _ _ _ (show 323 + k ≠ 40 by omega), ro]
      have f1 : fCh_at (nI k) (nI s) I J = (0, b2 (SS k s)) := by
        unfold fCh_at
        rw [k5, if_neg (by decide), j5, if_neg (by decide), so.2]
      have f2 : ∀ E, fMo_at (nI k) (nI s) I B E = (b2 (SS k s), pm_u I 40 2 0) := fun E => by
        unfold fMo_at fMo_at_5
        rw [n2, if_pos rfl, if_neg j3]
        dsimp only
        rw [al, if_pos j4]
        unfold fMo_at_27 fMo_at_30
        rw [(rf0 1).2, if_pos rfl]
        dsimp only
        rw [cc]
      have p2 : ∀ E, pMo_at (nI k) (nI s) I B E := fun E => by
        unfold pMo_at pMo_at_5
        rw [n2]
        dsimp only
        rw [al]
        refine ⟨n1, fun _ => ⟨fun q => absurd q j3, fun _ => ⟨trivial, fun _ => ?_, fun q => absurd j4 q⟩⟩, fun q => absurd rfl q⟩
        unfold pMo_at_27 pMo_at_30
        rw [(rf0 1).2]
        dsimp only
        rw [cc]
        exact ⟨(rf0 1).1, fun _ => ⟨vp_in_nI (by omega) (by decide), vp_in_nI (by omega) (by decide), nar_b' _⟩, fun q => absurd rfl q⟩
      refine ⟨?_, Or.inl ⟨by rw [f1], fun E => ?_⟩⟩
      · unfold pCh_at
        rw [k5, j5, so.2]
        exact ⟨s1, fun q => absurd q (by decide), fun _ => ⟨t1, fun q => absurd q (by decide), fun _ => ⟨so.1, nar_b' _⟩⟩⟩
      · rw [f1, f2]
        dsimp only
        exact ⟨p2 E, pm_u_s _ _ _ _, Iff.rfl, eq6_0 _ _⟩
    · have f1 : fCh_at (nI k) z I J = (14, 0) := by
        unfold fCh_at fCh_at_16
        rw [k5, if_neg (by decide), j2, if_pos rfl]
      have f2 : ∀ E, fMo_at (nI k) z I B E = (0, pm_u (pm_u I 40 2 0) 40 2 1) := fun E => by
        unfold fMo_at fMo_at_5 fMo_at_22 fMo_at_27 fMo_at_30 fMo_at_33
        rw [n2, if_pos rfl]
        dsimp only
        rw [al]
        rcases j1 with j1 | ⟨j1, j3⟩
        · rw [if_pos j1, (rf1 1).2]; exact if_neg (show ¬ (1 : Int32) = 0 by decide)
        · rw [if_neg j1, if_neg j3, (rf1 1).2]; exact if_neg (show ¬ (1 : Int32) = 0 by decide)
      have p2 : ∀ E, pMo_at (nI k) z I B E := fun E => by
        have p3 : pMo_at_27 (nI k) z 1 1 (pm_u I 40 2 0) B E := by
          unfold pMo_at_27 pMo_at_30
          rw [(rf1 1).2]
          exact ⟨(rf1 1).1, fun q => absurd q (show ¬ (1 : Int32) = 0 by decide), fun _ => trivial⟩
        unfold pMo_at pMo_at_5
        rw [n2]
        dsimp only
        rw [al]
        refine ⟨n1, fun _ => ⟨fun _ => p3, fun j3 => ⟨trivial, fun j4 => ?_, fun _ => p3⟩⟩, fun q => absurd rfl q⟩
        rcases j1 with j1 | ⟨j1, j5⟩
        · exact absurd j1 j3
        · exact absurd j4 j5
      refine ⟨?_, Or.inr ⟨by rw [f1], fun E => ?_⟩⟩
      · unfold pCh_at
        rw [k5, j2]
        exact ⟨s1, fun q => absurd q (by decide), fun _ => ⟨t1, fun _ => trivial, fun q => absurd rfl q⟩⟩
      · rw [f2]
        dsimp only
        exact ⟨p2 E, pm_u_s _ _ _ _, eq6_1 _ _ _⟩
  · obtain ⟨n1, n2⟩ := no_sp1 m7 k1
    have f1 : fCh_at y z I J = (14, 0) := by
      unfold fCh_at fCh_at_16
      rw [k2, if_pos rfl]
    have f2 : ∀ E, fMo_at y z I B E = (0, pm_u (pm_u I 40 2 0) 40 2 1) := fun E => by
      unfold fMo_at fMo_at_5 fMo_at_33
      rw [n2]; exact if_neg (show ¬ (1 : Int32) = 0 by decide)
    have p2 : ∀ E, pMo_at y z I B E := fun E => by
      unfold pMo_at pMo_at_5
      rw [n2]
      exact ⟨n1, fun q => absurd q (show ¬ (1 : Int32) = 0 by decide), fun _ => trivial⟩
    refine ⟨?_, Or.inr ⟨by rw [f1], fun E => ?_⟩⟩
    · unfold pCh_at
      rw [k2]
      exact ⟨s1, fun _ => trivial, fun q => absurd rfl q⟩
    · rw [f2]
      dsimp only
      exact ⟨p2 E, pm_u_s _ _ _ _, eq6_1 _ _ _⟩
end
