/-! MODEL WORKS OUT 5: fixed -/
section
variable {n m : Nat} {nx : Nat → Nat → Nat} {I : Mm} {B : Nat → Value} {E : List (Nat × Nat)}
abbrev Q3 := Int32 → Value → Value → Value → Int32 → Mm → (Nat → Value) → List (Nat × Nat) → Prop
abbrev F3 := Int32 → Value → Value → Value → Int32 → Mm → (Nat → Value) → List (Nat × Nat) → Mm
theorem not_b (c : Bool) : ¬ c = true ↔ c = false := by cases c <;> decide
theorem b2f : b2 false = 0 := rfl
theorem b2t : b2 true = 1 := rfl
theorem fx_6 {q3 : Q3} {r3 : F3} {k f at_ aa ab s : Nat} {vt va vb : Value} {x ga gb : Se} {y5 : Int32} {Q : Mm → Prop} (h : mA n m nx I) (hf : f < 4200) (h57 : I 57 f = nI 6) (ht : rv E vt at_) (ha : rv E va aa) (hb : rv E vb ab) (rt : rw_ n I at_ x) (ra : rw_ n I aa ga) (rb : rw_ n I ab gb) (hs : s < n) (nxt : ∀ c : Bool, (c = true ↔ psi m nx false ga gb x s) → pMo_fixed_245 q3 (pMo_fixed_14 q3 k) (nI f) vt va vb y5 (nI s) (b2 c) I B E ∧ Q (fMo_fixed_245 r3 (fMo_fixed_14 r3 k) (nI f) vt va vb y5 (nI s) (b2 c) I B E)) : pMo_fixed_14 q3 (k + 1) (nI f) vt va vb y5 (nI s) I B E ∧ Q (fMo_fixed_14 r3 (k + 1) (nI f) vt va vb y5 (nI s) I B E) := by
  have n256 := h.2.2.1
  have vs : vp_in (nI s) 256 := vp_in_nI (by omega) (by decide)
  have c' : ¬ nI n ≤ nI s := nI_ge hs (by omega)
  obtain ⟨z1, c, z2, z3⟩ := m_nx2 (B := B) h ht rt hs false
  have z1' : pMo_next2 9 vt (nI s) (0 : Int32) I B E := z1
  have z2' : fMo_next2 9 vt (nI s) (0 : Int32) I B E = b2 c := z2
  have yes := fun q => nxt true ⟨fun _ => q, fun _ => rfl⟩
  have no := fun q => nxt false ⟨fun w => absurd w (by decide), fun w => absurd w q⟩
  rw [b2t] at yes
  rw [b2f] at no
  rw [pMo_fixed_14.eq_2, fMo_fixed_14.eq_2, h.1, if_neg c', nI_clamp (n := f) (by omega), nI_clamp (n := s) (by omega), h57, (rv_pv hb).2, (rv_pv ha).2, rb.2 s hs, ra.2 s hs, z2']
  unfold pMo_fixed_94 fMo_fixed_94 pMo_fixed_90 fMo_fixed_90 pMo_fixed_95 fMo_fixed_95
  have pb := rv_p hb
  have pa' := rv_p ha
  have v42 : vp_in (nI f) 4200 := vp_in_nI hf (by decide)
  rw [(rv_pv hb).2] at pb
  rw [(rv_pv ha).2] at pa'
  repeat rw [if_neg (show ¬ nI 6 = _ by decide)]
  rw [if_pos (show nI 6 = 6 by decide)]
  by_cases cb : gb s = true
  · have e : ¬ b2 (gb s) = 0 := by rw [cb]; decide
    have y := yes (Or.inl cb)
    rw [if_neg e]
    refine ⟨⟨trivial, fun w => absurd w c', fun _ => ⟨v42, ?_⟩⟩, y.2⟩
    repeat first | exact ⟨fun _ => ⟨(rv_pv hb).1, ⟨pb.1, pb.2, vs⟩, fun w => absurd w e, fun _ => y.1⟩, fun w => absurd rfl w⟩ | refine ⟨fun w => absurd w (by decide), fun _ => ?_⟩
  have e : b2 (gb s) = 0 := (b2_0 _).mpr ((not_b _).mp cb)
  rw [if_pos e]
  by_cases ca : ga s = true
  rotate_left
  · have e2 : b2 (ga s) = 0 := (b2_0 _).mpr ((not_b _).mp ca)
    have y := no (fun w => by
      rcases w with w | w
      · exact cb w
      · exact ca w.1)
    rw [if_pos e2]
    refine ⟨⟨trivial, fun w => absurd w c', fun _ => ⟨v42, ?_⟩⟩, y.2⟩
    repeat first | exact ⟨fun _ => ⟨(rv_pv hb).1, ⟨pb.1, pb.2, vs⟩, fun _ => ⟨(rv_pv ha).1, ⟨pa'.1, pa'.2, vs⟩, fun _ => y.1, fun w => absurd e2 w⟩, fun w => absurd e w⟩, fun w => absurd rfl w⟩ | refine ⟨fun w => absurd w (by decide), fun _ => ?_⟩
  have e2 : ¬ b2 (ga s) = 0 := by rw [ca]; decide
  rw [if_neg e2]
  cases hc : c with
  | true =>
    rw [hc] at z2' z3
    have e3 : ¬ b2 true = 0 := by decide
    have y := yes (Or.inr ⟨ca, z3.mp rfl⟩)
    rw [if_neg e3]
    refine ⟨⟨trivial, fun w => absurd w c', fun _ => ⟨v42, ?_⟩⟩, y.2⟩
    repeat first | exact ⟨fun _ => ⟨(rv_pv hb).1, ⟨pb.1, pb.2, vs⟩, fun _ => ⟨(rv_pv ha).1, ⟨pa'.1, pa'.2, vs⟩, fun w => absurd w e2, fun _ => ⟨(rv_pv ht).1, z1', fun w => absurd w e3, fun _ => y.1⟩⟩, fun w => absurd e w⟩, fun w => absurd rfl w⟩ | refine ⟨fun w => absurd w (by decide), fun _ => ?_⟩
  | false =>
    rw [hc] at z2' z3
    have e3 : b2 false = 0 := rfl
    have y := no (fun w => by
      rcases w with w | w
      · exact cb w
      · exact absurd (z3.mpr w.2) (by decide))
    rw [if_pos e3]
    refine ⟨⟨trivial, fun w => absurd w c', fun _ => ⟨v42, ?_⟩⟩, y.2⟩
    repeat first | exact ⟨fun _ => ⟨(rv_pv hb).1, ⟨pb.1, pb.2, vs⟩, fun _ => ⟨(rv_pv ha).1, ⟨pa'.1, pa'.2, vs⟩, fun w => absurd w e2, fun _ => ⟨(rv_pv ht).1, z1', fun _ => y.1, fun w => absurd e3 w⟩⟩, fun w => absurd e w⟩, fun w => absurd rfl w⟩ | refine ⟨fun w => absurd w (by decide), fun _ => ?_⟩
theorem fx_7 {q3 : Q3} {r3 : F3} {k f at_ aa ab s : Nat} {vt va vb : Value} {x ga gb : Se} {y5 : Int32} {Q : Mm → Prop} (h : mA n m nx I) (hf : f < 4200) (h57 : I 57 f = nI 7) (ht : rv E vt at_) (ha : rv E va aa) (hb : rv E vb ab) (rt : rw_ n I at_ x) (ra : rw_ n I aa ga) (rb : rw_ n I ab gb) (hs : s < n) (nxt : ∀ c : Bool, (c = true ↔ psi m nx true ga gb x s) → pMo_fixed_245 q3 (pMo_fixed_14 q3 k) (nI f) vt va vb y5 (nI s) (b2 c) I B E ∧ Q (fMo_fixed_245 r3 (fMo_fixed_14 r3 k) (nI f) vt va vb y5 (nI s) (b2 c) I B E)) : pMo_fixed_14 q3 (k + 1) (nI f) vt va vb y5 (nI s) I B E ∧ Q (fMo_fixed_14 r3 (k + 1) (nI f) vt va vb y5 (nI s) I B E) := by
  have n256 := h.2.2.1
  have vs : vp_in (nI s) 256 := vp_in_nI (by omega) (by decide)
  have c' : ¬ nI n ≤ nI s := nI_ge hs (by omega)
  obtain ⟨z1, c, z2, z3⟩ := m_nx2 (B := B) h ht rt hs true
  have z1' : pMo_next2 9 vt (nI s) (1 : Int32) I B E := z1
  have z2' : fMo_next2 9 vt (nI s) (1 : Int32) I B E = b2 c := z2
  have yes := fun q => nxt true ⟨fun _ => q, fun _ => rfl⟩
  have no := fun q => nxt false ⟨fun w => absurd w (by decide), fun w => absurd w q⟩
  rw [b2t] at yes
  rw [b2f] at no
  rw [pMo_fixed_14.eq_2, fMo_fixed_14.eq_2, h.1, if_neg c', nI_clamp (n := f) (by omega), nI_clamp (n := s) (by omega), h57, (rv_pv hb).2, (rv_pv ha).2, rb.2 s hs, ra.2 s hs, z2']
  unfold pMo_fixed_130 fMo_fixed_130 pMo_fixed_126 fMo_fixed_126 pMo_fixed_131 fMo_fixed_131
  have pb := rv_p hb
  have pa' := rv_p ha
  have v42 : vp_in (nI f) 4200 := vp_in_nI hf (by decide)
  rw [(rv_pv hb).2] at pb
  rw [(rv_pv ha).2] at pa'
  repeat rw [if_neg (show ¬ nI 7 = _ by decide)]
  rw [if_pos (show nI 7 = 7 by decide)]
  by_cases cb : gb s = true
  · have e : ¬ b2 (gb s) = 0 := by rw [cb]; decide
    have y := yes (Or.inl cb)
    rw [if_neg e]
    refine ⟨⟨trivial, fun w => absurd w c', fun _ => ⟨v42, ?_⟩⟩, y.2⟩
    repeat first | exact ⟨fun _ => ⟨(rv_pv hb).1, ⟨pb.1, pb.2, vs⟩, fun w => absurd w e, fun _ => y.1⟩, fun w => absurd rfl w⟩ | refine ⟨fun w => absurd w (by decide), fun _ => ?_⟩
  have e : b2 (gb s) = 0 := (b2_0 _).mpr ((not_b _).mp cb)
  rw [if_pos e]
  by_cases ca : ga s = true
  rotate_left
  · have e2 : b2 (ga s) = 0 := (b2_0 _).mpr ((not_b _).mp ca)
    have y := no (fun w => by
      rcases w with w | w
      · exact cb w
      · exact ca w.1)
    rw [if_pos e2]
    refine ⟨⟨trivial, fun w => absurd w c', fun _ => ⟨v42, ?_⟩⟩, y.2⟩
    repeat first | exact ⟨fun _ => ⟨(rv_pv hb).1, ⟨pb.1, pb.2, vs⟩, fun _ => ⟨(rv_pv ha).1, ⟨pa'.1, pa'.2, vs⟩, fun _ => y.1, fun w => absurd e2 w⟩, fun w => absurd e w⟩, fun w => absurd rfl w⟩ | refine ⟨fun w => absurd w (by decide), fun _ => ?_⟩
  have e2 : ¬ b2 (ga s) = 0 := by rw [ca]; decide
  rw [if_neg e2]
  cases hc : c with
  | true =>
    rw [hc] at z2' z3
    have e3 : ¬ b2 true = 0 := by decide
    have y := yes (Or.inr ⟨ca, z3.mp rfl⟩)
    rw [if_neg e3]
    refine ⟨⟨trivial, fun w => absurd w c', fun _ => ⟨v42, ?_⟩⟩, y.2⟩
    repeat first | exact ⟨fun _ => ⟨(rv_pv hb).1, ⟨pb.1, pb.2, vs⟩, fun _ => ⟨(rv_pv ha).1, ⟨pa'.1, pa'.2, vs⟩, fun w => absurd w e2, fun _ => ⟨(rv_pv ht).1, z1', fun w => absurd w e3, fun _ => y.1⟩⟩, fun w => absurd e w⟩, fun w => absurd rfl w⟩ | refine ⟨fun w => absurd w (by decide), fun _ => ?_⟩
  | false =>
    rw [hc] at z2' z3
    have e3 : b2 false = 0 := rfl
    have y := no (fun w => by
      rcases w with w | w
      · exact cb w
      · exact absurd (z3.mpr w.2) (by decide))
    rw [if_pos e3]
    refine ⟨⟨trivial, fun w => absurd w c', fun _ => ⟨v42, ?_⟩⟩, y.2⟩
    repeat first | exact ⟨fun _ => ⟨(rv_pv hb).1, ⟨pb.1, pb.2, vs⟩, fun _ => ⟨(rv_pv ha).1, ⟨pa'.1, pa'.2, vs⟩, fun w => absurd w e2, fun _ => ⟨(rv_pv ht).1, z1', fun _ => y.1, fun w => absurd e3 w⟩⟩, fun w => absurd e w⟩, fun w => absurd rfl w⟩ | refine ⟨fun w => absurd w (by decide), fun _ => ?_⟩
theorem fx_8 {q3 : Q3} {r3 : F3} {k f at_ aa s : Nat} {vt va vb : Value} {x ga : Se} {y5 : Int32} {Q : Mm → Prop} (h : mA n m nx I) (hf : f < 4200) (h57 : I 57 f = nI 8) (ht : rv E vt at_) (ha : rv E va aa) (rt : rw_ n I at_ x) (ra : rw_ n I aa ga) (hs : s < n) (nxt : ∀ c : Bool, (c = true ↔ psi m nx false (ev n) ga x s) → pMo_fixed_245 q3 (pMo_fixed_14 q3 k) (nI f) vt va vb y5 (nI s) (b2 c) I B E ∧ Q (fMo_fixed_245 r3 (fMo_fixed_14 r3 k) (nI f) vt va vb y5 (nI s) (b2 c) I B E)) : pMo_fixed_14 q3 (k + 1) (nI f) vt va vb y5 (nI s) I B E ∧ Q (fMo_fixed_14 r3 (k + 1) (nI f) vt va vb y5 (nI s) I B E) := by
  have n256 := h.2.2.1
  have vs : vp_in (nI s) 256 := vp_in_nI (by omega) (by decide)
  have c' : ¬ nI n ≤ nI s := nI_ge hs (by omega)
  obtain ⟨z1, c, z2, z3⟩ := m_nx2 (B := B) h ht rt hs false
  have z1' : pMo_next2 9 vt (nI s) (0 : Int32) I B E := z1
  have z2' : fMo_next2 9 vt (nI s) (0 : Int32) I B E = b2 c := z2
  have evs : ev n s = true := decide_eq_true hs
  have yes := fun q => nxt true ⟨fun _ => q, fun _ => rfl⟩
  have no := fun q => nxt false ⟨fun w => absurd w (by decide), fun w => absurd w q⟩
  rw [b2t] at yes
  rw [b2f] at no
  rw [pMo_fixed_14.eq_2, fMo_fixed_14.eq_2, h.1, if_neg c', nI_clamp (n := f) (by omega), nI_clamp (n := s) (by omega), h57, (rv_pv ha).2, ra.2 s hs, z2']
  unfold pMo_fixed_154 fMo_fixed_154 pMo_fixed_159 fMo_fixed_159
  have pa' := rv_p ha
  have v42 : vp_in (nI f) 4200 := vp_in_nI hf (by decide)
  rw [(rv_pv ha).2] at pa'
  repeat rw [if_neg (show ¬ nI 8 = _ by decide)]
  rw [if_pos (show nI 8 = 8 by decide)]
  by_cases ca : ga s = true
  · have e2 : ¬ b2 (ga s) = 0 := by rw [ca]; decide
    have y := yes (Or.inl ca)
    rw [if_neg e2]
    refine ⟨⟨trivial, fun w => absurd w c', fun _ => ⟨v42, ?_⟩⟩, y.2⟩
    repeat first | exact ⟨fun _ => ⟨(rv_pv ha).1, ⟨pa'.1, pa'.2, vs⟩, fun w => absurd w e2, fun _ => y.1⟩, fun w => absurd rfl w⟩ | refine ⟨fun w => absurd w (by decide), fun _ => ?_⟩
  have e2 : b2 (ga s) = 0 := (b2_0 _).mpr ((not_b _).mp ca)
  rw [if_pos e2]
  cases hc : c with
  | true =>
    rw [hc] at z2' z3
    have e3 : ¬ b2 true = 0 := by decide
    have y := yes (Or.inr ⟨evs, z3.mp rfl⟩)
    rw [if_neg e3]
    refine ⟨⟨trivial, fun w => absurd w c', fun _ => ⟨v42, ?_⟩⟩, y.2⟩
    repeat first | exact ⟨fun _ => ⟨(rv_pv ha).1, ⟨pa'.1, pa'.2, vs⟩, fun _ => ⟨(rv_pv ht).1, z1', fun w => absurd w e3, fun _ => y.1⟩, fun w => absurd e2 w⟩, fun w => absurd rfl w⟩ | refine ⟨fun w => absurd w (by decide), fun _ => ?_⟩
  | false =>
    rw [hc] at z2' z3
    have e3 : b2 false = 0 := rfl
    have y := no (fun w => by
      rcases w with w | w
      · exact ca w
      · exact absurd (z3.mpr w.2) (by decide))
    rw [if_pos e3]
    refine ⟨⟨trivial, fun w => absurd w c', fun _ => ⟨v42, ?_⟩⟩, y.2⟩
    repeat first | exact ⟨fun _ => ⟨(rv_pv ha).1, ⟨pa'.1, pa'.2, vs⟩, fun _ => ⟨(rv_pv ht).1, z1', fun _ => y.1, fun w => absurd e3 w⟩, fun w => absurd e2 w⟩, fun w => absurd rfl w⟩ | refine ⟨fun w => absurd w (by decide), fun _ => ?_⟩
theorem fx_9 {q3 : Q3} {r3 : F3} {k f at_ aa s : Nat} {vt va vb : Value} {x ga : Se} {y5 : Int32} {Q : Mm → Prop} (h : mA n m nx I) (hf : f < 4200) (h57 : I 57 f = nI 9) (ht : rv E vt at_) (ha : rv E va aa) (rt : rw_ n I at_ x) (ra : rw_ n I aa ga) (hs : s < n) (nxt : ∀ c : Bool, (c = true ↔ psi m nx true (ev n) ga x s) → pMo_fixed_245 q3 (pMo_fixed_14 q3 k) (nI f) vt va vb y5 (nI s) (b2 c) I B E ∧ Q (fMo_fixed_245 r3 (fMo_fixed_14 r3 k) (nI f) vt va vb y5 (nI s) (b2 c) I B E)) : pMo_fixed_14 q3 (k + 1) (nI f) vt va vb y5 (nI s) I B E ∧ Q (fMo_fixed_14 r3 (k + 1) (nI f) vt va vb y5 (nI s) I B E) := by
  have n256 := h.2.2.1
  have vs : vp_in (nI s) 256 := vp_in_nI (by omega) (by decide)
  have c' : ¬ nI n ≤ nI s := nI_ge hs (by omega)
  obtain ⟨z1, c, z2, z3⟩ := m_nx2 (B := B) h ht rt hs true
  have z1' : pMo_next2 9 vt (nI s) (1 : Int32) I B E := z1
  have z2' : fMo_next2 9 vt (nI s) (1 : Int32) I B E = b2 c := z2
  have evs : ev n s = true := decide_eq_true hs
  have yes := fun q => nxt true ⟨fun _ => q, fun _ => rfl⟩
  have no := fun q => nxt false ⟨fun w => absurd w (by decide), fun w => absurd w q⟩
  rw [b2t] at yes
  rw [b2f] at no
  rw [pMo_fixed_14.eq_2, fMo_fixed_14.eq_2, h.1, if_neg c', nI_clamp (n := f) (by omega), nI_clamp (n := s) (by omega), h57, (rv_pv ha).2, ra.2 s hs, z2']
  unfold pMo_fixed_182 fMo_fixed_182 pMo_fixed_187 fMo_fixed_187
  have pa' := rv_p ha
  have v42 : vp_in (nI f) 4200 := vp_in_nI hf (by decide)
  rw [(rv_pv ha).2] at pa'
  repeat rw [if_neg (show ¬ nI 9 = _ by decide)]
  rw [if_pos (show nI 9 = 9 by decide)]
  by_cases ca : ga s = true
  · have e2 : ¬ b2 (ga s) = 0 := by rw [ca]; decide
    have y := yes (Or.inl ca)
    rw [if_neg e2]
    refine ⟨⟨trivial, fun w => absurd w c', fun _ => ⟨v42, ?_⟩⟩, y.2⟩
    repeat first | exact ⟨fun _ => ⟨(rv_pv ha).1, ⟨pa'.1, pa'.2, vs⟩, fun w => absurd w e2, fun _ => y.1⟩, fun w => absurd rfl w⟩ | refine ⟨fun w => absurd w (by decide), fun _ => ?_⟩
  have e2 : b2 (ga s) = 0 := (b2_0 _).mpr ((not_b _).mp ca)
  rw [if_pos e2]
  cases hc : c with
  | true =>
    rw [hc] at z2' z3
    have e3 : ¬ b2 true = 0 := by decide
    have y := yes (Or.inr ⟨evs, z3.mp rfl⟩)
    rw [if_neg e3]
    refine ⟨⟨trivial, fun w => absurd w c', fun _ => ⟨v42, ?_⟩⟩, y.2⟩
    repeat first | exact ⟨fun _ => ⟨(rv_pv ha).1, ⟨pa'.1, pa'.2, vs⟩, fun _ => ⟨(rv_pv ht).1, z1', fun w => absurd w e3, fun _ => y.1⟩, fun w => absurd e2 w⟩, fun w => absurd rfl w⟩ | refine ⟨fun w => absurd w (by decide), fun _ => ?_⟩
  | false =>
    rw [hc] at z2' z3
    have e3 : b2 false = 0 := rfl
    have y := no (fun w => by
      rcases w with w | w
      · exact ca w
      · exact absurd (z3.mpr w.2) (by decide))
    rw [if_pos e3]
    refine ⟨⟨trivial, fun w => absurd w c', fun _ => ⟨v42, ?_⟩⟩, y.2⟩
    repeat first | exact ⟨fun _ => ⟨(rv_pv ha).1, ⟨pa'.1, pa'.2, vs⟩, fun _ => ⟨(rv_pv ht).1, z1', fun _ => y.1, fun w => absurd e3 w⟩, fun w => absurd e2 w⟩, fun w => absurd rfl w⟩ | refine ⟨fun w => absurd w (by decide), fun _ => ?_⟩
theorem fx_10 {q3 : Q3} {r3 : F3} {k f at_ aa s : Nat} {vt va vb : Value} {x ga : Se} {y5 : Int32} {Q : Mm → Prop} (h : mA n m nx I) (hf : f < 4200) (h57 : I 57 f = nI 10) (ht : rv E vt at_) (ha : rv E va aa) (rt : rw_ n I at_ (fun t => !x t)) (ra : rw_ n I aa ga) (hs : s < n) (nxt : ∀ c : Bool, (c = true ↔ psi m nx true (ev n) (notF n ga) x s) → pMo_fixed_245 q3 (pMo_fixed_14 q3 k) (nI f) vt va vb y5 (nI s) (b2 (!c)) I B E ∧ Q (fMo_fixed_245 r3 (fMo_fixed_14 r3 k) (nI f) vt va vb y5 (nI s) (b2 (!c)) I B E)) : pMo_fixed_14 q3 (k + 1) (nI f) vt va vb y5 (nI s) I B E ∧ Q (fMo_fixed_14 r3 (k + 1) (nI f) vt va vb y5 (nI s) I B E) := by
  have n256 := h.2.2.1
  have vs : vp_in (nI s) 256 := vp_in_nI (by omega) (by decide)
  have c' : ¬ nI n ≤ nI s := nI_ge hs (by omega)
  obtain ⟨z1, c, z2, z3⟩ := m_nx2 (B := B) h ht rt hs false
  have z1' : pMo_next2 9 vt (nI s) (0 : Int32) I B E := z1
  have z2' : fMo_next2 9 vt (nI s) (0 : Int32) I B E = b2 c := z2
  have evs : ev n s = true := decide_eq_true hs
  have zz : c = true ↔ ¬ pre m nx true x s := by
    rw [z3]
    constructor
    · rintro p q
      obtain ⟨i, hi, hx⟩ := p.2 rfl
      have := q.1 rfl i hi
      simp [this] at hx
    · intro q
      refine ⟨fun w => absurd w (by decide), fun _ => Classical.byContradiction fun w => q ⟨fun _ i hi => ?_, fun w => absurd w (by decide)⟩⟩
      cases hx : x (nx s i) with
      | true => rfl
      | false => exact absurd ⟨i, hi, by simp [hx]⟩ w
  have gn : notF n ga s = true ↔ ¬ ga s = true := by unfold notF; simp [hs]
  have yes := fun q => nxt false ⟨fun w => absurd w (by decide), fun w => absurd w q⟩
  have no := fun q => nxt true ⟨fun _ => q, fun _ => rfl⟩
  rw [show b2 (!false) = 1 from rfl] at yes
  rw [show b2 (!true) = 0 from rfl] at no
  rw [pMo_fixed_14.eq_2, fMo_fixed_14.eq_2, h.1, if_neg c', nI_clamp (n := f) (by omega), nI_clamp (n := s) (by omega), h57, (rv_pv ha).2, ra.2 s hs, z2']
  unfold pMo_fixed_214 fMo_fixed_214 pMo_fixed_215 fMo_fixed_215
  have pa' := rv_p ha
  have v42 : vp_in (nI f) 4200 := vp_in_nI hf (by decide)
  rw [(rv_pv ha).2] at pa'
  repeat rw [if_neg (show ¬ nI 10 = _ by decide)]
  rw [if_pos (show nI 10 = 10 by decide)]
  by_cases ca : ga s = true
  rotate_left
  · have e2 : b2 (ga s) = 0 := (b2_0 _).mpr ((not_b _).mp ca)
    have y := no (Or.inl (gn.mpr ca))
    rw [if_pos e2]
    refine ⟨⟨trivial, fun w => absurd w c', fun _ => ⟨v42, ?_⟩⟩, y.2⟩
    repeat first | exact ⟨fun _ => ⟨(rv_pv ha).1, ⟨pa'.1, pa'.2, vs⟩, fun _ => y.1, fun w => absurd e2 w⟩, fun w => absurd rfl w⟩ | refine ⟨fun w => absurd w (by decide), fun _ => ?_⟩
  have e2 : ¬ b2 (ga s) = 0 := by rw [ca]; decide
  rw [if_neg e2]
  cases hc : c with
  | true =>
    rw [hc] at z2' zz
    have e3 : ¬ b2 true = 0 := by decide
    have y := yes (fun w => by
      rcases w with w | w
      · exact gn.mp w ca
      · exact zz.mp rfl w.2)
    rw [if_neg e3]
    refine ⟨⟨trivial, fun w => absurd w c', fun _ => ⟨v42, ?_⟩⟩, y.2⟩
    repeat first | exact ⟨fun _ => ⟨(rv_pv ha).1, ⟨pa'.1, pa'.2, vs⟩, fun w => absurd w e2, fun _ => ⟨(rv_pv ht).1, z1', fun w => absurd w e3, fun _ => y.1⟩⟩, fun w => absurd rfl w⟩ | refine ⟨fun w => absurd w (by decide), fun _ => ?_⟩
  | false =>
    rw [hc] at z2' zz
    have e3 : b2 false = 0 := rfl
    have y := no (Or.inr ⟨evs, Classical.byContradiction fun w => absurd (zz.mpr w) (by decide)⟩)
    rw [if_pos e3]
    refine ⟨⟨trivial, fun w => absurd w c', fun _ => ⟨v42, ?_⟩⟩, y.2⟩
    repeat first | exact ⟨fun _ => ⟨(rv_pv ha).1, ⟨pa'.1, pa'.2, vs⟩, fun w => absurd w e2, fun _ => ⟨(rv_pv ht).1, z1', fun _ => y.1, fun w => absurd e3 w⟩⟩, fun w => absurd rfl w⟩ | refine ⟨fun w => absurd w (by decide), fun _ => ?_⟩
theorem fx_11 {q3 : Q3} {r3 : F3} {k f at_ aa s : Nat} {vt va vb : Value} {x ga : Se} {y5 : Int32} {Q : Mm → Prop} (h : mA n m nx I) (hf : f < 4200) (h57 : I 57 f = nI 11) (ht : rv E vt at_) (ha : rv E va aa) (rt : rw_ n I at_ (fun t => !x t)) (ra : rw_ n I aa ga) (hs : s < n) (nxt : ∀ c : Bool, (c = true ↔ psi m nx false (ev n) (notF n ga) x s) → pMo_fixed_245 q3 (pMo_fixed_14 q3 k) (nI f) vt va vb y5 (nI s) (b2 (!c)) I B E ∧ Q (fMo_fixed_245 r3 (fMo_fixed_14 r3 k) (nI f) vt va vb y5 (nI s) (b2 (!c)) I B E)) : pMo_fixed_14 q3 (k + 1) (nI f) vt va vb y5 (nI s) I B E ∧ Q (fMo_fixed_14 r3 (k + 1) (nI f) vt va vb y5 (nI s) I B E) := by
  have n256 := h.2.2.1
  have vs : vp_in (nI s) 256 := vp_in_nI (by omega) (by decide)
  have c' : ¬ nI n ≤ nI s := nI_ge hs (by omega)
  obtain ⟨z1, c, z2, z3⟩ := m_nx2 (B := B) h ht rt hs true
  have z1' : pMo_next2 9 vt (nI s) (1 : Int32) I B E := z1
  have z2' : fMo_next2 9 vt (nI s) (1 : Int32) I B E = b2 c := z2
  have evs : ev n s = true := decide_eq_true hs
  have zz : c = true ↔ ¬ pre m nx false x s := by
    rw [z3]
    constructor
    · rintro p q
      obtain ⟨i, hi, hx⟩ := q.2 rfl
      have := p.1 rfl i hi
      simp [hx] at this
    · intro q
      refine ⟨fun _ i hi => ?_, fun w => absurd w (by decide)⟩
      cases hx : x (nx s i) with
      | true => exact absurd ⟨fun w => absurd w (by decide), fun _ => ⟨i, hi, hx⟩⟩ q
      | false => simp [hx]
  have gn : notF n ga s = true ↔ ¬ ga s = true := by unfold notF; simp [hs]
  have yes := fun q => nxt false ⟨fun w => absurd w (by decide), fun w => absurd w q⟩
  have no := fun q => nxt true ⟨fun _ => q, fun _ => rfl⟩
  rw [show b2 (!false) = 1 from rfl] at yes
  rw [show b2 (!true) = 0 from rfl] at no
  rw [pMo_fixed_14.eq_2, fMo_fixed_14.eq_2, h.1, if_neg c', nI_clamp (n := f) (by omega), nI_clamp (n := s) (by omega), h57, (rv_pv ha).2, ra.2 s hs, z2']
  unfold pMo_fixed_242 fMo_fixed_242 pMo_fixed_243 fMo_fixed_243
  have pa' := rv_p ha
  have v42 : vp_in (nI f) 4200 := vp_in_nI hf (by decide)
  rw [(rv_pv ha).2] at pa'
  repeat rw [if_neg (show ¬ nI 11 = _ by decide)]
  skip
  by_cases ca : ga s = true
  rotate_left
  · have e2 : b2 (ga s) = 0 := (b2_0 _).mpr ((not_b _).mp ca)
    have y := no (Or.inl (gn.mpr ca))
    rw [if_pos e2]
    refine ⟨⟨trivial, fun w => absurd w c', fun _ => ⟨v42, ?_⟩⟩, y.2⟩
    repeat first | exact ⟨(rv_pv ha).1, ⟨pa'.1, pa'.2, vs⟩, fun _ => y.1, fun w => absurd e2 w⟩ | refine ⟨fun w => absurd w (by decide), fun _ => ?_⟩
  have e2 : ¬ b2 (ga s) = 0 := by rw [ca]; decide
  rw [if_neg e2]
  cases hc : c with
  | true =>
    rw [hc] at z2' zz
    have e3 : ¬ b2 true = 0 := by decide
    have y := yes (fun w => by
      rcases w with w | w
      · exact gn.mp w ca
      · exact zz.mp rfl w.2)
    rw [if_neg e3]
    refine ⟨⟨trivial, fun w => absurd w c', fun _ => ⟨v42, ?_⟩⟩, y.2⟩
    repeat first | exact ⟨(rv_pv ha).1, ⟨pa'.1, pa'.2, vs⟩, fun w => absurd w e2, fun _ => ⟨(rv_pv ht).1, z1', fun w => absurd w e3, fun _ => y.1⟩⟩ | refine ⟨fun w => absurd w (by decide), fun _ => ?_⟩
  | false =>
    rw [hc] at z2' zz
    have e3 : b2 false = 0 := rfl
    have y := no (Or.inr ⟨evs, Classical.byContradiction fun w => absurd (zz.mpr w) (by decide)⟩)
    rw [if_pos e3]
    refine ⟨⟨trivial, fun w => absurd w c', fun _ => ⟨v42, ?_⟩⟩, y.2⟩
    repeat first | exact ⟨(rv_pv ha).1, ⟨pa'.1, pa'.2, vs⟩, fun w => absurd w e2, fun _ => ⟨(rv_pv ht).1, z1', fun _ => y.1, fun w => absurd e3 w⟩⟩ | refine ⟨fun w => absurd w (by decide), fun _ => ?_⟩
end
