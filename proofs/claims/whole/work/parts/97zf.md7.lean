/-! MODEL WORKS OUT 7: judge -/
section
variable {n m : Nat} {nx : Nat → Nat → Nat} {I : Mm} {B : Nat → Value} {E : List (Nat × Nat)}
theorem j_375 {k f at_ s : Nat} {vt va vb z0 : Value} {Q : Mm → Prop} {I : Mm} (ht : rv E vt at_) (hb : pv vb) (hn : n ≤ 256) (hs : s < n) (c : Bool) (nxt : pMo_judge_107 k (nI f) vt va vb (nI (s + 1)) (pm_u I at_ s (b2 c)) B E ∧ Q (fMo_judge_107 k (nI f) vt va vb (nI (s + 1)) (pm_u I at_ s (b2 c)) B E)) : (vt = .ref (pa vt) ∧ (mk_K ++ E)[pa vt]? = some (3, 256) ∧ vp_in (nI s) 256) ∧ pMo_judge_375 (pMo_judge_107 k) (nI f) vt va vb (nI s) (pm_u I (pa vt) s (vp_nar .boolean (b2 c))) B E ∧ Q (fMo_judge_375 (fMo_judge_107 k) (nI f) vt va vb (nI s) (pm_u I (pa vt) s (vp_nar .boolean (b2 c))) B E) := by
  have vs : vp_in (nI s) 256 := vp_in_nI (by omega) (by decide)
  have p1 := rv_p ht
  unfold pMo_judge_375 fMo_judge_375
  rw [nar_b, nI_i1]
  rw [(rv_pv ht).2] at p1 ⊢
  exact ⟨⟨p1.1, p1.2, vs⟩, ⟨hb, nxt.1⟩, nxt.2⟩
theorem j_0 {k f at_ aa s : Nat} {vt va vb : Value} {ga : Se} {Q : Mm → Prop} (h : mA n m nx I) (hf : f < 4200) (h57 : I 57 f = nI 0) (ht : rv E vt at_) (ha : rv E va aa) (ra : rw_ n I aa ga) (hb : pv vb) (hs : s < n) (nxt : pMo_judge_107 k (nI f) vt va vb (nI (s + 1)) (pm_u I at_ s (b2 (!ga s))) B E ∧ Q (fMo_judge_107 k (nI f) vt va vb (nI (s + 1)) (pm_u I at_ s (b2 (!ga s))) B E)) : pMo_judge_107 (k + 1) (nI f) vt va vb (nI s) I B E ∧ Q (fMo_judge_107 (k + 1) (nI f) vt va vb (nI s) I B E) := by
  have n256 := h.2.2.1
  have c' : ¬ nI n ≤ nI s := nI_ge hs (by omega)
  have v42 : vp_in (nI f) 4200 := vp_in_nI hf (by decide)
  have vs : vp_in (nI s) 256 := vp_in_nI (by omega) (by decide)
  have y := j_375 (va := va) (z0 := vt) ht hb n256 hs (!ga s) nxt
  have pa' := rv_p ha
  rw [(rv_pv ha).2] at pa'
  have e0 : nI 0 = (0 : Int32) := rfl
  rw [pMo_judge_107.eq_2, fMo_judge_107.eq_2, h.1, if_neg c', nI_clamp (n := f) (by omega), nI_clamp (n := s) (by omega), h57, (rv_pv ha).2, ra.2 s hs, if_pos e0]
  unfold pMo_judge_207 fMo_judge_207
  rw [nI_clamp (n := s) (by omega)]
  cases hg : ga s with
  | true =>
    rw [hg] at y
    have e : ¬ b2 true = 0 := by decide
    rw [if_neg e]
    exact ⟨⟨trivial, fun w => absurd w c', fun _ => ⟨v42, fun _ => ⟨(rv_pv ht).1, (rv_pv ha).1, ⟨pa'.1, pa'.2, vs⟩, fun w => absurd w e, fun _ => ⟨y.1, y.2.1⟩⟩, fun w => absurd e0 w⟩⟩, y.2.2⟩
  | false =>
    rw [hg] at y
    have e : b2 false = 0 := rfl
    rw [if_pos e]
    exact ⟨⟨trivial, fun w => absurd w c', fun _ => ⟨v42, fun _ => ⟨(rv_pv ht).1, (rv_pv ha).1, ⟨pa'.1, pa'.2, vs⟩, fun _ => ⟨y.1, y.2.1⟩, fun w => absurd e w⟩, fun w => absurd e0 w⟩⟩, y.2.2⟩
theorem j_1 {k f at_ aa ab s : Nat} {vt va vb : Value} {ga gb : Se} {Q : Mm → Prop} (h : mA n m nx I) (hf : f < 4200) (h57 : I 57 f = nI 1) (ht : rv E vt at_) (ha : rv E va aa) (hb : rv E vb ab) (ra : rw_ n I aa ga) (rb : rw_ n I ab gb) (hs : s < n) (nxt : pMo_judge_107 k (nI f) vt va vb (nI (s + 1)) (pm_u I at_ s (b2 (ga s && gb s))) B E ∧ Q (fMo_judge_107 k (nI f) vt va vb (nI (s + 1)) (pm_u I at_ s (b2 (ga s && gb s))) B E)) : pMo_judge_107 (k + 1) (nI f) vt va vb (nI s) I B E ∧ Q (fMo_judge_107 (k + 1) (nI f) vt va vb (nI s) I B E) := by
  have n256 := h.2.2.1
  have c' : ¬ nI n ≤ nI s := nI_ge hs (by omega)
  have v42 : vp_in (nI f) 4200 := vp_in_nI hf (by decide)
  have vs : vp_in (nI s) 256 := vp_in_nI (by omega) (by decide)
  have y := j_375 (va := va) (z0 := vt) ht (rv_pv hb).1 n256 hs (ga s && gb s) nxt
  have pa' := rv_p ha
  rw [(rv_pv ha).2] at pa'
  have pb := rv_p hb
  rw [(rv_pv hb).2] at pb
  rw [pMo_judge_107.eq_2, fMo_judge_107.eq_2, h.1, if_neg c', nI_clamp (n := f) (by omega), nI_clamp (n := s) (by omega), h57, (rv_pv ha).2, (rv_pv hb).2, ra.2 s hs, rb.2 s hs]
  repeat rw [if_neg (show ¬ nI 1 = _ by decide)]
  rw [if_pos (show nI 1 = 1 by decide)]
  unfold pMo_judge_233 fMo_judge_233 pMo_judge_234 fMo_judge_234
  rw [nI_clamp (n := s) (by omega)]
  cases hg : ga s with
  | false =>
    rw [hg] at y
    have e : b2 false = 0 := rfl
    rw [if_pos e]
    refine ⟨⟨trivial, fun w => absurd w c', fun _ => ⟨v42, ?_⟩⟩, ?_⟩
    · repeat first | exact ⟨fun _ => ⟨(rv_pv ht).1, (rv_pv ha).1, ⟨pa'.1, pa'.2, vs⟩, fun _ => ⟨y.1, y.2.1⟩, fun w => absurd e w⟩, fun w => absurd rfl w⟩ | refine ⟨fun w => absurd w (by decide), fun _ => ?_⟩
    · exact y.2.2
  | true =>
    rw [hg] at y
    have e : ¬ b2 true = 0 := by decide
    rw [if_neg e]
    cases hg2 : gb s with
    | false =>
      rw [hg2] at y
      have e2 : b2 false = 0 := rfl
      rw [if_pos e2]
      refine ⟨⟨trivial, fun w => absurd w c', fun _ => ⟨v42, ?_⟩⟩, ?_⟩
      · repeat first | exact ⟨fun _ => ⟨(rv_pv ht).1, (rv_pv ha).1, ⟨pa'.1, pa'.2, vs⟩, fun w => absurd w e, fun _ => ⟨(rv_pv hb).1, ⟨pb.1, pb.2, vs⟩, fun _ => ⟨y.1, y.2.1⟩, fun w => absurd e2 w⟩⟩, fun w => absurd rfl w⟩ | refine ⟨fun w => absurd w (by decide), fun _ => ?_⟩
      · exact y.2.2
    | true =>
      rw [hg2] at y
      have e2 : ¬ b2 true = 0 := by decide
      rw [if_neg e2]
      refine ⟨⟨trivial, fun w => absurd w c', fun _ => ⟨v42, ?_⟩⟩, ?_⟩
      · repeat first | exact ⟨fun _ => ⟨(rv_pv ht).1, (rv_pv ha).1, ⟨pa'.1, pa'.2, vs⟩, fun w => absurd w e, fun _ => ⟨(rv_pv hb).1, ⟨pb.1, pb.2, vs⟩, fun w => absurd w e2, fun _ => ⟨y.1, y.2.1⟩⟩⟩, fun w => absurd rfl w⟩ | refine ⟨fun w => absurd w (by decide), fun _ => ?_⟩
      · exact y.2.2
theorem j_2 {k f at_ aa ab s : Nat} {vt va vb : Value} {ga gb : Se} {Q : Mm → Prop} (h : mA n m nx I) (hf : f < 4200) (h57 : I 57 f = nI 2) (ht : rv E vt at_) (ha : rv E va aa) (hb : rv E vb ab) (ra : rw_ n I aa ga) (rb : rw_ n I ab gb) (hs : s < n) (nxt : pMo_judge_107 k (nI f) vt va vb (nI (s + 1)) (pm_u I at_ s (b2 (ga s || gb s))) B E ∧ Q (fMo_judge_107 k (nI f) vt va vb (nI (s + 1)) (pm_u I at_ s (b2 (ga s || gb s))) B E)) : pMo_judge_107 (k + 1) (nI f) vt va vb (nI s) I B E ∧ Q (fMo_judge_107 (k + 1) (nI f) vt va vb (nI s) I B E) := by
  have n256 := h.2.2.1
  have c' : ¬ nI n ≤ nI s := nI_ge hs (by omega)
  have v42 : vp_in (nI f) 4200 := vp_in_nI hf (by decide)
  have vs : vp_in (nI s) 256 := vp_in_nI (by omega) (by decide)
  have y := j_375 (va := va) (z0 := vt) ht (rv_pv hb).1 n256 hs (ga s || gb s) nxt
  have pa' := rv_p ha
  rw [(rv_pv ha).2] at pa'
  have pb := rv_p hb
  rw [(rv_pv hb).2] at pb
  rw [pMo_judge_107.eq_2, fMo_judge_107.eq_2, h.1, if_neg c', nI_clamp (n := f) (by omega), nI_clamp (n := s) (by omega), h57, (rv_pv ha).2, (rv_pv hb).2, ra.2 s hs, rb.2 s hs]
  repeat rw [if_neg (show ¬ nI 2 = _ by decide)]
  rw [if_pos (show nI 2 = 2 by decide)]
  unfold pMo_judge_256 fMo_judge_256 pMo_judge_261 fMo_judge_261
  rw [nI_clamp (n := s) (by omega)]
  cases hg : ga s with
  | true =>
    rw [hg] at y
    have e : ¬ b2 true = 0 := by decide
    rw [if_neg e]
    refine ⟨⟨trivial, fun w => absurd w c', fun _ => ⟨v42, ?_⟩⟩, ?_⟩
    · repeat first | exact ⟨fun _ => ⟨(rv_pv ht).1, (rv_pv ha).1, ⟨pa'.1, pa'.2, vs⟩, fun w => absurd w e, fun _ => ⟨y.1, y.2.1⟩⟩, fun w => absurd rfl w⟩ | refine ⟨fun w => absurd w (by decide), fun _ => ?_⟩
    · exact y.2.2
  | false =>
    rw [hg] at y
    have e : b2 false = 0 := rfl
    rw [if_pos e]
    cases hg2 : gb s with
    | false =>
      rw [hg2] at y
      have e2 : b2 false = 0 := rfl
      rw [if_pos e2]
      refine ⟨⟨trivial, fun w => absurd w c', fun _ => ⟨v42, ?_⟩⟩, ?_⟩
      · repeat first | exact ⟨fun _ => ⟨(rv_pv ht).1, (rv_pv ha).1, ⟨pa'.1, pa'.2, vs⟩, fun _ => ⟨(rv_pv hb).1, ⟨pb.1, pb.2, vs⟩, fun _ => ⟨y.1, y.2.1⟩, fun w => absurd e2 w⟩, fun w => absurd e w⟩, fun w => absurd rfl w⟩ | refine ⟨fun w => absurd w (by decide), fun _ => ?_⟩
      · exact y.2.2
    | true =>
      rw [hg2] at y
      have e2 : ¬ b2 true = 0 := by decide
      rw [if_neg e2]
      refine ⟨⟨trivial, fun w => absurd w c', fun _ => ⟨v42, ?_⟩⟩, ?_⟩
      · repeat first | exact ⟨fun _ => ⟨(rv_pv ht).1, (rv_pv ha).1, ⟨pa'.1, pa'.2, vs⟩, fun _ => ⟨(rv_pv hb).1, ⟨pb.1, pb.2, vs⟩, fun w => absurd w e2, fun _ => ⟨y.1, y.2.1⟩⟩, fun w => absurd e w⟩, fun w => absurd rfl w⟩ | refine ⟨fun w => absurd w (by decide), fun _ => ?_⟩
      · exact y.2.2
theorem j_3 {k f at_ aa ab s : Nat} {vt va vb : Value} {ga gb : Se} {Q : Mm → Prop} (h : mA n m nx I) (hf : f < 4200) (h57 : I 57 f = nI 3) (ht : rv E vt at_) (ha : rv E va aa) (hb : rv E vb ab) (ra : rw_ n I aa ga) (rb : rw_ n I ab gb) (hs : s < n) (nxt : pMo_judge_107 k (nI f) vt va vb (nI (s + 1)) (pm_u I at_ s (b2 (!ga s || gb s))) B E ∧ Q (fMo_judge_107 k (nI f) vt va vb (nI (s + 1)) (pm_u I at_ s (b2 (!ga s || gb s))) B E)) : pMo_judge_107 (k + 1) (nI f) vt va vb (nI s) I B E ∧ Q (fMo_judge_107 (k + 1) (nI f) vt va vb (nI s) I B E) := by
  have n256 := h.2.2.1
  have c' : ¬ nI n ≤ nI s := nI_ge hs (by omega)
  have v42 : vp_in (nI f) 4200 := vp_in_nI hf (by decide)
  have vs : vp_in (nI s) 256 := vp_in_nI (by omega) (by decide)
  have y := j_375 (va := va) (z0 := vt) ht (rv_pv hb).1 n256 hs (!ga s || gb s) nxt
  have pa' := rv_p ha
  rw [(rv_pv ha).2] at pa'
  have pb := rv_p hb
  rw [(rv_pv hb).2] at pb
  rw [pMo_judge_107.eq_2, fMo_judge_107.eq_2, h.1, if_neg c', nI_clamp (n := f) (by omega), nI_clamp (n := s) (by omega), h57, (rv_pv ha).2, (rv_pv hb).2, ra.2 s hs, rb.2 s hs]
  repeat rw [if_neg (show ¬ nI 3 = _ by decide)]
  rw [if_pos (show nI 3 = 3 by decide)]
  unfold pMo_judge_283 fMo_judge_283 pMo_judge_288 fMo_judge_288
  rw [nI_clamp (n := s) (by omega)]
  cases hg : ga s with
  | false =>
    rw [hg] at y
    have e : b2 false = 0 := rfl
    rw [if_pos e]
    refine ⟨⟨trivial, fun w => absurd w c', fun _ => ⟨v42, ?_⟩⟩, ?_⟩
    · repeat first | exact ⟨fun _ => ⟨(rv_pv ht).1, (rv_pv ha).1, ⟨pa'.1, pa'.2, vs⟩, fun _ => ⟨y.1, y.2.1⟩, fun w => absurd e w⟩, fun w => absurd rfl w⟩ | refine ⟨fun w => absurd w (by decide), fun _ => ?_⟩
    · exact y.2.2
  | true =>
    rw [hg] at y
    have e : ¬ b2 true = 0 := by decide
    rw [if_neg e]
    cases hg2 : gb s with
    | false =>
      rw [hg2] at y
      have e2 : b2 false = 0 := rfl
      rw [if_pos e2]
      refine ⟨⟨trivial, fun w => absurd w c', fun _ => ⟨v42, ?_⟩⟩, ?_⟩
      · repeat first | exact ⟨fun _ => ⟨(rv_pv ht).1, (rv_pv ha).1, ⟨pa'.1, pa'.2, vs⟩, fun w => absurd w e, fun _ => ⟨(rv_pv hb).1, ⟨pb.1, pb.2, vs⟩, fun _ => ⟨y.1, y.2.1⟩, fun w => absurd e2 w⟩⟩, fun w => absurd rfl w⟩ | refine ⟨fun w => absurd w (by decide), fun _ => ?_⟩
      · exact y.2.2
    | true =>
      rw [hg2] at y
      have e2 : ¬ b2 true = 0 := by decide
      rw [if_neg e2]
      refine ⟨⟨trivial, fun w => absurd w c', fun _ => ⟨v42, ?_⟩⟩, ?_⟩
      · repeat first | exact ⟨fun _ => ⟨(rv_pv ht).1, (rv_pv ha).1, ⟨pa'.1, pa'.2, vs⟩, fun w => absurd w e, fun _ => ⟨(rv_pv hb).1, ⟨pb.1, pb.2, vs⟩, fun w => absurd w e2, fun _ => ⟨y.1, y.2.1⟩⟩⟩, fun w => absurd rfl w⟩ | refine ⟨fun w => absurd w (by decide), fun _ => ?_⟩
      · exact y.2.2
theorem j_4 {k f at_ aa s : Nat} {vt va vb : Value} {ga : Se} {Q : Mm → Prop} (h : mA n m nx I) (hf : f < 4200) (h57 : I 57 f = nI 4) (ht : rv E vt at_) (ha : rv E va aa) (ra : rw_ n I aa ga) (hb : pv vb) (hs : s < n) (nxt : ∀ c : Bool, (c = true ↔ pre m nx false ga s) → pMo_judge_107 k (nI f) vt va vb (nI (s + 1)) (pm_u I at_ s (b2 c)) B E ∧ Q (fMo_judge_107 k (nI f) vt va vb (nI (s + 1)) (pm_u I at_ s (b2 c)) B E)) : pMo_judge_107 (k + 1) (nI f) vt va vb (nI s) I B E ∧ Q (fMo_judge_107 (k + 1) (nI f) vt va vb (nI s) I B E) := by
  have n256 := h.2.2.1
  have c' : ¬ nI n ≤ nI s := nI_ge hs (by omega)
  have v42 : vp_in (nI f) 4200 := vp_in_nI hf (by decide)
  obtain ⟨z1, c, z2, z3⟩ := m_nx2 (B := B) h ha ra hs false
  have z1' : pMo_next2 9 va (nI s) (0 : Int32) I B E := z1
  have z2' : fMo_next2 9 va (nI s) (0 : Int32) I B E = b2 c := z2
  have y := j_375 (va := va) (z0 := vt) ht hb n256 hs c (nxt c z3)
  rw [pMo_judge_107.eq_2, fMo_judge_107.eq_2, h.1, if_neg c', nI_clamp (n := f) (by omega), nI_clamp (n := s) (by omega), h57, z2']
  repeat rw [if_neg (show ¬ nI 4 = _ by decide)]
  rw [if_pos (show nI 4 = 4 by decide)]
  refine ⟨⟨trivial, fun w => absurd w c', fun _ => ⟨v42, ?_⟩⟩, y.2.2⟩
  repeat first | exact ⟨fun _ => ⟨(rv_pv ht).1, (rv_pv ha).1, (rv_pv ht).1, z1', y.1, y.2.1⟩, fun w => absurd rfl w⟩ | refine ⟨fun w => absurd w (by decide), fun _ => ?_⟩
theorem j_5 {k f at_ aa s : Nat} {vt va vb : Value} {ga : Se} {Q : Mm → Prop} (h : mA n m nx I) (hf : f < 4200) (h57 : I 57 f = nI 5) (ht : rv E vt at_) (ha : rv E va aa) (ra : rw_ n I aa ga) (hb : pv vb) (hs : s < n) (nxt : ∀ c : Bool, (c = true ↔ pre m nx true ga s) → pMo_judge_107 k (nI f) vt va vb (nI (s + 1)) (pm_u I at_ s (b2 c)) B E ∧ Q (fMo_judge_107 k (nI f) vt va vb (nI (s + 1)) (pm_u I at_ s (b2 c)) B E)) : pMo_judge_107 (k + 1) (nI f) vt va vb (nI s) I B E ∧ Q (fMo_judge_107 (k + 1) (nI f) vt va vb (nI s) I B E) := by
  have n256 := h.2.2.1
  have c' : ¬ nI n ≤ nI s := nI_ge hs (by omega)
  have v42 : vp_in (nI f) 4200 := vp_in_nI hf (by decide)
  obtain ⟨z1, c, z2, z3⟩ := m_nx2 (B := B) h ha ra hs true
  have z1' : pMo_next2 9 va (nI s) (1 : Int32) I B E := z1
  have z2' : fMo_next2 9 va (nI s) (1 : Int32) I B E = b2 c := z2
  have y := j_375 (va := va) (z0 := vt) ht hb n256 hs c (nxt c z3)
  rw [pMo_judge_107.eq_2, fMo_judge_107.eq_2, h.1, if_neg c', nI_clamp (n := f) (by omega), nI_clamp (n := s) (by omega), h57, z2']
  repeat rw [if_neg (show ¬ nI 5 = _ by decide)]
  rw [if_pos (show nI 5 = 5 by decide)]
  refine ⟨⟨trivial, fun w => absurd w c', fun _ => ⟨v42, ?_⟩⟩, y.2.2⟩
  repeat first | exact ⟨fun _ => ⟨(rv_pv ht).1, (rv_pv ha).1, (rv_pv ht).1, z1', y.1, y.2.1⟩, fun w => absurd rfl w⟩ | refine ⟨fun w => absurd w (by decide), fun _ => ?_⟩
theorem j_6 {k f at_ s : Nat} {vt va vb : Value} {Q : Mm → Prop} (h : mA n m nx I) (hf : f < 4200) (h57 : I 57 f = nI 6) (ht : rv E vt at_) (hb : pv vb) (hs : s < n) (nxt : pMo_judge_107 k (nI f) vt va vb (nI (s + 1)) (pm_u I at_ s (b2 false)) B E ∧ Q (fMo_judge_107 k (nI f) vt va vb (nI (s + 1)) (pm_u I at_ s (b2 false)) B E)) : pMo_judge_107 (k + 1) (nI f) vt va vb (nI s) I B E ∧ Q (fMo_judge_107 (k + 1) (nI f) vt va vb (nI s) I B E) := by
  have n256 := h.2.2.1
  have c' : ¬ nI n ≤ nI s := nI_ge hs (by omega)
  have v42 : vp_in (nI f) 4200 := vp_in_nI hf (by decide)
  have y := j_375 (va := va) (z0 := vt) ht hb n256 hs false nxt
  have y2 : pMo_judge_375 (pMo_judge_107 k) (nI f) vt va vb (nI s) (pm_u I (pa vt) s (vp_nar .boolean (0 : Int32))) B E := y.2.1
  have y3 : Q (fMo_judge_375 (fMo_judge_107 k) (nI f) vt va vb (nI s) (pm_u I (pa vt) s (vp_nar .boolean (0 : Int32))) B E) := y.2.2
  rw [pMo_judge_107.eq_2, fMo_judge_107.eq_2, h.1, if_neg c', nI_clamp (n := f) (by omega), nI_clamp (n := s) (by omega), h57]
  repeat rw [if_neg (show ¬ nI 6 = _ by decide)]
  rw [if_pos (show nI 6 = 6 by decide)]
  refine ⟨⟨trivial, fun w => absurd w c', fun _ => ⟨v42, ?_⟩⟩, y3⟩
  repeat first | exact ⟨fun _ => ⟨(rv_pv ht).1, y.1, y2⟩, fun w => absurd rfl w⟩ | refine ⟨fun w => absurd w (by decide), fun _ => ?_⟩
theorem j_7 {k f at_ s : Nat} {vt va vb : Value} {Q : Mm → Prop} (h : mA n m nx I) (hf : f < 4200) (h57 : I 57 f = nI 7) (ht : rv E vt at_) (hb : pv vb) (hs : s < n) (nxt : pMo_judge_107 k (nI f) vt va vb (nI (s + 1)) (pm_u I at_ s (b2 false)) B E ∧ Q (fMo_judge_107 k (nI f) vt va vb (nI (s + 1)) (pm_u I at_ s (b2 false)) B E)) : pMo_judge_107 (k + 1) (nI f) vt va vb (nI s) I B E ∧ Q (fMo_judge_107 (k + 1) (nI f) vt va vb (nI s) I B E) := by
  have n256 := h.2.2.1
  have c' : ¬ nI n ≤ nI s := nI_ge hs (by omega)
  have v42 : vp_in (nI f) 4200 := vp_in_nI hf (by decide)
  have y := j_375 (va := va) (z0 := vt) ht hb n256 hs false nxt
  have y2 : pMo_judge_375 (pMo_judge_107 k) (nI f) vt va vb (nI s) (pm_u I (pa vt) s (vp_nar .boolean (0 : Int32))) B E := y.2.1
  have y3 : Q (fMo_judge_375 (fMo_judge_107 k) (nI f) vt va vb (nI s) (pm_u I (pa vt) s (vp_nar .boolean (0 : Int32))) B E) := y.2.2
  rw [pMo_judge_107.eq_2, fMo_judge_107.eq_2, h.1, if_neg c', nI_clamp (n := f) (by omega), nI_clamp (n := s) (by omega), h57]
  repeat rw [if_neg (show ¬ nI 7 = _ by decide)]
  rw [if_pos (show nI 7 = 7 by decide)]
  refine ⟨⟨trivial, fun w => absurd w c', fun _ => ⟨v42, ?_⟩⟩, y3⟩
  repeat first | exact ⟨fun _ => ⟨(rv_pv ht).1, y.1, y2⟩, fun w => absurd rfl w⟩ | refine ⟨fun w => absurd w (by decide), fun _ => ?_⟩
theorem j_8 {k f at_ s : Nat} {vt va vb : Value} {Q : Mm → Prop} (h : mA n m nx I) (hf : f < 4200) (h57 : I 57 f = nI 8) (ht : rv E vt at_) (hb : pv vb) (hs : s < n) (nxt : pMo_judge_107 k (nI f) vt va vb (nI (s + 1)) (pm_u I at_ s (b2 false)) B E ∧ Q (fMo_judge_107 k (nI f) vt va vb (nI (s + 1)) (pm_u I at_ s (b2 false)) B E)) : pMo_judge_107 (k + 1) (nI f) vt va vb (nI s) I B E ∧ Q (fMo_judge_107 (k + 1) (nI f) vt va vb (nI s) I B E) := by
  have n256 := h.2.2.1
  have c' : ¬ nI n ≤ nI s := nI_ge hs (by omega)
  have v42 : vp_in (nI f) 4200 := vp_in_nI hf (by decide)
  have y := j_375 (va := va) (z0 := vt) ht hb n256 hs false nxt
  have y2 : pMo_judge_375 (pMo_judge_107 k) (nI f) vt va vb (nI s) (pm_u I (pa vt) s (vp_nar .boolean (0 : Int32))) B E := y.2.1
  have y3 : Q (fMo_judge_375 (fMo_judge_107 k) (nI f) vt va vb (nI s) (pm_u I (pa vt) s (vp_nar .boolean (0 : Int32))) B E) := y.2.2
  rw [pMo_judge_107.eq_2, fMo_judge_107.eq_2, h.1, if_neg c', nI_clamp (n := f) (by omega), nI_clamp (n := s) (by omega), h57]
  repeat rw [if_neg (show ¬ nI 8 = _ by decide)]
  rw [if_pos (show nI 8 = 8 by decide)]
  refine ⟨⟨trivial, fun w => absurd w c', fun _ => ⟨v42, ?_⟩⟩, y3⟩
  repeat first | exact ⟨fun _ => ⟨(rv_pv ht).1, y.1, y2⟩, fun w => absurd rfl w⟩ | refine ⟨fun w => absurd w (by decide), fun _ => ?_⟩
theorem j_9 {k f at_ s : Nat} {vt va vb : Value} {Q : Mm → Prop} (h : mA n m nx I) (hf : f < 4200) (h57 : I 57 f = nI 9) (ht : rv E vt at_) (hb : pv vb) (hs : s < n) (nxt : pMo_judge_107 k (nI f) vt va vb (nI (s + 1)) (pm_u I at_ s (b2 false)) B E ∧ Q (fMo_judge_107 k (nI f) vt va vb (nI (s + 1)) (pm_u I at_ s (b2 false)) B E)) : pMo_judge_107 (k + 1) (nI f) vt va vb (nI s) I B E ∧ Q (fMo_judge_107 (k + 1) (nI f) vt va vb (nI s) I B E) := by
  have n256 := h.2.2.1
  have c' : ¬ nI n ≤ nI s := nI_ge hs (by omega)
  have v42 : vp_in (nI f) 4200 := vp_in_nI hf (by decide)
  have y := j_375 (va := va) (z0 := vt) ht hb n256 hs false nxt
  have y2 : pMo_judge_375 (pMo_judge_107 k) (nI f) vt va vb (nI s) (pm_u I (pa vt) s (vp_nar .boolean (0 : Int32))) B E := y.2.1
  have y3 : Q (fMo_judge_375 (fMo_judge_107 k) (nI f) vt va vb (nI s) (pm_u I (pa vt) s (vp_nar .boolean (0 : Int32))) B E) := y.2.2
  rw [pMo_judge_107.eq_2, fMo_judge_107.eq_2, h.1, if_neg c', nI_clamp (n := f) (by omega), nI_clamp (n := s) (by omega), h57]
  repeat rw [if_neg (show ¬ nI 9 = _ by decide)]
  rw [if_pos (show nI 9 = 9 by decide)]
  refine ⟨⟨trivial, fun w => absurd w c', fun _ => ⟨v42, ?_⟩⟩, y3⟩
  repeat first | exact ⟨fun _ => ⟨(rv_pv ht).1, y.1, y2⟩, fun w => absurd rfl w⟩ | refine ⟨fun w => absurd w (by decide), fun _ => ?_⟩
theorem j_10 {k f at_ s : Nat} {vt va vb : Value} {Q : Mm → Prop} (h : mA n m nx I) (hf : f < 4200) (h57 : I 57 f = nI 10) (ht : rv E vt at_) (hb : pv vb) (hs : s < n) (nxt : pMo_judge_107 k (nI f) vt va vb (nI (s + 1)) (pm_u I at_ s (b2 true)) B E ∧ Q (fMo_judge_107 k (nI f) vt va vb (nI (s + 1)) (pm_u I at_ s (b2 true)) B E)) : pMo_judge_107 (k + 1) (nI f) vt va vb (nI s) I B E ∧ Q (fMo_judge_107 (k + 1) (nI f) vt va vb (nI s) I B E) := by
  have n256 := h.2.2.1
  have c' : ¬ nI n ≤ nI s := nI_ge hs (by omega)
  have v42 : vp_in (nI f) 4200 := vp_in_nI hf (by decide)
  have y := j_375 (va := va) (z0 := vt) ht hb n256 hs true nxt
  have y2 : pMo_judge_375 (pMo_judge_107 k) (nI f) vt va vb (nI s) (pm_u I (pa vt) s (vp_nar .boolean (1 : Int32))) B E := y.2.1
  have y3 : Q (fMo_judge_375 (fMo_judge_107 k) (nI f) vt va vb (nI s) (pm_u I (pa vt) s (vp_nar .boolean (1 : Int32))) B E) := y.2.2
  rw [pMo_judge_107.eq_2, fMo_judge_107.eq_2, h.1, if_neg c', nI_clamp (n := f) (by omega), nI_clamp (n := s) (by omega), h57]
  repeat rw [if_neg (show ¬ nI 10 = _ by decide)]
  rw [if_pos (show nI 10 = 10 by decide)]
  refine ⟨⟨trivial, fun w => absurd w c', fun _ => ⟨v42, ?_⟩⟩, y3⟩
  repeat first | exact ⟨fun _ => ⟨(rv_pv ht).1, y.1, y2⟩, fun w => absurd rfl w⟩ | refine ⟨fun w => absurd w (by decide), fun _ => ?_⟩
theorem j_11 {k f at_ s : Nat} {vt va vb : Value} {Q : Mm → Prop} (h : mA n m nx I) (hf : f < 4200) (h57 : I 57 f = nI 11) (ht : rv E vt at_) (hb : pv vb) (hs : s < n) (nxt : pMo_judge_107 k (nI f) vt va vb (nI (s + 1)) (pm_u I at_ s (b2 true)) B E ∧ Q (fMo_judge_107 k (nI f) vt va vb (nI (s + 1)) (pm_u I at_ s (b2 true)) B E)) : pMo_judge_107 (k + 1) (nI f) vt va vb (nI s) I B E ∧ Q (fMo_judge_107 (k + 1) (nI f) vt va vb (nI s) I B E) := by
  have n256 := h.2.2.1
  have c' : ¬ nI n ≤ nI s := nI_ge hs (by omega)
  have v42 : vp_in (nI f) 4200 := vp_in_nI hf (by decide)
  have y := j_375 (va := va) (z0 := vt) ht hb n256 hs true nxt
  have y2 : pMo_judge_375 (pMo_judge_107 k) (nI f) vt va vb (nI s) (pm_u I (pa vt) s (vp_nar .boolean (1 : Int32))) B E := y.2.1
  have y3 : Q (fMo_judge_375 (fMo_judge_107 k) (nI f) vt va vb (nI s) (pm_u I (pa vt) s (vp_nar .boolean (1 : Int32))) B E) := y.2.2
  rw [pMo_judge_107.eq_2, fMo_judge_107.eq_2, h.1, if_neg c', nI_clamp (n := f) (by omega), nI_clamp (n := s) (by omega), h57]
  repeat rw [if_neg (show ¬ nI 11 = _ by decide)]
  rw [if_pos (show nI 11 = 11 by decide)]
  refine ⟨⟨trivial, fun w => absurd w c', fun _ => ⟨v42, ?_⟩⟩, y3⟩
  repeat first | exact ⟨fun _ => ⟨(rv_pv ht).1, y.1, y2⟩, fun w => absurd rfl w⟩ | refine ⟨fun w => absurd w (by decide), fun _ => ?_⟩
theorem j_13 {k f at_ one s : Nat} {vt va vb : Value} {gs : Se} {Q : Mm → Prop} (h : mA n m nx I) (hf : f < 4200) (h57 : I 57 f = nI 13) (h58 : I 58 f = nI one) (h30 : one < 30) (rs : rw_ n I (323 + one) gs) (ht : rv E vt at_) (hb : pv vb) (hs : s < n) (nxt : pMo_judge_107 k (nI f) vt va vb (nI (s + 1)) (pm_u I at_ s (b2 (gs s))) B E ∧ Q (fMo_judge_107 k (nI f) vt va vb (nI (s + 1)) (pm_u I at_ s (b2 (gs s))) B E)) : pMo_judge_107 (k + 1) (nI f) vt va vb (nI s) I B E ∧ Q (fMo_judge_107 (k + 1) (nI f) vt va vb (nI s) I B E) := by
  have n256 := h.2.2.1
  have c' : ¬ nI n ≤ nI s := nI_ge hs (by omega)
  have v42 : vp_in (nI f) 4200 := vp_in_nI hf (by decide)
  have vs : vp_in (nI s) 256 := vp_in_nI (by omega) (by decide)
  have v30 : vp_in (nI one) 30 := vp_in_nI h30 (by decide)
  have y := j_375 (va := va) (z0 := vt) ht hb n256 hs (gs s) nxt
  rw [pMo_judge_107.eq_2, fMo_judge_107.eq_2, h.1, if_neg c', nI_clamp (n := f) (by omega), nI_clamp (n := s) (by omega), h57, h58, nI_clamp (n := one) (by omega), rs.2 s hs]
  repeat rw [if_neg (show ¬ nI 13 = _ by decide)]
  rw [if_pos (show nI 13 = 13 by decide)]
  refine ⟨⟨trivial, fun w => absurd w c', fun _ => ⟨v42, ?_⟩⟩, y.2.2⟩
  repeat first | exact ⟨fun _ => ⟨(rv_pv ht).1, v42, v30, vs, y.1, y.2.1⟩, fun w => absurd rfl w⟩ | refine ⟨fun w => absurd w (by decide), fun _ => ?_⟩
theorem j_12 {k f at_ e s : Nat} {vt va vb : Value} {Q : Mm → Prop} (h : mA n m nx I) (hf : f < 4200) (h57 : I 57 f = nI 12) (h58 : I 58 f = nI e) (ht : rv E vt at_) (hb : pv vb) (hs : s < n) (c : Bool) (I1 : Mm) (al1 : pMo_always 9 (nI e) (nI s) I) (al2 : fMo_always 9 (nI e) (nI s) I = (b2 c, I1)) (nxt : pMo_judge_107 k (nI f) vt va vb (nI (s + 1)) (pm_u I1 at_ s (b2 c)) B E ∧ Q (fMo_judge_107 k (nI f) vt va vb (nI (s + 1)) (pm_u I1 at_ s (b2 c)) B E)) : pMo_judge_107 (k + 1) (nI f) vt va vb (nI s) I B E ∧ Q (fMo_judge_107 (k + 1) (nI f) vt va vb (nI s) I B E) := by
  have n256 := h.2.2.1
  have c' : ¬ nI n ≤ nI s := nI_ge hs (by omega)
  have v42 : vp_in (nI f) 4200 := vp_in_nI hf (by decide)
  have y := j_375 (va := va) (z0 := vt) ht hb n256 hs c nxt
  rw [pMo_judge_107.eq_2, fMo_judge_107.eq_2, h.1, if_neg c', nI_clamp (n := f) (by omega), nI_clamp (n := s) (by omega), h57, h58, al2]
  repeat rw [if_neg (show ¬ nI 12 = _ by decide)]
  rw [if_pos (show nI 12 = 12 by decide)]
  unfold pMo_judge_337 fMo_judge_337
  dsimp only
  rw [nI_clamp (n := s) (by omega)]
  refine ⟨⟨trivial, fun w => absurd w c', fun _ => ⟨v42, ?_⟩⟩, y.2.2⟩
  repeat first | exact ⟨fun _ => ⟨(rv_pv ht).1, v42, (rv_pv ht).1, al1, y.1, y.2.1⟩, fun w => absurd rfl w⟩ | refine ⟨fun w => absurd w (by decide), fun _ => ?_⟩
end
