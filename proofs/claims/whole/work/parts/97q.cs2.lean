/-! CLASS'S SETS 2: the stack of sets -/
def kS (J : Ml) : List Se → Prop
  | [] => True
  | f :: S => (∀ s, s < 256 → sB J (124 + 4 * S.length) s = f s) ∧ kS J S
def cK (n : Nat) (I : Mm) (J : Ml) (S : List Se) : Prop := I 33 2 = nI (124 + 4 * S.length) ∧ S.length ≤ 125 ∧ kS J S ∧ (∀ s, s < 256 → sB J 120 s = decide (s < n)) ∧ ∀ f ∈ S, ∀ s, f s = true → s < n
theorem kS_f {J J' : Ml} {t : Nat} (h : kF t J J') : ∀ S : List Se, 124 + 4 * S.length ≤ t → t + 4 ≤ 624 → kS J S → kS J' S
  | [], _, _, _ => trivial
  | f :: S, ht, h6, hk => by
    rw [List.length_cons] at ht
    exact ⟨fun s hs => by rw [kF_b h (by omega) hs]; exact hk.1 s hs, kS_f h S (by omega) h6 hk.2⟩
theorem kS_c {J J' : Ml} : ∀ S : List Se, (∀ j, 124 ≤ j → j < 124 + 4 * S.length → J' 34 j = J 34 j) → kS J S → kS J' S
  | [], _, _ => trivial
  | f :: S, h, hk => by
    rw [List.length_cons] at h
    refine ⟨fun s hs => ?_, kS_c S (fun j h1 h2 => h j h1 (by omega)) hk.2⟩
    rw [← hk.1 s hs]
    unfold sB
    rw [h _ (by omega) (by omega)]
/-- rows of the numbers that sets leave alone -/
def gI (I I' : Mm) : Prop := (∀ a, a ≠ 33 → a ≠ 35 → a ≠ 36 → I' a = I a)
theorem gI_r (I : Mm) : gI I I := fun _ _ _ _ => rfl
theorem gI_t {I I' I'' : Mm} (h : gI I I') (h' : gI I' I'') : gI I I'' := fun a h1 h2 h3 => (h' a h1 h2 h3).trans (h a h1 h2 h3)
def gJ (J J' : Ml) : Prop := (∀ a, a ≠ 34 → J' a = J a) ∧ ∀ j, j < 124 → J' 34 j = J 34 j
theorem gJ_r (J : Ml) : gJ J J := ⟨fun _ _ => rfl, fun _ _ => rfl⟩
theorem gJ_t {J J' J'' : Ml} (h : gJ J J') (h' : gJ J' J'') : gJ J J'' := ⟨fun a ha => (h'.1 a ha).trans (h.1 a ha), fun j hj => (h'.2 j hj).trans (h.2 j hj)⟩
theorem gJ_k {J J' : Ml} {t : Nat} (h : kF t J J') (ht : 124 ≤ t) : gJ J J' := ⟨h.1, fun j hj => h.2 j (by omega)⟩
theorem gJ_b {J J' : Ml} (h : gJ J J') {t s : Nat} (ht : t + 4 ≤ 124) (hs : s < 256) : sB J' t s = sB J t s := by
  unfold sB; rw [h.2 _ (by omega)]
section
variable {n : Nat} {I : Mm} {J : Ml} {S : List Se}
theorem kx_last {f : Se} (h : cK n I J (f :: S)) (J' : Ml) : pCm_last I J' ∧ fCm_last I J' = nI (124 + 4 * S.length) := by
  have h1 := h.1
  have h2 := h.2.1
  rw [List.length_cons] at h1 h2
  have c : ¬ I 33 2 ≤ (124 : Int32) := by rw [h1]; exact nI_ge (a := 124) (by omega) (by omega)
  unfold pCm_last fCm_last
  rw [if_neg c]
  refine ⟨⟨fun q => absurd q c, fun _ => trivial⟩, ?_⟩
  rw [h1]
  show nI (124 + 4 * (S.length + 1)) - nI 4 = _
  rw [pk_sub (by omega), show 124 + 4 * (S.length + 1) - 4 = 124 + 4 * S.length by omega]
theorem cm_pop {f : Se} (h : cK n I J (f :: S)) : pCm_pop I J ∧ ∃ I', fCm_pop I J = (nI (124 + 4 * S.length), I') ∧ cK n I' J S ∧ gI I I' := by
  have l := kx_last h J
  have h1 := h.1
  have h2 := h.2.1
  rw [List.length_cons] at h1 h2
  have c : ¬ I 33 2 ≤ (124 : Int32) := by rw [h1]; exact nI_ge (a := 124) (by omega) (by omega)
  have e4 : I 33 2 - 4 = nI (124 + 4 * S.length) := by
    rw [h1]
    show nI (124 + 4 * (S.length + 1)) - nI 4 = _
    rw [pk_sub (by omega), show 124 + 4 * (S.length + 1) - 4 = 124 + 4 * S.length by omega]
  unfold pCm_pop fCm_pop pCm_pop_24 fCm_pop_24
  rw [if_neg c, l.2, e4]
  exact ⟨⟨l.1, fun q => absurd q c, fun _ => trivial⟩, _, rfl, ⟨by rw [pm_u_s], by omega, h.2.2.1.2, h.2.2.2.1, fun g hg => h.2.2.2.2 g (List.mem_cons_of_mem _ hg)⟩, fun a ha _ _ => pm_u_n _ _ _ ha⟩
theorem cm_push (h : cK n I J S) (hS : S.length < 125) : pCm_pushEmpty I J ∧ ∃ I' J', fCm_pushEmpty I J = (nI (124 + 4 * S.length), I', J') ∧ cK n I' J' ((fun _ => false) :: S) ∧ gI I I' ∧ kF (124 + 4 * S.length) J J' := by
  have e4 : I 33 2 + 4 = nI (124 + 4 * (S.length + 1)) := by
    rw [h.1]
    show nI (124 + 4 * S.length) + nI 4 = _
    rw [nI_add, show 124 + 4 * S.length + 4 = 124 + 4 * (S.length + 1) by omega]
  have c : ¬ (624 : Int32) < I 33 2 + 4 := by rw [e4]; exact nI_nlt (a := 624) (by omega) (by decide)
  have em := cm_empty (I := pm_u I 33 2 (nI (124 + 4 * (S.length + 1)))) (t := 124 + 4 * S.length) (by omega) J
  have ll : ∀ J', fCm_last (pm_u I 33 2 (nI (124 + 4 * (S.length + 1)))) J' = nI (124 + 4 * S.length) ∧ pCm_last (pm_u I 33 2 (nI (124 + 4 * (S.length + 1)))) J' := by
    intro J'
    have c2 : ¬ pm_u I 33 2 (nI (124 + 4 * (S.length + 1))) 33 2 ≤ (124 : Int32) := by rw [pm_u_s]; exact nI_ge (a := 124) (by omega) (by omega)
    unfold pCm_last fCm_last
    rw [if_neg c2, pm_u_s]
    refine ⟨?_, fun q => absurd (by rw [pm_u_s]; exact q) c2, fun _ => trivial⟩
    show nI (124 + 4 * (S.length + 1)) - nI 4 = _
    rw [pk_sub (by omega), show 124 + 4 * (S.length + 1) - 4 = 124 + 4 * S.length by omega]
  unfold pCm_pushEmpty fCm_pushEmpty
  rw [if_neg c, e4]
  rw [e4] at c
  unfold pCm_pushEmpty_24 fCm_pushEmpty_24 pCm_pushEmpty_32 fCm_pushEmpty_32
  rw [(ll _).1, (ll _).1]
  refine ⟨⟨fun q => absurd q c, fun _ => ⟨(ll _).2, em.1, (ll _).2, trivial⟩⟩, _, _, rfl, ⟨by rw [pm_u_s, List.length_cons], by rw [List.length_cons]; omega, ⟨fun s hs => em.2.2 s hs, kS_f em.2.1 S (Nat.le_refl _) (by omega) h.2.2.1⟩, fun s hs => by rw [kF_b em.2.1 (by omega) hs]; exact h.2.2.2.1 s hs, fun g hg => ?_⟩, fun a ha _ _ => pm_u_n _ _ _ ha, em.2.1⟩
  rcases List.mem_cons.mp hg with rfl | hg
  · intro s hs; cases hs
  · exact h.2.2.2.2 g hg
/-- the top changes -/
theorem cK_top {f g : Se} {J' : Ml} (h : cK n I J (f :: S)) (hk : kF (124 + 4 * S.length) J J') (hb : ∀ s, s < 256 → sB J' (124 + 4 * S.length) s = g s) (hg : ∀ s, g s = true → s < n) : cK n I J' (g :: S) := by
  have h2 := h.2.1
  rw [List.length_cons] at h2
  refine ⟨by rw [List.length_cons]; exact h.1, by rw [List.length_cons]; exact h2, ⟨hb, kS_f hk S (Nat.le_refl _) (by omega) h.2.2.1.2⟩, fun s hs => by rw [kF_b hk (by omega) hs]; exact h.2.2.2.1 s hs, fun k hq => ?_⟩
  rcases List.mem_cons.mp hq with rfl | hq
  · exact hg
  · exact h.2.2.2.2 k (List.mem_cons_of_mem _ hq)
theorem cK_i {I' : Mm} (h : cK n I J S) (e : I' 33 2 = I 33 2) : cK n I' J S := ⟨by rw [e]; exact h.1, h.2⟩
theorem cm_not {f : Se} (h : cK n I J (f :: S)) : pCm_turn 5 (nI (124 + 4 * S.length)) I J ∧ kF (124 + 4 * S.length) J (fCm_turn 5 (nI (124 + 4 * S.length)) I J) ∧ cK n I (fCm_turn 5 (nI (124 + 4 * S.length)) I J) (notF n f :: S) := by
  have h2 := h.2.1
  rw [List.length_cons] at h2
  have z := cm_turn (I := I) (t := 124 + 4 * S.length) (by omega) (by omega) J
  refine ⟨z.1, z.2.1, cK_top h z.2.1 (fun s hs => ?_) (fun s hs => ?_)⟩
  · rw [z.2.2 s hs, h.2.2.1.1 s hs, h.2.2.2.1 s hs]
    unfold notF
    have := h.2.2.2.2 f List.mem_cons_self s
    by_cases c : s < n
    · simp [c]
    · have : f s = false := by
        cases hf : f s
        · rfl
        · exact absurd (this hf) c
      simp [c, this]
  · unfold notF at hs
    simp at hs
    exact hs.1
/-- two sets become one -/
theorem cm_join {a b : Se} {o : Nat} (ho : o = 54 ∨ o = 55 ∨ o = 56) (h : cK n I J (b :: a :: S)) : pCm_join 5 (nI o) I J ∧ ∃ I' J', fCm_join 5 (nI o) I J = (I', J') ∧ cK n I' J' ((fun s => jnB o (a s) (b s) (decide (s < n))) :: S) ∧ gI I I' ∧ gJ J J' := by
  obtain ⟨p1, I1, p2, p3, p4⟩ := cm_pop h
  have hb := h.2.2.1.1
  rw [List.length_cons] at p2 hb
  have h2 := h.2.1
  rw [List.length_cons, List.length_cons] at h2
  have l := kx_last p3 J
  have lp : ∀ (k i : Nat) (J : Ml), i ≤ 4 → 4 - i < k → pCm_join_13 k (nI o) (nI (124 + 4 * (S.length + 1))) (nI (124 + 4 * S.length)) (nI i) I1 J ∧ ∃ J', fCm_join_13 k (nI o) (nI (124 + 4 * (S.length + 1))) (nI (124 + 4 * S.length)) (nI i) I1 J = (I1, J') ∧ kF (124 + 4 * S.length) J J' ∧ (∀ j, j < i → J' 34 (124 + 4 * S.length + j) = J 34 (124 + 4 * S.length + j)) ∧ ∀ j, i ≤ j → j < 4 → J' 34 (124 + 4 * S.length + j) = (if o = 54 then J 34 (124 + 4 * S.length + j) &&& J 34 (124 + 4 * (S.length + 1) + j) else if o = 55 then J 34 (124 + 4 * S.length + j) ||| J 34 (124 + 4 * (S.length + 1) + j) else (J 34 (120 + j) &&& (J 34 (124 + 4 * S.length + j) ^^^ (-1 : Int64))) ||| J 34 (124 + 4 * (S.length + 1) + j)) := by
    generalize eb : 124 + 4 * (S.length + 1) = tb
    generalize ea : 124 + 4 * S.length = ta
    have tab' : tb = ta + 4 := by omega
    have ta4 : 124 ≤ ta ∧ tb + 4 ≤ 624 := by omega
    intro k
    induction k with
    | zero => intro i J _ h; omega
    | succ k ih =>
      intro i J hi hn
      rw [pCm_join_13.eq_2, fCm_join_13.eq_2]
      by_cases c : 4 ≤ i
      · have c' : (4 : Int32) ≤ nI i := nI_le (a := 4) c (by omega)
        rw [if_pos c']
        exact ⟨⟨fun _ => trivial, fun q => absurd c' q⟩, J, rfl, kF_r _ _, fun _ _ => rfl, fun j h1 h2 => by omega⟩
      · have c' : ¬ (4 : Int32) ≤ nI i := nI_ge (b := 4) (by omega) (by decide)
        have e2 : (120 : Int32) + nI i = nI (120 + i) := nI_add 120 i
        rw [if_neg c', nI_add, nI_add, e2, nI_clamp (n := ta + i) (by omega), nI_clamp (n := tb + i) (by omega), nI_clamp (n := 120 + i) (by omega)]
        unfold pCm_join_122 fCm_join_122
        rw [nI_i1]
        have va : vp_in (nI (ta + i)) 624 := vp_in_nI (by omega) (by decide)
        have vb : vp_in (nI (tb + i)) 624 := vp_in_nI (by omega) (by decide)
        have ve : vp_in (nI (120 + i)) 624 := vp_in_nI (by omega) (by decide)
        have key : ∀ w : Int64, w = (if o = 54 then J 34 (ta + i) &&& J 34 (tb + i) else if o = 55 then J 34 (ta + i) ||| J 34 (tb + i) else (J 34 (120 + i) &&& (J 34 (ta + i) ^^^ (-1 : Int64))) ||| J 34 (tb + i)) → pCm_join_13 k (nI o) (nI tb) (nI ta) (nI (i + 1)) I1 (pm_u J 34 (ta + i) w) ∧ ∃ J', fCm_join_13 k (nI o) (nI tb) (nI ta) (nI (i + 1)) I1 (pm_u J 34 (ta + i) w) = (I1, J') ∧ kF ta J J' ∧ (∀ j, j < i → J' 34 (ta + j) = J 34 (ta + j)) ∧ ∀ j, i ≤ j → j < 4 → J' 34 (ta + j) = (if o = 54 then J 34 (ta + j) &&& J 34 (tb + j) else if o = 55 then J 34 (ta + j) ||| J 34 (tb + j) else (J 34 (120 + j) &&& (J 34 (ta + j) ^^^ (-1 : Int64))) ||| J 34 (tb + j)) := by
          intro w hw
          obtain ⟨z1, J', z2, z3, z4, z5⟩ := ih (i + 1) (pm_u J 34 (ta + i) w) (by omega) (by omega)
          refine ⟨z1, J', z2, ⟨fun a ha => by rw [z3.1 a ha, pm_u_n _ _ _ ha], fun j hj => by rw [z3.2 j hj, pm_u_j _ _ _ (by omega)]⟩, fun j hj => by rw [z4 j (by omega), pm_u_j _ _ _ (by omega)], fun j h1 h2 => ?_⟩
          by_cases cj : j = i
          · rw [cj, z4 i (by omega), pm_u_s]; exact hw
          · rw [z5 j (by omega) h2, pm_u_j (j' := ta + j) _ _ _ (by omega), pm_u_j (j' := tb + j) _ _ _ (by omega), pm_u_j (j' := 120 + j) _ _ _ (by omega)]
        rcases ho with rfl | rfl | rfl
        · have q54 : nI 54 = (54 : Int32) := rfl
          have z := key _ rfl
          rw [if_pos q54]
          exact ⟨⟨fun q => absurd q c', fun _ => ⟨fun _ => ⟨va, vb, va, z.1⟩, fun q => absurd q54 q⟩⟩, z.2⟩
        · have q54 : ¬ nI 55 = (54 : Int32) := by decide
          have q55 : nI 55 = (55 : Int32) := rfl
          have z := key _ rfl
          rw [if_neg q54, if_pos q55]
          exact ⟨⟨fun q => absurd q c', fun _ => ⟨fun q => absurd q q54, fun _ => ⟨fun _ => ⟨va, vb, va, z.1⟩, fun q => absurd q55 q⟩⟩⟩, z.2⟩
        · have q54 : ¬ nI 56 = (54 : Int32) := by decide
          have q55 : ¬ nI 56 = (55 : Int32) := by decide
          have z := key _ rfl
          rw [if_neg q54, if_neg q55]
          exact ⟨⟨fun q => absurd q c', fun _ => ⟨fun q => absurd q q54, fun _ => ⟨fun q => absurd q q55, fun _ => ⟨ve, va, vb, va, z.1⟩⟩⟩⟩, z.2⟩
  obtain ⟨z1, J', z2, z3, z4, z5⟩ := lp 5 0 J (by omega) (by omega)
  have z1' : pCm_join_13 5 (nI o) (nI (124 + 4 * (S.length + 1))) (nI (124 + 4 * S.length)) 0 I1 J := z1
  have z2' : fCm_join_13 5 (nI o) (nI (124 + 4 * (S.length + 1))) (nI (124 + 4 * S.length)) 0 I1 J = (I1, J') := z2
  unfold pCm_join fCm_join pCm_join_4 fCm_join_4
  rw [p2]
  dsimp only
  rw [l.2, z2']
  refine ⟨⟨p1, l.1, z1'⟩, I1, J', rfl, cK_top p3 z3 (fun s hs => ?_) (fun s hs => ?_), p4, gJ_k z3 (by omega)⟩
  · have ha := p3.2.2.1.1 s hs
    have hbb := hb s hs
    have he := h.2.2.2.1 s hs
    rw [sB4 (g := fun j => (if o = 54 then J 34 (124 + 4 * S.length + j) &&& J 34 (124 + 4 * (S.length + 1) + j) else if o = 55 then J 34 (124 + 4 * S.length + j) ||| J 34 (124 + 4 * (S.length + 1) + j) else (J 34 (120 + j) &&& (J 34 (124 + 4 * S.length + j) ^^^ (-1 : Int64))) ||| J 34 (124 + 4 * (S.length + 1) + j))) (fun i hi => z5 i (Nat.zero_le _) hi) hs]
    rw [← ha, ← hbb, ← he]
    unfold jnB sB
    rcases ho with rfl | rfl | rfl
    · show (J 34 (124 + 4 * S.length + s / 64) &&& J 34 (124 + 4 * (S.length + 1) + s / 64)).toBitVec.getLsbD (s % 64) = _
      rw [Int64.toBitVec_and, BitVec.getLsbD_and]; rfl
    · show (J 34 (124 + 4 * S.length + s / 64) ||| J 34 (124 + 4 * (S.length + 1) + s / 64)).toBitVec.getLsbD (s % 64) = _
      rw [Int64.toBitVec_or, BitVec.getLsbD_or]; rfl
    · show ((J 34 (120 + s / 64) &&& (J 34 (124 + 4 * S.length + s / 64) ^^^ (-1 : Int64))) ||| J 34 (124 + 4 * (S.length + 1) + s / 64)).toBitVec.getLsbD (s % 64) = _
      rw [Int64.toBitVec_or, BitVec.getLsbD_or, Int64.toBitVec_and, BitVec.getLsbD_and, Int64.toBitVec_xor, BitVec.getLsbD_xor]
      have e1 : ((-1 : Int64).toBitVec).getLsbD (s % 64) = true := (show ∀ q, q < 64 → ((-1 : Int64).toBitVec).getLsbD q = true by decide +kernel) _ (Nat.mod_lt _ (by decide))
      rw [e1, Bool.xor_true]; rfl
  · have ha := p3.2.2.2.2 a List.mem_cons_self s
    have hbb := h.2.2.2.2 b List.mem_cons_self s
    unfold jnB at hs
    rcases ho with rfl | rfl | rfl
    · simp at hs
      exact ha hs.1
    · simp at hs
      rcases hs with hs | hs
      · exact ha hs
      · exact hbb hs
    · simp at hs
      rcases hs with hs | hs
      · exact hs.1
      · exact hbb hs
end
