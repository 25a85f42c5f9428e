/-! CLASS'S FORMULAS: the orders -/
section
variable {n m ib : Nat} {nx : Nat → Nat → Nat} {I : Mm} {J : Ml} {S : List Se}
theorem uI_g {I I' : Mm} (h : uI I I') : gI I I' := h.1
theorem notF_s (n : Nat) (f : Se) : ∀ s, notF n f s = true → s < n := fun s hs => by
  unfold notF at hs
  simp at hs
  exact hs.1
theorem unt_s {a : Bool} {way goal : Se} : ∀ s, unt n m nx a way goal s = true → s < n := fun s hs => (unt_i.mp hs).1
theorem cm_ut {f : Se} (hN : cN n m ib nx I) (hI : cIn n m nx I) (hK : cK n I J (f :: S)) (a : Bool) (y1 : Int32) (hy : y1 = if a = true then 1 else 0) : pCm_until 257 257 y1 120 (nI (124 + 4 * S.length)) I J ∧ ∃ I' J', fCm_until 257 257 y1 120 (nI (124 + 4 * S.length)) I J = (I', J') ∧ cK n I' J' (unt n m nx a (ev n) f :: S) ∧ gI I I' ∧ gJ J J' := by
  have h2 := hK.2.1
  rw [List.length_cons] at h2
  obtain ⟨z1, I', J', z2, z3, z4, z5⟩ := cm_unt (a := a) (way := ev n) (goal := f) hN hI (w := 120) (t := 124 + 4 * S.length) (by omega) (by omega) hK.2.2.2.1 hK.2.2.1.1 (hK.2.2.2.2 f List.mem_cons_self) y1 hy
  exact ⟨z1, I', J', z2, cK_i (cK_top hK z4 z5 unt_s) (z3.2 2 (by decide)), uI_g z3, gJ_k z4 (by omega)⟩
def ngd (o : Nat) : Bool := decide (o = 38 ∨ o = 41 ∨ o = 42)
theorem cm_82 {f : Se} (hK : cK n I J (f :: S)) (y1 y2 : Int32) (b : Bool) (hb : y2 = if b = true then 1 else 0) : pCm_comeTo_82 y1 y2 (nI (124 + 4 * S.length)) I J ∧ ∃ J', fCm_comeTo_82 y1 y2 (nI (124 + 4 * S.length)) I J = (I, J') ∧ cK n I J' ((if b = true then notF n f else f) :: S) ∧ gJ J J' := by
  unfold pCm_comeTo_82 fCm_comeTo_82
  cases b with
  | true =>
    have c : ¬ y2 = 0 := by rw [hb]; decide
    have z := cm_not hK
    rw [if_neg c]
    exact ⟨⟨fun q => absurd q c, fun _ => ⟨z.1, trivial⟩⟩, _, rfl, z.2.2, gJ_k z.2.1 (by omega)⟩
  | false =>
    have c : y2 = 0 := by rw [hb]; rfl
    rw [if_pos c]
    exact ⟨⟨fun _ => trivial, fun q => absurd c q⟩, J, rfl, hK, gJ_r _⟩
theorem cm_38 {f : Se} (hN : cN n m ib nx I) (hI : cIn n m nx I) (hK : cK n I J (f :: S)) (hS : S.length + 1 < 125) {o : Nat} (ho : 37 ≤ o ∧ o ≤ 42) (y2 : Int32) (b : Bool) (hb : y2 = if b = true then 1 else 0) : pCm_comeTo_38 (nI o) y2 (nI (124 + 4 * S.length)) I J ∧ ∃ I' J', fCm_comeTo_38 (nI o) y2 (nI (124 + 4 * S.length)) I J = (I', J') ∧ gI I I' ∧ gJ J J' ∧ cK n I' J' ((if b = true then notF n (if o ≤ 38 then axF n m nx f else unt n m nx (decide (o = 39 ∨ o = 42)) (ev n) f) else (if o ≤ 38 then axF n m nx f else unt n m nx (decide (o = 39 ∨ o = 42)) (ev n) f)) :: S) := by
  have A : pCm_comeTo_50 (nI o) y2 (nI (124 + 4 * S.length)) I J ∧ ∃ I' J', fCm_comeTo_50 (nI o) y2 (nI (124 + 4 * S.length)) I J = (I', J') ∧ gI I I' ∧ gJ J J' ∧ cK n I' J' ((if b = true then notF n (axF n m nx f) else axF n m nx f) :: S) := by
    obtain ⟨z1, I1, J1, z2, z3, z4, z5⟩ := cm_ax hN hK hS
    obtain ⟨w1, J2, w2, w3, w4⟩ := cm_82 z3 (nI o) y2 b hb
    unfold pCm_comeTo_50 fCm_comeTo_50 pCm_comeTo_55 fCm_comeTo_55
    rw [z2]
    exact ⟨⟨z1, w1⟩, I1, J2, w2, z4, gJ_t z5 w4, w3⟩
  have U : ∀ (a : Bool) (z : Int32), z = (if a = true then 1 else 0) → pCm_comeTo_76 (nI o) y2 (nI (124 + 4 * S.length)) z I J ∧ ∃ I' J', fCm_comeTo_76 (nI o) y2 (nI (124 + 4 * S.length)) z I J = (I', J') ∧ gI I I' ∧ gJ J J' ∧ cK n I' J' ((if b = true then notF n (unt n m nx a (ev n) f) else unt n m nx a (ev n) f) :: S) := by
    intro a z hz
    obtain ⟨z1, I1, J1, z2, z3, z4, z5⟩ := cm_ut hN hI hK a z hz
    obtain ⟨w1, J2, w2, w3, w4⟩ := cm_82 z3 (nI o) y2 b hb
    unfold pCm_comeTo_76 fCm_comeTo_76
    rw [z2]
    exact ⟨⟨z1, w1⟩, I1, J2, w2, z4, gJ_t z5 w4, w3⟩
  rcases (show o = 37 ∨ o = 38 ∨ o = 39 ∨ o = 40 ∨ o = 41 ∨ o = 42 by omega) with rfl | rfl | rfl | rfl | rfl | rfl
  · exact ⟨⟨fun _ => A.1, fun q => absurd rfl q⟩, A.2⟩
  · exact ⟨⟨fun q => absurd q (by decide), fun _ => ⟨fun _ => A.1, fun q => absurd rfl q⟩⟩, A.2⟩
  · have z := U true 1 rfl
    exact ⟨⟨fun q => absurd q (by decide), fun _ => ⟨fun q => absurd q (by decide), fun _ => ⟨fun _ => z.1, fun q => absurd rfl q⟩⟩⟩, z.2⟩
  · have z := U false 0 rfl
    exact ⟨⟨fun q => absurd q (by decide), fun _ => ⟨fun q => absurd q (by decide), fun _ => ⟨fun q => absurd q (by decide), fun _ => ⟨fun q => absurd q (by decide), fun _ => z.1⟩⟩⟩⟩, z.2⟩
  · have z := U false 0 rfl
    exact ⟨⟨fun q => absurd q (by decide), fun _ => ⟨fun q => absurd q (by decide), fun _ => ⟨fun q => absurd q (by decide), fun _ => ⟨fun q => absurd q (by decide), fun _ => z.1⟩⟩⟩⟩, z.2⟩
  · have z := U true 1 rfl
    exact ⟨⟨fun q => absurd q (by decide), fun _ => ⟨fun q => absurd q (by decide), fun _ => ⟨fun q => absurd q (by decide), fun _ => ⟨fun _ => z.1, fun q => absurd rfl q⟩⟩⟩⟩, z.2⟩
theorem cm_come {f : Se} (hN : cN n m ib nx I) (hI : cIn n m nx I) (hK : cK n I J (f :: S)) (hS : S.length + 1 < 125) {o : Nat} (ho : 37 ≤ o ∧ o ≤ 42) : pCm_comeTo (nI o) I J ∧ ∃ I' J', fCm_comeTo (nI o) I J = (I', J') ∧ gI I I' ∧ gJ J J' ∧ cK n I' J' (opF n m nx o f :: S) := by
  have l := kx_last hK J
  have pos : pCm_comeTo_23 (nI o) 0 I J ∧ ∃ I' J', fCm_comeTo_23 (nI o) 0 I J = (I', J') ∧ gI I I' ∧ gJ J J' ∧ cK n I' J' ((if o ≤ 38 then axF n m nx f else unt n m nx (decide (o = 39 ∨ o = 42)) (ev n) f) :: S) := by
    have z := cm_38 hN hI hK hS ho 0 false rfl
    unfold pCm_comeTo_23 fCm_comeTo_23
    rw [if_pos rfl, l.2]
    exact ⟨⟨l.1, fun _ => z.1, fun q => absurd rfl q⟩, z.2⟩
  have neg : pCm_comeTo_18 (nI o) I J ∧ ∃ I' J', fCm_comeTo_18 (nI o) I J = (I', J') ∧ gI I I' ∧ gJ J J' ∧ cK n I' J' (notF n (if o ≤ 38 then axF n m nx (notF n f) else unt n m nx (decide (o = 39 ∨ o = 42)) (ev n) (notF n f)) :: S) := by
    have t := cm_not hK
    obtain ⟨z1, I', J', z2, z3, z4, z5⟩ := cm_38 hN hI t.2.2 hS ho 1 true rfl
    unfold pCm_comeTo_18 fCm_comeTo_18 pCm_comeTo_23 fCm_comeTo_23
    rw [if_neg (show ¬ (1 : Int32) = 0 by decide), l.2]
    exact ⟨⟨l.1, fun q => absurd q (by decide), fun _ => ⟨t.1, z1⟩⟩, I', J', z2, z3, gJ_t (gJ_k t.2.1 (by omega)) z4, z5⟩
  have ne : ∀ t : Nat, t < 2 ^ 31 → o ≠ t → ¬ nI o = nI t := fun t ht h q => h ((nI_eq (by omega) ht).mp q)
  unfold pCm_comeTo fCm_comeTo
  by_cases c38 : o = 38
  · have e : nI o = (38 : Int32) := by rw [c38]; rfl
    rw [if_pos e]
    refine ⟨⟨fun _ => neg.1, fun q => absurd e q⟩, ?_⟩
    obtain ⟨I', J', w1, w2, w3, w4⟩ := neg.2
    refine ⟨I', J', w1, w2, w3, ?_⟩
    subst c38
    exact w4
  have e38 : ¬ nI o = (38 : Int32) := ne 38 (by decide) c38
  rw [if_neg e38]
  by_cases c41 : o = 41
  · have e : nI o = (41 : Int32) := by rw [c41]; rfl
    rw [if_pos e]
    refine ⟨⟨fun q => absurd q e38, fun _ => ⟨fun _ => neg.1, fun q => absurd e q⟩⟩, ?_⟩
    obtain ⟨I', J', w1, w2, w3, w4⟩ := neg.2
    refine ⟨I', J', w1, w2, w3, ?_⟩
    subst c41
    exact w4
  have e41 : ¬ nI o = (41 : Int32) := ne 41 (by decide) c41
  rw [if_neg e41]
  by_cases c42 : o = 42
  · have e : nI o = (42 : Int32) := by rw [c42]; rfl
    rw [if_pos e]
    refine ⟨⟨fun q => absurd q e38, fun _ => ⟨fun q => absurd q e41, fun _ => ⟨fun _ => neg.1, fun q => absurd e q⟩⟩⟩, ?_⟩
    obtain ⟨I', J', w1, w2, w3, w4⟩ := neg.2
    refine ⟨I', J', w1, w2, w3, ?_⟩
    subst c42
    exact w4
  have e42 : ¬ nI o = (42 : Int32) := ne 42 (by decide) c42
  rw [if_neg e42]
  refine ⟨⟨fun q => absurd q e38, fun _ => ⟨fun q => absurd q e41, fun _ => ⟨fun q => absurd q e42, fun _ => pos.1⟩⟩⟩, ?_⟩
  obtain ⟨I', J', w1, w2, w3, w4⟩ := pos.2
  refine ⟨I', J', w1, w2, w3, ?_⟩
  rcases (show o = 37 ∨ o = 39 ∨ o = 40 by omega) with c | c | c
  · subst c; exact w4
  · subst c; exact w4
  · subst c; exact w4
theorem cm_ju {x y : Se} (hN : cN n m ib nx I) (hI : cIn n m nx I) (hK : cK n I J (y :: x :: S)) (a : Bool) (y1 : Int32) (hy : y1 = if a = true then 1 else 0) : pCm_joinUntil y1 I J ∧ ∃ I' J', fCm_joinUntil y1 I J = (I', J') ∧ gI I I' ∧ gJ J J' ∧ cK n I' J' (unt n m nx a x y :: S) := by
  obtain ⟨p1, I1, p2, p3, p4⟩ := cm_pop hK
  have hb := hK.2.2.1.1
  rw [List.length_cons] at p2 hb
  have h2 := hK.2.1
  rw [List.length_cons, List.length_cons] at h2
  have l := kx_last p3 J
  obtain ⟨z1, I', J', z2, z3, z4, z5⟩ := cm_unt (a := a) (way := x) (goal := y) (cN_c hN (p4 3 (by decide) (by decide) (by decide)) (p4 25 (by decide) (by decide) (by decide)) (p4 26 (by decide) (by decide) (by decide))) (cIn_c hI (p4 27 (by decide) (by decide) (by decide)) (p4 28 (by decide) (by decide) (by decide))) (w := 124 + 4 * S.length) (t := 124 + 4 * (S.length + 1)) (by omega) (by omega) p3.2.2.1.1 hb (hK.2.2.2.2 y List.mem_cons_self) y1 hy
  have c3 : cK n I' J' (x :: S) := by
    refine cK_i (I := I1) ⟨p3.1, p3.2.1, kS_f z4 _ (by rw [List.length_cons]; omega) (by omega) p3.2.2.1, fun s hs => by rw [kF_b z4 (by omega) hs]; exact p3.2.2.2.1 s hs, p3.2.2.2.2⟩ (z3.2 2 (by decide))
  have cp := cm_copy (I := I') (a := 124 + 4 * (S.length + 1)) (t := 124 + 4 * S.length) (by omega) (by omega) J'
  unfold pCm_joinUntil fCm_joinUntil pCm_joinUntil_4 fCm_joinUntil_4 pCm_joinUntil_17 fCm_joinUntil_17
  rw [p2]
  dsimp only
  rw [l.2, z2]
  exact ⟨⟨p1, l.1, z1, cp.1, trivial⟩, I', _, rfl, gI_t p4 (uI_g z3), gJ_t (gJ_k z4 (by omega)) (gJ_k cp.2.1 (by omega)), cK_top c3 cp.2.1 (fun s hs => by rw [cp.2.2 s hs]; exact z5 s hs) unt_s⟩
/-- the switch -/
theorem pc_ct {o : Nat} (ho : 37 ≤ o ∧ o ≤ 42) (y : Int32) : (pCm_comeTo (nI o) I J → pCm_perform (nI o) y I J) ∧ fCm_perform (nI o) y I J = fCm_comeTo (nI o) I J := by
  unfold pCm_perform fCm_perform
  rcases (show o = 37 ∨ o = 38 ∨ o = 39 ∨ o = 40 ∨ o = 41 ∨ o = 42 by omega) with rfl | rfl | rfl | rfl | rfl | rfl
  all_goals
    refine ⟨fun h => ?_, ?_⟩
    · repeat first | exact ⟨fun _ => ⟨h, trivial⟩, fun q => absurd rfl q⟩ | refine ⟨fun q => absurd q (by decide), fun _ => ?_⟩
    · repeat rw [if_neg (by decide)]
      exact (if_pos (by decide)).trans (Prod.eta _)
theorem pc_ju {o : Nat} (ho : o = 34 ∨ o = 35) (y : Int32) : (pCm_joinUntil (if decide (o = 34) = true then 1 else 0) I J → pCm_perform (nI o) y I J) ∧ fCm_perform (nI o) y I J = fCm_joinUntil (if decide (o = 34) = true then 1 else 0) I J := by
  unfold pCm_perform fCm_perform pCm_perform_171 fCm_perform_171 pCm_perform_174 fCm_perform_174
  rcases ho with rfl | rfl
  all_goals
    refine ⟨fun h => ?_, ?_⟩
    · repeat first | exact ⟨fun _ => ⟨h, trivial⟩, fun q => absurd rfl q⟩ | refine ⟨fun q => absurd q (by decide), fun _ => ?_⟩
    · repeat rw [if_neg (by decide)]
      rw [if_pos (by decide)]
      first | exact Prod.eta _ | (rw [if_pos (by decide)]; exact Prod.eta _) | (rw [if_neg (by decide)]; exact Prod.eta _) | with_reducible rfl
theorem pc_jo {o : Nat} (ho : o = 54 ∨ o = 55 ∨ o = 56) (y : Int32) : (pCm_join 5 (nI o) I J → pCm_perform (nI o) y I J) ∧ fCm_perform (nI o) y I J = fCm_join 5 (nI o) I J := by
  unfold pCm_perform fCm_perform
  rcases ho with rfl | rfl | rfl
  all_goals
    refine ⟨fun h => ?_, ?_⟩
    · repeat first | exact ⟨fun _ => ⟨h, trivial⟩, fun q => absurd rfl q⟩ | refine ⟨fun q => absurd q (by decide), fun _ => ?_⟩
    · repeat rw [if_neg (by decide)]
      rw [if_pos (by decide)]
      unfold fCm_perform_156
      exact Prod.eta _
theorem pc_no (y : Int32) : (pCm_last I J ∧ pCm_turn 5 (fCm_last I J) I J → pCm_perform 53 y I J) ∧ fCm_perform 53 y I J = (I, fCm_turn 5 (fCm_last I J) I J) := by
  unfold pCm_perform fCm_perform
  refine ⟨fun h => ?_, ?_⟩
  · repeat first | exact ⟨fun _ => ⟨h.1, h.2, trivial⟩, fun q => absurd rfl q⟩ | refine ⟨fun q => absurd q (by decide), fun _ => ?_⟩
  · repeat rw [if_neg (by decide)]
    rw [if_pos (by decide)]
    unfold fCm_perform_148
    with_reducible rfl
theorem pc_na (y : Int32) : (pCm_pushEmpty I J ∧ pCm_copy (y * 4) (fCm_pushEmpty I J).1 (fCm_pushEmpty I J).2.1 (fCm_pushEmpty I J).2.2 → pCm_perform 52 y I J) ∧ fCm_perform 52 y I J = ((fCm_pushEmpty I J).2.1, fCm_copy (y * 4) (fCm_pushEmpty I J).1 (fCm_pushEmpty I J).2.1 (fCm_pushEmpty I J).2.2) := by
  unfold pCm_perform fCm_perform
  refine ⟨fun h => ?_, ?_⟩
  · repeat first | exact ⟨fun _ => ⟨h.1, h.2, trivial⟩, fun q => absurd rfl q⟩ | refine ⟨fun q => absurd q (by decide), fun _ => ?_⟩
  · repeat rw [if_neg (by decide)]
    rw [if_pos (by decide)]
    unfold fCm_perform_120 fCm_perform_123
    with_reducible rfl
theorem pc_sp (y : Int32) : (pCm_pop I J ∧ pCm_copy (fCm_pop I J).1 (y * 4) (fCm_pop I J).2 J → pCm_perform 33 y I J) ∧ fCm_perform 33 y I J = ((fCm_pop I J).2, fCm_copy (fCm_pop I J).1 (y * 4) (fCm_pop I J).2 J) := by
  unfold pCm_perform fCm_perform
  refine ⟨fun h => ⟨fun _ => ⟨h.1, h.2, trivial⟩, fun q => absurd rfl q⟩, ?_⟩
  rw [if_pos (by decide)]
  unfold fCm_perform_131 fCm_perform_137
  with_reducible rfl
/-- one order on the top -/
theorem cm_op1 {f : Se} (hN : cN n m ib nx I) (hI : cIn n m nx I) (hK : cK n I J (f :: S)) (hS : S.length + 1 < 125) {o : Nat} (ho : o = 53 ∨ (37 ≤ o ∧ o ≤ 42)) (y : Int32) : pCm_perform (nI o) y I J ∧ ∃ I' J', fCm_perform (nI o) y I J = (I', J') ∧ gI I I' ∧ gJ J J' ∧ cK n I' J' (opF n m nx o f :: S) := by
  rcases ho with rfl | ho
  · have l := kx_last hK J
    have t := cm_not hK
    have z := pc_no (I := I) (J := J) y
    rw [l.2] at z
    exact ⟨z.1 ⟨l.1, t.1⟩, I, _, z.2, gI_r _, gJ_k t.2.1 (by omega), t.2.2⟩
  · obtain ⟨z1, I', J', z2, z3, z4, z5⟩ := cm_come hN hI hK hS ho
    have z := pc_ct (I := I) (J := J) ho y
    exact ⟨z.1 z1, I', J', z.2.trans z2, z3, z4, z5⟩
theorem cm_op2 {a b : Se} (hN : cN n m ib nx I) (hI : cIn n m nx I) (hK : cK n I J (b :: a :: S)) {o : Nat} (ho : o = 54 ∨ o = 55 ∨ o = 56 ∨ o = 34 ∨ o = 35) (y : Int32) : pCm_perform (nI o) y I J ∧ ∃ I' J', fCm_perform (nI o) y I J = (I', J') ∧ gI I I' ∧ gJ J J' ∧ cK n I' J' (op2F n m nx o a b :: S) := by
  have j : ∀ o : Nat, (o = 54 ∨ o = 55 ∨ o = 56) → (fun s => jnB o (a s) (b s) (decide (s < n))) = op2F n m nx o a b → pCm_perform (nI o) y I J ∧ ∃ I' J', fCm_perform (nI o) y I J = (I', J') ∧ gI I I' ∧ gJ J J' ∧ cK n I' J' (op2F n m nx o a b :: S) := by
    intro o ho e
    obtain ⟨z1, I', J', z2, z3, z4, z5⟩ := cm_join ho hK
    have z := pc_jo (I := I) (J := J) ho y
    rw [e] at z3
    exact ⟨z.1 z1, I', J', z.2.trans z2, z4, z5, z3⟩
  have u : ∀ o : Nat, (o = 34 ∨ o = 35) → op2F n m nx o a b = unt n m nx (decide (o = 34)) a b → pCm_perform (nI o) y I J ∧ ∃ I' J', fCm_perform (nI o) y I J = (I', J') ∧ gI I I' ∧ gJ J J' ∧ cK n I' J' (op2F n m nx o a b :: S) := by
    intro o ho e
    obtain ⟨z1, I', J', z2, z3, z4, z5⟩ := cm_ju hN hI hK (decide (o = 34)) _ rfl
    have z := pc_ju (I := I) (J := J) ho y
    rw [e]
    exact ⟨z.1 z1, I', J', z.2.trans z2, z3, z4, z5⟩
  rcases ho with rfl | rfl | rfl | rfl | rfl
  · exact j 54 (by decide) rfl
  · exact j 55 (by decide) rfl
  · exact j 56 (by decide) rfl
  · exact u 34 (by decide) rfl
  · exact u 35 (by decide) rfl
end
