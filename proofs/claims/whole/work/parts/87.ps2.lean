/-! PARSE 2: the class's reader: its state, and the leaves -/
def rwOk (q a j : Nat) : Prop := (a = 13 ∧ (j = 2 ∨ j = 3 ∨ j = 7 ∨ j = 9 ∨ j = 10)) ∨ (a = 3 ∧ j = 9) ∨ a = 16 ∨ (a = q ∧ j = 2) ∨ a = q + 1 ∨ a = q + 2
/-- only what reading an expression may change has changed -/
def fr (A : Mm) (q : Nat) (I : Mm) : Prop := ∀ a j, ¬ rwOk q a j → I a j = A a j
theorem fr_u {A I : Mm} {q a j : Nat} {v : Int32} (h : rwOk q a j) (f : fr A q I) : fr A q (pm_u I a j v) := by
  intro a' j' h'
  unfold pm_u
  by_cases ha : a' = a
  · rw [if_pos ha]
    by_cases hj : j' = j
    · subst ha; subst hj; exact absurd h h'
    · show (if j' = j then v else I a j') = A a' j'
      rw [if_neg hj, ← ha]; exact f a' j' h'
  · rw [if_neg ha]; exact f a' j' h'
def stk (I : Mm) : List Nat → Prop
  | [] => True
  | k :: W => I 16 W.length = nI k ∧ k < 29 ∧ stk I W
theorem stk_c {I I' : Mm} (h : I' 16 = I 16) : ∀ W, stk I W → stk I' W
  | [], _ => trivial
  | _ :: W, q => ⟨by rw [h]; exact q.1, q.2.1, stk_c h W q.2.2⟩
theorem stk_p {I : Mm} {n : Nat} {v : Int32} : ∀ W : List Nat, W.length ≤ n → stk I W → stk (pm_u I 16 n v) W
  | [], _, _ => trivial
  | k :: W, hn, q => ⟨by
      have : W.length ≠ n := by simp only [List.length_cons] at hn; omega
      rw [pm_u_j _ _ _ this]; exact q.1, q.2.1, stk_p W (by simp only [List.length_cons] at hn; omega) q.2.2⟩
def cod (I : Mm) (q : Nat) (C : Cd) : Prop := ∀ j x, C[j]? = some x → I (q + 1) j = nI x.1 ∧ I (q + 2) j = nI x.2
theorem cod_c {I I' : Mm} {q : Nat} {C : Cd} (h1 : I' (q + 1) = I (q + 1)) (h2 : I' (q + 2) = I (q + 2)) (h : cod I q C) : cod I' q C := fun j x hj => by rw [h1, h2]; exact h j x hj
theorem cod_a {I : Mm} {q : Nat} {C : Cd} (x : Nat × Nat) (h : cod I q C) : cod (pm_u (pm_u I (q + 1) C.length (nI x.1)) (q + 2) C.length (nI x.2)) q (C ++ [x]) := by
  intro j y hj
  rw [List.getElem?_append] at hj
  have n12 : q + 1 ≠ q + 2 := by omega
  by_cases hl : j < C.length
  · rw [if_pos hl] at hj
    rw [pm_u_n _ _ _ n12, pm_u_j _ _ _ (by omega), pm_u_j _ _ _ (by omega), pm_u_n _ _ _ (by omega)]
    exact h j y hj
  · rw [if_neg hl] at hj
    have : j - C.length = 0 := by
      rcases Nat.eq_zero_or_pos (j - C.length) with h0 | h0
      · exact h0
      · rw [List.getElem?_eq_none (by simp only [List.length_cons, List.length_nil]; omega)] at hj; cases hj
    have e : j = C.length := by omega
    rw [this] at hj
    simp only [List.getElem?_cons_zero, Option.some.injEq] at hj
    subst hj
    rw [e, pm_u_n _ _ _ n12, pm_u_s, pm_u_s]
    exact ⟨rfl, rfl⟩
/-- the class reads: at token i, signs W wait, code C, costs co -/
def cS (A : Mm) (q i : Nat) (W : List Nat) (C : Cd) (co : Nat) (I : Mm) : Prop :=
  fr A q I ∧ I 3 9 = nI co ∧ I 13 2 = nI i ∧ I 13 3 = A 18 i ∧ I 13 7 = nI W.length ∧ I 13 9 = 0 ∧ stk I W ∧ I q 2 = nI C.length ∧ cod I q C ∧ I 13 10 = A 13 10
/-- the class has met FAULT e at token w, or stands before the token for which there is no room -/
def cB (A : Mm) (q e w : Nat) (I : Mm) : Prop :=
  fr A q I ∧ (∃ n, n < 4001 ∧ I 13 2 = nI n) ∧ (∃ n, n ≤ 125 ∧ I 13 7 = nI n) ∧ (∃ n, n ≤ 4000 ∧ I q 2 = nI n) ∧
  ((I 13 9 = nI e ∧ e ≠ 0 ∧ e < 9 ∧ I 13 10 = A 19 w ∧ I 13 3 = 48) ∨ (e = 4 ∧ w < 4001 ∧ I 13 9 = 0 ∧ I 13 3 = 47 ∧ I 13 2 = nI w ∧ I 17 5 ≤ nI w + 1))
/-- the tokens lie in the class's memory -/
def tMem (A : Mm) (T : TT) (n : Nat) : Prop := A 17 5 = nI n ∧ (∀ i, i < n → A 18 i = nI (T.1 i)) ∧ (∀ i, i < n → T.1 i = 44 → A 21 i = nI (T.2.1 i) ∧ T.2.1 i < 2 ^ 30) ∧ A 19 = A 19
theorem fr_5 {A I : Mm} {q : Nat} (hq : q = 7 ∨ q = 10) (f : fr A q I) : I 17 = A 17 ∧ I 18 = A 18 ∧ I 19 = A 19 ∧ I 20 = A 20 ∧ I 21 = A 21 ∧ I 14 = A 14 ∧ I 4 = A 4 ∧ I 6 = A 6 ∧ I 2 = A 2 ∧ I 1 = A 1 ∧ I 3 5 = A 3 5 := by
  unfold fr rwOk at f
  rcases hq with rfl | rfl <;> refine ⟨?_, ?_, ?_, ?_, ?_, ?_, ?_, ?_, ?_, ?_, ?_⟩ <;> first | (funext j; exact f _ _ (by omega)) | exact f _ _ (by omega)
theorem q_ne {q : Nat} (hq : q = 7 ∨ q = 10) : q ≠ 13 ∧ q ≠ 3 ∧ q ≠ 16 ∧ q + 1 ≠ 13 ∧ q + 1 ≠ 3 ∧ q + 1 ≠ 16 ∧ q + 2 ≠ 13 ∧ q + 2 ≠ 3 ∧ q + 2 ≠ 16 := by omega
section
variable {A : Mm} {q i co : Nat} {W : List Nat} {C : Cd} {I : Mm} {J : Ml} {T : TT} {n : Nat}
theorem cS_kind (hM : tMem A T n) (h : cS A q i W C co I) (hi : i < n) : I 13 3 = nI (T.1 i) := by rw [h.2.2.2.1]; exact hM.2.1 i hi
theorem cS_adv (hq : q = 7 ∨ q = 10) (hT : tEnd T n) (hM : tMem A T n) (h : cS A q i W C co I) (hi : i < n) (hk : T.1 i < 45) : pRd_advance I J ∧ cS A q (i + 1) W C co (fRd_advance I J) := by
  have hs := tEnd_s hT hi hk
  have hn := hT.2.1
  obtain ⟨f, h39, h2, h3, h7, h9, hs16, hl, hc⟩ := h
  have f5 := fr_5 hq f
  have e3 : I 13 3 = nI (T.1 i) := by rw [h3]; exact hM.2.1 i hi
  have c1 : ¬ I 13 3 = (48 : Int32) := by rw [e3]; exact fun q => by have := (nI_eq (a := T.1 i) (b := 48) (by omega) (by decide)).mp q; omega
  have c2 : ¬ I 17 5 ≤ I 13 2 + 1 := by rw [f5.1, hM.1, h2, nI_1]; exact nI_ge (by omega) (by omega)
  have ne := q_ne hq
  unfold pRd_advance fRd_advance
  rw [if_neg c1, if_neg c2, h2, nI_1, nI_clamp (by omega)]
  refine ⟨⟨fun q => absurd q c1, fun _ => ⟨fun q => absurd q (by rw [h2, nI_1] at c2; exact c2), fun _ => ⟨vp_in_nI (by omega) (by decide), trivial⟩⟩⟩, fr_u (Or.inl ⟨rfl, by omega⟩) (fr_u (Or.inl ⟨rfl, by omega⟩) f), ?_, ?_, ?_, ?_, ?_, ?_, ?_, ?_⟩
  · rw [pm_u_n _ _ _ (by decide), pm_u_n _ _ _ (by decide)]; exact h39
  · rw [pm_u_j _ _ _ (by decide), pm_u_s]
  · rw [pm_u_s, pm_u_n _ _ _ (by decide), f5.2.1]
  · rw [pm_u_j _ _ _ (by decide), pm_u_j _ _ _ (by decide)]; exact h7
  · rw [pm_u_j _ _ _ (by decide), pm_u_j _ _ _ (by decide)]; exact h9
  · exact stk_c (by rw [pm_u_n _ _ _ (by decide), pm_u_n _ _ _ (by decide)]) W hs16
  · rw [pm_u_n _ _ _ ne.1, pm_u_n _ _ _ ne.1]; exact hl
  · exact ⟨cod_c (by rw [pm_u_n _ _ _ ne.2.2.2.1, pm_u_n _ _ _ ne.2.2.2.1]) (by rw [pm_u_n _ _ _ ne.2.2.2.2.2.2.1, pm_u_n _ _ _ ne.2.2.2.2.2.2.1]) hc.1, by rw [pm_u_j _ _ _ (by decide), pm_u_j _ _ _ (by decide)]; exact hc.2⟩
theorem cS_halt (hq : q = 7 ∨ q = 10) (h : cS A q i W C co I) (hi : i < 4001) (hW : W.length ≤ 125) (hC : C.length ≤ 4000) {e : Nat} (he : e ≠ 0) (he9 : e < 9) : pRd_halt (nI e) I J ∧ cB A q e i (fRd_halt (nI e) I J) := by
  obtain ⟨f, h39, h2, h3, h7, h9, hs16, hl, hc⟩ := h
  have f5 := fr_5 hq f
  have ne := q_ne hq
  unfold pRd_halt fRd_halt
  rw [if_pos h9, h2, nI_clamp (by omega)]
  refine ⟨⟨fun _ => ⟨vp_in_nI hi (by decide), trivial⟩, fun q => absurd h9 q⟩, fr_u (Or.inl ⟨rfl, by omega⟩) (fr_u (Or.inl ⟨rfl, by omega⟩) (fr_u (Or.inl ⟨rfl, by omega⟩) f)), ⟨i, hi, ?_⟩, ⟨W.length, hW, ?_⟩, ⟨C.length, hC, ?_⟩, Or.inl ⟨?_, he, he9, ?_, ?_⟩⟩
  · rw [pm_u_j _ _ _ (by decide), pm_u_j _ _ _ (by decide), pm_u_j _ _ _ (by decide)]; exact h2
  · rw [pm_u_j _ _ _ (by decide), pm_u_j _ _ _ (by decide), pm_u_j _ _ _ (by decide)]; exact h7
  · rw [pm_u_n _ _ _ ne.1, pm_u_n _ _ _ ne.1, pm_u_n _ _ _ ne.1]; exact hl
  · rw [pm_u_j _ _ _ (by decide), pm_u_j _ _ _ (by decide), pm_u_s]
  · rw [pm_u_j _ _ _ (by decide), pm_u_s, pm_u_n _ _ _ (by decide), f5.2.2.1]
  · rw [pm_u_s]
theorem cS_refuse (hq : q = 7 ∨ q = 10) (hT : tEnd T n) (hM : tMem A T n) (h : cS A q i W C co I) (hi : i < n) (hW : W.length ≤ 125) (hC : C.length ≤ 4000) : pRd_refuse I J ∧ cB A q (sp_no T i).1 (sp_no T i).2.1 (fRd_refuse I J) := by
  have e3 := cS_kind hM h hi
  have hn := hT.2.1
  unfold pRd_refuse fRd_refuse sp_no pRd_refuse_15 fRd_refuse_15
  by_cases k : T.1 i = 47
  · have c : I 13 3 = (47 : Int32) := by rw [e3, k]; rfl
    have z := cS_halt (J := J) hq h (by omega) hW hC (e := 4) (by decide) (by decide)
    rw [if_pos k, if_pos c]
    exact ⟨⟨fun _ => ⟨z.1, trivial⟩, fun q => absurd c q⟩, z.2⟩
  · have c : ¬ I 13 3 = (47 : Int32) := by rw [e3]; exact fun q => k ((nI_eq (a := T.1 i) (b := 47) (by have := hT.2.2.1 i hi; omega) (by decide)).mp q)
    have z := cS_halt (J := J) hq h (by omega) hW hC (e := 1) (by decide) (by decide)
    rw [if_neg k, if_neg c]
    exact ⟨⟨fun q => absurd q c, fun _ => ⟨z.1, trivial⟩⟩, z.2⟩
theorem cS_ex1 (hq : q = 7 ∨ q = 10) (hT : tEnd T n) (hM : tMem A T n) (h : cS A q i W C co I) (hi : i < n) {s : Nat} (hs : s < 45) (hk : T.1 i = s) : pRd_expect (nI s) I J ∧ (fRd_expect (nI s) I J).1 = 1 ∧ cS A q (i + 1) W C co (fRd_expect (nI s) I J).2 := by
  have e3 := cS_kind hM h hi
  have z := cS_adv (J := J) hq hT hM h hi (by omega)
  have c : I 13 3 = nI s := by rw [e3, hk]
  unfold pRd_expect fRd_expect pRd_expect_18 fRd_expect_18
  rw [if_pos c]
  exact ⟨⟨fun _ => ⟨z.1, trivial⟩, fun q => absurd c q⟩, rfl, z.2⟩
theorem cS_ex0 (hq : q = 7 ∨ q = 10) (hT : tEnd T n) (hM : tMem A T n) (h : cS A q i W C co I) (hi : i < n) (hW : W.length ≤ 125) (hC : C.length ≤ 4000) {s : Nat} (hs : s < 45) (hk : ¬ T.1 i = s) : pRd_expect (nI s) I J ∧ (fRd_expect (nI s) I J).1 = 0 ∧ cB A q (sp_no T i).1 (sp_no T i).2.1 (fRd_expect (nI s) I J).2 := by
  have e3 := cS_kind hM h hi
  have z := cS_refuse (J := J) hq hT hM h hi hW hC
  have c : ¬ I 13 3 = nI s := by rw [e3]; exact fun q => hk ((nI_eq (by have := hT.2.2.1 i hi; omega) (by omega)).mp q)
  unfold pRd_expect fRd_expect pRd_expect_12 fRd_expect_12
  rw [if_neg c]
  exact ⟨⟨fun q => absurd q c, fun _ => ⟨z.1, trivial⟩⟩, rfl, z.2⟩
theorem cS_deep0 (h : cS A q i W C co I) {d : Nat} (hd : ¬ 40 < d) : pRd_isTooDeep (nI d) I J ∧ fRd_isTooDeep (nI d) I J = (0, I) := by
  have c : nI d ≤ (40 : Int32) := nI_le (a := d) (b := 40) (by omega) (by decide)
  unfold pRd_isTooDeep fRd_isTooDeep pRd_isTooDeep_11 fRd_isTooDeep_11
  rw [if_pos c, if_pos c]
  exact ⟨⟨fun _ => ⟨fun _ => trivial, fun _ => trivial⟩, fun q => absurd c q⟩, rfl⟩
theorem cS_deep1 (hq : q = 7 ∨ q = 10) (h : cS A q i W C co I) (hi : i < 4001) (hW : W.length ≤ 125) (hC : C.length ≤ 4000) {d : Nat} (hd : 40 < d) (hd2 : d < 2 ^ 31) : pRd_isTooDeep (nI d) I J ∧ (fRd_isTooDeep (nI d) I J).1 = 1 ∧ cB A q 4 i (fRd_isTooDeep (nI d) I J).2 := by
  have c : ¬ nI d ≤ (40 : Int32) := nI_ge (a := 40) (b := d) hd hd2
  have z := cS_halt (J := J) hq h hi hW hC (e := 4) (by decide) (by decide)
  unfold pRd_isTooDeep fRd_isTooDeep pRd_isTooDeep_11 fRd_isTooDeep_11
  rw [if_neg c, if_neg c]
  exact ⟨⟨fun q => absurd q c, fun _ => ⟨z.1, fun _ => trivial, fun _ => trivial⟩⟩, rfl, z.2⟩
theorem cS_chg0 (hq : q = 7 ∨ q = 10) (h : cS A q i W C co I) {p : Nat} (hp : co + p ≤ 3000) : pRd_charge (nI p) I J ∧ cS A q i W C (co + p) (fRd_charge (nI p) I J) := by
  obtain ⟨f, h39, h2, h3, h7, h9, hs16, hl, hc⟩ := h
  have ne := q_ne hq
  have c : nI (co + p) ≤ (3000 : Int32) := nI_le (a := co + p) (b := 3000) hp (by decide)
  unfold pRd_charge fRd_charge
  rw [h39, nI_add, if_pos c]
  refine ⟨⟨fun _ => trivial, fun q => absurd c q⟩, fr_u (Or.inr (Or.inl ⟨rfl, rfl⟩)) f, ?_, ?_, ?_, ?_, ?_, ?_, ?_, ?_⟩
  · rw [pm_u_s]
  · rw [pm_u_n _ _ _ (by decide)]; exact h2
  · rw [pm_u_n _ _ _ (by decide)]; exact h3
  · rw [pm_u_n _ _ _ (by decide)]; exact h7
  · rw [pm_u_n _ _ _ (by decide)]; exact h9
  · exact stk_c (by rw [pm_u_n _ _ _ (by decide)]) W hs16
  · rw [pm_u_n _ _ _ ne.2.1]; exact hl
  · exact ⟨cod_c (by rw [pm_u_n _ _ _ ne.2.2.2.2.1]) (by rw [pm_u_n _ _ _ ne.2.2.2.2.2.2.2.1]) hc.1, by rw [pm_u_n _ _ _ (by decide)]; exact hc.2⟩
theorem cS_chg1 (hq : q = 7 ∨ q = 10) (h : cS A q i W C co I) (hi : i < 4001) (hW : W.length ≤ 125) (hC : C.length ≤ 4000) {p : Nat} (hp : ¬ co + p ≤ 3000) (hp2 : co + p < 2 ^ 31) : pRd_charge (nI p) I J ∧ cB A q 4 i (fRd_charge (nI p) I J) := by
  obtain ⟨f, h39, h2, h3, h7, h9, hs16, hl, hc⟩ := h
  have ne := q_ne hq
  have c : ¬ nI (co + p) ≤ (3000 : Int32) := nI_ge (a := 3000) (b := co + p) (by omega) hp2
  have h' : cS A q i W C (co + p) (pm_u I 3 9 (nI (co + p))) := by
    refine ⟨fr_u (Or.inr (Or.inl ⟨rfl, rfl⟩)) f, ?_, ?_, ?_, ?_, ?_, ?_, ?_, ?_⟩
    · rw [pm_u_s]
    · rw [pm_u_n _ _ _ (by decide)]; exact h2
    · rw [pm_u_n _ _ _ (by decide)]; exact h3
    · rw [pm_u_n _ _ _ (by decide)]; exact h7
    · rw [pm_u_n _ _ _ (by decide)]; exact h9
    · exact stk_c (by rw [pm_u_n _ _ _ (by decide)]) W hs16
    · rw [pm_u_n _ _ _ ne.2.1]; exact hl
    · exact ⟨cod_c (by rw [pm_u_n _ _ _ ne.2.2.2.2.1]) (by rw [pm_u_n _ _ _ ne.2.2.2.2.2.2.2.1]) hc.1, by rw [pm_u_n _ _ _ (by decide)]; exact hc.2⟩
  have z := cS_halt (J := J) hq h' hi hW hC (e := 4) (by decide) (by decide)
  unfold pRd_charge fRd_charge
  rw [h39, nI_add, if_neg c]
  exact ⟨⟨fun q => absurd q c, fun _ => ⟨z.1, trivial⟩⟩, z.2⟩
theorem cS_sgn (hM : tMem A T n) (h : cS A q i W C co I) (hi : i < n) (hk : T.1 i < 29) {Q : Mm → Prop} (z : pRd_charge (nI (cst (T.1 i))) I J ∧ Q (fRd_charge (nI (cst (T.1 i))) I J)) : pRd_chargeSign I J ∧ Q (fRd_chargeSign I J) := by
  have e3 := cS_kind hM h hi
  have c0 : ¬ nI (T.1 i) < 0 := nI_pos (by omega)
  have c : ¬ (29 : Int32) ≤ nI (T.1 i) := nI_ge (a := T.1 i) (b := 29) hk (by decide)
  have e : pk_CO.getD (T.1 i) 0 = nI (cst (T.1 i)) := (show ∀ k, k < 29 → pk_CO.getD k 0 = nI (cst k) by decide +kernel) _ hk
  unfold pRd_chargeSign fRd_chargeSign pRd_chargeSign_31 fRd_chargeSign_31
  rw [e3, if_neg c0, if_neg c, nI_clamp (by omega), e]
  exact ⟨⟨fun q => absurd q c0, fun _ => ⟨fun q => absurd q c, fun _ => ⟨vp_in_nI hk (by decide), z.1, trivial⟩⟩⟩, z.2⟩
theorem cS_await (hq : q = 7 ∨ q = 10) (h : cS A q i W C co I) {k : Nat} (hk : k < 29) (hW : W.length < 125) : pRd_await (nI k) I J ∧ cS A q i (k :: W) C co (fRd_await (nI k) I J) := by
  obtain ⟨f, h39, h2, h3, h7, h9, hs16, hl, hc⟩ := h
  have ne := q_ne hq
  have c : ¬ (125 : Int32) ≤ nI W.length := nI_ge (a := W.length) (b := 125) hW (by decide)
  unfold pRd_await fRd_await
  rw [h7, if_neg c, nI_clamp (by omega), nI_1]
  refine ⟨⟨fun q => absurd q c, fun _ => ⟨vp_in_nI hW (by decide), trivial⟩⟩, fr_u (Or.inl ⟨rfl, by omega⟩) (fr_u (Or.inr (Or.inr (Or.inl rfl))) f), ?_, ?_, ?_, ?_, ?_, ?_, ?_, ?_⟩
  · rw [pm_u_n _ _ _ (by decide), pm_u_n _ _ _ (by decide)]; exact h39
  · rw [pm_u_j _ _ _ (by decide), pm_u_n _ _ _ (by decide)]; exact h2
  · rw [pm_u_j _ _ _ (by decide), pm_u_n _ _ _ (by decide)]; exact h3
  · rw [pm_u_s, List.length_cons]
  · rw [pm_u_j _ _ _ (by decide), pm_u_n _ _ _ (by decide)]; exact h9
  · refine ⟨?_, hk, stk_c (I := pm_u I 16 W.length (nI k)) (by rw [pm_u_n _ _ _ (by decide)]) W (stk_p W (Nat.le_refl _) hs16)⟩
    rw [pm_u_n _ _ _ (by decide), pm_u_s]
  · rw [pm_u_n _ _ _ ne.1, pm_u_n _ _ _ ne.2.2.1]; exact hl
  · exact ⟨cod_c (by rw [pm_u_n _ _ _ ne.2.2.2.1, pm_u_n _ _ _ ne.2.2.2.2.2.1]) (by rw [pm_u_n _ _ _ ne.2.2.2.2.2.2.1, pm_u_n _ _ _ ne.2.2.2.2.2.2.2.2]) hc.1, by rw [pm_u_j _ _ _ (by decide), pm_u_n _ _ _ (by decide)]; exact hc.2⟩
end
/-! PARSE 3: the class's reader once a FAULT is met -/
theorem ti_p (y : Int32) (I : Mm) (J : Ml) : pRd_tightness y I J := by
  unfold pRd_tightness pRd_tightness_20
  refine ⟨fun _ => trivial, fun h => ⟨fun _ => trivial, fun h2 => ⟨?_, trivial⟩⟩⟩
  rw [vp_in_iff]
  rw [Int32.lt_iff_toInt_lt] at h
  rw [Int32.le_iff_toInt_le] at h2
  have e0 : (0 : Int32).toInt = 0 := by decide
  have e1 : (29 : Int32).toInt = 29 := by decide
  rw [e0] at h
  rw [e1] at h2
  omega
theorem e9 {e : Nat} (h0 : e ≠ 0) (h9 : e < 9) : ¬ nI e = 0 := nI_ne0 (by omega) (by omega)
section
variable {A : Mm} {q e w : Nat} {I : Mm} {J : Ml}
theorem cB_k (h : cB A q e w I) : I 13 3 = 47 ∨ I 13 3 = 48 := by
  rcases h.2.2.2.2 with h | h
  · exact Or.inr h.2.2.2.2
  · exact Or.inl h.2.2.2.1
theorem cB_ne (h : cB A q e w I) {s : Nat} (hs : s < 47) : ¬ I 13 3 = nI s := by
  rcases cB_k h with k | k <;> rw [k]
  · exact fun q => by have := (nI_eq (a := 47) (b := s) (by decide) (by omega)).mp q; omega
  · exact fun q => by have := (nI_eq (a := 48) (b := s) (by decide) (by omega)).mp q; omega
theorem cB_adv (h : cB A q e w I) : pRd_advance I J ∧ fRd_advance I J = I := by
  unfold pRd_advance fRd_advance
  rcases h.2.2.2.2 with ⟨-, -, -, -, h⟩ | ⟨-, -, -, h, h2, h3⟩
  · rw [if_pos h]; exact ⟨⟨fun _ => trivial, fun q => absurd h q⟩, rfl⟩
  · have c : ¬ I 13 3 = (48 : Int32) := by rw [h]; decide
    have c2 : I 17 5 ≤ I 13 2 + 1 := by rw [h2]; exact h3
    rw [if_neg c, if_pos c2]
    exact ⟨⟨fun q => absurd q c, fun _ => ⟨fun _ => trivial, fun q => absurd c2 q⟩⟩, rfl⟩
theorem cB_halt4 (hq : q = 7 ∨ q = 10) (h : cB A q e w I) : pRd_halt 4 I J ∧ cB A q e w (fRd_halt 4 I J) := by
  have h' := h
  obtain ⟨f, ⟨n2, a2, b2⟩, ⟨n7, a7, b7⟩, ⟨nq, aq, bq⟩, hh⟩ := h'
  have f5 := fr_5 hq f
  have ne := q_ne hq
  unfold pRd_halt fRd_halt
  rcases hh with ⟨h9, h0, he9, -, -⟩ | ⟨he, hw, h9, h3, h2, h5⟩
  · have c : ¬ I 13 9 = 0 := by rw [h9]; exact e9 h0 he9
    rw [if_neg c]
    exact ⟨⟨fun q => absurd q c, fun _ => trivial⟩, h⟩
  · rw [if_pos h9]
    refine ⟨⟨fun _ => ⟨by rw [b2]; exact vp_in_nI a2 (by decide), trivial⟩, fun q => absurd h9 q⟩, fr_u (Or.inl ⟨rfl, by omega⟩) (fr_u (Or.inl ⟨rfl, by omega⟩) (fr_u (Or.inl ⟨rfl, by omega⟩) f)), ⟨n2, a2, ?_⟩, ⟨n7, a7, ?_⟩, ⟨nq, aq, ?_⟩, Or.inl ⟨?_, by omega, by omega, ?_, ?_⟩⟩
    · rw [pm_u_j _ _ _ (by decide), pm_u_j _ _ _ (by decide), pm_u_j _ _ _ (by decide)]; exact b2
    · rw [pm_u_j _ _ _ (by decide), pm_u_j _ _ _ (by decide), pm_u_j _ _ _ (by decide)]; exact b7
    · rw [pm_u_n _ _ _ ne.1, pm_u_n _ _ _ ne.1, pm_u_n _ _ _ ne.1]; exact bq
    · rw [pm_u_j _ _ _ (by decide), pm_u_j _ _ _ (by decide), pm_u_s, he]; rfl
    · rw [pm_u_j _ _ _ (by decide), pm_u_s, pm_u_n _ _ _ (by decide), f5.2.2.1, h2, nI_clamp (by omega)]
    · rw [pm_u_s]
theorem cB_refuse (hq : q = 7 ∨ q = 10) (h : cB A q e w I) : pRd_refuse I J ∧ cB A q e w (fRd_refuse I J) := by
  have z := cB_halt4 (J := J) hq h
  unfold pRd_refuse fRd_refuse pRd_refuse_15 fRd_refuse_15
  rcases h.2.2.2.2 with ⟨h9, h0, he9, -, k⟩ | ⟨he, hw, h9, k, h2, h5⟩
  · have c : ¬ I 13 3 = (47 : Int32) := by rw [k]; decide
    have c9 : ¬ I 13 9 = 0 := by rw [h9]; exact e9 h0 he9
    rw [if_neg c]
    unfold pRd_halt fRd_halt
    rw [if_neg c9]
    exact ⟨⟨fun q => absurd q c, fun _ => ⟨⟨fun q => absurd q c9, fun _ => trivial⟩, trivial⟩⟩, h⟩
  · rw [if_pos k]
    exact ⟨⟨fun _ => ⟨z.1, trivial⟩, fun q => absurd k q⟩, z.2⟩
theorem cB_ex (hq : q = 7 ∨ q = 10) (h : cB A q e w I) {s : Nat} (hs : s < 47) : pRd_expect (nI s) I J ∧ (fRd_expect (nI s) I J).1 = 0 ∧ cB A q e w (fRd_expect (nI s) I J).2 := by
  have c := cB_ne h hs
  have z := cB_refuse (J := J) hq h
  unfold pRd_expect fRd_expect pRd_expect_12 fRd_expect_12
  rw [if_neg c]
  exact ⟨⟨fun q => absurd q c, fun _ => ⟨z.1, trivial⟩⟩, rfl, z.2⟩
theorem cB_deep (hq : q = 7 ∨ q = 10) (h : cB A q e w I) (y : Int32) : pRd_isTooDeep y I J ∧ cB A q e w (fRd_isTooDeep y I J).2 := by
  have z := cB_halt4 (J := J) hq h
  unfold pRd_isTooDeep fRd_isTooDeep pRd_isTooDeep_11 fRd_isTooDeep_11
  by_cases c : y ≤ (40 : Int32)
  · rw [if_pos c, if_pos c]
    exact ⟨⟨fun _ => ⟨fun _ => trivial, fun _ => trivial⟩, fun q => absurd c q⟩, h⟩
  · rw [if_neg c, if_neg c]
    exact ⟨⟨fun q => absurd q c, fun _ => ⟨z.1, fun _ => trivial, fun _ => trivial⟩⟩, z.2⟩
theorem cB_u (h : cB A q e w I) {a j : Nat} {v : Int32} (ha : rwOk q a j) (n13 : a ≠ 13) (n17 : a ≠ 17) (nq : a ≠ q) : cB A q e w (pm_u I a j v) := by
  obtain ⟨f, ⟨n2, a2, b2⟩, ⟨n7, a7, b7⟩, ⟨n1, aq, bq⟩, hh⟩ := h
  have e13 : pm_u I a j v 13 = I 13 := pm_u_n _ _ _ (fun q => n13 q.symm)
  have e17 : pm_u I a j v 17 = I 17 := pm_u_n _ _ _ (fun q => n17 q.symm)
  have eq : pm_u I a j v q = I q := pm_u_n _ _ _ (fun q => nq q.symm)
  refine ⟨fr_u ha f, ⟨n2, a2, by rw [e13]; exact b2⟩, ⟨n7, a7, by rw [e13]; exact b7⟩, ⟨n1, aq, by rw [eq]; exact bq⟩, ?_⟩
  rw [e13, e17]; exact hh
theorem cB_chg (hq : q = 7 ∨ q = 10) (h : cB A q e w I) (y : Int32) : pRd_charge y I J ∧ cB A q e w (fRd_charge y I J) := by
  have ne := q_ne hq
  have h' := cB_u (v := I 3 9 + y) h (Or.inr (Or.inl ⟨rfl, rfl⟩)) (by decide) (by decide) (fun q => ne.2.1 q.symm)
  have z := cB_halt4 (J := J) hq h'
  unfold pRd_charge fRd_charge
  by_cases c : I 3 9 + y ≤ (3000 : Int32)
  · rw [if_pos c]; exact ⟨⟨fun _ => trivial, fun q => absurd c q⟩, h'⟩
  · rw [if_neg c]; exact ⟨⟨fun q => absurd q c, fun _ => ⟨z.1, trivial⟩⟩, z.2⟩
theorem cB_sgn (hq : q = 7 ∨ q = 10) (h : cB A q e w I) : pRd_chargeSign I J ∧ cB A q e w (fRd_chargeSign I J) := by
  have z := cB_chg (J := J) hq h 0
  have c0 : ¬ I 13 3 < 0 := by rcases cB_k h with k | k <;> rw [k] <;> decide
  have c : (29 : Int32) ≤ I 13 3 := by rcases cB_k h with k | k <;> rw [k] <;> decide
  unfold pRd_chargeSign fRd_chargeSign pRd_chargeSign_30 fRd_chargeSign_30 pRd_chargeSign_31 fRd_chargeSign_31
  rw [if_neg c0, if_pos c]
  exact ⟨⟨fun q => absurd q c0, fun _ => ⟨fun _ => ⟨z.1, trivial⟩, fun q => absurd c q⟩⟩, z.2⟩
theorem cB_await (hq : q = 7 ∨ q = 10) (h : cB A q e w I) (y : Int32) : pRd_await y I J ∧ cB A q e w (fRd_await y I J) := by
  have ne := q_ne hq
  have h' := h
  obtain ⟨f, ⟨n2, a2, b2⟩, ⟨n7, a7, b7⟩, ⟨n1, aq, bq⟩, hh⟩ := h'
  unfold pRd_await fRd_await
  by_cases c : (125 : Int32) ≤ I 13 7
  · rw [if_pos c]; exact ⟨⟨fun _ => trivial, fun q => absurd c q⟩, h⟩
  · rw [if_neg c]
    have hn : n7 < 125 := by
      rw [b7] at c
      rcases Nat.lt_or_ge n7 125 with h9 | h9
      · exact h9
      · exact absurd (nI_le (a := 125) (b := n7) h9 (by omega)) c
    refine ⟨⟨fun q => absurd q c, fun _ => ⟨by rw [b7]; exact vp_in_nI hn (by decide), trivial⟩⟩, fr_u (Or.inl ⟨rfl, by omega⟩) (fr_u (Or.inr (Or.inr (Or.inl rfl))) f), ⟨n2, a2, ?_⟩, ⟨n7 + 1, by omega, ?_⟩, ⟨n1, aq, ?_⟩, ?_⟩
    · rw [pm_u_j _ _ _ (by decide), pm_u_n _ _ _ (by decide)]; exact b2
    · rw [pm_u_s, b7, nI_1]
    · rw [pm_u_n _ _ _ ne.1, pm_u_n _ _ _ ne.2.2.1]; exact bq
    · rw [pm_u_j _ _ _ (by decide), pm_u_n _ _ _ (by decide), pm_u_j _ _ _ (by decide), pm_u_n _ _ _ (by decide), pm_u_j _ _ _ (by decide), pm_u_n _ _ _ (by decide), pm_u_j _ _ _ (by decide), pm_u_n _ _ _ (by decide), pm_u_n _ _ _ (by decide), pm_u_n _ _ _ (by decide)]
      exact hh
end
