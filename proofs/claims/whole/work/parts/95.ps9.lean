/-! PARSE 9: the class reads lines as the grammar's function says -/
def bE (B : TB) (n : Nat) : Prop := 0 < n ∧ n ≤ 4001 ∧ (∀ i, i < n → B.1 i < 48) ∧ (∀ i, i + 1 < n → B.1 i < 45) ∧ 45 ≤ B.1 (n - 1)
theorem bE_T {B : TB} {n : Nat} (h : bE B n) (Nm : NmT) : tEnd (tT B Nm) n := h
/-- the tokens lie in memory A; words are compared as sm says -/
def bMem (A : Mm) (B : TB) (n : Nat) : Prop := A 17 5 = nI n ∧ (∀ i, i < n → A 18 i = nI (B.1 i)) ∧ (∀ i, i < n → B.1 i = 44 → A 21 i = nI (B.2.1 i) ∧ B.2.1 i < 2 ^ 30) ∧ (∀ (I : Mm) (J : Ml) (a b : Nat), a < n → b < n → B.1 a = 43 → B.1 b = 43 → I 19 = A 19 → I 20 = A 20 → I 2 = A 2 → pTk_areSame 40 (nI a) (nI b) I J ∧ fTk_areSame 40 (nI a) (nI b) I J = if B.2.2 a b = true then 1 else 0)
theorem bMem_T {A I : Mm} {B : TB} {n : Nat} (h : bMem A B n) (h17 : I 17 = A 17) (h18 : I 18 = A 18) (h21 : I 21 = A 21) (Nm : NmT) : tMem I (tT B Nm) n := ⟨by rw [h17]; exact h.1, fun i hi => by rw [h18]; exact h.2.1 i hi, fun i hi hk => by rw [h21]; exact h.2.2.1 i hi hk, rfl⟩
def nmI (I : Mm) (Nm : NmT) : Prop := ∀ k x, Nm[k]? = some x → I 14 k = nI x.1 ∧ I 4 k = nI x.2.1 ∧ I 5 k = nI x.2.2.1 ∧ I 6 k = nI x.2.2.2
def hnI (I : Mm) (Hn : List Nat) : Prop := ∀ k, k < 60 → I 15 k = if k ∈ Hn then 1 else 0
def nmOk (B : TB) (n : Nat) (Nm : NmT) : Prop := Nm.length ≤ 60 ∧ ∀ (k : Nat) (x : Nat × Nat × Nat × Nat), Nm[k]? = some x → x.1 < n ∧ B.1 x.1 = 43 ∧ x.2.1 < 50
theorem fnd_lt {sm : Nat → Nat → Bool} : ∀ (l : NmT) (k i r : Nat), fnd sm l k i = some r → k ≤ r ∧ r < k + l.length
  | [], _, _, _, h => by cases h
  | x :: l, k, i, r, h => by
    unfold fnd at h
    by_cases hs : sm x.1 i = true
    · rw [if_pos hs] at h; cases h; simp only [List.length_cons]; omega
    · rw [if_neg hs] at h
      have := fnd_lt l (k + 1) i r h
      simp only [List.length_cons]; omega
theorem fnd_c {A I : Mm} {J : Ml} {B : TB} {n i : Nat} (hM : bMem A B n) (hi : i < n) (hk : B.1 i = 43) (h2 : I 13 2 = nI i) (h19 : I 19 = A 19) (h20 : I 20 = A 20) (hb : I 2 = A 2) : ∀ (l : NmT) (k m : Nat), (∀ j x, l[j]? = some x → I 14 (k + j) = nI x.1 ∧ x.1 < n ∧ B.1 x.1 = 43) → I 3 5 = nI (k + l.length) → k + l.length ≤ 60 → l.length < m → pRd_findName_2 m (nI k) I J ∧ fRd_findName_2 m (nI k) I J = (match fnd B.2.2 l k i with | some r => nI r | none => -1)
  | [], k, m, _, h35, hl, hm => by
    obtain ⟨m, rfl⟩ : ∃ m', m = m' + 1 := ⟨m - 1, by simp only [List.length_nil] at hm; omega⟩
    simp only [List.length_nil, Nat.add_zero] at h35 hl
    have c : I 3 5 ≤ nI k := by rw [h35]; exact nI_le (Nat.le_refl _) (by omega)
    rw [pRd_findName_2.eq_2, fRd_findName_2.eq_2, if_pos c]
    exact ⟨⟨fun _ => trivial, fun q => absurd c q⟩, rfl⟩
  | x :: l, k, m, hx, h35, hl, hm => by
    obtain ⟨m, rfl⟩ : ∃ m', m = m' + 1 := ⟨m - 1, by simp only [List.length_cons] at hm; omega⟩
    simp only [List.length_cons] at h35 hl hm
    have c : ¬ I 3 5 ≤ nI k := by rw [h35]; exact nI_ge (by omega) (by omega)
    have x0 := hx 0 x rfl
    rw [Nat.add_zero] at x0
    have sm := hM.2.2.2 I J x.1 i x0.2.1 hi x0.2.2 hk h19 h20 hb
    rw [pRd_findName_2.eq_2, fRd_findName_2.eq_2, if_neg c, nI_clamp (by omega), x0.1, h2, sm.2]
    have v : vp_in (nI k) 60 := vp_in_nI (by omega) (by decide)
    unfold fnd
    by_cases hs : B.2.2 x.1 i = true
    · rw [if_pos hs, if_pos hs, if_neg (by decide)]
      exact ⟨⟨fun q => absurd q c, fun _ => ⟨v, sm.1, fun q => absurd q (by decide), fun _ => trivial⟩⟩, rfl⟩
    · rw [if_neg hs, if_neg hs, if_pos rfl, nI_i1]
      have ih := fnd_c (J := J) hM hi hk h2 h19 h20 hb l (k + 1) m (fun j y hy => by
        have := hx (j + 1) y hy
        rw [show k + 1 + j = k + (j + 1) by omega]; exact this) (by rw [h35]; congr 1; omega) (by omega) (by omega)
      exact ⟨⟨fun q => absurd q c, fun _ => ⟨v, sm.1, fun _ => ih.1, fun q => absurd rfl q⟩⟩, ih.2⟩
theorem getD_some {Nm : NmT} {k : Nat} {x : Nat × Nat × Nat × Nat} (h : Nm[k]? = some x) : Nm.getD k (0, 0, 0, 0) = x := by rw [List.getD_eq_getElem?_getD, h]; rfl
theorem fMem_of {A I0 : Mm} {B : TB} {n : Nat} {Nm : NmT} (hM : bMem A B n) (hok : nmOk B n Nm) (hN : nmI I0 Nm) (h35 : I0 3 5 = nI Nm.length) (h19 : I0 19 = A 19) (h20 : I0 20 = A 20) (hb : I0 2 = A 2) : fMem I0 (tT B Nm) n := by
  intro I J i hi hk e35 e14 e2 e19 e20 eb
  have f := fnd_c (J := J) hM hi hk e2 (e19.trans h19) (e20.trans h20) (eb.trans hb) Nm 0 61 (fun j x hj => by
    have a := hN j x hj
    have b := hok.2 j x hj
    rw [Nat.zero_add, e14]; exact ⟨a.1, b.1, b.2.1⟩) (by rw [Nat.zero_add, e35]; exact h35) (by rw [Nat.zero_add]; exact hok.1) (by have := hok.1; omega)
  rw [nI_0] at f
  refine ⟨f.1, fun k hf => ?_, fun hf => ?_⟩
  · have hl := fnd_lt Nm 0 i k hf
    have hf' : fnd B.2.2 Nm 0 i = some k := hf
    have f2 := f.2
    rw [hf'] at f2
    obtain ⟨x, hx⟩ : ∃ x, Nm[k]? = some x := ⟨_, List.getElem?_eq_getElem (by omega)⟩
    have a := hN k x hx
    have b := hok.2 k x hx
    have g := getD_some hx
    have hl6 := hok.1
    show fRd_findName 61 I J = nI k ∧ k < 60 ∧ I0 4 k = nI (Nm.getD k (0, 0, 0, 0)).2.1 ∧ (Nm.getD k (0, 0, 0, 0)).2.1 < 50 ∧ I0 6 k = nI (Nm.getD k (0, 0, 0, 0)).2.2.2
    rw [g]
    exact ⟨f2, by omega, a.2.1, b.2.2, a.2.2.2⟩
  · have hf' : fnd B.2.2 Nm 0 i = none := hf
    have f2 := f.2
    rw [hf'] at f2
    exact f2
/-! after a FAULT, to the line's end -/
def cH (A : Mm) (e w : Nat) (I : Mm) : Prop := I 13 9 = nI e ∧ e ≠ 0 ∧ e < 9 ∧ I 13 10 = A 19 w ∧ I 13 3 = 48 ∧ ∀ a, (a < 3 ∨ 16 < a) → I a = A a
theorem fr_r {A I : Mm} {q : Nat} (hq : q = 7 ∨ q = 10) (f : fr A q I) : ∀ a, (a < 3 ∨ 16 < a) → I a = A a := fun a ha => funext fun j => f a j (by unfold rwOk; omega)
section
variable {A : Mm} {q e w : Nat} {I : Mm} {J : Ml}
theorem cB_refH (hq : q = 7 ∨ q = 10) (h : cB A q e w I) : pRd_refuse I J ∧ cH A e w (fRd_refuse I J) := by
  have z := cB_refuse (J := J) hq h
  refine ⟨z.1, ?_⟩
  have fr := fr_r hq z.2.1
  rcases z.2.2.2.2.2 with ⟨h9, h0, he9, h10, k⟩ | ⟨he, hw, h9, k, h2, h5⟩
  · exact ⟨h9, h0, he9, h10, k, fr⟩
  · exfalso
    unfold fRd_refuse fRd_refuse_15 fRd_halt at h9
    rcases h.2.2.2.2 with ⟨g9, g0, ge9, -, gk⟩ | ⟨-, -, g9, gk, -, -⟩
    · rw [if_neg (by rw [gk]; decide), if_neg (by rw [g9]; exact e9 g0 ge9), g9] at h9
      exact e9 g0 ge9 h9
    · rw [if_pos gk, if_pos g9, pm_u_j _ _ _ (by decide), pm_u_j _ _ _ (by decide), pm_u_s] at h9
      exact absurd h9 (by decide)
theorem cB_exH (hq : q = 7 ∨ q = 10) (h : cB A q e w I) {s : Nat} (hs : s < 47) : pRd_expect (nI s) I J ∧ (fRd_expect (nI s) I J).1 = 0 ∧ cH A e w (fRd_expect (nI s) I J).2 := by
  have c := cB_ne h hs
  have z := cB_refH (J := J) hq h
  unfold pRd_expect fRd_expect pRd_expect_12 fRd_expect_12
  rw [if_neg c]
  exact ⟨⟨fun q => absurd q c, fun _ => ⟨z.1, trivial⟩⟩, rfl, z.2⟩
theorem cB_num (hq : q = 7 ∨ q = 10) (h : cB A q e w I) (y z : Int32) : pRd_readNumber y z I J ∧ cB A q e w (fRd_readNumber y z I J).2 := by
  have c : ¬ I 13 3 = (44 : Int32) := cB_ne h (s := 44) (by decide)
  have r := cB_refuse (J := J) hq h
  unfold pRd_readNumber fRd_readNumber pRd_readNumber_13 fRd_readNumber_13
  rw [if_neg c]
  exact ⟨⟨fun q => absurd q c, fun _ => ⟨r.1, trivial⟩⟩, r.2⟩
theorem cB_new (hq : q = 7 ∨ q = 10) (h : cB A q e w I) : pRd_readNewName I J ∧ cB A q e w (fRd_readNewName I J) := by
  have a := cB_adv (J := J) h
  have c := cB_ne h (s := 43) (by decide)
  have r := cB_refuse (J := J) hq h
  unfold pRd_readNewName fRd_readNewName
  rw [a.2]
  refine sq a.1 ?_
  unfold pRd_readNewName_4 fRd_readNewName_4 pRd_readNewName_25 fRd_readNewName_25
  exact itn c (sq r.1 ⟨trivial, r.2⟩)
theorem cB_rwn (hq : q = 7 ∨ q = 10) (h : cB A q e w I) : pRd_readRegWithoutNext I J ∧ cB A q e w (fRd_readRegWithoutNext I J).2 := by
  have c : ¬ I 13 3 = (43 : Int32) := cB_ne h (s := 43) (by decide)
  have r := cB_refuse (J := J) hq h
  unfold pRd_readRegWithoutNext fRd_readRegWithoutNext pRd_readRegWithoutNext_13 fRd_readRegWithoutNext_13
  rw [if_neg c]
  exact ⟨⟨fun q => absurd q c, fun _ => ⟨r.1, trivial⟩⟩, r.2⟩
theorem tReg42 (h : cB A 7 e w I) (y z : Int32) : pRd_readReg_42 y z I J ∧ cH A e w (fRd_readReg_42 y z I J) := by
  have x := cB_exH (J := J) (Or.inl rfl) h (s := 0) (by decide)
  unfold pRd_readReg_42 fRd_readReg_42
  refine sq x.1 ?_
  unfold pRd_readReg_48 fRd_readReg_48
  exact itp x.2.1 ⟨trivial, x.2.2⟩
theorem tReg31 (h : cB A 7 e w I) (y z : Int32) : pRd_readReg_31 y z I J ∧ cH A e w (fRd_readReg_31 y z I J) := by
  have x := cB_num (J := J) (Or.inl rfl) h 0 (((1 : Int32) <<< (y &&& 31)) - 1)
  unfold pRd_readReg_31 fRd_readReg_31
  exact sq x.1 (tReg42 x.2 _ _)
theorem tReg25 (h : cB A 7 e w I) (z : Int32) : pRd_readReg_25 z I J ∧ cH A e w (fRd_readReg_25 z I J) := by
  have x := cB_ex (J := J) (Or.inl rfl) h (s := 2) (by decide)
  unfold pRd_readReg_25 fRd_readReg_25
  exact sq x.1 (tReg31 x.2.2 _ _)
theorem tReg9 (h : cB A 7 e w I) (z : Int32) : pRd_readReg_9 z I J ∧ cH A e w (fRd_readReg_9 z I J) := by
  have x := cB_num (J := J) (Or.inl rfl) h 1 (8 - I 3 7)
  unfold pRd_readReg_9 fRd_readReg_9
  exact sq x.1 (tReg25 x.2 _)
theorem tReg4 (h : cB A 7 e w I) : pRd_readReg_4 I J ∧ cH A e w (fRd_readReg_4 I J) := by
  have x := cB_ex (J := J) (Or.inl rfl) h (s := 1) (by decide)
  unfold pRd_readReg_4 fRd_readReg_4
  exact sq x.1 (tReg9 x.2.2 _)
theorem tInp24 (h : cB A 7 e w I) (z : Int32) : pRd_readInput_24 z I J ∧ cH A e w (fRd_readInput_24 z I J) := by
  have x := cB_exH (J := J) (Or.inl rfl) h (s := 0) (by decide)
  unfold pRd_readInput_24 fRd_readInput_24
  refine sq x.1 ?_
  unfold pRd_readInput_30 fRd_readInput_30
  exact itp x.2.1 ⟨trivial, x.2.2⟩
theorem tInp9 (h : cB A 7 e w I) (z : Int32) : pRd_readInput_9 z I J ∧ cH A e w (fRd_readInput_9 z I J) := by
  have x := cB_num (J := J) (Or.inl rfl) h 1 (3 - I 3 8)
  unfold pRd_readInput_9 fRd_readInput_9
  exact sq x.1 (tInp24 x.2 _)
theorem tInp4 (h : cB A 7 e w I) : pRd_readInput_4 I J ∧ cH A e w (fRd_readInput_4 I J) := by
  have x := cB_ex (J := J) (Or.inl rfl) h (s := 1) (by decide)
  unfold pRd_readInput_4 fRd_readInput_4
  exact sq x.1 (tInp9 x.2.2 _)
theorem tWir26 (h : cB A 7 e w I) (c : Value) : pRd_readWire_26 I J c ∧ cH A e w (fRd_readWire_26 I J c).1 := by
  have x := cB_exH (J := J) (Or.inl rfl) h (s := 0) (by decide)
  unfold pRd_readWire_26 fRd_readWire_26
  refine sq x.1 ?_
  have x2 : (fRd_expect (0 : Int32) I J).1 = 0 := x.2.1
  unfold pRd_readWire_31 fRd_readWire_31
  rw [x2, if_pos rfl]
  exact ⟨⟨fun _ => trivial, fun q => absurd rfl q⟩, x.2.2⟩
theorem tX_L (h : cB A 7 e w I) : pge_L_Rd_readExpression 0 I J ∧ cB A 7 e w (fge_L_Rd_readExpression 0 I J) := cB_X_L (J := J) 197 0 h
theorem tX_F (h : cB A 10 e w I) : pgf_F_Rd_readFormula 0 I J ∧ cB A 10 e w (fgf_F_Rd_readFormula 0 I J) := cBf_F (J := J) 256 0 h
theorem tWir9 (h : cB A 7 e w I) (z : Int32) (c : Value) : pRd_readWire_9 z I J c ∧ cH A e w (fRd_readWire_9 z I J c).1 := by
  have x := tX_L (J := J) h
  unfold pRd_readWire_9 fRd_readWire_9
  exact sq x.1 (tWir26 x.2 _)
theorem tWir4 (h : cB A 7 e w I) (c : Value) : pRd_readWire_4 I J c ∧ cH A e w (fRd_readWire_4 I J c).1 := by
  have x := cB_ex (J := J) (Or.inl rfl) h (s := 2) (by decide)
  unfold pRd_readWire_4 fRd_readWire_4
  exact sq x.1 (tWir9 x.2.2 _ _)
theorem tNex37 (h : cB A 7 e w I) (y : Int32) (c : Value) : pRd_readNext_37 y I J c ∧ cH A e w (fRd_readNext_37 y I J c).1 := by
  have x := cB_exH (J := J) (Or.inl rfl) h (s := 0) (by decide)
  unfold pRd_readNext_37 fRd_readNext_37
  refine sq x.1 ?_
  have x2 : (fRd_expect (0 : Int32) I J).1 = 0 := x.2.1
  unfold pRd_readNext_42 fRd_readNext_42
  rw [x2, if_pos rfl]
  exact ⟨⟨fun _ => trivial, fun q => absurd rfl q⟩, x.2.2⟩
theorem tNex20 (h : cB A 7 e w I) (y z : Int32) (c : Value) : pRd_readNext_20 y z I J c ∧ cH A e w (fRd_readNext_20 y z I J c).1 := by
  have x := tX_L (J := J) h
  unfold pRd_readNext_20 fRd_readNext_20
  exact sq x.1 (tNex37 x.2 _ _)
theorem tNex14 (h : cB A 7 e w I) (z : Int32) (c : Value) : pRd_readNext_14 z I J c ∧ cH A e w (fRd_readNext_14 z I J c).1 := by
  have x := cB_ex (J := J) (Or.inl rfl) h (s := 2) (by decide)
  unfold pRd_readNext_14 fRd_readNext_14
  exact sq x.1 (tNex20 x.2.2 _ _ _)
theorem tNex6 (h : cB A 7 e w I) (c : Value) : pRd_readNext_6 I J c ∧ cH A e w (fRd_readNext_6 I J c).1 := by
  have a := cB_adv (J := J) h
  have x := cB_rwn (J := J) (Or.inl rfl) h
  unfold pRd_readNext_6 fRd_readNext_6
  rw [a.2]
  refine sq a.1 ?_
  unfold pRd_readNext_10 fRd_readNext_10
  exact sq x.1 (tNex14 x.2 _ _)
theorem tSpe43 (h : cB A 10 e w I) (c : Value) : pRd_readSpec_43 I J c ∧ cH A e w (fRd_readSpec_43 I J c).1 := by
  have x := cB_exH (J := J) (Or.inr rfl) h (s := 0) (by decide)
  unfold pRd_readSpec_43 fRd_readSpec_43
  refine sq x.1 ?_
  have x2 : (fRd_expect (0 : Int32) I J).1 = 0 := x.2.1
  unfold pRd_readSpec_48 fRd_readSpec_48
  rw [x2, if_pos rfl]
  exact ⟨⟨fun _ => trivial, fun q => absurd rfl q⟩, x.2.2⟩
theorem tSpe26 (h : cB A 10 e w I) (z : Int32) (c : Value) : pRd_readSpec_26 z I J c ∧ cH A e w (fRd_readSpec_26 z I J c).1 := by
  have x := tX_F (J := J) h
  unfold pRd_readSpec_26 fRd_readSpec_26
  exact sq x.1 (tSpe43 x.2 _)
theorem tSpe21 (h : cB A 10 e w I) (c : Value) : pRd_readSpec_21 I J c ∧ cH A e w (fRd_readSpec_21 I J c).1 := by
  have x := cB_ex (J := J) (Or.inr rfl) h (s := 2) (by decide)
  unfold pRd_readSpec_21 fRd_readSpec_21
  exact sq x.1 (tSpe26 x.2.2 _ _)
theorem tSpe17 (h : cB A 10 e w I) (c : Value) : pRd_readSpec_17 I J c ∧ cH A e w (fRd_readSpec_17 I J c).1 := by
  have x := cB_new (J := J) (Or.inr rfl) h
  unfold pRd_readSpec_17 fRd_readSpec_17
  exact sq x.1 (tSpe21 x.2 _)
end
