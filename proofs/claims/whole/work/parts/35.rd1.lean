theorem pm_getsN {g : pmG} {k : pmK} {d rc rs pc idx : Nat} {L : List (Nat × Value)} {S : List Value} {K : List (Nat × Nat)} {R : Nat → Nat → Value} {I : Nat → Nat → Int32} {J : Nat → Nat → Int64} {o : Outcome} {Z : pmM} {C n ds host : String} {w : Value} (h : decode k.2.1 pc = .ok (.getstatic idx, 3)) (hl : Cond.fieldLinkNest k.1.cls idx C n ds host ∈ pm_NS) (hm : (C, n, ds, w) ∈ pm_ST) (nx : pmE g k d rc rs (pc + 3) L (w :: S) K R I J o Z) : pmE g k d rc rs pc L S K R I J o Z := by
  intro p e Rm s m args below meth c H locs cells slots mc ms ls hC h1 h2 h3 h4 hlv hA
  obtain ⟨hx, hb, -, -, -, -, hown, hts, ⟨-, hN, hX⟩, -⟩ := id hC
  exact va_getsN hx hb (hX.1 _ hm) hA.2 hown (va_Nw.use rfl (hN _ hl)) (fun _ q => q) h (nx p e Rm s m args below meth c H locs cells slots mc ms ls hC h1 h2 h3 h4 hlv hA)
abbrev pk_TI : List Int32 := [0, 0, 0, 0, 0, 0, 0, 0, 0, 0, 7, 7, 9, 9, 10, 5, 3, 4, 0, 0, 6, 6, 7, 7, 8, 8, 2, 1, 0]
abbrev pk_CO : List Int32 := [0, 0, 0, 40, 0, 0, 0, 0, 8, 0, 96, 96, 96, 96, 900, 24, 24, 24, 0, 24, 32, 32, 96, 96, 128, 128, 24, 24, 0]
theorem xa_1 : (FieldType.int, 1, 29, pk_TI) ∈ pm_AR := List.mem_of_getElem? (i := 0) rfl
theorem xa_2 : (FieldType.int, 2, 29, pk_CO) ∈ pm_AR := List.mem_of_getElem? (i := 1) rfl
theorem xs_1 : ("CircuitChecker", "TIGHTNESS", "[I", Value.retAddr 1) ∈ pm_ST := List.mem_of_getElem? (i := 0) rfl
theorem xs_2 : ("CircuitChecker", "COST", "[I", Value.retAddr 2) ∈ pm_ST := List.mem_of_getElem? (i := 1) rfl
theorem gRd_190 : Cond.fieldLinkNest "CircuitChecker$TextReader" 190 "CircuitChecker" "TIGHTNESS" "[I" "CircuitChecker" ∈ pm_NS := pm_inN 884 (by decide +kernel) rfl
theorem gRd_217 : Cond.fieldLinkNest "CircuitChecker$TextReader" 217 "CircuitChecker" "COST" "[I" "CircuitChecker" ∈ pm_NS := pm_inN 867 (by decide +kernel) rfl
def fTk_isLetter_24  (y0 : Int32) : Int32 :=
  (1 : Int32)
def pTk_isLetter_24  (y0 : Int32) : Prop :=
  True
def fTk_isLetter_28  (y0 : Int32) : Int32 :=
  (0 : Int32)
def pTk_isLetter_28  (y0 : Int32) : Prop :=
  True
def fTk_isLetter_12  (y0 : Int32) : Int32 :=
  if y0 < (65 : Int32) then fTk_isLetter_28 y0
  else if (90 : Int32) < y0 then fTk_isLetter_28 y0
    else fTk_isLetter_24 y0
def pTk_isLetter_12  (y0 : Int32) : Prop :=
  (y0 < (65 : Int32) → pTk_isLetter_28 y0) ∧
  (¬ (y0 < (65 : Int32)) → ((90 : Int32) < y0 → pTk_isLetter_28 y0) ∧
    (¬ ((90 : Int32) < y0) → pTk_isLetter_24 y0))
def fTk_isLetter  (y0 : Int32) : Int32 :=
  if y0 < (97 : Int32) then fTk_isLetter_12 y0
  else if y0 ≤ (122 : Int32) then fTk_isLetter_24 y0
    else fTk_isLetter_12 y0
def pTk_isLetter  (y0 : Int32) : Prop :=
  (y0 < (97 : Int32) → pTk_isLetter_12 y0) ∧
  (¬ (y0 < (97 : Int32)) → (y0 ≤ (122 : Int32) → pTk_isLetter_24 y0) ∧
    (¬ (y0 ≤ (122 : Int32)) → pTk_isLetter_12 y0))
set_option maxHeartbeats 4000000 in
set_option maxRecDepth 100000 in
theorem Tk_isLetter_n24 (g : pmG) (d : Nat) (K : List (Nat × Nat)) (R : Nat → Nat → Value) (I : Nat → Nat → Int32) (J : Nat → Nat → Int64) (o : Outcome) (Z : pmM)  (y0 : Int32) (hp : pTk_isLetter_24 y0) (ho : o = .returned (some (.int (fTk_isLetter_24 y0)))) (hz : Z = (K, R, I, J)) : pmE g kTk_isLetter d 0 0 24 [(0, .int y0)] [] (K) R I J o Z := by
  unfold pTk_isLetter_24 at hp
  refine pm_iconst (v := 1) dTk_isLetter_24 (by decide) ?_
  refine pm_goto 29 dTk_isLetter_25 (by decide) ?_
  exact pm_zret dTk_isLetter_29 rfl (by first | rfl | decide) (ho.trans (by first | rfl | (simp only [fTk_isLetter_24]; done) | (simp only [fTk_isLetter_24]; rfl))) (hz.trans (by first | rfl | (simp only [fTk_isLetter_24]; done) | (simp only [fTk_isLetter_24]; rfl)))
set_option maxHeartbeats 4000000 in
set_option maxRecDepth 100000 in
theorem Tk_isLetter_n28 (g : pmG) (d : Nat) (K : List (Nat × Nat)) (R : Nat → Nat → Value) (I : Nat → Nat → Int32) (J : Nat → Nat → Int64) (o : Outcome) (Z : pmM)  (y0 : Int32) (hp : pTk_isLetter_28 y0) (ho : o = .returned (some (.int (fTk_isLetter_28 y0)))) (hz : Z = (K, R, I, J)) : pmE g kTk_isLetter d 0 0 28 [(0, .int y0)] [] (K) R I J o Z := by
  unfold pTk_isLetter_28 at hp
  refine pm_iconst (v := 0) dTk_isLetter_28 (by decide) ?_
  exact pm_zret dTk_isLetter_29 rfl (by first | rfl | decide) (ho.trans (by first | rfl | (simp only [fTk_isLetter_28]; done) | (simp only [fTk_isLetter_28]; rfl))) (hz.trans (by first | rfl | (simp only [fTk_isLetter_28]; done) | (simp only [fTk_isLetter_28]; rfl)))
set_option maxHeartbeats 4000000 in
set_option maxRecDepth 100000 in
theorem Tk_isLetter_n12 (g : pmG) (d : Nat) (K : List (Nat × Nat)) (R : Nat → Nat → Value) (I : Nat → Nat → Int32) (J : Nat → Nat → Int64) (o : Outcome) (Z : pmM)  (y0 : Int32) (hp : pTk_isLetter_12 y0) (ho : o = .returned (some (.int (fTk_isLetter_12 y0)))) (hz : Z = (K, R, I, J)) : pmE g kTk_isLetter d 0 0 12 [(0, .int y0)] [] (K) R I J o Z := by
  unfold pTk_isLetter_12 at hp
  refine pm_iload_n dTk_isLetter_12 rfl ?_
  refine pm_bipush (v := 65) dTk_isLetter_13 (by decide) ?_
  refine pm_icmp_lt 28 dTk_isLetter_15 (by decide) (fun h15 => ?_) (fun h15 => ?_)
  ·
    refine pm_wk [0] rfl ?_
    exact Tk_isLetter_n28 g d K R I J _ _   _ (hp.1 h15) (ho.trans (by first | (simp only [fTk_isLetter_12, if_pos h15]; done) | (simp only [fTk_isLetter_12, if_pos h15]; rfl) | rfl)) (hz.trans (by first | (simp only [fTk_isLetter_12, if_pos h15]; done) | (simp only [fTk_isLetter_12, if_pos h15]; rfl) | rfl))
  ·
    refine pm_iload_n dTk_isLetter_18 rfl ?_
    refine pm_bipush (v := 90) dTk_isLetter_19 (by decide) ?_
    refine pm_icmp_gt 28 dTk_isLetter_21 (by decide) (fun h21 => ?_) (fun h21 => ?_)
    ·
      refine pm_wk [0] rfl ?_
      exact Tk_isLetter_n28 g d K R I J _ _   _ ((hp.2 h15).1 h21) (ho.trans (by first | (simp only [fTk_isLetter_12, if_neg h15, if_pos h21]; done) | (simp only [fTk_isLetter_12, if_neg h15, if_pos h21]; rfl) | rfl)) (hz.trans (by first | (simp only [fTk_isLetter_12, if_neg h15, if_pos h21]; done) | (simp only [fTk_isLetter_12, if_neg h15, if_pos h21]; rfl) | rfl))
    ·
      refine pm_wk [0] rfl ?_
      exact Tk_isLetter_n24 g d K R I J _ _   _ ((hp.2 h15).2 h21) (ho.trans (by first | (simp only [fTk_isLetter_12, if_neg h15, if_neg h21]; done) | (simp only [fTk_isLetter_12, if_neg h15, if_neg h21]; rfl) | rfl)) (hz.trans (by first | (simp only [fTk_isLetter_12, if_neg h15, if_neg h21]; done) | (simp only [fTk_isLetter_12, if_neg h15, if_neg h21]; rfl) | rfl))
set_option maxHeartbeats 4000000 in
set_option maxRecDepth 100000 in
theorem Tk_isLetter_n0 (g : pmG) (d : Nat) (K : List (Nat × Nat)) (R : Nat → Nat → Value) (I : Nat → Nat → Int32) (J : Nat → Nat → Int64) (o : Outcome) (Z : pmM)  (y0 : Int32) (hp : pTk_isLetter y0) (ho : o = .returned (some (.int (fTk_isLetter y0)))) (hz : Z = (K, R, I, J)) : pmE g kTk_isLetter d 0 0 0 [(0, .int y0)] [] (K) R I J o Z := by
  unfold pTk_isLetter at hp
  refine pm_iload_n dTk_isLetter_0 rfl ?_
  refine pm_bipush (v := 97) dTk_isLetter_1 (by decide) ?_
  refine pm_icmp_lt 12 dTk_isLetter_3 (by decide) (fun h3 => ?_) (fun h3 => ?_)
  ·
    refine pm_wk [0] rfl ?_
    exact Tk_isLetter_n12 g d K R I J _ _   _ (hp.1 h3) (ho.trans (by first | (simp only [fTk_isLetter, if_pos h3]; done) | (simp only [fTk_isLetter, if_pos h3]; rfl) | rfl)) (hz.trans (by first | (simp only [fTk_isLetter, if_pos h3]; done) | (simp only [fTk_isLetter, if_pos h3]; rfl) | rfl))
  ·
    refine pm_iload_n dTk_isLetter_6 rfl ?_
    refine pm_bipush (v := 122) dTk_isLetter_7 (by decide) ?_
    refine pm_icmp_le 24 dTk_isLetter_9 (by decide) (fun h9 => ?_) (fun h9 => ?_)
    ·
      refine pm_wk [0] rfl ?_
      exact Tk_isLetter_n24 g d K R I J _ _   _ ((hp.2 h3).1 h9) (ho.trans (by first | (simp only [fTk_isLetter, if_neg h3, if_pos h9]; done) | (simp only [fTk_isLetter, if_neg h3, if_pos h9]; rfl) | rfl)) (hz.trans (by first | (simp only [fTk_isLetter, if_neg h3, if_pos h9]; done) | (simp only [fTk_isLetter, if_neg h3, if_pos h9]; rfl) | rfl))
    ·
      refine pm_wk [0] rfl ?_
      exact Tk_isLetter_n12 g d K R I J _ _   _ ((hp.2 h3).2 h9) (ho.trans (by first | (simp only [fTk_isLetter, if_neg h3, if_neg h9]; done) | (simp only [fTk_isLetter, if_neg h3, if_neg h9]; rfl) | rfl)) (hz.trans (by first | (simp only [fTk_isLetter, if_neg h3, if_neg h9]; done) | (simp only [fTk_isLetter, if_neg h3, if_neg h9]; rfl) | rfl))
set_option maxHeartbeats 4000000 in
set_option maxRecDepth 100000 in
theorem Tk_isLetter_ok (g : pmG) (d : Nat) (K : List (Nat × Nat)) (R : Nat → Nat → Value)  (x0 : Int32) (I : Nat → Nat → Int32) (J : Nat → Nat → Int64) (hp : pTk_isLetter x0) : pmC g kTk_isLetter d 0 0 [.int x0] (K, R, I, J) (.returned (some (.int (fTk_isLetter x0)))) (K, R, I, J) :=
  pmC.of (by decide) (Nat.le_of_ble_eq_true rfl) (Tk_isLetter_n0 g d K R I J _ _  x0  hp rfl rfl)
def fTk_isDigit_16  (y0 : Int32) : Int32 :=
  (0 : Int32)
def pTk_isDigit_16  (y0 : Int32) : Prop :=
  True
def fTk_isDigit  (y0 : Int32) : Int32 :=
  if y0 < (48 : Int32) then fTk_isDigit_16 y0
  else if (57 : Int32) < y0 then fTk_isDigit_16 y0
    else (1 : Int32)
def pTk_isDigit  (y0 : Int32) : Prop :=
  (y0 < (48 : Int32) → pTk_isDigit_16 y0) ∧
  (¬ (y0 < (48 : Int32)) → ((57 : Int32) < y0 → pTk_isDigit_16 y0) ∧
    (¬ ((57 : Int32) < y0) → True))
set_option maxHeartbeats 4000000 in
set_option maxRecDepth 100000 in
theorem Tk_isDigit_n16 (g : pmG) (d : Nat) (K : List (Nat × Nat)) (R : Nat → Nat → Value) (I : Nat → Nat → Int32) (J : Nat → Nat → Int64) (o : Outcome) (Z : pmM)  (y0 : Int32) (hp : pTk_isDigit_16 y0) (ho : o = .returned (some (.int (fTk_isDigit_16 y0)))) (hz : Z = (K, R, I, J)) : pmE g kTk_isDigit d 0 0 16 [(0, .int y0)] [] (K) R I J o Z := by
  unfold pTk_isDigit_16 at hp
  refine pm_iconst (v := 0) dTk_isDigit_16 (by decide) ?_
  exact pm_zret dTk_isDigit_17 rfl (by first | rfl | decide) (ho.trans (by first | rfl | (simp only [fTk_isDigit_16]; done) | (simp only [fTk_isDigit_16]; rfl))) (hz.trans (by first | rfl | (simp only [fTk_isDigit_16]; done) | (simp only [fTk_isDigit_16]; rfl)))
set_option maxHeartbeats 4000000 in
set_option maxRecDepth 100000 in
theorem Tk_isDigit_n0 (g : pmG) (d : Nat) (K : List (Nat × Nat)) (R : Nat → Nat → Value) (I : Nat → Nat → Int32) (J : Nat → Nat → Int64) (o : Outcome) (Z : pmM)  (y0 : Int32) (hp : pTk_isDigit y0) (ho : o = .returned (some (.int (fTk_isDigit y0)))) (hz : Z = (K, R, I, J)) : pmE g kTk_isDigit d 0 0 0 [(0, .int y0)] [] (K) R I J o Z := by
  unfold pTk_isDigit at hp
  refine pm_iload_n dTk_isDigit_0 rfl ?_
  refine pm_bipush (v := 48) dTk_isDigit_1 (by decide) ?_
  refine pm_icmp_lt 16 dTk_isDigit_3 (by decide) (fun h3 => ?_) (fun h3 => ?_)
  ·
    refine pm_wk [0] rfl ?_
    exact Tk_isDigit_n16 g d K R I J _ _   _ (hp.1 h3) (ho.trans (by first | (simp only [fTk_isDigit, if_pos h3]; done) | (simp only [fTk_isDigit, if_pos h3]; rfl) | rfl)) (hz.trans (by first | (simp only [fTk_isDigit, if_pos h3]; done) | (simp only [fTk_isDigit, if_pos h3]; rfl) | rfl))
  ·
    refine pm_iload_n dTk_isDigit_6 rfl ?_
    refine pm_bipush (v := 57) dTk_isDigit_7 (by decide) ?_
    refine pm_icmp_gt 16 dTk_isDigit_9 (by decide) (fun h9 => ?_) (fun h9 => ?_)
    ·
      refine pm_wk [0] rfl ?_
      exact Tk_isDigit_n16 g d K R I J _ _   _ ((hp.2 h3).1 h9) (ho.trans (by first | (simp only [fTk_isDigit, if_neg h3, if_pos h9]; done) | (simp only [fTk_isDigit, if_neg h3, if_pos h9]; rfl) | rfl)) (hz.trans (by first | (simp only [fTk_isDigit, if_neg h3, if_pos h9]; done) | (simp only [fTk_isDigit, if_neg h3, if_pos h9]; rfl) | rfl))
    ·
      refine pm_iconst (v := 1) dTk_isDigit_12 (by decide) ?_
      refine pm_goto 17 dTk_isDigit_13 (by decide) ?_
      exact pm_zret dTk_isDigit_17 rfl (by first | rfl | decide) (ho.trans (by first | (simp only [fTk_isDigit, if_neg h3, if_neg h9]; done) | (simp only [fTk_isDigit, if_neg h3, if_neg h9]; rfl) | rfl)) (hz.trans (by first | (simp only [fTk_isDigit, if_neg h3, if_neg h9]; done) | (simp only [fTk_isDigit, if_neg h3, if_neg h9]; rfl) | rfl))
set_option maxHeartbeats 4000000 in
set_option maxRecDepth 100000 in
theorem Tk_isDigit_ok (g : pmG) (d : Nat) (K : List (Nat × Nat)) (R : Nat → Nat → Value)  (x0 : Int32) (I : Nat → Nat → Int32) (J : Nat → Nat → Int64) (hp : pTk_isDigit x0) : pmC g kTk_isDigit d 0 0 [.int x0] (K, R, I, J) (.returned (some (.int (fTk_isDigit x0)))) (K, R, I, J) :=
  pmC.of (by decide) (Nat.le_of_ble_eq_true rfl) (Tk_isDigit_n0 g d K R I J _ _  x0  hp rfl rfl)
def fTk_isOfWord_20  (y0 : Int32) : Int32 :=
  (1 : Int32)
def pTk_isOfWord_20  (y0 : Int32) : Prop :=
  True
def fTk_isOfWord  (y0 : Int32) : Int32 :=
  if ((fTk_isLetter y0)) = 0 then if ((fTk_isDigit y0)) = 0 then if y0 = (95 : Int32) then fTk_isOfWord_20 y0
      else (0 : Int32)
    else fTk_isOfWord_20 y0
  else fTk_isOfWord_20 y0
def pTk_isOfWord  (y0 : Int32) : Prop :=
  (pTk_isLetter y0) ∧ ((((fTk_isLetter y0)) = 0 → (pTk_isDigit y0) ∧ ((((fTk_isDigit y0)) = 0 → (y0 = (95 : Int32) → pTk_isOfWord_20 y0) ∧
      (¬ (y0 = (95 : Int32)) → True)) ∧
    (¬ (((fTk_isDigit y0)) = 0) → pTk_isOfWord_20 y0))) ∧
  (¬ (((fTk_isLetter y0)) = 0) → pTk_isOfWord_20 y0))
set_option maxHeartbeats 4000000 in
set_option maxRecDepth 100000 in
theorem Tk_isOfWord_n20 (g : pmG) (d : Nat) (K : List (Nat × Nat)) (R : Nat → Nat → Value) (I : Nat → Nat → Int32) (J : Nat → Nat → Int64) (o : Outcome) (Z : pmM)  (y0 : Int32) (hp : pTk_isOfWord_20 y0) (ho : o = .returned (some (.int (fTk_isOfWord_20 y0)))) (hz : Z = (K, R, I, J)) : pmE g kTk_isOfWord (d + 1) 0 0 20 [(0, .int y0)] [] (K) R I J o Z := by
  unfold pTk_isOfWord_20 at hp
  refine pm_iconst (v := 1) dTk_isOfWord_20 (by decide) ?_
  refine pm_goto 25 dTk_isOfWord_21 (by decide) ?_
  exact pm_zret dTk_isOfWord_25 rfl (by first | rfl | decide) (ho.trans (by first | rfl | (simp only [fTk_isOfWord_20]; done) | (simp only [fTk_isOfWord_20]; rfl))) (hz.trans (by first | rfl | (simp only [fTk_isOfWord_20]; done) | (simp only [fTk_isOfWord_20]; rfl)))
set_option maxHeartbeats 4000000 in
set_option maxRecDepth 100000 in
theorem Tk_isOfWord_n0 (g : pmG) (d : Nat) (K : List (Nat × Nat)) (R : Nat → Nat → Value) (I : Nat → Nat → Int32) (J : Nat → Nat → Int64) (o : Outcome) (Z : pmM)  (y0 : Int32) (hp : pTk_isOfWord y0) (ho : o = .returned (some (.int (fTk_isOfWord y0)))) (hz : Z = (K, R, I, J)) : pmE g kTk_isOfWord (d + 1) 0 0 0 [(0, .int y0)] [] (K) R I J o Z := by
  unfold pTk_isOfWord at hp
  refine pm_iload_n dTk_isOfWord_0 rfl ?_
  refine pm_callS dTk_isOfWord_1 lTk_48 tTk_isLetter (Tk_isLetter_ok _ _ _ _ _ _ _ hp.1) rfl rfl (Nat.le_of_ble_eq_true rfl) (Nat.le_refl _) (Nat.le_refl _) ?_
  refine pm_if_ne 20 dTk_isOfWord_4 (by decide) (fun h4 => ?_) (fun h4 => ?_)
  ·
    refine pm_wk [0] rfl ?_
    exact Tk_isOfWord_n20 g d K R I J _ _   _ (hp.2.2 h4) (ho.trans (by first | (simp only [fTk_isOfWord, if_neg h4]; done) | (simp only [fTk_isOfWord, if_neg h4]; rfl) | rfl)) (hz.trans (by first | (simp only [fTk_isOfWord, if_neg h4]; done) | (simp only [fTk_isOfWord, if_neg h4]; rfl) | rfl))
  ·
    refine pm_iload_n dTk_isOfWord_7 rfl ?_
    refine pm_callS dTk_isOfWord_8 lTk_56 tTk_isDigit (Tk_isDigit_ok _ _ _ _ _ _ _ (hp.2.1 h4).1) rfl rfl (Nat.le_of_ble_eq_true rfl) (Nat.le_refl _) (Nat.le_refl _) ?_
    refine pm_if_ne 20 dTk_isOfWord_11 (by decide) (fun h11 => ?_) (fun h11 => ?_)
    ·
      refine pm_wk [0] rfl ?_
      exact Tk_isOfWord_n20 g d K R I J _ _   _ ((hp.2.1 h4).2.2 h11) (ho.trans (by first | (simp only [fTk_isOfWord, if_pos h4, if_neg h11]; done) | (simp only [fTk_isOfWord, if_pos h4, if_neg h11]; rfl) | rfl)) (hz.trans (by first | (simp only [fTk_isOfWord, if_pos h4, if_neg h11]; done) | (simp only [fTk_isOfWord, if_pos h4, if_neg h11]; rfl) | rfl))
    ·
      refine pm_iload_n dTk_isOfWord_14 rfl ?_
      refine pm_bipush (v := 95) dTk_isOfWord_15 (by decide) ?_
      refine pm_icmp_ne 24 dTk_isOfWord_17 (by decide) (fun h17 => ?_) (fun h17 => ?_)
      ·
        refine pm_iconst (v := 0) dTk_isOfWord_24 (by decide) ?_
        exact pm_zret dTk_isOfWord_25 rfl (by first | rfl | decide) (ho.trans (by first | (simp only [fTk_isOfWord, if_pos h4, if_pos h11, if_neg h17]; done) | (simp only [fTk_isOfWord, if_pos h4, if_pos h11, if_neg h17]; rfl) | rfl)) (hz.trans (by first | (simp only [fTk_isOfWord, if_pos h4, if_pos h11, if_neg h17]; done) | (simp only [fTk_isOfWord, if_pos h4, if_pos h11, if_neg h17]; rfl) | rfl))
      ·
        refine pm_wk [0] rfl ?_
        exact Tk_isOfWord_n20 g d K R I J _ _   _ (((hp.2.1 h4).2.1 h11).1 h17) (ho.trans (by first | (simp only [fTk_isOfWord, if_pos h4, if_pos h11, if_pos h17]; done) | (simp only [fTk_isOfWord, if_pos h4, if_pos h11, if_pos h17]; rfl) | rfl)) (hz.trans (by first | (simp only [fTk_isOfWord, if_pos h4, if_pos h11, if_pos h17]; done) | (simp only [fTk_isOfWord, if_pos h4, if_pos h11, if_pos h17]; rfl) | rfl))
set_option maxHeartbeats 4000000 in
set_option maxRecDepth 100000 in
theorem Tk_isOfWord_ok (g : pmG) (d : Nat) (K : List (Nat × Nat)) (R : Nat → Nat → Value)  (x0 : Int32) (I : Nat → Nat → Int32) (J : Nat → Nat → Int64) (hp : pTk_isOfWord x0) : pmC g kTk_isOfWord (d + 1) 0 0 [.int x0] (K, R, I, J) (.returned (some (.int (fTk_isOfWord x0)))) (K, R, I, J) :=
  pmC.of (by decide) (Nat.le_of_ble_eq_true rfl) (Tk_isOfWord_n0 g d K R I J _ _  x0  hp rfl rfl)
def fTk_areSame_81 (r24 : Int32 → Int32 → Int32 → Int32 → (Nat → Nat → Int32) → (Nat → Nat → Int64) → Int32) (y1 : Int32) (y2 : Int32) (y3 : Int32) (y4 : Int32) (z0 : Int32) (I : Nat → Nat → Int32) (J : Nat → Nat → Int64) : Int32 :=
  r24 y1 y2 z0 (y4 + Int32.ofInt 1) I J
def pTk_areSame_81 (q24 : Int32 → Int32 → Int32 → Int32 → (Nat → Nat → Int32) → (Nat → Nat → Int64) → Prop) (y1 : Int32) (y2 : Int32) (y3 : Int32) (y4 : Int32) (z0 : Int32) (I : Nat → Nat → Int32) (J : Nat → Nat → Int64) : Prop :=
  q24 y1 y2 z0 (y4 + Int32.ofInt 1) I J
def fTk_areSame_88  (y1 : Int32) (y2 : Int32) (y3 : Int32) (y4 : Int32) (I : Nat → Nat → Int32) (J : Nat → Nat → Int64) : Int32 :=
  y3
def pTk_areSame_88  (y1 : Int32) (y2 : Int32) (y3 : Int32) (y4 : Int32) (I : Nat → Nat → Int32) (J : Nat → Nat → Int64) : Prop :=
  narrow .boolean (.int y3) = .int y3
def fTk_areSame_24  : Nat → Int32 → Int32 → Int32 → Int32 → (Nat → Nat → Int32) → (Nat → Nat → Int64) → Int32
  | 0, _, _, _, _, _, _ => 0
  | n + 1, y1, y2, y3, y4, I, J =>
  if (I 20 y1.toNatClampNeg) ≤ y4 then fTk_areSame_88 y1 y2 y3 y4 I J
  else if y3 = 0 then fTk_areSame_88 y1 y2 y3 y4 I J
    else if (I 2 ((I 19 y1.toNatClampNeg) + y4).toNatClampNeg) = (I 2 ((I 19 y2.toNatClampNeg) + y4).toNatClampNeg) then fTk_areSame_81 (fTk_areSame_24 n) y1 y2 y3 y4 (1 : Int32) I J
      else fTk_areSame_81 (fTk_areSame_24 n) y1 y2 y3 y4 (0 : Int32) I J
def pTk_areSame_24  : Nat → Int32 → Int32 → Int32 → Int32 → (Nat → Nat → Int32) → (Nat → Nat → Int64) → Prop
  | 0, _, _, _, _, _, _ => False
  | n + 1, y1, y2, y3, y4, I, J =>
  (vp_in y1 4001) ∧ (((I 20 y1.toNatClampNeg) ≤ y4 → pTk_areSame_88 y1 y2 y3 y4 I J) ∧
  (¬ ((I 20 y1.toNatClampNeg) ≤ y4) → (y3 = 0 → pTk_areSame_88 y1 y2 y3 y4 I J) ∧
    (¬ (y3 = 0) → (vp_in y1 4001) ∧ ((vp_in ((I 19 y1.toNatClampNeg) + y4) 65536) ∧ ((vp_in y2 4001) ∧ ((vp_in ((I 19 y2.toNatClampNeg) + y4) 65536) ∧ (((I 2 ((I 19 y1.toNatClampNeg) + y4).toNatClampNeg) = (I 2 ((I 19 y2.toNatClampNeg) + y4).toNatClampNeg) → pTk_areSame_81 (pTk_areSame_24 n) y1 y2 y3 y4 (1 : Int32) I J) ∧
      (¬ ((I 2 ((I 19 y1.toNatClampNeg) + y4).toNatClampNeg) = (I 2 ((I 19 y2.toNatClampNeg) + y4).toNatClampNeg)) → pTk_areSame_81 (pTk_areSame_24 n) y1 y2 y3 y4 (0 : Int32) I J))))))))
def fTk_areSame_20 (n24 : Nat) (y1 : Int32) (y2 : Int32) (z0 : Int32) (I : Nat → Nat → Int32) (J : Nat → Nat → Int64) : Int32 :=
  fTk_areSame_24 n24 y1 y2 z0 (0 : Int32) I J
def pTk_areSame_20 (n24 : Nat) (y1 : Int32) (y2 : Int32) (z0 : Int32) (I : Nat → Nat → Int32) (J : Nat → Nat → Int64) : Prop :=
  pTk_areSame_24 n24 y1 y2 z0 (0 : Int32) I J
def fTk_areSame (n24 : Nat) (y1 : Int32) (y2 : Int32) (I : Nat → Nat → Int32) (J : Nat → Nat → Int64) : Int32 :=
  if (I 20 y1.toNatClampNeg) = (I 20 y2.toNatClampNeg) then fTk_areSame_20 n24 y1 y2 (1 : Int32) I J
  else fTk_areSame_20 n24 y1 y2 (0 : Int32) I J
def pTk_areSame (n24 : Nat) (y1 : Int32) (y2 : Int32) (I : Nat → Nat → Int32) (J : Nat → Nat → Int64) : Prop :=
  (vp_in y1 4001) ∧ ((vp_in y2 4001) ∧ (((I 20 y1.toNatClampNeg) = (I 20 y2.toNatClampNeg) → pTk_areSame_20 n24 y1 y2 (1 : Int32) I J) ∧
  (¬ ((I 20 y1.toNatClampNeg) = (I 20 y2.toNatClampNeg)) → pTk_areSame_20 n24 y1 y2 (0 : Int32) I J)))
set_option maxHeartbeats 4000000 in
set_option maxRecDepth 100000 in
theorem Tk_areSame_n81 (g : pmG) (d : Nat) (ex : List (Nat × Nat)) (R : Nat → Nat → Value) (hR : pk_R R) (o : Outcome) (Z : pmM) (r24 : Int32 → Int32 → Int32 → Int32 → (Nat → Nat → Int32) → (Nat → Nat → Int64) → Int32) (q24 : Int32 → Int32 → Int32 → Int32 → (Nat → Nat → Int32) → (Nat → Nat → Int64) → Prop) (ih24 : ∀ (y1 : Int32) (y2 : Int32) (y3 : Int32) (y4 : Int32) (I : Nat → Nat → Int32) (J : Nat → Nat → Int64), q24 y1 y2 y3 y4 I J → o = .returned (some (.int (r24 y1 y2 y3 y4 I J))) → Z = (pk_K ++ ex, R, I, J) → pmE g kTk_areSame d 0 0 24 [(0, .ref 17), (1, .int y1), (2, .int y2), (3, .int y3), (4, .int y4)] [] (pk_K ++ ex) R I J o Z)  (y1 : Int32) (y2 : Int32) (y3 : Int32) (y4 : Int32) (z0 : Int32) (I : Nat → Nat → Int32) (J : Nat → Nat → Int64) (hp : pTk_areSame_81 q24 y1 y2 y3 y4 z0 I J) (ho : o = .returned (some (.int (fTk_areSame_81 r24 y1 y2 y3 y4 z0 I J)))) (hz : Z = (pk_K ++ ex, R, I, J)) : pmE g kTk_areSame d 0 0 81 [(0, .ref 17), (1, .int y1), (2, .int y2), (3, .int y3), (4, .int y4)] [.int z0] (pk_K ++ ex) R I J o Z := by
  unfold pTk_areSame_81 at hp
  refine pm_istore_n dTk_areSame_81 (by decide) rfl ?_
  refine pm_iinc dTk_areSame_82 rfl (by decide) rfl ?_
  refine pm_goto 24 dTk_areSame_85 (by decide) ?_
  refine pm_wk [2, 3, 4, 1, 0] rfl ?_
  exact ih24 _ _ _ _ _ _ hp (ho.trans (by first | rfl | (simp only [fTk_areSame_81]; done) | (simp only [fTk_areSame_81]; rfl))) (hz.trans (by first | rfl | (simp only [fTk_areSame_81]; done) | (simp only [fTk_areSame_81]; rfl)))
set_option maxHeartbeats 4000000 in
set_option maxRecDepth 100000 in
theorem Tk_areSame_n88 (g : pmG) (d : Nat) (ex : List (Nat × Nat)) (R : Nat → Nat → Value) (hR : pk_R R) (o : Outcome) (Z : pmM)  (y1 : Int32) (y2 : Int32) (y3 : Int32) (y4 : Int32) (I : Nat → Nat → Int32) (J : Nat → Nat → Int64) (hp : pTk_areSame_88 y1 y2 y3 y4 I J) (ho : o = .returned (some (.int (fTk_areSame_88 y1 y2 y3 y4 I J)))) (hz : Z = (pk_K ++ ex, R, I, J)) : pmE g kTk_areSame d 0 0 88 [(0, .ref 17), (1, .int y1), (2, .int y2), (3, .int y3), (4, .int y4)] [] (pk_K ++ ex) R I J o Z := by
  unfold pTk_areSame_88 at hp
  refine pm_iload_n dTk_areSame_88 rfl ?_
  exact pm_zret dTk_areSame_89 rfl hp (ho.trans (by first | rfl | (simp only [fTk_areSame_88]; done) | (simp only [fTk_areSame_88]; rfl))) (hz.trans (by first | rfl | (simp only [fTk_areSame_88]; done) | (simp only [fTk_areSame_88]; rfl)))
set_option maxHeartbeats 4000000 in
set_option maxRecDepth 100000 in
theorem Tk_areSame_n24 (g : pmG) (d : Nat) (ex : List (Nat × Nat)) (R : Nat → Nat → Value) (hR : pk_R R) (o : Outcome) (Z : pmM)  : ∀ (n : Nat) (y1 : Int32) (y2 : Int32) (y3 : Int32) (y4 : Int32) (I : Nat → Nat → Int32) (J : Nat → Nat → Int64), pTk_areSame_24 n y1 y2 y3 y4 I J → o = .returned (some (.int (fTk_areSame_24 n y1 y2 y3 y4 I J))) → Z = (pk_K ++ ex, R, I, J) → pmE g kTk_areSame d 0 0 24 [(0, .ref 17), (1, .int y1), (2, .int y2), (3, .int y3), (4, .int y4)] [] (pk_K ++ ex) R I J o Z := by
  intro n
  induction n with
  | zero => intro y1 y2 y3 y4 I J hp; exact False.elim hp
  | succ n ih =>
  intro y1 y2 y3 y4 I J hp ho hz
  simp only [pTk_areSame_24] at hp
  refine pm_iload dTk_areSame_24 rfl ?_
  refine pm_aload_n dTk_areSame_26 rfl ?_
  refine pm_getr dTk_areSame_27 fTk_18 rfl (rr_17_3 hR) ?_
  refine pm_iload_n dTk_areSame_30 rfl ?_
  refine pm_iald dTk_areSame_31 rfl hp.1 ?_
  refine pm_icmp_ge 88 dTk_areSame_32 (by decide) (fun h32 => ?_) (fun h32 => ?_)
  ·
    refine pm_wk [0, 1, 2, 3, 4] rfl ?_
    exact Tk_areSame_n88 g d ex R hR _ _   _ _ _ _ _ _ (hp.2.1 h32) (ho.trans (by first | (simp only [fTk_areSame_24, if_pos h32]; done) | (simp only [fTk_areSame_24, if_pos h32]; rfl) | rfl)) (hz.trans (by first | (simp only [fTk_areSame_24, if_pos h32]; done) | (simp only [fTk_areSame_24, if_pos h32]; rfl) | rfl))
  ·
    refine pm_iload_n dTk_areSame_35 rfl ?_
    refine pm_if_eq 88 dTk_areSame_36 (by decide) (fun h36 => ?_) (fun h36 => ?_)
    ·
      refine pm_wk [0, 1, 2, 3, 4] rfl ?_
      exact Tk_areSame_n88 g d ex R hR _ _   _ _ _ _ _ _ ((hp.2.2 h32).1 h36) (ho.trans (by first | (simp only [fTk_areSame_24, if_neg h32, if_pos h36]; done) | (simp only [fTk_areSame_24, if_neg h32, if_pos h36]; rfl) | rfl)) (hz.trans (by first | (simp only [fTk_areSame_24, if_neg h32, if_pos h36]; done) | (simp only [fTk_areSame_24, if_neg h32, if_pos h36]; rfl) | rfl))
    ·
      refine pm_aload_n dTk_areSame_39 rfl ?_
      refine pm_getr dTk_areSame_40 fTk_24 rfl (rr_17_0 hR) ?_
      refine pm_getr dTk_areSame_43 fTk_104 rfl (rr_1_0 hR) ?_
      refine pm_aload_n dTk_areSame_46 rfl ?_
      refine pm_getr dTk_areSame_47 fTk_15 rfl (rr_17_2 hR) ?_
      refine pm_iload_n dTk_areSame_50 rfl ?_
      refine pm_iald dTk_areSame_51 rfl ((hp.2.2 h32).2 h36).1 ?_
      refine pm_iload dTk_areSame_52 rfl ?_
      refine pm_iadd dTk_areSame_54 ?_
      refine pm_bald dTk_areSame_55 rfl ((hp.2.2 h32).2 h36).2.1 ?_
      refine pm_aload_n dTk_areSame_56 rfl ?_
      refine pm_getr dTk_areSame_57 fTk_24 rfl (rr_17_0 hR) ?_
      refine pm_getr dTk_areSame_60 fTk_104 rfl (rr_1_0 hR) ?_
      refine pm_aload_n dTk_areSame_63 rfl ?_
      refine pm_getr dTk_areSame_64 fTk_15 rfl (rr_17_2 hR) ?_
      refine pm_iload_n dTk_areSame_67 rfl ?_
      refine pm_iald dTk_areSame_68 rfl ((hp.2.2 h32).2 h36).2.2.1 ?_
      refine pm_iload dTk_areSame_69 rfl ?_
      refine pm_iadd dTk_areSame_71 ?_
      refine pm_bald dTk_areSame_72 rfl ((hp.2.2 h32).2 h36).2.2.2.1 ?_
      refine pm_icmp_ne 80 dTk_areSame_73 (by decide) (fun h73 => ?_) (fun h73 => ?_)
      ·
        refine pm_iconst (v := 0) dTk_areSame_80 (by decide) ?_
        refine pm_wk [0, 1, 2, 3, 4] rfl ?_
        exact Tk_areSame_n81 g d ex R hR _ _ (fTk_areSame_24 n) (pTk_areSame_24 n) ih  _ _ _ _ _ _ _ (((hp.2.2 h32).2 h36).2.2.2.2.2 h73) (ho.trans (by first | (simp only [fTk_areSame_24, if_neg h32, if_neg h36, if_neg h73]; done) | (simp only [fTk_areSame_24, if_neg h32, if_neg h36, if_neg h73]; rfl) | rfl)) (hz.trans (by first | (simp only [fTk_areSame_24, if_neg h32, if_neg h36, if_neg h73]; done) | (simp only [fTk_areSame_24, if_neg h32, if_neg h36, if_neg h73]; rfl) | rfl))
      ·
        refine pm_iconst (v := 1) dTk_areSame_76 (by decide) ?_
        refine pm_goto 81 dTk_areSame_77 (by decide) ?_
        refine pm_wk [0, 1, 2, 3, 4] rfl ?_
        exact Tk_areSame_n81 g d ex R hR _ _ (fTk_areSame_24 n) (pTk_areSame_24 n) ih  _ _ _ _ _ _ _ (((hp.2.2 h32).2 h36).2.2.2.2.1 h73) (ho.trans (by first | (simp only [fTk_areSame_24, if_neg h32, if_neg h36, if_pos h73]; done) | (simp only [fTk_areSame_24, if_neg h32, if_neg h36, if_pos h73]; rfl) | rfl)) (hz.trans (by first | (simp only [fTk_areSame_24, if_neg h32, if_neg h36, if_pos h73]; done) | (simp only [fTk_areSame_24, if_neg h32, if_neg h36, if_pos h73]; rfl) | rfl))
set_option maxHeartbeats 4000000 in
set_option maxRecDepth 100000 in
theorem Tk_areSame_n20 (g : pmG) (d : Nat) (ex : List (Nat × Nat)) (R : Nat → Nat → Value) (hR : pk_R R) (o : Outcome) (Z : pmM) (n24 : Nat) (y1 : Int32) (y2 : Int32) (z0 : Int32) (I : Nat → Nat → Int32) (J : Nat → Nat → Int64) (hp : pTk_areSame_20 n24 y1 y2 z0 I J) (ho : o = .returned (some (.int (fTk_areSame_20 n24 y1 y2 z0 I J)))) (hz : Z = (pk_K ++ ex, R, I, J)) : pmE g kTk_areSame d 0 0 20 [(0, .ref 17), (1, .int y1), (2, .int y2)] [.int z0] (pk_K ++ ex) R I J o Z := by
  unfold pTk_areSame_20 at hp
  refine pm_istore_n dTk_areSame_20 (by decide) rfl ?_
  refine pm_iconst (v := 0) dTk_areSame_21 (by decide) ?_
  refine pm_istore dTk_areSame_22 (by decide) rfl ?_
  refine pm_wk [2, 3, 4, 1, 0] rfl ?_
  exact Tk_areSame_n24 g d ex R hR _ _  n24 _ _ _ _ _ _ hp (ho.trans (by first | rfl | (simp only [fTk_areSame_20]; done) | (simp only [fTk_areSame_20]; rfl))) (hz.trans (by first | rfl | (simp only [fTk_areSame_20]; done) | (simp only [fTk_areSame_20]; rfl)))
set_option maxHeartbeats 4000000 in
set_option maxRecDepth 100000 in
theorem Tk_areSame_n0 (g : pmG) (d : Nat) (ex : List (Nat × Nat)) (R : Nat → Nat → Value) (hR : pk_R R) (o : Outcome) (Z : pmM) (n24 : Nat) (y1 : Int32) (y2 : Int32) (I : Nat → Nat → Int32) (J : Nat → Nat → Int64) (hp : pTk_areSame n24 y1 y2 I J) (ho : o = .returned (some (.int (fTk_areSame n24 y1 y2 I J)))) (hz : Z = (pk_K ++ ex, R, I, J)) : pmE g kTk_areSame d 0 0 0 [(0, .ref 17), (1, .int y1), (2, .int y2)] [] (pk_K ++ ex) R I J o Z := by
  unfold pTk_areSame at hp
  refine pm_aload_n dTk_areSame_0 rfl ?_
  refine pm_getr dTk_areSame_1 fTk_18 rfl (rr_17_3 hR) ?_
  refine pm_iload_n dTk_areSame_4 rfl ?_
  refine pm_iald dTk_areSame_5 rfl hp.1 ?_
  refine pm_aload_n dTk_areSame_6 rfl ?_
  refine pm_getr dTk_areSame_7 fTk_18 rfl (rr_17_3 hR) ?_
  refine pm_iload_n dTk_areSame_10 rfl ?_
  refine pm_iald dTk_areSame_11 rfl hp.2.1 ?_
  refine pm_icmp_ne 19 dTk_areSame_12 (by decide) (fun h12 => ?_) (fun h12 => ?_)
  ·
    refine pm_iconst (v := 0) dTk_areSame_19 (by decide) ?_
    refine pm_wk [0, 1, 2] rfl ?_
    exact Tk_areSame_n20 g d ex R hR _ _  n24 _ _ _ _ _ (hp.2.2.2 h12) (ho.trans (by first | (simp only [fTk_areSame, if_neg h12]; done) | (simp only [fTk_areSame, if_neg h12]; rfl) | rfl)) (hz.trans (by first | (simp only [fTk_areSame, if_neg h12]; done) | (simp only [fTk_areSame, if_neg h12]; rfl) | rfl))
  ·
    refine pm_iconst (v := 1) dTk_areSame_15 (by decide) ?_
    refine pm_goto 20 dTk_areSame_16 (by decide) ?_
    refine pm_wk [0, 1, 2] rfl ?_
    exact Tk_areSame_n20 g d ex R hR _ _  n24 _ _ _ _ _ (hp.2.2.1 h12) (ho.trans (by first | (simp only [fTk_areSame, if_pos h12]; done) | (simp only [fTk_areSame, if_pos h12]; rfl) | rfl)) (hz.trans (by first | (simp only [fTk_areSame, if_pos h12]; done) | (simp only [fTk_areSame, if_pos h12]; rfl) | rfl))
set_option maxHeartbeats 4000000 in
set_option maxRecDepth 100000 in
theorem Tk_areSame_ok (g : pmG) (d : Nat) (ex : List (Nat × Nat)) (R : Nat → Nat → Value) (hR : pk_R R) (n24 : Nat) (x0 : Int32) (x1 : Int32) (I : Nat → Nat → Int32) (J : Nat → Nat → Int64) (hp : pTk_areSame n24 x0 x1 I J) : pmC g kTk_areSame d 0 0 [.ref 17, .int x0, .int x1] (pk_K ++ ex, R, I, J) (.returned (some (.int (fTk_areSame n24 x0 x1 I J)))) (pk_K ++ ex, R, I, J) :=
  pmC.of (by decide) (Nat.le_of_ble_eq_true rfl) (Tk_areSame_n0 g d ex R hR _ _ n24 x0 x1 I J hp rfl rfl)
def fTk_skipBlanks_83 (r2 : Int32 → (Nat → Nat → Int32) → (Nat → Nat → Int64) → (Nat → Nat → Int32)) (y1 : Int32) (y2 : Int32) (I : Nat → Nat → Int32) (J : Nat → Nat → Int64) : (Nat → Nat → Int32) :=
  r2 y1 (pm_u I 17 6 ((I 17 6) + (1 : Int32))) J
def pTk_skipBlanks_83 (q2 : Int32 → (Nat → Nat → Int32) → (Nat → Nat → Int64) → Prop) (y1 : Int32) (y2 : Int32) (I : Nat → Nat → Int32) (J : Nat → Nat → Int64) : Prop :=
  q2 y1 (pm_u I 17 6 ((I 17 6) + (1 : Int32))) J
def fTk_skipBlanks_43 (r2 : Int32 → (Nat → Nat → Int32) → (Nat → Nat → Int64) → (Nat → Nat → Int32)) (y1 : Int32) (y2 : Int32) (z0 : Int32) (I : Nat → Nat → Int32) (J : Nat → Nat → Int64) : (Nat → Nat → Int32) :=
  fTk_skipBlanks_83 r2 z0 y2 I J
def pTk_skipBlanks_43 (q2 : Int32 → (Nat → Nat → Int32) → (Nat → Nat → Int64) → Prop) (y1 : Int32) (y2 : Int32) (z0 : Int32) (I : Nat → Nat → Int32) (J : Nat → Nat → Int64) : Prop :=
  pTk_skipBlanks_83 q2 z0 y2 I J
def fTk_skipBlanks_2  : Nat → Int32 → (Nat → Nat → Int32) → (Nat → Nat → Int64) → (Nat → Nat → Int32)
  | 0, _, I, _ => I
  | n + 1, y1, I, J =>
  if (I 1 1) ≤ (I 17 6) then I
  else if y1 = 0 then if ((fTp_byteAt (I 17 6) I J)) = (35 : Int32) then fTk_skipBlanks_83 (fTk_skipBlanks_2 n) (1 : Int32) ((fTp_byteAt (I 17 6) I J)) I J
      else if ((fTp_byteAt (I 17 6) I J)) = (32 : Int32) then fTk_skipBlanks_83 (fTk_skipBlanks_2 n) y1 ((fTp_byteAt (I 17 6) I J)) I J
        else if ((fTp_byteAt (I 17 6) I J)) = (9 : Int32) then fTk_skipBlanks_83 (fTk_skipBlanks_2 n) y1 ((fTp_byteAt (I 17 6) I J)) I J
          else if ((fTp_byteAt (I 17 6) I J)) = (10 : Int32) then fTk_skipBlanks_83 (fTk_skipBlanks_2 n) y1 ((fTp_byteAt (I 17 6) I J)) I J
            else if ((fTp_byteAt (I 17 6) I J)) = (13 : Int32) then fTk_skipBlanks_83 (fTk_skipBlanks_2 n) y1 ((fTp_byteAt (I 17 6) I J)) I J
              else I
    else if ((fTp_byteAt (I 17 6) I J)) = (10 : Int32) then fTk_skipBlanks_43 (fTk_skipBlanks_2 n) y1 ((fTp_byteAt (I 17 6) I J)) (0 : Int32) I J
      else fTk_skipBlanks_43 (fTk_skipBlanks_2 n) y1 ((fTp_byteAt (I 17 6) I J)) (1 : Int32) I J
def pTk_skipBlanks_2  : Nat → Int32 → (Nat → Nat → Int32) → (Nat → Nat → Int64) → Prop
  | 0, _, _, _ => False
  | n + 1, y1, I, J =>
  ((I 1 1) ≤ (I 17 6) → True) ∧
  (¬ ((I 1 1) ≤ (I 17 6)) → (pTp_byteAt (I 17 6) I J) ∧ ((y1 = 0 → (((fTp_byteAt (I 17 6) I J)) = (35 : Int32) → pTk_skipBlanks_83 (pTk_skipBlanks_2 n) (1 : Int32) ((fTp_byteAt (I 17 6) I J)) I J) ∧
      (¬ (((fTp_byteAt (I 17 6) I J)) = (35 : Int32)) → (((fTp_byteAt (I 17 6) I J)) = (32 : Int32) → pTk_skipBlanks_83 (pTk_skipBlanks_2 n) y1 ((fTp_byteAt (I 17 6) I J)) I J) ∧
        (¬ (((fTp_byteAt (I 17 6) I J)) = (32 : Int32)) → (((fTp_byteAt (I 17 6) I J)) = (9 : Int32) → pTk_skipBlanks_83 (pTk_skipBlanks_2 n) y1 ((fTp_byteAt (I 17 6) I J)) I J) ∧
          (¬ (((fTp_byteAt (I 17 6) I J)) = (9 : Int32)) → (((fTp_byteAt (I 17 6) I J)) = (10 : Int32) → pTk_skipBlanks_83 (pTk_skipBlanks_2 n) y1 ((fTp_byteAt (I 17 6) I J)) I J) ∧
            (¬ (((fTp_byteAt (I 17 6) I J)) = (10 : Int32)) → (((fTp_byteAt (I 17 6) I J)) = (13 : Int32) → pTk_skipBlanks_83 (pTk_skipBlanks_2 n) y1 ((fTp_byteAt (I 17 6) I J)) I J) ∧
              (¬ (((fTp_byteAt (I 17 6) I J)) = (13 : Int32)) → True)))))) ∧
    (¬ (y1 = 0) → (((fTp_byteAt (I 17 6) I J)) = (10 : Int32) → pTk_skipBlanks_43 (pTk_skipBlanks_2 n) y1 ((fTp_byteAt (I 17 6) I J)) (0 : Int32) I J) ∧
      (¬ (((fTp_byteAt (I 17 6) I J)) = (10 : Int32)) → pTk_skipBlanks_43 (pTk_skipBlanks_2 n) y1 ((fTp_byteAt (I 17 6) I J)) (1 : Int32) I J))))
def fTk_skipBlanks (n2 : Nat) (I : Nat → Nat → Int32) (J : Nat → Nat → Int64) : (Nat → Nat → Int32) :=
  fTk_skipBlanks_2 n2 (0 : Int32) I J
def pTk_skipBlanks (n2 : Nat) (I : Nat → Nat → Int32) (J : Nat → Nat → Int64) : Prop :=
  pTk_skipBlanks_2 n2 (0 : Int32) I J
set_option maxHeartbeats 4000000 in
set_option maxRecDepth 100000 in
theorem Tk_skipBlanks_n83 (g : pmG) (d : Nat) (ex : List (Nat × Nat)) (R : Nat → Nat → Value) (hR : pk_R R) (o : Outcome) (Z : pmM) (r2 : Int32 → (Nat → Nat → Int32) → (Nat → Nat → Int64) → (Nat → Nat → Int32)) (q2 : Int32 → (Nat → Nat → Int32) → (Nat → Nat → Int64) → Prop) (ih2 : ∀ (y1 : Int32) (I : Nat → Nat → Int32) (J : Nat → Nat → Int64), q2 y1 I J → o = .returned none → Z = (pk_K ++ ex, R, (r2 y1 I J), J) → pmE g kTk_skipBlanks (d + 1) 0 0 2 [(0, .ref 17), (1, .int y1)] [] (pk_K ++ ex) R I J o Z)  (y1 : Int32) (y2 : Int32) (I : Nat → Nat → Int32) (J : Nat → Nat → Int64) (hp : pTk_skipBlanks_83 q2 y1 y2 I J) (ho : o = .returned none) (hz : Z = (pk_K ++ ex, R, (fTk_skipBlanks_83 r2 y1 y2 I J), J)) : pmE g kTk_skipBlanks (d + 1) 0 0 83 [(0, .ref 17), (1, .int y1), (2, .int y2)] [] (pk_K ++ ex) R I J o Z := by
  unfold pTk_skipBlanks_83 at hp
  refine pm_aload_n dTk_skipBlanks_83 rfl ?_
  refine pm_dup dTk_skipBlanks_84 rfl ?_
  refine pm_geti dTk_skipBlanks_85 fTk_28 rfl ?_
  refine pm_iconst (v := 1) dTk_skipBlanks_88 (by decide) ?_
  refine pm_iadd dTk_skipBlanks_89 ?_
  refine pm_puti dTk_skipBlanks_90 fTk_28 sTk_28 (fun h => by cases h) rfl rfl rfl ?_
  refine pm_goto 2 dTk_skipBlanks_93 (by decide) ?_
  refine pm_wk [0, 1] rfl ?_
  exact ih2 _ _ _ hp ho (hz.trans (by first | rfl | (simp only [fTk_skipBlanks_83]; done) | (simp only [fTk_skipBlanks_83]; rfl)))
set_option maxHeartbeats 4000000 in
set_option maxRecDepth 100000 in
theorem Tk_skipBlanks_n43 (g : pmG) (d : Nat) (ex : List (Nat × Nat)) (R : Nat → Nat → Value) (hR : pk_R R) (o : Outcome) (Z : pmM) (r2 : Int32 → (Nat → Nat → Int32) → (Nat → Nat → Int64) → (Nat → Nat → Int32)) (q2 : Int32 → (Nat → Nat → Int32) → (Nat → Nat → Int64) → Prop) (ih2 : ∀ (y1 : Int32) (I : Nat → Nat → Int32) (J : Nat → Nat → Int64), q2 y1 I J → o = .returned none → Z = (pk_K ++ ex, R, (r2 y1 I J), J) → pmE g kTk_skipBlanks (d + 1) 0 0 2 [(0, .ref 17), (1, .int y1)] [] (pk_K ++ ex) R I J o Z)  (y1 : Int32) (y2 : Int32) (z0 : Int32) (I : Nat → Nat → Int32) (J : Nat → Nat → Int64) (hp : pTk_skipBlanks_43 q2 y1 y2 z0 I J) (ho : o = .returned none) (hz : Z = (pk_K ++ ex, R, (fTk_skipBlanks_43 r2 y1 y2 z0 I J), J)) : pmE g kTk_skipBlanks (d + 1) 0 0 43 [(0, .ref 17), (1, .int y1), (2, .int y2)] [.int z0] (pk_K ++ ex) R I J o Z := by
  unfold pTk_skipBlanks_43 at hp
  refine pm_istore_n dTk_skipBlanks_43 (by decide) rfl ?_
  refine pm_goto 83 dTk_skipBlanks_44 (by decide) ?_
  refine pm_wk [1, 0, 2] rfl ?_
  exact Tk_skipBlanks_n83 g d ex R hR _ _ r2 q2 ih2  _ _ _ _ hp ho (hz.trans (by first | rfl | (simp only [fTk_skipBlanks_43]; done) | (simp only [fTk_skipBlanks_43]; rfl)))
set_option maxHeartbeats 4000000 in
set_option maxRecDepth 100000 in
theorem Tk_skipBlanks_n2 (g : pmG) (d : Nat) (ex : List (Nat × Nat)) (R : Nat → Nat → Value) (hR : pk_R R) (o : Outcome) (Z : pmM)  : ∀ (n : Nat) (y1 : Int32) (I : Nat → Nat → Int32) (J : Nat → Nat → Int64), pTk_skipBlanks_2 n y1 I J → o = .returned none → Z = (pk_K ++ ex, R, (fTk_skipBlanks_2 n y1 I J), J) → pmE g kTk_skipBlanks (d + 1) 0 0 2 [(0, .ref 17), (1, .int y1)] [] (pk_K ++ ex) R I J o Z := by
  intro n
  induction n with
  | zero => intro y1 I J hp; exact False.elim hp
  | succ n ih =>
  intro y1 I J hp ho hz
  simp only [pTk_skipBlanks_2] at hp
  refine pm_aload_n dTk_skipBlanks_2 rfl ?_
  refine pm_geti dTk_skipBlanks_3 fTk_28 rfl ?_
  refine pm_aload_n dTk_skipBlanks_6 rfl ?_
  refine pm_getr dTk_skipBlanks_7 fTk_24 rfl (rr_17_0 hR) ?_
  refine pm_geti dTk_skipBlanks_10 fTk_42 rfl ?_
  refine pm_icmp_ge 96 dTk_skipBlanks_13 (by decide) (fun h13 => ?_) (fun h13 => ?_)
  ·
    exact pm_vret dTk_skipBlanks_96 rfl ho (hz.trans (by first | (simp only [fTk_skipBlanks_2, if_pos h13]; done) | (simp only [fTk_skipBlanks_2, if_pos h13]; rfl) | rfl))
  ·
    refine pm_aload_n dTk_skipBlanks_16 rfl ?_
    refine pm_getr dTk_skipBlanks_17 fTk_24 rfl (rr_17_0 hR) ?_
    refine pm_aload_n dTk_skipBlanks_20 rfl ?_
    refine pm_geti dTk_skipBlanks_21 fTk_28 rfl ?_
    refine pm_callV dTk_skipBlanks_24 lTk_45 vTp_byteAt ⟨_, _, rfl⟩ (Tp_byteAt_ok _ _ _ _ hR _ _ _ (hp.2 h13).1) rfl rfl rfl (Nat.le_of_ble_eq_true rfl) (Nat.le_refl _) (Nat.le_refl _) ?_
    refine pm_istore_n dTk_skipBlanks_27 (by decide) rfl ?_
    refine pm_iload_n dTk_skipBlanks_28 rfl ?_
    refine pm_if_eq 47 dTk_skipBlanks_29 (by decide) (fun h29 => ?_) (fun h29 => ?_)
    ·
      refine pm_iload_n dTk_skipBlanks_47 rfl ?_
      refine pm_bipush (v := 35) dTk_skipBlanks_48 (by decide) ?_
      refine pm_icmp_ne 58 dTk_skipBlanks_50 (by decide) (fun h50 => ?_) (fun h50 => ?_)
      ·
        refine pm_iload_n dTk_skipBlanks_58 rfl ?_
        refine pm_bipush (v := 32) dTk_skipBlanks_59 (by decide) ?_
        refine pm_icmp_eq 83 dTk_skipBlanks_61 (by decide) (fun h61 => ?_) (fun h61 => ?_)
        ·
          refine pm_wk [1, 2, 0] rfl ?_
          exact Tk_skipBlanks_n83 g d ex R hR _ _ (fTk_skipBlanks_2 n) (pTk_skipBlanks_2 n) ih  _ _ _ _ ((((hp.2 h13).2.1 h29).2 h50).1 h61) ho (hz.trans (by first | (simp only [fTk_skipBlanks_2, if_neg h13, if_pos h29, if_neg h50, if_pos h61]; done) | (simp only [fTk_skipBlanks_2, if_neg h13, if_pos h29, if_neg h50, if_pos h61]; rfl) | rfl))
        ·
          refine pm_iload_n dTk_skipBlanks_64 rfl ?_
          refine pm_bipush (v := 9) dTk_skipBlanks_65 (by decide) ?_
          refine pm_icmp_eq 83 dTk_skipBlanks_67 (by decide) (fun h67 => ?_) (fun h67 => ?_)
          ·
            refine pm_wk [1, 2, 0] rfl ?_
            exact Tk_skipBlanks_n83 g d ex R hR _ _ (fTk_skipBlanks_2 n) (pTk_skipBlanks_2 n) ih  _ _ _ _ (((((hp.2 h13).2.1 h29).2 h50).2 h61).1 h67) ho (hz.trans (by first | (simp only [fTk_skipBlanks_2, if_neg h13, if_pos h29, if_neg h50, if_neg h61, if_pos h67]; done) | (simp only [fTk_skipBlanks_2, if_neg h13, if_pos h29, if_neg h50, if_neg h61, if_pos h67]; rfl) | rfl))
          ·
            refine pm_iload_n dTk_skipBlanks_70 rfl ?_
            refine pm_bipush (v := 10) dTk_skipBlanks_71 (by decide) ?_
            refine pm_icmp_eq 83 dTk_skipBlanks_73 (by decide) (fun h73 => ?_) (fun h73 => ?_)
            ·
              refine pm_wk [1, 2, 0] rfl ?_
              exact Tk_skipBlanks_n83 g d ex R hR _ _ (fTk_skipBlanks_2 n) (pTk_skipBlanks_2 n) ih  _ _ _ _ ((((((hp.2 h13).2.1 h29).2 h50).2 h61).2 h67).1 h73) ho (hz.trans (by first | (simp only [fTk_skipBlanks_2, if_neg h13, if_pos h29, if_neg h50, if_neg h61, if_neg h67, if_pos h73]; done) | (simp only [fTk_skipBlanks_2, if_neg h13, if_pos h29, if_neg h50, if_neg h61, if_neg h67, if_pos h73]; rfl) | rfl))
            ·
              refine pm_iload_n dTk_skipBlanks_76 rfl ?_
              refine pm_bipush (v := 13) dTk_skipBlanks_77 (by decide) ?_
              refine pm_icmp_eq 83 dTk_skipBlanks_79 (by decide) (fun h79 => ?_) (fun h79 => ?_)
              ·
                refine pm_wk [1, 2, 0] rfl ?_
                exact Tk_skipBlanks_n83 g d ex R hR _ _ (fTk_skipBlanks_2 n) (pTk_skipBlanks_2 n) ih  _ _ _ _ (((((((hp.2 h13).2.1 h29).2 h50).2 h61).2 h67).2 h73).1 h79) ho (hz.trans (by first | (simp only [fTk_skipBlanks_2, if_neg h13, if_pos h29, if_neg h50, if_neg h61, if_neg h67, if_neg h73, if_pos h79]; done) | (simp only [fTk_skipBlanks_2, if_neg h13, if_pos h29, if_neg h50, if_neg h61, if_neg h67, if_neg h73, if_pos h79]; rfl) | rfl))
              ·
                exact pm_vret dTk_skipBlanks_82 rfl ho (hz.trans (by first | (simp only [fTk_skipBlanks_2, if_neg h13, if_pos h29, if_neg h50, if_neg h61, if_neg h67, if_neg h73, if_neg h79]; done) | (simp only [fTk_skipBlanks_2, if_neg h13, if_pos h29, if_neg h50, if_neg h61, if_neg h67, if_neg h73, if_neg h79]; rfl) | rfl))
      ·
        refine pm_iconst (v := 1) dTk_skipBlanks_53 (by decide) ?_
        refine pm_istore_n dTk_skipBlanks_54 (by decide) rfl ?_
        refine pm_goto 83 dTk_skipBlanks_55 (by decide) ?_
        refine pm_wk [2, 0, 1] rfl ?_
        exact Tk_skipBlanks_n83 g d ex R hR _ _ (fTk_skipBlanks_2 n) (pTk_skipBlanks_2 n) ih  _ _ _ _ (((hp.2 h13).2.1 h29).1 h50) ho (hz.trans (by first | (simp only [fTk_skipBlanks_2, if_neg h13, if_pos h29, if_pos h50]; done) | (simp only [fTk_skipBlanks_2, if_neg h13, if_pos h29, if_pos h50]; rfl) | rfl))
    ·
      refine pm_iload_n dTk_skipBlanks_32 rfl ?_
      refine pm_bipush (v := 10) dTk_skipBlanks_33 (by decide) ?_
      refine pm_icmp_eq 42 dTk_skipBlanks_35 (by decide) (fun h35 => ?_) (fun h35 => ?_)
      ·
        refine pm_iconst (v := 0) dTk_skipBlanks_42 (by decide) ?_
        refine pm_wk [1, 2, 0] rfl ?_
        exact Tk_skipBlanks_n43 g d ex R hR _ _ (fTk_skipBlanks_2 n) (pTk_skipBlanks_2 n) ih  _ _ _ _ _ (((hp.2 h13).2.2 h29).1 h35) ho (hz.trans (by first | (simp only [fTk_skipBlanks_2, if_neg h13, if_neg h29, if_pos h35]; done) | (simp only [fTk_skipBlanks_2, if_neg h13, if_neg h29, if_pos h35]; rfl) | rfl))
      ·
        refine pm_iconst (v := 1) dTk_skipBlanks_38 (by decide) ?_
        refine pm_goto 43 dTk_skipBlanks_39 (by decide) ?_
        refine pm_wk [1, 2, 0] rfl ?_
        exact Tk_skipBlanks_n43 g d ex R hR _ _ (fTk_skipBlanks_2 n) (pTk_skipBlanks_2 n) ih  _ _ _ _ _ (((hp.2 h13).2.2 h29).2 h35) ho (hz.trans (by first | (simp only [fTk_skipBlanks_2, if_neg h13, if_neg h29, if_neg h35]; done) | (simp only [fTk_skipBlanks_2, if_neg h13, if_neg h29, if_neg h35]; rfl) | rfl))
set_option maxHeartbeats 4000000 in
set_option maxRecDepth 100000 in
theorem Tk_skipBlanks_n0 (g : pmG) (d : Nat) (ex : List (Nat × Nat)) (R : Nat → Nat → Value) (hR : pk_R R) (o : Outcome) (Z : pmM) (n2 : Nat) (I : Nat → Nat → Int32) (J : Nat → Nat → Int64) (hp : pTk_skipBlanks n2 I J) (ho : o = .returned none) (hz : Z = (pk_K ++ ex, R, (fTk_skipBlanks n2 I J), J)) : pmE g kTk_skipBlanks (d + 1) 0 0 0 [(0, .ref 17)] [] (pk_K ++ ex) R I J o Z := by
  unfold pTk_skipBlanks at hp
  refine pm_iconst (v := 0) dTk_skipBlanks_0 (by decide) ?_
  refine pm_istore_n dTk_skipBlanks_1 (by decide) rfl ?_
  refine pm_wk [1, 0] rfl ?_
  exact Tk_skipBlanks_n2 g d ex R hR _ _  n2 _ _ _ hp ho (hz.trans (by first | rfl | (simp only [fTk_skipBlanks]; done) | (simp only [fTk_skipBlanks]; rfl)))
set_option maxHeartbeats 4000000 in
set_option maxRecDepth 100000 in
theorem Tk_skipBlanks_ok (g : pmG) (d : Nat) (ex : List (Nat × Nat)) (R : Nat → Nat → Value) (hR : pk_R R) (n2 : Nat)  (I : Nat → Nat → Int32) (J : Nat → Nat → Int64) (hp : pTk_skipBlanks n2 I J) : pmC g kTk_skipBlanks (d + 1) 0 0 [.ref 17] (pk_K ++ ex, R, I, J) (.returned none) (pk_K ++ ex, R, (fTk_skipBlanks n2 I J), J) :=
  pmC.of (by decide) (Nat.le_of_ble_eq_true rfl) (Tk_skipBlanks_n0 g d ex R hR _ _ n2  I J hp rfl rfl)
def fTk_scanNumber_71  (y1 : Int32) (y2 : Int32) (y3 : Int32) (I : Nat → Nat → Int32) (J : Nat → Nat → Int64) : Int32 × (Nat → Nat → Int32) :=
  if ((I 17 6) - y2) ≤ (9 : Int32) then ((44 : Int32), pm_u I 21 y1.toNatClampNeg y3)
  else ((46 : Int32), pm_u I 21 y1.toNatClampNeg y3)
def pTk_scanNumber_71  (y1 : Int32) (y2 : Int32) (y3 : Int32) (I : Nat → Nat → Int32) (J : Nat → Nat → Int64) : Prop :=
  (vp_in y1 4001) ∧ ((((I 17 6) - y2) ≤ (9 : Int32) → True) ∧
  (¬ (((I 17 6) - y2) ≤ (9 : Int32)) → True))
def fTk_scanNumber_7  : Nat → Int32 → Int32 → Int32 → (Nat → Nat → Int32) → (Nat → Nat → Int64) → Int32 × (Nat → Nat → Int32)
  | 0, _, _, _, I, _ => (0, I)
  | n + 1, y1, y2, y3, I, J =>
  if (I 1 1) ≤ (I 17 6) then fTk_scanNumber_71 y1 y2 y3 I J
  else if ((fTk_isDigit ((fTp_byteAt (I 17 6) I J)))) = 0 then fTk_scanNumber_71 y1 y2 y3 I J
    else fTk_scanNumber_7 n y1 y2 (((y3 * (10 : Int32)) + ((fTp_byteAt (I 17 6) I J))) - (48 : Int32)) (pm_u I 17 6 ((I 17 6) + (1 : Int32))) J
def pTk_scanNumber_7  : Nat → Int32 → Int32 → Int32 → (Nat → Nat → Int32) → (Nat → Nat → Int64) → Prop
  | 0, _, _, _, _, _ => False
  | n + 1, y1, y2, y3, I, J =>
  ((I 1 1) ≤ (I 17 6) → pTk_scanNumber_71 y1 y2 y3 I J) ∧
  (¬ ((I 1 1) ≤ (I 17 6)) → (pTp_byteAt (I 17 6) I J) ∧ ((pTk_isDigit ((fTp_byteAt (I 17 6) I J))) ∧ ((((fTk_isDigit ((fTp_byteAt (I 17 6) I J)))) = 0 → pTk_scanNumber_71 y1 y2 y3 I J) ∧
    (¬ (((fTk_isDigit ((fTp_byteAt (I 17 6) I J)))) = 0) → (pTp_byteAt (I 17 6) I J) ∧ (pTk_scanNumber_7 n y1 y2 (((y3 * (10 : Int32)) + ((fTp_byteAt (I 17 6) I J))) - (48 : Int32)) (pm_u I 17 6 ((I 17 6) + (1 : Int32))) J)))))
def fTk_scanNumber (n7 : Nat) (y1 : Int32) (I : Nat → Nat → Int32) (J : Nat → Nat → Int64) : Int32 × (Nat → Nat → Int32) :=
  fTk_scanNumber_7 n7 y1 (I 17 6) (0 : Int32) I J
def pTk_scanNumber (n7 : Nat) (y1 : Int32) (I : Nat → Nat → Int32) (J : Nat → Nat → Int64) : Prop :=
  pTk_scanNumber_7 n7 y1 (I 17 6) (0 : Int32) I J
set_option maxHeartbeats 4000000 in
set_option maxRecDepth 100000 in
theorem Tk_scanNumber_n71 (g : pmG) (d : Nat) (ex : List (Nat × Nat)) (R : Nat → Nat → Value) (hR : pk_R R) (o : Outcome) (Z : pmM)  (y1 : Int32) (y2 : Int32) (y3 : Int32) (I : Nat → Nat → Int32) (J : Nat → Nat → Int64) (hp : pTk_scanNumber_71 y1 y2 y3 I J) (ho : o = .returned (some (.int (fTk_scanNumber_71 y1 y2 y3 I J).1))) (hz : Z = (pk_K ++ ex, R, (fTk_scanNumber_71 y1 y2 y3 I J).2, J)) : pmE g kTk_scanNumber (d + 1) 0 0 71 [(0, .ref 17), (1, .int y1), (2, .int y2), (3, .int y3)] [] (pk_K ++ ex) R I J o Z := by
  unfold pTk_scanNumber_71 at hp
  refine pm_aload_n dTk_scanNumber_71 rfl ?_
  refine pm_getr dTk_scanNumber_72 fTk_21 rfl (rr_17_4 hR) ?_
  refine pm_iload_n dTk_scanNumber_75 rfl ?_
  refine pm_iload_n dTk_scanNumber_76 rfl ?_
  refine pm_iast dTk_scanNumber_77 rfl hp.1 ?_
  refine pm_aload_n dTk_scanNumber_78 rfl ?_
  refine pm_geti dTk_scanNumber_79 fTk_28 rfl ?_
  refine pm_eqi (I 17 6) rfl ?_
  refine pm_iload_n dTk_scanNumber_82 rfl ?_
  refine pm_isub dTk_scanNumber_83 ?_
  refine pm_bipush (v := 9) dTk_scanNumber_84 (by decide) ?_
  refine pm_icmp_le 94 dTk_scanNumber_86 (by decide) (fun h86 => ?_) (fun h86 => ?_)
  ·
    refine pm_bipush (v := 44) dTk_scanNumber_94 (by decide) ?_
    exact pm_iret dTk_scanNumber_96 rfl (ho.trans (by first | (simp only [fTk_scanNumber_71, if_pos h86]; done) | (simp only [fTk_scanNumber_71, if_pos h86]; rfl) | rfl)) (hz.trans (by first | (simp only [fTk_scanNumber_71, if_pos h86]; done) | (simp only [fTk_scanNumber_71, if_pos h86]; rfl) | rfl))
  ·
    refine pm_bipush (v := 46) dTk_scanNumber_89 (by decide) ?_
    refine pm_goto 96 dTk_scanNumber_91 (by decide) ?_
    exact pm_iret dTk_scanNumber_96 rfl (ho.trans (by first | (simp only [fTk_scanNumber_71, if_neg h86]; done) | (simp only [fTk_scanNumber_71, if_neg h86]; rfl) | rfl)) (hz.trans (by first | (simp only [fTk_scanNumber_71, if_neg h86]; done) | (simp only [fTk_scanNumber_71, if_neg h86]; rfl) | rfl))
set_option maxHeartbeats 4000000 in
set_option maxRecDepth 100000 in
theorem Tk_scanNumber_n7 (g : pmG) (d : Nat) (ex : List (Nat × Nat)) (R : Nat → Nat → Value) (hR : pk_R R) (o : Outcome) (Z : pmM)  : ∀ (n : Nat) (y1 : Int32) (y2 : Int32) (y3 : Int32) (I : Nat → Nat → Int32) (J : Nat → Nat → Int64), pTk_scanNumber_7 n y1 y2 y3 I J → o = .returned (some (.int (fTk_scanNumber_7 n y1 y2 y3 I J).1)) → Z = (pk_K ++ ex, R, (fTk_scanNumber_7 n y1 y2 y3 I J).2, J) → pmE g kTk_scanNumber (d + 1) 0 0 7 [(0, .ref 17), (1, .int y1), (2, .int y2), (3, .int y3)] [] (pk_K ++ ex) R I J o Z := by
  intro n
  induction n with
  | zero => intro y1 y2 y3 I J hp; exact False.elim hp
  | succ n ih =>
  intro y1 y2 y3 I J hp ho hz
  simp only [pTk_scanNumber_7] at hp
  refine pm_aload_n dTk_scanNumber_7 rfl ?_
  refine pm_geti dTk_scanNumber_8 fTk_28 rfl ?_
  refine pm_aload_n dTk_scanNumber_11 rfl ?_
  refine pm_getr dTk_scanNumber_12 fTk_24 rfl (rr_17_0 hR) ?_
  refine pm_geti dTk_scanNumber_15 fTk_42 rfl ?_
  refine pm_icmp_ge 71 dTk_scanNumber_18 (by decide) (fun h18 => ?_) (fun h18 => ?_)
  ·
    refine pm_wk [0, 1, 2, 3] rfl ?_
    exact Tk_scanNumber_n71 g d ex R hR _ _   _ _ _ _ _ (hp.1 h18) (ho.trans (by first | (simp only [fTk_scanNumber_7, if_pos h18]; done) | (simp only [fTk_scanNumber_7, if_pos h18]; rfl) | rfl)) (hz.trans (by first | (simp only [fTk_scanNumber_7, if_pos h18]; done) | (simp only [fTk_scanNumber_7, if_pos h18]; rfl) | rfl))
  ·
    refine pm_aload_n dTk_scanNumber_21 rfl ?_
    refine pm_getr dTk_scanNumber_22 fTk_24 rfl (rr_17_0 hR) ?_
    refine pm_aload_n dTk_scanNumber_25 rfl ?_
    refine pm_geti dTk_scanNumber_26 fTk_28 rfl ?_
    refine pm_callV dTk_scanNumber_29 lTk_45 vTp_byteAt ⟨_, _, rfl⟩ (Tp_byteAt_ok _ _ _ _ hR _ _ _ (hp.2 h18).1) rfl rfl rfl (Nat.le_of_ble_eq_true rfl) (Nat.le_refl _) (Nat.le_refl _) ?_
    refine pm_callS dTk_scanNumber_32 lTk_56 tTk_isDigit (Tk_isDigit_ok _ _ _ _ _ _ _ (hp.2 h18).2.1) rfl rfl (Nat.le_of_ble_eq_true rfl) (Nat.le_refl _) (Nat.le_refl _) ?_
    refine pm_if_eq 71 dTk_scanNumber_35 (by decide) (fun h35 => ?_) (fun h35 => ?_)
    ·
      refine pm_wk [0, 1, 2, 3] rfl ?_
      exact Tk_scanNumber_n71 g d ex R hR _ _   _ _ _ _ _ ((hp.2 h18).2.2.1 h35) (ho.trans (by first | (simp only [fTk_scanNumber_7, if_neg h18, if_pos h35]; done) | (simp only [fTk_scanNumber_7, if_neg h18, if_pos h35]; rfl) | rfl)) (hz.trans (by first | (simp only [fTk_scanNumber_7, if_neg h18, if_pos h35]; done) | (simp only [fTk_scanNumber_7, if_neg h18, if_pos h35]; rfl) | rfl))
    ·
      refine pm_iload_n dTk_scanNumber_38 rfl ?_
      refine pm_bipush (v := 10) dTk_scanNumber_39 (by decide) ?_
      refine pm_imul dTk_scanNumber_41 ?_
      refine pm_aload_n dTk_scanNumber_42 rfl ?_
      refine pm_getr dTk_scanNumber_43 fTk_24 rfl (rr_17_0 hR) ?_
      refine pm_aload_n dTk_scanNumber_46 rfl ?_
      refine pm_geti dTk_scanNumber_47 fTk_28 rfl ?_
      refine pm_callV dTk_scanNumber_50 lTk_45 vTp_byteAt ⟨_, _, rfl⟩ (Tp_byteAt_ok _ _ _ _ hR _ _ _ ((hp.2 h18).2.2.2 h35).1) rfl rfl rfl (Nat.le_of_ble_eq_true rfl) (Nat.le_refl _) (Nat.le_refl _) ?_
      refine pm_iadd dTk_scanNumber_53 ?_
      refine pm_bipush (v := 48) dTk_scanNumber_54 (by decide) ?_
      refine pm_isub dTk_scanNumber_56 ?_
      refine pm_istore_n dTk_scanNumber_57 (by decide) rfl ?_
      refine pm_aload_n dTk_scanNumber_58 rfl ?_
      refine pm_dup dTk_scanNumber_59 rfl ?_
      refine pm_geti dTk_scanNumber_60 fTk_28 rfl ?_
      refine pm_iconst (v := 1) dTk_scanNumber_63 (by decide) ?_
      refine pm_iadd dTk_scanNumber_64 ?_
      refine pm_puti dTk_scanNumber_65 fTk_28 sTk_28 (fun h => by cases h) rfl rfl rfl ?_
      refine pm_goto 7 dTk_scanNumber_68 (by decide) ?_
      refine pm_wk [1, 2, 3, 0] rfl ?_
      exact ih _ _ _ _ _ ((hp.2 h18).2.2.2 h35).2 (ho.trans (by first | (simp only [fTk_scanNumber_7, if_neg h18, if_neg h35]; done) | (simp only [fTk_scanNumber_7, if_neg h18, if_neg h35]; rfl) | rfl)) (hz.trans (by first | (simp only [fTk_scanNumber_7, if_neg h18, if_neg h35]; done) | (simp only [fTk_scanNumber_7, if_neg h18, if_neg h35]; rfl) | rfl))
set_option maxHeartbeats 4000000 in
set_option maxRecDepth 100000 in
theorem Tk_scanNumber_n0 (g : pmG) (d : Nat) (ex : List (Nat × Nat)) (R : Nat → Nat → Value) (hR : pk_R R) (o : Outcome) (Z : pmM) (n7 : Nat) (y1 : Int32) (I : Nat → Nat → Int32) (J : Nat → Nat → Int64) (hp : pTk_scanNumber n7 y1 I J) (ho : o = .returned (some (.int (fTk_scanNumber n7 y1 I J).1))) (hz : Z = (pk_K ++ ex, R, (fTk_scanNumber n7 y1 I J).2, J)) : pmE g kTk_scanNumber (d + 1) 0 0 0 [(0, .ref 17), (1, .int y1)] [] (pk_K ++ ex) R I J o Z := by
  unfold pTk_scanNumber at hp
  refine pm_aload_n dTk_scanNumber_0 rfl ?_
  refine pm_geti dTk_scanNumber_1 fTk_28 rfl ?_
  refine pm_istore_n dTk_scanNumber_4 (by decide) rfl ?_
  refine pm_iconst (v := 0) dTk_scanNumber_5 (by decide) ?_
  refine pm_istore_n dTk_scanNumber_6 (by decide) rfl ?_
  refine pm_wk [2, 3, 1, 0] rfl ?_
  exact Tk_scanNumber_n7 g d ex R hR _ _  n7 _ _ _ _ _ hp (ho.trans (by first | rfl | (simp only [fTk_scanNumber]; done) | (simp only [fTk_scanNumber]; rfl))) (hz.trans (by first | rfl | (simp only [fTk_scanNumber]; done) | (simp only [fTk_scanNumber]; rfl)))
set_option maxHeartbeats 4000000 in
set_option maxRecDepth 100000 in
theorem Tk_scanNumber_ok (g : pmG) (d : Nat) (ex : List (Nat × Nat)) (R : Nat → Nat → Value) (hR : pk_R R) (n7 : Nat) (x0 : Int32) (I : Nat → Nat → Int32) (J : Nat → Nat → Int64) (hp : pTk_scanNumber n7 x0 I J) : pmC g kTk_scanNumber (d + 1) 0 0 [.ref 17, .int x0] (pk_K ++ ex, R, I, J) (.returned (some (.int (fTk_scanNumber n7 x0 I J).1))) (pk_K ++ ex, R, (fTk_scanNumber n7 x0 I J).2, J) :=
  pmC.of (by decide) (Nat.le_of_ble_eq_true rfl) (Tk_scanNumber_n0 g d ex R hR _ _ n7 x0 I J hp rfl rfl)
def fTk_kindOfShortWord_65  (y1 : Int32) (y2 : Int32) (y3 : Int32) (I : Nat → Nat → Int32) (J : Nat → Nat → Int64) : Int32 :=
  if ((fTp_byteAt (y1 + (1 : Int32)) I J)) = 70 then if y3 = (65 : Int32) then (39 : Int32)
    else (40 : Int32)
  else if ((fTp_byteAt (y1 + (1 : Int32)) I J)) = 71 then if y3 = (65 : Int32) then (41 : Int32)
    else (42 : Int32)
  else if ((fTp_byteAt (y1 + (1 : Int32)) I J)) = 88 then if y3 = (65 : Int32) then (37 : Int32)
    else (38 : Int32)
  else (43 : Int32)
def pTk_kindOfShortWord_65  (y1 : Int32) (y2 : Int32) (y3 : Int32) (I : Nat → Nat → Int32) (J : Nat → Nat → Int64) : Prop :=
  (pTp_byteAt (y1 + (1 : Int32)) I J) ∧ ((((fTp_byteAt (y1 + (1 : Int32)) I J)) = 70 → (y3 = (65 : Int32) → True) ∧
    (¬ (y3 = (65 : Int32)) → True)) ∧
  (¬ (((fTp_byteAt (y1 + (1 : Int32)) I J)) = 70) → (((fTp_byteAt (y1 + (1 : Int32)) I J)) = 71 → (y3 = (65 : Int32) → True) ∧
    (¬ (y3 = (65 : Int32)) → True)) ∧
  (¬ (((fTp_byteAt (y1 + (1 : Int32)) I J)) = 71) → (((fTp_byteAt (y1 + (1 : Int32)) I J)) = 88 → (y3 = (65 : Int32) → True) ∧
    (¬ (y3 = (65 : Int32)) → True)) ∧
  (¬ (((fTp_byteAt (y1 + (1 : Int32)) I J)) = 88) → True))))
def fTk_kindOfShortWord  (y1 : Int32) (y2 : Int32) (I : Nat → Nat → Int32) (J : Nat → Nat → Int64) : Int32 :=
  if y2 = (1 : Int32) then if ((fTp_byteAt y1 I J)) = (65 : Int32) then (34 : Int32)
    else if ((fTp_byteAt y1 I J)) = (69 : Int32) then (35 : Int32)
      else if ((fTp_byteAt y1 I J)) = (85 : Int32) then (36 : Int32)
        else (43 : Int32)
  else if ((fTp_byteAt y1 I J)) = (65 : Int32) then fTk_kindOfShortWord_65 y1 y2 ((fTp_byteAt y1 I J)) I J
    else if ((fTp_byteAt y1 I J)) = (69 : Int32) then fTk_kindOfShortWord_65 y1 y2 ((fTp_byteAt y1 I J)) I J
      else (43 : Int32)
def pTk_kindOfShortWord  (y1 : Int32) (y2 : Int32) (I : Nat → Nat → Int32) (J : Nat → Nat → Int64) : Prop :=
  (pTp_byteAt y1 I J) ∧ ((y2 = (1 : Int32) → (((fTp_byteAt y1 I J)) = (65 : Int32) → True) ∧
    (¬ (((fTp_byteAt y1 I J)) = (65 : Int32)) → (((fTp_byteAt y1 I J)) = (69 : Int32) → True) ∧
      (¬ (((fTp_byteAt y1 I J)) = (69 : Int32)) → (((fTp_byteAt y1 I J)) = (85 : Int32) → True) ∧
        (¬ (((fTp_byteAt y1 I J)) = (85 : Int32)) → True)))) ∧
  (¬ (y2 = (1 : Int32)) → (((fTp_byteAt y1 I J)) = (65 : Int32) → pTk_kindOfShortWord_65 y1 y2 ((fTp_byteAt y1 I J)) I J) ∧
    (¬ (((fTp_byteAt y1 I J)) = (65 : Int32)) → (((fTp_byteAt y1 I J)) = (69 : Int32) → pTk_kindOfShortWord_65 y1 y2 ((fTp_byteAt y1 I J)) I J) ∧
      (¬ (((fTp_byteAt y1 I J)) = (69 : Int32)) → True))))
set_option maxHeartbeats 4000000 in
set_option maxRecDepth 100000 in
theorem Tk_kindOfShortWord_n65 (g : pmG) (d : Nat) (ex : List (Nat × Nat)) (R : Nat → Nat → Value) (hR : pk_R R) (o : Outcome) (Z : pmM)  (y1 : Int32) (y2 : Int32) (y3 : Int32) (I : Nat → Nat → Int32) (J : Nat → Nat → Int64) (hp : pTk_kindOfShortWord_65 y1 y2 y3 I J) (ho : o = .returned (some (.int (fTk_kindOfShortWord_65 y1 y2 y3 I J)))) (hz : Z = (pk_K ++ ex, R, I, J)) : pmE g kTk_kindOfShortWord (d + 1) 0 0 65 [(0, .ref 17), (1, .int y1), (2, .int y2), (3, .int y3)] [] (pk_K ++ ex) R I J o Z := by
  unfold pTk_kindOfShortWord_65 at hp
  refine pm_aload_n dTk_kindOfShortWord_65 rfl ?_
  refine pm_getr dTk_kindOfShortWord_66 fTk_24 rfl (rr_17_0 hR) ?_
  refine pm_iload_n dTk_kindOfShortWord_69 rfl ?_
  refine pm_iconst (v := 1) dTk_kindOfShortWord_70 (by decide) ?_
  refine pm_iadd dTk_kindOfShortWord_71 ?_
  refine pm_callV dTk_kindOfShortWord_72 lTk_45 vTp_byteAt ⟨_, _, rfl⟩ (Tp_byteAt_ok _ _ _ _ hR _ _ _ hp.1) rfl rfl rfl (Nat.le_of_ble_eq_true rfl) (Nat.le_refl _) (Nat.le_refl _) ?_
  by_cases h75_70 : ((fTp_byteAt (y1 + (1 : Int32)) I J)) = 70
  ·
    refine pm_lookup 122 dTk_kindOfShortWord_75 (by decide) (by first | (rw [h75_70]; rfl) | rw [h75_70]) (by decide) ?_
    refine pm_iload_n dTk_kindOfShortWord_122 rfl ?_
    refine pm_bipush (v := 65) dTk_kindOfShortWord_123 (by decide) ?_
    refine pm_icmp_ne 133 dTk_kindOfShortWord_125 (by decide) (fun h125 => ?_) (fun h125 => ?_)
    ·
      refine pm_bipush (v := 40) dTk_kindOfShortWord_133 (by decide) ?_
      exact pm_iret dTk_kindOfShortWord_135 rfl (ho.trans (by first | (simp only [fTk_kindOfShortWord_65, if_pos h75_70, if_neg h125]; done) | (simp only [fTk_kindOfShortWord_65, if_pos h75_70, if_neg h125]; rfl) | rfl)) (hz.trans (by first | (simp only [fTk_kindOfShortWord_65, if_pos h75_70, if_neg h125]; done) | (simp only [fTk_kindOfShortWord_65, if_pos h75_70, if_neg h125]; rfl) | rfl))
    ·
      refine pm_bipush (v := 39) dTk_kindOfShortWord_128 (by decide) ?_
      refine pm_goto 135 dTk_kindOfShortWord_130 (by decide) ?_
      exact pm_iret dTk_kindOfShortWord_135 rfl (ho.trans (by first | (simp only [fTk_kindOfShortWord_65, if_pos h75_70, if_pos h125]; done) | (simp only [fTk_kindOfShortWord_65, if_pos h75_70, if_pos h125]; rfl) | rfl)) (hz.trans (by first | (simp only [fTk_kindOfShortWord_65, if_pos h75_70, if_pos h125]; done) | (simp only [fTk_kindOfShortWord_65, if_pos h75_70, if_pos h125]; rfl) | rfl))
  ·
    by_cases h75_71 : ((fTp_byteAt (y1 + (1 : Int32)) I J)) = 71
    ·
      refine pm_lookup 136 dTk_kindOfShortWord_75 (by decide) (by first | (rw [h75_71]; rfl) | rw [h75_71]) (by decide) ?_
      refine pm_iload_n dTk_kindOfShortWord_136 rfl ?_
      refine pm_bipush (v := 65) dTk_kindOfShortWord_137 (by decide) ?_
      refine pm_icmp_ne 147 dTk_kindOfShortWord_139 (by decide) (fun h139 => ?_) (fun h139 => ?_)
      ·
        refine pm_bipush (v := 42) dTk_kindOfShortWord_147 (by decide) ?_
        exact pm_iret dTk_kindOfShortWord_149 rfl (ho.trans (by first | (simp only [fTk_kindOfShortWord_65, if_neg h75_70, if_pos h75_71, if_neg h139]; done) | (simp only [fTk_kindOfShortWord_65, if_neg h75_70, if_pos h75_71, if_neg h139]; rfl) | rfl)) (hz.trans (by first | (simp only [fTk_kindOfShortWord_65, if_neg h75_70, if_pos h75_71, if_neg h139]; done) | (simp only [fTk_kindOfShortWord_65, if_neg h75_70, if_pos h75_71, if_neg h139]; rfl) | rfl))
      ·
        refine pm_bipush (v := 41) dTk_kindOfShortWord_142 (by decide) ?_
        refine pm_goto 149 dTk_kindOfShortWord_144 (by decide) ?_
        exact pm_iret dTk_kindOfShortWord_149 rfl (ho.trans (by first | (simp only [fTk_kindOfShortWord_65, if_neg h75_70, if_pos h75_71, if_pos h139]; done) | (simp only [fTk_kindOfShortWord_65, if_neg h75_70, if_pos h75_71, if_pos h139]; rfl) | rfl)) (hz.trans (by first | (simp only [fTk_kindOfShortWord_65, if_neg h75_70, if_pos h75_71, if_pos h139]; done) | (simp only [fTk_kindOfShortWord_65, if_neg h75_70, if_pos h75_71, if_pos h139]; rfl) | rfl))
    ·
      by_cases h75_88 : ((fTp_byteAt (y1 + (1 : Int32)) I J)) = 88
      ·
        refine pm_lookup 108 dTk_kindOfShortWord_75 (by decide) (by first | (rw [h75_88]; rfl) | rw [h75_88]) (by decide) ?_
        refine pm_iload_n dTk_kindOfShortWord_108 rfl ?_
        refine pm_bipush (v := 65) dTk_kindOfShortWord_109 (by decide) ?_
        refine pm_icmp_ne 119 dTk_kindOfShortWord_111 (by decide) (fun h111 => ?_) (fun h111 => ?_)
        ·
          refine pm_bipush (v := 38) dTk_kindOfShortWord_119 (by decide) ?_
          exact pm_iret dTk_kindOfShortWord_121 rfl (ho.trans (by first | (simp only [fTk_kindOfShortWord_65, if_neg h75_70, if_neg h75_71, if_pos h75_88, if_neg h111]; done) | (simp only [fTk_kindOfShortWord_65, if_neg h75_70, if_neg h75_71, if_pos h75_88, if_neg h111]; rfl) | rfl)) (hz.trans (by first | (simp only [fTk_kindOfShortWord_65, if_neg h75_70, if_neg h75_71, if_pos h75_88, if_neg h111]; done) | (simp only [fTk_kindOfShortWord_65, if_neg h75_70, if_neg h75_71, if_pos h75_88, if_neg h111]; rfl) | rfl))
        ·
          refine pm_bipush (v := 37) dTk_kindOfShortWord_114 (by decide) ?_
          refine pm_goto 121 dTk_kindOfShortWord_116 (by decide) ?_
          exact pm_iret dTk_kindOfShortWord_121 rfl (ho.trans (by first | (simp only [fTk_kindOfShortWord_65, if_neg h75_70, if_neg h75_71, if_pos h75_88, if_pos h111]; done) | (simp only [fTk_kindOfShortWord_65, if_neg h75_70, if_neg h75_71, if_pos h75_88, if_pos h111]; rfl) | rfl)) (hz.trans (by first | (simp only [fTk_kindOfShortWord_65, if_neg h75_70, if_neg h75_71, if_pos h75_88, if_pos h111]; done) | (simp only [fTk_kindOfShortWord_65, if_neg h75_70, if_neg h75_71, if_pos h75_88, if_pos h111]; rfl) | rfl))
      ·
        refine pm_lookup 150 dTk_kindOfShortWord_75 (by decide) (pm_lkD [70, 71, 88] rfl (by intro q9 hq9; simp only [List.mem_cons, List.not_mem_nil, or_false] at hq9; rcases hq9 with rfl | rfl | rfl <;> assumption)) (by decide) ?_
        refine pm_bipush (v := 43) dTk_kindOfShortWord_150 (by decide) ?_
        exact pm_iret dTk_kindOfShortWord_152 rfl (ho.trans (by first | (simp only [fTk_kindOfShortWord_65, if_neg h75_70, if_neg h75_71, if_neg h75_88]; done) | (simp only [fTk_kindOfShortWord_65, if_neg h75_70, if_neg h75_71, if_neg h75_88]; rfl) | rfl)) (hz.trans (by first | (simp only [fTk_kindOfShortWord_65, if_neg h75_70, if_neg h75_71, if_neg h75_88]; done) | (simp only [fTk_kindOfShortWord_65, if_neg h75_70, if_neg h75_71, if_neg h75_88]; rfl) | rfl))
set_option maxHeartbeats 4000000 in
set_option maxRecDepth 100000 in
theorem Tk_kindOfShortWord_n0 (g : pmG) (d : Nat) (ex : List (Nat × Nat)) (R : Nat → Nat → Value) (hR : pk_R R) (o : Outcome) (Z : pmM)  (y1 : Int32) (y2 : Int32) (I : Nat → Nat → Int32) (J : Nat → Nat → Int64) (hp : pTk_kindOfShortWord y1 y2 I J) (ho : o = .returned (some (.int (fTk_kindOfShortWord y1 y2 I J)))) (hz : Z = (pk_K ++ ex, R, I, J)) : pmE g kTk_kindOfShortWord (d + 1) 0 0 0 [(0, .ref 17), (1, .int y1), (2, .int y2)] [] (pk_K ++ ex) R I J o Z := by
  unfold pTk_kindOfShortWord at hp
  refine pm_aload_n dTk_kindOfShortWord_0 rfl ?_
  refine pm_getr dTk_kindOfShortWord_1 fTk_24 rfl (rr_17_0 hR) ?_
  refine pm_iload_n dTk_kindOfShortWord_4 rfl ?_
  refine pm_callV dTk_kindOfShortWord_5 lTk_45 vTp_byteAt ⟨_, _, rfl⟩ (Tp_byteAt_ok _ _ _ _ hR _ _ _ hp.1) rfl rfl rfl (Nat.le_of_ble_eq_true rfl) (Nat.le_refl _) (Nat.le_refl _) ?_
  refine pm_istore_n dTk_kindOfShortWord_8 (by decide) rfl ?_
  refine pm_iload_n dTk_kindOfShortWord_9 rfl ?_
  refine pm_iconst (v := 1) dTk_kindOfShortWord_10 (by decide) ?_
  refine pm_icmp_ne 50 dTk_kindOfShortWord_11 (by decide) (fun h11 => ?_) (fun h11 => ?_)
  ·
    refine pm_iload_n dTk_kindOfShortWord_50 rfl ?_
    refine pm_bipush (v := 65) dTk_kindOfShortWord_51 (by decide) ?_
    refine pm_icmp_eq 65 dTk_kindOfShortWord_53 (by decide) (fun h53 => ?_) (fun h53 => ?_)
    ·
      refine pm_wk [1, 2, 3, 0] rfl ?_
      exact Tk_kindOfShortWord_n65 g d ex R hR _ _   _ _ _ _ _ ((hp.2.2 h11).1 h53) (ho.trans (by first | (simp only [fTk_kindOfShortWord, if_neg h11, if_pos h53]; done) | (simp only [fTk_kindOfShortWord, if_neg h11, if_pos h53]; rfl) | rfl)) (hz.trans (by first | (simp only [fTk_kindOfShortWord, if_neg h11, if_pos h53]; done) | (simp only [fTk_kindOfShortWord, if_neg h11, if_pos h53]; rfl) | rfl))
    ·
      refine pm_iload_n dTk_kindOfShortWord_56 rfl ?_
      refine pm_bipush (v := 69) dTk_kindOfShortWord_57 (by decide) ?_
      refine pm_icmp_eq 65 dTk_kindOfShortWord_59 (by decide) (fun h59 => ?_) (fun h59 => ?_)
      ·
        refine pm_wk [1, 2, 3, 0] rfl ?_
        exact Tk_kindOfShortWord_n65 g d ex R hR _ _   _ _ _ _ _ (((hp.2.2 h11).2 h53).1 h59) (ho.trans (by first | (simp only [fTk_kindOfShortWord, if_neg h11, if_neg h53, if_pos h59]; done) | (simp only [fTk_kindOfShortWord, if_neg h11, if_neg h53, if_pos h59]; rfl) | rfl)) (hz.trans (by first | (simp only [fTk_kindOfShortWord, if_neg h11, if_neg h53, if_pos h59]; done) | (simp only [fTk_kindOfShortWord, if_neg h11, if_neg h53, if_pos h59]; rfl) | rfl))
      ·
        refine pm_bipush (v := 43) dTk_kindOfShortWord_62 (by decide) ?_
        exact pm_iret dTk_kindOfShortWord_64 rfl (ho.trans (by first | (simp only [fTk_kindOfShortWord, if_neg h11, if_neg h53, if_neg h59]; done) | (simp only [fTk_kindOfShortWord, if_neg h11, if_neg h53, if_neg h59]; rfl) | rfl)) (hz.trans (by first | (simp only [fTk_kindOfShortWord, if_neg h11, if_neg h53, if_neg h59]; done) | (simp only [fTk_kindOfShortWord, if_neg h11, if_neg h53, if_neg h59]; rfl) | rfl))
  ·
    refine pm_iload_n dTk_kindOfShortWord_14 rfl ?_
    refine pm_bipush (v := 65) dTk_kindOfShortWord_15 (by decide) ?_
    refine pm_icmp_ne 25 dTk_kindOfShortWord_17 (by decide) (fun h17 => ?_) (fun h17 => ?_)
    ·
      refine pm_iload_n dTk_kindOfShortWord_25 rfl ?_
      refine pm_bipush (v := 69) dTk_kindOfShortWord_26 (by decide) ?_
      refine pm_icmp_ne 36 dTk_kindOfShortWord_28 (by decide) (fun h28 => ?_) (fun h28 => ?_)
      ·
        refine pm_iload_n dTk_kindOfShortWord_36 rfl ?_
        refine pm_bipush (v := 85) dTk_kindOfShortWord_37 (by decide) ?_
        refine pm_icmp_ne 47 dTk_kindOfShortWord_39 (by decide) (fun h39 => ?_) (fun h39 => ?_)
        ·
          refine pm_bipush (v := 43) dTk_kindOfShortWord_47 (by decide) ?_
          exact pm_iret dTk_kindOfShortWord_49 rfl (ho.trans (by first | (simp only [fTk_kindOfShortWord, if_pos h11, if_neg h17, if_neg h28, if_neg h39]; done) | (simp only [fTk_kindOfShortWord, if_pos h11, if_neg h17, if_neg h28, if_neg h39]; rfl) | rfl)) (hz.trans (by first | (simp only [fTk_kindOfShortWord, if_pos h11, if_neg h17, if_neg h28, if_neg h39]; done) | (simp only [fTk_kindOfShortWord, if_pos h11, if_neg h17, if_neg h28, if_neg h39]; rfl) | rfl))
        ·
          refine pm_bipush (v := 36) dTk_kindOfShortWord_42 (by decide) ?_
          refine pm_goto 49 dTk_kindOfShortWord_44 (by decide) ?_
          exact pm_iret dTk_kindOfShortWord_49 rfl (ho.trans (by first | (simp only [fTk_kindOfShortWord, if_pos h11, if_neg h17, if_neg h28, if_pos h39]; done) | (simp only [fTk_kindOfShortWord, if_pos h11, if_neg h17, if_neg h28, if_pos h39]; rfl) | rfl)) (hz.trans (by first | (simp only [fTk_kindOfShortWord, if_pos h11, if_neg h17, if_neg h28, if_pos h39]; done) | (simp only [fTk_kindOfShortWord, if_pos h11, if_neg h17, if_neg h28, if_pos h39]; rfl) | rfl))
      ·
        refine pm_bipush (v := 35) dTk_kindOfShortWord_31 (by decide) ?_
        refine pm_goto 49 dTk_kindOfShortWord_33 (by decide) ?_
        exact pm_iret dTk_kindOfShortWord_49 rfl (ho.trans (by first | (simp only [fTk_kindOfShortWord, if_pos h11, if_neg h17, if_pos h28]; done) | (simp only [fTk_kindOfShortWord, if_pos h11, if_neg h17, if_pos h28]; rfl) | rfl)) (hz.trans (by first | (simp only [fTk_kindOfShortWord, if_pos h11, if_neg h17, if_pos h28]; done) | (simp only [fTk_kindOfShortWord, if_pos h11, if_neg h17, if_pos h28]; rfl) | rfl))
    ·
      refine pm_bipush (v := 34) dTk_kindOfShortWord_20 (by decide) ?_
      refine pm_goto 49 dTk_kindOfShortWord_22 (by decide) ?_
      exact pm_iret dTk_kindOfShortWord_49 rfl (ho.trans (by first | (simp only [fTk_kindOfShortWord, if_pos h11, if_pos h17]; done) | (simp only [fTk_kindOfShortWord, if_pos h11, if_pos h17]; rfl) | rfl)) (hz.trans (by first | (simp only [fTk_kindOfShortWord, if_pos h11, if_pos h17]; done) | (simp only [fTk_kindOfShortWord, if_pos h11, if_pos h17]; rfl) | rfl))
set_option maxHeartbeats 4000000 in
set_option maxRecDepth 100000 in
theorem Tk_kindOfShortWord_ok (g : pmG) (d : Nat) (ex : List (Nat × Nat)) (R : Nat → Nat → Value) (hR : pk_R R)  (x0 : Int32) (x1 : Int32) (I : Nat → Nat → Int32) (J : Nat → Nat → Int64) (hp : pTk_kindOfShortWord x0 x1 I J) : pmC g kTk_kindOfShortWord (d + 1) 0 0 [.ref 17, .int x0, .int x1] (pk_K ++ ex, R, I, J) (.returned (some (.int (fTk_kindOfShortWord x0 x1 I J)))) (pk_K ++ ex, R, I, J) :=
  pmC.of (by decide) (Nat.le_of_ble_eq_true rfl) (Tk_kindOfShortWord_n0 g d ex R hR _ _  x0 x1 I J hp rfl rfl)
def fRd_tightness_20  (y0 : Int32) (I : Nat → Nat → Int32) (J : Nat → Nat → Int64) : Int32 :=
  (0 : Int32)
def pRd_tightness_20  (y0 : Int32) (I : Nat → Nat → Int32) (J : Nat → Nat → Int64) : Prop :=
  True
def fRd_tightness  (y0 : Int32) (I : Nat → Nat → Int32) (J : Nat → Nat → Int64) : Int32 :=
  if y0 < 0 then fRd_tightness_20 y0 I J
  else if (29 : Int32) ≤ y0 then fRd_tightness_20 y0 I J
    else pk_TI.getD y0.toNatClampNeg 0
def pRd_tightness  (y0 : Int32) (I : Nat → Nat → Int32) (J : Nat → Nat → Int64) : Prop :=
  (y0 < 0 → pRd_tightness_20 y0 I J) ∧
  (¬ (y0 < 0) → ((29 : Int32) ≤ y0 → pRd_tightness_20 y0 I J) ∧
    (¬ ((29 : Int32) ≤ y0) → (vp_in y0 29) ∧ True))
set_option maxHeartbeats 4000000 in
set_option maxRecDepth 100000 in
theorem Rd_tightness_n20 (g : pmG) (d : Nat) (ex : List (Nat × Nat)) (R : Nat → Nat → Value) (hR : pk_R R) (o : Outcome) (Z : pmM)  (y0 : Int32) (I : Nat → Nat → Int32) (J : Nat → Nat → Int64) (hp : pRd_tightness_20 y0 I J) (ho : o = .returned (some (.int (fRd_tightness_20 y0 I J)))) (hz : Z = (pk_K ++ ex, R, I, J)) : pmE g kRd_tightness d 0 0 20 [(0, .int y0)] [] (pk_K ++ ex) R I J o Z := by
  unfold pRd_tightness_20 at hp
  refine pm_iconst (v := 0) dRd_tightness_20 (by decide) ?_
  exact pm_iret dRd_tightness_21 rfl (ho.trans (by first | rfl | (simp only [fRd_tightness_20]; done) | (simp only [fRd_tightness_20]; rfl))) (hz.trans (by first | rfl | (simp only [fRd_tightness_20]; done) | (simp only [fRd_tightness_20]; rfl)))
set_option maxHeartbeats 4000000 in
set_option maxRecDepth 100000 in
theorem Rd_tightness_n0 (g : pmG) (d : Nat) (ex : List (Nat × Nat)) (R : Nat → Nat → Value) (hR : pk_R R) (o : Outcome) (Z : pmM)  (y0 : Int32) (I : Nat → Nat → Int32) (J : Nat → Nat → Int64) (hp : pRd_tightness y0 I J) (ho : o = .returned (some (.int (fRd_tightness y0 I J)))) (hz : Z = (pk_K ++ ex, R, I, J)) : pmE g kRd_tightness d 0 0 0 [(0, .int y0)] [] (pk_K ++ ex) R I J o Z := by
  unfold pRd_tightness at hp
  refine pm_iload_n dRd_tightness_0 rfl ?_
  refine pm_if_lt 20 dRd_tightness_1 (by decide) (fun h1 => ?_) (fun h1 => ?_)
  ·
    refine pm_wk [0] rfl ?_
    exact Rd_tightness_n20 g d ex R hR _ _   _ _ _ (hp.1 h1) (ho.trans (by first | (simp only [fRd_tightness, if_pos h1]; done) | (simp only [fRd_tightness, if_pos h1]; rfl) | rfl)) (hz.trans (by first | (simp only [fRd_tightness, if_pos h1]; done) | (simp only [fRd_tightness, if_pos h1]; rfl) | rfl))
  ·
    refine pm_iload_n dRd_tightness_4 rfl ?_
    refine pm_getsN dRd_tightness_5 gRd_190 xs_1 ?_
    refine pm_xlen (u := 29) dRd_tightness_8 xa_1 (by decide) ?_
    refine pm_icmp_ge 20 dRd_tightness_9 (by decide) (fun h9 => ?_) (fun h9 => ?_)
    ·
      refine pm_wk [0] rfl ?_
      exact Rd_tightness_n20 g d ex R hR _ _   _ _ _ ((hp.2 h1).1 h9) (ho.trans (by first | (simp only [fRd_tightness, if_neg h1, if_pos h9]; done) | (simp only [fRd_tightness, if_neg h1, if_pos h9]; rfl) | rfl)) (hz.trans (by first | (simp only [fRd_tightness, if_neg h1, if_pos h9]; done) | (simp only [fRd_tightness, if_neg h1, if_pos h9]; rfl) | rfl))
    ·
      refine pm_getsN dRd_tightness_12 gRd_190 xs_1 ?_
      refine pm_iload_n dRd_tightness_15 rfl ?_
      refine pm_xiald dRd_tightness_16 xa_1 ((hp.2 h1).2 h9).1 ?_
      refine pm_goto 21 dRd_tightness_17 (by decide) ?_
      exact pm_iret dRd_tightness_21 rfl (ho.trans (by first | (simp only [fRd_tightness, if_neg h1, if_neg h9]; done) | (simp only [fRd_tightness, if_neg h1, if_neg h9]; rfl) | rfl)) (hz.trans (by first | (simp only [fRd_tightness, if_neg h1, if_neg h9]; done) | (simp only [fRd_tightness, if_neg h1, if_neg h9]; rfl) | rfl))
set_option maxHeartbeats 4000000 in
set_option maxRecDepth 100000 in
theorem Rd_tightness_ok (g : pmG) (d : Nat) (ex : List (Nat × Nat)) (R : Nat → Nat → Value) (hR : pk_R R)  (x0 : Int32) (I : Nat → Nat → Int32) (J : Nat → Nat → Int64) (hp : pRd_tightness x0 I J) : pmC g kRd_tightness d 0 0 [.int x0] (pk_K ++ ex, R, I, J) (.returned (some (.int (fRd_tightness x0 I J)))) (pk_K ++ ex, R, I, J) :=
  pmC.of (by decide) (Nat.le_of_ble_eq_true rfl) (Rd_tightness_n0 g d ex R hR _ _  x0 I J hp rfl rfl)
def fRd_advance  (I : Nat → Nat → Int32) (J : Nat → Nat → Int64) : (Nat → Nat → Int32) :=
  if (I 13 3) = (48 : Int32) then I
  else if (I 17 5) ≤ ((I 13 2) + (1 : Int32)) then I
    else pm_u (pm_u I 13 2 ((I 13 2) + (1 : Int32))) 13 3 ((pm_u I 13 2 ((I 13 2) + (1 : Int32))) 18 ((I 13 2) + (1 : Int32)).toNatClampNeg)
def pRd_advance  (I : Nat → Nat → Int32) (J : Nat → Nat → Int64) : Prop :=
  ((I 13 3) = (48 : Int32) → True) ∧
  (¬ ((I 13 3) = (48 : Int32)) → ((I 17 5) ≤ ((I 13 2) + (1 : Int32)) → True) ∧
    (¬ ((I 17 5) ≤ ((I 13 2) + (1 : Int32))) → (vp_in ((I 13 2) + (1 : Int32)) 4001) ∧ True))
set_option maxHeartbeats 4000000 in
set_option maxRecDepth 100000 in
theorem Rd_advance_n0 (g : pmG) (d : Nat) (ex : List (Nat × Nat)) (R : Nat → Nat → Value) (hR : pk_R R) (o : Outcome) (Z : pmM)  (I : Nat → Nat → Int32) (J : Nat → Nat → Int64) (hp : pRd_advance I J) (ho : o = .returned none) (hz : Z = (pk_K ++ ex, R, (fRd_advance I J), J)) : pmE g kRd_advance d 0 0 0 [(0, .ref 13)] [] (pk_K ++ ex) R I J o Z := by
  unfold pRd_advance at hp
  refine pm_aload_n dRd_advance_0 rfl ?_
  refine pm_geti dRd_advance_1 fRd_52 rfl ?_
  refine pm_bipush (v := 48) dRd_advance_4 (by decide) ?_
  refine pm_icmp_eq 51 dRd_advance_6 (by decide) (fun h6 => ?_) (fun h6 => ?_)
  ·
    exact pm_vret dRd_advance_51 rfl ho (hz.trans (by first | (simp only [fRd_advance, if_pos h6]; done) | (simp only [fRd_advance, if_pos h6]; rfl) | rfl))
  ·
    refine pm_aload_n dRd_advance_9 rfl ?_
    refine pm_geti dRd_advance_10 fRd_91 rfl ?_
    refine pm_iconst (v := 1) dRd_advance_13 (by decide) ?_
    refine pm_iadd dRd_advance_14 ?_
    refine pm_aload_n dRd_advance_15 rfl ?_
    refine pm_getr dRd_advance_16 fRd_30 rfl (rr_13_1 hR) ?_
    refine pm_geti dRd_advance_19 fRd_94 rfl ?_
    refine pm_icmp_ge 51 dRd_advance_22 (by decide) (fun h22 => ?_) (fun h22 => ?_)
    ·
      exact pm_vret dRd_advance_51 rfl ho (hz.trans (by first | (simp only [fRd_advance, if_neg h6, if_pos h22]; done) | (simp only [fRd_advance, if_neg h6, if_pos h22]; rfl) | rfl))
    ·
      refine pm_aload_n dRd_advance_25 rfl ?_
      refine pm_dup dRd_advance_26 rfl ?_
      refine pm_geti dRd_advance_27 fRd_91 rfl ?_
      refine pm_iconst (v := 1) dRd_advance_30 (by decide) ?_
      refine pm_iadd dRd_advance_31 ?_
      refine pm_puti dRd_advance_32 fRd_91 sRd_91 (fun h => by cases h) rfl rfl rfl ?_
      refine pm_aload_n dRd_advance_35 rfl ?_
      refine pm_aload_n dRd_advance_36 rfl ?_
      refine pm_getr dRd_advance_37 fRd_30 rfl (rr_13_1 hR) ?_
      refine pm_getr dRd_advance_40 fRd_49 rfl (rr_17_1 hR) ?_
      refine pm_aload_n dRd_advance_43 rfl ?_
      refine pm_geti dRd_advance_44 fRd_91 rfl ?_
      refine pm_eqi ((I 13 2) + (1 : Int32)) rfl ?_
      refine pm_iald dRd_advance_47 rfl ((hp.2 h6).2 h22).1 ?_
      refine pm_puti dRd_advance_48 fRd_52 sRd_52 (fun h => by cases h) rfl rfl rfl ?_
      exact pm_vret dRd_advance_51 rfl ho (hz.trans (by first | (simp only [fRd_advance, if_neg h6, if_neg h22]; done) | (simp only [fRd_advance, if_neg h6, if_neg h22]; rfl) | rfl))
set_option maxHeartbeats 4000000 in
set_option maxRecDepth 100000 in
theorem Rd_advance_ok (g : pmG) (d : Nat) (ex : List (Nat × Nat)) (R : Nat → Nat → Value) (hR : pk_R R)   (I : Nat → Nat → Int32) (J : Nat → Nat → Int64) (hp : pRd_advance I J) : pmC g kRd_advance d 0 0 [.ref 13] (pk_K ++ ex, R, I, J) (.returned none) (pk_K ++ ex, R, (fRd_advance I J), J) :=
  pmC.of (by decide) (Nat.le_of_ble_eq_true rfl) (Rd_advance_n0 g d ex R hR _ _   I J hp rfl rfl)
def fRd_halt  (y1 : Int32) (I : Nat → Nat → Int32) (J : Nat → Nat → Int64) : (Nat → Nat → Int32) :=
  if (I 13 9) = 0 then pm_u (pm_u (pm_u I 13 9 y1) 13 10 ((pm_u I 13 9 y1) 19 (I 13 2).toNatClampNeg)) 13 3 (48 : Int32)
  else I
def pRd_halt  (y1 : Int32) (I : Nat → Nat → Int32) (J : Nat → Nat → Int64) : Prop :=
  ((I 13 9) = 0 → (vp_in (I 13 2) 4001) ∧ True) ∧
  (¬ ((I 13 9) = 0) → True)
set_option maxHeartbeats 4000000 in
set_option maxRecDepth 100000 in
theorem Rd_halt_n0 (g : pmG) (d : Nat) (ex : List (Nat × Nat)) (R : Nat → Nat → Value) (hR : pk_R R) (o : Outcome) (Z : pmM)  (y1 : Int32) (I : Nat → Nat → Int32) (J : Nat → Nat → Int64) (hp : pRd_halt y1 I J) (ho : o = .returned none) (hz : Z = (pk_K ++ ex, R, (fRd_halt y1 I J), J)) : pmE g kRd_halt d 0 0 0 [(0, .ref 13), (1, .int y1)] [] (pk_K ++ ex) R I J o Z := by
  unfold pRd_halt at hp
  refine pm_aload_n dRd_halt_0 rfl ?_
  refine pm_geti dRd_halt_1 fRd_55 rfl ?_
  refine pm_if_ne 34 dRd_halt_4 (by decide) (fun h4 => ?_) (fun h4 => ?_)
  ·
    exact pm_vret dRd_halt_34 rfl ho (hz.trans (by first | (simp only [fRd_halt, if_neg h4]; done) | (simp only [fRd_halt, if_neg h4]; rfl) | rfl))
  ·
    refine pm_aload_n dRd_halt_7 rfl ?_
    refine pm_iload_n dRd_halt_8 rfl ?_
    refine pm_puti dRd_halt_9 fRd_55 sRd_55 (fun h => by cases h) rfl rfl rfl ?_
    refine pm_aload_n dRd_halt_12 rfl ?_
    refine pm_aload_n dRd_halt_13 rfl ?_
    refine pm_getr dRd_halt_14 fRd_30 rfl (rr_13_1 hR) ?_
    refine pm_getr dRd_halt_17 fRd_223 rfl (rr_17_2 hR) ?_
    refine pm_aload_n dRd_halt_20 rfl ?_
    refine pm_geti dRd_halt_21 fRd_91 rfl ?_
    refine pm_eqi (I 13 2) rfl ?_
    refine pm_iald dRd_halt_24 rfl (hp.1 h4).1 ?_
    refine pm_puti dRd_halt_25 fRd_88 sRd_88 (fun h => by cases h) rfl rfl rfl ?_
    refine pm_aload_n dRd_halt_28 rfl ?_
    refine pm_bipush (v := 48) dRd_halt_29 (by decide) ?_
    refine pm_puti dRd_halt_31 fRd_52 sRd_52 (fun h => by cases h) rfl rfl rfl ?_
    exact pm_vret dRd_halt_34 rfl ho (hz.trans (by first | (simp only [fRd_halt, if_pos h4]; done) | (simp only [fRd_halt, if_pos h4]; rfl) | rfl))
set_option maxHeartbeats 4000000 in
set_option maxRecDepth 100000 in
theorem Rd_halt_ok (g : pmG) (d : Nat) (ex : List (Nat × Nat)) (R : Nat → Nat → Value) (hR : pk_R R)  (x0 : Int32) (I : Nat → Nat → Int32) (J : Nat → Nat → Int64) (hp : pRd_halt x0 I J) : pmC g kRd_halt d 0 0 [.ref 13, .int x0] (pk_K ++ ex, R, I, J) (.returned none) (pk_K ++ ex, R, (fRd_halt x0 I J), J) :=
  pmC.of (by decide) (Nat.le_of_ble_eq_true rfl) (Rd_halt_n0 g d ex R hR _ _  x0 I J hp rfl rfl)
def fRd_refuse_15  (z1 : Int32) (I : Nat → Nat → Int32) (J : Nat → Nat → Int64) : (Nat → Nat → Int32) :=
  (fRd_halt z1 I J)
def pRd_refuse_15  (z1 : Int32) (I : Nat → Nat → Int32) (J : Nat → Nat → Int64) : Prop :=
  (pRd_halt z1 I J) ∧ True
def fRd_refuse  (I : Nat → Nat → Int32) (J : Nat → Nat → Int64) : (Nat → Nat → Int32) :=
  if (I 13 3) = (47 : Int32) then fRd_refuse_15 (4 : Int32) I J
  else fRd_refuse_15 (1 : Int32) I J
def pRd_refuse  (I : Nat → Nat → Int32) (J : Nat → Nat → Int64) : Prop :=
  ((I 13 3) = (47 : Int32) → pRd_refuse_15 (4 : Int32) I J) ∧
  (¬ ((I 13 3) = (47 : Int32)) → pRd_refuse_15 (1 : Int32) I J)
set_option maxHeartbeats 4000000 in
set_option maxRecDepth 100000 in
theorem Rd_refuse_n15 (g : pmG) (d : Nat) (ex : List (Nat × Nat)) (R : Nat → Nat → Value) (hR : pk_R R) (o : Outcome) (Z : pmM)  (z1 : Int32) (I : Nat → Nat → Int32) (J : Nat → Nat → Int64) (hp : pRd_refuse_15 z1 I J) (ho : o = .returned none) (hz : Z = (pk_K ++ ex, R, (fRd_refuse_15 z1 I J), J)) : pmE g kRd_refuse (d + 1) 0 0 15 [(0, .ref 13)] [.int z1, .ref 13] (pk_K ++ ex) R I J o Z := by
  unfold pRd_refuse_15 at hp
  refine pm_callV dRd_refuse_15 lRd_149 vRd_halt ⟨_, _, rfl⟩ (Rd_halt_ok _ _ _ _ hR _ _ _ hp.1) rfl rfl rfl (Nat.le_of_ble_eq_true rfl) (Nat.le_refl _) (Nat.le_refl _) ?_
  exact pm_vret dRd_refuse_18 rfl ho (hz.trans (by first | rfl | (simp only [fRd_refuse_15]; done) | (simp only [fRd_refuse_15]; rfl)))
set_option maxHeartbeats 4000000 in
set_option maxRecDepth 100000 in
theorem Rd_refuse_n0 (g : pmG) (d : Nat) (ex : List (Nat × Nat)) (R : Nat → Nat → Value) (hR : pk_R R) (o : Outcome) (Z : pmM)  (I : Nat → Nat → Int32) (J : Nat → Nat → Int64) (hp : pRd_refuse I J) (ho : o = .returned none) (hz : Z = (pk_K ++ ex, R, (fRd_refuse I J), J)) : pmE g kRd_refuse (d + 1) 0 0 0 [(0, .ref 13)] [] (pk_K ++ ex) R I J o Z := by
  unfold pRd_refuse at hp
  refine pm_aload_n dRd_refuse_0 rfl ?_
  refine pm_aload_n dRd_refuse_1 rfl ?_
  refine pm_geti dRd_refuse_2 fRd_52 rfl ?_
  refine pm_bipush (v := 47) dRd_refuse_5 (by decide) ?_
  refine pm_icmp_ne 14 dRd_refuse_7 (by decide) (fun h7 => ?_) (fun h7 => ?_)
  ·
    refine pm_iconst (v := 1) dRd_refuse_14 (by decide) ?_
    refine pm_wk [0] rfl ?_
    exact Rd_refuse_n15 g d ex R hR _ _   _ _ _ (hp.2 h7) ho (hz.trans (by first | (simp only [fRd_refuse, if_neg h7]; done) | (simp only [fRd_refuse, if_neg h7]; rfl) | rfl))
  ·
    refine pm_iconst (v := 4) dRd_refuse_10 (by decide) ?_
    refine pm_goto 15 dRd_refuse_11 (by decide) ?_
    refine pm_wk [0] rfl ?_
    exact Rd_refuse_n15 g d ex R hR _ _   _ _ _ (hp.1 h7) ho (hz.trans (by first | (simp only [fRd_refuse, if_pos h7]; done) | (simp only [fRd_refuse, if_pos h7]; rfl) | rfl))
set_option maxHeartbeats 4000000 in
set_option maxRecDepth 100000 in
theorem Rd_refuse_ok (g : pmG) (d : Nat) (ex : List (Nat × Nat)) (R : Nat → Nat → Value) (hR : pk_R R)   (I : Nat → Nat → Int32) (J : Nat → Nat → Int64) (hp : pRd_refuse I J) : pmC g kRd_refuse (d + 1) 0 0 [.ref 13] (pk_K ++ ex, R, I, J) (.returned none) (pk_K ++ ex, R, (fRd_refuse I J), J) :=
  pmC.of (by decide) (Nat.le_of_ble_eq_true rfl) (Rd_refuse_n0 g d ex R hR _ _   I J hp rfl rfl)
def fRd_expect_12  (y1 : Int32) (I : Nat → Nat → Int32) (J : Nat → Nat → Int64) : Int32 × (Nat → Nat → Int32) :=
  ((0 : Int32), I)
def pRd_expect_12  (y1 : Int32) (I : Nat → Nat → Int32) (J : Nat → Nat → Int64) : Prop :=
  True
def fRd_expect_18  (y1 : Int32) (I : Nat → Nat → Int32) (J : Nat → Nat → Int64) : Int32 × (Nat → Nat → Int32) :=
  ((1 : Int32), I)
def pRd_expect_18  (y1 : Int32) (I : Nat → Nat → Int32) (J : Nat → Nat → Int64) : Prop :=
  True
def fRd_expect  (y1 : Int32) (I : Nat → Nat → Int32) (J : Nat → Nat → Int64) : Int32 × (Nat → Nat → Int32) :=
  if (I 13 3) = y1 then fRd_expect_18 y1 ((fRd_advance I J)) J
  else fRd_expect_12 y1 ((fRd_refuse I J)) J
def pRd_expect  (y1 : Int32) (I : Nat → Nat → Int32) (J : Nat → Nat → Int64) : Prop :=
  ((I 13 3) = y1 → (pRd_advance I J) ∧ (pRd_expect_18 y1 ((fRd_advance I J)) J)) ∧
  (¬ ((I 13 3) = y1) → (pRd_refuse I J) ∧ (pRd_expect_12 y1 ((fRd_refuse I J)) J))
set_option maxHeartbeats 4000000 in
set_option maxRecDepth 100000 in
theorem Rd_expect_n12 (g : pmG) (d : Nat) (ex : List (Nat × Nat)) (R : Nat → Nat → Value) (hR : pk_R R) (o : Outcome) (Z : pmM)  (y1 : Int32) (I : Nat → Nat → Int32) (J : Nat → Nat → Int64) (hp : pRd_expect_12 y1 I J) (ho : o = .returned (some (.int (fRd_expect_12 y1 I J).1))) (hz : Z = (pk_K ++ ex, R, (fRd_expect_12 y1 I J).2, J)) : pmE g kRd_expect (d + 2) 0 0 12 [(0, .ref 13), (1, .int y1)] [] (pk_K ++ ex) R I J o Z := by
  unfold pRd_expect_12 at hp
  refine pm_iconst (v := 0) dRd_expect_12 (by decide) ?_
  exact pm_zret dRd_expect_13 rfl (by first | rfl | decide) (ho.trans (by first | rfl | (simp only [fRd_expect_12]; done) | (simp only [fRd_expect_12]; rfl))) (hz.trans (by first | rfl | (simp only [fRd_expect_12]; done) | (simp only [fRd_expect_12]; rfl)))
set_option maxHeartbeats 4000000 in
set_option maxRecDepth 100000 in
theorem Rd_expect_n18 (g : pmG) (d : Nat) (ex : List (Nat × Nat)) (R : Nat → Nat → Value) (hR : pk_R R) (o : Outcome) (Z : pmM)  (y1 : Int32) (I : Nat → Nat → Int32) (J : Nat → Nat → Int64) (hp : pRd_expect_18 y1 I J) (ho : o = .returned (some (.int (fRd_expect_18 y1 I J).1))) (hz : Z = (pk_K ++ ex, R, (fRd_expect_18 y1 I J).2, J)) : pmE g kRd_expect (d + 2) 0 0 18 [(0, .ref 13), (1, .int y1)] [] (pk_K ++ ex) R I J o Z := by
  unfold pRd_expect_18 at hp
  refine pm_iconst (v := 1) dRd_expect_18 (by decide) ?_
  exact pm_zret dRd_expect_19 rfl (by first | rfl | decide) (ho.trans (by first | rfl | (simp only [fRd_expect_18]; done) | (simp only [fRd_expect_18]; rfl))) (hz.trans (by first | rfl | (simp only [fRd_expect_18]; done) | (simp only [fRd_expect_18]; rfl)))
set_option maxHeartbeats 4000000 in
set_option maxRecDepth 100000 in
theorem Rd_expect_n0 (g : pmG) (d : Nat) (ex : List (Nat × Nat)) (R : Nat → Nat → Value) (hR : pk_R R) (o : Outcome) (Z : pmM)  (y1 : Int32) (I : Nat → Nat → Int32) (J : Nat → Nat → Int64) (hp : pRd_expect y1 I J) (ho : o = .returned (some (.int (fRd_expect y1 I J).1))) (hz : Z = (pk_K ++ ex, R, (fRd_expect y1 I J).2, J)) : pmE g kRd_expect (d + 2) 0 0 0 [(0, .ref 13), (1, .int y1)] [] (pk_K ++ ex) R I J o Z := by
  unfold pRd_expect at hp
  refine pm_aload_n dRd_expect_0 rfl ?_
  refine pm_geti dRd_expect_1 fRd_52 rfl ?_
  refine pm_iload_n dRd_expect_4 rfl ?_
  refine pm_icmp_eq 14 dRd_expect_5 (by decide) (fun h5 => ?_) (fun h5 => ?_)
  ·
    refine pm_aload_n dRd_expect_14 rfl ?_
    refine pm_callV dRd_expect_15 lRd_139 vRd_advance ⟨_, _, rfl⟩ (Rd_advance_ok _ _ _ _ hR  _ _ (hp.1 h5).1) rfl rfl rfl (Nat.le_of_ble_eq_true rfl) (Nat.le_refl _) (Nat.le_refl _) ?_
    refine pm_wk [0, 1] rfl ?_
    exact Rd_expect_n18 g d ex R hR _ _   _ _ _ (hp.1 h5).2 (ho.trans (by first | (simp only [fRd_expect, if_pos h5]; done) | (simp only [fRd_expect, if_pos h5]; rfl) | rfl)) (hz.trans (by first | (simp only [fRd_expect, if_pos h5]; done) | (simp only [fRd_expect, if_pos h5]; rfl) | rfl))
  ·
    refine pm_aload_n dRd_expect_8 rfl ?_
    refine pm_callV dRd_expect_9 lRd_73 vRd_refuse ⟨_, _, rfl⟩ (Rd_refuse_ok _ _ _ _ hR  _ _ (hp.2 h5).1) rfl rfl rfl (Nat.le_of_ble_eq_true rfl) (Nat.le_refl _) (Nat.le_refl _) ?_
    refine pm_wk [0, 1] rfl ?_
    exact Rd_expect_n12 g d ex R hR _ _   _ _ _ (hp.2 h5).2 (ho.trans (by first | (simp only [fRd_expect, if_neg h5]; done) | (simp only [fRd_expect, if_neg h5]; rfl) | rfl)) (hz.trans (by first | (simp only [fRd_expect, if_neg h5]; done) | (simp only [fRd_expect, if_neg h5]; rfl) | rfl))
set_option maxHeartbeats 4000000 in
set_option maxRecDepth 100000 in
theorem Rd_expect_ok (g : pmG) (d : Nat) (ex : List (Nat × Nat)) (R : Nat → Nat → Value) (hR : pk_R R)  (x0 : Int32) (I : Nat → Nat → Int32) (J : Nat → Nat → Int64) (hp : pRd_expect x0 I J) : pmC g kRd_expect (d + 2) 0 0 [.ref 13, .int x0] (pk_K ++ ex, R, I, J) (.returned (some (.int (fRd_expect x0 I J).1))) (pk_K ++ ex, R, (fRd_expect x0 I J).2, J) :=
  pmC.of (by decide) (Nat.le_of_ble_eq_true rfl) (Rd_expect_n0 g d ex R hR _ _  x0 I J hp rfl rfl)
def fRd_isTooDeep_11  (y1 : Int32) (I : Nat → Nat → Int32) (J : Nat → Nat → Int64) : Int32 × (Nat → Nat → Int32) :=
  if y1 ≤ (40 : Int32) then ((0 : Int32), I)
  else ((1 : Int32), I)
def pRd_isTooDeep_11  (y1 : Int32) (I : Nat → Nat → Int32) (J : Nat → Nat → Int64) : Prop :=
  (y1 ≤ (40 : Int32) → True) ∧
  (¬ (y1 ≤ (40 : Int32)) → True)
def fRd_isTooDeep  (y1 : Int32) (I : Nat → Nat → Int32) (J : Nat → Nat → Int64) : Int32 × (Nat → Nat → Int32) :=
  if y1 ≤ (40 : Int32) then fRd_isTooDeep_11 y1 I J
  else fRd_isTooDeep_11 y1 ((fRd_halt (4 : Int32) I J)) J
def pRd_isTooDeep  (y1 : Int32) (I : Nat → Nat → Int32) (J : Nat → Nat → Int64) : Prop :=
  (y1 ≤ (40 : Int32) → pRd_isTooDeep_11 y1 I J) ∧
  (¬ (y1 ≤ (40 : Int32)) → (pRd_halt (4 : Int32) I J) ∧ (pRd_isTooDeep_11 y1 ((fRd_halt (4 : Int32) I J)) J))
set_option maxHeartbeats 4000000 in
set_option maxRecDepth 100000 in
theorem Rd_isTooDeep_n11 (g : pmG) (d : Nat) (ex : List (Nat × Nat)) (R : Nat → Nat → Value) (hR : pk_R R) (o : Outcome) (Z : pmM)  (y1 : Int32) (I : Nat → Nat → Int32) (J : Nat → Nat → Int64) (hp : pRd_isTooDeep_11 y1 I J) (ho : o = .returned (some (.int (fRd_isTooDeep_11 y1 I J).1))) (hz : Z = (pk_K ++ ex, R, (fRd_isTooDeep_11 y1 I J).2, J)) : pmE g kRd_isTooDeep (d + 1) 0 0 11 [(0, .ref 13), (1, .int y1)] [] (pk_K ++ ex) R I J o Z := by
  unfold pRd_isTooDeep_11 at hp
  refine pm_iload_n dRd_isTooDeep_11 rfl ?_
  refine pm_bipush (v := 40) dRd_isTooDeep_12 (by decide) ?_
  refine pm_icmp_le 21 dRd_isTooDeep_14 (by decide) (fun h14 => ?_) (fun h14 => ?_)
  ·
    refine pm_iconst (v := 0) dRd_isTooDeep_21 (by decide) ?_
    exact pm_zret dRd_isTooDeep_22 rfl (by first | rfl | decide) (ho.trans (by first | (simp only [fRd_isTooDeep_11, if_pos h14]; done) | (simp only [fRd_isTooDeep_11, if_pos h14]; rfl) | rfl)) (hz.trans (by first | (simp only [fRd_isTooDeep_11, if_pos h14]; done) | (simp only [fRd_isTooDeep_11, if_pos h14]; rfl) | rfl))
  ·
    refine pm_iconst (v := 1) dRd_isTooDeep_17 (by decide) ?_
    refine pm_goto 22 dRd_isTooDeep_18 (by decide) ?_
    exact pm_zret dRd_isTooDeep_22 rfl (by first | rfl | decide) (ho.trans (by first | (simp only [fRd_isTooDeep_11, if_neg h14]; done) | (simp only [fRd_isTooDeep_11, if_neg h14]; rfl) | rfl)) (hz.trans (by first | (simp only [fRd_isTooDeep_11, if_neg h14]; done) | (simp only [fRd_isTooDeep_11, if_neg h14]; rfl) | rfl))
set_option maxHeartbeats 4000000 in
set_option maxRecDepth 100000 in
theorem Rd_isTooDeep_n0 (g : pmG) (d : Nat) (ex : List (Nat × Nat)) (R : Nat → Nat → Value) (hR : pk_R R) (o : Outcome) (Z : pmM)  (y1 : Int32) (I : Nat → Nat → Int32) (J : Nat → Nat → Int64) (hp : pRd_isTooDeep y1 I J) (ho : o = .returned (some (.int (fRd_isTooDeep y1 I J).1))) (hz : Z = (pk_K ++ ex, R, (fRd_isTooDeep y1 I J).2, J)) : pmE g kRd_isTooDeep (d + 1) 0 0 0 [(0, .ref 13), (1, .int y1)] [] (pk_K ++ ex) R I J o Z := by
  unfold pRd_isTooDeep at hp
  refine pm_iload_n dRd_isTooDeep_0 rfl ?_
  refine pm_bipush (v := 40) dRd_isTooDeep_1 (by decide) ?_
  refine pm_icmp_le 11 dRd_isTooDeep_3 (by decide) (fun h3 => ?_) (fun h3 => ?_)
  ·
    refine pm_wk [0, 1] rfl ?_
    exact Rd_isTooDeep_n11 g d ex R hR _ _   _ _ _ (hp.1 h3) (ho.trans (by first | (simp only [fRd_isTooDeep, if_pos h3]; done) | (simp only [fRd_isTooDeep, if_pos h3]; rfl) | rfl)) (hz.trans (by first | (simp only [fRd_isTooDeep, if_pos h3]; done) | (simp only [fRd_isTooDeep, if_pos h3]; rfl) | rfl))
  ·
    refine pm_aload_n dRd_isTooDeep_6 rfl ?_
    refine pm_iconst (v := 4) dRd_isTooDeep_7 (by decide) ?_
    refine pm_callV dRd_isTooDeep_8 lRd_149 vRd_halt ⟨_, _, rfl⟩ (Rd_halt_ok _ _ _ _ hR _ _ _ (hp.2 h3).1) rfl rfl rfl (Nat.le_of_ble_eq_true rfl) (Nat.le_refl _) (Nat.le_refl _) ?_
    refine pm_wk [0, 1] rfl ?_
    exact Rd_isTooDeep_n11 g d ex R hR _ _   _ _ _ (hp.2 h3).2 (ho.trans (by first | (simp only [fRd_isTooDeep, if_neg h3]; done) | (simp only [fRd_isTooDeep, if_neg h3]; rfl) | rfl)) (hz.trans (by first | (simp only [fRd_isTooDeep, if_neg h3]; done) | (simp only [fRd_isTooDeep, if_neg h3]; rfl) | rfl))
set_option maxHeartbeats 4000000 in
set_option maxRecDepth 100000 in
theorem Rd_isTooDeep_ok (g : pmG) (d : Nat) (ex : List (Nat × Nat)) (R : Nat → Nat → Value) (hR : pk_R R)  (x0 : Int32) (I : Nat → Nat → Int32) (J : Nat → Nat → Int64) (hp : pRd_isTooDeep x0 I J) : pmC g kRd_isTooDeep (d + 1) 0 0 [.ref 13, .int x0] (pk_K ++ ex, R, I, J) (.returned (some (.int (fRd_isTooDeep x0 I J).1))) (pk_K ++ ex, R, (fRd_isTooDeep x0 I J).2, J) :=
  pmC.of (by decide) (Nat.le_of_ble_eq_true rfl) (Rd_isTooDeep_n0 g d ex R hR _ _  x0 I J hp rfl rfl)
def fRd_charge  (y1 : Int32) (I : Nat → Nat → Int32) (J : Nat → Nat → Int64) : (Nat → Nat → Int32) :=
  if ((I 3 9) + y1) ≤ (3000 : Int32) then pm_u I 3 9 ((I 3 9) + y1)
  else (fRd_halt (4 : Int32) (pm_u I 3 9 ((I 3 9) + y1)) J)
def pRd_charge  (y1 : Int32) (I : Nat → Nat → Int32) (J : Nat → Nat → Int64) : Prop :=
  (((I 3 9) + y1) ≤ (3000 : Int32) → True) ∧
  (¬ (((I 3 9) + y1) ≤ (3000 : Int32)) → (pRd_halt (4 : Int32) (pm_u I 3 9 ((I 3 9) + y1)) J) ∧ True)
set_option maxHeartbeats 4000000 in
set_option maxRecDepth 100000 in
theorem Rd_charge_n0 (g : pmG) (d : Nat) (ex : List (Nat × Nat)) (R : Nat → Nat → Value) (hR : pk_R R) (o : Outcome) (Z : pmM)  (y1 : Int32) (I : Nat → Nat → Int32) (J : Nat → Nat → Int64) (hp : pRd_charge y1 I J) (ho : o = .returned none) (hz : Z = (pk_K ++ ex, R, (fRd_charge y1 I J), J)) : pmE g kRd_charge (d + 1) 0 0 0 [(0, .ref 13), (1, .int y1)] [] (pk_K ++ ex) R I J o Z := by
  unfold pRd_charge at hp
  refine pm_aload_n dRd_charge_0 rfl ?_
  refine pm_getr dRd_charge_1 fRd_21 rfl (rr_13_0 hR) ?_
  refine pm_dup dRd_charge_4 rfl ?_
  refine pm_geti dRd_charge_5 fRd_220 rfl ?_
  refine pm_iload_n dRd_charge_8 rfl ?_
  refine pm_iadd dRd_charge_9 ?_
  refine pm_puti dRd_charge_10 fRd_220 sRd_220 (fun h => by cases h) rfl rfl rfl ?_
  refine pm_aload_n dRd_charge_13 rfl ?_
  refine pm_getr dRd_charge_14 fRd_21 rfl (rr_13_0 hR) ?_
  refine pm_geti dRd_charge_17 fRd_220 rfl ?_
  refine pm_eqi ((I 3 9) + y1) rfl ?_
  refine pm_sipush (v := 3000) dRd_charge_20 (by decide) ?_
  refine pm_icmp_le 31 dRd_charge_23 (by decide) (fun h23 => ?_) (fun h23 => ?_)
  ·
    exact pm_vret dRd_charge_31 rfl ho (hz.trans (by first | (simp only [fRd_charge, if_pos h23]; done) | (simp only [fRd_charge, if_pos h23]; rfl) | rfl))
  ·
    refine pm_aload_n dRd_charge_26 rfl ?_
    refine pm_iconst (v := 4) dRd_charge_27 (by decide) ?_
    refine pm_callV dRd_charge_28 lRd_149 vRd_halt ⟨_, _, rfl⟩ (Rd_halt_ok _ _ _ _ hR _ _ _ (hp.2 h23).1) rfl rfl rfl (Nat.le_of_ble_eq_true rfl) (Nat.le_refl _) (Nat.le_refl _) ?_
    exact pm_vret dRd_charge_31 rfl ho (hz.trans (by first | (simp only [fRd_charge, if_neg h23]; done) | (simp only [fRd_charge, if_neg h23]; rfl) | rfl))
set_option maxHeartbeats 4000000 in
set_option maxRecDepth 100000 in
theorem Rd_charge_ok (g : pmG) (d : Nat) (ex : List (Nat × Nat)) (R : Nat → Nat → Value) (hR : pk_R R)  (x0 : Int32) (I : Nat → Nat → Int32) (J : Nat → Nat → Int64) (hp : pRd_charge x0 I J) : pmC g kRd_charge (d + 1) 0 0 [.ref 13, .int x0] (pk_K ++ ex, R, I, J) (.returned none) (pk_K ++ ex, R, (fRd_charge x0 I J), J) :=
  pmC.of (by decide) (Nat.le_of_ble_eq_true rfl) (Rd_charge_n0 g d ex R hR _ _  x0 I J hp rfl rfl)
def fRd_chargeSign_31  (z1 : Int32) (I : Nat → Nat → Int32) (J : Nat → Nat → Int64) : (Nat → Nat → Int32) :=
  (fRd_charge z1 I J)
def pRd_chargeSign_31  (z1 : Int32) (I : Nat → Nat → Int32) (J : Nat → Nat → Int64) : Prop :=
  (pRd_charge z1 I J) ∧ True
def fRd_chargeSign_30  (I : Nat → Nat → Int32) (J : Nat → Nat → Int64) : (Nat → Nat → Int32) :=
  fRd_chargeSign_31 (0 : Int32) I J
def pRd_chargeSign_30  (I : Nat → Nat → Int32) (J : Nat → Nat → Int64) : Prop :=
  pRd_chargeSign_31 (0 : Int32) I J
def fRd_chargeSign  (I : Nat → Nat → Int32) (J : Nat → Nat → Int64) : (Nat → Nat → Int32) :=
  if (I 13 3) < 0 then fRd_chargeSign_30 I J
  else if (29 : Int32) ≤ (I 13 3) then fRd_chargeSign_30 I J
    else fRd_chargeSign_31 (pk_CO.getD (I 13 3).toNatClampNeg 0) I J
def pRd_chargeSign  (I : Nat → Nat → Int32) (J : Nat → Nat → Int64) : Prop :=
  ((I 13 3) < 0 → pRd_chargeSign_30 I J) ∧
  (¬ ((I 13 3) < 0) → ((29 : Int32) ≤ (I 13 3) → pRd_chargeSign_30 I J) ∧
    (¬ ((29 : Int32) ≤ (I 13 3)) → (vp_in (I 13 3) 29) ∧ (pRd_chargeSign_31 (pk_CO.getD (I 13 3).toNatClampNeg 0) I J)))
set_option maxHeartbeats 4000000 in
set_option maxRecDepth 100000 in
theorem Rd_chargeSign_n31 (g : pmG) (d : Nat) (ex : List (Nat × Nat)) (R : Nat → Nat → Value) (hR : pk_R R) (o : Outcome) (Z : pmM)  (z1 : Int32) (I : Nat → Nat → Int32) (J : Nat → Nat → Int64) (hp : pRd_chargeSign_31 z1 I J) (ho : o = .returned none) (hz : Z = (pk_K ++ ex, R, (fRd_chargeSign_31 z1 I J), J)) : pmE g kRd_chargeSign (d + 2) 0 0 31 [(0, .ref 13)] [.int z1, .ref 13] (pk_K ++ ex) R I J o Z := by
  unfold pRd_chargeSign_31 at hp
  refine pm_callV dRd_chargeSign_31 lRd_136 vRd_charge ⟨_, _, rfl⟩ (Rd_charge_ok _ _ _ _ hR _ _ _ hp.1) rfl rfl rfl (Nat.le_of_ble_eq_true rfl) (Nat.le_refl _) (Nat.le_refl _) ?_
  exact pm_vret dRd_chargeSign_34 rfl ho (hz.trans (by first | rfl | (simp only [fRd_chargeSign_31]; done) | (simp only [fRd_chargeSign_31]; rfl)))
set_option maxHeartbeats 4000000 in
set_option maxRecDepth 100000 in
theorem Rd_chargeSign_n30 (g : pmG) (d : Nat) (ex : List (Nat × Nat)) (R : Nat → Nat → Value) (hR : pk_R R) (o : Outcome) (Z : pmM)  (I : Nat → Nat → Int32) (J : Nat → Nat → Int64) (hp : pRd_chargeSign_30 I J) (ho : o = .returned none) (hz : Z = (pk_K ++ ex, R, (fRd_chargeSign_30 I J), J)) : pmE g kRd_chargeSign (d + 2) 0 0 30 [(0, .ref 13)] [.ref 13] (pk_K ++ ex) R I J o Z := by
  unfold pRd_chargeSign_30 at hp
  refine pm_iconst (v := 0) dRd_chargeSign_30 (by decide) ?_
  refine pm_wk [0] rfl ?_
  exact Rd_chargeSign_n31 g d ex R hR _ _   _ _ _ hp ho (hz.trans (by first | rfl | (simp only [fRd_chargeSign_30]; done) | (simp only [fRd_chargeSign_30]; rfl)))
set_option maxHeartbeats 4000000 in
set_option maxRecDepth 100000 in
theorem Rd_chargeSign_n0 (g : pmG) (d : Nat) (ex : List (Nat × Nat)) (R : Nat → Nat → Value) (hR : pk_R R) (o : Outcome) (Z : pmM)  (I : Nat → Nat → Int32) (J : Nat → Nat → Int64) (hp : pRd_chargeSign I J) (ho : o = .returned none) (hz : Z = (pk_K ++ ex, R, (fRd_chargeSign I J), J)) : pmE g kRd_chargeSign (d + 2) 0 0 0 [(0, .ref 13)] [] (pk_K ++ ex) R I J o Z := by
  unfold pRd_chargeSign at hp
  refine pm_aload_n dRd_chargeSign_0 rfl ?_
  refine pm_aload_n dRd_chargeSign_1 rfl ?_
  refine pm_geti dRd_chargeSign_2 fRd_52 rfl ?_
  refine pm_if_lt 30 dRd_chargeSign_5 (by decide) (fun h5 => ?_) (fun h5 => ?_)
  ·
    refine pm_wk [0] rfl ?_
    exact Rd_chargeSign_n30 g d ex R hR _ _   _ _ (hp.1 h5) ho (hz.trans (by first | (simp only [fRd_chargeSign, if_pos h5]; done) | (simp only [fRd_chargeSign, if_pos h5]; rfl) | rfl))
  ·
    refine pm_aload_n dRd_chargeSign_8 rfl ?_
    refine pm_geti dRd_chargeSign_9 fRd_52 rfl ?_
    refine pm_getsN dRd_chargeSign_12 gRd_217 xs_2 ?_
    refine pm_xlen (u := 29) dRd_chargeSign_15 xa_2 (by decide) ?_
    refine pm_icmp_ge 30 dRd_chargeSign_16 (by decide) (fun h16 => ?_) (fun h16 => ?_)
    ·
      refine pm_wk [0] rfl ?_
      exact Rd_chargeSign_n30 g d ex R hR _ _   _ _ ((hp.2 h5).1 h16) ho (hz.trans (by first | (simp only [fRd_chargeSign, if_neg h5, if_pos h16]; done) | (simp only [fRd_chargeSign, if_neg h5, if_pos h16]; rfl) | rfl))
    ·
      refine pm_getsN dRd_chargeSign_19 gRd_217 xs_2 ?_
      refine pm_aload_n dRd_chargeSign_22 rfl ?_
      refine pm_geti dRd_chargeSign_23 fRd_52 rfl ?_
      refine pm_xiald dRd_chargeSign_26 xa_2 ((hp.2 h5).2 h16).1 ?_
      refine pm_goto 31 dRd_chargeSign_27 (by decide) ?_
      refine pm_wk [0] rfl ?_
      exact Rd_chargeSign_n31 g d ex R hR _ _   _ _ _ ((hp.2 h5).2 h16).2 ho (hz.trans (by first | (simp only [fRd_chargeSign, if_neg h5, if_neg h16]; done) | (simp only [fRd_chargeSign, if_neg h5, if_neg h16]; rfl) | rfl))
set_option maxHeartbeats 4000000 in
set_option maxRecDepth 100000 in
theorem Rd_chargeSign_ok (g : pmG) (d : Nat) (ex : List (Nat × Nat)) (R : Nat → Nat → Value) (hR : pk_R R)   (I : Nat → Nat → Int32) (J : Nat → Nat → Int64) (hp : pRd_chargeSign I J) : pmC g kRd_chargeSign (d + 2) 0 0 [.ref 13] (pk_K ++ ex, R, I, J) (.returned none) (pk_K ++ ex, R, (fRd_chargeSign I J), J) :=
  pmC.of (by decide) (Nat.le_of_ble_eq_true rfl) (Rd_chargeSign_n0 g d ex R hR _ _   I J hp rfl rfl)
def fRd_await  (y1 : Int32) (I : Nat → Nat → Int32) (J : Nat → Nat → Int64) : (Nat → Nat → Int32) :=
  if (125 : Int32) ≤ (I 13 7) then I
  else pm_u (pm_u I 16 (I 13 7).toNatClampNeg y1) 13 7 ((I 13 7) + (1 : Int32))
def pRd_await  (y1 : Int32) (I : Nat → Nat → Int32) (J : Nat → Nat → Int64) : Prop :=
  ((125 : Int32) ≤ (I 13 7) → True) ∧
  (¬ ((125 : Int32) ≤ (I 13 7)) → (vp_in (I 13 7) 125) ∧ True)
set_option maxHeartbeats 4000000 in
set_option maxRecDepth 100000 in
theorem Rd_await_n0 (g : pmG) (d : Nat) (ex : List (Nat × Nat)) (R : Nat → Nat → Value) (hR : pk_R R) (o : Outcome) (Z : pmM)  (y1 : Int32) (I : Nat → Nat → Int32) (J : Nat → Nat → Int64) (hp : pRd_await y1 I J) (ho : o = .returned none) (hz : Z = (pk_K ++ ex, R, (fRd_await y1 I J), J)) : pmE g kRd_await d 0 0 0 [(0, .ref 13), (1, .int y1)] [] (pk_K ++ ex) R I J o Z := by
  unfold pRd_await at hp
  refine pm_aload_n dRd_await_0 rfl ?_
  refine pm_geti dRd_await_1 fRd_85 rfl ?_
  refine pm_aload_n dRd_await_4 rfl ?_
  refine pm_getr dRd_await_5 fRd_18 rfl (rr_13_6 hR) ?_
  refine pm_alen (v := 125) dRd_await_8 rfl (Or.inl rfl) (by decide) ?_
  refine pm_icmp_ge 32 dRd_await_9 (by decide) (fun h9 => ?_) (fun h9 => ?_)
  ·
    exact pm_vret dRd_await_32 rfl ho (hz.trans (by first | (simp only [fRd_await, if_pos h9]; done) | (simp only [fRd_await, if_pos h9]; rfl) | rfl))
  ·
    refine pm_aload_n dRd_await_12 rfl ?_
    refine pm_getr dRd_await_13 fRd_18 rfl (rr_13_6 hR) ?_
    refine pm_aload_n dRd_await_16 rfl ?_
    refine pm_geti dRd_await_17 fRd_85 rfl ?_
    refine pm_iload_n dRd_await_20 rfl ?_
    refine pm_iast dRd_await_21 rfl (hp.2 h9).1 ?_
    refine pm_aload_n dRd_await_22 rfl ?_
    refine pm_dup dRd_await_23 rfl ?_
    refine pm_geti dRd_await_24 fRd_85 rfl ?_
    refine pm_eqi (I 13 7) rfl ?_
    refine pm_iconst (v := 1) dRd_await_27 (by decide) ?_
    refine pm_iadd dRd_await_28 ?_
    refine pm_puti dRd_await_29 fRd_85 sRd_85 (fun h => by cases h) rfl rfl rfl ?_
    exact pm_vret dRd_await_32 rfl ho (hz.trans (by first | (simp only [fRd_await, if_neg h9]; done) | (simp only [fRd_await, if_neg h9]; rfl) | rfl))
set_option maxHeartbeats 4000000 in
set_option maxRecDepth 100000 in
theorem Rd_await_ok (g : pmG) (d : Nat) (ex : List (Nat × Nat)) (R : Nat → Nat → Value) (hR : pk_R R)  (x0 : Int32) (I : Nat → Nat → Int32) (J : Nat → Nat → Int64) (hp : pRd_await x0 I J) : pmC g kRd_await d 0 0 [.ref 13, .int x0] (pk_K ++ ex, R, I, J) (.returned none) (pk_K ++ ex, R, (fRd_await x0 I J), J) :=
  pmC.of (by decide) (Nat.le_of_ble_eq_true rfl) (Rd_await_n0 g d ex R hR _ _  x0 I J hp rfl rfl)
def fRd_findName_2  : Nat → Int32 → (Nat → Nat → Int32) → (Nat → Nat → Int64) → Int32
  | 0, _, _, _ => 0
  | n + 1, y1, I, J =>
  if (I 3 5) ≤ y1 then (-1 : Int32)
  else if ((fTk_areSame 40 (I 14 y1.toNatClampNeg) (I 13 2) I J)) = 0 then fRd_findName_2 n (y1 + Int32.ofInt 1) I J
    else y1
def pRd_findName_2  : Nat → Int32 → (Nat → Nat → Int32) → (Nat → Nat → Int64) → Prop
  | 0, _, _, _ => False
  | n + 1, y1, I, J =>
  ((I 3 5) ≤ y1 → True) ∧
  (¬ ((I 3 5) ≤ y1) → (vp_in y1 60) ∧ ((pTk_areSame 40 (I 14 y1.toNatClampNeg) (I 13 2) I J) ∧ ((((fTk_areSame 40 (I 14 y1.toNatClampNeg) (I 13 2) I J)) = 0 → pRd_findName_2 n (y1 + Int32.ofInt 1) I J) ∧
    (¬ (((fTk_areSame 40 (I 14 y1.toNatClampNeg) (I 13 2) I J)) = 0) → True))))
def fRd_findName (n2 : Nat) (I : Nat → Nat → Int32) (J : Nat → Nat → Int64) : Int32 :=
  fRd_findName_2 n2 (0 : Int32) I J
def pRd_findName (n2 : Nat) (I : Nat → Nat → Int32) (J : Nat → Nat → Int64) : Prop :=
  pRd_findName_2 n2 (0 : Int32) I J
set_option maxHeartbeats 4000000 in
set_option maxRecDepth 100000 in
theorem Rd_findName_n2 (g : pmG) (d : Nat) (ex : List (Nat × Nat)) (R : Nat → Nat → Value) (hR : pk_R R) (o : Outcome) (Z : pmM)  : ∀ (n : Nat) (y1 : Int32) (I : Nat → Nat → Int32) (J : Nat → Nat → Int64), pRd_findName_2 n y1 I J → o = .returned (some (.int (fRd_findName_2 n y1 I J))) → Z = (pk_K ++ ex, R, I, J) → pmE g kRd_findName (d + 1) 0 0 2 [(0, .ref 13), (1, .int y1)] [] (pk_K ++ ex) R I J o Z := by
  intro n
  induction n with
  | zero => intro y1 I J hp; exact False.elim hp
  | succ n ih =>
  intro y1 I J hp ho hz
  simp only [pRd_findName_2] at hp
  refine pm_iload_n dRd_findName_2 rfl ?_
  refine pm_aload_n dRd_findName_3 rfl ?_
  refine pm_getr dRd_findName_4 fRd_21 rfl (rr_13_0 hR) ?_
  refine pm_geti dRd_findName_7 fRd_125 rfl ?_
  refine pm_icmp_ge 41 dRd_findName_10 (by decide) (fun h10 => ?_) (fun h10 => ?_)
  ·
    refine pm_iconst (v := (-1)) dRd_findName_41 (by decide) ?_
    exact pm_iret dRd_findName_42 rfl (ho.trans (by first | (simp only [fRd_findName_2, if_pos h10]; done) | (simp only [fRd_findName_2, if_pos h10]; rfl) | rfl)) (hz.trans (by first | (simp only [fRd_findName_2, if_pos h10]; done) | (simp only [fRd_findName_2, if_pos h10]; rfl) | rfl))
  ·
    refine pm_aload_n dRd_findName_13 rfl ?_
    refine pm_getr dRd_findName_14 fRd_30 rfl (rr_13_1 hR) ?_
    refine pm_aload_n dRd_findName_17 rfl ?_
    refine pm_getr dRd_findName_18 fRd_9 rfl (rr_13_4 hR) ?_
    refine pm_iload_n dRd_findName_21 rfl ?_
    refine pm_iald dRd_findName_22 rfl (hp.2 h10).1 ?_
    refine pm_aload_n dRd_findName_23 rfl ?_
    refine pm_geti dRd_findName_24 fRd_91 rfl ?_
    refine pm_callV dRd_findName_27 lRd_226 vTk_areSame ⟨_, _, rfl⟩ (Tk_areSame_ok _ _ _ _ hR _ _ _ _ _ (hp.2 h10).2.1) rfl rfl rfl (Nat.le_of_ble_eq_true rfl) (Nat.le_refl _) (Nat.le_refl _) ?_
    refine pm_if_eq 35 dRd_findName_30 (by decide) (fun h30 => ?_) (fun h30 => ?_)
    ·
      refine pm_iinc dRd_findName_35 rfl (by decide) rfl ?_
      refine pm_goto 2 dRd_findName_38 (by decide) ?_
      refine pm_wk [1, 0] rfl ?_
      exact ih _ _ _ ((hp.2 h10).2.2.1 h30) (ho.trans (by first | (simp only [fRd_findName_2, if_neg h10, if_pos h30]; done) | (simp only [fRd_findName_2, if_neg h10, if_pos h30]; rfl) | rfl)) (hz.trans (by first | (simp only [fRd_findName_2, if_neg h10, if_pos h30]; done) | (simp only [fRd_findName_2, if_neg h10, if_pos h30]; rfl) | rfl))
    ·
      refine pm_iload_n dRd_findName_33 rfl ?_
      exact pm_iret dRd_findName_34 rfl (ho.trans (by first | (simp only [fRd_findName_2, if_neg h10, if_neg h30]; done) | (simp only [fRd_findName_2, if_neg h10, if_neg h30]; rfl) | rfl)) (hz.trans (by first | (simp only [fRd_findName_2, if_neg h10, if_neg h30]; done) | (simp only [fRd_findName_2, if_neg h10, if_neg h30]; rfl) | rfl))
set_option maxHeartbeats 4000000 in
set_option maxRecDepth 100000 in
theorem Rd_findName_n0 (g : pmG) (d : Nat) (ex : List (Nat × Nat)) (R : Nat → Nat → Value) (hR : pk_R R) (o : Outcome) (Z : pmM) (n2 : Nat) (I : Nat → Nat → Int32) (J : Nat → Nat → Int64) (hp : pRd_findName n2 I J) (ho : o = .returned (some (.int (fRd_findName n2 I J)))) (hz : Z = (pk_K ++ ex, R, I, J)) : pmE g kRd_findName (d + 1) 0 0 0 [(0, .ref 13)] [] (pk_K ++ ex) R I J o Z := by
  unfold pRd_findName at hp
  refine pm_iconst (v := 0) dRd_findName_0 (by decide) ?_
  refine pm_istore_n dRd_findName_1 (by decide) rfl ?_
  refine pm_wk [1, 0] rfl ?_
  exact Rd_findName_n2 g d ex R hR _ _  n2 _ _ _ hp (ho.trans (by first | rfl | (simp only [fRd_findName]; done) | (simp only [fRd_findName]; rfl))) (hz.trans (by first | rfl | (simp only [fRd_findName]; done) | (simp only [fRd_findName]; rfl)))
set_option maxHeartbeats 4000000 in
set_option maxRecDepth 100000 in
theorem Rd_findName_ok (g : pmG) (d : Nat) (ex : List (Nat × Nat)) (R : Nat → Nat → Value) (hR : pk_R R) (n2 : Nat)  (I : Nat → Nat → Int32) (J : Nat → Nat → Int64) (hp : pRd_findName n2 I J) : pmC g kRd_findName (d + 1) 0 0 [.ref 13] (pk_K ++ ex, R, I, J) (.returned (some (.int (fRd_findName n2 I J)))) (pk_K ++ ex, R, I, J) :=
  pmC.of (by decide) (Nat.le_of_ble_eq_true rfl) (Rd_findName_n0 g d ex R hR _ _ n2  I J hp rfl rfl)
def fRd_readNewName_25  (y1 : Int32) (I : Nat → Nat → Int32) (J : Nat → Nat → Int64) : (Nat → Nat → Int32) :=
  I
def pRd_readNewName_25  (y1 : Int32) (I : Nat → Nat → Int32) (J : Nat → Nat → Int64) : Prop :=
  True
def fRd_readNewName_40  (y1 : Int32) (I : Nat → Nat → Int32) (J : Nat → Nat → Int64) : (Nat → Nat → Int32) :=
  I
def pRd_readNewName_40  (y1 : Int32) (I : Nat → Nat → Int32) (J : Nat → Nat → Int64) : Prop :=
  True
def fRd_readNewName_54  (y1 : Int32) (I : Nat → Nat → Int32) (J : Nat → Nat → Int64) : (Nat → Nat → Int32) :=
  I
def pRd_readNewName_54  (y1 : Int32) (I : Nat → Nat → Int32) (J : Nat → Nat → Int64) : Prop :=
  True
def fRd_readNewName_4  (I : Nat → Nat → Int32) (J : Nat → Nat → Int64) : (Nat → Nat → Int32) :=
  if (I 13 3) = (43 : Int32) then if ((fRd_findName 61 I J)) < 0 then if (I 3 5) < (60 : Int32) then (fRd_advance (pm_u I 14 (I 3 5).toNatClampNeg (I 13 2)) J)
      else fRd_readNewName_54 (I 3 5) ((fRd_halt (4 : Int32) I J)) J
    else fRd_readNewName_40 (I 3 5) ((fRd_halt (2 : Int32) I J)) J
  else fRd_readNewName_25 (I 3 5) ((fRd_refuse I J)) J
def pRd_readNewName_4  (I : Nat → Nat → Int32) (J : Nat → Nat → Int64) : Prop :=
  ((I 13 3) = (43 : Int32) → (pRd_findName 61 I J) ∧ ((((fRd_findName 61 I J)) < 0 → ((I 3 5) < (60 : Int32) → (vp_in (I 3 5) 60) ∧ ((pRd_advance (pm_u I 14 (I 3 5).toNatClampNeg (I 13 2)) J) ∧ True)) ∧
      (¬ ((I 3 5) < (60 : Int32)) → (pRd_halt (4 : Int32) I J) ∧ (pRd_readNewName_54 (I 3 5) ((fRd_halt (4 : Int32) I J)) J))) ∧
    (¬ (((fRd_findName 61 I J)) < 0) → (pRd_halt (2 : Int32) I J) ∧ (pRd_readNewName_40 (I 3 5) ((fRd_halt (2 : Int32) I J)) J)))) ∧
  (¬ ((I 13 3) = (43 : Int32)) → (pRd_refuse I J) ∧ (pRd_readNewName_25 (I 3 5) ((fRd_refuse I J)) J))
def fRd_readNewName  (I : Nat → Nat → Int32) (J : Nat → Nat → Int64) : (Nat → Nat → Int32) :=
  fRd_readNewName_4 ((fRd_advance I J)) J
def pRd_readNewName  (I : Nat → Nat → Int32) (J : Nat → Nat → Int64) : Prop :=
  (pRd_advance I J) ∧ (pRd_readNewName_4 ((fRd_advance I J)) J)
set_option maxHeartbeats 4000000 in
set_option maxRecDepth 100000 in
theorem Rd_readNewName_n25 (g : pmG) (d : Nat) (ex : List (Nat × Nat)) (R : Nat → Nat → Value) (hR : pk_R R) (o : Outcome) (Z : pmM)  (y1 : Int32) (I : Nat → Nat → Int32) (J : Nat → Nat → Int64) (hp : pRd_readNewName_25 y1 I J) (ho : o = .returned none) (hz : Z = (pk_K ++ ex, R, (fRd_readNewName_25 y1 I J), J)) : pmE g kRd_readNewName (d + 2) 0 0 25 [(0, .ref 13), (1, .int y1)] [] (pk_K ++ ex) R I J o Z := by
  unfold pRd_readNewName_25 at hp
  refine pm_goto 71 dRd_readNewName_25 (by decide) ?_
  exact pm_vret dRd_readNewName_71 rfl ho (hz.trans (by first | rfl | (simp only [fRd_readNewName_25]; done) | (simp only [fRd_readNewName_25]; rfl)))
set_option maxHeartbeats 4000000 in
set_option maxRecDepth 100000 in
theorem Rd_readNewName_n40 (g : pmG) (d : Nat) (ex : List (Nat × Nat)) (R : Nat → Nat → Value) (hR : pk_R R) (o : Outcome) (Z : pmM)  (y1 : Int32) (I : Nat → Nat → Int32) (J : Nat → Nat → Int64) (hp : pRd_readNewName_40 y1 I J) (ho : o = .returned none) (hz : Z = (pk_K ++ ex, R, (fRd_readNewName_40 y1 I J), J)) : pmE g kRd_readNewName (d + 2) 0 0 40 [(0, .ref 13), (1, .int y1)] [] (pk_K ++ ex) R I J o Z := by
  unfold pRd_readNewName_40 at hp
  refine pm_goto 71 dRd_readNewName_40 (by decide) ?_
  exact pm_vret dRd_readNewName_71 rfl ho (hz.trans (by first | rfl | (simp only [fRd_readNewName_40]; done) | (simp only [fRd_readNewName_40]; rfl)))
set_option maxHeartbeats 4000000 in
set_option maxRecDepth 100000 in
theorem Rd_readNewName_n54 (g : pmG) (d : Nat) (ex : List (Nat × Nat)) (R : Nat → Nat → Value) (hR : pk_R R) (o : Outcome) (Z : pmM)  (y1 : Int32) (I : Nat → Nat → Int32) (J : Nat → Nat → Int64) (hp : pRd_readNewName_54 y1 I J) (ho : o = .returned none) (hz : Z = (pk_K ++ ex, R, (fRd_readNewName_54 y1 I J), J)) : pmE g kRd_readNewName (d + 2) 0 0 54 [(0, .ref 13), (1, .int y1)] [] (pk_K ++ ex) R I J o Z := by
  unfold pRd_readNewName_54 at hp
  refine pm_goto 71 dRd_readNewName_54 (by decide) ?_
  exact pm_vret dRd_readNewName_71 rfl ho (hz.trans (by first | rfl | (simp only [fRd_readNewName_54]; done) | (simp only [fRd_readNewName_54]; rfl)))
set_option maxHeartbeats 4000000 in
set_option maxRecDepth 100000 in
theorem Rd_readNewName_n4 (g : pmG) (d : Nat) (ex : List (Nat × Nat)) (R : Nat → Nat → Value) (hR : pk_R R) (o : Outcome) (Z : pmM)  (I : Nat → Nat → Int32) (J : Nat → Nat → Int64) (hp : pRd_readNewName_4 I J) (ho : o = .returned none) (hz : Z = (pk_K ++ ex, R, (fRd_readNewName_4 I J), J)) : pmE g kRd_readNewName (d + 2) 0 0 4 [(0, .ref 13)] [] (pk_K ++ ex) R I J o Z := by
  unfold pRd_readNewName_4 at hp
  refine pm_aload_n dRd_readNewName_4 rfl ?_
  refine pm_getr dRd_readNewName_5 fRd_21 rfl (rr_13_0 hR) ?_
  refine pm_geti dRd_readNewName_8 fRd_125 rfl ?_
  refine pm_istore_n dRd_readNewName_11 (by decide) rfl ?_
  refine pm_aload_n dRd_readNewName_12 rfl ?_
  refine pm_geti dRd_readNewName_13 fRd_52 rfl ?_
  refine pm_bipush (v := 43) dRd_readNewName_16 (by decide) ?_
  refine pm_icmp_eq 28 dRd_readNewName_18 (by decide) (fun h18 => ?_) (fun h18 => ?_)
  ·
    refine pm_aload_n dRd_readNewName_28 rfl ?_
    refine pm_callV dRd_readNewName_29 lRd_161 vRd_findName ⟨_, _, rfl⟩ (Rd_findName_ok _ _ _ _ hR _ _ _ (hp.1 h18).1) rfl rfl rfl (Nat.le_of_ble_eq_true rfl) (Nat.le_refl _) (Nat.le_refl _) ?_
    refine pm_if_lt 43 dRd_readNewName_32 (by decide) (fun h32 => ?_) (fun h32 => ?_)
    ·
      refine pm_iload_n dRd_readNewName_43 rfl ?_
      refine pm_bipush (v := 60) dRd_readNewName_44 (by decide) ?_
      refine pm_icmp_lt 57 dRd_readNewName_46 (by decide) (fun h46 => ?_) (fun h46 => ?_)
      ·
        refine pm_aload_n dRd_readNewName_57 rfl ?_
        refine pm_getr dRd_readNewName_58 fRd_9 rfl (rr_13_4 hR) ?_
        refine pm_iload_n dRd_readNewName_61 rfl ?_
        refine pm_aload_n dRd_readNewName_62 rfl ?_
        refine pm_geti dRd_readNewName_63 fRd_91 rfl ?_
        refine pm_iast dRd_readNewName_66 rfl (((hp.1 h18).2.1 h32).1 h46).1 ?_
        refine pm_aload_n dRd_readNewName_67 rfl ?_
        refine pm_callV dRd_readNewName_68 lRd_139 vRd_advance ⟨_, _, rfl⟩ (Rd_advance_ok _ _ _ _ hR  _ _ (((hp.1 h18).2.1 h32).1 h46).2.1) rfl rfl rfl (Nat.le_of_ble_eq_true rfl) (Nat.le_refl _) (Nat.le_refl _) ?_
        exact pm_vret dRd_readNewName_71 rfl ho (hz.trans (by first | (simp only [fRd_readNewName_4, if_pos h18, if_pos h32, if_pos h46]; done) | (simp only [fRd_readNewName_4, if_pos h18, if_pos h32, if_pos h46]; rfl) | rfl))
      ·
        refine pm_aload_n dRd_readNewName_49 rfl ?_
        refine pm_iconst (v := 4) dRd_readNewName_50 (by decide) ?_
        refine pm_callV dRd_readNewName_51 lRd_149 vRd_halt ⟨_, _, rfl⟩ (Rd_halt_ok _ _ _ _ hR _ _ _ (((hp.1 h18).2.1 h32).2 h46).1) rfl rfl rfl (Nat.le_of_ble_eq_true rfl) (Nat.le_refl _) (Nat.le_refl _) ?_
        refine pm_wk [1, 0] rfl ?_
        exact Rd_readNewName_n54 g d ex R hR _ _   _ _ _ (((hp.1 h18).2.1 h32).2 h46).2 ho (hz.trans (by first | (simp only [fRd_readNewName_4, if_pos h18, if_pos h32, if_neg h46]; done) | (simp only [fRd_readNewName_4, if_pos h18, if_pos h32, if_neg h46]; rfl) | rfl))
    ·
      refine pm_aload_n dRd_readNewName_35 rfl ?_
      refine pm_iconst (v := 2) dRd_readNewName_36 (by decide) ?_
      refine pm_callV dRd_readNewName_37 lRd_149 vRd_halt ⟨_, _, rfl⟩ (Rd_halt_ok _ _ _ _ hR _ _ _ ((hp.1 h18).2.2 h32).1) rfl rfl rfl (Nat.le_of_ble_eq_true rfl) (Nat.le_refl _) (Nat.le_refl _) ?_
      refine pm_wk [1, 0] rfl ?_
      exact Rd_readNewName_n40 g d ex R hR _ _   _ _ _ ((hp.1 h18).2.2 h32).2 ho (hz.trans (by first | (simp only [fRd_readNewName_4, if_pos h18, if_neg h32]; done) | (simp only [fRd_readNewName_4, if_pos h18, if_neg h32]; rfl) | rfl))
  ·
    refine pm_aload_n dRd_readNewName_21 rfl ?_
    refine pm_callV dRd_readNewName_22 lRd_73 vRd_refuse ⟨_, _, rfl⟩ (Rd_refuse_ok _ _ _ _ hR  _ _ (hp.2 h18).1) rfl rfl rfl (Nat.le_of_ble_eq_true rfl) (Nat.le_refl _) (Nat.le_refl _) ?_
    refine pm_wk [1, 0] rfl ?_
    exact Rd_readNewName_n25 g d ex R hR _ _   _ _ _ (hp.2 h18).2 ho (hz.trans (by first | (simp only [fRd_readNewName_4, if_neg h18]; done) | (simp only [fRd_readNewName_4, if_neg h18]; rfl) | rfl))
set_option maxHeartbeats 4000000 in
set_option maxRecDepth 100000 in
theorem Rd_readNewName_n0 (g : pmG) (d : Nat) (ex : List (Nat × Nat)) (R : Nat → Nat → Value) (hR : pk_R R) (o : Outcome) (Z : pmM)  (I : Nat → Nat → Int32) (J : Nat → Nat → Int64) (hp : pRd_readNewName I J) (ho : o = .returned none) (hz : Z = (pk_K ++ ex, R, (fRd_readNewName I J), J)) : pmE g kRd_readNewName (d + 2) 0 0 0 [(0, .ref 13)] [] (pk_K ++ ex) R I J o Z := by
  unfold pRd_readNewName at hp
  refine pm_aload_n dRd_readNewName_0 rfl ?_
  refine pm_callV dRd_readNewName_1 lRd_139 vRd_advance ⟨_, _, rfl⟩ (Rd_advance_ok _ _ _ _ hR  _ _ hp.1) rfl rfl rfl (Nat.le_of_ble_eq_true rfl) (Nat.le_refl _) (Nat.le_refl _) ?_
  refine pm_wk [0] rfl ?_
  exact Rd_readNewName_n4 g d ex R hR _ _   _ _ hp.2 ho (hz.trans (by first | rfl | (simp only [fRd_readNewName]; done) | (simp only [fRd_readNewName]; rfl)))
set_option maxHeartbeats 4000000 in
set_option maxRecDepth 100000 in
theorem Rd_readNewName_ok (g : pmG) (d : Nat) (ex : List (Nat × Nat)) (R : Nat → Nat → Value) (hR : pk_R R)   (I : Nat → Nat → Int32) (J : Nat → Nat → Int64) (hp : pRd_readNewName I J) : pmC g kRd_readNewName (d + 2) 0 0 [.ref 13] (pk_K ++ ex, R, I, J) (.returned none) (pk_K ++ ex, R, (fRd_readNewName I J), J) :=
  pmC.of (by decide) (Nat.le_of_ble_eq_true rfl) (Rd_readNewName_n0 g d ex R hR _ _   I J hp rfl rfl)
def fRd_readRegWithoutNext_13  (I : Nat → Nat → Int32) (J : Nat → Nat → Int64) : Int32 × (Nat → Nat → Int32) :=
  ((0 : Int32), I)
def pRd_readRegWithoutNext_13  (I : Nat → Nat → Int32) (J : Nat → Nat → Int64) : Prop :=
  True
def fRd_readRegWithoutNext_52  (y1 : Int32) (I : Nat → Nat → Int32) (J : Nat → Nat → Int64) : Int32 × (Nat → Nat → Int32) :=
  ((0 : Int32), I)
def pRd_readRegWithoutNext_52  (y1 : Int32) (I : Nat → Nat → Int32) (J : Nat → Nat → Int64) : Prop :=
  True
def fRd_readRegWithoutNext_47  (y1 : Int32) (I : Nat → Nat → Int32) (J : Nat → Nat → Int64) : Int32 × (Nat → Nat → Int32) :=
  fRd_readRegWithoutNext_52 y1 ((fRd_halt (2 : Int32) I J)) J
def pRd_readRegWithoutNext_47  (y1 : Int32) (I : Nat → Nat → Int32) (J : Nat → Nat → Int64) : Prop :=
  (pRd_halt (2 : Int32) I J) ∧ (pRd_readRegWithoutNext_52 y1 ((fRd_halt (2 : Int32) I J)) J)
def fRd_readRegWithoutNext_65  (y1 : Int32) (I : Nat → Nat → Int32) (J : Nat → Nat → Int64) : Int32 × (Nat → Nat → Int32) :=
  (y1, I)
def pRd_readRegWithoutNext_65  (y1 : Int32) (I : Nat → Nat → Int32) (J : Nat → Nat → Int64) : Prop :=
  True
def fRd_readRegWithoutNext  (I : Nat → Nat → Int32) (J : Nat → Nat → Int64) : Int32 × (Nat → Nat → Int32) :=
  if (I 13 3) = (43 : Int32) then if ((fRd_findName 61 I J)) < 0 then fRd_readRegWithoutNext_47 ((fRd_findName 61 I J)) I J
    else if (I 4 ((fRd_findName 61 I J)).toNatClampNeg) = (29 : Int32) then if (I 15 ((fRd_findName 61 I J)).toNatClampNeg) = 0 then fRd_readRegWithoutNext_65 ((fRd_findName 61 I J)) ((fRd_advance (pm_u I 15 ((fRd_findName 61 I J)).toNatClampNeg (1 : Int32)) J)) J
        else fRd_readRegWithoutNext_47 ((fRd_findName 61 I J)) I J
      else fRd_readRegWithoutNext_47 ((fRd_findName 61 I J)) I J
  else fRd_readRegWithoutNext_13 ((fRd_refuse I J)) J
def pRd_readRegWithoutNext  (I : Nat → Nat → Int32) (J : Nat → Nat → Int64) : Prop :=
  ((I 13 3) = (43 : Int32) → (pRd_findName 61 I J) ∧ ((((fRd_findName 61 I J)) < 0 → pRd_readRegWithoutNext_47 ((fRd_findName 61 I J)) I J) ∧
    (¬ (((fRd_findName 61 I J)) < 0) → (vp_in ((fRd_findName 61 I J)) 60) ∧ (((I 4 ((fRd_findName 61 I J)).toNatClampNeg) = (29 : Int32) → (vp_in ((fRd_findName 61 I J)) 60) ∧ (((I 15 ((fRd_findName 61 I J)).toNatClampNeg) = 0 → (vp_in ((fRd_findName 61 I J)) 60) ∧ ((pRd_advance (pm_u I 15 ((fRd_findName 61 I J)).toNatClampNeg (1 : Int32)) J) ∧ (pRd_readRegWithoutNext_65 ((fRd_findName 61 I J)) ((fRd_advance (pm_u I 15 ((fRd_findName 61 I J)).toNatClampNeg (1 : Int32)) J)) J))) ∧
        (¬ ((I 15 ((fRd_findName 61 I J)).toNatClampNeg) = 0) → pRd_readRegWithoutNext_47 ((fRd_findName 61 I J)) I J))) ∧
      (¬ ((I 4 ((fRd_findName 61 I J)).toNatClampNeg) = (29 : Int32)) → pRd_readRegWithoutNext_47 ((fRd_findName 61 I J)) I J))))) ∧
  (¬ ((I 13 3) = (43 : Int32)) → (pRd_refuse I J) ∧ (pRd_readRegWithoutNext_13 ((fRd_refuse I J)) J))
set_option maxHeartbeats 4000000 in
set_option maxRecDepth 100000 in
theorem Rd_readRegWithoutNext_n13 (g : pmG) (d : Nat) (ex : List (Nat × Nat)) (R : Nat → Nat → Value) (hR : pk_R R) (o : Outcome) (Z : pmM)  (I : Nat → Nat → Int32) (J : Nat → Nat → Int64) (hp : pRd_readRegWithoutNext_13 I J) (ho : o = .returned (some (.int (fRd_readRegWithoutNext_13 I J).1))) (hz : Z = (pk_K ++ ex, R, (fRd_readRegWithoutNext_13 I J).2, J)) : pmE g kRd_readRegWithoutNext (d + 2) 0 0 13 [(0, .ref 13)] [] (pk_K ++ ex) R I J o Z := by
  unfold pRd_readRegWithoutNext_13 at hp
  refine pm_iconst (v := 0) dRd_readRegWithoutNext_13 (by decide) ?_
  exact pm_iret dRd_readRegWithoutNext_14 rfl (ho.trans (by first | rfl | (simp only [fRd_readRegWithoutNext_13]; done) | (simp only [fRd_readRegWithoutNext_13]; rfl))) (hz.trans (by first | rfl | (simp only [fRd_readRegWithoutNext_13]; done) | (simp only [fRd_readRegWithoutNext_13]; rfl)))
set_option maxHeartbeats 4000000 in
set_option maxRecDepth 100000 in
theorem Rd_readRegWithoutNext_n52 (g : pmG) (d : Nat) (ex : List (Nat × Nat)) (R : Nat → Nat → Value) (hR : pk_R R) (o : Outcome) (Z : pmM)  (y1 : Int32) (I : Nat → Nat → Int32) (J : Nat → Nat → Int64) (hp : pRd_readRegWithoutNext_52 y1 I J) (ho : o = .returned (some (.int (fRd_readRegWithoutNext_52 y1 I J).1))) (hz : Z = (pk_K ++ ex, R, (fRd_readRegWithoutNext_52 y1 I J).2, J)) : pmE g kRd_readRegWithoutNext (d + 2) 0 0 52 [(0, .ref 13), (1, .int y1)] [] (pk_K ++ ex) R I J o Z := by
  unfold pRd_readRegWithoutNext_52 at hp
  refine pm_iconst (v := 0) dRd_readRegWithoutNext_52 (by decide) ?_
  exact pm_iret dRd_readRegWithoutNext_53 rfl (ho.trans (by first | rfl | (simp only [fRd_readRegWithoutNext_52]; done) | (simp only [fRd_readRegWithoutNext_52]; rfl))) (hz.trans (by first | rfl | (simp only [fRd_readRegWithoutNext_52]; done) | (simp only [fRd_readRegWithoutNext_52]; rfl)))
set_option maxHeartbeats 4000000 in
set_option maxRecDepth 100000 in
theorem Rd_readRegWithoutNext_n47 (g : pmG) (d : Nat) (ex : List (Nat × Nat)) (R : Nat → Nat → Value) (hR : pk_R R) (o : Outcome) (Z : pmM)  (y1 : Int32) (I : Nat → Nat → Int32) (J : Nat → Nat → Int64) (hp : pRd_readRegWithoutNext_47 y1 I J) (ho : o = .returned (some (.int (fRd_readRegWithoutNext_47 y1 I J).1))) (hz : Z = (pk_K ++ ex, R, (fRd_readRegWithoutNext_47 y1 I J).2, J)) : pmE g kRd_readRegWithoutNext (d + 2) 0 0 47 [(0, .ref 13), (1, .int y1)] [] (pk_K ++ ex) R I J o Z := by
  unfold pRd_readRegWithoutNext_47 at hp
  refine pm_aload_n dRd_readRegWithoutNext_47 rfl ?_
  refine pm_iconst (v := 2) dRd_readRegWithoutNext_48 (by decide) ?_
  refine pm_callV dRd_readRegWithoutNext_49 lRd_149 vRd_halt ⟨_, _, rfl⟩ (Rd_halt_ok _ _ _ _ hR _ _ _ hp.1) rfl rfl rfl (Nat.le_of_ble_eq_true rfl) (Nat.le_refl _) (Nat.le_refl _) ?_
  refine pm_wk [0, 1] rfl ?_
  exact Rd_readRegWithoutNext_n52 g d ex R hR _ _   _ _ _ hp.2 (ho.trans (by first | rfl | (simp only [fRd_readRegWithoutNext_47]; done) | (simp only [fRd_readRegWithoutNext_47]; rfl))) (hz.trans (by first | rfl | (simp only [fRd_readRegWithoutNext_47]; done) | (simp only [fRd_readRegWithoutNext_47]; rfl)))
set_option maxHeartbeats 4000000 in
set_option maxRecDepth 100000 in
theorem Rd_readRegWithoutNext_n65 (g : pmG) (d : Nat) (ex : List (Nat × Nat)) (R : Nat → Nat → Value) (hR : pk_R R) (o : Outcome) (Z : pmM)  (y1 : Int32) (I : Nat → Nat → Int32) (J : Nat → Nat → Int64) (hp : pRd_readRegWithoutNext_65 y1 I J) (ho : o = .returned (some (.int (fRd_readRegWithoutNext_65 y1 I J).1))) (hz : Z = (pk_K ++ ex, R, (fRd_readRegWithoutNext_65 y1 I J).2, J)) : pmE g kRd_readRegWithoutNext (d + 2) 0 0 65 [(0, .ref 13), (1, .int y1)] [] (pk_K ++ ex) R I J o Z := by
  unfold pRd_readRegWithoutNext_65 at hp
  refine pm_iload_n dRd_readRegWithoutNext_65 rfl ?_
  exact pm_iret dRd_readRegWithoutNext_66 rfl (ho.trans (by first | rfl | (simp only [fRd_readRegWithoutNext_65]; done) | (simp only [fRd_readRegWithoutNext_65]; rfl))) (hz.trans (by first | rfl | (simp only [fRd_readRegWithoutNext_65]; done) | (simp only [fRd_readRegWithoutNext_65]; rfl)))
set_option maxHeartbeats 4000000 in
set_option maxRecDepth 100000 in
theorem Rd_readRegWithoutNext_n0 (g : pmG) (d : Nat) (ex : List (Nat × Nat)) (R : Nat → Nat → Value) (hR : pk_R R) (o : Outcome) (Z : pmM)  (I : Nat → Nat → Int32) (J : Nat → Nat → Int64) (hp : pRd_readRegWithoutNext I J) (ho : o = .returned (some (.int (fRd_readRegWithoutNext I J).1))) (hz : Z = (pk_K ++ ex, R, (fRd_readRegWithoutNext I J).2, J)) : pmE g kRd_readRegWithoutNext (d + 2) 0 0 0 [(0, .ref 13)] [] (pk_K ++ ex) R I J o Z := by
  unfold pRd_readRegWithoutNext at hp
  refine pm_aload_n dRd_readRegWithoutNext_0 rfl ?_
  refine pm_geti dRd_readRegWithoutNext_1 fRd_52 rfl ?_
  refine pm_bipush (v := 43) dRd_readRegWithoutNext_4 (by decide) ?_
  refine pm_icmp_eq 15 dRd_readRegWithoutNext_6 (by decide) (fun h6 => ?_) (fun h6 => ?_)
  ·
    refine pm_aload_n dRd_readRegWithoutNext_15 rfl ?_
    refine pm_callV dRd_readRegWithoutNext_16 lRd_161 vRd_findName ⟨_, _, rfl⟩ (Rd_findName_ok _ _ _ _ hR _ _ _ (hp.1 h6).1) rfl rfl rfl (Nat.le_of_ble_eq_true rfl) (Nat.le_refl _) (Nat.le_refl _) ?_
    refine pm_istore_n dRd_readRegWithoutNext_19 (by decide) rfl ?_
    refine pm_iload_n dRd_readRegWithoutNext_20 rfl ?_
    refine pm_if_lt 47 dRd_readRegWithoutNext_21 (by decide) (fun h21 => ?_) (fun h21 => ?_)
    ·
      refine pm_wk [1, 0] rfl ?_
      exact Rd_readRegWithoutNext_n47 g d ex R hR _ _   _ _ _ ((hp.1 h6).2.1 h21) (ho.trans (by first | (simp only [fRd_readRegWithoutNext, if_pos h6, if_pos h21]; done) | (simp only [fRd_readRegWithoutNext, if_pos h6, if_pos h21]; rfl) | rfl)) (hz.trans (by first | (simp only [fRd_readRegWithoutNext, if_pos h6, if_pos h21]; done) | (simp only [fRd_readRegWithoutNext, if_pos h6, if_pos h21]; rfl) | rfl))
    ·
      refine pm_aload_n dRd_readRegWithoutNext_24 rfl ?_
      refine pm_getr dRd_readRegWithoutNext_25 fRd_21 rfl (rr_13_0 hR) ?_
      refine pm_getr dRd_readRegWithoutNext_28 fRd_164 rfl (rr_3_0 hR) ?_
      refine pm_iload_n dRd_readRegWithoutNext_31 rfl ?_
      refine pm_iald dRd_readRegWithoutNext_32 rfl ((hp.1 h6).2.2 h21).1 ?_
      refine pm_bipush (v := 29) dRd_readRegWithoutNext_33 (by decide) ?_
      refine pm_icmp_ne 47 dRd_readRegWithoutNext_35 (by decide) (fun h35 => ?_) (fun h35 => ?_)
      ·
        refine pm_wk [1, 0] rfl ?_
        exact Rd_readRegWithoutNext_n47 g d ex R hR _ _   _ _ _ (((hp.1 h6).2.2 h21).2.2 h35) (ho.trans (by first | (simp only [fRd_readRegWithoutNext, if_pos h6, if_neg h21, if_neg h35]; done) | (simp only [fRd_readRegWithoutNext, if_pos h6, if_neg h21, if_neg h35]; rfl) | rfl)) (hz.trans (by first | (simp only [fRd_readRegWithoutNext, if_pos h6, if_neg h21, if_neg h35]; done) | (simp only [fRd_readRegWithoutNext, if_pos h6, if_neg h21, if_neg h35]; rfl) | rfl))
      ·
        refine pm_aload_n dRd_readRegWithoutNext_38 rfl ?_
        refine pm_getr dRd_readRegWithoutNext_39 fRd_15 rfl (rr_13_5 hR) ?_
        refine pm_iload_n dRd_readRegWithoutNext_42 rfl ?_
        refine pm_iald dRd_readRegWithoutNext_43 rfl (((hp.1 h6).2.2 h21).2.1 h35).1 ?_
        refine pm_if_eq 54 dRd_readRegWithoutNext_44 (by decide) (fun h44 => ?_) (fun h44 => ?_)
        ·
          refine pm_aload_n dRd_readRegWithoutNext_54 rfl ?_
          refine pm_getr dRd_readRegWithoutNext_55 fRd_15 rfl (rr_13_5 hR) ?_
          refine pm_iload_n dRd_readRegWithoutNext_58 rfl ?_
          refine pm_iconst (v := 1) dRd_readRegWithoutNext_59 (by decide) ?_
          refine pm_iast dRd_readRegWithoutNext_60 rfl ((((hp.1 h6).2.2 h21).2.1 h35).2.1 h44).1 ?_
          refine pm_aload_n dRd_readRegWithoutNext_61 rfl ?_
          refine pm_callV dRd_readRegWithoutNext_62 lRd_139 vRd_advance ⟨_, _, rfl⟩ (Rd_advance_ok _ _ _ _ hR  _ _ ((((hp.1 h6).2.2 h21).2.1 h35).2.1 h44).2.1) rfl rfl rfl (Nat.le_of_ble_eq_true rfl) (Nat.le_refl _) (Nat.le_refl _) ?_
          refine pm_wk [1, 0] rfl ?_
          exact Rd_readRegWithoutNext_n65 g d ex R hR _ _   _ _ _ ((((hp.1 h6).2.2 h21).2.1 h35).2.1 h44).2.2 (ho.trans (by first | (simp only [fRd_readRegWithoutNext, if_pos h6, if_neg h21, if_pos h35, if_pos h44]; done) | (simp only [fRd_readRegWithoutNext, if_pos h6, if_neg h21, if_pos h35, if_pos h44]; rfl) | rfl)) (hz.trans (by first | (simp only [fRd_readRegWithoutNext, if_pos h6, if_neg h21, if_pos h35, if_pos h44]; done) | (simp only [fRd_readRegWithoutNext, if_pos h6, if_neg h21, if_pos h35, if_pos h44]; rfl) | rfl))
        ·
          refine pm_wk [1, 0] rfl ?_
          exact Rd_readRegWithoutNext_n47 g d ex R hR _ _   _ _ _ ((((hp.1 h6).2.2 h21).2.1 h35).2.2 h44) (ho.trans (by first | (simp only [fRd_readRegWithoutNext, if_pos h6, if_neg h21, if_pos h35, if_neg h44]; done) | (simp only [fRd_readRegWithoutNext, if_pos h6, if_neg h21, if_pos h35, if_neg h44]; rfl) | rfl)) (hz.trans (by first | (simp only [fRd_readRegWithoutNext, if_pos h6, if_neg h21, if_pos h35, if_neg h44]; done) | (simp only [fRd_readRegWithoutNext, if_pos h6, if_neg h21, if_pos h35, if_neg h44]; rfl) | rfl))
  ·
    refine pm_aload_n dRd_readRegWithoutNext_9 rfl ?_
    refine pm_callV dRd_readRegWithoutNext_10 lRd_73 vRd_refuse ⟨_, _, rfl⟩ (Rd_refuse_ok _ _ _ _ hR  _ _ (hp.2 h6).1) rfl rfl rfl (Nat.le_of_ble_eq_true rfl) (Nat.le_refl _) (Nat.le_refl _) ?_
    refine pm_wk [0] rfl ?_
    exact Rd_readRegWithoutNext_n13 g d ex R hR _ _   _ _ (hp.2 h6).2 (ho.trans (by first | (simp only [fRd_readRegWithoutNext, if_neg h6]; done) | (simp only [fRd_readRegWithoutNext, if_neg h6]; rfl) | rfl)) (hz.trans (by first | (simp only [fRd_readRegWithoutNext, if_neg h6]; done) | (simp only [fRd_readRegWithoutNext, if_neg h6]; rfl) | rfl))
set_option maxHeartbeats 4000000 in
set_option maxRecDepth 100000 in
theorem Rd_readRegWithoutNext_ok (g : pmG) (d : Nat) (ex : List (Nat × Nat)) (R : Nat → Nat → Value) (hR : pk_R R)   (I : Nat → Nat → Int32) (J : Nat → Nat → Int64) (hp : pRd_readRegWithoutNext I J) : pmC g kRd_readRegWithoutNext (d + 2) 0 0 [.ref 13] (pk_K ++ ex, R, I, J) (.returned (some (.int (fRd_readRegWithoutNext I J).1))) (pk_K ++ ex, R, (fRd_readRegWithoutNext I J).2, J) :=
  pmC.of (by decide) (Nat.le_of_ble_eq_true rfl) (Rd_readRegWithoutNext_n0 g d ex R hR _ _   I J hp rfl rfl)
def fRd_readNumber_13  (y1 : Int32) (y2 : Int32) (I : Nat → Nat → Int32) (J : Nat → Nat → Int64) : Int32 × (Nat → Nat → Int32) :=
  ((0 : Int32), I)
def pRd_readNumber_13  (y1 : Int32) (y2 : Int32) (I : Nat → Nat → Int32) (J : Nat → Nat → Int64) : Prop :=
  True
def fRd_readNumber_43  (y1 : Int32) (y2 : Int32) (y3 : Int32) (I : Nat → Nat → Int32) (J : Nat → Nat → Int64) : Int32 × (Nat → Nat → Int32) :=
  ((0 : Int32), I)
def pRd_readNumber_43  (y1 : Int32) (y2 : Int32) (y3 : Int32) (I : Nat → Nat → Int32) (J : Nat → Nat → Int64) : Prop :=
  True
def fRd_readNumber_38  (y1 : Int32) (y2 : Int32) (y3 : Int32) (I : Nat → Nat → Int32) (J : Nat → Nat → Int64) : Int32 × (Nat → Nat → Int32) :=
  fRd_readNumber_43 y1 y2 y3 ((fRd_halt (3 : Int32) I J)) J
def pRd_readNumber_38  (y1 : Int32) (y2 : Int32) (y3 : Int32) (I : Nat → Nat → Int32) (J : Nat → Nat → Int64) : Prop :=
  (pRd_halt (3 : Int32) I J) ∧ (pRd_readNumber_43 y1 y2 y3 ((fRd_halt (3 : Int32) I J)) J)
def fRd_readNumber_49  (y1 : Int32) (y2 : Int32) (y3 : Int32) (I : Nat → Nat → Int32) (J : Nat → Nat → Int64) : Int32 × (Nat → Nat → Int32) :=
  (y3, I)
def pRd_readNumber_49  (y1 : Int32) (y2 : Int32) (y3 : Int32) (I : Nat → Nat → Int32) (J : Nat → Nat → Int64) : Prop :=
  True
def fRd_readNumber  (y1 : Int32) (y2 : Int32) (I : Nat → Nat → Int32) (J : Nat → Nat → Int64) : Int32 × (Nat → Nat → Int32) :=
  if (I 13 3) = (44 : Int32) then if (I 21 (I 13 2).toNatClampNeg) < y1 then fRd_readNumber_38 y1 y2 (I 21 (I 13 2).toNatClampNeg) I J
    else if (I 21 (I 13 2).toNatClampNeg) ≤ y2 then fRd_readNumber_49 y1 y2 (I 21 (I 13 2).toNatClampNeg) ((fRd_advance I J)) J
      else fRd_readNumber_38 y1 y2 (I 21 (I 13 2).toNatClampNeg) I J
  else fRd_readNumber_13 y1 y2 ((fRd_refuse I J)) J
def pRd_readNumber  (y1 : Int32) (y2 : Int32) (I : Nat → Nat → Int32) (J : Nat → Nat → Int64) : Prop :=
  ((I 13 3) = (44 : Int32) → (vp_in (I 13 2) 4001) ∧ (((I 21 (I 13 2).toNatClampNeg) < y1 → pRd_readNumber_38 y1 y2 (I 21 (I 13 2).toNatClampNeg) I J) ∧
    (¬ ((I 21 (I 13 2).toNatClampNeg) < y1) → ((I 21 (I 13 2).toNatClampNeg) ≤ y2 → (pRd_advance I J) ∧ (pRd_readNumber_49 y1 y2 (I 21 (I 13 2).toNatClampNeg) ((fRd_advance I J)) J)) ∧
      (¬ ((I 21 (I 13 2).toNatClampNeg) ≤ y2) → pRd_readNumber_38 y1 y2 (I 21 (I 13 2).toNatClampNeg) I J)))) ∧
  (¬ ((I 13 3) = (44 : Int32)) → (pRd_refuse I J) ∧ (pRd_readNumber_13 y1 y2 ((fRd_refuse I J)) J))
set_option maxHeartbeats 4000000 in
set_option maxRecDepth 100000 in
theorem Rd_readNumber_n13 (g : pmG) (d : Nat) (ex : List (Nat × Nat)) (R : Nat → Nat → Value) (hR : pk_R R) (o : Outcome) (Z : pmM)  (y1 : Int32) (y2 : Int32) (I : Nat → Nat → Int32) (J : Nat → Nat → Int64) (hp : pRd_readNumber_13 y1 y2 I J) (ho : o = .returned (some (.int (fRd_readNumber_13 y1 y2 I J).1))) (hz : Z = (pk_K ++ ex, R, (fRd_readNumber_13 y1 y2 I J).2, J)) : pmE g kRd_readNumber (d + 2) 0 0 13 [(0, .ref 13), (1, .int y1), (2, .int y2)] [] (pk_K ++ ex) R I J o Z := by
  unfold pRd_readNumber_13 at hp
  refine pm_iconst (v := 0) dRd_readNumber_13 (by decide) ?_
  exact pm_iret dRd_readNumber_14 rfl (ho.trans (by first | rfl | (simp only [fRd_readNumber_13]; done) | (simp only [fRd_readNumber_13]; rfl))) (hz.trans (by first | rfl | (simp only [fRd_readNumber_13]; done) | (simp only [fRd_readNumber_13]; rfl)))
set_option maxHeartbeats 4000000 in
set_option maxRecDepth 100000 in
theorem Rd_readNumber_n43 (g : pmG) (d : Nat) (ex : List (Nat × Nat)) (R : Nat → Nat → Value) (hR : pk_R R) (o : Outcome) (Z : pmM)  (y1 : Int32) (y2 : Int32) (y3 : Int32) (I : Nat → Nat → Int32) (J : Nat → Nat → Int64) (hp : pRd_readNumber_43 y1 y2 y3 I J) (ho : o = .returned (some (.int (fRd_readNumber_43 y1 y2 y3 I J).1))) (hz : Z = (pk_K ++ ex, R, (fRd_readNumber_43 y1 y2 y3 I J).2, J)) : pmE g kRd_readNumber (d + 2) 0 0 43 [(0, .ref 13), (1, .int y1), (2, .int y2), (3, .int y3)] [] (pk_K ++ ex) R I J o Z := by
  unfold pRd_readNumber_43 at hp
  refine pm_iconst (v := 0) dRd_readNumber_43 (by decide) ?_
  exact pm_iret dRd_readNumber_44 rfl (ho.trans (by first | rfl | (simp only [fRd_readNumber_43]; done) | (simp only [fRd_readNumber_43]; rfl))) (hz.trans (by first | rfl | (simp only [fRd_readNumber_43]; done) | (simp only [fRd_readNumber_43]; rfl)))
set_option maxHeartbeats 4000000 in
set_option maxRecDepth 100000 in
theorem Rd_readNumber_n38 (g : pmG) (d : Nat) (ex : List (Nat × Nat)) (R : Nat → Nat → Value) (hR : pk_R R) (o : Outcome) (Z : pmM)  (y1 : Int32) (y2 : Int32) (y3 : Int32) (I : Nat → Nat → Int32) (J : Nat → Nat → Int64) (hp : pRd_readNumber_38 y1 y2 y3 I J) (ho : o = .returned (some (.int (fRd_readNumber_38 y1 y2 y3 I J).1))) (hz : Z = (pk_K ++ ex, R, (fRd_readNumber_38 y1 y2 y3 I J).2, J)) : pmE g kRd_readNumber (d + 2) 0 0 38 [(0, .ref 13), (1, .int y1), (2, .int y2), (3, .int y3)] [] (pk_K ++ ex) R I J o Z := by
  unfold pRd_readNumber_38 at hp
  refine pm_aload_n dRd_readNumber_38 rfl ?_
  refine pm_iconst (v := 3) dRd_readNumber_39 (by decide) ?_
  refine pm_callV dRd_readNumber_40 lRd_149 vRd_halt ⟨_, _, rfl⟩ (Rd_halt_ok _ _ _ _ hR _ _ _ hp.1) rfl rfl rfl (Nat.le_of_ble_eq_true rfl) (Nat.le_refl _) (Nat.le_refl _) ?_
  refine pm_wk [0, 1, 2, 3] rfl ?_
  exact Rd_readNumber_n43 g d ex R hR _ _   _ _ _ _ _ hp.2 (ho.trans (by first | rfl | (simp only [fRd_readNumber_38]; done) | (simp only [fRd_readNumber_38]; rfl))) (hz.trans (by first | rfl | (simp only [fRd_readNumber_38]; done) | (simp only [fRd_readNumber_38]; rfl)))
set_option maxHeartbeats 4000000 in
set_option maxRecDepth 100000 in
theorem Rd_readNumber_n49 (g : pmG) (d : Nat) (ex : List (Nat × Nat)) (R : Nat → Nat → Value) (hR : pk_R R) (o : Outcome) (Z : pmM)  (y1 : Int32) (y2 : Int32) (y3 : Int32) (I : Nat → Nat → Int32) (J : Nat → Nat → Int64) (hp : pRd_readNumber_49 y1 y2 y3 I J) (ho : o = .returned (some (.int (fRd_readNumber_49 y1 y2 y3 I J).1))) (hz : Z = (pk_K ++ ex, R, (fRd_readNumber_49 y1 y2 y3 I J).2, J)) : pmE g kRd_readNumber (d + 2) 0 0 49 [(0, .ref 13), (1, .int y1), (2, .int y2), (3, .int y3)] [] (pk_K ++ ex) R I J o Z := by
  unfold pRd_readNumber_49 at hp
  refine pm_iload_n dRd_readNumber_49 rfl ?_
  exact pm_iret dRd_readNumber_50 rfl (ho.trans (by first | rfl | (simp only [fRd_readNumber_49]; done) | (simp only [fRd_readNumber_49]; rfl))) (hz.trans (by first | rfl | (simp only [fRd_readNumber_49]; done) | (simp only [fRd_readNumber_49]; rfl)))
set_option maxHeartbeats 4000000 in
set_option maxRecDepth 100000 in
theorem Rd_readNumber_n0 (g : pmG) (d : Nat) (ex : List (Nat × Nat)) (R : Nat → Nat → Value) (hR : pk_R R) (o : Outcome) (Z : pmM)  (y1 : Int32) (y2 : Int32) (I : Nat → Nat → Int32) (J : Nat → Nat → Int64) (hp : pRd_readNumber y1 y2 I J) (ho : o = .returned (some (.int (fRd_readNumber y1 y2 I J).1))) (hz : Z = (pk_K ++ ex, R, (fRd_readNumber y1 y2 I J).2, J)) : pmE g kRd_readNumber (d + 2) 0 0 0 [(0, .ref 13), (1, .int y1), (2, .int y2)] [] (pk_K ++ ex) R I J o Z := by
  unfold pRd_readNumber at hp
  refine pm_aload_n dRd_readNumber_0 rfl ?_
  refine pm_geti dRd_readNumber_1 fRd_52 rfl ?_
  refine pm_bipush (v := 44) dRd_readNumber_4 (by decide) ?_
  refine pm_icmp_eq 15 dRd_readNumber_6 (by decide) (fun h6 => ?_) (fun h6 => ?_)
  ·
    refine pm_aload_n dRd_readNumber_15 rfl ?_
    refine pm_getr dRd_readNumber_16 fRd_30 rfl (rr_13_1 hR) ?_
    refine pm_getr dRd_readNumber_19 fRd_165 rfl (rr_17_4 hR) ?_
    refine pm_aload_n dRd_readNumber_22 rfl ?_
    refine pm_geti dRd_readNumber_23 fRd_91 rfl ?_
    refine pm_iald dRd_readNumber_26 rfl (hp.1 h6).1 ?_
    refine pm_istore_n dRd_readNumber_27 (by decide) rfl ?_
    refine pm_iload_n dRd_readNumber_28 rfl ?_
    refine pm_iload_n dRd_readNumber_29 rfl ?_
    refine pm_icmp_lt 38 dRd_readNumber_30 (by decide) (fun h30 => ?_) (fun h30 => ?_)
    ·
      refine pm_wk [1, 2, 3, 0] rfl ?_
      exact Rd_readNumber_n38 g d ex R hR _ _   _ _ _ _ _ ((hp.1 h6).2.1 h30) (ho.trans (by first | (simp only [fRd_readNumber, if_pos h6, if_pos h30]; done) | (simp only [fRd_readNumber, if_pos h6, if_pos h30]; rfl) | rfl)) (hz.trans (by first | (simp only [fRd_readNumber, if_pos h6, if_pos h30]; done) | (simp only [fRd_readNumber, if_pos h6, if_pos h30]; rfl) | rfl))
    ·
      refine pm_iload_n dRd_readNumber_33 rfl ?_
      refine pm_iload_n dRd_readNumber_34 rfl ?_
      refine pm_icmp_le 45 dRd_readNumber_35 (by decide) (fun h35 => ?_) (fun h35 => ?_)
      ·
        refine pm_aload_n dRd_readNumber_45 rfl ?_
        refine pm_callV dRd_readNumber_46 lRd_139 vRd_advance ⟨_, _, rfl⟩ (Rd_advance_ok _ _ _ _ hR  _ _ (((hp.1 h6).2.2 h30).1 h35).1) rfl rfl rfl (Nat.le_of_ble_eq_true rfl) (Nat.le_refl _) (Nat.le_refl _) ?_
        refine pm_wk [1, 2, 3, 0] rfl ?_
        exact Rd_readNumber_n49 g d ex R hR _ _   _ _ _ _ _ (((hp.1 h6).2.2 h30).1 h35).2 (ho.trans (by first | (simp only [fRd_readNumber, if_pos h6, if_neg h30, if_pos h35]; done) | (simp only [fRd_readNumber, if_pos h6, if_neg h30, if_pos h35]; rfl) | rfl)) (hz.trans (by first | (simp only [fRd_readNumber, if_pos h6, if_neg h30, if_pos h35]; done) | (simp only [fRd_readNumber, if_pos h6, if_neg h30, if_pos h35]; rfl) | rfl))
      ·
        refine pm_wk [1, 2, 3, 0] rfl ?_
        exact Rd_readNumber_n38 g d ex R hR _ _   _ _ _ _ _ (((hp.1 h6).2.2 h30).2 h35) (ho.trans (by first | (simp only [fRd_readNumber, if_pos h6, if_neg h30, if_neg h35]; done) | (simp only [fRd_readNumber, if_pos h6, if_neg h30, if_neg h35]; rfl) | rfl)) (hz.trans (by first | (simp only [fRd_readNumber, if_pos h6, if_neg h30, if_neg h35]; done) | (simp only [fRd_readNumber, if_pos h6, if_neg h30, if_neg h35]; rfl) | rfl))
  ·
    refine pm_aload_n dRd_readNumber_9 rfl ?_
    refine pm_callV dRd_readNumber_10 lRd_73 vRd_refuse ⟨_, _, rfl⟩ (Rd_refuse_ok _ _ _ _ hR  _ _ (hp.2 h6).1) rfl rfl rfl (Nat.le_of_ble_eq_true rfl) (Nat.le_refl _) (Nat.le_refl _) ?_
    refine pm_wk [0, 1, 2] rfl ?_
    exact Rd_readNumber_n13 g d ex R hR _ _   _ _ _ _ (hp.2 h6).2 (ho.trans (by first | (simp only [fRd_readNumber, if_neg h6]; done) | (simp only [fRd_readNumber, if_neg h6]; rfl) | rfl)) (hz.trans (by first | (simp only [fRd_readNumber, if_neg h6]; done) | (simp only [fRd_readNumber, if_neg h6]; rfl) | rfl))
set_option maxHeartbeats 4000000 in
set_option maxRecDepth 100000 in
theorem Rd_readNumber_ok (g : pmG) (d : Nat) (ex : List (Nat × Nat)) (R : Nat → Nat → Value) (hR : pk_R R)  (x0 : Int32) (x1 : Int32) (I : Nat → Nat → Int32) (J : Nat → Nat → Int64) (hp : pRd_readNumber x0 x1 I J) : pmC g kRd_readNumber (d + 2) 0 0 [.ref 13, .int x0, .int x1] (pk_K ++ ex, R, I, J) (.returned (some (.int (fRd_readNumber x0 x1 I J).1))) (pk_K ++ ex, R, (fRd_readNumber x0 x1 I J).2, J) :=
  pmC.of (by decide) (Nat.le_of_ble_eq_true rfl) (Rd_readNumber_n0 g d ex R hR _ _  x0 x1 I J hp rfl rfl)
def fRd_readReg_48  (y1 : Int32) (y2 : Int32) (z0 : Int32) (I : Nat → Nat → Int32) (J : Nat → Nat → Int64) : (Nat → Nat → Int32) :=
  if z0 = 0 then I
  else (fCi_addReg y1 y2 I J)
def pRd_readReg_48  (y1 : Int32) (y2 : Int32) (z0 : Int32) (I : Nat → Nat → Int32) (J : Nat → Nat → Int64) : Prop :=
  (z0 = 0 → True) ∧
  (¬ (z0 = 0) → (pCi_addReg y1 y2 I J) ∧ True)
def fRd_readReg_42  (y1 : Int32) (z0 : Int32) (I : Nat → Nat → Int32) (J : Nat → Nat → Int64) : (Nat → Nat → Int32) :=
  fRd_readReg_48 y1 z0 ((fRd_expect (0 : Int32) I J).1) ((fRd_expect (0 : Int32) I J).2) J
def pRd_readReg_42  (y1 : Int32) (z0 : Int32) (I : Nat → Nat → Int32) (J : Nat → Nat → Int64) : Prop :=
  (pRd_expect (0 : Int32) I J) ∧ (pRd_readReg_48 y1 z0 ((fRd_expect (0 : Int32) I J).1) ((fRd_expect (0 : Int32) I J).2) J)
def fRd_readReg_31  (y1 : Int32) (z0 : Int32) (I : Nat → Nat → Int32) (J : Nat → Nat → Int64) : (Nat → Nat → Int32) :=
  fRd_readReg_42 y1 ((fRd_readNumber (0 : Int32) (((1 : Int32) <<< (y1 &&& 31)) - (1 : Int32)) I J).1) ((fRd_readNumber (0 : Int32) (((1 : Int32) <<< (y1 &&& 31)) - (1 : Int32)) I J).2) J
def pRd_readReg_31  (y1 : Int32) (z0 : Int32) (I : Nat → Nat → Int32) (J : Nat → Nat → Int64) : Prop :=
  (pRd_readNumber (0 : Int32) (((1 : Int32) <<< (y1 &&& 31)) - (1 : Int32)) I J) ∧ (pRd_readReg_42 y1 ((fRd_readNumber (0 : Int32) (((1 : Int32) <<< (y1 &&& 31)) - (1 : Int32)) I J).1) ((fRd_readNumber (0 : Int32) (((1 : Int32) <<< (y1 &&& 31)) - (1 : Int32)) I J).2) J)
def fRd_readReg_25  (z0 : Int32) (I : Nat → Nat → Int32) (J : Nat → Nat → Int64) : (Nat → Nat → Int32) :=
  fRd_readReg_31 z0 ((fRd_expect (2 : Int32) I J).1) ((fRd_expect (2 : Int32) I J).2) J
def pRd_readReg_25  (z0 : Int32) (I : Nat → Nat → Int32) (J : Nat → Nat → Int64) : Prop :=
  (pRd_expect (2 : Int32) I J) ∧ (pRd_readReg_31 z0 ((fRd_expect (2 : Int32) I J).1) ((fRd_expect (2 : Int32) I J).2) J)
def fRd_readReg_9  (z0 : Int32) (I : Nat → Nat → Int32) (J : Nat → Nat → Int64) : (Nat → Nat → Int32) :=
  fRd_readReg_25 ((fRd_readNumber (1 : Int32) ((8 : Int32) - (I 3 7)) I J).1) ((fRd_readNumber (1 : Int32) ((8 : Int32) - (I 3 7)) I J).2) J
def pRd_readReg_9  (z0 : Int32) (I : Nat → Nat → Int32) (J : Nat → Nat → Int64) : Prop :=
  (pRd_readNumber (1 : Int32) ((8 : Int32) - (I 3 7)) I J) ∧ (pRd_readReg_25 ((fRd_readNumber (1 : Int32) ((8 : Int32) - (I 3 7)) I J).1) ((fRd_readNumber (1 : Int32) ((8 : Int32) - (I 3 7)) I J).2) J)
def fRd_readReg_4  (I : Nat → Nat → Int32) (J : Nat → Nat → Int64) : (Nat → Nat → Int32) :=
  fRd_readReg_9 ((fRd_expect (1 : Int32) I J).1) ((fRd_expect (1 : Int32) I J).2) J
def pRd_readReg_4  (I : Nat → Nat → Int32) (J : Nat → Nat → Int64) : Prop :=
  (pRd_expect (1 : Int32) I J) ∧ (pRd_readReg_9 ((fRd_expect (1 : Int32) I J).1) ((fRd_expect (1 : Int32) I J).2) J)
def fRd_readReg  (I : Nat → Nat → Int32) (J : Nat → Nat → Int64) : (Nat → Nat → Int32) :=
  fRd_readReg_4 ((fRd_readNewName I J)) J
def pRd_readReg  (I : Nat → Nat → Int32) (J : Nat → Nat → Int64) : Prop :=
  (pRd_readNewName I J) ∧ (pRd_readReg_4 ((fRd_readNewName I J)) J)
set_option maxHeartbeats 4000000 in
set_option maxRecDepth 100000 in
theorem Rd_readReg_n48 (g : pmG) (d : Nat) (ex : List (Nat × Nat)) (R : Nat → Nat → Value) (hR : pk_R R) (o : Outcome) (Z : pmM)  (y1 : Int32) (y2 : Int32) (z0 : Int32) (I : Nat → Nat → Int32) (J : Nat → Nat → Int64) (hp : pRd_readReg_48 y1 y2 z0 I J) (ho : o = .returned none) (hz : Z = (pk_K ++ ex, R, (fRd_readReg_48 y1 y2 z0 I J), J)) : pmE g kRd_readReg (d + 3) 0 0 48 [(0, .ref 13), (1, .int y1), (2, .int y2)] [.int z0] (pk_K ++ ex) R I J o Z := by
  unfold pRd_readReg_48 at hp
  refine pm_if_eq 60 dRd_readReg_48 (by decide) (fun h48 => ?_) (fun h48 => ?_)
  ·
    exact pm_vret dRd_readReg_60 rfl ho (hz.trans (by first | (simp only [fRd_readReg_48, if_pos h48]; done) | (simp only [fRd_readReg_48, if_pos h48]; rfl) | rfl))
  ·
    refine pm_aload_n dRd_readReg_51 rfl ?_
    refine pm_getr dRd_readReg_52 fRd_21 rfl (rr_13_0 hR) ?_
    refine pm_iload_n dRd_readReg_55 rfl ?_
    refine pm_iload_n dRd_readReg_56 rfl ?_
    refine pm_callV dRd_readReg_57 lRd_111 vCi_addReg ⟨_, _, rfl⟩ (Ci_addReg_ok _ _ _ _ hR _ _ _ _ (hp.2 h48).1) rfl rfl rfl (Nat.le_of_ble_eq_true rfl) (Nat.le_refl _) (Nat.le_refl _) ?_
    exact pm_vret dRd_readReg_60 rfl ho (hz.trans (by first | (simp only [fRd_readReg_48, if_neg h48]; done) | (simp only [fRd_readReg_48, if_neg h48]; rfl) | rfl))
set_option maxHeartbeats 4000000 in
set_option maxRecDepth 100000 in
theorem Rd_readReg_n42 (g : pmG) (d : Nat) (ex : List (Nat × Nat)) (R : Nat → Nat → Value) (hR : pk_R R) (o : Outcome) (Z : pmM)  (y1 : Int32) (z0 : Int32) (I : Nat → Nat → Int32) (J : Nat → Nat → Int64) (hp : pRd_readReg_42 y1 z0 I J) (ho : o = .returned none) (hz : Z = (pk_K ++ ex, R, (fRd_readReg_42 y1 z0 I J), J)) : pmE g kRd_readReg (d + 3) 0 0 42 [(0, .ref 13), (1, .int y1)] [.int z0] (pk_K ++ ex) R I J o Z := by
  unfold pRd_readReg_42 at hp
  refine pm_istore_n dRd_readReg_42 (by decide) rfl ?_
  refine pm_aload_n dRd_readReg_43 rfl ?_
  refine pm_iconst (v := 0) dRd_readReg_44 (by decide) ?_
  refine pm_callV dRd_readReg_45 lRd_100 vRd_expect ⟨_, _, rfl⟩ (Rd_expect_ok _ _ _ _ hR _ _ _ hp.1) rfl rfl rfl (Nat.le_of_ble_eq_true rfl) (Nat.le_refl _) (Nat.le_refl _) ?_
  refine pm_wk [1, 2, 0] rfl ?_
  exact Rd_readReg_n48 g d ex R hR _ _   _ _ _ _ _ hp.2 ho (hz.trans (by first | rfl | (simp only [fRd_readReg_42]; done) | (simp only [fRd_readReg_42]; rfl)))
set_option maxHeartbeats 4000000 in
set_option maxRecDepth 100000 in
theorem Rd_readReg_n31 (g : pmG) (d : Nat) (ex : List (Nat × Nat)) (R : Nat → Nat → Value) (hR : pk_R R) (o : Outcome) (Z : pmM)  (y1 : Int32) (z0 : Int32) (I : Nat → Nat → Int32) (J : Nat → Nat → Int64) (hp : pRd_readReg_31 y1 z0 I J) (ho : o = .returned none) (hz : Z = (pk_K ++ ex, R, (fRd_readReg_31 y1 z0 I J), J)) : pmE g kRd_readReg (d + 3) 0 0 31 [(0, .ref 13), (1, .int y1)] [.int z0] (pk_K ++ ex) R I J o Z := by
  unfold pRd_readReg_31 at hp
  refine pm_pop dRd_readReg_31 rfl ?_
  refine pm_aload_n dRd_readReg_32 rfl ?_
  refine pm_iconst (v := 0) dRd_readReg_33 (by decide) ?_
  refine pm_iconst (v := 1) dRd_readReg_34 (by decide) ?_
  refine pm_iload_n dRd_readReg_35 rfl ?_
  refine pm_ishl dRd_readReg_36 ?_
  refine pm_iconst (v := 1) dRd_readReg_37 (by decide) ?_
  refine pm_isub dRd_readReg_38 ?_
  refine pm_callV dRd_readReg_39 lRd_107 vRd_readNumber ⟨_, _, rfl⟩ (Rd_readNumber_ok _ _ _ _ hR _ _ _ _ hp.1) rfl rfl rfl (Nat.le_of_ble_eq_true rfl) (Nat.le_refl _) (Nat.le_refl _) ?_
  refine pm_wk [0, 1] rfl ?_
  exact Rd_readReg_n42 g d ex R hR _ _   _ _ _ _ hp.2 ho (hz.trans (by first | rfl | (simp only [fRd_readReg_31]; done) | (simp only [fRd_readReg_31]; rfl)))
set_option maxHeartbeats 4000000 in
set_option maxRecDepth 100000 in
theorem Rd_readReg_n25 (g : pmG) (d : Nat) (ex : List (Nat × Nat)) (R : Nat → Nat → Value) (hR : pk_R R) (o : Outcome) (Z : pmM)  (z0 : Int32) (I : Nat → Nat → Int32) (J : Nat → Nat → Int64) (hp : pRd_readReg_25 z0 I J) (ho : o = .returned none) (hz : Z = (pk_K ++ ex, R, (fRd_readReg_25 z0 I J), J)) : pmE g kRd_readReg (d + 3) 0 0 25 [(0, .ref 13)] [.int z0] (pk_K ++ ex) R I J o Z := by
  unfold pRd_readReg_25 at hp
  refine pm_istore_n dRd_readReg_25 (by decide) rfl ?_
  refine pm_aload_n dRd_readReg_26 rfl ?_
  refine pm_iconst (v := 2) dRd_readReg_27 (by decide) ?_
  refine pm_callV dRd_readReg_28 lRd_100 vRd_expect ⟨_, _, rfl⟩ (Rd_expect_ok _ _ _ _ hR _ _ _ hp.1) rfl rfl rfl (Nat.le_of_ble_eq_true rfl) (Nat.le_refl _) (Nat.le_refl _) ?_
  refine pm_wk [1, 0] rfl ?_
  exact Rd_readReg_n31 g d ex R hR _ _   _ _ _ _ hp.2 ho (hz.trans (by first | rfl | (simp only [fRd_readReg_25]; done) | (simp only [fRd_readReg_25]; rfl)))
set_option maxHeartbeats 4000000 in
set_option maxRecDepth 100000 in
theorem Rd_readReg_n9 (g : pmG) (d : Nat) (ex : List (Nat × Nat)) (R : Nat → Nat → Value) (hR : pk_R R) (o : Outcome) (Z : pmM)  (z0 : Int32) (I : Nat → Nat → Int32) (J : Nat → Nat → Int64) (hp : pRd_readReg_9 z0 I J) (ho : o = .returned none) (hz : Z = (pk_K ++ ex, R, (fRd_readReg_9 z0 I J), J)) : pmE g kRd_readReg (d + 3) 0 0 9 [(0, .ref 13)] [.int z0] (pk_K ++ ex) R I J o Z := by
  unfold pRd_readReg_9 at hp
  refine pm_pop dRd_readReg_9 rfl ?_
  refine pm_aload_n dRd_readReg_10 rfl ?_
  refine pm_iconst (v := 1) dRd_readReg_11 (by decide) ?_
  refine pm_bipush (v := 8) dRd_readReg_12 (by decide) ?_
  refine pm_aload_n dRd_readReg_14 rfl ?_
  refine pm_getr dRd_readReg_15 fRd_21 rfl (rr_13_0 hR) ?_
  refine pm_geti dRd_readReg_18 fRd_104 rfl ?_
  refine pm_isub dRd_readReg_21 ?_
  refine pm_callV dRd_readReg_22 lRd_107 vRd_readNumber ⟨_, _, rfl⟩ (Rd_readNumber_ok _ _ _ _ hR _ _ _ _ hp.1) rfl rfl rfl (Nat.le_of_ble_eq_true rfl) (Nat.le_refl _) (Nat.le_refl _) ?_
  refine pm_wk [0] rfl ?_
  exact Rd_readReg_n25 g d ex R hR _ _   _ _ _ hp.2 ho (hz.trans (by first | rfl | (simp only [fRd_readReg_9]; done) | (simp only [fRd_readReg_9]; rfl)))
set_option maxHeartbeats 4000000 in
set_option maxRecDepth 100000 in
theorem Rd_readReg_n4 (g : pmG) (d : Nat) (ex : List (Nat × Nat)) (R : Nat → Nat → Value) (hR : pk_R R) (o : Outcome) (Z : pmM)  (I : Nat → Nat → Int32) (J : Nat → Nat → Int64) (hp : pRd_readReg_4 I J) (ho : o = .returned none) (hz : Z = (pk_K ++ ex, R, (fRd_readReg_4 I J), J)) : pmE g kRd_readReg (d + 3) 0 0 4 [(0, .ref 13)] [] (pk_K ++ ex) R I J o Z := by
  unfold pRd_readReg_4 at hp
  refine pm_aload_n dRd_readReg_4 rfl ?_
  refine pm_iconst (v := 1) dRd_readReg_5 (by decide) ?_
  refine pm_callV dRd_readReg_6 lRd_100 vRd_expect ⟨_, _, rfl⟩ (Rd_expect_ok _ _ _ _ hR _ _ _ hp.1) rfl rfl rfl (Nat.le_of_ble_eq_true rfl) (Nat.le_refl _) (Nat.le_refl _) ?_
  refine pm_wk [0] rfl ?_
  exact Rd_readReg_n9 g d ex R hR _ _   _ _ _ hp.2 ho (hz.trans (by first | rfl | (simp only [fRd_readReg_4]; done) | (simp only [fRd_readReg_4]; rfl)))
set_option maxHeartbeats 4000000 in
set_option maxRecDepth 100000 in
theorem Rd_readReg_n0 (g : pmG) (d : Nat) (ex : List (Nat × Nat)) (R : Nat → Nat → Value) (hR : pk_R R) (o : Outcome) (Z : pmM)  (I : Nat → Nat → Int32) (J : Nat → Nat → Int64) (hp : pRd_readReg I J) (ho : o = .returned none) (hz : Z = (pk_K ++ ex, R, (fRd_readReg I J), J)) : pmE g kRd_readReg (d + 3) 0 0 0 [(0, .ref 13)] [] (pk_K ++ ex) R I J o Z := by
  unfold pRd_readReg at hp
  refine pm_aload_n dRd_readReg_0 rfl ?_
  refine pm_callV dRd_readReg_1 lRd_97 vRd_readNewName ⟨_, _, rfl⟩ (Rd_readNewName_ok _ _ _ _ hR  _ _ hp.1) rfl rfl rfl (Nat.le_of_ble_eq_true rfl) (Nat.le_refl _) (Nat.le_refl _) ?_
  refine pm_wk [0] rfl ?_
  exact Rd_readReg_n4 g d ex R hR _ _   _ _ hp.2 ho (hz.trans (by first | rfl | (simp only [fRd_readReg]; done) | (simp only [fRd_readReg]; rfl)))
set_option maxHeartbeats 4000000 in
set_option maxRecDepth 100000 in
theorem Rd_readReg_ok (g : pmG) (d : Nat) (ex : List (Nat × Nat)) (R : Nat → Nat → Value) (hR : pk_R R)   (I : Nat → Nat → Int32) (J : Nat → Nat → Int64) (hp : pRd_readReg I J) : pmC g kRd_readReg (d + 3) 0 0 [.ref 13] (pk_K ++ ex, R, I, J) (.returned none) (pk_K ++ ex, R, (fRd_readReg I J), J) :=
  pmC.of (by decide) (Nat.le_of_ble_eq_true rfl) (Rd_readReg_n0 g d ex R hR _ _   I J hp rfl rfl)
def fRd_readInput_30  (y1 : Int32) (z0 : Int32) (I : Nat → Nat → Int32) (J : Nat → Nat → Int64) : (Nat → Nat → Int32) :=
  if z0 = 0 then I
  else (fCi_addInput y1 I J)
def pRd_readInput_30  (y1 : Int32) (z0 : Int32) (I : Nat → Nat → Int32) (J : Nat → Nat → Int64) : Prop :=
  (z0 = 0 → True) ∧
  (¬ (z0 = 0) → (pCi_addInput y1 I J) ∧ True)
def fRd_readInput_24  (z0 : Int32) (I : Nat → Nat → Int32) (J : Nat → Nat → Int64) : (Nat → Nat → Int32) :=
  fRd_readInput_30 z0 ((fRd_expect (0 : Int32) I J).1) ((fRd_expect (0 : Int32) I J).2) J
def pRd_readInput_24  (z0 : Int32) (I : Nat → Nat → Int32) (J : Nat → Nat → Int64) : Prop :=
  (pRd_expect (0 : Int32) I J) ∧ (pRd_readInput_30 z0 ((fRd_expect (0 : Int32) I J).1) ((fRd_expect (0 : Int32) I J).2) J)
def fRd_readInput_9  (z0 : Int32) (I : Nat → Nat → Int32) (J : Nat → Nat → Int64) : (Nat → Nat → Int32) :=
  fRd_readInput_24 ((fRd_readNumber (1 : Int32) ((3 : Int32) - (I 3 8)) I J).1) ((fRd_readNumber (1 : Int32) ((3 : Int32) - (I 3 8)) I J).2) J
def pRd_readInput_9  (z0 : Int32) (I : Nat → Nat → Int32) (J : Nat → Nat → Int64) : Prop :=
  (pRd_readNumber (1 : Int32) ((3 : Int32) - (I 3 8)) I J) ∧ (pRd_readInput_24 ((fRd_readNumber (1 : Int32) ((3 : Int32) - (I 3 8)) I J).1) ((fRd_readNumber (1 : Int32) ((3 : Int32) - (I 3 8)) I J).2) J)
def fRd_readInput_4  (I : Nat → Nat → Int32) (J : Nat → Nat → Int64) : (Nat → Nat → Int32) :=
  fRd_readInput_9 ((fRd_expect (1 : Int32) I J).1) ((fRd_expect (1 : Int32) I J).2) J
def pRd_readInput_4  (I : Nat → Nat → Int32) (J : Nat → Nat → Int64) : Prop :=
  (pRd_expect (1 : Int32) I J) ∧ (pRd_readInput_9 ((fRd_expect (1 : Int32) I J).1) ((fRd_expect (1 : Int32) I J).2) J)
def fRd_readInput  (I : Nat → Nat → Int32) (J : Nat → Nat → Int64) : (Nat → Nat → Int32) :=
  fRd_readInput_4 ((fRd_readNewName I J)) J
def pRd_readInput  (I : Nat → Nat → Int32) (J : Nat → Nat → Int64) : Prop :=
  (pRd_readNewName I J) ∧ (pRd_readInput_4 ((fRd_readNewName I J)) J)
set_option maxHeartbeats 4000000 in
set_option maxRecDepth 100000 in
theorem Rd_readInput_n30 (g : pmG) (d : Nat) (ex : List (Nat × Nat)) (R : Nat → Nat → Value) (hR : pk_R R) (o : Outcome) (Z : pmM)  (y1 : Int32) (z0 : Int32) (I : Nat → Nat → Int32) (J : Nat → Nat → Int64) (hp : pRd_readInput_30 y1 z0 I J) (ho : o = .returned none) (hz : Z = (pk_K ++ ex, R, (fRd_readInput_30 y1 z0 I J), J)) : pmE g kRd_readInput (d + 3) 0 0 30 [(0, .ref 13), (1, .int y1)] [.int z0] (pk_K ++ ex) R I J o Z := by
  unfold pRd_readInput_30 at hp
  refine pm_if_eq 41 dRd_readInput_30 (by decide) (fun h30 => ?_) (fun h30 => ?_)
  ·
    exact pm_vret dRd_readInput_41 rfl ho (hz.trans (by first | (simp only [fRd_readInput_30, if_pos h30]; done) | (simp only [fRd_readInput_30, if_pos h30]; rfl) | rfl))
  ·
    refine pm_aload_n dRd_readInput_33 rfl ?_
    refine pm_getr dRd_readInput_34 fRd_21 rfl (rr_13_0 hR) ?_
    refine pm_iload_n dRd_readInput_37 rfl ?_
    refine pm_callV dRd_readInput_38 lRd_118 vCi_addInput ⟨_, _, rfl⟩ (Ci_addInput_ok _ _ _ _ hR _ _ _ (hp.2 h30).1) rfl rfl rfl (Nat.le_of_ble_eq_true rfl) (Nat.le_refl _) (Nat.le_refl _) ?_
    exact pm_vret dRd_readInput_41 rfl ho (hz.trans (by first | (simp only [fRd_readInput_30, if_neg h30]; done) | (simp only [fRd_readInput_30, if_neg h30]; rfl) | rfl))
set_option maxHeartbeats 4000000 in
set_option maxRecDepth 100000 in
theorem Rd_readInput_n24 (g : pmG) (d : Nat) (ex : List (Nat × Nat)) (R : Nat → Nat → Value) (hR : pk_R R) (o : Outcome) (Z : pmM)  (z0 : Int32) (I : Nat → Nat → Int32) (J : Nat → Nat → Int64) (hp : pRd_readInput_24 z0 I J) (ho : o = .returned none) (hz : Z = (pk_K ++ ex, R, (fRd_readInput_24 z0 I J), J)) : pmE g kRd_readInput (d + 3) 0 0 24 [(0, .ref 13)] [.int z0] (pk_K ++ ex) R I J o Z := by
  unfold pRd_readInput_24 at hp
  refine pm_istore_n dRd_readInput_24 (by decide) rfl ?_
  refine pm_aload_n dRd_readInput_25 rfl ?_
  refine pm_iconst (v := 0) dRd_readInput_26 (by decide) ?_
  refine pm_callV dRd_readInput_27 lRd_100 vRd_expect ⟨_, _, rfl⟩ (Rd_expect_ok _ _ _ _ hR _ _ _ hp.1) rfl rfl rfl (Nat.le_of_ble_eq_true rfl) (Nat.le_refl _) (Nat.le_refl _) ?_
  refine pm_wk [1, 0] rfl ?_
  exact Rd_readInput_n30 g d ex R hR _ _   _ _ _ _ hp.2 ho (hz.trans (by first | rfl | (simp only [fRd_readInput_24]; done) | (simp only [fRd_readInput_24]; rfl)))
set_option maxHeartbeats 4000000 in
set_option maxRecDepth 100000 in
theorem Rd_readInput_n9 (g : pmG) (d : Nat) (ex : List (Nat × Nat)) (R : Nat → Nat → Value) (hR : pk_R R) (o : Outcome) (Z : pmM)  (z0 : Int32) (I : Nat → Nat → Int32) (J : Nat → Nat → Int64) (hp : pRd_readInput_9 z0 I J) (ho : o = .returned none) (hz : Z = (pk_K ++ ex, R, (fRd_readInput_9 z0 I J), J)) : pmE g kRd_readInput (d + 3) 0 0 9 [(0, .ref 13)] [.int z0] (pk_K ++ ex) R I J o Z := by
  unfold pRd_readInput_9 at hp
  refine pm_pop dRd_readInput_9 rfl ?_
  refine pm_aload_n dRd_readInput_10 rfl ?_
  refine pm_iconst (v := 1) dRd_readInput_11 (by decide) ?_
  refine pm_iconst (v := 3) dRd_readInput_12 (by decide) ?_
  refine pm_aload_n dRd_readInput_13 rfl ?_
  refine pm_getr dRd_readInput_14 fRd_21 rfl (rr_13_0 hR) ?_
  refine pm_geti dRd_readInput_17 fRd_115 rfl ?_
  refine pm_isub dRd_readInput_20 ?_
  refine pm_callV dRd_readInput_21 lRd_107 vRd_readNumber ⟨_, _, rfl⟩ (Rd_readNumber_ok _ _ _ _ hR _ _ _ _ hp.1) rfl rfl rfl (Nat.le_of_ble_eq_true rfl) (Nat.le_refl _) (Nat.le_refl _) ?_
  refine pm_wk [0] rfl ?_
  exact Rd_readInput_n24 g d ex R hR _ _   _ _ _ hp.2 ho (hz.trans (by first | rfl | (simp only [fRd_readInput_9]; done) | (simp only [fRd_readInput_9]; rfl)))
set_option maxHeartbeats 4000000 in
set_option maxRecDepth 100000 in
theorem Rd_readInput_n4 (g : pmG) (d : Nat) (ex : List (Nat × Nat)) (R : Nat → Nat → Value) (hR : pk_R R) (o : Outcome) (Z : pmM)  (I : Nat → Nat → Int32) (J : Nat → Nat → Int64) (hp : pRd_readInput_4 I J) (ho : o = .returned none) (hz : Z = (pk_K ++ ex, R, (fRd_readInput_4 I J), J)) : pmE g kRd_readInput (d + 3) 0 0 4 [(0, .ref 13)] [] (pk_K ++ ex) R I J o Z := by
  unfold pRd_readInput_4 at hp
  refine pm_aload_n dRd_readInput_4 rfl ?_
  refine pm_iconst (v := 1) dRd_readInput_5 (by decide) ?_
  refine pm_callV dRd_readInput_6 lRd_100 vRd_expect ⟨_, _, rfl⟩ (Rd_expect_ok _ _ _ _ hR _ _ _ hp.1) rfl rfl rfl (Nat.le_of_ble_eq_true rfl) (Nat.le_refl _) (Nat.le_refl _) ?_
  refine pm_wk [0] rfl ?_
  exact Rd_readInput_n9 g d ex R hR _ _   _ _ _ hp.2 ho (hz.trans (by first | rfl | (simp only [fRd_readInput_4]; done) | (simp only [fRd_readInput_4]; rfl)))
set_option maxHeartbeats 4000000 in
set_option maxRecDepth 100000 in
theorem Rd_readInput_n0 (g : pmG) (d : Nat) (ex : List (Nat × Nat)) (R : Nat → Nat → Value) (hR : pk_R R) (o : Outcome) (Z : pmM)  (I : Nat → Nat → Int32) (J : Nat → Nat → Int64) (hp : pRd_readInput I J) (ho : o = .returned none) (hz : Z = (pk_K ++ ex, R, (fRd_readInput I J), J)) : pmE g kRd_readInput (d + 3) 0 0 0 [(0, .ref 13)] [] (pk_K ++ ex) R I J o Z := by
  unfold pRd_readInput at hp
  refine pm_aload_n dRd_readInput_0 rfl ?_
  refine pm_callV dRd_readInput_1 lRd_97 vRd_readNewName ⟨_, _, rfl⟩ (Rd_readNewName_ok _ _ _ _ hR  _ _ hp.1) rfl rfl rfl (Nat.le_of_ble_eq_true rfl) (Nat.le_refl _) (Nat.le_refl _) ?_
  refine pm_wk [0] rfl ?_
  exact Rd_readInput_n4 g d ex R hR _ _   _ _ hp.2 ho (hz.trans (by first | rfl | (simp only [fRd_readInput]; done) | (simp only [fRd_readInput]; rfl)))
set_option maxHeartbeats 4000000 in
set_option maxRecDepth 100000 in
theorem Rd_readInput_ok (g : pmG) (d : Nat) (ex : List (Nat × Nat)) (R : Nat → Nat → Value) (hR : pk_R R)   (I : Nat → Nat → Int32) (J : Nat → Nat → Int64) (hp : pRd_readInput I J) : pmC g kRd_readInput (d + 3) 0 0 [.ref 13] (pk_K ++ ex, R, I, J) (.returned none) (pk_K ++ ex, R, (fRd_readInput I J), J) :=
  pmC.of (by decide) (Nat.le_of_ble_eq_true rfl) (Rd_readInput_n0 g d ex R hR _ _   I J hp rfl rfl)
def fRd_begin_15  (I : Nat → Nat → Int32) (J : Nat → Nat → Int64) : (Nat → Nat → Int32) :=
  pm_u (pm_u (pm_u (pm_u I 13 7 (0 : Int32)) 13 9 (0 : Int32)) 13 10 (0 : Int32)) 13 2 (0 : Int32)
def pRd_begin_15  (I : Nat → Nat → Int32) (J : Nat → Nat → Int64) : Prop :=
  True
def fRd_begin_7  (I : Nat → Nat → Int32) (J : Nat → Nat → Int64) : (Nat → Nat → Int32) :=
  fRd_begin_15 ((fAr_fill_15 300 (0 : Int32) I J)) J
def pRd_begin_7  (I : Nat → Nat → Int32) (J : Nat → Nat → Int64) : Prop :=
  (pAr_fill_15 300 (0 : Int32) I J) ∧ (pRd_begin_15 ((fAr_fill_15 300 (0 : Int32) I J)) J)
def fRd_begin  (I : Nat → Nat → Int32) (J : Nat → Nat → Int64) : (Nat → Nat → Int32) :=
  fRd_begin_7 ((fCi_clear I J)) J
def pRd_begin  (I : Nat → Nat → Int32) (J : Nat → Nat → Int64) : Prop :=
  (pCi_clear I J) ∧ (pRd_begin_7 ((fCi_clear I J)) J)
set_option maxHeartbeats 4000000 in
set_option maxRecDepth 100000 in
theorem Rd_begin_n15 (g : pmG) (d : Nat) (ex : List (Nat × Nat)) (R : Nat → Nat → Value) (hR : pk_R R) (o : Outcome) (Z : pmM)  (I : Nat → Nat → Int32) (J : Nat → Nat → Int64) (hp : pRd_begin_15 I J) (ho : o = .returned none) (hz : Z = (pk_K ++ ex, R, (fRd_begin_15 I J), J)) : pmE g kRd_begin (d + 1) 0 0 15 [(0, .ref 13)] [] (pk_K ++ ex) R I J o Z := by
  unfold pRd_begin_15 at hp
  refine pm_aload_n dRd_begin_15 rfl ?_
  refine pm_iconst (v := 0) dRd_begin_16 (by decide) ?_
  refine pm_puti dRd_begin_17 fRd_85 sRd_85 (fun h => by cases h) rfl rfl rfl ?_
  refine pm_aload_n dRd_begin_20 rfl ?_
  refine pm_iconst (v := 0) dRd_begin_21 (by decide) ?_
  refine pm_puti dRd_begin_22 fRd_55 sRd_55 (fun h => by cases h) rfl rfl rfl ?_
  refine pm_aload_n dRd_begin_25 rfl ?_
  refine pm_iconst (v := 0) dRd_begin_26 (by decide) ?_
  refine pm_puti dRd_begin_27 fRd_88 sRd_88 (fun h => by cases h) rfl rfl rfl ?_
  refine pm_aload_n dRd_begin_30 rfl ?_
  refine pm_iconst (v := 0) dRd_begin_31 (by decide) ?_
  refine pm_puti dRd_begin_32 fRd_91 sRd_91 (fun h => by cases h) rfl rfl rfl ?_
  exact pm_vret dRd_begin_35 rfl ho (hz.trans (by first | rfl | (simp only [fRd_begin_15]; done) | (simp only [fRd_begin_15]; rfl)))
set_option maxHeartbeats 4000000 in
set_option maxRecDepth 100000 in
theorem Rd_begin_n7 (g : pmG) (d : Nat) (ex : List (Nat × Nat)) (R : Nat → Nat → Value) (hR : pk_R R) (o : Outcome) (Z : pmM)  (I : Nat → Nat → Int32) (J : Nat → Nat → Int64) (hp : pRd_begin_7 I J) (ho : o = .returned none) (hz : Z = (pk_K ++ ex, R, (fRd_begin_7 I J), J)) : pmE g kRd_begin (d + 1) 0 0 7 [(0, .ref 13)] [] (pk_K ++ ex) R I J o Z := by
  unfold pRd_begin_7 at hp
  refine pm_aload_n dRd_begin_7 rfl ?_
  refine pm_getr dRd_begin_8 fRd_15 rfl (rr_13_5 hR) ?_
  refine pm_iconst (v := 0) dRd_begin_11 (by decide) ?_
  refine pm_callS dRd_begin_12 lRd_79 tAr_fill (Ar_fill_15_ok _ _ _ _ hR _ _ _ _ hp.1) rfl rfl (Nat.le_of_ble_eq_true rfl) (Nat.le_refl _) (Nat.le_refl _) ?_
  refine pm_wk [0] rfl ?_
  exact Rd_begin_n15 g d ex R hR _ _   _ _ hp.2 ho (hz.trans (by first | rfl | (simp only [fRd_begin_7]; done) | (simp only [fRd_begin_7]; rfl)))
set_option maxHeartbeats 4000000 in
set_option maxRecDepth 100000 in
theorem Rd_begin_n0 (g : pmG) (d : Nat) (ex : List (Nat × Nat)) (R : Nat → Nat → Value) (hR : pk_R R) (o : Outcome) (Z : pmM)  (I : Nat → Nat → Int32) (J : Nat → Nat → Int64) (hp : pRd_begin I J) (ho : o = .returned none) (hz : Z = (pk_K ++ ex, R, (fRd_begin I J), J)) : pmE g kRd_begin (d + 1) 0 0 0 [(0, .ref 13)] [] (pk_K ++ ex) R I J o Z := by
  unfold pRd_begin at hp
  refine pm_aload_n dRd_begin_0 rfl ?_
  refine pm_getr dRd_begin_1 fRd_21 rfl (rr_13_0 hR) ?_
  refine pm_callV dRd_begin_4 lRd_76 vCi_clear ⟨_, _, rfl⟩ (Ci_clear_ok _ _ _ _ hR  _ _ hp.1) rfl rfl rfl (Nat.le_of_ble_eq_true rfl) (Nat.le_refl _) (Nat.le_refl _) ?_
  refine pm_wk [0] rfl ?_
  exact Rd_begin_n7 g d ex R hR _ _   _ _ hp.2 ho (hz.trans (by first | rfl | (simp only [fRd_begin]; done) | (simp only [fRd_begin]; rfl)))
set_option maxHeartbeats 4000000 in
set_option maxRecDepth 100000 in
theorem Rd_begin_ok (g : pmG) (d : Nat) (ex : List (Nat × Nat)) (R : Nat → Nat → Value) (hR : pk_R R)   (I : Nat → Nat → Int32) (J : Nat → Nat → Int64) (hp : pRd_begin I J) : pmC g kRd_begin (d + 1) 0 0 [.ref 13] (pk_K ++ ex, R, I, J) (.returned none) (pk_K ++ ex, R, (fRd_begin I J), J) :=
  pmC.of (by decide) (Nat.le_of_ble_eq_true rfl) (Rd_begin_n0 g d ex R hR _ _   I J hp rfl rfl)
