/-! Math.max, Math.min -/
section PMX
variable {g : pmG} {k : pmK} {d rc rs pc idx : Nat} {L : List (Nat × Value)} {S : List Value} {K : List (Nat × Nat)} {R : Nat → Nat → Value} {I : Nat → Nat → Int32} {J : Nat → Nat → Int64} {o : Outcome} {Z : pmM} {x y : Int32}
theorem mm_1 : Cond.static Lib.Math.max.name ∈ pm_TS := pm_in 744 (by decide +kernel) rfl
theorem mm_2 : Cond.code Lib.Math.max.name Lib.Math.max.code 2 (some .int) ∈ pm_TS := pm_in 745 (by decide +kernel) rfl
theorem mm_3 : Cond.static Lib.Math.min.name ∈ pm_TS := pm_in 747 (by decide +kernel) rfl
theorem mm_4 : Cond.code Lib.Math.min.name Lib.Math.min.code 2 (some .int) ∈ pm_TS := pm_in 748 (by decide +kernel) rfl
theorem mm_5 : Cond.initialized "java/lang/Math" ∈ pm_TS := pm_in 24 (by decide +kernel) rfl
theorem pm_mmax (h : decode k.2.1 pc = .ok (.invokestatic idx, 3)) (hl : Cond.methodLink k.1.cls idx Lib.Math.max.name ∈ pm_TS) (h8 : (S.map fun v => v.category).sum ≤ 8) (n : pmE g k (d + 1) rc rs (pc + 3) L (.int (if x < y then y else x) :: S) K R I J o Z) : pmE g k (d + 1) rc rs pc L (.int y :: .int x :: S) K R I J o Z := by
  intro p e Rm s m args below meth c H locs cells slots mc ms ls hC h1 h2 h3 h4 hlv hA
  obtain ⟨hx, hb, hml, -, -, -, hown, hts, -, hfr, hlo, -⟩ := id hC
  have hc8 := pm_catS g S
  exact va_mmax hx hb (by rw [hml]; exact hlv.1.symm) hown (hts _ hl) (hts _ mm_1) (hts _ mm_5) (hts _ mm_2) (by omega) (by omega) (by omega) (by omega) h (n p e Rm s m args below meth c H locs cells slots mc ms ls hC h1 h2 h3 h4 hlv hA)
theorem pm_mmin (h : decode k.2.1 pc = .ok (.invokestatic idx, 3)) (hl : Cond.methodLink k.1.cls idx Lib.Math.min.name ∈ pm_TS) (h8 : (S.map fun v => v.category).sum ≤ 8) (n : pmE g k (d + 1) rc rs (pc + 3) L (.int (if y < x then y else x) :: S) K R I J o Z) : pmE g k (d + 1) rc rs pc L (.int y :: .int x :: S) K R I J o Z := by
  intro p e Rm s m args below meth c H locs cells slots mc ms ls hC h1 h2 h3 h4 hlv hA
  obtain ⟨hx, hb, hml, -, -, -, hown, hts, -, hfr, hlo, -⟩ := id hC
  have hc8 := pm_catS g S
  exact va_mmin hx hb (by rw [hml]; exact hlv.1.symm) hown (hts _ hl) (hts _ mm_3) (hts _ mm_5) (hts _ mm_4) (by omega) (by omega) (by omega) (by omega) h (n p e Rm s m args below meth c H locs cells slots mc ms ls hC h1 h2 h3 h4 hlv hA)
end PMX
def fSl_canEncode_15  (y0 : Int32) : Int32 :=
  (0 : Int32)
def pSl_canEncode_15  (y0 : Int32) : Prop :=
  True
def fSl_canEncode  (y0 : Int32) : Int32 :=
  if y0 < 0 then fSl_canEncode_15 y0
  else if (255 : Int32) < y0 then fSl_canEncode_15 y0
    else (1 : Int32)
def pSl_canEncode  (y0 : Int32) : Prop :=
  (y0 < 0 → pSl_canEncode_15 y0) ∧
  (¬ (y0 < 0) → ((255 : Int32) < y0 → pSl_canEncode_15 y0) ∧
    (¬ ((255 : Int32) < y0) → True))
set_option maxHeartbeats 4000000 in
set_option maxRecDepth 100000 in
theorem Sl_canEncode_n15 (g : pmG) (d : Nat) (K : List (Nat × Nat)) (R : Nat → Nat → Value) (I : Nat → Nat → Int32) (J : Nat → Nat → Int64) (o : Outcome) (Z : pmM)  (y0 : Int32) (hp : pSl_canEncode_15 y0) (ho : o = .returned (some (.int (fSl_canEncode_15 y0)))) (hz : Z = (K, R, I, J)) : pmE g kSl_canEncode d 0 0 15 [(0, .int y0)] [] (K) R I J o Z := by
  unfold pSl_canEncode_15 at hp
  refine pm_iconst (v := 0) dSl_canEncode_15 (by decide) ?_
  exact pm_zret dSl_canEncode_16 rfl (by first | rfl | decide) (ho.trans (by first | rfl | (simp only [fSl_canEncode_15]; done) | (simp only [fSl_canEncode_15]; rfl))) (hz.trans (by first | rfl | (simp only [fSl_canEncode_15]; done) | (simp only [fSl_canEncode_15]; rfl)))
set_option maxHeartbeats 4000000 in
set_option maxRecDepth 100000 in
theorem Sl_canEncode_n0 (g : pmG) (d : Nat) (K : List (Nat × Nat)) (R : Nat → Nat → Value) (I : Nat → Nat → Int32) (J : Nat → Nat → Int64) (o : Outcome) (Z : pmM)  (y0 : Int32) (hp : pSl_canEncode y0) (ho : o = .returned (some (.int (fSl_canEncode y0)))) (hz : Z = (K, R, I, J)) : pmE g kSl_canEncode d 0 0 0 [(0, .int y0)] [] (K) R I J o Z := by
  unfold pSl_canEncode at hp
  refine pm_iload_n dSl_canEncode_0 rfl ?_
  refine pm_if_lt 15 dSl_canEncode_1 (by decide) (fun h1 => ?_) (fun h1 => ?_)
  ·
    refine pm_wk [0] rfl ?_
    exact Sl_canEncode_n15 g d K R I J _ _   _ (hp.1 h1) (ho.trans (by first | (simp only [fSl_canEncode, if_pos h1]; done) | (simp only [fSl_canEncode, if_pos h1]; rfl) | rfl)) (hz.trans (by first | (simp only [fSl_canEncode, if_pos h1]; done) | (simp only [fSl_canEncode, if_pos h1]; rfl) | rfl))
  ·
    refine pm_iload_n dSl_canEncode_4 rfl ?_
    refine pm_sipush (v := 255) dSl_canEncode_5 (by decide) ?_
    refine pm_icmp_gt 15 dSl_canEncode_8 (by decide) (fun h8 => ?_) (fun h8 => ?_)
    ·
      refine pm_wk [0] rfl ?_
      exact Sl_canEncode_n15 g d K R I J _ _   _ ((hp.2 h1).1 h8) (ho.trans (by first | (simp only [fSl_canEncode, if_neg h1, if_pos h8]; done) | (simp only [fSl_canEncode, if_neg h1, if_pos h8]; rfl) | rfl)) (hz.trans (by first | (simp only [fSl_canEncode, if_neg h1, if_pos h8]; done) | (simp only [fSl_canEncode, if_neg h1, if_pos h8]; rfl) | rfl))
    ·
      refine pm_iconst (v := 1) dSl_canEncode_11 (by decide) ?_
      refine pm_goto 16 dSl_canEncode_12 (by decide) ?_
      exact pm_zret dSl_canEncode_16 rfl (by first | rfl | decide) (ho.trans (by first | (simp only [fSl_canEncode, if_neg h1, if_neg h8]; done) | (simp only [fSl_canEncode, if_neg h1, if_neg h8]; rfl) | rfl)) (hz.trans (by first | (simp only [fSl_canEncode, if_neg h1, if_neg h8]; done) | (simp only [fSl_canEncode, if_neg h1, if_neg h8]; rfl) | rfl))
set_option maxHeartbeats 4000000 in
set_option maxRecDepth 100000 in
theorem Sl_canEncode_ok (g : pmG) (d : Nat) (K : List (Nat × Nat)) (R : Nat → Nat → Value)  (x0 : Int32) (I : Nat → Nat → Int32) (J : Nat → Nat → Int64) (hp : pSl_canEncode x0) : pmC g kSl_canEncode d 0 0 [.int x0] (K, R, I, J) (.returned (some (.int (fSl_canEncode x0)))) (K, R, I, J) :=
  pmC.of (by decide) (Nat.le_of_ble_eq_true rfl) (Sl_canEncode_n0 g d K R I J _ _  x0  hp rfl rfl)
def fSl_indexOfChar_16_7  : Nat → Int32 → Int32 → Int32 → Int32 → Int32 → (Nat → Nat → Int32) → (Nat → Nat → Int64) → Int32
  | 0, _, _, _, _, _, _, _ => 0
  | n + 1, y1, y2, y3, y4, y5, I, J =>
  if y3 ≤ y5 then (-1 : Int32)
  else if (pk_B6.getD y5.toNatClampNeg 0) = y4 then y5
    else fSl_indexOfChar_16_7 n y1 y2 y3 y4 (y5 + Int32.ofInt 1) I J
def pSl_indexOfChar_16_7  : Nat → Int32 → Int32 → Int32 → Int32 → Int32 → (Nat → Nat → Int32) → (Nat → Nat → Int64) → Prop
  | 0, _, _, _, _, _, _, _ => False
  | n + 1, y1, y2, y3, y4, y5, I, J =>
  (y3 ≤ y5 → True) ∧
  (¬ (y3 ≤ y5) → (vp_in y5 20) ∧ (((pk_B6.getD y5.toNatClampNeg 0) = y4 → True) ∧
    (¬ ((pk_B6.getD y5.toNatClampNeg 0) = y4) → pSl_indexOfChar_16_7 n y1 y2 y3 y4 (y5 + Int32.ofInt 1) I J)))
def fSl_indexOfChar_16 (n7 : Nat) (y1 : Int32) (y2 : Int32) (y3 : Int32) (I : Nat → Nat → Int32) (J : Nat → Nat → Int64) : Int32 :=
  fSl_indexOfChar_16_7 n7 y1 y2 y3 y1.toInt8.toInt32 y2 I J
def pSl_indexOfChar_16 (n7 : Nat) (y1 : Int32) (y2 : Int32) (y3 : Int32) (I : Nat → Nat → Int32) (J : Nat → Nat → Int64) : Prop :=
  pSl_indexOfChar_16_7 n7 y1 y2 y3 y1.toInt8.toInt32 y2 I J
set_option maxHeartbeats 4000000 in
set_option maxRecDepth 100000 in
theorem Sl_indexOfChar_16_n7 (g : pmG) (d : Nat) (ex : List (Nat × Nat)) (R : Nat → Nat → Value) (hR : pk_R R) (o : Outcome) (Z : pmM)  : ∀ (n : Nat) (y1 : Int32) (y2 : Int32) (y3 : Int32) (y4 : Int32) (y5 : Int32) (I : Nat → Nat → Int32) (J : Nat → Nat → Int64), pSl_indexOfChar_16_7 n y1 y2 y3 y4 y5 I J → o = .returned (some (.int (fSl_indexOfChar_16_7 n y1 y2 y3 y4 y5 I J))) → Z = (pk_K ++ ex, R, I, J) → pmE g kSl_indexOfChar d 0 0 7 [(0, .retAddr 46), (1, .int y1), (2, .int y2), (3, .int y3), (4, .int y4), (5, .int y5)] [] (pk_K ++ ex) R I J o Z := by
  intro n
  induction n with
  | zero => intro y1 y2 y3 y4 y5 I J hp; exact False.elim hp
  | succ n ih =>
  intro y1 y2 y3 y4 y5 I J hp ho hz
  simp only [pSl_indexOfChar_16_7] at hp
  refine pm_iload dSl_indexOfChar_7 rfl ?_
  refine pm_iload_n dSl_indexOfChar_9 rfl ?_
  refine pm_icmp_ge 31 dSl_indexOfChar_10 (by decide) (fun h10 => ?_) (fun h10 => ?_)
  ·
    refine pm_iconst (v := (-1)) dSl_indexOfChar_31 (by decide) ?_
    exact pm_iret dSl_indexOfChar_32 rfl (ho.trans (by first | (simp only [fSl_indexOfChar_16_7, if_pos h10]; done) | (simp only [fSl_indexOfChar_16_7, if_pos h10]; rfl) | rfl)) (hz.trans (by first | (simp only [fSl_indexOfChar_16_7, if_pos h10]; done) | (simp only [fSl_indexOfChar_16_7, if_pos h10]; rfl) | rfl))
  ·
    refine pm_xload_n dSl_indexOfChar_13 rfl ?_
    refine pm_iload dSl_indexOfChar_14 rfl ?_
    refine pm_xbald dSl_indexOfChar_16 xa_46 (hp.2 h10).1 ?_
    refine pm_iload dSl_indexOfChar_17 rfl ?_
    refine pm_icmp_ne 25 dSl_indexOfChar_19 (by decide) (fun h19 => ?_) (fun h19 => ?_)
    ·
      refine pm_iinc dSl_indexOfChar_25 rfl (by decide) rfl ?_
      refine pm_goto 7 dSl_indexOfChar_28 (by decide) ?_
      refine pm_wk [1, 2, 3, 4, 5, 0] rfl ?_
      exact ih _ _ _ _ _ _ _ ((hp.2 h10).2.2 h19) (ho.trans (by first | (simp only [fSl_indexOfChar_16_7, if_neg h10, if_neg h19]; done) | (simp only [fSl_indexOfChar_16_7, if_neg h10, if_neg h19]; rfl) | rfl)) (hz.trans (by first | (simp only [fSl_indexOfChar_16_7, if_neg h10, if_neg h19]; done) | (simp only [fSl_indexOfChar_16_7, if_neg h10, if_neg h19]; rfl) | rfl))
    ·
      refine pm_iload dSl_indexOfChar_22 rfl ?_
      exact pm_iret dSl_indexOfChar_24 rfl (ho.trans (by first | (simp only [fSl_indexOfChar_16_7, if_neg h10, if_pos h19]; done) | (simp only [fSl_indexOfChar_16_7, if_neg h10, if_pos h19]; rfl) | rfl)) (hz.trans (by first | (simp only [fSl_indexOfChar_16_7, if_neg h10, if_pos h19]; done) | (simp only [fSl_indexOfChar_16_7, if_neg h10, if_pos h19]; rfl) | rfl))
set_option maxHeartbeats 4000000 in
set_option maxRecDepth 100000 in
theorem Sl_indexOfChar_16_n0 (g : pmG) (d : Nat) (ex : List (Nat × Nat)) (R : Nat → Nat → Value) (hR : pk_R R) (o : Outcome) (Z : pmM) (n7 : Nat) (y1 : Int32) (y2 : Int32) (y3 : Int32) (I : Nat → Nat → Int32) (J : Nat → Nat → Int64) (hp : pSl_indexOfChar_16 n7 y1 y2 y3 I J) (ho : o = .returned (some (.int (fSl_indexOfChar_16 n7 y1 y2 y3 I J)))) (hz : Z = (pk_K ++ ex, R, I, J)) : pmE g kSl_indexOfChar d 0 0 0 [(0, .retAddr 46), (1, .int y1), (2, .int y2), (3, .int y3)] [] (pk_K ++ ex) R I J o Z := by
  unfold pSl_indexOfChar_16 at hp
  refine pm_iload_n dSl_indexOfChar_0 rfl ?_
  refine pm_i2b dSl_indexOfChar_1 ?_
  refine pm_istore dSl_indexOfChar_2 (by decide) rfl ?_
  refine pm_iload_n dSl_indexOfChar_4 rfl ?_
  refine pm_istore dSl_indexOfChar_5 (by decide) rfl ?_
  refine pm_wk [2, 3, 4, 5, 1, 0] rfl ?_
  exact Sl_indexOfChar_16_n7 g d ex R hR _ _  n7 _ _ _ _ _ _ _ hp (ho.trans (by first | rfl | (simp only [fSl_indexOfChar_16]; done) | (simp only [fSl_indexOfChar_16]; rfl))) (hz.trans (by first | rfl | (simp only [fSl_indexOfChar_16]; done) | (simp only [fSl_indexOfChar_16]; rfl)))
set_option maxHeartbeats 4000000 in
set_option maxRecDepth 100000 in
theorem Sl_indexOfChar_16_ok (g : pmG) (d : Nat) (ex : List (Nat × Nat)) (R : Nat → Nat → Value) (hR : pk_R R) (n7 : Nat) (x0 : Int32) (x1 : Int32) (x2 : Int32) (I : Nat → Nat → Int32) (J : Nat → Nat → Int64) (hp : pSl_indexOfChar_16 n7 x0 x1 x2 I J) : pmC g kSl_indexOfChar d 0 0 [.retAddr 46, .int x0, .int x1, .int x2] (pk_K ++ ex, R, I, J) (.returned (some (.int (fSl_indexOfChar_16 n7 x0 x1 x2 I J)))) (pk_K ++ ex, R, I, J) :=
  pmC.of (by decide) (Nat.le_of_ble_eq_true rfl) (Sl_indexOfChar_16_n0 g d ex R hR _ _ n7 x0 x1 x2 I J hp rfl rfl)
def fSl_indexOf_16  (y1 : Int32) (y2 : Int32) (y3 : Int32) (I : Nat → Nat → Int32) (J : Nat → Nat → Int64) : Int32 :=
  if ((fSl_canEncode y1)) = 0 then (-1 : Int32)
  else if (if y2 < (0 : Int32) then (0 : Int32) else y2) < (if (20 : Int32) < y3 then (20 : Int32) else y3) then (fSl_indexOfChar_16 21 y1 (if y2 < (0 : Int32) then (0 : Int32) else y2) (if (20 : Int32) < y3 then (20 : Int32) else y3) I J)
    else (-1 : Int32)
def pSl_indexOf_16  (y1 : Int32) (y2 : Int32) (y3 : Int32) (I : Nat → Nat → Int32) (J : Nat → Nat → Int64) : Prop :=
  (pSl_canEncode y1) ∧ ((((fSl_canEncode y1)) = 0 → True) ∧
  (¬ (((fSl_canEncode y1)) = 0) → ((if y2 < (0 : Int32) then (0 : Int32) else y2) < (if (20 : Int32) < y3 then (20 : Int32) else y3) → (pSl_indexOfChar_16 21 y1 (if y2 < (0 : Int32) then (0 : Int32) else y2) (if (20 : Int32) < y3 then (20 : Int32) else y3) I J) ∧ True) ∧
    (¬ ((if y2 < (0 : Int32) then (0 : Int32) else y2) < (if (20 : Int32) < y3 then (20 : Int32) else y3)) → True)))
set_option maxHeartbeats 4000000 in
set_option maxRecDepth 100000 in
theorem Sl_indexOf_16_n0 (g : pmG) (d : Nat) (ex : List (Nat × Nat)) (R : Nat → Nat → Value) (hR : pk_R R) (o : Outcome) (Z : pmM)  (y1 : Int32) (y2 : Int32) (y3 : Int32) (I : Nat → Nat → Int32) (J : Nat → Nat → Int64) (hp : pSl_indexOf_16 y1 y2 y3 I J) (ho : o = .returned (some (.int (fSl_indexOf_16 y1 y2 y3 I J)))) (hz : Z = (pk_K ++ ex, R, I, J)) : pmE g kSl_indexOf (d + 1) 0 0 0 [(0, .retAddr 46), (1, .int y1), (2, .int y2), (3, .int y3)] [] (pk_K ++ ex) R I J o Z := by
  unfold pSl_indexOf_16 at hp
  refine pm_iload_n dSl_indexOf_0 rfl ?_
  refine pm_callS dSl_indexOf_1 lSl_88 tSl_canEncode (Sl_canEncode_ok _ _ _ _ _ _ _ hp.1) rfl rfl (Nat.le_of_ble_eq_true rfl) (Nat.le_refl _) (Nat.le_refl _) ?_
  refine pm_if_ne 9 dSl_indexOf_4 (by decide) (fun h4 => ?_) (fun h4 => ?_)
  ·
    refine pm_iload_n dSl_indexOf_9 rfl ?_
    refine pm_iconst (v := 0) dSl_indexOf_10 (by decide) ?_
    refine pm_mmax dSl_indexOf_11 (pm_in 743 (by decide +kernel) rfl) (Nat.le_of_ble_eq_true rfl) ?_
    refine pm_istore_n dSl_indexOf_14 (by decide) rfl ?_
    refine pm_iload_n dSl_indexOf_15 rfl ?_
    refine pm_xload_n dSl_indexOf_16 rfl ?_
    refine pm_xlen (u := 20) dSl_indexOf_17 xa_46 (by decide) ?_
    refine pm_mmin dSl_indexOf_18 (pm_in 746 (by decide +kernel) rfl) (Nat.le_of_ble_eq_true rfl) ?_
    refine pm_istore_n dSl_indexOf_21 (by decide) rfl ?_
    refine pm_iload_n dSl_indexOf_22 rfl ?_
    refine pm_iload_n dSl_indexOf_23 rfl ?_
    refine pm_icmp_lt 29 dSl_indexOf_24 (by decide) (fun h24 => ?_) (fun h24 => ?_)
    ·
      refine pm_xload_n dSl_indexOf_29 rfl ?_
      refine pm_iload_n dSl_indexOf_30 rfl ?_
      refine pm_iload_n dSl_indexOf_31 rfl ?_
      refine pm_iload_n dSl_indexOf_32 rfl ?_
      refine pm_callS dSl_indexOf_33 lSl_95 tSl_indexOfChar (Sl_indexOfChar_16_ok _ _ _ _ hR _ _ _ _ _ _ ((hp.2.2 h4).1 h24).1) rfl rfl (Nat.le_of_ble_eq_true rfl) (Nat.le_refl _) (Nat.le_refl _) ?_
      exact pm_iret dSl_indexOf_36 rfl (ho.trans (by first | (simp only [fSl_indexOf_16, if_neg h4, if_pos h24]; done) | (simp only [fSl_indexOf_16, if_neg h4, if_pos h24]; rfl) | rfl)) (hz.trans (by first | (simp only [fSl_indexOf_16, if_neg h4, if_pos h24]; done) | (simp only [fSl_indexOf_16, if_neg h4, if_pos h24]; rfl) | rfl))
    ·
      refine pm_iconst (v := (-1)) dSl_indexOf_27 (by decide) ?_
      exact pm_iret dSl_indexOf_28 rfl (ho.trans (by first | (simp only [fSl_indexOf_16, if_neg h4, if_neg h24]; done) | (simp only [fSl_indexOf_16, if_neg h4, if_neg h24]; rfl) | rfl)) (hz.trans (by first | (simp only [fSl_indexOf_16, if_neg h4, if_neg h24]; done) | (simp only [fSl_indexOf_16, if_neg h4, if_neg h24]; rfl) | rfl))
  ·
    refine pm_iconst (v := (-1)) dSl_indexOf_7 (by decide) ?_
    exact pm_iret dSl_indexOf_8 rfl (ho.trans (by first | (simp only [fSl_indexOf_16, if_pos h4]; done) | (simp only [fSl_indexOf_16, if_pos h4]; rfl) | rfl)) (hz.trans (by first | (simp only [fSl_indexOf_16, if_pos h4]; done) | (simp only [fSl_indexOf_16, if_pos h4]; rfl) | rfl))
set_option maxHeartbeats 4000000 in
set_option maxRecDepth 100000 in
theorem Sl_indexOf_16_ok (g : pmG) (d : Nat) (ex : List (Nat × Nat)) (R : Nat → Nat → Value) (hR : pk_R R)  (x0 : Int32) (x1 : Int32) (x2 : Int32) (I : Nat → Nat → Int32) (J : Nat → Nat → Int64) (hp : pSl_indexOf_16 x0 x1 x2 I J) : pmC g kSl_indexOf (d + 1) 0 0 [.retAddr 46, .int x0, .int x1, .int x2] (pk_K ++ ex, R, I, J) (.returned (some (.int (fSl_indexOf_16 x0 x1 x2 I J)))) (pk_K ++ ex, R, I, J) :=
  pmC.of (by decide) (Nat.le_of_ble_eq_true rfl) (Sl_indexOf_16_n0 g d ex R hR _ _  x0 x1 x2 I J hp rfl rfl)
def fSg_indexOf2_16  (y1 : Int32) (y2 : Int32) (I : Nat → Nat → Int32) (J : Nat → Nat → Int64) : Int32 :=
  (fSl_indexOf_16 y1 y2 ((fSg_length_16 I J)) I J)
def pSg_indexOf2_16  (y1 : Int32) (y2 : Int32) (I : Nat → Nat → Int32) (J : Nat → Nat → Int64) : Prop :=
  (pSg_isLatin1_16 I J) ∧ ((pSg_length_16 I J) ∧ ((pSl_indexOf_16 y1 y2 ((fSg_length_16 I J)) I J) ∧ True))
set_option maxHeartbeats 4000000 in
set_option maxRecDepth 100000 in
theorem Sg_indexOf2_16_n0 (g : pmG) (d : Nat) (ex : List (Nat × Nat)) (R : Nat → Nat → Value) (hR : pk_R R) (o : Outcome) (Z : pmM)  (y1 : Int32) (y2 : Int32) (I : Nat → Nat → Int32) (J : Nat → Nat → Int64) (hp : pSg_indexOf2_16 y1 y2 I J) (ho : o = .returned (some (.int (fSg_indexOf2_16 y1 y2 I J)))) (hz : Z = (pk_K ++ ex, R, I, J)) : pmE g kSg_indexOf2 (d + 2) 0 0 0 [(0, .retAddr 16), (1, .int y1), (2, .int y2)] [] (pk_K ++ ex) R I J o Z := by
  unfold pSg_indexOf2_16 at hp
  refine pm_xload_n dSg_indexOf2_0 rfl ?_
  refine pm_callX (x := 6) dSg_indexOf2_1 lSg_492 vSg_isLatin1 rfl (by decide) (Sg_isLatin1_16_ok _ _ _ _ hR  _ _ hp.1) rfl rfl (Nat.le_of_ble_eq_true rfl) (Nat.le_refl _) (Nat.le_refl _) ?_
  refine pm_eqi (1 : Int32) rfl ?_
  refine pm_if_eq 23 dSg_indexOf2_4 (by decide) (fun h4 => ?_) (fun h4 => ?_)
  · exact absurd h4 (by decide)
  ·
    refine pm_xload_n dSg_indexOf2_7 rfl ?_
    refine pm_xvalue (x := 6) dSg_indexOf2_8 gSg_9 (by decide) ?_
    refine pm_iload_n dSg_indexOf2_11 rfl ?_
    refine pm_iload_n dSg_indexOf2_12 rfl ?_
    refine pm_xload_n dSg_indexOf2_13 rfl ?_
    refine pm_callX (x := 6) dSg_indexOf2_14 lSg_505 vSg_length rfl (by decide) (Sg_length_16_ok _ _ _ _ hR  _ _ hp.2.1) rfl rfl (Nat.le_of_ble_eq_true rfl) (Nat.le_refl _) (Nat.le_refl _) ?_
    refine pm_callS dSg_indexOf2_17 lSg_637 tSl_indexOf (Sl_indexOf_16_ok _ _ _ _ hR _ _ _ _ _ hp.2.2.1) rfl rfl (Nat.le_of_ble_eq_true rfl) (Nat.le_refl _) (Nat.le_refl _) ?_
    refine pm_goto 36 dSg_indexOf2_20 (by decide) ?_
    exact pm_iret dSg_indexOf2_36 rfl (ho.trans (by first | rfl | (simp only [fSg_indexOf2_16]; done) | (simp only [fSg_indexOf2_16]; rfl))) (hz.trans (by first | rfl | (simp only [fSg_indexOf2_16]; done) | (simp only [fSg_indexOf2_16]; rfl)))
set_option maxHeartbeats 4000000 in
set_option maxRecDepth 100000 in
theorem Sg_indexOf2_16_ok (g : pmG) (d : Nat) (ex : List (Nat × Nat)) (R : Nat → Nat → Value) (hR : pk_R R)  (x0 : Int32) (x1 : Int32) (I : Nat → Nat → Int32) (J : Nat → Nat → Int64) (hp : pSg_indexOf2_16 x0 x1 I J) : pmC g kSg_indexOf2 (d + 2) 0 0 [.retAddr 16, .int x0, .int x1] (pk_K ++ ex, R, I, J) (.returned (some (.int (fSg_indexOf2_16 x0 x1 I J)))) (pk_K ++ ex, R, I, J) :=
  pmC.of (by decide) (Nat.le_of_ble_eq_true rfl) (Sg_indexOf2_16_n0 g d ex R hR _ _  x0 x1 I J hp rfl rfl)
def fSg_indexOf_16  (y1 : Int32) (I : Nat → Nat → Int32) (J : Nat → Nat → Int64) : Int32 :=
  (fSg_indexOf2_16 y1 (0 : Int32) I J)
def pSg_indexOf_16  (y1 : Int32) (I : Nat → Nat → Int32) (J : Nat → Nat → Int64) : Prop :=
  (pSg_indexOf2_16 y1 (0 : Int32) I J) ∧ True
set_option maxHeartbeats 4000000 in
set_option maxRecDepth 100000 in
theorem Sg_indexOf_16_n0 (g : pmG) (d : Nat) (ex : List (Nat × Nat)) (R : Nat → Nat → Value) (hR : pk_R R) (o : Outcome) (Z : pmM)  (y1 : Int32) (I : Nat → Nat → Int32) (J : Nat → Nat → Int64) (hp : pSg_indexOf_16 y1 I J) (ho : o = .returned (some (.int (fSg_indexOf_16 y1 I J)))) (hz : Z = (pk_K ++ ex, R, I, J)) : pmE g kSg_indexOf (d + 3) 0 0 0 [(0, .retAddr 16), (1, .int y1)] [] (pk_K ++ ex) R I J o Z := by
  unfold pSg_indexOf_16 at hp
  refine pm_xload_n dSg_indexOf_0 rfl ?_
  refine pm_iload_n dSg_indexOf_1 rfl ?_
  refine pm_iconst (v := 0) dSg_indexOf_2 (by decide) ?_
  refine pm_callX (x := 6) dSg_indexOf_3 lSg_633 vSg_indexOf2 rfl (by decide) (Sg_indexOf2_16_ok _ _ _ _ hR _ _ _ _ hp.1) rfl rfl (Nat.le_of_ble_eq_true rfl) (Nat.le_refl _) (Nat.le_refl _) ?_
  exact pm_iret dSg_indexOf_6 rfl (ho.trans (by first | rfl | (simp only [fSg_indexOf_16]; done) | (simp only [fSg_indexOf_16]; rfl))) (hz.trans (by first | rfl | (simp only [fSg_indexOf_16]; done) | (simp only [fSg_indexOf_16]; rfl)))
set_option maxHeartbeats 4000000 in
set_option maxRecDepth 100000 in
theorem Sg_indexOf_16_ok (g : pmG) (d : Nat) (ex : List (Nat × Nat)) (R : Nat → Nat → Value) (hR : pk_R R)  (x0 : Int32) (I : Nat → Nat → Int32) (J : Nat → Nat → Int64) (hp : pSg_indexOf_16 x0 I J) : pmC g kSg_indexOf (d + 3) 0 0 [.retAddr 16, .int x0] (pk_K ++ ex, R, I, J) (.returned (some (.int (fSg_indexOf_16 x0 I J)))) (pk_K ++ ex, R, I, J) :=
  pmC.of (by decide) (Nat.le_of_ble_eq_true rfl) (Sg_indexOf_16_n0 g d ex R hR _ _  x0 I J hp rfl rfl)
