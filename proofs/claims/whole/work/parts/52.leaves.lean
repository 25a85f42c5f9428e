def fMo_digit_16  (y0 : Int32) : Int32 :=
  (0 : Int32)
def pMo_digit_16  (y0 : Int32) : Prop :=
  True
def fMo_digit  (y0 : Int32) : Int32 :=
  if y0 < (48 : Int32) then fMo_digit_16 y0
  else if (57 : Int32) < y0 then fMo_digit_16 y0
    else (1 : Int32)
def pMo_digit  (y0 : Int32) : Prop :=
  (y0 < (48 : Int32) → pMo_digit_16 y0) ∧
  (¬ (y0 < (48 : Int32)) → ((57 : Int32) < y0 → pMo_digit_16 y0) ∧
    (¬ ((57 : Int32) < y0) → True))
set_option maxHeartbeats 4000000 in
set_option maxRecDepth 100000 in
theorem Mo_digit_n16 (g : pmG) (d : Nat) (K : List (Nat × Nat)) (R : Nat → Nat → Value) (I : Nat → Nat → Int32) (J : Nat → Nat → Int64) (o : Outcome) (Z : pmM)  (y0 : Int32) (hp : pMo_digit_16 y0) (ho : o = .returned (some (.int (fMo_digit_16 y0)))) (hz : Z = (K, R, I, J)) : pmE g kMo_digit d 0 0 16 [(0, .int y0)] [] (K) R I J o Z := by
  unfold pMo_digit_16 at hp
  refine pm_iconst (v := 0) dMo_digit_16 (by decide) ?_
  exact pm_zret dMo_digit_17 rfl (by first | rfl | decide) (ho.trans (by first | rfl | (simp only [fMo_digit_16]; done) | (simp only [fMo_digit_16]; rfl))) (hz.trans (by first | rfl | (simp only [fMo_digit_16]; done) | (simp only [fMo_digit_16]; rfl)))
set_option maxHeartbeats 4000000 in
set_option maxRecDepth 100000 in
theorem Mo_digit_n0 (g : pmG) (d : Nat) (K : List (Nat × Nat)) (R : Nat → Nat → Value) (I : Nat → Nat → Int32) (J : Nat → Nat → Int64) (o : Outcome) (Z : pmM)  (y0 : Int32) (hp : pMo_digit y0) (ho : o = .returned (some (.int (fMo_digit y0)))) (hz : Z = (K, R, I, J)) : pmE g kMo_digit d 0 0 0 [(0, .int y0)] [] (K) R I J o Z := by
  unfold pMo_digit at hp
  refine pm_iload_n dMo_digit_0 rfl ?_
  refine pm_bipush (v := 48) dMo_digit_1 (by decide) ?_
  refine pm_icmp_lt 16 dMo_digit_3 (by decide) (fun h3 => ?_) (fun h3 => ?_)
  ·
    refine pm_wk [0] rfl ?_
    exact Mo_digit_n16 g d K R I J _ _   _ (hp.1 h3) (ho.trans (by first | (simp only [fMo_digit, if_pos h3]; done) | (simp only [fMo_digit, if_pos h3]; rfl) | rfl)) (hz.trans (by first | (simp only [fMo_digit, if_pos h3]; done) | (simp only [fMo_digit, if_pos h3]; rfl) | rfl))
  ·
    refine pm_iload_n dMo_digit_6 rfl ?_
    refine pm_bipush (v := 57) dMo_digit_7 (by decide) ?_
    refine pm_icmp_gt 16 dMo_digit_9 (by decide) (fun h9 => ?_) (fun h9 => ?_)
    ·
      refine pm_wk [0] rfl ?_
      exact Mo_digit_n16 g d K R I J _ _   _ ((hp.2 h3).1 h9) (ho.trans (by first | (simp only [fMo_digit, if_neg h3, if_pos h9]; done) | (simp only [fMo_digit, if_neg h3, if_pos h9]; rfl) | rfl)) (hz.trans (by first | (simp only [fMo_digit, if_neg h3, if_pos h9]; done) | (simp only [fMo_digit, if_neg h3, if_pos h9]; rfl) | rfl))
    ·
      refine pm_iconst (v := 1) dMo_digit_12 (by decide) ?_
      refine pm_goto 17 dMo_digit_13 (by decide) ?_
      exact pm_zret dMo_digit_17 rfl (by first | rfl | decide) (ho.trans (by first | (simp only [fMo_digit, if_neg h3, if_neg h9]; done) | (simp only [fMo_digit, if_neg h3, if_neg h9]; rfl) | rfl)) (hz.trans (by first | (simp only [fMo_digit, if_neg h3, if_neg h9]; done) | (simp only [fMo_digit, if_neg h3, if_neg h9]; rfl) | rfl))
set_option maxHeartbeats 4000000 in
set_option maxRecDepth 100000 in
theorem Mo_digit_ok (g : pmG) (d : Nat) (K : List (Nat × Nat)) (R : Nat → Nat → Value)  (x0 : Int32) (I : Nat → Nat → Int32) (J : Nat → Nat → Int64) (hp : pMo_digit x0) : pmC g kMo_digit d 0 0 [.int x0] (K, R, I, J) (.returned (some (.int (fMo_digit x0)))) (K, R, I, J) :=
  pmC.of (by decide) (Nat.le_of_ble_eq_true rfl) (Mo_digit_n0 g d K R I J _ _  x0  hp rfl rfl)
def fMo_letter_24  (y0 : Int32) : Int32 :=
  (1 : Int32)
def pMo_letter_24  (y0 : Int32) : Prop :=
  True
def fMo_letter_28  (y0 : Int32) : Int32 :=
  (0 : Int32)
def pMo_letter_28  (y0 : Int32) : Prop :=
  True
def fMo_letter_12  (y0 : Int32) : Int32 :=
  if y0 < (65 : Int32) then fMo_letter_28 y0
  else if (90 : Int32) < y0 then fMo_letter_28 y0
    else fMo_letter_24 y0
def pMo_letter_12  (y0 : Int32) : Prop :=
  (y0 < (65 : Int32) → pMo_letter_28 y0) ∧
  (¬ (y0 < (65 : Int32)) → ((90 : Int32) < y0 → pMo_letter_28 y0) ∧
    (¬ ((90 : Int32) < y0) → pMo_letter_24 y0))
def fMo_letter  (y0 : Int32) : Int32 :=
  if y0 < (97 : Int32) then fMo_letter_12 y0
  else if y0 ≤ (122 : Int32) then fMo_letter_24 y0
    else fMo_letter_12 y0
def pMo_letter  (y0 : Int32) : Prop :=
  (y0 < (97 : Int32) → pMo_letter_12 y0) ∧
  (¬ (y0 < (97 : Int32)) → (y0 ≤ (122 : Int32) → pMo_letter_24 y0) ∧
    (¬ (y0 ≤ (122 : Int32)) → pMo_letter_12 y0))
set_option maxHeartbeats 4000000 in
set_option maxRecDepth 100000 in
theorem Mo_letter_n24 (g : pmG) (d : Nat) (K : List (Nat × Nat)) (R : Nat → Nat → Value) (I : Nat → Nat → Int32) (J : Nat → Nat → Int64) (o : Outcome) (Z : pmM)  (y0 : Int32) (hp : pMo_letter_24 y0) (ho : o = .returned (some (.int (fMo_letter_24 y0)))) (hz : Z = (K, R, I, J)) : pmE g kMo_letter d 0 0 24 [(0, .int y0)] [] (K) R I J o Z := by
  unfold pMo_letter_24 at hp
  refine pm_iconst (v := 1) dMo_letter_24 (by decide) ?_
  refine pm_goto 29 dMo_letter_25 (by decide) ?_
  exact pm_zret dMo_letter_29 rfl (by first | rfl | decide) (ho.trans (by first | rfl | (simp only [fMo_letter_24]; done) | (simp only [fMo_letter_24]; rfl))) (hz.trans (by first | rfl | (simp only [fMo_letter_24]; done) | (simp only [fMo_letter_24]; rfl)))
set_option maxHeartbeats 4000000 in
set_option maxRecDepth 100000 in
theorem Mo_letter_n28 (g : pmG) (d : Nat) (K : List (Nat × Nat)) (R : Nat → Nat → Value) (I : Nat → Nat → Int32) (J : Nat → Nat → Int64) (o : Outcome) (Z : pmM)  (y0 : Int32) (hp : pMo_letter_28 y0) (ho : o = .returned (some (.int (fMo_letter_28 y0)))) (hz : Z = (K, R, I, J)) : pmE g kMo_letter d 0 0 28 [(0, .int y0)] [] (K) R I J o Z := by
  unfold pMo_letter_28 at hp
  refine pm_iconst (v := 0) dMo_letter_28 (by decide) ?_
  exact pm_zret dMo_letter_29 rfl (by first | rfl | decide) (ho.trans (by first | rfl | (simp only [fMo_letter_28]; done) | (simp only [fMo_letter_28]; rfl))) (hz.trans (by first | rfl | (simp only [fMo_letter_28]; done) | (simp only [fMo_letter_28]; rfl)))
set_option maxHeartbeats 4000000 in
set_option maxRecDepth 100000 in
theorem Mo_letter_n12 (g : pmG) (d : Nat) (K : List (Nat × Nat)) (R : Nat → Nat → Value) (I : Nat → Nat → Int32) (J : Nat → Nat → Int64) (o : Outcome) (Z : pmM)  (y0 : Int32) (hp : pMo_letter_12 y0) (ho : o = .returned (some (.int (fMo_letter_12 y0)))) (hz : Z = (K, R, I, J)) : pmE g kMo_letter d 0 0 12 [(0, .int y0)] [] (K) R I J o Z := by
  unfold pMo_letter_12 at hp
  refine pm_iload_n dMo_letter_12 rfl ?_
  refine pm_bipush (v := 65) dMo_letter_13 (by decide) ?_
  refine pm_icmp_lt 28 dMo_letter_15 (by decide) (fun h15 => ?_) (fun h15 => ?_)
  ·
    refine pm_wk [0] rfl ?_
    exact Mo_letter_n28 g d K R I J _ _   _ (hp.1 h15) (ho.trans (by first | (simp only [fMo_letter_12, if_pos h15]; done) | (simp only [fMo_letter_12, if_pos h15]; rfl) | rfl)) (hz.trans (by first | (simp only [fMo_letter_12, if_pos h15]; done) | (simp only [fMo_letter_12, if_pos h15]; rfl) | rfl))
  ·
    refine pm_iload_n dMo_letter_18 rfl ?_
    refine pm_bipush (v := 90) dMo_letter_19 (by decide) ?_
    refine pm_icmp_gt 28 dMo_letter_21 (by decide) (fun h21 => ?_) (fun h21 => ?_)
    ·
      refine pm_wk [0] rfl ?_
      exact Mo_letter_n28 g d K R I J _ _   _ ((hp.2 h15).1 h21) (ho.trans (by first | (simp only [fMo_letter_12, if_neg h15, if_pos h21]; done) | (simp only [fMo_letter_12, if_neg h15, if_pos h21]; rfl) | rfl)) (hz.trans (by first | (simp only [fMo_letter_12, if_neg h15, if_pos h21]; done) | (simp only [fMo_letter_12, if_neg h15, if_pos h21]; rfl) | rfl))
    ·
      refine pm_wk [0] rfl ?_
      exact Mo_letter_n24 g d K R I J _ _   _ ((hp.2 h15).2 h21) (ho.trans (by first | (simp only [fMo_letter_12, if_neg h15, if_neg h21]; done) | (simp only [fMo_letter_12, if_neg h15, if_neg h21]; rfl) | rfl)) (hz.trans (by first | (simp only [fMo_letter_12, if_neg h15, if_neg h21]; done) | (simp only [fMo_letter_12, if_neg h15, if_neg h21]; rfl) | rfl))
set_option maxHeartbeats 4000000 in
set_option maxRecDepth 100000 in
theorem Mo_letter_n0 (g : pmG) (d : Nat) (K : List (Nat × Nat)) (R : Nat → Nat → Value) (I : Nat → Nat → Int32) (J : Nat → Nat → Int64) (o : Outcome) (Z : pmM)  (y0 : Int32) (hp : pMo_letter y0) (ho : o = .returned (some (.int (fMo_letter y0)))) (hz : Z = (K, R, I, J)) : pmE g kMo_letter d 0 0 0 [(0, .int y0)] [] (K) R I J o Z := by
  unfold pMo_letter at hp
  refine pm_iload_n dMo_letter_0 rfl ?_
  refine pm_bipush (v := 97) dMo_letter_1 (by decide) ?_
  refine pm_icmp_lt 12 dMo_letter_3 (by decide) (fun h3 => ?_) (fun h3 => ?_)
  ·
    refine pm_wk [0] rfl ?_
    exact Mo_letter_n12 g d K R I J _ _   _ (hp.1 h3) (ho.trans (by first | (simp only [fMo_letter, if_pos h3]; done) | (simp only [fMo_letter, if_pos h3]; rfl) | rfl)) (hz.trans (by first | (simp only [fMo_letter, if_pos h3]; done) | (simp only [fMo_letter, if_pos h3]; rfl) | rfl))
  ·
    refine pm_iload_n dMo_letter_6 rfl ?_
    refine pm_bipush (v := 122) dMo_letter_7 (by decide) ?_
    refine pm_icmp_le 24 dMo_letter_9 (by decide) (fun h9 => ?_) (fun h9 => ?_)
    ·
      refine pm_wk [0] rfl ?_
      exact Mo_letter_n24 g d K R I J _ _   _ ((hp.2 h3).1 h9) (ho.trans (by first | (simp only [fMo_letter, if_neg h3, if_pos h9]; done) | (simp only [fMo_letter, if_neg h3, if_pos h9]; rfl) | rfl)) (hz.trans (by first | (simp only [fMo_letter, if_neg h3, if_pos h9]; done) | (simp only [fMo_letter, if_neg h3, if_pos h9]; rfl) | rfl))
    ·
      refine pm_wk [0] rfl ?_
      exact Mo_letter_n12 g d K R I J _ _   _ ((hp.2 h3).2 h9) (ho.trans (by first | (simp only [fMo_letter, if_neg h3, if_neg h9]; done) | (simp only [fMo_letter, if_neg h3, if_neg h9]; rfl) | rfl)) (hz.trans (by first | (simp only [fMo_letter, if_neg h3, if_neg h9]; done) | (simp only [fMo_letter, if_neg h3, if_neg h9]; rfl) | rfl))
set_option maxHeartbeats 4000000 in
set_option maxRecDepth 100000 in
theorem Mo_letter_ok (g : pmG) (d : Nat) (K : List (Nat × Nat)) (R : Nat → Nat → Value)  (x0 : Int32) (I : Nat → Nat → Int32) (J : Nat → Nat → Int64) (hp : pMo_letter x0) : pmC g kMo_letter d 0 0 [.int x0] (K, R, I, J) (.returned (some (.int (fMo_letter x0)))) (K, R, I, J) :=
  pmC.of (by decide) (Nat.le_of_ble_eq_true rfl) (Mo_letter_n0 g d K R I J _ _  x0  hp rfl rfl)
def fMo_sign  (y0 : Int32) (y1 : Int32) : Int32 :=
  if y0 = 33 then if y1 = (61 : Int32) then (301 : Int32)
    else y0
  else if y0 = 38 then if y1 = (38 : Int32) then (306 : Int32)
    else y0
  else if y0 = 40 then y0
  else if y0 = 41 then y0
  else if y0 = 42 then y0
  else if y0 = 43 then y0
  else if y0 = 45 then if y1 = (62 : Int32) then (308 : Int32)
    else y0
  else if y0 = 58 then y0
  else if y0 = 59 then y0
  else if y0 = 60 then if y1 = (61 : Int32) then (302 : Int32)
    else if y1 = (60 : Int32) then (304 : Int32)
      else y0
  else if y0 = 61 then if y1 = (61 : Int32) then (300 : Int32)
    else y0
  else if y0 = 62 then if y1 = (61 : Int32) then (303 : Int32)
    else if y1 = (62 : Int32) then (305 : Int32)
      else y0
  else if y0 = 63 then y0
  else if y0 = 91 then y0
  else if y0 = 93 then y0
  else if y0 = 94 then y0
  else if y0 = 123 then y0
  else if y0 = 124 then if y1 = (124 : Int32) then (307 : Int32)
    else y0
  else if y0 = 125 then y0
  else if y0 = 126 then y0
  else (3 : Int32)
def pMo_sign  (y0 : Int32) (y1 : Int32) : Prop :=
  (y0 = 33 → (y1 = (61 : Int32) → True) ∧
    (¬ (y1 = (61 : Int32)) → True)) ∧
  (¬ (y0 = 33) → (y0 = 38 → (y1 = (38 : Int32) → True) ∧
    (¬ (y1 = (38 : Int32)) → True)) ∧
  (¬ (y0 = 38) → (y0 = 40 → True) ∧
  (¬ (y0 = 40) → (y0 = 41 → True) ∧
  (¬ (y0 = 41) → (y0 = 42 → True) ∧
  (¬ (y0 = 42) → (y0 = 43 → True) ∧
  (¬ (y0 = 43) → (y0 = 45 → (y1 = (62 : Int32) → True) ∧
    (¬ (y1 = (62 : Int32)) → True)) ∧
  (¬ (y0 = 45) → (y0 = 58 → True) ∧
  (¬ (y0 = 58) → (y0 = 59 → True) ∧
  (¬ (y0 = 59) → (y0 = 60 → (y1 = (61 : Int32) → True) ∧
    (¬ (y1 = (61 : Int32)) → (y1 = (60 : Int32) → True) ∧
      (¬ (y1 = (60 : Int32)) → True))) ∧
  (¬ (y0 = 60) → (y0 = 61 → (y1 = (61 : Int32) → True) ∧
    (¬ (y1 = (61 : Int32)) → True)) ∧
  (¬ (y0 = 61) → (y0 = 62 → (y1 = (61 : Int32) → True) ∧
    (¬ (y1 = (61 : Int32)) → (y1 = (62 : Int32) → True) ∧
      (¬ (y1 = (62 : Int32)) → True))) ∧
  (¬ (y0 = 62) → (y0 = 63 → True) ∧
  (¬ (y0 = 63) → (y0 = 91 → True) ∧
  (¬ (y0 = 91) → (y0 = 93 → True) ∧
  (¬ (y0 = 93) → (y0 = 94 → True) ∧
  (¬ (y0 = 94) → (y0 = 123 → True) ∧
  (¬ (y0 = 123) → (y0 = 124 → (y1 = (124 : Int32) → True) ∧
    (¬ (y1 = (124 : Int32)) → True)) ∧
  (¬ (y0 = 124) → (y0 = 125 → True) ∧
  (¬ (y0 = 125) → (y0 = 126 → True) ∧
  (¬ (y0 = 126) → True))))))))))))))))))))
set_option maxHeartbeats 4000000 in
set_option maxRecDepth 100000 in
theorem Mo_sign_n0 (g : pmG) (d : Nat) (K : List (Nat × Nat)) (R : Nat → Nat → Value) (I : Nat → Nat → Int32) (J : Nat → Nat → Int64) (o : Outcome) (Z : pmM)  (y0 : Int32) (y1 : Int32) (hp : pMo_sign y0 y1) (ho : o = .returned (some (.int (fMo_sign y0 y1)))) (hz : Z = (K, R, I, J)) : pmE g kMo_sign d 0 0 0 [(0, .int y0), (1, .int y1)] [] (K) R I J o Z := by
  unfold pMo_sign at hp
  refine pm_iload_n dMo_sign_0 rfl ?_
  by_cases h1_33 : y0 = 33
  ·
    refine pm_lookup 188 dMo_sign_1 (by decide) (by first | (rw [h1_33]; rfl) | rw [h1_33]) (by decide) ?_
    refine pm_iload_n dMo_sign_188 rfl ?_
    refine pm_bipush (v := 61) dMo_sign_189 (by decide) ?_
    refine pm_icmp_ne 200 dMo_sign_191 (by decide) (fun h191 => ?_) (fun h191 => ?_)
    ·
      refine pm_iload_n dMo_sign_200 rfl ?_
      exact pm_iret dMo_sign_201 rfl (ho.trans (by first | (simp only [fMo_sign, if_pos h1_33, if_neg h191]; done) | (simp only [fMo_sign, if_pos h1_33, if_neg h191]; rfl) | rfl)) (hz.trans (by first | (simp only [fMo_sign, if_pos h1_33, if_neg h191]; done) | (simp only [fMo_sign, if_pos h1_33, if_neg h191]; rfl) | rfl))
    ·
      refine pm_sipush (v := 301) dMo_sign_194 (by decide) ?_
      refine pm_goto 201 dMo_sign_197 (by decide) ?_
      exact pm_iret dMo_sign_201 rfl (ho.trans (by first | (simp only [fMo_sign, if_pos h1_33, if_pos h191]; done) | (simp only [fMo_sign, if_pos h1_33, if_pos h191]; rfl) | rfl)) (hz.trans (by first | (simp only [fMo_sign, if_pos h1_33, if_pos h191]; done) | (simp only [fMo_sign, if_pos h1_33, if_pos h191]; rfl) | rfl))
  ·
    by_cases h1_38 : y0 = 38
    ·
      refine pm_lookup 254 dMo_sign_1 (by decide) (by first | (rw [h1_38]; rfl) | rw [h1_38]) (by decide) ?_
      refine pm_iload_n dMo_sign_254 rfl ?_
      refine pm_bipush (v := 38) dMo_sign_255 (by decide) ?_
      refine pm_icmp_ne 266 dMo_sign_257 (by decide) (fun h257 => ?_) (fun h257 => ?_)
      ·
        refine pm_iload_n dMo_sign_266 rfl ?_
        exact pm_iret dMo_sign_267 rfl (ho.trans (by first | (simp only [fMo_sign, if_neg h1_33, if_pos h1_38, if_neg h257]; done) | (simp only [fMo_sign, if_neg h1_33, if_pos h1_38, if_neg h257]; rfl) | rfl)) (hz.trans (by first | (simp only [fMo_sign, if_neg h1_33, if_pos h1_38, if_neg h257]; done) | (simp only [fMo_sign, if_neg h1_33, if_pos h1_38, if_neg h257]; rfl) | rfl))
      ·
        refine pm_sipush (v := 306) dMo_sign_260 (by decide) ?_
        refine pm_goto 267 dMo_sign_263 (by decide) ?_
        exact pm_iret dMo_sign_267 rfl (ho.trans (by first | (simp only [fMo_sign, if_neg h1_33, if_pos h1_38, if_pos h257]; done) | (simp only [fMo_sign, if_neg h1_33, if_pos h1_38, if_pos h257]; rfl) | rfl)) (hz.trans (by first | (simp only [fMo_sign, if_neg h1_33, if_pos h1_38, if_pos h257]; done) | (simp only [fMo_sign, if_neg h1_33, if_pos h1_38, if_pos h257]; rfl) | rfl))
    ·
      by_cases h1_40 : y0 = 40
      ·
        refine pm_lookup 172 dMo_sign_1 (by decide) (by first | (rw [h1_40]; rfl) | rw [h1_40]) (by decide) ?_
        refine pm_iload_n dMo_sign_172 rfl ?_
        exact pm_iret dMo_sign_173 rfl (ho.trans (by first | (simp only [fMo_sign, if_neg h1_33, if_neg h1_38, if_pos h1_40]; done) | (simp only [fMo_sign, if_neg h1_33, if_neg h1_38, if_pos h1_40]; rfl) | rfl)) (hz.trans (by first | (simp only [fMo_sign, if_neg h1_33, if_neg h1_38, if_pos h1_40]; done) | (simp only [fMo_sign, if_neg h1_33, if_neg h1_38, if_pos h1_40]; rfl) | rfl))
      ·
        by_cases h1_41 : y0 = 41
        ·
          refine pm_lookup 172 dMo_sign_1 (by decide) (by first | (rw [h1_41]; rfl) | rw [h1_41]) (by decide) ?_
          refine pm_iload_n dMo_sign_172 rfl ?_
          exact pm_iret dMo_sign_173 rfl (ho.trans (by first | (simp only [fMo_sign, if_neg h1_33, if_neg h1_38, if_neg h1_40, if_pos h1_41]; done) | (simp only [fMo_sign, if_neg h1_33, if_neg h1_38, if_neg h1_40, if_pos h1_41]; rfl) | rfl)) (hz.trans (by first | (simp only [fMo_sign, if_neg h1_33, if_neg h1_38, if_neg h1_40, if_pos h1_41]; done) | (simp only [fMo_sign, if_neg h1_33, if_neg h1_38, if_neg h1_40, if_pos h1_41]; rfl) | rfl))
        ·
          by_cases h1_42 : y0 = 42
          ·
            refine pm_lookup 172 dMo_sign_1 (by decide) (by first | (rw [h1_42]; rfl) | rw [h1_42]) (by decide) ?_
            refine pm_iload_n dMo_sign_172 rfl ?_
            exact pm_iret dMo_sign_173 rfl (ho.trans (by first | (simp only [fMo_sign, if_neg h1_33, if_neg h1_38, if_neg h1_40, if_neg h1_41, if_pos h1_42]; done) | (simp only [fMo_sign, if_neg h1_33, if_neg h1_38, if_neg h1_40, if_neg h1_41, if_pos h1_42]; rfl) | rfl)) (hz.trans (by first | (simp only [fMo_sign, if_neg h1_33, if_neg h1_38, if_neg h1_40, if_neg h1_41, if_pos h1_42]; done) | (simp only [fMo_sign, if_neg h1_33, if_neg h1_38, if_neg h1_40, if_neg h1_41, if_pos h1_42]; rfl) | rfl))
          ·
            by_cases h1_43 : y0 = 43
            ·
              refine pm_lookup 172 dMo_sign_1 (by decide) (by first | (rw [h1_43]; rfl) | rw [h1_43]) (by decide) ?_
              refine pm_iload_n dMo_sign_172 rfl ?_
              exact pm_iret dMo_sign_173 rfl (ho.trans (by first | (simp only [fMo_sign, if_neg h1_33, if_neg h1_38, if_neg h1_40, if_neg h1_41, if_neg h1_42, if_pos h1_43]; done) | (simp only [fMo_sign, if_neg h1_33, if_neg h1_38, if_neg h1_40, if_neg h1_41, if_neg h1_42, if_pos h1_43]; rfl) | rfl)) (hz.trans (by first | (simp only [fMo_sign, if_neg h1_33, if_neg h1_38, if_neg h1_40, if_neg h1_41, if_neg h1_42, if_pos h1_43]; done) | (simp only [fMo_sign, if_neg h1_33, if_neg h1_38, if_neg h1_40, if_neg h1_41, if_neg h1_42, if_pos h1_43]; rfl) | rfl))
            ·
              by_cases h1_45 : y0 = 45
              ·
                refine pm_lookup 282 dMo_sign_1 (by decide) (by first | (rw [h1_45]; rfl) | rw [h1_45]) (by decide) ?_
                refine pm_iload_n dMo_sign_282 rfl ?_
                refine pm_bipush (v := 62) dMo_sign_283 (by decide) ?_
                refine pm_icmp_ne 294 dMo_sign_285 (by decide) (fun h285 => ?_) (fun h285 => ?_)
                ·
                  refine pm_iload_n dMo_sign_294 rfl ?_
                  exact pm_iret dMo_sign_295 rfl (ho.trans (by first | (simp only [fMo_sign, if_neg h1_33, if_neg h1_38, if_neg h1_40, if_neg h1_41, if_neg h1_42, if_neg h1_43, if_pos h1_45, if_neg h285]; done) | (simp only [fMo_sign, if_neg h1_33, if_neg h1_38, if_neg h1_40, if_neg h1_41, if_neg h1_42, if_neg h1_43, if_pos h1_45, if_neg h285]; rfl) | rfl)) (hz.trans (by first | (simp only [fMo_sign, if_neg h1_33, if_neg h1_38, if_neg h1_40, if_neg h1_41, if_neg h1_42, if_neg h1_43, if_pos h1_45, if_neg h285]; done) | (simp only [fMo_sign, if_neg h1_33, if_neg h1_38, if_neg h1_40, if_neg h1_41, if_neg h1_42, if_neg h1_43, if_pos h1_45, if_neg h285]; rfl) | rfl))
                ·
                  refine pm_sipush (v := 308) dMo_sign_288 (by decide) ?_
                  refine pm_goto 295 dMo_sign_291 (by decide) ?_
                  exact pm_iret dMo_sign_295 rfl (ho.trans (by first | (simp only [fMo_sign, if_neg h1_33, if_neg h1_38, if_neg h1_40, if_neg h1_41, if_neg h1_42, if_neg h1_43, if_pos h1_45, if_pos h285]; done) | (simp only [fMo_sign, if_neg h1_33, if_neg h1_38, if_neg h1_40, if_neg h1_41, if_neg h1_42, if_neg h1_43, if_pos h1_45, if_pos h285]; rfl) | rfl)) (hz.trans (by first | (simp only [fMo_sign, if_neg h1_33, if_neg h1_38, if_neg h1_40, if_neg h1_41, if_neg h1_42, if_neg h1_43, if_pos h1_45, if_pos h285]; done) | (simp only [fMo_sign, if_neg h1_33, if_neg h1_38, if_neg h1_40, if_neg h1_41, if_neg h1_42, if_neg h1_43, if_pos h1_45, if_pos h285]; rfl) | rfl))
              ·
                by_cases h1_58 : y0 = 58
                ·
                  refine pm_lookup 172 dMo_sign_1 (by decide) (by first | (rw [h1_58]; rfl) | rw [h1_58]) (by decide) ?_
                  refine pm_iload_n dMo_sign_172 rfl ?_
                  exact pm_iret dMo_sign_173 rfl (ho.trans (by first | (simp only [fMo_sign, if_neg h1_33, if_neg h1_38, if_neg h1_40, if_neg h1_41, if_neg h1_42, if_neg h1_43, if_neg h1_45, if_pos h1_58]; done) | (simp only [fMo_sign, if_neg h1_33, if_neg h1_38, if_neg h1_40, if_neg h1_41, if_neg h1_42, if_neg h1_43, if_neg h1_45, if_pos h1_58]; rfl) | rfl)) (hz.trans (by first | (simp only [fMo_sign, if_neg h1_33, if_neg h1_38, if_neg h1_40, if_neg h1_41, if_neg h1_42, if_neg h1_43, if_neg h1_45, if_pos h1_58]; done) | (simp only [fMo_sign, if_neg h1_33, if_neg h1_38, if_neg h1_40, if_neg h1_41, if_neg h1_42, if_neg h1_43, if_neg h1_45, if_pos h1_58]; rfl) | rfl))
                ·
                  by_cases h1_59 : y0 = 59
                  ·
                    refine pm_lookup 172 dMo_sign_1 (by decide) (by first | (rw [h1_59]; rfl) | rw [h1_59]) (by decide) ?_
                    refine pm_iload_n dMo_sign_172 rfl ?_
                    exact pm_iret dMo_sign_173 rfl (ho.trans (by first | (simp only [fMo_sign, if_neg h1_33, if_neg h1_38, if_neg h1_40, if_neg h1_41, if_neg h1_42, if_neg h1_43, if_neg h1_45, if_neg h1_58, if_pos h1_59]; done) | (simp only [fMo_sign, if_neg h1_33, if_neg h1_38, if_neg h1_40, if_neg h1_41, if_neg h1_42, if_neg h1_43, if_neg h1_45, if_neg h1_58, if_pos h1_59]; rfl) | rfl)) (hz.trans (by first | (simp only [fMo_sign, if_neg h1_33, if_neg h1_38, if_neg h1_40, if_neg h1_41, if_neg h1_42, if_neg h1_43, if_neg h1_45, if_neg h1_58, if_pos h1_59]; done) | (simp only [fMo_sign, if_neg h1_33, if_neg h1_38, if_neg h1_40, if_neg h1_41, if_neg h1_42, if_neg h1_43, if_neg h1_45, if_neg h1_58, if_pos h1_59]; rfl) | rfl))
                  ·
                    by_cases h1_60 : y0 = 60
                    ·
                      refine pm_lookup 202 dMo_sign_1 (by decide) (by first | (rw [h1_60]; rfl) | rw [h1_60]) (by decide) ?_
                      refine pm_iload_n dMo_sign_202 rfl ?_
                      refine pm_bipush (v := 61) dMo_sign_203 (by decide) ?_
                      refine pm_icmp_ne 214 dMo_sign_205 (by decide) (fun h205 => ?_) (fun h205 => ?_)
                      ·
                        refine pm_iload_n dMo_sign_214 rfl ?_
                        refine pm_bipush (v := 60) dMo_sign_215 (by decide) ?_
                        refine pm_icmp_ne 226 dMo_sign_217 (by decide) (fun h217 => ?_) (fun h217 => ?_)
                        ·
                          refine pm_iload_n dMo_sign_226 rfl ?_
                          exact pm_iret dMo_sign_227 rfl (ho.trans (by first | (simp only [fMo_sign, if_neg h1_33, if_neg h1_38, if_neg h1_40, if_neg h1_41, if_neg h1_42, if_neg h1_43, if_neg h1_45, if_neg h1_58, if_neg h1_59, if_pos h1_60, if_neg h205, if_neg h217]; done) | (simp only [fMo_sign, if_neg h1_33, if_neg h1_38, if_neg h1_40, if_neg h1_41, if_neg h1_42, if_neg h1_43, if_neg h1_45, if_neg h1_58, if_neg h1_59, if_pos h1_60, if_neg h205, if_neg h217]; rfl) | rfl)) (hz.trans (by first | (simp only [fMo_sign, if_neg h1_33, if_neg h1_38, if_neg h1_40, if_neg h1_41, if_neg h1_42, if_neg h1_43, if_neg h1_45, if_neg h1_58, if_neg h1_59, if_pos h1_60, if_neg h205, if_neg h217]; done) | (simp only [fMo_sign, if_neg h1_33, if_neg h1_38, if_neg h1_40, if_neg h1_41, if_neg h1_42, if_neg h1_43, if_neg h1_45, if_neg h1_58, if_neg h1_59, if_pos h1_60, if_neg h205, if_neg h217]; rfl) | rfl))
                        ·
                          refine pm_sipush (v := 304) dMo_sign_220 (by decide) ?_
                          refine pm_goto 227 dMo_sign_223 (by decide) ?_
                          exact pm_iret dMo_sign_227 rfl (ho.trans (by first | (simp only [fMo_sign, if_neg h1_33, if_neg h1_38, if_neg h1_40, if_neg h1_41, if_neg h1_42, if_neg h1_43, if_neg h1_45, if_neg h1_58, if_neg h1_59, if_pos h1_60, if_neg h205, if_pos h217]; done) | (simp only [fMo_sign, if_neg h1_33, if_neg h1_38, if_neg h1_40, if_neg h1_41, if_neg h1_42, if_neg h1_43, if_neg h1_45, if_neg h1_58, if_neg h1_59, if_pos h1_60, if_neg h205, if_pos h217]; rfl) | rfl)) (hz.trans (by first | (simp only [fMo_sign, if_neg h1_33, if_neg h1_38, if_neg h1_40, if_neg h1_41, if_neg h1_42, if_neg h1_43, if_neg h1_45, if_neg h1_58, if_neg h1_59, if_pos h1_60, if_neg h205, if_pos h217]; done) | (simp only [fMo_sign, if_neg h1_33, if_neg h1_38, if_neg h1_40, if_neg h1_41, if_neg h1_42, if_neg h1_43, if_neg h1_45, if_neg h1_58, if_neg h1_59, if_pos h1_60, if_neg h205, if_pos h217]; rfl) | rfl))
                      ·
                        refine pm_sipush (v := 302) dMo_sign_208 (by decide) ?_
                        refine pm_goto 227 dMo_sign_211 (by decide) ?_
                        exact pm_iret dMo_sign_227 rfl (ho.trans (by first | (simp only [fMo_sign, if_neg h1_33, if_neg h1_38, if_neg h1_40, if_neg h1_41, if_neg h1_42, if_neg h1_43, if_neg h1_45, if_neg h1_58, if_neg h1_59, if_pos h1_60, if_pos h205]; done) | (simp only [fMo_sign, if_neg h1_33, if_neg h1_38, if_neg h1_40, if_neg h1_41, if_neg h1_42, if_neg h1_43, if_neg h1_45, if_neg h1_58, if_neg h1_59, if_pos h1_60, if_pos h205]; rfl) | rfl)) (hz.trans (by first | (simp only [fMo_sign, if_neg h1_33, if_neg h1_38, if_neg h1_40, if_neg h1_41, if_neg h1_42, if_neg h1_43, if_neg h1_45, if_neg h1_58, if_neg h1_59, if_pos h1_60, if_pos h205]; done) | (simp only [fMo_sign, if_neg h1_33, if_neg h1_38, if_neg h1_40, if_neg h1_41, if_neg h1_42, if_neg h1_43, if_neg h1_45, if_neg h1_58, if_neg h1_59, if_pos h1_60, if_pos h205]; rfl) | rfl))
                    ·
                      by_cases h1_61 : y0 = 61
                      ·
                        refine pm_lookup 174 dMo_sign_1 (by decide) (by first | (rw [h1_61]; rfl) | rw [h1_61]) (by decide) ?_
                        refine pm_iload_n dMo_sign_174 rfl ?_
                        refine pm_bipush (v := 61) dMo_sign_175 (by decide) ?_
                        refine pm_icmp_ne 186 dMo_sign_177 (by decide) (fun h177 => ?_) (fun h177 => ?_)
                        ·
                          refine pm_iload_n dMo_sign_186 rfl ?_
                          exact pm_iret dMo_sign_187 rfl (ho.trans (by first | (simp only [fMo_sign, if_neg h1_33, if_neg h1_38, if_neg h1_40, if_neg h1_41, if_neg h1_42, if_neg h1_43, if_neg h1_45, if_neg h1_58, if_neg h1_59, if_neg h1_60, if_pos h1_61, if_neg h177]; done) | (simp only [fMo_sign, if_neg h1_33, if_neg h1_38, if_neg h1_40, if_neg h1_41, if_neg h1_42, if_neg h1_43, if_neg h1_45, if_neg h1_58, if_neg h1_59, if_neg h1_60, if_pos h1_61, if_neg h177]; rfl) | rfl)) (hz.trans (by first | (simp only [fMo_sign, if_neg h1_33, if_neg h1_38, if_neg h1_40, if_neg h1_41, if_neg h1_42, if_neg h1_43, if_neg h1_45, if_neg h1_58, if_neg h1_59, if_neg h1_60, if_pos h1_61, if_neg h177]; done) | (simp only [fMo_sign, if_neg h1_33, if_neg h1_38, if_neg h1_40, if_neg h1_41, if_neg h1_42, if_neg h1_43, if_neg h1_45, if_neg h1_58, if_neg h1_59, if_neg h1_60, if_pos h1_61, if_neg h177]; rfl) | rfl))
                        ·
                          refine pm_sipush (v := 300) dMo_sign_180 (by decide) ?_
                          refine pm_goto 187 dMo_sign_183 (by decide) ?_
                          exact pm_iret dMo_sign_187 rfl (ho.trans (by first | (simp only [fMo_sign, if_neg h1_33, if_neg h1_38, if_neg h1_40, if_neg h1_41, if_neg h1_42, if_neg h1_43, if_neg h1_45, if_neg h1_58, if_neg h1_59, if_neg h1_60, if_pos h1_61, if_pos h177]; done) | (simp only [fMo_sign, if_neg h1_33, if_neg h1_38, if_neg h1_40, if_neg h1_41, if_neg h1_42, if_neg h1_43, if_neg h1_45, if_neg h1_58, if_neg h1_59, if_neg h1_60, if_pos h1_61, if_pos h177]; rfl) | rfl)) (hz.trans (by first | (simp only [fMo_sign, if_neg h1_33, if_neg h1_38, if_neg h1_40, if_neg h1_41, if_neg h1_42, if_neg h1_43, if_neg h1_45, if_neg h1_58, if_neg h1_59, if_neg h1_60, if_pos h1_61, if_pos h177]; done) | (simp only [fMo_sign, if_neg h1_33, if_neg h1_38, if_neg h1_40, if_neg h1_41, if_neg h1_42, if_neg h1_43, if_neg h1_45, if_neg h1_58, if_neg h1_59, if_neg h1_60, if_pos h1_61, if_pos h177]; rfl) | rfl))
                      ·
                        by_cases h1_62 : y0 = 62
                        ·
                          refine pm_lookup 228 dMo_sign_1 (by decide) (by first | (rw [h1_62]; rfl) | rw [h1_62]) (by decide) ?_
                          refine pm_iload_n dMo_sign_228 rfl ?_
                          refine pm_bipush (v := 61) dMo_sign_229 (by decide) ?_
                          refine pm_icmp_ne 240 dMo_sign_231 (by decide) (fun h231 => ?_) (fun h231 => ?_)
                          ·
                            refine pm_iload_n dMo_sign_240 rfl ?_
                            refine pm_bipush (v := 62) dMo_sign_241 (by decide) ?_
                            refine pm_icmp_ne 252 dMo_sign_243 (by decide) (fun h243 => ?_) (fun h243 => ?_)
                            ·
                              refine pm_iload_n dMo_sign_252 rfl ?_
                              exact pm_iret dMo_sign_253 rfl (ho.trans (by first | (simp only [fMo_sign, if_neg h1_33, if_neg h1_38, if_neg h1_40, if_neg h1_41, if_neg h1_42, if_neg h1_43, if_neg h1_45, if_neg h1_58, if_neg h1_59, if_neg h1_60, if_neg h1_61, if_pos h1_62, if_neg h231, if_neg h243]; done) | (simp only [fMo_sign, if_neg h1_33, if_neg h1_38, if_neg h1_40, if_neg h1_41, if_neg h1_42, if_neg h1_43, if_neg h1_45, if_neg h1_58, if_neg h1_59, if_neg h1_60, if_neg h1_61, if_pos h1_62, if_neg h231, if_neg h243]; rfl) | rfl)) (hz.trans (by first | (simp only [fMo_sign, if_neg h1_33, if_neg h1_38, if_neg h1_40, if_neg h1_41, if_neg h1_42, if_neg h1_43, if_neg h1_45, if_neg h1_58, if_neg h1_59, if_neg h1_60, if_neg h1_61, if_pos h1_62, if_neg h231, if_neg h243]; done) | (simp only [fMo_sign, if_neg h1_33, if_neg h1_38, if_neg h1_40, if_neg h1_41, if_neg h1_42, if_neg h1_43, if_neg h1_45, if_neg h1_58, if_neg h1_59, if_neg h1_60, if_neg h1_61, if_pos h1_62, if_neg h231, if_neg h243]; rfl) | rfl))
                            ·
                              refine pm_sipush (v := 305) dMo_sign_246 (by decide) ?_
                              refine pm_goto 253 dMo_sign_249 (by decide) ?_
                              exact pm_iret dMo_sign_253 rfl (ho.trans (by first | (simp only [fMo_sign, if_neg h1_33, if_neg h1_38, if_neg h1_40, if_neg h1_41, if_neg h1_42, if_neg h1_43, if_neg h1_45, if_neg h1_58, if_neg h1_59, if_neg h1_60, if_neg h1_61, if_pos h1_62, if_neg h231, if_pos h243]; done) | (simp only [fMo_sign, if_neg h1_33, if_neg h1_38, if_neg h1_40, if_neg h1_41, if_neg h1_42, if_neg h1_43, if_neg h1_45, if_neg h1_58, if_neg h1_59, if_neg h1_60, if_neg h1_61, if_pos h1_62, if_neg h231, if_pos h243]; rfl) | rfl)) (hz.trans (by first | (simp only [fMo_sign, if_neg h1_33, if_neg h1_38, if_neg h1_40, if_neg h1_41, if_neg h1_42, if_neg h1_43, if_neg h1_45, if_neg h1_58, if_neg h1_59, if_neg h1_60, if_neg h1_61, if_pos h1_62, if_neg h231, if_pos h243]; done) | (simp only [fMo_sign, if_neg h1_33, if_neg h1_38, if_neg h1_40, if_neg h1_41, if_neg h1_42, if_neg h1_43, if_neg h1_45, if_neg h1_58, if_neg h1_59, if_neg h1_60, if_neg h1_61, if_pos h1_62, if_neg h231, if_pos h243]; rfl) | rfl))
                          ·
                            refine pm_sipush (v := 303) dMo_sign_234 (by decide) ?_
                            refine pm_goto 253 dMo_sign_237 (by decide) ?_
                            exact pm_iret dMo_sign_253 rfl (ho.trans (by first | (simp only [fMo_sign, if_neg h1_33, if_neg h1_38, if_neg h1_40, if_neg h1_41, if_neg h1_42, if_neg h1_43, if_neg h1_45, if_neg h1_58, if_neg h1_59, if_neg h1_60, if_neg h1_61, if_pos h1_62, if_pos h231]; done) | (simp only [fMo_sign, if_neg h1_33, if_neg h1_38, if_neg h1_40, if_neg h1_41, if_neg h1_42, if_neg h1_43, if_neg h1_45, if_neg h1_58, if_neg h1_59, if_neg h1_60, if_neg h1_61, if_pos h1_62, if_pos h231]; rfl) | rfl)) (hz.trans (by first | (simp only [fMo_sign, if_neg h1_33, if_neg h1_38, if_neg h1_40, if_neg h1_41, if_neg h1_42, if_neg h1_43, if_neg h1_45, if_neg h1_58, if_neg h1_59, if_neg h1_60, if_neg h1_61, if_pos h1_62, if_pos h231]; done) | (simp only [fMo_sign, if_neg h1_33, if_neg h1_38, if_neg h1_40, if_neg h1_41, if_neg h1_42, if_neg h1_43, if_neg h1_45, if_neg h1_58, if_neg h1_59, if_neg h1_60, if_neg h1_61, if_pos h1_62, if_pos h231]; rfl) | rfl))
                        ·
                          by_cases h1_63 : y0 = 63
                          ·
                            refine pm_lookup 172 dMo_sign_1 (by decide) (by first | (rw [h1_63]; rfl) | rw [h1_63]) (by decide) ?_
                            refine pm_iload_n dMo_sign_172 rfl ?_
                            exact pm_iret dMo_sign_173 rfl (ho.trans (by first | (simp only [fMo_sign, if_neg h1_33, if_neg h1_38, if_neg h1_40, if_neg h1_41, if_neg h1_42, if_neg h1_43, if_neg h1_45, if_neg h1_58, if_neg h1_59, if_neg h1_60, if_neg h1_61, if_neg h1_62, if_pos h1_63]; done) | (simp only [fMo_sign, if_neg h1_33, if_neg h1_38, if_neg h1_40, if_neg h1_41, if_neg h1_42, if_neg h1_43, if_neg h1_45, if_neg h1_58, if_neg h1_59, if_neg h1_60, if_neg h1_61, if_neg h1_62, if_pos h1_63]; rfl) | rfl)) (hz.trans (by first | (simp only [fMo_sign, if_neg h1_33, if_neg h1_38, if_neg h1_40, if_neg h1_41, if_neg h1_42, if_neg h1_43, if_neg h1_45, if_neg h1_58, if_neg h1_59, if_neg h1_60, if_neg h1_61, if_neg h1_62, if_pos h1_63]; done) | (simp only [fMo_sign, if_neg h1_33, if_neg h1_38, if_neg h1_40, if_neg h1_41, if_neg h1_42, if_neg h1_43, if_neg h1_45, if_neg h1_58, if_neg h1_59, if_neg h1_60, if_neg h1_61, if_neg h1_62, if_pos h1_63]; rfl) | rfl))
                          ·
                            by_cases h1_91 : y0 = 91
                            ·
                              refine pm_lookup 172 dMo_sign_1 (by decide) (by first | (rw [h1_91]; rfl) | rw [h1_91]) (by decide) ?_
                              refine pm_iload_n dMo_sign_172 rfl ?_
                              exact pm_iret dMo_sign_173 rfl (ho.trans (by first | (simp only [fMo_sign, if_neg h1_33, if_neg h1_38, if_neg h1_40, if_neg h1_41, if_neg h1_42, if_neg h1_43, if_neg h1_45, if_neg h1_58, if_neg h1_59, if_neg h1_60, if_neg h1_61, if_neg h1_62, if_neg h1_63, if_pos h1_91]; done) | (simp only [fMo_sign, if_neg h1_33, if_neg h1_38, if_neg h1_40, if_neg h1_41, if_neg h1_42, if_neg h1_43, if_neg h1_45, if_neg h1_58, if_neg h1_59, if_neg h1_60, if_neg h1_61, if_neg h1_62, if_neg h1_63, if_pos h1_91]; rfl) | rfl)) (hz.trans (by first | (simp only [fMo_sign, if_neg h1_33, if_neg h1_38, if_neg h1_40, if_neg h1_41, if_neg h1_42, if_neg h1_43, if_neg h1_45, if_neg h1_58, if_neg h1_59, if_neg h1_60, if_neg h1_61, if_neg h1_62, if_neg h1_63, if_pos h1_91]; done) | (simp only [fMo_sign, if_neg h1_33, if_neg h1_38, if_neg h1_40, if_neg h1_41, if_neg h1_42, if_neg h1_43, if_neg h1_45, if_neg h1_58, if_neg h1_59, if_neg h1_60, if_neg h1_61, if_neg h1_62, if_neg h1_63, if_pos h1_91]; rfl) | rfl))
                            ·
                              by_cases h1_93 : y0 = 93
                              ·
                                refine pm_lookup 172 dMo_sign_1 (by decide) (by first | (rw [h1_93]; rfl) | rw [h1_93]) (by decide) ?_
                                refine pm_iload_n dMo_sign_172 rfl ?_
                                exact pm_iret dMo_sign_173 rfl (ho.trans (by first | (simp only [fMo_sign, if_neg h1_33, if_neg h1_38, if_neg h1_40, if_neg h1_41, if_neg h1_42, if_neg h1_43, if_neg h1_45, if_neg h1_58, if_neg h1_59, if_neg h1_60, if_neg h1_61, if_neg h1_62, if_neg h1_63, if_neg h1_91, if_pos h1_93]; done) | (simp only [fMo_sign, if_neg h1_33, if_neg h1_38, if_neg h1_40, if_neg h1_41, if_neg h1_42, if_neg h1_43, if_neg h1_45, if_neg h1_58, if_neg h1_59, if_neg h1_60, if_neg h1_61, if_neg h1_62, if_neg h1_63, if_neg h1_91, if_pos h1_93]; rfl) | rfl)) (hz.trans (by first | (simp only [fMo_sign, if_neg h1_33, if_neg h1_38, if_neg h1_40, if_neg h1_41, if_neg h1_42, if_neg h1_43, if_neg h1_45, if_neg h1_58, if_neg h1_59, if_neg h1_60, if_neg h1_61, if_neg h1_62, if_neg h1_63, if_neg h1_91, if_pos h1_93]; done) | (simp only [fMo_sign, if_neg h1_33, if_neg h1_38, if_neg h1_40, if_neg h1_41, if_neg h1_42, if_neg h1_43, if_neg h1_45, if_neg h1_58, if_neg h1_59, if_neg h1_60, if_neg h1_61, if_neg h1_62, if_neg h1_63, if_neg h1_91, if_pos h1_93]; rfl) | rfl))
                              ·
                                by_cases h1_94 : y0 = 94
                                ·
                                  refine pm_lookup 172 dMo_sign_1 (by decide) (by first | (rw [h1_94]; rfl) | rw [h1_94]) (by decide) ?_
                                  refine pm_iload_n dMo_sign_172 rfl ?_
                                  exact pm_iret dMo_sign_173 rfl (ho.trans (by first | (simp only [fMo_sign, if_neg h1_33, if_neg h1_38, if_neg h1_40, if_neg h1_41, if_neg h1_42, if_neg h1_43, if_neg h1_45, if_neg h1_58, if_neg h1_59, if_neg h1_60, if_neg h1_61, if_neg h1_62, if_neg h1_63, if_neg h1_91, if_neg h1_93, if_pos h1_94]; done) | (simp only [fMo_sign, if_neg h1_33, if_neg h1_38, if_neg h1_40, if_neg h1_41, if_neg h1_42, if_neg h1_43, if_neg h1_45, if_neg h1_58, if_neg h1_59, if_neg h1_60, if_neg h1_61, if_neg h1_62, if_neg h1_63, if_neg h1_91, if_neg h1_93, if_pos h1_94]; rfl) | rfl)) (hz.trans (by first | (simp only [fMo_sign, if_neg h1_33, if_neg h1_38, if_neg h1_40, if_neg h1_41, if_neg h1_42, if_neg h1_43, if_neg h1_45, if_neg h1_58, if_neg h1_59, if_neg h1_60, if_neg h1_61, if_neg h1_62, if_neg h1_63, if_neg h1_91, if_neg h1_93, if_pos h1_94]; done) | (simp only [fMo_sign, if_neg h1_33, if_neg h1_38, if_neg h1_40, if_neg h1_41, if_neg h1_42, if_neg h1_43, if_neg h1_45, if_neg h1_58, if_neg h1_59, if_neg h1_60, if_neg h1_61, if_neg h1_62, if_neg h1_63, if_neg h1_91, if_neg h1_93, if_pos h1_94]; rfl) | rfl))
                                ·
                                  by_cases h1_123 : y0 = 123
                                  ·
                                    refine pm_lookup 172 dMo_sign_1 (by decide) (by first | (rw [h1_123]; rfl) | rw [h1_123]) (by decide) ?_
                                    refine pm_iload_n dMo_sign_172 rfl ?_
                                    exact pm_iret dMo_sign_173 rfl (ho.trans (by first | (simp only [fMo_sign, if_neg h1_33, if_neg h1_38, if_neg h1_40, if_neg h1_41, if_neg h1_42, if_neg h1_43, if_neg h1_45, if_neg h1_58, if_neg h1_59, if_neg h1_60, if_neg h1_61, if_neg h1_62, if_neg h1_63, if_neg h1_91, if_neg h1_93, if_neg h1_94, if_pos h1_123]; done) | (simp only [fMo_sign, if_neg h1_33, if_neg h1_38, if_neg h1_40, if_neg h1_41, if_neg h1_42, if_neg h1_43, if_neg h1_45, if_neg h1_58, if_neg h1_59, if_neg h1_60, if_neg h1_61, if_neg h1_62, if_neg h1_63, if_neg h1_91, if_neg h1_93, if_neg h1_94, if_pos h1_123]; rfl) | rfl)) (hz.trans (by first | (simp only [fMo_sign, if_neg h1_33, if_neg h1_38, if_neg h1_40, if_neg h1_41, if_neg h1_42, if_neg h1_43, if_neg h1_45, if_neg h1_58, if_neg h1_59, if_neg h1_60, if_neg h1_61, if_neg h1_62, if_neg h1_63, if_neg h1_91, if_neg h1_93, if_neg h1_94, if_pos h1_123]; done) | (simp only [fMo_sign, if_neg h1_33, if_neg h1_38, if_neg h1_40, if_neg h1_41, if_neg h1_42, if_neg h1_43, if_neg h1_45, if_neg h1_58, if_neg h1_59, if_neg h1_60, if_neg h1_61, if_neg h1_62, if_neg h1_63, if_neg h1_91, if_neg h1_93, if_neg h1_94, if_pos h1_123]; rfl) | rfl))
                                  ·
                                    by_cases h1_124 : y0 = 124
                                    ·
                                      refine pm_lookup 268 dMo_sign_1 (by decide) (by first | (rw [h1_124]; rfl) | rw [h1_124]) (by decide) ?_
                                      refine pm_iload_n dMo_sign_268 rfl ?_
                                      refine pm_bipush (v := 124) dMo_sign_269 (by decide) ?_
                                      refine pm_icmp_ne 280 dMo_sign_271 (by decide) (fun h271 => ?_) (fun h271 => ?_)
                                      ·
                                        refine pm_iload_n dMo_sign_280 rfl ?_
                                        exact pm_iret dMo_sign_281 rfl (ho.trans (by first | (simp only [fMo_sign, if_neg h1_33, if_neg h1_38, if_neg h1_40, if_neg h1_41, if_neg h1_42, if_neg h1_43, if_neg h1_45, if_neg h1_58, if_neg h1_59, if_neg h1_60, if_neg h1_61, if_neg h1_62, if_neg h1_63, if_neg h1_91, if_neg h1_93, if_neg h1_94, if_neg h1_123, if_pos h1_124, if_neg h271]; done) | (simp only [fMo_sign, if_neg h1_33, if_neg h1_38, if_neg h1_40, if_neg h1_41, if_neg h1_42, if_neg h1_43, if_neg h1_45, if_neg h1_58, if_neg h1_59, if_neg h1_60, if_neg h1_61, if_neg h1_62, if_neg h1_63, if_neg h1_91, if_neg h1_93, if_neg h1_94, if_neg h1_123, if_pos h1_124, if_neg h271]; rfl) | rfl)) (hz.trans (by first | (simp only [fMo_sign, if_neg h1_33, if_neg h1_38, if_neg h1_40, if_neg h1_41, if_neg h1_42, if_neg h1_43, if_neg h1_45, if_neg h1_58, if_neg h1_59, if_neg h1_60, if_neg h1_61, if_neg h1_62, if_neg h1_63, if_neg h1_91, if_neg h1_93, if_neg h1_94, if_neg h1_123, if_pos h1_124, if_neg h271]; done) | (simp only [fMo_sign, if_neg h1_33, if_neg h1_38, if_neg h1_40, if_neg h1_41, if_neg h1_42, if_neg h1_43, if_neg h1_45, if_neg h1_58, if_neg h1_59, if_neg h1_60, if_neg h1_61, if_neg h1_62, if_neg h1_63, if_neg h1_91, if_neg h1_93, if_neg h1_94, if_neg h1_123, if_pos h1_124, if_neg h271]; rfl) | rfl))
                                      ·
                                        refine pm_sipush (v := 307) dMo_sign_274 (by decide) ?_
                                        refine pm_goto 281 dMo_sign_277 (by decide) ?_
                                        exact pm_iret dMo_sign_281 rfl (ho.trans (by first | (simp only [fMo_sign, if_neg h1_33, if_neg h1_38, if_neg h1_40, if_neg h1_41, if_neg h1_42, if_neg h1_43, if_neg h1_45, if_neg h1_58, if_neg h1_59, if_neg h1_60, if_neg h1_61, if_neg h1_62, if_neg h1_63, if_neg h1_91, if_neg h1_93, if_neg h1_94, if_neg h1_123, if_pos h1_124, if_pos h271]; done) | (simp only [fMo_sign, if_neg h1_33, if_neg h1_38, if_neg h1_40, if_neg h1_41, if_neg h1_42, if_neg h1_43, if_neg h1_45, if_neg h1_58, if_neg h1_59, if_neg h1_60, if_neg h1_61, if_neg h1_62, if_neg h1_63, if_neg h1_91, if_neg h1_93, if_neg h1_94, if_neg h1_123, if_pos h1_124, if_pos h271]; rfl) | rfl)) (hz.trans (by first | (simp only [fMo_sign, if_neg h1_33, if_neg h1_38, if_neg h1_40, if_neg h1_41, if_neg h1_42, if_neg h1_43, if_neg h1_45, if_neg h1_58, if_neg h1_59, if_neg h1_60, if_neg h1_61, if_neg h1_62, if_neg h1_63, if_neg h1_91, if_neg h1_93, if_neg h1_94, if_neg h1_123, if_pos h1_124, if_pos h271]; done) | (simp only [fMo_sign, if_neg h1_33, if_neg h1_38, if_neg h1_40, if_neg h1_41, if_neg h1_42, if_neg h1_43, if_neg h1_45, if_neg h1_58, if_neg h1_59, if_neg h1_60, if_neg h1_61, if_neg h1_62, if_neg h1_63, if_neg h1_91, if_neg h1_93, if_neg h1_94, if_neg h1_123, if_pos h1_124, if_pos h271]; rfl) | rfl))
                                    ·
                                      by_cases h1_125 : y0 = 125
                                      ·
                                        refine pm_lookup 172 dMo_sign_1 (by decide) (by first | (rw [h1_125]; rfl) | rw [h1_125]) (by decide) ?_
                                        refine pm_iload_n dMo_sign_172 rfl ?_
                                        exact pm_iret dMo_sign_173 rfl (ho.trans (by first | (simp only [fMo_sign, if_neg h1_33, if_neg h1_38, if_neg h1_40, if_neg h1_41, if_neg h1_42, if_neg h1_43, if_neg h1_45, if_neg h1_58, if_neg h1_59, if_neg h1_60, if_neg h1_61, if_neg h1_62, if_neg h1_63, if_neg h1_91, if_neg h1_93, if_neg h1_94, if_neg h1_123, if_neg h1_124, if_pos h1_125]; done) | (simp only [fMo_sign, if_neg h1_33, if_neg h1_38, if_neg h1_40, if_neg h1_41, if_neg h1_42, if_neg h1_43, if_neg h1_45, if_neg h1_58, if_neg h1_59, if_neg h1_60, if_neg h1_61, if_neg h1_62, if_neg h1_63, if_neg h1_91, if_neg h1_93, if_neg h1_94, if_neg h1_123, if_neg h1_124, if_pos h1_125]; rfl) | rfl)) (hz.trans (by first | (simp only [fMo_sign, if_neg h1_33, if_neg h1_38, if_neg h1_40, if_neg h1_41, if_neg h1_42, if_neg h1_43, if_neg h1_45, if_neg h1_58, if_neg h1_59, if_neg h1_60, if_neg h1_61, if_neg h1_62, if_neg h1_63, if_neg h1_91, if_neg h1_93, if_neg h1_94, if_neg h1_123, if_neg h1_124, if_pos h1_125]; done) | (simp only [fMo_sign, if_neg h1_33, if_neg h1_38, if_neg h1_40, if_neg h1_41, if_neg h1_42, if_neg h1_43, if_neg h1_45, if_neg h1_58, if_neg h1_59, if_neg h1_60, if_neg h1_61, if_neg h1_62, if_neg h1_63, if_neg h1_91, if_neg h1_93, if_neg h1_94, if_neg h1_123, if_neg h1_124, if_pos h1_125]; rfl) | rfl))
                                      ·
                                        by_cases h1_126 : y0 = 126
                                        ·
                                          refine pm_lookup 172 dMo_sign_1 (by decide) (by first | (rw [h1_126]; rfl) | rw [h1_126]) (by decide) ?_
                                          refine pm_iload_n dMo_sign_172 rfl ?_
                                          exact pm_iret dMo_sign_173 rfl (ho.trans (by first | (simp only [fMo_sign, if_neg h1_33, if_neg h1_38, if_neg h1_40, if_neg h1_41, if_neg h1_42, if_neg h1_43, if_neg h1_45, if_neg h1_58, if_neg h1_59, if_neg h1_60, if_neg h1_61, if_neg h1_62, if_neg h1_63, if_neg h1_91, if_neg h1_93, if_neg h1_94, if_neg h1_123, if_neg h1_124, if_neg h1_125, if_pos h1_126]; done) | (simp only [fMo_sign, if_neg h1_33, if_neg h1_38, if_neg h1_40, if_neg h1_41, if_neg h1_42, if_neg h1_43, if_neg h1_45, if_neg h1_58, if_neg h1_59, if_neg h1_60, if_neg h1_61, if_neg h1_62, if_neg h1_63, if_neg h1_91, if_neg h1_93, if_neg h1_94, if_neg h1_123, if_neg h1_124, if_neg h1_125, if_pos h1_126]; rfl) | rfl)) (hz.trans (by first | (simp only [fMo_sign, if_neg h1_33, if_neg h1_38, if_neg h1_40, if_neg h1_41, if_neg h1_42, if_neg h1_43, if_neg h1_45, if_neg h1_58, if_neg h1_59, if_neg h1_60, if_neg h1_61, if_neg h1_62, if_neg h1_63, if_neg h1_91, if_neg h1_93, if_neg h1_94, if_neg h1_123, if_neg h1_124, if_neg h1_125, if_pos h1_126]; done) | (simp only [fMo_sign, if_neg h1_33, if_neg h1_38, if_neg h1_40, if_neg h1_41, if_neg h1_42, if_neg h1_43, if_neg h1_45, if_neg h1_58, if_neg h1_59, if_neg h1_60, if_neg h1_61, if_neg h1_62, if_neg h1_63, if_neg h1_91, if_neg h1_93, if_neg h1_94, if_neg h1_123, if_neg h1_124, if_neg h1_125, if_pos h1_126]; rfl) | rfl))
                                        ·
                                          refine pm_lookup 296 dMo_sign_1 (by decide) (pm_lkD [33, 38, 40, 41, 42, 43, 45, 58, 59, 60, 61, 62, 63, 91, 93, 94, 123, 124, 125, 126] rfl (by intro q9 hq9; simp only [List.mem_cons, List.not_mem_nil, or_false] at hq9; rcases hq9 with rfl | rfl | rfl | rfl | rfl | rfl | rfl | rfl | rfl | rfl | rfl | rfl | rfl | rfl | rfl | rfl | rfl | rfl | rfl | rfl <;> assumption)) (by decide) ?_
                                          refine pm_iconst (v := 3) dMo_sign_296 (by decide) ?_
                                          exact pm_iret dMo_sign_297 rfl (ho.trans (by first | (simp only [fMo_sign, if_neg h1_33, if_neg h1_38, if_neg h1_40, if_neg h1_41, if_neg h1_42, if_neg h1_43, if_neg h1_45, if_neg h1_58, if_neg h1_59, if_neg h1_60, if_neg h1_61, if_neg h1_62, if_neg h1_63, if_neg h1_91, if_neg h1_93, if_neg h1_94, if_neg h1_123, if_neg h1_124, if_neg h1_125, if_neg h1_126]; done) | (simp only [fMo_sign, if_neg h1_33, if_neg h1_38, if_neg h1_40, if_neg h1_41, if_neg h1_42, if_neg h1_43, if_neg h1_45, if_neg h1_58, if_neg h1_59, if_neg h1_60, if_neg h1_61, if_neg h1_62, if_neg h1_63, if_neg h1_91, if_neg h1_93, if_neg h1_94, if_neg h1_123, if_neg h1_124, if_neg h1_125, if_neg h1_126]; rfl) | rfl)) (hz.trans (by first | (simp only [fMo_sign, if_neg h1_33, if_neg h1_38, if_neg h1_40, if_neg h1_41, if_neg h1_42, if_neg h1_43, if_neg h1_45, if_neg h1_58, if_neg h1_59, if_neg h1_60, if_neg h1_61, if_neg h1_62, if_neg h1_63, if_neg h1_91, if_neg h1_93, if_neg h1_94, if_neg h1_123, if_neg h1_124, if_neg h1_125, if_neg h1_126]; done) | (simp only [fMo_sign, if_neg h1_33, if_neg h1_38, if_neg h1_40, if_neg h1_41, if_neg h1_42, if_neg h1_43, if_neg h1_45, if_neg h1_58, if_neg h1_59, if_neg h1_60, if_neg h1_61, if_neg h1_62, if_neg h1_63, if_neg h1_91, if_neg h1_93, if_neg h1_94, if_neg h1_123, if_neg h1_124, if_neg h1_125, if_neg h1_126]; rfl) | rfl))
set_option maxHeartbeats 4000000 in
set_option maxRecDepth 100000 in
theorem Mo_sign_ok (g : pmG) (d : Nat) (K : List (Nat × Nat)) (R : Nat → Nat → Value)  (x0 : Int32) (x1 : Int32) (I : Nat → Nat → Int32) (J : Nat → Nat → Int64) (hp : pMo_sign x0 x1) : pmC g kMo_sign d 0 0 [.int x0, .int x1] (K, R, I, J) (.returned (some (.int (fMo_sign x0 x1)))) (K, R, I, J) :=
  pmC.of (by decide) (Nat.le_of_ble_eq_true rfl) (Mo_sign_n0 g d K R I J _ _  x0 x1  hp rfl rfl)
def fMo_joins_128  (y0 : Int32) (y1 : Int32) : Int32 :=
  (1 : Int32)
def pMo_joins_128  (y0 : Int32) (y1 : Int32) : Prop :=
  True
def fMo_joins_160  (y0 : Int32) (y1 : Int32) : Int32 :=
  (1 : Int32)
def pMo_joins_160  (y0 : Int32) (y1 : Int32) : Prop :=
  True
def fMo_joins_180  (y0 : Int32) (y1 : Int32) : Int32 :=
  (1 : Int32)
def pMo_joins_180  (y0 : Int32) (y1 : Int32) : Prop :=
  True
def fMo_joins_198  (y0 : Int32) (y1 : Int32) : Int32 :=
  (1 : Int32)
def pMo_joins_198  (y0 : Int32) (y1 : Int32) : Prop :=
  True
def fMo_joins  (y0 : Int32) (y1 : Int32) : Int32 :=
  if y0 = 0 then if y1 = (307 : Int32) then (1 : Int32)
    else (0 : Int32)
  else if y0 = 1 then if y1 = (306 : Int32) then (1 : Int32)
    else (0 : Int32)
  else if y0 = 2 then if y1 = (124 : Int32) then (1 : Int32)
    else (0 : Int32)
  else if y0 = 3 then if y1 = (94 : Int32) then (1 : Int32)
    else (0 : Int32)
  else if y0 = 4 then if y1 = (38 : Int32) then (1 : Int32)
    else (0 : Int32)
  else if y0 = 5 then if y1 = (300 : Int32) then fMo_joins_128 y0 y1
    else if y1 = (301 : Int32) then fMo_joins_128 y0 y1
      else (0 : Int32)
  else if y0 = 6 then if y1 = (60 : Int32) then fMo_joins_160 y0 y1
    else if y1 = (302 : Int32) then fMo_joins_160 y0 y1
      else if y1 = (62 : Int32) then fMo_joins_160 y0 y1
        else if y1 = (303 : Int32) then fMo_joins_160 y0 y1
          else (0 : Int32)
  else if y0 = 7 then if y1 = (304 : Int32) then fMo_joins_180 y0 y1
    else if y1 = (305 : Int32) then fMo_joins_180 y0 y1
      else (0 : Int32)
  else if y0 = 8 then if y1 = (43 : Int32) then fMo_joins_198 y0 y1
    else if y1 = (45 : Int32) then fMo_joins_198 y0 y1
      else (0 : Int32)
  else if y1 = (42 : Int32) then (1 : Int32)
    else (0 : Int32)
def pMo_joins  (y0 : Int32) (y1 : Int32) : Prop :=
  (y0 = 0 → (y1 = (307 : Int32) → True) ∧
    (¬ (y1 = (307 : Int32)) → True)) ∧
  (¬ (y0 = 0) → (y0 = 1 → (y1 = (306 : Int32) → True) ∧
    (¬ (y1 = (306 : Int32)) → True)) ∧
  (¬ (y0 = 1) → (y0 = 2 → (y1 = (124 : Int32) → True) ∧
    (¬ (y1 = (124 : Int32)) → True)) ∧
  (¬ (y0 = 2) → (y0 = 3 → (y1 = (94 : Int32) → True) ∧
    (¬ (y1 = (94 : Int32)) → True)) ∧
  (¬ (y0 = 3) → (y0 = 4 → (y1 = (38 : Int32) → True) ∧
    (¬ (y1 = (38 : Int32)) → True)) ∧
  (¬ (y0 = 4) → (y0 = 5 → (y1 = (300 : Int32) → pMo_joins_128 y0 y1) ∧
    (¬ (y1 = (300 : Int32)) → (y1 = (301 : Int32) → pMo_joins_128 y0 y1) ∧
      (¬ (y1 = (301 : Int32)) → True))) ∧
  (¬ (y0 = 5) → (y0 = 6 → (y1 = (60 : Int32) → pMo_joins_160 y0 y1) ∧
    (¬ (y1 = (60 : Int32)) → (y1 = (302 : Int32) → pMo_joins_160 y0 y1) ∧
      (¬ (y1 = (302 : Int32)) → (y1 = (62 : Int32) → pMo_joins_160 y0 y1) ∧
        (¬ (y1 = (62 : Int32)) → (y1 = (303 : Int32) → pMo_joins_160 y0 y1) ∧
          (¬ (y1 = (303 : Int32)) → True))))) ∧
  (¬ (y0 = 6) → (y0 = 7 → (y1 = (304 : Int32) → pMo_joins_180 y0 y1) ∧
    (¬ (y1 = (304 : Int32)) → (y1 = (305 : Int32) → pMo_joins_180 y0 y1) ∧
      (¬ (y1 = (305 : Int32)) → True))) ∧
  (¬ (y0 = 7) → (y0 = 8 → (y1 = (43 : Int32) → pMo_joins_198 y0 y1) ∧
    (¬ (y1 = (43 : Int32)) → (y1 = (45 : Int32) → pMo_joins_198 y0 y1) ∧
      (¬ (y1 = (45 : Int32)) → True))) ∧
  (¬ (y0 = 8) → (y1 = (42 : Int32) → True) ∧
    (¬ (y1 = (42 : Int32)) → True))))))))))
set_option maxHeartbeats 4000000 in
set_option maxRecDepth 100000 in
theorem Mo_joins_n128 (g : pmG) (d : Nat) (K : List (Nat × Nat)) (R : Nat → Nat → Value) (I : Nat → Nat → Int32) (J : Nat → Nat → Int64) (o : Outcome) (Z : pmM)  (y0 : Int32) (y1 : Int32) (hp : pMo_joins_128 y0 y1) (ho : o = .returned (some (.int (fMo_joins_128 y0 y1)))) (hz : Z = (K, R, I, J)) : pmE g kMo_joins d 0 0 128 [(0, .int y0), (1, .int y1)] [] (K) R I J o Z := by
  unfold pMo_joins_128 at hp
  refine pm_iconst (v := 1) dMo_joins_128 (by decide) ?_
  refine pm_goto 133 dMo_joins_129 (by decide) ?_
  exact pm_zret dMo_joins_133 rfl (by first | rfl | decide) (ho.trans (by first | rfl | (simp only [fMo_joins_128]; done) | (simp only [fMo_joins_128]; rfl))) (hz.trans (by first | rfl | (simp only [fMo_joins_128]; done) | (simp only [fMo_joins_128]; rfl)))
set_option maxHeartbeats 4000000 in
set_option maxRecDepth 100000 in
theorem Mo_joins_n160 (g : pmG) (d : Nat) (K : List (Nat × Nat)) (R : Nat → Nat → Value) (I : Nat → Nat → Int32) (J : Nat → Nat → Int64) (o : Outcome) (Z : pmM)  (y0 : Int32) (y1 : Int32) (hp : pMo_joins_160 y0 y1) (ho : o = .returned (some (.int (fMo_joins_160 y0 y1)))) (hz : Z = (K, R, I, J)) : pmE g kMo_joins d 0 0 160 [(0, .int y0), (1, .int y1)] [] (K) R I J o Z := by
  unfold pMo_joins_160 at hp
  refine pm_iconst (v := 1) dMo_joins_160 (by decide) ?_
  refine pm_goto 165 dMo_joins_161 (by decide) ?_
  exact pm_zret dMo_joins_165 rfl (by first | rfl | decide) (ho.trans (by first | rfl | (simp only [fMo_joins_160]; done) | (simp only [fMo_joins_160]; rfl))) (hz.trans (by first | rfl | (simp only [fMo_joins_160]; done) | (simp only [fMo_joins_160]; rfl)))
set_option maxHeartbeats 4000000 in
set_option maxRecDepth 100000 in
theorem Mo_joins_n180 (g : pmG) (d : Nat) (K : List (Nat × Nat)) (R : Nat → Nat → Value) (I : Nat → Nat → Int32) (J : Nat → Nat → Int64) (o : Outcome) (Z : pmM)  (y0 : Int32) (y1 : Int32) (hp : pMo_joins_180 y0 y1) (ho : o = .returned (some (.int (fMo_joins_180 y0 y1)))) (hz : Z = (K, R, I, J)) : pmE g kMo_joins d 0 0 180 [(0, .int y0), (1, .int y1)] [] (K) R I J o Z := by
  unfold pMo_joins_180 at hp
  refine pm_iconst (v := 1) dMo_joins_180 (by decide) ?_
  refine pm_goto 185 dMo_joins_181 (by decide) ?_
  exact pm_zret dMo_joins_185 rfl (by first | rfl | decide) (ho.trans (by first | rfl | (simp only [fMo_joins_180]; done) | (simp only [fMo_joins_180]; rfl))) (hz.trans (by first | rfl | (simp only [fMo_joins_180]; done) | (simp only [fMo_joins_180]; rfl)))
set_option maxHeartbeats 4000000 in
set_option maxRecDepth 100000 in
theorem Mo_joins_n198 (g : pmG) (d : Nat) (K : List (Nat × Nat)) (R : Nat → Nat → Value) (I : Nat → Nat → Int32) (J : Nat → Nat → Int64) (o : Outcome) (Z : pmM)  (y0 : Int32) (y1 : Int32) (hp : pMo_joins_198 y0 y1) (ho : o = .returned (some (.int (fMo_joins_198 y0 y1)))) (hz : Z = (K, R, I, J)) : pmE g kMo_joins d 0 0 198 [(0, .int y0), (1, .int y1)] [] (K) R I J o Z := by
  unfold pMo_joins_198 at hp
  refine pm_iconst (v := 1) dMo_joins_198 (by decide) ?_
  refine pm_goto 203 dMo_joins_199 (by decide) ?_
  exact pm_zret dMo_joins_203 rfl (by first | rfl | decide) (ho.trans (by first | rfl | (simp only [fMo_joins_198]; done) | (simp only [fMo_joins_198]; rfl))) (hz.trans (by first | rfl | (simp only [fMo_joins_198]; done) | (simp only [fMo_joins_198]; rfl)))
set_option maxHeartbeats 4000000 in
set_option maxRecDepth 100000 in
theorem Mo_joins_n0 (g : pmG) (d : Nat) (K : List (Nat × Nat)) (R : Nat → Nat → Value) (I : Nat → Nat → Int32) (J : Nat → Nat → Int64) (o : Outcome) (Z : pmM)  (y0 : Int32) (y1 : Int32) (hp : pMo_joins y0 y1) (ho : o = .returned (some (.int (fMo_joins y0 y1)))) (hz : Z = (K, R, I, J)) : pmE g kMo_joins d 0 0 0 [(0, .int y0), (1, .int y1)] [] (K) R I J o Z := by
  unfold pMo_joins at hp
  refine pm_iload_n dMo_joins_0 rfl ?_
  by_cases h1_0 : y0 = 0
  ·
    refine pm_tableIn 52 dMo_joins_1 (by rw [h1_0]; decide) (by rw [h1_0]; decide) (by first | (rw [h1_0]; rfl) | rw [h1_0]) (by decide) ?_
    refine pm_iload_n dMo_joins_52 rfl ?_
    refine pm_sipush (v := 307) dMo_joins_53 (by decide) ?_
    refine pm_icmp_ne 63 dMo_joins_56 (by decide) (fun h56 => ?_) (fun h56 => ?_)
    ·
      refine pm_iconst (v := 0) dMo_joins_63 (by decide) ?_
      exact pm_zret dMo_joins_64 rfl (by first | rfl | decide) (ho.trans (by first | (simp only [fMo_joins, if_pos h1_0, if_neg h56]; done) | (simp only [fMo_joins, if_pos h1_0, if_neg h56]; rfl) | rfl)) (hz.trans (by first | (simp only [fMo_joins, if_pos h1_0, if_neg h56]; done) | (simp only [fMo_joins, if_pos h1_0, if_neg h56]; rfl) | rfl))
    ·
      refine pm_iconst (v := 1) dMo_joins_59 (by decide) ?_
      refine pm_goto 64 dMo_joins_60 (by decide) ?_
      exact pm_zret dMo_joins_64 rfl (by first | rfl | decide) (ho.trans (by first | (simp only [fMo_joins, if_pos h1_0, if_pos h56]; done) | (simp only [fMo_joins, if_pos h1_0, if_pos h56]; rfl) | rfl)) (hz.trans (by first | (simp only [fMo_joins, if_pos h1_0, if_pos h56]; done) | (simp only [fMo_joins, if_pos h1_0, if_pos h56]; rfl) | rfl))
  ·
    by_cases h1_1 : y0 = 1
    ·
      refine pm_tableIn 65 dMo_joins_1 (by rw [h1_1]; decide) (by rw [h1_1]; decide) (by first | (rw [h1_1]; rfl) | rw [h1_1]) (by decide) ?_
      refine pm_iload_n dMo_joins_65 rfl ?_
      refine pm_sipush (v := 306) dMo_joins_66 (by decide) ?_
      refine pm_icmp_ne 76 dMo_joins_69 (by decide) (fun h69 => ?_) (fun h69 => ?_)
      ·
        refine pm_iconst (v := 0) dMo_joins_76 (by decide) ?_
        exact pm_zret dMo_joins_77 rfl (by first | rfl | decide) (ho.trans (by first | (simp only [fMo_joins, if_neg h1_0, if_pos h1_1, if_neg h69]; done) | (simp only [fMo_joins, if_neg h1_0, if_pos h1_1, if_neg h69]; rfl) | rfl)) (hz.trans (by first | (simp only [fMo_joins, if_neg h1_0, if_pos h1_1, if_neg h69]; done) | (simp only [fMo_joins, if_neg h1_0, if_pos h1_1, if_neg h69]; rfl) | rfl))
      ·
        refine pm_iconst (v := 1) dMo_joins_72 (by decide) ?_
        refine pm_goto 77 dMo_joins_73 (by decide) ?_
        exact pm_zret dMo_joins_77 rfl (by first | rfl | decide) (ho.trans (by first | (simp only [fMo_joins, if_neg h1_0, if_pos h1_1, if_pos h69]; done) | (simp only [fMo_joins, if_neg h1_0, if_pos h1_1, if_pos h69]; rfl) | rfl)) (hz.trans (by first | (simp only [fMo_joins, if_neg h1_0, if_pos h1_1, if_pos h69]; done) | (simp only [fMo_joins, if_neg h1_0, if_pos h1_1, if_pos h69]; rfl) | rfl))
    ·
      by_cases h1_2 : y0 = 2
      ·
        refine pm_tableIn 78 dMo_joins_1 (by rw [h1_2]; decide) (by rw [h1_2]; decide) (by first | (rw [h1_2]; rfl) | rw [h1_2]) (by decide) ?_
        refine pm_iload_n dMo_joins_78 rfl ?_
        refine pm_bipush (v := 124) dMo_joins_79 (by decide) ?_
        refine pm_icmp_ne 88 dMo_joins_81 (by decide) (fun h81 => ?_) (fun h81 => ?_)
        ·
          refine pm_iconst (v := 0) dMo_joins_88 (by decide) ?_
          exact pm_zret dMo_joins_89 rfl (by first | rfl | decide) (ho.trans (by first | (simp only [fMo_joins, if_neg h1_0, if_neg h1_1, if_pos h1_2, if_neg h81]; done) | (simp only [fMo_joins, if_neg h1_0, if_neg h1_1, if_pos h1_2, if_neg h81]; rfl) | rfl)) (hz.trans (by first | (simp only [fMo_joins, if_neg h1_0, if_neg h1_1, if_pos h1_2, if_neg h81]; done) | (simp only [fMo_joins, if_neg h1_0, if_neg h1_1, if_pos h1_2, if_neg h81]; rfl) | rfl))
        ·
          refine pm_iconst (v := 1) dMo_joins_84 (by decide) ?_
          refine pm_goto 89 dMo_joins_85 (by decide) ?_
          exact pm_zret dMo_joins_89 rfl (by first | rfl | decide) (ho.trans (by first | (simp only [fMo_joins, if_neg h1_0, if_neg h1_1, if_pos h1_2, if_pos h81]; done) | (simp only [fMo_joins, if_neg h1_0, if_neg h1_1, if_pos h1_2, if_pos h81]; rfl) | rfl)) (hz.trans (by first | (simp only [fMo_joins, if_neg h1_0, if_neg h1_1, if_pos h1_2, if_pos h81]; done) | (simp only [fMo_joins, if_neg h1_0, if_neg h1_1, if_pos h1_2, if_pos h81]; rfl) | rfl))
      ·
        by_cases h1_3 : y0 = 3
        ·
          refine pm_tableIn 90 dMo_joins_1 (by rw [h1_3]; decide) (by rw [h1_3]; decide) (by first | (rw [h1_3]; rfl) | rw [h1_3]) (by decide) ?_
          refine pm_iload_n dMo_joins_90 rfl ?_
          refine pm_bipush (v := 94) dMo_joins_91 (by decide) ?_
          refine pm_icmp_ne 100 dMo_joins_93 (by decide) (fun h93 => ?_) (fun h93 => ?_)
          ·
            refine pm_iconst (v := 0) dMo_joins_100 (by decide) ?_
            exact pm_zret dMo_joins_101 rfl (by first | rfl | decide) (ho.trans (by first | (simp only [fMo_joins, if_neg h1_0, if_neg h1_1, if_neg h1_2, if_pos h1_3, if_neg h93]; done) | (simp only [fMo_joins, if_neg h1_0, if_neg h1_1, if_neg h1_2, if_pos h1_3, if_neg h93]; rfl) | rfl)) (hz.trans (by first | (simp only [fMo_joins, if_neg h1_0, if_neg h1_1, if_neg h1_2, if_pos h1_3, if_neg h93]; done) | (simp only [fMo_joins, if_neg h1_0, if_neg h1_1, if_neg h1_2, if_pos h1_3, if_neg h93]; rfl) | rfl))
          ·
            refine pm_iconst (v := 1) dMo_joins_96 (by decide) ?_
            refine pm_goto 101 dMo_joins_97 (by decide) ?_
            exact pm_zret dMo_joins_101 rfl (by first | rfl | decide) (ho.trans (by first | (simp only [fMo_joins, if_neg h1_0, if_neg h1_1, if_neg h1_2, if_pos h1_3, if_pos h93]; done) | (simp only [fMo_joins, if_neg h1_0, if_neg h1_1, if_neg h1_2, if_pos h1_3, if_pos h93]; rfl) | rfl)) (hz.trans (by first | (simp only [fMo_joins, if_neg h1_0, if_neg h1_1, if_neg h1_2, if_pos h1_3, if_pos h93]; done) | (simp only [fMo_joins, if_neg h1_0, if_neg h1_1, if_neg h1_2, if_pos h1_3, if_pos h93]; rfl) | rfl))
        ·
          by_cases h1_4 : y0 = 4
          ·
            refine pm_tableIn 102 dMo_joins_1 (by rw [h1_4]; decide) (by rw [h1_4]; decide) (by first | (rw [h1_4]; rfl) | rw [h1_4]) (by decide) ?_
            refine pm_iload_n dMo_joins_102 rfl ?_
            refine pm_bipush (v := 38) dMo_joins_103 (by decide) ?_
            refine pm_icmp_ne 112 dMo_joins_105 (by decide) (fun h105 => ?_) (fun h105 => ?_)
            ·
              refine pm_iconst (v := 0) dMo_joins_112 (by decide) ?_
              exact pm_zret dMo_joins_113 rfl (by first | rfl | decide) (ho.trans (by first | (simp only [fMo_joins, if_neg h1_0, if_neg h1_1, if_neg h1_2, if_neg h1_3, if_pos h1_4, if_neg h105]; done) | (simp only [fMo_joins, if_neg h1_0, if_neg h1_1, if_neg h1_2, if_neg h1_3, if_pos h1_4, if_neg h105]; rfl) | rfl)) (hz.trans (by first | (simp only [fMo_joins, if_neg h1_0, if_neg h1_1, if_neg h1_2, if_neg h1_3, if_pos h1_4, if_neg h105]; done) | (simp only [fMo_joins, if_neg h1_0, if_neg h1_1, if_neg h1_2, if_neg h1_3, if_pos h1_4, if_neg h105]; rfl) | rfl))
            ·
              refine pm_iconst (v := 1) dMo_joins_108 (by decide) ?_
              refine pm_goto 113 dMo_joins_109 (by decide) ?_
              exact pm_zret dMo_joins_113 rfl (by first | rfl | decide) (ho.trans (by first | (simp only [fMo_joins, if_neg h1_0, if_neg h1_1, if_neg h1_2, if_neg h1_3, if_pos h1_4, if_pos h105]; done) | (simp only [fMo_joins, if_neg h1_0, if_neg h1_1, if_neg h1_2, if_neg h1_3, if_pos h1_4, if_pos h105]; rfl) | rfl)) (hz.trans (by first | (simp only [fMo_joins, if_neg h1_0, if_neg h1_1, if_neg h1_2, if_neg h1_3, if_pos h1_4, if_pos h105]; done) | (simp only [fMo_joins, if_neg h1_0, if_neg h1_1, if_neg h1_2, if_neg h1_3, if_pos h1_4, if_pos h105]; rfl) | rfl))
          ·
            by_cases h1_5 : y0 = 5
            ·
              refine pm_tableIn 114 dMo_joins_1 (by rw [h1_5]; decide) (by rw [h1_5]; decide) (by first | (rw [h1_5]; rfl) | rw [h1_5]) (by decide) ?_
              refine pm_iload_n dMo_joins_114 rfl ?_
              refine pm_sipush (v := 300) dMo_joins_115 (by decide) ?_
              refine pm_icmp_eq 128 dMo_joins_118 (by decide) (fun h118 => ?_) (fun h118 => ?_)
              ·
                refine pm_wk [0, 1] rfl ?_
                exact Mo_joins_n128 g d K R I J _ _   _ _ (((((((hp.2 h1_0).2 h1_1).2 h1_2).2 h1_3).2 h1_4).1 h1_5).1 h118) (ho.trans (by first | (simp only [fMo_joins, if_neg h1_0, if_neg h1_1, if_neg h1_2, if_neg h1_3, if_neg h1_4, if_pos h1_5, if_pos h118]; done) | (simp only [fMo_joins, if_neg h1_0, if_neg h1_1, if_neg h1_2, if_neg h1_3, if_neg h1_4, if_pos h1_5, if_pos h118]; rfl) | rfl)) (hz.trans (by first | (simp only [fMo_joins, if_neg h1_0, if_neg h1_1, if_neg h1_2, if_neg h1_3, if_neg h1_4, if_pos h1_5, if_pos h118]; done) | (simp only [fMo_joins, if_neg h1_0, if_neg h1_1, if_neg h1_2, if_neg h1_3, if_neg h1_4, if_pos h1_5, if_pos h118]; rfl) | rfl))
              ·
                refine pm_iload_n dMo_joins_121 rfl ?_
                refine pm_sipush (v := 301) dMo_joins_122 (by decide) ?_
                refine pm_icmp_ne 132 dMo_joins_125 (by decide) (fun h125 => ?_) (fun h125 => ?_)
                ·
                  refine pm_iconst (v := 0) dMo_joins_132 (by decide) ?_
                  exact pm_zret dMo_joins_133 rfl (by first | rfl | decide) (ho.trans (by first | (simp only [fMo_joins, if_neg h1_0, if_neg h1_1, if_neg h1_2, if_neg h1_3, if_neg h1_4, if_pos h1_5, if_neg h118, if_neg h125]; done) | (simp only [fMo_joins, if_neg h1_0, if_neg h1_1, if_neg h1_2, if_neg h1_3, if_neg h1_4, if_pos h1_5, if_neg h118, if_neg h125]; rfl) | rfl)) (hz.trans (by first | (simp only [fMo_joins, if_neg h1_0, if_neg h1_1, if_neg h1_2, if_neg h1_3, if_neg h1_4, if_pos h1_5, if_neg h118, if_neg h125]; done) | (simp only [fMo_joins, if_neg h1_0, if_neg h1_1, if_neg h1_2, if_neg h1_3, if_neg h1_4, if_pos h1_5, if_neg h118, if_neg h125]; rfl) | rfl))
                ·
                  refine pm_wk [0, 1] rfl ?_
                  exact Mo_joins_n128 g d K R I J _ _   _ _ ((((((((hp.2 h1_0).2 h1_1).2 h1_2).2 h1_3).2 h1_4).1 h1_5).2 h118).1 h125) (ho.trans (by first | (simp only [fMo_joins, if_neg h1_0, if_neg h1_1, if_neg h1_2, if_neg h1_3, if_neg h1_4, if_pos h1_5, if_neg h118, if_pos h125]; done) | (simp only [fMo_joins, if_neg h1_0, if_neg h1_1, if_neg h1_2, if_neg h1_3, if_neg h1_4, if_pos h1_5, if_neg h118, if_pos h125]; rfl) | rfl)) (hz.trans (by first | (simp only [fMo_joins, if_neg h1_0, if_neg h1_1, if_neg h1_2, if_neg h1_3, if_neg h1_4, if_pos h1_5, if_neg h118, if_pos h125]; done) | (simp only [fMo_joins, if_neg h1_0, if_neg h1_1, if_neg h1_2, if_neg h1_3, if_neg h1_4, if_pos h1_5, if_neg h118, if_pos h125]; rfl) | rfl))
            ·
              by_cases h1_6 : y0 = 6
              ·
                refine pm_tableIn 134 dMo_joins_1 (by rw [h1_6]; decide) (by rw [h1_6]; decide) (by first | (rw [h1_6]; rfl) | rw [h1_6]) (by decide) ?_
                refine pm_iload_n dMo_joins_134 rfl ?_
                refine pm_bipush (v := 60) dMo_joins_135 (by decide) ?_
                refine pm_icmp_eq 160 dMo_joins_137 (by decide) (fun h137 => ?_) (fun h137 => ?_)
                ·
                  refine pm_wk [0, 1] rfl ?_
                  exact Mo_joins_n160 g d K R I J _ _   _ _ ((((((((hp.2 h1_0).2 h1_1).2 h1_2).2 h1_3).2 h1_4).2 h1_5).1 h1_6).1 h137) (ho.trans (by first | (simp only [fMo_joins, if_neg h1_0, if_neg h1_1, if_neg h1_2, if_neg h1_3, if_neg h1_4, if_neg h1_5, if_pos h1_6, if_pos h137]; done) | (simp only [fMo_joins, if_neg h1_0, if_neg h1_1, if_neg h1_2, if_neg h1_3, if_neg h1_4, if_neg h1_5, if_pos h1_6, if_pos h137]; rfl) | rfl)) (hz.trans (by first | (simp only [fMo_joins, if_neg h1_0, if_neg h1_1, if_neg h1_2, if_neg h1_3, if_neg h1_4, if_neg h1_5, if_pos h1_6, if_pos h137]; done) | (simp only [fMo_joins, if_neg h1_0, if_neg h1_1, if_neg h1_2, if_neg h1_3, if_neg h1_4, if_neg h1_5, if_pos h1_6, if_pos h137]; rfl) | rfl))
                ·
                  refine pm_iload_n dMo_joins_140 rfl ?_
                  refine pm_sipush (v := 302) dMo_joins_141 (by decide) ?_
                  refine pm_icmp_eq 160 dMo_joins_144 (by decide) (fun h144 => ?_) (fun h144 => ?_)
                  ·
                    refine pm_wk [0, 1] rfl ?_
                    exact Mo_joins_n160 g d K R I J _ _   _ _ (((((((((hp.2 h1_0).2 h1_1).2 h1_2).2 h1_3).2 h1_4).2 h1_5).1 h1_6).2 h137).1 h144) (ho.trans (by first | (simp only [fMo_joins, if_neg h1_0, if_neg h1_1, if_neg h1_2, if_neg h1_3, if_neg h1_4, if_neg h1_5, if_pos h1_6, if_neg h137, if_pos h144]; done) | (simp only [fMo_joins, if_neg h1_0, if_neg h1_1, if_neg h1_2, if_neg h1_3, if_neg h1_4, if_neg h1_5, if_pos h1_6, if_neg h137, if_pos h144]; rfl) | rfl)) (hz.trans (by first | (simp only [fMo_joins, if_neg h1_0, if_neg h1_1, if_neg h1_2, if_neg h1_3, if_neg h1_4, if_neg h1_5, if_pos h1_6, if_neg h137, if_pos h144]; done) | (simp only [fMo_joins, if_neg h1_0, if_neg h1_1, if_neg h1_2, if_neg h1_3, if_neg h1_4, if_neg h1_5, if_pos h1_6, if_neg h137, if_pos h144]; rfl) | rfl))
                  ·
                    refine pm_iload_n dMo_joins_147 rfl ?_
                    refine pm_bipush (v := 62) dMo_joins_148 (by decide) ?_
                    refine pm_icmp_eq 160 dMo_joins_150 (by decide) (fun h150 => ?_) (fun h150 => ?_)
                    ·
                      refine pm_wk [0, 1] rfl ?_
                      exact Mo_joins_n160 g d K R I J _ _   _ _ ((((((((((hp.2 h1_0).2 h1_1).2 h1_2).2 h1_3).2 h1_4).2 h1_5).1 h1_6).2 h137).2 h144).1 h150) (ho.trans (by first | (simp only [fMo_joins, if_neg h1_0, if_neg h1_1, if_neg h1_2, if_neg h1_3, if_neg h1_4, if_neg h1_5, if_pos h1_6, if_neg h137, if_neg h144, if_pos h150]; done) | (simp only [fMo_joins, if_neg h1_0, if_neg h1_1, if_neg h1_2, if_neg h1_3, if_neg h1_4, if_neg h1_5, if_pos h1_6, if_neg h137, if_neg h144, if_pos h150]; rfl) | rfl)) (hz.trans (by first | (simp only [fMo_joins, if_neg h1_0, if_neg h1_1, if_neg h1_2, if_neg h1_3, if_neg h1_4, if_neg h1_5, if_pos h1_6, if_neg h137, if_neg h144, if_pos h150]; done) | (simp only [fMo_joins, if_neg h1_0, if_neg h1_1, if_neg h1_2, if_neg h1_3, if_neg h1_4, if_neg h1_5, if_pos h1_6, if_neg h137, if_neg h144, if_pos h150]; rfl) | rfl))
                    ·
                      refine pm_iload_n dMo_joins_153 rfl ?_
                      refine pm_sipush (v := 303) dMo_joins_154 (by decide) ?_
                      refine pm_icmp_ne 164 dMo_joins_157 (by decide) (fun h157 => ?_) (fun h157 => ?_)
                      ·
                        refine pm_iconst (v := 0) dMo_joins_164 (by decide) ?_
                        exact pm_zret dMo_joins_165 rfl (by first | rfl | decide) (ho.trans (by first | (simp only [fMo_joins, if_neg h1_0, if_neg h1_1, if_neg h1_2, if_neg h1_3, if_neg h1_4, if_neg h1_5, if_pos h1_6, if_neg h137, if_neg h144, if_neg h150, if_neg h157]; done) | (simp only [fMo_joins, if_neg h1_0, if_neg h1_1, if_neg h1_2, if_neg h1_3, if_neg h1_4, if_neg h1_5, if_pos h1_6, if_neg h137, if_neg h144, if_neg h150, if_neg h157]; rfl) | rfl)) (hz.trans (by first | (simp only [fMo_joins, if_neg h1_0, if_neg h1_1, if_neg h1_2, if_neg h1_3, if_neg h1_4, if_neg h1_5, if_pos h1_6, if_neg h137, if_neg h144, if_neg h150, if_neg h157]; done) | (simp only [fMo_joins, if_neg h1_0, if_neg h1_1, if_neg h1_2, if_neg h1_3, if_neg h1_4, if_neg h1_5, if_pos h1_6, if_neg h137, if_neg h144, if_neg h150, if_neg h157]; rfl) | rfl))
                      ·
                        refine pm_wk [0, 1] rfl ?_
                        exact Mo_joins_n160 g d K R I J _ _   _ _ (((((((((((hp.2 h1_0).2 h1_1).2 h1_2).2 h1_3).2 h1_4).2 h1_5).1 h1_6).2 h137).2 h144).2 h150).1 h157) (ho.trans (by first | (simp only [fMo_joins, if_neg h1_0, if_neg h1_1, if_neg h1_2, if_neg h1_3, if_neg h1_4, if_neg h1_5, if_pos h1_6, if_neg h137, if_neg h144, if_neg h150, if_pos h157]; done) | (simp only [fMo_joins, if_neg h1_0, if_neg h1_1, if_neg h1_2, if_neg h1_3, if_neg h1_4, if_neg h1_5, if_pos h1_6, if_neg h137, if_neg h144, if_neg h150, if_pos h157]; rfl) | rfl)) (hz.trans (by first | (simp only [fMo_joins, if_neg h1_0, if_neg h1_1, if_neg h1_2, if_neg h1_3, if_neg h1_4, if_neg h1_5, if_pos h1_6, if_neg h137, if_neg h144, if_neg h150, if_pos h157]; done) | (simp only [fMo_joins, if_neg h1_0, if_neg h1_1, if_neg h1_2, if_neg h1_3, if_neg h1_4, if_neg h1_5, if_pos h1_6, if_neg h137, if_neg h144, if_neg h150, if_pos h157]; rfl) | rfl))
              ·
                by_cases h1_7 : y0 = 7
                ·
                  refine pm_tableIn 166 dMo_joins_1 (by rw [h1_7]; decide) (by rw [h1_7]; decide) (by first | (rw [h1_7]; rfl) | rw [h1_7]) (by decide) ?_
                  refine pm_iload_n dMo_joins_166 rfl ?_
                  refine pm_sipush (v := 304) dMo_joins_167 (by decide) ?_
                  refine pm_icmp_eq 180 dMo_joins_170 (by decide) (fun h170 => ?_) (fun h170 => ?_)
                  ·
                    refine pm_wk [0, 1] rfl ?_
                    exact Mo_joins_n180 g d K R I J _ _   _ _ (((((((((hp.2 h1_0).2 h1_1).2 h1_2).2 h1_3).2 h1_4).2 h1_5).2 h1_6).1 h1_7).1 h170) (ho.trans (by first | (simp only [fMo_joins, if_neg h1_0, if_neg h1_1, if_neg h1_2, if_neg h1_3, if_neg h1_4, if_neg h1_5, if_neg h1_6, if_pos h1_7, if_pos h170]; done) | (simp only [fMo_joins, if_neg h1_0, if_neg h1_1, if_neg h1_2, if_neg h1_3, if_neg h1_4, if_neg h1_5, if_neg h1_6, if_pos h1_7, if_pos h170]; rfl) | rfl)) (hz.trans (by first | (simp only [fMo_joins, if_neg h1_0, if_neg h1_1, if_neg h1_2, if_neg h1_3, if_neg h1_4, if_neg h1_5, if_neg h1_6, if_pos h1_7, if_pos h170]; done) | (simp only [fMo_joins, if_neg h1_0, if_neg h1_1, if_neg h1_2, if_neg h1_3, if_neg h1_4, if_neg h1_5, if_neg h1_6, if_pos h1_7, if_pos h170]; rfl) | rfl))
                  ·
                    refine pm_iload_n dMo_joins_173 rfl ?_
                    refine pm_sipush (v := 305) dMo_joins_174 (by decide) ?_
                    refine pm_icmp_ne 184 dMo_joins_177 (by decide) (fun h177 => ?_) (fun h177 => ?_)
                    ·
                      refine pm_iconst (v := 0) dMo_joins_184 (by decide) ?_
                      exact pm_zret dMo_joins_185 rfl (by first | rfl | decide) (ho.trans (by first | (simp only [fMo_joins, if_neg h1_0, if_neg h1_1, if_neg h1_2, if_neg h1_3, if_neg h1_4, if_neg h1_5, if_neg h1_6, if_pos h1_7, if_neg h170, if_neg h177]; done) | (simp only [fMo_joins, if_neg h1_0, if_neg h1_1, if_neg h1_2, if_neg h1_3, if_neg h1_4, if_neg h1_5, if_neg h1_6, if_pos h1_7, if_neg h170, if_neg h177]; rfl) | rfl)) (hz.trans (by first | (simp only [fMo_joins, if_neg h1_0, if_neg h1_1, if_neg h1_2, if_neg h1_3, if_neg h1_4, if_neg h1_5, if_neg h1_6, if_pos h1_7, if_neg h170, if_neg h177]; done) | (simp only [fMo_joins, if_neg h1_0, if_neg h1_1, if_neg h1_2, if_neg h1_3, if_neg h1_4, if_neg h1_5, if_neg h1_6, if_pos h1_7, if_neg h170, if_neg h177]; rfl) | rfl))
                    ·
                      refine pm_wk [0, 1] rfl ?_
                      exact Mo_joins_n180 g d K R I J _ _   _ _ ((((((((((hp.2 h1_0).2 h1_1).2 h1_2).2 h1_3).2 h1_4).2 h1_5).2 h1_6).1 h1_7).2 h170).1 h177) (ho.trans (by first | (simp only [fMo_joins, if_neg h1_0, if_neg h1_1, if_neg h1_2, if_neg h1_3, if_neg h1_4, if_neg h1_5, if_neg h1_6, if_pos h1_7, if_neg h170, if_pos h177]; done) | (simp only [fMo_joins, if_neg h1_0, if_neg h1_1, if_neg h1_2, if_neg h1_3, if_neg h1_4, if_neg h1_5, if_neg h1_6, if_pos h1_7, if_neg h170, if_pos h177]; rfl) | rfl)) (hz.trans (by first | (simp only [fMo_joins, if_neg h1_0, if_neg h1_1, if_neg h1_2, if_neg h1_3, if_neg h1_4, if_neg h1_5, if_neg h1_6, if_pos h1_7, if_neg h170, if_pos h177]; done) | (simp only [fMo_joins, if_neg h1_0, if_neg h1_1, if_neg h1_2, if_neg h1_3, if_neg h1_4, if_neg h1_5, if_neg h1_6, if_pos h1_7, if_neg h170, if_pos h177]; rfl) | rfl))
                ·
                  by_cases h1_8 : y0 = 8
                  ·
                    refine pm_tableIn 186 dMo_joins_1 (by rw [h1_8]; decide) (by rw [h1_8]; decide) (by first | (rw [h1_8]; rfl) | rw [h1_8]) (by decide) ?_
                    refine pm_iload_n dMo_joins_186 rfl ?_
                    refine pm_bipush (v := 43) dMo_joins_187 (by decide) ?_
                    refine pm_icmp_eq 198 dMo_joins_189 (by decide) (fun h189 => ?_) (fun h189 => ?_)
                    ·
                      refine pm_wk [0, 1] rfl ?_
                      exact Mo_joins_n198 g d K R I J _ _   _ _ ((((((((((hp.2 h1_0).2 h1_1).2 h1_2).2 h1_3).2 h1_4).2 h1_5).2 h1_6).2 h1_7).1 h1_8).1 h189) (ho.trans (by first | (simp only [fMo_joins, if_neg h1_0, if_neg h1_1, if_neg h1_2, if_neg h1_3, if_neg h1_4, if_neg h1_5, if_neg h1_6, if_neg h1_7, if_pos h1_8, if_pos h189]; done) | (simp only [fMo_joins, if_neg h1_0, if_neg h1_1, if_neg h1_2, if_neg h1_3, if_neg h1_4, if_neg h1_5, if_neg h1_6, if_neg h1_7, if_pos h1_8, if_pos h189]; rfl) | rfl)) (hz.trans (by first | (simp only [fMo_joins, if_neg h1_0, if_neg h1_1, if_neg h1_2, if_neg h1_3, if_neg h1_4, if_neg h1_5, if_neg h1_6, if_neg h1_7, if_pos h1_8, if_pos h189]; done) | (simp only [fMo_joins, if_neg h1_0, if_neg h1_1, if_neg h1_2, if_neg h1_3, if_neg h1_4, if_neg h1_5, if_neg h1_6, if_neg h1_7, if_pos h1_8, if_pos h189]; rfl) | rfl))
                    ·
                      refine pm_iload_n dMo_joins_192 rfl ?_
                      refine pm_bipush (v := 45) dMo_joins_193 (by decide) ?_
                      refine pm_icmp_ne 202 dMo_joins_195 (by decide) (fun h195 => ?_) (fun h195 => ?_)
                      ·
                        refine pm_iconst (v := 0) dMo_joins_202 (by decide) ?_
                        exact pm_zret dMo_joins_203 rfl (by first | rfl | decide) (ho.trans (by first | (simp only [fMo_joins, if_neg h1_0, if_neg h1_1, if_neg h1_2, if_neg h1_3, if_neg h1_4, if_neg h1_5, if_neg h1_6, if_neg h1_7, if_pos h1_8, if_neg h189, if_neg h195]; done) | (simp only [fMo_joins, if_neg h1_0, if_neg h1_1, if_neg h1_2, if_neg h1_3, if_neg h1_4, if_neg h1_5, if_neg h1_6, if_neg h1_7, if_pos h1_8, if_neg h189, if_neg h195]; rfl) | rfl)) (hz.trans (by first | (simp only [fMo_joins, if_neg h1_0, if_neg h1_1, if_neg h1_2, if_neg h1_3, if_neg h1_4, if_neg h1_5, if_neg h1_6, if_neg h1_7, if_pos h1_8, if_neg h189, if_neg h195]; done) | (simp only [fMo_joins, if_neg h1_0, if_neg h1_1, if_neg h1_2, if_neg h1_3, if_neg h1_4, if_neg h1_5, if_neg h1_6, if_neg h1_7, if_pos h1_8, if_neg h189, if_neg h195]; rfl) | rfl))
                      ·
                        refine pm_wk [0, 1] rfl ?_
                        exact Mo_joins_n198 g d K R I J _ _   _ _ (((((((((((hp.2 h1_0).2 h1_1).2 h1_2).2 h1_3).2 h1_4).2 h1_5).2 h1_6).2 h1_7).1 h1_8).2 h189).1 h195) (ho.trans (by first | (simp only [fMo_joins, if_neg h1_0, if_neg h1_1, if_neg h1_2, if_neg h1_3, if_neg h1_4, if_neg h1_5, if_neg h1_6, if_neg h1_7, if_pos h1_8, if_neg h189, if_pos h195]; done) | (simp only [fMo_joins, if_neg h1_0, if_neg h1_1, if_neg h1_2, if_neg h1_3, if_neg h1_4, if_neg h1_5, if_neg h1_6, if_neg h1_7, if_pos h1_8, if_neg h189, if_pos h195]; rfl) | rfl)) (hz.trans (by first | (simp only [fMo_joins, if_neg h1_0, if_neg h1_1, if_neg h1_2, if_neg h1_3, if_neg h1_4, if_neg h1_5, if_neg h1_6, if_neg h1_7, if_pos h1_8, if_neg h189, if_pos h195]; done) | (simp only [fMo_joins, if_neg h1_0, if_neg h1_1, if_neg h1_2, if_neg h1_3, if_neg h1_4, if_neg h1_5, if_neg h1_6, if_neg h1_7, if_pos h1_8, if_neg h189, if_pos h195]; rfl) | rfl))
                  ·
                    refine pm_tableOut 204 dMo_joins_1 (pm_out (fun q9 k1 k2 => by
                      have : q9 = 0 ∨ q9 = 1 ∨ q9 = 2 ∨ q9 = 3 ∨ q9 = 4 ∨ q9 = 5 ∨ q9 = 6 ∨ q9 = 7 ∨ q9 = 8 := by omega
                      rcases this with rfl | rfl | rfl | rfl | rfl | rfl | rfl | rfl | rfl
                      · exact h1_0
                      · exact h1_1
                      · exact h1_2
                      · exact h1_3
                      · exact h1_4
                      · exact h1_5
                      · exact h1_6
                      · exact h1_7
                      · exact h1_8
                      )) (by decide) ?_
                    refine pm_iload_n dMo_joins_204 rfl ?_
                    refine pm_bipush (v := 42) dMo_joins_205 (by decide) ?_
                    refine pm_icmp_ne 214 dMo_joins_207 (by decide) (fun h207 => ?_) (fun h207 => ?_)
                    ·
                      refine pm_iconst (v := 0) dMo_joins_214 (by decide) ?_
                      exact pm_zret dMo_joins_215 rfl (by first | rfl | decide) (ho.trans (by first | (simp only [fMo_joins, if_neg h1_0, if_neg h1_1, if_neg h1_2, if_neg h1_3, if_neg h1_4, if_neg h1_5, if_neg h1_6, if_neg h1_7, if_neg h1_8, if_neg h207]; done) | (simp only [fMo_joins, if_neg h1_0, if_neg h1_1, if_neg h1_2, if_neg h1_3, if_neg h1_4, if_neg h1_5, if_neg h1_6, if_neg h1_7, if_neg h1_8, if_neg h207]; rfl) | rfl)) (hz.trans (by first | (simp only [fMo_joins, if_neg h1_0, if_neg h1_1, if_neg h1_2, if_neg h1_3, if_neg h1_4, if_neg h1_5, if_neg h1_6, if_neg h1_7, if_neg h1_8, if_neg h207]; done) | (simp only [fMo_joins, if_neg h1_0, if_neg h1_1, if_neg h1_2, if_neg h1_3, if_neg h1_4, if_neg h1_5, if_neg h1_6, if_neg h1_7, if_neg h1_8, if_neg h207]; rfl) | rfl))
                    ·
                      refine pm_iconst (v := 1) dMo_joins_210 (by decide) ?_
                      refine pm_goto 215 dMo_joins_211 (by decide) ?_
                      exact pm_zret dMo_joins_215 rfl (by first | rfl | decide) (ho.trans (by first | (simp only [fMo_joins, if_neg h1_0, if_neg h1_1, if_neg h1_2, if_neg h1_3, if_neg h1_4, if_neg h1_5, if_neg h1_6, if_neg h1_7, if_neg h1_8, if_pos h207]; done) | (simp only [fMo_joins, if_neg h1_0, if_neg h1_1, if_neg h1_2, if_neg h1_3, if_neg h1_4, if_neg h1_5, if_neg h1_6, if_neg h1_7, if_neg h1_8, if_pos h207]; rfl) | rfl)) (hz.trans (by first | (simp only [fMo_joins, if_neg h1_0, if_neg h1_1, if_neg h1_2, if_neg h1_3, if_neg h1_4, if_neg h1_5, if_neg h1_6, if_neg h1_7, if_neg h1_8, if_pos h207]; done) | (simp only [fMo_joins, if_neg h1_0, if_neg h1_1, if_neg h1_2, if_neg h1_3, if_neg h1_4, if_neg h1_5, if_neg h1_6, if_neg h1_7, if_neg h1_8, if_pos h207]; rfl) | rfl))
set_option maxHeartbeats 4000000 in
set_option maxRecDepth 100000 in
theorem Mo_joins_ok (g : pmG) (d : Nat) (K : List (Nat × Nat)) (R : Nat → Nat → Value)  (x0 : Int32) (x1 : Int32) (I : Nat → Nat → Int32) (J : Nat → Nat → Int64) (hp : pMo_joins x0 x1) : pmC g kMo_joins d 0 0 [.int x0, .int x1] (K, R, I, J) (.returned (some (.int (fMo_joins x0 x1)))) (K, R, I, J) :=
  pmC.of (by decide) (Nat.le_of_ble_eq_true rfl) (Mo_joins_n0 g d K R I J _ _  x0 x1  hp rfl rfl)
def fMo_price  (y0 : Int32) : Int32 :=
  if (5 : Int32) ≤ y0 then if y0 = (5 : Int32) then (32 : Int32)
    else if y0 = (7 : Int32) then (128 : Int32)
      else if y0 = (9 : Int32) then (900 : Int32)
        else (96 : Int32)
  else (24 : Int32)
def pMo_price  (y0 : Int32) : Prop :=
  ((5 : Int32) ≤ y0 → (y0 = (5 : Int32) → True) ∧
    (¬ (y0 = (5 : Int32)) → (y0 = (7 : Int32) → True) ∧
      (¬ (y0 = (7 : Int32)) → (y0 = (9 : Int32) → True) ∧
        (¬ (y0 = (9 : Int32)) → True)))) ∧
  (¬ ((5 : Int32) ≤ y0) → True)
set_option maxHeartbeats 4000000 in
set_option maxRecDepth 100000 in
theorem Mo_price_n0 (g : pmG) (d : Nat) (K : List (Nat × Nat)) (R : Nat → Nat → Value) (I : Nat → Nat → Int32) (J : Nat → Nat → Int64) (o : Outcome) (Z : pmM)  (y0 : Int32) (hp : pMo_price y0) (ho : o = .returned (some (.int (fMo_price y0)))) (hz : Z = (K, R, I, J)) : pmE g kMo_price d 0 0 0 [(0, .int y0)] [] (K) R I J o Z := by
  unfold pMo_price at hp
  refine pm_iload_n dMo_price_0 rfl ?_
  refine pm_iconst (v := 5) dMo_price_1 (by decide) ?_
  refine pm_icmp_ge 10 dMo_price_2 (by decide) (fun h2 => ?_) (fun h2 => ?_)
  ·
    refine pm_iload_n dMo_price_10 rfl ?_
    refine pm_iconst (v := 5) dMo_price_11 (by decide) ?_
    refine pm_icmp_ne 20 dMo_price_12 (by decide) (fun h12 => ?_) (fun h12 => ?_)
    ·
      refine pm_iload_n dMo_price_20 rfl ?_
      refine pm_bipush (v := 7) dMo_price_21 (by decide) ?_
      refine pm_icmp_ne 32 dMo_price_23 (by decide) (fun h23 => ?_) (fun h23 => ?_)
      ·
        refine pm_iload_n dMo_price_32 rfl ?_
        refine pm_bipush (v := 9) dMo_price_33 (by decide) ?_
        refine pm_icmp_ne 44 dMo_price_35 (by decide) (fun h35 => ?_) (fun h35 => ?_)
        ·
          refine pm_bipush (v := 96) dMo_price_44 (by decide) ?_
          exact pm_iret dMo_price_46 rfl (ho.trans (by first | (simp only [fMo_price, if_pos h2, if_neg h12, if_neg h23, if_neg h35]; done) | (simp only [fMo_price, if_pos h2, if_neg h12, if_neg h23, if_neg h35]; rfl) | rfl)) (hz.trans (by first | (simp only [fMo_price, if_pos h2, if_neg h12, if_neg h23, if_neg h35]; done) | (simp only [fMo_price, if_pos h2, if_neg h12, if_neg h23, if_neg h35]; rfl) | rfl))
        ·
          refine pm_sipush (v := 900) dMo_price_38 (by decide) ?_
          refine pm_goto 46 dMo_price_41 (by decide) ?_
          exact pm_iret dMo_price_46 rfl (ho.trans (by first | (simp only [fMo_price, if_pos h2, if_neg h12, if_neg h23, if_pos h35]; done) | (simp only [fMo_price, if_pos h2, if_neg h12, if_neg h23, if_pos h35]; rfl) | rfl)) (hz.trans (by first | (simp only [fMo_price, if_pos h2, if_neg h12, if_neg h23, if_pos h35]; done) | (simp only [fMo_price, if_pos h2, if_neg h12, if_neg h23, if_pos h35]; rfl) | rfl))
      ·
        refine pm_sipush (v := 128) dMo_price_26 (by decide) ?_
        refine pm_goto 46 dMo_price_29 (by decide) ?_
        exact pm_iret dMo_price_46 rfl (ho.trans (by first | (simp only [fMo_price, if_pos h2, if_neg h12, if_pos h23]; done) | (simp only [fMo_price, if_pos h2, if_neg h12, if_pos h23]; rfl) | rfl)) (hz.trans (by first | (simp only [fMo_price, if_pos h2, if_neg h12, if_pos h23]; done) | (simp only [fMo_price, if_pos h2, if_neg h12, if_pos h23]; rfl) | rfl))
    ·
      refine pm_bipush (v := 32) dMo_price_15 (by decide) ?_
      refine pm_goto 46 dMo_price_17 (by decide) ?_
      exact pm_iret dMo_price_46 rfl (ho.trans (by first | (simp only [fMo_price, if_pos h2, if_pos h12]; done) | (simp only [fMo_price, if_pos h2, if_pos h12]; rfl) | rfl)) (hz.trans (by first | (simp only [fMo_price, if_pos h2, if_pos h12]; done) | (simp only [fMo_price, if_pos h2, if_pos h12]; rfl) | rfl))
  ·
    refine pm_bipush (v := 24) dMo_price_5 (by decide) ?_
    refine pm_goto 46 dMo_price_7 (by decide) ?_
    exact pm_iret dMo_price_46 rfl (ho.trans (by first | (simp only [fMo_price, if_neg h2]; done) | (simp only [fMo_price, if_neg h2]; rfl) | rfl)) (hz.trans (by first | (simp only [fMo_price, if_neg h2]; done) | (simp only [fMo_price, if_neg h2]; rfl) | rfl))
set_option maxHeartbeats 4000000 in
set_option maxRecDepth 100000 in
theorem Mo_price_ok (g : pmG) (d : Nat) (K : List (Nat × Nat)) (R : Nat → Nat → Value)  (x0 : Int32) (I : Nat → Nat → Int32) (J : Nat → Nat → Int64) (hp : pMo_price x0) : pmC g kMo_price d 0 0 [.int x0] (K, R, I, J) (.returned (some (.int (fMo_price x0)))) (K, R, I, J) :=
  pmC.of (by decide) (Nat.le_of_ble_eq_true rfl) (Mo_price_n0 g d K R I J _ _  x0  hp rfl rfl)
def fMo_joined_140  (y0 : Int32) (y1 : Int32) (y2 : Int32) : Int32 :=
  (1 : Int32)
def pMo_joined_140  (y0 : Int32) (y1 : Int32) (y2 : Int32) : Prop :=
  True
def fMo_joined_158  (y0 : Int32) (y1 : Int32) (y2 : Int32) : Int32 :=
  (0 : Int32)
def pMo_joined_158  (y0 : Int32) (y1 : Int32) (y2 : Int32) : Prop :=
  True
def fMo_joined  (y0 : Int32) (y1 : Int32) (y2 : Int32) : Int32 :=
  if y0 = 38 then y1 &&& y2
  else if y0 = 43 then (y1 + y2) &&& (255 : Int32)
  else if y0 = 45 then (y1 - y2) &&& (255 : Int32)
  else if y0 = 60 then if y2 ≤ y1 then (0 : Int32)
    else (1 : Int32)
  else if y0 = 62 then if y1 ≤ y2 then (0 : Int32)
    else (1 : Int32)
  else if y0 = 94 then y1 ^^^ y2
  else if y0 = 124 then y1 ||| y2
  else if y0 = 300 then if y1 = y2 then (1 : Int32)
    else (0 : Int32)
  else if y0 = 301 then if y1 = y2 then (0 : Int32)
    else (1 : Int32)
  else if y0 = 302 then if y2 < y1 then (0 : Int32)
    else (1 : Int32)
  else if y0 = 303 then if y1 < y2 then (0 : Int32)
    else (1 : Int32)
  else if y0 = 304 then if y2 < (8 : Int32) then (y1 <<< (y2 &&& 31)) &&& (255 : Int32)
    else (0 : Int32)
  else if y0 = 305 then if y2 < (8 : Int32) then y1 >>> (y2 &&& 31)
    else (0 : Int32)
  else if y0 = 306 then if y1 = 0 then fMo_joined_158 y0 y1 y2
    else if y2 = 0 then fMo_joined_158 y0 y1 y2
      else (1 : Int32)
  else if y0 = 307 then if y1 = 0 then if y2 = 0 then (0 : Int32)
      else fMo_joined_140 y0 y1 y2
    else fMo_joined_140 y0 y1 y2
  else (y1 * y2) &&& (255 : Int32)
def pMo_joined  (y0 : Int32) (y1 : Int32) (y2 : Int32) : Prop :=
  (y0 = 38 → True) ∧
  (¬ (y0 = 38) → (y0 = 43 → True) ∧
  (¬ (y0 = 43) → (y0 = 45 → True) ∧
  (¬ (y0 = 45) → (y0 = 60 → (y2 ≤ y1 → True) ∧
    (¬ (y2 ≤ y1) → True)) ∧
  (¬ (y0 = 60) → (y0 = 62 → (y1 ≤ y2 → True) ∧
    (¬ (y1 ≤ y2) → True)) ∧
  (¬ (y0 = 62) → (y0 = 94 → True) ∧
  (¬ (y0 = 94) → (y0 = 124 → True) ∧
  (¬ (y0 = 124) → (y0 = 300 → (y1 = y2 → True) ∧
    (¬ (y1 = y2) → True)) ∧
  (¬ (y0 = 300) → (y0 = 301 → (y1 = y2 → True) ∧
    (¬ (y1 = y2) → True)) ∧
  (¬ (y0 = 301) → (y0 = 302 → (y2 < y1 → True) ∧
    (¬ (y2 < y1) → True)) ∧
  (¬ (y0 = 302) → (y0 = 303 → (y1 < y2 → True) ∧
    (¬ (y1 < y2) → True)) ∧
  (¬ (y0 = 303) → (y0 = 304 → (y2 < (8 : Int32) → True) ∧
    (¬ (y2 < (8 : Int32)) → True)) ∧
  (¬ (y0 = 304) → (y0 = 305 → (y2 < (8 : Int32) → True) ∧
    (¬ (y2 < (8 : Int32)) → True)) ∧
  (¬ (y0 = 305) → (y0 = 306 → (y1 = 0 → pMo_joined_158 y0 y1 y2) ∧
    (¬ (y1 = 0) → (y2 = 0 → pMo_joined_158 y0 y1 y2) ∧
      (¬ (y2 = 0) → True))) ∧
  (¬ (y0 = 306) → (y0 = 307 → (y1 = 0 → (y2 = 0 → True) ∧
      (¬ (y2 = 0) → pMo_joined_140 y0 y1 y2)) ∧
    (¬ (y1 = 0) → pMo_joined_140 y0 y1 y2)) ∧
  (¬ (y0 = 307) → True)))))))))))))))
set_option maxHeartbeats 4000000 in
set_option maxRecDepth 100000 in
theorem Mo_joined_n140 (g : pmG) (d : Nat) (K : List (Nat × Nat)) (R : Nat → Nat → Value) (I : Nat → Nat → Int32) (J : Nat → Nat → Int64) (o : Outcome) (Z : pmM)  (y0 : Int32) (y1 : Int32) (y2 : Int32) (hp : pMo_joined_140 y0 y1 y2) (ho : o = .returned (some (.int (fMo_joined_140 y0 y1 y2)))) (hz : Z = (K, R, I, J)) : pmE g kMo_joined d 0 0 140 [(0, .int y0), (1, .int y1), (2, .int y2)] [] (K) R I J o Z := by
  unfold pMo_joined_140 at hp
  refine pm_iconst (v := 1) dMo_joined_140 (by decide) ?_
  refine pm_goto 145 dMo_joined_141 (by decide) ?_
  exact pm_iret dMo_joined_145 rfl (ho.trans (by first | rfl | (simp only [fMo_joined_140]; done) | (simp only [fMo_joined_140]; rfl))) (hz.trans (by first | rfl | (simp only [fMo_joined_140]; done) | (simp only [fMo_joined_140]; rfl)))
set_option maxHeartbeats 4000000 in
set_option maxRecDepth 100000 in
theorem Mo_joined_n158 (g : pmG) (d : Nat) (K : List (Nat × Nat)) (R : Nat → Nat → Value) (I : Nat → Nat → Int32) (J : Nat → Nat → Int64) (o : Outcome) (Z : pmM)  (y0 : Int32) (y1 : Int32) (y2 : Int32) (hp : pMo_joined_158 y0 y1 y2) (ho : o = .returned (some (.int (fMo_joined_158 y0 y1 y2)))) (hz : Z = (K, R, I, J)) : pmE g kMo_joined d 0 0 158 [(0, .int y0), (1, .int y1), (2, .int y2)] [] (K) R I J o Z := by
  unfold pMo_joined_158 at hp
  refine pm_iconst (v := 0) dMo_joined_158 (by decide) ?_
  exact pm_iret dMo_joined_159 rfl (ho.trans (by first | rfl | (simp only [fMo_joined_158]; done) | (simp only [fMo_joined_158]; rfl))) (hz.trans (by first | rfl | (simp only [fMo_joined_158]; done) | (simp only [fMo_joined_158]; rfl)))
set_option maxHeartbeats 4000000 in
set_option maxRecDepth 100000 in
theorem Mo_joined_n0 (g : pmG) (d : Nat) (K : List (Nat × Nat)) (R : Nat → Nat → Value) (I : Nat → Nat → Int32) (J : Nat → Nat → Int64) (o : Outcome) (Z : pmM)  (y0 : Int32) (y1 : Int32) (y2 : Int32) (hp : pMo_joined y0 y1 y2) (ho : o = .returned (some (.int (fMo_joined y0 y1 y2)))) (hz : Z = (K, R, I, J)) : pmE g kMo_joined d 0 0 0 [(0, .int y0), (1, .int y1), (2, .int y2)] [] (K) R I J o Z := by
  unfold pMo_joined at hp
  refine pm_iload_n dMo_joined_0 rfl ?_
  by_cases h1_38 : y0 = 38
  ·
    refine pm_lookup 168 dMo_joined_1 (by decide) (by first | (rw [h1_38]; rfl) | rw [h1_38]) (by decide) ?_
    refine pm_iload_n dMo_joined_168 rfl ?_
    refine pm_iload_n dMo_joined_169 rfl ?_
    refine pm_iand dMo_joined_170 ?_
    exact pm_iret dMo_joined_171 rfl (ho.trans (by first | (simp only [fMo_joined, if_pos h1_38]; done) | (simp only [fMo_joined, if_pos h1_38]; rfl) | rfl)) (hz.trans (by first | (simp only [fMo_joined, if_pos h1_38]; done) | (simp only [fMo_joined, if_pos h1_38]; rfl) | rfl))
  ·
    by_cases h1_43 : y0 = 43
    ·
      refine pm_lookup 270 dMo_joined_1 (by decide) (by first | (rw [h1_43]; rfl) | rw [h1_43]) (by decide) ?_
      refine pm_iload_n dMo_joined_270 rfl ?_
      refine pm_iload_n dMo_joined_271 rfl ?_
      refine pm_iadd dMo_joined_272 ?_
      refine pm_sipush (v := 255) dMo_joined_273 (by decide) ?_
      refine pm_iand dMo_joined_276 ?_
      exact pm_iret dMo_joined_277 rfl (ho.trans (by first | (simp only [fMo_joined, if_neg h1_38, if_pos h1_43]; done) | (simp only [fMo_joined, if_neg h1_38, if_pos h1_43]; rfl) | rfl)) (hz.trans (by first | (simp only [fMo_joined, if_neg h1_38, if_pos h1_43]; done) | (simp only [fMo_joined, if_neg h1_38, if_pos h1_43]; rfl) | rfl))
    ·
      by_cases h1_45 : y0 = 45
      ·
        refine pm_lookup 278 dMo_joined_1 (by decide) (by first | (rw [h1_45]; rfl) | rw [h1_45]) (by decide) ?_
        refine pm_iload_n dMo_joined_278 rfl ?_
        refine pm_iload_n dMo_joined_279 rfl ?_
        refine pm_isub dMo_joined_280 ?_
        refine pm_sipush (v := 255) dMo_joined_281 (by decide) ?_
        refine pm_iand dMo_joined_284 ?_
        exact pm_iret dMo_joined_285 rfl (ho.trans (by first | (simp only [fMo_joined, if_neg h1_38, if_neg h1_43, if_pos h1_45]; done) | (simp only [fMo_joined, if_neg h1_38, if_neg h1_43, if_pos h1_45]; rfl) | rfl)) (hz.trans (by first | (simp only [fMo_joined, if_neg h1_38, if_neg h1_43, if_pos h1_45]; done) | (simp only [fMo_joined, if_neg h1_38, if_neg h1_43, if_pos h1_45]; rfl) | rfl))
      ·
        by_cases h1_60 : y0 = 60
        ·
          refine pm_lookup 194 dMo_joined_1 (by decide) (by first | (rw [h1_60]; rfl) | rw [h1_60]) (by decide) ?_
          refine pm_iload_n dMo_joined_194 rfl ?_
          refine pm_iload_n dMo_joined_195 rfl ?_
          refine pm_icmp_ge 203 dMo_joined_196 (by decide) (fun h196 => ?_) (fun h196 => ?_)
          ·
            refine pm_iconst (v := 0) dMo_joined_203 (by decide) ?_
            exact pm_iret dMo_joined_204 rfl (ho.trans (by first | (simp only [fMo_joined, if_neg h1_38, if_neg h1_43, if_neg h1_45, if_pos h1_60, if_pos h196]; done) | (simp only [fMo_joined, if_neg h1_38, if_neg h1_43, if_neg h1_45, if_pos h1_60, if_pos h196]; rfl) | rfl)) (hz.trans (by first | (simp only [fMo_joined, if_neg h1_38, if_neg h1_43, if_neg h1_45, if_pos h1_60, if_pos h196]; done) | (simp only [fMo_joined, if_neg h1_38, if_neg h1_43, if_neg h1_45, if_pos h1_60, if_pos h196]; rfl) | rfl))
          ·
            refine pm_iconst (v := 1) dMo_joined_199 (by decide) ?_
            refine pm_goto 204 dMo_joined_200 (by decide) ?_
            exact pm_iret dMo_joined_204 rfl (ho.trans (by first | (simp only [fMo_joined, if_neg h1_38, if_neg h1_43, if_neg h1_45, if_pos h1_60, if_neg h196]; done) | (simp only [fMo_joined, if_neg h1_38, if_neg h1_43, if_neg h1_45, if_pos h1_60, if_neg h196]; rfl) | rfl)) (hz.trans (by first | (simp only [fMo_joined, if_neg h1_38, if_neg h1_43, if_neg h1_45, if_pos h1_60, if_neg h196]; done) | (simp only [fMo_joined, if_neg h1_38, if_neg h1_43, if_neg h1_45, if_pos h1_60, if_neg h196]; rfl) | rfl))
        ·
          by_cases h1_62 : y0 = 62
          ·
            refine pm_lookup 216 dMo_joined_1 (by decide) (by first | (rw [h1_62]; rfl) | rw [h1_62]) (by decide) ?_
            refine pm_iload_n dMo_joined_216 rfl ?_
            refine pm_iload_n dMo_joined_217 rfl ?_
            refine pm_icmp_le 225 dMo_joined_218 (by decide) (fun h218 => ?_) (fun h218 => ?_)
            ·
              refine pm_iconst (v := 0) dMo_joined_225 (by decide) ?_
              exact pm_iret dMo_joined_226 rfl (ho.trans (by first | (simp only [fMo_joined, if_neg h1_38, if_neg h1_43, if_neg h1_45, if_neg h1_60, if_pos h1_62, if_pos h218]; done) | (simp only [fMo_joined, if_neg h1_38, if_neg h1_43, if_neg h1_45, if_neg h1_60, if_pos h1_62, if_pos h218]; rfl) | rfl)) (hz.trans (by first | (simp only [fMo_joined, if_neg h1_38, if_neg h1_43, if_neg h1_45, if_neg h1_60, if_pos h1_62, if_pos h218]; done) | (simp only [fMo_joined, if_neg h1_38, if_neg h1_43, if_neg h1_45, if_neg h1_60, if_pos h1_62, if_pos h218]; rfl) | rfl))
            ·
              refine pm_iconst (v := 1) dMo_joined_221 (by decide) ?_
              refine pm_goto 226 dMo_joined_222 (by decide) ?_
              exact pm_iret dMo_joined_226 rfl (ho.trans (by first | (simp only [fMo_joined, if_neg h1_38, if_neg h1_43, if_neg h1_45, if_neg h1_60, if_pos h1_62, if_neg h218]; done) | (simp only [fMo_joined, if_neg h1_38, if_neg h1_43, if_neg h1_45, if_neg h1_60, if_pos h1_62, if_neg h218]; rfl) | rfl)) (hz.trans (by first | (simp only [fMo_joined, if_neg h1_38, if_neg h1_43, if_neg h1_45, if_neg h1_60, if_pos h1_62, if_neg h218]; done) | (simp only [fMo_joined, if_neg h1_38, if_neg h1_43, if_neg h1_45, if_neg h1_60, if_pos h1_62, if_neg h218]; rfl) | rfl))
          ·
            by_cases h1_94 : y0 = 94
            ·
              refine pm_lookup 164 dMo_joined_1 (by decide) (by first | (rw [h1_94]; rfl) | rw [h1_94]) (by decide) ?_
              refine pm_iload_n dMo_joined_164 rfl ?_
              refine pm_iload_n dMo_joined_165 rfl ?_
              refine pm_ixor dMo_joined_166 ?_
              exact pm_iret dMo_joined_167 rfl (ho.trans (by first | (simp only [fMo_joined, if_neg h1_38, if_neg h1_43, if_neg h1_45, if_neg h1_60, if_neg h1_62, if_pos h1_94]; done) | (simp only [fMo_joined, if_neg h1_38, if_neg h1_43, if_neg h1_45, if_neg h1_60, if_neg h1_62, if_pos h1_94]; rfl) | rfl)) (hz.trans (by first | (simp only [fMo_joined, if_neg h1_38, if_neg h1_43, if_neg h1_45, if_neg h1_60, if_neg h1_62, if_pos h1_94]; done) | (simp only [fMo_joined, if_neg h1_38, if_neg h1_43, if_neg h1_45, if_neg h1_60, if_neg h1_62, if_pos h1_94]; rfl) | rfl))
            ·
              by_cases h1_124 : y0 = 124
              ·
                refine pm_lookup 160 dMo_joined_1 (by decide) (by first | (rw [h1_124]; rfl) | rw [h1_124]) (by decide) ?_
                refine pm_iload_n dMo_joined_160 rfl ?_
                refine pm_iload_n dMo_joined_161 rfl ?_
                refine pm_ior dMo_joined_162 ?_
                exact pm_iret dMo_joined_163 rfl (ho.trans (by first | (simp only [fMo_joined, if_neg h1_38, if_neg h1_43, if_neg h1_45, if_neg h1_60, if_neg h1_62, if_neg h1_94, if_pos h1_124]; done) | (simp only [fMo_joined, if_neg h1_38, if_neg h1_43, if_neg h1_45, if_neg h1_60, if_neg h1_62, if_neg h1_94, if_pos h1_124]; rfl) | rfl)) (hz.trans (by first | (simp only [fMo_joined, if_neg h1_38, if_neg h1_43, if_neg h1_45, if_neg h1_60, if_neg h1_62, if_neg h1_94, if_pos h1_124]; done) | (simp only [fMo_joined, if_neg h1_38, if_neg h1_43, if_neg h1_45, if_neg h1_60, if_neg h1_62, if_neg h1_94, if_pos h1_124]; rfl) | rfl))
              ·
                by_cases h1_300 : y0 = 300
                ·
                  refine pm_lookup 172 dMo_joined_1 (by decide) (by first | (rw [h1_300]; rfl) | rw [h1_300]) (by decide) ?_
                  refine pm_iload_n dMo_joined_172 rfl ?_
                  refine pm_iload_n dMo_joined_173 rfl ?_
                  refine pm_icmp_ne 181 dMo_joined_174 (by decide) (fun h174 => ?_) (fun h174 => ?_)
                  ·
                    refine pm_iconst (v := 0) dMo_joined_181 (by decide) ?_
                    exact pm_iret dMo_joined_182 rfl (ho.trans (by first | (simp only [fMo_joined, if_neg h1_38, if_neg h1_43, if_neg h1_45, if_neg h1_60, if_neg h1_62, if_neg h1_94, if_neg h1_124, if_pos h1_300, if_neg h174]; done) | (simp only [fMo_joined, if_neg h1_38, if_neg h1_43, if_neg h1_45, if_neg h1_60, if_neg h1_62, if_neg h1_94, if_neg h1_124, if_pos h1_300, if_neg h174]; rfl) | rfl)) (hz.trans (by first | (simp only [fMo_joined, if_neg h1_38, if_neg h1_43, if_neg h1_45, if_neg h1_60, if_neg h1_62, if_neg h1_94, if_neg h1_124, if_pos h1_300, if_neg h174]; done) | (simp only [fMo_joined, if_neg h1_38, if_neg h1_43, if_neg h1_45, if_neg h1_60, if_neg h1_62, if_neg h1_94, if_neg h1_124, if_pos h1_300, if_neg h174]; rfl) | rfl))
                  ·
                    refine pm_iconst (v := 1) dMo_joined_177 (by decide) ?_
                    refine pm_goto 182 dMo_joined_178 (by decide) ?_
                    exact pm_iret dMo_joined_182 rfl (ho.trans (by first | (simp only [fMo_joined, if_neg h1_38, if_neg h1_43, if_neg h1_45, if_neg h1_60, if_neg h1_62, if_neg h1_94, if_neg h1_124, if_pos h1_300, if_pos h174]; done) | (simp only [fMo_joined, if_neg h1_38, if_neg h1_43, if_neg h1_45, if_neg h1_60, if_neg h1_62, if_neg h1_94, if_neg h1_124, if_pos h1_300, if_pos h174]; rfl) | rfl)) (hz.trans (by first | (simp only [fMo_joined, if_neg h1_38, if_neg h1_43, if_neg h1_45, if_neg h1_60, if_neg h1_62, if_neg h1_94, if_neg h1_124, if_pos h1_300, if_pos h174]; done) | (simp only [fMo_joined, if_neg h1_38, if_neg h1_43, if_neg h1_45, if_neg h1_60, if_neg h1_62, if_neg h1_94, if_neg h1_124, if_pos h1_300, if_pos h174]; rfl) | rfl))
                ·
                  by_cases h1_301 : y0 = 301
                  ·
                    refine pm_lookup 183 dMo_joined_1 (by decide) (by first | (rw [h1_301]; rfl) | rw [h1_301]) (by decide) ?_
                    refine pm_iload_n dMo_joined_183 rfl ?_
                    refine pm_iload_n dMo_joined_184 rfl ?_
                    refine pm_icmp_eq 192 dMo_joined_185 (by decide) (fun h185 => ?_) (fun h185 => ?_)
                    ·
                      refine pm_iconst (v := 0) dMo_joined_192 (by decide) ?_
                      exact pm_iret dMo_joined_193 rfl (ho.trans (by first | (simp only [fMo_joined, if_neg h1_38, if_neg h1_43, if_neg h1_45, if_neg h1_60, if_neg h1_62, if_neg h1_94, if_neg h1_124, if_neg h1_300, if_pos h1_301, if_pos h185]; done) | (simp only [fMo_joined, if_neg h1_38, if_neg h1_43, if_neg h1_45, if_neg h1_60, if_neg h1_62, if_neg h1_94, if_neg h1_124, if_neg h1_300, if_pos h1_301, if_pos h185]; rfl) | rfl)) (hz.trans (by first | (simp only [fMo_joined, if_neg h1_38, if_neg h1_43, if_neg h1_45, if_neg h1_60, if_neg h1_62, if_neg h1_94, if_neg h1_124, if_neg h1_300, if_pos h1_301, if_pos h185]; done) | (simp only [fMo_joined, if_neg h1_38, if_neg h1_43, if_neg h1_45, if_neg h1_60, if_neg h1_62, if_neg h1_94, if_neg h1_124, if_neg h1_300, if_pos h1_301, if_pos h185]; rfl) | rfl))
                    ·
                      refine pm_iconst (v := 1) dMo_joined_188 (by decide) ?_
                      refine pm_goto 193 dMo_joined_189 (by decide) ?_
                      exact pm_iret dMo_joined_193 rfl (ho.trans (by first | (simp only [fMo_joined, if_neg h1_38, if_neg h1_43, if_neg h1_45, if_neg h1_60, if_neg h1_62, if_neg h1_94, if_neg h1_124, if_neg h1_300, if_pos h1_301, if_neg h185]; done) | (simp only [fMo_joined, if_neg h1_38, if_neg h1_43, if_neg h1_45, if_neg h1_60, if_neg h1_62, if_neg h1_94, if_neg h1_124, if_neg h1_300, if_pos h1_301, if_neg h185]; rfl) | rfl)) (hz.trans (by first | (simp only [fMo_joined, if_neg h1_38, if_neg h1_43, if_neg h1_45, if_neg h1_60, if_neg h1_62, if_neg h1_94, if_neg h1_124, if_neg h1_300, if_pos h1_301, if_neg h185]; done) | (simp only [fMo_joined, if_neg h1_38, if_neg h1_43, if_neg h1_45, if_neg h1_60, if_neg h1_62, if_neg h1_94, if_neg h1_124, if_neg h1_300, if_pos h1_301, if_neg h185]; rfl) | rfl))
                  ·
                    by_cases h1_302 : y0 = 302
                    ·
                      refine pm_lookup 205 dMo_joined_1 (by decide) (by first | (rw [h1_302]; rfl) | rw [h1_302]) (by decide) ?_
                      refine pm_iload_n dMo_joined_205 rfl ?_
                      refine pm_iload_n dMo_joined_206 rfl ?_
                      refine pm_icmp_gt 214 dMo_joined_207 (by decide) (fun h207 => ?_) (fun h207 => ?_)
                      ·
                        refine pm_iconst (v := 0) dMo_joined_214 (by decide) ?_
                        exact pm_iret dMo_joined_215 rfl (ho.trans (by first | (simp only [fMo_joined, if_neg h1_38, if_neg h1_43, if_neg h1_45, if_neg h1_60, if_neg h1_62, if_neg h1_94, if_neg h1_124, if_neg h1_300, if_neg h1_301, if_pos h1_302, if_pos h207]; done) | (simp only [fMo_joined, if_neg h1_38, if_neg h1_43, if_neg h1_45, if_neg h1_60, if_neg h1_62, if_neg h1_94, if_neg h1_124, if_neg h1_300, if_neg h1_301, if_pos h1_302, if_pos h207]; rfl) | rfl)) (hz.trans (by first | (simp only [fMo_joined, if_neg h1_38, if_neg h1_43, if_neg h1_45, if_neg h1_60, if_neg h1_62, if_neg h1_94, if_neg h1_124, if_neg h1_300, if_neg h1_301, if_pos h1_302, if_pos h207]; done) | (simp only [fMo_joined, if_neg h1_38, if_neg h1_43, if_neg h1_45, if_neg h1_60, if_neg h1_62, if_neg h1_94, if_neg h1_124, if_neg h1_300, if_neg h1_301, if_pos h1_302, if_pos h207]; rfl) | rfl))
                      ·
                        refine pm_iconst (v := 1) dMo_joined_210 (by decide) ?_
                        refine pm_goto 215 dMo_joined_211 (by decide) ?_
                        exact pm_iret dMo_joined_215 rfl (ho.trans (by first | (simp only [fMo_joined, if_neg h1_38, if_neg h1_43, if_neg h1_45, if_neg h1_60, if_neg h1_62, if_neg h1_94, if_neg h1_124, if_neg h1_300, if_neg h1_301, if_pos h1_302, if_neg h207]; done) | (simp only [fMo_joined, if_neg h1_38, if_neg h1_43, if_neg h1_45, if_neg h1_60, if_neg h1_62, if_neg h1_94, if_neg h1_124, if_neg h1_300, if_neg h1_301, if_pos h1_302, if_neg h207]; rfl) | rfl)) (hz.trans (by first | (simp only [fMo_joined, if_neg h1_38, if_neg h1_43, if_neg h1_45, if_neg h1_60, if_neg h1_62, if_neg h1_94, if_neg h1_124, if_neg h1_300, if_neg h1_301, if_pos h1_302, if_neg h207]; done) | (simp only [fMo_joined, if_neg h1_38, if_neg h1_43, if_neg h1_45, if_neg h1_60, if_neg h1_62, if_neg h1_94, if_neg h1_124, if_neg h1_300, if_neg h1_301, if_pos h1_302, if_neg h207]; rfl) | rfl))
                    ·
                      by_cases h1_303 : y0 = 303
                      ·
                        refine pm_lookup 227 dMo_joined_1 (by decide) (by first | (rw [h1_303]; rfl) | rw [h1_303]) (by decide) ?_
                        refine pm_iload_n dMo_joined_227 rfl ?_
                        refine pm_iload_n dMo_joined_228 rfl ?_
                        refine pm_icmp_lt 236 dMo_joined_229 (by decide) (fun h229 => ?_) (fun h229 => ?_)
                        ·
                          refine pm_iconst (v := 0) dMo_joined_236 (by decide) ?_
                          exact pm_iret dMo_joined_237 rfl (ho.trans (by first | (simp only [fMo_joined, if_neg h1_38, if_neg h1_43, if_neg h1_45, if_neg h1_60, if_neg h1_62, if_neg h1_94, if_neg h1_124, if_neg h1_300, if_neg h1_301, if_neg h1_302, if_pos h1_303, if_pos h229]; done) | (simp only [fMo_joined, if_neg h1_38, if_neg h1_43, if_neg h1_45, if_neg h1_60, if_neg h1_62, if_neg h1_94, if_neg h1_124, if_neg h1_300, if_neg h1_301, if_neg h1_302, if_pos h1_303, if_pos h229]; rfl) | rfl)) (hz.trans (by first | (simp only [fMo_joined, if_neg h1_38, if_neg h1_43, if_neg h1_45, if_neg h1_60, if_neg h1_62, if_neg h1_94, if_neg h1_124, if_neg h1_300, if_neg h1_301, if_neg h1_302, if_pos h1_303, if_pos h229]; done) | (simp only [fMo_joined, if_neg h1_38, if_neg h1_43, if_neg h1_45, if_neg h1_60, if_neg h1_62, if_neg h1_94, if_neg h1_124, if_neg h1_300, if_neg h1_301, if_neg h1_302, if_pos h1_303, if_pos h229]; rfl) | rfl))
                        ·
                          refine pm_iconst (v := 1) dMo_joined_232 (by decide) ?_
                          refine pm_goto 237 dMo_joined_233 (by decide) ?_
                          exact pm_iret dMo_joined_237 rfl (ho.trans (by first | (simp only [fMo_joined, if_neg h1_38, if_neg h1_43, if_neg h1_45, if_neg h1_60, if_neg h1_62, if_neg h1_94, if_neg h1_124, if_neg h1_300, if_neg h1_301, if_neg h1_302, if_pos h1_303, if_neg h229]; done) | (simp only [fMo_joined, if_neg h1_38, if_neg h1_43, if_neg h1_45, if_neg h1_60, if_neg h1_62, if_neg h1_94, if_neg h1_124, if_neg h1_300, if_neg h1_301, if_neg h1_302, if_pos h1_303, if_neg h229]; rfl) | rfl)) (hz.trans (by first | (simp only [fMo_joined, if_neg h1_38, if_neg h1_43, if_neg h1_45, if_neg h1_60, if_neg h1_62, if_neg h1_94, if_neg h1_124, if_neg h1_300, if_neg h1_301, if_neg h1_302, if_pos h1_303, if_neg h229]; done) | (simp only [fMo_joined, if_neg h1_38, if_neg h1_43, if_neg h1_45, if_neg h1_60, if_neg h1_62, if_neg h1_94, if_neg h1_124, if_neg h1_300, if_neg h1_301, if_neg h1_302, if_pos h1_303, if_neg h229]; rfl) | rfl))
                      ·
                        by_cases h1_304 : y0 = 304
                        ·
                          refine pm_lookup 238 dMo_joined_1 (by decide) (by first | (rw [h1_304]; rfl) | rw [h1_304]) (by decide) ?_
                          refine pm_iload_n dMo_joined_238 rfl ?_
                          refine pm_bipush (v := 8) dMo_joined_239 (by decide) ?_
                          refine pm_icmp_lt 248 dMo_joined_241 (by decide) (fun h241 => ?_) (fun h241 => ?_)
                          ·
                            refine pm_iload_n dMo_joined_248 rfl ?_
                            refine pm_iload_n dMo_joined_249 rfl ?_
                            refine pm_ishl dMo_joined_250 ?_
                            refine pm_sipush (v := 255) dMo_joined_251 (by decide) ?_
                            refine pm_iand dMo_joined_254 ?_
                            exact pm_iret dMo_joined_255 rfl (ho.trans (by first | (simp only [fMo_joined, if_neg h1_38, if_neg h1_43, if_neg h1_45, if_neg h1_60, if_neg h1_62, if_neg h1_94, if_neg h1_124, if_neg h1_300, if_neg h1_301, if_neg h1_302, if_neg h1_303, if_pos h1_304, if_pos h241]; done) | (simp only [fMo_joined, if_neg h1_38, if_neg h1_43, if_neg h1_45, if_neg h1_60, if_neg h1_62, if_neg h1_94, if_neg h1_124, if_neg h1_300, if_neg h1_301, if_neg h1_302, if_neg h1_303, if_pos h1_304, if_pos h241]; rfl) | rfl)) (hz.trans (by first | (simp only [fMo_joined, if_neg h1_38, if_neg h1_43, if_neg h1_45, if_neg h1_60, if_neg h1_62, if_neg h1_94, if_neg h1_124, if_neg h1_300, if_neg h1_301, if_neg h1_302, if_neg h1_303, if_pos h1_304, if_pos h241]; done) | (simp only [fMo_joined, if_neg h1_38, if_neg h1_43, if_neg h1_45, if_neg h1_60, if_neg h1_62, if_neg h1_94, if_neg h1_124, if_neg h1_300, if_neg h1_301, if_neg h1_302, if_neg h1_303, if_pos h1_304, if_pos h241]; rfl) | rfl))
                          ·
                            refine pm_iconst (v := 0) dMo_joined_244 (by decide) ?_
                            refine pm_goto 255 dMo_joined_245 (by decide) ?_
                            exact pm_iret dMo_joined_255 rfl (ho.trans (by first | (simp only [fMo_joined, if_neg h1_38, if_neg h1_43, if_neg h1_45, if_neg h1_60, if_neg h1_62, if_neg h1_94, if_neg h1_124, if_neg h1_300, if_neg h1_301, if_neg h1_302, if_neg h1_303, if_pos h1_304, if_neg h241]; done) | (simp only [fMo_joined, if_neg h1_38, if_neg h1_43, if_neg h1_45, if_neg h1_60, if_neg h1_62, if_neg h1_94, if_neg h1_124, if_neg h1_300, if_neg h1_301, if_neg h1_302, if_neg h1_303, if_pos h1_304, if_neg h241]; rfl) | rfl)) (hz.trans (by first | (simp only [fMo_joined, if_neg h1_38, if_neg h1_43, if_neg h1_45, if_neg h1_60, if_neg h1_62, if_neg h1_94, if_neg h1_124, if_neg h1_300, if_neg h1_301, if_neg h1_302, if_neg h1_303, if_pos h1_304, if_neg h241]; done) | (simp only [fMo_joined, if_neg h1_38, if_neg h1_43, if_neg h1_45, if_neg h1_60, if_neg h1_62, if_neg h1_94, if_neg h1_124, if_neg h1_300, if_neg h1_301, if_neg h1_302, if_neg h1_303, if_pos h1_304, if_neg h241]; rfl) | rfl))
                        ·
                          by_cases h1_305 : y0 = 305
                          ·
                            refine pm_lookup 256 dMo_joined_1 (by decide) (by first | (rw [h1_305]; rfl) | rw [h1_305]) (by decide) ?_
                            refine pm_iload_n dMo_joined_256 rfl ?_
                            refine pm_bipush (v := 8) dMo_joined_257 (by decide) ?_
                            refine pm_icmp_lt 266 dMo_joined_259 (by decide) (fun h259 => ?_) (fun h259 => ?_)
                            ·
                              refine pm_iload_n dMo_joined_266 rfl ?_
                              refine pm_iload_n dMo_joined_267 rfl ?_
                              refine pm_ishr dMo_joined_268 ?_
                              exact pm_iret dMo_joined_269 rfl (ho.trans (by first | (simp only [fMo_joined, if_neg h1_38, if_neg h1_43, if_neg h1_45, if_neg h1_60, if_neg h1_62, if_neg h1_94, if_neg h1_124, if_neg h1_300, if_neg h1_301, if_neg h1_302, if_neg h1_303, if_neg h1_304, if_pos h1_305, if_pos h259]; done) | (simp only [fMo_joined, if_neg h1_38, if_neg h1_43, if_neg h1_45, if_neg h1_60, if_neg h1_62, if_neg h1_94, if_neg h1_124, if_neg h1_300, if_neg h1_301, if_neg h1_302, if_neg h1_303, if_neg h1_304, if_pos h1_305, if_pos h259]; rfl) | rfl)) (hz.trans (by first | (simp only [fMo_joined, if_neg h1_38, if_neg h1_43, if_neg h1_45, if_neg h1_60, if_neg h1_62, if_neg h1_94, if_neg h1_124, if_neg h1_300, if_neg h1_301, if_neg h1_302, if_neg h1_303, if_neg h1_304, if_pos h1_305, if_pos h259]; done) | (simp only [fMo_joined, if_neg h1_38, if_neg h1_43, if_neg h1_45, if_neg h1_60, if_neg h1_62, if_neg h1_94, if_neg h1_124, if_neg h1_300, if_neg h1_301, if_neg h1_302, if_neg h1_303, if_neg h1_304, if_pos h1_305, if_pos h259]; rfl) | rfl))
                            ·
                              refine pm_iconst (v := 0) dMo_joined_262 (by decide) ?_
                              refine pm_goto 269 dMo_joined_263 (by decide) ?_
                              exact pm_iret dMo_joined_269 rfl (ho.trans (by first | (simp only [fMo_joined, if_neg h1_38, if_neg h1_43, if_neg h1_45, if_neg h1_60, if_neg h1_62, if_neg h1_94, if_neg h1_124, if_neg h1_300, if_neg h1_301, if_neg h1_302, if_neg h1_303, if_neg h1_304, if_pos h1_305, if_neg h259]; done) | (simp only [fMo_joined, if_neg h1_38, if_neg h1_43, if_neg h1_45, if_neg h1_60, if_neg h1_62, if_neg h1_94, if_neg h1_124, if_neg h1_300, if_neg h1_301, if_neg h1_302, if_neg h1_303, if_neg h1_304, if_pos h1_305, if_neg h259]; rfl) | rfl)) (hz.trans (by first | (simp only [fMo_joined, if_neg h1_38, if_neg h1_43, if_neg h1_45, if_neg h1_60, if_neg h1_62, if_neg h1_94, if_neg h1_124, if_neg h1_300, if_neg h1_301, if_neg h1_302, if_neg h1_303, if_neg h1_304, if_pos h1_305, if_neg h259]; done) | (simp only [fMo_joined, if_neg h1_38, if_neg h1_43, if_neg h1_45, if_neg h1_60, if_neg h1_62, if_neg h1_94, if_neg h1_124, if_neg h1_300, if_neg h1_301, if_neg h1_302, if_neg h1_303, if_neg h1_304, if_pos h1_305, if_neg h259]; rfl) | rfl))
                          ·
                            by_cases h1_306 : y0 = 306
                            ·
                              refine pm_lookup 146 dMo_joined_1 (by decide) (by first | (rw [h1_306]; rfl) | rw [h1_306]) (by decide) ?_
                              refine pm_iload_n dMo_joined_146 rfl ?_
                              refine pm_if_eq 158 dMo_joined_147 (by decide) (fun h147 => ?_) (fun h147 => ?_)
                              ·
                                refine pm_wk [0, 1, 2] rfl ?_
                                exact Mo_joined_n158 g d K R I J _ _   _ _ _ (((((((((((((((hp.2 h1_38).2 h1_43).2 h1_45).2 h1_60).2 h1_62).2 h1_94).2 h1_124).2 h1_300).2 h1_301).2 h1_302).2 h1_303).2 h1_304).2 h1_305).1 h1_306).1 h147) (ho.trans (by first | (simp only [fMo_joined, if_neg h1_38, if_neg h1_43, if_neg h1_45, if_neg h1_60, if_neg h1_62, if_neg h1_94, if_neg h1_124, if_neg h1_300, if_neg h1_301, if_neg h1_302, if_neg h1_303, if_neg h1_304, if_neg h1_305, if_pos h1_306, if_pos h147]; done) | (simp only [fMo_joined, if_neg h1_38, if_neg h1_43, if_neg h1_45, if_neg h1_60, if_neg h1_62, if_neg h1_94, if_neg h1_124, if_neg h1_300, if_neg h1_301, if_neg h1_302, if_neg h1_303, if_neg h1_304, if_neg h1_305, if_pos h1_306, if_pos h147]; rfl) | rfl)) (hz.trans (by first | (simp only [fMo_joined, if_neg h1_38, if_neg h1_43, if_neg h1_45, if_neg h1_60, if_neg h1_62, if_neg h1_94, if_neg h1_124, if_neg h1_300, if_neg h1_301, if_neg h1_302, if_neg h1_303, if_neg h1_304, if_neg h1_305, if_pos h1_306, if_pos h147]; done) | (simp only [fMo_joined, if_neg h1_38, if_neg h1_43, if_neg h1_45, if_neg h1_60, if_neg h1_62, if_neg h1_94, if_neg h1_124, if_neg h1_300, if_neg h1_301, if_neg h1_302, if_neg h1_303, if_neg h1_304, if_neg h1_305, if_pos h1_306, if_pos h147]; rfl) | rfl))
                              ·
                                refine pm_iload_n dMo_joined_150 rfl ?_
                                refine pm_if_eq 158 dMo_joined_151 (by decide) (fun h151 => ?_) (fun h151 => ?_)
                                ·
                                  refine pm_wk [0, 1, 2] rfl ?_
                                  exact Mo_joined_n158 g d K R I J _ _   _ _ _ ((((((((((((((((hp.2 h1_38).2 h1_43).2 h1_45).2 h1_60).2 h1_62).2 h1_94).2 h1_124).2 h1_300).2 h1_301).2 h1_302).2 h1_303).2 h1_304).2 h1_305).1 h1_306).2 h147).1 h151) (ho.trans (by first | (simp only [fMo_joined, if_neg h1_38, if_neg h1_43, if_neg h1_45, if_neg h1_60, if_neg h1_62, if_neg h1_94, if_neg h1_124, if_neg h1_300, if_neg h1_301, if_neg h1_302, if_neg h1_303, if_neg h1_304, if_neg h1_305, if_pos h1_306, if_neg h147, if_pos h151]; done) | (simp only [fMo_joined, if_neg h1_38, if_neg h1_43, if_neg h1_45, if_neg h1_60, if_neg h1_62, if_neg h1_94, if_neg h1_124, if_neg h1_300, if_neg h1_301, if_neg h1_302, if_neg h1_303, if_neg h1_304, if_neg h1_305, if_pos h1_306, if_neg h147, if_pos h151]; rfl) | rfl)) (hz.trans (by first | (simp only [fMo_joined, if_neg h1_38, if_neg h1_43, if_neg h1_45, if_neg h1_60, if_neg h1_62, if_neg h1_94, if_neg h1_124, if_neg h1_300, if_neg h1_301, if_neg h1_302, if_neg h1_303, if_neg h1_304, if_neg h1_305, if_pos h1_306, if_neg h147, if_pos h151]; done) | (simp only [fMo_joined, if_neg h1_38, if_neg h1_43, if_neg h1_45, if_neg h1_60, if_neg h1_62, if_neg h1_94, if_neg h1_124, if_neg h1_300, if_neg h1_301, if_neg h1_302, if_neg h1_303, if_neg h1_304, if_neg h1_305, if_pos h1_306, if_neg h147, if_pos h151]; rfl) | rfl))
                                ·
                                  refine pm_iconst (v := 1) dMo_joined_154 (by decide) ?_
                                  refine pm_goto 159 dMo_joined_155 (by decide) ?_
                                  exact pm_iret dMo_joined_159 rfl (ho.trans (by first | (simp only [fMo_joined, if_neg h1_38, if_neg h1_43, if_neg h1_45, if_neg h1_60, if_neg h1_62, if_neg h1_94, if_neg h1_124, if_neg h1_300, if_neg h1_301, if_neg h1_302, if_neg h1_303, if_neg h1_304, if_neg h1_305, if_pos h1_306, if_neg h147, if_neg h151]; done) | (simp only [fMo_joined, if_neg h1_38, if_neg h1_43, if_neg h1_45, if_neg h1_60, if_neg h1_62, if_neg h1_94, if_neg h1_124, if_neg h1_300, if_neg h1_301, if_neg h1_302, if_neg h1_303, if_neg h1_304, if_neg h1_305, if_pos h1_306, if_neg h147, if_neg h151]; rfl) | rfl)) (hz.trans (by first | (simp only [fMo_joined, if_neg h1_38, if_neg h1_43, if_neg h1_45, if_neg h1_60, if_neg h1_62, if_neg h1_94, if_neg h1_124, if_neg h1_300, if_neg h1_301, if_neg h1_302, if_neg h1_303, if_neg h1_304, if_neg h1_305, if_pos h1_306, if_neg h147, if_neg h151]; done) | (simp only [fMo_joined, if_neg h1_38, if_neg h1_43, if_neg h1_45, if_neg h1_60, if_neg h1_62, if_neg h1_94, if_neg h1_124, if_neg h1_300, if_neg h1_301, if_neg h1_302, if_neg h1_303, if_neg h1_304, if_neg h1_305, if_pos h1_306, if_neg h147, if_neg h151]; rfl) | rfl))
                            ·
                              by_cases h1_307 : y0 = 307
                              ·
                                refine pm_lookup 132 dMo_joined_1 (by decide) (by first | (rw [h1_307]; rfl) | rw [h1_307]) (by decide) ?_
                                refine pm_iload_n dMo_joined_132 rfl ?_
                                refine pm_if_ne 140 dMo_joined_133 (by decide) (fun h133 => ?_) (fun h133 => ?_)
                                ·
                                  refine pm_wk [0, 1, 2] rfl ?_
                                  exact Mo_joined_n140 g d K R I J _ _   _ _ _ ((((((((((((((((hp.2 h1_38).2 h1_43).2 h1_45).2 h1_60).2 h1_62).2 h1_94).2 h1_124).2 h1_300).2 h1_301).2 h1_302).2 h1_303).2 h1_304).2 h1_305).2 h1_306).1 h1_307).2 h133) (ho.trans (by first | (simp only [fMo_joined, if_neg h1_38, if_neg h1_43, if_neg h1_45, if_neg h1_60, if_neg h1_62, if_neg h1_94, if_neg h1_124, if_neg h1_300, if_neg h1_301, if_neg h1_302, if_neg h1_303, if_neg h1_304, if_neg h1_305, if_neg h1_306, if_pos h1_307, if_neg h133]; done) | (simp only [fMo_joined, if_neg h1_38, if_neg h1_43, if_neg h1_45, if_neg h1_60, if_neg h1_62, if_neg h1_94, if_neg h1_124, if_neg h1_300, if_neg h1_301, if_neg h1_302, if_neg h1_303, if_neg h1_304, if_neg h1_305, if_neg h1_306, if_pos h1_307, if_neg h133]; rfl) | rfl)) (hz.trans (by first | (simp only [fMo_joined, if_neg h1_38, if_neg h1_43, if_neg h1_45, if_neg h1_60, if_neg h1_62, if_neg h1_94, if_neg h1_124, if_neg h1_300, if_neg h1_301, if_neg h1_302, if_neg h1_303, if_neg h1_304, if_neg h1_305, if_neg h1_306, if_pos h1_307, if_neg h133]; done) | (simp only [fMo_joined, if_neg h1_38, if_neg h1_43, if_neg h1_45, if_neg h1_60, if_neg h1_62, if_neg h1_94, if_neg h1_124, if_neg h1_300, if_neg h1_301, if_neg h1_302, if_neg h1_303, if_neg h1_304, if_neg h1_305, if_neg h1_306, if_pos h1_307, if_neg h133]; rfl) | rfl))
                                ·
                                  refine pm_iload_n dMo_joined_136 rfl ?_
                                  refine pm_if_eq 144 dMo_joined_137 (by decide) (fun h137 => ?_) (fun h137 => ?_)
                                  ·
                                    refine pm_iconst (v := 0) dMo_joined_144 (by decide) ?_
                                    exact pm_iret dMo_joined_145 rfl (ho.trans (by first | (simp only [fMo_joined, if_neg h1_38, if_neg h1_43, if_neg h1_45, if_neg h1_60, if_neg h1_62, if_neg h1_94, if_neg h1_124, if_neg h1_300, if_neg h1_301, if_neg h1_302, if_neg h1_303, if_neg h1_304, if_neg h1_305, if_neg h1_306, if_pos h1_307, if_pos h133, if_pos h137]; done) | (simp only [fMo_joined, if_neg h1_38, if_neg h1_43, if_neg h1_45, if_neg h1_60, if_neg h1_62, if_neg h1_94, if_neg h1_124, if_neg h1_300, if_neg h1_301, if_neg h1_302, if_neg h1_303, if_neg h1_304, if_neg h1_305, if_neg h1_306, if_pos h1_307, if_pos h133, if_pos h137]; rfl) | rfl)) (hz.trans (by first | (simp only [fMo_joined, if_neg h1_38, if_neg h1_43, if_neg h1_45, if_neg h1_60, if_neg h1_62, if_neg h1_94, if_neg h1_124, if_neg h1_300, if_neg h1_301, if_neg h1_302, if_neg h1_303, if_neg h1_304, if_neg h1_305, if_neg h1_306, if_pos h1_307, if_pos h133, if_pos h137]; done) | (simp only [fMo_joined, if_neg h1_38, if_neg h1_43, if_neg h1_45, if_neg h1_60, if_neg h1_62, if_neg h1_94, if_neg h1_124, if_neg h1_300, if_neg h1_301, if_neg h1_302, if_neg h1_303, if_neg h1_304, if_neg h1_305, if_neg h1_306, if_pos h1_307, if_pos h133, if_pos h137]; rfl) | rfl))
                                  ·
                                    refine pm_wk [0, 1, 2] rfl ?_
                                    exact Mo_joined_n140 g d K R I J _ _   _ _ _ (((((((((((((((((hp.2 h1_38).2 h1_43).2 h1_45).2 h1_60).2 h1_62).2 h1_94).2 h1_124).2 h1_300).2 h1_301).2 h1_302).2 h1_303).2 h1_304).2 h1_305).2 h1_306).1 h1_307).1 h133).2 h137) (ho.trans (by first | (simp only [fMo_joined, if_neg h1_38, if_neg h1_43, if_neg h1_45, if_neg h1_60, if_neg h1_62, if_neg h1_94, if_neg h1_124, if_neg h1_300, if_neg h1_301, if_neg h1_302, if_neg h1_303, if_neg h1_304, if_neg h1_305, if_neg h1_306, if_pos h1_307, if_pos h133, if_neg h137]; done) | (simp only [fMo_joined, if_neg h1_38, if_neg h1_43, if_neg h1_45, if_neg h1_60, if_neg h1_62, if_neg h1_94, if_neg h1_124, if_neg h1_300, if_neg h1_301, if_neg h1_302, if_neg h1_303, if_neg h1_304, if_neg h1_305, if_neg h1_306, if_pos h1_307, if_pos h133, if_neg h137]; rfl) | rfl)) (hz.trans (by first | (simp only [fMo_joined, if_neg h1_38, if_neg h1_43, if_neg h1_45, if_neg h1_60, if_neg h1_62, if_neg h1_94, if_neg h1_124, if_neg h1_300, if_neg h1_301, if_neg h1_302, if_neg h1_303, if_neg h1_304, if_neg h1_305, if_neg h1_306, if_pos h1_307, if_pos h133, if_neg h137]; done) | (simp only [fMo_joined, if_neg h1_38, if_neg h1_43, if_neg h1_45, if_neg h1_60, if_neg h1_62, if_neg h1_94, if_neg h1_124, if_neg h1_300, if_neg h1_301, if_neg h1_302, if_neg h1_303, if_neg h1_304, if_neg h1_305, if_neg h1_306, if_pos h1_307, if_pos h133, if_neg h137]; rfl) | rfl))
                              ·
                                refine pm_lookup 286 dMo_joined_1 (by decide) (pm_lkD [38, 43, 45, 60, 62, 94, 124, 300, 301, 302, 303, 304, 305, 306, 307] rfl (by intro q9 hq9; simp only [List.mem_cons, List.not_mem_nil, or_false] at hq9; rcases hq9 with rfl | rfl | rfl | rfl | rfl | rfl | rfl | rfl | rfl | rfl | rfl | rfl | rfl | rfl | rfl <;> assumption)) (by decide) ?_
                                refine pm_iload_n dMo_joined_286 rfl ?_
                                refine pm_iload_n dMo_joined_287 rfl ?_
                                refine pm_imul dMo_joined_288 ?_
                                refine pm_sipush (v := 255) dMo_joined_289 (by decide) ?_
                                refine pm_iand dMo_joined_292 ?_
                                exact pm_iret dMo_joined_293 rfl (ho.trans (by first | (simp only [fMo_joined, if_neg h1_38, if_neg h1_43, if_neg h1_45, if_neg h1_60, if_neg h1_62, if_neg h1_94, if_neg h1_124, if_neg h1_300, if_neg h1_301, if_neg h1_302, if_neg h1_303, if_neg h1_304, if_neg h1_305, if_neg h1_306, if_neg h1_307]; done) | (simp only [fMo_joined, if_neg h1_38, if_neg h1_43, if_neg h1_45, if_neg h1_60, if_neg h1_62, if_neg h1_94, if_neg h1_124, if_neg h1_300, if_neg h1_301, if_neg h1_302, if_neg h1_303, if_neg h1_304, if_neg h1_305, if_neg h1_306, if_neg h1_307]; rfl) | rfl)) (hz.trans (by first | (simp only [fMo_joined, if_neg h1_38, if_neg h1_43, if_neg h1_45, if_neg h1_60, if_neg h1_62, if_neg h1_94, if_neg h1_124, if_neg h1_300, if_neg h1_301, if_neg h1_302, if_neg h1_303, if_neg h1_304, if_neg h1_305, if_neg h1_306, if_neg h1_307]; done) | (simp only [fMo_joined, if_neg h1_38, if_neg h1_43, if_neg h1_45, if_neg h1_60, if_neg h1_62, if_neg h1_94, if_neg h1_124, if_neg h1_300, if_neg h1_301, if_neg h1_302, if_neg h1_303, if_neg h1_304, if_neg h1_305, if_neg h1_306, if_neg h1_307]; rfl) | rfl))
set_option maxHeartbeats 4000000 in
set_option maxRecDepth 100000 in
theorem Mo_joined_ok (g : pmG) (d : Nat) (K : List (Nat × Nat)) (R : Nat → Nat → Value)  (x0 : Int32) (x1 : Int32) (x2 : Int32) (I : Nat → Nat → Int32) (J : Nat → Nat → Int64) (hp : pMo_joined x0 x1 x2) : pmC g kMo_joined d 0 0 [.int x0, .int x1, .int x2] (K, R, I, J) (.returned (some (.int (fMo_joined x0 x1 x2)))) (K, R, I, J) :=
  pmC.of (by decide) (Nat.le_of_ble_eq_true rfl) (Mo_joined_n0 g d K R I J _ _  x0 x1 x2  hp rfl rfl)
def fMo_byteAt  (y1 : Int32) (I : Nat → Nat → Int32) : Int32 :=
  if (I 40 1) ≤ y1 then (0 : Int32)
  else I 41 y1.toNatClampNeg
def pMo_byteAt  (y1 : Int32) (I : Nat → Nat → Int32) : Prop :=
  ((I 40 1) ≤ y1 → True) ∧
  (¬ ((I 40 1) ≤ y1) → (vp_in y1 65536) ∧ True)
set_option maxHeartbeats 4000000 in
set_option maxRecDepth 100000 in
theorem Mo_byteAt_n0 (g : pmG) (d : Nat) (ex : List (Nat × Nat)) (R : Nat → Nat → Value) (hR : mk_R R) (J : Nat → Nat → Int64) (o : Outcome) (Z : pmM)  (y1 : Int32) (I : Nat → Nat → Int32) (hp : pMo_byteAt y1 I) (ho : o = .returned (some (.int (fMo_byteAt y1 I)))) (hz : Z = (mk_K ++ ex, R, I, J)) : pmE g kMo_byteAt d 0 0 0 [(0, .ref 40), (1, .int y1)] [] (mk_K ++ ex) R I J o Z := by
  unfold pMo_byteAt at hp
  refine pm_iload_n dMo_byteAt_0 rfl ?_
  refine pm_aload_n dMo_byteAt_1 rfl ?_
  refine pm_geti dMo_byteAt_2 fMo_14 rfl ?_
  refine pm_icmp_ge 17 dMo_byteAt_5 (by decide) (fun h5 => ?_) (fun h5 => ?_)
  ·
    refine pm_iconst (v := 0) dMo_byteAt_17 (by decide) ?_
    exact pm_iret dMo_byteAt_18 rfl (ho.trans (by first | (simp only [fMo_byteAt, if_pos h5]; done) | (simp only [fMo_byteAt, if_pos h5]; rfl) | rfl)) (hz.trans (by first | (simp only [fMo_byteAt, if_pos h5]; done) | (simp only [fMo_byteAt, if_pos h5]; rfl) | rfl))
  ·
    refine pm_aload_n dMo_byteAt_8 rfl ?_
    refine pm_getr dMo_byteAt_9 fMo_8 rfl (rr_40_0 hR) ?_
    refine pm_iload_n dMo_byteAt_12 rfl ?_
    refine pm_bald dMo_byteAt_13 rfl (hp.2 h5).1 ?_
    refine pm_goto 18 dMo_byteAt_14 (by decide) ?_
    exact pm_iret dMo_byteAt_18 rfl (ho.trans (by first | (simp only [fMo_byteAt, if_neg h5]; done) | (simp only [fMo_byteAt, if_neg h5]; rfl) | rfl)) (hz.trans (by first | (simp only [fMo_byteAt, if_neg h5]; done) | (simp only [fMo_byteAt, if_neg h5]; rfl) | rfl))
set_option maxHeartbeats 4000000 in
set_option maxRecDepth 100000 in
theorem Mo_byteAt_ok (g : pmG) (d : Nat) (ex : List (Nat × Nat)) (R : Nat → Nat → Value) (hR : mk_R R)  (x0 : Int32) (I : Nat → Nat → Int32) (J : Nat → Nat → Int64) (hp : pMo_byteAt x0 I) : pmC g kMo_byteAt d 0 0 [.ref 40, .int x0] (mk_K ++ ex, R, I, J) (.returned (some (.int (fMo_byteAt x0 I)))) (mk_K ++ ex, R, I, J) :=
  pmC.of (by decide) (Nat.le_of_ble_eq_true rfl) (Mo_byteAt_n0 g d ex R hR J _ _  x0 I hp rfl rfl)
def fMo_parts_103 (r0 : (Nat → Nat → Int32) → (Nat → Nat → Int32)) (y1 : Int32) (I : Nat → Nat → Int32) : (Nat → Nat → Int32) :=
  r0 I
def pMo_parts_103 (q0 : (Nat → Nat → Int32) → Prop) (y1 : Int32) (I : Nat → Nat → Int32) : Prop :=
  q0 I
def fMo_parts_27 (r0 : (Nat → Nat → Int32) → (Nat → Nat → Int32)) : Nat → Int32 → (Nat → Nat → Int32) → (Nat → Nat → Int32)
  | 0, _, I => I
  | n + 1, y1, I =>
  if (I 40 1) ≤ (I 40 5) then fMo_parts_103 r0 y1 I
  else if (I 41 (I 40 5).toNatClampNeg) = (10 : Int32) then fMo_parts_103 r0 y1 I
    else fMo_parts_27 r0 n y1 (pm_u I 40 5 ((I 40 5) + (1 : Int32)))
def pMo_parts_27 (q0 : (Nat → Nat → Int32) → Prop) : Nat → Int32 → (Nat → Nat → Int32) → Prop
  | 0, _, _ => False
  | n + 1, y1, I =>
  ((I 40 1) ≤ (I 40 5) → pMo_parts_103 q0 y1 I) ∧
  (¬ ((I 40 1) ≤ (I 40 5)) → (vp_in (I 40 5) 65536) ∧ (((I 41 (I 40 5).toNatClampNeg) = (10 : Int32) → pMo_parts_103 q0 y1 I) ∧
    (¬ ((I 41 (I 40 5).toNatClampNeg) = (10 : Int32)) → pMo_parts_27 q0 n y1 (pm_u I 40 5 ((I 40 5) + (1 : Int32))))))
def fMo_parts_89 (r0 : (Nat → Nat → Int32) → (Nat → Nat → Int32)) (y1 : Int32) (I : Nat → Nat → Int32) : (Nat → Nat → Int32) :=
  fMo_parts_103 r0 y1 (pm_u I 40 5 ((I 40 5) + (1 : Int32)))
def pMo_parts_89 (q0 : (Nat → Nat → Int32) → Prop) (y1 : Int32) (I : Nat → Nat → Int32) : Prop :=
  pMo_parts_103 q0 y1 (pm_u I 40 5 ((I 40 5) + (1 : Int32)))
def fMo_parts (n27 : Nat) : Nat → (Nat → Nat → Int32) → (Nat → Nat → Int32)
  | 0, I => I
  | n + 1, I =>
  if (I 40 1) ≤ (I 40 5) then I
  else if (I 41 (I 40 5).toNatClampNeg) = (35 : Int32) then fMo_parts_27 (fMo_parts n27 n) n27 (I 41 (I 40 5).toNatClampNeg) I
    else if (I 41 (I 40 5).toNatClampNeg) = (32 : Int32) then fMo_parts_89 (fMo_parts n27 n) (I 41 (I 40 5).toNatClampNeg) I
      else if (I 41 (I 40 5).toNatClampNeg) = (9 : Int32) then fMo_parts_89 (fMo_parts n27 n) (I 41 (I 40 5).toNatClampNeg) I
        else if (I 41 (I 40 5).toNatClampNeg) = (10 : Int32) then fMo_parts_89 (fMo_parts n27 n) (I 41 (I 40 5).toNatClampNeg) I
          else if (I 41 (I 40 5).toNatClampNeg) = (13 : Int32) then fMo_parts_89 (fMo_parts n27 n) (I 41 (I 40 5).toNatClampNeg) I
            else I
def pMo_parts (n27 : Nat) : Nat → (Nat → Nat → Int32) → Prop
  | 0, _ => False
  | n + 1, I =>
  ((I 40 1) ≤ (I 40 5) → True) ∧
  (¬ ((I 40 1) ≤ (I 40 5)) → (vp_in (I 40 5) 65536) ∧ (((I 41 (I 40 5).toNatClampNeg) = (35 : Int32) → pMo_parts_27 (pMo_parts n27 n) n27 (I 41 (I 40 5).toNatClampNeg) I) ∧
    (¬ ((I 41 (I 40 5).toNatClampNeg) = (35 : Int32)) → ((I 41 (I 40 5).toNatClampNeg) = (32 : Int32) → pMo_parts_89 (pMo_parts n27 n) (I 41 (I 40 5).toNatClampNeg) I) ∧
      (¬ ((I 41 (I 40 5).toNatClampNeg) = (32 : Int32)) → ((I 41 (I 40 5).toNatClampNeg) = (9 : Int32) → pMo_parts_89 (pMo_parts n27 n) (I 41 (I 40 5).toNatClampNeg) I) ∧
        (¬ ((I 41 (I 40 5).toNatClampNeg) = (9 : Int32)) → ((I 41 (I 40 5).toNatClampNeg) = (10 : Int32) → pMo_parts_89 (pMo_parts n27 n) (I 41 (I 40 5).toNatClampNeg) I) ∧
          (¬ ((I 41 (I 40 5).toNatClampNeg) = (10 : Int32)) → ((I 41 (I 40 5).toNatClampNeg) = (13 : Int32) → pMo_parts_89 (pMo_parts n27 n) (I 41 (I 40 5).toNatClampNeg) I) ∧
            (¬ ((I 41 (I 40 5).toNatClampNeg) = (13 : Int32)) → True)))))))
set_option maxHeartbeats 4000000 in
set_option maxRecDepth 100000 in
theorem Mo_parts_n103 (g : pmG) (d : Nat) (ex : List (Nat × Nat)) (R : Nat → Nat → Value) (hR : mk_R R) (J : Nat → Nat → Int64) (o : Outcome) (Z : pmM) (r0 : (Nat → Nat → Int32) → (Nat → Nat → Int32)) (q0 : (Nat → Nat → Int32) → Prop) (ih0 : ∀ (I : Nat → Nat → Int32), q0 I → o = .returned none → Z = (mk_K ++ ex, R, (r0 I), J) → pmE g kMo_parts d 0 0 0 [(0, .ref 40)] [] (mk_K ++ ex) R I J o Z)  (y1 : Int32) (I : Nat → Nat → Int32) (hp : pMo_parts_103 q0 y1 I) (ho : o = .returned none) (hz : Z = (mk_K ++ ex, R, (fMo_parts_103 r0 y1 I), J)) : pmE g kMo_parts d 0 0 103 [(0, .ref 40), (1, .int y1)] [] (mk_K ++ ex) R I J o Z := by
  unfold pMo_parts_103 at hp
  refine pm_goto 0 dMo_parts_103 (by decide) ?_
  refine pm_wk [0] rfl ?_
  exact ih0 _ hp ho (hz.trans (by first | rfl | (simp only [fMo_parts_103]; done) | (simp only [fMo_parts_103]; rfl)))
set_option maxHeartbeats 4000000 in
set_option maxRecDepth 100000 in
theorem Mo_parts_n27 (g : pmG) (d : Nat) (ex : List (Nat × Nat)) (R : Nat → Nat → Value) (hR : mk_R R) (J : Nat → Nat → Int64) (o : Outcome) (Z : pmM) (r0 : (Nat → Nat → Int32) → (Nat → Nat → Int32)) (q0 : (Nat → Nat → Int32) → Prop) (ih0 : ∀ (I : Nat → Nat → Int32), q0 I → o = .returned none → Z = (mk_K ++ ex, R, (r0 I), J) → pmE g kMo_parts d 0 0 0 [(0, .ref 40)] [] (mk_K ++ ex) R I J o Z)  : ∀ (n : Nat) (y1 : Int32) (I : Nat → Nat → Int32), pMo_parts_27 q0 n y1 I → o = .returned none → Z = (mk_K ++ ex, R, (fMo_parts_27 r0 n y1 I), J) → pmE g kMo_parts d 0 0 27 [(0, .ref 40), (1, .int y1)] [] (mk_K ++ ex) R I J o Z := by
  intro n
  induction n with
  | zero => intro y1 I hp; exact False.elim hp
  | succ n ih =>
  intro y1 I hp ho hz
  simp only [pMo_parts_27] at hp
  refine pm_aload_n dMo_parts_27 rfl ?_
  refine pm_geti dMo_parts_28 fMo_27 rfl ?_
  refine pm_aload_n dMo_parts_31 rfl ?_
  refine pm_geti dMo_parts_32 fMo_14 rfl ?_
  refine pm_icmp_ge 103 dMo_parts_35 (by decide) (fun h35 => ?_) (fun h35 => ?_)
  ·
    refine pm_wk [0, 1] rfl ?_
    exact Mo_parts_n103 g d ex R hR J _ _ r0 q0 ih0  _ _ (hp.1 h35) ho (hz.trans (by first | (simp only [fMo_parts_27, if_pos h35]; done) | (simp only [fMo_parts_27, if_pos h35]; rfl) | rfl))
  ·
    refine pm_aload_n dMo_parts_38 rfl ?_
    refine pm_getr dMo_parts_39 fMo_8 rfl (rr_40_0 hR) ?_
    refine pm_aload_n dMo_parts_42 rfl ?_
    refine pm_geti dMo_parts_43 fMo_27 rfl ?_
    refine pm_bald dMo_parts_46 rfl (hp.2 h35).1 ?_
    refine pm_bipush (v := 10) dMo_parts_47 (by decide) ?_
    refine pm_icmp_eq 103 dMo_parts_49 (by decide) (fun h49 => ?_) (fun h49 => ?_)
    ·
      refine pm_wk [0, 1] rfl ?_
      exact Mo_parts_n103 g d ex R hR J _ _ r0 q0 ih0  _ _ ((hp.2 h35).2.1 h49) ho (hz.trans (by first | (simp only [fMo_parts_27, if_neg h35, if_pos h49]; done) | (simp only [fMo_parts_27, if_neg h35, if_pos h49]; rfl) | rfl))
    ·
      refine pm_aload_n dMo_parts_52 rfl ?_
      refine pm_dup dMo_parts_53 rfl ?_
      refine pm_geti dMo_parts_54 fMo_27 rfl ?_
      refine pm_iconst (v := 1) dMo_parts_57 (by decide) ?_
      refine pm_iadd dMo_parts_58 ?_
      refine pm_puti dMo_parts_59 fMo_27 sMo_27 (fun h => by cases h) rfl rfl rfl ?_
      refine pm_goto 27 dMo_parts_62 (by decide) ?_
      refine pm_wk [0, 1] rfl ?_
      exact ih _ _ ((hp.2 h35).2.2 h49) ho (hz.trans (by first | (simp only [fMo_parts_27, if_neg h35, if_neg h49]; done) | (simp only [fMo_parts_27, if_neg h35, if_neg h49]; rfl) | rfl))
set_option maxHeartbeats 4000000 in
set_option maxRecDepth 100000 in
theorem Mo_parts_n89 (g : pmG) (d : Nat) (ex : List (Nat × Nat)) (R : Nat → Nat → Value) (hR : mk_R R) (J : Nat → Nat → Int64) (o : Outcome) (Z : pmM) (r0 : (Nat → Nat → Int32) → (Nat → Nat → Int32)) (q0 : (Nat → Nat → Int32) → Prop) (ih0 : ∀ (I : Nat → Nat → Int32), q0 I → o = .returned none → Z = (mk_K ++ ex, R, (r0 I), J) → pmE g kMo_parts d 0 0 0 [(0, .ref 40)] [] (mk_K ++ ex) R I J o Z)  (y1 : Int32) (I : Nat → Nat → Int32) (hp : pMo_parts_89 q0 y1 I) (ho : o = .returned none) (hz : Z = (mk_K ++ ex, R, (fMo_parts_89 r0 y1 I), J)) : pmE g kMo_parts d 0 0 89 [(0, .ref 40), (1, .int y1)] [] (mk_K ++ ex) R I J o Z := by
  unfold pMo_parts_89 at hp
  refine pm_aload_n dMo_parts_89 rfl ?_
  refine pm_dup dMo_parts_90 rfl ?_
  refine pm_geti dMo_parts_91 fMo_27 rfl ?_
  refine pm_iconst (v := 1) dMo_parts_94 (by decide) ?_
  refine pm_iadd dMo_parts_95 ?_
  refine pm_puti dMo_parts_96 fMo_27 sMo_27 (fun h => by cases h) rfl rfl rfl ?_
  refine pm_goto 103 dMo_parts_99 (by decide) ?_
  refine pm_wk [0, 1] rfl ?_
  exact Mo_parts_n103 g d ex R hR J _ _ r0 q0 ih0  _ _ hp ho (hz.trans (by first | rfl | (simp only [fMo_parts_89]; done) | (simp only [fMo_parts_89]; rfl)))
set_option maxHeartbeats 4000000 in
set_option maxRecDepth 100000 in
theorem Mo_parts_n0 (g : pmG) (d : Nat) (ex : List (Nat × Nat)) (R : Nat → Nat → Value) (hR : mk_R R) (J : Nat → Nat → Int64) (o : Outcome) (Z : pmM) (n27 : Nat) : ∀ (n : Nat) (I : Nat → Nat → Int32), pMo_parts n27 n I → o = .returned none → Z = (mk_K ++ ex, R, (fMo_parts n27 n I), J) → pmE g kMo_parts d 0 0 0 [(0, .ref 40)] [] (mk_K ++ ex) R I J o Z := by
  intro n
  induction n with
  | zero => intro I hp; exact False.elim hp
  | succ n ih =>
  intro I hp ho hz
  simp only [pMo_parts] at hp
  refine pm_aload_n dMo_parts_0 rfl ?_
  refine pm_geti dMo_parts_1 fMo_27 rfl ?_
  refine pm_aload_n dMo_parts_4 rfl ?_
  refine pm_geti dMo_parts_5 fMo_14 rfl ?_
  refine pm_icmp_ge 106 dMo_parts_8 (by decide) (fun h8 => ?_) (fun h8 => ?_)
  ·
    exact pm_vret dMo_parts_106 rfl ho (hz.trans (by first | (simp only [fMo_parts, if_pos h8]; done) | (simp only [fMo_parts, if_pos h8]; rfl) | rfl))
  ·
    refine pm_aload_n dMo_parts_11 rfl ?_
    refine pm_getr dMo_parts_12 fMo_8 rfl (rr_40_0 hR) ?_
    refine pm_aload_n dMo_parts_15 rfl ?_
    refine pm_geti dMo_parts_16 fMo_27 rfl ?_
    refine pm_bald dMo_parts_19 rfl (hp.2 h8).1 ?_
    refine pm_istore_n dMo_parts_20 (by decide) rfl ?_
    refine pm_iload_n dMo_parts_21 rfl ?_
    refine pm_bipush (v := 35) dMo_parts_22 (by decide) ?_
    refine pm_icmp_ne 65 dMo_parts_24 (by decide) (fun h24 => ?_) (fun h24 => ?_)
    ·
      refine pm_iload_n dMo_parts_65 rfl ?_
      refine pm_bipush (v := 32) dMo_parts_66 (by decide) ?_
      refine pm_icmp_eq 89 dMo_parts_68 (by decide) (fun h68 => ?_) (fun h68 => ?_)
      ·
        refine pm_wk [1, 0] rfl ?_
        exact Mo_parts_n89 g d ex R hR J _ _ (fMo_parts n27 n) (pMo_parts n27 n) ih  _ _ (((hp.2 h8).2.2 h24).1 h68) ho (hz.trans (by first | (simp only [fMo_parts, if_neg h8, if_neg h24, if_pos h68]; done) | (simp only [fMo_parts, if_neg h8, if_neg h24, if_pos h68]; rfl) | rfl))
      ·
        refine pm_iload_n dMo_parts_71 rfl ?_
        refine pm_bipush (v := 9) dMo_parts_72 (by decide) ?_
        refine pm_icmp_eq 89 dMo_parts_74 (by decide) (fun h74 => ?_) (fun h74 => ?_)
        ·
          refine pm_wk [1, 0] rfl ?_
          exact Mo_parts_n89 g d ex R hR J _ _ (fMo_parts n27 n) (pMo_parts n27 n) ih  _ _ ((((hp.2 h8).2.2 h24).2 h68).1 h74) ho (hz.trans (by first | (simp only [fMo_parts, if_neg h8, if_neg h24, if_neg h68, if_pos h74]; done) | (simp only [fMo_parts, if_neg h8, if_neg h24, if_neg h68, if_pos h74]; rfl) | rfl))
        ·
          refine pm_iload_n dMo_parts_77 rfl ?_
          refine pm_bipush (v := 10) dMo_parts_78 (by decide) ?_
          refine pm_icmp_eq 89 dMo_parts_80 (by decide) (fun h80 => ?_) (fun h80 => ?_)
          ·
            refine pm_wk [1, 0] rfl ?_
            exact Mo_parts_n89 g d ex R hR J _ _ (fMo_parts n27 n) (pMo_parts n27 n) ih  _ _ (((((hp.2 h8).2.2 h24).2 h68).2 h74).1 h80) ho (hz.trans (by first | (simp only [fMo_parts, if_neg h8, if_neg h24, if_neg h68, if_neg h74, if_pos h80]; done) | (simp only [fMo_parts, if_neg h8, if_neg h24, if_neg h68, if_neg h74, if_pos h80]; rfl) | rfl))
          ·
            refine pm_iload_n dMo_parts_83 rfl ?_
            refine pm_bipush (v := 13) dMo_parts_84 (by decide) ?_
            refine pm_icmp_ne 102 dMo_parts_86 (by decide) (fun h86 => ?_) (fun h86 => ?_)
            ·
              exact pm_vret dMo_parts_102 rfl ho (hz.trans (by first | (simp only [fMo_parts, if_neg h8, if_neg h24, if_neg h68, if_neg h74, if_neg h80, if_neg h86]; done) | (simp only [fMo_parts, if_neg h8, if_neg h24, if_neg h68, if_neg h74, if_neg h80, if_neg h86]; rfl) | rfl))
            ·
              refine pm_wk [1, 0] rfl ?_
              exact Mo_parts_n89 g d ex R hR J _ _ (fMo_parts n27 n) (pMo_parts n27 n) ih  _ _ ((((((hp.2 h8).2.2 h24).2 h68).2 h74).2 h80).1 h86) ho (hz.trans (by first | (simp only [fMo_parts, if_neg h8, if_neg h24, if_neg h68, if_neg h74, if_neg h80, if_pos h86]; done) | (simp only [fMo_parts, if_neg h8, if_neg h24, if_neg h68, if_neg h74, if_neg h80, if_pos h86]; rfl) | rfl))
    ·
      refine pm_wk [1, 0] rfl ?_
      exact Mo_parts_n27 g d ex R hR J _ _ (fMo_parts n27 n) (pMo_parts n27 n) ih n27 _ _ ((hp.2 h8).2.1 h24) ho (hz.trans (by first | (simp only [fMo_parts, if_neg h8, if_pos h24]; done) | (simp only [fMo_parts, if_neg h8, if_pos h24]; rfl) | rfl))
set_option maxHeartbeats 4000000 in
set_option maxRecDepth 100000 in
theorem Mo_parts_ok (g : pmG) (d : Nat) (ex : List (Nat × Nat)) (R : Nat → Nat → Value) (hR : mk_R R) (n27 : Nat) (n0 : Nat)  (I : Nat → Nat → Int32) (J : Nat → Nat → Int64) (hp : pMo_parts n27 n0 I) : pmC g kMo_parts d 0 0 [.ref 40] (mk_K ++ ex, R, I, J) (.returned none) (mk_K ++ ex, R, (fMo_parts n27 n0 I), J) :=
  pmC.of (by decide) (Nat.le_of_ble_eq_true rfl) (Mo_parts_n0 g d ex R hR J _ _ n27 n0  I hp rfl rfl)
def fMo_thrown  (I : Nat → Nat → Int32) : Int32 :=
  I 40 2
def pMo_thrown  (I : Nat → Nat → Int32) : Prop :=
  True
set_option maxHeartbeats 4000000 in
set_option maxRecDepth 100000 in
theorem Mo_thrown_n0 (g : pmG) (d : Nat) (ex : List (Nat × Nat)) (R : Nat → Nat → Value) (hR : mk_R R) (J : Nat → Nat → Int64) (o : Outcome) (Z : pmM)  (I : Nat → Nat → Int32) (hp : pMo_thrown I) (ho : o = .returned (some (.int (fMo_thrown I)))) (hz : Z = (mk_K ++ ex, R, I, J)) : pmE g kMo_thrown d 0 0 0 [(0, .ref 40)] [] (mk_K ++ ex) R I J o Z := by
  unfold pMo_thrown at hp
  refine pm_aload_n dMo_thrown_0 rfl ?_
  refine pm_geti dMo_thrown_1 fMo_18 rfl ?_
  exact pm_iret dMo_thrown_4 rfl (ho.trans (by first | rfl | (simp only [fMo_thrown]; done) | (simp only [fMo_thrown]; rfl))) (hz.trans (by first | rfl | (simp only [fMo_thrown]; done) | (simp only [fMo_thrown]; rfl)))
set_option maxHeartbeats 4000000 in
set_option maxRecDepth 100000 in
theorem Mo_thrown_ok (g : pmG) (d : Nat) (ex : List (Nat × Nat)) (R : Nat → Nat → Value) (hR : mk_R R)   (I : Nat → Nat → Int32) (J : Nat → Nat → Int64) (hp : pMo_thrown I) : pmC g kMo_thrown d 0 0 [.ref 40] (mk_K ++ ex, R, I, J) (.returned (some (.int (fMo_thrown I)))) (mk_K ++ ex, R, I, J) :=
  pmC.of (by decide) (Nat.le_of_ble_eq_true rfl) (Mo_thrown_n0 g d ex R hR J _ _   I hp rfl rfl)
def fMo_refuse_9  (y1 : Int32) (y2 : Int32) (I : Nat → Nat → Int32) : Int32 × (Nat → Nat → Int32) :=
  (y2, I)
def pMo_refuse_9  (y1 : Int32) (y2 : Int32) (I : Nat → Nat → Int32) : Prop :=
  narrow .boolean (.int y2) = .int y2
def fMo_refuse  (y1 : Int32) (y2 : Int32) (I : Nat → Nat → Int32) : Int32 × (Nat → Nat → Int32) :=
  if y2 = 0 then fMo_refuse_9 y1 y2 I
  else fMo_refuse_9 y1 y2 (pm_u I 40 2 y1)
def pMo_refuse  (y1 : Int32) (y2 : Int32) (I : Nat → Nat → Int32) : Prop :=
  (y2 = 0 → pMo_refuse_9 y1 y2 I) ∧
  (¬ (y2 = 0) → pMo_refuse_9 y1 y2 (pm_u I 40 2 y1))
set_option maxHeartbeats 4000000 in
set_option maxRecDepth 100000 in
theorem Mo_refuse_n9 (g : pmG) (d : Nat) (ex : List (Nat × Nat)) (R : Nat → Nat → Value) (hR : mk_R R) (J : Nat → Nat → Int64) (o : Outcome) (Z : pmM)  (y1 : Int32) (y2 : Int32) (I : Nat → Nat → Int32) (hp : pMo_refuse_9 y1 y2 I) (ho : o = .returned (some (.int (fMo_refuse_9 y1 y2 I).1))) (hz : Z = (mk_K ++ ex, R, (fMo_refuse_9 y1 y2 I).2, J)) : pmE g kMo_refuse d 0 0 9 [(0, .ref 40), (1, .int y1), (2, .int y2)] [] (mk_K ++ ex) R I J o Z := by
  unfold pMo_refuse_9 at hp
  refine pm_iload_n dMo_refuse_9 rfl ?_
  exact pm_zret dMo_refuse_10 rfl hp (ho.trans (by first | rfl | (simp only [fMo_refuse_9]; done) | (simp only [fMo_refuse_9]; rfl))) (hz.trans (by first | rfl | (simp only [fMo_refuse_9]; done) | (simp only [fMo_refuse_9]; rfl)))
set_option maxHeartbeats 4000000 in
set_option maxRecDepth 100000 in
theorem Mo_refuse_n0 (g : pmG) (d : Nat) (ex : List (Nat × Nat)) (R : Nat → Nat → Value) (hR : mk_R R) (J : Nat → Nat → Int64) (o : Outcome) (Z : pmM)  (y1 : Int32) (y2 : Int32) (I : Nat → Nat → Int32) (hp : pMo_refuse y1 y2 I) (ho : o = .returned (some (.int (fMo_refuse y1 y2 I).1))) (hz : Z = (mk_K ++ ex, R, (fMo_refuse y1 y2 I).2, J)) : pmE g kMo_refuse d 0 0 0 [(0, .ref 40), (1, .int y1), (2, .int y2)] [] (mk_K ++ ex) R I J o Z := by
  unfold pMo_refuse at hp
  refine pm_iload_n dMo_refuse_0 rfl ?_
  refine pm_if_eq 9 dMo_refuse_1 (by decide) (fun h1 => ?_) (fun h1 => ?_)
  ·
    refine pm_wk [0, 1, 2] rfl ?_
    exact Mo_refuse_n9 g d ex R hR J _ _   _ _ _ (hp.1 h1) (ho.trans (by first | (simp only [fMo_refuse, if_pos h1]; done) | (simp only [fMo_refuse, if_pos h1]; rfl) | rfl)) (hz.trans (by first | (simp only [fMo_refuse, if_pos h1]; done) | (simp only [fMo_refuse, if_pos h1]; rfl) | rfl))
  ·
    refine pm_aload_n dMo_refuse_4 rfl ?_
    refine pm_iload_n dMo_refuse_5 rfl ?_
    refine pm_puti dMo_refuse_6 fMo_18 sMo_18 (fun h => by cases h) rfl rfl rfl ?_
    refine pm_wk [0, 1, 2] rfl ?_
    exact Mo_refuse_n9 g d ex R hR J _ _   _ _ _ (hp.2 h1) (ho.trans (by first | (simp only [fMo_refuse, if_neg h1]; done) | (simp only [fMo_refuse, if_neg h1]; rfl) | rfl)) (hz.trans (by first | (simp only [fMo_refuse, if_neg h1]; done) | (simp only [fMo_refuse, if_neg h1]; rfl) | rfl))
set_option maxHeartbeats 4000000 in
set_option maxRecDepth 100000 in
theorem Mo_refuse_ok (g : pmG) (d : Nat) (ex : List (Nat × Nat)) (R : Nat → Nat → Value) (hR : mk_R R)  (x0 : Int32) (x1 : Int32) (I : Nat → Nat → Int32) (J : Nat → Nat → Int64) (hp : pMo_refuse x0 x1 I) : pmC g kMo_refuse d 0 0 [.ref 40, .int x0, .int x1] (mk_K ++ ex, R, I, J) (.returned (some (.int (fMo_refuse x0 x1 I).1))) (mk_K ++ ex, R, (fMo_refuse x0 x1 I).2, J) :=
  pmC.of (by decide) (Nat.le_of_ble_eq_true rfl) (Mo_refuse_n0 g d ex R hR J _ _  x0 x1 I hp rfl rfl)
def fMo_all  (I : Nat → Nat → Int32) : Int32 :=
  (1 : Int32) <<< ((I 40 27) &&& 31)
def pMo_all  (I : Nat → Nat → Int32) : Prop :=
  True
set_option maxHeartbeats 4000000 in
set_option maxRecDepth 100000 in
theorem Mo_all_n0 (g : pmG) (d : Nat) (ex : List (Nat × Nat)) (R : Nat → Nat → Value) (hR : mk_R R) (J : Nat → Nat → Int64) (o : Outcome) (Z : pmM)  (I : Nat → Nat → Int32) (hp : pMo_all I) (ho : o = .returned (some (.int (fMo_all I)))) (hz : Z = (mk_K ++ ex, R, I, J)) : pmE g kMo_all d 0 0 0 [(0, .ref 40)] [] (mk_K ++ ex) R I J o Z := by
  unfold pMo_all at hp
  refine pm_iconst (v := 1) dMo_all_0 (by decide) ?_
  refine pm_aload_n dMo_all_1 rfl ?_
  refine pm_geti dMo_all_2 fMo_95 rfl ?_
  refine pm_ishl dMo_all_5 ?_
  exact pm_iret dMo_all_6 rfl (ho.trans (by first | rfl | (simp only [fMo_all]; done) | (simp only [fMo_all]; rfl))) (hz.trans (by first | rfl | (simp only [fMo_all]; done) | (simp only [fMo_all]; rfl)))
set_option maxHeartbeats 4000000 in
set_option maxRecDepth 100000 in
theorem Mo_all_ok (g : pmG) (d : Nat) (ex : List (Nat × Nat)) (R : Nat → Nat → Value) (hR : mk_R R)   (I : Nat → Nat → Int32) (J : Nat → Nat → Int64) (hp : pMo_all I) : pmC g kMo_all d 0 0 [.ref 40] (mk_K ++ ex, R, I, J) (.returned (some (.int (fMo_all I)))) (mk_K ++ ex, R, I, J) :=
  pmC.of (by decide) (Nat.le_of_ble_eq_true rfl) (Mo_all_n0 g d ex R hR J _ _   I hp rfl rfl)
def fMo_allInputs  (I : Nat → Nat → Int32) : Int32 :=
  (1 : Int32) <<< ((I 40 28) &&& 31)
def pMo_allInputs  (I : Nat → Nat → Int32) : Prop :=
  True
set_option maxHeartbeats 4000000 in
set_option maxRecDepth 100000 in
theorem Mo_allInputs_n0 (g : pmG) (d : Nat) (ex : List (Nat × Nat)) (R : Nat → Nat → Value) (hR : mk_R R) (J : Nat → Nat → Int64) (o : Outcome) (Z : pmM)  (I : Nat → Nat → Int32) (hp : pMo_allInputs I) (ho : o = .returned (some (.int (fMo_allInputs I)))) (hz : Z = (mk_K ++ ex, R, I, J)) : pmE g kMo_allInputs d 0 0 0 [(0, .ref 40)] [] (mk_K ++ ex) R I J o Z := by
  unfold pMo_allInputs at hp
  refine pm_iconst (v := 1) dMo_allInputs_0 (by decide) ?_
  refine pm_aload_n dMo_allInputs_1 rfl ?_
  refine pm_geti dMo_allInputs_2 fMo_98 rfl ?_
  refine pm_ishl dMo_allInputs_5 ?_
  exact pm_iret dMo_allInputs_6 rfl (ho.trans (by first | rfl | (simp only [fMo_allInputs]; done) | (simp only [fMo_allInputs]; rfl))) (hz.trans (by first | rfl | (simp only [fMo_allInputs]; done) | (simp only [fMo_allInputs]; rfl)))
set_option maxHeartbeats 4000000 in
set_option maxRecDepth 100000 in
theorem Mo_allInputs_ok (g : pmG) (d : Nat) (ex : List (Nat × Nat)) (R : Nat → Nat → Value) (hR : mk_R R)   (I : Nat → Nat → Int32) (J : Nat → Nat → Int64) (hp : pMo_allInputs I) : pmC g kMo_allInputs d 0 0 [.ref 40] (mk_K ++ ex, R, I, J) (.returned (some (.int (fMo_allInputs I)))) (mk_K ++ ex, R, I, J) :=
  pmC.of (by decide) (Nat.le_of_ble_eq_true rfl) (Mo_allInputs_n0 g d ex R hR J _ _   I hp rfl rfl)
def fMo_node  (y1 : Int32) (y2 : Int32) (y3 : Int32) (I : Nat → Nat → Int32) : Int32 × (Nat → Nat → Int32) :=
  (I 40 34, pm_u (pm_u (pm_u (pm_u (pm_u I 52 (I 40 34).toNatClampNeg y1) 53 (I 40 34).toNatClampNeg y2) 54 (I 40 34).toNatClampNeg y3) 55 (I 40 34).toNatClampNeg (-1 : Int32)) 40 34 ((I 40 34) + (1 : Int32)))
def pMo_node  (y1 : Int32) (y2 : Int32) (y3 : Int32) (I : Nat → Nat → Int32) : Prop :=
  (vp_in (I 40 34) 4200) ∧ ((vp_in (I 40 34) 4200) ∧ ((vp_in (I 40 34) 4200) ∧ ((vp_in (I 40 34) 4200) ∧ True)))
set_option maxHeartbeats 4000000 in
set_option maxRecDepth 100000 in
theorem Mo_node_n0 (g : pmG) (d : Nat) (ex : List (Nat × Nat)) (R : Nat → Nat → Value) (hR : mk_R R) (J : Nat → Nat → Int64) (o : Outcome) (Z : pmM)  (y1 : Int32) (y2 : Int32) (y3 : Int32) (I : Nat → Nat → Int32) (hp : pMo_node y1 y2 y3 I) (ho : o = .returned (some (.int (fMo_node y1 y2 y3 I).1))) (hz : Z = (mk_K ++ ex, R, (fMo_node y1 y2 y3 I).2, J)) : pmE g kMo_node d 0 0 0 [(0, .ref 40), (1, .int y1), (2, .int y2), (3, .int y3)] [] (mk_K ++ ex) R I J o Z := by
  unfold pMo_node at hp
  refine pm_aload_n dMo_node_0 rfl ?_
  refine pm_getr dMo_node_1 fMo_101 rfl (rr_40_29 hR) ?_
  refine pm_aload_n dMo_node_4 rfl ?_
  refine pm_geti dMo_node_5 fMo_116 rfl ?_
  refine pm_iload_n dMo_node_8 rfl ?_
  refine pm_iast dMo_node_9 rfl hp.1 ?_
  refine pm_aload_n dMo_node_10 rfl ?_
  refine pm_getr dMo_node_11 fMo_104 rfl (rr_40_30 hR) ?_
  refine pm_aload_n dMo_node_14 rfl ?_
  refine pm_geti dMo_node_15 fMo_116 rfl ?_
  refine pm_eqi (I 40 34) rfl ?_
  refine pm_iload_n dMo_node_18 rfl ?_
  refine pm_iast dMo_node_19 rfl hp.2.1 ?_
  refine pm_aload_n dMo_node_20 rfl ?_
  refine pm_getr dMo_node_21 fMo_107 rfl (rr_40_31 hR) ?_
  refine pm_aload_n dMo_node_24 rfl ?_
  refine pm_geti dMo_node_25 fMo_116 rfl ?_
  refine pm_eqi (I 40 34) rfl ?_
  refine pm_iload_n dMo_node_28 rfl ?_
  refine pm_iast dMo_node_29 rfl hp.2.2.1 ?_
  refine pm_aload_n dMo_node_30 rfl ?_
  refine pm_getr dMo_node_31 fMo_110 rfl (rr_40_32 hR) ?_
  refine pm_aload_n dMo_node_34 rfl ?_
  refine pm_geti dMo_node_35 fMo_116 rfl ?_
  refine pm_eqi (I 40 34) rfl ?_
  refine pm_iconst (v := (-1)) dMo_node_38 (by decide) ?_
  refine pm_iast dMo_node_39 rfl hp.2.2.2.1 ?_
  refine pm_aload_n dMo_node_40 rfl ?_
  refine pm_dup dMo_node_41 rfl ?_
  refine pm_geti dMo_node_42 fMo_116 rfl ?_
  refine pm_eqi (I 40 34) rfl ?_
  refine pm_dup_x1 dMo_node_45 rfl rfl ?_
  refine pm_iconst (v := 1) dMo_node_46 (by decide) ?_
  refine pm_iadd dMo_node_47 ?_
  refine pm_puti dMo_node_48 fMo_116 sMo_116 (fun h => by cases h) rfl rfl rfl ?_
  exact pm_iret dMo_node_51 rfl (ho.trans (by first | rfl | (simp only [fMo_node]; done) | (simp only [fMo_node]; rfl))) (hz.trans (by first | rfl | (simp only [fMo_node]; done) | (simp only [fMo_node]; rfl)))
set_option maxHeartbeats 4000000 in
set_option maxRecDepth 100000 in
theorem Mo_node_ok (g : pmG) (d : Nat) (ex : List (Nat × Nat)) (R : Nat → Nat → Value) (hR : mk_R R)  (x0 : Int32) (x1 : Int32) (x2 : Int32) (I : Nat → Nat → Int32) (J : Nat → Nat → Int64) (hp : pMo_node x0 x1 x2 I) : pmC g kMo_node d 0 0 [.ref 40, .int x0, .int x1, .int x2] (mk_K ++ ex, R, I, J) (.returned (some (.int (fMo_node x0 x1 x2 I).1))) (mk_K ++ ex, R, (fMo_node x0 x1 x2 I).2, J) :=
  pmC.of (by decide) (Nat.le_of_ble_eq_true rfl) (Mo_node_n0 g d ex R hR J _ _  x0 x1 x2 I hp rfl rfl)
def fMo_make  (y1 : Int32) (y2 : Int32) (y3 : Int32) (I : Nat → Nat → Int32) : Int32 × (Nat → Nat → Int32) :=
  (I 40 38, pm_u (pm_u (pm_u (pm_u I 57 (I 40 38).toNatClampNeg y1) 58 (I 40 38).toNatClampNeg y2) 59 (I 40 38).toNatClampNeg y3) 40 38 ((I 40 38) + (1 : Int32)))
def pMo_make  (y1 : Int32) (y2 : Int32) (y3 : Int32) (I : Nat → Nat → Int32) : Prop :=
  (vp_in (I 40 38) 4200) ∧ ((vp_in (I 40 38) 4200) ∧ ((vp_in (I 40 38) 4200) ∧ True))
set_option maxHeartbeats 4000000 in
set_option maxRecDepth 100000 in
theorem Mo_make_n0 (g : pmG) (d : Nat) (ex : List (Nat × Nat)) (R : Nat → Nat → Value) (hR : mk_R R) (J : Nat → Nat → Int64) (o : Outcome) (Z : pmM)  (y1 : Int32) (y2 : Int32) (y3 : Int32) (I : Nat → Nat → Int32) (hp : pMo_make y1 y2 y3 I) (ho : o = .returned (some (.int (fMo_make y1 y2 y3 I).1))) (hz : Z = (mk_K ++ ex, R, (fMo_make y1 y2 y3 I).2, J)) : pmE g kMo_make d 0 0 0 [(0, .ref 40), (1, .int y1), (2, .int y2), (3, .int y3)] [] (mk_K ++ ex) R I J o Z := by
  unfold pMo_make at hp
  refine pm_aload_n dMo_make_0 rfl ?_
  refine pm_getr dMo_make_1 fMo_119 rfl (rr_40_35 hR) ?_
  refine pm_aload_n dMo_make_4 rfl ?_
  refine pm_geti dMo_make_5 fMo_128 rfl ?_
  refine pm_iload_n dMo_make_8 rfl ?_
  refine pm_iast dMo_make_9 rfl hp.1 ?_
  refine pm_aload_n dMo_make_10 rfl ?_
  refine pm_getr dMo_make_11 fMo_122 rfl (rr_40_36 hR) ?_
  refine pm_aload_n dMo_make_14 rfl ?_
  refine pm_geti dMo_make_15 fMo_128 rfl ?_
  refine pm_eqi (I 40 38) rfl ?_
  refine pm_iload_n dMo_make_18 rfl ?_
  refine pm_iast dMo_make_19 rfl hp.2.1 ?_
  refine pm_aload_n dMo_make_20 rfl ?_
  refine pm_getr dMo_make_21 fMo_125 rfl (rr_40_37 hR) ?_
  refine pm_aload_n dMo_make_24 rfl ?_
  refine pm_geti dMo_make_25 fMo_128 rfl ?_
  refine pm_eqi (I 40 38) rfl ?_
  refine pm_iload_n dMo_make_28 rfl ?_
  refine pm_iast dMo_make_29 rfl hp.2.2.1 ?_
  refine pm_aload_n dMo_make_30 rfl ?_
  refine pm_dup dMo_make_31 rfl ?_
  refine pm_geti dMo_make_32 fMo_128 rfl ?_
  refine pm_eqi (I 40 38) rfl ?_
  refine pm_dup_x1 dMo_make_35 rfl rfl ?_
  refine pm_iconst (v := 1) dMo_make_36 (by decide) ?_
  refine pm_iadd dMo_make_37 ?_
  refine pm_puti dMo_make_38 fMo_128 sMo_128 (fun h => by cases h) rfl rfl rfl ?_
  exact pm_iret dMo_make_41 rfl (ho.trans (by first | rfl | (simp only [fMo_make]; done) | (simp only [fMo_make]; rfl))) (hz.trans (by first | rfl | (simp only [fMo_make]; done) | (simp only [fMo_make]; rfl)))
set_option maxHeartbeats 4000000 in
set_option maxRecDepth 100000 in
theorem Mo_make_ok (g : pmG) (d : Nat) (ex : List (Nat × Nat)) (R : Nat → Nat → Value) (hR : mk_R R)  (x0 : Int32) (x1 : Int32) (x2 : Int32) (I : Nat → Nat → Int32) (J : Nat → Nat → Int64) (hp : pMo_make x0 x1 x2 I) : pmC g kMo_make d 0 0 [.ref 40, .int x0, .int x1, .int x2] (mk_K ++ ex, R, I, J) (.returned (some (.int (fMo_make x0 x1 x2 I).1))) (mk_K ++ ex, R, (fMo_make x0 x1 x2 I).2, J) :=
  pmC.of (by decide) (Nat.le_of_ble_eq_true rfl) (Mo_make_n0 g d ex R hR J _ _  x0 x1 x2 I hp rfl rfl)
def fMo_clear  (I : Nat → Nat → Int32) : (Nat → Nat → Int32) :=
  pm_u (pm_u (pm_u (pm_u (pm_u (pm_u (pm_u (pm_u (pm_u (pm_u (pm_u (pm_u (pm_u I 40 5 (0 : Int32)) 40 10 (0 : Int32)) 40 9 (0 : Int32)) 40 11 (0 : Int32)) 40 16 (0 : Int32)) 40 34 (0 : Int32)) 40 38 (0 : Int32)) 40 23 (0 : Int32)) 40 24 (0 : Int32)) 40 25 (0 : Int32)) 40 26 (0 : Int32)) 40 27 (0 : Int32)) 40 28 (0 : Int32)
def pMo_clear  (I : Nat → Nat → Int32) : Prop :=
  True
set_option maxHeartbeats 4000000 in
set_option maxRecDepth 100000 in
theorem Mo_clear_n0 (g : pmG) (d : Nat) (ex : List (Nat × Nat)) (R : Nat → Nat → Value) (hR : mk_R R) (J : Nat → Nat → Int64) (o : Outcome) (Z : pmM)  (I : Nat → Nat → Int32) (hp : pMo_clear I) (ho : o = .returned none) (hz : Z = (mk_K ++ ex, R, (fMo_clear I), J)) : pmE g kMo_clear d 0 0 0 [(0, .ref 40)] [] (mk_K ++ ex) R I J o Z := by
  unfold pMo_clear at hp
  refine pm_aload_n dMo_clear_0 rfl ?_
  refine pm_iconst (v := 0) dMo_clear_1 (by decide) ?_
  refine pm_puti dMo_clear_2 fMo_27 sMo_27 (fun h => by cases h) rfl rfl rfl ?_
  refine pm_aload_n dMo_clear_5 rfl ?_
  refine pm_iconst (v := 0) dMo_clear_6 (by decide) ?_
  refine pm_puti dMo_clear_7 fMo_42 sMo_42 (fun h => by cases h) rfl (by decide) rfl ?_
  refine pm_aload_n dMo_clear_10 rfl ?_
  refine pm_iconst (v := 0) dMo_clear_11 (by decide) ?_
  refine pm_puti dMo_clear_12 fMo_39 sMo_39 (fun h => by cases h) rfl rfl rfl ?_
  refine pm_aload_n dMo_clear_15 rfl ?_
  refine pm_iconst (v := 0) dMo_clear_16 (by decide) ?_
  refine pm_puti dMo_clear_17 fMo_46 sMo_46 (fun h => by cases h) rfl rfl rfl ?_
  refine pm_aload_n dMo_clear_20 rfl ?_
  refine pm_iconst (v := 0) dMo_clear_21 (by decide) ?_
  refine pm_puti dMo_clear_22 fMo_62 sMo_62 (fun h => by cases h) rfl rfl rfl ?_
  refine pm_aload_n dMo_clear_25 rfl ?_
  refine pm_iconst (v := 0) dMo_clear_26 (by decide) ?_
  refine pm_puti dMo_clear_27 fMo_116 sMo_116 (fun h => by cases h) rfl rfl rfl ?_
  refine pm_aload_n dMo_clear_30 rfl ?_
  refine pm_iconst (v := 0) dMo_clear_31 (by decide) ?_
  refine pm_puti dMo_clear_32 fMo_128 sMo_128 (fun h => by cases h) rfl rfl rfl ?_
  refine pm_aload_n dMo_clear_35 rfl ?_
  refine pm_iconst (v := 0) dMo_clear_36 (by decide) ?_
  refine pm_puti dMo_clear_37 fMo_83 sMo_83 (fun h => by cases h) rfl rfl rfl ?_
  refine pm_aload_n dMo_clear_40 rfl ?_
  refine pm_iconst (v := 0) dMo_clear_41 (by decide) ?_
  refine pm_puti dMo_clear_42 fMo_86 sMo_86 (fun h => by cases h) rfl rfl rfl ?_
  refine pm_aload_n dMo_clear_45 rfl ?_
  refine pm_iconst (v := 0) dMo_clear_46 (by decide) ?_
  refine pm_puti dMo_clear_47 fMo_89 sMo_89 (fun h => by cases h) rfl rfl rfl ?_
  refine pm_aload_n dMo_clear_50 rfl ?_
  refine pm_iconst (v := 0) dMo_clear_51 (by decide) ?_
  refine pm_puti dMo_clear_52 fMo_92 sMo_92 (fun h => by cases h) rfl rfl rfl ?_
  refine pm_aload_n dMo_clear_55 rfl ?_
  refine pm_iconst (v := 0) dMo_clear_56 (by decide) ?_
  refine pm_puti dMo_clear_57 fMo_95 sMo_95 (fun h => by cases h) rfl rfl rfl ?_
  refine pm_aload_n dMo_clear_60 rfl ?_
  refine pm_iconst (v := 0) dMo_clear_61 (by decide) ?_
  refine pm_puti dMo_clear_62 fMo_98 sMo_98 (fun h => by cases h) rfl rfl rfl ?_
  exact pm_vret dMo_clear_65 rfl ho (hz.trans (by first | rfl | (simp only [fMo_clear]; done) | (simp only [fMo_clear]; rfl)))
set_option maxHeartbeats 4000000 in
set_option maxRecDepth 100000 in
theorem Mo_clear_ok (g : pmG) (d : Nat) (ex : List (Nat × Nat)) (R : Nat → Nat → Value) (hR : mk_R R)   (I : Nat → Nat → Int32) (J : Nat → Nat → Int64) (hp : pMo_clear I) : pmC g kMo_clear d 0 0 [.ref 40] (mk_K ++ ex, R, I, J) (.returned none) (mk_K ++ ex, R, (fMo_clear I), J) :=
  pmC.of (by decide) (Nat.le_of_ble_eq_true rfl) (Mo_clear_n0 g d ex R hR J _ _   I hp rfl rfl)
def fMo_named_82 (r2 : Int32 → (Nat → Nat → Int32) → Int32) (r36 : Int32 → Int32 → Int32 → (Nat → Nat → Int32) → Int32) (y1 : Int32) (y2 : Int32) (y3 : Int32) (z0 : Int32) (I : Nat → Nat → Int32) : Int32 :=
  r36 y1 z0 (y3 + Int32.ofInt 1) I
def pMo_named_82 (q2 : Int32 → (Nat → Nat → Int32) → Prop) (q36 : Int32 → Int32 → Int32 → (Nat → Nat → Int32) → Prop) (y1 : Int32) (y2 : Int32) (y3 : Int32) (z0 : Int32) (I : Nat → Nat → Int32) : Prop :=
  q36 y1 z0 (y3 + Int32.ofInt 1) I
def fMo_named_89 (r2 : Int32 → (Nat → Nat → Int32) → Int32) (y1 : Int32) (y2 : Int32) (y3 : Int32) (I : Nat → Nat → Int32) : Int32 :=
  if y2 = 0 then r2 (y1 + Int32.ofInt 1) I
  else y1
def pMo_named_89 (q2 : Int32 → (Nat → Nat → Int32) → Prop) (y1 : Int32) (y2 : Int32) (y3 : Int32) (I : Nat → Nat → Int32) : Prop :=
  (y2 = 0 → q2 (y1 + Int32.ofInt 1) I) ∧
  (¬ (y2 = 0) → True)
def fMo_named_36 (r2 : Int32 → (Nat → Nat → Int32) → Int32) : Nat → Int32 → Int32 → Int32 → (Nat → Nat → Int32) → Int32
  | 0, _, _, _, _ => 0
  | n + 1, y1, y2, y3, I =>
  if y2 = 0 then fMo_named_89 r2 y1 y2 y3 I
  else if (I 43 y1.toNatClampNeg) ≤ y3 then fMo_named_89 r2 y1 y2 y3 I
    else if (I 41 ((I 42 y1.toNatClampNeg) + y3).toNatClampNeg) = (I 41 ((I 40 7) + y3).toNatClampNeg) then fMo_named_82 r2 (fMo_named_36 r2 n) y1 y2 y3 (1 : Int32) I
      else fMo_named_82 r2 (fMo_named_36 r2 n) y1 y2 y3 (0 : Int32) I
def pMo_named_36 (q2 : Int32 → (Nat → Nat → Int32) → Prop) : Nat → Int32 → Int32 → Int32 → (Nat → Nat → Int32) → Prop
  | 0, _, _, _, _ => False
  | n + 1, y1, y2, y3, I =>
  (y2 = 0 → pMo_named_89 q2 y1 y2 y3 I) ∧
  (¬ (y2 = 0) → (vp_in y1 60) ∧ (((I 43 y1.toNatClampNeg) ≤ y3 → pMo_named_89 q2 y1 y2 y3 I) ∧
    (¬ ((I 43 y1.toNatClampNeg) ≤ y3) → (vp_in y1 60) ∧ ((vp_in ((I 42 y1.toNatClampNeg) + y3) 65536) ∧ ((vp_in ((I 40 7) + y3) 65536) ∧ (((I 41 ((I 42 y1.toNatClampNeg) + y3).toNatClampNeg) = (I 41 ((I 40 7) + y3).toNatClampNeg) → pMo_named_82 q2 (pMo_named_36 q2 n) y1 y2 y3 (1 : Int32) I) ∧
      (¬ ((I 41 ((I 42 y1.toNatClampNeg) + y3).toNatClampNeg) = (I 41 ((I 40 7) + y3).toNatClampNeg)) → pMo_named_82 q2 (pMo_named_36 q2 n) y1 y2 y3 (0 : Int32) I)))))))
def fMo_named_33 (r2 : Int32 → (Nat → Nat → Int32) → Int32) (n36 : Nat) (y1 : Int32) (z0 : Int32) (I : Nat → Nat → Int32) : Int32 :=
  fMo_named_36 r2 n36 y1 z0 (0 : Int32) I
def pMo_named_33 (q2 : Int32 → (Nat → Nat → Int32) → Prop) (n36 : Nat) (y1 : Int32) (z0 : Int32) (I : Nat → Nat → Int32) : Prop :=
  pMo_named_36 q2 n36 y1 z0 (0 : Int32) I
def fMo_named_2 (n36 : Nat) : Nat → Int32 → (Nat → Nat → Int32) → Int32
  | 0, _, _ => 0
  | n + 1, y1, I =>
  if (I 40 16) ≤ y1 then (-1 : Int32)
  else if (I 43 y1.toNatClampNeg) = ((I 40 8) - (I 40 7)) then fMo_named_33 (fMo_named_2 n36 n) n36 y1 (1 : Int32) I
    else fMo_named_33 (fMo_named_2 n36 n) n36 y1 (0 : Int32) I
def pMo_named_2 (n36 : Nat) : Nat → Int32 → (Nat → Nat → Int32) → Prop
  | 0, _, _ => False
  | n + 1, y1, I =>
  ((I 40 16) ≤ y1 → True) ∧
  (¬ ((I 40 16) ≤ y1) → (vp_in y1 60) ∧ (((I 43 y1.toNatClampNeg) = ((I 40 8) - (I 40 7)) → pMo_named_33 (pMo_named_2 n36 n) n36 y1 (1 : Int32) I) ∧
    (¬ ((I 43 y1.toNatClampNeg) = ((I 40 8) - (I 40 7))) → pMo_named_33 (pMo_named_2 n36 n) n36 y1 (0 : Int32) I)))
def fMo_named (n36 : Nat) (n2 : Nat) (I : Nat → Nat → Int32) : Int32 :=
  fMo_named_2 n36 n2 (0 : Int32) I
def pMo_named (n36 : Nat) (n2 : Nat) (I : Nat → Nat → Int32) : Prop :=
  pMo_named_2 n36 n2 (0 : Int32) I
set_option maxHeartbeats 4000000 in
set_option maxRecDepth 100000 in
theorem Mo_named_n82 (g : pmG) (d : Nat) (ex : List (Nat × Nat)) (R : Nat → Nat → Value) (hR : mk_R R) (J : Nat → Nat → Int64) (o : Outcome) (Z : pmM) (r2 : Int32 → (Nat → Nat → Int32) → Int32) (q2 : Int32 → (Nat → Nat → Int32) → Prop) (ih2 : ∀ (y1 : Int32) (I : Nat → Nat → Int32), q2 y1 I → o = .returned (some (.int (r2 y1 I))) → Z = (mk_K ++ ex, R, I, J) → pmE g kMo_named d 0 0 2 [(0, .ref 40), (1, .int y1)] [] (mk_K ++ ex) R I J o Z) (r36 : Int32 → Int32 → Int32 → (Nat → Nat → Int32) → Int32) (q36 : Int32 → Int32 → Int32 → (Nat → Nat → Int32) → Prop) (ih36 : ∀ (y1 : Int32) (y2 : Int32) (y3 : Int32) (I : Nat → Nat → Int32), q36 y1 y2 y3 I → o = .returned (some (.int (r36 y1 y2 y3 I))) → Z = (mk_K ++ ex, R, I, J) → pmE g kMo_named d 0 0 36 [(0, .ref 40), (1, .int y1), (2, .int y2), (3, .int y3)] [] (mk_K ++ ex) R I J o Z)  (y1 : Int32) (y2 : Int32) (y3 : Int32) (z0 : Int32) (I : Nat → Nat → Int32) (hp : pMo_named_82 q2 q36 y1 y2 y3 z0 I) (ho : o = .returned (some (.int (fMo_named_82 r2 r36 y1 y2 y3 z0 I)))) (hz : Z = (mk_K ++ ex, R, I, J)) : pmE g kMo_named d 0 0 82 [(0, .ref 40), (1, .int y1), (2, .int y2), (3, .int y3)] [.int z0] (mk_K ++ ex) R I J o Z := by
  unfold pMo_named_82 at hp
  refine pm_istore_n dMo_named_82 (by decide) rfl ?_
  refine pm_iinc dMo_named_83 rfl (by decide) rfl ?_
  refine pm_goto 36 dMo_named_86 (by decide) ?_
  refine pm_wk [2, 3, 1, 0] rfl ?_
  exact ih36 _ _ _ _ hp (ho.trans (by first | rfl | (simp only [fMo_named_82]; done) | (simp only [fMo_named_82]; rfl))) (hz.trans (by first | rfl | (simp only [fMo_named_82]; done) | (simp only [fMo_named_82]; rfl)))
set_option maxHeartbeats 4000000 in
set_option maxRecDepth 100000 in
theorem Mo_named_n89 (g : pmG) (d : Nat) (ex : List (Nat × Nat)) (R : Nat → Nat → Value) (hR : mk_R R) (J : Nat → Nat → Int64) (o : Outcome) (Z : pmM) (r2 : Int32 → (Nat → Nat → Int32) → Int32) (q2 : Int32 → (Nat → Nat → Int32) → Prop) (ih2 : ∀ (y1 : Int32) (I : Nat → Nat → Int32), q2 y1 I → o = .returned (some (.int (r2 y1 I))) → Z = (mk_K ++ ex, R, I, J) → pmE g kMo_named d 0 0 2 [(0, .ref 40), (1, .int y1)] [] (mk_K ++ ex) R I J o Z)  (y1 : Int32) (y2 : Int32) (y3 : Int32) (I : Nat → Nat → Int32) (hp : pMo_named_89 q2 y1 y2 y3 I) (ho : o = .returned (some (.int (fMo_named_89 r2 y1 y2 y3 I)))) (hz : Z = (mk_K ++ ex, R, I, J)) : pmE g kMo_named d 0 0 89 [(0, .ref 40), (1, .int y1), (2, .int y2), (3, .int y3)] [] (mk_K ++ ex) R I J o Z := by
  unfold pMo_named_89 at hp
  refine pm_iload_n dMo_named_89 rfl ?_
  refine pm_if_eq 95 dMo_named_90 (by decide) (fun h90 => ?_) (fun h90 => ?_)
  ·
    refine pm_iinc dMo_named_95 rfl (by decide) rfl ?_
    refine pm_goto 2 dMo_named_98 (by decide) ?_
    refine pm_wk [1, 0] rfl ?_
    exact ih2 _ _ (hp.1 h90) (ho.trans (by first | (simp only [fMo_named_89, if_pos h90]; done) | (simp only [fMo_named_89, if_pos h90]; rfl) | rfl)) (hz.trans (by first | (simp only [fMo_named_89, if_pos h90]; done) | (simp only [fMo_named_89, if_pos h90]; rfl) | rfl))
  ·
    refine pm_iload_n dMo_named_93 rfl ?_
    exact pm_iret dMo_named_94 rfl (ho.trans (by first | (simp only [fMo_named_89, if_neg h90]; done) | (simp only [fMo_named_89, if_neg h90]; rfl) | rfl)) (hz.trans (by first | (simp only [fMo_named_89, if_neg h90]; done) | (simp only [fMo_named_89, if_neg h90]; rfl) | rfl))
set_option maxHeartbeats 4000000 in
set_option maxRecDepth 100000 in
theorem Mo_named_n36 (g : pmG) (d : Nat) (ex : List (Nat × Nat)) (R : Nat → Nat → Value) (hR : mk_R R) (J : Nat → Nat → Int64) (o : Outcome) (Z : pmM) (r2 : Int32 → (Nat → Nat → Int32) → Int32) (q2 : Int32 → (Nat → Nat → Int32) → Prop) (ih2 : ∀ (y1 : Int32) (I : Nat → Nat → Int32), q2 y1 I → o = .returned (some (.int (r2 y1 I))) → Z = (mk_K ++ ex, R, I, J) → pmE g kMo_named d 0 0 2 [(0, .ref 40), (1, .int y1)] [] (mk_K ++ ex) R I J o Z)  : ∀ (n : Nat) (y1 : Int32) (y2 : Int32) (y3 : Int32) (I : Nat → Nat → Int32), pMo_named_36 q2 n y1 y2 y3 I → o = .returned (some (.int (fMo_named_36 r2 n y1 y2 y3 I))) → Z = (mk_K ++ ex, R, I, J) → pmE g kMo_named d 0 0 36 [(0, .ref 40), (1, .int y1), (2, .int y2), (3, .int y3)] [] (mk_K ++ ex) R I J o Z := by
  intro n
  induction n with
  | zero => intro y1 y2 y3 I hp; exact False.elim hp
  | succ n ih =>
  intro y1 y2 y3 I hp ho hz
  simp only [pMo_named_36] at hp
  refine pm_iload_n dMo_named_36 rfl ?_
  refine pm_if_eq 89 dMo_named_37 (by decide) (fun h37 => ?_) (fun h37 => ?_)
  ·
    refine pm_wk [0, 1, 2, 3] rfl ?_
    exact Mo_named_n89 g d ex R hR J _ _ r2 q2 ih2  _ _ _ _ (hp.1 h37) (ho.trans (by first | (simp only [fMo_named_36, if_pos h37]; done) | (simp only [fMo_named_36, if_pos h37]; rfl) | rfl)) (hz.trans (by first | (simp only [fMo_named_36, if_pos h37]; done) | (simp only [fMo_named_36, if_pos h37]; rfl) | rfl))
  ·
    refine pm_iload_n dMo_named_40 rfl ?_
    refine pm_aload_n dMo_named_41 rfl ?_
    refine pm_getr dMo_named_42 fMo_53 rfl (rr_40_13 hR) ?_
    refine pm_iload_n dMo_named_45 rfl ?_
    refine pm_iald dMo_named_46 rfl (hp.2 h37).1 ?_
    refine pm_icmp_ge 89 dMo_named_47 (by decide) (fun h47 => ?_) (fun h47 => ?_)
    ·
      refine pm_wk [0, 1, 2, 3] rfl ?_
      exact Mo_named_n89 g d ex R hR J _ _ r2 q2 ih2  _ _ _ _ ((hp.2 h37).2.1 h47) (ho.trans (by first | (simp only [fMo_named_36, if_neg h37, if_pos h47]; done) | (simp only [fMo_named_36, if_neg h37, if_pos h47]; rfl) | rfl)) (hz.trans (by first | (simp only [fMo_named_36, if_neg h37, if_pos h47]; done) | (simp only [fMo_named_36, if_neg h37, if_pos h47]; rfl) | rfl))
    ·
      refine pm_aload_n dMo_named_50 rfl ?_
      refine pm_getr dMo_named_51 fMo_8 rfl (rr_40_0 hR) ?_
      refine pm_aload_n dMo_named_54 rfl ?_
      refine pm_getr dMo_named_55 fMo_49 rfl (rr_40_12 hR) ?_
      refine pm_iload_n dMo_named_58 rfl ?_
      refine pm_iald dMo_named_59 rfl ((hp.2 h37).2.2 h47).1 ?_
      refine pm_iload_n dMo_named_60 rfl ?_
      refine pm_iadd dMo_named_61 ?_
      refine pm_bald dMo_named_62 rfl ((hp.2 h37).2.2 h47).2.1 ?_
      refine pm_aload_n dMo_named_63 rfl ?_
      refine pm_getr dMo_named_64 fMo_8 rfl (rr_40_0 hR) ?_
      refine pm_aload_n dMo_named_67 rfl ?_
      refine pm_geti dMo_named_68 fMo_33 rfl ?_
      refine pm_iload_n dMo_named_71 rfl ?_
      refine pm_iadd dMo_named_72 ?_
      refine pm_bald dMo_named_73 rfl ((hp.2 h37).2.2 h47).2.2.1 ?_
      refine pm_icmp_ne 81 dMo_named_74 (by decide) (fun h74 => ?_) (fun h74 => ?_)
      ·
        refine pm_iconst (v := 0) dMo_named_81 (by decide) ?_
        refine pm_wk [0, 1, 2, 3] rfl ?_
        exact Mo_named_n82 g d ex R hR J _ _ r2 q2 ih2 (fMo_named_36 r2 n) (pMo_named_36 q2 n) ih  _ _ _ _ _ (((hp.2 h37).2.2 h47).2.2.2.2 h74) (ho.trans (by first | (simp only [fMo_named_36, if_neg h37, if_neg h47, if_neg h74]; done) | (simp only [fMo_named_36, if_neg h37, if_neg h47, if_neg h74]; rfl) | rfl)) (hz.trans (by first | (simp only [fMo_named_36, if_neg h37, if_neg h47, if_neg h74]; done) | (simp only [fMo_named_36, if_neg h37, if_neg h47, if_neg h74]; rfl) | rfl))
      ·
        refine pm_iconst (v := 1) dMo_named_77 (by decide) ?_
        refine pm_goto 82 dMo_named_78 (by decide) ?_
        refine pm_wk [0, 1, 2, 3] rfl ?_
        exact Mo_named_n82 g d ex R hR J _ _ r2 q2 ih2 (fMo_named_36 r2 n) (pMo_named_36 q2 n) ih  _ _ _ _ _ (((hp.2 h37).2.2 h47).2.2.2.1 h74) (ho.trans (by first | (simp only [fMo_named_36, if_neg h37, if_neg h47, if_pos h74]; done) | (simp only [fMo_named_36, if_neg h37, if_neg h47, if_pos h74]; rfl) | rfl)) (hz.trans (by first | (simp only [fMo_named_36, if_neg h37, if_neg h47, if_pos h74]; done) | (simp only [fMo_named_36, if_neg h37, if_neg h47, if_pos h74]; rfl) | rfl))
set_option maxHeartbeats 4000000 in
set_option maxRecDepth 100000 in
theorem Mo_named_n33 (g : pmG) (d : Nat) (ex : List (Nat × Nat)) (R : Nat → Nat → Value) (hR : mk_R R) (J : Nat → Nat → Int64) (o : Outcome) (Z : pmM) (r2 : Int32 → (Nat → Nat → Int32) → Int32) (q2 : Int32 → (Nat → Nat → Int32) → Prop) (ih2 : ∀ (y1 : Int32) (I : Nat → Nat → Int32), q2 y1 I → o = .returned (some (.int (r2 y1 I))) → Z = (mk_K ++ ex, R, I, J) → pmE g kMo_named d 0 0 2 [(0, .ref 40), (1, .int y1)] [] (mk_K ++ ex) R I J o Z) (n36 : Nat) (y1 : Int32) (z0 : Int32) (I : Nat → Nat → Int32) (hp : pMo_named_33 q2 n36 y1 z0 I) (ho : o = .returned (some (.int (fMo_named_33 r2 n36 y1 z0 I)))) (hz : Z = (mk_K ++ ex, R, I, J)) : pmE g kMo_named d 0 0 33 [(0, .ref 40), (1, .int y1)] [.int z0] (mk_K ++ ex) R I J o Z := by
  unfold pMo_named_33 at hp
  refine pm_istore_n dMo_named_33 (by decide) rfl ?_
  refine pm_iconst (v := 0) dMo_named_34 (by decide) ?_
  refine pm_istore_n dMo_named_35 (by decide) rfl ?_
  refine pm_wk [2, 3, 1, 0] rfl ?_
  exact Mo_named_n36 g d ex R hR J _ _ r2 q2 ih2 n36 _ _ _ _ hp (ho.trans (by first | rfl | (simp only [fMo_named_33]; done) | (simp only [fMo_named_33]; rfl))) (hz.trans (by first | rfl | (simp only [fMo_named_33]; done) | (simp only [fMo_named_33]; rfl)))
set_option maxHeartbeats 4000000 in
set_option maxRecDepth 100000 in
theorem Mo_named_n2 (g : pmG) (d : Nat) (ex : List (Nat × Nat)) (R : Nat → Nat → Value) (hR : mk_R R) (J : Nat → Nat → Int64) (o : Outcome) (Z : pmM) (n36 : Nat) : ∀ (n : Nat) (y1 : Int32) (I : Nat → Nat → Int32), pMo_named_2 n36 n y1 I → o = .returned (some (.int (fMo_named_2 n36 n y1 I))) → Z = (mk_K ++ ex, R, I, J) → pmE g kMo_named d 0 0 2 [(0, .ref 40), (1, .int y1)] [] (mk_K ++ ex) R I J o Z := by
  intro n
  induction n with
  | zero => intro y1 I hp; exact False.elim hp
  | succ n ih =>
  intro y1 I hp ho hz
  simp only [pMo_named_2] at hp
  refine pm_iload_n dMo_named_2 rfl ?_
  refine pm_aload_n dMo_named_3 rfl ?_
  refine pm_geti dMo_named_4 fMo_62 rfl ?_
  refine pm_icmp_ge 101 dMo_named_7 (by decide) (fun h7 => ?_) (fun h7 => ?_)
  ·
    refine pm_iconst (v := (-1)) dMo_named_101 (by decide) ?_
    exact pm_iret dMo_named_102 rfl (ho.trans (by first | (simp only [fMo_named_2, if_pos h7]; done) | (simp only [fMo_named_2, if_pos h7]; rfl) | rfl)) (hz.trans (by first | (simp only [fMo_named_2, if_pos h7]; done) | (simp only [fMo_named_2, if_pos h7]; rfl) | rfl))
  ·
    refine pm_aload_n dMo_named_10 rfl ?_
    refine pm_getr dMo_named_11 fMo_53 rfl (rr_40_13 hR) ?_
    refine pm_iload_n dMo_named_14 rfl ?_
    refine pm_iald dMo_named_15 rfl (hp.2 h7).1 ?_
    refine pm_aload_n dMo_named_16 rfl ?_
    refine pm_geti dMo_named_17 fMo_36 rfl ?_
    refine pm_aload_n dMo_named_20 rfl ?_
    refine pm_geti dMo_named_21 fMo_33 rfl ?_
    refine pm_isub dMo_named_24 ?_
    refine pm_icmp_ne 32 dMo_named_25 (by decide) (fun h25 => ?_) (fun h25 => ?_)
    ·
      refine pm_iconst (v := 0) dMo_named_32 (by decide) ?_
      refine pm_wk [0, 1] rfl ?_
      exact Mo_named_n33 g d ex R hR J _ _ (fMo_named_2 n36 n) (pMo_named_2 n36 n) ih n36 _ _ _ ((hp.2 h7).2.2 h25) (ho.trans (by first | (simp only [fMo_named_2, if_neg h7, if_neg h25]; done) | (simp only [fMo_named_2, if_neg h7, if_neg h25]; rfl) | rfl)) (hz.trans (by first | (simp only [fMo_named_2, if_neg h7, if_neg h25]; done) | (simp only [fMo_named_2, if_neg h7, if_neg h25]; rfl) | rfl))
    ·
      refine pm_iconst (v := 1) dMo_named_28 (by decide) ?_
      refine pm_goto 33 dMo_named_29 (by decide) ?_
      refine pm_wk [0, 1] rfl ?_
      exact Mo_named_n33 g d ex R hR J _ _ (fMo_named_2 n36 n) (pMo_named_2 n36 n) ih n36 _ _ _ ((hp.2 h7).2.1 h25) (ho.trans (by first | (simp only [fMo_named_2, if_neg h7, if_pos h25]; done) | (simp only [fMo_named_2, if_neg h7, if_pos h25]; rfl) | rfl)) (hz.trans (by first | (simp only [fMo_named_2, if_neg h7, if_pos h25]; done) | (simp only [fMo_named_2, if_neg h7, if_pos h25]; rfl) | rfl))
set_option maxHeartbeats 4000000 in
set_option maxRecDepth 100000 in
theorem Mo_named_n0 (g : pmG) (d : Nat) (ex : List (Nat × Nat)) (R : Nat → Nat → Value) (hR : mk_R R) (J : Nat → Nat → Int64) (o : Outcome) (Z : pmM) (n36 : Nat) (n2 : Nat) (I : Nat → Nat → Int32) (hp : pMo_named n36 n2 I) (ho : o = .returned (some (.int (fMo_named n36 n2 I)))) (hz : Z = (mk_K ++ ex, R, I, J)) : pmE g kMo_named d 0 0 0 [(0, .ref 40)] [] (mk_K ++ ex) R I J o Z := by
  unfold pMo_named at hp
  refine pm_iconst (v := 0) dMo_named_0 (by decide) ?_
  refine pm_istore_n dMo_named_1 (by decide) rfl ?_
  refine pm_wk [1, 0] rfl ?_
  exact Mo_named_n2 g d ex R hR J _ _  n36 n2 _ _ hp (ho.trans (by first | rfl | (simp only [fMo_named]; done) | (simp only [fMo_named]; rfl))) (hz.trans (by first | rfl | (simp only [fMo_named]; done) | (simp only [fMo_named]; rfl)))
set_option maxHeartbeats 4000000 in
set_option maxRecDepth 100000 in
theorem Mo_named_ok (g : pmG) (d : Nat) (ex : List (Nat × Nat)) (R : Nat → Nat → Value) (hR : mk_R R) (n36 : Nat) (n2 : Nat)  (I : Nat → Nat → Int32) (J : Nat → Nat → Int64) (hp : pMo_named n36 n2 I) : pmC g kMo_named d 0 0 [.ref 40] (mk_K ++ ex, R, I, J) (.returned (some (.int (fMo_named n36 n2 I)))) (mk_K ++ ex, R, I, J) :=
  pmC.of (by decide) (Nat.le_of_ble_eq_true rfl) (Mo_named_n0 g d ex R hR J _ _ n36 n2  I hp rfl rfl)
