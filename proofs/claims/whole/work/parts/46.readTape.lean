def fRd_readTape_127 (r26 : Int32 → (Nat → Nat → Int32) → (Nat → Nat → Int64) → Value → (Nat → Nat → Int32) × Value) (y1 : Int32) (I : Nat → Nat → Int32) (J : Nat → Nat → Int64) (c : Value) : (Nat → Nat → Int32) × Value :=
  r26 (y1 + Int32.ofInt 1) I J c
def pRd_readTape_127 (q26 : Int32 → (Nat → Nat → Int32) → (Nat → Nat → Int64) → Value → Prop) (y1 : Int32) (I : Nat → Nat → Int32) (J : Nat → Nat → Int64) (c : Value) : Prop :=
  q26 (y1 + Int32.ofInt 1) I J c
def fRd_readTape_92 (r26 : Int32 → (Nat → Nat → Int32) → (Nat → Nat → Int64) → Value → (Nat → Nat → Int32) × Value) (y1 : Int32) (I : Nat → Nat → Int32) (J : Nat → Nat → Int64) (c : Value) : (Nat → Nat → Int32) × Value :=
  fRd_readTape_127 r26 y1 I J c
def pRd_readTape_92 (q26 : Int32 → (Nat → Nat → Int32) → (Nat → Nat → Int64) → Value → Prop) (y1 : Int32) (I : Nat → Nat → Int32) (J : Nat → Nat → Int64) (c : Value) : Prop :=
  pRd_readTape_127 q26 y1 I J c
def fRd_readTape_99 (r26 : Int32 → (Nat → Nat → Int32) → (Nat → Nat → Int64) → Value → (Nat → Nat → Int32) × Value) (y1 : Int32) (I : Nat → Nat → Int32) (J : Nat → Nat → Int64) (c : Value) : (Nat → Nat → Int32) × Value :=
  fRd_readTape_127 r26 y1 I J c
def pRd_readTape_99 (q26 : Int32 → (Nat → Nat → Int32) → (Nat → Nat → Int64) → Value → Prop) (y1 : Int32) (I : Nat → Nat → Int32) (J : Nat → Nat → Int64) (c : Value) : Prop :=
  pRd_readTape_127 q26 y1 I J c
def fRd_readTape_106 (r26 : Int32 → (Nat → Nat → Int32) → (Nat → Nat → Int64) → Value → (Nat → Nat → Int32) × Value) (y1 : Int32) (I : Nat → Nat → Int32) (J : Nat → Nat → Int64) (c : Value) : (Nat → Nat → Int32) × Value :=
  fRd_readTape_127 r26 y1 I J c
def pRd_readTape_106 (q26 : Int32 → (Nat → Nat → Int32) → (Nat → Nat → Int64) → Value → Prop) (y1 : Int32) (I : Nat → Nat → Int32) (J : Nat → Nat → Int64) (c : Value) : Prop :=
  pRd_readTape_127 q26 y1 I J c
def fRd_readTape_113 (r26 : Int32 → (Nat → Nat → Int32) → (Nat → Nat → Int64) → Value → (Nat → Nat → Int32) × Value) (y1 : Int32) (I : Nat → Nat → Int32) (J : Nat → Nat → Int64) (c : Value) : (Nat → Nat → Int32) × Value :=
  fRd_readTape_127 r26 y1 I J c
def pRd_readTape_113 (q26 : Int32 → (Nat → Nat → Int32) → (Nat → Nat → Int64) → Value → Prop) (y1 : Int32) (I : Nat → Nat → Int32) (J : Nat → Nat → Int64) (c : Value) : Prop :=
  pRd_readTape_127 q26 y1 I J c
def fRd_readTape_120 (r26 : Int32 → (Nat → Nat → Int32) → (Nat → Nat → Int64) → Value → (Nat → Nat → Int32) × Value) (y1 : Int32) (I : Nat → Nat → Int32) (J : Nat → Nat → Int64) (c : Value) : (Nat → Nat → Int32) × Value :=
  fRd_readTape_127 r26 y1 I J c
def pRd_readTape_120 (q26 : Int32 → (Nat → Nat → Int32) → (Nat → Nat → Int64) → Value → Prop) (y1 : Int32) (I : Nat → Nat → Int32) (J : Nat → Nat → Int64) (c : Value) : Prop :=
  pRd_readTape_127 q26 y1 I J c
def fRd_readTape_26  : Nat → Int32 → (Nat → Nat → Int32) → (Nat → Nat → Int64) → Value → (Nat → Nat → Int32) × Value
  | 0, _, I, _, c => (I, c)
  | n + 1, y1, I, J, c =>
  if (4000 : Int32) < y1 then (I, c)
  else if (I 13 9) = 0 then if (I 13 3) = (45 : Int32) then (I, c)
      else if (I 13 3) = 29 then fRd_readTape_92 (fRd_readTape_26 n) y1 ((fRd_readReg I J)) J c
        else if (I 13 3) = 30 then fRd_readTape_99 (fRd_readTape_26 n) y1 ((fRd_readInput I J)) J c
        else if (I 13 3) = 31 then fRd_readTape_106 (fRd_readTape_26 n) y1 ((fRd_readWire I J c).1) J ((fRd_readWire I J c).2)
        else if (I 13 3) = 32 then fRd_readTape_113 (fRd_readTape_26 n) y1 ((fRd_readNext I J c).1) J ((fRd_readNext I J c).2)
        else if (I 13 3) = 33 then fRd_readTape_120 (fRd_readTape_26 n) y1 ((fRd_readSpec I J c).1) J ((fRd_readSpec I J c).2)
        else fRd_readTape_127 (fRd_readTape_26 n) y1 ((fRd_refuse I J)) J c
    else (I, c)
def pRd_readTape_26  : Nat → Int32 → (Nat → Nat → Int32) → (Nat → Nat → Int64) → Value → Prop
  | 0, _, _, _, _ => False
  | n + 1, y1, I, J, c =>
  ((4000 : Int32) < y1 → True) ∧
  (¬ ((4000 : Int32) < y1) → ((I 13 9) = 0 → ((I 13 3) = (45 : Int32) → True) ∧
      (¬ ((I 13 3) = (45 : Int32)) → ((I 13 3) = 29 → (pRd_readReg I J) ∧ (pRd_readTape_92 (pRd_readTape_26 n) y1 ((fRd_readReg I J)) J c)) ∧
        (¬ ((I 13 3) = 29) → ((I 13 3) = 30 → (pRd_readInput I J) ∧ (pRd_readTape_99 (pRd_readTape_26 n) y1 ((fRd_readInput I J)) J c)) ∧
        (¬ ((I 13 3) = 30) → ((I 13 3) = 31 → (pRd_readWire I J c) ∧ (pRd_readTape_106 (pRd_readTape_26 n) y1 ((fRd_readWire I J c).1) J ((fRd_readWire I J c).2))) ∧
        (¬ ((I 13 3) = 31) → ((I 13 3) = 32 → (pRd_readNext I J c) ∧ (pRd_readTape_113 (pRd_readTape_26 n) y1 ((fRd_readNext I J c).1) J ((fRd_readNext I J c).2))) ∧
        (¬ ((I 13 3) = 32) → ((I 13 3) = 33 → (pRd_readSpec I J c) ∧ (pRd_readTape_120 (pRd_readTape_26 n) y1 ((fRd_readSpec I J c).1) J ((fRd_readSpec I J c).2))) ∧
        (¬ ((I 13 3) = 33) → (pRd_refuse I J) ∧ (pRd_readTape_127 (pRd_readTape_26 n) y1 ((fRd_refuse I J)) J c)))))))) ∧
    (¬ ((I 13 9) = 0) → True))
def fRd_readTape_11 (n26 : Nat) (I : Nat → Nat → Int32) (J : Nat → Nat → Int64) (c : Value) : (Nat → Nat → Int32) × Value :=
  fRd_readTape_26 n26 (0 : Int32) (pm_u I 13 3 (I 18 (0 : Int32).toNatClampNeg)) J c
def pRd_readTape_11 (n26 : Nat) (I : Nat → Nat → Int32) (J : Nat → Nat → Int64) (c : Value) : Prop :=
  (vp_in (0 : Int32) 4001) ∧ (pRd_readTape_26 n26 (0 : Int32) (pm_u I 13 3 (I 18 (0 : Int32).toNatClampNeg)) J c)
def fRd_readTape_4 (n26 : Nat) (I : Nat → Nat → Int32) (J : Nat → Nat → Int64) (c : Value) : (Nat → Nat → Int32) × Value :=
  fRd_readTape_11 n26 ((fTk_part 4002 I J)) J c
def pRd_readTape_4 (n26 : Nat) (I : Nat → Nat → Int32) (J : Nat → Nat → Int64) (c : Value) : Prop :=
  (pTk_part 4002 I J) ∧ (pRd_readTape_11 n26 ((fTk_part 4002 I J)) J c)
def fRd_readTape (n26 : Nat) (I : Nat → Nat → Int32) (J : Nat → Nat → Int64) (c : Value) : (Nat → Nat → Int32) × Value :=
  fRd_readTape_4 n26 ((fRd_begin I J)) J c
def pRd_readTape (n26 : Nat) (I : Nat → Nat → Int32) (J : Nat → Nat → Int64) (c : Value) : Prop :=
  (pRd_begin I J) ∧ (pRd_readTape_4 n26 ((fRd_begin I J)) J c)
set_option maxHeartbeats 4000000 in
set_option maxRecDepth 100000 in
theorem Rd_readTape_n127 (g : pmG) (d : Nat) (ex : List (Nat × Nat)) (R : Nat → Nat → Value) (hR : pk_R R) (o : Outcome) (Z : pmM) (r26 : Int32 → (Nat → Nat → Int32) → (Nat → Nat → Int64) → Value → (Nat → Nat → Int32) × Value) (q26 : Int32 → (Nat → Nat → Int32) → (Nat → Nat → Int64) → Value → Prop) (ih26 : ∀ (y1 : Int32) (I : Nat → Nat → Int32) (J : Nat → Nat → Int64) (c : Value), q26 y1 I J c → o = .returned none → Z = (pk_K ++ ex, pm_u R 13 8 (r26 y1 I J c).2, (r26 y1 I J c).1, J) → pmE g kRd_readTape (d + 665) 0 0 26 [(0, .ref 13), (1, .int y1)] [] (pk_K ++ ex) (pm_u R 13 8 c) I J o Z)  (y1 : Int32) (I : Nat → Nat → Int32) (J : Nat → Nat → Int64) (c : Value) (hp : pRd_readTape_127 q26 y1 I J c) (ho : o = .returned none) (hz : Z = (pk_K ++ ex, pm_u R 13 8 (fRd_readTape_127 r26 y1 I J c).2, (fRd_readTape_127 r26 y1 I J c).1, J)) : pmE g kRd_readTape (d + 665) 0 0 127 [(0, .ref 13), (1, .int y1)] [] (pk_K ++ ex) (pm_u R 13 8 c) I J o Z := by
  unfold pRd_readTape_127 at hp
  refine pm_iinc dRd_readTape_127 rfl (by decide) rfl ?_
  refine pm_goto 26 dRd_readTape_130 (by decide) ?_
  refine pm_wk [1, 0] rfl ?_
  exact ih26 _ _ _ _ hp ho (hz.trans (by first | rfl | (simp only [fRd_readTape_127]; done) | (simp only [fRd_readTape_127]; rfl)))
set_option maxHeartbeats 4000000 in
set_option maxRecDepth 100000 in
theorem Rd_readTape_n92 (g : pmG) (d : Nat) (ex : List (Nat × Nat)) (R : Nat → Nat → Value) (hR : pk_R R) (o : Outcome) (Z : pmM) (r26 : Int32 → (Nat → Nat → Int32) → (Nat → Nat → Int64) → Value → (Nat → Nat → Int32) × Value) (q26 : Int32 → (Nat → Nat → Int32) → (Nat → Nat → Int64) → Value → Prop) (ih26 : ∀ (y1 : Int32) (I : Nat → Nat → Int32) (J : Nat → Nat → Int64) (c : Value), q26 y1 I J c → o = .returned none → Z = (pk_K ++ ex, pm_u R 13 8 (r26 y1 I J c).2, (r26 y1 I J c).1, J) → pmE g kRd_readTape (d + 665) 0 0 26 [(0, .ref 13), (1, .int y1)] [] (pk_K ++ ex) (pm_u R 13 8 c) I J o Z)  (y1 : Int32) (I : Nat → Nat → Int32) (J : Nat → Nat → Int64) (c : Value) (hp : pRd_readTape_92 q26 y1 I J c) (ho : o = .returned none) (hz : Z = (pk_K ++ ex, pm_u R 13 8 (fRd_readTape_92 r26 y1 I J c).2, (fRd_readTape_92 r26 y1 I J c).1, J)) : pmE g kRd_readTape (d + 665) 0 0 92 [(0, .ref 13), (1, .int y1)] [] (pk_K ++ ex) (pm_u R 13 8 c) I J o Z := by
  unfold pRd_readTape_92 at hp
  refine pm_goto 127 dRd_readTape_92 (by decide) ?_
  refine pm_wk [0, 1] rfl ?_
  exact Rd_readTape_n127 g d ex R hR _ _ r26 q26 ih26  _ _ _ _ hp ho (hz.trans (by first | rfl | (simp only [fRd_readTape_92]; done) | (simp only [fRd_readTape_92]; rfl)))
set_option maxHeartbeats 4000000 in
set_option maxRecDepth 100000 in
theorem Rd_readTape_n99 (g : pmG) (d : Nat) (ex : List (Nat × Nat)) (R : Nat → Nat → Value) (hR : pk_R R) (o : Outcome) (Z : pmM) (r26 : Int32 → (Nat → Nat → Int32) → (Nat → Nat → Int64) → Value → (Nat → Nat → Int32) × Value) (q26 : Int32 → (Nat → Nat → Int32) → (Nat → Nat → Int64) → Value → Prop) (ih26 : ∀ (y1 : Int32) (I : Nat → Nat → Int32) (J : Nat → Nat → Int64) (c : Value), q26 y1 I J c → o = .returned none → Z = (pk_K ++ ex, pm_u R 13 8 (r26 y1 I J c).2, (r26 y1 I J c).1, J) → pmE g kRd_readTape (d + 665) 0 0 26 [(0, .ref 13), (1, .int y1)] [] (pk_K ++ ex) (pm_u R 13 8 c) I J o Z)  (y1 : Int32) (I : Nat → Nat → Int32) (J : Nat → Nat → Int64) (c : Value) (hp : pRd_readTape_99 q26 y1 I J c) (ho : o = .returned none) (hz : Z = (pk_K ++ ex, pm_u R 13 8 (fRd_readTape_99 r26 y1 I J c).2, (fRd_readTape_99 r26 y1 I J c).1, J)) : pmE g kRd_readTape (d + 665) 0 0 99 [(0, .ref 13), (1, .int y1)] [] (pk_K ++ ex) (pm_u R 13 8 c) I J o Z := by
  unfold pRd_readTape_99 at hp
  refine pm_goto 127 dRd_readTape_99 (by decide) ?_
  refine pm_wk [0, 1] rfl ?_
  exact Rd_readTape_n127 g d ex R hR _ _ r26 q26 ih26  _ _ _ _ hp ho (hz.trans (by first | rfl | (simp only [fRd_readTape_99]; done) | (simp only [fRd_readTape_99]; rfl)))
set_option maxHeartbeats 4000000 in
set_option maxRecDepth 100000 in
theorem Rd_readTape_n106 (g : pmG) (d : Nat) (ex : List (Nat × Nat)) (R : Nat → Nat → Value) (hR : pk_R R) (o : Outcome) (Z : pmM) (r26 : Int32 → (Nat → Nat → Int32) → (Nat → Nat → Int64) → Value → (Nat → Nat → Int32) × Value) (q26 : Int32 → (Nat → Nat → Int32) → (Nat → Nat → Int64) → Value → Prop) (ih26 : ∀ (y1 : Int32) (I : Nat → Nat → Int32) (J : Nat → Nat → Int64) (c : Value), q26 y1 I J c → o = .returned none → Z = (pk_K ++ ex, pm_u R 13 8 (r26 y1 I J c).2, (r26 y1 I J c).1, J) → pmE g kRd_readTape (d + 665) 0 0 26 [(0, .ref 13), (1, .int y1)] [] (pk_K ++ ex) (pm_u R 13 8 c) I J o Z)  (y1 : Int32) (I : Nat → Nat → Int32) (J : Nat → Nat → Int64) (c : Value) (hp : pRd_readTape_106 q26 y1 I J c) (ho : o = .returned none) (hz : Z = (pk_K ++ ex, pm_u R 13 8 (fRd_readTape_106 r26 y1 I J c).2, (fRd_readTape_106 r26 y1 I J c).1, J)) : pmE g kRd_readTape (d + 665) 0 0 106 [(0, .ref 13), (1, .int y1)] [] (pk_K ++ ex) (pm_u R 13 8 c) I J o Z := by
  unfold pRd_readTape_106 at hp
  refine pm_goto 127 dRd_readTape_106 (by decide) ?_
  refine pm_wk [0, 1] rfl ?_
  exact Rd_readTape_n127 g d ex R hR _ _ r26 q26 ih26  _ _ _ _ hp ho (hz.trans (by first | rfl | (simp only [fRd_readTape_106]; done) | (simp only [fRd_readTape_106]; rfl)))
set_option maxHeartbeats 4000000 in
set_option maxRecDepth 100000 in
theorem Rd_readTape_n113 (g : pmG) (d : Nat) (ex : List (Nat × Nat)) (R : Nat → Nat → Value) (hR : pk_R R) (o : Outcome) (Z : pmM) (r26 : Int32 → (Nat → Nat → Int32) → (Nat → Nat → Int64) → Value → (Nat → Nat → Int32) × Value) (q26 : Int32 → (Nat → Nat → Int32) → (Nat → Nat → Int64) → Value → Prop) (ih26 : ∀ (y1 : Int32) (I : Nat → Nat → Int32) (J : Nat → Nat → Int64) (c : Value), q26 y1 I J c → o = .returned none → Z = (pk_K ++ ex, pm_u R 13 8 (r26 y1 I J c).2, (r26 y1 I J c).1, J) → pmE g kRd_readTape (d + 665) 0 0 26 [(0, .ref 13), (1, .int y1)] [] (pk_K ++ ex) (pm_u R 13 8 c) I J o Z)  (y1 : Int32) (I : Nat → Nat → Int32) (J : Nat → Nat → Int64) (c : Value) (hp : pRd_readTape_113 q26 y1 I J c) (ho : o = .returned none) (hz : Z = (pk_K ++ ex, pm_u R 13 8 (fRd_readTape_113 r26 y1 I J c).2, (fRd_readTape_113 r26 y1 I J c).1, J)) : pmE g kRd_readTape (d + 665) 0 0 113 [(0, .ref 13), (1, .int y1)] [] (pk_K ++ ex) (pm_u R 13 8 c) I J o Z := by
  unfold pRd_readTape_113 at hp
  refine pm_goto 127 dRd_readTape_113 (by decide) ?_
  refine pm_wk [0, 1] rfl ?_
  exact Rd_readTape_n127 g d ex R hR _ _ r26 q26 ih26  _ _ _ _ hp ho (hz.trans (by first | rfl | (simp only [fRd_readTape_113]; done) | (simp only [fRd_readTape_113]; rfl)))
set_option maxHeartbeats 4000000 in
set_option maxRecDepth 100000 in
theorem Rd_readTape_n120 (g : pmG) (d : Nat) (ex : List (Nat × Nat)) (R : Nat → Nat → Value) (hR : pk_R R) (o : Outcome) (Z : pmM) (r26 : Int32 → (Nat → Nat → Int32) → (Nat → Nat → Int64) → Value → (Nat → Nat → Int32) × Value) (q26 : Int32 → (Nat → Nat → Int32) → (Nat → Nat → Int64) → Value → Prop) (ih26 : ∀ (y1 : Int32) (I : Nat → Nat → Int32) (J : Nat → Nat → Int64) (c : Value), q26 y1 I J c → o = .returned none → Z = (pk_K ++ ex, pm_u R 13 8 (r26 y1 I J c).2, (r26 y1 I J c).1, J) → pmE g kRd_readTape (d + 665) 0 0 26 [(0, .ref 13), (1, .int y1)] [] (pk_K ++ ex) (pm_u R 13 8 c) I J o Z)  (y1 : Int32) (I : Nat → Nat → Int32) (J : Nat → Nat → Int64) (c : Value) (hp : pRd_readTape_120 q26 y1 I J c) (ho : o = .returned none) (hz : Z = (pk_K ++ ex, pm_u R 13 8 (fRd_readTape_120 r26 y1 I J c).2, (fRd_readTape_120 r26 y1 I J c).1, J)) : pmE g kRd_readTape (d + 665) 0 0 120 [(0, .ref 13), (1, .int y1)] [] (pk_K ++ ex) (pm_u R 13 8 c) I J o Z := by
  unfold pRd_readTape_120 at hp
  refine pm_goto 127 dRd_readTape_120 (by decide) ?_
  refine pm_wk [0, 1] rfl ?_
  exact Rd_readTape_n127 g d ex R hR _ _ r26 q26 ih26  _ _ _ _ hp ho (hz.trans (by first | rfl | (simp only [fRd_readTape_120]; done) | (simp only [fRd_readTape_120]; rfl)))
set_option maxHeartbeats 4000000 in
set_option maxRecDepth 100000 in
theorem Rd_readTape_n26 (g : pmG) (d : Nat) (ex : List (Nat × Nat)) (R : Nat → Nat → Value) (hR : pk_R R) (o : Outcome) (Z : pmM)  : ∀ (n : Nat) (y1 : Int32) (I : Nat → Nat → Int32) (J : Nat → Nat → Int64) (c : Value), pRd_readTape_26 n y1 I J c → o = .returned none → Z = (pk_K ++ ex, pm_u R 13 8 (fRd_readTape_26 n y1 I J c).2, (fRd_readTape_26 n y1 I J c).1, J) → pmE g kRd_readTape (d + 665) 0 0 26 [(0, .ref 13), (1, .int y1)] [] (pk_K ++ ex) (pm_u R 13 8 c) I J o Z := by
  intro n
  induction n with
  | zero => intro y1 I J c hp; exact False.elim hp
  | succ n ih =>
  intro y1 I J c hp ho hz
  simp only [pRd_readTape_26] at hp
  refine pm_iload_n dRd_readTape_26 rfl ?_
  refine pm_sipush (v := 4000) dRd_readTape_27 (by decide) ?_
  refine pm_icmp_gt 133 dRd_readTape_30 (by decide) (fun h30 => ?_) (fun h30 => ?_)
  ·
    exact pm_vret dRd_readTape_133 rfl ho (hz.trans (by first | (simp only [fRd_readTape_26, if_pos h30]; done) | (simp only [fRd_readTape_26, if_pos h30]; rfl) | rfl))
  ·
    refine pm_aload_n dRd_readTape_33 rfl ?_
    refine pm_geti dRd_readTape_34 fRd_55 rfl ?_
    refine pm_if_ne 133 dRd_readTape_37 (by decide) (fun h37 => ?_) (fun h37 => ?_)
    ·
      exact pm_vret dRd_readTape_133 rfl ho (hz.trans (by first | (simp only [fRd_readTape_26, if_neg h30, if_neg h37]; done) | (simp only [fRd_readTape_26, if_neg h30, if_neg h37]; rfl) | rfl))
    ·
      refine pm_aload_n dRd_readTape_40 rfl ?_
      refine pm_geti dRd_readTape_41 fRd_52 rfl ?_
      refine pm_bipush (v := 45) dRd_readTape_44 (by decide) ?_
      refine pm_icmp_eq 133 dRd_readTape_46 (by decide) (fun h46 => ?_) (fun h46 => ?_)
      ·
        exact pm_vret dRd_readTape_133 rfl ho (hz.trans (by first | (simp only [fRd_readTape_26, if_neg h30, if_pos h37, if_pos h46]; done) | (simp only [fRd_readTape_26, if_neg h30, if_pos h37, if_pos h46]; rfl) | rfl))
      ·
        refine pm_aload_n dRd_readTape_49 rfl ?_
        refine pm_geti dRd_readTape_50 fRd_52 rfl ?_
        by_cases h53_29 : (I 13 3) = 29
        ·
          refine pm_tableIn 88 dRd_readTape_53 (by rw [h53_29]; decide) (by rw [h53_29]; decide) (by first | (rw [h53_29]; rfl) | rw [h53_29]) (by decide) ?_
          refine pm_aload_n dRd_readTape_88 rfl ?_
          refine pm_callV dRd_readTape_89 lRd_58 vRd_readReg ⟨_, _, rfl⟩ (Rd_readReg_ok _ _ _ _ (pk_Ru hR _)  _ _ ((((hp.2 h30).1 h37).2 h46).1 h53_29).1) rfl rfl rfl (Nat.le_of_ble_eq_true rfl) (Nat.le_refl _) (Nat.le_refl _) ?_
          refine pm_wk [0, 1] rfl ?_
          exact Rd_readTape_n92 g d ex R hR _ _ (fRd_readTape_26 n) (pRd_readTape_26 n) ih  _ _ _ _ ((((hp.2 h30).1 h37).2 h46).1 h53_29).2 ho (hz.trans (by first | (simp only [fRd_readTape_26, if_neg h30, if_pos h37, if_neg h46, if_pos h53_29]; done) | (simp only [fRd_readTape_26, if_neg h30, if_pos h37, if_neg h46, if_pos h53_29]; rfl) | rfl))
        ·
          by_cases h53_30 : (I 13 3) = 30
          ·
            refine pm_tableIn 95 dRd_readTape_53 (by rw [h53_30]; decide) (by rw [h53_30]; decide) (by first | (rw [h53_30]; rfl) | rw [h53_30]) (by decide) ?_
            refine pm_aload_n dRd_readTape_95 rfl ?_
            refine pm_callV dRd_readTape_96 lRd_61 vRd_readInput ⟨_, _, rfl⟩ (Rd_readInput_ok _ _ _ _ (pk_Ru hR _)  _ _ (((((hp.2 h30).1 h37).2 h46).2 h53_29).1 h53_30).1) rfl rfl rfl (Nat.le_of_ble_eq_true rfl) (Nat.le_refl _) (Nat.le_refl _) ?_
            refine pm_wk [0, 1] rfl ?_
            exact Rd_readTape_n99 g d ex R hR _ _ (fRd_readTape_26 n) (pRd_readTape_26 n) ih  _ _ _ _ (((((hp.2 h30).1 h37).2 h46).2 h53_29).1 h53_30).2 ho (hz.trans (by first | (simp only [fRd_readTape_26, if_neg h30, if_pos h37, if_neg h46, if_neg h53_29, if_pos h53_30]; done) | (simp only [fRd_readTape_26, if_neg h30, if_pos h37, if_neg h46, if_neg h53_29, if_pos h53_30]; rfl) | rfl))
          ·
            by_cases h53_31 : (I 13 3) = 31
            ·
              refine pm_tableIn 102 dRd_readTape_53 (by rw [h53_31]; decide) (by rw [h53_31]; decide) (by first | (rw [h53_31]; rfl) | rw [h53_31]) (by decide) ?_
              refine pm_aload_n dRd_readTape_102 rfl ?_
              refine pm_callV dRd_readTape_103 lRd_64 vRd_readWire ⟨_, _, rfl⟩ (Rd_readWire_ok _ _ _ _ (pk_Ru hR _)  _ _ ((((((hp.2 h30).1 h37).2 h46).2 h53_29).2 h53_30).1 h53_31).1) rfl rfl rfl (Nat.le_of_ble_eq_true rfl) (Nat.le_refl _) (Nat.le_refl _) ?_
              refine pm_Req (pm_uu _ _ _ _ _) ?_
              refine pm_wk [0, 1] rfl ?_
              exact Rd_readTape_n106 g d ex R hR _ _ (fRd_readTape_26 n) (pRd_readTape_26 n) ih  _ _ _ _ ((((((hp.2 h30).1 h37).2 h46).2 h53_29).2 h53_30).1 h53_31).2 ho (hz.trans (by first | (simp only [fRd_readTape_26, if_neg h30, if_pos h37, if_neg h46, if_neg h53_29, if_neg h53_30, if_pos h53_31]; done) | (simp only [fRd_readTape_26, if_neg h30, if_pos h37, if_neg h46, if_neg h53_29, if_neg h53_30, if_pos h53_31]; rfl) | rfl))
            ·
              by_cases h53_32 : (I 13 3) = 32
              ·
                refine pm_tableIn 109 dRd_readTape_53 (by rw [h53_32]; decide) (by rw [h53_32]; decide) (by first | (rw [h53_32]; rfl) | rw [h53_32]) (by decide) ?_
                refine pm_aload_n dRd_readTape_109 rfl ?_
                refine pm_callV dRd_readTape_110 lRd_67 vRd_readNext ⟨_, _, rfl⟩ (Rd_readNext_ok _ _ _ _ (pk_Ru hR _)  _ _ (((((((hp.2 h30).1 h37).2 h46).2 h53_29).2 h53_30).2 h53_31).1 h53_32).1) rfl rfl rfl (Nat.le_of_ble_eq_true rfl) (Nat.le_refl _) (Nat.le_refl _) ?_
                refine pm_Req (pm_uu _ _ _ _ _) ?_
                refine pm_wk [0, 1] rfl ?_
                exact Rd_readTape_n113 g d ex R hR _ _ (fRd_readTape_26 n) (pRd_readTape_26 n) ih  _ _ _ _ (((((((hp.2 h30).1 h37).2 h46).2 h53_29).2 h53_30).2 h53_31).1 h53_32).2 ho (hz.trans (by first | (simp only [fRd_readTape_26, if_neg h30, if_pos h37, if_neg h46, if_neg h53_29, if_neg h53_30, if_neg h53_31, if_pos h53_32]; done) | (simp only [fRd_readTape_26, if_neg h30, if_pos h37, if_neg h46, if_neg h53_29, if_neg h53_30, if_neg h53_31, if_pos h53_32]; rfl) | rfl))
              ·
                by_cases h53_33 : (I 13 3) = 33
                ·
                  refine pm_tableIn 116 dRd_readTape_53 (by rw [h53_33]; decide) (by rw [h53_33]; decide) (by first | (rw [h53_33]; rfl) | rw [h53_33]) (by decide) ?_
                  refine pm_aload_n dRd_readTape_116 rfl ?_
                  refine pm_callV dRd_readTape_117 lRd_70 vRd_readSpec ⟨_, _, rfl⟩ (Rd_readSpec_ok _ _ _ _ (pk_Ru hR _)  _ _ ((((((((hp.2 h30).1 h37).2 h46).2 h53_29).2 h53_30).2 h53_31).2 h53_32).1 h53_33).1) rfl rfl rfl (Nat.le_of_ble_eq_true rfl) (Nat.le_refl _) (Nat.le_refl _) ?_
                  refine pm_Req (pm_uu _ _ _ _ _) ?_
                  refine pm_wk [0, 1] rfl ?_
                  exact Rd_readTape_n120 g d ex R hR _ _ (fRd_readTape_26 n) (pRd_readTape_26 n) ih  _ _ _ _ ((((((((hp.2 h30).1 h37).2 h46).2 h53_29).2 h53_30).2 h53_31).2 h53_32).1 h53_33).2 ho (hz.trans (by first | (simp only [fRd_readTape_26, if_neg h30, if_pos h37, if_neg h46, if_neg h53_29, if_neg h53_30, if_neg h53_31, if_neg h53_32, if_pos h53_33]; done) | (simp only [fRd_readTape_26, if_neg h30, if_pos h37, if_neg h46, if_neg h53_29, if_neg h53_30, if_neg h53_31, if_neg h53_32, if_pos h53_33]; rfl) | rfl))
                ·
                  refine pm_tableOut 123 dRd_readTape_53 (pm_out (fun q9 k1 k2 => by
                    have : q9 = 29 ∨ q9 = 30 ∨ q9 = 31 ∨ q9 = 32 ∨ q9 = 33 := by omega
                    rcases this with rfl | rfl | rfl | rfl | rfl
                    · exact h53_29
                    · exact h53_30
                    · exact h53_31
                    · exact h53_32
                    · exact h53_33
                    )) (by decide) ?_
                  refine pm_aload_n dRd_readTape_123 rfl ?_
                  refine pm_callV dRd_readTape_124 lRd_73 vRd_refuse ⟨_, _, rfl⟩ (Rd_refuse_ok _ _ _ _ (pk_Ru hR _)  _ _ ((((((((hp.2 h30).1 h37).2 h46).2 h53_29).2 h53_30).2 h53_31).2 h53_32).2 h53_33).1) rfl rfl rfl (Nat.le_of_ble_eq_true rfl) (Nat.le_refl _) (Nat.le_refl _) ?_
                  refine pm_wk [0, 1] rfl ?_
                  exact Rd_readTape_n127 g d ex R hR _ _ (fRd_readTape_26 n) (pRd_readTape_26 n) ih  _ _ _ _ ((((((((hp.2 h30).1 h37).2 h46).2 h53_29).2 h53_30).2 h53_31).2 h53_32).2 h53_33).2 ho (hz.trans (by first | (simp only [fRd_readTape_26, if_neg h30, if_pos h37, if_neg h46, if_neg h53_29, if_neg h53_30, if_neg h53_31, if_neg h53_32, if_neg h53_33]; done) | (simp only [fRd_readTape_26, if_neg h30, if_pos h37, if_neg h46, if_neg h53_29, if_neg h53_30, if_neg h53_31, if_neg h53_32, if_neg h53_33]; rfl) | rfl))
set_option maxHeartbeats 4000000 in
set_option maxRecDepth 100000 in
theorem Rd_readTape_n11 (g : pmG) (d : Nat) (ex : List (Nat × Nat)) (R : Nat → Nat → Value) (hR : pk_R R) (o : Outcome) (Z : pmM) (n26 : Nat) (I : Nat → Nat → Int32) (J : Nat → Nat → Int64) (c : Value) (hp : pRd_readTape_11 n26 I J c) (ho : o = .returned none) (hz : Z = (pk_K ++ ex, pm_u R 13 8 (fRd_readTape_11 n26 I J c).2, (fRd_readTape_11 n26 I J c).1, J)) : pmE g kRd_readTape (d + 665) 0 0 11 [(0, .ref 13)] [] (pk_K ++ ex) (pm_u R 13 8 c) I J o Z := by
  unfold pRd_readTape_11 at hp
  refine pm_aload_n dRd_readTape_11 rfl ?_
  refine pm_aload_n dRd_readTape_12 rfl ?_
  refine pm_getr dRd_readTape_13 fRd_30 rfl (rr_13_1 (pk_Ru hR _)) ?_
  refine pm_getr dRd_readTape_16 fRd_49 rfl (rr_17_1 (pk_Ru hR _)) ?_
  refine pm_iconst (v := 0) dRd_readTape_19 (by decide) ?_
  refine pm_iald dRd_readTape_20 rfl hp.1 ?_
  refine pm_puti dRd_readTape_21 fRd_52 sRd_52 (fun h => by cases h) rfl rfl rfl ?_
  refine pm_iconst (v := 0) dRd_readTape_24 (by decide) ?_
  refine pm_istore_n dRd_readTape_25 (by decide) rfl ?_
  refine pm_wk [1, 0] rfl ?_
  exact Rd_readTape_n26 g d ex R hR _ _  n26 _ _ _ _ hp.2 ho (hz.trans (by first | rfl | (simp only [fRd_readTape_11]; done) | (simp only [fRd_readTape_11]; rfl)))
set_option maxHeartbeats 4000000 in
set_option maxRecDepth 100000 in
theorem Rd_readTape_n4 (g : pmG) (d : Nat) (ex : List (Nat × Nat)) (R : Nat → Nat → Value) (hR : pk_R R) (o : Outcome) (Z : pmM) (n26 : Nat) (I : Nat → Nat → Int32) (J : Nat → Nat → Int64) (c : Value) (hp : pRd_readTape_4 n26 I J c) (ho : o = .returned none) (hz : Z = (pk_K ++ ex, pm_u R 13 8 (fRd_readTape_4 n26 I J c).2, (fRd_readTape_4 n26 I J c).1, J)) : pmE g kRd_readTape (d + 665) 0 0 4 [(0, .ref 13)] [] (pk_K ++ ex) (pm_u R 13 8 c) I J o Z := by
  unfold pRd_readTape_4 at hp
  refine pm_aload_n dRd_readTape_4 rfl ?_
  refine pm_getr dRd_readTape_5 fRd_30 rfl (rr_13_1 (pk_Ru hR _)) ?_
  refine pm_callV dRd_readTape_8 lRd_46 vTk_part ⟨_, _, rfl⟩ (Tk_part_ok _ _ _ _ (pk_Ru hR _) _ _ _ hp.1) rfl rfl rfl (Nat.le_of_ble_eq_true rfl) (Nat.le_refl _) (Nat.le_refl _) ?_
  refine pm_wk [0] rfl ?_
  exact Rd_readTape_n11 g d ex R hR _ _  n26 _ _ _ hp.2 ho (hz.trans (by first | rfl | (simp only [fRd_readTape_4]; done) | (simp only [fRd_readTape_4]; rfl)))
set_option maxHeartbeats 4000000 in
set_option maxRecDepth 100000 in
theorem Rd_readTape_n0 (g : pmG) (d : Nat) (ex : List (Nat × Nat)) (R : Nat → Nat → Value) (hR : pk_R R) (o : Outcome) (Z : pmM) (n26 : Nat) (I : Nat → Nat → Int32) (J : Nat → Nat → Int64) (c : Value) (hp : pRd_readTape n26 I J c) (ho : o = .returned none) (hz : Z = (pk_K ++ ex, pm_u R 13 8 (fRd_readTape n26 I J c).2, (fRd_readTape n26 I J c).1, J)) : pmE g kRd_readTape (d + 665) 0 0 0 [(0, .ref 13)] [] (pk_K ++ ex) (pm_u R 13 8 c) I J o Z := by
  unfold pRd_readTape at hp
  refine pm_aload_n dRd_readTape_0 rfl ?_
  refine pm_callV dRd_readTape_1 lRd_43 vRd_begin ⟨_, _, rfl⟩ (Rd_begin_ok _ _ _ _ (pk_Ru hR _)  _ _ hp.1) rfl rfl rfl (Nat.le_of_ble_eq_true rfl) (Nat.le_refl _) (Nat.le_refl _) ?_
  refine pm_wk [0] rfl ?_
  exact Rd_readTape_n4 g d ex R hR _ _  n26 _ _ _ hp.2 ho (hz.trans (by first | rfl | (simp only [fRd_readTape]; done) | (simp only [fRd_readTape]; rfl)))
set_option maxHeartbeats 4000000 in
set_option maxRecDepth 100000 in
theorem Rd_readTape_ok (g : pmG) (d : Nat) (ex : List (Nat × Nat)) (R : Nat → Nat → Value) (hR : pk_R R) (n26 : Nat)  (I : Nat → Nat → Int32) (J : Nat → Nat → Int64) (hp : pRd_readTape n26 I J (R 13 8)) : pmC g kRd_readTape (d + 665) 0 0 [.ref 13] (pk_K ++ ex, R, I, J) (.returned none) (pk_K ++ ex, pm_u R 13 8 (fRd_readTape n26 I J (R 13 8)).2, (fRd_readTape n26 I J (R 13 8)).1, J) :=
  pmC.of (by decide) (Nat.le_of_ble_eq_true rfl) (pm_Req (pm_ui _ _ _).symm (Rd_readTape_n0 g d ex R hR _ _ n26  I J (R 13 8) hp rfl rfl))
