theorem xs_0 : ("java/lang/String", "COMPACT_STRINGS", "Z", Value.int 1) ∈ pm_ST := List.mem_of_getElem? (i := 2) rfl
theorem xs_5 : ("jdk/internal/util/Preconditions", "SIOOBE_FORMATTER", "Ljava/util/function/BiFunction;", 5) ∈ pm_SQ := List.mem_of_getElem? (i := 0) rfl
theorem gSg_38 : Cond.fieldLink "java/lang/String" 38 "java/lang/String" "COMPACT_STRINGS" "Z" ∈ pm_TS := pm_in 670 (by decide +kernel) rfl
theorem gSg_1053 : Cond.fieldLink "java/lang/String" 1053 "jdk/internal/util/Preconditions" "SIOOBE_FORMATTER" "Ljava/util/function/BiFunction;" ∈ pm_TS := pm_in 686 (by decide +kernel) rfl
theorem gSg_9 : Cond.fieldLink "java/lang/String" 9 "java/lang/String" "value" "[B" ∈ pm_TS := pm_in 1624 (by decide +kernel) rfl
theorem gSg_15 : Cond.fieldLink "java/lang/String" 15 "java/lang/String" "coder" "B" ∈ pm_TS := pm_in 1625 (by decide +kernel) rfl
abbrev pk_B0 : List Int32 := [114, 101, 103]
theorem xa_40 : (FieldType.byte, 40, 3, pk_B0) ∈ pm_AR := List.mem_of_getElem? (i := 2) rfl
theorem zTk_90 : ("CircuitChecker$Tokens", 90, "reg", 10) ∈ pm_SR := List.mem_of_getElem? (i := 0) rfl
abbrev pk_B1 : List Int32 := [105, 110, 112, 117, 116]
theorem xa_41 : (FieldType.byte, 41, 5, pk_B1) ∈ pm_AR := List.mem_of_getElem? (i := 3) rfl
theorem zTk_96 : ("CircuitChecker$Tokens", 96, "input", 11) ∈ pm_SR := List.mem_of_getElem? (i := 1) rfl
abbrev pk_B2 : List Int32 := [119, 105, 114, 101]
theorem xa_42 : (FieldType.byte, 42, 4, pk_B2) ∈ pm_AR := List.mem_of_getElem? (i := 4) rfl
theorem zTk_98 : ("CircuitChecker$Tokens", 98, "wire", 12) ∈ pm_SR := List.mem_of_getElem? (i := 2) rfl
abbrev pk_B3 : List Int32 := [110, 101, 120, 116]
theorem xa_43 : (FieldType.byte, 43, 4, pk_B3) ∈ pm_AR := List.mem_of_getElem? (i := 5) rfl
theorem zTk_100 : ("CircuitChecker$Tokens", 100, "next", 13) ∈ pm_SR := List.mem_of_getElem? (i := 3) rfl
abbrev pk_B4 : List Int32 := [115, 112, 101, 99]
theorem xa_44 : (FieldType.byte, 44, 4, pk_B4) ∈ pm_AR := List.mem_of_getElem? (i := 6) rfl
theorem zTk_102 : ("CircuitChecker$Tokens", 102, "spec", 14) ∈ pm_SR := List.mem_of_getElem? (i := 4) rfl
abbrev pk_B5 : List Int32 := [61, 61, 33, 61, 60, 61, 62, 61, 60, 60, 62, 62, 38, 38, 124, 124, 45, 62]
theorem xa_45 : (FieldType.byte, 45, 18, pk_B5) ∈ pm_AR := List.mem_of_getElem? (i := 7) rfl
theorem zTk_75 : ("CircuitChecker$Tokens", 75, "==!=<=>=<<>>&&||->", 15) ∈ pm_SR := List.mem_of_getElem? (i := 5) rfl
abbrev pk_B6 : List Int32 := [59, 58, 61, 63, 40, 41, 91, 93, 123, 125, 60, 62, 43, 45, 42, 38, 124, 94, 126, 33]
theorem xa_46 : (FieldType.byte, 46, 20, pk_B6) ∈ pm_AR := List.mem_of_getElem? (i := 8) rfl
theorem zTk_85 : ("CircuitChecker$Tokens", 85, ";:=?()[]{}<>+-*&|^~!", 16) ∈ pm_SR := List.mem_of_getElem? (i := 6) rfl
abbrev pk_B7 : List Int32 := [114, 101, 103]
theorem xa_47 : (FieldType.byte, 47, 3, pk_B7) ∈ pm_AR := List.mem_of_getElem? (i := 9) rfl
theorem zMo_227 : ("CircuitCheckerModel", 227, "reg", 17) ∈ pm_SR := List.mem_of_getElem? (i := 7) rfl
abbrev pk_B8 : List Int32 := [105, 110, 112, 117, 116]
theorem xa_48 : (FieldType.byte, 48, 5, pk_B8) ∈ pm_AR := List.mem_of_getElem? (i := 10) rfl
theorem zMo_233 : ("CircuitCheckerModel", 233, "input", 18) ∈ pm_SR := List.mem_of_getElem? (i := 8) rfl
abbrev pk_B9 : List Int32 := [119, 105, 114, 101]
theorem xa_49 : (FieldType.byte, 49, 4, pk_B9) ∈ pm_AR := List.mem_of_getElem? (i := 11) rfl
theorem zMo_235 : ("CircuitCheckerModel", 235, "wire", 19) ∈ pm_SR := List.mem_of_getElem? (i := 9) rfl
abbrev pk_B10 : List Int32 := [110, 101, 120, 116]
theorem xa_50 : (FieldType.byte, 50, 4, pk_B10) ∈ pm_AR := List.mem_of_getElem? (i := 12) rfl
theorem zMo_236 : ("CircuitCheckerModel", 236, "next", 20) ∈ pm_SR := List.mem_of_getElem? (i := 10) rfl
abbrev pk_B11 : List Int32 := [115, 112, 101, 99]
theorem xa_51 : (FieldType.byte, 51, 4, pk_B11) ∈ pm_AR := List.mem_of_getElem? (i := 13) rfl
theorem zMo_238 : ("CircuitCheckerModel", 238, "spec", 21) ∈ pm_SR := List.mem_of_getElem? (i := 11) rfl
abbrev pk_B12 : List Int32 := [65]
theorem xa_52 : (FieldType.byte, 52, 1, pk_B12) ∈ pm_AR := List.mem_of_getElem? (i := 14) rfl
theorem zMo_239 : ("CircuitCheckerModel", 239, "A", 22) ∈ pm_SR := List.mem_of_getElem? (i := 12) rfl
abbrev pk_B13 : List Int32 := [69]
theorem xa_53 : (FieldType.byte, 53, 1, pk_B13) ∈ pm_AR := List.mem_of_getElem? (i := 15) rfl
theorem zMo_241 : ("CircuitCheckerModel", 241, "E", 23) ∈ pm_SR := List.mem_of_getElem? (i := 13) rfl
abbrev pk_B14 : List Int32 := [85]
theorem xa_54 : (FieldType.byte, 54, 1, pk_B14) ∈ pm_AR := List.mem_of_getElem? (i := 16) rfl
theorem zMo_243 : ("CircuitCheckerModel", 243, "U", 24) ∈ pm_SR := List.mem_of_getElem? (i := 14) rfl
abbrev pk_B15 : List Int32 := [65, 88]
theorem xa_55 : (FieldType.byte, 55, 2, pk_B15) ∈ pm_AR := List.mem_of_getElem? (i := 17) rfl
theorem zMo_245 : ("CircuitCheckerModel", 245, "AX", 25) ∈ pm_SR := List.mem_of_getElem? (i := 15) rfl
abbrev pk_B16 : List Int32 := [69, 88]
theorem xa_56 : (FieldType.byte, 56, 2, pk_B16) ∈ pm_AR := List.mem_of_getElem? (i := 18) rfl
theorem zMo_247 : ("CircuitCheckerModel", 247, "EX", 26) ∈ pm_SR := List.mem_of_getElem? (i := 16) rfl
abbrev pk_B17 : List Int32 := [65, 70]
theorem xa_57 : (FieldType.byte, 57, 2, pk_B17) ∈ pm_AR := List.mem_of_getElem? (i := 19) rfl
theorem zMo_249 : ("CircuitCheckerModel", 249, "AF", 27) ∈ pm_SR := List.mem_of_getElem? (i := 17) rfl
abbrev pk_B18 : List Int32 := [69, 70]
theorem xa_58 : (FieldType.byte, 58, 2, pk_B18) ∈ pm_AR := List.mem_of_getElem? (i := 20) rfl
theorem zMo_251 : ("CircuitCheckerModel", 251, "EF", 28) ∈ pm_SR := List.mem_of_getElem? (i := 18) rfl
abbrev pk_B19 : List Int32 := [65, 71]
theorem xa_59 : (FieldType.byte, 59, 2, pk_B19) ∈ pm_AR := List.mem_of_getElem? (i := 21) rfl
theorem zMo_253 : ("CircuitCheckerModel", 253, "AG", 29) ∈ pm_SR := List.mem_of_getElem? (i := 19) rfl
abbrev pk_B20 : List Int32 := [69, 71]
theorem xa_60 : (FieldType.byte, 60, 2, pk_B20) ∈ pm_AR := List.mem_of_getElem? (i := 22) rfl
theorem zMo_255 : ("CircuitCheckerModel", 255, "EG", 30) ∈ pm_SR := List.mem_of_getElem? (i := 20) rfl
def fPr_checkIndex_n_9  (y0 : Int32) (y1 : Int32) : Int32 :=
  0
def pPr_checkIndex_n_9  (y0 : Int32) (y1 : Int32) : Prop :=
  False
def fPr_checkIndex_n  (y0 : Int32) (y1 : Int32) : Int32 :=
  if y0 < 0 then fPr_checkIndex_n_9 y0 y1
  else if y0 < y1 then y0
    else fPr_checkIndex_n_9 y0 y1
def pPr_checkIndex_n  (y0 : Int32) (y1 : Int32) : Prop :=
  (y0 < 0 → pPr_checkIndex_n_9 y0 y1) ∧
  (¬ (y0 < 0) → (y0 < y1 → True) ∧
    (¬ (y0 < y1) → pPr_checkIndex_n_9 y0 y1))
set_option maxHeartbeats 4000000 in
set_option maxRecDepth 100000 in
theorem Pr_checkIndex_n_n9 (g : pmG) (d : Nat) (K : List (Nat × Nat)) (R : Nat → Nat → Value) (I : Nat → Nat → Int32) (J : Nat → Nat → Int64) (o : Outcome) (Z : pmM)  (y0 : Int32) (y1 : Int32) (hp : pPr_checkIndex_n_9 y0 y1) (ho : o = .returned (some (.int (fPr_checkIndex_n_9 y0 y1)))) (hz : Z = (K, R, I, J)) : pmE g kPr_checkIndex d 0 0 9 [(0, .int y0), (1, .int y1), (2, .null)] [] (K) R I J o Z := by
  unfold pPr_checkIndex_n_9 at hp
  exact False.elim hp
set_option maxHeartbeats 4000000 in
set_option maxRecDepth 100000 in
theorem Pr_checkIndex_n_n0 (g : pmG) (d : Nat) (K : List (Nat × Nat)) (R : Nat → Nat → Value) (I : Nat → Nat → Int32) (J : Nat → Nat → Int64) (o : Outcome) (Z : pmM)  (y0 : Int32) (y1 : Int32) (hp : pPr_checkIndex_n y0 y1) (ho : o = .returned (some (.int (fPr_checkIndex_n y0 y1)))) (hz : Z = (K, R, I, J)) : pmE g kPr_checkIndex d 0 0 0 [(0, .int y0), (1, .int y1), (2, .null)] [] (K) R I J o Z := by
  unfold pPr_checkIndex_n at hp
  refine pm_iload_n dPr_checkIndex_0 rfl ?_
  refine pm_if_lt 9 dPr_checkIndex_1 (by decide) (fun h1 => ?_) (fun h1 => ?_)
  ·
    refine pm_wk [0, 1, 2] rfl ?_
    exact Pr_checkIndex_n_n9 g d K R I J _ _   _ _ (hp.1 h1) (ho.trans (by first | (simp only [fPr_checkIndex_n, if_pos h1]; done) | (simp only [fPr_checkIndex_n, if_pos h1]; rfl) | rfl)) (hz.trans (by first | (simp only [fPr_checkIndex_n, if_pos h1]; done) | (simp only [fPr_checkIndex_n, if_pos h1]; rfl) | rfl))
  ·
    refine pm_iload_n dPr_checkIndex_4 rfl ?_
    refine pm_iload_n dPr_checkIndex_5 rfl ?_
    refine pm_icmp_lt 16 dPr_checkIndex_6 (by decide) (fun h6 => ?_) (fun h6 => ?_)
    ·
      refine pm_iload_n dPr_checkIndex_16 rfl ?_
      exact pm_iret dPr_checkIndex_17 rfl (ho.trans (by first | (simp only [fPr_checkIndex_n, if_neg h1, if_pos h6]; done) | (simp only [fPr_checkIndex_n, if_neg h1, if_pos h6]; rfl) | rfl)) (hz.trans (by first | (simp only [fPr_checkIndex_n, if_neg h1, if_pos h6]; done) | (simp only [fPr_checkIndex_n, if_neg h1, if_pos h6]; rfl) | rfl))
    ·
      refine pm_wk [0, 1, 2] rfl ?_
      exact Pr_checkIndex_n_n9 g d K R I J _ _   _ _ ((hp.2 h1).2 h6) (ho.trans (by first | (simp only [fPr_checkIndex_n, if_neg h1, if_neg h6]; done) | (simp only [fPr_checkIndex_n, if_neg h1, if_neg h6]; rfl) | rfl)) (hz.trans (by first | (simp only [fPr_checkIndex_n, if_neg h1, if_neg h6]; done) | (simp only [fPr_checkIndex_n, if_neg h1, if_neg h6]; rfl) | rfl))
set_option maxHeartbeats 4000000 in
set_option maxRecDepth 100000 in
theorem Pr_checkIndex_n_ok (g : pmG) (d : Nat) (K : List (Nat × Nat)) (R : Nat → Nat → Value)  (x0 : Int32) (x1 : Int32) (I : Nat → Nat → Int32) (J : Nat → Nat → Int64) (hp : pPr_checkIndex_n x0 x1) : pmC g kPr_checkIndex d 0 0 [.int x0, .int x1, .null] (K, R, I, J) (.returned (some (.int (fPr_checkIndex_n x0 x1)))) (K, R, I, J) :=
  pmC.of (by decide) (Nat.le_of_ble_eq_true rfl) (Pr_checkIndex_n_n0 g d K R I J _ _  x0 x1  hp rfl rfl)
def fPr_checkIndex_5_9  (y0 : Int32) (y1 : Int32) : Int32 :=
  0
def pPr_checkIndex_5_9  (y0 : Int32) (y1 : Int32) : Prop :=
  False
def fPr_checkIndex_5  (y0 : Int32) (y1 : Int32) : Int32 :=
  if y0 < 0 then fPr_checkIndex_5_9 y0 y1
  else if y0 < y1 then y0
    else fPr_checkIndex_5_9 y0 y1
def pPr_checkIndex_5  (y0 : Int32) (y1 : Int32) : Prop :=
  (y0 < 0 → pPr_checkIndex_5_9 y0 y1) ∧
  (¬ (y0 < 0) → (y0 < y1 → True) ∧
    (¬ (y0 < y1) → pPr_checkIndex_5_9 y0 y1))
set_option maxHeartbeats 4000000 in
set_option maxRecDepth 100000 in
theorem Pr_checkIndex_5_n9 (g : pmG) (d : Nat) (K : List (Nat × Nat)) (R : Nat → Nat → Value) (I : Nat → Nat → Int32) (J : Nat → Nat → Int64) (o : Outcome) (Z : pmM)  (y0 : Int32) (y1 : Int32) (hp : pPr_checkIndex_5_9 y0 y1) (ho : o = .returned (some (.int (fPr_checkIndex_5_9 y0 y1)))) (hz : Z = (K, R, I, J)) : pmE g kPr_checkIndex d 0 0 9 [(0, .int y0), (1, .int y1), (2, .retAddr 5)] [] (K) R I J o Z := by
  unfold pPr_checkIndex_5_9 at hp
  exact False.elim hp
set_option maxHeartbeats 4000000 in
set_option maxRecDepth 100000 in
theorem Pr_checkIndex_5_n0 (g : pmG) (d : Nat) (K : List (Nat × Nat)) (R : Nat → Nat → Value) (I : Nat → Nat → Int32) (J : Nat → Nat → Int64) (o : Outcome) (Z : pmM)  (y0 : Int32) (y1 : Int32) (hp : pPr_checkIndex_5 y0 y1) (ho : o = .returned (some (.int (fPr_checkIndex_5 y0 y1)))) (hz : Z = (K, R, I, J)) : pmE g kPr_checkIndex d 0 0 0 [(0, .int y0), (1, .int y1), (2, .retAddr 5)] [] (K) R I J o Z := by
  unfold pPr_checkIndex_5 at hp
  refine pm_iload_n dPr_checkIndex_0 rfl ?_
  refine pm_if_lt 9 dPr_checkIndex_1 (by decide) (fun h1 => ?_) (fun h1 => ?_)
  ·
    refine pm_wk [0, 1, 2] rfl ?_
    exact Pr_checkIndex_5_n9 g d K R I J _ _   _ _ (hp.1 h1) (ho.trans (by first | (simp only [fPr_checkIndex_5, if_pos h1]; done) | (simp only [fPr_checkIndex_5, if_pos h1]; rfl) | rfl)) (hz.trans (by first | (simp only [fPr_checkIndex_5, if_pos h1]; done) | (simp only [fPr_checkIndex_5, if_pos h1]; rfl) | rfl))
  ·
    refine pm_iload_n dPr_checkIndex_4 rfl ?_
    refine pm_iload_n dPr_checkIndex_5 rfl ?_
    refine pm_icmp_lt 16 dPr_checkIndex_6 (by decide) (fun h6 => ?_) (fun h6 => ?_)
    ·
      refine pm_iload_n dPr_checkIndex_16 rfl ?_
      exact pm_iret dPr_checkIndex_17 rfl (ho.trans (by first | (simp only [fPr_checkIndex_5, if_neg h1, if_pos h6]; done) | (simp only [fPr_checkIndex_5, if_neg h1, if_pos h6]; rfl) | rfl)) (hz.trans (by first | (simp only [fPr_checkIndex_5, if_neg h1, if_pos h6]; done) | (simp only [fPr_checkIndex_5, if_neg h1, if_pos h6]; rfl) | rfl))
    ·
      refine pm_wk [0, 1, 2] rfl ?_
      exact Pr_checkIndex_5_n9 g d K R I J _ _   _ _ ((hp.2 h1).2 h6) (ho.trans (by first | (simp only [fPr_checkIndex_5, if_neg h1, if_neg h6]; done) | (simp only [fPr_checkIndex_5, if_neg h1, if_neg h6]; rfl) | rfl)) (hz.trans (by first | (simp only [fPr_checkIndex_5, if_neg h1, if_neg h6]; done) | (simp only [fPr_checkIndex_5, if_neg h1, if_neg h6]; rfl) | rfl))
set_option maxHeartbeats 4000000 in
set_option maxRecDepth 100000 in
theorem Pr_checkIndex_5_ok (g : pmG) (d : Nat) (K : List (Nat × Nat)) (R : Nat → Nat → Value)  (x0 : Int32) (x1 : Int32) (I : Nat → Nat → Int32) (J : Nat → Nat → Int64) (hp : pPr_checkIndex_5 x0 x1) : pmC g kPr_checkIndex d 0 0 [.int x0, .int x1, .retAddr 5] (K, R, I, J) (.returned (some (.int (fPr_checkIndex_5 x0 x1)))) (K, R, I, J) :=
  pmC.of (by decide) (Nat.le_of_ble_eq_true rfl) (Pr_checkIndex_5_n0 g d K R I J _ _  x0 x1  hp rfl rfl)
def fSg_checkIndex  (y0 : Int32) (y1 : Int32) : Unit :=
  ()
def pSg_checkIndex  (y0 : Int32) (y1 : Int32) : Prop :=
  ((pPr_checkIndex_n y0 y1) ∧ True) ∧ ((pPr_checkIndex_5 y0 y1) ∧ True)
set_option maxHeartbeats 4000000 in
set_option maxRecDepth 100000 in
theorem Sg_checkIndex_n0 (g : pmG) (d : Nat) (K : List (Nat × Nat)) (R : Nat → Nat → Value) (I : Nat → Nat → Int32) (J : Nat → Nat → Int64) (o : Outcome) (Z : pmM)  (y0 : Int32) (y1 : Int32) (hp : pSg_checkIndex y0 y1) (ho : o = .returned none) (hz : Z = (K, R, I, J)) : pmE g kSg_checkIndex (d + 1) 0 0 0 [(0, .int y0), (1, .int y1)] [] (K) R I J o Z := by
  unfold pSg_checkIndex at hp
  refine pm_iload_n dSg_checkIndex_0 rfl ?_
  refine pm_iload_n dSg_checkIndex_1 rfl ?_
  refine pm_getsQ dSg_checkIndex_2 gSg_1053 xs_5 ?_ ?_
  ·
    refine pm_callS dSg_checkIndex_5 lSg_1059 tPr_checkIndex (Pr_checkIndex_n_ok _ _ _ _ _ _ _ _ hp.1.1) rfl rfl (Nat.le_of_ble_eq_true rfl) (Nat.le_refl _) (Nat.le_refl _) ?_
    refine pm_pop dSg_checkIndex_8 rfl ?_
    exact pm_vret dSg_checkIndex_9 rfl ho (hz.trans (by first | rfl | (simp only [fSg_checkIndex]; done) | (simp only [fSg_checkIndex]; rfl)))
  ·
    refine pm_callS dSg_checkIndex_5 lSg_1059 tPr_checkIndex (Pr_checkIndex_5_ok _ _ _ _ _ _ _ _ hp.2.1) rfl rfl (Nat.le_of_ble_eq_true rfl) (Nat.le_refl _) (Nat.le_refl _) ?_
    refine pm_pop dSg_checkIndex_8 rfl ?_
    exact pm_vret dSg_checkIndex_9 rfl ho (hz.trans (by first | rfl | (simp only [fSg_checkIndex]; done) | (simp only [fSg_checkIndex]; rfl)))
set_option maxHeartbeats 4000000 in
set_option maxRecDepth 100000 in
theorem Sg_checkIndex_ok (g : pmG) (d : Nat) (K : List (Nat × Nat)) (R : Nat → Nat → Value)  (x0 : Int32) (x1 : Int32) (I : Nat → Nat → Int32) (J : Nat → Nat → Int64) (hp : pSg_checkIndex x0 x1) : pmC g kSg_checkIndex (d + 1) 0 0 [.int x0, .int x1] (K, R, I, J) (.returned none) (K, R, I, J) :=
  pmC.of (by decide) (Nat.le_of_ble_eq_true rfl) (Sg_checkIndex_n0 g d K R I J _ _  x0 x1  hp rfl rfl)
def fSg_coder_10  (I : Nat → Nat → Int32) (J : Nat → Nat → Int64) : Int32 :=
  (0 : Int32)
def pSg_coder_10  (I : Nat → Nat → Int32) (J : Nat → Nat → Int64) : Prop :=
  True
set_option maxHeartbeats 4000000 in
set_option maxRecDepth 100000 in
theorem Sg_coder_10_n0 (g : pmG) (d : Nat) (ex : List (Nat × Nat)) (R : Nat → Nat → Value) (hR : pk_R R) (o : Outcome) (Z : pmM)  (I : Nat → Nat → Int32) (J : Nat → Nat → Int64) (hp : pSg_coder_10 I J) (ho : o = .returned (some (.int (fSg_coder_10 I J)))) (hz : Z = (pk_K ++ ex, R, I, J)) : pmE g kSg_coder d 0 0 0 [(0, .retAddr 10)] [] (pk_K ++ ex) R I J o Z := by
  unfold pSg_coder_10 at hp
  refine pm_gets dSg_coder_0 gSg_38 xs_0 ?_
  refine pm_if_eq 13 dSg_coder_3 (by decide) (fun h3 => ?_) (fun h3 => ?_)
  · exact absurd h3 (by decide)
  ·
    refine pm_xload_n dSg_coder_6 rfl ?_
    refine pm_xcoder (x := 0) dSg_coder_7 gSg_15 (by decide) ?_
    refine pm_goto 14 dSg_coder_10 (by decide) ?_
    exact pm_zret dSg_coder_14 rfl (by first | rfl | decide) (ho.trans (by first | rfl | (simp only [fSg_coder_10]; done) | (simp only [fSg_coder_10]; rfl))) (hz.trans (by first | rfl | (simp only [fSg_coder_10]; done) | (simp only [fSg_coder_10]; rfl)))
set_option maxHeartbeats 4000000 in
set_option maxRecDepth 100000 in
theorem Sg_coder_10_ok (g : pmG) (d : Nat) (ex : List (Nat × Nat)) (R : Nat → Nat → Value) (hR : pk_R R)   (I : Nat → Nat → Int32) (J : Nat → Nat → Int64) (hp : pSg_coder_10 I J) : pmC g kSg_coder d 0 0 [.retAddr 10] (pk_K ++ ex, R, I, J) (.returned (some (.int (fSg_coder_10 I J)))) (pk_K ++ ex, R, I, J) :=
  pmC.of (by decide) (Nat.le_of_ble_eq_true rfl) (Sg_coder_10_n0 g d ex R hR _ _   I J hp rfl rfl)
def fSg_isLatin1_10_17  (I : Nat → Nat → Int32) (J : Nat → Nat → Int64) : Int32 :=
  (0 : Int32)
def pSg_isLatin1_10_17  (I : Nat → Nat → Int32) (J : Nat → Nat → Int64) : Prop :=
  True
def fSg_isLatin1_10  (I : Nat → Nat → Int32) (J : Nat → Nat → Int64) : Int32 :=
  (1 : Int32)
def pSg_isLatin1_10  (I : Nat → Nat → Int32) (J : Nat → Nat → Int64) : Prop :=
  True
set_option maxHeartbeats 4000000 in
set_option maxRecDepth 100000 in
theorem Sg_isLatin1_10_n17 (g : pmG) (d : Nat) (ex : List (Nat × Nat)) (R : Nat → Nat → Value) (hR : pk_R R) (o : Outcome) (Z : pmM)  (I : Nat → Nat → Int32) (J : Nat → Nat → Int64) (hp : pSg_isLatin1_10_17 I J) (ho : o = .returned (some (.int (fSg_isLatin1_10_17 I J)))) (hz : Z = (pk_K ++ ex, R, I, J)) : pmE g kSg_isLatin1 d 0 0 17 [(0, .retAddr 10)] [] (pk_K ++ ex) R I J o Z := by
  unfold pSg_isLatin1_10_17 at hp
  refine pm_iconst (v := 0) dSg_isLatin1_17 (by decide) ?_
  exact pm_zret dSg_isLatin1_18 rfl (by first | rfl | decide) (ho.trans (by first | rfl | (simp only [fSg_isLatin1_10_17]; done) | (simp only [fSg_isLatin1_10_17]; rfl))) (hz.trans (by first | rfl | (simp only [fSg_isLatin1_10_17]; done) | (simp only [fSg_isLatin1_10_17]; rfl)))
set_option maxHeartbeats 4000000 in
set_option maxRecDepth 100000 in
theorem Sg_isLatin1_10_n0 (g : pmG) (d : Nat) (ex : List (Nat × Nat)) (R : Nat → Nat → Value) (hR : pk_R R) (o : Outcome) (Z : pmM)  (I : Nat → Nat → Int32) (J : Nat → Nat → Int64) (hp : pSg_isLatin1_10 I J) (ho : o = .returned (some (.int (fSg_isLatin1_10 I J)))) (hz : Z = (pk_K ++ ex, R, I, J)) : pmE g kSg_isLatin1 d 0 0 0 [(0, .retAddr 10)] [] (pk_K ++ ex) R I J o Z := by
  unfold pSg_isLatin1_10 at hp
  refine pm_gets dSg_isLatin1_0 gSg_38 xs_0 ?_
  refine pm_if_eq 17 dSg_isLatin1_3 (by decide) (fun h3 => ?_) (fun h3 => ?_)
  · exact absurd h3 (by decide)
  ·
    refine pm_xload_n dSg_isLatin1_6 rfl ?_
    refine pm_xcoder (x := 0) dSg_isLatin1_7 gSg_15 (by decide) ?_
    refine pm_if_ne 17 dSg_isLatin1_10 (by decide) (fun h10 => ?_) (fun h10 => ?_)
    · exact absurd (by decide) h10
    ·
      refine pm_iconst (v := 1) dSg_isLatin1_13 (by decide) ?_
      refine pm_goto 18 dSg_isLatin1_14 (by decide) ?_
      exact pm_zret dSg_isLatin1_18 rfl (by first | rfl | decide) (ho.trans (by first | rfl | (simp only [fSg_isLatin1_10]; done) | (simp only [fSg_isLatin1_10]; rfl))) (hz.trans (by first | rfl | (simp only [fSg_isLatin1_10]; done) | (simp only [fSg_isLatin1_10]; rfl)))
set_option maxHeartbeats 4000000 in
set_option maxRecDepth 100000 in
theorem Sg_isLatin1_10_ok (g : pmG) (d : Nat) (ex : List (Nat × Nat)) (R : Nat → Nat → Value) (hR : pk_R R)   (I : Nat → Nat → Int32) (J : Nat → Nat → Int64) (hp : pSg_isLatin1_10 I J) : pmC g kSg_isLatin1 d 0 0 [.retAddr 10] (pk_K ++ ex, R, I, J) (.returned (some (.int (fSg_isLatin1_10 I J)))) (pk_K ++ ex, R, I, J) :=
  pmC.of (by decide) (Nat.le_of_ble_eq_true rfl) (Sg_isLatin1_10_n0 g d ex R hR _ _   I J hp rfl rfl)
def fSg_length_10  (I : Nat → Nat → Int32) (J : Nat → Nat → Int64) : Int32 :=
  (3 : Int32) >>> ((0 : Int32) &&& 31)
def pSg_length_10  (I : Nat → Nat → Int32) (J : Nat → Nat → Int64) : Prop :=
  (pSg_coder_10 I J) ∧ True
set_option maxHeartbeats 4000000 in
set_option maxRecDepth 100000 in
theorem Sg_length_10_n0 (g : pmG) (d : Nat) (ex : List (Nat × Nat)) (R : Nat → Nat → Value) (hR : pk_R R) (o : Outcome) (Z : pmM)  (I : Nat → Nat → Int32) (J : Nat → Nat → Int64) (hp : pSg_length_10 I J) (ho : o = .returned (some (.int (fSg_length_10 I J)))) (hz : Z = (pk_K ++ ex, R, I, J)) : pmE g kSg_length (d + 1) 0 0 0 [(0, .retAddr 10)] [] (pk_K ++ ex) R I J o Z := by
  unfold pSg_length_10 at hp
  refine pm_xload_n dSg_length_0 rfl ?_
  refine pm_xvalue (x := 0) dSg_length_1 gSg_9 (by decide) ?_
  refine pm_xlen (u := 3) dSg_length_4 xa_40 (by decide) ?_
  refine pm_xload_n dSg_length_5 rfl ?_
  refine pm_callX (x := 0) dSg_length_6 lSg_335 vSg_coder rfl (by decide) (Sg_coder_10_ok _ _ _ _ hR  _ _ hp.1) rfl rfl (Nat.le_of_ble_eq_true rfl) (Nat.le_refl _) (Nat.le_refl _) ?_
  refine pm_eqi (0 : Int32) rfl ?_
  refine pm_ishr dSg_length_9 ?_
  exact pm_iret dSg_length_10 rfl (ho.trans (by first | rfl | (simp only [fSg_length_10]; done) | (simp only [fSg_length_10]; rfl))) (hz.trans (by first | rfl | (simp only [fSg_length_10]; done) | (simp only [fSg_length_10]; rfl)))
set_option maxHeartbeats 4000000 in
set_option maxRecDepth 100000 in
theorem Sg_length_10_ok (g : pmG) (d : Nat) (ex : List (Nat × Nat)) (R : Nat → Nat → Value) (hR : pk_R R)   (I : Nat → Nat → Int32) (J : Nat → Nat → Int64) (hp : pSg_length_10 I J) : pmC g kSg_length (d + 1) 0 0 [.retAddr 10] (pk_K ++ ex, R, I, J) (.returned (some (.int (fSg_length_10 I J)))) (pk_K ++ ex, R, I, J) :=
  pmC.of (by decide) (Nat.le_of_ble_eq_true rfl) (Sg_length_10_n0 g d ex R hR _ _   I J hp rfl rfl)
def fSl_charAt_10  (y1 : Int32) (I : Nat → Nat → Int32) (J : Nat → Nat → Int64) : Int32 :=
  (((pk_B0.getD y1.toNatClampNeg 0) &&& (255 : Int32)).toUInt32 % 65536).toInt32
def pSl_charAt_10  (y1 : Int32) (I : Nat → Nat → Int32) (J : Nat → Nat → Int64) : Prop :=
  (pSg_checkIndex y1 (3 : Int32)) ∧ ((vp_in y1 3) ∧ (narrow .char (.int ((((pk_B0.getD y1.toNatClampNeg 0) &&& (255 : Int32)).toUInt32 % 65536).toInt32)) = .int ((((pk_B0.getD y1.toNatClampNeg 0) &&& (255 : Int32)).toUInt32 % 65536).toInt32)))
set_option maxHeartbeats 4000000 in
set_option maxRecDepth 100000 in
theorem Sl_charAt_10_n0 (g : pmG) (d : Nat) (ex : List (Nat × Nat)) (R : Nat → Nat → Value) (hR : pk_R R) (o : Outcome) (Z : pmM)  (y1 : Int32) (I : Nat → Nat → Int32) (J : Nat → Nat → Int64) (hp : pSl_charAt_10 y1 I J) (ho : o = .returned (some (.int (fSl_charAt_10 y1 I J)))) (hz : Z = (pk_K ++ ex, R, I, J)) : pmE g kSl_charAt (d + 2) 0 0 0 [(0, .retAddr 40), (1, .int y1)] [] (pk_K ++ ex) R I J o Z := by
  unfold pSl_charAt_10 at hp
  refine pm_iload_n dSl_charAt_0 rfl ?_
  refine pm_xload_n dSl_charAt_1 rfl ?_
  refine pm_xlen (u := 3) dSl_charAt_2 xa_40 (by decide) ?_
  refine pm_callS dSl_charAt_3 lSl_9 tSg_checkIndex (Sg_checkIndex_ok _ _ _ _ _ _ _ _ hp.1) rfl rfl (Nat.le_of_ble_eq_true rfl) (Nat.le_refl _) (Nat.le_refl _) ?_
  refine pm_xload_n dSl_charAt_6 rfl ?_
  refine pm_iload_n dSl_charAt_7 rfl ?_
  refine pm_xbald dSl_charAt_8 xa_40 hp.2.1 ?_
  refine pm_sipush (v := 255) dSl_charAt_9 (by decide) ?_
  refine pm_iand dSl_charAt_12 ?_
  refine pm_i2c dSl_charAt_13 ?_
  exact pm_zret dSl_charAt_14 rfl hp.2.2 (ho.trans (by first | rfl | (simp only [fSl_charAt_10]; done) | (simp only [fSl_charAt_10]; rfl))) (hz.trans (by first | rfl | (simp only [fSl_charAt_10]; done) | (simp only [fSl_charAt_10]; rfl)))
set_option maxHeartbeats 4000000 in
set_option maxRecDepth 100000 in
theorem Sl_charAt_10_ok (g : pmG) (d : Nat) (ex : List (Nat × Nat)) (R : Nat → Nat → Value) (hR : pk_R R)  (x0 : Int32) (I : Nat → Nat → Int32) (J : Nat → Nat → Int64) (hp : pSl_charAt_10 x0 I J) : pmC g kSl_charAt (d + 2) 0 0 [.retAddr 40, .int x0] (pk_K ++ ex, R, I, J) (.returned (some (.int (fSl_charAt_10 x0 I J)))) (pk_K ++ ex, R, I, J) :=
  pmC.of (by decide) (Nat.le_of_ble_eq_true rfl) (Sl_charAt_10_n0 g d ex R hR _ _  x0 I J hp rfl rfl)
def fSg_charAt_10  (y1 : Int32) (I : Nat → Nat → Int32) (J : Nat → Nat → Int64) : Int32 :=
  (fSl_charAt_10 y1 I J)
def pSg_charAt_10  (y1 : Int32) (I : Nat → Nat → Int32) (J : Nat → Nat → Int64) : Prop :=
  (pSg_isLatin1_10 I J) ∧ ((pSl_charAt_10 y1 I J) ∧ (narrow .char (.int ((fSl_charAt_10 y1 I J))) = .int ((fSl_charAt_10 y1 I J))))
set_option maxHeartbeats 4000000 in
set_option maxRecDepth 100000 in
theorem Sg_charAt_10_n0 (g : pmG) (d : Nat) (ex : List (Nat × Nat)) (R : Nat → Nat → Value) (hR : pk_R R) (o : Outcome) (Z : pmM)  (y1 : Int32) (I : Nat → Nat → Int32) (J : Nat → Nat → Int64) (hp : pSg_charAt_10 y1 I J) (ho : o = .returned (some (.int (fSg_charAt_10 y1 I J)))) (hz : Z = (pk_K ++ ex, R, I, J)) : pmE g kSg_charAt (d + 3) 0 0 0 [(0, .retAddr 10), (1, .int y1)] [] (pk_K ++ ex) R I J o Z := by
  unfold pSg_charAt_10 at hp
  refine pm_xload_n dSg_charAt_0 rfl ?_
  refine pm_callX (x := 0) dSg_charAt_1 lSg_492 vSg_isLatin1 rfl (by decide) (Sg_isLatin1_10_ok _ _ _ _ hR  _ _ hp.1) rfl rfl (Nat.le_of_ble_eq_true rfl) (Nat.le_refl _) (Nat.le_refl _) ?_
  refine pm_eqi (1 : Int32) rfl ?_
  refine pm_if_eq 16 dSg_charAt_4 (by decide) (fun h4 => ?_) (fun h4 => ?_)
  · exact absurd h4 (by decide)
  ·
    refine pm_xload_n dSg_charAt_7 rfl ?_
    refine pm_xvalue (x := 0) dSg_charAt_8 gSg_9 (by decide) ?_
    refine pm_iload_n dSg_charAt_11 rfl ?_
    refine pm_callS dSg_charAt_12 lSg_495 tSl_charAt (Sl_charAt_10_ok _ _ _ _ hR _ _ _ hp.2.1) rfl rfl (Nat.le_of_ble_eq_true rfl) (Nat.le_refl _) (Nat.le_refl _) ?_
    exact pm_zret dSg_charAt_15 rfl hp.2.2 (ho.trans (by first | rfl | (simp only [fSg_charAt_10]; done) | (simp only [fSg_charAt_10]; rfl))) (hz.trans (by first | rfl | (simp only [fSg_charAt_10]; done) | (simp only [fSg_charAt_10]; rfl)))
set_option maxHeartbeats 4000000 in
set_option maxRecDepth 100000 in
theorem Sg_charAt_10_ok (g : pmG) (d : Nat) (ex : List (Nat × Nat)) (R : Nat → Nat → Value) (hR : pk_R R)  (x0 : Int32) (I : Nat → Nat → Int32) (J : Nat → Nat → Int64) (hp : pSg_charAt_10 x0 I J) : pmC g kSg_charAt (d + 3) 0 0 [.retAddr 10, .int x0] (pk_K ++ ex, R, I, J) (.returned (some (.int (fSg_charAt_10 x0 I J)))) (pk_K ++ ex, R, I, J) :=
  pmC.of (by decide) (Nat.le_of_ble_eq_true rfl) (Sg_charAt_10_n0 g d ex R hR _ _  x0 I J hp rfl rfl)
def fSg_coder_11  (I : Nat → Nat → Int32) (J : Nat → Nat → Int64) : Int32 :=
  (0 : Int32)
def pSg_coder_11  (I : Nat → Nat → Int32) (J : Nat → Nat → Int64) : Prop :=
  True
set_option maxHeartbeats 4000000 in
set_option maxRecDepth 100000 in
theorem Sg_coder_11_n0 (g : pmG) (d : Nat) (ex : List (Nat × Nat)) (R : Nat → Nat → Value) (hR : pk_R R) (o : Outcome) (Z : pmM)  (I : Nat → Nat → Int32) (J : Nat → Nat → Int64) (hp : pSg_coder_11 I J) (ho : o = .returned (some (.int (fSg_coder_11 I J)))) (hz : Z = (pk_K ++ ex, R, I, J)) : pmE g kSg_coder d 0 0 0 [(0, .retAddr 11)] [] (pk_K ++ ex) R I J o Z := by
  unfold pSg_coder_11 at hp
  refine pm_gets dSg_coder_0 gSg_38 xs_0 ?_
  refine pm_if_eq 13 dSg_coder_3 (by decide) (fun h3 => ?_) (fun h3 => ?_)
  · exact absurd h3 (by decide)
  ·
    refine pm_xload_n dSg_coder_6 rfl ?_
    refine pm_xcoder (x := 1) dSg_coder_7 gSg_15 (by decide) ?_
    refine pm_goto 14 dSg_coder_10 (by decide) ?_
    exact pm_zret dSg_coder_14 rfl (by first | rfl | decide) (ho.trans (by first | rfl | (simp only [fSg_coder_11]; done) | (simp only [fSg_coder_11]; rfl))) (hz.trans (by first | rfl | (simp only [fSg_coder_11]; done) | (simp only [fSg_coder_11]; rfl)))
set_option maxHeartbeats 4000000 in
set_option maxRecDepth 100000 in
theorem Sg_coder_11_ok (g : pmG) (d : Nat) (ex : List (Nat × Nat)) (R : Nat → Nat → Value) (hR : pk_R R)   (I : Nat → Nat → Int32) (J : Nat → Nat → Int64) (hp : pSg_coder_11 I J) : pmC g kSg_coder d 0 0 [.retAddr 11] (pk_K ++ ex, R, I, J) (.returned (some (.int (fSg_coder_11 I J)))) (pk_K ++ ex, R, I, J) :=
  pmC.of (by decide) (Nat.le_of_ble_eq_true rfl) (Sg_coder_11_n0 g d ex R hR _ _   I J hp rfl rfl)
def fSg_isLatin1_11_17  (I : Nat → Nat → Int32) (J : Nat → Nat → Int64) : Int32 :=
  (0 : Int32)
def pSg_isLatin1_11_17  (I : Nat → Nat → Int32) (J : Nat → Nat → Int64) : Prop :=
  True
def fSg_isLatin1_11  (I : Nat → Nat → Int32) (J : Nat → Nat → Int64) : Int32 :=
  (1 : Int32)
def pSg_isLatin1_11  (I : Nat → Nat → Int32) (J : Nat → Nat → Int64) : Prop :=
  True
set_option maxHeartbeats 4000000 in
set_option maxRecDepth 100000 in
theorem Sg_isLatin1_11_n17 (g : pmG) (d : Nat) (ex : List (Nat × Nat)) (R : Nat → Nat → Value) (hR : pk_R R) (o : Outcome) (Z : pmM)  (I : Nat → Nat → Int32) (J : Nat → Nat → Int64) (hp : pSg_isLatin1_11_17 I J) (ho : o = .returned (some (.int (fSg_isLatin1_11_17 I J)))) (hz : Z = (pk_K ++ ex, R, I, J)) : pmE g kSg_isLatin1 d 0 0 17 [(0, .retAddr 11)] [] (pk_K ++ ex) R I J o Z := by
  unfold pSg_isLatin1_11_17 at hp
  refine pm_iconst (v := 0) dSg_isLatin1_17 (by decide) ?_
  exact pm_zret dSg_isLatin1_18 rfl (by first | rfl | decide) (ho.trans (by first | rfl | (simp only [fSg_isLatin1_11_17]; done) | (simp only [fSg_isLatin1_11_17]; rfl))) (hz.trans (by first | rfl | (simp only [fSg_isLatin1_11_17]; done) | (simp only [fSg_isLatin1_11_17]; rfl)))
set_option maxHeartbeats 4000000 in
set_option maxRecDepth 100000 in
theorem Sg_isLatin1_11_n0 (g : pmG) (d : Nat) (ex : List (Nat × Nat)) (R : Nat → Nat → Value) (hR : pk_R R) (o : Outcome) (Z : pmM)  (I : Nat → Nat → Int32) (J : Nat → Nat → Int64) (hp : pSg_isLatin1_11 I J) (ho : o = .returned (some (.int (fSg_isLatin1_11 I J)))) (hz : Z = (pk_K ++ ex, R, I, J)) : pmE g kSg_isLatin1 d 0 0 0 [(0, .retAddr 11)] [] (pk_K ++ ex) R I J o Z := by
  unfold pSg_isLatin1_11 at hp
  refine pm_gets dSg_isLatin1_0 gSg_38 xs_0 ?_
  refine pm_if_eq 17 dSg_isLatin1_3 (by decide) (fun h3 => ?_) (fun h3 => ?_)
  · exact absurd h3 (by decide)
  ·
    refine pm_xload_n dSg_isLatin1_6 rfl ?_
    refine pm_xcoder (x := 1) dSg_isLatin1_7 gSg_15 (by decide) ?_
    refine pm_if_ne 17 dSg_isLatin1_10 (by decide) (fun h10 => ?_) (fun h10 => ?_)
    · exact absurd (by decide) h10
    ·
      refine pm_iconst (v := 1) dSg_isLatin1_13 (by decide) ?_
      refine pm_goto 18 dSg_isLatin1_14 (by decide) ?_
      exact pm_zret dSg_isLatin1_18 rfl (by first | rfl | decide) (ho.trans (by first | rfl | (simp only [fSg_isLatin1_11]; done) | (simp only [fSg_isLatin1_11]; rfl))) (hz.trans (by first | rfl | (simp only [fSg_isLatin1_11]; done) | (simp only [fSg_isLatin1_11]; rfl)))
set_option maxHeartbeats 4000000 in
set_option maxRecDepth 100000 in
theorem Sg_isLatin1_11_ok (g : pmG) (d : Nat) (ex : List (Nat × Nat)) (R : Nat → Nat → Value) (hR : pk_R R)   (I : Nat → Nat → Int32) (J : Nat → Nat → Int64) (hp : pSg_isLatin1_11 I J) : pmC g kSg_isLatin1 d 0 0 [.retAddr 11] (pk_K ++ ex, R, I, J) (.returned (some (.int (fSg_isLatin1_11 I J)))) (pk_K ++ ex, R, I, J) :=
  pmC.of (by decide) (Nat.le_of_ble_eq_true rfl) (Sg_isLatin1_11_n0 g d ex R hR _ _   I J hp rfl rfl)
def fSg_length_11  (I : Nat → Nat → Int32) (J : Nat → Nat → Int64) : Int32 :=
  (5 : Int32) >>> ((0 : Int32) &&& 31)
def pSg_length_11  (I : Nat → Nat → Int32) (J : Nat → Nat → Int64) : Prop :=
  (pSg_coder_11 I J) ∧ True
set_option maxHeartbeats 4000000 in
set_option maxRecDepth 100000 in
theorem Sg_length_11_n0 (g : pmG) (d : Nat) (ex : List (Nat × Nat)) (R : Nat → Nat → Value) (hR : pk_R R) (o : Outcome) (Z : pmM)  (I : Nat → Nat → Int32) (J : Nat → Nat → Int64) (hp : pSg_length_11 I J) (ho : o = .returned (some (.int (fSg_length_11 I J)))) (hz : Z = (pk_K ++ ex, R, I, J)) : pmE g kSg_length (d + 1) 0 0 0 [(0, .retAddr 11)] [] (pk_K ++ ex) R I J o Z := by
  unfold pSg_length_11 at hp
  refine pm_xload_n dSg_length_0 rfl ?_
  refine pm_xvalue (x := 1) dSg_length_1 gSg_9 (by decide) ?_
  refine pm_xlen (u := 5) dSg_length_4 xa_41 (by decide) ?_
  refine pm_xload_n dSg_length_5 rfl ?_
  refine pm_callX (x := 1) dSg_length_6 lSg_335 vSg_coder rfl (by decide) (Sg_coder_11_ok _ _ _ _ hR  _ _ hp.1) rfl rfl (Nat.le_of_ble_eq_true rfl) (Nat.le_refl _) (Nat.le_refl _) ?_
  refine pm_eqi (0 : Int32) rfl ?_
  refine pm_ishr dSg_length_9 ?_
  exact pm_iret dSg_length_10 rfl (ho.trans (by first | rfl | (simp only [fSg_length_11]; done) | (simp only [fSg_length_11]; rfl))) (hz.trans (by first | rfl | (simp only [fSg_length_11]; done) | (simp only [fSg_length_11]; rfl)))
set_option maxHeartbeats 4000000 in
set_option maxRecDepth 100000 in
theorem Sg_length_11_ok (g : pmG) (d : Nat) (ex : List (Nat × Nat)) (R : Nat → Nat → Value) (hR : pk_R R)   (I : Nat → Nat → Int32) (J : Nat → Nat → Int64) (hp : pSg_length_11 I J) : pmC g kSg_length (d + 1) 0 0 [.retAddr 11] (pk_K ++ ex, R, I, J) (.returned (some (.int (fSg_length_11 I J)))) (pk_K ++ ex, R, I, J) :=
  pmC.of (by decide) (Nat.le_of_ble_eq_true rfl) (Sg_length_11_n0 g d ex R hR _ _   I J hp rfl rfl)
def fSl_charAt_11  (y1 : Int32) (I : Nat → Nat → Int32) (J : Nat → Nat → Int64) : Int32 :=
  (((pk_B1.getD y1.toNatClampNeg 0) &&& (255 : Int32)).toUInt32 % 65536).toInt32
def pSl_charAt_11  (y1 : Int32) (I : Nat → Nat → Int32) (J : Nat → Nat → Int64) : Prop :=
  (pSg_checkIndex y1 (5 : Int32)) ∧ ((vp_in y1 5) ∧ (narrow .char (.int ((((pk_B1.getD y1.toNatClampNeg 0) &&& (255 : Int32)).toUInt32 % 65536).toInt32)) = .int ((((pk_B1.getD y1.toNatClampNeg 0) &&& (255 : Int32)).toUInt32 % 65536).toInt32)))
set_option maxHeartbeats 4000000 in
set_option maxRecDepth 100000 in
theorem Sl_charAt_11_n0 (g : pmG) (d : Nat) (ex : List (Nat × Nat)) (R : Nat → Nat → Value) (hR : pk_R R) (o : Outcome) (Z : pmM)  (y1 : Int32) (I : Nat → Nat → Int32) (J : Nat → Nat → Int64) (hp : pSl_charAt_11 y1 I J) (ho : o = .returned (some (.int (fSl_charAt_11 y1 I J)))) (hz : Z = (pk_K ++ ex, R, I, J)) : pmE g kSl_charAt (d + 2) 0 0 0 [(0, .retAddr 41), (1, .int y1)] [] (pk_K ++ ex) R I J o Z := by
  unfold pSl_charAt_11 at hp
  refine pm_iload_n dSl_charAt_0 rfl ?_
  refine pm_xload_n dSl_charAt_1 rfl ?_
  refine pm_xlen (u := 5) dSl_charAt_2 xa_41 (by decide) ?_
  refine pm_callS dSl_charAt_3 lSl_9 tSg_checkIndex (Sg_checkIndex_ok _ _ _ _ _ _ _ _ hp.1) rfl rfl (Nat.le_of_ble_eq_true rfl) (Nat.le_refl _) (Nat.le_refl _) ?_
  refine pm_xload_n dSl_charAt_6 rfl ?_
  refine pm_iload_n dSl_charAt_7 rfl ?_
  refine pm_xbald dSl_charAt_8 xa_41 hp.2.1 ?_
  refine pm_sipush (v := 255) dSl_charAt_9 (by decide) ?_
  refine pm_iand dSl_charAt_12 ?_
  refine pm_i2c dSl_charAt_13 ?_
  exact pm_zret dSl_charAt_14 rfl hp.2.2 (ho.trans (by first | rfl | (simp only [fSl_charAt_11]; done) | (simp only [fSl_charAt_11]; rfl))) (hz.trans (by first | rfl | (simp only [fSl_charAt_11]; done) | (simp only [fSl_charAt_11]; rfl)))
set_option maxHeartbeats 4000000 in
set_option maxRecDepth 100000 in
theorem Sl_charAt_11_ok (g : pmG) (d : Nat) (ex : List (Nat × Nat)) (R : Nat → Nat → Value) (hR : pk_R R)  (x0 : Int32) (I : Nat → Nat → Int32) (J : Nat → Nat → Int64) (hp : pSl_charAt_11 x0 I J) : pmC g kSl_charAt (d + 2) 0 0 [.retAddr 41, .int x0] (pk_K ++ ex, R, I, J) (.returned (some (.int (fSl_charAt_11 x0 I J)))) (pk_K ++ ex, R, I, J) :=
  pmC.of (by decide) (Nat.le_of_ble_eq_true rfl) (Sl_charAt_11_n0 g d ex R hR _ _  x0 I J hp rfl rfl)
def fSg_charAt_11  (y1 : Int32) (I : Nat → Nat → Int32) (J : Nat → Nat → Int64) : Int32 :=
  (fSl_charAt_11 y1 I J)
def pSg_charAt_11  (y1 : Int32) (I : Nat → Nat → Int32) (J : Nat → Nat → Int64) : Prop :=
  (pSg_isLatin1_11 I J) ∧ ((pSl_charAt_11 y1 I J) ∧ (narrow .char (.int ((fSl_charAt_11 y1 I J))) = .int ((fSl_charAt_11 y1 I J))))
set_option maxHeartbeats 4000000 in
set_option maxRecDepth 100000 in
theorem Sg_charAt_11_n0 (g : pmG) (d : Nat) (ex : List (Nat × Nat)) (R : Nat → Nat → Value) (hR : pk_R R) (o : Outcome) (Z : pmM)  (y1 : Int32) (I : Nat → Nat → Int32) (J : Nat → Nat → Int64) (hp : pSg_charAt_11 y1 I J) (ho : o = .returned (some (.int (fSg_charAt_11 y1 I J)))) (hz : Z = (pk_K ++ ex, R, I, J)) : pmE g kSg_charAt (d + 3) 0 0 0 [(0, .retAddr 11), (1, .int y1)] [] (pk_K ++ ex) R I J o Z := by
  unfold pSg_charAt_11 at hp
  refine pm_xload_n dSg_charAt_0 rfl ?_
  refine pm_callX (x := 1) dSg_charAt_1 lSg_492 vSg_isLatin1 rfl (by decide) (Sg_isLatin1_11_ok _ _ _ _ hR  _ _ hp.1) rfl rfl (Nat.le_of_ble_eq_true rfl) (Nat.le_refl _) (Nat.le_refl _) ?_
  refine pm_eqi (1 : Int32) rfl ?_
  refine pm_if_eq 16 dSg_charAt_4 (by decide) (fun h4 => ?_) (fun h4 => ?_)
  · exact absurd h4 (by decide)
  ·
    refine pm_xload_n dSg_charAt_7 rfl ?_
    refine pm_xvalue (x := 1) dSg_charAt_8 gSg_9 (by decide) ?_
    refine pm_iload_n dSg_charAt_11 rfl ?_
    refine pm_callS dSg_charAt_12 lSg_495 tSl_charAt (Sl_charAt_11_ok _ _ _ _ hR _ _ _ hp.2.1) rfl rfl (Nat.le_of_ble_eq_true rfl) (Nat.le_refl _) (Nat.le_refl _) ?_
    exact pm_zret dSg_charAt_15 rfl hp.2.2 (ho.trans (by first | rfl | (simp only [fSg_charAt_11]; done) | (simp only [fSg_charAt_11]; rfl))) (hz.trans (by first | rfl | (simp only [fSg_charAt_11]; done) | (simp only [fSg_charAt_11]; rfl)))
set_option maxHeartbeats 4000000 in
set_option maxRecDepth 100000 in
theorem Sg_charAt_11_ok (g : pmG) (d : Nat) (ex : List (Nat × Nat)) (R : Nat → Nat → Value) (hR : pk_R R)  (x0 : Int32) (I : Nat → Nat → Int32) (J : Nat → Nat → Int64) (hp : pSg_charAt_11 x0 I J) : pmC g kSg_charAt (d + 3) 0 0 [.retAddr 11, .int x0] (pk_K ++ ex, R, I, J) (.returned (some (.int (fSg_charAt_11 x0 I J)))) (pk_K ++ ex, R, I, J) :=
  pmC.of (by decide) (Nat.le_of_ble_eq_true rfl) (Sg_charAt_11_n0 g d ex R hR _ _  x0 I J hp rfl rfl)
def fSg_coder_12  (I : Nat → Nat → Int32) (J : Nat → Nat → Int64) : Int32 :=
  (0 : Int32)
def pSg_coder_12  (I : Nat → Nat → Int32) (J : Nat → Nat → Int64) : Prop :=
  True
set_option maxHeartbeats 4000000 in
set_option maxRecDepth 100000 in
theorem Sg_coder_12_n0 (g : pmG) (d : Nat) (ex : List (Nat × Nat)) (R : Nat → Nat → Value) (hR : pk_R R) (o : Outcome) (Z : pmM)  (I : Nat → Nat → Int32) (J : Nat → Nat → Int64) (hp : pSg_coder_12 I J) (ho : o = .returned (some (.int (fSg_coder_12 I J)))) (hz : Z = (pk_K ++ ex, R, I, J)) : pmE g kSg_coder d 0 0 0 [(0, .retAddr 12)] [] (pk_K ++ ex) R I J o Z := by
  unfold pSg_coder_12 at hp
  refine pm_gets dSg_coder_0 gSg_38 xs_0 ?_
  refine pm_if_eq 13 dSg_coder_3 (by decide) (fun h3 => ?_) (fun h3 => ?_)
  · exact absurd h3 (by decide)
  ·
    refine pm_xload_n dSg_coder_6 rfl ?_
    refine pm_xcoder (x := 2) dSg_coder_7 gSg_15 (by decide) ?_
    refine pm_goto 14 dSg_coder_10 (by decide) ?_
    exact pm_zret dSg_coder_14 rfl (by first | rfl | decide) (ho.trans (by first | rfl | (simp only [fSg_coder_12]; done) | (simp only [fSg_coder_12]; rfl))) (hz.trans (by first | rfl | (simp only [fSg_coder_12]; done) | (simp only [fSg_coder_12]; rfl)))
set_option maxHeartbeats 4000000 in
set_option maxRecDepth 100000 in
theorem Sg_coder_12_ok (g : pmG) (d : Nat) (ex : List (Nat × Nat)) (R : Nat → Nat → Value) (hR : pk_R R)   (I : Nat → Nat → Int32) (J : Nat → Nat → Int64) (hp : pSg_coder_12 I J) : pmC g kSg_coder d 0 0 [.retAddr 12] (pk_K ++ ex, R, I, J) (.returned (some (.int (fSg_coder_12 I J)))) (pk_K ++ ex, R, I, J) :=
  pmC.of (by decide) (Nat.le_of_ble_eq_true rfl) (Sg_coder_12_n0 g d ex R hR _ _   I J hp rfl rfl)
def fSg_isLatin1_12_17  (I : Nat → Nat → Int32) (J : Nat → Nat → Int64) : Int32 :=
  (0 : Int32)
def pSg_isLatin1_12_17  (I : Nat → Nat → Int32) (J : Nat → Nat → Int64) : Prop :=
  True
def fSg_isLatin1_12  (I : Nat → Nat → Int32) (J : Nat → Nat → Int64) : Int32 :=
  (1 : Int32)
def pSg_isLatin1_12  (I : Nat → Nat → Int32) (J : Nat → Nat → Int64) : Prop :=
  True
set_option maxHeartbeats 4000000 in
set_option maxRecDepth 100000 in
theorem Sg_isLatin1_12_n17 (g : pmG) (d : Nat) (ex : List (Nat × Nat)) (R : Nat → Nat → Value) (hR : pk_R R) (o : Outcome) (Z : pmM)  (I : Nat → Nat → Int32) (J : Nat → Nat → Int64) (hp : pSg_isLatin1_12_17 I J) (ho : o = .returned (some (.int (fSg_isLatin1_12_17 I J)))) (hz : Z = (pk_K ++ ex, R, I, J)) : pmE g kSg_isLatin1 d 0 0 17 [(0, .retAddr 12)] [] (pk_K ++ ex) R I J o Z := by
  unfold pSg_isLatin1_12_17 at hp
  refine pm_iconst (v := 0) dSg_isLatin1_17 (by decide) ?_
  exact pm_zret dSg_isLatin1_18 rfl (by first | rfl | decide) (ho.trans (by first | rfl | (simp only [fSg_isLatin1_12_17]; done) | (simp only [fSg_isLatin1_12_17]; rfl))) (hz.trans (by first | rfl | (simp only [fSg_isLatin1_12_17]; done) | (simp only [fSg_isLatin1_12_17]; rfl)))
set_option maxHeartbeats 4000000 in
set_option maxRecDepth 100000 in
theorem Sg_isLatin1_12_n0 (g : pmG) (d : Nat) (ex : List (Nat × Nat)) (R : Nat → Nat → Value) (hR : pk_R R) (o : Outcome) (Z : pmM)  (I : Nat → Nat → Int32) (J : Nat → Nat → Int64) (hp : pSg_isLatin1_12 I J) (ho : o = .returned (some (.int (fSg_isLatin1_12 I J)))) (hz : Z = (pk_K ++ ex, R, I, J)) : pmE g kSg_isLatin1 d 0 0 0 [(0, .retAddr 12)] [] (pk_K ++ ex) R I J o Z := by
  unfold pSg_isLatin1_12 at hp
  refine pm_gets dSg_isLatin1_0 gSg_38 xs_0 ?_
  refine pm_if_eq 17 dSg_isLatin1_3 (by decide) (fun h3 => ?_) (fun h3 => ?_)
  · exact absurd h3 (by decide)
  ·
    refine pm_xload_n dSg_isLatin1_6 rfl ?_
    refine pm_xcoder (x := 2) dSg_isLatin1_7 gSg_15 (by decide) ?_
    refine pm_if_ne 17 dSg_isLatin1_10 (by decide) (fun h10 => ?_) (fun h10 => ?_)
    · exact absurd (by decide) h10
    ·
      refine pm_iconst (v := 1) dSg_isLatin1_13 (by decide) ?_
      refine pm_goto 18 dSg_isLatin1_14 (by decide) ?_
      exact pm_zret dSg_isLatin1_18 rfl (by first | rfl | decide) (ho.trans (by first | rfl | (simp only [fSg_isLatin1_12]; done) | (simp only [fSg_isLatin1_12]; rfl))) (hz.trans (by first | rfl | (simp only [fSg_isLatin1_12]; done) | (simp only [fSg_isLatin1_12]; rfl)))
set_option maxHeartbeats 4000000 in
set_option maxRecDepth 100000 in
theorem Sg_isLatin1_12_ok (g : pmG) (d : Nat) (ex : List (Nat × Nat)) (R : Nat → Nat → Value) (hR : pk_R R)   (I : Nat → Nat → Int32) (J : Nat → Nat → Int64) (hp : pSg_isLatin1_12 I J) : pmC g kSg_isLatin1 d 0 0 [.retAddr 12] (pk_K ++ ex, R, I, J) (.returned (some (.int (fSg_isLatin1_12 I J)))) (pk_K ++ ex, R, I, J) :=
  pmC.of (by decide) (Nat.le_of_ble_eq_true rfl) (Sg_isLatin1_12_n0 g d ex R hR _ _   I J hp rfl rfl)
def fSg_length_12  (I : Nat → Nat → Int32) (J : Nat → Nat → Int64) : Int32 :=
  (4 : Int32) >>> ((0 : Int32) &&& 31)
def pSg_length_12  (I : Nat → Nat → Int32) (J : Nat → Nat → Int64) : Prop :=
  (pSg_coder_12 I J) ∧ True
set_option maxHeartbeats 4000000 in
set_option maxRecDepth 100000 in
theorem Sg_length_12_n0 (g : pmG) (d : Nat) (ex : List (Nat × Nat)) (R : Nat → Nat → Value) (hR : pk_R R) (o : Outcome) (Z : pmM)  (I : Nat → Nat → Int32) (J : Nat → Nat → Int64) (hp : pSg_length_12 I J) (ho : o = .returned (some (.int (fSg_length_12 I J)))) (hz : Z = (pk_K ++ ex, R, I, J)) : pmE g kSg_length (d + 1) 0 0 0 [(0, .retAddr 12)] [] (pk_K ++ ex) R I J o Z := by
  unfold pSg_length_12 at hp
  refine pm_xload_n dSg_length_0 rfl ?_
  refine pm_xvalue (x := 2) dSg_length_1 gSg_9 (by decide) ?_
  refine pm_xlen (u := 4) dSg_length_4 xa_42 (by decide) ?_
  refine pm_xload_n dSg_length_5 rfl ?_
  refine pm_callX (x := 2) dSg_length_6 lSg_335 vSg_coder rfl (by decide) (Sg_coder_12_ok _ _ _ _ hR  _ _ hp.1) rfl rfl (Nat.le_of_ble_eq_true rfl) (Nat.le_refl _) (Nat.le_refl _) ?_
  refine pm_eqi (0 : Int32) rfl ?_
  refine pm_ishr dSg_length_9 ?_
  exact pm_iret dSg_length_10 rfl (ho.trans (by first | rfl | (simp only [fSg_length_12]; done) | (simp only [fSg_length_12]; rfl))) (hz.trans (by first | rfl | (simp only [fSg_length_12]; done) | (simp only [fSg_length_12]; rfl)))
set_option maxHeartbeats 4000000 in
set_option maxRecDepth 100000 in
theorem Sg_length_12_ok (g : pmG) (d : Nat) (ex : List (Nat × Nat)) (R : Nat → Nat → Value) (hR : pk_R R)   (I : Nat → Nat → Int32) (J : Nat → Nat → Int64) (hp : pSg_length_12 I J) : pmC g kSg_length (d + 1) 0 0 [.retAddr 12] (pk_K ++ ex, R, I, J) (.returned (some (.int (fSg_length_12 I J)))) (pk_K ++ ex, R, I, J) :=
  pmC.of (by decide) (Nat.le_of_ble_eq_true rfl) (Sg_length_12_n0 g d ex R hR _ _   I J hp rfl rfl)
def fSl_charAt_12  (y1 : Int32) (I : Nat → Nat → Int32) (J : Nat → Nat → Int64) : Int32 :=
  (((pk_B2.getD y1.toNatClampNeg 0) &&& (255 : Int32)).toUInt32 % 65536).toInt32
def pSl_charAt_12  (y1 : Int32) (I : Nat → Nat → Int32) (J : Nat → Nat → Int64) : Prop :=
  (pSg_checkIndex y1 (4 : Int32)) ∧ ((vp_in y1 4) ∧ (narrow .char (.int ((((pk_B2.getD y1.toNatClampNeg 0) &&& (255 : Int32)).toUInt32 % 65536).toInt32)) = .int ((((pk_B2.getD y1.toNatClampNeg 0) &&& (255 : Int32)).toUInt32 % 65536).toInt32)))
set_option maxHeartbeats 4000000 in
set_option maxRecDepth 100000 in
theorem Sl_charAt_12_n0 (g : pmG) (d : Nat) (ex : List (Nat × Nat)) (R : Nat → Nat → Value) (hR : pk_R R) (o : Outcome) (Z : pmM)  (y1 : Int32) (I : Nat → Nat → Int32) (J : Nat → Nat → Int64) (hp : pSl_charAt_12 y1 I J) (ho : o = .returned (some (.int (fSl_charAt_12 y1 I J)))) (hz : Z = (pk_K ++ ex, R, I, J)) : pmE g kSl_charAt (d + 2) 0 0 0 [(0, .retAddr 42), (1, .int y1)] [] (pk_K ++ ex) R I J o Z := by
  unfold pSl_charAt_12 at hp
  refine pm_iload_n dSl_charAt_0 rfl ?_
  refine pm_xload_n dSl_charAt_1 rfl ?_
  refine pm_xlen (u := 4) dSl_charAt_2 xa_42 (by decide) ?_
  refine pm_callS dSl_charAt_3 lSl_9 tSg_checkIndex (Sg_checkIndex_ok _ _ _ _ _ _ _ _ hp.1) rfl rfl (Nat.le_of_ble_eq_true rfl) (Nat.le_refl _) (Nat.le_refl _) ?_
  refine pm_xload_n dSl_charAt_6 rfl ?_
  refine pm_iload_n dSl_charAt_7 rfl ?_
  refine pm_xbald dSl_charAt_8 xa_42 hp.2.1 ?_
  refine pm_sipush (v := 255) dSl_charAt_9 (by decide) ?_
  refine pm_iand dSl_charAt_12 ?_
  refine pm_i2c dSl_charAt_13 ?_
  exact pm_zret dSl_charAt_14 rfl hp.2.2 (ho.trans (by first | rfl | (simp only [fSl_charAt_12]; done) | (simp only [fSl_charAt_12]; rfl))) (hz.trans (by first | rfl | (simp only [fSl_charAt_12]; done) | (simp only [fSl_charAt_12]; rfl)))
set_option maxHeartbeats 4000000 in
set_option maxRecDepth 100000 in
theorem Sl_charAt_12_ok (g : pmG) (d : Nat) (ex : List (Nat × Nat)) (R : Nat → Nat → Value) (hR : pk_R R)  (x0 : Int32) (I : Nat → Nat → Int32) (J : Nat → Nat → Int64) (hp : pSl_charAt_12 x0 I J) : pmC g kSl_charAt (d + 2) 0 0 [.retAddr 42, .int x0] (pk_K ++ ex, R, I, J) (.returned (some (.int (fSl_charAt_12 x0 I J)))) (pk_K ++ ex, R, I, J) :=
  pmC.of (by decide) (Nat.le_of_ble_eq_true rfl) (Sl_charAt_12_n0 g d ex R hR _ _  x0 I J hp rfl rfl)
def fSg_charAt_12  (y1 : Int32) (I : Nat → Nat → Int32) (J : Nat → Nat → Int64) : Int32 :=
  (fSl_charAt_12 y1 I J)
def pSg_charAt_12  (y1 : Int32) (I : Nat → Nat → Int32) (J : Nat → Nat → Int64) : Prop :=
  (pSg_isLatin1_12 I J) ∧ ((pSl_charAt_12 y1 I J) ∧ (narrow .char (.int ((fSl_charAt_12 y1 I J))) = .int ((fSl_charAt_12 y1 I J))))
set_option maxHeartbeats 4000000 in
set_option maxRecDepth 100000 in
theorem Sg_charAt_12_n0 (g : pmG) (d : Nat) (ex : List (Nat × Nat)) (R : Nat → Nat → Value) (hR : pk_R R) (o : Outcome) (Z : pmM)  (y1 : Int32) (I : Nat → Nat → Int32) (J : Nat → Nat → Int64) (hp : pSg_charAt_12 y1 I J) (ho : o = .returned (some (.int (fSg_charAt_12 y1 I J)))) (hz : Z = (pk_K ++ ex, R, I, J)) : pmE g kSg_charAt (d + 3) 0 0 0 [(0, .retAddr 12), (1, .int y1)] [] (pk_K ++ ex) R I J o Z := by
  unfold pSg_charAt_12 at hp
  refine pm_xload_n dSg_charAt_0 rfl ?_
  refine pm_callX (x := 2) dSg_charAt_1 lSg_492 vSg_isLatin1 rfl (by decide) (Sg_isLatin1_12_ok _ _ _ _ hR  _ _ hp.1) rfl rfl (Nat.le_of_ble_eq_true rfl) (Nat.le_refl _) (Nat.le_refl _) ?_
  refine pm_eqi (1 : Int32) rfl ?_
  refine pm_if_eq 16 dSg_charAt_4 (by decide) (fun h4 => ?_) (fun h4 => ?_)
  · exact absurd h4 (by decide)
  ·
    refine pm_xload_n dSg_charAt_7 rfl ?_
    refine pm_xvalue (x := 2) dSg_charAt_8 gSg_9 (by decide) ?_
    refine pm_iload_n dSg_charAt_11 rfl ?_
    refine pm_callS dSg_charAt_12 lSg_495 tSl_charAt (Sl_charAt_12_ok _ _ _ _ hR _ _ _ hp.2.1) rfl rfl (Nat.le_of_ble_eq_true rfl) (Nat.le_refl _) (Nat.le_refl _) ?_
    exact pm_zret dSg_charAt_15 rfl hp.2.2 (ho.trans (by first | rfl | (simp only [fSg_charAt_12]; done) | (simp only [fSg_charAt_12]; rfl))) (hz.trans (by first | rfl | (simp only [fSg_charAt_12]; done) | (simp only [fSg_charAt_12]; rfl)))
set_option maxHeartbeats 4000000 in
set_option maxRecDepth 100000 in
theorem Sg_charAt_12_ok (g : pmG) (d : Nat) (ex : List (Nat × Nat)) (R : Nat → Nat → Value) (hR : pk_R R)  (x0 : Int32) (I : Nat → Nat → Int32) (J : Nat → Nat → Int64) (hp : pSg_charAt_12 x0 I J) : pmC g kSg_charAt (d + 3) 0 0 [.retAddr 12, .int x0] (pk_K ++ ex, R, I, J) (.returned (some (.int (fSg_charAt_12 x0 I J)))) (pk_K ++ ex, R, I, J) :=
  pmC.of (by decide) (Nat.le_of_ble_eq_true rfl) (Sg_charAt_12_n0 g d ex R hR _ _  x0 I J hp rfl rfl)
def fSg_coder_13  (I : Nat → Nat → Int32) (J : Nat → Nat → Int64) : Int32 :=
  (0 : Int32)
def pSg_coder_13  (I : Nat → Nat → Int32) (J : Nat → Nat → Int64) : Prop :=
  True
set_option maxHeartbeats 4000000 in
set_option maxRecDepth 100000 in
theorem Sg_coder_13_n0 (g : pmG) (d : Nat) (ex : List (Nat × Nat)) (R : Nat → Nat → Value) (hR : pk_R R) (o : Outcome) (Z : pmM)  (I : Nat → Nat → Int32) (J : Nat → Nat → Int64) (hp : pSg_coder_13 I J) (ho : o = .returned (some (.int (fSg_coder_13 I J)))) (hz : Z = (pk_K ++ ex, R, I, J)) : pmE g kSg_coder d 0 0 0 [(0, .retAddr 13)] [] (pk_K ++ ex) R I J o Z := by
  unfold pSg_coder_13 at hp
  refine pm_gets dSg_coder_0 gSg_38 xs_0 ?_
  refine pm_if_eq 13 dSg_coder_3 (by decide) (fun h3 => ?_) (fun h3 => ?_)
  · exact absurd h3 (by decide)
  ·
    refine pm_xload_n dSg_coder_6 rfl ?_
    refine pm_xcoder (x := 3) dSg_coder_7 gSg_15 (by decide) ?_
    refine pm_goto 14 dSg_coder_10 (by decide) ?_
    exact pm_zret dSg_coder_14 rfl (by first | rfl | decide) (ho.trans (by first | rfl | (simp only [fSg_coder_13]; done) | (simp only [fSg_coder_13]; rfl))) (hz.trans (by first | rfl | (simp only [fSg_coder_13]; done) | (simp only [fSg_coder_13]; rfl)))
set_option maxHeartbeats 4000000 in
set_option maxRecDepth 100000 in
theorem Sg_coder_13_ok (g : pmG) (d : Nat) (ex : List (Nat × Nat)) (R : Nat → Nat → Value) (hR : pk_R R)   (I : Nat → Nat → Int32) (J : Nat → Nat → Int64) (hp : pSg_coder_13 I J) : pmC g kSg_coder d 0 0 [.retAddr 13] (pk_K ++ ex, R, I, J) (.returned (some (.int (fSg_coder_13 I J)))) (pk_K ++ ex, R, I, J) :=
  pmC.of (by decide) (Nat.le_of_ble_eq_true rfl) (Sg_coder_13_n0 g d ex R hR _ _   I J hp rfl rfl)
def fSg_isLatin1_13_17  (I : Nat → Nat → Int32) (J : Nat → Nat → Int64) : Int32 :=
  (0 : Int32)
def pSg_isLatin1_13_17  (I : Nat → Nat → Int32) (J : Nat → Nat → Int64) : Prop :=
  True
def fSg_isLatin1_13  (I : Nat → Nat → Int32) (J : Nat → Nat → Int64) : Int32 :=
  (1 : Int32)
def pSg_isLatin1_13  (I : Nat → Nat → Int32) (J : Nat → Nat → Int64) : Prop :=
  True
set_option maxHeartbeats 4000000 in
set_option maxRecDepth 100000 in
theorem Sg_isLatin1_13_n17 (g : pmG) (d : Nat) (ex : List (Nat × Nat)) (R : Nat → Nat → Value) (hR : pk_R R) (o : Outcome) (Z : pmM)  (I : Nat → Nat → Int32) (J : Nat → Nat → Int64) (hp : pSg_isLatin1_13_17 I J) (ho : o = .returned (some (.int (fSg_isLatin1_13_17 I J)))) (hz : Z = (pk_K ++ ex, R, I, J)) : pmE g kSg_isLatin1 d 0 0 17 [(0, .retAddr 13)] [] (pk_K ++ ex) R I J o Z := by
  unfold pSg_isLatin1_13_17 at hp
  refine pm_iconst (v := 0) dSg_isLatin1_17 (by decide) ?_
  exact pm_zret dSg_isLatin1_18 rfl (by first | rfl | decide) (ho.trans (by first | rfl | (simp only [fSg_isLatin1_13_17]; done) | (simp only [fSg_isLatin1_13_17]; rfl))) (hz.trans (by first | rfl | (simp only [fSg_isLatin1_13_17]; done) | (simp only [fSg_isLatin1_13_17]; rfl)))
set_option maxHeartbeats 4000000 in
set_option maxRecDepth 100000 in
theorem Sg_isLatin1_13_n0 (g : pmG) (d : Nat) (ex : List (Nat × Nat)) (R : Nat → Nat → Value) (hR : pk_R R) (o : Outcome) (Z : pmM)  (I : Nat → Nat → Int32) (J : Nat → Nat → Int64) (hp : pSg_isLatin1_13 I J) (ho : o = .returned (some (.int (fSg_isLatin1_13 I J)))) (hz : Z = (pk_K ++ ex, R, I, J)) : pmE g kSg_isLatin1 d 0 0 0 [(0, .retAddr 13)] [] (pk_K ++ ex) R I J o Z := by
  unfold pSg_isLatin1_13 at hp
  refine pm_gets dSg_isLatin1_0 gSg_38 xs_0 ?_
  refine pm_if_eq 17 dSg_isLatin1_3 (by decide) (fun h3 => ?_) (fun h3 => ?_)
  · exact absurd h3 (by decide)
  ·
    refine pm_xload_n dSg_isLatin1_6 rfl ?_
    refine pm_xcoder (x := 3) dSg_isLatin1_7 gSg_15 (by decide) ?_
    refine pm_if_ne 17 dSg_isLatin1_10 (by decide) (fun h10 => ?_) (fun h10 => ?_)
    · exact absurd (by decide) h10
    ·
      refine pm_iconst (v := 1) dSg_isLatin1_13 (by decide) ?_
      refine pm_goto 18 dSg_isLatin1_14 (by decide) ?_
      exact pm_zret dSg_isLatin1_18 rfl (by first | rfl | decide) (ho.trans (by first | rfl | (simp only [fSg_isLatin1_13]; done) | (simp only [fSg_isLatin1_13]; rfl))) (hz.trans (by first | rfl | (simp only [fSg_isLatin1_13]; done) | (simp only [fSg_isLatin1_13]; rfl)))
set_option maxHeartbeats 4000000 in
set_option maxRecDepth 100000 in
theorem Sg_isLatin1_13_ok (g : pmG) (d : Nat) (ex : List (Nat × Nat)) (R : Nat → Nat → Value) (hR : pk_R R)   (I : Nat → Nat → Int32) (J : Nat → Nat → Int64) (hp : pSg_isLatin1_13 I J) : pmC g kSg_isLatin1 d 0 0 [.retAddr 13] (pk_K ++ ex, R, I, J) (.returned (some (.int (fSg_isLatin1_13 I J)))) (pk_K ++ ex, R, I, J) :=
  pmC.of (by decide) (Nat.le_of_ble_eq_true rfl) (Sg_isLatin1_13_n0 g d ex R hR _ _   I J hp rfl rfl)
def fSg_length_13  (I : Nat → Nat → Int32) (J : Nat → Nat → Int64) : Int32 :=
  (4 : Int32) >>> ((0 : Int32) &&& 31)
def pSg_length_13  (I : Nat → Nat → Int32) (J : Nat → Nat → Int64) : Prop :=
  (pSg_coder_13 I J) ∧ True
set_option maxHeartbeats 4000000 in
set_option maxRecDepth 100000 in
theorem Sg_length_13_n0 (g : pmG) (d : Nat) (ex : List (Nat × Nat)) (R : Nat → Nat → Value) (hR : pk_R R) (o : Outcome) (Z : pmM)  (I : Nat → Nat → Int32) (J : Nat → Nat → Int64) (hp : pSg_length_13 I J) (ho : o = .returned (some (.int (fSg_length_13 I J)))) (hz : Z = (pk_K ++ ex, R, I, J)) : pmE g kSg_length (d + 1) 0 0 0 [(0, .retAddr 13)] [] (pk_K ++ ex) R I J o Z := by
  unfold pSg_length_13 at hp
  refine pm_xload_n dSg_length_0 rfl ?_
  refine pm_xvalue (x := 3) dSg_length_1 gSg_9 (by decide) ?_
  refine pm_xlen (u := 4) dSg_length_4 xa_43 (by decide) ?_
  refine pm_xload_n dSg_length_5 rfl ?_
  refine pm_callX (x := 3) dSg_length_6 lSg_335 vSg_coder rfl (by decide) (Sg_coder_13_ok _ _ _ _ hR  _ _ hp.1) rfl rfl (Nat.le_of_ble_eq_true rfl) (Nat.le_refl _) (Nat.le_refl _) ?_
  refine pm_eqi (0 : Int32) rfl ?_
  refine pm_ishr dSg_length_9 ?_
  exact pm_iret dSg_length_10 rfl (ho.trans (by first | rfl | (simp only [fSg_length_13]; done) | (simp only [fSg_length_13]; rfl))) (hz.trans (by first | rfl | (simp only [fSg_length_13]; done) | (simp only [fSg_length_13]; rfl)))
set_option maxHeartbeats 4000000 in
set_option maxRecDepth 100000 in
theorem Sg_length_13_ok (g : pmG) (d : Nat) (ex : List (Nat × Nat)) (R : Nat → Nat → Value) (hR : pk_R R)   (I : Nat → Nat → Int32) (J : Nat → Nat → Int64) (hp : pSg_length_13 I J) : pmC g kSg_length (d + 1) 0 0 [.retAddr 13] (pk_K ++ ex, R, I, J) (.returned (some (.int (fSg_length_13 I J)))) (pk_K ++ ex, R, I, J) :=
  pmC.of (by decide) (Nat.le_of_ble_eq_true rfl) (Sg_length_13_n0 g d ex R hR _ _   I J hp rfl rfl)
def fSl_charAt_13  (y1 : Int32) (I : Nat → Nat → Int32) (J : Nat → Nat → Int64) : Int32 :=
  (((pk_B3.getD y1.toNatClampNeg 0) &&& (255 : Int32)).toUInt32 % 65536).toInt32
def pSl_charAt_13  (y1 : Int32) (I : Nat → Nat → Int32) (J : Nat → Nat → Int64) : Prop :=
  (pSg_checkIndex y1 (4 : Int32)) ∧ ((vp_in y1 4) ∧ (narrow .char (.int ((((pk_B3.getD y1.toNatClampNeg 0) &&& (255 : Int32)).toUInt32 % 65536).toInt32)) = .int ((((pk_B3.getD y1.toNatClampNeg 0) &&& (255 : Int32)).toUInt32 % 65536).toInt32)))
set_option maxHeartbeats 4000000 in
set_option maxRecDepth 100000 in
theorem Sl_charAt_13_n0 (g : pmG) (d : Nat) (ex : List (Nat × Nat)) (R : Nat → Nat → Value) (hR : pk_R R) (o : Outcome) (Z : pmM)  (y1 : Int32) (I : Nat → Nat → Int32) (J : Nat → Nat → Int64) (hp : pSl_charAt_13 y1 I J) (ho : o = .returned (some (.int (fSl_charAt_13 y1 I J)))) (hz : Z = (pk_K ++ ex, R, I, J)) : pmE g kSl_charAt (d + 2) 0 0 0 [(0, .retAddr 43), (1, .int y1)] [] (pk_K ++ ex) R I J o Z := by
  unfold pSl_charAt_13 at hp
  refine pm_iload_n dSl_charAt_0 rfl ?_
  refine pm_xload_n dSl_charAt_1 rfl ?_
  refine pm_xlen (u := 4) dSl_charAt_2 xa_43 (by decide) ?_
  refine pm_callS dSl_charAt_3 lSl_9 tSg_checkIndex (Sg_checkIndex_ok _ _ _ _ _ _ _ _ hp.1) rfl rfl (Nat.le_of_ble_eq_true rfl) (Nat.le_refl _) (Nat.le_refl _) ?_
  refine pm_xload_n dSl_charAt_6 rfl ?_
  refine pm_iload_n dSl_charAt_7 rfl ?_
  refine pm_xbald dSl_charAt_8 xa_43 hp.2.1 ?_
  refine pm_sipush (v := 255) dSl_charAt_9 (by decide) ?_
  refine pm_iand dSl_charAt_12 ?_
  refine pm_i2c dSl_charAt_13 ?_
  exact pm_zret dSl_charAt_14 rfl hp.2.2 (ho.trans (by first | rfl | (simp only [fSl_charAt_13]; done) | (simp only [fSl_charAt_13]; rfl))) (hz.trans (by first | rfl | (simp only [fSl_charAt_13]; done) | (simp only [fSl_charAt_13]; rfl)))
set_option maxHeartbeats 4000000 in
set_option maxRecDepth 100000 in
theorem Sl_charAt_13_ok (g : pmG) (d : Nat) (ex : List (Nat × Nat)) (R : Nat → Nat → Value) (hR : pk_R R)  (x0 : Int32) (I : Nat → Nat → Int32) (J : Nat → Nat → Int64) (hp : pSl_charAt_13 x0 I J) : pmC g kSl_charAt (d + 2) 0 0 [.retAddr 43, .int x0] (pk_K ++ ex, R, I, J) (.returned (some (.int (fSl_charAt_13 x0 I J)))) (pk_K ++ ex, R, I, J) :=
  pmC.of (by decide) (Nat.le_of_ble_eq_true rfl) (Sl_charAt_13_n0 g d ex R hR _ _  x0 I J hp rfl rfl)
def fSg_charAt_13  (y1 : Int32) (I : Nat → Nat → Int32) (J : Nat → Nat → Int64) : Int32 :=
  (fSl_charAt_13 y1 I J)
def pSg_charAt_13  (y1 : Int32) (I : Nat → Nat → Int32) (J : Nat → Nat → Int64) : Prop :=
  (pSg_isLatin1_13 I J) ∧ ((pSl_charAt_13 y1 I J) ∧ (narrow .char (.int ((fSl_charAt_13 y1 I J))) = .int ((fSl_charAt_13 y1 I J))))
set_option maxHeartbeats 4000000 in
set_option maxRecDepth 100000 in
theorem Sg_charAt_13_n0 (g : pmG) (d : Nat) (ex : List (Nat × Nat)) (R : Nat → Nat → Value) (hR : pk_R R) (o : Outcome) (Z : pmM)  (y1 : Int32) (I : Nat → Nat → Int32) (J : Nat → Nat → Int64) (hp : pSg_charAt_13 y1 I J) (ho : o = .returned (some (.int (fSg_charAt_13 y1 I J)))) (hz : Z = (pk_K ++ ex, R, I, J)) : pmE g kSg_charAt (d + 3) 0 0 0 [(0, .retAddr 13), (1, .int y1)] [] (pk_K ++ ex) R I J o Z := by
  unfold pSg_charAt_13 at hp
  refine pm_xload_n dSg_charAt_0 rfl ?_
  refine pm_callX (x := 3) dSg_charAt_1 lSg_492 vSg_isLatin1 rfl (by decide) (Sg_isLatin1_13_ok _ _ _ _ hR  _ _ hp.1) rfl rfl (Nat.le_of_ble_eq_true rfl) (Nat.le_refl _) (Nat.le_refl _) ?_
  refine pm_eqi (1 : Int32) rfl ?_
  refine pm_if_eq 16 dSg_charAt_4 (by decide) (fun h4 => ?_) (fun h4 => ?_)
  · exact absurd h4 (by decide)
  ·
    refine pm_xload_n dSg_charAt_7 rfl ?_
    refine pm_xvalue (x := 3) dSg_charAt_8 gSg_9 (by decide) ?_
    refine pm_iload_n dSg_charAt_11 rfl ?_
    refine pm_callS dSg_charAt_12 lSg_495 tSl_charAt (Sl_charAt_13_ok _ _ _ _ hR _ _ _ hp.2.1) rfl rfl (Nat.le_of_ble_eq_true rfl) (Nat.le_refl _) (Nat.le_refl _) ?_
    exact pm_zret dSg_charAt_15 rfl hp.2.2 (ho.trans (by first | rfl | (simp only [fSg_charAt_13]; done) | (simp only [fSg_charAt_13]; rfl))) (hz.trans (by first | rfl | (simp only [fSg_charAt_13]; done) | (simp only [fSg_charAt_13]; rfl)))
set_option maxHeartbeats 4000000 in
set_option maxRecDepth 100000 in
theorem Sg_charAt_13_ok (g : pmG) (d : Nat) (ex : List (Nat × Nat)) (R : Nat → Nat → Value) (hR : pk_R R)  (x0 : Int32) (I : Nat → Nat → Int32) (J : Nat → Nat → Int64) (hp : pSg_charAt_13 x0 I J) : pmC g kSg_charAt (d + 3) 0 0 [.retAddr 13, .int x0] (pk_K ++ ex, R, I, J) (.returned (some (.int (fSg_charAt_13 x0 I J)))) (pk_K ++ ex, R, I, J) :=
  pmC.of (by decide) (Nat.le_of_ble_eq_true rfl) (Sg_charAt_13_n0 g d ex R hR _ _  x0 I J hp rfl rfl)
def fSg_coder_14  (I : Nat → Nat → Int32) (J : Nat → Nat → Int64) : Int32 :=
  (0 : Int32)
def pSg_coder_14  (I : Nat → Nat → Int32) (J : Nat → Nat → Int64) : Prop :=
  True
set_option maxHeartbeats 4000000 in
set_option maxRecDepth 100000 in
theorem Sg_coder_14_n0 (g : pmG) (d : Nat) (ex : List (Nat × Nat)) (R : Nat → Nat → Value) (hR : pk_R R) (o : Outcome) (Z : pmM)  (I : Nat → Nat → Int32) (J : Nat → Nat → Int64) (hp : pSg_coder_14 I J) (ho : o = .returned (some (.int (fSg_coder_14 I J)))) (hz : Z = (pk_K ++ ex, R, I, J)) : pmE g kSg_coder d 0 0 0 [(0, .retAddr 14)] [] (pk_K ++ ex) R I J o Z := by
  unfold pSg_coder_14 at hp
  refine pm_gets dSg_coder_0 gSg_38 xs_0 ?_
  refine pm_if_eq 13 dSg_coder_3 (by decide) (fun h3 => ?_) (fun h3 => ?_)
  · exact absurd h3 (by decide)
  ·
    refine pm_xload_n dSg_coder_6 rfl ?_
    refine pm_xcoder (x := 4) dSg_coder_7 gSg_15 (by decide) ?_
    refine pm_goto 14 dSg_coder_10 (by decide) ?_
    exact pm_zret dSg_coder_14 rfl (by first | rfl | decide) (ho.trans (by first | rfl | (simp only [fSg_coder_14]; done) | (simp only [fSg_coder_14]; rfl))) (hz.trans (by first | rfl | (simp only [fSg_coder_14]; done) | (simp only [fSg_coder_14]; rfl)))
set_option maxHeartbeats 4000000 in
set_option maxRecDepth 100000 in
theorem Sg_coder_14_ok (g : pmG) (d : Nat) (ex : List (Nat × Nat)) (R : Nat → Nat → Value) (hR : pk_R R)   (I : Nat → Nat → Int32) (J : Nat → Nat → Int64) (hp : pSg_coder_14 I J) : pmC g kSg_coder d 0 0 [.retAddr 14] (pk_K ++ ex, R, I, J) (.returned (some (.int (fSg_coder_14 I J)))) (pk_K ++ ex, R, I, J) :=
  pmC.of (by decide) (Nat.le_of_ble_eq_true rfl) (Sg_coder_14_n0 g d ex R hR _ _   I J hp rfl rfl)
def fSg_isLatin1_14_17  (I : Nat → Nat → Int32) (J : Nat → Nat → Int64) : Int32 :=
  (0 : Int32)
def pSg_isLatin1_14_17  (I : Nat → Nat → Int32) (J : Nat → Nat → Int64) : Prop :=
  True
def fSg_isLatin1_14  (I : Nat → Nat → Int32) (J : Nat → Nat → Int64) : Int32 :=
  (1 : Int32)
def pSg_isLatin1_14  (I : Nat → Nat → Int32) (J : Nat → Nat → Int64) : Prop :=
  True
set_option maxHeartbeats 4000000 in
set_option maxRecDepth 100000 in
theorem Sg_isLatin1_14_n17 (g : pmG) (d : Nat) (ex : List (Nat × Nat)) (R : Nat → Nat → Value) (hR : pk_R R) (o : Outcome) (Z : pmM)  (I : Nat → Nat → Int32) (J : Nat → Nat → Int64) (hp : pSg_isLatin1_14_17 I J) (ho : o = .returned (some (.int (fSg_isLatin1_14_17 I J)))) (hz : Z = (pk_K ++ ex, R, I, J)) : pmE g kSg_isLatin1 d 0 0 17 [(0, .retAddr 14)] [] (pk_K ++ ex) R I J o Z := by
  unfold pSg_isLatin1_14_17 at hp
  refine pm_iconst (v := 0) dSg_isLatin1_17 (by decide) ?_
  exact pm_zret dSg_isLatin1_18 rfl (by first | rfl | decide) (ho.trans (by first | rfl | (simp only [fSg_isLatin1_14_17]; done) | (simp only [fSg_isLatin1_14_17]; rfl))) (hz.trans (by first | rfl | (simp only [fSg_isLatin1_14_17]; done) | (simp only [fSg_isLatin1_14_17]; rfl)))
set_option maxHeartbeats 4000000 in
set_option maxRecDepth 100000 in
theorem Sg_isLatin1_14_n0 (g : pmG) (d : Nat) (ex : List (Nat × Nat)) (R : Nat → Nat → Value) (hR : pk_R R) (o : Outcome) (Z : pmM)  (I : Nat → Nat → Int32) (J : Nat → Nat → Int64) (hp : pSg_isLatin1_14 I J) (ho : o = .returned (some (.int (fSg_isLatin1_14 I J)))) (hz : Z = (pk_K ++ ex, R, I, J)) : pmE g kSg_isLatin1 d 0 0 0 [(0, .retAddr 14)] [] (pk_K ++ ex) R I J o Z := by
  unfold pSg_isLatin1_14 at hp
  refine pm_gets dSg_isLatin1_0 gSg_38 xs_0 ?_
  refine pm_if_eq 17 dSg_isLatin1_3 (by decide) (fun h3 => ?_) (fun h3 => ?_)
  · exact absurd h3 (by decide)
  ·
    refine pm_xload_n dSg_isLatin1_6 rfl ?_
    refine pm_xcoder (x := 4) dSg_isLatin1_7 gSg_15 (by decide) ?_
    refine pm_if_ne 17 dSg_isLatin1_10 (by decide) (fun h10 => ?_) (fun h10 => ?_)
    · exact absurd (by decide) h10
    ·
      refine pm_iconst (v := 1) dSg_isLatin1_13 (by decide) ?_
      refine pm_goto 18 dSg_isLatin1_14 (by decide) ?_
      exact pm_zret dSg_isLatin1_18 rfl (by first | rfl | decide) (ho.trans (by first | rfl | (simp only [fSg_isLatin1_14]; done) | (simp only [fSg_isLatin1_14]; rfl))) (hz.trans (by first | rfl | (simp only [fSg_isLatin1_14]; done) | (simp only [fSg_isLatin1_14]; rfl)))
set_option maxHeartbeats 4000000 in
set_option maxRecDepth 100000 in
theorem Sg_isLatin1_14_ok (g : pmG) (d : Nat) (ex : List (Nat × Nat)) (R : Nat → Nat → Value) (hR : pk_R R)   (I : Nat → Nat → Int32) (J : Nat → Nat → Int64) (hp : pSg_isLatin1_14 I J) : pmC g kSg_isLatin1 d 0 0 [.retAddr 14] (pk_K ++ ex, R, I, J) (.returned (some (.int (fSg_isLatin1_14 I J)))) (pk_K ++ ex, R, I, J) :=
  pmC.of (by decide) (Nat.le_of_ble_eq_true rfl) (Sg_isLatin1_14_n0 g d ex R hR _ _   I J hp rfl rfl)
def fSg_length_14  (I : Nat → Nat → Int32) (J : Nat → Nat → Int64) : Int32 :=
  (4 : Int32) >>> ((0 : Int32) &&& 31)
def pSg_length_14  (I : Nat → Nat → Int32) (J : Nat → Nat → Int64) : Prop :=
  (pSg_coder_14 I J) ∧ True
set_option maxHeartbeats 4000000 in
set_option maxRecDepth 100000 in
theorem Sg_length_14_n0 (g : pmG) (d : Nat) (ex : List (Nat × Nat)) (R : Nat → Nat → Value) (hR : pk_R R) (o : Outcome) (Z : pmM)  (I : Nat → Nat → Int32) (J : Nat → Nat → Int64) (hp : pSg_length_14 I J) (ho : o = .returned (some (.int (fSg_length_14 I J)))) (hz : Z = (pk_K ++ ex, R, I, J)) : pmE g kSg_length (d + 1) 0 0 0 [(0, .retAddr 14)] [] (pk_K ++ ex) R I J o Z := by
  unfold pSg_length_14 at hp
  refine pm_xload_n dSg_length_0 rfl ?_
  refine pm_xvalue (x := 4) dSg_length_1 gSg_9 (by decide) ?_
  refine pm_xlen (u := 4) dSg_length_4 xa_44 (by decide) ?_
  refine pm_xload_n dSg_length_5 rfl ?_
  refine pm_callX (x := 4) dSg_length_6 lSg_335 vSg_coder rfl (by decide) (Sg_coder_14_ok _ _ _ _ hR  _ _ hp.1) rfl rfl (Nat.le_of_ble_eq_true rfl) (Nat.le_refl _) (Nat.le_refl _) ?_
  refine pm_eqi (0 : Int32) rfl ?_
  refine pm_ishr dSg_length_9 ?_
  exact pm_iret dSg_length_10 rfl (ho.trans (by first | rfl | (simp only [fSg_length_14]; done) | (simp only [fSg_length_14]; rfl))) (hz.trans (by first | rfl | (simp only [fSg_length_14]; done) | (simp only [fSg_length_14]; rfl)))
set_option maxHeartbeats 4000000 in
set_option maxRecDepth 100000 in
theorem Sg_length_14_ok (g : pmG) (d : Nat) (ex : List (Nat × Nat)) (R : Nat → Nat → Value) (hR : pk_R R)   (I : Nat → Nat → Int32) (J : Nat → Nat → Int64) (hp : pSg_length_14 I J) : pmC g kSg_length (d + 1) 0 0 [.retAddr 14] (pk_K ++ ex, R, I, J) (.returned (some (.int (fSg_length_14 I J)))) (pk_K ++ ex, R, I, J) :=
  pmC.of (by decide) (Nat.le_of_ble_eq_true rfl) (Sg_length_14_n0 g d ex R hR _ _   I J hp rfl rfl)
def fSl_charAt_14  (y1 : Int32) (I : Nat → Nat → Int32) (J : Nat → Nat → Int64) : Int32 :=
  (((pk_B4.getD y1.toNatClampNeg 0) &&& (255 : Int32)).toUInt32 % 65536).toInt32
def pSl_charAt_14  (y1 : Int32) (I : Nat → Nat → Int32) (J : Nat → Nat → Int64) : Prop :=
  (pSg_checkIndex y1 (4 : Int32)) ∧ ((vp_in y1 4) ∧ (narrow .char (.int ((((pk_B4.getD y1.toNatClampNeg 0) &&& (255 : Int32)).toUInt32 % 65536).toInt32)) = .int ((((pk_B4.getD y1.toNatClampNeg 0) &&& (255 : Int32)).toUInt32 % 65536).toInt32)))
set_option maxHeartbeats 4000000 in
set_option maxRecDepth 100000 in
theorem Sl_charAt_14_n0 (g : pmG) (d : Nat) (ex : List (Nat × Nat)) (R : Nat → Nat → Value) (hR : pk_R R) (o : Outcome) (Z : pmM)  (y1 : Int32) (I : Nat → Nat → Int32) (J : Nat → Nat → Int64) (hp : pSl_charAt_14 y1 I J) (ho : o = .returned (some (.int (fSl_charAt_14 y1 I J)))) (hz : Z = (pk_K ++ ex, R, I, J)) : pmE g kSl_charAt (d + 2) 0 0 0 [(0, .retAddr 44), (1, .int y1)] [] (pk_K ++ ex) R I J o Z := by
  unfold pSl_charAt_14 at hp
  refine pm_iload_n dSl_charAt_0 rfl ?_
  refine pm_xload_n dSl_charAt_1 rfl ?_
  refine pm_xlen (u := 4) dSl_charAt_2 xa_44 (by decide) ?_
  refine pm_callS dSl_charAt_3 lSl_9 tSg_checkIndex (Sg_checkIndex_ok _ _ _ _ _ _ _ _ hp.1) rfl rfl (Nat.le_of_ble_eq_true rfl) (Nat.le_refl _) (Nat.le_refl _) ?_
  refine pm_xload_n dSl_charAt_6 rfl ?_
  refine pm_iload_n dSl_charAt_7 rfl ?_
  refine pm_xbald dSl_charAt_8 xa_44 hp.2.1 ?_
  refine pm_sipush (v := 255) dSl_charAt_9 (by decide) ?_
  refine pm_iand dSl_charAt_12 ?_
  refine pm_i2c dSl_charAt_13 ?_
  exact pm_zret dSl_charAt_14 rfl hp.2.2 (ho.trans (by first | rfl | (simp only [fSl_charAt_14]; done) | (simp only [fSl_charAt_14]; rfl))) (hz.trans (by first | rfl | (simp only [fSl_charAt_14]; done) | (simp only [fSl_charAt_14]; rfl)))
set_option maxHeartbeats 4000000 in
set_option maxRecDepth 100000 in
theorem Sl_charAt_14_ok (g : pmG) (d : Nat) (ex : List (Nat × Nat)) (R : Nat → Nat → Value) (hR : pk_R R)  (x0 : Int32) (I : Nat → Nat → Int32) (J : Nat → Nat → Int64) (hp : pSl_charAt_14 x0 I J) : pmC g kSl_charAt (d + 2) 0 0 [.retAddr 44, .int x0] (pk_K ++ ex, R, I, J) (.returned (some (.int (fSl_charAt_14 x0 I J)))) (pk_K ++ ex, R, I, J) :=
  pmC.of (by decide) (Nat.le_of_ble_eq_true rfl) (Sl_charAt_14_n0 g d ex R hR _ _  x0 I J hp rfl rfl)
def fSg_charAt_14  (y1 : Int32) (I : Nat → Nat → Int32) (J : Nat → Nat → Int64) : Int32 :=
  (fSl_charAt_14 y1 I J)
def pSg_charAt_14  (y1 : Int32) (I : Nat → Nat → Int32) (J : Nat → Nat → Int64) : Prop :=
  (pSg_isLatin1_14 I J) ∧ ((pSl_charAt_14 y1 I J) ∧ (narrow .char (.int ((fSl_charAt_14 y1 I J))) = .int ((fSl_charAt_14 y1 I J))))
set_option maxHeartbeats 4000000 in
set_option maxRecDepth 100000 in
theorem Sg_charAt_14_n0 (g : pmG) (d : Nat) (ex : List (Nat × Nat)) (R : Nat → Nat → Value) (hR : pk_R R) (o : Outcome) (Z : pmM)  (y1 : Int32) (I : Nat → Nat → Int32) (J : Nat → Nat → Int64) (hp : pSg_charAt_14 y1 I J) (ho : o = .returned (some (.int (fSg_charAt_14 y1 I J)))) (hz : Z = (pk_K ++ ex, R, I, J)) : pmE g kSg_charAt (d + 3) 0 0 0 [(0, .retAddr 14), (1, .int y1)] [] (pk_K ++ ex) R I J o Z := by
  unfold pSg_charAt_14 at hp
  refine pm_xload_n dSg_charAt_0 rfl ?_
  refine pm_callX (x := 4) dSg_charAt_1 lSg_492 vSg_isLatin1 rfl (by decide) (Sg_isLatin1_14_ok _ _ _ _ hR  _ _ hp.1) rfl rfl (Nat.le_of_ble_eq_true rfl) (Nat.le_refl _) (Nat.le_refl _) ?_
  refine pm_eqi (1 : Int32) rfl ?_
  refine pm_if_eq 16 dSg_charAt_4 (by decide) (fun h4 => ?_) (fun h4 => ?_)
  · exact absurd h4 (by decide)
  ·
    refine pm_xload_n dSg_charAt_7 rfl ?_
    refine pm_xvalue (x := 4) dSg_charAt_8 gSg_9 (by decide) ?_
    refine pm_iload_n dSg_charAt_11 rfl ?_
    refine pm_callS dSg_charAt_12 lSg_495 tSl_charAt (Sl_charAt_14_ok _ _ _ _ hR _ _ _ hp.2.1) rfl rfl (Nat.le_of_ble_eq_true rfl) (Nat.le_refl _) (Nat.le_refl _) ?_
    exact pm_zret dSg_charAt_15 rfl hp.2.2 (ho.trans (by first | rfl | (simp only [fSg_charAt_14]; done) | (simp only [fSg_charAt_14]; rfl))) (hz.trans (by first | rfl | (simp only [fSg_charAt_14]; done) | (simp only [fSg_charAt_14]; rfl)))
set_option maxHeartbeats 4000000 in
set_option maxRecDepth 100000 in
theorem Sg_charAt_14_ok (g : pmG) (d : Nat) (ex : List (Nat × Nat)) (R : Nat → Nat → Value) (hR : pk_R R)  (x0 : Int32) (I : Nat → Nat → Int32) (J : Nat → Nat → Int64) (hp : pSg_charAt_14 x0 I J) : pmC g kSg_charAt (d + 3) 0 0 [.retAddr 14, .int x0] (pk_K ++ ex, R, I, J) (.returned (some (.int (fSg_charAt_14 x0 I J)))) (pk_K ++ ex, R, I, J) :=
  pmC.of (by decide) (Nat.le_of_ble_eq_true rfl) (Sg_charAt_14_n0 g d ex R hR _ _  x0 I J hp rfl rfl)
def fSg_coder_15  (I : Nat → Nat → Int32) (J : Nat → Nat → Int64) : Int32 :=
  (0 : Int32)
def pSg_coder_15  (I : Nat → Nat → Int32) (J : Nat → Nat → Int64) : Prop :=
  True
set_option maxHeartbeats 4000000 in
set_option maxRecDepth 100000 in
theorem Sg_coder_15_n0 (g : pmG) (d : Nat) (ex : List (Nat × Nat)) (R : Nat → Nat → Value) (hR : pk_R R) (o : Outcome) (Z : pmM)  (I : Nat → Nat → Int32) (J : Nat → Nat → Int64) (hp : pSg_coder_15 I J) (ho : o = .returned (some (.int (fSg_coder_15 I J)))) (hz : Z = (pk_K ++ ex, R, I, J)) : pmE g kSg_coder d 0 0 0 [(0, .retAddr 15)] [] (pk_K ++ ex) R I J o Z := by
  unfold pSg_coder_15 at hp
  refine pm_gets dSg_coder_0 gSg_38 xs_0 ?_
  refine pm_if_eq 13 dSg_coder_3 (by decide) (fun h3 => ?_) (fun h3 => ?_)
  · exact absurd h3 (by decide)
  ·
    refine pm_xload_n dSg_coder_6 rfl ?_
    refine pm_xcoder (x := 5) dSg_coder_7 gSg_15 (by decide) ?_
    refine pm_goto 14 dSg_coder_10 (by decide) ?_
    exact pm_zret dSg_coder_14 rfl (by first | rfl | decide) (ho.trans (by first | rfl | (simp only [fSg_coder_15]; done) | (simp only [fSg_coder_15]; rfl))) (hz.trans (by first | rfl | (simp only [fSg_coder_15]; done) | (simp only [fSg_coder_15]; rfl)))
set_option maxHeartbeats 4000000 in
set_option maxRecDepth 100000 in
theorem Sg_coder_15_ok (g : pmG) (d : Nat) (ex : List (Nat × Nat)) (R : Nat → Nat → Value) (hR : pk_R R)   (I : Nat → Nat → Int32) (J : Nat → Nat → Int64) (hp : pSg_coder_15 I J) : pmC g kSg_coder d 0 0 [.retAddr 15] (pk_K ++ ex, R, I, J) (.returned (some (.int (fSg_coder_15 I J)))) (pk_K ++ ex, R, I, J) :=
  pmC.of (by decide) (Nat.le_of_ble_eq_true rfl) (Sg_coder_15_n0 g d ex R hR _ _   I J hp rfl rfl)
def fSg_isLatin1_15_17  (I : Nat → Nat → Int32) (J : Nat → Nat → Int64) : Int32 :=
  (0 : Int32)
def pSg_isLatin1_15_17  (I : Nat → Nat → Int32) (J : Nat → Nat → Int64) : Prop :=
  True
def fSg_isLatin1_15  (I : Nat → Nat → Int32) (J : Nat → Nat → Int64) : Int32 :=
  (1 : Int32)
def pSg_isLatin1_15  (I : Nat → Nat → Int32) (J : Nat → Nat → Int64) : Prop :=
  True
set_option maxHeartbeats 4000000 in
set_option maxRecDepth 100000 in
theorem Sg_isLatin1_15_n17 (g : pmG) (d : Nat) (ex : List (Nat × Nat)) (R : Nat → Nat → Value) (hR : pk_R R) (o : Outcome) (Z : pmM)  (I : Nat → Nat → Int32) (J : Nat → Nat → Int64) (hp : pSg_isLatin1_15_17 I J) (ho : o = .returned (some (.int (fSg_isLatin1_15_17 I J)))) (hz : Z = (pk_K ++ ex, R, I, J)) : pmE g kSg_isLatin1 d 0 0 17 [(0, .retAddr 15)] [] (pk_K ++ ex) R I J o Z := by
  unfold pSg_isLatin1_15_17 at hp
  refine pm_iconst (v := 0) dSg_isLatin1_17 (by decide) ?_
  exact pm_zret dSg_isLatin1_18 rfl (by first | rfl | decide) (ho.trans (by first | rfl | (simp only [fSg_isLatin1_15_17]; done) | (simp only [fSg_isLatin1_15_17]; rfl))) (hz.trans (by first | rfl | (simp only [fSg_isLatin1_15_17]; done) | (simp only [fSg_isLatin1_15_17]; rfl)))
set_option maxHeartbeats 4000000 in
set_option maxRecDepth 100000 in
theorem Sg_isLatin1_15_n0 (g : pmG) (d : Nat) (ex : List (Nat × Nat)) (R : Nat → Nat → Value) (hR : pk_R R) (o : Outcome) (Z : pmM)  (I : Nat → Nat → Int32) (J : Nat → Nat → Int64) (hp : pSg_isLatin1_15 I J) (ho : o = .returned (some (.int (fSg_isLatin1_15 I J)))) (hz : Z = (pk_K ++ ex, R, I, J)) : pmE g kSg_isLatin1 d 0 0 0 [(0, .retAddr 15)] [] (pk_K ++ ex) R I J o Z := by
  unfold pSg_isLatin1_15 at hp
  refine pm_gets dSg_isLatin1_0 gSg_38 xs_0 ?_
  refine pm_if_eq 17 dSg_isLatin1_3 (by decide) (fun h3 => ?_) (fun h3 => ?_)
  · exact absurd h3 (by decide)
  ·
    refine pm_xload_n dSg_isLatin1_6 rfl ?_
    refine pm_xcoder (x := 5) dSg_isLatin1_7 gSg_15 (by decide) ?_
    refine pm_if_ne 17 dSg_isLatin1_10 (by decide) (fun h10 => ?_) (fun h10 => ?_)
    · exact absurd (by decide) h10
    ·
      refine pm_iconst (v := 1) dSg_isLatin1_13 (by decide) ?_
      refine pm_goto 18 dSg_isLatin1_14 (by decide) ?_
      exact pm_zret dSg_isLatin1_18 rfl (by first | rfl | decide) (ho.trans (by first | rfl | (simp only [fSg_isLatin1_15]; done) | (simp only [fSg_isLatin1_15]; rfl))) (hz.trans (by first | rfl | (simp only [fSg_isLatin1_15]; done) | (simp only [fSg_isLatin1_15]; rfl)))
set_option maxHeartbeats 4000000 in
set_option maxRecDepth 100000 in
theorem Sg_isLatin1_15_ok (g : pmG) (d : Nat) (ex : List (Nat × Nat)) (R : Nat → Nat → Value) (hR : pk_R R)   (I : Nat → Nat → Int32) (J : Nat → Nat → Int64) (hp : pSg_isLatin1_15 I J) : pmC g kSg_isLatin1 d 0 0 [.retAddr 15] (pk_K ++ ex, R, I, J) (.returned (some (.int (fSg_isLatin1_15 I J)))) (pk_K ++ ex, R, I, J) :=
  pmC.of (by decide) (Nat.le_of_ble_eq_true rfl) (Sg_isLatin1_15_n0 g d ex R hR _ _   I J hp rfl rfl)
def fSg_length_15  (I : Nat → Nat → Int32) (J : Nat → Nat → Int64) : Int32 :=
  (18 : Int32) >>> ((0 : Int32) &&& 31)
def pSg_length_15  (I : Nat → Nat → Int32) (J : Nat → Nat → Int64) : Prop :=
  (pSg_coder_15 I J) ∧ True
set_option maxHeartbeats 4000000 in
set_option maxRecDepth 100000 in
theorem Sg_length_15_n0 (g : pmG) (d : Nat) (ex : List (Nat × Nat)) (R : Nat → Nat → Value) (hR : pk_R R) (o : Outcome) (Z : pmM)  (I : Nat → Nat → Int32) (J : Nat → Nat → Int64) (hp : pSg_length_15 I J) (ho : o = .returned (some (.int (fSg_length_15 I J)))) (hz : Z = (pk_K ++ ex, R, I, J)) : pmE g kSg_length (d + 1) 0 0 0 [(0, .retAddr 15)] [] (pk_K ++ ex) R I J o Z := by
  unfold pSg_length_15 at hp
  refine pm_xload_n dSg_length_0 rfl ?_
  refine pm_xvalue (x := 5) dSg_length_1 gSg_9 (by decide) ?_
  refine pm_xlen (u := 18) dSg_length_4 xa_45 (by decide) ?_
  refine pm_xload_n dSg_length_5 rfl ?_
  refine pm_callX (x := 5) dSg_length_6 lSg_335 vSg_coder rfl (by decide) (Sg_coder_15_ok _ _ _ _ hR  _ _ hp.1) rfl rfl (Nat.le_of_ble_eq_true rfl) (Nat.le_refl _) (Nat.le_refl _) ?_
  refine pm_eqi (0 : Int32) rfl ?_
  refine pm_ishr dSg_length_9 ?_
  exact pm_iret dSg_length_10 rfl (ho.trans (by first | rfl | (simp only [fSg_length_15]; done) | (simp only [fSg_length_15]; rfl))) (hz.trans (by first | rfl | (simp only [fSg_length_15]; done) | (simp only [fSg_length_15]; rfl)))
set_option maxHeartbeats 4000000 in
set_option maxRecDepth 100000 in
theorem Sg_length_15_ok (g : pmG) (d : Nat) (ex : List (Nat × Nat)) (R : Nat → Nat → Value) (hR : pk_R R)   (I : Nat → Nat → Int32) (J : Nat → Nat → Int64) (hp : pSg_length_15 I J) : pmC g kSg_length (d + 1) 0 0 [.retAddr 15] (pk_K ++ ex, R, I, J) (.returned (some (.int (fSg_length_15 I J)))) (pk_K ++ ex, R, I, J) :=
  pmC.of (by decide) (Nat.le_of_ble_eq_true rfl) (Sg_length_15_n0 g d ex R hR _ _   I J hp rfl rfl)
def fSl_charAt_15  (y1 : Int32) (I : Nat → Nat → Int32) (J : Nat → Nat → Int64) : Int32 :=
  (((pk_B5.getD y1.toNatClampNeg 0) &&& (255 : Int32)).toUInt32 % 65536).toInt32
def pSl_charAt_15  (y1 : Int32) (I : Nat → Nat → Int32) (J : Nat → Nat → Int64) : Prop :=
  (pSg_checkIndex y1 (18 : Int32)) ∧ ((vp_in y1 18) ∧ (narrow .char (.int ((((pk_B5.getD y1.toNatClampNeg 0) &&& (255 : Int32)).toUInt32 % 65536).toInt32)) = .int ((((pk_B5.getD y1.toNatClampNeg 0) &&& (255 : Int32)).toUInt32 % 65536).toInt32)))
set_option maxHeartbeats 4000000 in
set_option maxRecDepth 100000 in
theorem Sl_charAt_15_n0 (g : pmG) (d : Nat) (ex : List (Nat × Nat)) (R : Nat → Nat → Value) (hR : pk_R R) (o : Outcome) (Z : pmM)  (y1 : Int32) (I : Nat → Nat → Int32) (J : Nat → Nat → Int64) (hp : pSl_charAt_15 y1 I J) (ho : o = .returned (some (.int (fSl_charAt_15 y1 I J)))) (hz : Z = (pk_K ++ ex, R, I, J)) : pmE g kSl_charAt (d + 2) 0 0 0 [(0, .retAddr 45), (1, .int y1)] [] (pk_K ++ ex) R I J o Z := by
  unfold pSl_charAt_15 at hp
  refine pm_iload_n dSl_charAt_0 rfl ?_
  refine pm_xload_n dSl_charAt_1 rfl ?_
  refine pm_xlen (u := 18) dSl_charAt_2 xa_45 (by decide) ?_
  refine pm_callS dSl_charAt_3 lSl_9 tSg_checkIndex (Sg_checkIndex_ok _ _ _ _ _ _ _ _ hp.1) rfl rfl (Nat.le_of_ble_eq_true rfl) (Nat.le_refl _) (Nat.le_refl _) ?_
  refine pm_xload_n dSl_charAt_6 rfl ?_
  refine pm_iload_n dSl_charAt_7 rfl ?_
  refine pm_xbald dSl_charAt_8 xa_45 hp.2.1 ?_
  refine pm_sipush (v := 255) dSl_charAt_9 (by decide) ?_
  refine pm_iand dSl_charAt_12 ?_
  refine pm_i2c dSl_charAt_13 ?_
  exact pm_zret dSl_charAt_14 rfl hp.2.2 (ho.trans (by first | rfl | (simp only [fSl_charAt_15]; done) | (simp only [fSl_charAt_15]; rfl))) (hz.trans (by first | rfl | (simp only [fSl_charAt_15]; done) | (simp only [fSl_charAt_15]; rfl)))
set_option maxHeartbeats 4000000 in
set_option maxRecDepth 100000 in
theorem Sl_charAt_15_ok (g : pmG) (d : Nat) (ex : List (Nat × Nat)) (R : Nat → Nat → Value) (hR : pk_R R)  (x0 : Int32) (I : Nat → Nat → Int32) (J : Nat → Nat → Int64) (hp : pSl_charAt_15 x0 I J) : pmC g kSl_charAt (d + 2) 0 0 [.retAddr 45, .int x0] (pk_K ++ ex, R, I, J) (.returned (some (.int (fSl_charAt_15 x0 I J)))) (pk_K ++ ex, R, I, J) :=
  pmC.of (by decide) (Nat.le_of_ble_eq_true rfl) (Sl_charAt_15_n0 g d ex R hR _ _  x0 I J hp rfl rfl)
def fSg_charAt_15  (y1 : Int32) (I : Nat → Nat → Int32) (J : Nat → Nat → Int64) : Int32 :=
  (fSl_charAt_15 y1 I J)
def pSg_charAt_15  (y1 : Int32) (I : Nat → Nat → Int32) (J : Nat → Nat → Int64) : Prop :=
  (pSg_isLatin1_15 I J) ∧ ((pSl_charAt_15 y1 I J) ∧ (narrow .char (.int ((fSl_charAt_15 y1 I J))) = .int ((fSl_charAt_15 y1 I J))))
set_option maxHeartbeats 4000000 in
set_option maxRecDepth 100000 in
theorem Sg_charAt_15_n0 (g : pmG) (d : Nat) (ex : List (Nat × Nat)) (R : Nat → Nat → Value) (hR : pk_R R) (o : Outcome) (Z : pmM)  (y1 : Int32) (I : Nat → Nat → Int32) (J : Nat → Nat → Int64) (hp : pSg_charAt_15 y1 I J) (ho : o = .returned (some (.int (fSg_charAt_15 y1 I J)))) (hz : Z = (pk_K ++ ex, R, I, J)) : pmE g kSg_charAt (d + 3) 0 0 0 [(0, .retAddr 15), (1, .int y1)] [] (pk_K ++ ex) R I J o Z := by
  unfold pSg_charAt_15 at hp
  refine pm_xload_n dSg_charAt_0 rfl ?_
  refine pm_callX (x := 5) dSg_charAt_1 lSg_492 vSg_isLatin1 rfl (by decide) (Sg_isLatin1_15_ok _ _ _ _ hR  _ _ hp.1) rfl rfl (Nat.le_of_ble_eq_true rfl) (Nat.le_refl _) (Nat.le_refl _) ?_
  refine pm_eqi (1 : Int32) rfl ?_
  refine pm_if_eq 16 dSg_charAt_4 (by decide) (fun h4 => ?_) (fun h4 => ?_)
  · exact absurd h4 (by decide)
  ·
    refine pm_xload_n dSg_charAt_7 rfl ?_
    refine pm_xvalue (x := 5) dSg_charAt_8 gSg_9 (by decide) ?_
    refine pm_iload_n dSg_charAt_11 rfl ?_
    refine pm_callS dSg_charAt_12 lSg_495 tSl_charAt (Sl_charAt_15_ok _ _ _ _ hR _ _ _ hp.2.1) rfl rfl (Nat.le_of_ble_eq_true rfl) (Nat.le_refl _) (Nat.le_refl _) ?_
    exact pm_zret dSg_charAt_15 rfl hp.2.2 (ho.trans (by first | rfl | (simp only [fSg_charAt_15]; done) | (simp only [fSg_charAt_15]; rfl))) (hz.trans (by first | rfl | (simp only [fSg_charAt_15]; done) | (simp only [fSg_charAt_15]; rfl)))
set_option maxHeartbeats 4000000 in
set_option maxRecDepth 100000 in
theorem Sg_charAt_15_ok (g : pmG) (d : Nat) (ex : List (Nat × Nat)) (R : Nat → Nat → Value) (hR : pk_R R)  (x0 : Int32) (I : Nat → Nat → Int32) (J : Nat → Nat → Int64) (hp : pSg_charAt_15 x0 I J) : pmC g kSg_charAt (d + 3) 0 0 [.retAddr 15, .int x0] (pk_K ++ ex, R, I, J) (.returned (some (.int (fSg_charAt_15 x0 I J)))) (pk_K ++ ex, R, I, J) :=
  pmC.of (by decide) (Nat.le_of_ble_eq_true rfl) (Sg_charAt_15_n0 g d ex R hR _ _  x0 I J hp rfl rfl)
def fSg_coder_16  (I : Nat → Nat → Int32) (J : Nat → Nat → Int64) : Int32 :=
  (0 : Int32)
def pSg_coder_16  (I : Nat → Nat → Int32) (J : Nat → Nat → Int64) : Prop :=
  True
set_option maxHeartbeats 4000000 in
set_option maxRecDepth 100000 in
theorem Sg_coder_16_n0 (g : pmG) (d : Nat) (ex : List (Nat × Nat)) (R : Nat → Nat → Value) (hR : pk_R R) (o : Outcome) (Z : pmM)  (I : Nat → Nat → Int32) (J : Nat → Nat → Int64) (hp : pSg_coder_16 I J) (ho : o = .returned (some (.int (fSg_coder_16 I J)))) (hz : Z = (pk_K ++ ex, R, I, J)) : pmE g kSg_coder d 0 0 0 [(0, .retAddr 16)] [] (pk_K ++ ex) R I J o Z := by
  unfold pSg_coder_16 at hp
  refine pm_gets dSg_coder_0 gSg_38 xs_0 ?_
  refine pm_if_eq 13 dSg_coder_3 (by decide) (fun h3 => ?_) (fun h3 => ?_)
  · exact absurd h3 (by decide)
  ·
    refine pm_xload_n dSg_coder_6 rfl ?_
    refine pm_xcoder (x := 6) dSg_coder_7 gSg_15 (by decide) ?_
    refine pm_goto 14 dSg_coder_10 (by decide) ?_
    exact pm_zret dSg_coder_14 rfl (by first | rfl | decide) (ho.trans (by first | rfl | (simp only [fSg_coder_16]; done) | (simp only [fSg_coder_16]; rfl))) (hz.trans (by first | rfl | (simp only [fSg_coder_16]; done) | (simp only [fSg_coder_16]; rfl)))
set_option maxHeartbeats 4000000 in
set_option maxRecDepth 100000 in
theorem Sg_coder_16_ok (g : pmG) (d : Nat) (ex : List (Nat × Nat)) (R : Nat → Nat → Value) (hR : pk_R R)   (I : Nat → Nat → Int32) (J : Nat → Nat → Int64) (hp : pSg_coder_16 I J) : pmC g kSg_coder d 0 0 [.retAddr 16] (pk_K ++ ex, R, I, J) (.returned (some (.int (fSg_coder_16 I J)))) (pk_K ++ ex, R, I, J) :=
  pmC.of (by decide) (Nat.le_of_ble_eq_true rfl) (Sg_coder_16_n0 g d ex R hR _ _   I J hp rfl rfl)
def fSg_isLatin1_16_17  (I : Nat → Nat → Int32) (J : Nat → Nat → Int64) : Int32 :=
  (0 : Int32)
def pSg_isLatin1_16_17  (I : Nat → Nat → Int32) (J : Nat → Nat → Int64) : Prop :=
  True
def fSg_isLatin1_16  (I : Nat → Nat → Int32) (J : Nat → Nat → Int64) : Int32 :=
  (1 : Int32)
def pSg_isLatin1_16  (I : Nat → Nat → Int32) (J : Nat → Nat → Int64) : Prop :=
  True
set_option maxHeartbeats 4000000 in
set_option maxRecDepth 100000 in
theorem Sg_isLatin1_16_n17 (g : pmG) (d : Nat) (ex : List (Nat × Nat)) (R : Nat → Nat → Value) (hR : pk_R R) (o : Outcome) (Z : pmM)  (I : Nat → Nat → Int32) (J : Nat → Nat → Int64) (hp : pSg_isLatin1_16_17 I J) (ho : o = .returned (some (.int (fSg_isLatin1_16_17 I J)))) (hz : Z = (pk_K ++ ex, R, I, J)) : pmE g kSg_isLatin1 d 0 0 17 [(0, .retAddr 16)] [] (pk_K ++ ex) R I J o Z := by
  unfold pSg_isLatin1_16_17 at hp
  refine pm_iconst (v := 0) dSg_isLatin1_17 (by decide) ?_
  exact pm_zret dSg_isLatin1_18 rfl (by first | rfl | decide) (ho.trans (by first | rfl | (simp only [fSg_isLatin1_16_17]; done) | (simp only [fSg_isLatin1_16_17]; rfl))) (hz.trans (by first | rfl | (simp only [fSg_isLatin1_16_17]; done) | (simp only [fSg_isLatin1_16_17]; rfl)))
set_option maxHeartbeats 4000000 in
set_option maxRecDepth 100000 in
theorem Sg_isLatin1_16_n0 (g : pmG) (d : Nat) (ex : List (Nat × Nat)) (R : Nat → Nat → Value) (hR : pk_R R) (o : Outcome) (Z : pmM)  (I : Nat → Nat → Int32) (J : Nat → Nat → Int64) (hp : pSg_isLatin1_16 I J) (ho : o = .returned (some (.int (fSg_isLatin1_16 I J)))) (hz : Z = (pk_K ++ ex, R, I, J)) : pmE g kSg_isLatin1 d 0 0 0 [(0, .retAddr 16)] [] (pk_K ++ ex) R I J o Z := by
  unfold pSg_isLatin1_16 at hp
  refine pm_gets dSg_isLatin1_0 gSg_38 xs_0 ?_
  refine pm_if_eq 17 dSg_isLatin1_3 (by decide) (fun h3 => ?_) (fun h3 => ?_)
  · exact absurd h3 (by decide)
  ·
    refine pm_xload_n dSg_isLatin1_6 rfl ?_
    refine pm_xcoder (x := 6) dSg_isLatin1_7 gSg_15 (by decide) ?_
    refine pm_if_ne 17 dSg_isLatin1_10 (by decide) (fun h10 => ?_) (fun h10 => ?_)
    · exact absurd (by decide) h10
    ·
      refine pm_iconst (v := 1) dSg_isLatin1_13 (by decide) ?_
      refine pm_goto 18 dSg_isLatin1_14 (by decide) ?_
      exact pm_zret dSg_isLatin1_18 rfl (by first | rfl | decide) (ho.trans (by first | rfl | (simp only [fSg_isLatin1_16]; done) | (simp only [fSg_isLatin1_16]; rfl))) (hz.trans (by first | rfl | (simp only [fSg_isLatin1_16]; done) | (simp only [fSg_isLatin1_16]; rfl)))
set_option maxHeartbeats 4000000 in
set_option maxRecDepth 100000 in
theorem Sg_isLatin1_16_ok (g : pmG) (d : Nat) (ex : List (Nat × Nat)) (R : Nat → Nat → Value) (hR : pk_R R)   (I : Nat → Nat → Int32) (J : Nat → Nat → Int64) (hp : pSg_isLatin1_16 I J) : pmC g kSg_isLatin1 d 0 0 [.retAddr 16] (pk_K ++ ex, R, I, J) (.returned (some (.int (fSg_isLatin1_16 I J)))) (pk_K ++ ex, R, I, J) :=
  pmC.of (by decide) (Nat.le_of_ble_eq_true rfl) (Sg_isLatin1_16_n0 g d ex R hR _ _   I J hp rfl rfl)
def fSg_length_16  (I : Nat → Nat → Int32) (J : Nat → Nat → Int64) : Int32 :=
  (20 : Int32) >>> ((0 : Int32) &&& 31)
def pSg_length_16  (I : Nat → Nat → Int32) (J : Nat → Nat → Int64) : Prop :=
  (pSg_coder_16 I J) ∧ True
set_option maxHeartbeats 4000000 in
set_option maxRecDepth 100000 in
theorem Sg_length_16_n0 (g : pmG) (d : Nat) (ex : List (Nat × Nat)) (R : Nat → Nat → Value) (hR : pk_R R) (o : Outcome) (Z : pmM)  (I : Nat → Nat → Int32) (J : Nat → Nat → Int64) (hp : pSg_length_16 I J) (ho : o = .returned (some (.int (fSg_length_16 I J)))) (hz : Z = (pk_K ++ ex, R, I, J)) : pmE g kSg_length (d + 1) 0 0 0 [(0, .retAddr 16)] [] (pk_K ++ ex) R I J o Z := by
  unfold pSg_length_16 at hp
  refine pm_xload_n dSg_length_0 rfl ?_
  refine pm_xvalue (x := 6) dSg_length_1 gSg_9 (by decide) ?_
  refine pm_xlen (u := 20) dSg_length_4 xa_46 (by decide) ?_
  refine pm_xload_n dSg_length_5 rfl ?_
  refine pm_callX (x := 6) dSg_length_6 lSg_335 vSg_coder rfl (by decide) (Sg_coder_16_ok _ _ _ _ hR  _ _ hp.1) rfl rfl (Nat.le_of_ble_eq_true rfl) (Nat.le_refl _) (Nat.le_refl _) ?_
  refine pm_eqi (0 : Int32) rfl ?_
  refine pm_ishr dSg_length_9 ?_
  exact pm_iret dSg_length_10 rfl (ho.trans (by first | rfl | (simp only [fSg_length_16]; done) | (simp only [fSg_length_16]; rfl))) (hz.trans (by first | rfl | (simp only [fSg_length_16]; done) | (simp only [fSg_length_16]; rfl)))
set_option maxHeartbeats 4000000 in
set_option maxRecDepth 100000 in
theorem Sg_length_16_ok (g : pmG) (d : Nat) (ex : List (Nat × Nat)) (R : Nat → Nat → Value) (hR : pk_R R)   (I : Nat → Nat → Int32) (J : Nat → Nat → Int64) (hp : pSg_length_16 I J) : pmC g kSg_length (d + 1) 0 0 [.retAddr 16] (pk_K ++ ex, R, I, J) (.returned (some (.int (fSg_length_16 I J)))) (pk_K ++ ex, R, I, J) :=
  pmC.of (by decide) (Nat.le_of_ble_eq_true rfl) (Sg_length_16_n0 g d ex R hR _ _   I J hp rfl rfl)
def fSl_charAt_16  (y1 : Int32) (I : Nat → Nat → Int32) (J : Nat → Nat → Int64) : Int32 :=
  (((pk_B6.getD y1.toNatClampNeg 0) &&& (255 : Int32)).toUInt32 % 65536).toInt32
def pSl_charAt_16  (y1 : Int32) (I : Nat → Nat → Int32) (J : Nat → Nat → Int64) : Prop :=
  (pSg_checkIndex y1 (20 : Int32)) ∧ ((vp_in y1 20) ∧ (narrow .char (.int ((((pk_B6.getD y1.toNatClampNeg 0) &&& (255 : Int32)).toUInt32 % 65536).toInt32)) = .int ((((pk_B6.getD y1.toNatClampNeg 0) &&& (255 : Int32)).toUInt32 % 65536).toInt32)))
set_option maxHeartbeats 4000000 in
set_option maxRecDepth 100000 in
theorem Sl_charAt_16_n0 (g : pmG) (d : Nat) (ex : List (Nat × Nat)) (R : Nat → Nat → Value) (hR : pk_R R) (o : Outcome) (Z : pmM)  (y1 : Int32) (I : Nat → Nat → Int32) (J : Nat → Nat → Int64) (hp : pSl_charAt_16 y1 I J) (ho : o = .returned (some (.int (fSl_charAt_16 y1 I J)))) (hz : Z = (pk_K ++ ex, R, I, J)) : pmE g kSl_charAt (d + 2) 0 0 0 [(0, .retAddr 46), (1, .int y1)] [] (pk_K ++ ex) R I J o Z := by
  unfold pSl_charAt_16 at hp
  refine pm_iload_n dSl_charAt_0 rfl ?_
  refine pm_xload_n dSl_charAt_1 rfl ?_
  refine pm_xlen (u := 20) dSl_charAt_2 xa_46 (by decide) ?_
  refine pm_callS dSl_charAt_3 lSl_9 tSg_checkIndex (Sg_checkIndex_ok _ _ _ _ _ _ _ _ hp.1) rfl rfl (Nat.le_of_ble_eq_true rfl) (Nat.le_refl _) (Nat.le_refl _) ?_
  refine pm_xload_n dSl_charAt_6 rfl ?_
  refine pm_iload_n dSl_charAt_7 rfl ?_
  refine pm_xbald dSl_charAt_8 xa_46 hp.2.1 ?_
  refine pm_sipush (v := 255) dSl_charAt_9 (by decide) ?_
  refine pm_iand dSl_charAt_12 ?_
  refine pm_i2c dSl_charAt_13 ?_
  exact pm_zret dSl_charAt_14 rfl hp.2.2 (ho.trans (by first | rfl | (simp only [fSl_charAt_16]; done) | (simp only [fSl_charAt_16]; rfl))) (hz.trans (by first | rfl | (simp only [fSl_charAt_16]; done) | (simp only [fSl_charAt_16]; rfl)))
set_option maxHeartbeats 4000000 in
set_option maxRecDepth 100000 in
theorem Sl_charAt_16_ok (g : pmG) (d : Nat) (ex : List (Nat × Nat)) (R : Nat → Nat → Value) (hR : pk_R R)  (x0 : Int32) (I : Nat → Nat → Int32) (J : Nat → Nat → Int64) (hp : pSl_charAt_16 x0 I J) : pmC g kSl_charAt (d + 2) 0 0 [.retAddr 46, .int x0] (pk_K ++ ex, R, I, J) (.returned (some (.int (fSl_charAt_16 x0 I J)))) (pk_K ++ ex, R, I, J) :=
  pmC.of (by decide) (Nat.le_of_ble_eq_true rfl) (Sl_charAt_16_n0 g d ex R hR _ _  x0 I J hp rfl rfl)
def fSg_charAt_16  (y1 : Int32) (I : Nat → Nat → Int32) (J : Nat → Nat → Int64) : Int32 :=
  (fSl_charAt_16 y1 I J)
def pSg_charAt_16  (y1 : Int32) (I : Nat → Nat → Int32) (J : Nat → Nat → Int64) : Prop :=
  (pSg_isLatin1_16 I J) ∧ ((pSl_charAt_16 y1 I J) ∧ (narrow .char (.int ((fSl_charAt_16 y1 I J))) = .int ((fSl_charAt_16 y1 I J))))
set_option maxHeartbeats 4000000 in
set_option maxRecDepth 100000 in
theorem Sg_charAt_16_n0 (g : pmG) (d : Nat) (ex : List (Nat × Nat)) (R : Nat → Nat → Value) (hR : pk_R R) (o : Outcome) (Z : pmM)  (y1 : Int32) (I : Nat → Nat → Int32) (J : Nat → Nat → Int64) (hp : pSg_charAt_16 y1 I J) (ho : o = .returned (some (.int (fSg_charAt_16 y1 I J)))) (hz : Z = (pk_K ++ ex, R, I, J)) : pmE g kSg_charAt (d + 3) 0 0 0 [(0, .retAddr 16), (1, .int y1)] [] (pk_K ++ ex) R I J o Z := by
  unfold pSg_charAt_16 at hp
  refine pm_xload_n dSg_charAt_0 rfl ?_
  refine pm_callX (x := 6) dSg_charAt_1 lSg_492 vSg_isLatin1 rfl (by decide) (Sg_isLatin1_16_ok _ _ _ _ hR  _ _ hp.1) rfl rfl (Nat.le_of_ble_eq_true rfl) (Nat.le_refl _) (Nat.le_refl _) ?_
  refine pm_eqi (1 : Int32) rfl ?_
  refine pm_if_eq 16 dSg_charAt_4 (by decide) (fun h4 => ?_) (fun h4 => ?_)
  · exact absurd h4 (by decide)
  ·
    refine pm_xload_n dSg_charAt_7 rfl ?_
    refine pm_xvalue (x := 6) dSg_charAt_8 gSg_9 (by decide) ?_
    refine pm_iload_n dSg_charAt_11 rfl ?_
    refine pm_callS dSg_charAt_12 lSg_495 tSl_charAt (Sl_charAt_16_ok _ _ _ _ hR _ _ _ hp.2.1) rfl rfl (Nat.le_of_ble_eq_true rfl) (Nat.le_refl _) (Nat.le_refl _) ?_
    exact pm_zret dSg_charAt_15 rfl hp.2.2 (ho.trans (by first | rfl | (simp only [fSg_charAt_16]; done) | (simp only [fSg_charAt_16]; rfl))) (hz.trans (by first | rfl | (simp only [fSg_charAt_16]; done) | (simp only [fSg_charAt_16]; rfl)))
set_option maxHeartbeats 4000000 in
set_option maxRecDepth 100000 in
theorem Sg_charAt_16_ok (g : pmG) (d : Nat) (ex : List (Nat × Nat)) (R : Nat → Nat → Value) (hR : pk_R R)  (x0 : Int32) (I : Nat → Nat → Int32) (J : Nat → Nat → Int64) (hp : pSg_charAt_16 x0 I J) : pmC g kSg_charAt (d + 3) 0 0 [.retAddr 16, .int x0] (pk_K ++ ex, R, I, J) (.returned (some (.int (fSg_charAt_16 x0 I J)))) (pk_K ++ ex, R, I, J) :=
  pmC.of (by decide) (Nat.le_of_ble_eq_true rfl) (Sg_charAt_16_n0 g d ex R hR _ _  x0 I J hp rfl rfl)
