/-! new cells with their numbers said -/
section PMN
variable {g : pmG} {k : pmK} {d rc rs pc idx ci : Nat} {L : List (Nat × Value)} {S : List Value} {K : List (Nat × Nat)} {R : Nat → Nat → Value} {I : Nat → Nat → Int32} {J : Nat → Nat → Int64} {o : Outcome} {Z : pmM}
theorem pm_bud (rc1 rs1 : Nat) (h1 : rc1 ≤ rc) (h2 : rs1 ≤ rs) (n : pmE g k d rc1 rs1 pc L S K R I J o Z) : pmE g k d rc rs pc L S K R I J o Z := by
  intro p e Rm s m args below meth c H locs cells slots mc ms ls hC g1 g2 g3 g4 hl hA
  exact n p e Rm s m args below meth c H locs cells slots mc ms ls hC g1 g2 (by omega) (by omega) hl hA
theorem pm_newL {N : Nat} (rc1 rs1 q : Nat) (K' : List (Nat × Nat)) (h1 : rc1 + 1 ≤ rc) (h2 : rs1 + N ≤ rs) (hq : K.length = q) (hK : K ++ [(0, ci)] = K') (h : decode k.2.1 pc = .ok (.new idx, 3)) (f : pm_Cn k.1.cls idx ci N) (n : pmE g k d rc1 rs1 (pc + 3) L (.ref q :: S) K' (pm_z R q .null) (pm_z I q 0) (pm_z J q 0) o Z) : pmE g k d rc rs pc L S K R I J o Z := by
  subst hq; subst hK
  exact pm_bud (rc1 + 1) (rs1 + N) h1 h2 (pm_new h f n)
theorem pm_newaL {t N : Nat} {z0 : Int32} {at0 : ArrayType} {ty : FieldType} (rc1 rs1 q : Nat) (K' : List (Nat × Nat)) (h1 : rc1 + 1 ≤ rc) (h2 : rs1 + N ≤ rs) (hq : K.length = q) (hK : K ++ [(t, N)] = K') (h : decode k.2.1 pc = .ok (.newarray at0, 2)) (hty : newarray.typeOf at0 = ty) (ht : (t = 1 ∧ ty = .int) ∨ (t = 2 ∧ ty = .byte) ∨ (t = 3 ∧ ty = .boolean) ∨ (t = 4 ∧ ty = .long)) (harr : Cond.arrayClass ty ∈ pm_TS) (hn : ¬ z0 < 0) (hN : z0.toNatClampNeg = N) (hb8 : N * componentBytes ty ≤ 536870912)
    (n : pmE g k d rc1 rs1 (pc + 2) L (.ref q :: S) K' (pm_z R q .null) (pm_z I q 0) (pm_z J q 0) o Z) : pmE g k d rc rs pc L (.int z0 :: S) K R I J o Z := by
  subst hq; subst hK
  exact pm_bud (rc1 + 1) (rs1 + N) h1 h2 (pm_newa h hty ht harr hn hN hb8 n)
end PMN
theorem ac_int : Cond.arrayClass .int ∈ pm_TS := pm_in 81 (by decide +kernel) rfl
theorem ac_byte : Cond.arrayClass .byte ∈ pm_TS := pm_in 54 (by decide +kernel) rfl
theorem ob_1 : Cond.instanceMethod Lib.objectInit ∈ pm_TS := pm_in 35 (by decide +kernel) rfl
theorem ob_2 : Cond.code Lib.objectInit ⟨#[0xb1]⟩ 1 none ∈ pm_TS := pm_in 36 (by decide +kernel) rfl
theorem ac_long : Cond.arrayClass .long ∈ pm_TS := pm_in 241 (by decide +kernel) rfl
def RTp_init_1 (R : Nat → Nat → Value) : Nat → Nat → Value := pm_u (pm_z (R) 2 .null) 1 0 (.ref 2)
def ITp_init_1 (I : Nat → Nat → Int32) : Nat → Nat → Int32 := pm_z (I) 2 0
def JTp_init_1 (J : Nat → Nat → Int64) : Nat → Nat → Int64 := pm_z (J) 2 0
set_option maxHeartbeats 4000000 in
set_option maxRecDepth 100000 in
theorem Tp_init_1_ok (g : pmG) (d : Nat) (R : Nat → Nat → Value) (I : Nat → Nat → Int32) (J : Nat → Nat → Int64)  : pmC g kTp_init (d + 1) 1 65536 [.ref 1] ([(0, 0), (0, 1)], R, I, J) (.returned none) ([(0, 0), (0, 1), (2, 65536)], RTp_init_1 R, ITp_init_1 I, JTp_init_1 J) := by
  refine pmC.of (by decide) (Nat.le_of_ble_eq_true rfl) ?_
  refine pm_aload_n dTp_init_0 rfl ?_
  refine pm_objInit dTp_init_1 (pm_in 42 (by decide +kernel) rfl) ob_1 ob_2 (Nat.le_of_ble_eq_true rfl) ?_
  refine pm_aload_n dTp_init_4 rfl ?_
  refine pm_ldc dTp_init_5 cTp_9 ?_
  refine pm_newaL (t := 2) (N := 65536) 0 0 2 [(0, 0), (0, 1), (2, 65536)] (Nat.le_of_ble_eq_true rfl) (Nat.le_of_ble_eq_true rfl) rfl rfl dTp_init_7 rfl (Or.inr (Or.inl ⟨rfl, rfl⟩)) ac_byte (by decide) (by decide) (by decide) ?_
  refine pm_putr dTp_init_9 fTp_10 sTp_10 (fun _ => rfl) rfl rfl rfl ?_
  exact pm_vret dTp_init_12 rfl rfl rfl
def RCo_init_7 (R : Nat → Nat → Value) : Nat → Nat → Value := pm_u (pm_z (pm_u (pm_z (R) 8 .null) 7 0 (.ref 8)) 9 .null) 7 1 (.ref 9)
def ICo_init_7 (I : Nat → Nat → Int32) : Nat → Nat → Int32 := pm_z (pm_z (I) 8 0) 9 0
def JCo_init_7 (J : Nat → Nat → Int64) : Nat → Nat → Int64 := pm_z (pm_z (J) 8 0) 9 0
set_option maxHeartbeats 4000000 in
set_option maxRecDepth 100000 in
theorem Co_init_7_ok (g : pmG) (d : Nat) (R : Nat → Nat → Value) (I : Nat → Nat → Int32) (J : Nat → Nat → Int64)  : pmC g kCo_init (d + 1) 2 8000 [.ref 7] ([(0, 0), (0, 1), (2, 65536), (0, 2), (1, 60), (1, 60), (1, 60), (0, 3)], R, I, J) (.returned none) ([(0, 0), (0, 1), (2, 65536), (0, 2), (1, 60), (1, 60), (1, 60), (0, 3), (1, 4000), (1, 4000)], RCo_init_7 R, ICo_init_7 I, JCo_init_7 J) := by
  refine pmC.of (by decide) (Nat.le_of_ble_eq_true rfl) ?_
  refine pm_aload_n dCo_init_0 rfl ?_
  refine pm_objInit dCo_init_1 (pm_in 66 (by decide +kernel) rfl) ob_1 ob_2 (Nat.le_of_ble_eq_true rfl) ?_
  refine pm_aload_n dCo_init_4 rfl ?_
  refine pm_sipush (v := 4000) dCo_init_5 (by decide) ?_
  refine pm_newaL (t := 1) (N := 4000) 1 4000 8 [(0, 0), (0, 1), (2, 65536), (0, 2), (1, 60), (1, 60), (1, 60), (0, 3), (1, 4000)] (Nat.le_of_ble_eq_true rfl) (Nat.le_of_ble_eq_true rfl) rfl rfl dCo_init_8 rfl (Or.inl ⟨rfl, rfl⟩) ac_int (by decide) (by decide) (by decide) ?_
  refine pm_putr dCo_init_10 fCo_9 sCo_9 (fun _ => rfl) rfl rfl rfl ?_
  refine pm_aload_n dCo_init_13 rfl ?_
  refine pm_sipush (v := 4000) dCo_init_14 (by decide) ?_
  refine pm_newaL (t := 1) (N := 4000) 0 0 9 [(0, 0), (0, 1), (2, 65536), (0, 2), (1, 60), (1, 60), (1, 60), (0, 3), (1, 4000), (1, 4000)] (Nat.le_of_ble_eq_true rfl) (Nat.le_of_ble_eq_true rfl) rfl rfl dCo_init_17 rfl (Or.inl ⟨rfl, rfl⟩) ac_int (by decide) (by decide) (by decide) ?_
  refine pm_putr dCo_init_19 fCo_15 sCo_15 (fun _ => rfl) rfl rfl rfl ?_
  exact pm_vret dCo_init_22 rfl rfl rfl
def RCo_init_10 (R : Nat → Nat → Value) : Nat → Nat → Value := pm_u (pm_z (pm_u (pm_z (R) 11 .null) 10 0 (.ref 11)) 12 .null) 10 1 (.ref 12)
def ICo_init_10 (I : Nat → Nat → Int32) : Nat → Nat → Int32 := pm_z (pm_z (I) 11 0) 12 0
def JCo_init_10 (J : Nat → Nat → Int64) : Nat → Nat → Int64 := pm_z (pm_z (J) 11 0) 12 0
set_option maxHeartbeats 4000000 in
set_option maxRecDepth 100000 in
theorem Co_init_10_ok (g : pmG) (d : Nat) (R : Nat → Nat → Value) (I : Nat → Nat → Int32) (J : Nat → Nat → Int64)  : pmC g kCo_init (d + 1) 2 8000 [.ref 10] ([(0, 0), (0, 1), (2, 65536), (0, 2), (1, 60), (1, 60), (1, 60), (0, 3), (1, 4000), (1, 4000), (0, 3)], R, I, J) (.returned none) ([(0, 0), (0, 1), (2, 65536), (0, 2), (1, 60), (1, 60), (1, 60), (0, 3), (1, 4000), (1, 4000), (0, 3), (1, 4000), (1, 4000)], RCo_init_10 R, ICo_init_10 I, JCo_init_10 J) := by
  refine pmC.of (by decide) (Nat.le_of_ble_eq_true rfl) ?_
  refine pm_aload_n dCo_init_0 rfl ?_
  refine pm_objInit dCo_init_1 (pm_in 66 (by decide +kernel) rfl) ob_1 ob_2 (Nat.le_of_ble_eq_true rfl) ?_
  refine pm_aload_n dCo_init_4 rfl ?_
  refine pm_sipush (v := 4000) dCo_init_5 (by decide) ?_
  refine pm_newaL (t := 1) (N := 4000) 1 4000 11 [(0, 0), (0, 1), (2, 65536), (0, 2), (1, 60), (1, 60), (1, 60), (0, 3), (1, 4000), (1, 4000), (0, 3), (1, 4000)] (Nat.le_of_ble_eq_true rfl) (Nat.le_of_ble_eq_true rfl) rfl rfl dCo_init_8 rfl (Or.inl ⟨rfl, rfl⟩) ac_int (by decide) (by decide) (by decide) ?_
  refine pm_putr dCo_init_10 fCo_9 sCo_9 (fun _ => rfl) rfl rfl rfl ?_
  refine pm_aload_n dCo_init_13 rfl ?_
  refine pm_sipush (v := 4000) dCo_init_14 (by decide) ?_
  refine pm_newaL (t := 1) (N := 4000) 0 0 12 [(0, 0), (0, 1), (2, 65536), (0, 2), (1, 60), (1, 60), (1, 60), (0, 3), (1, 4000), (1, 4000), (0, 3), (1, 4000), (1, 4000)] (Nat.le_of_ble_eq_true rfl) (Nat.le_of_ble_eq_true rfl) rfl rfl dCo_init_17 rfl (Or.inl ⟨rfl, rfl⟩) ac_int (by decide) (by decide) (by decide) ?_
  refine pm_putr dCo_init_19 fCo_15 sCo_15 (fun _ => rfl) rfl rfl rfl ?_
  exact pm_vret dCo_init_22 rfl rfl rfl
def RCi_init_3 (R : Nat → Nat → Value) : Nat → Nat → Value := pm_u (RCo_init_10 (pm_z (pm_u (RCo_init_7 (pm_z (pm_u (pm_z (pm_u (pm_z (pm_u (pm_z (R) 4 .null) 3 0 (.ref 4)) 5 .null) 3 1 (.ref 5)) 6 .null) 3 2 (.ref 6)) 7 .null)) 3 3 (.ref 7)) 10 .null)) 3 4 (.ref 10)
def ICi_init_3 (I : Nat → Nat → Int32) : Nat → Nat → Int32 := ICo_init_10 (pm_z (ICo_init_7 (pm_z (pm_z (pm_z (pm_z (I) 4 0) 5 0) 6 0) 7 0)) 10 0)
def JCi_init_3 (J : Nat → Nat → Int64) : Nat → Nat → Int64 := JCo_init_10 (pm_z (JCo_init_7 (pm_z (pm_z (pm_z (pm_z (J) 4 0) 5 0) 6 0) 7 0)) 10 0)
set_option maxHeartbeats 4000000 in
set_option maxRecDepth 100000 in
theorem Ci_init_3_ok (g : pmG) (d : Nat) (R : Nat → Nat → Value) (I : Nat → Nat → Int32) (J : Nat → Nat → Int64)  : pmC g kCi_init (d + 2) 9 16186 [.ref 3] ([(0, 0), (0, 1), (2, 65536), (0, 2)], R, I, J) (.returned none) ([(0, 0), (0, 1), (2, 65536), (0, 2), (1, 60), (1, 60), (1, 60), (0, 3), (1, 4000), (1, 4000), (0, 3), (1, 4000), (1, 4000)], RCi_init_3 R, ICi_init_3 I, JCi_init_3 J) := by
  refine pmC.of (by decide) (Nat.le_of_ble_eq_true rfl) ?_
  refine pm_aload_n dCi_init_0 rfl ?_
  refine pm_objInit dCi_init_1 (pm_in 60 (by decide +kernel) rfl) ob_1 ob_2 (Nat.le_of_ble_eq_true rfl) ?_
  refine pm_aload_n dCi_init_4 rfl ?_
  refine pm_bipush (v := 60) dCi_init_5 (by decide) ?_
  refine pm_newaL (t := 1) (N := 60) 8 16126 4 [(0, 0), (0, 1), (2, 65536), (0, 2), (1, 60)] (Nat.le_of_ble_eq_true rfl) (Nat.le_of_ble_eq_true rfl) rfl rfl dCi_init_7 rfl (Or.inl ⟨rfl, rfl⟩) ac_int (by decide) (by decide) (by decide) ?_
  refine pm_putr dCi_init_9 fCi_9 sCi_9 (fun _ => rfl) rfl rfl rfl ?_
  refine pm_aload_n dCi_init_12 rfl ?_
  refine pm_bipush (v := 60) dCi_init_13 (by decide) ?_
  refine pm_newaL (t := 1) (N := 60) 7 16066 5 [(0, 0), (0, 1), (2, 65536), (0, 2), (1, 60), (1, 60)] (Nat.le_of_ble_eq_true rfl) (Nat.le_of_ble_eq_true rfl) rfl rfl dCi_init_15 rfl (Or.inl ⟨rfl, rfl⟩) ac_int (by decide) (by decide) (by decide) ?_
  refine pm_putr dCi_init_17 fCi_15 sCi_15 (fun _ => rfl) rfl rfl rfl ?_
  refine pm_aload_n dCi_init_20 rfl ?_
  refine pm_bipush (v := 60) dCi_init_21 (by decide) ?_
  refine pm_newaL (t := 1) (N := 60) 6 16006 6 [(0, 0), (0, 1), (2, 65536), (0, 2), (1, 60), (1, 60), (1, 60)] (Nat.le_of_ble_eq_true rfl) (Nat.le_of_ble_eq_true rfl) rfl rfl dCi_init_23 rfl (Or.inl ⟨rfl, rfl⟩) ac_int (by decide) (by decide) (by decide) ?_
  refine pm_putr dCi_init_25 fCi_18 sCi_18 (fun _ => rfl) rfl rfl rfl ?_
  refine pm_aload_n dCi_init_28 rfl ?_
  refine pm_newL 5 16003 7 [(0, 0), (0, 1), (2, 65536), (0, 2), (1, 60), (1, 60), (1, 60), (0, 3)] (Nat.le_of_ble_eq_true rfl) (Nat.le_of_ble_eq_true rfl) rfl rfl dCi_init_29 nCi_21 ?_
  refine pm_dup dCi_init_32 rfl ?_
  refine pm_callI (rc1 := 3) (rs1 := 8003) dCi_init_33 lCi_23 iCo_init (Co_init_7_ok _ _ _ _ _ ) rfl rfl (Nat.le_of_ble_eq_true rfl) (Nat.le_of_ble_eq_true rfl) (Nat.le_of_ble_eq_true rfl) ?_
  refine pm_putr dCi_init_36 fCi_24 sCi_24 (fun _ => rfl) rfl rfl rfl ?_
  refine pm_aload_n dCi_init_39 rfl ?_
  refine pm_newL 2 8000 10 [(0, 0), (0, 1), (2, 65536), (0, 2), (1, 60), (1, 60), (1, 60), (0, 3), (1, 4000), (1, 4000), (0, 3)] (Nat.le_of_ble_eq_true rfl) (Nat.le_of_ble_eq_true rfl) rfl rfl dCi_init_40 nCi_21 ?_
  refine pm_dup dCi_init_43 rfl ?_
  refine pm_callI (rc1 := 0) (rs1 := 0) dCi_init_44 lCi_23 iCo_init (Co_init_10_ok _ _ _ _ _ ) rfl rfl (Nat.le_of_ble_eq_true rfl) (Nat.le_of_ble_eq_true rfl) (Nat.le_of_ble_eq_true rfl) ?_
  refine pm_putr dCi_init_47 fCi_28 sCi_28 (fun _ => rfl) rfl rfl rfl ?_
  exact pm_vret dCi_init_50 rfl rfl rfl
def RTk_init_17 (R : Nat → Nat → Value) : Nat → Nat → Value := pm_u (pm_u (pm_z (pm_u (pm_z (pm_u (pm_z (pm_u (pm_z (R) 18 .null) 17 1 (.ref 18)) 19 .null) 17 2 (.ref 19)) 20 .null) 17 3 (.ref 20)) 21 .null) 17 4 (.ref 21)) 17 0 (.ref 1)
def ITk_init_17 (I : Nat → Nat → Int32) : Nat → Nat → Int32 := pm_z (pm_z (pm_z (pm_z (I) 18 0) 19 0) 20 0) 21 0
def JTk_init_17 (J : Nat → Nat → Int64) : Nat → Nat → Int64 := pm_z (pm_z (pm_z (pm_z (J) 18 0) 19 0) 20 0) 21 0
set_option maxHeartbeats 4000000 in
set_option maxRecDepth 100000 in
theorem Tk_init_17_ok (g : pmG) (d : Nat) (R : Nat → Nat → Value) (I : Nat → Nat → Int32) (J : Nat → Nat → Int64)  : pmC g kTk_init (d + 1) 4 16004 [.ref 17, .ref 1] ([(0, 0), (0, 1), (2, 65536), (0, 2), (1, 60), (1, 60), (1, 60), (0, 3), (1, 4000), (1, 4000), (0, 3), (1, 4000), (1, 4000), (0, 4), (1, 60), (1, 60), (1, 125), (0, 5)], R, I, J) (.returned none) ([(0, 0), (0, 1), (2, 65536), (0, 2), (1, 60), (1, 60), (1, 60), (0, 3), (1, 4000), (1, 4000), (0, 3), (1, 4000), (1, 4000), (0, 4), (1, 60), (1, 60), (1, 125), (0, 5), (1, 4001), (1, 4001), (1, 4001), (1, 4001)], RTk_init_17 R, ITk_init_17 I, JTk_init_17 J) := by
  refine pmC.of (by decide) (Nat.le_of_ble_eq_true rfl) ?_
  refine pm_aload_n dTk_init_0 rfl ?_
  refine pm_objInit dTk_init_1 (pm_in 155 (by decide +kernel) rfl) ob_1 ob_2 (Nat.le_of_ble_eq_true rfl) ?_
  refine pm_aload_n dTk_init_4 rfl ?_
  refine pm_sipush (v := 4001) dTk_init_5 (by decide) ?_
  refine pm_newaL (t := 1) (N := 4001) 3 12003 18 [(0, 0), (0, 1), (2, 65536), (0, 2), (1, 60), (1, 60), (1, 60), (0, 3), (1, 4000), (1, 4000), (0, 3), (1, 4000), (1, 4000), (0, 4), (1, 60), (1, 60), (1, 125), (0, 5), (1, 4001)] (Nat.le_of_ble_eq_true rfl) (Nat.le_of_ble_eq_true rfl) rfl rfl dTk_init_8 rfl (Or.inl ⟨rfl, rfl⟩) ac_int (by decide) (by decide) (by decide) ?_
  refine pm_putr dTk_init_10 fTk_9 sTk_9 (fun _ => rfl) rfl rfl rfl ?_
  refine pm_aload_n dTk_init_13 rfl ?_
  refine pm_sipush (v := 4001) dTk_init_14 (by decide) ?_
  refine pm_newaL (t := 1) (N := 4001) 2 8002 19 [(0, 0), (0, 1), (2, 65536), (0, 2), (1, 60), (1, 60), (1, 60), (0, 3), (1, 4000), (1, 4000), (0, 3), (1, 4000), (1, 4000), (0, 4), (1, 60), (1, 60), (1, 125), (0, 5), (1, 4001), (1, 4001)] (Nat.le_of_ble_eq_true rfl) (Nat.le_of_ble_eq_true rfl) rfl rfl dTk_init_17 rfl (Or.inl ⟨rfl, rfl⟩) ac_int (by decide) (by decide) (by decide) ?_
  refine pm_putr dTk_init_19 fTk_15 sTk_15 (fun _ => rfl) rfl rfl rfl ?_
  refine pm_aload_n dTk_init_22 rfl ?_
  refine pm_sipush (v := 4001) dTk_init_23 (by decide) ?_
  refine pm_newaL (t := 1) (N := 4001) 1 4001 20 [(0, 0), (0, 1), (2, 65536), (0, 2), (1, 60), (1, 60), (1, 60), (0, 3), (1, 4000), (1, 4000), (0, 3), (1, 4000), (1, 4000), (0, 4), (1, 60), (1, 60), (1, 125), (0, 5), (1, 4001), (1, 4001), (1, 4001)] (Nat.le_of_ble_eq_true rfl) (Nat.le_of_ble_eq_true rfl) rfl rfl dTk_init_26 rfl (Or.inl ⟨rfl, rfl⟩) ac_int (by decide) (by decide) (by decide) ?_
  refine pm_putr dTk_init_28 fTk_18 sTk_18 (fun _ => rfl) rfl rfl rfl ?_
  refine pm_aload_n dTk_init_31 rfl ?_
  refine pm_sipush (v := 4001) dTk_init_32 (by decide) ?_
  refine pm_newaL (t := 1) (N := 4001) 0 0 21 [(0, 0), (0, 1), (2, 65536), (0, 2), (1, 60), (1, 60), (1, 60), (0, 3), (1, 4000), (1, 4000), (0, 3), (1, 4000), (1, 4000), (0, 4), (1, 60), (1, 60), (1, 125), (0, 5), (1, 4001), (1, 4001), (1, 4001), (1, 4001)] (Nat.le_of_ble_eq_true rfl) (Nat.le_of_ble_eq_true rfl) rfl rfl dTk_init_35 rfl (Or.inl ⟨rfl, rfl⟩) ac_int (by decide) (by decide) (by decide) ?_
  refine pm_putr dTk_init_37 fTk_21 sTk_21 (fun _ => rfl) rfl rfl rfl ?_
  refine pm_aload_n dTk_init_40 rfl ?_
  refine pm_aload_n dTk_init_41 rfl ?_
  refine pm_putr dTk_init_42 fTk_24 sTk_24 (fun _ => rfl) rfl rfl rfl ?_
  exact pm_vret dTk_init_45 rfl rfl rfl
def RRd_init_13 (R : Nat → Nat → Value) : Nat → Nat → Value := pm_u (pm_u (RTk_init_17 (pm_z (pm_u (pm_u (pm_z (pm_u (pm_z (pm_u (pm_z (R) 14 .null) 13 4 (.ref 14)) 15 .null) 13 5 (.ref 15)) 16 .null) 13 6 (.ref 16)) 13 0 (.ref 3)) 17 .null)) 13 1 (.ref 17)) 13 8 (.ref 7)
def IRd_init_13 (I : Nat → Nat → Int32) : Nat → Nat → Int32 := ITk_init_17 (pm_z (pm_z (pm_z (pm_z (I) 14 0) 15 0) 16 0) 17 0)
def JRd_init_13 (J : Nat → Nat → Int64) : Nat → Nat → Int64 := JTk_init_17 (pm_z (pm_z (pm_z (pm_z (J) 14 0) 15 0) 16 0) 17 0)
set_option maxHeartbeats 4000000 in
set_option maxRecDepth 100000 in
theorem Rd_init_13_ok (g : pmG) (d : Nat) (R : Nat → Nat → Value) (I : Nat → Nat → Int32) (J : Nat → Nat → Int64) (hq_3_3 : R 3 3 = .ref 7) : pmC g kRd_init (d + 2) 8 16256 [.ref 13, .ref 1, .ref 3] ([(0, 0), (0, 1), (2, 65536), (0, 2), (1, 60), (1, 60), (1, 60), (0, 3), (1, 4000), (1, 4000), (0, 3), (1, 4000), (1, 4000), (0, 4)], R, I, J) (.returned none) ([(0, 0), (0, 1), (2, 65536), (0, 2), (1, 60), (1, 60), (1, 60), (0, 3), (1, 4000), (1, 4000), (0, 3), (1, 4000), (1, 4000), (0, 4), (1, 60), (1, 60), (1, 125), (0, 5), (1, 4001), (1, 4001), (1, 4001), (1, 4001)], RRd_init_13 R, IRd_init_13 I, JRd_init_13 J) := by
  refine pmC.of (by decide) (Nat.le_of_ble_eq_true rfl) ?_
  refine pm_aload_n dRd_init_0 rfl ?_
  refine pm_objInit dRd_init_1 (pm_in 149 (by decide +kernel) rfl) ob_1 ob_2 (Nat.le_of_ble_eq_true rfl) ?_
  refine pm_aload_n dRd_init_4 rfl ?_
  refine pm_bipush (v := 60) dRd_init_5 (by decide) ?_
  refine pm_newaL (t := 1) (N := 60) 7 16196 14 [(0, 0), (0, 1), (2, 65536), (0, 2), (1, 60), (1, 60), (1, 60), (0, 3), (1, 4000), (1, 4000), (0, 3), (1, 4000), (1, 4000), (0, 4), (1, 60)] (Nat.le_of_ble_eq_true rfl) (Nat.le_of_ble_eq_true rfl) rfl rfl dRd_init_7 rfl (Or.inl ⟨rfl, rfl⟩) ac_int (by decide) (by decide) (by decide) ?_
  refine pm_putr dRd_init_9 fRd_9 sRd_9 (fun _ => rfl) rfl rfl rfl ?_
  refine pm_aload_n dRd_init_12 rfl ?_
  refine pm_bipush (v := 60) dRd_init_13 (by decide) ?_
  refine pm_newaL (t := 1) (N := 60) 6 16136 15 [(0, 0), (0, 1), (2, 65536), (0, 2), (1, 60), (1, 60), (1, 60), (0, 3), (1, 4000), (1, 4000), (0, 3), (1, 4000), (1, 4000), (0, 4), (1, 60), (1, 60)] (Nat.le_of_ble_eq_true rfl) (Nat.le_of_ble_eq_true rfl) rfl rfl dRd_init_15 rfl (Or.inl ⟨rfl, rfl⟩) ac_int (by decide) (by decide) (by decide) ?_
  refine pm_putr dRd_init_17 fRd_15 sRd_15 (fun _ => rfl) rfl rfl rfl ?_
  refine pm_aload_n dRd_init_20 rfl ?_
  refine pm_bipush (v := 125) dRd_init_21 (by decide) ?_
  refine pm_newaL (t := 1) (N := 125) 5 16011 16 [(0, 0), (0, 1), (2, 65536), (0, 2), (1, 60), (1, 60), (1, 60), (0, 3), (1, 4000), (1, 4000), (0, 3), (1, 4000), (1, 4000), (0, 4), (1, 60), (1, 60), (1, 125)] (Nat.le_of_ble_eq_true rfl) (Nat.le_of_ble_eq_true rfl) rfl rfl dRd_init_23 rfl (Or.inl ⟨rfl, rfl⟩) ac_int (by decide) (by decide) (by decide) ?_
  refine pm_putr dRd_init_25 fRd_18 sRd_18 (fun _ => rfl) rfl rfl rfl ?_
  refine pm_aload_n dRd_init_28 rfl ?_
  refine pm_aload_n dRd_init_29 rfl ?_
  refine pm_putr dRd_init_30 fRd_21 sRd_21 (fun _ => rfl) rfl rfl rfl ?_
  refine pm_aload_n dRd_init_33 rfl ?_
  refine pm_newL 4 16004 17 [(0, 0), (0, 1), (2, 65536), (0, 2), (1, 60), (1, 60), (1, 60), (0, 3), (1, 4000), (1, 4000), (0, 3), (1, 4000), (1, 4000), (0, 4), (1, 60), (1, 60), (1, 125), (0, 5)] (Nat.le_of_ble_eq_true rfl) (Nat.le_of_ble_eq_true rfl) rfl rfl dRd_init_34 nRd_25 ?_
  refine pm_dup dRd_init_37 rfl ?_
  refine pm_aload_n dRd_init_38 rfl ?_
  refine pm_callI (rc1 := 0) (rs1 := 0) dRd_init_39 lRd_27 iTk_init (Tk_init_17_ok _ _ _ _ _ ) rfl rfl (Nat.le_of_ble_eq_true rfl) (Nat.le_of_ble_eq_true rfl) (Nat.le_of_ble_eq_true rfl) ?_
  refine pm_putr dRd_init_42 fRd_30 sRd_30 (fun _ => rfl) rfl rfl rfl ?_
  refine pm_aload_n dRd_init_45 rfl ?_
  refine pm_aload_n dRd_init_46 rfl ?_
  refine pm_getr (v := .ref 7) dRd_init_47 fRd_34 rfl (by first | rfl | exact hq_3_3) ?_
  refine pm_putr dRd_init_50 fRd_40 sRd_40 (fun _ => rfl) rfl rfl rfl ?_
  exact pm_vret dRd_init_53 rfl rfl rfl
def RVa_init_22 (R : Nat → Nat → Value) : Nat → Nat → Value := pm_u (pm_u (pm_z (pm_u (pm_z (R) 23 .null) 22 1 (.ref 23)) 24 .null) 22 2 (.ref 24)) 22 0 (.ref 3)
def IVa_init_22 (I : Nat → Nat → Int32) : Nat → Nat → Int32 := pm_z (pm_z (I) 23 0) 24 0
def JVa_init_22 (J : Nat → Nat → Int64) : Nat → Nat → Int64 := pm_z (pm_z (J) 23 0) 24 0
set_option maxHeartbeats 4000000 in
set_option maxRecDepth 100000 in
theorem Va_init_22_ok (g : pmG) (d : Nat) (R : Nat → Nat → Value) (I : Nat → Nat → Int32) (J : Nat → Nat → Int64)  : pmC g kVa_init (d + 1) 2 51340 [.ref 22, .ref 3] ([(0, 0), (0, 1), (2, 65536), (0, 2), (1, 60), (1, 60), (1, 60), (0, 3), (1, 4000), (1, 4000), (0, 3), (1, 4000), (1, 4000), (0, 4), (1, 60), (1, 60), (1, 125), (0, 5), (1, 4001), (1, 4001), (1, 4001), (1, 4001), (0, 6)], R, I, J) (.returned none) ([(0, 0), (0, 1), (2, 65536), (0, 2), (1, 60), (1, 60), (1, 60), (0, 3), (1, 4000), (1, 4000), (0, 3), (1, 4000), (1, 4000), (0, 4), (1, 60), (1, 60), (1, 125), (0, 5), (1, 4001), (1, 4001), (1, 4001), (1, 4001), (0, 6), (4, 51200), (1, 140)], RVa_init_22 R, IVa_init_22 I, JVa_init_22 J) := by
  refine pmC.of (by decide) (Nat.le_of_ble_eq_true rfl) ?_
  refine pm_aload_n dVa_init_0 rfl ?_
  refine pm_objInit dVa_init_1 (pm_in 223 (by decide +kernel) rfl) ob_1 ob_2 (Nat.le_of_ble_eq_true rfl) ?_
  refine pm_aload_n dVa_init_4 rfl ?_
  refine pm_ldc dVa_init_5 cVa_11 ?_
  refine pm_newaL (t := 4) (N := 51200) 1 140 23 [(0, 0), (0, 1), (2, 65536), (0, 2), (1, 60), (1, 60), (1, 60), (0, 3), (1, 4000), (1, 4000), (0, 3), (1, 4000), (1, 4000), (0, 4), (1, 60), (1, 60), (1, 125), (0, 5), (1, 4001), (1, 4001), (1, 4001), (1, 4001), (0, 6), (4, 51200)] (Nat.le_of_ble_eq_true rfl) (Nat.le_of_ble_eq_true rfl) rfl rfl dVa_init_7 rfl (Or.inr (Or.inr (Or.inr ⟨rfl, rfl⟩))) ac_long (by decide) (by decide) (by decide) ?_
  refine pm_putr dVa_init_9 fVa_12 sVa_12 (fun _ => rfl) rfl rfl rfl ?_
  refine pm_aload_n dVa_init_12 rfl ?_
  refine pm_sipush (v := 140) dVa_init_13 (by decide) ?_
  refine pm_newaL (t := 1) (N := 140) 0 0 24 [(0, 0), (0, 1), (2, 65536), (0, 2), (1, 60), (1, 60), (1, 60), (0, 3), (1, 4000), (1, 4000), (0, 3), (1, 4000), (1, 4000), (0, 4), (1, 60), (1, 60), (1, 125), (0, 5), (1, 4001), (1, 4001), (1, 4001), (1, 4001), (0, 6), (4, 51200), (1, 140)] (Nat.le_of_ble_eq_true rfl) (Nat.le_of_ble_eq_true rfl) rfl rfl dVa_init_16 rfl (Or.inl ⟨rfl, rfl⟩) ac_int (by decide) (by decide) (by decide) ?_
  refine pm_putr dVa_init_18 fVa_16 sVa_16 (fun _ => rfl) rfl rfl rfl ?_
  refine pm_aload_n dVa_init_21 rfl ?_
  refine pm_aload_n dVa_init_22 rfl ?_
  refine pm_putr dVa_init_23 fVa_20 sVa_20 (fun _ => rfl) rfl rfl rfl ?_
  exact pm_vret dVa_init_26 rfl rfl rfl
def RSt_init_25 (R : Nat → Nat → Value) : Nat → Nat → Value := pm_u (pm_u (pm_z (pm_u (pm_z (pm_u (pm_z (pm_u (pm_z (pm_u (pm_z (pm_u (pm_z (pm_u (pm_z (R) 26 .null) 25 4 (.ref 26)) 27 .null) 25 5 (.ref 27)) 28 .null) 25 6 (.ref 28)) 29 .null) 25 7 (.ref 29)) 30 .null) 25 9 (.ref 30)) 31 .null) 25 10 (.ref 31)) 32 .null) 25 11 (.ref 32)) 25 0 (.ref 3)
def ISt_init_25 (I : Nat → Nat → Int32) : Nat → Nat → Int32 := pm_z (pm_z (pm_z (pm_z (pm_z (pm_z (pm_z (I) 26 0) 27 0) 28 0) 29 0) 30 0) 31 0) 32 0
def JSt_init_25 (J : Nat → Nat → Int64) : Nat → Nat → Int64 := pm_z (pm_z (pm_z (pm_z (pm_z (pm_z (pm_z (J) 26 0) 27 0) 28 0) 29 0) 30 0) 31 0) 32 0
set_option maxHeartbeats 4000000 in
set_option maxRecDepth 100000 in
theorem St_init_25_ok (g : pmG) (d : Nat) (R : Nat → Nat → Value) (I : Nat → Nat → Int32) (J : Nat → Nat → Int64)  : pmC g kSt_init (d + 1) 7 5377 [.ref 25, .ref 3] ([(0, 0), (0, 1), (2, 65536), (0, 2), (1, 60), (1, 60), (1, 60), (0, 3), (1, 4000), (1, 4000), (0, 3), (1, 4000), (1, 4000), (0, 4), (1, 60), (1, 60), (1, 125), (0, 5), (1, 4001), (1, 4001), (1, 4001), (1, 4001), (0, 6), (4, 51200), (1, 140), (0, 7)], R, I, J) (.returned none) ([(0, 0), (0, 1), (2, 65536), (0, 2), (1, 60), (1, 60), (1, 60), (0, 3), (1, 4000), (1, 4000), (0, 3), (1, 4000), (1, 4000), (0, 4), (1, 60), (1, 60), (1, 125), (0, 5), (1, 4001), (1, 4001), (1, 4001), (1, 4001), (0, 6), (4, 51200), (1, 140), (0, 7), (1, 2048), (1, 2048), (1, 257), (1, 256), (1, 256), (1, 256), (1, 256)], RSt_init_25 R, ISt_init_25 I, JSt_init_25 J) := by
  refine pmC.of (by decide) (Nat.le_of_ble_eq_true rfl) ?_
  refine pm_aload_n dSt_init_0 rfl ?_
  refine pm_objInit dSt_init_1 (pm_in 247 (by decide +kernel) rfl) ob_1 ob_2 (Nat.le_of_ble_eq_true rfl) ?_
  refine pm_aload_n dSt_init_4 rfl ?_
  refine pm_sipush (v := 2048) dSt_init_5 (by decide) ?_
  refine pm_newaL (t := 1) (N := 2048) 6 3329 26 [(0, 0), (0, 1), (2, 65536), (0, 2), (1, 60), (1, 60), (1, 60), (0, 3), (1, 4000), (1, 4000), (0, 3), (1, 4000), (1, 4000), (0, 4), (1, 60), (1, 60), (1, 125), (0, 5), (1, 4001), (1, 4001), (1, 4001), (1, 4001), (0, 6), (4, 51200), (1, 140), (0, 7), (1, 2048)] (Nat.le_of_ble_eq_true rfl) (Nat.le_of_ble_eq_true rfl) rfl rfl dSt_init_8 rfl (Or.inl ⟨rfl, rfl⟩) ac_int (by decide) (by decide) (by decide) ?_
  refine pm_putr dSt_init_10 fSt_9 sSt_9 (fun _ => rfl) rfl rfl rfl ?_
  refine pm_aload_n dSt_init_13 rfl ?_
  refine pm_sipush (v := 2048) dSt_init_14 (by decide) ?_
  refine pm_newaL (t := 1) (N := 2048) 5 1281 27 [(0, 0), (0, 1), (2, 65536), (0, 2), (1, 60), (1, 60), (1, 60), (0, 3), (1, 4000), (1, 4000), (0, 3), (1, 4000), (1, 4000), (0, 4), (1, 60), (1, 60), (1, 125), (0, 5), (1, 4001), (1, 4001), (1, 4001), (1, 4001), (0, 6), (4, 51200), (1, 140), (0, 7), (1, 2048), (1, 2048)] (Nat.le_of_ble_eq_true rfl) (Nat.le_of_ble_eq_true rfl) rfl rfl dSt_init_17 rfl (Or.inl ⟨rfl, rfl⟩) ac_int (by decide) (by decide) (by decide) ?_
  refine pm_putr dSt_init_19 fSt_15 sSt_15 (fun _ => rfl) rfl rfl rfl ?_
  refine pm_aload_n dSt_init_22 rfl ?_
  refine pm_sipush (v := 257) dSt_init_23 (by decide) ?_
  refine pm_newaL (t := 1) (N := 257) 4 1024 28 [(0, 0), (0, 1), (2, 65536), (0, 2), (1, 60), (1, 60), (1, 60), (0, 3), (1, 4000), (1, 4000), (0, 3), (1, 4000), (1, 4000), (0, 4), (1, 60), (1, 60), (1, 125), (0, 5), (1, 4001), (1, 4001), (1, 4001), (1, 4001), (0, 6), (4, 51200), (1, 140), (0, 7), (1, 2048), (1, 2048), (1, 257)] (Nat.le_of_ble_eq_true rfl) (Nat.le_of_ble_eq_true rfl) rfl rfl dSt_init_26 rfl (Or.inl ⟨rfl, rfl⟩) ac_int (by decide) (by decide) (by decide) ?_
  refine pm_putr dSt_init_28 fSt_18 sSt_18 (fun _ => rfl) rfl rfl rfl ?_
  refine pm_aload_n dSt_init_31 rfl ?_
  refine pm_sipush (v := 256) dSt_init_32 (by decide) ?_
  refine pm_newaL (t := 1) (N := 256) 3 768 29 [(0, 0), (0, 1), (2, 65536), (0, 2), (1, 60), (1, 60), (1, 60), (0, 3), (1, 4000), (1, 4000), (0, 3), (1, 4000), (1, 4000), (0, 4), (1, 60), (1, 60), (1, 125), (0, 5), (1, 4001), (1, 4001), (1, 4001), (1, 4001), (0, 6), (4, 51200), (1, 140), (0, 7), (1, 2048), (1, 2048), (1, 257), (1, 256)] (Nat.le_of_ble_eq_true rfl) (Nat.le_of_ble_eq_true rfl) rfl rfl dSt_init_35 rfl (Or.inl ⟨rfl, rfl⟩) ac_int (by decide) (by decide) (by decide) ?_
  refine pm_putr dSt_init_37 fSt_21 sSt_21 (fun _ => rfl) rfl rfl rfl ?_
  refine pm_aload_n dSt_init_40 rfl ?_
  refine pm_sipush (v := 256) dSt_init_41 (by decide) ?_
  refine pm_newaL (t := 1) (N := 256) 2 512 30 [(0, 0), (0, 1), (2, 65536), (0, 2), (1, 60), (1, 60), (1, 60), (0, 3), (1, 4000), (1, 4000), (0, 3), (1, 4000), (1, 4000), (0, 4), (1, 60), (1, 60), (1, 125), (0, 5), (1, 4001), (1, 4001), (1, 4001), (1, 4001), (0, 6), (4, 51200), (1, 140), (0, 7), (1, 2048), (1, 2048), (1, 257), (1, 256), (1, 256)] (Nat.le_of_ble_eq_true rfl) (Nat.le_of_ble_eq_true rfl) rfl rfl dSt_init_44 rfl (Or.inl ⟨rfl, rfl⟩) ac_int (by decide) (by decide) (by decide) ?_
  refine pm_putr dSt_init_46 fSt_24 sSt_24 (fun _ => rfl) rfl rfl rfl ?_
  refine pm_aload_n dSt_init_49 rfl ?_
  refine pm_sipush (v := 256) dSt_init_50 (by decide) ?_
  refine pm_newaL (t := 1) (N := 256) 1 256 31 [(0, 0), (0, 1), (2, 65536), (0, 2), (1, 60), (1, 60), (1, 60), (0, 3), (1, 4000), (1, 4000), (0, 3), (1, 4000), (1, 4000), (0, 4), (1, 60), (1, 60), (1, 125), (0, 5), (1, 4001), (1, 4001), (1, 4001), (1, 4001), (0, 6), (4, 51200), (1, 140), (0, 7), (1, 2048), (1, 2048), (1, 257), (1, 256), (1, 256), (1, 256)] (Nat.le_of_ble_eq_true rfl) (Nat.le_of_ble_eq_true rfl) rfl rfl dSt_init_53 rfl (Or.inl ⟨rfl, rfl⟩) ac_int (by decide) (by decide) (by decide) ?_
  refine pm_putr dSt_init_55 fSt_27 sSt_27 (fun _ => rfl) rfl rfl rfl ?_
  refine pm_aload_n dSt_init_58 rfl ?_
  refine pm_sipush (v := 256) dSt_init_59 (by decide) ?_
  refine pm_newaL (t := 1) (N := 256) 0 0 32 [(0, 0), (0, 1), (2, 65536), (0, 2), (1, 60), (1, 60), (1, 60), (0, 3), (1, 4000), (1, 4000), (0, 3), (1, 4000), (1, 4000), (0, 4), (1, 60), (1, 60), (1, 125), (0, 5), (1, 4001), (1, 4001), (1, 4001), (1, 4001), (0, 6), (4, 51200), (1, 140), (0, 7), (1, 2048), (1, 2048), (1, 257), (1, 256), (1, 256), (1, 256), (1, 256)] (Nat.le_of_ble_eq_true rfl) (Nat.le_of_ble_eq_true rfl) rfl rfl dSt_init_62 rfl (Or.inl ⟨rfl, rfl⟩) ac_int (by decide) (by decide) (by decide) ?_
  refine pm_putr dSt_init_64 fSt_30 sSt_30 (fun _ => rfl) rfl rfl rfl ?_
  refine pm_aload_n dSt_init_67 rfl ?_
  refine pm_aload_n dSt_init_68 rfl ?_
  refine pm_putr dSt_init_69 fSt_33 sSt_33 (fun _ => rfl) rfl rfl rfl ?_
  exact pm_vret dSt_init_72 rfl rfl rfl
def RCm_init_33 (R : Nat → Nat → Value) : Nat → Nat → Value := pm_u (pm_u (pm_z (pm_u (pm_z (pm_u (pm_z (R) 34 .null) 33 1 (.ref 34)) 35 .null) 33 3 (.ref 35)) 36 .null) 33 5 (.ref 36)) 33 0 (.ref 25)
def ICm_init_33 (I : Nat → Nat → Int32) : Nat → Nat → Int32 := pm_z (pm_z (pm_z (I) 34 0) 35 0) 36 0
def JCm_init_33 (J : Nat → Nat → Int64) : Nat → Nat → Int64 := pm_z (pm_z (pm_z (J) 34 0) 35 0) 36 0
set_option maxHeartbeats 4000000 in
set_option maxRecDepth 100000 in
theorem Cm_init_33_ok (g : pmG) (d : Nat) (R : Nat → Nat → Value) (I : Nat → Nat → Int32) (J : Nat → Nat → Int64)  : pmC g kCm_init (d + 1) 3 1136 [.ref 33, .ref 25] ([(0, 0), (0, 1), (2, 65536), (0, 2), (1, 60), (1, 60), (1, 60), (0, 3), (1, 4000), (1, 4000), (0, 3), (1, 4000), (1, 4000), (0, 4), (1, 60), (1, 60), (1, 125), (0, 5), (1, 4001), (1, 4001), (1, 4001), (1, 4001), (0, 6), (4, 51200), (1, 140), (0, 7), (1, 2048), (1, 2048), (1, 257), (1, 256), (1, 256), (1, 256), (1, 256), (0, 8)], R, I, J) (.returned none) ([(0, 0), (0, 1), (2, 65536), (0, 2), (1, 60), (1, 60), (1, 60), (0, 3), (1, 4000), (1, 4000), (0, 3), (1, 4000), (1, 4000), (0, 4), (1, 60), (1, 60), (1, 125), (0, 5), (1, 4001), (1, 4001), (1, 4001), (1, 4001), (0, 6), (4, 51200), (1, 140), (0, 7), (1, 2048), (1, 2048), (1, 257), (1, 256), (1, 256), (1, 256), (1, 256), (0, 8), (4, 624), (1, 256), (1, 256)], RCm_init_33 R, ICm_init_33 I, JCm_init_33 J) := by
  refine pmC.of (by decide) (Nat.le_of_ble_eq_true rfl) ?_
  refine pm_aload_n dCm_init_0 rfl ?_
  refine pm_objInit dCm_init_1 (pm_in 303 (by decide +kernel) rfl) ob_1 ob_2 (Nat.le_of_ble_eq_true rfl) ?_
  refine pm_aload_n dCm_init_4 rfl ?_
  refine pm_sipush (v := 624) dCm_init_5 (by decide) ?_
  refine pm_newaL (t := 4) (N := 624) 2 512 34 [(0, 0), (0, 1), (2, 65536), (0, 2), (1, 60), (1, 60), (1, 60), (0, 3), (1, 4000), (1, 4000), (0, 3), (1, 4000), (1, 4000), (0, 4), (1, 60), (1, 60), (1, 125), (0, 5), (1, 4001), (1, 4001), (1, 4001), (1, 4001), (0, 6), (4, 51200), (1, 140), (0, 7), (1, 2048), (1, 2048), (1, 257), (1, 256), (1, 256), (1, 256), (1, 256), (0, 8), (4, 624)] (Nat.le_of_ble_eq_true rfl) (Nat.le_of_ble_eq_true rfl) rfl rfl dCm_init_8 rfl (Or.inr (Or.inr (Or.inr ⟨rfl, rfl⟩))) ac_long (by decide) (by decide) (by decide) ?_
  refine pm_putr dCm_init_10 fCm_11 sCm_11 (fun _ => rfl) rfl rfl rfl ?_
  refine pm_aload_n dCm_init_13 rfl ?_
  refine pm_sipush (v := 256) dCm_init_14 (by decide) ?_
  refine pm_newaL (t := 1) (N := 256) 1 256 35 [(0, 0), (0, 1), (2, 65536), (0, 2), (1, 60), (1, 60), (1, 60), (0, 3), (1, 4000), (1, 4000), (0, 3), (1, 4000), (1, 4000), (0, 4), (1, 60), (1, 60), (1, 125), (0, 5), (1, 4001), (1, 4001), (1, 4001), (1, 4001), (0, 6), (4, 51200), (1, 140), (0, 7), (1, 2048), (1, 2048), (1, 257), (1, 256), (1, 256), (1, 256), (1, 256), (0, 8), (4, 624), (1, 256)] (Nat.le_of_ble_eq_true rfl) (Nat.le_of_ble_eq_true rfl) rfl rfl dCm_init_17 rfl (Or.inl ⟨rfl, rfl⟩) ac_int (by decide) (by decide) (by decide) ?_
  refine pm_putr dCm_init_19 fCm_15 sCm_15 (fun _ => rfl) rfl rfl rfl ?_
  refine pm_aload_n dCm_init_22 rfl ?_
  refine pm_sipush (v := 256) dCm_init_23 (by decide) ?_
  refine pm_newaL (t := 1) (N := 256) 0 0 36 [(0, 0), (0, 1), (2, 65536), (0, 2), (1, 60), (1, 60), (1, 60), (0, 3), (1, 4000), (1, 4000), (0, 3), (1, 4000), (1, 4000), (0, 4), (1, 60), (1, 60), (1, 125), (0, 5), (1, 4001), (1, 4001), (1, 4001), (1, 4001), (0, 6), (4, 51200), (1, 140), (0, 7), (1, 2048), (1, 2048), (1, 257), (1, 256), (1, 256), (1, 256), (1, 256), (0, 8), (4, 624), (1, 256), (1, 256)] (Nat.le_of_ble_eq_true rfl) (Nat.le_of_ble_eq_true rfl) rfl rfl dCm_init_26 rfl (Or.inl ⟨rfl, rfl⟩) ac_int (by decide) (by decide) (by decide) ?_
  refine pm_putr dCm_init_28 fCm_19 sCm_19 (fun _ => rfl) rfl rfl rfl ?_
  refine pm_aload_n dCm_init_31 rfl ?_
  refine pm_aload_n dCm_init_32 rfl ?_
  refine pm_putr dCm_init_33 fCm_22 sCm_22 (fun _ => rfl) rfl rfl rfl ?_
  exact pm_vret dCm_init_36 rfl rfl rfl
def RTr_init_37 (R : Nat → Nat → Value) : Nat → Nat → Value := pm_u (pm_z (pm_u (pm_z (R) 38 .null) 37 0 (.ref 38)) 39 .null) 37 1 (.ref 39)
def ITr_init_37 (I : Nat → Nat → Int32) : Nat → Nat → Int32 := pm_z (pm_z (I) 38 0) 39 0
def JTr_init_37 (J : Nat → Nat → Int64) : Nat → Nat → Int64 := pm_z (pm_z (J) 38 0) 39 0
set_option maxHeartbeats 4000000 in
set_option maxRecDepth 100000 in
theorem Tr_init_37_ok (g : pmG) (d : Nat) (R : Nat → Nat → Value) (I : Nat → Nat → Int32) (J : Nat → Nat → Int64)  : pmC g kTr_init (d + 1) 2 512 [.ref 37] ([(0, 0), (0, 1), (2, 65536), (0, 2), (1, 60), (1, 60), (1, 60), (0, 3), (1, 4000), (1, 4000), (0, 3), (1, 4000), (1, 4000), (0, 4), (1, 60), (1, 60), (1, 125), (0, 5), (1, 4001), (1, 4001), (1, 4001), (1, 4001), (0, 6), (4, 51200), (1, 140), (0, 7), (1, 2048), (1, 2048), (1, 257), (1, 256), (1, 256), (1, 256), (1, 256), (0, 8), (4, 624), (1, 256), (1, 256), (0, 9)], R, I, J) (.returned none) ([(0, 0), (0, 1), (2, 65536), (0, 2), (1, 60), (1, 60), (1, 60), (0, 3), (1, 4000), (1, 4000), (0, 3), (1, 4000), (1, 4000), (0, 4), (1, 60), (1, 60), (1, 125), (0, 5), (1, 4001), (1, 4001), (1, 4001), (1, 4001), (0, 6), (4, 51200), (1, 140), (0, 7), (1, 2048), (1, 2048), (1, 257), (1, 256), (1, 256), (1, 256), (1, 256), (0, 8), (4, 624), (1, 256), (1, 256), (0, 9), (1, 256), (1, 256)], RTr_init_37 R, ITr_init_37 I, JTr_init_37 J) := by
  refine pmC.of (by decide) (Nat.le_of_ble_eq_true rfl) ?_
  refine pm_aload_n dTr_init_0 rfl ?_
  refine pm_objInit dTr_init_1 (pm_in 328 (by decide +kernel) rfl) ob_1 ob_2 (Nat.le_of_ble_eq_true rfl) ?_
  refine pm_aload_n dTr_init_4 rfl ?_
  refine pm_sipush (v := 256) dTr_init_5 (by decide) ?_
  refine pm_newaL (t := 1) (N := 256) 1 256 38 [(0, 0), (0, 1), (2, 65536), (0, 2), (1, 60), (1, 60), (1, 60), (0, 3), (1, 4000), (1, 4000), (0, 3), (1, 4000), (1, 4000), (0, 4), (1, 60), (1, 60), (1, 125), (0, 5), (1, 4001), (1, 4001), (1, 4001), (1, 4001), (0, 6), (4, 51200), (1, 140), (0, 7), (1, 2048), (1, 2048), (1, 257), (1, 256), (1, 256), (1, 256), (1, 256), (0, 8), (4, 624), (1, 256), (1, 256), (0, 9), (1, 256)] (Nat.le_of_ble_eq_true rfl) (Nat.le_of_ble_eq_true rfl) rfl rfl dTr_init_8 rfl (Or.inl ⟨rfl, rfl⟩) ac_int (by decide) (by decide) (by decide) ?_
  refine pm_putr dTr_init_10 fTr_9 sTr_9 (fun _ => rfl) rfl rfl rfl ?_
  refine pm_aload_n dTr_init_13 rfl ?_
  refine pm_sipush (v := 256) dTr_init_14 (by decide) ?_
  refine pm_newaL (t := 1) (N := 256) 0 0 39 [(0, 0), (0, 1), (2, 65536), (0, 2), (1, 60), (1, 60), (1, 60), (0, 3), (1, 4000), (1, 4000), (0, 3), (1, 4000), (1, 4000), (0, 4), (1, 60), (1, 60), (1, 125), (0, 5), (1, 4001), (1, 4001), (1, 4001), (1, 4001), (0, 6), (4, 51200), (1, 140), (0, 7), (1, 2048), (1, 2048), (1, 257), (1, 256), (1, 256), (1, 256), (1, 256), (0, 8), (4, 624), (1, 256), (1, 256), (0, 9), (1, 256), (1, 256)] (Nat.le_of_ble_eq_true rfl) (Nat.le_of_ble_eq_true rfl) rfl rfl dTr_init_17 rfl (Or.inl ⟨rfl, rfl⟩) ac_int (by decide) (by decide) (by decide) ?_
  refine pm_putr dTr_init_19 fTr_15 sTr_15 (fun _ => rfl) rfl rfl rfl ?_
  exact pm_vret dTr_init_22 rfl rfl rfl
def RCh_init_0 (R : Nat → Nat → Value) : Nat → Nat → Value := pm_u (RTr_init_37 (pm_z (pm_u (RCm_init_33 (pm_z (pm_u (RSt_init_25 (pm_z (pm_u (RVa_init_22 (pm_z (pm_u (RRd_init_13 (pm_z (pm_u (RCi_init_3 (pm_z (pm_u (RTp_init_1 (pm_z (R) 1 .null)) 0 0 (.ref 1)) 3 .null)) 0 1 (.ref 3)) 13 .null)) 0 2 (.ref 13)) 22 .null)) 0 3 (.ref 22)) 25 .null)) 0 4 (.ref 25)) 33 .null)) 0 5 (.ref 33)) 37 .null)) 0 6 (.ref 37)
def ICh_init_0_b (I : Nat → Nat → Int32) : Nat → Nat → Int32 := ITr_init_37 (pm_z (ICm_init_33 (pm_z (ISt_init_25 (pm_z (IVa_init_22 (pm_z (IRd_init_13 (pm_z (ICi_init_3 (pm_z (ITp_init_1 (pm_z (I) 1 0)) 3 0)) 13 0)) 22 0)) 25 0)) 33 0)) 37 0)
def JCh_init_0_b (J : Nat → Nat → Int64) : Nat → Nat → Int64 := JTr_init_37 (pm_z (JCm_init_33 (pm_z (JSt_init_25 (pm_z (JVa_init_22 (pm_z (JRd_init_13 (pm_z (JCi_init_3 (pm_z (JTp_init_1 (pm_z (J) 1 0)) 3 0)) 13 0)) 22 0)) 25 0)) 33 0)) 37 0)
theorem RCh_init_0_st (R : Nat → Nat → Value) : pk_R (RCh_init_0 R) := by
  intro q hq
  simp only [pk_Rl, List.mem_cons, List.not_mem_nil, or_false] at hq
  rcases hq with rfl | rfl | rfl | rfl | rfl | rfl | rfl | rfl | rfl | rfl | rfl | rfl | rfl | rfl | rfl | rfl | rfl | rfl | rfl | rfl | rfl | rfl | rfl | rfl | rfl | rfl | rfl | rfl | rfl | rfl | rfl | rfl | rfl | rfl | rfl | rfl | rfl | rfl | rfl | rfl | rfl | rfl | rfl | rfl <;> rfl
set_option maxHeartbeats 4000000 in
set_option maxRecDepth 100000 in
theorem Ch_init_0_ok (g : pmG) (d : Nat) (R : Nat → Nat → Value) (I : Nat → Nat → Int32) (J : Nat → Nat → Int64)  (hp : pCh_workOut  (ICh_init_0_b I) (JCh_init_0_b J)) : pmC g kCh_init (d + 7) 39 156394 [.ref 0] ([(0, 0)], R, I, J) (.returned none) ([(0, 0), (0, 1), (2, 65536), (0, 2), (1, 60), (1, 60), (1, 60), (0, 3), (1, 4000), (1, 4000), (0, 3), (1, 4000), (1, 4000), (0, 4), (1, 60), (1, 60), (1, 125), (0, 5), (1, 4001), (1, 4001), (1, 4001), (1, 4001), (0, 6), (4, 51200), (1, 140), (0, 7), (1, 2048), (1, 2048), (1, 257), (1, 256), (1, 256), (1, 256), (1, 256), (0, 8), (4, 624), (1, 256), (1, 256), (0, 9), (1, 256), (1, 256)], RCh_init_0 R, (fCh_workOut  (ICh_init_0_b I) (JCh_init_0_b J)).1, (fCh_workOut  (ICh_init_0_b I) (JCh_init_0_b J)).2) := by
  refine pmC.of (by decide) (Nat.le_of_ble_eq_true rfl) ?_
  refine pm_aload_n dCh_init_0 rfl ?_
  refine pm_objInit dCh_init_1 (pm_in 34 (by decide +kernel) rfl) ob_1 ob_2 (Nat.le_of_ble_eq_true rfl) ?_
  refine pm_aload_n dCh_init_4 rfl ?_
  refine pm_newL 38 156392 1 [(0, 0), (0, 1)] (Nat.le_of_ble_eq_true rfl) (Nat.le_of_ble_eq_true rfl) rfl rfl dCh_init_5 nCh_7 ?_
  refine pm_dup dCh_init_8 rfl ?_
  refine pm_callI (rc1 := 37) (rs1 := 90856) dCh_init_9 lCh_9 iTp_init (Tp_init_1_ok _ _ _ _ _ ) rfl rfl (Nat.le_of_ble_eq_true rfl) (Nat.le_of_ble_eq_true rfl) (Nat.le_of_ble_eq_true rfl) ?_
  refine pm_putr dCh_init_12 fCh_10 sCh_10 (fun _ => rfl) rfl rfl rfl ?_
  refine pm_aload_n dCh_init_15 rfl ?_
  refine pm_newL 36 90845 3 [(0, 0), (0, 1), (2, 65536), (0, 2)] (Nat.le_of_ble_eq_true rfl) (Nat.le_of_ble_eq_true rfl) rfl rfl dCh_init_16 nCh_16 ?_
  refine pm_dup dCh_init_19 rfl ?_
  refine pm_callI (rc1 := 27) (rs1 := 74659) dCh_init_20 lCh_18 iCi_init (Ci_init_3_ok _ _ _ _ _ ) rfl rfl (Nat.le_of_ble_eq_true rfl) (Nat.le_of_ble_eq_true rfl) (Nat.le_of_ble_eq_true rfl) ?_
  refine pm_putr dCh_init_23 fCh_19 sCh_19 (fun _ => rfl) rfl rfl rfl ?_
  refine pm_aload_n dCh_init_26 rfl ?_
  refine pm_newL 26 74648 13 [(0, 0), (0, 1), (2, 65536), (0, 2), (1, 60), (1, 60), (1, 60), (0, 3), (1, 4000), (1, 4000), (0, 3), (1, 4000), (1, 4000), (0, 4)] (Nat.le_of_ble_eq_true rfl) (Nat.le_of_ble_eq_true rfl) rfl rfl dCh_init_27 nCh_23 ?_
  refine pm_dup dCh_init_30 rfl ?_
  refine pm_aload_n dCh_init_31 rfl ?_
  refine pm_getr (v := .ref 1) dCh_init_32 fCh_10 rfl (by first | rfl | exact hq_0_0) ?_
  refine pm_aload_n dCh_init_35 rfl ?_
  refine pm_getr (v := .ref 3) dCh_init_36 fCh_19 rfl (by first | rfl | exact hq_0_1) ?_
  refine pm_callI (rc1 := 18) (rs1 := 58392) dCh_init_39 lCh_25 iRd_init (Rd_init_13_ok _ _ _ _ _ (by first | rfl | assumption)) rfl rfl (Nat.le_of_ble_eq_true rfl) (Nat.le_of_ble_eq_true rfl) (Nat.le_of_ble_eq_true rfl) ?_
  refine pm_putr dCh_init_42 fCh_28 sCh_28 (fun _ => rfl) rfl rfl rfl ?_
  refine pm_aload_n dCh_init_45 rfl ?_
  refine pm_newL 17 58387 22 [(0, 0), (0, 1), (2, 65536), (0, 2), (1, 60), (1, 60), (1, 60), (0, 3), (1, 4000), (1, 4000), (0, 3), (1, 4000), (1, 4000), (0, 4), (1, 60), (1, 60), (1, 125), (0, 5), (1, 4001), (1, 4001), (1, 4001), (1, 4001), (0, 6)] (Nat.le_of_ble_eq_true rfl) (Nat.le_of_ble_eq_true rfl) rfl rfl dCh_init_46 nCh_32 ?_
  refine pm_dup dCh_init_49 rfl ?_
  refine pm_aload_n dCh_init_50 rfl ?_
  refine pm_getr (v := .ref 3) dCh_init_51 fCh_19 rfl (by first | rfl | exact hq_0_1) ?_
  refine pm_callI (rc1 := 15) (rs1 := 7047) dCh_init_54 lCh_34 iVa_init (Va_init_22_ok _ _ _ _ _ ) rfl rfl (Nat.le_of_ble_eq_true rfl) (Nat.le_of_ble_eq_true rfl) (Nat.le_of_ble_eq_true rfl) ?_
  refine pm_putr dCh_init_57 fCh_37 sCh_37 (fun _ => rfl) rfl rfl rfl ?_
  refine pm_aload_n dCh_init_60 rfl ?_
  refine pm_newL 14 7035 25 [(0, 0), (0, 1), (2, 65536), (0, 2), (1, 60), (1, 60), (1, 60), (0, 3), (1, 4000), (1, 4000), (0, 3), (1, 4000), (1, 4000), (0, 4), (1, 60), (1, 60), (1, 125), (0, 5), (1, 4001), (1, 4001), (1, 4001), (1, 4001), (0, 6), (4, 51200), (1, 140), (0, 7)] (Nat.le_of_ble_eq_true rfl) (Nat.le_of_ble_eq_true rfl) rfl rfl dCh_init_61 nCh_41 ?_
  refine pm_dup dCh_init_64 rfl ?_
  refine pm_aload_n dCh_init_65 rfl ?_
  refine pm_getr (v := .ref 3) dCh_init_66 fCh_19 rfl (by first | rfl | exact hq_0_1) ?_
  refine pm_callI (rc1 := 7) (rs1 := 1658) dCh_init_69 lCh_43 iSt_init (St_init_25_ok _ _ _ _ _ ) rfl rfl (Nat.le_of_ble_eq_true rfl) (Nat.le_of_ble_eq_true rfl) (Nat.le_of_ble_eq_true rfl) ?_
  refine pm_putr dCh_init_72 fCh_44 sCh_44 (fun _ => rfl) rfl rfl rfl ?_
  refine pm_aload_n dCh_init_75 rfl ?_
  refine pm_newL 6 1652 33 [(0, 0), (0, 1), (2, 65536), (0, 2), (1, 60), (1, 60), (1, 60), (0, 3), (1, 4000), (1, 4000), (0, 3), (1, 4000), (1, 4000), (0, 4), (1, 60), (1, 60), (1, 125), (0, 5), (1, 4001), (1, 4001), (1, 4001), (1, 4001), (0, 6), (4, 51200), (1, 140), (0, 7), (1, 2048), (1, 2048), (1, 257), (1, 256), (1, 256), (1, 256), (1, 256), (0, 8)] (Nat.le_of_ble_eq_true rfl) (Nat.le_of_ble_eq_true rfl) rfl rfl dCh_init_76 nCh_48 ?_
  refine pm_dup dCh_init_79 rfl ?_
  refine pm_aload_n dCh_init_80 rfl ?_
  refine pm_getr (v := .ref 25) dCh_init_81 fCh_44 rfl (by first | rfl | exact hq_0_4) ?_
  refine pm_callI (rc1 := 3) (rs1 := 516) dCh_init_84 lCh_50 iCm_init (Cm_init_33_ok _ _ _ _ _ ) rfl rfl (Nat.le_of_ble_eq_true rfl) (Nat.le_of_ble_eq_true rfl) (Nat.le_of_ble_eq_true rfl) ?_
  refine pm_putr dCh_init_87 fCh_53 sCh_53 (fun _ => rfl) rfl rfl rfl ?_
  refine pm_aload_n dCh_init_90 rfl ?_
  refine pm_newL 2 512 37 [(0, 0), (0, 1), (2, 65536), (0, 2), (1, 60), (1, 60), (1, 60), (0, 3), (1, 4000), (1, 4000), (0, 3), (1, 4000), (1, 4000), (0, 4), (1, 60), (1, 60), (1, 125), (0, 5), (1, 4001), (1, 4001), (1, 4001), (1, 4001), (0, 6), (4, 51200), (1, 140), (0, 7), (1, 2048), (1, 2048), (1, 257), (1, 256), (1, 256), (1, 256), (1, 256), (0, 8), (4, 624), (1, 256), (1, 256), (0, 9)] (Nat.le_of_ble_eq_true rfl) (Nat.le_of_ble_eq_true rfl) rfl rfl dCh_init_91 nCh_57 ?_
  refine pm_dup dCh_init_94 rfl ?_
  refine pm_callI (rc1 := 0) (rs1 := 0) dCh_init_95 lCh_59 iTr_init (Tr_init_37_ok _ _ _ _ _ ) rfl rfl (Nat.le_of_ble_eq_true rfl) (Nat.le_of_ble_eq_true rfl) (Nat.le_of_ble_eq_true rfl) ?_
  refine pm_putr dCh_init_98 fCh_60 sCh_60 (fun _ => rfl) rfl rfl rfl ?_
  refine pm_aload_n dCh_init_101 rfl ?_
  refine pm_callV dCh_init_102 lCh_64 vCh_workOut ⟨_, _, rfl⟩ (Ch_workOut_ok _ _ [] _ (RCh_init_0_st R) _ _ hp) rfl rfl rfl (Nat.le_of_ble_eq_true rfl) (Nat.le_refl _) (Nat.le_refl _) ?_
  exact pm_vret dCh_init_105 rfl rfl rfl
