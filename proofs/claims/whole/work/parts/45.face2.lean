/-! the class's own exceptions: e = 0 where the method returns, else the class of what is thrown -/
abbrev px_g (K : List (Nat × Nat)) (R : Nat → Nat → Value) (e : Nat) (v : Option Value) (I : Nat → Nat → Int32) (J : Nat → Nat → Int64) : Outcome × pmM × Nat × Nat := if e = 0 then (.returned v, (K, R, I, J), 0, 0) else (.threw K.length, (K ++ [(0, e)], R, I, J), 1, 6)
abbrev pmT (g : pmG) (k : pmK) (d : Nat) (as : List Value) (M : pmM) (G : Outcome × pmM × Nat × Nat) : Prop := pmC g k d G.2.2.1 G.2.2.2 as M G.1 G.2.1
/-- all that 'throw new cls()' in own asks of the tables -/
def pm_Nx (own cls : String) (idx ic ci : Nat) : Prop := (∃ T0 : u_T, pm_cl[ci]? = some (cls, T0, 0)) ∧ Cond.classLink own idx cls ∈ pm_TS ∧ Cond.instantiable cls 6 ∈ pm_TS ∧ Cond.initialized cls ∈ pm_TS ∧ Bundle.fit cls = true ∧
  ∃ up : List String, up.length ≤ 2 ∧ (∀ n ∈ up, Bundle.fit n = true) ∧ ∀ w ∈ Bundle.ownAtoms0 own ic cls up, w ∈ pm_TS ∨ w = .isRef (.static "java/lang/Throwable" "UNASSIGNED_STACK" "[Ljava/lang/StackTraceElement;") ∨ w = .isRef (.static "java/lang/Throwable" "SUPPRESSED_SENTINEL" "Ljava/util/List;") ∨ w ∈ pm_FW ∨ ∃ q ∈ pm_LS, w = .laysStatic q.1 q.2.1 q.2.2
section PMFX
variable {g : pmG} {k : pmK} {d rc rs pc idx ic : Nat} {L : List (Nat × Value)} {S : List Value} {K : List (Nat × Nat)} {R : Nat → Nat → Value} {I : Nat → Nat → Int32} {J : Nat → Nat → Int64} {o : Outcome} {Z : pmM} {v v2 : Option Value}
theorem px_r0 (hF : (o, Z, rc, rs) = px_g K R 0 v I J) : o = .returned v ∧ Z = (K, R, I, J) := by
  rw [show px_g K R 0 v I J = (.returned v, (K, R, I, J), 0, 0) from if_pos rfl] at hF
  cases hF
  exact ⟨rfl, rfl⟩
theorem px_iret {r : Int32} (h : decode k.2.1 pc = .ok (.ireturn, 1)) (hk : k.2.2.2 = some .int) (hF : (o, Z, rc, rs) = px_g K R 0 (some (.int r)) I J) : pmE g k d rc rs pc L [.int r] K R I J o Z := pm_iret h hk (px_r0 hF).1 (px_r0 hF).2
theorem px_zret {r : Int32} {ty : FieldType} (h : decode k.2.1 pc = .ok (.ireturn, 1)) (hk : k.2.2.2 = some ty) (hn : narrow ty (.int r) = .int r) (hF : (o, Z, rc, rs) = px_g K R 0 (some (.int r)) I J) : pmE g k d rc rs pc L [.int r] K R I J o Z := pm_zret h hk hn (px_r0 hF).1 (px_r0 hF).2
theorem px_new {cls : String} (ci : Nat) (ht : g.1.stackTraces = false) (h0 : decode k.2.1 pc = .ok (.new idx, 3)) (h3 : decode k.2.1 (pc + 3) = .ok (.dup, 1)) (h4 : decode k.2.1 (pc + 4) = .ok (.invokespecial ic, 3)) (h7 : decode k.2.1 (pc + 7) = .ok (.athrow, 1)) (f : pm_Nx k.1.cls cls idx ic ci) (hci : ¬ ci = 0) (hno : (pm_hs k.1).isEmpty = true) (hS : (S.map fun v => v.category).sum ≤ 8) (hF : (o, Z, rc, rs) = px_g K R ci v2 I J) : pmE g k (d + 6) rc rs pc L S K R I J o Z := by
  rw [show px_g K R ci v2 I J = (.threw K.length, (K ++ [(0, ci)], R, I, J), 1, 6) from if_neg hci] at hF
  cases hF
  obtain ⟨⟨T0, hcl⟩, f1, f2, f3, f4, up, f5, f6, f7⟩ := f
  exact pm_thrNew (rc := 0) (rs := 0) ht h0 h3 h4 h7 hcl f1 f2 f3 f4 f6 f7 f5 hno hS rfl rfl
end PMFX
def xl_72_74 : List Cond := ([15, 16, 17, 18, 35, 36, 954, 960, 961, 962, 963, 964, 965, 966, 967, 968, 969, 970, 971, 972, 973, 974, 975, 976, 977, 978, 979, 980, 981, 982, 983, 984, 985, 986, 987, 988, 989, 990, 991, 993, 994, 995, 996, 997, 999, 1000, 1001, 1002, 1003, 1004, 1005, 1006, 1007, 1008, 1009, 1010, 1011, 1012, 1013, 1014, 1015, 1016, 1021, 1024, 1040, 1041, 1042, 1043, 1044, 1045, 1049, 1050, 1051, 1067, 1068, 1069, 1070, 1071, 1072, 1076, 1077, 1078, 1376, 1377, 1378, 1379, 1380, 1381, 1385, 1386, 1387, 1388, 1389, 1390, 1391, 1392, 1393, 1402, 1403] : List Nat).filterMap (fun i => tables_1[i]?)
theorem xw_72_74 : (Bundle.ownAtoms0 "CircuitChecker" 74 "java/lang/IllegalStateException" ["java/lang/RuntimeException", "java/lang/Exception"]).all (fun w => decide (w = .isRef (.static "java/lang/Throwable" "UNASSIGNED_STACK" "[Ljava/lang/StackTraceElement;")) || (decide (w = .isRef (.static "java/lang/Throwable" "SUPPRESSED_SENTINEL" "Ljava/util/List;")) || (decide (w ∈ xl_72_74) && goodWord w || (decide (w ∈ xl_72_74) && pm_face w || pm_LS.any (fun q => decide (w = .laysStatic q.1 q.2.1 q.2.2)))))) = true := by decide +kernel
theorem xCh_72_74 : pm_Nx "CircuitChecker" "java/lang/IllegalStateException" 72 74 12 := by
  refine ⟨⟨_, rfl⟩, pm_in 960 (by decide +kernel) rfl, pm_in 961 (by decide +kernel) rfl, pm_in 18 (by decide +kernel) rfl, by decide +kernel, ["java/lang/RuntimeException", "java/lang/Exception"], by decide, by decide +kernel, fun w hw => ?_⟩
  have h := List.all_eq_true.mp xw_72_74 w hw
  simp only [Bool.or_eq_true, Bool.and_eq_true, decide_eq_true_eq] at h
  rcases h with h | h | ⟨h, hg⟩ | ⟨h, hg⟩ | h
  · exact Or.inr (Or.inl h)
  · exact Or.inr (Or.inr (Or.inl h))
  · obtain ⟨i, -, hi⟩ := List.mem_filterMap.mp h
    exact Or.inl (pm_in i hi hg)
  · obtain ⟨i, -, hi⟩ := List.mem_filterMap.mp h
    exact Or.inr (Or.inr (Or.inr (Or.inl (pm_inF i hi hg))))
  · obtain ⟨q, hq, hw2⟩ := List.any_eq_true.mp h
    exact Or.inr (Or.inr (Or.inr (Or.inr ⟨q, hq, of_decide_eq_true hw2⟩)))
def xl_79_81 : List Cond := ([15, 16, 17, 19, 35, 36, 963, 964, 965, 966, 967, 968, 969, 970, 971, 972, 973, 974, 975, 976, 977, 978, 979, 980, 981, 982, 983, 984, 985, 986, 987, 988, 989, 990, 991, 993, 994, 995, 996, 997, 999, 1000, 1001, 1005, 1006, 1007, 1008, 1009, 1010, 1011, 1012, 1013, 1014, 1015, 1016, 1021, 1024, 1032, 1037, 1038, 1039, 1040, 1041, 1042, 1043, 1044, 1045, 1046, 1047, 1048, 1049, 1050, 1051, 1067, 1068, 1069, 1070, 1071, 1072, 1076, 1077, 1078, 1376, 1377, 1378, 1379, 1380, 1381, 1385, 1386, 1387, 1388, 1389, 1390, 1391, 1392, 1393, 1402, 1403] : List Nat).filterMap (fun i => tables_1[i]?)
theorem xw_79_81 : (Bundle.ownAtoms0 "CircuitChecker" 81 "java/lang/IllegalArgumentException" ["java/lang/RuntimeException", "java/lang/Exception"]).all (fun w => decide (w = .isRef (.static "java/lang/Throwable" "UNASSIGNED_STACK" "[Ljava/lang/StackTraceElement;")) || (decide (w = .isRef (.static "java/lang/Throwable" "SUPPRESSED_SENTINEL" "Ljava/util/List;")) || (decide (w ∈ xl_79_81) && goodWord w || (decide (w ∈ xl_79_81) && pm_face w || pm_LS.any (fun q => decide (w = .laysStatic q.1 q.2.1 q.2.2)))))) = true := by decide +kernel
theorem xCh_79_81 : pm_Nx "CircuitChecker" "java/lang/IllegalArgumentException" 79 81 13 := by
  refine ⟨⟨_, rfl⟩, pm_in 1037 (by decide +kernel) rfl, pm_in 1038 (by decide +kernel) rfl, pm_in 19 (by decide +kernel) rfl, by decide +kernel, ["java/lang/RuntimeException", "java/lang/Exception"], by decide, by decide +kernel, fun w hw => ?_⟩
  have h := List.all_eq_true.mp xw_79_81 w hw
  simp only [Bool.or_eq_true, Bool.and_eq_true, decide_eq_true_eq] at h
  rcases h with h | h | ⟨h, hg⟩ | ⟨h, hg⟩ | h
  · exact Or.inr (Or.inl h)
  · exact Or.inr (Or.inr (Or.inl h))
  · obtain ⟨i, -, hi⟩ := List.mem_filterMap.mp h
    exact Or.inl (pm_in i hi hg)
  · obtain ⟨i, -, hi⟩ := List.mem_filterMap.mp h
    exact Or.inr (Or.inr (Or.inr (Or.inl (pm_inF i hi hg))))
  · obtain ⟨q, hq, hw2⟩ := List.any_eq_true.mp h
    exact Or.inr (Or.inr (Or.inr (Or.inr ⟨q, hq, of_decide_eq_true hw2⟩)))
def xl_101_103 : List Cond := ([15, 16, 17, 27, 35, 36, 963, 964, 965, 966, 967, 968, 969, 970, 971, 972, 973, 974, 975, 976, 977, 978, 979, 980, 981, 982, 983, 984, 985, 986, 987, 988, 989, 990, 991, 993, 994, 995, 996, 997, 999, 1000, 1001, 1005, 1006, 1007, 1008, 1009, 1010, 1011, 1012, 1013, 1014, 1015, 1016, 1021, 1024, 1040, 1041, 1042, 1043, 1044, 1045, 1049, 1050, 1051, 1055, 1064, 1065, 1066, 1067, 1068, 1069, 1070, 1071, 1072, 1073, 1074, 1075, 1076, 1077, 1078, 1376, 1377, 1378, 1379, 1380, 1381, 1385, 1386, 1387, 1388, 1389, 1390, 1391, 1392, 1393, 1402, 1403] : List Nat).filterMap (fun i => tables_1[i]?)
theorem xw_101_103 : (Bundle.ownAtoms0 "CircuitChecker" 103 "java/util/NoSuchElementException" ["java/lang/RuntimeException", "java/lang/Exception"]).all (fun w => decide (w = .isRef (.static "java/lang/Throwable" "UNASSIGNED_STACK" "[Ljava/lang/StackTraceElement;")) || (decide (w = .isRef (.static "java/lang/Throwable" "SUPPRESSED_SENTINEL" "Ljava/util/List;")) || (decide (w ∈ xl_101_103) && goodWord w || (decide (w ∈ xl_101_103) && pm_face w || pm_LS.any (fun q => decide (w = .laysStatic q.1 q.2.1 q.2.2)))))) = true := by decide +kernel
theorem xCh_101_103 : pm_Nx "CircuitChecker" "java/util/NoSuchElementException" 101 103 14 := by
  refine ⟨⟨_, rfl⟩, pm_in 1064 (by decide +kernel) rfl, pm_in 1065 (by decide +kernel) rfl, pm_in 27 (by decide +kernel) rfl, by decide +kernel, ["java/lang/RuntimeException", "java/lang/Exception"], by decide, by decide +kernel, fun w hw => ?_⟩
  have h := List.all_eq_true.mp xw_101_103 w hw
  simp only [Bool.or_eq_true, Bool.and_eq_true, decide_eq_true_eq] at h
  rcases h with h | h | ⟨h, hg⟩ | ⟨h, hg⟩ | h
  · exact Or.inr (Or.inl h)
  · exact Or.inr (Or.inr (Or.inl h))
  · obtain ⟨i, -, hi⟩ := List.mem_filterMap.mp h
    exact Or.inl (pm_in i hi hg)
  · obtain ⟨i, -, hi⟩ := List.mem_filterMap.mp h
    exact Or.inr (Or.inr (Or.inr (Or.inl (pm_inF i hi hg))))
  · obtain ⟨q, hq, hw2⟩ := List.any_eq_true.mp h
    exact Or.inr (Or.inr (Or.inr (Or.inr ⟨q, hq, of_decide_eq_true hw2⟩)))
def fCh_feed_62  (y1 : Int32) (y2 : Int32) (y3 : Int32) (y4 : Int32) (y5 : Int32) (I : Nat → Nat → Int32) (J : Nat → Nat → Int64) : Nat × Int32 × (Nat → Nat → Int32) :=
  (0, I 1 1, I)
def pCh_feed_62  (y1 : Int32) (y2 : Int32) (y3 : Int32) (y4 : Int32) (y5 : Int32) (I : Nat → Nat → Int32) (J : Nat → Nat → Int64) : Prop :=
  True
def fCh_feed_53  (y1 : Int32) (y2 : Int32) (y3 : Int32) (y4 : Int32) (y5 : Int32) (I : Nat → Nat → Int32) (J : Nat → Nat → Int64) : Nat × Int32 × (Nat → Nat → Int32) :=
  fCh_feed_62 y1 y2 y3 y4 y5 ((fTp_add 5 y5 I J)) J
def pCh_feed_53  (y1 : Int32) (y2 : Int32) (y3 : Int32) (y4 : Int32) (y5 : Int32) (I : Nat → Nat → Int32) (J : Nat → Nat → Int64) : Prop :=
  (pTp_add 5 y5 I J) ∧ (pCh_feed_62 y1 y2 y3 y4 y5 ((fTp_add 5 y5 I J)) J)
def fCh_feed_44  (y1 : Int32) (y2 : Int32) (y3 : Int32) (y4 : Int32) (y5 : Int32) (I : Nat → Nat → Int32) (J : Nat → Nat → Int64) : Nat × Int32 × (Nat → Nat → Int32) :=
  fCh_feed_53 y1 y2 y3 y4 y5 ((fTp_add 5 y4 I J)) J
def pCh_feed_44  (y1 : Int32) (y2 : Int32) (y3 : Int32) (y4 : Int32) (y5 : Int32) (I : Nat → Nat → Int32) (J : Nat → Nat → Int64) : Prop :=
  (pTp_add 5 y4 I J) ∧ (pCh_feed_53 y1 y2 y3 y4 y5 ((fTp_add 5 y4 I J)) J)
def fCh_feed_36  (y1 : Int32) (y2 : Int32) (y3 : Int32) (y4 : Int32) (y5 : Int32) (I : Nat → Nat → Int32) (J : Nat → Nat → Int64) : Nat × Int32 × (Nat → Nat → Int32) :=
  fCh_feed_44 y1 y2 y3 y4 y5 ((fTp_add 5 y3 I J)) J
def pCh_feed_36  (y1 : Int32) (y2 : Int32) (y3 : Int32) (y4 : Int32) (y5 : Int32) (I : Nat → Nat → Int32) (J : Nat → Nat → Int64) : Prop :=
  (pTp_add 5 y3 I J) ∧ (pCh_feed_44 y1 y2 y3 y4 y5 ((fTp_add 5 y3 I J)) J)
def fCh_feed_28  (y1 : Int32) (y2 : Int32) (y3 : Int32) (y4 : Int32) (y5 : Int32) (I : Nat → Nat → Int32) (J : Nat → Nat → Int64) : Nat × Int32 × (Nat → Nat → Int32) :=
  fCh_feed_36 y1 y2 y3 y4 y5 ((fTp_add 5 y2 I J)) J
def pCh_feed_28  (y1 : Int32) (y2 : Int32) (y3 : Int32) (y4 : Int32) (y5 : Int32) (I : Nat → Nat → Int32) (J : Nat → Nat → Int64) : Prop :=
  (pTp_add 5 y2 I J) ∧ (pCh_feed_36 y1 y2 y3 y4 y5 ((fTp_add 5 y2 I J)) J)
def fCh_feed  (y1 : Int32) (y2 : Int32) (y3 : Int32) (y4 : Int32) (y5 : Int32) (I : Nat → Nat → Int32) (J : Nat → Nat → Int64) : Nat × Int32 × (Nat → Nat → Int32) :=
  if (I 1 1) ≤ (65516 : Int32) then fCh_feed_28 y1 y2 y3 y4 y5 ((fTp_add 5 y1 I J)) J
  else (12, 0, I)
def pCh_feed  (y1 : Int32) (y2 : Int32) (y3 : Int32) (y4 : Int32) (y5 : Int32) (I : Nat → Nat → Int32) (J : Nat → Nat → Int64) : Prop :=
  ((I 1 1) ≤ (65516 : Int32) → (pTp_add 5 y1 I J) ∧ (pCh_feed_28 y1 y2 y3 y4 y5 ((fTp_add 5 y1 I J)) J)) ∧
  (¬ ((I 1 1) ≤ (65516 : Int32)) → True)
set_option maxHeartbeats 4000000 in
set_option maxRecDepth 100000 in
theorem Ch_feed_n62 (g : pmG) (ht : g.1.stackTraces = false) (d : Nat) (ex : List (Nat × Nat)) (R : Nat → Nat → Value) (hR : pk_R R) (o : Outcome) (Z : pmM) (rc rs : Nat)  (y1 : Int32) (y2 : Int32) (y3 : Int32) (y4 : Int32) (y5 : Int32) (I : Nat → Nat → Int32) (J : Nat → Nat → Int64) (hp : pCh_feed_62 y1 y2 y3 y4 y5 I J) (hF : (o, Z, rc, rs) = px_g (pk_K ++ ex) R (fCh_feed_62 y1 y2 y3 y4 y5 I J).1 (some (.int (fCh_feed_62 y1 y2 y3 y4 y5 I J).2.1)) (fCh_feed_62 y1 y2 y3 y4 y5 I J).2.2 J) : pmE g kCh_feed (d + 6) rc rs 62 [(0, .ref 0), (1, .int y1), (2, .int y2), (3, .int y3), (4, .int y4), (5, .int y5)] [] (pk_K ++ ex) R I J o Z := by
  unfold pCh_feed_62 at hp
  refine pm_aload_n dCh_feed_62 rfl ?_
  refine pm_getr dCh_feed_63 fCh_10 rfl (rr_0_0 hR) ?_
  refine pm_geti dCh_feed_66 fCh_67 rfl ?_
  exact px_iret dCh_feed_69 rfl (hF.trans (by first | (simp only [fCh_feed_62]; done) | (simp only [fCh_feed_62]; rfl) | rfl))
set_option maxHeartbeats 4000000 in
set_option maxRecDepth 100000 in
theorem Ch_feed_n53 (g : pmG) (ht : g.1.stackTraces = false) (d : Nat) (ex : List (Nat × Nat)) (R : Nat → Nat → Value) (hR : pk_R R) (o : Outcome) (Z : pmM) (rc rs : Nat)  (y1 : Int32) (y2 : Int32) (y3 : Int32) (y4 : Int32) (y5 : Int32) (I : Nat → Nat → Int32) (J : Nat → Nat → Int64) (hp : pCh_feed_53 y1 y2 y3 y4 y5 I J) (hF : (o, Z, rc, rs) = px_g (pk_K ++ ex) R (fCh_feed_53 y1 y2 y3 y4 y5 I J).1 (some (.int (fCh_feed_53 y1 y2 y3 y4 y5 I J).2.1)) (fCh_feed_53 y1 y2 y3 y4 y5 I J).2.2 J) : pmE g kCh_feed (d + 6) rc rs 53 [(0, .ref 0), (1, .int y1), (2, .int y2), (3, .int y3), (4, .int y4), (5, .int y5)] [] (pk_K ++ ex) R I J o Z := by
  unfold pCh_feed_53 at hp
  refine pm_aload_n dCh_feed_53 rfl ?_
  refine pm_getr dCh_feed_54 fCh_10 rfl (rr_0_0 hR) ?_
  refine pm_iload dCh_feed_57 rfl ?_
  refine pm_callV dCh_feed_59 lCh_75 vTp_add ⟨_, _, rfl⟩ (Tp_add_ok _ _ _ _ hR _ _ _ _ hp.1) rfl rfl rfl (Nat.le_of_ble_eq_true rfl) (Nat.le_refl _) (Nat.le_refl _) ?_
  refine pm_wk [0, 1, 2, 3, 4, 5] rfl ?_
  exact Ch_feed_n62 g ht d ex R hR _ _ _ _   _ _ _ _ _ _ _ hp.2 (hF.trans (by first | rfl | (simp only [fCh_feed_53]; done) | (simp only [fCh_feed_53]; rfl)))
set_option maxHeartbeats 4000000 in
set_option maxRecDepth 100000 in
theorem Ch_feed_n44 (g : pmG) (ht : g.1.stackTraces = false) (d : Nat) (ex : List (Nat × Nat)) (R : Nat → Nat → Value) (hR : pk_R R) (o : Outcome) (Z : pmM) (rc rs : Nat)  (y1 : Int32) (y2 : Int32) (y3 : Int32) (y4 : Int32) (y5 : Int32) (I : Nat → Nat → Int32) (J : Nat → Nat → Int64) (hp : pCh_feed_44 y1 y2 y3 y4 y5 I J) (hF : (o, Z, rc, rs) = px_g (pk_K ++ ex) R (fCh_feed_44 y1 y2 y3 y4 y5 I J).1 (some (.int (fCh_feed_44 y1 y2 y3 y4 y5 I J).2.1)) (fCh_feed_44 y1 y2 y3 y4 y5 I J).2.2 J) : pmE g kCh_feed (d + 6) rc rs 44 [(0, .ref 0), (1, .int y1), (2, .int y2), (3, .int y3), (4, .int y4), (5, .int y5)] [] (pk_K ++ ex) R I J o Z := by
  unfold pCh_feed_44 at hp
  refine pm_aload_n dCh_feed_44 rfl ?_
  refine pm_getr dCh_feed_45 fCh_10 rfl (rr_0_0 hR) ?_
  refine pm_iload dCh_feed_48 rfl ?_
  refine pm_callV dCh_feed_50 lCh_75 vTp_add ⟨_, _, rfl⟩ (Tp_add_ok _ _ _ _ hR _ _ _ _ hp.1) rfl rfl rfl (Nat.le_of_ble_eq_true rfl) (Nat.le_refl _) (Nat.le_refl _) ?_
  refine pm_wk [0, 1, 2, 3, 4, 5] rfl ?_
  exact Ch_feed_n53 g ht d ex R hR _ _ _ _   _ _ _ _ _ _ _ hp.2 (hF.trans (by first | rfl | (simp only [fCh_feed_44]; done) | (simp only [fCh_feed_44]; rfl)))
set_option maxHeartbeats 4000000 in
set_option maxRecDepth 100000 in
theorem Ch_feed_n36 (g : pmG) (ht : g.1.stackTraces = false) (d : Nat) (ex : List (Nat × Nat)) (R : Nat → Nat → Value) (hR : pk_R R) (o : Outcome) (Z : pmM) (rc rs : Nat)  (y1 : Int32) (y2 : Int32) (y3 : Int32) (y4 : Int32) (y5 : Int32) (I : Nat → Nat → Int32) (J : Nat → Nat → Int64) (hp : pCh_feed_36 y1 y2 y3 y4 y5 I J) (hF : (o, Z, rc, rs) = px_g (pk_K ++ ex) R (fCh_feed_36 y1 y2 y3 y4 y5 I J).1 (some (.int (fCh_feed_36 y1 y2 y3 y4 y5 I J).2.1)) (fCh_feed_36 y1 y2 y3 y4 y5 I J).2.2 J) : pmE g kCh_feed (d + 6) rc rs 36 [(0, .ref 0), (1, .int y1), (2, .int y2), (3, .int y3), (4, .int y4), (5, .int y5)] [] (pk_K ++ ex) R I J o Z := by
  unfold pCh_feed_36 at hp
  refine pm_aload_n dCh_feed_36 rfl ?_
  refine pm_getr dCh_feed_37 fCh_10 rfl (rr_0_0 hR) ?_
  refine pm_iload_n dCh_feed_40 rfl ?_
  refine pm_callV dCh_feed_41 lCh_75 vTp_add ⟨_, _, rfl⟩ (Tp_add_ok _ _ _ _ hR _ _ _ _ hp.1) rfl rfl rfl (Nat.le_of_ble_eq_true rfl) (Nat.le_refl _) (Nat.le_refl _) ?_
  refine pm_wk [0, 1, 2, 3, 4, 5] rfl ?_
  exact Ch_feed_n44 g ht d ex R hR _ _ _ _   _ _ _ _ _ _ _ hp.2 (hF.trans (by first | rfl | (simp only [fCh_feed_36]; done) | (simp only [fCh_feed_36]; rfl)))
set_option maxHeartbeats 4000000 in
set_option maxRecDepth 100000 in
theorem Ch_feed_n28 (g : pmG) (ht : g.1.stackTraces = false) (d : Nat) (ex : List (Nat × Nat)) (R : Nat → Nat → Value) (hR : pk_R R) (o : Outcome) (Z : pmM) (rc rs : Nat)  (y1 : Int32) (y2 : Int32) (y3 : Int32) (y4 : Int32) (y5 : Int32) (I : Nat → Nat → Int32) (J : Nat → Nat → Int64) (hp : pCh_feed_28 y1 y2 y3 y4 y5 I J) (hF : (o, Z, rc, rs) = px_g (pk_K ++ ex) R (fCh_feed_28 y1 y2 y3 y4 y5 I J).1 (some (.int (fCh_feed_28 y1 y2 y3 y4 y5 I J).2.1)) (fCh_feed_28 y1 y2 y3 y4 y5 I J).2.2 J) : pmE g kCh_feed (d + 6) rc rs 28 [(0, .ref 0), (1, .int y1), (2, .int y2), (3, .int y3), (4, .int y4), (5, .int y5)] [] (pk_K ++ ex) R I J o Z := by
  unfold pCh_feed_28 at hp
  refine pm_aload_n dCh_feed_28 rfl ?_
  refine pm_getr dCh_feed_29 fCh_10 rfl (rr_0_0 hR) ?_
  refine pm_iload_n dCh_feed_32 rfl ?_
  refine pm_callV dCh_feed_33 lCh_75 vTp_add ⟨_, _, rfl⟩ (Tp_add_ok _ _ _ _ hR _ _ _ _ hp.1) rfl rfl rfl (Nat.le_of_ble_eq_true rfl) (Nat.le_refl _) (Nat.le_refl _) ?_
  refine pm_wk [0, 1, 2, 3, 4, 5] rfl ?_
  exact Ch_feed_n36 g ht d ex R hR _ _ _ _   _ _ _ _ _ _ _ hp.2 (hF.trans (by first | rfl | (simp only [fCh_feed_28]; done) | (simp only [fCh_feed_28]; rfl)))
set_option maxHeartbeats 4000000 in
set_option maxRecDepth 100000 in
theorem Ch_feed_n0 (g : pmG) (ht : g.1.stackTraces = false) (d : Nat) (ex : List (Nat × Nat)) (R : Nat → Nat → Value) (hR : pk_R R) (o : Outcome) (Z : pmM) (rc rs : Nat)  (y1 : Int32) (y2 : Int32) (y3 : Int32) (y4 : Int32) (y5 : Int32) (I : Nat → Nat → Int32) (J : Nat → Nat → Int64) (hp : pCh_feed y1 y2 y3 y4 y5 I J) (hF : (o, Z, rc, rs) = px_g (pk_K ++ ex) R (fCh_feed y1 y2 y3 y4 y5 I J).1 (some (.int (fCh_feed y1 y2 y3 y4 y5 I J).2.1)) (fCh_feed y1 y2 y3 y4 y5 I J).2.2 J) : pmE g kCh_feed (d + 6) rc rs 0 [(0, .ref 0), (1, .int y1), (2, .int y2), (3, .int y3), (4, .int y4), (5, .int y5)] [] (pk_K ++ ex) R I J o Z := by
  unfold pCh_feed at hp
  refine pm_aload_n dCh_feed_0 rfl ?_
  refine pm_getr dCh_feed_1 fCh_10 rfl (rr_0_0 hR) ?_
  refine pm_geti dCh_feed_4 fCh_67 rfl ?_
  refine pm_ldc dCh_feed_7 cCh_71 ?_
  refine pm_icmp_le 20 dCh_feed_9 (by decide) (fun h9 => ?_) (fun h9 => ?_)
  ·
    refine pm_aload_n dCh_feed_20 rfl ?_
    refine pm_getr dCh_feed_21 fCh_10 rfl (rr_0_0 hR) ?_
    refine pm_iload_n dCh_feed_24 rfl ?_
    refine pm_callV dCh_feed_25 lCh_75 vTp_add ⟨_, _, rfl⟩ (Tp_add_ok _ _ _ _ hR _ _ _ _ (hp.1 h9).1) rfl rfl rfl (Nat.le_of_ble_eq_true rfl) (Nat.le_refl _) (Nat.le_refl _) ?_
    refine pm_wk [0, 1, 2, 3, 4, 5] rfl ?_
    exact Ch_feed_n28 g ht d ex R hR _ _ _ _   _ _ _ _ _ _ _ (hp.1 h9).2 (hF.trans (by first | (simp only [fCh_feed, if_pos h9]; done) | (simp only [fCh_feed, if_pos h9]; rfl) | rfl))
  ·
    exact px_new (v2 := some (.int 0)) 12 ht dCh_feed_12 dCh_feed_15 dCh_feed_16 dCh_feed_19 xCh_72_74 (by decide) (by decide +kernel) (Nat.le_of_ble_eq_true rfl) (hF.trans (by first | (simp only [fCh_feed, if_neg h9]; done) | (simp only [fCh_feed, if_neg h9]; rfl) | rfl))
set_option maxHeartbeats 4000000 in
set_option maxRecDepth 100000 in
theorem Ch_feed_ok (g : pmG) (ht : g.1.stackTraces = false) (d : Nat) (ex : List (Nat × Nat)) (R : Nat → Nat → Value) (hR : pk_R R)  (x0 : Int32) (x1 : Int32) (x2 : Int32) (x3 : Int32) (x4 : Int32) (I : Nat → Nat → Int32) (J : Nat → Nat → Int64) (hp : pCh_feed x0 x1 x2 x3 x4 I J) : pmT g kCh_feed (d + 6) [.ref 0, .int x0, .int x1, .int x2, .int x3, .int x4] (pk_K ++ ex, R, I, J) (px_g (pk_K ++ ex) R (fCh_feed x0 x1 x2 x3 x4 I J).1 (some (.int (fCh_feed x0 x1 x2 x3 x4 I J).2.1)) (fCh_feed x0 x1 x2 x3 x4 I J).2.2 J) :=
  pmC.of (by decide) (Nat.le_of_ble_eq_true rfl) (Ch_feed_n0 g ht d ex R hR _ _ _ _  x0 x1 x2 x3 x4 I J hp rfl)
def fCh_end_15  (y1 : Int32) (I : Nat → Nat → Int32) (J : Nat → Nat → Int64) : Nat × Int32 × (Nat → Nat → Int32) :=
  (13, 0, I)
def pCh_end_15  (y1 : Int32) (I : Nat → Nat → Int32) (J : Nat → Nat → Int64) : Prop :=
  True
def fCh_end  (y1 : Int32) (I : Nat → Nat → Int32) (J : Nat → Nat → Int64) : Nat × Int32 × (Nat → Nat → Int32) :=
  if y1 < 0 then fCh_end_15 y1 I J
  else if y1 ≤ (I 1 1) then (0, y1, pm_u I 1 1 y1)
    else fCh_end_15 y1 I J
def pCh_end  (y1 : Int32) (I : Nat → Nat → Int32) (J : Nat → Nat → Int64) : Prop :=
  (y1 < 0 → pCh_end_15 y1 I J) ∧
  (¬ (y1 < 0) → (y1 ≤ (I 1 1) → True) ∧
    (¬ (y1 ≤ (I 1 1)) → pCh_end_15 y1 I J))
set_option maxHeartbeats 4000000 in
set_option maxRecDepth 100000 in
theorem Ch_end_n15 (g : pmG) (ht : g.1.stackTraces = false) (d : Nat) (ex : List (Nat × Nat)) (R : Nat → Nat → Value) (hR : pk_R R) (o : Outcome) (Z : pmM) (rc rs : Nat)  (y1 : Int32) (I : Nat → Nat → Int32) (J : Nat → Nat → Int64) (hp : pCh_end_15 y1 I J) (hF : (o, Z, rc, rs) = px_g (pk_K ++ ex) R (fCh_end_15 y1 I J).1 (some (.int (fCh_end_15 y1 I J).2.1)) (fCh_end_15 y1 I J).2.2 J) : pmE g kCh_end (d + 6) rc rs 15 [(0, .ref 0), (1, .int y1)] [] (pk_K ++ ex) R I J o Z := by
  unfold pCh_end_15 at hp
  exact px_new (v2 := some (.int 0)) 13 ht dCh_end_15 dCh_end_18 dCh_end_19 dCh_end_22 xCh_79_81 (by decide) (by decide +kernel) (Nat.le_of_ble_eq_true rfl) (hF.trans (by first | (simp only [fCh_end_15]; done) | (simp only [fCh_end_15]; rfl) | rfl))
set_option maxHeartbeats 4000000 in
set_option maxRecDepth 100000 in
theorem Ch_end_n0 (g : pmG) (ht : g.1.stackTraces = false) (d : Nat) (ex : List (Nat × Nat)) (R : Nat → Nat → Value) (hR : pk_R R) (o : Outcome) (Z : pmM) (rc rs : Nat)  (y1 : Int32) (I : Nat → Nat → Int32) (J : Nat → Nat → Int64) (hp : pCh_end y1 I J) (hF : (o, Z, rc, rs) = px_g (pk_K ++ ex) R (fCh_end y1 I J).1 (some (.int (fCh_end y1 I J).2.1)) (fCh_end y1 I J).2.2 J) : pmE g kCh_end (d + 6) rc rs 0 [(0, .ref 0), (1, .int y1)] [] (pk_K ++ ex) R I J o Z := by
  unfold pCh_end at hp
  refine pm_iload_n dCh_end_0 rfl ?_
  refine pm_if_lt 15 dCh_end_1 (by decide) (fun h1 => ?_) (fun h1 => ?_)
  ·
    refine pm_wk [0, 1] rfl ?_
    exact Ch_end_n15 g ht d ex R hR _ _ _ _   _ _ _ (hp.1 h1) (hF.trans (by first | (simp only [fCh_end, if_pos h1]; done) | (simp only [fCh_end, if_pos h1]; rfl) | rfl))
  ·
    refine pm_iload_n dCh_end_4 rfl ?_
    refine pm_aload_n dCh_end_5 rfl ?_
    refine pm_getr dCh_end_6 fCh_10 rfl (rr_0_0 hR) ?_
    refine pm_geti dCh_end_9 fCh_67 rfl ?_
    refine pm_icmp_le 23 dCh_end_12 (by decide) (fun h12 => ?_) (fun h12 => ?_)
    ·
      refine pm_aload_n dCh_end_23 rfl ?_
      refine pm_getr dCh_end_24 fCh_10 rfl (rr_0_0 hR) ?_
      refine pm_iload_n dCh_end_27 rfl ?_
      refine pm_puti dCh_end_28 fCh_67 sCh_67 (fun h => by cases h) rfl rfl rfl ?_
      refine pm_iload_n dCh_end_31 rfl ?_
      exact px_iret dCh_end_32 rfl (hF.trans (by first | (simp only [fCh_end, if_neg h1, if_pos h12]; done) | (simp only [fCh_end, if_neg h1, if_pos h12]; rfl) | rfl))
    ·
      refine pm_wk [0, 1] rfl ?_
      exact Ch_end_n15 g ht d ex R hR _ _ _ _   _ _ _ ((hp.2 h1).2 h12) (hF.trans (by first | (simp only [fCh_end, if_neg h1, if_neg h12]; done) | (simp only [fCh_end, if_neg h1, if_neg h12]; rfl) | rfl))
set_option maxHeartbeats 4000000 in
set_option maxRecDepth 100000 in
theorem Ch_end_ok (g : pmG) (ht : g.1.stackTraces = false) (d : Nat) (ex : List (Nat × Nat)) (R : Nat → Nat → Value) (hR : pk_R R)  (x0 : Int32) (I : Nat → Nat → Int32) (J : Nat → Nat → Int64) (hp : pCh_end x0 I J) : pmT g kCh_end (d + 6) [.ref 0, .int x0] (pk_K ++ ex, R, I, J) (px_g (pk_K ++ ex) R (fCh_end x0 I J).1 (some (.int (fCh_end x0 I J).2.1)) (fCh_end x0 I J).2.2 J) :=
  pmC.of (by decide) (Nat.le_of_ble_eq_true rfl) (Ch_end_n0 g ht d ex R hR _ _ _ _  x0 I J hp rfl)
def fCh_holds  (y1 : Int32) (I : Nat → Nat → Int32) (J : Nat → Nat → Int64) : Nat × Int32 :=
  if ((fCh_isSpec y1 I J)) = 0 then (14, 0)
  else (0, (fCm_isSo y1 (I 3 10) I J))
def pCh_holds  (y1 : Int32) (I : Nat → Nat → Int32) (J : Nat → Nat → Int64) : Prop :=
  (pCh_isSpec y1 I J) ∧ ((((fCh_isSpec y1 I J)) = 0 → True) ∧
  (¬ (((fCh_isSpec y1 I J)) = 0) → (pCm_isSo y1 (I 3 10) I J) ∧ (narrow .boolean (.int ((fCm_isSo y1 (I 3 10) I J))) = .int ((fCm_isSo y1 (I 3 10) I J)))))
set_option maxHeartbeats 4000000 in
set_option maxRecDepth 100000 in
theorem Ch_holds_n0 (g : pmG) (ht : g.1.stackTraces = false) (d : Nat) (ex : List (Nat × Nat)) (R : Nat → Nat → Value) (hR : pk_R R) (o : Outcome) (Z : pmM) (rc rs : Nat)  (y1 : Int32) (I : Nat → Nat → Int32) (J : Nat → Nat → Int64) (hp : pCh_holds y1 I J) (hF : (o, Z, rc, rs) = px_g (pk_K ++ ex) R (fCh_holds y1 I J).1 (some (.int (fCh_holds y1 I J).2)) I J) : pmE g kCh_holds (d + 6) rc rs 0 [(0, .ref 0), (1, .int y1)] [] (pk_K ++ ex) R I J o Z := by
  unfold pCh_holds at hp
  refine pm_aload_n dCh_holds_0 rfl ?_
  refine pm_iload_n dCh_holds_1 rfl ?_
  refine pm_callV dCh_holds_2 lCh_97 vCh_isSpec ⟨_, _, rfl⟩ (Ch_isSpec_ok _ _ _ _ hR _ _ _ hp.1) rfl rfl rfl (Nat.le_of_ble_eq_true rfl) (Nat.le_refl _) (Nat.le_refl _) ?_
  refine pm_if_ne 16 dCh_holds_5 (by decide) (fun h5 => ?_) (fun h5 => ?_)
  ·
    refine pm_aload_n dCh_holds_16 rfl ?_
    refine pm_getr dCh_holds_17 fCh_53 rfl (rr_0_5 hR) ?_
    refine pm_iload_n dCh_holds_20 rfl ?_
    refine pm_aload_n dCh_holds_21 rfl ?_
    refine pm_getr dCh_holds_22 fCh_19 rfl (rr_0_1 hR) ?_
    refine pm_geti dCh_holds_25 fCh_104 rfl ?_
    refine pm_callV dCh_holds_28 lCh_107 vCm_isSo ⟨_, _, rfl⟩ (Cm_isSo_ok _ _ _ _ hR _ _ _ _ (hp.2.2 h5).1) rfl rfl rfl (Nat.le_of_ble_eq_true rfl) (Nat.le_refl _) (Nat.le_refl _) ?_
    exact px_zret dCh_holds_31 rfl (hp.2.2 h5).2 (hF.trans (by first | (simp only [fCh_holds, if_neg h5]; done) | (simp only [fCh_holds, if_neg h5]; rfl) | rfl))
  ·
    exact px_new (v2 := some (.int 0)) 14 ht dCh_holds_8 dCh_holds_11 dCh_holds_12 dCh_holds_15 xCh_101_103 (by decide) (by decide +kernel) (Nat.le_of_ble_eq_true rfl) (hF.trans (by first | (simp only [fCh_holds, if_pos h5]; done) | (simp only [fCh_holds, if_pos h5]; rfl) | rfl))
set_option maxHeartbeats 4000000 in
set_option maxRecDepth 100000 in
theorem Ch_holds_ok (g : pmG) (ht : g.1.stackTraces = false) (d : Nat) (ex : List (Nat × Nat)) (R : Nat → Nat → Value) (hR : pk_R R)  (x0 : Int32) (I : Nat → Nat → Int32) (J : Nat → Nat → Int64) (hp : pCh_holds x0 I J) : pmT g kCh_holds (d + 6) [.ref 0, .int x0] (pk_K ++ ex, R, I, J) (px_g (pk_K ++ ex) R (fCh_holds x0 I J).1 (some (.int (fCh_holds x0 I J).2)) I J) :=
  pmC.of (by decide) (Nat.le_of_ble_eq_true rfl) (Ch_holds_n0 g ht d ex R hR _ _ _ _  x0 I J hp rfl)
def fCh_states  (y1 : Int32) (I : Nat → Nat → Int32) (J : Nat → Nat → Int64) : Nat × Int32 :=
  if ((fCh_isSpec y1 I J)) = 0 then (14, 0)
  else (0, (fCm_sizeOf 5 y1 I J))
def pCh_states  (y1 : Int32) (I : Nat → Nat → Int32) (J : Nat → Nat → Int64) : Prop :=
  (pCh_isSpec y1 I J) ∧ ((((fCh_isSpec y1 I J)) = 0 → True) ∧
  (¬ (((fCh_isSpec y1 I J)) = 0) → (pCm_sizeOf 5 y1 I J) ∧ True))
set_option maxHeartbeats 4000000 in
set_option maxRecDepth 100000 in
theorem Ch_states_n0 (g : pmG) (ht : g.1.stackTraces = false) (d : Nat) (ex : List (Nat × Nat)) (R : Nat → Nat → Value) (hR : pk_R R) (o : Outcome) (Z : pmM) (rc rs : Nat)  (y1 : Int32) (I : Nat → Nat → Int32) (J : Nat → Nat → Int64) (hp : pCh_states y1 I J) (hF : (o, Z, rc, rs) = px_g (pk_K ++ ex) R (fCh_states y1 I J).1 (some (.int (fCh_states y1 I J).2)) I J) : pmE g kCh_states (d + 6) rc rs 0 [(0, .ref 0), (1, .int y1)] [] (pk_K ++ ex) R I J o Z := by
  unfold pCh_states at hp
  refine pm_aload_n dCh_states_0 rfl ?_
  refine pm_iload_n dCh_states_1 rfl ?_
  refine pm_callV dCh_states_2 lCh_97 vCh_isSpec ⟨_, _, rfl⟩ (Ch_isSpec_ok _ _ _ _ hR _ _ _ hp.1) rfl rfl rfl (Nat.le_of_ble_eq_true rfl) (Nat.le_refl _) (Nat.le_refl _) ?_
  refine pm_if_ne 16 dCh_states_5 (by decide) (fun h5 => ?_) (fun h5 => ?_)
  ·
    refine pm_aload_n dCh_states_16 rfl ?_
    refine pm_getr dCh_states_17 fCh_53 rfl (rr_0_5 hR) ?_
    refine pm_iload_n dCh_states_20 rfl ?_
    refine pm_callV dCh_states_21 lCh_111 vCm_sizeOf ⟨_, _, rfl⟩ (Cm_sizeOf_ok _ _ _ _ hR _ _ _ _ (hp.2.2 h5).1) rfl rfl rfl (Nat.le_of_ble_eq_true rfl) (Nat.le_refl _) (Nat.le_refl _) ?_
    exact px_iret dCh_states_24 rfl (hF.trans (by first | (simp only [fCh_states, if_neg h5]; done) | (simp only [fCh_states, if_neg h5]; rfl) | rfl))
  ·
    exact px_new (v2 := some (.int 0)) 14 ht dCh_states_8 dCh_states_11 dCh_states_12 dCh_states_15 xCh_101_103 (by decide) (by decide +kernel) (Nat.le_of_ble_eq_true rfl) (hF.trans (by first | (simp only [fCh_states, if_pos h5]; done) | (simp only [fCh_states, if_pos h5]; rfl) | rfl))
set_option maxHeartbeats 4000000 in
set_option maxRecDepth 100000 in
theorem Ch_states_ok (g : pmG) (ht : g.1.stackTraces = false) (d : Nat) (ex : List (Nat × Nat)) (R : Nat → Nat → Value) (hR : pk_R R)  (x0 : Int32) (I : Nat → Nat → Int32) (J : Nat → Nat → Int64) (hp : pCh_states x0 I J) : pmT g kCh_states (d + 6) [.ref 0, .int x0] (pk_K ++ ex, R, I, J) (px_g (pk_K ++ ex) R (fCh_states x0 I J).1 (some (.int (fCh_states x0 I J).2)) I J) :=
  pmC.of (by decide) (Nat.le_of_ble_eq_true rfl) (Ch_states_n0 g ht d ex R hR _ _ _ _  x0 I J hp rfl)
def fCh_at_16  (y1 : Int32) (y2 : Int32) (I : Nat → Nat → Int32) (J : Nat → Nat → Int64) : Nat × Int32 :=
  (14, 0)
def pCh_at_16  (y1 : Int32) (y2 : Int32) (I : Nat → Nat → Int32) (J : Nat → Nat → Int64) : Prop :=
  True
def fCh_at  (y1 : Int32) (y2 : Int32) (I : Nat → Nat → Int32) (J : Nat → Nat → Int64) : Nat × Int32 :=
  if ((fCh_isSpec y1 I J)) = 0 then fCh_at_16 y1 y2 I J
  else if ((fCh_isState y2 I J)) = 0 then fCh_at_16 y1 y2 I J
    else (0, (fCm_isSo y1 y2 I J))
def pCh_at  (y1 : Int32) (y2 : Int32) (I : Nat → Nat → Int32) (J : Nat → Nat → Int64) : Prop :=
  (pCh_isSpec y1 I J) ∧ ((((fCh_isSpec y1 I J)) = 0 → pCh_at_16 y1 y2 I J) ∧
  (¬ (((fCh_isSpec y1 I J)) = 0) → (pCh_isState y2 I J) ∧ ((((fCh_isState y2 I J)) = 0 → pCh_at_16 y1 y2 I J) ∧
    (¬ (((fCh_isState y2 I J)) = 0) → (pCm_isSo y1 y2 I J) ∧ (narrow .boolean (.int ((fCm_isSo y1 y2 I J))) = .int ((fCm_isSo y1 y2 I J)))))))
set_option maxHeartbeats 4000000 in
set_option maxRecDepth 100000 in
theorem Ch_at_n16 (g : pmG) (ht : g.1.stackTraces = false) (d : Nat) (ex : List (Nat × Nat)) (R : Nat → Nat → Value) (hR : pk_R R) (o : Outcome) (Z : pmM) (rc rs : Nat)  (y1 : Int32) (y2 : Int32) (I : Nat → Nat → Int32) (J : Nat → Nat → Int64) (hp : pCh_at_16 y1 y2 I J) (hF : (o, Z, rc, rs) = px_g (pk_K ++ ex) R (fCh_at_16 y1 y2 I J).1 (some (.int (fCh_at_16 y1 y2 I J).2)) I J) : pmE g kCh_at (d + 6) rc rs 16 [(0, .ref 0), (1, .int y1), (2, .int y2)] [] (pk_K ++ ex) R I J o Z := by
  unfold pCh_at_16 at hp
  exact px_new (v2 := some (.int 0)) 14 ht dCh_at_16 dCh_at_19 dCh_at_20 dCh_at_23 xCh_101_103 (by decide) (by decide +kernel) (Nat.le_of_ble_eq_true rfl) (hF.trans (by first | (simp only [fCh_at_16]; done) | (simp only [fCh_at_16]; rfl) | rfl))
set_option maxHeartbeats 4000000 in
set_option maxRecDepth 100000 in
theorem Ch_at_n0 (g : pmG) (ht : g.1.stackTraces = false) (d : Nat) (ex : List (Nat × Nat)) (R : Nat → Nat → Value) (hR : pk_R R) (o : Outcome) (Z : pmM) (rc rs : Nat)  (y1 : Int32) (y2 : Int32) (I : Nat → Nat → Int32) (J : Nat → Nat → Int64) (hp : pCh_at y1 y2 I J) (hF : (o, Z, rc, rs) = px_g (pk_K ++ ex) R (fCh_at y1 y2 I J).1 (some (.int (fCh_at y1 y2 I J).2)) I J) : pmE g kCh_at (d + 6) rc rs 0 [(0, .ref 0), (1, .int y1), (2, .int y2)] [] (pk_K ++ ex) R I J o Z := by
  unfold pCh_at at hp
  refine pm_aload_n dCh_at_0 rfl ?_
  refine pm_iload_n dCh_at_1 rfl ?_
  refine pm_callV dCh_at_2 lCh_97 vCh_isSpec ⟨_, _, rfl⟩ (Ch_isSpec_ok _ _ _ _ hR _ _ _ hp.1) rfl rfl rfl (Nat.le_of_ble_eq_true rfl) (Nat.le_refl _) (Nat.le_refl _) ?_
  refine pm_if_eq 16 dCh_at_5 (by decide) (fun h5 => ?_) (fun h5 => ?_)
  ·
    refine pm_wk [0, 1, 2] rfl ?_
    exact Ch_at_n16 g ht d ex R hR _ _ _ _   _ _ _ _ (hp.2.1 h5) (hF.trans (by first | (simp only [fCh_at, if_pos h5]; done) | (simp only [fCh_at, if_pos h5]; rfl) | rfl))
  ·
    refine pm_aload_n dCh_at_8 rfl ?_
    refine pm_iload_n dCh_at_9 rfl ?_
    refine pm_callV dCh_at_10 lCh_115 vCh_isState ⟨_, _, rfl⟩ (Ch_isState_ok _ _ _ _ hR _ _ _ (hp.2.2 h5).1) rfl rfl rfl (Nat.le_of_ble_eq_true rfl) (Nat.le_refl _) (Nat.le_refl _) ?_
    refine pm_if_ne 24 dCh_at_13 (by decide) (fun h13 => ?_) (fun h13 => ?_)
    ·
      refine pm_aload_n dCh_at_24 rfl ?_
      refine pm_getr dCh_at_25 fCh_53 rfl (rr_0_5 hR) ?_
      refine pm_iload_n dCh_at_28 rfl ?_
      refine pm_iload_n dCh_at_29 rfl ?_
      refine pm_callV dCh_at_30 lCh_107 vCm_isSo ⟨_, _, rfl⟩ (Cm_isSo_ok _ _ _ _ hR _ _ _ _ ((hp.2.2 h5).2.2 h13).1) rfl rfl rfl (Nat.le_of_ble_eq_true rfl) (Nat.le_refl _) (Nat.le_refl _) ?_
      exact px_zret dCh_at_33 rfl ((hp.2.2 h5).2.2 h13).2 (hF.trans (by first | (simp only [fCh_at, if_neg h5, if_neg h13]; done) | (simp only [fCh_at, if_neg h5, if_neg h13]; rfl) | rfl))
    ·
      refine pm_wk [0, 1, 2] rfl ?_
      exact Ch_at_n16 g ht d ex R hR _ _ _ _   _ _ _ _ ((hp.2.2 h5).2.1 h13) (hF.trans (by first | (simp only [fCh_at, if_neg h5, if_pos h13]; done) | (simp only [fCh_at, if_neg h5, if_pos h13]; rfl) | rfl))
set_option maxHeartbeats 4000000 in
set_option maxRecDepth 100000 in
theorem Ch_at_ok (g : pmG) (ht : g.1.stackTraces = false) (d : Nat) (ex : List (Nat × Nat)) (R : Nat → Nat → Value) (hR : pk_R R)  (x0 : Int32) (x1 : Int32) (I : Nat → Nat → Int32) (J : Nat → Nat → Int64) (hp : pCh_at x0 x1 I J) : pmT g kCh_at (d + 6) [.ref 0, .int x0, .int x1] (pk_K ++ ex, R, I, J) (px_g (pk_K ++ ex) R (fCh_at x0 x1 I J).1 (some (.int (fCh_at x0 x1 I J).2)) I J) :=
  pmC.of (by decide) (Nat.le_of_ble_eq_true rfl) (Ch_at_n0 g ht d ex R hR _ _ _ _  x0 x1 I J hp rfl)
def fCh_trace_40  (y1 : Int32) (y2 : Int32) (I : Nat → Nat → Int32) (J : Nat → Nat → Int64) : Nat × Int32 × (Nat → Nat → Int32) :=
  (0, I 37 2, I)
def pCh_trace_40  (y1 : Int32) (y2 : Int32) (I : Nat → Nat → Int32) (J : Nat → Nat → Int64) : Prop :=
  True
def fCh_trace  (y1 : Int32) (I : Nat → Nat → Int32) (J : Nat → Nat → Int64) : Nat × Int32 × (Nat → Nat → Int32) :=
  if ((fCh_isSpec y1 I J)) = 0 then (14, 0, I)
  else if 0 ≤ ((fCh_firstMet 257 y1 I J)) then fCh_trace_40 y1 ((fCh_firstMet 257 y1 I J)) ((fTr_lead 257 ((fCh_firstMet 257 y1 I J)) I J)) J
    else (0, (-1 : Int32), I)
def pCh_trace  (y1 : Int32) (I : Nat → Nat → Int32) (J : Nat → Nat → Int64) : Prop :=
  (pCh_isSpec y1 I J) ∧ ((((fCh_isSpec y1 I J)) = 0 → True) ∧
  (¬ (((fCh_isSpec y1 I J)) = 0) → (pCh_firstMet 257 y1 I J) ∧ ((0 ≤ ((fCh_firstMet 257 y1 I J)) → (pTr_lead 257 ((fCh_firstMet 257 y1 I J)) I J) ∧ (pCh_trace_40 y1 ((fCh_firstMet 257 y1 I J)) ((fTr_lead 257 ((fCh_firstMet 257 y1 I J)) I J)) J)) ∧
    (¬ (0 ≤ ((fCh_firstMet 257 y1 I J))) → True))))
set_option maxHeartbeats 4000000 in
set_option maxRecDepth 100000 in
theorem Ch_trace_n40 (g : pmG) (ht : g.1.stackTraces = false) (d : Nat) (ex : List (Nat × Nat)) (R : Nat → Nat → Value) (hR : pk_R R) (o : Outcome) (Z : pmM) (rc rs : Nat)  (y1 : Int32) (y2 : Int32) (I : Nat → Nat → Int32) (J : Nat → Nat → Int64) (hp : pCh_trace_40 y1 y2 I J) (hF : (o, Z, rc, rs) = px_g (pk_K ++ ex) R (fCh_trace_40 y1 y2 I J).1 (some (.int (fCh_trace_40 y1 y2 I J).2.1)) (fCh_trace_40 y1 y2 I J).2.2 J) : pmE g kCh_trace (d + 6) rc rs 40 [(0, .ref 0), (1, .int y1), (2, .int y2)] [] (pk_K ++ ex) R I J o Z := by
  unfold pCh_trace_40 at hp
  refine pm_aload_n dCh_trace_40 rfl ?_
  refine pm_getr dCh_trace_41 fCh_60 rfl (rr_0_6 hR) ?_
  refine pm_geti dCh_trace_44 fCh_128 rfl ?_
  exact px_iret dCh_trace_47 rfl (hF.trans (by first | (simp only [fCh_trace_40]; done) | (simp only [fCh_trace_40]; rfl) | rfl))
set_option maxHeartbeats 4000000 in
set_option maxRecDepth 100000 in
theorem Ch_trace_n0 (g : pmG) (ht : g.1.stackTraces = false) (d : Nat) (ex : List (Nat × Nat)) (R : Nat → Nat → Value) (hR : pk_R R) (o : Outcome) (Z : pmM) (rc rs : Nat)  (y1 : Int32) (I : Nat → Nat → Int32) (J : Nat → Nat → Int64) (hp : pCh_trace y1 I J) (hF : (o, Z, rc, rs) = px_g (pk_K ++ ex) R (fCh_trace y1 I J).1 (some (.int (fCh_trace y1 I J).2.1)) (fCh_trace y1 I J).2.2 J) : pmE g kCh_trace (d + 6) rc rs 0 [(0, .ref 0), (1, .int y1)] [] (pk_K ++ ex) R I J o Z := by
  unfold pCh_trace at hp
  refine pm_aload_n dCh_trace_0 rfl ?_
  refine pm_iload_n dCh_trace_1 rfl ?_
  refine pm_callV dCh_trace_2 lCh_97 vCh_isSpec ⟨_, _, rfl⟩ (Ch_isSpec_ok _ _ _ _ hR _ _ _ hp.1) rfl rfl rfl (Nat.le_of_ble_eq_true rfl) (Nat.le_refl _) (Nat.le_refl _) ?_
  refine pm_if_ne 16 dCh_trace_5 (by decide) (fun h5 => ?_) (fun h5 => ?_)
  ·
    refine pm_aload_n dCh_trace_16 rfl ?_
    refine pm_iload_n dCh_trace_17 rfl ?_
    refine pm_callV dCh_trace_18 lCh_121 vCh_firstMet ⟨_, _, rfl⟩ (Ch_firstMet_ok _ _ _ _ hR _ _ _ _ (hp.2.2 h5).1) rfl rfl rfl (Nat.le_of_ble_eq_true rfl) (Nat.le_refl _) (Nat.le_refl _) ?_
    refine pm_istore_n dCh_trace_21 (by decide) rfl ?_
    refine pm_iload_n dCh_trace_22 rfl ?_
    refine pm_if_ge 28 dCh_trace_23 (by decide) (fun h23 => ?_) (fun h23 => ?_)
    ·
      refine pm_aload_n dCh_trace_28 rfl ?_
      refine pm_getr dCh_trace_29 fCh_60 rfl (rr_0_6 hR) ?_
      refine pm_aload_n dCh_trace_32 rfl ?_
      refine pm_getr dCh_trace_33 fCh_44 rfl (rr_0_4 hR) ?_
      refine pm_iload_n dCh_trace_36 rfl ?_
      refine pm_callV dCh_trace_37 lCh_124 vTr_lead ⟨_, _, rfl⟩ (Tr_lead_ok _ _ _ _ hR _ _ _ _ ((hp.2.2 h5).2.1 h23).1) rfl rfl rfl (Nat.le_of_ble_eq_true rfl) (Nat.le_refl _) (Nat.le_refl _) ?_
      refine pm_wk [1, 2, 0] rfl ?_
      exact Ch_trace_n40 g ht d ex R hR _ _ _ _   _ _ _ _ ((hp.2.2 h5).2.1 h23).2 (hF.trans (by first | (simp only [fCh_trace, if_neg h5, if_pos h23]; done) | (simp only [fCh_trace, if_neg h5, if_pos h23]; rfl) | rfl))
    ·
      refine pm_iconst (v := (-1)) dCh_trace_26 (by decide) ?_
      exact px_iret dCh_trace_27 rfl (hF.trans (by first | (simp only [fCh_trace, if_neg h5, if_neg h23]; done) | (simp only [fCh_trace, if_neg h5, if_neg h23]; rfl) | rfl))
  ·
    exact px_new (v2 := some (.int 0)) 14 ht dCh_trace_8 dCh_trace_11 dCh_trace_12 dCh_trace_15 xCh_101_103 (by decide) (by decide +kernel) (Nat.le_of_ble_eq_true rfl) (hF.trans (by first | (simp only [fCh_trace, if_pos h5]; done) | (simp only [fCh_trace, if_pos h5]; rfl) | rfl))
set_option maxHeartbeats 4000000 in
set_option maxRecDepth 100000 in
theorem Ch_trace_ok (g : pmG) (ht : g.1.stackTraces = false) (d : Nat) (ex : List (Nat × Nat)) (R : Nat → Nat → Value) (hR : pk_R R)  (x0 : Int32) (I : Nat → Nat → Int32) (J : Nat → Nat → Int64) (hp : pCh_trace x0 I J) : pmT g kCh_trace (d + 6) [.ref 0, .int x0] (pk_K ++ ex, R, I, J) (px_g (pk_K ++ ex) R (fCh_trace x0 I J).1 (some (.int (fCh_trace x0 I J).2.1)) (fCh_trace x0 I J).2.2 J) :=
  pmC.of (by decide) (Nat.le_of_ble_eq_true rfl) (Ch_trace_n0 g ht d ex R hR _ _ _ _  x0 I J hp rfl)
def fCh_step_51  (y1 : Int32) (y2 : Int32) (y3 : Int32) (I : Nat → Nat → Int32) (J : Nat → Nat → Int64) : Nat × Int32 :=
  (14, 0)
def pCh_step_51  (y1 : Int32) (y2 : Int32) (y3 : Int32) (I : Nat → Nat → Int32) (J : Nat → Nat → Int64) : Prop :=
  True
def fCh_step_76  (y1 : Int32) (y2 : Int32) (y3 : Int32) (I : Nat → Nat → Int32) (J : Nat → Nat → Int64) : Nat × Int32 :=
  if y2 = 0 then (0, I 38 y1.toNatClampNeg)
  else (0, I 39 y1.toNatClampNeg)
def pCh_step_76  (y1 : Int32) (y2 : Int32) (y3 : Int32) (I : Nat → Nat → Int32) (J : Nat → Nat → Int64) : Prop :=
  (y2 = 0 → (vp_in y1 256) ∧ True) ∧
  (¬ (y2 = 0) → (vp_in y1 256) ∧ True)
def fCh_step_21  (y1 : Int32) (y2 : Int32) (z0 : Int32) (I : Nat → Nat → Int32) (J : Nat → Nat → Int64) : Nat × Int32 :=
  if (I 37 3) = 0 then fCh_step_51 y1 y2 z0 I J
  else if y1 < 0 then fCh_step_51 y1 y2 z0 I J
    else if (I 37 2) < y1 then fCh_step_51 y1 y2 z0 I J
      else if z0 = 0 then if y2 = 0 then fCh_step_76 y1 y2 z0 I J
          else if y2 = (1 : Int32) then fCh_step_76 y1 y2 z0 I J
            else (13, 0)
        else fCh_step_51 y1 y2 z0 I J
def pCh_step_21  (y1 : Int32) (y2 : Int32) (z0 : Int32) (I : Nat → Nat → Int32) (J : Nat → Nat → Int64) : Prop :=
  ((I 37 3) = 0 → pCh_step_51 y1 y2 z0 I J) ∧
  (¬ ((I 37 3) = 0) → (y1 < 0 → pCh_step_51 y1 y2 z0 I J) ∧
    (¬ (y1 < 0) → ((I 37 2) < y1 → pCh_step_51 y1 y2 z0 I J) ∧
      (¬ ((I 37 2) < y1) → (z0 = 0 → (y2 = 0 → pCh_step_76 y1 y2 z0 I J) ∧
          (¬ (y2 = 0) → (y2 = (1 : Int32) → pCh_step_76 y1 y2 z0 I J) ∧
            (¬ (y2 = (1 : Int32)) → True))) ∧
        (¬ (z0 = 0) → pCh_step_51 y1 y2 z0 I J))))
def fCh_step_20  (y1 : Int32) (y2 : Int32) (I : Nat → Nat → Int32) (J : Nat → Nat → Int64) : Nat × Int32 :=
  fCh_step_21 y1 y2 (0 : Int32) I J
def pCh_step_20  (y1 : Int32) (y2 : Int32) (I : Nat → Nat → Int32) (J : Nat → Nat → Int64) : Prop :=
  pCh_step_21 y1 y2 (0 : Int32) I J
def fCh_step  (y1 : Int32) (y2 : Int32) (I : Nat → Nat → Int32) (J : Nat → Nat → Int64) : Nat × Int32 :=
  if y2 = (1 : Int32) then if y1 = (I 37 2) then fCh_step_21 y1 y2 (1 : Int32) I J
    else fCh_step_20 y1 y2 I J
  else fCh_step_20 y1 y2 I J
def pCh_step  (y1 : Int32) (y2 : Int32) (I : Nat → Nat → Int32) (J : Nat → Nat → Int64) : Prop :=
  (y2 = (1 : Int32) → (y1 = (I 37 2) → pCh_step_21 y1 y2 (1 : Int32) I J) ∧
    (¬ (y1 = (I 37 2)) → pCh_step_20 y1 y2 I J)) ∧
  (¬ (y2 = (1 : Int32)) → pCh_step_20 y1 y2 I J)
set_option maxHeartbeats 4000000 in
set_option maxRecDepth 100000 in
theorem Ch_step_n51 (g : pmG) (ht : g.1.stackTraces = false) (d : Nat) (ex : List (Nat × Nat)) (R : Nat → Nat → Value) (hR : pk_R R) (o : Outcome) (Z : pmM) (rc rs : Nat)  (y1 : Int32) (y2 : Int32) (y3 : Int32) (I : Nat → Nat → Int32) (J : Nat → Nat → Int64) (hp : pCh_step_51 y1 y2 y3 I J) (hF : (o, Z, rc, rs) = px_g (pk_K ++ ex) R (fCh_step_51 y1 y2 y3 I J).1 (some (.int (fCh_step_51 y1 y2 y3 I J).2)) I J) : pmE g kCh_step (d + 6) rc rs 51 [(0, .ref 0), (1, .int y1), (2, .int y2), (3, .int y3)] [] (pk_K ++ ex) R I J o Z := by
  unfold pCh_step_51 at hp
  exact px_new (v2 := some (.int 0)) 14 ht dCh_step_51 dCh_step_54 dCh_step_55 dCh_step_58 xCh_101_103 (by decide) (by decide +kernel) (Nat.le_of_ble_eq_true rfl) (hF.trans (by first | (simp only [fCh_step_51]; done) | (simp only [fCh_step_51]; rfl) | rfl))
set_option maxHeartbeats 4000000 in
set_option maxRecDepth 100000 in
theorem Ch_step_n76 (g : pmG) (ht : g.1.stackTraces = false) (d : Nat) (ex : List (Nat × Nat)) (R : Nat → Nat → Value) (hR : pk_R R) (o : Outcome) (Z : pmM) (rc rs : Nat)  (y1 : Int32) (y2 : Int32) (y3 : Int32) (I : Nat → Nat → Int32) (J : Nat → Nat → Int64) (hp : pCh_step_76 y1 y2 y3 I J) (hF : (o, Z, rc, rs) = px_g (pk_K ++ ex) R (fCh_step_76 y1 y2 y3 I J).1 (some (.int (fCh_step_76 y1 y2 y3 I J).2)) I J) : pmE g kCh_step (d + 6) rc rs 76 [(0, .ref 0), (1, .int y1), (2, .int y2), (3, .int y3)] [] (pk_K ++ ex) R I J o Z := by
  unfold pCh_step_76 at hp
  refine pm_iload_n dCh_step_76 rfl ?_
  refine pm_if_ne 92 dCh_step_77 (by decide) (fun h77 => ?_) (fun h77 => ?_)
  ·
    refine pm_aload_n dCh_step_92 rfl ?_
    refine pm_getr dCh_step_93 fCh_60 rfl (rr_0_6 hR) ?_
    refine pm_getr dCh_step_96 fCh_137 rfl (rr_37_1 hR) ?_
    refine pm_iload_n dCh_step_99 rfl ?_
    refine pm_iald dCh_step_100 rfl (hp.2 h77).1 ?_
    exact px_iret dCh_step_101 rfl (hF.trans (by first | (simp only [fCh_step_76, if_neg h77]; done) | (simp only [fCh_step_76, if_neg h77]; rfl) | rfl))
  ·
    refine pm_aload_n dCh_step_80 rfl ?_
    refine pm_getr dCh_step_81 fCh_60 rfl (rr_0_6 hR) ?_
    refine pm_getr dCh_step_84 fCh_133 rfl (rr_37_0 hR) ?_
    refine pm_iload_n dCh_step_87 rfl ?_
    refine pm_iald dCh_step_88 rfl (hp.1 h77).1 ?_
    refine pm_goto 101 dCh_step_89 (by decide) ?_
    exact px_iret dCh_step_101 rfl (hF.trans (by first | (simp only [fCh_step_76, if_pos h77]; done) | (simp only [fCh_step_76, if_pos h77]; rfl) | rfl))
set_option maxHeartbeats 4000000 in
set_option maxRecDepth 100000 in
theorem Ch_step_n21 (g : pmG) (ht : g.1.stackTraces = false) (d : Nat) (ex : List (Nat × Nat)) (R : Nat → Nat → Value) (hR : pk_R R) (o : Outcome) (Z : pmM) (rc rs : Nat)  (y1 : Int32) (y2 : Int32) (z0 : Int32) (I : Nat → Nat → Int32) (J : Nat → Nat → Int64) (hp : pCh_step_21 y1 y2 z0 I J) (hF : (o, Z, rc, rs) = px_g (pk_K ++ ex) R (fCh_step_21 y1 y2 z0 I J).1 (some (.int (fCh_step_21 y1 y2 z0 I J).2)) I J) : pmE g kCh_step (d + 6) rc rs 21 [(0, .ref 0), (1, .int y1), (2, .int y2)] [.int z0] (pk_K ++ ex) R I J o Z := by
  unfold pCh_step_21 at hp
  refine pm_istore_n dCh_step_21 (by decide) rfl ?_
  refine pm_aload_n dCh_step_22 rfl ?_
  refine pm_getr dCh_step_23 fCh_60 rfl (rr_0_6 hR) ?_
  refine pm_geti dCh_step_26 fCh_129 rfl ?_
  refine pm_if_eq 51 dCh_step_29 (by decide) (fun h29 => ?_) (fun h29 => ?_)
  ·
    refine pm_wk [1, 2, 3, 0] rfl ?_
    exact Ch_step_n51 g ht d ex R hR _ _ _ _   _ _ _ _ _ (hp.1 h29) (hF.trans (by first | (simp only [fCh_step_21, if_pos h29]; done) | (simp only [fCh_step_21, if_pos h29]; rfl) | rfl))
  ·
    refine pm_iload_n dCh_step_32 rfl ?_
    refine pm_if_lt 51 dCh_step_33 (by decide) (fun h33 => ?_) (fun h33 => ?_)
    ·
      refine pm_wk [1, 2, 3, 0] rfl ?_
      exact Ch_step_n51 g ht d ex R hR _ _ _ _   _ _ _ _ _ ((hp.2 h29).1 h33) (hF.trans (by first | (simp only [fCh_step_21, if_neg h29, if_pos h33]; done) | (simp only [fCh_step_21, if_neg h29, if_pos h33]; rfl) | rfl))
    ·
      refine pm_iload_n dCh_step_36 rfl ?_
      refine pm_aload_n dCh_step_37 rfl ?_
      refine pm_getr dCh_step_38 fCh_60 rfl (rr_0_6 hR) ?_
      refine pm_geti dCh_step_41 fCh_128 rfl ?_
      refine pm_icmp_gt 51 dCh_step_44 (by decide) (fun h44 => ?_) (fun h44 => ?_)
      ·
        refine pm_wk [1, 2, 3, 0] rfl ?_
        exact Ch_step_n51 g ht d ex R hR _ _ _ _   _ _ _ _ _ (((hp.2 h29).2 h33).1 h44) (hF.trans (by first | (simp only [fCh_step_21, if_neg h29, if_neg h33, if_pos h44]; done) | (simp only [fCh_step_21, if_neg h29, if_neg h33, if_pos h44]; rfl) | rfl))
      ·
        refine pm_iload_n dCh_step_47 rfl ?_
        refine pm_if_eq 59 dCh_step_48 (by decide) (fun h48 => ?_) (fun h48 => ?_)
        ·
          refine pm_iload_n dCh_step_59 rfl ?_
          refine pm_if_eq 76 dCh_step_60 (by decide) (fun h60 => ?_) (fun h60 => ?_)
          ·
            refine pm_wk [1, 2, 3, 0] rfl ?_
            exact Ch_step_n76 g ht d ex R hR _ _ _ _   _ _ _ _ _ (((((hp.2 h29).2 h33).2 h44).1 h48).1 h60) (hF.trans (by first | (simp only [fCh_step_21, if_neg h29, if_neg h33, if_neg h44, if_pos h48, if_pos h60]; done) | (simp only [fCh_step_21, if_neg h29, if_neg h33, if_neg h44, if_pos h48, if_pos h60]; rfl) | rfl))
          ·
            refine pm_iload_n dCh_step_63 rfl ?_
            refine pm_iconst (v := 1) dCh_step_64 (by decide) ?_
            refine pm_icmp_eq 76 dCh_step_65 (by decide) (fun h65 => ?_) (fun h65 => ?_)
            ·
              refine pm_wk [1, 2, 3, 0] rfl ?_
              exact Ch_step_n76 g ht d ex R hR _ _ _ _   _ _ _ _ _ ((((((hp.2 h29).2 h33).2 h44).1 h48).2 h60).1 h65) (hF.trans (by first | (simp only [fCh_step_21, if_neg h29, if_neg h33, if_neg h44, if_pos h48, if_neg h60, if_pos h65]; done) | (simp only [fCh_step_21, if_neg h29, if_neg h33, if_neg h44, if_pos h48, if_neg h60, if_pos h65]; rfl) | rfl))
            ·
              exact px_new (v2 := some (.int 0)) 13 ht dCh_step_68 dCh_step_71 dCh_step_72 dCh_step_75 xCh_79_81 (by decide) (by decide +kernel) (Nat.le_of_ble_eq_true rfl) (hF.trans (by first | (simp only [fCh_step_21, if_neg h29, if_neg h33, if_neg h44, if_pos h48, if_neg h60, if_neg h65]; done) | (simp only [fCh_step_21, if_neg h29, if_neg h33, if_neg h44, if_pos h48, if_neg h60, if_neg h65]; rfl) | rfl))
        ·
          refine pm_wk [1, 2, 3, 0] rfl ?_
          exact Ch_step_n51 g ht d ex R hR _ _ _ _   _ _ _ _ _ ((((hp.2 h29).2 h33).2 h44).2 h48) (hF.trans (by first | (simp only [fCh_step_21, if_neg h29, if_neg h33, if_neg h44, if_neg h48]; done) | (simp only [fCh_step_21, if_neg h29, if_neg h33, if_neg h44, if_neg h48]; rfl) | rfl))
set_option maxHeartbeats 4000000 in
set_option maxRecDepth 100000 in
theorem Ch_step_n20 (g : pmG) (ht : g.1.stackTraces = false) (d : Nat) (ex : List (Nat × Nat)) (R : Nat → Nat → Value) (hR : pk_R R) (o : Outcome) (Z : pmM) (rc rs : Nat)  (y1 : Int32) (y2 : Int32) (I : Nat → Nat → Int32) (J : Nat → Nat → Int64) (hp : pCh_step_20 y1 y2 I J) (hF : (o, Z, rc, rs) = px_g (pk_K ++ ex) R (fCh_step_20 y1 y2 I J).1 (some (.int (fCh_step_20 y1 y2 I J).2)) I J) : pmE g kCh_step (d + 6) rc rs 20 [(0, .ref 0), (1, .int y1), (2, .int y2)] [] (pk_K ++ ex) R I J o Z := by
  unfold pCh_step_20 at hp
  refine pm_iconst (v := 0) dCh_step_20 (by decide) ?_
  refine pm_wk [0, 1, 2] rfl ?_
  exact Ch_step_n21 g ht d ex R hR _ _ _ _   _ _ _ _ _ hp (hF.trans (by first | rfl | (simp only [fCh_step_20]; done) | (simp only [fCh_step_20]; rfl)))
set_option maxHeartbeats 4000000 in
set_option maxRecDepth 100000 in
theorem Ch_step_n0 (g : pmG) (ht : g.1.stackTraces = false) (d : Nat) (ex : List (Nat × Nat)) (R : Nat → Nat → Value) (hR : pk_R R) (o : Outcome) (Z : pmM) (rc rs : Nat)  (y1 : Int32) (y2 : Int32) (I : Nat → Nat → Int32) (J : Nat → Nat → Int64) (hp : pCh_step y1 y2 I J) (hF : (o, Z, rc, rs) = px_g (pk_K ++ ex) R (fCh_step y1 y2 I J).1 (some (.int (fCh_step y1 y2 I J).2)) I J) : pmE g kCh_step (d + 6) rc rs 0 [(0, .ref 0), (1, .int y1), (2, .int y2)] [] (pk_K ++ ex) R I J o Z := by
  unfold pCh_step at hp
  refine pm_iload_n dCh_step_0 rfl ?_
  refine pm_iconst (v := 1) dCh_step_1 (by decide) ?_
  refine pm_icmp_ne 20 dCh_step_2 (by decide) (fun h2 => ?_) (fun h2 => ?_)
  ·
    refine pm_wk [0, 1, 2] rfl ?_
    exact Ch_step_n20 g ht d ex R hR _ _ _ _   _ _ _ _ (hp.2 h2) (hF.trans (by first | (simp only [fCh_step, if_neg h2]; done) | (simp only [fCh_step, if_neg h2]; rfl) | rfl))
  ·
    refine pm_iload_n dCh_step_5 rfl ?_
    refine pm_aload_n dCh_step_6 rfl ?_
    refine pm_getr dCh_step_7 fCh_60 rfl (rr_0_6 hR) ?_
    refine pm_geti dCh_step_10 fCh_128 rfl ?_
    refine pm_icmp_ne 20 dCh_step_13 (by decide) (fun h13 => ?_) (fun h13 => ?_)
    ·
      refine pm_wk [0, 1, 2] rfl ?_
      exact Ch_step_n20 g ht d ex R hR _ _ _ _   _ _ _ _ ((hp.1 h2).2 h13) (hF.trans (by first | (simp only [fCh_step, if_pos h2, if_neg h13]; done) | (simp only [fCh_step, if_pos h2, if_neg h13]; rfl) | rfl))
    ·
      refine pm_iconst (v := 1) dCh_step_16 (by decide) ?_
      refine pm_goto 21 dCh_step_17 (by decide) ?_
      refine pm_wk [0, 1, 2] rfl ?_
      exact Ch_step_n21 g ht d ex R hR _ _ _ _   _ _ _ _ _ ((hp.1 h2).1 h13) (hF.trans (by first | (simp only [fCh_step, if_pos h2, if_pos h13]; done) | (simp only [fCh_step, if_pos h2, if_pos h13]; rfl) | rfl))
set_option maxHeartbeats 4000000 in
set_option maxRecDepth 100000 in
theorem Ch_step_ok (g : pmG) (ht : g.1.stackTraces = false) (d : Nat) (ex : List (Nat × Nat)) (R : Nat → Nat → Value) (hR : pk_R R)  (x0 : Int32) (x1 : Int32) (I : Nat → Nat → Int32) (J : Nat → Nat → Int64) (hp : pCh_step x0 x1 I J) : pmT g kCh_step (d + 6) [.ref 0, .int x0, .int x1] (pk_K ++ ex, R, I, J) (px_g (pk_K ++ ex) R (fCh_step x0 x1 I J).1 (some (.int (fCh_step x0 x1 I J).2)) I J) :=
  pmC.of (by decide) (Nat.le_of_ble_eq_true rfl) (Ch_step_n0 g ht d ex R hR _ _ _ _  x0 x1 I J hp rfl)
def fCh_tick  (y1 : Int32) (I : Nat → Nat → Int32) (J : Nat → Nat → Int64) : Nat × Int32 × (Nat → Nat → Int32) :=
  if ((fCh_areInputs y1 I J)) = 0 then (13, 0, I)
  else (0, I 26 ((fSt_caseOf (I 0 7) y1 I J)).toNatClampNeg, pm_u I 0 7 (I 26 ((fSt_caseOf (I 0 7) y1 I J)).toNatClampNeg))
def pCh_tick  (y1 : Int32) (I : Nat → Nat → Int32) (J : Nat → Nat → Int64) : Prop :=
  (pCh_areInputs y1 I J) ∧ ((((fCh_areInputs y1 I J)) = 0 → True) ∧
  (¬ (((fCh_areInputs y1 I J)) = 0) → (pSt_caseOf (I 0 7) y1 I J) ∧ ((vp_in ((fSt_caseOf (I 0 7) y1 I J)) 2048) ∧ True)))
set_option maxHeartbeats 4000000 in
set_option maxRecDepth 100000 in
theorem Ch_tick_n0 (g : pmG) (ht : g.1.stackTraces = false) (d : Nat) (ex : List (Nat × Nat)) (R : Nat → Nat → Value) (hR : pk_R R) (o : Outcome) (Z : pmM) (rc rs : Nat)  (y1 : Int32) (I : Nat → Nat → Int32) (J : Nat → Nat → Int64) (hp : pCh_tick y1 I J) (hF : (o, Z, rc, rs) = px_g (pk_K ++ ex) R (fCh_tick y1 I J).1 (some (.int (fCh_tick y1 I J).2.1)) (fCh_tick y1 I J).2.2 J) : pmE g kCh_tick (d + 6) rc rs 0 [(0, .ref 0), (1, .int y1)] [] (pk_K ++ ex) R I J o Z := by
  unfold pCh_tick at hp
  refine pm_aload_n dCh_tick_0 rfl ?_
  refine pm_iload_n dCh_tick_1 rfl ?_
  refine pm_callV dCh_tick_2 lCh_140 vCh_areInputs ⟨_, _, rfl⟩ (Ch_areInputs_ok _ _ _ _ hR _ _ _ hp.1) rfl rfl rfl (Nat.le_of_ble_eq_true rfl) (Nat.le_refl _) (Nat.le_refl _) ?_
  refine pm_if_ne 16 dCh_tick_5 (by decide) (fun h5 => ?_) (fun h5 => ?_)
  ·
    refine pm_aload_n dCh_tick_16 rfl ?_
    refine pm_aload_n dCh_tick_17 rfl ?_
    refine pm_getr dCh_tick_18 fCh_44 rfl (rr_0_4 hR) ?_
    refine pm_getr dCh_tick_21 fCh_143 rfl (rr_25_4 hR) ?_
    refine pm_aload_n dCh_tick_24 rfl ?_
    refine pm_getr dCh_tick_25 fCh_44 rfl (rr_0_4 hR) ?_
    refine pm_aload_n dCh_tick_28 rfl ?_
    refine pm_geti dCh_tick_29 fCh_146 rfl ?_
    refine pm_iload_n dCh_tick_32 rfl ?_
    refine pm_callV dCh_tick_33 lCh_148 vSt_caseOf ⟨_, _, rfl⟩ (St_caseOf_ok _ _ _ _ hR _ _ _ _ (hp.2.2 h5).1) rfl rfl rfl (Nat.le_of_ble_eq_true rfl) (Nat.le_refl _) (Nat.le_refl _) ?_
    refine pm_iald dCh_tick_36 rfl (hp.2.2 h5).2.1 ?_
    refine pm_puti dCh_tick_37 fCh_146 sCh_146 (fun h => by cases h) rfl rfl rfl ?_
    refine pm_aload_n dCh_tick_40 rfl ?_
    refine pm_geti dCh_tick_41 fCh_146 rfl ?_
    refine pm_eqi (I 26 ((fSt_caseOf (I 0 7) y1 I J)).toNatClampNeg) rfl ?_
    exact px_iret dCh_tick_44 rfl (hF.trans (by first | (simp only [fCh_tick, if_neg h5]; done) | (simp only [fCh_tick, if_neg h5]; rfl) | rfl))
  ·
    exact px_new (v2 := some (.int 0)) 13 ht dCh_tick_8 dCh_tick_11 dCh_tick_12 dCh_tick_15 xCh_79_81 (by decide) (by decide +kernel) (Nat.le_of_ble_eq_true rfl) (hF.trans (by first | (simp only [fCh_tick, if_pos h5]; done) | (simp only [fCh_tick, if_pos h5]; rfl) | rfl))
set_option maxHeartbeats 4000000 in
set_option maxRecDepth 100000 in
theorem Ch_tick_ok (g : pmG) (ht : g.1.stackTraces = false) (d : Nat) (ex : List (Nat × Nat)) (R : Nat → Nat → Value) (hR : pk_R R)  (x0 : Int32) (I : Nat → Nat → Int32) (J : Nat → Nat → Int64) (hp : pCh_tick x0 I J) : pmT g kCh_tick (d + 6) [.ref 0, .int x0] (pk_K ++ ex, R, I, J) (px_g (pk_K ++ ex) R (fCh_tick x0 I J).1 (some (.int (fCh_tick x0 I J).2.1)) (fCh_tick x0 I J).2.2 J) :=
  pmC.of (by decide) (Nat.le_of_ble_eq_true rfl) (Ch_tick_n0 g ht d ex R hR _ _ _ _  x0 I J hp rfl)
def fCh_go  (y1 : Int32) (I : Nat → Nat → Int32) (J : Nat → Nat → Int64) : Nat × Int32 × (Nat → Nat → Int32) :=
  if ((fCh_isState y1 I J)) = 0 then (13, 0, I)
  else (0, I 0 7, pm_u I 0 7 y1)
def pCh_go  (y1 : Int32) (I : Nat → Nat → Int32) (J : Nat → Nat → Int64) : Prop :=
  (pCh_isState y1 I J) ∧ ((((fCh_isState y1 I J)) = 0 → True) ∧
  (¬ (((fCh_isState y1 I J)) = 0) → True))
set_option maxHeartbeats 4000000 in
set_option maxRecDepth 100000 in
theorem Ch_go_n0 (g : pmG) (ht : g.1.stackTraces = false) (d : Nat) (ex : List (Nat × Nat)) (R : Nat → Nat → Value) (hR : pk_R R) (o : Outcome) (Z : pmM) (rc rs : Nat)  (y1 : Int32) (I : Nat → Nat → Int32) (J : Nat → Nat → Int64) (hp : pCh_go y1 I J) (hF : (o, Z, rc, rs) = px_g (pk_K ++ ex) R (fCh_go y1 I J).1 (some (.int (fCh_go y1 I J).2.1)) (fCh_go y1 I J).2.2 J) : pmE g kCh_go (d + 6) rc rs 0 [(0, .ref 0), (1, .int y1)] [] (pk_K ++ ex) R I J o Z := by
  unfold pCh_go at hp
  refine pm_aload_n dCh_go_0 rfl ?_
  refine pm_iload_n dCh_go_1 rfl ?_
  refine pm_callV dCh_go_2 lCh_115 vCh_isState ⟨_, _, rfl⟩ (Ch_isState_ok _ _ _ _ hR _ _ _ hp.1) rfl rfl rfl (Nat.le_of_ble_eq_true rfl) (Nat.le_refl _) (Nat.le_refl _) ?_
  refine pm_if_ne 16 dCh_go_5 (by decide) (fun h5 => ?_) (fun h5 => ?_)
  ·
    refine pm_aload_n dCh_go_16 rfl ?_
    refine pm_geti dCh_go_17 fCh_146 rfl ?_
    refine pm_istore_n dCh_go_20 (by decide) rfl ?_
    refine pm_aload_n dCh_go_21 rfl ?_
    refine pm_iload_n dCh_go_22 rfl ?_
    refine pm_puti dCh_go_23 fCh_146 sCh_146 (fun h => by cases h) rfl rfl rfl ?_
    refine pm_iload_n dCh_go_26 rfl ?_
    exact px_iret dCh_go_27 rfl (hF.trans (by first | (simp only [fCh_go, if_neg h5]; done) | (simp only [fCh_go, if_neg h5]; rfl) | rfl))
  ·
    exact px_new (v2 := some (.int 0)) 13 ht dCh_go_8 dCh_go_11 dCh_go_12 dCh_go_15 xCh_79_81 (by decide) (by decide +kernel) (Nat.le_of_ble_eq_true rfl) (hF.trans (by first | (simp only [fCh_go, if_pos h5]; done) | (simp only [fCh_go, if_pos h5]; rfl) | rfl))
set_option maxHeartbeats 4000000 in
set_option maxRecDepth 100000 in
theorem Ch_go_ok (g : pmG) (ht : g.1.stackTraces = false) (d : Nat) (ex : List (Nat × Nat)) (R : Nat → Nat → Value) (hR : pk_R R)  (x0 : Int32) (I : Nat → Nat → Int32) (J : Nat → Nat → Int64) (hp : pCh_go x0 I J) : pmT g kCh_go (d + 6) [.ref 0, .int x0] (pk_K ++ ex, R, I, J) (px_g (pk_K ++ ex) R (fCh_go x0 I J).1 (some (.int (fCh_go x0 I J).2.1)) (fCh_go x0 I J).2.2 J) :=
  pmC.of (by decide) (Nat.le_of_ble_eq_true rfl) (Ch_go_n0 g ht d ex R hR _ _ _ _  x0 I J hp rfl)
def fCh_value_15  (y1 : Int32) (y2 : Int32) (I : Nat → Nat → Int32) (J : Nat → Nat → Int64) : Nat × Int32 :=
  (14, 0)
def pCh_value_15  (y1 : Int32) (y2 : Int32) (I : Nat → Nat → Int32) (J : Nat → Nat → Int64) : Prop :=
  True
def fCh_value  (y1 : Int32) (y2 : Int32) (I : Nat → Nat → Int32) (J : Nat → Nat → Int64) : Nat × Int32 :=
  if y1 < 0 then fCh_value_15 y1 y2 I J
  else if y1 < (I 3 5) then if ((fCh_areInputs y2 I J)) = 0 then (13, 0)
      else if (I 4 y1.toNatClampNeg) = (33 : Int32) then if ((fCm_isSo (I 6 y1.toNatClampNeg) (I 0 7) I J)) = 0 then (0, (0 : Int32))
          else (0, (1 : Int32))
        else (0, (fVa_ofName y1 ((fSt_caseOf (I 0 7) y2 I J)) I J))
    else fCh_value_15 y1 y2 I J
def pCh_value  (y1 : Int32) (y2 : Int32) (I : Nat → Nat → Int32) (J : Nat → Nat → Int64) : Prop :=
  (y1 < 0 → pCh_value_15 y1 y2 I J) ∧
  (¬ (y1 < 0) → (y1 < (I 3 5) → (pCh_areInputs y2 I J) ∧ ((((fCh_areInputs y2 I J)) = 0 → True) ∧
      (¬ (((fCh_areInputs y2 I J)) = 0) → (vp_in y1 60) ∧ (((I 4 y1.toNatClampNeg) = (33 : Int32) → (vp_in y1 60) ∧ ((pCm_isSo (I 6 y1.toNatClampNeg) (I 0 7) I J) ∧ ((((fCm_isSo (I 6 y1.toNatClampNeg) (I 0 7) I J)) = 0 → True) ∧
          (¬ (((fCm_isSo (I 6 y1.toNatClampNeg) (I 0 7) I J)) = 0) → True)))) ∧
        (¬ ((I 4 y1.toNatClampNeg) = (33 : Int32)) → (pSt_caseOf (I 0 7) y2 I J) ∧ ((pVa_ofName y1 ((fSt_caseOf (I 0 7) y2 I J)) I J) ∧ True)))))) ∧
    (¬ (y1 < (I 3 5)) → pCh_value_15 y1 y2 I J))
set_option maxHeartbeats 4000000 in
set_option maxRecDepth 100000 in
theorem Ch_value_n15 (g : pmG) (ht : g.1.stackTraces = false) (d : Nat) (ex : List (Nat × Nat)) (R : Nat → Nat → Value) (hR : pk_R R) (o : Outcome) (Z : pmM) (rc rs : Nat)  (y1 : Int32) (y2 : Int32) (I : Nat → Nat → Int32) (J : Nat → Nat → Int64) (hp : pCh_value_15 y1 y2 I J) (hF : (o, Z, rc, rs) = px_g (pk_K ++ ex) R (fCh_value_15 y1 y2 I J).1 (some (.int (fCh_value_15 y1 y2 I J).2)) I J) : pmE g kCh_value (d + 6) rc rs 15 [(0, .ref 0), (1, .int y1), (2, .int y2)] [] (pk_K ++ ex) R I J o Z := by
  unfold pCh_value_15 at hp
  exact px_new (v2 := some (.int 0)) 14 ht dCh_value_15 dCh_value_18 dCh_value_19 dCh_value_22 xCh_101_103 (by decide) (by decide +kernel) (Nat.le_of_ble_eq_true rfl) (hF.trans (by first | (simp only [fCh_value_15]; done) | (simp only [fCh_value_15]; rfl) | rfl))
set_option maxHeartbeats 4000000 in
set_option maxRecDepth 100000 in
theorem Ch_value_n0 (g : pmG) (ht : g.1.stackTraces = false) (d : Nat) (ex : List (Nat × Nat)) (R : Nat → Nat → Value) (hR : pk_R R) (o : Outcome) (Z : pmM) (rc rs : Nat)  (y1 : Int32) (y2 : Int32) (I : Nat → Nat → Int32) (J : Nat → Nat → Int64) (hp : pCh_value y1 y2 I J) (hF : (o, Z, rc, rs) = px_g (pk_K ++ ex) R (fCh_value y1 y2 I J).1 (some (.int (fCh_value y1 y2 I J).2)) I J) : pmE g kCh_value (d + 6) rc rs 0 [(0, .ref 0), (1, .int y1), (2, .int y2)] [] (pk_K ++ ex) R I J o Z := by
  unfold pCh_value at hp
  refine pm_iload_n dCh_value_0 rfl ?_
  refine pm_if_lt 15 dCh_value_1 (by decide) (fun h1 => ?_) (fun h1 => ?_)
  ·
    refine pm_wk [0, 1, 2] rfl ?_
    exact Ch_value_n15 g ht d ex R hR _ _ _ _   _ _ _ _ (hp.1 h1) (hF.trans (by first | (simp only [fCh_value, if_pos h1]; done) | (simp only [fCh_value, if_pos h1]; rfl) | rfl))
  ·
    refine pm_iload_n dCh_value_4 rfl ?_
    refine pm_aload_n dCh_value_5 rfl ?_
    refine pm_getr dCh_value_6 fCh_19 rfl (rr_0_1 hR) ?_
    refine pm_geti dCh_value_9 fCh_152 rfl ?_
    refine pm_icmp_lt 23 dCh_value_12 (by decide) (fun h12 => ?_) (fun h12 => ?_)
    ·
      refine pm_aload_n dCh_value_23 rfl ?_
      refine pm_iload_n dCh_value_24 rfl ?_
      refine pm_callV dCh_value_25 lCh_140 vCh_areInputs ⟨_, _, rfl⟩ (Ch_areInputs_ok _ _ _ _ hR _ _ _ ((hp.2 h1).1 h12).1) rfl rfl rfl (Nat.le_of_ble_eq_true rfl) (Nat.le_refl _) (Nat.le_refl _) ?_
      refine pm_if_ne 39 dCh_value_28 (by decide) (fun h28 => ?_) (fun h28 => ?_)
      ·
        refine pm_aload_n dCh_value_39 rfl ?_
        refine pm_getr dCh_value_40 fCh_19 rfl (rr_0_1 hR) ?_
        refine pm_getr dCh_value_43 fCh_155 rfl (rr_3_0 hR) ?_
        refine pm_iload_n dCh_value_46 rfl ?_
        refine pm_iald dCh_value_47 rfl (((hp.2 h1).1 h12).2.2 h28).1 ?_
        refine pm_bipush (v := 33) dCh_value_48 (by decide) ?_
        refine pm_icmp_ne 82 dCh_value_50 (by decide) (fun h50 => ?_) (fun h50 => ?_)
        ·
          refine pm_aload_n dCh_value_82 rfl ?_
          refine pm_getr dCh_value_83 fCh_37 rfl (rr_0_3 hR) ?_
          refine pm_iload_n dCh_value_86 rfl ?_
          refine pm_aload_n dCh_value_87 rfl ?_
          refine pm_getr dCh_value_88 fCh_44 rfl (rr_0_4 hR) ?_
          refine pm_aload_n dCh_value_91 rfl ?_
          refine pm_geti dCh_value_92 fCh_146 rfl ?_
          refine pm_iload_n dCh_value_95 rfl ?_
          refine pm_callV dCh_value_96 lCh_148 vSt_caseOf ⟨_, _, rfl⟩ (St_caseOf_ok _ _ _ _ hR _ _ _ _ ((((hp.2 h1).1 h12).2.2 h28).2.2 h50).1) rfl rfl rfl (Nat.le_of_ble_eq_true rfl) (Nat.le_refl _) (Nat.le_refl _) ?_
          refine pm_callV dCh_value_99 lCh_161 vVa_ofName ⟨_, _, rfl⟩ (Va_ofName_ok _ _ _ _ hR _ _ _ _ ((((hp.2 h1).1 h12).2.2 h28).2.2 h50).2.1) rfl rfl rfl (Nat.le_of_ble_eq_true rfl) (Nat.le_refl _) (Nat.le_refl _) ?_
          exact px_iret dCh_value_102 rfl (hF.trans (by first | (simp only [fCh_value, if_neg h1, if_pos h12, if_neg h28, if_neg h50]; done) | (simp only [fCh_value, if_neg h1, if_pos h12, if_neg h28, if_neg h50]; rfl) | rfl))
        ·
          refine pm_aload_n dCh_value_53 rfl ?_
          refine pm_getr dCh_value_54 fCh_53 rfl (rr_0_5 hR) ?_
          refine pm_aload_n dCh_value_57 rfl ?_
          refine pm_getr dCh_value_58 fCh_19 rfl (rr_0_1 hR) ?_
          refine pm_getr dCh_value_61 fCh_158 rfl (rr_3_2 hR) ?_
          refine pm_iload_n dCh_value_64 rfl ?_
          refine pm_iald dCh_value_65 rfl ((((hp.2 h1).1 h12).2.2 h28).2.1 h50).1 ?_
          refine pm_aload_n dCh_value_66 rfl ?_
          refine pm_geti dCh_value_67 fCh_146 rfl ?_
          refine pm_callV dCh_value_70 lCh_107 vCm_isSo ⟨_, _, rfl⟩ (Cm_isSo_ok _ _ _ _ hR _ _ _ _ ((((hp.2 h1).1 h12).2.2 h28).2.1 h50).2.1) rfl rfl rfl (Nat.le_of_ble_eq_true rfl) (Nat.le_refl _) (Nat.le_refl _) ?_
          refine pm_if_eq 80 dCh_value_73 (by decide) (fun h73 => ?_) (fun h73 => ?_)
          ·
            refine pm_iconst (v := 0) dCh_value_80 (by decide) ?_
            exact px_iret dCh_value_81 rfl (hF.trans (by first | (simp only [fCh_value, if_neg h1, if_pos h12, if_neg h28, if_pos h50, if_pos h73]; done) | (simp only [fCh_value, if_neg h1, if_pos h12, if_neg h28, if_pos h50, if_pos h73]; rfl) | rfl))
          ·
            refine pm_iconst (v := 1) dCh_value_76 (by decide) ?_
            refine pm_goto 81 dCh_value_77 (by decide) ?_
            exact px_iret dCh_value_81 rfl (hF.trans (by first | (simp only [fCh_value, if_neg h1, if_pos h12, if_neg h28, if_pos h50, if_neg h73]; done) | (simp only [fCh_value, if_neg h1, if_pos h12, if_neg h28, if_pos h50, if_neg h73]; rfl) | rfl))
      ·
        exact px_new (v2 := some (.int 0)) 13 ht dCh_value_31 dCh_value_34 dCh_value_35 dCh_value_38 xCh_79_81 (by decide) (by decide +kernel) (Nat.le_of_ble_eq_true rfl) (hF.trans (by first | (simp only [fCh_value, if_neg h1, if_pos h12, if_pos h28]; done) | (simp only [fCh_value, if_neg h1, if_pos h12, if_pos h28]; rfl) | rfl))
    ·
      refine pm_wk [0, 1, 2] rfl ?_
      exact Ch_value_n15 g ht d ex R hR _ _ _ _   _ _ _ _ ((hp.2 h1).2 h12) (hF.trans (by first | (simp only [fCh_value, if_neg h1, if_neg h12]; done) | (simp only [fCh_value, if_neg h1, if_neg h12]; rfl) | rfl))
set_option maxHeartbeats 4000000 in
set_option maxRecDepth 100000 in
theorem Ch_value_ok (g : pmG) (ht : g.1.stackTraces = false) (d : Nat) (ex : List (Nat × Nat)) (R : Nat → Nat → Value) (hR : pk_R R)  (x0 : Int32) (x1 : Int32) (I : Nat → Nat → Int32) (J : Nat → Nat → Int64) (hp : pCh_value x0 x1 I J) : pmT g kCh_value (d + 6) [.ref 0, .int x0, .int x1] (pk_K ++ ex, R, I, J) (px_g (pk_K ++ ex) R (fCh_value x0 x1 I J).1 (some (.int (fCh_value x0 x1 I J).2)) I J) :=
  pmC.of (by decide) (Nat.le_of_ble_eq_true rfl) (Ch_value_n0 g ht d ex R hR _ _ _ _  x0 x1 I J hp rfl)
