/-! where the model's cells lie, behind the class's: as its constructor makes them -/
def mk_K0 : List (Nat × Nat) := [(0, 10), (2, 65536), (1, 60), (1, 60), (1, 60), (1, 60), (1, 8), (1, 8), (1, 8), (1, 3), (1, 60), (1, 30), (1, 4200), (1, 4200), (1, 4200), (1, 4200), (1, 4200), (1, 4200), (1, 4200), (1, 4200), (1, 8), (1, 3), (1, 60), (5, 256)] ++ (List.replicate 256 (1, 8) ++ ([(6, 4200), (3, 256), (6, 30)] ++ (List.replicate 30 (3, 256) ++ [(1, 256), (1, 257), (1, 256)])))
def mk_K : List (Nat × Nat) := pk_K ++ mk_K0
theorem mk_len (ex : List (Nat × Nat)) : 356 ≤ (mk_K ++ ex).length := by
  rw [List.length_append]
  exact Nat.le_trans (by decide +kernel : 356 ≤ mk_K.length) (Nat.le_add_right _ _)
theorem mk_ne (ex : List (Nat × Nat)) : 40 ≠ (mk_K ++ ex).length := Nat.ne_of_lt (Nat.lt_of_lt_of_le (Nat.lt_of_sub_pos (Nat.lt_of_lt_of_le Nat.zero_lt_one (Nat.le_of_ble_eq_true rfl))) (mk_len ex))
def mk_Rl : List (Nat × Nat × Value) := [(40, 0, .ref 41), (40, 12, .ref 42), (40, 13, .ref 43), (40, 14, .ref 44), (40, 15, .ref 45), (40, 17, .ref 46), (40, 18, .ref 47), (40, 19, .ref 48), (40, 20, .ref 49), (40, 21, .ref 50), (40, 22, .ref 51), (40, 29, .ref 52), (40, 30, .ref 53), (40, 31, .ref 54), (40, 32, .ref 55), (40, 33, .ref 56), (40, 35, .ref 57), (40, 36, .ref 58), (40, 37, .ref 59), (40, 39, .ref 60), (40, 40, .ref 61), (40, 41, .ref 62), (40, 42, .ref 63), (40, 43, .ref 320), (40, 44, .ref 321), (40, 45, .ref 322), (40, 48, .ref 353), (40, 49, .ref 354), (40, 50, .ref 355)]
def mk_R (R : Nat → Nat → Value) : Prop := (∀ q ∈ mk_Rl, R q.1 q.2.1 = q.2.2) ∧ (∀ i : Nat, i < 256 → R 63 i = .ref (64 + i)) ∧ ∀ i : Nat, i < 30 → R 322 i = .ref (323 + i)
theorem rr_40_0 {R : Nat → Nat → Value} (h : mk_R R) : R 40 0 = .ref 41 := h.1 _ (List.mem_of_getElem? (i := 0) rfl)
theorem rr_40_12 {R : Nat → Nat → Value} (h : mk_R R) : R 40 12 = .ref 42 := h.1 _ (List.mem_of_getElem? (i := 1) rfl)
theorem rr_40_13 {R : Nat → Nat → Value} (h : mk_R R) : R 40 13 = .ref 43 := h.1 _ (List.mem_of_getElem? (i := 2) rfl)
theorem rr_40_14 {R : Nat → Nat → Value} (h : mk_R R) : R 40 14 = .ref 44 := h.1 _ (List.mem_of_getElem? (i := 3) rfl)
theorem rr_40_15 {R : Nat → Nat → Value} (h : mk_R R) : R 40 15 = .ref 45 := h.1 _ (List.mem_of_getElem? (i := 4) rfl)
theorem rr_40_17 {R : Nat → Nat → Value} (h : mk_R R) : R 40 17 = .ref 46 := h.1 _ (List.mem_of_getElem? (i := 5) rfl)
theorem rr_40_18 {R : Nat → Nat → Value} (h : mk_R R) : R 40 18 = .ref 47 := h.1 _ (List.mem_of_getElem? (i := 6) rfl)
theorem rr_40_19 {R : Nat → Nat → Value} (h : mk_R R) : R 40 19 = .ref 48 := h.1 _ (List.mem_of_getElem? (i := 7) rfl)
theorem rr_40_20 {R : Nat → Nat → Value} (h : mk_R R) : R 40 20 = .ref 49 := h.1 _ (List.mem_of_getElem? (i := 8) rfl)
theorem rr_40_21 {R : Nat → Nat → Value} (h : mk_R R) : R 40 21 = .ref 50 := h.1 _ (List.mem_of_getElem? (i := 9) rfl)
theorem rr_40_22 {R : Nat → Nat → Value} (h : mk_R R) : R 40 22 = .ref 51 := h.1 _ (List.mem_of_getElem? (i := 10) rfl)
theorem rr_40_29 {R : Nat → Nat → Value} (h : mk_R R) : R 40 29 = .ref 52 := h.1 _ (List.mem_of_getElem? (i := 11) rfl)
theorem rr_40_30 {R : Nat → Nat → Value} (h : mk_R R) : R 40 30 = .ref 53 := h.1 _ (List.mem_of_getElem? (i := 12) rfl)
theorem rr_40_31 {R : Nat → Nat → Value} (h : mk_R R) : R 40 31 = .ref 54 := h.1 _ (List.mem_of_getElem? (i := 13) rfl)
theorem rr_40_32 {R : Nat → Nat → Value} (h : mk_R R) : R 40 32 = .ref 55 := h.1 _ (List.mem_of_getElem? (i := 14) rfl)
theorem rr_40_33 {R : Nat → Nat → Value} (h : mk_R R) : R 40 33 = .ref 56 := h.1 _ (List.mem_of_getElem? (i := 15) rfl)
theorem rr_40_35 {R : Nat → Nat → Value} (h : mk_R R) : R 40 35 = .ref 57 := h.1 _ (List.mem_of_getElem? (i := 16) rfl)
theorem rr_40_36 {R : Nat → Nat → Value} (h : mk_R R) : R 40 36 = .ref 58 := h.1 _ (List.mem_of_getElem? (i := 17) rfl)
theorem rr_40_37 {R : Nat → Nat → Value} (h : mk_R R) : R 40 37 = .ref 59 := h.1 _ (List.mem_of_getElem? (i := 18) rfl)
theorem rr_40_39 {R : Nat → Nat → Value} (h : mk_R R) : R 40 39 = .ref 60 := h.1 _ (List.mem_of_getElem? (i := 19) rfl)
theorem rr_40_40 {R : Nat → Nat → Value} (h : mk_R R) : R 40 40 = .ref 61 := h.1 _ (List.mem_of_getElem? (i := 20) rfl)
theorem rr_40_41 {R : Nat → Nat → Value} (h : mk_R R) : R 40 41 = .ref 62 := h.1 _ (List.mem_of_getElem? (i := 21) rfl)
theorem rr_40_42 {R : Nat → Nat → Value} (h : mk_R R) : R 40 42 = .ref 63 := h.1 _ (List.mem_of_getElem? (i := 22) rfl)
theorem rr_40_43 {R : Nat → Nat → Value} (h : mk_R R) : R 40 43 = .ref 320 := h.1 _ (List.mem_of_getElem? (i := 23) rfl)
theorem rr_40_44 {R : Nat → Nat → Value} (h : mk_R R) : R 40 44 = .ref 321 := h.1 _ (List.mem_of_getElem? (i := 24) rfl)
theorem rr_40_45 {R : Nat → Nat → Value} (h : mk_R R) : R 40 45 = .ref 322 := h.1 _ (List.mem_of_getElem? (i := 25) rfl)
theorem rr_40_48 {R : Nat → Nat → Value} (h : mk_R R) : R 40 48 = .ref 353 := h.1 _ (List.mem_of_getElem? (i := 26) rfl)
theorem rr_40_49 {R : Nat → Nat → Value} (h : mk_R R) : R 40 49 = .ref 354 := h.1 _ (List.mem_of_getElem? (i := 27) rfl)
theorem rr_40_50 {R : Nat → Nat → Value} (h : mk_R R) : R 40 50 = .ref 355 := h.1 _ (List.mem_of_getElem? (i := 28) rfl)
/-! the model: Wrong made, thrown and passed on. F = (e, w, answer, ints): e = 0 where it returns, else Wrong's kind, and w its place -/
abbrev pt_w (K : List (Nat × Nat)) (R : Nat → Nat → Value) (I : Nat → Nat → Int32) (J : Nat → Nat → Int64) (e w : Int32) : pmM := (K ++ [(0, 11)], pm_z R K.length .null, pm_u (pm_u (pm_z I K.length 0) K.length 5 e) K.length 6 w, pm_z J K.length 0)
abbrev pt_g (K : List (Nat × Nat)) (R : Nat → Nat → Value) (J : Nat → Nat → Int64) (e w : Int32) (v : Option Value) (I : Nat → Nat → Int32) : Outcome × pmM × Nat × Nat := if e = 0 then (.returned v, (K, R, I, J), 0, 0) else (.threw K.length, pt_w K R I J e w, 1, 8)
abbrev pt_I (K : List (Nat × Nat)) (R : Nat → Nat → Value) (J : Nat → Nat → Int64) (F : Int32 × Int32 × Int32 × (Nat → Nat → Int32)) : Outcome × pmM × Nat × Nat := pt_g K R J F.1 F.2.1 (some (.int F.2.2.1)) F.2.2.2
abbrev pt_V (K : List (Nat × Nat)) (R : Nat → Nat → Value) (J : Nat → Nat → Int64) (F : Int32 × Int32 × (Nat → Nat → Int32)) : Outcome × pmM × Nat × Nat := pt_g K R J F.1 F.2.1 none F.2.2
section PMTH
variable {g : pmG} {k k' : pmK} {d rc rs pc idx n0 ci a : Nat} {L : List (Nat × Value)} {S S0 As : List Value} {K : List (Nat × Nat)} {R : Nat → Nat → Value} {I I1 : Nat → Nat → Int32} {J : Nat → Nat → Int64} {o : Outcome} {Z : pmM} {e w : Int32} {v v2 : Option Value}
theorem pt_r0 {w : Int32} (hF : (o, Z, rc, rs) = pt_g K R J 0 w v I) : o = .returned v ∧ Z = (K, R, I, J) := by
  rw [show pt_g K R J 0 w v I = (.returned v, (K, R, I, J), 0, 0) from if_pos rfl] at hF
  cases hF
  exact ⟨rfl, rfl⟩
theorem pt_vret {w : Int32} (h : decode k.2.1 pc = .ok (.return_, 1)) (hk : k.2.2.2 = none) (hF : (o, Z, rc, rs) = pt_V K R J (0, w, I)) : pmE g k d rc rs pc L [] K R I J o Z := pm_vret h hk (pt_r0 hF).1 (pt_r0 hF).2
theorem pt_iret {w r : Int32} (h : decode k.2.1 pc = .ok (.ireturn, 1)) (hk : k.2.2.2 = some .int) (hF : (o, Z, rc, rs) = pt_I K R J (0, w, r, I)) : pmE g k d rc rs pc L [.int r] K R I J o Z := pm_iret h hk (pt_r0 hF).1 (pt_r0 hF).2
theorem pt_zret {w r : Int32} {ty : FieldType} (h : decode k.2.1 pc = .ok (.ireturn, 1)) (hk : k.2.2.2 = some ty) (hn : narrow ty (.int r) = .int r) (hF : (o, Z, rc, rs) = pt_I K R J (0, w, r, I)) : pmE g k d rc rs pc L [.int r] K R I J o Z := pm_zret h hk hn (pt_r0 hF).1 (pt_r0 hF).2
theorem pt_callV (h : decode k.2.1 pc = .ok (.invokevirtual idx, 3)) (f : pm_Lk k.1.cls idx k' n0) (fv : pm_Vt k') (hcl : ∃ (T : u_T) (N : Nat), pm_cl[ci]? = some (k'.1.cls, T, N)) (hc : pmT g k' d (.ref a :: As) (K, R, I, J) (pt_g K R J e w v I1)) (hk : K[a]? = some (0, ci)) (hn : As.length = n0) (hst : S0 = As.reverse ++ .ref a :: S) (h8 : (S.map fun v => v.category).sum ≤ 8)
    (n1 : e = 0 → pmE g k (d + 1) rc rs (pc + 3) L (v.toList ++ S) K R I1 J o Z) (n2 : ¬ e = 0 → (o, Z, rc, rs) = pt_g K R J e w v2 I1) (hno : (pm_hs k.1).isEmpty = true := by decide +kernel) : pmE g k (d + 1) rc rs pc L S0 K R I J o Z := by
  by_cases he : e = 0
  · rw [show pt_g K R J e w v I1 = (.returned v, (K, R, I1, J), 0, 0) from if_pos he] at hc
    exact pm_callV h f fv hcl hc hk hn hst h8 (Nat.le_refl _) (Nat.le_refl _) (n1 he)
  · rw [show pt_g K R J e w v I1 = (.threw K.length, pt_w K R I1 J e w, 1, 8) from if_neg he] at hc
    have h2 := n2 he
    rw [show pt_g K R J e w v2 I1 = (.threw K.length, pt_w K R I1 J e w, 1, 8) from if_neg he] at h2
    cases h2
    exact pm_callVT h f fv hcl hc hk hn hst h8 (Nat.le_refl _) (Nat.le_refl _) hno rfl rfl
theorem pt_wr (h0 : decode k.2.1 pc = .ok (.new idx, 3)) (h3 : decode k.2.1 (pc + 3) = .ok (.dup, 1)) (f : pm_Cn k.1.cls idx 11 8) (he : ¬ e = 0) (hF : (o, Z, rc, rs) = pt_g K R J e w v2 I)
    (n : pmE g k d 0 0 (pc + 3 + 1) L (.ref K.length :: .ref K.length :: S) (K ++ [(0, 11)]) (pm_z R K.length .null) (pm_z I K.length 0) (pm_z J K.length 0) (.threw K.length) (pt_w K R I J e w)) : pmE g k d rc rs pc L S K R I J o Z := by
  rw [show pt_g K R J e w v2 I = (.threw K.length, pt_w K R I J e w, 1, 8) from if_neg he] at hF
  cases hF
  exact pm_new (rc := 0) (rs := 0) (N := 8) h0 f (pm_dup h3 rfl n)
theorem pt_cant {e1 : Int32} (h : decode k.2.1 pc = .ok (.invokevirtual idx, 3)) (f : pm_Lk k.1.cls idx k' 0) (fv : pm_Vt k') (hcl : ∃ (T : u_T) (N : Nat), pm_cl[ci]? = some (k'.1.cls, T, N)) (hc : pmC g k' d 1 8 [.ref a] (K, R, I, J) (if e1 = 0 then .returned (some (.ref K.length)) else .threw K.length) (pt_w K R I1 J e w))
    (h3 : decode k.2.1 (pc + 3) = .ok (.athrow, 1)) (hk : K[a]? = some (0, ci)) (hno : (pm_hs k.1).isEmpty = true) (h8 : (S.map fun v => v.category).sum ≤ 8) (he : ¬ e = 0) (hF : (o, Z, rc, rs) = pt_g K R J e w v2 I1) : pmE g k (d + 1) rc rs pc L (.ref a :: S) K R I J o Z := by
  rw [show pt_g K R J e w v2 I1 = (.threw K.length, pt_w K R I1 J e w, 1, 8) from if_neg he] at hF
  cases hF
  by_cases h1 : e1 = 0
  · rw [if_pos h1] at hc
    exact pm_callV (As := []) (rc1 := 0) (rs1 := 0) h f fv hcl hc hk rfl rfl h8 (Nat.le_refl _) (Nat.le_refl _) (pm_athrow h3 hno rfl rfl)
  · rw [if_neg h1] at hc
    exact pm_callVT (As := []) h f fv hcl hc hk rfl rfl h8 (Nat.le_refl _) (Nat.le_refl _) hno rfl rfl
end PMTH

section PMNL
variable {g : pmG} {k : pmK} {d rc rs pc : Nat} {L : List (Nat × Value)} {S : List Value} {K : List (Nat × Nat)} {R : Nat → Nat → Value} {I : Nat → Nat → Int32} {J : Nat → Nat → Int64} {o : Outcome} {Z : pmM}
theorem pm_nload_n {q : Fin 4} (h : decode k.2.1 pc = .ok (.aload_n q, 1)) (hv : pm_lk L (q : Nat) = some .null) (n : pmE g k d rc rs (pc + 1) L (.null :: S) K R I J o Z) : pmE g k d rc rs (pc) L (S) K R I J o Z := by
  intro p e Rm s m args below meth c H locs cells slots mc ms ls hC h1 h2 h3 h4 hl hA
  exact lv_aload_nN hC.1 hC.2.1 h rfl (pm_lk_at hl hv) (n p e Rm s m args below meth c H locs cells slots mc ms ls hC h1 h2 h3 h4 hl hA)
end PMNL
theorem fThW_7 : pm_Fl "java/lang/Throwable" 7 11 0 true := ⟨_, _, _, rfl, by decide, by decide +kernel, pW11, Or.inl (pm_in 1014 (by decide +kernel) rfl)⟩
theorem sThW_7 : pm_Fs "java/lang/Throwable" 11 0 (.object "java/lang/Throwable") false := ⟨_, _, _, pY11, rfl, pY11_ok, pN11_ok, rfl, rfl, fun h => by cases h⟩
theorem fThW_17 : pm_Fl "java/lang/Throwable" 17 11 1 true := ⟨_, _, _, rfl, by decide, by decide +kernel, pW11, Or.inl (pm_in 1015 (by decide +kernel) rfl)⟩
theorem sThW_17 : pm_Fs "java/lang/Throwable" 11 1 (.array (.object "java/lang/StackTraceElement")) false := ⟨_, _, _, pY11, rfl, pY11_ok, pN11_ok, rfl, rfl, fun h => by cases h⟩
theorem fThW_24 : pm_Fl "java/lang/Throwable" 24 11 2 true := ⟨_, _, _, rfl, by decide, by decide +kernel, pW11, Or.inl (pm_in 1016 (by decide +kernel) rfl)⟩
theorem sThW_24 : pm_Fs "java/lang/Throwable" 11 2 (.object "java/util/List") false := ⟨_, _, _, pY11, rfl, pY11_ok, pN11_ok, rfl, rfl, fun h => by cases h⟩
theorem fThW_31 : pm_Fl "java/lang/Throwable" 31 11 3 true := ⟨_, _, _, rfl, by decide, by decide +kernel, pW11, Or.inl (pm_in 1013 (by decide +kernel) rfl)⟩
theorem sThW_31 : pm_Fs "java/lang/Throwable" 11 3 (.object "java/lang/String") false := ⟨_, _, _, pY11, rfl, pY11_ok, pN11_ok, rfl, rfl, fun h => by cases h⟩
theorem gTh_13 : Cond.fieldLink "java/lang/Throwable" 13 "java/lang/Throwable" "UNASSIGNED_STACK" "[Ljava/lang/StackTraceElement;" ∈ pm_TS := pm_in 986 (by decide +kernel) rfl
theorem xs_6 : ("java/lang/Throwable", "UNASSIGNED_STACK", "[Ljava/lang/StackTraceElement;", 6) ∈ pm_SQ := List.mem_of_getElem? (i := 1) rfl
theorem gTh_20 : Cond.fieldLink "java/lang/Throwable" 20 "java/lang/Throwable" "SUPPRESSED_SENTINEL" "Ljava/util/List;" ∈ pm_TS := pm_in 988 (by decide +kernel) rfl
theorem xs_7 : ("java/lang/Throwable", "SUPPRESSED_SENTINEL", "Ljava/util/List;", 7) ∈ pm_SQ := List.mem_of_getElem? (i := 2) rfl
theorem wr_R {R : Nat → Nat → Value} {n : Nat} (h : R n = fun _ => .null) (v1 v2 : Value) : pm_u (pm_u (pm_u (pm_u (pm_u (pm_u (pm_u R n 0 (.ref n)) n 1 v1) n 2 v2) n 1 .null) n 3 .null) n 0 .null) n 2 .null = R := by
  funext a b
  by_cases ha : a = n
  · subst ha
    simp only [pm_u_a, h]
    repeat' split
    all_goals first | rfl | (exfalso; omega)
  · simp only [pm_u_n _ _ _ ha]
theorem Th4_ok (g : pmG) (d : Nat) (K : List (Nat × Nat)) (R : Nat → Nat → Value) (I : Nat → Nat → Int32) (J : Nat → Nat → Int64) (n : Nat) (hk : K[n]? = some (0, 11)) (hR : R n = fun _ => .null) : pmC g kTh_init2 (d + 1) 0 0 [.ref n, .null, .null, .int 0, .int 0] (K, R, I, J) (.returned none) (K, R, I, J) := by
  refine pmC.of (by decide) (Nat.le_of_ble_eq_true rfl) ?_
  refine pm_aload_n dTh_init2_0 rfl ?_
  refine pm_objInit dTh_init2_1 (pm_in 985 (by decide +kernel) rfl) ob_1 ob_2 (Nat.le_of_ble_eq_true rfl) ?_
  refine pm_aload_n dTh_init2_4 rfl ?_
  refine pm_aload_n dTh_init2_5 rfl ?_
  refine pm_putr dTh_init2_6 fThW_7 sThW_7 (fun h => by cases h) hk rfl rfl ?_
  refine pm_aload_n dTh_init2_9 rfl ?_
  refine pm_getsQ dTh_init2_10 gTh_13 xs_6 ?_ ?_
  · refine pm_putr dTh_init2_13 fThW_17 sThW_17 (fun h => by cases h) hk rfl rfl ?_
    refine pm_aload_n dTh_init2_16 rfl ?_
    refine pm_getsQ dTh_init2_17 gTh_20 xs_7 ?_ ?_
    · refine pm_putr dTh_init2_20 fThW_24 sThW_24 (fun h => by cases h) hk rfl rfl ?_
      refine pm_iload dTh_init2_23 rfl ?_
      refine pm_if_eq 36 dTh_init2_25 (by decide) (fun h => ?_) (fun h => absurd rfl h)
      refine pm_aload_n dTh_init2_36 rfl ?_
      refine pm_null dTh_init2_37 ?_
      refine pm_putr dTh_init2_38 fThW_17 sThW_17 (fun h => by cases h) hk rfl rfl ?_
      refine pm_aload_n dTh_init2_41 rfl ?_
      refine pm_nload_n dTh_init2_42 rfl ?_
      refine pm_putr dTh_init2_43 fThW_31 sThW_31 (fun h => by cases h) hk rfl rfl ?_
      refine pm_aload_n dTh_init2_46 rfl ?_
      refine pm_nload_n dTh_init2_47 rfl ?_
      refine pm_putr dTh_init2_48 fThW_7 sThW_7 (fun h => by cases h) hk rfl rfl ?_
      refine pm_iload_n dTh_init2_51 rfl ?_
      refine pm_if_ne 60 dTh_init2_52 (by decide) (fun h => absurd rfl h) (fun h => ?_)
      refine pm_aload_n dTh_init2_55 rfl ?_
      refine pm_null dTh_init2_56 ?_
      refine pm_putr dTh_init2_57 fThW_24 sThW_24 (fun h => by cases h) hk rfl rfl ?_
      exact pm_vret dTh_init2_60 rfl rfl (congrArg (fun x => (K, x, I, J)) (wr_R hR _ _).symm)
    · refine pm_putr dTh_init2_20 fThW_24 sThW_24 (fun h => by cases h) hk rfl rfl ?_
      refine pm_iload dTh_init2_23 rfl ?_
      refine pm_if_eq 36 dTh_init2_25 (by decide) (fun h => ?_) (fun h => absurd rfl h)
      refine pm_aload_n dTh_init2_36 rfl ?_
      refine pm_null dTh_init2_37 ?_
      refine pm_putr dTh_init2_38 fThW_17 sThW_17 (fun h => by cases h) hk rfl rfl ?_
      refine pm_aload_n dTh_init2_41 rfl ?_
      refine pm_nload_n dTh_init2_42 rfl ?_
      refine pm_putr dTh_init2_43 fThW_31 sThW_31 (fun h => by cases h) hk rfl rfl ?_
      refine pm_aload_n dTh_init2_46 rfl ?_
      refine pm_nload_n dTh_init2_47 rfl ?_
      refine pm_putr dTh_init2_48 fThW_7 sThW_7 (fun h => by cases h) hk rfl rfl ?_
      refine pm_iload_n dTh_init2_51 rfl ?_
      refine pm_if_ne 60 dTh_init2_52 (by decide) (fun h => absurd rfl h) (fun h => ?_)
      refine pm_aload_n dTh_init2_55 rfl ?_
      refine pm_null dTh_init2_56 ?_
      refine pm_putr dTh_init2_57 fThW_24 sThW_24 (fun h => by cases h) hk rfl rfl ?_
      exact pm_vret dTh_init2_60 rfl rfl (congrArg (fun x => (K, x, I, J)) (wr_R hR _ _).symm)
  · refine pm_putr dTh_init2_13 fThW_17 sThW_17 (fun h => by cases h) hk rfl rfl ?_
    refine pm_aload_n dTh_init2_16 rfl ?_
    refine pm_getsQ dTh_init2_17 gTh_20 xs_7 ?_ ?_
    · refine pm_putr dTh_init2_20 fThW_24 sThW_24 (fun h => by cases h) hk rfl rfl ?_
      refine pm_iload dTh_init2_23 rfl ?_
      refine pm_if_eq 36 dTh_init2_25 (by decide) (fun h => ?_) (fun h => absurd rfl h)
      refine pm_aload_n dTh_init2_36 rfl ?_
      refine pm_null dTh_init2_37 ?_
      refine pm_putr dTh_init2_38 fThW_17 sThW_17 (fun h => by cases h) hk rfl rfl ?_
      refine pm_aload_n dTh_init2_41 rfl ?_
      refine pm_nload_n dTh_init2_42 rfl ?_
      refine pm_putr dTh_init2_43 fThW_31 sThW_31 (fun h => by cases h) hk rfl rfl ?_
      refine pm_aload_n dTh_init2_46 rfl ?_
      refine pm_nload_n dTh_init2_47 rfl ?_
      refine pm_putr dTh_init2_48 fThW_7 sThW_7 (fun h => by cases h) hk rfl rfl ?_
      refine pm_iload_n dTh_init2_51 rfl ?_
      refine pm_if_ne 60 dTh_init2_52 (by decide) (fun h => absurd rfl h) (fun h => ?_)
      refine pm_aload_n dTh_init2_55 rfl ?_
      refine pm_null dTh_init2_56 ?_
      refine pm_putr dTh_init2_57 fThW_24 sThW_24 (fun h => by cases h) hk rfl rfl ?_
      exact pm_vret dTh_init2_60 rfl rfl (congrArg (fun x => (K, x, I, J)) (wr_R hR _ _).symm)
    · refine pm_putr dTh_init2_20 fThW_24 sThW_24 (fun h => by cases h) hk rfl rfl ?_
      refine pm_iload dTh_init2_23 rfl ?_
      refine pm_if_eq 36 dTh_init2_25 (by decide) (fun h => ?_) (fun h => absurd rfl h)
      refine pm_aload_n dTh_init2_36 rfl ?_
      refine pm_null dTh_init2_37 ?_
      refine pm_putr dTh_init2_38 fThW_17 sThW_17 (fun h => by cases h) hk rfl rfl ?_
      refine pm_aload_n dTh_init2_41 rfl ?_
      refine pm_nload_n dTh_init2_42 rfl ?_
      refine pm_putr dTh_init2_43 fThW_31 sThW_31 (fun h => by cases h) hk rfl rfl ?_
      refine pm_aload_n dTh_init2_46 rfl ?_
      refine pm_nload_n dTh_init2_47 rfl ?_
      refine pm_putr dTh_init2_48 fThW_7 sThW_7 (fun h => by cases h) hk rfl rfl ?_
      refine pm_iload_n dTh_init2_51 rfl ?_
      refine pm_if_ne 60 dTh_init2_52 (by decide) (fun h => absurd rfl h) (fun h => ?_)
      refine pm_aload_n dTh_init2_55 rfl ?_
      refine pm_null dTh_init2_56 ?_
      refine pm_putr dTh_init2_57 fThW_24 sThW_24 (fun h => by cases h) hk rfl rfl ?_
      exact pm_vret dTh_init2_60 rfl rfl (congrArg (fun x => (K, x, I, J)) (wr_R hR _ _).symm)
theorem Ex4_ok (g : pmG) (d : Nat) (K : List (Nat × Nat)) (R : Nat → Nat → Value) (I : Nat → Nat → Int32) (J : Nat → Nat → Int64) (n : Nat) (hk : K[n]? = some (0, 11)) (hR : R n = fun _ => .null) : pmC g kEx_init2 (d + 2) 0 0 [.ref n, .null, .null, .int 0, .int 0] (K, R, I, J) (.returned none) (K, R, I, J) := by
  refine pmC.of (by decide) (Nat.le_of_ble_eq_true rfl) ?_
  refine pm_aload_n dEx_init2_0 rfl ?_
  refine pm_nload_n dEx_init2_1 rfl ?_
  refine pm_nload_n dEx_init2_2 rfl ?_
  refine pm_iload_n dEx_init2_3 rfl ?_
  refine pm_iload dEx_init2_4 rfl ?_
  refine pm_callI dEx_init2_6 lEx_16 iTh_init2 (Th4_ok g d K R I J n hk hR) rfl rfl (Nat.le_of_ble_eq_true rfl) (Nat.le_refl _) (Nat.le_refl _) ?_
  exact pm_vret dEx_init2_9 rfl rfl rfl
theorem Re4_ok (g : pmG) (d : Nat) (K : List (Nat × Nat)) (R : Nat → Nat → Value) (I : Nat → Nat → Int32) (J : Nat → Nat → Int64) (n : Nat) (hk : K[n]? = some (0, 11)) (hR : R n = fun _ => .null) : pmC g kRe_init2 (d + 3) 0 0 [.ref n, .null, .null, .int 0, .int 0] (K, R, I, J) (.returned none) (K, R, I, J) := by
  refine pmC.of (by decide) (Nat.le_of_ble_eq_true rfl) ?_
  refine pm_aload_n dRe_init2_0 rfl ?_
  refine pm_nload_n dRe_init2_1 rfl ?_
  refine pm_nload_n dRe_init2_2 rfl ?_
  refine pm_iload_n dRe_init2_3 rfl ?_
  refine pm_iload dRe_init2_4 rfl ?_
  refine pm_callI dRe_init2_6 lRe_16 iEx_init2 (Ex4_ok g d K R I J n hk hR) rfl rfl (Nat.le_of_ble_eq_true rfl) (Nat.le_refl _) (Nat.le_refl _) ?_
  exact pm_vret dRe_init2_9 rfl rfl rfl
theorem Wr_init_ok (g : pmG) (d : Nat) (K : List (Nat × Nat)) (R : Nat → Nat → Value) (I : Nat → Nat → Int32) (J : Nat → Nat → Int64) (e w : Int32) : pmC g kWr_init (d + 4) 0 0 [.ref K.length, .int e, .int w] (K ++ [(0, 11)], pm_z R K.length .null, pm_z I K.length 0, pm_z J K.length 0) (.returned none) (pt_w K R I J e w) := by
  have hk : (K ++ [(0, 11)])[K.length]? = some (0, 11) := by rw [List.getElem?_append_right (Nat.le_refl _), Nat.sub_self]; rfl
  have hR : pm_z R K.length .null K.length = fun _ => .null := pm_z_a R K.length .null
  refine pmC.of (by decide) (Nat.le_of_ble_eq_true rfl) ?_
  refine pm_aload_n dWr_init_0 rfl ?_
  refine pm_null dWr_init_1 ?_
  refine pm_null dWr_init_2 ?_
  refine pm_iconst (v := 0) dWr_init_3 (by decide) ?_
  refine pm_iconst (v := 0) dWr_init_4 (by decide) ?_
  refine pm_callI dWr_init_5 lWr_1 iRe_init2 (Re4_ok g d _ _ _ _ _ hk hR) rfl rfl (Nat.le_of_ble_eq_true rfl) (Nat.le_refl _) (Nat.le_refl _) ?_
  refine pm_aload_n dWr_init_8 rfl ?_
  refine pm_iload_n dWr_init_9 rfl ?_
  refine pm_puti dWr_init_10 fWr_7 sWr_7 (fun _ => rfl) hk rfl rfl ?_
  refine pm_aload_n dWr_init_13 rfl ?_
  refine pm_iload_n dWr_init_14 rfl ?_
  refine pm_puti dWr_init_15 fWr_13 sWr_13 (fun _ => rfl) hk rfl rfl ?_
  exact pm_vret dWr_init_18 rfl rfl rfl
theorem pt_wi {g : pmG} {k : pmK} {d pc idx : Nat} {L : List (Nat × Value)} {S : List Value} {K : List (Nat × Nat)} {R : Nat → Nat → Value} {I : Nat → Nat → Int32} {J : Nat → Nat → Int64} {e w : Int32} (h : decode k.2.1 pc = .ok (.invokespecial idx, 3)) (f : pm_Lk k.1.cls idx kWr_init 2) (h3 : decode k.2.1 (pc + 3) = .ok (.athrow, 1)) (hno : (pm_hs k.1).isEmpty = true) (h8 : (S.map fun v => v.category).sum ≤ 7) :
    pmE g k (d + 5) 0 0 pc L (.int w :: .int e :: .ref K.length :: .ref K.length :: S) (K ++ [(0, 11)]) (pm_z R K.length .null) (pm_z I K.length 0) (pm_z J K.length 0) (.threw K.length) (pt_w K R I J e w) :=
  pm_callI (As := [.int e, .int w]) (S := .ref K.length :: S) (rc1 := 0) (rs1 := 0) h f iWr_init (Wr_init_ok g d K R I J e w) rfl rfl (by rw [List.map_cons, List.sum_cons]; show 1 + _ ≤ 8; omega) (Nat.le_refl _) (Nat.le_refl _) (pm_athrow h3 hno rfl rfl)
