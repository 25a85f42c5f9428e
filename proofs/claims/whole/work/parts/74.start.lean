def R_law : String := "CircuitCheckerLaw"
def lw_P (b : Addr) (xs : List Int32) (args : Array Value) (s : State) : Prop := args = #[.ref b] ∧ s.IntsAt b xs ∧ xs.length ≤ 3072 ∧ (Jvm.Cond.and given_1 narrow_1).before args s = true
def lw_Q (_ : Array Value) (s : State) (o : Outcome) (t : State) : Prop := o = .returned (some (.int 1)) ∧ Framed s o t [] 601024 7293034
def lw_Z (below : List Frame) (a : Array Value) (s : State) : State → Prop := fun t => ∃ o, t.status = .running ∧ Ended t below o ∧ lw_Q a s o t
/-- what holds at the law's entry: the machine, the code, the tables' words (any of lw_tbl by 'hts w (by decide +kernel)'), the script of L ints xs at the cell b, what the Statement gives of the start (any of its parts by flat_of_before) -/
def lw_At (p : Program) (s : State) (m : MethodId) (meth : Method) (c : Code) (b L : Nat) (xs : Nat → Int32) : Prop :=
  p.tables.exec = Jvm.exec ∧ c.code = code ∧ meth.sig.returnType = ret ∧ c.maxLocals = 7 ∧ s.vm.findClass R_law = some m.cls ∧ (∀ w ∈ lw_tbl, w.before #[Value.ref b] s = true) ∧ va_X b L xs s s.heap ∧ b < s.heap.size ∧ meth.locks = false ∧ (Jvm.Cond.and given_1 narrow_1).before #[Value.ref b] s = true
/-! the start: what the tables and the Statement give of the entry state -/
abbrev lw_F : List Cond := flatC (Jvm.Cond.and given_1 narrow_1)
def lw_sr (i : Nat) : String × Nat × String × Nat := pm_SR.getD i ("", 0, "", 0)
def lw_ar (i : Nat) : FieldType × Nat × Nat × List Int32 := pm_AR.getD (2 + i) (.byte, 0, 0, [])
def lw_tm (i : Nat) : Term := .string (lw_sr i).1 (lw_sr i).2.1
abbrev lw_tv (i : Nat) : Term := .field (lw_tm i) "java/lang/String" "value" "[B"
theorem lw_ex : ∀ i : Nat, i < 21 → Cond.exactly (lw_tm i) "java/lang/String" ∈ lw_F := by decide +kernel
theorem lw_co : ∀ i : Nat, i < 21 → Cond.eq (.field (lw_tm i) "java/lang/String" "coder" "B") (.int 0) ∈ lw_F := by decide +kernel
theorem lw_va : ∀ i : Nat, i < 21 → Cond.arrayOf (lw_tv i) .byte ∈ lw_F := by decide +kernel
theorem lw_le : ∀ i : Nat, i < 21 → Cond.eq (.length (lw_tv i)) (.int (Int32.ofNat (lw_ar i).2.2.1)) ∈ lw_F := by decide +kernel
theorem lw_el : ∀ i : Nat, i < 21 → ∀ j : Nat, j < (lw_ar i).2.2.1 → Cond.eq (.elem (lw_tv i) (.int (Int32.ofNat j))) (.int ((lw_ar i).2.2.2.getD j 0)) ∈ lw_F := by decide +kernel
theorem lw_ln : ∀ i : Nat, i < 21 → (lw_ar i).2.2.1 < 2 ^ 31 := by decide +kernel
theorem lw_ix : ∀ i : Nat, i < 21 → pm_AR[2 + i]? = some (.byte, 40 + i, (lw_ar i).2.2.1, (lw_ar i).2.2.2) := by
  intro i hi
  have h : i = 0 ∨ i = 1 ∨ i = 2 ∨ i = 3 ∨ i = 4 ∨ i = 5 ∨ i = 6 ∨ i = 7 ∨ i = 8 ∨ i = 9 ∨ i = 10 ∨ i = 11 ∨ i = 12 ∨ i = 13 ∨ i = 14 ∨ i = 15 ∨ i = 16 ∨ i = 17 ∨ i = 18 ∨ i = 19 ∨ i = 20 := by omega
  rcases h with rfl | rfl | rfl | rfl | rfl | rfl | rfl | rfl | rfl | rfl | rfl | rfl | rfl | rfl | rfl | rfl | rfl | rfl | rfl | rfl | rfl <;> rfl
theorem lw_iy : ∀ i : Nat, i < 21 → pm_SR[i]? = some ((lw_sr i).1, (lw_sr i).2.1, (lw_sr i).2.2.1, 10 + i) := by decide +kernel
theorem lw_st : ∀ i : Nat, i < 21 → Cond.stringRef (lw_sr i).1 (lw_sr i).2.1 (lw_sr i).2.2.1 ∈ tables_1 := by decide +kernel
theorem lw_e1 : ∀ j : Nat, j < 29 → Cond.eq (.elem (.static "CircuitChecker" "TIGHTNESS" "[I") (.int (Int32.ofNat j))) (.int (pk_TI.getD j 0)) ∈ lw_F := by decide +kernel
theorem lw_e2 : ∀ j : Nat, j < 29 → Cond.eq (.elem (.static "CircuitChecker" "COST" "[I") (.int (Int32.ofNat j))) (.int (pk_CO.getD j 0)) ∈ lw_F := by decide +kernel
theorem lw_nc {a b : String} {args : Array Value} {s : State} (h : (Cond.not (.castable a b)).before args s = true) : vs_N a b s := by
  unfold vs_N
  cases h1 : s.vm.findClass a with
  | none => simp [Cond.before, Cond.holds, Cond.value, h1] at h
  | some c =>
    cases h2 : s.vm.findClass b with
    | none => simp [Cond.before, Cond.holds, Cond.value, h1, h2] at h
    | some t =>
      refine ⟨c, t, rfl, rfl, ?_⟩
      simpa [Cond.before, Cond.holds, Cond.value, h1, h2] using h
theorem lw_arr {s : State} {cA comp : ClassId} {k : Class} {ty : FieldType} (h : s.vm.classes[cA]? = some k) (hk : k.kind = .array comp ty) : ArrOfT s cA ty := fun n z => ⟨fun q h9 => (by cases h9), k, h, comp, hk⟩
theorem lw_cls {s : State} {a : Array Value} (hTS : ∀ w ∈ pm_TS, w.before a s = true) : ∀ ci : Nat, ∃ q : ClassId × (Nat → Nat), ∀ r : vw_C, pm_cl[ci]? = some r → u_Kn s r.1 r.2.1 r.2.2 q.1 q.2
  | 0 => by
    obtain ⟨cC, iS, hk⟩ := u_known (C := "CircuitChecker") (T := pT0) (N := 8) (n := 8) hTS pW0 (hTS _ (pm_in 30 (by decide +kernel) rfl))
    exact ⟨(cC, iS), fun r hr => by cases hr; exact hk⟩
  | 1 => by
    obtain ⟨cC, iS, hk⟩ := u_known (C := "CircuitChecker$Tape") (T := pT1) (N := 2) (n := 2) hTS pW1 (hTS _ (pm_in 38 (by decide +kernel) rfl))
    exact ⟨(cC, iS), fun r hr => by cases hr; exact hk⟩
  | 2 => by
    obtain ⟨cC, iS, hk⟩ := u_known (C := "CircuitChecker$Circuit") (T := pT2) (N := 11) (n := 11) hTS pW2 (hTS _ (pm_in 56 (by decide +kernel) rfl))
    exact ⟨(cC, iS), fun r hr => by cases hr; exact hk⟩
  | 3 => by
    obtain ⟨cC, iS, hk⟩ := u_known (C := "CircuitChecker$Code") (T := pT3) (N := 3) (n := 3) hTS pW3 (hTS _ (pm_in 62 (by decide +kernel) rfl))
    exact ⟨(cC, iS), fun r hr => by cases hr; exact hk⟩
  | 4 => by
    obtain ⟨cC, iS, hk⟩ := u_known (C := "CircuitChecker$TextReader") (T := pT4) (N := 11) (n := 11) hTS pW4 (hTS _ (pm_in 145 (by decide +kernel) rfl))
    exact ⟨(cC, iS), fun r hr => by cases hr; exact hk⟩
  | 5 => by
    obtain ⟨cC, iS, hk⟩ := u_known (C := "CircuitChecker$Tokens") (T := pT5) (N := 7) (n := 7) hTS pW5 (hTS _ (pm_in 151 (by decide +kernel) rfl))
    exact ⟨(cC, iS), fun r hr => by cases hr; exact hk⟩
  | 6 => by
    obtain ⟨cC, iS, hk⟩ := u_known (C := "CircuitChecker$Values") (T := pT6) (N := 5) (n := 5) hTS pW6 (hTS _ (pm_in 219 (by decide +kernel) rfl))
    exact ⟨(cC, iS), fun r hr => by cases hr; exact hk⟩
  | 7 => by
    obtain ⟨cC, iS, hk⟩ := u_known (C := "CircuitChecker$Steps") (T := pT7) (N := 12) (n := 12) hTS pW7 (hTS _ (pm_in 243 (by decide +kernel) rfl))
    exact ⟨(cC, iS), fun r hr => by cases hr; exact hk⟩
  | 8 => by
    obtain ⟨cC, iS, hk⟩ := u_known (C := "CircuitChecker$Claims") (T := pT8) (N := 6) (n := 6) hTS pW8 (hTS _ (pm_in 299 (by decide +kernel) rfl))
    exact ⟨(cC, iS), fun r hr => by cases hr; exact hk⟩
  | 9 => by
    obtain ⟨cC, iS, hk⟩ := u_known (C := "CircuitChecker$Trace") (T := pT9) (N := 4) (n := 4) hTS pW9 (hTS _ (pm_in 324 (by decide +kernel) rfl))
    exact ⟨(cC, iS), fun r hr => by cases hr; exact hk⟩
  | 10 => by
    obtain ⟨cC, iS, hk⟩ := u_known (C := "CircuitCheckerModel") (T := pT10) (N := 53) (n := 53) hTS pW10 (hTS _ (pm_in 1164 (by decide +kernel) rfl))
    exact ⟨(cC, iS), fun r hr => by cases hr; exact hk⟩
  | 11 => by
    obtain ⟨cC, iS, hk⟩ := u_known (C := "CircuitCheckerModel$Wrong") (T := pT11) (N := 8) (n := 8) hTS pW11 (hTS _ (pm_in 1374 (by decide +kernel) rfl))
    exact ⟨(cC, iS), fun r hr => by cases hr; exact hk⟩
  | 12 => by
    obtain ⟨cC, iS, hk⟩ := u_known (C := "java/lang/IllegalStateException") (T := pT12) (N := 0) (n := 6) hTS (fun w hw => by cases hw) (hTS _ (pm_in 961 (by decide +kernel) rfl))
    exact ⟨(cC, iS), fun r hr => by cases hr; exact hk⟩
  | 13 => by
    obtain ⟨cC, iS, hk⟩ := u_known (C := "java/lang/IllegalArgumentException") (T := pT13) (N := 0) (n := 6) hTS (fun w hw => by cases hw) (hTS _ (pm_in 1038 (by decide +kernel) rfl))
    exact ⟨(cC, iS), fun r hr => by cases hr; exact hk⟩
  | 14 => by
    obtain ⟨cC, iS, hk⟩ := u_known (C := "java/util/NoSuchElementException") (T := pT14) (N := 0) (n := 6) hTS (fun w hw => by cases hw) (hTS _ (pm_in 1065 (by decide +kernel) rfl))
    exact ⟨(cC, iS), fun r hr => by cases hr; exact hk⟩
  | n + 15 => ⟨(0, fun _ => 0), fun r hr => by cases hr⟩
set_option maxHeartbeats 4000000 in
theorem lw_T {p : Program} {s : State} {m : MethodId} {meth : Method} {c : Code} (l : Launch) {b L : Nat} {xs : Nat → Int32} (hL : L ≤ 3072) (C0 : lw_At p s m meth c b L xs) :
    ∃ g : pmG, g.1 = l ∧ g.2.2.1 = s.heap.size ∧ g.2.2.2.1 0 = b ∧ g.2.2.2.2.2.1 = L ∧ g.2.2.2.2.2.2 = xs ∧ pm_T g s := by
  obtain ⟨-, -, -, -, -, hts, hX, hbl, -, hgv⟩ := C0
  have hs := flat_of_before _ hgv
  have hA : ∀ a : Nat, a < s.heap.size → ¬ (fun q : Nat => s.heap.size ≤ q) a := fun a h => Nat.not_le.mpr h
  have htb : ∀ w ∈ tables_1, w.before #[Value.ref b] s = true := fun w h => hts w (List.mem_append_right _ h)
  have hti : ∀ (i : Nat) (w : Cond), tables_1[i]? = some w → w.before #[Value.ref b] s = true := fun i w h => htb w (List.mem_of_getElem? h)
  have hTS : ∀ w ∈ pm_TS, w.before #[Value.ref b] s = true := fun w h => hts w (List.mem_filter.mp h).1
  obtain ⟨D, hD⟩ := Classical.axiomOfChoice (lw_cls hTS)
  obtain ⟨c1, k1, m1, a1, b1, d1⟩ := Cond.arrayClass_spec (hti 81 (Cond.arrayClass .int) (by decide +kernel))
  obtain ⟨c2, k2, m2, a2, b2, d2⟩ := Cond.arrayClass_spec (hti 54 (Cond.arrayClass .byte) (by decide +kernel))
  obtain ⟨c3, k3, m3, a3, b3, d3⟩ := Cond.arrayClass_spec (hti 1335 (Cond.arrayClass .boolean) (by decide +kernel))
  obtain ⟨c4, k4, m4, a4, b4, d4⟩ := Cond.arrayClass_spec (hti 241 (Cond.arrayClass .long) (by decide +kernel))
  have o5 := hti 1171 (Cond.arrayOver (.array .int)) (by decide +kernel)
  obtain ⟨m5, c5, k5, -, -, b5, d5, a5⟩ := arrayOverA_spec o5
  have o6 := hti 1173 (Cond.arrayOver (.array .boolean)) (by decide +kernel)
  obtain ⟨m6, c6, k6, -, -, b6, d6, a6⟩ := arrayOverA_spec o6
  obtain ⟨t1, v1, T1⟩ := va_Tof (args := #[Value.ref b]) (s := s) (tm := .static "CircuitChecker" "TIGHTNESS" "[I") (ty := .int) (N := 29) (f := fun j => .int (pk_TI.getD j 0)) (A := fun q : Nat => s.heap.size ≤ q) (by decide) (hs _ (by decide +kernel)) (va_eqt (hs _ (by decide +kernel))) (fun j hj => va_eqt (hs _ (lw_e1 j hj))) hA
  obtain ⟨t2, v2, T2⟩ := va_Tof (args := #[Value.ref b]) (s := s) (tm := .static "CircuitChecker" "COST" "[I") (ty := .int) (N := 29) (f := fun j => .int (pk_CO.getD j 0)) (A := fun q : Nat => s.heap.size ≤ q) (by decide) (hs _ (by decide +kernel)) (va_eqt (hs _ (by decide +kernel))) (fun j hj => va_eqt (hs _ (lw_e2 j hj))) hA
  have z5 := va_Zqof (args := #[Value.ref b]) (s := s) (C := "jdk/internal/util/Preconditions") (n := "SIOOBE_FORMATTER") (d := "Ljava/util/function/BiFunction;") (A := fun q : Nat => s.heap.size ≤ q) (hti 687 _ (by decide +kernel)) (hti 22 _ (by decide +kernel)) (hs _ (by decide +kernel)) hA
  obtain ⟨x5, z5⟩ : ∃ x : Nat, va_Z "jdk/internal/util/Preconditions" "SIOOBE_FORMATTER" "Ljava/util/function/BiFunction;" .null (fun q : Nat => s.heap.size ≤ q) s s.heap ∨ va_Z "jdk/internal/util/Preconditions" "SIOOBE_FORMATTER" "Ljava/util/function/BiFunction;" (.ref x) (fun q : Nat => s.heap.size ≤ q) s s.heap := by
    rcases z5 with h | ⟨t, h⟩
    · exact ⟨0, Or.inl h⟩
    · exact ⟨t, Or.inr h⟩
  have z6 := va_Zqof (args := #[Value.ref b]) (s := s) (C := "java/lang/Throwable") (n := "UNASSIGNED_STACK") (d := "[Ljava/lang/StackTraceElement;") (A := fun q : Nat => s.heap.size ≤ q) (hti 987 _ (by decide +kernel)) (hti 15 _ (by decide +kernel)) (hs _ (by decide +kernel)) hA
  obtain ⟨x6, z6⟩ : ∃ x : Nat, va_Z "java/lang/Throwable" "UNASSIGNED_STACK" "[Ljava/lang/StackTraceElement;" .null (fun q : Nat => s.heap.size ≤ q) s s.heap ∨ va_Z "java/lang/Throwable" "UNASSIGNED_STACK" "[Ljava/lang/StackTraceElement;" (.ref x) (fun q : Nat => s.heap.size ≤ q) s s.heap := by
    rcases z6 with h | ⟨t, h⟩
    · exact ⟨0, Or.inl h⟩
    · exact ⟨t, Or.inr h⟩
  have z7 := va_Zqof (args := #[Value.ref b]) (s := s) (C := "java/lang/Throwable") (n := "SUPPRESSED_SENTINEL") (d := "Ljava/util/List;") (A := fun q : Nat => s.heap.size ≤ q) (hti 989 _ (by decide +kernel)) (hti 15 _ (by decide +kernel)) (hs _ (by decide +kernel)) hA
  obtain ⟨x7, z7⟩ : ∃ x : Nat, va_Z "java/lang/Throwable" "SUPPRESSED_SENTINEL" "Ljava/util/List;" .null (fun q : Nat => s.heap.size ≤ q) s s.heap ∨ va_Z "java/lang/Throwable" "SUPPRESSED_SENTINEL" "Ljava/util/List;" (.ref x) (fun q : Nat => s.heap.size ≤ q) s s.heap := by
    rcases z7 with h | ⟨t, h⟩
    · exact ⟨0, Or.inl h⟩
    · exact ⟨t, Or.inr h⟩
  have hS : ∀ i : Nat, ∃ q : Nat × Nat, i < 21 → (lw_tm i).eval #[Value.ref b] s none [] s = some (.ref q.1) ∧ va_O "java/lang/String" q.1 (fun q : Nat => s.heap.size ≤ q) s s.heap ∧ va_OF "java/lang/String" "coder" "B" (.int 0) q.1 (fun q : Nat => s.heap.size ≤ q) s s.heap ∧ va_OF "java/lang/String" "value" "[B" (.ref q.2) q.1 (fun q : Nat => s.heap.size ≤ q) s s.heap ∧ va_T .byte q.2 (lw_ar i).2.2.1 (fun j => .int ((lw_ar i).2.2.2.getD j 0)) (fun q : Nat => s.heap.size ≤ q) s s.heap := by
    intro i
    by_cases hi : i < 21
    · obtain ⟨a, c9, cA, kA, q1, q2, q3, q4, q5, q6, -⟩ := Cond.exactly_spec (args := #[Value.ref b]) (first := s) (o := none) (s := s) (idx := []) (t := lw_tm i) (cls := "java/lang/String") (hs _ (lw_ex i hi))
      obtain ⟨t, ht, hT⟩ := va_Tof (args := #[Value.ref b]) (s := s) (tm := lw_tv i) (ty := .byte) (N := (lw_ar i).2.2.1) (f := fun j => .int ((lw_ar i).2.2.2.getD j 0)) (A := fun q : Nat => s.heap.size ≤ q) (lw_ln i hi) (hs _ (lw_va i hi)) (va_eqt (hs _ (lw_le i hi))) (fun j hj => va_eqt (hs _ (lw_el i hi j hj))) hA
      exact ⟨(a, t), fun _ => ⟨q1, ⟨cA, q3, q5, by rw [q6]; exact q2, hA a (Array.getElem?_eq_some_iff.mp q3).1⟩, vk_OFof q1 (va_eqt (hs _ (lw_co i hi))) hA, vk_OFof q1 ht hA, hT⟩⟩
    · exact ⟨(0, 0), fun h => absurd h hi⟩
  obtain ⟨ad, had⟩ := Classical.axiomOfChoice hS
  let X : Nat → Nat := fun i => if i = 0 then b else if i = 1 then t1 else if i = 2 then t2 else if i = 5 then x5 else if i = 6 then x6 else if i = 7 then x7 else if i < 40 then (ad (i - 10)).1 else (ad (i - 40)).2
  have hX1 : ∀ i : Nat, i < 21 → X (10 + i) = (ad i).1 := fun i hi => by
    show (if 10 + i = 0 then b else if 10 + i = 1 then t1 else if 10 + i = 2 then t2 else if 10 + i = 5 then x5 else if 10 + i = 6 then x6 else if 10 + i = 7 then x7 else if 10 + i < 40 then (ad (10 + i - 10)).1 else (ad (10 + i - 40)).2) = _
    rw [if_neg (by omega), if_neg (by omega), if_neg (by omega), if_neg (by omega), if_neg (by omega), if_neg (by omega), if_pos (by omega), show 10 + i - 10 = i by omega]
  have hX2 : ∀ i : Nat, i < 21 → X (40 + i) = (ad i).2 := fun i hi => by
    show (if 40 + i = 0 then b else if 40 + i = 1 then t1 else if 40 + i = 2 then t2 else if 40 + i = 5 then x5 else if 40 + i = 6 then x6 else if 40 + i = 7 then x7 else if 40 + i < 40 then (ad (40 + i - 10)).1 else (ad (40 + i - 40)).2) = _
    rw [if_neg (by omega), if_neg (by omega), if_neg (by omega), if_neg (by omega), if_neg (by omega), if_neg (by omega), if_neg (by omega), show 40 + i - 40 = i by omega]
  refine ⟨(l, (fun i => (D i).1, fun i => (D i).2), s.heap.size, X, fun t => ([0, c1, c2, c3, c4, c5, c6] : List ClassId).getD t 0, L, xs), rfl, rfl, rfl, rfl, rfl, ⟨fun ci r hr => hD ci r hr, fun k q hq => ?_⟩, fun w hw => ?_, ?_, ?_, ?_, ?_, ?_, ?_, ?_, ?_, ?_, ?_⟩
  · match k, hq with
    | 0, hq => cases hq; exact ⟨lw_arr b1 d1, a1⟩
    | 1, hq => cases hq; exact ⟨lw_arr b2 d2, a2⟩
    | 2, hq => cases hq; exact ⟨lw_arr b3 d3, a3⟩
    | 3, hq => cases hq; exact ⟨lw_arr b4 d4, a4⟩
    | 4, hq => cases hq; exact ⟨lw_arr b5 d5, a5⟩
    | 5, hq => cases hq; exact ⟨lw_arr b6 d6, a6⟩
    | n + 6, hq => cases hq
  · have hm := List.mem_filter.mp hw
    refine va_Nw.of ?_ (hts w hm.1)
    have h2 := hm.2
    cases w <;> first | rfl | cases h2
  · intro q hq
    simp only [pm_ST, List.mem_cons, List.not_mem_nil, or_false] at hq
    rcases hq with rfl | rfl | rfl
    · exact va_Zof (hti 885 _ (by decide +kernel)) (hti 1 _ (by decide +kernel)) v1 hA
    · exact va_Zof (hti 868 _ (by decide +kernel)) (hti 1 _ (by decide +kernel)) v2 hA
    · exact va_Zof (hti 671 _ (by decide +kernel)) (hti 20 _ (by decide +kernel)) (va_eqi (hs _ (by decide +kernel))) hA
  · intro q hq
    obtain ⟨i, hi⟩ := List.mem_iff_getElem?.mp hq
    match i, hi with
    | 0, hi => cases hi; exact T1
    | 1, hi => cases hi; exact T2
    | n + 2, hi =>
      have hn : n < 21 := by
        have := (List.getElem?_eq_some_iff.mp hi).1
        have h23 : pm_AR.length = 23 := by decide +kernel
        omega
      rw [show n + 2 = 2 + n by omega, lw_ix n hn] at hi
      cases hi
      show va_T .byte (X (40 + n)) _ _ _ s s.heap
      rw [hX2 n hn]
      exact (had n hn).2.2.2.2
  · intro i hi
    show va_O _ (X (10 + i)) _ s s.heap ∧ va_OF _ _ _ _ (X (10 + i)) _ s s.heap ∧ va_OF _ _ _ (.ref (X (40 + i))) (X (10 + i)) _ s s.heap
    rw [hX1 i hi, hX2 i hi]
    exact ⟨(had i hi).2.1, (had i hi).2.2.1, (had i hi).2.2.2.1⟩
  · intro q hq
    obtain ⟨i, hi⟩ := List.mem_iff_getElem?.mp hq
    have hn : i < 21 := by
      have := (List.getElem?_eq_some_iff.mp hi).1
      have h21 : pm_SR.length = 21 := by decide +kernel
      omega
    rw [lw_iy i hn] at hi
    cases hi
    show vk_R _ _ _ (X (10 + i)) s
    rw [hX1 i hn]
    exact vk_R.of (A := #[Value.ref b]) (htb _ (lw_st i hn)) (had i hn).1
  · obtain ⟨scr, y1, y2, y3, y4, y5⟩ := hX
    refine ⟨scr, y1, y2, y3, Nat.le_of_eq y4.symm, by rw [y4], fun j hj => y5 j hj, hA b hbl⟩
  · intro q hq
    simp only [pm_SQ, List.mem_cons, List.not_mem_nil, or_false] at hq
    rcases hq with rfl | rfl | rfl
    · exact z5
    · exact z6
    · exact z7
  · exact fun w hw => pm_face_warm (State.WarmedH.refl s) (List.mem_filter.mp hw).2 (hts w (List.mem_filter.mp hw).1)
  · intro q hq
    have key : ∀ (C n d : String), (Cond.laysStatic C n d).before #[Value.ref b] s = true → vs_L C n d (fun q : Nat => s.heap.size ≤ q) s s.heap := by
      intro C n d h
      obtain ⟨c9, k9, i9, f9, a9, cell9, g1, g2, g3, g4, g5, g6, g7, g8, g9⟩ := Cond.laysStatic_spec h
      exact ⟨c9, k9, i9, f9, a9, cell9, g1, g2, g3, g4, g5, g6, g7, g8, g9, hA a9 (Array.getElem?_eq_some_iff.mp g5).1⟩
    simp only [pm_LS, List.mem_cons, List.not_mem_nil, or_false] at hq
    rcases hq with rfl | rfl
    · exact key _ _ _ (hti 987 _ (by decide +kernel))
    · exact key _ _ _ (hti 989 _ (by decide +kernel))
  · exact lw_nc (hs _ (by decide +kernel : Cond.not (.castable "java/lang/IllegalArgumentException" "java/util/NoSuchElementException") ∈ lw_F))
  · intro ty hty
    simp only [pm_OV, List.mem_cons, List.not_mem_nil, or_false] at hty
    rcases hty with rfl | rfl
    · exact o5
    · exact o6
