/-! fewer locals, by their places -/
theorem pm_wk {g : pmG} {k : pmK} {d rc rs pc : Nat} {L L' : List (Nat × Value)} {S : List Value} {K : List (Nat × Nat)} {R : Nat → Nat → Value} {I : Nat → Nat → Int32} {J : Nat → Nat → Int64} {o : Outcome} {Z : pmM} (ks : List Nat) (hL : ks.filterMap (fun i => L[i]?) = L') (n : pmE g k d rc rs pc L' S K R I J o Z) : pmE g k d rc rs pc L S K R I J o Z := by
  intro p e Rm s m args below meth c H locs cells slots mc ms ls hC h1 h2 h3 h4 hl hA
  refine n p e Rm s m args below meth c H locs cells slots mc ms ls hC h1 h2 h3 h4 ⟨hl.1, hl.2.1, fun q hq => ?_⟩ hA
  obtain ⟨q0, hq0, rfl⟩ := List.mem_map.mp hq
  rw [← hL] at hq0
  obtain ⟨i, -, hi⟩ := List.mem_filterMap.mp hq0
  exact hl.2.2 _ (List.mem_map.mpr ⟨q0, List.mem_of_getElem? hi, rfl⟩)
theorem pm_out {x : Int32} {lo hi : Int} (h : ∀ c : Int, lo ≤ c → c ≤ hi → ¬ x = Int32.ofInt c) : x.toInt < lo ∨ hi < x.toInt := by
  by_cases h1 : x.toInt < lo
  · exact Or.inl h1
  · by_cases h2 : hi < x.toInt
    · exact Or.inr h2
    · exact absurd (Int32.ofInt_toInt x).symm (h x.toInt (by omega) (by omega))
theorem pm_lkD {ps : List (Int × Int)} {dflt : Int} {x : Int32} : ∀ (ks : List Int), ps.map (fun q => q.1) = ks → (∀ q ∈ ks, ¬ x = Int32.ofInt q) → Op.lookupswitch.offset ps dflt x.toInt = dflt := by
  induction ps with
  | nil => intro ks _ _; rfl
  | cons q r ih =>
    intro ks hk hx
    obtain ⟨a, o⟩ := q
    subst hk
    rw [Op.lookupswitch.offset_cons, if_neg, ih _ rfl (fun q hq => hx q (List.mem_cons_of_mem _ hq))]
    intro he
    exact hx a (List.mem_cons_self ..) (by rw [he]; exact (Int32.ofInt_toInt x).symm)
/-! where the class's cells lie: as its constructors make them -/
def pk_K : List (Nat × Nat) := [(0, 0), (0, 1), (2, 65536), (0, 2), (1, 60), (1, 60), (1, 60), (0, 3), (1, 4000), (1, 4000), (0, 3), (1, 4000), (1, 4000), (0, 4), (1, 60), (1, 60), (1, 125), (0, 5), (1, 4001), (1, 4001), (1, 4001), (1, 4001), (0, 6), (4, 51200), (1, 140), (0, 7), (1, 2048), (1, 2048), (1, 257), (1, 256), (1, 256), (1, 256), (1, 256), (0, 8), (4, 624), (1, 256), (1, 256), (0, 9), (1, 256), (1, 256)]
def pk_Rl : List (Nat × Nat × Value) := [(0, 0, .ref 1), (0, 1, .ref 3), (0, 2, .ref 13), (0, 3, .ref 22), (0, 4, .ref 25), (0, 5, .ref 33), (0, 6, .ref 37), (1, 0, .ref 2), (3, 0, .ref 4), (3, 1, .ref 5), (3, 2, .ref 6), (3, 3, .ref 7), (3, 4, .ref 10), (7, 0, .ref 8), (7, 1, .ref 9), (10, 0, .ref 11), (10, 1, .ref 12), (13, 0, .ref 3), (13, 1, .ref 17), (13, 4, .ref 14), (13, 5, .ref 15), (13, 6, .ref 16), (17, 0, .ref 1), (17, 1, .ref 18), (17, 2, .ref 19), (17, 3, .ref 20), (17, 4, .ref 21), (22, 0, .ref 3), (22, 1, .ref 23), (22, 2, .ref 24), (25, 0, .ref 3), (25, 4, .ref 26), (25, 5, .ref 27), (25, 6, .ref 28), (25, 7, .ref 29), (25, 9, .ref 30), (25, 10, .ref 31), (25, 11, .ref 32), (33, 0, .ref 25), (33, 1, .ref 34), (33, 3, .ref 35), (33, 5, .ref 36), (37, 0, .ref 38), (37, 1, .ref 39)]
def pk_R (R : Nat → Nat → Value) : Prop := ∀ q ∈ pk_Rl, R q.1 q.2.1 = q.2.2
theorem rr_0_0 {R : Nat → Nat → Value} (h : pk_R R) : R 0 0 = .ref 1 := h _ (List.mem_of_getElem? (i := 0) rfl)
theorem rr_0_1 {R : Nat → Nat → Value} (h : pk_R R) : R 0 1 = .ref 3 := h _ (List.mem_of_getElem? (i := 1) rfl)
theorem rr_0_2 {R : Nat → Nat → Value} (h : pk_R R) : R 0 2 = .ref 13 := h _ (List.mem_of_getElem? (i := 2) rfl)
theorem rr_0_3 {R : Nat → Nat → Value} (h : pk_R R) : R 0 3 = .ref 22 := h _ (List.mem_of_getElem? (i := 3) rfl)
theorem rr_0_4 {R : Nat → Nat → Value} (h : pk_R R) : R 0 4 = .ref 25 := h _ (List.mem_of_getElem? (i := 4) rfl)
theorem rr_0_5 {R : Nat → Nat → Value} (h : pk_R R) : R 0 5 = .ref 33 := h _ (List.mem_of_getElem? (i := 5) rfl)
theorem rr_0_6 {R : Nat → Nat → Value} (h : pk_R R) : R 0 6 = .ref 37 := h _ (List.mem_of_getElem? (i := 6) rfl)
theorem rr_1_0 {R : Nat → Nat → Value} (h : pk_R R) : R 1 0 = .ref 2 := h _ (List.mem_of_getElem? (i := 7) rfl)
theorem rr_3_0 {R : Nat → Nat → Value} (h : pk_R R) : R 3 0 = .ref 4 := h _ (List.mem_of_getElem? (i := 8) rfl)
theorem rr_3_1 {R : Nat → Nat → Value} (h : pk_R R) : R 3 1 = .ref 5 := h _ (List.mem_of_getElem? (i := 9) rfl)
theorem rr_3_2 {R : Nat → Nat → Value} (h : pk_R R) : R 3 2 = .ref 6 := h _ (List.mem_of_getElem? (i := 10) rfl)
theorem rr_3_3 {R : Nat → Nat → Value} (h : pk_R R) : R 3 3 = .ref 7 := h _ (List.mem_of_getElem? (i := 11) rfl)
theorem rr_3_4 {R : Nat → Nat → Value} (h : pk_R R) : R 3 4 = .ref 10 := h _ (List.mem_of_getElem? (i := 12) rfl)
theorem rr_7_0 {R : Nat → Nat → Value} (h : pk_R R) : R 7 0 = .ref 8 := h _ (List.mem_of_getElem? (i := 13) rfl)
theorem rr_7_1 {R : Nat → Nat → Value} (h : pk_R R) : R 7 1 = .ref 9 := h _ (List.mem_of_getElem? (i := 14) rfl)
theorem rr_10_0 {R : Nat → Nat → Value} (h : pk_R R) : R 10 0 = .ref 11 := h _ (List.mem_of_getElem? (i := 15) rfl)
theorem rr_10_1 {R : Nat → Nat → Value} (h : pk_R R) : R 10 1 = .ref 12 := h _ (List.mem_of_getElem? (i := 16) rfl)
theorem rr_13_0 {R : Nat → Nat → Value} (h : pk_R R) : R 13 0 = .ref 3 := h _ (List.mem_of_getElem? (i := 17) rfl)
theorem rr_13_1 {R : Nat → Nat → Value} (h : pk_R R) : R 13 1 = .ref 17 := h _ (List.mem_of_getElem? (i := 18) rfl)
theorem rr_13_4 {R : Nat → Nat → Value} (h : pk_R R) : R 13 4 = .ref 14 := h _ (List.mem_of_getElem? (i := 19) rfl)
theorem rr_13_5 {R : Nat → Nat → Value} (h : pk_R R) : R 13 5 = .ref 15 := h _ (List.mem_of_getElem? (i := 20) rfl)
theorem rr_13_6 {R : Nat → Nat → Value} (h : pk_R R) : R 13 6 = .ref 16 := h _ (List.mem_of_getElem? (i := 21) rfl)
theorem rr_17_0 {R : Nat → Nat → Value} (h : pk_R R) : R 17 0 = .ref 1 := h _ (List.mem_of_getElem? (i := 22) rfl)
theorem rr_17_1 {R : Nat → Nat → Value} (h : pk_R R) : R 17 1 = .ref 18 := h _ (List.mem_of_getElem? (i := 23) rfl)
theorem rr_17_2 {R : Nat → Nat → Value} (h : pk_R R) : R 17 2 = .ref 19 := h _ (List.mem_of_getElem? (i := 24) rfl)
theorem rr_17_3 {R : Nat → Nat → Value} (h : pk_R R) : R 17 3 = .ref 20 := h _ (List.mem_of_getElem? (i := 25) rfl)
theorem rr_17_4 {R : Nat → Nat → Value} (h : pk_R R) : R 17 4 = .ref 21 := h _ (List.mem_of_getElem? (i := 26) rfl)
theorem rr_22_0 {R : Nat → Nat → Value} (h : pk_R R) : R 22 0 = .ref 3 := h _ (List.mem_of_getElem? (i := 27) rfl)
theorem rr_22_1 {R : Nat → Nat → Value} (h : pk_R R) : R 22 1 = .ref 23 := h _ (List.mem_of_getElem? (i := 28) rfl)
theorem rr_22_2 {R : Nat → Nat → Value} (h : pk_R R) : R 22 2 = .ref 24 := h _ (List.mem_of_getElem? (i := 29) rfl)
theorem rr_25_0 {R : Nat → Nat → Value} (h : pk_R R) : R 25 0 = .ref 3 := h _ (List.mem_of_getElem? (i := 30) rfl)
theorem rr_25_4 {R : Nat → Nat → Value} (h : pk_R R) : R 25 4 = .ref 26 := h _ (List.mem_of_getElem? (i := 31) rfl)
theorem rr_25_5 {R : Nat → Nat → Value} (h : pk_R R) : R 25 5 = .ref 27 := h _ (List.mem_of_getElem? (i := 32) rfl)
theorem rr_25_6 {R : Nat → Nat → Value} (h : pk_R R) : R 25 6 = .ref 28 := h _ (List.mem_of_getElem? (i := 33) rfl)
theorem rr_25_7 {R : Nat → Nat → Value} (h : pk_R R) : R 25 7 = .ref 29 := h _ (List.mem_of_getElem? (i := 34) rfl)
theorem rr_25_9 {R : Nat → Nat → Value} (h : pk_R R) : R 25 9 = .ref 30 := h _ (List.mem_of_getElem? (i := 35) rfl)
theorem rr_25_10 {R : Nat → Nat → Value} (h : pk_R R) : R 25 10 = .ref 31 := h _ (List.mem_of_getElem? (i := 36) rfl)
theorem rr_25_11 {R : Nat → Nat → Value} (h : pk_R R) : R 25 11 = .ref 32 := h _ (List.mem_of_getElem? (i := 37) rfl)
theorem rr_33_0 {R : Nat → Nat → Value} (h : pk_R R) : R 33 0 = .ref 25 := h _ (List.mem_of_getElem? (i := 38) rfl)
theorem rr_33_1 {R : Nat → Nat → Value} (h : pk_R R) : R 33 1 = .ref 34 := h _ (List.mem_of_getElem? (i := 39) rfl)
theorem rr_33_3 {R : Nat → Nat → Value} (h : pk_R R) : R 33 3 = .ref 35 := h _ (List.mem_of_getElem? (i := 40) rfl)
theorem rr_33_5 {R : Nat → Nat → Value} (h : pk_R R) : R 33 5 = .ref 36 := h _ (List.mem_of_getElem? (i := 41) rfl)
theorem rr_37_0 {R : Nat → Nat → Value} (h : pk_R R) : R 37 0 = .ref 38 := h _ (List.mem_of_getElem? (i := 42) rfl)
theorem rr_37_1 {R : Nat → Nat → Value} (h : pk_R R) : R 37 1 = .ref 39 := h _ (List.mem_of_getElem? (i := 43) rfl)
