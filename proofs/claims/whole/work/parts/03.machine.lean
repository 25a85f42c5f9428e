/-! THE PURE MACHINE. pmG: launch, class numbers and slots, the first address of ours (base), the addresses of what lies outside, the array classes. pmK: a method: name, bytes, locals, result. pmM: kinds of our cells, references, ints, longs. -/
abbrev pmG : Type := Launch × va_G × Nat × (Nat → Nat) × (Nat → ClassId) × Nat × (Nat → Int32)
abbrev pmK : Type := MethodName × ByteArray × Nat × Option FieldType
abbrev pmM : Type := List (Nat × Nat) × (Nat → Nat → Value) × (Nat → Nat → Int32) × (Nat → Nat → Int64)
def pm_tr (b : Nat) (x : Nat → Nat) (v : Value) : Value := match v with
  | .ref q => .ref (b + q)
  | .retAddr i => .ref (x i)
  | .int y => .int y
  | .long y => .long y
  | .float y => .float y
  | .double y => .double y
  | .null => .null
abbrev pm_t (g : pmG) (v : Value) : Value := pm_tr g.2.2.1 g.2.2.2.1 v
abbrev pm_A (g : pmG) : Nat → Prop := fun q => g.2.2.1 ≤ q
theorem pm_tr_cat (b : Nat) (x : Nat → Nat) (v : Value) : (pm_tr b x v).category = v.category := by cases v <;> rfl
/-! locals -/
def pm_lk : List (Nat × Value) → Nat → Option Value
  | [], _ => none
  | q :: l, i => bif Nat.beq q.1 i then some q.2 else pm_lk l i
def pm_st1 (L : List (Nat × Value)) (i : Nat) (v : Value) : List (Nat × Value) := (i, v) :: L.filter (fun q => !(q.1 == i) && !(q.1 + 1 == i && q.2.category == 2))
def pm_st2 (L : List (Nat × Value)) (i : Nat) (v : Value) : List (Nat × Value) := (i, v) :: L.filter (fun q => !(q.1 == i) && (!(q.1 == i + 1) && !(q.1 + 1 == i && q.2.category == 2)))
def pm_L (g : pmG) (L : List (Nat × Value)) : List (Nat × Value) := L.map (fun q => (q.1, pm_t g q.2))
theorem pm_lk_in : ∀ {L : List (Nat × Value)} {i : Nat} {v : Value}, pm_lk L i = some v → (i, v) ∈ L
  | [], _, _, h => by cases h
  | q :: l, i, v, h => by
    unfold pm_lk at h
    cases hq : Nat.beq q.1 i with
    | true =>
      rw [hq] at h
      have h1 := Nat.eq_of_beq_eq_true hq
      have h2 : q.2 = v := Option.some.inj h
      obtain ⟨q1, q2⟩ := q
      subst h1; subst h2
      exact List.mem_cons_self
    | false =>
      rw [hq] at h
      exact List.mem_cons_of_mem _ (pm_lk_in h)
theorem pm_lk_mem (g : pmG) {L : List (Nat × Value)} {i : Nat} {v : Value} (h : pm_lk L i = some v) : (i, pm_t g v) ∈ pm_L g L := List.mem_map.mpr ⟨(i, v), pm_lk_in h, rfl⟩
theorem pm_lk_at {g : pmG} {L : List (Nat × Value)} {ls : Array Slot} {nL i : Nat} {v : Value} (hl : lv_has ls nL (pm_L g L)) (h : pm_lk L i = some v) : ls[i]? = some (.val (pm_t g v)) := hl.2.2 (i, pm_t g v) (pm_lk_mem g h)
theorem pm_st1_L (g : pmG) (L : List (Nat × Value)) (i : Nat) (v : Value) : (i, pm_t g v) :: (pm_L g L).filter (fun q => !(q.1 == i) && !(q.1 + 1 == i && q.2.category == 2)) = pm_L g (pm_st1 L i v) := by
  unfold pm_st1 pm_L
  rw [List.map_cons, List.filter_map]
  congr 2
  apply List.filter_congr
  intro q _
  show (!(q.1 == i) && !(q.1 + 1 == i && (pm_t g q.2).category == 2)) = _
  rw [pm_tr_cat]
theorem pm_st2_L (g : pmG) (L : List (Nat × Value)) (i : Nat) (v : Value) : (i, pm_t g v) :: (pm_L g L).filter (fun q => !(q.1 == i) && (!(q.1 == i + 1) && !(q.1 + 1 == i && q.2.category == 2))) = pm_L g (pm_st2 L i v) := by
  unfold pm_st2 pm_L
  rw [List.map_cons, List.filter_map]
  congr 2
  apply List.filter_congr
  intro q _
  show (!(q.1 == i) && (!(q.1 == i + 1) && !(q.1 + 1 == i && (pm_t g q.2).category == 2))) = _
  rw [pm_tr_cat]
/-! memory: one place is set; a new cell is blank -/
def pm_u {α : Type} (I : Nat → Nat → α) (a j : Nat) (v : α) : Nat → Nat → α := fun a' => if a' = a then (fun j' => if j' = j then v else I a j') else I a'
def pm_z {α : Type} (I : Nat → Nat → α) (a : Nat) (v : α) : Nat → Nat → α := fun a' => if a' = a then (fun _ => v) else I a'
theorem pm_u_a {α : Type} (I : Nat → Nat → α) (a j : Nat) (v : α) : pm_u I a j v a = (fun j' => if j' = j then v else I a j') := if_pos rfl
theorem pm_u_n {α : Type} (I : Nat → Nat → α) {a a' : Nat} (j : Nat) (v : α) (h : a' ≠ a) : pm_u I a j v a' = I a' := if_neg h
theorem pm_u_s {α : Type} (I : Nat → Nat → α) (a j : Nat) (v : α) : pm_u I a j v a j = v := by rw [pm_u_a]; exact if_pos rfl
theorem pm_u_j {α : Type} (I : Nat → Nat → α) (a : Nat) {j j' : Nat} (v : α) (h : j' ≠ j) : pm_u I a j v a j' = I a j' := by rw [pm_u_a]; exact if_neg h
theorem pm_z_a {α : Type} (I : Nat → Nat → α) (a : Nat) (v : α) : pm_z I a v a = fun _ => v := if_pos rfl
theorem pm_z_n {α : Type} (I : Nat → Nat → α) {a a' : Nat} (v : α) (h : a' ≠ a) : pm_z I a v a' = I a' := if_neg h
/-! cells: kind (0, class), (1 int 2 byte 3 boolean 4 long 5 int[] 6 boolean[], length) -/
abbrev pm_c0 : vw_C := ("", fun _ => ("", "", "", false), 0)
def pm_isR (s : String) : Bool := match parseFieldDescriptor s with
  | some (.object _) => true
  | some (.array _) => true
  | _ => false
def pm_fv (g : pmG) (q : vw_C) (R : Nat → Nat → Value) (I : Nat → Nat → Int32) (a j : Nat) : Value := bif pm_isR (q.2.1 j).2.2.1 then pm_t g (R a j) else .int (I a j)
/-- what a place of an array of references holds -/
def pm_ro (g : pmG) (v : Value) : Option Nat := match v with
  | .ref q => some (g.2.2.1 + q)
  | _ => none
def pm_cell (g : pmG) (cl : List vw_C) (R : Nat → Nat → Value) (I : Nat → Nat → Int32) (J : Nat → Nat → Int64) (a : Nat) (kd : Nat × Nat) : va_E :=
  if kd.1 = 0 then .inr (kd.2, (List.range (cl.getD kd.2 pm_c0).2.2).map (fun j => pm_fv g (cl.getD kd.2 pm_c0) R I a j))
  else if kd.1 = 4 then .inl (g.2.2.2.2.1 4, kd.2, .inr (.inl (J a)))
  else if kd.1 = 5 then .inl (g.2.2.2.2.1 5, kd.2, .inr (.inr (.inr (.inr (fun j => pm_ro g (R a j))))))
  else if kd.1 = 6 then .inl (g.2.2.2.2.1 6, kd.2, .inr (.inr (.inr (.inr (fun j => pm_ro g (R a j))))))
  else .inl (g.2.2.2.2.1 kd.1, kd.2, .inl (I a))
def pm_wd (g : pmG) (cl : List vw_C) (K : List (Nat × Nat)) (R : Nat → Nat → Value) (I : Nat → Nat → Int32) (J : Nat → Nat → Int64) : va_W := K.mapIdx (fun a kd => (g.2.2.1 + a, pm_cell g cl R I J a kd))
section PMW
variable {g : pmG} {cl : List vw_C} {K : List (Nat × Nat)} {R R' : Nat → Nat → Value} {I I' : Nat → Nat → Int32} {J J' : Nat → Nat → Int64} {a : Nat} {kd : Nat × Nat}
theorem pm_wd_at (h : K[a]? = some kd) : (pm_wd g cl K R I J)[a]? = some (g.2.2.1 + a, pm_cell g cl R I J a kd) := by
  unfold pm_wd
  rw [List.getElem?_mapIdx, h]
  rfl
theorem pm_wd_D (g : pmG) (cl : List vw_C) (K : List (Nat × Nat)) (R : Nat → Nat → Value) (I : Nat → Nat → Int32) (J : Nat → Nat → Int64) : va_D (pm_A g) (pm_wd g cl K R I J) := by
  have key : ∀ (i : Nat) (q : Nat × va_E), (pm_wd g cl K R I J)[i]? = some q → q.1 = g.2.2.1 + i := by
    intro i q h
    unfold pm_wd at h
    rw [List.getElem?_mapIdx] at h
    cases hk : K[i]? with
    | none => rw [hk] at h; cases h
    | some kd => rw [hk] at h; cases h; rfl
  refine ⟨fun i j p q hi hj hpq => ?_, fun i q hi => ?_⟩
  · have h1 := key i p hi
    have h2 := key j q hj
    omega
  · have h1 := key i q hi
    show g.2.2.1 ≤ q.1
    omega
theorem pm_wd_set (h : K[a]? = some kd) (hc : ∀ (a' : Nat) (kd' : Nat × Nat), a' ≠ a → pm_cell g cl R' I' J' a' kd' = pm_cell g cl R I J a' kd') : (pm_wd g cl K R I J).set a (g.2.2.1 + a, pm_cell g cl R' I' J' a kd) = pm_wd g cl K R' I' J' := by
  apply List.ext_getElem?
  intro i
  unfold pm_wd
  rw [List.getElem?_mapIdx]
  by_cases hi : i = a
  · subst hi
    rw [List.getElem?_set_self (by rw [List.length_mapIdx]; exact (List.getElem?_eq_some_iff.mp h).1), h]
    rfl
  · rw [List.getElem?_set_ne (Ne.symm hi), List.getElem?_mapIdx]
    cases K[i]? with
    | none => rfl
    | some kd' => show some (_, pm_cell g cl R I J i kd') = some (_, pm_cell g cl R' I' J' i kd'); rw [hc i kd' hi]
theorem pm_wd_push (hc : ∀ (a' : Nat) (kd' : Nat × Nat), a' ≠ K.length → pm_cell g cl R' I' J' a' kd' = pm_cell g cl R I J a' kd') : pm_wd g cl K R I J ++ [(g.2.2.1 + K.length, pm_cell g cl R' I' J' K.length kd)] = pm_wd g cl (K ++ [kd]) R' I' J' := by
  apply List.ext_getElem?
  intro i
  unfold pm_wd
  rw [List.getElem?_mapIdx]
  by_cases hi : i < K.length
  · rw [List.getElem?_append_left (by rw [List.length_mapIdx]; exact hi), List.getElem?_append_left hi, List.getElem?_mapIdx]
    cases K[i]? with
    | none => rfl
    | some kd' => show some (_, pm_cell g cl R I J i kd') = some (_, pm_cell g cl R' I' J' i kd'); rw [hc i kd' (by omega)]
  · rw [List.getElem?_append_right (by rw [List.length_mapIdx]; omega), List.getElem?_append_right (by omega), List.length_mapIdx]
    by_cases h2 : i = K.length
    · subst h2
      rw [Nat.sub_self]
      rfl
    · rw [show i - K.length = (i - K.length - 1) + 1 by omega]
      rfl
theorem pm_cell_o (h : kd.1 = 0) : pm_cell g cl R I J a kd = .inr (kd.2, (List.range (cl.getD kd.2 pm_c0).2.2).map (fun j => pm_fv g (cl.getD kd.2 pm_c0) R I a j)) := if_pos h
theorem pm_cell_l (n : Nat) : pm_cell g cl R I J a (4, n) = .inl (g.2.2.2.2.1 4, n, .inr (.inl (J a))) := rfl
theorem pm_cell_i (n : Nat) : pm_cell g cl R I J a (1, n) = .inl (g.2.2.2.2.1 1, n, .inl (I a)) := rfl
theorem pm_cell_b (n : Nat) : pm_cell g cl R I J a (2, n) = .inl (g.2.2.2.2.1 2, n, .inl (I a)) := rfl
theorem pm_cell_z (n : Nat) : pm_cell g cl R I J a (3, n) = .inl (g.2.2.2.2.1 3, n, .inl (I a)) := rfl
theorem pm_cell_5 (n : Nat) : pm_cell g cl R I J a (5, n) = .inl (g.2.2.2.2.1 5, n, .inr (.inr (.inr (.inr (fun j => pm_ro g (R a j)))))) := rfl
theorem pm_cell_6 (n : Nat) : pm_cell g cl R I J a (6, n) = .inl (g.2.2.2.2.1 6, n, .inr (.inr (.inr (.inr (fun j => pm_ro g (R a j)))))) := rfl
/-- a cell is what its own row says -/
theorem pm_cell_eq (hR : R' a = R a) (hI : I' a = I a) (hJ : J' a = J a) : pm_cell g cl R' I' J' a kd = pm_cell g cl R I J a kd := by
  unfold pm_cell pm_fv
  rw [hR, hI, hJ]
end PMW
/-! what lies outside our memory: 0 the script, 1 TIGHTNESS, 2 COST, 10 + i the i-th String constant, 40 + i its bytes -/
def pm_ST : List (String × String × String × Value) := [("CircuitChecker", "TIGHTNESS", "[I", .retAddr 1), ("CircuitChecker", "COST", "[I", .retAddr 2), ("java/lang/String", "COMPACT_STRINGS", "Z", .int 1)]
def pm_AR : List (FieldType × Nat × Nat × List Int32) := [(.int, 1, 29, [0, 0, 0, 0, 0, 0, 0, 0, 0, 0, 7, 7, 9, 9, 10, 5, 3, 4, 0, 0, 6, 6, 7, 7, 8, 8, 2, 1, 0]), (.int, 2, 29, [0, 0, 0, 40, 0, 0, 0, 0, 8, 0, 96, 96, 96, 96, 900, 24, 24, 24, 0, 24, 32, 32, 96, 96, 128, 128, 24, 24, 0]), (.byte, 40, 3, [114, 101, 103]), (.byte, 41, 5, [105, 110, 112, 117, 116]), (.byte, 42, 4, [119, 105, 114, 101]), (.byte, 43, 4, [110, 101, 120, 116]), (.byte, 44, 4, [115, 112, 101, 99]), (.byte, 45, 18, [61, 61, 33, 61, 60, 61, 62, 61, 60, 60, 62, 62, 38, 38, 124, 124, 45, 62]), (.byte, 46, 20, [59, 58, 61, 63, 40, 41, 91, 93, 123, 125, 60, 62, 43, 45, 42, 38, 124, 94, 126, 33]), (.byte, 47, 3, [114, 101, 103]), (.byte, 48, 5, [105, 110, 112, 117, 116]), (.byte, 49, 4, [119, 105, 114, 101]), (.byte, 50, 4, [110, 101, 120, 116]), (.byte, 51, 4, [115, 112, 101, 99]), (.byte, 52, 1, [65]), (.byte, 53, 1, [69]), (.byte, 54, 1, [85]), (.byte, 55, 2, [65, 88]), (.byte, 56, 2, [69, 88]), (.byte, 57, 2, [65, 70]), (.byte, 58, 2, [69, 70]), (.byte, 59, 2, [65, 71]), (.byte, 60, 2, [69, 71])]
def pm_SR : List (String × Nat × String × Nat) := [("CircuitChecker$Tokens", 90, "reg", 10), ("CircuitChecker$Tokens", 96, "input", 11), ("CircuitChecker$Tokens", 98, "wire", 12), ("CircuitChecker$Tokens", 100, "next", 13), ("CircuitChecker$Tokens", 102, "spec", 14), ("CircuitChecker$Tokens", 75, "==!=<=>=<<>>&&||->", 15), ("CircuitChecker$Tokens", 85, ";:=?()[]{}<>+-*&|^~!", 16), ("CircuitCheckerModel", 227, "reg", 17), ("CircuitCheckerModel", 233, "input", 18), ("CircuitCheckerModel", 235, "wire", 19), ("CircuitCheckerModel", 236, "next", 20), ("CircuitCheckerModel", 238, "spec", 21), ("CircuitCheckerModel", 239, "A", 22), ("CircuitCheckerModel", 241, "E", 23), ("CircuitCheckerModel", 243, "U", 24), ("CircuitCheckerModel", 245, "AX", 25), ("CircuitCheckerModel", 247, "EX", 26), ("CircuitCheckerModel", 249, "AF", 27), ("CircuitCheckerModel", 251, "EF", 28), ("CircuitCheckerModel", 253, "AG", 29), ("CircuitCheckerModel", 255, "EG", 30)]
/-- statics of the JDK's that hold a reference or null: 5, 6, 7 -/
def pm_SQ : List (String × String × String × Nat) := [("jdk/internal/util/Preconditions", "SIOOBE_FORMATTER", "Ljava/util/function/BiFunction;", 5), ("java/lang/Throwable", "UNASSIGNED_STACK", "[Ljava/lang/StackTraceElement;", 6), ("java/lang/Throwable", "SUPPRESSED_SENTINEL", "Ljava/util/List;", 7)]
def pm_OV : List FieldType := [.int, .boolean]
def pm_LS : List (String × String × String) := [("java/lang/Throwable", "UNASSIGNED_STACK", "[Ljava/lang/StackTraceElement;"), ("java/lang/Throwable", "SUPPRESSED_SENTINEL", "Ljava/util/List;")]
/-- what 'laysStatic' says, of a cell that is not ours -/
def vs_L (C n d : String) (A : Nat → Prop) (U : State) (H : Heap) : Prop := ∃ (c : ClassId) (k : Class) (i : Nat) (f : Field) (a : Nat) (cell : Cell), U.vm.findClass C = some c ∧ U.fieldFound? C n d = some (c, k, i, f) ∧ f.isStatic = true ∧ k.statics = some a ∧ H[a]? = some cell ∧ cell.vm.isStatics = true ∧ cell.cls = c ∧ f.slot < cell.slots.size ∧ k.staticTypes[f.slot]? = some f.type ∧ ¬ A a
/-- no object of class C is one of class K -/
def vs_N (C K : String) (U : State) : Prop := ∃ cN cT, U.vm.findClass C = some cN ∧ U.vm.findClass K = some cT ∧ U.vm.assignable cN cT = false
theorem vs_N.moved {C K : String} {u U : State} (hvm : u.vm.Alike U.vm) (h : vs_N C K u) : vs_N C K U := by
  obtain ⟨cN, cT, h1, h2, h3⟩ := h
  exact ⟨cN, cT, by rw [hvm.findClass]; exact h1, by rw [hvm.findClass]; exact h2, by rw [hvm.assignable]; exact h3⟩
theorem vs_L.moved {C n d : String} {A : Nat → Prop} {u U : State} {H : Heap} (hvm : u.vm.Alike U.vm) (h : vs_L C n d A u H) : vs_L C n d A U H := by
  obtain ⟨c, k, i, f, a, cell, h0, h1, h2, h3, h4, h5, h6, h7, h8, h9⟩ := h
  obtain ⟨k', hi', he⟩ := State.fieldFound?_setVm hvm h1
  exact ⟨c, k', i, f, a, cell, by rw [hvm.findClass]; exact h0, hi', h2, by rw [he]; exact h3, h4, h5, h6, h7, by rw [he]; exact h8, h9⟩
theorem vs_L.kept {C n d : String} {A : Nat → Prop} {U : State} {H H1 : Heap} (h : vs_L C n d A U H) (hq : ∀ a : Nat, a < H.size → ¬ A a → H1[a]? = H[a]?) : vs_L C n d A U H1 := by
  obtain ⟨c, k, i, f, a, cell, h0, h1, h2, h3, h4, h5⟩ := h
  exact ⟨c, k, i, f, a, cell, h0, h1, h2, h3, by rw [hq a (Array.getElem?_eq_some_iff.mp h4).1 h5.2.2.2.2]; exact h4, h5⟩
theorem vs_L.word {C n d : String} {A : Nat → Prop} {U : State} {args : Array Value} (h : vs_L C n d A U U.heap) : (Cond.laysStatic C n d).before args U = true := by
  obtain ⟨c, k, i, f, a, cell, h0, h1, h2, h3, h4, h5, h6, h7, h8, -⟩ := h
  simp [Cond.before, Cond.holds, Cond.value, h0, h1, h2, h3, h4, h5, h6, h7, h8]
theorem pm_face_warm {s U : State} {a a' : Array Value} (hW : s.WarmedH U.vm) {w : Cond} (hw : pm_face w = true) (h : w.before a s = true) : w.before a' U = true := by
  have hk : w.keepsFace = true := by cases w <;> first | rfl | cases hw
  have ho : w.onTables = true := by cases w <;> first | rfl | cases hw
  have h1 := Cond.before_shiftedFace (State.Shifted.of_warmed hW) w hk h
  rw [Cond.onTables_vm (A' := a') (U' := U) U.vm w ho, State.setVm_self] at h1
  exact h1
def pm_X (g : pmG) (U : State) (H : Heap) : Prop :=
  (∀ q ∈ pm_ST, va_Z q.1 q.2.1 q.2.2.1 (pm_t g q.2.2.2) (pm_A g) U H) ∧ (∀ q ∈ pm_AR, va_T q.1 (g.2.2.2.1 q.2.1) q.2.2.1 (fun j => .int (q.2.2.2.getD j 0)) (pm_A g) U H) ∧
  (∀ i : Nat, i < 21 → va_O "java/lang/String" (g.2.2.2.1 (10 + i)) (pm_A g) U H ∧ va_OF "java/lang/String" "coder" "B" (.int 0) (g.2.2.2.1 (10 + i)) (pm_A g) U H ∧ va_OF "java/lang/String" "value" "[B" (.ref (g.2.2.2.1 (40 + i))) (g.2.2.2.1 (10 + i)) (pm_A g) U H) ∧
  (∀ q ∈ pm_SR, vk_R q.1 q.2.1 q.2.2.1 (g.2.2.2.1 q.2.2.2) U) ∧ va_T .int (g.2.2.2.1 0) g.2.2.2.2.2.1 (fun j => .int (g.2.2.2.2.2.2 j)) (pm_A g) U H ∧
  (∀ q ∈ pm_SQ, va_Z q.1 q.2.1 q.2.2.1 .null (pm_A g) U H ∨ va_Z q.1 q.2.1 q.2.2.1 (.ref (g.2.2.2.1 q.2.2.2)) (pm_A g) U H) ∧
  (∀ w ∈ pm_FW, w.before #[] U = true) ∧ (∀ q ∈ pm_LS, vs_L q.1 q.2.1 q.2.2 (pm_A g) U H) ∧ vs_N "java/lang/IllegalArgumentException" "java/util/NoSuchElementException" U ∧ (∀ ty ∈ pm_OV, (Cond.arrayOver (.array ty)).before #[] U = true)
theorem pm_X_mv {g : pmG} {s U : State} {H : Heap} (hW : s.WarmedH U.vm) (hq : ∀ a : Nat, a < s.heap.size → ¬ pm_A g a → H[a]? = s.heap[a]?) (h : pm_X g s s.heap) : pm_X g U H := by
  obtain ⟨h1, h2, h3, h4, h5, h6, h7, h8, h9, h10⟩ := h
  have hvm := hW.alike
  exact ⟨fun q hm => va_Z.moved hvm ((h1 q hm).kept hq), fun q hm => va_T.moved hvm ((h2 q hm).kept hq), fun i hi => ⟨va_O.moved hvm ((h3 i hi).1.kept hq), va_OF.moved hvm ((h3 i hi).2.1.kept hq), va_OF.moved hvm ((h3 i hi).2.2.kept hq)⟩, fun q hm => vk_R.warm hW (h4 q hm), va_T.moved hvm (h5.kept hq), fun q hm => (h6 q hm).elim (fun z => Or.inl (va_Z.moved hvm (z.kept hq))) (fun z => Or.inr (va_Z.moved hvm (z.kept hq))), fun w hw => pm_face_warm hW (List.mem_filter.mp hw).2 (h7 w hw), fun q hm => vs_L.moved hvm ((h8 q hm).kept hq), vs_N.moved hvm h9, fun ty hm => over_moved hvm (h10 ty hm)⟩
theorem pm_NS_warm {s U : State} (hW : s.WarmedH U.vm) (h : ∀ w ∈ pm_NS, va_Nw w s) : ∀ w ∈ pm_NS, va_Nw w U := by
  intro w hw
  have hz := h w hw
  have hn := (List.mem_filter.mp hw).2
  cases w <;> first | exact va_Nw.warmF hW hz | exact va_Nw.warmM hW hz | cases hn
/-! the judgement -/
abbrev pm_ty (g : pmG) : List (ClassId × FieldType) := [(g.2.2.2.2.1 1, .int), (g.2.2.2.2.1 2, .byte), (g.2.2.2.2.1 3, .boolean), (g.2.2.2.2.1 4, .long), (g.2.2.2.2.1 5, .array .int), (g.2.2.2.2.1 6, .array .boolean)]
abbrev pm_ws (k : pmK) : List Cond := Cond.code k.1 k.2.1 k.2.2.1 k.2.2.2 :: pm_TS
/-- the room: beside what the method may leave, one exception more fits in -/
abbrev pm_rm (d mc ms : Nat) : Room := { frames := d, cells := mc + 1, slots := ms + 8, locals := 64 * d }
/-- a method's handlers: none, but of those of the table -/
def pm_hs (n : MethodName) : List (Nat × Nat × Nat × Nat) := ((pm_HS.find? (fun q => decide (q.1 = n))).map (fun q => q.2)).getD []
abbrev pm_wsW (k : pmK) : List Cond := Cond.codeWith k.1 k.2.1 k.2.2.1 k.2.2.2 (pm_hs k.1) :: pm_TS
/-- the heap holds our memory -/
def pm_H (g : pmG) (M : pmM) (H : Heap) : Prop := H.size = g.2.2.1 + M.1.length ∧ va_P g.2.1 pm_cl (pm_wd g pm_cl M.1 M.2.1 M.2.2.1 M.2.2.2) H
/-- what the tables and what lies outside must be -/
def pm_T (g : pmG) (U : State) : Prop := va_K g.2.1 pm_cl (pm_ty g) U ∧ (∀ w ∈ pm_NS, va_Nw w U) ∧ pm_X g U U.heap
def pm_o (g : pmG) (o : Outcome) : Outcome := match o with
  | .returned none => .returned none
  | .returned (some v) => .returned (some (pm_t g v))
  | .threw a => .threw (g.2.2.1 + a)
def pm_P (g : pmG) (as : List Value) (M : pmM) : Array Value → State → Prop := fun v U => v = (as.map (pm_t g)).toArray ∧ pm_H g M U.heap ∧ pm_T g U
def pm_Q (g : pmG) (o : Outcome) (Z : pmM) : Array Value → State → Outcome → State → Prop := fun _ st oc t => oc = pm_o g o ∧ pm_H g Z t.heap ∧ va_F (pm_A g) st t
/-- what a method's end leaves: warmer tables; nothing old is written but what is ours; at most mc new cells of ms slots -/
def pm_FE (s t : State) (L : List Loc) (mc ms : Nat) : Prop := s.WarmedH t.vm ∧ s.sameButNew ({ t with vm := s.vm } : State) L mc ms
def pm_QF (g : pmG) (o : Outcome) (Z : pmM) (mc ms : Nat) : Array Value → State → Outcome → State → Prop := fun a st oc t => pm_Q g o Z a st oc t ∧ ∃ L, pm_FE st t L mc ms ∧ ∀ q ∈ L, pm_A g q.base
/-- a method's contract over the pure memory: it ends with o (returned or thrown) and the memory Z -/
def pmC (g : pmG) (k : pmK) (d mc ms : Nat) (as : List Value) (M : pmM) (o : Outcome) (Z : pmM) : Prop := MetFree g.1 k.1 (headSpec (pm_ws k) (pm_rm d mc ms)) (pm_P g as M) (fun _ _ _ _ _ => True) (pm_QF g o Z mc ms)
/-- the same of a method with handlers -/
def pmCW (g : pmG) (k : pmK) (d mc ms : Nat) (as : List Value) (M : pmM) (o : Outcome) (Z : pmM) : Prop := MetFree g.1 k.1 (headSpec (pm_wsW k) (pm_rm d mc ms)) (pm_P g as M) (fun _ _ _ _ _ => True) (pm_QF g o Z mc ms)
def pm_MQ (g : pmG) (below : List Frame) (o : Outcome) (Z : pmM) (args : Array Value) (s : State) (mc ms : Nat) : State → Prop := fun t => ∃ oc, t.status = .running ∧ Ended t below oc ∧ pm_QF g o Z mc ms args s oc t
theorem pm_MQ.of {g : pmG} {below : List Frame} {o : Outcome} {Z : pmM} {args : Array Value} {s t : State} {mc ms : Nat} (h : MQ below (pm_Q g o Z) args s mc ms (pm_A g) t) : pm_MQ g below o Z args s mc ms t := by
  obtain ⟨oc, h1, h2, h3, L, h4, h5⟩ := h
  exact ⟨oc, h1, h2, h3, L, h4.2, h5⟩
theorem pm_mono {p : Program} {l : Launch} {e : Env} {R : Room} {s : State} {m : MethodId} {args : Array Value} {below : List Frame} {meth : Method} {c : Code} {H : Heap} {locs : List Loc} {cells slots : Nat} {Q Q' : State → Prop} {g : JFrame} (h : ∀ t, Q t → Q' t) (k : W p l e R s m args below meth c H locs cells slots Q g) : W p l e R s m args below meth c H locs cells slots Q' g := by
  intro T hT X
  obtain ⟨t, a, b⟩ := k T hT X
  exact ⟨t, a, h t b⟩
def pm_Cx (g : pmG) (k : pmK) (d : Nat) (p : Program) (Rm : Room) (s : State) (m : MethodId) (args : Array Value) (meth : Method) (c : Code) : Prop :=
  p.tables.exec = Jvm.exec ∧ c.code = k.2.1 ∧ c.maxLocals = k.2.2.1 ∧ meth.sig.returnType = k.2.2.2 ∧ meth.locks = false ∧ meth.name = k.1.name ∧ s.vm.findClass k.1.cls = some m.cls ∧ (∀ w ∈ pm_TS, w.before args s = true) ∧ pm_T g s ∧ d ≤ Rm.frames ∧ 64 * d ≤ Rm.locals ∧ c.exceptionTable.toList.map (fun h => (h.startPc, h.endPc, h.handlerPc, h.catchType)) = pm_hs k.1
/-- from pc, with locals L, stack S, memory K R I J: the method ends with o and memory Z. d: frames left; rc, rs: cells and slots left -/
def pmE (g : pmG) (k : pmK) (d rc rs pc : Nat) (L : List (Nat × Value)) (S : List Value) (K : List (Nat × Nat)) (R : Nat → Nat → Value) (I : Nat → Nat → Int32) (J : Nat → Nat → Int64) (o : Outcome) (Z : pmM) : Prop :=
  ∀ (p : Program) (e : Env) (Rm : Room) (s : State) (m : MethodId) (args : Array Value) (below : List Frame) (meth : Method) (c : Code) (H : Heap) (locs : List Loc) (cells slots mc ms : Nat) (ls : Array Slot),
    pm_Cx g k d p Rm s m args meth c → Rm.cells = mc + 1 → Rm.slots = ms + 8 → cells + rc ≤ mc → slots + rs ≤ ms → lv_has ls k.2.2.1 (pm_L g L) → (pm_H g (K, R, I, J) H ∧ va_S (pm_A g) s.heap H locs) →
    W p g.1 e Rm s m args below meth c H locs cells slots (pm_MQ g below o Z args s mc ms) (F0 m pc ls (S.map (pm_t g)))
theorem pm_lgl (g : pmG) : ∀ as : List Value, (lg_sl (as.map (pm_t g))).length = (lg_sl as).length
  | [] => rfl
  | v :: r => by
    have ih := pm_lgl g r
    cases v <;> simp [lg_sl, pm_tr, Value.category] at ih ⊢ <;> omega
theorem pm_args (g : pmG) : ∀ (as : List Value) (n : Nat), lv_args n (as.map (pm_t g)) = pm_L g (lv_args n as)
  | [], _ => rfl
  | v :: r, n => by
    show (n, pm_t g v) :: lv_args (if (pm_t g v).category = 2 then n + 2 else n + 1) (r.map (pm_t g)) = (n, pm_t g v) :: pm_L g (lv_args (if v.category = 2 then n + 2 else n + 1) r)
    rw [pm_tr_cat, pm_args g r]
/-- a contract out of a walk from the method's entry -/
theorem pmC.of {g : pmG} {k : pmK} {d mc ms : Nat} {as : List Value} {K : List (Nat × Nat)} {R : Nat → Nat → Value} {I : Nat → Nat → Int32} {J : Nat → Nat → Int64} {o : Outcome} {Z : pmM} (hy : plainName k.1.cls = true) (hn : (lg_sl as).length ≤ k.2.2.1)
    (n : pmE g k d mc ms 0 (lv_args 0 as) [] K R I J o Z) (hh : (pm_hs k.1).isEmpty = true := by decide +kernel) : pmC g k d mc ms as (K, R, I, J) o Z := by
  refine MetFree.of_bodyS (code := k.2.1) (maxLocals := k.2.2.1) (ret := k.2.2.2) hy ?_ ?_
  · intro args s m h hn
    obtain ⟨meth, c, q1, q2, q3, q4, q5, q6, -, -⟩ := Cond.code_spec hn (atoms_spec (ws := pm_ws k) h _ List.mem_cons_self)
    exact ⟨meth, c, q1, q2, q3, q4, q5, q6⟩
  · intro p e s m args below meth c s₁ B hml hv _
    obtain ⟨rfl, hH, hT⟩ := hv
    have hts := atoms_spec (ws := pm_ws k) B.pre
    have hl := lv_entry (as.map (pm_t g)) (n := k.2.2.1) (by rw [pm_lgl]; exact hn)
    rw [pm_args] at hl
    have hh0 : s₁.heap = s.heap := by rw [B.state]; rfl
    have hno := B.noHandlers (hts _ List.mem_cons_self)
    have hex : c.exceptionTable.toList.map (fun h => (h.startPc, h.endPc, h.handlerPc, h.catchType)) = pm_hs k.1 := by
      rw [List.isEmpty_iff.mp hh]
      simpa using hno
    have w := n p e (headSpec (pm_ws k) (pm_rm d mc ms)).room s m _ below meth c s.heap [] 0 0 mc ms _ ⟨B.exec, B.bytes, hml, B.returns, B.notSynchronized, (name_of_methodNamed B.named B.method).1, findClass_of_methodNamed B.named, fun w h => hts w (List.mem_cons_of_mem _ h), hT, Nat.le_refl _, Nat.le_refl _, hex⟩ rfl rfl (by omega) (by omega) hl ⟨hH, va_S.rf⟩
    obtain ⟨t, a1, oc, b1, b2, b3⟩ := w s₁ hh0 (Stand.of_body B)
    rw [lg_entry_eq]
    exact ⟨t, oc, a1, b1, b2, b3⟩
/-- the same of a method with handlers -/
theorem pmCW.of {g : pmG} {k : pmK} {d mc ms : Nat} {as : List Value} {K : List (Nat × Nat)} {R : Nat → Nat → Value} {I : Nat → Nat → Int32} {J : Nat → Nat → Int64} {o : Outcome} {Z : pmM} (hy : plainName k.1.cls = true) (hn : (lg_sl as).length ≤ k.2.2.1)
    (n : pmE g k d mc ms 0 (lv_args 0 as) [] K R I J o Z) : pmCW g k d mc ms as (K, R, I, J) o Z := by
  refine MetFree.of_bodyS (code := k.2.1) (maxLocals := k.2.2.1) (ret := k.2.2.2) hy ?_ ?_
  · intro args s m h hn
    obtain ⟨m9, meth, c, hn9, q1, q2, q3, q4, -, q5, q6, -⟩ := Cond.codeWith_spec (atoms_spec (ws := pm_wsW k) h _ List.mem_cons_self)
    cases hn.symm.trans hn9
    exact ⟨meth, c, q1, q2, q3, q4, q5, q6⟩
  · intro p e s m args below meth c s₁ B hml hv _
    obtain ⟨rfl, hH, hT⟩ := hv
    have hts := atoms_spec (ws := pm_wsW k) B.pre
    have hl := lv_entry (as.map (pm_t g)) (n := k.2.2.1) (by rw [pm_lgl]; exact hn)
    rw [pm_args] at hl
    have hh0 : s₁.heap = s.heap := by rw [B.state]; rfl
    have hX := Stand.of_body B
    obtain ⟨m9, meth9, c9, hn9, q1, q2, -, -, hex, -, -, -⟩ := Cond.codeWith_spec (hts _ List.mem_cons_self)
    cases B.named.symm.trans hn9
    cases B.method.symm.trans q1
    cases hX.code.symm.trans q2
    have w := n p e (headSpec (pm_wsW k) (pm_rm d mc ms)).room s m _ below meth c s.heap [] 0 0 mc ms _ ⟨B.exec, B.bytes, hml, B.returns, B.notSynchronized, (name_of_methodNamed B.named B.method).1, findClass_of_methodNamed B.named, fun w h => hts w (List.mem_cons_of_mem _ h), hT, Nat.le_refl _, Nat.le_refl _, hex⟩ rfl rfl (by omega) (by omega) hl ⟨hH, va_S.rf⟩
    obtain ⟨t, a1, oc, b1, b2, b3⟩ := w s₁ hh0 hX
    rw [lg_entry_eq]
    exact ⟨t, oc, a1, b1, b2, b3⟩
