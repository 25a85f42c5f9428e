/-! arrays of arrays, made at once -/
section MMA
variable {E : CtlPost} {e : Env} {d : Bool} {acts : List Action} {s : State}
/-- the outer array when i rows are in it -/
abbrev mm_o (c : ClassId) (N h0 i : Nat) : Cell := arrV c N (fun j => if j < i then .ref (h0 + 1 + j) else .null)
def mm_s (s : State) (c comp : ClassId) (N M : Nat) (dv : Value) : Nat → State
  | 0 => s.pushCell (mm_o c N s.heap.size 0)
  | i + 1 => ((mm_s s c comp N M dv i).pushCell (arrV comp M (fun _ => dv))).setCell s.heap.size (mm_o c N s.heap.size (i + 1))
theorem mm_rep (c : ClassId) (N : Nat) (v : Value) : ({ cls := c, slots := Array.replicate N v, vm := .none } : Cell) = arrV c N (fun _ => v) := by
  have h : Array.replicate N v = Array.ofFn (n := N) (fun _ => v) := by
    apply Array.ext
    · simp
    · intro i h1 h2
      simp
  unfold arrV
  rw [h]
theorem mm_cg (c : ClassId) {N : Nat} {f f' : Nat → Value} (h : ∀ j, j < N → f j = f' j) : arrV c N f = arrV c N f' := by
  unfold arrV
  have : (fun j : Fin N => f j.val) = (fun j : Fin N => f' j.val) := funext fun j => h j.val j.isLt
  rw [this]
theorem mm_o0 (c : ClassId) (N h0 : Nat) : arrV c N (fun _ => Value.null) = mm_o c N h0 0 := mm_cg c (fun j _ => (if_neg (Nat.not_lt_zero j)).symm)
theorem mm_oS (c : ClassId) (N h0 i : Nat) : (mm_o c N h0 i).setSlot i (.ref (h0 + 1 + i)) = mm_o c N h0 (i + 1) := by
  unfold mm_o
  rw [arrV_store]
  apply mm_cg
  intro j _
  unfold updV
  by_cases h : j = i
  · subst h
    rw [if_pos rfl, if_pos (Nat.lt_succ_self _)]
  · rw [if_neg h]
    show (if j < i then Value.ref (h0 + 1 + j) else Value.null) = (if j < i + 1 then Value.ref (h0 + 1 + j) else Value.null)
    by_cases h2 : j < i
    · rw [if_pos h2, if_pos (by omega)]
    · rw [if_neg h2, if_neg (by omega)]
theorem mm_facts (s : State) (c comp : ClassId) (N M : Nat) (dv : Value) : ∀ i, (mm_s s c comp N M dv i).heap.size = s.heap.size + 1 + i ∧ (mm_s s c comp N M dv i).heap[s.heap.size]? = some (mm_o c N s.heap.size i) ∧ (mm_s s c comp N M dv i).vm = s.vm ∧ (mm_s s c comp N M dv i).slotsUsed = s.slotsUsed + N + i * M ∧
    (∀ a, a < s.heap.size → (mm_s s c comp N M dv i).heap[a]? = s.heap[a]?) ∧ ∀ j, j < i → (mm_s s c comp N M dv i).heap[s.heap.size + 1 + j]? = some (arrV comp M (fun _ => dv))
  | 0 => ⟨by simp [mm_s], by simp [mm_s], rfl, by simp [mm_s, arrV_size], fun a ha => State.heap_pushCell_of_lt _ _ ha, fun j hj => absurd hj (Nat.not_lt_zero _)⟩
  | i + 1 => by
    obtain ⟨f1, f2, f3, f4, f5, f6⟩ := mm_facts s c comp N M dv i
    have hlt : s.heap.size < (mm_s s c comp N M dv i).heap.size := by omega
    have hb : ((mm_s s c comp N M dv i).pushCell (arrV comp M (fun _ => dv))).heap[s.heap.size]? = some (mm_o c N s.heap.size i) := by rw [State.heap_pushCell_of_lt (h := hlt)]; exact f2
    refine ⟨?_, State.heap_setCell_self hb, by simp [mm_s, f3], ?_, fun a ha => ?_, fun j hj => ?_⟩
    · simp [mm_s, State.setCell, f1]; omega
    · simp [mm_s, f4, arrV_size, Nat.succ_mul]; omega
    · show (((mm_s s c comp N M dv i).pushCell (arrV comp M (fun _ => dv))).setCell s.heap.size _).heap[a]? = _
      rw [State.heap_setCell_other (Nat.ne_of_gt ha), State.heap_pushCell_of_lt _ _ (show a < (mm_s s c comp N M dv i).heap.size by omega)]
      exact f5 a ha
    · show (((mm_s s c comp N M dv i).pushCell (arrV comp M (fun _ => dv))).setCell s.heap.size _).heap[s.heap.size + 1 + j]? = _
      rw [State.heap_setCell_other (show s.heap.size ≠ s.heap.size + 1 + j by omega)]
      by_cases hj2 : j < i
      · rw [State.heap_pushCell_of_lt _ _ (show s.heap.size + 1 + j < (mm_s s c comp N M dv i).heap.size by omega)]
        exact f6 j hj2
      · rw [show s.heap.size + 1 + j = (mm_s s c comp N M dv i).heap.size by omega]
        exact State.heap_pushCell_size _ _
theorem mm_top (s : State) (f : JFrame) (c comp : ClassId) (N M : Nat) (dv : Value) : ∀ i, mm_s (s.setTop f) c comp N M dv i = (mm_s s c comp N M dv i).setTop f
  | 0 => rfl
  | i + 1 => by simp only [mm_s, mm_top s f c comp N M dv i, State.heap_setTop, State.pushCell_setTop, State.setCell_setTop]
theorem mm_new {c comp : ClassId} {k : Class} {type : FieldType} {len : Nat} {v : Value} (hk : s.vm.classes[c]? = some k) (hkind : k.kind = .array comp type) (hl : ¬ len > e.platform.arrayLengthLimit) (hh : ¬ len * componentBytes type > e.platform.maxHeapBytes) (hfit : fits type v = true) (hdef : v.isDefault = true) {Q : Addr → Pre}
    (h1 : s.heap.size < e.platform.maxCells) (h2 : s.slotsUsed + len ≤ e.platform.maxSlots) (hq : Q s.heap.size d acts (s.pushCell (arrV c len (fun _ => v)))) : wp (Jvm.newArray c len v) Q E e d acts s := by
  rw [← mm_rep] at hq
  have hf : ∀ i w, (Array.replicate len v)[i]? = some w → s.fitsSlot c .none i w = true := by
    intro i w hw
    simp only [Array.getElem?_replicate] at hw
    split at hw
    · cases hw
      simp [State.fitsSlot, State.slotType?, hk, hkind, hfit]
    · cases hw
  have ha : allocActs (Array.replicate len v) s.heap.size acts = acts := by
    unfold allocActs
    rw [if_pos (by rw [Array.all_replicate]; split <;> simp [hdef])]
  simp only [Jvm.newArray, Jvm.arrayFits, wp_bind', W.ask, W.ite, hl, if_false, wp_pure', W.theClass, hk, hkind, hh, W.alloc, W.stop, Option.some.injEq, exists_eq_left', Array.size_replicate, ha]
  rw [if_neg (by omega)]
  exact ⟨h1, h2, hf, hq⟩
theorem mm_mk1 {comp cc : ClassId} {kc : Class} {type : FieldType} {m : Int32} (hkc : s.vm.classes[comp]? = some kc) (hkind : kc.kind = .array cc type) (hm : ¬ m < 0) (hl : ¬ m.toNatClampNeg > e.platform.arrayLengthLimit) (hh : ¬ m.toNatClampNeg * componentBytes type > e.platform.maxHeapBytes) (hdf : fits type (defaultValue type) = true) (hdd : (defaultValue type).isDefault = true)
    (h1 : s.heap.size < e.platform.maxCells) (h2 : s.slotsUsed + m.toNatClampNeg ≤ e.platform.maxSlots) {Q : Addr → Pre} (hq : Q s.heap.size d acts (s.pushCell (arrV comp m.toNatClampNeg (fun _ => defaultValue type)))) : wp (Op.multianewarray.make comp [m]) Q E e d acts s := by
  rw [Op.multianewarray.make]
  simp only [wp_bind', W.ite, hm, if_false, wp_pure', W.theClass, hkc, hkind, Option.some.injEq, exists_eq_left']
  exact mm_new hkc hkind hl hh hdf hdd h1 h2 hq
theorem mm_mk2 {c comp cc : ClassId} {k kc : Class} {type : FieldType} {n m : Int32} (hk : s.vm.classes[c]? = some k) (hkind : k.kind = .array comp (.array type)) (hkc : s.vm.classes[comp]? = some kc) (hkindc : kc.kind = .array cc type) (hn : ¬ n < 0) (hm : ¬ m < 0)
    (hl1 : ¬ n.toNatClampNeg > e.platform.arrayLengthLimit) (hh1 : ¬ n.toNatClampNeg * componentBytes (.array type) > e.platform.maxHeapBytes) (hl2 : ¬ m.toNatClampNeg > e.platform.arrayLengthLimit) (hh2 : ¬ m.toNatClampNeg * componentBytes type > e.platform.maxHeapBytes) (hdf : fits type (defaultValue type) = true) (hdd : (defaultValue type).isDefault = true)
    (hc : s.heap.size + 1 + n.toNatClampNeg ≤ e.platform.maxCells) (hs : s.slotsUsed + n.toNatClampNeg + n.toNatClampNeg * m.toNatClampNeg ≤ e.platform.maxSlots) {Q : Addr → Pre} (hq : ∀ d' acts', Q s.heap.size d' acts' (mm_s s c comp n.toNatClampNeg m.toNatClampNeg (defaultValue type) n.toNatClampNeg)) : wp (Op.multianewarray.make c [n, m]) Q E e d acts s := by
  have hfind : ([m].find? (· < 0)) = none := by simp [hm]
  rw [Op.multianewarray.make]
  simp only [wp_bind', W.ite, hn, if_false, wp_pure', W.theClass, hk, hkind, Option.some.injEq, exists_eq_left']
  refine mm_new hk hkind hl1 hh1 rfl rfl (by omega) (by have := Nat.zero_le (n.toNatClampNeg * m.toNatClampNeg); omega) ?_
  simp only [hfind]
  rw [ite_self, wp_bind', Std.Legacy.Range.forIn_eq_forIn_range']
  rw [show ([:n.toNatClampNeg] : Std.Legacy.Range).size = n.toNatClampNeg by simp [Std.Legacy.Range.size], mm_o0 c n.toNatClampNeg s.heap.size]
  show wp (forIn (List.range' 0 n.toNatClampNeg 1) PUnit.unit _) _ E e d acts _
  refine wp_forIn_inv (fun rest s' => ∃ i, i ≤ n.toNatClampNeg ∧ rest = List.range' i (n.toNatClampNeg - i) ∧ s' = mm_s s c comp n.toNatClampNeg m.toNatClampNeg (defaultValue type) i) _ _ ⟨0, Nat.zero_le _, rfl, rfl⟩ ?_ ?_
  · rintro x rest s' d' acts' Q' ⟨i, hi, hl, rfl⟩ hnext
    have hlt : i < n.toNatClampNeg := Nat.lt_of_le_of_ne hi (fun h => by rw [h, Nat.sub_self] at hl; cases hl)
    rw [show n.toNatClampNeg - i = (n.toNatClampNeg - (i + 1)) + 1 by omega, List.range'_succ] at hl
    cases hl
    obtain ⟨f1, f2, f3, f4, -, -⟩ := mm_facts s c comp n.toNatClampNeg m.toNatClampNeg (defaultValue type) x
    have hmul : x * m.toNatClampNeg + m.toNatClampNeg ≤ n.toNatClampNeg * m.toNatClampNeg := by
      have := Nat.mul_le_mul_right m.toNatClampNeg (show x + 1 ≤ n.toNatClampNeg from hlt)
      rw [Nat.succ_mul] at this; exact this
    simp only [wp_bind']
    refine mm_mk1 (by rw [f3]; exact hkc) hkindc hm hl2 hh2 hdf hdd (by rw [f1]; omega) (by rw [f4]; omega) ?_
    have hlt0 : s.heap.size < (mm_s s c comp n.toNatClampNeg m.toNatClampNeg (defaultValue type) x).heap.size := by rw [f1]; omega
    simp only [wp_bind', W.writeLoc, wp_pure']
    refine ⟨mm_o c n.toNatClampNeg s.heap.size x, by rw [State.heap_pushCell_of_lt (h := hlt0)]; exact f2, ⟨(fun h => by cases h), by rw [arrV_size]; exact hlt, ?_, hnext _ _ _ ⟨x + 1, hlt, rfl, ?_⟩⟩⟩
    · show State.fitsSlot _ c .none x _ = true
      simp [State.fitsSlot, State.slotType?, f3, hk, hkind]
      rfl
    · rw [f1, mm_oS]; rfl
  · rintro s' d' acts' ⟨i, hi, hl, rfl⟩
    have hiN : i = n.toNatClampNeg := by
      by_cases h : i < n.toNatClampNeg
      · rw [show n.toNatClampNeg - i = (n.toNatClampNeg - (i + 1)) + 1 by omega, List.range'_succ] at hl; cases hl
      · omega
    subst hiN
    simp only [wp_pure']
    exact hq _ _
end MMA
section MMS
variable {p : Program} {l : Launch} {e : Env} {R : Room} {s : State} {m : MethodId} {args : Array Value} {below : List Frame} {meth : Method} {c : Code} {T : State} {locs : List Loc} {cells slots : Nat}
theorem mm_stand (X : Stand p l e R s m args below meth c T locs cells slots) (cA comp : ClassId) (N M : Nat) (dv : Value) :
    ∀ i, Stand p l e R s m args below meth c (mm_s T cA comp N M dv i) (locs ++ (List.range i).map fun j => ⟨T.heap.size, j⟩) (cells + 1 + i) (slots + N + i * M)
  | 0 => by
    have h := X.pushed (mm_o cA N T.heap.size 0)
    rw [arrV_size] at h
    simpa [mm_s] using h
  | i + 1 => by
    have Xi := mm_stand X cA comp N M dv i
    obtain ⟨f1, f2, -⟩ := mm_facts T cA comp N M dv i
    have hcell : ((mm_s T cA comp N M dv i).pushCell (arrV comp M (fun _ => dv))).heap[T.heap.size]? = some (mm_o cA N T.heap.size i) := by rw [State.heap_pushCell_of_lt _ _ (show T.heap.size < (mm_s T cA comp N M dv i).heap.size by omega)]; exact f2
    have h := (Xi.pushed (arrV comp M (fun _ => dv))).stored hcell i (.ref (T.heap.size + 1 + i))
    rw [arrV_size, mm_oS] at h
    have e2 : (locs ++ (List.range (i + 1)).map fun j => (⟨T.heap.size, j⟩ : Loc)) = (locs ++ (List.range i).map fun j => (⟨T.heap.size, j⟩ : Loc)) ++ [⟨T.heap.size, i⟩] := by simp [List.range_succ, List.append_assoc]
    rw [e2, show slots + N + (i + 1) * M = slots + N + i * M + M by rw [Nat.succ_mul]; omega]
    exact h
theorem mm_over {t : FieldType} (h : (Cond.arrayOver (.array t)).before args s = true) : ∃ comp c k, s.vm.findClass (FieldType.array t).toString = some comp ∧ s.vm.classes[c]? = some k ∧ k.kind = .array comp (.array t) ∧ s.vm.findClass ("[" ++ (FieldType.array t).toString) = some c := by
  obtain ⟨comp, cA, kA, hcomp, -, hkA, hkindA, hnameA⟩ := arrayOverA_spec h
  exact ⟨comp, cA, kA, hcomp, hkA, hkindA, hnameA⟩
theorem mm_step (X : Stand p l e R s m args below meth c T locs cells slots) (hexec : p.tables.exec = Jvm.exec) {own : String} {index : Nat} {ty : FieldType} (hown : s.vm.findClass own = some m.cls) (hclink : (Cond.classLink own index ("[" ++ (FieldType.array ty).toString)).before args s = true)
    (hover : (Cond.arrayOver (.array ty)).before args s = true) (harr : (Cond.arrayClass ty).before args s = true) {g : JFrame} (hg : g.method = m) (hdg : decode c.code g.pc = .ok (.multianewarray index 2, 4)) {n k : Int32} {rest : List Value} (hstack : g.stack = .int k :: .int n :: rest)
    (hn : ¬ n < 0) (hk : ¬ k < 0) (hb1 : n.toNatClampNeg * 4 ≤ 536870912) (hb2 : k.toNatClampNeg * componentBytes ty ≤ 536870912) (hb3 : k.toNatClampNeg ≤ 536870912) (hdf : fits ty (defaultValue ty) = true) (hdd : (defaultValue ty).isDefault = true)
    (hcells : cells + (1 + n.toNatClampNeg) ≤ R.cells) (hslots : slots + (n.toNatClampNeg + n.toNatClampNeg * k.toNatClampNeg) ≤ R.slots) :
    ∃ (vm₁ : Vm) (cA comp : ClassId), s.vm.findClass ("[" ++ (FieldType.array ty).toString) = some cA ∧ s.vm.findClass (FieldType.array ty).toString = some comp ∧
      Stand p l e R s m args below meth c (mm_s (T.setVm vm₁) cA comp n.toNatClampNeg k.toNatClampNeg (defaultValue ty) n.toNatClampNeg) (locs ++ (List.range n.toNatClampNeg).map fun j => ⟨T.heap.size, j⟩) (cells + 1 + n.toNatClampNeg) (slots + n.toNatClampNeg + n.toNatClampNeg * k.toNatClampNeg) ∧
      ∀ target, Steps p.tables e below ((mm_s (T.setVm vm₁) cA comp n.toNatClampNeg k.toNatClampNeg (defaultValue ty) n.toNatClampNeg).setTop { g with pc := g.pc + 4, stack := .ref T.heap.size :: rest }) target → Steps p.tables e below (T.setTop g) target := by
  subst hg
  have hpl : e.platform.magicAccessors = ({} : Platform).magicAccessors := by rw [X.admits.platform]
  obtain ⟨comp, cA, kA, hcomp, hkA, hkindA, hnameA⟩ := mm_over hover
  obtain ⟨comp', kC, cc, hcomp', hkC, hkindC⟩ := Cond.arrayClass_spec harr
  cases Option.some.inj (hcomp'.symm.trans hcomp)
  obtain ⟨c0, hfc0, hcl⟩ := Cond.classLink_spec hown hclink e.platform hpl
  cases hnameA.symm.trans hfc0
  obtain ⟨hg₁, hwarm₁, hready₁⟩ := State.classEntry (e := e) X.warmed hcl
  generalize T.vm.noted g.method.cls index (.cls cA) = vm₁ at hg₁ hwarm₁ hready₁
  have hal : s.vm.Alike vm₁ := hwarm₁.alike
  obtain ⟨kA₁, hkA₁, heA⟩ := hal.2.2 _ _ hkA
  obtain ⟨kC₁, hkC₁, heC⟩ := hal.2.2 _ _ hkC
  have X₁ := X.noted hwarm₁
  obtain ⟨hr1, hr2⟩ := X.roomAbove hcells hslots
  refine ⟨vm₁, cA, comp, hnameA, hcomp, mm_stand X₁ cA comp _ _ _ _, fun target hrest => ?_⟩
  have XF := mm_stand X₁ cA comp n.toNatClampNeg k.toNatClampNeg (defaultValue ty) n.toNatClampNeg
  jvm_step X.here [hexec, hdg]
  simp only [Op.multianewarray.sem, wp_bind', W.resolveClassAt_links (State.method?_setTop g X.here.top) hg₁]
  rw [W.popN, if_neg (by decide)]
  refine ⟨g, State.topJava?_setTop' (s := T.setVm vm₁) g X.here.top, [.int n, .int k], rest, rfl, hstack, ?_⟩
  simp only [List.mapM_cons, List.mapM_nil, wp_bind', wp_pure']
  refine mm_mk2 (k := kA₁) (kc := kC₁) (comp := comp) (cc := cc) (type := ty) hkA₁ (by rw [heA]; exact hkindA) hkC₁ (by rw [heC]; exact hkindC) hn hk (by rw [Launch.admits_arrayLengthLimit X.admits]; omega) (by rw [Launch.admits_maxHeapBytes X.admits]; show ¬ n.toNatClampNeg * 4 > 536870912; omega) (by rw [Launch.admits_arrayLengthLimit X.admits]; omega) (by rw [Launch.admits_maxHeapBytes X.admits]; omega) hdf hdd (by show T.heap.size + 1 + _ ≤ _; omega) (by show T.slotsUsed + _ + _ ≤ _; omega) (fun d' acts' => ?_)
  rw [show ((T.setTop g).setVm vm₁).setTop { g with stack := rest } = (T.setVm vm₁).setTop { g with stack := rest } by
    show ((T.setVm vm₁).setTop g).setTop _ = _
    rw [State.setTop_setTop], mm_top]
  simp only [wp_bind', W.mark, W.pushRef, State.topJava?_setTop' _ XF.here.top, Option.some.injEq, exists_eq_left', State.setTop_setTop, State.heap_setTop]
  intro acts
  simp [jvm, XF.here.top]
  exact hrest
end MMS
/-- rows of references and of ints behind it: the outer array q, its N rows behind it -/
def mm_R (R : Nat → Nat → Value) (q N : Nat) : Nat → Nat → Value := fun a => if a = q then (fun i => .ref (q + 1 + i)) else if q < a ∧ a ≤ q + N then (fun _ => .null) else R a
def mm_I {α : Type} (I : Nat → Nat → α) (q N : Nat) (v : α) : Nat → Nat → α := fun a => if q ≤ a ∧ a ≤ q + N then (fun _ => v) else I a
section MMP
variable {g : pmG} {k : pmK} {d rc rs pc idx : Nat} {L : List (Nat × Value)} {S : List Value} {K : List (Nat × Nat)} {R : Nat → Nat → Value} {I : Nat → Nat → Int32} {J : Nat → Nat → Int64} {o : Outcome} {Z : pmM}
theorem pm_H_of {H : Heap} (hs : H.size = g.2.2.1 + K.length) (h : ∀ (a : Nat) (kd : Nat × Nat), K[a]? = some kd → va_at g.2.1 pm_cl (g.2.2.1 + a, pm_cell g pm_cl R I J a kd) H) : pm_H g (K, R, I, J) H := by
  refine ⟨hs, fun i q hq => ?_⟩
  unfold pm_wd at hq
  rw [List.getElem?_mapIdx] at hq
  cases hk : K[i]? with
  | none => rw [hk] at hq; cases hq
  | some kd => rw [hk] at hq; cases hq; exact h i kd hk
theorem pm_at_kept {q : Nat × va_E} {H H1 : Heap} (h : va_at g.2.1 pm_cl q H) (h1 : H1[q.1]? = H[q.1]?) : va_at g.2.1 pm_cl q H1 := by
  obtain ⟨a, e⟩ := q
  cases e with
  | inl x => exact h1.trans h
  | inr x =>
    obtain ⟨r, hr, ho⟩ := h
    exact ⟨r, hr, ho.kept h1⟩
theorem pm_multi {n0 m0 : Int32} {N M t0 t1 : Nat} {ty : FieldType} (h : decode k.2.1 pc = .ok (.multianewarray idx 2, 4)) (hlk : Cond.classLink k.1.cls idx ("[" ++ (FieldType.array ty).toString) ∈ pm_TS) (hov : ty ∈ pm_OV) (har : Cond.arrayClass ty ∈ pm_TS) (ht : (t0 = 5 ∧ t1 = 1 ∧ ty = .int) ∨ (t0 = 6 ∧ t1 = 3 ∧ ty = .boolean))
    (hn : ¬ n0 < 0) (hm : ¬ m0 < 0) (hN : n0.toNatClampNeg = N) (hM : m0.toNatClampNeg = M) (hb1 : N * 4 ≤ 536870912) (hb2 : M * componentBytes ty ≤ 536870912) (hb3 : M ≤ 536870912)
    (n : pmE g k d rc rs (pc + 4) L (.ref K.length :: S) (K ++ (t0, N) :: List.replicate N (t1, M)) (mm_R R K.length N) (mm_I I K.length N 0) (mm_I J K.length N 0) o Z) : pmE g k d (rc + 1 + N) (rs + N + N * M) pc L (.int m0 :: .int n0 :: S) K R I J o Z := by
  intro p e Rm s m args below meth c H locs cells slots mc ms ls hC h1 h2 h3 h4 hl hA
  obtain ⟨hx, hb, -, -, -, -, hown, hts, ⟨hK, -, hX⟩, -⟩ := id hC
  have h0 : H.size = g.2.2.1 + K.length := hA.1.1
  have hov9 : (Cond.arrayOver (.array ty)).before args s = true := hX.2.2.2.2.2.2.2.2.2 ty hov
  subst hN; subst hM
  intro T hT X
  have hdf : fits ty (defaultValue ty) = true ∧ (defaultValue ty).isDefault = true ∧ defaultValue ty = .int 0 := by
    rcases ht with ⟨-, -, rfl⟩ | ⟨-, -, rfl⟩ <;> exact ⟨rfl, rfl, rfl⟩
  obtain ⟨vm₁, cA, comp, hcA, hcomp, X', step⟩ := mm_step X hx hown (hts _ hlk) hov9 (hts _ har) (g := F0 m pc ls ((.int m0 :: .int n0 :: S).map (pm_t g))) rfl (by rw [hb]; exact h) (n := n0) (k := m0) (rest := S.map (pm_t g)) rfl hn hm hb1 hb2 hb3 hdf.1 hdf.2.1 (by omega) (by omega)
  obtain ⟨f1, f2, f3, f4, f5, f6⟩ := mm_facts (T.setVm vm₁) cA comp n0.toNatClampNeg m0.toNatClampNeg (defaultValue ty) n0.toNatClampNeg
  have hT' : (T.setVm vm₁).heap = H := hT
  rw [hT'] at f1 f2 f5 f6
  rw [hdf.2.2] at f1 f2 f5 f6 X' step
  have hcl : cA = g.2.2.2.2.1 t0 ∧ comp = g.2.2.2.2.1 t1 := by
    rcases ht with ⟨rfl, rfl, rfl⟩ | ⟨rfl, rfl, rfl⟩
    · exact ⟨Option.some.inj (hcA.symm.trans (hK.2 4 _ rfl).2), Option.some.inj (hcomp.symm.trans (hK.2 0 _ rfl).2)⟩
    · exact ⟨Option.some.inj (hcA.symm.trans (hK.2 5 _ rfl).2), Option.some.inj (hcomp.symm.trans (hK.2 2 _ rfl).2)⟩
  have hPH : pm_H g (K ++ (t0, n0.toNatClampNeg) :: List.replicate n0.toNatClampNeg (t1, m0.toNatClampNeg), mm_R R K.length n0.toNatClampNeg, mm_I I K.length n0.toNatClampNeg 0, mm_I J K.length n0.toNatClampNeg 0) (mm_s (T.setVm vm₁) cA comp n0.toNatClampNeg m0.toNatClampNeg (.int 0) n0.toNatClampNeg).heap := by
    refine pm_H_of (by rw [f1, List.length_append, List.length_cons, List.length_replicate, h0]; omega) (fun a kd hkd => ?_)
    by_cases ha : a < K.length
    · rw [List.getElem?_append_left ha] at hkd
      have hold := hA.1.2 a _ (pm_wd_at hkd)
      rw [pm_cell_eq (R' := mm_R R K.length n0.toNatClampNeg) (I' := mm_I I K.length n0.toNatClampNeg 0) (J' := mm_I J K.length n0.toNatClampNeg 0) (R := R) (I := I) (J := J) (by unfold mm_R; rw [if_neg (by omega), if_neg (by omega)]) (by unfold mm_I; rw [if_neg (by omega)]) (by unfold mm_I; rw [if_neg (by omega)])]
      exact pm_at_kept hold (f5 _ (by omega))
    · rw [List.getElem?_append_right (by omega)] at hkd
      by_cases ha2 : a = K.length
      · subst ha2
        rw [Nat.sub_self] at hkd
        cases hkd
        have hcell : (mm_s (T.setVm vm₁) cA comp n0.toNatClampNeg m0.toNatClampNeg (.int 0) n0.toNatClampNeg).heap[g.2.2.1 + K.length]? = some (arrV (g.2.2.2.2.1 t0) n0.toNatClampNeg (fun j => va_rf (pm_ro g (mm_R R K.length n0.toNatClampNeg K.length j)))) := by
          rw [← h0, f2, hcl.1]
          refine congrArg some (mm_cg _ (fun j hj => ?_))
          rw [if_pos hj]
          unfold mm_R
          rw [if_pos rfl]
          show Value.ref (H.size + 1 + j) = .ref (g.2.2.1 + (K.length + 1 + j))
          rw [h0, show g.2.2.1 + K.length + 1 + j = g.2.2.1 + (K.length + 1 + j) by omega]
        rcases ht with ⟨rfl, -, -⟩ | ⟨rfl, -, -⟩ <;> exact hcell
      · obtain ⟨j, rfl⟩ : ∃ j, a = K.length + 1 + j := ⟨a - K.length - 1, by omega⟩
        rw [show K.length + 1 + j - K.length = j + 1 by omega, List.getElem?_cons_succ] at hkd
        obtain ⟨hj, hkd2⟩ := List.getElem?_eq_some_iff.mp hkd
        rw [List.length_replicate] at hj
        rw [List.getElem_replicate] at hkd2
        subst hkd2
        have hcell : (mm_s (T.setVm vm₁) cA comp n0.toNatClampNeg m0.toNatClampNeg (.int 0) n0.toNatClampNeg).heap[g.2.2.1 + (K.length + 1 + j)]? = some (arrV (g.2.2.2.2.1 t1) m0.toNatClampNeg (fun q => .int (mm_I I K.length n0.toNatClampNeg 0 (K.length + 1 + j) q))) := by
          rw [show g.2.2.1 + (K.length + 1 + j) = H.size + 1 + j by omega, f6 j hj, hcl.2]
          refine congrArg some (mm_cg _ (fun q hq => ?_))
          unfold mm_I
          rw [if_pos (by omega)]
        rcases ht with ⟨-, rfl, -⟩ | ⟨-, rfl, -⟩ <;> exact hcell
  have hVS : va_S (pm_A g) s.heap (mm_s (T.setVm vm₁) cA comp n0.toNatClampNeg m0.toNatClampNeg (.int 0) n0.toNatClampNeg).heap (locs ++ (List.range n0.toNatClampNeg).map fun j => ⟨T.heap.size, j⟩) := by
    refine pm_S_end hA.2 (by rw [f1]; omega) (fun q q1 _ => f5 q q1) (fun q hq => ?_)
    obtain ⟨j, -, rfl⟩ := List.mem_map.mp hq
    show g.2.2.1 ≤ T.heap.size
    rw [hT]; omega
  obtain ⟨t2, a1, b1⟩ := n p e Rm s m args below meth c _ _ (cells + 1 + n0.toNatClampNeg) (slots + n0.toNatClampNeg + n0.toNatClampNeg * m0.toNatClampNeg) mc ms ls hC h1 h2 (by omega) (by omega) hl ⟨hPH, hVS⟩ _ rfl X'
  refine ⟨t2, step _ ?_, b1⟩
  rw [show T.heap.size = g.2.2.1 + K.length by rw [hT]; exact h0]
  exact a1
end MMP
/-! rows over references that are not known by number: pa, the number of a cell of ours -/
def pa (v : Value) : Nat := match v with
  | .ref q => q
  | _ => 0
def pv (v : Value) : Prop := v = .null ∨ ∃ q, v = .ref q
def isn (v : Value) : Bool := match v with
  | .null => true
  | _ => false
theorem pa_ref (q : Nat) : pa (.ref q) = q := rfl
theorem vp_lt {i : Int32} {n : Nat} (h : vp_in i n) : i.toNatClampNeg < n := Nat.not_le.mp fun q => h (Or.inr q)
def pm_st0 (L : List (Nat × Value)) (i : Nat) (v : Value) : List (Nat × Value) := (i, v) :: L.filter (fun q => !(q.1 == i))
theorem pv_cat {w : Value} (h : pv w) : w.category = 1 := by
  rcases h with rfl | ⟨q, rfl⟩ <;> rfl
theorem pm_stv {L : List (Nat × Value)} {i j : Nat} {v w : Value} (h : L.filter (fun q => q.1 + 1 == i) = [(j, w)]) (hw : pv w) : pm_st1 L i v = pm_st0 L i v := by
  unfold pm_st1 pm_st0
  congr 1
  apply List.filter_congr
  intro q hq
  by_cases hi : (q.1 + 1 == i) = true
  · have hm : q ∈ L.filter (fun q => q.1 + 1 == i) := List.mem_filter.mpr ⟨hq, hi⟩
    rw [h] at hm
    have hq2 : q = (j, w) := by simpa using hm
    rw [show q.2.category = 1 by rw [hq2]; exact pv_cat hw]
    simp
  · rw [Bool.not_eq_true] at hi
    rw [hi]
    simp
theorem pm_c8v {x : Int32} {w : Value} (h : pv w) : ([Value.int x, w].map (fun v => v.category)).sum ≤ 8 := by
  show 1 + (w.category + 0) ≤ 8
  rw [pv_cat h]
  decide
section PMV
variable {g : pmG} {k : pmK} {d rc rs pc idx : Nat} {L : List (Nat × Value)} {S : List Value} {K : List (Nat × Nat)} {R : Nat → Nat → Value} {I : Nat → Nat → Int32} {J : Nat → Nat → Int64} {o : Outcome} {Z : pmM} {a a2 : Nat} {v : Value}
theorem pm_nload {i : Nat} (h : decode k.2.1 pc = .ok (.aload i, 2)) (hv : pm_lk L i = some .null) (n : pmE g k d rc rs (pc + 2) L (.null :: S) K R I J o Z) : pmE g k d rc rs (pc) L (S) K R I J o Z := by
  intro p e Rm s m args below meth c H locs cells slots mc ms ls hC h1 h2 h3 h4 hl hA
  exact lv_aloadN hC.1 hC.2.1 h (pm_lk_at hl hv) (n p e Rm s m args below meth c H locs cells slots mc ms ls hC h1 h2 h3 h4 hl hA)
theorem pm_nstore_n {q : Fin 4} {L' : List (Nat × Value)} (h : decode k.2.1 pc = .ok (.astore_n q, 1)) (hn : (q : Nat) < k.2.2.1) (hL : pm_st1 L (q : Nat) .null = L') (n : pmE g k d rc rs (pc + 1) L' (S) K R I J o Z) : pmE g k d rc rs (pc) L (.null :: S) K R I J o Z := by
  intro p e Rm s m args below meth c H locs cells slots mc ms ls hC h1 h2 h3 h4 hl hA
  exact lv_astore_nN hC.1 hC.2.1 h rfl hl hn (pm_st1_L g L (q : Nat) .null) (fun ls' hl' => n p e Rm s m args below meth c H locs cells slots mc ms ls' hC h1 h2 h3 h4 (by rw [← hL]; exact hl') hA)
theorem pm_nstore {i : Nat} {L' : List (Nat × Value)} (h : decode k.2.1 pc = .ok (.astore i, 2)) (hn : i < k.2.2.1) (hL : pm_st1 L i .null = L') (n : pmE g k d rc rs (pc + 2) L' (S) K R I J o Z) : pmE g k d rc rs (pc) L (.null :: S) K R I J o Z := by
  intro p e Rm s m args below meth c H locs cells slots mc ms ls hC h1 h2 h3 h4 hl hA
  exact lv_astoreN hC.1 hC.2.1 h hl hn (pm_st1_L g L i .null) (fun ls' hl' => n p e Rm s m args below meth c H locs cells slots mc ms ls' hC h1 h2 h3 h4 (by rw [← hL]; exact hl') hA)
theorem pm_vload_n {q : Fin 4} (h : decode k.2.1 pc = .ok (.aload_n q, 1)) (hv : pm_lk L (q : Nat) = some v) (hp : pv v) (n : pmE g k d rc rs (pc + 1) L (v :: S) K R I J o Z) : pmE g k d rc rs (pc) L (S) K R I J o Z := by
  rcases hp with rfl | ⟨x, rfl⟩
  · exact pm_nload_n h hv n
  · exact pm_aload_n h hv n
theorem pm_vload {i : Nat} (h : decode k.2.1 pc = .ok (.aload i, 2)) (hv : pm_lk L i = some v) (hp : pv v) (n : pmE g k d rc rs (pc + 2) L (v :: S) K R I J o Z) : pmE g k d rc rs (pc) L (S) K R I J o Z := by
  rcases hp with rfl | ⟨x, rfl⟩
  · exact pm_nload h hv n
  · exact pm_aload h hv n
theorem pm_vstore_n {q : Fin 4} {L' : List (Nat × Value)} (h : decode k.2.1 pc = .ok (.astore_n q, 1)) (hn : (q : Nat) < k.2.2.1) (hp : pv v) (hL : pm_st1 L (q : Nat) v = L') (n : pmE g k d rc rs (pc + 1) L' (S) K R I J o Z) : pmE g k d rc rs (pc) L (v :: S) K R I J o Z := by
  rcases hp with rfl | ⟨x, rfl⟩
  · exact pm_nstore_n h hn hL n
  · exact pm_astore_n h hn hL n
theorem pm_vstore {i : Nat} {L' : List (Nat × Value)} (h : decode k.2.1 pc = .ok (.astore i, 2)) (hn : i < k.2.2.1) (hp : pv v) (hL : pm_st1 L i v = L') (n : pmE g k d rc rs (pc + 2) L' (S) K R I J o Z) : pmE g k d rc rs (pc) L (v :: S) K R I J o Z := by
  rcases hp with rfl | ⟨x, rfl⟩
  · exact pm_nstore h hn hL n
  · exact pm_astore h hn hL n
theorem pm_ifnn {off : Int} (tgt : Nat) (h : decode k.2.1 pc = .ok (.ifnonnull off, 3)) (ht : (pc : Int) + off = (tgt : Int)) (hp : pv v) (n1 : ¬ isn v = true → pmE g k d rc rs tgt L S K R I J o Z) (n2 : isn v = true → pmE g k d rc rs (pc + 3) L S K R I J o Z) : pmE g k d rc rs pc L (v :: S) K R I J o Z := by
  intro p e Rm s m args below meth c H locs cells slots mc ms ls hC h1 h2 h3 h4 hl hA
  rcases hp with rfl | ⟨x, rfl⟩
  · exact lv_ifnonnullN hC.1 hC.2.1 h (n2 rfl p e Rm s m args below meth c H locs cells slots mc ms ls hC h1 h2 h3 h4 hl hA)
  · exact lv_ifnonnull hC.1 hC.2.1 h ht (n1 (fun q => by cases q) p e Rm s m args below meth c H locs cells slots mc ms ls hC h1 h2 h3 h4 hl hA)
theorem pm_vzald {i : Int32} {n0 : Nat} (h : decode k.2.1 pc = .ok (.baload, 1)) (hv : v = .ref (pa v)) (hk : K[pa v]? = some (3, n0)) (hin : vp_in i n0) (n : pmE g k d rc rs (pc + 1) L (.int (I (pa v) i.toNatClampNeg) :: S) K R I J o Z) : pmE g k d rc rs pc L (.int i :: v :: S) K R I J o Z := by
  generalize pa v = q at *
  subst hv
  exact pm_zald h hk hin n
theorem pm_vzast {i x : Int32} {n0 : Nat} (h : decode k.2.1 pc = .ok (.bastore, 1)) (hv : v = .ref (pa v)) (hk : K[pa v]? = some (3, n0)) (hin : vp_in i n0) (n : pmE g k d rc rs (pc + 1) L S K R (pm_u I (pa v) i.toNatClampNeg (vp_nar .boolean x)) J o Z) : pmE g k d rc rs pc L (.int x :: .int i :: v :: S) K R I J o Z := by
  generalize pa v = q at *
  subst hv
  exact pm_zast h hk hin n
theorem pm_anew {z0 : Int32} {N : Nat} (h : decode k.2.1 pc = .ok (.anewarray idx, 3)) (hlk : Cond.classLink k.1.cls idx (FieldType.array .boolean).toString ∈ pm_TS) (hov : FieldType.boolean ∈ pm_OV) (hn : ¬ z0 < 0) (hN : z0.toNatClampNeg = N) (hb8 : N * 4 ≤ 536870912)
    (n : pmE g k d rc rs (pc + 3) L (.ref K.length :: S) (K ++ [(6, N)]) (pm_z R K.length .null) (pm_z I K.length 0) (pm_z J K.length 0) o Z) : pmE g k d (rc + 1) (rs + N) pc L (.int z0 :: S) K R I J o Z := by
  intro p e Rm s m args below meth c H locs cells slots mc ms ls hC h1 h2 h3 h4 hl hA
  obtain ⟨hx, hb, -, -, -, -, hown, hts, ⟨hK, -, hX⟩, -⟩ := id hC
  have h0 : H.size = g.2.2.1 + K.length := hA.1.1
  have hov9 : (Cond.arrayOver (.array .boolean)).before args s = true := hX.2.2.2.2.2.2.2.2.2 _ hov
  subst hN
  refine W.anewA (R := Rm) (cells := cells) (slots := slots) hx hb hown (hts _ hlk) hov9 (g := F0 m pc ls ((.int z0 :: S).map (pm_t g))) rfl h rfl hn hb8 (by omega) (by omega) fun cA kA comp q1 q2 q3 q4 => ?_
  have hcA : cA = g.2.2.2.2.1 6 := Option.some.inj (q1.symm.trans (hK.2 5 _ rfl).2)
  have z : (H.push { cls := cA, slots := Array.replicate z0.toNatClampNeg .null, vm := .none }).size = H.size + 1 := by simp
  have oq : ∀ q : Nat, q < H.size → (H.push { cls := cA, slots := Array.replicate z0.toNatClampNeg .null, vm := .none })[q]? = H[q]? := fun q hq => by rw [Array.getElem?_push, if_neg (Nat.ne_of_lt hq)]
  have := n p e Rm s m args below meth c _ locs (cells + 1) (slots + z0.toNatClampNeg) mc ms ls hC h1 h2 (by omega) (by omega) hl ⟨pm_H_push hA.1 z oq (by
    show (H.push _)[g.2.2.1 + K.length]? = some (vp_cell (g.2.2.2.2.1 6) (z0.toNatClampNeg, .inr (.inr (.inr (.inr (fun j => pm_ro g (pm_z R K.length .null K.length j)))))))
    rw [vp_cell_q, ← h0, Array.getElem?_push, if_pos rfl, mm_rep, hcA]
    refine congrArg some (mm_cg _ (fun j hj => ?_))
    rw [pm_z_a]
    rfl) (fun a' h' => ⟨pm_z_n R _ h', pm_z_n I _ h', pm_z_n J _ h'⟩), pm_S_push hA.2 z oq⟩
  rw [h0]
  exact this
/-- a new array of booleans: nothing of it lies in the references or the longs -/
theorem pm_newz {z0 : Int32} {N : Nat} (h : decode k.2.1 pc = .ok (.newarray .boolean, 2)) (harr : Cond.arrayClass .boolean ∈ pm_TS) (hn : ¬ z0 < 0) (hN : z0.toNatClampNeg = N) (hb8 : N * componentBytes .boolean ≤ 536870912)
    (n : pmE g k d rc rs (pc + 2) L (.ref K.length :: S) (K ++ [(3, N)]) R (pm_z I K.length 0) J o Z) : pmE g k d (rc + 1) (rs + N) pc L (.int z0 :: S) K R I J o Z := by
  intro p e Rm s m args below meth c H locs cells slots mc ms ls hC h1 h2 h3 h4 hl hA
  obtain ⟨hx, hb, -, -, -, -, hown, hts, ⟨hK, -⟩, -⟩ := id hC
  have h0 : H.size = g.2.2.1 + K.length := hA.1.1
  refine va_newaK (atype := .boolean) (R := Rm) (cells := cells) (slots := slots) hx hb (hts _ harr) (g := F0 m pc ls ((.int z0 :: S).map (pm_t g))) rfl h rfl hn hN hb8 (by omega) (by omega) h0 fun H1 cA e1 z1 o1 hAr hNm => ?_
  have z : H1.size = H.size + 1 := by omega
  have oq : ∀ q : Nat, q < H.size → H1[q]? = H[q]? := fun q hq => o1 q (by omega)
  refine n p e Rm s m args below meth c H1 locs (cells + 1) (slots + N) mc ms ls hC h1 h2 (by omega) (by omega) hl ⟨pm_H_push hA.1 z oq ?_ (fun a' h' => ⟨rfl, pm_z_n I _ h', rfl⟩), pm_S_push hA.2 z oq⟩
  have hcA : cA = g.2.2.2.2.1 3 := Option.some.inj (hNm.symm.trans (hK.2 2 _ rfl).2)
  subst hcA
  show H1[_]? = some (vp_cell _ (N, .inl (pm_z I K.length 0 K.length)))
  rw [e1, pm_z_a, vp_cell_i]; rfl
/-- a row of booleans into an array of such rows -/
theorem pm_aast6 {i : Int32} {n0 m0 w : Nat} (h : decode k.2.1 pc = .ok (.aastore, 1)) (hk : K[a]? = some (6, n0)) (hw : K[w]? = some (3, m0)) (hin : vp_in i n0) (hov : FieldType.boolean ∈ pm_OV) (n : pmE g k d rc rs (pc + 1) L S K (pm_u R a i.toNatClampNeg (.ref w)) I J o Z) : pmE g k d rc rs pc L (.ref w :: .int i :: .ref a :: S) K R I J o Z := by
  intro p e Rm s m args below meth c H locs cells slots mc ms ls hC h1 h2 h3 h4 hl hA
  obtain ⟨hx, hb, -, -, -, -, hown, hts, ⟨hK, -, hX⟩, -⟩ := id hC
  have hov9 : (Cond.arrayOver (.array .boolean)).before args s = true := hX.2.2.2.2.2.2.2.2.2 _ hov
  have hlt := vp_lt hin
  have hcell : H[g.2.2.1 + a]? = some (arrV (g.2.2.2.2.1 6) n0 (fun q => va_rf (pm_ro g (R a q)))) := hA.1.2 a _ (pm_qld hk (Or.inr rfl))
  have hcw : H[g.2.2.1 + w]? = some (arrV (g.2.2.2.2.1 3) m0 (fun q => .int (I w q))) := hA.1.2 w _ (pm_ald hw (Or.inr (Or.inr rfl)))
  obtain ⟨comp, cA, kA, hcomp, -, hkA, hkindA, hnameA⟩ := arrayOverA_spec hov9
  have hcA : cA = g.2.2.2.2.1 6 := Option.some.inj (hnameA.symm.trans (hK.2 5 _ rfl).2)
  have hcm : comp = g.2.2.2.2.1 3 := Option.some.inj (hcomp.symm.trans (hK.2 2 _ rfl).2)
  subst hcA; subst hcm
  obtain ⟨kc, hkc, -⟩ := Vm.findClass_spec hcomp
  have hself : s.vm.assignable (g.2.2.2.2.1 3) (g.2.2.2.2.1 3) = true := by
    show s.vm.assignableAux (255 + 1) _ _ = true
    rw [Vm.assignableAux]
    simp only [beq_self_eq_true, Bool.true_or]
  refine W.aast hx hb hcell (fun _ q => by cases q) (fun q => by cases q) hkA hkindA rfl hkc ⟨fun q => hin (Or.inl q), by rw [arrV_size]; exact hlt⟩ hcw (fun _ q => by cases q) hkc hself (g := F0 m pc ls ((.ref w :: .int i :: .ref a :: S).map (pm_t g))) rfl (rest := S.map (pm_t g)) rfl h fun H1 e1 z oq => ?_
  refine n p e Rm s m args below meth c H1 _ cells slots mc ms ls hC h1 h2 h3 h4 hl ⟨pm_H_set hA.1 hk z oq ?_ (fun a' h' => ⟨pm_u_n R _ _ h', rfl, rfl⟩), hA.2.put z oq (Nat.le_add_right _ _)⟩
  show H1[g.2.2.1 + a]? = some (vp_cell (g.2.2.2.2.1 6) (n0, .inr (.inr (.inr (.inr (fun j => pm_ro g (pm_u R a i.toNatClampNeg (.ref w) a j)))))))
  rw [vp_cell_q, e1, arrV_store]
  refine congrArg some (mm_cg _ (fun j hj => ?_))
  unfold updV
  by_cases hj2 : j = i.toNatClampNeg
  · subst hj2
    rw [if_pos rfl, pm_u_s]; rfl
  · rw [if_neg hj2, pm_u_j R a _ hj2]
/-- System.arraycopy from one row of booleans to another -/
theorem pm_copyz {n0 n1 : Nat} {sp dp n : Int32} (h : decode k.2.1 pc = .ok (.invokestatic idx, 3)) (f : pm_Ly k.1.cls idx) (hk : K[a]? = some (3, n0)) (hk2 : K[a2]? = some (3, n1)) (h1 : ¬ sp < 0) (h2 : ¬ dp < 0) (h3 : ¬ n < 0) (h4 : sp.toNatClampNeg + n.toNatClampNeg ≤ n0) (h5 : dp.toNatClampNeg + n.toNatClampNeg ≤ n1) (h8 : (S.map fun v => v.category).sum ≤ 8) (hbz : ∀ i, i < n.toNatClampNeg → fits .boolean (.int (I a (sp.toNatClampNeg + i))) = true)
    (nx : pmE g k (d + 1) rc rs (pc + 3) L S K R (fun a' => if a' = a2 then va_cpy (I a) (I a2) sp.toNatClampNeg dp.toNatClampNeg n.toNatClampNeg else I a') J o Z) : pmE g k (d + 1) rc rs pc L (.int n :: .int dp :: .ref a2 :: .int sp :: .ref a :: S) K R I J o Z := by
  intro p e Rm s m args below meth c H locs cells slots mc ms ls hC g1 g2 g3 g4 hl hA
  obtain ⟨hx, hb, hml, -, -, -, hown, hts, ⟨hK, -⟩, hfr, hlo, -⟩ := id hC
  have hcell : H[g.2.2.1 + a]? = some (arrV (g.2.2.2.2.1 3) n0 (fun q => .int (I a q))) := hA.1.2 a _ (pm_ald hk (Or.inr (Or.inr rfl)))
  have hcell2 : H[g.2.2.1 + a2]? = some (arrV (g.2.2.2.2.1 3) n1 (fun q => .int (I a2 q))) := hA.1.2 a2 _ (pm_ald hk2 (Or.inr (Or.inr rfl)))
  obtain ⟨-, k0, hk0, cm0, hkk0⟩ := (hK.2 2 _ rfl).1 n0 (fun q => .int (I a q))
  intro T hT X
  have hs := arrV_size (g.2.2.2.2.1 3) n0 (fun q => Value.int (I a q))
  have hs2 := arrV_size (g.2.2.2.2.1 3) n1 (fun q => Value.int (I a2 q))
  have hc8 := pm_catS g S
  obtain ⟨vm', X', step⟩ := X.arraycopy hx hown (hts _ f.1) (hts _ f.2.1) (hts _ f.2.2.1) (hts _ f.2.2.2) (cs := arrV (g.2.2.2.2.1 3) n0 (fun q => .int (I a q))) (cd := arrV (g.2.2.2.2.1 3) n1 (fun q => .int (I a2 q))) (src := g.2.2.1 + a) (dst := g.2.2.1 + a2) (srcPos := sp) (destPos := dp) (n := n) (by rw [hT]; exact hcell) (by rw [hT]; exact hcell2)
    (fun _ q => by cases q) (fun _ q => by cases q) (fun q => by cases q) (fun q => by cases q) hk0 hk0 hkk0 hkk0 rfl h1 h2 h3 (by rw [pm_nn h1, pm_nn h3, hs]; omega) (by rw [pm_nn h2, pm_nn h3, hs2]; omega)
    (fun vm₁ _ i hi => by
      have e : (arrV (g.2.2.2.2.1 3) n0 (fun q => Value.int (I a q))).slots.getD (sp.toNatClampNeg + i) .null = .int (I a (sp.toNatClampNeg + i)) := by
        rw [Array.getD_eq_getD_getElem?, arrV_read _ _ (by omega)]; rfl
      rw [e]
      exact ⟨hbz i hi, trivial⟩)
    (g := F0 m pc ls ((.int n :: .int dp :: .ref a2 :: .int sp :: .ref a :: S).map (pm_t g))) rfl (by rw [hml]; exact hl.1) (rest := S.map (pm_t g)) rfl (by rw [hb]; exact h) (by omega) (by show 2 * 0 + ((S.map (pm_t g)).map fun v => v.category).sum + (7 + 11) ≤ Rm.locals; omega)
  have e1 : copied (arrV (g.2.2.2.2.1 3) n0 (fun q => Value.int (I a q))) (arrV (g.2.2.2.2.1 3) n1 (fun q => Value.int (I a2 q))) sp dp n = arrV (g.2.2.2.2.1 3) n1 (fun q => .int (va_cpy (I a) (I a2) sp.toNatClampNeg dp.toNatClampNeg n.toNatClampNeg q)) := va_copied (fun z => .int z) _ _ (I a) (I a2) h4
  rw [e1] at X' step
  have hlt : g.2.2.1 + a2 < H.size := (Array.getElem?_eq_some_iff.mp hcell2).1
  have e2 : (fun q => Value.int ((fun a' => if a' = a2 then va_cpy (I a) (I a2) sp.toNatClampNeg dp.toNatClampNeg n.toNatClampNeg else I a') a2 q)) = (fun q => .int (va_cpy (I a) (I a2) sp.toNatClampNeg dp.toNatClampNeg n.toNatClampNeg q)) := by
    funext q
    show Value.int ((if a2 = a2 then va_cpy (I a) (I a2) sp.toNatClampNeg dp.toNatClampNeg n.toNatClampNeg else I a2) q) = _
    rw [if_pos rfl]
  have z : ∀ cell : Cell, (H.setIfInBounds (g.2.2.1 + a2) cell).size = H.size := fun cell => by simp
  have oq : ∀ (cell : Cell) (q : Nat), q ≠ g.2.2.1 + a2 → (H.setIfInBounds (g.2.2.1 + a2) cell)[q]? = H[q]? := fun cell q hq => by simp [Array.getElem?_setIfInBounds, Ne.symm hq]
  obtain ⟨t, a1, b1⟩ := nx p e Rm s m args below meth c (H.setIfInBounds (g.2.2.1 + a2) (arrV (g.2.2.2.2.1 3) n1 (fun q => .int (va_cpy (I a) (I a2) sp.toNatClampNeg dp.toNatClampNeg n.toNatClampNeg q)))) (locs ++ ((arrV (g.2.2.2.2.1 3) n0 (fun q => Value.int (I a q))).stretch sp.toNatClampNeg n.toNatClampNeg).zipIdx.map fun q => ⟨g.2.2.1 + a2, dp.toNatClampNeg + q.2⟩) cells slots mc ms ls hC g1 g2 g3 g4 hl ⟨pm_H_set hA.1 hk2 (z _) (oq _) (by
      show (H.setIfInBounds (g.2.2.1 + a2) _)[g.2.2.1 + a2]? = some (arrV _ n1 (fun q => Value.int ((fun a' => if a' = a2 then va_cpy (I a) (I a2) sp.toNatClampNeg dp.toNatClampNeg n.toNatClampNeg else I a') a2 q)))
      rw [e2]
      simp [Array.getElem?_setIfInBounds, hlt]) (fun a' h' => ⟨rfl, if_neg h', rfl⟩), by
      rw [z]; exact hA.2.1, fun q q1 q2 => by
      rw [oq _ q (fun e => q2 (by rw [e]; exact Nat.le_add_right _ _))]
      exact hA.2.2.1 q q1 q2, fun q hq => by
      rcases List.mem_append.mp hq with q9 | q9
      · exact hA.2.2.2 q q9
      · obtain ⟨w, -, hw⟩ := List.mem_map.mp q9
        rw [← hw]
        exact Nat.le_add_right _ _⟩ ((T.setVm vm').setCell (g.2.2.1 + a2) (arrV (g.2.2.2.2.1 3) n1 (fun q => .int (va_cpy (I a) (I a2) sp.toNatClampNeg dp.toNatClampNeg n.toNatClampNeg q)))) (by rw [← hT]; rfl) X'
  exact ⟨t, step t a1, b1⟩
end PMV
theorem yMo_356 : pm_Ly "CircuitCheckerModel" 356 := ⟨pm_in 1574 (by decide +kernel) rfl, pm_in 434 (by decide +kernel) rfl, pm_in 433 (by decide +kernel) rfl, pm_in 11 (by decide +kernel) rfl⟩
theorem ac_boolean : Cond.arrayClass .boolean ∈ pm_TS := pm_in 1335 (by decide +kernel) rfl
theorem ov_boolean : FieldType.boolean ∈ pm_OV := List.mem_of_getElem? (i := 1) rfl
/-- the rows of booleans lie in B -/
def mk_B (R : Nat → Nat → Value) (B : Nat → Value) : Nat → Nat → Value := fun a => if a = 320 then B else R a
theorem mk_RB {R : Nat → Nat → Value} (h : mk_R R) (B : Nat → Value) : mk_R (mk_B R B) := by
  refine ⟨fun q hq => ?_, fun i hi => ?_, fun i hi => ?_⟩
  · have hne : ∀ q ∈ mk_Rl, ¬ q.1 = 320 := by decide +kernel
    unfold mk_B
    rw [if_neg (hne q hq)]
    exact h.1 q hq
  · exact h.2.1 i hi
  · exact h.2.2 i hi
theorem mk_fA (E : List (Nat × Nat)) {i : Nat} (h : i < 256) : (mk_K ++ E)[64 + i]? = some (1, 8) := by
  have hall : ∀ i : Nat, i < 256 → mk_K[64 + i]? = some (1, 8) := by decide +kernel
  have hk := hall i h
  rw [List.getElem?_append_left (List.getElem?_eq_some_iff.mp hk).1]
  exact hk
theorem mk_fS (E : List (Nat × Nat)) {i : Nat} (h : i < 30) : (mk_K ++ E)[323 + i]? = some (3, 256) := by
  have hall : ∀ i : Nat, i < 30 → mk_K[323 + i]? = some (3, 256) := by decide +kernel
  have hk := hall i h
  rw [List.getElem?_append_left (List.getElem?_eq_some_iff.mp hk).1]
  exact hk
/-- what lies there are booleans -/
def pm_bz (I : Nat → Nat → Int32) (a sp n : Nat) : Prop := ∀ i, i < n → fits .boolean (.int (I a (sp + i))) = true
def pm_cpz (I : Nat → Nat → Int32) (a a2 sp dp n : Nat) : Nat → Nat → Int32 := fun a' => if a' = a2 then va_cpy (I a) (I a2) sp dp n else I a'
theorem mk_rl {E X : List (Nat × Nat)} {rc : Nat} (h : E.length + rc = X.length) (h2 : (E ++ [(3, 256)]).length ≤ X.length) : 1 ≤ rc := by
  rw [List.length_append] at h2
  have : ([(3, 256)] : List (Nat × Nat)).length = 1 := rfl
  omega
theorem mk_rm {X rc : Nat} {E : List (Nat × Nat)} (h : X = E.length + rc) (h1 : 1 ≤ rc) : X = (E ++ [(3, 256)]).length + (rc - 1) := by
  rw [List.length_append]
  have : ([(3, 256)] : List (Nat × Nat)).length = 1 := rfl
  omega
section MKA
variable {g : pmG} {k : pmK} {d rc rs pc idx : Nat} {L : List (Nat × Value)} {S : List Value} {K E : List (Nat × Nat)} {R : Nat → Nat → Value} {B : Nat → Value} {I : Nat → Nat → Int32} {J : Nat → Nat → Int64} {o : Outcome} {Z : pmM} {a a2 : Nat} {v : Value}
theorem mk_al {i : Int32} (h1 : decode k.2.1 pc = .ok (.newarray .boolean, 2)) (h2 : decode k.2.1 (pc + 2) = .ok (.aastore, 1)) (hin : vp_in i 4200) (hb : 1 ≤ rc) (hs : rs = 256 * rc)
    (n : pmE g k d (rc - 1) (256 * (rc - 1)) (pc + 3) L S (mk_K ++ (E ++ [(3, 256)])) (mk_B R (fun j => if j = i.toNatClampNeg then Value.ref (mk_K ++ E).length else B j)) (pm_z I (mk_K ++ E).length 0) J o Z) : pmE g k d rc rs pc L (.int 256 :: .int i :: .ref 320 :: S) (mk_K ++ E) (mk_B R B) I J o Z := by
  have hk320 : (mk_K ++ E)[320]? = some (6, 4200) := rfl
  have hlt := (List.getElem?_eq_some_iff.mp hk320).1
  refine pm_bud (rc - 1 + 1) (256 * (rc - 1) + 256) (by omega) (by omega) ?_
  refine pm_newz h1 ac_boolean (by decide) rfl (by decide) ?_
  refine pm_aast6 h2 (n0 := 4200) (m0 := 256) (by rw [List.getElem?_append_left hlt]; exact hk320) (by rw [List.getElem?_append_right (Nat.le_refl _), Nat.sub_self]; rfl) hin ov_boolean ?_
  rw [List.append_assoc]
  refine pm_Req ?_ n
  funext a j
  unfold pm_u mk_B
  by_cases ha : a = 320
  · rw [if_pos ha, if_pos ha, if_pos rfl]
  · rw [if_neg ha, if_neg ha, if_neg ha]
theorem pm_vcopyz {n0 n1 : Nat} {sp dp n : Int32} (h : decode k.2.1 pc = .ok (.invokestatic idx, 3)) (f : pm_Ly k.1.cls idx) (hv : v = .ref (pa v)) (hk : K[pa v]? = some (3, n0)) (hk2 : K[a2]? = some (3, n1)) (h1 : ¬ sp < 0) (h2 : ¬ dp < 0) (h3 : ¬ n < 0) (h4 : sp.toNatClampNeg + n.toNatClampNeg ≤ n0) (h5 : dp.toNatClampNeg + n.toNatClampNeg ≤ n1) (h8 : (S.map fun v => v.category).sum ≤ 8) (hbz : ∀ i, i < n.toNatClampNeg → fits .boolean (.int (I (pa v) (sp.toNatClampNeg + i))) = true)
    (nx : pmE g k (d + 1) rc rs (pc + 3) L S K R (pm_cpz I (pa v) a2 sp.toNatClampNeg dp.toNatClampNeg n.toNatClampNeg) J o Z) : pmE g k (d + 1) rc rs pc L (.int n :: .int dp :: .ref a2 :: .int sp :: v :: S) K R I J o Z := by
  generalize pa v = q at *
  subst hv
  exact pm_copyz h f hk hk2 h1 h2 h3 h4 h5 h8 hbz nx
end MKA
section MKL
variable {g : pmG} {k : pmK} {d rc rs pc idx : Nat} {L : List (Nat × Value)} {S : List Value} {K : List (Nat × Nat)} {R : Nat → Nat → Value} {I : Nat → Nat → Int32} {J : Nat → Nat → Int64} {o : Outcome} {Z : pmM}
theorem pm_multiL {n0 m0 : Int32} {N M t0 t1 : Nat} {ty : FieldType} (rc1 rs1 q : Nat) (h1 : rc1 + 1 + N ≤ rc) (h2 : rs1 + N + N * M ≤ rs) (hq : K.length = q) (h : decode k.2.1 pc = .ok (.multianewarray idx 2, 4)) (hlk : Cond.classLink k.1.cls idx ("[" ++ (FieldType.array ty).toString) ∈ pm_TS) (hov : ty ∈ pm_OV) (har : Cond.arrayClass ty ∈ pm_TS) (ht : (t0 = 5 ∧ t1 = 1 ∧ ty = .int) ∨ (t0 = 6 ∧ t1 = 3 ∧ ty = .boolean))
    (hn : ¬ n0 < 0) (hm : ¬ m0 < 0) (hN : n0.toNatClampNeg = N) (hM : m0.toNatClampNeg = M) (hb1 : N * 4 ≤ 536870912) (hb2 : M * componentBytes ty ≤ 536870912) (hb3 : M ≤ 536870912)
    (n : pmE g k d rc1 rs1 (pc + 4) L (.ref q :: S) (K ++ (t0, N) :: List.replicate N (t1, M)) (mm_R R q N) (mm_I I q N 0) (mm_I J q N 0) o Z) : pmE g k d rc rs pc L (.int m0 :: .int n0 :: S) K R I J o Z := by
  subst hq
  exact pm_bud _ _ h1 h2 (pm_multi h hlk hov har ht hn hm hN hM hb1 hb2 hb3 n)
theorem pm_anewL {z0 : Int32} {N : Nat} (rc1 rs1 q : Nat) (h1 : rc1 + 1 ≤ rc) (h2 : rs1 + N ≤ rs) (hq : K.length = q) (h : decode k.2.1 pc = .ok (.anewarray idx, 3)) (hlk : Cond.classLink k.1.cls idx (FieldType.array .boolean).toString ∈ pm_TS) (hov : FieldType.boolean ∈ pm_OV) (hn : ¬ z0 < 0) (hN : z0.toNatClampNeg = N) (hb8 : N * 4 ≤ 536870912)
    (n : pmE g k d rc1 rs1 (pc + 3) L (.ref q :: S) (K ++ [(6, N)]) (pm_z R q .null) (pm_z I q 0) (pm_z J q 0) o Z) : pmE g k d rc rs pc L (.int z0 :: S) K R I J o Z := by
  subst hq
  exact pm_bud _ _ h1 h2 (pm_anew h hlk hov hn hN hb8 n)
end MKL
