/-! throws -/
section PMT
variable {p : Program} {l : Launch} {e : Env} {R : Room} {s : State} {m : MethodId} {args : Array Value} {below : List Frame} {meth : Method} {c : Code} {T : State} {locs : List Loc} {cells slots : Nat}
/-- the walk so far, seen as if the method began here -/
abbrev pm_rb (T : State) (m : MethodId) (args : Array Value) (below : List Frame) : State := T.setFrames (.invoking m args :: below)
theorem pm_rebase (X : Stand p l e R s m args below meth c T locs cells slots) (hc : cells ≤ R.cells) (hs : slots ≤ R.slots) : Stand p l e { R with cells := R.cells - cells, slots := R.slots - slots } (pm_rb T m args below) m args below meth c T [] 0 0 := by
  obtain ⟨g₀, hfr⟩ := X.frames_eq
  have hcur : T.cur < T.threads.size := State.cur_lt_of_frames hfr
  obtain ⟨th, hth, -⟩ := State.frames_cons hfr
  have hF : (pm_rb T m args below).frames = .invoking m args :: below := State.frames_setFrames _ hcur
  have hlim : e.platform.stackLimits (pm_rb T m args below).me = e.platform.stackLimits s.me := (State.stackLimits_setFrames _ _ _).trans X.limits
  have hby : (pm_rb T m args below).me.stackBytes = s.me.stackBytes := (State.stackBytes_setFrames _ _).trans X.bytes
  have hlu : (pm_rb T m args below).localsInUse = s.localsInUse := by
    rw [State.localsInUse_invoking X.frames X.method X.code, State.localsInUse_invoking hF X.method' X.code]
  have hsz := X.heapSize
  have hus := X.used
  refine ⟨X.admits, X.cas, X.clock, hF, ?_, ?_, X.method', X.code, X.here, X.tail, State.WarmedH.refl _, (State.stackLimits_setFrames _ _ _).symm, (State.stackBytes_setFrames _ _).symm, ?_⟩
  · have hr := X.room
    have hbk : (pm_rb T m args below).slotsTrue = true := X.book
    simp only [State.hasRoom, Bool.and_eq_true, decide_eq_true_eq] at hr ⊢
    obtain ⟨⟨⟨⟨a1, a2, a3, a4, a5, a6⟩, a7⟩, a8⟩, a9⟩ := hr
    rw [hF, hlu, hlim, hby]
    rw [X.frames] at a2 a3
    refine ⟨⟨⟨⟨a1, a2, a3, a4, a5, a6⟩, ?_⟩, ?_⟩, hbk⟩
    · show T.heap.size + (R.cells - cells) ≤ _
      omega
    · show T.slotsUsed + (R.slots - slots) ≤ _
      omega
  · have hh := X.hears
    have hcd : ∀ m', (pm_rb T m args below).code? m' = s.code? m' := fun m' => by
      rw [State.code?_eq, State.code?_eq]
      show (T.vm.method? m').bind _ = _
      rw [X.warmed.alike.method?]
    have hm' : (pm_rb T m args below).vm.method? m = s.vm.method? m := X.method'.trans X.method.symm
    unfold State.hears at hh ⊢
    simp only [hcd, hm']
    exact hh
  · obtain ⟨th', hth', -⟩ := State.frames_cons hF
    have h := (State.sameButNew.refl (pm_rb T m args below) hth').setFrames T.frames (State.cur_lt_of_frames hF)
    have e9 : (pm_rb T m args below).setFrames T.frames = T := by rw [State.setFrames_setFrames, State.setFrames_self hth]
    rw [e9] at h
    exact h
theorem pm_isRef {C n ds : String} {A : Nat → Prop} {U : State} {q : Nat} (h : va_Z C n ds .null A U U.heap ∨ va_Z C n ds (.ref q) A U U.heap) : (Cond.isRef (.static C n ds)).before args U = true := by
  rcases h with h | h
  · obtain ⟨cf, kf, fi, f, a, cell, h1, h2, h3, h4, h5, h6, h7, h8⟩ := h
    simp [Cond.before, Cond.holds, Cond.value, Term.eval, State.fieldNamed?, h1, h2, h4, h5, h6, h7]
  · obtain ⟨cf, kf, fi, f, a, cell, h1, h2, h3, h4, h5, h6, h7, h8⟩ := h
    simp [Cond.before, Cond.holds, Cond.value, Term.eval, State.fieldNamed?, h1, h2, h4, h5, h6, h7]
end PMT
section PMU
variable {g : pmG} {k : pmK} {d rc rs pc idx ic ci a : Nat} {L : List (Nat × Value)} {S : List Value} {K : List (Nat × Nat)} {R : Nat → Nat → Value} {I : Nat → Nat → Int32} {J : Nat → Nat → Int64} {o : Outcome} {Z : pmM}
theorem pm_noH {c : Code} (hno : (pm_hs k.1).isEmpty = true) (hex : c.exceptionTable.toList.map (fun h => (h.startPc, h.endPc, h.handlerPc, h.catchType)) = pm_hs k.1) (q : Nat) : ∀ x ∈ c.exceptionTable.toList, covers x q = false := by
  intro x hx
  rw [List.isEmpty_iff.mp hno] at hex
  rw [List.map_eq_nil_iff.mp hex] at hx
  cases hx
theorem pm_athrow (h : decode k.2.1 pc = .ok (.athrow, 1)) (hno : (pm_hs k.1).isEmpty = true) (ho : o = .threw a) (hz : Z = (K, R, I, J)) : pmE g k d rc rs pc L (.ref a :: S) K R I J o Z := by
  intro p e Rm s m args below meth c H locs cells slots mc ms ls hC h1 h2 h3 h4 hl hA
  subst ho; subst hz
  obtain ⟨hx, hb, hml, -, hlocks, -, hown, hts, -, hfr, hlo, hex⟩ := id hC
  intro T hT X
  obtain ⟨hwalk, hrun, hended, hWU, hsame⟩ := X.athrowLeaves hx (g := F0 m pc ls ((.ref a :: S).map (pm_t g))) rfl rfl rfl (pm_noH hno hex _) (a := g.2.2.1 + a) (rest := S.map (pm_t g)) rfl (by rw [hb]; exact h) hlocks
  exact ⟨_, hwalk, .threw (g.2.2.1 + a), hrun, hended, ⟨rfl, by show pm_H g _ T.heap; rw [hT]; exact hA.1, hA.2.F hT⟩, locs, ⟨hWU, hsame.weaken (fun y hy _ => hy) (by omega) (by omega)⟩, hA.2.2.2⟩
/-- throw new X(), X one of the JDK's: its cell is described by its class alone -/
theorem pm_thrNew {cls : String} {T0 : u_T} {up : List String} (ht : g.1.stackTraces = false) (h0 : decode k.2.1 pc = .ok (.new idx, 3)) (h3 : decode k.2.1 (pc + 3) = .ok (.dup, 1)) (h4 : decode k.2.1 (pc + 4) = .ok (.invokespecial ic, 3)) (h7 : decode k.2.1 (pc + 7) = .ok (.athrow, 1)) (hcl : pm_cl[ci]? = some (cls, T0, 0))
    (hlk : Cond.classLink k.1.cls idx cls ∈ pm_TS) (hins : Cond.instantiable cls 6 ∈ pm_TS) (hini : Cond.initialized cls ∈ pm_TS) (hfit : Bundle.fit cls = true) (hup : ∀ n ∈ up, Bundle.fit n = true)
    (hat : ∀ w ∈ Bundle.ownAtoms0 k.1.cls ic cls up, w ∈ pm_TS ∨ w = .isRef (.static "java/lang/Throwable" "UNASSIGNED_STACK" "[Ljava/lang/StackTraceElement;") ∨ w = .isRef (.static "java/lang/Throwable" "SUPPRESSED_SENTINEL" "Ljava/util/List;") ∨ w ∈ pm_FW ∨ ∃ q ∈ pm_LS, w = .laysStatic q.1 q.2.1 q.2.2)
    (hul : up.length ≤ 2) (hno : (pm_hs k.1).isEmpty = true) (hS : (S.map fun v => v.category).sum ≤ 8) (ho : o = .threw K.length) (hz : Z = (K ++ [(0, ci)], R, I, J)) : pmE g k (d + 6) (rc + 1) (rs + 6) pc L S K R I J o Z := by
  intro p e Rm s m args below meth c H locs cells slots mc ms ls hC g1 g2 g3 g4 hl hA
  subst ho; subst hz
  obtain ⟨hx, hb, hml, -, hlocks, -, hown, hts, ⟨hK, hN, hX⟩, hfr, hlo, hex⟩ := id hC
  have hsize : H.size = g.2.2.1 + K.length := hA.1.1
  intro T hT X
  have X' := pm_rebase X (by omega) (by omega)
  have hWw : s.WarmedH (pm_rb T m args below).vm := X.warmed
  have hts' : ∀ w ∈ pm_TS, w.before args (pm_rb T m args below) = true := fun w hw => word_at hWw (pm_TS_good _ hw) (hts _ hw)
  have hown' : (pm_rb T m args below).vm.findClass k.1.cls = some m.cls := by rw [hWw.alike.findClass]; exact hown
  have hX' : pm_X g (pm_rb T m args below) (pm_rb T m args below).heap := by
    have := pm_X_mv (U := pm_rb T m args below) (H := H) hWw hA.2.2.1 hX
    show pm_X g _ T.heap
    rw [hT]; exact this
  have hatb : ∀ w ∈ Bundle.ownAtoms0 k.1.cls ic cls up, w.before args (pm_rb T m args below) = true := by
    intro w hw
    rcases hat w hw with h | rfl | rfl | h | ⟨q, hq, rfl⟩
    · exact hts' w h
    · exact pm_isRef (hX'.2.2.2.2.2.1 _ (List.mem_of_getElem? (i := 1) rfl))
    · exact pm_isRef (hX'.2.2.2.2.2.1 _ (List.mem_of_getElem? (i := 2) rfl))
    · exact pm_face_warm (State.WarmedH.refl (pm_rb T m args below)) (List.mem_filter.mp h).2 (hX'.2.2.2.2.2.2.1 w h)
    · exact (hX'.2.2.2.2.2.2.2.1 q hq).word
  have hfc : (pm_rb T m args below).vm.findClass cls = some (g.2.1.1 ci) := by rw [hWw.alike.findClass]; exact (hK.1 ci _ hcl).2.1
  have htr : e.platform.stackTraces = false := by
    rw [show e.platform.stackTraces = g.1.stackTraces by rw [X.admits.platform]]; exact ht
  have key : W p g.1 e { Rm with cells := Rm.cells - cells, slots := Rm.slots - slots } (pm_rb T m args below) m args below meth c H [] 0 0 (fun t => t.status = .running ∧ Ended t below (.threw (g.2.2.1 + K.length)) ∧ (pm_rb T m args below).WarmedH t.vm ∧ (pm_rb T m args below).sameButNew ({ t with vm := (pm_rb T m args below).vm } : State) [] 1 6 ∧ ∃ ce : Cell, t.heap[g.2.2.1 + K.length]? = some ce ∧ ce.cls = g.2.1.1 ci ∧ ce.vm = .none) (F0 m pc ls (S.map (pm_t g))) := by
    refine W.newcK hx hb hown' (hts' _ hlk) (hts' _ hins) (hts' _ hini) rfl h0 (by show 0 + 1 ≤ Rm.cells - cells; omega) (by show 0 + 6 ≤ Rm.slots - slots; omega) hfc hsize fun H1 kC hkC e1 z1 o1 => ?_
    refine lv_dup hx hb h3 rfl ?_
    intro T1 hT1 X1
    obtain ⟨U, q1, q2, q3, q4, q5, ce, q6, q7⟩ := X1.ctorThrow0 hx htr (own := k.1.cls) (cls := cls) (names := up) (ic := ic) hown' hfit hup hatb (fun y hy => by cases hy) hfc hkC (a := g.2.2.1 + K.length) (by rw [hT1]; exact e1) (by show T.heap.size ≤ _; rw [hT, hsize]; exact Nat.le_refl _)
      (g := F0 m (pc + 3 + 1) ls (.ref (g.2.2.1 + K.length) :: .ref (g.2.2.1 + K.length) :: S.map (pm_t g))) rfl (by rw [hml]; exact hl.1) rfl rfl (rest := S.map (pm_t g)) rfl (by rw [hb]; exact h4) (by rw [hb]; exact h7) (pm_noH hno hex _) (by show up.length + 3 < Rm.frames; omega) (by
        show 2 * 0 + ((Value.ref (g.2.2.1 + K.length) :: S.map (pm_t g)).map fun v => v.category).sum + (13 * (up.length + 1) + 41) ≤ Rm.locals
        rw [List.map_cons, List.sum_cons, pm_catS]
        show 2 * 0 + (1 + _) + _ ≤ _
        omega) hlocks
    exact ⟨U, q1, q2, q3, q4, q5, ce, q6, Option.some.inj (q7.cls.symm.trans hfc), q7.vm⟩
  obtain ⟨t, st, r1, r2, r3, ⟨e2, q2, q3, q4, q5, q6⟩, ce, r5, r6, r7⟩ := key T hT X'
  have hlt := (Array.getElem?_eq_some_iff.mp r5).1
  have hq3 : t.heap.size ≤ T.heap.size + 1 := q3
  rw [hT] at hq3
  have hsz2 : t.heap.size = H.size + 1 := by omega
  have hold : ∀ q : Nat, q < H.size → t.heap[q]? = H[q]? := by
    intro q hq
    obtain ⟨c', w1, w2, w3, w4⟩ := q6 q H[q] (by show T.heap[q]? = _; rw [hT]; exact Array.getElem?_eq_getElem hq)
    have hsl : c'.slots = H[q].slots := by
      apply Array.ext_getElem?
      intro i
      exact w4 i (by simp)
    have hcc : c' = H[q] := w2.trans (by rw [hsl])
    rw [Array.getElem?_eq_getElem hq, ← hcc]
    exact w1
  have hSp := pm_S_push hA.2 hsz2 hold
  have hB : (T.setVm s.vm).sameButNew ({ t with vm := s.vm } : State) [] 1 6 := by
    refine ⟨?_, q2, q3, q4, q5, q6⟩
    rw [State.setFrames_setFrames] at e2
    exact congrArg (fun u : State => u.setVm s.vm) e2
  have h9 := X.same.trans hB
  rw [List.append_nil] at h9
  refine ⟨t, st, .threw (g.2.2.1 + K.length), r1, r2, ⟨rfl, pm_H_push hA.1 hsz2 hold ?_ (fun _ _ => ⟨rfl, rfl, rfl⟩), hSp.F rfl⟩, locs, ⟨State.WarmedH.trans X.warmed r3, h9.weaken (fun y hy _ => hy) (by omega) (by omega)⟩, hA.2.2.2⟩
  rw [pm_cell_o rfl, show pm_cl.getD ci pm_c0 = (cls, T0, 0) by rw [List.getD_eq_getElem?_getD, hcl]; rfl]
  exact ⟨_, hcl, ce, r5, r6, r7, fun i hi => absurd hi (Nat.not_lt_zero i)⟩
end PMU
