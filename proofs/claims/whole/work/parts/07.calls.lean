/-! calls -/
/-- own's pool entry idx names the method k', of n0 parameters -/
def pm_Lk (own : String) (idx : Nat) (k' : pmK) (n0 : Nat) : Prop := Cond.code k'.1 k'.2.1 k'.2.2.1 k'.2.2.2 ∈ pm_TS ∧ Cond.initialized k'.1.cls ∈ pm_TS ∧ (k'.1.cls ≠ "java/lang/invoke/MethodHandle" ∧ k'.1.cls ≠ "java/lang/invoke/VarHandle" ∧ (parseMethodDescriptor k'.1.desc).map (fun d => d.parameters.length) = some n0) ∧ k'.2.2.1 ≤ 45 ∧
  (Cond.methodLink own idx k'.1 ∈ pm_TS ∨ ∃ host : String, Cond.methodLinkNest own idx k'.1 host ∈ pm_NS)
def pm_Vt (k' : pmK) : Prop := Cond.instanceMethod k'.1 ∈ pm_TS ∧ Cond.selects k'.1.cls k'.1 k'.1 ∈ pm_TS
theorem pm_blind (g : pmG) (as : List Value) (M : pmM) : FrameBlind (pm_P g as M) := by
  intro a U fr mk h
  obtain ⟨h1, h2, hK, hN, hX⟩ := h
  exact ⟨h1, h2, va_K.moved (u := U) (U := U.calling fr mk a) (Vm.Alike.refl U.vm) hK, pm_NS_warm (s := U) (U := U.calling fr mk a) (State.WarmedH.refl U) hN, pm_X_mv (s := U) (U := U.calling fr mk a) (State.WarmedH.refl U) (fun _ _ _ => rfl) hX⟩
theorem pm_catS (g : pmG) (S : List Value) : ((S.map (pm_t g)).map fun v => v.category).sum = (S.map fun v => v.category).sum := by
  rw [List.map_map]; exact congrArg List.sum (List.map_congr_left (fun v _ => pm_tr_cat _ _ v))
section PMC
variable {p : Program} {e : Env} {Rm : Room} {s : State} {m : MethodId} {args : Array Value} {below : List Frame} {meth : Method} {c : Code} {H : Heap} {locs : List Loc} {cells slots : Nat} {Q : State → Prop} {ls : Array Slot}
variable {g : pmG} {k k' : pmK} {d pc mc' ms' idx n0 : Nat} {as : List Value} {M M1 : pmM}
theorem pm_pre (hC : pm_Cx g k d p Rm s m args meth c) (hA : pm_H g M H ∧ va_S (pm_A g) s.heap H locs) {U : State} (hU : U.heap = H) (hW : s.WarmedH U.vm) : pm_P g as M (as.map (pm_t g)).toArray U := by
  obtain ⟨-, -, -, -, -, -, -, -, ⟨hK, hN, hX⟩, -⟩ := hC
  exact ⟨rfl, by rw [hU]; exact hA.1, va_K.moved hW.alike hK, pm_NS_warm hW hN, by rw [hU]; exact pm_X_mv hW hA.2.2.1 hX⟩
theorem pm_pay (hC : pm_Cx g k d p Rm s m args meth c) (hc : Cond.code k'.1 k'.2.1 k'.2.2.1 k'.2.2.2 ∈ pm_TS) : ∀ w ∈ pm_ws k', ∀ (a' : Array Value) (U : State), s.WarmedH U.vm → w.before a' U = true := by
  refine pay_in hC.2.2.2.2.2.2.2.1 (fun w hw => ?_)
  rcases List.mem_cons.mp hw with rfl | hw
  · exact ⟨hc, pm_TS_good _ hc⟩
  · exact ⟨hw, pm_TS_good _ hw⟩
theorem pm_par {y : MethodName} {sig : MethodDescriptor} (h : (parseMethodDescriptor y.desc).map (fun d => d.parameters.length) = some n0) (hs : parseMethodDescriptor y.desc = some sig) : n0 = sig.parameters.length := by
  rw [hs] at h
  exact (Option.some.inj h).symm
/-- a call's instruction, up to the callee's entry -/
def pm_Inv (p : Program) (l : Launch) (e : Env) (Rm : Room) (s : State) (m : MethodId) (args : Array Value) (below : List Frame) (meth : Method) (c : Code) (H : Heap) (locs : List Loc) (cells slots : Nat) (y : MethodName) (fr : JFrame) (rest : List Value) (a : Array Value) : Prop :=
  ∀ T : State, T.heap = H → Stand p l e Rm s m args below meth c T locs cells slots → ∃ (vm₁ : Vm) (mk : MethodId), Stand p l e Rm s m args below meth c (T.setVm vm₁) locs cells slots ∧ (T.setVm vm₁).methodNamed? y = some mk ∧
    ∀ target, Steps p.tables e below (doInvoke e ((T.setVm vm₁).setTop { fr with stack := rest }) [] mk a).1 target → Steps p.tables e below (T.setTop fr) target
/-- own's pool entry idx names the method y -/
def pm_lk1 (own : String) (idx : Nat) (y : MethodName) : Prop := Cond.methodLink own idx y ∈ pm_TS ∨ ∃ host : String, Cond.methodLinkNest own idx y host ∈ pm_NS
/-- a method's code as the tables have it -/
def pm_cd (k' : pmK) (U : State) (mk : MethodId) : Prop := ∃ (methY : Method) (cY : Code), U.vm.method? mk = some methY ∧ methY.code = some cY ∧ cY.maxLocals = k'.2.2.1 ∧ parseMethodDescriptor k'.1.desc = some methY.sig
theorem pm_cd_code {a : Array Value} {U : State} {mk : MethodId} (hn : U.methodNamed? k'.1 = some mk) (h : (Cond.code k'.1 k'.2.1 k'.2.2.1 k'.2.2.2).before a U = true) : pm_cd k' U mk := by
  obtain ⟨methM, cM, h1, h2, -, h3, -, -, -, h4⟩ := Cond.code_spec hn h
  exact ⟨methM, cM, h1, h2, h3, h4⟩
theorem pm_cd_with {a : Array Value} {U : State} {mk : MethodId} {hh : List (Nat × Nat × Nat × Nat)} (hn : U.methodNamed? k'.1 = some mk) (h : (Cond.codeWith k'.1 k'.2.1 k'.2.2.1 k'.2.2.2 hh).before a U = true) : pm_cd k' U mk := by
  obtain ⟨m9, methM, cM, h0, h1, h2, -, h3, -, -, -, h4⟩ := Cond.codeWith_spec h
  cases hn.symm.trans h0
  exact ⟨methM, cM, h1, h2, h3, h4⟩
theorem pm_invV (hC : pm_Cx g k d p Rm s m args meth c) (hlk : pm_lk1 k.1.cls idx k'.1) (h3 : k'.1.cls ≠ "java/lang/invoke/MethodHandle" ∧ k'.1.cls ≠ "java/lang/invoke/VarHandle" ∧ (parseMethodDescriptor k'.1.desc).map (fun d => d.parameters.length) = some n0) (hcd : ∀ mk, s.methodNamed? k'.1 = some mk → pm_cd k' s mk) (fv : pm_Vt k')
    {b : Addr} (hrecv : ∃ cellB : Cell, H[b]? = some cellB ∧ cellB.vm.isStatics = false ∧ s.vm.findClass k'.1.cls = some cellB.cls) {fr : JFrame} (hg : fr.method = m) {As rest : List Value} (hn : As.length = n0) (hst : fr.stack = As.reverse ++ .ref b :: rest) (hd : decode k.2.1 fr.pc = .ok (.invokevirtual idx, 3)) :
    pm_Inv p g.1 e Rm s m args below meth c H locs cells slots k'.1 fr rest (Value.ref b :: As).toArray := by
  obtain ⟨hx, hb, -, -, -, -, hown, hts, ⟨-, hN, -⟩, -⟩ := id hC
  obtain ⟨cellB, hcell, hobj, hcls⟩ := hrecv
  intro T hT X
  have hy : k'.1.cls ≠ "java/lang/invoke/MethodHandle" ∧ k'.1.cls ≠ "java/lang/invoke/VarHandle" := ⟨h3.1, h3.2.1⟩
  obtain ⟨mk, methM, hnamed, hmethM, hstM, habM⟩ := Cond.instanceMethod_spec (hts _ fv.1)
  obtain ⟨methM', cM, hmethM', -, -, hsigM⟩ := hcd mk hnamed
  cases hmethM.symm.trans hmethM'
  obtain ⟨c2, r2, m2, q1, q2, q3, q4, kP, hkP, hkPi⟩ := Cond.selects_spec (hts _ fv.2)
  cases hcls.symm.trans q1
  cases (State.methodFound?_of_named hnamed hy).symm.trans q2
  cases hnamed.symm.trans q3
  have hselP : selectMethod e.platform s.vm cellB.cls mk = .method mk := by rw [Launch.admits_selectMethod X.admits]; exact q4
  have hlen := hn.trans (pm_par h3.2.2 hsigM)
  rcases hlk with hlk | ⟨host, hlk⟩
  · obtain ⟨vm₁, X₁, hstep₁⟩ := X.invokevirtual hx hown (hts _ hlk) hnamed hmethM hstM hkP hkPi hy (a := b) (cell := cellB) (by rw [hT]; exact hcell)
      (fun z h => by rw [h] at hobj; cases hobj) hselP hmethM habM hkP hkPi (g := fr) hg (argsL := As) (rest := rest) hlen hst (by rw [hb]; exact hd)
    exact ⟨vm₁, mk, X₁, X₁.named hnamed, fun target h => hstep₁ _ fun acts => by rw [doInvoke_state]; exact h⟩
  · obtain ⟨vm₁, X₁, hstep₁⟩ := X.invokevirtualNest hx hown (va_Nw.use rfl (hN _ hlk)) hnamed hmethM hstM hkP hkPi hy (a := b) (cell := cellB) (by rw [hT]; exact hcell)
      (fun z h => by rw [h] at hobj; cases hobj) hselP hmethM habM hkP hkPi (g := fr) hg (argsL := As) (rest := rest) hlen hst (by rw [hb]; exact hd)
    exact ⟨vm₁, mk, X₁, X₁.named hnamed, fun target h => hstep₁ _ fun acts => by rw [doInvoke_state]; exact h⟩
theorem pm_invS (hC : pm_Cx g k d p Rm s m args meth c) (hlk : pm_lk1 k.1.cls idx k'.1) (h3 : k'.1.cls ≠ "java/lang/invoke/MethodHandle" ∧ k'.1.cls ≠ "java/lang/invoke/VarHandle" ∧ (parseMethodDescriptor k'.1.desc).map (fun d => d.parameters.length) = some n0) (hnm : ∃ mk, s.methodNamed? k'.1 = some mk) (hcd : ∀ mk, s.methodNamed? k'.1 = some mk → pm_cd k' s mk) (fs : Cond.static k'.1 ∈ pm_TS) (f2 : Cond.initialized k'.1.cls ∈ pm_TS)
    {fr : JFrame} (hg : fr.method = m) {As rest : List Value} (hn : As.length = n0) (hst : fr.stack = As.reverse ++ rest) (hd : decode k.2.1 fr.pc = .ok (.invokestatic idx, 3)) :
    pm_Inv p g.1 e Rm s m args below meth c H locs cells slots k'.1 fr rest As.toArray := by
  obtain ⟨hx, hb, -, -, -, -, hown, hts, ⟨-, hN, -⟩, -⟩ := id hC
  intro T hT X
  have hy : k'.1.cls ≠ "java/lang/invoke/MethodHandle" ∧ k'.1.cls ≠ "java/lang/invoke/VarHandle" := ⟨h3.1, h3.2.1⟩
  obtain ⟨mk, hnamed⟩ := hnm
  obtain ⟨methM, cM, hmethM, -, -, hsigM⟩ := hcd mk hnamed
  have hstatic : methM.isStatic = true := Cond.static_spec hnamed hmethM (hts _ fs)
  obtain ⟨kP, hkP, -⟩ := className_of_methodNamed hnamed
  have hinitP : kP.init = .initialized := Cond.initialized_spec (findClass_of_methodNamed hnamed) hkP (hts _ f2)
  have hlen := hn.trans (pm_par h3.2.2 hsigM)
  rcases hlk with hlk | ⟨host, hlk⟩
  · obtain ⟨vm₁, X₁, hstep₁⟩ := X.invokestatic hx hown (hts _ hlk) hnamed hmethM hstatic hkP hinitP hy (g := fr) hg (argsL := As) (rest := rest) hlen hst (by rw [hb]; exact hd)
    exact ⟨vm₁, mk, X₁, X₁.named hnamed, fun target h => hstep₁ _ fun acts => by rw [doInvoke_state]; exact h⟩
  · obtain ⟨vm₁, X₁, hstep₁⟩ := X.invokestaticNest hx hown (va_Nw.use rfl (hN _ hlk)) hnamed hmethM hstatic hkP hinitP hy (g := fr) hg (argsL := As) (rest := rest) hlen hst (by rw [hb]; exact hd)
    exact ⟨vm₁, mk, X₁, X₁.named hnamed, fun target h => hstep₁ _ fun acts => by rw [doInvoke_state]; exact h⟩
theorem pm_invI (hC : pm_Cx g k d p Rm s m args meth c) (hlk : pm_lk1 k.1.cls idx k'.1) (h3 : k'.1.cls ≠ "java/lang/invoke/MethodHandle" ∧ k'.1.cls ≠ "java/lang/invoke/VarHandle" ∧ (parseMethodDescriptor k'.1.desc).map (fun d => d.parameters.length) = some n0) (f1 : Cond.code k'.1 k'.2.1 k'.2.2.1 none ∈ pm_TS) (hini : k'.1.name = "<init>") (fi : Cond.instanceMethod k'.1 ∈ pm_TS)
    {b : Addr} {fr : JFrame} (hg : fr.method = m) {As rest : List Value} (hn : As.length = n0) (hst : fr.stack = As.reverse ++ .ref b :: rest) (hd : decode k.2.1 fr.pc = .ok (.invokespecial idx, 3)) :
    pm_Inv p g.1 e Rm s m args below meth c H locs cells slots k'.1 fr rest (Value.ref b :: As).toArray := by
  obtain ⟨hx, hb, -, -, -, -, hown, hts, ⟨-, hN, -⟩, -⟩ := id hC
  intro T hT X
  subst hg
  have hy : k'.1.cls ≠ "java/lang/invoke/MethodHandle" ∧ k'.1.cls ≠ "java/lang/invoke/VarHandle" := ⟨h3.1, h3.2.1⟩
  have hpl : e.platform.magicAccessors = ({} : Platform).magicAccessors := by rw [X.admits.platform]
  have hlen : ∀ sig, parseMethodDescriptor k'.1.desc = some sig → As.length = sig.parameters.length := fun sig h => hn.trans (pm_par h3.2.2 h)
  rcases hlk with hlk | ⟨host, hlk⟩
  · obtain ⟨mk, methM, cM, kP, vm₁, hnamed, -, -, -, -, -, -, -, hW₁, hstep₁⟩ := Steps.initColdArgs (e := e) X.here hx X.warmed hpl hown hini hy (hts _ hlk) (hts _ fi) (hts _ f1) (f := fr) rfl hlen hst (by rw [hb]; exact hd)
    exact ⟨vm₁, mk, X.noted hW₁, (X.noted hW₁).named hnamed, fun target h => hstep₁ _ fun acts => by rw [doInvoke_state]; exact h⟩
  · obtain ⟨mk, methM, cM, kP, vm₁, hnamed, -, -, -, -, -, -, -, hW₁, hstep₁⟩ := Steps.initColdArgsNest (e := e) X.here hx X.warmed hpl hown hini hy (va_Nw.use rfl (hN _ hlk)) (hts _ fi) (hts _ f1) (f := fr) rfl hlen hst (by rw [hb]; exact hd)
    exact ⟨vm₁, mk, X.noted hW₁, (X.noted hW₁).named hnamed, fun target h => hstep₁ _ fun acts => by rw [doInvoke_state]; exact h⟩
/-- the callee, from its entry to its end, whichever -/
theorem pm_fin {o : Outcome} {ws : List Cond} {U : State} {Ls : List Loc} {c0 s0 : Nat} (X : Stand p g.1 e Rm s m args below meth c U Ls c0 s0) {fr : JFrame} (hg : fr.method = m) (hsize : fr.locals.size = c.maxLocals) {ig : Instr} (hdg : decode c.code fr.pc = .ok (ig, 3)) (hW : 2 * fr.monitorRoom + (fr.stack.map fun v => v.category).sum ≤ 8)
    {mk : MethodId} (hn : U.methodNamed? k'.1 = some mk) (hcd : pm_cd k' U mk) {a0 : Array Value} (hini : (Cond.initialized k'.1.cls).before a0 U = true) (hM : MetFree g.1 k'.1 (headSpec ws (pm_rm d mc' ms')) (pm_P g as M) (fun _ _ _ _ _ => True) (pm_QF g o M1 mc' ms')) (hpay : ∀ w ∈ ws, w.before (as.map (pm_t g)).toArray U = true) (hP : pm_P g as M (as.map (pm_t g)).toArray U)
    (hfr : d + 1 ≤ Rm.frames) (hlo : 64 * (d + 1) ≤ Rm.locals) (h45 : k'.2.2.1 ≤ 45) (hc1 : c0 + mc' + 1 ≤ Rm.cells) (hs1 : s0 + ms' + 8 ≤ Rm.slots) :
    ∃ (t T' : State) (L : List Loc), Stand p g.1 e Rm s m args below meth c T' (Ls ++ L) (c0 + mc') (s0 + ms') ∧ (∀ q ∈ L, pm_A g q.base) ∧ pm_H g M1 T'.heap ∧ U.heap.size ≤ T'.heap.size ∧ (∀ q : Nat, q < U.heap.size → ¬ pm_A g q → T'.heap[q]? = U.heap[q]?) ∧
      Steps p.tables e below (doInvoke e (U.setTop fr) [] mk (as.map (pm_t g)).toArray).1 t ∧ (∀ v, o = .returned v → t = T'.setTop { fr with pc := fr.pc + 3, stack := v.toList.map (pm_t g) ++ fr.stack }) ∧ (∀ x, o = .threw x → t = (T'.setTop fr).pushFrame (.throwing (g.2.2.1 + x))) := by
  obtain ⟨methY, cY, hmY, hcY, hlY, -⟩ := hcd
  obtain ⟨kY, hkY, -⟩ := className_of_methodNamed hn
  have hinitY : kY.init = .initialized := Cond.initialized_spec (findClass_of_methodNamed hn) hkY hini
  have h : At U fr.method c below := by rw [hg]; exact X.here
  have happ : (headSpec ws (pm_rm d mc' ms')).appliesLoose k'.1 e.platform (U.calling fr mk (as.map (pm_t g)).toArray) = true :=
    Spec.appliesLoose_calling (g := fr) h hdg hn hkY hinitY (X.room_calling (g := fr) (R' := pm_rm d mc' ms') hsize hmY hcY hfr (by rw [hlY]; show _ + (k'.2.2.1 + 11) + 64 * d ≤ Rm.locals; omega) (by show c0 + (mc' + 1) ≤ Rm.cells; omega) (by show s0 + (ms' + 8) ≤ Rm.slots; omega)) (atoms_intro hpay)
  obtain ⟨mid, hmid⟩ := h.above
  have hfr9 : (U.setTop fr).frames = (.java fr :: mid) ++ below := by rw [State.frames_setTop' fr h.top, hmid]; rfl
  obtain ⟨oc, s₂, hsteps, -, hend, hq⟩ := Steps.callFree hM p X.admits X.cas X.clock (acts := []) hfr9 happ (pm_blind g as M _ U fr mk hP) trivial
  have hq' : pm_QF g o M1 mc' ms' (as.map (pm_t g)).toArray (U.calling fr mk (as.map (pm_t g)).toArray) oc s₂ := hq
  rw [State.frames_setTop' fr h.top, X.tail] at hend
  obtain ⟨⟨hoc, hH, hz, hqq⟩, L, ⟨hW₂, hsame⟩, hL⟩ := hq'
  cases o with
  | returned v =>
    have hoc' : oc = .returned (v.map (pm_t g)) := by rw [hoc]; cases v <;> rfl
    subst hoc'
    obtain ⟨T', X', -, -, ht⟩ := X.outOf hg hdg hend hW₂ hsame
    have hh : s₂.heap = T'.heap := by rw [ht]; first | rfl | simp [State.setTop, State.modifyTopJava]
    rw [hh] at hH hz
    refine ⟨s₂, T', L, X', hL, hH, hz, fun q q1 q2 => by rw [← hh]; exact hqq q q1 q2, hsteps, fun v' hv' => ?_, fun x hx => by cases hx⟩
    cases hv'
    rw [ht]
    cases v <;> rfl
  | threw x =>
    have hoc' : oc = .threw (g.2.2.1 + x) := hoc
    subst hoc'
    obtain ⟨T', X', -, -, ht⟩ := X.outOfThrown hg hend hW₂ hsame
    have hh : s₂.heap = T'.heap := by rw [ht]; exact Stand.throwing_heap _ _ _
    rw [hh] at hH hz
    refine ⟨s₂, T', L, X', hL, hH, hz, fun q q1 q2 => by rw [← hh]; exact hqq q q1 q2, hsteps, fun v' hv' => (by cases hv'), fun x' hx' => ?_⟩
    cases hx'
    exact ht
/-- memory behind a callee's end -/
theorem pm_S_end {H H1 : Heap} {L : List Loc} (hS : va_S (pm_A g) s.heap H locs) (hz : H.size ≤ H1.size) (hq : ∀ q : Nat, q < H.size → ¬ pm_A g q → H1[q]? = H[q]?) (hL : ∀ q ∈ L, pm_A g q.base) : va_S (pm_A g) s.heap H1 (locs ++ L) :=
  ⟨Nat.le_trans hS.1 hz, fun q q1 q2 => by rw [hq q (Nat.lt_of_lt_of_le q1 hS.1) q2]; exact hS.2.1 q q1 q2, fun q hq9 => by
    rcases List.mem_append.mp hq9 with q9 | q9
    · exact hS.2.2 q q9
    · exact hL q q9⟩
/-- a call that returns: what the callee must be (ws: its words) -/
theorem pm_ret {S0 S : List Value} {v : Option Value} {ws : List Cond} {ig : Instr} (hC : pm_Cx g k (d + 1) p Rm s m args meth c) (hinv : pm_Inv p g.1 e Rm s m args below meth c H locs cells slots k'.1 (F0 m pc ls (S0.map (pm_t g))) (S.map (pm_t g)) (as.map (pm_t g)).toArray)
    (hcd : ∀ U mk, s.WarmedH U.vm → U.methodNamed? k'.1 = some mk → pm_cd k' U mk) (f2 : Cond.initialized k'.1.cls ∈ pm_TS) (hpay : ∀ w ∈ ws, ∀ (a' : Array Value) (U : State), s.WarmedH U.vm → w.before a' U = true) (hM : MetFree g.1 k'.1 (headSpec ws (pm_rm d mc' ms')) (pm_P g as M) (fun _ _ _ _ _ => True) (pm_QF g (.returned v) M1 mc' ms'))
    (h : decode k.2.1 pc = .ok (ig, 3)) (h45 : k'.2.2.1 ≤ 45) (h8 : (S.map fun v => v.category).sum ≤ 8) (hls : ls.size = k.2.2.1) (hA : pm_H g M H ∧ va_S (pm_A g) s.heap H locs) (hc1 : cells + mc' + 1 ≤ Rm.cells) (hs1 : slots + ms' + 8 ≤ Rm.slots)
    (kk : ∀ (H1 : Heap) (locs1 : List Loc), (pm_H g M1 H1 ∧ va_S (pm_A g) s.heap H1 locs1) → W p g.1 e Rm s m args below meth c H1 locs1 (cells + mc') (slots + ms') Q (F0 m (pc + 3) ls ((v.toList ++ S).map (pm_t g)))) : W p g.1 e Rm s m args below meth c H locs cells slots Q (F0 m pc ls (S0.map (pm_t g))) := by
  obtain ⟨hx, hb, hml, -, -, -, hown, hts, -, hfr, hlo, -⟩ := id hC
  intro T hT X
  obtain ⟨vm₁, mk, X₁, hn, st⟩ := hinv T hT X
  obtain ⟨t, T', L, X', hL, hH, hz, hq, hsteps, ho, -⟩ := pm_fin (k' := k') (as := as) (M := M) (d := d) X₁ (fr := F0 m pc ls (S.map (pm_t g))) rfl (hls.trans hml.symm) (by rw [hb]; exact h) (lv_room (by rw [pm_catS]; exact h8)) hn (hcd _ _ X₁.warmed hn) (a0 := args) (word_at X₁.warmed (pm_TS_good _ f2) (hts _ f2)) hM (fun w hw => hpay w hw _ _ X₁.warmed) (pm_pre hC hA hT X₁.warmed) hfr hlo h45 hc1 hs1
  have hT' : (T.setVm vm₁).heap = H := hT
  rw [hT'] at hz hq
  obtain ⟨t2, a1, b1⟩ := kk T'.heap (locs ++ L) ⟨hH, pm_S_end hA.2 hz hq hL⟩ T' rfl X'
  refine ⟨t2, st _ (hsteps.trans ?_), b1⟩
  rw [ho v rfl]
  rw [List.map_append] at a1
  exact a1
/-- a call that throws, where no handler is -/
theorem pm_thr {S0 S : List Value} {x : Nat} {ws : List Cond} {ig : Instr} {mc ms : Nat} (hC : pm_Cx g k (d + 1) p Rm s m args meth c) (hinv : pm_Inv p g.1 e Rm s m args below meth c H locs cells slots k'.1 (F0 m pc ls (S0.map (pm_t g))) (S.map (pm_t g)) (as.map (pm_t g)).toArray)
    (hcd : ∀ U mk, s.WarmedH U.vm → U.methodNamed? k'.1 = some mk → pm_cd k' U mk) (f2 : Cond.initialized k'.1.cls ∈ pm_TS) (hpay : ∀ w ∈ ws, ∀ (a' : Array Value) (U : State), s.WarmedH U.vm → w.before a' U = true) (hM : MetFree g.1 k'.1 (headSpec ws (pm_rm d mc' ms')) (pm_P g as M) (fun _ _ _ _ _ => True) (pm_QF g (.threw x) M1 mc' ms'))
    (h : decode k.2.1 pc = .ok (ig, 3)) (h45 : k'.2.2.1 ≤ 45) (h8 : (S.map fun v => v.category).sum ≤ 8) (hls : ls.size = k.2.2.1) (hA : pm_H g M H ∧ va_S (pm_A g) s.heap H locs) (hc1 : cells + mc' + 1 ≤ Rm.cells) (hs1 : slots + ms' + 8 ≤ Rm.slots) (hno : (pm_hs k.1).isEmpty = true) (hmc : cells + mc' ≤ mc) (hms : slots + ms' ≤ ms) :
    W p g.1 e Rm s m args below meth c H locs cells slots (pm_MQ g below (.threw x) M1 args s mc ms) (F0 m pc ls (S0.map (pm_t g))) := by
  obtain ⟨hx, hb, hml, -, hlocks, -, hown, hts, -, hfr, hlo, hex⟩ := id hC
  intro T hT X
  obtain ⟨vm₁, mk, X₁, hn, st⟩ := hinv T hT X
  obtain ⟨t, T', L, X', hL, hH, hz, hq, hsteps, -, ho⟩ := pm_fin (k' := k') (as := as) (M := M) (d := d) X₁ (fr := F0 m pc ls (S.map (pm_t g))) rfl (hls.trans hml.symm) (by rw [hb]; exact h) (lv_room (by rw [pm_catS]; exact h8)) hn (hcd _ _ X₁.warmed hn) (a0 := args) (word_at X₁.warmed (pm_TS_good _ f2) (hts _ f2)) hM (fun w hw => hpay w hw _ _ X₁.warmed) (pm_pre hC hA hT X₁.warmed) hfr hlo h45 hc1 hs1
  have hT' : (T.setVm vm₁).heap = H := hT
  rw [hT'] at hz hq
  rw [List.isEmpty_iff.mp hno] at hex
  have hout : ∀ x ∈ c.exceptionTable.toList, covers x (F0 m pc ls (S.map (pm_t g))).pc = false := by
    intro x hx
    rw [List.map_eq_nil_iff.mp hex] at hx
    cases hx
  obtain ⟨hwalk, hrun, hended, hWU, hsame⟩ := X'.leaveThrown (g.2.2.1 + x) (g := F0 m pc ls (S.map (pm_t g))) rfl rfl rfl hout hlocks
  have hS := pm_S_end hA.2 hz hq hL
  refine ⟨_, st _ (hsteps.trans ?_), .threw (g.2.2.1 + x), hrun, hended, ⟨rfl, hH, hS.F rfl⟩, locs ++ L, ⟨hWU, hsame.weaken (fun y hy _ => hy) hmc hms⟩, hS.2.2⟩
  rw [ho x rfl]
  exact hwalk
theorem pm_payW (hC : pm_Cx g k d p Rm s m args meth c) {w0 : Cond} (hc : w0 ∈ pm_TS) : ∀ w ∈ w0 :: pm_TS, ∀ (a' : Array Value) (U : State), s.WarmedH U.vm → w.before a' U = true := by
  refine pay_in hC.2.2.2.2.2.2.2.1 (fun w hw => ?_)
  rcases List.mem_cons.mp hw with rfl | hw
  · exact ⟨hc, pm_TS_good _ hc⟩
  · exact ⟨hw, pm_TS_good _ hw⟩
end PMC
section PMD
variable {g : pmG} {k k' : pmK} {d rc rs rc1 rs1 mc' ms' pc idx n0 ci a x : Nat} {L : List (Nat × Value)} {S S0 As : List Value} {K K1 : List (Nat × Nat)} {R R1 : Nat → Nat → Value} {I I1 : Nat → Nat → Int32} {J J1 : Nat → Nat → Int64} {o : Outcome} {Z : pmM} {v : Option Value}
theorem pm_stk {s0 : Value} (hst : S0 = As.reverse ++ s0 :: S) : S0.map (pm_t g) = (As.map (pm_t g)).reverse ++ pm_t g s0 :: S.map (pm_t g) := by
  rw [hst, List.map_append, List.map_reverse]; rfl
theorem pm_callV (h : decode k.2.1 pc = .ok (.invokevirtual idx, 3)) (f : pm_Lk k.1.cls idx k' n0) (fv : pm_Vt k') (hcl : ∃ (T : u_T) (N : Nat), pm_cl[ci]? = some (k'.1.cls, T, N)) (hc : pmC g k' d mc' ms' (.ref a :: As) (K, R, I, J) (.returned v) (K1, R1, I1, J1)) (hk : K[a]? = some (0, ci)) (hn : As.length = n0) (hst : S0 = As.reverse ++ .ref a :: S) (h8 : (S.map fun v => v.category).sum ≤ 8) (hr1 : rc1 + mc' ≤ rc) (hr2 : rs1 + ms' ≤ rs)
    (n : pmE g k (d + 1) rc1 rs1 (pc + 3) L (v.toList ++ S) K1 R1 I1 J1 o Z) : pmE g k (d + 1) rc rs pc L S0 K R I J o Z := by
  intro p e Rm s m args below meth c H locs cells slots mc ms ls hC h1 h2 h3 h4 hl hA
  obtain ⟨hx, hb, hml, -, -, -, hown, hts, ⟨hK, hN, -⟩, hfr, hlo, -⟩ := id hC
  obtain ⟨T9, N9, hcl9⟩ := hcl
  have hinv : pm_Inv p g.1 e Rm s m args below meth c H locs cells slots k'.1 (F0 m pc ls (S0.map (pm_t g))) (S.map (pm_t g)) (((.ref a :: As) : List Value).map (pm_t g)).toArray := pm_invV hC f.2.2.2.2 f.2.2.1 (fun mk h => pm_cd_code h (hts _ f.1)) fv (va_recv hK hA.1.2 hcl9 (pm_obj hcl9 hk)) rfl (As := As.map (pm_t g)) (by rw [List.length_map]; exact hn) (pm_stk hst) h
  exact pm_ret hC hinv (fun U mk hW hnm => pm_cd_code (a := args) hnm (word_at hW (pm_TS_good _ f.1) (hts _ f.1))) f.2.1 (pm_pay hC f.1) hc h f.2.2.2.1 h8 hl.1 hA (by omega) (by omega) (fun H1 locs1 hA1 => n p e Rm s m args below meth c H1 locs1 (cells + mc') (slots + ms') mc ms ls hC h1 h2 (by omega) (by omega) hl hA1)
theorem pm_callVT (h : decode k.2.1 pc = .ok (.invokevirtual idx, 3)) (f : pm_Lk k.1.cls idx k' n0) (fv : pm_Vt k') (hcl : ∃ (T : u_T) (N : Nat), pm_cl[ci]? = some (k'.1.cls, T, N)) (hc : pmC g k' d mc' ms' (.ref a :: As) (K, R, I, J) (.threw x) (K1, R1, I1, J1)) (hk : K[a]? = some (0, ci)) (hn : As.length = n0) (hst : S0 = As.reverse ++ .ref a :: S) (h8 : (S.map fun v => v.category).sum ≤ 8) (hr1 : mc' ≤ rc) (hr2 : ms' ≤ rs) (hno : (pm_hs k.1).isEmpty = true) (ho : o = .threw x) (hz : Z = (K1, R1, I1, J1)) : pmE g k (d + 1) rc rs pc L S0 K R I J o Z := by
  intro p e Rm s m args below meth c H locs cells slots mc ms ls hC h1 h2 h3 h4 hl hA
  obtain ⟨hx, hb, hml, -, -, -, hown, hts, ⟨hK, hN, -⟩, hfr, hlo, -⟩ := id hC
  obtain ⟨T9, N9, hcl9⟩ := hcl
  have hinv : pm_Inv p g.1 e Rm s m args below meth c H locs cells slots k'.1 (F0 m pc ls (S0.map (pm_t g))) (S.map (pm_t g)) (((.ref a :: As) : List Value).map (pm_t g)).toArray := pm_invV hC f.2.2.2.2 f.2.2.1 (fun mk h => pm_cd_code h (hts _ f.1)) fv (va_recv hK hA.1.2 hcl9 (pm_obj hcl9 hk)) rfl (As := As.map (pm_t g)) (by rw [List.length_map]; exact hn) (pm_stk hst) h
  subst ho; subst hz
  exact pm_thr hC hinv (fun U mk hW hnm => pm_cd_code (a := args) hnm (word_at hW (pm_TS_good _ f.1) (hts _ f.1))) f.2.1 (pm_pay hC f.1) hc h f.2.2.2.1 h8 hl.1 hA (by omega) (by omega) hno (by omega) (by omega)
theorem pm_callI (h : decode k.2.1 pc = .ok (.invokespecial idx, 3)) (f : pm_Lk k.1.cls idx k' n0) (fi : k'.1.name = "<init>" ∧ k'.2.2.2 = none ∧ Cond.instanceMethod k'.1 ∈ pm_TS) (hc : pmC g k' d mc' ms' (.ref a :: As) (K, R, I, J) (.returned v) (K1, R1, I1, J1)) (hn : As.length = n0) (hst : S0 = As.reverse ++ .ref a :: S) (h8 : (S.map fun v => v.category).sum ≤ 8) (hr1 : rc1 + mc' ≤ rc) (hr2 : rs1 + ms' ≤ rs)
    (n : pmE g k (d + 1) rc1 rs1 (pc + 3) L (v.toList ++ S) K1 R1 I1 J1 o Z) : pmE g k (d + 1) rc rs pc L S0 K R I J o Z := by
  intro p e Rm s m args below meth c H locs cells slots mc ms ls hC h1 h2 h3 h4 hl hA
  obtain ⟨hx, hb, hml, -, -, -, hown, hts, ⟨hK, hN, -⟩, hfr, hlo, -⟩ := id hC
  have hinv : pm_Inv p g.1 e Rm s m args below meth c H locs cells slots k'.1 (F0 m pc ls (S0.map (pm_t g))) (S.map (pm_t g)) (((.ref a :: As) : List Value).map (pm_t g)).toArray := pm_invI hC f.2.2.2.2 f.2.2.1 (by rw [← fi.2.1]; exact f.1) fi.1 fi.2.2 rfl (As := As.map (pm_t g)) (by rw [List.length_map]; exact hn) (pm_stk hst) h
  exact pm_ret hC hinv (fun U mk hW hnm => pm_cd_code (a := args) hnm (word_at hW (pm_TS_good _ f.1) (hts _ f.1))) f.2.1 (pm_pay hC f.1) hc h f.2.2.2.1 h8 hl.1 hA (by omega) (by omega) (fun H1 locs1 hA1 => n p e Rm s m args below meth c H1 locs1 (cells + mc') (slots + ms') mc ms ls hC h1 h2 (by omega) (by omega) hl hA1)
theorem pm_callIT (h : decode k.2.1 pc = .ok (.invokespecial idx, 3)) (f : pm_Lk k.1.cls idx k' n0) (fi : k'.1.name = "<init>" ∧ k'.2.2.2 = none ∧ Cond.instanceMethod k'.1 ∈ pm_TS) (hc : pmC g k' d mc' ms' (.ref a :: As) (K, R, I, J) (.threw x) (K1, R1, I1, J1)) (hn : As.length = n0) (hst : S0 = As.reverse ++ .ref a :: S) (h8 : (S.map fun v => v.category).sum ≤ 8) (hr1 : mc' ≤ rc) (hr2 : ms' ≤ rs) (hno : (pm_hs k.1).isEmpty = true) (ho : o = .threw x) (hz : Z = (K1, R1, I1, J1)) : pmE g k (d + 1) rc rs pc L S0 K R I J o Z := by
  intro p e Rm s m args below meth c H locs cells slots mc ms ls hC h1 h2 h3 h4 hl hA
  obtain ⟨hx, hb, hml, -, -, -, hown, hts, ⟨hK, hN, -⟩, hfr, hlo, -⟩ := id hC
  have hinv : pm_Inv p g.1 e Rm s m args below meth c H locs cells slots k'.1 (F0 m pc ls (S0.map (pm_t g))) (S.map (pm_t g)) (((.ref a :: As) : List Value).map (pm_t g)).toArray := pm_invI hC f.2.2.2.2 f.2.2.1 (by rw [← fi.2.1]; exact f.1) fi.1 fi.2.2 rfl (As := As.map (pm_t g)) (by rw [List.length_map]; exact hn) (pm_stk hst) h
  subst ho; subst hz
  exact pm_thr hC hinv (fun U mk hW hnm => pm_cd_code (a := args) hnm (word_at hW (pm_TS_good _ f.1) (hts _ f.1))) f.2.1 (pm_pay hC f.1) hc h f.2.2.2.1 h8 hl.1 hA (by omega) (by omega) hno (by omega) (by omega)
theorem pm_callS (h : decode k.2.1 pc = .ok (.invokestatic idx, 3)) (f : pm_Lk k.1.cls idx k' n0) (fs : Cond.static k'.1 ∈ pm_TS) (hc : pmC g k' d mc' ms' As (K, R, I, J) (.returned v) (K1, R1, I1, J1)) (hn : As.length = n0) (hst : S0 = As.reverse ++ S) (h8 : (S.map fun v => v.category).sum ≤ 8) (hr1 : rc1 + mc' ≤ rc) (hr2 : rs1 + ms' ≤ rs)
    (n : pmE g k (d + 1) rc1 rs1 (pc + 3) L (v.toList ++ S) K1 R1 I1 J1 o Z) : pmE g k (d + 1) rc rs pc L S0 K R I J o Z := by
  intro p e Rm s m args below meth c H locs cells slots mc ms ls hC h1 h2 h3 h4 hl hA
  obtain ⟨hx, hb, hml, -, -, -, hown, hts, ⟨hK, hN, -⟩, hfr, hlo, -⟩ := id hC
  have hinv : pm_Inv p g.1 e Rm s m args below meth c H locs cells slots k'.1 (F0 m pc ls (S0.map (pm_t g))) (S.map (pm_t g)) ((As : List Value).map (pm_t g)).toArray := pm_invS hC f.2.2.2.2 f.2.2.1 (Cond.code_named (hts _ f.1)) (fun mk h => pm_cd_code h (hts _ f.1)) fs f.2.1 rfl (As := As.map (pm_t g)) (by rw [List.length_map]; exact hn) (by rw [hst, List.map_append, List.map_reverse]) h
  exact pm_ret hC hinv (fun U mk hW hnm => pm_cd_code (a := args) hnm (word_at hW (pm_TS_good _ f.1) (hts _ f.1))) f.2.1 (pm_pay hC f.1) hc h f.2.2.2.1 h8 hl.1 hA (by omega) (by omega) (fun H1 locs1 hA1 => n p e Rm s m args below meth c H1 locs1 (cells + mc') (slots + ms') mc ms ls hC h1 h2 (by omega) (by omega) hl hA1)
theorem pm_callST (h : decode k.2.1 pc = .ok (.invokestatic idx, 3)) (f : pm_Lk k.1.cls idx k' n0) (fs : Cond.static k'.1 ∈ pm_TS) (hc : pmC g k' d mc' ms' As (K, R, I, J) (.threw x) (K1, R1, I1, J1)) (hn : As.length = n0) (hst : S0 = As.reverse ++ S) (h8 : (S.map fun v => v.category).sum ≤ 8) (hr1 : mc' ≤ rc) (hr2 : ms' ≤ rs) (hno : (pm_hs k.1).isEmpty = true) (ho : o = .threw x) (hz : Z = (K1, R1, I1, J1)) : pmE g k (d + 1) rc rs pc L S0 K R I J o Z := by
  intro p e Rm s m args below meth c H locs cells slots mc ms ls hC h1 h2 h3 h4 hl hA
  obtain ⟨hx, hb, hml, -, -, -, hown, hts, ⟨hK, hN, -⟩, hfr, hlo, -⟩ := id hC
  have hinv : pm_Inv p g.1 e Rm s m args below meth c H locs cells slots k'.1 (F0 m pc ls (S0.map (pm_t g))) (S.map (pm_t g)) ((As : List Value).map (pm_t g)).toArray := pm_invS hC f.2.2.2.2 f.2.2.1 (Cond.code_named (hts _ f.1)) (fun mk h => pm_cd_code h (hts _ f.1)) fs f.2.1 rfl (As := As.map (pm_t g)) (by rw [List.length_map]; exact hn) (by rw [hst, List.map_append, List.map_reverse]) h
  subst ho; subst hz
  exact pm_thr hC hinv (fun U mk hW hnm => pm_cd_code (a := args) hnm (word_at hW (pm_TS_good _ f.1) (hts _ f.1))) f.2.1 (pm_pay hC f.1) hc h f.2.2.2.1 h8 hl.1 hA (by omega) (by omega) hno (by omega) (by omega)
end PMD
