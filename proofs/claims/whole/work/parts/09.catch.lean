/-! handlers: the catch type's pool entry cold or warm -/
section PMH
variable {e : Env}
theorem pc_go {s : State} {f : JFrame} {a : Addr} {Q : Handler → Pre} {E : CtlPost} {d : Bool} {acts : List Action} {x : ExceptionTableEntry} {t : List ExceptionTableEntry} {c : ClassId} {cell : Cell} {vm' : Vm} (hx : covers x f.pc = true) (h0 : x.catchType ≠ 0) (hg : (Jvm.resolveClass f.method.cls x.catchType).Gives e.toSetting s.vm (.ok c) vm')
    (hcell : s.heap[a]? = some cell) (hobj : ∀ k, cell.vm ≠ .statics k) (hk : ∃ k, vm'.classes[cell.cls]? = some k) (hc : ∃ k, vm'.classes[c]? = some k) (hsz : vm'.classes.size ≤ s.vm.classes.size) :
    wp (findHandler.go f a (x :: t)) Q E e d acts s ↔ if vm'.assignable cell.cls c = true then Q (.found x.handlerPc) d acts (s.setVm vm') else wp (findHandler.go f a t) Q E e d acts (s.setVm vm') := by
  simp only [covers] at hx
  obtain ⟨ha, ht⟩ := hg.op (op := VmOp.resolveClass f.method.cls x.catchType) rfl
  obtain ⟨k1, hk1⟩ := hk
  obtain ⟨k2, hk2⟩ := hc
  have hld := VmOp.lands_eq (op := VmOp.resolveClass f.method.cls x.catchType) (e := e) (s := s) ht hsz
  by_cases hfit : vm'.assignable cell.cls c = true
  · simp [findHandler.go, hx, h0, ha, ht, hcell, hobj, hk1, hk2, hfit, hld, VmOp.dirties, VmOp.acts]
  · simp [findHandler.go, hx, h0, ha, ht, hcell, hobj, hk1, hk2, hfit, hld, VmOp.dirties, VmOp.acts]
theorem pc_step {S : State} {a : Addr} {f : JFrame} {r : List Frame} {pc : Nat} {vm' : Vm} (hfind : ∀ (Q : Handler → Pre) (E : CtlPost) (d : Bool) (acts : List Action), wp (findHandler f a) Q E e d acts S ↔ Q (.found pc) d acts (S.setVm vm')) :
    (stepThrowing e S a (.java f :: r)).Is ((S.setVm vm').setFrames (.java { f with pc := pc, stack := [.ref a] } :: r)) [] := by
  simp only [stepThrowing, searchFrame, vmDo]
  generalize hr : Sem.go _ e false [] S = res
  obtain ⟨as, rfl, ha⟩ := Sem.eq_ok_of hr (a := Handler.found pc) (s' := S.setVm vm') (acts' := []) (by simp [hfind _ _ _ _])
  exact ⟨rfl, ha⟩
theorem pc_caught {p : Program} {l : Launch} {R : Room} {s : State} {m : MethodId} {args : Array Value} {below : List Frame} {meth : Method} {c : Code} {T : State} {locs : List Loc} {cells slots : Nat} (X : Stand p l e R s m args below meth c T locs cells slots) (a : Addr) {fr : JFrame} (hg : fr.method = m) {pc : Nat} {vm' : Vm}
    (hfind : ∀ (Q : Handler → Pre) (E : CtlPost) (d : Bool) (acts : List Action), wp (findHandler fr a) Q E e d acts ((T.setTop fr).pushFrame (.throwing a)) ↔ Q (.found pc) d acts (((T.setTop fr).pushFrame (.throwing a)).setVm vm')) {target : State} (hrest : Steps p.tables e below ((T.setVm vm').setTop { fr with pc := pc, stack := [.ref a] }) target) : Steps p.tables e below ((T.setTop fr).pushFrame (.throwing a)) target := by
  have h : At T fr.method c below := by rw [hg]; exact X.here
  obtain ⟨hgo, hw⟩ := h.throwing a
  refine Steps.head hgo hw ?_
  rw [stepThread_throwing (frames_entered h.top _), (pc_step (S := (T.setTop fr).pushFrame (.throwing a)) hfind).1]
  obtain ⟨g₀, hg0⟩ := Option.isSome_iff_exists.mp h.top
  obtain ⟨r, hr⟩ := State.topJava?_eq_some.mp hg0
  have hr' : (T.setVm vm').frames = .java g₀ :: r := hr
  have e1 : ∀ (u : State) (F G : List Frame), ((u.setFrames F).setVm vm').setFrames G = (u.setVm vm').setFrames G := fun u F G => by
    show ((u.setVm vm').setFrames F).setFrames G = _
    rw [State.setFrames_setFrames]
  rw [State.setTop_of_frames _ hr'] at hrest
  rw [hr, List.tail_cons, State.pushFrame, e1, State.setTop_of_frames _ hr, e1]
  exact hrest
end PMH
section PMHS
variable {p : Program} {l : Launch} {e : Env} {R : Room} {s : State} {m : MethodId} {args : Array Value} {below : List Frame} {meth : Method} {c : Code} {T : State} {locs : List Loc} {cells slots : Nat}
theorem pc_self (vm : Vm) (c : ClassId) : vm.assignable c c = true := by
  show vm.assignableAux (255 + 1) c c = true
  rw [Vm.assignableAux]
  simp only [beq_self_eq_true, Bool.true_or]
theorem pc_cls {U : State} {vm' : Vm} {C : String} {cX : ClassId} (hW : s.WarmedH vm') (hc : s.vm.findClass C = some cX) : ∃ k, vm'.classes[cX]? = some k := by
  obtain ⟨k, hk, -⟩ := Vm.findClass_spec hc
  obtain ⟨k', hk', -⟩ := hW.alike.2.2 _ _ hk
  exact ⟨k', hk'⟩
theorem pc_find1 (X : Stand p l e R s m args below meth c T locs cells slots) {own C : String} (hown : s.vm.findClass own = some m.cls) {a : Addr} {fr : JFrame} (hg : fr.method = m) {cell : Cell} (hcell : T.heap[a]? = some cell) (hobj : cell.vm = .none) (hcls : s.vm.findClass C = some cell.cls) {x : ExceptionTableEntry} {t : List ExceptionTableEntry} (hex : c.exceptionTable.toList = x :: t) (hx : covers x fr.pc = true) (h0 : x.catchType ≠ 0) (hlk : (Cond.classLink own x.catchType C).before args s = true) :
    ∃ vm', Stand p l e R s m args below meth c (T.setVm vm') locs cells slots ∧ ∀ target, Steps p.tables e below ((T.setVm vm').setTop { fr with pc := x.handlerPc, stack := [.ref a] }) target → Steps p.tables e below ((T.setTop fr).pushFrame (.throwing a)) target := by
  subst hg
  have hpl : e.platform.magicAccessors = ({} : Platform).magicAccessors := by rw [X.admits.platform]
  obtain ⟨c', hc', hcl⟩ := Cond.classLink_spec hown hlk e.platform hpl
  cases hcls.symm.trans hc'
  obtain ⟨hg₁, hwarm₁, -⟩ := State.classEntry (e := e) X.warmed hcl
  generalize T.vm.noted fr.method.cls x.catchType (.cls cell.cls) = vm₁ at hg₁ hwarm₁
  refine ⟨vm₁, X.noted hwarm₁, fun target hrest => pc_caught X a rfl (fun Q E d acts => ?_) hrest⟩
  rw [W.findHandler_eq (meth := meth) (code := c) (by rw [Stand.throwing_vm]; exact X.method') X.code, hex, pc_go hx h0 (by rw [Stand.throwing_vm]; exact hg₁) (by rw [Stand.throwing_heap]; exact hcell) (fun k h => by rw [hobj] at h; cases h) (pc_cls (U := s) hwarm₁ hcls) (pc_cls (U := s) hwarm₁ hcls) (by rw [Stand.throwing_vm]; exact Nat.le_of_eq (alike_of X.warmed hwarm₁).2.1), if_pos (pc_self _ _)]
theorem pc_find2 (X : Stand p l e R s m args below meth c T locs cells slots) {own C C2 : String} (hown : s.vm.findClass own = some m.cls) {a : Addr} {fr : JFrame} (hg : fr.method = m) {cell : Cell} (hcell : T.heap[a]? = some cell) (hobj : cell.vm = .none) (hcls : s.vm.findClass C = some cell.cls) {y x : ExceptionTableEntry} {t : List ExceptionTableEntry} (hex : c.exceptionTable.toList = y :: x :: t) (hy : covers y fr.pc = true) (hy0 : y.catchType ≠ 0) (hylk : (Cond.classLink own y.catchType C2).before args s = true)
    (hno : ∃ cN cT, s.vm.findClass C = some cN ∧ s.vm.findClass C2 = some cT ∧ s.vm.assignable cN cT = false) (hx : covers x fr.pc = true) (h0 : x.catchType ≠ 0) (hlk : (Cond.classLink own x.catchType C).before args s = true) :
    ∃ vm', Stand p l e R s m args below meth c (T.setVm vm') locs cells slots ∧ ∀ target, Steps p.tables e below ((T.setVm vm').setTop { fr with pc := x.handlerPc, stack := [.ref a] }) target → Steps p.tables e below ((T.setTop fr).pushFrame (.throwing a)) target := by
  subst hg
  have hpl : e.platform.magicAccessors = ({} : Platform).magicAccessors := by rw [X.admits.platform]
  obtain ⟨cN, cT, hn1, hn2, hn3⟩ := hno
  cases hcls.symm.trans hn1
  obtain ⟨cy, hcy, hcly⟩ := Cond.classLink_spec hown hylk e.platform hpl
  cases hn2.symm.trans hcy
  obtain ⟨hgy, hwarmy, -⟩ := State.classEntry (e := e) X.warmed hcly
  generalize T.vm.noted fr.method.cls y.catchType (.cls cT) = vmy at hgy hwarmy
  have Xy := X.noted hwarmy
  obtain ⟨c', hc', hcl⟩ := Cond.classLink_spec hown hlk e.platform hpl
  cases hcls.symm.trans hc'
  obtain ⟨hg₁, hwarm₁, -⟩ := State.classEntry (e := e) Xy.warmed hcl
  generalize (T.setVm vmy).vm.noted fr.method.cls x.catchType (.cls cell.cls) = vm₁ at hg₁ hwarm₁
  refine ⟨vm₁, X.noted hwarm₁, fun target hrest => pc_caught X a rfl (fun Q E d acts => ?_) hrest⟩
  rw [W.findHandler_eq (meth := meth) (code := c) (by rw [Stand.throwing_vm]; exact X.method') X.code, hex, pc_go hy hy0 (by rw [Stand.throwing_vm]; exact hgy) (by rw [Stand.throwing_heap]; exact hcell) (fun k h => by rw [hobj] at h; cases h) (pc_cls (U := s) hwarmy hcls) (pc_cls (U := s) hwarmy hn2) (by rw [Stand.throwing_vm]; exact Nat.le_of_eq (alike_of X.warmed hwarmy).2.1), if_neg (by rw [hwarmy.alike.assignable, hn3]; decide),
    pc_go (s := ((T.setTop fr).pushFrame (.throwing a)).setVm vmy) hx h0 hg₁ (by show ((T.setTop fr).pushFrame (.throwing a)).heap[a]? = _; rw [Stand.throwing_heap]; exact hcell) (fun k h => by rw [hobj] at h; cases h) (pc_cls (U := s) hwarm₁ hcls) (pc_cls (U := s) hwarm₁ hcls) (Nat.le_of_eq (alike_of hwarmy hwarm₁).2.1), if_pos (pc_self _ _)]
  exact Iff.rfl
end PMHS
/-! a call whose throw is caught in the method -/
section PMCC
variable {p : Program} {e : Env} {Rm : Room} {s : State} {m : MethodId} {args : Array Value} {below : List Frame} {meth : Method} {c : Code} {H : Heap} {locs : List Loc} {cells slots : Nat} {Q : State → Prop} {ls : Array Slot}
variable {g : pmG} {k k' : pmK} {d pc mc' ms' idx n0 : Nat} {as : List Value} {M M1 : pmM}
/-- from a throw at pc of an object of class ce the search ends at hpc -/
def pm_Ct (g : pmG) (k : pmK) (pc ce hpc : Nat) : Prop := ∃ (C : String) (T : u_T) (N : Nat), pm_cl[ce]? = some (C, T, N) ∧
  ((∃ (x : Nat × Nat × Nat × Nat) (t : List (Nat × Nat × Nat × Nat)), pm_hs k.1 = x :: t ∧ (x.1 ≤ pc && decide (pc < x.2.1)) = true ∧ x.2.2.1 = hpc ∧ ¬ x.2.2.2 = 0 ∧ Cond.classLink k.1.cls x.2.2.2 C ∈ pm_TS) ∨
   (∃ (y x : Nat × Nat × Nat × Nat) (t : List (Nat × Nat × Nat × Nat)), pm_hs k.1 = y :: x :: t ∧ (y.1 ≤ pc && decide (pc < y.2.1)) = true ∧ ¬ y.2.2.2 = 0 ∧ C = "java/lang/IllegalArgumentException" ∧ Cond.classLink k.1.cls y.2.2.2 "java/util/NoSuchElementException" ∈ pm_TS ∧ (x.1 ≤ pc && decide (pc < x.2.1)) = true ∧ x.2.2.1 = hpc ∧ ¬ x.2.2.2 = 0 ∧ Cond.classLink k.1.cls x.2.2.2 C ∈ pm_TS))
theorem pm_hex {l : List ExceptionTableEntry} {q : List (Nat × Nat × Nat × Nat)} (h : l.map (fun h => (h.startPc, h.endPc, h.handlerPc, h.catchType)) = q) : l = q.map (fun x => ⟨x.1, x.2.1, x.2.2.1, x.2.2.2⟩) := by
  rw [← h, List.map_map]
  exact ((List.map_congr_left (fun x _ => rfl)).trans (List.map_id l)).symm
theorem pm_catAt {ce hpc x : Nat} {K1 : List (Nat × Nat)} {R1 : Nat → Nat → Value} {I1 : Nat → Nat → Int32} {J1 : Nat → Nat → Int64} {T : State} (hC : pm_Cx g k d p Rm s m args meth c) (hct : pm_Ct g k pc ce hpc) (hk : K1[x]? = some (0, ce)) {st : List Value} (X : Stand p g.1 e Rm s m args below meth c T locs cells slots) (hH : pm_H g (K1, R1, I1, J1) T.heap) :
    ∃ vm', Stand p g.1 e Rm s m args below meth c (T.setVm vm') locs cells slots ∧ ∀ target, Steps p.tables e below ((T.setVm vm').setTop (F0 m hpc ls [.ref (g.2.2.1 + x)])) target → Steps p.tables e below ((T.setTop (F0 m pc ls st)).pushFrame (.throwing (g.2.2.1 + x))) target := by
  obtain ⟨hx, hb, hml, -, -, -, hown, hts, ⟨hK, hN, hX⟩, hfr, hlo, hex⟩ := id hC
  obtain ⟨C, T0, N, hcl, hct⟩ := hct
  obtain ⟨r9, hr9, cell, q1, q2, q3, q4⟩ := hH.2 x _ (pm_obj hcl hk)
  cases hr9.symm.trans hcl
  have hcls : s.vm.findClass C = some cell.cls := by rw [q2]; exact (hK.1 ce _ hcl).2.1
  have hex' := pm_hex hex
  rcases hct with ⟨q, t, h1, h2, h3, h4, h5⟩ | ⟨y, q, t, h1, hy2, hy4, hC2, hy5, h2, h3, h4, h5⟩
  · rw [h1] at hex'
    subst h3
    exact pc_find1 X hown (fr := F0 m pc ls st) rfl q1 q3 hcls hex' h2 h4 (hts _ h5)
  · rw [h1] at hex'
    subst h3
    subst hC2
    exact pc_find2 X hown (fr := F0 m pc ls st) rfl q1 q3 hcls hex' hy2 hy4 (hts _ hy5) hX.2.2.2.2.2.2.2.2.1 h2 h4 (hts _ h5)
theorem pm_cat {S0 S : List Value} {x ce hpc : Nat} {ws : List Cond} {ig : Instr} {K1 : List (Nat × Nat)} {R1 : Nat → Nat → Value} {I1 : Nat → Nat → Int32} {J1 : Nat → Nat → Int64} (hC : pm_Cx g k (d + 1) p Rm s m args meth c) (hinv : pm_Inv p g.1 e Rm s m args below meth c H locs cells slots k'.1 (F0 m pc ls (S0.map (pm_t g))) (S.map (pm_t g)) (as.map (pm_t g)).toArray)
    (hcd : ∀ U mk, s.WarmedH U.vm → U.methodNamed? k'.1 = some mk → pm_cd k' U mk) (f2 : Cond.initialized k'.1.cls ∈ pm_TS) (hpay : ∀ w ∈ ws, ∀ (a' : Array Value) (U : State), s.WarmedH U.vm → w.before a' U = true) (hM : MetFree g.1 k'.1 (headSpec ws (pm_rm d mc' ms')) (pm_P g as M) (fun _ _ _ _ _ => True) (pm_QF g (.threw x) (K1, R1, I1, J1) mc' ms'))
    (h : decode k.2.1 pc = .ok (ig, 3)) (h45 : k'.2.2.1 ≤ 45) (h8 : (S.map fun v => v.category).sum ≤ 8) (hls : ls.size = k.2.2.1) (hA : pm_H g M H ∧ va_S (pm_A g) s.heap H locs) (hc1 : cells + mc' + 1 ≤ Rm.cells) (hs1 : slots + ms' + 8 ≤ Rm.slots) (hct : pm_Ct g k pc ce hpc) (hk : K1[x]? = some (0, ce))
    (kk : ∀ (H1 : Heap) (locs1 : List Loc), (pm_H g (K1, R1, I1, J1) H1 ∧ va_S (pm_A g) s.heap H1 locs1) → W p g.1 e Rm s m args below meth c H1 locs1 (cells + mc') (slots + ms') Q (F0 m hpc ls ([.ref x].map (pm_t g)))) : W p g.1 e Rm s m args below meth c H locs cells slots Q (F0 m pc ls (S0.map (pm_t g))) := by
  obtain ⟨hx, hb, hml, -, -, -, hown, hts, -, hfr, hlo, -⟩ := id hC
  intro T hT X
  obtain ⟨vm₁, mk, X₁, hn, st⟩ := hinv T hT X
  obtain ⟨t, T', L, X', hL, hH, hz, hq, hsteps, -, ho⟩ := pm_fin (k' := k') (as := as) (M := M) (d := d) X₁ (fr := F0 m pc ls (S.map (pm_t g))) rfl (hls.trans hml.symm) (by rw [hb]; exact h) (lv_room (by rw [pm_catS]; exact h8)) hn (hcd _ _ X₁.warmed hn) (a0 := args) (word_at X₁.warmed (pm_TS_good _ f2) (hts _ f2)) hM (fun w hw => hpay w hw _ _ X₁.warmed) (pm_pre hC hA hT X₁.warmed) hfr hlo h45 hc1 hs1
  have hT' : (T.setVm vm₁).heap = H := hT
  rw [hT'] at hz hq
  obtain ⟨vm', Xc, stc⟩ := pm_catAt (ls := ls) (pc := pc) (st := S.map (pm_t g)) hC hct hk X' hH
  obtain ⟨t2, a1, b1⟩ := kk T'.heap (locs ++ L) ⟨hH, pm_S_end hA.2 hz hq hL⟩ (T'.setVm vm') rfl Xc
  refine ⟨t2, st _ (hsteps.trans ?_), b1⟩
  rw [ho x rfl]
  exact stc _ a1
end PMCC
section PMCD
variable {g : pmG} {k k' : pmK} {d rc rs rc1 rs1 mc' ms' pc idx n0 ci a x ce hpc : Nat} {L : List (Nat × Value)} {S S0 As : List Value} {K K1 : List (Nat × Nat)} {R R1 : Nat → Nat → Value} {I I1 : Nat → Nat → Int32} {J J1 : Nat → Nat → Int64} {o : Outcome} {Z : pmM} {v : Option Value}
theorem pm_callVC (h : decode k.2.1 pc = .ok (.invokevirtual idx, 3)) (f : pm_Lk k.1.cls idx k' n0) (fv : pm_Vt k') (hcl : ∃ (T : u_T) (N : Nat), pm_cl[ci]? = some (k'.1.cls, T, N)) (hc : pmC g k' d mc' ms' (.ref a :: As) (K, R, I, J) (.threw x) (K1, R1, I1, J1)) (hk : K[a]? = some (0, ci)) (hn : As.length = n0) (hst : S0 = As.reverse ++ .ref a :: S) (h8 : (S.map fun v => v.category).sum ≤ 8) (hr1 : rc1 + mc' ≤ rc) (hr2 : rs1 + ms' ≤ rs) (hct : pm_Ct g k pc ce hpc) (hkx : K1[x]? = some (0, ce))
    (n : pmE g k (d + 1) rc1 rs1 hpc L [.ref x] K1 R1 I1 J1 o Z) : pmE g k (d + 1) rc rs pc L S0 K R I J o Z := by
  intro p e Rm s m args below meth c H locs cells slots mc ms ls hC h1 h2 h3 h4 hl hA
  obtain ⟨hx, hb, hml, -, -, -, hown, hts, ⟨hK, hN, -⟩, hfr, hlo, -⟩ := id hC
  obtain ⟨T9, N9, hcl9⟩ := hcl
  have hinv : pm_Inv p g.1 e Rm s m args below meth c H locs cells slots k'.1 (F0 m pc ls (S0.map (pm_t g))) (S.map (pm_t g)) (((.ref a :: As) : List Value).map (pm_t g)).toArray := pm_invV hC f.2.2.2.2 f.2.2.1 (fun mk h => pm_cd_code h (hts _ f.1)) fv (va_recv hK hA.1.2 hcl9 (pm_obj hcl9 hk)) rfl (As := As.map (pm_t g)) (by rw [List.length_map]; exact hn) (pm_stk hst) h
  exact pm_cat hC hinv (fun U mk hW hnm => pm_cd_code (a := args) hnm (word_at hW (pm_TS_good _ f.1) (hts _ f.1))) f.2.1 (pm_pay hC f.1) hc h f.2.2.2.1 h8 hl.1 hA (by omega) (by omega) hct hkx (fun H1 locs1 hA1 => n p e Rm s m args below meth c H1 locs1 (cells + mc') (slots + ms') mc ms ls hC h1 h2 (by omega) (by omega) hl hA1)
/-- own's pool entry idx names the method k', of n0 parameters, which has handlers -/
def pm_LkW (own : String) (idx : Nat) (k' : pmK) (n0 : Nat) : Prop := Cond.codeWith k'.1 k'.2.1 k'.2.2.1 k'.2.2.2 (pm_hs k'.1) ∈ pm_TS ∧ Cond.initialized k'.1.cls ∈ pm_TS ∧ (k'.1.cls ≠ "java/lang/invoke/MethodHandle" ∧ k'.1.cls ≠ "java/lang/invoke/VarHandle" ∧ (parseMethodDescriptor k'.1.desc).map (fun d => d.parameters.length) = some n0) ∧ k'.2.2.1 ≤ 45 ∧ pm_lk1 own idx k'.1
theorem pm_callVW (h : decode k.2.1 pc = .ok (.invokevirtual idx, 3)) (f : pm_LkW k.1.cls idx k' n0) (fv : pm_Vt k') (hcl : ∃ (T : u_T) (N : Nat), pm_cl[ci]? = some (k'.1.cls, T, N)) (hc : pmCW g k' d mc' ms' (.ref a :: As) (K, R, I, J) (.returned v) (K1, R1, I1, J1)) (hk : K[a]? = some (0, ci)) (hn : As.length = n0) (hst : S0 = As.reverse ++ .ref a :: S) (h8 : (S.map fun v => v.category).sum ≤ 8) (hr1 : rc1 + mc' ≤ rc) (hr2 : rs1 + ms' ≤ rs)
    (n : pmE g k (d + 1) rc1 rs1 (pc + 3) L (v.toList ++ S) K1 R1 I1 J1 o Z) : pmE g k (d + 1) rc rs pc L S0 K R I J o Z := by
  intro p e Rm s m args below meth c H locs cells slots mc ms ls hC h1 h2 h3 h4 hl hA
  obtain ⟨hx, hb, hml, -, -, -, hown, hts, ⟨hK, hN, -⟩, hfr, hlo, -⟩ := id hC
  obtain ⟨T9, N9, hcl9⟩ := hcl
  have hinv : pm_Inv p g.1 e Rm s m args below meth c H locs cells slots k'.1 (F0 m pc ls (S0.map (pm_t g))) (S.map (pm_t g)) (((.ref a :: As) : List Value).map (pm_t g)).toArray := pm_invV hC f.2.2.2.2 f.2.2.1 (fun mk h => pm_cd_with h (hts _ f.1)) fv (va_recv hK hA.1.2 hcl9 (pm_obj hcl9 hk)) rfl (As := As.map (pm_t g)) (by rw [List.length_map]; exact hn) (pm_stk hst) h
  exact pm_ret hC hinv (fun U mk hW hnm => pm_cd_with (a := args) hnm (word_at hW (pm_TS_good _ f.1) (hts _ f.1))) f.2.1 (pm_payW hC f.1) hc h f.2.2.2.1 h8 hl.1 hA (by omega) (by omega) (fun H1 locs1 hA1 => n p e Rm s m args below meth c H1 locs1 (cells + mc') (slots + ms') mc ms ls hC h1 h2 (by omega) (by omega) hl hA1)
theorem pm_callSW (h : decode k.2.1 pc = .ok (.invokestatic idx, 3)) (f : pm_LkW k.1.cls idx k' n0) (fs : Cond.static k'.1 ∈ pm_TS) (hc : pmCW g k' d mc' ms' As (K, R, I, J) (.returned v) (K1, R1, I1, J1)) (hn : As.length = n0) (hst : S0 = As.reverse ++ S) (h8 : (S.map fun v => v.category).sum ≤ 8) (hr1 : rc1 + mc' ≤ rc) (hr2 : rs1 + ms' ≤ rs)
    (n : pmE g k (d + 1) rc1 rs1 (pc + 3) L (v.toList ++ S) K1 R1 I1 J1 o Z) : pmE g k (d + 1) rc rs pc L S0 K R I J o Z := by
  intro p e Rm s m args below meth c H locs cells slots mc ms ls hC h1 h2 h3 h4 hl hA
  obtain ⟨hx, hb, hml, -, -, -, hown, hts, ⟨hK, hN, -⟩, hfr, hlo, -⟩ := id hC
  have hnm : ∃ mk, s.methodNamed? k'.1 = some mk := by
    obtain ⟨m9, -, -, h9, -⟩ := Cond.codeWith_spec (hts _ f.1)
    exact ⟨m9, h9⟩
  have hinv : pm_Inv p g.1 e Rm s m args below meth c H locs cells slots k'.1 (F0 m pc ls (S0.map (pm_t g))) (S.map (pm_t g)) ((As : List Value).map (pm_t g)).toArray := pm_invS hC f.2.2.2.2 f.2.2.1 hnm (fun mk h => pm_cd_with h (hts _ f.1)) fs f.2.1 rfl (As := As.map (pm_t g)) (by rw [List.length_map]; exact hn) (by rw [hst, List.map_append, List.map_reverse]) h
  exact pm_ret hC hinv (fun U mk hW hnm => pm_cd_with (a := args) hnm (word_at hW (pm_TS_good _ f.1) (hts _ f.1))) f.2.1 (pm_payW hC f.1) hc h f.2.2.2.1 h8 hl.1 hA (by omega) (by omega) (fun H1 locs1 hA1 => n p e Rm s m args below meth c H1 locs1 (cells + mc') (slots + ms') mc ms ls hC h1 h2 (by omega) (by omega) hl hA1)
end PMCD
