/-! calls -/
/-- own's pool entry idx names the method k', of n0 parameters -/
def pm_Lk (own : String) (idx : Nat) (k' : pmK) (n0 : Nat) : Prop := Cond.code k'.1 k'.2.1 k'.2.2.1 k'.2.2.2 ∈ pm_TS ∧ Cond.initialized k'.1.cls ∈ pm_TS ∧ (k'.1.cls ≠ "java/lang/invoke/MethodHandle" ∧ k'.1.cls ≠ "java/lang/invoke/VarHandle" ∧ (parseMethodDescriptor k'.1.desc).map (fun d => d.parameters.length) = some n0) ∧ k'.2.2.1 ≤ 45 ∧
  (Cond.methodLink own idx k'.1 ∈ pm_TS ∨ ∃ host : String, Cond.methodLinkNest own idx k'.1 host ∈ pm_NS)
def pm_Vt (k' : pmK) : Prop := Cond.instanceMethod k'.1 ∈ pm_TS ∧ Cond.selects k'.1.cls k'.1 k'.1 ∈ pm_TS
theorem pm_blind (g : pmG) (as : List Value) (M : pmM) : FrameBlind (pm_P g as M) := by
  intro a U fr mk h
  obtain ⟨h1, h2, hK, hN, hX⟩ := h
  exact ⟨h1, h2, va_K.moved (u := U) (U := U.calling fr mk a) (Vm.Alike.refl U.vm) hK, pm_NS_warm (s := U) (U := U.calling fr mk a) (State.WarmedH.refl U) hN, pm_X_mv (s := U) (U := U.calling fr mk a) (State.WarmedH.refl U) (fun _ _ _ => rfl) hX⟩
theorem pm_catS (g : pmG) (S : List Value) : ((S.map (pm_t g)).map fun v => v.category).sum = (S.map fun v => v.category).sum := by
  rw [List.map_map]; exact congrArg List.sum (List.map_congr_left (fun v _ => pm_tr_cat _ _ v))
section PMC
variable {p : Program} {e : Env} {Rm : Room} {s : State} {m : MethodId} {args : Array Value} {below : List Frame} {meth : Method} {c : Code} {H : Heap} {locs : List Loc} {cells slots : Nat} {Q : State → Prop} {ls : Array Slot}
variable {g : pmG} {k k' : pmK} {d pc mc' ms' idx n0 : Nat} {as : List Value} {M M1 : pmM}
theorem pm_pre (hC : pm_Cx g k d p Rm s m args meth c) (hA : pm_H g M H ∧ va_S (pm_A g) s.heap H locs) {U : State} (hU : U.heap = H) (hW : s.WarmedH U.vm) : pm_P g as M (as.map (pm_t g)).toArray U := by
  obtain ⟨-, -, -, -, -, -, -, -, ⟨hK, hN, hX⟩, -⟩ := hC
  exact ⟨rfl, by rw [hU]; exact hA.1, va_K.moved hW.alike hK, pm_NS_warm hW hN, by rw [hU]; exact pm_X_mv hW hA.2.2.1 hX⟩
theorem pm_pay (hC : pm_Cx g k d p Rm s m args meth c) (hc : Cond.code k'.1 k'.2.1 k'.2.2.1 k'.2.2.2 ∈ pm_TS) : ∀ w ∈ pm_ws k', ∀ (a' : Array Value) (U : State), s.WarmedH U.vm → w.before a' U = true := by
  refine pay_in hC.2.2.2.2.2.2.2.1 (fun w hw => ?_)
  rcases List.mem_cons.mp hw with rfl | hw
  · exact ⟨hc, pm_TS_good _ hc⟩
  · exact ⟨hw, pm_TS_good _ hw⟩
theorem pm_par {y : MethodName} {sig : MethodDescriptor} (h : (parseMethodDescriptor y.desc).map (fun d => d.parameters.length) = some n0) (hs : parseMethodDescriptor y.desc = some sig) : n0 = sig.parameters.length := by
  rw [hs] at h
  exact (Option.some.inj h).symm
/-- behind a call that returned -/
theorem pm_behind {v : Option Value} {a : Array Value} {st0 rest : List Value} (hr : va_Run p g.1 e Rm s m args below meth c H locs cells slots mc' ms' (F0 m pc ls st0) rest (pm_Q g (.returned v) M1 a) (pm_A g)) (hA : pm_H g M H ∧ va_S (pm_A g) s.heap H locs)
    (kk : ∀ (H1 : Heap) (locs1 : List Loc), (pm_H g M1 H1 ∧ va_S (pm_A g) s.heap H1 locs1) → W p g.1 e Rm s m args below meth c H1 locs1 (cells + mc') (slots + ms') Q (F0 m (pc + 3) ls ((v.toList.map (pm_t g)) ++ rest))) : W p g.1 e Rm s m args below meth c H locs cells slots Q (F0 m pc ls st0) := by
  intro T hT X
  obtain ⟨w, st₀, t, T', Lc, h0, X', hL, e1, e2, ⟨hv, hH, hz, hq⟩, st⟩ := hr T hT X
  rw [h0] at hz hq
  have hw : w.toList = v.toList.map (pm_t g) := by
    cases v with
    | none => cases Outcome.returned.inj hv; rfl
    | some u => cases Outcome.returned.inj hv; rfl
  obtain ⟨t2, a1, b1⟩ := kk T'.heap (locs ++ Lc) ⟨by rw [e1]; exact hH, Nat.le_trans hA.2.1 (by rw [e1]; exact hz), fun q q1 q2 => by rw [e1, hq q (Nat.lt_of_lt_of_le q1 hA.2.1) q2]; exact hA.2.2.1 q q1 q2, fun q hq9 => by
    rcases List.mem_append.mp hq9 with q9 | q9
    · exact hA.2.2.2 q q9
    · exact hL q q9⟩ T' rfl X'
  rw [← hw] at a1
  exact ⟨t2, st t2 a1, b1⟩
end PMC
section PMD
variable {g : pmG} {k k' : pmK} {d rc rs rc1 rs1 mc' ms' pc idx n0 ci a : Nat} {L : List (Nat × Value)} {S S0 As : List Value} {K K1 : List (Nat × Nat)} {R R1 : Nat → Nat → Value} {I I1 : Nat → Nat → Int32} {J J1 : Nat → Nat → Int64} {o : Outcome} {Z : pmM} {v : Option Value}
theorem pm_callV (h : decode k.2.1 pc = .ok (.invokevirtual idx, 3)) (f : pm_Lk k.1.cls idx k' n0) (fv : pm_Vt k') (hcl : ∃ (T : u_T) (N : Nat), pm_cl[ci]? = some (k'.1.cls, T, N)) (hc : pmC g k' d mc' ms' (.ref a :: As) (K, R, I, J) (.returned v) (K1, R1, I1, J1)) (hk : K[a]? = some (0, ci)) (hn : As.length = n0) (hst : S0 = As.reverse ++ .ref a :: S) (h8 : (S.map fun v => v.category).sum ≤ 8) (hr1 : rc1 + mc' ≤ rc) (hr2 : rs1 + ms' ≤ rs)
    (n : pmE g k (d + 1) rc1 rs1 (pc + 3) L (v.toList ++ S) K1 R1 I1 J1 o Z) : pmE g k (d + 1) rc rs pc L S0 K R I J o Z := by
  intro p e Rm s m args below meth c H locs cells slots mc ms ls hC h1 h2 h3 h4 hl hA
  obtain ⟨f1, f2, f3, f4, f5⟩ := f
  obtain ⟨T, N, hcl⟩ := hcl
  obtain ⟨hx, hb, hml, -, -, -, hown, hts, ⟨hK, hN, -⟩, hfr, hlo, -⟩ := id hC
  have hrecv := va_recv hK hA.1.2 hcl (pm_obj hcl hk)
  have hp : PreV s H k'.1.cls (g.2.2.1 + a) (pm_P g (.ref a :: As) (K, R, I, J)) (As.map (pm_t g)) := ⟨pm_blind _ _ _, hrecv, fun U hU hW => pm_pre hC hA hU hW⟩
  have hS0 : (F0 m pc ls (S0.map (pm_t g))).stack = (As.map (pm_t g)).reverse ++ .ref (g.2.2.1 + a) :: S.map (pm_t g) := by
    show S0.map (pm_t g) = _
    rw [hst, List.map_append, List.map_reverse]; rfl
  have h89 : 2 * (F0 m pc ls (S0.map (pm_t g))).monitorRoom + ((S.map (pm_t g)).map fun v => v.category).sum ≤ 8 := lv_room (by rw [pm_catS]; exact h8)
  have hR : (pm_rm d mc' ms').frames + 1 ≤ Rm.frames ∧ 8 + (k'.2.2.1 + 11) + (pm_rm d mc' ms').locals ≤ Rm.locals := ⟨hfr, by show 8 + (k'.2.2.1 + 11) + 64 * d ≤ Rm.locals; omega⟩
  have hrun : va_Run p g.1 e Rm s m args below meth c H locs cells slots mc' ms' (F0 m pc ls (S0.map (pm_t g))) (S.map (pm_t g)) (pm_Q g (.returned v) (K1, R1, I1, J1) (Value.ref (g.2.2.1 + a) :: As.map (pm_t g)).toArray) (pm_A g) := by
    rcases f5 with f5 | ⟨host, f5⟩
    · exact va_runV (C := k'.1.cls) (n := n0) (Ts := pm_TS) ⟨hx, hb, hml, hown, hts⟩ hc.met ⟨⟨rfl, rfl, hR.1, hR.2, pm_pay hC f1, List.mem_cons_self, hts _ f1, hts _ f2, ⟨f3.1, f3.2.1⟩, fun sig hs => pm_par f3.2.2 hs, hts _ f5⟩, hts _ fv.1, hts _ fv.2⟩ hp rfl (by rw [List.length_map]; exact hn) hl.1 hS0 h89 h ⟨by omega, by omega⟩
    · exact va_runVN (C := k'.1.cls) (n := n0) (Ts := pm_TS) (host := host) ⟨hx, hb, hml, hown, hts⟩ hc.met ⟨⟨⟨rfl, rfl, hR.1, hR.2, pm_pay hC f1, List.mem_cons_self⟩, hts _ f1, hts _ f2, ⟨f3.1, f3.2.1⟩, fun sig hs => pm_par f3.2.2 hs, va_Nw.use rfl (hN _ f5)⟩, hts _ fv.1, hts _ fv.2⟩ hp rfl (by rw [List.length_map]; exact hn) hl.1 hS0 h89 h ⟨by omega, by omega⟩
  refine pm_behind hrun hA (fun H1 locs1 hA1 => ?_)
  have := n p e Rm s m args below meth c H1 locs1 (cells + mc') (slots + ms') mc ms ls hC h1 h2 (by omega) (by omega) hl hA1
  rw [List.map_append] at this
  exact this
theorem pm_callI (h : decode k.2.1 pc = .ok (.invokespecial idx, 3)) (f : pm_Lk k.1.cls idx k' n0) (fi : k'.1.name = "<init>" ∧ k'.2.2.2 = none ∧ Cond.instanceMethod k'.1 ∈ pm_TS) (hc : pmC g k' d mc' ms' (.ref a :: As) (K, R, I, J) (.returned v) (K1, R1, I1, J1)) (hn : As.length = n0) (hst : S0 = As.reverse ++ .ref a :: S) (h8 : (S.map fun v => v.category).sum ≤ 8) (hr1 : rc1 + mc' ≤ rc) (hr2 : rs1 + ms' ≤ rs)
    (n : pmE g k (d + 1) rc1 rs1 (pc + 3) L (v.toList ++ S) K1 R1 I1 J1 o Z) : pmE g k (d + 1) rc rs pc L S0 K R I J o Z := by
  intro p e Rm s m args below meth c H locs cells slots mc ms ls hC h1 h2 h3 h4 hl hA
  obtain ⟨f1, f2, f3, f4, f5⟩ := f
  obtain ⟨hx, hb, hml, -, -, -, hown, hts, ⟨hK, hN, -⟩, hfr, hlo, -⟩ := id hC
  have hp : PreS s H (pm_P g (.ref a :: As) (K, R, I, J)) (.ref (g.2.2.1 + a) :: As.map (pm_t g)) := ⟨pm_blind _ _ _, fun U hU hW => pm_pre hC hA hU hW⟩
  have hS0 : (F0 m pc ls (S0.map (pm_t g))).stack = (As.map (pm_t g)).reverse ++ .ref (g.2.2.1 + a) :: S.map (pm_t g) := by
    show S0.map (pm_t g) = _
    rw [hst, List.map_append, List.map_reverse]; rfl
  have h89 : 2 * (F0 m pc ls (S0.map (pm_t g))).monitorRoom + ((S.map (pm_t g)).map fun v => v.category).sum ≤ 8 := lv_room (by rw [pm_catS]; exact h8)
  have hR : (pm_rm d mc' ms').frames + 1 ≤ Rm.frames ∧ 8 + (k'.2.2.1 + 11) + (pm_rm d mc' ms').locals ≤ Rm.locals := ⟨hfr, by show 8 + (k'.2.2.1 + 11) + 64 * d ≤ Rm.locals; omega⟩
  have f1n : Cond.code k'.1 k'.2.1 k'.2.2.1 none ∈ pm_TS := by rw [← fi.2.1]; exact f1
  have hcm : Cond.code k'.1 k'.2.1 k'.2.2.1 none ∈ pm_ws k' := by rw [← fi.2.1]; exact List.mem_cons_self
  have hrun : va_Run p g.1 e Rm s m args below meth c H locs cells slots mc' ms' (F0 m pc ls (S0.map (pm_t g))) (S.map (pm_t g)) (pm_Q g (.returned v) (K1, R1, I1, J1) (Value.ref (g.2.2.1 + a) :: As.map (pm_t g)).toArray) (pm_A g) := by
    rcases f5 with f5 | ⟨host, f5⟩
    · exact va_runI (bytes := k'.2.1) (maxL := k'.2.2.1) (n := n0) (Ts := pm_TS) ⟨hx, hb, hml, hown, hts⟩ hc.met ⟨⟨rfl, rfl, hR.1, hR.2, pm_pay hC f1, hcm, hts _ f1n, hts _ f2, ⟨f3.1, f3.2.1⟩, fun sig hs => pm_par f3.2.2 hs, hts _ f5⟩, fi.1, hts _ fi.2.2⟩ hp rfl (by rw [List.length_map]; exact hn) hl.1 hS0 h89 h ⟨by omega, by omega⟩
    · exact va_runIN (bytes := k'.2.1) (maxL := k'.2.2.1) (n := n0) (Ts := pm_TS) (host := host) ⟨hx, hb, hml, hown, hts⟩ hc.met ⟨⟨⟨rfl, rfl, hR.1, hR.2, pm_pay hC f1, hcm⟩, hts _ f1n, hts _ f2, ⟨f3.1, f3.2.1⟩, fun sig hs => pm_par f3.2.2 hs, va_Nw.use rfl (hN _ f5)⟩, fi.1, hts _ fi.2.2⟩ hp rfl (by rw [List.length_map]; exact hn) hl.1 hS0 h89 h ⟨by omega, by omega⟩
  refine pm_behind hrun hA (fun H1 locs1 hA1 => ?_)
  have := n p e Rm s m args below meth c H1 locs1 (cells + mc') (slots + ms') mc ms ls hC h1 h2 (by omega) (by omega) hl hA1
  rw [List.map_append] at this
  exact this
theorem pm_callS (h : decode k.2.1 pc = .ok (.invokestatic idx, 3)) (f : pm_Lk k.1.cls idx k' n0) (fs : Cond.static k'.1 ∈ pm_TS) (hc : pmC g k' d mc' ms' As (K, R, I, J) (.returned v) (K1, R1, I1, J1)) (hn : As.length = n0) (hst : S0 = As.reverse ++ S) (h8 : (S.map fun v => v.category).sum ≤ 8) (hr1 : rc1 + mc' ≤ rc) (hr2 : rs1 + ms' ≤ rs)
    (n : pmE g k (d + 1) rc1 rs1 (pc + 3) L (v.toList ++ S) K1 R1 I1 J1 o Z) : pmE g k (d + 1) rc rs pc L S0 K R I J o Z := by
  intro p e Rm s m args below meth c H locs cells slots mc ms ls hC h1 h2 h3 h4 hl hA
  obtain ⟨f1, f2, f3, f4, f5⟩ := f
  obtain ⟨hx, hb, hml, -, -, -, hown, hts, ⟨hK, hN, -⟩, hfr, hlo, -⟩ := id hC
  have hp : PreS s H (pm_P g As (K, R, I, J)) (As.map (pm_t g)) := ⟨pm_blind _ _ _, fun U hU hW => pm_pre hC hA hU hW⟩
  have hS0 : (F0 m pc ls (S0.map (pm_t g))).stack = (As.map (pm_t g)).reverse ++ S.map (pm_t g) := by
    show S0.map (pm_t g) = _
    rw [hst, List.map_append, List.map_reverse]
  have h89 : 2 * (F0 m pc ls (S0.map (pm_t g))).monitorRoom + ((S.map (pm_t g)).map fun v => v.category).sum ≤ 8 := lv_room (by rw [pm_catS]; exact h8)
  have hR : (pm_rm d mc' ms').frames + 1 ≤ Rm.frames ∧ 8 + (k'.2.2.1 + 11) + (pm_rm d mc' ms').locals ≤ Rm.locals := ⟨hfr, by show 8 + (k'.2.2.1 + 11) + 64 * d ≤ Rm.locals; omega⟩
  have hrun : va_Run p g.1 e Rm s m args below meth c H locs cells slots mc' ms' (F0 m pc ls (S0.map (pm_t g))) (S.map (pm_t g)) (pm_Q g (.returned v) (K1, R1, I1, J1) (As.map (pm_t g)).toArray) (pm_A g) := by
    rcases f5 with f5 | ⟨host, f5⟩
    · exact va_runS (n := n0) (Ts := pm_TS) ⟨hx, hb, hml, hown, hts⟩ hc.met ⟨⟨rfl, rfl, hR.1, hR.2, pm_pay hC f1, List.mem_cons_self, hts _ f1, hts _ f2, ⟨f3.1, f3.2.1⟩, fun sig hs => pm_par f3.2.2 hs, hts _ f5⟩, hts _ fs⟩ hp rfl (by rw [List.length_map]; exact hn) hl.1 hS0 h89 h ⟨by omega, by omega⟩
    · exact va_runSN (n := n0) (Ts := pm_TS) (host := host) ⟨hx, hb, hml, hown, hts⟩ hc.met ⟨⟨⟨rfl, rfl, hR.1, hR.2, pm_pay hC f1, List.mem_cons_self⟩, hts _ f1, hts _ f2, ⟨f3.1, f3.2.1⟩, fun sig hs => pm_par f3.2.2 hs, va_Nw.use rfl (hN _ f5)⟩, hts _ fs, trivial⟩ hp rfl (by rw [List.length_map]; exact hn) hl.1 hS0 h89 h ⟨by omega, by omega⟩
  refine pm_behind hrun hA (fun H1 locs1 hA1 => ?_)
  have := n p e Rm s m args below meth c H1 locs1 (cells + mc') (slots + ms') mc ms ls hC h1 h2 (by omega) (by omega) hl hA1
  rw [List.map_append] at this
  exact this
end PMD
