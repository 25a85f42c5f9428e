/-! from the law's walk over the pure memory to the claim -/
theorem lw_drop {s s' : State} {L : List Loc} {c n c' n' : Nat} (h : s.sameButNew s' L c n) (hL : ∀ q ∈ L, s.heap.size ≤ q.base) (hc : c ≤ c') (hn : n ≤ n') : s.sameButNew s' [] c' n' := by
  obtain ⟨h1, h2, h3, h4, h5, h6⟩ := h
  refine ⟨h1, h2, by omega, h4, by omega, fun a c hac => ?_⟩
  obtain ⟨c', q1, q2, q3, q4⟩ := h6 a c hac
  have ha : a < s.heap.size := (Array.getElem?_eq_some_iff.mp hac).1
  exact ⟨c', q1, q2, q3, fun i _ => q4 i (fun hm => absurd (hL _ hm) (Nat.not_le.mpr ha))⟩
theorem lw_nohs : pm_hs kLw_law.1 = [] := by decide +kernel
set_option maxHeartbeats 4000000 in
theorem whole_start {p : Program} {e : Env} {s : State} {m : MethodId} {below : List Frame} {meth : Method} {c : Code} (l : Launch) (hst : l.stackTraces = false) {b L : Nat} {xs : Nat → Int32} (hL : L ≤ 3072) (hnm : meth.name = x.name) (hno : c.exceptionTable.isEmpty = true) (C0 : lw_At p s m meth c b L xs) : W p l e room_1 s m #[Value.ref b] below meth c s.heap [] 0 0 (lw_Z below #[Value.ref b] s) (entryFrame m ([Value.ref b] : List Value).toArray 7) := by
  obtain ⟨g, g1, g2, g3, g4, g5, hT⟩ := lw_T l hL C0
  subst g1
  obtain ⟨Z, hn⟩ := lw_all g hst (by rw [g4]; exact hL)
  obtain ⟨hx, hcode, hret, hml, hown, hts, -, -, hlk, -⟩ := C0
  have hl := lv_entry [Value.ref b] (n := 7) (by simp [lg_sl, Value.category])
  have hla : lv_args 0 [Value.ref b] = pm_L g [(0, .retAddr 0)] := by
    show [(0, Value.ref b)] = [(0, Value.ref (g.2.2.2.1 0))]
    rw [g3]
  rw [hla] at hl
  rw [lg_entry_eq]
  have hex : c.exceptionTable.toList.map (fun h => (h.startPc, h.endPc, h.handlerPc, h.catchType)) = pm_hs kLw_law.1 := by
    rw [lw_nohs]; simpa using hno
  have hH : pm_H g ([], fun _ _ => .null, fun _ _ => 0, fun _ _ => 0) s.heap := ⟨by rw [g2]; rfl, fun k q h => by cases h⟩
  have w := hn p e room_1 s m #[Value.ref b] below meth c s.heap [] 0 0 601023 7293026 _ ⟨hx, hcode, hml, hret, hlk, hnm, hown, fun w h => hts w (List.mem_filter.mp h).1, hT, by decide, by decide, hex⟩ rfl rfl (by omega) (by omega) hl ⟨hH, va_S.rf⟩
  refine pm_mono (fun t ht => ?_) w
  obtain ⟨oc, q1, q2, ⟨q3, q4, q5⟩, L9, ⟨q6, q7⟩, q8⟩ := ht
  refine ⟨oc, q1, q2, q3, ⟨⟨_, q3⟩, q6, lw_drop q7 (fun q hq => ?_) (by decide) (by decide)⟩⟩
  have h9 := q8 q hq
  rw [show pm_A g q.base = (g.2.2.1 ≤ q.base) from rfl, g2] at h9
  exact h9
