/-! fields -/
/-- own's pool entry idx names field j of class ci; r: it holds a reference -/
def pm_Fl (own : String) (idx ci j : Nat) (r : Bool) : Prop := ∃ (C : String) (T : u_T) (N : Nat), pm_cl[ci]? = some (C, T, N) ∧ j < N ∧ pm_isR (T j).2.2.1 = r ∧ (∀ w ∈ u_ws C T N, w ∈ pm_TS) ∧
  (Cond.fieldLink own idx (T j).1 (T j).2.1 (T j).2.2.1 ∈ pm_TS ∨ ∃ host : String, Cond.fieldLinkNest own idx (T j).1 (T j).2.1 (T j).2.2.1 host ∈ pm_NS)
/-- and it may be stored into: its type; fin: it is final, own's, and this is own's constructor -/
def pm_Fs (own : String) (ci j : Nat) (ty : FieldType) (fin : Bool) : Prop := ∃ (C : String) (T : u_T) (N : Nat) (ty0 : Nat → FieldType), pm_cl[ci]? = some (C, T, N) ∧ (∀ q, q < N → parseFieldDescriptor (T q).2.2.1 = some (ty0 q)) ∧ (∀ a, a < N → ∀ b, b < N → a ≠ b → (T a).2.1 ≠ (T b).2.1) ∧ ty0 j = ty ∧ (T j).2.2.2 = fin ∧ (fin = true → (T j).1 = own)
section PMM
variable {g : pmG} {k : pmK} {d rc rs pc : Nat} {L : List (Nat × Value)} {S : List Value} {K : List (Nat × Nat)} {R : Nat → Nat → Value} {I : Nat → Nat → Int32} {J : Nat → Nat → Int64} {o : Outcome} {Z : pmM} {a idx ci j : Nat}
theorem pm_obj {C : String} {T : u_T} {N : Nat} (hc : pm_cl[ci]? = some (C, T, N)) (hk : K[a]? = some (0, ci)) : (pm_wd g pm_cl K R I J)[a]? = some (g.2.2.1 + a, .inr (ci, (List.range N).map (fun q => pm_fv g (C, T, N) R I a q))) := by
  have h : pm_cl.getD ci pm_c0 = (C, T, N) := by rw [List.getD_eq_getElem?_getD, hc]; rfl
  rw [pm_wd_at hk, pm_cell_o rfl, h]
theorem pm_get {v : Value} {r : Bool} (h : decode k.2.1 pc = .ok (.getfield idx, 3)) (f : pm_Fl k.1.cls idx ci j r) (hk : K[a]? = some (0, ci)) (hv : ∀ q : vw_C, pm_isR (q.2.1 j).2.2.1 = r → pm_fv g q R I a j = pm_t g v)
    (n : pmE g k d rc rs (pc + 3) L (v :: S) K R I J o Z) : pmE g k d rc rs pc L (.ref a :: S) K R I J o Z := by
  intro p e Rm s m args below meth c H locs cells slots mc ms ls hC h1 h2 h3 h4 hl hA
  obtain ⟨C, T, N, hc, hj, hr, hin, hlk⟩ := f
  obtain ⟨hx, hb, -, -, -, -, hown, hts, ⟨hK, hN, -⟩, -⟩ := id hC
  have hval : ((List.range N).map (fun q => pm_fv g (C, T, N) R I a q))[j]? = some (pm_t g v) := by
    rw [List.getElem?_map, List.getElem?_range hj]
    exact congrArg some (hv (C, T, N) hr)
  rcases hlk with hlk | ⟨host, hlk⟩
  · exact va_get (C := C) (T := T) (N := N) hx hb hts hin hown hK hA.1.2 a (pm_obj hc hk) hc j hj (hts _ hlk) (fun _ q => q) hval h (n p e Rm s m args below meth c H locs cells slots mc ms ls hC h1 h2 h3 h4 hl hA)
  · exact va_getN (C := C) (T := T) (N := N) (host := host) hx hb hts hin hown hK hA.1.2 a (pm_obj hc hk) hc j hj (va_Nw.use rfl (hN _ hlk)) (fun _ q => q) hval h (n p e Rm s m args below meth c H locs cells slots mc ms ls hC h1 h2 h3 h4 hl hA)
theorem pm_geti (h : decode k.2.1 pc = .ok (.getfield idx, 3)) (f : pm_Fl k.1.cls idx ci j false) (hk : K[a]? = some (0, ci)) (n : pmE g k d rc rs (pc + 3) L (.int (I a j) :: S) K R I J o Z) : pmE g k d rc rs pc L (.ref a :: S) K R I J o Z :=
  pm_get h f hk (fun q hq => by unfold pm_fv; rw [hq]; rfl) n
theorem pm_getr {v : Value} (h : decode k.2.1 pc = .ok (.getfield idx, 3)) (f : pm_Fl k.1.cls idx ci j true) (hk : K[a]? = some (0, ci)) (hv : R a j = v) (n : pmE g k d rc rs (pc + 3) L (v :: S) K R I J o Z) : pmE g k d rc rs pc L (.ref a :: S) K R I J o Z :=
  pm_get h f hk (fun q hq => by unfold pm_fv; rw [hq, hv]; rfl) n
/-- one cell of ours has changed -/
theorem pm_H_set {H H1 : Heap} {kd : Nat × Nat} {R' : Nat → Nat → Value} {I' : Nat → Nat → Int32} {J' : Nat → Nat → Int64} (hA : pm_H g (K, R, I, J) H) (hk : K[a]? = some kd) (z : H1.size = H.size) (oq : ∀ q : Nat, q ≠ g.2.2.1 + a → H1[q]? = H[q]?)
    (hat : va_at g.2.1 pm_cl (g.2.2.1 + a, pm_cell g pm_cl R' I' J' a kd) H1) (hoth : ∀ a' : Nat, a' ≠ a → R' a' = R a' ∧ I' a' = I a' ∧ J' a' = J a') : pm_H g (K, R', I', J') H1 := by
  refine ⟨z.trans hA.1, ?_⟩
  show va_P g.2.1 pm_cl (pm_wd g pm_cl K R' I' J') H1
  rw [← pm_wd_set (R := R) (I := I) (J := J) hk (fun a' kd' h => pm_cell_eq (hoth a' h).1 (hoth a' h).2.1 (hoth a' h).2.2)]
  exact hA.2.set (pm_wd_D g pm_cl K R I J) (pm_wd_at hk) hat oq
theorem pm_put {v : Value} {ty : FieldType} {fin r : Bool} {R' : Nat → Nat → Value} {I' : Nat → Nat → Int32} (h : decode k.2.1 pc = .ok (.putfield idx, 3)) (f : pm_Fl k.1.cls idx ci j r) (fs : pm_Fs k.1.cls ci j ty fin) (hfin : fin = true → k.1.name = "<init>") (hk : K[a]? = some (0, ci))
    (hn : narrow ty (pm_t g v) = pm_t g v) (hfit : fits ty (pm_t g v) = true) (hself : ∀ q : vw_C, pm_isR (q.2.1 j).2.2.1 = r → ∀ i : Nat, pm_fv g q R' I' a i = if i = j then pm_t g v else pm_fv g q R I a i) (hoth : ∀ a' : Nat, a' ≠ a → R' a' = R a' ∧ I' a' = I a')
    (n : pmE g k d rc rs (pc + 3) L S K R' I' J o Z) : pmE g k d rc rs pc L (v :: .ref a :: S) K R I J o Z := by
  intro p e Rm s m args below meth c H locs cells slots mc ms ls hC h1 h2 h3 h4 hl hA
  obtain ⟨C, T, N, hc, hj, hr, hin, hlk⟩ := f
  obtain ⟨C2, T2, N2, ty0, hc2, hty, hnm, hty2, hfi, hdecl⟩ := fs
  cases hc.symm.trans hc2
  obtain ⟨hx, hb, -, -, -, hmn, hown, hts, ⟨hK, hN, -⟩, -⟩ := id hC
  obtain ⟨r9, hr9, cell, q1, q2, q3, q4⟩ := hA.1.2 a _ (pm_obj hc hk)
  cases hr9.symm.trans hc
  obtain ⟨hSl, hfc, kC, hkC, hkind⟩ := hK.1 ci _ hc
  obtain ⟨cf, kf, fi, fd, hi, hsl⟩ := hSl j hj
  have hlays := u_lays hts hin hj
  have hst := (u_facts hfc hkC hlays hi).1
  have hfits := u_fits hfc hkC hkind hlays hi (hty j hj) (by rw [hty2]; exact hn) (by rw [hty2]; exact hfit)
  have hap := va_apart (own := k.1.cls) hts hin ty0 hty hnm hK hc
  have hlay := hts _ (hin _ (u_in_lay hj))
  have hfin9 : hasFlag fd.accessFlags Acc.final = false ∨ (m.cls = cf ∧ meth.name = "<init>") := by
    unfold u_lay at hlay
    cases hb9 : (T j).2.2.2 with
    | false =>
      rw [if_neg (by rw [hb9]; decide)] at hlay
      exact Or.inl (u_store hfc hkC hkind hlay hi (hty j hj) (by rw [hty2]; exact hn) (by rw [hty2]; exact hfit)).1
    | true =>
      rw [if_pos hb9] at hlay
      have hft : fin = true := by rw [← hfi]; exact hb9
      refine Or.inr ⟨?_, hmn.trans (hfin hft)⟩
      obtain ⟨_, _, c', _, _, _, -, -, hf', -, -, -, hown2, -⟩ := Cond.laysFinal_spec hlay
      have e1 : c' = cf := by have := hi.symm.trans hf'; simp at this; exact this.1.symm
      rw [hdecl hft] at hown2
      rw [← e1]; exact Option.some.inj (hown.symm.trans hown2)
  have hlt : g.2.2.1 + a < H.size := (Array.getElem?_eq_some_iff.mp q1).1
  have hnext : W p g.1 e Rm s m args below meth c (H.setIfInBounds (g.2.2.1 + a) (cell.setSlot fd.slot (pm_t g v))) (locs ++ [⟨g.2.2.1 + a, fd.slot⟩]) cells slots (pm_MQ g below o Z args s mc ms) (F0 m (pc + 3) ls (S.map (pm_t g))) := by
    have z : (H.setIfInBounds (g.2.2.1 + a) (cell.setSlot fd.slot (pm_t g v))).size = H.size := by simp
    have oq : ∀ q : Nat, q ≠ g.2.2.1 + a → (H.setIfInBounds (g.2.2.1 + a) (cell.setSlot fd.slot (pm_t g v)))[q]? = H[q]? := fun q hq => by simp [Array.getElem?_setIfInBounds, Ne.symm hq]
    refine n p e Rm s m args below meth c _ _ cells slots mc ms ls hC h1 h2 h3 h4 hl ⟨pm_H_set hA.1 hk z oq ?_ (fun a' h' => ⟨(hoth a' h').1, (hoth a' h').2, rfl⟩), hA.2.put z oq (Nat.le_add_right _ _)⟩
    rw [pm_cell_o rfl, show pm_cl.getD ci pm_c0 = (C, T, N) by rw [List.getD_eq_getElem?_getD, hc]; rfl]
    refine ⟨_, hc, cell.setSlot fd.slot (pm_t g v), by simp [Array.getElem?_setIfInBounds, hlt], q2, q3, fun i hi9 => ?_⟩
    rw [hsl, t_set q4 hap hj (pm_t g v) i hi9]
    have hg : ∀ (R2 : Nat → Nat → Value) (I2 : Nat → Nat → Int32), vp_V ((List.range N).map (fun q => pm_fv g (C, T, N) R2 I2 a q)) i = pm_fv g (C, T, N) R2 I2 a i := by
      intro R2 I2
      unfold vp_V
      rw [List.getD_eq_getElem?_getD, List.getElem?_map, List.getElem?_range hi9]
      rfl
    show some (updV _ j (pm_t g v) i) = some (vp_V _ i)
    rw [hg]
    unfold updV
    rw [hg, hself (C, T, N) hr i]
  have hlt2 : fd.slot < cell.slots.size := by rw [hsl]; exact k2_hasslot (q4 j hj)
  rcases hlk with hlk | ⟨host, hlk⟩
  · exact W.putf hx hb hown (hts _ hlk) hi hst hfin9 q1 (by rw [q3]; exact fun h => by cases h) hlt2 hfits.1 (by rw [q2, q3]; exact hfits.2) rfl rfl h hnext
  · exact va_Wputf hx hb hown (va_Nw.use rfl (hN _ hlk)) hi hst hfin9 q1 (by rw [q3]; exact fun h => by cases h) hlt2 hfits.1 (by rw [q2, q3]; exact hfits.2) rfl rfl h hnext
theorem pm_puti {x : Int32} {ty : FieldType} {fin : Bool} (h : decode k.2.1 pc = .ok (.putfield idx, 3)) (f : pm_Fl k.1.cls idx ci j false) (fs : pm_Fs k.1.cls ci j ty fin) (hfin : fin = true → k.1.name = "<init>") (hk : K[a]? = some (0, ci)) (hn : narrow ty (.int x) = .int x) (hfit : fits ty (.int x) = true)
    (n : pmE g k d rc rs (pc + 3) L S K R (pm_u I a j x) J o Z) : pmE g k d rc rs pc L (.int x :: .ref a :: S) K R I J o Z := by
  refine pm_put (R' := R) (I' := pm_u I a j x) (v := .int x) h f fs hfin hk hn hfit (fun q hq i => ?_) (fun a' h' => ⟨rfl, pm_u_n I j x h'⟩) n
  unfold pm_fv
  by_cases hi : i = j
  · subst hi
    rw [hq, if_pos rfl, pm_u_s]; rfl
  · rw [if_neg hi, pm_u_j I a x hi]
theorem pm_putr {v : Value} {ty : FieldType} {fin : Bool} (h : decode k.2.1 pc = .ok (.putfield idx, 3)) (f : pm_Fl k.1.cls idx ci j true) (fs : pm_Fs k.1.cls ci j ty fin) (hfin : fin = true → k.1.name = "<init>") (hk : K[a]? = some (0, ci)) (hn : narrow ty (pm_t g v) = pm_t g v) (hfit : fits ty (pm_t g v) = true)
    (n : pmE g k d rc rs (pc + 3) L S K (pm_u R a j v) I J o Z) : pmE g k d rc rs pc L (v :: .ref a :: S) K R I J o Z := by
  refine pm_put (R' := pm_u R a j v) (I' := I) (v := v) h f fs hfin hk hn hfit (fun q hq i => ?_) (fun a' h' => ⟨pm_u_n R j v h', rfl⟩) n
  unfold pm_fv
  by_cases hi : i = j
  · subst hi
    rw [hq, if_pos rfl, pm_u_s]; rfl
  · rw [if_neg hi, pm_u_j R a v hi]
/-! arrays -/
theorem pm_ald {t : Nat} {n0 : Nat} (hk : K[a]? = some (t, n0)) (ht : t = 1 ∨ t = 2 ∨ t = 3) : (pm_wd g pm_cl K R I J)[a]? = some (g.2.2.1 + a, .inl (g.2.2.2.2.1 t, n0, .inl (I a))) := by
  rw [pm_wd_at hk]
  rcases ht with rfl | rfl | rfl <;> rfl
theorem pm_lld {n0 : Nat} (hk : K[a]? = some (4, n0)) : (pm_wd g pm_cl K R I J)[a]? = some (g.2.2.1 + a, .inl (g.2.2.2.2.1 4, n0, .inr (.inl (J a)))) := by
  rw [pm_wd_at hk]
  rfl
theorem pm_iald {i : Int32} {n0 : Nat} (h : decode k.2.1 pc = .ok (.iaload, 1)) (hk : K[a]? = some (1, n0)) (hin : vp_in i n0) (n : pmE g k d rc rs (pc + 1) L (.int (I a i.toNatClampNeg) :: S) K R I J o Z) : pmE g k d rc rs pc L (.int i :: .ref a :: S) K R I J o Z := by
  intro p e Rm s m args below meth c H locs cells slots mc ms ls hC h1 h2 h3 h4 hl hA
  exact va_iald hC.1 hC.2.1 hC.2.2.2.2.2.2.2.2.1.1 hA.1.2 a 0 (pm_ald hk (Or.inl rfl)) rfl hin h (n p e Rm s m args below meth c H locs cells slots mc ms ls hC h1 h2 h3 h4 hl hA)
theorem pm_bald {i : Int32} {n0 : Nat} (h : decode k.2.1 pc = .ok (.baload, 1)) (hk : K[a]? = some (2, n0)) (hin : vp_in i n0) (n : pmE g k d rc rs (pc + 1) L (.int (I a i.toNatClampNeg) :: S) K R I J o Z) : pmE g k d rc rs pc L (.int i :: .ref a :: S) K R I J o Z := by
  intro p e Rm s m args below meth c H locs cells slots mc ms ls hC h1 h2 h3 h4 hl hA
  exact va_bald hC.1 hC.2.1 hC.2.2.2.2.2.2.2.2.1.1 hA.1.2 a 1 (pm_ald hk (Or.inr (Or.inl rfl))) rfl hin h (n p e Rm s m args below meth c H locs cells slots mc ms ls hC h1 h2 h3 h4 hl hA)
theorem pm_zald {i : Int32} {n0 : Nat} (h : decode k.2.1 pc = .ok (.baload, 1)) (hk : K[a]? = some (3, n0)) (hin : vp_in i n0) (n : pmE g k d rc rs (pc + 1) L (.int (I a i.toNatClampNeg) :: S) K R I J o Z) : pmE g k d rc rs pc L (.int i :: .ref a :: S) K R I J o Z := by
  intro p e Rm s m args below meth c H locs cells slots mc ms ls hC h1 h2 h3 h4 hl hA
  exact va_zald hC.1 hC.2.1 hC.2.2.2.2.2.2.2.2.1.1 hA.1.2 a 2 (pm_ald hk (Or.inr (Or.inr rfl))) rfl hin h (n p e Rm s m args below meth c H locs cells slots mc ms ls hC h1 h2 h3 h4 hl hA)
theorem pm_lald {i : Int32} {n0 : Nat} (h : decode k.2.1 pc = .ok (.laload, 1)) (hk : K[a]? = some (4, n0)) (hin : vp_in i n0) (n : pmE g k d rc rs (pc + 1) L (.long (J a i.toNatClampNeg) :: S) K R I J o Z) : pmE g k d rc rs pc L (.int i :: .ref a :: S) K R I J o Z := by
  intro p e Rm s m args below meth c H locs cells slots mc ms ls hC h1 h2 h3 h4 hl hA
  exact va_lald hC.1 hC.2.1 hC.2.2.2.2.2.2.2.2.1.1 hA.1.2 a 3 (pm_lld hk) rfl hin h (n p e Rm s m args below meth c H locs cells slots mc ms ls hC h1 h2 h3 h4 hl hA)
theorem pm_alen {t n0 : Nat} {v : Int32} (h : decode k.2.1 pc = .ok (.arraylength, 1)) (hk : K[a]? = some (t, n0)) (ht : t = 1 ∨ t = 2 ∨ t = 3 ∨ t = 4) (hv : Int32.ofNat n0 = v) (n : pmE g k d rc rs (pc + 1) L (.int v :: S) K R I J o Z) : pmE g k d rc rs pc L (.ref a :: S) K R I J o Z := by
  intro p e Rm s m args below meth c H locs cells slots mc ms ls hC h1 h2 h3 h4 hl hA
  have kk := n p e Rm s m args below meth c H locs cells slots mc ms ls hC h1 h2 h3 h4 hl hA
  rcases ht with rfl | rfl | rfl | rfl
  · exact va_alen hC.1 hC.2.1 hC.2.2.2.2.2.2.2.2.1.1 hA.1.2 a 0 (pm_ald hk (Or.inl rfl)) rfl hv h kk
  · exact va_alen hC.1 hC.2.1 hC.2.2.2.2.2.2.2.2.1.1 hA.1.2 a 1 (pm_ald hk (Or.inr (Or.inl rfl))) rfl hv h kk
  · exact va_alen hC.1 hC.2.1 hC.2.2.2.2.2.2.2.2.1.1 hA.1.2 a 2 (pm_ald hk (Or.inr (Or.inr rfl))) rfl hv h kk
  · exact va_alen hC.1 hC.2.1 hC.2.2.2.2.2.2.2.2.1.1 hA.1.2 a 3 (pm_lld hk) rfl hv h kk
theorem pm_updV {α : Type} (con : α → Value) (f : Nat → α) (i : Nat) (x : α) : updV (fun q => con (f q)) i (con x) = fun q => con (if q = i then x else f q) := by
  funext q
  unfold updV
  by_cases hq : q = i
  · rw [if_pos hq, if_pos hq]
  · rw [if_neg hq, if_neg hq]
theorem pm_iast {i x : Int32} {n0 : Nat} (h : decode k.2.1 pc = .ok (.iastore, 1)) (hk : K[a]? = some (1, n0)) (hin : vp_in i n0) (n : pmE g k d rc rs (pc + 1) L S K R (pm_u I a i.toNatClampNeg x) J o Z) : pmE g k d rc rs pc L (.int x :: .int i :: .ref a :: S) K R I J o Z := by
  intro p e Rm s m args below meth c H locs cells slots mc ms ls hC h1 h2 h3 h4 hl hA
  refine W.iast hC.1 hC.2.1 (hA.1.2 a _ (pm_ald hk (Or.inl rfl))) ((hC.2.2.2.2.2.2.2.2.1.1.2 0 _ rfl).1 n0 (fun q => .int (I a q))) (fun q => by cases q) (by show ¬ (i < 0 ∨ (arrV _ _ _).slots.size ≤ _); rw [arrV_size]; exact hin) rfl rfl h fun H1 e1 z oq => ?_
  refine n p e Rm s m args below meth c H1 _ cells slots mc ms ls hC h1 h2 h3 h4 hl ⟨pm_H_set hA.1 hk z oq ?_ (fun a' h' => ⟨rfl, pm_u_n I _ x h', rfl⟩), hA.2.put z oq (Nat.le_add_right _ _)⟩
  show H1[g.2.2.1 + a]? = some (vp_cell _ (n0, .inl (pm_u I a i.toNatClampNeg x a)))
  rw [e1, vp_cell_i, vp_cell_i, arrV_store, pm_u_a]
  exact congrArg (fun z => some (arrV _ _ z)) (pm_updV Value.int (I a) i.toNatClampNeg x)
theorem pm_bast {i x : Int32} {n0 : Nat} (h : decode k.2.1 pc = .ok (.bastore, 1)) (hk : K[a]? = some (2, n0)) (hin : vp_in i n0) (n : pmE g k d rc rs (pc + 1) L S K R (pm_u I a i.toNatClampNeg x.toInt8.toInt32) J o Z) : pmE g k d rc rs pc L (.int x :: .int i :: .ref a :: S) K R I J o Z := by
  intro p e Rm s m args below meth c H locs cells slots mc ms ls hC h1 h2 h3 h4 hl hA
  refine W.bast hC.1 hC.2.1 (hA.1.2 a _ (pm_ald hk (Or.inr (Or.inl rfl)))) ((hC.2.2.2.2.2.2.2.2.1.1.2 1 _ rfl).1 n0 (fun q => .int (I a q))) (fun q => by cases q) (by show ¬ (i < 0 ∨ (arrV _ _ _).slots.size ≤ _); rw [arrV_size]; exact hin) rfl rfl h fun H1 e1 z oq => ?_
  refine n p e Rm s m args below meth c H1 _ cells slots mc ms ls hC h1 h2 h3 h4 hl ⟨pm_H_set hA.1 hk z oq ?_ (fun a' h' => ⟨rfl, pm_u_n I _ _ h', rfl⟩), hA.2.put z oq (Nat.le_add_right _ _)⟩
  show H1[g.2.2.1 + a]? = some (vp_cell _ (n0, .inl (pm_u I a i.toNatClampNeg x.toInt8.toInt32 a)))
  rw [e1, vp_cell_i, vp_cell_i, arrV_store, pm_u_a]
  exact congrArg (fun z => some (arrV _ _ z)) (pm_updV Value.int (I a) i.toNatClampNeg x.toInt8.toInt32)
theorem pm_zast {i x : Int32} {n0 : Nat} (h : decode k.2.1 pc = .ok (.bastore, 1)) (hk : K[a]? = some (3, n0)) (hin : vp_in i n0) (n : pmE g k d rc rs (pc + 1) L S K R (pm_u I a i.toNatClampNeg (vp_nar .boolean x)) J o Z) : pmE g k d rc rs pc L (.int x :: .int i :: .ref a :: S) K R I J o Z := by
  intro p e Rm s m args below meth c H locs cells slots mc ms ls hC h1 h2 h3 h4 hl hA
  refine W.zast hC.1 hC.2.1 (hA.1.2 a _ (pm_ald hk (Or.inr (Or.inr rfl)))) ((hC.2.2.2.2.2.2.2.2.1.1.2 2 _ rfl).1 n0 (fun q => .int (I a q))) (fun q => by cases q) (by show ¬ (i < 0 ∨ (arrV _ _ _).slots.size ≤ _); rw [arrV_size]; exact hin) rfl rfl h fun H1 e1 z oq => ?_
  refine n p e Rm s m args below meth c H1 _ cells slots mc ms ls hC h1 h2 h3 h4 hl ⟨pm_H_set hA.1 hk z oq ?_ (fun a' h' => ⟨rfl, pm_u_n I _ _ h', rfl⟩), hA.2.put z oq (Nat.le_add_right _ _)⟩
  show H1[g.2.2.1 + a]? = some (vp_cell _ (n0, .inl (pm_u I a i.toNatClampNeg (vp_nar .boolean x) a)))
  rw [e1, vp_cell_i, vp_cell_i, arrV_store, pm_u_a]
  exact congrArg (fun z => some (arrV _ _ z)) (pm_updV Value.int (I a) i.toNatClampNeg (vp_nar .boolean x))
theorem pm_last {i : Int32} {x : Int64} {n0 : Nat} (h : decode k.2.1 pc = .ok (.lastore, 1)) (hk : K[a]? = some (4, n0)) (hin : vp_in i n0) (n : pmE g k d rc rs (pc + 1) L S K R I (pm_u J a i.toNatClampNeg x) o Z) : pmE g k d rc rs pc L (.long x :: .int i :: .ref a :: S) K R I J o Z := by
  intro p e Rm s m args below meth c H locs cells slots mc ms ls hC h1 h2 h3 h4 hl hA
  refine W.last hC.1 hC.2.1 (hA.1.2 a _ (pm_lld hk)) ((hC.2.2.2.2.2.2.2.2.1.1.2 3 _ rfl).1 n0 (fun q => .long (J a q))) (fun q => by cases q) (by show ¬ (i < 0 ∨ (arrV _ _ _).slots.size ≤ _); rw [arrV_size]; exact hin) rfl rfl h fun H1 e1 z oq => ?_
  refine n p e Rm s m args below meth c H1 _ cells slots mc ms ls hC h1 h2 h3 h4 hl ⟨pm_H_set hA.1 hk z oq ?_ (fun a' h' => ⟨rfl, rfl, pm_u_n J _ x h'⟩), hA.2.put z oq (Nat.le_add_right _ _)⟩
  show H1[g.2.2.1 + a]? = some (vp_cell _ (n0, .inr (.inl (pm_u J a i.toNatClampNeg x a))))
  rw [e1, vp_cell_l, vp_cell_l, arrV_store, pm_u_a]
  exact congrArg (fun z => some (arrV _ _ z)) (pm_updV Value.long (J a) i.toNatClampNeg x)
end PMM
