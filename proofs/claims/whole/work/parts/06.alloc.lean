/-! ends, constants, new cells, arrays of references -/
/-- own's pool entry idx names the class ci, which may be made: its fields are blank at first -/
def pm_Cn (own : String) (idx ci N : Nat) : Prop := ∃ (C : String) (T : u_T) (ty0 : Nat → FieldType), pm_cl[ci]? = some (C, T, N) ∧ (∀ w ∈ u_ws C T N, w ∈ pm_TS) ∧ (∀ q, q < N → parseFieldDescriptor (T q).2.2.1 = some (ty0 q)) ∧ (∀ q, q < N → defaultValue (ty0 q) = bif pm_isR (T q).2.2.1 then .null else .int 0) ∧
  Cond.classLink own idx C ∈ pm_TS ∧ Cond.instantiable C N ∈ pm_TS ∧ Cond.initialized C ∈ pm_TS
section PMR
variable {g : pmG} {k : pmK} {d rc rs pc : Nat} {L : List (Nat × Value)} {S : List Value} {K : List (Nat × Nat)} {R : Nat → Nat → Value} {I : Nat → Nat → Int32} {J : Nat → Nat → Int64} {o : Outcome} {Z : pmM} {a idx ci j : Nat}
theorem pm_vret (h : decode k.2.1 pc = .ok (.return_, 1)) (hk : k.2.2.2 = none) (ho : o = .returned none) (hz : Z = (K, R, I, J)) : pmE g k d rc rs pc L [] K R I J o Z := by
  intro p e Rm s m args below meth c H locs cells slots mc ms ls hC h1 h2 h3 h4 hl hA
  subst ho; subst hz
  have hlocks := hC.2.2.2.2.1
  refine W.widen (k := mc) (n := ms) (by omega) (by omega) ?_
  refine pm_mono (fun t => pm_MQ.of) ?_
  exact W.vret hC.1 hC.2.1 (hC.2.2.2.1.trans hk) (fun t ht hW => ⟨rfl, by rw [ht]; exact hA.1, hA.2.F ht⟩) hA.2.2.2 h hlocks
theorem pm_iret {x : Int32} (h : decode k.2.1 pc = .ok (.ireturn, 1)) (hk : k.2.2.2 = some .int) (ho : o = .returned (some (.int x))) (hz : Z = (K, R, I, J)) : pmE g k d rc rs pc L [.int x] K R I J o Z := by
  intro p e Rm s m args below meth c H locs cells slots mc ms ls hC h1 h2 h3 h4 hl hA
  subst ho; subst hz
  have hlocks := hC.2.2.2.2.1
  refine W.widen (k := mc) (n := ms) (by omega) (by omega) ?_
  refine pm_mono (fun t => pm_MQ.of) ?_
  exact W.iret hC.1 hC.2.1 (hC.2.2.2.1.trans hk) (fun t ht hW => ⟨rfl, by rw [ht]; exact hA.1, hA.2.F ht⟩) hA.2.2.2 h hlocks
theorem pm_zret {x : Int32} {ty : FieldType} (h : decode k.2.1 pc = .ok (.ireturn, 1)) (hk : k.2.2.2 = some ty) (hn : narrow ty (.int x) = .int x) (ho : o = .returned (some (.int x))) (hz : Z = (K, R, I, J)) : pmE g k d rc rs pc L [.int x] K R I J o Z := by
  intro p e Rm s m args below meth c H locs cells slots mc ms ls hC h1 h2 h3 h4 hl hA
  subst ho; subst hz
  have hlocks := hC.2.2.2.2.1
  refine W.widen (k := mc) (n := ms) (by omega) (by omega) ?_
  refine pm_mono (fun t => pm_MQ.of) ?_
  exact W.zret hC.1 hC.2.1 (hC.2.2.2.1.trans hk) hn (fun t ht hW => ⟨rfl, by rw [ht]; exact hA.1, hA.2.F ht⟩) hA.2.2.2 h hlocks
theorem pm_lret {x : Int64} (h : decode k.2.1 pc = .ok (.lreturn, 1)) (hk : k.2.2.2 = some .long) (ho : o = .returned (some (.long x))) (hz : Z = (K, R, I, J)) : pmE g k d rc rs pc L [.long x] K R I J o Z := by
  intro p e Rm s m args below meth c H locs cells slots mc ms ls hC h1 h2 h3 h4 hl hA
  subst ho; subst hz
  have hlocks := hC.2.2.2.2.1
  refine W.widen (k := mc) (n := ms) (by omega) (by omega) ?_
  refine pm_mono (fun t => pm_MQ.of) ?_
  exact W.lret hC.1 hC.2.1 (hC.2.2.2.1.trans hk) (fun t ht hW => ⟨rfl, by rw [ht]; exact hA.1, hA.2.F ht⟩) hA.2.2.2 h hlocks
theorem pm_aret {v : Value} {rt : FieldType} (h : decode k.2.1 pc = .ok (.areturn, 1)) (hk : k.2.2.2 = some rt) (hrt : (∃ n, rt = .object n) ∨ ∃ t, rt = .array t) (hv : v = .null ∨ ∃ q, v = .ref q) (ho : o = .returned (some v)) (hz : Z = (K, R, I, J)) : pmE g k d rc rs pc L [v] K R I J o Z := by
  intro p e Rm s m args below meth c H locs cells slots mc ms ls hC h1 h2 h3 h4 hl hA
  subst ho; subst hz
  have hlocks := hC.2.2.2.2.1
  refine W.widen (k := mc) (n := ms) (by omega) (by omega) ?_
  refine pm_mono (fun t => pm_MQ.of) ?_
  exact W.aret (v := pm_t g v) hC.1 hC.2.1 (hC.2.2.2.1.trans hk) hrt (by rcases hv with rfl | ⟨q, rfl⟩; exact Or.inl rfl; exact Or.inr ⟨_, rfl⟩) (fun t ht hW => ⟨rfl, by rw [ht]; exact hA.1, hA.2.F ht⟩) hA.2.2.2 h hlocks
theorem pm_lcmp {x y : Int64} (h : decode k.2.1 pc = .ok (.lcmp, 1)) (n : pmE g k d rc rs (pc + 1) L (.int (lg_cmp x y) :: S) K R I J o Z) : pmE g k d rc rs pc L (.long y :: .long x :: S) K R I J o Z := by
  intro p e Rm s m args below meth c H locs cells slots mc ms ls hC h1 h2 h3 h4 hl hA
  exact W.lcmp hC.1 hC.2.1 h (n p e Rm s m args below meth c H locs cells slots mc ms ls hC h1 h2 h3 h4 hl hA)
theorem pm_ldc {v : Int32} (h : decode k.2.1 pc = .ok (.ldc idx, 2)) (hc : Cond.constant k.1.cls idx v ∈ pm_TS) (n : pmE g k d rc rs (pc + 2) L (.int v :: S) K R I J o Z) : pmE g k d rc rs pc L S K R I J o Z := by
  intro p e Rm s m args below meth c H locs cells slots mc ms ls hC h1 h2 h3 h4 hl hA
  exact lv_ldc hC.1 hC.2.1 hC.2.2.2.2.2.2.1 (hC.2.2.2.2.2.2.2.1 _ hc) h (n p e Rm s m args below meth c H locs cells slots mc ms ls hC h1 h2 h3 h4 hl hA)
theorem pm_ldc2 {v : Int64} (h : decode k.2.1 pc = .ok (.ldc2_w idx, 3)) (hc : Cond.constantLong k.1.cls idx v ∈ pm_TS) (n : pmE g k d rc rs (pc + 3) L (.long v :: S) K R I J o Z) : pmE g k d rc rs pc L S K R I J o Z := by
  intro p e Rm s m args below meth c H locs cells slots mc ms ls hC h1 h2 h3 h4 hl hA
  exact lv_ldc2 hC.1 hC.2.1 hC.2.2.2.2.2.2.1 (hC.2.2.2.2.2.2.2.1 _ hc) h (n p e Rm s m args below meth c H locs cells slots mc ms ls hC h1 h2 h3 h4 hl hA)
theorem pm_objInit (h : decode k.2.1 pc = .ok (.invokespecial idx, 3)) (hlk : Cond.methodLink k.1.cls idx Lib.objectInit ∈ pm_TS) (hin : Cond.instanceMethod Lib.objectInit ∈ pm_TS) (hcd : Cond.code Lib.objectInit ⟨#[0xb1]⟩ 1 none ∈ pm_TS) (hS : (S.map fun v => v.category).sum ≤ 40) (n : pmE g k (d + 1) rc rs (pc + 3) L S K R I J o Z) : pmE g k (d + 1) rc rs pc L (.ref a :: S) K R I J o Z := by
  intro p e Rm s m args below meth c H locs cells slots mc ms ls hC h1 h2 h3 h4 hl hA
  obtain ⟨hx, hb, hml, -, -, -, hown, hts, -, hf, hlo, -⟩ := id hC
  have hcat : ((S.map (pm_t g)).map fun v => v.category) = S.map fun v => v.category := by
    rw [List.map_map]; exact List.map_congr_left (fun v _ => pm_tr_cat _ _ v)
  exact W.objInit hx hb hown (hts _ hlk) (hts _ hin) (hts _ hcd) rfl (by rw [hml]; exact hl.1) rfl h (by omega) (by show 2 * 0 + ((S.map (pm_t g)).map fun v => v.category).sum + 12 ≤ Rm.locals; rw [hcat]; omega) (n p e Rm s m args below meth c H locs cells slots mc ms ls hC h1 h2 h3 h4 hl hA)
/-- a new cell behind ours -/
theorem pm_H_push {H H1 : Heap} {kd : Nat × Nat} {R' : Nat → Nat → Value} {I' : Nat → Nat → Int32} {J' : Nat → Nat → Int64} (hA : pm_H g (K, R, I, J) H) (z : H1.size = H.size + 1) (oq : ∀ q : Nat, q < H.size → H1[q]? = H[q]?)
    (hat : va_at g.2.1 pm_cl (g.2.2.1 + K.length, pm_cell g pm_cl R' I' J' K.length kd) H1) (hoth : ∀ a' : Nat, a' ≠ K.length → R' a' = R a' ∧ I' a' = I a' ∧ J' a' = J a') : pm_H g (K ++ [kd], R', I', J') H1 := by
  have h0 : H.size = g.2.2.1 + K.length := hA.1
  refine ⟨by show H1.size = g.2.2.1 + (K ++ [kd]).length; rw [List.length_append, z, h0]; rfl, ?_⟩
  show va_P g.2.1 pm_cl (pm_wd g pm_cl (K ++ [kd]) R' I' J') H1
  rw [← pm_wd_push (R := R) (I := I) (J := J) (fun a' kd' h => pm_cell_eq (hoth a' h).1 (hoth a' h).2.1 (hoth a' h).2.2)]
  refine (hA.2.kept (fun i q hq => oq q.1 ((hA.2 i q hq).lt))).app (fun i q hq => ?_)
  have hz : i < 1 := (List.getElem?_eq_some_iff.mp hq).1
  rw [show i = 0 by omega] at hq
  cases hq
  exact hat
theorem pm_S_push {H0 H H1 : Heap} {locs : List Loc} (hS : va_S (pm_A g) H0 H locs) (z : H1.size = H.size + 1) (oq : ∀ q : Nat, q < H.size → H1[q]? = H[q]?) : va_S (pm_A g) H0 H1 locs :=
  ⟨by have := hS.1; omega, fun q q1 q2 => (oq q (Nat.lt_of_lt_of_le q1 hS.1)).trans (hS.2.1 q q1 q2), hS.2.2⟩
theorem pm_new {N : Nat} (h : decode k.2.1 pc = .ok (.new idx, 3)) (f : pm_Cn k.1.cls idx ci N) (n : pmE g k d rc rs (pc + 3) L (.ref K.length :: S) (K ++ [(0, ci)]) (pm_z R K.length .null) (pm_z I K.length 0) (pm_z J K.length 0) o Z) : pmE g k d (rc + 1) (rs + N) pc L S K R I J o Z := by
  intro p e Rm s m args below meth c H locs cells slots mc ms ls hC h1 h2 h3 h4 hl hA
  obtain ⟨C, T, ty0, hc, hin, hty, hdf, hlk, hins, hini⟩ := f
  obtain ⟨hx, hb, -, -, -, -, hown, hts, ⟨hK, -⟩, -⟩ := id hC
  have hKn := hK.1 ci _ hc
  have h0 : H.size = g.2.2.1 + K.length := hA.1.1
  refine W.newcK hx hb hown (hts _ hlk) (hts _ hins) (hts _ hini) rfl h (by omega) (by omega) hKn.2.1 h0 fun H1 kC hkC e1 z1 o1 => ?_
  have z : H1.size = H.size + 1 := by omega
  have oq : ∀ q : Nat, q < H.size → H1[q]? = H[q]? := fun q hq => o1 q (by omega)
  refine n p e Rm s m args below meth c H1 locs (cells + 1) (slots + N) mc ms ls hC h1 h2 (by omega) (by omega) hl ⟨pm_H_push hA.1 z oq ?_ (fun a' h' => ⟨pm_z_n R _ h', pm_z_n I _ h', pm_z_n J _ h'⟩), pm_S_push hA.2 z oq⟩
  rw [pm_cell_o rfl, show pm_cl.getD ci pm_c0 = (C, T, N) by rw [List.getD_eq_getElem?_getD, hc]; rfl]
  refine ⟨_, hc, (u_born ty0 hts hin hKn hkC e1 hty).to (fun i hi => ?_)⟩
  show defaultValue (ty0 i) = vp_V _ i
  unfold vp_V
  rw [List.getD_eq_getElem?_getD, List.getElem?_map, List.getElem?_range hi, hdf i hi]
  show _ = pm_fv g (C, T, N) _ _ _ i
  unfold pm_fv
  rw [pm_z_a, pm_z_a]
  cases pm_isR (T i).2.2.1 <;> rfl
theorem pm_newa {t N : Nat} {z0 : Int32} {at0 : ArrayType} {ty : FieldType} (h : decode k.2.1 pc = .ok (.newarray at0, 2)) (hty : newarray.typeOf at0 = ty) (ht : (t = 1 ∧ ty = .int) ∨ (t = 2 ∧ ty = .byte) ∨ (t = 3 ∧ ty = .boolean) ∨ (t = 4 ∧ ty = .long)) (harr : Cond.arrayClass ty ∈ pm_TS) (hn : ¬ z0 < 0) (hN : z0.toNatClampNeg = N) (hb8 : N * componentBytes ty ≤ 536870912)
    (n : pmE g k d rc rs (pc + 2) L (.ref K.length :: S) (K ++ [(t, N)]) (pm_z R K.length .null) (pm_z I K.length 0) (pm_z J K.length 0) o Z) : pmE g k d (rc + 1) (rs + N) pc L (.int z0 :: S) K R I J o Z := by
  intro p e Rm s m args below meth c H locs cells slots mc ms ls hC h1 h2 h3 h4 hl hA
  obtain ⟨hx, hb, -, -, -, -, hown, hts, ⟨hK, -⟩, -⟩ := id hC
  have h0 : H.size = g.2.2.1 + K.length := hA.1.1
  subst hty
  refine va_newaK (R := Rm) (cells := cells) (slots := slots) hx hb (hts _ harr) (g := F0 m pc ls ((.int z0 :: S).map (pm_t g))) rfl h rfl hn hN hb8 (by omega) (by omega) h0 fun H1 cA e1 z1 o1 hAr hNm => ?_
  have z : H1.size = H.size + 1 := by omega
  have oq : ∀ q : Nat, q < H.size → H1[q]? = H[q]? := fun q hq => o1 q (by omega)
  refine n p e Rm s m args below meth c H1 locs (cells + 1) (slots + N) mc ms ls hC h1 h2 (by omega) (by omega) hl ⟨pm_H_push hA.1 z oq ?_ (fun a' h' => ⟨pm_z_n R _ h', pm_z_n I _ h', pm_z_n J _ h'⟩), pm_S_push hA.2 z oq⟩
  have hcls : ∀ (i : Nat) (ty : FieldType), (pm_ty g)[i]? = some (g.2.2.2.2.1 t, ty) → newarray.typeOf at0 = ty → (∀ C, ty ≠ .object C) → cA = g.2.2.2.2.1 t := by
    intro i ty hi he hno
    have q := (hK.2 i _ hi).2
    rw [he] at hNm
    cases ty <;> first | exact Option.some.inj (hNm.symm.trans q) | exact absurd rfl (hno _)
  rcases ht with ⟨rfl, hT⟩ | ⟨rfl, hT⟩ | ⟨rfl, hT⟩ | ⟨rfl, hT⟩
  · have := hcls 0 .int rfl hT (fun C q => by cases q)
    subst this
    show H1[_]? = some (vp_cell _ (N, .inl (pm_z I K.length 0 K.length)))
    rw [e1, hT, pm_z_a, vp_cell_i]; rfl
  · have := hcls 1 .byte rfl hT (fun C q => by cases q)
    subst this
    show H1[_]? = some (vp_cell _ (N, .inl (pm_z I K.length 0 K.length)))
    rw [e1, hT, pm_z_a, vp_cell_i]; rfl
  · have := hcls 2 .boolean rfl hT (fun C q => by cases q)
    subst this
    show H1[_]? = some (vp_cell _ (N, .inl (pm_z I K.length 0 K.length)))
    rw [e1, hT, pm_z_a, vp_cell_i]; rfl
  · have := hcls 3 .long rfl hT (fun C q => by cases q)
    subst this
    show H1[_]? = some (vp_cell _ (N, .inr (.inl (pm_z J K.length 0 K.length))))
    rw [e1, hT, pm_z_a, vp_cell_l]; rfl
/-! arrays of references -/
theorem pm_qld {t n0 : Nat} (hk : K[a]? = some (t, n0)) (ht : t = 5 ∨ t = 6) : (pm_wd g pm_cl K R I J)[a]? = some (g.2.2.1 + a, .inl (g.2.2.2.2.1 t, n0, .inr (.inr (.inr (.inr (fun q => pm_ro g (R a q))))))) := by
  rw [pm_wd_at hk]
  rcases ht with rfl | rfl <;> rfl
theorem pm_ro_rf {g : pmG} {v : Value} (hv : v = .null ∨ ∃ q, v = .ref q) : va_rf (pm_ro g v) = pm_t g v := by
  rcases hv with rfl | ⟨q, rfl⟩ <;> rfl
theorem pm_aald {i : Int32} {t n0 : Nat} {v : Value} (h : decode k.2.1 pc = .ok (.aaload, 1)) (hk : K[a]? = some (t, n0)) (ht : t = 5 ∨ t = 6) (hin : vp_in i n0) (hv : R a i.toNatClampNeg = v) (hvr : v = .null ∨ ∃ q, v = .ref q) (n : pmE g k d rc rs (pc + 1) L (v :: S) K R I J o Z) : pmE g k d rc rs pc L (.int i :: .ref a :: S) K R I J o Z := by
  intro p e Rm s m args below meth c H locs cells slots mc ms ls hC h1 h2 h3 h4 hl hA
  have hlt : i.toNatClampNeg < n0 := Nat.not_le.mp fun q => hin (Or.inr q)
  have kk := n p e Rm s m args below meth c H locs cells slots mc ms ls hC h1 h2 h3 h4 hl hA
  have hcell := hA.1.2 a _ (pm_qld hk ht)
  have hval : (arrV (g.2.2.2.2.1 t) n0 (fun q => va_rf (pm_ro g (R a q)))).slots[i.toNatClampNeg]? = some (pm_t g v) := by
    rw [arrV_read _ _ hlt, hv, pm_ro_rf hvr]
  rcases ht with rfl | rfl
  · exact W.aald (v := pm_t g v) hC.1 hC.2.1 hcell ((hC.2.2.2.2.2.2.2.2.1.1.2 4 _ rfl).1 n0 (fun q => va_rf (pm_ro g (R a q)))) rfl (fun q => by cases q) (by show ¬ (i < 0 ∨ (arrV _ _ _).slots.size ≤ _); rw [arrV_size]; exact hin) hval rfl rfl h kk
  · exact W.aald (v := pm_t g v) hC.1 hC.2.1 hcell ((hC.2.2.2.2.2.2.2.2.1.1.2 5 _ rfl).1 n0 (fun q => va_rf (pm_ro g (R a q)))) rfl (fun q => by cases q) (by show ¬ (i < 0 ∨ (arrV _ _ _).slots.size ≤ _); rw [arrV_size]; exact hin) hval rfl rfl h kk
end PMR
