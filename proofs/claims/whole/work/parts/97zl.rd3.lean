/-! READ 3: both sides read -/
theorem runF_cg {n m : Nat} {nx : Nat → Nat → Nat} {E : Nat → Nat → BitVec 8} {SS SS' : Nat → Se} : ∀ (C : Cd) (v : Nat → List (BitVec 8)) (s : List Se), (∀ k, (52, k) ∈ C → SS k = SS' k) → runF n m nx E SS C v s = runF n m nx E SS' C v s
  | [], _, _, _ => rfl
  | x :: C, v, s, h => by
    have ih := fun v s => runF_cg (n := n) (m := m) (nx := nx) (E := E) C v s (fun k hk => h k (List.mem_cons_of_mem _ hk))
    have e : sF n m nx SS x s = sF n m nx SS' x s := by
      unfold sF
      by_cases c : x.1 = 52
      · have : SS x.2 = SS' x.2 := h x.2 (by rw [← c]; exact List.mem_cons_self)
        rw [this]
      · rw [if_neg c, if_neg c]
    rw [runF, runF, e, ih, ih, ih]
theorem GC_52 {okE okS : Nat → Prop} {h : Nat} {C : Cd} (x : GC okE okS h C) : ∀ k, (52, k) ∈ C → okS k := by
  have ap : ∀ {C D : Cd}, (∀ k, (52, k) ∈ C → okS k) → (∀ k, (52, k) ∈ D → okS k) → ∀ k, (52, k) ∈ C ++ D → okS k := fun h1 h2 k hk => by
    rcases List.mem_append.mp hk with q | q
    · exact h1 k q
    · exact h2 k q
  have on : ∀ {o : Nat}, o ≠ 52 → ∀ k, (52, k) ∈ [(o, 0)] → okS k := fun ho k hk => by
    have := List.mem_singleton.mp hk
    rw [Prod.mk.injEq] at this
    exact absurd this.1.symm ho
  refine x (fun _ C => ∀ k, (52, k) ∈ C → okS k) ⟨fun h C hx _ => ap (fun k hk => ?_) (on (by decide)), fun k hk j hj => ?_, fun o h C ho hC => ap hC (on (by omega)), fun o h h' C D ho hC hD => ap hC (ap hD (on (by omega)))⟩
  · have := XC_v hx _ hk
    dsimp only at this
    omega
  · have := List.mem_singleton.mp hj
    rw [Prod.mk.injEq] at this
    rw [this.2]; exact hk
/-- the specs' sets are one -/
theorem SS_u {Nm : NmT} {n m : Nat} {nx : Nat → Nat → Nat} {E : Nat → Nat → BitVec 8} {SS SS' : Nat → Se} {SP : List Cd} (hG : ∀ g C, SP[g]? = some C → gS Nm g C) (h : ∀ g C, SP[g]? = some C → ∀ v ss, runF n m nx E SS C v ss = (v, SS g :: ss)) (h' : ∀ g C, SP[g]? = some C → ∀ v ss, runF n m nx E SS' C v ss = (v, SS' g :: ss)) : ∀ k g, g < k → g < SP.length → SS g = SS' g := by
  intro k
  induction k with
  | zero => intro g hg; omega
  | succ k ih =>
    intro g hg hl
    obtain ⟨C, hC⟩ : ∃ C, SP[g]? = some C := ⟨_, List.getElem?_eq_getElem hl⟩
    obtain ⟨hh, _, hx⟩ := hG g C hC
    have e := runF_cg (n := n) (m := m) (nx := nx) (E := E) (SS := SS) (SS' := SS') C (fun _ => []) [] (fun j hj => by
      have : j < g := GC_52 hx j hj
      exact ih j (by omega) (by omega))
    rw [h g C hC, h' g C hC] at e
    have := (Prod.mk.inj e).2
    exact (List.cons.inj this).1
/-- the class holds a circuit, just read -/
def CH (co : Nat) (Nm : NmT) (rb ib sp fi : Nat) (D : List Itm) (SS : Nat → Se) (e w : Nat) (I : Mm) (J : Ml) : Prop := cC Nm rb ib I ∧ CW Nm rb ib fi sp (aN Nm rb ib D) (aE Nm rb ib D) SS I J ∧ I 1 1 = 0 ∧ I 13 9 = nI e ∧ I 13 10 = nI w ∧ I 3 6 = nI sp ∧ I 3 9 = nI co ∧ I 3 10 = nI fi ∧ I 0 7 = nI fi ∧ I 37 2 = 0 ∧ I 37 3 = 0
def cOut (co : Nat) (Nm : NmT) (rb ib sp fi : Nat) (D : List Itm) (SS : Nat → Se) (e w : Nat) (I : Mm) (R : Int32 × Mm × Ml × Value) : Prop := CH co Nm rb ib sp fi D SS e w R.2.1 R.2.2.1 ∧ (∀ a, 40 ≤ a → R.2.1 a = I a) ∧ R.1 = if e = 0 then nI sp else -1
theorem c_24 {co : Nat} {Nm : NmT} {rb ib fi sp e w : Nat} {D : List Itm} {SP : List Cd} {SS : Nat → Se} {X : Mm} (J : Ml) (c : Value) (hC : cC Nm rb ib X) (hfi : fi < 2 ^ rb) (h6 : X 3 6 = nI sp) (h9 : X 3 9 = nI co) (h10 : X 3 10 = nI fi) (he : X 13 9 = nI e) (e9 : e < 9) (hw : X 13 10 = nI w) (hD : dW Nm 0 D) (h7 : X 7 2 = nI (flI D).length) (hc7 : cod X 7 (flI D)) (hl7 : (flI D).length ≤ 4000) (h102 : X 10 2 = nI (flS SP 0).length) (hc10 : cod X 10 (flS SP 0)) (hl10 : (flS SP 0).length ≤ 4000) (hsp : SP.length = sp) (h30 : sp ≤ 30) (hG : ∀ g C, SP[g]? = some C → gS Nm g C) (hSS : ∀ k s, SS k s = true → s < 2 ^ rb) (hrun : ∀ g C, SP[g]? = some C → ∀ v ss, runF (2 ^ rb) (2 ^ ib) (aN Nm rb ib D) (aE Nm rb ib D) SS C v ss = (v, SS g :: ss)) : pCh_read_24 X J c ∧ cOut co Nm rb ib sp fi D SS e w X (fCh_read_24 X J c) := by
  have o : ∀ a, a ≠ 1 → pm_u X 1 1 0 a = X a := fun a ha => pm_u_n _ _ _ ha
  obtain ⟨z1, z2, z3, z4, z5, z6⟩ := cw_out (I := pm_u X 1 1 0) J (cC_c hC (o 3 (by decide)) (o 4 (by decide)) (o 5 (by decide)) (o 6 (by decide))) hfi (by rw [o 3 (by decide)]; exact h10) hD (by rw [o 7 (by decide)]; exact h7) (cod_c (o 8 (by decide)) (o 9 (by decide)) hc7) hl7 (by rw [o 10 (by decide)]; exact h102) (cod_c (o 11 (by decide)) (o 12 (by decide)) hc10) hl10 hsp h30 hG hSS hrun
  unfold pCh_read_24 fCh_read_24 pCh_read_36 fCh_read_36
  generalize (fCh_workOut (pm_u X 1 1 0) J).1 = Y at z2 z3 z4 z5 z6
  generalize (fCh_workOut (pm_u X 1 1 0) J).2 = V at z3
  have y : ∀ a, (a = 3 ∨ a = 4 ∨ a = 5 ∨ a = 6 ∨ a = 13 ∨ 40 ≤ a) → Y a = X a := fun a ha => by
    rw [z2.1 a (by omega) (by omega) (by omega) (by omega) (by omega) (by omega) (by omega) (by omega) (by omega) (by omega) (by omega) (by omega) (by omega) (by omega) (by omega)]
    exact o a (by omega)
  have y1 : Y 1 1 = 0 := by
    rw [z2.1 1 (by decide) (by decide) (by decide) (by decide) (by decide) (by decide) (by decide) (by decide) (by decide) (by decide) (by decide) (by decide) (by decide) (by decide) (by decide), pm_u_s]
  have hCH : CH co Nm rb ib sp fi D SS e w Y V := ⟨cC_c hC (y 3 (by decide)) (y 4 (by decide)) (y 5 (by decide)) (y 6 (by decide)), z3, y1, by rw [y 13 (by decide)]; exact he, by rw [y 13 (by decide)]; exact hw, by rw [y 3 (by decide)]; exact h6, by rw [y 3 (by decide)]; exact h9, by rw [y 3 (by decide)]; exact h10, z4, z5, z6⟩
  by_cases c0 : e = 0
  · have k : Y 13 9 = 0 := by rw [hCH.2.2.2.1, c0]; rfl
    rw [if_pos k]
    exact ⟨⟨z1, fun _ => trivial, fun w => absurd k w⟩, hCH, fun a ha => y a (by omega), by rw [if_pos c0]; exact hCH.2.2.2.2.2.1⟩
  · have k : ¬ Y 13 9 = 0 := by
      rw [hCH.2.2.2.1]
      intro q
      exact c0 ((nI_eq (a := e) (b := 0) (by omega) (by decide)).mp q)
    rw [if_neg k]
    exact ⟨⟨z1, fun w => absurd w k, fun _ => trivial⟩, hCH, fun a ha => y a (by omega), by rw [if_neg c0]⟩
section
variable {b : Nat → Nat} {L n : Nat}
theorem c_rdA {I : Mm} {J : Ml} {SS : Nat → Se} (hA : cBy I b L) (hE : bE (tB b L) n) (c : Value) {i co rb ib sp fi : Nat} {Nm : NmT} {CL CF : Cd} {Hn : List Nat} {D : List Itm} {SP : List Cd} (hr : (sp_lines (tB b L) 4002 l0).1 = 0 ∧ (sp_lines (tB b L) 4002 l0).2.2 = (i, co, Nm, CL, CF, Hn, rb, ib, sp, fi)) (hW : lW n (i, co, Nm, CL, CF, Hn, rb, ib, sp, fi)) (hDD : CL = flI D ∧ lDD Nm Hn D) (hSP : CF = flS SP 0 ∧ SP.length = sp ∧ ∀ g C, SP[g]? = some C → gS Nm g C) (hSS : ∀ k s, SS k s = true → s < 2 ^ rb) (hrun : ∀ g C, SP[g]? = some C → ∀ v ss, runF (2 ^ rb) (2 ^ ib) (aN Nm rb ib D) (aE Nm rb ib D) SS C v ss = (v, SS g :: ss)) : pCh_read I J c ∧ cOut co Nm rb ib sp fi D SS 0 0 I (fCh_read I J c) := by
  obtain ⟨t1, A, ⟨t2, _⟩, t3, t4⟩ := c_readTape (J := J) hA hE c
  obtain ⟨u1, u2, u3⟩ := t2 hr.1
  rw [hr.2] at u1 u2
  unfold pCh_read fCh_read
  generalize (fRd_readTape 4002 I J c).1 = X at u1
  generalize (fRd_readTape 4002 I J c).2 = c'
  obtain ⟨v0, v1, v2, v3, v4, v5, v6, v7, v8, v9, v10, v11, v12, v13, v14, v15, v16, v17⟩ := u1
  obtain ⟨w1, w2, w3, w4, w5, w6, w7, w8, w9, w10, w11⟩ := hW
  have lok := u2.2.2.2.1
  have n4 := hE.2.1
  have ii := u2.1
  rw [hDD.1] at v14 v15 lok
  rw [hSP.1] at v16 v17 lok
  have hC : cC Nm rb ib X := ⟨v6, w1, v8, v9, w4, w5, w7, w8, w3, fun k hk => by
    obtain ⟨x, hx⟩ : ∃ x, Nm[k]? = some x := ⟨_, List.getElem?_eq_getElem hk⟩
    obtain ⟨_, x1, x2, x3⟩ := v12 k x hx
    unfold kd wd pt
    rw [getD_some hx]
    exact ⟨x1, x2, x3⟩⟩
  have z := c_24 (e := 0) (w := 0) J c' hC w10 v7 v10 v11 v4 (by decide) v5 hDD.2.1 v14 v15 (by omega) v16 v17 (by omega) hSP.2.1 w9 hSP.2.2 hSS hrun
  unfold pCh_read_7 fCh_read_7
  rw [if_pos v4]
  refine ⟨⟨t1, fun _ => z.1, fun q => absurd v4 q⟩, z.2.1, fun a ha => ?_, z.2.2.2⟩
  rw [z.2.2.1 a ha, v0 a (by omega), t4 a (by omega)]
theorem c_rdF {I : Mm} {J : Ml} {SS : Nat → Se} (hA : cBy I b L) (hE : bE (tB b L) n) (c : Value) (hr : (sp_lines (tB b L) 4002 l0).1 ≠ 0) (hSS : ∀ k s, SS k s = true → s < 2 ^ 0) : pCh_read I J c ∧ cOut 0 [] 0 0 0 0 [] SS (sp_lines (tB b L) 4002 l0).1 (tF b L (sp_lines (tB b L) 4002 l0).2.1) I (fCh_read I J c) := by
  obtain ⟨t1, A, ⟨_, t2⟩, t3, t4⟩ := c_readTape (J := J) hA hE c
  obtain ⟨u1, u2, u3, u4, _, u5⟩ := t2 hr
  rw [t3 _ (ln_w hE 4002 l0 (lW_0 hE) (by have := hE.2.1; omega) hr)] at u4
  generalize (sp_lines (tB b L) 4002 l0).1 = e at *
  generalize tF b L (sp_lines (tB b L) 4002 l0).2.1 = w at *
  unfold pCh_read fCh_read
  generalize (fRd_readTape 4002 I J c).1 = X at u1 u4 u5
  generalize (fRd_readTape 4002 I J c).2 = c'
  have k : ¬ X 13 9 = 0 := by
    rw [u1]
    intro q
    exact hr ((nI_eq (a := e) (b := 0) (by omega) (by decide)).mp q)
  have ya : ∀ a, a ≠ 3 → a ≠ 7 → a ≠ 10 → fCi_clear X J a = X a := fun a h1 h2 h3 => by
    unfold fCi_clear
    rw [pm_u_n _ _ _ h3, pm_u_n _ _ _ h2, pm_u_n _ _ _ h1, pm_u_n _ _ _ h1, pm_u_n _ _ _ h1, pm_u_n _ _ _ h1, pm_u_n _ _ _ h1, pm_u_n _ _ _ h1]
  have y5 : fCi_clear X J 3 5 = 0 := by simp [fCi_clear, pm_u_n, pm_u_j, pm_u_s]
  have y6 : fCi_clear X J 3 6 = 0 := by simp [fCi_clear, pm_u_n, pm_u_j, pm_u_s]
  have y7 : fCi_clear X J 3 7 = 0 := by simp [fCi_clear, pm_u_n, pm_u_j, pm_u_s]
  have y8 : fCi_clear X J 3 8 = 0 := by simp [fCi_clear, pm_u_n, pm_u_j, pm_u_s]
  have y9 : fCi_clear X J 3 9 = 0 := by simp [fCi_clear, pm_u_n, pm_u_j, pm_u_s]
  have y10 : fCi_clear X J 3 10 = 0 := by simp [fCi_clear, pm_u_n, pm_u_j, pm_u_s]
  have y72 : fCi_clear X J 7 2 = 0 := by simp [fCi_clear, pm_u_n, pm_u_j, pm_u_s]
  have y102 : fCi_clear X J 10 2 = 0 := by simp [fCi_clear, pm_u_n, pm_u_j, pm_u_s]
  have r13 := ya 13 (by decide) (by decide) (by decide)
  have no : ∀ (k : Nat) (x : Nat × Nat × Nat × Nat), ([] : NmT)[k]? ≠ some x := fun k x hx => by rw [List.getElem?_nil] at hx; cases hx
  have hC : cC [] 0 0 (fCi_clear X J) := ⟨y5, Nat.zero_le _, y7, y8, rfl, rfl, Nat.zero_le _, Nat.zero_le _, fun k x hx => absurd hx (no k x), fun k hk => absurd hk (Nat.not_lt_zero _)⟩
  have z := c_24 (co := 0) (e := e) (w := w) (fi := 0) (sp := 0) (D := []) (SP := []) (SS := SS) J c' hC Nat.one_pos y6 y9 y10 (by rw [r13]; exact u1) u3 (by rw [r13]; exact u4) (fun k _ hk => absurd hk (Nat.not_lt_zero _)) y72 (fun j x hx => by rw [show flI [] = [] from rfl, List.getElem?_nil] at hx; cases hx) (Nat.zero_le _) y102 (fun j x hx => by rw [show flS [] 0 = [] from rfl, List.getElem?_nil] at hx; cases hx) (Nat.zero_le _) rfl (Nat.zero_le _) (fun g C hg => by rw [List.getElem?_nil] at hg; cases hg) hSS (fun g C hg => by rw [List.getElem?_nil] at hg; cases hg)
  unfold pCh_read_7 fCh_read_7
  rw [if_neg k]
  refine ⟨⟨t1, fun q => absurd q k, fun _ => ⟨trivial, z.1⟩⟩, z.2.1, fun a ha => ?_, z.2.2.2⟩
  rw [z.2.2.1 a ha, ya a (by omega) (by omega) (by omega), u5 a (by omega), t4 a (by omega)]
end
/-- between two calls -/
def Iw (co : Nat) (Nm : NmT) (rb ib sp fi : Nat) (Hn : List Nat) (D : List Itm) (SS : Nat → Se) (st e w : Nat) (I : Mm) (J : Ml) (B : Nat → Value) (E : List (Nat × Nat)) : Prop := (sp = cnt 33 Nm ∧ sp ≤ 30 ∧ fi < 2 ^ rb ∧ st < 2 ^ rb ∧ ∀ k s, SS k s = true → s < 2 ^ rb) ∧ (cC Nm rb ib I ∧ CW Nm rb ib fi sp (aN Nm rb ib D) (aE Nm rb ib D) SS I J ∧ I 13 9 = nI e ∧ I 13 10 = nI w ∧ I 3 6 = nI sp ∧ I 3 9 = nI co ∧ I 3 10 = nI fi ∧ I 0 7 = nI st) ∧ (MW Nm rb ib sp Hn D SS I B E ∧ I 40 3 = nI e ∧ I 40 4 = nI w ∧ I 40 11 = nI co ∧ I 40 16 = nI Nm.length ∧ I 40 26 = nI sp ∧ I 40 46 = nI st ∧ I 40 47 = nI fi)
/-- the trace -/
def It (I : Mm) : Prop := (I 37 2 = 0 ∧ I 37 3 = 0 ∧ I 40 51 = 0 ∧ I 40 52 = 0) ∨ ∃ tl, tl < 256 ∧ I 37 2 = nI tl ∧ I 40 51 = nI tl ∧ I 37 3 = 1 ∧ I 40 52 = 1 ∧ (∀ j, j ≤ tl → I 38 j = I 354 j) ∧ ∀ j, j < tl → I 39 j = I 355 j
/-- the tape -/
def Ita (I : Mm) : Prop := ∃ b L, cBy I b L ∧ mBt I b L
def Iv (I : Mm) (J : Ml) (B : Nat → Value) (E : List (Nat × Nat)) : Prop := (∃ co Nm rb ib sp fi Hn D SS st e w, Iw co Nm rb ib sp fi Hn D SS st e w I J B E) ∧ It I ∧ Ita I
theorem CW_c {Nm : NmT} {rb ib fi sp : Nat} {nx : Nat → Nat → Nat} {E : Nat → Nat → BitVec 8} {SS : Nat → Se} {I I' : Mm} {J J' : Ml} (h : CW Nm rb ib fi sp nx E SS I J) (e3 : I' 3 = I 3) (e25 : I' 25 = I 25) (e26 : I' 26 = I 26) (e29 : I' 29 = I 29) (e30 : I' 30 = I 30) (e31 : I' 31 = I 31) (e32 : I' 32 = I 32) (j23 : J' 23 = J 23) (j34 : J' 34 = J 34) : CW Nm rb ib fi sp nx E SS I' J' := by
  obtain ⟨h1, ⟨O, q, d, h2, h3, h4⟩, h5, h6⟩ := h
  refine ⟨cN_c h1 e3 e25 e26, ⟨O, q, d, h2, ?_, h4⟩, fun k hk h33 c hc => ?_, fun k hk s hs => ?_⟩
  · unfold bR at h3 ⊢
    rw [e25, e29, e30, e31, e32]; exact h3
  · unfold lv; rw [j23]; exact h5 k hk h33 c hc
  · unfold sB; rw [j34]; exact h6 k hk s hs
