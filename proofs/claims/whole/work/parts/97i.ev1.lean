/-! VALUES: of names, in a state with inputs -/
theorem run_cg {e e' : Nat → BitVec 8} : ∀ (C : Cd) (s : List (BitVec 8)), (∀ k, (43, k) ∈ C → e k = e' k) → run e C s = run e' C s
  | [], _, _ => rfl
  | x :: C, s, h => by
    rw [run, run]
    have : st1 e x s = st1 e' x s := by
      unfold st1
      by_cases c : x.1 = 43
      · have : e x.2 = e' x.2 := h x.2 (by rw [← c]; exact List.mem_cons_self)
        rw [this]
      · rw [if_neg c, if_neg c]
    rw [this]
    exact run_cg C _ (fun k hk => h k (List.mem_cons_of_mem _ hk))
theorem XC_nm {ok : Nat → Prop} {h : Nat} {C : Cd} (x : XC ok h C) : ∀ k, (43, k) ∈ C → ok k := by
  have ap : ∀ {C D : Cd}, (∀ k, (43, k) ∈ C → ok k) → (∀ k, (43, k) ∈ D → ok k) → ∀ k, (43, k) ∈ C ++ D → ok k := fun h1 h2 k hk => by
    rcases List.mem_append.mp hk with q | q
    · exact h1 k q
    · exact h2 k q
  have on : ∀ {o : Nat}, o ≠ 43 → ∀ k, (43, k) ∈ [(o, 0)] → ok k := fun ho k hk => by
    have := List.mem_singleton.mp hk
    rw [Prod.mk.injEq] at this
    exact absurd this.1.symm ho
  refine x (fun _ C => ∀ k, (43, k) ∈ C → ok k) ⟨fun v _ k hk => ?_, fun j hj k hk => ?_, fun o h C ho hC => ap hC (on (by omega)), fun o h h' C D ho hC hD => ap hC (ap hD (on (by have := tyt_lt ho; omega))), fun h h' h'' C D E hC hD hE => ap hC (ap hD (ap hE (on (by decide))))⟩
  · have := List.mem_singleton.mp hk
    rw [Prod.mk.injEq] at this
    exact absurd this.1 (by decide)
  · have := List.mem_singleton.mp hk
    rw [Prod.mk.injEq] at this
    rw [this.2]; exact hj
theorem st_un (env : Nat → BitVec 8) {o : Nat} (ho : o = 49 ∨ o = 18 ∨ o = 19) (a : BitVec 8) : ∃ v, ∀ s, st1 env (o, 0) (a :: s) = v :: s := by
  rcases ho with rfl | rfl | rfl
  · exact ⟨_, fun s => rfl⟩
  · exact ⟨_, fun s => rfl⟩
  · exact ⟨_, fun s => rfl⟩
theorem XC_run {ok : Nat → Prop} {h : Nat} {C : Cd} (x : XC ok h C) : ∀ env : Nat → BitVec 8, ∃ v, ∀ s, run env C s = v :: s := by
  refine x (fun _ C => ∀ env : Nat → BitVec 8, ∃ v, ∀ s, run env C s = v :: s) ⟨fun v _ env => ⟨_, fun s => rfl⟩, fun k _ env => ⟨_, fun s => rfl⟩, fun o h C ho hC env => ?_, fun o h h' C D ho hC hD env => ?_, fun h h' h'' C D E hC hD hE env => ?_⟩
  · obtain ⟨v, hv⟩ := hC env
    obtain ⟨w, hw⟩ := st_un env ho v
    exact ⟨w, fun s => by rw [run_app, hv, run, run, hw]⟩
  · obtain ⟨v, hv⟩ := hC env
    obtain ⟨w, hw⟩ := hD env
    exact ⟨jo o v w, fun s => by rw [run_app, hv, run_app, hw, run, run, st_op env ho]⟩
  · obtain ⟨v, hv⟩ := hC env
    obtain ⟨w, hw⟩ := hD env
    obtain ⟨u, hu⟩ := hE env
    exact ⟨if v = 0#8 then u else w, fun s => by rw [run_app, hv, run_app, hw, run_app, hu]; rfl⟩
/-- the value of a reg or input -/
def fV (Nm : NmT) (rb ib st inn k : Nat) : Nat := if kd Nm k = 29 then st / 2 ^ (rb - (Nm.getD k (0, 0, 0, 0)).2.2.2) % 2 ^ (Nm.getD k (0, 0, 0, 0)).2.2.1 else if kd Nm k = 30 then inn / 2 ^ (ib - (Nm.getD k (0, 0, 0, 0)).2.2.2) % 2 ^ (Nm.getD k (0, 0, 0, 0)).2.2.1 else 0
def eU (env : Nat → BitVec 8) (x : Itm) : Nat → BitVec 8 := if x.1 = 31 then (fun j => if j = x.2.1 then (run env x.2.2 []).headD 0#8 else env j) else env
def eI (env : Nat → BitVec 8) : List Itm → Nat → BitVec 8
  | [] => env
  | x :: l => eI (eU env x) l
theorem eU_32 {env : Nat → BitVec 8} {x : Itm} (h : x.1 = 32) : eU env x = env := if_neg (by omega)
theorem eU_n {env : Nat → BitVec 8} {x : Itm} {j : Nat} (h : j ≠ x.2.1) : eU env x j = env j := by
  unfold eU
  by_cases c : x.1 = 31
  · rw [if_pos c]; exact if_neg h
  · rw [if_neg c]
theorem eI_lo {Nm : NmT} : ∀ (D : List Itm) (lo : Nat) (env : Nat → BitVec 8), dW Nm lo D → ∀ k, (k < lo ∨ kd Nm k ≠ 31) → eI env D k = env k
  | [], _, _, _, _, _ => rfl
  | x :: l, lo, env, h, k, hk => by
    obtain ⟨p, h1, h2, hq, h3, h4⟩ := h
    rw [eI]
    rcases h4 with ⟨a1, a2, a3, a4, a5⟩ | ⟨a1, a2, a3, a4⟩
    · rw [eI_lo l _ _ a5 k (by omega)]
      refine eU_n (fun q => ?_)
      rw [q, a2] at hk
      rcases hk with hk | hk
      · omega
      · exact hk a4
    · rw [eI_lo l _ _ a4 k (by omega), eU_32 a1]
theorem dI_nm {Nm : NmT} {p : Nat} {C : Cd} (h : dI Nm p C) : ∀ k, (43, k) ∈ C → k < p ∧ kd Nm k ≠ 33 := by
  obtain ⟨a, b, c⟩ := h
  exact XC_nm c
theorem dI_run {Nm : NmT} {p : Nat} {C : Cd} (h : dI Nm p C) : ∀ env : Nat → BitVec 8, ∃ v, ∀ s, run env C s = v :: s := by
  obtain ⟨a, b, c⟩ := h
  exact XC_run c
theorem eI_fix {Nm : NmT} : ∀ (D : List Itm) (lo : Nat) (env : Nat → BitVec 8), dW Nm lo D → ∀ x ∈ D, x.1 = 31 → ∀ s, run (eI env D) x.2.2 s = eI env D x.2.1 :: s
  | [], _, _, _, x, hx, _, _ => by cases hx
  | y :: l, lo, env, h, x, hx, h31, s => by
    obtain ⟨p, h1, h2, hq, h3, h4⟩ := h
    rw [eI]
    rcases List.mem_cons.mp hx with rfl | hx
    · rcases h4 with ⟨a1, a2, a3, a4, a5⟩ | ⟨a1, a2, a3, a4⟩
      · have lo' := eI_lo l _ (eU env x) a5
        have e1 : run (eI (eU env x) l) x.2.2 s = run env x.2.2 s := run_cg _ _ (fun k hk => by
          have := (dI_nm h3 k hk).1
          rw [lo' k (by omega)]
          exact eU_n (by omega))
        obtain ⟨v, hv⟩ := dI_run h3 env
        rw [e1, hv, lo' x.2.1 (by omega)]
        unfold eU
        rw [if_pos a1]
        show v :: s = (if x.2.1 = x.2.1 then (run env x.2.2 []).headD 0#8 else env x.2.1) :: s
        rw [if_pos rfl, hv]; rfl
      · omega
    · rcases h4 with ⟨a1, a2, a3, a4, a5⟩ | ⟨a1, a2, a3, a4⟩
      · exact eI_fix l _ _ a5 x hx h31 s
      · exact eI_fix l _ _ a4 x hx h31 s
/-- the values of all names -/
def En (Nm : NmT) (rb ib : Nat) (D : List Itm) (st inn : Nat) : Nat → BitVec 8 := eI (fun k => BitVec.ofNat 8 (fV Nm rb ib st inn k)) D
theorem En_f {Nm : NmT} {rb ib : Nat} {D : List Itm} (h : dW Nm 0 D) (st inn : Nat) {k : Nat} (hk : kd Nm k ≠ 31) : En Nm rb ib D st inn k = BitVec.ofNat 8 (fV Nm rb ib st inn k) := eI_lo D 0 _ h k (Or.inr hk)
theorem En_w {Nm : NmT} {rb ib : Nat} {D : List Itm} (h : dW Nm 0 D) (st inn : Nat) {k : Nat} {C : Cd} (hk : (31, k, C) ∈ D) (s : List (BitVec 8)) : run (En Nm rb ib D st inn) C s = En Nm rb ib D st inn k :: s := eI_fix D 0 _ h (31, k, C) hk rfl s
