/-! MODEL WORKS OUT 10: all formulas -/
/-- how many rows there are -/
def nnB (B : Nat → Value) : Nat → Nat
  | 0 => 0
  | k + 1 => nnB B k + (if isn (B k) = true then 0 else 1)
theorem nnB_le (B : Nat → Value) : ∀ k, nnB B k ≤ k
  | 0 => Nat.le_refl _
  | k + 1 => by
    have := nnB_le B k
    rw [nnB]
    by_cases c : isn (B k) = true
    · rw [if_pos c]; omega
    · rw [if_neg c]; omega
theorem nnB_u {B : Nat → Value} {f q : Nat} (hB : isn (B f) = true) : ∀ k, nnB (fun j => if j = f then Value.ref q else B j) k = nnB B k + (if f < k then 1 else 0)
  | 0 => by rw [nnB, nnB, if_neg (by omega)]
  | k + 1 => by
    rw [nnB, nnB, nnB_u hB k]
    have e1 : (if f < k + 1 then 1 else 0) = if f < k then 1 else if k = f then 1 else 0 := by split <;> split <;> (try split) <;> omega
    rw [e1]
    by_cases e : k = f
    · subst e
      rw [if_pos rfl, hB, if_pos rfl, if_neg (Nat.lt_irrefl k), if_neg (Nat.lt_irrefl k), if_pos rfl]
      rfl
    · rw [if_neg e, if_neg e]
      by_cases c : f < k
      · rw [if_pos c]; omega
      · rw [if_neg c]; omega
def bOK (B : Nat → Value) (E : List (Nat × Nat)) (I : Mm) : Prop := (∀ g, g < 4200 → B g = .null ∨ ∃ a, rv E (B g) a ∧ 356 ≤ a ∧ ∀ j, j < 256 → ∃ c, I a j = b2 c) ∧ ∀ g g' a, g < 4200 → g' < 4200 → B g = .ref a → B g' = .ref a → g = g'
theorem rv_app {E : List (Nat × Nat)} {v : Value} {a : Nat} (X : List (Nat × Nat)) (h : rv E v a) : rv (E ++ X) v a := ⟨h.1, by
  rw [← List.append_assoc, List.getElem?_append, if_pos (by obtain ⟨q, _⟩ := List.getElem?_eq_some_iff.mp h.2; exact q)]; exact h.2⟩
theorem rv_lt {E : List (Nat × Nat)} {v : Value} {a : Nat} (h : rv E v a) : a < (mk_K ++ E).length := by
  obtain ⟨q, _⟩ := List.getElem?_eq_some_iff.mp h.2; exact q
section
variable {Nm : NmT} {rb ib sp : Nat} {Hn : List Nat} {D : List Itm} {F : FT} {rt : Nat → Nat}
/-- what a formula's set is, by its entry -/
def smE (n m : Nat) (nx : Nat → Nat → Nat) (Ev_ : Nat → Nat → BitVec 8) (F : FT) (rt : Nat → Nat) (SM : Nat → Se) (g : Nat) : Prop := ∀ x, F[g]? = some x → (x.1 = 12 → SM g = tsF n m (fun c => [(run (Ev_ c) x.2.2.2 []).headD 0#8])) ∧ (x.1 = 13 → SM g = SM (rt x.2.1)) ∧ (∀ o, (x.1, o) ∈ op1 → SM g = opF n m nx o (SM x.2.1)) ∧ ∀ o, (x.1, o) ∈ op2 → SM g = op2F n m nx o (SM x.2.1) (SM x.2.2.1)
/-- what the table says, in the memory that the loop begins with -/
def fT (Nm : NmT) (rb ib sp : Nat) (Hn : List Nat) (D : List Itm) (F : FT) (rt : Nat → Nat) (Z : Mm) : Prop := mC Nm rb ib Hn D Z ∧ mA (2 ^ rb) (2 ^ ib) (aN Nm rb ib D) Z ∧ Z 40 38 = nI F.length ∧ F.length < 4200 ∧ Z 40 26 = nI sp ∧ sp ≤ 30 ∧ (∀ k, k < sp → Z 51 k = nI (rt k) ∧ rt k < F.length) ∧ ∀ g x, F[g]? = some x → (Z 57 g = nI x.1 ∧ Z 58 g = nI x.2.1 ∧ Z 59 g = nI x.2.2.1) ∧ (x.1 = 12 → (∃ lo, Ev Z 600 lo x.2.1 x.2.2.2) ∧ ∀ k, (43, k) ∈ x.2.2.2 → k < Nm.length ∧ kd Nm k ≠ 33) ∧ (x.1 = 13 → x.2.1 < sp ∧ rt x.2.1 < g) ∧ (∀ o, (x.1, o) ∈ op1 → x.2.1 < g) ∧ (∀ o, (x.1, o) ∈ op2 → x.2.1 < g ∧ x.2.2.1 < g) ∧ (x.1 = 12 ∨ x.1 = 13 ∨ (∃ o, (x.1, o) ∈ op1) ∨ ∃ o, (x.1, o) ∈ op2)
def zF (Z I : Mm) : Prop := ∀ a, a ≠ 60 → a ≠ 61 → a ≠ 62 → (a < 323 ∨ (352 < a ∧ a < 356)) → I a = Z a
def fL (rb ib sp : Nat) (Nm : NmT) (D : List Itm) (F : FT) (rt : Nat → Nat) (Z : Mm) (f : Nat) (I : Mm) (B : Nat → Value) (E : List (Nat × Nat)) (SM : Nat → Se) : Prop := zF Z I ∧ bOK B E I ∧ (∀ g, g < f → (∃ a, rv E (B g) a ∧ 356 ≤ a ∧ rw_ (2 ^ rb) I a (SM g)) ∧ smE (2 ^ rb) (2 ^ ib) (aN Nm rb ib D) (aE Nm rb ib D) F rt SM g) ∧ ∀ k, k < sp → rt k < f → rw_ (2 ^ rb) I (323 + k) (SM (rt k))
/-- the copies into the specs' sets -/
theorem mo_158 {n : Nat} {Z : Mm} {f at_ : Nat} {B : Nat → Value} {E : List (Nat × Nat)} {G : Se} (n256 : n ≤ 256) (hf : f < 4200) (hsp : sp ≤ 30) (hrt : ∀ k, k < sp → Z 51 k = nI (rt k) ∧ rt k < 4200) (ht : rv E (B f) at_) (hat : 356 ≤ at_) {q : Int32 → Mm → (Nat → Value) → List (Nat × Nat) → Prop} {r : Int32 → Mm → (Nat → Value) → List (Nat × Nat) → R3} (Q : R3 → Prop) (I0 : Mm) (nxt : ∀ I' : Mm, (∀ a, (a < 323 ∨ 352 < a) → I' a = I0 a) → (∀ k, k < sp → rt k = f → rw_ n I' (323 + k) G) → (∀ k, k < sp → rt k ≠ f → I' (323 + k) = I0 (323 + k)) → q (nI (f + 1)) I' B E ∧ Q (r (nI (f + 1)) I' B E)) : ∀ (d k : Nat) (I : Mm), k ≤ sp → sp - k < d → I 40 26 = nI sp → I 51 = Z 51 → rw_ n I at_ G → (∀ a, (a < 323 ∨ 352 < a) → I a = I0 a) → (∀ j, j < k → rt j = f → rw_ n I (323 + j) G) → (∀ j, (k ≤ j ∨ rt j ≠ f) → j < sp → I (323 + j) = I0 (323 + j)) → pMo_workOut_158 q d (nI f) (nI k) I B E ∧ Q (fMo_workOut_158 r d (nI f) (nI k) I B E) := by
  intro d
  induction d with
  | zero => intro k I _ h; omega
  | succ d ih =>
    intro k I hk hd h26 h51 hr hF hdone htodo
    rw [pMo_workOut_158.eq_2, fMo_workOut_158.eq_2, h26]
    by_cases c : sp ≤ k
    · have c' : nI sp ≤ nI k := nI_le c (by omega)
      have z := nxt I hF (fun j hj e => hdone j (by omega) e) (fun j hj e => htodo j (Or.inr e) hj)
      rw [if_pos c', nI_i1]
      exact ⟨⟨fun _ => z.1, fun w => absurd c' w⟩, z.2⟩
    · have c' : ¬ nI sp ≤ nI k := nI_ge (by omega) (by omega)
      have vk : vp_in (nI k) 30 := vp_in_nI (by omega) (by decide)
      obtain ⟨r1, r2⟩ := hrt k (by omega)
      have p1 := rv_p ht
      have p2 := (rv_pv ht).2
      have e256 : (256 : Int32).toNatClampNeg = 256 := by decide
      have e00 : (0 : Int32).toNatClampNeg = 0 := by decide
      rw [if_neg c', nI_clamp (n := k) (by omega), h51, r1]
      unfold pMo_workOut_196 fMo_workOut_196
      have ei1 : nI k + Int32.ofInt 1 = nI (k + 1) := nI_i1 k
      rw [ei1]
      by_cases e : rt k = f
      · have e1 : nI (rt k) = nI f := by rw [e]
        rw [if_pos e1, nI_clamp (n := f) (by omega), p2, e256, e00]
        rw [p2] at p1
        have bz : pm_bz I at_ 0 256 := fun i hi => by
          obtain ⟨cc, hc⟩ := hr.1 (0 + i) (by omega)
          rw [hc]
          cases cc <;> rfl
        have row : ∀ j, j < 256 → pm_cpz I at_ (323 + k) 0 0 256 (323 + k) j = I at_ j := fun j hj => by
          unfold pm_cpz
          rw [if_pos rfl, pk_cpy_in (by omega) (by omega), Nat.sub_zero, Nat.zero_add]
        have oth : ∀ a, a ≠ 323 + k → pm_cpz I at_ (323 + k) 0 0 256 a = I a := fun a ha => if_neg ha
        have z := ih (k + 1) (pm_cpz I at_ (323 + k) 0 0 256) (by omega) (by omega) (by rw [oth 40 (by omega)]; exact h26) (by rw [oth 51 (by omega)]; exact h51) (rw_c hr (oth at_ (by omega))) (fun a ha => by rw [oth a (by omega)]; exact hF a ha) (fun j hj ej => by
          by_cases ejk : j = k
          · subst ejk
            exact ⟨fun t ht2 => by rw [row t ht2]; exact hr.1 t ht2, fun t ht2 => by
              rw [row t (by omega)]; exact hr.2 t ht2⟩
          · exact rw_c (hdone j (by omega) ej) (oth _ (by omega))) (fun j hj hj2 => by
          rw [oth (323 + j) (by
            rcases hj with hj | hj
            · omega
            · intro w
              have : j = k := by omega
              rw [this] at hj
              exact hj e)]
          exact htodo j (by omega) hj2)
        exact ⟨⟨fun w => absurd w c', fun _ => ⟨vk, fun _ => ⟨⟨vp_in_nI hf (by decide), (rv_pv ht).1⟩, vk, ⟨p1.1, p1.2, bz⟩, z.1⟩, fun w => absurd e1 w⟩⟩, z.2⟩
      · have e1 : ¬ nI (rt k) = nI f := fun w => e ((nI_eq (by omega) (by omega)).mp w)
        rw [if_neg e1]
        have z := ih (k + 1) I (by omega) (by omega) h26 h51 hr hF (fun j hj ej => by
          by_cases ejk : j = k
          · rw [ejk] at ej; exact absurd ej e
          · exact hdone j (by omega) ej) (fun j hj hj2 => by
          by_cases ejk : j = k
          · exact htodo j (Or.inl (by omega)) hj2
          · exact htodo j (by omega) hj2)
        exact ⟨⟨fun w => absurd w c', fun _ => ⟨vk, fun w => absurd w e1, fun _ => z.1⟩⟩, z.2⟩
theorem op1_u {h o o' : Nat} (a : (h, o) ∈ op1) (b : (h, o') ∈ op1) : o = o' := by
  unfold op1 at a b
  simp only [List.mem_cons, Prod.mk.injEq, List.not_mem_nil, or_false] at a b
  omega
theorem op2_u {h o o' : Nat} (a : (h, o) ∈ op2) (b : (h, o') ∈ op2) : o = o' := by
  unfold op2 at a b
  simp only [List.mem_cons, Prod.mk.injEq, List.not_mem_nil, or_false] at a b
  omega
theorem op_12 {h o o' : Nat} (a : (h, o) ∈ op1) (b : (h, o') ∈ op2) : False := by
  unfold op1 at a
  unfold op2 at b
  simp only [List.mem_cons, Prod.mk.injEq, List.not_mem_nil, or_false] at a b
  omega
theorem op_1k {h o : Nat} (a : (h, o) ∈ op1) (b : h = 12 ∨ h = 13) : False := by
  unfold op1 at a
  simp only [List.mem_cons, Prod.mk.injEq, List.not_mem_nil, or_false] at a
  omega
theorem op_2k {h o : Nat} (a : (h, o) ∈ op2) (b : h = 12 ∨ h = 13) : False := by
  unfold op2 at a
  simp only [List.mem_cons, Prod.mk.injEq, List.not_mem_nil, or_false] at a
  omega
/-- judge, for any entry -/
theorem mo_jd {Z I : Mm} {B : Nat → Value} {E : List (Nat × Nat)} {SM : Nat → Se} {f at_ : Nat} {x : Nat × Nat × Nat × Cd} (hT : fT Nm rb ib sp Hn D F rt Z) (hx : F[f]? = some x) (hf : f < F.length) (hL : fL rb ib sp Nm D F rt Z f I B E SM) (ht : rv E (B f) at_) (hat : 356 ≤ at_) : ∃ G : Se, (pMo_judge 257 (nI f) I B E ∧ ∃ I', fMo_judge 257 (nI f) I B E = I' ∧ jR (2 ^ rb) at_ I I' G) ∧ (x.1 = 12 → G = tsF (2 ^ rb) (2 ^ ib) (fun c => [(run (aE Nm rb ib D c) x.2.2.2 []).headD 0#8])) ∧ (x.1 = 13 → G = SM (rt x.2.1)) ∧ (∀ o, (x.1, o) ∈ op1 → G = opF (2 ^ rb) (2 ^ ib) (aN Nm rb ib D) o (SM x.2.1)) ∧ ∀ o, (x.1, o) ∈ op2 → G = op2F (2 ^ rb) (2 ^ ib) (aN Nm rb ib D) o (SM x.2.1) (SM x.2.2.1) := by
  obtain ⟨t1, t2, t3, t4, t5, t6, t7, t8⟩ := hT
  obtain ⟨l1, l2, l3, l4⟩ := hL
  obtain ⟨⟨e1, e2, e3⟩, k12, k13, ko1, ko2, kk⟩ := t8 f x hx
  have hC : mC Nm rb ib Hn D I := mC_x t1 (fun a h1 h2 => l1 a (by omega) (by omega) (by omega) (by omega)) (fun j _ _ => by rw [l1 40 (by decide) (by decide) (by decide) (by decide)])
  have hA : mA (2 ^ rb) (2 ^ ib) (aN Nm rb ib D) I := mA_c t2 (l1 40 (by decide) (by decide) (by decide) (by decide)) (fun a h1 h2 => l1 a (by omega) (by omega) (by omega) (by omega))
  have f57 : I 57 f = nI x.1 := by rw [l1 57 (by decide) (by decide) (by decide) (by decide)]; exact e1
  have f58 : I 58 f = nI x.2.1 := by rw [l1 58 (by decide) (by decide) (by decide) (by decide)]; exact e2
  have f59 : I 59 f = nI x.2.2.1 := by rw [l1 59 (by decide) (by decide) (by decide) (by decide)]; exact e3
  have hb : ∀ j, j < 256 → ∃ c, I at_ j = b2 c := by
    rcases l2.1 f (by omega) with q | ⟨a, q1, q2, q3⟩
    · rw [ht.1] at q; cases q
    · have : a = at_ := by have := q1.1; rw [ht.1] at this; injection this with this; exact this.symm
      rw [← this]; exact q3
  have hne : ∀ g a, g < f → rv E (B g) a → a ≠ at_ := fun g a hg ha e => by
    have := l2.2 g f a (by omega) (by omega) ha.1 (by rw [ht.1, e])
    omega
  rcases kk with q | q | ⟨o, q⟩ | ⟨o, q⟩
  · obtain ⟨⟨lo, hE⟩, hN⟩ := k12 q
    rw [q] at f57
    refine ⟨_, m_12 hC hA (by omega) f57 f58 (Ev_c hE (mX_ag (fun a h1 h2 => l1 a (by omega) (by omega) (by omega) (by omega)) lo _) (Nat.le_refl _) (Nat.le_refl _)) hN ht hat hb, fun _ => rfl, fun w => by omega, fun o w => (op_1k w (Or.inl q)).elim, fun o w => (op_2k w (Or.inl q)).elim⟩
  · obtain ⟨h1, h2⟩ := k13 q
    rw [q] at f57
    exact ⟨_, m_13 hA (by omega) f57 f58 (by omega) ht hat hb (l4 _ h1 h2), fun w => by omega, fun _ => rfl, fun o w => (op_1k w (Or.inr q)).elim, fun o w => (op_2k w (Or.inr q)).elim⟩
  · have h1 := ko1 o q
    obtain ⟨⟨a, a1, a2, a3⟩, _⟩ := l3 _ h1
    exact ⟨_, m_op1 hA (by omega) f57 f58 (by omega) q ht hat hb a1 a2 (hne _ _ h1 a1) a3, fun w => (op_1k q (Or.inl w)).elim, fun w => (op_1k q (Or.inr w)).elim, fun o' w => by rw [op1_u w q], fun o' w => (op_12 q w).elim⟩
  · obtain ⟨h1, h2⟩ := ko2 o q
    obtain ⟨⟨a, a1, a2, a3⟩, _⟩ := l3 _ h1
    obtain ⟨⟨b, b1, b2, b3⟩, _⟩ := l3 _ h2
    exact ⟨_, m_op2 hA (by omega) f57 f58 f59 (by omega) (by omega) q ht hat hb a1 a2 (hne _ _ h1 a1) a3 b1 b2 (hne _ _ h2 b1) b3, fun w => (op_2k q (Or.inl w)).elim, fun w => (op_2k q (Or.inr w)).elim, fun o' w => (op_12 w q).elim, fun o' w => by rw [op2_u w q]⟩
theorem isn_pv {v : Value} (h : isn v = true) : pv v := by
  cases v <;> first | exact Or.inl rfl | (exact absurd h (by decide)) | cases h
/-- one formula, its row made -/
theorem mo_151 {Z I : Mm} {B : Nat → Value} {E : List (Nat × Nat)} {SM : Nat → Se} {f at_ : Nat} (hT : fT Nm rb ib sp Hn D F rt Z) (hf : f < F.length) (hL : fL rb ib sp Nm D F rt Z f I B E SM) (ht : rv E (B f) at_) (hat : 356 ≤ at_) {q : Int32 → Mm → (Nat → Value) → List (Nat × Nat) → Prop} {r : Int32 → Mm → (Nat → Value) → List (Nat × Nat) → R3} (Q : R3 → Prop) (nxt : ∀ (I' : Mm) (SM' : Nat → Se), fL rb ib sp Nm D F rt Z (f + 1) I' B E SM' → q (nI (f + 1)) I' B E ∧ Q (r (nI (f + 1)) I' B E)) : pMo_workOut_151 q 4201 (nI f) I B E ∧ Q (fMo_workOut_151 r 4201 (nI f) I B E) := by
  obtain ⟨x, hx⟩ : ∃ x, F[f]? = some x := ⟨_, List.getElem?_eq_getElem hf⟩
  obtain ⟨G, ⟨j1, I1, j2, j3, j4⟩, g12, g13, go1, go2⟩ := mo_jd hT hx hf hL ht hat
  obtain ⟨t1, t2, t3, t4, t5, t6, t7, t8⟩ := hT
  obtain ⟨l1, l2, l3, l4⟩ := hL
  have n256 := t2.2.2.1
  obtain ⟨SM', sF_, sN_⟩ : ∃ SM' : Nat → Se, SM' f = G ∧ ∀ g, g ≠ f → SM' g = SM g := ⟨fun g => if g = f then G else SM g, if_pos rfl, fun g hg => if_neg hg⟩
  have i40 : I1 40 = Z 40 := (j4 40 (by decide) (by decide) (by decide) (by omega)).trans (l1 40 (by decide) (by decide) (by decide) (by decide))
  have i51 : I1 51 = Z 51 := (j4 51 (by decide) (by decide) (by decide) (by omega)).trans (l1 51 (by decide) (by decide) (by decide) (by decide))
  have z := mo_158 (rt := rt) (n := 2 ^ rb) (Z := Z) (f := f) (G := G) n256 (by omega) t6 (fun k hk => ⟨(t7 k hk).1, by have := (t7 k hk).2; omega⟩) ht hat (q := q) (r := r) Q I1 (fun I' w1 w2 w3 => nxt I' SM' (by
    have hne : ∀ g a, g < f → rv E (B g) a → a ≠ at_ := fun g a hg ha e => by
      have := l2.2 g f a (by omega) (by omega) ha.1 (by rw [ht.1, e])
      omega
    refine ⟨fun a h1 h2 h3 h4 => ?_, ⟨fun g hg => ?_, l2.2⟩, fun g hg => ?_, fun k hk hr => ?_⟩
    · rw [w1 a (by omega), j4 a h1 h2 h3 (by omega)]; exact l1 a h1 h2 h3 h4
    · rcases l2.1 g hg with v | ⟨a, a1, a2, a3⟩
      · exact Or.inl v
      · refine Or.inr ⟨a, a1, a2, ?_⟩
        rw [w1 a (by omega)]
        by_cases e : a = at_
        · rw [e]; exact j3.1
        · rw [j4 a (by omega) (by omega) (by omega) e]; exact a3
    · by_cases e : g = f
      · subst e
        refine ⟨⟨at_, ht, hat, by rw [sF_]; exact rw_c j3 (w1 at_ (by omega))⟩, fun y hy => ?_⟩
        have : y = x := by rw [hx] at hy; injection hy with hy; exact hy.symm
        subst this
        obtain ⟨_, k12, k13, ko1, ko2, kk⟩ := t8 g y hx
        refine ⟨fun w => ?_, fun w => ?_, fun o w => ?_, fun o w => ?_⟩
        · rw [sF_]; exact g12 w
        · rw [sF_, sN_ _ (by have := (k13 w).2; omega)]; exact g13 w
        · rw [sF_, sN_ _ (by have := ko1 o w; omega)]; exact go1 o w
        · rw [sF_, sN_ _ (by have := (ko2 o w).1; omega), sN_ _ (by have := (ko2 o w).2; omega)]; exact go2 o w
      · have hg' : g < f := by omega
        obtain ⟨⟨a, a1, a2, a3⟩, sm⟩ := l3 g hg'
        refine ⟨⟨a, a1, a2, ?_⟩, fun y hy => ?_⟩
        · rw [sN_ _ e]; exact rw_c a3 ((w1 a (by omega)).trans (j4 a (by omega) (by omega) (by omega) (hne g a hg' a1)))
        · obtain ⟨_, k12, k13, ko1, ko2, kk⟩ := t8 g y hy
          obtain ⟨s12, s13, so1, so2⟩ := sm y hy
          refine ⟨fun w => ?_, fun w => ?_, fun o w => ?_, fun o w => ?_⟩
          · rw [sN_ _ e]; exact s12 w
          · rw [sN_ _ e, sN_ _ (by have := (k13 w).2; omega)]; exact s13 w
          · rw [sN_ _ e, sN_ _ (by have := ko1 o w; omega)]; exact so1 o w
          · rw [sN_ _ e, sN_ _ (by have := (ko2 o w).1; omega), sN_ _ (by have := (ko2 o w).2; omega)]; exact so2 o w
    · by_cases e : rt k = f
      · rw [e, sF_]; exact w2 k hk e
      · rw [sN_ _ e]; exact rw_c (l4 k hk (by omega)) ((w3 k hk e).trans (j4 (323 + k) (by omega) (by omega) (by omega) (by omega))))) 4201 0 I1 (Nat.zero_le _) (by omega) (by rw [i40]; exact t5) i51 j3 (fun _ _ => rfl) (fun j hj => absurd hj (Nat.not_lt_zero _)) (fun _ _ _ => rfl)
  have z1 : pMo_workOut_158 q 4201 (nI f) 0 I1 B E := z.1
  have z2 : Q (fMo_workOut_158 r 4201 (nI f) 0 I1 B E) := z.2
  unfold pMo_workOut_151 fMo_workOut_151 pMo_workOut_156 fMo_workOut_156
  rw [j2]
  exact ⟨⟨j1, z1⟩, z2⟩
/-- all formulas -/
theorem mo_123 {Z : Mm} (hT : fT Nm rb ib sp Hn D F rt Z) : ∀ (d f : Nat) (I : Mm) (B : Nat → Value) (E : List (Nat × Nat)) (SM : Nat → Se), f ≤ F.length → F.length - f < d → fL rb ib sp Nm D F rt Z f I B E SM → pMo_workOut_123 4201 d (nI f) I B E ∧ ∃ I' B' X SM', fMo_workOut_123 4201 d (nI f) I B E = (I', B', E ++ X) ∧ fL rb ib sp Nm D F rt Z F.length I' B' (E ++ X) SM' ∧ (∀ x ∈ X, x = (3, 256)) ∧ X.length + nnB B 4200 = nnB B' 4200 := by
  have t4 := hT.2.2.2.1
  have t3 := hT.2.2.1
  intro d
  induction d with
  | zero => intro f I B E SM _ h; omega
  | succ d ih =>
    intro f I B E SM hf hd hL
    have l1 := hL.1
    have i38 : I 40 38 = nI F.length := by rw [l1 40 (by decide) (by decide) (by decide) (by decide)]; exact t3
    rw [pMo_workOut_123.eq_2, fMo_workOut_123.eq_2, i38]
    by_cases c : F.length ≤ f
    · have c' : nI F.length ≤ nI f := nI_le c (by omega)
      have e : f = F.length := by omega
      rw [if_pos c']
      exact ⟨⟨fun _ => trivial, fun w => absurd c' w⟩, I, B, [], SM, by rw [List.append_nil], by rw [List.append_nil, ← e]; exact hL, fun x hx => absurd hx List.not_mem_nil, Nat.zero_add _⟩
    · have c' : ¬ nI F.length ≤ nI f := nI_ge (by omega) (by omega)
      have vf : vp_in (nI f) 4200 := vp_in_nI (by omega) (by decide)
      have cl : (nI f).toNatClampNeg = f := nI_clamp (by omega)
      rw [if_neg c', cl]
      by_cases hn : isn (B f) = true
      · rw [if_pos hn]
        have hq : 356 ≤ (mk_K ++ E).length := mk_len E
        have L2 : fL rb ib sp Nm D F rt Z f (pm_z I (mk_K ++ E).length 0) (fun j => if j = f then Value.ref (mk_K ++ E).length else B j) (E ++ [(3, 256)]) SM := by
          obtain ⟨l1, l2, l3, l4⟩ := hL
          have fresh : ∀ g a, g < 4200 → B g = .ref a → a < (mk_K ++ E).length := fun g a hg e => by
            rcases l2.1 g hg with v | ⟨a', a1, a2, a3⟩
            · rw [v] at e; cases e
            · have := a1.1; rw [e] at this; injection this with this; rw [this]; exact rv_lt a1
          refine ⟨fun a h1 h2 h3 h4 => by rw [pm_z_n _ _ (by omega)]; exact l1 a h1 h2 h3 h4, ⟨fun g hg => ?_, fun g g' a hg hg' e e' => ?_⟩, fun g hg => ?_, fun k hk hr => ?_⟩
          · by_cases e : g = f
            · refine Or.inr ⟨_, ⟨if_pos e, ?_⟩, by omega, fun j _ => ⟨false, by rw [pm_z_a]; rfl⟩⟩
              rw [← List.append_assoc, List.getElem?_append, if_neg (by omega), Nat.sub_self]; rfl
            · show (if g = f then Value.ref (mk_K ++ E).length else B g) = .null ∨ _
              rw [if_neg e]
              rcases l2.1 g hg with v | ⟨a, a1, a2, a3⟩
              · exact Or.inl v
              · refine Or.inr ⟨a, rv_app _ (show rv E (if g = f then Value.ref (mk_K ++ E).length else B g) a by rw [if_neg e]; exact a1), a2, fun j hj => ?_⟩
                rw [pm_z_n _ _ (by have := rv_lt a1; omega)]; exact a3 j hj
          · have e1 : (if g = f then Value.ref (mk_K ++ E).length else B g) = .ref a := e
            have e2 : (if g' = f then Value.ref (mk_K ++ E).length else B g') = .ref a := e'
            by_cases c1 : g = f
            · by_cases c2 : g' = f
              · rw [c1, c2]
              · rw [if_pos c1] at e1; rw [if_neg c2] at e2
                injection e1 with e1
                have := fresh g' a hg' e2
                exact absurd this (by rw [e1]; exact Nat.lt_irrefl a)
            · by_cases c2 : g' = f
              · rw [if_neg c1] at e1; rw [if_pos c2] at e2
                injection e2 with e2
                have := fresh g a hg e1
                exact absurd this (by rw [e2]; exact Nat.lt_irrefl a)
              · rw [if_neg c1] at e1; rw [if_neg c2] at e2
                exact l2.2 g g' a hg hg' e1 e2
          · obtain ⟨⟨a, a1, a2, a3⟩, sm⟩ := l3 g hg
            refine ⟨⟨a, ?_, a2, rw_c a3 (pm_z_n _ _ (by have := rv_lt a1; omega))⟩, sm⟩
            show rv _ (if g = f then Value.ref (mk_K ++ E).length else B g) a
            rw [if_neg (by omega)]
            exact rv_app _ a1
          · exact rw_c (l4 k hk hr) (pm_z_n _ _ (by have := hT.2.2.2.2.2.1; omega))
        have bf : (fun j => if j = f then Value.ref (mk_K ++ E).length else B j) f = .ref (mk_K ++ E).length := if_pos rfl
        have z := mo_151 hT (by omega) L2 (at_ := (mk_K ++ E).length) ⟨bf, by rw [← List.append_assoc, List.getElem?_append, if_neg (by omega), Nat.sub_self]; rfl⟩ (by omega) (q := pMo_workOut_123 4201 d) (r := fMo_workOut_123 4201 d) (fun Y => ∃ I' B' X SM', Y = (I', B', (E ++ [(3, 256)]) ++ X) ∧ fL rb ib sp Nm D F rt Z F.length I' B' ((E ++ [(3, 256)]) ++ X) SM' ∧ (∀ x ∈ X, x = (3, 256)) ∧ X.length + nnB (fun j => if j = f then Value.ref (mk_K ++ E).length else B j) 4200 = nnB B' 4200) (fun I' SM' hL' => ih (f + 1) I' _ _ SM' (by omega) (by omega) hL')
        obtain ⟨z1, I', B', X, SM', y1, y2, y3, y4⟩ := z
        rw [nnB_u hn, if_pos (by omega)] at y4
        refine ⟨⟨fun w => absurd w c', fun _ => ⟨⟨vf, isn_pv hn⟩, isn_pv hn, fun _ => ⟨vf, ?_, z1⟩, fun w => absurd hn w⟩⟩, I', B', (3, 256) :: X, SM', ?_, ?_, ?_, ?_⟩
        · rw [y1]
          show _ ≤ ((E ++ [(3, 256)]) ++ X).length
          rw [List.length_append (bs := X)]
          omega
        · rw [y1, List.append_assoc]; rfl
        · rw [List.append_assoc] at y2; exact y2
        · intro x hx
          rcases List.mem_cons.mp hx with hx | hx
          · exact hx
          · exact y3 x hx
        · rw [List.length_cons]; omega
      · rw [if_neg hn]
        obtain ⟨a, a1, a2, a3⟩ : ∃ a, rv E (B f) a ∧ 356 ≤ a ∧ ∀ j, j < 256 → ∃ c, I a j = b2 c := by
          rcases hL.2.1.1 f (by omega) with v | v
          · rw [v] at hn; exact absurd rfl hn
          · exact v
        have z := mo_151 hT (by omega) hL a1 a2 (q := pMo_workOut_123 4201 d) (r := fMo_workOut_123 4201 d) (fun Y => ∃ I' B' X SM', Y = (I', B', E ++ X) ∧ fL rb ib sp Nm D F rt Z F.length I' B' (E ++ X) SM' ∧ (∀ x ∈ X, x = (3, 256)) ∧ X.length + nnB B 4200 = nnB B' 4200) (fun I' SM' hL' => ih (f + 1) I' _ _ SM' (by omega) (by omega) hL')
        exact ⟨⟨fun w => absurd w c', fun _ => ⟨⟨vf, (rv_pv a1).1⟩, (rv_pv a1).1, fun w => absurd w hn, fun _ => z.1⟩⟩, z.2⟩
end
