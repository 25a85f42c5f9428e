/-! MODEL WORKS OUT 6: fixed ends -/
def vX (p c : Bool) : Bool := if p = true then !c else c
def rX (p : Bool) (x : Se) : Se := fun t => vX p (x t)
theorem vX_i {p c d : Bool} : vX p c = vX p d ↔ c = d := by cases p <;> cases c <;> cases d <;> decide
theorem rw_u {n : Nat} {I : Mm} {a : Nat} {g : Se} {s : Nat} (h : rw_ n I a g) (c : Bool) : rw_ n (pm_u I a s (b2 c)) a (upb g s c) := by
  refine ⟨fun j hj => ?_, fun t ht => ?_⟩
  · by_cases e : j = s
    · rw [e, pm_u_s]; exact ⟨c, rfl⟩
    · rw [pm_u_j _ _ _ e]; exact h.1 j hj
  · unfold upb
    by_cases e : t = s
    · rw [e, pm_u_s, if_pos rfl]
    · rw [pm_u_j _ _ _ e, if_neg e]; exact h.2 t ht
theorem rw_c {n : Nat} {I I' : Mm} {a : Nat} {g : Se} (h : rw_ n I a g) (e : I' a = I a) : rw_ n I' a g := by
  unfold rw_ at h ⊢
  rw [e]; exact h
theorem rw_g {n : Nat} {I : Mm} {a : Nat} {g g' : Se} (h : rw_ n I a g) (e : ∀ s, s < n → g s = g' s) : rw_ n I a g' := ⟨h.1, fun s hs => by rw [← e s hs]; exact h.2 s hs⟩
theorem rX_u (p : Bool) (x : Se) (s : Nat) (c : Bool) : upb (rX p x) s (vX p c) = rX p (upb x s c) := by
  funext t
  unfold rX upb
  by_cases e : t = s
  · rw [if_pos e, if_pos e]
  · rw [if_neg e, if_neg e]
section
variable {n m : Nat} {nx : Nat → Nat → Nat} {B : Nat → Value} {E : List (Nat × Nat)} {al pol : Bool} {way goal : Se} {f at_ : Nat} {vt va vb : Value} {JF : Mm → Prop}
/-- what a step of fixed does -/
def FX (n m : Nat) (nx : Nat → Nat → Nat) (B : Nat → Value) (E : List (Nat × Nat)) (al pol : Bool) (way goal : Se) (f at_ : Nat) (vt va vb : Value) (JF : Mm → Prop) : Prop := ∀ (q3 : Q3) (r3 : F3) (k s : Nat) (y5 : Int32) (Q : Mm → Prop) (x : Se) (I : Mm), JF I → rw_ n I at_ (rX pol x) → s < n → (∀ c : Bool, (c = true ↔ psi m nx al way goal x s) → pMo_fixed_245 q3 (pMo_fixed_14 q3 k) (nI f) vt va vb y5 (nI s) (b2 (vX pol c)) I B E ∧ Q (fMo_fixed_245 r3 (fMo_fixed_14 r3 k) (nI f) vt va vb y5 (nI s) (b2 (vX pol c)) I B E)) → pMo_fixed_14 q3 (k + 1) (nI f) vt va vb y5 (nI s) I B E ∧ Q (fMo_fixed_14 r3 (k + 1) (nI f) vt va vb y5 (nI s) I B E)
theorem fx_245 {q3 : Q3} {r3 : F3} {k s : Nat} {Q : Mm → Prop} {I : Mm} (ht : rv E vt at_) (hb : pv vb) (hn : n ≤ 256) (hs : s < n) (more new old : Bool) (ho : I at_ s = b2 old) (nxt : pMo_fixed_14 q3 k (nI f) vt va vb (b2 (more || decide (new ≠ old))) (nI (s + 1)) (pm_u I at_ s (b2 new)) B E ∧ Q (fMo_fixed_14 r3 k (nI f) vt va vb (b2 (more || decide (new ≠ old))) (nI (s + 1)) (pm_u I at_ s (b2 new)) B E)) : pMo_fixed_245 q3 (pMo_fixed_14 q3 k) (nI f) vt va vb (b2 more) (nI s) (b2 new) I B E ∧ Q (fMo_fixed_245 r3 (fMo_fixed_14 r3 k) (nI f) vt va vb (b2 more) (nI s) (b2 new) I B E) := by
  have vs : vp_in (nI s) 256 := vp_in_nI (by omega) (by decide)
  have p1 := rv_p ht
  have p2 := (rv_pv ht).2
  have fin : ∀ z : Bool, z = (more || decide (new ≠ old)) → pMo_fixed_264 q3 (pMo_fixed_14 q3 k) (nI f) vt va vb (b2 more) (nI s) (b2 new) (b2 z) I B E ∧ Q (fMo_fixed_264 r3 (fMo_fixed_14 r3 k) (nI f) vt va vb (b2 more) (nI s) (b2 new) (b2 z) I B E) := by
    intro z hz
    unfold pMo_fixed_264 fMo_fixed_264
    rw [nI_clamp (by omega), p2, nar_b, nI_i1, hz]
    rw [p2] at p1
    exact ⟨⟨hb, (rv_pv ht).1, ⟨p1.1, p1.2, vs⟩, nxt.1⟩, nxt.2⟩
  unfold pMo_fixed_245 fMo_fixed_245 pMo_fixed_259 fMo_fixed_259
  rw [nI_clamp (by omega), p2, ho]
  rw [p2] at p1
  cases hm : more with
  | true =>
    have e : ¬ b2 true = 0 := by decide
    have z := fin true (by rw [hm]; rfl)
    rw [hm] at z
    rw [if_neg e]
    exact ⟨⟨fun q => absurd q e, fun _ => z.1⟩, z.2⟩
  | false =>
    have e : b2 false = 0 := rfl
    rw [if_pos e]
    by_cases c : new = old
    · have e2 : b2 new = b2 old := by rw [c]
      have z := fin false (by rw [hm, c]; simp)
      rw [hm] at z
      rw [if_pos e2]
      exact ⟨⟨fun _ => ⟨(rv_pv ht).1, ⟨p1.1, p1.2, vs⟩, fun _ => z.1, fun q => absurd e2 q⟩, fun q => absurd e q⟩, z.2⟩
    · have e2 : ¬ b2 new = b2 old := fun q => c (b2_i.mp q)
      have z := fin true (by rw [hm]; simp [c])
      rw [hm] at z
      rw [if_neg e2]
      exact ⟨⟨fun _ => ⟨(rv_pv ht).1, ⟨p1.1, p1.2, vs⟩, fun q => absurd q e2, fun _ => z.1⟩, fun q => absurd e q⟩, z.2⟩
theorem fx_14 {q3 : Q3} {r3 : F3} (hn : n ≤ 256) (hnx : ∀ s i, s < n → i < m → nx s i < n) (hall : ∀ I, JF I → fMo_all I = nI n) (hJ : ∀ I s v, JF I → JF (pm_u I at_ s v)) (ht : rv E vt at_) (hb : pv vb) (hst : FX n m nx B E al pol way goal f at_ vt va vb JF) (x0 : Se) (I0 : Mm) (Q : Mm → Prop) (nxt : ∀ (I' : Mm) (x' : Se) (more : Bool), JF I' → rw_ n I' at_ (rX pol x') → itI n m nx al way goal x' → (∀ a, a ≠ at_ → I' a = I0 a) → (more = false → ∀ t, t < n → psi m nx al way goal x' t → x' t = true) → (more = true → cBn x0 n < cBn x' n) → q3 (nI f) vt va vb (b2 more) I' B E ∧ Q (r3 (nI f) vt va vb (b2 more) I' B E)) : ∀ (k s : Nat) (x : Se) (I : Mm) (more : Bool), s ≤ n → n - s < k → JF I → rw_ n I at_ (rX pol x) → itI n m nx al way goal x → (∀ a, a ≠ at_ → I a = I0 a) → (∀ t, t < n → x0 t = true → x t = true) → (more = false → ∀ t, t < s → psi m nx al way goal x t → x t = true) → (more = true → cBn x0 n < cBn x n) → pMo_fixed_14 q3 k (nI f) vt va vb (b2 more) (nI s) I B E ∧ Q (fMo_fixed_14 r3 k (nI f) vt va vb (b2 more) (nI s) I B E) := by
  intro k
  induction k with
  | zero => intro s x I more _ h; omega
  | succ k ih =>
    intro s x I more hs hk hI hr hi hF h0 hf ht'
    by_cases c : n ≤ s
    · have c' : nI n ≤ nI s := nI_le c (by omega)
      have z := nxt I x more hI hr hi hF (fun e t h => hf e t (by omega)) ht'
      rw [pMo_fixed_14.eq_2, fMo_fixed_14.eq_2, hall I hI, if_pos c']
      exact ⟨⟨trivial, fun _ => z.1, fun q => absurd c' q⟩, z.2⟩
    · refine hst q3 r3 k s (b2 more) Q x I hI hr (by omega) (fun cn hc => ?_)
      have st := it_s hnx hi (show s < n by omega) hc
      refine fx_245 ht hb hn (by omega) more (vX pol cn) (vX pol (x s)) (hr.2 s (by omega)) (ih (s + 1) (upb x s cn) _ _ (by omega) (by omega) (hJ I s _ hI) (by rw [← rX_u]; exact rw_u hr _) st.1 (fun a ha => by rw [pm_u_n _ _ _ ha]; exact hF a ha) (fun t ht2 q => st.2 t ht2 (h0 t ht2 q)) (fun e t ht2 p => ?_) (fun e => ?_))
      · rw [Bool.or_eq_false_iff, decide_eq_false_iff_not] at e
        have e2 : cn = x s := by
          by_cases w : cn = x s
          · exact w
          · exact absurd (fun q => w (vX_i.mp q)) e.2
        have eu : upb x s cn = x := by
          funext t
          unfold upb
          by_cases w : t = s
          · rw [if_pos w, w, e2]
          · rw [if_neg w]
        rw [eu] at p ⊢
        by_cases w : t = s
        · rw [w] at p ⊢
          rw [← e2]; exact hc.mpr p
        · exact hf e.1 t (by omega) p
      · rw [Bool.or_eq_true, decide_eq_true_iff] at e
        by_cases w : cn = x s
        · rcases e with e | e
          · have eu : upb x s cn = x := by
              funext t
              unfold upb
              by_cases w2 : t = s
              · rw [if_pos w2, w2, w]
              · rw [if_neg w2]
            rw [eu]; exact ht' e
          · exact absurd (by rw [w]) e
        · have xs : x s = false := by
            cases hx : x s with
            | false => rfl
            | true =>
              have : cn = true := hc.mpr (hi.1 s (by omega) hx)
              exact absurd (this.trans hx.symm) w
          have cs : upb x s cn s = true := by
            unfold upb
            rw [if_pos rfl]
            cases hcn : cn with
            | true => rfl
            | false => exact absurd (hcn.trans xs.symm) w
          have l1 := cBn_lt n s st.2 (by omega) xs cs
          have l2 := cBn_mo n h0
          omega
theorem fx_3 (hn : n ≤ 256) (hnx : ∀ s i, s < n → i < m → nx s i < n) (hall : ∀ I, JF I → fMo_all I = nI n) (hJ : ∀ I s v, JF I → JF (pm_u I at_ s v)) (ht : rv E vt at_) (hb : pv vb) (hst : FX n m nx B E al pol way goal f at_ vt va vb JF) (I0 : Mm) : ∀ (k : Nat) (x : Se) (I : Mm) (more : Bool), JF I → rw_ n I at_ (rX pol x) → itI n m nx al way goal x → (∀ a, a ≠ at_ → I a = I0 a) → (more = false → ∀ t, t < n → psi m nx al way goal x t → x t = true) → (more = true → n - cBn x n + 2 ≤ k) → 1 ≤ k → pMo_fixed_3 66000 k (nI f) vt va vb (b2 more) I B E ∧ ∃ I', fMo_fixed_3 66000 k (nI f) vt va vb (b2 more) I B E = I' ∧ JF I' ∧ rw_ n I' at_ (rX pol (unt n m nx al way goal)) ∧ ∀ a, a ≠ at_ → I' a = I0 a := by
  intro k
  induction k with
  | zero => intro x I more _ _ _ _ _ _ h; omega
  | succ k ih =>
    intro x I more hI hr hi hF hf hk _
    rw [pMo_fixed_3.eq_2, fMo_fixed_3.eq_2]
    cases hm : more with
    | false =>
      have e : b2 false = 0 := rfl
      rw [if_pos e]
      refine ⟨⟨fun _ => trivial, fun q => absurd e q⟩, I, rfl, hI, rw_g hr (fun s hs => ?_), hF⟩
      unfold rX
      rw [it_e hnx hi (hf hm) s hs]
    | true =>
      have e : ¬ b2 true = 0 := by decide
      rw [if_neg e]
      have cl := cBn_le x n
      have z := fx_14 (q3 := pMo_fixed_3 66000 k) (r3 := fMo_fixed_3 66000 k) hn hnx hall hJ ht hb hst x I0 (fun X => ∃ I', X = I' ∧ JF I' ∧ rw_ n I' at_ (rX pol (unt n m nx al way goal)) ∧ ∀ a, a ≠ at_ → I' a = I0 a) (fun I' x' more' g1 g2 g3 g4 g5 g6 => ih x' I' more' g1 g2 g3 g4 g5 (fun q => by have := g6 q; have := hk hm; have := cBn_le x' n; omega) (by have := hk hm; omega)) 66000 0 x I false (Nat.zero_le _) (by omega) hI hr hi hF (fun _ _ q => q) (fun _ t h => absurd h (Nat.not_lt_zero _)) (fun q => by cases q)
      have z1 : pMo_fixed_14 (pMo_fixed_3 66000 k) 66000 (nI f) vt va vb 0 0 I B E := z.1
      have z2 : ∃ I', fMo_fixed_14 (fMo_fixed_3 66000 k) 66000 (nI f) vt va vb 0 0 I B E = I' ∧ JF I' ∧ rw_ n I' at_ (rX pol (unt n m nx al way goal)) ∧ ∀ a, a ≠ at_ → I' a = I0 a := z.2
      exact ⟨⟨fun q => absurd q e, fun _ => ⟨hb, z1⟩⟩, z2⟩
theorem fx_all (hn : n ≤ 256) (hnx : ∀ s i, s < n → i < m → nx s i < n) (hall : ∀ I, JF I → fMo_all I = nI n) (hJ : ∀ I s v, JF I → JF (pm_u I at_ s v)) (ht : rv E vt at_) (ha : pv va) (hb : pv vb) (hst : FX n m nx B E al pol way goal f at_ vt va vb JF) {I : Mm} (hI : JF I) (hr : rw_ n I at_ (rX pol (fun _ => false))) : pMo_fixed 66000 66000 (nI f) vt va vb I B E ∧ ∃ I', fMo_fixed 66000 66000 (nI f) vt va vb I B E = I' ∧ JF I' ∧ rw_ n I' at_ (rX pol (unt n m nx al way goal)) ∧ ∀ a, a ≠ at_ → I' a = I a := by
  have z := fx_3 hn hnx hall hJ ht hb hst I 66000 (fun _ => false) I true hI hr ⟨fun s _ q => (by cases q), fun s _ q => (by cases q)⟩ (fun _ _ => rfl) (fun q => by cases q) (fun _ => by omega) (by decide)
  have z1 : pMo_fixed_3 66000 66000 (nI f) vt va vb 1 I B E := z.1
  have z2 : ∃ I', fMo_fixed_3 66000 66000 (nI f) vt va vb 1 I B E = I' ∧ JF I' ∧ rw_ n I' at_ (rX pol (unt n m nx al way goal)) ∧ ∀ a, a ≠ at_ → I' a = I a := z.2
  exact ⟨⟨⟨(rv_pv ht).1, ha, hb⟩, hb, z1⟩, z2⟩
end
