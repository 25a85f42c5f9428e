/-! FORMULAS: sets of states, a machine for their codes -/
abbrev Se := Nat → Bool
def preA (m : Nat) (nx : Nat → Nat → Nat) (f : Se) (s : Nat) : Prop := ∀ i, i < m → f (nx s i) = true
def preE (m : Nat) (nx : Nat → Nat → Nat) (f : Se) (s : Nat) : Prop := ∃ i, i < m ∧ f (nx s i) = true
def pre (m : Nat) (nx : Nat → Nat → Nat) (a : Bool) (f : Se) (s : Nat) : Prop := (a = true → preA m nx f s) ∧ (a = false → preE m nx f s)
def clo (n m : Nat) (nx : Nat → Nat → Nat) (a : Bool) (way goal h : Se) : Prop := ∀ s, s < n → (goal s = true ∨ (way s = true ∧ pre m nx a h s)) → h s = true
noncomputable def unt (n m : Nat) (nx : Nat → Nat → Nat) (a : Bool) (way goal : Se) : Se := fun s => @decide (s < n ∧ ∀ h, clo n m nx a way goal h → h s = true) (Classical.propDecidable _)
theorem unt_i {n m : Nat} {nx : Nat → Nat → Nat} {a : Bool} {way goal : Se} {s : Nat} : unt n m nx a way goal s = true ↔ s < n ∧ ∀ h, clo n m nx a way goal h → h s = true := by
  unfold unt; exact @decide_eq_true_iff _ (Classical.propDecidable _)
theorem pre_m {m : Nat} {nx : Nat → Nat → Nat} {a : Bool} {f g : Se} {s : Nat} (h : ∀ i, i < m → f (nx s i) = true → g (nx s i) = true) (x : pre m nx a f s) : pre m nx a g s := ⟨fun ha i hi => h i hi (x.1 ha i hi), fun ha => by
  obtain ⟨i, h1, h2⟩ := x.2 ha
  exact ⟨i, h1, h i h1 h2⟩⟩
theorem unt_clo (n m : Nat) (nx : Nat → Nat → Nat) (a : Bool) (way goal : Se) : clo n m nx a way goal (unt n m nx a way goal) := by
  intro s hs h
  rw [unt_i]
  refine ⟨hs, fun k hk => hk s hs ?_⟩
  rcases h with h | ⟨h1, h2⟩
  · exact Or.inl h
  · exact Or.inr ⟨h1, pre_m (fun i _ q => (unt_i.mp q).2 k hk) h2⟩
theorem se_ext {f g : Se} (h : ∀ s, f s = true ↔ g s = true) : f = g := funext fun s => by
  have := h s
  cases hf : f s <;> cases hg : g s <;> simp [hf, hg] at this ⊢
theorem unt_u {n m : Nat} {nx : Nat → Nat → Nat} {a : Bool} {way goal g : Se} (hs : ∀ s, g s = true → s < n) (hc : clo n m nx a way goal g) (hl : ∀ h, clo n m nx a way goal h → ∀ s, g s = true → h s = true) : g = unt n m nx a way goal := by
  refine se_ext fun s => ⟨fun h => unt_i.mpr ⟨hs s h, fun k hk => hl k hk s h⟩, fun h => (unt_i.mp h).2 g hc⟩
def ev (n : Nat) : Se := fun s => decide (s < n)
def notF (n : Nat) (f : Se) : Se := fun s => decide (s < n) && !f s
noncomputable def axF (n m : Nat) (nx : Nat → Nat → Nat) (f : Se) : Se := fun s => @decide (s < n ∧ preA m nx f s) (Classical.propDecidable _)
theorem axF_i {n m : Nat} {nx : Nat → Nat → Nat} {f : Se} {s : Nat} : axF n m nx f s = true ↔ s < n ∧ preA m nx f s := by
  unfold axF; exact @decide_eq_true_iff _ (Classical.propDecidable _)
noncomputable def opF (n m : Nat) (nx : Nat → Nat → Nat) (o : Nat) (f : Se) : Se := if o = 53 then notF n f else if o = 37 then axF n m nx f else if o = 38 then notF n (axF n m nx (notF n f)) else if o = 39 then unt n m nx true (ev n) f else if o = 40 then unt n m nx false (ev n) f else if o = 41 then notF n (unt n m nx false (ev n) (notF n f)) else notF n (unt n m nx true (ev n) (notF n f))
noncomputable def op2F (n m : Nat) (nx : Nat → Nat → Nat) (o : Nat) (a b : Se) : Se := if o = 54 then (fun s => a s && b s) else if o = 55 then (fun s => a s || b s) else if o = 56 then (fun s => (decide (s < n) && !a s) || b s) else if o = 34 then unt n m nx true a b else unt n m nx false a b
noncomputable def tsF (n m : Nat) (v : Nat → List (BitVec 8)) : Se := fun s => @decide (s < n ∧ ∀ i, i < m → (v (s * m + i)).headD 0#8 ≠ 0#8) (Classical.propDecidable _)
theorem tsF_i {n m : Nat} {v : Nat → List (BitVec 8)} {s : Nat} : tsF n m v s = true ↔ s < n ∧ ∀ i, i < m → (v (s * m + i)).headD 0#8 ≠ 0#8 := by
  unfold tsF; exact @decide_eq_true_iff _ (Classical.propDecidable _)
noncomputable def sF (n m : Nat) (nx : Nat → Nat → Nat) (SS : Nat → Se) (x : Nat × Nat) (s : List Se) : List Se := if x.1 = 52 then SS x.2 :: s else if x.1 = 54 ∨ x.1 = 55 ∨ x.1 = 56 ∨ x.1 = 34 ∨ x.1 = 35 then (match s with | b :: a :: s => op2F n m nx x.1 a b :: s | _ => []) else (match s with | f :: s => opF n m nx x.1 f :: s | _ => [])
noncomputable def runF (n m : Nat) (nx : Nat → Nat → Nat) (E : Nat → Nat → BitVec 8) (SS : Nat → Se) : Cd → (Nat → List (BitVec 8)) → List Se → (Nat → List (BitVec 8)) × List Se
  | [], v, s => (v, s)
  | x :: C, v, s => if x.1 = 51 then runF n m nx E SS C (fun c => (v c).tail) (tsF n m v :: s) else if 51 < x.1 ∨ (33 ≤ x.1 ∧ x.1 ≤ 42) then runF n m nx E SS C v (sF n m nx SS x s) else runF n m nx E SS C (fun c => st1 (E c) x (v c)) s
section
variable {n m : Nat} {nx : Nat → Nat → Nat} {E : Nat → Nat → BitVec 8} {SS : Nat → Se}
theorem runF_app : ∀ (C D : Cd) (v : Nat → List (BitVec 8)) (s : List Se), runF n m nx E SS (C ++ D) v s = runF n m nx E SS D (runF n m nx E SS C v s).1 (runF n m nx E SS C v s).2
  | [], D, v, s => rfl
  | x :: C, D, v, s => by
    rw [List.cons_append, runF, runF]
    by_cases c : x.1 = 51
    · rw [if_pos c, if_pos c]; exact runF_app C D _ _
    · rw [if_neg c, if_neg c]
      by_cases d : 51 < x.1 ∨ (33 ≤ x.1 ∧ x.1 ≤ 42)
      · rw [if_pos d, if_pos d]; exact runF_app C D _ _
      · rw [if_neg d, if_neg d]; exact runF_app C D _ _
theorem runF_v : ∀ (C : Cd) (v : Nat → List (BitVec 8)) (s : List Se), (∀ x ∈ C, x.1 < 33 ∨ (42 < x.1 ∧ x.1 < 51)) → runF n m nx E SS C v s = (fun c => run (E c) C (v c), s)
  | [], v, s, _ => rfl
  | x :: C, v, s, h => by
    have hx := h x List.mem_cons_self
    rw [runF, if_neg (by omega), if_neg (by omega), runF_v C _ s (fun y hy => h y (List.mem_cons_of_mem _ hy))]
    rfl
theorem runF_t (C : Cd) (hC : ∀ x ∈ C, x.1 < 33 ∨ (42 < x.1 ∧ x.1 < 51)) {f : Nat → BitVec 8} (hf : ∀ c s, run (E c) C s = f c :: s) (v : Nat → List (BitVec 8)) (s : List Se) : runF n m nx E SS (C ++ [(51, 0)]) v s = (v, tsF n m (fun c => [f c]) :: s) := by
  rw [runF_app, runF_v C v s hC, runF, if_pos rfl, runF]
  have e1 : (fun c => (run (E c) C (v c)).tail) = v := funext fun c => by rw [hf]; rfl
  have e2 : tsF n m (fun c => run (E c) C (v c)) = tsF n m (fun c => [f c]) := by
    unfold tsF
    funext s
    congr 1
    refine propext (and_congr_right fun _ => forall_congr' fun i => forall_congr' fun _ => ?_)
    show (run (E (s * m + i)) C (v (s * m + i))).headD 0#8 ≠ 0#8 ↔ _
    rw [hf]; exact Iff.rfl
  dsimp only
  rw [e1, e2]
theorem runF_52 (k : Nat) (v : Nat → List (BitVec 8)) (s : List Se) : runF n m nx E SS [(52, k)] v s = (v, SS k :: s) := rfl
theorem runF_1 {o : Nat} (ho : o = 53 ∨ (37 ≤ o ∧ o ≤ 42)) (v : Nat → List (BitVec 8)) (f : Se) (s : List Se) : runF n m nx E SS [(o, 0)] v (f :: s) = (v, opF n m nx o f :: s) := by
  rw [runF, if_neg (by show ¬ o = 51; omega), if_pos (by show 51 < o ∨ (33 ≤ o ∧ o ≤ 42); omega), runF]
  unfold sF
  rw [if_neg (by show ¬ o = 52; omega), if_neg (by show ¬ (o = 54 ∨ o = 55 ∨ o = 56 ∨ o = 34 ∨ o = 35); omega)]
theorem runF_2 {o : Nat} (ho : o = 54 ∨ o = 55 ∨ o = 56 ∨ o = 34 ∨ o = 35) (v : Nat → List (BitVec 8)) (a b : Se) (s : List Se) : runF n m nx E SS [(o, 0)] v (b :: a :: s) = (v, op2F n m nx o a b :: s) := by
  rw [runF, if_neg (by show ¬ o = 51; omega), if_pos (by show 51 < o ∨ (33 ≤ o ∧ o ≤ 42); omega), runF]
  unfold sF
  rw [if_neg (by show ¬ o = 52; omega), if_pos ho]
theorem XC_v {ok : Nat → Prop} {h : Nat} {C : Cd} (x : XC ok h C) : ∀ y ∈ C, y.1 < 33 ∨ (42 < y.1 ∧ y.1 < 51) := by
  have ap : ∀ {C D : Cd}, (∀ y ∈ C, y.1 < 33 ∨ (42 < y.1 ∧ y.1 < 51)) → (∀ y ∈ D, y.1 < 33 ∨ (42 < y.1 ∧ y.1 < 51)) → ∀ y ∈ C ++ D, y.1 < 33 ∨ (42 < y.1 ∧ y.1 < 51) := fun h1 h2 y hy => by
    rcases List.mem_append.mp hy with q | q
    · exact h1 y q
    · exact h2 y q
  have on : ∀ {o k : Nat}, (o < 33 ∨ (42 < o ∧ o < 51)) → ∀ y ∈ [(o, k)], y.1 < 33 ∨ (42 < y.1 ∧ y.1 < 51) := fun ho y hy => by
    rw [List.mem_singleton.mp hy]; exact ho
  refine x (fun _ C => ∀ y ∈ C, y.1 < 33 ∨ (42 < y.1 ∧ y.1 < 51)) ⟨fun v _ => on (by omega), fun j hj => on (by omega), fun o h C ho hC => ap hC (on (by omega)), fun o h h' C D ho hC hD => ap hC (ap hD (on (by have := tyt_lt ho; omega))), fun h h' h'' C D E hC hD hE => ap hC (ap hD (ap hE (on (by decide))))⟩
end
