/-! THE LOOP 1 -/
def LG (g : pmG) (p rc rs : Nat) (E : List (Nat × Nat)) (R : Nat → Nat → Value) (B : Nat → Value) (I : Mm) (J : Ml) : Prop := ∃ Z : pmM, pmE g kLw_law 1312 rc rs 23 [(0, .retAddr 0), (1, .ref 0), (2, .ref 40), (3, .ref 356), (4, .int (nI p))] [] (mk_K ++ (4, 1) :: E) (mk_B R B) I J (.returned (some (.int 1))) Z
def LH (g : pmG) (p rc rs : Nat) : Prop := ∀ (E : List (Nat × Nat)) (R : Nat → Nat → Value) (B : Nat → Value) (I : Mm) (J : Ml) (rc' rs' : Nat), mk_R R → pk_R (mk_B R B) → Iv I J B ((4, 1) :: E) → rc + 4200 ≤ rc' + nnB B 4200 → rs + 1075200 ≤ rs' + 256 * nnB B 4200 → LG g p rc' rs' E R B I J
theorem Iv_lw {I : Mm} {J J' : Ml} {B : Nat → Value} {E E' : List (Nat × Nat)} (h : Iv I J B ((4, 1) :: E)) (hE : lw_E E E') (hJ : ∀ q : Nat, q ≠ 356 → J' q = J q) : Iv I J' B ((4, 1) :: E') := by
  rcases hE with e | ⟨c, e⟩
  · rw [e]; exact Iv_J h hJ
  · have z := Iv_J (Iv_E [(0, c)] h) hJ
    rw [List.cons_append] at z
    rw [e]; exact z
section
variable {g : pmG} {p rc rs rc' rs' : Nat} {E : List (Nat × Nat)} {R : Nat → Nat → Value} {B : Nat → Value} {I : Mm} {J : Ml}
theorem L_nx (ih : LH g (p + 6) rc rs) (hR : mk_R R) (hk : pk_R (mk_B R B)) (h : Iv I J B ((4, 1) :: E)) (h1 : rc + 4200 ≤ rc' + nnB B 4200) (h2 : rs + 1075200 ≤ rs' + 256 * nnB B 4200) : ∃ Z : pmM, pmE g kLw_law 1312 rc' rs' 846 [(0, .retAddr 0), (1, .ref 0), (2, .ref 40), (3, .ref 356), (4, .int (nI p))] [] (mk_K ++ (4, 1) :: E) (mk_B R B) I J (.returned (some (.int 1))) Z := by
  obtain ⟨Z, hz⟩ := ih E R B I J rc' rs' hR hk h h1 h2
  refine ⟨Z, lw_next ?_⟩
  have e : nI p + Int32.ofInt 6 = nI (p + 6) := by
    show nI p + nI 6 = _
    exact nI_add _ _
  rw [e]
  exact hz
end
