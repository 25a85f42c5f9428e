/-! System.arraycopy within one array of longs of ours -/
/-- own's pool entry idx names System.arraycopy -/
def pm_Ly (own : String) (idx : Nat) : Prop := Cond.methodLink own idx arraycopyName ∈ pm_TS ∧ Cond.native arraycopyName ∈ pm_TS ∧ Cond.static arraycopyName ∈ pm_TS ∧ Cond.initialized "java/lang/System" ∈ pm_TS
theorem pm_nn {z : Int32} (h : ¬ z < 0) : z.toInt = (z.toNatClampNeg : Int) := by
  have h0 : (0 : Int) ≤ z.toInt := by simpa using Int32.le_iff_toInt_le.mp (Int32.not_lt.mp h)
  show z.toInt = ((z.toInt.toNat : Nat) : Int)
  omega
/-- row a of the longs behind the copy -/
def pm_cpJ (J : Nat → Nat → Int64) (a sp dp n : Nat) : Nat → Nat → Int64 := fun a' => if a' = a then va_cpy (J a) (J a) sp dp n else J a'
section PMY
variable {g : pmG} {k : pmK} {d rc rs pc : Nat} {L : List (Nat × Value)} {S : List Value} {K : List (Nat × Nat)} {R : Nat → Nat → Value} {I : Nat → Nat → Int32} {J : Nat → Nat → Int64} {o : Outcome} {Z : pmM} {a idx : Nat}
theorem pm_copyl {n0 : Nat} {sp dp n : Int32} (h : decode k.2.1 pc = .ok (.invokestatic idx, 3)) (f : pm_Ly k.1.cls idx) (hk : K[a]? = some (4, n0)) (h1 : ¬ sp < 0) (h2 : ¬ dp < 0) (h3 : ¬ n < 0) (h4 : sp.toNatClampNeg + n.toNatClampNeg ≤ n0) (h5 : dp.toNatClampNeg + n.toNatClampNeg ≤ n0) (h8 : (S.map fun v => v.category).sum ≤ 8)
    (nx : pmE g k (d + 1) rc rs (pc + 3) L S K R I (pm_cpJ J a sp.toNatClampNeg dp.toNatClampNeg n.toNatClampNeg) o Z) : pmE g k (d + 1) rc rs pc L (.int n :: .int dp :: .ref a :: .int sp :: .ref a :: S) K R I J o Z := by
  intro p e Rm s m args below meth c H locs cells slots mc ms ls hC g1 g2 g3 g4 hl hA
  obtain ⟨hx, hb, hml, -, -, -, hown, hts, ⟨hK, -⟩, hfr, hlo, -⟩ := id hC
  have hcell : H[g.2.2.1 + a]? = some (arrV (g.2.2.2.2.1 4) n0 (fun q => .long (J a q))) := hA.1.2 a _ (pm_lld hk)
  obtain ⟨-, k0, hk0, cm0, hkk0⟩ := (hK.2 3 _ rfl).1 n0 (fun q => .long (J a q))
  intro T hT X
  have hs := arrV_size (g.2.2.2.2.1 4) n0 (fun q => Value.long (J a q))
  have hc8 := pm_catS g S
  obtain ⟨vm', X', step⟩ := X.arraycopy hx hown (hts _ f.1) (hts _ f.2.1) (hts _ f.2.2.1) (hts _ f.2.2.2) (src := g.2.2.1 + a) (dst := g.2.2.1 + a) (srcPos := sp) (destPos := dp) (n := n) (by rw [hT]; exact hcell) (by rw [hT]; exact hcell)
    (fun _ q => by cases q) (fun _ q => by cases q) (fun q => by cases q) (fun q => by cases q) hk0 hk0 hkk0 hkk0 rfl h1 h2 h3 (by rw [pm_nn h1, pm_nn h3, hs]; omega) (by rw [pm_nn h2, pm_nn h3, hs]; omega)
    (fun vm₁ _ i hi => by
      have e : (arrV (g.2.2.2.2.1 4) n0 (fun q => Value.long (J a q))).slots.getD (sp.toNatClampNeg + i) .null = .long (J a (sp.toNatClampNeg + i)) := by
        rw [Array.getD_eq_getD_getElem?, arrV_read _ _ (by omega)]; rfl
      rw [e]
      exact ⟨rfl, trivial⟩)
    (g := F0 m pc ls ((.int n :: .int dp :: .ref a :: .int sp :: .ref a :: S).map (pm_t g))) rfl (by rw [hml]; exact hl.1) (rest := S.map (pm_t g)) rfl (by rw [hb]; exact h) (by omega) (by show 2 * 0 + ((S.map (pm_t g)).map fun v => v.category).sum + (7 + 11) ≤ Rm.locals; omega)
  have e1 : copied (arrV (g.2.2.2.2.1 4) n0 (fun q => Value.long (J a q))) (arrV (g.2.2.2.2.1 4) n0 (fun q => Value.long (J a q))) sp dp n = arrV (g.2.2.2.2.1 4) n0 (fun q => .long (va_cpy (J a) (J a) sp.toNatClampNeg dp.toNatClampNeg n.toNatClampNeg q)) := va_copied (fun z => .long z) _ _ (J a) (J a) h4
  rw [e1] at X' step
  have hlt : g.2.2.1 + a < H.size := (Array.getElem?_eq_some_iff.mp hcell).1
  have hh : ∀ cell : Cell, ((T.setVm vm').setCell (g.2.2.1 + a) cell).heap = H.setIfInBounds (g.2.2.1 + a) cell := fun cell => by rw [← hT]; rfl
  have z : ∀ cell : Cell, (H.setIfInBounds (g.2.2.1 + a) cell).size = H.size := fun cell => by simp
  have oq : ∀ (cell : Cell) (q : Nat), q ≠ g.2.2.1 + a → (H.setIfInBounds (g.2.2.1 + a) cell)[q]? = H[q]? := fun cell q hq => by simp [Array.getElem?_setIfInBounds, Ne.symm hq]
  obtain ⟨t, a1, b1⟩ := nx p e Rm s m args below meth c _ (locs ++ ((arrV (g.2.2.2.2.1 4) n0 (fun q => Value.long (J a q))).stretch sp.toNatClampNeg n.toNatClampNeg).zipIdx.map fun q => ⟨g.2.2.1 + a, dp.toNatClampNeg + q.2⟩) cells slots mc ms ls hC g1 g2 g3 g4 hl ⟨pm_H_set hA.1 hk (z _) (oq _) (show (H.setIfInBounds (g.2.2.1 + a) (arrV (g.2.2.2.2.1 4) n0 (fun q => .long (pm_cpJ J a sp.toNatClampNeg dp.toNatClampNeg n.toNatClampNeg a q))))[g.2.2.1 + a]? = some _ by simp [Array.getElem?_setIfInBounds, hlt]; rfl) (fun a' h' => ⟨rfl, rfl, if_neg h'⟩), by
      rw [z]; exact hA.2.1, fun q q1 q2 => by
      rw [oq _ q (fun e => q2 (by rw [e]; exact Nat.le_add_right _ _))]
      exact hA.2.2.1 q q1 q2, fun q hq => by
      rcases List.mem_append.mp hq with q9 | q9
      · exact hA.2.2.2 q q9
      · obtain ⟨w, -, hw⟩ := List.mem_map.mp q9
        rw [← hw]
        exact Nat.le_add_right _ _⟩ _ (hh _) (by
      have e2 : (fun q => Value.long (pm_cpJ J a sp.toNatClampNeg dp.toNatClampNeg n.toNatClampNeg a q)) = (fun q => .long (va_cpy (J a) (J a) sp.toNatClampNeg dp.toNatClampNeg n.toNatClampNeg q)) := by unfold pm_cpJ; rw [if_pos rfl]
      rw [e2]
      exact X')
  have e2 : (fun q => Value.long (pm_cpJ J a sp.toNatClampNeg dp.toNatClampNeg n.toNatClampNeg a q)) = (fun q => .long (va_cpy (J a) (J a) sp.toNatClampNeg dp.toNatClampNeg n.toNatClampNeg q)) := by unfold pm_cpJ; rw [if_pos rfl]
  rw [e2] at a1
  exact ⟨t, step t a1, b1⟩
end PMY
