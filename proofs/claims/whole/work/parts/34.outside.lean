/-! what lies outside: statics, String constants and their bytes, static arrays, the script -/
section PMO
variable {g : pmG} {k k' : pmK} {d rc rs rc1 rs1 mc' ms' pc idx n0 x N : Nat} {L : List (Nat × Value)} {S S0 As : List Value} {K K1 : List (Nat × Nat)} {R R1 : Nat → Nat → Value} {I I1 : Nat → Nat → Int32} {J J1 : Nat → Nat → Int64} {o : Outcome} {Z : pmM} {v : Option Value}
theorem pm_gets {C n ds : String} {w : Value} (h : decode k.2.1 pc = .ok (.getstatic idx, 3)) (hl : Cond.fieldLink k.1.cls idx C n ds ∈ pm_TS) (hm : (C, n, ds, w) ∈ pm_ST) (nx : pmE g k d rc rs (pc + 3) L (w :: S) K R I J o Z) : pmE g k d rc rs pc L S K R I J o Z := by
  intro p e Rm s m args below meth c H locs cells slots mc ms ls hC h1 h2 h3 h4 hlv hA
  obtain ⟨hx, hb, -, -, -, -, hown, hts, ⟨-, -, hX⟩, -⟩ := id hC
  exact va_gets hx hb (hX.1 _ hm) hA.2 hown (hts _ hl) (fun _ q => q) h (nx p e Rm s m args below meth c H locs cells slots mc ms ls hC h1 h2 h3 h4 hlv hA)
/-- a static that holds a reference or null -/
theorem pm_getsQ {C n ds : String} {x9 : Nat} (h : decode k.2.1 pc = .ok (.getstatic idx, 3)) (hl : Cond.fieldLink k.1.cls idx C n ds ∈ pm_TS) (hm : (C, n, ds, x9) ∈ pm_SQ) (n1 : pmE g k d rc rs (pc + 3) L (.null :: S) K R I J o Z) (n2 : pmE g k d rc rs (pc + 3) L (.retAddr x9 :: S) K R I J o Z) : pmE g k d rc rs pc L S K R I J o Z := by
  intro p e Rm s m args below meth c H locs cells slots mc ms ls hC h1 h2 h3 h4 hlv hA
  obtain ⟨hx, hb, -, -, -, -, hown, hts, ⟨-, -, hX⟩, -⟩ := id hC
  rcases hX.2.2.2.2.2.1 _ hm with hz | hz
  · exact va_gets hx hb hz hA.2 hown (hts _ hl) (fun _ q => q) h (n1 p e Rm s m args below meth c H locs cells slots mc ms ls hC h1 h2 h3 h4 hlv hA)
  · exact va_gets hx hb hz hA.2 hown (hts _ hl) (fun _ q => q) h (n2 p e Rm s m args below meth c H locs cells slots mc ms ls hC h1 h2 h3 h4 hlv hA)
theorem pm_xiald {i : Int32} {xs : List Int32} (h : decode k.2.1 pc = .ok (.iaload, 1)) (hm : (.int, x, N, xs) ∈ pm_AR) (hin : vp_in i N) (nx : pmE g k d rc rs (pc + 1) L (.int (xs.getD i.toNatClampNeg 0) :: S) K R I J o Z) : pmE g k d rc rs pc L (.int i :: .retAddr x :: S) K R I J o Z := by
  intro p e Rm s m args below meth c H locs cells slots mc ms ls hC h1 h2 h3 h4 hlv hA
  obtain ⟨hx, hb, -, -, -, -, hown, hts, ⟨-, -, hX⟩, -⟩ := id hC
  exact va_ti hx hb (hX.2.1 _ hm) hA.2 hin rfl h (nx p e Rm s m args below meth c H locs cells slots mc ms ls hC h1 h2 h3 h4 hlv hA)
theorem pm_xbald {i : Int32} {xs : List Int32} (h : decode k.2.1 pc = .ok (.baload, 1)) (hm : (.byte, x, N, xs) ∈ pm_AR) (hin : vp_in i N) (nx : pmE g k d rc rs (pc + 1) L (.int (xs.getD i.toNatClampNeg 0) :: S) K R I J o Z) : pmE g k d rc rs pc L (.int i :: .retAddr x :: S) K R I J o Z := by
  intro p e Rm s m args below meth c H locs cells slots mc ms ls hC h1 h2 h3 h4 hlv hA
  obtain ⟨hx, hb, -, -, -, -, hown, hts, ⟨-, -, hX⟩, -⟩ := id hC
  exact va_tb hx hb (hX.2.1 _ hm) hA.2 hin rfl h (nx p e Rm s m args below meth c H locs cells slots mc ms ls hC h1 h2 h3 h4 hlv hA)
theorem pm_xlen {ty : FieldType} {xs : List Int32} {u : Int32} (h : decode k.2.1 pc = .ok (.arraylength, 1)) (hm : (ty, x, N, xs) ∈ pm_AR) (hu : Int32.ofNat N = u) (nx : pmE g k d rc rs (pc + 1) L (.int u :: S) K R I J o Z) : pmE g k d rc rs pc L (.retAddr x :: S) K R I J o Z := by
  intro p e Rm s m args below meth c H locs cells slots mc ms ls hC h1 h2 h3 h4 hlv hA
  obtain ⟨hx, hb, -, -, -, -, hown, hts, ⟨-, -, hX⟩, -⟩ := id hC
  exact va_tlen hx hb (hX.2.1 _ hm) hA.2 hu h (nx p e Rm s m args below meth c H locs cells slots mc ms ls hC h1 h2 h3 h4 hlv hA)
/-- the script -/
theorem pm_sald {i : Int32} (h : decode k.2.1 pc = .ok (.iaload, 1)) (hin : vp_in i g.2.2.2.2.2.1) (nx : pmE g k d rc rs (pc + 1) L (.int (g.2.2.2.2.2.2 i.toNatClampNeg) :: S) K R I J o Z) : pmE g k d rc rs pc L (.int i :: .retAddr 0 :: S) K R I J o Z := by
  intro p e Rm s m args below meth c H locs cells slots mc ms ls hC h1 h2 h3 h4 hlv hA
  obtain ⟨hx, hb, -, -, -, -, hown, hts, ⟨-, -, hX⟩, -⟩ := id hC
  exact va_ti hx hb hX.2.2.2.2.1 hA.2 hin rfl h (nx p e Rm s m args below meth c H locs cells slots mc ms ls hC h1 h2 h3 h4 hlv hA)
theorem pm_slen (h : decode k.2.1 pc = .ok (.arraylength, 1)) (nx : pmE g k d rc rs (pc + 1) L (.int (Int32.ofNat g.2.2.2.2.2.1) :: S) K R I J o Z) : pmE g k d rc rs pc L (.retAddr 0 :: S) K R I J o Z := by
  intro p e Rm s m args below meth c H locs cells slots mc ms ls hC h1 h2 h3 h4 hlv hA
  obtain ⟨hx, hb, -, -, -, -, hown, hts, ⟨-, -, hX⟩, -⟩ := id hC
  exact va_tlen hx hb hX.2.2.2.2.1 hA.2 rfl h (nx p e Rm s m args below meth c H locs cells slots mc ms ls hC h1 h2 h3 h4 hlv hA)
theorem pm_ldcS {tx : String} (h : decode k.2.1 pc = .ok (.ldc idx, 2)) (hm : (k.1.cls, idx, tx, x) ∈ pm_SR) (nx : pmE g k d rc rs (pc + 2) L (.retAddr x :: S) K R I J o Z) : pmE g k d rc rs pc L S K R I J o Z := by
  intro p e Rm s m args below meth c H locs cells slots mc ms ls hC h1 h2 h3 h4 hlv hA
  obtain ⟨hx, hb, -, -, -, -, hown, hts, ⟨-, -, hX⟩, -⟩ := id hC
  exact va_ldcS hx hb hown (hX.2.2.2.1 _ hm) h (nx p e Rm s m args below meth c H locs cells slots mc ms ls hC h1 h2 h3 h4 hlv hA)
/-- a String's own fields -/
theorem pm_xcoder (h : decode k.2.1 pc = .ok (.getfield idx, 3)) (hl : Cond.fieldLink k.1.cls idx "java/lang/String" "coder" "B" ∈ pm_TS) (hi : x < 21) (nx : pmE g k d rc rs (pc + 3) L (.int 0 :: S) K R I J o Z) : pmE g k d rc rs pc L (.retAddr (10 + x) :: S) K R I J o Z := by
  intro p e Rm s m args below meth c H locs cells slots mc ms ls hC h1 h2 h3 h4 hlv hA
  obtain ⟨hx, hb, -, -, -, -, hown, hts, ⟨-, -, hX⟩, -⟩ := id hC
  exact vk_getf hx hb (hX.2.2.1 x hi).2.1 hA.2 hown (hts _ hl) (fun _ q => q) h (nx p e Rm s m args below meth c H locs cells slots mc ms ls hC h1 h2 h3 h4 hlv hA)
theorem pm_xvalue (h : decode k.2.1 pc = .ok (.getfield idx, 3)) (hl : Cond.fieldLink k.1.cls idx "java/lang/String" "value" "[B" ∈ pm_TS) (hi : x < 21) (nx : pmE g k d rc rs (pc + 3) L (.retAddr (40 + x) :: S) K R I J o Z) : pmE g k d rc rs pc L (.retAddr (10 + x) :: S) K R I J o Z := by
  intro p e Rm s m args below meth c H locs cells slots mc ms ls hC h1 h2 h3 h4 hlv hA
  obtain ⟨hx, hb, -, -, -, -, hown, hts, ⟨-, -, hX⟩, -⟩ := id hC
  exact vk_getf hx hb (hX.2.2.1 x hi).2.2 hA.2 hown (hts _ hl) (fun _ q => q) h (nx p e Rm s m args below meth c H locs cells slots mc ms ls hC h1 h2 h3 h4 hlv hA)
/-- a call on a String constant -/
theorem pm_callX (h : decode k.2.1 pc = .ok (.invokevirtual idx, 3)) (f : pm_Lk k.1.cls idx k' n0) (fv : pm_Vt k') (hcl : k'.1.cls = "java/lang/String") (hi : x < 21) (hc : pmC g k' d mc' ms' (.retAddr (10 + x) :: As) (K, R, I, J) (.returned v) (K1, R1, I1, J1)) (hn : As.length = n0) (hst : S0 = As.reverse ++ .retAddr (10 + x) :: S) (h8 : (S.map fun v => v.category).sum ≤ 8) (hr1 : rc1 + mc' ≤ rc) (hr2 : rs1 + ms' ≤ rs)
    (n : pmE g k (d + 1) rc1 rs1 (pc + 3) L (v.toList ++ S) K1 R1 I1 J1 o Z) : pmE g k (d + 1) rc rs pc L S0 K R I J o Z := by
  intro p e Rm s m args below meth c H locs cells slots mc ms ls hC h1 h2 h3 h4 hl hA
  obtain ⟨f1, f2, f3, f4, f5⟩ := f
  obtain ⟨hx, hb, hml, -, -, -, hown, hts, ⟨hK, hN, hX⟩, hfr, hlo, -⟩ := id hC
  have hrecv : ∃ cellB : Cell, H[g.2.2.2.1 (10 + x)]? = some cellB ∧ cellB.vm.isStatics = false ∧ s.vm.findClass k'.1.cls = some cellB.cls := by
    rw [hcl]; exact va_Orecv (hX.2.2.1 x hi).1 hA.2
  have hinv : pm_Inv p g.1 e Rm s m args below meth c H locs cells slots k'.1 (F0 m pc ls (S0.map (pm_t g))) (S.map (pm_t g)) ((.retAddr (10 + x) :: As : List Value).map (pm_t g)).toArray := pm_invV hC f5 f3 (fun mk h => pm_cd_code h (hts _ f1)) fv hrecv rfl (As := As.map (pm_t g)) (by rw [List.length_map]; exact hn) (pm_stk hst) h
  exact pm_ret hC hinv (fun U mk hW hnm => pm_cd_code (a := args) hnm (word_at hW (pm_TS_good _ f1) (hts _ f1))) f2 (pm_pay hC f1) hc h f4 h8 hl.1 hA (by omega) (by omega) (fun H1 locs1 hA1 => n p e Rm s m args below meth c H1 locs1 (cells + mc') (slots + ms') mc ms ls hC h1 h2 (by omega) (by omega) hl hA1)
end PMO
