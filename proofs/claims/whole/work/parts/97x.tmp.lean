theorem lw_all (g : pmG) (ht : g.1.stackTraces = false) (hL : g.2.2.2.2.2.1 ≤ 3072) : ∃ Z : pmM, pmE g kLw_law 1312 601023 7293026 0 [(0, .retAddr 0)] [] [] (fun _ _ => .null) (fun _ _ => 0) (fun _ _ => 0) (.returned (some (.int 1))) Z := by
  sorry
