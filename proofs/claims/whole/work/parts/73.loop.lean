theorem lw_next {g : pmG} {d rc rs : Nat} {y : Int32} {K : List (Nat × Nat)} {R : Nat → Nat → Value} {I : Nat → Nat → Int32} {J : Nat → Nat → Int64} {o : Outcome} {Z : pmM} (n : pmE g kLw_law d rc rs 23 [(0, .retAddr 0), (1, .ref 0), (2, .ref 40), (3, .ref 356), (4, .int (y + Int32.ofInt 6))] [] K R I J o Z) : pmE g kLw_law d rc rs 846 [(0, .retAddr 0), (1, .ref 0), (2, .ref 40), (3, .ref 356), (4, .int y)] [] K R I J o Z := by
  refine pm_iinc dLw_law_846 rfl (by decide) rfl ?_
  refine pm_goto 23 dLw_law_849 (by decide) ?_
  exact pm_wk [1, 2, 3, 4, 0] rfl n
theorem lw_stop {g : pmG} {d rc rs : Nat} {y : Int32} {K : List (Nat × Nat)} {R : Nat → Nat → Value} {I : Nat → Nat → Int32} {J : Nat → Nat → Int64} {o : Outcome} {Z : pmM} (h : Int32.ofNat g.2.2.2.2.2.1 - 6 < y) (ho : o = .returned (some (.int 1))) (hz : Z = (K, R, I, J)) : pmE g kLw_law d rc rs 23 [(0, .retAddr 0), (1, .ref 0), (2, .ref 40), (3, .ref 356), (4, .int y)] [] K R I J o Z := by
  refine pm_iload dLw_law_23 rfl ?_
  refine pm_xload_n dLw_law_25 rfl ?_
  refine pm_slen dLw_law_26 ?_
  refine pm_bipush (v := 6) dLw_law_27 (by decide) ?_
  refine pm_isub dLw_law_29 ?_
  refine pm_icmp_gt 852 dLw_law_30 (by decide) (fun _ => ?_) (fun h9 => absurd h h9)
  refine pm_iconst (v := 1) dLw_law_852 (by decide) ?_
  exact pm_zret dLw_law_853 rfl (by first | rfl | decide) ho hz
theorem lw_s0 {g : pmG} {d rc rs : Nat} {y : Int32} {K : List (Nat × Nat)} {R : Nat → Nat → Value} {I : Nat → Nat → Int32} {J : Nat → Nat → Int64} {o : Outcome} {Z : pmM} (h : ¬ Int32.ofNat g.2.2.2.2.2.1 - 6 < y) (hin : vp_in y g.2.2.2.2.2.1) (hk : g.2.2.2.2.2.2 y.toNatClampNeg &&& 15 = 0) (n : pmE g kLw_law d rc rs 112 [(0, .retAddr 0), (1, .ref 0), (2, .ref 40), (3, .ref 356), (4, .int y)] [] K R I J o Z) : pmE g kLw_law d rc rs 23 [(0, .retAddr 0), (1, .ref 0), (2, .ref 40), (3, .ref 356), (4, .int y)] [] K R I J o Z := by
  refine pm_iload dLw_law_23 rfl ?_
  refine pm_xload_n dLw_law_25 rfl ?_
  refine pm_slen dLw_law_26 ?_
  refine pm_bipush (v := 6) dLw_law_27 (by decide) ?_
  refine pm_isub dLw_law_29 ?_
  refine pm_icmp_gt 852 dLw_law_30 (by decide) (fun h9 => absurd h9 h) (fun _ => ?_)
  refine pm_xload_n dLw_law_33 rfl ?_
  refine pm_iload dLw_law_34 rfl ?_
  refine pm_sald dLw_law_36 hin ?_
  refine pm_bipush (v := 15) dLw_law_37 (by decide) ?_
  refine pm_iand dLw_law_39 ?_
  exact pm_tableIn 112 dLw_law_40 (by rw [hk]; decide) (by rw [hk]; decide) (by first | (rw [hk]; rfl) | rw [hk]) (by decide) n
theorem lw_s1 {g : pmG} {d rc rs : Nat} {y : Int32} {K : List (Nat × Nat)} {R : Nat → Nat → Value} {I : Nat → Nat → Int32} {J : Nat → Nat → Int64} {o : Outcome} {Z : pmM} (h : ¬ Int32.ofNat g.2.2.2.2.2.1 - 6 < y) (hin : vp_in y g.2.2.2.2.2.1) (hk : g.2.2.2.2.2.2 y.toNatClampNeg &&& 15 = 1) (n : pmE g kLw_law d rc rs 216 [(0, .retAddr 0), (1, .ref 0), (2, .ref 40), (3, .ref 356), (4, .int y)] [] K R I J o Z) : pmE g kLw_law d rc rs 23 [(0, .retAddr 0), (1, .ref 0), (2, .ref 40), (3, .ref 356), (4, .int y)] [] K R I J o Z := by
  refine pm_iload dLw_law_23 rfl ?_
  refine pm_xload_n dLw_law_25 rfl ?_
  refine pm_slen dLw_law_26 ?_
  refine pm_bipush (v := 6) dLw_law_27 (by decide) ?_
  refine pm_isub dLw_law_29 ?_
  refine pm_icmp_gt 852 dLw_law_30 (by decide) (fun h9 => absurd h9 h) (fun _ => ?_)
  refine pm_xload_n dLw_law_33 rfl ?_
  refine pm_iload dLw_law_34 rfl ?_
  refine pm_sald dLw_law_36 hin ?_
  refine pm_bipush (v := 15) dLw_law_37 (by decide) ?_
  refine pm_iand dLw_law_39 ?_
  exact pm_tableIn 216 dLw_law_40 (by rw [hk]; decide) (by rw [hk]; decide) (by first | (rw [hk]; rfl) | rw [hk]) (by decide) n
theorem lw_s2 {g : pmG} {d rc rs : Nat} {y : Int32} {K : List (Nat × Nat)} {R : Nat → Nat → Value} {I : Nat → Nat → Int32} {J : Nat → Nat → Int64} {o : Outcome} {Z : pmM} (h : ¬ Int32.ofNat g.2.2.2.2.2.1 - 6 < y) (hin : vp_in y g.2.2.2.2.2.1) (hk : g.2.2.2.2.2.2 y.toNatClampNeg &&& 15 = 2) (n : pmE g kLw_law d rc rs 272 [(0, .retAddr 0), (1, .ref 0), (2, .ref 40), (3, .ref 356), (4, .int y)] [] K R I J o Z) : pmE g kLw_law d rc rs 23 [(0, .retAddr 0), (1, .ref 0), (2, .ref 40), (3, .ref 356), (4, .int y)] [] K R I J o Z := by
  refine pm_iload dLw_law_23 rfl ?_
  refine pm_xload_n dLw_law_25 rfl ?_
  refine pm_slen dLw_law_26 ?_
  refine pm_bipush (v := 6) dLw_law_27 (by decide) ?_
  refine pm_isub dLw_law_29 ?_
  refine pm_icmp_gt 852 dLw_law_30 (by decide) (fun h9 => absurd h9 h) (fun _ => ?_)
  refine pm_xload_n dLw_law_33 rfl ?_
  refine pm_iload dLw_law_34 rfl ?_
  refine pm_sald dLw_law_36 hin ?_
  refine pm_bipush (v := 15) dLw_law_37 (by decide) ?_
  refine pm_iand dLw_law_39 ?_
  exact pm_tableIn 272 dLw_law_40 (by rw [hk]; decide) (by rw [hk]; decide) (by first | (rw [hk]; rfl) | rw [hk]) (by decide) n
theorem lw_s3 {g : pmG} {d rc rs : Nat} {y : Int32} {K : List (Nat × Nat)} {R : Nat → Nat → Value} {I : Nat → Nat → Int32} {J : Nat → Nat → Int64} {o : Outcome} {Z : pmM} (h : ¬ Int32.ofNat g.2.2.2.2.2.1 - 6 < y) (hin : vp_in y g.2.2.2.2.2.1) (hk : g.2.2.2.2.2.2 y.toNatClampNeg &&& 15 = 3) (n : pmE g kLw_law d rc rs 285 [(0, .retAddr 0), (1, .ref 0), (2, .ref 40), (3, .ref 356), (4, .int y)] [] K R I J o Z) : pmE g kLw_law d rc rs 23 [(0, .retAddr 0), (1, .ref 0), (2, .ref 40), (3, .ref 356), (4, .int y)] [] K R I J o Z := by
  refine pm_iload dLw_law_23 rfl ?_
  refine pm_xload_n dLw_law_25 rfl ?_
  refine pm_slen dLw_law_26 ?_
  refine pm_bipush (v := 6) dLw_law_27 (by decide) ?_
  refine pm_isub dLw_law_29 ?_
  refine pm_icmp_gt 852 dLw_law_30 (by decide) (fun h9 => absurd h9 h) (fun _ => ?_)
  refine pm_xload_n dLw_law_33 rfl ?_
  refine pm_iload dLw_law_34 rfl ?_
  refine pm_sald dLw_law_36 hin ?_
  refine pm_bipush (v := 15) dLw_law_37 (by decide) ?_
  refine pm_iand dLw_law_39 ?_
  exact pm_tableIn 285 dLw_law_40 (by rw [hk]; decide) (by rw [hk]; decide) (by first | (rw [hk]; rfl) | rw [hk]) (by decide) n
theorem lw_s4 {g : pmG} {d rc rs : Nat} {y : Int32} {K : List (Nat × Nat)} {R : Nat → Nat → Value} {I : Nat → Nat → Int32} {J : Nat → Nat → Int64} {o : Outcome} {Z : pmM} (h : ¬ Int32.ofNat g.2.2.2.2.2.1 - 6 < y) (hin : vp_in y g.2.2.2.2.2.1) (hk : g.2.2.2.2.2.2 y.toNatClampNeg &&& 15 = 4) (n : pmE g kLw_law d rc rs 310 [(0, .retAddr 0), (1, .ref 0), (2, .ref 40), (3, .ref 356), (4, .int y)] [] K R I J o Z) : pmE g kLw_law d rc rs 23 [(0, .retAddr 0), (1, .ref 0), (2, .ref 40), (3, .ref 356), (4, .int y)] [] K R I J o Z := by
  refine pm_iload dLw_law_23 rfl ?_
  refine pm_xload_n dLw_law_25 rfl ?_
  refine pm_slen dLw_law_26 ?_
  refine pm_bipush (v := 6) dLw_law_27 (by decide) ?_
  refine pm_isub dLw_law_29 ?_
  refine pm_icmp_gt 852 dLw_law_30 (by decide) (fun h9 => absurd h9 h) (fun _ => ?_)
  refine pm_xload_n dLw_law_33 rfl ?_
  refine pm_iload dLw_law_34 rfl ?_
  refine pm_sald dLw_law_36 hin ?_
  refine pm_bipush (v := 15) dLw_law_37 (by decide) ?_
  refine pm_iand dLw_law_39 ?_
  exact pm_tableIn 310 dLw_law_40 (by rw [hk]; decide) (by rw [hk]; decide) (by first | (rw [hk]; rfl) | rw [hk]) (by decide) n
theorem lw_s5 {g : pmG} {d rc rs : Nat} {y : Int32} {K : List (Nat × Nat)} {R : Nat → Nat → Value} {I : Nat → Nat → Int32} {J : Nat → Nat → Int64} {o : Outcome} {Z : pmM} (h : ¬ Int32.ofNat g.2.2.2.2.2.1 - 6 < y) (hin : vp_in y g.2.2.2.2.2.1) (hk : g.2.2.2.2.2.2 y.toNatClampNeg &&& 15 = 5) (n : pmE g kLw_law d rc rs 373 [(0, .retAddr 0), (1, .ref 0), (2, .ref 40), (3, .ref 356), (4, .int y)] [] K R I J o Z) : pmE g kLw_law d rc rs 23 [(0, .retAddr 0), (1, .ref 0), (2, .ref 40), (3, .ref 356), (4, .int y)] [] K R I J o Z := by
  refine pm_iload dLw_law_23 rfl ?_
  refine pm_xload_n dLw_law_25 rfl ?_
  refine pm_slen dLw_law_26 ?_
  refine pm_bipush (v := 6) dLw_law_27 (by decide) ?_
  refine pm_isub dLw_law_29 ?_
  refine pm_icmp_gt 852 dLw_law_30 (by decide) (fun h9 => absurd h9 h) (fun _ => ?_)
  refine pm_xload_n dLw_law_33 rfl ?_
  refine pm_iload dLw_law_34 rfl ?_
  refine pm_sald dLw_law_36 hin ?_
  refine pm_bipush (v := 15) dLw_law_37 (by decide) ?_
  refine pm_iand dLw_law_39 ?_
  exact pm_tableIn 373 dLw_law_40 (by rw [hk]; decide) (by rw [hk]; decide) (by first | (rw [hk]; rfl) | rw [hk]) (by decide) n
theorem lw_s6 {g : pmG} {d rc rs : Nat} {y : Int32} {K : List (Nat × Nat)} {R : Nat → Nat → Value} {I : Nat → Nat → Int32} {J : Nat → Nat → Int64} {o : Outcome} {Z : pmM} (h : ¬ Int32.ofNat g.2.2.2.2.2.1 - 6 < y) (hin : vp_in y g.2.2.2.2.2.1) (hk : g.2.2.2.2.2.2 y.toNatClampNeg &&& 15 = 6) (n : pmE g kLw_law d rc rs 429 [(0, .retAddr 0), (1, .ref 0), (2, .ref 40), (3, .ref 356), (4, .int y)] [] K R I J o Z) : pmE g kLw_law d rc rs 23 [(0, .retAddr 0), (1, .ref 0), (2, .ref 40), (3, .ref 356), (4, .int y)] [] K R I J o Z := by
  refine pm_iload dLw_law_23 rfl ?_
  refine pm_xload_n dLw_law_25 rfl ?_
  refine pm_slen dLw_law_26 ?_
  refine pm_bipush (v := 6) dLw_law_27 (by decide) ?_
  refine pm_isub dLw_law_29 ?_
  refine pm_icmp_gt 852 dLw_law_30 (by decide) (fun h9 => absurd h9 h) (fun _ => ?_)
  refine pm_xload_n dLw_law_33 rfl ?_
  refine pm_iload dLw_law_34 rfl ?_
  refine pm_sald dLw_law_36 hin ?_
  refine pm_bipush (v := 15) dLw_law_37 (by decide) ?_
  refine pm_iand dLw_law_39 ?_
  exact pm_tableIn 429 dLw_law_40 (by rw [hk]; decide) (by rw [hk]; decide) (by first | (rw [hk]; rfl) | rw [hk]) (by decide) n
theorem lw_s7 {g : pmG} {d rc rs : Nat} {y : Int32} {K : List (Nat × Nat)} {R : Nat → Nat → Value} {I : Nat → Nat → Int32} {J : Nat → Nat → Int64} {o : Outcome} {Z : pmM} (h : ¬ Int32.ofNat g.2.2.2.2.2.1 - 6 < y) (hin : vp_in y g.2.2.2.2.2.1) (hk : g.2.2.2.2.2.2 y.toNatClampNeg &&& 15 = 7) (n : pmE g kLw_law d rc rs 504 [(0, .retAddr 0), (1, .ref 0), (2, .ref 40), (3, .ref 356), (4, .int y)] [] K R I J o Z) : pmE g kLw_law d rc rs 23 [(0, .retAddr 0), (1, .ref 0), (2, .ref 40), (3, .ref 356), (4, .int y)] [] K R I J o Z := by
  refine pm_iload dLw_law_23 rfl ?_
  refine pm_xload_n dLw_law_25 rfl ?_
  refine pm_slen dLw_law_26 ?_
  refine pm_bipush (v := 6) dLw_law_27 (by decide) ?_
  refine pm_isub dLw_law_29 ?_
  refine pm_icmp_gt 852 dLw_law_30 (by decide) (fun h9 => absurd h9 h) (fun _ => ?_)
  refine pm_xload_n dLw_law_33 rfl ?_
  refine pm_iload dLw_law_34 rfl ?_
  refine pm_sald dLw_law_36 hin ?_
  refine pm_bipush (v := 15) dLw_law_37 (by decide) ?_
  refine pm_iand dLw_law_39 ?_
  exact pm_tableIn 504 dLw_law_40 (by rw [hk]; decide) (by rw [hk]; decide) (by first | (rw [hk]; rfl) | rw [hk]) (by decide) n
theorem lw_s8 {g : pmG} {d rc rs : Nat} {y : Int32} {K : List (Nat × Nat)} {R : Nat → Nat → Value} {I : Nat → Nat → Int32} {J : Nat → Nat → Int64} {o : Outcome} {Z : pmM} (h : ¬ Int32.ofNat g.2.2.2.2.2.1 - 6 < y) (hin : vp_in y g.2.2.2.2.2.1) (hk : g.2.2.2.2.2.2 y.toNatClampNeg &&& 15 = 8) (n : pmE g kLw_law d rc rs 517 [(0, .retAddr 0), (1, .ref 0), (2, .ref 40), (3, .ref 356), (4, .int y)] [] K R I J o Z) : pmE g kLw_law d rc rs 23 [(0, .retAddr 0), (1, .ref 0), (2, .ref 40), (3, .ref 356), (4, .int y)] [] K R I J o Z := by
  refine pm_iload dLw_law_23 rfl ?_
  refine pm_xload_n dLw_law_25 rfl ?_
  refine pm_slen dLw_law_26 ?_
  refine pm_bipush (v := 6) dLw_law_27 (by decide) ?_
  refine pm_isub dLw_law_29 ?_
  refine pm_icmp_gt 852 dLw_law_30 (by decide) (fun h9 => absurd h9 h) (fun _ => ?_)
  refine pm_xload_n dLw_law_33 rfl ?_
  refine pm_iload dLw_law_34 rfl ?_
  refine pm_sald dLw_law_36 hin ?_
  refine pm_bipush (v := 15) dLw_law_37 (by decide) ?_
  refine pm_iand dLw_law_39 ?_
  exact pm_tableIn 517 dLw_law_40 (by rw [hk]; decide) (by rw [hk]; decide) (by first | (rw [hk]; rfl) | rw [hk]) (by decide) n
theorem lw_s9 {g : pmG} {d rc rs : Nat} {y : Int32} {K : List (Nat × Nat)} {R : Nat → Nat → Value} {I : Nat → Nat → Int32} {J : Nat → Nat → Int64} {o : Outcome} {Z : pmM} (h : ¬ Int32.ofNat g.2.2.2.2.2.1 - 6 < y) (hin : vp_in y g.2.2.2.2.2.1) (hk : g.2.2.2.2.2.2 y.toNatClampNeg &&& 15 = 9) (n : pmE g kLw_law d rc rs 573 [(0, .retAddr 0), (1, .ref 0), (2, .ref 40), (3, .ref 356), (4, .int y)] [] K R I J o Z) : pmE g kLw_law d rc rs 23 [(0, .retAddr 0), (1, .ref 0), (2, .ref 40), (3, .ref 356), (4, .int y)] [] K R I J o Z := by
  refine pm_iload dLw_law_23 rfl ?_
  refine pm_xload_n dLw_law_25 rfl ?_
  refine pm_slen dLw_law_26 ?_
  refine pm_bipush (v := 6) dLw_law_27 (by decide) ?_
  refine pm_isub dLw_law_29 ?_
  refine pm_icmp_gt 852 dLw_law_30 (by decide) (fun h9 => absurd h9 h) (fun _ => ?_)
  refine pm_xload_n dLw_law_33 rfl ?_
  refine pm_iload dLw_law_34 rfl ?_
  refine pm_sald dLw_law_36 hin ?_
  refine pm_bipush (v := 15) dLw_law_37 (by decide) ?_
  refine pm_iand dLw_law_39 ?_
  exact pm_tableIn 573 dLw_law_40 (by rw [hk]; decide) (by rw [hk]; decide) (by first | (rw [hk]; rfl) | rw [hk]) (by decide) n
theorem lw_s10 {g : pmG} {d rc rs : Nat} {y : Int32} {K : List (Nat × Nat)} {R : Nat → Nat → Value} {I : Nat → Nat → Int32} {J : Nat → Nat → Int64} {o : Outcome} {Z : pmM} (h : ¬ Int32.ofNat g.2.2.2.2.2.1 - 6 < y) (hin : vp_in y g.2.2.2.2.2.1) (hk : g.2.2.2.2.2.2 y.toNatClampNeg &&& 15 = 10) (n : pmE g kLw_law d rc rs 641 [(0, .retAddr 0), (1, .ref 0), (2, .ref 40), (3, .ref 356), (4, .int y)] [] K R I J o Z) : pmE g kLw_law d rc rs 23 [(0, .retAddr 0), (1, .ref 0), (2, .ref 40), (3, .ref 356), (4, .int y)] [] K R I J o Z := by
  refine pm_iload dLw_law_23 rfl ?_
  refine pm_xload_n dLw_law_25 rfl ?_
  refine pm_slen dLw_law_26 ?_
  refine pm_bipush (v := 6) dLw_law_27 (by decide) ?_
  refine pm_isub dLw_law_29 ?_
  refine pm_icmp_gt 852 dLw_law_30 (by decide) (fun h9 => absurd h9 h) (fun _ => ?_)
  refine pm_xload_n dLw_law_33 rfl ?_
  refine pm_iload dLw_law_34 rfl ?_
  refine pm_sald dLw_law_36 hin ?_
  refine pm_bipush (v := 15) dLw_law_37 (by decide) ?_
  refine pm_iand dLw_law_39 ?_
  exact pm_tableIn 641 dLw_law_40 (by rw [hk]; decide) (by rw [hk]; decide) (by first | (rw [hk]; rfl) | rw [hk]) (by decide) n
theorem lw_s11 {g : pmG} {d rc rs : Nat} {y : Int32} {K : List (Nat × Nat)} {R : Nat → Nat → Value} {I : Nat → Nat → Int32} {J : Nat → Nat → Int64} {o : Outcome} {Z : pmM} (h : ¬ Int32.ofNat g.2.2.2.2.2.1 - 6 < y) (hin : vp_in y g.2.2.2.2.2.1) (hk : g.2.2.2.2.2.2 y.toNatClampNeg &&& 15 = 11) (n : pmE g kLw_law d rc rs 697 [(0, .retAddr 0), (1, .ref 0), (2, .ref 40), (3, .ref 356), (4, .int y)] [] K R I J o Z) : pmE g kLw_law d rc rs 23 [(0, .retAddr 0), (1, .ref 0), (2, .ref 40), (3, .ref 356), (4, .int y)] [] K R I J o Z := by
  refine pm_iload dLw_law_23 rfl ?_
  refine pm_xload_n dLw_law_25 rfl ?_
  refine pm_slen dLw_law_26 ?_
  refine pm_bipush (v := 6) dLw_law_27 (by decide) ?_
  refine pm_isub dLw_law_29 ?_
  refine pm_icmp_gt 852 dLw_law_30 (by decide) (fun h9 => absurd h9 h) (fun _ => ?_)
  refine pm_xload_n dLw_law_33 rfl ?_
  refine pm_iload dLw_law_34 rfl ?_
  refine pm_sald dLw_law_36 hin ?_
  refine pm_bipush (v := 15) dLw_law_37 (by decide) ?_
  refine pm_iand dLw_law_39 ?_
  exact pm_tableIn 697 dLw_law_40 (by rw [hk]; decide) (by rw [hk]; decide) (by first | (rw [hk]; rfl) | rw [hk]) (by decide) n
theorem lw_s12 {g : pmG} {d rc rs : Nat} {y : Int32} {K : List (Nat × Nat)} {R : Nat → Nat → Value} {I : Nat → Nat → Int32} {J : Nat → Nat → Int64} {o : Outcome} {Z : pmM} (h : ¬ Int32.ofNat g.2.2.2.2.2.1 - 6 < y) (hin : vp_in y g.2.2.2.2.2.1) (hk : g.2.2.2.2.2.2 y.toNatClampNeg &&& 15 = 12) (n : pmE g kLw_law d rc rs 753 [(0, .retAddr 0), (1, .ref 0), (2, .ref 40), (3, .ref 356), (4, .int y)] [] K R I J o Z) : pmE g kLw_law d rc rs 23 [(0, .retAddr 0), (1, .ref 0), (2, .ref 40), (3, .ref 356), (4, .int y)] [] K R I J o Z := by
  refine pm_iload dLw_law_23 rfl ?_
  refine pm_xload_n dLw_law_25 rfl ?_
  refine pm_slen dLw_law_26 ?_
  refine pm_bipush (v := 6) dLw_law_27 (by decide) ?_
  refine pm_isub dLw_law_29 ?_
  refine pm_icmp_gt 852 dLw_law_30 (by decide) (fun h9 => absurd h9 h) (fun _ => ?_)
  refine pm_xload_n dLw_law_33 rfl ?_
  refine pm_iload dLw_law_34 rfl ?_
  refine pm_sald dLw_law_36 hin ?_
  refine pm_bipush (v := 15) dLw_law_37 (by decide) ?_
  refine pm_iand dLw_law_39 ?_
  exact pm_tableIn 753 dLw_law_40 (by rw [hk]; decide) (by rw [hk]; decide) (by first | (rw [hk]; rfl) | rw [hk]) (by decide) n
theorem lw_s13 {g : pmG} {d rc rs : Nat} {y : Int32} {K : List (Nat × Nat)} {R : Nat → Nat → Value} {I : Nat → Nat → Int32} {J : Nat → Nat → Int64} {o : Outcome} {Z : pmM} (h : ¬ Int32.ofNat g.2.2.2.2.2.1 - 6 < y) (hin : vp_in y g.2.2.2.2.2.1) (hk : g.2.2.2.2.2.2 y.toNatClampNeg &&& 15 = 13) (n : pmE g kLw_law d rc rs 821 [(0, .retAddr 0), (1, .ref 0), (2, .ref 40), (3, .ref 356), (4, .int y)] [] K R I J o Z) : pmE g kLw_law d rc rs 23 [(0, .retAddr 0), (1, .ref 0), (2, .ref 40), (3, .ref 356), (4, .int y)] [] K R I J o Z := by
  refine pm_iload dLw_law_23 rfl ?_
  refine pm_xload_n dLw_law_25 rfl ?_
  refine pm_slen dLw_law_26 ?_
  refine pm_bipush (v := 6) dLw_law_27 (by decide) ?_
  refine pm_isub dLw_law_29 ?_
  refine pm_icmp_gt 852 dLw_law_30 (by decide) (fun h9 => absurd h9 h) (fun _ => ?_)
  refine pm_xload_n dLw_law_33 rfl ?_
  refine pm_iload dLw_law_34 rfl ?_
  refine pm_sald dLw_law_36 hin ?_
  refine pm_bipush (v := 15) dLw_law_37 (by decide) ?_
  refine pm_iand dLw_law_39 ?_
  exact pm_tableIn 821 dLw_law_40 (by rw [hk]; decide) (by rw [hk]; decide) (by first | (rw [hk]; rfl) | rw [hk]) (by decide) n
theorem lw_sD {g : pmG} {d rc rs : Nat} {y : Int32} {K : List (Nat × Nat)} {R : Nat → Nat → Value} {I : Nat → Nat → Int32} {J : Nat → Nat → Int64} {o : Outcome} {Z : pmM} (h : ¬ Int32.ofNat g.2.2.2.2.2.1 - 6 < y) (hin : vp_in y g.2.2.2.2.2.1) (hk : g.2.2.2.2.2.2 y.toNatClampNeg &&& 15 = 14 ∨ g.2.2.2.2.2.2 y.toNatClampNeg &&& 15 = 15) (n : pmE g kLw_law d rc rs 846 [(0, .retAddr 0), (1, .ref 0), (2, .ref 40), (3, .ref 356), (4, .int y)] [] K R I J o Z) : pmE g kLw_law d rc rs 23 [(0, .retAddr 0), (1, .ref 0), (2, .ref 40), (3, .ref 356), (4, .int y)] [] K R I J o Z := by
  refine pm_iload dLw_law_23 rfl ?_
  refine pm_xload_n dLw_law_25 rfl ?_
  refine pm_slen dLw_law_26 ?_
  refine pm_bipush (v := 6) dLw_law_27 (by decide) ?_
  refine pm_isub dLw_law_29 ?_
  refine pm_icmp_gt 852 dLw_law_30 (by decide) (fun h9 => absurd h9 h) (fun _ => ?_)
  refine pm_xload_n dLw_law_33 rfl ?_
  refine pm_iload dLw_law_34 rfl ?_
  refine pm_sald dLw_law_36 hin ?_
  refine pm_bipush (v := 15) dLw_law_37 (by decide) ?_
  refine pm_iand dLw_law_39 ?_
  exact pm_tableOut 846 dLw_law_40 (by rcases hk with hk | hk <;> rw [hk] <;> decide) (by decide) n
def Rlw (R : Nat → Nat → Value) : Nat → Nat → Value := pm_z (RMo_init (pm_z (RCh_init_0 (pm_z R 0 .null)) 40 .null)) 356 .null
def Ilw (I : Nat → Nat → Int32) (J : Nat → Nat → Int64) : Nat → Nat → Int32 := pm_z (IMo_init (pm_z (fCh_workOut (ICh_init_0_b (pm_z I 0 0)) (JCh_init_0_b (pm_z J 0 0))).1 40 0)) 356 0
def Jlw (I : Nat → Nat → Int32) (J : Nat → Nat → Int64) : Nat → Nat → Int64 := pm_z (JMo_init (pm_z (fCh_workOut (ICh_init_0_b (pm_z I 0 0)) (JCh_init_0_b (pm_z J 0 0))).2 40 0)) 356 0
set_option maxHeartbeats 4000000 in
set_option maxRecDepth 100000 in
theorem lw_begin {g : pmG} {d rc rs : Nat} {R : Nat → Nat → Value} {I : Nat → Nat → Int32} {J : Nat → Nat → Int64} {o : Outcome} {Z : pmM} (hp : pCh_workOut (ICh_init_0_b (pm_z I 0 0)) (JCh_init_0_b (pm_z J 0 0))) (n : pmE g kLw_law (d + 8) rc rs 23 [(0, .retAddr 0), (1, .ref 0), (2, .ref 40), (3, .ref 356), (4, .int 0)] [] (mk_K ++ [(4, 1)]) (Rlw R) (Ilw I J) (Jlw I J) o Z) : pmE g kLw_law (d + 8) (rc + 357) (rs + 271259) 0 [(0, .retAddr 0)] [] [] R I J o Z := by
  refine pm_newL (rc + 356) (rs + 271251) 0 [(0, 0)] (Nat.le_refl _) (Nat.le_refl _) rfl rfl dLw_law_0 nLw_8 ?_
  refine pm_dup dLw_law_3 rfl ?_
  refine pm_callI (rc1 := rc + 317) (rs1 := rs + 114857) dLw_law_4 lLw_50 iCh_init (Ch_init_0_ok g d _ _ _ hp) rfl rfl (Nat.le_of_ble_eq_true rfl) (Nat.le_refl _) (Nat.le_refl _) ?_
  refine pm_astore_n dLw_law_7 (by decide) rfl ?_
  refine pm_newL (rc + 316) (rs + 114804) 40 (pk_K ++ [(0, 10)]) (Nat.le_refl _) (Nat.le_refl _) rfl rfl dLw_law_8 nLw_51 ?_
  refine pm_dup dLw_law_11 rfl ?_
  refine pm_callI (rc1 := rc + 1) (rs1 := rs + 1) dLw_law_12 lLw_53 iMo_init (Mo_init_ok g (d + 6) _ _ _) rfl rfl (Nat.le_of_ble_eq_true rfl) (Nat.le_refl _) (Nat.le_refl _) ?_
  refine pm_astore_n dLw_law_15 (by decide) rfl ?_
  refine pm_iconst (v := 1) dLw_law_16 (by decide) ?_
  refine pm_newaL (t := 4) (N := 1) rc rs 356 (mk_K ++ [(4, 1)]) (Nat.le_refl _) (Nat.le_refl _) lw_len rfl dLw_law_17 rfl (Or.inr (Or.inr (Or.inr ⟨rfl, rfl⟩))) ac_long (by decide) (by decide) (by decide) ?_
  refine pm_astore_n dLw_law_19 (by decide) rfl ?_
  refine pm_iconst (v := 0) dLw_law_20 (by decide) ?_
  refine pm_istore dLw_law_21 (by decide) rfl ?_
  exact pm_wk [4, 3, 2, 1, 0] rfl n
