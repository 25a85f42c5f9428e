section PMA
variable {g : pmG} {k : pmK} {d rc rs pc : Nat} {L : List (Nat × Value)} {S : List Value} {K : List (Nat × Nat)} {R : Nat → Nat → Value} {I : Nat → Nat → Int32} {J : Nat → Nat → Int64} {o : Outcome} {Z : pmM}
theorem pm_iconst {i : Int} {v : Int32} (h : decode k.2.1 pc = .ok (.iconst i, 1)) (hv : Int32.ofInt i = v) (n : pmE g k d rc rs (pc + 1) L (.int v :: S) K R I J o Z) : pmE g k d rc rs (pc) L (S) K R I J o Z := by
  intro p e Rm s m args below meth c H locs cells slots mc ms ls hC h1 h2 h3 h4 hl hA
  exact lv_iconst hC.1 hC.2.1 h hv (n p e Rm s m args below meth c H locs cells slots mc ms ls hC h1 h2 h3 h4 hl hA)
theorem pm_bipush {i : Int} {v : Int32} (h : decode k.2.1 pc = .ok (.bipush i, 2)) (hv : (Int8.ofInt i).toInt32 = v) (n : pmE g k d rc rs (pc + 2) L (.int v :: S) K R I J o Z) : pmE g k d rc rs (pc) L (S) K R I J o Z := by
  intro p e Rm s m args below meth c H locs cells slots mc ms ls hC h1 h2 h3 h4 hl hA
  exact lv_bipush hC.1 hC.2.1 h hv (n p e Rm s m args below meth c H locs cells slots mc ms ls hC h1 h2 h3 h4 hl hA)
theorem pm_sipush {i : Int} {v : Int32} (h : decode k.2.1 pc = .ok (.sipush i, 3)) (hv : (Int16.ofInt i).toInt32 = v) (n : pmE g k d rc rs (pc + 3) L (.int v :: S) K R I J o Z) : pmE g k d rc rs (pc) L (S) K R I J o Z := by
  intro p e Rm s m args below meth c H locs cells slots mc ms ls hC h1 h2 h3 h4 hl hA
  exact lv_sipush hC.1 hC.2.1 h hv (n p e Rm s m args below meth c H locs cells slots mc ms ls hC h1 h2 h3 h4 hl hA)
theorem pm_lconst {i : Fin 2} {v : Int64} (h : decode k.2.1 pc = .ok (.lconst i, 1)) (hv : Int64.ofNat (i : Nat) = v) (n : pmE g k d rc rs (pc + 1) L (.long v :: S) K R I J o Z) : pmE g k d rc rs (pc) L (S) K R I J o Z := by
  intro p e Rm s m args below meth c H locs cells slots mc ms ls hC h1 h2 h3 h4 hl hA
  exact lv_lconst hC.1 hC.2.1 h hv (n p e Rm s m args below meth c H locs cells slots mc ms ls hC h1 h2 h3 h4 hl hA)
theorem pm_iadd {x y : Int32} (h : decode k.2.1 pc = .ok (.iadd, 1))  (n : pmE g k d rc rs (pc + 1) L (.int (x + y) :: S) K R I J o Z) : pmE g k d rc rs (pc) L (.int y :: .int x :: S) K R I J o Z := by
  intro p e Rm s m args below meth c H locs cells slots mc ms ls hC h1 h2 h3 h4 hl hA
  exact lv_iadd hC.1 hC.2.1 h  (n p e Rm s m args below meth c H locs cells slots mc ms ls hC h1 h2 h3 h4 hl hA)
theorem pm_isub {x y : Int32} (h : decode k.2.1 pc = .ok (.isub, 1))  (n : pmE g k d rc rs (pc + 1) L (.int (x - y) :: S) K R I J o Z) : pmE g k d rc rs (pc) L (.int y :: .int x :: S) K R I J o Z := by
  intro p e Rm s m args below meth c H locs cells slots mc ms ls hC h1 h2 h3 h4 hl hA
  exact lv_isub hC.1 hC.2.1 h  (n p e Rm s m args below meth c H locs cells slots mc ms ls hC h1 h2 h3 h4 hl hA)
theorem pm_imul {x y : Int32} (h : decode k.2.1 pc = .ok (.imul, 1))  (n : pmE g k d rc rs (pc + 1) L (.int (x * y) :: S) K R I J o Z) : pmE g k d rc rs (pc) L (.int y :: .int x :: S) K R I J o Z := by
  intro p e Rm s m args below meth c H locs cells slots mc ms ls hC h1 h2 h3 h4 hl hA
  exact lv_imul hC.1 hC.2.1 h  (n p e Rm s m args below meth c H locs cells slots mc ms ls hC h1 h2 h3 h4 hl hA)
theorem pm_iand {x y : Int32} (h : decode k.2.1 pc = .ok (.iand, 1))  (n : pmE g k d rc rs (pc + 1) L (.int (x &&& y) :: S) K R I J o Z) : pmE g k d rc rs (pc) L (.int y :: .int x :: S) K R I J o Z := by
  intro p e Rm s m args below meth c H locs cells slots mc ms ls hC h1 h2 h3 h4 hl hA
  exact lv_iand hC.1 hC.2.1 h  (n p e Rm s m args below meth c H locs cells slots mc ms ls hC h1 h2 h3 h4 hl hA)
theorem pm_ior {x y : Int32} (h : decode k.2.1 pc = .ok (.ior, 1))  (n : pmE g k d rc rs (pc + 1) L (.int (x ||| y) :: S) K R I J o Z) : pmE g k d rc rs (pc) L (.int y :: .int x :: S) K R I J o Z := by
  intro p e Rm s m args below meth c H locs cells slots mc ms ls hC h1 h2 h3 h4 hl hA
  exact lv_ior hC.1 hC.2.1 h  (n p e Rm s m args below meth c H locs cells slots mc ms ls hC h1 h2 h3 h4 hl hA)
theorem pm_ixor {x y : Int32} (h : decode k.2.1 pc = .ok (.ixor, 1))  (n : pmE g k d rc rs (pc + 1) L (.int (x ^^^ y) :: S) K R I J o Z) : pmE g k d rc rs (pc) L (.int y :: .int x :: S) K R I J o Z := by
  intro p e Rm s m args below meth c H locs cells slots mc ms ls hC h1 h2 h3 h4 hl hA
  exact lv_ixor hC.1 hC.2.1 h  (n p e Rm s m args below meth c H locs cells slots mc ms ls hC h1 h2 h3 h4 hl hA)
theorem pm_ishl {x y : Int32} (h : decode k.2.1 pc = .ok (.ishl, 1))  (n : pmE g k d rc rs (pc + 1) L (.int (x <<< (y &&& 31)) :: S) K R I J o Z) : pmE g k d rc rs (pc) L (.int y :: .int x :: S) K R I J o Z := by
  intro p e Rm s m args below meth c H locs cells slots mc ms ls hC h1 h2 h3 h4 hl hA
  exact lv_ishl hC.1 hC.2.1 h  (n p e Rm s m args below meth c H locs cells slots mc ms ls hC h1 h2 h3 h4 hl hA)
theorem pm_ishr {x y : Int32} (h : decode k.2.1 pc = .ok (.ishr, 1))  (n : pmE g k d rc rs (pc + 1) L (.int (x >>> (y &&& 31)) :: S) K R I J o Z) : pmE g k d rc rs (pc) L (.int y :: .int x :: S) K R I J o Z := by
  intro p e Rm s m args below meth c H locs cells slots mc ms ls hC h1 h2 h3 h4 hl hA
  exact lv_ishr hC.1 hC.2.1 h  (n p e Rm s m args below meth c H locs cells slots mc ms ls hC h1 h2 h3 h4 hl hA)
theorem pm_idiv {x y : Int32} (h : decode k.2.1 pc = .ok (.idiv, 1)) (hne : ¬ y = 0) (n : pmE g k d rc rs (pc + 1) L (.int (x / y) :: S) K R I J o Z) : pmE g k d rc rs (pc) L (.int y :: .int x :: S) K R I J o Z := by
  intro p e Rm s m args below meth c H locs cells slots mc ms ls hC h1 h2 h3 h4 hl hA
  exact lv_idiv hC.1 hC.2.1 h hne (n p e Rm s m args below meth c H locs cells slots mc ms ls hC h1 h2 h3 h4 hl hA)
theorem pm_irem {x y : Int32} (h : decode k.2.1 pc = .ok (.irem, 1)) (hne : ¬ y = 0) (n : pmE g k d rc rs (pc + 1) L (.int (x - x / y * y) :: S) K R I J o Z) : pmE g k d rc rs (pc) L (.int y :: .int x :: S) K R I J o Z := by
  intro p e Rm s m args below meth c H locs cells slots mc ms ls hC h1 h2 h3 h4 hl hA
  exact lv_irem hC.1 hC.2.1 h hne (n p e Rm s m args below meth c H locs cells slots mc ms ls hC h1 h2 h3 h4 hl hA)
theorem pm_iushr {x y : Int32} (h : decode k.2.1 pc = .ok (.iushr, 1))  (n : pmE g k d rc rs (pc + 1) L (.int (x.toUInt32 >>> (y.toUInt32 &&& Int32.toUInt32 31)).toInt32 :: S) K R I J o Z) : pmE g k d rc rs (pc) L (.int y :: .int x :: S) K R I J o Z := by
  intro p e Rm s m args below meth c H locs cells slots mc ms ls hC h1 h2 h3 h4 hl hA
  exact lv_iushr hC.1 hC.2.1 h rfl (n p e Rm s m args below meth c H locs cells slots mc ms ls hC h1 h2 h3 h4 hl hA)
theorem pm_ineg {x : Int32} (h : decode k.2.1 pc = .ok (.ineg, 1))  (n : pmE g k d rc rs (pc + 1) L (.int (-x) :: S) K R I J o Z) : pmE g k d rc rs (pc) L (.int x :: S) K R I J o Z := by
  intro p e Rm s m args below meth c H locs cells slots mc ms ls hC h1 h2 h3 h4 hl hA
  exact lv_ineg hC.1 hC.2.1 h  (n p e Rm s m args below meth c H locs cells slots mc ms ls hC h1 h2 h3 h4 hl hA)
theorem pm_ladd {x y : Int64} (h : decode k.2.1 pc = .ok (.ladd, 1))  (n : pmE g k d rc rs (pc + 1) L (.long (x + y) :: S) K R I J o Z) : pmE g k d rc rs (pc) L (.long y :: .long x :: S) K R I J o Z := by
  intro p e Rm s m args below meth c H locs cells slots mc ms ls hC h1 h2 h3 h4 hl hA
  exact lv_ladd hC.1 hC.2.1 h  (n p e Rm s m args below meth c H locs cells slots mc ms ls hC h1 h2 h3 h4 hl hA)
theorem pm_lsub {x y : Int64} (h : decode k.2.1 pc = .ok (.lsub, 1))  (n : pmE g k d rc rs (pc + 1) L (.long (x - y) :: S) K R I J o Z) : pmE g k d rc rs (pc) L (.long y :: .long x :: S) K R I J o Z := by
  intro p e Rm s m args below meth c H locs cells slots mc ms ls hC h1 h2 h3 h4 hl hA
  exact lv_lsub hC.1 hC.2.1 h  (n p e Rm s m args below meth c H locs cells slots mc ms ls hC h1 h2 h3 h4 hl hA)
theorem pm_lmul {x y : Int64} (h : decode k.2.1 pc = .ok (.lmul, 1))  (n : pmE g k d rc rs (pc + 1) L (.long (x * y) :: S) K R I J o Z) : pmE g k d rc rs (pc) L (.long y :: .long x :: S) K R I J o Z := by
  intro p e Rm s m args below meth c H locs cells slots mc ms ls hC h1 h2 h3 h4 hl hA
  exact lv_lmul hC.1 hC.2.1 h  (n p e Rm s m args below meth c H locs cells slots mc ms ls hC h1 h2 h3 h4 hl hA)
theorem pm_land {x y : Int64} (h : decode k.2.1 pc = .ok (.land, 1))  (n : pmE g k d rc rs (pc + 1) L (.long (x &&& y) :: S) K R I J o Z) : pmE g k d rc rs (pc) L (.long y :: .long x :: S) K R I J o Z := by
  intro p e Rm s m args below meth c H locs cells slots mc ms ls hC h1 h2 h3 h4 hl hA
  exact lv_land hC.1 hC.2.1 h  (n p e Rm s m args below meth c H locs cells slots mc ms ls hC h1 h2 h3 h4 hl hA)
theorem pm_lor {x y : Int64} (h : decode k.2.1 pc = .ok (.lor, 1))  (n : pmE g k d rc rs (pc + 1) L (.long (x ||| y) :: S) K R I J o Z) : pmE g k d rc rs (pc) L (.long y :: .long x :: S) K R I J o Z := by
  intro p e Rm s m args below meth c H locs cells slots mc ms ls hC h1 h2 h3 h4 hl hA
  exact lv_lor hC.1 hC.2.1 h  (n p e Rm s m args below meth c H locs cells slots mc ms ls hC h1 h2 h3 h4 hl hA)
theorem pm_lxor {x y : Int64} (h : decode k.2.1 pc = .ok (.lxor, 1))  (n : pmE g k d rc rs (pc + 1) L (.long (x ^^^ y) :: S) K R I J o Z) : pmE g k d rc rs (pc) L (.long y :: .long x :: S) K R I J o Z := by
  intro p e Rm s m args below meth c H locs cells slots mc ms ls hC h1 h2 h3 h4 hl hA
  exact lv_lxor hC.1 hC.2.1 h  (n p e Rm s m args below meth c H locs cells slots mc ms ls hC h1 h2 h3 h4 hl hA)
theorem pm_lneg {x : Int64} (h : decode k.2.1 pc = .ok (.lneg, 1))  (n : pmE g k d rc rs (pc + 1) L (.long (-x) :: S) K R I J o Z) : pmE g k d rc rs (pc) L (.long x :: S) K R I J o Z := by
  intro p e Rm s m args below meth c H locs cells slots mc ms ls hC h1 h2 h3 h4 hl hA
  exact lv_lneg hC.1 hC.2.1 h  (n p e Rm s m args below meth c H locs cells slots mc ms ls hC h1 h2 h3 h4 hl hA)
theorem pm_lushr {x : Int64} {y : Int32} (h : decode k.2.1 pc = .ok (.lushr, 1))  (n : pmE g k d rc rs (pc + 1) L (.long (x.toUInt64 >>> (y.toInt64.toUInt64 &&& Int64.toUInt64 63)).toInt64 :: S) K R I J o Z) : pmE g k d rc rs (pc) L (.int y :: .long x :: S) K R I J o Z := by
  intro p e Rm s m args below meth c H locs cells slots mc ms ls hC h1 h2 h3 h4 hl hA
  exact lv_lushr hC.1 hC.2.1 h rfl (n p e Rm s m args below meth c H locs cells slots mc ms ls hC h1 h2 h3 h4 hl hA)
theorem pm_lshl {x : Int64} {y : Int32} (h : decode k.2.1 pc = .ok (.lshl, 1))  (n : pmE g k d rc rs (pc + 1) L (.long (x <<< (y.toInt64 &&& 63)) :: S) K R I J o Z) : pmE g k d rc rs (pc) L (.int y :: .long x :: S) K R I J o Z := by
  intro p e Rm s m args below meth c H locs cells slots mc ms ls hC h1 h2 h3 h4 hl hA
  exact lv_lshl hC.1 hC.2.1 h rfl (n p e Rm s m args below meth c H locs cells slots mc ms ls hC h1 h2 h3 h4 hl hA)
theorem pm_lshr {x : Int64} {y : Int32} (h : decode k.2.1 pc = .ok (.lshr, 1))  (n : pmE g k d rc rs (pc + 1) L (.long (x >>> (y.toInt64 &&& 63)) :: S) K R I J o Z) : pmE g k d rc rs (pc) L (.int y :: .long x :: S) K R I J o Z := by
  intro p e Rm s m args below meth c H locs cells slots mc ms ls hC h1 h2 h3 h4 hl hA
  exact lv_lshr hC.1 hC.2.1 h rfl (n p e Rm s m args below meth c H locs cells slots mc ms ls hC h1 h2 h3 h4 hl hA)
theorem pm_i2l {x : Int32} (h : decode k.2.1 pc = .ok (.i2l, 1))  (n : pmE g k d rc rs (pc + 1) L (.long x.toInt64 :: S) K R I J o Z) : pmE g k d rc rs (pc) L (.int x :: S) K R I J o Z := by
  intro p e Rm s m args below meth c H locs cells slots mc ms ls hC h1 h2 h3 h4 hl hA
  exact lv_i2l hC.1 hC.2.1 h rfl (n p e Rm s m args below meth c H locs cells slots mc ms ls hC h1 h2 h3 h4 hl hA)
theorem pm_l2i {x : Int64} (h : decode k.2.1 pc = .ok (.l2i, 1))  (n : pmE g k d rc rs (pc + 1) L (.int x.toInt32 :: S) K R I J o Z) : pmE g k d rc rs (pc) L (.long x :: S) K R I J o Z := by
  intro p e Rm s m args below meth c H locs cells slots mc ms ls hC h1 h2 h3 h4 hl hA
  exact lv_l2i hC.1 hC.2.1 h rfl (n p e Rm s m args below meth c H locs cells slots mc ms ls hC h1 h2 h3 h4 hl hA)
theorem pm_i2b {x : Int32} (h : decode k.2.1 pc = .ok (.i2b, 1))  (n : pmE g k d rc rs (pc + 1) L (.int x.toInt8.toInt32 :: S) K R I J o Z) : pmE g k d rc rs (pc) L (.int x :: S) K R I J o Z := by
  intro p e Rm s m args below meth c H locs cells slots mc ms ls hC h1 h2 h3 h4 hl hA
  exact lv_i2b hC.1 hC.2.1 h rfl (n p e Rm s m args below meth c H locs cells slots mc ms ls hC h1 h2 h3 h4 hl hA)
theorem pm_i2c {x : Int32} (h : decode k.2.1 pc = .ok (.i2c, 1))  (n : pmE g k d rc rs (pc + 1) L (.int (x.toUInt32 % 65536).toInt32 :: S) K R I J o Z) : pmE g k d rc rs (pc) L (.int x :: S) K R I J o Z := by
  intro p e Rm s m args below meth c H locs cells slots mc ms ls hC h1 h2 h3 h4 hl hA
  exact lv_i2c hC.1 hC.2.1 h rfl (n p e Rm s m args below meth c H locs cells slots mc ms ls hC h1 h2 h3 h4 hl hA)
theorem pm_dup {u : Value} (h : decode k.2.1 pc = .ok (.dup, 1)) (hc : u.category = 1) (n : pmE g k d rc rs (pc + 1) L (u :: u :: S) K R I J o Z) : pmE g k d rc rs (pc) L (u :: S) K R I J o Z := by
  intro p e Rm s m args below meth c H locs cells slots mc ms ls hC h1 h2 h3 h4 hl hA
  exact lv_dup hC.1 hC.2.1 h (by rw [pm_tr_cat]; exact hc) (n p e Rm s m args below meth c H locs cells slots mc ms ls hC h1 h2 h3 h4 hl hA)
theorem pm_pop {u : Value} (h : decode k.2.1 pc = .ok (.pop, 1)) (hc : u.category = 1) (n : pmE g k d rc rs (pc + 1) L (S) K R I J o Z) : pmE g k d rc rs (pc) L (u :: S) K R I J o Z := by
  intro p e Rm s m args below meth c H locs cells slots mc ms ls hC h1 h2 h3 h4 hl hA
  exact lv_pop hC.1 hC.2.1 h (by rw [pm_tr_cat]; exact hc) (n p e Rm s m args below meth c H locs cells slots mc ms ls hC h1 h2 h3 h4 hl hA)
theorem pm_dup_x1 {u w : Value} (h : decode k.2.1 pc = .ok (.dup_x1, 1)) (hc : u.category = 1) (hc2 : w.category = 1) (n : pmE g k d rc rs (pc + 1) L (u :: w :: u :: S) K R I J o Z) : pmE g k d rc rs (pc) L (u :: w :: S) K R I J o Z := by
  intro p e Rm s m args below meth c H locs cells slots mc ms ls hC h1 h2 h3 h4 hl hA
  exact lv_dup_x1 hC.1 hC.2.1 h (by rw [pm_tr_cat]; exact hc) (by rw [pm_tr_cat]; exact hc2) (n p e Rm s m args below meth c H locs cells slots mc ms ls hC h1 h2 h3 h4 hl hA)
theorem pm_dup2 {u w : Value} (h : decode k.2.1 pc = .ok (.dup2, 1)) (hc : u.category = 1) (hc2 : w.category = 1) (n : pmE g k d rc rs (pc + 1) L (u :: w :: u :: w :: S) K R I J o Z) : pmE g k d rc rs (pc) L (u :: w :: S) K R I J o Z := by
  intro p e Rm s m args below meth c H locs cells slots mc ms ls hC h1 h2 h3 h4 hl hA
  exact lv_dup2_11 hC.1 hC.2.1 h (by rw [pm_tr_cat]; exact hc) (by rw [pm_tr_cat]; exact hc2) (n p e Rm s m args below meth c H locs cells slots mc ms ls hC h1 h2 h3 h4 hl hA)
theorem pm_dup2l {u : Value} (h : decode k.2.1 pc = .ok (.dup2, 1)) (hc : u.category = 2) (n : pmE g k d rc rs (pc + 1) L (u :: u :: S) K R I J o Z) : pmE g k d rc rs (pc) L (u :: S) K R I J o Z := by
  intro p e Rm s m args below meth c H locs cells slots mc ms ls hC h1 h2 h3 h4 hl hA
  exact lv_dup2_2 hC.1 hC.2.1 h (by rw [pm_tr_cat]; exact hc) (n p e Rm s m args below meth c H locs cells slots mc ms ls hC h1 h2 h3 h4 hl hA)
theorem pm_pop2l {u : Value} (h : decode k.2.1 pc = .ok (.pop2, 1)) (hc : u.category = 2) (n : pmE g k d rc rs (pc + 1) L (S) K R I J o Z) : pmE g k d rc rs (pc) L (u :: S) K R I J o Z := by
  intro p e Rm s m args below meth c H locs cells slots mc ms ls hC h1 h2 h3 h4 hl hA
  exact lv_pop2_2 hC.1 hC.2.1 h (by rw [pm_tr_cat]; exact hc) (n p e Rm s m args below meth c H locs cells slots mc ms ls hC h1 h2 h3 h4 hl hA)
theorem pm_pop2 {u w : Value} (h : decode k.2.1 pc = .ok (.pop2, 1)) (hc : u.category = 1) (hc2 : w.category = 1) (n : pmE g k d rc rs (pc + 1) L (S) K R I J o Z) : pmE g k d rc rs (pc) L (u :: w :: S) K R I J o Z := by
  intro p e Rm s m args below meth c H locs cells slots mc ms ls hC h1 h2 h3 h4 hl hA
  exact lv_pop2_11 hC.1 hC.2.1 h (by rw [pm_tr_cat]; exact hc) (by rw [pm_tr_cat]; exact hc2) (n p e Rm s m args below meth c H locs cells slots mc ms ls hC h1 h2 h3 h4 hl hA)
theorem pm_dup_x2 {u w z : Value} (h : decode k.2.1 pc = .ok (.dup_x2, 1)) (hc : u.category = 1) (hc2 : w.category = 1) (hc3 : z.category = 1) (n : pmE g k d rc rs (pc + 1) L (u :: w :: z :: u :: S) K R I J o Z) : pmE g k d rc rs (pc) L (u :: w :: z :: S) K R I J o Z := by
  intro p e Rm s m args below meth c H locs cells slots mc ms ls hC h1 h2 h3 h4 hl hA
  exact lv_dup_x2 hC.1 hC.2.1 h (by rw [pm_tr_cat]; exact hc) (by rw [pm_tr_cat]; exact hc2) (by rw [pm_tr_cat]; exact hc3) (n p e Rm s m args below meth c H locs cells slots mc ms ls hC h1 h2 h3 h4 hl hA)
theorem pm_dup2_x1l {u w : Value} (h : decode k.2.1 pc = .ok (.dup2_x1, 1)) (hc : u.category = 2) (hc2 : w.category = 1) (n : pmE g k d rc rs (pc + 1) L (u :: w :: u :: S) K R I J o Z) : pmE g k d rc rs (pc) L (u :: w :: S) K R I J o Z := by
  intro p e Rm s m args below meth c H locs cells slots mc ms ls hC h1 h2 h3 h4 hl hA
  exact lv_dup2_x1_2 hC.1 hC.2.1 h (by rw [pm_tr_cat]; exact hc) (by rw [pm_tr_cat]; exact hc2) (n p e Rm s m args below meth c H locs cells slots mc ms ls hC h1 h2 h3 h4 hl hA)
theorem pm_dup2_x2l {u w z : Value} (h : decode k.2.1 pc = .ok (.dup2_x2, 1)) (hc : u.category = 2) (hc2 : w.category = 1) (hc3 : z.category = 1) (n : pmE g k d rc rs (pc + 1) L (u :: w :: z :: u :: S) K R I J o Z) : pmE g k d rc rs (pc) L (u :: w :: z :: S) K R I J o Z := by
  intro p e Rm s m args below meth c H locs cells slots mc ms ls hC h1 h2 h3 h4 hl hA
  exact lv_dup2_x2_2 hC.1 hC.2.1 h (by rw [pm_tr_cat]; exact hc) (by rw [pm_tr_cat]; exact hc2) (by rw [pm_tr_cat]; exact hc3) (n p e Rm s m args below meth c H locs cells slots mc ms ls hC h1 h2 h3 h4 hl hA)
theorem pm_if_eq {x : Int32} {off : Int} (tgt : Nat) (h : decode k.2.1 pc = .ok (.ifCond .eq off, 3)) (ht : (pc : Int) + off = (tgt : Int)) (kt : (x = 0) → pmE g k d rc rs (tgt) L (S) K R I J o Z) (kf : ¬ (x = 0) → pmE g k d rc rs (pc + 3) L (S) K R I J o Z) : pmE g k d rc rs (pc) L (.int x :: S) K R I J o Z := by
  intro p e Rm s m args below meth c H locs cells slots mc ms ls hC h1 h2 h3 h4 hl hA
  exact lv_if_eq hC.1 hC.2.1 h ht (fun q => kt q p e Rm s m args below meth c H locs cells slots mc ms ls hC h1 h2 h3 h4 hl hA) (fun q => kf q p e Rm s m args below meth c H locs cells slots mc ms ls hC h1 h2 h3 h4 hl hA)
theorem pm_if_ne {x : Int32} {off : Int} (tgt : Nat) (h : decode k.2.1 pc = .ok (.ifCond .ne off, 3)) (ht : (pc : Int) + off = (tgt : Int)) (kt : (¬ x = 0) → pmE g k d rc rs (tgt) L (S) K R I J o Z) (kf : (x = 0) → pmE g k d rc rs (pc + 3) L (S) K R I J o Z) : pmE g k d rc rs (pc) L (.int x :: S) K R I J o Z := by
  intro p e Rm s m args below meth c H locs cells slots mc ms ls hC h1 h2 h3 h4 hl hA
  exact lv_if_ne hC.1 hC.2.1 h ht (fun q => kt q p e Rm s m args below meth c H locs cells slots mc ms ls hC h1 h2 h3 h4 hl hA) (fun q => kf q p e Rm s m args below meth c H locs cells slots mc ms ls hC h1 h2 h3 h4 hl hA)
theorem pm_if_lt {x : Int32} {off : Int} (tgt : Nat) (h : decode k.2.1 pc = .ok (.ifCond .lt off, 3)) (ht : (pc : Int) + off = (tgt : Int)) (kt : (x < 0) → pmE g k d rc rs (tgt) L (S) K R I J o Z) (kf : ¬ (x < 0) → pmE g k d rc rs (pc + 3) L (S) K R I J o Z) : pmE g k d rc rs (pc) L (.int x :: S) K R I J o Z := by
  intro p e Rm s m args below meth c H locs cells slots mc ms ls hC h1 h2 h3 h4 hl hA
  exact lv_if_lt hC.1 hC.2.1 h ht (fun q => kt q p e Rm s m args below meth c H locs cells slots mc ms ls hC h1 h2 h3 h4 hl hA) (fun q => kf q p e Rm s m args below meth c H locs cells slots mc ms ls hC h1 h2 h3 h4 hl hA)
theorem pm_if_ge {x : Int32} {off : Int} (tgt : Nat) (h : decode k.2.1 pc = .ok (.ifCond .ge off, 3)) (ht : (pc : Int) + off = (tgt : Int)) (kt : (0 ≤ x) → pmE g k d rc rs (tgt) L (S) K R I J o Z) (kf : ¬ (0 ≤ x) → pmE g k d rc rs (pc + 3) L (S) K R I J o Z) : pmE g k d rc rs (pc) L (.int x :: S) K R I J o Z := by
  intro p e Rm s m args below meth c H locs cells slots mc ms ls hC h1 h2 h3 h4 hl hA
  exact lv_if_ge hC.1 hC.2.1 h ht (fun q => kt q p e Rm s m args below meth c H locs cells slots mc ms ls hC h1 h2 h3 h4 hl hA) (fun q => kf q p e Rm s m args below meth c H locs cells slots mc ms ls hC h1 h2 h3 h4 hl hA)
theorem pm_if_gt {x : Int32} {off : Int} (tgt : Nat) (h : decode k.2.1 pc = .ok (.ifCond .gt off, 3)) (ht : (pc : Int) + off = (tgt : Int)) (kt : (0 < x) → pmE g k d rc rs (tgt) L (S) K R I J o Z) (kf : ¬ (0 < x) → pmE g k d rc rs (pc + 3) L (S) K R I J o Z) : pmE g k d rc rs (pc) L (.int x :: S) K R I J o Z := by
  intro p e Rm s m args below meth c H locs cells slots mc ms ls hC h1 h2 h3 h4 hl hA
  exact lv_if_gt hC.1 hC.2.1 h ht (fun q => kt q p e Rm s m args below meth c H locs cells slots mc ms ls hC h1 h2 h3 h4 hl hA) (fun q => kf q p e Rm s m args below meth c H locs cells slots mc ms ls hC h1 h2 h3 h4 hl hA)
theorem pm_if_le {x : Int32} {off : Int} (tgt : Nat) (h : decode k.2.1 pc = .ok (.ifCond .le off, 3)) (ht : (pc : Int) + off = (tgt : Int)) (kt : (x ≤ 0) → pmE g k d rc rs (tgt) L (S) K R I J o Z) (kf : ¬ (x ≤ 0) → pmE g k d rc rs (pc + 3) L (S) K R I J o Z) : pmE g k d rc rs (pc) L (.int x :: S) K R I J o Z := by
  intro p e Rm s m args below meth c H locs cells slots mc ms ls hC h1 h2 h3 h4 hl hA
  exact lv_if_le hC.1 hC.2.1 h ht (fun q => kt q p e Rm s m args below meth c H locs cells slots mc ms ls hC h1 h2 h3 h4 hl hA) (fun q => kf q p e Rm s m args below meth c H locs cells slots mc ms ls hC h1 h2 h3 h4 hl hA)
theorem pm_icmp_eq {x y : Int32} {off : Int} (tgt : Nat) (h : decode k.2.1 pc = .ok (.if_icmp .eq off, 3)) (ht : (pc : Int) + off = (tgt : Int)) (kt : (x = y) → pmE g k d rc rs (tgt) L (S) K R I J o Z) (kf : ¬ (x = y) → pmE g k d rc rs (pc + 3) L (S) K R I J o Z) : pmE g k d rc rs (pc) L (.int y :: .int x :: S) K R I J o Z := by
  intro p e Rm s m args below meth c H locs cells slots mc ms ls hC h1 h2 h3 h4 hl hA
  exact lv_icmp_eq hC.1 hC.2.1 h ht (fun q => kt q p e Rm s m args below meth c H locs cells slots mc ms ls hC h1 h2 h3 h4 hl hA) (fun q => kf q p e Rm s m args below meth c H locs cells slots mc ms ls hC h1 h2 h3 h4 hl hA)
theorem pm_icmp_ne {x y : Int32} {off : Int} (tgt : Nat) (h : decode k.2.1 pc = .ok (.if_icmp .ne off, 3)) (ht : (pc : Int) + off = (tgt : Int)) (kt : (¬ x = y) → pmE g k d rc rs (tgt) L (S) K R I J o Z) (kf : (x = y) → pmE g k d rc rs (pc + 3) L (S) K R I J o Z) : pmE g k d rc rs (pc) L (.int y :: .int x :: S) K R I J o Z := by
  intro p e Rm s m args below meth c H locs cells slots mc ms ls hC h1 h2 h3 h4 hl hA
  exact lv_icmp_ne hC.1 hC.2.1 h ht (fun q => kt q p e Rm s m args below meth c H locs cells slots mc ms ls hC h1 h2 h3 h4 hl hA) (fun q => kf q p e Rm s m args below meth c H locs cells slots mc ms ls hC h1 h2 h3 h4 hl hA)
theorem pm_icmp_lt {x y : Int32} {off : Int} (tgt : Nat) (h : decode k.2.1 pc = .ok (.if_icmp .lt off, 3)) (ht : (pc : Int) + off = (tgt : Int)) (kt : (x < y) → pmE g k d rc rs (tgt) L (S) K R I J o Z) (kf : ¬ (x < y) → pmE g k d rc rs (pc + 3) L (S) K R I J o Z) : pmE g k d rc rs (pc) L (.int y :: .int x :: S) K R I J o Z := by
  intro p e Rm s m args below meth c H locs cells slots mc ms ls hC h1 h2 h3 h4 hl hA
  exact lv_icmp_lt hC.1 hC.2.1 h ht (fun q => kt q p e Rm s m args below meth c H locs cells slots mc ms ls hC h1 h2 h3 h4 hl hA) (fun q => kf q p e Rm s m args below meth c H locs cells slots mc ms ls hC h1 h2 h3 h4 hl hA)
theorem pm_icmp_ge {x y : Int32} {off : Int} (tgt : Nat) (h : decode k.2.1 pc = .ok (.if_icmp .ge off, 3)) (ht : (pc : Int) + off = (tgt : Int)) (kt : (y ≤ x) → pmE g k d rc rs (tgt) L (S) K R I J o Z) (kf : ¬ (y ≤ x) → pmE g k d rc rs (pc + 3) L (S) K R I J o Z) : pmE g k d rc rs (pc) L (.int y :: .int x :: S) K R I J o Z := by
  intro p e Rm s m args below meth c H locs cells slots mc ms ls hC h1 h2 h3 h4 hl hA
  exact lv_icmp_ge hC.1 hC.2.1 h ht (fun q => kt q p e Rm s m args below meth c H locs cells slots mc ms ls hC h1 h2 h3 h4 hl hA) (fun q => kf q p e Rm s m args below meth c H locs cells slots mc ms ls hC h1 h2 h3 h4 hl hA)
theorem pm_icmp_gt {x y : Int32} {off : Int} (tgt : Nat) (h : decode k.2.1 pc = .ok (.if_icmp .gt off, 3)) (ht : (pc : Int) + off = (tgt : Int)) (kt : (y < x) → pmE g k d rc rs (tgt) L (S) K R I J o Z) (kf : ¬ (y < x) → pmE g k d rc rs (pc + 3) L (S) K R I J o Z) : pmE g k d rc rs (pc) L (.int y :: .int x :: S) K R I J o Z := by
  intro p e Rm s m args below meth c H locs cells slots mc ms ls hC h1 h2 h3 h4 hl hA
  exact lv_icmp_gt hC.1 hC.2.1 h ht (fun q => kt q p e Rm s m args below meth c H locs cells slots mc ms ls hC h1 h2 h3 h4 hl hA) (fun q => kf q p e Rm s m args below meth c H locs cells slots mc ms ls hC h1 h2 h3 h4 hl hA)
theorem pm_icmp_le {x y : Int32} {off : Int} (tgt : Nat) (h : decode k.2.1 pc = .ok (.if_icmp .le off, 3)) (ht : (pc : Int) + off = (tgt : Int)) (kt : (x ≤ y) → pmE g k d rc rs (tgt) L (S) K R I J o Z) (kf : ¬ (x ≤ y) → pmE g k d rc rs (pc + 3) L (S) K R I J o Z) : pmE g k d rc rs (pc) L (.int y :: .int x :: S) K R I J o Z := by
  intro p e Rm s m args below meth c H locs cells slots mc ms ls hC h1 h2 h3 h4 hl hA
  exact lv_icmp_le hC.1 hC.2.1 h ht (fun q => kt q p e Rm s m args below meth c H locs cells slots mc ms ls hC h1 h2 h3 h4 hl hA) (fun q => kf q p e Rm s m args below meth c H locs cells slots mc ms ls hC h1 h2 h3 h4 hl hA)
theorem pm_goto {off : Int} (tgt : Nat) (h : decode k.2.1 pc = .ok (.goto off, 3)) (ht : (pc : Int) + off = (tgt : Int)) (n : pmE g k d rc rs (tgt) L (S) K R I J o Z) : pmE g k d rc rs (pc) L (S) K R I J o Z := by
  intro p e Rm s m args below meth c H locs cells slots mc ms ls hC h1 h2 h3 h4 hl hA
  exact lv_goto hC.1 hC.2.1 h ht (n p e Rm s m args below meth c H locs cells slots mc ms ls hC h1 h2 h3 h4 hl hA)
theorem pm_null (h : decode k.2.1 pc = .ok (.aconst_null, 1)) (n : pmE g k d rc rs (pc + 1) L (.null :: S) K R I J o Z) : pmE g k d rc rs (pc) L (S) K R I J o Z := by
  intro p e Rm s m args below meth c H locs cells slots mc ms ls hC h1 h2 h3 h4 hl hA
  exact lv_null hC.1 hC.2.1 h (n p e Rm s m args below meth c H locs cells slots mc ms ls hC h1 h2 h3 h4 hl hA)
theorem pm_lookup {dflt : Int} {ps : Array (Int × Int)} {len : Nat} {x : Int32} {off : Int} (tgt : Nat) (h : decode k.2.1 pc = .ok (.lookupswitch dflt ps, len)) (hp : (ps.toList.zip (ps.toList.drop 1)).all (fun (a, next) => a.1 < next.1) = true) (ho : Op.lookupswitch.offset ps.toList dflt x.toInt = off) (ht : (pc : Int) + off = (tgt : Int)) (n : pmE g k d rc rs (tgt) L (S) K R I J o Z) : pmE g k d rc rs (pc) L (.int x :: S) K R I J o Z := by
  intro p e Rm s m args below meth c H locs cells slots mc ms ls hC h1 h2 h3 h4 hl hA
  exact lv_lookup hC.1 hC.2.1 h hp ho ht (n p e Rm s m args below meth c H locs cells slots mc ms ls hC h1 h2 h3 h4 hl hA)
theorem pm_tableOut {dflt lo hi : Int} {offs : Array Int} {len : Nat} {x : Int32} (tgt : Nat) (h : decode k.2.1 pc = .ok (.tableswitch dflt lo hi offs, len)) (hx : x.toInt < lo ∨ hi < x.toInt) (ht : (pc : Int) + dflt = (tgt : Int)) (n : pmE g k d rc rs (tgt) L (S) K R I J o Z) : pmE g k d rc rs (pc) L (.int x :: S) K R I J o Z := by
  intro p e Rm s m args below meth c H locs cells slots mc ms ls hC h1 h2 h3 h4 hl hA
  exact lv_tableOut hC.1 hC.2.1 h hx ht (n p e Rm s m args below meth c H locs cells slots mc ms ls hC h1 h2 h3 h4 hl hA)
theorem pm_tableIn {dflt lo hi : Int} {offs : Array Int} {len : Nat} {x : Int32} {off : Int} (tgt : Nat) (h : decode k.2.1 pc = .ok (.tableswitch dflt lo hi offs, len)) (hx1 : ¬ x.toInt < lo) (hx2 : ¬ hi < x.toInt) (ho : offs[(x.toInt - lo).toNat]? = some off) (ht : (pc : Int) + off = (tgt : Int)) (n : pmE g k d rc rs (tgt) L (S) K R I J o Z) : pmE g k d rc rs (pc) L (.int x :: S) K R I J o Z := by
  intro p e Rm s m args below meth c H locs cells slots mc ms ls hC h1 h2 h3 h4 hl hA
  exact lv_tableIn hC.1 hC.2.1 h hx1 hx2 ho ht (n p e Rm s m args below meth c H locs cells slots mc ms ls hC h1 h2 h3 h4 hl hA)
theorem pm_iload_n {q : Fin 4} {x : Int32} (h : decode k.2.1 pc = .ok (.iload_n q, 1)) (hv : pm_lk L (q : Nat) = some (.int x)) (n : pmE g k d rc rs (pc + 1) L (.int x :: S) K R I J o Z) : pmE g k d rc rs (pc) L (S) K R I J o Z := by
  intro p e Rm s m args below meth c H locs cells slots mc ms ls hC h1 h2 h3 h4 hl hA
  exact lv_iload_n hC.1 hC.2.1 h rfl (pm_lk_at hl hv) (n p e Rm s m args below meth c H locs cells slots mc ms ls hC h1 h2 h3 h4 hl hA)
theorem pm_iload {i : Nat} {x : Int32} (h : decode k.2.1 pc = .ok (.iload i, 2)) (hv : pm_lk L i = some (.int x)) (n : pmE g k d rc rs (pc + 2) L (.int x :: S) K R I J o Z) : pmE g k d rc rs (pc) L (S) K R I J o Z := by
  intro p e Rm s m args below meth c H locs cells slots mc ms ls hC h1 h2 h3 h4 hl hA
  exact lv_iload hC.1 hC.2.1 h (pm_lk_at hl hv) (n p e Rm s m args below meth c H locs cells slots mc ms ls hC h1 h2 h3 h4 hl hA)
theorem pm_lload_n {q : Fin 4} {x : Int64} (h : decode k.2.1 pc = .ok (.lload_n q, 1)) (hv : pm_lk L (q : Nat) = some (.long x)) (n : pmE g k d rc rs (pc + 1) L (.long x :: S) K R I J o Z) : pmE g k d rc rs (pc) L (S) K R I J o Z := by
  intro p e Rm s m args below meth c H locs cells slots mc ms ls hC h1 h2 h3 h4 hl hA
  exact lv_lload_n hC.1 hC.2.1 h rfl (pm_lk_at hl hv) (n p e Rm s m args below meth c H locs cells slots mc ms ls hC h1 h2 h3 h4 hl hA)
theorem pm_lload {i : Nat} {x : Int64} (h : decode k.2.1 pc = .ok (.lload i, 2)) (hv : pm_lk L i = some (.long x)) (n : pmE g k d rc rs (pc + 2) L (.long x :: S) K R I J o Z) : pmE g k d rc rs (pc) L (S) K R I J o Z := by
  intro p e Rm s m args below meth c H locs cells slots mc ms ls hC h1 h2 h3 h4 hl hA
  exact lv_lload hC.1 hC.2.1 h (pm_lk_at hl hv) (n p e Rm s m args below meth c H locs cells slots mc ms ls hC h1 h2 h3 h4 hl hA)
theorem pm_aload_n {q : Fin 4} {x : Nat} (h : decode k.2.1 pc = .ok (.aload_n q, 1)) (hv : pm_lk L (q : Nat) = some (.ref x)) (n : pmE g k d rc rs (pc + 1) L (.ref x :: S) K R I J o Z) : pmE g k d rc rs (pc) L (S) K R I J o Z := by
  intro p e Rm s m args below meth c H locs cells slots mc ms ls hC h1 h2 h3 h4 hl hA
  exact lv_aload_n hC.1 hC.2.1 h rfl (pm_lk_at hl hv) (n p e Rm s m args below meth c H locs cells slots mc ms ls hC h1 h2 h3 h4 hl hA)
theorem pm_aload {i : Nat} {x : Nat} (h : decode k.2.1 pc = .ok (.aload i, 2)) (hv : pm_lk L i = some (.ref x)) (n : pmE g k d rc rs (pc + 2) L (.ref x :: S) K R I J o Z) : pmE g k d rc rs (pc) L (S) K R I J o Z := by
  intro p e Rm s m args below meth c H locs cells slots mc ms ls hC h1 h2 h3 h4 hl hA
  exact lv_aload hC.1 hC.2.1 h (pm_lk_at hl hv) (n p e Rm s m args below meth c H locs cells slots mc ms ls hC h1 h2 h3 h4 hl hA)
theorem pm_xload_n {q : Fin 4} {x : Nat} (h : decode k.2.1 pc = .ok (.aload_n q, 1)) (hv : pm_lk L (q : Nat) = some (.retAddr x)) (n : pmE g k d rc rs (pc + 1) L (.retAddr x :: S) K R I J o Z) : pmE g k d rc rs (pc) L (S) K R I J o Z := by
  intro p e Rm s m args below meth c H locs cells slots mc ms ls hC h1 h2 h3 h4 hl hA
  exact lv_aload_n hC.1 hC.2.1 h rfl (pm_lk_at hl hv) (n p e Rm s m args below meth c H locs cells slots mc ms ls hC h1 h2 h3 h4 hl hA)
theorem pm_xload {i : Nat} {x : Nat} (h : decode k.2.1 pc = .ok (.aload i, 2)) (hv : pm_lk L i = some (.retAddr x)) (n : pmE g k d rc rs (pc + 2) L (.retAddr x :: S) K R I J o Z) : pmE g k d rc rs (pc) L (S) K R I J o Z := by
  intro p e Rm s m args below meth c H locs cells slots mc ms ls hC h1 h2 h3 h4 hl hA
  exact lv_aload hC.1 hC.2.1 h (pm_lk_at hl hv) (n p e Rm s m args below meth c H locs cells slots mc ms ls hC h1 h2 h3 h4 hl hA)
theorem pm_istore_n {q : Fin 4} {x : Int32} {L' : List (Nat × Value)} (h : decode k.2.1 pc = .ok (.istore_n q, 1)) (hn : (q : Nat) < k.2.2.1) (hL : pm_st1 L (q : Nat) (.int x) = L') (n : pmE g k d rc rs (pc + 1) L' (S) K R I J o Z) : pmE g k d rc rs (pc) L (.int x :: S) K R I J o Z := by
  intro p e Rm s m args below meth c H locs cells slots mc ms ls hC h1 h2 h3 h4 hl hA
  exact lv_istore_n hC.1 hC.2.1 h rfl hl hn (pm_st1_L g L (q : Nat) (.int x)) (fun ls' hl' => n p e Rm s m args below meth c H locs cells slots mc ms ls' hC h1 h2 h3 h4 (by rw [← hL]; exact hl') hA)
theorem pm_istore {i : Nat} {x : Int32} {L' : List (Nat × Value)} (h : decode k.2.1 pc = .ok (.istore i, 2)) (hn : i < k.2.2.1) (hL : pm_st1 L i (.int x) = L') (n : pmE g k d rc rs (pc + 2) L' (S) K R I J o Z) : pmE g k d rc rs (pc) L (.int x :: S) K R I J o Z := by
  intro p e Rm s m args below meth c H locs cells slots mc ms ls hC h1 h2 h3 h4 hl hA
  exact lv_istore hC.1 hC.2.1 h hl hn (pm_st1_L g L i (.int x)) (fun ls' hl' => n p e Rm s m args below meth c H locs cells slots mc ms ls' hC h1 h2 h3 h4 (by rw [← hL]; exact hl') hA)
theorem pm_lstore_n {q : Fin 4} {x : Int64} {L' : List (Nat × Value)} (h : decode k.2.1 pc = .ok (.lstore_n q, 1)) (hn : (q : Nat) + 1 < k.2.2.1) (hL : pm_st2 L (q : Nat) (.long x) = L') (n : pmE g k d rc rs (pc + 1) L' (S) K R I J o Z) : pmE g k d rc rs (pc) L (.long x :: S) K R I J o Z := by
  intro p e Rm s m args below meth c H locs cells slots mc ms ls hC h1 h2 h3 h4 hl hA
  exact lv_lstore_n hC.1 hC.2.1 h rfl hl hn (pm_st2_L g L (q : Nat) (.long x)) (fun ls' hl' => n p e Rm s m args below meth c H locs cells slots mc ms ls' hC h1 h2 h3 h4 (by rw [← hL]; exact hl') hA)
theorem pm_lstore {i : Nat} {x : Int64} {L' : List (Nat × Value)} (h : decode k.2.1 pc = .ok (.lstore i, 2)) (hn : i + 1 < k.2.2.1) (hL : pm_st2 L i (.long x) = L') (n : pmE g k d rc rs (pc + 2) L' (S) K R I J o Z) : pmE g k d rc rs (pc) L (.long x :: S) K R I J o Z := by
  intro p e Rm s m args below meth c H locs cells slots mc ms ls hC h1 h2 h3 h4 hl hA
  exact lv_lstore hC.1 hC.2.1 h hl hn (pm_st2_L g L i (.long x)) (fun ls' hl' => n p e Rm s m args below meth c H locs cells slots mc ms ls' hC h1 h2 h3 h4 (by rw [← hL]; exact hl') hA)
theorem pm_astore_n {q : Fin 4} {x : Nat} {L' : List (Nat × Value)} (h : decode k.2.1 pc = .ok (.astore_n q, 1)) (hn : (q : Nat) < k.2.2.1) (hL : pm_st1 L (q : Nat) (.ref x) = L') (n : pmE g k d rc rs (pc + 1) L' (S) K R I J o Z) : pmE g k d rc rs (pc) L (.ref x :: S) K R I J o Z := by
  intro p e Rm s m args below meth c H locs cells slots mc ms ls hC h1 h2 h3 h4 hl hA
  exact lv_astore_n hC.1 hC.2.1 h rfl hl hn (pm_st1_L g L (q : Nat) (.ref x)) (fun ls' hl' => n p e Rm s m args below meth c H locs cells slots mc ms ls' hC h1 h2 h3 h4 (by rw [← hL]; exact hl') hA)
theorem pm_astore {i : Nat} {x : Nat} {L' : List (Nat × Value)} (h : decode k.2.1 pc = .ok (.astore i, 2)) (hn : i < k.2.2.1) (hL : pm_st1 L i (.ref x) = L') (n : pmE g k d rc rs (pc + 2) L' (S) K R I J o Z) : pmE g k d rc rs (pc) L (.ref x :: S) K R I J o Z := by
  intro p e Rm s m args below meth c H locs cells slots mc ms ls hC h1 h2 h3 h4 hl hA
  exact lv_astore hC.1 hC.2.1 h hl hn (pm_st1_L g L i (.ref x)) (fun ls' hl' => n p e Rm s m args below meth c H locs cells slots mc ms ls' hC h1 h2 h3 h4 (by rw [← hL]; exact hl') hA)
theorem pm_xstore_n {q : Fin 4} {x : Nat} {L' : List (Nat × Value)} (h : decode k.2.1 pc = .ok (.astore_n q, 1)) (hn : (q : Nat) < k.2.2.1) (hL : pm_st1 L (q : Nat) (.retAddr x) = L') (n : pmE g k d rc rs (pc + 1) L' (S) K R I J o Z) : pmE g k d rc rs (pc) L (.retAddr x :: S) K R I J o Z := by
  intro p e Rm s m args below meth c H locs cells slots mc ms ls hC h1 h2 h3 h4 hl hA
  exact lv_astore_n hC.1 hC.2.1 h rfl hl hn (pm_st1_L g L (q : Nat) (.retAddr x)) (fun ls' hl' => n p e Rm s m args below meth c H locs cells slots mc ms ls' hC h1 h2 h3 h4 (by rw [← hL]; exact hl') hA)
theorem pm_xstore {i : Nat} {x : Nat} {L' : List (Nat × Value)} (h : decode k.2.1 pc = .ok (.astore i, 2)) (hn : i < k.2.2.1) (hL : pm_st1 L i (.retAddr x) = L') (n : pmE g k d rc rs (pc + 2) L' (S) K R I J o Z) : pmE g k d rc rs (pc) L (.retAddr x :: S) K R I J o Z := by
  intro p e Rm s m args below meth c H locs cells slots mc ms ls hC h1 h2 h3 h4 hl hA
  exact lv_astore hC.1 hC.2.1 h hl hn (pm_st1_L g L i (.retAddr x)) (fun ls' hl' => n p e Rm s m args below meth c H locs cells slots mc ms ls' hC h1 h2 h3 h4 (by rw [← hL]; exact hl') hA)
theorem pm_iinc {i : Nat} {z : Int} {x : Int32} {L' : List (Nat × Value)} (h : decode k.2.1 pc = .ok (.iinc i z, 3)) (hv : pm_lk L i = some (.int x)) (hn : i < k.2.2.1) (hL : pm_st1 L i (.int (x + Int32.ofInt z)) = L') (n : pmE g k d rc rs (pc + 3) L' (S) K R I J o Z) : pmE g k d rc rs (pc) L (S) K R I J o Z := by
  intro p e Rm s m args below meth c H locs cells slots mc ms ls hC h1 h2 h3 h4 hl hA
  obtain ⟨q, hq⟩ := List.getElem?_of_mem (pm_lk_mem g hv)
  exact lv_iinc (k := q) hC.1 hC.2.1 h hl hq rfl hn (pm_st1_L g L i (.int (x + Int32.ofInt z))) (fun ls' hl' => n p e Rm s m args below meth c H locs cells slots mc ms ls' hC h1 h2 h3 h4 (by rw [← hL]; exact hl') hA)
theorem pm_topi {x : Int32} (n : ∀ y : Int32, y = x → pmE g k d rc rs (pc) L (.int y :: S) K R I J o Z) : pmE g k d rc rs (pc) L (.int x :: S) K R I J o Z := n x rfl
theorem pm_topl {x : Int64} (n : ∀ y : Int64, y = x → pmE g k d rc rs (pc) L (.long y :: S) K R I J o Z) : pmE g k d rc rs (pc) L (.long x :: S) K R I J o Z := n x rfl
theorem pm_eqi {x : Int32} (y : Int32) (hxy : x = y) (n : pmE g k d rc rs (pc) L (.int y :: S) K R I J o Z) : pmE g k d rc rs (pc) L (.int x :: S) K R I J o Z := hxy ▸ n
theorem pm_eql {x : Int64} (y : Int64) (hxy : x = y) (n : pmE g k d rc rs (pc) L (.long y :: S) K R I J o Z) : pmE g k d rc rs (pc) L (.long x :: S) K R I J o Z := hxy ▸ n
end PMA
