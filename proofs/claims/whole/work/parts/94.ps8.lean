/-! PARSE 8: lines as a function over the tokens; fuel suffices -/
theorem b9f {e w : Nat} (h : e ≠ 9) : (sp_fail e w).1 ≠ 9 := h
theorem no9 (T : TT) (i : Nat) : (sp_no T i).1 ≠ 9 := by
  unfold sp_no
  by_cases h : T.1 i = 47
  · rw [if_pos h]; exact b9f (by decide)
  · rw [if_neg h]; exact b9f (by decide)
theorem b9b {r : SR} {k : Nat → Nat → Cd → SR} (h : r.1 ≠ 9) (hk : r.1 = 0 → (k r.2.2.1 r.2.2.2.1 r.2.2.2.2).1 ≠ 9) : (sp_b r k).1 ≠ 9 := by
  by_cases e : r.1 = 0
  · rw [sp_b0 e]; exact hk e
  · rw [sp_b1 e]; exact h
theorem b9p {i co c : Nat} {k : Nat → SR} (h : co + c ≤ 3000 → (k (co + c)).1 ≠ 9) : (sp_pay i co c k).1 ≠ 9 := by
  unfold sp_pay
  by_cases e : co + c ≤ 3000
  · rw [if_pos e]; exact h e
  · rw [if_neg e]; exact b9f (by decide)
theorem b9x {T : TT} {s i : Nat} {k : Nat → SR} (h : T.1 i = s → (k (i + 1)).1 ≠ 9) : (sp_ex T s i k).1 ≠ 9 := by
  unfold sp_ex
  by_cases e : T.1 i = s
  · rw [if_pos e]; exact h e
  · rw [if_neg e]; exact no9 T i
theorem sp_fuE {T : TT} {n : Nat} (hT : tEnd T n) : ∀ m t l d i co : Nat, d ≤ 41 → l ≤ 10 → (t = 0 → 13 * (41 - d) + 13 ≤ m) → (t = 1 → 13 * (41 - d) + 12 - l ≤ m) → 13 * (41 - d) + 1 ≤ m → i < n → co ≤ 3000 → (sp_E T m t l d i co).1 ≠ 9 := by
  intro m
  induction m with
  | zero => intro t l d i co _ _ _ _ h _ _; omega
  | succ m ih =>
    intro t l d i co hd hl h0 h1 h2 hi hco
    have hn := hT.2.1
    unfold sp_E
    by_cases t0 : t = 0
    · rw [if_pos t0]
      have h0 := h0 t0
      unfold sp_expr
      by_cases hdd : 40 < d
      · rw [if_pos hdd]; exact b9f (by decide)
      rw [if_neg hdd]
      refine b9b (ih 1 0 d i co hd (by omega) (by omega) (by omega) (by omega) hi hco) (fun e => ?_)
      have l1 := sp_len hT m 1 0 d i co hi hco e
      by_cases k3 : T.1 (sp_E T m 1 0 d i co).2.2.1 = 3
      · rw [if_pos k3]
        have s1 := tEnd_s hT l1.2.2.1 (by omega)
        refine b9p (fun hp => b9b (ih 0 0 (d + 1) _ _ (by omega) (by omega) (by omega) (by omega) (by omega) s1 hp) (fun e2 => ?_))
        have l2 := sp_len hT m 0 0 (d + 1) _ _ s1 hp e2
        refine b9x (fun k1 => ?_)
        have s2 := tEnd_s hT l2.2.2.1 (by omega)
        exact b9b (ih 0 0 (d + 1) _ _ (by omega) (by omega) (by omega) (by omega) (by omega) s2 l2.2.2.2.2.1) (fun _ => b9f (e := 0) (w := 0) (by decide))
      · rw [if_neg k3]; exact b9f (e := 0) (w := 0) (by decide)
    rw [if_neg t0]
    by_cases t1 : t = 1
    · rw [if_pos t1]
      have h1 := h1 t1
      unfold sp_chain
      by_cases l10 : l = 10
      · rw [if_pos l10]; exact ih 2 0 d i co hd (by omega) (by omega) (by omega) (by omega) hi hco
      rw [if_neg l10]
      have lp : ∀ k j c C, j < n → c ≤ 3000 → 4001 ≤ k + j → (sp_loop T (sp_E T m) l d k j c C).1 ≠ 9 := by
        intro k
        induction k with
        | zero => intro j c C hj _ h; omega
        | succ k ihk =>
          intro j c C hj hc hk
          unfold sp_loop
          by_cases k47 : T.1 j = 47
          · rw [if_pos k47]; exact b9f (by decide)
          rw [if_neg k47]
          by_cases kt : tyt (T.1 j) = l + 1
          · rw [if_pos kt]
            have k29 := tyt_lt (k := T.1 j) (by omega)
            have s1 := tEnd_s hT hj (by omega)
            refine b9p (fun hp => b9b (ih 1 (l + 1) d (j + 1) _ hd (by omega) (by omega) (by omega) (by omega) s1 hp) (fun e2 => ?_))
            have l2 := sp_len hT m 1 (l + 1) d (j + 1) _ s1 hp e2
            exact ihk _ _ _ l2.2.2.1 l2.2.2.2.2.1 (by omega)
          · rw [if_neg kt]; exact b9f (e := 0) (w := 0) (by decide)
      refine b9b (ih 1 (l + 1) d i co hd (by omega) (by omega) (by omega) (by omega) hi hco) (fun e => ?_)
      have l1 := sp_len hT m 1 (l + 1) d i co hi hco e
      exact lp _ _ _ _ l1.2.2.1 l1.2.2.2.2.1 (by omega)
    rw [if_neg t1]
    unfold sp_unary
    by_cases hdd : 40 < d
    · rw [if_pos hdd]; exact b9f (by decide)
    rw [if_neg hdd]
    have alt : ∀ o p : Nat, T.1 i < 45 → (sp_pay i co p (fun co => sp_b (sp_E T m 2 0 (d + 1) (i + 1) co) (fun j c C => sp_ok j c (C ++ [(o, 0)])))).1 ≠ 9 := fun o p hk => b9p (fun hp => b9b (ih 2 0 (d + 1) (i + 1) _ (by omega) (by omega) (by omega) (by omega) (by omega) (tEnd_s hT hi hk) hp) (fun _ => b9f (e := 0) (w := 0) (by decide)))
    by_cases k4 : T.1 i = 4
    · rw [if_pos k4]
      exact b9b (ih 0 0 (d + 1) (i + 1) co (by omega) (by omega) (by omega) (by omega) (by omega) (tEnd_s hT hi (by omega)) hco) (fun _ => b9x (fun _ => b9f (e := 0) (w := 0) (by decide)))
    rw [if_neg k4]
    by_cases k13 : T.1 i = 13
    · rw [if_pos k13]; exact alt _ _ (by omega)
    rw [if_neg k13]
    by_cases k18 : T.1 i = 18
    · rw [if_pos k18]; exact alt _ _ (by omega)
    rw [if_neg k18]
    by_cases k19 : T.1 i = 19
    · rw [if_pos k19]; exact alt _ _ (by omega)
    rw [if_neg k19]
    by_cases k43 : T.1 i = 43
    · rw [if_pos k43]
      unfold sp_named
      split
      · split
        · exact b9f (by decide)
        · exact b9f (e := 0) (w := 0) (by decide)
      · exact b9f (by decide)
    rw [if_neg k43]
    by_cases k44 : T.1 i = 44
    · rw [if_pos k44]
      split
      · exact b9f (e := 0) (w := 0) (by decide)
      · exact b9f (by decide)
    rw [if_neg k44]
    exact no9 T i
theorem sp_fuF {T : TT} {n : Nat} (hT : tEnd T n) : ∀ m t d i co : Nat, d ≤ 41 → t ≤ 3 → 4 * (41 - d) + 4 ≤ m + t → i < n → co ≤ 3000 → (sp_F T m t d i co).1 ≠ 9 := by
  intro m
  induction m with
  | zero => intro t d i co _ _ h _ _; omega
  | succ m ih =>
    intro t d i co hd ht hm hi hco
    have hn := hT.2.1
    have lp : ∀ t s o, t ≤ 3 → s < 45 → 4 * (41 - d) + 4 ≤ m + t → ∀ k j c C, j < n → c ≤ 3000 → 4001 ≤ k + j → (sp_fl T (sp_F T m) t s o d k j c C).1 ≠ 9 := by
      intro t s o ht hs hm k
      induction k with
      | zero => intro j c C hj _ h; omega
      | succ k ihk =>
        intro j c C hj hc hk
        unfold sp_fl
        by_cases k47 : T.1 j = 47
        · rw [if_pos k47]; exact b9f (by decide)
        rw [if_neg k47]
        by_cases kt : T.1 j = s
        · rw [if_pos kt]
          have s1 := tEnd_s hT hj (by omega)
          refine b9b (ih t d (j + 1) _ hd ht hm s1 hc) (fun e2 => ?_)
          have l2 := sp_lenF hT m t d (j + 1) _ s1 hc e2
          exact ihk _ _ _ l2.2.2.1 l2.2.2.2.2.1 (by omega)
        · rw [if_neg kt]; exact b9f (e := 0) (w := 0) (by decide)
    unfold sp_F
    by_cases t0 : t = 0
    · rw [if_pos t0]
      unfold sp_formula
      by_cases hdd : 40 < d
      · rw [if_pos hdd]; exact b9f (by decide)
      rw [if_neg hdd]
      refine b9b (ih 1 d i co hd (by omega) (by omega) hi hco) (fun e => ?_)
      have l1 := sp_lenF hT m 1 d i co hi hco e
      by_cases k3 : T.1 (sp_F T m 1 d i co).2.2.1 = 28
      · rw [if_pos k3]
        have s1 := tEnd_s hT l1.2.2.1 (by omega)
        exact b9b (ih 0 (d + 1) _ _ (by omega) (by omega) (by omega) s1 l1.2.2.2.2.1) (fun _ => b9f (e := 0) (w := 0) (by decide))
      · rw [if_neg k3]; exact b9f (e := 0) (w := 0) (by decide)
    rw [if_neg t0]
    by_cases t1 : t = 1
    · rw [if_pos t1]
      refine b9b (ih 2 d i co hd (by omega) (by omega) hi hco) (fun e => ?_)
      have l1 := sp_lenF hT m 2 d i co hi hco e
      exact lp 2 27 55 (by omega) (by omega) (by omega) _ _ _ _ l1.2.2.1 l1.2.2.2.2.1 (by omega)
    rw [if_neg t1]
    by_cases t2 : t = 2
    · rw [if_pos t2]
      refine b9b (ih 3 d i co hd (by omega) (by omega) hi hco) (fun e => ?_)
      have l1 := sp_lenF hT m 3 d i co hi hco e
      exact lp 3 26 54 (by omega) (by omega) (by omega) _ _ _ _ l1.2.2.1 l1.2.2.2.2.1 (by omega)
    rw [if_neg t2]
    unfold sp_single
    by_cases hdd : 40 < d
    · rw [if_pos hdd]; exact b9f (by decide)
    rw [if_neg hdd]
    have alt : ∀ o : Nat, T.1 i < 45 → (sp_alt (sp_F T m) o d i co).1 ≠ 9 := fun o hk => b9b (ih 3 (d + 1) (i + 1) _ (by omega) (by omega) (by omega) (tEnd_s hT hi hk) hco) (fun _ => b9f (e := 0) (w := 0) (by decide))
    by_cases k19 : T.1 i = 19
    · rw [if_pos k19]; exact alt _ (by omega)
    rw [if_neg k19]
    by_cases k37 : 37 ≤ T.1 i ∧ T.1 i ≤ 42
    · rw [if_pos k37]; exact alt _ (by omega)
    rw [if_neg k37]
    by_cases k34 : T.1 i = 34 ∨ T.1 i = 35
    · rw [if_pos k34]
      have s0 := tEnd_s hT hi (by omega)
      refine b9x (fun k6 => ?_)
      have s1 := tEnd_s hT s0 (by omega)
      refine b9b (ih 0 (d + 1) _ _ (by omega) (by omega) (by omega) s1 hco) (fun e1 => b9x (fun k36 => ?_))
      have l1 := sp_lenF hT m 0 (d + 1) _ _ s1 hco e1
      have s2 := tEnd_s hT l1.2.2.1 (by omega)
      exact b9b (ih 0 (d + 1) _ _ (by omega) (by omega) (by omega) s2 l1.2.2.2.2.1) (fun _ => b9x (fun _ => b9f (e := 0) (w := 0) (by decide)))
    rw [if_neg k34]
    by_cases k4 : T.1 i = 4
    · rw [if_pos k4]
      exact b9b (ih 0 (d + 1) (i + 1) co (by omega) (by omega) (by omega) (tEnd_s hT hi (by omega)) hco) (fun _ => b9x (fun _ => b9f (e := 0) (w := 0) (by decide)))
    rw [if_neg k4]
    by_cases k8 : T.1 i = 8
    · rw [if_pos k8]
      exact b9p (fun hp => b9b (sp_fuE hT 600 0 0 (d + 1) (i + 1) _ (by omega) (by omega) (by omega) (by omega) (by omega) (tEnd_s hT hi (by omega)) hp) (fun _ => b9x (fun _ => b9f (e := 0) (w := 0) (by decide))))
    rw [if_neg k8]
    by_cases k43 : T.1 i = 43
    · rw [if_pos k43]
      unfold sp_fspec
      split
      · split
        · exact b9f (e := 0) (w := 0) (by decide)
        · exact b9f (by decide)
      · exact b9f (by decide)
    rw [if_neg k43]
    exact no9 T i
/-! the lines -/
abbrev NmT := List (Nat × Nat × Nat × Nat)
/-- token, costs, names (token, kind, bits, part), code of the logic, of the formulas, regs with a next, bits of regs, of inputs, specs, first state -/
abbrev LSt := Nat × Nat × NmT × Cd × Cd × List Nat × Nat × Nat × Nat × Nat
abbrev LR := Nat × Nat × LSt
def l0 : LSt := (0, 0, [], [], [], [], 0, 0, 0, 0)
def fnd (sm : Nat → Nat → Bool) : NmT → Nat → Nat → Option Nat
  | [], _, _ => none
  | x :: l, k, i => if sm x.1 i = true then some k else fnd sm l (k + 1) i
/-- kinds, numbers, which words are the same -/
abbrev TB := (Nat → Nat) × (Nat → Nat) × (Nat → Nat → Bool)
def tT (B : TB) (Nm : NmT) : TT := (B.1, B.2.1, fun i => fnd B.2.2 Nm 0 i, fun k => (Nm.getD k (0, 0, 0, 0)).2.1, fun k => (Nm.getD k (0, 0, 0, 0)).2.2.2)
def lf (e w : Nat) : LR := (e, w, l0)
def l_no (B : TB) (i : Nat) : LR := if B.1 i = 47 then lf 4 i else lf 1 i
def l_ex (B : TB) (s i : Nat) (k : Nat → LR) : LR := if B.1 i = s then k (i + 1) else l_no B i
def l_num (B : TB) (lo hi i : Nat) (k : Nat → Nat → LR) : LR := if B.1 i = 44 then (if B.2.1 i < lo then lf 3 i else if B.2.1 i ≤ hi then k (B.2.1 i) (i + 1) else lf 3 i) else l_no B i
def l_new (B : TB) (Nm : NmT) (i : Nat) (k : Nat → LR) : LR := if B.1 i = 43 then (match fnd B.2.2 Nm 0 i with
  | some _ => lf 2 i
  | none => if Nm.length < 60 then k (i + 1) else lf 4 i) else l_no B i
def l_x (r : SR) (k : Nat → Nat → Cd → LR) : LR := if r.1 = 0 then k r.2.2.1 r.2.2.2.1 r.2.2.2.2 else lf r.1 r.2.1
def sp_reg (B : TB) (s : LSt) : LR := match s with
  | (i, co, Nm, CL, CF, Hn, rb, ib, sp, fi) => l_new B Nm (i + 1) (fun j => l_ex B 1 j (fun j => l_num B 1 (8 - rb) j (fun b j => l_ex B 2 j (fun j => l_num B 0 (2 ^ b - 1) j (fun v j => l_ex B 0 j (fun j => (0, 0, j, co, Nm ++ [(i + 1, 29, b, rb + b)], CL, CF, Hn, rb + b, ib, sp, fi * 2 ^ b + v)))))))
def sp_input (B : TB) (s : LSt) : LR := match s with
  | (i, co, Nm, CL, CF, Hn, rb, ib, sp, fi) => l_new B Nm (i + 1) (fun j => l_ex B 1 j (fun j => l_num B 1 (3 - ib) j (fun b j => l_ex B 0 j (fun j => (0, 0, j, co, Nm ++ [(i + 1, 30, b, ib + b)], CL, CF, Hn, rb, ib + b, sp, fi)))))
def sp_wire (B : TB) (s : LSt) : LR := match s with
  | (i, co, Nm, CL, CF, Hn, rb, ib, sp, fi) => l_new B Nm (i + 1) (fun j => l_ex B 2 j (fun j => l_x (sp_E (tT B Nm) 600 0 0 0 j co) (fun j c C => l_ex B 0 j (fun j => (0, 0, j, c, Nm ++ [(i + 1, 31, 0, 0)], CL ++ (C ++ [(31, Nm.length)]), CF, Hn, rb, ib, sp, fi)))))
def sp_next (B : TB) (s : LSt) : LR := match s with
  | (i, co, Nm, CL, CF, Hn, rb, ib, sp, fi) => if co + 8 ≤ 3000 then (if B.1 (i + 1) = 43 then (match fnd B.2.2 Nm 0 (i + 1) with
    | some k => if (Nm.getD k (0, 0, 0, 0)).2.1 = 29 then (if k ∈ Hn then lf 2 (i + 1) else l_ex B 2 (i + 1 + 1) (fun j => l_x (sp_E (tT B Nm) 600 0 0 0 j (co + 8)) (fun j c C => l_ex B 0 j (fun j => (0, 0, j, c, Nm, CL ++ (C ++ [(32, k)]), CF, k :: Hn, rb, ib, sp, fi))))) else lf 2 (i + 1)
    | none => lf 2 (i + 1)) else l_no B (i + 1)) else lf 4 i
def sp_spec (B : TB) (s : LSt) : LR := match s with
  | (i, co, Nm, CL, CF, Hn, rb, ib, sp, fi) => if sp < 30 then l_new B Nm (i + 1) (fun j => l_ex B 2 j (fun j => l_x (sp_F (tT B Nm) 260 0 0 j co) (fun j c C => l_ex B 0 j (fun j => (0, 0, j, c, Nm ++ [(i + 1, 33, 0, sp)], CL, CF ++ (C ++ [(33, sp)]), Hn, rb, ib, sp + 1, fi))))) else lf 4 i
def sp_line (B : TB) (s : LSt) : LR := if B.1 s.1 = 29 then sp_reg B s else if B.1 s.1 = 30 then sp_input B s else if B.1 s.1 = 31 then sp_wire B s else if B.1 s.1 = 32 then sp_next B s else if B.1 s.1 = 33 then sp_spec B s else l_no B s.1
def sp_lines (B : TB) : Nat → LSt → LR
  | 0, _ => lf 9 0
  | n + 1, s => if B.1 s.1 = 45 then (0, 0, s) else if (sp_line B s).1 = 0 then sp_lines B n (sp_line B s).2.2 else sp_line B s
