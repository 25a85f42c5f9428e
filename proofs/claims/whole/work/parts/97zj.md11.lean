/-! MODEL WORKS OUT 11: all of it -/
theorem EC_rn {T : TT} {c q : Nat} {C : Cd} (h : EC T c q C) : (∀ y ∈ C, y.1 < 33 ∨ (42 < y.1 ∧ y.1 < 51)) ∧ ∀ env : Nat → BitVec 8, ∃ v, ∀ s, run env C s = v :: s := by
  have ap : ∀ {C D : Cd}, (∀ y ∈ C, y.1 < 33 ∨ (42 < y.1 ∧ y.1 < 51)) → (∀ y ∈ D, y.1 < 33 ∨ (42 < y.1 ∧ y.1 < 51)) → ∀ y ∈ C ++ D, y.1 < 33 ∨ (42 < y.1 ∧ y.1 < 51) := fun h1 h2 y hy => by
    rcases List.mem_append.mp hy with q | q
    · exact h1 y q
    · exact h2 y q
  have on : ∀ {o k : Nat}, (o < 33 ∨ (42 < o ∧ o < 51)) → ∀ y ∈ [(o, k)], y.1 < 33 ∨ (42 < y.1 ∧ y.1 < 51) := fun ho y hy => by
    rw [List.mem_singleton.mp hy]; exact ho
  refine h (fun _ _ C => (∀ y ∈ C, y.1 < 33 ∨ (42 < y.1 ∧ y.1 < 51)) ∧ ∀ env : Nat → BitVec 8, ∃ v, ∀ s, run env C s = v :: s) ⟨?_, ?_, ?_, ?_, ?_⟩
  · exact fun v _ => ⟨on (by omega), fun env => ⟨_, fun s => rfl⟩⟩
  · exact fun k i _ _ => ⟨on (by omega), fun env => ⟨_, fun s => rfl⟩⟩
  · intro o p c q C ho hC
    refine ⟨ap hC.1 (on (by omega)), fun env => ?_⟩
    obtain ⟨v, hv⟩ := hC.2 env
    obtain ⟨w, hw⟩ := st_un env (show o = 49 ∨ o = 18 ∨ o = 19 by omega) v
    exact ⟨w, fun s => by rw [run_app, hv, run, run, hw]⟩
  · intro o c q c' q' C D ho hC hD
    refine ⟨ap hC.1 (ap hD.1 (on (by have := tyt_lt ho; omega))), fun env => ?_⟩
    obtain ⟨v, hv⟩ := hC.2 env
    obtain ⟨w, hw⟩ := hD.2 env
    exact ⟨jo o v w, fun s => by rw [run_app, hv, run_app, hw, run, run, st_op env ho]⟩
  · intro c q c' q' c'' q'' C D E hC hD hE
    refine ⟨ap hC.1 (ap hD.1 (ap hE.1 (on (by decide)))), fun env => ?_⟩
    obtain ⟨v, hv⟩ := hC.2 env
    obtain ⟨w, hw⟩ := hD.2 env
    obtain ⟨u, hu⟩ := hE.2 env
    exact ⟨if v = 0#8 then u else w, fun s => by rw [run_app, hv, run_app, hw, run_app, hu]; rfl⟩
theorem nF_s {n : Nat} {f : Se} {s : Nat} (h : notF n f s = true) : s < n := by
  unfold notF at h
  rw [Bool.and_eq_true, decide_eq_true_iff] at h
  exact h.1
theorem opF_s {n m o : Nat} {nx : Nat → Nat → Nat} {f : Se} {s : Nat} (h : opF n m nx o f s = true) : s < n := by
  unfold opF at h
  by_cases c1 : o = 53
  · rw [if_pos c1] at h; exact nF_s h
  rw [if_neg c1] at h
  by_cases c2 : o = 37
  · rw [if_pos c2] at h; exact (axF_i.mp h).1
  rw [if_neg c2] at h
  by_cases c3 : o = 38
  · rw [if_pos c3] at h; exact nF_s h
  rw [if_neg c3] at h
  by_cases c4 : o = 39
  · rw [if_pos c4] at h; exact (unt_i.mp h).1
  rw [if_neg c4] at h
  by_cases c5 : o = 40
  · rw [if_pos c5] at h; exact (unt_i.mp h).1
  rw [if_neg c5] at h
  by_cases c6 : o = 41
  · rw [if_pos c6] at h; exact nF_s h
  rw [if_neg c6] at h
  exact nF_s h
theorem op2F_s {n m o : Nat} {nx : Nat → Nat → Nat} {f g : Se} {s : Nat} (hf : f s = true → s < n) (hg : g s = true → s < n) (h : op2F n m nx o f g s = true) : s < n := by
  unfold op2F at h
  by_cases c1 : o = 54
  · rw [if_pos c1, Bool.and_eq_true] at h; exact hf h.1
  rw [if_neg c1] at h
  by_cases c2 : o = 55
  · rw [if_pos c2, Bool.or_eq_true] at h
    rcases h with h | h
    · exact hf h
    · exact hg h
  rw [if_neg c2] at h
  by_cases c3 : o = 56
  · rw [if_pos c3, Bool.or_eq_true, Bool.and_eq_true, decide_eq_true_iff] at h
    rcases h with h | h
    · exact h.1
    · exact hg h
  rw [if_neg c3] at h
  by_cases c4 : o = 34
  · rw [if_pos c4] at h; exact (unt_i.mp h).1
  rw [if_neg c4] at h
  exact (unt_i.mp h).1
section
variable {Nm : NmT} {rb ib sp : Nat} {Hn : List Nat} {D : List Itm} {F : FT} {rt : Nat → Nat}
theorem sm_s {n m : Nat} {nx : Nat → Nat → Nat} {E : Nat → Nat → BitVec 8} {SM : Nat → Se} {Z : Mm} (hT : fT Nm rb ib sp Hn D F rt Z) (hs : ∀ g, g < F.length → smE n m nx E F rt SM g) : ∀ k g, g < k → g < F.length → ∀ s, SM g s = true → s < n := by
  intro k
  induction k with
  | zero => intro g hg; omega
  | succ k ih =>
    intro g hg hl s h
    obtain ⟨x, hx⟩ : ∃ x, F[g]? = some x := ⟨_, List.getElem?_eq_getElem hl⟩
    obtain ⟨_, k12, k13, ko1, ko2, kk⟩ := hT.2.2.2.2.2.2.2 g x hx
    obtain ⟨s12, s13, so1, so2⟩ := hs g hl x hx
    rcases kk with q | q | ⟨o, q⟩ | ⟨o, q⟩
    · rw [s12 q] at h; exact (tsF_i.mp h).1
    · rw [s13 q] at h
      have := (k13 q).2
      exact ih _ (by omega) (by omega) s h
    · rw [so1 o q] at h; exact opF_s h
    · rw [so2 o q] at h
      have := ko2 o q
      exact op2F_s (fun w => ih _ (by omega) (by omega) s w) (fun w => ih _ (by omega) (by omega) s w) h
/-- a formula of the table, run -/
theorem f_run {n m : Nat} {nx : Nat → Nat → Nat} {E : Nat → Nat → BitVec 8} {SM SS : Nat → Se} {Z : Mm} (hT : fT Nm rb ib sp Hn D F rt Z) (hs : ∀ g, g < F.length → smE n m nx E F rt SM g) (hE : ∀ (g : Nat) (x : Nat × Nat × Nat × Cd), F[g]? = some x → x.1 = 12 → ∃ (T : TT) (c q : Nat), EC T c q x.2.2.2) (hSS : ∀ k, k < sp → SS k = SM (rt k)) {f : Nat} {C : Cd} (h : Fw F f C) : ∀ v ss, runF n m nx E SS C v ss = (v, SM f :: ss) := by
  have lt : ∀ {g : Nat} {x : Nat × Nat × Nat × Cd}, F[g]? = some x → g < F.length := fun hx => by
    obtain ⟨q, _⟩ := List.getElem?_eq_some_iff.mp hx; exact q
  refine h.2 (fun g C => ∀ v ss, runF n m nx E SS C v ss = (v, SM g :: ss)) ⟨?_, ?_, ?_, ?_⟩
  · intro g e C hx v ss
    obtain ⟨T, c, q, ec⟩ := hE g _ hx rfl
    obtain ⟨e1, e2⟩ := EC_rn ec
    rw [runF_t C e1 (f := fun c => (run (E c) C []).headD 0#8) (fun c s => by
      obtain ⟨v, hv⟩ := e2 (E c)
      rw [hv, hv]; rfl), (hs g (lt hx) _ hx).1 rfl]
  · intro g k hx v ss
    have := ((hT.2.2.2.2.2.2.2 g _ hx).2.2.1 rfl).1
    rw [runF_52, hSS k this, (hs g (lt hx) _ hx).2.1 rfl]
  · intro g h o a Ca hx ho ha ih v ss
    have ho' : o = 53 ∨ (37 ≤ o ∧ o ≤ 42) := by
      unfold op1 at ho
      simp only [List.mem_cons, Prod.mk.injEq, List.not_mem_nil, or_false] at ho
      omega
    rw [runF_app, ih, runF_1 ho', (hs g (lt hx) _ hx).2.2.1 o ho]
  · intro g h o a c Ca Cc hx ho ha hc ih ih2 v ss
    have ho' : o = 54 ∨ o = 55 ∨ o = 56 ∨ o = 34 ∨ o = 35 := by
      unfold op2 at ho
      simp only [List.mem_cons, Prod.mk.injEq, List.not_mem_nil, or_false] at ho
      omega
    rw [runF_app, ih, runF_app, ih2, runF_2 ho', (hs g (lt hx) _ hx).2.2.2 o ho]
/-- what of the model's read the working out needs -/
def mK (Nm : NmT) (rb ib sp : Nat) (Hn : List Nat) (N : Nat) (F : FT) (D : List Itm) (SP : List Cd) (M : Mm) : Prop := (∀ (k : Nat) (x : Nat × Nat × Nat × Nat), Nm[k]? = some x → M 44 k = nI (mkd x.2.1)) ∧ M 40 38 = nI F.length ∧ (tab M N F ∧ mU Nm F M) ∧ (M 40 23 = nI (cnt 29 Nm) ∧ M 40 24 = nI (cnt 30 Nm) ∧ M 40 25 = nI (cnt 31 Nm) ∧ M 40 26 = nI sp ∧ M 40 27 = nI rb ∧ M 40 28 = nI ib) ∧ mLn Nm Hn M ∧ mLd Nm Hn N D M ∧ SP.length = sp ∧ ∀ g C, SP[g]? = some C → ∃ f, M 51 g = nI f ∧ Fw F f C
theorem mK_L {b : Nat → Nat} {L i co N fi : Nat} {CL CF : Cd} {RB : List (Nat × Nat)} {SP : List Cd} {M : Mm} (h : mL b L (i, co, Nm, CL, CF, Hn, rb, ib, sp, fi) N F RB D SP M) : mK Nm rb ib sp Hn N F D SP M := by
  obtain ⟨⟨hS, h38, htu, h45⟩, hc, hLn, _, ⟨_, hLd⟩, ⟨_, hsl, hSP⟩⟩ := h
  exact ⟨hS.2.2.2.2.2, h38, htu, hc, hLn, hLd, hsl, hSP⟩
theorem mK_c {N : Nat} {SP : List Cd} {M M' : Mm} (h : mK Nm rb ib sp Hn N F D SP M) (e : ∀ a, 41 < a → a < 60 → M' a = M a) (e40 : ∀ j, (22 < j ∧ j < 29) ∨ j = 38 → M' 40 j = M 40 j) : mK Nm rb ib sp Hn N F D SP M' := by
  obtain ⟨h1, h2, ⟨h3, h4⟩, ⟨c1, c2, c3, c4, c5, c6⟩, h6, h7, h8, h9⟩ := h
  refine ⟨?_, ?_, ⟨?_, mU_c h4 (e 51 (by decide) (by decide))⟩, ?_, ?_, ?_, h8, ?_⟩
  · rw [e 44 (by decide) (by decide)]; exact h1
  · rw [e40 38 (by omega)]; exact h2
  · intro g x hx
    obtain ⟨t1, t2, t3, t4⟩ := h3 g x hx
    rw [e 57 (by decide) (by decide), e 58 (by decide) (by decide), e 59 (by decide) (by decide)]
    refine ⟨t1, t2, t3, fun q => ?_⟩
    obtain ⟨lo, t5, t6⟩ := t4 q
    exact ⟨lo, Ev_c t5 (mX_ag (fun a h1 h2 => e a h1 h2) lo _) (Nat.le_refl _) (Nat.le_refl _), t6⟩
  · rw [e40 23 (by omega), e40 24 (by omega), e40 25 (by omega), e40 26 (by omega), e40 27 (by omega), e40 28 (by omega)]
    exact ⟨c1, c2, c3, c4, c5, c6⟩
  · intro k x hx
    rw [e 45 (by decide) (by decide), e 46 (by decide) (by decide), e 48 (by decide) (by decide), e 49 (by decide) (by decide)]
    exact h6 k x hx
  · intro x hx
    obtain ⟨d0, d1, y, lo, d2, d3, d4⟩ := h7 x hx
    rw [e 50 (by decide) (by decide), e 48 (by decide) (by decide)]
    exact ⟨d0, d1, y, lo, Ev_c d2 (mX_ag (fun a h1 h2 => e a h1 h2) lo _) (Nat.le_refl _) (Nat.le_refl _), d3, d4⟩
  · rw [e 51 (by decide) (by decide)]; exact h9
theorem mL_fT {n i co N fi : Nat} {CL CF : Cd} {SP : List Cd} {M : Mm} (h : mK Nm rb ib sp Hn N F D SP M) (hW : lW n (i, co, Nm, CL, CF, Hn, rb, ib, sp, fi)) (hn : n ≤ 4001) (hF : F.length ≤ i) (hD : lDD Nm Hn D) : mC Nm rb ib Hn D M ∧ (∀ (g : Nat) (x : Nat × Nat × Nat × Cd), F[g]? = some x → x.1 = 12 → ∃ (T : TT) (c q : Nat), EC T c q x.2.2.2) ∧ ∃ rt : Nat → Nat, (∀ g C, SP[g]? = some C → Fw F (rt g) C) ∧ ∀ Z, aF M Z → mB Nm rb ib D Z (fun _ _ => True) → fT Nm rb ib sp Hn D F rt Z := by
  obtain ⟨h44, h38, ⟨tb, u1, u2, u3⟩, ⟨c23, c24, c25, c26, c27, c28⟩, hLn, hLd, hsl, hSP⟩ := h
  obtain ⟨w60, ⟨wi, _⟩, wn, wrb, wib, wsp, w8, w3, w30, wfi, wHn⟩ := hW
  have hC : mC Nm rb ib Hn D M := ⟨⟨c23, c24, c25, c27, c28⟩, ⟨w60, wrb, wib, w8, w3⟩, wn, h44, hLn, hD, fun x hx => by
    obtain ⟨_, d1, e, lo, d2, d3, d4⟩ := hLd x hx
    refine ⟨d1, e, lo, d2, ?_⟩
    rcases d4 with ⟨q1, _, q3⟩ | q
    · exact Or.inl ⟨q1, q3⟩
    · exact Or.inr q⟩
  have lt : ∀ {g : Nat} {x : Nat × Nat × Nat × Cd}, F[g]? = some x → g < F.length := fun hx => by
    obtain ⟨q, _⟩ := List.getElem?_eq_some_iff.mp hx; exact q
  have cr : ∀ q, ∃ f, q < cnt 33 Nm → M 51 q = nI f ∧ f < F.length := fun q => by
    by_cases c : q < cnt 33 Nm
    · obtain ⟨f, hf⟩ := u3 q c; exact ⟨f, fun _ => hf⟩
    · exact ⟨0, fun w => absurd w c⟩
  obtain ⟨rt, hrt⟩ := Classical.axiomOfChoice cr
  have inj : ∀ {a b : Nat}, a < 4200 → b < 4200 → nI a = nI b → a = b := fun ha hb e => (nI_eq (by omega) (by omega)).mp e
  refine ⟨hC, fun g x hx e => ?_, rt, fun g C hg => ?_, fun Z hZ hB => ?_⟩
  · rcases u2 g x hx with ⟨_, q, _⟩ | ⟨q, _⟩ | ⟨_, o, q⟩ | ⟨_, _, o, q⟩
    · exact q
    · omega
    · exact (op_1k q (Or.inl e)).elim
    · exact (op_2k q (Or.inl e)).elim
  · obtain ⟨f, f1, f2⟩ := hSP g C hg
    have gl : g < cnt 33 Nm := by
      obtain ⟨q, _⟩ := List.getElem?_eq_some_iff.mp hg
      omega
    obtain ⟨r1, r2⟩ := hrt g gl
    have : rt g = f := inj (by omega) (by have := f2.1; omega) (r1.symm.trans f1)
    rw [this]; exact f2
  · have z40 : Z 40 = M 40 := hZ 40 (by decide) (by decide) (by decide) (by decide)
    have hZC := aF_C hC hZ
    have p8 : 2 ^ rb ≤ 2 ^ 8 := Nat.pow_le_pow_right (by decide) w8
    have p3 : 2 ^ ib ≤ 2 ^ 3 := Nat.pow_le_pow_right (by decide) w3
    refine ⟨hZC, ⟨(mall hZC).1, (mall hZC).2, p8, p3, fun s i hs hi => ⟨hB s i hs hi trivial, nxb hC _⟩⟩, by rw [z40]; exact h38, by omega, by rw [z40]; exact c26, w30, fun k hk => ?_, fun g x hx => ?_⟩
    · rw [hZ 51 (by decide) (by decide) (by decide) (by decide)]
      exact hrt k (by omega)
    · rw [hZ 57 (by decide) (by decide) (by decide) (by decide), hZ 58 (by decide) (by decide) (by decide) (by decide), hZ 59 (by decide) (by decide) (by decide) (by decide)]
      obtain ⟨t1, t2, t3, t4⟩ := tb g x hx
      have gl := lt hx
      refine ⟨⟨t1, t2, t3⟩, fun e => ?_, fun e => ?_, fun o ho => ?_, fun o ho => ?_, ?_⟩
      · obtain ⟨lo, t5, _⟩ := t4 e
        refine ⟨⟨lo, Ev_c t5 (mX_ag (fun a h1 h2 => hZ a (by omega) (by omega) (by omega) (by omega)) lo _) (Nat.le_refl _) (Nat.le_refl _)⟩, fun k hk => ?_⟩
        rcases u2 g x hx with ⟨_, _, q⟩ | ⟨q, _⟩ | ⟨_, o, q⟩ | ⟨_, _, o, q⟩
        · obtain ⟨y, y1, y2, _⟩ := q k hk
          refine ⟨by obtain ⟨q, _⟩ := List.getElem?_eq_some_iff.mp y1; exact q, ?_⟩
          unfold kd
          rw [getD_some y1]; exact y2
        · omega
        · exact (op_1k q (Or.inl e)).elim
        · exact (op_2k q (Or.inl e)).elim
      · rcases u2 g x hx with ⟨q, _⟩ | ⟨_, q1, f, q2, q3⟩ | ⟨_, o, q⟩ | ⟨_, _, o, q⟩
        · omega
        · obtain ⟨r1, r2⟩ := hrt x.2.1 q1
          have : rt x.2.1 = f := inj (by omega) (by omega) (r1.symm.trans q2)
          exact ⟨by omega, by omega⟩
        · exact (op_1k q (Or.inr e)).elim
        · exact (op_2k q (Or.inr e)).elim
      · rcases u2 g x hx with ⟨q, _⟩ | ⟨q, _⟩ | ⟨q, _⟩ | ⟨q, _⟩
        · exact (op_1k ho (Or.inl q)).elim
        · exact (op_1k ho (Or.inr q)).elim
        · exact q
        · exact q
      · rcases u2 g x hx with ⟨q, _⟩ | ⟨q, _⟩ | ⟨_, o', q⟩ | ⟨q, q', _⟩
        · exact (op_2k ho (Or.inl q)).elim
        · exact (op_2k ho (Or.inr q)).elim
        · exact (op_12 q ho).elim
        · exact ⟨q, q'⟩
      · rcases u2 g x hx with ⟨q, _⟩ | ⟨q, _⟩ | ⟨_, q⟩ | ⟨_, _, q⟩
        · exact Or.inl q
        · exact Or.inr (Or.inl q)
        · exact Or.inr (Or.inr (Or.inl q))
        · exact Or.inr (Or.inr (Or.inr q))
/-- what the model holds behind workOut -/
def MW (Nm : NmT) (rb ib sp : Nat) (Hn : List Nat) (D : List Itm) (SS : Nat → Se) (I : Mm) (B : Nat → Value) (E : List (Nat × Nat)) : Prop := mC Nm rb ib Hn D I ∧ mA (2 ^ rb) (2 ^ ib) (aN Nm rb ib D) I ∧ bOK B E I ∧ ∀ k, k < sp → rw_ (2 ^ rb) I (323 + k) (SS k)
def mwF (M I : Mm) : Prop := ∀ a, a ≠ 60 → a ≠ 61 → a ≠ 62 → (a < 64 ∨ (319 < a ∧ a < 323) ∨ (352 < a ∧ a < 356)) → I a = M a
theorem m_wo {n i co N fi : Nat} {CL CF : Cd} {SP : List Cd} {M : Mm} {B : Nat → Value} {E : List (Nat × Nat)} (h : mK Nm rb ib sp Hn N F D SP M) (hW : lW n (i, co, Nm, CL, CF, Hn, rb, ib, sp, fi)) (hn : n ≤ 4001) (hF : F.length ≤ i) (hD : lDD Nm Hn D) (hB : bOK B E M) : pMo_workOut 4201 4201 4201 4201 4201 M B E ∧ ∃ I' B' X SS, fMo_workOut 4201 4201 4201 4201 4201 M B E = (I', B', E ++ X) ∧ mwF M I' ∧ MW Nm rb ib sp Hn D SS I' B' (E ++ X) ∧ (∀ k s, SS k s = true → s < 2 ^ rb) ∧ (∀ g C, SP[g]? = some C → ∀ v ss, runF (2 ^ rb) (2 ^ ib) (aN Nm rb ib D) (aE Nm rb ib D) SS C v ss = (v, SS g :: ss)) ∧ (∀ x ∈ X, x = (3, 256)) ∧ X.length + nnB B 4200 = nnB B' 4200 := by
  obtain ⟨hC, hEC, rt, hrt, hfT⟩ := mL_fT h hW hn hF hD
  have hsl : SP.length = sp := h.2.2.2.2.2.2.1
  have r8 := hC.2.1.2.2.2.1
  have p8 : 2 ^ rb ≤ 2 ^ 8 := Nat.pow_le_pow_right (by decide) r8
  have z := mo_2 hC B E (fun Y => ∃ I' B' X SS, Y = (I', B', E ++ X) ∧ mwF M I' ∧ MW Nm rb ib sp Hn D SS I' B' (E ++ X) ∧ (∀ k s, SS k s = true → s < 2 ^ rb) ∧ (∀ g C, SP[g]? = some C → ∀ v ss, runF (2 ^ rb) (2 ^ ib) (aN Nm rb ib D) (aE Nm rb ib D) SS C v ss = (v, SS g :: ss)) ∧ (∀ x ∈ X, x = (3, 256)) ∧ X.length + nnB B 4200 = nnB B' 4200) (fun Z hZ hZB => by
    have hT := hfT Z hZ hZB
    have hB' : bOK B E Z := ⟨fun g hg => by
      rcases hB.1 g hg with v | ⟨a, a1, a2, a3⟩
      · exact Or.inl v
      · exact Or.inr ⟨a, a1, a2, fun j hj => by rw [hZ a (by omega) (by omega) (by omega) (by omega)]; exact a3 j hj⟩, hB.2⟩
    obtain ⟨y1, I', B', X, SM, y2, ⟨l1, l2, l3, l4⟩, y4, y5⟩ := mo_123 hT 4201 0 Z B E (fun _ _ => false) (Nat.zero_le _) (by have := hT.2.2.2.1; omega) ⟨fun _ _ _ _ _ => rfl, hB', fun g hg => absurd hg (Nat.not_lt_zero _), fun k _ hk => absurd hk (Nat.not_lt_zero _)⟩
    have sm : ∀ g, g < F.length → smE (2 ^ rb) (2 ^ ib) (aN Nm rb ib D) (aE Nm rb ib D) F rt SM g := fun g hg => (l3 g hg).2
    have su := sm_s hT sm
    have t7 := hT.2.2.2.2.2.2.1
    refine ⟨y1, I', B', X, fun k => if k < sp then SM (rt k) else fun _ => false, y2, fun a h1 h2 h3 h4 => ?_, ⟨?_, ?_, l2, fun k hk => ?_⟩, fun k s hs => ?_, fun g C hg v ss => ?_, y4, y5⟩
    · rw [l1 a h1 h2 h3 (by omega)]; exact hZ a h1 h2 h3 (by omega)
    · exact mC_x hT.1 (fun a h1 h2 => l1 a (by omega) (by omega) (by omega) (by omega)) (fun j _ _ => by rw [l1 40 (by decide) (by decide) (by decide) (by decide)])
    · exact mA_c hT.2.1 (l1 40 (by decide) (by decide) (by decide) (by decide)) (fun a h1 h2 => l1 a (by omega) (by omega) (by omega) (by omega))
    · show rw_ (2 ^ rb) I' (323 + k) (if k < sp then SM (rt k) else fun _ => false)
      rw [if_pos hk]; exact l4 k hk (t7 k hk).2
    · by_cases c : k < sp
      · have hs' : (if k < sp then SM (rt k) else fun _ => false) s = true := hs
        rw [if_pos c] at hs'
        exact su (rt k + 1) (rt k) (Nat.lt_succ_self _) (t7 k c).2 s hs'
      · have hs' : (if k < sp then SM (rt k) else fun _ => false) s = true := hs
        rw [if_neg c] at hs'
        cases hs'
    · have gl : g < sp := by
        obtain ⟨q, _⟩ := List.getElem?_eq_some_iff.mp hg
        omega
      rw [f_run hT sm hEC (SS := fun k => if k < sp then SM (rt k) else fun _ => false) (fun k hk => if_pos hk) (hrt g C hg) v ss]
      show (v, SM (rt g) :: ss) = (v, (if g < sp then SM (rt g) else fun _ => false) :: ss)
      rw [if_pos gl]) 4201 0 M (Nat.zero_le _) (by omega) (fun _ _ _ _ _ => rfl) (fun s' i' _ _ h3 => absurd h3 (Nat.not_lt_zero _))
  exact z
end
