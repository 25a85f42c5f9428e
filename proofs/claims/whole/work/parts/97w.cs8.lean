/-! CLASS'S FORMULAS 2: the loop -/
theorem CP_F : ∀ (p len : Nat) (x : Nat × Nat) (I : Mm) (J : Ml), I 10 2 = nI len → p < len → len ≤ 4000 → I 11 p = nI x.1 → I 12 p = nI x.2 → ((51 < x.1 ∧ x.1 < 60) ∨ (33 ≤ x.1 ∧ x.1 ≤ 42)) → pCm_perform (nI x.1) (nI x.2) I J → Ex pCh_perform_F_2 fCh_perform_F_2 I J p 1 (fCm_perform (nI x.1) (nI x.2) I J).1 (fCm_perform (nI x.1) (nI x.2) I J).2 := by
  intro p len x I J hl hp hn h8 h9 hx hv n Q z
  have c' : ¬ I 10 2 ≤ nI p := by rw [hl]; exact nI_ge hp (by omega)
  have ne : ∀ t : Nat, t < 2 ^ 31 → x.1 ≠ t → ¬ nI x.1 = nI t := fun t ht h q => h ((nI_eq (by omega) ht).mp q)
  have n32 : ¬ nI x.1 = (32 : Int32) := ne 32 (by decide) (by omega)
  have n51 : ¬ nI x.1 = (51 : Int32) := ne 51 (by decide) (by omega)
  have vv : vp_in (nI p) 4000 := vp_in_nI (by omega) (by decide)
  rw [pCh_perform_F_2.eq_2, fCh_perform_F_2.eq_2, if_neg c', nI_clamp (by omega), h8, h9, if_neg n32, if_neg n51]
  have y : pCh_perform_F_85 (pCh_perform_F_2 n) (nI p) (nI x.1) (nI x.2) I J ∧ Q (fCh_perform_F_85 (fCh_perform_F_2 n) (nI p) (nI x.1) (nI x.2) I J) := by
    unfold pCh_perform_F_85 fCh_perform_F_85 pCh_perform_F_95 fCh_perform_F_95 pCh_perform_F_108 fCh_perform_F_108
    rw [nI_i1]
    exact ⟨⟨hv, z.1⟩, z.2⟩
  rcases hx with hx | hx
  · have g51 : (51 : Int32) < nI x.1 := nI_lt (a := 51) (by omega) (by omega)
    rw [if_pos g51]
    exact ⟨⟨fun q => absurd q c', fun _ => ⟨vv, vv, fun q => absurd q n32, fun _ => ⟨fun q => absurd q n51, fun _ => ⟨fun _ => y.1, fun q => absurd g51 q⟩⟩⟩⟩, y.2⟩
  · have g51 : ¬ (51 : Int32) < nI x.1 := nI_nlt (a := 51) (by omega) (by decide)
    have l33 : ¬ nI x.1 < (33 : Int32) := nI_nlt (b := 33) (by omega) (by omega)
    have g42 : ¬ (42 : Int32) < nI x.1 := nI_nlt (a := 42) (by omega) (by decide)
    rw [if_neg g51, if_neg l33, if_neg g42]
    exact ⟨⟨fun q => absurd q c', fun _ => ⟨vv, vv, fun q => absurd q n32, fun _ => ⟨fun q => absurd q n51, fun _ => ⟨fun q => absurd q g51, fun _ => ⟨fun q => absurd q l33, fun _ => ⟨fun q => absurd q g42, fun _ => y.1⟩⟩⟩⟩⟩⟩, y.2⟩
theorem TS_F : ∀ (p len : Nat) (I : Mm) (J : Ml), I 10 2 = nI len → p < len → len ≤ 4000 → I 11 p = nI 51 → pCm_test 257 I J → Ex pCh_perform_F_2 fCh_perform_F_2 I J p 1 (fCm_test 257 I J).1 (fCm_test 257 I J).2 := by
  intro p len I J hl hp hn h8 hv n Q z
  have c' : ¬ I 10 2 ≤ nI p := by rw [hl]; exact nI_ge hp (by omega)
  have n32 : ¬ nI 51 = (32 : Int32) := by decide
  have n51 : nI 51 = (51 : Int32) := rfl
  have vv : vp_in (nI p) 4000 := vp_in_nI (by omega) (by decide)
  rw [pCh_perform_F_2.eq_2, fCh_perform_F_2.eq_2, if_neg c', nI_clamp (by omega), h8, if_neg n32, if_pos n51]
  unfold pCh_perform_F_64 fCh_perform_F_64 pCh_perform_F_108 fCh_perform_F_108
  rw [nI_i1]
  exact ⟨⟨fun q => absurd q c', fun _ => ⟨vv, vv, fun q => absurd q n32, fun _ => ⟨fun _ => ⟨hv, z.1⟩, fun q => absurd n51 q⟩⟩⟩, z.2⟩
section
variable {Nm : NmT} {n m ib W : Nat} {nx : Nat → Nat → Nat} {E : Nat → Nat → BitVec 8} {SS : Nat → Se}
def fST (Nm : NmT) (n m ib W : Nat) (nx : Nat → Nat → Nat) (E : Nat → Nat → BitVec 8) (SS : Nat → Se) (G : Nat) (I : Mm) (J : Ml) (S : List Se) : Prop := vT W I J [] ∧ cK n I J S ∧ cN n m ib nx I ∧ cIn n m nx I ∧ (∀ k, k < Nm.length → kd Nm k ≠ 33 → ∀ c, c < 8 * W → lv J (k * 256) c = E c k) ∧ ∀ k, k < G → ∀ s, s < 256 → sB J (4 * k) s = SS k s
def fF (I : Mm) (J : Ml) (I' : Mm) (J' : Ml) : Prop := (∀ a, a ≠ 22 → a ≠ 24 → a ≠ 33 → a ≠ 35 → a ≠ 36 → I' a = I a) ∧ ∀ a, a ≠ 23 → a ≠ 34 → J' a = J a
theorem fF_t {I I' I'' : Mm} {J J' J'' : Ml} (h : fF I J I' J') (h' : fF I' J' I'' J'') : fF I J I'' J'' := ⟨fun a h1 h2 h3 h4 h5 => (h'.1 a h1 h2 h3 h4 h5).trans (h.1 a h1 h2 h3 h4 h5), fun a h1 h2 => (h'.2 a h1 h2).trans (h.2 a h1 h2)⟩
theorem fF_g {I I' : Mm} {J J' : Ml} (h : gI I I') (h' : gJ J J') : fF I J I' J' := ⟨fun a _ _ h3 h4 h5 => h a h3 h4 h5, fun a _ h2 => h'.1 a h2⟩
theorem fST_g {G : Nat} {I I' : Mm} {J J' : Ml} {S S' : List Se} (hG : G ≤ 30) (h : fST Nm n m ib W nx E SS G I J S) (g : gI I I') (g' : gJ J J') (hK : cK n I' J' S') : fST Nm n m ib W nx E SS G I' J' S' := ⟨vT_c h.1 (g 22 (by decide) (by decide) (by decide)) (g 24 (by decide) (by decide) (by decide)) (g'.1 23 (by decide)), hK, cN_c h.2.2.1 (g 3 (by decide) (by decide) (by decide)) (g 25 (by decide) (by decide) (by decide)) (g 26 (by decide) (by decide) (by decide)), cIn_c h.2.2.2.1 (g 27 (by decide) (by decide) (by decide)) (g 28 (by decide) (by decide) (by decide)), fun k hk h3 c hc => by unfold lv; rw [g'.1 23 (by decide)]; exact h.2.2.2.2.1 k hk h3 c hc, fun k hk s hs => by rw [gJ_b g' (by omega) hs]; exact h.2.2.2.2.2 k hk s hs⟩
theorem tsF_cg {f g : Nat → BitVec 8} (h : ∀ c, c < n * m → f c = g c) : tsF n m (fun c => [f c]) = tsF n m (fun c => [g c]) := by
  refine se_ext fun s => ?_
  rw [tsF_i, tsF_i]
  refine and_congr_right fun hs => forall_congr' fun i => forall_congr' fun hi => ?_
  show f (s * m + i) ≠ 0#8 ↔ g (s * m + i) ≠ 0#8
  rw [h _ (cs_lt hs hi)]
def GX (Nm : NmT) (n m ib W : Nat) (nx : Nat → Nat → Nat) (E : Nat → Nat → BitVec 8) (SS : Nat → Se) (G h : Nat) (C : Cd) : Prop := ∀ (p len : Nat) (I : Mm) (J : Ml) (S : List Se), cA 10 I p C → I 10 2 = nI len → p + C.length ≤ len → len ≤ 4000 → fST Nm n m ib W nx E SS G I J S → S.length + h ≤ 125 → ∃ I' J' g, fST Nm n m ib W nx E SS G I' J' (g :: S) ∧ fF I J I' J' ∧ (∀ v ss, runF n m nx E SS C v ss = (v, g :: ss)) ∧ Ex pCh_perform_F_2 fCh_perform_F_2 I J p C.length I' J'
set_option maxHeartbeats 4000000 in
theorem GX_of (hSS : ∀ k s, SS k s = true → s < n) (hNm : Nm.length ≤ 60) (hW : n * m ≤ 8 * W) {G : Nat} (hG : G ≤ 30) {h : Nat} {C : Cd} (x : GC (okN Nm Nm.length) (fun k => k < G) h C) : 0 < h ∧ GX Nm n m ib W nx E SS G h C := by
  refine x (fun h C => 0 < h ∧ GX Nm n m ib W nx E SS G h C) ⟨?_, ?_, ?_, ?_⟩
  · intro ht C hx hh
    refine ⟨by decide, fun p len I J S hA hl hp hn hT hS => ?_⟩
    rw [List.length_append] at hp
    simp only [List.length_cons, List.length_nil] at hp
    have W2 := hT.1.2.2.1
    have xe := (XE_of (W := W) (Or.inr rfl) VS_F (ok := okN Nm Nm.length) (fun k hk => by have := hk.1; omega) hx).2
    obtain ⟨I1, J1, f, a1, a2, a3, a4⟩ := xe p len I J [] (cA_l hA) hl (by omega) hn hT.1 (by rw [List.length_nil]; omega)
    have hA1 := cA_1 (cA_c (cA_r hA) (a2.1 11 (by decide) (by decide)) (a2.1 12 (by decide) (by decide)))
    have hl1 : I1 10 2 = nI len := by rw [a2.1 10 (by decide) (by decide)]; exact hl
    have hK1 : cK n I1 J1 S := by
      refine ⟨by rw [a2.1 33 (by decide) (by decide)]; exact hT.2.1.1, hT.2.1.2.1, kS_c S (fun j _ _ => by rw [a2.2.2.1 34 (by decide)]) hT.2.1.2.2.1, fun s hs => ?_, hT.2.1.2.2.2.2⟩
      unfold sB; rw [a2.2.2.1 34 (by decide)]; exact hT.2.1.2.2.2.1 s hs
    have hN1 := cN_c hT.2.2.1 (a2.1 3 (by decide) (by decide)) (a2.1 25 (by decide) (by decide)) (a2.1 26 (by decide) (by decide))
    have hI1 := cIn_c hT.2.2.2.1 (a2.1 27 (by decide) (by decide)) (a2.1 28 (by decide) (by decide))
    obtain ⟨t1, I2, J2, t2, t3, t4, t5, t6, t7⟩ := cm_tst hN1 hW a1 hK1 (by omega)
    have st := TS_F (p + C.length) len I1 J1 hl1 (by omega) hn hA1.1 t1
    rw [t2] at st
    obtain ⟨v0, hv0⟩ : ∃ g : Nat → BitVec 8, ∀ c s, run (E c) C s = g c :: s := ⟨fun c => (run (E c) C []).headD 0#8, fun c s => by
      obtain ⟨v, hv⟩ := XC_run hx (E c)
      show run (E c) C s = (run (E c) C []).headD 0#8 :: s
      rw [hv s, hv []]; rfl⟩
    have ef : ∀ c, c < n * m → f c = v0 c := fun c hc => by
      have z1 := a3 c (by omega) []
      have z2 := hv0 c []
      have z3 : run (fun k => lv J (k * 256) c) C [] = run (E c) C [] := run_cg _ _ (fun k hk => by
        have o := XC_nm hx k hk
        exact hT.2.2.2.2.1 k o.1 o.2 c (by omega))
      rw [z1, z2] at z3
      exact (List.cons.inj z3).1
    refine ⟨I2, J2, tsF n m (fun c => [f c]), ⟨t3, t4, cN_c hN1 (t5 3 (by decide) (by decide) (by decide) (by decide)) (t5 25 (by decide) (by decide) (by decide) (by decide)) (t5 26 (by decide) (by decide) (by decide) (by decide)), cIn_c hI1 (t5 27 (by decide) (by decide) (by decide) (by decide)) (t5 28 (by decide) (by decide) (by decide) (by decide)), fun k hk h3 c hc => ?_, fun k hk s hs => ?_⟩, ⟨fun a h1 h2 h3 h4 h5 => (t5 a h1 h3 h4 h5).trans (a2.1 a h1 h2), fun a h1 h2 => (t7.1 a h2).trans (a2.2.2.1 a h1)⟩, fun v ss => ?_, by rw [List.length_append]; exact Ex_t a4 st⟩
    · have : lv J2 (k * 256) c = lv J1 (k * 256) c := by unfold lv; rw [t7.1 23 (by decide)]
      rw [this, vF_lv a2 (by omega) (by omega)]
      exact hT.2.2.2.2.1 k hk h3 c hc
    · rw [gJ_b t7 (by omega) hs]
      have : sB J1 (4 * k) s = sB J (4 * k) s := by unfold sB; rw [a2.2.2.1 34 (by decide)]
      rw [this]
      exact hT.2.2.2.2.2 k hk s hs
    · rw [runF_t C (XC_v hx) hv0, tsF_cg ef]
  · intro k hk
    refine ⟨by decide, fun p len I J S hA hl hp hn hT hS => ?_⟩
    have hA1 := cA_1 hA
    obtain ⟨p1, I1, J1, p2, p3, p4, p5⟩ := cm_push hT.2.1 (by omega)
    have e4 : nI k * 4 = nI (4 * k) := by show nI k * nI 4 = _; rw [pk_mul, Nat.mul_comm]
    have cp := cm_copy (I := I1) (a := 4 * k) (t := 124 + 4 * S.length) (by omega) (by omega) J1
    have z := pc_na (I := I) (J := J) (nI k)
    rw [p2, e4] at z
    have z2 : fCm_perform (nI 52) (nI k) I J = (I1, fCm_copy (nI (4 * k)) (nI (124 + 4 * S.length)) I1 J1) := z.2
    have st := CP_F p len (52, k) I J hl (by simp only [List.length_cons, List.length_nil] at hp; omega) hn hA1.1 hA1.2 (Or.inl (show 51 < 52 ∧ 52 < 60 by decide)) (z.1 ⟨p1, cp.1⟩)
    dsimp only at st
    rw [z2] at st
    have g' : gJ J (fCm_copy (nI (4 * k)) (nI (124 + 4 * S.length)) I1 J1) := gJ_t (gJ_k p5 (by omega)) (gJ_k cp.2.1 (by omega))
    have n256 := hT.2.2.1.2.1
    have sb : ∀ s, s < 256 → sB J1 (4 * k) s = SS k s := fun s hs => by rw [kF_b p5 (by omega) hs]; exact hT.2.2.2.2.2 k hk s hs
    refine ⟨I1, _, SS k, fST_g hG hT p4 g' (cK_top p3 cp.2.1 (fun s hs => by rw [cp.2.2 s hs]; exact sb s hs) ?_), fF_g p4 g', fun v ss => runF_52 k v ss, st⟩
    exact hSS k
  · rintro o h C ho ⟨h0, hC⟩
    refine ⟨by omega, fun p len I J S hA hl hp hn hT hS => ?_⟩
    rw [List.length_append] at hp
    simp only [List.length_cons, List.length_nil] at hp
    obtain ⟨I1, J1, f, a1, a2, a3, a4⟩ := hC p len I J S (cA_l hA) hl (by omega) hn hT (by omega)
    have ga : ∀ a, 10 ≤ a → a ≤ 12 → I1 a = I a := fun a h1 h2 => a2.1 a (by omega) (by omega) (by omega) (by omega) (by omega)
    have hA1 := cA_1 (cA_c (cA_r hA) (ga 11 (by decide) (by decide)) (ga 12 (by decide) (by decide)))
    obtain ⟨z1, I', J', z2, z3, z4, z5⟩ := cm_op1 a1.2.2.1 a1.2.2.2.1 a1.2.1 (by omega) ho (nI 0)
    have st := CP_F (p + C.length) len (o, 0) I1 J1 (by rw [ga 10 (by decide) (by decide)]; exact hl) (by omega) hn hA1.1 hA1.2 (by show (51 < o ∧ o < 60) ∨ (33 ≤ o ∧ o ≤ 42); omega) z1
    dsimp only at st
    rw [z2] at st
    exact ⟨I', J', _, fST_g hG a1 z3 z4 z5, fF_t a2 (fF_g z3 z4), fun v ss => by rw [runF_app, a3, runF_1 ho], by rw [List.length_append]; exact Ex_t a4 st⟩
  · rintro o h h' C D ho ⟨h0, hC⟩ ⟨h0', hD⟩
    refine ⟨by omega, fun p len I J S hA hl hp hn hT hS => ?_⟩
    rw [List.length_append, List.length_append] at hp
    simp only [List.length_cons, List.length_nil] at hp
    obtain ⟨I1, J1, f, a1, a2, a3, a4⟩ := hC p len I J S (cA_l hA) hl (by omega) hn hT (by omega)
    have ga : ∀ a, 10 ≤ a → a ≤ 12 → I1 a = I a := fun a h1 h2 => a2.1 a (by omega) (by omega) (by omega) (by omega) (by omega)
    have hA1 := cA_c (cA_r hA) (ga 11 (by decide) (by decide)) (ga 12 (by decide) (by decide))
    have hl1 : I1 10 2 = nI len := by rw [ga 10 (by decide) (by decide)]; exact hl
    obtain ⟨I2, J2, f2, b1, b2, b3, b4⟩ := hD (p + C.length) len I1 J1 (f :: S) (cA_l hA1) hl1 (by omega) hn a1 (by rw [List.length_cons]; omega)
    have gb : ∀ a, 10 ≤ a → a ≤ 12 → I2 a = I1 a := fun a h1 h2 => b2.1 a (by omega) (by omega) (by omega) (by omega) (by omega)
    have hA2 := cA_1 (cA_c (cA_r hA1) (gb 11 (by decide) (by decide)) (gb 12 (by decide) (by decide)))
    obtain ⟨z1, I', J', z2, z3, z4, z5⟩ := cm_op2 b1.2.2.1 b1.2.2.2.1 b1.2.1 ho (nI 0)
    have st := CP_F (p + C.length + D.length) len (o, 0) I2 J2 (by rw [gb 10 (by decide) (by decide)]; exact hl1) (by omega) hn hA2.1 hA2.2 (by show (51 < o ∧ o < 60) ∨ (33 ≤ o ∧ o ≤ 42); omega) z1
    dsimp only at st
    rw [z2] at st
    exact ⟨I', J', _, fST_g hG b1 z3 z4 z5, fF_t (fF_t a2 b2) (fF_g z3 z4), fun v ss => by rw [runF_app, a3, runF_app, b3, runF_2 ho], by rw [List.length_append, List.length_append]; exact Ex_t a4 (Ex_t b4 st)⟩
theorem specs_F (hSS : ∀ k s, SS k s = true → s < n) (hNm : Nm.length ≤ 60) (hW : n * m ≤ 8 * W) : ∀ (l : List Cd) (g p len : Nat) (I : Mm) (J : Ml), (∀ j C, l[j]? = some C → (∃ h, h ≤ 123 ∧ GC (okN Nm Nm.length) (fun k => k < g + j) h C) ∧ ∀ v ss, runF n m nx E SS C v ss = (v, SS (g + j) :: ss)) → g + l.length ≤ 30 → cA 10 I p (flS l g) → I 10 2 = nI len → p + (flS l g).length ≤ len → len ≤ 4000 → fST Nm n m ib W nx E SS g I J [] → ∃ I' J', Ex pCh_perform_F_2 fCh_perform_F_2 I J p (flS l g).length I' J' ∧ fST Nm n m ib W nx E SS (g + l.length) I' J' [] ∧ fF I J I' J'
  | [], g, p, len, I, J, _, _, _, _, _, _, hT => ⟨I, J, fun n Q z => z, hT, fun _ _ _ _ _ _ => rfl, fun _ _ _ => rfl⟩
  | C :: l, g, p, len, I, J, hC, h30, hA, hl, hp, hn, hT => by
    rw [List.length_cons] at h30
    rw [flS] at hA hp
    rw [List.length_append, List.length_append] at hp
    simp only [List.length_cons, List.length_nil] at hp
    obtain ⟨⟨h, h1, h2⟩, hr⟩ := hC 0 C rfl
    rw [Nat.add_zero] at h2 hr
    obtain ⟨I1, J1, f, a1, a2, a3, a4⟩ := (GX_of hSS hNm hW (show g ≤ 30 by omega) h2).2 p len I J [] (cA_l (cA_l hA)) hl (by omega) hn hT (by rw [List.length_nil]; omega)
    have ef : f = SS g := by
      have z := a3 (fun _ => []) []
      rw [hr] at z
      exact (List.cons.inj (Prod.mk.inj z).2).1.symm
    have ga : ∀ a, 10 ≤ a → a ≤ 12 → I1 a = I a := fun a h1 h2 => a2.1 a (by omega) (by omega) (by omega) (by omega) (by omega)
    have hA1 := cA_1 (cA_c (cA_r (cA_l hA)) (ga 11 (by decide) (by decide)) (ga 12 (by decide) (by decide)))
    have hl1 : I1 10 2 = nI len := by rw [ga 10 (by decide) (by decide)]; exact hl
    obtain ⟨o1, I2, o2, o3, o4⟩ := cm_pop a1.2.1
    have e4 : nI g * 4 = nI (4 * g) := by show nI g * nI 4 = _; rw [pk_mul, Nat.mul_comm]
    have cp := cm_copy (I := I2) (a := 124 + 4 * ([] : List Se).length) (t := 4 * g) (by simp) (by omega) J1
    have z := pc_sp (I := I1) (J := J1) (nI g)
    rw [o2, e4] at z
    have z2 : fCm_perform (nI 33) (nI g) I1 J1 = (I2, fCm_copy (nI (124 + 4 * ([] : List Se).length)) (nI (4 * g)) I2 J1) := z.2
    have st := CP_F (p + C.length) len (33, g) I1 J1 hl1 (by omega) hn hA1.1 hA1.2 (Or.inr (show 33 ≤ 33 ∧ 33 ≤ 42 by decide)) (z.1 ⟨o1, cp.1⟩)
    dsimp only at st
    rw [z2] at st
    generalize fCm_copy (nI (124 + 4 * ([] : List Se).length)) (nI (4 * g)) I2 J1 = J2 at cp st
    have n256 := hT.2.2.1.2.1
    have hT2 : fST Nm n m ib W nx E SS (g + 1) I2 J2 [] := by
      refine ⟨vT_c a1.1 (o4 22 (by decide) (by decide) (by decide)) (o4 24 (by decide) (by decide) (by decide)) (cp.2.1.1 23 (by decide)), ⟨o3.1, o3.2.1, trivial, fun s hs => by rw [kF_b cp.2.1 (by omega) hs]; exact o3.2.2.2.1 s hs, fun q hq => (by cases hq)⟩, cN_c a1.2.2.1 (o4 3 (by decide) (by decide) (by decide)) (o4 25 (by decide) (by decide) (by decide)) (o4 26 (by decide) (by decide) (by decide)), cIn_c a1.2.2.2.1 (o4 27 (by decide) (by decide) (by decide)) (o4 28 (by decide) (by decide) (by decide)), fun k hk h3 c hc => by unfold lv; rw [cp.2.1.1 23 (by decide)]; exact a1.2.2.2.2.1 k hk h3 c hc, fun k hk s hs => ?_⟩
      by_cases ek : k = g
      · rw [ek, cp.2.2 s hs, a1.2.1.2.2.1.1 s hs, ef]
      · rw [kF_b cp.2.1 (by omega) hs]; exact a1.2.2.2.2.2 k (by omega) s hs
    have gb : ∀ a, 10 ≤ a → a ≤ 12 → I2 a = I a := fun a h1 h2 => (o4 a (by omega) (by omega) (by omega)).trans (ga a h1 h2)
    obtain ⟨I', J', w1, w2, w3⟩ := specs_F hSS hNm hW l (g + 1) (p + (C.length + 1)) len I2 J2 (fun j D hD => by
      have := hC (j + 1) D hD
      rw [show g + (j + 1) = g + 1 + j by omega] at this
      exact this) (by omega) (cA_c (by have := cA_r hA; rw [List.length_append] at this; exact this) (gb 11 (by decide) (by decide)) (gb 12 (by decide) (by decide))) (by rw [gb 10 (by decide) (by decide)]; exact hl) (by omega) hn hT2
    refine ⟨I', J', ?_, ?_, fF_t (fF_t a2 ⟨fun a _ _ h3 h4 h5 => o4 a h3 h4 h5, fun a h1 h2 => cp.2.1.1 a h2⟩) w3⟩
    · rw [flS, List.length_append, List.length_append]
      exact Ex_t (Ex_t a4 st) w1
    · rw [List.length_cons, show g + (l.length + 1) = g + 1 + l.length by omega]; exact w2
end
