/-! READ 4: read keeps the invariant, and both answer alike -/
theorem Iw_of {co rb ib sp fi : Nat} {Nm : NmT} {Hn : List Nat} {D : List Itm} {SS SS' : Nat → Se} {e w : Nat} {I I' : Mm} {J : Ml} {B : Nat → Value} {E : List (Nat × Nat)} (hsp : sp = cnt 33 Nm) (h30 : sp ≤ 30) (hfi : fi < 2 ^ rb) (hSS : ∀ k s, SS k s = true → s < 2 ^ rb) (hC : CH co Nm rb ib sp fi D SS e w I J) (hM : MH co Nm rb ib sp fi Hn D SS' e w I' B E) (hu : ∀ k, k < sp → SS k = SS' k) (f : ∀ a, a < 40 → I' a = I a) : Iv I' J B E := by
  obtain ⟨c1, c2, c3, c4, c5, c6, c7, c8, c9, c10, c11⟩ := hC
  obtain ⟨m1, m2, m3, m4, m5, m6, m7, m8, m9, m10, m11⟩ := hM
  refine ⟨⟨co, Nm, rb, ib, sp, fi, Hn, D, SS, fi, e, w, ⟨hsp, h30, hfi, hfi, hSS⟩, ⟨cC_c c1 (f 3 (by decide)) (f 4 (by decide)) (f 5 (by decide)) (f 6 (by decide)), CW_c c2 (f 3 (by decide)) (f 25 (by decide)) (f 26 (by decide)) (f 29 (by decide)) (f 30 (by decide)) (f 31 (by decide)) (f 32 (by decide)) rfl rfl, by rw [f 13 (by decide)]; exact c4, by rw [f 13 (by decide)]; exact c5, by rw [f 3 (by decide)]; exact c6, by rw [f 3 (by decide)]; exact c7, by rw [f 3 (by decide)]; exact c8, by rw [f 0 (by decide)]; exact c9⟩, ⟨m1.1, m1.2.1, m1.2.2.1, fun k hk => by rw [hu k hk]; exact m1.2.2.2 k hk⟩, m3, m4, m5, m6, m7, m8, m9⟩, Or.inl ⟨by rw [f 37 (by decide)]; exact c10, by rw [f 37 (by decide)]; exact c11, m10, m11⟩, fun _ => 0, 0, ⟨by rw [f 1 (by decide)]; exact c3, Nat.zero_le _, fun q hq => absurd hq (Nat.not_lt_zero _)⟩, m2, Nat.zero_le _, fun q hq => absurd hq (Nat.not_lt_zero _)⟩
theorem r_eq {co rb ib sp fi : Nat} {Nm : NmT} {Hn : List Nat} {D : List Itm} {SS : Nat → Se} {e w : Nat} {I : Mm} {B : Nat → Value} {E : List (Nat × Nat)} (hM : MH co Nm rb ib sp fi Hn D SS e w I B E) (e9 : e < 9) : rMo_rdt I = if e = 0 then nI sp else -1 := by
  obtain ⟨m1, m2, m3, m4, m5, m6, m7, m8⟩ := hM
  unfold rMo_rdt
  rw [m3, m7]
  by_cases c : e = 0
  · rw [if_pos c, c]; rfl
  · have c' : ¬ nI e ≤ (0 : Int32) := nI_ge (a := 0) (b := e) (by omega) (by omega)
    rw [if_neg c, if_neg c']
def rdS (I1 : Mm) (J1 : Ml) (a : Int32) (B : Nat → Value) (E : List (Nat × Nat)) (R : R3) : Prop := ∃ I' B' X, R = (I', B', E ++ X) ∧ a = rMo_rdt I' ∧ Iv I' J1 B' (E ++ X) ∧ (∀ x ∈ X, x = (3, 256)) ∧ X.length + nnB B 4200 = nnB B' 4200
theorem bOK_of {I : Mm} {J : Ml} {B : Nat → Value} {E : List (Nat × Nat)} (h : Iv I J B E) : bOK B E I := by
  obtain ⟨⟨co, Nm, rb, ib, sp, fi, Hn, D, SS, st, e, w, _, _, hM, _⟩, _⟩ := h
  exact hM.2.2.1
theorem rd_both {I : Mm} {J : Ml} {B : Nat → Value} {E : List (Nat × Nat)} (h : Iv I J B E) (c : Value) : pCh_read I J c ∧ pMo_rdx (fCh_read I J c).2.1 ∧ (((fMo_rdx (fCh_read I J c).2.1).1 = 0 ∧ pMo_rdt (fMo_rdx (fCh_read I J c).2.1).2.2 B E ∧ rdS (fCh_read I J c).2.1 (fCh_read I J c).2.2.1 (fCh_read I J c).1 B E (fMo_rdt (fMo_rdx (fCh_read I J c).2.1).2.2 B E)) ∨ (¬ (fMo_rdx (fCh_read I J c).2.1).1 = 0 ∧ pMo_rdc (fCh_read I J c).2.1 (mk_K ++ E).length ∧ pMo_rdt (iMo_rdc (fCh_read I J c).2.1 (mk_K ++ E).length) B (E ++ [(0, 11)]) ∧ rdS (fCh_read I J c).2.1 (fCh_read I J c).2.2.1 (fCh_read I J c).1 B (E ++ [(0, 11)]) (fMo_rdt (iMo_rdc (fCh_read I J c).2.1 (mk_K ++ E).length) B (E ++ [(0, 11)])))) := by
  have hB := bOK_of h
  obtain ⟨_, _, b, L, hA, hT⟩ := h
  obtain ⟨n, hE⟩ := tn_ex (b := b) (L := L) (fun q hq => (hA.2.2 q hq).2)
  have tr : ∀ I1 : Mm, (∀ a, 40 ≤ a → I1 a = I a) → mBt I1 b L ∧ bOK B E I1 := fun I1 f => ⟨⟨by rw [f 40 (by decide)]; exact hT.1, hT.2.1, fun q hq => by rw [f 41 (by decide)]; exact hT.2.2 q hq⟩, bOK_c hB (fun a h1 _ => f a (by omega))⟩
  by_cases r0 : (sp_lines (tB b L) 4002 l0).1 = 0
  · obtain ⟨hW, hD⟩ := lD_lines hE 4002 l0 (lW_0 hE) lD_0 r0
    obtain ⟨i, co, Nm, CL, CF, Hn, rb, ib, sp, fi, hs⟩ : ∃ i co Nm CL CF Hn rb ib sp fi, (sp_lines (tB b L) 4002 l0).2.2 = (i, co, Nm, CL, CF, Hn, rb, ib, sp, fi) := ⟨_, _, _, _, _, _, _, _, _, _, rfl⟩
    rw [hs] at hW hD
    obtain ⟨⟨D, d1, d2⟩, SP, s1, s2, s3⟩ := hD
    obtain ⟨_, _, _, _, _, _, SS, _, _, _, q5, q6, _⟩ := m_rdA hT hE hB (Or.inr ⟨r0, hs⟩) ⟨d1, d2⟩ ⟨s1, s2, s3⟩
    obtain ⟨k1, k2, k3, k4⟩ := c_rdA (J := J) hA hE c ⟨r0, hs⟩ hW ⟨d1, d2⟩ ⟨s1, s2, s3⟩ q5 q6
    generalize fCh_read I J c = R at k2 k3 k4
    obtain ⟨x1, x2⟩ := tr R.2.1 k3
    obtain ⟨p1, p2, p3, I', B', X, SS', p4, p5, p6, p7, p8, p9, p10⟩ := m_rdA x1 hE x2 (Or.inr ⟨r0, hs⟩) ⟨d1, d2⟩ ⟨s1, s2, s3⟩
    refine ⟨k1, p1, Or.inl ⟨p2, p3, I', B', X, p4, ?_, ?_, p9, p10⟩⟩
    · rw [k4, r_eq p5 (by decide)]
    · exact Iw_of hW.2.2.2.2.2.1 hW.2.2.2.2.2.2.2.2.1 hW.2.2.2.2.2.2.2.2.2.1 q5 k2 p5 (fun k hk => SS_u s3 q6 p8 (k + 1) k (Nat.lt_succ_self _) (by omega)) p6
  · obtain ⟨_, _, _, _, e9, _, _, _, SS, _, _, _, q5, _⟩ := m_rdF hT hE hB r0 _ rfl
    obtain ⟨k1, k2, k3, k4⟩ := c_rdF (J := J) hA hE c r0 q5
    generalize fCh_read I J c = R at k2 k3 k4
    obtain ⟨x1, x2⟩ := tr R.2.1 k3
    obtain ⟨p1, p2, p3, p4, _, I', B', X, SS', p5, p6, p7, p8, p9, p10, p11⟩ := m_rdF x1 hE x2 r0 _ rfl
    refine ⟨k1, p1, Or.inr ⟨p2, p3, p4, I', B', X, p5, ?_, ?_, p10, p11⟩⟩
    · rw [k4, r_eq p6 e9]
    · exact Iw_of (sp := 0) rfl (Nat.zero_le _) Nat.one_pos q5 k2 p6 (fun k hk => absurd hk (Nat.not_lt_zero _)) p7
