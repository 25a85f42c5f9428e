/-! PARSE 13: next; all lines -/
section
variable {A : Mm} {J : Ml} {B : TB} {n : Nat}
set_option maxHeartbeats 4000000 in
theorem cl_next {s : LSt} {I : Mm} (c : Value) (hT : bE B n) (hM : bMem A B n) (hs : lOk B n s) (h : cL A s I) (hk : B.1 s.1 = 32) : pRd_readNext I J c ∧ LE A B n s.1 (sp_next B s) (fRd_readNext I J c).1 := by
  obtain ⟨i, co, Nm, CL, CF, Hn, rb, ib, sp, fi⟩ := s
  obtain ⟨hi, hco, hok, hcl, hrb, hib, hsp, hfi, hHn⟩ := hs
  have hk : B.1 i = 32 := hk
  have hn := hT.2.1
  have h' := h
  obtain ⟨f, h2, h3, h7, h9, h10, h35, h36, h37, h38, h39, h310, hn', hh, hl, hc, hl2, hc2⟩ := h'
  have S := (cL_S h).1
  have hF := cL_F hM hok h rfl rfl rfl rfl (fun _ _ => rfl) f
  have tM := bMem_T hM (f 17 (by decide)) (f 18 (by decide)) (f 21 (by decide)) Nm
  unfold pRd_readNext fRd_readNext sp_next
  dsimp only
  by_cases hp : co + 8 ≤ 3000
  rotate_left
  · rw [if_neg hp]
    have cg := cS_chg1 (J := J) (Or.inl rfl) S (by omega) (by simp) (by omega) (p := 8) hp (by omega)
    have t := tNex6 (J := J) cg.2 c
    exact sq cg.1 ⟨t.1, LE_f (cH_b t.2 f)⟩
  rw [if_pos hp]
  have cg := cS_chg0 (J := J) (Or.inl rfl) S (p := 8) hp
  have ad := cS_adv (J := J) (Or.inl rfl) (bE_T hT Nm) tM cg.2 hi (show B.1 i < 45 by omega)
  have si := tEnd_s (bE_T hT Nm) hi (show B.1 i < 45 by omega)
  have pc : pRd_charge (8 : Int32) I J := cg.1
  have pa : pRd_advance (fRd_charge (8 : Int32) I J) J := ad.1
  have S2 : cS I 7 (i + 1) [] CL (co + 8) (fRd_advance (fRd_charge (8 : Int32) I J) J) := ad.2
  clear ad cg
  unfold pRd_readNext_6 fRd_readNext_6
  refine sq pc (sq pa ?_)
  generalize fRd_advance (fRd_charge (8 : Int32) I J) J = I2 at S2
  unfold pRd_readNext_10 fRd_readNext_10
  have e3 := cS_kind tM S2 si
  have f5 := fr_5 (Or.inl rfl) S2.1
  have g2 := fr_k7 S2.1
  have k48 := hT.2.2.1 _ si
  have bad : ∀ {e w : Nat} {I' : Mm} (z : Int32) (r : LR), r.1 = e → r.2.1 = w → cB I 7 e w I' → pRd_readNext_14 z I' J c ∧ LE A B n i r (fRd_readNext_14 z I' J c).1 := fun z r h1 h2 hb => by
    have t := tNex14 (J := J) hb z c
    exact ⟨t.1, LE_c h1 h2 (cH_b t.2 f)⟩
  by_cases k43 : B.1 (i + 1) = 43
  rotate_left
  · have rf := cS_refuse (J := J) (Or.inl rfl) (bE_T hT Nm) tM S2 si (by simp) (by omega)
    have c4 : ¬ I2 13 3 = (43 : Int32) := fun q => k43 ((nI_eq (a := B.1 (i + 1)) (b := 43) (by omega) (by decide)).mp (e3.symm.trans q))
    have ln := l_no1 B Nm (i + 1)
    have e : fRd_readRegWithoutNext I2 J = (0, fRd_refuse I2 J) := by
      unfold fRd_readRegWithoutNext fRd_readRegWithoutNext_13; rw [if_neg c4]
    rw [if_neg k43, e]
    refine sq ?_ (bad 0 _ ln.1 ln.2 rf.2)
    unfold pRd_readRegWithoutNext
    exact ⟨fun q => absurd q c4, fun _ => ⟨rf.1, trivial⟩⟩
  rw [if_pos k43]
  have c4 : I2 13 3 = (43 : Int32) := by rw [e3]; show nI (B.1 (i + 1)) = _; rw [k43]; rfl
  have fm := hF I2 J (i + 1) si k43 f5.2.2.2.2.2.2.2.2.2.2 f5.2.2.2.2.2.1 S2.2.2.1 f5.2.2.1 f5.2.2.2.1 f5.2.2.2.2.2.2.2.2.1
  have hlt := cS_halt (J := J) (Or.inl rfl) S2 (by omega) (by simp) (by omega) (e := 2) (by decide) (by decide)
  cases ho : fnd B.2.2 Nm 0 (i + 1) with
  | none =>
    have en := fm.2.2 ho
    have c2 : (-1 : Int32) < 0 := by decide
    have e : fRd_readRegWithoutNext I2 J = (0, fRd_halt 2 I2 J) := by
      unfold fRd_readRegWithoutNext fRd_readRegWithoutNext_47 fRd_readRegWithoutNext_52; rw [if_pos c4, en, if_pos c2]
    rw [e]
    refine sq ?_ (bad 0 _ rfl rfl hlt.2)
    unfold pRd_readRegWithoutNext pRd_readRegWithoutNext_47
    rw [en]
    exact ⟨fun _ => ⟨fm.1, fun _ => ⟨hlt.1, trivial⟩, fun q => absurd c2 q⟩, fun q => absurd c4 q⟩
  | some k =>
    obtain ⟨en, k60, e4, k50, -⟩ := fm.2.1 k ho
    have kl := fnd_lt Nm 0 (i + 1) k ho
    have c2 : ¬ nI k < 0 := nI_pos (by omega)
    have v : vp_in (nI k) 60 := vp_in_nI k60 (by decide)
    have e4' : I2 4 k = nI (Nm.getD k (0, 0, 0, 0)).2.1 := by rw [g2.1]; exact e4
    have k50' : (Nm.getD k (0, 0, 0, 0)).2.1 < 50 := k50
    have e15 : I2 15 k = if k ∈ Hn then 1 else 0 := by rw [g2.2.2.2.2.1]; exact hh k k60
    dsimp only
    by_cases k29 : (Nm.getD k (0, 0, 0, 0)).2.1 = 29
    rotate_left
    · have c5 : ¬ nI (Nm.getD k (0, 0, 0, 0)).2.1 = (29 : Int32) := fun q => k29 ((nI_eq (b := 29) (by omega) (by decide)).mp q)
      have e : fRd_readRegWithoutNext I2 J = (0, fRd_halt 2 I2 J) := by
        unfold fRd_readRegWithoutNext fRd_readRegWithoutNext_47 fRd_readRegWithoutNext_52; rw [if_pos c4, en, if_neg c2, nI_clamp (by omega), e4', if_neg c5]
      rw [if_neg k29, e]
      refine sq ?_ (bad 0 _ rfl rfl hlt.2)
      unfold pRd_readRegWithoutNext pRd_readRegWithoutNext_47
      rw [en, nI_clamp (by omega), e4']
      exact ⟨fun _ => ⟨fm.1, fun q => absurd q c2, fun _ => ⟨v, fun q => absurd q c5, fun _ => ⟨hlt.1, trivial⟩⟩⟩, fun q => absurd c4 q⟩
    rw [if_pos k29]
    have c5 : nI (Nm.getD k (0, 0, 0, 0)).2.1 = (29 : Int32) := by rw [k29]; rfl
    by_cases kh : k ∈ Hn
    · have c6 : ¬ I2 15 k = 0 := by rw [e15, if_pos kh]; decide
      have e : fRd_readRegWithoutNext I2 J = (0, fRd_halt 2 I2 J) := by
        unfold fRd_readRegWithoutNext fRd_readRegWithoutNext_47 fRd_readRegWithoutNext_52; rw [if_pos c4, en, if_neg c2, nI_clamp (by omega), e4', if_pos c5, if_neg c6]
      rw [if_pos kh, e]
      refine sq ?_ (bad 0 _ rfl rfl hlt.2)
      unfold pRd_readRegWithoutNext pRd_readRegWithoutNext_47
      rw [en, nI_clamp (by omega), e4']
      exact ⟨fun _ => ⟨fm.1, fun q => absurd q c2, fun _ => ⟨v, fun _ => ⟨v, fun q => absurd q c6, fun _ => ⟨hlt.1, trivial⟩⟩, fun q => absurd c5 q⟩⟩, fun q => absurd c4 q⟩
    rw [if_neg kh]
    have c6 : I2 15 k = 0 := by rw [e15, if_neg kh]
    have b1 := cS_w (v := 1) (j := k) (Or.inr rfl) (Or.inl rfl) (cS_rb (Or.inl rfl) S2)
    have rr : ∀ a, (a < 3 ∨ 16 < a) → (pm_u I2 15 k 1) a = A a := fun a ha => by rw [pm_u_n _ _ _ (by omega), fr_r (Or.inl rfl) S2.1 a ha]; exact f a ha
    have tM2 : tMem (pm_u I2 15 k 1) (tT B Nm) n := bMem_T hM (rr 17 (by decide)) (rr 18 (by decide)) (rr 21 (by decide)) Nm
    have ad := cS_adv (J := J) (Or.inl rfl) (bE_T hT Nm) tM2 b1 si (show B.1 (i + 1) < 45 by omega)
    have si2 := tEnd_s (bE_T hT Nm) si (show B.1 (i + 1) < 45 by omega)
    have e : fRd_readRegWithoutNext I2 J = (nI k, fRd_advance (pm_u I2 15 k 1) J) := by
      unfold fRd_readRegWithoutNext fRd_readRegWithoutNext_65; rw [if_pos c4, en, if_neg c2, nI_clamp (by omega), e4', if_pos c5, if_pos c6]
    rw [e]
    refine sq ?_ ?_
    · unfold pRd_readRegWithoutNext
      rw [en, nI_clamp (by omega), e4']
      exact ⟨fun _ => ⟨fm.1, fun q => absurd q c2, fun _ => ⟨v, fun _ => ⟨v, fun _ => ⟨v, ad.1, trivial⟩, fun q => absurd c6 q⟩, fun q => absurd c5 q⟩⟩, fun q => absurd c4 q⟩
    dsimp only
    have S3 := ad.2
    clear ad bad
    generalize fRd_advance (pm_u I2 15 k 1) J = I3 at S3
    generalize eM : pm_u I2 15 k 1 = M at S3 tM2 rr
    have Mn : ∀ a, a ≠ 15 → M a = I2 a := fun a ha => by rw [← eM]; exact pm_u_n _ _ _ ha
    have M15 : ∀ j, M 15 j = if j = k then 1 else I2 15 j := fun j => by rw [← eM, pm_u_a]
    unfold pRd_readNext_14 fRd_readNext_14
    refine sqr (cl_ex (J := J) (s := 2) Nm (Or.inl rfl) hT tM2 S3 si2 (by decide) (by omega) (fun r z I' => pRd_readNext_20 (nI k) z I' J c ∧ LE A B n i r (fRd_readNext_20 (nI k) z I' J c).1) (fun r e w he h1 h2 I' hb _ => ?_) (fun si3 I4 S4 => ?_))
    · have t := tNex20 (J := J) hb (nI k) 0 c
      exact ⟨t.1, LE_c h1 h2 (cH_b t.2 rr)⟩
    have g4 := fr_k7 S4.1
    have r4 : ∀ a, (a < 3 ∨ 16 < a) → I4 a = A a := fun a ha => (fr_r (Or.inl rfl) S4.1 a ha).trans (rr a ha)
    have tM4 := bMem_T hM (r4 17 (by decide)) (r4 18 (by decide)) (r4 21 (by decide)) Nm
    have hF4 : fMem I4 (tT B Nm) n := cL_F hM hok h (by rw [g4.2.2.2.2.2.2.2.2 5 (by decide), Mn 3 (by decide), g2.2.2.2.2.2.2.2.2 5 (by decide)]) (by rw [g4.1, Mn 4 (by decide), g2.1]) (by rw [g4.2.1, Mn 5 (by decide), g2.2.1]) (by rw [g4.2.2.1, Mn 6 (by decide), g2.2.2.1]) (fun k hk => by rw [g4.2.2.2.1, Mn 14 (by decide), g2.2.2.2.1]) r4
    have S4' := cS_rb (Or.inl rfl) S4
    have x := (cE_L (J := J) (bE_T hT Nm) tM4 hF4 600).1 0 (i + 1 + 1 + 1) (co + 8) 200 I4 [] CL (by decide) (by decide) si3 hp (by simp) (by simp only [List.length_nil]; omega) (sp_fuE (bE_T hT Nm) 600 0 0 0 _ _ (by decide) (by decide) (by decide) (by decide) (by decide) si3 hp) S4'
    have ln := sp_len (bE_T hT Nm) 600 0 0 0 (i + 1 + 1 + 1) (co + 8) si3 hp
    rw [nI_0] at x
    unfold pRd_readNext_20 fRd_readNext_20 pge_L_Rd_readExpression fge_L_Rd_readExpression
    refine sq x.1 ?_
    have x2 := x.2
    clear x
    generalize ge_L_F 200 0 0 0 I4 J = I5 at x2
    generalize sp_E (tT B Nm) 600 0 0 0 (i + 1 + 1 + 1) (co + 8) = r at x2 ln ⊢
    by_cases e1 : r.1 = 0
    rotate_left
    · rw [l_x1 e1]
      have t := tNex37 (J := J) (x2.2 e1) (nI k) (Value.ref 7)
      exact ⟨t.1, LE_f (cH_b t.2 r4)⟩
    rw [l_x0 e1]
    have l1 := ln e1
    have s2 := x2.1 e1
    clear x2 ln
    obtain ⟨re, rw', rj, rc, rC⟩ := r
    dsimp only at s2 l1 ⊢
    have hl1 : (CL ++ rC).length = CL.length + rC.length := List.length_append
    unfold pRd_readNext_37 fRd_readNext_37
    refine sqr (cl_ex (J := J) (s := 0) Nm (Or.inl rfl) hT tM4 s2 l1.2.2.1 (by decide) (by omega) (fun r z I' => pRd_readNext_42 (nI k) z I' J (Value.ref 7) ∧ LE A B n i r (fRd_readNext_42 (nI k) z I' J (Value.ref 7)).1) (fun r e w he h1 h2 I' hb hcH => ?_) (fun si7 I6 S6 => ?_))
    · unfold pRd_readNext_42 fRd_readNext_42
      rw [if_pos rfl]
      exact ⟨⟨fun _ => trivial, fun q => absurd rfl q⟩, LE_c h1 h2 (cH_b hcH r4)⟩
    unfold pRd_readNext_42 fRd_readNext_42
    rw [if_neg (by decide)]
    have ad := cS_add_L (J := J) S6 (by omega) 32 k
    have pa : pCo_add_L (32 : Int32) (nI k) I6 J := ad.1
    have S7 : cS I4 7 (rj + 1) [] (CL ++ rC ++ [(32, k)]) rc (fCo_add_L (32 : Int32) (nI k) I6 J) := ad.2
    clear ad
    generalize fCo_add_L (32 : Int32) (nI k) I6 J = I7 at S7
    dsimp only
    rw [List.append_assoc] at S7
    have g7 := fr_k7 S7.1
    have gr := fr_r (Or.inl rfl) S7.1
    have q3 : ∀ j, j ≠ 9 → I7 3 j = I 3 j := fun j hj => by rw [g7.2.2.2.2.2.2.2.2 j hj, g4.2.2.2.2.2.2.2.2 j hj, Mn 3 (by decide), g2.2.2.2.2.2.2.2.2 j hj]
    refine ⟨⟨fun q => absurd q (by decide), fun _ => ⟨pa, trivial⟩⟩, fun _ => ⟨⟨fun a ha => (gr a ha).trans (r4 a ha), S7.2.2.1, ?_, ?_, S7.2.2.2.2.2.1, ?_, ?_, ?_, ?_, ?_, S7.2.1, ?_, ?_, ?_, S7.2.2.2.2.2.2.2.1, S7.2.2.2.2.2.2.2.2.1, ?_, ?_⟩, ?_, ?_⟩, fun q => absurd rfl q⟩
    · rw [S7.2.2.2.1, r4 18 (by decide)]
    · rw [S7.2.2.2.2.1]; exact nI_0
    · rw [S7.2.2.2.2.2.2.2.2.2, S4.2.2.2.2.2.2.2.2.2, Mn 13 (by decide), S2.2.2.2.2.2.2.2.2.2]; exact h10
    · rw [q3 5 (by decide)]; exact h35
    · rw [q3 6 (by decide)]; exact h36
    · rw [q3 7 (by decide)]; exact h37
    · rw [q3 8 (by decide)]; exact h38
    · rw [q3 10 (by decide)]; exact h310
    · intro k x hx
      rw [g7.2.2.2.1, g4.2.2.2.1, Mn 14 (by decide), g2.2.2.2.1, g7.1, g4.1, Mn 4 (by decide), g2.1, g7.2.1, g4.2.1, Mn 5 (by decide), g2.2.1, g7.2.2.1, g4.2.2.1, Mn 6 (by decide), g2.2.2.1]
      exact hn' k x hx
    · intro j hj
      rw [g7.2.2.2.2.1, g4.2.2.2.2.1, M15]
      by_cases hjk : j = k
      · rw [if_pos hjk, if_pos (by rw [hjk]; exact List.mem_cons_self)]
      · rw [if_neg hjk, g2.2.2.2.2.1, hh j hj]
        by_cases hm : j ∈ Hn
        · rw [if_pos hm, if_pos (List.mem_cons_of_mem _ hm)]
        · rw [if_neg hm, if_neg (fun q => by rcases List.mem_cons.mp q with q | q; exact hjk q; exact hm q)]
    · rw [g7.2.2.2.2.2.1, g4.2.2.2.2.2.1, Mn 10 (by decide), g2.2.2.2.2.2.1]; exact hl2
    · exact cod_c (I := I) (by rw [g7.2.2.2.2.2.2.1, g4.2.2.2.2.2.2.1, Mn 11 (by decide), g2.2.2.2.2.2.2.1]) (by rw [g7.2.2.2.2.2.2.2.1, g4.2.2.2.2.2.2.2.1, Mn 12 (by decide), g2.2.2.2.2.2.2.2.1]) hc2
    · refine ⟨si7, l1.2.2.2.2.1, hok, ?_, hrb, hib, hsp, hfi, fun j hj => ?_⟩
      · simp only [List.length_append, List.length_cons, List.length_nil]; omega
      · rcases List.mem_cons.mp hj with q | q
        · rw [q]; omega
        · exact hHn j q
    · show i < rj + 1
      omega
theorem cS_refH {A' : Mm} {q i co : Nat} {W : List Nat} {C : Cd} {I : Mm} {T : TT} (hq : q = 7 ∨ q = 10) (hT : tEnd T n) (hM : tMem A' T n) (h : cS A' q i W C co I) (hi : i < n) (hW : W.length ≤ 125) (hC : C.length ≤ 4000) : pRd_refuse I J ∧ cH A' (sp_no T i).1 (sp_no T i).2.1 (fRd_refuse I J) := by
  have x := cS_refuse (J := J) hq hT hM h hi hW hC
  have fr' := fr_r hq x.2.1
  refine ⟨x.1, ?_⟩
  rcases x.2.2.2.2.2 with ⟨h9, h0, he9, h10, kk⟩ | ⟨he, hw, h9, kk, h2, h5⟩
  · exact ⟨h9, h0, he9, h10, kk, fr'⟩
  · exfalso
    unfold fRd_refuse fRd_refuse_15 fRd_halt at h9
    have g9 := h.2.2.2.2.2.1
    by_cases k47 : I 13 3 = (47 : Int32)
    · rw [if_pos k47, if_pos g9, pm_u_j _ _ _ (by decide), pm_u_j _ _ _ (by decide), pm_u_s] at h9
      exact absurd h9 (by decide)
    · rw [if_neg k47, if_pos g9, pm_u_j _ _ _ (by decide), pm_u_j _ _ _ (by decide), pm_u_s] at h9
      exact absurd h9 (by decide)
def TE (A : Mm) (B : TB) (n : Nat) (r : LR) (I : Mm) : Prop := (r.1 = 0 → cL A r.2.2 I ∧ lOk B n r.2.2 ∧ B.1 r.2.2.1 = 45) ∧ (r.1 ≠ 0 → cH A r.1 r.2.1 I)
theorem cH_stop {e w : Nat} {I : Mm} {c : Value} (h : cH A e w I) (m : Nat) (hm : 0 < m) (y : Int32) : pRd_readTape_26 m y I J c ∧ fRd_readTape_26 m y I J c = (I, c) := by
  obtain ⟨m, rfl⟩ : ∃ m', m = m' + 1 := ⟨m - 1, by omega⟩
  have c9 : ¬ I 13 9 = 0 := by rw [h.1]; exact e9 h.2.1 h.2.2.1
  rw [pRd_readTape_26.eq_2, fRd_readTape_26.eq_2]
  by_cases c4 : (4000 : Int32) < y
  · rw [if_pos c4]; exact ⟨⟨fun _ => trivial, fun q => absurd c4 q⟩, rfl⟩
  · rw [if_neg c4, if_neg c9]; exact ⟨⟨fun q => absurd q c4, fun _ => ⟨fun q => absurd q c9, fun _ => trivial⟩⟩, rfl⟩
theorem cl_lines (hT : bE B n) (hM : bMem A B n) : ∀ (m : Nat) (s : LSt) (I : Mm) (c : Value) (n' y : Nat), cL A s I → lOk B n s → 4001 ≤ m + s.1 → n' + y = 4002 → y ≤ s.1 → pRd_readTape_26 n' (nI y) I J c ∧ TE A B n (sp_lines B m s) (fRd_readTape_26 n' (nI y) I J c).1 := by
  intro m
  induction m with
  | zero =>
    intro s I c n' y _ hs h _ _
    have hi : s.1 < n := by obtain ⟨i, co, Nm, CL, CF, Hn, rb, ib, sp, fi⟩ := s; exact hs.1
    have := hT.2.1
    omega
  | succ m ih =>
    intro s I c n' y h hs hm hny hy
    have hn := hT.2.1
    have hi : s.1 < n := by obtain ⟨i, co, Nm, CL, CF, Hn, rb, ib, sp, fi⟩ := s; exact hs.1
    obtain ⟨n', rfl⟩ : ∃ n9, n' = n9 + 1 := ⟨n' - 1, by omega⟩
    have k48 := hT.2.2.1 _ hi
    have h9 : I 13 9 = 0 := by obtain ⟨i, co, Nm, CL, CF, Hn, rb, ib, sp, fi⟩ := s; exact h.2.2.2.2.1
    have h3 : I 13 3 = nI (B.1 s.1) := by obtain ⟨i, co, Nm, CL, CF, Hn, rb, ib, sp, fi⟩ := s; exact h.2.2.1.trans (hM.2.1 i hi)
    have c4 : ¬ (4000 : Int32) < nI y := nI_nlt (a := 4000) (b := y) (by omega) (by decide)
    have nk : ∀ t : Nat, t < 48 → ¬ B.1 s.1 = t → ¬ I 13 3 = nI t := fun t ht hne q => hne ((nI_eq (by omega) (by omega)).mp (h3.symm.trans q))
    have yk : ∀ t : Nat, B.1 s.1 = t → I 13 3 = nI t := fun t ht => by rw [h3, ht]
    rw [pRd_readTape_26.eq_2, fRd_readTape_26.eq_2]
    unfold sp_lines
    by_cases k45 : B.1 s.1 = 45
    · rw [if_pos k45, if_neg c4, if_pos h9, if_pos (show I 13 3 = (45 : Int32) from yk 45 k45)]
      exact ⟨⟨fun q => absurd q c4, fun _ => ⟨fun _ => ⟨fun _ => trivial, fun q => absurd (yk 45 k45) q⟩, fun q => absurd h9 q⟩⟩, fun _ => ⟨h, hs, k45⟩, fun q => absurd rfl q⟩
    rw [if_neg k45]
    -- what a line gives
    have key : ∀ (r : LR) (I' : Mm) (c' : Value), sp_line B s = r → LE A B n s.1 r I' → pRd_readTape_26 n' (nI y + Int32.ofInt 1) I' J c' ∧ TE A B n (if r.1 = 0 then sp_lines B m r.2.2 else r) (fRd_readTape_26 n' (nI y + Int32.ofInt 1) I' J c').1 := by
      intro r I' c' _ hL
      rw [nI_i1]
      by_cases e : r.1 = 0
      · rw [if_pos e]
        obtain ⟨g1, g2, g3⟩ := hL.1 e
        exact ih r.2.2 I' c' n' (y + 1) g1 g2 (by omega) (by omega) (by omega)
      · rw [if_neg e]
        have hc := hL.2 e
        have st := cH_stop (J := J) (c := c') hc n' (by omega) (nI (y + 1))
        rw [st.2]
        exact ⟨st.1, fun q => absurd q e, fun _ => hc⟩
    rw [if_neg c4, if_pos h9, if_neg (show ¬ I 13 3 = (45 : Int32) from nk 45 (by decide) k45)]
    refine (fun (z : _ ∧ _) => ⟨⟨fun q => absurd q c4, fun _ => ⟨fun _ => ⟨fun q => absurd q (nk 45 (by decide) k45), fun _ => z.1⟩, fun q => absurd h9 q⟩⟩, z.2⟩) ?_
    by_cases k29 : B.1 s.1 = 29
    · have x := cl_reg (J := J) hT hM hs h k29
      have e : sp_line B s = sp_reg B s := by unfold sp_line; rw [if_pos k29]
      have z := key _ _ c e x.2
      rw [if_pos (show I 13 3 = (29 : Int32) from yk 29 k29), e]
      exact ⟨⟨fun _ => ⟨x.1, z.1⟩, fun q => absurd (yk 29 k29) q⟩, z.2⟩
    rw [if_neg (show ¬ I 13 3 = (29 : Int32) from nk 29 (by decide) k29)]
    refine (fun (z : _ ∧ _) => ⟨⟨fun q => absurd q (nk 29 (by decide) k29), fun _ => z.1⟩, z.2⟩) ?_
    by_cases k30 : B.1 s.1 = 30
    · have x := cl_input (J := J) hT hM hs h k30
      have e : sp_line B s = sp_input B s := by unfold sp_line; rw [if_neg k29, if_pos k30]
      have z := key _ _ c e x.2
      rw [if_pos (show I 13 3 = (30 : Int32) from yk 30 k30), e]
      exact ⟨⟨fun _ => ⟨x.1, z.1⟩, fun q => absurd (yk 30 k30) q⟩, z.2⟩
    rw [if_neg (show ¬ I 13 3 = (30 : Int32) from nk 30 (by decide) k30)]
    refine (fun (z : _ ∧ _) => ⟨⟨fun q => absurd q (nk 30 (by decide) k30), fun _ => z.1⟩, z.2⟩) ?_
    by_cases k31 : B.1 s.1 = 31
    · have x := cl_wire (J := J) c hT hM hs h k31
      have e : sp_line B s = sp_wire B s := by unfold sp_line; rw [if_neg k29, if_neg k30, if_pos k31]
      have z := key _ _ (fRd_readWire I J c).2 e x.2
      rw [if_pos (show I 13 3 = (31 : Int32) from yk 31 k31), e]
      exact ⟨⟨fun _ => ⟨x.1, z.1⟩, fun q => absurd (yk 31 k31) q⟩, z.2⟩
    rw [if_neg (show ¬ I 13 3 = (31 : Int32) from nk 31 (by decide) k31)]
    refine (fun (z : _ ∧ _) => ⟨⟨fun q => absurd q (nk 31 (by decide) k31), fun _ => z.1⟩, z.2⟩) ?_
    by_cases k32 : B.1 s.1 = 32
    · have x := cl_next (J := J) c hT hM hs h k32
      have e : sp_line B s = sp_next B s := by unfold sp_line; rw [if_neg k29, if_neg k30, if_neg k31, if_pos k32]
      have z := key _ _ (fRd_readNext I J c).2 e x.2
      rw [if_pos (show I 13 3 = (32 : Int32) from yk 32 k32), e]
      exact ⟨⟨fun _ => ⟨x.1, z.1⟩, fun q => absurd (yk 32 k32) q⟩, z.2⟩
    rw [if_neg (show ¬ I 13 3 = (32 : Int32) from nk 32 (by decide) k32)]
    refine (fun (z : _ ∧ _) => ⟨⟨fun q => absurd q (nk 32 (by decide) k32), fun _ => z.1⟩, z.2⟩) ?_
    by_cases k33 : B.1 s.1 = 33
    · have x := cl_spec (J := J) c hT hM hs h k33
      have e : sp_line B s = sp_spec B s := by unfold sp_line; rw [if_neg k29, if_neg k30, if_neg k31, if_neg k32, if_pos k33]
      have z := key _ _ (fRd_readSpec I J c).2 e x.2
      rw [if_pos (show I 13 3 = (33 : Int32) from yk 33 k33), e]
      exact ⟨⟨fun _ => ⟨x.1, z.1⟩, fun q => absurd (yk 33 k33) q⟩, z.2⟩
    rw [if_neg (show ¬ I 13 3 = (33 : Int32) from nk 33 (by decide) k33)]
    refine (fun (z : _ ∧ _) => ⟨⟨fun q => absurd q (nk 33 (by decide) k33), fun _ => z.1⟩, z.2⟩) ?_
    have e : sp_line B s = l_no B s.1 := by unfold sp_line; rw [if_neg k29, if_neg k30, if_neg k31, if_neg k32, if_neg k33]
    obtain ⟨i, co, Nm, CL, CF, Hn, rb, ib, sp, fi⟩ := s
    obtain ⟨hi', hco, hok, hcl, hrb, hib, hsp, hfi, hHn⟩ := hs
    have f := h.1
    have S := (cL_S h).1
    have tM := bMem_T hM (f 17 (by decide)) (f 18 (by decide)) (f 21 (by decide)) Nm
    have k45' : ¬ B.1 i = 45 := k45
    have rf := cS_refH (J := J) (Or.inl rfl) (bE_T hT Nm) tM S hi (by simp) (by omega)
    have ln := l_no1 B Nm i
    have z := key _ _ c e (LE_no Nm (cH_b rf.2 f))
    rw [e]
    exact ⟨⟨rf.1, z.1⟩, z.2⟩
end
