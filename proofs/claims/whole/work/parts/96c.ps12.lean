/-! PARSE 12: input, wire, next, spec -/
section
variable {A : Mm} {J : Ml} {B : TB} {n : Nat}
set_option maxHeartbeats 4000000 in
theorem cl_input {s : LSt} {I : Mm} (hT : bE B n) (hM : bMem A B n) (hs : lOk B n s) (h : cL A s I) (hk : B.1 s.1 = 30) : pRd_readInput I J ∧ LE A B n s.1 (sp_input B s) (fRd_readInput I J) := by
  obtain ⟨i, co, Nm, CL, CF, Hn, rb, ib, sp, fi⟩ := s
  obtain ⟨hi, hco, hok, hcl, hrb, hib, hsp, hfi, hHn⟩ := hs
  have hk : B.1 i = 30 := hk
  have hn := hT.2.1
  have h' := h
  obtain ⟨f, h2, h3, h7, h9, h10, h35, h36, h37, h38, h39, h310, hn', hh, hl, hc, hl2, hc2⟩ := h'
  have S := (cL_S h).1
  have hF := cL_F hM hok h rfl rfl rfl rfl (fun _ _ => rfl) f
  unfold pRd_readInput fRd_readInput sp_input
  dsimp only
  refine sqr ?_
  refine cl_new (J := J) (q := 7) (I := I) (I0 := I) (Or.inl rfl) hT hM hok hF h35 f S hi (by omega) (by omega) (fun r I' => pRd_readInput_4 I' J ∧ LE A B n i r (fRd_readInput_4 I' J)) (fun r e w he h1 h2 I' hb => ?_) (fun k43 h60 si2 M MS Ma Mj M3 M14 Mt => ?_) (fun _ _ => rfl)
  · have t := tInp4 (J := J) hb
    exact ⟨t.1, LE_c h1 h2 (cH_b t.2 f)⟩
  have Mr : ∀ a, (a < 3 ∨ 16 < a) → M a = A a := fun a ha => (Ma a (by omega) (by omega)).trans (f a ha)
  have tM := bMem_T hM (Mr 17 (by decide)) (Mr 18 (by decide)) (Mr 21 (by decide)) Nm
  have bad : ∀ (r : LR) {e w : Nat} {I' : Mm}, r.1 = e → r.2.1 = w → cH M e w I' → LE A B n i r I' := fun r e w I' h1 h2 hh => LE_c h1 h2 (cH_b hh Mr)
  unfold pRd_readInput_4 fRd_readInput_4
  refine sqr (cl_ex (J := J) (s := 1) Nm (Or.inl rfl) hT tM MS si2 (by decide) (by omega) (fun r z I' => pRd_readInput_9 z I' J ∧ LE A B n i r (fRd_readInput_9 z I' J)) (fun r e w he h1 h2 I' hb _ => ?_) (fun si3 I1 S1 => ?_))
  · have t := tInp9 (J := J) hb 0
    exact ⟨t.1, bad _ h1 h2 t.2⟩
  have g1 := fr_k7 S1.1
  have e38 : I1 3 8 = nI ib := by rw [g1.2.2.2.2.2.2.2.2 8 (by decide), M3]; exact h38
  have e8 : (3 : Int32) - nI ib = nI (3 - ib) := pk_sub (a := 3) hib
  unfold pRd_readInput_9 fRd_readInput_9
  rw [e38, e8]
  refine sqr (cl_num (J := J) (lo := 1) (hi' := 3 - ib) Nm (Or.inl rfl) hT tM S1 si3 (by omega) (by omega) (by omega) (fun r z I' => pRd_readInput_24 z I' J ∧ LE A B n i r (fRd_readInput_24 z I' J)) (fun r e w he h1 h2 I' hb => ?_) (fun b1 b2 si4 I2 S2 => ?_))
  · have t := tInp24 (J := J) hb 0
    exact ⟨t.1, bad _ h1 h2 t.2⟩
  generalize B.2.1 (i + 1 + 1 + 1) = b at b1 b2
  unfold pRd_readInput_24 fRd_readInput_24
  refine sqr (cl_ex (J := J) (s := 0) Nm (Or.inl rfl) hT tM S2 si4 (by decide) (by omega) (fun r z I' => pRd_readInput_30 (nI b) z I' J ∧ LE A B n i r (fRd_readInput_30 (nI b) z I' J)) (fun r e w he h1 h2 I' hb hcH => ?_) (fun si7 I5 S5 => ?_))
  · unfold pRd_readInput_30 fRd_readInput_30
    exact itp rfl ⟨trivial, bad _ h1 h2 hcH⟩
  unfold pRd_readInput_30 fRd_readInput_30
  refine itn (by decide) ?_
  have g5 := fr_k7 S5.1
  have gr := fr_r (Or.inl rfl) S5.1
  unfold pCi_addInput fCi_addInput
  have f38 : I5 3 8 = nI ib := by rw [g5.2.2.2.2.2.2.2.2 8 (by decide), M3]; exact h38
  rw [f38, nI_add]
  have fin := cl_fin (J := J) (kd := 30) (b := b) (pt := ib + b) (j := i + 1 + 1 + 1 + 1 + 1) (co' := co) (rb' := rb) (ib' := ib + b) (sp' := sp) (fi' := fi) (CL' := CL) (CF' := CF) (I5 := pm_u I5 3 8 (nI (ib + b))) h h60 ⟨?_, ?_, ?_, ?_, fun k hk => ?_, ?_⟩ (fun a ha => ?_) ?_ ?_ ?_ ?_ ?_ ?_ ?_ ?_ ?_ ?_ ?_ ?_ ?_ ?_ ?_
  · refine sqt (sqt ⟨fin.1, fun _ => ⟨fin.2, ?_, ?_⟩, fun q => absurd rfl q⟩)
    · refine ⟨si7, hco, nmOk_a hok h60 (by omega) k43 (show (30 : Nat) < 50 by decide), by omega, hrb, by omega, hsp, hfi, fun k hk => ?_⟩
      have := hHn k hk; rw [List.length_append]; omega
    · show i < i + 1 + 1 + 1 + 1 + 1
      omega
  · rw [pm_u_n _ _ _ (by decide), g5.1]; exact Ma 4 (by decide) (by decide)
  · rw [pm_u_n _ _ _ (by decide), g5.2.1]; exact Ma 5 (by decide) (by decide)
  · rw [pm_u_n _ _ _ (by decide), g5.2.2.1]; exact Ma 6 (by decide) (by decide)
  · rw [pm_u_n _ _ _ (by decide), g5.2.2.2.2.1]; exact Ma 15 (by decide) (by decide)
  · rw [pm_u_n _ _ _ (by decide), g5.2.2.2.1]; exact M14 k hk
  · rw [pm_u_n _ _ _ (by decide), g5.2.2.2.1]; exact Mt
  · rw [pm_u_n _ _ _ (by omega), gr a ha]; exact Mr a ha
  · rw [pm_u_n _ _ _ (by decide)]; exact S5.2.2.1
  · rw [pm_u_n _ _ _ (by decide), S5.2.2.2.1, Mr 18 (by decide)]
  · rw [pm_u_n _ _ _ (by decide), S5.2.2.2.2.1]; exact nI_0
  · rw [pm_u_n _ _ _ (by decide)]; exact S5.2.2.2.2.2.1
  · rw [pm_u_n _ _ _ (by decide), S5.2.2.2.2.2.2.2.2.2, Mj 10 (by decide) (by decide)]; exact h10
  · rw [pm_u_j _ _ _ (by decide), g5.2.2.2.2.2.2.2.2 5 (by decide), M3]; exact h35
  · rw [pm_u_j _ _ _ (by decide), g5.2.2.2.2.2.2.2.2 6 (by decide), M3]; exact h36
  · rw [pm_u_j _ _ _ (by decide), g5.2.2.2.2.2.2.2.2 7 (by decide), M3]; exact h37
  · rw [pm_u_s]
  · rw [pm_u_j _ _ _ (by decide)]; exact S5.2.1
  · rw [pm_u_j _ _ _ (by decide), g5.2.2.2.2.2.2.2.2 10 (by decide), M3]; exact h310
  · rw [pm_u_n _ _ _ (by decide)]; exact S5.2.2.2.2.2.2.2.1
  · exact cod_c (by rw [pm_u_n _ _ _ (by decide)]) (by rw [pm_u_n _ _ _ (by decide)]) S5.2.2.2.2.2.2.2.2.1
  · rw [pm_u_n _ _ _ (by decide), g5.2.2.2.2.2.1, Ma 10 (by decide) (by decide)]; exact hl2
  · exact cod_c (I := I) (by rw [pm_u_n _ _ _ (by decide), g5.2.2.2.2.2.2.1, Ma 11 (by decide) (by decide)]) (by rw [pm_u_n _ _ _ (by decide), g5.2.2.2.2.2.2.2.1, Ma 12 (by decide) (by decide)]) hc2
theorem l_x0 {r : SR} {k : Nat → Nat → Cd → LR} (h : r.1 = 0) : l_x r k = k r.2.2.1 r.2.2.2.1 r.2.2.2.2 := if_pos h
theorem l_x1 {r : SR} {k : Nat → Nat → Cd → LR} (h : ¬ r.1 = 0) : l_x r k = lf r.1 r.2.1 := if_neg h
set_option maxHeartbeats 4000000 in
theorem cl_wire {s : LSt} {I : Mm} (c : Value) (hT : bE B n) (hM : bMem A B n) (hs : lOk B n s) (h : cL A s I) (hk : B.1 s.1 = 31) : pRd_readWire I J c ∧ LE A B n s.1 (sp_wire B s) (fRd_readWire I J c).1 := by
  obtain ⟨i, co, Nm, CL, CF, Hn, rb, ib, sp, fi⟩ := s
  obtain ⟨hi, hco, hok, hcl, hrb, hib, hsp, hfi, hHn⟩ := hs
  have hk : B.1 i = 31 := hk
  have hn := hT.2.1
  have h' := h
  obtain ⟨f, h2, h3, h7, h9, h10, h35, h36, h37, h38, h39, h310, hn', hh, hl, hc, hl2, hc2⟩ := h'
  have S := (cL_S h).1
  have hF := cL_F hM hok h rfl rfl rfl rfl (fun _ _ => rfl) f
  unfold pRd_readWire fRd_readWire sp_wire
  dsimp only
  refine sqr ?_
  refine cl_new (J := J) (q := 7) (I := I) (I0 := I) (Or.inl rfl) hT hM hok hF h35 f S hi (by omega) (by omega) (fun r I' => pRd_readWire_4 I' J c ∧ LE A B n i r (fRd_readWire_4 I' J c).1) (fun r e w he h1 h2 I' hb => ?_) (fun k43 h60 si2 M MS Ma Mj M3 M14 Mt => ?_) (fun _ _ => rfl)
  · have t := tWir4 (J := J) hb c
    exact ⟨t.1, LE_c h1 h2 (cH_b t.2 f)⟩
  have Mr : ∀ a, (a < 3 ∨ 16 < a) → M a = A a := fun a ha => (Ma a (by omega) (by omega)).trans (f a ha)
  have tM := bMem_T hM (Mr 17 (by decide)) (Mr 18 (by decide)) (Mr 21 (by decide)) Nm
  unfold pRd_readWire_4 fRd_readWire_4
  refine sqr (cl_ex (J := J) (s := 2) Nm (Or.inl rfl) hT tM MS si2 (by decide) (by omega) (fun r z I' => pRd_readWire_9 z I' J c ∧ LE A B n i r (fRd_readWire_9 z I' J c).1) (fun r e w he h1 h2 I' hb _ => ?_) (fun si3 I1 S1 => ?_))
  · have t := tWir9 (J := J) hb 0 c
    exact ⟨t.1, LE_c h1 h2 (cH_b t.2 Mr)⟩
  have g1 := fr_k7 S1.1
  have r1 : ∀ a, (a < 3 ∨ 16 < a) → I1 a = A a := fun a ha => (fr_r (Or.inl rfl) S1.1 a ha).trans (Mr a ha)
  have tM1 := bMem_T hM (r1 17 (by decide)) (r1 18 (by decide)) (r1 21 (by decide)) Nm
  have hF1 : fMem I1 (tT B Nm) n := cL_F hM hok h (by rw [g1.2.2.2.2.2.2.2.2 5 (by decide), M3]) (g1.1.trans (Ma 4 (by decide) (by decide))) (g1.2.1.trans (Ma 5 (by decide) (by decide))) (g1.2.2.1.trans (Ma 6 (by decide) (by decide))) (fun k hk => by rw [g1.2.2.2.1]; exact M14 k hk) r1
  have S1' := cS_rb (Or.inl rfl) S1
  have x := (cE_L (J := J) (bE_T hT Nm) tM1 hF1 600).1 0 (i + 1 + 1 + 1) co 200 I1 [] CL (by decide) (by decide) si3 hco (by simp) (by simp only [List.length_nil]; omega) (sp_fuE (bE_T hT Nm) 600 0 0 0 _ _ (by decide) (by decide) (by decide) (by decide) (by decide) si3 hco) S1'
  have ln := sp_len (bE_T hT Nm) 600 0 0 0 (i + 1 + 1 + 1) co si3 hco
  rw [nI_0] at x
  unfold pRd_readWire_9 fRd_readWire_9 pge_L_Rd_readExpression fge_L_Rd_readExpression
  refine sq x.1 ?_
  have x2 := x.2
  clear x
  generalize ge_L_F 200 0 0 0 I1 J = I2 at x2
  generalize sp_E (tT B Nm) 600 0 0 0 (i + 1 + 1 + 1) co = r at x2 ln ⊢
  by_cases e1 : r.1 = 0
  rotate_left
  · rw [l_x1 e1]
    have t := tWir26 (J := J) (x2.2 e1) (Value.ref 7)
    exact ⟨t.1, LE_f (cH_b t.2 r1)⟩
  rw [l_x0 e1]
  have l1 := ln e1
  have s2 := x2.1 e1
  clear x2 ln
  obtain ⟨re, rw', rj, rc, rC⟩ := r
  dsimp only at s2 l1 ⊢
  have hl1 : (CL ++ rC).length = CL.length + rC.length := List.length_append
  unfold pRd_readWire_26 fRd_readWire_26
  refine sqr (cl_ex (J := J) (s := 0) Nm (Or.inl rfl) hT tM1 s2 l1.2.2.1 (by decide) (by omega) (fun r z I' => pRd_readWire_31 z I' J (Value.ref 7) ∧ LE A B n i r (fRd_readWire_31 z I' J (Value.ref 7)).1) (fun r e w he h1 h2 I' hb hcH => ?_) (fun si7 I5 S5 => ?_))
  · unfold pRd_readWire_31 fRd_readWire_31
    rw [if_pos rfl]
    exact ⟨⟨fun _ => trivial, fun q => absurd rfl q⟩, LE_c h1 h2 (cH_b hcH r1)⟩
  unfold pRd_readWire_31 fRd_readWire_31 pRd_readWire_50 fRd_readWire_50
  rw [if_neg (by decide)]
  have g5 := fr_k7 S5.1
  have f35 : I5 3 5 = nI Nm.length := by rw [g5.2.2.2.2.2.2.2.2 5 (by decide), g1.2.2.2.2.2.2.2.2 5 (by decide), M3]; exact h35
  rw [f35]
  have ad := cS_add_L (J := J) S5 (by omega) 31 Nm.length
  have a1 := ad.1
  have S6 := ad.2
  clear ad
  have pa : pCo_add_L (31 : Int32) (nI Nm.length) I5 J := a1
  have S6 : cS I1 7 (rj + 1) [] (CL ++ rC ++ [(31, Nm.length)]) rc (fCo_add_L (31 : Int32) (nI Nm.length) I5 J) := S6
  generalize fCo_add_L (31 : Int32) (nI Nm.length) I5 J = I6 at S6
  have g6 := fr_k7 S6.1
  have gr := fr_r (Or.inl rfl) S6.1
  rw [List.append_assoc] at S6
  unfold pCi_addWire fCi_addWire
  rw [← nI_0]
  have fin := cl_fin (J := J) (kd := 31) (b := 0) (pt := 0) (j := rj + 1) (co' := rc) (rb' := rb) (ib' := ib) (sp' := sp) (fi' := fi) (CL' := CL ++ (rC ++ [(31, Nm.length)])) (CF' := CF) (I5 := I6) h h60 ⟨?_, ?_, ?_, ?_, fun k hk => ?_, ?_⟩ (fun a ha => ?_) ?_ ?_ ?_ ?_ ?_ ?_ ?_ ?_ ?_ ?_ ?_ ?_ ?_ ?_ ?_
  · refine ⟨⟨fun q => absurd q (by decide), fun _ => ⟨pa, ⟨fin.1, trivial⟩, trivial⟩⟩, fun _ => ⟨fin.2, ?_, ?_⟩, fun q => absurd rfl q⟩
    · refine ⟨si7, l1.2.2.2.2.1, nmOk_a hok h60 (by omega) k43 (show (31 : Nat) < 50 by decide), ?_, hrb, hib, hsp, hfi, fun k hk => ?_⟩
      · simp only [List.length_append, List.length_cons, List.length_nil]; omega
      · have := hHn k hk; rw [List.length_append]; omega
    · show i < rj + 1
      omega
  · rw [g6.1, g1.1]; exact Ma 4 (by decide) (by decide)
  · rw [g6.2.1, g1.2.1]; exact Ma 5 (by decide) (by decide)
  · rw [g6.2.2.1, g1.2.2.1]; exact Ma 6 (by decide) (by decide)
  · rw [g6.2.2.2.2.1, g1.2.2.2.2.1]; exact Ma 15 (by decide) (by decide)
  · rw [g6.2.2.2.1, g1.2.2.2.1]; exact M14 k hk
  · rw [g6.2.2.2.1, g1.2.2.2.1]; exact Mt
  · rw [gr a ha]; exact r1 a ha
  · exact S6.2.2.1
  · rw [S6.2.2.2.1, r1 18 (by decide)]
  · rw [S6.2.2.2.2.1]; exact nI_0
  · exact S6.2.2.2.2.2.1
  · rw [S6.2.2.2.2.2.2.2.2.2, S1.2.2.2.2.2.2.2.2.2, Mj 10 (by decide) (by decide)]; exact h10
  · rw [g6.2.2.2.2.2.2.2.2 5 (by decide), g1.2.2.2.2.2.2.2.2 5 (by decide), M3]; exact h35
  · rw [g6.2.2.2.2.2.2.2.2 6 (by decide), g1.2.2.2.2.2.2.2.2 6 (by decide), M3]; exact h36
  · rw [g6.2.2.2.2.2.2.2.2 7 (by decide), g1.2.2.2.2.2.2.2.2 7 (by decide), M3]; exact h37
  · rw [g6.2.2.2.2.2.2.2.2 8 (by decide), g1.2.2.2.2.2.2.2.2 8 (by decide), M3]; exact h38
  · exact S6.2.1
  · rw [g6.2.2.2.2.2.2.2.2 10 (by decide), g1.2.2.2.2.2.2.2.2 10 (by decide), M3]; exact h310
  · exact S6.2.2.2.2.2.2.2.1
  · exact S6.2.2.2.2.2.2.2.2.1
  · rw [g6.2.2.2.2.2.1, g1.2.2.2.2.2.1, Ma 10 (by decide) (by decide)]; exact hl2
  · exact cod_c (I := I) (by rw [g6.2.2.2.2.2.2.1, g1.2.2.2.2.2.2.1, Ma 11 (by decide) (by decide)]) (by rw [g6.2.2.2.2.2.2.2.1, g1.2.2.2.2.2.2.2.1, Ma 12 (by decide) (by decide)]) hc2
set_option maxHeartbeats 4000000 in
theorem cl_spec {s : LSt} {I : Mm} (c : Value) (hT : bE B n) (hM : bMem A B n) (hs : lOk B n s) (h : cL A s I) (hk : B.1 s.1 = 33) : pRd_readSpec I J c ∧ LE A B n s.1 (sp_spec B s) (fRd_readSpec I J c).1 := by
  obtain ⟨i, co, Nm, CL, CF, Hn, rb, ib, sp, fi⟩ := s
  obtain ⟨hi, hco, hok, hcl, hrb, hib, hsp, hfi, hHn⟩ := hs
  have hk : B.1 i = 33 := hk
  have hn := hT.2.1
  have h' := h
  obtain ⟨f, h2, h3, h7, h9, h10, h35, h36, h37, h38, h39, h310, hn', hh, hl, hc, hl2, hc2⟩ := h'
  have S := (cL_S h).2
  have hF := cL_F hM hok h rfl rfl rfl rfl (fun _ _ => rfl) f
  unfold pRd_readSpec fRd_readSpec sp_spec
  dsimp only
  rw [h36]
  by_cases h30 : sp < 30
  rotate_left
  · have c3 : ¬ nI sp < (30 : Int32) := nI_nlt (a := sp) (b := 30) (by omega) (by omega)
    have hlt := cS_halt (J := J) (Or.inr rfl) S (by omega) (by simp) (by omega) (e := 4) (by decide) (by decide)
    have t := tSpe17 (J := J) hlt.2 c
    rw [if_neg c3, if_neg h30]
    exact ⟨⟨fun q => absurd q c3, fun _ => ⟨hlt.1, t.1⟩⟩, LE_f (cH_b t.2 f)⟩
  have c3 : nI sp < (30 : Int32) := nI_lt (a := sp) (b := 30) h30 (by decide)
  rw [if_pos c3, if_pos h30]
  refine (fun (z : _ ∧ _) => ⟨⟨fun _ => z.1, fun q => absurd c3 q⟩, z.2⟩) ?_
  unfold pRd_readSpec_17 fRd_readSpec_17
  refine sqr ?_
  refine cl_new (J := J) (q := 10) (I := I) (I0 := I) (Or.inr rfl) hT hM hok hF h35 f S hi (by omega) (by omega) (fun r I' => pRd_readSpec_21 I' J c ∧ LE A B n i r (fRd_readSpec_21 I' J c).1) (fun r e w he h1 h2 I' hb => ?_) (fun k43 h60 si2 M MS Ma Mj M3 M14 Mt => ?_) (fun _ _ => rfl)
  · have t := tSpe21 (J := J) hb c
    exact ⟨t.1, LE_c h1 h2 (cH_b t.2 f)⟩
  have Mr : ∀ a, (a < 3 ∨ 16 < a) → M a = A a := fun a ha => (Ma a (by omega) (by omega)).trans (f a ha)
  have tM := bMem_T hM (Mr 17 (by decide)) (Mr 18 (by decide)) (Mr 21 (by decide)) Nm
  unfold pRd_readSpec_21 fRd_readSpec_21
  refine sqr (cl_ex (J := J) (s := 2) Nm (Or.inr rfl) hT tM MS si2 (by decide) (by omega) (fun r z I' => pRd_readSpec_26 z I' J c ∧ LE A B n i r (fRd_readSpec_26 z I' J c).1) (fun r e w he h1 h2 I' hb _ => ?_) (fun si3 I1 S1 => ?_))
  · have t := tSpe26 (J := J) hb 0 c
    exact ⟨t.1, LE_c h1 h2 (cH_b t.2 Mr)⟩
  have g1 := fr_k10 S1.1
  have r1 : ∀ a, (a < 3 ∨ 16 < a) → I1 a = A a := fun a ha => (fr_r (Or.inr rfl) S1.1 a ha).trans (Mr a ha)
  have tM1 := bMem_T hM (r1 17 (by decide)) (r1 18 (by decide)) (r1 21 (by decide)) Nm
  have hF1 : fMem I1 (tT B Nm) n := cL_F hM hok h (by rw [g1.2.2.2.2.2.2.2.2 5 (by decide), M3]) (g1.1.trans (Ma 4 (by decide) (by decide))) (g1.2.1.trans (Ma 5 (by decide) (by decide))) (g1.2.2.1.trans (Ma 6 (by decide) (by decide))) (fun k hk => by rw [g1.2.2.2.1]; exact M14 k hk) r1
  have S1' := cS_rb (Or.inr rfl) S1
  have x := (cF (J := J) (bE_T hT Nm) tM1 hF1 260).1 0 (i + 1 + 1 + 1) co 260 I1 [] CF (by decide) (by decide) si3 hco (by simp) (by simp only [List.length_nil]; omega) (sp_fuF (bE_T hT Nm) 260 0 0 _ _ (by decide) (by decide) (by decide) si3 hco) S1'
  have ln := sp_lenF (bE_T hT Nm) 260 0 0 (i + 1 + 1 + 1) co si3 hco
  rw [nI_0] at x
  unfold pRd_readSpec_26 fRd_readSpec_26 pgf_F_Rd_readFormula fgf_F_Rd_readFormula
  refine sq x.1 ?_
  have x2 := x.2
  clear x
  generalize gf_F_F 260 0 0 0 I1 J = I2 at x2
  generalize sp_F (tT B Nm) 260 0 0 (i + 1 + 1 + 1) co = r at x2 ln ⊢
  by_cases e1 : r.1 = 0
  rotate_left
  · rw [l_x1 e1]
    have t := tSpe43 (J := J) (x2.2 e1) (Value.ref 10)
    exact ⟨t.1, LE_f (cH_b t.2 r1)⟩
  rw [l_x0 e1]
  have l1 := ln e1
  have s2 := x2.1 e1
  clear x2 ln
  obtain ⟨re, rw', rj, rc, rC⟩ := r
  dsimp only at s2 l1 ⊢
  have hl1 : (CF ++ rC).length = CF.length + rC.length := List.length_append
  unfold pRd_readSpec_43 fRd_readSpec_43
  refine sqr (cl_ex (J := J) (s := 0) Nm (Or.inr rfl) hT tM1 s2 l1.2.2.1 (by decide) (by omega) (fun r z I' => pRd_readSpec_48 z I' J (Value.ref 10) ∧ LE A B n i r (fRd_readSpec_48 z I' J (Value.ref 10)).1) (fun r e w he h1 h2 I' hb hcH => ?_) (fun si7 I5 S5 => ?_))
  · unfold pRd_readSpec_48 fRd_readSpec_48
    rw [if_pos rfl]
    exact ⟨⟨fun _ => trivial, fun q => absurd rfl q⟩, LE_c h1 h2 (cH_b hcH r1)⟩
  unfold pRd_readSpec_48 fRd_readSpec_48 pRd_readSpec_67 fRd_readSpec_67
  rw [if_neg (by decide)]
  have g5 := fr_k10 S5.1
  have f36 : I5 3 6 = nI sp := by rw [g5.2.2.2.2.2.2.2.2 6 (by decide), g1.2.2.2.2.2.2.2.2 6 (by decide), M3]; exact h36
  rw [f36]
  have ad := cS_add_F (J := J) S5 (by omega) 33 sp
  have pa : pCo_add_F (33 : Int32) (nI sp) I5 J := ad.1
  have S6 : cS I1 10 (rj + 1) [] (CF ++ rC ++ [(33, sp)]) rc (fCo_add_F (33 : Int32) (nI sp) I5 J) := ad.2
  clear ad
  generalize fCo_add_F (33 : Int32) (nI sp) I5 J = I6 at S6
  have g6 := fr_k10 S6.1
  have gr := fr_r (Or.inr rfl) S6.1
  rw [List.append_assoc] at S6
  have q36 : I6 3 6 = nI sp := by rw [g6.2.2.2.2.2.2.2.2 6 (by decide), g1.2.2.2.2.2.2.2.2 6 (by decide), M3]; exact h36
  unfold pCi_addSpec fCi_addSpec pCi_addSpec_11 fCi_addSpec_11
  rw [q36, ← nI_0]
  have fin := cl_fin (J := J) (kd := 33) (b := 0) (pt := sp) (j := rj + 1) (co' := rc) (rb' := rb) (ib' := ib) (sp' := sp) (fi' := fi) (CL' := CL) (CF' := CF ++ (rC ++ [(33, sp)])) (I5 := I6) h h60 ⟨?_, ?_, ?_, ?_, fun k hk => ?_, ?_⟩ (fun a ha => ?_) ?_ ?_ ?_ ?_ ?_ ?_ ?_ ?_ ?_ ?_ ?_ ?_ ?_ ?_ ?_
  · refine ⟨⟨fun q => absurd q (by decide), fun _ => ⟨pa, ⟨fin.1, trivial⟩, trivial⟩⟩, fun _ => ⟨?_, ?_, ?_⟩, fun q => absurd rfl q⟩
    · have fin2 : cL A (rj + 1, rc, Nm ++ [(i + 1, 33, 0, sp)], CL, CF ++ (rC ++ [(33, sp)]), Hn, rb, ib, sp, fi) (fCi_addName (33 : Int32) (nI 0) (nI sp) I6 J) := fin.2
      show cL A (rj + 1, rc, Nm ++ [(i + 1, 33, 0, sp)], CL, CF ++ (rC ++ [(33, sp)]), Hn, rb, ib, sp + 1, fi) (pm_u (fCi_addName (33 : Int32) (nI 0) (nI sp) I6 J) 3 6 ((fCi_addName (33 : Int32) (nI 0) (nI sp) I6 J) 3 6 + 1))
      generalize fCi_addName (33 : Int32) (nI 0) (nI sp) I6 J = I7 at fin2
      obtain ⟨f, h2, h3, h7, h9, h10, h35, h36, h37, h38, h39, h310, hn', hh, hl, hc, hl2, hc2⟩ := fin2
      have nn : ∀ a, a ≠ 3 → pm_u I7 3 6 (I7 3 6 + 1) a = I7 a := fun a ha => pm_u_n _ _ _ ha
      refine ⟨fun a ha => (nn a (by omega)).trans (f a ha), by rw [nn 13 (by decide)]; exact h2, by rw [nn 13 (by decide)]; exact h3, by rw [nn 13 (by decide)]; exact h7, by rw [nn 13 (by decide)]; exact h9, by rw [nn 13 (by decide)]; exact h10, by rw [pm_u_j _ _ _ (by decide)]; exact h35, by rw [pm_u_s, h36, nI_1], by rw [pm_u_j _ _ _ (by decide)]; exact h37, by rw [pm_u_j _ _ _ (by decide)]; exact h38, by rw [pm_u_j _ _ _ (by decide)]; exact h39, by rw [pm_u_j _ _ _ (by decide)]; exact h310, ?_, ?_, by rw [nn 7 (by decide)]; exact hl, cod_c (nn 8 (by decide)) (nn 9 (by decide)) hc, by rw [nn 10 (by decide)]; exact hl2, cod_c (nn 11 (by decide)) (nn 12 (by decide)) hc2⟩
      · intro k x hx
        rw [nn 14 (by decide), nn 4 (by decide), nn 5 (by decide), nn 6 (by decide)]; exact hn' k x hx
      · intro k hk
        rw [nn 15 (by decide)]; exact hh k hk
    · refine ⟨si7, l1.2.2.2.2.1, nmOk_a hok h60 (by omega) k43 (show (33 : Nat) < 50 by decide), ?_, hrb, hib, by omega, hfi, fun k hk => ?_⟩
      · simp only [List.length_append, List.length_cons, List.length_nil]; omega
      · have := hHn k hk; rw [List.length_append]; omega
    · show i < rj + 1
      omega
  · rw [g6.1, g1.1]; exact Ma 4 (by decide) (by decide)
  · rw [g6.2.1, g1.2.1]; exact Ma 5 (by decide) (by decide)
  · rw [g6.2.2.1, g1.2.2.1]; exact Ma 6 (by decide) (by decide)
  · rw [g6.2.2.2.2.1, g1.2.2.2.2.1]; exact Ma 15 (by decide) (by decide)
  · rw [g6.2.2.2.1, g1.2.2.2.1]; exact M14 k hk
  · rw [g6.2.2.2.1, g1.2.2.2.1]; exact Mt
  · rw [gr a ha]; exact r1 a ha
  · exact S6.2.2.1
  · rw [S6.2.2.2.1, r1 18 (by decide)]
  · rw [S6.2.2.2.2.1]; exact nI_0
  · exact S6.2.2.2.2.2.1
  · rw [S6.2.2.2.2.2.2.2.2.2, S1.2.2.2.2.2.2.2.2.2, Mj 10 (by decide) (by decide)]; exact h10
  · rw [g6.2.2.2.2.2.2.2.2 5 (by decide), g1.2.2.2.2.2.2.2.2 5 (by decide), M3]; exact h35
  · exact q36
  · rw [g6.2.2.2.2.2.2.2.2 7 (by decide), g1.2.2.2.2.2.2.2.2 7 (by decide), M3]; exact h37
  · rw [g6.2.2.2.2.2.2.2.2 8 (by decide), g1.2.2.2.2.2.2.2.2 8 (by decide), M3]; exact h38
  · exact S6.2.1
  · rw [g6.2.2.2.2.2.2.2.2 10 (by decide), g1.2.2.2.2.2.2.2.2 10 (by decide), M3]; exact h310
  · rw [g6.2.2.2.2.2.1, g1.2.2.2.2.2.1, Ma 7 (by decide) (by decide)]; exact hl
  · exact cod_c (I := I) (by rw [g6.2.2.2.2.2.2.1, g1.2.2.2.2.2.2.1, Ma 8 (by decide) (by decide)]) (by rw [g6.2.2.2.2.2.2.2.1, g1.2.2.2.2.2.2.2.1, Ma 9 (by decide) (by decide)]) hc
  · exact S6.2.2.2.2.2.2.2.1
  · exact S6.2.2.2.2.2.2.2.2.1
end
