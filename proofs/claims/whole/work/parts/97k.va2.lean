/-! CLASS'S VALUES 2: the orders -/
section
variable {W : Nat} {I : Mm} {J : Ml} {S : List (Nat → BitVec 8)}
theorem va_push_o (h : vT W I J S) (hS : S.length < 140) {row : Nat} (hr : rwk S.length row) {f : Nat → BitVec 8} (hf : ∀ c, c < 8 * W → lv J row c = f c) : pVa_push (nI row) I J ∧ vT W (fVa_push (nI row) I J) J (f :: S) ∧ vF I J (fVa_push (nI row) I J) J := by
  obtain ⟨h1, h2, h3, h4, h5, h6⟩ := h
  have c : ¬ (140 : Int32) ≤ I 22 3 := by rw [h4]; exact nI_ge (b := 140) hS (by decide)
  unfold pVa_push fVa_push
  rw [if_neg c, h4, nI_clamp (by omega), nI_1]
  refine ⟨⟨fun q => absurd (by rw [h4]; exact q) c, fun _ => ⟨vp_in_nI hS (by decide), trivial⟩⟩, ⟨?_, h2, h3, ?_, by rw [List.length_cons]; omega, ⟨row, ?_, hr, hf⟩, ?_⟩, fun a ha hb => ?_, fun j hj => ?_, fun _ _ => rfl, fun _ _ => rfl⟩
  · rw [pm_u_j _ _ _ (by decide), pm_u_n _ _ _ (by decide)]; exact h1
  · rw [pm_u_s]; rfl
  · rw [pm_u_n _ _ _ (by decide), pm_u_s]
  · exact vS_c S (fun i hi => by rw [pm_u_n _ _ _ (by decide), pm_u_j _ _ _ (by omega)]) h6
  · rw [pm_u_n _ _ _ ha, pm_u_n _ _ _ hb]
  · rw [pm_u_j _ _ _ hj, pm_u_n _ _ _ (by decide)]
theorem vF_mR {row g} {p : Nat} (hr : row = (60 + p) * 256) : vF I J I (mR J row W g) := ⟨fun _ _ _ => rfl, fun _ _ => rfl, fun a ha => mR_n _ _ _ _ ha, fun j hj => mR_o _ _ (by omega)⟩
theorem va_num_o (h : vT W I J S) (hS : S.length < 140) {v : Nat} (hv : v ≤ 255) : pVa_pushNumber 257 (nI v) I J ∧ ∃ I' J', fVa_pushNumber 257 (nI v) I J = (I', J') ∧ vT W I' J' ((fun _ => BitVec.ofNat 8 v) :: S) ∧ vF I J I' J' := by
  obtain ⟨h1, h2, h3, h4, h5, h6⟩ := h
  have c : ¬ (140 : Int32) ≤ I 22 3 := by rw [h4]; exact nI_ge (b := 140) hS (by decide)
  have pp : ∀ J', pVa_push (nI ((60 + S.length) * 256)) I J' := fun J' => ⟨fun q => absurd q c, fun _ => ⟨by rw [h4]; exact vp_in_nI hS (by decide), trivial⟩⟩
  have z := va_num_l h1 h3 (row := (60 + S.length) * 256) (by omega) (nI v) (fLa_all (nI v)) J pp 257 0 (Nat.zero_le _) (by omega)
  rw [mR_0] at z
  have z1 : pVa_pushNumber_26 257 (nI v) (nI ((60 + S.length) * 256)) (fLa_all (nI v)) 0 I J := z.1
  have z2 : fVa_pushNumber_26 257 (nI v) (nI ((60 + S.length) * 256)) (fLa_all (nI v)) 0 I J = _ := z.2
  have hT : vT W I (mR J ((60 + S.length) * 256) W (fun _ => fLa_all (nI v))) S := ⟨h1, h2, h3, h4, h5, vS_m (by omega) h3 rfl S (Nat.le_refl _) (fun _ _ => rfl) h6⟩
  have y := va_push_o hT hS (row := (60 + S.length) * 256) (Or.inl rfl) (f := fun _ => BitVec.ofNat 8 v) (fun c hc => by rw [lv_i hc]; exact ln_all (by omega) (Nat.mod_lt _ (by decide)))
  unfold pVa_pushNumber fVa_pushNumber
  rw [if_neg c, h4, rowP, z2]
  exact ⟨⟨fun q => absurd (by rw [h4]; exact q) c, fun _ => ⟨trivial, trivial, z1⟩⟩, _, _, rfl, y.2.1, vF_t (vF_mR rfl) y.2.2⟩
theorem va_un_o {f : Nat → BitVec 8} (h : vT W I J (f :: S)) {o : Nat} (ho : o = 49 ∨ o = 18 ∨ o = 19) (env : Nat → BitVec 8) : pVa_alter 257 (nI o) I J ∧ ∃ I' J' g, fVa_alter 257 (nI o) I J = (I', J') ∧ vT W I' J' (g :: S) ∧ vF I J I' J' ∧ ∀ c, c < 8 * W → ∀ s, st1 env (o, 0) (f c :: s) = g c :: s := by
  obtain ⟨h1, h2, h3, h4, h5, ⟨a0, g1, g2, g3⟩, h6⟩ := h
  rw [List.length_cons] at h4 h5
  have e1 : I 22 3 - 1 = nI S.length := by rw [h4]; exact nI_pred _
  have c : (1 : Int32) ≤ I 22 3 := by rw [h4]; exact nI_le (a := 1) (by omega) (by omega)
  have ab := rwk_b g2 (by omega)
  have vv : vp_in (nI S.length) 140 := vp_in_nI (by omega) (by decide)
  have z := va_alt_l h1 h3 (a0 := a0) (row := (60 + S.length) * 256) ab (by omega) (by rcases g2 with g2 | ⟨k, g2, g4⟩ <;> omega) (by rw [e1]; exact vv) (nI o) J 257 0 (Nat.zero_le _) (by omega)
  rw [mR_0, e1, nI_clamp (by omega)] at z
  have z1 : pVa_alter_34 257 (nI o) (nI a0) (nI ((60 + S.length) * 256)) 0 I J := z.1
  have z2 : fVa_alter_34 257 (nI o) (nI a0) (nI ((60 + S.length) * 256)) 0 I J = _ := z.2
  unfold pVa_alter fVa_alter
  rw [if_pos c, e1, nI_clamp (by omega), g1, rowP, z2]
  refine ⟨⟨fun _ => ⟨vv, trivial, z1⟩, fun q => absurd c q⟩, _, _, fun c => ln (fLa_alter (nI o) (J 23 (a0 + c / 8))) (c % 8), rfl, ⟨?_, h2, h3, ?_, by rw [List.length_cons]; omega, ⟨(60 + S.length) * 256, ?_, Or.inl rfl, fun c hc => lv_i hc⟩, ?_⟩, ⟨fun a ha hb => ?_, fun j hj => ?_, fun a ha => mR_n _ _ _ _ ha, fun j hj => mR_o _ _ (by omega)⟩, fun c hc s => ?_⟩
  · rw [pm_u_n _ _ _ (by decide)]; exact h1
  · rw [pm_u_n _ _ _ (by decide), h4, List.length_cons]
  · rw [pm_u_s]
  · exact vS_m (by omega) h3 rfl S (Nat.le_refl _) (fun i hi => by rw [pm_u_j _ _ _ (by omega)]) h6
  · rw [pm_u_n _ _ _ hb]
  · rw [pm_u_n _ _ _ (by decide)]
  · have q8 : c % 8 < 8 := Nat.mod_lt _ (by decide)
    have g3' : ln (J 23 (a0 + c / 8)) (c % 8) = f c := g3 c hc
    rcases ho with rfl | rfl | rfl
    · show (- f c) :: s = ln (fLa_alter 49 _) _ :: s
      rw [ln_alter49 _ q8, g3']
    · show (~~~ f c) :: s = ln (fLa_alter 18 _) _ :: s
      rw [ln_alter18 _ q8, g3']
    · show b1 (decide (f c = 0#8)) :: s = ln (fLa_alter 19 _) _ :: s
      rw [ln_alter19 _ q8, g3']
theorem va_jo_o {f f2 : Nat → BitVec 8} (h : vT W I J (f2 :: f :: S)) {o : Nat} (ho : 0 < tyt o) : pVa_join 257 (nI o) I J ∧ ∃ I' J' g, fVa_join 257 (nI o) I J = (I', J') ∧ vT W I' J' (g :: S) ∧ vF I J I' J' ∧ ∀ c, c < 8 * W → g c = jo o (f c) (f2 c) := by
  obtain ⟨h1, h2, h3, h4, h5, ⟨b0, k1, k2, k3⟩, ⟨a0, g1, g2, g3⟩, h6⟩ := h
  rw [List.length_cons] at k1 k2
  rw [List.length_cons, List.length_cons] at h4 h5
  have e1 : I 22 3 - 1 = nI (S.length + 1) := by rw [h4]; exact nI_pred _
  have e2 : I 22 3 - 2 = nI S.length := by rw [h4]; show nI (S.length + 1 + 1) - nI 2 = _; rw [pk_sub (by omega)]; rfl
  have e3 : nI (S.length + 1) - 1 = nI S.length := nI_pred _
  have c : (2 : Int32) ≤ I 22 3 := by rw [h4]; exact nI_le (a := 2) (by omega) (by omega)
  have ab := rwk_b g2 (by omega)
  have bb := rwk_b k2 (by omega)
  have vv : vp_in (nI S.length) 140 := vp_in_nI (by omega) (by decide)
  have vv1 : vp_in (nI (S.length + 1)) 140 := vp_in_nI (by omega) (by decide)
  have z := va_joi_l h1 h3 (a0 := a0) (b0 := b0) (row := (60 + S.length) * 256) ab bb (by omega) (by rcases g2 with g2 | ⟨k, g2, g4⟩ <;> omega) (by rcases k2 with k2 | ⟨k, k2, k4⟩ <;> omega) (by rw [e1, e3]; exact vv) (nI o) J 257 0 (Nat.zero_le _) (by omega)
  rw [mR_0, e1, e3, nI_clamp (by omega)] at z
  have z1 : pVa_join_47 257 (nI o) (nI a0) (nI b0) (nI ((60 + S.length) * 256)) 0 I J := z.1
  have z2 : fVa_join_47 257 (nI o) (nI a0) (nI b0) (nI ((60 + S.length) * 256)) 0 I J = _ := z.2
  unfold pVa_join fVa_join
  rw [if_pos c, e1, e2, nI_clamp (n := S.length) (by omega), nI_clamp (n := S.length + 1) (by omega), g1, k1, rowP, z2]
  refine ⟨⟨fun _ => ⟨vv, vv1, trivial, z1⟩, fun q => absurd c q⟩, _, _, fun c => ln (fLa_join (nI o) (J 23 (a0 + c / 8)) (J 23 (b0 + c / 8))) (c % 8), rfl, ⟨?_, h2, h3, ?_, by rw [List.length_cons]; omega, ⟨(60 + S.length) * 256, ?_, Or.inl rfl, fun c hc => lv_i hc⟩, ?_⟩, ⟨fun a ha hb => ?_, fun j hj => ?_, fun a ha => mR_n _ _ _ _ ha, fun j hj => mR_o _ _ (by omega)⟩, fun c hc => ?_⟩
  · rw [pm_u_n _ _ _ (by decide), pm_u_j _ _ _ (by decide)]; exact h1
  · rw [pm_u_n _ _ _ (by decide), pm_u_s]; rfl
  · rw [pm_u_s]
  · exact vS_m (by omega) h3 rfl S (Nat.le_refl _) (fun i hi => by rw [pm_u_j _ _ _ (by omega), pm_u_n _ _ _ (by decide)]) h6
  · rw [pm_u_n _ _ _ hb, pm_u_n _ _ _ ha]
  · rw [pm_u_n _ _ _ (by decide), pm_u_j _ _ _ hj]
  · have q8 : c % 8 < 8 := Nat.mod_lt _ (by decide)
    have g3' : ln (J 23 (a0 + c / 8)) (c % 8) = f c := g3 c hc
    have k3' : ln (J 23 (b0 + c / 8)) (c % 8) = f2 c := k3 c hc
    show ln (fLa_join (nI o) (J 23 (a0 + c / 8)) (J 23 (b0 + c / 8))) (c % 8) = _
    rw [ln_join (tyt_op ho) _ _ q8, g3', k3']
theorem va_ch_o {f f2 f3 : Nat → BitVec 8} (h : vT W I J (f3 :: f2 :: f :: S)) : pVa_choose 257 I J ∧ ∃ I' J' g, fVa_choose 257 I J = (I', J') ∧ vT W I' J' (g :: S) ∧ vF I J I' J' ∧ ∀ c, c < 8 * W → g c = if f c = 0#8 then f3 c else f2 c := by
  obtain ⟨h1, h2, h3, h4, h5, ⟨b0, k1, k2, k3⟩, ⟨a0, g1, g2, g3⟩, ⟨t0, m1, m2, m3⟩, h6⟩ := h
  rw [List.length_cons, List.length_cons] at k1 k2
  rw [List.length_cons] at g1 g2
  rw [List.length_cons, List.length_cons, List.length_cons] at h4 h5
  have e1 : I 22 3 - 1 = nI (S.length + 1 + 1) := by rw [h4]; exact nI_pred _
  have e2 : I 22 3 - 2 = nI (S.length + 1) := by rw [h4]; show nI (S.length + 1 + 1 + 1) - nI 2 = _; rw [pk_sub (by omega)]; rfl
  have e3 : I 22 3 - 3 = nI S.length := by rw [h4]; show nI (S.length + 1 + 1 + 1) - nI 3 = _; rw [pk_sub (by omega)]; rfl
  have e4 : nI (S.length + 1) - 1 = nI S.length := nI_pred _
  have c : (3 : Int32) ≤ I 22 3 := by rw [h4]; exact nI_le (a := 3) (by omega) (by omega)
  have tb := rwk_b m2 (by omega)
  have ab := rwk_b g2 (by omega)
  have bb := rwk_b k2 (by omega)
  have vv : vp_in (nI S.length) 140 := vp_in_nI (by omega) (by decide)
  have vv1 : vp_in (nI (S.length + 1)) 140 := vp_in_nI (by omega) (by decide)
  have vv2 : vp_in (nI (S.length + 1 + 1)) 140 := vp_in_nI (by omega) (by decide)
  have z := va_cho_l h1 h3 (t0 := t0) (a0 := a0) (b0 := b0) (row := (60 + S.length) * 256) tb ab bb (by omega) (by rcases m2 with m2 | ⟨k, m2, m4⟩ <;> omega) (by rcases g2 with g2 | ⟨k, g2, g4⟩ <;> omega) (by rcases k2 with k2 | ⟨k, k2, k4⟩ <;> omega) (by rw [e2, e4]; exact vv) J 257 0 (Nat.zero_le _) (by omega)
  rw [mR_0, e2, e4, nI_clamp (by omega)] at z
  have z1 : pVa_choose_59 257 (nI t0) (nI a0) (nI b0) (nI ((60 + S.length) * 256)) 0 I J := z.1
  have z2 : fVa_choose_59 257 (nI t0) (nI a0) (nI b0) (nI ((60 + S.length) * 256)) 0 I J = _ := z.2
  unfold pVa_choose fVa_choose
  rw [if_pos c, e1, e2, e3, nI_clamp (n := S.length) (by omega), nI_clamp (n := S.length + 1) (by omega), nI_clamp (n := S.length + 1 + 1) (by omega), m1, g1, k1, rowP, z2]
  refine ⟨⟨fun _ => ⟨vv, vv1, vv2, trivial, z1⟩, fun q => absurd c q⟩, _, _, fun c => ln (fLa_choose (J 23 (t0 + c / 8)) (J 23 (a0 + c / 8)) (J 23 (b0 + c / 8))) (c % 8), rfl, ⟨?_, h2, h3, ?_, by rw [List.length_cons]; omega, ⟨(60 + S.length) * 256, ?_, Or.inl rfl, fun c hc => lv_i hc⟩, ?_⟩, ⟨fun a ha hb => ?_, fun j hj => ?_, fun a ha => mR_n _ _ _ _ ha, fun j hj => mR_o _ _ (by omega)⟩, fun c hc => ?_⟩
  · rw [pm_u_n _ _ _ (by decide), pm_u_j _ _ _ (by decide)]; exact h1
  · rw [pm_u_n _ _ _ (by decide), pm_u_s]; rfl
  · rw [pm_u_s]
  · exact vS_m (by omega) h3 rfl S (Nat.le_refl _) (fun i hi => by rw [pm_u_j _ _ _ (by omega), pm_u_n _ _ _ (by decide)]) h6
  · rw [pm_u_n _ _ _ hb, pm_u_n _ _ _ ha]
  · rw [pm_u_n _ _ _ (by decide), pm_u_j _ _ _ hj]
  · have q8 : c % 8 < 8 := Nat.mod_lt _ (by decide)
    have m3' : ln (J 23 (t0 + c / 8)) (c % 8) = f c := m3 c hc
    have g3' : ln (J 23 (a0 + c / 8)) (c % 8) = f2 c := g3 c hc
    have k3' : ln (J 23 (b0 + c / 8)) (c % 8) = f3 c := k3 c hc
    show ln (fLa_choose (J 23 (t0 + c / 8)) (J 23 (a0 + c / 8)) (J 23 (b0 + c / 8))) (c % 8) = _
    rw [ln_choose _ _ _ q8, m3', g3', k3']
/-- the switch -/
theorem pf_un {o : Nat} (ho : o = 49 ∨ o = 18 ∨ o = 19) (y : Int32) : (pVa_alter 257 (nI o) I J → pVa_perform (nI o) y I J) ∧ fVa_perform (nI o) y I J = fVa_alter 257 (nI o) I J := by
  rcases ho with rfl | rfl | rfl
  · exact ⟨fun h => ⟨fun q => absurd q (by decide), fun _ => ⟨fun q => absurd q (by decide), fun _ => ⟨fun q => absurd q (by decide), fun _ => ⟨fun q => absurd q (by decide), fun _ => ⟨fun q => absurd q (by decide), fun _ => ⟨fun _ => ⟨h, trivial⟩, fun q => absurd rfl q⟩⟩⟩⟩⟩⟩, rfl⟩
  · exact ⟨fun h => ⟨fun _ => ⟨h, trivial⟩, fun q => absurd rfl q⟩, rfl⟩
  · exact ⟨fun h => ⟨fun q => absurd q (by decide), fun _ => ⟨fun _ => ⟨h, trivial⟩, fun q => absurd rfl q⟩⟩, rfl⟩
theorem pf_num (y : Int32) : (pVa_pushNumber 257 y I J → pVa_perform 44 y I J) ∧ fVa_perform 44 y I J = fVa_pushNumber 257 y I J := ⟨fun h => ⟨fun q => absurd q (by decide), fun _ => ⟨fun q => absurd q (by decide), fun _ => ⟨fun q => absurd q (by decide), fun _ => ⟨fun q => absurd q (by decide), fun _ => ⟨fun _ => ⟨h, trivial⟩, fun q => absurd rfl q⟩⟩⟩⟩⟩, rfl⟩
theorem pf_nam (y : Int32) : (pVa_push (fVa_rowOfName y) I J → pVa_perform 43 y I J) ∧ fVa_perform 43 y I J = (fVa_push (fVa_rowOfName y) I J, J) := ⟨fun h => ⟨fun q => absurd q (by decide), fun _ => ⟨fun q => absurd q (by decide), fun _ => ⟨fun q => absurd q (by decide), fun _ => ⟨fun _ => ⟨trivial, h, trivial⟩, fun q => absurd rfl q⟩⟩⟩⟩, rfl⟩
theorem pf_cho (y : Int32) : (pVa_choose 257 I J → pVa_perform 50 y I J) ∧ fVa_perform 50 y I J = fVa_choose 257 I J := ⟨fun h => ⟨fun q => absurd q (by decide), fun _ => ⟨fun q => absurd q (by decide), fun _ => ⟨fun q => absurd q (by decide), fun _ => ⟨fun q => absurd q (by decide), fun _ => ⟨fun q => absurd q (by decide), fun _ => ⟨fun q => absurd q (by decide), fun _ => ⟨fun _ => ⟨h, trivial⟩, fun q => absurd rfl q⟩⟩⟩⟩⟩⟩⟩, rfl⟩
theorem pf_joi {o : Nat} (ho : 0 < tyt o) (y : Int32) : (pVa_join 257 (nI o) I J → pVa_perform (nI o) y I J) ∧ fVa_perform (nI o) y I J = fVa_join 257 (nI o) I J := by
  have hl := tyt_op ho
  have ne : ∀ t : Nat, t < 2 ^ 31 → o ≠ t → ¬ nI o = nI t := fun t ht h q => h ((nI_eq (by omega) ht).mp q)
  have n18 : ¬ nI o = 18 := ne 18 (by decide) (by omega)
  have n19 : ¬ nI o = 19 := ne 19 (by decide) (by omega)
  have n31 : ¬ nI o = 31 := ne 31 (by decide) (by omega)
  have n43 : ¬ nI o = 43 := ne 43 (by decide) (by omega)
  have n44 : ¬ nI o = 44 := ne 44 (by decide) (by omega)
  have n49 : ¬ nI o = 49 := ne 49 (by decide) (by omega)
  have n50 : ¬ nI o = 50 := ne 50 (by decide) (by omega)
  unfold pVa_perform fVa_perform
  rw [if_neg n18, if_neg n19, if_neg n31, if_neg n43, if_neg n44, if_neg n49, if_neg n50]
  exact ⟨fun h => ⟨fun q => absurd q n18, fun _ => ⟨fun q => absurd q n19, fun _ => ⟨fun q => absurd q n31, fun _ => ⟨fun q => absurd q n43, fun _ => ⟨fun q => absurd q n44, fun _ => ⟨fun q => absurd q n49, fun _ => ⟨fun q => absurd q n50, fun _ => ⟨h, trivial⟩⟩⟩⟩⟩⟩⟩⟩, rfl⟩
end
/-! the loop over a code -/
abbrev PP := Nat → Int32 → Mm → Ml → Prop
abbrev PF := Nat → Int32 → Mm → Ml → Mm × Ml
def Ex (P : PP) (F : PF) (I : Mm) (J : Ml) (p k : Nat) (I' : Mm) (J' : Ml) : Prop := ∀ (n : Nat) (Q : Mm × Ml → Prop), (P n (nI (p + k)) I' J' ∧ Q (F n (nI (p + k)) I' J')) → P (n + k) (nI p) I J ∧ Q (F (n + k) (nI p) I J)
theorem Ex_t {P : PP} {F : PF} {I I' I'' : Mm} {J J' J'' : Ml} {p k m : Nat} (h : Ex P F I J p k I' J') (h' : Ex P F I' J' (p + k) m I'' J'') : Ex P F I J p (k + m) I'' J'' := by
  intro n Q x
  rw [show n + (k + m) = n + m + k by omega]
  exact h (n + m) Q (h' n Q (by rw [show p + k + m = p + (k + m) by omega]; exact x))
def cA (q : Nat) (I : Mm) (p : Nat) (C : Cd) : Prop := ∀ j x, C[j]? = some x → I (q + 1) (p + j) = nI x.1 ∧ I (q + 2) (p + j) = nI x.2
theorem cA_l {q : Nat} {I : Mm} {p : Nat} {C D : Cd} (h : cA q I p (C ++ D)) : cA q I p C := fun j x hx => h j x (by
  obtain ⟨k, _⟩ := List.getElem?_eq_some_iff.mp hx
  rw [List.getElem?_append, if_pos k]; exact hx)
theorem cA_r {q : Nat} {I : Mm} {p : Nat} {C D : Cd} (h : cA q I p (C ++ D)) : cA q I (p + C.length) D := fun j x hx => by
  have := h (C.length + j) x (by rw [List.getElem?_append, if_neg (by omega), Nat.add_sub_cancel_left]; exact hx)
  rw [← Nat.add_assoc] at this
  exact this
theorem cA_c {q : Nat} {I I' : Mm} {p : Nat} {C : Cd} (h : cA q I p C) (h1 : I' (q + 1) = I (q + 1)) (h2 : I' (q + 2) = I (q + 2)) : cA q I' p C := fun j x hx => by rw [h1, h2]; exact h j x hx
def VStep (q : Nat) (P : PP) (F : PF) : Prop := ∀ (p len : Nat) (x : Nat × Nat) (I : Mm) (J : Ml), I q 2 = nI len → p < len → len ≤ 4000 → I (q + 1) p = nI x.1 → I (q + 2) p = nI x.2 → (x.1 < 32 ∨ (42 < x.1 ∧ x.1 < 51)) → pVa_perform (nI x.1) (nI x.2) I J → Ex P F I J p 1 (fVa_perform (nI x.1) (nI x.2) I J).1 (fVa_perform (nI x.1) (nI x.2) I J).2
def XE (q W : Nat) (P : PP) (F : PF) (h : Nat) (C : Cd) : Prop := ∀ (p len : Nat) (I : Mm) (J : Ml) (S : List (Nat → BitVec 8)), cA q I p C → I q 2 = nI len → p + C.length ≤ len → len ≤ 4000 → vT W I J S → S.length + h ≤ 140 → ∃ I' J' f, vT W I' J' (f :: S) ∧ vF I J I' J' ∧ (∀ c, c < 8 * W → ∀ s, run (fun k => lv J (k * 256) c) C s = f c :: s) ∧ Ex P F I J p C.length I' J'
theorem cA_1 {q : Nat} {I : Mm} {p : Nat} {x : Nat × Nat} (h : cA q I p [x]) : I (q + 1) p = nI x.1 ∧ I (q + 2) p = nI x.2 := h 0 x rfl
set_option maxHeartbeats 4000000 in
theorem XE_of {q W : Nat} {P : PP} {F : PF} (hq : q = 7 ∨ q = 10) (hst : VStep q P F) {ok : Nat → Prop} (hok : ∀ k, ok k → k < 60) {h : Nat} {C : Cd} (x : XC ok h C) : 0 < h ∧ XE q W P F h C := by
  have fa : ∀ {I I' : Mm} {J J' : Ml}, vF I J I' J' → I' q = I q ∧ I' (q + 1) = I (q + 1) ∧ I' (q + 2) = I (q + 2) := fun f => ⟨f.1 _ (by omega) (by omega), f.1 _ (by omega) (by omega), f.1 _ (by omega) (by omega)⟩
  have fl : ∀ {I I' : Mm} {J J' : Ml} (C : Cd) (c : Nat) (s : List (BitVec 8)), vF I J I' J' → c < 2048 → (∀ k, (43, k) ∈ C → k < 60) → run (fun k => lv J' (k * 256) c) C s = run (fun k => lv J (k * 256) c) C s := fun C c s f hc hk => run_cg C s (fun k h => vF_lv f (hk k h) hc)
  suffices hh : (0 < h ∧ XE q W P F h C) ∧ ∀ k, (43, k) ∈ C → k < 60 from hh.1
  have ap : ∀ {C D : Cd}, (∀ k, (43, k) ∈ C → k < 60) → (∀ k, (43, k) ∈ D → k < 60) → ∀ k, (43, k) ∈ C ++ D → k < 60 := fun h1 h2 k hk => by
    rcases List.mem_append.mp hk with q | q
    · exact h1 k q
    · exact h2 k q
  have on : ∀ {o : Nat}, o ≠ 43 → ∀ k, (43, k) ∈ [(o, 0)] → k < 60 := fun ho k hk => by
    have := List.mem_singleton.mp hk
    rw [Prod.mk.injEq] at this
    exact absurd this.1.symm ho
  refine x (fun h C => (0 < h ∧ XE q W P F h C) ∧ ∀ k, (43, k) ∈ C → k < 60) ⟨?_, ?_, ?_, ?_, ?_⟩
  · intro v hv
    refine ⟨⟨by decide, fun p len I J S hA hl hp hn hT hS => ?_⟩, fun k hk => by have := List.mem_singleton.mp hk; rw [Prod.mk.injEq] at this; exact absurd this.1 (by decide)⟩
    obtain ⟨z1, I', J', z2, z3, z4⟩ := va_num_o hT (by omega) hv
    have y := pf_num (I := I) (J := J) (nI v)
    have e := hst p len (44, v) I J hl (by simp only [List.length_cons, List.length_nil] at hp; omega) hn (cA_1 hA).1 (cA_1 hA).2 (Or.inr (show 42 < 44 ∧ 44 < 51 by decide)) (y.1 z1)
    have e2 : fVa_perform (nI 44) (nI v) I J = (I', J') := y.2.trans z2
    dsimp only at e
    rw [e2] at e
    exact ⟨I', J', _, z3, z4, fun c hc s => rfl, e⟩
  · intro k hk
    have k60 := hok k hk
    refine ⟨⟨by decide, fun p len I J S hA hl hp hn hT hS => ?_⟩, fun j hj => by have := List.mem_singleton.mp hj; rw [Prod.mk.injEq] at this; omega⟩
    obtain ⟨z1, z3, z4⟩ := va_push_o hT (by omega) (row := k * 256) (Or.inr ⟨k, k60, rfl⟩) (f := fun c => lv J (k * 256) c) (fun c _ => rfl)
    have y := pf_nam (I := I) (J := J) (nI k)
    rw [rowN] at y
    have e := hst p len (43, k) I J hl (by simp only [List.length_cons, List.length_nil] at hp; omega) hn (cA_1 hA).1 (cA_1 hA).2 (Or.inr (show 42 < 43 ∧ 43 < 51 by decide)) (y.1 z1)
    have e2 : fVa_perform (nI 43) (nI k) I J = _ := y.2
    dsimp only at e
    rw [e2] at e
    exact ⟨_, _, _, z3, z4, fun c hc s => rfl, e⟩
  · rintro o h C ho ⟨⟨h0, hC⟩, hk⟩
    refine ⟨⟨h0, fun p len I J S hA hl hp hn hT hS => ?_⟩, ap hk (on (by omega))⟩
    rw [List.length_append] at hp
    simp only [List.length_cons, List.length_nil] at hp
    obtain ⟨I1, J1, f, a1, a2, a3, a4⟩ := hC p len I J S (cA_l hA) hl (by omega) hn hT hS
    obtain ⟨q0, q1, q2⟩ := fa a2
    have hA1 := cA_1 (cA_c (cA_r hA) q1 q2)
    have w2 := a1.2.2.1
    obtain ⟨z1, I', J', g, z2, z3, z4, z5⟩ := va_un_o a1 ho (fun _ => 0#8)
    have y := pf_un (I := I1) (J := J1) ho (nI 0)
    have e := hst (p + C.length) len (o, 0) I1 J1 (by rw [q0]; exact hl) (by omega) hn hA1.1 hA1.2 (by omega) (y.1 z1)
    have e2 : fVa_perform (nI o) (nI 0) I1 J1 = (I', J') := y.2.trans z2
    dsimp only at e
    rw [e2] at e
    refine ⟨I', J', g, z3, vF_t a2 z4, fun c hc s => ?_, by rw [List.length_append]; exact Ex_t a4 e⟩
    rw [run_app, a3 c hc]
    rw [run, run, ← z5 c hc s]
    rcases ho with rfl | rfl | rfl <;> rfl
  · rintro o h h' C D ho ⟨⟨h0, hC⟩, hk⟩ ⟨⟨h0', hD⟩, hk'⟩
    refine ⟨⟨by omega, fun p len I J S hA hl hp hn hT hS => ?_⟩, ap hk (ap hk' (on (by have := tyt_lt ho; omega)))⟩
    rw [List.length_append, List.length_append] at hp
    simp only [List.length_cons, List.length_nil] at hp
    have w2 := hT.2.2.1
    obtain ⟨I1, J1, f, a1, a2, a3, a4⟩ := hC p len I J S (cA_l hA) hl (by omega) hn hT (by omega)
    obtain ⟨q0, q1, q2⟩ := fa a2
    have hA1 := cA_c (cA_r hA) q1 q2
    obtain ⟨I2, J2, f2, b1, b2, b3, b4⟩ := hD (p + C.length) len I1 J1 (f :: S) (cA_l hA1) (by rw [q0]; exact hl) (by omega) hn a1 (by rw [List.length_cons]; omega)
    obtain ⟨r0, r1, r2⟩ := fa b2
    have hA2 := cA_1 (cA_c (cA_r hA1) r1 r2)
    obtain ⟨z1, I', J', g, z2, z3, z4, z5⟩ := va_jo_o b1 ho
    have y := pf_joi (I := I2) (J := J2) ho (nI 0)
    have ol := tyt_lt ho
    have e := hst (p + C.length + D.length) len (o, 0) I2 J2 (by rw [r0, q0]; exact hl) (by omega) hn hA2.1 hA2.2 (by omega) (y.1 z1)
    have e2 : fVa_perform (nI o) (nI 0) I2 J2 = (I', J') := y.2.trans z2
    dsimp only at e
    rw [e2] at e
    refine ⟨I', J', g, z3, vF_t (vF_t a2 b2) z4, fun c hc s => ?_, by rw [List.length_append, List.length_append]; exact Ex_t a4 (Ex_t b4 e)⟩
    rw [run_app, a3 c hc, run_app, ← fl D c _ a2 (by omega) hk', b3 c hc, z5 c hc]
    rw [run, run, st_op _ ho]
  · rintro h h' h'' C D E ⟨⟨h0, hC⟩, hk⟩ ⟨⟨h0', hD⟩, hk'⟩ ⟨⟨h0'', hE⟩, hk''⟩
    refine ⟨⟨by omega, fun p len I J S hA hl hp hn hT hS => ?_⟩, ap hk (ap hk' (ap hk'' (on (by decide))))⟩
    rw [List.length_append, List.length_append, List.length_append] at hp
    simp only [List.length_cons, List.length_nil] at hp
    have w2 := hT.2.2.1
    obtain ⟨I1, J1, f, a1, a2, a3, a4⟩ := hC p len I J S (cA_l hA) hl (by omega) hn hT (by omega)
    obtain ⟨q0, q1, q2⟩ := fa a2
    have hA1 := cA_c (cA_r hA) q1 q2
    obtain ⟨I2, J2, f2, b1, b2, b3, b4⟩ := hD (p + C.length) len I1 J1 (f :: S) (cA_l hA1) (by rw [q0]; exact hl) (by omega) hn a1 (by rw [List.length_cons]; omega)
    obtain ⟨r0, r1, r2⟩ := fa b2
    have hA2 := cA_c (cA_r hA1) r1 r2
    obtain ⟨I3, J3, f3, d1, d2, d3, d4⟩ := hE (p + C.length + D.length) len I2 J2 (f2 :: f :: S) (cA_l hA2) (by rw [r0, q0]; exact hl) (by omega) hn b1 (by rw [List.length_cons, List.length_cons]; omega)
    obtain ⟨t0, t1, t2⟩ := fa d2
    have hA3 := cA_1 (cA_c (cA_r hA2) t1 t2)
    obtain ⟨z1, I', J', g, z2, z3, z4, z5⟩ := va_ch_o d1
    have y := pf_cho (I := I3) (J := J3) (nI 0)
    have e := hst (p + C.length + D.length + E.length) len (50, 0) I3 J3 (by rw [t0, r0, q0]; exact hl) (by omega) hn hA3.1 hA3.2 (Or.inr (by decide)) (y.1 z1)
    have e2 : fVa_perform (nI 50) (nI 0) I3 J3 = (I', J') := y.2.trans z2
    dsimp only at e
    rw [e2] at e
    refine ⟨I', J', g, z3, vF_t (vF_t (vF_t a2 b2) d2) z4, fun c hc s => ?_, by rw [List.length_append, List.length_append, List.length_append]; exact Ex_t a4 (Ex_t b4 (Ex_t d4 e))⟩
    rw [run_app, a3 c hc, run_app, ← fl D c _ a2 (by omega) hk', b3 c hc, run_app, ← fl E c _ (vF_t a2 b2) (by omega) hk'', d3 c hc, z5 c hc]
    rfl
