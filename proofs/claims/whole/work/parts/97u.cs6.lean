/-! CLASS'S UNTIL 2: the loops -/
section
variable {n m ib need : Nat} {nx : Nat → Nat → Nat} {way goal : Se} {a : Bool}
theorem cIn_c {I I' : Mm} (h : cIn n m nx I) (e7 : I' 27 = I 27) (e8 : I' 28 = I 28) : cIn n m nx I' := by
  unfold cIn at h ⊢
  rw [e7, e8]; exact h
theorem cm_lb {I : Mm} (hN : cN n m ib nx I) (hI : cIn n m nx I) (hneed : 1 ≤ need ∧ need ≤ m) {to : Nat} (hto : to < n) (J : Ml) {d : Nat → Nat} {Q : List Nat} (hd : ∀ s, s < n → d s + cI nx (fun t => decide (t = to)) s m ≤ m) (hU : uV n m need way goal d Q I) : pCm_leadBack 2049 (nI to) I J ∧ ∃ Q' d', (∀ s, s < n → d' s = d s + cI nx (fun t => decide (t = to)) s m) ∧ uV n m need way goal d' (Q ++ Q') (fCm_leadBack 2049 (nI to) I J) ∧ uI I (fCm_leadBack 2049 (nI to) I J) := by
  have m8 := cN_m hN
  obtain ⟨h1, h2, h3, h4, h5, h6, h7, h8⟩ := hN
  have hT : ∀ c, c < n * m → Tn nx m c < n := fun c hc => by
    unfold Tn
    exact (h8 _ (Nat.div_lt_of_lt_mul (by rw [Nat.mul_comm]; exact hc)) _ (Nat.mod_lt _ (by omega))).2
  have ct : ∀ s, s < n → (PL (Tn nx m) m (n * m) to).count s = cI nx (fun t => decide (t = to)) s m := fun s hs => by
    have := PL_c (T := Tn nx m) (m := m) (s := to) (r := s) (nx := nx) (by omega) (fun a i hi => Tn_s hi) n 0 (Nat.zero_le _)
    rw [Nat.add_zero, if_pos hs] at this
    exact this
  have cs : cum (Tn nx m) m (n * m) (to + 1) = cum (Tn nx m) m (n * m) to + (PL (Tn nx m) m (n * m) to).length := rfl
  have cn := cum_mo (T := Tn nx m) (m := m) (N := n * m) (to + 1) n (by omega)
  rw [cum_n hT] at cn
  obtain ⟨z1, Q', z2, z3⟩ := lb_l h2 m8.2 hneed hto J (PL (Tn nx m) m (n * m) to) (cum (Tn nx m) m (n * m) to) 2049 I d Q (hI.2 to hto) (by rw [hI.1 (to + 1) (by omega), cs]) (by omega) (by omega) (PL_lt _ (Nat.le_refl _)) (fun s hs => by rw [ct s hs]; exact hd s hs) hU
  unfold pCm_leadBack fCm_leadBack
  rw [nI_clamp (by omega), hI.1 to (by omega)]
  exact ⟨⟨vp_in_nI (by omega) (by decide), z1⟩, Q', _, fun s hs => by rw [ct s hs], z2, z3⟩
theorem un_cI (hneed : (a = true → need = m) ∧ (a = false → need = 1)) {A : Nat → Bool} {s : Nat} : need ≤ cI nx A s m ↔ pre m nx a A s := by
  cases a with
  | true =>
    rw [hneed.1 rfl]
    exact ⟨fun h => ⟨fun _ => cI_all m h, fun q => absurd q (by decide)⟩, fun h => cI_allr m (h.1 rfl)⟩
  | false =>
    rw [hneed.2 rfl, cI_ex]
    exact ⟨fun h => ⟨fun q => absurd q (by decide), fun _ => h⟩, fun h => h.2 rfl⟩
set_option maxHeartbeats 2000000 in
theorem u_105 (hneed : (a = true → need = m) ∧ (a = false → need = 1)) (hg : ∀ s, goal s = true → s < n) {t : Nat} (ht : t + 4 ≤ 624) (y1 y2 y4 y5 : Int32) : ∀ (f k : Nat) (I : Mm) (J : Ml) (Q : List Nat) (d : Nat → Nat), cN n m ib nx I → cIn n m nx I → uV n m need way goal d Q I → (∀ s, s < n → d s = cI nx (fun x => decide (x ∈ Q.take k)) s m) → (∀ r, r < 256 → (sB J t r = true ↔ (goal r = true ∨ r ∈ Q.take k))) → (∀ h, clo n m nx a way goal h → ∀ x ∈ Q, h x = true) → k ≤ Q.length → n - k < f → pCm_until_105 f y1 y2 (nI t) y4 y5 (nI k) I J ∧ ∃ I' J', fCm_until_105 f y1 y2 (nI t) y4 y5 (nI k) I J = (I', J') ∧ uI I I' ∧ kF t J J' ∧ ∀ r, r < 256 → sB J' t r = unt n m nx a way goal r := by
  intro f
  induction f with
  | zero => intro k I J Q d _ _ _ _ _ _ _ h; omega
  | succ f ih =>
    intro k I J Q d hN hI hU hd hB hL hk hf
    have m8 := cN_m hN
    have n256 := hN.2.1
    have Ql := nd_le n Q hU.2.2.2.1 hU.2.2.2.2.1
    have n1 : 1 ≤ need ∧ need ≤ m := by
      cases ha : a with
      | true => rw [hneed.1 ha]; omega
      | false => rw [hneed.2 ha]; omega
    rw [pCm_until_105.eq_2, fCm_until_105.eq_2]
    by_cases c : Q.length ≤ k
    · have c' : I 33 4 ≤ nI k := by rw [hU.2.1]; exact nI_le c (by omega)
      rw [if_pos c']
      refine ⟨⟨fun _ => trivial, fun q => absurd c' q⟩, I, J, rfl, ⟨fun _ _ _ _ => rfl, fun _ _ => rfl⟩, kF_r _ _, fun r hr => ?_⟩
      have tk : Q.take k = Q := List.take_of_length_le c
      rw [tk] at hB hd
      have u : (fun r => decide (r ∈ Q)) = unt n m nx a way goal := by
        refine unt_u (fun s hs => hU.2.2.2.2.1 s (of_decide_eq_true hs)) (fun s hs q => decide_eq_true ((hU.2.2.2.2.2 s hs).mpr ?_)) (fun h hh s hs => hL h hh s (of_decide_eq_true hs))
        rcases q with q | ⟨q1, q2⟩
        · exact Or.inl q
        · exact Or.inr ⟨q1, by rw [hd s hs]; exact (un_cI hneed).mpr q2⟩
      rw [← u, Bool.eq_iff_iff, hB r hr, decide_eq_true_iff]
      constructor
      · rintro (q | q)
        · exact (hU.2.2.2.2.2 r (hg r q)).mpr (Or.inl q)
        · exact q
      · exact fun q => Or.inr q
    · have c' : ¬ I 33 4 ≤ nI k := by rw [hU.2.1]; exact nI_ge (by omega) (by omega)
      have c2 : ¬ (256 : Int32) ≤ nI k := nI_ge (b := 256) (by omega) (by decide)
      obtain ⟨to, hto⟩ : ∃ x, Q[k]? = some x := ⟨_, List.getElem?_eq_getElem (by omega)⟩
      have tQ : to ∈ Q := List.mem_of_getElem? hto
      have tn := hU.2.2.2.2.1 to tQ
      have tk : Q.take (k + 1) = Q.take k ++ [to] := by rw [List.take_succ, hto]; rfl
      have ntk : to ∉ Q.take k := fun q => by
        have nd : (Q.take k ++ [to]).Nodup := by
          rw [← tk]
          exact hU.2.2.2.1.sublist (List.take_sublist _ _)
        rw [List.nodup_append] at nd
        exact nd.2.2 to q to (List.mem_singleton.mpr rfl) rfl
      rw [if_neg c', if_neg c2, nI_clamp (n := k) (by omega), hU.2.2.1 k to hto]
      have pu := cm_put (I := I) (J := J) ht (show to < 256 by omega)
      have cadd : ∀ s, cI nx (fun x => decide (x ∈ Q.take (k + 1))) s m = cI nx (fun x => decide (x ∈ Q.take k)) s m + cI nx (fun x => decide (x = to)) s m := fun s => cI_add (fun x => by
        rw [decide_eq_true_iff, decide_eq_true_iff, decide_eq_true_iff, tk, List.mem_append, List.mem_singleton]) (fun x h1 h2 => ntk (by rw [← of_decide_eq_true h2]; exact of_decide_eq_true h1)) m
      obtain ⟨z1, Q', d', z2, z3, z4⟩ := cm_lb hN hI n1 tn (fCm_put (nI t) (nI to) I J) (d := d) (Q := Q) (fun s hs => by rw [hd s hs, ← cadd s]; exact cI_le m) hU
      unfold pCm_until_134 fCm_until_134 pCm_until_145 fCm_until_145
      rw [nI_clamp (n := k) (by omega), hU.2.2.1 k to hto, nI_i1]
      generalize fCm_leadBack 2049 (nI to) I (fCm_put (nI t) (nI to) I J) = I1 at z3 z4 ⊢
      have tk' : (Q ++ Q').take (k + 1) = Q.take (k + 1) := by rw [List.take_append, show k + 1 - Q.length = 0 by omega, List.take_zero, List.append_nil]
      have hd' : ∀ s, s < n → d' s = cI nx (fun x => decide (x ∈ (Q ++ Q').take (k + 1))) s m := fun s hs => by rw [z2 s hs, hd s hs, tk', cadd s]
      obtain ⟨w1, I', J', w2, w3, w4, w5⟩ := ih (k + 1) I1 (fCm_put (nI t) (nI to) I J) (Q ++ Q') d' (cN_c hN (z4.1 3 (by decide) (by decide) (by decide)) (z4.1 25 (by decide) (by decide) (by decide)) (z4.1 26 (by decide) (by decide) (by decide))) (cIn_c hI (z4.1 27 (by decide) (by decide) (by decide)) (z4.1 28 (by decide) (by decide) (by decide))) z3 hd' (fun r hr => by
        rw [pu.2.2 r hr, Bool.or_eq_true, decide_eq_true_iff, hB r hr, tk', tk, List.mem_append, List.mem_singleton, or_assoc]) (fun h hh x hx => by
        have xn := z3.2.2.2.2.1 x hx
        rcases (z3.2.2.2.2.2 x xn).mp hx with q | q
        · exact hh x xn (Or.inl q)
        · refine hh x xn (Or.inr ⟨q.1, pre_m (f := fun x => decide (x ∈ (Q ++ Q').take (k + 1))) (fun i _ hi => ?_) ((un_cI hneed).mp (by rw [← hd' x xn]; exact q.2))⟩)
          have hi' := of_decide_eq_true hi
          rw [tk'] at hi'
          exact hL h hh _ (List.mem_of_mem_take hi')) (by rw [List.length_append]; omega) (by omega)
      have vk : vp_in (nI k) 256 := vp_in_nI (by omega) (by decide)
      exact ⟨⟨fun q => absurd q c', fun _ => ⟨fun q => absurd q c2, fun _ => ⟨vk, pu.1, vk, z1, w1⟩⟩⟩, I', J', w2, uI_t z4 w3, kF_t pu.2.1 w4, w5⟩
set_option maxHeartbeats 2000000 in
theorem u_36 (hneed : 1 ≤ need ∧ need ≤ m) {w t : Nat} (hw : w + 4 ≤ 624) (ht : t + 4 ≤ 624) (f105 : Nat) (y1 : Int32) (J : Ml) (hW : ∀ r, r < 256 → sB J w r = way r) (hG : ∀ r, r < 256 → sB J t r = goal r) (R : Mm × Ml → Prop) : ∀ (f s : Nat) (I : Mm) (Q : List Nat), cN n m ib nx I → s ≤ n → n - s < f → (∀ r, r < s → I 36 r = nI (bas m need way goal r)) → I 33 4 = nI Q.length → (∀ j x, Q[j]? = some x → I 35 j = nI x) → Q.Nodup → (∀ x, x ∈ Q ↔ (x < s ∧ goal x = true)) → (∀ (I' : Mm) (Q' : List Nat), uI I I' → uV n m need way goal (fun _ => 0) Q' I' → (∀ x ∈ Q', goal x = true) → pCm_until_105 f105 y1 (nI w) (nI t) (nI need) (nI (m + 1)) 0 I' J ∧ R (fCm_until_105 f105 y1 (nI w) (nI t) (nI need) (nI (m + 1)) 0 I' J)) → pCm_until_36 f105 f y1 (nI w) (nI t) (nI need) (nI (m + 1)) (nI s) I J ∧ R (fCm_until_36 f105 f y1 (nI w) (nI t) (nI need) (nI (m + 1)) (nI s) I J) := by
  intro f
  induction f with
  | zero => intro s I Q _ _ h; omega
  | succ f ih =>
    intro s I Q hN hs hf h36 h4 h35 hnd hmem nxt
    have n256 := hN.2.1
    rw [pCm_until_36.eq_2, fCm_until_36.eq_2]
    by_cases c : n ≤ s
    · have c' : I 25 1 ≤ nI s := by rw [hN.1]; exact nI_le c (by omega)
      have es : s = n := by omega
      subst es
      have z := nxt I Q ⟨fun _ _ _ _ => rfl, fun _ _ => rfl⟩ ⟨fun r hr => by rw [h36 r hr]; show _ = nI _ - nI 0; rw [pk_sub (Nat.zero_le _), Nat.sub_zero], h4, h35, hnd, fun x hx => ((hmem x).mp hx).1, fun r hr => by
        rw [hmem r]
        constructor
        · exact fun q => Or.inl q.2
        · rintro (q | q)
          · exact ⟨hr, q⟩
          · have : need ≤ 0 := q.2; omega⟩ (fun x hx => ((hmem x).mp hx).2)
      rw [if_pos c']
      exact ⟨⟨fun _ => z.1, fun q => absurd c' q⟩, z.2⟩
    · have c' : ¬ I 25 1 ≤ nI s := by rw [hN.1]; exact nI_ge (by omega) (by omega)
      have s256 : s < 256 := by omega
      have vs : vp_in (nI s) 256 := vp_in_nI s256 (by decide)
      rw [if_neg c']
      have hh := cm_has (I := I) (J := J) hw s256
      rw [hW s s256] at hh
      have key : ∀ z : Int32, z = nI (if way s = true then need else m + 1) → pCm_until_71 (pCm_until_36 f105 f) f105 y1 (nI w) (nI t) (nI need) (nI (m + 1)) (nI s) (nI s) z I J ∧ R (fCm_until_71 (fCm_until_36 f105 f) f105 y1 (nI w) (nI t) (nI need) (nI (m + 1)) (nI s) (nI s) z I J) := by
        intro z hz
        unfold pCm_until_71 fCm_until_71 pCm_until_96 fCm_until_96
        rw [nI_clamp (n := s) (by omega), nI_i1]
        have h2 := cm_has (I := pm_u I 36 s z) (J := J) ht s256
        rw [hG s s256] at h2
        have hN1 : ∀ v, cN n m ib nx (pm_u I 36 s v) := fun v => cN_c hN (pm_u_n _ _ _ (by decide)) (pm_u_n _ _ _ (by decide)) (pm_u_n _ _ _ (by decide))
        have sQ : s ∉ Q := fun q => by have := ((hmem s).mp q).1; omega
        by_cases g : goal s = true
        · have e : ¬ fCm_has (nI t) (nI s) (pm_u I 36 s z) J = 0 := by rw [h2.2, if_pos g]; decide
          rw [if_neg e]
          generalize eI : pm_u (pm_u I 36 s z) 36 s (0 : Int32) = I1
          have ga : ∀ b, b ≠ 36 → I1 b = I b := fun b hb => by rw [← eI, pm_u_n _ _ _ hb, pm_u_n _ _ _ hb]
          have g36 : ∀ r, r < s + 1 → I1 36 r = nI (bas m need way goal r) := fun r hr => by
            rw [← eI]
            by_cases er : r = s
            · rw [er, pm_u_s]; unfold bas; rw [if_pos g]; rfl
            · rw [pm_u_j _ _ _ er, pm_u_j _ _ _ er]; exact h36 r (by omega)
          have en := cm_enq n256 (I := I1) (Q := Q) (by rw [ga 33 (by decide)]; exact h4) (fun j x hx => by rw [ga 35 (by decide)]; exact h35 j x hx) hnd (fun x hx => by have := ((hmem x).mp hx).1; omega) (show s < n by omega) sQ J
          have y := ih (s + 1) (fCm_enqueue (nI s) I1 J) (Q ++ [s]) (cN_c hN (by rw [en.2.1.1 3 (by decide) (by decide) (by decide), ga 3 (by decide)]) (by rw [en.2.1.1 25 (by decide) (by decide) (by decide), ga 25 (by decide)]) (by rw [en.2.1.1 26 (by decide) (by decide) (by decide), ga 26 (by decide)])) (by omega) (by omega) (fun r hr => by rw [en.2.2.1]; exact g36 r hr) en.2.2.2.1 en.2.2.2.2.1 en.2.2.2.2.2.1 (fun x => by
            rw [List.mem_append, List.mem_singleton, hmem x]
            constructor
            · rintro (q | q)
              · exact ⟨by omega, q.2⟩
              · exact ⟨by omega, by rw [q]; exact g⟩
            · intro q
              by_cases ex : x = s
              · exact Or.inr ex
              · exact Or.inl ⟨by omega, q.2⟩) (fun I' Q' k1 k2 k3 => nxt I' Q' (uI_t (uI_t ⟨fun b h1 h2 h3 => ga b h3, fun j _ => by rw [ga 33 (by decide)]⟩ en.2.1) k1) k2 k3)
          exact ⟨⟨vs, h2.1, fun q => absurd q e, fun _ => ⟨vs, en.1, y.1⟩⟩, y.2⟩
        · have e : fCm_has (nI t) (nI s) (pm_u I 36 s z) J = 0 := by rw [h2.2, if_neg g]
          rw [if_pos e]
          have y := ih (s + 1) (pm_u I 36 s z) Q (hN1 z) (by omega) (by omega) (fun r hr => by
            by_cases er : r = s
            · rw [er, pm_u_s, hz]; unfold bas; rw [if_neg g]
            · rw [pm_u_j _ _ _ er]; exact h36 r (by omega)) (by rw [pm_u_n _ _ _ (by decide)]; exact h4) (fun j x hx => by rw [pm_u_n _ _ _ (by decide)]; exact h35 j x hx) hnd (fun x => by
            rw [hmem x]
            constructor
            · exact fun q => ⟨by omega, q.2⟩
            · intro q
              have : x ≠ s := fun w => g (by rw [← w]; exact q.2)
              exact ⟨by omega, q.2⟩) (fun I' Q' k1 k2 k3 => nxt I' Q' (uI_t ⟨fun b h1 h2 h3 => pm_u_n _ _ _ h3, fun j _ => by rw [pm_u_n _ _ _ (by decide)]⟩ k1) k2 k3)
          exact ⟨⟨vs, h2.1, fun _ => y.1, fun q => absurd e q⟩, y.2⟩
      by_cases b : way s = true
      · have e : ¬ fCm_has (nI w) (nI s) I J = 0 := by rw [hh.2, if_pos b]; decide
        have z := key (nI need) (by rw [if_pos b])
        rw [if_neg e]
        exact ⟨⟨fun q => absurd q c', fun _ => ⟨hh.1, fun q => absurd q e, fun _ => z.1⟩⟩, z.2⟩
      · have e : fCm_has (nI w) (nI s) I J = 0 := by rw [hh.2, if_neg b]
        have z := key (nI (m + 1)) (by rw [if_neg b])
        rw [if_pos e]
        exact ⟨⟨fun q => absurd q c', fun _ => ⟨hh.1, fun _ => z.1, fun q => absurd e q⟩⟩, z.2⟩
theorem cm_unt {I : Mm} {J : Ml} (hN : cN n m ib nx I) (hI : cIn n m nx I) {w t : Nat} (hw : w + 4 ≤ 624) (ht : t + 4 ≤ 624) (hW : ∀ r, r < 256 → sB J w r = way r) (hG : ∀ r, r < 256 → sB J t r = goal r) (hg : ∀ s, goal s = true → s < n) (y1 : Int32) (hy : y1 = if a = true then 1 else 0) : pCm_until 257 257 y1 (nI w) (nI t) I J ∧ ∃ I' J', fCm_until 257 257 y1 (nI w) (nI t) I J = (I', J') ∧ uI I I' ∧ kF t J J' ∧ ∀ r, r < 256 → sB J' t r = unt n m nx a way goal r := by
  have m8 := cN_m hN
  have n256 := hN.2.1
  have e2 : I 25 2 + 1 = nI (m + 1) := by rw [hN.2.2.1, nI_1]
  have key : ∀ need : Nat, ((a = true → need = m) ∧ (a = false → need = 1)) → pCm_until_15 257 257 y1 (nI w) (nI t) (nI need) I J ∧ ∃ I' J', fCm_until_15 257 257 y1 (nI w) (nI t) (nI need) I J = (I', J') ∧ uI I I' ∧ kF t J J' ∧ ∀ r, r < 256 → sB J' t r = unt n m nx a way goal r := by
    intro need hneed
    have n1 : 1 ≤ need ∧ need ≤ m := by
      cases ha : a with
      | true => rw [hneed.1 ha]; omega
      | false => rw [hneed.2 ha]; omega
    have u0 : uI I (pm_u I 33 4 0) := ⟨fun b h1 _ _ => pm_u_n _ _ _ h1, fun j hj => pm_u_j _ _ _ hj⟩
    have z := u_36 (way := way) (goal := goal) n1 hw ht 257 y1 J hW hG (fun X => ∃ I' J', X = (I', J') ∧ uI I I' ∧ kF t J J' ∧ ∀ r, r < 256 → sB J' t r = unt n m nx a way goal r) 257 0 (pm_u I 33 4 0) [] (cN_c hN (pm_u_n _ _ _ (by decide)) (pm_u_n _ _ _ (by decide)) (pm_u_n _ _ _ (by decide))) (Nat.zero_le _) (by omega) (fun r hr => absurd hr (Nat.not_lt_zero _)) (by rw [pm_u_s]; rfl) (fun j x hx => by rw [List.getElem?_nil] at hx; cases hx) List.nodup_nil (fun x => ⟨fun q => absurd q List.not_mem_nil, fun q => absurd q.1 (Nat.not_lt_zero _)⟩) (fun I' Q' k1 k2 k3 => by
      have k0 := uI_t u0 k1
      have hN' : cN n m ib nx I' := cN_c hN (k0.1 3 (by decide) (by decide) (by decide)) (k0.1 25 (by decide) (by decide) (by decide)) (k0.1 26 (by decide) (by decide) (by decide))
      have hI' : cIn n m nx I' := cIn_c hI (k0.1 27 (by decide) (by decide) (by decide)) (k0.1 28 (by decide) (by decide) (by decide))
      have y := u_105 (a := a) hneed hg ht y1 (nI w) (nI need) (nI (m + 1)) 257 0 I' J Q' (fun _ => 0) hN' hI' k2 (fun s hs => by
        have : (fun x => decide (x ∈ Q'.take 0)) = fun _ => false := funext fun x => by rw [List.take_zero]; exact decide_eq_false List.not_mem_nil
        rw [this]
        exact (show ∀ m, cI nx (fun _ => false) s m = 0 from fun m => by
          induction m with
          | zero => rfl
          | succ m ih => rw [cI, ih]; rfl) m |>.symm) (fun r hr => by
        rw [hG r hr, List.take_zero]
        exact ⟨fun q => Or.inl q, fun q => by
          rcases q with q | q
          · exact q
          · cases q⟩) (fun h hh x hx => hh x (k2.2.2.2.2.1 x hx) (Or.inl (k3 x hx))) (Nat.zero_le _) (by omega)
      obtain ⟨w1, I2, J2, w2, w3, w4, w5⟩ := y
      exact ⟨w1, I2, J2, w2, uI_t k0 w3, w4, w5⟩)
    unfold pCm_until_15 fCm_until_15
    rw [e2]
    exact z
  unfold pCm_until fCm_until
  cases ha : a with
  | true =>
    have y0 : ¬ y1 = 0 := by rw [hy, ha]; decide
    have z := key m ⟨fun _ => rfl, fun q => by rw [ha] at q; cases q⟩
    rw [if_neg y0, hN.2.2.1]
    rw [ha] at z
    exact ⟨⟨fun q => absurd q y0, fun _ => z.1⟩, z.2⟩
  | false =>
    have y0 : y1 = 0 := by rw [hy, ha]; rfl
    have z := key 1 ⟨fun q => (by rw [ha] at q; cases q), fun _ => rfl⟩
    have e1 : nI 1 = (1 : Int32) := rfl
    rw [e1, ha] at z
    rw [if_pos y0]
    exact ⟨⟨fun _ => z.1, fun q => absurd y0 q⟩, z.2⟩
end
