/-! TOKENS 4: the class's signs; all tokens -/
theorem c_ch15 : ∀ j, j < 18 → ∀ (I : Mm) (J : Ml), pSg_charAt_15 (nI j) I J ∧ fSg_charAt_15 (nI j) I J = nI ([61, 61, 33, 61, 60, 61, 62, 61, 60, 60, 62, 62, 38, 38, 124, 124, 45, 62].getD j 0) := by
  intro j hj I J
  have e := (show ∀ j, j < 18 → fSg_charAt_15 (nI j) (fun _ _ => 0) (fun _ _ => 0) = nI ([61, 61, 33, 61, 60, 61, 62, 61, 60, 60, 62, 62, 38, 38, 124, 124, 45, 62].getD j 0) by decide +kernel) j hj
  have h9 := (show ∀ j, j < 18 → [61, 61, 33, 61, 60, 61, 62, 61, 60, 60, 62, 62, 38, 38, 124, 124, 45, 62].getD j 0 < 256 by decide) j hj
  have e' : fSg_charAt_15 (nI j) I J = nI ([61, 61, 33, 61, 60, 61, 62, 61, 60, 60, 62, 62, 38, 38, 124, 124, 45, 62].getD j 0) := e
  have en : narrow .char (.int (fSg_charAt_15 (nI j) I J)) = .int (fSg_charAt_15 (nI j) I J) := by rw [e']; exact nar_c h9
  exact ⟨⟨trivial, ⟨ckI hj (by decide), vp_in_nI hj (by decide), en⟩, en⟩, e'⟩
theorem c_ix (c : Nat) (hc : c < 256) (I : Mm) (J : Ml) : ∀ (n j : Nat) (l : List Nat), l = sgl.drop j → j + l.length = 20 → l.length < n → pSl_indexOfChar_16_7 n (nI c) 0 20 (nI c).toInt8.toInt32 (nI j) I J ∧ fSl_indexOfChar_16_7 n (nI c) 0 20 (nI c).toInt8.toInt32 (nI j) I J = (match fd1 c l j with | some k => nI k | none => -1) := by
  have ec : (nI c).toInt8.toInt32 = sb c := (show ∀ c, c < 256 → (nI c).toInt8.toInt32 = sb c by decide +kernel) c hc
  intro n
  induction n with
  | zero => intro j l _ _ h; omega
  | succ n ih =>
    intro j l hl hj hn
    rw [pSl_indexOfChar_16_7.eq_2, fSl_indexOfChar_16_7.eq_2]
    cases l with
    | nil =>
      have c2 : (20 : Int32) ≤ nI j := nI_le (a := 20) (b := j) (by simp only [List.length_nil] at hj; omega) (by simp only [List.length_nil] at hj; omega)
      rw [if_pos c2]
      exact ⟨⟨fun _ => trivial, fun q => absurd c2 q⟩, rfl⟩
    | cons x l =>
      simp only [List.length_cons] at hj hn
      have c2 : ¬ (20 : Int32) ≤ nI j := nI_ge (a := j) (b := 20) (by omega) (by decide)
      have hx : sgl.getD j 0 = x := by
        have := congrArg (fun l : List Nat => l.head?) hl
        simp only [List.head?_cons, List.head?_drop] at this
        rw [List.getD_eq_getElem?_getD, ← this]; rfl
      have hl2 : l = sgl.drop (j + 1) := by
        have := congrArg List.tail hl
        rw [List.tail_drop] at this
        exact this
      have eb : pk_B6.getD j 0 = sb x := by rw [← hx]; exact (show ∀ j, j < 20 → pk_B6.getD j 0 = sb (sgl.getD j 0) by decide +kernel) j (by omega)
      have hx9 : x < 256 := by rw [← hx]; exact (show ∀ j, j < 20 → sgl.getD j 0 < 256 by decide) j (by omega)
      have i2 := ih (j + 1) l hl2 (by omega) (by omega)
      rw [if_neg c2, nI_clamp (by omega), eb, ec, nI_i1]
      rw [ec] at i2
      unfold fd1
      have v := vp_in_nI (n := j) (N := 20) (by omega) (by decide)
      by_cases e : x = c
      · have e' : sb x = sb c := by rw [e]
        rw [if_pos e', if_pos e]
        exact ⟨⟨fun q => absurd q c2, fun _ => ⟨v, fun _ => trivial, fun q => absurd e' q⟩⟩, rfl⟩
      · have e' : ¬ sb x = sb c := fun q => e ((sb_inj hx9 hc).mp q)
        rw [if_neg e', if_neg e]
        exact ⟨⟨fun q => absurd q c2, fun _ => ⟨v, fun q => absurd q e', fun _ => i2.1⟩⟩, i2.2⟩
theorem c_idx (c : Nat) (hc : c < 256) (I : Mm) (J : Ml) : pSg_indexOf_16 (nI c) I J ∧ fSg_indexOf_16 (nI c) I J = (match fd1 c sgl 0 with | some k => nI k | none => -1) := by
  have x := c_ix c hc I J 21 0 sgl rfl rfl (by decide)
  rw [nI_0] at x
  have hce : pSl_canEncode (nI c) ∧ ¬ fSl_canEncode (nI c) = 0 := by
    have c0 : ¬ nI c < 0 := nI_pos (by omega)
    have c1 : ¬ (255 : Int32) < nI c := nI_nlt (a := 255) (b := c) (by omega) (by decide)
    unfold pSl_canEncode fSl_canEncode
    rw [if_neg c0, if_neg c1]
    exact ⟨⟨fun q => absurd q c0, fun _ => ⟨fun q => absurd q c1, fun _ => trivial⟩⟩, by decide⟩
  have a1 : (if (0 : Int32) < (0 : Int32) then (0 : Int32) else 0) = 0 := by decide
  have a2 : (if (20 : Int32) < fSg_length_16 I J then (20 : Int32) else fSg_length_16 I J) = 20 := (show (if (20 : Int32) < ((20 : Int32) >>> ((0 : Int32) &&& 31)) then (20 : Int32) else ((20 : Int32) >>> ((0 : Int32) &&& 31))) = 20 by decide)
  have a3 : (0 : Int32) < 20 := by decide
  unfold pSg_indexOf_16 fSg_indexOf_16 pSg_indexOf2_16 fSg_indexOf2_16 pSl_indexOf_16 fSl_indexOf_16 pSl_indexOfChar_16 fSl_indexOfChar_16
  rw [a1, a2, if_neg hce.2, if_pos a3]
  exact ⟨⟨⟨trivial, ⟨trivial, trivial⟩, ⟨hce.1, fun q => absurd q hce.2, fun _ => ⟨fun _ => ⟨x.1, trivial⟩, fun q => absurd a3 q⟩⟩, trivial⟩, trivial⟩, x.2⟩
section
variable {I : Mm} {J : Ml} {b : Nat → Nat} {L : Nat}
theorem c_sgl {c d : Nat} (hc : c < 256) (hd : d < 256) : ∀ (n j : Nat) (l : List (Nat × Nat)), l = dbl.drop j → j + l.length = 9 → l.length < n → pTk_scanSign_16 n (nI c) (nI d) (nI (2 * j)) I J ∧ fTk_scanSign_16 n (nI c) (nI d) (nI (2 * j)) I J = (match fd2 c d l (20 + j) with | some k => (nI k, pm_u I 17 6 (I 17 6 + 2)) | none => (nI (match fd1 c sgl 0 with | some k => k | none => 46), pm_u I 17 6 (I 17 6 + 1))) := by
  have ec : ((nI c).toUInt32 % 65536).toInt32 = nI c := (show ∀ c, c < 256 → ((nI c).toUInt32 % 65536).toInt32 = nI c by decide +kernel) c hc
  have el : ∀ (I : Mm) (J : Ml), fSg_length_15 I J = nI 18 := fun _ _ => (show (18 : Int32) >>> ((0 : Int32) &&& 31) = nI 18 by decide)
  have el2 : ∀ (I : Mm) (J : Ml), fSg_length_16 I J = nI 20 := fun _ _ => (show (20 : Int32) >>> ((0 : Int32) &&& 31) = nI 20 by decide)
  intro n
  induction n with
  | zero => intro j l _ _ h; omega
  | succ n ih =>
    intro j l hl hj hn
    have ix := c_idx c hc (pm_u I 17 6 (I 17 6 + 1)) J
    rw [pTk_scanSign_16.eq_2, fTk_scanSign_16.eq_2]
    unfold pTk_scanSign_69 fTk_scanSign_69
    rw [el, nI_1, ec]
    cases l with
    | nil =>
      simp only [List.length_nil] at hj
      have c2 : nI 18 ≤ nI (2 * j + 1) := nI_le (by omega) (by omega)
      rw [if_pos c2, ix.2]
      unfold fd2
      dsimp only
      cases h1 : fd1 c sgl 0 with
      | some k =>
        have hk := fd1_lt sgl 0 k h1
        have hk2 : sgl.length = 20 := rfl
        have c3 : (0 : Int32) ≤ nI k := nI_pos' (by omega)
        dsimp only
        rw [if_pos c3]
        exact ⟨⟨⟨trivial, trivial⟩, fun _ => ⟨ix.1, fun _ => trivial, fun _ => trivial⟩, fun q => absurd c2 q⟩, rfl⟩
      | none =>
        have c3 : ¬ (0 : Int32) ≤ -1 := by decide
        dsimp only
        rw [if_neg c3]
        exact ⟨⟨⟨trivial, trivial⟩, fun _ => ⟨ix.1, fun _ => trivial, fun _ => trivial⟩, fun q => absurd c2 q⟩, rfl⟩
    | cons x l =>
      simp only [List.length_cons] at hj hn
      have c2 : ¬ nI 18 ≤ nI (2 * j + 1) := nI_ge (by omega) (by omega)
      have hx : dbl.getD j (0, 0) = x := by
        have := congrArg (fun l : List (Nat × Nat) => l.head?) hl
        simp only [List.head?_cons, List.head?_drop] at this
        rw [List.getD_eq_getElem?_getD, ← this]; rfl
      have hl2 : l = dbl.drop (j + 1) := by
        have := congrArg List.tail hl
        rw [List.tail_drop] at this
        exact this
      have k1 := c_ch15 (2 * j) (by omega) I J
      have k2 := c_ch15 (2 * j + 1) (by omega) I J
      have hd2 := (show ∀ j, j < 9 → [61, 61, 33, 61, 60, 61, 62, 61, 60, 60, 62, 62, 38, 38, 124, 124, 45, 62].getD (2 * j) 0 = (dbl.getD j (0, 0)).1 ∧ [61, 61, 33, 61, 60, 61, 62, 61, 60, 60, 62, 62, 38, 38, 124, 124, 45, 62].getD (2 * j + 1) 0 = (dbl.getD j (0, 0)).2 ∧ (dbl.getD j (0, 0)).1 < 256 ∧ (dbl.getD j (0, 0)).2 < 256 by decide) j (by omega)
      rw [hd2.1, hx] at k1
      rw [hd2.2.1, hx] at k2
      rw [hx] at hd2
      have i2 := ih (j + 1) l hl2 (by omega) (by omega)
      have e2 : nI (2 * j) + Int32.ofInt 2 = nI (2 * (j + 1)) := by
        show nI (2 * j) + nI 2 = _
        rw [nI_add]; rfl
      have ed : nI 20 + nI (2 * j) / 2 = nI (20 + j) := by
        show nI 20 + nI (2 * j) / nI 2 = _
        rw [pk_div (by omega) (by decide) (by decide), nI_add, Nat.mul_div_cancel_left j (by decide)]
      rw [if_neg c2, k1.2, k2.2, e2, el2, ed]
      unfold fd2
      rw [show 20 + j + 1 = 20 + (j + 1) by omega]
      by_cases a : x.1 = c
      · have a' : nI x.1 = nI c := by rw [a]
        rw [if_pos a']
        by_cases a2 : x.2 = d
        · have a2' : nI x.2 = nI d := by rw [a2]
          rw [if_pos a2', if_pos ⟨a, a2⟩]
          exact ⟨⟨⟨trivial, trivial⟩, fun q => absurd q c2, fun _ => ⟨k1.1, fun _ => ⟨k2.1, fun _ => ⟨⟨trivial, trivial⟩, by decide, trivial⟩, fun q => absurd a2' q⟩, fun q => absurd a' q⟩⟩, rfl⟩
        · have a2' : ¬ nI x.2 = nI d := fun q => a2 ((nI_eq (by omega) (by omega)).mp q)
          rw [if_neg a2', if_neg (fun q => a2 q.2)]
          exact ⟨⟨⟨trivial, trivial⟩, fun q => absurd q c2, fun _ => ⟨k1.1, fun _ => ⟨k2.1, fun q => absurd q a2', fun _ => i2.1⟩, fun q => absurd a' q⟩⟩, i2.2⟩
      · have a' : ¬ nI x.1 = nI c := fun q => a ((nI_eq (by omega) (by omega)).mp q)
        rw [if_neg a', if_neg (fun q => a q.1)]
        exact ⟨⟨⟨trivial, trivial⟩, fun q => absurd q c2, fun _ => ⟨k1.1, fun q => absurd q a', fun _ => i2.1⟩⟩, i2.2⟩
theorem c_sign (h : cBy I b L) {p : Nat} (h6 : I 17 6 = nI p) (hp : p < L) : pTk_scanSign 10 (nI (b p)) I J ∧ fTk_scanSign 10 (nI (b p)) I J = (nI (sgn (b p) (if L ≤ p + 1 then 0 else b (p + 1))).1, pm_u I 17 6 (nI (p + (sgn (b p) (if L ≤ p + 1 then 0 else b (p + 1))).2))) := by
  have hL := h.2.1
  have hb := (h.2.2 p hp).2
  have ba : pTp_byteAt (I 17 6 + 1) I J ∧ fTp_byteAt (I 17 6 + 1) I J = nI (if L ≤ p + 1 then 0 else b (p + 1)) ∧ (if L ≤ p + 1 then 0 else b (p + 1)) < 256 := by
    rw [h6, nI_1]
    by_cases c : L ≤ p + 1
    · have x := cBA0 (J := J) h (p := p + 1) (by omega) (by omega)
      rw [if_pos c]; exact ⟨x.1, x.2.trans nI_0.symm, by decide⟩
    · have x := cBA (J := J) h (p := p + 1) (by omega)
      rw [if_neg c]; exact ⟨x.1, x.2, (h.2.2 (p + 1) (by omega)).2⟩
  unfold pTk_scanSign fTk_scanSign
  rw [ba.2.1]
  generalize (if L ≤ p + 1 then 0 else b (p + 1)) = d at ba
  have x := c_sgl (I := I) (J := J) hb ba.2.2 10 0 dbl rfl rfl (by decide)
  rw [show nI (2 * 0) = 0 from nI_0] at x
  refine ⟨⟨ba.1, x.1⟩, x.2.trans ?_⟩
  unfold sgn
  rw [Nat.add_zero, h6]
  cases fd2 (b p) d dbl 20 with
  | some k => show (nI k, pm_u I 17 6 (nI p + nI 2)) = _; rw [nI_add]
  | none =>
    cases fd1 (b p) sgl 0 with
    | some k => show (nI k, pm_u I 17 6 (nI p + 1)) = _; rw [nI_1]
    | none => show (nI 46, pm_u I 17 6 (nI p + 1)) = _; rw [nI_1]
theorem c_scan (h : cBy I b L) {p i : Nat} (hi : i ≤ 4000) (h6 : I 17 6 = nI p) (hp : p ≤ L) : pTk_scan (nI i) I J ∧ (fTk_scan (nI i) I J).1 = nI (tok b L i p).1 ∧ (fTk_scan (nI i) I J).2 17 6 = nI (p + (tok b L i p).2) ∧ (∀ j, j ≠ 6 → (fTk_scan (nI i) I J).2 17 j = I 17 j) ∧ (∀ a, a ≠ 17 → a ≠ 21 → (fTk_scan (nI i) I J).2 a = I a) ∧ (∀ j, j ≠ i → (fTk_scan (nI i) I J).2 21 j = I 21 j) ∧ ((tok b L i p).1 = 44 → (fTk_scan (nI i) I J).2 21 i = nI (val b p (tok b L i p).2)) := by
  have hL := h.2.1
  unfold pTk_scan fTk_scan tok
  rw [h.1, h6]
  by_cases c : L ≤ p
  · have c' : ¬ nI p < nI L := nI_nlt c (by omega)
    rw [if_neg c', if_pos c]
    exact ⟨⟨fun q => absurd q c', fun _ => trivial⟩, rfl, by rw [Nat.add_zero]; exact h6, fun _ _ => rfl, fun _ _ _ => rfl, fun _ _ => rfl, fun q => absurd q (by decide)⟩
  have c' : nI p < nI L := nI_lt (by omega) (by omega)
  rw [if_pos c', if_neg c]
  by_cases ci : 4000 ≤ i
  · have ci' : ¬ nI i < (4000 : Int32) := nI_nlt (a := i) (b := 4000) ci (by omega)
    rw [if_neg ci', if_pos ci]
    exact ⟨⟨fun _ => ⟨fun q => absurd q ci', fun _ => trivial⟩, fun q => absurd c' q⟩, rfl, by rw [Nat.add_zero]; exact h6, fun _ _ => rfl, fun _ _ _ => rfl, fun _ _ => rfl, fun q => absurd q (by decide)⟩
  have ci' : nI i < (4000 : Int32) := nI_lt (a := i) (b := 4000) (by omega) (by decide)
  have ba := cBA (J := J) h (p := p) (by omega)
  have hb := (h.2.2 p (by omega)).2
  have cl := cLet (b p) hb
  rw [if_pos ci', if_neg ci, ba.2]
  by_cases l1 : isL (b p) = true
  · have w := c_word (J := J) h h6 (by omega) l1
    have g1 := rn_ge isW b L 65537 p
    have n1 : ¬ fTk_isLetter (nI (b p)) = 0 := by rw [cl.1]; exact fun q => i10.mp q l1
    rw [if_neg n1, if_pos l1, w.2]
    dsimp only
    refine ⟨⟨fun _ => ⟨fun _ => ⟨ba.1, (pLD _).1, fun q => absurd q n1, fun _ => ⟨w.1, trivial⟩⟩, fun q => absurd ci' q⟩, fun q => absurd c' q⟩, rfl, ?_, fun j hj => pm_u_j _ _ _ hj, fun a a1 _ => pm_u_n _ _ _ a1, fun j hj => by rw [pm_u_n _ _ _ (by decide)], fun q => ?_⟩
    · rw [pm_u_s]
      show nI (rn isW b L 65537 p) = nI (p + (rn isW b L 65537 p - p))
      congr 1; omega
    · have z := wk_le b p (rn isW b L 65537 p - p)
      split at q
      · omega
      · omega
  have n1 : fTk_isLetter (nI (b p)) = 0 := by rw [cl.1]; exact i10.mpr l1
  rw [if_pos n1, if_neg l1]
  by_cases d1 : isD (b p) = true
  · have w := c_num (J := J) h (p := p) (i := i) (by omega) h6 (by omega)
    have g1 := rn_ge isD b L 65537 p
    have n2 : ¬ fTk_isDigit (nI (b p)) = 0 := by rw [cl.2.1]; exact fun q => i10.mp q d1
    unfold pTk_scan_63 fTk_scan_63
    rw [if_neg n2, if_pos d1, w.2]
    dsimp only
    refine ⟨⟨fun _ => ⟨fun _ => ⟨ba.1, (pLD _).1, fun _ => ⟨(pLD _).2.1, fun q => absurd q n2, fun _ => ⟨w.1, trivial⟩⟩, fun q => absurd n1 q⟩, fun q => absurd ci' q⟩, fun q => absurd c' q⟩, rfl, ?_, fun j hj => ?_, fun a a1 a2 => ?_, fun j hj => ?_, fun _ => ?_⟩
    · rw [pm_u_n _ _ _ (by decide), pm_u_s]
      show nI (rn isD b L 65537 p) = nI (p + (rn isD b L 65537 p - p))
      congr 1; omega
    · rw [pm_u_n _ _ _ (by decide), pm_u_j _ _ _ hj]
    · rw [pm_u_n _ _ _ a2, pm_u_n _ _ _ a1]
    · rw [pm_u_j _ _ _ hj, pm_u_n _ _ _ (by decide)]
    · rw [pm_u_s]
  have n2 : fTk_isDigit (nI (b p)) = 0 := by rw [cl.2.1]; exact i10.mpr d1
  have w := c_sign (J := J) h h6 (by omega)
  have s := sgn_sz (b p) (if L ≤ p + 1 then 0 else b (p + 1))
  rw [if_pos n2, if_neg d1, w.2]
  dsimp only
  refine ⟨⟨fun _ => ⟨fun _ => ⟨ba.1, (pLD _).1, fun _ => ⟨(pLD _).2.1, fun _ => ⟨w.1, trivial⟩, fun q => absurd n2 q⟩, fun q => absurd n1 q⟩, fun q => absurd ci' q⟩, fun q => absurd c' q⟩, rfl, pm_u_s _ _ _ _, fun j hj => pm_u_j _ _ _ hj, fun a a1 _ => pm_u_n _ _ _ a1, fun j hj => by rw [pm_u_n _ _ _ (by decide)], fun q => by omega⟩
end
