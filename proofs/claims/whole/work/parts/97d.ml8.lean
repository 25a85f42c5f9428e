/-! MODEL'S LINES 8: all lines -/
section
variable {b : Nat → Nat} {L : Nat} {n : Nat}
theorem mL_f {i j : Nat} {u : Nat × NmT × Cd × Cd × List Nat × Nat × Nat × Nat × Nat} {N : Nat} {F : FT} {RB : List (Nat × Nat)} {D : List Itm} {SP : List Cd} {M M' : Mm} (h : mL b L (i, u) N F RB D SP M) (f : mfr M M') (hn : mN b L j M') : mL b L (j, u) N F RB D SP M' := by
  obtain ⟨co, Nm, CL, CF, Hn, rb, ib, sp, fi⟩ := u
  obtain ⟨h1, h2, h3, h4, h5, h6⟩ := h
  refine ⟨mT_f h1 f hn, ⟨by rw [f.2 23 (by decide)]; exact h2.1, by rw [f.2 24 (by decide)]; exact h2.2.1, by rw [f.2 25 (by decide)]; exact h2.2.2.1, by rw [f.2 26 (by decide)]; exact h2.2.2.2.1, by rw [f.2 27 (by decide)]; exact h2.2.2.2.2.1, by rw [f.2 28 (by decide)]; exact h2.2.2.2.2.2⟩, fun k x hx => ?_, ⟨h4.1, h4.2.1, fun r y hy => ?_⟩, ⟨h5.1, fun x hx => ?_⟩, h6.1, h6.2.1, fun g C hg => ?_⟩
  · rw [f.1 45 (by decide), f.1 46 (by decide), f.1 48 (by decide), f.1 49 (by decide)]; exact h3 k x hx
  · rw [f.1 46 (by decide), f.1 47 (by decide)]; exact h4.2.2 r y hy
  · obtain ⟨a0, a1, e, lo, a2, a3, a4⟩ := h5.2 x hx
    refine ⟨a0, a1, e, lo, Ev_c a2 (fun k _ _ => ⟨by rw [f.1 52 (by decide)], by rw [f.1 53 (by decide)], by rw [f.1 54 (by decide)], fun _ => ⟨by rw [f.1 55 (by decide)], by rw [f.1 56 (by decide)]⟩⟩) (Nat.le_refl _) (Nat.le_refl _), a3, ?_⟩
    rw [f.1 48 (by decide), f.1 50 (by decide)]; exact a4
  · rw [f.1 51 (by decide)]; exact h6.2.2 g C hg
def ML2 (b : Nat → Nat) (L n : Nat) (M : Mm) (r : LR) (q : Int32 × Int32 × Mm) : Prop := (r.1 = 0 → q.1 = 0 ∧ (∃ (N : Nat) (F : FT) (RB : List (Nat × Nat)) (D : List Itm) (SP : List Cd), mL b L r.2.2 N F RB D SP q.2.2 ∧ N ≤ r.2.2.1 ∧ F.length ≤ r.2.2.1) ∧ lW n r.2.2 ∧ mw M q.2.2) ∧ (r.1 ≠ 0 → q.1 = nI r.1 ∧ q.2.1 = nI (tF b L r.2.1) ∧ mw M q.2.2 ∧ r.1 < 9)
theorem ML2_f {M : Mm} {e w : Nat} {q : Int32 × Int32 × Mm} (he : e ≠ 0 ∧ e < 9) (h1 : q.1 = nI e) (h2 : q.2.1 = nI (tF b L w)) (h3 : mw M q.2.2) : ML2 b L n M (lf e w) q := ⟨fun h => absurd h he.1, fun _ => ⟨h1, h2, h3, he.2⟩⟩
theorem slG {m : Nat} {B : TB} {s : LSt} (h : B.1 s.1 ≠ 45) : sp_lines B (m + 1) s = if (sp_line B s).1 = 0 then sp_lines B m (sp_line B s).2.2 else sp_line B s := by rw [sp_lines.eq_2, if_neg h]
/-- behind a line: ; and the next one -/
theorem ml_end {m n' : Nat} {s : LSt} {M0 M : Mm} {pX : Prop} {q : Int32 × Int32 × Mm} (hE : bE (tB b L) n) (hW : lW n s) (hw : mw M0 M) (h45 : tK b L s.1 ≠ 45) (hm : 4001 ≤ m + 1 + s.1) (hn' : 4001 ≤ n' + 1 + s.1) (h : pX ∧ MLr b L n s M (sp_line (tB b L) s) q)
    (ih : ∀ (s : LSt) (N : Nat) (F : FT) (RB : List (Nat × Nat)) (D : List Itm) (SP : List Cd) (M : Mm), lW n s → mL b L s N F RB D SP M → N ≤ s.1 → F.length ≤ s.1 → 4001 ≤ m + s.1 → 4001 ≤ n' + s.1 → pMo_lines n' M ∧ ML2 b L n M (sp_lines (tB b L) m s) (fMo_lines n' M)) :
    (pX ∧ (q.1 = 0 → pMo_lines_92 (pMo_lines n') q.2.2)) ∧ ML2 b L n M0 (sp_lines (tB b L) (m + 1) s) (if q.1 = 0 then fMo_lines_92 (fMo_lines n') q.2.2 else (q.1, q.2.1, q.2.2)) := by
  have hn4 := hE.2.1
  have lw := lW_line hE hW
  rw [slG (show (tB b L).1 s.1 ≠ 45 from h45)]
  rcases h.2 with ⟨e, w, he, hr, h1, h2, h3⟩ | ⟨j, u, N', F', RB, D, SP, h1, h2, h3, hr, h4, h5, h6, h7⟩
  · rw [hr, if_neg (show ¬ (lf e w).1 = 0 from he.1)]
    exact mq1 h.1 (by rw [h1]; exact e9 he.1 he.2) (ML2_f he h1 h2 (mw_t hw h3))
  refine mq0 h.1 h1 ?_
  unfold pMo_lines_92 fMo_lines_92
  have T : mN b L j q.2.2 ∧ mBy q.2.2 b L := by obtain ⟨co, Nm, CL, CF, Hn, rb, ib, sp, fi⟩ := u; exact ⟨h4.1.1.2.1, h4.1.1.1⟩
  by_cases k0 : tK b L j = 0
  rotate_left
  · obtain ⟨x1, e, he, x2, x3, x4, x5⟩ := m_mf [] (v := 59) (s := 0) rfl (by decide) T.2 (by omega) (hE.2.2.1 _ h3) T.1 k0
    rw [hr, l_exf [] k0 x5, if_neg (show ¬ (lf e j).1 = 0 from he.1)]
    exact mq1 x1 (by rw [x2]; exact e9 he.1 he.2) (ML2_f he x2 x3 (mw_t hw (mw_t h7 x4)))
  obtain ⟨x1, M2, x2, x3, x4⟩ := m_ms (v := 59) (s := 0) rfl (by decide) T.2 (by omega) (hE.2.2.1 _ h3) T.1 k0
  rw [hr, l_exs k0] at lw
  have lw1 := (lw.1 rfl).1
  rw [hr, l_exs k0, if_pos (show ((0 : Nat), (0 : Nat), j + 1, u).1 = 0 from rfl), x2]
  refine mq0 x1 rfl ?_
  dsimp only
  unfold pMo_lines_98 fMo_lines_98
  have r := ih (j + 1, u) N' F' RB D SP M2 lw1 (mL_f h4 x4 (Or.inl x3)) (by show N' ≤ j + 1; omega) (by show F'.length ≤ j + 1; omega) (by show 4001 ≤ m + (j + 1); omega) (by show 4001 ≤ n' + (j + 1); omega)
  have mwa : mw M0 M2 := mw_t hw (mw_t h7 (mfr_w x4))
  exact ⟨r.1, fun z => ⟨(r.2.1 z).1, (r.2.1 z).2.1, (r.2.1 z).2.2.1, mw_t mwa (r.2.1 z).2.2.2⟩, fun z => ⟨(r.2.2 z).1, (r.2.2 z).2.1, mw_t mwa (r.2.2 z).2.2.1, (r.2.2 z).2.2.2⟩⟩
end
