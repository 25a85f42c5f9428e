/-! MODEL WORKS OUT 9: what judge makes -/
section
variable {n m : Nat} {nx : Nat → Nat → Nat} {B : Nat → Value} {E : List (Nat × Nat)} {f at_ : Nat} {I : Mm}
def jR (n at_ : Nat) (I I' : Mm) (g : Se) : Prop := rw_ n I' at_ g ∧ ∀ a, a ≠ 60 → a ≠ 61 → a ≠ 62 → a ≠ at_ → I' a = I a
theorem mA_u {I : Mm} {s : Nat} {v : Int32} (h : mA n m nx I) (hat : 356 ≤ at_) : mA n m nx (pm_u I at_ s v) := mA_c h (pm_u_n _ _ _ (by omega)) (fun a h1 h2 => pm_u_n _ _ _ (by omega))
theorem mA_6 {I I' : Mm} (h : mA n m nx I) (g : ∀ a, a ≠ 60 → a ≠ 61 → a ≠ 62 → I' a = I a) : mA n m nx I' := mA_c h (g 40 (by decide) (by decide) (by decide)) (fun a h1 h2 => g a (by omega) (by omega) (by omega))
def J1 (n m : Nat) (nx : Nat → Nat → Nat) (f hw aa : Nat) (ga : Se) (I : Mm) : Prop := mA n m nx I ∧ I 57 f = nI hw ∧ rw_ n I aa ga
theorem J1_u {hw aa : Nat} {ga : Se} (hat : 356 ≤ at_) (hne : aa ≠ at_) : ∀ I s v, J1 n m nx f hw aa ga I → J1 n m nx f hw aa ga (pm_u I at_ s v) := fun I s v h => ⟨mA_u h.1 hat, by rw [pm_u_n _ _ _ (by omega)]; exact h.2.1, rw_c h.2.2 (pm_u_n _ _ _ hne)⟩
theorem J1_6 {hw aa : Nat} {ga : Se} (haa : 356 ≤ aa) {I I' : Mm} (h : J1 n m nx f hw aa ga I) (g : ∀ a, a ≠ 60 → a ≠ 61 → a ≠ 62 → I' a = I a) : J1 n m nx f hw aa ga I' := ⟨mA_6 h.1 g, by rw [g 57 (by decide) (by decide) (by decide)]; exact h.2.1, rw_c h.2.2 (g aa (by omega) (by omega) (by omega))⟩
/-- without a fixed point -/
theorem j_fin1 {hw : Nat} {JF : Mm → Prop} {va vb : Value} {g : Se} (hn : n ≤ 256) (hf : f < 4200) (hat : 356 ≤ at_) (hJ : ∀ I s v, JF I → JF (pm_u I at_ s v)) (hA : ∀ I, JF I → fMo_all I = nI n ∧ I 57 f = nI hw) (hh : hw < 6 ∨ hw = 12 ∨ hw = 13) (hst : JS n B E f at_ (B f) va vb JF g) (hI : JF I) (hb : ∀ j, j < 256 → ∃ c, I at_ j = b2 c) : pMo_judge_107 257 (nI f) (B f) va vb 0 I B E ∧ ∃ I', fMo_judge_107 257 (nI f) (B f) va vb 0 I B E = I' ∧ jR n at_ I I' g := by
  have z := j_loop (g := g) (by omega) hJ hst I (fun X => ∃ I', X = I' ∧ jR n at_ I I' g) (fun k I' g1 g2 g3 => j_end k hn hf (hA I' g1).1 (hA I' g1).2 hh (fun X => ∃ I', X = I' ∧ jR n at_ I I' g) ⟨I', rfl, g2, g3⟩) 257 0 I (Nat.zero_le _) (by omega) hI hb (fun t ht => absurd ht (Nat.not_lt_zero _)) (fun _ _ _ _ _ => rfl)
  exact z
/-- with one -/
theorem j_fin2 {hw : Nat} {JF : Mm → Prop} {va vb : Value} {al pol : Bool} {way goal : Se} (hn : n ≤ 256) (hnx : ∀ s i, s < n → i < m → nx s i < n) (hf : f < 4200) (hat : 356 ≤ at_) (hJ : ∀ I s v, JF I → JF (pm_u I at_ s v)) (hA : ∀ I, JF I → fMo_all I = nI n ∧ I 57 f = nI hw) (hh : 6 ≤ hw ∧ hw ≤ 11) (ht : rv E (B f) at_) (ha : pv va) (hvb : pv vb) (hst : JS n B E f at_ (B f) va vb JF (fun _ => pol)) (hFX : FX n m nx B E al pol way goal f at_ (B f) va vb JF) (hI : JF I) (hb : ∀ j, j < 256 → ∃ c, I at_ j = b2 c) : pMo_judge_107 257 (nI f) (B f) va vb 0 I B E ∧ ∃ I', fMo_judge_107 257 (nI f) (B f) va vb 0 I B E = I' ∧ jR n at_ I I' (rX pol (unt n m nx al way goal)) := by
  have z := j_loop (g := fun _ => pol) (by omega) hJ hst I (fun X => ∃ I', X = I' ∧ jR n at_ I I' (rX pol (unt n m nx al way goal))) (fun k I' g1 g2 g3 => by
    have fx := fx_all hn hnx (fun I hI => (hA I hI).1) hJ ht ha hvb hFX g1 (rw_g g2 (fun s hs => by cases pol <;> rfl))
    refine j_endF k hn hf (hA I' g1).1 (hA I' g1).2 hh (rv_pv ht).1 ha hvb (fun X => ∃ I', X = I' ∧ jR n at_ I I' (rX pol (unt n m nx al way goal))) ⟨fx.1, ?_⟩
    obtain ⟨I2, w1, w2, w3, w4⟩ := fx.2
    exact ⟨I2, w1, w3, fun a h1 h2 h3 h4 => by rw [w4 a h4]; exact g3 a h1 h2 h3 h4⟩) 257 0 I (Nat.zero_le _) (by omega) hI hb (fun t ht => absurd ht (Nat.not_lt_zero _)) (fun _ _ _ _ _ => rfl)
  exact z
theorem ex_ax {ga : Se} (hnx : ∀ s i, s < n → i < m → nx s i < n) {s : Nat} (hs : s < n) : notF n (axF n m nx (notF n ga)) s = true ↔ pre m nx false ga s := by
  unfold notF
  rw [Bool.and_eq_true, decide_eq_true_iff]
  constructor
  · intro q
    refine ⟨fun w => absurd w (by decide), fun _ => Classical.byContradiction fun w => ?_⟩
    have : axF n m nx (fun s => decide (s < n) && !ga s) s = true := axF_i.mpr ⟨hs, fun i hi => by
      have hx := hnx s i hs hi
      cases hg : ga (nx s i) with
      | true => exact absurd ⟨i, hi, hg⟩ w
      | false => simp [hx, hg]⟩
    rw [this] at q
    exact absurd q.2 (by decide)
  · intro q
    obtain ⟨i, hi, hg⟩ := q.2 rfl
    refine ⟨hs, ?_⟩
    cases ha : axF n m nx (fun s => decide (s < n) && !ga s) s with
    | false => rfl
    | true =>
      have := (axF_i.mp ha).2 i hi
      simp [hg] at this
set_option maxHeartbeats 2000000 in
theorem m_op1 {hw o one aa : Nat} {ga : Se} (h : mA n m nx I) (hf : f < 4200) (h57 : I 57 f = nI hw) (h58 : I 58 f = nI one) (h1 : one < 4200) (ho : (hw, o) ∈ op1) (ht : rv E (B f) at_) (hat : 356 ≤ at_) (hb : ∀ j, j < 256 → ∃ c, I at_ j = b2 c) (ha : rv E (B one) aa) (haa : 356 ≤ aa) (hne : aa ≠ at_) (ra : rw_ n I aa ga) : pMo_judge 257 (nI f) I B E ∧ ∃ I', fMo_judge 257 (nI f) I B E = I' ∧ jR n at_ I I' (opF n m nx o ga) := by
  have n256 := h.2.2.1
  have hnx : ∀ s i, s < n → i < m → nx s i < n := fun s i hs hi => (h.2.2.2.2 s i hs hi).2
  have pn : pv .null := Or.inl rfl
  have hI : J1 n m nx f hw aa ga I := ⟨h, h57, ra⟩
  have hA : ∀ I, J1 n m nx f hw aa ga I → fMo_all I = nI n ∧ I 57 f = nI hw := fun I hI => ⟨hI.1.1, hI.2.1⟩
  have hJ := J1_u (n := n) (m := m) (nx := nx) (f := f) (hw := hw) (ga := ga) hat hne
  have fin : ∀ g : Se, (∀ s, s < n → g s = opF n m nx o ga s) → (hw = 0 ∨ hw = 4 ∨ hw = 5 ∨ hw = 8 ∨ hw = 9 ∨ hw = 10 ∨ hw = 11) → (pMo_judge_107 257 (nI f) (B f) (B one) .null 0 I B E ∧ ∃ I', fMo_judge_107 257 (nI f) (B f) (B one) .null 0 I B E = I' ∧ jR n at_ I I' g) → pMo_judge 257 (nI f) I B E ∧ ∃ I', fMo_judge 257 (nI f) I B E = I' ∧ jR n at_ I I' (opF n m nx o ga) := by
    intro g hg hh z
    refine j_g2 hf h57 h58 h1 hh (rv_pv ht).1 (rv_pv ha).1 (fun X => ∃ I', X = I' ∧ jR n at_ I I' (opF n m nx o ga)) ⟨z.1, ?_⟩
    obtain ⟨I', w1, w2, w3⟩ := z.2
    exact ⟨I', w1, rw_g w2 hg, w3⟩
  unfold op1 at ho
  simp only [List.mem_cons, Prod.mk.injEq, List.not_mem_nil, or_false] at ho
  rcases ho with ⟨rfl, rfl⟩ | ⟨rfl, rfl⟩ | ⟨rfl, rfl⟩ | ⟨rfl, rfl⟩ | ⟨rfl, rfl⟩ | ⟨rfl, rfl⟩ | ⟨rfl, rfl⟩
  · refine fin (fun s => !ga s) (fun s hs => by show _ = notF n ga s; unfold notF; simp [hs]) (by omega) (j_fin1 n256 hf hat hJ hA (by omega) (fun k s Q I hI hs nxt => j_0 hI.1 hf hI.2.1 ht ha hI.2.2 pn hs (nxt I hI (fun _ _ _ _ => rfl))) hI hb)
  · refine fin (notF n (axF n m nx (notF n ga))) (fun s hs => rfl) (by omega) (j_fin1 n256 hf hat hJ hA (by omega) (fun k s Q I hI hs nxt => j_4 hI.1 hf hI.2.1 ht ha hI.2.2 pn hs (fun c hc => ?_)) hI hb)
    have e : c = notF n (axF n m nx (notF n ga)) s := by rw [Bool.eq_iff_iff, hc, ex_ax hnx hs]
    rw [e]; exact nxt I hI (fun _ _ _ _ => rfl)
  · refine fin (axF n m nx ga) (fun s hs => rfl) (by omega) (j_fin1 n256 hf hat hJ hA (by omega) (fun k s Q I hI hs nxt => j_5 hI.1 hf hI.2.1 ht ha hI.2.2 pn hs (fun c hc => ?_)) hI hb)
    have e : c = axF n m nx ga s := by
      rw [Bool.eq_iff_iff, hc, axF_i]
      exact ⟨fun q => ⟨hs, q.1 rfl⟩, fun q => ⟨fun _ => q.2, fun w => absurd w (by decide)⟩⟩
    rw [e]; exact nxt I hI (fun _ _ _ _ => rfl)
  · exact fin (rX false (unt n m nx false (ev n) ga)) (fun s hs => rfl) (by omega) (j_fin2 n256 hnx hf hat hJ hA (by omega) ht (rv_pv ha).1 pn (fun k s Q I hI hs nxt => j_8 hI.1 hf hI.2.1 ht pn hs (nxt I hI (fun _ _ _ _ => rfl))) (fun q3 r3 k s y5 Q x I hI hr hs nxt => fx_8 hI.1 hf hI.2.1 ht ha hr hI.2.2 hs nxt) hI hb)
  · exact fin (rX false (unt n m nx true (ev n) ga)) (fun s hs => rfl) (by omega) (j_fin2 n256 hnx hf hat hJ hA (by omega) ht (rv_pv ha).1 pn (fun k s Q I hI hs nxt => j_9 hI.1 hf hI.2.1 ht pn hs (nxt I hI (fun _ _ _ _ => rfl))) (fun q3 r3 k s y5 Q x I hI hr hs nxt => fx_9 hI.1 hf hI.2.1 ht ha hr hI.2.2 hs nxt) hI hb)
  · exact fin (rX true (unt n m nx true (ev n) (notF n ga))) (fun s hs => by show (!(unt n m nx true (ev n) (notF n ga) s)) = notF n (unt n m nx true (ev n) (notF n ga)) s; unfold notF; simp [hs]) (by omega) (j_fin2 n256 hnx hf hat hJ hA (by omega) ht (rv_pv ha).1 pn (fun k s Q I hI hs nxt => j_10 hI.1 hf hI.2.1 ht pn hs (nxt I hI (fun _ _ _ _ => rfl))) (fun q3 r3 k s y5 Q x I hI hr hs nxt => fx_10 hI.1 hf hI.2.1 ht ha hr hI.2.2 hs nxt) hI hb)
  · exact fin (rX true (unt n m nx false (ev n) (notF n ga))) (fun s hs => by show (!(unt n m nx false (ev n) (notF n ga) s)) = notF n (unt n m nx false (ev n) (notF n ga)) s; unfold notF; simp [hs]) (by omega) (j_fin2 n256 hnx hf hat hJ hA (by omega) ht (rv_pv ha).1 pn (fun k s Q I hI hs nxt => j_11 hI.1 hf hI.2.1 ht pn hs (nxt I hI (fun _ _ _ _ => rfl))) (fun q3 r3 k s y5 Q x I hI hr hs nxt => fx_11 hI.1 hf hI.2.1 ht ha hr hI.2.2 hs nxt) hI hb)
def J2 (n m : Nat) (nx : Nat → Nat → Nat) (f hw aa ab : Nat) (ga gb : Se) (I : Mm) : Prop := mA n m nx I ∧ I 57 f = nI hw ∧ rw_ n I aa ga ∧ rw_ n I ab gb
set_option maxHeartbeats 2000000 in
theorem m_op2 {hw o one two aa ab : Nat} {ga gb : Se} (h : mA n m nx I) (hf : f < 4200) (h57 : I 57 f = nI hw) (h58 : I 58 f = nI one) (h59 : I 59 f = nI two) (h1 : one < 4200) (h2 : two < 4200) (ho : (hw, o) ∈ op2) (ht : rv E (B f) at_) (hat : 356 ≤ at_) (hb : ∀ j, j < 256 → ∃ c, I at_ j = b2 c) (ha : rv E (B one) aa) (haa : 356 ≤ aa) (hne : aa ≠ at_) (ra : rw_ n I aa ga) (hbb : rv E (B two) ab) (hab : 356 ≤ ab) (hne2 : ab ≠ at_) (rb : rw_ n I ab gb) : pMo_judge 257 (nI f) I B E ∧ ∃ I', fMo_judge 257 (nI f) I B E = I' ∧ jR n at_ I I' (op2F n m nx o ga gb) := by
  have n256 := h.2.2.1
  have hnx : ∀ s i, s < n → i < m → nx s i < n := fun s i hs hi => (h.2.2.2.2 s i hs hi).2
  have hI : J2 n m nx f hw aa ab ga gb I := ⟨h, h57, ra, rb⟩
  have hA : ∀ I, J2 n m nx f hw aa ab ga gb I → fMo_all I = nI n ∧ I 57 f = nI hw := fun I hI => ⟨hI.1.1, hI.2.1⟩
  have hJ : ∀ I s v, J2 n m nx f hw aa ab ga gb I → J2 n m nx f hw aa ab ga gb (pm_u I at_ s v) := fun I s v h => ⟨mA_u h.1 hat, by rw [pm_u_n _ _ _ (by omega)]; exact h.2.1, rw_c h.2.2.1 (pm_u_n _ _ _ hne), rw_c h.2.2.2 (pm_u_n _ _ _ hne2)⟩
  have fin : ∀ g : Se, (∀ s, s < n → g s = op2F n m nx o ga gb s) → (hw = 1 ∨ hw = 2 ∨ hw = 3 ∨ hw = 6 ∨ hw = 7) → (pMo_judge_107 257 (nI f) (B f) (B one) (B two) 0 I B E ∧ ∃ I', fMo_judge_107 257 (nI f) (B f) (B one) (B two) 0 I B E = I' ∧ jR n at_ I I' g) → pMo_judge 257 (nI f) I B E ∧ ∃ I', fMo_judge 257 (nI f) I B E = I' ∧ jR n at_ I I' (op2F n m nx o ga gb) := by
    intro g hg hh z
    refine j_g3 hf h57 h58 h59 h1 h2 hh (rv_pv ht).1 (rv_pv ha).1 (rv_pv hbb).1 (fun X => ∃ I', X = I' ∧ jR n at_ I I' (op2F n m nx o ga gb)) ⟨z.1, ?_⟩
    obtain ⟨I', w1, w2, w3⟩ := z.2
    exact ⟨I', w1, rw_g w2 hg, w3⟩
  unfold op2 at ho
  simp only [List.mem_cons, Prod.mk.injEq, List.not_mem_nil, or_false] at ho
  rcases ho with ⟨rfl, rfl⟩ | ⟨rfl, rfl⟩ | ⟨rfl, rfl⟩ | ⟨rfl, rfl⟩ | ⟨rfl, rfl⟩
  · exact fin (fun s => ga s && gb s) (fun s hs => rfl) (by omega) (j_fin1 n256 hf hat hJ hA (by omega) (fun k s Q I hI hs nxt => j_1 hI.1 hf hI.2.1 ht ha hbb hI.2.2.1 hI.2.2.2 hs (nxt I hI (fun _ _ _ _ => rfl))) hI hb)
  · exact fin (fun s => ga s || gb s) (fun s hs => rfl) (by omega) (j_fin1 n256 hf hat hJ hA (by omega) (fun k s Q I hI hs nxt => j_2 hI.1 hf hI.2.1 ht ha hbb hI.2.2.1 hI.2.2.2 hs (nxt I hI (fun _ _ _ _ => rfl))) hI hb)
  · exact fin (fun s => !ga s || gb s) (fun s hs => by show (!ga s || gb s) = ((decide (s < n) && !ga s) || gb s); simp [hs]) (by omega) (j_fin1 n256 hf hat hJ hA (by omega) (fun k s Q I hI hs nxt => j_3 hI.1 hf hI.2.1 ht ha hbb hI.2.2.1 hI.2.2.2 hs (nxt I hI (fun _ _ _ _ => rfl))) hI hb)
  · exact fin (rX false (unt n m nx false ga gb)) (fun s hs => rfl) (by omega) (j_fin2 n256 hnx hf hat hJ hA (by omega) ht (rv_pv ha).1 (rv_pv hbb).1 (fun k s Q I hI hs nxt => j_6 hI.1 hf hI.2.1 ht (rv_pv hbb).1 hs (nxt I hI (fun _ _ _ _ => rfl))) (fun q3 r3 k s y5 Q x I hI hr hs nxt => fx_6 hI.1 hf hI.2.1 ht ha hbb hr hI.2.2.1 hI.2.2.2 hs nxt) hI hb)
  · exact fin (rX false (unt n m nx true ga gb)) (fun s hs => rfl) (by omega) (j_fin2 n256 hnx hf hat hJ hA (by omega) ht (rv_pv ha).1 (rv_pv hbb).1 (fun k s Q I hI hs nxt => j_7 hI.1 hf hI.2.1 ht (rv_pv hbb).1 hs (nxt I hI (fun _ _ _ _ => rfl))) (fun q3 r3 k s y5 Q x I hI hr hs nxt => fx_7 hI.1 hf hI.2.1 ht ha hbb hr hI.2.2.1 hI.2.2.2 hs nxt) hI hb)
def J3 (n m : Nat) (nx : Nat → Nat → Nat) (f one : Nat) (gs : Se) (I : Mm) : Prop := mA n m nx I ∧ I 57 f = nI 13 ∧ I 58 f = nI one ∧ rw_ n I (323 + one) gs
theorem m_13 {one : Nat} {gs : Se} (h : mA n m nx I) (hf : f < 4200) (h57 : I 57 f = nI 13) (h58 : I 58 f = nI one) (h30 : one < 30) (ht : rv E (B f) at_) (hat : 356 ≤ at_) (hb : ∀ j, j < 256 → ∃ c, I at_ j = b2 c) (rs : rw_ n I (323 + one) gs) : pMo_judge 257 (nI f) I B E ∧ ∃ I', fMo_judge 257 (nI f) I B E = I' ∧ jR n at_ I I' gs := by
  have n256 := h.2.2.1
  have pn : pv .null := Or.inl rfl
  have hI : J3 n m nx f one gs I := ⟨h, h57, h58, rs⟩
  have z := j_fin1 (hw := 13) (va := .null) (vb := .null) (g := gs) (B := B) (E := E) n256 hf hat (JF := J3 n m nx f one gs) (fun I s v h => ⟨mA_u h.1 hat, by rw [pm_u_n _ _ _ (by omega)]; exact h.2.1, by rw [pm_u_n _ _ _ (by omega)]; exact h.2.2.1, rw_c h.2.2.2 (pm_u_n _ _ _ (by omega))⟩) (fun I hI => ⟨hI.1.1, hI.2.1⟩) (by omega) (fun k s Q I hI hs nxt => j_13 hI.1 hf hI.2.1 hI.2.2.1 h30 hI.2.2.2 ht pn hs (nxt I hI (fun _ _ _ _ => rfl))) hI hb
  exact j_g1 hf h57 (Or.inr rfl) (rv_pv ht).1 (fun X => ∃ I', X = I' ∧ jR n at_ I I' gs) z
end
theorem m_12 {Nm : NmT} {rb ib : Nat} {Hn : List Nat} {D : List Itm} {B : Nat → Value} {E : List (Nat × Nat)} {f at_ e lo : Nat} {C : Cd} {I : Mm} (hC : mC Nm rb ib Hn D I) (h : mA (2 ^ rb) (2 ^ ib) (aN Nm rb ib D) I) (hf : f < 4200) (h57 : I 57 f = nI 12) (h58 : I 58 f = nI e) (hE : Ev I 600 lo e C) (hN : ∀ k, (43, k) ∈ C → k < Nm.length ∧ kd Nm k ≠ 33) (ht : rv E (B f) at_) (hat : 356 ≤ at_) (hb : ∀ j, j < 256 → ∃ c, I at_ j = b2 c) : pMo_judge 257 (nI f) I B E ∧ ∃ I', fMo_judge 257 (nI f) I B E = I' ∧ jR (2 ^ rb) at_ I I' (tsF (2 ^ rb) (2 ^ ib) (fun c => [(run (aE Nm rb ib D c) C []).headD 0#8])) := by
  have n256 := h.2.2.1
  have m8 := h.2.2.2.1
  have pn : pv .null := Or.inl rfl
  have z := j_fin1 (hw := 12) (va := .null) (vb := .null) (g := tsF (2 ^ rb) (2 ^ ib) (fun c => [(run (aE Nm rb ib D c) C []).headD 0#8])) (B := B) (E := E) (I := I) n256 hf hat (JF := fun I => mC Nm rb ib Hn D I ∧ mA (2 ^ rb) (2 ^ ib) (aN Nm rb ib D) I ∧ I 57 f = nI 12 ∧ I 58 f = nI e ∧ Ev I 600 lo e C) (fun I s v h => ⟨mC_x h.1 (fun a h1 h2 => pm_u_n _ _ _ (by omega)) (fun j _ _ => by rw [pm_u_n _ _ _ (by omega)]), mA_u h.2.1 hat, by rw [pm_u_n _ _ _ (by omega)]; exact h.2.2.1, by rw [pm_u_n _ _ _ (by omega)]; exact h.2.2.2.1, Ev_c h.2.2.2.2 (mX_ag (fun a h1 h2 => pm_u_n _ _ _ (by omega)) lo e) (Nat.le_refl _) (Nat.le_refl _)⟩) (fun I hI => ⟨hI.2.1.1, hI.2.2.1⟩) (by omega) (fun k s Q I hI hs nxt => by
    obtain ⟨w1, c, I1, w2, w3, w4⟩ := m_alw hs hN hI.2.2.2.2.2.1 9 0 I hI.1 hI.2.2.2.2 (Nat.zero_le _) (by omega)
    have w1' : pMo_always 9 (nI e) (nI s) I := w1
    have w2' : fMo_always 9 (nI e) (nI s) I = (b2 c, I1) := w2
    refine j_12 hI.2.1 hf hI.2.2.1 hI.2.2.2.1 ht pn hs c I1 w1' w2' ?_
    have ec : c = tsF (2 ^ rb) (2 ^ ib) (fun c => [(run (aE Nm rb ib D c) C []).headD 0#8]) s := by
      rw [Bool.eq_iff_iff, w4, tsF_i]
      constructor
      · intro q
        refine ⟨hs, fun i hi => ?_⟩
        show (run (aE Nm rb ib D (s * 2 ^ ib + i)) C []).headD 0#8 ≠ 0#8
        rw [(aE_c (Nm := Nm) (rb := rb) (D := D) (s := s) hi).1]
        exact q i (Nat.zero_le _) hi
      · intro q j _ hj
        have := q.2 j hj
        have e1 : (run (aE Nm rb ib D (s * 2 ^ ib + j)) C []).headD 0#8 ≠ 0#8 := this
        rw [(aE_c (Nm := Nm) (rb := rb) (D := D) (s := s) hj).1] at e1
        exact e1
    rw [ec]
    exact nxt I1 ⟨m6_C hI.1 w3, mA_6 hI.2.1 w3, by rw [w3 57 (by decide) (by decide) (by decide)]; exact hI.2.2.1, by rw [w3 58 (by decide) (by decide) (by decide)]; exact hI.2.2.2.1, Ev_c hI.2.2.2.2 (mX_ag (fun a h1 h2 => w3 a (by omega) (by omega) (by omega)) lo e) (Nat.le_refl _) (Nat.le_refl _)⟩ w3) ⟨hC, h, h57, h58, hE⟩ hb
  exact j_g1 hf h57 (Or.inl rfl) (rv_pv ht).1 (fun X => ∃ I', X = I' ∧ jR (2 ^ rb) at_ I I' (tsF (2 ^ rb) (2 ^ ib) (fun c => [(run (aE Nm rb ib D c) C []).headD 0#8]))) z
