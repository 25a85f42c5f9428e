/-! MODEL'S TOKENS 4: reserved words, numbers, names -/
section
variable {b : Nat → Nat} {L : Nat}
theorem m_reserved {M : Mm} {i : Nat} (hB : mBy M b L) (h : mQ b L i M) : pMo_reserved M ∧ fMo_reserved M = (0, 0, if 29 ≤ tK b L i ∧ tK b L i ≤ 42 then 1 else 0, M) := by
  have ys : ∀ k, 29 ≤ k → k ≤ 42 → tK b L i = k → pMo_reserved_126 M ∧ fMo_reserved_126 M = (0, 0, if 29 ≤ tK b L i ∧ tK b L i ≤ 42 then (1 : Int32) else 0, M) := by
    intro k h1 h2 h3
    unfold pMo_reserved_126 fMo_reserved_126
    rw [if_pos (by omega)]
    exact ⟨trivial, rfl⟩
  have x17 := m_is_17 hB h
  unfold pMo_reserved fMo_reserved
  refine mq0 (Q := fun r => r = (0, 0, if 29 ≤ tK b L i ∧ tK b L i ≤ 42 then (1 : Int32) else 0, M)) x17.1 (by rw [x17.2]) ?_
  rw [x17.2]
  dsimp only
  unfold pMo_reserved_6 fMo_reserved_6
  by_cases k29 : tK b L i = 29
  · rw [if_pos k29]
    exact itn (Q := fun r => r = (0, 0, if 29 ≤ tK b L i ∧ tK b L i ≤ 42 then (1 : Int32) else 0, M)) (by decide) (ys 29 (by decide) (by decide) k29)
  rw [if_neg k29]
  have x18 := m_is_18 hB h
  refine itp (Q := fun r => r = (0, 0, if 29 ≤ tK b L i ∧ tK b L i ≤ 42 then (1 : Int32) else 0, M)) rfl ?_
  refine mq0 (Q := fun r => r = (0, 0, if 29 ≤ tK b L i ∧ tK b L i ≤ 42 then (1 : Int32) else 0, M)) x18.1 (by rw [x18.2]) ?_
  rw [x18.2]
  dsimp only
  unfold pMo_reserved_15 fMo_reserved_15
  by_cases k30 : tK b L i = 30
  · rw [if_pos k30]
    exact itn (Q := fun r => r = (0, 0, if 29 ≤ tK b L i ∧ tK b L i ≤ 42 then (1 : Int32) else 0, M)) (by decide) (ys 30 (by decide) (by decide) k30)
  rw [if_neg k30]
  have x19 := m_is_19 hB h
  refine itp (Q := fun r => r = (0, 0, if 29 ≤ tK b L i ∧ tK b L i ≤ 42 then (1 : Int32) else 0, M)) rfl ?_
  refine mq0 (Q := fun r => r = (0, 0, if 29 ≤ tK b L i ∧ tK b L i ≤ 42 then (1 : Int32) else 0, M)) x19.1 (by rw [x19.2]) ?_
  rw [x19.2]
  dsimp only
  unfold pMo_reserved_24 fMo_reserved_24
  by_cases k31 : tK b L i = 31
  · rw [if_pos k31]
    exact itn (Q := fun r => r = (0, 0, if 29 ≤ tK b L i ∧ tK b L i ≤ 42 then (1 : Int32) else 0, M)) (by decide) (ys 31 (by decide) (by decide) k31)
  rw [if_neg k31]
  have x20 := m_is_20 hB h
  refine itp (Q := fun r => r = (0, 0, if 29 ≤ tK b L i ∧ tK b L i ≤ 42 then (1 : Int32) else 0, M)) rfl ?_
  refine mq0 (Q := fun r => r = (0, 0, if 29 ≤ tK b L i ∧ tK b L i ≤ 42 then (1 : Int32) else 0, M)) x20.1 (by rw [x20.2]) ?_
  rw [x20.2]
  dsimp only
  unfold pMo_reserved_33 fMo_reserved_33
  by_cases k32 : tK b L i = 32
  · rw [if_pos k32]
    exact itn (Q := fun r => r = (0, 0, if 29 ≤ tK b L i ∧ tK b L i ≤ 42 then (1 : Int32) else 0, M)) (by decide) (ys 32 (by decide) (by decide) k32)
  rw [if_neg k32]
  have x21 := m_is_21 hB h
  refine itp (Q := fun r => r = (0, 0, if 29 ≤ tK b L i ∧ tK b L i ≤ 42 then (1 : Int32) else 0, M)) rfl ?_
  refine mq0 (Q := fun r => r = (0, 0, if 29 ≤ tK b L i ∧ tK b L i ≤ 42 then (1 : Int32) else 0, M)) x21.1 (by rw [x21.2]) ?_
  rw [x21.2]
  dsimp only
  unfold pMo_reserved_42 fMo_reserved_42
  by_cases k33 : tK b L i = 33
  · rw [if_pos k33]
    exact itn (Q := fun r => r = (0, 0, if 29 ≤ tK b L i ∧ tK b L i ≤ 42 then (1 : Int32) else 0, M)) (by decide) (ys 33 (by decide) (by decide) k33)
  rw [if_neg k33]
  have x22 := m_is_22 hB h
  refine itp (Q := fun r => r = (0, 0, if 29 ≤ tK b L i ∧ tK b L i ≤ 42 then (1 : Int32) else 0, M)) rfl ?_
  refine mq0 (Q := fun r => r = (0, 0, if 29 ≤ tK b L i ∧ tK b L i ≤ 42 then (1 : Int32) else 0, M)) x22.1 (by rw [x22.2]) ?_
  rw [x22.2]
  dsimp only
  unfold pMo_reserved_51 fMo_reserved_51
  by_cases k34 : tK b L i = 34
  · rw [if_pos k34]
    exact itn (Q := fun r => r = (0, 0, if 29 ≤ tK b L i ∧ tK b L i ≤ 42 then (1 : Int32) else 0, M)) (by decide) (ys 34 (by decide) (by decide) k34)
  rw [if_neg k34]
  have x23 := m_is_23 hB h
  refine itp (Q := fun r => r = (0, 0, if 29 ≤ tK b L i ∧ tK b L i ≤ 42 then (1 : Int32) else 0, M)) rfl ?_
  refine mq0 (Q := fun r => r = (0, 0, if 29 ≤ tK b L i ∧ tK b L i ≤ 42 then (1 : Int32) else 0, M)) x23.1 (by rw [x23.2]) ?_
  rw [x23.2]
  dsimp only
  unfold pMo_reserved_60 fMo_reserved_60
  by_cases k35 : tK b L i = 35
  · rw [if_pos k35]
    exact itn (Q := fun r => r = (0, 0, if 29 ≤ tK b L i ∧ tK b L i ≤ 42 then (1 : Int32) else 0, M)) (by decide) (ys 35 (by decide) (by decide) k35)
  rw [if_neg k35]
  have x24 := m_is_24 hB h
  refine itp (Q := fun r => r = (0, 0, if 29 ≤ tK b L i ∧ tK b L i ≤ 42 then (1 : Int32) else 0, M)) rfl ?_
  refine mq0 (Q := fun r => r = (0, 0, if 29 ≤ tK b L i ∧ tK b L i ≤ 42 then (1 : Int32) else 0, M)) x24.1 (by rw [x24.2]) ?_
  rw [x24.2]
  dsimp only
  unfold pMo_reserved_69 fMo_reserved_69
  by_cases k36 : tK b L i = 36
  · rw [if_pos k36]
    exact itn (Q := fun r => r = (0, 0, if 29 ≤ tK b L i ∧ tK b L i ≤ 42 then (1 : Int32) else 0, M)) (by decide) (ys 36 (by decide) (by decide) k36)
  rw [if_neg k36]
  have x25 := m_is_25 hB h
  refine itp (Q := fun r => r = (0, 0, if 29 ≤ tK b L i ∧ tK b L i ≤ 42 then (1 : Int32) else 0, M)) rfl ?_
  refine mq0 (Q := fun r => r = (0, 0, if 29 ≤ tK b L i ∧ tK b L i ≤ 42 then (1 : Int32) else 0, M)) x25.1 (by rw [x25.2]) ?_
  rw [x25.2]
  dsimp only
  unfold pMo_reserved_78 fMo_reserved_78
  by_cases k37 : tK b L i = 37
  · rw [if_pos k37]
    exact itn (Q := fun r => r = (0, 0, if 29 ≤ tK b L i ∧ tK b L i ≤ 42 then (1 : Int32) else 0, M)) (by decide) (ys 37 (by decide) (by decide) k37)
  rw [if_neg k37]
  have x26 := m_is_26 hB h
  refine itp (Q := fun r => r = (0, 0, if 29 ≤ tK b L i ∧ tK b L i ≤ 42 then (1 : Int32) else 0, M)) rfl ?_
  refine mq0 (Q := fun r => r = (0, 0, if 29 ≤ tK b L i ∧ tK b L i ≤ 42 then (1 : Int32) else 0, M)) x26.1 (by rw [x26.2]) ?_
  rw [x26.2]
  dsimp only
  unfold pMo_reserved_87 fMo_reserved_87
  by_cases k38 : tK b L i = 38
  · rw [if_pos k38]
    exact itn (Q := fun r => r = (0, 0, if 29 ≤ tK b L i ∧ tK b L i ≤ 42 then (1 : Int32) else 0, M)) (by decide) (ys 38 (by decide) (by decide) k38)
  rw [if_neg k38]
  have x27 := m_is_27 hB h
  refine itp (Q := fun r => r = (0, 0, if 29 ≤ tK b L i ∧ tK b L i ≤ 42 then (1 : Int32) else 0, M)) rfl ?_
  refine mq0 (Q := fun r => r = (0, 0, if 29 ≤ tK b L i ∧ tK b L i ≤ 42 then (1 : Int32) else 0, M)) x27.1 (by rw [x27.2]) ?_
  rw [x27.2]
  dsimp only
  unfold pMo_reserved_96 fMo_reserved_96
  by_cases k39 : tK b L i = 39
  · rw [if_pos k39]
    exact itn (Q := fun r => r = (0, 0, if 29 ≤ tK b L i ∧ tK b L i ≤ 42 then (1 : Int32) else 0, M)) (by decide) (ys 39 (by decide) (by decide) k39)
  rw [if_neg k39]
  have x28 := m_is_28 hB h
  refine itp (Q := fun r => r = (0, 0, if 29 ≤ tK b L i ∧ tK b L i ≤ 42 then (1 : Int32) else 0, M)) rfl ?_
  refine mq0 (Q := fun r => r = (0, 0, if 29 ≤ tK b L i ∧ tK b L i ≤ 42 then (1 : Int32) else 0, M)) x28.1 (by rw [x28.2]) ?_
  rw [x28.2]
  dsimp only
  unfold pMo_reserved_105 fMo_reserved_105
  by_cases k40 : tK b L i = 40
  · rw [if_pos k40]
    exact itn (Q := fun r => r = (0, 0, if 29 ≤ tK b L i ∧ tK b L i ≤ 42 then (1 : Int32) else 0, M)) (by decide) (ys 40 (by decide) (by decide) k40)
  rw [if_neg k40]
  have x29 := m_is_29 hB h
  refine itp (Q := fun r => r = (0, 0, if 29 ≤ tK b L i ∧ tK b L i ≤ 42 then (1 : Int32) else 0, M)) rfl ?_
  refine mq0 (Q := fun r => r = (0, 0, if 29 ≤ tK b L i ∧ tK b L i ≤ 42 then (1 : Int32) else 0, M)) x29.1 (by rw [x29.2]) ?_
  rw [x29.2]
  dsimp only
  unfold pMo_reserved_114 fMo_reserved_114
  by_cases k41 : tK b L i = 41
  · rw [if_pos k41]
    exact itn (Q := fun r => r = (0, 0, if 29 ≤ tK b L i ∧ tK b L i ≤ 42 then (1 : Int32) else 0, M)) (by decide) (ys 41 (by decide) (by decide) k41)
  rw [if_neg k41]
  have x30 := m_is_30 hB h
  refine itp (Q := fun r => r = (0, 0, if 29 ≤ tK b L i ∧ tK b L i ≤ 42 then (1 : Int32) else 0, M)) rfl ?_
  refine mq0 (Q := fun r => r = (0, 0, if 29 ≤ tK b L i ∧ tK b L i ≤ 42 then (1 : Int32) else 0, M)) x30.1 (by rw [x30.2]) ?_
  rw [x30.2]
  dsimp only
  unfold pMo_reserved_123 fMo_reserved_123
  by_cases k42 : tK b L i = 42
  · rw [if_pos k42]
    exact itn (Q := fun r => r = (0, 0, if 29 ≤ tK b L i ∧ tK b L i ≤ 42 then (1 : Int32) else 0, M)) (by decide) (ys 42 (by decide) (by decide) k42)
  rw [if_neg k42]
  refine itp (Q := fun r => r = (0, 0, if 29 ≤ tK b L i ∧ tK b L i ≤ 42 then (1 : Int32) else 0, M)) rfl ⟨trivial, ?_⟩
  rw [if_neg (by omega)]
theorem m_numl {M : Mm} {i : Nat} (hB : mBy M b L) (h : mQ b L i M) (hk : tK b L i = 44) {lo hi : Nat} (hlo : lo < 2 ^ 31) (hhi : hi < 2 ^ 31) (P : Int32 × Int32 × Int32 × Mm → Prop)
    (hb : (val b (tF b L i) (tZ b L i) < lo ∨ hi < val b (tF b L i) (tZ b L i)) → P (3, nI (tF b L i), 0, M))
    (hs : lo ≤ val b (tF b L i) (tZ b L i) → val b (tF b L i) (tZ b L i) ≤ hi → ∀ M', mP b L (i + 1) M' → mfr M M' → P (0, 0, nI (val b (tF b L i) (tZ b L i)), M')) :
    ∀ (n z : Nat), z ≤ tZ b L i → tZ b L i - z < n → pMo_number_21 n (nI lo) (nI hi) (nI (val b (tF b L i) z)) (nI (tF b L i + z)) M ∧ P (fMo_number_21 n (nI lo) (nI hi) (nI (val b (tF b L i) z)) (nI (tF b L i + z)) M) := by
  have hbb := fun q hq => (hB.2.2.1 q hq).2
  have hl := hB.2.1
  have tin := tok_in (i := i) hbb (tF_le hbb i)
  have zin : tF b L i + tZ b L i ≤ L := tin.1
  have dg : tZ b L i ≤ 9 ∧ ∀ k, k < tZ b L i → isD (b (tF b L i + k)) = true := tin.2.2.2.2.1 hk
  have vl := val_lt (b := b) (p := tF b L i) (tZ b L i) dg.2
  have p9 : 10 ^ tZ b L i ≤ 10 ^ 9 := Nat.pow_le_pow_right (by decide) dg.1
  have v30 : val b (tF b L i) (tZ b L i) < 2 ^ 30 := Nat.lt_of_lt_of_le vl (Nat.le_trans p9 (by decide))
  intro n
  induction n with
  | zero => intro z _ hz; omega
  | succ n ih =>
    intro z hz hn
    rw [pMo_number_21.eq_2, fMo_number_21.eq_2]
    unfold pMo_number_62 fMo_number_62 pMo_number_79 fMo_number_79
    rw [h.2.2.2.2.1, h.2.2.2.1]
    by_cases c : tZ b L i ≤ z
    · have e : z = tZ b L i := by omega
      subst e
      refine itp (nI_le (by omega) (by omega)) ?_
      by_cases c1 : val b (tF b L i) (tZ b L i) < lo
      · exact itp (nI_lt c1 hlo) ⟨trivial, hb (Or.inl c1)⟩
      refine itn (nI_nlt (by omega) (by omega)) ?_
      by_cases c2 : val b (tF b L i) (tZ b L i) ≤ hi
      · obtain ⟨t1, M2, t2, t3, t4⟩ := m_take h (by omega)
        refine itp (nI_le c2 hhi) (mq0 t1 (by rw [t2]) ?_)
        rw [t2]
        exact ⟨trivial, hs (by omega) c2 M2 t3 t4⟩
      · exact itn (nI_ge (by omega) (by omega)) ⟨trivial, hb (Or.inr (by omega))⟩
    · have bb := hB.2.2.1 (tF b L i + z) (by omega)
      have d := dg.2 z (by omega)
      have d2 : 48 ≤ b (tF b L i + z) ∧ b (tF b L i + z) ≤ 57 := by unfold isD at d; simp at d; exact d
      have sbn : sb (b (tF b L i + z)) = nI (b (tF b L i + z)) := if_pos (by omega)
      refine itn (nI_ge (by omega) (by omega)) ?_
      rw [nI_clamp (by omega), bb.1, sbn, nI_i1]
      have ev : (10 : Int32) * nI (val b (tF b L i) z) + nI (b (tF b L i + z)) - 48 = nI (val b (tF b L i) (z + 1)) := by
        show nI 10 * nI (val b (tF b L i) z) + nI (b (tF b L i + z)) - nI 48 = nI (val b (tF b L i) z * 10 + (b (tF b L i + z) - 48))
        rw [pk_mul, nI_add, pk_sub (by omega)]
        congr 1
        omega
      rw [ev]
      exact sq (vp_in_nI (by omega) (by decide)) (ih (z + 1) (by omega) (by omega))
theorem m_num {M : Mm} {i : Nat} (hB : mBy M b L) (hi4 : i ≤ 4000) (hk48 : tK b L i < 48) (h : mN b L i M) {lo hi : Nat} (hlo : lo < 2 ^ 31) (hhi : hi < 2 ^ 31) (P : Int32 × Int32 × Int32 × Mm → Prop)
    (hf : ∀ (e : Int32) r, ((tK b L i = 47 ∧ e = 4) ∨ (tK b L i ≠ 47 ∧ tK b L i ≠ 44 ∧ e = 1) ∨ (tK b L i = 44 ∧ e = 3 ∧ (val b (tF b L i) (tZ b L i) < lo ∨ hi < val b (tF b L i) (tZ b L i)))) → r.1 = e → r.2.1 = nI (tF b L i) → mw M r.2.2.2 → P r)
    (hs : tK b L i = 44 → lo ≤ val b (tF b L i) (tZ b L i) → val b (tF b L i) (tZ b L i) ≤ hi → ∀ M', mP b L (i + 1) M' → mfr M M' → P (0, 0, nI (val b (tF b L i) (tZ b L i)), M')) : pMo_number 65537 (nI lo) (nI hi) M ∧ P (fMo_number 65537 (nI lo) (nI hi) M) := by
  have hl := hB.2.1
  unfold pMo_number fMo_number
  by_cases k47 : tK b L i = 47
  · have p := m_pk47 hB hi4 h k47
    exact mq1 p.1 (by rw [p.2.1]; decide) (hf 4 _ (Or.inl ⟨k47, rfl⟩) p.2.1 p.2.2.1 p.2.2.2)
  obtain ⟨M1, p1, p2, p3, p4⟩ := m_pk hB hi4 h k47
  rw [p2]
  refine mq0 p1 rfl ?_
  unfold pMo_number_4 fMo_number_4
  by_cases k44 : tK b L i = 44
  · have hB1 := mBy_f hB p4
    have hbb := fun q hq => (hB.2.2.1 q hq).2
    have tin := tok_in (i := i) hbb (tF_le hbb i)
    have d9 : tZ b L i ≤ 9 := (tin.2.2.2.2.1 k44).1
    refine itp (((mt_1 _ hk48).2.1 k47).mpr k44) ?_
    dsimp only
    rw [p3.2.2.2.1]
    have x := m_numl hB1 p3 k44 hlo hhi P (fun q => hf 3 _ (Or.inr (Or.inr ⟨k44, rfl, q⟩)) rfl rfl (mfr_w p4)) (fun q1 q2 M' q3 q4 => hs k44 q1 q2 M' q3 (mfr_t p4 q4)) 65537 0 (Nat.zero_le _) (by omega)
    rw [show val b (tF b L i) 0 = 0 from rfl, nI_0, Nat.add_zero] at x
    exact x
  · have cn := m_cant p3
    refine itn (fun q => k44 (((mt_1 _ hk48).2.1 k47).mp q)) ?_
    dsimp only
    rw [cn.2]
    exact ⟨cn.1, hf 1 _ (Or.inr (Or.inl ⟨k47, k44, rfl⟩)) rfl rfl (mfr_w p4)⟩
/-- the names' words lie in the model's memory -/
def mNw (b : Nat → Nat) (L : Nat) (Nm : NmT) (M : Mm) : Prop := M 40 16 = nI Nm.length ∧ Nm.length ≤ 60 ∧ ∀ (k : Nat) (x : Nat × Nat × Nat × Nat), Nm[k]? = some x → M 42 k = nI (tF b L x.1) ∧ M 43 k = nI (tZ b L x.1) ∧ tZ b L x.1 ≤ 31
theorem m_named {M : Mm} {i : Nat} {Nm : NmT} (hB : mBy M b L) (h : mQ b L i M) (hN : mNw b L Nm M) : pMo_named 61 61 M ∧ fMo_named 61 61 M = (match fnd (tB b L).2.2 Nm 0 i with | some r => nI r | none => -1) := by
  have hbb := fun q hq => (hB.2.2.1 q hq).2
  have hl := hB.2.1
  have tin := fun t => tok_in (i := t) hbb (tF_le hbb t)
  have key : ∀ (l : NmT) (k m : Nat), l = Nm.drop k → k + l.length = Nm.length → l.length < m → pMo_named_2 61 m (nI k) M ∧ fMo_named_2 61 m (nI k) M = (match fnd (tB b L).2.2 l k i with | some r => nI r | none => -1) := by
    intro l
    induction l with
    | nil =>
      intro k m hk hl' hm
      obtain ⟨m, rfl⟩ : ∃ m', m = m' + 1 := ⟨m - 1, by simp only [List.length_nil] at hm; omega⟩
      have h6 := hN.2.1
      rw [pMo_named_2.eq_2, fMo_named_2.eq_2]
      have c : M 40 16 ≤ nI k := by rw [hN.1]; exact nI_le (by simp only [List.length_nil] at hl'; omega) (by simp only [List.length_nil] at hl'; omega)
      rw [if_pos c]
      exact ⟨⟨fun _ => trivial, fun q => absurd c q⟩, rfl⟩
    | cons x l ih =>
      intro k m hk hl' hm
      obtain ⟨m, rfl⟩ : ∃ m', m = m' + 1 := ⟨m - 1, by simp only [List.length_cons] at hm; omega⟩
      simp only [List.length_cons] at hl' hm
      have h6 := hN.2.1
      have hx : Nm[k]? = some x := by
        have := congrArg (fun l : NmT => l.head?) hk
        simp only [List.head?_cons, List.head?_drop] at this
        exact this.symm
      have hk2 : l = Nm.drop (k + 1) := by
        have := congrArg List.tail hk
        rw [List.tail_drop] at this
        exact this
      have i2 := ih (k + 1) m hk2 (by omega) (by omega)
      have nx := hN.2.2 k x hx
      have zx : tF b L x.1 + tZ b L x.1 ≤ L := (tin x.1).1
      have zi : tF b L i + tZ b L i ≤ L := (tin i).1
      have v : vp_in (nI k) 60 := vp_in_nI (by omega) (by decide)
      have c : ¬ M 40 16 ≤ nI k := by rw [hN.1]; exact nI_ge (by omega) (by omega)
      rw [pMo_named_2.eq_2, fMo_named_2.eq_2, if_neg c, nI_clamp (by omega), nx.2.1, h.2.2.2.2.1, h.2.2.2.1, pk_sub (by omega), Nat.add_sub_cancel_left]
      unfold pMo_named_33 fMo_named_33
      -- one word
      have lp : ∀ (n9 j : Nat) (s : Bool), j ≤ tZ b L x.1 → tZ b L x.1 - j < n9 → (s = true → tZ b L x.1 = tZ b L i) → ∀ R : Int32 → Prop, (let e := (s && decide (∀ q, q < tZ b L x.1 → j ≤ q → b (tF b L x.1 + q) = b (tF b L i + q))); (e = true → R (nI k)) ∧ (e = false → pMo_named_2 61 m (nI (k + 1)) M → R (fMo_named_2 61 m (nI (k + 1)) M))) → pMo_named_2 61 m (nI (k + 1)) M → pMo_named_36 (pMo_named_2 61 m) n9 (nI k) (if s = true then 1 else 0) (nI j) M ∧ R (fMo_named_36 (fMo_named_2 61 m) n9 (nI k) (if s = true then 1 else 0) (nI j) M) := by
        intro n9
        induction n9 with
        | zero => intro j s _ hz; omega
        | succ n9 ih9 =>
          intro j s hj hz hs R hR hp
          rw [pMo_named_36.eq_2, fMo_named_36.eq_2]
          unfold pMo_named_89 fMo_named_89 pMo_named_82 fMo_named_82
          rw [nI_clamp (by omega), nx.1, nx.2.1, h.2.2.2.1, nI_add, nI_add, nI_i1, nI_i1]
          cases s with
          | false =>
            rw [if_neg (show ¬ false = true by decide)]
            refine itp rfl (itp rfl ⟨hp, hR.2 (by rw [Bool.false_and]) hp⟩)
          | true =>
            have zz := hs rfl
            rw [if_pos rfl]
            refine itn (by decide) (sq v ?_)
            by_cases cz : tZ b L x.1 ≤ j
            · refine itp (nI_le cz (by omega)) (itn (by decide) ⟨trivial, hR.1 ?_⟩)
              rw [Bool.true_and]
              exact decide_eq_true (fun q h1 h2 => by omega)
            · have bx := hB.2.2.1 (tF b L x.1 + j) (by omega)
              have bi := hB.2.2.1 (tF b L i + j) (by omega)
              refine itn (nI_ge (by omega) (by omega)) (sq v (sq (vp_in_nI (by omega) (by decide)) (sq (vp_in_nI (by omega) (by decide)) ?_)))
              rw [nI_clamp (by omega), nI_clamp (by omega), bx.1, bi.1]
              by_cases d : b (tF b L x.1 + j) = b (tF b L i + j)
              · refine itp (by rw [d]) ?_
                have y := ih9 (j + 1) true (by omega) (by omega) hs R ?_ hp
                · rw [if_pos rfl] at y; exact y
                · have ee : decide (∀ q, q < tZ b L x.1 → j ≤ q → b (tF b L x.1 + q) = b (tF b L i + q)) = decide (∀ q, q < tZ b L x.1 → j + 1 ≤ q → b (tF b L x.1 + q) = b (tF b L i + q)) := by
                    apply decide_eq_decide.mpr
                    constructor
                    · intro g q h1 h2; exact g q h1 (by omega)
                    · intro g q h1 h2
                      by_cases e : q = j
                      · rw [e]; exact d
                      · exact g q h1 (by omega)
                  dsimp only at hR ⊢
                  rw [← ee]; exact hR
              · refine itn (fun q => d ((sb_inj bx.2 bi.2).mp q)) ?_
                have y := ih9 (j + 1) false (by omega) (by omega) (fun q => by cases q) R ?_ hp
                · rw [if_neg (show ¬ false = true by decide)] at y; exact y
                · dsimp only at hR ⊢
                  rw [Bool.false_and]
                  have ee : (true && decide (∀ q, q < tZ b L x.1 → j ≤ q → b (tF b L x.1 + q) = b (tF b L i + q))) = false := by
                    rw [Bool.true_and]; exact decide_eq_false (fun g => d (g j (by omega) (Nat.le_refl _)))
                  rw [ee] at hR
                  exact hR
      have eqz : ∀ (p q z : Nat), eqr b p q z = decide (∀ k, k < z → b (p + k) = b (q + k)) := by
        intro p q z
        induction z with
        | zero => exact (decide_eq_true (fun k h => by omega)).symm
        | succ z ihz =>
          unfold eqr
          rw [ihz, ← Bool.decide_and]
          apply decide_eq_decide.mpr
          constructor
          · intro h k hk
            by_cases e : k = z
            · rw [e]; exact h.2
            · exact h.1 k (by omega)
          · intro h; exact ⟨fun k hk => h k (by omega), h z (by omega)⟩
      have sm : (tB b L).2.2 x.1 i = (decide (tZ b L x.1 = tZ b L i) && decide (∀ q, q < tZ b L x.1 → 0 ≤ q → b (tF b L x.1 + q) = b (tF b L i + q))) := by
        show (decide (tZ b L x.1 = tZ b L i) && eqr b (tF b L x.1) (tF b L i) (tZ b L x.1)) = _
        rw [eqz]
        congr 1
        exact decide_eq_decide.mpr ⟨fun g q h1 _ => g q h1, fun g q h1 => g q h1 (Nat.zero_le _)⟩
      unfold fnd
      rw [sm]
      by_cases e : tZ b L x.1 = tZ b L i
      · have y := lp 61 0 true (by omega) (by omega) (fun _ => e) (fun r => r = (match (if (decide (tZ b L x.1 = tZ b L i) && decide (∀ q, q < tZ b L x.1 → 0 ≤ q → b (tF b L x.1 + q) = b (tF b L i + q))) = true then some k else fnd (tB b L).2.2 l (k + 1) i) with | some r => nI r | none => -1)) ?_ i2.1
        · rw [if_pos rfl, nI_0] at y
          rw [if_pos (by rw [e])]
          exact ⟨⟨fun q => absurd q c, fun _ => ⟨v, fun _ => y.1, fun q => absurd (by rw [e]) q⟩⟩, y.2⟩
        · dsimp only
          rw [decide_eq_true e]
          refine ⟨fun g => ?_, fun g _ => ?_⟩
          · rw [if_pos g]
          · rw [if_neg (by rw [g]; decide)]; exact i2.2
      · have y := lp 61 0 false (by omega) (by omega) (fun q => by cases q) (fun r => r = (match (if (decide (tZ b L x.1 = tZ b L i) && decide (∀ q, q < tZ b L x.1 → 0 ≤ q → b (tF b L x.1 + q) = b (tF b L i + q))) = true then some k else fnd (tB b L).2.2 l (k + 1) i) with | some r => nI r | none => -1)) ?_ i2.1
        · rw [if_neg (show ¬ false = true by decide), nI_0] at y
          have ne : ¬ nI (tZ b L x.1) = nI (tZ b L i) := fun q => e ((nI_eq (by omega) (by omega)).mp q)
          rw [if_neg ne]
          exact ⟨⟨fun q => absurd q c, fun _ => ⟨v, fun q => absurd q ne, fun _ => y.1⟩⟩, y.2⟩
        · dsimp only
          rw [decide_eq_false e]
          simp only [Bool.false_and]
          refine ⟨fun g => (by cases g), fun _ _ => ?_⟩
          rw [if_neg (by decide)]; exact i2.2
  have x := key Nm 0 61 rfl (by rw [Nat.zero_add]) (by have := hN.2.1; omega)
  rw [nI_0] at x
  exact x
end
