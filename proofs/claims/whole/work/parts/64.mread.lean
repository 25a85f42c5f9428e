def fMo_rdl : Nat → Int32 → Int32 → (Nat → Nat → Int32) → Int32
  | 0, s, _, _ => s
  | n + 1, s, r, I => if I 40 23 ≤ r then s else fMo_rdl n ((s <<< ((I 46 r.toNatClampNeg) &&& 31)) ||| (I 47 r.toNatClampNeg)) (r + Int32.ofInt 1) I
def pMo_rdl : Nat → Int32 → Int32 → (Nat → Nat → Int32) → Prop
  | 0, _, _, _ => False
  | n + 1, s, r, I => (I 40 23 ≤ r → True) ∧ (¬ I 40 23 ≤ r → vp_in r 8 ∧ vp_in r 8 ∧ pMo_rdl n ((s <<< ((I 46 r.toNatClampNeg) &&& 31)) ||| (I 47 r.toNatClampNeg)) (r + Int32.ofInt 1) I)
def iMo_rd47 (I : Nat → Nat → Int32) : Nat → Nat → Int32 := pm_u (pm_u (pm_u I 40 1 0) 40 52 0) 40 51 0
def iMo_rd96 (I : Nat → Nat → Int32) : Nat → Nat → Int32 := pm_u (pm_u (iMo_rd47 I) 40 46 (fMo_rdl 9 0 0 (iMo_rd47 I))) 40 47 (fMo_rdl 9 0 0 (iMo_rd47 I))
def fMo_rdt (I : Nat → Nat → Int32) (B : Nat → Value) (E : List (Nat × Nat)) : (Nat → Nat → Int32) × (Nat → Value) × List (Nat × Nat) := fMo_workOut 4201 4201 4201 4201 4201 (iMo_rd96 I) B E
def rMo_rdt (I : Nat → Nat → Int32) : Int32 := if I 40 3 ≤ 0 then I 40 26 else -1
def pMo_rdt (I : Nat → Nat → Int32) (B : Nat → Value) (E : List (Nat × Nat)) : Prop := pMo_rdl 9 0 0 (iMo_rd47 I) ∧ pMo_workOut 4201 4201 4201 4201 4201 (iMo_rd96 I) B E
set_option maxHeartbeats 4000000 in
set_option maxRecDepth 100000 in
theorem Mo_rd_66 (g : pmG) (d : Nat) (R : Nat → Nat → Value) (hR : mk_R R) (B : Nat → Value) (E : List (Nat × Nat)) (J : Nat → Nat → Int64) (I : Nat → Nat → Int32) (o : Outcome) (Z : pmM) (rc rs : Nat) : ∀ (n : Nat) (s r : Int32), pMo_rdl n s r I → (∀ r' : Int32, pmE g kMo_read d rc rs 96 [(0, .ref 40), (1, .int (fMo_rdl n s r I)), (2, .int r')] [] (mk_K ++ E) (mk_B R B) I J o Z) → pmE g kMo_read d rc rs 66 [(0, .ref 40), (1, .int s), (2, .int r)] [] (mk_K ++ E) (mk_B R B) I J o Z := by
  intro n
  induction n with
  | zero => intro s r hp; exact False.elim hp
  | succ n ih =>
  intro s r hp nx
  refine pm_iload_n dMo_read_66 rfl ?_
  refine pm_aload_n dMo_read_67 rfl ?_
  refine pm_geti dMo_read_68 fMo_83 rfl ?_
  refine pm_icmp_ge 96 dMo_read_71 (by decide) (fun h => ?_) (fun h => ?_)
  · have := nx r
    unfold fMo_rdl at this
    rw [if_pos h] at this
    exact this
  · have h9 := hp.2 h
    refine pm_iload_n dMo_read_74 rfl ?_
    refine pm_aload_n dMo_read_75 rfl ?_
    refine pm_getr dMo_read_76 fMo_65 rfl (rr_40_17 (mk_RB hR _)) ?_
    refine pm_iload_n dMo_read_79 rfl ?_
    refine pm_iald dMo_read_80 rfl h9.1 ?_
    refine pm_ishl dMo_read_81 ?_
    refine pm_aload_n dMo_read_82 rfl ?_
    refine pm_getr dMo_read_83 fMo_68 rfl (rr_40_18 (mk_RB hR _)) ?_
    refine pm_iload_n dMo_read_86 rfl ?_
    refine pm_iald dMo_read_87 rfl h9.2.1 ?_
    refine pm_ior dMo_read_88 ?_
    refine pm_istore_n dMo_read_89 (by decide) rfl ?_
    refine pm_iinc dMo_read_90 rfl (by decide) rfl ?_
    refine pm_goto 66 dMo_read_93 (by decide) ?_
    refine pm_wk [2, 1, 0] rfl ?_
    refine ih _ _ h9.2.2 (fun r' => ?_)
    have := nx r'
    unfold fMo_rdl at this
    rw [if_neg h] at this
    exact this
set_option maxHeartbeats 4000000 in
set_option maxRecDepth 100000 in
theorem Mo_rd_47 (g : pmG) (d : Nat) (R : Nat → Nat → Value) (hR : mk_R R) (B : Nat → Value) (E : List (Nat × Nat)) (J : Nat → Nat → Int64) (I : Nat → Nat → Int32) (hp : pMo_rdt I B E) (rc : Nat) (hb : ((fMo_rdt I B E).2.2).length = E.length + rc) : pmE g kMo_read (d + 608) rc (256 * rc) 47 [(0, .ref 40)] [] (mk_K ++ E) (mk_B R B) I J (.returned (some (.int (rMo_rdt (fMo_rdt I B E).1)))) (mk_K ++ (fMo_rdt I B E).2.2, mk_B R (fMo_rdt I B E).2.1, (fMo_rdt I B E).1, J) := by
  refine pm_aload_n dMo_read_47 rfl ?_
  refine pm_iconst (v := 0) dMo_read_48 (by decide) ?_
  refine pm_puti dMo_read_49 fMo_14 sMo_14 (fun h => by cases h) rfl (by first | rfl | decide) rfl ?_
  refine pm_aload_n dMo_read_52 rfl ?_
  refine pm_iconst (v := 0) dMo_read_53 (by decide) ?_
  refine pm_puti dMo_read_54 fMo_176 sMo_176 (fun h => by cases h) rfl (by first | rfl | decide) rfl ?_
  refine pm_aload_n dMo_read_57 rfl ?_
  refine pm_iconst (v := 0) dMo_read_58 (by decide) ?_
  refine pm_puti dMo_read_59 fMo_173 sMo_173 (fun h => by cases h) rfl (by first | rfl | decide) rfl ?_
  refine pm_iconst (v := 0) dMo_read_62 (by decide) ?_
  refine pm_istore_n dMo_read_63 (by decide) rfl ?_
  refine pm_iconst (v := 0) dMo_read_64 (by decide) ?_
  refine pm_istore_n dMo_read_65 (by decide) rfl ?_
  refine pm_wk [2, 1, 0] rfl ?_
  refine Mo_rd_66 g (d + 608) R hR B E J (iMo_rd47 I) _ _ _ _ 9 0 0 hp.1 (fun r' => ?_)
  refine pm_aload_n dMo_read_96 rfl ?_
  refine pm_iload_n dMo_read_97 rfl ?_
  refine pm_puti dMo_read_98 fMo_158 sMo_158 (fun h => by cases h) rfl (by first | rfl | decide) rfl ?_
  refine pm_aload_n dMo_read_101 rfl ?_
  refine pm_iload_n dMo_read_102 rfl ?_
  refine pm_puti dMo_read_103 fMo_161 sMo_161 (fun h => by cases h) rfl (by first | rfl | decide) rfl ?_
  refine pm_aload_n dMo_read_106 rfl ?_
  refine pm_callV (rc1 := 0) (rs1 := 0) dMo_read_107 lMo_336 vMo_workOut ⟨_, _, rfl⟩ (Mo_workOut_ok g d R hR 4201 4201 4201 4201 4201 (iMo_rd96 I) B E J hp.2 rc hb) rfl rfl rfl (Nat.le_of_ble_eq_true rfl) (Nat.le_of_eq (Nat.zero_add _)) (Nat.le_of_eq (Nat.zero_add _)) ?_
  refine pm_aload_n dMo_read_110 rfl ?_
  refine pm_geti dMo_read_111 fMo_21 rfl ?_
  refine pm_if_le 121 dMo_read_114 (by decide) (fun h => ?_) (fun h => ?_)
  · refine pm_aload_n dMo_read_121 rfl ?_
    refine pm_geti dMo_read_122 fMo_92 rfl ?_
    exact pm_iret dMo_read_125 rfl (congrArg (fun z => Outcome.returned (some (.int z))) (if_pos h)) rfl
  · refine pm_iconst (v := (-1)) dMo_read_117 (by decide) ?_
    refine pm_goto 125 dMo_read_118 (by decide) ?_
    exact pm_iret dMo_read_125 rfl (congrArg (fun z => Outcome.returned (some (.int z))) (if_neg h)) rfl
theorem mk_Rz {R : Nat → Nat → Value} (h : mk_R R) {n : Nat} (hn : 356 ≤ n) : mk_R (pm_z R n .null) := by
  refine ⟨fun q hq => ?_, fun i hi => ?_, fun i hi => ?_⟩
  · have hne : ∀ q ∈ mk_Rl, q.1 < 356 := by decide +kernel
    rw [pm_z_n R _ (by have := hne q hq; omega)]
    exact h.1 q hq
  · rw [pm_z_n R _ (by omega)]; exact h.2.1 i hi
  · rw [pm_z_n R _ (by omega)]; exact h.2.2 i hi
theorem mk_Bz (R : Nat → Nat → Value) (B : Nat → Value) {n : Nat} (hn : 356 ≤ n) : pm_z (mk_B R B) n .null = mk_B (pm_z R n .null) B := by
  funext a j
  unfold pm_z mk_B
  by_cases h1 : a = n
  · have : ¬ a = 320 := by omega
    rw [if_pos h1, if_neg this]
    show Value.null = (if a = n then (fun _ => Value.null) else R a) j
    rw [if_pos h1]
  · rw [if_neg h1]
    by_cases h2 : a = 320
    · rw [if_pos h2, if_pos h2]
    · rw [if_neg h2, if_neg h2]
      show R a j = (if a = n then (fun _ => Value.null) else R a) j
      rw [if_neg h1]
def iMo_rd0 (I : Nat → Nat → Int32) : Nat → Nat → Int32 := fMo_clear  (pm_u (pm_u (pm_u I 40 2 0) 40 3 0) 40 4 0)
def pMo_rd0 (I : Nat → Nat → Int32) : Prop := pMo_clear  (pm_u (pm_u (pm_u I 40 2 0) 40 3 0) 40 4 0)
def fMo_rdx (I : Nat → Nat → Int32) : Int32 × Int32 × (Nat → Nat → Int32) := fMo_lines 4002 (iMo_rd0 I)
def pMo_rdx (I : Nat → Nat → Int32) : Prop := pMo_rd0 I ∧ pMo_lines 4002 (iMo_rd0 I)
theorem qMo_read (g : pmG) : pm_Ct g kMo_read 20 11 26 := ⟨_, _, _, rfl, Or.inl ⟨_, _, (by decide +kernel : pm_hs kMo_read.1 = (19, 23, 26, 187) :: []), by decide, rfl, by decide, pm_in 1357 (by decide +kernel) rfl⟩⟩
set_option maxHeartbeats 4000000 in
set_option maxRecDepth 100000 in
theorem Mo_read_r (g : pmG) (d : Nat) (R : Nat → Nat → Value) (hR : mk_R R) (B : Nat → Value) (E : List (Nat × Nat)) (J : Nat → Nat → Int64) (I : Nat → Nat → Int32) (hq : pMo_rdx I) (he : (fMo_rdx I).1 = 0) (hp : pMo_rdt (fMo_rdx I).2.2 B E) (rc : Nat) (hb : ((fMo_rdt (fMo_rdx I).2.2 B E).2.2).length = E.length + rc) :
    pmCW g kMo_read (d + 876) rc (256 * rc) [.ref 40] (mk_K ++ E, mk_B R B, I, J) (.returned (some (.int (rMo_rdt (fMo_rdt (fMo_rdx I).2.2 B E).1)))) (mk_K ++ (fMo_rdt (fMo_rdx I).2.2 B E).2.2, mk_B R (fMo_rdt (fMo_rdx I).2.2 B E).2.1, (fMo_rdt (fMo_rdx I).2.2 B E).1, J) := by
  have hc := Mo_lines_ok g (d + 0) E (mk_B R B) (mk_RB hR _) 4002 (iMo_rd0 I) J hq.2
  rw [show pt_V (mk_K ++ E) (mk_B R B) J (fMo_lines 4002 (iMo_rd0 I)) = (.returned none, (mk_K ++ E, mk_B R B, (fMo_rdx I).2.2, J), 0, 0) from if_pos he] at hc
  refine pmCW.of (by decide) (Nat.le_of_ble_eq_true rfl) ?_
  refine pm_aload_n dMo_read_0 rfl ?_
  refine pm_iconst (v := 0) dMo_read_1 (by decide) ?_
  refine pm_puti dMo_read_2 fMo_18 sMo_18 (fun h => by cases h) rfl (by first | rfl | decide) rfl ?_
  refine pm_aload_n dMo_read_5 rfl ?_
  refine pm_iconst (v := 0) dMo_read_6 (by decide) ?_
  refine pm_puti dMo_read_7 fMo_21 sMo_21 (fun h => by cases h) rfl (by first | rfl | decide) rfl ?_
  refine pm_aload_n dMo_read_10 rfl ?_
  refine pm_iconst (v := 0) dMo_read_11 (by decide) ?_
  refine pm_puti dMo_read_12 fMo_24 sMo_24 (fun h => by cases h) rfl (by first | rfl | decide) rfl ?_
  refine pm_aload_n dMo_read_15 rfl ?_
  refine pm_callV (rc1 := rc) (rs1 := 256 * rc) dMo_read_16 lMo_325 vMo_clear ⟨_, _, rfl⟩ (Mo_clear_ok g (d + 875) E (mk_B R B) (mk_RB hR _)  _ J hq.1) rfl rfl rfl (Nat.le_of_ble_eq_true rfl) (Nat.le_refl _) (Nat.le_refl _) ?_
  refine pm_aload_n dMo_read_19 rfl ?_
  refine pm_callV (rc1 := rc) (rs1 := 256 * rc) dMo_read_20 lMo_328 vMo_lines ⟨_, _, rfl⟩ hc rfl rfl rfl (Nat.le_of_ble_eq_true rfl) (Nat.le_refl _) (Nat.le_refl _) ?_
  refine pm_goto 47 dMo_read_23 (by decide) ?_
  exact Mo_rd_47 g (d + 268) R hR B E J (fMo_rdx I).2.2 hp rc hb
def iMo_rdc (I : Nat → Nat → Int32) (n : Nat) : Nat → Nat → Int32 := fMo_clear  (pm_u (pm_u (pm_u (pm_u (pm_z (fMo_rdx I).2.2 n 0) n 5 (fMo_rdx I).1) n 6 (fMo_rdx I).2.1) 40 3 (fMo_rdx I).1) 40 4 (fMo_rdx I).2.1)
def pMo_rdc (I : Nat → Nat → Int32) (n : Nat) : Prop := pMo_clear  (pm_u (pm_u (pm_u (pm_u (pm_z (fMo_rdx I).2.2 n 0) n 5 (fMo_rdx I).1) n 6 (fMo_rdx I).2.1) 40 3 (fMo_rdx I).1) 40 4 (fMo_rdx I).2.1)
set_option maxHeartbeats 4000000 in
set_option maxRecDepth 100000 in
theorem Mo_read_t (g : pmG) (d : Nat) (R : Nat → Nat → Value) (hR : mk_R R) (B : Nat → Value) (E : List (Nat × Nat)) (J : Nat → Nat → Int64) (I : Nat → Nat → Int32) (n : Nat) (hn : n = (mk_K ++ E).length) (hq : pMo_rdx I) (he : ¬ (fMo_rdx I).1 = 0) (hqc : pMo_rdc I n) (hp : pMo_rdt (iMo_rdc I n) B (E ++ [(0, 11)])) (rc : Nat) (hb : ((fMo_rdt (iMo_rdc I n) B (E ++ [(0, 11)])).2.2).length = (E ++ [(0, 11)]).length + rc) :
    pmCW g kMo_read (d + 876) (rc + 1) (256 * rc + 8) [.ref 40] (mk_K ++ E, mk_B R B, I, J) (.returned (some (.int (rMo_rdt (fMo_rdt (iMo_rdc I n) B (E ++ [(0, 11)])).1)))) (mk_K ++ (fMo_rdt (iMo_rdc I n) B (E ++ [(0, 11)])).2.2, mk_B (pm_z R n .null) (fMo_rdt (iMo_rdc I n) B (E ++ [(0, 11)])).2.1, (fMo_rdt (iMo_rdc I n) B (E ++ [(0, 11)])).1, pm_z J n 0) := by
  have hn9 : 356 ≤ n := by rw [hn]; exact mk_len E
  have hc := Mo_lines_ok g (d + 0) E (mk_B R B) (mk_RB hR _) 4002 (iMo_rd0 I) J hq.2
  rw [show pt_V (mk_K ++ E) (mk_B R B) J (fMo_lines 4002 (iMo_rd0 I)) = (.threw (mk_K ++ E).length, pt_w (mk_K ++ E) (mk_B R B) (fMo_rdx I).2.2 J (fMo_rdx I).1 (fMo_rdx I).2.1, 1, 8) from if_neg he, ← hn] at hc
  have hz : pt_w (mk_K ++ E) (mk_B R B) (fMo_rdx I).2.2 J (fMo_rdx I).1 (fMo_rdx I).2.1 = (mk_K ++ (E ++ [(0, 11)]), mk_B (pm_z R n .null) B, pm_u (pm_u (pm_z (fMo_rdx I).2.2 n 0) n 5 (fMo_rdx I).1) n 6 (fMo_rdx I).2.1, pm_z J n 0) := by
    show ((mk_K ++ E) ++ [(0, 11)], _, _, _) = _
    rw [← hn, mk_Bz R B hn9, List.append_assoc]
  rw [hz] at hc
  have hkn : (mk_K ++ (E ++ [(0, 11)]))[n]? = some (0, 11) := by
    rw [← List.append_assoc, hn, List.getElem?_append_right (Nat.le_refl _), Nat.sub_self]; rfl
  refine pmCW.of (by decide) (Nat.le_of_ble_eq_true rfl) ?_
  refine pm_aload_n dMo_read_0 rfl ?_
  refine pm_iconst (v := 0) dMo_read_1 (by decide) ?_
  refine pm_puti dMo_read_2 fMo_18 sMo_18 (fun h => by cases h) rfl (by first | rfl | decide) rfl ?_
  refine pm_aload_n dMo_read_5 rfl ?_
  refine pm_iconst (v := 0) dMo_read_6 (by decide) ?_
  refine pm_puti dMo_read_7 fMo_21 sMo_21 (fun h => by cases h) rfl (by first | rfl | decide) rfl ?_
  refine pm_aload_n dMo_read_10 rfl ?_
  refine pm_iconst (v := 0) dMo_read_11 (by decide) ?_
  refine pm_puti dMo_read_12 fMo_24 sMo_24 (fun h => by cases h) rfl (by first | rfl | decide) rfl ?_
  refine pm_aload_n dMo_read_15 rfl ?_
  refine pm_callV (rc1 := rc + 1) (rs1 := 256 * rc + 8) dMo_read_16 lMo_325 vMo_clear ⟨_, _, rfl⟩ (Mo_clear_ok g (d + 875) E (mk_B R B) (mk_RB hR _)  _ J hq.1) rfl rfl rfl (Nat.le_of_ble_eq_true rfl) (Nat.le_refl _) (Nat.le_refl _) ?_
  refine pm_aload_n dMo_read_19 rfl ?_
  refine pm_callVC (rc1 := rc) (rs1 := 256 * rc) dMo_read_20 lMo_328 vMo_lines ⟨_, _, rfl⟩ hc rfl rfl rfl (Nat.le_of_ble_eq_true rfl) (Nat.le_refl _) (Nat.le_refl _) (qMo_read g) hkn ?_
  refine pm_astore_n dMo_read_26 (by decide) rfl ?_
  refine pm_aload_n dMo_read_27 rfl ?_
  refine pm_aload_n dMo_read_28 rfl ?_
  refine pm_geti dMo_read_29 fMo_331 hkn ?_
  refine pm_eqi (fMo_rdx I).1 ((pm_u_j _ _ _ (by decide)).trans (pm_u_s _ _ _ _)) ?_
  refine pm_puti dMo_read_32 fMo_21 sMo_21 (fun h => by cases h) rfl (by first | rfl | decide) rfl ?_
  refine pm_aload_n dMo_read_35 rfl ?_
  refine pm_aload_n dMo_read_36 rfl ?_
  refine pm_geti dMo_read_37 fMo_333 hkn ?_
  refine pm_eqi (fMo_rdx I).2.1 ((congrFun (pm_u_n _ _ _ (by omega)) _).trans (pm_u_s _ _ _ _)) ?_
  refine pm_puti dMo_read_40 fMo_24 sMo_24 (fun h => by cases h) rfl (by first | rfl | decide) rfl ?_
  refine pm_aload_n dMo_read_43 rfl ?_
  refine pm_callV (rc1 := rc) (rs1 := 256 * rc) dMo_read_44 lMo_325 vMo_clear ⟨_, _, rfl⟩ (Mo_clear_ok g (d + 875) (E ++ [(0, 11)]) (mk_B (pm_z R n .null) B) (mk_RB (mk_Rz hR hn9) _)  _ _ hqc) rfl rfl rfl (Nat.le_of_ble_eq_true rfl) (Nat.le_refl _) (Nat.le_refl _) ?_
  refine pm_wk [1] rfl ?_
  exact Mo_rd_47 g (d + 268) (pm_z R n .null) (mk_Rz hR hn9) B (E ++ [(0, 11)]) (pm_z J n 0) (iMo_rdc I n) hp rc hb
