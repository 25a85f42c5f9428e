def fMo_peek_160 (r105 : Int32 → (Nat → Nat → Int32) → Int32 × Int32 × Int32 × (Nat → Nat → Int32)) (y1 : Int32) (I : Nat → Nat → Int32) : Int32 × Int32 × Int32 × (Nat → Nat → Int32) :=
  r105 y1 (pm_u I 40 8 ((I 40 8) + (1 : Int32)))
def pMo_peek_160 (q105 : Int32 → (Nat → Nat → Int32) → Prop) (y1 : Int32) (I : Nat → Nat → Int32) : Prop :=
  q105 y1 (pm_u I 40 8 ((I 40 8) + (1 : Int32)))
def fMo_peek_319  (y1 : Int32) (I : Nat → Nat → Int32) : Int32 × Int32 × Int32 × (Nat → Nat → Int32) :=
  (0, 0, I 40 6, I)
def pMo_peek_319  (y1 : Int32) (I : Nat → Nat → Int32) : Prop :=
  True
def fMo_peek_193  (y1 : Int32) (z1 : Int32) (I : Nat → Nat → Int32) : Int32 × Int32 × Int32 × (Nat → Nat → Int32) :=
  fMo_peek_319 y1 (pm_u I 40 6 z1)
def pMo_peek_193  (y1 : Int32) (z1 : Int32) (I : Nat → Nat → Int32) : Prop :=
  pMo_peek_319 y1 (pm_u I 40 6 z1)
def fMo_peek_173  (y1 : Int32) (I : Nat → Nat → Int32) : Int32 × Int32 × Int32 × (Nat → Nat → Int32) :=
  if ((I 40 8) - (I 40 5)) ≤ (31 : Int32) then fMo_peek_193 y1 (1 : Int32) I
  else fMo_peek_193 y1 (3 : Int32) I
def pMo_peek_173  (y1 : Int32) (I : Nat → Nat → Int32) : Prop :=
  (((I 40 8) - (I 40 5)) ≤ (31 : Int32) → pMo_peek_193 y1 (1 : Int32) I) ∧
  (¬ (((I 40 8) - (I 40 5)) ≤ (31 : Int32)) → pMo_peek_193 y1 (3 : Int32) I)
def fMo_peek_105  : Nat → Int32 → (Nat → Nat → Int32) → Int32 × Int32 × Int32 × (Nat → Nat → Int32)
  | 0, _, I => (0, 0, 0, I)
  | n + 1, y1, I =>
  if (I 40 1) ≤ (I 40 8) then fMo_peek_173 y1 I
  else if ((fMo_letter (I 41 (I 40 8).toNatClampNeg))) = 0 then if ((fMo_digit (I 41 (I 40 8).toNatClampNeg))) = 0 then if (I 41 (I 40 8).toNatClampNeg) = (95 : Int32) then fMo_peek_160 (fMo_peek_105 n) y1 I
        else fMo_peek_173 y1 I
      else fMo_peek_160 (fMo_peek_105 n) y1 I
    else fMo_peek_160 (fMo_peek_105 n) y1 I
def pMo_peek_105  : Nat → Int32 → (Nat → Nat → Int32) → Prop
  | 0, _, _ => False
  | n + 1, y1, I =>
  ((I 40 1) ≤ (I 40 8) → pMo_peek_173 y1 I) ∧
  (¬ ((I 40 1) ≤ (I 40 8)) → (vp_in (I 40 8) 65536) ∧ ((pMo_letter (I 41 (I 40 8).toNatClampNeg)) ∧ ((((fMo_letter (I 41 (I 40 8).toNatClampNeg))) = 0 → (vp_in (I 40 8) 65536) ∧ ((pMo_digit (I 41 (I 40 8).toNatClampNeg)) ∧ ((((fMo_digit (I 41 (I 40 8).toNatClampNeg))) = 0 → (vp_in (I 40 8) 65536) ∧ (((I 41 (I 40 8).toNatClampNeg) = (95 : Int32) → pMo_peek_160 (pMo_peek_105 n) y1 I) ∧
        (¬ ((I 41 (I 40 8).toNatClampNeg) = (95 : Int32)) → pMo_peek_173 y1 I))) ∧
      (¬ (((fMo_digit (I 41 (I 40 8).toNatClampNeg))) = 0) → pMo_peek_160 (pMo_peek_105 n) y1 I)))) ∧
    (¬ (((fMo_letter (I 41 (I 40 8).toNatClampNeg))) = 0) → pMo_peek_160 (pMo_peek_105 n) y1 I))))
def fMo_peek_265  (y1 : Int32) (z1 : Int32) (I : Nat → Nat → Int32) : Int32 × Int32 × Int32 × (Nat → Nat → Int32) :=
  fMo_peek_319 y1 (pm_u I 40 6 z1)
def pMo_peek_265  (y1 : Int32) (z1 : Int32) (I : Nat → Nat → Int32) : Prop :=
  pMo_peek_319 y1 (pm_u I 40 6 z1)
def fMo_peek_245  (y1 : Int32) (I : Nat → Nat → Int32) : Int32 × Int32 × Int32 × (Nat → Nat → Int32) :=
  if ((I 40 8) - (I 40 5)) ≤ (9 : Int32) then fMo_peek_265 y1 (2 : Int32) I
  else fMo_peek_265 y1 (3 : Int32) I
def pMo_peek_245  (y1 : Int32) (I : Nat → Nat → Int32) : Prop :=
  (((I 40 8) - (I 40 5)) ≤ (9 : Int32) → pMo_peek_265 y1 (2 : Int32) I) ∧
  (¬ (((I 40 8) - (I 40 5)) ≤ (9 : Int32)) → pMo_peek_265 y1 (3 : Int32) I)
def fMo_peek_206  : Nat → Int32 → (Nat → Nat → Int32) → Int32 × Int32 × Int32 × (Nat → Nat → Int32)
  | 0, _, I => (0, 0, 0, I)
  | n + 1, y1, I =>
  if (I 40 1) ≤ (I 40 8) then fMo_peek_245 y1 I
  else if ((fMo_digit (I 41 (I 40 8).toNatClampNeg))) = 0 then fMo_peek_245 y1 I
    else fMo_peek_206 n y1 (pm_u I 40 8 ((I 40 8) + (1 : Int32)))
def pMo_peek_206  : Nat → Int32 → (Nat → Nat → Int32) → Prop
  | 0, _, _ => False
  | n + 1, y1, I =>
  ((I 40 1) ≤ (I 40 8) → pMo_peek_245 y1 I) ∧
  (¬ ((I 40 1) ≤ (I 40 8)) → (vp_in (I 40 8) 65536) ∧ ((pMo_digit (I 41 (I 40 8).toNatClampNeg)) ∧ ((((fMo_digit (I 41 (I 40 8).toNatClampNeg))) = 0 → pMo_peek_245 y1 I) ∧
    (¬ (((fMo_digit (I 41 (I 40 8).toNatClampNeg))) = 0) → pMo_peek_206 n y1 (pm_u I 40 8 ((I 40 8) + (1 : Int32)))))))
def fMo_peek_16 (n105 : Nat) (n206 : Nat) (I : Nat → Nat → Int32) : Int32 × Int32 × Int32 × (Nat → Nat → Int32) :=
  if (I 40 5) = (I 40 1) then (0, 0, (0 : Int32), pm_u (pm_u (pm_u (pm_u I 40 10 (1 : Int32)) 40 7 (I 40 5)) 40 8 (I 40 5)) 40 6 (0 : Int32))
  else if ((I 40 9) + (1 : Int32)) = (4001 : Int32) then (4, I 40 5, 0, pm_u (pm_u (pm_u (pm_u (pm_u I 40 10 (1 : Int32)) 40 7 (I 40 5)) 40 8 (I 40 5)) 40 6 (0 : Int32)) 40 9 ((I 40 9) + (1 : Int32)))
    else if ((fMo_letter ((pm_u (pm_u (pm_u (pm_u (pm_u I 40 10 (1 : Int32)) 40 7 (I 40 5)) 40 8 (I 40 5)) 40 6 (0 : Int32)) 40 9 ((I 40 9) + (1 : Int32))) 41 (I 40 5).toNatClampNeg))) = 0 then if ((fMo_digit ((pm_u (pm_u (pm_u (pm_u (pm_u I 40 10 (1 : Int32)) 40 7 (I 40 5)) 40 8 (I 40 5)) 40 6 (0 : Int32)) 40 9 ((I 40 9) + (1 : Int32))) 41 (I 40 5).toNatClampNeg))) = 0 then if ((fMo_sign ((pm_u (pm_u (pm_u (pm_u (pm_u I 40 10 (1 : Int32)) 40 7 (I 40 5)) 40 8 (I 40 5)) 40 6 (0 : Int32)) 40 9 ((I 40 9) + (1 : Int32))) 41 (I 40 5).toNatClampNeg) ((fMo_byteAt ((I 40 5) + (1 : Int32)) (pm_u (pm_u (pm_u (pm_u (pm_u (pm_u I 40 10 (1 : Int32)) 40 7 (I 40 5)) 40 8 (I 40 5)) 40 6 (0 : Int32)) 40 9 ((I 40 9) + (1 : Int32))) 40 8 ((I 40 5) + (1 : Int32))))))) ≤ (299 : Int32) then fMo_peek_319 ((pm_u (pm_u (pm_u (pm_u (pm_u I 40 10 (1 : Int32)) 40 7 (I 40 5)) 40 8 (I 40 5)) 40 6 (0 : Int32)) 40 9 ((I 40 9) + (1 : Int32))) 41 (I 40 5).toNatClampNeg) (pm_u (pm_u (pm_u (pm_u (pm_u (pm_u (pm_u I 40 10 (1 : Int32)) 40 7 (I 40 5)) 40 8 (I 40 5)) 40 6 (0 : Int32)) 40 9 ((I 40 9) + (1 : Int32))) 40 8 ((I 40 5) + (1 : Int32))) 40 6 ((fMo_sign ((pm_u (pm_u (pm_u (pm_u (pm_u I 40 10 (1 : Int32)) 40 7 (I 40 5)) 40 8 (I 40 5)) 40 6 (0 : Int32)) 40 9 ((I 40 9) + (1 : Int32))) 41 (I 40 5).toNatClampNeg) ((fMo_byteAt ((I 40 5) + (1 : Int32)) (pm_u (pm_u (pm_u (pm_u (pm_u (pm_u I 40 10 (1 : Int32)) 40 7 (I 40 5)) 40 8 (I 40 5)) 40 6 (0 : Int32)) 40 9 ((I 40 9) + (1 : Int32))) 40 8 ((I 40 5) + (1 : Int32))))))))
          else fMo_peek_319 ((pm_u (pm_u (pm_u (pm_u (pm_u I 40 10 (1 : Int32)) 40 7 (I 40 5)) 40 8 (I 40 5)) 40 6 (0 : Int32)) 40 9 ((I 40 9) + (1 : Int32))) 41 (I 40 5).toNatClampNeg) (pm_u (pm_u (pm_u (pm_u (pm_u (pm_u (pm_u (pm_u I 40 10 (1 : Int32)) 40 7 (I 40 5)) 40 8 (I 40 5)) 40 6 (0 : Int32)) 40 9 ((I 40 9) + (1 : Int32))) 40 8 ((I 40 5) + (1 : Int32))) 40 6 ((fMo_sign ((pm_u (pm_u (pm_u (pm_u (pm_u I 40 10 (1 : Int32)) 40 7 (I 40 5)) 40 8 (I 40 5)) 40 6 (0 : Int32)) 40 9 ((I 40 9) + (1 : Int32))) 41 (I 40 5).toNatClampNeg) ((fMo_byteAt ((I 40 5) + (1 : Int32)) (pm_u (pm_u (pm_u (pm_u (pm_u (pm_u I 40 10 (1 : Int32)) 40 7 (I 40 5)) 40 8 (I 40 5)) 40 6 (0 : Int32)) 40 9 ((I 40 9) + (1 : Int32))) 40 8 ((I 40 5) + (1 : Int32)))))))) 40 8 (((I 40 5) + (1 : Int32)) + (1 : Int32)))
        else fMo_peek_206 n206 ((pm_u (pm_u (pm_u (pm_u (pm_u I 40 10 (1 : Int32)) 40 7 (I 40 5)) 40 8 (I 40 5)) 40 6 (0 : Int32)) 40 9 ((I 40 9) + (1 : Int32))) 41 (I 40 5).toNatClampNeg) (pm_u (pm_u (pm_u (pm_u (pm_u I 40 10 (1 : Int32)) 40 7 (I 40 5)) 40 8 (I 40 5)) 40 6 (0 : Int32)) 40 9 ((I 40 9) + (1 : Int32)))
      else fMo_peek_105 n105 ((pm_u (pm_u (pm_u (pm_u (pm_u I 40 10 (1 : Int32)) 40 7 (I 40 5)) 40 8 (I 40 5)) 40 6 (0 : Int32)) 40 9 ((I 40 9) + (1 : Int32))) 41 (I 40 5).toNatClampNeg) (pm_u (pm_u (pm_u (pm_u (pm_u I 40 10 (1 : Int32)) 40 7 (I 40 5)) 40 8 (I 40 5)) 40 6 (0 : Int32)) 40 9 ((I 40 9) + (1 : Int32)))
def pMo_peek_16 (n105 : Nat) (n206 : Nat) (I : Nat → Nat → Int32) : Prop :=
  ((I 40 5) = (I 40 1) → True) ∧
  (¬ ((I 40 5) = (I 40 1)) → (((I 40 9) + (1 : Int32)) = (4001 : Int32) → True) ∧
    (¬ (((I 40 9) + (1 : Int32)) = (4001 : Int32)) → (vp_in (I 40 5) 65536) ∧ ((pMo_letter ((pm_u (pm_u (pm_u (pm_u (pm_u I 40 10 (1 : Int32)) 40 7 (I 40 5)) 40 8 (I 40 5)) 40 6 (0 : Int32)) 40 9 ((I 40 9) + (1 : Int32))) 41 (I 40 5).toNatClampNeg)) ∧ ((((fMo_letter ((pm_u (pm_u (pm_u (pm_u (pm_u I 40 10 (1 : Int32)) 40 7 (I 40 5)) 40 8 (I 40 5)) 40 6 (0 : Int32)) 40 9 ((I 40 9) + (1 : Int32))) 41 (I 40 5).toNatClampNeg))) = 0 → (pMo_digit ((pm_u (pm_u (pm_u (pm_u (pm_u I 40 10 (1 : Int32)) 40 7 (I 40 5)) 40 8 (I 40 5)) 40 6 (0 : Int32)) 40 9 ((I 40 9) + (1 : Int32))) 41 (I 40 5).toNatClampNeg)) ∧ ((((fMo_digit ((pm_u (pm_u (pm_u (pm_u (pm_u I 40 10 (1 : Int32)) 40 7 (I 40 5)) 40 8 (I 40 5)) 40 6 (0 : Int32)) 40 9 ((I 40 9) + (1 : Int32))) 41 (I 40 5).toNatClampNeg))) = 0 → (pMo_byteAt ((I 40 5) + (1 : Int32)) (pm_u (pm_u (pm_u (pm_u (pm_u (pm_u I 40 10 (1 : Int32)) 40 7 (I 40 5)) 40 8 (I 40 5)) 40 6 (0 : Int32)) 40 9 ((I 40 9) + (1 : Int32))) 40 8 ((I 40 5) + (1 : Int32)))) ∧ ((pMo_sign ((pm_u (pm_u (pm_u (pm_u (pm_u I 40 10 (1 : Int32)) 40 7 (I 40 5)) 40 8 (I 40 5)) 40 6 (0 : Int32)) 40 9 ((I 40 9) + (1 : Int32))) 41 (I 40 5).toNatClampNeg) ((fMo_byteAt ((I 40 5) + (1 : Int32)) (pm_u (pm_u (pm_u (pm_u (pm_u (pm_u I 40 10 (1 : Int32)) 40 7 (I 40 5)) 40 8 (I 40 5)) 40 6 (0 : Int32)) 40 9 ((I 40 9) + (1 : Int32))) 40 8 ((I 40 5) + (1 : Int32)))))) ∧ ((((fMo_sign ((pm_u (pm_u (pm_u (pm_u (pm_u I 40 10 (1 : Int32)) 40 7 (I 40 5)) 40 8 (I 40 5)) 40 6 (0 : Int32)) 40 9 ((I 40 9) + (1 : Int32))) 41 (I 40 5).toNatClampNeg) ((fMo_byteAt ((I 40 5) + (1 : Int32)) (pm_u (pm_u (pm_u (pm_u (pm_u (pm_u I 40 10 (1 : Int32)) 40 7 (I 40 5)) 40 8 (I 40 5)) 40 6 (0 : Int32)) 40 9 ((I 40 9) + (1 : Int32))) 40 8 ((I 40 5) + (1 : Int32))))))) ≤ (299 : Int32) → pMo_peek_319 ((pm_u (pm_u (pm_u (pm_u (pm_u I 40 10 (1 : Int32)) 40 7 (I 40 5)) 40 8 (I 40 5)) 40 6 (0 : Int32)) 40 9 ((I 40 9) + (1 : Int32))) 41 (I 40 5).toNatClampNeg) (pm_u (pm_u (pm_u (pm_u (pm_u (pm_u (pm_u I 40 10 (1 : Int32)) 40 7 (I 40 5)) 40 8 (I 40 5)) 40 6 (0 : Int32)) 40 9 ((I 40 9) + (1 : Int32))) 40 8 ((I 40 5) + (1 : Int32))) 40 6 ((fMo_sign ((pm_u (pm_u (pm_u (pm_u (pm_u I 40 10 (1 : Int32)) 40 7 (I 40 5)) 40 8 (I 40 5)) 40 6 (0 : Int32)) 40 9 ((I 40 9) + (1 : Int32))) 41 (I 40 5).toNatClampNeg) ((fMo_byteAt ((I 40 5) + (1 : Int32)) (pm_u (pm_u (pm_u (pm_u (pm_u (pm_u I 40 10 (1 : Int32)) 40 7 (I 40 5)) 40 8 (I 40 5)) 40 6 (0 : Int32)) 40 9 ((I 40 9) + (1 : Int32))) 40 8 ((I 40 5) + (1 : Int32))))))))) ∧
          (¬ (((fMo_sign ((pm_u (pm_u (pm_u (pm_u (pm_u I 40 10 (1 : Int32)) 40 7 (I 40 5)) 40 8 (I 40 5)) 40 6 (0 : Int32)) 40 9 ((I 40 9) + (1 : Int32))) 41 (I 40 5).toNatClampNeg) ((fMo_byteAt ((I 40 5) + (1 : Int32)) (pm_u (pm_u (pm_u (pm_u (pm_u (pm_u I 40 10 (1 : Int32)) 40 7 (I 40 5)) 40 8 (I 40 5)) 40 6 (0 : Int32)) 40 9 ((I 40 9) + (1 : Int32))) 40 8 ((I 40 5) + (1 : Int32))))))) ≤ (299 : Int32)) → pMo_peek_319 ((pm_u (pm_u (pm_u (pm_u (pm_u I 40 10 (1 : Int32)) 40 7 (I 40 5)) 40 8 (I 40 5)) 40 6 (0 : Int32)) 40 9 ((I 40 9) + (1 : Int32))) 41 (I 40 5).toNatClampNeg) (pm_u (pm_u (pm_u (pm_u (pm_u (pm_u (pm_u (pm_u I 40 10 (1 : Int32)) 40 7 (I 40 5)) 40 8 (I 40 5)) 40 6 (0 : Int32)) 40 9 ((I 40 9) + (1 : Int32))) 40 8 ((I 40 5) + (1 : Int32))) 40 6 ((fMo_sign ((pm_u (pm_u (pm_u (pm_u (pm_u I 40 10 (1 : Int32)) 40 7 (I 40 5)) 40 8 (I 40 5)) 40 6 (0 : Int32)) 40 9 ((I 40 9) + (1 : Int32))) 41 (I 40 5).toNatClampNeg) ((fMo_byteAt ((I 40 5) + (1 : Int32)) (pm_u (pm_u (pm_u (pm_u (pm_u (pm_u I 40 10 (1 : Int32)) 40 7 (I 40 5)) 40 8 (I 40 5)) 40 6 (0 : Int32)) 40 9 ((I 40 9) + (1 : Int32))) 40 8 ((I 40 5) + (1 : Int32)))))))) 40 8 (((I 40 5) + (1 : Int32)) + (1 : Int32))))))) ∧
        (¬ (((fMo_digit ((pm_u (pm_u (pm_u (pm_u (pm_u I 40 10 (1 : Int32)) 40 7 (I 40 5)) 40 8 (I 40 5)) 40 6 (0 : Int32)) 40 9 ((I 40 9) + (1 : Int32))) 41 (I 40 5).toNatClampNeg))) = 0) → pMo_peek_206 n206 ((pm_u (pm_u (pm_u (pm_u (pm_u I 40 10 (1 : Int32)) 40 7 (I 40 5)) 40 8 (I 40 5)) 40 6 (0 : Int32)) 40 9 ((I 40 9) + (1 : Int32))) 41 (I 40 5).toNatClampNeg) (pm_u (pm_u (pm_u (pm_u (pm_u I 40 10 (1 : Int32)) 40 7 (I 40 5)) 40 8 (I 40 5)) 40 6 (0 : Int32)) 40 9 ((I 40 9) + (1 : Int32)))))) ∧
      (¬ (((fMo_letter ((pm_u (pm_u (pm_u (pm_u (pm_u I 40 10 (1 : Int32)) 40 7 (I 40 5)) 40 8 (I 40 5)) 40 6 (0 : Int32)) 40 9 ((I 40 9) + (1 : Int32))) 41 (I 40 5).toNatClampNeg))) = 0) → pMo_peek_105 n105 ((pm_u (pm_u (pm_u (pm_u (pm_u I 40 10 (1 : Int32)) 40 7 (I 40 5)) 40 8 (I 40 5)) 40 6 (0 : Int32)) 40 9 ((I 40 9) + (1 : Int32))) 41 (I 40 5).toNatClampNeg) (pm_u (pm_u (pm_u (pm_u (pm_u I 40 10 (1 : Int32)) 40 7 (I 40 5)) 40 8 (I 40 5)) 40 6 (0 : Int32)) 40 9 ((I 40 9) + (1 : Int32))))))))
def fMo_peek (n105 : Nat) (n206 : Nat) (I : Nat → Nat → Int32) : Int32 × Int32 × Int32 × (Nat → Nat → Int32) :=
  if (I 40 10) = 0 then fMo_peek_16 n105 n206 ((fMo_parts 65537 65537 I))
  else (0, 0, I 40 6, I)
def pMo_peek (n105 : Nat) (n206 : Nat) (I : Nat → Nat → Int32) : Prop :=
  ((I 40 10) = 0 → (pMo_parts 65537 65537 I) ∧ (pMo_peek_16 n105 n206 ((fMo_parts 65537 65537 I)))) ∧
  (¬ ((I 40 10) = 0) → True)
set_option maxHeartbeats 4000000 in
set_option maxRecDepth 100000 in
theorem Mo_peek_n160 (g : pmG) (d : Nat) (ex : List (Nat × Nat)) (R : Nat → Nat → Value) (hR : mk_R R) (J : Nat → Nat → Int64) (o : Outcome) (Z : pmM) (rc rs : Nat) (r105 : Int32 → (Nat → Nat → Int32) → Int32 × Int32 × Int32 × (Nat → Nat → Int32)) (q105 : Int32 → (Nat → Nat → Int32) → Prop) (ih105 : ∀ (y1 : Int32) (I : Nat → Nat → Int32), q105 y1 I → (o, Z, rc, rs) = pt_I (mk_K ++ ex) R J (r105 y1 I) → pmE g kMo_peek (d + 8) rc rs 105 [(0, .ref 40), (1, .int y1)] [] (mk_K ++ ex) R I J o Z)  (y1 : Int32) (I : Nat → Nat → Int32) (hp : pMo_peek_160 q105 y1 I) (hF : (o, Z, rc, rs) = pt_I (mk_K ++ ex) R J (fMo_peek_160 r105 y1 I)) : pmE g kMo_peek (d + 8) rc rs 160 [(0, .ref 40), (1, .int y1)] [] (mk_K ++ ex) R I J o Z := by
  unfold pMo_peek_160 at hp
  refine pm_aload_n dMo_peek_160 rfl ?_
  refine pm_dup dMo_peek_161 rfl ?_
  refine pm_geti dMo_peek_162 fMo_36 rfl ?_
  refine pm_iconst (v := 1) dMo_peek_165 (by decide) ?_
  refine pm_iadd dMo_peek_166 ?_
  refine pm_puti dMo_peek_167 fMo_36 sMo_36 (fun h => by cases h) rfl rfl rfl ?_
  refine pm_goto 105 dMo_peek_170 (by decide) ?_
  refine pm_wk [0, 1] rfl ?_
  exact ih105 _ _ hp (hF.trans (by first | rfl | (simp only [fMo_peek_160]; done) | (simp only [fMo_peek_160]; rfl)))
set_option maxHeartbeats 4000000 in
set_option maxRecDepth 100000 in
theorem Mo_peek_n319 (g : pmG) (d : Nat) (ex : List (Nat × Nat)) (R : Nat → Nat → Value) (hR : mk_R R) (J : Nat → Nat → Int64) (o : Outcome) (Z : pmM) (rc rs : Nat)  (y1 : Int32) (I : Nat → Nat → Int32) (hp : pMo_peek_319 y1 I) (hF : (o, Z, rc, rs) = pt_I (mk_K ++ ex) R J (fMo_peek_319 y1 I)) : pmE g kMo_peek (d + 8) rc rs 319 [(0, .ref 40), (1, .int y1)] [] (mk_K ++ ex) R I J o Z := by
  unfold pMo_peek_319 at hp
  refine pm_aload_n dMo_peek_319 rfl ?_
  refine pm_geti dMo_peek_320 fMo_30 rfl ?_
  exact pt_iret dMo_peek_323 rfl (hF.trans (by first | (simp only [fMo_peek_319]; done) | (simp only [fMo_peek_319]; rfl) | rfl))
set_option maxHeartbeats 4000000 in
set_option maxRecDepth 100000 in
theorem Mo_peek_n193 (g : pmG) (d : Nat) (ex : List (Nat × Nat)) (R : Nat → Nat → Value) (hR : mk_R R) (J : Nat → Nat → Int64) (o : Outcome) (Z : pmM) (rc rs : Nat)  (y1 : Int32) (z1 : Int32) (I : Nat → Nat → Int32) (hp : pMo_peek_193 y1 z1 I) (hF : (o, Z, rc, rs) = pt_I (mk_K ++ ex) R J (fMo_peek_193 y1 z1 I)) : pmE g kMo_peek (d + 8) rc rs 193 [(0, .ref 40), (1, .int y1)] [.int z1, .ref 40] (mk_K ++ ex) R I J o Z := by
  unfold pMo_peek_193 at hp
  refine pm_puti dMo_peek_193 fMo_30 sMo_30 (fun h => by cases h) rfl rfl rfl ?_
  refine pm_goto 319 dMo_peek_196 (by decide) ?_
  refine pm_wk [0, 1] rfl ?_
  exact Mo_peek_n319 g d ex R hR J _ _ _ _   _ _ hp (hF.trans (by first | rfl | (simp only [fMo_peek_193]; done) | (simp only [fMo_peek_193]; rfl)))
set_option maxHeartbeats 4000000 in
set_option maxRecDepth 100000 in
theorem Mo_peek_n173 (g : pmG) (d : Nat) (ex : List (Nat × Nat)) (R : Nat → Nat → Value) (hR : mk_R R) (J : Nat → Nat → Int64) (o : Outcome) (Z : pmM) (rc rs : Nat)  (y1 : Int32) (I : Nat → Nat → Int32) (hp : pMo_peek_173 y1 I) (hF : (o, Z, rc, rs) = pt_I (mk_K ++ ex) R J (fMo_peek_173 y1 I)) : pmE g kMo_peek (d + 8) rc rs 173 [(0, .ref 40), (1, .int y1)] [] (mk_K ++ ex) R I J o Z := by
  unfold pMo_peek_173 at hp
  refine pm_aload_n dMo_peek_173 rfl ?_
  refine pm_aload_n dMo_peek_174 rfl ?_
  refine pm_geti dMo_peek_175 fMo_36 rfl ?_
  refine pm_aload_n dMo_peek_178 rfl ?_
  refine pm_geti dMo_peek_179 fMo_27 rfl ?_
  refine pm_isub dMo_peek_182 ?_
  refine pm_bipush (v := 31) dMo_peek_183 (by decide) ?_
  refine pm_icmp_le 192 dMo_peek_185 (by decide) (fun h185 => ?_) (fun h185 => ?_)
  ·
    refine pm_iconst (v := 1) dMo_peek_192 (by decide) ?_
    refine pm_wk [0, 1] rfl ?_
    exact Mo_peek_n193 g d ex R hR J _ _ _ _   _ _ _ (hp.1 h185) (hF.trans (by first | (simp only [fMo_peek_173, if_pos h185]; done) | (simp only [fMo_peek_173, if_pos h185]; rfl) | rfl))
  ·
    refine pm_iconst (v := 3) dMo_peek_188 (by decide) ?_
    refine pm_goto 193 dMo_peek_189 (by decide) ?_
    refine pm_wk [0, 1] rfl ?_
    exact Mo_peek_n193 g d ex R hR J _ _ _ _   _ _ _ (hp.2 h185) (hF.trans (by first | (simp only [fMo_peek_173, if_neg h185]; done) | (simp only [fMo_peek_173, if_neg h185]; rfl) | rfl))
set_option maxHeartbeats 4000000 in
set_option maxRecDepth 100000 in
theorem Mo_peek_n105 (g : pmG) (d : Nat) (ex : List (Nat × Nat)) (R : Nat → Nat → Value) (hR : mk_R R) (J : Nat → Nat → Int64) (o : Outcome) (Z : pmM) (rc rs : Nat)  : ∀ (n : Nat) (y1 : Int32) (I : Nat → Nat → Int32), pMo_peek_105 n y1 I → (o, Z, rc, rs) = pt_I (mk_K ++ ex) R J (fMo_peek_105 n y1 I) → pmE g kMo_peek (d + 8) rc rs 105 [(0, .ref 40), (1, .int y1)] [] (mk_K ++ ex) R I J o Z := by
  intro n
  induction n with
  | zero => intro y1 I hp; exact False.elim hp
  | succ n ih =>
  intro y1 I hp hF
  simp only [pMo_peek_105] at hp
  refine pm_aload_n dMo_peek_105 rfl ?_
  refine pm_geti dMo_peek_106 fMo_36 rfl ?_
  refine pm_aload_n dMo_peek_109 rfl ?_
  refine pm_geti dMo_peek_110 fMo_14 rfl ?_
  refine pm_icmp_ge 173 dMo_peek_113 (by decide) (fun h113 => ?_) (fun h113 => ?_)
  ·
    refine pm_wk [0, 1] rfl ?_
    exact Mo_peek_n173 g d ex R hR J _ _ _ _   _ _ (hp.1 h113) (hF.trans (by first | (simp only [fMo_peek_105, if_pos h113]; done) | (simp only [fMo_peek_105, if_pos h113]; rfl) | rfl))
  ·
    refine pm_aload_n dMo_peek_116 rfl ?_
    refine pm_getr dMo_peek_117 fMo_8 rfl (rr_40_0 hR) ?_
    refine pm_aload_n dMo_peek_120 rfl ?_
    refine pm_geti dMo_peek_121 fMo_36 rfl ?_
    refine pm_bald dMo_peek_124 rfl (hp.2 h113).1 ?_
    refine pm_callS dMo_peek_125 lMo_192 tMo_letter (Mo_letter_ok _ _ _ _ _ _ _ (hp.2 h113).2.1) rfl rfl (Nat.le_of_ble_eq_true rfl) (Nat.le_refl _) (Nat.le_refl _) ?_
    refine pm_if_ne 160 dMo_peek_128 (by decide) (fun h128 => ?_) (fun h128 => ?_)
    ·
      refine pm_wk [0, 1] rfl ?_
      exact Mo_peek_n160 g d ex R hR J _ _ _ _ (fMo_peek_105 n) (pMo_peek_105 n) ih  _ _ ((hp.2 h113).2.2.2 h128) (hF.trans (by first | (simp only [fMo_peek_105, if_neg h113, if_neg h128]; done) | (simp only [fMo_peek_105, if_neg h113, if_neg h128]; rfl) | rfl))
    ·
      refine pm_aload_n dMo_peek_131 rfl ?_
      refine pm_getr dMo_peek_132 fMo_8 rfl (rr_40_0 hR) ?_
      refine pm_aload_n dMo_peek_135 rfl ?_
      refine pm_geti dMo_peek_136 fMo_36 rfl ?_
      refine pm_bald dMo_peek_139 rfl ((hp.2 h113).2.2.1 h128).1 ?_
      refine pm_callS dMo_peek_140 lMo_196 tMo_digit (Mo_digit_ok _ _ _ _ _ _ _ ((hp.2 h113).2.2.1 h128).2.1) rfl rfl (Nat.le_of_ble_eq_true rfl) (Nat.le_refl _) (Nat.le_refl _) ?_
      refine pm_if_ne 160 dMo_peek_143 (by decide) (fun h143 => ?_) (fun h143 => ?_)
      ·
        refine pm_wk [0, 1] rfl ?_
        exact Mo_peek_n160 g d ex R hR J _ _ _ _ (fMo_peek_105 n) (pMo_peek_105 n) ih  _ _ (((hp.2 h113).2.2.1 h128).2.2.2 h143) (hF.trans (by first | (simp only [fMo_peek_105, if_neg h113, if_pos h128, if_neg h143]; done) | (simp only [fMo_peek_105, if_neg h113, if_pos h128, if_neg h143]; rfl) | rfl))
      ·
        refine pm_aload_n dMo_peek_146 rfl ?_
        refine pm_getr dMo_peek_147 fMo_8 rfl (rr_40_0 hR) ?_
        refine pm_aload_n dMo_peek_150 rfl ?_
        refine pm_geti dMo_peek_151 fMo_36 rfl ?_
        refine pm_bald dMo_peek_154 rfl (((hp.2 h113).2.2.1 h128).2.2.1 h143).1 ?_
        refine pm_bipush (v := 95) dMo_peek_155 (by decide) ?_
        refine pm_icmp_ne 173 dMo_peek_157 (by decide) (fun h157 => ?_) (fun h157 => ?_)
        ·
          refine pm_wk [0, 1] rfl ?_
          exact Mo_peek_n173 g d ex R hR J _ _ _ _   _ _ ((((hp.2 h113).2.2.1 h128).2.2.1 h143).2.2 h157) (hF.trans (by first | (simp only [fMo_peek_105, if_neg h113, if_pos h128, if_pos h143, if_neg h157]; done) | (simp only [fMo_peek_105, if_neg h113, if_pos h128, if_pos h143, if_neg h157]; rfl) | rfl))
        ·
          refine pm_wk [0, 1] rfl ?_
          exact Mo_peek_n160 g d ex R hR J _ _ _ _ (fMo_peek_105 n) (pMo_peek_105 n) ih  _ _ ((((hp.2 h113).2.2.1 h128).2.2.1 h143).2.1 h157) (hF.trans (by first | (simp only [fMo_peek_105, if_neg h113, if_pos h128, if_pos h143, if_pos h157]; done) | (simp only [fMo_peek_105, if_neg h113, if_pos h128, if_pos h143, if_pos h157]; rfl) | rfl))
set_option maxHeartbeats 4000000 in
set_option maxRecDepth 100000 in
theorem Mo_peek_n265 (g : pmG) (d : Nat) (ex : List (Nat × Nat)) (R : Nat → Nat → Value) (hR : mk_R R) (J : Nat → Nat → Int64) (o : Outcome) (Z : pmM) (rc rs : Nat)  (y1 : Int32) (z1 : Int32) (I : Nat → Nat → Int32) (hp : pMo_peek_265 y1 z1 I) (hF : (o, Z, rc, rs) = pt_I (mk_K ++ ex) R J (fMo_peek_265 y1 z1 I)) : pmE g kMo_peek (d + 8) rc rs 265 [(0, .ref 40), (1, .int y1)] [.int z1, .ref 40] (mk_K ++ ex) R I J o Z := by
  unfold pMo_peek_265 at hp
  refine pm_puti dMo_peek_265 fMo_30 sMo_30 (fun h => by cases h) rfl rfl rfl ?_
  refine pm_goto 319 dMo_peek_268 (by decide) ?_
  refine pm_wk [0, 1] rfl ?_
  exact Mo_peek_n319 g d ex R hR J _ _ _ _   _ _ hp (hF.trans (by first | rfl | (simp only [fMo_peek_265]; done) | (simp only [fMo_peek_265]; rfl)))
set_option maxHeartbeats 4000000 in
set_option maxRecDepth 100000 in
theorem Mo_peek_n245 (g : pmG) (d : Nat) (ex : List (Nat × Nat)) (R : Nat → Nat → Value) (hR : mk_R R) (J : Nat → Nat → Int64) (o : Outcome) (Z : pmM) (rc rs : Nat)  (y1 : Int32) (I : Nat → Nat → Int32) (hp : pMo_peek_245 y1 I) (hF : (o, Z, rc, rs) = pt_I (mk_K ++ ex) R J (fMo_peek_245 y1 I)) : pmE g kMo_peek (d + 8) rc rs 245 [(0, .ref 40), (1, .int y1)] [] (mk_K ++ ex) R I J o Z := by
  unfold pMo_peek_245 at hp
  refine pm_aload_n dMo_peek_245 rfl ?_
  refine pm_aload_n dMo_peek_246 rfl ?_
  refine pm_geti dMo_peek_247 fMo_36 rfl ?_
  refine pm_aload_n dMo_peek_250 rfl ?_
  refine pm_geti dMo_peek_251 fMo_27 rfl ?_
  refine pm_isub dMo_peek_254 ?_
  refine pm_bipush (v := 9) dMo_peek_255 (by decide) ?_
  refine pm_icmp_le 264 dMo_peek_257 (by decide) (fun h257 => ?_) (fun h257 => ?_)
  ·
    refine pm_iconst (v := 2) dMo_peek_264 (by decide) ?_
    refine pm_wk [0, 1] rfl ?_
    exact Mo_peek_n265 g d ex R hR J _ _ _ _   _ _ _ (hp.1 h257) (hF.trans (by first | (simp only [fMo_peek_245, if_pos h257]; done) | (simp only [fMo_peek_245, if_pos h257]; rfl) | rfl))
  ·
    refine pm_iconst (v := 3) dMo_peek_260 (by decide) ?_
    refine pm_goto 265 dMo_peek_261 (by decide) ?_
    refine pm_wk [0, 1] rfl ?_
    exact Mo_peek_n265 g d ex R hR J _ _ _ _   _ _ _ (hp.2 h257) (hF.trans (by first | (simp only [fMo_peek_245, if_neg h257]; done) | (simp only [fMo_peek_245, if_neg h257]; rfl) | rfl))
set_option maxHeartbeats 4000000 in
set_option maxRecDepth 100000 in
theorem Mo_peek_n206 (g : pmG) (d : Nat) (ex : List (Nat × Nat)) (R : Nat → Nat → Value) (hR : mk_R R) (J : Nat → Nat → Int64) (o : Outcome) (Z : pmM) (rc rs : Nat)  : ∀ (n : Nat) (y1 : Int32) (I : Nat → Nat → Int32), pMo_peek_206 n y1 I → (o, Z, rc, rs) = pt_I (mk_K ++ ex) R J (fMo_peek_206 n y1 I) → pmE g kMo_peek (d + 8) rc rs 206 [(0, .ref 40), (1, .int y1)] [] (mk_K ++ ex) R I J o Z := by
  intro n
  induction n with
  | zero => intro y1 I hp; exact False.elim hp
  | succ n ih =>
  intro y1 I hp hF
  simp only [pMo_peek_206] at hp
  refine pm_aload_n dMo_peek_206 rfl ?_
  refine pm_geti dMo_peek_207 fMo_36 rfl ?_
  refine pm_aload_n dMo_peek_210 rfl ?_
  refine pm_geti dMo_peek_211 fMo_14 rfl ?_
  refine pm_icmp_ge 245 dMo_peek_214 (by decide) (fun h214 => ?_) (fun h214 => ?_)
  ·
    refine pm_wk [0, 1] rfl ?_
    exact Mo_peek_n245 g d ex R hR J _ _ _ _   _ _ (hp.1 h214) (hF.trans (by first | (simp only [fMo_peek_206, if_pos h214]; done) | (simp only [fMo_peek_206, if_pos h214]; rfl) | rfl))
  ·
    refine pm_aload_n dMo_peek_217 rfl ?_
    refine pm_getr dMo_peek_218 fMo_8 rfl (rr_40_0 hR) ?_
    refine pm_aload_n dMo_peek_221 rfl ?_
    refine pm_geti dMo_peek_222 fMo_36 rfl ?_
    refine pm_bald dMo_peek_225 rfl (hp.2 h214).1 ?_
    refine pm_callS dMo_peek_226 lMo_196 tMo_digit (Mo_digit_ok _ _ _ _ _ _ _ (hp.2 h214).2.1) rfl rfl (Nat.le_of_ble_eq_true rfl) (Nat.le_refl _) (Nat.le_refl _) ?_
    refine pm_if_eq 245 dMo_peek_229 (by decide) (fun h229 => ?_) (fun h229 => ?_)
    ·
      refine pm_wk [0, 1] rfl ?_
      exact Mo_peek_n245 g d ex R hR J _ _ _ _   _ _ ((hp.2 h214).2.2.1 h229) (hF.trans (by first | (simp only [fMo_peek_206, if_neg h214, if_pos h229]; done) | (simp only [fMo_peek_206, if_neg h214, if_pos h229]; rfl) | rfl))
    ·
      refine pm_aload_n dMo_peek_232 rfl ?_
      refine pm_dup dMo_peek_233 rfl ?_
      refine pm_geti dMo_peek_234 fMo_36 rfl ?_
      refine pm_iconst (v := 1) dMo_peek_237 (by decide) ?_
      refine pm_iadd dMo_peek_238 ?_
      refine pm_puti dMo_peek_239 fMo_36 sMo_36 (fun h => by cases h) rfl rfl rfl ?_
      refine pm_goto 206 dMo_peek_242 (by decide) ?_
      refine pm_wk [0, 1] rfl ?_
      exact ih _ _ ((hp.2 h214).2.2.2 h229) (hF.trans (by first | (simp only [fMo_peek_206, if_neg h214, if_neg h229]; done) | (simp only [fMo_peek_206, if_neg h214, if_neg h229]; rfl) | rfl))
set_option maxHeartbeats 4000000 in
set_option maxRecDepth 100000 in
theorem Mo_peek_n16 (g : pmG) (d : Nat) (ex : List (Nat × Nat)) (R : Nat → Nat → Value) (hR : mk_R R) (J : Nat → Nat → Int64) (o : Outcome) (Z : pmM) (rc rs : Nat) (n105 : Nat) (n206 : Nat) (I : Nat → Nat → Int32) (hp : pMo_peek_16 n105 n206 I) (hF : (o, Z, rc, rs) = pt_I (mk_K ++ ex) R J (fMo_peek_16 n105 n206 I)) : pmE g kMo_peek (d + 8) rc rs 16 [(0, .ref 40)] [] (mk_K ++ ex) R I J o Z := by
  unfold pMo_peek_16 at hp
  refine pm_aload_n dMo_peek_16 rfl ?_
  refine pm_iconst (v := 1) dMo_peek_17 (by decide) ?_
  refine pm_puti dMo_peek_18 fMo_42 sMo_42 (fun h => by cases h) rfl (by decide) rfl ?_
  refine pm_aload_n dMo_peek_21 rfl ?_
  refine pm_aload_n dMo_peek_22 rfl ?_
  refine pm_geti dMo_peek_23 fMo_27 rfl ?_
  refine pm_eqi (I 40 5) rfl ?_
  refine pm_puti dMo_peek_26 fMo_33 sMo_33 (fun h => by cases h) rfl rfl rfl ?_
  refine pm_aload_n dMo_peek_29 rfl ?_
  refine pm_aload_n dMo_peek_30 rfl ?_
  refine pm_geti dMo_peek_31 fMo_27 rfl ?_
  refine pm_eqi (I 40 5) rfl ?_
  refine pm_puti dMo_peek_34 fMo_36 sMo_36 (fun h => by cases h) rfl rfl rfl ?_
  refine pm_aload_n dMo_peek_37 rfl ?_
  refine pm_iconst (v := 0) dMo_peek_38 (by decide) ?_
  refine pm_puti dMo_peek_39 fMo_30 sMo_30 (fun h => by cases h) rfl rfl rfl ?_
  refine pm_aload_n dMo_peek_42 rfl ?_
  refine pm_geti dMo_peek_43 fMo_27 rfl ?_
  refine pm_eqi (I 40 5) rfl ?_
  refine pm_aload_n dMo_peek_46 rfl ?_
  refine pm_geti dMo_peek_47 fMo_14 rfl ?_
  refine pm_eqi (I 40 1) rfl ?_
  refine pm_icmp_ne 55 dMo_peek_50 (by decide) (fun h50 => ?_) (fun h50 => ?_)
  ·
    refine pm_aload_n dMo_peek_55 rfl ?_
    refine pm_dup dMo_peek_56 rfl ?_
    refine pm_geti dMo_peek_57 fMo_39 rfl ?_
    refine pm_eqi (I 40 9) rfl ?_
    refine pm_iconst (v := 1) dMo_peek_60 (by decide) ?_
    refine pm_iadd dMo_peek_61 ?_
    refine pm_puti dMo_peek_62 fMo_39 sMo_39 (fun h => by cases h) rfl rfl rfl ?_
    refine pm_aload_n dMo_peek_65 rfl ?_
    refine pm_geti dMo_peek_66 fMo_39 rfl ?_
    refine pm_eqi ((I 40 9) + (1 : Int32)) rfl ?_
    refine pm_sipush (v := 4001) dMo_peek_69 (by decide) ?_
    refine pm_icmp_ne 88 dMo_peek_72 (by decide) (fun h72 => ?_) (fun h72 => ?_)
    ·
      refine pm_aload_n dMo_peek_88 rfl ?_
      refine pm_getr dMo_peek_89 fMo_8 rfl (rr_40_0 hR) ?_
      refine pm_aload_n dMo_peek_92 rfl ?_
      refine pm_geti dMo_peek_93 fMo_27 rfl ?_
      refine pm_eqi (I 40 5) rfl ?_
      refine pm_bald dMo_peek_96 rfl ((hp.2 h50).2 h72).1 ?_
      refine pm_istore_n dMo_peek_97 (by decide) rfl ?_
      refine pm_iload_n dMo_peek_98 rfl ?_
      refine pm_callS dMo_peek_99 lMo_192 tMo_letter (Mo_letter_ok _ _ _ _ _ _ _ ((hp.2 h50).2 h72).2.1) rfl rfl (Nat.le_of_ble_eq_true rfl) (Nat.le_refl _) (Nat.le_refl _) ?_
      refine pm_if_eq 199 dMo_peek_102 (by decide) (fun h102 => ?_) (fun h102 => ?_)
      ·
        refine pm_iload_n dMo_peek_199 rfl ?_
        refine pm_callS dMo_peek_200 lMo_196 tMo_digit (Mo_digit_ok _ _ _ _ _ _ _ (((hp.2 h50).2 h72).2.2.1 h102).1) rfl rfl (Nat.le_of_ble_eq_true rfl) (Nat.le_refl _) (Nat.le_refl _) ?_
        refine pm_if_eq 271 dMo_peek_203 (by decide) (fun h203 => ?_) (fun h203 => ?_)
        ·
          refine pm_aload_n dMo_peek_271 rfl ?_
          refine pm_aload_n dMo_peek_272 rfl ?_
          refine pm_geti dMo_peek_273 fMo_27 rfl ?_
          refine pm_eqi (I 40 5) rfl ?_
          refine pm_iconst (v := 1) dMo_peek_276 (by decide) ?_
          refine pm_iadd dMo_peek_277 ?_
          refine pm_puti dMo_peek_278 fMo_36 sMo_36 (fun h => by cases h) rfl rfl rfl ?_
          refine pm_aload_n dMo_peek_281 rfl ?_
          refine pm_iload_n dMo_peek_282 rfl ?_
          refine pm_aload_n dMo_peek_283 rfl ?_
          refine pm_aload_n dMo_peek_284 rfl ?_
          refine pm_geti dMo_peek_285 fMo_27 rfl ?_
          refine pm_eqi (I 40 5) rfl ?_
          refine pm_iconst (v := 1) dMo_peek_288 (by decide) ?_
          refine pm_iadd dMo_peek_289 ?_
          refine pm_callV dMo_peek_290 lMo_199 vMo_byteAt ⟨_, _, rfl⟩ (Mo_byteAt_ok _ _ _ _ hR _ _ _ ((((hp.2 h50).2 h72).2.2.1 h102).2.1 h203).1) rfl rfl rfl (Nat.le_of_ble_eq_true rfl) (Nat.le_refl _) (Nat.le_refl _) ?_
          refine pm_callS dMo_peek_293 lMo_203 tMo_sign (Mo_sign_ok _ _ _ _ _ _ _ _ ((((hp.2 h50).2 h72).2.2.1 h102).2.1 h203).2.1) rfl rfl (Nat.le_of_ble_eq_true rfl) (Nat.le_refl _) (Nat.le_refl _) ?_
          refine pm_puti dMo_peek_296 fMo_30 sMo_30 (fun h => by cases h) rfl rfl rfl ?_
          refine pm_aload_n dMo_peek_299 rfl ?_
          refine pm_geti dMo_peek_300 fMo_30 rfl ?_
          refine pm_eqi ((fMo_sign ((pm_u (pm_u (pm_u (pm_u (pm_u I 40 10 (1 : Int32)) 40 7 (I 40 5)) 40 8 (I 40 5)) 40 6 (0 : Int32)) 40 9 ((I 40 9) + (1 : Int32))) 41 (I 40 5).toNatClampNeg) ((fMo_byteAt ((I 40 5) + (1 : Int32)) (pm_u (pm_u (pm_u (pm_u (pm_u (pm_u I 40 10 (1 : Int32)) 40 7 (I 40 5)) 40 8 (I 40 5)) 40 6 (0 : Int32)) 40 9 ((I 40 9) + (1 : Int32))) 40 8 ((I 40 5) + (1 : Int32))))))) rfl ?_
          refine pm_sipush (v := 299) dMo_peek_303 (by decide) ?_
          refine pm_icmp_le 319 dMo_peek_306 (by decide) (fun h306 => ?_) (fun h306 => ?_)
          ·
            refine pm_wk [1, 0] rfl ?_
            exact Mo_peek_n319 g d ex R hR J _ _ _ _   _ _ (((((hp.2 h50).2 h72).2.2.1 h102).2.1 h203).2.2.1 h306) (hF.trans (by first | (simp only [fMo_peek_16, if_neg h50, if_neg h72, if_pos h102, if_pos h203, if_pos h306]; done) | (simp only [fMo_peek_16, if_neg h50, if_neg h72, if_pos h102, if_pos h203, if_pos h306]; rfl) | rfl))
          ·
            refine pm_aload_n dMo_peek_309 rfl ?_
            refine pm_dup dMo_peek_310 rfl ?_
            refine pm_geti dMo_peek_311 fMo_36 rfl ?_
            refine pm_eqi ((I 40 5) + (1 : Int32)) rfl ?_
            refine pm_iconst (v := 1) dMo_peek_314 (by decide) ?_
            refine pm_iadd dMo_peek_315 ?_
            refine pm_puti dMo_peek_316 fMo_36 sMo_36 (fun h => by cases h) rfl rfl rfl ?_
            refine pm_wk [1, 0] rfl ?_
            exact Mo_peek_n319 g d ex R hR J _ _ _ _   _ _ (((((hp.2 h50).2 h72).2.2.1 h102).2.1 h203).2.2.2 h306) (hF.trans (by first | (simp only [fMo_peek_16, if_neg h50, if_neg h72, if_pos h102, if_pos h203, if_neg h306]; done) | (simp only [fMo_peek_16, if_neg h50, if_neg h72, if_pos h102, if_pos h203, if_neg h306]; rfl) | rfl))
        ·
          refine pm_wk [1, 0] rfl ?_
          exact Mo_peek_n206 g d ex R hR J _ _ _ _  n206 _ _ ((((hp.2 h50).2 h72).2.2.1 h102).2.2 h203) (hF.trans (by first | (simp only [fMo_peek_16, if_neg h50, if_neg h72, if_pos h102, if_neg h203]; done) | (simp only [fMo_peek_16, if_neg h50, if_neg h72, if_pos h102, if_neg h203]; rfl) | rfl))
      ·
        refine pm_wk [1, 0] rfl ?_
        exact Mo_peek_n105 g d ex R hR J _ _ _ _  n105 _ _ (((hp.2 h50).2 h72).2.2.2 h102) (hF.trans (by first | (simp only [fMo_peek_16, if_neg h50, if_neg h72, if_neg h102]; done) | (simp only [fMo_peek_16, if_neg h50, if_neg h72, if_neg h102]; rfl) | rfl))
    ·
      refine pt_wr (e := 4) (w := (I 40 5)) (v2 := some (.int 0)) dMo_peek_75 dMo_peek_78 nMo_187 (by decide) (hF.trans (by first | (simp only [fMo_peek_16, if_neg h50, if_pos h72]; done) | (simp only [fMo_peek_16, if_neg h50, if_pos h72]; rfl) | rfl)) ?_
      refine pm_iconst (v := 4) dMo_peek_79 (by decide) ?_
      refine pm_aload_n dMo_peek_80 rfl ?_
      refine pm_geti dMo_peek_81 fMo_27 rfl ?_
      refine pm_eqi (I 40 5) ((congrFun (pm_z_n _ _ (mk_ne ex)) _).trans rfl) ?_
      exact pt_wi dMo_peek_84 lMo_189 dMo_peek_87 (by decide +kernel) (Nat.le_of_ble_eq_true rfl)
  ·
    refine pm_iconst (v := 0) dMo_peek_53 (by decide) ?_
    exact pt_iret dMo_peek_54 rfl (hF.trans (by first | (simp only [fMo_peek_16, if_pos h50]; done) | (simp only [fMo_peek_16, if_pos h50]; rfl) | rfl))
set_option maxHeartbeats 4000000 in
set_option maxRecDepth 100000 in
theorem Mo_peek_n0 (g : pmG) (d : Nat) (ex : List (Nat × Nat)) (R : Nat → Nat → Value) (hR : mk_R R) (J : Nat → Nat → Int64) (o : Outcome) (Z : pmM) (rc rs : Nat) (n105 : Nat) (n206 : Nat) (I : Nat → Nat → Int32) (hp : pMo_peek n105 n206 I) (hF : (o, Z, rc, rs) = pt_I (mk_K ++ ex) R J (fMo_peek n105 n206 I)) : pmE g kMo_peek (d + 8) rc rs 0 [(0, .ref 40)] [] (mk_K ++ ex) R I J o Z := by
  unfold pMo_peek at hp
  refine pm_aload_n dMo_peek_0 rfl ?_
  refine pm_geti dMo_peek_1 fMo_42 rfl ?_
  refine pm_if_eq 12 dMo_peek_4 (by decide) (fun h4 => ?_) (fun h4 => ?_)
  ·
    refine pm_aload_n dMo_peek_12 rfl ?_
    refine pm_callV dMo_peek_13 lMo_184 vMo_parts ⟨_, _, rfl⟩ (Mo_parts_ok _ _ _ _ hR _ _ _ _ (hp.1 h4).1) rfl rfl rfl (Nat.le_of_ble_eq_true rfl) (Nat.le_refl _) (Nat.le_refl _) ?_
    refine pm_wk [0] rfl ?_
    exact Mo_peek_n16 g d ex R hR J _ _ _ _  n105 n206 _ (hp.1 h4).2 (hF.trans (by first | (simp only [fMo_peek, if_pos h4]; done) | (simp only [fMo_peek, if_pos h4]; rfl) | rfl))
  ·
    refine pm_aload_n dMo_peek_7 rfl ?_
    refine pm_geti dMo_peek_8 fMo_30 rfl ?_
    exact pt_iret dMo_peek_11 rfl (hF.trans (by first | (simp only [fMo_peek, if_neg h4]; done) | (simp only [fMo_peek, if_neg h4]; rfl) | rfl))
set_option maxHeartbeats 4000000 in
set_option maxRecDepth 100000 in
theorem Mo_peek_ok (g : pmG) (d : Nat) (ex : List (Nat × Nat)) (R : Nat → Nat → Value) (hR : mk_R R) (n105 : Nat) (n206 : Nat)  (I : Nat → Nat → Int32) (J : Nat → Nat → Int64) (hp : pMo_peek n105 n206 I) : pmT g kMo_peek (d + 8) [.ref 40] (mk_K ++ ex, R, I, J) (pt_I (mk_K ++ ex) R J (fMo_peek n105 n206 I)) :=
  pmC.of (by decide) (Nat.le_of_ble_eq_true rfl) (Mo_peek_n0 g d ex R hR J _ _ _ _ n105 n206  I hp rfl)
def fMo_cant (I : Nat → Nat → Int32) : Int32 × Int32 × (Nat → Nat → Int32) := if (fMo_peek 65537 65537 I).1 = 0 then (1, (fMo_peek 65537 65537 I).2.2.2 40 7, (fMo_peek 65537 65537 I).2.2.2) else ((fMo_peek 65537 65537 I).1, (fMo_peek 65537 65537 I).2.1, (fMo_peek 65537 65537 I).2.2.2)
def pMo_cant (I : Nat → Nat → Int32) : Prop := pMo_peek 65537 65537 I
theorem fMo_cant_ne (I : Nat → Nat → Int32) : ¬ (fMo_cant I).1 = 0 := by
  unfold fMo_cant
  by_cases h : (fMo_peek 65537 65537 I).1 = 0
  · rw [if_pos h]; show ¬ (1 : Int32) = 0; decide
  · rw [if_neg h]; exact h
theorem Mo_cant_ok (g : pmG) (d : Nat) (ex : List (Nat × Nat)) (R : Nat → Nat → Value) (hR : mk_R R) (I : Nat → Nat → Int32) (J : Nat → Nat → Int64) (hp : pMo_cant I) : pmC g kMo_cant (d + 9) 1 8 [.ref 40] (mk_K ++ ex, R, I, J) (if (fMo_peek 65537 65537 I).1 = 0 then .returned (some (.ref (mk_K ++ ex).length)) else .threw (mk_K ++ ex).length) (pt_w (mk_K ++ ex) R (fMo_cant I).2.2 J (fMo_cant I).1 (fMo_cant I).2.1) := by
  have hc := Mo_peek_ok g (d + 0) ex R hR 65537 65537 I J hp
  refine pmC.of (by decide) (Nat.le_of_ble_eq_true rfl) ?_
  refine pm_aload_n dMo_cant_0 rfl ?_
  by_cases he : (fMo_peek 65537 65537 I).1 = 0
  · rw [show pt_I (mk_K ++ ex) R J (fMo_peek 65537 65537 I) = (.returned (some (.int (fMo_peek 65537 65537 I).2.2.1)), (mk_K ++ ex, R, (fMo_peek 65537 65537 I).2.2.2, J), 0, 0) from if_pos he] at hc
    rw [if_pos he, show fMo_cant I = (1, (fMo_peek 65537 65537 I).2.2.2 40 7, (fMo_peek 65537 65537 I).2.2.2) from if_pos he]
    refine pm_callV (rc1 := 1) (rs1 := 8) dMo_cant_1 lMo_207 vMo_peek ⟨_, _, rfl⟩ hc rfl rfl rfl (Nat.le_of_ble_eq_true rfl) (Nat.le_refl _) (Nat.le_refl _) ?_
    refine pm_pop dMo_cant_4 rfl ?_
    refine pm_new (rc := 0) (rs := 0) (N := 8) dMo_cant_5 nMo_187 ?_
    refine pm_dup dMo_cant_8 rfl ?_
    refine pm_iconst (v := 1) dMo_cant_9 (by decide) ?_
    refine pm_aload_n dMo_cant_10 rfl ?_
    refine pm_geti dMo_cant_11 fMo_33 rfl ?_
    refine pm_eqi ((fMo_peek 65537 65537 I).2.2.2 40 7) (congrFun (pm_z_n _ _ (mk_ne ex)) _) ?_
    refine pm_callI (rc1 := 0) (rs1 := 0) dMo_cant_14 lMo_189 iWr_init (Wr_init_ok g _ _ _ _ _ _ _) rfl rfl (Nat.le_of_ble_eq_true rfl) (Nat.le_refl _) (Nat.le_refl _) ?_
    exact pm_aret dMo_cant_17 rfl (Or.inl ⟨_, rfl⟩) (Or.inr ⟨_, rfl⟩) rfl rfl
  · rw [show pt_I (mk_K ++ ex) R J (fMo_peek 65537 65537 I) = (.threw (mk_K ++ ex).length, pt_w (mk_K ++ ex) R (fMo_peek 65537 65537 I).2.2.2 J (fMo_peek 65537 65537 I).1 (fMo_peek 65537 65537 I).2.1, 1, 8) from if_neg he] at hc
    rw [if_neg he, show fMo_cant I = ((fMo_peek 65537 65537 I).1, (fMo_peek 65537 65537 I).2.1, (fMo_peek 65537 65537 I).2.2.2) from if_neg he]
    exact pm_callVT dMo_cant_1 lMo_207 vMo_peek ⟨_, _, rfl⟩ hc rfl rfl rfl (Nat.le_of_ble_eq_true rfl) (Nat.le_refl _) (Nat.le_refl _) (by decide +kernel) rfl rfl
def fMo_take_4  (z0 : Int32) (I : Nat → Nat → Int32) : Int32 × Int32 × (Nat → Nat → Int32) :=
  (0, 0, pm_u (pm_u I 40 5 (I 40 8)) 40 10 (0 : Int32))
def pMo_take_4  (z0 : Int32) (I : Nat → Nat → Int32) : Prop :=
  True
def fMo_take  (I : Nat → Nat → Int32) : Int32 × Int32 × (Nat → Nat → Int32) :=
  if (fMo_peek 65537 65537 I).1 = 0 then fMo_take_4 ((fMo_peek 65537 65537 I).2.2.1) ((fMo_peek 65537 65537 I).2.2.2)
  else ((fMo_peek 65537 65537 I).1, (fMo_peek 65537 65537 I).2.1, (fMo_peek 65537 65537 I).2.2.2)
def pMo_take  (I : Nat → Nat → Int32) : Prop :=
  (pMo_peek 65537 65537 I) ∧ ((fMo_peek 65537 65537 I).1 = 0 → pMo_take_4 ((fMo_peek 65537 65537 I).2.2.1) ((fMo_peek 65537 65537 I).2.2.2))
set_option maxHeartbeats 4000000 in
set_option maxRecDepth 100000 in
theorem Mo_take_n4 (g : pmG) (d : Nat) (ex : List (Nat × Nat)) (R : Nat → Nat → Value) (hR : mk_R R) (J : Nat → Nat → Int64) (o : Outcome) (Z : pmM) (rc rs : Nat)  (z0 : Int32) (I : Nat → Nat → Int32) (hp : pMo_take_4 z0 I) (hF : (o, Z, rc, rs) = pt_V (mk_K ++ ex) R J (fMo_take_4 z0 I)) : pmE g kMo_take (d + 9) rc rs 4 [(0, .ref 40)] [.int z0] (mk_K ++ ex) R I J o Z := by
  unfold pMo_take_4 at hp
  refine pm_pop dMo_take_4 rfl ?_
  refine pm_aload_n dMo_take_5 rfl ?_
  refine pm_aload_n dMo_take_6 rfl ?_
  refine pm_geti dMo_take_7 fMo_36 rfl ?_
  refine pm_puti dMo_take_10 fMo_27 sMo_27 (fun h => by cases h) rfl rfl rfl ?_
  refine pm_aload_n dMo_take_13 rfl ?_
  refine pm_iconst (v := 0) dMo_take_14 (by decide) ?_
  refine pm_puti dMo_take_15 fMo_42 sMo_42 (fun h => by cases h) rfl (by decide) rfl ?_
  exact pt_vret dMo_take_18 rfl (hF.trans (by first | (simp only [fMo_take_4]; done) | (simp only [fMo_take_4]; rfl) | rfl))
set_option maxHeartbeats 4000000 in
set_option maxRecDepth 100000 in
theorem Mo_take_n0 (g : pmG) (d : Nat) (ex : List (Nat × Nat)) (R : Nat → Nat → Value) (hR : mk_R R) (J : Nat → Nat → Int64) (o : Outcome) (Z : pmM) (rc rs : Nat)  (I : Nat → Nat → Int32) (hp : pMo_take I) (hF : (o, Z, rc, rs) = pt_V (mk_K ++ ex) R J (fMo_take I)) : pmE g kMo_take (d + 9) rc rs 0 [(0, .ref 40)] [] (mk_K ++ ex) R I J o Z := by
  unfold pMo_take at hp
  refine pm_aload_n dMo_take_0 rfl ?_
  refine pt_callV (v2 := none) dMo_take_1 lMo_207 vMo_peek ⟨_, _, rfl⟩ (Mo_peek_ok _ _ _ _ hR _ _ _ _ hp.1) rfl rfl rfl (Nat.le_of_ble_eq_true rfl) (fun h1 => ?_) (fun h1 => hF.trans (by first | (simp only [fMo_take, if_neg h1]; done) | (simp only [fMo_take, if_neg h1]; rfl) | rfl))
  refine pm_wk [0] rfl ?_
  exact Mo_take_n4 g d ex R hR J _ _ _ _   _ _ (hp.2 h1) (hF.trans (by first | (simp only [fMo_take, if_pos h1]; done) | (simp only [fMo_take, if_pos h1]; rfl) | rfl))
set_option maxHeartbeats 4000000 in
set_option maxRecDepth 100000 in
theorem Mo_take_ok (g : pmG) (d : Nat) (ex : List (Nat × Nat)) (R : Nat → Nat → Value) (hR : mk_R R)   (I : Nat → Nat → Int32) (J : Nat → Nat → Int64) (hp : pMo_take I) : pmT g kMo_take (d + 9) [.ref 40] (mk_K ++ ex, R, I, J) (pt_V (mk_K ++ ex) R J (fMo_take I)) :=
  pmC.of (by decide) (Nat.le_of_ble_eq_true rfl) (Mo_take_n0 g d ex R hR J _ _ _ _   I hp rfl)
def fMo_must_4  (y1 : Int32) (z0 : Int32) (I : Nat → Nat → Int32) : Int32 × Int32 × (Nat → Nat → Int32) :=
  if z0 = y1 then if (fMo_take I).1 = 0 then (0, 0, (fMo_take I).2.2)
    else ((fMo_take I).1, (fMo_take I).2.1, (fMo_take I).2.2)
  else ((fMo_cant I).1, (fMo_cant I).2.1, (fMo_cant I).2.2)
def pMo_must_4  (y1 : Int32) (z0 : Int32) (I : Nat → Nat → Int32) : Prop :=
  (z0 = y1 → (pMo_take I) ∧ ((fMo_take I).1 = 0 → True)) ∧
  (¬ (z0 = y1) → pMo_cant I)
def fMo_must  (y1 : Int32) (I : Nat → Nat → Int32) : Int32 × Int32 × (Nat → Nat → Int32) :=
  if (fMo_peek 65537 65537 I).1 = 0 then fMo_must_4 y1 ((fMo_peek 65537 65537 I).2.2.1) ((fMo_peek 65537 65537 I).2.2.2)
  else ((fMo_peek 65537 65537 I).1, (fMo_peek 65537 65537 I).2.1, (fMo_peek 65537 65537 I).2.2.2)
def pMo_must  (y1 : Int32) (I : Nat → Nat → Int32) : Prop :=
  (pMo_peek 65537 65537 I) ∧ ((fMo_peek 65537 65537 I).1 = 0 → pMo_must_4 y1 ((fMo_peek 65537 65537 I).2.2.1) ((fMo_peek 65537 65537 I).2.2.2))
set_option maxHeartbeats 4000000 in
set_option maxRecDepth 100000 in
theorem Mo_must_n4 (g : pmG) (d : Nat) (ex : List (Nat × Nat)) (R : Nat → Nat → Value) (hR : mk_R R) (J : Nat → Nat → Int64) (o : Outcome) (Z : pmM) (rc rs : Nat)  (y1 : Int32) (z0 : Int32) (I : Nat → Nat → Int32) (hp : pMo_must_4 y1 z0 I) (hF : (o, Z, rc, rs) = pt_V (mk_K ++ ex) R J (fMo_must_4 y1 z0 I)) : pmE g kMo_must (d + 10) rc rs 4 [(0, .ref 40), (1, .int y1)] [.int z0] (mk_K ++ ex) R I J o Z := by
  unfold pMo_must_4 at hp
  refine pm_iload_n dMo_must_4 rfl ?_
  refine pm_icmp_eq 13 dMo_must_5 (by decide) (fun h5 => ?_) (fun h5 => ?_)
  ·
    refine pm_aload_n dMo_must_13 rfl ?_
    refine pt_callV (v2 := none) dMo_must_14 lMo_215 vMo_take ⟨_, _, rfl⟩ (Mo_take_ok _ _ _ _ hR  _ _ (hp.1 h5).1) rfl rfl rfl (Nat.le_of_ble_eq_true rfl) (fun h14 => ?_) (fun h14 => hF.trans (by first | (simp only [fMo_must_4, if_pos h5, if_neg h14]; done) | (simp only [fMo_must_4, if_pos h5, if_neg h14]; rfl) | rfl))
    exact pt_vret dMo_must_17 rfl (hF.trans (by first | (simp only [fMo_must_4, if_pos h5, if_pos h14]; done) | (simp only [fMo_must_4, if_pos h5, if_pos h14]; rfl) | rfl))
  ·
    refine pm_aload_n dMo_must_8 rfl ?_
    exact pt_cant (v2 := none) dMo_must_9 lMo_211 vMo_cant ⟨_, _, rfl⟩ (Mo_cant_ok _ _ _ _ hR _ _ (hp.2 h5)) dMo_must_12 rfl (by decide +kernel) (Nat.le_of_ble_eq_true rfl) (fMo_cant_ne _) (hF.trans (by first | (simp only [fMo_must_4, if_neg h5]; done) | (simp only [fMo_must_4, if_neg h5]; rfl) | rfl))
set_option maxHeartbeats 4000000 in
set_option maxRecDepth 100000 in
theorem Mo_must_n0 (g : pmG) (d : Nat) (ex : List (Nat × Nat)) (R : Nat → Nat → Value) (hR : mk_R R) (J : Nat → Nat → Int64) (o : Outcome) (Z : pmM) (rc rs : Nat)  (y1 : Int32) (I : Nat → Nat → Int32) (hp : pMo_must y1 I) (hF : (o, Z, rc, rs) = pt_V (mk_K ++ ex) R J (fMo_must y1 I)) : pmE g kMo_must (d + 10) rc rs 0 [(0, .ref 40), (1, .int y1)] [] (mk_K ++ ex) R I J o Z := by
  unfold pMo_must at hp
  refine pm_aload_n dMo_must_0 rfl ?_
  refine pt_callV (v2 := none) dMo_must_1 lMo_207 vMo_peek ⟨_, _, rfl⟩ (Mo_peek_ok _ _ _ _ hR _ _ _ _ hp.1) rfl rfl rfl (Nat.le_of_ble_eq_true rfl) (fun h1 => ?_) (fun h1 => hF.trans (by first | (simp only [fMo_must, if_neg h1]; done) | (simp only [fMo_must, if_neg h1]; rfl) | rfl))
  refine pm_wk [0, 1] rfl ?_
  exact Mo_must_n4 g d ex R hR J _ _ _ _   _ _ _ (hp.2 h1) (hF.trans (by first | (simp only [fMo_must, if_pos h1]; done) | (simp only [fMo_must, if_pos h1]; rfl) | rfl))
set_option maxHeartbeats 4000000 in
set_option maxRecDepth 100000 in
theorem Mo_must_ok (g : pmG) (d : Nat) (ex : List (Nat × Nat)) (R : Nat → Nat → Value) (hR : mk_R R)  (x0 : Int32) (I : Nat → Nat → Int32) (J : Nat → Nat → Int64) (hp : pMo_must x0 I) : pmT g kMo_must (d + 10) [.ref 40, .int x0] (mk_K ++ ex, R, I, J) (pt_V (mk_K ++ ex) R J (fMo_must x0 I)) :=
  pmC.of (by decide) (Nat.le_of_ble_eq_true rfl) (Mo_must_n0 g d ex R hR J _ _ _ _  x0 I hp rfl)
def fMo_nest_14  (y1 : Int32) (z0 : Int32) (I : Nat → Nat → Int32) : Int32 × Int32 × Int32 × (Nat → Nat → Int32) :=
  (4, I 40 7, 0, I)
def pMo_nest_14  (y1 : Int32) (z0 : Int32) (I : Nat → Nat → Int32) : Prop :=
  True
def fMo_nest  (y1 : Int32) (I : Nat → Nat → Int32) : Int32 × Int32 × Int32 × (Nat → Nat → Int32) :=
  if (40 : Int32) ≤ y1 then if (fMo_peek 65537 65537 I).1 = 0 then fMo_nest_14 y1 ((fMo_peek 65537 65537 I).2.2.1) ((fMo_peek 65537 65537 I).2.2.2)
    else ((fMo_peek 65537 65537 I).1, (fMo_peek 65537 65537 I).2.1, 0, (fMo_peek 65537 65537 I).2.2.2)
  else (0, 0, y1 + (1 : Int32), I)
def pMo_nest  (y1 : Int32) (I : Nat → Nat → Int32) : Prop :=
  ((40 : Int32) ≤ y1 → (pMo_peek 65537 65537 I) ∧ ((fMo_peek 65537 65537 I).1 = 0 → pMo_nest_14 y1 ((fMo_peek 65537 65537 I).2.2.1) ((fMo_peek 65537 65537 I).2.2.2))) ∧
  (¬ ((40 : Int32) ≤ y1) → True)
set_option maxHeartbeats 4000000 in
set_option maxRecDepth 100000 in
theorem Mo_nest_n14 (g : pmG) (d : Nat) (ex : List (Nat × Nat)) (R : Nat → Nat → Value) (hR : mk_R R) (J : Nat → Nat → Int64) (o : Outcome) (Z : pmM) (rc rs : Nat)  (y1 : Int32) (z0 : Int32) (I : Nat → Nat → Int32) (hp : pMo_nest_14 y1 z0 I) (hF : (o, Z, rc, rs) = pt_I (mk_K ++ ex) R J (fMo_nest_14 y1 z0 I)) : pmE g kMo_nest (d + 9) rc rs 14 [(0, .ref 40), (1, .int y1)] [.int z0] (mk_K ++ ex) R I J o Z := by
  unfold pMo_nest_14 at hp
  refine pm_pop dMo_nest_14 rfl ?_
  refine pt_wr (e := 4) (w := (I 40 7)) (v2 := some (.int 0)) dMo_nest_15 dMo_nest_18 nMo_187 (by decide) (hF.trans (by first | (simp only [fMo_nest_14]; done) | (simp only [fMo_nest_14]; rfl) | rfl)) ?_
  refine pm_iconst (v := 4) dMo_nest_19 (by decide) ?_
  refine pm_aload_n dMo_nest_20 rfl ?_
  refine pm_geti dMo_nest_21 fMo_33 rfl ?_
  refine pm_eqi (I 40 7) (congrFun (pm_z_n _ _ (mk_ne ex)) _) ?_
  exact pt_wi dMo_nest_24 lMo_189 dMo_nest_27 (by decide +kernel) (Nat.le_of_ble_eq_true rfl)
set_option maxHeartbeats 4000000 in
set_option maxRecDepth 100000 in
theorem Mo_nest_n0 (g : pmG) (d : Nat) (ex : List (Nat × Nat)) (R : Nat → Nat → Value) (hR : mk_R R) (J : Nat → Nat → Int64) (o : Outcome) (Z : pmM) (rc rs : Nat)  (y1 : Int32) (I : Nat → Nat → Int32) (hp : pMo_nest y1 I) (hF : (o, Z, rc, rs) = pt_I (mk_K ++ ex) R J (fMo_nest y1 I)) : pmE g kMo_nest (d + 9) rc rs 0 [(0, .ref 40), (1, .int y1)] [] (mk_K ++ ex) R I J o Z := by
  unfold pMo_nest at hp
  refine pm_iload_n dMo_nest_0 rfl ?_
  refine pm_bipush (v := 40) dMo_nest_1 (by decide) ?_
  refine pm_icmp_ge 10 dMo_nest_3 (by decide) (fun h3 => ?_) (fun h3 => ?_)
  ·
    refine pm_aload_n dMo_nest_10 rfl ?_
    refine pt_callV (v2 := some (.int 0)) dMo_nest_11 lMo_207 vMo_peek ⟨_, _, rfl⟩ (Mo_peek_ok _ _ _ _ hR _ _ _ _ (hp.1 h3).1) rfl rfl rfl (Nat.le_of_ble_eq_true rfl) (fun h11 => ?_) (fun h11 => hF.trans (by first | (simp only [fMo_nest, if_pos h3, if_neg h11]; done) | (simp only [fMo_nest, if_pos h3, if_neg h11]; rfl) | rfl))
    refine pm_wk [0, 1] rfl ?_
    exact Mo_nest_n14 g d ex R hR J _ _ _ _   _ _ _ ((hp.1 h3).2 h11) (hF.trans (by first | (simp only [fMo_nest, if_pos h3, if_pos h11]; done) | (simp only [fMo_nest, if_pos h3, if_pos h11]; rfl) | rfl))
  ·
    refine pm_iload_n dMo_nest_6 rfl ?_
    refine pm_iconst (v := 1) dMo_nest_7 (by decide) ?_
    refine pm_iadd dMo_nest_8 ?_
    exact pt_iret dMo_nest_9 rfl (hF.trans (by first | (simp only [fMo_nest, if_neg h3]; done) | (simp only [fMo_nest, if_neg h3]; rfl) | rfl))
set_option maxHeartbeats 4000000 in
set_option maxRecDepth 100000 in
theorem Mo_nest_ok (g : pmG) (d : Nat) (ex : List (Nat × Nat)) (R : Nat → Nat → Value) (hR : mk_R R)  (x0 : Int32) (I : Nat → Nat → Int32) (J : Nat → Nat → Int64) (hp : pMo_nest x0 I) : pmT g kMo_nest (d + 9) [.ref 40, .int x0] (mk_K ++ ex, R, I, J) (pt_I (mk_K ++ ex) R J (fMo_nest x0 I)) :=
  pmC.of (by decide) (Nat.le_of_ble_eq_true rfl) (Mo_nest_n0 g d ex R hR J _ _ _ _  x0 I hp rfl)
def fMo_is_17_24  (I : Nat → Nat → Int32) : Int32 × Int32 × Int32 × (Nat → Nat → Int32) :=
  (0, 0, (0 : Int32), I)
def pMo_is_17_24  (I : Nat → Nat → Int32) : Prop :=
  True
def fMo_is_17_28  : Nat → Int32 → (Nat → Nat → Int32) → Int32 × Int32 × Int32 × (Nat → Nat → Int32)
  | 0, _, I => (0, 0, 0, I)
  | n + 1, y2, I =>
  if fSg_length_17 ≤ y2 then (0, 0, (1 : Int32), I)
  else if (I 41 ((I 40 7) + y2).toNatClampNeg) = ((fSg_charAt_17 y2)) then fMo_is_17_28 n (y2 + Int32.ofInt 1) I
    else (0, 0, (0 : Int32), I)
def pMo_is_17_28  : Nat → Int32 → (Nat → Nat → Int32) → Prop
  | 0, _, _ => False
  | n + 1, y2, I =>
  pSg_length_17 ∧ ((fSg_length_17 ≤ y2 → True) ∧
  (¬ (fSg_length_17 ≤ y2) → (vp_in ((I 40 7) + y2) 65536) ∧ ((pSg_charAt_17 y2) ∧ (((I 41 ((I 40 7) + y2).toNatClampNeg) = ((fSg_charAt_17 y2)) → pMo_is_17_28 n (y2 + Int32.ofInt 1) I) ∧
    (¬ ((I 41 ((I 40 7) + y2).toNatClampNeg) = ((fSg_charAt_17 y2))) → True)))))
def fMo_is_17_4 (n28 : Nat) (z0 : Int32) (I : Nat → Nat → Int32) : Int32 × Int32 × Int32 × (Nat → Nat → Int32) :=
  if z0 = (1 : Int32) then if ((I 40 8) - (I 40 7)) = fSg_length_17 then fMo_is_17_28 n28 (0 : Int32) I
    else fMo_is_17_24 I
  else fMo_is_17_24 I
def pMo_is_17_4 (n28 : Nat) (z0 : Int32) (I : Nat → Nat → Int32) : Prop :=
  (z0 = (1 : Int32) → pSg_length_17 ∧ ((((I 40 8) - (I 40 7)) = fSg_length_17 → pMo_is_17_28 n28 (0 : Int32) I) ∧
    (¬ (((I 40 8) - (I 40 7)) = fSg_length_17) → pMo_is_17_24 I))) ∧
  (¬ (z0 = (1 : Int32)) → pMo_is_17_24 I)
def fMo_is_17 (n28 : Nat) (I : Nat → Nat → Int32) : Int32 × Int32 × Int32 × (Nat → Nat → Int32) :=
  if (fMo_peek 65537 65537 I).1 = 0 then fMo_is_17_4 n28 ((fMo_peek 65537 65537 I).2.2.1) ((fMo_peek 65537 65537 I).2.2.2)
  else ((fMo_peek 65537 65537 I).1, (fMo_peek 65537 65537 I).2.1, 0, (fMo_peek 65537 65537 I).2.2.2)
def pMo_is_17 (n28 : Nat) (I : Nat → Nat → Int32) : Prop :=
  (pMo_peek 65537 65537 I) ∧ ((fMo_peek 65537 65537 I).1 = 0 → pMo_is_17_4 n28 ((fMo_peek 65537 65537 I).2.2.1) ((fMo_peek 65537 65537 I).2.2.2))
set_option maxHeartbeats 4000000 in
set_option maxRecDepth 100000 in
theorem Mo_is_17_n24 (g : pmG) (d : Nat) (ex : List (Nat × Nat)) (R : Nat → Nat → Value) (hR : mk_R R) (J : Nat → Nat → Int64) (o : Outcome) (Z : pmM) (rc rs : Nat)  (I : Nat → Nat → Int32) (hp : pMo_is_17_24 I) (hF : (o, Z, rc, rs) = pt_I (mk_K ++ ex) R J (fMo_is_17_24 I)) : pmE g kMo_is (d + 9) rc rs 24 [(0, .ref 40), (1, .retAddr 17)] [] (mk_K ++ ex) R I J o Z := by
  unfold pMo_is_17_24 at hp
  refine pm_iconst (v := 0) dMo_is_24 (by decide) ?_
  exact pt_zret dMo_is_25 rfl (by first | rfl | decide) (hF.trans (by first | (simp only [fMo_is_17_24]; done) | (simp only [fMo_is_17_24]; rfl) | rfl))
set_option maxHeartbeats 4000000 in
set_option maxRecDepth 100000 in
theorem Mo_is_17_n28 (g : pmG) (d : Nat) (ex : List (Nat × Nat)) (R : Nat → Nat → Value) (hR : mk_R R) (J : Nat → Nat → Int64) (o : Outcome) (Z : pmM) (rc rs : Nat)  : ∀ (n : Nat) (y2 : Int32) (I : Nat → Nat → Int32), pMo_is_17_28 n y2 I → (o, Z, rc, rs) = pt_I (mk_K ++ ex) R J (fMo_is_17_28 n y2 I) → pmE g kMo_is (d + 9) rc rs 28 [(0, .ref 40), (1, .retAddr 17), (2, .int y2)] [] (mk_K ++ ex) R I J o Z := by
  intro n
  induction n with
  | zero => intro y2 I hp; exact False.elim hp
  | succ n ih =>
  intro y2 I hp hF
  simp only [pMo_is_17_28] at hp
  refine pm_iload_n dMo_is_28 rfl ?_
  refine pm_xload_n dMo_is_29 rfl ?_
  refine pm_callX (x := 7) dMo_is_30 lMo_218 vSg_length rfl (by decide) (Sg_length_17_ok _ _ _ _  _ _ hp.1) rfl rfl (Nat.le_of_ble_eq_true rfl) (Nat.le_refl _) (Nat.le_refl _) ?_
  refine pm_icmp_ge 63 dMo_is_33 (by decide) (fun h33 => ?_) (fun h33 => ?_)
  ·
    refine pm_iconst (v := 1) dMo_is_63 (by decide) ?_
    exact pt_zret dMo_is_64 rfl (by first | rfl | decide) (hF.trans (by first | (simp only [fMo_is_17_28, if_pos h33]; done) | (simp only [fMo_is_17_28, if_pos h33]; rfl) | rfl))
  ·
    refine pm_aload_n dMo_is_36 rfl ?_
    refine pm_getr dMo_is_37 fMo_8 rfl (rr_40_0 hR) ?_
    refine pm_aload_n dMo_is_40 rfl ?_
    refine pm_geti dMo_is_41 fMo_33 rfl ?_
    refine pm_iload_n dMo_is_44 rfl ?_
    refine pm_iadd dMo_is_45 ?_
    refine pm_bald dMo_is_46 rfl (hp.2.2 h33).1 ?_
    refine pm_xload_n dMo_is_47 rfl ?_
    refine pm_iload_n dMo_is_48 rfl ?_
    refine pm_callX (x := 7) dMo_is_49 lMo_223 vSg_charAt rfl (by decide) (Sg_charAt_17_ok _ _ _ _ _ _ _ (hp.2.2 h33).2.1) rfl rfl (Nat.le_of_ble_eq_true rfl) (Nat.le_refl _) (Nat.le_refl _) ?_
    refine pm_icmp_eq 57 dMo_is_52 (by decide) (fun h52 => ?_) (fun h52 => ?_)
    ·
      refine pm_iinc dMo_is_57 rfl (by decide) rfl ?_
      refine pm_goto 28 dMo_is_60 (by decide) ?_
      refine pm_wk [1, 2, 0] rfl ?_
      exact ih _ _ ((hp.2.2 h33).2.2.1 h52) (hF.trans (by first | (simp only [fMo_is_17_28, if_neg h33, if_pos h52]; done) | (simp only [fMo_is_17_28, if_neg h33, if_pos h52]; rfl) | rfl))
    ·
      refine pm_iconst (v := 0) dMo_is_55 (by decide) ?_
      exact pt_zret dMo_is_56 rfl (by first | rfl | decide) (hF.trans (by first | (simp only [fMo_is_17_28, if_neg h33, if_neg h52]; done) | (simp only [fMo_is_17_28, if_neg h33, if_neg h52]; rfl) | rfl))
set_option maxHeartbeats 4000000 in
set_option maxRecDepth 100000 in
theorem Mo_is_17_n4 (g : pmG) (d : Nat) (ex : List (Nat × Nat)) (R : Nat → Nat → Value) (hR : mk_R R) (J : Nat → Nat → Int64) (o : Outcome) (Z : pmM) (rc rs : Nat) (n28 : Nat) (z0 : Int32) (I : Nat → Nat → Int32) (hp : pMo_is_17_4 n28 z0 I) (hF : (o, Z, rc, rs) = pt_I (mk_K ++ ex) R J (fMo_is_17_4 n28 z0 I)) : pmE g kMo_is (d + 9) rc rs 4 [(0, .ref 40), (1, .retAddr 17)] [.int z0] (mk_K ++ ex) R I J o Z := by
  unfold pMo_is_17_4 at hp
  refine pm_iconst (v := 1) dMo_is_4 (by decide) ?_
  refine pm_icmp_ne 24 dMo_is_5 (by decide) (fun h5 => ?_) (fun h5 => ?_)
  ·
    refine pm_wk [0, 1] rfl ?_
    exact Mo_is_17_n24 g d ex R hR J _ _ _ _   _ (hp.2 h5) (hF.trans (by first | (simp only [fMo_is_17_4, if_neg h5]; done) | (simp only [fMo_is_17_4, if_neg h5]; rfl) | rfl))
  ·
    refine pm_aload_n dMo_is_8 rfl ?_
    refine pm_geti dMo_is_9 fMo_36 rfl ?_
    refine pm_aload_n dMo_is_12 rfl ?_
    refine pm_geti dMo_is_13 fMo_33 rfl ?_
    refine pm_isub dMo_is_16 ?_
    refine pm_xload_n dMo_is_17 rfl ?_
    refine pm_callX (x := 7) dMo_is_18 lMo_218 vSg_length rfl (by decide) (Sg_length_17_ok _ _ _ _  _ _ (hp.1 h5).1) rfl rfl (Nat.le_of_ble_eq_true rfl) (Nat.le_refl _) (Nat.le_refl _) ?_
    refine pm_icmp_eq 26 dMo_is_21 (by decide) (fun h21 => ?_) (fun h21 => ?_)
    ·
      refine pm_iconst (v := 0) dMo_is_26 (by decide) ?_
      refine pm_istore_n dMo_is_27 (by decide) rfl ?_
      refine pm_wk [1, 2, 0] rfl ?_
      exact Mo_is_17_n28 g d ex R hR J _ _ _ _  n28 _ _ ((hp.1 h5).2.1 h21) (hF.trans (by first | (simp only [fMo_is_17_4, if_pos h5, if_pos h21]; done) | (simp only [fMo_is_17_4, if_pos h5, if_pos h21]; rfl) | rfl))
    ·
      refine pm_wk [0, 1] rfl ?_
      exact Mo_is_17_n24 g d ex R hR J _ _ _ _   _ ((hp.1 h5).2.2 h21) (hF.trans (by first | (simp only [fMo_is_17_4, if_pos h5, if_neg h21]; done) | (simp only [fMo_is_17_4, if_pos h5, if_neg h21]; rfl) | rfl))
set_option maxHeartbeats 4000000 in
set_option maxRecDepth 100000 in
theorem Mo_is_17_n0 (g : pmG) (d : Nat) (ex : List (Nat × Nat)) (R : Nat → Nat → Value) (hR : mk_R R) (J : Nat → Nat → Int64) (o : Outcome) (Z : pmM) (rc rs : Nat) (n28 : Nat) (I : Nat → Nat → Int32) (hp : pMo_is_17 n28 I) (hF : (o, Z, rc, rs) = pt_I (mk_K ++ ex) R J (fMo_is_17 n28 I)) : pmE g kMo_is (d + 9) rc rs 0 [(0, .ref 40), (1, .retAddr 17)] [] (mk_K ++ ex) R I J o Z := by
  unfold pMo_is_17 at hp
  refine pm_aload_n dMo_is_0 rfl ?_
  refine pt_callV (v2 := some (.int 0)) dMo_is_1 lMo_207 vMo_peek ⟨_, _, rfl⟩ (Mo_peek_ok _ _ _ _ hR _ _ _ _ hp.1) rfl rfl rfl (Nat.le_of_ble_eq_true rfl) (fun h1 => ?_) (fun h1 => hF.trans (by first | (simp only [fMo_is_17, if_neg h1]; done) | (simp only [fMo_is_17, if_neg h1]; rfl) | rfl))
  refine pm_wk [0, 1] rfl ?_
  exact Mo_is_17_n4 g d ex R hR J _ _ _ _  n28 _ _ (hp.2 h1) (hF.trans (by first | (simp only [fMo_is_17, if_pos h1]; done) | (simp only [fMo_is_17, if_pos h1]; rfl) | rfl))
set_option maxHeartbeats 4000000 in
set_option maxRecDepth 100000 in
theorem Mo_is_17_ok (g : pmG) (d : Nat) (ex : List (Nat × Nat)) (R : Nat → Nat → Value) (hR : mk_R R) (n28 : Nat)  (I : Nat → Nat → Int32) (J : Nat → Nat → Int64) (hp : pMo_is_17 n28 I) : pmT g kMo_is (d + 9) [.ref 40, .retAddr 17] (mk_K ++ ex, R, I, J) (pt_I (mk_K ++ ex) R J (fMo_is_17 n28 I)) :=
  pmC.of (by decide) (Nat.le_of_ble_eq_true rfl) (Mo_is_17_n0 g d ex R hR J _ _ _ _ n28  I hp rfl)
def fMo_is_18_24  (I : Nat → Nat → Int32) : Int32 × Int32 × Int32 × (Nat → Nat → Int32) :=
  (0, 0, (0 : Int32), I)
def pMo_is_18_24  (I : Nat → Nat → Int32) : Prop :=
  True
def fMo_is_18_28  : Nat → Int32 → (Nat → Nat → Int32) → Int32 × Int32 × Int32 × (Nat → Nat → Int32)
  | 0, _, I => (0, 0, 0, I)
  | n + 1, y2, I =>
  if fSg_length_18 ≤ y2 then (0, 0, (1 : Int32), I)
  else if (I 41 ((I 40 7) + y2).toNatClampNeg) = ((fSg_charAt_18 y2)) then fMo_is_18_28 n (y2 + Int32.ofInt 1) I
    else (0, 0, (0 : Int32), I)
def pMo_is_18_28  : Nat → Int32 → (Nat → Nat → Int32) → Prop
  | 0, _, _ => False
  | n + 1, y2, I =>
  pSg_length_18 ∧ ((fSg_length_18 ≤ y2 → True) ∧
  (¬ (fSg_length_18 ≤ y2) → (vp_in ((I 40 7) + y2) 65536) ∧ ((pSg_charAt_18 y2) ∧ (((I 41 ((I 40 7) + y2).toNatClampNeg) = ((fSg_charAt_18 y2)) → pMo_is_18_28 n (y2 + Int32.ofInt 1) I) ∧
    (¬ ((I 41 ((I 40 7) + y2).toNatClampNeg) = ((fSg_charAt_18 y2))) → True)))))
def fMo_is_18_4 (n28 : Nat) (z0 : Int32) (I : Nat → Nat → Int32) : Int32 × Int32 × Int32 × (Nat → Nat → Int32) :=
  if z0 = (1 : Int32) then if ((I 40 8) - (I 40 7)) = fSg_length_18 then fMo_is_18_28 n28 (0 : Int32) I
    else fMo_is_18_24 I
  else fMo_is_18_24 I
def pMo_is_18_4 (n28 : Nat) (z0 : Int32) (I : Nat → Nat → Int32) : Prop :=
  (z0 = (1 : Int32) → pSg_length_18 ∧ ((((I 40 8) - (I 40 7)) = fSg_length_18 → pMo_is_18_28 n28 (0 : Int32) I) ∧
    (¬ (((I 40 8) - (I 40 7)) = fSg_length_18) → pMo_is_18_24 I))) ∧
  (¬ (z0 = (1 : Int32)) → pMo_is_18_24 I)
def fMo_is_18 (n28 : Nat) (I : Nat → Nat → Int32) : Int32 × Int32 × Int32 × (Nat → Nat → Int32) :=
  if (fMo_peek 65537 65537 I).1 = 0 then fMo_is_18_4 n28 ((fMo_peek 65537 65537 I).2.2.1) ((fMo_peek 65537 65537 I).2.2.2)
  else ((fMo_peek 65537 65537 I).1, (fMo_peek 65537 65537 I).2.1, 0, (fMo_peek 65537 65537 I).2.2.2)
def pMo_is_18 (n28 : Nat) (I : Nat → Nat → Int32) : Prop :=
  (pMo_peek 65537 65537 I) ∧ ((fMo_peek 65537 65537 I).1 = 0 → pMo_is_18_4 n28 ((fMo_peek 65537 65537 I).2.2.1) ((fMo_peek 65537 65537 I).2.2.2))
set_option maxHeartbeats 4000000 in
set_option maxRecDepth 100000 in
theorem Mo_is_18_n24 (g : pmG) (d : Nat) (ex : List (Nat × Nat)) (R : Nat → Nat → Value) (hR : mk_R R) (J : Nat → Nat → Int64) (o : Outcome) (Z : pmM) (rc rs : Nat)  (I : Nat → Nat → Int32) (hp : pMo_is_18_24 I) (hF : (o, Z, rc, rs) = pt_I (mk_K ++ ex) R J (fMo_is_18_24 I)) : pmE g kMo_is (d + 9) rc rs 24 [(0, .ref 40), (1, .retAddr 18)] [] (mk_K ++ ex) R I J o Z := by
  unfold pMo_is_18_24 at hp
  refine pm_iconst (v := 0) dMo_is_24 (by decide) ?_
  exact pt_zret dMo_is_25 rfl (by first | rfl | decide) (hF.trans (by first | (simp only [fMo_is_18_24]; done) | (simp only [fMo_is_18_24]; rfl) | rfl))
set_option maxHeartbeats 4000000 in
set_option maxRecDepth 100000 in
theorem Mo_is_18_n28 (g : pmG) (d : Nat) (ex : List (Nat × Nat)) (R : Nat → Nat → Value) (hR : mk_R R) (J : Nat → Nat → Int64) (o : Outcome) (Z : pmM) (rc rs : Nat)  : ∀ (n : Nat) (y2 : Int32) (I : Nat → Nat → Int32), pMo_is_18_28 n y2 I → (o, Z, rc, rs) = pt_I (mk_K ++ ex) R J (fMo_is_18_28 n y2 I) → pmE g kMo_is (d + 9) rc rs 28 [(0, .ref 40), (1, .retAddr 18), (2, .int y2)] [] (mk_K ++ ex) R I J o Z := by
  intro n
  induction n with
  | zero => intro y2 I hp; exact False.elim hp
  | succ n ih =>
  intro y2 I hp hF
  simp only [pMo_is_18_28] at hp
  refine pm_iload_n dMo_is_28 rfl ?_
  refine pm_xload_n dMo_is_29 rfl ?_
  refine pm_callX (x := 8) dMo_is_30 lMo_218 vSg_length rfl (by decide) (Sg_length_18_ok _ _ _ _  _ _ hp.1) rfl rfl (Nat.le_of_ble_eq_true rfl) (Nat.le_refl _) (Nat.le_refl _) ?_
  refine pm_icmp_ge 63 dMo_is_33 (by decide) (fun h33 => ?_) (fun h33 => ?_)
  ·
    refine pm_iconst (v := 1) dMo_is_63 (by decide) ?_
    exact pt_zret dMo_is_64 rfl (by first | rfl | decide) (hF.trans (by first | (simp only [fMo_is_18_28, if_pos h33]; done) | (simp only [fMo_is_18_28, if_pos h33]; rfl) | rfl))
  ·
    refine pm_aload_n dMo_is_36 rfl ?_
    refine pm_getr dMo_is_37 fMo_8 rfl (rr_40_0 hR) ?_
    refine pm_aload_n dMo_is_40 rfl ?_
    refine pm_geti dMo_is_41 fMo_33 rfl ?_
    refine pm_iload_n dMo_is_44 rfl ?_
    refine pm_iadd dMo_is_45 ?_
    refine pm_bald dMo_is_46 rfl (hp.2.2 h33).1 ?_
    refine pm_xload_n dMo_is_47 rfl ?_
    refine pm_iload_n dMo_is_48 rfl ?_
    refine pm_callX (x := 8) dMo_is_49 lMo_223 vSg_charAt rfl (by decide) (Sg_charAt_18_ok _ _ _ _ _ _ _ (hp.2.2 h33).2.1) rfl rfl (Nat.le_of_ble_eq_true rfl) (Nat.le_refl _) (Nat.le_refl _) ?_
    refine pm_icmp_eq 57 dMo_is_52 (by decide) (fun h52 => ?_) (fun h52 => ?_)
    ·
      refine pm_iinc dMo_is_57 rfl (by decide) rfl ?_
      refine pm_goto 28 dMo_is_60 (by decide) ?_
      refine pm_wk [1, 2, 0] rfl ?_
      exact ih _ _ ((hp.2.2 h33).2.2.1 h52) (hF.trans (by first | (simp only [fMo_is_18_28, if_neg h33, if_pos h52]; done) | (simp only [fMo_is_18_28, if_neg h33, if_pos h52]; rfl) | rfl))
    ·
      refine pm_iconst (v := 0) dMo_is_55 (by decide) ?_
      exact pt_zret dMo_is_56 rfl (by first | rfl | decide) (hF.trans (by first | (simp only [fMo_is_18_28, if_neg h33, if_neg h52]; done) | (simp only [fMo_is_18_28, if_neg h33, if_neg h52]; rfl) | rfl))
set_option maxHeartbeats 4000000 in
set_option maxRecDepth 100000 in
theorem Mo_is_18_n4 (g : pmG) (d : Nat) (ex : List (Nat × Nat)) (R : Nat → Nat → Value) (hR : mk_R R) (J : Nat → Nat → Int64) (o : Outcome) (Z : pmM) (rc rs : Nat) (n28 : Nat) (z0 : Int32) (I : Nat → Nat → Int32) (hp : pMo_is_18_4 n28 z0 I) (hF : (o, Z, rc, rs) = pt_I (mk_K ++ ex) R J (fMo_is_18_4 n28 z0 I)) : pmE g kMo_is (d + 9) rc rs 4 [(0, .ref 40), (1, .retAddr 18)] [.int z0] (mk_K ++ ex) R I J o Z := by
  unfold pMo_is_18_4 at hp
  refine pm_iconst (v := 1) dMo_is_4 (by decide) ?_
  refine pm_icmp_ne 24 dMo_is_5 (by decide) (fun h5 => ?_) (fun h5 => ?_)
  ·
    refine pm_wk [0, 1] rfl ?_
    exact Mo_is_18_n24 g d ex R hR J _ _ _ _   _ (hp.2 h5) (hF.trans (by first | (simp only [fMo_is_18_4, if_neg h5]; done) | (simp only [fMo_is_18_4, if_neg h5]; rfl) | rfl))
  ·
    refine pm_aload_n dMo_is_8 rfl ?_
    refine pm_geti dMo_is_9 fMo_36 rfl ?_
    refine pm_aload_n dMo_is_12 rfl ?_
    refine pm_geti dMo_is_13 fMo_33 rfl ?_
    refine pm_isub dMo_is_16 ?_
    refine pm_xload_n dMo_is_17 rfl ?_
    refine pm_callX (x := 8) dMo_is_18 lMo_218 vSg_length rfl (by decide) (Sg_length_18_ok _ _ _ _  _ _ (hp.1 h5).1) rfl rfl (Nat.le_of_ble_eq_true rfl) (Nat.le_refl _) (Nat.le_refl _) ?_
    refine pm_icmp_eq 26 dMo_is_21 (by decide) (fun h21 => ?_) (fun h21 => ?_)
    ·
      refine pm_iconst (v := 0) dMo_is_26 (by decide) ?_
      refine pm_istore_n dMo_is_27 (by decide) rfl ?_
      refine pm_wk [1, 2, 0] rfl ?_
      exact Mo_is_18_n28 g d ex R hR J _ _ _ _  n28 _ _ ((hp.1 h5).2.1 h21) (hF.trans (by first | (simp only [fMo_is_18_4, if_pos h5, if_pos h21]; done) | (simp only [fMo_is_18_4, if_pos h5, if_pos h21]; rfl) | rfl))
    ·
      refine pm_wk [0, 1] rfl ?_
      exact Mo_is_18_n24 g d ex R hR J _ _ _ _   _ ((hp.1 h5).2.2 h21) (hF.trans (by first | (simp only [fMo_is_18_4, if_pos h5, if_neg h21]; done) | (simp only [fMo_is_18_4, if_pos h5, if_neg h21]; rfl) | rfl))
set_option maxHeartbeats 4000000 in
set_option maxRecDepth 100000 in
theorem Mo_is_18_n0 (g : pmG) (d : Nat) (ex : List (Nat × Nat)) (R : Nat → Nat → Value) (hR : mk_R R) (J : Nat → Nat → Int64) (o : Outcome) (Z : pmM) (rc rs : Nat) (n28 : Nat) (I : Nat → Nat → Int32) (hp : pMo_is_18 n28 I) (hF : (o, Z, rc, rs) = pt_I (mk_K ++ ex) R J (fMo_is_18 n28 I)) : pmE g kMo_is (d + 9) rc rs 0 [(0, .ref 40), (1, .retAddr 18)] [] (mk_K ++ ex) R I J o Z := by
  unfold pMo_is_18 at hp
  refine pm_aload_n dMo_is_0 rfl ?_
  refine pt_callV (v2 := some (.int 0)) dMo_is_1 lMo_207 vMo_peek ⟨_, _, rfl⟩ (Mo_peek_ok _ _ _ _ hR _ _ _ _ hp.1) rfl rfl rfl (Nat.le_of_ble_eq_true rfl) (fun h1 => ?_) (fun h1 => hF.trans (by first | (simp only [fMo_is_18, if_neg h1]; done) | (simp only [fMo_is_18, if_neg h1]; rfl) | rfl))
  refine pm_wk [0, 1] rfl ?_
  exact Mo_is_18_n4 g d ex R hR J _ _ _ _  n28 _ _ (hp.2 h1) (hF.trans (by first | (simp only [fMo_is_18, if_pos h1]; done) | (simp only [fMo_is_18, if_pos h1]; rfl) | rfl))
set_option maxHeartbeats 4000000 in
set_option maxRecDepth 100000 in
theorem Mo_is_18_ok (g : pmG) (d : Nat) (ex : List (Nat × Nat)) (R : Nat → Nat → Value) (hR : mk_R R) (n28 : Nat)  (I : Nat → Nat → Int32) (J : Nat → Nat → Int64) (hp : pMo_is_18 n28 I) : pmT g kMo_is (d + 9) [.ref 40, .retAddr 18] (mk_K ++ ex, R, I, J) (pt_I (mk_K ++ ex) R J (fMo_is_18 n28 I)) :=
  pmC.of (by decide) (Nat.le_of_ble_eq_true rfl) (Mo_is_18_n0 g d ex R hR J _ _ _ _ n28  I hp rfl)
def fMo_is_19_24  (I : Nat → Nat → Int32) : Int32 × Int32 × Int32 × (Nat → Nat → Int32) :=
  (0, 0, (0 : Int32), I)
def pMo_is_19_24  (I : Nat → Nat → Int32) : Prop :=
  True
def fMo_is_19_28  : Nat → Int32 → (Nat → Nat → Int32) → Int32 × Int32 × Int32 × (Nat → Nat → Int32)
  | 0, _, I => (0, 0, 0, I)
  | n + 1, y2, I =>
  if fSg_length_19 ≤ y2 then (0, 0, (1 : Int32), I)
  else if (I 41 ((I 40 7) + y2).toNatClampNeg) = ((fSg_charAt_19 y2)) then fMo_is_19_28 n (y2 + Int32.ofInt 1) I
    else (0, 0, (0 : Int32), I)
def pMo_is_19_28  : Nat → Int32 → (Nat → Nat → Int32) → Prop
  | 0, _, _ => False
  | n + 1, y2, I =>
  pSg_length_19 ∧ ((fSg_length_19 ≤ y2 → True) ∧
  (¬ (fSg_length_19 ≤ y2) → (vp_in ((I 40 7) + y2) 65536) ∧ ((pSg_charAt_19 y2) ∧ (((I 41 ((I 40 7) + y2).toNatClampNeg) = ((fSg_charAt_19 y2)) → pMo_is_19_28 n (y2 + Int32.ofInt 1) I) ∧
    (¬ ((I 41 ((I 40 7) + y2).toNatClampNeg) = ((fSg_charAt_19 y2))) → True)))))
def fMo_is_19_4 (n28 : Nat) (z0 : Int32) (I : Nat → Nat → Int32) : Int32 × Int32 × Int32 × (Nat → Nat → Int32) :=
  if z0 = (1 : Int32) then if ((I 40 8) - (I 40 7)) = fSg_length_19 then fMo_is_19_28 n28 (0 : Int32) I
    else fMo_is_19_24 I
  else fMo_is_19_24 I
def pMo_is_19_4 (n28 : Nat) (z0 : Int32) (I : Nat → Nat → Int32) : Prop :=
  (z0 = (1 : Int32) → pSg_length_19 ∧ ((((I 40 8) - (I 40 7)) = fSg_length_19 → pMo_is_19_28 n28 (0 : Int32) I) ∧
    (¬ (((I 40 8) - (I 40 7)) = fSg_length_19) → pMo_is_19_24 I))) ∧
  (¬ (z0 = (1 : Int32)) → pMo_is_19_24 I)
def fMo_is_19 (n28 : Nat) (I : Nat → Nat → Int32) : Int32 × Int32 × Int32 × (Nat → Nat → Int32) :=
  if (fMo_peek 65537 65537 I).1 = 0 then fMo_is_19_4 n28 ((fMo_peek 65537 65537 I).2.2.1) ((fMo_peek 65537 65537 I).2.2.2)
  else ((fMo_peek 65537 65537 I).1, (fMo_peek 65537 65537 I).2.1, 0, (fMo_peek 65537 65537 I).2.2.2)
def pMo_is_19 (n28 : Nat) (I : Nat → Nat → Int32) : Prop :=
  (pMo_peek 65537 65537 I) ∧ ((fMo_peek 65537 65537 I).1 = 0 → pMo_is_19_4 n28 ((fMo_peek 65537 65537 I).2.2.1) ((fMo_peek 65537 65537 I).2.2.2))
set_option maxHeartbeats 4000000 in
set_option maxRecDepth 100000 in
theorem Mo_is_19_n24 (g : pmG) (d : Nat) (ex : List (Nat × Nat)) (R : Nat → Nat → Value) (hR : mk_R R) (J : Nat → Nat → Int64) (o : Outcome) (Z : pmM) (rc rs : Nat)  (I : Nat → Nat → Int32) (hp : pMo_is_19_24 I) (hF : (o, Z, rc, rs) = pt_I (mk_K ++ ex) R J (fMo_is_19_24 I)) : pmE g kMo_is (d + 9) rc rs 24 [(0, .ref 40), (1, .retAddr 19)] [] (mk_K ++ ex) R I J o Z := by
  unfold pMo_is_19_24 at hp
  refine pm_iconst (v := 0) dMo_is_24 (by decide) ?_
  exact pt_zret dMo_is_25 rfl (by first | rfl | decide) (hF.trans (by first | (simp only [fMo_is_19_24]; done) | (simp only [fMo_is_19_24]; rfl) | rfl))
set_option maxHeartbeats 4000000 in
set_option maxRecDepth 100000 in
theorem Mo_is_19_n28 (g : pmG) (d : Nat) (ex : List (Nat × Nat)) (R : Nat → Nat → Value) (hR : mk_R R) (J : Nat → Nat → Int64) (o : Outcome) (Z : pmM) (rc rs : Nat)  : ∀ (n : Nat) (y2 : Int32) (I : Nat → Nat → Int32), pMo_is_19_28 n y2 I → (o, Z, rc, rs) = pt_I (mk_K ++ ex) R J (fMo_is_19_28 n y2 I) → pmE g kMo_is (d + 9) rc rs 28 [(0, .ref 40), (1, .retAddr 19), (2, .int y2)] [] (mk_K ++ ex) R I J o Z := by
  intro n
  induction n with
  | zero => intro y2 I hp; exact False.elim hp
  | succ n ih =>
  intro y2 I hp hF
  simp only [pMo_is_19_28] at hp
  refine pm_iload_n dMo_is_28 rfl ?_
  refine pm_xload_n dMo_is_29 rfl ?_
  refine pm_callX (x := 9) dMo_is_30 lMo_218 vSg_length rfl (by decide) (Sg_length_19_ok _ _ _ _  _ _ hp.1) rfl rfl (Nat.le_of_ble_eq_true rfl) (Nat.le_refl _) (Nat.le_refl _) ?_
  refine pm_icmp_ge 63 dMo_is_33 (by decide) (fun h33 => ?_) (fun h33 => ?_)
  ·
    refine pm_iconst (v := 1) dMo_is_63 (by decide) ?_
    exact pt_zret dMo_is_64 rfl (by first | rfl | decide) (hF.trans (by first | (simp only [fMo_is_19_28, if_pos h33]; done) | (simp only [fMo_is_19_28, if_pos h33]; rfl) | rfl))
  ·
    refine pm_aload_n dMo_is_36 rfl ?_
    refine pm_getr dMo_is_37 fMo_8 rfl (rr_40_0 hR) ?_
    refine pm_aload_n dMo_is_40 rfl ?_
    refine pm_geti dMo_is_41 fMo_33 rfl ?_
    refine pm_iload_n dMo_is_44 rfl ?_
    refine pm_iadd dMo_is_45 ?_
    refine pm_bald dMo_is_46 rfl (hp.2.2 h33).1 ?_
    refine pm_xload_n dMo_is_47 rfl ?_
    refine pm_iload_n dMo_is_48 rfl ?_
    refine pm_callX (x := 9) dMo_is_49 lMo_223 vSg_charAt rfl (by decide) (Sg_charAt_19_ok _ _ _ _ _ _ _ (hp.2.2 h33).2.1) rfl rfl (Nat.le_of_ble_eq_true rfl) (Nat.le_refl _) (Nat.le_refl _) ?_
    refine pm_icmp_eq 57 dMo_is_52 (by decide) (fun h52 => ?_) (fun h52 => ?_)
    ·
      refine pm_iinc dMo_is_57 rfl (by decide) rfl ?_
      refine pm_goto 28 dMo_is_60 (by decide) ?_
      refine pm_wk [1, 2, 0] rfl ?_
      exact ih _ _ ((hp.2.2 h33).2.2.1 h52) (hF.trans (by first | (simp only [fMo_is_19_28, if_neg h33, if_pos h52]; done) | (simp only [fMo_is_19_28, if_neg h33, if_pos h52]; rfl) | rfl))
    ·
      refine pm_iconst (v := 0) dMo_is_55 (by decide) ?_
      exact pt_zret dMo_is_56 rfl (by first | rfl | decide) (hF.trans (by first | (simp only [fMo_is_19_28, if_neg h33, if_neg h52]; done) | (simp only [fMo_is_19_28, if_neg h33, if_neg h52]; rfl) | rfl))
set_option maxHeartbeats 4000000 in
set_option maxRecDepth 100000 in
theorem Mo_is_19_n4 (g : pmG) (d : Nat) (ex : List (Nat × Nat)) (R : Nat → Nat → Value) (hR : mk_R R) (J : Nat → Nat → Int64) (o : Outcome) (Z : pmM) (rc rs : Nat) (n28 : Nat) (z0 : Int32) (I : Nat → Nat → Int32) (hp : pMo_is_19_4 n28 z0 I) (hF : (o, Z, rc, rs) = pt_I (mk_K ++ ex) R J (fMo_is_19_4 n28 z0 I)) : pmE g kMo_is (d + 9) rc rs 4 [(0, .ref 40), (1, .retAddr 19)] [.int z0] (mk_K ++ ex) R I J o Z := by
  unfold pMo_is_19_4 at hp
  refine pm_iconst (v := 1) dMo_is_4 (by decide) ?_
  refine pm_icmp_ne 24 dMo_is_5 (by decide) (fun h5 => ?_) (fun h5 => ?_)
  ·
    refine pm_wk [0, 1] rfl ?_
    exact Mo_is_19_n24 g d ex R hR J _ _ _ _   _ (hp.2 h5) (hF.trans (by first | (simp only [fMo_is_19_4, if_neg h5]; done) | (simp only [fMo_is_19_4, if_neg h5]; rfl) | rfl))
  ·
    refine pm_aload_n dMo_is_8 rfl ?_
    refine pm_geti dMo_is_9 fMo_36 rfl ?_
    refine pm_aload_n dMo_is_12 rfl ?_
    refine pm_geti dMo_is_13 fMo_33 rfl ?_
    refine pm_isub dMo_is_16 ?_
    refine pm_xload_n dMo_is_17 rfl ?_
    refine pm_callX (x := 9) dMo_is_18 lMo_218 vSg_length rfl (by decide) (Sg_length_19_ok _ _ _ _  _ _ (hp.1 h5).1) rfl rfl (Nat.le_of_ble_eq_true rfl) (Nat.le_refl _) (Nat.le_refl _) ?_
    refine pm_icmp_eq 26 dMo_is_21 (by decide) (fun h21 => ?_) (fun h21 => ?_)
    ·
      refine pm_iconst (v := 0) dMo_is_26 (by decide) ?_
      refine pm_istore_n dMo_is_27 (by decide) rfl ?_
      refine pm_wk [1, 2, 0] rfl ?_
      exact Mo_is_19_n28 g d ex R hR J _ _ _ _  n28 _ _ ((hp.1 h5).2.1 h21) (hF.trans (by first | (simp only [fMo_is_19_4, if_pos h5, if_pos h21]; done) | (simp only [fMo_is_19_4, if_pos h5, if_pos h21]; rfl) | rfl))
    ·
      refine pm_wk [0, 1] rfl ?_
      exact Mo_is_19_n24 g d ex R hR J _ _ _ _   _ ((hp.1 h5).2.2 h21) (hF.trans (by first | (simp only [fMo_is_19_4, if_pos h5, if_neg h21]; done) | (simp only [fMo_is_19_4, if_pos h5, if_neg h21]; rfl) | rfl))
set_option maxHeartbeats 4000000 in
set_option maxRecDepth 100000 in
theorem Mo_is_19_n0 (g : pmG) (d : Nat) (ex : List (Nat × Nat)) (R : Nat → Nat → Value) (hR : mk_R R) (J : Nat → Nat → Int64) (o : Outcome) (Z : pmM) (rc rs : Nat) (n28 : Nat) (I : Nat → Nat → Int32) (hp : pMo_is_19 n28 I) (hF : (o, Z, rc, rs) = pt_I (mk_K ++ ex) R J (fMo_is_19 n28 I)) : pmE g kMo_is (d + 9) rc rs 0 [(0, .ref 40), (1, .retAddr 19)] [] (mk_K ++ ex) R I J o Z := by
  unfold pMo_is_19 at hp
  refine pm_aload_n dMo_is_0 rfl ?_
  refine pt_callV (v2 := some (.int 0)) dMo_is_1 lMo_207 vMo_peek ⟨_, _, rfl⟩ (Mo_peek_ok _ _ _ _ hR _ _ _ _ hp.1) rfl rfl rfl (Nat.le_of_ble_eq_true rfl) (fun h1 => ?_) (fun h1 => hF.trans (by first | (simp only [fMo_is_19, if_neg h1]; done) | (simp only [fMo_is_19, if_neg h1]; rfl) | rfl))
  refine pm_wk [0, 1] rfl ?_
  exact Mo_is_19_n4 g d ex R hR J _ _ _ _  n28 _ _ (hp.2 h1) (hF.trans (by first | (simp only [fMo_is_19, if_pos h1]; done) | (simp only [fMo_is_19, if_pos h1]; rfl) | rfl))
set_option maxHeartbeats 4000000 in
set_option maxRecDepth 100000 in
theorem Mo_is_19_ok (g : pmG) (d : Nat) (ex : List (Nat × Nat)) (R : Nat → Nat → Value) (hR : mk_R R) (n28 : Nat)  (I : Nat → Nat → Int32) (J : Nat → Nat → Int64) (hp : pMo_is_19 n28 I) : pmT g kMo_is (d + 9) [.ref 40, .retAddr 19] (mk_K ++ ex, R, I, J) (pt_I (mk_K ++ ex) R J (fMo_is_19 n28 I)) :=
  pmC.of (by decide) (Nat.le_of_ble_eq_true rfl) (Mo_is_19_n0 g d ex R hR J _ _ _ _ n28  I hp rfl)
def fMo_is_20_24  (I : Nat → Nat → Int32) : Int32 × Int32 × Int32 × (Nat → Nat → Int32) :=
  (0, 0, (0 : Int32), I)
def pMo_is_20_24  (I : Nat → Nat → Int32) : Prop :=
  True
def fMo_is_20_28  : Nat → Int32 → (Nat → Nat → Int32) → Int32 × Int32 × Int32 × (Nat → Nat → Int32)
  | 0, _, I => (0, 0, 0, I)
  | n + 1, y2, I =>
  if fSg_length_20 ≤ y2 then (0, 0, (1 : Int32), I)
  else if (I 41 ((I 40 7) + y2).toNatClampNeg) = ((fSg_charAt_20 y2)) then fMo_is_20_28 n (y2 + Int32.ofInt 1) I
    else (0, 0, (0 : Int32), I)
def pMo_is_20_28  : Nat → Int32 → (Nat → Nat → Int32) → Prop
  | 0, _, _ => False
  | n + 1, y2, I =>
  pSg_length_20 ∧ ((fSg_length_20 ≤ y2 → True) ∧
  (¬ (fSg_length_20 ≤ y2) → (vp_in ((I 40 7) + y2) 65536) ∧ ((pSg_charAt_20 y2) ∧ (((I 41 ((I 40 7) + y2).toNatClampNeg) = ((fSg_charAt_20 y2)) → pMo_is_20_28 n (y2 + Int32.ofInt 1) I) ∧
    (¬ ((I 41 ((I 40 7) + y2).toNatClampNeg) = ((fSg_charAt_20 y2))) → True)))))
def fMo_is_20_4 (n28 : Nat) (z0 : Int32) (I : Nat → Nat → Int32) : Int32 × Int32 × Int32 × (Nat → Nat → Int32) :=
  if z0 = (1 : Int32) then if ((I 40 8) - (I 40 7)) = fSg_length_20 then fMo_is_20_28 n28 (0 : Int32) I
    else fMo_is_20_24 I
  else fMo_is_20_24 I
def pMo_is_20_4 (n28 : Nat) (z0 : Int32) (I : Nat → Nat → Int32) : Prop :=
  (z0 = (1 : Int32) → pSg_length_20 ∧ ((((I 40 8) - (I 40 7)) = fSg_length_20 → pMo_is_20_28 n28 (0 : Int32) I) ∧
    (¬ (((I 40 8) - (I 40 7)) = fSg_length_20) → pMo_is_20_24 I))) ∧
  (¬ (z0 = (1 : Int32)) → pMo_is_20_24 I)
def fMo_is_20 (n28 : Nat) (I : Nat → Nat → Int32) : Int32 × Int32 × Int32 × (Nat → Nat → Int32) :=
  if (fMo_peek 65537 65537 I).1 = 0 then fMo_is_20_4 n28 ((fMo_peek 65537 65537 I).2.2.1) ((fMo_peek 65537 65537 I).2.2.2)
  else ((fMo_peek 65537 65537 I).1, (fMo_peek 65537 65537 I).2.1, 0, (fMo_peek 65537 65537 I).2.2.2)
def pMo_is_20 (n28 : Nat) (I : Nat → Nat → Int32) : Prop :=
  (pMo_peek 65537 65537 I) ∧ ((fMo_peek 65537 65537 I).1 = 0 → pMo_is_20_4 n28 ((fMo_peek 65537 65537 I).2.2.1) ((fMo_peek 65537 65537 I).2.2.2))
set_option maxHeartbeats 4000000 in
set_option maxRecDepth 100000 in
theorem Mo_is_20_n24 (g : pmG) (d : Nat) (ex : List (Nat × Nat)) (R : Nat → Nat → Value) (hR : mk_R R) (J : Nat → Nat → Int64) (o : Outcome) (Z : pmM) (rc rs : Nat)  (I : Nat → Nat → Int32) (hp : pMo_is_20_24 I) (hF : (o, Z, rc, rs) = pt_I (mk_K ++ ex) R J (fMo_is_20_24 I)) : pmE g kMo_is (d + 9) rc rs 24 [(0, .ref 40), (1, .retAddr 20)] [] (mk_K ++ ex) R I J o Z := by
  unfold pMo_is_20_24 at hp
  refine pm_iconst (v := 0) dMo_is_24 (by decide) ?_
  exact pt_zret dMo_is_25 rfl (by first | rfl | decide) (hF.trans (by first | (simp only [fMo_is_20_24]; done) | (simp only [fMo_is_20_24]; rfl) | rfl))
set_option maxHeartbeats 4000000 in
set_option maxRecDepth 100000 in
theorem Mo_is_20_n28 (g : pmG) (d : Nat) (ex : List (Nat × Nat)) (R : Nat → Nat → Value) (hR : mk_R R) (J : Nat → Nat → Int64) (o : Outcome) (Z : pmM) (rc rs : Nat)  : ∀ (n : Nat) (y2 : Int32) (I : Nat → Nat → Int32), pMo_is_20_28 n y2 I → (o, Z, rc, rs) = pt_I (mk_K ++ ex) R J (fMo_is_20_28 n y2 I) → pmE g kMo_is (d + 9) rc rs 28 [(0, .ref 40), (1, .retAddr 20), (2, .int y2)] [] (mk_K ++ ex) R I J o Z := by
  intro n
  induction n with
  | zero => intro y2 I hp; exact False.elim hp
  | succ n ih =>
  intro y2 I hp hF
  simp only [pMo_is_20_28] at hp
  refine pm_iload_n dMo_is_28 rfl ?_
  refine pm_xload_n dMo_is_29 rfl ?_
  refine pm_callX (x := 10) dMo_is_30 lMo_218 vSg_length rfl (by decide) (Sg_length_20_ok _ _ _ _  _ _ hp.1) rfl rfl (Nat.le_of_ble_eq_true rfl) (Nat.le_refl _) (Nat.le_refl _) ?_
  refine pm_icmp_ge 63 dMo_is_33 (by decide) (fun h33 => ?_) (fun h33 => ?_)
  ·
    refine pm_iconst (v := 1) dMo_is_63 (by decide) ?_
    exact pt_zret dMo_is_64 rfl (by first | rfl | decide) (hF.trans (by first | (simp only [fMo_is_20_28, if_pos h33]; done) | (simp only [fMo_is_20_28, if_pos h33]; rfl) | rfl))
  ·
    refine pm_aload_n dMo_is_36 rfl ?_
    refine pm_getr dMo_is_37 fMo_8 rfl (rr_40_0 hR) ?_
    refine pm_aload_n dMo_is_40 rfl ?_
    refine pm_geti dMo_is_41 fMo_33 rfl ?_
    refine pm_iload_n dMo_is_44 rfl ?_
    refine pm_iadd dMo_is_45 ?_
    refine pm_bald dMo_is_46 rfl (hp.2.2 h33).1 ?_
    refine pm_xload_n dMo_is_47 rfl ?_
    refine pm_iload_n dMo_is_48 rfl ?_
    refine pm_callX (x := 10) dMo_is_49 lMo_223 vSg_charAt rfl (by decide) (Sg_charAt_20_ok _ _ _ _ _ _ _ (hp.2.2 h33).2.1) rfl rfl (Nat.le_of_ble_eq_true rfl) (Nat.le_refl _) (Nat.le_refl _) ?_
    refine pm_icmp_eq 57 dMo_is_52 (by decide) (fun h52 => ?_) (fun h52 => ?_)
    ·
      refine pm_iinc dMo_is_57 rfl (by decide) rfl ?_
      refine pm_goto 28 dMo_is_60 (by decide) ?_
      refine pm_wk [1, 2, 0] rfl ?_
      exact ih _ _ ((hp.2.2 h33).2.2.1 h52) (hF.trans (by first | (simp only [fMo_is_20_28, if_neg h33, if_pos h52]; done) | (simp only [fMo_is_20_28, if_neg h33, if_pos h52]; rfl) | rfl))
    ·
      refine pm_iconst (v := 0) dMo_is_55 (by decide) ?_
      exact pt_zret dMo_is_56 rfl (by first | rfl | decide) (hF.trans (by first | (simp only [fMo_is_20_28, if_neg h33, if_neg h52]; done) | (simp only [fMo_is_20_28, if_neg h33, if_neg h52]; rfl) | rfl))
set_option maxHeartbeats 4000000 in
set_option maxRecDepth 100000 in
theorem Mo_is_20_n4 (g : pmG) (d : Nat) (ex : List (Nat × Nat)) (R : Nat → Nat → Value) (hR : mk_R R) (J : Nat → Nat → Int64) (o : Outcome) (Z : pmM) (rc rs : Nat) (n28 : Nat) (z0 : Int32) (I : Nat → Nat → Int32) (hp : pMo_is_20_4 n28 z0 I) (hF : (o, Z, rc, rs) = pt_I (mk_K ++ ex) R J (fMo_is_20_4 n28 z0 I)) : pmE g kMo_is (d + 9) rc rs 4 [(0, .ref 40), (1, .retAddr 20)] [.int z0] (mk_K ++ ex) R I J o Z := by
  unfold pMo_is_20_4 at hp
  refine pm_iconst (v := 1) dMo_is_4 (by decide) ?_
  refine pm_icmp_ne 24 dMo_is_5 (by decide) (fun h5 => ?_) (fun h5 => ?_)
  ·
    refine pm_wk [0, 1] rfl ?_
    exact Mo_is_20_n24 g d ex R hR J _ _ _ _   _ (hp.2 h5) (hF.trans (by first | (simp only [fMo_is_20_4, if_neg h5]; done) | (simp only [fMo_is_20_4, if_neg h5]; rfl) | rfl))
  ·
    refine pm_aload_n dMo_is_8 rfl ?_
    refine pm_geti dMo_is_9 fMo_36 rfl ?_
    refine pm_aload_n dMo_is_12 rfl ?_
    refine pm_geti dMo_is_13 fMo_33 rfl ?_
    refine pm_isub dMo_is_16 ?_
    refine pm_xload_n dMo_is_17 rfl ?_
    refine pm_callX (x := 10) dMo_is_18 lMo_218 vSg_length rfl (by decide) (Sg_length_20_ok _ _ _ _  _ _ (hp.1 h5).1) rfl rfl (Nat.le_of_ble_eq_true rfl) (Nat.le_refl _) (Nat.le_refl _) ?_
    refine pm_icmp_eq 26 dMo_is_21 (by decide) (fun h21 => ?_) (fun h21 => ?_)
    ·
      refine pm_iconst (v := 0) dMo_is_26 (by decide) ?_
      refine pm_istore_n dMo_is_27 (by decide) rfl ?_
      refine pm_wk [1, 2, 0] rfl ?_
      exact Mo_is_20_n28 g d ex R hR J _ _ _ _  n28 _ _ ((hp.1 h5).2.1 h21) (hF.trans (by first | (simp only [fMo_is_20_4, if_pos h5, if_pos h21]; done) | (simp only [fMo_is_20_4, if_pos h5, if_pos h21]; rfl) | rfl))
    ·
      refine pm_wk [0, 1] rfl ?_
      exact Mo_is_20_n24 g d ex R hR J _ _ _ _   _ ((hp.1 h5).2.2 h21) (hF.trans (by first | (simp only [fMo_is_20_4, if_pos h5, if_neg h21]; done) | (simp only [fMo_is_20_4, if_pos h5, if_neg h21]; rfl) | rfl))
set_option maxHeartbeats 4000000 in
set_option maxRecDepth 100000 in
theorem Mo_is_20_n0 (g : pmG) (d : Nat) (ex : List (Nat × Nat)) (R : Nat → Nat → Value) (hR : mk_R R) (J : Nat → Nat → Int64) (o : Outcome) (Z : pmM) (rc rs : Nat) (n28 : Nat) (I : Nat → Nat → Int32) (hp : pMo_is_20 n28 I) (hF : (o, Z, rc, rs) = pt_I (mk_K ++ ex) R J (fMo_is_20 n28 I)) : pmE g kMo_is (d + 9) rc rs 0 [(0, .ref 40), (1, .retAddr 20)] [] (mk_K ++ ex) R I J o Z := by
  unfold pMo_is_20 at hp
  refine pm_aload_n dMo_is_0 rfl ?_
  refine pt_callV (v2 := some (.int 0)) dMo_is_1 lMo_207 vMo_peek ⟨_, _, rfl⟩ (Mo_peek_ok _ _ _ _ hR _ _ _ _ hp.1) rfl rfl rfl (Nat.le_of_ble_eq_true rfl) (fun h1 => ?_) (fun h1 => hF.trans (by first | (simp only [fMo_is_20, if_neg h1]; done) | (simp only [fMo_is_20, if_neg h1]; rfl) | rfl))
  refine pm_wk [0, 1] rfl ?_
  exact Mo_is_20_n4 g d ex R hR J _ _ _ _  n28 _ _ (hp.2 h1) (hF.trans (by first | (simp only [fMo_is_20, if_pos h1]; done) | (simp only [fMo_is_20, if_pos h1]; rfl) | rfl))
set_option maxHeartbeats 4000000 in
set_option maxRecDepth 100000 in
theorem Mo_is_20_ok (g : pmG) (d : Nat) (ex : List (Nat × Nat)) (R : Nat → Nat → Value) (hR : mk_R R) (n28 : Nat)  (I : Nat → Nat → Int32) (J : Nat → Nat → Int64) (hp : pMo_is_20 n28 I) : pmT g kMo_is (d + 9) [.ref 40, .retAddr 20] (mk_K ++ ex, R, I, J) (pt_I (mk_K ++ ex) R J (fMo_is_20 n28 I)) :=
  pmC.of (by decide) (Nat.le_of_ble_eq_true rfl) (Mo_is_20_n0 g d ex R hR J _ _ _ _ n28  I hp rfl)
def fMo_is_21_24  (I : Nat → Nat → Int32) : Int32 × Int32 × Int32 × (Nat → Nat → Int32) :=
  (0, 0, (0 : Int32), I)
def pMo_is_21_24  (I : Nat → Nat → Int32) : Prop :=
  True
def fMo_is_21_28  : Nat → Int32 → (Nat → Nat → Int32) → Int32 × Int32 × Int32 × (Nat → Nat → Int32)
  | 0, _, I => (0, 0, 0, I)
  | n + 1, y2, I =>
  if fSg_length_21 ≤ y2 then (0, 0, (1 : Int32), I)
  else if (I 41 ((I 40 7) + y2).toNatClampNeg) = ((fSg_charAt_21 y2)) then fMo_is_21_28 n (y2 + Int32.ofInt 1) I
    else (0, 0, (0 : Int32), I)
def pMo_is_21_28  : Nat → Int32 → (Nat → Nat → Int32) → Prop
  | 0, _, _ => False
  | n + 1, y2, I =>
  pSg_length_21 ∧ ((fSg_length_21 ≤ y2 → True) ∧
  (¬ (fSg_length_21 ≤ y2) → (vp_in ((I 40 7) + y2) 65536) ∧ ((pSg_charAt_21 y2) ∧ (((I 41 ((I 40 7) + y2).toNatClampNeg) = ((fSg_charAt_21 y2)) → pMo_is_21_28 n (y2 + Int32.ofInt 1) I) ∧
    (¬ ((I 41 ((I 40 7) + y2).toNatClampNeg) = ((fSg_charAt_21 y2))) → True)))))
def fMo_is_21_4 (n28 : Nat) (z0 : Int32) (I : Nat → Nat → Int32) : Int32 × Int32 × Int32 × (Nat → Nat → Int32) :=
  if z0 = (1 : Int32) then if ((I 40 8) - (I 40 7)) = fSg_length_21 then fMo_is_21_28 n28 (0 : Int32) I
    else fMo_is_21_24 I
  else fMo_is_21_24 I
def pMo_is_21_4 (n28 : Nat) (z0 : Int32) (I : Nat → Nat → Int32) : Prop :=
  (z0 = (1 : Int32) → pSg_length_21 ∧ ((((I 40 8) - (I 40 7)) = fSg_length_21 → pMo_is_21_28 n28 (0 : Int32) I) ∧
    (¬ (((I 40 8) - (I 40 7)) = fSg_length_21) → pMo_is_21_24 I))) ∧
  (¬ (z0 = (1 : Int32)) → pMo_is_21_24 I)
def fMo_is_21 (n28 : Nat) (I : Nat → Nat → Int32) : Int32 × Int32 × Int32 × (Nat → Nat → Int32) :=
  if (fMo_peek 65537 65537 I).1 = 0 then fMo_is_21_4 n28 ((fMo_peek 65537 65537 I).2.2.1) ((fMo_peek 65537 65537 I).2.2.2)
  else ((fMo_peek 65537 65537 I).1, (fMo_peek 65537 65537 I).2.1, 0, (fMo_peek 65537 65537 I).2.2.2)
def pMo_is_21 (n28 : Nat) (I : Nat → Nat → Int32) : Prop :=
  (pMo_peek 65537 65537 I) ∧ ((fMo_peek 65537 65537 I).1 = 0 → pMo_is_21_4 n28 ((fMo_peek 65537 65537 I).2.2.1) ((fMo_peek 65537 65537 I).2.2.2))
set_option maxHeartbeats 4000000 in
set_option maxRecDepth 100000 in
theorem Mo_is_21_n24 (g : pmG) (d : Nat) (ex : List (Nat × Nat)) (R : Nat → Nat → Value) (hR : mk_R R) (J : Nat → Nat → Int64) (o : Outcome) (Z : pmM) (rc rs : Nat)  (I : Nat → Nat → Int32) (hp : pMo_is_21_24 I) (hF : (o, Z, rc, rs) = pt_I (mk_K ++ ex) R J (fMo_is_21_24 I)) : pmE g kMo_is (d + 9) rc rs 24 [(0, .ref 40), (1, .retAddr 21)] [] (mk_K ++ ex) R I J o Z := by
  unfold pMo_is_21_24 at hp
  refine pm_iconst (v := 0) dMo_is_24 (by decide) ?_
  exact pt_zret dMo_is_25 rfl (by first | rfl | decide) (hF.trans (by first | (simp only [fMo_is_21_24]; done) | (simp only [fMo_is_21_24]; rfl) | rfl))
set_option maxHeartbeats 4000000 in
set_option maxRecDepth 100000 in
theorem Mo_is_21_n28 (g : pmG) (d : Nat) (ex : List (Nat × Nat)) (R : Nat → Nat → Value) (hR : mk_R R) (J : Nat → Nat → Int64) (o : Outcome) (Z : pmM) (rc rs : Nat)  : ∀ (n : Nat) (y2 : Int32) (I : Nat → Nat → Int32), pMo_is_21_28 n y2 I → (o, Z, rc, rs) = pt_I (mk_K ++ ex) R J (fMo_is_21_28 n y2 I) → pmE g kMo_is (d + 9) rc rs 28 [(0, .ref 40), (1, .retAddr 21), (2, .int y2)] [] (mk_K ++ ex) R I J o Z := by
  intro n
  induction n with
  | zero => intro y2 I hp; exact False.elim hp
  | succ n ih =>
  intro y2 I hp hF
  simp only [pMo_is_21_28] at hp
  refine pm_iload_n dMo_is_28 rfl ?_
  refine pm_xload_n dMo_is_29 rfl ?_
  refine pm_callX (x := 11) dMo_is_30 lMo_218 vSg_length rfl (by decide) (Sg_length_21_ok _ _ _ _  _ _ hp.1) rfl rfl (Nat.le_of_ble_eq_true rfl) (Nat.le_refl _) (Nat.le_refl _) ?_
  refine pm_icmp_ge 63 dMo_is_33 (by decide) (fun h33 => ?_) (fun h33 => ?_)
  ·
    refine pm_iconst (v := 1) dMo_is_63 (by decide) ?_
    exact pt_zret dMo_is_64 rfl (by first | rfl | decide) (hF.trans (by first | (simp only [fMo_is_21_28, if_pos h33]; done) | (simp only [fMo_is_21_28, if_pos h33]; rfl) | rfl))
  ·
    refine pm_aload_n dMo_is_36 rfl ?_
    refine pm_getr dMo_is_37 fMo_8 rfl (rr_40_0 hR) ?_
    refine pm_aload_n dMo_is_40 rfl ?_
    refine pm_geti dMo_is_41 fMo_33 rfl ?_
    refine pm_iload_n dMo_is_44 rfl ?_
    refine pm_iadd dMo_is_45 ?_
    refine pm_bald dMo_is_46 rfl (hp.2.2 h33).1 ?_
    refine pm_xload_n dMo_is_47 rfl ?_
    refine pm_iload_n dMo_is_48 rfl ?_
    refine pm_callX (x := 11) dMo_is_49 lMo_223 vSg_charAt rfl (by decide) (Sg_charAt_21_ok _ _ _ _ _ _ _ (hp.2.2 h33).2.1) rfl rfl (Nat.le_of_ble_eq_true rfl) (Nat.le_refl _) (Nat.le_refl _) ?_
    refine pm_icmp_eq 57 dMo_is_52 (by decide) (fun h52 => ?_) (fun h52 => ?_)
    ·
      refine pm_iinc dMo_is_57 rfl (by decide) rfl ?_
      refine pm_goto 28 dMo_is_60 (by decide) ?_
      refine pm_wk [1, 2, 0] rfl ?_
      exact ih _ _ ((hp.2.2 h33).2.2.1 h52) (hF.trans (by first | (simp only [fMo_is_21_28, if_neg h33, if_pos h52]; done) | (simp only [fMo_is_21_28, if_neg h33, if_pos h52]; rfl) | rfl))
    ·
      refine pm_iconst (v := 0) dMo_is_55 (by decide) ?_
      exact pt_zret dMo_is_56 rfl (by first | rfl | decide) (hF.trans (by first | (simp only [fMo_is_21_28, if_neg h33, if_neg h52]; done) | (simp only [fMo_is_21_28, if_neg h33, if_neg h52]; rfl) | rfl))
set_option maxHeartbeats 4000000 in
set_option maxRecDepth 100000 in
theorem Mo_is_21_n4 (g : pmG) (d : Nat) (ex : List (Nat × Nat)) (R : Nat → Nat → Value) (hR : mk_R R) (J : Nat → Nat → Int64) (o : Outcome) (Z : pmM) (rc rs : Nat) (n28 : Nat) (z0 : Int32) (I : Nat → Nat → Int32) (hp : pMo_is_21_4 n28 z0 I) (hF : (o, Z, rc, rs) = pt_I (mk_K ++ ex) R J (fMo_is_21_4 n28 z0 I)) : pmE g kMo_is (d + 9) rc rs 4 [(0, .ref 40), (1, .retAddr 21)] [.int z0] (mk_K ++ ex) R I J o Z := by
  unfold pMo_is_21_4 at hp
  refine pm_iconst (v := 1) dMo_is_4 (by decide) ?_
  refine pm_icmp_ne 24 dMo_is_5 (by decide) (fun h5 => ?_) (fun h5 => ?_)
  ·
    refine pm_wk [0, 1] rfl ?_
    exact Mo_is_21_n24 g d ex R hR J _ _ _ _   _ (hp.2 h5) (hF.trans (by first | (simp only [fMo_is_21_4, if_neg h5]; done) | (simp only [fMo_is_21_4, if_neg h5]; rfl) | rfl))
  ·
    refine pm_aload_n dMo_is_8 rfl ?_
    refine pm_geti dMo_is_9 fMo_36 rfl ?_
    refine pm_aload_n dMo_is_12 rfl ?_
    refine pm_geti dMo_is_13 fMo_33 rfl ?_
    refine pm_isub dMo_is_16 ?_
    refine pm_xload_n dMo_is_17 rfl ?_
    refine pm_callX (x := 11) dMo_is_18 lMo_218 vSg_length rfl (by decide) (Sg_length_21_ok _ _ _ _  _ _ (hp.1 h5).1) rfl rfl (Nat.le_of_ble_eq_true rfl) (Nat.le_refl _) (Nat.le_refl _) ?_
    refine pm_icmp_eq 26 dMo_is_21 (by decide) (fun h21 => ?_) (fun h21 => ?_)
    ·
      refine pm_iconst (v := 0) dMo_is_26 (by decide) ?_
      refine pm_istore_n dMo_is_27 (by decide) rfl ?_
      refine pm_wk [1, 2, 0] rfl ?_
      exact Mo_is_21_n28 g d ex R hR J _ _ _ _  n28 _ _ ((hp.1 h5).2.1 h21) (hF.trans (by first | (simp only [fMo_is_21_4, if_pos h5, if_pos h21]; done) | (simp only [fMo_is_21_4, if_pos h5, if_pos h21]; rfl) | rfl))
    ·
      refine pm_wk [0, 1] rfl ?_
      exact Mo_is_21_n24 g d ex R hR J _ _ _ _   _ ((hp.1 h5).2.2 h21) (hF.trans (by first | (simp only [fMo_is_21_4, if_pos h5, if_neg h21]; done) | (simp only [fMo_is_21_4, if_pos h5, if_neg h21]; rfl) | rfl))
set_option maxHeartbeats 4000000 in
set_option maxRecDepth 100000 in
theorem Mo_is_21_n0 (g : pmG) (d : Nat) (ex : List (Nat × Nat)) (R : Nat → Nat → Value) (hR : mk_R R) (J : Nat → Nat → Int64) (o : Outcome) (Z : pmM) (rc rs : Nat) (n28 : Nat) (I : Nat → Nat → Int32) (hp : pMo_is_21 n28 I) (hF : (o, Z, rc, rs) = pt_I (mk_K ++ ex) R J (fMo_is_21 n28 I)) : pmE g kMo_is (d + 9) rc rs 0 [(0, .ref 40), (1, .retAddr 21)] [] (mk_K ++ ex) R I J o Z := by
  unfold pMo_is_21 at hp
  refine pm_aload_n dMo_is_0 rfl ?_
  refine pt_callV (v2 := some (.int 0)) dMo_is_1 lMo_207 vMo_peek ⟨_, _, rfl⟩ (Mo_peek_ok _ _ _ _ hR _ _ _ _ hp.1) rfl rfl rfl (Nat.le_of_ble_eq_true rfl) (fun h1 => ?_) (fun h1 => hF.trans (by first | (simp only [fMo_is_21, if_neg h1]; done) | (simp only [fMo_is_21, if_neg h1]; rfl) | rfl))
  refine pm_wk [0, 1] rfl ?_
  exact Mo_is_21_n4 g d ex R hR J _ _ _ _  n28 _ _ (hp.2 h1) (hF.trans (by first | (simp only [fMo_is_21, if_pos h1]; done) | (simp only [fMo_is_21, if_pos h1]; rfl) | rfl))
set_option maxHeartbeats 4000000 in
set_option maxRecDepth 100000 in
theorem Mo_is_21_ok (g : pmG) (d : Nat) (ex : List (Nat × Nat)) (R : Nat → Nat → Value) (hR : mk_R R) (n28 : Nat)  (I : Nat → Nat → Int32) (J : Nat → Nat → Int64) (hp : pMo_is_21 n28 I) : pmT g kMo_is (d + 9) [.ref 40, .retAddr 21] (mk_K ++ ex, R, I, J) (pt_I (mk_K ++ ex) R J (fMo_is_21 n28 I)) :=
  pmC.of (by decide) (Nat.le_of_ble_eq_true rfl) (Mo_is_21_n0 g d ex R hR J _ _ _ _ n28  I hp rfl)
def fMo_is_22_24  (I : Nat → Nat → Int32) : Int32 × Int32 × Int32 × (Nat → Nat → Int32) :=
  (0, 0, (0 : Int32), I)
def pMo_is_22_24  (I : Nat → Nat → Int32) : Prop :=
  True
def fMo_is_22_28  : Nat → Int32 → (Nat → Nat → Int32) → Int32 × Int32 × Int32 × (Nat → Nat → Int32)
  | 0, _, I => (0, 0, 0, I)
  | n + 1, y2, I =>
  if fSg_length_22 ≤ y2 then (0, 0, (1 : Int32), I)
  else if (I 41 ((I 40 7) + y2).toNatClampNeg) = ((fSg_charAt_22 y2)) then fMo_is_22_28 n (y2 + Int32.ofInt 1) I
    else (0, 0, (0 : Int32), I)
def pMo_is_22_28  : Nat → Int32 → (Nat → Nat → Int32) → Prop
  | 0, _, _ => False
  | n + 1, y2, I =>
  pSg_length_22 ∧ ((fSg_length_22 ≤ y2 → True) ∧
  (¬ (fSg_length_22 ≤ y2) → (vp_in ((I 40 7) + y2) 65536) ∧ ((pSg_charAt_22 y2) ∧ (((I 41 ((I 40 7) + y2).toNatClampNeg) = ((fSg_charAt_22 y2)) → pMo_is_22_28 n (y2 + Int32.ofInt 1) I) ∧
    (¬ ((I 41 ((I 40 7) + y2).toNatClampNeg) = ((fSg_charAt_22 y2))) → True)))))
def fMo_is_22_4 (n28 : Nat) (z0 : Int32) (I : Nat → Nat → Int32) : Int32 × Int32 × Int32 × (Nat → Nat → Int32) :=
  if z0 = (1 : Int32) then if ((I 40 8) - (I 40 7)) = fSg_length_22 then fMo_is_22_28 n28 (0 : Int32) I
    else fMo_is_22_24 I
  else fMo_is_22_24 I
def pMo_is_22_4 (n28 : Nat) (z0 : Int32) (I : Nat → Nat → Int32) : Prop :=
  (z0 = (1 : Int32) → pSg_length_22 ∧ ((((I 40 8) - (I 40 7)) = fSg_length_22 → pMo_is_22_28 n28 (0 : Int32) I) ∧
    (¬ (((I 40 8) - (I 40 7)) = fSg_length_22) → pMo_is_22_24 I))) ∧
  (¬ (z0 = (1 : Int32)) → pMo_is_22_24 I)
def fMo_is_22 (n28 : Nat) (I : Nat → Nat → Int32) : Int32 × Int32 × Int32 × (Nat → Nat → Int32) :=
  if (fMo_peek 65537 65537 I).1 = 0 then fMo_is_22_4 n28 ((fMo_peek 65537 65537 I).2.2.1) ((fMo_peek 65537 65537 I).2.2.2)
  else ((fMo_peek 65537 65537 I).1, (fMo_peek 65537 65537 I).2.1, 0, (fMo_peek 65537 65537 I).2.2.2)
def pMo_is_22 (n28 : Nat) (I : Nat → Nat → Int32) : Prop :=
  (pMo_peek 65537 65537 I) ∧ ((fMo_peek 65537 65537 I).1 = 0 → pMo_is_22_4 n28 ((fMo_peek 65537 65537 I).2.2.1) ((fMo_peek 65537 65537 I).2.2.2))
set_option maxHeartbeats 4000000 in
set_option maxRecDepth 100000 in
theorem Mo_is_22_n24 (g : pmG) (d : Nat) (ex : List (Nat × Nat)) (R : Nat → Nat → Value) (hR : mk_R R) (J : Nat → Nat → Int64) (o : Outcome) (Z : pmM) (rc rs : Nat)  (I : Nat → Nat → Int32) (hp : pMo_is_22_24 I) (hF : (o, Z, rc, rs) = pt_I (mk_K ++ ex) R J (fMo_is_22_24 I)) : pmE g kMo_is (d + 9) rc rs 24 [(0, .ref 40), (1, .retAddr 22)] [] (mk_K ++ ex) R I J o Z := by
  unfold pMo_is_22_24 at hp
  refine pm_iconst (v := 0) dMo_is_24 (by decide) ?_
  exact pt_zret dMo_is_25 rfl (by first | rfl | decide) (hF.trans (by first | (simp only [fMo_is_22_24]; done) | (simp only [fMo_is_22_24]; rfl) | rfl))
set_option maxHeartbeats 4000000 in
set_option maxRecDepth 100000 in
theorem Mo_is_22_n28 (g : pmG) (d : Nat) (ex : List (Nat × Nat)) (R : Nat → Nat → Value) (hR : mk_R R) (J : Nat → Nat → Int64) (o : Outcome) (Z : pmM) (rc rs : Nat)  : ∀ (n : Nat) (y2 : Int32) (I : Nat → Nat → Int32), pMo_is_22_28 n y2 I → (o, Z, rc, rs) = pt_I (mk_K ++ ex) R J (fMo_is_22_28 n y2 I) → pmE g kMo_is (d + 9) rc rs 28 [(0, .ref 40), (1, .retAddr 22), (2, .int y2)] [] (mk_K ++ ex) R I J o Z := by
  intro n
  induction n with
  | zero => intro y2 I hp; exact False.elim hp
  | succ n ih =>
  intro y2 I hp hF
  simp only [pMo_is_22_28] at hp
  refine pm_iload_n dMo_is_28 rfl ?_
  refine pm_xload_n dMo_is_29 rfl ?_
  refine pm_callX (x := 12) dMo_is_30 lMo_218 vSg_length rfl (by decide) (Sg_length_22_ok _ _ _ _  _ _ hp.1) rfl rfl (Nat.le_of_ble_eq_true rfl) (Nat.le_refl _) (Nat.le_refl _) ?_
  refine pm_icmp_ge 63 dMo_is_33 (by decide) (fun h33 => ?_) (fun h33 => ?_)
  ·
    refine pm_iconst (v := 1) dMo_is_63 (by decide) ?_
    exact pt_zret dMo_is_64 rfl (by first | rfl | decide) (hF.trans (by first | (simp only [fMo_is_22_28, if_pos h33]; done) | (simp only [fMo_is_22_28, if_pos h33]; rfl) | rfl))
  ·
    refine pm_aload_n dMo_is_36 rfl ?_
    refine pm_getr dMo_is_37 fMo_8 rfl (rr_40_0 hR) ?_
    refine pm_aload_n dMo_is_40 rfl ?_
    refine pm_geti dMo_is_41 fMo_33 rfl ?_
    refine pm_iload_n dMo_is_44 rfl ?_
    refine pm_iadd dMo_is_45 ?_
    refine pm_bald dMo_is_46 rfl (hp.2.2 h33).1 ?_
    refine pm_xload_n dMo_is_47 rfl ?_
    refine pm_iload_n dMo_is_48 rfl ?_
    refine pm_callX (x := 12) dMo_is_49 lMo_223 vSg_charAt rfl (by decide) (Sg_charAt_22_ok _ _ _ _ _ _ _ (hp.2.2 h33).2.1) rfl rfl (Nat.le_of_ble_eq_true rfl) (Nat.le_refl _) (Nat.le_refl _) ?_
    refine pm_icmp_eq 57 dMo_is_52 (by decide) (fun h52 => ?_) (fun h52 => ?_)
    ·
      refine pm_iinc dMo_is_57 rfl (by decide) rfl ?_
      refine pm_goto 28 dMo_is_60 (by decide) ?_
      refine pm_wk [1, 2, 0] rfl ?_
      exact ih _ _ ((hp.2.2 h33).2.2.1 h52) (hF.trans (by first | (simp only [fMo_is_22_28, if_neg h33, if_pos h52]; done) | (simp only [fMo_is_22_28, if_neg h33, if_pos h52]; rfl) | rfl))
    ·
      refine pm_iconst (v := 0) dMo_is_55 (by decide) ?_
      exact pt_zret dMo_is_56 rfl (by first | rfl | decide) (hF.trans (by first | (simp only [fMo_is_22_28, if_neg h33, if_neg h52]; done) | (simp only [fMo_is_22_28, if_neg h33, if_neg h52]; rfl) | rfl))
set_option maxHeartbeats 4000000 in
set_option maxRecDepth 100000 in
theorem Mo_is_22_n4 (g : pmG) (d : Nat) (ex : List (Nat × Nat)) (R : Nat → Nat → Value) (hR : mk_R R) (J : Nat → Nat → Int64) (o : Outcome) (Z : pmM) (rc rs : Nat) (n28 : Nat) (z0 : Int32) (I : Nat → Nat → Int32) (hp : pMo_is_22_4 n28 z0 I) (hF : (o, Z, rc, rs) = pt_I (mk_K ++ ex) R J (fMo_is_22_4 n28 z0 I)) : pmE g kMo_is (d + 9) rc rs 4 [(0, .ref 40), (1, .retAddr 22)] [.int z0] (mk_K ++ ex) R I J o Z := by
  unfold pMo_is_22_4 at hp
  refine pm_iconst (v := 1) dMo_is_4 (by decide) ?_
  refine pm_icmp_ne 24 dMo_is_5 (by decide) (fun h5 => ?_) (fun h5 => ?_)
  ·
    refine pm_wk [0, 1] rfl ?_
    exact Mo_is_22_n24 g d ex R hR J _ _ _ _   _ (hp.2 h5) (hF.trans (by first | (simp only [fMo_is_22_4, if_neg h5]; done) | (simp only [fMo_is_22_4, if_neg h5]; rfl) | rfl))
  ·
    refine pm_aload_n dMo_is_8 rfl ?_
    refine pm_geti dMo_is_9 fMo_36 rfl ?_
    refine pm_aload_n dMo_is_12 rfl ?_
    refine pm_geti dMo_is_13 fMo_33 rfl ?_
    refine pm_isub dMo_is_16 ?_
    refine pm_xload_n dMo_is_17 rfl ?_
    refine pm_callX (x := 12) dMo_is_18 lMo_218 vSg_length rfl (by decide) (Sg_length_22_ok _ _ _ _  _ _ (hp.1 h5).1) rfl rfl (Nat.le_of_ble_eq_true rfl) (Nat.le_refl _) (Nat.le_refl _) ?_
    refine pm_icmp_eq 26 dMo_is_21 (by decide) (fun h21 => ?_) (fun h21 => ?_)
    ·
      refine pm_iconst (v := 0) dMo_is_26 (by decide) ?_
      refine pm_istore_n dMo_is_27 (by decide) rfl ?_
      refine pm_wk [1, 2, 0] rfl ?_
      exact Mo_is_22_n28 g d ex R hR J _ _ _ _  n28 _ _ ((hp.1 h5).2.1 h21) (hF.trans (by first | (simp only [fMo_is_22_4, if_pos h5, if_pos h21]; done) | (simp only [fMo_is_22_4, if_pos h5, if_pos h21]; rfl) | rfl))
    ·
      refine pm_wk [0, 1] rfl ?_
      exact Mo_is_22_n24 g d ex R hR J _ _ _ _   _ ((hp.1 h5).2.2 h21) (hF.trans (by first | (simp only [fMo_is_22_4, if_pos h5, if_neg h21]; done) | (simp only [fMo_is_22_4, if_pos h5, if_neg h21]; rfl) | rfl))
set_option maxHeartbeats 4000000 in
set_option maxRecDepth 100000 in
theorem Mo_is_22_n0 (g : pmG) (d : Nat) (ex : List (Nat × Nat)) (R : Nat → Nat → Value) (hR : mk_R R) (J : Nat → Nat → Int64) (o : Outcome) (Z : pmM) (rc rs : Nat) (n28 : Nat) (I : Nat → Nat → Int32) (hp : pMo_is_22 n28 I) (hF : (o, Z, rc, rs) = pt_I (mk_K ++ ex) R J (fMo_is_22 n28 I)) : pmE g kMo_is (d + 9) rc rs 0 [(0, .ref 40), (1, .retAddr 22)] [] (mk_K ++ ex) R I J o Z := by
  unfold pMo_is_22 at hp
  refine pm_aload_n dMo_is_0 rfl ?_
  refine pt_callV (v2 := some (.int 0)) dMo_is_1 lMo_207 vMo_peek ⟨_, _, rfl⟩ (Mo_peek_ok _ _ _ _ hR _ _ _ _ hp.1) rfl rfl rfl (Nat.le_of_ble_eq_true rfl) (fun h1 => ?_) (fun h1 => hF.trans (by first | (simp only [fMo_is_22, if_neg h1]; done) | (simp only [fMo_is_22, if_neg h1]; rfl) | rfl))
  refine pm_wk [0, 1] rfl ?_
  exact Mo_is_22_n4 g d ex R hR J _ _ _ _  n28 _ _ (hp.2 h1) (hF.trans (by first | (simp only [fMo_is_22, if_pos h1]; done) | (simp only [fMo_is_22, if_pos h1]; rfl) | rfl))
set_option maxHeartbeats 4000000 in
set_option maxRecDepth 100000 in
theorem Mo_is_22_ok (g : pmG) (d : Nat) (ex : List (Nat × Nat)) (R : Nat → Nat → Value) (hR : mk_R R) (n28 : Nat)  (I : Nat → Nat → Int32) (J : Nat → Nat → Int64) (hp : pMo_is_22 n28 I) : pmT g kMo_is (d + 9) [.ref 40, .retAddr 22] (mk_K ++ ex, R, I, J) (pt_I (mk_K ++ ex) R J (fMo_is_22 n28 I)) :=
  pmC.of (by decide) (Nat.le_of_ble_eq_true rfl) (Mo_is_22_n0 g d ex R hR J _ _ _ _ n28  I hp rfl)
def fMo_is_23_24  (I : Nat → Nat → Int32) : Int32 × Int32 × Int32 × (Nat → Nat → Int32) :=
  (0, 0, (0 : Int32), I)
def pMo_is_23_24  (I : Nat → Nat → Int32) : Prop :=
  True
def fMo_is_23_28  : Nat → Int32 → (Nat → Nat → Int32) → Int32 × Int32 × Int32 × (Nat → Nat → Int32)
  | 0, _, I => (0, 0, 0, I)
  | n + 1, y2, I =>
  if fSg_length_23 ≤ y2 then (0, 0, (1 : Int32), I)
  else if (I 41 ((I 40 7) + y2).toNatClampNeg) = ((fSg_charAt_23 y2)) then fMo_is_23_28 n (y2 + Int32.ofInt 1) I
    else (0, 0, (0 : Int32), I)
def pMo_is_23_28  : Nat → Int32 → (Nat → Nat → Int32) → Prop
  | 0, _, _ => False
  | n + 1, y2, I =>
  pSg_length_23 ∧ ((fSg_length_23 ≤ y2 → True) ∧
  (¬ (fSg_length_23 ≤ y2) → (vp_in ((I 40 7) + y2) 65536) ∧ ((pSg_charAt_23 y2) ∧ (((I 41 ((I 40 7) + y2).toNatClampNeg) = ((fSg_charAt_23 y2)) → pMo_is_23_28 n (y2 + Int32.ofInt 1) I) ∧
    (¬ ((I 41 ((I 40 7) + y2).toNatClampNeg) = ((fSg_charAt_23 y2))) → True)))))
def fMo_is_23_4 (n28 : Nat) (z0 : Int32) (I : Nat → Nat → Int32) : Int32 × Int32 × Int32 × (Nat → Nat → Int32) :=
  if z0 = (1 : Int32) then if ((I 40 8) - (I 40 7)) = fSg_length_23 then fMo_is_23_28 n28 (0 : Int32) I
    else fMo_is_23_24 I
  else fMo_is_23_24 I
def pMo_is_23_4 (n28 : Nat) (z0 : Int32) (I : Nat → Nat → Int32) : Prop :=
  (z0 = (1 : Int32) → pSg_length_23 ∧ ((((I 40 8) - (I 40 7)) = fSg_length_23 → pMo_is_23_28 n28 (0 : Int32) I) ∧
    (¬ (((I 40 8) - (I 40 7)) = fSg_length_23) → pMo_is_23_24 I))) ∧
  (¬ (z0 = (1 : Int32)) → pMo_is_23_24 I)
def fMo_is_23 (n28 : Nat) (I : Nat → Nat → Int32) : Int32 × Int32 × Int32 × (Nat → Nat → Int32) :=
  if (fMo_peek 65537 65537 I).1 = 0 then fMo_is_23_4 n28 ((fMo_peek 65537 65537 I).2.2.1) ((fMo_peek 65537 65537 I).2.2.2)
  else ((fMo_peek 65537 65537 I).1, (fMo_peek 65537 65537 I).2.1, 0, (fMo_peek 65537 65537 I).2.2.2)
def pMo_is_23 (n28 : Nat) (I : Nat → Nat → Int32) : Prop :=
  (pMo_peek 65537 65537 I) ∧ ((fMo_peek 65537 65537 I).1 = 0 → pMo_is_23_4 n28 ((fMo_peek 65537 65537 I).2.2.1) ((fMo_peek 65537 65537 I).2.2.2))
set_option maxHeartbeats 4000000 in
set_option maxRecDepth 100000 in
theorem Mo_is_23_n24 (g : pmG) (d : Nat) (ex : List (Nat × Nat)) (R : Nat → Nat → Value) (hR : mk_R R) (J : Nat → Nat → Int64) (o : Outcome) (Z : pmM) (rc rs : Nat)  (I : Nat → Nat → Int32) (hp : pMo_is_23_24 I) (hF : (o, Z, rc, rs) = pt_I (mk_K ++ ex) R J (fMo_is_23_24 I)) : pmE g kMo_is (d + 9) rc rs 24 [(0, .ref 40), (1, .retAddr 23)] [] (mk_K ++ ex) R I J o Z := by
  unfold pMo_is_23_24 at hp
  refine pm_iconst (v := 0) dMo_is_24 (by decide) ?_
  exact pt_zret dMo_is_25 rfl (by first | rfl | decide) (hF.trans (by first | (simp only [fMo_is_23_24]; done) | (simp only [fMo_is_23_24]; rfl) | rfl))
set_option maxHeartbeats 4000000 in
set_option maxRecDepth 100000 in
theorem Mo_is_23_n28 (g : pmG) (d : Nat) (ex : List (Nat × Nat)) (R : Nat → Nat → Value) (hR : mk_R R) (J : Nat → Nat → Int64) (o : Outcome) (Z : pmM) (rc rs : Nat)  : ∀ (n : Nat) (y2 : Int32) (I : Nat → Nat → Int32), pMo_is_23_28 n y2 I → (o, Z, rc, rs) = pt_I (mk_K ++ ex) R J (fMo_is_23_28 n y2 I) → pmE g kMo_is (d + 9) rc rs 28 [(0, .ref 40), (1, .retAddr 23), (2, .int y2)] [] (mk_K ++ ex) R I J o Z := by
  intro n
  induction n with
  | zero => intro y2 I hp; exact False.elim hp
  | succ n ih =>
  intro y2 I hp hF
  simp only [pMo_is_23_28] at hp
  refine pm_iload_n dMo_is_28 rfl ?_
  refine pm_xload_n dMo_is_29 rfl ?_
  refine pm_callX (x := 13) dMo_is_30 lMo_218 vSg_length rfl (by decide) (Sg_length_23_ok _ _ _ _  _ _ hp.1) rfl rfl (Nat.le_of_ble_eq_true rfl) (Nat.le_refl _) (Nat.le_refl _) ?_
  refine pm_icmp_ge 63 dMo_is_33 (by decide) (fun h33 => ?_) (fun h33 => ?_)
  ·
    refine pm_iconst (v := 1) dMo_is_63 (by decide) ?_
    exact pt_zret dMo_is_64 rfl (by first | rfl | decide) (hF.trans (by first | (simp only [fMo_is_23_28, if_pos h33]; done) | (simp only [fMo_is_23_28, if_pos h33]; rfl) | rfl))
  ·
    refine pm_aload_n dMo_is_36 rfl ?_
    refine pm_getr dMo_is_37 fMo_8 rfl (rr_40_0 hR) ?_
    refine pm_aload_n dMo_is_40 rfl ?_
    refine pm_geti dMo_is_41 fMo_33 rfl ?_
    refine pm_iload_n dMo_is_44 rfl ?_
    refine pm_iadd dMo_is_45 ?_
    refine pm_bald dMo_is_46 rfl (hp.2.2 h33).1 ?_
    refine pm_xload_n dMo_is_47 rfl ?_
    refine pm_iload_n dMo_is_48 rfl ?_
    refine pm_callX (x := 13) dMo_is_49 lMo_223 vSg_charAt rfl (by decide) (Sg_charAt_23_ok _ _ _ _ _ _ _ (hp.2.2 h33).2.1) rfl rfl (Nat.le_of_ble_eq_true rfl) (Nat.le_refl _) (Nat.le_refl _) ?_
    refine pm_icmp_eq 57 dMo_is_52 (by decide) (fun h52 => ?_) (fun h52 => ?_)
    ·
      refine pm_iinc dMo_is_57 rfl (by decide) rfl ?_
      refine pm_goto 28 dMo_is_60 (by decide) ?_
      refine pm_wk [1, 2, 0] rfl ?_
      exact ih _ _ ((hp.2.2 h33).2.2.1 h52) (hF.trans (by first | (simp only [fMo_is_23_28, if_neg h33, if_pos h52]; done) | (simp only [fMo_is_23_28, if_neg h33, if_pos h52]; rfl) | rfl))
    ·
      refine pm_iconst (v := 0) dMo_is_55 (by decide) ?_
      exact pt_zret dMo_is_56 rfl (by first | rfl | decide) (hF.trans (by first | (simp only [fMo_is_23_28, if_neg h33, if_neg h52]; done) | (simp only [fMo_is_23_28, if_neg h33, if_neg h52]; rfl) | rfl))
set_option maxHeartbeats 4000000 in
set_option maxRecDepth 100000 in
theorem Mo_is_23_n4 (g : pmG) (d : Nat) (ex : List (Nat × Nat)) (R : Nat → Nat → Value) (hR : mk_R R) (J : Nat → Nat → Int64) (o : Outcome) (Z : pmM) (rc rs : Nat) (n28 : Nat) (z0 : Int32) (I : Nat → Nat → Int32) (hp : pMo_is_23_4 n28 z0 I) (hF : (o, Z, rc, rs) = pt_I (mk_K ++ ex) R J (fMo_is_23_4 n28 z0 I)) : pmE g kMo_is (d + 9) rc rs 4 [(0, .ref 40), (1, .retAddr 23)] [.int z0] (mk_K ++ ex) R I J o Z := by
  unfold pMo_is_23_4 at hp
  refine pm_iconst (v := 1) dMo_is_4 (by decide) ?_
  refine pm_icmp_ne 24 dMo_is_5 (by decide) (fun h5 => ?_) (fun h5 => ?_)
  ·
    refine pm_wk [0, 1] rfl ?_
    exact Mo_is_23_n24 g d ex R hR J _ _ _ _   _ (hp.2 h5) (hF.trans (by first | (simp only [fMo_is_23_4, if_neg h5]; done) | (simp only [fMo_is_23_4, if_neg h5]; rfl) | rfl))
  ·
    refine pm_aload_n dMo_is_8 rfl ?_
    refine pm_geti dMo_is_9 fMo_36 rfl ?_
    refine pm_aload_n dMo_is_12 rfl ?_
    refine pm_geti dMo_is_13 fMo_33 rfl ?_
    refine pm_isub dMo_is_16 ?_
    refine pm_xload_n dMo_is_17 rfl ?_
    refine pm_callX (x := 13) dMo_is_18 lMo_218 vSg_length rfl (by decide) (Sg_length_23_ok _ _ _ _  _ _ (hp.1 h5).1) rfl rfl (Nat.le_of_ble_eq_true rfl) (Nat.le_refl _) (Nat.le_refl _) ?_
    refine pm_icmp_eq 26 dMo_is_21 (by decide) (fun h21 => ?_) (fun h21 => ?_)
    ·
      refine pm_iconst (v := 0) dMo_is_26 (by decide) ?_
      refine pm_istore_n dMo_is_27 (by decide) rfl ?_
      refine pm_wk [1, 2, 0] rfl ?_
      exact Mo_is_23_n28 g d ex R hR J _ _ _ _  n28 _ _ ((hp.1 h5).2.1 h21) (hF.trans (by first | (simp only [fMo_is_23_4, if_pos h5, if_pos h21]; done) | (simp only [fMo_is_23_4, if_pos h5, if_pos h21]; rfl) | rfl))
    ·
      refine pm_wk [0, 1] rfl ?_
      exact Mo_is_23_n24 g d ex R hR J _ _ _ _   _ ((hp.1 h5).2.2 h21) (hF.trans (by first | (simp only [fMo_is_23_4, if_pos h5, if_neg h21]; done) | (simp only [fMo_is_23_4, if_pos h5, if_neg h21]; rfl) | rfl))
set_option maxHeartbeats 4000000 in
set_option maxRecDepth 100000 in
theorem Mo_is_23_n0 (g : pmG) (d : Nat) (ex : List (Nat × Nat)) (R : Nat → Nat → Value) (hR : mk_R R) (J : Nat → Nat → Int64) (o : Outcome) (Z : pmM) (rc rs : Nat) (n28 : Nat) (I : Nat → Nat → Int32) (hp : pMo_is_23 n28 I) (hF : (o, Z, rc, rs) = pt_I (mk_K ++ ex) R J (fMo_is_23 n28 I)) : pmE g kMo_is (d + 9) rc rs 0 [(0, .ref 40), (1, .retAddr 23)] [] (mk_K ++ ex) R I J o Z := by
  unfold pMo_is_23 at hp
  refine pm_aload_n dMo_is_0 rfl ?_
  refine pt_callV (v2 := some (.int 0)) dMo_is_1 lMo_207 vMo_peek ⟨_, _, rfl⟩ (Mo_peek_ok _ _ _ _ hR _ _ _ _ hp.1) rfl rfl rfl (Nat.le_of_ble_eq_true rfl) (fun h1 => ?_) (fun h1 => hF.trans (by first | (simp only [fMo_is_23, if_neg h1]; done) | (simp only [fMo_is_23, if_neg h1]; rfl) | rfl))
  refine pm_wk [0, 1] rfl ?_
  exact Mo_is_23_n4 g d ex R hR J _ _ _ _  n28 _ _ (hp.2 h1) (hF.trans (by first | (simp only [fMo_is_23, if_pos h1]; done) | (simp only [fMo_is_23, if_pos h1]; rfl) | rfl))
set_option maxHeartbeats 4000000 in
set_option maxRecDepth 100000 in
theorem Mo_is_23_ok (g : pmG) (d : Nat) (ex : List (Nat × Nat)) (R : Nat → Nat → Value) (hR : mk_R R) (n28 : Nat)  (I : Nat → Nat → Int32) (J : Nat → Nat → Int64) (hp : pMo_is_23 n28 I) : pmT g kMo_is (d + 9) [.ref 40, .retAddr 23] (mk_K ++ ex, R, I, J) (pt_I (mk_K ++ ex) R J (fMo_is_23 n28 I)) :=
  pmC.of (by decide) (Nat.le_of_ble_eq_true rfl) (Mo_is_23_n0 g d ex R hR J _ _ _ _ n28  I hp rfl)
def fMo_is_24_24  (I : Nat → Nat → Int32) : Int32 × Int32 × Int32 × (Nat → Nat → Int32) :=
  (0, 0, (0 : Int32), I)
def pMo_is_24_24  (I : Nat → Nat → Int32) : Prop :=
  True
def fMo_is_24_28  : Nat → Int32 → (Nat → Nat → Int32) → Int32 × Int32 × Int32 × (Nat → Nat → Int32)
  | 0, _, I => (0, 0, 0, I)
  | n + 1, y2, I =>
  if fSg_length_24 ≤ y2 then (0, 0, (1 : Int32), I)
  else if (I 41 ((I 40 7) + y2).toNatClampNeg) = ((fSg_charAt_24 y2)) then fMo_is_24_28 n (y2 + Int32.ofInt 1) I
    else (0, 0, (0 : Int32), I)
def pMo_is_24_28  : Nat → Int32 → (Nat → Nat → Int32) → Prop
  | 0, _, _ => False
  | n + 1, y2, I =>
  pSg_length_24 ∧ ((fSg_length_24 ≤ y2 → True) ∧
  (¬ (fSg_length_24 ≤ y2) → (vp_in ((I 40 7) + y2) 65536) ∧ ((pSg_charAt_24 y2) ∧ (((I 41 ((I 40 7) + y2).toNatClampNeg) = ((fSg_charAt_24 y2)) → pMo_is_24_28 n (y2 + Int32.ofInt 1) I) ∧
    (¬ ((I 41 ((I 40 7) + y2).toNatClampNeg) = ((fSg_charAt_24 y2))) → True)))))
def fMo_is_24_4 (n28 : Nat) (z0 : Int32) (I : Nat → Nat → Int32) : Int32 × Int32 × Int32 × (Nat → Nat → Int32) :=
  if z0 = (1 : Int32) then if ((I 40 8) - (I 40 7)) = fSg_length_24 then fMo_is_24_28 n28 (0 : Int32) I
    else fMo_is_24_24 I
  else fMo_is_24_24 I
def pMo_is_24_4 (n28 : Nat) (z0 : Int32) (I : Nat → Nat → Int32) : Prop :=
  (z0 = (1 : Int32) → pSg_length_24 ∧ ((((I 40 8) - (I 40 7)) = fSg_length_24 → pMo_is_24_28 n28 (0 : Int32) I) ∧
    (¬ (((I 40 8) - (I 40 7)) = fSg_length_24) → pMo_is_24_24 I))) ∧
  (¬ (z0 = (1 : Int32)) → pMo_is_24_24 I)
def fMo_is_24 (n28 : Nat) (I : Nat → Nat → Int32) : Int32 × Int32 × Int32 × (Nat → Nat → Int32) :=
  if (fMo_peek 65537 65537 I).1 = 0 then fMo_is_24_4 n28 ((fMo_peek 65537 65537 I).2.2.1) ((fMo_peek 65537 65537 I).2.2.2)
  else ((fMo_peek 65537 65537 I).1, (fMo_peek 65537 65537 I).2.1, 0, (fMo_peek 65537 65537 I).2.2.2)
def pMo_is_24 (n28 : Nat) (I : Nat → Nat → Int32) : Prop :=
  (pMo_peek 65537 65537 I) ∧ ((fMo_peek 65537 65537 I).1 = 0 → pMo_is_24_4 n28 ((fMo_peek 65537 65537 I).2.2.1) ((fMo_peek 65537 65537 I).2.2.2))
set_option maxHeartbeats 4000000 in
set_option maxRecDepth 100000 in
theorem Mo_is_24_n24 (g : pmG) (d : Nat) (ex : List (Nat × Nat)) (R : Nat → Nat → Value) (hR : mk_R R) (J : Nat → Nat → Int64) (o : Outcome) (Z : pmM) (rc rs : Nat)  (I : Nat → Nat → Int32) (hp : pMo_is_24_24 I) (hF : (o, Z, rc, rs) = pt_I (mk_K ++ ex) R J (fMo_is_24_24 I)) : pmE g kMo_is (d + 9) rc rs 24 [(0, .ref 40), (1, .retAddr 24)] [] (mk_K ++ ex) R I J o Z := by
  unfold pMo_is_24_24 at hp
  refine pm_iconst (v := 0) dMo_is_24 (by decide) ?_
  exact pt_zret dMo_is_25 rfl (by first | rfl | decide) (hF.trans (by first | (simp only [fMo_is_24_24]; done) | (simp only [fMo_is_24_24]; rfl) | rfl))
set_option maxHeartbeats 4000000 in
set_option maxRecDepth 100000 in
theorem Mo_is_24_n28 (g : pmG) (d : Nat) (ex : List (Nat × Nat)) (R : Nat → Nat → Value) (hR : mk_R R) (J : Nat → Nat → Int64) (o : Outcome) (Z : pmM) (rc rs : Nat)  : ∀ (n : Nat) (y2 : Int32) (I : Nat → Nat → Int32), pMo_is_24_28 n y2 I → (o, Z, rc, rs) = pt_I (mk_K ++ ex) R J (fMo_is_24_28 n y2 I) → pmE g kMo_is (d + 9) rc rs 28 [(0, .ref 40), (1, .retAddr 24), (2, .int y2)] [] (mk_K ++ ex) R I J o Z := by
  intro n
  induction n with
  | zero => intro y2 I hp; exact False.elim hp
  | succ n ih =>
  intro y2 I hp hF
  simp only [pMo_is_24_28] at hp
  refine pm_iload_n dMo_is_28 rfl ?_
  refine pm_xload_n dMo_is_29 rfl ?_
  refine pm_callX (x := 14) dMo_is_30 lMo_218 vSg_length rfl (by decide) (Sg_length_24_ok _ _ _ _  _ _ hp.1) rfl rfl (Nat.le_of_ble_eq_true rfl) (Nat.le_refl _) (Nat.le_refl _) ?_
  refine pm_icmp_ge 63 dMo_is_33 (by decide) (fun h33 => ?_) (fun h33 => ?_)
  ·
    refine pm_iconst (v := 1) dMo_is_63 (by decide) ?_
    exact pt_zret dMo_is_64 rfl (by first | rfl | decide) (hF.trans (by first | (simp only [fMo_is_24_28, if_pos h33]; done) | (simp only [fMo_is_24_28, if_pos h33]; rfl) | rfl))
  ·
    refine pm_aload_n dMo_is_36 rfl ?_
    refine pm_getr dMo_is_37 fMo_8 rfl (rr_40_0 hR) ?_
    refine pm_aload_n dMo_is_40 rfl ?_
    refine pm_geti dMo_is_41 fMo_33 rfl ?_
    refine pm_iload_n dMo_is_44 rfl ?_
    refine pm_iadd dMo_is_45 ?_
    refine pm_bald dMo_is_46 rfl (hp.2.2 h33).1 ?_
    refine pm_xload_n dMo_is_47 rfl ?_
    refine pm_iload_n dMo_is_48 rfl ?_
    refine pm_callX (x := 14) dMo_is_49 lMo_223 vSg_charAt rfl (by decide) (Sg_charAt_24_ok _ _ _ _ _ _ _ (hp.2.2 h33).2.1) rfl rfl (Nat.le_of_ble_eq_true rfl) (Nat.le_refl _) (Nat.le_refl _) ?_
    refine pm_icmp_eq 57 dMo_is_52 (by decide) (fun h52 => ?_) (fun h52 => ?_)
    ·
      refine pm_iinc dMo_is_57 rfl (by decide) rfl ?_
      refine pm_goto 28 dMo_is_60 (by decide) ?_
      refine pm_wk [1, 2, 0] rfl ?_
      exact ih _ _ ((hp.2.2 h33).2.2.1 h52) (hF.trans (by first | (simp only [fMo_is_24_28, if_neg h33, if_pos h52]; done) | (simp only [fMo_is_24_28, if_neg h33, if_pos h52]; rfl) | rfl))
    ·
      refine pm_iconst (v := 0) dMo_is_55 (by decide) ?_
      exact pt_zret dMo_is_56 rfl (by first | rfl | decide) (hF.trans (by first | (simp only [fMo_is_24_28, if_neg h33, if_neg h52]; done) | (simp only [fMo_is_24_28, if_neg h33, if_neg h52]; rfl) | rfl))
set_option maxHeartbeats 4000000 in
set_option maxRecDepth 100000 in
theorem Mo_is_24_n4 (g : pmG) (d : Nat) (ex : List (Nat × Nat)) (R : Nat → Nat → Value) (hR : mk_R R) (J : Nat → Nat → Int64) (o : Outcome) (Z : pmM) (rc rs : Nat) (n28 : Nat) (z0 : Int32) (I : Nat → Nat → Int32) (hp : pMo_is_24_4 n28 z0 I) (hF : (o, Z, rc, rs) = pt_I (mk_K ++ ex) R J (fMo_is_24_4 n28 z0 I)) : pmE g kMo_is (d + 9) rc rs 4 [(0, .ref 40), (1, .retAddr 24)] [.int z0] (mk_K ++ ex) R I J o Z := by
  unfold pMo_is_24_4 at hp
  refine pm_iconst (v := 1) dMo_is_4 (by decide) ?_
  refine pm_icmp_ne 24 dMo_is_5 (by decide) (fun h5 => ?_) (fun h5 => ?_)
  ·
    refine pm_wk [0, 1] rfl ?_
    exact Mo_is_24_n24 g d ex R hR J _ _ _ _   _ (hp.2 h5) (hF.trans (by first | (simp only [fMo_is_24_4, if_neg h5]; done) | (simp only [fMo_is_24_4, if_neg h5]; rfl) | rfl))
  ·
    refine pm_aload_n dMo_is_8 rfl ?_
    refine pm_geti dMo_is_9 fMo_36 rfl ?_
    refine pm_aload_n dMo_is_12 rfl ?_
    refine pm_geti dMo_is_13 fMo_33 rfl ?_
    refine pm_isub dMo_is_16 ?_
    refine pm_xload_n dMo_is_17 rfl ?_
    refine pm_callX (x := 14) dMo_is_18 lMo_218 vSg_length rfl (by decide) (Sg_length_24_ok _ _ _ _  _ _ (hp.1 h5).1) rfl rfl (Nat.le_of_ble_eq_true rfl) (Nat.le_refl _) (Nat.le_refl _) ?_
    refine pm_icmp_eq 26 dMo_is_21 (by decide) (fun h21 => ?_) (fun h21 => ?_)
    ·
      refine pm_iconst (v := 0) dMo_is_26 (by decide) ?_
      refine pm_istore_n dMo_is_27 (by decide) rfl ?_
      refine pm_wk [1, 2, 0] rfl ?_
      exact Mo_is_24_n28 g d ex R hR J _ _ _ _  n28 _ _ ((hp.1 h5).2.1 h21) (hF.trans (by first | (simp only [fMo_is_24_4, if_pos h5, if_pos h21]; done) | (simp only [fMo_is_24_4, if_pos h5, if_pos h21]; rfl) | rfl))
    ·
      refine pm_wk [0, 1] rfl ?_
      exact Mo_is_24_n24 g d ex R hR J _ _ _ _   _ ((hp.1 h5).2.2 h21) (hF.trans (by first | (simp only [fMo_is_24_4, if_pos h5, if_neg h21]; done) | (simp only [fMo_is_24_4, if_pos h5, if_neg h21]; rfl) | rfl))
set_option maxHeartbeats 4000000 in
set_option maxRecDepth 100000 in
theorem Mo_is_24_n0 (g : pmG) (d : Nat) (ex : List (Nat × Nat)) (R : Nat → Nat → Value) (hR : mk_R R) (J : Nat → Nat → Int64) (o : Outcome) (Z : pmM) (rc rs : Nat) (n28 : Nat) (I : Nat → Nat → Int32) (hp : pMo_is_24 n28 I) (hF : (o, Z, rc, rs) = pt_I (mk_K ++ ex) R J (fMo_is_24 n28 I)) : pmE g kMo_is (d + 9) rc rs 0 [(0, .ref 40), (1, .retAddr 24)] [] (mk_K ++ ex) R I J o Z := by
  unfold pMo_is_24 at hp
  refine pm_aload_n dMo_is_0 rfl ?_
  refine pt_callV (v2 := some (.int 0)) dMo_is_1 lMo_207 vMo_peek ⟨_, _, rfl⟩ (Mo_peek_ok _ _ _ _ hR _ _ _ _ hp.1) rfl rfl rfl (Nat.le_of_ble_eq_true rfl) (fun h1 => ?_) (fun h1 => hF.trans (by first | (simp only [fMo_is_24, if_neg h1]; done) | (simp only [fMo_is_24, if_neg h1]; rfl) | rfl))
  refine pm_wk [0, 1] rfl ?_
  exact Mo_is_24_n4 g d ex R hR J _ _ _ _  n28 _ _ (hp.2 h1) (hF.trans (by first | (simp only [fMo_is_24, if_pos h1]; done) | (simp only [fMo_is_24, if_pos h1]; rfl) | rfl))
set_option maxHeartbeats 4000000 in
set_option maxRecDepth 100000 in
theorem Mo_is_24_ok (g : pmG) (d : Nat) (ex : List (Nat × Nat)) (R : Nat → Nat → Value) (hR : mk_R R) (n28 : Nat)  (I : Nat → Nat → Int32) (J : Nat → Nat → Int64) (hp : pMo_is_24 n28 I) : pmT g kMo_is (d + 9) [.ref 40, .retAddr 24] (mk_K ++ ex, R, I, J) (pt_I (mk_K ++ ex) R J (fMo_is_24 n28 I)) :=
  pmC.of (by decide) (Nat.le_of_ble_eq_true rfl) (Mo_is_24_n0 g d ex R hR J _ _ _ _ n28  I hp rfl)
def fMo_is_25_24  (I : Nat → Nat → Int32) : Int32 × Int32 × Int32 × (Nat → Nat → Int32) :=
  (0, 0, (0 : Int32), I)
def pMo_is_25_24  (I : Nat → Nat → Int32) : Prop :=
  True
def fMo_is_25_28  : Nat → Int32 → (Nat → Nat → Int32) → Int32 × Int32 × Int32 × (Nat → Nat → Int32)
  | 0, _, I => (0, 0, 0, I)
  | n + 1, y2, I =>
  if fSg_length_25 ≤ y2 then (0, 0, (1 : Int32), I)
  else if (I 41 ((I 40 7) + y2).toNatClampNeg) = ((fSg_charAt_25 y2)) then fMo_is_25_28 n (y2 + Int32.ofInt 1) I
    else (0, 0, (0 : Int32), I)
def pMo_is_25_28  : Nat → Int32 → (Nat → Nat → Int32) → Prop
  | 0, _, _ => False
  | n + 1, y2, I =>
  pSg_length_25 ∧ ((fSg_length_25 ≤ y2 → True) ∧
  (¬ (fSg_length_25 ≤ y2) → (vp_in ((I 40 7) + y2) 65536) ∧ ((pSg_charAt_25 y2) ∧ (((I 41 ((I 40 7) + y2).toNatClampNeg) = ((fSg_charAt_25 y2)) → pMo_is_25_28 n (y2 + Int32.ofInt 1) I) ∧
    (¬ ((I 41 ((I 40 7) + y2).toNatClampNeg) = ((fSg_charAt_25 y2))) → True)))))
def fMo_is_25_4 (n28 : Nat) (z0 : Int32) (I : Nat → Nat → Int32) : Int32 × Int32 × Int32 × (Nat → Nat → Int32) :=
  if z0 = (1 : Int32) then if ((I 40 8) - (I 40 7)) = fSg_length_25 then fMo_is_25_28 n28 (0 : Int32) I
    else fMo_is_25_24 I
  else fMo_is_25_24 I
def pMo_is_25_4 (n28 : Nat) (z0 : Int32) (I : Nat → Nat → Int32) : Prop :=
  (z0 = (1 : Int32) → pSg_length_25 ∧ ((((I 40 8) - (I 40 7)) = fSg_length_25 → pMo_is_25_28 n28 (0 : Int32) I) ∧
    (¬ (((I 40 8) - (I 40 7)) = fSg_length_25) → pMo_is_25_24 I))) ∧
  (¬ (z0 = (1 : Int32)) → pMo_is_25_24 I)
def fMo_is_25 (n28 : Nat) (I : Nat → Nat → Int32) : Int32 × Int32 × Int32 × (Nat → Nat → Int32) :=
  if (fMo_peek 65537 65537 I).1 = 0 then fMo_is_25_4 n28 ((fMo_peek 65537 65537 I).2.2.1) ((fMo_peek 65537 65537 I).2.2.2)
  else ((fMo_peek 65537 65537 I).1, (fMo_peek 65537 65537 I).2.1, 0, (fMo_peek 65537 65537 I).2.2.2)
def pMo_is_25 (n28 : Nat) (I : Nat → Nat → Int32) : Prop :=
  (pMo_peek 65537 65537 I) ∧ ((fMo_peek 65537 65537 I).1 = 0 → pMo_is_25_4 n28 ((fMo_peek 65537 65537 I).2.2.1) ((fMo_peek 65537 65537 I).2.2.2))
set_option maxHeartbeats 4000000 in
set_option maxRecDepth 100000 in
theorem Mo_is_25_n24 (g : pmG) (d : Nat) (ex : List (Nat × Nat)) (R : Nat → Nat → Value) (hR : mk_R R) (J : Nat → Nat → Int64) (o : Outcome) (Z : pmM) (rc rs : Nat)  (I : Nat → Nat → Int32) (hp : pMo_is_25_24 I) (hF : (o, Z, rc, rs) = pt_I (mk_K ++ ex) R J (fMo_is_25_24 I)) : pmE g kMo_is (d + 9) rc rs 24 [(0, .ref 40), (1, .retAddr 25)] [] (mk_K ++ ex) R I J o Z := by
  unfold pMo_is_25_24 at hp
  refine pm_iconst (v := 0) dMo_is_24 (by decide) ?_
  exact pt_zret dMo_is_25 rfl (by first | rfl | decide) (hF.trans (by first | (simp only [fMo_is_25_24]; done) | (simp only [fMo_is_25_24]; rfl) | rfl))
set_option maxHeartbeats 4000000 in
set_option maxRecDepth 100000 in
theorem Mo_is_25_n28 (g : pmG) (d : Nat) (ex : List (Nat × Nat)) (R : Nat → Nat → Value) (hR : mk_R R) (J : Nat → Nat → Int64) (o : Outcome) (Z : pmM) (rc rs : Nat)  : ∀ (n : Nat) (y2 : Int32) (I : Nat → Nat → Int32), pMo_is_25_28 n y2 I → (o, Z, rc, rs) = pt_I (mk_K ++ ex) R J (fMo_is_25_28 n y2 I) → pmE g kMo_is (d + 9) rc rs 28 [(0, .ref 40), (1, .retAddr 25), (2, .int y2)] [] (mk_K ++ ex) R I J o Z := by
  intro n
  induction n with
  | zero => intro y2 I hp; exact False.elim hp
  | succ n ih =>
  intro y2 I hp hF
  simp only [pMo_is_25_28] at hp
  refine pm_iload_n dMo_is_28 rfl ?_
  refine pm_xload_n dMo_is_29 rfl ?_
  refine pm_callX (x := 15) dMo_is_30 lMo_218 vSg_length rfl (by decide) (Sg_length_25_ok _ _ _ _  _ _ hp.1) rfl rfl (Nat.le_of_ble_eq_true rfl) (Nat.le_refl _) (Nat.le_refl _) ?_
  refine pm_icmp_ge 63 dMo_is_33 (by decide) (fun h33 => ?_) (fun h33 => ?_)
  ·
    refine pm_iconst (v := 1) dMo_is_63 (by decide) ?_
    exact pt_zret dMo_is_64 rfl (by first | rfl | decide) (hF.trans (by first | (simp only [fMo_is_25_28, if_pos h33]; done) | (simp only [fMo_is_25_28, if_pos h33]; rfl) | rfl))
  ·
    refine pm_aload_n dMo_is_36 rfl ?_
    refine pm_getr dMo_is_37 fMo_8 rfl (rr_40_0 hR) ?_
    refine pm_aload_n dMo_is_40 rfl ?_
    refine pm_geti dMo_is_41 fMo_33 rfl ?_
    refine pm_iload_n dMo_is_44 rfl ?_
    refine pm_iadd dMo_is_45 ?_
    refine pm_bald dMo_is_46 rfl (hp.2.2 h33).1 ?_
    refine pm_xload_n dMo_is_47 rfl ?_
    refine pm_iload_n dMo_is_48 rfl ?_
    refine pm_callX (x := 15) dMo_is_49 lMo_223 vSg_charAt rfl (by decide) (Sg_charAt_25_ok _ _ _ _ _ _ _ (hp.2.2 h33).2.1) rfl rfl (Nat.le_of_ble_eq_true rfl) (Nat.le_refl _) (Nat.le_refl _) ?_
    refine pm_icmp_eq 57 dMo_is_52 (by decide) (fun h52 => ?_) (fun h52 => ?_)
    ·
      refine pm_iinc dMo_is_57 rfl (by decide) rfl ?_
      refine pm_goto 28 dMo_is_60 (by decide) ?_
      refine pm_wk [1, 2, 0] rfl ?_
      exact ih _ _ ((hp.2.2 h33).2.2.1 h52) (hF.trans (by first | (simp only [fMo_is_25_28, if_neg h33, if_pos h52]; done) | (simp only [fMo_is_25_28, if_neg h33, if_pos h52]; rfl) | rfl))
    ·
      refine pm_iconst (v := 0) dMo_is_55 (by decide) ?_
      exact pt_zret dMo_is_56 rfl (by first | rfl | decide) (hF.trans (by first | (simp only [fMo_is_25_28, if_neg h33, if_neg h52]; done) | (simp only [fMo_is_25_28, if_neg h33, if_neg h52]; rfl) | rfl))
set_option maxHeartbeats 4000000 in
set_option maxRecDepth 100000 in
theorem Mo_is_25_n4 (g : pmG) (d : Nat) (ex : List (Nat × Nat)) (R : Nat → Nat → Value) (hR : mk_R R) (J : Nat → Nat → Int64) (o : Outcome) (Z : pmM) (rc rs : Nat) (n28 : Nat) (z0 : Int32) (I : Nat → Nat → Int32) (hp : pMo_is_25_4 n28 z0 I) (hF : (o, Z, rc, rs) = pt_I (mk_K ++ ex) R J (fMo_is_25_4 n28 z0 I)) : pmE g kMo_is (d + 9) rc rs 4 [(0, .ref 40), (1, .retAddr 25)] [.int z0] (mk_K ++ ex) R I J o Z := by
  unfold pMo_is_25_4 at hp
  refine pm_iconst (v := 1) dMo_is_4 (by decide) ?_
  refine pm_icmp_ne 24 dMo_is_5 (by decide) (fun h5 => ?_) (fun h5 => ?_)
  ·
    refine pm_wk [0, 1] rfl ?_
    exact Mo_is_25_n24 g d ex R hR J _ _ _ _   _ (hp.2 h5) (hF.trans (by first | (simp only [fMo_is_25_4, if_neg h5]; done) | (simp only [fMo_is_25_4, if_neg h5]; rfl) | rfl))
  ·
    refine pm_aload_n dMo_is_8 rfl ?_
    refine pm_geti dMo_is_9 fMo_36 rfl ?_
    refine pm_aload_n dMo_is_12 rfl ?_
    refine pm_geti dMo_is_13 fMo_33 rfl ?_
    refine pm_isub dMo_is_16 ?_
    refine pm_xload_n dMo_is_17 rfl ?_
    refine pm_callX (x := 15) dMo_is_18 lMo_218 vSg_length rfl (by decide) (Sg_length_25_ok _ _ _ _  _ _ (hp.1 h5).1) rfl rfl (Nat.le_of_ble_eq_true rfl) (Nat.le_refl _) (Nat.le_refl _) ?_
    refine pm_icmp_eq 26 dMo_is_21 (by decide) (fun h21 => ?_) (fun h21 => ?_)
    ·
      refine pm_iconst (v := 0) dMo_is_26 (by decide) ?_
      refine pm_istore_n dMo_is_27 (by decide) rfl ?_
      refine pm_wk [1, 2, 0] rfl ?_
      exact Mo_is_25_n28 g d ex R hR J _ _ _ _  n28 _ _ ((hp.1 h5).2.1 h21) (hF.trans (by first | (simp only [fMo_is_25_4, if_pos h5, if_pos h21]; done) | (simp only [fMo_is_25_4, if_pos h5, if_pos h21]; rfl) | rfl))
    ·
      refine pm_wk [0, 1] rfl ?_
      exact Mo_is_25_n24 g d ex R hR J _ _ _ _   _ ((hp.1 h5).2.2 h21) (hF.trans (by first | (simp only [fMo_is_25_4, if_pos h5, if_neg h21]; done) | (simp only [fMo_is_25_4, if_pos h5, if_neg h21]; rfl) | rfl))
set_option maxHeartbeats 4000000 in
set_option maxRecDepth 100000 in
theorem Mo_is_25_n0 (g : pmG) (d : Nat) (ex : List (Nat × Nat)) (R : Nat → Nat → Value) (hR : mk_R R) (J : Nat → Nat → Int64) (o : Outcome) (Z : pmM) (rc rs : Nat) (n28 : Nat) (I : Nat → Nat → Int32) (hp : pMo_is_25 n28 I) (hF : (o, Z, rc, rs) = pt_I (mk_K ++ ex) R J (fMo_is_25 n28 I)) : pmE g kMo_is (d + 9) rc rs 0 [(0, .ref 40), (1, .retAddr 25)] [] (mk_K ++ ex) R I J o Z := by
  unfold pMo_is_25 at hp
  refine pm_aload_n dMo_is_0 rfl ?_
  refine pt_callV (v2 := some (.int 0)) dMo_is_1 lMo_207 vMo_peek ⟨_, _, rfl⟩ (Mo_peek_ok _ _ _ _ hR _ _ _ _ hp.1) rfl rfl rfl (Nat.le_of_ble_eq_true rfl) (fun h1 => ?_) (fun h1 => hF.trans (by first | (simp only [fMo_is_25, if_neg h1]; done) | (simp only [fMo_is_25, if_neg h1]; rfl) | rfl))
  refine pm_wk [0, 1] rfl ?_
  exact Mo_is_25_n4 g d ex R hR J _ _ _ _  n28 _ _ (hp.2 h1) (hF.trans (by first | (simp only [fMo_is_25, if_pos h1]; done) | (simp only [fMo_is_25, if_pos h1]; rfl) | rfl))
set_option maxHeartbeats 4000000 in
set_option maxRecDepth 100000 in
theorem Mo_is_25_ok (g : pmG) (d : Nat) (ex : List (Nat × Nat)) (R : Nat → Nat → Value) (hR : mk_R R) (n28 : Nat)  (I : Nat → Nat → Int32) (J : Nat → Nat → Int64) (hp : pMo_is_25 n28 I) : pmT g kMo_is (d + 9) [.ref 40, .retAddr 25] (mk_K ++ ex, R, I, J) (pt_I (mk_K ++ ex) R J (fMo_is_25 n28 I)) :=
  pmC.of (by decide) (Nat.le_of_ble_eq_true rfl) (Mo_is_25_n0 g d ex R hR J _ _ _ _ n28  I hp rfl)
def fMo_is_26_24  (I : Nat → Nat → Int32) : Int32 × Int32 × Int32 × (Nat → Nat → Int32) :=
  (0, 0, (0 : Int32), I)
def pMo_is_26_24  (I : Nat → Nat → Int32) : Prop :=
  True
def fMo_is_26_28  : Nat → Int32 → (Nat → Nat → Int32) → Int32 × Int32 × Int32 × (Nat → Nat → Int32)
  | 0, _, I => (0, 0, 0, I)
  | n + 1, y2, I =>
  if fSg_length_26 ≤ y2 then (0, 0, (1 : Int32), I)
  else if (I 41 ((I 40 7) + y2).toNatClampNeg) = ((fSg_charAt_26 y2)) then fMo_is_26_28 n (y2 + Int32.ofInt 1) I
    else (0, 0, (0 : Int32), I)
def pMo_is_26_28  : Nat → Int32 → (Nat → Nat → Int32) → Prop
  | 0, _, _ => False
  | n + 1, y2, I =>
  pSg_length_26 ∧ ((fSg_length_26 ≤ y2 → True) ∧
  (¬ (fSg_length_26 ≤ y2) → (vp_in ((I 40 7) + y2) 65536) ∧ ((pSg_charAt_26 y2) ∧ (((I 41 ((I 40 7) + y2).toNatClampNeg) = ((fSg_charAt_26 y2)) → pMo_is_26_28 n (y2 + Int32.ofInt 1) I) ∧
    (¬ ((I 41 ((I 40 7) + y2).toNatClampNeg) = ((fSg_charAt_26 y2))) → True)))))
def fMo_is_26_4 (n28 : Nat) (z0 : Int32) (I : Nat → Nat → Int32) : Int32 × Int32 × Int32 × (Nat → Nat → Int32) :=
  if z0 = (1 : Int32) then if ((I 40 8) - (I 40 7)) = fSg_length_26 then fMo_is_26_28 n28 (0 : Int32) I
    else fMo_is_26_24 I
  else fMo_is_26_24 I
def pMo_is_26_4 (n28 : Nat) (z0 : Int32) (I : Nat → Nat → Int32) : Prop :=
  (z0 = (1 : Int32) → pSg_length_26 ∧ ((((I 40 8) - (I 40 7)) = fSg_length_26 → pMo_is_26_28 n28 (0 : Int32) I) ∧
    (¬ (((I 40 8) - (I 40 7)) = fSg_length_26) → pMo_is_26_24 I))) ∧
  (¬ (z0 = (1 : Int32)) → pMo_is_26_24 I)
def fMo_is_26 (n28 : Nat) (I : Nat → Nat → Int32) : Int32 × Int32 × Int32 × (Nat → Nat → Int32) :=
  if (fMo_peek 65537 65537 I).1 = 0 then fMo_is_26_4 n28 ((fMo_peek 65537 65537 I).2.2.1) ((fMo_peek 65537 65537 I).2.2.2)
  else ((fMo_peek 65537 65537 I).1, (fMo_peek 65537 65537 I).2.1, 0, (fMo_peek 65537 65537 I).2.2.2)
def pMo_is_26 (n28 : Nat) (I : Nat → Nat → Int32) : Prop :=
  (pMo_peek 65537 65537 I) ∧ ((fMo_peek 65537 65537 I).1 = 0 → pMo_is_26_4 n28 ((fMo_peek 65537 65537 I).2.2.1) ((fMo_peek 65537 65537 I).2.2.2))
set_option maxHeartbeats 4000000 in
set_option maxRecDepth 100000 in
theorem Mo_is_26_n24 (g : pmG) (d : Nat) (ex : List (Nat × Nat)) (R : Nat → Nat → Value) (hR : mk_R R) (J : Nat → Nat → Int64) (o : Outcome) (Z : pmM) (rc rs : Nat)  (I : Nat → Nat → Int32) (hp : pMo_is_26_24 I) (hF : (o, Z, rc, rs) = pt_I (mk_K ++ ex) R J (fMo_is_26_24 I)) : pmE g kMo_is (d + 9) rc rs 24 [(0, .ref 40), (1, .retAddr 26)] [] (mk_K ++ ex) R I J o Z := by
  unfold pMo_is_26_24 at hp
  refine pm_iconst (v := 0) dMo_is_24 (by decide) ?_
  exact pt_zret dMo_is_25 rfl (by first | rfl | decide) (hF.trans (by first | (simp only [fMo_is_26_24]; done) | (simp only [fMo_is_26_24]; rfl) | rfl))
set_option maxHeartbeats 4000000 in
set_option maxRecDepth 100000 in
theorem Mo_is_26_n28 (g : pmG) (d : Nat) (ex : List (Nat × Nat)) (R : Nat → Nat → Value) (hR : mk_R R) (J : Nat → Nat → Int64) (o : Outcome) (Z : pmM) (rc rs : Nat)  : ∀ (n : Nat) (y2 : Int32) (I : Nat → Nat → Int32), pMo_is_26_28 n y2 I → (o, Z, rc, rs) = pt_I (mk_K ++ ex) R J (fMo_is_26_28 n y2 I) → pmE g kMo_is (d + 9) rc rs 28 [(0, .ref 40), (1, .retAddr 26), (2, .int y2)] [] (mk_K ++ ex) R I J o Z := by
  intro n
  induction n with
  | zero => intro y2 I hp; exact False.elim hp
  | succ n ih =>
  intro y2 I hp hF
  simp only [pMo_is_26_28] at hp
  refine pm_iload_n dMo_is_28 rfl ?_
  refine pm_xload_n dMo_is_29 rfl ?_
  refine pm_callX (x := 16) dMo_is_30 lMo_218 vSg_length rfl (by decide) (Sg_length_26_ok _ _ _ _  _ _ hp.1) rfl rfl (Nat.le_of_ble_eq_true rfl) (Nat.le_refl _) (Nat.le_refl _) ?_
  refine pm_icmp_ge 63 dMo_is_33 (by decide) (fun h33 => ?_) (fun h33 => ?_)
  ·
    refine pm_iconst (v := 1) dMo_is_63 (by decide) ?_
    exact pt_zret dMo_is_64 rfl (by first | rfl | decide) (hF.trans (by first | (simp only [fMo_is_26_28, if_pos h33]; done) | (simp only [fMo_is_26_28, if_pos h33]; rfl) | rfl))
  ·
    refine pm_aload_n dMo_is_36 rfl ?_
    refine pm_getr dMo_is_37 fMo_8 rfl (rr_40_0 hR) ?_
    refine pm_aload_n dMo_is_40 rfl ?_
    refine pm_geti dMo_is_41 fMo_33 rfl ?_
    refine pm_iload_n dMo_is_44 rfl ?_
    refine pm_iadd dMo_is_45 ?_
    refine pm_bald dMo_is_46 rfl (hp.2.2 h33).1 ?_
    refine pm_xload_n dMo_is_47 rfl ?_
    refine pm_iload_n dMo_is_48 rfl ?_
    refine pm_callX (x := 16) dMo_is_49 lMo_223 vSg_charAt rfl (by decide) (Sg_charAt_26_ok _ _ _ _ _ _ _ (hp.2.2 h33).2.1) rfl rfl (Nat.le_of_ble_eq_true rfl) (Nat.le_refl _) (Nat.le_refl _) ?_
    refine pm_icmp_eq 57 dMo_is_52 (by decide) (fun h52 => ?_) (fun h52 => ?_)
    ·
      refine pm_iinc dMo_is_57 rfl (by decide) rfl ?_
      refine pm_goto 28 dMo_is_60 (by decide) ?_
      refine pm_wk [1, 2, 0] rfl ?_
      exact ih _ _ ((hp.2.2 h33).2.2.1 h52) (hF.trans (by first | (simp only [fMo_is_26_28, if_neg h33, if_pos h52]; done) | (simp only [fMo_is_26_28, if_neg h33, if_pos h52]; rfl) | rfl))
    ·
      refine pm_iconst (v := 0) dMo_is_55 (by decide) ?_
      exact pt_zret dMo_is_56 rfl (by first | rfl | decide) (hF.trans (by first | (simp only [fMo_is_26_28, if_neg h33, if_neg h52]; done) | (simp only [fMo_is_26_28, if_neg h33, if_neg h52]; rfl) | rfl))
set_option maxHeartbeats 4000000 in
set_option maxRecDepth 100000 in
theorem Mo_is_26_n4 (g : pmG) (d : Nat) (ex : List (Nat × Nat)) (R : Nat → Nat → Value) (hR : mk_R R) (J : Nat → Nat → Int64) (o : Outcome) (Z : pmM) (rc rs : Nat) (n28 : Nat) (z0 : Int32) (I : Nat → Nat → Int32) (hp : pMo_is_26_4 n28 z0 I) (hF : (o, Z, rc, rs) = pt_I (mk_K ++ ex) R J (fMo_is_26_4 n28 z0 I)) : pmE g kMo_is (d + 9) rc rs 4 [(0, .ref 40), (1, .retAddr 26)] [.int z0] (mk_K ++ ex) R I J o Z := by
  unfold pMo_is_26_4 at hp
  refine pm_iconst (v := 1) dMo_is_4 (by decide) ?_
  refine pm_icmp_ne 24 dMo_is_5 (by decide) (fun h5 => ?_) (fun h5 => ?_)
  ·
    refine pm_wk [0, 1] rfl ?_
    exact Mo_is_26_n24 g d ex R hR J _ _ _ _   _ (hp.2 h5) (hF.trans (by first | (simp only [fMo_is_26_4, if_neg h5]; done) | (simp only [fMo_is_26_4, if_neg h5]; rfl) | rfl))
  ·
    refine pm_aload_n dMo_is_8 rfl ?_
    refine pm_geti dMo_is_9 fMo_36 rfl ?_
    refine pm_aload_n dMo_is_12 rfl ?_
    refine pm_geti dMo_is_13 fMo_33 rfl ?_
    refine pm_isub dMo_is_16 ?_
    refine pm_xload_n dMo_is_17 rfl ?_
    refine pm_callX (x := 16) dMo_is_18 lMo_218 vSg_length rfl (by decide) (Sg_length_26_ok _ _ _ _  _ _ (hp.1 h5).1) rfl rfl (Nat.le_of_ble_eq_true rfl) (Nat.le_refl _) (Nat.le_refl _) ?_
    refine pm_icmp_eq 26 dMo_is_21 (by decide) (fun h21 => ?_) (fun h21 => ?_)
    ·
      refine pm_iconst (v := 0) dMo_is_26 (by decide) ?_
      refine pm_istore_n dMo_is_27 (by decide) rfl ?_
      refine pm_wk [1, 2, 0] rfl ?_
      exact Mo_is_26_n28 g d ex R hR J _ _ _ _  n28 _ _ ((hp.1 h5).2.1 h21) (hF.trans (by first | (simp only [fMo_is_26_4, if_pos h5, if_pos h21]; done) | (simp only [fMo_is_26_4, if_pos h5, if_pos h21]; rfl) | rfl))
    ·
      refine pm_wk [0, 1] rfl ?_
      exact Mo_is_26_n24 g d ex R hR J _ _ _ _   _ ((hp.1 h5).2.2 h21) (hF.trans (by first | (simp only [fMo_is_26_4, if_pos h5, if_neg h21]; done) | (simp only [fMo_is_26_4, if_pos h5, if_neg h21]; rfl) | rfl))
set_option maxHeartbeats 4000000 in
set_option maxRecDepth 100000 in
theorem Mo_is_26_n0 (g : pmG) (d : Nat) (ex : List (Nat × Nat)) (R : Nat → Nat → Value) (hR : mk_R R) (J : Nat → Nat → Int64) (o : Outcome) (Z : pmM) (rc rs : Nat) (n28 : Nat) (I : Nat → Nat → Int32) (hp : pMo_is_26 n28 I) (hF : (o, Z, rc, rs) = pt_I (mk_K ++ ex) R J (fMo_is_26 n28 I)) : pmE g kMo_is (d + 9) rc rs 0 [(0, .ref 40), (1, .retAddr 26)] [] (mk_K ++ ex) R I J o Z := by
  unfold pMo_is_26 at hp
  refine pm_aload_n dMo_is_0 rfl ?_
  refine pt_callV (v2 := some (.int 0)) dMo_is_1 lMo_207 vMo_peek ⟨_, _, rfl⟩ (Mo_peek_ok _ _ _ _ hR _ _ _ _ hp.1) rfl rfl rfl (Nat.le_of_ble_eq_true rfl) (fun h1 => ?_) (fun h1 => hF.trans (by first | (simp only [fMo_is_26, if_neg h1]; done) | (simp only [fMo_is_26, if_neg h1]; rfl) | rfl))
  refine pm_wk [0, 1] rfl ?_
  exact Mo_is_26_n4 g d ex R hR J _ _ _ _  n28 _ _ (hp.2 h1) (hF.trans (by first | (simp only [fMo_is_26, if_pos h1]; done) | (simp only [fMo_is_26, if_pos h1]; rfl) | rfl))
set_option maxHeartbeats 4000000 in
set_option maxRecDepth 100000 in
theorem Mo_is_26_ok (g : pmG) (d : Nat) (ex : List (Nat × Nat)) (R : Nat → Nat → Value) (hR : mk_R R) (n28 : Nat)  (I : Nat → Nat → Int32) (J : Nat → Nat → Int64) (hp : pMo_is_26 n28 I) : pmT g kMo_is (d + 9) [.ref 40, .retAddr 26] (mk_K ++ ex, R, I, J) (pt_I (mk_K ++ ex) R J (fMo_is_26 n28 I)) :=
  pmC.of (by decide) (Nat.le_of_ble_eq_true rfl) (Mo_is_26_n0 g d ex R hR J _ _ _ _ n28  I hp rfl)
def fMo_is_27_24  (I : Nat → Nat → Int32) : Int32 × Int32 × Int32 × (Nat → Nat → Int32) :=
  (0, 0, (0 : Int32), I)
def pMo_is_27_24  (I : Nat → Nat → Int32) : Prop :=
  True
def fMo_is_27_28  : Nat → Int32 → (Nat → Nat → Int32) → Int32 × Int32 × Int32 × (Nat → Nat → Int32)
  | 0, _, I => (0, 0, 0, I)
  | n + 1, y2, I =>
  if fSg_length_27 ≤ y2 then (0, 0, (1 : Int32), I)
  else if (I 41 ((I 40 7) + y2).toNatClampNeg) = ((fSg_charAt_27 y2)) then fMo_is_27_28 n (y2 + Int32.ofInt 1) I
    else (0, 0, (0 : Int32), I)
def pMo_is_27_28  : Nat → Int32 → (Nat → Nat → Int32) → Prop
  | 0, _, _ => False
  | n + 1, y2, I =>
  pSg_length_27 ∧ ((fSg_length_27 ≤ y2 → True) ∧
  (¬ (fSg_length_27 ≤ y2) → (vp_in ((I 40 7) + y2) 65536) ∧ ((pSg_charAt_27 y2) ∧ (((I 41 ((I 40 7) + y2).toNatClampNeg) = ((fSg_charAt_27 y2)) → pMo_is_27_28 n (y2 + Int32.ofInt 1) I) ∧
    (¬ ((I 41 ((I 40 7) + y2).toNatClampNeg) = ((fSg_charAt_27 y2))) → True)))))
def fMo_is_27_4 (n28 : Nat) (z0 : Int32) (I : Nat → Nat → Int32) : Int32 × Int32 × Int32 × (Nat → Nat → Int32) :=
  if z0 = (1 : Int32) then if ((I 40 8) - (I 40 7)) = fSg_length_27 then fMo_is_27_28 n28 (0 : Int32) I
    else fMo_is_27_24 I
  else fMo_is_27_24 I
def pMo_is_27_4 (n28 : Nat) (z0 : Int32) (I : Nat → Nat → Int32) : Prop :=
  (z0 = (1 : Int32) → pSg_length_27 ∧ ((((I 40 8) - (I 40 7)) = fSg_length_27 → pMo_is_27_28 n28 (0 : Int32) I) ∧
    (¬ (((I 40 8) - (I 40 7)) = fSg_length_27) → pMo_is_27_24 I))) ∧
  (¬ (z0 = (1 : Int32)) → pMo_is_27_24 I)
def fMo_is_27 (n28 : Nat) (I : Nat → Nat → Int32) : Int32 × Int32 × Int32 × (Nat → Nat → Int32) :=
  if (fMo_peek 65537 65537 I).1 = 0 then fMo_is_27_4 n28 ((fMo_peek 65537 65537 I).2.2.1) ((fMo_peek 65537 65537 I).2.2.2)
  else ((fMo_peek 65537 65537 I).1, (fMo_peek 65537 65537 I).2.1, 0, (fMo_peek 65537 65537 I).2.2.2)
def pMo_is_27 (n28 : Nat) (I : Nat → Nat → Int32) : Prop :=
  (pMo_peek 65537 65537 I) ∧ ((fMo_peek 65537 65537 I).1 = 0 → pMo_is_27_4 n28 ((fMo_peek 65537 65537 I).2.2.1) ((fMo_peek 65537 65537 I).2.2.2))
set_option maxHeartbeats 4000000 in
set_option maxRecDepth 100000 in
theorem Mo_is_27_n24 (g : pmG) (d : Nat) (ex : List (Nat × Nat)) (R : Nat → Nat → Value) (hR : mk_R R) (J : Nat → Nat → Int64) (o : Outcome) (Z : pmM) (rc rs : Nat)  (I : Nat → Nat → Int32) (hp : pMo_is_27_24 I) (hF : (o, Z, rc, rs) = pt_I (mk_K ++ ex) R J (fMo_is_27_24 I)) : pmE g kMo_is (d + 9) rc rs 24 [(0, .ref 40), (1, .retAddr 27)] [] (mk_K ++ ex) R I J o Z := by
  unfold pMo_is_27_24 at hp
  refine pm_iconst (v := 0) dMo_is_24 (by decide) ?_
  exact pt_zret dMo_is_25 rfl (by first | rfl | decide) (hF.trans (by first | (simp only [fMo_is_27_24]; done) | (simp only [fMo_is_27_24]; rfl) | rfl))
set_option maxHeartbeats 4000000 in
set_option maxRecDepth 100000 in
theorem Mo_is_27_n28 (g : pmG) (d : Nat) (ex : List (Nat × Nat)) (R : Nat → Nat → Value) (hR : mk_R R) (J : Nat → Nat → Int64) (o : Outcome) (Z : pmM) (rc rs : Nat)  : ∀ (n : Nat) (y2 : Int32) (I : Nat → Nat → Int32), pMo_is_27_28 n y2 I → (o, Z, rc, rs) = pt_I (mk_K ++ ex) R J (fMo_is_27_28 n y2 I) → pmE g kMo_is (d + 9) rc rs 28 [(0, .ref 40), (1, .retAddr 27), (2, .int y2)] [] (mk_K ++ ex) R I J o Z := by
  intro n
  induction n with
  | zero => intro y2 I hp; exact False.elim hp
  | succ n ih =>
  intro y2 I hp hF
  simp only [pMo_is_27_28] at hp
  refine pm_iload_n dMo_is_28 rfl ?_
  refine pm_xload_n dMo_is_29 rfl ?_
  refine pm_callX (x := 17) dMo_is_30 lMo_218 vSg_length rfl (by decide) (Sg_length_27_ok _ _ _ _  _ _ hp.1) rfl rfl (Nat.le_of_ble_eq_true rfl) (Nat.le_refl _) (Nat.le_refl _) ?_
  refine pm_icmp_ge 63 dMo_is_33 (by decide) (fun h33 => ?_) (fun h33 => ?_)
  ·
    refine pm_iconst (v := 1) dMo_is_63 (by decide) ?_
    exact pt_zret dMo_is_64 rfl (by first | rfl | decide) (hF.trans (by first | (simp only [fMo_is_27_28, if_pos h33]; done) | (simp only [fMo_is_27_28, if_pos h33]; rfl) | rfl))
  ·
    refine pm_aload_n dMo_is_36 rfl ?_
    refine pm_getr dMo_is_37 fMo_8 rfl (rr_40_0 hR) ?_
    refine pm_aload_n dMo_is_40 rfl ?_
    refine pm_geti dMo_is_41 fMo_33 rfl ?_
    refine pm_iload_n dMo_is_44 rfl ?_
    refine pm_iadd dMo_is_45 ?_
    refine pm_bald dMo_is_46 rfl (hp.2.2 h33).1 ?_
    refine pm_xload_n dMo_is_47 rfl ?_
    refine pm_iload_n dMo_is_48 rfl ?_
    refine pm_callX (x := 17) dMo_is_49 lMo_223 vSg_charAt rfl (by decide) (Sg_charAt_27_ok _ _ _ _ _ _ _ (hp.2.2 h33).2.1) rfl rfl (Nat.le_of_ble_eq_true rfl) (Nat.le_refl _) (Nat.le_refl _) ?_
    refine pm_icmp_eq 57 dMo_is_52 (by decide) (fun h52 => ?_) (fun h52 => ?_)
    ·
      refine pm_iinc dMo_is_57 rfl (by decide) rfl ?_
      refine pm_goto 28 dMo_is_60 (by decide) ?_
      refine pm_wk [1, 2, 0] rfl ?_
      exact ih _ _ ((hp.2.2 h33).2.2.1 h52) (hF.trans (by first | (simp only [fMo_is_27_28, if_neg h33, if_pos h52]; done) | (simp only [fMo_is_27_28, if_neg h33, if_pos h52]; rfl) | rfl))
    ·
      refine pm_iconst (v := 0) dMo_is_55 (by decide) ?_
      exact pt_zret dMo_is_56 rfl (by first | rfl | decide) (hF.trans (by first | (simp only [fMo_is_27_28, if_neg h33, if_neg h52]; done) | (simp only [fMo_is_27_28, if_neg h33, if_neg h52]; rfl) | rfl))
set_option maxHeartbeats 4000000 in
set_option maxRecDepth 100000 in
theorem Mo_is_27_n4 (g : pmG) (d : Nat) (ex : List (Nat × Nat)) (R : Nat → Nat → Value) (hR : mk_R R) (J : Nat → Nat → Int64) (o : Outcome) (Z : pmM) (rc rs : Nat) (n28 : Nat) (z0 : Int32) (I : Nat → Nat → Int32) (hp : pMo_is_27_4 n28 z0 I) (hF : (o, Z, rc, rs) = pt_I (mk_K ++ ex) R J (fMo_is_27_4 n28 z0 I)) : pmE g kMo_is (d + 9) rc rs 4 [(0, .ref 40), (1, .retAddr 27)] [.int z0] (mk_K ++ ex) R I J o Z := by
  unfold pMo_is_27_4 at hp
  refine pm_iconst (v := 1) dMo_is_4 (by decide) ?_
  refine pm_icmp_ne 24 dMo_is_5 (by decide) (fun h5 => ?_) (fun h5 => ?_)
  ·
    refine pm_wk [0, 1] rfl ?_
    exact Mo_is_27_n24 g d ex R hR J _ _ _ _   _ (hp.2 h5) (hF.trans (by first | (simp only [fMo_is_27_4, if_neg h5]; done) | (simp only [fMo_is_27_4, if_neg h5]; rfl) | rfl))
  ·
    refine pm_aload_n dMo_is_8 rfl ?_
    refine pm_geti dMo_is_9 fMo_36 rfl ?_
    refine pm_aload_n dMo_is_12 rfl ?_
    refine pm_geti dMo_is_13 fMo_33 rfl ?_
    refine pm_isub dMo_is_16 ?_
    refine pm_xload_n dMo_is_17 rfl ?_
    refine pm_callX (x := 17) dMo_is_18 lMo_218 vSg_length rfl (by decide) (Sg_length_27_ok _ _ _ _  _ _ (hp.1 h5).1) rfl rfl (Nat.le_of_ble_eq_true rfl) (Nat.le_refl _) (Nat.le_refl _) ?_
    refine pm_icmp_eq 26 dMo_is_21 (by decide) (fun h21 => ?_) (fun h21 => ?_)
    ·
      refine pm_iconst (v := 0) dMo_is_26 (by decide) ?_
      refine pm_istore_n dMo_is_27 (by decide) rfl ?_
      refine pm_wk [1, 2, 0] rfl ?_
      exact Mo_is_27_n28 g d ex R hR J _ _ _ _  n28 _ _ ((hp.1 h5).2.1 h21) (hF.trans (by first | (simp only [fMo_is_27_4, if_pos h5, if_pos h21]; done) | (simp only [fMo_is_27_4, if_pos h5, if_pos h21]; rfl) | rfl))
    ·
      refine pm_wk [0, 1] rfl ?_
      exact Mo_is_27_n24 g d ex R hR J _ _ _ _   _ ((hp.1 h5).2.2 h21) (hF.trans (by first | (simp only [fMo_is_27_4, if_pos h5, if_neg h21]; done) | (simp only [fMo_is_27_4, if_pos h5, if_neg h21]; rfl) | rfl))
set_option maxHeartbeats 4000000 in
set_option maxRecDepth 100000 in
theorem Mo_is_27_n0 (g : pmG) (d : Nat) (ex : List (Nat × Nat)) (R : Nat → Nat → Value) (hR : mk_R R) (J : Nat → Nat → Int64) (o : Outcome) (Z : pmM) (rc rs : Nat) (n28 : Nat) (I : Nat → Nat → Int32) (hp : pMo_is_27 n28 I) (hF : (o, Z, rc, rs) = pt_I (mk_K ++ ex) R J (fMo_is_27 n28 I)) : pmE g kMo_is (d + 9) rc rs 0 [(0, .ref 40), (1, .retAddr 27)] [] (mk_K ++ ex) R I J o Z := by
  unfold pMo_is_27 at hp
  refine pm_aload_n dMo_is_0 rfl ?_
  refine pt_callV (v2 := some (.int 0)) dMo_is_1 lMo_207 vMo_peek ⟨_, _, rfl⟩ (Mo_peek_ok _ _ _ _ hR _ _ _ _ hp.1) rfl rfl rfl (Nat.le_of_ble_eq_true rfl) (fun h1 => ?_) (fun h1 => hF.trans (by first | (simp only [fMo_is_27, if_neg h1]; done) | (simp only [fMo_is_27, if_neg h1]; rfl) | rfl))
  refine pm_wk [0, 1] rfl ?_
  exact Mo_is_27_n4 g d ex R hR J _ _ _ _  n28 _ _ (hp.2 h1) (hF.trans (by first | (simp only [fMo_is_27, if_pos h1]; done) | (simp only [fMo_is_27, if_pos h1]; rfl) | rfl))
set_option maxHeartbeats 4000000 in
set_option maxRecDepth 100000 in
theorem Mo_is_27_ok (g : pmG) (d : Nat) (ex : List (Nat × Nat)) (R : Nat → Nat → Value) (hR : mk_R R) (n28 : Nat)  (I : Nat → Nat → Int32) (J : Nat → Nat → Int64) (hp : pMo_is_27 n28 I) : pmT g kMo_is (d + 9) [.ref 40, .retAddr 27] (mk_K ++ ex, R, I, J) (pt_I (mk_K ++ ex) R J (fMo_is_27 n28 I)) :=
  pmC.of (by decide) (Nat.le_of_ble_eq_true rfl) (Mo_is_27_n0 g d ex R hR J _ _ _ _ n28  I hp rfl)
def fMo_is_28_24  (I : Nat → Nat → Int32) : Int32 × Int32 × Int32 × (Nat → Nat → Int32) :=
  (0, 0, (0 : Int32), I)
def pMo_is_28_24  (I : Nat → Nat → Int32) : Prop :=
  True
def fMo_is_28_28  : Nat → Int32 → (Nat → Nat → Int32) → Int32 × Int32 × Int32 × (Nat → Nat → Int32)
  | 0, _, I => (0, 0, 0, I)
  | n + 1, y2, I =>
  if fSg_length_28 ≤ y2 then (0, 0, (1 : Int32), I)
  else if (I 41 ((I 40 7) + y2).toNatClampNeg) = ((fSg_charAt_28 y2)) then fMo_is_28_28 n (y2 + Int32.ofInt 1) I
    else (0, 0, (0 : Int32), I)
def pMo_is_28_28  : Nat → Int32 → (Nat → Nat → Int32) → Prop
  | 0, _, _ => False
  | n + 1, y2, I =>
  pSg_length_28 ∧ ((fSg_length_28 ≤ y2 → True) ∧
  (¬ (fSg_length_28 ≤ y2) → (vp_in ((I 40 7) + y2) 65536) ∧ ((pSg_charAt_28 y2) ∧ (((I 41 ((I 40 7) + y2).toNatClampNeg) = ((fSg_charAt_28 y2)) → pMo_is_28_28 n (y2 + Int32.ofInt 1) I) ∧
    (¬ ((I 41 ((I 40 7) + y2).toNatClampNeg) = ((fSg_charAt_28 y2))) → True)))))
def fMo_is_28_4 (n28 : Nat) (z0 : Int32) (I : Nat → Nat → Int32) : Int32 × Int32 × Int32 × (Nat → Nat → Int32) :=
  if z0 = (1 : Int32) then if ((I 40 8) - (I 40 7)) = fSg_length_28 then fMo_is_28_28 n28 (0 : Int32) I
    else fMo_is_28_24 I
  else fMo_is_28_24 I
def pMo_is_28_4 (n28 : Nat) (z0 : Int32) (I : Nat → Nat → Int32) : Prop :=
  (z0 = (1 : Int32) → pSg_length_28 ∧ ((((I 40 8) - (I 40 7)) = fSg_length_28 → pMo_is_28_28 n28 (0 : Int32) I) ∧
    (¬ (((I 40 8) - (I 40 7)) = fSg_length_28) → pMo_is_28_24 I))) ∧
  (¬ (z0 = (1 : Int32)) → pMo_is_28_24 I)
def fMo_is_28 (n28 : Nat) (I : Nat → Nat → Int32) : Int32 × Int32 × Int32 × (Nat → Nat → Int32) :=
  if (fMo_peek 65537 65537 I).1 = 0 then fMo_is_28_4 n28 ((fMo_peek 65537 65537 I).2.2.1) ((fMo_peek 65537 65537 I).2.2.2)
  else ((fMo_peek 65537 65537 I).1, (fMo_peek 65537 65537 I).2.1, 0, (fMo_peek 65537 65537 I).2.2.2)
def pMo_is_28 (n28 : Nat) (I : Nat → Nat → Int32) : Prop :=
  (pMo_peek 65537 65537 I) ∧ ((fMo_peek 65537 65537 I).1 = 0 → pMo_is_28_4 n28 ((fMo_peek 65537 65537 I).2.2.1) ((fMo_peek 65537 65537 I).2.2.2))
set_option maxHeartbeats 4000000 in
set_option maxRecDepth 100000 in
theorem Mo_is_28_n24 (g : pmG) (d : Nat) (ex : List (Nat × Nat)) (R : Nat → Nat → Value) (hR : mk_R R) (J : Nat → Nat → Int64) (o : Outcome) (Z : pmM) (rc rs : Nat)  (I : Nat → Nat → Int32) (hp : pMo_is_28_24 I) (hF : (o, Z, rc, rs) = pt_I (mk_K ++ ex) R J (fMo_is_28_24 I)) : pmE g kMo_is (d + 9) rc rs 24 [(0, .ref 40), (1, .retAddr 28)] [] (mk_K ++ ex) R I J o Z := by
  unfold pMo_is_28_24 at hp
  refine pm_iconst (v := 0) dMo_is_24 (by decide) ?_
  exact pt_zret dMo_is_25 rfl (by first | rfl | decide) (hF.trans (by first | (simp only [fMo_is_28_24]; done) | (simp only [fMo_is_28_24]; rfl) | rfl))
set_option maxHeartbeats 4000000 in
set_option maxRecDepth 100000 in
theorem Mo_is_28_n28 (g : pmG) (d : Nat) (ex : List (Nat × Nat)) (R : Nat → Nat → Value) (hR : mk_R R) (J : Nat → Nat → Int64) (o : Outcome) (Z : pmM) (rc rs : Nat)  : ∀ (n : Nat) (y2 : Int32) (I : Nat → Nat → Int32), pMo_is_28_28 n y2 I → (o, Z, rc, rs) = pt_I (mk_K ++ ex) R J (fMo_is_28_28 n y2 I) → pmE g kMo_is (d + 9) rc rs 28 [(0, .ref 40), (1, .retAddr 28), (2, .int y2)] [] (mk_K ++ ex) R I J o Z := by
  intro n
  induction n with
  | zero => intro y2 I hp; exact False.elim hp
  | succ n ih =>
  intro y2 I hp hF
  simp only [pMo_is_28_28] at hp
  refine pm_iload_n dMo_is_28 rfl ?_
  refine pm_xload_n dMo_is_29 rfl ?_
  refine pm_callX (x := 18) dMo_is_30 lMo_218 vSg_length rfl (by decide) (Sg_length_28_ok _ _ _ _  _ _ hp.1) rfl rfl (Nat.le_of_ble_eq_true rfl) (Nat.le_refl _) (Nat.le_refl _) ?_
  refine pm_icmp_ge 63 dMo_is_33 (by decide) (fun h33 => ?_) (fun h33 => ?_)
  ·
    refine pm_iconst (v := 1) dMo_is_63 (by decide) ?_
    exact pt_zret dMo_is_64 rfl (by first | rfl | decide) (hF.trans (by first | (simp only [fMo_is_28_28, if_pos h33]; done) | (simp only [fMo_is_28_28, if_pos h33]; rfl) | rfl))
  ·
    refine pm_aload_n dMo_is_36 rfl ?_
    refine pm_getr dMo_is_37 fMo_8 rfl (rr_40_0 hR) ?_
    refine pm_aload_n dMo_is_40 rfl ?_
    refine pm_geti dMo_is_41 fMo_33 rfl ?_
    refine pm_iload_n dMo_is_44 rfl ?_
    refine pm_iadd dMo_is_45 ?_
    refine pm_bald dMo_is_46 rfl (hp.2.2 h33).1 ?_
    refine pm_xload_n dMo_is_47 rfl ?_
    refine pm_iload_n dMo_is_48 rfl ?_
    refine pm_callX (x := 18) dMo_is_49 lMo_223 vSg_charAt rfl (by decide) (Sg_charAt_28_ok _ _ _ _ _ _ _ (hp.2.2 h33).2.1) rfl rfl (Nat.le_of_ble_eq_true rfl) (Nat.le_refl _) (Nat.le_refl _) ?_
    refine pm_icmp_eq 57 dMo_is_52 (by decide) (fun h52 => ?_) (fun h52 => ?_)
    ·
      refine pm_iinc dMo_is_57 rfl (by decide) rfl ?_
      refine pm_goto 28 dMo_is_60 (by decide) ?_
      refine pm_wk [1, 2, 0] rfl ?_
      exact ih _ _ ((hp.2.2 h33).2.2.1 h52) (hF.trans (by first | (simp only [fMo_is_28_28, if_neg h33, if_pos h52]; done) | (simp only [fMo_is_28_28, if_neg h33, if_pos h52]; rfl) | rfl))
    ·
      refine pm_iconst (v := 0) dMo_is_55 (by decide) ?_
      exact pt_zret dMo_is_56 rfl (by first | rfl | decide) (hF.trans (by first | (simp only [fMo_is_28_28, if_neg h33, if_neg h52]; done) | (simp only [fMo_is_28_28, if_neg h33, if_neg h52]; rfl) | rfl))
set_option maxHeartbeats 4000000 in
set_option maxRecDepth 100000 in
theorem Mo_is_28_n4 (g : pmG) (d : Nat) (ex : List (Nat × Nat)) (R : Nat → Nat → Value) (hR : mk_R R) (J : Nat → Nat → Int64) (o : Outcome) (Z : pmM) (rc rs : Nat) (n28 : Nat) (z0 : Int32) (I : Nat → Nat → Int32) (hp : pMo_is_28_4 n28 z0 I) (hF : (o, Z, rc, rs) = pt_I (mk_K ++ ex) R J (fMo_is_28_4 n28 z0 I)) : pmE g kMo_is (d + 9) rc rs 4 [(0, .ref 40), (1, .retAddr 28)] [.int z0] (mk_K ++ ex) R I J o Z := by
  unfold pMo_is_28_4 at hp
  refine pm_iconst (v := 1) dMo_is_4 (by decide) ?_
  refine pm_icmp_ne 24 dMo_is_5 (by decide) (fun h5 => ?_) (fun h5 => ?_)
  ·
    refine pm_wk [0, 1] rfl ?_
    exact Mo_is_28_n24 g d ex R hR J _ _ _ _   _ (hp.2 h5) (hF.trans (by first | (simp only [fMo_is_28_4, if_neg h5]; done) | (simp only [fMo_is_28_4, if_neg h5]; rfl) | rfl))
  ·
    refine pm_aload_n dMo_is_8 rfl ?_
    refine pm_geti dMo_is_9 fMo_36 rfl ?_
    refine pm_aload_n dMo_is_12 rfl ?_
    refine pm_geti dMo_is_13 fMo_33 rfl ?_
    refine pm_isub dMo_is_16 ?_
    refine pm_xload_n dMo_is_17 rfl ?_
    refine pm_callX (x := 18) dMo_is_18 lMo_218 vSg_length rfl (by decide) (Sg_length_28_ok _ _ _ _  _ _ (hp.1 h5).1) rfl rfl (Nat.le_of_ble_eq_true rfl) (Nat.le_refl _) (Nat.le_refl _) ?_
    refine pm_icmp_eq 26 dMo_is_21 (by decide) (fun h21 => ?_) (fun h21 => ?_)
    ·
      refine pm_iconst (v := 0) dMo_is_26 (by decide) ?_
      refine pm_istore_n dMo_is_27 (by decide) rfl ?_
      refine pm_wk [1, 2, 0] rfl ?_
      exact Mo_is_28_n28 g d ex R hR J _ _ _ _  n28 _ _ ((hp.1 h5).2.1 h21) (hF.trans (by first | (simp only [fMo_is_28_4, if_pos h5, if_pos h21]; done) | (simp only [fMo_is_28_4, if_pos h5, if_pos h21]; rfl) | rfl))
    ·
      refine pm_wk [0, 1] rfl ?_
      exact Mo_is_28_n24 g d ex R hR J _ _ _ _   _ ((hp.1 h5).2.2 h21) (hF.trans (by first | (simp only [fMo_is_28_4, if_pos h5, if_neg h21]; done) | (simp only [fMo_is_28_4, if_pos h5, if_neg h21]; rfl) | rfl))
set_option maxHeartbeats 4000000 in
set_option maxRecDepth 100000 in
theorem Mo_is_28_n0 (g : pmG) (d : Nat) (ex : List (Nat × Nat)) (R : Nat → Nat → Value) (hR : mk_R R) (J : Nat → Nat → Int64) (o : Outcome) (Z : pmM) (rc rs : Nat) (n28 : Nat) (I : Nat → Nat → Int32) (hp : pMo_is_28 n28 I) (hF : (o, Z, rc, rs) = pt_I (mk_K ++ ex) R J (fMo_is_28 n28 I)) : pmE g kMo_is (d + 9) rc rs 0 [(0, .ref 40), (1, .retAddr 28)] [] (mk_K ++ ex) R I J o Z := by
  unfold pMo_is_28 at hp
  refine pm_aload_n dMo_is_0 rfl ?_
  refine pt_callV (v2 := some (.int 0)) dMo_is_1 lMo_207 vMo_peek ⟨_, _, rfl⟩ (Mo_peek_ok _ _ _ _ hR _ _ _ _ hp.1) rfl rfl rfl (Nat.le_of_ble_eq_true rfl) (fun h1 => ?_) (fun h1 => hF.trans (by first | (simp only [fMo_is_28, if_neg h1]; done) | (simp only [fMo_is_28, if_neg h1]; rfl) | rfl))
  refine pm_wk [0, 1] rfl ?_
  exact Mo_is_28_n4 g d ex R hR J _ _ _ _  n28 _ _ (hp.2 h1) (hF.trans (by first | (simp only [fMo_is_28, if_pos h1]; done) | (simp only [fMo_is_28, if_pos h1]; rfl) | rfl))
set_option maxHeartbeats 4000000 in
set_option maxRecDepth 100000 in
theorem Mo_is_28_ok (g : pmG) (d : Nat) (ex : List (Nat × Nat)) (R : Nat → Nat → Value) (hR : mk_R R) (n28 : Nat)  (I : Nat → Nat → Int32) (J : Nat → Nat → Int64) (hp : pMo_is_28 n28 I) : pmT g kMo_is (d + 9) [.ref 40, .retAddr 28] (mk_K ++ ex, R, I, J) (pt_I (mk_K ++ ex) R J (fMo_is_28 n28 I)) :=
  pmC.of (by decide) (Nat.le_of_ble_eq_true rfl) (Mo_is_28_n0 g d ex R hR J _ _ _ _ n28  I hp rfl)
def fMo_is_29_24  (I : Nat → Nat → Int32) : Int32 × Int32 × Int32 × (Nat → Nat → Int32) :=
  (0, 0, (0 : Int32), I)
def pMo_is_29_24  (I : Nat → Nat → Int32) : Prop :=
  True
def fMo_is_29_28  : Nat → Int32 → (Nat → Nat → Int32) → Int32 × Int32 × Int32 × (Nat → Nat → Int32)
  | 0, _, I => (0, 0, 0, I)
  | n + 1, y2, I =>
  if fSg_length_29 ≤ y2 then (0, 0, (1 : Int32), I)
  else if (I 41 ((I 40 7) + y2).toNatClampNeg) = ((fSg_charAt_29 y2)) then fMo_is_29_28 n (y2 + Int32.ofInt 1) I
    else (0, 0, (0 : Int32), I)
def pMo_is_29_28  : Nat → Int32 → (Nat → Nat → Int32) → Prop
  | 0, _, _ => False
  | n + 1, y2, I =>
  pSg_length_29 ∧ ((fSg_length_29 ≤ y2 → True) ∧
  (¬ (fSg_length_29 ≤ y2) → (vp_in ((I 40 7) + y2) 65536) ∧ ((pSg_charAt_29 y2) ∧ (((I 41 ((I 40 7) + y2).toNatClampNeg) = ((fSg_charAt_29 y2)) → pMo_is_29_28 n (y2 + Int32.ofInt 1) I) ∧
    (¬ ((I 41 ((I 40 7) + y2).toNatClampNeg) = ((fSg_charAt_29 y2))) → True)))))
def fMo_is_29_4 (n28 : Nat) (z0 : Int32) (I : Nat → Nat → Int32) : Int32 × Int32 × Int32 × (Nat → Nat → Int32) :=
  if z0 = (1 : Int32) then if ((I 40 8) - (I 40 7)) = fSg_length_29 then fMo_is_29_28 n28 (0 : Int32) I
    else fMo_is_29_24 I
  else fMo_is_29_24 I
def pMo_is_29_4 (n28 : Nat) (z0 : Int32) (I : Nat → Nat → Int32) : Prop :=
  (z0 = (1 : Int32) → pSg_length_29 ∧ ((((I 40 8) - (I 40 7)) = fSg_length_29 → pMo_is_29_28 n28 (0 : Int32) I) ∧
    (¬ (((I 40 8) - (I 40 7)) = fSg_length_29) → pMo_is_29_24 I))) ∧
  (¬ (z0 = (1 : Int32)) → pMo_is_29_24 I)
def fMo_is_29 (n28 : Nat) (I : Nat → Nat → Int32) : Int32 × Int32 × Int32 × (Nat → Nat → Int32) :=
  if (fMo_peek 65537 65537 I).1 = 0 then fMo_is_29_4 n28 ((fMo_peek 65537 65537 I).2.2.1) ((fMo_peek 65537 65537 I).2.2.2)
  else ((fMo_peek 65537 65537 I).1, (fMo_peek 65537 65537 I).2.1, 0, (fMo_peek 65537 65537 I).2.2.2)
def pMo_is_29 (n28 : Nat) (I : Nat → Nat → Int32) : Prop :=
  (pMo_peek 65537 65537 I) ∧ ((fMo_peek 65537 65537 I).1 = 0 → pMo_is_29_4 n28 ((fMo_peek 65537 65537 I).2.2.1) ((fMo_peek 65537 65537 I).2.2.2))
set_option maxHeartbeats 4000000 in
set_option maxRecDepth 100000 in
theorem Mo_is_29_n24 (g : pmG) (d : Nat) (ex : List (Nat × Nat)) (R : Nat → Nat → Value) (hR : mk_R R) (J : Nat → Nat → Int64) (o : Outcome) (Z : pmM) (rc rs : Nat)  (I : Nat → Nat → Int32) (hp : pMo_is_29_24 I) (hF : (o, Z, rc, rs) = pt_I (mk_K ++ ex) R J (fMo_is_29_24 I)) : pmE g kMo_is (d + 9) rc rs 24 [(0, .ref 40), (1, .retAddr 29)] [] (mk_K ++ ex) R I J o Z := by
  unfold pMo_is_29_24 at hp
  refine pm_iconst (v := 0) dMo_is_24 (by decide) ?_
  exact pt_zret dMo_is_25 rfl (by first | rfl | decide) (hF.trans (by first | (simp only [fMo_is_29_24]; done) | (simp only [fMo_is_29_24]; rfl) | rfl))
set_option maxHeartbeats 4000000 in
set_option maxRecDepth 100000 in
theorem Mo_is_29_n28 (g : pmG) (d : Nat) (ex : List (Nat × Nat)) (R : Nat → Nat → Value) (hR : mk_R R) (J : Nat → Nat → Int64) (o : Outcome) (Z : pmM) (rc rs : Nat)  : ∀ (n : Nat) (y2 : Int32) (I : Nat → Nat → Int32), pMo_is_29_28 n y2 I → (o, Z, rc, rs) = pt_I (mk_K ++ ex) R J (fMo_is_29_28 n y2 I) → pmE g kMo_is (d + 9) rc rs 28 [(0, .ref 40), (1, .retAddr 29), (2, .int y2)] [] (mk_K ++ ex) R I J o Z := by
  intro n
  induction n with
  | zero => intro y2 I hp; exact False.elim hp
  | succ n ih =>
  intro y2 I hp hF
  simp only [pMo_is_29_28] at hp
  refine pm_iload_n dMo_is_28 rfl ?_
  refine pm_xload_n dMo_is_29 rfl ?_
  refine pm_callX (x := 19) dMo_is_30 lMo_218 vSg_length rfl (by decide) (Sg_length_29_ok _ _ _ _  _ _ hp.1) rfl rfl (Nat.le_of_ble_eq_true rfl) (Nat.le_refl _) (Nat.le_refl _) ?_
  refine pm_icmp_ge 63 dMo_is_33 (by decide) (fun h33 => ?_) (fun h33 => ?_)
  ·
    refine pm_iconst (v := 1) dMo_is_63 (by decide) ?_
    exact pt_zret dMo_is_64 rfl (by first | rfl | decide) (hF.trans (by first | (simp only [fMo_is_29_28, if_pos h33]; done) | (simp only [fMo_is_29_28, if_pos h33]; rfl) | rfl))
  ·
    refine pm_aload_n dMo_is_36 rfl ?_
    refine pm_getr dMo_is_37 fMo_8 rfl (rr_40_0 hR) ?_
    refine pm_aload_n dMo_is_40 rfl ?_
    refine pm_geti dMo_is_41 fMo_33 rfl ?_
    refine pm_iload_n dMo_is_44 rfl ?_
    refine pm_iadd dMo_is_45 ?_
    refine pm_bald dMo_is_46 rfl (hp.2.2 h33).1 ?_
    refine pm_xload_n dMo_is_47 rfl ?_
    refine pm_iload_n dMo_is_48 rfl ?_
    refine pm_callX (x := 19) dMo_is_49 lMo_223 vSg_charAt rfl (by decide) (Sg_charAt_29_ok _ _ _ _ _ _ _ (hp.2.2 h33).2.1) rfl rfl (Nat.le_of_ble_eq_true rfl) (Nat.le_refl _) (Nat.le_refl _) ?_
    refine pm_icmp_eq 57 dMo_is_52 (by decide) (fun h52 => ?_) (fun h52 => ?_)
    ·
      refine pm_iinc dMo_is_57 rfl (by decide) rfl ?_
      refine pm_goto 28 dMo_is_60 (by decide) ?_
      refine pm_wk [1, 2, 0] rfl ?_
      exact ih _ _ ((hp.2.2 h33).2.2.1 h52) (hF.trans (by first | (simp only [fMo_is_29_28, if_neg h33, if_pos h52]; done) | (simp only [fMo_is_29_28, if_neg h33, if_pos h52]; rfl) | rfl))
    ·
      refine pm_iconst (v := 0) dMo_is_55 (by decide) ?_
      exact pt_zret dMo_is_56 rfl (by first | rfl | decide) (hF.trans (by first | (simp only [fMo_is_29_28, if_neg h33, if_neg h52]; done) | (simp only [fMo_is_29_28, if_neg h33, if_neg h52]; rfl) | rfl))
set_option maxHeartbeats 4000000 in
set_option maxRecDepth 100000 in
theorem Mo_is_29_n4 (g : pmG) (d : Nat) (ex : List (Nat × Nat)) (R : Nat → Nat → Value) (hR : mk_R R) (J : Nat → Nat → Int64) (o : Outcome) (Z : pmM) (rc rs : Nat) (n28 : Nat) (z0 : Int32) (I : Nat → Nat → Int32) (hp : pMo_is_29_4 n28 z0 I) (hF : (o, Z, rc, rs) = pt_I (mk_K ++ ex) R J (fMo_is_29_4 n28 z0 I)) : pmE g kMo_is (d + 9) rc rs 4 [(0, .ref 40), (1, .retAddr 29)] [.int z0] (mk_K ++ ex) R I J o Z := by
  unfold pMo_is_29_4 at hp
  refine pm_iconst (v := 1) dMo_is_4 (by decide) ?_
  refine pm_icmp_ne 24 dMo_is_5 (by decide) (fun h5 => ?_) (fun h5 => ?_)
  ·
    refine pm_wk [0, 1] rfl ?_
    exact Mo_is_29_n24 g d ex R hR J _ _ _ _   _ (hp.2 h5) (hF.trans (by first | (simp only [fMo_is_29_4, if_neg h5]; done) | (simp only [fMo_is_29_4, if_neg h5]; rfl) | rfl))
  ·
    refine pm_aload_n dMo_is_8 rfl ?_
    refine pm_geti dMo_is_9 fMo_36 rfl ?_
    refine pm_aload_n dMo_is_12 rfl ?_
    refine pm_geti dMo_is_13 fMo_33 rfl ?_
    refine pm_isub dMo_is_16 ?_
    refine pm_xload_n dMo_is_17 rfl ?_
    refine pm_callX (x := 19) dMo_is_18 lMo_218 vSg_length rfl (by decide) (Sg_length_29_ok _ _ _ _  _ _ (hp.1 h5).1) rfl rfl (Nat.le_of_ble_eq_true rfl) (Nat.le_refl _) (Nat.le_refl _) ?_
    refine pm_icmp_eq 26 dMo_is_21 (by decide) (fun h21 => ?_) (fun h21 => ?_)
    ·
      refine pm_iconst (v := 0) dMo_is_26 (by decide) ?_
      refine pm_istore_n dMo_is_27 (by decide) rfl ?_
      refine pm_wk [1, 2, 0] rfl ?_
      exact Mo_is_29_n28 g d ex R hR J _ _ _ _  n28 _ _ ((hp.1 h5).2.1 h21) (hF.trans (by first | (simp only [fMo_is_29_4, if_pos h5, if_pos h21]; done) | (simp only [fMo_is_29_4, if_pos h5, if_pos h21]; rfl) | rfl))
    ·
      refine pm_wk [0, 1] rfl ?_
      exact Mo_is_29_n24 g d ex R hR J _ _ _ _   _ ((hp.1 h5).2.2 h21) (hF.trans (by first | (simp only [fMo_is_29_4, if_pos h5, if_neg h21]; done) | (simp only [fMo_is_29_4, if_pos h5, if_neg h21]; rfl) | rfl))
set_option maxHeartbeats 4000000 in
set_option maxRecDepth 100000 in
theorem Mo_is_29_n0 (g : pmG) (d : Nat) (ex : List (Nat × Nat)) (R : Nat → Nat → Value) (hR : mk_R R) (J : Nat → Nat → Int64) (o : Outcome) (Z : pmM) (rc rs : Nat) (n28 : Nat) (I : Nat → Nat → Int32) (hp : pMo_is_29 n28 I) (hF : (o, Z, rc, rs) = pt_I (mk_K ++ ex) R J (fMo_is_29 n28 I)) : pmE g kMo_is (d + 9) rc rs 0 [(0, .ref 40), (1, .retAddr 29)] [] (mk_K ++ ex) R I J o Z := by
  unfold pMo_is_29 at hp
  refine pm_aload_n dMo_is_0 rfl ?_
  refine pt_callV (v2 := some (.int 0)) dMo_is_1 lMo_207 vMo_peek ⟨_, _, rfl⟩ (Mo_peek_ok _ _ _ _ hR _ _ _ _ hp.1) rfl rfl rfl (Nat.le_of_ble_eq_true rfl) (fun h1 => ?_) (fun h1 => hF.trans (by first | (simp only [fMo_is_29, if_neg h1]; done) | (simp only [fMo_is_29, if_neg h1]; rfl) | rfl))
  refine pm_wk [0, 1] rfl ?_
  exact Mo_is_29_n4 g d ex R hR J _ _ _ _  n28 _ _ (hp.2 h1) (hF.trans (by first | (simp only [fMo_is_29, if_pos h1]; done) | (simp only [fMo_is_29, if_pos h1]; rfl) | rfl))
set_option maxHeartbeats 4000000 in
set_option maxRecDepth 100000 in
theorem Mo_is_29_ok (g : pmG) (d : Nat) (ex : List (Nat × Nat)) (R : Nat → Nat → Value) (hR : mk_R R) (n28 : Nat)  (I : Nat → Nat → Int32) (J : Nat → Nat → Int64) (hp : pMo_is_29 n28 I) : pmT g kMo_is (d + 9) [.ref 40, .retAddr 29] (mk_K ++ ex, R, I, J) (pt_I (mk_K ++ ex) R J (fMo_is_29 n28 I)) :=
  pmC.of (by decide) (Nat.le_of_ble_eq_true rfl) (Mo_is_29_n0 g d ex R hR J _ _ _ _ n28  I hp rfl)
def fMo_is_30_24  (I : Nat → Nat → Int32) : Int32 × Int32 × Int32 × (Nat → Nat → Int32) :=
  (0, 0, (0 : Int32), I)
def pMo_is_30_24  (I : Nat → Nat → Int32) : Prop :=
  True
def fMo_is_30_28  : Nat → Int32 → (Nat → Nat → Int32) → Int32 × Int32 × Int32 × (Nat → Nat → Int32)
  | 0, _, I => (0, 0, 0, I)
  | n + 1, y2, I =>
  if fSg_length_30 ≤ y2 then (0, 0, (1 : Int32), I)
  else if (I 41 ((I 40 7) + y2).toNatClampNeg) = ((fSg_charAt_30 y2)) then fMo_is_30_28 n (y2 + Int32.ofInt 1) I
    else (0, 0, (0 : Int32), I)
def pMo_is_30_28  : Nat → Int32 → (Nat → Nat → Int32) → Prop
  | 0, _, _ => False
  | n + 1, y2, I =>
  pSg_length_30 ∧ ((fSg_length_30 ≤ y2 → True) ∧
  (¬ (fSg_length_30 ≤ y2) → (vp_in ((I 40 7) + y2) 65536) ∧ ((pSg_charAt_30 y2) ∧ (((I 41 ((I 40 7) + y2).toNatClampNeg) = ((fSg_charAt_30 y2)) → pMo_is_30_28 n (y2 + Int32.ofInt 1) I) ∧
    (¬ ((I 41 ((I 40 7) + y2).toNatClampNeg) = ((fSg_charAt_30 y2))) → True)))))
def fMo_is_30_4 (n28 : Nat) (z0 : Int32) (I : Nat → Nat → Int32) : Int32 × Int32 × Int32 × (Nat → Nat → Int32) :=
  if z0 = (1 : Int32) then if ((I 40 8) - (I 40 7)) = fSg_length_30 then fMo_is_30_28 n28 (0 : Int32) I
    else fMo_is_30_24 I
  else fMo_is_30_24 I
def pMo_is_30_4 (n28 : Nat) (z0 : Int32) (I : Nat → Nat → Int32) : Prop :=
  (z0 = (1 : Int32) → pSg_length_30 ∧ ((((I 40 8) - (I 40 7)) = fSg_length_30 → pMo_is_30_28 n28 (0 : Int32) I) ∧
    (¬ (((I 40 8) - (I 40 7)) = fSg_length_30) → pMo_is_30_24 I))) ∧
  (¬ (z0 = (1 : Int32)) → pMo_is_30_24 I)
def fMo_is_30 (n28 : Nat) (I : Nat → Nat → Int32) : Int32 × Int32 × Int32 × (Nat → Nat → Int32) :=
  if (fMo_peek 65537 65537 I).1 = 0 then fMo_is_30_4 n28 ((fMo_peek 65537 65537 I).2.2.1) ((fMo_peek 65537 65537 I).2.2.2)
  else ((fMo_peek 65537 65537 I).1, (fMo_peek 65537 65537 I).2.1, 0, (fMo_peek 65537 65537 I).2.2.2)
def pMo_is_30 (n28 : Nat) (I : Nat → Nat → Int32) : Prop :=
  (pMo_peek 65537 65537 I) ∧ ((fMo_peek 65537 65537 I).1 = 0 → pMo_is_30_4 n28 ((fMo_peek 65537 65537 I).2.2.1) ((fMo_peek 65537 65537 I).2.2.2))
set_option maxHeartbeats 4000000 in
set_option maxRecDepth 100000 in
theorem Mo_is_30_n24 (g : pmG) (d : Nat) (ex : List (Nat × Nat)) (R : Nat → Nat → Value) (hR : mk_R R) (J : Nat → Nat → Int64) (o : Outcome) (Z : pmM) (rc rs : Nat)  (I : Nat → Nat → Int32) (hp : pMo_is_30_24 I) (hF : (o, Z, rc, rs) = pt_I (mk_K ++ ex) R J (fMo_is_30_24 I)) : pmE g kMo_is (d + 9) rc rs 24 [(0, .ref 40), (1, .retAddr 30)] [] (mk_K ++ ex) R I J o Z := by
  unfold pMo_is_30_24 at hp
  refine pm_iconst (v := 0) dMo_is_24 (by decide) ?_
  exact pt_zret dMo_is_25 rfl (by first | rfl | decide) (hF.trans (by first | (simp only [fMo_is_30_24]; done) | (simp only [fMo_is_30_24]; rfl) | rfl))
set_option maxHeartbeats 4000000 in
set_option maxRecDepth 100000 in
theorem Mo_is_30_n28 (g : pmG) (d : Nat) (ex : List (Nat × Nat)) (R : Nat → Nat → Value) (hR : mk_R R) (J : Nat → Nat → Int64) (o : Outcome) (Z : pmM) (rc rs : Nat)  : ∀ (n : Nat) (y2 : Int32) (I : Nat → Nat → Int32), pMo_is_30_28 n y2 I → (o, Z, rc, rs) = pt_I (mk_K ++ ex) R J (fMo_is_30_28 n y2 I) → pmE g kMo_is (d + 9) rc rs 28 [(0, .ref 40), (1, .retAddr 30), (2, .int y2)] [] (mk_K ++ ex) R I J o Z := by
  intro n
  induction n with
  | zero => intro y2 I hp; exact False.elim hp
  | succ n ih =>
  intro y2 I hp hF
  simp only [pMo_is_30_28] at hp
  refine pm_iload_n dMo_is_28 rfl ?_
  refine pm_xload_n dMo_is_29 rfl ?_
  refine pm_callX (x := 20) dMo_is_30 lMo_218 vSg_length rfl (by decide) (Sg_length_30_ok _ _ _ _  _ _ hp.1) rfl rfl (Nat.le_of_ble_eq_true rfl) (Nat.le_refl _) (Nat.le_refl _) ?_
  refine pm_icmp_ge 63 dMo_is_33 (by decide) (fun h33 => ?_) (fun h33 => ?_)
  ·
    refine pm_iconst (v := 1) dMo_is_63 (by decide) ?_
    exact pt_zret dMo_is_64 rfl (by first | rfl | decide) (hF.trans (by first | (simp only [fMo_is_30_28, if_pos h33]; done) | (simp only [fMo_is_30_28, if_pos h33]; rfl) | rfl))
  ·
    refine pm_aload_n dMo_is_36 rfl ?_
    refine pm_getr dMo_is_37 fMo_8 rfl (rr_40_0 hR) ?_
    refine pm_aload_n dMo_is_40 rfl ?_
    refine pm_geti dMo_is_41 fMo_33 rfl ?_
    refine pm_iload_n dMo_is_44 rfl ?_
    refine pm_iadd dMo_is_45 ?_
    refine pm_bald dMo_is_46 rfl (hp.2.2 h33).1 ?_
    refine pm_xload_n dMo_is_47 rfl ?_
    refine pm_iload_n dMo_is_48 rfl ?_
    refine pm_callX (x := 20) dMo_is_49 lMo_223 vSg_charAt rfl (by decide) (Sg_charAt_30_ok _ _ _ _ _ _ _ (hp.2.2 h33).2.1) rfl rfl (Nat.le_of_ble_eq_true rfl) (Nat.le_refl _) (Nat.le_refl _) ?_
    refine pm_icmp_eq 57 dMo_is_52 (by decide) (fun h52 => ?_) (fun h52 => ?_)
    ·
      refine pm_iinc dMo_is_57 rfl (by decide) rfl ?_
      refine pm_goto 28 dMo_is_60 (by decide) ?_
      refine pm_wk [1, 2, 0] rfl ?_
      exact ih _ _ ((hp.2.2 h33).2.2.1 h52) (hF.trans (by first | (simp only [fMo_is_30_28, if_neg h33, if_pos h52]; done) | (simp only [fMo_is_30_28, if_neg h33, if_pos h52]; rfl) | rfl))
    ·
      refine pm_iconst (v := 0) dMo_is_55 (by decide) ?_
      exact pt_zret dMo_is_56 rfl (by first | rfl | decide) (hF.trans (by first | (simp only [fMo_is_30_28, if_neg h33, if_neg h52]; done) | (simp only [fMo_is_30_28, if_neg h33, if_neg h52]; rfl) | rfl))
set_option maxHeartbeats 4000000 in
set_option maxRecDepth 100000 in
theorem Mo_is_30_n4 (g : pmG) (d : Nat) (ex : List (Nat × Nat)) (R : Nat → Nat → Value) (hR : mk_R R) (J : Nat → Nat → Int64) (o : Outcome) (Z : pmM) (rc rs : Nat) (n28 : Nat) (z0 : Int32) (I : Nat → Nat → Int32) (hp : pMo_is_30_4 n28 z0 I) (hF : (o, Z, rc, rs) = pt_I (mk_K ++ ex) R J (fMo_is_30_4 n28 z0 I)) : pmE g kMo_is (d + 9) rc rs 4 [(0, .ref 40), (1, .retAddr 30)] [.int z0] (mk_K ++ ex) R I J o Z := by
  unfold pMo_is_30_4 at hp
  refine pm_iconst (v := 1) dMo_is_4 (by decide) ?_
  refine pm_icmp_ne 24 dMo_is_5 (by decide) (fun h5 => ?_) (fun h5 => ?_)
  ·
    refine pm_wk [0, 1] rfl ?_
    exact Mo_is_30_n24 g d ex R hR J _ _ _ _   _ (hp.2 h5) (hF.trans (by first | (simp only [fMo_is_30_4, if_neg h5]; done) | (simp only [fMo_is_30_4, if_neg h5]; rfl) | rfl))
  ·
    refine pm_aload_n dMo_is_8 rfl ?_
    refine pm_geti dMo_is_9 fMo_36 rfl ?_
    refine pm_aload_n dMo_is_12 rfl ?_
    refine pm_geti dMo_is_13 fMo_33 rfl ?_
    refine pm_isub dMo_is_16 ?_
    refine pm_xload_n dMo_is_17 rfl ?_
    refine pm_callX (x := 20) dMo_is_18 lMo_218 vSg_length rfl (by decide) (Sg_length_30_ok _ _ _ _  _ _ (hp.1 h5).1) rfl rfl (Nat.le_of_ble_eq_true rfl) (Nat.le_refl _) (Nat.le_refl _) ?_
    refine pm_icmp_eq 26 dMo_is_21 (by decide) (fun h21 => ?_) (fun h21 => ?_)
    ·
      refine pm_iconst (v := 0) dMo_is_26 (by decide) ?_
      refine pm_istore_n dMo_is_27 (by decide) rfl ?_
      refine pm_wk [1, 2, 0] rfl ?_
      exact Mo_is_30_n28 g d ex R hR J _ _ _ _  n28 _ _ ((hp.1 h5).2.1 h21) (hF.trans (by first | (simp only [fMo_is_30_4, if_pos h5, if_pos h21]; done) | (simp only [fMo_is_30_4, if_pos h5, if_pos h21]; rfl) | rfl))
    ·
      refine pm_wk [0, 1] rfl ?_
      exact Mo_is_30_n24 g d ex R hR J _ _ _ _   _ ((hp.1 h5).2.2 h21) (hF.trans (by first | (simp only [fMo_is_30_4, if_pos h5, if_neg h21]; done) | (simp only [fMo_is_30_4, if_pos h5, if_neg h21]; rfl) | rfl))
set_option maxHeartbeats 4000000 in
set_option maxRecDepth 100000 in
theorem Mo_is_30_n0 (g : pmG) (d : Nat) (ex : List (Nat × Nat)) (R : Nat → Nat → Value) (hR : mk_R R) (J : Nat → Nat → Int64) (o : Outcome) (Z : pmM) (rc rs : Nat) (n28 : Nat) (I : Nat → Nat → Int32) (hp : pMo_is_30 n28 I) (hF : (o, Z, rc, rs) = pt_I (mk_K ++ ex) R J (fMo_is_30 n28 I)) : pmE g kMo_is (d + 9) rc rs 0 [(0, .ref 40), (1, .retAddr 30)] [] (mk_K ++ ex) R I J o Z := by
  unfold pMo_is_30 at hp
  refine pm_aload_n dMo_is_0 rfl ?_
  refine pt_callV (v2 := some (.int 0)) dMo_is_1 lMo_207 vMo_peek ⟨_, _, rfl⟩ (Mo_peek_ok _ _ _ _ hR _ _ _ _ hp.1) rfl rfl rfl (Nat.le_of_ble_eq_true rfl) (fun h1 => ?_) (fun h1 => hF.trans (by first | (simp only [fMo_is_30, if_neg h1]; done) | (simp only [fMo_is_30, if_neg h1]; rfl) | rfl))
  refine pm_wk [0, 1] rfl ?_
  exact Mo_is_30_n4 g d ex R hR J _ _ _ _  n28 _ _ (hp.2 h1) (hF.trans (by first | (simp only [fMo_is_30, if_pos h1]; done) | (simp only [fMo_is_30, if_pos h1]; rfl) | rfl))
set_option maxHeartbeats 4000000 in
set_option maxRecDepth 100000 in
theorem Mo_is_30_ok (g : pmG) (d : Nat) (ex : List (Nat × Nat)) (R : Nat → Nat → Value) (hR : mk_R R) (n28 : Nat)  (I : Nat → Nat → Int32) (J : Nat → Nat → Int64) (hp : pMo_is_30 n28 I) : pmT g kMo_is (d + 9) [.ref 40, .retAddr 30] (mk_K ++ ex, R, I, J) (pt_I (mk_K ++ ex) R J (fMo_is_30 n28 I)) :=
  pmC.of (by decide) (Nat.le_of_ble_eq_true rfl) (Mo_is_30_n0 g d ex R hR J _ _ _ _ n28  I hp rfl)
