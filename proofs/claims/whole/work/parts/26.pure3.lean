/-! ===== valleys ===== -/
abbrev VS : Type := (Nat → Nat) × (Nat → Nat) × (Nat → Nat) × (Nat → Nat) × (Nat → Nat) × Nat × Nat × Nat × Nat × Nat
def aw (sg : Nat → Nat) (k x y w : Nat) : Bool := decide (x ≤ 5 ∧ y ≤ 3 ∧ w ≤ 2 ∧ k < 8 ∧ rd sg k (x + 6 * y + 24 * w) = -4)
def al (x y : Nat) : Bool := decide ((1 ≤ x ∧ x ≤ 9) ∧ (1 ≤ y ∧ y ≤ 9))
def ac (nc x y : Nat) : Bool := decide (x ≤ 9 ∧ (1 ≤ y ∧ y ≤ 6) ∧ nc < 5)
def ab (nb x : Nat) : Bool := decide (x ≤ 63 ∧ nb < 5)
/-! ===== the larder's cells ===== -/
def ladd (ce : Nat → Nat) (w kd sn : Nat) : Nat → Nat := upN (upN (upN (upN (upN (upN ce 40 (ce 40 + 1)) (ce 40 * 5 + 0) w) (ce 40 * 5 + 1) kd) (ce 40 * 5 + 2) 0) (ce 40 * 5 + 3) 0) (ce 40 * 5 + 4) sn
def lbit (ce : Nat → Nat) (i : Nat) : Nat → Nat := upN ce (i * 5 + 3) (ce (i * 5 + 3) + 1)
def lday (ce : Nat → Nat) (i : Nat) : Nat → Nat := fun j => if j < i * 5 ∧ j % 5 = 2 then ce j + 1 else ce j
theorem lday_0 {ce : Nat → Nat} : lday ce 0 = ce := funext fun j => if_neg (by omega)
theorem lday_40 {ce : Nat → Nat} {i : Nat} : lday ce i 40 = ce 40 := if_neg (by omega)
theorem lday_at {ce : Nat → Nat} {i : Nat} : lday ce i (i * 5 + 2) = ce (i * 5 + 2) := if_neg (by omega)
theorem lday_s {ce : Nat → Nat} {i : Nat} : upN (lday ce i) (i * 5 + 2) (lday ce i (i * 5 + 2) + 1) = lday ce (i + 1) := by
  funext j
  rw [lday_at]
  unfold upN lday
  by_cases h : j = i * 5 + 2
  · subst h; rw [if_pos rfl, if_pos (by omega)]
  · rw [if_neg h]
    by_cases h2 : j < i * 5 ∧ j % 5 = 2
    · rw [if_pos h2, if_pos (by omega)]
    · rw [if_neg h2, if_neg (by omega)]
/-- cells from the i-th loaf on moved up, up to place b -/
def lmv (ce : Nat → Nat) (i b : Nat) : Nat → Nat := fun j => if i * 5 ≤ j ∧ j < b then ce (j + 5) else ce j
theorem lmv_0 {ce : Nat → Nat} {i : Nat} : lmv ce i (i * 5) = ce := funext fun j => if_neg (by omega)
theorem lmv_hi {ce : Nat → Nat} {i b j : Nat} (h : b ≤ j) : lmv ce i b j = ce j := if_neg (by omega)
theorem lmv_s {ce : Nat → Nat} {i b : Nat} (h : i * 5 ≤ b) : upN (lmv ce i b) b (lmv ce i b (b + 5)) = lmv ce i (b + 1) := by
  funext j
  rw [lmv_hi (by omega)]
  unfold upN lmv
  by_cases hj : j = b
  · subst hj; rw [if_pos rfl, if_pos (by omega)]
  · rw [if_neg hj]
    by_cases h2 : i * 5 ≤ j ∧ j < b
    · rw [if_pos h2, if_pos (by omega)]
    · rw [if_neg h2, if_neg (by omega)]
def lrem (ce : Nat → Nat) (i : Nat) : Nat → Nat := upN (lmv ce i ((ce 40 - 1) * 5)) 40 (ce 40 - 1)
/-! ===== shelves ===== -/
def srow (row ce : Nat → Nat) (nn dp sz : Nat) : Nat → Nat := if sz = dp then va_cpy ce (va_cpy row row 42 0 (nn - 42)) 0 ((sz - 1) * 42) 42 else va_cpy ce row 0 (sz * 42) 42
def ssz (dp sz : Nat) : Nat := if sz = dp then sz else sz + 1
