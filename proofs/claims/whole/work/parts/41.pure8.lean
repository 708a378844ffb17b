theorem pw8 {k : Nat} (h : k ≤ 8) : 1 ≤ 2 ^ k ∧ 2 ^ k ≤ 256 := by
  have : ∀ k, k < 9 → 1 ≤ 2 ^ k ∧ 2 ^ k ≤ 256 := by decide
  exact this k (by omega)
theorem bi_ok {x : Nat} {a1 a2 a3 a4 a5 : Int32} (hx : x < 32)
    (h1 : a1 = iI ((x : Nat) : Int) - (((iI ((x : Nat) : Int)).toUInt32 >>> ((iI ((1 : Nat) : Int)).toUInt32 &&& Int32.toUInt32 31)).toInt32 &&& (1431655765)))
    (h2 : a2 = (a1 &&& (858993459)) + ((a1.toUInt32 >>> ((iI ((2 : Nat) : Int)).toUInt32 &&& Int32.toUInt32 31)).toInt32 &&& (858993459)))
    (h3 : a3 = (a2 + (a2.toUInt32 >>> ((iI ((4 : Nat) : Int)).toUInt32 &&& Int32.toUInt32 31)).toInt32) &&& (252645135))
    (h4 : a4 = a3 + (a3.toUInt32 >>> ((iI ((8 : Nat) : Int)).toUInt32 &&& Int32.toUInt32 31)).toInt32)
    (h5 : a5 = a4 + (a4.toUInt32 >>> ((iI ((16 : Nat) : Int)).toUInt32 &&& Int32.toUInt32 31)).toInt32) :
    a5 &&& iI ((63 : Nat) : Int) = iI ((ct x.testBit 8 : Nat) : Int) := by
  subst h1 h2 h3 h4 h5
  revert x
  decide +kernel
def nz (x : Nat) : Nat := (31 - x) &&& (x - 1)
theorem nz_ok {x : Nat} (hx : x < 32) (h1 : 1 ≤ x) : (iI ((x : Nat) : Int) ^^^ iI (-1)) &&& iI ((x - 1 : Nat) : Int) = iI ((nz x : Nat) : Int) := by
  revert x
  have : ∀ x, x < 32 → 1 ≤ x → (iI ((x : Nat) : Int) ^^^ iI (-1)) &&& iI ((x - 1 : Nat) : Int) = iI ((nz x : Nat) : Int) := by decide +kernel
  exact fun {x} a b => this x a b
theorem nz_bd {x : Nat} (hx : x < 32) : nz x < 16 := by
  have : ∀ x, x < 32 → nz x < 16 := by decide
  exact this x hx
theorem ntz_ok {x : Nat} (hx : x < 32) (h1 : 1 ≤ x) : ntz x = if nz x = 0 then 0 else if nz x ≤ 4 then 1 + nz x / 2 else 3 + nz x / 4 / 2 := by
  have : ∀ x, x < 32 → 1 ≤ x → ntz x = if nz x = 0 then 0 else if nz x ≤ 4 then 1 + nz x / 2 else 3 + nz x / 4 / 2 := by decide +kernel
  exact this x hx h1
theorem ush_N {a : Nat} (ha : a < 2147483648) (k : Nat) (hk : k < 31) : ((iI ((a : Nat) : Int)).toUInt32 >>> ((iI ((k : Nat) : Int)).toUInt32 &&& Int32.toUInt32 31)).toInt32 = iI ((a / 2 ^ k : Nat) : Int) := by
  rw [iI_nI, iI_nI, iI_nI]
  refine pk_ushrN (by omega) (nI k) k ?_
  have : ∀ k, k < 31 → (((nI k).toUInt32 &&& Int32.toUInt32 31).toBitVec % 32).toNat = k := by decide +kernel
  exact this k hk
