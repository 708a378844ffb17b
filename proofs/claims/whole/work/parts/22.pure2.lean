/-! ===== odds ===== -/
def ch (L : Nat) : Nat → Nat
  | 0 => 1
  | m + 1 => ch L m * (L - m) / (m + 1)
theorem ch_bd : ∀ L, L < 7 → ∀ i, i < 7 → ch L i ≤ 20 := by decide
theorem ch_mul {L i : Nat} (hL : L < 7) (hi : i < 7) : ch L i * (L - i) ≤ 120 := by
  have h1 := ch_bd L hL i hi
  have h2 : L - i ≤ 6 := by omega
  calc ch L i * (L - i) ≤ 20 * 6 := Nat.mul_le_mul h1 h2
    _ = 120 := rfl
/-- of the first b numbers of bites those behind which the sign is the same, by their ways -/
def wy (B M x a h L : Nat) : Nat → Nat
  | 0 => 0
  | b + 1 => wy B M x a h L b + if tn B M x a b = x then ch L b * h ^ b * (10 - h) ^ (L - b) else 0
def wyf (h L : Nat) : Nat → Nat
  | 0 => 0
  | b + 1 => wyf h L b + ch L b * h ^ b * (10 - h) ^ (L - b)
theorem wy_le (B M x a h L : Nat) : ∀ b, wy B M x a h L b ≤ wyf h L b
  | 0 => Nat.le_refl _
  | b + 1 => by
    have := wy_le B M x a h L b
    show wy B M x a h L b + _ ≤ wyf h L b + _
    split <;> omega
theorem wyf_all : ∀ h, h < 10 → ∀ L, L < 7 → wyf h L (L + 1) = 10 ^ L := by decide
theorem wy_bd (B M x a h L : Nat) (hh : h < 10) (hL : L ≤ 6) : wy B M x a h L (L + 1) ≤ 10 ^ L := by
  rw [← wyf_all h hh L (by omega)]; exact wy_le B M x a h L (L + 1)
theorem ten_bd {L : Nat} (h : L ≤ 6) : 1 ≤ 10 ^ L ∧ 10 ^ L ≤ 1000000 := by
  have : ∀ L, L < 7 → 1 ≤ 10 ^ L ∧ 10 ^ L ≤ 1000000 := by decide
  exact this L (by omega)
/-! ===== Euclid's steps ===== -/
theorem eu_step {x y i : Nat} (h : y < x) (hy : 0 < y) (hp : x * y * 2 ^ i < 2 ^ 84) : y * (x % y) * 2 ^ (i + 1) < 2 ^ 84 := by
  have h1 : x % y < y := Nat.mod_lt x hy
  have h3 : 2 * (x % y) ≤ x := by
    have h4 := Nat.mod_add_div x y
    have h5 : 1 ≤ x / y := (Nat.le_div_iff_mul_le hy).mpr (by omega)
    have h6 : y ≤ y * (x / y) := Nat.le_mul_of_pos_right y h5
    omega
  have e1 : y * (x % y) * 2 ^ (i + 1) = (2 * (x % y)) * y * 2 ^ i := by
    rw [Nat.pow_succ]
    simp only [Nat.mul_comm, Nat.mul_left_comm, Nat.mul_assoc]
  rw [e1]
  exact Nat.lt_of_le_of_lt (Nat.mul_le_mul (Nat.mul_le_mul h3 (Nat.le_refl y)) (Nat.le_refl _)) hp
theorem eu_first {a b : Nat} (hb : 0 < b) (h : b < 2 ^ 41) : b * (a % b) * 2 ^ 1 < 2 ^ 84 := by
  have h1 : a % b < b := Nat.mod_lt a hb
  have h2 : b * (a % b) ≤ 2 ^ 41 * 2 ^ 41 := Nat.mul_le_mul (by omega) (by omega)
  have e1 : (2 : Nat) ^ 41 * 2 ^ 41 = 2 ^ 82 := by decide
  have e2 : (2 : Nat) ^ 82 * 4 = 2 ^ 84 := by decide
  have e3 : (0 : Nat) < 2 ^ 82 := by decide
  omega
theorem eu_end {x y i : Nat} (h : y < x) (hi : 100 ≤ i) (hp : x * y * 2 ^ i < 2 ^ 84) : y = 0 := by
  rcases Nat.eq_zero_or_pos y with h0 | h0
  · exact h0
  · exfalso
    have h1 : 1 ≤ x * y := Nat.mul_pos (by omega) h0
    have h2 : (2 : Nat) ^ 84 ≤ 2 ^ i := Nat.pow_le_pow_right (by decide) (by omega)
    have h3 : 2 ^ i ≤ x * y * 2 ^ i := Nat.le_mul_of_pos_left _ h1
    omega
/-! ===== sets of words as bits of an int, sums over them ===== -/
def wsum (f : Nat → Nat) (x : Int32) : Nat → Int32
  | 0 => iI ((0 : Nat) : Int)
  | i + 1 => wsum f x i + (x >>> (iI (i : Int) &&& 31) &&& iI ((1 : Nat) : Int)) * iI ((f i : Nat) : Int)
theorem wsum_cong {f h : Nat → Nat} {x : Int32} : ∀ {n : Nat}, (∀ j, j < n → f j = h j) → wsum f x n = wsum h x n
  | 0, _ => rfl
  | n + 1, e => by unfold wsum; rw [wsum_cong (fun j hj => e j (by omega)), e n (by omega)]
def bset (P : Nat → Bool) : Nat → Int32
  | 0 => iI ((0 : Nat) : Int)
  | i + 1 => if P i = true then bset P i ||| iI ((1 : Nat) : Int) <<< (iI (i : Int) &&& 31) else bset P i
theorem bset_cong {P R : Nat → Bool} : ∀ {n : Nat}, (∀ j, j < n → P j = R j) → bset P n = bset R n
  | 0, _ => rfl
  | n + 1, e => by unfold bset; rw [bset_cong (fun j hj => e j (by omega)), e n (by omega)]
/-! ===== bytes ===== -/
def by8 (v : Int64) (k : Nat) : Nat := v.toBitVec.toNat / 2 ^ (8 * k) % 256
theorem by8_bd (v : Int64) (k : Nat) : by8 v k < 256 := Nat.mod_lt _ (by decide)
def wrt (u : Nat → Nat) (L : Nat) (v : Int64) (nn i : Nat) : Nat → Nat := fun j => if L ≤ j ∧ j < L + i then by8 v (nn - 1 - (j - L)) else u j
theorem wrt_0 {u : Nat → Nat} {L nn : Nat} {v : Int64} : wrt u L v nn 0 = u := funext fun j => if_neg (by omega)
theorem wrt_s {u : Nat → Nat} {L nn i : Nat} {v : Int64} : upN (wrt u L v nn i) (L + i) (by8 v (nn - 1 - i)) = wrt u L v nn (i + 1) := by
  funext j
  unfold upN wrt
  by_cases h : j = L + i
  · subst h
    rw [if_pos rfl, if_pos (by omega), show L + i - L = i by omega]
  · rw [if_neg h]
    by_cases h2 : L ≤ j ∧ j < L + i
    · rw [if_pos h2, if_pos (by omega)]
    · rw [if_neg h2, if_neg (by omega)]
/-- the byte's number at a place of the text, -1 behind its end -/
def chr (u : Nat → Nat) (L p : Nat) : Int := if p < L then (u p : Int) else -1
theorem chr_bd (u : Nat → Nat) (L p : Nat) (h : ∀ j, u j < 256) : -1 ≤ chr u L p ∧ chr u L p < 256 := by
  have := h p
  unfold chr; split <;> omega
def low (x y w : Nat) : Nat := (if w = 0 then x else y) / Nat.gcd x y
def flk (x y : Nat) : Nat := if y = 1 then 2 * fl x else if y = 2 then fl x + 2 else fl x
theorem flk_bd (x y : Nat) (h : x < 72) : flk x y ≤ 36 := by
  have := fl_bd x h
  unfold flk; split <;> (try split) <;> omega
def drw (x y : Nat) : Nat := (7919 * x + 6151 * y + 1) * (7919 * x + 6151 * y + 1) % 65521
theorem drw_bd (x y : Nat) : drw x y < 65521 := Nat.mod_lt _ (by decide)
theorem drw_sq {q x y : Nat} (hq : q = 7919 * x + 6151 * y + 1) (hx : x < 10000) (hy : y < 31) : q * q ≤ 10000000000000000 := by
  have h : q ≤ 100000000 := by omega
  exact Nat.le_trans (Nat.mul_le_mul h h) (by decide)
/-- the byte that '(byte) (v >>> 8 k)' is, and that '(byte) (v >> 8 k)' is -/
theorem sx_8 (x : BitVec 32) : x.signExtend 8 = x.setWidth 8 := by
  first | exact BitVec.signExtend_eq_setWidth_of_le _ (by decide) | exact BitVec.signExtend_eq_setWidth_of_lt _ (by decide) | (apply BitVec.eq_of_getLsbD_eq; intro i hi; rw [BitVec.getLsbD_signExtend, BitVec.getLsbD_setWidth]; simp [hi, show i < 32 by omega])
theorem sx_32 (x : BitVec 64) : x.signExtend 32 = x.setWidth 32 := by
  first | exact BitVec.signExtend_eq_setWidth_of_le _ (by decide) | exact BitVec.signExtend_eq_setWidth_of_lt _ (by decide) | (apply BitVec.eq_of_getLsbD_eq; intro i hi; rw [BitVec.getLsbD_signExtend, BitVec.getLsbD_setWidth]; simp [hi, show i < 64 by omega])
theorem by8_low (x : Int32) : x.toInt8.toInt32 = sb_b (x.toBitVec.toNat % 256) := by
  unfold sb_b
  congr 1
  apply Int8.toBitVec_inj.mp
  apply BitVec.eq_of_toNat_eq
  show (x.toBitVec.signExtend 8).toNat = ((nI (x.toBitVec.toNat % 256)).toBitVec.signExtend 8).toNat
  rw [sx_8, sx_8, BitVec.toNat_setWidth, BitVec.toNat_setWidth, pk_tn (by omega)]
  omega
theorem by8_nar (x : Int32) : vp_nar .byte x.toInt8.toInt32 = x.toInt8.toInt32 := pk_vb x
theorem by8_ushr {v : Int64} {z : Int} {k : Nat} (hk : k ≤ 7) (hz : ((8 : Nat) : Int) * z = ((8 * k : Nat) : Int)) : vp_nar .byte ((v.toUInt64 >>> ((iI (((8 : Nat) : Int) * z)).toInt64.toUInt64 &&& Int64.toUInt64 63)).toInt64.toInt32.toInt8.toInt32) = sb_b (by8 v k) := by
  rw [by8_nar, by8_low, hz, iI_nI]
  congr 1
  unfold by8
  have hs : ((nI (8 * k)).toInt64.toUInt64 &&& Int64.toUInt64 63).toBitVec.toNat % 64 = 8 * k := by
    have : ∀ k, k < 8 → ((nI (8 * k)).toInt64.toUInt64 &&& Int64.toUInt64 63).toBitVec.toNat % 64 = 8 * k := by decide
    exact this k (by omega)
  show ((v.toUInt64.toBitVec >>> (((nI (8 * k)).toInt64.toUInt64 &&& Int64.toUInt64 63).toBitVec % 64)).signExtend 32).toNat % 256 = _
  rw [sx_32, BitVec.toNat_setWidth]
  show (v.toUInt64.toBitVec >>> (((nI (8 * k)).toInt64.toUInt64 &&& Int64.toUInt64 63).toBitVec % 64).toNat).toNat % 2 ^ 32 % 256 = _
  rw [BitVec.toNat_ushiftRight]
  have e1 : (((nI (8 * k)).toInt64.toUInt64 &&& Int64.toUInt64 63).toBitVec % 64).toNat = 8 * k := by rw [BitVec.toNat_umod]; exact hs
  rw [e1, Nat.shiftRight_eq_div_pow]
  show v.toBitVec.toNat / 2 ^ (8 * k) % 2 ^ 32 % 256 = _
  omega
