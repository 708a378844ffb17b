/-! ===== how many bits a long has: Long.bitCount ===== -/
def bm (G : Nat → Nat) : Nat → Nat → Nat
  | 0, _ => 0
  | k + 1, n => 256 * bm G k (n / 256) + G (n % 256)
def mk8 (m : Nat) : Nat → Nat
  | 0 => 0
  | k + 1 => 256 * mk8 m k + m
theorem and_split {a b r t : Nat} (hr : r < 256) (ht : t < 256) : (256 * a + r) &&& (256 * b + t) = 256 * (a &&& b) + (r &&& t) := by
  apply Nat.eq_of_testBit_eq
  intro j
  have hrt : r &&& t < 2 ^ 8 := Nat.and_lt_two_pow r ht
  rw [Nat.testBit_and, show 256 = 2 ^ 8 from rfl, Nat.testBit_two_pow_mul_add a (show r < 2 ^ 8 from hr), Nat.testBit_two_pow_mul_add b (show t < 2 ^ 8 from ht), Nat.testBit_two_pow_mul_add (a &&& b) hrt]
  split
  · rw [Nat.testBit_and]
  · rw [Nat.testBit_and]
theorem bm_add (F G : Nat → Nat) : ∀ k n, bm F k n + bm G k n = bm (fun r => F r + G r) k n
  | 0, _ => rfl
  | k + 1, n => by
    have := bm_add F G k (n / 256)
    show 256 * bm F k (n / 256) + F (n % 256) + (256 * bm G k (n / 256) + G (n % 256)) = 256 * bm (fun r => F r + G r) k (n / 256) + (F (n % 256) + G (n % 256))
    omega
theorem bm_bm {F G : Nat → Nat} (hF : ∀ r, r < 256 → F r < 256) : ∀ k n, bm G k (bm F k n) = bm (fun r => G (F r)) k n
  | 0, _ => rfl
  | k + 1, n => by
    have h := hF (n % 256) (Nat.mod_lt _ (by decide))
    have ih := bm_bm (G := G) hF k (n / 256)
    show 256 * bm G k ((256 * bm F k (n / 256) + F (n % 256)) / 256) + G ((256 * bm F k (n / 256) + F (n % 256)) % 256) = _
    rw [show (256 * bm F k (n / 256) + F (n % 256)) / 256 = bm F k (n / 256) by omega, show (256 * bm F k (n / 256) + F (n % 256)) % 256 = F (n % 256) by omega, ih]
    rfl
theorem bm_cong {F G : Nat → Nat} (h : ∀ r, r < 256 → F r = G r) : ∀ k n, bm F k n = bm G k n
  | 0, _ => rfl
  | k + 1, n => by
    show 256 * bm F k (n / 256) + F (n % 256) = 256 * bm G k (n / 256) + G (n % 256)
    rw [bm_cong h k (n / 256), h _ (Nat.mod_lt _ (by decide))]
theorem bm_lt {F : Nat → Nat} (hF : ∀ r, r < 256 → F r < 256) : ∀ k n, bm F k n < 256 ^ k
  | 0, _ => by show 0 < 1; decide
  | k + 1, n => by
    have h := hF (n % 256) (Nat.mod_lt _ (by decide))
    have ih := bm_lt hF k (n / 256)
    show 256 * bm F k (n / 256) + F (n % 256) < 256 ^ (k + 1)
    rw [Nat.pow_succ]; omega
theorem bm_id : ∀ k n, n < 256 ^ k → bm (fun r => r) k n = n
  | 0, n, h => by
    have h : n < 1 := h
    show 0 = n; omega
  | k + 1, n, h => by
    rw [Nat.pow_succ] at h
    show 256 * bm (fun r => r) k (n / 256) + n % 256 = n
    rw [bm_id k (n / 256) (by omega)]; omega
theorem bm_sub {F : Nat → Nat} (hF : ∀ r, r < 256 → F r ≤ r) : ∀ k n, n < 256 ^ k → bm F k n ≤ n ∧ n - bm F k n = bm (fun r => r - F r) k n
  | 0, n, h => by
    have h : n < 1 := h
    show 0 ≤ n ∧ n - 0 = 0; omega
  | k + 1, n, h => by
    rw [Nat.pow_succ] at h
    have hf := hF (n % 256) (Nat.mod_lt _ (by decide))
    obtain ⟨i1, i2⟩ := bm_sub hF k (n / 256) (by omega)
    show 256 * bm F k (n / 256) + F (n % 256) ≤ n ∧ n - (256 * bm F k (n / 256) + F (n % 256)) = 256 * bm (fun r => r - F r) k (n / 256) + (n % 256 - F (n % 256))
    rw [← i2]; omega
theorem bm_m1 : ∀ k n, n < 256 ^ k → ((n) / 2) &&& mk8 85 k = bm (fun r => ((r) / 2) &&& 85) k n
  | 0, n, h => by
    show _ &&& 0 = 0
    rw [Nat.and_zero]
  | k + 1, n, h => by
    rw [Nat.pow_succ] at h
    have ih := bm_m1 k (n / 256) (by omega)
    have hr : n % 256 < 256 := Nat.mod_lt _ (by decide)
    have hk : ∀ b, b < 2 → ∀ t, t < 128 → (128 * b + t) &&& 85 = t &&& 85 := by decide +kernel
    have e1 : ((n) / 2) = 256 * ((n / 256) / 2) + (128 * ((n / 256) % 2) + (n % 256) / 2) := by omega
    show ((n) / 2) &&& (256 * mk8 85 k + 85) = 256 * bm (fun r => ((r) / 2) &&& 85) k (n / 256) + (((n % 256) / 2) &&& 85)
    rw [e1, and_split (by omega) (by decide), hk _ (Nat.mod_lt _ (by decide)) _ (by omega), ih]
theorem bm_m2 : ∀ k n, n < 256 ^ k → ((n) / 4) &&& mk8 51 k = bm (fun r => ((r) / 4) &&& 51) k n
  | 0, n, h => by
    show _ &&& 0 = 0
    rw [Nat.and_zero]
  | k + 1, n, h => by
    rw [Nat.pow_succ] at h
    have ih := bm_m2 k (n / 256) (by omega)
    have hr : n % 256 < 256 := Nat.mod_lt _ (by decide)
    have hk : ∀ b, b < 4 → ∀ t, t < 64 → (64 * b + t) &&& 51 = t &&& 51 := by decide +kernel
    have e1 : ((n) / 4) = 256 * ((n / 256) / 4) + (64 * ((n / 256) % 4) + (n % 256) / 4) := by omega
    show ((n) / 4) &&& (256 * mk8 51 k + 51) = 256 * bm (fun r => ((r) / 4) &&& 51) k (n / 256) + (((n % 256) / 4) &&& 51)
    rw [e1, and_split (by omega) (by decide), hk _ (Nat.mod_lt _ (by decide)) _ (by omega), ih]
theorem bm_m0 : ∀ k n, n < 256 ^ k → n &&& mk8 51 k = bm (fun r => r &&& 51) k n
  | 0, n, h => by
    show _ &&& 0 = 0
    rw [Nat.and_zero]
  | k + 1, n, h => by
    rw [Nat.pow_succ] at h
    have ih := bm_m0 k (n / 256) (by omega)
    have e1 : 256 * (n / 256) + n % 256 = n := by omega
    have e2 : (256 * (n / 256) + n % 256) &&& (256 * mk8 51 k + 51) = 256 * bm (fun r => r &&& 51) k (n / 256) + (n % 256 &&& 51) := by
      rw [and_split (Nat.mod_lt _ (by decide)) (by decide), ih]
    rw [e1] at e2
    exact e2
theorem bm_le {F : Nat → Nat} {c : Nat} (hF : ∀ r, r < 256 → F r ≤ c) : ∀ k n, bm F k n ≤ c * mk8 1 k
  | 0, _ => Nat.zero_le _
  | k + 1, n => by
    have h := hF (n % 256) (Nat.mod_lt _ (by decide))
    have ih := bm_le hF k (n / 256)
    show 256 * bm F k (n / 256) + F (n % 256) ≤ c * (256 * mk8 1 k + 1)
    rw [Nat.mul_add, Nat.mul_one, Nat.mul_left_comm]
    omega
theorem bm_16 {F : Nat → Nat} (hF : ∀ r, r < 256 → F r % 16 ≤ 4) : ∀ k n, bm F k n % 16 ≤ 4
  | 0, _ => by show 0 % 16 ≤ 4; decide
  | k + 1, n => by
    have h := hF (n % 256) (Nat.mod_lt _ (by decide))
    show (256 * bm F k (n / 256) + F (n % 256)) % 16 ≤ 4
    omega
theorem bm_nib {F : Nat → Nat} (h1 : ∀ r, r < 256 → F r % 16 ≤ 4) (h2 : ∀ r, r < 256 → F r ≤ 68) : ∀ k n, (bm F k n + bm F k n / 16) &&& mk8 15 k = bm (fun r => (F r + F r / 16) % 16) k n
  | 0, n => by
    show _ &&& 0 = 0
    rw [Nat.and_zero]
  | k + 1, n => by
    have hr : n % 256 < 256 := Nat.mod_lt _ (by decide)
    have ih := bm_nib h1 h2 k (n / 256)
    have hq := bm_16 h1 k (n / 256)
    have hf := h2 (n % 256) hr
    show (256 * bm F k (n / 256) + F (n % 256) + (256 * bm F k (n / 256) + F (n % 256)) / 16) &&& (256 * mk8 15 k + 15) = 256 * bm (fun r => (F r + F r / 16) % 16) k (n / 256) + (F (n % 256) + F (n % 256) / 16) % 16
    generalize bm F k (n / 256) = q at ih hq ⊢
    generalize F (n % 256) = r at hf ⊢
    rw [show 256 * q + r + (256 * q + r) / 16 = 256 * (q + q / 16) + (r + r / 16 + 16 * (q % 16)) by omega, and_split (by omega) (by decide), ih, show (15 : Nat) = 2 ^ 4 - 1 from rfl, Nat.and_two_pow_sub_one_eq_mod]
    omega
def pB (r : Nat) : Nat := (((r - (r / 2 &&& 85)) &&& 51) + ((r - (r / 2 &&& 85)) / 4 &&& 51) + (((r - (r / 2 &&& 85)) &&& 51) + ((r - (r / 2 &&& 85)) / 4 &&& 51)) / 16) % 16
theorem pB_ct : ∀ r, r < 256 → pB r = ct r.testBit 8 := by decide +kernel
theorem pB_le : ∀ r, r < 256 → pB r ≤ 8 := fun r h => by rw [pB_ct r h]; exact ct_le _ 8
def bs : Nat → Nat → Nat
  | 0, _ => 0
  | k + 1, n => pB (n % 256) + bs k (n / 256)
theorem bs_ct : ∀ k n, bs k n = ct n.testBit (8 * k)
  | 0, _ => rfl
  | k + 1, n => by
    show pB (n % 256) + bs k (n / 256) = _
    rw [show 8 * (k + 1) = 8 + 8 * k by omega, ct_add, bs_ct k (n / 256), pB_ct _ (Nat.mod_lt _ (by decide))]
    congr 1
    · exact ct_cong (fun t ht => by rw [show 256 = 2 ^ 8 from rfl, Nat.testBit_mod_two_pow]; simp [ht])
    · exact ct_cong (fun t _ => by rw [show 256 = 2 ^ 8 from rfl, Nat.testBit_div_two_pow, Nat.add_comm])
theorem bc_sum {b0 b1 b2 b3 b4 b5 b6 b7 z0 z1 z2 z3 z4 z5 z6 z7 : Nat} (hb : b0 ≤ 8 ∧ b1 ≤ 8 ∧ b2 ≤ 8 ∧ b3 ≤ 8 ∧ b4 ≤ 8 ∧ b5 ≤ 8 ∧ b6 ≤ 8 ∧ b7 ≤ 8) (h7 : z7 = 256 * 0 + b7) (h6 : z6 = 256 * z7 + b6) (h5 : z5 = 256 * z6 + b5) (h4 : z4 = 256 * z5 + b4) (h3 : z3 = 256 * z4 + b3) (h2 : z2 = 256 * z3 + b2) (h1 : z1 = 256 * z2 + b1) (h0 : z0 = 256 * z1 + b0) :
    z0 + z0 / 256 + (z0 + z0 / 256) / 65536 + (z0 + z0 / 256 + (z0 + z0 / 256) / 65536) / 4294967296 < 2 ^ 64 ∧ (z0 + z0 / 256 + (z0 + z0 / 256) / 65536 + (z0 + z0 / 256 + (z0 + z0 / 256) / 65536) / 4294967296) % 128 = b0 + (b1 + (b2 + (b3 + (b4 + (b5 + (b6 + (b7 + 0))))))) := by
  obtain ⟨c0, c1, c2, c3, c4, c5, c6, c7⟩ := hb
  have k7 : z7 ≤ 8 := by clear h0 h1 h2 h3 h4 h5 h6; omega
  have k6 : z6 ≤ 2056 := by clear h0 h1 h2 h3 h4 h5 h7; omega
  have k5 : z5 ≤ 526344 := by clear h0 h1 h2 h3 h4 h6 h7; omega
  have k4 : z4 ≤ 134744072 := by clear h0 h1 h2 h3 h5 h6 h7; omega
  have k3 : z3 ≤ 34494482440 := by clear h0 h1 h2 h4 h5 h6 h7; omega
  have k2 : z2 ≤ 8830587504648 := by clear h0 h1 h3 h4 h5 h6 h7; omega
  have k1 : z1 ≤ 2260630401189896 := by clear h0 h2 h3 h4 h5 h6 h7; omega
  have k0 : z0 ≤ 578721382704613384 := by clear h1 h2 h3 h4 h5 h6 h7; omega
  have e1 : z0 / 256 = z1 := by clear h1 h2 h3 h4 h5 h6 h7; omega
  have w0 : z0 + z1 = 256 * (z1 + z2) + (b0 + b1) := by clear h2 h3 h4 h5 h6 h7; omega
  have w1 : z1 + z2 = 256 * (z2 + z3) + (b1 + b2) := by clear h0 h3 h4 h5 h6 h7 w0; omega
  have w2 : z2 + z3 = 256 * (z3 + z4) + (b2 + b3) := by clear h0 h1 h4 h5 h6 h7 w0 w1; omega
  have w3 : z3 + z4 = 256 * (z4 + z5) + (b3 + b4) := by clear h0 h1 h2 h5 h6 h7 w0 w1 w2; omega
  have w4 : z4 + z5 = 256 * (z5 + z6) + (b4 + b5) := by clear h0 h1 h2 h3 h6 h7 w0 w1 w2 w3; omega
  have w5 : z5 + z6 = 256 * (z6 + z7) + (b5 + b6) := by clear h0 h1 h2 h3 h4 h7 w0 w1 w2 w3 w4; omega
  have w6 : z6 + z7 = 256 * z7 + (b6 + b7) := by clear h0 h1 h2 h3 h4 h5 w0 w1 w2 w3 w4 w5; omega
  clear h0 h1 h2 h3 h4 h5 h6
  rw [e1]
  have m0 : z0 + z1 ≤ 1200000000000000000 := by omega
  generalize z0 + z1 = u0 at *
  generalize z1 + z2 = u1 at *
  generalize z2 + z3 = u2 at *
  generalize z3 + z4 = u3 at *
  generalize z4 + z5 = u4 at *
  generalize z5 + z6 = u5 at *
  generalize z6 + z7 = u6 at *
  have e2 : u0 / 65536 = u2 := by clear w2 w3 w4 w5 w6; omega
  rw [e2]
  have x0 : u0 + u2 = 256 * (u1 + u3) + (b0 + b1 + b2 + b3) := by clear w1 w3 w4 w5 w6; omega
  have x1 : u1 + u3 = 256 * (u2 + u4) + (b1 + b2 + b3 + b4) := by clear w0 w2 w4 w5 w6 x0; omega
  have x2 : u2 + u4 = 256 * (u3 + u5) + (b2 + b3 + b4 + b5) := by clear w0 w1 w3 w5 w6 x0 x1; omega
  have x3 : u3 + u5 = 256 * (u4 + u6) + (b3 + b4 + b5 + b6) := by clear w0 w1 w2 w4 w6 x0 x1 x2; omega
  have x4 : u4 + u6 = 256 * (u5 + z7) + (b4 + b5 + b6 + b7) := by clear w0 w1 w2 w3 w5 x0 x1 x2 x3; omega
  have m2 : u2 ≤ u0 := by clear x0 x1 x2 x3 x4 w2 w3 w4 w5 w6; omega
  clear w0 w1 w2 w3 w4 w5 w6
  have m3 : u0 + u2 ≤ 2400000000000000000 := by omega
  generalize u0 + u2 = y0 at *
  generalize u1 + u3 = y1 at *
  generalize u2 + u4 = y2 at *
  generalize u3 + u5 = y3 at *
  generalize u4 + u6 = y4 at *
  have e3 : y0 / 4294967296 = y4 := by clear x4; omega
  rw [e3]
  constructor
  · clear x4; omega
  · clear x1 x2 x3; omega
theorem lsh {n k : Nat} (hn : n < 2 ^ 64) (hk : k < 64) : ((lN n).toUInt64 >>> ((iI ((k : Nat) : Int)).toInt64.toUInt64 &&& Int64.toUInt64 63)).toInt64 = lN (n / 2 ^ k) := by
  rw [iI_nI]; exact wb_shr hn hk
theorem bc_ok {v : Nat} {a1 a2 a3 a4 a5 a6 : Int64} (hv : v < 2 ^ 64)
    (h1 : a1 = lI ((v : Nat) : Int) - (((lI ((v : Nat) : Int)).toUInt64 >>> ((iI ((1 : Nat) : Int)).toInt64.toUInt64 &&& Int64.toUInt64 63)).toInt64 &&& (6148914691236517205)))
    (h2 : a2 = (a1 &&& (3689348814741910323)) + ((a1.toUInt64 >>> ((iI ((2 : Nat) : Int)).toInt64.toUInt64 &&& Int64.toUInt64 63)).toInt64 &&& (3689348814741910323)))
    (h3 : a3 = (a2 + (a2.toUInt64 >>> ((iI ((4 : Nat) : Int)).toInt64.toUInt64 &&& Int64.toUInt64 63)).toInt64) &&& (1085102592571150095))
    (h4 : a4 = a3 + (a3.toUInt64 >>> ((iI ((8 : Nat) : Int)).toInt64.toUInt64 &&& Int64.toUInt64 63)).toInt64)
    (h5 : a5 = a4 + (a4.toUInt64 >>> ((iI ((16 : Nat) : Int)).toInt64.toUInt64 &&& Int64.toUInt64 63)).toInt64)
    (h6 : a6 = a5 + (a5.toUInt64 >>> ((iI ((32 : Nat) : Int)).toInt64.toUInt64 &&& Int64.toUInt64 63)).toInt64) :
    a6.toInt32 &&& iI ((127 : Nat) : Int) = iI ((ct v.testBit 64 : Nat) : Int) := by
  have hv8 : v < 256 ^ 8 := hv
  have p8 : (256 : Nat) ^ 8 = 2 ^ 64 := by decide
  have f1 : ∀ r, r < 256 → r / 2 &&& 85 ≤ r := fun r _ => Nat.le_trans Nat.and_le_left (Nat.div_le_self r 2)
  have F1 : ∀ r, r < 256 → r - (r / 2 &&& 85) < 256 := fun r h => by omega
  have F2 : ∀ r, r < 256 → ((r - (r / 2 &&& 85)) &&& 51) + ((r - (r / 2 &&& 85)) / 4 &&& 51) ≤ 68 := by decide +kernel
  have F2b : ∀ r, r < 256 → (((r - (r / 2 &&& 85)) &&& 51) + ((r - (r / 2 &&& 85)) / 4 &&& 51)) % 16 ≤ 4 := by decide +kernel
  have e1 : a1 = lN (bm (fun r => r - (r / 2 &&& 85)) 8 v) := by
    rw [h1, lI_lN, lsh hv (by decide), show (6148914691236517205 : Int64) = lN (mk8 85 8) by decide, wb_and (by omega) (by decide), show (2 : Nat) ^ 1 = 2 from rfl, bm_m1 8 v hv8, lN_sub (bm_sub f1 8 v hv8).1, (bm_sub f1 8 v hv8).2]
  have l1 : bm (fun r => r - (r / 2 &&& 85)) 8 v < 256 ^ 8 := bm_lt F1 8 v
  have e2 : a2 = lN (bm (fun r => ((r - (r / 2 &&& 85)) &&& 51) + ((r - (r / 2 &&& 85)) / 4 &&& 51)) 8 v) := by
    rw [h2, e1, lsh (by omega) (by decide), show (3689348814741910323 : Int64) = lN (mk8 51 8) by decide, wb_and (by omega) (by decide), wb_and (by omega) (by decide), show (2 : Nat) ^ 2 = 4 from rfl, bm_m2 8 _ l1, bm_m0 8 _ l1, lN_add, bm_bm F1, bm_bm F1, bm_add]
  have l2 : bm (fun r => ((r - (r / 2 &&& 85)) &&& 51) + ((r - (r / 2 &&& 85)) / 4 &&& 51)) 8 v < 2 ^ 64 := p8 ▸ bm_lt (fun r h => by have := F2 r h; omega) 8 v
  have l2h : bm (fun r => ((r - (r / 2 &&& 85)) &&& 51) + ((r - (r / 2 &&& 85)) / 4 &&& 51)) 8 v ≤ 4936000000000000000 := Nat.le_trans (bm_le F2 8 v) (by decide)
  have e3 : a3 = lN (bm pB 8 v) := by
    rw [h3, e2, lsh l2 (by decide), show (1085102592571150095 : Int64) = lN (mk8 15 8) by decide, lN_add, show (2 : Nat) ^ 4 = 16 from rfl, wb_and (by omega) (by decide), bm_nib F2b F2]
    rfl
  obtain ⟨z, hz⟩ : ∃ z, z = bm pB 8 v := ⟨_, rfl⟩
  have q : ∀ n, pB (n % 256) ≤ 8 := fun n => pB_le _ (Nat.mod_lt _ (by decide))
  obtain ⟨ly, hy⟩ := bc_sum (b0 := pB (v % 256)) (b1 := pB (v / 256 % 256)) (b2 := pB (v / 256 / 256 % 256)) (b3 := pB (v / 256 / 256 / 256 % 256)) (b4 := pB (v / 256 / 256 / 256 / 256 % 256)) (b5 := pB (v / 256 / 256 / 256 / 256 / 256 % 256)) (b6 := pB (v / 256 / 256 / 256 / 256 / 256 / 256 % 256)) (b7 := pB (v / 256 / 256 / 256 / 256 / 256 / 256 / 256 % 256)) ⟨q _, q _, q _, q _, q _, q _, q _, q _⟩ rfl rfl rfl rfl rfl rfl rfl hz
  rw [← hz] at e3
  have e4 : a4 = lN (z + z / 256) := by
    rw [h4, e3, lsh (by omega) (by decide), lN_add]
  have e5 : a5 = lN (z + z / 256 + (z + z / 256) / 65536) := by
    rw [h5, e4, lsh (by omega) (by decide), lN_add]
  have e6 : a6 = lN (z + z / 256 + (z + z / 256) / 65536 + (z + z / 256 + (z + z / 256) / 65536) / 4294967296) := by
    rw [h6, e5, lsh (by omega) (by decide), lN_add]
  rw [e6, lN_i, pk_and _ 7 (by decide), iI_nI]
  generalize z + z / 256 + (z + z / 256) / 65536 + (z + z / 256 + (z + z / 256) / 65536) / 4294967296 = y at hy ly ⊢
  congr 1
  have e7 : (nI y).toBitVec.toNat = y % 2 ^ 32 := by show (BitVec.ofNat 32 y).toNat = _; rw [BitVec.toNat_ofNat]
  rw [e7, show 64 = 8 * 8 from rfl, ← bs_ct 8 v]
  show y % 2 ^ 32 % 2 ^ 7 = pB (v % 256) + (pB (v / 256 % 256) + (pB (v / 256 / 256 % 256) + (pB (v / 256 / 256 / 256 % 256) + (pB (v / 256 / 256 / 256 / 256 % 256) + (pB (v / 256 / 256 / 256 / 256 / 256 % 256) + (pB (v / 256 / 256 / 256 / 256 / 256 / 256 % 256) + (pB (v / 256 / 256 / 256 / 256 / 256 / 256 / 256 % 256) + 0)))))))
  rw [← hy]; omega
/-! ===== marks ===== -/
theorem mk_RB {lw hg : Nat → Nat} {x w : Nat} {S S' : Nat → Bool} (h : RBn (lw x) (hg x) S) (hw : w < 72) (e : ∀ t, S' t = (S t || decide (w = t))) : RBn ((if w < 64 then upN lw x (lw x ||| 2 ^ w) else lw) x) ((if w < 64 then hg else upN hg x (hg x ||| 2 ^ (w - 64))) x) S' := by
  by_cases q : w < 64
  · rw [if_pos q, if_pos q, upN_s]; exact RB_lo h q e
  · rw [if_neg q, if_neg q, upN_s]; exact RB_hi h ⟨by omega, hw⟩ e
theorem mk_ot {lw hg : Nat → Nat} {x w y a b : Nat} (hy : y ≠ x) : (if w < 64 then upN lw x a else lw) y = lw y ∧ (if w < 64 then hg else upN hg x b) y = hg y := by
  by_cases q : w < 64
  · rw [if_pos q, if_pos q, upN_n hy]; exact ⟨rfl, rfl⟩
  · rw [if_neg q, if_neg q, upN_n hy]; exact ⟨rfl, rfl⟩
theorem st_no {S : Nat → Nat → Bool} {x : Nat} {c : Nat → Nat} : ∀ {w i : Nat}, i < w → mtB (S x) (S (c i)) 72 = true → stA S x c w = false
  | 0, i, hi, _ => by omega
  | w + 1, i, hi, h => by
    unfold stA
    by_cases q : i = w
    · subst q; rw [h]; simp
    · rw [st_no (w := w) (by omega) h]; rfl
theorem mk_ot1 {lw : Nat → Nat} {x w y a : Nat} (hy : y ≠ x) : (if w < 64 then upN lw x a else lw) y = lw y := by
  by_cases q : w < 64
  · rw [if_pos q, upN_n hy]
  · rw [if_neg q]
theorem mk_ot2 {hg : Nat → Nat} {x w y b : Nat} (hy : y ≠ x) : (if w < 64 then hg else upN hg x b) y = hg y := by
  by_cases q : w < 64
  · rw [if_pos q]
  · rw [if_neg q, upN_n hy]
