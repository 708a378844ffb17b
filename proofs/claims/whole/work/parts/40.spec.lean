/-! ===== what the calls answer, as numbers ===== -/
def sWord (sg wo : Nat → Nat) (k : Nat) (w t : Int) : Int := if (0 ≤ w ∧ w < (k : Int)) ∧ (0 ≤ t ∧ t ≤ 2) then (if t = 0 then (sg w.toNat : Int) else if t = 1 then (wo w.toNat : Int) else (fl (sg w.toNat) : Int)) else -1
def sNow (bi mo : Nat) (ce : Nat → Nat) (i : Nat) : Nat := tn bi mo (ce (i * 5 + 4)) (if ce (i * 5 + 1) = 1 then ce (i * 5 + 2) / 2 else ce (i * 5 + 2)) (if ce (i * 5 + 1) = 2 then 0 else ce (i * 5 + 3))
/-- a larder's cells are such as baking, biting, days leave them -/
def LOK (ce : Nat → Nat) : Prop := ce 40 ≤ 8 ∧ ∀ i, i < ce 40 → ce (i * 5 + 0) < 8 ∧ ce (i * 5 + 1) < 4 ∧ ce (i * 5 + 2) < 1000000 ∧ ce (i * 5 + 3) ≤ 9 ∧ ce (i * 5 + 4) < 72
theorem sNow_bd {bi mo : Nat} {ce : Nat → Nat} {i : Nat} (h : LOK ce) (hi : i < ce 40) : sNow bi mo ce i < 72 := tn_bd _ _ _ _ _ (h.2 i hi).2.2.2.2
def sLoaf (sg : Nat → Nat) (k bi mo : Nat) (ce : Nat → Nat) (i t : Int) : Int := if (0 ≤ i ∧ i < (ce 40 : Int)) ∧ (0 ≤ t ∧ t ≤ 5) then (if t < 4 then (ce (i.toNat * 5 + t.toNat) : Int) else if t = 4 then (sNow bi mo ce i.toNat : Int) else rd sg k (sNow bi mo ce i.toNat)) else -1
def sBec (bi mo : Nat) (x d b : Int) : Int := if (0 ≤ x ∧ x ≤ 71) ∧ (0 ≤ d ∧ d ≤ 20) ∧ (0 ≤ b ∧ b ≤ 3) then (tn bi mo x.toNat d.toNat b.toNat : Int) else -1
def sMay (bi mo : Nat) (x d b : Int) : Int := if (0 ≤ x ∧ x ≤ 71) ∧ (0 ≤ d ∧ d ≤ 20) ∧ (0 ≤ b ∧ b ≤ 3) then (ct (fun t => rc bi mo x.toNat b.toNat t (d.toNat + 1)) 72 : Int) else -1
def sCan (bi mo : Nat) (x y d b : Int) : Int := if (0 ≤ x ∧ x ≤ 71) ∧ (0 ≤ y ∧ y ≤ 71) ∧ (0 ≤ d ∧ d ≤ 20) ∧ (0 ≤ b ∧ b ≤ 3) then (if rc bi mo x.toNat b.toNat y.toNat (d.toNat + 1) = true then 1 else 0) else -1
def sWas (sg : Nat → Nat) (k bi mo : Nat) (x d b : Int) : Int32 := if (0 ≤ x ∧ x ≤ 71) ∧ (0 ≤ d ∧ d ≤ 20) ∧ (0 ≤ b ∧ b ≤ 3) then bset (fun w => rc bi mo (sg w) b.toNat x.toNat (d.toNat + 1)) k else iI (-1)
def sHalf (sg : Nat → Nat) (k : Nat) (x y f : Int) : Int32 := if (0 ≤ x ∧ x ≤ 5) ∧ (0 ≤ y ∧ y ≤ 3) ∧ (0 ≤ f ∧ f ≤ 2) then bset (fun w => decide (x.toNat ≤ sg w % 6 ∧ y.toNat ≤ sg w / 6 % 4 ∧ sg w / 24 = f.toNat)) k else iI (-1)
def sSent (sg hu mi : Nat → Nat) (k nc bi mo : Nat) (w c a t : Int) : Int := if (0 ≤ w ∧ w < (k : Int)) ∧ (0 ≤ c ∧ c < (nc : Int)) ∧ (0 ≤ a ∧ a ≤ 20) ∧ (0 ≤ t ∧ t ≤ 1) then (low (wy bi mo (sg w.toNat) a.toNat (hu c.toNat) (mi c.toNat) (mi c.toNat + 1)) (10 ^ mi c.toNat) t.toNat : Int) else -1
/-- the best carrier among the first n, and his odds of ten to the sixth -/
def whF (sg hu mi : Nat → Nat) (bi mo w a : Nat) : Nat → Int × Int
  | 0 => (-4, -1)
  | c + 1 => if (whF sg hu mi bi mo w a c).2 < ((wy bi mo (sg w) a (hu c) (mi c) (mi c + 1) * 10 ^ (6 - mi c) : Nat) : Int) then ((c : Int), ((wy bi mo (sg w) a (hu c) (mi c) (mi c + 1) * 10 ^ (6 - mi c) : Nat) : Int)) else whF sg hu mi bi mo w a c
def sWhom (sg hu mi : Nat → Nat) (k nc bi mo : Nat) (w a : Int) : Int := if (0 ≤ w ∧ w < (k : Int)) ∧ (0 ≤ a ∧ a ≤ 20) then (whF sg hu mi bi mo w.toNat a.toNat nc).1 else -1
def tw (p q x y : Nat) : Nat := p * q - (p - x) * (q - y)
def sTwo (sg hu mi : Nat → Nat) (k nc bi mo : Nat) (w i j a t : Int) : Int := if (0 ≤ w ∧ w < (k : Int)) ∧ (0 ≤ i ∧ i < (nc : Int)) ∧ (0 ≤ j ∧ j < (nc : Int)) ∧ i ≠ j ∧ (0 ≤ a ∧ a ≤ 20) ∧ (0 ≤ t ∧ t ≤ 1) then (low (tw (10 ^ mi i.toNat) (10 ^ mi j.toNat) (wy bi mo (sg w.toNat) a.toNat (hu i.toNat) (mi i.toNat) (mi i.toNat + 1)) (wy bi mo (sg w.toNat) a.toNat (hu j.toNat) (mi j.toNat) (mi j.toNat + 1))) (10 ^ mi i.toNat * 10 ^ mi j.toNat) t.toNat : Int) else -1
/-- of the sets 0 to n the best by f flour, and its worth -/
def sdF (sg wo : Nat → Nat) (k f : Nat) : Nat → Nat × Int32
  | 0 => (0, iI ((0 : Nat) : Int))
  | i + 1 => if (sdF sg wo k f i).2 < wsum wo (iI ((i + 1 : Nat) : Int)) k ∧ wsum (fun j => fl (sg j)) (iI ((i + 1 : Nat) : Int)) k ≤ iI ((f : Nat) : Int) then (i + 1, wsum wo (iI ((i + 1 : Nat) : Int)) k) else sdF sg wo k f i
def sSaid (sg wo : Nat → Nat) (k : Nat) (f t : Int) : Int32 := if (0 ≤ f ∧ f ≤ 99) ∧ (0 ≤ t ∧ t ≤ 1) then (if t = 0 then iI (((sdF sg wo k f.toNat (2 ^ k - 1)).1 : Nat) : Int) else (sdF sg wo k f.toNat (2 ^ k - 1)).2) else iI (-1)
/-- bits of a set of the first n, as a number -/
def bN (P : Nat → Bool) : Nat → Nat
  | 0 => 0
  | i + 1 => if P i = true then bN P i + 2 ^ i else bN P i
theorem bN_lt (P : Nat → Bool) : ∀ n, bN P n < 2 ^ n
  | 0 => by show 0 < 1; decide
  | n + 1 => by have := bN_lt P n; unfold bN; rw [Nat.pow_succ]; split <;> omega
theorem shl_1 : ∀ n, n < 9 → iI ((1 : Nat) : Int) <<< (iI ((n : Nat) : Int) &&& 31) = iI ((2 ^ n : Nat) : Int) := by decide +kernel
theorem or_N (a b : Nat) : iI ((a : Nat) : Int) ||| iI ((b : Nat) : Int) = iI ((a ||| b : Nat) : Int) := by
  rw [iI_nI, iI_nI, iI_nI]
  apply Int32.toBitVec_inj.1
  apply BitVec.eq_of_getLsbD_eq
  intro i hi
  show ((BitVec.ofNat 32 a) ||| (BitVec.ofNat 32 b)).getLsbD i = (BitVec.ofNat 32 (a ||| b)).getLsbD i
  rw [BitVec.getLsbD_or, BitVec.getLsbD_ofNat, BitVec.getLsbD_ofNat, BitVec.getLsbD_ofNat, Nat.testBit_or]
  cases a.testBit i <;> cases b.testBit i <;> simp [hi]
theorem bset_N (P : Nat → Bool) : ∀ n, n ≤ 8 → bset P n = iI ((bN P n : Nat) : Int)
  | 0, _ => rfl
  | n + 1, h => by
    unfold bset bN
    have ih := bset_N P n (by omega)
    have hl := bN_lt P n
    split
    · have e := Nat.two_pow_add_eq_or_of_lt hl 1
      rw [Nat.mul_one] at e
      rw [ih, shl_1 n (by omega), or_N, Nat.or_comm, ← e, Nat.add_comm]
    · exact ih
def ntz (v : Nat) : Nat := if v % 2 = 1 then 0 else if v % 4 = 2 then 1 else if v % 8 = 4 then 2 else if v % 16 = 8 then 3 else 4
def kno (kn : Nat → Nat) (x : Int32) (j : Nat) : Bool := decide (iI ((kn j : Nat) : Int) &&& x = x)
def sTold (kn : Nat → Nat) (nb : Nat) (x t : Int) : Int := if (0 ≤ x ∧ x ≤ 63) ∧ (0 ≤ t ∧ t ≤ 1) then (if t = 0 then (bN (kno kn (iI x)) nb : Int) else if ct (bN (kno kn (iI x)) nb).testBit 8 = 1 then (ntz (bN (kno kn (iI x)) nb) : Int) else -4) else -1
/-- how the loaf of day t is read in the month by z -/
def mnR (sg : Nat → Nat) (k bi mo z t : Nat) : Int := rd sg k (tn bi mo (sg (drw z t % k)) (drw z t / 16 % 7) (drw z t / 256 % 3))
def mnF (sg : Nat → Nat) (k bi mo z : Nat) (o : Bool) : Nat → Nat
  | 0 => 0
  | t + 1 => mnF sg k bi mo z o t + if (if o = true then mnR sg k bi mo z t = ((drw z t % k : Nat) : Int) else mnR sg k bi mo z t ≠ ((drw z t % k : Nat) : Int) ∧ mnR sg k bi mo z t ≠ -4) then 1 else 0
def sMon (sg : Nat → Nat) (k bi mo : Nat) (z n t : Int) : Int := if (0 ≤ z ∧ z ≤ 9999) ∧ (1 ≤ n ∧ n ≤ 30) ∧ (0 ≤ t ∧ t ≤ 1) then (mnF sg k bi mo z.toNat (decide (t = 0)) n.toNat : Int) else -1
def sCnt (k nc nb sz fo un ke Lt : Nat) (t : Int) : Int := if t = 0 then (k : Int) else if t = 1 then (nc : Int) else if t = 2 then (nb : Int) else if t = 3 then (sz : Int) else if t = 4 then (fo : Int) else if t = 5 then (un : Int) else if t = 6 then (ke : Int) else if t = 7 then (Lt : Int) else -1
/-- the loaves that are read as their words, of the first n -/
def dyF (sg : Nat → Nat) (k bi mo : Nat) (ce : Nat → Nat) : Nat → Nat
  | 0 => 0
  | i + 1 => dyF sg k bi mo ce i + if rd sg k (sNow bi mo ce i) = (ce (i * 5 + 0) : Int) then 1 else 0
theorem dyF_le (sg : Nat → Nat) (k bi mo : Nat) (ce : Nat → Nat) : ∀ n, dyF sg k bi mo ce n ≤ n
  | 0 => Nat.le_refl _
  | n + 1 => by have := dyF_le sg k bi mo ce n; unfold dyF; split <;> omega
theorem mnF_le (sg : Nat → Nat) (k bi mo z : Nat) (o : Bool) : ∀ n, mnF sg k bi mo z o n ≤ n
  | 0 => Nat.le_refl _
  | n + 1 => by have := mnF_le sg k bi mo z o n; unfold mnF; split <;> (try split) <;> omega
theorem whF_bd {sg hu mi : Nat → Nat} {bi mo w a : Nat} (hh : ∀ j, hu j < 10) (hm : ∀ j, mi j ≤ 6) : ∀ c, -4 ≤ (whF sg hu mi bi mo w a c).1 ∧ (whF sg hu mi bi mo w a c).1 < c + 1 ∧ -1 ≤ (whF sg hu mi bi mo w a c).2 ∧ (whF sg hu mi bi mo w a c).2 ≤ 1000000
  | 0 => by show -4 ≤ (-4 : Int) ∧ (-4 : Int) < _ ∧ -1 ≤ (-1 : Int) ∧ (-1 : Int) ≤ _; omega
  | c + 1 => by
    have ih := whF_bd (sg := sg) (bi := bi) (mo := mo) (w := w) (a := a) hh hm c
    unfold whF
    have h1 := wy_bd bi mo (sg w) a (hu c) (mi c) (hh c) (hm c)
    have h2 : wy bi mo (sg w) a (hu c) (mi c) (mi c + 1) * 10 ^ (6 - mi c) ≤ 1000000 := by
      have h3 : 10 ^ mi c * 10 ^ (6 - mi c) = 1000000 := by rw [← Nat.pow_add, show mi c + (6 - mi c) = 6 by have := hm c; omega]
      rw [← h3]; exact Nat.mul_le_mul h1 (Nat.le_refl _)
    split
    · show -4 ≤ (c : Int) ∧ (c : Int) < _ ∧ -1 ≤ ((_ : Nat) : Int) ∧ ((_ : Nat) : Int) ≤ _; omega
    · omega
