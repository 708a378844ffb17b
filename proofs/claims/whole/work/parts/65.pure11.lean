/-! ===== the model's larder ===== -/
def shf (F : Nat → Nat) (i : Nat) : Nat → Nat := fun j => if j < i then F (j + 6) else F j
theorem shf_0 {F : Nat → Nat} : shf F 0 = F := funext fun j => if_neg (by omega)
theorem shf_s {F : Nat → Nat} {i : Nat} : upN (shf F i) i (shf F i (i + 6)) = shf F (i + 1) := by
  funext j
  have e : shf F i (i + 6) = F (i + 6) := if_neg (by omega)
  rw [e]; unfold upN shf
  by_cases q : j = i
  · rw [if_pos q, if_pos (by omega), q]
  · rw [if_neg q]
    by_cases q2 : j < i
    · rw [if_pos q2, if_pos (by omega)]
    · rw [if_neg q2, if_neg (by omega)]
def kb (F : Nat → Nat) (dn : Nat) : Nat → Nat := if dn = 8 then shf F 42 else F
def kp (F G : Nat → Nat) (d0 wh ii i : Nat) : Nat → Nat := fun j => if j = 6 * d0 then wh else if j = 6 * d0 + 1 then ii else if 6 * d0 + 2 ≤ j ∧ j < 6 * d0 + 2 + i then G (4 * ii + (j - (6 * d0 + 2))) else F j
theorem kp_0 {F G : Nat → Nat} {d0 wh ii : Nat} : upN (upN F (6 * d0) wh) (6 * d0 + 1) ii = kp F G d0 wh ii 0 := by
  funext j
  unfold upN kp
  by_cases q : j = 6 * d0 + 1
  · rw [if_pos q, if_neg (by omega), if_pos q]
  · rw [if_neg q]
    by_cases q2 : j = 6 * d0
    · rw [if_pos q2, if_pos q2]
    · rw [if_neg q2, if_neg q2, if_neg q, if_neg (by omega)]
theorem kp_s {F G : Nat → Nat} {d0 wh ii i : Nat} : upN (kp F G d0 wh ii i) (6 * d0 + 2 + i) (G (4 * ii + i)) = kp F G d0 wh ii (i + 1) := by
  funext j
  unfold upN kp
  by_cases q : j = 6 * d0 + 2 + i
  · rw [if_pos q, if_neg (by omega), if_neg (by omega), if_pos (by omega)]; congr 1; omega
  · rw [if_neg q]
    by_cases q2 : j = 6 * d0
    · rw [if_pos q2, if_pos q2]
    · rw [if_neg q2, if_neg q2]
      by_cases q3 : j = 6 * d0 + 1
      · rw [if_pos q3, if_pos q3]
      · rw [if_neg q3, if_neg q3]
        by_cases q4 : 6 * d0 + 2 ≤ j ∧ j < 6 * d0 + 2 + i
        · rw [if_pos q4, if_pos (by omega)]
        · rw [if_neg q4, if_neg (by omega)]
/-- what was done, behind one thing more -/
def kset (F G : Nat → Nat) (dn wh ii : Nat) : Nat → Nat := kp (kb F dn) G (ssz 8 dn - 1) wh ii 4
/-- a day more for the first n loaves -/
def mday (F : Nat → Nat) (n : Nat) : Nat → Nat := fun j => if j < 4 * n ∧ j % 4 = 2 then F j + 1 else F j
theorem mday_0 {F : Nat → Nat} : mday F 0 = F := funext fun j => if_neg (by omega)
theorem mday_s {F : Nat → Nat} {i : Nat} : upN (mday F i) (4 * i + 2) (mday F i (4 * i + 2) + 1) = mday F (i + 1) := by
  funext j
  have e : mday F i (4 * i + 2) = F (4 * i + 2) := if_neg (by omega)
  rw [e]; unfold upN mday
  by_cases q : j = 4 * i + 2
  · rw [if_pos q, if_pos (by omega), q]
  · rw [if_neg q]
    by_cases q2 : j < 4 * i ∧ j % 4 = 2
    · rw [if_pos q2, if_pos (by omega)]
    · rw [if_neg q2, if_neg (by omega)]
def mdad (F : Nat → Nat) (n : Nat) : Nat → Nat := fun j => if j < 4 * n ∧ j % 4 = 2 then F j - 1 else F j
theorem mdad_0 {F : Nat → Nat} : mdad F 0 = F := funext fun j => if_neg (by omega)
theorem mdad_at {F : Nat → Nat} {i : Nat} : mdad F i (4 * i + 2) = F (4 * i + 2) := if_neg (by omega)
theorem mdad_s {F : Nat → Nat} {i : Nat} : upN (mdad F i) (4 * i + 2) (mdad F i (4 * i + 2) - 1) = mdad F (i + 1) := by
  funext j
  rw [mdad_at]; unfold upN mdad
  by_cases q : j = 4 * i + 2
  · rw [if_pos q, if_pos (by omega), q]
  · rw [if_neg q]
    by_cases q2 : j < 4 * i ∧ j % 4 = 2
    · rw [if_pos q2, if_pos (by omega)]
    · rw [if_neg q2, if_neg (by omega)]
/-- cells from a on moved up by four, up to b -/
def mmv (F : Nat → Nat) (a b : Nat) : Nat → Nat := fun j => if a ≤ j ∧ j < b then F (j + 4) else F j
theorem mmv_0 {F : Nat → Nat} {a : Nat} : mmv F a a = F := funext fun j => if_neg (by omega)
theorem mmv_s {F : Nat → Nat} {a b : Nat} (h : a ≤ b) : upN (mmv F a b) b (mmv F a b (b + 4)) = mmv F a (b + 1) := by
  funext j
  have e : mmv F a b (b + 4) = F (b + 4) := if_neg (by omega)
  rw [e]; unfold upN mmv
  by_cases q : j = b
  · rw [if_pos q, if_pos (by omega), q]
  · rw [if_neg q]
    by_cases q2 : a ≤ j ∧ j < b
    · rw [if_pos q2, if_pos (by omega)]
    · rw [if_neg q2, if_neg (by omega)]
/-- cells from b to f moved down by four -/
def mdn (F : Nat → Nat) (b f : Nat) : Nat → Nat := fun j => if b + 4 ≤ j ∧ j < f + 4 then F (j - 4) else F j
theorem mdn_0 {F : Nat → Nat} {b : Nat} : mdn F b b = F := funext fun j => if_neg (by omega)
theorem mdn_s {F : Nat → Nat} {b f : Nat} (h : b < f) : upN (mdn F (b + 1) f) (b + 4) (mdn F (b + 1) f b) = mdn F b f := by
  funext j
  have e : mdn F (b + 1) f b = F b := if_neg (by omega)
  rw [e]; unfold upN mdn
  by_cases q : j = b + 4
  · rw [if_pos q, if_pos (by omega), q, Nat.add_sub_cancel]
  · rw [if_neg q]
    by_cases q2 : b + 1 + 4 ≤ j ∧ j < f + 4
    · rw [if_pos q2, if_pos (by omega)]
    · rw [if_neg q2, if_neg (by omega)]
/-- i cells of D from o on, laid at a -/
def mip (F D : Nat → Nat) (a o i : Nat) : Nat → Nat := fun j => if a ≤ j ∧ j < a + i then D (o + (j - a)) else F j
theorem mip_0 {F D : Nat → Nat} {a o : Nat} : mip F D a o 0 = F := funext fun j => if_neg (by omega)
theorem mip_s {F D : Nat → Nat} {a o i : Nat} : upN (mip F D a o i) (a + i) (D (o + i)) = mip F D a o (i + 1) := by
  funext j
  unfold upN mip
  by_cases q : j = a + i
  · rw [if_pos q, if_pos (by omega), q, Nat.add_sub_cancel_left]
  · rw [if_neg q]
    by_cases q2 : a ≤ j ∧ j < a + i
    · rw [if_pos q2, if_pos (by omega)]
    · rw [if_neg q2, if_neg (by omega)]
theorem mip_n {F D : Nat → Nat} {a o i j : Nat} (h : ¬ (a ≤ j ∧ j < a + i)) : mip F D a o i j = F j := if_neg h
def mbk (F : Nat → Nat) (n w kd : Nat) : Nat → Nat := upN (upN (upN (upN F (4 * n) w) (4 * n + 1) kd) (4 * n + 2) 0) (4 * n + 3) 0
