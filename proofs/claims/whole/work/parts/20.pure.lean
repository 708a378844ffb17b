/-! ===== signs, as numbers ===== -/
def fl (n : Nat) : Nat := 1 + n % 6 + 2 * (n / 6 % 4) + 3 * (n / 24)
def ag (B M n d : Nat) : Nat := (n % 6 - d / B) + 6 * min (n / 6 % 4 + d / M) 3 + 24 * (n / 24)
def bt (n : Nat) : Nat := if 24 ≤ n then n % 24 else if n % 6 = 0 then 0 else n - n % 6
def bts (n : Nat) : Nat → Nat
  | 0 => n
  | b + 1 => bt (bts n b)
def tn (B M n d b : Nat) : Nat := bts (ag B M n d) b
theorem fl_bd (n : Nat) (h : n < 72) : 1 ≤ fl n ∧ fl n ≤ 18 := by unfold fl; omega
theorem ag_bd (B M n d : Nat) (h : n < 72) : ag B M n d < 72 := by
  unfold ag
  have h1 := Nat.sub_le (n % 6) (d / B)
  have h2 := Nat.min_le_right (n / 6 % 4 + d / M) 3
  generalize n % 6 - d / B = a at *
  generalize min (n / 6 % 4 + d / M) 3 = b at *
  omega
theorem bt_bd (n : Nat) (h : n < 72) : bt n < 72 := by unfold bt; split <;> (try split) <;> omega
theorem bts_bd (n : Nat) (h : n < 72) : ∀ b, bts n b < 72
  | 0 => h
  | b + 1 => bt_bd _ (bts_bd n h b)
theorem tn_bd (B M n d b : Nat) (h : n < 72) : tn B M n d b < 72 := bts_bd _ (ag_bd B M n d h) b
/-- the first word with a sign, -4 if there is none -/
def rdA (sg : Nat → Nat) (x : Nat) : Nat → Option Nat
  | 0 => none
  | k + 1 => match rdA sg x k with
    | some w => some w
    | none => if sg k = x then some k else none
def oI : Option Nat → Int
  | some w => (w : Int)
  | none => -4
def rd (sg : Nat → Nat) (k x : Nat) : Int := oI (rdA sg x k)
theorem rdA_some {sg : Nat → Nat} {x : Nat} : ∀ {k w : Nat}, rdA sg x k = some w → w < k ∧ sg w = x ∧ ∀ j, j < w → sg j ≠ x
  | 0, w, h => by simp [rdA] at h
  | k + 1, w, h => by
    unfold rdA at h
    cases hq : rdA sg x k with
    | some v =>
      rw [hq] at h
      simp at h; subst h
      have := rdA_some hq
      exact ⟨by omega, this.2⟩
    | none =>
      rw [hq] at h
      simp at h
      obtain ⟨h1, h2⟩ := h
      subst h2
      refine ⟨by omega, h1, fun j hj => ?_⟩
      exact rdA_none' hq j hj
where rdA_none' {sg : Nat → Nat} {x : Nat} : ∀ {k : Nat}, rdA sg x k = none → ∀ j, j < k → sg j ≠ x
  | 0, _, j, hj => by omega
  | k + 1, h, j, hj => by
    unfold rdA at h
    cases hq : rdA sg x k with
    | some v => rw [hq] at h; simp at h
    | none =>
      rw [hq] at h
      simp at h
      by_cases hjk : j = k
      · subst hjk; exact h
      · exact rdA_none' hq j (by omega)
theorem rdA_none {sg : Nat → Nat} {x k : Nat} (h : rdA sg x k = none) : ∀ j, j < k → sg j ≠ x := rdA_some.rdA_none' h
theorem rdA_of {sg : Nat → Nat} {x : Nat} : ∀ {k w : Nat}, w < k → sg w = x → (∀ j, j < w → sg j ≠ x) → rdA sg x k = some w := by
  intro k w h1 h2 h3
  cases hq : rdA sg x k with
  | none => exact absurd h2 (rdA_none hq w h1)
  | some v =>
    obtain ⟨a1, a2, a3⟩ := rdA_some hq
    have h4 : v = w := by
      rcases Nat.lt_trichotomy v w with h | h | h
      · exact absurd a2 (h3 v h)
      · exact h
      · exact absurd h2 (a3 w h)
    rw [h4]
theorem rdA_no {sg : Nat → Nat} {x k : Nat} (h : ∀ j, j < k → sg j ≠ x) : rdA sg x k = none := by
  cases hq : rdA sg x k with
  | none => rfl
  | some v => exact absurd (rdA_some hq).2.1 (h v (rdA_some hq).1)
theorem rdA_cong {sg sh : Nat → Nat} {x : Nat} : ∀ {k : Nat}, (∀ j, j < k → sg j = sh j) → rdA sg x k = rdA sh x k
  | 0, _ => rfl
  | k + 1, h => by unfold rdA; rw [rdA_cong (fun j hj => h j (by omega)), h k (by omega)]
theorem rd_of {sg : Nat → Nat} {x k w : Nat} (h1 : w < k) (h2 : sg w = x) (h3 : ∀ j, j < w → sg j ≠ x) : rd sg k x = (w : Int) := by unfold rd; rw [rdA_of h1 h2 h3]; rfl
theorem rd_no {sg : Nat → Nat} {x k : Nat} (h : ∀ j, j < k → sg j ≠ x) : rd sg k x = -4 := by unfold rd; rw [rdA_no h]; rfl
theorem rd_cong {sg sh : Nat → Nat} {x k : Nat} (h : ∀ j, j < k → sg j = sh j) : rd sg k x = rd sh k x := by unfold rd; rw [rdA_cong h]
theorem rd_bd (sg : Nat → Nat) (k x : Nat) : -4 ≤ rd sg k x ∧ rd sg k x < k + 1 := by
  unfold rd
  cases hq : rdA sg x k with
  | none => show -4 ≤ (-4 : Int) ∧ (-4 : Int) < _; omega
  | some v => have := (rdA_some hq).1; show -4 ≤ (v : Int) ∧ (v : Int) < _; omega
