theorem or_0 (x : Int32) : x ||| iI ((0 : Nat) : Int) = x := by
  show x ||| 0 = x
  exact Int32.or_zero
theorem rj_true {a t : Nat} : ∀ {b j : Nat}, j < b → bts a j = t → rj a t b = true
  | 0, j, h, _ => by omega
  | b + 1, j, h, e => by
    unfold rj
    by_cases q : j = b
    · subst q; rw [decide_eq_true e]; simp
    · rw [rj_true (b := b) (by omega) e]; rfl
theorem rc_true {B M x b t : Nat} : ∀ {d i j : Nat}, i < d → j ≤ b → tn B M x i j = t → rc B M x b t d = true
  | 0, i, j, h, _, _ => by omega
  | d + 1, i, j, h, hj, e => by
    unfold rc
    by_cases q : i = d
    · subst q; rw [rj_true (a := ag B M x i) (j := j) (by omega) e]; simp
    · rw [rc_true (d := d) (by omega) hj e]; rfl
theorem wsum_0 (f : Nat → Nat) : ∀ n, n ≤ 8 → wsum f (iI ((0 : Nat) : Int)) n = iI ((0 : Nat) : Int)
  | 0, _ => rfl
  | n + 1, h => by
    unfold wsum
    have h1 : ∀ n, n < 8 → iI ((0 : Nat) : Int) >>> (iI ((n : Nat) : Int) &&& 31) &&& iI ((1 : Nat) : Int) = 0 := by decide +kernel
    rw [wsum_0 f n (by omega), h1 n (by omega), Int32.zero_mul, Int32.add_zero]
def tone (P : Nat → Bool) : Nat → Int
  | 0 => -4
  | i + 1 => if P i = true then (i : Int) else tone P i
theorem tone_bd (P : Nat → Bool) : ∀ i, -4 ≤ tone P i ∧ tone P i < i + 1
  | 0 => by show -4 ≤ (-4 : Int) ∧ (-4 : Int) < _; omega
  | i + 1 => by have := tone_bd P i; unfold tone; split <;> omega
theorem told_ok (P : Nat → Bool) {n : Nat} (h : n ≤ 5) : ct (bN P n).testBit 8 = ct P n ∧ (ct P n = 1 → (ntz (bN P n) : Int) = tone P n) := by
  have key : ∀ b0 b1 b2 b3 b4 : Bool, ∀ n, n < 6 → ∀ Q : Nat → Bool, Q 0 = b0 → Q 1 = b1 → Q 2 = b2 → Q 3 = b3 → Q 4 = b4 → ct (bN Q n).testBit 8 = ct Q n ∧ (ct Q n = 1 → (ntz (bN Q n) : Int) = tone Q n) := by
    intro b0 b1 b2 b3 b4 n hn Q h0 h1 h2 h3 h4
    have c6 : n = 0 ∨ n = 1 ∨ n = 2 ∨ n = 3 ∨ n = 4 ∨ n = 5 := by omega
    rcases c6 with rfl | rfl | rfl | rfl | rfl | rfl <;> simp only [bN, tone, h0, h1, h2, h3, h4, show ∀ S m, ct S (m + 1) = ct S m + if S m = true then 1 else 0 from fun _ _ => rfl, show ∀ S, ct S 0 = 0 from fun _ => rfl] <;> clear h0 h1 h2 h3 h4 <;> cases b0 <;> cases b1 <;> cases b2 <;> cases b3 <;> cases b4 <;> decide +kernel
  exact key _ _ _ _ _ n (by omega) P rfl rfl rfl rfl rfl
theorem rd_or (sg : Nat → Nat) (k x : Nat) : rd sg k x = -4 ∨ 0 ≤ rd sg k x := by
  unfold rd
  cases rdA sg x k with
  | none => exact Or.inl rfl
  | some w => exact Or.inr (Int.natCast_nonneg w)
