theorem MR_0 {S : Nat → Nat → Bool} {K r : Nat} {be : Nat → Int} : MR K (-4) be (mEn S r 0 0 0 c0 0 ms0) := ⟨rfl, fun q => absurd (show (0 : Int) ≤ -4 from q) (by decide), by decide, by decide⟩
/-- the rows of what signs can be, filled up to a sign and a span of it -/
def FC (S : Nat → Nat → Bool) (B M d b i1 i2 : Nat) (rC : Nat → Bool) : Prop := ∀ x t, x < 72 → t < 72 → rC (72 * x + t) = if x < i1 then S x t else if x = i1 then rq B M i1 d b t i2 else false
theorem FC_z {S : Nat → Nat → Bool} {B M d b : Nat} {rC : Nat → Bool} (h : ∀ j, j < 5184 → rC j = false) : FC S B M d b 0 0 rC := by
  intro x t hx ht
  rw [h _ (by omega), if_neg (by omega)]
  split <;> rfl
theorem FC_set {S : Nat → Nat → Bool} {B M d b i1 i2 : Nat} {rC : Nat → Bool} (h : FC S B M d b i1 i2 rC) (hi : i1 < 72) (hc : i2 / 4 ≤ d ∧ i2 % 4 ≤ b) : FC S B M d b i1 (i2 + 1) (va_up rC (72 * i1 + tn B M i1 (i2 / 4) (i2 % 4)) true) := by
  intro x t hx ht
  have htn := tn_bd B M i1 (i2 / 4) (i2 % 4) hi
  have hu : rq B M i1 d b t (i2 + 1) = (rq B M i1 d b t i2 || decide (tn B M i1 (i2 / 4) (i2 % 4) = t)) := by
    show (_ || (decide (i2 / 4 ≤ d ∧ i2 % 4 ≤ b) && _)) = _
    rw [decide_eq_true hc, Bool.true_and]
  by_cases q : 72 * x + t = 72 * i1 + tn B M i1 (i2 / 4) (i2 % 4)
  · rw [q, va_up_s, if_neg (by omega), if_pos (by omega), hu, decide_eq_true (show tn B M i1 (i2 / 4) (i2 % 4) = t by omega), Bool.or_true]
  · rw [va_up_n q, h x t hx ht, hu]
    by_cases q3 : x = i1
    · rw [if_neg (by omega), if_pos q3, if_neg (by omega), if_pos q3, decide_eq_false (show ¬ tn B M i1 (i2 / 4) (i2 % 4) = t by intro q4; apply q; rw [q3, q4]), Bool.or_false]
    · rw [if_neg q3, if_neg q3]
theorem FC_no {S : Nat → Nat → Bool} {B M d b i1 i2 : Nat} {rC : Nat → Bool} (h : FC S B M d b i1 i2 rC) (hc : ¬ (i2 / 4 ≤ d ∧ i2 % 4 ≤ b)) : FC S B M d b i1 (i2 + 1) rC := by
  intro x t hx ht
  have hu : rq B M i1 d b t (i2 + 1) = rq B M i1 d b t i2 := by
    show (_ || (decide (i2 / 4 ≤ d ∧ i2 % 4 ≤ b) && _)) = _
    rw [decide_eq_false hc, Bool.false_and, Bool.or_false]
  rw [h x t hx ht, hu]
theorem FC_next {B M d b i1 : Nat} {rC : Nat → Bool} (hd : d ≤ 20) (hb : b ≤ 3) (h : FC (fun y1 t => rc B M y1 b t (d + 1)) B M d b i1 84 rC) : FC (fun y1 t => rc B M y1 b t (d + 1)) B M d b (i1 + 1) 0 rC := by
  intro x t hx ht
  rw [h x t hx ht]
  by_cases q : x < i1
  · rw [if_pos q, if_pos (by omega)]
  · rw [if_neg q]
    by_cases q2 : x = i1
    · rw [if_pos q2, if_pos (by omega), rq_rc hd hb, q2]
    · rw [if_neg q2, if_neg (by omega)]; split <;> rfl
theorem FC_end {S : Nat → Nat → Bool} {B M d b : Nat} {rC : Nat → Bool} (h : FC S B M d b 72 0 rC) : ∀ x t, x < 72 → t < 72 → rC (72 * x + t) = S x t := fun x t hx ht => (h x t hx ht).trans (if_pos hx)
theorem cod_r1 {K : Nat} {ms : MS} {cl z : Int} {be : Nat → Int} (h : MR K cl be ms) (h2 : cl < 0 ∨ z < 0) : iI cl = iI (if ms.1 < 0 ∨ z < 0 then ms.1 else ((ms.2 z.toNat : Nat) : Int)) := by
  have k1 := h.1
  rw [← k1, if_pos h2]
theorem cod_r2 {K : Nat} {ms : MS} {cl : Int} {be : Nat → Int} {zn : Nat} (h : MR K cl be ms) (h2 : ¬ cl < 0) (hz : zn < K) : iI (be zn) = iI (if ms.1 < 0 ∨ ((zn : Nat) : Int) < 0 then ms.1 else ((ms.2 ((zn : Nat) : Int).toNat : Nat) : Int)) := by
  have k1 := h.1
  have k2 := h.2.1 (by omega) zn hz
  rw [if_neg (by omega), k2]; rfl
theorem mEn_0 {S : Nat → Nat → Bool} {r dep fr flo : Nat} {c : Nat → Nat} {ms : MS} : mEn S r dep fr flo c 0 ms = ms := rfl
theorem MR_00 {K : Nat} {be : Nat → Int} : MR K (-4) be ms0 := ⟨rfl, fun q => absurd (show (0 : Int) ≤ -4 from q) (by decide), by decide, by decide⟩
