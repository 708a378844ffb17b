/-! ===== calls that change the state ===== -/
def bkd (sg : Nat → Nat) (k w kd : Nat) : Nat := sg (if kd = 3 then (w + 1) % k else w)
theorem ladd_40 {ce : Nat → Nat} {w kd sn : Nat} (h : ce 40 < 8) : ladd ce w kd sn 40 = ce 40 + 1 := by
  unfold ladd
  rw [upN_n (by omega), upN_n (by omega), upN_n (by omega), upN_n (by omega), upN_n (by omega), upN_s]
theorem ladd_41 {ce : Nat → Nat} {w kd sn : Nat} (h : ce 40 < 8) : ladd ce w kd sn 41 = ce 41 := by
  unfold ladd
  rw [upN_n (by omega), upN_n (by omega), upN_n (by omega), upN_n (by omega), upN_n (by omega), upN_n (by omega)]
/-- a larder behind a bake -/
def lbk (sg : Nat → Nat) (k : Nat) (ce : Nat → Nat) (w kd : Nat) : Nat → Nat := upN (ladd ce w kd (bkd sg k w kd)) 41 (ce 41 + flk (bkd sg k w kd) kd)
theorem lbk_40 {sg : Nat → Nat} {k : Nat} {ce : Nat → Nat} {w kd : Nat} (h : ce 40 < 8) : lbk sg k ce w kd 40 = ce 40 + 1 := by
  unfold lbk; rw [upN_n (by omega), ladd_40 h]
def sCodC (bi mo : Nat) (c1 b1 : Nat → Nat) (x y w z : Int) : Int := if (1 ≤ x ∧ x ≤ 3) ∧ ((0 ≤ y ∧ y ≤ 20) ∧ (0 ≤ w ∧ w ≤ 3)) ∧ (-1 ≤ z ∧ z ≤ x - 1) then (if (exs (fun y1 t => rc bi mo y1 w.toNat t (y.toNat + 1)) x.toNat 0 0 0 (c1, b1, 2147483647)).2.2 = 2147483647 then -4 else if z = -1 then ((exs (fun y1 t => rc bi mo y1 w.toNat t (y.toNat + 1)) x.toNat 0 0 0 (c1, b1, 2147483647)).2.2 : Int) else ((exs (fun y1 t => rc bi mo y1 w.toNat t (y.toNat + 1)) x.toNat 0 0 0 (c1, b1, 2147483647)).2.1 z.toNat : Int)) else -1
def vOk (P : Int × VS) : Prop := P.1 = -4 ∧ vk P.2 ≠ 0
theorem prs_bd {u : Nat → Nat} {L : Nat} (hL : L ≤ 300) : ∀ {f p : Nat} {v : VS}, p ≤ 300 → -4 ≤ (prs u L f p v).1 ∧ (prs u L f p v).1 ≤ 300
  | 0, p, v, h => by show -4 ≤ (-4 : Int) ∧ (-4 : Int) ≤ 300; omega
  | f + 1, p, v, h => by
    unfold prs
    split
    · split
      · rename_i q
        exact prs_bd hL (Nat.le_trans (itm_p q).2 hL)
      · show -4 ≤ (p : Int) ∧ (p : Int) ≤ 300; omega
    · show -4 ≤ (-4 : Int) ∧ (-4 : Int) ≤ 300; omega
