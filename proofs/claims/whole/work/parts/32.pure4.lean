/-! ===== the text's items ===== -/
abbrev vsg (v : VS) : Nat → Nat := v.1
abbrev vwo (v : VS) : Nat → Nat := v.2.1
abbrev vhu (v : VS) : Nat → Nat := v.2.2.1
abbrev vmi (v : VS) : Nat → Nat := v.2.2.2.1
abbrev vkn (v : VS) : Nat → Nat := v.2.2.2.2.1
abbrev vk (v : VS) : Nat := v.2.2.2.2.2.1
abbrev vnc (v : VS) : Nat := v.2.2.2.2.2.2.1
abbrev vnb (v : VS) : Nat := v.2.2.2.2.2.2.2.1
abbrev vbi (v : VS) : Nat := v.2.2.2.2.2.2.2.2.1
abbrev vmo (v : VS) : Nat := v.2.2.2.2.2.2.2.2.2
def VOK (v : VS) : Prop := (∀ j, vsg v j < 72) ∧ (∀ j, vwo v j < 100) ∧ (∀ j, vhu v j < 10) ∧ (∀ j, vmi v j ≤ 6) ∧ (∀ j, vkn v j < 64) ∧ vk v ≤ 8 ∧ vnc v ≤ 5 ∧ vnb v ≤ 5 ∧ (1 ≤ vbi v ∧ vbi v ≤ 9) ∧ (1 ≤ vmo v ∧ vmo v ≤ 9)
def dg (u : Nat → Nat) (L p : Nat) : Bool := decide (48 ≤ chr u L p ∧ chr u L p ≤ 57)
/-- the value of one figure or two, and the place behind them -/
def rnV (u : Nat → Nat) (L p : Nat) : Nat := if dg u L (p + 1) = true then 10 * (u p - 48) + u (p + 1) - 48 else u p - 48
def rnP (u : Nat → Nat) (L p : Nat) : Nat := if dg u L p = true then (if dg u L (p + 1) = true then p + 2 else p + 1) else p
theorem chr_in {u : Nat → Nat} {L p : Nat} (h : chr u L p ≠ -1) : p < L ∧ chr u L p = (u p : Int) := by
  unfold chr at h ⊢
  by_cases q : p < L
  · rw [if_pos q] at h ⊢; exact ⟨q, rfl⟩
  · rw [if_neg q] at h; exact absurd rfl h
theorem dg_in {u : Nat → Nat} {L p : Nat} (h : dg u L p = true) : p < L ∧ 48 ≤ u p ∧ u p ≤ 57 ∧ chr u L p = (u p : Int) := by
  have h1 := of_decide_eq_true h
  obtain ⟨a, b⟩ := chr_in (u := u) (L := L) (p := p) (by omega)
  exact ⟨a, by omega, by omega, b⟩
theorem rnV_bd {u : Nat → Nat} {L p : Nat} (h : dg u L p = true) : rnV u L p < 100 := by
  obtain ⟨a, b, c, -⟩ := dg_in h
  unfold rnV
  split
  · rename_i q
    obtain ⟨a2, b2, c2, -⟩ := dg_in q
    omega
  · omega
/-- i numbers of n read from place p on: the place then, and what stands in the row -/
def rna (u : Nat → Nat) (L n p : Nat) (nu : Nat → Nat) : Nat → Option (Nat × (Nat → Nat))
  | 0 => some (p, nu)
  | i + 1 => match rna u L n p nu i with
    | none => none
    | some (p1, nu1) => if dg u L p1 = true ∧ chr u L (rnP u L p1) = (if i + 1 = n then 59 else 44) then some (rnP u L p1 + 1, upN nu1 i (rnV u L p1)) else none
theorem rna_mono {u : Nat → Nat} {L n p : Nat} {nu : Nat → Nat} {i : Nat} (h : rna u L n p nu i = none) : ∀ k, rna u L n p nu (i + k) = none
  | 0 => h
  | k + 1 => by
    show rna u L n p nu (i + k + 1) = none
    unfold rna; rw [rna_mono h k]
theorem rna_stop {u : Nat → Nat} {L n p p1 i : Nat} {nu nu1 : Nat → Nat} (h : rna u L n p nu i = some (p1, nu1)) (hi : i < n) (hc : ¬ (dg u L p1 = true ∧ chr u L (rnP u L p1) = (if i + 1 = n then 59 else 44))) : rna u L n p nu n = none := by
  have h1 : rna u L n p nu (i + 1) = none := by unfold rna; rw [h]; exact if_neg hc
  have h2 := rna_mono h1 (n - (i + 1))
  rwa [show i + 1 + (n - (i + 1)) = n by omega] at h2
theorem rna_go {u : Nat → Nat} {L n p p1 i : Nat} {nu nu1 : Nat → Nat} (h : rna u L n p nu i = some (p1, nu1)) (hc : dg u L p1 = true ∧ chr u L (rnP u L p1) = (if i + 1 = n then 59 else 44)) : rna u L n p nu (i + 1) = some (rnP u L p1 + 1, upN nu1 i (rnV u L p1)) := by
  unfold rna; rw [h]; exact if_pos hc
/-- what stands in the row, below 100 where it was written; the place goes on, and stays within the text -/
theorem rna_ok {u : Nat → Nat} {L n p : Nat} {nu : Nat → Nat} : ∀ {i p1 : Nat} {nu1 : Nat → Nat}, rna u L n p nu i = some (p1, nu1) → (∀ j, j < i → nu1 j < 100) ∧ p ≤ p1 ∧ (0 < i → p < p1 ∧ p1 ≤ L)
  | 0, p1, nu1, h => by
    simp [rna] at h
    obtain ⟨rfl, rfl⟩ := h
    exact ⟨fun j hj => by omega, Nat.le_refl _, fun q => by omega⟩
  | i + 1, p1, nu1, h => by
    unfold rna at h
    cases hq : rna u L n p nu i with
    | none => rw [hq] at h; simp at h
    | some q =>
      obtain ⟨p2, nu2⟩ := q
      rw [hq] at h
      by_cases hc : dg u L p2 = true ∧ chr u L (rnP u L p2) = (if i + 1 = n then 59 else 44)
      · simp only [if_pos hc] at h
        obtain ⟨a1, a2, a3⟩ := rna_ok hq
        have h' := Option.some.inj h
        have e1 : rnP u L p2 + 1 = p1 := congrArg Prod.fst h'
        have e2 : upN nu2 i (rnV u L p2) = nu1 := congrArg Prod.snd h'
        have hin : rnP u L p2 < L := by
          have hne : chr u L (rnP u L p2) ≠ -1 := by rw [hc.2]; split <;> decide
          exact (chr_in hne).1
        have hge : p2 < rnP u L p2 := by unfold rnP; rw [if_pos hc.1]; split <;> omega
        refine ⟨fun j hj => ?_, by omega, fun _ => ⟨by omega, by omega⟩⟩
        rw [← e2]
        by_cases hji : j = i
        · subst hji; rw [upN_s]; exact rnV_bd hc.1
        · rw [upN_n hji]; exact a1 j (by omega)
      · simp only [if_neg hc] at h
        cases h
/-! ===== one item, laid into a valley ===== -/
def vW (v : VS) (x y w z : Nat) : VS := (if aw (vsg v) (vk v) x y w = true then upN (vsg v) (vk v) (x + 6 * y + 24 * w) else vsg v, if aw (vsg v) (vk v) x y w = true then upN (vwo v) (vk v) z else vwo v, vhu v, vmi v, vkn v, if aw (vsg v) (vk v) x y w = true then vk v + 1 else vk v, vnc v, vnb v, vbi v, vmo v)
def vB (v : VS) (x y : Nat) : VS := (vsg v, vwo v, vhu v, vmi v, vkn v, vk v, vnc v, vnb v, if al x y = true then x else vbi v, if al x y = true then y else vmo v)
def vC (v : VS) (x y : Nat) : VS := (vsg v, vwo v, if ac (vnc v) x y = true then upN (vhu v) (vnc v) x else vhu v, if ac (vnc v) x y = true then upN (vmi v) (vnc v) y else vmi v, vkn v, vk v, if ac (vnc v) x y = true then vnc v + 1 else vnc v, vnb v, vbi v, vmo v)
def vK (v : VS) (x : Nat) : VS := (vsg v, vwo v, vhu v, vmi v, if ab (vnb v) x = true then upN (vkn v) (vnb v) x else vkn v, vk v, vnc v, if ab (vnb v) x = true then vnb v + 1 else vnb v, vbi v, vmo v)
/-- how many numbers an item of a letter has -/
def prt (c : Int) : Nat := if c = 119 then 4 else if c = 98 ∨ c = 99 then 2 else if c = 107 then 1 else 0
/-- an item: is it so, the place behind it, the valley then -/
def itm (u : Nat → Nat) (L p : Nat) (v : VS) : Bool × Nat × VS :=
  match rna u L (prt (chr u L p)) (p + 1) (fun _ => 0) (prt (chr u L p)) with
  | none => (false, 0, v)
  | some (p1, nu) =>
    if chr u L p = 119 then (aw (vsg v) (vk v) (nu 0) (nu 1) (nu 2), p1, vW v (nu 0) (nu 1) (nu 2) (nu 3))
    else if chr u L p = 98 then (al (nu 0) (nu 1), p1, vB v (nu 0) (nu 1))
    else if chr u L p = 99 then (ac (vnc v) (nu 0) (nu 1), p1, vC v (nu 0) (nu 1))
    else if chr u L p = 107 then (ab (vnb v) (nu 0), p1, vK v (nu 0))
    else (false, 0, v)
/-- the items from a place on: the first fault (-4: none), and the valley so far -/
def prs (u : Nat → Nat) (L : Nat) : Nat → Nat → VS → Int × VS
  | 0, _, v => (-4, v)
  | f + 1, p, v => if p < L then (if (itm u L p v).1 = true then prs u L f (itm u L p v).2.1 (itm u L p v).2.2 else ((p : Int), (itm u L p v).2.2)) else (-4, v)
