def rnI (u : Nat → Nat) (L p : Nat) : Int := if dg u L p = true then (rnV u L p : Int) else -4
theorem rnP_le (u : Nat → Nat) (L p : Nat) : p ≤ rnP u L p ∧ rnP u L p ≤ p + 2 := by unfold rnP; split <;> (try split) <;> omega
theorem rnI_bd (u : Nat → Nat) (L p : Nat) : -4 ≤ rnI u L p ∧ rnI u L p < 100 := by
  unfold rnI
  split
  · rename_i q; have := rnV_bd q; omega
  · omega
theorem rn0 {u : Nat → Nat} {L p : Nat} (h : ¬ (48 ≤ chr u L p ∧ chr u L p ≤ 57)) : rnI u L p = -4 ∧ rnP u L p = p := by
  have e : ¬ dg u L p = true := by unfold dg; simpa using h
  unfold rnI rnP; rw [if_neg e, if_neg e]; exact ⟨rfl, rfl⟩
theorem rn1 {u : Nat → Nat} {L p : Nat} (h : 48 ≤ chr u L p ∧ chr u L p ≤ 57) (h2 : ¬ (48 ≤ chr u L (p + 1) ∧ chr u L (p + 1) ≤ 57)) : rnI u L p = chr u L p - 48 ∧ rnP u L p = p + 1 := by
  have e : dg u L p = true := decide_eq_true h
  have e2 : ¬ dg u L (p + 1) = true := by unfold dg; simpa using h2
  obtain ⟨a, b, c, d⟩ := dg_in e
  unfold rnI rnP rnV; rw [if_pos e, if_pos e, if_neg e2, if_neg e2]; exact ⟨by omega, rfl⟩
theorem rn2 {u : Nat → Nat} {L p : Nat} (h : 48 ≤ chr u L p ∧ chr u L p ≤ 57) (h2 : 48 ≤ chr u L (p + 1) ∧ chr u L (p + 1) ≤ 57) : rnI u L p = 10 * (chr u L p - 48) + chr u L (p + 1) - 48 ∧ rnP u L p = p + 2 := by
  have e : dg u L p = true := decide_eq_true h
  have e2 : dg u L (p + 1) = true := decide_eq_true h2
  obtain ⟨a, b, c, d⟩ := dg_in e
  obtain ⟨a2, b2, c2, d2⟩ := dg_in e2
  unfold rnI rnP rnV; rw [if_pos e, if_pos e, if_pos e2, if_pos e2]; exact ⟨by omega, rfl⟩
theorem rnI_V {u : Nat → Nat} {L p : Nat} (h : rnI u L p ≠ -4) : dg u L p = true ∧ rnI u L p = (rnV u L p : Int) := by
  unfold rnI at h ⊢
  by_cases q : dg u L p = true
  · rw [if_pos q]; exact ⟨q, rfl⟩
  · rw [if_neg q] at h; exact absurd rfl h
theorem rnI_4 {u : Nat → Nat} {L p : Nat} (h : rnI u L p = -4) : ¬ dg u L p = true := by
  intro q; unfold rnI at h; rw [if_pos q] at h; omega
theorem itm_w {u : Nat → Nat} {L p : Nat} {v : VS} {q : Nat × (Nat → Nat)} (hz : chr u L p = 119) (hq : rna u L 4 (p + 1) (fun _ => 0) 4 = some q) : itm u L p v = (aw (vsg v) (vk v) (q.2 0) (q.2 1) (q.2 2), q.1, vW v (q.2 0) (q.2 1) (q.2 2) (q.2 3)) := by
  unfold itm
  rw [hz, show prt 119 = 4 from rfl, hq]; rfl
theorem itm_b {u : Nat → Nat} {L p : Nat} {v : VS} {q : Nat × (Nat → Nat)} (hz : chr u L p = 98) (hq : rna u L 2 (p + 1) (fun _ => 0) 2 = some q) : itm u L p v = (al (q.2 0) (q.2 1), q.1, vB v (q.2 0) (q.2 1)) := by
  unfold itm
  rw [hz, show prt 98 = 2 from rfl, hq]; rfl
theorem itm_c {u : Nat → Nat} {L p : Nat} {v : VS} {q : Nat × (Nat → Nat)} (hz : chr u L p = 99) (hq : rna u L 2 (p + 1) (fun _ => 0) 2 = some q) : itm u L p v = (ac (vnc v) (q.2 0) (q.2 1), q.1, vC v (q.2 0) (q.2 1)) := by
  unfold itm
  rw [hz, show prt 99 = 2 from rfl, hq]; rfl
theorem itm_k {u : Nat → Nat} {L p : Nat} {v : VS} {q : Nat × (Nat → Nat)} (hz : chr u L p = 107) (hq : rna u L 1 (p + 1) (fun _ => 0) 1 = some q) : itm u L p v = (ab (vnb v) (q.2 0), q.1, vK v (q.2 0)) := by
  unfold itm
  rw [hz, show prt 107 = 1 from rfl, hq]; rfl
theorem itm_none {u : Nat → Nat} {L p n : Nat} {v : VS} (hn : prt (chr u L p) = n) (hq : rna u L n (p + 1) (fun _ => 0) n = none) : itm u L p v = (false, 0, v) := by
  unfold itm
  rw [hn, hq]
theorem itm_def {u : Nat → Nat} {L p : Nat} {v : VS} (h1 : chr u L p ≠ 119) (h2 : chr u L p ≠ 98) (h3 : chr u L p ≠ 99) (h4 : chr u L p ≠ 107) : itm u L p v = (false, 0, v) := by
  unfold itm
  rw [show prt (chr u L p) = 0 by unfold prt; rw [if_neg h1, if_neg (by omega), if_neg h4]]
  show (if chr u L p = 119 then _ else _) = _
  rw [if_neg h1, if_neg h2, if_neg h3, if_neg h4]
theorem VOK_W {v : VS} {x y w z : Nat} (h : VOK v) (hz : z < 100) : VOK (vW v x y w z) := by
  obtain ⟨a1, a2, a3, a4, a5, a6, a7, a8, a9, a10⟩ := h
  by_cases hc : aw (vsg v) (vk v) x y w = true
  · have hd := of_decide_eq_true hc
    refine ⟨fun j => ?_, fun j => ?_, a3, a4, a5, ?_, a7, a8, a9, a10⟩
    · show (if aw (vsg v) (vk v) x y w = true then upN (vsg v) (vk v) (x + 6 * y + 24 * w) else vsg v) j < 72
      rw [if_pos hc]; unfold upN; split
      · omega
      · exact a1 j
    · show (if aw (vsg v) (vk v) x y w = true then upN (vwo v) (vk v) z else vwo v) j < 100
      rw [if_pos hc]; unfold upN; split
      · exact hz
      · exact a2 j
    · show (if aw (vsg v) (vk v) x y w = true then vk v + 1 else vk v) ≤ 8
      rw [if_pos hc]; omega
  · refine ⟨fun j => ?_, fun j => ?_, a3, a4, a5, ?_, a7, a8, a9, a10⟩
    · show (if aw (vsg v) (vk v) x y w = true then upN (vsg v) (vk v) (x + 6 * y + 24 * w) else vsg v) j < 72
      rw [if_neg hc]; exact a1 j
    · show (if aw (vsg v) (vk v) x y w = true then upN (vwo v) (vk v) z else vwo v) j < 100
      rw [if_neg hc]; exact a2 j
    · show (if aw (vsg v) (vk v) x y w = true then vk v + 1 else vk v) ≤ 8
      rw [if_neg hc]; exact a6
theorem VOK_B {v : VS} {x y : Nat} (h : VOK v) : VOK (vB v x y) := by
  obtain ⟨a1, a2, a3, a4, a5, a6, a7, a8, a9, a10⟩ := h
  refine ⟨a1, a2, a3, a4, a5, a6, a7, a8, ?_, ?_⟩
  · show 1 ≤ (if al x y = true then x else vbi v) ∧ (if al x y = true then x else vbi v) ≤ 9
    split
    · rename_i hc; have := of_decide_eq_true hc; omega
    · exact a9
  · show 1 ≤ (if al x y = true then y else vmo v) ∧ (if al x y = true then y else vmo v) ≤ 9
    split
    · rename_i hc; have := of_decide_eq_true hc; omega
    · exact a10
theorem VOK_C {v : VS} {x y : Nat} (h : VOK v) : VOK (vC v x y) := by
  obtain ⟨a1, a2, a3, a4, a5, a6, a7, a8, a9, a10⟩ := h
  refine ⟨a1, a2, fun j => ?_, fun j => ?_, a5, a6, ?_, a8, a9, a10⟩
  · show (if ac (vnc v) x y = true then upN (vhu v) (vnc v) x else vhu v) j < 10
    split
    · rename_i hc; have := of_decide_eq_true hc; unfold upN; split
      · omega
      · exact a3 j
    · exact a3 j
  · show (if ac (vnc v) x y = true then upN (vmi v) (vnc v) y else vmi v) j ≤ 6
    split
    · rename_i hc; have := of_decide_eq_true hc; unfold upN; split
      · omega
      · exact a4 j
    · exact a4 j
  · show (if ac (vnc v) x y = true then vnc v + 1 else vnc v) ≤ 5
    split
    · rename_i hc; have := of_decide_eq_true hc; omega
    · exact a7
theorem VOK_K {v : VS} {x : Nat} (h : VOK v) : VOK (vK v x) := by
  obtain ⟨a1, a2, a3, a4, a5, a6, a7, a8, a9, a10⟩ := h
  refine ⟨a1, a2, a3, a4, fun j => ?_, a6, a7, ?_, a9, a10⟩
  · show (if ab (vnb v) x = true then upN (vkn v) (vnb v) x else vkn v) j < 64
    split
    · rename_i hc; have := of_decide_eq_true hc; unfold upN; split
      · omega
      · exact a5 j
    · exact a5 j
  · show (if ab (vnb v) x = true then vnb v + 1 else vnb v) ≤ 5
    split
    · rename_i hc; have := of_decide_eq_true hc; omega
    · exact a8
theorem VOK_itm {u : Nat → Nat} {L p : Nat} {v : VS} (h : VOK v) : VOK (itm u L p v).2.2 := by
  unfold itm
  cases hq : rna u L (prt (chr u L p)) (p + 1) (fun _ => 0) (prt (chr u L p)) with
  | none => exact h
  | some q =>
    obtain ⟨p1, nu⟩ := q
    have h1 := (rna_ok hq).1
    show VOK (if chr u L p = 119 then _ else _ : Bool × Nat × VS).2.2
    split
    · rename_i hz
      refine VOK_W h ?_
      rw [hz] at h1
      exact h1 3 (by decide)
    · split
      · exact VOK_B h
      · split
        · exact VOK_C h
        · split
          · exact VOK_K h
          · exact h
/-- an item that is so ends behind its beginning, within the text -/
theorem itm_p {u : Nat → Nat} {L p : Nat} {v : VS} (h : (itm u L p v).1 = true) : p < (itm u L p v).2.1 ∧ (itm u L p v).2.1 ≤ L := by
  unfold itm at h ⊢
  cases hq : rna u L (prt (chr u L p)) (p + 1) (fun _ => 0) (prt (chr u L p)) with
  | none => rw [hq] at h; cases h
  | some q =>
    obtain ⟨p1, nu⟩ := q
    rw [hq] at h
    have h1 := (rna_ok hq).2.2
    have key : ∀ {c : Int}, chr u L p = c → 0 < prt c → p < p1 ∧ p1 ≤ L := fun hc hp => by
      have := h1 (by rw [hc]; exact hp)
      omega
    simp only at h ⊢
    by_cases c1 : chr u L p = 119
    · rw [if_pos c1]; exact key c1 (by decide)
    · rw [if_neg c1] at h ⊢
      by_cases c2 : chr u L p = 98
      · rw [if_pos c2]; exact key c2 (by decide)
      · rw [if_neg c2] at h ⊢
        by_cases c3 : chr u L p = 99
        · rw [if_pos c3]; exact key c3 (by decide)
        · rw [if_neg c3] at h ⊢
          by_cases c4 : chr u L p = 107
          · rw [if_pos c4]; exact key c4 (by decide)
          · rw [if_neg c4] at h; cases h
theorem VOK_prs {u : Nat → Nat} {L : Nat} : ∀ {f p : Nat} {v : VS}, VOK v → VOK (prs u L f p v).2
  | 0, _, _, h => h
  | f + 1, p, v, h => by
    unfold prs
    split
    · split
      · exact VOK_prs (VOK_itm h)
      · exact VOK_itm h
    · exact h
theorem prs_go {u : Nat → Nat} {L f p : Nat} {v : VS} (h : p < L) (hi : (itm u L p v).1 = true) : prs u L (f + 1) p v = prs u L f (itm u L p v).2.1 (itm u L p v).2.2 := by
  rw [prs, if_pos h, if_pos hi]
theorem prs_no {u : Nat → Nat} {L f p : Nat} {v : VS} (h : p < L) (hi : ¬ (itm u L p v).1 = true) : prs u L (f + 1) p v = ((p : Int), (itm u L p v).2.2) := by
  rw [prs, if_pos h, if_neg hi]
theorem prs_end {u : Nat → Nat} {L f p : Nat} {v : VS} (h : f = 0 ∨ L ≤ p) : prs u L f p v = (-4, v) := by
  cases f with
  | zero => rfl
  | succ f => rw [prs, if_neg (by omega)]
theorem VOK_0 {sg wo hu mi kn : Nat → Nat} (h1 : ∀ j, sg j < 72) (h2 : ∀ j, wo j < 100) (h3 : ∀ j, hu j < 10) (h4 : ∀ j, mi j ≤ 6) (h5 : ∀ j, kn j < 64) : VOK (sg, wo, hu, mi, kn, 0, 0, 0, 2, 3) :=
  ⟨h1, h2, h3, h4, h5, Nat.zero_le _, Nat.zero_le _, Nat.zero_le _, (by decide : 1 ≤ 2 ∧ 2 ≤ 9), (by decide : 1 ≤ 3 ∧ 3 ≤ 9)⟩
