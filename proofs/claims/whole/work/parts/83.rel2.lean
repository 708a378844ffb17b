/-! ===== the larder's calls: what they do to the relation ===== -/
section LBK
variable {sg : Nat → Nat} {k : Nat} {ce : Nat → Nat} {w kd : Nat}
theorem lbk_lo (h : ce 40 < 8) {i p : Nat} (hi : i < ce 40) (hp : p < 5) : lbk sg k ce w kd (i * 5 + p) = ce (i * 5 + p) := by
  unfold lbk ladd
  rw [upN_n (by omega), upN_n (by omega), upN_n (by omega), upN_n (by omega), upN_n (by omega), upN_n (by omega), upN_n (by omega)]
theorem lbk_a0 (h : ce 40 < 8) : lbk sg k ce w kd (ce 40 * 5 + 0) = w := by
  unfold lbk ladd
  rw [upN_n (by omega), upN_n (by omega), upN_n (by omega), upN_n (by omega), upN_n (by omega), upN_s]
theorem lbk_a1 (h : ce 40 < 8) : lbk sg k ce w kd (ce 40 * 5 + 1) = kd := by
  unfold lbk ladd
  rw [upN_n (by omega), upN_n (by omega), upN_n (by omega), upN_n (by omega), upN_s]
theorem lbk_a2 (h : ce 40 < 8) : lbk sg k ce w kd (ce 40 * 5 + 2) = 0 := by
  unfold lbk ladd
  rw [upN_n (by omega), upN_n (by omega), upN_n (by omega), upN_s]
theorem lbk_a3 (h : ce 40 < 8) : lbk sg k ce w kd (ce 40 * 5 + 3) = 0 := by
  unfold lbk ladd
  rw [upN_n (by omega), upN_n (by omega), upN_s]
theorem lbk_a4 (h : ce 40 < 8) : lbk sg k ce w kd (ce 40 * 5 + 4) = bkd sg k w kd := by
  unfold lbk ladd
  rw [upN_n (by omega), upN_s]
theorem lbk_41 : lbk sg k ce w kd 41 = ce 41 + flk (bkd sg k w kd) kd := by
  unfold lbk; rw [upN_s]
theorem CG_bake (hg : CG sg k ce) (h8 : ce 40 < 8) (hk : k ≤ 8) (hsg : ∀ j, sg j < 72) (hw : w < k) (hkd : kd < 4) : CG sg k (lbk sg k ce w kd) := by
  obtain ⟨⟨-, hl⟩, hb⟩ := hg
  refine ⟨⟨by rw [lbk_40 h8]; omega, fun i hi => ?_⟩, fun i hi => ?_⟩
  · rw [lbk_40 h8] at hi
    by_cases q : i = ce 40
    · rw [q, lbk_a0 h8, lbk_a1 h8, lbk_a2 h8, lbk_a3 h8, lbk_a4 h8]
      exact ⟨by omega, hkd, by omega, by omega, hsg _⟩
    · rw [lbk_lo h8 (p := 0) (by omega) (by omega), lbk_lo h8 (p := 1) (by omega) (by omega), lbk_lo h8 (p := 2) (by omega) (by omega), lbk_lo h8 (p := 3) (by omega) (by omega), lbk_lo h8 (p := 4) (by omega) (by omega)]
      exact hl i (by omega)
  · rw [lbk_40 h8] at hi
    by_cases q : i = ce 40
    · rw [q, lbk_a0 h8, lbk_a1 h8, lbk_a4 h8]
      exact ⟨rfl, hw⟩
    · rw [lbk_lo h8 (p := 0) (by omega) (by omega), lbk_lo h8 (p := 1) (by omega) (by omega), lbk_lo h8 (p := 4) (by omega) (by omega)]
      exact hb i (by omega)
theorem Und_bake (h8 : ce 40 < 8) {lf : Nat → Nat} {ii : Nat} (hii : ii < 8) : Und sg k ce (lbk sg k ce w kd) (kE lf 0 ii) :=
  Or.inl ⟨rfl, hii, lbk_40 h8, fun i p hi hp => lbk_lo h8 hi (by omega), by rw [lbk_a0 h8, lbk_a1 h8, lbk_41]⟩
theorem mbk_n {F : Nat → Nat} {n j : Nat} (h : j < 4 * n ∨ 4 * n + 4 ≤ j) : mbk F n w kd j = F j := by
  unfold mbk
  rw [upN_n (by omega), upN_n (by omega), upN_n (by omega), upN_n (by omega)]
theorem ME_bake {lv : Nat} {lf : Nat → Nat} {fo : Int} (h8 : ce 40 < 8) (hm : ME ce lv lf fo) : ME (lbk sg k ce w kd) (lv + 1) (mbk lf lv w kd) (fo + ((flk (bkd sg k w kd) kd : Nat) : Int)) := by
  obtain ⟨a, b, d⟩ := hm
  subst a
  refine ⟨(lbk_40 h8).symm, by rw [lbk_41, b]; omega, fun i p hi hp => ?_⟩
  rw [lbk_40 h8] at hi
  by_cases q : i = ce 40
  · subst q
    have c4 : p = 0 ∨ p = 1 ∨ p = 2 ∨ p = 3 := by omega
    unfold mbk
    rcases c4 with rfl | rfl | rfl | rfl
    · rw [lbk_a0 h8, upN_n (by omega), upN_n (by omega), upN_n (by omega)]; exact upN_s
    · rw [lbk_a1 h8, upN_n (by omega), upN_n (by omega), upN_s]
    · rw [lbk_a2 h8, upN_n (by omega), upN_s]
    · rw [lbk_a3 h8, upN_s]
  · rw [lbk_lo h8 (by omega) (by omega), mbk_n (by omega)]
    exact d i p (by omega) hp
theorem lday_p {n i p : Nat} (hi : i < n) (hp : p < 5) : lday ce n (i * 5 + p) = ce (i * 5 + p) + if p = 2 then 1 else 0 := by
  unfold lday
  by_cases q : p = 2
  · rw [if_pos (by omega), if_pos q]
  · rw [if_neg (by omega), if_neg q]; rfl
theorem lday_41 {n : Nat} : lday ce n 41 = ce 41 := if_neg (by omega)
theorem CG_day (hg : CG sg k ce) (hb2 : ∀ i, i < ce 40 → ce (i * 5 + 2) + 1 < 1000000) : CG sg k (lday ce (ce 40)) := by
  obtain ⟨⟨h8, hl⟩, hb⟩ := hg
  refine ⟨⟨by rw [lday_40]; exact h8, fun i hi => ?_⟩, fun i hi => ?_⟩
  · rw [lday_40] at hi
    rw [lday_p (p := 0) hi (by omega), lday_p (p := 1) hi (by omega), lday_p (p := 2) hi (by omega), lday_p (p := 3) hi (by omega), lday_p (p := 4) hi (by omega)]
    obtain ⟨a0, a1, a2, a3, a4⟩ := hl i hi
    exact ⟨a0, a1, hb2 i hi, a3, a4⟩
  · rw [lday_40] at hi
    rw [lday_p (p := 0) hi (by omega), lday_p (p := 1) hi (by omega), lday_p (p := 4) hi (by omega)]
    exact hb i hi
theorem Und_day {lf : Nat → Nat} {ii : Nat} (hii : ii < 8) : Und sg k ce (lday ce (ce 40)) (kE lf 1 ii) :=
  Or.inr (Or.inl ⟨rfl, hii, lday_40, lday_41, fun i p hi hp => lday_p hi (by omega)⟩)
theorem mday_p {F : Nat → Nat} {n i p : Nat} (hi : i < n) (hp : p < 4) : mday F n (4 * i + p) = F (4 * i + p) + if p = 2 then 1 else 0 := by
  unfold mday
  by_cases q : p = 2
  · rw [if_pos (by omega), if_pos q]
  · rw [if_neg (by omega), if_neg q]; rfl
theorem ME_day {lv : Nat} {lf : Nat → Nat} {fo : Int} (hm : ME ce lv lf fo) : ME (lday ce (ce 40)) lv (mday lf lv) fo := by
  obtain ⟨a, b, d⟩ := hm
  subst a
  refine ⟨lday_40.symm, by rw [lday_41]; exact b, fun i p hi hp => ?_⟩
  rw [lday_40] at hi
  rw [mday_p hi hp, lday_p hi (by omega), d i p hi hp]
theorem lbit_p {x i p : Nat} (hp : p < 5) : lbit ce x (i * 5 + p) = ce (i * 5 + p) + if i = x ∧ p = 3 then 1 else 0 := by
  unfold lbit
  by_cases q : i = x ∧ p = 3
  · rw [if_pos q, q.1, q.2, upN_s]
  · rw [if_neg q, upN_n (by omega)]; rfl
theorem lbit_n {x i p : Nat} (hp : p < 5) (h3 : p ≠ 3) : lbit ce x (i * 5 + p) = ce (i * 5 + p) := by unfold lbit; rw [upN_n (by omega)]
theorem lbit_40 {x : Nat} (hx : x < 7 + 1) : lbit ce x 40 = ce 40 := by unfold lbit; rw [upN_n (by omega)]
theorem lbit_41 {x : Nat} (hx : x < 7 + 1) : lbit ce x 41 = ce 41 := by unfold lbit; rw [upN_n (by omega)]
theorem CG_bite {x : Nat} (hg : CG sg k ce) (hx : x < ce 40) (h9 : ce (x * 5 + 3) < 9) : CG sg k (lbit ce x) := by
  obtain ⟨⟨h8, hl⟩, hb⟩ := hg
  have e40 : lbit ce x 40 = ce 40 := lbit_40 (by omega)
  refine ⟨⟨by rw [e40]; exact h8, fun i hi => ?_⟩, fun i hi => ?_⟩
  · rw [e40] at hi
    rw [lbit_n (p := 0) (by omega) (by omega), lbit_n (p := 1) (by omega) (by omega), lbit_n (p := 2) (by omega) (by omega), lbit_p (p := 3) (by omega), lbit_n (p := 4) (by omega) (by omega)]
    obtain ⟨a0, a1, a2, a3, a4⟩ := hl i hi
    refine ⟨a0, a1, a2, ?_, a4⟩
    by_cases q : i = x
    · rw [if_pos ⟨q, rfl⟩, q]; omega
    · rw [if_neg (fun z => q z.1)]; exact a3
  · rw [e40] at hi
    rw [lbit_n (p := 0) (by omega) (by omega), lbit_n (p := 1) (by omega) (by omega), lbit_n (p := 4) (by omega) (by omega)]
    exact hb i hi
theorem Und_bite {lf : Nat → Nat} {x : Nat} (h8 : ce 40 ≤ 8) (hx : x < ce 40) : Und sg k ce (lbit ce x) (kE lf 2 x) :=
  Or.inr (Or.inr (Or.inl ⟨rfl, hx, lbit_40 (by omega), lbit_41 (by omega), fun i p hi hp => lbit_p (by omega)⟩))
theorem ME_bite {lv x : Nat} {lf : Nat → Nat} {fo : Int} (h8 : ce 40 ≤ 8) (hx : x < ce 40) (hm : ME ce lv lf fo) : ME (lbit ce x) lv (upN lf (4 * x + 3) (lf (4 * x + 3) + 1)) fo := by
  obtain ⟨a, b, d⟩ := hm
  have e40 : lbit ce x 40 = ce 40 := lbit_40 (by omega)
  refine ⟨by rw [e40]; exact a, by rw [lbit_41 (by omega)]; exact b, fun i p hi hp => ?_⟩
  rw [e40] at hi
  rw [lbit_p (by omega)]
  by_cases q : i = x ∧ p = 3
  · rw [if_pos q, q.1, q.2, upN_s, d x 3 hx (by omega)]
  · rw [if_neg q, upN_n (by omega), d i p hi hp]; rfl
theorem lrem_40 {x : Nat} : lrem ce x 40 = ce 40 - 1 := by unfold lrem; rw [upN_s]
theorem lrem_41 {x : Nat} (h8 : ce 40 ≤ 8) : lrem ce x 41 = ce 41 := by unfold lrem lmv; rw [upN_n (by omega), if_neg (by omega)]
theorem lrem_p {x i p : Nat} (h8 : ce 40 ≤ 8) (hi : i < ce 40 - 1) (hp : p < 5) : lrem ce x (i * 5 + p) = ce ((if i < x then i else i + 1) * 5 + p) := by
  unfold lrem lmv
  rw [upN_n (by omega)]
  by_cases q : i < x
  · rw [if_neg (by omega), if_pos q]
  · rw [if_pos (by omega), if_neg q]; congr 1; omega
theorem CG_take {x : Nat} (hg : CG sg k ce) (hx : x < ce 40) : CG sg k (lrem ce x) := by
  obtain ⟨⟨h8, hl⟩, hb⟩ := hg
  refine ⟨⟨by rw [lrem_40]; omega, fun i hi => ?_⟩, fun i hi => ?_⟩
  · rw [lrem_40] at hi
    rw [lrem_p (p := 0) h8 hi (by omega), lrem_p (p := 1) h8 hi (by omega), lrem_p (p := 2) h8 hi (by omega), lrem_p (p := 3) h8 hi (by omega), lrem_p (p := 4) h8 hi (by omega)]
    exact hl _ (by split <;> omega)
  · rw [lrem_40] at hi
    rw [lrem_p (p := 0) h8 hi (by omega), lrem_p (p := 1) h8 hi (by omega), lrem_p (p := 4) h8 hi (by omega)]
    exact hb _ (by split <;> omega)
theorem Und_take {lf : Nat → Nat} {x lv : Nat} {fo : Int} (h8 : ce 40 ≤ 8) (hx : x < ce 40) (hm : ME ce lv lf fo) : Und sg k ce (lrem ce x) (kE lf 3 x) :=
  Or.inr (Or.inr (Or.inr ⟨rfl, hx, by rw [lrem_40]; omega, lrem_41 h8, fun i p hi hp => lrem_p h8 (by rw [lrem_40] at hi; exact hi) (by omega), fun p hp => by
    show (if 2 + p = 0 then 3 else if 2 + p = 1 then x else lf (4 * x + (2 + p - 2))) = ce (x * 5 + p)
    rw [if_neg (by omega), if_neg (by omega), Nat.add_sub_cancel_left]
    exact hm.2.2 x p hx hp⟩))
theorem ME_take {lv x : Nat} {lf : Nat → Nat} {fo : Int} (h8 : ce 40 ≤ 8) (hx : x < ce 40) (hm : ME ce lv lf fo) : ME (lrem ce x) (lv - 1) (mmv lf (4 * x) (4 * (lv - 1))) fo := by
  obtain ⟨a, b, d⟩ := hm
  subst a
  refine ⟨lrem_40.symm, by rw [lrem_41 h8]; exact b, fun i p hi hp => ?_⟩
  rw [lrem_40] at hi
  rw [lrem_p h8 hi (by omega)]
  unfold mmv
  by_cases q : i < x
  · rw [if_neg (by omega), if_pos q]; exact d i p (by omega) hp
  · rw [if_pos (by omega), if_neg q, show 4 * i + p + 4 = 4 * (i + 1) + p by omega]; exact d (i + 1) p (by omega) hp
end LBK
/-! ===== undone ===== -/
theorem ME_u0 {sg X Y E lf : Nat → Nat} {k lv : Nat} {fo : Int} (hm : ME Y lv lf fo) (hx : CG sg k X) (hy : CG sg k Y) (h40 : Y 40 = X 40 + 1) (hp : ∀ i p, i < X 40 → p < 4 → Y (i * 5 + p) = X (i * 5 + p)) (h41 : Y 41 = X 41 + flk (bkd sg k (Y (X 40 * 5 + 0)) (Y (X 40 * 5 + 1))) (Y (X 40 * 5 + 1))) :
    ((1 ≤ lv ∧ lv ≤ 8) ∧ lf (4 * (lv - 1)) < k ∧ lf (4 * (lv - 1) + 1) < 4) ∧ ME X (lv - 1) lf (fo - ((flk (bkd sg k (lf (4 * (lv - 1))) (lf (4 * (lv - 1) + 1))) (lf (4 * (lv - 1) + 1)) : Nat) : Int)) := by
  obtain ⟨a, b, d⟩ := hm
  have hlv : lv - 1 = X 40 := by omega
  have e0 : lf (4 * X 40) = Y (X 40 * 5 + 0) := d (X 40) 0 (by omega) (by omega)
  have e1 : lf (4 * X 40 + 1) = Y (X 40 * 5 + 1) := d (X 40) 1 (by omega) (by omega)
  have hl := hy.1.2 (X 40) (by omega)
  have hb := hy.2 (X 40) (by omega)
  have h8 := hy.1.1
  rw [hlv, e0, e1]
  refine ⟨⟨⟨by omega, by omega⟩, hb.2, hl.2.1⟩, rfl, by rw [b, h41]; omega, fun i p hi hpp => ?_⟩
  rw [d i p (by omega) hpp, hp i p hi hpp]
theorem mdad_p {F : Nat → Nat} {n i p : Nat} (hi : i < n) (hp : p < 4) : mdad F n (4 * i + p) = F (4 * i + p) - if p = 2 then 1 else 0 := by
  unfold mdad
  by_cases q : p = 2
  · rw [if_pos (by omega), if_pos q]
  · rw [if_neg (by omega), if_neg q]; rfl
theorem ME_u1 {X Y lf : Nat → Nat} {lv : Nat} {fo : Int} (hm : ME Y lv lf fo) (h40 : Y 40 = X 40) (h41 : Y 41 = X 41) (hp : ∀ i p, i < X 40 → p < 4 → Y (i * 5 + p) = X (i * 5 + p) + if p = 2 then 1 else 0) :
    (∀ i, i < lv → 1 ≤ lf (4 * i + 2)) ∧ ME X lv (mdad lf lv) fo := by
  obtain ⟨a, b, d⟩ := hm
  refine ⟨fun i hi => ?_, by omega, by rw [b, h41], fun i p hi hpp => ?_⟩
  · rw [d i 2 (by omega) (by omega), hp i 2 (by omega) (by omega), if_pos rfl]; omega
  · rw [mdad_p (by omega) hpp, d i p (by omega) hpp, hp i p hi hpp]; omega
theorem ME_u2 {X Y lf : Nat → Nat} {lv x : Nat} {fo : Int} (hm : ME Y lv lf fo) (hx : x < X 40) (h40 : Y 40 = X 40) (h41 : Y 41 = X 41) (hp : ∀ i p, i < X 40 → p < 4 → Y (i * 5 + p) = X (i * 5 + p) + if i = x ∧ p = 3 then 1 else 0) :
    1 ≤ lf (4 * x + 3) ∧ ME X lv (upN lf (4 * x + 3) (lf (4 * x + 3) - 1)) fo := by
  obtain ⟨a, b, d⟩ := hm
  have e3 : lf (4 * x + 3) = X (x * 5 + 3) + 1 := by rw [d x 3 (by omega) (by omega), hp x 3 hx (by omega), if_pos ⟨rfl, rfl⟩]
  refine ⟨by omega, by omega, by rw [b, h41], fun i p hi hpp => ?_⟩
  by_cases q : i = x ∧ p = 3
  · rw [q.1, q.2, upN_s]; omega
  · rw [upN_n (by omega), d i p (by omega) hpp, hp i p hi hpp, if_neg q]; rfl
theorem ME_u3 {X Y lf E : Nat → Nat} {lv x o : Nat} {fo : Int} (hm : ME Y lv lf fo) (h8 : X 40 ≤ 8) (hx : x < X 40) (h40 : X 40 = Y 40 + 1) (h41 : Y 41 = X 41) (hp : ∀ i p, i < Y 40 → p < 4 → Y (i * 5 + p) = X ((if i < x then i else i + 1) * 5 + p)) (he : ∀ p, p < 4 → E (o + p) = X (x * 5 + p)) :
    (x ≤ lv ∧ lv < 8) ∧ ME X (lv + 1) (mip (mdn lf (4 * x) (4 * lv)) E (4 * x) o 4) fo := by
  obtain ⟨a, b, d⟩ := hm
  refine ⟨⟨by omega, by omega⟩, by omega, by rw [b, h41], fun i p hi hpp => ?_⟩
  unfold mip mdn
  by_cases q : i = x
  · rw [if_pos (by omega), show o + (4 * i + p - 4 * x) = o + p by omega, q]; exact he p hpp
  · rw [if_neg (by omega)]
    by_cases q2 : i < x
    · rw [if_neg (by omega), d i p (by omega) hpp, hp i p (by omega) hpp, if_pos q2]
    · rw [if_pos (by omega), show 4 * i + p - 4 = 4 * (i - 1) + p by omega, d (i - 1) p (by omega) hpp, hp (i - 1) p (by omega) hpp, if_neg (by omega), show i - 1 + 1 = i by omega]
