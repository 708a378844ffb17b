/-! ===== the law's relation: class and model ===== -/
def CG (sg : Nat → Nat) (k : Nat) (ce : Nat → Nat) : Prop := LOK ce ∧ ∀ i, i < ce 40 → ce (i * 5 + 4) = bkd sg k (ce (i * 5 + 0)) (ce (i * 5 + 1)) ∧ ce (i * 5 + 0) < k
def BB (n : Nat) (F : Nat → Nat) : Prop := ∀ j, F j ≤ 100 * (n + 1)
def ME (ce : Nat → Nat) (lv : Nat) (lf : Nat → Nat) (fo : Int) : Prop := lv = ce 40 ∧ fo = ((ce 41 : Nat) : Int) ∧ ∀ i p, i < ce 40 → p < 4 → lf (4 * i + p) = ce (i * 5 + p)
theorem CG_c {sg : Nat → Nat} {k : Nat} {X Y : Nat → Nat} (h : ∀ c, c < 42 → X c = Y c) (hg : CG sg k X) : CG sg k Y := by
  obtain ⟨⟨h8, hl⟩, hb⟩ := hg
  have e40 := h 40 (by omega)
  refine ⟨⟨by omega, fun i hi => ?_⟩, fun i hi => ?_⟩
  · have := hl i (by omega)
    rw [h (i * 5 + 0) (by omega), h (i * 5 + 1) (by omega), h (i * 5 + 2) (by omega), h (i * 5 + 3) (by omega), h (i * 5 + 4) (by omega)] at this
    exact this
  · have := hb i (by omega)
    rw [h (i * 5 + 0) (by omega), h (i * 5 + 1) (by omega), h (i * 5 + 4) (by omega)] at this
    exact this
theorem ME_c {X Y : Nat → Nat} {lv : Nat} {lf : Nat → Nat} {fo : Int} (h : ∀ c, c < 42 → X c = Y c) (h8 : X 40 ≤ 8) (hm : ME X lv lf fo) : ME Y lv lf fo := by
  obtain ⟨a, b, d⟩ := hm
  have e40 := h 40 (by omega)
  refine ⟨a.trans e40, by rw [b, h 41 (by omega)], fun i p hi hp => ?_⟩
  rw [d i p (by omega) hp, h (i * 5 + p) (by omega)]
/-- how a thing done is undone -/
def Und (sg : Nat → Nat) (k : Nat) (X Y E : Nat → Nat) : Prop :=
  (E 0 = 0 ∧ E 1 < 8 ∧ Y 40 = X 40 + 1 ∧ (∀ i p, i < X 40 → p < 4 → Y (i * 5 + p) = X (i * 5 + p)) ∧ Y 41 = X 41 + flk (bkd sg k (Y (X 40 * 5 + 0)) (Y (X 40 * 5 + 1))) (Y (X 40 * 5 + 1))) ∨
  (E 0 = 1 ∧ E 1 < 8 ∧ Y 40 = X 40 ∧ Y 41 = X 41 ∧ ∀ i p, i < X 40 → p < 4 → Y (i * 5 + p) = X (i * 5 + p) + if p = 2 then 1 else 0) ∨
  (E 0 = 2 ∧ E 1 < X 40 ∧ Y 40 = X 40 ∧ Y 41 = X 41 ∧ ∀ i p, i < X 40 → p < 4 → Y (i * 5 + p) = X (i * 5 + p) + if i = E 1 ∧ p = 3 then 1 else 0) ∨
  (E 0 = 3 ∧ E 1 < X 40 ∧ X 40 = Y 40 + 1 ∧ Y 41 = X 41 ∧ (∀ i p, i < Y 40 → p < 4 → Y (i * 5 + p) = X ((if i < E 1 then i else i + 1) * 5 + p)) ∧ ∀ p, p < 4 → E (2 + p) = X (E 1 * 5 + p))
theorem Und_X {sg : Nat → Nat} {k : Nat} {X X' Y E : Nat → Nat} (h : ∀ c, c < 42 → X c = X' c) (h8 : X 40 ≤ 8) (hu : Und sg k X Y E) : Und sg k X' Y E := by
  have e40 := h 40 (by omega)
  have e41 := h 41 (by omega)
  rcases hu with ⟨a0, a1, a2, a3, a4⟩ | ⟨a0, a1, a2, a3, a4⟩ | ⟨a0, a1, a2, a3, a4⟩ | ⟨a0, a1, a2, a3, a4, a5⟩
  · refine Or.inl ⟨a0, a1, by omega, fun i p hi hp => ?_, ?_⟩
    · rw [a3 i p (by omega) hp, h (i * 5 + p) (by omega)]
    · rw [← e40, ← e41]; exact a4
  · refine Or.inr (Or.inl ⟨a0, a1, by omega, by omega, fun i p hi hp => ?_⟩)
    rw [a4 i p (by omega) hp, h (i * 5 + p) (by omega)]
  · refine Or.inr (Or.inr (Or.inl ⟨a0, by omega, by omega, by omega, fun i p hi hp => ?_⟩))
    rw [a4 i p (by omega) hp, h (i * 5 + p) (by omega)]
  · refine Or.inr (Or.inr (Or.inr ⟨a0, by omega, by omega, by omega, fun i p hi hp => ?_, fun p hp => ?_⟩))
    · rw [a4 i p hi hp]
      have hb : (if i < E 1 then i else i + 1) ≤ 7 := by split <;> omega
      generalize (if i < E 1 then i else i + 1) = x at hb
      exact h (x * 5 + p) (by omega)
    · rw [a5 p hp, h (E 1 * 5 + p) (by omega)]
theorem Und_E {sg : Nat → Nat} {k : Nat} {X Y E E' : Nat → Nat} (h : ∀ e, e < 6 → E' e = E e) (hu : Und sg k X Y E) : Und sg k X Y E' := by
  have e0 := h 0 (by omega)
  have e1 := h 1 (by omega)
  unfold Und
  rw [e0, e1]
  rcases hu with a | a | a | ⟨a0, a1, a2, a3, a4, a5⟩
  · exact Or.inl a
  · exact Or.inr (Or.inl a)
  · exact Or.inr (Or.inr (Or.inl a))
  · exact Or.inr (Or.inr (Or.inr ⟨a0, a1, a2, a3, a4, fun p hp => (h (2 + p) (by omega)).trans (a5 p hp)⟩))
/-- the things done, with the larders as they were -/
def UC (sg : Nat → Nat) (k uz : Nat) (ur ce di : Nat → Nat) (Xs : Nat → Nat → Nat) : Prop := (∀ c, c < 42 → ce c = Xs uz c) ∧ (∀ j c, j < uz → c < 42 → ur (j * 42 + c) = Xs j c) ∧ (∀ j, j ≤ uz → CG sg k (Xs j)) ∧ ∀ j, j < uz → Und sg k (Xs j) (Xs (j + 1)) (fun e => di (6 * j + e))
theorem UC_G {sg : Nat → Nat} {k uz : Nat} {ur ce di : Nat → Nat} {Xs : Nat → Nat → Nat} (h : UC sg k uz ur ce di Xs) : CG sg k ce := CG_c (fun c hc => (h.1 c hc).symm) (h.2.2.1 uz (Nat.le_refl _))
def kE (lf : Nat → Nat) (wh ii : Nat) : Nat → Nat := fun e => if e = 0 then wh else if e = 1 then ii else lf (4 * ii + (e - 2))
theorem kset_E {F G : Nat → Nat} {dn wh ii e : Nat} (he : e < 6) : kset F G dn wh ii (6 * (ssz 8 dn - 1) + e) = kE G wh ii e := by
  unfold kset kp kE
  generalize ssz 8 dn - 1 = d0
  by_cases q0 : e = 0
  · rw [if_pos (by omega), if_pos q0]
  · rw [if_neg (by omega), if_neg q0]
    by_cases q1 : e = 1
    · rw [if_pos (by omega), if_pos q1]
    · rw [if_neg (by omega), if_neg q1, if_pos (by omega)]
      congr 1; omega
theorem kset_lo {F G : Nat → Nat} {dn wh ii j e : Nat} (he : e < 6) (hd : dn < 8) (hj : j < dn) : kset F G dn wh ii (6 * j + e) = F (6 * j + e) := by
  unfold kset kp
  have hs : ssz 8 dn - 1 = dn := by unfold ssz; rw [if_neg (by omega)]; omega
  rw [hs, if_neg (by omega), if_neg (by omega), if_neg (by omega)]
  unfold kb; rw [if_neg (by omega)]
theorem kset_sh {F G : Nat → Nat} {wh ii j e : Nat} (he : e < 6) (hj : j < 7) : kset F G 8 wh ii (6 * j + e) = F (6 * (j + 1) + e) := by
  unfold kset kp
  have hs : ssz 8 8 - 1 = 7 := by unfold ssz; rw [if_pos rfl]
  rw [hs, if_neg (by omega), if_neg (by omega), if_neg (by omega)]
  unfold kb; rw [if_pos rfl]
  unfold shf; rw [if_pos (by omega)]
  congr 1; omega
theorem UC_push {sg : Nat → Nat} {k uz wh ii : Nat} {ur ce di ce' lf : Nat → Nat} {Xs : Nat → Nat → Nat} (h : UC sg k uz ur ce di Xs) (hz : uz ≤ 8) (hg : CG sg k ce') (hu : Und sg k ce ce' (kE lf wh ii)) : ∃ Xs', UC sg k (ssz 8 uz) (srow ur ce 336 8 uz) ce' (kset di lf uz wh ii) Xs' := by
  obtain ⟨h1, h2, h3, h4⟩ := h
  have hc := CG_c (fun c hc => (h1 c hc).symm) (h3 uz (Nat.le_refl _))
  have hu' : Und sg k (Xs uz) ce' (kE lf wh ii) := Und_X h1 hc.1.1 hu
  by_cases q : uz = 8
  · subst q
    have hs : ssz 8 8 = 8 := if_pos rfl
    have hr : srow ur ce 336 8 8 = va_cpy ce (va_cpy ur ur 42 0 (336 - 42)) 0 ((8 - 1) * 42) 42 := if_pos rfl
    rw [hs, hr]
    refine ⟨fun j => if j < 8 then Xs (j + 1) else ce', fun c _ => ?_, fun j c hj hcc => ?_, fun j hj => ?_, fun j hj => ?_⟩
    · dsimp only; rw [if_neg (by omega)]
    · dsimp only
      rw [if_pos hj]
      unfold va_cpy
      by_cases q7 : j = 7
      · subst q7
        rw [if_pos (by omega), show 0 + (7 * 42 + c - (8 - 1) * 42) = c by omega]
        exact h1 c hcc
      · rw [if_neg (by omega), if_pos (by omega), show 42 + (j * 42 + c - 0) = (j + 1) * 42 + c by omega]
        exact h2 (j + 1) c (by omega) hcc
    · dsimp only
      split
      · exact h3 _ (by omega)
      · exact hg
    · dsimp only
      rw [if_pos hj]
      by_cases q7 : j = 7
      · subst q7
        rw [if_neg (by omega)]
        exact Und_E (fun e he => by rw [show (7 : Nat) = ssz 8 8 - 1 from rfl]; exact kset_E he) hu'
      · rw [if_pos (by omega)]
        exact Und_E (fun e he => kset_sh he (by omega)) (h4 (j + 1) (by omega))
  · have hs : ssz 8 uz = uz + 1 := if_neg q
    have hr : srow ur ce 336 8 uz = va_cpy ce ur 0 (uz * 42) 42 := if_neg q
    rw [hs, hr]
    refine ⟨fun j => if j ≤ uz then Xs j else ce', fun c _ => ?_, fun j c hj hcc => ?_, fun j hj => ?_, fun j hj => ?_⟩
    · dsimp only; rw [if_neg (by omega)]
    · dsimp only
      rw [if_pos (by omega)]
      unfold va_cpy
      by_cases q7 : j = uz
      · subst q7
        rw [if_pos (by omega), show 0 + (j * 42 + c - j * 42) = c by omega]
        exact h1 c hcc
      · rw [if_neg (by omega)]
        exact h2 j c (by omega) hcc
    · dsimp only
      split
      · exact h3 _ (by omega)
      · exact hg
    · dsimp only
      rw [if_pos (by omega)]
      by_cases q7 : j = uz
      · subst q7
        rw [if_neg (by omega)]
        exact Und_E (fun e he => by
          have := kset_E (F := di) (G := lf) (dn := j) (wh := wh) (ii := ii) he
          rw [hs] at this
          exact this) hu'
      · rw [if_pos (by omega)]
        exact Und_E (fun e he => kset_lo he (by omega) (by omega)) (h4 j (by omega))
theorem UC_pop {sg : Nat → Nat} {k uz : Nat} {ur ce di : Nat → Nat} {Xs : Nat → Nat → Nat} (h : UC sg k uz ur ce di Xs) (hz : 1 ≤ uz) : UC sg k (uz - 1) ur (va_cpy ur ce ((uz - 1) * 42) 0 42) di Xs := by
  obtain ⟨h1, h2, h3, h4⟩ := h
  refine ⟨fun c hc => ?_, fun j c hj hc => h2 j c (by omega) hc, fun j hj => h3 j (by omega), fun j hj => h4 j (by omega)⟩
  unfold va_cpy
  rw [if_pos (by omega), show (uz - 1) * 42 + (c - 0) = (uz - 1) * 42 + c by omega]
  exact h2 (uz - 1) c (by omega) hc
theorem UC_0 {sg : Nat → Nat} {k : Nat} {ur ce di : Nat → Nat} (h : CG sg k ce) : ∃ Xs, UC sg k 0 ur ce di Xs := ⟨fun _ => ce, fun _ _ => rfl, fun j c hj => absurd hj (Nat.not_lt_zero _), fun _ _ => h, fun j hj => absurd hj (Nat.not_lt_zero _)⟩
/-- larders kept -/
def KC (sg : Nat → Nat) (k kz : Nat) (kr mlv mlf : Nat → Nat) (mfl : Nat → Int) : Prop := ∀ j, j < kz → CG sg k (fun c => kr (j * 42 + c)) ∧ ME (fun c => kr (j * 42 + c)) (mlv (j + 1)) (fun x => mlf (32 * (j + 1) + x)) (mfl (j + 1))
theorem KC_st {sg : Nat → Nat} {k kz : Nat} {kr mlv mlf mlv' mlf' : Nat → Nat} {mfl mfl' : Nat → Int} (h : KC sg k kz kr mlv mlf mfl) (h1 : ∀ j, mlv' (j + 1) = mlv (j + 1)) (h2 : ∀ j, 32 ≤ j → mlf' j = mlf j) (h3 : ∀ j, mfl' (j + 1) = mfl (j + 1)) : KC sg k kz kr mlv' mlf' mfl' := by
  intro j hj
  obtain ⟨a, b1, b2, b3⟩ := h j hj
  exact ⟨a, (h1 j).trans b1, (h3 j).trans b2, fun i p hi hp => (h2 _ (by omega)).trans (b3 i p hi hp)⟩
theorem KC_keep {sg : Nat → Nat} {k kz : Nat} {kr ce mlv mlf : Nat → Nat} {mfl : Nat → Int} (h : KC sg k kz kr mlv mlf mfl) (hg : CG sg k ce) (hm : ME ce (mlv 0) mlf (mfl 0)) (hz : kz < 2) : KC sg k (kz + 1) (va_cpy ce kr 0 (kz * 42) 42) (upN mlv (kz + 1) (mlv 0)) (mip mlf mlf (32 * (kz + 1)) (32 * 0) 32) (upZ mfl (kz + 1) (mfl 0)) := by
  intro j hj
  by_cases q : j = kz
  · subst q
    have hag : ∀ c, c < 42 → ce c = va_cpy ce kr 0 (j * 42) 42 (j * 42 + c) := by
      intro c hc
      unfold va_cpy
      rw [if_pos (by omega), show 0 + (j * 42 + c - j * 42) = c by omega]
    refine ⟨CG_c hag hg, ME_c hag hg.1.1 ?_⟩
    obtain ⟨a, b, d⟩ := hm
    refine ⟨by rw [upN_s]; exact a, by rw [upZ_s]; exact b, fun i p hi hp => ?_⟩
    have h8 := hg.1.1
    dsimp only
    unfold mip
    rw [if_pos (by omega), show 32 * 0 + (32 * (j + 1) + (4 * i + p) - 32 * (j + 1)) = 4 * i + p by omega]
    exact d i p hi hp
  · obtain ⟨a, b⟩ := h j (by omega)
    have hag : ∀ c, c < 42 → kr (j * 42 + c) = va_cpy ce kr 0 (kz * 42) 42 (j * 42 + c) := by
      intro c hc
      unfold va_cpy
      rw [if_neg (by omega)]
    refine ⟨CG_c (X := fun c => kr (j * 42 + c)) hag a, ME_c (X := fun c => kr (j * 42 + c)) hag a.1.1 ?_⟩
    obtain ⟨b1, b2, b3⟩ := b
    refine ⟨by rw [upN_n (by omega)]; exact b1, by rw [upZ_n (by omega)]; exact b2, fun i p hi hp => ?_⟩
    have h8 : kr (j * 42 + 40) ≤ 8 := a.1.1
    have hi' : i < kr (j * 42 + 40) := hi
    dsimp only
    unfold mip
    rw [if_neg (by omega)]
    exact b3 i p hi hp
theorem KC_back {sg : Nat → Nat} {k kz : Nat} {kr ce mlv mlf : Nat → Nat} {mfl : Nat → Int} (h : KC sg k kz kr mlv mlf mfl) (hz : 1 ≤ kz ∧ kz ≤ 2) :
    CG sg k (va_cpy kr ce ((kz - 1) * 42) 0 42) ∧ ME (va_cpy kr ce ((kz - 1) * 42) 0 42) (upN mlv 0 (mlv kz) 0) (mip mlf mlf (32 * 0) (32 * kz) 32) (upZ mfl 0 (mfl kz) 0) ∧ KC sg k (kz - 1) kr (upN mlv 0 (mlv kz)) (mip mlf mlf (32 * 0) (32 * kz) 32) (upZ mfl 0 (mfl kz)) := by
  obtain ⟨a, b⟩ := h (kz - 1) (by omega)
  have hag : ∀ c, c < 42 → kr ((kz - 1) * 42 + c) = va_cpy kr ce ((kz - 1) * 42) 0 42 c := by
    intro c hc
    unfold va_cpy
    rw [if_pos (by omega), show (kz - 1) * 42 + (c - 0) = (kz - 1) * 42 + c by omega]
  refine ⟨CG_c (X := fun c => kr ((kz - 1) * 42 + c)) hag a, ME_c (X := fun c => kr ((kz - 1) * 42 + c)) hag a.1.1 ?_, ?_⟩
  · obtain ⟨b1, b2, b3⟩ := b
    rw [show kz - 1 + 1 = kz by omega] at b1 b2 b3
    refine ⟨by rw [upN_s]; exact b1, by rw [upZ_s]; exact b2, fun i p hi hp => ?_⟩
    have h8 : kr ((kz - 1) * 42 + 40) ≤ 8 := a.1.1
    have hi' : i < kr ((kz - 1) * 42 + 40) := hi
    unfold mip
    rw [if_pos (by omega), show 32 * kz + (4 * i + p - 32 * 0) = 32 * kz + (4 * i + p) by omega]
    exact b3 i p hi hp
  · intro j hj
    obtain ⟨a, b1, b2, b3⟩ := h j (by omega)
    refine ⟨a, by rw [upN_n (by omega)]; exact b1, by rw [upZ_n (by omega)]; exact b2, fun i p hi hp => ?_⟩
    dsimp only
    unfold mip
    rw [if_neg (by omega)]
    exact b3 i p hi hp
