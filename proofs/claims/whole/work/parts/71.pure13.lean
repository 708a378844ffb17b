def csm (x : Nat) (y z : Int) : Nat := fl x + (if y < 0 then 0 else fl y.toNat) + (if z < 0 then 0 else fl z.toNat)
theorem csm_bd {x : Nat} {y z : Int} (h : x < 72) (hy : y < 72) (hz : z < 72) : csm x y z ≤ 54 := by
  unfold csm
  have h1 := fl_bd x h
  have h2 : (if y < 0 then 0 else fl y.toNat) ≤ 18 := by
    split
    · omega
    · exact (fl_bd _ (by omega)).2
  have h3 : (if z < 0 then 0 else fl z.toNat) ≤ 18 := by
    split
    · omega
    · exact (fl_bd _ (by omega)).2
  omega
def cst (st : Int × (Nat → Int)) (x : Nat) (y z : Int) : Int × (Nat → Int) := if st.1 < 0 ∨ ((csm x y z : Nat) : Int) < st.1 then (((csm x y z : Nat) : Int), upZ (upZ (upZ st.2 0 (x : Int)) 1 y) 2 z) else st
def c0 : Nat → Nat := fun _ => 0
def ms0 : MS := (-4, c0)
def mEn (S : Nat → Nat → Bool) (r dep fr flo : Nat) (c : Nat → Nat) (i : Nat) (ms : MS) : MS := menL (fun sn ms1 => if stA S sn c dep = true then men S r (dep + 1) (sn + 1) (flo + fl sn) (upN c dep sn) ms1 else ms1) fr i ms
theorem mEn_go {S : Nat → Nat → Bool} {r dep fr flo : Nat} {c : Nat → Nat} {i : Nat} {ms : MS} (h : stA S (fr + i) c dep = true) : mEn S r dep fr flo c (i + 1) ms = men S r (dep + 1) (fr + i + 1) (flo + fl (fr + i)) (upN c dep (fr + i)) (mEn S r dep fr flo c i ms) := by
  show (if stA S (fr + i) c dep = true then _ else _) = _
  rw [if_pos h]; rfl
theorem mEn_no {S : Nat → Nat → Bool} {r dep fr flo : Nat} {c : Nat → Nat} {i : Nat} {ms : MS} (h : ¬ stA S (fr + i) c dep = true) : mEn S r dep fr flo c (i + 1) ms = mEn S r dep fr flo c i ms := by
  show (if stA S (fr + i) c dep = true then _ else _) = _
  rw [if_neg h]; rfl
theorem mEn_x {S : Nat → Nat → Bool} {r i : Nat} {ms : MS} : mEn S (r + 1) 0 0 0 c0 (i + 1) ms = mEn S r 1 (i + 1) (fl i) (upN c0 0 i) (72 - (i + 1)) (mEn S (r + 1) 0 0 0 c0 i ms) := by
  rw [mEn_go (show stA S (0 + i) c0 0 = true from rfl), Nat.zero_add, Nat.zero_add, Nat.zero_add]; rfl
theorem mEn_x0 {S : Nat → Nat → Bool} {i : Nat} {ms : MS} : mEn S 0 0 0 0 c0 (i + 1) ms = men S 0 1 (i + 1) (fl i) (upN c0 0 i) (mEn S 0 0 0 0 c0 i ms) := by
  rw [mEn_go (show stA S (0 + i) c0 0 = true from rfl), Nat.zero_add, Nat.zero_add, Nat.zero_add]
theorem ap_1 {S : Nat → Nat → Bool} {x y : Nat} : stA S y (upN c0 0 x) 1 = true ↔ ¬ mtB (S x) (S y) 72 = true := by
  show (true && !mtB (S y) (S (upN c0 0 x 0)) 72) = true ↔ _
  rw [upN_s, mtB_comm]; simp
theorem ap_2 {S : Nat → Nat → Bool} {x y z : Nat} : stA S z (upN (upN c0 0 x) 1 y) 2 = true ↔ ¬ mtB (S x) (S z) 72 = true ∧ ¬ mtB (S y) (S z) 72 = true := by
  show (true && !mtB (S z) (S (upN (upN c0 0 x) 1 y 0)) 72 && !mtB (S z) (S (upN (upN c0 0 x) 1 y 1)) 72) = true ↔ _
  rw [upN_s, upN_n (by omega), upN_s, mtB_comm, mtB_comm (S := S z) (T := S y)]; simp
/-- the model's cells stand for a state of its search -/
def MR (K : Nat) (cl : Int) (be : Nat → Int) (ms : MS) : Prop := cl = ms.1 ∧ (0 ≤ ms.1 → ∀ j, j < K → be j = (ms.2 j : Int)) ∧ (-4 ≤ cl ∧ cl < 1000)
theorem MR_c {S : Nat → Nat → Bool} {K dep fr flo : Nat} {cl : Int} {be : Nat → Int} {ms : MS} {c : Nat → Nat} {x : Nat} {y z : Int} (h : MR K cl be ms) (hf : csm x y z = flo) (hb : flo ≤ 54) (hc : ∀ j, j < K → upZ (upZ (upZ be 0 (x : Int)) 1 y) 2 z j = (c j : Int)) : MR K (cst (cl, be) x y z).1 (cst (cl, be) x y z).2 (men S 0 dep fr flo c ms) := by
  obtain ⟨h1, h2, h3⟩ := h
  unfold cst men
  rw [hf]
  by_cases q : ms.1 < 0 ∨ (flo : Int) < ms.1
  · rw [if_pos q, if_pos (show cl < 0 ∨ (flo : Int) < cl by omega)]
    exact ⟨rfl, fun _ => hc, by show -4 ≤ (flo : Int) ∧ (flo : Int) < 1000; omega⟩
  · rw [if_neg q, if_neg (show ¬ (cl < 0 ∨ (flo : Int) < cl) by omega)]
    exact ⟨h1, h2, h3⟩
theorem csm_1 {x : Nat} : csm x (-1) (-1) = fl x := by unfold csm; simp
theorem csm_2 {x y : Nat} : csm x (y : Int) (-1) = fl x + fl y := by unfold csm; rw [if_neg (by omega), if_pos (by decide)]; rfl
theorem csm_3 {x y z : Nat} : csm x (y : Int) (z : Int) = fl x + fl y + fl z := by unfold csm; rw [if_neg (by omega), if_neg (by omega)]; rfl
theorem bc_1 {be : Nat → Int} {x : Nat} {y z : Int} : ∀ j, j < 1 → upZ (upZ (upZ be 0 (x : Int)) 1 y) 2 z j = (upN c0 0 x j : Int) := by
  intro j hj
  obtain rfl : j = 0 := by omega
  rw [upZ_n (by omega), upZ_n (by omega), upZ_s, upN_s]
theorem bc_2 {be : Nat → Int} {x y : Nat} {z : Int} : ∀ j, j < 2 → upZ (upZ (upZ be 0 (x : Int)) 1 (y : Int)) 2 z j = (upN (upN c0 0 x) 1 y j : Int) := by
  intro j hj
  obtain rfl | rfl : j = 0 ∨ j = 1 := by omega
  · rw [upZ_n (by omega), upZ_n (by omega), upZ_s, upN_n (by omega), upN_s]
  · rw [upZ_n (by omega), upZ_s, upN_s]
theorem bc_3 {be : Nat → Int} {x y z : Nat} : ∀ j, j < 3 → upZ (upZ (upZ be 0 (x : Int)) 1 (y : Int)) 2 (z : Int) j = (upN (upN (upN c0 0 x) 1 y) 2 z j : Int) := by
  intro j hj
  obtain rfl | rfl | rfl : j = 0 ∨ j = 1 ∨ j = 2 := by omega
  · rw [upZ_n (by omega), upZ_n (by omega), upZ_s, upN_n (by omega), upN_n (by omega), upN_s]
  · rw [upZ_n (by omega), upZ_s, upN_n (by omega), upN_s]
  · rw [upZ_s, upN_s]
theorem men_mEn {S : Nat → Nat → Bool} {r dep fr flo : Nat} {c : Nat → Nat} {ms : MS} : men S (r + 1) dep fr flo c ms = mEn S r dep fr flo c (72 - fr) ms := by
  unfold mEn
  conv => lhs; unfold men
theorem mnS_1 {S : Nat → Nat → Bool} : mnS S 1 = mEn S 0 0 0 0 c0 72 ms0 := men_mEn (r := 0)
theorem mnS_2 {S : Nat → Nat → Bool} : mnS S 2 = mEn S 1 0 0 0 c0 72 ms0 := men_mEn (r := 1)
theorem mnS_3 {S : Nat → Nat → Bool} : mnS S 3 = mEn S 2 0 0 0 c0 72 ms0 := men_mEn (r := 2)
