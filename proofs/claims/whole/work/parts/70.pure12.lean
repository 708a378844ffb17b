/-! ===== the model's search ===== -/
theorem va_up_s {F : Nat → Bool} {i : Nat} {b : Bool} : va_up F i b i = b := by unfold va_up; simp
theorem va_up_n {F : Nat → Bool} {i j : Nat} {b : Bool} (h : j ≠ i) : va_up F i b j = F j := by unfold va_up; simp [h]
def rq (B M x d b t : Nat) : Nat → Bool
  | 0 => false
  | q + 1 => rq B M x d b t q || (decide (q / 4 ≤ d ∧ q % 4 ≤ b) && decide (tn B M x (q / 4) (q % 4) = t))
theorem rq_iff {B M x d b t : Nat} : ∀ {n : Nat}, rq B M x d b t n = true ↔ ∃ q, q < n ∧ (q / 4 ≤ d ∧ q % 4 ≤ b) ∧ tn B M x (q / 4) (q % 4) = t
  | 0 => ⟨fun h => (by cases h), fun ⟨q, h, _⟩ => by omega⟩
  | n + 1 => by
    unfold rq
    rw [Bool.or_eq_true, rq_iff (n := n), Bool.and_eq_true, decide_eq_true_iff, decide_eq_true_iff]
    constructor
    · rintro (⟨q, h1, h2⟩ | h)
      · exact ⟨q, by omega, h2⟩
      · exact ⟨n, by omega, h⟩
    · rintro ⟨q, h1, h2⟩
      by_cases hq : q = n
      · rw [hq] at h2; exact Or.inr h2
      · exact Or.inl ⟨q, by omega, h2⟩
theorem rj_ex {a t : Nat} : ∀ {b : Nat}, rj a t b = true → ∃ j, j < b ∧ bts a j = t
  | 0, h => by cases h
  | b + 1, h => by
    unfold rj at h
    rw [Bool.or_eq_true] at h
    rcases h with h | h
    · obtain ⟨j, h1, h2⟩ := rj_ex h; exact ⟨j, by omega, h2⟩
    · exact ⟨b, by omega, of_decide_eq_true h⟩
theorem rc_ex {B M x b t : Nat} : ∀ {d : Nat}, rc B M x b t d = true → ∃ i j, i < d ∧ j ≤ b ∧ tn B M x i j = t
  | 0, h => by cases h
  | d + 1, h => by
    unfold rc at h
    rw [Bool.or_eq_true] at h
    rcases h with h | h
    · obtain ⟨i, j, h1, h2, h3⟩ := rc_ex h; exact ⟨i, j, by omega, h2, h3⟩
    · obtain ⟨j, h1, h2⟩ := rj_ex h; exact ⟨d, j, by omega, by omega, h2⟩
theorem rq_rc {B M x d b t : Nat} (hd : d ≤ 20) (hb : b ≤ 3) : rq B M x d b t 84 = rc B M x b t (d + 1) := by
  rw [Bool.eq_iff_iff, rq_iff]
  constructor
  · rintro ⟨q, h1, h2, h3⟩
    exact rc_true (i := q / 4) (j := q % 4) (by omega) h2.2 h3
  · intro h
    obtain ⟨i, j, h1, h2, h3⟩ := rc_ex h
    refine ⟨4 * i + j, by omega, ?_⟩
    rw [show (4 * i + j) / 4 = i by omega, show (4 * i + j) % 4 = j by omega]
    exact ⟨⟨by omega, h2⟩, h3⟩
theorem mtB_comm {S T : Nat → Bool} {n : Nat} : mtB S T n = mtB T S n := by
  rw [Bool.eq_iff_iff, mtB_iff, mtB_iff]
  exact ⟨fun ⟨t, a, b, c⟩ => ⟨t, a, c, b⟩, fun ⟨t, a, b, c⟩ => ⟨t, a, c, b⟩⟩
abbrev MS : Type := Int × (Nat → Nat)
def menL (f : Nat → MS → MS) (fr : Nat) : Nat → MS → MS
  | 0, ms => ms
  | i + 1, ms => f (fr + i) (menL f fr i ms)
def men (S : Nat → Nat → Bool) : Nat → Nat → Nat → Nat → (Nat → Nat) → MS → MS
  | 0, _, _, flo, c, ms => if ms.1 < 0 ∨ (flo : Int) < ms.1 then ((flo : Int), c) else ms
  | r + 1, dep, fr, flo, c, ms => menL (fun sn ms1 => if stA S sn c dep = true then men S r (dep + 1) (sn + 1) (flo + fl sn) (upN c dep sn) ms1 else ms1) fr (72 - fr) ms
theorem menL_nc {f : Nat → MS → MS} {fr : Nat} {ms : MS} (h : ∀ sn, f sn ms = ms) : ∀ i, menL f fr i ms = ms
  | 0 => rfl
  | i + 1 => by show f (fr + i) (menL f fr i ms) = ms; rw [menL_nc h i]; exact h _
theorem men_nc {S : Nat → Nat → Bool} : ∀ {r dep fr flo : Nat} {c : Nat → Nat} {ms : MS}, 0 ≤ ms.1 → ms.1 ≤ (flo : Int) → men S r dep fr flo c ms = ms
  | 0, dep, fr, flo, c, ms, h1, h2 => by unfold men; exact if_neg (by omega)
  | r + 1, dep, fr, flo, c, ms, h1, h2 => by
    unfold men
    refine menL_nc (fun sn => ?_) _
    split
    · exact men_nc h1 (by omega)
    · rfl
theorem stA_c {S : Nat → Nat → Bool} {x : Nat} {c d : Nat → Nat} : ∀ {n : Nat}, (∀ j, j < n → c j = d j) → stA S x c n = stA S x d n
  | 0, _ => rfl
  | n + 1, h => by unfold stA; rw [stA_c (n := n) (fun j hj => h j (by omega)), h n (by omega)]
/-- the class's search stands with the model's -/
def CR (K : Nat) (cs : XS) (ms : MS) : Prop := (cs.2.2 = 2147483647 ∧ ms.1 = -4) ∨ (cs.2.2 ≤ 100 ∧ ms.1 = (cs.2.2 : Int) ∧ ∀ j, j < K → cs.2.1 j = ms.2 j)
theorem ex_men {S : Nat → Nat → Bool} {K : Nat} (hK : K ≤ 3) : ∀ {r dep fr flo : Nat} {cs : XS} {c : Nat → Nat} {ms : MS}, dep + r = K → fr ≤ 72 → flo + 18 * r ≤ 100 → flo < cs.2.2 → (∀ j, j < dep → cs.1 j = c j) → CR K cs ms →
    CR K (exs S r dep fr flo cs) (men S r dep fr flo c ms) ∧ ∀ j, j < dep → (exs S r dep fr flo cs).1 j = c j
  | 0, dep, fr, flo, cs, c, ms, h1, _, h2, h3, h4, h5 => by
    refine ⟨?_, h4⟩
    have hm : men S 0 dep fr flo c ms = ((flo : Int), c) := by
      unfold men
      refine if_pos ?_
      rcases h5 with h5 | h5
      · left; omega
      · right; omega
    rw [hm]
    refine Or.inr ⟨?_, rfl, fun j hj => ?_⟩
    · show flo ≤ 100; omega
    · show va_cpy cs.1 cs.2.1 0 0 3 j = c j
      rw [pk_cpy_in (by omega) (by omega), Nat.sub_zero, Nat.zero_add]
      exact h4 j (by omega)
  | r + 1, dep, fr, flo, cs, c, ms, h1, hfr, h2, h3, h4, h5 => by
    unfold exs men
    have key : ∀ i, i ≤ 72 - fr → CR K (exL S dep flo (fun fr1 flo1 st1 => exs S r (dep + 1) fr1 flo1 st1) fr i cs) (menL (fun sn ms1 => if stA S sn c dep = true then men S r (dep + 1) (sn + 1) (flo + fl sn) (upN c dep sn) ms1 else ms1) fr i ms) ∧ ∀ j, j < dep → (exL S dep flo (fun fr1 flo1 st1 => exs S r (dep + 1) fr1 flo1 st1) fr i cs).1 j = c j := by
      intro i
      induction i with
      | zero => intro _; exact ⟨h5, h4⟩
      | succ i ih =>
        intro hi
        obtain ⟨a1, a2⟩ := ih (by omega)
        have hfb := fl_bd (fr + i) (by omega)
        show CR K (exT S dep flo _ (fr + i) (exL S dep flo _ fr i cs)) ((fun sn ms1 => if stA S sn c dep = true then men S r (dep + 1) (sn + 1) (flo + fl sn) (upN c dep sn) ms1 else ms1) (fr + i) (menL _ fr i ms)) ∧ ∀ j, j < dep → (exT S dep flo _ (fr + i) (exL S dep flo _ fr i cs)).1 j = c j
        revert a1 a2
        generalize exL S dep flo (fun fr1 flo1 st1 => exs S r (dep + 1) fr1 flo1 st1) fr i cs = cs2
        generalize menL (fun sn ms1 => if stA S sn c dep = true then men S r (dep + 1) (sn + 1) (flo + fl sn) (upN c dep sn) ms1 else ms1) fr i ms = ms2
        intro a1 a2
        have hst : stA S (fr + i) cs2.1 dep = stA S (fr + i) c dep := stA_c a2
        unfold exT
        rw [hst]
        by_cases q : stA S (fr + i) c dep = true
        · by_cases q2 : flo + fl (fr + i) < cs2.2.2
          · rw [if_pos ⟨q2, q⟩]
            show CR K _ (if stA S (fr + i) c dep = true then _ else _) ∧ _
            rw [if_pos q]
            have hh := ex_men hK (S := S) (K := K) (r := r) (dep := dep + 1) (fr := fr + i + 1) (flo := flo + fl (fr + i)) (cs := (upN cs2.1 dep (fr + i), cs2.2.1, cs2.2.2)) (c := upN c dep (fr + i)) (ms := ms2) (by omega) (by omega) (by omega) q2 (fun j hj => by
              show upN cs2.1 dep (fr + i) j = upN c dep (fr + i) j
              by_cases w : j = dep
              · rw [w, upN_s, upN_s]
              · rw [upN_n w, upN_n w]; exact a2 j (by omega)) a1
            refine ⟨hh.1, fun j hj => ?_⟩
            have h7 := hh.2 j (by omega)
            rw [upN_n (by omega)] at h7
            exact h7
          · rw [if_neg (fun w => q2 w.1)]
            show CR K _ (if stA S (fr + i) c dep = true then _ else _) ∧ _
            rw [if_pos q]
            refine ⟨?_, a2⟩
            rcases a1 with a1 | a1
            · omega
            · rw [men_nc (by omega) (by omega)]; exact Or.inr a1
        · rw [if_neg (fun w => q w.2)]
          show CR K _ (if stA S (fr + i) c dep = true then _ else _) ∧ _
          rw [if_neg q]
          exact ⟨a1, a2⟩
    exact key (72 - fr) (Nat.le_refl _)
/-- what a search of K signs finds -/
def mnS (S : Nat → Nat → Bool) (K : Nat) : MS := men S K 0 0 0 (fun _ => 0) (-4, fun _ => 0)
def sCod (bi mo : Nat) (x y w z : Int) : Int := if (1 ≤ x ∧ x ≤ 3) ∧ ((0 ≤ y ∧ y ≤ 20) ∧ (0 ≤ w ∧ w ≤ 3)) ∧ (-1 ≤ z ∧ z ≤ x - 1) then (if (mnS (fun y1 t => rc bi mo y1 w.toNat t (y.toNat + 1)) x.toNat).1 < 0 ∨ z < 0 then (mnS (fun y1 t => rc bi mo y1 w.toNat t (y.toNat + 1)) x.toNat).1 else ((mnS (fun y1 t => rc bi mo y1 w.toNat t (y.toNat + 1)) x.toNat).2 z.toNat : Int)) else -1
theorem sCod_C {bi mo : Nat} {c1 b1 : Nat → Nat} {x y w z : Int} : sCodC bi mo c1 b1 x y w z = sCod bi mo x y w z := by
  unfold sCodC sCod
  by_cases h : (1 ≤ x ∧ x ≤ 3) ∧ ((0 ≤ y ∧ y ≤ 20) ∧ (0 ≤ w ∧ w ≤ 3)) ∧ (-1 ≤ z ∧ z ≤ x - 1)
  · rw [if_pos h, if_pos h]
    have hh := (ex_men (S := fun y1 t => rc bi mo y1 w.toNat t (y.toNat + 1)) (K := x.toNat) (by omega) (r := x.toNat) (dep := 0) (fr := 0) (flo := 0) (cs := (c1, b1, 2147483647)) (c := fun _ => 0) (ms := (-4, fun _ => 0)) (by omega) (by omega) (by omega) (show 0 < 2147483647 by decide) (fun j hj => by omega) (Or.inl ⟨rfl, rfl⟩)).1
    unfold mnS
    revert hh
    generalize exs (fun y1 t => rc bi mo y1 w.toNat t (y.toNat + 1)) x.toNat 0 0 0 (c1, b1, 2147483647) = cs
    generalize men (fun y1 t => rc bi mo y1 w.toNat t (y.toNat + 1)) x.toNat 0 0 0 (fun _ => 0) (-4, fun _ => 0) = ms
    intro hh
    rcases hh with hh | hh
    · rw [if_pos hh.1, if_pos (by omega)]; exact hh.2.symm
    · rw [if_neg (by omega)]
      by_cases q : z = -1
      · rw [if_pos q, if_pos (by omega)]; exact hh.2.1.symm
      · rw [if_neg q, if_neg (by omega), hh.2.2 z.toNat (by omega)]
  · rw [if_neg h, if_neg h]
