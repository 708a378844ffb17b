/-! ===== the model's draft ===== -/
theorem prt_sb {x : Nat} (h : x < 256) : prt (sbz x) = prt (x : Int) ∧ (prt (sbz x) ≠ 0 → sbz x = (x : Int)) := by
  have hf := sbz_f x h
  by_cases q : x < 128
  · rw [hf.2.2.1 q]; exact ⟨rfl, fun _ => rfl⟩
  · have e := hf.2.2.2 (by omega)
    have e0 : prt (sbz x) = 0 := by unfold prt; rw [if_neg (by omega), if_neg (by omega), if_neg (by omega)]
    have e1 : prt (x : Int) = 0 := by unfold prt; rw [if_neg (by omega), if_neg (by omega), if_neg (by omega)]
    rw [e0, e1]; exact ⟨rfl, fun h => absurd rfl h⟩
theorem prt_le (z : Int) : prt z ≤ 4 := by unfold prt; split <;> (try split) <;> (try split) <;> omega
theorem DR_0 {sg wo hu mi kn td ws wd cs ca bs ba : Nat → Nat} : DR (sg, wo, hu, mi, kn, 0, 0, 0, 2, 3) (upN (upN td 2 2) 3 3) (upN ws 1 0) wd (upN cs 1 0) ca (upN bs 1 0) ba :=
  ⟨⟨rfl, rfl⟩, ⟨rfl, fun j hj => absurd hj (Nat.not_lt_zero _)⟩, ⟨rfl, fun j hj => absurd hj (Nat.not_lt_zero _)⟩, ⟨rfl, fun j hj => absurd hj (Nat.not_lt_zero _)⟩⟩
theorem LK_0 {td ws wd cs ca bs ba : Nat → Nat} : LK td ws wd cs ca bs ba (upN (upN td 2 2) 3 3) (upN ws 1 0) wd (upN cs 1 0) ca (upN bs 1 0) ba :=
  ⟨⟨rfl, rfl⟩, ⟨rfl, fun _ _ => rfl⟩, ⟨rfl, fun _ _ => rfl⟩, ⟨rfl, fun _ _ => rfl⟩⟩
theorem DR_W {v : VS} {td ws wd cs ca bs ba : Nat → Nat} {x y w z : Nat} (h : DR v td ws wd cs ca bs ba) (ha : aw (vsg v) (vk v) x y w = true) : DR (vW v x y w z) td (upN ws 1 (vk v + 1)) (upN (upN wd (16 + 2 * vk v) (x + 6 * y + 24 * w)) (17 + 2 * vk v) z) cs ca bs ba := by
  obtain ⟨h1, ⟨h2, h3⟩, h4, h5⟩ := h
  have e : vW v x y w z = (upN (vsg v) (vk v) (x + 6 * y + 24 * w), upN (vwo v) (vk v) z, vhu v, vmi v, vkn v, vk v + 1, vnc v, vnb v, vbi v, vmo v) := by unfold vW; rw [if_pos ha, if_pos ha, if_pos ha]
  rw [e]
  refine ⟨h1, ⟨rfl, fun j hj => ?_⟩, h4, h5⟩
  have hj' : j < vk v + 1 := hj
  show upN (upN wd (16 + 2 * vk v) (x + 6 * y + 24 * w)) (17 + 2 * vk v) z (16 + 2 * j) = upN (vsg v) (vk v) (x + 6 * y + 24 * w) j ∧ upN (upN wd (16 + 2 * vk v) (x + 6 * y + 24 * w)) (17 + 2 * vk v) z (17 + 2 * j) = upN (vwo v) (vk v) z j
  by_cases q : j = vk v
  · rw [q, upN_n (by omega), upN_s, upN_s, upN_s, upN_s]; exact ⟨rfl, rfl⟩
  · rw [upN_n (by omega), upN_n (by omega), upN_n q, upN_n (by omega), upN_n (by omega), upN_n q]; exact h3 j (by omega)
theorem LK_W {td ws wd cs ca bs ba : Nat → Nat} {k x y z : Nat} : LK td ws wd cs ca bs ba td (upN ws 1 x) (upN (upN wd (16 + 2 * k) y) (17 + 2 * k) z) cs ca bs ba :=
  ⟨⟨rfl, rfl⟩, ⟨rfl, fun j hj => by rw [upN_n (by omega), upN_n (by omega)]⟩, ⟨rfl, fun _ _ => rfl⟩, ⟨rfl, fun _ _ => rfl⟩⟩
theorem DR_B {v : VS} {td ws wd cs ca bs ba : Nat → Nat} {x y : Nat} (h : DR v td ws wd cs ca bs ba) (ha : al x y = true) : DR (vB v x y) (upN (upN td 2 x) 3 y) ws wd cs ca bs ba := by
  obtain ⟨h1, h2, h4, h5⟩ := h
  have e : vB v x y = (vsg v, vwo v, vhu v, vmi v, vkn v, vk v, vnc v, vnb v, x, y) := by unfold vB; rw [if_pos ha, if_pos ha]
  rw [e]
  exact ⟨⟨rfl, rfl⟩, h2, h4, h5⟩
theorem LK_B {td ws wd cs ca bs ba : Nat → Nat} {x y : Nat} : LK td ws wd cs ca bs ba (upN (upN td 2 x) 3 y) ws wd cs ca bs ba :=
  ⟨⟨rfl, rfl⟩, ⟨rfl, fun _ _ => rfl⟩, ⟨rfl, fun _ _ => rfl⟩, ⟨rfl, fun _ _ => rfl⟩⟩
theorem DR_C {v : VS} {td ws wd cs ca bs ba : Nat → Nat} {x y : Nat} (h : DR v td ws wd cs ca bs ba) (ha : ac (vnc v) x y = true) : DR (vC v x y) td ws wd (upN cs 1 (vnc v + 1)) (upN (upN ca (10 + 2 * vnc v) x) (11 + 2 * vnc v) y) bs ba := by
  obtain ⟨h1, h2, ⟨h4, h3⟩, h5⟩ := h
  have e : vC v x y = (vsg v, vwo v, upN (vhu v) (vnc v) x, upN (vmi v) (vnc v) y, vkn v, vk v, vnc v + 1, vnb v, vbi v, vmo v) := by unfold vC; rw [if_pos ha, if_pos ha, if_pos ha]
  rw [e]
  refine ⟨h1, h2, ⟨rfl, fun j hj => ?_⟩, h5⟩
  have hj' : j < vnc v + 1 := hj
  show upN (upN ca (10 + 2 * vnc v) x) (11 + 2 * vnc v) y (10 + 2 * j) = upN (vhu v) (vnc v) x j ∧ upN (upN ca (10 + 2 * vnc v) x) (11 + 2 * vnc v) y (11 + 2 * j) = upN (vmi v) (vnc v) y j
  by_cases q : j = vnc v
  · rw [q, upN_n (by omega), upN_s, upN_s, upN_s, upN_s]; exact ⟨rfl, rfl⟩
  · rw [upN_n (by omega), upN_n (by omega), upN_n q, upN_n (by omega), upN_n (by omega), upN_n q]; exact h3 j (by omega)
theorem LK_C {td ws wd cs ca bs ba : Nat → Nat} {k x y z : Nat} : LK td ws wd cs ca bs ba td ws wd (upN cs 1 x) (upN (upN ca (10 + 2 * k) y) (11 + 2 * k) z) bs ba :=
  ⟨⟨rfl, rfl⟩, ⟨rfl, fun _ _ => rfl⟩, ⟨rfl, fun j hj => by rw [upN_n (by omega), upN_n (by omega)]⟩, ⟨rfl, fun _ _ => rfl⟩⟩
theorem DR_K {v : VS} {td ws wd cs ca bs ba : Nat → Nat} {x : Nat} (h : DR v td ws wd cs ca bs ba) (ha : ab (vnb v) x = true) : DR (vK v x) td ws wd cs ca (upN bs 1 (vnb v + 1)) (upN ba (5 + vnb v) x) := by
  obtain ⟨h1, h2, h4, h5, h3⟩ := h
  have e : vK v x = (vsg v, vwo v, vhu v, vmi v, upN (vkn v) (vnb v) x, vk v, vnc v, vnb v + 1, vbi v, vmo v) := by unfold vK; rw [if_pos ha, if_pos ha]
  rw [e]
  refine ⟨h1, h2, h4, rfl, fun j hj => ?_⟩
  have hj' : j < vnb v + 1 := hj
  show upN ba (5 + vnb v) x (5 + j) = upN (vkn v) (vnb v) x j
  by_cases q : j = vnb v
  · rw [q, upN_s, upN_s]
  · rw [upN_n (by omega), upN_n q]; exact h3 j (by omega)
theorem LK_K {td ws wd cs ca bs ba : Nat → Nat} {k x y : Nat} : LK td ws wd cs ca bs ba td ws wd cs ca (upN bs 1 x) (upN ba (5 + k) y) :=
  ⟨⟨rfl, rfl⟩, ⟨rfl, fun _ _ => rfl⟩, ⟨rfl, fun _ _ => rfl⟩, ⟨rfl, fun j hj => by rw [upN_n (by omega)]⟩⟩
theorem gd_w {v : VS} {z : Int} {nu : Nat → Nat} (h : z = 119) : gd v z nu = (aw (vsg v) (vk v) (nu 0) (nu 1) (nu 2), vW v (nu 0) (nu 1) (nu 2) (nu 3)) := if_pos h
theorem gd_b {v : VS} {z : Int} {nu : Nat → Nat} (h : z = 98) : gd v z nu = (al (nu 0) (nu 1), vB v (nu 0) (nu 1)) := by unfold gd; rw [if_neg (by omega), if_pos h]
theorem gd_c {v : VS} {z : Int} {nu : Nat → Nat} (h : z = 99) : gd v z nu = (ac (vnc v) (nu 0) (nu 1), vC v (nu 0) (nu 1)) := by unfold gd; rw [if_neg (by omega), if_neg (by omega), if_pos h]
theorem gd_k {v : VS} {z : Int} {nu : Nat → Nat} (h : z = 107) : gd v z nu = (ab (vnb v) (nu 0), vK v (nu 0)) := by unfold gd; rw [if_neg (by omega), if_neg (by omega), if_neg (by omega)]
/-- the first i cells are those from o on -/
def mvd (F : Nat → Nat) (o i : Nat) : Nat → Nat := fun j => if j < i then F (o + j) else F j
theorem mvd_0 {F : Nat → Nat} {o : Nat} : mvd F o 0 = F := funext fun j => if_neg (by omega)
theorem mvd_s {F : Nat → Nat} {o i : Nat} (h : i < o) : upN (mvd F o i) i (mvd F o i (o + i)) = mvd F o (i + 1) := by
  funext j
  have e : mvd F o i (o + i) = F (o + i) := if_neg (by omega)
  rw [e]
  unfold upN mvd
  by_cases q : j = i
  · rw [if_pos q, if_pos (by omega), q]
  · rw [if_neg q]
    by_cases q2 : j < i
    · rw [if_pos q2, if_pos (by omega)]
    · rw [if_neg q2, if_neg (by omega)]
theorem mvd_lo {F : Nat → Nat} {o i j : Nat} (h : j < i) : mvd F o i j = F (o + j) := if_pos h
/-- the model has a valley laid -/
def LR (v : VS) (td ws wd cs ca bs ba : Nat → Nat) : Prop :=
  (td 0 = vbi v ∧ td 1 = vmo v) ∧ (ws 0 = vk v ∧ ∀ j, j < vk v → wd (2 * j) = vsg v j ∧ wd (2 * j + 1) = vwo v j) ∧ (cs 0 = vnc v ∧ ∀ j, j < vnc v → ca (2 * j) = vhu v j ∧ ca (2 * j + 1) = vmi v j) ∧ (bs 0 = vnb v ∧ ∀ j, j < vnb v → ba j = vkn v j)
theorem LR_K {v : VS} {td ws wd cs ca bs ba td1 ws1 wd1 cs1 ca1 bs1 ba1 : Nat → Nat} (hv : VOK v) (h : LR v td ws wd cs ca bs ba) (h2 : LK td ws wd cs ca bs ba td1 ws1 wd1 cs1 ca1 bs1 ba1) : LR v td1 ws1 wd1 cs1 ca1 bs1 ba1 := by
  obtain ⟨-, -, -, -, -, k1, k2, k3, -, -⟩ := hv
  obtain ⟨⟨a1, a2⟩, ⟨a3, a4⟩, ⟨a5, a6⟩, ⟨a7, a8⟩⟩ := h
  obtain ⟨⟨b1, b2⟩, ⟨b3, b4⟩, ⟨b5, b6⟩, ⟨b7, b8⟩⟩ := h2
  exact ⟨⟨b1.trans a1, b2.trans a2⟩, ⟨b3.trans a3, fun j hj => ⟨(b4 _ (by omega)).trans (a4 j hj).1, (b4 _ (by omega)).trans (a4 j hj).2⟩⟩, ⟨b5.trans a5, fun j hj => ⟨(b6 _ (by omega)).trans (a6 j hj).1, (b6 _ (by omega)).trans (a6 j hj).2⟩⟩, ⟨b7.trans a7, fun j hj => (b8 _ (by omega)).trans (a8 j hj)⟩⟩
theorem LR_take {v : VS} {td ws wd cs ca bs ba : Nat → Nat} (hv : VOK v) (h : DR v td ws wd cs ca bs ba) : LR v (upN (upN td 0 (td 2)) 1 (upN td 0 (td 2) 3)) (upN ws 0 (ws 1)) (mvd wd 16 16) (upN cs 0 (cs 1)) (mvd ca 10 10) (upN bs 0 (bs 1)) (mvd ba 5 5) := by
  obtain ⟨-, -, -, -, -, k1, k2, k3, -, -⟩ := hv
  obtain ⟨⟨a1, a2⟩, ⟨a3, a4⟩, ⟨a5, a6⟩, ⟨a7, a8⟩⟩ := h
  refine ⟨⟨a1, a2⟩, ⟨a3, fun j hj => ?_⟩, ⟨a5, fun j hj => ?_⟩, ⟨a7, fun j hj => ?_⟩⟩
  · rw [mvd_lo (by omega), mvd_lo (by omega), show 16 + (2 * j + 1) = 17 + 2 * j by omega]; exact a4 j hj
  · rw [mvd_lo (by omega), mvd_lo (by omega), show 10 + (2 * j + 1) = 11 + 2 * j by omega]; exact a6 j hj
  · rw [mvd_lo (by omega)]; exact a8 j hj
theorem IS_0 {u : Nat → Nat} {L n p i pl : Nat} {gt : Nat → Int} (h : IS u L n p i 1 pl gt) (h0 : i = 0) : pl = p + 1 := by
  rcases h with ⟨-, h | ⟨p1, nz, h1, -⟩⟩ | h
  · exact h.2
  · omega
  · omega
theorem IS_b {u : Nat → Nat} {L n p i z pl : Nat} {gt : Nat → Int} (h : IS u L n p i z pl gt) : z ≤ 1 := by
  rcases h with ⟨h, -⟩ | ⟨h, -⟩ <;> omega
theorem IS_z {u : Nat → Nat} {L n p i z pl : Nat} {gt : Nat → Int} (h : IS u L n p i z pl gt) (hz : z = 0) : n = 0 ∨ rna u L n (p + 1) (fun _ => 0) n = none := by
  rcases h with ⟨h, -⟩ | ⟨h, h2⟩
  · omega
  · exact h2
