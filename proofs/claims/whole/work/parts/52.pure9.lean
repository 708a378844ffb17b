/-! ===== the model's reading of the text ===== -/
/-- a byte's number with its sign -/
def sbz (x : Nat) : Int := if x < 128 then (x : Int) else (x : Int) - 256
theorem sbz_f (x : Nat) (h : x < 256) : x < 256 ∧ (-128 ≤ sbz x ∧ sbz x ≤ 127) ∧ (x < 128 → sbz x = (x : Int)) ∧ (128 ≤ x → sbz x = (x : Int) - 256) := by
  unfold sbz; split <;> omega
theorem sb_z : ∀ x, x < 256 → sb_b x = iI (sbz x) := by decide +kernel
theorem by8_shr {v : Int64} {z : Int} {k : Nat} (hk : k ≤ 7) (hz : ((8 : Nat) : Int) * z = ((8 * k : Nat) : Int)) : vp_nar .byte ((v >>> ((iI (((8 : Nat) : Int) * z)).toInt64 &&& 63)).toInt32.toInt8.toInt32) = sb_b (by8 v k) := by
  rw [by8_nar, by8_low, hz, iI_nI]
  congr 1
  unfold by8
  have hs : ((nI (8 * k)).toInt64 &&& 63).toBitVec.smod 64 = BitVec.ofNat 64 (8 * k) := by
    have : ∀ k, k < 8 → ((nI (8 * k)).toInt64 &&& 63).toBitVec.smod 64 = BitVec.ofNat 64 (8 * k) := by decide +kernel
    exact this k (by omega)
  show ((BitVec.sshiftRight' v.toBitVec (((nI (8 * k)).toInt64 &&& 63).toBitVec.smod 64)).signExtend 32).toNat % 256 = _
  rw [hs, sx_32, BitVec.toNat_setWidth]
  have e1 : (BitVec.ofNat 64 (8 * k)).toNat = 8 * k := by rw [BitVec.toNat_ofNat]; omega
  apply Nat.eq_of_testBit_eq
  intro i
  rw [show (256 : Nat) = 2 ^ 8 from rfl, Nat.testBit_mod_two_pow, Nat.testBit_mod_two_pow, Nat.testBit_mod_two_pow]
  by_cases hi : i < 8
  · rw [decide_eq_true hi, decide_eq_true (show i < 32 by omega), Bool.true_and, Bool.true_and, Bool.true_and]
    show (BitVec.sshiftRight v.toBitVec (BitVec.ofNat 64 (8 * k)).toNat).toNat.testBit i = _
    rw [e1, Nat.testBit_div_two_pow]
    rw [Nat.add_comm i]
    show (BitVec.sshiftRight v.toBitVec (8 * k)).getLsbD i = v.toBitVec.getLsbD (8 * k + i)
    rw [BitVec.getLsbD_sshiftRight]
    rw [decide_eq_false (show ¬ 64 ≤ i by omega), if_pos (show 8 * k + i < 64 by omega)]
    simp
  · rw [decide_eq_false hi, Bool.false_and, Bool.false_and]
/-- what the model's number answers -/
def nmI (u : Nat → Nat) (L p : Nat) : Int := if dg u L p = true ∧ ¬ dg u L (rnP u L p) = true then (rnV u L p : Int) else -1
def nv (u : Nat → Nat) (p : Nat) : Nat → Nat
  | 0 => 0
  | 1 => u p - 48
  | _ + 2 => 10 * (u p - 48) + u (p + 1) - 48
theorem nmI_bd (u : Nat → Nat) (L p : Nat) : -1 ≤ nmI u L p ∧ nmI u L p < 100 := by
  unfold nmI
  split
  · rename_i q; have := rnV_bd q.1; omega
  · omega
theorem nmI_V {u : Nat → Nat} {L p : Nat} (h : 0 ≤ nmI u L p) : dg u L p = true ∧ ¬ dg u L (rnP u L p) = true ∧ nmI u L p = (rnV u L p : Int) := by
  unfold nmI at h ⊢
  split
  · rename_i q; exact ⟨q.1, q.2, rfl⟩
  · rename_i q; rw [if_neg q] at h; omega
theorem nmI_no {u : Nat → Nat} {L p : Nat} (h : ¬ 0 ≤ nmI u L p) : ¬ (dg u L p = true ∧ ¬ dg u L (rnP u L p) = true) := by
  intro q; unfold nmI at h; rw [if_pos q] at h; omega
theorem nm_ok {u : Nat → Nat} {L p i : Nat} (hd : ∀ j, j < i → dg u L (p + j) = true) (hn : ¬ dg u L (p + i) = true) : nmI u L p = (if 1 ≤ i ∧ i ≤ 2 then (nv u p i : Int) else -1) ∧ (1 ≤ i ∧ i ≤ 2 → p + i = rnP u L p) := by
  match i, hd, hn with
  | 0, _, hn =>
    refine ⟨?_, fun q => by omega⟩
    rw [if_neg (by omega)]
    exact if_neg (fun q => hn q.1)
  | 1, hd, hn =>
    have h0 := hd 0 (by decide)
    rw [Nat.add_zero] at h0
    have hP : rnP u L p = p + 1 := by unfold rnP; rw [if_pos h0, if_neg hn]
    refine ⟨?_, fun _ => hP.symm⟩
    rw [if_pos (by omega)]
    unfold nmI
    rw [hP, if_pos ⟨h0, hn⟩]
    unfold rnV; rw [if_neg hn]; rfl
  | 2, hd, hn =>
    have h0 := hd 0 (by decide)
    have h1 := hd 1 (by decide)
    rw [Nat.add_zero] at h0
    have hP : rnP u L p = p + 2 := by unfold rnP; rw [if_pos h0, if_pos h1]
    refine ⟨?_, fun _ => hP.symm⟩
    rw [if_pos (by omega)]
    unfold nmI
    rw [hP, if_pos ⟨h0, hn⟩]
    unfold rnV; rw [if_pos h1]; rfl
  | i + 3, hd, hn =>
    have h0 := hd 0 (by omega)
    have h1 := hd 1 (by omega)
    have h2 := hd 2 (by omega)
    rw [Nat.add_zero] at h0
    have hP : rnP u L p = p + 2 := by unfold rnP; rw [if_pos h0, if_pos h1]
    refine ⟨?_, fun q => by omega⟩
    rw [if_neg (by omega)]
    unfold nmI
    rw [hP, if_neg (fun q => q.2 h2)]
/-- how far the model's item has come: i numbers read -/
def IS (u : Nat → Nat) (L n p i z pl : Nat) (gt : Nat → Int) : Prop :=
  (z = 1 ∧ ((i = 0 ∧ pl = p + 1) ∨ (∃ p1 nz, 0 < i ∧ rna u L n (p + 1) (fun _ => 0) (i - 1) = some (p1, nz) ∧ dg u L p1 = true ∧ ¬ dg u L (rnP u L p1) = true ∧ pl = rnP u L p1 ∧ (∀ j, j < i - 1 → gt j = (nz j : Int)) ∧ gt (i - 1) = (rnV u L p1 : Int)))) ∨ (z = 0 ∧ (n = 0 ∨ rna u L n (p + 1) (fun _ => 0) n = none))
theorem dg_sep {u : Nat → Nat} {L p : Nat} {b : Prop} [Decidable b] (h : dg u L p = true) : ¬ chr u L p = (if b then 59 else 44) := by
  have := of_decide_eq_true h
  split <;> omega
theorem IS_num {u : Nat → Nat} {L n p i p1 pl : Nat} {nz : Nat → Nat} {gt : Nat → Int} (hi : i < n) (hr : rna u L n (p + 1) (fun _ => 0) i = some (p1, nz)) (hg : ∀ j, j < i → gt j = (nz j : Int)) (hv : gt i = nmI u L p1) :
    (0 ≤ gt i → pl = rnP u L p1 → IS u L n p (i + 1) 1 pl gt) ∧ (¬ 0 ≤ gt i → IS u L n p (i + 1) 0 pl gt) := by
  refine ⟨fun h hpl => ?_, fun h => ?_⟩
  · rw [hv] at h
    obtain ⟨a, b, c⟩ := nmI_V h
    refine Or.inl ⟨rfl, Or.inr ⟨p1, nz, by omega, ?_⟩⟩
    rw [Nat.add_sub_cancel]
    exact ⟨hr, a, b, hpl, hg, hv.trans c⟩
  · rw [hv] at h
    have h1 := nmI_no h
    refine Or.inr ⟨rfl, Or.inr (rna_stop hr hi (fun q => ?_))⟩
    by_cases h2 : dg u L (rnP u L p1) = true
    · exact dg_sep h2 q.2
    · exact h1 ⟨q.1, h2⟩
theorem chr_lt {u : Nat → Nat} {L p : Nat} (h : p < L) : chr u L p = (u p : Int) := if_pos h
theorem IS_go {u : Nat → Nat} {L n p i pl : Nat} {gt : Nat → Int} (h : IS u L n p i 1 pl gt) (h0 : 0 < i) (hi : i < n) (hp : pl < L) (h44 : u pl = 44) : ∃ nz, rna u L n (p + 1) (fun _ => 0) i = some (pl + 1, nz) ∧ ∀ j, j < i → gt j = (nz j : Int) := by
  rcases h with ⟨-, h | ⟨p1, nz, -, hr, h1, h2, h3, h4, h5⟩⟩ | h
  · omega
  · have h6 := rna_go (i := i - 1) hr ⟨h1, by rw [if_neg (by omega), ← h3, chr_lt hp, h44]; rfl⟩
    rw [show i - 1 + 1 = i by omega, ← h3] at h6
    refine ⟨_, h6, fun j hj => ?_⟩
    by_cases q : j = i - 1
    · rw [q, upN_s]; exact h5
    · rw [upN_n q]; exact h4 j (by omega)
  · omega
theorem IS_no {u : Nat → Nat} {L n p i pl : Nat} {gt : Nat → Int} (h : IS u L n p i 1 pl gt) (h0 : 0 < i) (hi : i < n) (hp : pl < L → u pl ≠ 44) : rna u L n (p + 1) (fun _ => 0) n = none := by
  rcases h with ⟨-, h | ⟨p1, nz, -, hr, h1, h2, h3, h4, h5⟩⟩ | h
  · omega
  · refine rna_stop hr (by omega) (fun q => ?_)
    have q2 := q.2
    rw [if_neg (by omega), ← h3] at q2
    obtain ⟨a, b⟩ := chr_in (u := u) (L := L) (p := pl) (by rw [q2]; decide)
    exact hp a (by omega)
  · omega
theorem IS_fin {u : Nat → Nat} {L n p pl : Nat} {gt : Nat → Int} (h : IS u L n p n 1 pl gt) (h0 : 0 < n) (hp : pl < L) (h59 : u pl = 59) : ∃ nu, rna u L n (p + 1) (fun _ => 0) n = some (pl + 1, nu) ∧ ∀ j, j < n → gt j = (nu j : Int) := by
  rcases h with ⟨-, h | ⟨p1, nz, -, hr, h1, h2, h3, h4, h5⟩⟩ | h
  · omega
  · have h6 := rna_go (i := n - 1) hr ⟨h1, by rw [if_pos (by omega), ← h3, chr_lt hp, h59]; rfl⟩
    rw [show n - 1 + 1 = n by omega, ← h3] at h6
    refine ⟨_, h6, fun j hj => ?_⟩
    by_cases q : j = n - 1
    · rw [q, upN_s]; exact h5
    · rw [upN_n q]; exact h4 j (by omega)
  · omega
theorem IS_fno {u : Nat → Nat} {L n p pl : Nat} {gt : Nat → Int} (h : IS u L n p n 1 pl gt) (h0 : 0 < n) (hp : pl < L → u pl ≠ 59) : rna u L n (p + 1) (fun _ => 0) n = none := by
  rcases h with ⟨-, h | ⟨p1, nz, -, hr, h1, h2, h3, h4, h5⟩⟩ | h
  · omega
  · refine rna_stop hr (by omega) (fun q => ?_)
    have q2 := q.2
    rw [if_pos (by omega), ← h3] at q2
    obtain ⟨a, b⟩ := chr_in (u := u) (L := L) (p := pl) (by rw [q2]; decide)
    exact hp a (by omega)
  · omega
/-- an item's numbers laid into a valley, by its letter -/
def gd (v : VS) (z : Int) (nu : Nat → Nat) : Bool × VS :=
  if z = 119 then (aw (vsg v) (vk v) (nu 0) (nu 1) (nu 2), vW v (nu 0) (nu 1) (nu 2) (nu 3))
  else if z = 98 then (al (nu 0) (nu 1), vB v (nu 0) (nu 1))
  else if z = 99 then (ac (vnc v) (nu 0) (nu 1), vC v (nu 0) (nu 1))
  else (ab (vnb v) (nu 0), vK v (nu 0))
theorem prt_0 {z : Int} (h : prt z ≠ 0) : z = 119 ∧ prt z = 4 ∨ z = 98 ∧ prt z = 2 ∨ z = 99 ∧ prt z = 2 ∨ z = 107 ∧ prt z = 1 := by
  unfold prt at h ⊢
  by_cases h1 : z = 119
  · rw [if_pos h1]; exact Or.inl ⟨h1, rfl⟩
  · rw [if_neg h1] at h ⊢
    by_cases h2 : z = 98 ∨ z = 99
    · rw [if_pos h2]; rcases h2 with h2 | h2
      · exact Or.inr (Or.inl ⟨h2, rfl⟩)
      · exact Or.inr (Or.inr (Or.inl ⟨h2, rfl⟩))
    · rw [if_neg h2] at h ⊢
      by_cases h3 : z = 107
      · rw [if_pos h3]; exact Or.inr (Or.inr (Or.inr ⟨h3, rfl⟩))
      · rw [if_neg h3] at h; exact absurd rfl h
theorem itm_gd {u : Nat → Nat} {L p : Nat} {v : VS} {q : Nat × (Nat → Nat)} (hn : prt (chr u L p) ≠ 0) (hq : rna u L (prt (chr u L p)) (p + 1) (fun _ => 0) (prt (chr u L p)) = some q) : itm u L p v = ((gd v (chr u L p) q.2).1, q.1, (gd v (chr u L p) q.2).2) := by
  rcases prt_0 hn with ⟨h1, h2⟩ | ⟨h1, h2⟩ | ⟨h1, h2⟩ | ⟨h1, h2⟩ <;> rw [h2] at hq
  · rw [itm_w h1 hq, h1]; rfl
  · rw [itm_b h1 hq, h1]; rfl
  · rw [itm_c h1 hq, h1]; rfl
  · rw [itm_k h1 hq, h1]; rfl
theorem itm_z {u : Nat → Nat} {L p : Nat} {v : VS} (hn : prt (chr u L p) = 0 ∨ rna u L (prt (chr u L p)) (p + 1) (fun _ => 0) (prt (chr u L p)) = none) : itm u L p v = (false, 0, v) := by
  rcases hn with h | h
  · have h1 : ∀ z, prt z = 0 → z ≠ 119 ∧ z ≠ 98 ∧ z ≠ 99 ∧ z ≠ 107 := by
      intro z hz
      refine ⟨fun q => ?_, fun q => ?_, fun q => ?_, fun q => ?_⟩ <;> rw [q] at hz <;> exact absurd hz (by decide)
    obtain ⟨a, b, c, d⟩ := h1 _ h
    exact itm_def a b c d
  · exact itm_none rfl h
/-- the model's draft holds a valley -/
def DR (v : VS) (td ws wd cs ca bs ba : Nat → Nat) : Prop :=
  (td 2 = vbi v ∧ td 3 = vmo v) ∧ (ws 1 = vk v ∧ ∀ j, j < vk v → wd (16 + 2 * j) = vsg v j ∧ wd (17 + 2 * j) = vwo v j) ∧ (cs 1 = vnc v ∧ ∀ j, j < vnc v → ca (10 + 2 * j) = vhu v j ∧ ca (11 + 2 * j) = vmi v j) ∧ (bs 1 = vnb v ∧ ∀ j, j < vnb v → ba (5 + j) = vkn v j)
/-- what is laid stays -/
def LK (td ws wd cs ca bs ba td1 ws1 wd1 cs1 ca1 bs1 ba1 : Nat → Nat) : Prop :=
  (td1 0 = td 0 ∧ td1 1 = td 1) ∧ (ws1 0 = ws 0 ∧ ∀ j, j < 16 → wd1 j = wd j) ∧ (cs1 0 = cs 0 ∧ ∀ j, j < 10 → ca1 j = ca j) ∧ (bs1 0 = bs 0 ∧ ∀ j, j < 5 → ba1 j = ba j)
theorem LK_r {td ws wd cs ca bs ba : Nat → Nat} : LK td ws wd cs ca bs ba td ws wd cs ca bs ba := ⟨⟨rfl, rfl⟩, ⟨rfl, fun _ _ => rfl⟩, ⟨rfl, fun _ _ => rfl⟩, ⟨rfl, fun _ _ => rfl⟩⟩
theorem LK_t {td ws wd cs ca bs ba td1 ws1 wd1 cs1 ca1 bs1 ba1 td2 ws2 wd2 cs2 ca2 bs2 ba2 : Nat → Nat} (h : LK td ws wd cs ca bs ba td1 ws1 wd1 cs1 ca1 bs1 ba1) (h2 : LK td1 ws1 wd1 cs1 ca1 bs1 ba1 td2 ws2 wd2 cs2 ca2 bs2 ba2) : LK td ws wd cs ca bs ba td2 ws2 wd2 cs2 ca2 bs2 ba2 :=
  ⟨⟨h2.1.1.trans h.1.1, h2.1.2.trans h.1.2⟩, ⟨h2.2.1.1.trans h.2.1.1, fun j hj => (h2.2.1.2 j hj).trans (h.2.1.2 j hj)⟩, ⟨h2.2.2.1.1.trans h.2.2.1.1, fun j hj => (h2.2.2.1.2 j hj).trans (h.2.2.1.2 j hj)⟩, ⟨h2.2.2.2.1.trans h.2.2.2.1, fun j hj => (h2.2.2.2.2 j hj).trans (h.2.2.2.2 j hj)⟩⟩
theorem aw_of {sg : Nat → Nat} {k x y w : Nat} (h : x ≤ 5 ∧ y ≤ 3 ∧ w ≤ 2 ∧ k < 8) (h2 : ∀ j, j < k → sg j ≠ x + 6 * y + 24 * w) : aw sg k x y w = true := decide_eq_true ⟨h.1, h.2.1, h.2.2.1, h.2.2.2, by unfold rd; rw [rdA_no h2]; rfl⟩
theorem aw_no {sg : Nat → Nat} {k x y w j : Nat} (hj : j < k) (h2 : sg j = x + 6 * y + 24 * w) : ¬ aw sg k x y w = true := by
  intro h
  have h3 := (of_decide_eq_true h).2.2.2.2
  unfold rd at h3
  cases hq : rdA sg (x + 6 * y + 24 * w) k with
  | none => exact rdA_none hq j hj h2
  | some q => rw [hq] at h3; exact absurd (show (q : Int) = -4 from h3) (by omega)
theorem aw_lim {sg : Nat → Nat} {k x y w : Nat} (h : ¬ (x ≤ 5 ∧ y ≤ 3 ∧ w ≤ 2 ∧ k < 8)) : ¬ aw sg k x y w = true := by
  intro q; have := of_decide_eq_true q; exact h ⟨this.1, this.2.1, this.2.2.1, this.2.2.2.1⟩
