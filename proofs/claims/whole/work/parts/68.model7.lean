set_option maxHeartbeats 4000000 in
set_option maxRecDepth 100000 in
theorem c_X10_lowest (l : Launch) (g : GG) (mo0 : Nat) (mA1 : Nat) (mA3 : Nat) (mA4 : Nat) (mA5 : Nat) (mA6 : Nat) (mA7 : Nat) (mA8 : Nat) (mA9 : Nat) (mA10 : Nat) (mA11 : Nat) (mA12 : Nat) (mA15 : Nat) (mA16 : Nat) (mA17 : Nat) (mA20 : Nat) (mL : Nat) (mAt : Nat) (kz : Nat) (dn : Nat) (mAb : Nat) (mBe : Nat) (mCl : Int) (xa : Nat) (xb : Nat) (hxa : xa < 2199023255552) (hxb : 0 < xb ∧ xb < 2199023255552) : WRv g l yX10_lowest cX10_lowest 11 1 [(mo0, .inr (8, [nV mL, .ref mA1, nV mAt, .ref mA3, .ref mA4, .ref mA5, .ref mA6, .ref mA7, .ref mA8, .ref mA9, .ref mA10, .ref mA11, .ref mA12, nV kz, nV dn, .ref mA15, .ref mA16, .ref mA17, mV mAb, mV mBe, .ref mA20, zV mCl]))] [.ref mo0, mV xa, mV xb] (fun (_ : Unit) => True) (fun (_ : Unit) => [(mo0, .inr (8, [nV mL, .ref mA1, nV mAt, .ref mA3, .ref mA4, .ref mA5, .ref mA6, .ref mA7, .ref mA8, .ref mA9, .ref mA10, .ref mA11, .ref mA12, nV kz, nV dn, .ref mA15, .ref mA16, .ref mA17, mV (xa / Nat.gcd xa xb), mV (xb / Nat.gcd xa xb), .ref mA20, zV mCl]))]) := by
  refine wr_startV (by decide +kernel) (Nat.le_of_ble_eq_true rfl) ?_
  intro p e s m args below meth c Q A ls C hK hA ret hP hD hS hl
  have C : CT p s m args meth c cX10_lowest RX10 11 := C
  have hl : lv_has ls 11 [(0, .ref mo0), (1, mV xa), (3, mV xb)] := hl
  refine lv_lload_n C.1 C.2.1 dX10_lowest_0 rfl (lv_at hl 1 rfl) ?_
  refine lv_lstore (lv' := [(5, mV xa), (0, .ref mo0), (1, mV xa), (3, mV xb)]) C.1 C.2.1 dX10_lowest_1 hl (by decide) rfl (fun ls hl => ?_)
  refine lv_lload_n C.1 C.2.1 dX10_lowest_3 rfl (lv_at hl 3 rfl) ?_
  refine lv_lstore (lv' := [(7, mV xb), (5, mV xa), (0, .ref mo0), (1, mV xa), (3, mV xb)]) C.1 C.2.1 dX10_lowest_4 hl (by decide) rfl (fun ls hl => ?_)
  have L6 : ∀ (n_6 : Nat) (aa : Nat) (bb : Nat) (H : Heap) (locs : List Loc) (ls : Array Slot) (hgc : Nat.gcd aa bb = Nat.gcd xa xb) (hab : (aa < 2199023255552 ∧ bb < 2199023255552) ∧ (0 < aa ∨ 0 < bb)) (hm : bb < n_6) (hP : va_P g.1 vwCl [(mo0, .inr (8, [nV mL, .ref mA1, nV mAt, .ref mA3, .ref mA4, .ref mA5, .ref mA6, .ref mA7, .ref mA8, .ref mA9, .ref mA10, .ref mA11, .ref mA12, nV kz, nV dn, .ref mA15, .ref mA16, .ref mA17, mV mAb, mV mBe, .ref mA20, zV mCl]))] H) (hD : va_D A [(mo0, .inr (8, [nV mL, .ref mA1, nV mAt, .ref mA3, .ref mA4, .ref mA5, .ref mA6, .ref mA7, .ref mA8, .ref mA9, .ref mA10, .ref mA11, .ref mA12, nV kz, nV dn, .ref mA15, .ref mA16, .ref mA17, mV mAb, mV mBe, .ref mA20, zV mCl]))]) (hS : va_S A s.heap H locs) (hl : lv_has ls 11 [(7, mV bb), (5, mV aa), (0, .ref mo0), (1, mV xa), (3, mV xb)]), W p l e (rD 1) s m args below meth c H locs 0 0 Q (F0 m 6 ls []) := by
    intro n_6
    induction n_6 with
    | zero => intro aa bb H locs ls hgc hab hm hP hD hS hl; exact absurd hm (Nat.not_lt_zero _)
    | succ n_6 ih_6 =>
      intro aa bb H locs ls hgc hab hm hP hD hS hl
      refine lv_lload C.1 C.2.1 dX10_lowest_6 (lv_at hl 0 rfl) ?_
      refine r_lconst 0 C dX10_lowest_8 rfl ?_
      refine r_leq 31 C dX10_lowest_9 dX10_lowest_10 rfl ⟨rlN (by omega), rlN (by decide)⟩ (fun h_1 => ?_) (fun h_1 => ?_)
      · skip
        have hge : aa = Nat.gcd xa xb := by rw [← hgc, show bb = 0 by omega, Nat.gcd_zero_right]
        refine lv_aload_n C.1 C.2.1 dX10_lowest_31 rfl (lv_at hl 2 rfl) ?_
        refine lv_lload_n C.1 C.2.1 dX10_lowest_32 rfl (lv_at hl 3 rfl) ?_
        refine lv_lload C.1 C.2.1 dX10_lowest_33 (lv_at hl 1 rfl) ?_
        refine r_ldivN C dX10_lowest_35 (by omega) (by omega) ?_
        refine r_put (v := mV (xa / aa)) C hK hP hD hS kw_X10 tyX10_ok nmX10 (ci := 8) rfl 0 18 (by decide) kf_X10_188 rfl rfl rfl rfl rfl (Nat.le_of_ble_eq_true rfl) dX10_lowest_36 (fun H locs hP hD hS => ?_)
        have hP : va_P g.1 vwCl [(mo0, .inr (8, [nV mL, .ref mA1, nV mAt, .ref mA3, .ref mA4, .ref mA5, .ref mA6, .ref mA7, .ref mA8, .ref mA9, .ref mA10, .ref mA11, .ref mA12, nV kz, nV dn, .ref mA15, .ref mA16, .ref mA17, mV (xa / aa), mV mBe, .ref mA20, zV mCl]))] H := hP
        have hD : va_D A [(mo0, .inr (8, [nV mL, .ref mA1, nV mAt, .ref mA3, .ref mA4, .ref mA5, .ref mA6, .ref mA7, .ref mA8, .ref mA9, .ref mA10, .ref mA11, .ref mA12, nV kz, nV dn, .ref mA15, .ref mA16, .ref mA17, mV (xa / aa), mV mBe, .ref mA20, zV mCl]))] := hD
        refine lv_aload_n C.1 C.2.1 dX10_lowest_39 rfl (lv_at hl 2 rfl) ?_
        refine lv_lload_n C.1 C.2.1 dX10_lowest_40 rfl (lv_at hl 4 rfl) ?_
        refine lv_lload C.1 C.2.1 dX10_lowest_41 (lv_at hl 1 rfl) ?_
        refine r_ldivN C dX10_lowest_43 (by omega) (by omega) ?_
        refine r_put (v := mV (xb / aa)) C hK hP hD hS kw_X10 tyX10_ok nmX10 (ci := 8) rfl 0 19 (by decide) kf_X10_192 rfl rfl rfl rfl rfl (Nat.le_of_ble_eq_true rfl) dX10_lowest_44 (fun H locs hP hD hS => ?_)
        have hP : va_P g.1 vwCl [(mo0, .inr (8, [nV mL, .ref mA1, nV mAt, .ref mA3, .ref mA4, .ref mA5, .ref mA6, .ref mA7, .ref mA8, .ref mA9, .ref mA10, .ref mA11, .ref mA12, nV kz, nV dn, .ref mA15, .ref mA16, .ref mA17, mV (xa / aa), mV (xb / aa), .ref mA20, zV mCl]))] H := hP
        have hD : va_D A [(mo0, .inr (8, [nV mL, .ref mA1, nV mAt, .ref mA3, .ref mA4, .ref mA5, .ref mA6, .ref mA7, .ref mA8, .ref mA9, .ref mA10, .ref mA11, .ref mA12, nV kz, nV dn, .ref mA15, .ref mA16, .ref mA17, mV (xa / aa), mV (xb / aa), .ref mA20, zV mCl]))] := hD
        exact ret (()) dX10_lowest_47 hS (by rw [hge] at hP; exact hP) (trivial)
      refine lv_lload C.1 C.2.1 dX10_lowest_13 (lv_at hl 1 rfl) ?_
      refine lv_lload C.1 C.2.1 dX10_lowest_15 (lv_at hl 0 rfl) ?_
      refine r_lremN C dX10_lowest_17 (by omega) (by omega) ?_
      have hq_2 : aa % bb < bb := Nat.mod_lt _ (by omega)
      refine lv_lstore (lv' := [(9, mV (aa % bb)), (7, mV bb), (5, mV aa), (0, .ref mo0), (1, mV xa), (3, mV xb)]) C.1 C.2.1 dX10_lowest_18 hl (by decide) rfl (fun ls hl => ?_)
      refine lv_lload C.1 C.2.1 dX10_lowest_20 (lv_at hl 1 rfl) ?_
      refine lv_lstore (lv' := [(5, mV bb), (9, mV (aa % bb)), (7, mV bb), (0, .ref mo0), (1, mV xa), (3, mV xb)]) C.1 C.2.1 dX10_lowest_22 hl (by decide) rfl (fun ls hl => ?_)
      refine lv_lload C.1 C.2.1 dX10_lowest_24 (lv_at hl 1 rfl) ?_
      refine lv_lstore (lv' := [(7, mV (aa % bb)), (5, mV bb), (9, mV (aa % bb)), (0, .ref mo0), (1, mV xa), (3, mV xb)]) C.1 C.2.1 dX10_lowest_26 hl (by decide) rfl (fun ls hl => ?_)
      refine r_goto 6 C dX10_lowest_28 rfl ?_
      exact ih_6 bb (aa % bb) _ _ _ (by rw [← hgc, Nat.gcd_comm bb, ← Nat.gcd_rec, Nat.gcd_comm]) (⟨⟨by omega, by omega⟩, by omega⟩) (by omega) hP hD hS (lv_sub hl [0, 1, 3, 4, 5] rfl)
  exact L6 (xb + 1) xa xb _ _ _ (rfl) (by first | assumption | omega) (Nat.lt_succ_self _) hP hD hS (lv_sub hl [0, 1, 2, 3, 4] rfl)
set_option maxHeartbeats 4000000 in
set_option maxRecDepth 100000 in
theorem c_X10_sent (l : Launch) (g : GG) (mo0 : Nat) (mA1 : Nat) (mA3 : Nat) (mA4 : Nat) (mA5 : Nat) (mA6 : Nat) (mA7 : Nat) (mA8 : Nat) (mA9 : Nat) (mA10 : Nat) (mA11 : Nat) (mA12 : Nat) (mA15 : Nat) (mA16 : Nat) (mA17 : Nat) (mA20 : Nat) (mL : Nat) (mAt : Nat) (kz : Nat) (dn : Nat) (mAb : Nat) (mBe : Nat) (mCl : Int) (mtd : Nat → Nat) (mws : Nat → Nat) (mwd : Nat → Nat) (mcs : Nat → Nat) (mca : Nat → Nat) (sg : Nat → Nat) (k : Nat) (bi : Nat) (mo : Nat) (hu : Nat → Nat) (mi : Nat → Nat) (nc : Nat) (x : Int) (y : Int) (w : Int) (z : Int) (hk0 : mws 0 = k) (hk : k ≤ 8) (hsg : ∀ j, sg j < 72) (hwd : ∀ j, j < k → mwd (2 * j) = sg j) (hb0 : mtd 0 = bi) (hb1 : mtd 1 = mo) (hbm : (1 ≤ bi ∧ bi ≤ 9) ∧ (1 ≤ mo ∧ mo ≤ 9)) (hc0 : mcs 0 = nc) (hnc : nc ≤ 5) (hhu : ∀ j, hu j < 10) (hmi : ∀ j, mi j ≤ 6) (hch : ∀ j, j < nc → mca (2 * j) = hu j) (hcm : ∀ j, j < nc → mca (2 * j + 1) = mi j) (hx : rg x) (hy : rg y) (hw : rg w) (hz : rg z) : WRi g l yX10_sent cX10_sent 5 (some .int) 4 [(mo0, .inr (8, [nV mL, .ref mA1, nV mAt, .ref mA3, .ref mA4, .ref mA5, .ref mA6, .ref mA7, .ref mA8, .ref mA9, .ref mA10, .ref mA11, .ref mA12, nV kz, nV dn, .ref mA15, .ref mA16, .ref mA17, mV mAb, mV mBe, .ref mA20, zV mCl])), (mA3, cN g 4 mtd), (mA4, cN g 2 mws), (mA5, cN g 32 mwd), (mA6, cN g 2 mcs), (mA7, cN g 20 mca)] [.ref mo0, zV x, zV y, zV w, zV z] (fun r (uq_ : Nat × Nat) => match uq_ with | (ab1, be1) => r = iI (sSent sg hu mi k nc bi mo x y w z)) (fun (uq_ : Nat × Nat) => match uq_ with | (ab1, be1) => [(mo0, .inr (8, [nV mL, .ref mA1, nV mAt, .ref mA3, .ref mA4, .ref mA5, .ref mA6, .ref mA7, .ref mA8, .ref mA9, .ref mA10, .ref mA11, .ref mA12, nV kz, nV dn, .ref mA15, .ref mA16, .ref mA17, mV ab1, mV be1, .ref mA20, zV mCl])), (mA3, cN g 4 mtd), (mA4, cN g 2 mws), (mA5, cN g 32 mwd), (mA6, cN g 2 mcs), (mA7, cN g 20 mca)]) := by
  refine wr_startI (by decide +kernel) (Nat.le_of_ble_eq_true rfl) ?_
  intro p e s m args below meth c Q A ls C hK hA ret hP hD hS hl
  have C : CT p s m args meth c cX10_sent RX10 5 := C
  have hl : lv_has ls 5 [(0, .ref mo0), (1, zV x), (2, zV y), (3, zV w), (4, zV z)] := hl
  refine lv_aload_n C.1 C.2.1 dX10_sent_0 rfl (lv_at hl 0 rfl) ?_
  refine lv_iload_n C.1 C.2.1 dX10_sent_1 rfl (lv_at hl 1 rfl) ?_
  refine ro_callV (As := [zV x]) (rest := []) C hK (c_X10_isWord l g mo0 mA1 mA3 mA4 mA5 mA6 mA7 mA8 mA9 mA10 mA11 mA12 mA15 mA16 mA17 mA20 mL mAt kz dn mAb mBe mCl mws k x (by first | assumption | omega) (by first | assumption | omega) (by first | assumption | exact ⟨by omega, by omega⟩)) (hP.sub (ws' := [(mo0, .inr (8, [nV mL, .ref mA1, nV mAt, .ref mA3, .ref mA4, .ref mA5, .ref mA6, .ref mA7, .ref mA8, .ref mA9, .ref mA10, .ref mA11, .ref mA12, nV kz, nV dn, .ref mA15, .ref mA16, .ref mA17, mV mAb, mV mBe, .ref mA20, zV mCl])), (mA4, cN g 2 mws)]) [0, 2] rfl) (ci := 8) (q0 := 0) rfl rfl kc_X10_isWord kl_X10_111 kn_X10 ki_X10_isWord ke_X10_isWord nk_X10_isWord (rm_lt (by decide) (by decide)) hl rfl (Nat.le_of_ble_eq_true rfl) dX10_sent_2 (fun r_1 hr_2 => ?_)
  subst hr_2
  refine r_beq 34 C dX10_sent_5 rfl (fun h_3 => ?_) (fun h_3 => ?_)
  · skip
    refine r_iconstZ C dX10_sent_34 ?_
    exact ret ((mAb, mBe)) dX10_sent_35 hS hP (by unfold sSent; rw [if_neg (by omega)])
  refine lv_aload_n C.1 C.2.1 dX10_sent_8 rfl (lv_at hl 0 rfl) ?_
  refine lv_iload_n C.1 C.2.1 dX10_sent_9 rfl (lv_at hl 2 rfl) ?_
  refine ro_callV (As := [zV y]) (rest := []) C hK (c_X10_isCarrier l g mo0 mA1 mA3 mA4 mA5 mA6 mA7 mA8 mA9 mA10 mA11 mA12 mA15 mA16 mA17 mA20 mL mAt kz dn mAb mBe mCl mcs nc y (by first | assumption | omega) (by first | assumption | omega) (by first | assumption | exact ⟨by omega, by omega⟩)) (hP.sub (ws' := [(mo0, .inr (8, [nV mL, .ref mA1, nV mAt, .ref mA3, .ref mA4, .ref mA5, .ref mA6, .ref mA7, .ref mA8, .ref mA9, .ref mA10, .ref mA11, .ref mA12, nV kz, nV dn, .ref mA15, .ref mA16, .ref mA17, mV mAb, mV mBe, .ref mA20, zV mCl])), (mA6, cN g 2 mcs)]) [0, 4] rfl) (ci := 8) (q0 := 0) rfl rfl kc_X10_isCarrier kl_X10_195 kn_X10 ki_X10_isCarrier ke_X10_isCarrier nk_X10_isCarrier (rm_lt (by decide) (by decide)) hl rfl (Nat.le_of_ble_eq_true rfl) dX10_sent_10 (fun r_4 hr_5 => ?_)
  subst hr_5
  refine r_beq 34 C dX10_sent_13 rfl (fun h_6 => ?_) (fun h_6 => ?_)
  · skip
    refine r_iconstZ C dX10_sent_34 ?_
    exact ret ((mAb, mBe)) dX10_sent_35 hS hP (by unfold sSent; rw [if_neg (by omega)])
  refine lv_iload_n C.1 C.2.1 dX10_sent_16 rfl (lv_at hl 3 rfl) ?_
  refine ro_callS (As := [zV w]) (rest := []) C hK (c_X10_isAge l g w (by first | assumption | exact ⟨by omega, by omega⟩)) (hP.sub (ws' := []) [] rfl) kc_X10_isAge kl_X10_198 kn_X10 ks_X10_isAge nk_X10_isAge (rm_lt (by decide) (by decide)) hl rfl (Nat.le_of_ble_eq_true rfl) dX10_sent_17 (fun r_7 hr_8 => ?_)
  subst hr_8
  refine r_beq 34 C dX10_sent_20 rfl (fun h_9 => ?_) (fun h_9 => ?_)
  · skip
    refine r_iconstZ C dX10_sent_34 ?_
    exact ret ((mAb, mBe)) dX10_sent_35 hS hP (by unfold sSent; rw [if_neg (by omega)])
  refine lv_iload C.1 C.2.1 dX10_sent_23 (lv_at hl 4 rfl) ?_
  refine r_i2l C dX10_sent_25 (⟨by omega, by omega⟩) ?_
  refine r_lconst 0 C dX10_sent_26 rfl ?_
  refine r_lconst 1 C dX10_sent_27 rfl ?_
  refine ro_callS (As := [jV z, mV 0, mV 1]) (rest := []) C hK (c_X10_in l g z ((0 : Nat) : Int) ((1 : Nat) : Int) (by first | assumption | exact ⟨by omega, by omega⟩) (by first | assumption | exact ⟨by omega, by omega⟩) (by first | assumption | exact ⟨by omega, by omega⟩)) (hP.sub (ws' := []) [] rfl) kc_X10_in kl_X10_65 kn_X10 ks_X10_in nk_X10_in (rm_lt (by decide) (by decide)) hl rfl (Nat.le_of_ble_eq_true rfl) dX10_sent_28 (fun r_10 hr_11 => ?_)
  subst hr_11
  refine r_bne 36 C dX10_sent_31 rfl (fun h_12 => ?_) (fun h_12 => ?_)
  · skip
    obtain ⟨xn, rfl⟩ : ∃ n : Nat, x = (n : Int) := ⟨x.toNat, by omega⟩
    obtain ⟨yn, rfl⟩ : ∃ n : Nat, y = (n : Int) := ⟨y.toNat, by omega⟩
    obtain ⟨wn, rfl⟩ : ∃ n : Nat, w = (n : Int) := ⟨w.toNat, by omega⟩
    obtain ⟨zn, rfl⟩ : ∃ n : Nat, z = (n : Int) := ⟨z.toNat, by omega⟩
    have hl : lv_has ls 5 [(0, .ref mo0), (1, nV xn), (2, nV yn), (3, nV wn), (4, nV zn)] := hl
    refine lv_aload_n C.1 C.2.1 dX10_sent_36 rfl (lv_at hl 0 rfl) ?_
    refine lv_aload_n C.1 C.2.1 dX10_sent_37 rfl (lv_at hl 0 rfl) ?_
    refine lv_iload_n C.1 C.2.1 dX10_sent_38 rfl (lv_at hl 1 rfl) ?_
    refine lv_iload_n C.1 C.2.1 dX10_sent_39 rfl (lv_at hl 2 rfl) ?_
    refine lv_iload_n C.1 C.2.1 dX10_sent_40 rfl (lv_at hl 3 rfl) ?_
    refine ro_callVL (As := [nV xn, nV yn, nV wn]) (rest := [.ref mo0]) C hK (c_X10_reads l g mo0 mA1 mA3 mA4 mA5 mA6 mA7 mA8 mA9 mA10 mA11 mA12 mA15 mA16 mA17 mA20 mL mAt kz dn mAb mBe mCl mtd mws mwd mcs mca sg k bi mo hu mi nc xn yn wn (by first | assumption | omega) (by first | assumption | omega) (by first | assumption | omega) (by first | assumption | omega) (by first | assumption | omega) (by first | assumption | omega) (by first | assumption | omega) (by first | assumption | omega) (by first | assumption | omega) (by first | assumption | omega) (by first | assumption | omega) (by first | assumption | omega) (by first | assumption | omega) (by first | assumption | omega) (by first | assumption | omega) (by first | assumption | omega)) hP (ci := 8) (q0 := 0) rfl rfl kc_X10_reads kl_X10_201 kn_X10 ki_X10_reads ke_X10_reads nk_X10_reads (rm_lt (by decide) (by decide)) hl rfl (Nat.le_of_ble_eq_true rfl) dX10_sent_41 (fun r_13 hr_14 => ?_)
    subst hr_14
    have hf_15 := wy_bd bi mo (sg (xn)) (wn) (hu (yn)) (mi (yn)) (hhu (yn)) (hmi (yn))
    have wb1 := wy_bd bi mo (sg xn) wn (hu yn) (mi yn) (hhu yn) (hmi yn)
    have tb1 := ten_bd (hmi yn)
    refine r_nameM (fun p2 hp2 => ?_)
    refine lv_aload_n C.1 C.2.1 dX10_sent_44 rfl (lv_at hl 0 rfl) ?_
    refine lv_iload_n C.1 C.2.1 dX10_sent_45 rfl (lv_at hl 2 rfl) ?_
    refine ro_callVL (As := [nV yn]) (rest := [mV p2, .ref mo0]) C hK (c_X10_tens l g mo0 mA1 mA3 mA4 mA5 mA6 mA7 mA8 mA9 mA10 mA11 mA12 mA15 mA16 mA17 mA20 mL mAt kz dn mAb mBe mCl mcs mca hu mi nc yn (by first | assumption | omega) (by first | assumption | omega) (by first | assumption | omega) (by first | assumption | omega) (by first | assumption | omega) (by first | assumption | omega) (by first | assumption | omega)) (hP.sub (ws' := [(mo0, .inr (8, [nV mL, .ref mA1, nV mAt, .ref mA3, .ref mA4, .ref mA5, .ref mA6, .ref mA7, .ref mA8, .ref mA9, .ref mA10, .ref mA11, .ref mA12, nV kz, nV dn, .ref mA15, .ref mA16, .ref mA17, mV mAb, mV mBe, .ref mA20, zV mCl])), (mA6, cN g 2 mcs), (mA7, cN g 20 mca)]) [0, 4, 5] rfl) (ci := 8) (q0 := 0) rfl rfl kc_X10_tens kl_X10_205 kn_X10 ki_X10_tens ke_X10_tens nk_X10_tens (rm_lt (by decide) (by decide)) hl rfl (Nat.le_of_ble_eq_true rfl) dX10_sent_46 (fun r_16 hr_17 => ?_)
    subst hr_17
    have hf_18 := ten_bd (hmi (yn))
    refine r_nameM (fun p1 hp1 => ?_)
    refine wr_callVV (As := [mV p2, mV p1]) (rest := []) C hK (c_X10_lowest l g mo0 mA1 mA3 mA4 mA5 mA6 mA7 mA8 mA9 mA10 mA11 mA12 mA15 mA16 mA17 mA20 mL mAt kz dn mAb mBe mCl p2 p1 (by first | assumption | omega) (by first | assumption | omega)) [0] rfl (fun _ => rfl) (by decide) hP hD hS hA (ci := 8) (q0 := 0) rfl rfl kc_X10_lowest kl_X10_209 kn_X10 ki_X10_lowest ke_X10_lowest nk_X10_lowest (rm_lt (by decide) (by decide)) hl rfl (Nat.le_of_ble_eq_true rfl) dX10_sent_49 (fun u_21 H locs hr_20 hP hD hS => ?_)
    have hP : va_P g.1 vwCl [(mo0, .inr (8, [nV mL, .ref mA1, nV mAt, .ref mA3, .ref mA4, .ref mA5, .ref mA6, .ref mA7, .ref mA8, .ref mA9, .ref mA10, .ref mA11, .ref mA12, nV kz, nV dn, .ref mA15, .ref mA16, .ref mA17, mV (p2 / Nat.gcd p2 p1), mV (p1 / Nat.gcd p2 p1), .ref mA20, zV mCl])), (mA3, cN g 4 mtd), (mA4, cN g 2 mws), (mA5, cN g 32 mwd), (mA6, cN g 2 mcs), (mA7, cN g 20 mca)] H := hP
    have hD : va_D A [(mo0, .inr (8, [nV mL, .ref mA1, nV mAt, .ref mA3, .ref mA4, .ref mA5, .ref mA6, .ref mA7, .ref mA8, .ref mA9, .ref mA10, .ref mA11, .ref mA12, nV kz, nV dn, .ref mA15, .ref mA16, .ref mA17, mV (p2 / Nat.gcd p2 p1), mV (p1 / Nat.gcd p2 p1), .ref mA20, zV mCl])), (mA3, cN g 4 mtd), (mA4, cN g 2 mws), (mA5, cN g 32 mwd), (mA6, cN g 2 mcs), (mA7, cN g 20 mca)] := hD
    refine lv_iload C.1 C.2.1 dX10_sent_52 (lv_at hl 4 rfl) ?_
    refine r_ine 64 C dX10_sent_54 rfl (rgN (by omega)) (fun h_22 => ?_) (fun h_22 => ?_)
    · skip
      refine lv_aload_n C.1 C.2.1 dX10_sent_64 rfl (lv_at hl 0 rfl) ?_
      refine r_get C hK hP kw_X10 (ci := 8) rfl 0 19 (by decide) kf_X10_192 rfl rfl dX10_sent_65 ?_
      refine r_l2i C dX10_sent_68 ?_
      exact ret ((p2 / Nat.gcd p2 p1, p1 / Nat.gcd p2 p1)) dX10_sent_69 hS hP (by unfold sSent; rw [if_pos (by omega)]; exact iI_cast (congrArg (fun q : Nat => (q : Int)) (by rw [hp1, hp2]; unfold low; rw [if_neg (show ¬ (zn : Int).toNat = 0 by omega)] <;> rfl)))
    refine lv_aload_n C.1 C.2.1 dX10_sent_57 rfl (lv_at hl 0 rfl) ?_
    refine r_get C hK hP kw_X10 (ci := 8) rfl 0 18 (by decide) kf_X10_188 rfl rfl dX10_sent_58 ?_
    refine r_goto 68 C dX10_sent_61 rfl ?_
    refine r_l2i C dX10_sent_68 ?_
    exact ret ((p2 / Nat.gcd p2 p1, p1 / Nat.gcd p2 p1)) dX10_sent_69 hS hP (by unfold sSent; rw [if_pos (by omega)]; exact iI_cast (congrArg (fun q : Nat => (q : Int)) (by rw [hp1, hp2]; unfold low; rw [if_pos (show (zn : Int).toNat = 0 by omega)] <;> rfl)))
  refine r_iconstZ C dX10_sent_34 ?_
  exact ret ((mAb, mBe)) dX10_sent_35 hS hP (by unfold sSent; rw [if_neg (by omega)])
set_option maxHeartbeats 4000000 in
set_option maxRecDepth 100000 in
theorem c_X10_two (l : Launch) (g : GG) (mo0 : Nat) (mA1 : Nat) (mA3 : Nat) (mA4 : Nat) (mA5 : Nat) (mA6 : Nat) (mA7 : Nat) (mA8 : Nat) (mA9 : Nat) (mA10 : Nat) (mA11 : Nat) (mA12 : Nat) (mA15 : Nat) (mA16 : Nat) (mA17 : Nat) (mA20 : Nat) (mL : Nat) (mAt : Nat) (kz : Nat) (dn : Nat) (mAb : Nat) (mBe : Nat) (mCl : Int) (mtd : Nat → Nat) (mws : Nat → Nat) (mwd : Nat → Nat) (mcs : Nat → Nat) (mca : Nat → Nat) (sg : Nat → Nat) (k : Nat) (bi : Nat) (mo : Nat) (hu : Nat → Nat) (mi : Nat → Nat) (nc : Nat) (x : Int) (y : Int) (w : Int) (z : Int) (z2 : Int) (hk0 : mws 0 = k) (hk : k ≤ 8) (hsg : ∀ j, sg j < 72) (hwd : ∀ j, j < k → mwd (2 * j) = sg j) (hb0 : mtd 0 = bi) (hb1 : mtd 1 = mo) (hbm : (1 ≤ bi ∧ bi ≤ 9) ∧ (1 ≤ mo ∧ mo ≤ 9)) (hc0 : mcs 0 = nc) (hnc : nc ≤ 5) (hhu : ∀ j, hu j < 10) (hmi : ∀ j, mi j ≤ 6) (hch : ∀ j, j < nc → mca (2 * j) = hu j) (hcm : ∀ j, j < nc → mca (2 * j + 1) = mi j) (hx : rg x) (hy : rg y) (hw : rg w) (hz : rg z) (hz2 : rg z2) : WRl g l yX10_two cX10_two 8 (some .long) 4 [(mo0, .inr (8, [nV mL, .ref mA1, nV mAt, .ref mA3, .ref mA4, .ref mA5, .ref mA6, .ref mA7, .ref mA8, .ref mA9, .ref mA10, .ref mA11, .ref mA12, nV kz, nV dn, .ref mA15, .ref mA16, .ref mA17, mV mAb, mV mBe, .ref mA20, zV mCl])), (mA3, cN g 4 mtd), (mA4, cN g 2 mws), (mA5, cN g 32 mwd), (mA6, cN g 2 mcs), (mA7, cN g 20 mca)] [.ref mo0, zV x, zV y, zV w, zV z, zV z2] (fun r (uq_ : Nat × Nat) => match uq_ with | (ab1, be1) => r = lI (sTwo sg hu mi k nc bi mo x y w z z2)) (fun (uq_ : Nat × Nat) => match uq_ with | (ab1, be1) => [(mo0, .inr (8, [nV mL, .ref mA1, nV mAt, .ref mA3, .ref mA4, .ref mA5, .ref mA6, .ref mA7, .ref mA8, .ref mA9, .ref mA10, .ref mA11, .ref mA12, nV kz, nV dn, .ref mA15, .ref mA16, .ref mA17, mV ab1, mV be1, .ref mA20, zV mCl])), (mA3, cN g 4 mtd), (mA4, cN g 2 mws), (mA5, cN g 32 mwd), (mA6, cN g 2 mcs), (mA7, cN g 20 mca)]) := by
  refine wr_startL (by decide +kernel) (Nat.le_of_ble_eq_true rfl) ?_
  intro p e s m args below meth c Q A ls C hK hA ret hP hD hS hl
  have C : CT p s m args meth c cX10_two RX10 8 := C
  have hl : lv_has ls 8 [(0, .ref mo0), (1, zV x), (2, zV y), (3, zV w), (4, zV z), (5, zV z2)] := hl
  refine lv_aload_n C.1 C.2.1 dX10_two_0 rfl (lv_at hl 0 rfl) ?_
  refine lv_iload_n C.1 C.2.1 dX10_two_1 rfl (lv_at hl 1 rfl) ?_
  refine ro_callV (As := [zV x]) (rest := []) C hK (c_X10_isWord l g mo0 mA1 mA3 mA4 mA5 mA6 mA7 mA8 mA9 mA10 mA11 mA12 mA15 mA16 mA17 mA20 mL mAt kz dn mAb mBe mCl mws k x (by first | assumption | omega) (by first | assumption | omega) (by first | assumption | exact ⟨by omega, by omega⟩)) (hP.sub (ws' := [(mo0, .inr (8, [nV mL, .ref mA1, nV mAt, .ref mA3, .ref mA4, .ref mA5, .ref mA6, .ref mA7, .ref mA8, .ref mA9, .ref mA10, .ref mA11, .ref mA12, nV kz, nV dn, .ref mA15, .ref mA16, .ref mA17, mV mAb, mV mBe, .ref mA20, zV mCl])), (mA4, cN g 2 mws)]) [0, 2] rfl) (ci := 8) (q0 := 0) rfl rfl kc_X10_isWord kl_X10_111 kn_X10 ki_X10_isWord ke_X10_isWord nk_X10_isWord (rm_lt (by decide) (by decide)) hl rfl (Nat.le_of_ble_eq_true rfl) dX10_two_2 (fun r_1 hr_2 => ?_)
  subst hr_2
  refine r_beq 48 C dX10_two_5 rfl (fun h_3 => ?_) (fun h_3 => ?_)
  · skip
    refine r_ldc2 (-1) C kv_X10_173 dX10_two_48 rfl ?_
    exact ret ((mAb, mBe)) dX10_two_51 hS hP (by unfold sTwo; rw [if_neg (by omega)])
  refine lv_aload_n C.1 C.2.1 dX10_two_8 rfl (lv_at hl 0 rfl) ?_
  refine lv_iload_n C.1 C.2.1 dX10_two_9 rfl (lv_at hl 2 rfl) ?_
  refine ro_callV (As := [zV y]) (rest := []) C hK (c_X10_isCarrier l g mo0 mA1 mA3 mA4 mA5 mA6 mA7 mA8 mA9 mA10 mA11 mA12 mA15 mA16 mA17 mA20 mL mAt kz dn mAb mBe mCl mcs nc y (by first | assumption | omega) (by first | assumption | omega) (by first | assumption | exact ⟨by omega, by omega⟩)) (hP.sub (ws' := [(mo0, .inr (8, [nV mL, .ref mA1, nV mAt, .ref mA3, .ref mA4, .ref mA5, .ref mA6, .ref mA7, .ref mA8, .ref mA9, .ref mA10, .ref mA11, .ref mA12, nV kz, nV dn, .ref mA15, .ref mA16, .ref mA17, mV mAb, mV mBe, .ref mA20, zV mCl])), (mA6, cN g 2 mcs)]) [0, 4] rfl) (ci := 8) (q0 := 0) rfl rfl kc_X10_isCarrier kl_X10_195 kn_X10 ki_X10_isCarrier ke_X10_isCarrier nk_X10_isCarrier (rm_lt (by decide) (by decide)) hl rfl (Nat.le_of_ble_eq_true rfl) dX10_two_10 (fun r_4 hr_5 => ?_)
  subst hr_5
  refine r_beq 48 C dX10_two_13 rfl (fun h_6 => ?_) (fun h_6 => ?_)
  · skip
    refine r_ldc2 (-1) C kv_X10_173 dX10_two_48 rfl ?_
    exact ret ((mAb, mBe)) dX10_two_51 hS hP (by unfold sTwo; rw [if_neg (by omega)])
  refine lv_aload_n C.1 C.2.1 dX10_two_16 rfl (lv_at hl 0 rfl) ?_
  refine lv_iload_n C.1 C.2.1 dX10_two_17 rfl (lv_at hl 3 rfl) ?_
  refine ro_callV (As := [zV w]) (rest := []) C hK (c_X10_isCarrier l g mo0 mA1 mA3 mA4 mA5 mA6 mA7 mA8 mA9 mA10 mA11 mA12 mA15 mA16 mA17 mA20 mL mAt kz dn mAb mBe mCl mcs nc w (by first | assumption | omega) (by first | assumption | omega) (by first | assumption | exact ⟨by omega, by omega⟩)) (hP.sub (ws' := [(mo0, .inr (8, [nV mL, .ref mA1, nV mAt, .ref mA3, .ref mA4, .ref mA5, .ref mA6, .ref mA7, .ref mA8, .ref mA9, .ref mA10, .ref mA11, .ref mA12, nV kz, nV dn, .ref mA15, .ref mA16, .ref mA17, mV mAb, mV mBe, .ref mA20, zV mCl])), (mA6, cN g 2 mcs)]) [0, 4] rfl) (ci := 8) (q0 := 0) rfl rfl kc_X10_isCarrier kl_X10_195 kn_X10 ki_X10_isCarrier ke_X10_isCarrier nk_X10_isCarrier (rm_lt (by decide) (by decide)) hl rfl (Nat.le_of_ble_eq_true rfl) dX10_two_18 (fun r_7 hr_8 => ?_)
  subst hr_8
  refine r_beq 48 C dX10_two_21 rfl (fun h_9 => ?_) (fun h_9 => ?_)
  · skip
    refine r_ldc2 (-1) C kv_X10_173 dX10_two_48 rfl ?_
    exact ret ((mAb, mBe)) dX10_two_51 hS hP (by unfold sTwo; rw [if_neg (by omega)])
  refine lv_iload_n C.1 C.2.1 dX10_two_24 rfl (lv_at hl 2 rfl) ?_
  refine lv_iload_n C.1 C.2.1 dX10_two_25 rfl (lv_at hl 3 rfl) ?_
  refine r_ceq 48 C dX10_two_26 rfl ⟨⟨by omega, by omega⟩, ⟨by omega, by omega⟩⟩ (fun h_10 => ?_) (fun h_10 => ?_)
  · skip
    refine r_ldc2 (-1) C kv_X10_173 dX10_two_48 rfl ?_
    exact ret ((mAb, mBe)) dX10_two_51 hS hP (by unfold sTwo; rw [if_neg (by omega)])
  refine lv_iload C.1 C.2.1 dX10_two_29 (lv_at hl 4 rfl) ?_
  refine ro_callS (As := [zV z]) (rest := []) C hK (c_X10_isAge l g z (by first | assumption | exact ⟨by omega, by omega⟩)) (hP.sub (ws' := []) [] rfl) kc_X10_isAge kl_X10_198 kn_X10 ks_X10_isAge nk_X10_isAge (rm_lt (by decide) (by decide)) hl rfl (Nat.le_of_ble_eq_true rfl) dX10_two_31 (fun r_11 hr_12 => ?_)
  subst hr_12
  refine r_beq 48 C dX10_two_34 rfl (fun h_13 => ?_) (fun h_13 => ?_)
  · skip
    refine r_ldc2 (-1) C kv_X10_173 dX10_two_48 rfl ?_
    exact ret ((mAb, mBe)) dX10_two_51 hS hP (by unfold sTwo; rw [if_neg (by omega)])
  refine lv_iload C.1 C.2.1 dX10_two_37 (lv_at hl 5 rfl) ?_
  refine r_i2l C dX10_two_39 (⟨by omega, by omega⟩) ?_
  refine r_lconst 0 C dX10_two_40 rfl ?_
  refine r_lconst 1 C dX10_two_41 rfl ?_
  refine ro_callS (As := [jV z2, mV 0, mV 1]) (rest := []) C hK (c_X10_in l g z2 ((0 : Nat) : Int) ((1 : Nat) : Int) (by first | assumption | exact ⟨by omega, by omega⟩) (by first | assumption | exact ⟨by omega, by omega⟩) (by first | assumption | exact ⟨by omega, by omega⟩)) (hP.sub (ws' := []) [] rfl) kc_X10_in kl_X10_65 kn_X10 ks_X10_in nk_X10_in (rm_lt (by decide) (by decide)) hl rfl (Nat.le_of_ble_eq_true rfl) dX10_two_42 (fun r_14 hr_15 => ?_)
  subst hr_15
  refine r_bne 52 C dX10_two_45 rfl (fun h_16 => ?_) (fun h_16 => ?_)
  · skip
    obtain ⟨xn, rfl⟩ : ∃ n : Nat, x = (n : Int) := ⟨x.toNat, by omega⟩
    obtain ⟨yn, rfl⟩ : ∃ n : Nat, y = (n : Int) := ⟨y.toNat, by omega⟩
    obtain ⟨wn, rfl⟩ : ∃ n : Nat, w = (n : Int) := ⟨w.toNat, by omega⟩
    obtain ⟨zn, rfl⟩ : ∃ n : Nat, z = (n : Int) := ⟨z.toNat, by omega⟩
    obtain ⟨z2n, rfl⟩ : ∃ n : Nat, z2 = (n : Int) := ⟨z2.toNat, by omega⟩
    have hl : lv_has ls 8 [(0, .ref mo0), (1, nV xn), (2, nV yn), (3, nV wn), (4, nV zn), (5, nV z2n)] := hl
    have tb1 := ten_bd (hmi yn)
    have tb2 := ten_bd (hmi wn)
    have wb1 := wy_bd bi mo (sg xn) zn (hu yn) (mi yn) (hhu yn) (hmi yn)
    have wb2 := wy_bd bi mo (sg xn) zn (hu wn) (mi wn) (hhu wn) (hmi wn)
    refine lv_aload_n C.1 C.2.1 dX10_two_52 rfl (lv_at hl 0 rfl) ?_
    refine lv_iload_n C.1 C.2.1 dX10_two_53 rfl (lv_at hl 2 rfl) ?_
    refine ro_callVL (As := [nV yn]) (rest := []) C hK (c_X10_tens l g mo0 mA1 mA3 mA4 mA5 mA6 mA7 mA8 mA9 mA10 mA11 mA12 mA15 mA16 mA17 mA20 mL mAt kz dn mAb mBe mCl mcs mca hu mi nc yn (by first | assumption | omega) (by first | assumption | omega) (by first | assumption | omega) (by first | assumption | omega) (by first | assumption | omega) (by first | assumption | omega) (by first | assumption | omega)) (hP.sub (ws' := [(mo0, .inr (8, [nV mL, .ref mA1, nV mAt, .ref mA3, .ref mA4, .ref mA5, .ref mA6, .ref mA7, .ref mA8, .ref mA9, .ref mA10, .ref mA11, .ref mA12, nV kz, nV dn, .ref mA15, .ref mA16, .ref mA17, mV mAb, mV mBe, .ref mA20, zV mCl])), (mA6, cN g 2 mcs), (mA7, cN g 20 mca)]) [0, 4, 5] rfl) (ci := 8) (q0 := 0) rfl rfl kc_X10_tens kl_X10_205 kn_X10 ki_X10_tens ke_X10_tens nk_X10_tens (rm_lt (by decide) (by decide)) hl rfl (Nat.le_of_ble_eq_true rfl) dX10_two_54 (fun r_17 hr_18 => ?_)
    subst hr_18
    have hf_19 := ten_bd (hmi (yn))
    refine lv_aload_n C.1 C.2.1 dX10_two_57 rfl (lv_at hl 0 rfl) ?_
    refine lv_iload_n C.1 C.2.1 dX10_two_58 rfl (lv_at hl 3 rfl) ?_
    refine ro_callVL (As := [nV wn]) (rest := [mV (10 ^ mi yn)]) C hK (c_X10_tens l g mo0 mA1 mA3 mA4 mA5 mA6 mA7 mA8 mA9 mA10 mA11 mA12 mA15 mA16 mA17 mA20 mL mAt kz dn mAb mBe mCl mcs mca hu mi nc wn (by first | assumption | omega) (by first | assumption | omega) (by first | assumption | omega) (by first | assumption | omega) (by first | assumption | omega) (by first | assumption | omega) (by first | assumption | omega)) (hP.sub (ws' := [(mo0, .inr (8, [nV mL, .ref mA1, nV mAt, .ref mA3, .ref mA4, .ref mA5, .ref mA6, .ref mA7, .ref mA8, .ref mA9, .ref mA10, .ref mA11, .ref mA12, nV kz, nV dn, .ref mA15, .ref mA16, .ref mA17, mV mAb, mV mBe, .ref mA20, zV mCl])), (mA6, cN g 2 mcs), (mA7, cN g 20 mca)]) [0, 4, 5] rfl) (ci := 8) (q0 := 0) rfl rfl kc_X10_tens kl_X10_205 kn_X10 ki_X10_tens ke_X10_tens nk_X10_tens (rm_lt (by decide) (by decide)) hl rfl (Nat.le_of_ble_eq_true rfl) dX10_two_59 (fun r_20 hr_21 => ?_)
    subst hr_21
    have hf_22 := ten_bd (hmi (wn))
    refine r_lmulN C dX10_two_62 ?_
    refine r_nameM (fun p6 hp6 => ?_)
    have hp8 : 1 ≤ p6 ∧ p6 ≤ 1000000000000 := by rw [hp6]; exact ⟨Nat.mul_pos (by omega) (by omega), Nat.le_trans (Nat.mul_le_mul (show 10 ^ mi yn ≤ 1000000 by omega) (show 10 ^ mi wn ≤ 1000000 by omega)) (by decide)⟩
    refine lv_lstore (lv' := [(6, mV p6), (0, .ref mo0), (1, nV xn), (2, nV yn), (3, nV wn), (4, nV zn), (5, nV z2n)]) C.1 C.2.1 dX10_two_63 hl (by decide) rfl (fun ls hl => ?_)
    refine lv_aload_n C.1 C.2.1 dX10_two_65 rfl (lv_at hl 1 rfl) ?_
    refine lv_lload C.1 C.2.1 dX10_two_66 (lv_at hl 0 rfl) ?_
    refine lv_aload_n C.1 C.2.1 dX10_two_68 rfl (lv_at hl 1 rfl) ?_
    refine lv_iload_n C.1 C.2.1 dX10_two_69 rfl (lv_at hl 3 rfl) ?_
    refine ro_callVL (As := [nV yn]) (rest := [mV p6, .ref mo0]) C hK (c_X10_tens l g mo0 mA1 mA3 mA4 mA5 mA6 mA7 mA8 mA9 mA10 mA11 mA12 mA15 mA16 mA17 mA20 mL mAt kz dn mAb mBe mCl mcs mca hu mi nc yn (by first | assumption | omega) (by first | assumption | omega) (by first | assumption | omega) (by first | assumption | omega) (by first | assumption | omega) (by first | assumption | omega) (by first | assumption | omega)) (hP.sub (ws' := [(mo0, .inr (8, [nV mL, .ref mA1, nV mAt, .ref mA3, .ref mA4, .ref mA5, .ref mA6, .ref mA7, .ref mA8, .ref mA9, .ref mA10, .ref mA11, .ref mA12, nV kz, nV dn, .ref mA15, .ref mA16, .ref mA17, mV mAb, mV mBe, .ref mA20, zV mCl])), (mA6, cN g 2 mcs), (mA7, cN g 20 mca)]) [0, 4, 5] rfl) (ci := 8) (q0 := 0) rfl rfl kc_X10_tens kl_X10_205 kn_X10 ki_X10_tens ke_X10_tens nk_X10_tens (rm_lt (by decide) (by decide)) hl rfl (Nat.le_of_ble_eq_true rfl) dX10_two_70 (fun r_23 hr_24 => ?_)
    subst hr_24
    have hf_25 := ten_bd (hmi (yn))
    refine lv_aload_n C.1 C.2.1 dX10_two_73 rfl (lv_at hl 1 rfl) ?_
    refine lv_iload_n C.1 C.2.1 dX10_two_74 rfl (lv_at hl 2 rfl) ?_
    refine lv_iload_n C.1 C.2.1 dX10_two_75 rfl (lv_at hl 3 rfl) ?_
    refine lv_iload C.1 C.2.1 dX10_two_76 (lv_at hl 5 rfl) ?_
    refine ro_callVL (As := [nV xn, nV yn, nV zn]) (rest := [mV (10 ^ mi yn), mV p6, .ref mo0]) C hK (c_X10_reads l g mo0 mA1 mA3 mA4 mA5 mA6 mA7 mA8 mA9 mA10 mA11 mA12 mA15 mA16 mA17 mA20 mL mAt kz dn mAb mBe mCl mtd mws mwd mcs mca sg k bi mo hu mi nc xn yn zn (by first | assumption | omega) (by first | assumption | omega) (by first | assumption | omega) (by first | assumption | omega) (by first | assumption | omega) (by first | assumption | omega) (by first | assumption | omega) (by first | assumption | omega) (by first | assumption | omega) (by first | assumption | omega) (by first | assumption | omega) (by first | assumption | omega) (by first | assumption | omega) (by first | assumption | omega) (by first | assumption | omega) (by first | assumption | omega)) hP (ci := 8) (q0 := 0) rfl rfl kc_X10_reads kl_X10_201 kn_X10 ki_X10_reads ke_X10_reads nk_X10_reads (rm_lt (by decide) (by decide)) hl rfl (Nat.le_of_ble_eq_true rfl) dX10_two_78 (fun r_26 hr_27 => ?_)
    subst hr_27
    have hf_28 := wy_bd bi mo (sg (xn)) (zn) (hu (yn)) (mi (yn)) (hhu (yn)) (hmi (yn))
    refine r_lsubN C dX10_two_81 (by omega) ?_
    refine lv_aload_n C.1 C.2.1 dX10_two_82 rfl (lv_at hl 1 rfl) ?_
    refine lv_iload_n C.1 C.2.1 dX10_two_83 rfl (lv_at hl 4 rfl) ?_
    refine ro_callVL (As := [nV wn]) (rest := [mV ((10 ^ mi yn) - (wy bi mo (sg xn) zn (hu yn) (mi yn) (mi yn + 1))), mV p6, .ref mo0]) C hK (c_X10_tens l g mo0 mA1 mA3 mA4 mA5 mA6 mA7 mA8 mA9 mA10 mA11 mA12 mA15 mA16 mA17 mA20 mL mAt kz dn mAb mBe mCl mcs mca hu mi nc wn (by first | assumption | omega) (by first | assumption | omega) (by first | assumption | omega) (by first | assumption | omega) (by first | assumption | omega) (by first | assumption | omega) (by first | assumption | omega)) (hP.sub (ws' := [(mo0, .inr (8, [nV mL, .ref mA1, nV mAt, .ref mA3, .ref mA4, .ref mA5, .ref mA6, .ref mA7, .ref mA8, .ref mA9, .ref mA10, .ref mA11, .ref mA12, nV kz, nV dn, .ref mA15, .ref mA16, .ref mA17, mV mAb, mV mBe, .ref mA20, zV mCl])), (mA6, cN g 2 mcs), (mA7, cN g 20 mca)]) [0, 4, 5] rfl) (ci := 8) (q0 := 0) rfl rfl kc_X10_tens kl_X10_205 kn_X10 ki_X10_tens ke_X10_tens nk_X10_tens (rm_lt (by decide) (by decide)) hl rfl (Nat.le_of_ble_eq_true rfl) dX10_two_84 (fun r_29 hr_30 => ?_)
    subst hr_30
    have hf_31 := ten_bd (hmi (wn))
    refine lv_aload_n C.1 C.2.1 dX10_two_87 rfl (lv_at hl 1 rfl) ?_
    refine lv_iload_n C.1 C.2.1 dX10_two_88 rfl (lv_at hl 2 rfl) ?_
    refine lv_iload_n C.1 C.2.1 dX10_two_89 rfl (lv_at hl 4 rfl) ?_
    refine lv_iload C.1 C.2.1 dX10_two_90 (lv_at hl 5 rfl) ?_
    refine ro_callVL (As := [nV xn, nV wn, nV zn]) (rest := [mV (10 ^ mi wn), mV ((10 ^ mi yn) - (wy bi mo (sg xn) zn (hu yn) (mi yn) (mi yn + 1))), mV p6, .ref mo0]) C hK (c_X10_reads l g mo0 mA1 mA3 mA4 mA5 mA6 mA7 mA8 mA9 mA10 mA11 mA12 mA15 mA16 mA17 mA20 mL mAt kz dn mAb mBe mCl mtd mws mwd mcs mca sg k bi mo hu mi nc xn wn zn (by first | assumption | omega) (by first | assumption | omega) (by first | assumption | omega) (by first | assumption | omega) (by first | assumption | omega) (by first | assumption | omega) (by first | assumption | omega) (by first | assumption | omega) (by first | assumption | omega) (by first | assumption | omega) (by first | assumption | omega) (by first | assumption | omega) (by first | assumption | omega) (by first | assumption | omega) (by first | assumption | omega) (by first | assumption | omega)) hP (ci := 8) (q0 := 0) rfl rfl kc_X10_reads kl_X10_201 kn_X10 ki_X10_reads ke_X10_reads nk_X10_reads (rm_lt (by decide) (by decide)) hl rfl (Nat.le_of_ble_eq_true rfl) dX10_two_92 (fun r_32 hr_33 => ?_)
    subst hr_33
    have hf_34 := wy_bd bi mo (sg (xn)) (zn) (hu (wn)) (mi (wn)) (hhu (wn)) (hmi (wn))
    refine r_lsubN C dX10_two_95 (by omega) ?_
    refine r_lmulN C dX10_two_96 ?_
    refine r_nameM (fun p5 hp5 => ?_)
    have hp7 : p5 ≤ p6 := by rw [hp5, hp6]; exact Nat.mul_le_mul (Nat.sub_le _ _) (Nat.sub_le _ _)
    refine r_lsubN C dX10_two_97 (by omega) ?_
    refine lv_lload C.1 C.2.1 dX10_two_98 (lv_at hl 0 rfl) ?_
    refine wr_callVV (As := [mV (p6 - p5), mV p6]) (rest := []) C hK (c_X10_lowest l g mo0 mA1 mA3 mA4 mA5 mA6 mA7 mA8 mA9 mA10 mA11 mA12 mA15 mA16 mA17 mA20 mL mAt kz dn mAb mBe mCl (p6 - p5) p6 (by first | assumption | omega) (by first | assumption | omega)) [0] rfl (fun _ => rfl) (by decide) hP hD hS hA (ci := 8) (q0 := 0) rfl rfl kc_X10_lowest kl_X10_209 kn_X10 ki_X10_lowest ke_X10_lowest nk_X10_lowest (rm_lt (by decide) (by decide)) hl rfl (Nat.le_of_ble_eq_true rfl) dX10_two_100 (fun u_37 H locs hr_36 hP hD hS => ?_)
    have hP : va_P g.1 vwCl [(mo0, .inr (8, [nV mL, .ref mA1, nV mAt, .ref mA3, .ref mA4, .ref mA5, .ref mA6, .ref mA7, .ref mA8, .ref mA9, .ref mA10, .ref mA11, .ref mA12, nV kz, nV dn, .ref mA15, .ref mA16, .ref mA17, mV ((p6 - p5) / Nat.gcd (p6 - p5) p6), mV (p6 / Nat.gcd (p6 - p5) p6), .ref mA20, zV mCl])), (mA3, cN g 4 mtd), (mA4, cN g 2 mws), (mA5, cN g 32 mwd), (mA6, cN g 2 mcs), (mA7, cN g 20 mca)] H := hP
    have hD : va_D A [(mo0, .inr (8, [nV mL, .ref mA1, nV mAt, .ref mA3, .ref mA4, .ref mA5, .ref mA6, .ref mA7, .ref mA8, .ref mA9, .ref mA10, .ref mA11, .ref mA12, nV kz, nV dn, .ref mA15, .ref mA16, .ref mA17, mV ((p6 - p5) / Nat.gcd (p6 - p5) p6), mV (p6 / Nat.gcd (p6 - p5) p6), .ref mA20, zV mCl])), (mA3, cN g 4 mtd), (mA4, cN g 2 mws), (mA5, cN g 32 mwd), (mA6, cN g 2 mcs), (mA7, cN g 20 mca)] := hD
    refine lv_iload C.1 C.2.1 dX10_two_103 (lv_at hl 6 rfl) ?_
    refine r_ine 115 C dX10_two_105 rfl (rgN (by omega)) (fun h_38 => ?_) (fun h_38 => ?_)
    · skip
      refine lv_aload_n C.1 C.2.1 dX10_two_115 rfl (lv_at hl 1 rfl) ?_
      refine r_get C hK hP kw_X10 (ci := 8) rfl 0 19 (by decide) kf_X10_192 rfl rfl dX10_two_116 ?_
      exact ret (((p6 - p5) / Nat.gcd (p6 - p5) p6, p6 / Nat.gcd (p6 - p5) p6)) dX10_two_119 hS hP (by unfold sTwo; rw [if_pos (by omega)]; exact congrArg (fun q : Nat => lI (q : Int)) (by unfold low tw; rw [if_neg (show ¬ (z2n : Int).toNat = 0 by omega)]; rw [hp5, hp6]; rfl))
    refine lv_aload_n C.1 C.2.1 dX10_two_108 rfl (lv_at hl 1 rfl) ?_
    refine r_get C hK hP kw_X10 (ci := 8) rfl 0 18 (by decide) kf_X10_188 rfl rfl dX10_two_109 ?_
    refine r_goto 119 C dX10_two_112 rfl ?_
    exact ret (((p6 - p5) / Nat.gcd (p6 - p5) p6, p6 / Nat.gcd (p6 - p5) p6)) dX10_two_119 hS hP (by unfold sTwo; rw [if_pos (by omega)]; exact congrArg (fun q : Nat => lI (q : Int)) (by unfold low tw; rw [if_pos (show (z2n : Int).toNat = 0 by omega)]; rw [hp5, hp6]; rfl))
  refine r_ldc2 (-1) C kv_X10_173 dX10_two_48 rfl ?_
  exact ret ((mAb, mBe)) dX10_two_51 hS hP (by unfold sTwo; rw [if_neg (by omega)])
