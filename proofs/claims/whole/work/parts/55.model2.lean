set_option maxHeartbeats 4000000 in
set_option maxRecDepth 100000 in
theorem c_X10_write_ok (l : Launch) (g : GG) (mo0 : Nat) (mA1 : Nat) (mA3 : Nat) (mA4 : Nat) (mA5 : Nat) (mA6 : Nat) (mA7 : Nat) (mA8 : Nat) (mA9 : Nat) (mA10 : Nat) (mA11 : Nat) (mA12 : Nat) (mA15 : Nat) (mA16 : Nat) (mA17 : Nat) (mA20 : Nat) (mL : Nat) (mAt : Nat) (kz : Nat) (dn : Nat) (mAb : Nat) (mBe : Nat) (mCl : Int) (mtx : Nat → Nat) (xn : Nat) (vv : Int64) (hok : (1 ≤ xn ∧ xn ≤ 8) ∧ mL + xn ≤ 300) : WRi g l yX10_write cX10_write 5 (some .int) 2 [(mo0, .inr (8, [nV mL, .ref mA1, nV mAt, .ref mA3, .ref mA4, .ref mA5, .ref mA6, .ref mA7, .ref mA8, .ref mA9, .ref mA10, .ref mA11, .ref mA12, nV kz, nV dn, .ref mA15, .ref mA16, .ref mA17, mV mAb, mV mBe, .ref mA20, zV mCl])), (mA1, cB g 300 mtx)] [.ref mo0, nV xn, .long vv] (fun r (_ : Unit) => r = iI ((mL + xn : Nat) : Int)) (fun (_ : Unit) => [(mo0, .inr (8, [nV (mL + xn), .ref mA1, nV mAt, .ref mA3, .ref mA4, .ref mA5, .ref mA6, .ref mA7, .ref mA8, .ref mA9, .ref mA10, .ref mA11, .ref mA12, nV kz, nV dn, .ref mA15, .ref mA16, .ref mA17, mV mAb, mV mBe, .ref mA20, zV mCl])), (mA1, cB g 300 (wrt mtx mL vv xn xn))]) := by
  refine wr_startI (by decide +kernel) (Nat.le_of_ble_eq_true rfl) ?_
  intro p e s m args below meth c Q A ls C hK hA ret hP hD hS hl
  have C : CT p s m args meth c cX10_write RX10 5 := C
  have hl : lv_has ls 5 [(0, .ref mo0), (1, nV xn), (2, .long vv)] := hl
  refine lv_iload_n C.1 C.2.1 dX10_write_0 rfl (lv_at hl 1 rfl) ?_
  refine r_i2l C dX10_write_1 (rgN (by omega)) ?_
  refine r_lconst 1 C dX10_write_2 rfl ?_
  refine r_ldc2N 8 C kv_X10_63 dX10_write_3 rfl ?_
  refine ro_callS (As := [mV xn, mV 1, mV 8]) (rest := []) C hK (c_X10_in l g ((xn : Nat) : Int) ((1 : Nat) : Int) ((8 : Nat) : Int) (by first | assumption | exact ⟨by omega, by omega⟩) (by first | assumption | exact ⟨by omega, by omega⟩) (by first | assumption | exact ⟨by omega, by omega⟩)) (hP.sub (ws' := []) [] rfl) kc_X10_in kl_X10_65 kn_X10 ks_X10_in nk_X10_in (rm_lt (by decide) (by decide)) hl rfl (Nat.le_of_ble_eq_true rfl) dX10_write_6 (fun r_1 hr_2 => ?_)
  subst hr_2
  refine r_bne 14 C dX10_write_9 rfl (fun h_3 => ?_) (fun h_3 => ?_)
  rotate_left
  · exact absurd h_3 (by omega)
  refine lv_aload_n C.1 C.2.1 dX10_write_14 rfl (lv_at hl 0 rfl) ?_
  refine r_get C hK hP kw_X10 (ci := 8) rfl 0 0 (by decide) kf_X10_69 rfl rfl dX10_write_15 ?_
  refine lv_iload_n C.1 C.2.1 dX10_write_18 rfl (lv_at hl 1 rfl) ?_
  refine r_addN C dX10_write_19 ?_
  refine r_sipush 300 C dX10_write_20 (by decide) ?_
  refine r_cle 29 C dX10_write_23 rfl ⟨rgN (by omega), rgN (by decide)⟩ (fun h_4 => ?_) (fun h_4 => ?_)
  rotate_left
  · exact absurd h_4 (by omega)
  refine lv_iload_n C.1 C.2.1 dX10_write_29 rfl (lv_at hl 1 rfl) ?_
  refine r_iconst 1 C dX10_write_30 rfl ?_
  refine r_subN C dX10_write_31 (by omega) ?_
  refine lv_istore (lv' := [(4, nV (xn - 1)), (0, .ref mo0), (1, nV xn), (2, .long vv)]) C.1 C.2.1 dX10_write_32 hl (by decide) rfl (fun ls hl => ?_)
  have L34 : ∀ (n_34 : Nat) (i : Nat) (z : Int) (ub : Nat → Nat) (H : Heap) (locs : List Loc) (ls : Array Slot) (hi : i ≤ xn) (hz : z = (xn : Int) - 1 - (i : Int)) (hub : ub = wrt mtx mL vv xn i) (hm : xn - i < n_34) (hP : va_P g.1 vwCl [(mo0, .inr (8, [nV (mL + i), .ref mA1, nV mAt, .ref mA3, .ref mA4, .ref mA5, .ref mA6, .ref mA7, .ref mA8, .ref mA9, .ref mA10, .ref mA11, .ref mA12, nV kz, nV dn, .ref mA15, .ref mA16, .ref mA17, mV mAb, mV mBe, .ref mA20, zV mCl])), (mA1, cB g 300 ub)] H) (hD : va_D A [(mo0, .inr (8, [nV (mL + i), .ref mA1, nV mAt, .ref mA3, .ref mA4, .ref mA5, .ref mA6, .ref mA7, .ref mA8, .ref mA9, .ref mA10, .ref mA11, .ref mA12, nV kz, nV dn, .ref mA15, .ref mA16, .ref mA17, mV mAb, mV mBe, .ref mA20, zV mCl])), (mA1, cB g 300 ub)]) (hS : va_S A s.heap H locs) (hl : lv_has ls 5 [(4, zV z), (0, .ref mo0), (1, nV xn), (2, .long vv)]), W p l e (rD 2) s m args below meth c H locs 0 0 Q (F0 m 34 ls []) := by
    intro n_34
    induction n_34 with
    | zero => intro i z ub H locs ls hi hz hub hm hP hD hS hl; exact absurd hm (Nat.not_lt_zero _)
    | succ n_34 ih_34 =>
      intro i z ub H locs ls hi hz hub hm hP hD hS hl
      refine lv_iload C.1 C.2.1 dX10_write_34 (lv_at hl 0 rfl) ?_
      refine r_ilt 73 C dX10_write_36 rfl (⟨by omega, by omega⟩) (fun h_5 => ?_) (fun h_5 => ?_)
      · skip
        refine lv_aload_n C.1 C.2.1 dX10_write_73 rfl (lv_at hl 1 rfl) ?_
        refine r_get C hK hP kw_X10 (ci := 8) rfl 0 0 (by decide) kf_X10_69 rfl rfl dX10_write_74 ?_
        exact ret (()) dX10_write_77 hS (by rw [hub, show i = xn by omega] at hP; exact hP) (by rw [show i = xn by omega])
      refine lv_aload_n C.1 C.2.1 dX10_write_39 rfl (lv_at hl 1 rfl) ?_
      refine r_get C hK hP kw_X10 (ci := 8) rfl 0 1 (by decide) kf_X10_7 rfl rfl dX10_write_40 ?_
      refine lv_aload_n C.1 C.2.1 dX10_write_43 rfl (lv_at hl 1 rfl) ?_
      refine r_get C hK hP kw_X10 (ci := 8) rfl 0 0 (by decide) kf_X10_69 rfl rfl dX10_write_44 ?_
      refine lv_lload_n C.1 C.2.1 dX10_write_47 rfl (lv_at hl 3 rfl) ?_
      refine r_bipush 8 C dX10_write_48 (by decide) ?_
      refine lv_iload C.1 C.2.1 dX10_write_50 (lv_at hl 0 rfl) ?_
      refine r_mulZ C dX10_write_52 ?_
      refine lv_lshr C.1 C.2.1 dX10_write_53 rfl ?_
      refine lv_l2i C.1 C.2.1 dX10_write_54 rfl ?_
      refine lv_i2b C.1 C.2.1 dX10_write_55 rfl ?_
      refine r_astB (u := by8 vv (xn - 1 - i)) C hK hP hD hS 1 rfl ⟨by omega, by omega⟩ (by8_shr (k := xn - 1 - i) (by omega) (by omega)) dX10_write_56 (fun H locs hP hD hS => ?_)
      have hP : va_P g.1 vwCl [(mo0, .inr (8, [nV (mL + i), .ref mA1, nV mAt, .ref mA3, .ref mA4, .ref mA5, .ref mA6, .ref mA7, .ref mA8, .ref mA9, .ref mA10, .ref mA11, .ref mA12, nV kz, nV dn, .ref mA15, .ref mA16, .ref mA17, mV mAb, mV mBe, .ref mA20, zV mCl])), (mA1, cB g 300 (upN ub (mL + i) (by8 vv (xn - 1 - i))))] H := hP
      have hD : va_D A [(mo0, .inr (8, [nV (mL + i), .ref mA1, nV mAt, .ref mA3, .ref mA4, .ref mA5, .ref mA6, .ref mA7, .ref mA8, .ref mA9, .ref mA10, .ref mA11, .ref mA12, nV kz, nV dn, .ref mA15, .ref mA16, .ref mA17, mV mAb, mV mBe, .ref mA20, zV mCl])), (mA1, cB g 300 (upN ub (mL + i) (by8 vv (xn - 1 - i))))] := hD
      refine lv_aload_n C.1 C.2.1 dX10_write_57 rfl (lv_at hl 1 rfl) ?_
      refine lv_dup C.1 C.2.1 dX10_write_58 rfl ?_
      refine r_get C hK hP kw_X10 (ci := 8) rfl 0 0 (by decide) kf_X10_69 rfl rfl dX10_write_59 ?_
      refine r_iconst 1 C dX10_write_62 rfl ?_
      refine r_addN C dX10_write_63 ?_
      refine r_put (v := nV ((mL + i) + 1)) C hK hP hD hS kw_X10 tyX10_ok nmX10 (ci := 8) rfl 0 0 (by decide) kf_X10_69 rfl rfl rfl rfl rfl (Nat.le_of_ble_eq_true rfl) dX10_write_64 (fun H locs hP hD hS => ?_)
      have hP : va_P g.1 vwCl [(mo0, .inr (8, [nV ((mL + i) + 1), .ref mA1, nV mAt, .ref mA3, .ref mA4, .ref mA5, .ref mA6, .ref mA7, .ref mA8, .ref mA9, .ref mA10, .ref mA11, .ref mA12, nV kz, nV dn, .ref mA15, .ref mA16, .ref mA17, mV mAb, mV mBe, .ref mA20, zV mCl])), (mA1, cB g 300 (upN ub (mL + i) (by8 vv (xn - 1 - i))))] H := hP
      have hD : va_D A [(mo0, .inr (8, [nV ((mL + i) + 1), .ref mA1, nV mAt, .ref mA3, .ref mA4, .ref mA5, .ref mA6, .ref mA7, .ref mA8, .ref mA9, .ref mA10, .ref mA11, .ref mA12, nV kz, nV dn, .ref mA15, .ref mA16, .ref mA17, mV mAb, mV mBe, .ref mA20, zV mCl])), (mA1, cB g 300 (upN ub (mL + i) (by8 vv (xn - 1 - i))))] := hD
      refine r_incZ (k := 0) [(4, zV (z + (-1))), (0, .ref mo0), (1, nV xn), (2, .long vv)] C dX10_write_67 hl rfl (by decide) rfl (fun ls hl => ?_)
      refine r_goto 34 C dX10_write_70 rfl ?_
      exact ih_34 (i + 1) (z + (-1)) (upN ub (mL + i) (by8 vv (xn - 1 - i))) _ _ _ (by first | assumption | omega) (by first | assumption | omega) (by rw [hub]; exact wrt_s) (by omega) hP hD hS (lv_sub hl [0, 1, 2, 3] rfl)
  exact L34 (xn - 0 + 1) 0 ((xn - 1 : Nat) : Int) mtx _ _ _ (by first | assumption | omega) (by first | assumption | omega) (wrt_0.symm) (Nat.lt_succ_self _) hP hD hS (lv_sub hl [0, 1, 2, 3] rfl)
set_option maxHeartbeats 4000000 in
set_option maxRecDepth 100000 in
theorem c_X10_write_no (l : Launch) (g : GG) (mo0 : Nat) (mA1 : Nat) (mA3 : Nat) (mA4 : Nat) (mA5 : Nat) (mA6 : Nat) (mA7 : Nat) (mA8 : Nat) (mA9 : Nat) (mA10 : Nat) (mA11 : Nat) (mA12 : Nat) (mA15 : Nat) (mA16 : Nat) (mA17 : Nat) (mA20 : Nat) (mL : Nat) (mAt : Nat) (kz : Nat) (dn : Nat) (mAb : Nat) (mBe : Nat) (mCl : Int) (x : Int) (vv : Int64) (hmL : mL ≤ 300) (hno : ¬ ((1 ≤ x ∧ x ≤ 8) ∧ (mL : Int) + x ≤ 300)) (hx : rg x) : ROi g l yX10_write cX10_write 5 (some .int) 2 [(mo0, .inr (8, [nV mL, .ref mA1, nV mAt, .ref mA3, .ref mA4, .ref mA5, .ref mA6, .ref mA7, .ref mA8, .ref mA9, .ref mA10, .ref mA11, .ref mA12, nV kz, nV dn, .ref mA15, .ref mA16, .ref mA17, mV mAb, mV mBe, .ref mA20, zV mCl]))] [.ref mo0, zV x, .long vv] (fun r => r = iI (if 1 ≤ x ∧ x ≤ 8 then -3 else -1)) := by
  refine ro_startI (by decide +kernel) (Nat.le_of_ble_eq_true rfl) ?_
  intro p e s m args below meth c Q ls C hK hP ret hl
  have C : CT p s m args meth c cX10_write RX10 5 := C
  have hl : lv_has ls 5 [(0, .ref mo0), (1, zV x), (2, .long vv)] := hl
  refine lv_iload_n C.1 C.2.1 dX10_write_0 rfl (lv_at hl 1 rfl) ?_
  refine r_i2l C dX10_write_1 (⟨by omega, by omega⟩) ?_
  refine r_lconst 1 C dX10_write_2 rfl ?_
  refine r_ldc2N 8 C kv_X10_63 dX10_write_3 rfl ?_
  refine ro_callS (As := [jV x, mV 1, mV 8]) (rest := []) C hK (c_X10_in l g x ((1 : Nat) : Int) ((8 : Nat) : Int) (by first | assumption | exact ⟨by omega, by omega⟩) (by first | assumption | exact ⟨by omega, by omega⟩) (by first | assumption | exact ⟨by omega, by omega⟩)) (hP.sub (ws' := []) [] rfl) kc_X10_in kl_X10_65 kn_X10 ks_X10_in nk_X10_in (rm_lt (by decide) (by decide)) hl rfl (Nat.le_of_ble_eq_true rfl) dX10_write_6 (fun r_1 hr_2 => ?_)
  subst hr_2
  refine r_bne 14 C dX10_write_9 rfl (fun h_3 => ?_) (fun h_3 => ?_)
  · skip
    obtain ⟨xn, rfl⟩ : ∃ n : Nat, x = (n : Int) := ⟨x.toNat, by omega⟩
    have hl : lv_has ls 5 [(0, .ref mo0), (1, nV xn), (2, .long vv)] := hl
    refine lv_aload_n C.1 C.2.1 dX10_write_14 rfl (lv_at hl 0 rfl) ?_
    refine r_get C hK hP kw_X10 (ci := 8) rfl 0 0 (by decide) kf_X10_69 rfl rfl dX10_write_15 ?_
    refine lv_iload_n C.1 C.2.1 dX10_write_18 rfl (lv_at hl 1 rfl) ?_
    refine r_addN C dX10_write_19 ?_
    refine r_sipush 300 C dX10_write_20 (by decide) ?_
    refine r_cle 29 C dX10_write_23 rfl ⟨rgN (by omega), rgN (by decide)⟩ (fun h_4 => ?_) (fun h_4 => ?_)
    · exact absurd h_4 (by omega)
    refine r_bipushZ C dX10_write_26 (by decide) ?_
    exact ret dX10_write_28 (by rw [if_pos (by omega)])
  refine r_iconstZ C dX10_write_12 ?_
  exact ret dX10_write_13 (by rw [if_neg (by omega)])
set_option maxHeartbeats 4000000 in
set_option maxRecDepth 100000 in
theorem c_X10_wipe (l : Launch) (g : GG) (mo0 : Nat) (mA1 : Nat) (mA3 : Nat) (mA4 : Nat) (mA5 : Nat) (mA6 : Nat) (mA7 : Nat) (mA8 : Nat) (mA9 : Nat) (mA10 : Nat) (mA11 : Nat) (mA12 : Nat) (mA15 : Nat) (mA16 : Nat) (mA17 : Nat) (mA20 : Nat) (mL : Nat) (mAt : Nat) (kz : Nat) (dn : Nat) (mAb : Nat) (mBe : Nat) (mCl : Int)  : WRi g l yX10_wipe cX10_wipe 2 (some .int) 1 [(mo0, .inr (8, [nV mL, .ref mA1, nV mAt, .ref mA3, .ref mA4, .ref mA5, .ref mA6, .ref mA7, .ref mA8, .ref mA9, .ref mA10, .ref mA11, .ref mA12, nV kz, nV dn, .ref mA15, .ref mA16, .ref mA17, mV mAb, mV mBe, .ref mA20, zV mCl]))] [.ref mo0] (fun r (_ : Unit) => r = iI ((mL : Nat) : Int)) (fun (_ : Unit) => [(mo0, .inr (8, [nV 0, .ref mA1, nV mAt, .ref mA3, .ref mA4, .ref mA5, .ref mA6, .ref mA7, .ref mA8, .ref mA9, .ref mA10, .ref mA11, .ref mA12, nV kz, nV dn, .ref mA15, .ref mA16, .ref mA17, mV mAb, mV mBe, .ref mA20, zV mCl]))]) := by
  refine wr_startI (by decide +kernel) (Nat.le_of_ble_eq_true rfl) ?_
  intro p e s m args below meth c Q A ls C hK hA ret hP hD hS hl
  have C : CT p s m args meth c cX10_wipe RX10 2 := C
  have hl : lv_has ls 2 [(0, .ref mo0)] := hl
  refine lv_aload_n C.1 C.2.1 dX10_wipe_0 rfl (lv_at hl 0 rfl) ?_
  refine r_get C hK hP kw_X10 (ci := 8) rfl 0 0 (by decide) kf_X10_69 rfl rfl dX10_wipe_1 ?_
  refine lv_istore_n (lv' := [(1, nV mL), (0, .ref mo0)]) C.1 C.2.1 dX10_wipe_4 rfl hl (by decide) rfl (fun ls hl => ?_)
  refine lv_aload_n C.1 C.2.1 dX10_wipe_5 rfl (lv_at hl 1 rfl) ?_
  refine r_iconst 0 C dX10_wipe_6 rfl ?_
  refine r_put (v := nV 0) C hK hP hD hS kw_X10 tyX10_ok nmX10 (ci := 8) rfl 0 0 (by decide) kf_X10_69 rfl rfl rfl rfl rfl (Nat.le_of_ble_eq_true rfl) dX10_wipe_7 (fun H locs hP hD hS => ?_)
  have hP : va_P g.1 vwCl [(mo0, .inr (8, [nV 0, .ref mA1, nV mAt, .ref mA3, .ref mA4, .ref mA5, .ref mA6, .ref mA7, .ref mA8, .ref mA9, .ref mA10, .ref mA11, .ref mA12, nV kz, nV dn, .ref mA15, .ref mA16, .ref mA17, mV mAb, mV mBe, .ref mA20, zV mCl]))] H := hP
  have hD : va_D A [(mo0, .inr (8, [nV 0, .ref mA1, nV mAt, .ref mA3, .ref mA4, .ref mA5, .ref mA6, .ref mA7, .ref mA8, .ref mA9, .ref mA10, .ref mA11, .ref mA12, nV kz, nV dn, .ref mA15, .ref mA16, .ref mA17, mV mAb, mV mBe, .ref mA20, zV mCl]))] := hD
  refine lv_iload_n C.1 C.2.1 dX10_wipe_10 rfl (lv_at hl 0 rfl) ?_
  exact ret (()) dX10_wipe_11 hS hP (by first | rfl | exact iI_cast (by omega) | exact congrArg lI (by omega) | omega)
set_option maxHeartbeats 4000000 in
set_option maxRecDepth 100000 in
theorem c_X10_number (l : Launch) (g : GG) (mo0 : Nat) (mA1 : Nat) (mA3 : Nat) (mA4 : Nat) (mA5 : Nat) (mA6 : Nat) (mA7 : Nat) (mA8 : Nat) (mA9 : Nat) (mA10 : Nat) (mA11 : Nat) (mA12 : Nat) (mA15 : Nat) (mA16 : Nat) (mA17 : Nat) (mA20 : Nat) (mL : Nat) (mAt : Nat) (kz : Nat) (dn : Nat) (mAb : Nat) (mBe : Nat) (mCl : Int) (mtx : Nat → Nat) (hux : ∀ j, mtx j < 256) (hmL : mL ≤ 300) (hat : mAt ≤ 310) : WRi g l yX10_number cX10_number 3 (some .int) 2 [(mo0, .inr (8, [nV mL, .ref mA1, nV mAt, .ref mA3, .ref mA4, .ref mA5, .ref mA6, .ref mA7, .ref mA8, .ref mA9, .ref mA10, .ref mA11, .ref mA12, nV kz, nV dn, .ref mA15, .ref mA16, .ref mA17, mV mAb, mV mBe, .ref mA20, zV mCl])), (mA1, cB g 300 mtx)] [.ref mo0] (fun r (at1 : Nat) => r = iI (nmI mtx mL mAt) ∧ (0 ≤ nmI mtx mL mAt → at1 = rnP mtx mL mAt) ∧ mAt ≤ at1 ∧ (at1 = mAt ∨ at1 ≤ mL)) (fun (at1 : Nat) => [(mo0, .inr (8, [nV mL, .ref mA1, nV at1, .ref mA3, .ref mA4, .ref mA5, .ref mA6, .ref mA7, .ref mA8, .ref mA9, .ref mA10, .ref mA11, .ref mA12, nV kz, nV dn, .ref mA15, .ref mA16, .ref mA17, mV mAb, mV mBe, .ref mA20, zV mCl])), (mA1, cB g 300 mtx)]) := by
  refine wr_startI (by decide +kernel) (Nat.le_of_ble_eq_true rfl) ?_
  intro p e s m args below meth c Q A ls C hK hA ret hP hD hS hl
  have C : CT p s m args meth c cX10_number RX10 3 := C
  have hl : lv_has ls 3 [(0, .ref mo0)] := hl
  refine r_iconst 0 C dX10_number_0 rfl ?_
  refine lv_istore_n (lv' := [(1, nV 0), (0, .ref mo0)]) C.1 C.2.1 dX10_number_1 rfl hl (by decide) rfl (fun ls hl => ?_)
  refine r_iconst 0 C dX10_number_2 rfl ?_
  refine lv_istore_n (lv' := [(2, nV 0), (1, nV 0), (0, .ref mo0)]) C.1 C.2.1 dX10_number_3 rfl hl (by decide) rfl (fun ls hl => ?_)
  have L4 : ∀ (n_4 : Nat) (i : Nat) (t : Nat) (H : Heap) (locs : List Loc) (ls : Array Slot) (hi : i = 0 ∨ mAt + i ≤ mL) (hd : ∀ j, j < i → dg mtx mL (mAt + j) = true) (ht : t = nv mtx mAt i) (hm : mL - (mAt + i) < n_4) (hP : va_P g.1 vwCl [(mo0, .inr (8, [nV mL, .ref mA1, nV (mAt + i), .ref mA3, .ref mA4, .ref mA5, .ref mA6, .ref mA7, .ref mA8, .ref mA9, .ref mA10, .ref mA11, .ref mA12, nV kz, nV dn, .ref mA15, .ref mA16, .ref mA17, mV mAb, mV mBe, .ref mA20, zV mCl])), (mA1, cB g 300 mtx)] H) (hD : va_D A [(mo0, .inr (8, [nV mL, .ref mA1, nV (mAt + i), .ref mA3, .ref mA4, .ref mA5, .ref mA6, .ref mA7, .ref mA8, .ref mA9, .ref mA10, .ref mA11, .ref mA12, nV kz, nV dn, .ref mA15, .ref mA16, .ref mA17, mV mAb, mV mBe, .ref mA20, zV mCl])), (mA1, cB g 300 mtx)]) (hS : va_S A s.heap H locs) (hl : lv_has ls 3 [(2, nV i), (1, nV t), (0, .ref mo0)]), W p l e (rD 2) s m args below meth c H locs 0 0 Q (F0 m 4 ls []) := by
    intro n_4
    induction n_4 with
    | zero => intro i t H locs ls hi hd ht hm hP hD hS hl; exact absurd hm (Nat.not_lt_zero _)
    | succ n_4 ih_4 =>
      intro i t H locs ls hi hd ht hm hP hD hS hl
      refine lv_aload_n C.1 C.2.1 dX10_number_4 rfl (lv_at hl 2 rfl) ?_
      refine r_get C hK hP kw_X10 (ci := 8) rfl 0 2 (by decide) kf_X10_73 rfl rfl dX10_number_5 ?_
      refine lv_aload_n C.1 C.2.1 dX10_number_8 rfl (lv_at hl 2 rfl) ?_
      refine r_get C hK hP kw_X10 (ci := 8) rfl 0 0 (by decide) kf_X10_69 rfl rfl dX10_number_9 ?_
      refine r_cge 80 C dX10_number_12 rfl ⟨rgN (by omega), rgN (by omega)⟩ (fun h_1 => ?_) (fun h_1 => ?_)
      · skip
        have hnd : ¬ dg mtx mL (mAt + i) = true := fun q => by obtain ⟨q1, q2, q3, -⟩ := dg_in q; omega
        obtain ⟨k1, k2⟩ := nm_ok hd hnd
        refine lv_iload_n C.1 C.2.1 dX10_number_80 rfl (lv_at hl 0 rfl) ?_
        refine r_i2l C dX10_number_81 (rgN (by omega)) ?_
        refine r_lconst 1 C dX10_number_82 rfl ?_
        refine r_ldc2N 2 C kv_X10_80 dX10_number_83 rfl ?_
        refine ro_callS (As := [mV i, mV 1, mV 2]) (rest := []) C hK (c_X10_in l g ((i : Nat) : Int) ((1 : Nat) : Int) ((2 : Nat) : Int) (by first | assumption | exact ⟨by omega, by omega⟩) (by first | assumption | exact ⟨by omega, by omega⟩) (by first | assumption | exact ⟨by omega, by omega⟩)) (hP.sub (ws' := []) [] rfl) kc_X10_in kl_X10_65 kn_X10 ks_X10_in nk_X10_in (rm_lt (by decide) (by decide)) hl rfl (Nat.le_of_ble_eq_true rfl) dX10_number_86 (fun r_2 hr_3 => ?_)
        subst hr_3
        refine r_beq 96 C dX10_number_89 rfl (fun h_4 => ?_) (fun h_4 => ?_)
        · skip
          refine r_iconstZ C dX10_number_96 ?_
          exact ret (mAt + i) dX10_number_97 hS hP (⟨by rw [k1, if_neg (by omega)], fun q => k2 (by by_cases w : 1 ≤ i ∧ i ≤ 2; exact w; rw [k1, if_neg w] at q; omega), by omega, by omega⟩)
        refine lv_iload_n C.1 C.2.1 dX10_number_92 rfl (lv_at hl 1 rfl) ?_
        refine r_goto 97 C dX10_number_93 rfl ?_
        exact ret (mAt + i) dX10_number_97 hS hP (⟨by rw [k1, if_pos (by omega), ht], fun q => k2 (by by_cases w : 1 ≤ i ∧ i ≤ 2; exact w; rw [k1, if_neg w] at q; omega), by omega, by omega⟩)
      refine lv_aload_n C.1 C.2.1 dX10_number_15 rfl (lv_at hl 2 rfl) ?_
      refine r_get C hK hP kw_X10 (ci := 8) rfl 0 1 (by decide) kf_X10_7 rfl rfl dX10_number_16 ?_
      refine lv_aload_n C.1 C.2.1 dX10_number_19 rfl (lv_at hl 2 rfl) ?_
      refine r_get C hK hP kw_X10 (ci := 8) rfl 0 2 (by decide) kf_X10_73 rfl rfl dX10_number_20 ?_
      refine r_aldB C hK hP 1 rfl ⟨by omega, by omega⟩ dX10_number_23 ?_
      refine r_top (v' := zV (sbz (mtx (mAt + i)))) (congrArg Value.int (sb_z _ (hux (mAt + i)))) ?_
      have hf_5 := sbz_f (mtx (mAt + i)) (hux (mAt + i))
      refine r_i2l C dX10_number_24 (⟨by omega, by omega⟩) ?_
      refine r_ldc2N 48 C kv_X10_76 dX10_number_25 rfl ?_
      refine r_ldc2N 57 C kv_X10_78 dX10_number_28 rfl ?_
      refine ro_callS (As := [jV (sbz (mtx (mAt + i))), mV 48, mV 57]) (rest := []) C hK (c_X10_in l g (sbz (mtx (mAt + i))) ((48 : Nat) : Int) ((57 : Nat) : Int) (by first | assumption | exact ⟨by omega, by omega⟩) (by first | assumption | exact ⟨by omega, by omega⟩) (by first | assumption | exact ⟨by omega, by omega⟩)) (hP.sub (ws' := []) [] rfl) kc_X10_in kl_X10_65 kn_X10 ks_X10_in nk_X10_in (rm_lt (by decide) (by decide)) hl rfl (Nat.le_of_ble_eq_true rfl) dX10_number_31 (fun r_6 hr_7 => ?_)
      subst hr_7
      refine r_beq 80 C dX10_number_34 rfl (fun h_8 => ?_) (fun h_8 => ?_)
      · skip
        have hnd : ¬ dg mtx mL (mAt + i) = true := fun q => by obtain ⟨q1, q2, q3, -⟩ := dg_in q; omega
        obtain ⟨k1, k2⟩ := nm_ok hd hnd
        refine lv_iload_n C.1 C.2.1 dX10_number_80 rfl (lv_at hl 0 rfl) ?_
        refine r_i2l C dX10_number_81 (rgN (by omega)) ?_
        refine r_lconst 1 C dX10_number_82 rfl ?_
        refine r_ldc2N 2 C kv_X10_80 dX10_number_83 rfl ?_
        refine ro_callS (As := [mV i, mV 1, mV 2]) (rest := []) C hK (c_X10_in l g ((i : Nat) : Int) ((1 : Nat) : Int) ((2 : Nat) : Int) (by first | assumption | exact ⟨by omega, by omega⟩) (by first | assumption | exact ⟨by omega, by omega⟩) (by first | assumption | exact ⟨by omega, by omega⟩)) (hP.sub (ws' := []) [] rfl) kc_X10_in kl_X10_65 kn_X10 ks_X10_in nk_X10_in (rm_lt (by decide) (by decide)) hl rfl (Nat.le_of_ble_eq_true rfl) dX10_number_86 (fun r_9 hr_10 => ?_)
        subst hr_10
        refine r_beq 96 C dX10_number_89 rfl (fun h_11 => ?_) (fun h_11 => ?_)
        · skip
          refine r_iconstZ C dX10_number_96 ?_
          exact ret (mAt + i) dX10_number_97 hS hP (⟨by rw [k1, if_neg (by omega)], fun q => k2 (by by_cases w : 1 ≤ i ∧ i ≤ 2; exact w; rw [k1, if_neg w] at q; omega), by omega, by omega⟩)
        refine lv_iload_n C.1 C.2.1 dX10_number_92 rfl (lv_at hl 1 rfl) ?_
        refine r_goto 97 C dX10_number_93 rfl ?_
        exact ret (mAt + i) dX10_number_97 hS hP (⟨by rw [k1, if_pos (by omega), ht], fun q => k2 (by by_cases w : 1 ≤ i ∧ i ≤ 2; exact w; rw [k1, if_neg w] at q; omega), by omega, by omega⟩)
      refine lv_iload_n C.1 C.2.1 dX10_number_37 rfl (lv_at hl 0 rfl) ?_
      refine r_iconst 2 C dX10_number_38 rfl ?_
      refine r_cge 62 C dX10_number_39 rfl ⟨rgN (by omega), rgN (by decide)⟩ (fun h_12 => ?_) (fun h_12 => ?_)
      · skip
        refine lv_iload_n C.1 C.2.1 dX10_number_62 rfl (lv_at hl 1 rfl) ?_
        refine lv_istore_n (lv' := [(1, nV t), (2, nV i), (0, .ref mo0)]) C.1 C.2.1 dX10_number_63 rfl hl (by decide) rfl (fun ls hl => ?_)
        refine r_incN (k := 1) (n := 1) [(2, nV (i + 1)), (1, nV t), (0, .ref mo0)] C dX10_number_64 hl rfl rfl (by decide) rfl (fun ls hl => ?_)
        refine lv_aload_n C.1 C.2.1 dX10_number_67 rfl (lv_at hl 2 rfl) ?_
        refine lv_dup C.1 C.2.1 dX10_number_68 rfl ?_
        refine r_get C hK hP kw_X10 (ci := 8) rfl 0 2 (by decide) kf_X10_73 rfl rfl dX10_number_69 ?_
        refine r_iconst 1 C dX10_number_72 rfl ?_
        refine r_addN C dX10_number_73 ?_
        refine r_put (v := nV ((mAt + i) + 1)) C hK hP hD hS kw_X10 tyX10_ok nmX10 (ci := 8) rfl 0 2 (by decide) kf_X10_73 rfl rfl rfl rfl rfl (Nat.le_of_ble_eq_true rfl) dX10_number_74 (fun H locs hP hD hS => ?_)
        have hP : va_P g.1 vwCl [(mo0, .inr (8, [nV mL, .ref mA1, nV ((mAt + i) + 1), .ref mA3, .ref mA4, .ref mA5, .ref mA6, .ref mA7, .ref mA8, .ref mA9, .ref mA10, .ref mA11, .ref mA12, nV kz, nV dn, .ref mA15, .ref mA16, .ref mA17, mV mAb, mV mBe, .ref mA20, zV mCl])), (mA1, cB g 300 mtx)] H := hP
        have hD : va_D A [(mo0, .inr (8, [nV mL, .ref mA1, nV ((mAt + i) + 1), .ref mA3, .ref mA4, .ref mA5, .ref mA6, .ref mA7, .ref mA8, .ref mA9, .ref mA10, .ref mA11, .ref mA12, nV kz, nV dn, .ref mA15, .ref mA16, .ref mA17, mV mAb, mV mBe, .ref mA20, zV mCl])), (mA1, cB g 300 mtx)] := hD
        refine r_goto 4 C dX10_number_77 rfl ?_
        exact ih_4 (i + 1) t _ _ _ (Or.inr (by omega)) (fun j hj => by by_cases q : j = i; (rw [q]; exact decide_eq_true (show 48 ≤ chr mtx mL (mAt + i) ∧ chr mtx mL (mAt + i) ≤ 57 by rw [chr_lt (by omega)]; omega)); exact hd j (by omega)) (by obtain ⟨i2, rfl⟩ : ∃ i2, i = i2 + 2 := ⟨i - 2, by omega⟩; exact ht) (by omega) hP hD hS (lv_sub hl [0, 1, 2] rfl)
      refine r_bipush 10 C dX10_number_42 (by decide) ?_
      refine lv_iload_n C.1 C.2.1 dX10_number_44 rfl (lv_at hl 1 rfl) ?_
      refine r_mulN C dX10_number_45 ?_
      refine lv_aload_n C.1 C.2.1 dX10_number_46 rfl (lv_at hl 2 rfl) ?_
      refine r_get C hK hP kw_X10 (ci := 8) rfl 0 1 (by decide) kf_X10_7 rfl rfl dX10_number_47 ?_
      refine lv_aload_n C.1 C.2.1 dX10_number_50 rfl (lv_at hl 2 rfl) ?_
      refine r_get C hK hP kw_X10 (ci := 8) rfl 0 2 (by decide) kf_X10_73 rfl rfl dX10_number_51 ?_
      refine r_aldB C hK hP 1 rfl ⟨by omega, by omega⟩ dX10_number_54 ?_
      refine r_top (v' := zV (sbz (mtx (mAt + i)))) (congrArg Value.int (sb_z _ (hux (mAt + i)))) ?_
      have hf_13 := sbz_f (mtx (mAt + i)) (hux (mAt + i))
      refine r_addZ C dX10_number_55 ?_
      refine r_bipush 48 C dX10_number_56 (by decide) ?_
      refine r_subZ C dX10_number_58 ?_
      refine r_topN (nv mtx mAt (i + 1)) (by (have h2 : i = 0 ∨ i = 1 := by omega); rcases h2 with rfl | rfl; (have e0 : t = 0 := ht; rw [Nat.add_zero] at *; show _ = ((mtx mAt - 48 : Nat) : Int); omega); (have e1 : t = mtx mAt - 48 := ht; have hd0 := dg_in (hd 0 (by decide)); rw [Nat.add_zero] at hd0; show _ = ((10 * (mtx mAt - 48) + mtx (mAt + 1) - 48 : Nat) : Int); omega)) ?_
      refine r_goto 63 C dX10_number_59 rfl ?_
      refine lv_istore_n (lv' := [(1, nV (nv mtx mAt (i + 1))), (2, nV i), (0, .ref mo0)]) C.1 C.2.1 dX10_number_63 rfl hl (by decide) rfl (fun ls hl => ?_)
      refine r_incN (k := 1) (n := 1) [(2, nV (i + 1)), (1, nV (nv mtx mAt (i + 1))), (0, .ref mo0)] C dX10_number_64 hl rfl rfl (by decide) rfl (fun ls hl => ?_)
      refine lv_aload_n C.1 C.2.1 dX10_number_67 rfl (lv_at hl 2 rfl) ?_
      refine lv_dup C.1 C.2.1 dX10_number_68 rfl ?_
      refine r_get C hK hP kw_X10 (ci := 8) rfl 0 2 (by decide) kf_X10_73 rfl rfl dX10_number_69 ?_
      refine r_iconst 1 C dX10_number_72 rfl ?_
      refine r_addN C dX10_number_73 ?_
      refine r_put (v := nV ((mAt + i) + 1)) C hK hP hD hS kw_X10 tyX10_ok nmX10 (ci := 8) rfl 0 2 (by decide) kf_X10_73 rfl rfl rfl rfl rfl (Nat.le_of_ble_eq_true rfl) dX10_number_74 (fun H locs hP hD hS => ?_)
      have hP : va_P g.1 vwCl [(mo0, .inr (8, [nV mL, .ref mA1, nV ((mAt + i) + 1), .ref mA3, .ref mA4, .ref mA5, .ref mA6, .ref mA7, .ref mA8, .ref mA9, .ref mA10, .ref mA11, .ref mA12, nV kz, nV dn, .ref mA15, .ref mA16, .ref mA17, mV mAb, mV mBe, .ref mA20, zV mCl])), (mA1, cB g 300 mtx)] H := hP
      have hD : va_D A [(mo0, .inr (8, [nV mL, .ref mA1, nV ((mAt + i) + 1), .ref mA3, .ref mA4, .ref mA5, .ref mA6, .ref mA7, .ref mA8, .ref mA9, .ref mA10, .ref mA11, .ref mA12, nV kz, nV dn, .ref mA15, .ref mA16, .ref mA17, mV mAb, mV mBe, .ref mA20, zV mCl])), (mA1, cB g 300 mtx)] := hD
      refine r_goto 4 C dX10_number_77 rfl ?_
      exact ih_4 (i + 1) (nv mtx mAt (i + 1)) _ _ _ (Or.inr (by omega)) (fun j hj => by by_cases q : j = i; (rw [q]; exact decide_eq_true (show 48 ≤ chr mtx mL (mAt + i) ∧ chr mtx mL (mAt + i) ≤ 57 by rw [chr_lt (by omega)]; omega)); exact hd j (by omega)) (rfl) (by omega) hP hD hS (lv_sub hl [0, 1, 2] rfl)
  exact L4 (mL - (mAt + 0) + 1) 0 0 _ _ _ (by first | assumption | omega) (fun j hj => by omega) (rfl) (Nat.lt_succ_self _) hP hD hS (lv_sub hl [0, 1, 2] rfl)
set_option maxHeartbeats 4000000 in
set_option maxRecDepth 100000 in
theorem c_X10_parts (l : Launch) (g : GG) (x : Int) (hx : rg x) : ROi g l yX10_parts cX10_parts 1 (some .int) 1 [] [zV x] (fun r => r = iI ((prt x : Nat) : Int)) := by
  refine ro_startI (by decide +kernel) (Nat.le_of_ble_eq_true rfl) ?_
  intro p e s m args below meth c Q ls C hK hP ret hl
  have C : CT p s m args meth c cX10_parts RX10 1 := C
  have hl : lv_has ls 1 [(0, zV x)] := hl
  refine lv_iload_n C.1 C.2.1 dX10_parts_0 rfl (lv_at hl 0 rfl) ?_
  refine r_bipush 119 C dX10_parts_1 (by decide) ?_
  refine r_cne 10 C dX10_parts_3 rfl ⟨⟨by omega, by omega⟩, rgN (by decide)⟩ (fun h_1 => ?_) (fun h_1 => ?_)
  · skip
    refine lv_iload_n C.1 C.2.1 dX10_parts_10 rfl (lv_at hl 0 rfl) ?_
    refine r_bipush 98 C dX10_parts_11 (by decide) ?_
    refine r_ceq 22 C dX10_parts_13 rfl ⟨⟨by omega, by omega⟩, rgN (by decide)⟩ (fun h_2 => ?_) (fun h_2 => ?_)
    · skip
      refine r_iconst 2 C dX10_parts_22 rfl ?_
      refine r_goto 37 C dX10_parts_23 rfl ?_
      exact ret dX10_parts_37 (iI_cast (by unfold prt; rw [if_neg (by omega), if_pos (by omega)] <;> rfl))
    refine lv_iload_n C.1 C.2.1 dX10_parts_16 rfl (lv_at hl 0 rfl) ?_
    refine r_bipush 99 C dX10_parts_17 (by decide) ?_
    refine r_cne 26 C dX10_parts_19 rfl ⟨⟨by omega, by omega⟩, rgN (by decide)⟩ (fun h_3 => ?_) (fun h_3 => ?_)
    · skip
      refine lv_iload_n C.1 C.2.1 dX10_parts_26 rfl (lv_at hl 0 rfl) ?_
      refine r_bipush 107 C dX10_parts_27 (by decide) ?_
      refine r_cne 36 C dX10_parts_29 rfl ⟨⟨by omega, by omega⟩, rgN (by decide)⟩ (fun h_4 => ?_) (fun h_4 => ?_)
      · skip
        refine r_iconst 0 C dX10_parts_36 rfl ?_
        exact ret dX10_parts_37 (iI_cast (by unfold prt; rw [if_neg (by omega), if_neg (by omega), if_neg (by omega)] <;> rfl))
      refine r_iconst 1 C dX10_parts_32 rfl ?_
      refine r_goto 37 C dX10_parts_33 rfl ?_
      exact ret dX10_parts_37 (iI_cast (by unfold prt; rw [if_neg (by omega), if_neg (by omega), if_pos (by omega)] <;> rfl))
    refine r_iconst 2 C dX10_parts_22 rfl ?_
    refine r_goto 37 C dX10_parts_23 rfl ?_
    exact ret dX10_parts_37 (iI_cast (by unfold prt; rw [if_neg (by omega), if_pos (by omega)] <;> rfl))
  refine r_iconst 4 C dX10_parts_6 rfl ?_
  refine r_goto 37 C dX10_parts_7 rfl ?_
  exact ret dX10_parts_37 (iI_cast (by unfold prt; rw [if_pos (by omega)] <;> rfl))
set_option maxHeartbeats 4000000 in
set_option maxRecDepth 100000 in
theorem c_X10_isIn (l : Launch) (g : GG) (mo0 : Nat) (mA1 : Nat) (mA3 : Nat) (mA4 : Nat) (mA5 : Nat) (mA6 : Nat) (mA7 : Nat) (mA8 : Nat) (mA9 : Nat) (mA10 : Nat) (mA11 : Nat) (mA12 : Nat) (mA15 : Nat) (mA16 : Nat) (mA17 : Nat) (mA20 : Nat) (mL : Nat) (mAt : Nat) (kz : Nat) (dn : Nat) (mAb : Nat) (mBe : Nat) (mCl : Int) (mgt : Nat → Int) (kk : Nat) (lo : Nat) (hi : Nat) (gx : Nat) (hkk : kk < 4) (hlo : lo < 100) (hhi : hi < 100) (hgb : gx < 100) (hgx : mgt kk = (gx : Int)) : ROi g l yX10_isIn cX10_isIn 4 (some .boolean) 2 [(mo0, .inr (8, [nV mL, .ref mA1, nV mAt, .ref mA3, .ref mA4, .ref mA5, .ref mA6, .ref mA7, .ref mA8, .ref mA9, .ref mA10, .ref mA11, .ref mA12, nV kz, nV dn, .ref mA15, .ref mA16, .ref mA17, mV mAb, mV mBe, .ref mA20, zV mCl])), (mA20, cZ g 4 mgt)] [.ref mo0, nV kk, nV lo, nV hi] (fun r => r = bI (lo ≤ gx ∧ gx ≤ hi)) := by
  refine ro_startZ (by decide +kernel) (Nat.le_of_ble_eq_true rfl) ?_
  intro p e s m args below meth c Q ls C hK hP ret hl
  have C : CT p s m args meth c cX10_isIn RX10 4 := C
  have hl : lv_has ls 4 [(0, .ref mo0), (1, nV kk), (2, nV lo), (3, nV hi)] := hl
  refine lv_aload_n C.1 C.2.1 dX10_isIn_0 rfl (lv_at hl 0 rfl) ?_
  refine r_get C hK hP kw_X10 (ci := 8) rfl 0 20 (by decide) kf_X10_54 rfl rfl dX10_isIn_1 ?_
  refine lv_iload_n C.1 C.2.1 dX10_isIn_4 rfl (lv_at hl 1 rfl) ?_
  refine r_aldZ C hK hP 1 rfl ⟨by omega, by omega⟩ dX10_isIn_5 ?_
  refine r_top (v' := nV gx) (congrArg Value.int (congrArg iI hgx)) ?_
  refine r_i2l C dX10_isIn_6 (rgN (by omega)) ?_
  refine lv_iload_n C.1 C.2.1 dX10_isIn_7 rfl (lv_at hl 2 rfl) ?_
  refine r_i2l C dX10_isIn_8 (rgN (by omega)) ?_
  refine lv_iload_n C.1 C.2.1 dX10_isIn_9 rfl (lv_at hl 3 rfl) ?_
  refine r_i2l C dX10_isIn_10 (rgN (by omega)) ?_
  refine ro_callS (As := [mV gx, mV lo, mV hi]) (rest := []) C hK (c_X10_in l g ((gx : Nat) : Int) ((lo : Nat) : Int) ((hi : Nat) : Int) (by first | assumption | exact ⟨by omega, by omega⟩) (by first | assumption | exact ⟨by omega, by omega⟩) (by first | assumption | exact ⟨by omega, by omega⟩)) (hP.sub (ws' := []) [] rfl) kc_X10_in kl_X10_65 kn_X10 ks_X10_in nk_X10_in (rm_lt (by decide) (by decide)) hl rfl (Nat.le_of_ble_eq_true rfl) dX10_isIn_11 (fun r_1 hr_2 => ?_)
  subst hr_2
  exact ret dX10_isIn_14 bI_nar (bI_congr (by omega))
